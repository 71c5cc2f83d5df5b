/-! ===== the tape read: names, tokens ===== -/
def chN (w i : Nat) : Nat := (gsch w i).toNatClampNeg
theorem gch_ok : ∀ w, w < 7 → gslen w ≤ 6 ∧ ∀ i, i < gslen w → gsch w i = nI (chN w i) ∧ chN w i < 256 := by decide +kernel
theorem gen_ok : ∀ w, w < 7 → gI0 113 (w + 1) - gI0 113 w = nI (gslen w) ∧ ∀ i, i < gslen w → gib (gI0 113 w + nI i) 31 = true ∧ gI0 114 (gI0 113 w + nI i).toNatClampNeg = gsch w i := by decide +kernel
/-- the reference's own words -/
def hyK (M : gN) : Prop := M 113 = gI0 113 ∧ M 114 = gI0 114 ∧ M 115 = gI0 115
section NM
variable {ts : Nat} {by_ : Nat → Nat}
/-- a word stands from s to a -/
def sameW (by_ : Nat → Nat) (s a w : Nat) : Prop := a - s = gslen w ∧ ∀ i, i < gslen w → by_ (s + i) = chN w i
theorem cl_sp1 {N : gN} {L : Nat → Nat → Int64} {s a w : Nat} {pl tk vl : Int32} (hts : ts ≤ 160) (hby : ∀ i, by_ i < 256) (hC : hyC ts by_ N) (hw : w < 7) (hsa : s ≤ a) (ha : a ≤ ts) (hS : sameW by_ s a w) : ∀ (r i F : Nat), i + r = gslen w → r < F → L_Tape_isSpelt_20 34 w (tS N 0 pl (nI a) tk (nI s) vl, L) F (nI i) = some (1, (tS N 0 pl (nI a) tk (nI s) vl, L)) := by
  obtain ⟨g6, gc⟩ := gch_ok w hw
  have hl := hS.1
  have eL : Int32.ofNat (gslen w) = nI (gslen w) := rfl
  intro r
  induction r with
  | zero =>
    intro i F hi hF
    obtain ⟨F, rfl⟩ : ∃ F', F = F' + 1 := ⟨F - 1, by omega⟩
    have e : i = gslen w := by omega
    subst e
    rw [L_Tape_isSpelt_20_s]
    simp (disch := omega) only [gfd_eq, glet_eq, gbind_eq, nI_ltI, nI_1, gok_nI, grd_nI, nI_clamp, if_true, if_false, Nat.lt_irrefl, eL, i10, gokT]
  | succ r ih =>
    intro i F hi hF
    obtain ⟨F, rfl⟩ : ∃ F', F = F' + 1 := ⟨F - 1, by omega⟩
    have hlt : i < gslen w := by omega
    have eb : tS N 0 pl (nI a) tk (nI s) vl 35 (s + i) = nI (by_ (s + i)) := (congrFun (tS_ne (by decide)) _).trans (congrFun hC.2 _)
    have ec := (gc i hlt).1
    have eq := hS.2 i hlt
    rw [eq] at eb
    rw [L_Tape_isSpelt_20_s]
    simp (disch := omega) only [gfd_eq, glet_eq, gbind_eq, nI_ltI, nI_1, gok_nI, grd_nI, nI_clamp, if_true, if_false, Nat.lt_irrefl, eL, hlt, tS_r7, nI_add, eb, ec, Nat.reduceAdd, i10, gokT]
    exact ih (i + 1) F (by omega) (by omega)
theorem cl_sp0 {N : gN} {L : Nat → Nat → Int64} {s a w b : Nat} {pl tk vl : Int32} (hts : ts ≤ 160) (hby : ∀ i, by_ i < 256) (hC : hyC ts by_ N) (hw : w < 7) (hsa : s ≤ a) (ha : a ≤ ts) (hl : a - s = gslen w) (hb : b < gslen w) (hne : by_ (s + b) ≠ chN w b) : ∀ (r i F : Nat), i + r = gslen w → i ≤ b → r < F → L_Tape_isSpelt_20 34 w (tS N 0 pl (nI a) tk (nI s) vl, L) F (nI i) = some (0, (tS N 0 pl (nI a) tk (nI s) vl, L)) := by
  obtain ⟨g6, gc⟩ := gch_ok w hw
  have eL : Int32.ofNat (gslen w) = nI (gslen w) := rfl
  intro r
  induction r with
  | zero => intro i F hi h1; omega
  | succ r ih =>
    intro i F hi h1 hF
    obtain ⟨F, rfl⟩ : ∃ F', F = F' + 1 := ⟨F - 1, by omega⟩
    have hlt : i < gslen w := by omega
    have eb : tS N 0 pl (nI a) tk (nI s) vl 35 (s + i) = nI (by_ (s + i)) := (congrFun (tS_ne (by decide)) _).trans (congrFun hC.2 _)
    obtain ⟨ec, ec2⟩ := gc i hlt
    have el := eq_lit (hby (s + i)) ec2
    rw [L_Tape_isSpelt_20_s]
    by_cases e : by_ (s + i) = chN w i
    · have hne2 : i ≠ b := fun z => hne (by rw [← z]; exact e)
      simp (disch := omega) only [gfd_eq, glet_eq, gbind_eq, nI_ltI, nI_1, gok_nI, grd_nI, nI_clamp, if_true, if_false, Nat.lt_irrefl, eL, hlt, tS_r7, nI_add, eb, ec, el, e, Nat.reduceAdd, i10, gokT]
      exact ih (i + 1) F (by omega) (by omega) (by omega)
    · simp (disch := omega) only [gfd_eq, glet_eq, gbind_eq, nI_ltI, nI_1, gok_nI, grd_nI, nI_clamp, if_true, if_false, Nat.lt_irrefl, eL, hlt, tS_r7, nI_add, eb, ec, el, e, Nat.reduceAdd, i10, gokT]
theorem same_no {s a w : Nat} (h : ¬ sameW by_ s a w) (hl : a - s = gslen w) : ∃ b, b < gslen w ∧ by_ (s + b) ≠ chN w b := by
  have h2 : ¬ ∀ i, i < gslen w → by_ (s + i) = chN w i := fun z => h ⟨hl, z⟩
  obtain ⟨b, hb⟩ := Classical.not_forall.mp h2
  obtain ⟨h3, h4⟩ := Classical.not_imp.mp hb
  exact ⟨b, h3, h4⟩
theorem cl_spelt1 {N : gN} {L : Nat → Nat → Int64} {s a w : Nat} {pl tk vl : Int32} (hts : ts ≤ 160) (hby : ∀ i, by_ i < 256) (hC : hyC ts by_ N) (hw : w < 7) (hsa : s ≤ a) (ha : a ≤ ts) (hS : sameW by_ s a w) : f_Tape_isSpelt 34 w (tS N 0 pl (nI a) tk (nI s) vl, L) = some (1, (tS N 0 pl (nI a) tk (nI s) vl, L)) := by
  have g6 := (gch_ok w hw).1
  have eL : Int32.ofNat (gslen w) = nI (gslen w) := rfl
  have hl := hS.1
  unfold f_Tape_isSpelt
  simp (disch := omega) only [gfd_eq, glet_eq, gbind_eq, nI_ltI, nI_1, gok_nI, grd_nI, nI_clamp, if_true, if_false, Nat.lt_irrefl, tS_r5, tS_r7, pk_sub, hl, eL, i10, gokT]
  exact cl_sp1 hts hby hC hw hsa ha hS (gslen w) 0 1000 (by omega) (by omega)
theorem cl_spelt0 {N : gN} {L : Nat → Nat → Int64} {s a w : Nat} {pl tk vl : Int32} (hts : ts ≤ 160) (hby : ∀ i, by_ i < 256) (hC : hyC ts by_ N) (hw : w < 7) (hsa : s ≤ a) (ha : a ≤ ts) (hS : ¬ sameW by_ s a w) : f_Tape_isSpelt 34 w (tS N 0 pl (nI a) tk (nI s) vl, L) = some (0, (tS N 0 pl (nI a) tk (nI s) vl, L)) := by
  have g6 := (gch_ok w hw).1
  have eL : Int32.ofNat (gslen w) = nI (gslen w) := rfl
  have el := eq_lit (b := a - s) (k := gslen w) (by omega) (by omega)
  unfold f_Tape_isSpelt
  by_cases hl : a - s = gslen w
  · obtain ⟨b, hb, hne⟩ := same_no hS hl
    simp (disch := omega) only [gfd_eq, glet_eq, gbind_eq, nI_ltI, nI_1, gok_nI, grd_nI, nI_clamp, if_true, if_false, Nat.lt_irrefl, tS_r5, tS_r7, pk_sub, hl, eL, i10, gokT]
    exact cl_sp0 hts hby hC hw hsa ha hl hb hne (gslen w) 0 1000 (by omega) (by omega) (by omega)
  · simp (disch := omega) only [gfd_eq, glet_eq, gbind_eq, nI_ltI, nI_1, gok_nI, grd_nI, nI_clamp, if_true, if_false, Nat.lt_irrefl, tS_r5, tS_r7, pk_sub, el, hl, eL, i10, gokT]
theorem mo_sp1 {M : gN} {L : Nat → Nat → Int64} {s a w : Nat} {wr wa pl a_ tk vl : Int32} (K : Int32 → Int32 → gM → Option (Int32 × gM)) (hts : ts ≤ 160) (hM : hyM ts by_ M) (hK : hyK M) (hw : w < 7) (hsa : s ≤ a) (ha : a ≤ ts) (hS : sameW by_ s a w) : ∀ (r i F : Nat), i + r = gslen w → r < F → L_MO_nameAt_39 (nI s) (nI a) (nI w) K F 1 (nI i) (rS M wr wa a_ pl tk vl, L) = K 1 (nI (gslen w)) (rS M wr wa a_ pl tk vl, L) := by
  obtain ⟨g6, gc⟩ := gch_ok w hw
  obtain ⟨-, ge⟩ := gen_ok w hw
  have hl := hS.1
  intro r
  induction r with
  | zero =>
    intro i F hi hF
    obtain ⟨F, rfl⟩ : ∃ F', F = F' + 1 := ⟨F - 1, by omega⟩
    have e : i = gslen w := by omega
    subst e
    rw [L_MO_nameAt_39_s]
    simp (disch := omega) only [gfd_eq, glet_eq, gbind_eq, nI_ltI, nI_1, gok_nI, grd_nI, nI_clamp, if_true, if_false, Nat.lt_irrefl, pk_sub, hl, i10, gokT]
  | succ r ih =>
    intro i F hi hF
    obtain ⟨F, rfl⟩ : ∃ F', F = F' + 1 := ⟨F - 1, by omega⟩
    have hlt : i < gslen w := by omega
    have b := rS_byte hts (L := L) hM wr wa a_ pl tk vl (a := s + i) (by omega)
    rw [if_pos (by omega), hS.2 i hlt, ← (gc i hlt).1] at b
    obtain ⟨g1, g2⟩ := ge i hlt
    have e113 : rS M wr wa a_ pl tk vl 113 w = gI0 113 w := (congrFun (rS_ne (by decide)) w).trans (congrFun hK.1 w)
    have e114 : grd (rS M wr wa a_ pl tk vl, L) 114 (gI0 113 w + nI i) = gsch w i := ((congrFun (show rS M wr wa a_ pl tk vl 114 = M 114 from rS_ne (by decide)) _).trans (congrFun hK.2.1 _)).trans g2
    rw [L_MO_nameAt_39_s]
    unfold J_MO_nameAt_82
    simp (disch := omega) only [gfd_eq, glet_eq, gbind_eq, nI_ltI, nI_1, gok_nI, grd_nI, nI_clamp, if_true, if_false, Nat.lt_irrefl, pk_sub, hl, hlt, nI_add, b, e113, g1, e114, i10, gokT]
    exact ih (i + 1) F (by omega) (by omega)
theorem mo_sp0 {M : gN} {L : Nat → Nat → Int64} {s a w b : Nat} {wr wa pl a_ tk vl : Int32} (K : Int32 → Int32 → gM → Option (Int32 × gM)) (hts : ts ≤ 160) (hby : ∀ i, by_ i < 256) (hM : hyM ts by_ M) (hK : hyK M) (hw : w < 7) (hsa : s ≤ a) (ha : a ≤ ts) (hl : a - s = gslen w) (hb : b < gslen w) (hne : by_ (s + b) ≠ chN w b) : ∀ (r i F : Nat), i + r = gslen w → i ≤ b → r + 1 < F → ∃ j : Int32, L_MO_nameAt_39 (nI s) (nI a) (nI w) K F 1 (nI i) (rS M wr wa a_ pl tk vl, L) = K 0 j (rS M wr wa a_ pl tk vl, L) := by
  obtain ⟨g6, gc⟩ := gch_ok w hw
  obtain ⟨-, ge⟩ := gen_ok w hw
  intro r
  induction r with
  | zero => intro i F hi h1; omega
  | succ r ih =>
    intro i F hi h1 hF
    obtain ⟨F, rfl⟩ : ∃ F', F = F' + 1 + 1 := ⟨F - 2, by omega⟩
    have hlt : i < gslen w := by omega
    have bb := rS_byte hts (L := L) hM wr wa a_ pl tk vl (a := s + i) (by omega)
    obtain ⟨ec, ec2⟩ := gc i hlt
    rw [if_pos (by omega)] at bb
    obtain ⟨g1, g2⟩ := ge i hlt
    have e113 : rS M wr wa a_ pl tk vl 113 w = gI0 113 w := (congrFun (rS_ne (by decide)) w).trans (congrFun hK.1 w)
    have e114 : grd (rS M wr wa a_ pl tk vl, L) 114 (gI0 113 w + nI i) = nI (chN w i) := ((congrFun (show rS M wr wa a_ pl tk vl 114 = M 114 from rS_ne (by decide)) _).trans (congrFun hK.2.1 _)).trans (g2.trans ec)
    have el := eq_lit (hby (s + i)) ec2
    rw [L_MO_nameAt_39_s]
    unfold J_MO_nameAt_82
    by_cases e : by_ (s + i) = chN w i
    · have hne2 : i ≠ b := fun z => hne (by rw [← z]; exact e)
      simp (disch := omega) only [gfd_eq, glet_eq, gbind_eq, nI_ltI, nI_1, gok_nI, grd_nI, nI_clamp, if_true, if_false, Nat.lt_irrefl, pk_sub, hl, hlt, nI_add, bb, e113, g1, e114, el, e, i10, gokT]
      exact ih (i + 1) (F + 1) (by omega) (by omega) (by omega)
    · refine ⟨nI (i + 1), ?_⟩
      simp (disch := omega) only [gfd_eq, glet_eq, gbind_eq, nI_ltI, nI_1, gok_nI, grd_nI, nI_clamp, if_true, if_false, Nat.lt_irrefl, pk_sub, hl, hlt, nI_add, bb, e113, g1, e114, el, e, i10, gokT]
      rw [L_MO_nameAt_39_s]
      by_cases z : i + 1 < gslen w
      · simp (disch := omega) only [gfd_eq, glet_eq, gbind_eq, nI_ltI, nI_1, gok_nI, grd_nI, nI_clamp, if_true, if_false, Nat.lt_irrefl, pk_sub, hl, z, i10, gokT]
      · simp (disch := omega) only [gfd_eq, glet_eq, gbind_eq, nI_ltI, nI_1, gok_nI, grd_nI, nI_clamp, if_true, if_false, Nat.lt_irrefl, pk_sub, hl, z, i10, gokT]
theorem mo_name1 {M : gN} {L : Nat → Nat → Int64} {s a w F : Nat} {wr wa pl a_ tk vl : Int32} (hts : ts ≤ 160) (hM : hyM ts by_ M) (hK : hyK M) (hw : w < 7) (hsa : s ≤ a) (ha : a ≤ ts) (hS : sameW by_ s a w) : L_MO_nameAt_2 (nI s) (nI a) (F + 1) (nI w) (rS M wr wa a_ pl tk vl, L) = some (nI w, (rS M wr wa a_ pl tk vl, L)) := by
  obtain ⟨g6, gc⟩ := gch_ok w hw
  have ge := (gen_ok w hw).1
  have hl := hS.1
  have e113 : ∀ j, rS M wr wa a_ pl tk vl 113 j = gI0 113 j := fun j => (congrFun (rS_ne (by decide)) j).trans (congrFun hK.1 j)
  have r := mo_sp1 (L := L) (wr := wr) (wa := wa) (pl := pl) (a_ := a_) (tk := tk) (vl := vl) (fun v6 v7 m4 => J_MO_nameAt_90 (L_MO_nameAt_2 (nI s) (nI a) F) (nI w) v6 m4) hts hM hK hw hsa ha hS (gslen w) 0 1000 (by omega) (by omega)
  have r : L_MO_nameAt_39 (nI s) (nI a) (nI w) (fun v6 v7 m4 => J_MO_nameAt_90 (L_MO_nameAt_2 (nI s) (nI a) F) (nI w) v6 m4) 1000 1 0 (rS M wr wa a_ pl tk vl, L) = J_MO_nameAt_90 (L_MO_nameAt_2 (nI s) (nI a) F) (nI w) 1 (rS M wr wa a_ pl tk vl, L) := r
  rw [L_MO_nameAt_2_s]
  unfold J_MO_nameAt_34
  simp (disch := omega) only [gfd_eq, glet_eq, gbind_eq, nI_ltI, nI_1, gok_nI, grd_nI, nI_clamp, if_true, if_false, Nat.lt_irrefl, show (7 : Int32) = nI 7 from rfl, hw, e113, ge, pk_sub, hl, r, i10, gokT]
  unfold J_MO_nameAt_90
  simp (disch := omega) only [gfd_eq, glet_eq, gbind_eq, nI_ltI, nI_1, gok_nI, grd_nI, nI_clamp, if_true, if_false, Nat.lt_irrefl, i10, gokT]
theorem mo_name0 {M : gN} {L : Nat → Nat → Int64} {s a w F : Nat} {wr wa pl a_ tk vl : Int32} (hts : ts ≤ 160) (hby : ∀ i, by_ i < 256) (hM : hyM ts by_ M) (hK : hyK M) (hw : w < 7) (hsa : s ≤ a) (ha : a ≤ ts) (hS : ¬ sameW by_ s a w) : L_MO_nameAt_2 (nI s) (nI a) (F + 1) (nI w) (rS M wr wa a_ pl tk vl, L) = L_MO_nameAt_2 (nI s) (nI a) F (nI (w + 1)) (rS M wr wa a_ pl tk vl, L) := by
  obtain ⟨g6, gc⟩ := gch_ok w hw
  have ge := (gen_ok w hw).1
  have e113 : ∀ j, rS M wr wa a_ pl tk vl 113 j = gI0 113 j := fun j => (congrFun (rS_ne (by decide)) j).trans (congrFun hK.1 j)
  have el := eq_lit (b := a - s) (k := gslen w) (by omega) (by omega)
  have z0 : (0 : Int32) = 0 := rfl
  rw [L_MO_nameAt_2_s]
  unfold J_MO_nameAt_34
  by_cases hl : a - s = gslen w
  · obtain ⟨b, hb, hne⟩ := same_no hS hl
    obtain ⟨j, r⟩ := mo_sp0 (L := L) (wr := wr) (wa := wa) (pl := pl) (a_ := a_) (tk := tk) (vl := vl) (fun v6 v7 m4 => J_MO_nameAt_90 (L_MO_nameAt_2 (nI s) (nI a) F) (nI w) v6 m4) hts hby hM hK hw hsa ha hl hb hne (gslen w) 0 1000 (by omega) (by omega) (by omega)
    have r : L_MO_nameAt_39 (nI s) (nI a) (nI w) (fun v6 v7 m4 => J_MO_nameAt_90 (L_MO_nameAt_2 (nI s) (nI a) F) (nI w) v6 m4) 1000 1 0 (rS M wr wa a_ pl tk vl, L) = J_MO_nameAt_90 (L_MO_nameAt_2 (nI s) (nI a) F) (nI w) 0 (rS M wr wa a_ pl tk vl, L) := r
    simp (disch := omega) only [gfd_eq, glet_eq, gbind_eq, nI_ltI, nI_1, gok_nI, grd_nI, nI_clamp, if_true, if_false, Nat.lt_irrefl, show (7 : Int32) = nI 7 from rfl, hw, e113, ge, pk_sub, hl, r, i10, gokT]
    unfold J_MO_nameAt_90
    simp (disch := omega) only [gfd_eq, glet_eq, gbind_eq, nI_ltI, nI_1, gok_nI, grd_nI, nI_clamp, if_true, if_false, Nat.lt_irrefl, i10, gokT]
  · have r : L_MO_nameAt_39 (nI s) (nI a) (nI w) (fun v6 v7 m4 => J_MO_nameAt_90 (L_MO_nameAt_2 (nI s) (nI a) F) (nI w) v6 m4) 1000 0 0 (rS M wr wa a_ pl tk vl, L) = J_MO_nameAt_90 (L_MO_nameAt_2 (nI s) (nI a) F) (nI w) 0 (rS M wr wa a_ pl tk vl, L) := by
      rw [L_MO_nameAt_39_s _ _ _ _ 999]
      by_cases z : (0 : Int32) < nI a - nI s
      · rw [if_pos z, if_pos rfl]
      · rw [if_neg z]
    simp (disch := omega) only [gfd_eq, glet_eq, gbind_eq, nI_ltI, nI_1, gok_nI, grd_nI, nI_clamp, if_true, if_false, Nat.lt_irrefl, show (7 : Int32) = nI 7 from rfl, hw, e113, ge, pk_sub, el, hl, r, i10, gokT]
    unfold J_MO_nameAt_90
    simp (disch := omega) only [gfd_eq, glet_eq, gbind_eq, nI_ltI, nI_1, gok_nI, grd_nI, nI_clamp, if_true, if_false, Nat.lt_irrefl, i10, gokT]
theorem cl_nameOf {w : Nat} (hw : w < 7) (m : gM) : f_Tape_nameOf (nI w) m = some (w, m) := by
  unfold f_Tape_nameOf
  rcases (show w = 0 ∨ w = 1 ∨ w = 2 ∨ w = 3 ∨ w = 4 ∨ w = 5 ∨ w = 6 by omega) with e | e | e | e | e | e | e <;> subst e <;> simp only [gswo] <;> repeat (first | rw [if_pos (by decide)] | rw [if_neg (by decide)])
/-- a name looked up on both sides -/
theorem find_both {s a : Nat} (hts : ts ≤ 160) (hby : ∀ i, by_ i < 256) (hsa : s ≤ a) (ha : a ≤ ts) : ∀ (r w : Nat), w + r = 7 →
    (∃ k, k < 7 ∧ (∀ (N : gN) (L : Nat → Nat → Int64) (K : Int32 → gM → Option gM) (F : Nat) (pl tk vl : Int32), hyC ts by_ N → r < F → L_Tape_readName_41 34 K F (nI w) (tS N 0 pl (nI a) tk (nI s) vl, L) = J_Tape_readName_58 34 (nI k) (tS N 0 pl (nI a) tk (nI s) vl, L)) ∧ ∀ (M : gN) (L : Nat → Nat → Int64) (F : Nat) (wr wa pl a_ tk vl : Int32), hyM ts by_ M → hyK M → r < F → L_MO_nameAt_2 (nI s) (nI a) F (nI w) (rS M wr wa a_ pl tk vl, L) = some (nI k, (rS M wr wa a_ pl tk vl, L))) ∨
    ((∀ (N : gN) (L : Nat → Nat → Int64) (K : Int32 → gM → Option gM) (F : Nat) (pl tk vl : Int32), hyC ts by_ N → r < F → L_Tape_readName_41 34 K F (nI w) (tS N 0 pl (nI a) tk (nI s) vl, L) = K (nI 7) (tS N 0 pl (nI a) tk (nI s) vl, L)) ∧ ∀ (M : gN) (L : Nat → Nat → Int64) (F : Nat) (wr wa pl a_ tk vl : Int32), hyM ts by_ M → hyK M → r < F → L_MO_nameAt_2 (nI s) (nI a) F (nI w) (rS M wr wa a_ pl tk vl, L) = some (-4, (rS M wr wa a_ pl tk vl, L))) := by
  intro r
  induction r with
  | zero =>
    intro w hw
    have e : w = 7 := by omega
    subst e
    refine Or.inr ⟨fun N L K F pl tk vl hC hF => ?_, fun M L F wr wa pl a_ tk vl hM hK hF => ?_⟩
    · obtain ⟨F, rfl⟩ : ∃ F', F = F' + 1 := ⟨F - 1, by omega⟩
      rw [L_Tape_readName_41_s, if_pos (show (6 : Int32) < nI 7 by decide)]
    · obtain ⟨F, rfl⟩ : ∃ F', F = F' + 1 := ⟨F - 1, by omega⟩
      rw [L_MO_nameAt_2_s, if_neg (show ¬ nI 7 < (7 : Int32) by decide)]
  | succ r ih =>
    intro w hw
    have hw7 : w < 7 := by omega
    have n6 : ¬ (6 : Int32) < nI w := nI_nlt (a := 6) (b := w) (by omega) (by decide)
    have nf := fun m => cl_nameOf hw7 m
    by_cases hS : sameW by_ s a w
    · refine Or.inl ⟨w, hw7, fun N L K F pl tk vl hC hF => ?_, fun M L F wr wa pl a_ tk vl hM hK hF => ?_⟩
      · obtain ⟨F, rfl⟩ : ∃ F', F = F' + 1 := ⟨F - 1, by omega⟩
        have e := cl_spelt1 (L := L) (pl := pl) (tk := tk) (vl := vl) hts hby hC hw7 hsa ha hS
        rw [L_Tape_readName_41_s]
        simp (disch := omega) only [gfd_eq, glet_eq, gbind_eq, nI_ltI, nI_1, gok_nI, grd_nI, nI_clamp, if_true, if_false, Nat.lt_irrefl, n6, nf, e, i10, gokT]
      · obtain ⟨F, rfl⟩ : ∃ F', F = F' + 1 := ⟨F - 1, by omega⟩
        exact mo_name1 hts hM hK hw7 hsa ha hS
    · have stC : ∀ (N : gN) (L : Nat → Nat → Int64) (K : Int32 → gM → Option gM) (F : Nat) (pl tk vl : Int32), hyC ts by_ N → L_Tape_readName_41 34 K (F + 1) (nI w) (tS N 0 pl (nI a) tk (nI s) vl, L) = L_Tape_readName_41 34 K F (nI (w + 1)) (tS N 0 pl (nI a) tk (nI s) vl, L) := by
        intro N L K F pl tk vl hC
        have e := cl_spelt0 (L := L) (pl := pl) (tk := tk) (vl := vl) hts hby hC hw7 hsa ha hS
        rw [L_Tape_readName_41_s]
        simp (disch := omega) only [gfd_eq, glet_eq, gbind_eq, nI_ltI, nI_1, gok_nI, grd_nI, nI_clamp, if_true, if_false, Nat.lt_irrefl, n6, nf, e, i10, gokT]
      rcases ih (w + 1) (by omega) with ⟨k, hk, i1, i2⟩ | ⟨i1, i2⟩
      · refine Or.inl ⟨k, hk, fun N L K F pl tk vl hC hF => ?_, fun M L F wr wa pl a_ tk vl hM hK hF => ?_⟩
        · obtain ⟨F, rfl⟩ : ∃ F', F = F' + 1 := ⟨F - 1, by omega⟩
          rw [stC N L K F pl tk vl hC]
          exact i1 N L K F pl tk vl hC (by omega)
        · obtain ⟨F, rfl⟩ : ∃ F', F = F' + 1 := ⟨F - 1, by omega⟩
          rw [mo_name0 hts hby hM hK hw7 hsa ha hS]
          exact i2 M L F wr wa pl a_ tk vl hM hK (by omega)
      · refine Or.inr ⟨fun N L K F pl tk vl hC hF => ?_, fun M L F wr wa pl a_ tk vl hM hK hF => ?_⟩
        · obtain ⟨F, rfl⟩ : ∃ F', F = F' + 1 := ⟨F - 1, by omega⟩
          rw [stC N L K F pl tk vl hC]
          exact i1 N L K F pl tk vl hC (by omega)
        · obtain ⟨F, rfl⟩ : ∃ F', F = F' + 1 := ⟨F - 1, by omega⟩
          rw [mo_name0 hts hby hM hK hw7 hsa ha hS]
          exact i2 M L F wr wa pl a_ tk vl hM hK (by omega)
end NM
theorem cl_fail0 (N : gN) (L : Nat → Nat → Int64) (x pl a_ tk st vl : Int32) : f_Tape_fail 34 x (tS N 0 pl a_ tk st vl, L) = some (tS N x st a_ tk st vl, L) := by
  unfold f_Tape_fail
  show (if (0 : Int32) = 0 then _ else _) = _
  rw [if_pos rfl]
  show some (gup (gup (tS N 0 pl a_ tk st vl) 34 3 x) 34 4 (gup (tS N 0 pl a_ tk st vl) 34 3 x 34 7), L) = _
  rw [tS_u3, tS_r7, tS_u4]
theorem cl_fail1 (N : gN) (L : Nat → Nat → Int64) {f : Int32} (hf : ¬ f = 0) (x pl a_ tk st vl : Int32) : f_Tape_fail 34 x (tS N f pl a_ tk st vl, L) = some (tS N f pl a_ tk st vl, L) := by
  unfold f_Tape_fail
  show (if f = 0 then _ else _) = _
  rw [if_neg hf]
theorem mo_fails0 (M : gN) (L : Nat → Nat → Int64) (x wa a_ st tk vl : Int32) : f_MO_fails x (rS M 0 wa a_ st tk vl, L) = some (rS M x st a_ st tk vl, L) := by
  unfold f_MO_fails
  show (if (0 : Int32) = 0 then _ else _) = _
  rw [if_pos rfl]
  show some (gup (gup (rS M 0 wa a_ st tk vl) 81 39 x) 81 40 (gup (rS M 0 wa a_ st tk vl) 81 39 x 81 42), L) = _
  rw [rS_u39, rS_r42, rS_u40]
theorem mo_fails1 (M : gN) (L : Nat → Nat → Int64) {f : Int32} (hf : ¬ f = 0) (x wa a_ st tk vl : Int32) : f_MO_fails x (rS M f wa a_ st tk vl, L) = some (rS M f wa a_ st tk vl, L) := by
  unfold f_MO_fails
  show (if f = 0 then _ else _) = _
  rw [if_neg hf]
/-- the reference's words for a token -/
def rtk (tc : Nat) : Nat := if tc ≤ 6 then 1 else if tc = 7 then 2 else if tc = 8 then 3 else 0
def rvl (tc v : Nat) : Nat := if tc ≤ 6 then tc else v
/-- the next token, on both sides -/
theorem next_both {ts : Nat} {by_ : Nat → Nat} {a : Nat} (hts : ts ≤ 160) (hby : ∀ i, by_ i < 256) (ha : a ≤ ts) :
    (∃ a' s tc v, a' ≤ ts ∧ s ≤ ts ∧ tc ≤ 9 ∧ v ≤ 999 ∧ (tc ≠ 7 → v = 0) ∧ (∀ (N : gN) (L : Nat → Nat → Int64) (pl tk st vl : Int32), hyC ts by_ N → f_Tape_nextToken 34 (tS N 0 pl (nI a) tk st vl, L) = some (tS N 0 pl (nI a') (nI tc) (nI s) (nI v), L)) ∧ ∀ (M : gN) (L : Nat → Nat → Int64) (wa pl tk vl : Int32), hyM ts by_ M → hyK M → f_MO_next (rS M 0 wa (nI a) pl tk vl, L) = some (rS M 0 wa (nI a') (nI s) (nI (rtk tc)) (nI (rvl tc v)), L)) ∨
    ∃ s, s ≤ ts ∧ (∀ (N : gN) (L : Nat → Nat → Int64) (pl tk st vl : Int32), hyC ts by_ N → ∃ a' tk' vl', f_Tape_nextToken 34 (tS N 0 pl (nI a) tk st vl, L) = some (tS N 1 (nI s) a' tk' (nI s) vl', L)) ∧ ∀ (M : gN) (L : Nat → Nat → Int64) (wa pl tk vl : Int32), hyM ts by_ M → hyK M → ∃ a' tk' vl', f_MO_next (rS M 0 wa (nI a) pl tk vl, L) = some (rS M 1 (nI s) a' (nI s) tk' vl', L) := by
  obtain ⟨a1, k1, k2, k3, k4⟩ := skip_both hts hby (ts - a) a (by omega)
  have z0 : ((0 : Int32) = 0) = True := eq_true rfl
  have z1 : ((0 : Int32) < 0) = False := eq_false (by decide)
  -- the skipping done on both sides
  have nC : ∀ (N : gN) (L : Nat → Nat → Int64) (pl tk st vl : Int32), hyC ts by_ N → f_Tape_nextToken 34 (tS N 0 pl (nI a) tk st vl, L) = J_Tape_nextToken_46 34 (tS N 0 pl (nI a1) tk st vl, L) := by
    intro N L pl tk st vl hC
    unfold f_Tape_nextToken
    simp (disch := omega) only [gfd_eq, glet_eq, gbind_eq, nI_ltI, nI_1, gok_nI, grd_nI, nI_clamp, if_true, if_false, Nat.lt_irrefl, tS_r3, z0, i10, gokT]
    exact k3 N L _ 1000 pl tk st vl hC (by omega)
  have nM : ∀ (M : gN) (L : Nat → Nat → Int64) (wa pl tk vl : Int32), hyM ts by_ M → f_MO_next (rS M 0 wa (nI a) pl tk vl, L) = J_MO_next_34 (rS M 0 wa (nI a1) pl tk vl, L) := by
    intro M L wa pl tk vl hM
    unfold f_MO_next
    simp (disch := omega) only [gfd_eq, glet_eq, gbind_eq, nI_ltI, nI_1, gok_nI, grd_nI, nI_clamp, if_true, if_false, Nat.lt_irrefl, rS_r39, z1, i10, gokT]
    exact k4 M L _ 1000 0 wa pl tk vl hM (by omega)
  by_cases hend : a1 = ts
  · refine Or.inl ⟨a1, a1, 9, 0, k2, k2, by decide, by decide, fun _ => rfl, fun N L pl tk st vl hC => ?_, fun M L wa pl tk vl hM hK => ?_⟩
    · have h0 := hC.1
      have nlt : ¬ a1 < ts := by omega
      rw [nC N L pl tk st vl hC]
      unfold J_Tape_nextToken_46
      simp (disch := omega) only [gfd_eq, glet_eq, gbind_eq, nI_ltI, nI_1, gok_nI, grd_nI, nI_clamp, if_true, if_false, Nat.lt_irrefl, tS_r5, gsf_eq, tS_u7, tS_u8, tS_r0, h0, nlt, tS_u6, i10, gokT]
      rfl
    · have b := rS_byte hts (L := L) hM 0 wa (nI a1) (nI a1) tk vl (a := a1) (by omega)
      rw [if_neg (by omega)] at b
      rw [nM M L wa pl tk vl hM]
      unfold J_MO_next_34
      simp (disch := omega) only [gfd_eq, glet_eq, gbind_eq, nI_ltI, nI_1, gok_nI, grd_nI, nI_clamp, if_true, if_false, Nat.lt_irrefl, rS_r41, gsf_eq, rS_u42, b, rS_u44, rS_u43, i10, gokT]
      rfl
  have hlt : a1 < ts := by omega
  have cl1 := fun m => cl_isLetter (hby a1) m
  have cm1 : ∀ m : gM, f_MO_in (nI (by_ a1)).toInt64 (Int32.toInt64 97) (Int32.toInt64 122) m = _ := fun m => in_rng (lo := 97) (hi := 122) (hby a1) (by decide) (by decide) m
  have cl2 := fun m => cl_isFigure (hby a1) m
  have cm2 : ∀ m : gM, f_MO_in (nI (by_ a1)).toInt64 (Int32.toInt64 48) (Int32.toInt64 57) m = _ := fun m => in_rng (lo := 48) (hi := 57) (hby a1) (by decide) (by decide) m
  have e59 : (nI (by_ a1) = 59) ↔ by_ a1 = 59 := eq_lit (hby a1) (by decide)
  have n4 : ¬ nI (by_ a1) = -4 := nI_ne4 (by have := hby a1; omega)
  have eb : ∀ (N : gN) (pl tk st vl : Int32), hyC ts by_ N → tS N 0 pl (nI a1) tk st vl 35 a1 = nI (by_ a1) := fun N pl tk st vl hC => (congrFun (tS_ne (by decide)) a1).trans (congrFun hC.2 a1)
  have bm : ∀ (M : gN) (L : Nat → Nat → Int64) (wa pl tk vl : Int32), hyM ts by_ M → f_MO_byteAt (nI a1) (rS M 0 wa (nI a1) pl tk vl, L) = some (nI (by_ a1), (rS M 0 wa (nI a1) pl tk vl, L)) := fun M L wa pl tk vl hM => by
    have b := rS_byte hts (L := L) hM 0 wa (nI a1) pl tk vl (a := a1) (by omega)
    rw [if_pos hlt] at b
    exact b
  by_cases hL : 97 ≤ by_ a1 ∧ by_ a1 ≤ 122
  · rw [if_pos hL] at cl1 cm1
    obtain ⟨a2, j1, j2, j3, j4⟩ := lett_both hts hby (ts - a1) a1 (by omega)
    have rC : ∀ (N : gN) (L : Nat → Nat → Int64) (pl tk st vl : Int32), hyC ts by_ N → f_Tape_nextToken 34 (tS N 0 pl (nI a) tk st vl, L) = (L_Tape_readName_41 34 (fun v3 m5 => J_Tape_readName_70 34 v3 m5) 1000 0 (tS N 0 pl (nI a2) tk (nI a1) 0, L)).bind fun (r5 : gM) => some r5 := by
      intro N L pl tk st vl hC
      have h0 := hC.1
      have e := eb N pl tk (nI a1) 0 hC
      have j := j3 N L (fun m6 => J_Tape_readName_39 34 m6) 1000 pl tk (nI a1) 0 hC (by omega)
      rw [nC N L pl tk st vl hC]
      unfold J_Tape_nextToken_46 f_Tape_readName
      simp (disch := omega) only [gfd_eq, glet_eq, gbind_eq, nI_ltI, nI_1, gok_nI, grd_nI, nI_clamp, if_true, if_false, Nat.lt_irrefl, tS_r5, gsf_eq, tS_u7, tS_u8, tS_r0, h0, hlt, e, cl1, j, Nat.reduceAdd, i10, gokT]
      rfl
    have rM : ∀ (M : gN) (L : Nat → Nat → Int64) (wa pl tk vl : Int32), hyM ts by_ M → f_MO_next (rS M 0 wa (nI a) pl tk vl, L) = J_MO_next_118 (rS M 0 wa (nI a2) (nI a1) tk 0, L) := by
      intro M L wa pl tk vl hM
      have b := bm M L wa (nI a1) tk vl hM
      have j := j4 M L (fun m15 => J_MO_next_118 m15) 1000 0 wa (nI a1) tk 0 hM (by omega)
      rw [nM M L wa pl tk vl hM]
      unfold J_MO_next_34
      simp (disch := omega) only [gfd_eq, glet_eq, gbind_eq, nI_ltI, nI_1, gok_nI, grd_nI, nI_clamp, if_true, if_false, Nat.lt_irrefl, rS_r41, gsf_eq, rS_u42, b, rS_u44, n4, cm1, j, i10, gokT]
    rcases find_both hts hby j1 j2 7 0 (by omega) with ⟨k, hk, i1, i2⟩ | ⟨i1, i2⟩
    · refine Or.inl ⟨a2, a1, k, 0, j2, k2, by omega, by decide, fun _ => rfl, fun N L pl tk st vl hC => ?_, fun M L wa pl tk vl hM hK => ?_⟩
      · have i := i1 N L (fun v3 m5 => J_Tape_readName_70 34 v3 m5) 1000 pl tk 0 hC (by omega)
        have i : L_Tape_readName_41 34 (fun v3 m5 => J_Tape_readName_70 34 v3 m5) 1000 0 (tS N 0 pl (nI a2) tk (nI a1) 0, L) = _ := i
        rw [rC N L pl tk st vl hC, i]
        unfold J_Tape_readName_58
        simp (disch := omega) only [gfd_eq, glet_eq, gbind_eq, nI_ltI, nI_1, gok_nI, grd_nI, nI_clamp, if_true, if_false, Nat.lt_irrefl, gsf_eq, tS_u6, i10, gokT]
        rfl
      · have i := i2 M L 1000 0 wa (nI a1) (nI a2) 1 0 hM hK (by omega)
        have i : L_MO_nameAt_2 (nI a1) (nI a2) 1000 0 (rS M 0 wa (nI a2) (nI a1) 1 0, L) = _ := i
        have nk : ¬ nI k = -4 := nI_ne4 (by omega)
        have e1 : rtk k = 1 := if_pos (by omega)
        have e2 : rvl k 0 = k := if_pos (by omega)
        rw [rM M L wa pl tk vl hM, e1, e2]
        unfold J_MO_next_118 f_MO_nameAt
        simp (disch := omega) only [gfd_eq, glet_eq, gbind_eq, nI_ltI, nI_1, gok_nI, grd_nI, nI_clamp, if_true, if_false, Nat.lt_irrefl, gsf_eq, rS_u43, rS_r42, rS_r41, i, rS_u44, rS_r44, nk, i10, gokT]
        rfl
    · refine Or.inr ⟨a1, k2, fun N L pl tk st vl hC => ?_, fun M L wa pl tk vl hM hK => ?_⟩
      · have i := i1 N L (fun v3 m5 => J_Tape_readName_70 34 v3 m5) 1000 pl tk 0 hC (by omega)
        have i : L_Tape_readName_41 34 (fun v3 m5 => J_Tape_readName_70 34 v3 m5) 1000 0 (tS N 0 pl (nI a2) tk (nI a1) 0, L) = _ := i
        refine ⟨nI a2, tk, 0, ?_⟩
        rw [rC N L pl tk st vl hC, i]
        unfold J_Tape_readName_70
        rw [cl_fail0]
        rfl
      · have i := i2 M L 1000 0 wa (nI a1) (nI a2) 1 0 hM hK (by omega)
        have i : L_MO_nameAt_2 (nI a1) (nI a2) 1000 0 (rS M 0 wa (nI a2) (nI a1) 1 0, L) = _ := i
        have y4 : ((-4 : Int32) = -4) = True := eq_true rfl
        refine ⟨nI a2, 1, -4, ?_⟩
        rw [rM M L wa pl tk vl hM]
        unfold J_MO_next_118 f_MO_nameAt
        simp (disch := omega) only [gfd_eq, glet_eq, gbind_eq, nI_ltI, nI_1, gok_nI, grd_nI, nI_clamp, if_true, if_false, Nat.lt_irrefl, gsf_eq, rS_u43, rS_r42, rS_r41, i, rS_u44, rS_r44, y4, mo_fails0, i10, gokT]
  rw [if_neg hL] at cl1 cm1
  by_cases hG : 48 ≤ by_ a1 ∧ by_ a1 ≤ 57
  · rw [if_pos hG] at cl2 cm2
    obtain ⟨a2, v, j1, j2, j5, j3, j4⟩ := figs_both hts hby (ts - a1) a1 a1 0 (by omega) (Nat.le_refl _) (fun _ => rfl) (fun z => by omega) (fun z => by omega) (by decide)
    have c3 : ((3 : Int32) < nI (a2 - a1)) ↔ 3 < a2 - a1 := nI_ltI (a := 3) (by decide) (by omega)
    have rC : ∀ (N : gN) (L : Nat → Nat → Int64) (pl tk st vl : Int32), hyC ts by_ N → f_Tape_nextToken 34 (tS N 0 pl (nI a) tk st vl, L) = (J_Tape_readFigures_76 34 (tS N 0 pl (nI a2) tk (nI a1) (nI v), L)).bind fun (r5 : gM) => some r5 := by
      intro N L pl tk st vl hC
      have h0 := hC.1
      have e := eb N pl tk (nI a1) 0 hC
      have j := j3 N L (fun m3 => J_Tape_readFigures_76 34 m3) 1000 pl tk hC (by omega)
      have j : L_Tape_readFigures_0 34 (fun m3 => J_Tape_readFigures_76 34 m3) 1000 (tS N 0 pl (nI a1) tk (nI a1) 0, L) = _ := j
      rw [nC N L pl tk st vl hC]
      unfold J_Tape_nextToken_46 f_Tape_readFigures
      simp (disch := omega) only [gfd_eq, glet_eq, gbind_eq, nI_ltI, nI_1, gok_nI, grd_nI, nI_clamp, if_true, if_false, Nat.lt_irrefl, tS_r5, gsf_eq, tS_u7, tS_u8, tS_r0, h0, hlt, e, cl1, cl2, j, Nat.reduceAdd, i10, gokT]
    have rM : ∀ (M : gN) (L : Nat → Nat → Int64) (wa pl tk vl : Int32), hyM ts by_ M → f_MO_next (rS M 0 wa (nI a) pl tk vl, L) = J_MO_next_247 (rS M 0 wa (nI a2) (nI a1) tk (nI v), L) := by
      intro M L wa pl tk vl hM
      have b := bm M L wa (nI a1) tk vl hM
      have j := j4 M L (fun m11 => J_MO_next_247 m11) 1000 0 wa tk hM (by omega)
      have j : L_MO_next_170 (fun m11 => J_MO_next_247 m11) 1000 (rS M 0 wa (nI a1) (nI a1) tk 0, L) = _ := j
      rw [nM M L wa pl tk vl hM]
      unfold J_MO_next_34
      simp (disch := omega) only [gfd_eq, glet_eq, gbind_eq, nI_ltI, nI_1, gok_nI, grd_nI, nI_clamp, if_true, if_false, Nat.lt_irrefl, rS_r41, gsf_eq, rS_u42, b, rS_u44, n4, cm1, cm2, j, i10, gokT]
    by_cases h3 : 3 < a2 - a1
    · refine Or.inr ⟨a1, k2, fun N L pl tk st vl hC => ⟨nI a2, 7, nI v, ?_⟩, fun M L wa pl tk vl hM hK => ⟨nI a2, 2, nI v, ?_⟩⟩
      · rw [rC N L pl tk st vl hC]
        unfold J_Tape_readFigures_76
        simp (disch := omega) only [gfd_eq, glet_eq, gbind_eq, nI_ltI, nI_1, gok_nI, grd_nI, nI_clamp, if_true, if_false, Nat.lt_irrefl, gsf_eq, tS_u6, tS_r5, tS_r7, pk_sub, c3, h3, cl_fail0, i10, gokT]
      · rw [rM M L wa pl tk vl hM]
        unfold J_MO_next_247
        simp (disch := omega) only [gfd_eq, glet_eq, gbind_eq, nI_ltI, nI_1, gok_nI, grd_nI, nI_clamp, if_true, if_false, Nat.lt_irrefl, gsf_eq, rS_u43, rS_r41, rS_r42, pk_sub, c3, h3, mo_fails0, i10, gokT]
    · refine Or.inl ⟨a2, a1, 7, v, j2, k2, by decide, j5, fun z => (z rfl).elim, fun N L pl tk st vl hC => ?_, fun M L wa pl tk vl hM hK => ?_⟩
      · rw [rC N L pl tk st vl hC]
        unfold J_Tape_readFigures_76
        simp (disch := omega) only [gfd_eq, glet_eq, gbind_eq, nI_ltI, nI_1, gok_nI, grd_nI, nI_clamp, if_true, if_false, Nat.lt_irrefl, gsf_eq, tS_u6, tS_r5, tS_r7, pk_sub, c3, h3, i10, gokT]
        rfl
      · rw [rM M L wa pl tk vl hM]
        unfold J_MO_next_247
        simp (disch := omega) only [gfd_eq, glet_eq, gbind_eq, nI_ltI, nI_1, gok_nI, grd_nI, nI_clamp, if_true, if_false, Nat.lt_irrefl, gsf_eq, rS_u43, rS_r41, rS_r42, pk_sub, c3, h3, i10, gokT]
        rfl
  rw [if_neg hG] at cl2 cm2
  by_cases h59 : by_ a1 = 59
  · have E59 : (nI (by_ a1) = 59) = True := eq_true (e59.mpr h59)
    refine Or.inl ⟨a1 + 1, a1, 8, 0, by omega, k2, by decide, by decide, fun _ => rfl, fun N L pl tk st vl hC => ?_, fun M L wa pl tk vl hM hK => ?_⟩
    · have h0 := hC.1
      have e := eb N pl tk (nI a1) 0 hC
      rw [nC N L pl tk st vl hC]
      unfold J_Tape_nextToken_46
      simp (disch := omega) only [gfd_eq, glet_eq, gbind_eq, nI_ltI, nI_1, gok_nI, grd_nI, nI_clamp, if_true, if_false, Nat.lt_irrefl, tS_r5, gsf_eq, tS_u7, tS_u8, tS_r0, h0, hlt, e, cl1, cl2, E59, tS_u6, tS_u5, Nat.reduceAdd, i10, gokT]
      rfl
    · have b := bm M L wa (nI a1) tk vl hM
      rw [nM M L wa pl tk vl hM]
      unfold J_MO_next_34
      simp (disch := omega) only [gfd_eq, glet_eq, gbind_eq, nI_ltI, nI_1, gok_nI, grd_nI, nI_clamp, if_true, if_false, Nat.lt_irrefl, rS_r41, gsf_eq, rS_u42, b, rS_u44, n4, cm1, cm2, E59, rS_u43, rS_u41, i10, gokT]
      rfl
  · refine Or.inr ⟨a1, k2, fun N L pl tk st vl hC => ⟨nI a1, tk, 0, ?_⟩, fun M L wa pl tk vl hM hK => ⟨nI (a1 + 1), 3, 0, ?_⟩⟩
    · have h0 := hC.1
      have e := eb N pl tk (nI a1) 0 hC
      rw [nC N L pl tk st vl hC]
      unfold J_Tape_nextToken_46
      simp (disch := omega) only [gfd_eq, glet_eq, gbind_eq, nI_ltI, nI_1, gok_nI, grd_nI, nI_clamp, if_true, if_false, Nat.lt_irrefl, tS_r5, gsf_eq, tS_u7, tS_u8, tS_r0, h0, hlt, e, cl1, cl2, e59, h59, cl_fail0, Nat.reduceAdd, i10, gokT]
    · have b := bm M L wa (nI a1) tk vl hM
      rw [nM M L wa pl tk vl hM]
      unfold J_MO_next_34
      simp (disch := omega) only [gfd_eq, glet_eq, gbind_eq, nI_ltI, nI_1, gok_nI, grd_nI, nI_clamp, if_true, if_false, Nat.lt_irrefl, rS_r41, gsf_eq, rS_u42, b, rS_u44, n4, cm1, cm2, e59, h59, rS_u43, rS_u41, mo_fails0, i10, gokT]
