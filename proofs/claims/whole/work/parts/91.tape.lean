/-! ===== the tape read: states, loops of tokens ===== -/
theorem L_Tape_nextToken_8_s (a : Nat) (k_8 : gM → Option (gM)) (F : Nat) (m7 : gM) : L_Tape_nextToken_8 a k_8 (F + 1) m7 = (if (gfd m7 a 5) < (gfd m7 a 0) then (gok (gib (gfd m7 a 5) 160) (if (grd m7 (a + 1) (gfd m7 a 5)) = 32 then (glet (gsf m7 a 5 ((gfd m7 a 5) + 1)) fun (m8 : gM) => (L_Tape_nextToken_8 a k_8 F) m8) else (k_8 m7))) else (k_8 m7)) := rfl
theorem L_Tape_readName_0_s (a : Nat) (k_0 : gM → Option (gM)) (F : Nat) (m6 : gM) : L_Tape_readName_0 a k_0 (F + 1) m6 = (if (gfd m6 a 5) < (gfd m6 a 0) then (gok (gib (gfd m6 a 5) 160) ((f_Tape_isLetter (grd m6 (a + 1) (gfd m6 a 5)) m6).bind fun (r4 : Int32 × gM) => if r4.1 = 0 then (k_0 r4.2) else (glet (gsf r4.2 a 5 ((gfd r4.2 a 5) + 1)) fun (m7 : gM) => (L_Tape_readName_0 a k_0 F) m7))) else (k_0 m6)) := rfl
theorem L_Tape_readFigures_0_s (a : Nat) (k_0 : gM → Option (gM)) (F : Nat) (m3 : gM) : L_Tape_readFigures_0 a k_0 (F + 1) m3 = (if (gfd m3 a 5) < (gfd m3 a 0) then (gok (gib (gfd m3 a 5) 160) ((f_Tape_isFigure (grd m3 (a + 1) (gfd m3 a 5)) m3).bind fun (r2 : Int32 × gM) => if r2.1 = 0 then (k_0 r2.2) else (if ((gfd r2.2 a 5) - (gfd r2.2 a 7)) < 3 then (gok (gib (gfd r2.2 a 5) 160) (glet (gsf r2.2 a 8 ((((gfd r2.2 a 8) * 10) + (grd r2.2 (a + 1) (gfd r2.2 a 5))) - 48)) fun (m6 : gM) => J_Tape_readFigures_63 a (L_Tape_readFigures_0 a k_0 F) m6)) else (J_Tape_readFigures_63 a (L_Tape_readFigures_0 a k_0 F) r2.2)))) else (k_0 m3)) := rfl
theorem L_Tape_readName_41_s (a : Nat) (k_41 : Int32 → gM → Option (gM)) (F : Nat) (v3 : Int32) (m5 : gM) : L_Tape_readName_41 a k_41 (F + 1) v3 m5 = (if 6 < v3 then (k_41 v3 m5) else ((f_Tape_nameOf v3 m5).bind fun (r2 : Nat × gM) => (f_Tape_isSpelt a r2.1 r2.2).bind fun (r3 : Int32 × gM) => if r3.1 = 0 then ((L_Tape_readName_41 a k_41 F) (v3 + 1) r3.2) else (J_Tape_readName_58 a v3 r3.2))) := rfl
theorem L_Tape_isSpelt_20_s (a : Nat) (j1 : Nat) (m : gM) (F : Nat) (v1 : Int32) : L_Tape_isSpelt_20 a j1 m (F + 1) v1 = (if v1 < (Int32.ofNat (gslen j1)) then (gok (gib ((gfd m a 7) + v1) 160) (gok (gib v1 (gslen j1)) (if (grd m (a + 1) ((gfd m a 7) + v1)) = (gsch j1 (Int32.toNatClampNeg v1)) then ((L_Tape_isSpelt_20 a j1 m F) (v1 + 1)) else (some (0, m))))) else (some (1, m))) := rfl
theorem L_MO_next_8_s (k_8 : gM → Option (gM)) (F : Nat) (m18 : gM) : L_MO_next_8 k_8 (F + 1) m18 = ((f_MO_byteAt (gfd m18 81 41) m18).bind fun (r13 : Int32 × gM) => if r13.1 = 32 then (glet (gsf r13.2 81 41 ((gfd r13.2 81 41) + 1)) fun (m19 : gM) => (L_MO_next_8 k_8 F) m19) else (k_8 r13.2)) := rfl
theorem L_MO_next_84_s (k_84 : gM → Option (gM)) (F : Nat) (m15 : gM) : L_MO_next_84 k_84 (F + 1) m15 = ((f_MO_byteAt (gfd m15 81 41) m15).bind fun (r11 : Int32 × gM) => (f_MO_in (Int32.toInt64 r11.1) (Int32.toInt64 97) (Int32.toInt64 122) r11.2).bind fun (r12 : Int32 × gM) => if r12.1 = 0 then (k_84 r12.2) else (glet (gsf r12.2 81 41 ((gfd r12.2 81 41) + 1)) fun (m16 : gM) => (L_MO_next_84 k_84 F) m16)) := rfl
theorem L_MO_next_170_s (k_170 : gM → Option (gM)) (F : Nat) (m11 : gM) : L_MO_next_170 k_170 (F + 1) m11 = ((f_MO_byteAt (gfd m11 81 41) m11).bind fun (r8 : Int32 × gM) => (f_MO_in (Int32.toInt64 r8.1) (Int32.toInt64 48) (Int32.toInt64 57) r8.2).bind fun (r9 : Int32 × gM) => if r9.1 = 0 then (k_170 r9.2) else (if ((gfd r9.2 81 41) - (gfd r9.2 81 42)) < 3 then ((f_MO_byteAt (gfd r9.2 81 41) r9.2).bind fun (r10 : Int32 × gM) => J_MO_next_231 (L_MO_next_170 k_170 F) (((10 * (gfd r9.2 81 44)) + r10.1) - 48) r10.2) else (J_MO_next_231 (L_MO_next_170 k_170 F) (gfd r9.2 81 44) r9.2))) := rfl
theorem L_MO_nameAt_2_s (x1 : Int32) (x2 : Int32) (F : Nat) (v1 : Int32) (m1 : gM) : L_MO_nameAt_2 x1 x2 (F + 1) v1 m1 = (if v1 < 7 then (gok (gib (v1 + 1) 8) (gok (gib v1 8) (if (x2 - x1) = ((grd m1 113 (v1 + 1)) - (grd m1 113 v1)) then (J_MO_nameAt_34 x1 x2 (L_MO_nameAt_2 x1 x2 F) v1 1 m1) else (J_MO_nameAt_34 x1 x2 (L_MO_nameAt_2 x1 x2 F) v1 0 m1)))) else (some ((-4), m1))) := rfl
theorem L_MO_nameAt_39_s (x1 : Int32) (x2 : Int32) (v4 : Int32) (k_39 : Int32 → Int32 → gM → Option (Int32 × gM)) (F : Nat) (v6 : Int32) (v7 : Int32) (m4 : gM) : L_MO_nameAt_39 x1 x2 v4 k_39 (F + 1) v6 v7 m4 = (if v7 < (x2 - x1) then (if v6 = 0 then (k_39 v6 v7 m4) else ((f_MO_byteAt (x1 + v7) m4).bind fun (r1 : Int32 × gM) => gok (gib v4 8) (gok (gib ((grd r1.2 113 v4) + v7) 31) (if r1.1 = (grd r1.2 114 ((grd r1.2 113 v4) + v7)) then (J_MO_nameAt_82 (L_MO_nameAt_39 x1 x2 v4 k_39 F) v6 v7 1 r1.2) else (J_MO_nameAt_82 (L_MO_nameAt_39 x1 x2 v4 k_39 F) v6 v7 0 r1.2))))) else (k_39 v6 v7 m4)) := rfl
def tS (N : gN) (f pl a_ tk st vl : Int32) : gN := fun p q => if p = 34 then (if q = 3 then f else if q = 4 then pl else if q = 5 then a_ else if q = 6 then tk else if q = 7 then st else if q = 8 then vl else N 34 q) else N p q
theorem tS_r3 (N : gN) (f pl a_ tk st vl : Int32) : tS N f pl a_ tk st vl 34 3 = f := rfl
theorem tS_r4 (N : gN) (f pl a_ tk st vl : Int32) : tS N f pl a_ tk st vl 34 4 = pl := rfl
theorem tS_r5 (N : gN) (f pl a_ tk st vl : Int32) : tS N f pl a_ tk st vl 34 5 = a_ := rfl
theorem tS_r6 (N : gN) (f pl a_ tk st vl : Int32) : tS N f pl a_ tk st vl 34 6 = tk := rfl
theorem tS_r7 (N : gN) (f pl a_ tk st vl : Int32) : tS N f pl a_ tk st vl 34 7 = st := rfl
theorem tS_r8 (N : gN) (f pl a_ tk st vl : Int32) : tS N f pl a_ tk st vl 34 8 = vl := rfl
theorem tS_ne {N : gN} {f pl a_ tk st vl : Int32} {p : Nat} (h : p ≠ 34) : tS N f pl a_ tk st vl p = N p := by
  funext q
  exact if_neg h
theorem tS_u3 (N : gN) (f pl a_ tk st vl : Int32) (y : Int32) : gup (tS N f pl a_ tk st vl) 34 3 y = tS N y pl a_ tk st vl := by
  funext p q
  rw [gup_all]
  unfold tS
  by_cases hp : p = 34
  · subst hp
    by_cases hq : q = 3
    · subst hq
      simp
    · simp [hq]
  · simp [hp]
theorem tS_u4 (N : gN) (f pl a_ tk st vl : Int32) (y : Int32) : gup (tS N f pl a_ tk st vl) 34 4 y = tS N f y a_ tk st vl := by
  funext p q
  rw [gup_all]
  unfold tS
  by_cases hp : p = 34
  · subst hp
    by_cases hq : q = 4
    · subst hq
      simp
    · simp [hq]
  · simp [hp]
theorem tS_u5 (N : gN) (f pl a_ tk st vl : Int32) (y : Int32) : gup (tS N f pl a_ tk st vl) 34 5 y = tS N f pl y tk st vl := by
  funext p q
  rw [gup_all]
  unfold tS
  by_cases hp : p = 34
  · subst hp
    by_cases hq : q = 5
    · subst hq
      simp
    · simp [hq]
  · simp [hp]
theorem tS_u6 (N : gN) (f pl a_ tk st vl : Int32) (y : Int32) : gup (tS N f pl a_ tk st vl) 34 6 y = tS N f pl a_ y st vl := by
  funext p q
  rw [gup_all]
  unfold tS
  by_cases hp : p = 34
  · subst hp
    by_cases hq : q = 6
    · subst hq
      simp
    · simp [hq]
  · simp [hp]
theorem tS_u7 (N : gN) (f pl a_ tk st vl : Int32) (y : Int32) : gup (tS N f pl a_ tk st vl) 34 7 y = tS N f pl a_ tk y vl := by
  funext p q
  rw [gup_all]
  unfold tS
  by_cases hp : p = 34
  · subst hp
    by_cases hq : q = 7
    · subst hq
      simp
    · simp [hq]
  · simp [hp]
theorem tS_u8 (N : gN) (f pl a_ tk st vl : Int32) (y : Int32) : gup (tS N f pl a_ tk st vl) 34 8 y = tS N f pl a_ tk st y := by
  funext p q
  rw [gup_all]
  unfold tS
  by_cases hp : p = 34
  · subst hp
    by_cases hq : q = 8
    · subst hq
      simp
    · simp [hq]
  · simp [hp]
theorem tS_r0 (N : gN) (f pl a_ tk st vl : Int32) : tS N f pl a_ tk st vl 34 0 = N 34 0 := rfl
def rS (N : gN) (f pl a_ st tk vl : Int32) : gN := fun p q => if p = 81 then (if q = 39 then f else if q = 40 then pl else if q = 41 then a_ else if q = 42 then st else if q = 43 then tk else if q = 44 then vl else N 81 q) else N p q
theorem rS_r39 (N : gN) (f pl a_ st tk vl : Int32) : rS N f pl a_ st tk vl 81 39 = f := rfl
theorem rS_r40 (N : gN) (f pl a_ st tk vl : Int32) : rS N f pl a_ st tk vl 81 40 = pl := rfl
theorem rS_r41 (N : gN) (f pl a_ st tk vl : Int32) : rS N f pl a_ st tk vl 81 41 = a_ := rfl
theorem rS_r42 (N : gN) (f pl a_ st tk vl : Int32) : rS N f pl a_ st tk vl 81 42 = st := rfl
theorem rS_r43 (N : gN) (f pl a_ st tk vl : Int32) : rS N f pl a_ st tk vl 81 43 = tk := rfl
theorem rS_r44 (N : gN) (f pl a_ st tk vl : Int32) : rS N f pl a_ st tk vl 81 44 = vl := rfl
theorem rS_ne {N : gN} {f pl a_ st tk vl : Int32} {p : Nat} (h : p ≠ 81) : rS N f pl a_ st tk vl p = N p := by
  funext q
  exact if_neg h
theorem rS_u39 (N : gN) (f pl a_ st tk vl : Int32) (y : Int32) : gup (rS N f pl a_ st tk vl) 81 39 y = rS N y pl a_ st tk vl := by
  funext p q
  rw [gup_all]
  unfold rS
  by_cases hp : p = 81
  · subst hp
    by_cases hq : q = 39
    · subst hq
      simp
    · simp [hq]
  · simp [hp]
theorem rS_u40 (N : gN) (f pl a_ st tk vl : Int32) (y : Int32) : gup (rS N f pl a_ st tk vl) 81 40 y = rS N f y a_ st tk vl := by
  funext p q
  rw [gup_all]
  unfold rS
  by_cases hp : p = 81
  · subst hp
    by_cases hq : q = 40
    · subst hq
      simp
    · simp [hq]
  · simp [hp]
theorem rS_u41 (N : gN) (f pl a_ st tk vl : Int32) (y : Int32) : gup (rS N f pl a_ st tk vl) 81 41 y = rS N f pl y st tk vl := by
  funext p q
  rw [gup_all]
  unfold rS
  by_cases hp : p = 81
  · subst hp
    by_cases hq : q = 41
    · subst hq
      simp
    · simp [hq]
  · simp [hp]
theorem rS_u42 (N : gN) (f pl a_ st tk vl : Int32) (y : Int32) : gup (rS N f pl a_ st tk vl) 81 42 y = rS N f pl a_ y tk vl := by
  funext p q
  rw [gup_all]
  unfold rS
  by_cases hp : p = 81
  · subst hp
    by_cases hq : q = 42
    · subst hq
      simp
    · simp [hq]
  · simp [hp]
theorem rS_u43 (N : gN) (f pl a_ st tk vl : Int32) (y : Int32) : gup (rS N f pl a_ st tk vl) 81 43 y = rS N f pl a_ st y vl := by
  funext p q
  rw [gup_all]
  unfold rS
  by_cases hp : p = 81
  · subst hp
    by_cases hq : q = 43
    · subst hq
      simp
    · simp [hq]
  · simp [hp]
theorem rS_u44 (N : gN) (f pl a_ st tk vl : Int32) (y : Int32) : gup (rS N f pl a_ st tk vl) 81 44 y = rS N f pl a_ st tk y := by
  funext p q
  rw [gup_all]
  unfold rS
  by_cases hp : p = 81
  · subst hp
    by_cases hq : q = 44
    · subst hq
      simp
    · simp [hq]
  · simp [hp]
theorem rS_r37 (N : gN) (f pl a_ st tk vl : Int32) : rS N f pl a_ st tk vl 81 37 = N 81 37 := rfl
theorem rS_r53 (N : gN) (f pl a_ st tk vl : Int32) : rS N f pl a_ st tk vl 81 53 = N 81 53 := rfl
/-- the tape as both sides have it -/
def hyC (ts : Nat) (by_ : Nat → Nat) (N : gN) : Prop := N 34 0 = nI ts ∧ N 35 = fun i => nI (by_ i)
def hyM (ts : Nat) (by_ : Nat → Nat) (M : gN) : Prop := M 81 37 = nI ts ∧ M 112 = fun i => nI (by_ i)
theorem eq_lit {b k : Nat} (hb : b < 256) (hk : k < 256) : (nI b = nI k) ↔ b = k := ⟨fun e => (nI_eq (b := k) (by omega) (by omega)).mp e, fun e => by rw [e]⟩
theorem mo_byteAt {ts a : Nat} {by_ : Nat → Nat} {m : gM} (hts : ts ≤ 160) (h37 : m.1 81 37 = nI ts) (h112 : m.1 112 = fun i => nI (by_ i)) (ha : a ≤ 400) : f_MO_byteAt (nI a) m = some (if a < ts then nI (by_ a) else -4, m) := by
  have e : m.1 112 a = nI (by_ a) := congrFun h112 a
  unfold f_MO_byteAt
  by_cases h : a < ts
  · rw [if_pos h]
    simp (disch := omega) only [gfd_eq, glet_eq, gbind_eq, nI_ltI, nI_1, gok_nI, grd_nI, nI_clamp, if_true, if_false, Nat.lt_irrefl, h37, h, e, i10, gokT]
  · rw [if_neg h]
    simp (disch := omega) only [gfd_eq, glet_eq, gbind_eq, nI_ltI, nI_1, gok_nI, grd_nI, nI_clamp, if_true, if_false, Nat.lt_irrefl, h37, h, i10, gokT]
theorem in_rng {b lo hi : Nat} (hb : b < 256) (hl : lo < 256) (hh : hi < 256) (m : gM) : f_MO_in (nI b).toInt64 (nI lo).toInt64 (nI hi).toInt64 m = some (if lo ≤ b ∧ b ≤ hi then 1 else 0, m) := by
  rw [mo_in]
  by_cases h1 : b < lo
  · rw [if_pos (nI_lt h1 (by omega)), if_neg (by omega)]
  · rw [if_neg (nI_nlt (by omega) (by omega))]
    by_cases h2 : hi < b
    · rw [if_pos (nI_lt h2 (by omega)), if_neg (by omega)]
    · rw [if_neg (nI_nlt (by omega) (by omega)), if_pos (by omega)]
theorem in_rng4 {lo hi : Nat} (hl : lo < 256) (m : gM) : f_MO_in (Int32.toInt64 (-4)) (nI lo).toInt64 (nI hi).toInt64 m = some (0, m) := by
  rw [mo_in, if_pos]
  exact Int32.lt_of_lt_of_le (show (-4 : Int32) < 0 by decide) (Int32.not_lt.mp (nI_nlt (a := lo) (b := 0) (by omega) (by omega)))
theorem cl_isLetter {b : Nat} (hb : b < 256) (m : gM) : f_Tape_isLetter (nI b) m = some (if 97 ≤ b ∧ b ≤ 122 then 1 else 0, m) := by
  unfold f_Tape_isLetter
  by_cases h1 : b < 97
  · rw [if_pos (show nI b < (97 : Int32) from nI_lt (a := b) (b := 97) h1 (by decide)), if_neg (by omega)]
  · rw [if_neg (show ¬ nI b < (97 : Int32) from nI_nlt (a := b) (b := 97) (by omega) (by omega))]
    by_cases h2 : 122 < b
    · rw [if_pos (show (122 : Int32) < nI b from nI_lt (a := 122) (b := b) h2 (by omega)), if_neg (by omega)]
    · rw [if_neg (show ¬ (122 : Int32) < nI b from nI_nlt (a := 122) (b := b) (by omega) (by decide)), if_pos (by omega)]
theorem cl_isFigure {b : Nat} (hb : b < 256) (m : gM) : f_Tape_isFigure (nI b) m = some (if 48 ≤ b ∧ b ≤ 57 then 1 else 0, m) := by
  unfold f_Tape_isFigure
  by_cases h1 : b < 48
  · rw [if_pos (show nI b < (48 : Int32) from nI_lt (a := b) (b := 48) h1 (by decide)), if_neg (by omega)]
  · rw [if_neg (show ¬ nI b < (48 : Int32) from nI_nlt (a := b) (b := 48) (by omega) (by omega))]
    by_cases h2 : 57 < b
    · rw [if_pos (show (57 : Int32) < nI b from nI_lt (a := 57) (b := b) h2 (by omega)), if_neg (by omega)]
    · rw [if_neg (show ¬ (57 : Int32) < nI b from nI_nlt (a := 57) (b := b) (by omega) (by decide)), if_pos (by omega)]
section TK
variable {ts : Nat} {by_ : Nat → Nat}
theorem rS_byte (hts : ts ≤ 160) {M : gN} {L : Nat → Nat → Int64} (H : hyM ts by_ M) (f pl a_ st tk vl : Int32) {a : Nat} (ha : a ≤ 400) : f_MO_byteAt (nI a) (rS M f pl a_ st tk vl, L) = some (if a < ts then nI (by_ a) else -4, (rS M f pl a_ st tk vl, L)) :=
  mo_byteAt hts ((rS_r37 M f pl a_ st tk vl).trans H.1) ((show rS M f pl a_ st tk vl 112 = M 112 from rS_ne (by decide)).trans H.2) ha
theorem skip_both (hts : ts ≤ 160) (hby : ∀ i, by_ i < 256) : ∀ (r a : Nat), a + r = ts → ∃ a', a ≤ a' ∧ a' ≤ ts ∧ (∀ (N : gN) (L : Nat → Nat → Int64) (K : gM → Option gM) (F : Nat) (pl tk st vl : Int32), hyC ts by_ N → r < F → L_Tape_nextToken_8 34 K F (tS N 0 pl (nI a) tk st vl, L) = K (tS N 0 pl (nI a') tk st vl, L)) ∧ ∀ (M : gN) (L : Nat → Nat → Int64) (K : gM → Option gM) (F : Nat) (wr wa pl tk vl : Int32), hyM ts by_ M → r < F → L_MO_next_8 K F (rS M wr wa (nI a) pl tk vl, L) = K (rS M wr wa (nI a') pl tk vl, L) := by
  intro r
  induction r with
  | zero =>
    intro a ha
    have e : a = ts := by omega
    subst e
    refine ⟨a, Nat.le_refl _, Nat.le_refl _, fun N L K F pl tk st vl hC hF => ?_, fun M L K F wr wa pl tk vl hM hF => ?_⟩
    · obtain ⟨F, rfl⟩ : ∃ F', F = F' + 1 := ⟨F - 1, by omega⟩
      have h0 := hC.1
      rw [L_Tape_nextToken_8_s]
      simp (disch := omega) only [gfd_eq, glet_eq, gbind_eq, nI_ltI, nI_1, gok_nI, grd_nI, nI_clamp, if_true, if_false, Nat.lt_irrefl, tS_r5, tS_r0, h0, i10, gokT]
    · obtain ⟨F, rfl⟩ : ∃ F', F = F' + 1 := ⟨F - 1, by omega⟩
      have b := rS_byte hts (L := L) hM wr wa (nI a) pl tk vl (a := a) (by omega)
      rw [if_neg (Nat.lt_irrefl a)] at b
      have n32 : ¬ (-4 : Int32) = 32 := by decide
      rw [L_MO_next_8_s]
      simp (disch := omega) only [gfd_eq, glet_eq, gbind_eq, nI_ltI, nI_1, gok_nI, grd_nI, nI_clamp, if_true, if_false, Nat.lt_irrefl, rS_r41, b, n32, i10, gokT]
  | succ r ih =>
    intro a ha
    have hlt : a < ts := by omega
    have e32 : (nI (by_ a) = 32) ↔ by_ a = 32 := eq_lit (hby a) (by decide)
    by_cases h32 : by_ a = 32
    · obtain ⟨a', i1, i2, i3, i4⟩ := ih (a + 1) (by omega)
      refine ⟨a', by omega, i2, fun N L K F pl tk st vl hC hF => ?_, fun M L K F wr wa pl tk vl hM hF => ?_⟩
      · obtain ⟨F, rfl⟩ : ∃ F', F = F' + 1 := ⟨F - 1, by omega⟩
        have h0 := hC.1
        have eb : tS N 0 pl (nI a) tk st vl 35 a = nI (by_ a) := (congrFun (tS_ne (by decide)) a).trans (congrFun hC.2 a)
        rw [L_Tape_nextToken_8_s]
        simp (disch := omega) only [gfd_eq, glet_eq, gbind_eq, nI_ltI, nI_1, gok_nI, grd_nI, nI_clamp, if_true, if_false, Nat.lt_irrefl, tS_r5, tS_r0, h0, hlt, eb, e32, h32, gsf_eq, tS_u5, Nat.reduceAdd, i10, gokT]
        exact i3 N L K F pl tk st vl hC (by omega)
      · obtain ⟨F, rfl⟩ : ∃ F', F = F' + 1 := ⟨F - 1, by omega⟩
        have b := rS_byte hts (L := L) hM wr wa (nI a) pl tk vl (a := a) (by omega)
        rw [if_pos hlt] at b
        rw [L_MO_next_8_s]
        simp (disch := omega) only [gfd_eq, glet_eq, gbind_eq, nI_ltI, nI_1, gok_nI, grd_nI, nI_clamp, if_true, if_false, Nat.lt_irrefl, rS_r41, b, e32, h32, gsf_eq, rS_u41, i10, gokT]
        exact i4 M L K F wr wa pl tk vl hM (by omega)
    · refine ⟨a, Nat.le_refl _, by omega, fun N L K F pl tk st vl hC hF => ?_, fun M L K F wr wa pl tk vl hM hF => ?_⟩
      · obtain ⟨F, rfl⟩ : ∃ F', F = F' + 1 := ⟨F - 1, by omega⟩
        have h0 := hC.1
        have eb : tS N 0 pl (nI a) tk st vl 35 a = nI (by_ a) := (congrFun (tS_ne (by decide)) a).trans (congrFun hC.2 a)
        rw [L_Tape_nextToken_8_s]
        simp (disch := omega) only [gfd_eq, glet_eq, gbind_eq, nI_ltI, nI_1, gok_nI, grd_nI, nI_clamp, if_true, if_false, Nat.lt_irrefl, tS_r5, tS_r0, h0, hlt, eb, e32, h32, Nat.reduceAdd, i10, gokT]
      · obtain ⟨F, rfl⟩ : ∃ F', F = F' + 1 := ⟨F - 1, by omega⟩
        have b := rS_byte hts (L := L) hM wr wa (nI a) pl tk vl (a := a) (by omega)
        rw [if_pos hlt] at b
        rw [L_MO_next_8_s]
        simp (disch := omega) only [gfd_eq, glet_eq, gbind_eq, nI_ltI, nI_1, gok_nI, grd_nI, nI_clamp, if_true, if_false, Nat.lt_irrefl, rS_r41, b, e32, h32, i10, gokT]
theorem lett_both (hts : ts ≤ 160) (hby : ∀ i, by_ i < 256) : ∀ (r a : Nat), a + r = ts → ∃ a', a ≤ a' ∧ a' ≤ ts ∧ (∀ (N : gN) (L : Nat → Nat → Int64) (K : gM → Option gM) (F : Nat) (pl tk st vl : Int32), hyC ts by_ N → r < F → L_Tape_readName_0 34 K F (tS N 0 pl (nI a) tk st vl, L) = K (tS N 0 pl (nI a') tk st vl, L)) ∧ ∀ (M : gN) (L : Nat → Nat → Int64) (K : gM → Option gM) (F : Nat) (wr wa pl tk vl : Int32), hyM ts by_ M → r < F → L_MO_next_84 K F (rS M wr wa (nI a) pl tk vl, L) = K (rS M wr wa (nI a') pl tk vl, L) := by
  intro r
  induction r with
  | zero =>
    intro a ha
    have e : a = ts := by omega
    subst e
    refine ⟨a, Nat.le_refl _, Nat.le_refl _, fun N L K F pl tk st vl hC hF => ?_, fun M L K F wr wa pl tk vl hM hF => ?_⟩
    · obtain ⟨F, rfl⟩ : ∃ F', F = F' + 1 := ⟨F - 1, by omega⟩
      have h0 := hC.1
      rw [L_Tape_readName_0_s]
      simp (disch := omega) only [gfd_eq, glet_eq, gbind_eq, nI_ltI, nI_1, gok_nI, grd_nI, nI_clamp, if_true, if_false, Nat.lt_irrefl, tS_r5, tS_r0, h0, i10, gokT]
    · obtain ⟨F, rfl⟩ : ∃ F', F = F' + 1 := ⟨F - 1, by omega⟩
      have b := rS_byte hts (L := L) hM wr wa (nI a) pl tk vl (a := a) (by omega)
      rw [if_neg (Nat.lt_irrefl a)] at b
      have c : ∀ m : gM, f_MO_in (Int32.toInt64 (-4)) (Int32.toInt64 97) (Int32.toInt64 122) m = some (0, m) := fun m => in_rng4 (lo := 97) (by decide) m
      rw [L_MO_next_84_s]
      simp (disch := omega) only [gfd_eq, glet_eq, gbind_eq, nI_ltI, nI_1, gok_nI, grd_nI, nI_clamp, if_true, if_false, Nat.lt_irrefl, rS_r41, b, c, i10, gokT]
  | succ r ih =>
    intro a ha
    have hlt : a < ts := by omega
    have cl := fun m => cl_isLetter (hby a) m
    have cm : ∀ m : gM, f_MO_in (nI (by_ a)).toInt64 (Int32.toInt64 97) (Int32.toInt64 122) m = _ := fun m => in_rng (lo := 97) (hi := 122) (hby a) (by decide) (by decide) m
    by_cases hl : 97 ≤ by_ a ∧ by_ a ≤ 122
    · rw [if_pos hl] at cl cm
      obtain ⟨a', i1, i2, i3, i4⟩ := ih (a + 1) (by omega)
      refine ⟨a', by omega, i2, fun N L K F pl tk st vl hC hF => ?_, fun M L K F wr wa pl tk vl hM hF => ?_⟩
      · obtain ⟨F, rfl⟩ : ∃ F', F = F' + 1 := ⟨F - 1, by omega⟩
        have h0 := hC.1
        have eb : tS N 0 pl (nI a) tk st vl 35 a = nI (by_ a) := (congrFun (tS_ne (by decide)) a).trans (congrFun hC.2 a)
        rw [L_Tape_readName_0_s]
        simp (disch := omega) only [gfd_eq, glet_eq, gbind_eq, nI_ltI, nI_1, gok_nI, grd_nI, nI_clamp, if_true, if_false, Nat.lt_irrefl, tS_r5, tS_r0, h0, hlt, eb, cl, gsf_eq, tS_u5, Nat.reduceAdd, i10, gokT]
        exact i3 N L K F pl tk st vl hC (by omega)
      · obtain ⟨F, rfl⟩ : ∃ F', F = F' + 1 := ⟨F - 1, by omega⟩
        have b := rS_byte hts (L := L) hM wr wa (nI a) pl tk vl (a := a) (by omega)
        rw [if_pos hlt] at b
        rw [L_MO_next_84_s]
        simp (disch := omega) only [gfd_eq, glet_eq, gbind_eq, nI_ltI, nI_1, gok_nI, grd_nI, nI_clamp, if_true, if_false, Nat.lt_irrefl, rS_r41, b, cm, gsf_eq, rS_u41, i10, gokT]
        exact i4 M L K F wr wa pl tk vl hM (by omega)
    · rw [if_neg hl] at cl cm
      refine ⟨a, Nat.le_refl _, by omega, fun N L K F pl tk st vl hC hF => ?_, fun M L K F wr wa pl tk vl hM hF => ?_⟩
      · obtain ⟨F, rfl⟩ : ∃ F', F = F' + 1 := ⟨F - 1, by omega⟩
        have h0 := hC.1
        have eb : tS N 0 pl (nI a) tk st vl 35 a = nI (by_ a) := (congrFun (tS_ne (by decide)) a).trans (congrFun hC.2 a)
        rw [L_Tape_readName_0_s]
        simp (disch := omega) only [gfd_eq, glet_eq, gbind_eq, nI_ltI, nI_1, gok_nI, grd_nI, nI_clamp, if_true, if_false, Nat.lt_irrefl, tS_r5, tS_r0, h0, hlt, eb, cl, Nat.reduceAdd, i10, gokT]
      · obtain ⟨F, rfl⟩ : ∃ F', F = F' + 1 := ⟨F - 1, by omega⟩
        have b := rS_byte hts (L := L) hM wr wa (nI a) pl tk vl (a := a) (by omega)
        rw [if_pos hlt] at b
        rw [L_MO_next_84_s]
        simp (disch := omega) only [gfd_eq, glet_eq, gbind_eq, nI_ltI, nI_1, gok_nI, grd_nI, nI_clamp, if_true, if_false, Nat.lt_irrefl, rS_r41, b, cm, i10, gokT]
theorem figs_both (hts : ts ≤ 160) (hby : ∀ i, by_ i < 256) : ∀ (r a s v : Nat), a + r = ts → s ≤ a → (a = s → v = 0) → (a = s + 1 → v ≤ 9) → (a = s + 2 → v ≤ 99) → v ≤ 999 → ∃ a' v', a ≤ a' ∧ a' ≤ ts ∧ v' ≤ 999 ∧ (∀ (N : gN) (L : Nat → Nat → Int64) (K : gM → Option gM) (F : Nat) (pl tk : Int32), hyC ts by_ N → r < F → L_Tape_readFigures_0 34 K F (tS N 0 pl (nI a) tk (nI s) (nI v), L) = K (tS N 0 pl (nI a') tk (nI s) (nI v'), L)) ∧ ∀ (M : gN) (L : Nat → Nat → Int64) (K : gM → Option gM) (F : Nat) (wr wa tk : Int32), hyM ts by_ M → r < F → L_MO_next_170 K F (rS M wr wa (nI a) (nI s) tk (nI v), L) = K (rS M wr wa (nI a') (nI s) tk (nI v'), L) := by
  intro r
  induction r with
  | zero =>
    intro a s v ha hs v0 v1 v2 v3
    have e : a = ts := by omega
    subst e
    refine ⟨a, v, Nat.le_refl _, Nat.le_refl _, v3, fun N L K F pl tk hC hF => ?_, fun M L K F wr wa tk hM hF => ?_⟩
    · obtain ⟨F, rfl⟩ : ∃ F', F = F' + 1 := ⟨F - 1, by omega⟩
      have h0 := hC.1
      rw [L_Tape_readFigures_0_s]
      simp (disch := omega) only [gfd_eq, glet_eq, gbind_eq, nI_ltI, nI_1, gok_nI, grd_nI, nI_clamp, if_true, if_false, Nat.lt_irrefl, tS_r5, tS_r0, h0, i10, gokT]
    · obtain ⟨F, rfl⟩ : ∃ F', F = F' + 1 := ⟨F - 1, by omega⟩
      have b := rS_byte hts (L := L) hM wr wa (nI a) (nI s) tk (nI v) (a := a) (by omega)
      rw [if_neg (Nat.lt_irrefl a)] at b
      have c : ∀ m : gM, f_MO_in (Int32.toInt64 (-4)) (Int32.toInt64 48) (Int32.toInt64 57) m = some (0, m) := fun m => in_rng4 (lo := 48) (by decide) m
      rw [L_MO_next_170_s]
      simp (disch := omega) only [gfd_eq, glet_eq, gbind_eq, nI_ltI, nI_1, gok_nI, grd_nI, nI_clamp, if_true, if_false, Nat.lt_irrefl, rS_r41, b, c, i10, gokT]
  | succ r ih =>
    intro a s v ha hs v0 v1 v2 v3
    have hlt : a < ts := by omega
    have cl := fun m => cl_isFigure (hby a) m
    have cm : ∀ m : gM, f_MO_in (nI (by_ a)).toInt64 (Int32.toInt64 48) (Int32.toInt64 57) m = _ := fun m => in_rng (lo := 48) (hi := 57) (hby a) (by decide) (by decide) m
    have c3 : (nI (a - s) < 3) ↔ a - s < 3 := nI_ltI (b := 3) (by omega) (by decide)
    by_cases hl : 48 ≤ by_ a ∧ by_ a ≤ 57
    · rw [if_pos hl] at cl cm
      by_cases h3 : a - s < 3
      · have ev : nI v * 10 + nI (by_ a) - 48 = nI (v * 10 + by_ a - 48) := by
          rw [q10, pk_mul, nI_add, show (48 : Int32) = nI 48 from rfl, pk_sub (by omega)]
        have ev2 : 10 * nI v + nI (by_ a) - 48 = nI (v * 10 + by_ a - 48) := by
          rw [q10, pk_mul, nI_add, show (48 : Int32) = nI 48 from rfl, pk_sub (by omega), Nat.mul_comm 10 v]
        obtain ⟨a', v', i1, i2, i5, i3, i4⟩ := ih (a + 1) s (v * 10 + by_ a - 48) (by omega) (by omega) (fun z => by omega) (fun z => by have := v0 (by omega); omega) (fun z => by have := v1 (by omega); omega) (by
          rcases (show a = s ∨ a = s + 1 ∨ a = s + 2 by omega) with z | z | z
          · have := v0 z; omega
          · have := v1 z; omega
          · have := v2 z; omega)
        refine ⟨a', v', by omega, i2, i5, fun N L K F pl tk hC hF => ?_, fun M L K F wr wa tk hM hF => ?_⟩
        · obtain ⟨F, rfl⟩ : ∃ F', F = F' + 1 := ⟨F - 1, by omega⟩
          have h0 := hC.1
          have eb : tS N 0 pl (nI a) tk (nI s) (nI v) 35 a = nI (by_ a) := (congrFun (tS_ne (by decide)) a).trans (congrFun hC.2 a)
          rw [L_Tape_readFigures_0_s]
          unfold J_Tape_readFigures_63
          simp (disch := omega) only [gfd_eq, glet_eq, gbind_eq, nI_ltI, nI_1, gok_nI, grd_nI, nI_clamp, if_true, if_false, Nat.lt_irrefl, tS_r5, tS_r0, tS_r7, tS_r8, h0, hlt, eb, cl, pk_sub, c3, h3, ev, gsf_eq, tS_u8, tS_u5, Nat.reduceAdd, i10, gokT]
          exact i3 N L K F pl tk hC (by omega)
        · obtain ⟨F, rfl⟩ : ∃ F', F = F' + 1 := ⟨F - 1, by omega⟩
          have b := rS_byte hts (L := L) hM wr wa (nI a) (nI s) tk (nI v) (a := a) (by omega)
          rw [if_pos hlt] at b
          rw [L_MO_next_170_s]
          unfold J_MO_next_231
          simp (disch := omega) only [gfd_eq, glet_eq, gbind_eq, nI_ltI, nI_1, gok_nI, grd_nI, nI_clamp, if_true, if_false, Nat.lt_irrefl, rS_r41, rS_r42, rS_r44, b, cm, pk_sub, c3, h3, ev2, gsf_eq, rS_u44, rS_u41, i10, gokT]
          exact i4 M L K F wr wa tk hM (by omega)
      · obtain ⟨a', v', i1, i2, i5, i3, i4⟩ := ih (a + 1) s v (by omega) (by omega) (fun z => by omega) (fun z => by omega) (fun z => by omega) v3
        refine ⟨a', v', by omega, i2, i5, fun N L K F pl tk hC hF => ?_, fun M L K F wr wa tk hM hF => ?_⟩
        · obtain ⟨F, rfl⟩ : ∃ F', F = F' + 1 := ⟨F - 1, by omega⟩
          have h0 := hC.1
          have eb : tS N 0 pl (nI a) tk (nI s) (nI v) 35 a = nI (by_ a) := (congrFun (tS_ne (by decide)) a).trans (congrFun hC.2 a)
          rw [L_Tape_readFigures_0_s]
          unfold J_Tape_readFigures_63
          simp (disch := omega) only [gfd_eq, glet_eq, gbind_eq, nI_ltI, nI_1, gok_nI, grd_nI, nI_clamp, if_true, if_false, Nat.lt_irrefl, tS_r5, tS_r0, tS_r7, h0, hlt, eb, cl, pk_sub, c3, h3, gsf_eq, tS_u5, Nat.reduceAdd, i10, gokT]
          exact i3 N L K F pl tk hC (by omega)
        · obtain ⟨F, rfl⟩ : ∃ F', F = F' + 1 := ⟨F - 1, by omega⟩
          have b := rS_byte hts (L := L) hM wr wa (nI a) (nI s) tk (nI v) (a := a) (by omega)
          rw [if_pos hlt] at b
          rw [L_MO_next_170_s]
          unfold J_MO_next_231
          simp (disch := omega) only [gfd_eq, glet_eq, gbind_eq, nI_ltI, nI_1, gok_nI, grd_nI, nI_clamp, if_true, if_false, Nat.lt_irrefl, rS_r41, rS_r42, rS_r44, b, cm, pk_sub, c3, h3, gsf_eq, rS_u44, rS_u41, i10, gokT]
          exact i4 M L K F wr wa tk hM (by omega)
    · rw [if_neg hl] at cl cm
      refine ⟨a, v, Nat.le_refl _, by omega, v3, fun N L K F pl tk hC hF => ?_, fun M L K F wr wa tk hM hF => ?_⟩
      · obtain ⟨F, rfl⟩ : ∃ F', F = F' + 1 := ⟨F - 1, by omega⟩
        have h0 := hC.1
        have eb : tS N 0 pl (nI a) tk (nI s) (nI v) 35 a = nI (by_ a) := (congrFun (tS_ne (by decide)) a).trans (congrFun hC.2 a)
        rw [L_Tape_readFigures_0_s]
        simp (disch := omega) only [gfd_eq, glet_eq, gbind_eq, nI_ltI, nI_1, gok_nI, grd_nI, nI_clamp, if_true, if_false, Nat.lt_irrefl, tS_r5, tS_r0, h0, hlt, eb, cl, Nat.reduceAdd, i10, gokT]
      · obtain ⟨F, rfl⟩ : ∃ F', F = F' + 1 := ⟨F - 1, by omega⟩
        have b := rS_byte hts (L := L) hM wr wa (nI a) (nI s) tk (nI v) (a := a) (by omega)
        rw [if_pos hlt] at b
        rw [L_MO_next_170_s]
        simp (disch := omega) only [gfd_eq, glet_eq, gbind_eq, nI_ltI, nI_1, gok_nI, grd_nI, nI_clamp, if_true, if_false, Nat.lt_irrefl, rS_r41, b, cm, i10, gokT]
end TK
