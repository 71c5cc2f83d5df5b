/-! ===== feed ===== -/
/-- a call that touches tape and lines alone -/
theorem Inv.tl {n K : Nat} {N N' : gN} (H : Inv n K N) (r : ∀ q, q < 34 ∨ (46 ≤ q ∧ q < 81) ∨ (82 ≤ q ∧ q < 112) ∨ 123 ≤ q → N' q = N q) (h81 : N' 81 0 = N 81 0 ∧ N' 81 1 = N 81 1 ∧ N' 81 2 = N 81 2 ∧ N' 81 8 = N 81 8 ∧ N' 81 10 = N 81 10 ∧ N' 81 15 = N 81 15 ∧ N' 81 60 = N 81 60) (hT : GTape N') (hL : GLaw N') : Inv n K N' := by
  obtain ⟨hF, hP, -, -, hS, hK⟩ := H
  refine ⟨?_, ?_, hT, hL, ?_, hK.frame (by rw [r 0 (by omega)]) h81.2.2.2.2.2.2 (r 123 (by omega)) (fun q hq => r q (by omega))⟩
  · refine FRel.cong (V := fvL N) (fun sel hs => ?_) (fun i hi => ?_) (FRel.blk (fun j hj => r (1 + j) (by omega)) hF)
    · match sel, hs with
      | 0, _ => exact r 82 (by omega)
      | 1, _ => exact r 83 (by omega)
      | 2, _ => exact r 84 (by omega)
      | 3, _ => exact r 85 (by omega)
      | 4, _ => exact r 86 (by omega)
      | 5, _ => exact r 103 (by omega)
      | 6, _ => exact r 100 (by omega)
      | 7, _ => exact r 101 (by omega)
      | 8, _ => exact r 102 (by omega)
      | 9, _ => exact r 87 (by omega)
      | 10, _ => exact r 88 (by omega)
      | 11, _ => exact r 89 (by omega)
      | 12, _ => exact r 90 (by omega)
      | 13, _ => exact r 91 (by omega)
      | 14, _ => exact r 92 (by omega)
      | 15, _ => exact r 93 (by omega)
      | 16, _ => exact r 94 (by omega)
      | 17, _ => exact r 95 (by omega)
      | 18, _ => exact r 96 (by omega)
      | 19, _ => exact r 97 (by omega)
      | 20, _ => exact r 98 (by omega)
      | 21, _ => exact r 99 (by omega)
      | s + 22, h => omega
    · match i, hi with
      | 0, _ => exact h81.1
      | 1, _ => exact h81.2.1
      | 2, _ => exact h81.2.2.1
      | 3, _ => exact h81.2.2.2.2.1
      | 4, _ => exact h81.2.2.2.2.2.1
      | i + 5, h => omega
  · unfold GPers at hP ⊢
    rw [r 0 (by omega), h81.2.2.2.1, r 33 (by omega), r 104 (by omega)]
    exact hP
  · have g : ∀ k, k < 4 → GSheet N k → GSheet N' k := by
      intro k hk h
      unfold GSheet at h ⊢
      rw [r (73 + 2 * k) (by omega), r 125 (by omega), r 126 (by omega), r (74 + 2 * k) (by omega), r 127 (by omega)]
      exact h
    exact ⟨g 0 (by decide) hS.1, g 1 (by decide) hS.2.1, g 2 (by decide) hS.2.2.1, g 3 (by decide) hS.2.2.2⟩
theorem feedK (x : BitVec 64) (k : Nat) (hk : k ≤ 56) : (x >>> k).signExtend 32 &&& 255#32 = (x.sshiftRight k).signExtend 32 &&& 255#32 := by
  apply BitVec.eq_of_getLsbD_eq
  intro j hj
  rw [BitVec.getLsbD_and, BitVec.getLsbD_and]
  by_cases h8 : j < 8
  · rw [BitVec.getLsbD_signExtend, BitVec.getLsbD_signExtend]
    simp [hj, show j < 64 by omega, BitVec.getElem_sshiftRight, BitVec.getLsbD_ushiftRight, BitVec.getLsbD_sshiftRight, show k + j < 64 by omega, show ¬ 64 ≤ j by omega]
  · have : (255#32).getLsbD j = false := by
      rw [BitVec.getLsbD_ofNat]
      have h2 : 2 ^ 8 ≤ 2 ^ j := Nat.pow_le_pow_right (by decide) (by omega)
      rw [Nat.testBit_lt_two_pow (by omega : 255 < 2 ^ j), Bool.and_false]
    rw [this, Bool.and_false, Bool.and_false]
/-- a byte of a long -/
def gB (y : Int64) (i : Nat) : Int32 := (Int64.toInt32 (UInt64.toInt64 (Int64.toUInt64 y >>> (Int64.toUInt64 (Int32.toInt64 (56 - (8 * nI i))) &&& Int64.toUInt64 63)))) &&& 255
theorem gB_ref (y : Int64) {i : Nat} (hi : i < 8) : (Int64.toInt32 (y >>> (Int32.toInt64 (56 - 8 * nI i) &&& 63))) &&& 255 = gB y i := by
  have A : ∀ i, i < 8 → ((Int64.toUInt64 (Int32.toInt64 (56 - (8 * nI i))) &&& Int64.toUInt64 63).toBitVec % 64#64).toNat = 56 - 8 * i := by decide
  have B : ∀ i, i < 8 → ((Int32.toInt64 (56 - 8 * nI i) &&& 63).toBitVec.smod 64#64).toNat = 56 - 8 * i := by decide
  unfold gB
  apply Int32.toBitVec_inj.mp
  rw [Int32.toBitVec_and, Int32.toBitVec_and]
  show ((y.toBitVec.sshiftRight ((Int32.toInt64 (56 - 8 * nI i) &&& 63).toBitVec.smod 64#64).toNat).signExtend 32) &&& 255#32 = ((y.toBitVec >>> ((Int64.toUInt64 (Int32.toInt64 (56 - (8 * nI i))) &&& Int64.toUInt64 63).toBitVec % 64#64)).signExtend 32) &&& 255#32
  rw [BitVec.ushiftRight_eq', A i hi, B i hi]
  exact (feedK y.toBitVec (56 - 8 * i) (by omega)).symm
theorem gB_byte (y : Int64) (i : Nat) : ∃ b, b < 256 ∧ gB y i = nI b := by
  unfold gB
  generalize Int64.toInt32 (UInt64.toInt64 (Int64.toUInt64 y >>> (Int64.toUInt64 (Int32.toInt64 (56 - (8 * nI i))) &&& Int64.toUInt64 63))) = x
  refine ⟨(x.toBitVec &&& 255#32).toNat, ?_, ?_⟩
  · rw [BitVec.toNat_and]
    exact Nat.lt_of_le_of_lt Nat.and_le_right (by decide)
  · apply Int32.toBitVec_inj.mp
    rw [Int32.toBitVec_and]
    show x.toBitVec &&& 255#32 = BitVec.ofNat 32 (x.toBitVec &&& 255#32).toNat
    rw [BitVec.ofNat_toNat, BitVec.setWidth_eq]
/-- eight bytes more in a row -/
def fdR (f : Nat → Int32) (s : Nat) (y : Int64) (j : Nat) : Nat → Int32 := fun q => if s ≤ q ∧ q < s + j then gB y (q - s) else f q
theorem fdR_0 (f : Nat → Int32) (s : Nat) (y : Int64) : fdR f s y 0 = f := by
  funext q
  exact if_neg (by omega)
theorem fdR_s (N : gN) (a s : Nat) (y : Int64) (j : Nat) : gup (grw N a (fdR (N a) s y j)) a (s + j) (gB y j) = grw N a (fdR (N a) s y (j + 1)) := by
  rw [gup_grw, grw_grw, grw_eq]
  congr 1
  funext q
  unfold fdR
  by_cases h : q = s + j
  · rw [if_pos h, if_pos (by omega), h, show s + j - s = j by omega]
  · rw [if_neg h]
    by_cases h2 : s ≤ q ∧ q < s + j
    · rw [if_pos h2, if_pos (by omega)]
    · rw [if_neg h2, if_neg (by omega)]
theorem q160 : (160 : Int32) = nI 160 := rfl
theorem cl_feed {ts : Nat} (y : Int64) {m : gM} (h : m.1 34 0 = nI ts) (hts : ts + 8 ≤ 160) : f_Tape_add 34 y m = some (nI (ts + 8), (gup (grw m.1 35 (fdR (m.1 35) ts y 8)) 34 0 (nI (ts + 8)), m.2)) := by
  have L : ∀ k, L_Tape_add_18 34 y k 1000 0 m = k (nI 8) (grw m.1 35 (fdR (m.1 35) ts y 8), m.2) := by
    intro k
    unfold L_Tape_add_18
    refine gloopS0 (fun (f : Int32 → gM → Option (Int32 × gM)) j (s : gM) => f (nI j) s) 8 (fun j => (grw m.1 35 (fdR (m.1 35) ts y j), m.2)) _ ?_ ?_ ?_ 1000 (by omega)
    · show (grw m.1 35 (fdR (m.1 35) ts y 0), m.2) = m
      rw [fdR_0, grw_id]
    · intro g j hj
      have e : grw m.1 35 (fdR (m.1 35) ts y j) 34 0 = nI ts := by rw [grw_ne (by decide)]; exact h
      simp (disch := omega) only [gfd_eq, glet_eq, gbind_eq, nI_ltI, nI_1, gok_nI, grd_nI, nI_clamp, if_true, if_false, Nat.lt_irrefl, hj, q8, e, nI_add, gst_nI, Nat.reduceAdd, i10, gokT]
      have := fdR_s m.1 35 ts y j
      unfold gB at this
      rw [← q8, this]
    · intro g
      simp (disch := omega) only [gfd_eq, glet_eq, gbind_eq, nI_ltI, nI_1, gok_nI, grd_nI, nI_clamp, if_true, if_false, Nat.lt_irrefl, q8, i10, gokT]
  have e : grw m.1 35 (fdR (m.1 35) ts y 8) 34 0 = nI ts := by rw [grw_ne (by decide)]; exact h
  have hn : ¬ 160 < ts + 8 := by omega
  unfold f_Tape_add J_Tape_add_55
  simp (disch := omega) only [gfd_eq, glet_eq, gbind_eq, nI_ltI, nI_1, gok_nI, grd_nI, nI_clamp, if_true, if_false, Nat.lt_irrefl, h, q8, q160, nI_add, hn, L, gsf_eq, e, gup_at, i10, gokT]
theorem mo_feedL {ts : Nat} (y : Int64) {m : gM} (h : m.1 81 37 = nI ts) (hts : ts + 8 ≤ 160) : f_MO_feed y m = some (nI (ts + 8), (gup (grw m.1 112 (fdR (m.1 112) ts y 8)) 81 37 (nI (ts + 8)), m.2)) := by
  have v0 : ∀ j, j < 8 → ¬ (56 - 8 * nI j : Int32) < 0 := by decide
  have v1 : ∀ j, j < 8 → (56 - 8 * nI j + (-8) : Int32) = 56 - 8 * nI (j + 1) := by decide
  have v2 : (56 - 8 * nI 8 : Int32) < 0 := by decide
  have L : ∀ k, L_MO_feed_19 y k 1000 56 m = k (56 - 8 * nI 8) (gup (grw m.1 112 (fdR (m.1 112) ts y 8)) 81 37 (nI (ts + 8)), m.2) := by
    intro k
    unfold L_MO_feed_19
    refine gloopS0 (fun (f : Int32 → gM → Option (Int32 × gM)) j (s : gM) => f (56 - 8 * nI j) s) 8 (fun j => (gup (grw m.1 112 (fdR (m.1 112) ts y j)) 81 37 (nI (ts + j)), m.2)) _ ?_ ?_ ?_ 1000 (by omega)
    · show (gup (grw m.1 112 (fdR (m.1 112) ts y 0)) 81 37 (nI ts), m.2) = m
      rw [fdR_0, grw_id, ← h, gup_grw]
      refine Prod.ext ?_ rfl
      show grw m.1 81 _ = m.1
      refine Eq.trans ?_ (grw_id m.1 81)
      congr 1
      funext q
      by_cases e : q = 37
      · rw [if_pos e, e]
      · rw [if_neg e]
    · intro g j hj
      simp (disch := omega) only [gfd_eq, glet_eq, gbind_eq, nI_ltI, nI_1, gok_nI, grd_nI, nI_clamp, if_true, if_false, Nat.lt_irrefl, v0 j hj, gup_at, gst_nI, gsf_eq, gB_ref y hj, v1 j hj, i10, gokT]
      have e1 : gup (gup (grw m.1 112 (fdR (m.1 112) ts y j)) 81 37 (nI (ts + j))) 112 (ts + j) (gB y j) 81 37 = nI (ts + j) := by
        rw [gup_row (by decide), gup_at]
      have e2 : gup (gup (gup (grw m.1 112 (fdR (m.1 112) ts y j)) 81 37 (nI (ts + j))) 112 (ts + j) (gB y j)) 81 37 (nI (ts + j + 1)) = gup (grw m.1 112 (fdR (m.1 112) ts y (j + 1))) 81 37 (nI (ts + (j + 1))) := by
        rw [← fdR_s]
        funext p q
        simp only [gup_all]
        by_cases hp : p = 81 ∧ q = 37
        · rw [if_pos hp, if_pos hp, Nat.add_assoc]
        · rw [if_neg hp, if_neg hp]
          by_cases hp2 : p = 112 ∧ q = ts + j
          · rw [if_pos hp2]
            simp only [if_pos hp2, if_neg hp]
          · rw [if_neg hp2]
            simp only [if_neg hp2, if_neg hp]
      rw [e1, nI_1, e2]
    · intro g
      simp (disch := omega) only [gfd_eq, glet_eq, gbind_eq, nI_ltI, nI_1, gok_nI, grd_nI, nI_clamp, if_true, if_false, Nat.lt_irrefl, v2, i10, gokT]
  have hn : ¬ 160 < ts + 8 := by omega
  unfold f_MO_feed J_MO_feed_56
  simp (disch := omega) only [gfd_eq, glet_eq, gbind_eq, nI_ltI, nI_1, gok_nI, grd_nI, nI_clamp, if_true, if_false, Nat.lt_irrefl, h, q8, q160, nI_add, hn, L, gup_at, i10, gokT]
theorem p_feed {n0 K : Nat} {m : gM} (y : Int64) (I : Inv n0 K m.1) : gBoth n0 K (f_OT_feed y) (f_MO_feed y) m := by
  obtain ⟨⟨ts, t0, t1, t2⟩, t3, ⟨by_, t4, t5⟩, t6⟩ := I.2.2.1
  by_cases h : ts + 8 ≤ 160
  · have c1 := cl_feed y t1 h
    have c2 := mo_feedL (ts := ts) y (m := (gup (grw m.1 35 (fdR (m.1 35) ts y 8)) 34 0 (nI (ts + 8)), m.2)) t2 h
    refine ⟨nI (ts + 8), _, _, ?_, c2, ?_⟩
    · unfold f_OT_feed
      rw [c1, gbind_eq]
    · refine (I.mono (Nat.le_succ n0)).tl (fun q hq => ?_) ⟨rfl, rfl, rfl, rfl, rfl, rfl, rfl⟩ ⟨⟨ts + 8, h, rfl, rfl⟩, ?_, ⟨fun i => if ts ≤ i ∧ i < ts + 8 then (gB y (i - ts)).toNatClampNeg else by_ i, ?_, fun i => ?_⟩, t6⟩ I.2.2.2.1
      · show gup _ _ _ _ q = _
        rw [gup_ne (by omega), grw_ne (by omega)]
        show gup _ _ _ _ q = _
        rw [gup_ne (by omega), grw_ne (by omega)]
      · show grw m.1 35 (fdR (m.1 35) ts y 8) 35 = fdR (m.1 112) ts y 8
        rw [grw_eq, t3]
      · show fdR (m.1 112) ts y 8 = _
        rw [t4]
        funext i
        show (if ts ≤ i ∧ i < ts + 8 then gB y (i - ts) else nI (by_ i)) = nI (if ts ≤ i ∧ i < ts + 8 then (gB y (i - ts)).toNatClampNeg else by_ i)
        by_cases hi : ts ≤ i ∧ i < ts + 8
        · rw [if_pos hi, if_pos hi]
          obtain ⟨b, hb, e⟩ := gB_byte y (i - ts)
          rw [e, nI_clamp (by omega)]
        · rw [if_neg hi, if_neg hi]
      · show (if ts ≤ i ∧ i < ts + 8 then (gB y (i - ts)).toNatClampNeg else by_ i) < 256
        by_cases hi : ts ≤ i ∧ i < ts + 8
        · rw [if_pos hi]
          obtain ⟨b, hb, e⟩ := gB_byte y (i - ts)
          rw [e, nI_clamp (by omega)]
          exact hb
        · rw [if_neg hi]; exact t5 i
  · have hn : 160 < ts + 8 := by omega
    refine gBoth.same (-3) I ?_ ?_
    · unfold f_OT_feed f_Tape_add
      simp (disch := omega) only [gfd_eq, glet_eq, gbind_eq, nI_ltI, nI_1, gok_nI, grd_nI, nI_clamp, if_true, if_false, Nat.lt_irrefl, t1, q8, q160, nI_add, hn, i10, gokT]
    · unfold f_MO_feed
      simp (disch := omega) only [gfd_eq, glet_eq, gbind_eq, nI_ltI, nI_1, gok_nI, grd_nI, nI_clamp, if_true, if_false, Nat.lt_irrefl, t2, q8, q160, nI_add, hn, i10, gokT]
