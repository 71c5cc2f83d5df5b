/-! ===== orders: all lines, the whole call ===== -/
theorem bfC.trans {N1 N2 N3 : gN} (a : bfC N1 N2) (b : bfC N2 N3) : bfC N1 N3 := ⟨fun p hp => (b.1 p hp).trans (a.1 p hp), fun h => b.2 (a.2 h)⟩
theorem bfM.trans {M1 M2 M3 : gN} (a : bfM M1 M2) (b : bfM M2 M3) : bfM M1 M3 := ⟨fun p h1 h2 => (b.1 p h1 h2).trans (a.1 p h1 h2), fun q hq => (b.2 q hq).trans (a.2 q hq)⟩
theorem bfC.rfl_ (N : gN) : bfC N N := ⟨fun _ _ => rfl, fun h => h⟩
theorem bfM.rfl_ (M : gN) : bfM M M := ⟨fun _ _ _ => rfl, fun _ _ => rfl⟩
theorem drB.add {nl q f n : Nat} {ru fr nu : Nat → Nat} (D : drB nl ru fr nu) (h : nl < 12) (hq : q ≤ 5) (hf : f ≤ 49) (hn : n ≤ 999) (hqn : q ≤ 1 → n ≤ 9) : drB (nl + 1) (addF ru nl q) (addF fr nl f) (addF nu nl n) := by
  refine ⟨by omega, fun k hk => ?_⟩
  unfold addF
  by_cases e : k = nl
  · rw [if_pos e, if_pos e, if_pos e]; exact ⟨hq, hf, hn, hqn⟩
  · rw [if_neg e, if_neg e, if_neg e]; exact D.2 k (by omega)
theorem rd_bind (o : Option (Int32 × gM)) (h : gM → Option gM) : (o.bind fun (r2 : Int32 × gM) => (f_Tape_readRule 34 r2.1 r2.2).bind fun (r3 : gM) => h r3) = (o.bind fun (r2 : Int32 × gM) => f_Tape_readRule 34 r2.1 r2.2).bind h := by
  cases o <;> rfl
theorem n160 {i : Nat} (h : i ≤ 160) : ¬ (160 : Int32) < nI i := nI_nlt (a := 160) (b := i) h (by decide)
section RDS
variable {ts : Nat} {by_ : Nat → Nat}
/-- the rest of the text, on both sides -/
theorem rest_both (hts : ts ≤ 160) (hby : ∀ i, by_ i < 256) : ∀ (r nl : Nat) (ru fr nu : Nat → Nat) (a s tc v : Nat), nl + r = 12 → drB nl ru fr nu → a ≤ ts → s ≤ ts → tc ≤ 9 → (tc ≠ 7 → v = 0) →
    (∃ (nl' : Nat) (ru' fr' nu' : Nat → Nat), drB nl' ru' fr' nu' ∧ (∀ (N : gN) (L : Nat → Nat → Int64) (pl : Int32) (i F : Nat), hyC ts by_ N → drC_ N nl ru fr nu → i + r ≤ 100 → r + 1 < F → ∃ (N' : gN) (a' tk' st' vl' : Int32), L_Tape_read_29 34 F (nI i) (tS N 0 pl (nI a) (nI tc) (nI s) (nI v), L) = some (tS N' 0 pl a' tk' st' vl', L) ∧ drC_ N' nl' ru' fr' nu' ∧ bfC N N') ∧ ∀ (M : gN) (L : Nat → Nat → Int64) (wa : Int32) (K : gM → Option (Int32 × gM)) (F : Nat), hyM ts by_ M → hyK M → drM_ M nl ru fr nu → r + 1 < F → ∃ (M' : gN) (a' st' tk' vl' : Int32), L_MO_orders_19 K F (rS M 0 wa (nI a) (nI s) (nI (rtk tc)) (nI (rvl tc v)), L) = K (rS M' 0 wa a' st' tk' vl', L) ∧ drM_ M' nl' ru' fr' nu' ∧ bfM M M') ∨
    ∃ k s' : Nat, 1 ≤ k ∧ k ≤ 5 ∧ s' ≤ ts ∧ (∀ (N : gN) (L : Nat → Nat → Int64) (pl : Int32) (i F : Nat), hyC ts by_ N → drC_ N nl ru fr nu → i + r ≤ 100 → r + 1 < F → ∃ (N' : gN) (a' tk' st' vl' : Int32), L_Tape_read_29 34 F (nI i) (tS N 0 pl (nI a) (nI tc) (nI s) (nI v), L) = some (tS N' (nI k) (nI s') a' tk' st' vl', L) ∧ bfC N N') ∧ ∀ (M : gN) (L : Nat → Nat → Int64) (wa : Int32) (K : gM → Option (Int32 × gM)) (F : Nat), hyM ts by_ M → hyK M → drM_ M nl ru fr nu → r + 1 < F → ∃ (M' : gN) (a' st' tk' vl' : Int32), L_MO_orders_19 K F (rS M 0 wa (nI a) (nI s) (nI (rtk tc)) (nI (rvl tc v)), L) = K (rS M' (nI k) (nI s') a' st' tk' vl', L) ∧ bfM M M' := by
  have z0 : ((0 : Int32) = 0) = True := eq_true rfl
  intro r
  induction r with
  | zero =>
    intro nl ru fr nu a s tc v hr B ha hs htc hv
    have hB : ∀ k, k < nl → ru k ≤ 5 ∧ fr k ≤ 49 ∧ nu k ≤ 999 := fun k hk => ⟨(B.2 k hk).1, (B.2 k hk).2.1, (B.2 k hk).2.2.1⟩
    by_cases h9 : tc = 9
    · subst h9
      refine Or.inl ⟨nl, ru, fr, nu, B, fun N L pl i F hC D hi hF => ⟨N, nI a, nI 9, nI s, nI v, ?_, D, bfC.rfl_ N⟩, fun M L wa K F hM hK D hF => ⟨M, nI a, nI s, nI (rtk 9), nI (rvl 9 v), ?_, D, bfM.rfl_ M⟩⟩
      · obtain ⟨F, rfl⟩ : ∃ F', F = F' + 1 := ⟨F - 1, by omega⟩
        rw [L_Tape_read_29_s, if_neg (n160 (i := i) (by omega)), show gfd (tS N 0 pl (nI a) (nI 9) (nI s) (nI v), L) 34 3 = 0 from rfl, if_pos rfl, show gfd (tS N 0 pl (nI a) (nI 9) (nI s) (nI v), L) 34 6 = 9 from rfl, if_pos rfl]
      · obtain ⟨F, rfl⟩ : ∃ F', F = F' + 1 := ⟨F - 1, by omega⟩
        rw [L_MO_orders_19_s, show gfd (rS M 0 wa (nI a) (nI s) (nI (rtk 9)) (nI (rvl 9 v)), L) 81 39 = 0 from rfl, if_pos rfl, show gfd (rS M 0 wa (nI a) (nI s) (nI (rtk 9)) (nI (rvl 9 v)), L) 81 43 = 0 from rfl, if_pos rfl]
    · have n9 : ¬ nI tc = 9 := fun z => by
        have := (eq_lit (b := tc) (k := 9) (by omega) (by decide)).mp z
        omega
      have r0 : ¬ nI (rtk tc) = 0 := fun z => by
        have hlt : rtk tc < 256 := by unfold rtk; split <;> (try split) <;> (try split) <;> omega
        have := (eq_lit (b := rtk tc) (k := 0) hlt (by decide)).mp z
        unfold rtk at this
        split at this
        · omega
        · split at this
          · omega
          · split at this <;> omega
      rcases line_both (v := v) hts hby (show nl ≤ 12 by omega) hB ha hs htc hv with ⟨a', s', tc', v', q, f, n, b1, b2, b3, b4, b0, b5, b6, b7, b8, b9, h1, h2⟩ | ⟨k, s', b1, b2, b3, h1, h2⟩
      · omega
      · have kk := k_ok b1 b2
        refine Or.inr ⟨k, s', b1, b2, b3, fun N L pl i F hC D hi hF => ?_, fun M L wa K F hM hK D hF => ?_⟩
        · obtain ⟨N', a', tk', st', vl', e, bf⟩ := h1 N L pl hC D
          refine ⟨N', a', tk', st', vl', ?_, bf⟩
          obtain ⟨F, rfl⟩ : ∃ F', F = F' + 1 + 1 := ⟨F - 2, by omega⟩
          have e : (f_Tape_readFrom 34 (tS N 0 pl (nI a) (nI tc) (nI s) (nI v), L)).bind (fun (r2 : Int32 × gM) => f_Tape_readRule 34 r2.1 r2.2) = some (tS N' (nI k) (nI s') a' tk' st' vl', L) := e
          rw [L_Tape_read_29_s, if_neg (n160 (i := i) (by omega)), show gfd (tS N 0 pl (nI a) (nI tc) (nI s) (nI v), L) 34 3 = 0 from rfl, if_pos rfl, show gfd (tS N 0 pl (nI a) (nI tc) (nI s) (nI v), L) 34 6 = nI tc from rfl, if_neg n9, rd_bind, e, gbind_eq, L_Tape_read_29_s, nI_1, if_neg (n160 (i := i + 1) (by omega)), show gfd (tS N' (nI k) (nI s') a' tk' st' vl', L) 34 3 = nI k from rfl, if_neg kk.1]
        · obtain ⟨M', a', st', tk', vl', e, bf⟩ := h2 M L wa hM hK D
          refine ⟨M', a', st', tk', vl', ?_, bf⟩
          obtain ⟨F, rfl⟩ : ∃ F', F = F' + 1 + 1 := ⟨F - 2, by omega⟩
          rw [L_MO_orders_19_s, show gfd (rS M 0 wa (nI a) (nI s) (nI (rtk tc)) (nI (rvl tc v)), L) 81 39 = 0 from rfl, if_pos rfl, show gfd (rS M 0 wa (nI a) (nI s) (nI (rtk tc)) (nI (rvl tc v)), L) 81 43 = nI (rtk tc) from rfl, if_neg r0]
          have e : f_MO_oneLine (rS M 0 wa (nI a) (nI s) (nI (rtk tc)) (nI (rvl tc v)), L) = some (rS M' (nI k) (nI s') a' st' tk' vl', L) := e
          rw [e, gbind_eq, L_MO_orders_19_s, show gfd (rS M' (nI k) (nI s') a' st' tk' vl', L) 81 39 = nI k from rfl, if_neg kk.1]
  | succ r ih =>
    intro nl ru fr nu a s tc v hr B ha hs htc hv
    have hB : ∀ k, k < nl → ru k ≤ 5 ∧ fr k ≤ 49 ∧ nu k ≤ 999 := fun k hk => ⟨(B.2 k hk).1, (B.2 k hk).2.1, (B.2 k hk).2.2.1⟩
    by_cases h9 : tc = 9
    · subst h9
      refine Or.inl ⟨nl, ru, fr, nu, B, fun N L pl i F hC D hi hF => ⟨N, nI a, nI 9, nI s, nI v, ?_, D, bfC.rfl_ N⟩, fun M L wa K F hM hK D hF => ⟨M, nI a, nI s, nI (rtk 9), nI (rvl 9 v), ?_, D, bfM.rfl_ M⟩⟩
      · obtain ⟨F, rfl⟩ : ∃ F', F = F' + 1 := ⟨F - 1, by omega⟩
        rw [L_Tape_read_29_s, if_neg (n160 (i := i) (by omega)), show gfd (tS N 0 pl (nI a) (nI 9) (nI s) (nI v), L) 34 3 = 0 from rfl, if_pos rfl, show gfd (tS N 0 pl (nI a) (nI 9) (nI s) (nI v), L) 34 6 = 9 from rfl, if_pos rfl]
      · obtain ⟨F, rfl⟩ : ∃ F', F = F' + 1 := ⟨F - 1, by omega⟩
        rw [L_MO_orders_19_s, show gfd (rS M 0 wa (nI a) (nI s) (nI (rtk 9)) (nI (rvl 9 v)), L) 81 39 = 0 from rfl, if_pos rfl, show gfd (rS M 0 wa (nI a) (nI s) (nI (rtk 9)) (nI (rvl 9 v)), L) 81 43 = 0 from rfl, if_pos rfl]
    · have n9 : ¬ nI tc = 9 := fun z => by
        have := (eq_lit (b := tc) (k := 9) (by omega) (by decide)).mp z
        omega
      have r0 : ¬ nI (rtk tc) = 0 := fun z => by
        have hlt : rtk tc < 256 := by unfold rtk; split <;> (try split) <;> (try split) <;> omega
        have := (eq_lit (b := rtk tc) (k := 0) hlt (by decide)).mp z
        unfold rtk at this
        split at this
        · omega
        · split at this
          · omega
          · split at this <;> omega
      have cS : ∀ (N : gN) (L : Nat → Nat → Int64) (pl : Int32) (i F : Nat) (X : gM), i ≤ 100 → cLine (tS N 0 pl (nI a) (nI tc) (nI s) (nI v), L) = some X → L_Tape_read_29 34 (F + 1) (nI i) (tS N 0 pl (nI a) (nI tc) (nI s) (nI v), L) = L_Tape_read_29 34 F (nI (i + 1)) X := by
        intro N L pl i F X hi e
        have e : (f_Tape_readFrom 34 (tS N 0 pl (nI a) (nI tc) (nI s) (nI v), L)).bind (fun (r2 : Int32 × gM) => f_Tape_readRule 34 r2.1 r2.2) = some X := e
        rw [L_Tape_read_29_s, if_neg (n160 (i := i) (by omega)), show gfd (tS N 0 pl (nI a) (nI tc) (nI s) (nI v), L) 34 3 = 0 from rfl, if_pos rfl, show gfd (tS N 0 pl (nI a) (nI tc) (nI s) (nI v), L) 34 6 = nI tc from rfl, if_neg n9, rd_bind, e, gbind_eq, nI_1]
      have mS : ∀ (M : gN) (L : Nat → Nat → Int64) (wa : Int32) (K : gM → Option (Int32 × gM)) (F : Nat) (X : gM), f_MO_oneLine (rS M 0 wa (nI a) (nI s) (nI (rtk tc)) (nI (rvl tc v)), L) = some X → L_MO_orders_19 K (F + 1) (rS M 0 wa (nI a) (nI s) (nI (rtk tc)) (nI (rvl tc v)), L) = L_MO_orders_19 K F X := by
        intro M L wa K F X e
        rw [L_MO_orders_19_s, show gfd (rS M 0 wa (nI a) (nI s) (nI (rtk tc)) (nI (rvl tc v)), L) 81 39 = 0 from rfl, if_pos rfl, show gfd (rS M 0 wa (nI a) (nI s) (nI (rtk tc)) (nI (rvl tc v)), L) 81 43 = nI (rtk tc) from rfl, if_neg r0, e, gbind_eq]
      rcases line_both (v := v) hts hby (show nl ≤ 12 by omega) hB ha hs htc hv with ⟨a', s', tc', v', q, f, n, b1, b2, b3, b4, b0, b5, b6, b7, b8, b9, h1, h2⟩ | ⟨k, s', b1, b2, b3, h1, h2⟩
      · -- the next line
        have B' := B.add b9 b5 b6 b7 b8
        rcases ih (nl + 1) _ _ _ a' s' tc' v' (by omega) B' b1 b2 b3 b0 with ⟨nl', ru', fr', nu', B2, i1, i2⟩ | ⟨k, s2, c1, c2, c3, i1, i2⟩
        · refine Or.inl ⟨nl', ru', fr', nu', B2, fun N L pl i F hC D hi hF => ?_, fun M L wa K F hM hK D hF => ?_⟩
          · obtain ⟨F, rfl⟩ : ∃ F', F = F' + 1 := ⟨F - 1, by omega⟩
            obtain ⟨N', y1, y2, y3, y4, e, D', bf⟩ := i1 (adC N nl q f n) L pl (i + 1) F hC.add D.add (by omega) (by omega)
            refine ⟨N', y1, y2, y3, y4, ?_, D', (adC_bf N nl q f n).trans bf⟩
            rw [cS N L pl i F _ (by omega) (h1 N L pl hC D)]
            exact e
          · obtain ⟨F, rfl⟩ : ∃ F', F = F' + 1 := ⟨F - 1, by omega⟩
            obtain ⟨M', y1, y2, y3, y4, e, D', bf⟩ := i2 (adM M nl q f n) L wa K F hM.add hK.add D.add (by omega)
            refine ⟨M', y1, y2, y3, y4, ?_, D', (adM_bf M nl q f n).trans bf⟩
            rw [mS M L wa K F _ (h2 M L wa hM hK D)]
            exact e
        · refine Or.inr ⟨k, s2, c1, c2, c3, fun N L pl i F hC D hi hF => ?_, fun M L wa K F hM hK D hF => ?_⟩
          · obtain ⟨F, rfl⟩ : ∃ F', F = F' + 1 := ⟨F - 1, by omega⟩
            obtain ⟨N', y1, y2, y3, y4, e, bf⟩ := i1 (adC N nl q f n) L pl (i + 1) F hC.add D.add (by omega) (by omega)
            refine ⟨N', y1, y2, y3, y4, ?_, (adC_bf N nl q f n).trans bf⟩
            rw [cS N L pl i F _ (by omega) (h1 N L pl hC D)]
            exact e
          · obtain ⟨F, rfl⟩ : ∃ F', F = F' + 1 := ⟨F - 1, by omega⟩
            obtain ⟨M', y1, y2, y3, y4, e, bf⟩ := i2 (adM M nl q f n) L wa K F hM.add hK.add D.add (by omega)
            refine ⟨M', y1, y2, y3, y4, ?_, (adM_bf M nl q f n).trans bf⟩
            rw [mS M L wa K F _ (h2 M L wa hM hK D)]
            exact e
      · have kk := k_ok b1 b2
        refine Or.inr ⟨k, s', b1, b2, b3, fun N L pl i F hC D hi hF => ?_, fun M L wa K F hM hK D hF => ?_⟩
        · obtain ⟨N', a', tk', st', vl', e, bf⟩ := h1 N L pl hC D
          refine ⟨N', a', tk', st', vl', ?_, bf⟩
          obtain ⟨F, rfl⟩ : ∃ F', F = F' + 1 + 1 := ⟨F - 2, by omega⟩
          rw [cS N L pl i (F + 1) _ (by omega) e, L_Tape_read_29_s, if_neg (n160 (i := i + 1) (by omega)), show gfd (tS N' (nI k) (nI s') a' tk' st' vl', L) 34 3 = nI k from rfl, if_neg kk.1]
        · obtain ⟨M', a', st', tk', vl', e, bf⟩ := h2 M L wa hM hK D
          refine ⟨M', a', st', tk', vl', ?_, bf⟩
          obtain ⟨F, rfl⟩ : ∃ F', F = F' + 1 + 1 := ⟨F - 2, by omega⟩
          rw [mS M L wa K (F + 1) _ e, L_MO_orders_19_s, show gfd (rS M' (nI k) (nI s') a' st' tk' vl', L) 81 39 = nI k from rfl, if_neg kk.1]
end RDS
