/-! ===== oil moved by the town, lot by lot ===== -/
theorem mvA_far {ol fo dd : Nat → Nat} {n T : Nat} (h : ∀ t, t < T → dd t < n ∨ fo t = 0) {q : Nat} (hq : 9 * n ≤ q) : ∀ t, t ≤ T → mvA ol fo dd t q = 0
  | 0, _ => rfl
  | t + 1, ht => by
    have ih := mvA_far (ol := ol) h hq t (by omega)
    show (if 9 * dd t ≤ q ∧ q < 9 * dd t + 9 then mvA ol fo dd t q + tk (mvO ol fo t) (t / 4) (fo t) (q - 9 * dd t) else mvA ol fo dd t q) = 0
    rcases h t (by omega) with z | z
    · rw [if_neg (by omega), ih]
    · rw [z, tk_zero, ih]
      split <;> rfl
theorem rvI_far {fw dd : Nat → Nat} {n T : Nat} (h : ∀ t, t < T → dd t < n ∨ fw t = 0) {q : Nat} (hq : n ≤ q) : ∀ t, t ≤ T → rvI fw dd t q = 0
  | 0, _ => rfl
  | t + 1, ht => by
    have ih := rvI_far h hq t (by omega)
    show (if q = dd t then rvI fw dd t q + fw t else rvI fw dd t q) = 0
    rw [ih]
    rcases h t (by omega) with z | z
    · rw [if_neg (by omega)]
    · rw [z]; split <;> rfl
theorem L10_s (a p1 : Nat) (K : Int32 → gM → Option gM) (F : Nat) (v7 : Int32) (m8 : gM) : L_Currents_moveGround_10 a p1 K (F + 1) v7 m8 = (if v7 < (gfd m8 a 2) then (gok (gib v7 144) (gok (gib v7 144) ((f_Ground_take p1 (grd m8 (a + 3) v7) (grd m8 (a + 5) v7) (a + 1) m8).bind fun (r3 : gM) => L_Currents_moveGround_40 a v7 (fun v10 m10 => J_Currents_moveGround_77 (L_Currents_moveGround_10 a p1 K F) v7 v10 m10) 1000 0 r3))) else (K v7 m8)) := rfl
/-- the arrivals of one flow -/
theorem cl_arrive {i d : Nat} {t : Nat → Nat} {N : gN} {L : Nat → Nat → Int64} (K : Int32 → gM → Option gM) (hi : i < 144) (hd : d < 36) (h50 : N 50 i = nI d) (h47 : ∀ l, l < 9 → N 47 l = nI (t l)) : L_Currents_moveGround_40 46 (nI i) K 1000 0 (N, L) = K (nI 9) (grw N 53 (adR (N 53) d t 9), L) := by
  unfold L_Currents_moveGround_40
  refine gloopS0 (fun (g : Int32 → gM → Option gM) j (s : gM) => g (nI j) s) 9 (fun j => (grw N 53 (adR (N 53) d t j), L)) _ ?_ ?_ ?_ 1000 (by omega)
  · show (grw N 53 (adR (N 53) d t 0), L) = _
    rw [adR_0, grw_id]
  · intro g j hj
    have a1 : grw N 53 (adR (N 53) d t j) 53 (9 * d + j) = N 53 (9 * d + j) := by rw [grw_eq, adR_at]
    have a2 : grw N 53 (adR (N 53) d t j) 47 j = nI (t j) := by rw [grw_ne (by decide)]; exact h47 j hj
    have a3 : grw N 53 (adR (N 53) d t j) 50 i = nI d := by rw [grw_ne (by decide)]; exact h50
    simp (disch := omega) only [gfd_eq, glet_eq, gbind_eq, nI_ltI, nI_1, gok_nI, grd_nI, nI_clamp, if_true, if_false, Nat.lt_irrefl, hj, q9, a3, pk_mul, Nat.mul_comm d 9, nI_add, a1, a2, gst_nI, adR_s, Nat.reduceAdd, i10, gokT]
  · intro g
    simp (disch := omega) only [gfd_eq, glet_eq, gbind_eq, nI_ltI, nI_1, gok_nI, grd_nI, nI_clamp, if_true, if_false, Nat.lt_irrefl, q9, i10, gokT]
section MG
variable {T : Nat} {b : Nat → Bool} {ol fo dd : Nat → Nat} {vt vo f3 f4 f5 : Nat → Int32} {S : gN} {L : Nat → Nat → Int64}
theorem mgTake (K : Int32 → gM → Option gM) (hT : T ≤ 144) (h2 : S 46 2 = nI (cnt b T)) (h3 : S 49 = aR b vfF f3 T) (h4 : S 50 = aR b vt f4 T) (h5 : S 51 = aR b vo f5 T) (hv : ∀ t, t < T → b t = true → vo t = nI (fo t) ∧ vt t = nI (dd t) ∧ dd t < 36) (hn : ∀ t, b t = false → fo t = 0) (hf : ∀ c, gsum (fun s => fo (4 * c + s)) 4 ≤ osum ol c) (hb : ∀ c, c < 36 → osum ol c < 2 ^ 31) :
    ∀ (r t : Nat) (N : gN), t + r = T → N 11 = (fun i => nI (mvO ol fo t i)) → N 9 = (fun c => nI (osum (mvO ol fo t) c)) → (∀ q, q < 324 → N 53 q = nI (mvA ol fo dd t q)) → (∀ q, q ≠ 9 → q ≠ 11 → q ≠ 47 → q ≠ 53 → N q = S q) →
      ∃ N' : gN, N' 11 = (fun i => nI (mvO ol fo T i)) ∧ N' 9 = (fun c => nI (osum (mvO ol fo T) c)) ∧ (∀ q, q < 324 → N' 53 q = nI (mvA ol fo dd T q)) ∧ (∀ q, q ≠ 9 → q ≠ 11 → q ≠ 47 → q ≠ 53 → N' q = S q) ∧ ∀ F, cnt b T < F + cnt b t → L_Currents_moveGround_10 46 2 K F (nI (cnt b t)) (N, L) = K (nI (cnt b T)) (N', L) := by
  intro r
  induction r with
  | zero =>
    intro t N ht n11 n9 n53 nS
    have : t = T := by omega
    subst this
    have hc := cnt_le b t
    refine ⟨N, n11, n9, n53, nS, fun F hF => ?_⟩
    obtain ⟨F, rfl⟩ : ∃ F', F = F' + 1 := ⟨F - 1, by omega⟩
    have e2 : N 46 2 = nI (cnt b t) := by rw [nS 46 (by decide) (by decide) (by decide) (by decide)]; exact h2
    rw [L10_s]
    simp (disch := omega) only [gfd_eq, glet_eq, gbind_eq, nI_ltI, nI_1, gok_nI, grd_nI, nI_clamp, if_true, if_false, Nat.lt_irrefl, e2, i10, gokT]
  | succ r ih =>
    intro t N ht n11 n9 n53 nS
    have ht' : t < T := by omega
    have hcT := cnt_le b T
    obtain ⟨k, hk⟩ : ∃ k, T = t + 1 + k := ⟨T - (t + 1), by omega⟩
    cases hbt : b t with
    | false =>
      have no := mv_none (ol := ol) (fo := fo) (wt := fun _ => 0) (fw := fun _ => 0) (dd := dd) (t := t) (hn t hbt) rfl
      have ce : cnt b (t + 1) = cnt b t := if_neg (by rw [hbt]; decide)
      have IH := ih (t + 1) N (by omega) (by rw [no.1]; exact n11) (by rw [no.1]; exact n9) (by rw [no.2.1]; exact n53) nS
      rw [ce] at IH
      exact IH
    | true =>
      have ce : cnt b (t + 1) = cnt b t + 1 := if_pos hbt
      have cm : cnt b (t + 1) ≤ cnt b T := by rw [hk]; exact cnt_mono b k
      obtain ⟨v1, v2, v3⟩ := hv t ht' hbt
      have ok := mvO_ok hf t
      have hlt : cnt b t < cnt b T := by omega
      have t36 : t / 4 < 36 := by omega
      have e2 : N 46 2 = nI (cnt b T) := by rw [nS 46 (by decide) (by decide) (by decide) (by decide)]; exact h2
      have e3 : N 49 (cnt b t) = nI (t / 4) := by rw [nS 49 (by decide) (by decide) (by decide) (by decide), h3, hk, aR_at b _ _ hbt]; rfl
      have e5 : N 51 (cnt b t) = nI (fo t) := by rw [nS 51 (by decide) (by decide) (by decide) (by decide), h5, hk, aR_at b _ _ hbt]; exact v1
      have e4 : N 50 (cnt b t) = nI (dd t) := by rw [nS 50 (by decide) (by decide) (by decide) (by decide), h4, hk, aR_at b _ _ hbt]; exact v2
      have sm := mvO_sum hf t (t / 4)
      have hbb := hb (t / 4) t36
      have tkr := cl_take (m := (N, L)) (p3 := 47) t36 n11 (congrFun n9 (t / 4)) ok (by omega) (by decide)
      let N1 : gN := gup (grw (grw N 47 (tkR (N 47) (mvO ol fo t) (t / 4) (fo t) 9)) 11 (fun i => nI (tkO (mvO ol fo t) (t / 4) (fo t) i))) 9 (t / 4) (nI (osum (mvO ol fo t) (t / 4) - fo t))
      have tkr : f_Ground_take 2 (nI (t / 4)) (nI (fo t)) (46 + 1) (N, L) = some (N1, L) := tkr
      have r1 : ∀ q, q ≠ 9 → q ≠ 11 → q ≠ 47 → N1 q = N q := by
        intro q z1 z2 z3
        show gup (grw (grw N 47 _) 11 _) 9 _ _ q = _
        rw [gup_ne z1, grw_ne z2, grw_ne z3]
      have r47 : ∀ l, l < 9 → N1 47 l = nI (tk (mvO ol fo t) (t / 4) (fo t) l) := by
        intro l hl
        show gup (grw (grw N 47 _) 11 _) 9 _ _ 47 l = _
        rw [gup_row (by decide), grw_ne (by decide), grw_eq]
        unfold tkR
        rw [if_pos hl]
      have r11 : N1 11 = fun i => nI (mvO ol fo (t + 1) i) := by
        show gup (grw (grw N 47 _) 11 _) 9 _ _ 11 = _
        rw [gup_ne (by decide), grw_eq]
        rfl
      have r9 : N1 9 = fun c => nI (osum (mvO ol fo (t + 1)) c) := by
        show gup (grw (grw N 47 _) 11 _) 9 _ _ 9 = _
        rw [gup_eq, grw_ne (by decide), grw_ne (by decide), n9]
        funext c
        show (if c = t / 4 then nI (osum (mvO ol fo t) (t / 4) - fo t) else nI (osum (mvO ol fo t) c)) = nI (osum (tkO (mvO ol fo t) (t / 4) (fo t)) c)
        rw [tkO_sum ok]
        split <;> rfl
      have ar := fun K' => cl_arrive (i := cnt b t) (d := dd t) (t := tk (mvO ol fo t) (t / 4) (fo t)) (N := N1) (L := L) K' (by omega) v3 (by rw [r1 50 (by decide) (by decide) (by decide)]; exact e4) r47
      clear_value N1
      obtain ⟨N', i1, i2, i3, i4, i5⟩ := ih (t + 1) (grw N1 53 (adR (N1 53) (dd t) (tk (mvO ol fo t) (t / 4) (fo t)) 9)) (by omega) (by rw [grw_ne (by decide)]; exact r11) (by rw [grw_ne (by decide)]; exact r9) (fun q hq => by
          rw [grw_eq, r1 53 (by decide) (by decide) (by decide)]
          show (if 9 * dd t ≤ q ∧ q < 9 * dd t + 9 then N 53 q + nI (tk (mvO ol fo t) (t / 4) (fo t) (q - 9 * dd t)) else N 53 q) = nI (if 9 * dd t ≤ q ∧ q < 9 * dd t + 9 then mvA ol fo dd t q + tk (mvO ol fo t) (t / 4) (fo t) (q - 9 * dd t) else mvA ol fo dd t q)
          rw [n53 q hq, nI_add]
          split <;> rfl) (fun q z1 z2 z3 z4 => by rw [grw_ne z4, r1 q z1 z2 z3]; exact nS q z1 z2 z3 z4)
      refine ⟨N', i1, i2, i3, i4, fun F hF => ?_⟩
      obtain ⟨F, rfl⟩ : ∃ F', F = F' + 1 := ⟨F - 1, by omega⟩
      have i5 := i5 F (by omega)
      rw [ce] at i5
      rw [L10_s]
      unfold J_Currents_moveGround_77
      simp (disch := omega) only [gfd_eq, glet_eq, gbind_eq, nI_ltI, nI_1, gok_nI, grd_nI, nI_clamp, if_true, if_false, Nat.lt_irrefl, e2, hlt, e3, e5, tkr, ar, Nat.reduceAdd, i10, gokT]
      exact i5
end MG
/-- what has arrived is put to what lies there -/
def ggR (O A : Nat → Nat) (x : Nat) : Nat → Int32 := fun q => if q < x then nI (O q + A q) else nI (O q)
def ggS (O A : Nat → Nat) (c y : Nat) : Nat → Int32 := fun q => if q < c then nI (osum O q + osum A q) else if q = c then nI (osum O c + y) else nI (osum O q)
theorem cl_put2 {n : Nat} {O A : Nat → Nat} {N : gN} {L : Nat → Nat → Int64} (K : Int32 → gM → Option gM) (hn : n ≤ 36) (h2 : N 3 2 = nI n) (h11 : N 11 = fun i => nI (O i)) (h9 : N 9 = fun c => nI (osum O c)) (h53 : ∀ q, q < 324 → N 53 q = nI (A q)) : L_Currents_moveGround_85 46 2 K 1000 0 (N, L) = K (nI n) (grw (grw N 11 (ggR O A (9 * n))) 9 (ggS O A n 0), L) := by
  have s11 : ∀ (M : gN) (x : Nat), gup (grw M 11 (ggR O A x)) 11 x (nI (O x + A x)) = grw M 11 (ggR O A (x + 1)) := by
    intro M x
    rw [gup_grw, grw_grw, grw_eq]
    congr 1
    funext q
    unfold ggR
    by_cases z : q = x
    · rw [if_pos z, if_pos (by omega), z]
    · rw [if_neg z]
      by_cases z2 : q < x
      · rw [if_pos z2, if_pos (by omega)]
      · rw [if_neg z2, if_neg (by omega)]
  have s9 : ∀ (M : gN) (c y y' : Nat), gup (grw M 9 (ggS O A c y)) 9 c (nI (osum O c + y')) = grw M 9 (ggS O A c y') := by
    intro M c y y'
    rw [gup_grw, grw_grw, grw_eq]
    congr 1
    funext q
    unfold ggS
    by_cases z : q = c
    · rw [if_pos z, if_neg (by omega), if_pos z]
    · rw [if_neg z]
      by_cases z2 : q < c
      · rw [if_pos z2, if_pos z2]
      · rw [if_neg z2, if_neg z2, if_neg z, if_neg z]
  have inner : ∀ (c : Nat) (K' : Int32 → gM → Option gM), c < n → L_Currents_moveGround_98 46 2 (nI c) K' 1000 0 (grw (grw N 11 (ggR O A (9 * c))) 9 (ggS O A c 0), L) = K' (nI 9) (grw (grw N 11 (ggR O A (9 * (c + 1)))) 9 (ggS O A (c + 1) 0), L) := by
    intro c K' hc
    have e9 : ggS O A c (gsum (fun l => A (9 * c + l)) 9) = ggS O A (c + 1) 0 := by
      funext q
      unfold ggS
      rw [← osum_eq]
      by_cases z : q < c
      · rw [if_pos z, if_pos (by omega)]
      · rw [if_neg z]
        by_cases z2 : q = c
        · rw [if_pos z2, if_pos (by omega), z2]
        · rw [if_neg z2, if_neg (by omega)]
          by_cases z3 : q = c + 1
          · rw [if_pos z3, z3]; rfl
          · rw [if_neg z3]
    unfold L_Currents_moveGround_98
    rw [← e9, show 9 * (c + 1) = 9 * c + 9 by omega]
    refine gloopS0 (fun (g : Int32 → gM → Option gM) j (s : gM) => g (nI j) s) 9 (fun j => (grw (grw N 11 (ggR O A (9 * c + j))) 9 (ggS O A c (gsum (fun l => A (9 * c + l)) j)), L)) _ rfl ?_ ?_ 1000 (by omega)
    · intro g j hj
      have a1 : grw (grw N 11 (ggR O A (9 * c + j))) 9 (ggS O A c (gsum (fun l => A (9 * c + l)) j)) 11 (9 * c + j) = nI (O (9 * c + j)) := by
        rw [grw_ne (by decide), grw_eq]
        exact if_neg (by omega)
      have a2 : grw (grw N 11 (ggR O A (9 * c + j))) 9 (ggS O A c (gsum (fun l => A (9 * c + l)) j)) 53 (9 * c + j) = nI (A (9 * c + j)) := by
        rw [grw_ne (by decide), grw_ne (by decide)]
        exact h53 _ (by omega)
      have a3 : gup (grw (grw N 11 (ggR O A (9 * c + j))) 9 (ggS O A c (gsum (fun l => A (9 * c + l)) j))) 11 (9 * c + j) (nI (O (9 * c + j) + A (9 * c + j))) = grw (grw N 11 (ggR O A (9 * c + j + 1))) 9 (ggS O A c (gsum (fun l => A (9 * c + l)) j)) := by
        rw [gup_grw2 _ (by decide), s11]
      have a4 : grw (grw N 11 (ggR O A (9 * c + j + 1))) 9 (ggS O A c (gsum (fun l => A (9 * c + l)) j)) 9 c = nI (osum O c + gsum (fun l => A (9 * c + l)) j) := by
        rw [grw_eq]
        unfold ggS
        rw [if_neg (by omega), if_pos rfl]
      have a5 : grw (grw N 11 (ggR O A (9 * c + j + 1))) 9 (ggS O A c (gsum (fun l => A (9 * c + l)) j)) 53 (9 * c + j) = nI (A (9 * c + j)) := by
        rw [grw_ne (by decide), grw_ne (by decide)]
        exact h53 _ (by omega)
      have a6 : gup (grw (grw N 11 (ggR O A (9 * c + j + 1))) 9 (ggS O A c (gsum (fun l => A (9 * c + l)) j))) 9 c (nI (osum O c + gsum (fun l => A (9 * c + l)) j + A (9 * c + j))) = grw (grw N 11 (ggR O A (9 * c + j + 1))) 9 (ggS O A c (gsum (fun l => A (9 * c + l)) (j + 1))) := by
        rw [Nat.add_assoc (osum O c)]
        exact s9 _ _ _ _
      simp (disch := omega) only [gfd_eq, glet_eq, gbind_eq, nI_ltI, nI_1, gok_nI, grd_nI, nI_clamp, if_true, if_false, Nat.lt_irrefl, hj, q9, pk_mul, Nat.mul_comm c 9, nI_add, a1, a2, gst_nI, a3, a4, a5, a6, Nat.reduceAdd, i10, gokT]
      rfl
    · intro g
      simp (disch := omega) only [gfd_eq, glet_eq, gbind_eq, nI_ltI, nI_1, gok_nI, grd_nI, nI_clamp, if_true, if_false, Nat.lt_irrefl, q9, i10, gokT]
  unfold L_Currents_moveGround_85
  refine gloopS0 (fun (g : Int32 → gM → Option gM) j (s : gM) => g (nI j) s) n (fun j => (grw (grw N 11 (ggR O A (9 * j))) 9 (ggS O A j 0), L)) _ ?_ ?_ ?_ 1000 (by omega)
  · show (grw (grw N 11 (ggR O A (9 * 0))) 9 (ggS O A 0 0), L) = (N, L)
    have e1 : ggR O A (9 * 0) = N 11 := by
      rw [h11]
      funext q
      exact if_neg (by omega)
    have e2 : ggS O A 0 0 = N 9 := by
      rw [h9]
      funext q
      unfold ggS
      rw [if_neg (by omega)]
      by_cases z : q = 0
      · rw [if_pos z, z]; rfl
      · rw [if_neg z]
    rw [e1, e2, grw_id, grw_id]
  · intro g j hj
    have e2 : grw (grw N 11 (ggR O A (9 * j))) 9 (ggS O A j 0) 3 2 = nI n := by rw [grw_ne (by decide), grw_ne (by decide)]; exact h2
    have i := inner j (fun v6 m5 => J_Currents_moveGround_158 g (nI j) v6 m5) hj
    simp (disch := omega) only [gfd_eq, glet_eq, gbind_eq, nI_ltI, nI_1, gok_nI, grd_nI, nI_clamp, if_true, if_false, Nat.lt_irrefl, e2, hj, i, Nat.reduceAdd, i10, gokT]
    unfold J_Currents_moveGround_158
    rw [nI_1]
  · intro g
    have e2 : grw (grw N 11 (ggR O A (9 * n))) 9 (ggS O A n 0) 3 2 = nI n := by rw [grw_ne (by decide), grw_ne (by decide)]; exact h2
    simp (disch := omega) only [gfd_eq, glet_eq, gbind_eq, nI_ltI, nI_1, gok_nI, grd_nI, nI_clamp, if_true, if_false, Nat.lt_irrefl, e2, Nat.reduceAdd, i10, gokT]
