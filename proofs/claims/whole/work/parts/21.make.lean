/-! ===== runs that make cells: rules ===== -/
def gEy (d : Nat) (code : gC) (pc : Nat) (ls : gL) (st : List Value) (s : gS) (bd : Nat × Nat) (r : Option Value × gS) : Prop := ∃ n, gexec (gR gmi gdf gcd d) gmi gdf code (fun v t => (v, t) = r) n pc ls st s bd
theorem gR_ofy {d q ci n mx c1 c2 : Nat} {code : gC} {as : List Value} {s : gS} {r : Option Value × gS} (hmi : gmi q = some (ci, n, c1, c2)) (hcd : gcd q = some (mx, code)) (hlen : (lg_sl as).length ≤ mx) (h : gEy d code 0 (gent mx as) [] s (c1, c2) r) : gR gmi gdf gcd (d + 1) q as s r := by
  unfold gR
  rw [hmi, hcd]
  exact ⟨hlen, h⟩
section GEY
variable {d : Nat} {code : gC} {pc : Nat} {ls : gL} {st : List Value} {s : gS} {bd : Nat × Nat} {r : Option Value × gS} {nx kp : Nat} {v : Int32}
theorem gEy.one {ins : Instr} {nx' : Nat} {ls' : gL} {st' : List Value} {s' : gS} {bd' : Nat × Nat} (hc : code pc = some (ins, nx, v, kp)) (hk : gkeep ls kp = ls)
    (h : ∀ (post : gPost) (k : Nat → gL → List Value → gS → Nat × Nat → Prop), k nx' ls' st' s' bd' → gstep (gR gmi gdf gcd d) gmi gdf ins nx v ls st s bd post k) (k : gEy d code nx' ls' st' s' bd' r) : gEy d code pc ls st s bd r := by
  obtain ⟨n, hn⟩ := k
  refine ⟨n + 1, ?_⟩
  unfold gexec
  rw [hc]
  dsimp only
  rw [hk]
  exact h _ _ hn
theorem gEy.lab {ins : Instr} {ls' : gL} (hc : code pc = some (ins, nx, v, kp)) (hk : gkeep ls kp = ls') (k : gEy d code pc ls' st s bd r) : gEy d code pc ls st s bd r := by
  obtain ⟨n, hn⟩ := k
  refine ⟨n, ?_⟩
  cases n with
  | zero => exact (hn : False).elim
  | succ n =>
    unfold gexec at hn ⊢
    rw [hc] at hn ⊢
    dsimp only at hn ⊢
    rw [← hk, gkeep_idem] at hn
    exact hn
theorem gEy.iconst {i : Int} (hc : code pc = some (.iconst i, nx, v, kp)) (hk : gkeep ls kp = ls) (k : gEy d code nx ls (.int v :: st) s bd r) : gEy d code pc ls st s bd r := gEy.one hc hk (fun _ _ h => h) k
theorem gEy.aload {i x : Nat} (hc : code pc = some (.aload i, nx, v, kp)) (hk : gkeep ls kp = ls) (hg : gget ls i = some (.ref x)) (k : gEy d code nx ls (.ref x :: st) s bd r) : gEy d code pc ls st s bd r :=
  gEy.one hc hk (fun post k h => by show (match gget ls i with | some (.ref x) => k nx ls (.ref x :: st) s bd | some (.retAddr x) => k nx ls (.retAddr x :: st) s bd | _ => False); rw [hg]; exact h) k
theorem gEy.iload {i : Nat} {x : Int32} (hc : code pc = some (.iload i, nx, v, kp)) (hk : gkeep ls kp = ls) (hg : gget ls i = some (.int x)) (k : gEy d code nx ls (.int x :: st) s bd r) : gEy d code pc ls st s bd r :=
  gEy.one hc hk (fun post k h => by show (match gget ls i with | some (.int x) => k nx ls (.int x :: st) s bd | _ => False); rw [hg]; exact h) k
theorem gEy.istore {i : Nat} {x : Int32} {ls' : gL} (hc : code pc = some (.istore i, nx, v, kp)) (hk : gkeep ls kp = ls) (hs : gset ls i (.int x) = ls') (k : gEy d code nx ls' st s bd r) : gEy d code pc ls (.int x :: st) s bd r :=
  gEy.one hc hk (fun post k h => by show k nx (gset ls i (.int x)) st s bd; rw [hs]; exact h) k
theorem gEy.astore {i x : Nat} {ls' : gL} (hc : code pc = some (.astore i, nx, v, kp)) (hk : gkeep ls kp = ls) (hs : gset ls i (.ref x) = ls') (k : gEy d code nx ls' st s bd r) : gEy d code pc ls (.ref x :: st) s bd r :=
  gEy.one hc hk (fun post k h => by show k nx (gset ls i (.ref x)) st s bd; rw [hs]; exact h) k
theorem gEy.iinc {i : Nat} {j : Int} {x y : Int32} {ls' : gL} (hc : code pc = some (.iinc i j, nx, v, kp)) (hk : gkeep ls kp = ls) (hg : gget ls i = some (.int x)) (hy : x + v = y) (hs : gset ls i (.int y) = ls') (k : gEy d code nx ls' st s bd r) : gEy d code pc ls st s bd r :=
  gEy.one hc hk (fun post k h => by show (match gget ls i with | some (.int x) => k nx (gset ls i (.int (x + v))) st s bd | _ => False); rw [hg]; show k nx (gset ls i (.int (x + v))) st s bd; rw [hy, hs]; exact h) k
theorem gEy.iadd {x y : Int32} (hc : code pc = some (.iadd, nx, v, kp)) (hk : gkeep ls kp = ls) (k : gEy d code nx ls (.int (x + y) :: st) s bd r) : gEy d code pc ls (.int y :: .int x :: st) s bd r := gEy.one hc hk (fun _ _ h => h) k
theorem gEy.isub {x y : Int32} (hc : code pc = some (.isub, nx, v, kp)) (hk : gkeep ls kp = ls) (k : gEy d code nx ls (.int (x - y) :: st) s bd r) : gEy d code pc ls (.int y :: .int x :: st) s bd r := gEy.one hc hk (fun _ _ h => h) k
theorem gEy.dupR {x : Nat} (hc : code pc = some (.dup, nx, v, kp)) (hk : gkeep ls kp = ls) (k : gEy d code nx ls (.ref x :: .ref x :: st) s bd r) : gEy d code pc ls (.ref x :: st) s bd r := gEy.one hc hk (fun _ _ h => h) k
theorem gEy.goto {t : Int} {tn : Nat} (ht : t.toNat = tn) (hc : code pc = some (.goto t, nx, v, kp)) (hk : gkeep ls kp = ls) (k : gEy d code tn ls st s bd r) : gEy d code pc ls st s bd r := gEy.one hc hk (fun post k h => by show k t.toNat ls st s bd; rw [ht]; exact h) k
theorem gEy.lt_go {x y : Int32} {t : Int} (hp : x < y) (hc : code pc = some (.if_icmp .ge t, nx, v, kp)) (hk : gkeep ls kp = ls) (k : gEy d code nx ls st s bd r) : gEy d code pc ls (.int y :: .int x :: st) s bd r :=
  gEy.one hc hk (fun post k h => by show gcmp .ge x y (k t.toNat ls st s bd) (k nx ls st s bd); unfold gcmp; dsimp only; rw [if_pos hp]; exact h) k
theorem gEy.ge_go {x y : Int32} {t : Int} {tn : Nat} (ht : t.toNat = tn) (hp : ¬ x < y) (hc : code pc = some (.if_icmp .ge t, nx, v, kp)) (hk : gkeep ls kp = ls) (k : gEy d code tn ls st s bd r) : gEy d code pc ls (.int y :: .int x :: st) s bd r :=
  gEy.one hc hk (fun post k h => by show gcmp .ge x y (k t.toNat ls st s bd) (k nx ls st s bd); unfold gcmp; dsimp only; rw [if_neg hp, ht]; exact h) k
theorem gEy.lt_go2 {x y : Int32} {t : Int} {tn : Nat} (ht : t.toNat = tn) (hp : x < y) (hc : code pc = some (.if_icmp .lt t, nx, v, kp)) (hk : gkeep ls kp = ls) (k : gEy d code tn ls st s bd r) : gEy d code pc ls (.int y :: .int x :: st) s bd r :=
  gEy.one hc hk (fun post k h => by show gcmp .lt x y (k t.toNat ls st s bd) (k nx ls st s bd); unfold gcmp; dsimp only; rw [if_pos hp, ht]; exact h) k
theorem gEy.ge_go2 {x y : Int32} {t : Int} (hp : ¬ x < y) (hc : code pc = some (.if_icmp .lt t, nx, v, kp)) (hk : gkeep ls kp = ls) (k : gEy d code nx ls st s bd r) : gEy d code pc ls (.int y :: .int x :: st) s bd r :=
  gEy.one hc hk (fun post k h => by show gcmp .lt x y (k t.toNat ls st s bd) (k nx ls st s bd); unfold gcmp; dsimp only; rw [if_neg hp]; exact h) k
/-- the state with one more object, one more row -/
def gmkO (s : gS) (ci : Nat) : gS := ((gsh s.1.1 s.1.2 (.inr (.inr (ci, gdf ci))), s.1.2 + 1), grow s.2.1 s.1.2 (fun _ => 0), s.2.2)
def gmkI (s : gS) (kd n : Nat) : gS := ((gsh s.1.1 s.1.2 (.inl (kd, n)), s.1.2 + 1), grow s.2.1 s.1.2 (fun _ => 0), s.2.2)
def gmkL (s : gS) (n : Nat) : gS := ((gsh s.1.1 s.1.2 (.inl (2, n)), s.1.2 + 1), s.2.1, grow s.2.2 s.1.2 (fun _ => 0))
def gmkA (s : gS) (kd n : Nat) : gS := ((gsh s.1.1 s.1.2 (.inr (.inl (kd, List.replicate n none))), s.1.2 + 1), s.2)
def gsetS (s : gS) (a : Nat) (e : gE) : gS := ((gsh s.1.1 a e, s.1.2), s.2)
def gsetN (s : gS) (a i : Nat) (x : Int32) : gS := (s.1, gup s.2.1 a i x, s.2.2)
theorem gEy.new {ci a : Nat} (hc : code pc = some (.new ci, nx, v, kp)) (hk : gkeep ls kp = ls) (ha : s.1.2 = a) (hb : (Nat.ble 1 bd.1 && Nat.ble (gdf ci).length bd.2) = true) (k : gEy d code nx ls (.ref a :: st) (gmkO s ci) (bd.1 - 1, bd.2 - (gdf ci).length) r) : gEy d code pc ls st s bd r := by
  subst ha
  exact gEy.one hc hk (fun post k h => by show cond (Nat.ble 1 bd.1 && Nat.ble (gdf ci).length bd.2) (k nx ls (.ref s.1.2 :: st) (gmkO s ci) (bd.1 - 1, bd.2 - (gdf ci).length)) False; rw [hb]; exact h) k
theorem gEy.newI {x : Int32} {n a : Nat} (hn : x.toNatClampNeg = n) (hc : code pc = some (.newarray .int, nx, v, kp)) (hk : gkeep ls kp = ls) (ha : s.1.2 = a) (hb : (decide (0 ≤ x) && Nat.ble 1 bd.1 && Nat.ble n bd.2 && Nat.ble n 8000) = true) (k : gEy d code nx ls (.ref a :: st) (gmkI s 0 n) (bd.1 - 1, bd.2 - n) r) : gEy d code pc ls (.int x :: st) s bd r := by
  subst ha; subst hn
  exact gEy.one hc hk (fun post k h => by show cond (decide (0 ≤ x) && Nat.ble 1 bd.1 && Nat.ble x.toNatClampNeg bd.2 && Nat.ble x.toNatClampNeg 8000) (k nx ls (.ref s.1.2 :: st) (gmkI s 0 x.toNatClampNeg) (bd.1 - 1, bd.2 - x.toNatClampNeg)) False; rw [hb]; exact h) k
theorem gEy.newZ {x : Int32} {n a : Nat} (hn : x.toNatClampNeg = n) (hc : code pc = some (.newarray .boolean, nx, v, kp)) (hk : gkeep ls kp = ls) (ha : s.1.2 = a) (hb : (decide (0 ≤ x) && Nat.ble 1 bd.1 && Nat.ble n bd.2 && Nat.ble n 8000) = true) (k : gEy d code nx ls (.ref a :: st) (gmkI s 1 n) (bd.1 - 1, bd.2 - n) r) : gEy d code pc ls (.int x :: st) s bd r := by
  subst ha; subst hn
  exact gEy.one hc hk (fun post k h => by show cond (decide (0 ≤ x) && Nat.ble 1 bd.1 && Nat.ble x.toNatClampNeg bd.2 && Nat.ble x.toNatClampNeg 8000) (k nx ls (.ref s.1.2 :: st) (gmkI s 1 x.toNatClampNeg) (bd.1 - 1, bd.2 - x.toNatClampNeg)) False; rw [hb]; exact h) k
theorem gEy.newL {x : Int32} {n a : Nat} (hn : x.toNatClampNeg = n) (hc : code pc = some (.newarray .long, nx, v, kp)) (hk : gkeep ls kp = ls) (ha : s.1.2 = a) (hb : (decide (0 ≤ x) && Nat.ble 1 bd.1 && Nat.ble n bd.2 && Nat.ble n 8000) = true) (k : gEy d code nx ls (.ref a :: st) (gmkL s n) (bd.1 - 1, bd.2 - n) r) : gEy d code pc ls (.int x :: st) s bd r := by
  subst ha; subst hn
  exact gEy.one hc hk (fun post k h => by show cond (decide (0 ≤ x) && Nat.ble 1 bd.1 && Nat.ble x.toNatClampNeg bd.2 && Nat.ble x.toNatClampNeg 8000) (k nx ls (.ref s.1.2 :: st) (gmkL s x.toNatClampNeg) (bd.1 - 1, bd.2 - x.toNatClampNeg)) False; rw [hb]; exact h) k
theorem gEy.newA {x : Int32} {kd n a : Nat} (hn : x.toNatClampNeg = n) (hc : code pc = some (.anewarray kd, nx, v, kp)) (hk : gkeep ls kp = ls) (ha : s.1.2 = a) (hb : (decide (0 ≤ x) && Nat.ble 1 bd.1 && Nat.ble n bd.2 && Nat.ble n 8000) = true) (k : gEy d code nx ls (.ref a :: st) (gmkA s kd n) (bd.1 - 1, bd.2 - n) r) : gEy d code pc ls (.int x :: st) s bd r := by
  subst ha; subst hn
  exact gEy.one hc hk (fun post k h => by show cond (decide (0 ≤ x) && Nat.ble 1 bd.1 && Nat.ble x.toNatClampNeg bd.2 && Nat.ble x.toNatClampNeg 8000) (k nx ls (.ref s.1.2 :: st) (gmkA s kd x.toNatClampNeg) (bd.1 - 1, bd.2 - x.toNatClampNeg)) False; rw [hb]; exact h) k
theorem gEy.getI {ci f a : Nat} {fs : List (Option (Option Nat))} (hc : code pc = some (.invokeinterface ci f, nx, v, kp)) (hk : gkeep ls kp = ls) (hs : s.1.1 a = some (.inr (.inr (ci, fs)))) (hf : fs[f]? = some none) (k : gEy d code nx ls (.int (s.2.1 a f) :: st) s bd r) : gEy d code pc ls (.ref a :: st) s bd r :=
  gEy.one hc hk (fun post k h => by
    show (match s.1.1 a with
          | some (.inr (.inr (c, fs))) => cond (Nat.beq c ci) (match fs[f]? with
              | some e => k nx ls (gfv s.2 a f e :: st) s bd
              | none => False) False
          | _ => False)
    rw [hs]
    show cond (Nat.beq ci ci) (match fs[f]? with
              | some e => k nx ls (gfv s.2 a f e :: st) s bd
              | none => False) False
    rw [Nat.beq_refl, hf]
    exact h) k
theorem gEy.getR {ci f a t : Nat} {fs : List (Option (Option Nat))} (hc : code pc = some (.invokeinterface ci f, nx, v, kp)) (hk : gkeep ls kp = ls) (hs : s.1.1 a = some (.inr (.inr (ci, fs)))) (hf : fs[f]? = some (some (some t))) (k : gEy d code nx ls (.ref t :: st) s bd r) : gEy d code pc ls (.ref a :: st) s bd r :=
  gEy.one hc hk (fun post k h => by
    show (match s.1.1 a with
          | some (.inr (.inr (c, fs))) => cond (Nat.beq c ci) (match fs[f]? with
              | some e => k nx ls (gfv s.2 a f e :: st) s bd
              | none => False) False
          | _ => False)
    rw [hs]
    show cond (Nat.beq ci ci) (match fs[f]? with
              | some e => k nx ls (gfv s.2 a f e :: st) s bd
              | none => False) False
    rw [Nat.beq_refl, hf]
    exact h) k
theorem gEy.putI {ci f a : Nat} {x : Int32} {fs : List (Option (Option Nat))} (hc : code pc = some (.multianewarray ci f, nx, v, kp)) (hk : gkeep ls kp = ls) (hs : s.1.1 a = some (.inr (.inr (ci, fs)))) (hf : fs[f]? = some none) (hd : (gdf ci)[f]? = some none) (hz : gZf ci f = false) (k : gEy d code nx ls st (gsetN s a f x) bd r) : gEy d code pc ls (.int x :: .ref a :: st) s bd r :=
  gEy.one hc hk (fun post k h => by
    show (match s.1.1 a with
          | some (.inr (.inr (c, fs))) => cond (Nat.beq c ci) (match fs[f]?, (gdf ci)[f]? with
              | some none, some none => cond (gZf ci f) (if x = 0 ∨ x = 1 then k nx ls st (gsetN s a f x) bd else False) (k nx ls st (gsetN s a f x) bd)
              | _, _ => False) False
          | _ => False)
    rw [hs]
    show cond (Nat.beq ci ci) (match fs[f]?, (gdf ci)[f]? with
              | some none, some none => cond (gZf ci f) (if x = 0 ∨ x = 1 then k nx ls st (gsetN s a f x) bd else False) (k nx ls st (gsetN s a f x) bd)
              | _, _ => False) False
    rw [Nat.beq_refl, hf, hd]
    show cond (gZf ci f) (if x = 0 ∨ x = 1 then k nx ls st (gsetN s a f x) bd else False) (k nx ls st (gsetN s a f x) bd)
    rw [hz]
    exact h) k
theorem gEy.putR {ci f a t : Nat} {z1 z2 : Option Nat} {fs : List (Option (Option Nat))} (hc : code pc = some (.multianewarray ci f, nx, v, kp)) (hk : gkeep ls kp = ls) (hs : s.1.1 a = some (.inr (.inr (ci, fs)))) (hf : fs[f]? = some (some z1)) (hd : (gdf ci)[f]? = some (some z2)) (k : gEy d code nx ls st (gsetS s a (.inr (.inr (ci, fs.set f (some (some t)))))) bd r) : gEy d code pc ls (.ref t :: .ref a :: st) s bd r :=
  gEy.one hc hk (fun post k h => by
    show (match s.1.1 a with
          | some (.inr (.inr (c, fs))) => cond (Nat.beq c ci) (match fs[f]?, (gdf ci)[f]? with
              | some (some _), some (some _) => k nx ls st (gsetS s a (.inr (.inr (c, fs.set f (some (some t)))))) bd
              | _, _ => False) False
          | _ => False)
    rw [hs]
    show cond (Nat.beq ci ci) (match fs[f]?, (gdf ci)[f]? with
              | some (some _), some (some _) => k nx ls st (gsetS s a (.inr (.inr (ci, fs.set f (some (some t)))))) bd
              | _, _ => False) False
    rw [Nat.beq_refl, hf, hd]
    exact h) k
theorem gEy.iast {a n j : Nat} {i x : Int32} (hj : i.toNatClampNeg = j) (hc : code pc = some (.iastore, nx, v, kp)) (hk : gkeep ls kp = ls) (hs : s.1.1 a = some (.inl (0, n))) (hi : gib i n = true) (k : gEy d code nx ls st (gsetN s a j x) bd r) : gEy d code pc ls (.int x :: .int i :: .ref a :: st) s bd r := by
  subst hj
  exact gEy.one hc hk (fun post k h => by
      show (match s.1.1 a with
          | some (.inl (0, n)) => cond (gib i n) (k nx ls st (gsetN s a i.toNatClampNeg x) bd) False
          | _ => False)
      rw [hs]
      show cond (gib i n) (k nx ls st (gsetN s a i.toNatClampNeg x) bd) False
      rw [hi]
      exact h) k
theorem gEy.aast {a t c kd j : Nat} {i : Int32} {l : List (Option Nat)} {fs : List (Option (Option Nat))} (hj : i.toNatClampNeg = j) (hc : code pc = some (.aastore, nx, v, kp)) (hk : gkeep ls kp = ls) (hs : s.1.1 a = some (.inr (.inl (kd, l)))) (hi : gib i l.length = true) (ht : s.1.1 t = some (.inr (.inr (c, fs)))) (hkd : (Nat.beq kd (c + 3) && (Nat.beq kd 10 || Nat.beq kd 12)) = true) (k : gEy d code nx ls st (gsetS s a (.inr (.inl (kd, l.set j (some t))))) bd r) : gEy d code pc ls (.ref t :: .int i :: .ref a :: st) s bd r := by
  subst hj
  exact gEy.one hc hk (fun post k h => by
      show (match s.1.1 a with
          | some (.inr (.inl (kd, l))) => cond (gib i l.length) (match s.1.1 t with
              | some (.inr (.inr (c, _))) => cond (Nat.beq kd (c + 3) && (Nat.beq kd 10 || Nat.beq kd 12)) (k nx ls st (gsetS s a (.inr (.inl (kd, l.set i.toNatClampNeg (some t))))) bd) False
              | _ => False) False
          | _ => False)
      rw [hs]
      show cond (gib i l.length) (match s.1.1 t with
              | some (.inr (.inr (c, _))) => cond (Nat.beq kd (c + 3) && (Nat.beq kd 10 || Nat.beq kd 12)) (k nx ls st (gsetS s a (.inr (.inl (kd, l.set i.toNatClampNeg (some t))))) bd) False
              | _ => False) False
      rw [hi, ht]
      show cond (Nat.beq kd (c + 3) && (Nat.beq kd 10 || Nat.beq kd 12)) (k nx ls st (gsetS s a (.inr (.inl (kd, l.set i.toNatClampNeg (some t))))) bd) False
      rw [hkd]
      exact h) k
theorem gEy.init0 {a q : Nat} (hmi : gmi q = none) (hc : code pc = some (.invokespecial q, nx, v, kp)) (hk : gkeep ls kp = ls) (hw : gcan 0 0 bd st = true) (k : gEy d code nx ls st s bd r) : gEy d code pc ls (.ref a :: st) s bd r :=
  gEy.one hc hk (fun post k h => by
    unfold gstep
    dsimp only
    rw [hmi]
    show cond (gcan 0 0 bd st) (k nx ls st s bd) False
    rw [hw]
    exact h) k
theorem gEy.special {q ci n c1 c2 a : Nat} {st' as : List Value} (hc : code pc = some (.invokespecial q, nx, v, kp)) (hk : gkeep ls kp = ls) (hmi : gmi q = some (ci, n, c1, c2)) (hp : gpop n [] st = some (as, .ref a :: st')) (hw : gcan c1 c2 bd st' = true) (hr : ∃ s', gR gmi gdf gcd d q (.ref a :: as) s (none, s') ∧ gEy d code nx ls st' s' (bd.1 - c1, bd.2 - c2) r) : gEy d code pc ls st s bd r := by
  obtain ⟨s', hr, k⟩ := hr
  exact gEy.one hc hk (fun post k h => by
    unfold gstep
    dsimp only
    rw [hmi]
    dsimp only
    rw [hp]
    dsimp only
    rw [hw]
    exact ⟨_, hr, h⟩) k
theorem gEy.callV {q ci n a : Nat} {st' as : List Value} {s' : gS} {fs : List (Option (Option Nat))} (hc : code pc = some (.invokevirtual q, nx, v, kp)) (hk : gkeep ls kp = ls) (hmi : gmi q = some (ci, n, 0, 0)) (hp : gpop n [] st = some (as, .ref a :: st')) (hs : s.1.1 a = some (.inr (.inr (ci, fs)))) (hw : gcan 0 0 bd st' = true) (hr : gR gmi gdf gcd d q (.ref a :: as) s (none, s')) (k : gEy d code nx ls st' s' bd r) : gEy d code pc ls st s bd r :=
  gEy.one hc hk (fun post k h => by
    unfold gstep
    dsimp only
    rw [hmi]
    dsimp only
    rw [hp]
    dsimp only
    rw [hs]
    dsimp only
    rw [Nat.beq_refl]
    dsimp only [cond]
    rw [hw]
    exact ⟨_, hr, h⟩) k
theorem gEy.callS {q ci n : Nat} {st' as : List Value} {s' : gS} (hc : code pc = some (.invokestatic q, nx, v, kp)) (hk : gkeep ls kp = ls) (hmi : gmi q = some (ci, n, 0, 0)) (hp : gpop n [] st = some (as, st')) (hw : gcan 0 0 bd st' = true) (hr : gR gmi gdf gcd d q as s (none, s')) (k : gEy d code nx ls st' s' bd r) : gEy d code pc ls st s bd r :=
  gEy.one hc hk (fun post k h => by
    unfold gstep
    dsimp only
    rw [hmi]
    dsimp only
    rw [hp]
    dsimp only
    rw [hw]
    exact ⟨_, hr, h⟩) k
theorem gEy.retv (hc : code pc = some (.return_, nx, v, kp)) (hk : gkeep ls kp = ls) : gEy d code pc ls [] s bd (none, s) := by
  refine ⟨1, ?_⟩
  unfold gexec
  rw [hc]
  dsimp only
  rw [hk]
  rfl
theorem gEy.reti {x : Int32} (hc : code pc = some (.ireturn, nx, v, kp)) (hk : gkeep ls kp = ls) : gEy d code pc ls [.int x] s bd (some (.int x), s) := by
  refine ⟨1, ?_⟩
  unfold gexec
  rw [hc]
  dsimp only
  rw [hk]
  rfl
end GEY
