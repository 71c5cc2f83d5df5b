/-! ===== pure functions: their words, and the rules by which a run follows them ===== -/
def glet {α β : Type} (a : α) (f : α → β) : β := f a
def gfix {F : Type} (body : F → F) (bot : F) : Nat → F
  | 0 => bot
  | n + 1 => body (gfix body bot n)
theorem gfix_ind {F : Type} {P : F → Prop} {body : F → F} {bot : F} (h0 : P bot) (hb : ∀ f, P f → P (body f)) : ∀ n, P (gfix body bot n)
  | 0 => h0
  | n + 1 => hb _ (gfix_ind h0 hb n)
/-- reads and writes: an array's place, a field -/
def grd (m : gM) (a : Nat) (i : Int32) : Int32 := m.1 a i.toNatClampNeg
def gfd (m : gM) (a k : Nat) : Int32 := m.1 a k
def gst (m : gM) (a : Nat) (i x : Int32) : gM := (gup m.1 a i.toNatClampNeg x, m.2)
def gsf (m : gM) (a k : Nat) (x : Int32) : gM := (gup m.1 a k x, m.2)
def grdL (m : gM) (a : Nat) (i : Int32) : Int64 := m.2 a i.toNatClampNeg
def gstL (m : gM) (a : Nat) (i : Int32) (x : Int64) : gM := (m.1, gupL m.2 a i.toNatClampNeg x)
def gcp (m : gM) (a b sp dp n : Nat) : gM := (gcpy m.1 a b sp dp n, m.2)
def gok {R : Type} (c : Bool) (o : Option R) : Option R := cond c o none
def gnz {R : Type} (y : Int32) (o : Option R) : Option R := if y = 0 then none else o
def gnzL {R : Type} (y : Int64) (o : Option R) : Option R := if y = 0 then none else o
def gzo {R : Type} (x : Int32) (o : Option R) : Option R := if x = 0 ∨ x = 1 then o else none
def gswo {R : Type} (x : Int32) : List (Int32 × Option R) → Option R → Option R
  | [], d => d
  | (v, o) :: l, d => if x = v then o else gswo x l d
/-- what comes back: an int, nothing, a long, a String constant -/
def gri : Int32 × gM → Option Value × gM := fun x => (some (.int x.1), x.2)
def grv : gM → Option Value × gM := fun x => (none, x)
def grl : Int64 × gM → Option Value × gM := fun x => (some (.long x.1), x.2)
def grs : Nat × gM → Option Value × gM := fun x => (some (.retAddr x.1), x.2)
def gEx {R : Type} (d : Nat) (code : gC) (sh : gH) (rs : R → Option Value × gM) (pc : Nat) (ls : gL) (st : List Value) (m : gM) (o : Option R) : Prop := ∀ x, o = some x → ∃ n, gexec (gR gmi gdf gcd d) gmi gdf code (fun v t => (v, t) = ((rs x).1, (sh, (rs x).2))) n pc ls st (sh, m) (0, 0)
theorem gR_of {R : Type} {d q ci n mx : Nat} {code : gC} {sh : gH} {rs : R → Option Value × gM} {as : List Value} {m : gM} {o : Option R} (hmi : gmi q = some (ci, n, 0, 0)) (hcd : gcd q = some (mx, code)) (hlen : (lg_sl as).length ≤ mx) (h : gEx d code sh rs 0 (gent mx as) [] m o) : ∀ x, o = some x → gR gmi gdf gcd (d + 1) q as (sh, m) ((rs x).1, (sh, (rs x).2)) := by
  intro x hx
  unfold gR
  rw [hmi, hcd]
  exact ⟨hlen, h x hx⟩
def gswP {R : Type} (P : Nat → Option R → Prop) : List (Int × Int) → List (Int32 × Option R) → Prop
  | [], [] => True
  | (v, t) :: ps, (w, o) :: l => Int32.ofInt v = w ∧ P t.toNat o ∧ gswP P ps l
  | _, _ => False
theorem gnth_none {α : Type} : ∀ (l : List α) (k : Nat), l.length ≤ k → gnth l k = none
  | [], _, _ => rfl
  | _ :: l, 0, h => by simp at h
  | _ :: l, k + 1, h => gnth_none l k (by simpa using h)
theorem gmi900 : gmi 900 = none ∧ gmi 901 = none := by
  have hlen : gtab.length = 241 := by decide +kernel
  constructor
  · unfold gmi; rw [gnth_none gtab 900 (by rw [hlen]; omega)]
  · unfold gmi; rw [gnth_none gtab 901 (by rw [hlen]; omega)]
theorem gR900 {d j : Nat} {s : gS} (hj : j < 7) (h4 : 4 ≤ d) : gR gmi gdf gcd d 900 [.retAddr j] s (some (.int (Int32.ofNat (gslen j))), s) := by
  cases d with
  | zero => omega
  | succ d =>
    unfold gR
    rw [gmi900.1]
    exact ⟨hj, h4, rfl⟩
theorem gR901 {d j : Nat} {i : Int32} {s : gS} (hj : j < 7) (h4 : 4 ≤ d) (hi : gib i (gslen j) = true) : gR gmi gdf gcd d 901 [.retAddr j, .int i] s (some (.int (gsch j i.toNatClampNeg)), s) := by
  cases d with
  | zero => omega
  | succ d =>
    unfold gR
    rw [gmi900.2]
    exact ⟨hj, h4, hi, rfl⟩
section GEX
variable {R : Type} {d : Nat} {code : gC} {sh : gH} {rs : R → Option Value × gM} {pc : Nat} {ls : gL} {st : List Value} {m : gM} {o o1 o2 : Option R} {nx kp : Nat} {v : Int32}
theorem gEx.none : gEx d code sh rs pc ls st m (none : Option R) := fun x hx => by cases hx
theorem gEx.gl {α : Type} {a : α} {f : α → Option R} (k : gEx d code sh rs pc ls st m (f a)) : gEx d code sh rs pc ls st m (glet a f) := k
theorem gEx.one {ins : Instr} {nx' : Nat} {ls' : gL} {st' : List Value} {m' : gM} (hc : code pc = some (ins, nx, v, kp)) (hk : gkeep ls kp = ls)
    (h : ∀ (post : gPost) (k : Nat → gL → List Value → gS → Nat × Nat → Prop), k nx' ls' st' (sh, m') (0, 0) → gstep (gR gmi gdf gcd d) gmi gdf ins nx v ls st (sh, m) (0, 0) post k) (k : gEx d code sh rs nx' ls' st' m' o) : gEx d code sh rs pc ls st m o := by
  intro x hx
  obtain ⟨n, hn⟩ := k x hx
  refine ⟨n + 1, ?_⟩
  unfold gexec
  rw [hc]
  dsimp only
  rw [hk]
  exact h _ _ hn
theorem gcut_idem : ∀ (l : gL) (n : Nat), gcut (gcut l n) n = gcut l n
  | [], _ => rfl
  | _ :: l, 0 => congrArg (List.cons Option.none) (gcut_idem l 0)
  | a :: l, n + 1 => congrArg (List.cons a) (gcut_idem l n)
theorem gkeep_idem (l : gL) : ∀ n, gkeep (gkeep l n) n = gkeep l n
  | 0 => rfl
  | n + 1 => gcut_idem l (n + 1)
theorem gEx.lab {ins : Instr} {ls' : gL} (hc : code pc = some (ins, nx, v, kp)) (hk : gkeep ls kp = ls') (k : gEx d code sh rs pc ls' st m o) : gEx d code sh rs pc ls st m o := by
  intro x hx
  obtain ⟨n, hn⟩ := k x hx
  refine ⟨n, ?_⟩
  cases n with
  | zero => exact (hn : False).elim
  | succ n =>
    unfold gexec at hn ⊢
    rw [hc] at hn ⊢
    dsimp only at hn ⊢
    rw [← hk, gkeep_idem] at hn
    exact hn
theorem gEx.two {ins : Instr} {nx1 nx2 : Nat} {ls1 ls2 : gL} {st1 st2 : List Value} (p : Prop) [Decidable p] (hc : code pc = some (ins, nx, v, kp)) (hk : gkeep ls kp = ls)
    (h1 : p → ∀ (post : gPost) (k : Nat → gL → List Value → gS → Nat × Nat → Prop), k nx1 ls1 st1 (sh, m) (0, 0) → gstep (gR gmi gdf gcd d) gmi gdf ins nx v ls st (sh, m) (0, 0) post k)
    (h2 : ¬ p → ∀ (post : gPost) (k : Nat → gL → List Value → gS → Nat × Nat → Prop), k nx2 ls2 st2 (sh, m) (0, 0) → gstep (gR gmi gdf gcd d) gmi gdf ins nx v ls st (sh, m) (0, 0) post k)
    (k1 : gEx d code sh rs nx1 ls1 st1 m o1) (k2 : gEx d code sh rs nx2 ls2 st2 m o2) : gEx d code sh rs pc ls st m (if p then o1 else o2) := by
  by_cases hp : p
  · rw [if_pos hp]
    exact gEx.one hc hk (h1 hp) k1
  · rw [if_neg hp]
    exact gEx.one hc hk (h2 hp) k2
theorem gEx.ret {ins : Instr} {x0 : R} (hc : code pc = some (ins, nx, v, kp)) (hk : gkeep ls kp = ls)
    (h : ∀ (post : gPost) (k : Nat → gL → List Value → gS → Nat × Nat → Prop), post (rs x0).1 (sh, (rs x0).2) → gstep (gR gmi gdf gcd d) gmi gdf ins nx v ls st (sh, m) (0, 0) post k) : gEx d code sh rs pc ls st m (some x0) := by
  intro x hx
  cases hx
  refine ⟨1, ?_⟩
  unfold gexec
  rw [hc]
  dsimp only
  rw [hk]
  exact h _ _ rfl
theorem gEx.iconst {i : Int} (hc : code pc = some (.iconst i, nx, v, kp)) (hk : gkeep ls kp = ls) (k : gEx d code sh rs nx ls (.int v :: st) m o) : gEx d code sh rs pc ls (st) m o :=
  gEx.one hc hk (fun post k h => h) k
theorem gEx.lconst {i : _} (hc : code pc = some (.lconst i, nx, v, kp)) (hk : gkeep ls kp = ls) (k : gEx d code sh rs nx ls (.long v.toInt64 :: st) m o) : gEx d code sh rs pc ls (st) m o :=
  gEx.one hc hk (fun post k h => h) k
theorem gEx.ldc {j : Nat} (hc : code pc = some (.ldc j, nx, v, kp)) (hk : gkeep ls kp = ls) (k : gEx d code sh rs nx ls (.retAddr j :: st) m o) : gEx d code sh rs pc ls (st) m o :=
  gEx.one hc hk (fun post k h => h) k
theorem gEx.iload {i : Nat} {x : Int32} (hc : code pc = some (.iload i, nx, v, kp)) (hk : gkeep ls kp = ls) (hg : gget ls i = some (.int x)) (k : gEx d code sh rs nx ls (.int x :: st) m o) : gEx d code sh rs pc ls (st) m o :=
  gEx.one hc hk (fun post k h => by show (match gget ls i with | some (.int x) => k nx ls (.int x :: st) (sh, m) (0, 0) | _ => False); rw [hg]; exact h) k
theorem gEx.lload {i : Nat} {x : Int64} (hc : code pc = some (.lload i, nx, v, kp)) (hk : gkeep ls kp = ls) (hg : gget ls i = some (.long x)) (k : gEx d code sh rs nx ls (.long x :: st) m o) : gEx d code sh rs pc ls (st) m o :=
  gEx.one hc hk (fun post k h => by show (match gget ls i with | some (.long x) => k nx ls (.long x :: st) (sh, m) (0, 0) | _ => False); rw [hg]; exact h) k
theorem gEx.aload {i x : Nat} (hc : code pc = some (.aload i, nx, v, kp)) (hk : gkeep ls kp = ls) (hg : gget ls i = some (.ref x)) (k : gEx d code sh rs nx ls (.ref x :: st) m o) : gEx d code sh rs pc ls (st) m o :=
  gEx.one hc hk (fun post k h => by show (match gget ls i with | some (.ref x) => k nx ls (.ref x :: st) (sh, m) (0, 0) | some (.retAddr x) => k nx ls (.retAddr x :: st) (sh, m) (0, 0) | _ => False); rw [hg]; exact h) k
theorem gEx.aloadS {i x : Nat} (hc : code pc = some (.aload i, nx, v, kp)) (hk : gkeep ls kp = ls) (hg : gget ls i = some (.retAddr x)) (k : gEx d code sh rs nx ls (.retAddr x :: st) m o) : gEx d code sh rs pc ls (st) m o :=
  gEx.one hc hk (fun post k h => by show (match gget ls i with | some (.ref x) => k nx ls (.ref x :: st) (sh, m) (0, 0) | some (.retAddr x) => k nx ls (.retAddr x :: st) (sh, m) (0, 0) | _ => False); rw [hg]; exact h) k
theorem gEx.istore {i : Nat} {e : Int32} {ls' : gL} (hc : code pc = some (.istore i, nx, v, kp)) (hk : gkeep ls kp = ls) (hs : gset ls i (.int e) = ls') (k : gEx d code sh rs nx ls' st m o) : gEx d code sh rs pc ls (.int e :: st) m o :=
  gEx.one hc hk (fun post k h => by show k nx (gset ls i (.int e)) st (sh, m) (0, 0); rw [hs]; exact h) k
theorem gEx.istoreL {i : Nat} {e : Int32} {ls' : Int32 → gL} {f : Int32 → Option R} (hc : code pc = some (.istore i, nx, v, kp)) (hk : gkeep ls kp = ls) (hs : ∀ e, gset ls i (.int e) = ls' e) (k : ∀ e, gEx d code sh rs nx (ls' e) st m (f e)) : gEx d code sh rs pc ls (.int e :: st) m (glet e f) :=
  gEx.istore hc hk (hs e) (k e)
theorem gEx.lstore {i : Nat} {e : Int64} {ls' : gL} (hc : code pc = some (.lstore i, nx, v, kp)) (hk : gkeep ls kp = ls) (hs : gset2 ls i (.long e) = ls') (k : gEx d code sh rs nx ls' st m o) : gEx d code sh rs pc ls (.long e :: st) m o :=
  gEx.one hc hk (fun post k h => by show k nx (gset2 ls i (.long e)) st (sh, m) (0, 0); rw [hs]; exact h) k
theorem gEx.lstoreL {i : Nat} {e : Int64} {ls' : Int64 → gL} {f : Int64 → Option R} (hc : code pc = some (.lstore i, nx, v, kp)) (hk : gkeep ls kp = ls) (hs : ∀ e, gset2 ls i (.long e) = ls' e) (k : ∀ e, gEx d code sh rs nx (ls' e) st m (f e)) : gEx d code sh rs pc ls (.long e :: st) m (glet e f) :=
  gEx.lstore hc hk (hs e) (k e)
theorem gEx.astore {i e : Nat} {ls' : gL} (hc : code pc = some (.astore i, nx, v, kp)) (hk : gkeep ls kp = ls) (hs : gset ls i (.ref e) = ls') (k : gEx d code sh rs nx ls' st m o) : gEx d code sh rs pc ls (.ref e :: st) m o :=
  gEx.one hc hk (fun post k h => by show k nx (gset ls i (.ref e)) st (sh, m) (0, 0); rw [hs]; exact h) k
theorem gEx.iinc {i : Nat} {j : Int} {x : Int32} {ls' : gL} (hc : code pc = some (.iinc i j, nx, v, kp)) (hk : gkeep ls kp = ls) (hg : gget ls i = some (.int x)) (hs : gset ls i (.int (x + v)) = ls') (k : gEx d code sh rs nx ls' st m o) : gEx d code sh rs pc ls st m o :=
  gEx.one hc hk (fun post k h => by show (match gget ls i with | some (.int x) => k nx (gset ls i (.int (x + v))) st (sh, m) (0, 0) | _ => False); rw [hg]; show k nx (gset ls i (.int (x + v))) st (sh, m) (0, 0); rw [hs]; exact h) k
theorem gEx.iadd {x y : Int32} (hc : code pc = some (.iadd, nx, v, kp)) (hk : gkeep ls kp = ls) (k : gEx d code sh rs nx ls (.int (x + y) :: st) m o) : gEx d code sh rs pc ls (.int y :: .int x :: st) m o :=
  gEx.one hc hk (fun post k h => h) k
theorem gEx.isub {x y : Int32} (hc : code pc = some (.isub, nx, v, kp)) (hk : gkeep ls kp = ls) (k : gEx d code sh rs nx ls (.int (x - y) :: st) m o) : gEx d code sh rs pc ls (.int y :: .int x :: st) m o :=
  gEx.one hc hk (fun post k h => h) k
theorem gEx.imul {x y : Int32} (hc : code pc = some (.imul, nx, v, kp)) (hk : gkeep ls kp = ls) (k : gEx d code sh rs nx ls (.int (x * y) :: st) m o) : gEx d code sh rs pc ls (.int y :: .int x :: st) m o :=
  gEx.one hc hk (fun post k h => h) k
theorem gEx.iand {x y : Int32} (hc : code pc = some (.iand, nx, v, kp)) (hk : gkeep ls kp = ls) (k : gEx d code sh rs nx ls (.int (x &&& y) :: st) m o) : gEx d code sh rs pc ls (.int y :: .int x :: st) m o :=
  gEx.one hc hk (fun post k h => h) k
theorem gEx.ior {x y : Int32} (hc : code pc = some (.ior, nx, v, kp)) (hk : gkeep ls kp = ls) (k : gEx d code sh rs nx ls (.int (x ||| y) :: st) m o) : gEx d code sh rs pc ls (.int y :: .int x :: st) m o :=
  gEx.one hc hk (fun post k h => h) k
theorem gEx.ixor {x y : Int32} (hc : code pc = some (.ixor, nx, v, kp)) (hk : gkeep ls kp = ls) (k : gEx d code sh rs nx ls (.int (x ^^^ y) :: st) m o) : gEx d code sh rs pc ls (.int y :: .int x :: st) m o :=
  gEx.one hc hk (fun post k h => h) k
theorem gEx.ladd {x y : Int64} (hc : code pc = some (.ladd, nx, v, kp)) (hk : gkeep ls kp = ls) (k : gEx d code sh rs nx ls (.long (x + y) :: st) m o) : gEx d code sh rs pc ls (.long y :: .long x :: st) m o :=
  gEx.one hc hk (fun post k h => h) k
theorem gEx.lmul {x y : Int64} (hc : code pc = some (.lmul, nx, v, kp)) (hk : gkeep ls kp = ls) (k : gEx d code sh rs nx ls (.long (x * y) :: st) m o) : gEx d code sh rs pc ls (.long y :: .long x :: st) m o :=
  gEx.one hc hk (fun post k h => h) k
theorem gEx.ineg {x : Int32} (hc : code pc = some (.ineg, nx, v, kp)) (hk : gkeep ls kp = ls) (k : gEx d code sh rs nx ls (.int (-x) :: st) m o) : gEx d code sh rs pc ls (.int x :: st) m o :=
  gEx.one hc hk (fun post k h => h) k
theorem gEx.ishl {x y : Int32} (hc : code pc = some (.ishl, nx, v, kp)) (hk : gkeep ls kp = ls) (k : gEx d code sh rs nx ls (.int (x <<< (y &&& 31)) :: st) m o) : gEx d code sh rs pc ls (.int y :: .int x :: st) m o :=
  gEx.one hc hk (fun post k h => h) k
theorem gEx.ishr {x y : Int32} (hc : code pc = some (.ishr, nx, v, kp)) (hk : gkeep ls kp = ls) (k : gEx d code sh rs nx ls (.int (x >>> (y &&& 31)) :: st) m o) : gEx d code sh rs pc ls (.int y :: .int x :: st) m o :=
  gEx.one hc hk (fun post k h => h) k
theorem gEx.i2l {x : Int32} (hc : code pc = some (.i2l, nx, v, kp)) (hk : gkeep ls kp = ls) (k : gEx d code sh rs nx ls (.long x.toInt64 :: st) m o) : gEx d code sh rs pc ls (.int x :: st) m o :=
  gEx.one hc hk (fun post k h => h) k
theorem gEx.l2i {x : Int64} (hc : code pc = some (.l2i, nx, v, kp)) (hk : gkeep ls kp = ls) (k : gEx d code sh rs nx ls (.int x.toInt32 :: st) m o) : gEx d code sh rs pc ls (.long x :: st) m o :=
  gEx.one hc hk (fun post k h => h) k
theorem gEx.i2b {x : Int32} (hc : code pc = some (.i2b, nx, v, kp)) (hk : gkeep ls kp = ls) (k : gEx d code sh rs nx ls (.int x.toInt8.toInt32 :: st) m o) : gEx d code sh rs pc ls (.int x :: st) m o :=
  gEx.one hc hk (fun post k h => h) k
theorem gEx.i2s {x : Int32} (hc : code pc = some (.i2s, nx, v, kp)) (hk : gkeep ls kp = ls) (k : gEx d code sh rs nx ls (.int x.toInt16.toInt32 :: st) m o) : gEx d code sh rs pc ls (.int x :: st) m o :=
  gEx.one hc hk (fun post k h => h) k
theorem gEx.lshr {x : Int64} {y : Int32} (hc : code pc = some (.lshr, nx, v, kp)) (hk : gkeep ls kp = ls) (k : gEx d code sh rs nx ls (.long (x >>> (y.toInt64 &&& 63)) :: st) m o) : gEx d code sh rs pc ls (.int y :: .long x :: st) m o :=
  gEx.one hc hk (fun post k h => h) k
theorem gEx.lushr {x : Int64} {y : Int32} (hc : code pc = some (.lushr, nx, v, kp)) (hk : gkeep ls kp = ls) (k : gEx d code sh rs nx ls (.long (x.toUInt64 >>> (y.toInt64.toUInt64 &&& Int64.toUInt64 63)).toInt64 :: st) m o) : gEx d code sh rs pc ls (.int y :: .long x :: st) m o :=
  gEx.one hc hk (fun post k h => h) k
theorem gEx.lcmp {x y : Int64} (hc : code pc = some (.lcmp, nx, v, kp)) (hk : gkeep ls kp = ls) (k : gEx d code sh rs nx ls (.int (lg_cmp x y) :: st) m o) : gEx d code sh rs pc ls (.long y :: .long x :: st) m o :=
  gEx.one hc hk (fun post k h => h) k
theorem gEx.dupI {x : Int32} (hc : code pc = some (.dup, nx, v, kp)) (hk : gkeep ls kp = ls) (k : gEx d code sh rs nx ls (.int x :: .int x :: st) m o) : gEx d code sh rs pc ls (.int x :: st) m o :=
  gEx.one hc hk (fun post k h => h) k
theorem gEx.dupR {x : Nat} (hc : code pc = some (.dup, nx, v, kp)) (hk : gkeep ls kp = ls) (k : gEx d code sh rs nx ls (.ref x :: .ref x :: st) m o) : gEx d code sh rs pc ls (.ref x :: st) m o :=
  gEx.one hc hk (fun post k h => h) k
theorem gEx.dup2 {x : Int32} {y : Nat} (hc : code pc = some (.dup2, nx, v, kp)) (hk : gkeep ls kp = ls) (k : gEx d code sh rs nx ls (.int x :: .ref y :: .int x :: .ref y :: st) m o) : gEx d code sh rs pc ls (.int x :: .ref y :: st) m o :=
  gEx.one hc hk (fun post k h => h) k
theorem gEx.pop {x : Int32} (hc : code pc = some (.pop, nx, v, kp)) (hk : gkeep ls kp = ls) (k : gEx d code sh rs nx ls (st) m o) : gEx d code sh rs pc ls (.int x :: st) m o :=
  gEx.one hc hk (fun post k h => h) k
theorem gEx.idiv {x y : Int32} (hc : code pc = some (.idiv, nx, v, kp)) (hk : gkeep ls kp = ls) (k : gEx d code sh rs nx ls (.int (x / y) :: st) m o) : gEx d code sh rs pc ls (.int y :: .int x :: st) m (gnz y o) := by
  unfold gnz
  by_cases hy : y = 0
  · rw [if_pos hy]; exact gEx.none
  · rw [if_neg hy]
    exact gEx.one hc hk (fun post k h => by show (if y = 0 then False else k nx ls (.int (x / y) :: st) (sh, m) (0, 0)); rw [if_neg hy]; exact h) k
theorem gEx.irem {x y : Int32} (hc : code pc = some (.irem, nx, v, kp)) (hk : gkeep ls kp = ls) (k : gEx d code sh rs nx ls (.int (x - x / y * y) :: st) m o) : gEx d code sh rs pc ls (.int y :: .int x :: st) m (gnz y o) := by
  unfold gnz
  by_cases hy : y = 0
  · rw [if_pos hy]; exact gEx.none
  · rw [if_neg hy]
    exact gEx.one hc hk (fun post k h => by show (if y = 0 then False else k nx ls (.int (x - x / y * y) :: st) (sh, m) (0, 0)); rw [if_neg hy]; exact h) k
theorem gEx.ldiv {x y : Int64} (hc : code pc = some (.ldiv, nx, v, kp)) (hk : gkeep ls kp = ls) (k : gEx d code sh rs nx ls (.long (x / y) :: st) m o) : gEx d code sh rs pc ls (.long y :: .long x :: st) m (gnzL y o) := by
  unfold gnzL
  by_cases hy : y = 0
  · rw [if_pos hy]; exact gEx.none
  · rw [if_neg hy]
    exact gEx.one hc hk (fun post k h => by show (if y = 0 then False else k nx ls (.long (x / y) :: st) (sh, m) (0, 0)); rw [if_neg hy]; exact h) k
theorem gEx.icmp_eq {x y : Int32} {t : Int} {tn : Nat} (ht : t.toNat = tn) (hc : code pc = some (.if_icmp .eq t, nx, v, kp)) (hk : gkeep ls kp = ls) (k1 : gEx d code sh rs tn ls st m o1) (k2 : gEx d code sh rs nx ls st m o2) : gEx d code sh rs pc ls (.int y :: .int x :: st) m (if x = y then o1 else o2) :=
  gEx.two (x = y) hc hk (fun hp post k h => by show gcmp .eq x y (k t.toNat ls st (sh, m) (0, 0)) (k nx ls st (sh, m) (0, 0)); unfold gcmp; dsimp only; rw [ht]; rw [if_pos hp]; exact h) (fun hp post k h => by show gcmp .eq x y (k t.toNat ls st (sh, m) (0, 0)) (k nx ls st (sh, m) (0, 0)); unfold gcmp; dsimp only; rw [ht]; rw [if_neg hp]; exact h) k1 k2
theorem gEx.if_eq {x : Int32} {t : Int} {tn : Nat} (ht : t.toNat = tn) (hc : code pc = some (.ifCond .eq t, nx, v, kp)) (hk : gkeep ls kp = ls) (k1 : gEx d code sh rs tn ls st m o1) (k2 : gEx d code sh rs nx ls st m o2) : gEx d code sh rs pc ls (.int x :: st) m (if x = 0 then o1 else o2) :=
  gEx.two (x = 0) hc hk (fun hp post k h => by show gcmp .eq x 0 (k t.toNat ls st (sh, m) (0, 0)) (k nx ls st (sh, m) (0, 0)); unfold gcmp; dsimp only; rw [ht]; rw [if_pos hp]; exact h) (fun hp post k h => by show gcmp .eq x 0 (k t.toNat ls st (sh, m) (0, 0)) (k nx ls st (sh, m) (0, 0)); unfold gcmp; dsimp only; rw [ht]; rw [if_neg hp]; exact h) k1 k2
theorem gEx.icmp_ne {x y : Int32} {t : Int} {tn : Nat} (ht : t.toNat = tn) (hc : code pc = some (.if_icmp .ne t, nx, v, kp)) (hk : gkeep ls kp = ls) (k1 : gEx d code sh rs nx ls st m o1) (k2 : gEx d code sh rs tn ls st m o2) : gEx d code sh rs pc ls (.int y :: .int x :: st) m (if x = y then o1 else o2) :=
  gEx.two (x = y) hc hk (fun hp post k h => by show gcmp .ne x y (k t.toNat ls st (sh, m) (0, 0)) (k nx ls st (sh, m) (0, 0)); unfold gcmp; dsimp only; rw [ht]; rw [if_pos hp]; exact h) (fun hp post k h => by show gcmp .ne x y (k t.toNat ls st (sh, m) (0, 0)) (k nx ls st (sh, m) (0, 0)); unfold gcmp; dsimp only; rw [ht]; rw [if_neg hp]; exact h) k1 k2
theorem gEx.if_ne {x : Int32} {t : Int} {tn : Nat} (ht : t.toNat = tn) (hc : code pc = some (.ifCond .ne t, nx, v, kp)) (hk : gkeep ls kp = ls) (k1 : gEx d code sh rs nx ls st m o1) (k2 : gEx d code sh rs tn ls st m o2) : gEx d code sh rs pc ls (.int x :: st) m (if x = 0 then o1 else o2) :=
  gEx.two (x = 0) hc hk (fun hp post k h => by show gcmp .ne x 0 (k t.toNat ls st (sh, m) (0, 0)) (k nx ls st (sh, m) (0, 0)); unfold gcmp; dsimp only; rw [ht]; rw [if_pos hp]; exact h) (fun hp post k h => by show gcmp .ne x 0 (k t.toNat ls st (sh, m) (0, 0)) (k nx ls st (sh, m) (0, 0)); unfold gcmp; dsimp only; rw [ht]; rw [if_neg hp]; exact h) k1 k2
theorem gEx.icmp_lt {x y : Int32} {t : Int} {tn : Nat} (ht : t.toNat = tn) (hc : code pc = some (.if_icmp .lt t, nx, v, kp)) (hk : gkeep ls kp = ls) (k1 : gEx d code sh rs tn ls st m o1) (k2 : gEx d code sh rs nx ls st m o2) : gEx d code sh rs pc ls (.int y :: .int x :: st) m (if x < y then o1 else o2) :=
  gEx.two (x < y) hc hk (fun hp post k h => by show gcmp .lt x y (k t.toNat ls st (sh, m) (0, 0)) (k nx ls st (sh, m) (0, 0)); unfold gcmp; dsimp only; rw [ht]; rw [if_pos hp]; exact h) (fun hp post k h => by show gcmp .lt x y (k t.toNat ls st (sh, m) (0, 0)) (k nx ls st (sh, m) (0, 0)); unfold gcmp; dsimp only; rw [ht]; rw [if_neg hp]; exact h) k1 k2
theorem gEx.if_lt {x : Int32} {t : Int} {tn : Nat} (ht : t.toNat = tn) (hc : code pc = some (.ifCond .lt t, nx, v, kp)) (hk : gkeep ls kp = ls) (k1 : gEx d code sh rs tn ls st m o1) (k2 : gEx d code sh rs nx ls st m o2) : gEx d code sh rs pc ls (.int x :: st) m (if x < 0 then o1 else o2) :=
  gEx.two (x < 0) hc hk (fun hp post k h => by show gcmp .lt x 0 (k t.toNat ls st (sh, m) (0, 0)) (k nx ls st (sh, m) (0, 0)); unfold gcmp; dsimp only; rw [ht]; rw [if_pos hp]; exact h) (fun hp post k h => by show gcmp .lt x 0 (k t.toNat ls st (sh, m) (0, 0)) (k nx ls st (sh, m) (0, 0)); unfold gcmp; dsimp only; rw [ht]; rw [if_neg hp]; exact h) k1 k2
theorem gEx.icmp_ge {x y : Int32} {t : Int} {tn : Nat} (ht : t.toNat = tn) (hc : code pc = some (.if_icmp .ge t, nx, v, kp)) (hk : gkeep ls kp = ls) (k1 : gEx d code sh rs nx ls st m o1) (k2 : gEx d code sh rs tn ls st m o2) : gEx d code sh rs pc ls (.int y :: .int x :: st) m (if x < y then o1 else o2) :=
  gEx.two (x < y) hc hk (fun hp post k h => by show gcmp .ge x y (k t.toNat ls st (sh, m) (0, 0)) (k nx ls st (sh, m) (0, 0)); unfold gcmp; dsimp only; rw [ht]; rw [if_pos hp]; exact h) (fun hp post k h => by show gcmp .ge x y (k t.toNat ls st (sh, m) (0, 0)) (k nx ls st (sh, m) (0, 0)); unfold gcmp; dsimp only; rw [ht]; rw [if_neg hp]; exact h) k1 k2
theorem gEx.if_ge {x : Int32} {t : Int} {tn : Nat} (ht : t.toNat = tn) (hc : code pc = some (.ifCond .ge t, nx, v, kp)) (hk : gkeep ls kp = ls) (k1 : gEx d code sh rs nx ls st m o1) (k2 : gEx d code sh rs tn ls st m o2) : gEx d code sh rs pc ls (.int x :: st) m (if x < 0 then o1 else o2) :=
  gEx.two (x < 0) hc hk (fun hp post k h => by show gcmp .ge x 0 (k t.toNat ls st (sh, m) (0, 0)) (k nx ls st (sh, m) (0, 0)); unfold gcmp; dsimp only; rw [ht]; rw [if_pos hp]; exact h) (fun hp post k h => by show gcmp .ge x 0 (k t.toNat ls st (sh, m) (0, 0)) (k nx ls st (sh, m) (0, 0)); unfold gcmp; dsimp only; rw [ht]; rw [if_neg hp]; exact h) k1 k2
theorem gEx.icmp_gt {x y : Int32} {t : Int} {tn : Nat} (ht : t.toNat = tn) (hc : code pc = some (.if_icmp .gt t, nx, v, kp)) (hk : gkeep ls kp = ls) (k1 : gEx d code sh rs tn ls st m o1) (k2 : gEx d code sh rs nx ls st m o2) : gEx d code sh rs pc ls (.int y :: .int x :: st) m (if y < x then o1 else o2) :=
  gEx.two (y < x) hc hk (fun hp post k h => by show gcmp .gt x y (k t.toNat ls st (sh, m) (0, 0)) (k nx ls st (sh, m) (0, 0)); unfold gcmp; dsimp only; rw [ht]; rw [if_pos hp]; exact h) (fun hp post k h => by show gcmp .gt x y (k t.toNat ls st (sh, m) (0, 0)) (k nx ls st (sh, m) (0, 0)); unfold gcmp; dsimp only; rw [ht]; rw [if_neg hp]; exact h) k1 k2
theorem gEx.if_gt {x : Int32} {t : Int} {tn : Nat} (ht : t.toNat = tn) (hc : code pc = some (.ifCond .gt t, nx, v, kp)) (hk : gkeep ls kp = ls) (k1 : gEx d code sh rs tn ls st m o1) (k2 : gEx d code sh rs nx ls st m o2) : gEx d code sh rs pc ls (.int x :: st) m (if 0 < x then o1 else o2) :=
  gEx.two (0 < x) hc hk (fun hp post k h => by show gcmp .gt x 0 (k t.toNat ls st (sh, m) (0, 0)) (k nx ls st (sh, m) (0, 0)); unfold gcmp; dsimp only; rw [ht]; rw [if_pos hp]; exact h) (fun hp post k h => by show gcmp .gt x 0 (k t.toNat ls st (sh, m) (0, 0)) (k nx ls st (sh, m) (0, 0)); unfold gcmp; dsimp only; rw [ht]; rw [if_neg hp]; exact h) k1 k2
theorem gEx.icmp_le {x y : Int32} {t : Int} {tn : Nat} (ht : t.toNat = tn) (hc : code pc = some (.if_icmp .le t, nx, v, kp)) (hk : gkeep ls kp = ls) (k1 : gEx d code sh rs nx ls st m o1) (k2 : gEx d code sh rs tn ls st m o2) : gEx d code sh rs pc ls (.int y :: .int x :: st) m (if y < x then o1 else o2) :=
  gEx.two (y < x) hc hk (fun hp post k h => by show gcmp .le x y (k t.toNat ls st (sh, m) (0, 0)) (k nx ls st (sh, m) (0, 0)); unfold gcmp; dsimp only; rw [ht]; rw [if_pos hp]; exact h) (fun hp post k h => by show gcmp .le x y (k t.toNat ls st (sh, m) (0, 0)) (k nx ls st (sh, m) (0, 0)); unfold gcmp; dsimp only; rw [ht]; rw [if_neg hp]; exact h) k1 k2
theorem gEx.if_le {x : Int32} {t : Int} {tn : Nat} (ht : t.toNat = tn) (hc : code pc = some (.ifCond .le t, nx, v, kp)) (hk : gkeep ls kp = ls) (k1 : gEx d code sh rs nx ls st m o1) (k2 : gEx d code sh rs tn ls st m o2) : gEx d code sh rs pc ls (.int x :: st) m (if 0 < x then o1 else o2) :=
  gEx.two (0 < x) hc hk (fun hp post k h => by show gcmp .le x 0 (k t.toNat ls st (sh, m) (0, 0)) (k nx ls st (sh, m) (0, 0)); unfold gcmp; dsimp only; rw [ht]; rw [if_pos hp]; exact h) (fun hp post k h => by show gcmp .le x 0 (k t.toNat ls st (sh, m) (0, 0)) (k nx ls st (sh, m) (0, 0)); unfold gcmp; dsimp only; rw [ht]; rw [if_neg hp]; exact h) k1 k2
theorem gEx.goto {t : Int} {tn : Nat} (ht : t.toNat = tn) (hc : code pc = some (.goto t, nx, v, kp)) (hk : gkeep ls kp = ls) (k : gEx d code sh rs tn ls st m o) : gEx d code sh rs pc ls st m o :=
  gEx.one hc hk (fun post k h => by show k t.toNat ls st (sh, m) (0, 0); rw [ht]; exact h) k
theorem gEx.getI {ci f a : Nat} {fs : List (Option (Option Nat))} (hc : code pc = some (.invokeinterface ci f, nx, v, kp)) (hk : gkeep ls kp = ls) (hs : sh.1 a = some (.inr (.inr (ci, fs)))) (hf : fs[f]? = some Option.none) (k : gEx d code sh rs nx ls (.int (gfd m a f) :: st) m o) : gEx d code sh rs pc ls (.ref a :: st) m o :=
  gEx.one hc hk (fun post k h => by
    show (match sh.1 a with
          | some (.inr (.inr (c, fs))) => cond (Nat.beq c ci) (match fs[f]? with
              | some e => k nx ls (gfv m a f e :: st) (sh, m) (0, 0)
              | Option.none => False) False
          | _ => False)
    rw [hs]
    show cond (Nat.beq ci ci) (match fs[f]? with
              | some e => k nx ls (gfv m a f e :: st) (sh, m) (0, 0)
              | Option.none => False) False
    rw [Nat.beq_refl, hf]
    exact h) k
theorem gEx.getR {ci f a t : Nat} {fs : List (Option (Option Nat))} (hc : code pc = some (.invokeinterface ci f, nx, v, kp)) (hk : gkeep ls kp = ls) (hs : sh.1 a = some (.inr (.inr (ci, fs)))) (hf : fs[f]? = some (some (some t))) (k : gEx d code sh rs nx ls (.ref t :: st) m o) : gEx d code sh rs pc ls (.ref a :: st) m o :=
  gEx.one hc hk (fun post k h => by
    show (match sh.1 a with
          | some (.inr (.inr (c, fs))) => cond (Nat.beq c ci) (match fs[f]? with
              | some e => k nx ls (gfv m a f e :: st) (sh, m) (0, 0)
              | Option.none => False) False
          | _ => False)
    rw [hs]
    show cond (Nat.beq ci ci) (match fs[f]? with
              | some e => k nx ls (gfv m a f e :: st) (sh, m) (0, 0)
              | Option.none => False) False
    rw [Nat.beq_refl, hf]
    exact h) k
theorem gEx.putI {ci f a : Nat} {x : Int32} {g : gM → Option R} {fs : List (Option (Option Nat))} (hc : code pc = some (.multianewarray ci f, nx, v, kp)) (hk : gkeep ls kp = ls) (hs : sh.1 a = some (.inr (.inr (ci, fs)))) (hf : fs[f]? = some Option.none) (hd : (gdf ci)[f]? = some Option.none) (hz : gZf ci f = false) (k : ∀ m, gEx d code sh rs nx ls st m (g m)) : gEx d code sh rs pc ls (.int x :: .ref a :: st) m (glet (gsf m a f x) g) :=
  gEx.one hc hk (fun post k h => by
    show (match sh.1 a with
          | some (.inr (.inr (c, fs))) => cond (Nat.beq c ci) (match fs[f]?, (gdf ci)[f]? with
              | some Option.none, some Option.none => cond (gZf ci f) (if x = 0 ∨ x = 1 then k nx ls st (sh, gup m.1 a f x, m.2) (0, 0) else False) (k nx ls st (sh, gup m.1 a f x, m.2) (0, 0))
              | _, _ => False) False
          | _ => False)
    rw [hs]
    show cond (Nat.beq ci ci) (match fs[f]?, (gdf ci)[f]? with
              | some Option.none, some Option.none => cond (gZf ci f) (if x = 0 ∨ x = 1 then k nx ls st (sh, gup m.1 a f x, m.2) (0, 0) else False) (k nx ls st (sh, gup m.1 a f x, m.2) (0, 0))
              | _, _ => False) False
    rw [Nat.beq_refl, hf, hd]
    show cond (gZf ci f) (if x = 0 ∨ x = 1 then k nx ls st (sh, gup m.1 a f x, m.2) (0, 0) else False) (k nx ls st (sh, gup m.1 a f x, m.2) (0, 0))
    rw [hz]
    exact h) (k _)
theorem gEx.putZ {ci f a : Nat} {x : Int32} {g : gM → Option R} {fs : List (Option (Option Nat))} (hc : code pc = some (.multianewarray ci f, nx, v, kp)) (hk : gkeep ls kp = ls) (hs : sh.1 a = some (.inr (.inr (ci, fs)))) (hf : fs[f]? = some Option.none) (hd : (gdf ci)[f]? = some Option.none) (k : ∀ m, gEx d code sh rs nx ls st m (g m)) : gEx d code sh rs pc ls (.int x :: .ref a :: st) m (gzo x (glet (gsf m a f x) g)) := by
  unfold gzo
  by_cases hx : x = 0 ∨ x = 1
  · rw [if_pos hx]
    exact gEx.one hc hk (fun post k h => by
      show (match sh.1 a with
          | some (.inr (.inr (c, fs))) => cond (Nat.beq c ci) (match fs[f]?, (gdf ci)[f]? with
              | some Option.none, some Option.none => cond (gZf ci f) (if x = 0 ∨ x = 1 then k nx ls st (sh, gup m.1 a f x, m.2) (0, 0) else False) (k nx ls st (sh, gup m.1 a f x, m.2) (0, 0))
              | _, _ => False) False
          | _ => False)
      rw [hs]
      show cond (Nat.beq ci ci) (match fs[f]?, (gdf ci)[f]? with
              | some Option.none, some Option.none => cond (gZf ci f) (if x = 0 ∨ x = 1 then k nx ls st (sh, gup m.1 a f x, m.2) (0, 0) else False) (k nx ls st (sh, gup m.1 a f x, m.2) (0, 0))
              | _, _ => False) False
      rw [Nat.beq_refl, hf, hd, if_pos hx]
      cases gZf ci f <;> exact h) (k _)
  · rw [if_neg hx]
    exact gEx.none
theorem gEx.iald {a n : Nat} {i : Int32} (hc : code pc = some (.iaload, nx, v, kp)) (hk : gkeep ls kp = ls) (hs : sh.1 a = some (.inl (0, n))) (k : gEx d code sh rs nx ls (.int (grd m a i) :: st) m o) : gEx d code sh rs pc ls (.int i :: .ref a :: st) m (gok (gib i n) o) := by
  unfold gok
  cases hi : gib i n with
  | false => exact gEx.none
  | true =>
    exact gEx.one hc hk (fun post k h => by
      show (match sh.1 a with
          | some (.inl (0, n)) => cond (gib i n) (k nx ls (.int (grd m a i) :: st) (sh, m) (0, 0)) False
          | _ => False)
      rw [hs]
      show cond (gib i n) (k nx ls (.int (grd m a i) :: st) (sh, m) (0, 0)) False
      rw [hi]
      exact h) k
theorem gEx.bald {a n : Nat} {i : Int32} (hc : code pc = some (.baload, nx, v, kp)) (hk : gkeep ls kp = ls) (hs : sh.1 a = some (.inl (1, n))) (k : gEx d code sh rs nx ls (.int (grd m a i) :: st) m o) : gEx d code sh rs pc ls (.int i :: .ref a :: st) m (gok (gib i n) o) := by
  unfold gok
  cases hi : gib i n with
  | false => exact gEx.none
  | true =>
    exact gEx.one hc hk (fun post k h => by
      show (match sh.1 a with
          | some (.inl (1, n)) => cond (gib i n) (k nx ls (.int (grd m a i) :: st) (sh, m) (0, 0)) False
          | _ => False)
      rw [hs]
      show cond (gib i n) (k nx ls (.int (grd m a i) :: st) (sh, m) (0, 0)) False
      rw [hi]
      exact h) k
theorem gEx.lald {a n : Nat} {i : Int32} (hc : code pc = some (.laload, nx, v, kp)) (hk : gkeep ls kp = ls) (hs : sh.1 a = some (.inl (2, n))) (k : gEx d code sh rs nx ls (.long (grdL m a i) :: st) m o) : gEx d code sh rs pc ls (.int i :: .ref a :: st) m (gok (gib i n) o) := by
  unfold gok
  cases hi : gib i n with
  | false => exact gEx.none
  | true =>
    exact gEx.one hc hk (fun post k h => by
      show (match sh.1 a with
          | some (.inl (2, n)) => cond (gib i n) (k nx ls (.long (grdL m a i) :: st) (sh, m) (0, 0)) False
          | _ => False)
      rw [hs]
      show cond (gib i n) (k nx ls (.long (grdL m a i) :: st) (sh, m) (0, 0)) False
      rw [hi]
      exact h) k
theorem gEx.iast {a n : Nat} {i : Int32} {x : Int32} {g : gM → Option R} (hc : code pc = some (.iastore, nx, v, kp)) (hk : gkeep ls kp = ls) (hs : sh.1 a = some (.inl (0, n))) (k : ∀ m, gEx d code sh rs nx ls st m (g m)) : gEx d code sh rs pc ls (.int x :: .int i :: .ref a :: st) m (gok (gib i n) (glet (gst m a i x) g)) := by
  unfold gok
  cases hi : gib i n with
  | false => exact gEx.none
  | true =>
    exact gEx.one hc hk (fun post k h => by
      show (match sh.1 a with
          | some (.inl (0, n)) => cond (gib i n) (k nx ls st (sh, gst m a i x) (0, 0)) False
          | _ => False)
      rw [hs]
      show cond (gib i n) (k nx ls st (sh, gst m a i x) (0, 0)) False
      rw [hi]
      exact h) (k _)
theorem gEx.last {a n : Nat} {i : Int32} {x : Int64} {g : gM → Option R} (hc : code pc = some (.lastore, nx, v, kp)) (hk : gkeep ls kp = ls) (hs : sh.1 a = some (.inl (2, n))) (k : ∀ m, gEx d code sh rs nx ls st m (g m)) : gEx d code sh rs pc ls (.long x :: .int i :: .ref a :: st) m (gok (gib i n) (glet (gstL m a i x) g)) := by
  unfold gok
  cases hi : gib i n with
  | false => exact gEx.none
  | true =>
    exact gEx.one hc hk (fun post k h => by
      show (match sh.1 a with
          | some (.inl (2, n)) => cond (gib i n) (k nx ls st (sh, gstL m a i x) (0, 0)) False
          | _ => False)
      rw [hs]
      show cond (gib i n) (k nx ls st (sh, gstL m a i x) (0, 0)) False
      rw [hi]
      exact h) (k _)
theorem gEx.bast {a n : Nat} {i x : Int32} {g : gM → Option R} (hc : code pc = some (.bastore, nx, v, kp)) (hk : gkeep ls kp = ls) (hs : sh.1 a = some (.inl (1, n))) (k : ∀ m, gEx d code sh rs nx ls st m (g m)) : gEx d code sh rs pc ls (.int x :: .int i :: .ref a :: st) m (gok (gib i n) (gzo x (glet (gst m a i x) g))) := by
  unfold gok gzo
  cases hi : gib i n with
  | false => exact gEx.none
  | true =>
    by_cases hx : x = 0 ∨ x = 1
    · show gEx d code sh rs pc ls (.int x :: .int i :: .ref a :: st) m (if x = 0 ∨ x = 1 then (glet (gst m a i x) g) else Option.none)
      rw [if_pos hx]
      exact gEx.one hc hk (fun post k h => by
        show (match sh.1 a with
          | some (.inl (1, n)) => cond (gib i n) (if x = 0 ∨ x = 1 then k nx ls st (sh, gst m a i x) (0, 0) else False) False
          | _ => False)
        rw [hs]
        show cond (gib i n) (if x = 0 ∨ x = 1 then k nx ls st (sh, gst m a i x) (0, 0) else False) False
        rw [hi, if_pos hx]
        exact h) (k _)
    · show gEx d code sh rs pc ls (.int x :: .int i :: .ref a :: st) m (if x = 0 ∨ x = 1 then (glet (gst m a i x) g) else Option.none)
      rw [if_neg hx]
      exact gEx.none
theorem gEx.alen {a n : Nat} (hc : code pc = some (.arraylength, nx, v, kp)) (hk : gkeep ls kp = ls) (hs : sh.1 a = some (.inl (0, n))) (k : gEx d code sh rs nx ls (.int (Int32.ofNat n) :: st) m o) : gEx d code sh rs pc ls (.ref a :: st) m o :=
  gEx.one hc hk (fun post k h => by
    show (match sh.1 a with
          | some (.inl (0, n)) => k nx ls (.int (Int32.ofNat n) :: st) (sh, m) (0, 0)
          | _ => False)
    rw [hs]
    exact h) k
theorem gEx.sw {dft : Int} {ps : Array (Int × Int)} {x : Int32} (hc : code pc = some (.lookupswitch dft ps, nx, v, kp)) (hk : gkeep ls kp = ls) (l : List (Int32 × Option R)) (dd : Option R)
    (h : gswP (fun t o => gEx d code sh rs t ls st m o) ps.toList l) (hd : gEx d code sh rs dft.toNat ls st m dd) : gEx d code sh rs pc ls (.int x :: st) m (gswo x l dd) := by
  have key : ∀ (ps : List (Int × Int)) (l : List (Int32 × Option R)), gswP (fun t o => gEx d code sh rs t ls st m o) ps l → ∀ y, gswo x l dd = some y → ∃ n, gsw x (fun t => gexec (gR gmi gdf gcd d) gmi gdf code (fun v t => (v, t) = ((rs y).1, (sh, (rs y).2))) n t ls st (sh, m) (0, 0)) ps dft.toNat := by
    intro ps
    induction ps with
    | nil =>
      intro l hl y hy
      cases l with
      | nil => exact hd y hy
      | cons _ _ => exact (hl : False).elim
    | cons p ps ih =>
      intro l hl y hy
      cases l with
      | nil => exact (hl : False).elim
      | cons q l =>
        obtain ⟨vv, tt⟩ := p
        obtain ⟨ww, oo⟩ := q
        obtain ⟨h1, h2, h3⟩ : Int32.ofInt vv = ww ∧ gEx d code sh rs tt.toNat ls st m oo ∧ gswP (fun t o => gEx d code sh rs t ls st m o) ps l := hl
        subst h1
        unfold gswo at hy
        by_cases hx : x = Int32.ofInt vv
        · rw [if_pos hx] at hy
          obtain ⟨n, hn⟩ := h2 y hy
          exact ⟨n, by unfold gsw; rw [if_pos hx]; exact hn⟩
        · rw [if_neg hx] at hy
          obtain ⟨n, hn⟩ := ih l h3 y hy
          exact ⟨n, by unfold gsw; rw [if_neg hx]; exact hn⟩
  intro y hy
  obtain ⟨n, hn⟩ := key ps.toList l h y hy
  refine ⟨n + 1, ?_⟩
  unfold gexec
  rw [hc]
  dsimp only
  rw [hk]
  exact hn
theorem gEx.callVi {q ci n a : Nat} {fs : List (Option (Option Nat))} {st' as : List Value} {f : Option (Int32 × gM)} {g : Int32 × gM → Option R} (hc : code pc = some (.invokevirtual q, nx, v, kp)) (hk : gkeep ls kp = ls) (hmi : gmi q = some (ci, n, 0, 0)) (hp : gpop n [] st = some (as, .ref a :: st')) (hs : sh.1 a = some (.inr (.inr (ci, fs)))) (hw : gcan 0 0 (0, 0) st' = true) (hf : ∀ x, f = some x → gR gmi gdf gcd d q (.ref a :: as) (sh, m) ((gri x).1, (sh, (gri x).2))) (k : ∀ x, gEx d code sh rs nx ls (.int x.1 :: st') x.2 (g x)) : gEx d code sh rs pc ls st m (f.bind g) := by
  intro y hy
  cases hf9 : f with
  | none => rw [hf9] at hy; cases hy
  | some x =>
    rw [hf9] at hy
    obtain ⟨n9, hn⟩ := k x y hy
    refine ⟨n9 + 1, ?_⟩
    unfold gexec
    rw [hc]
    dsimp only
    rw [hk]
    unfold gstep
    dsimp only
    rw [hmi]
    dsimp only
    rw [hp]
    dsimp only
    rw [hs]
    dsimp only
    rw [Nat.beq_refl]
    dsimp only [cond]
    rw [hw]
    exact ⟨_, hf x hf9, hn⟩
theorem gEx.callVv {q ci n a : Nat} {fs : List (Option (Option Nat))} {st' as : List Value} {f : Option (gM)} {g : gM → Option R} (hc : code pc = some (.invokevirtual q, nx, v, kp)) (hk : gkeep ls kp = ls) (hmi : gmi q = some (ci, n, 0, 0)) (hp : gpop n [] st = some (as, .ref a :: st')) (hs : sh.1 a = some (.inr (.inr (ci, fs)))) (hw : gcan 0 0 (0, 0) st' = true) (hf : ∀ x, f = some x → gR gmi gdf gcd d q (.ref a :: as) (sh, m) ((grv x).1, (sh, (grv x).2))) (k : ∀ x, gEx d code sh rs nx ls (st') x (g x)) : gEx d code sh rs pc ls st m (f.bind g) := by
  intro y hy
  cases hf9 : f with
  | none => rw [hf9] at hy; cases hy
  | some x =>
    rw [hf9] at hy
    obtain ⟨n9, hn⟩ := k x y hy
    refine ⟨n9 + 1, ?_⟩
    unfold gexec
    rw [hc]
    dsimp only
    rw [hk]
    unfold gstep
    dsimp only
    rw [hmi]
    dsimp only
    rw [hp]
    dsimp only
    rw [hs]
    dsimp only
    rw [Nat.beq_refl]
    dsimp only [cond]
    rw [hw]
    exact ⟨_, hf x hf9, hn⟩
theorem gEx.callVl {q ci n a : Nat} {fs : List (Option (Option Nat))} {st' as : List Value} {f : Option (Int64 × gM)} {g : Int64 × gM → Option R} (hc : code pc = some (.invokevirtual q, nx, v, kp)) (hk : gkeep ls kp = ls) (hmi : gmi q = some (ci, n, 0, 0)) (hp : gpop n [] st = some (as, .ref a :: st')) (hs : sh.1 a = some (.inr (.inr (ci, fs)))) (hw : gcan 0 0 (0, 0) st' = true) (hf : ∀ x, f = some x → gR gmi gdf gcd d q (.ref a :: as) (sh, m) ((grl x).1, (sh, (grl x).2))) (k : ∀ x, gEx d code sh rs nx ls (.long x.1 :: st') x.2 (g x)) : gEx d code sh rs pc ls st m (f.bind g) := by
  intro y hy
  cases hf9 : f with
  | none => rw [hf9] at hy; cases hy
  | some x =>
    rw [hf9] at hy
    obtain ⟨n9, hn⟩ := k x y hy
    refine ⟨n9 + 1, ?_⟩
    unfold gexec
    rw [hc]
    dsimp only
    rw [hk]
    unfold gstep
    dsimp only
    rw [hmi]
    dsimp only
    rw [hp]
    dsimp only
    rw [hs]
    dsimp only
    rw [Nat.beq_refl]
    dsimp only [cond]
    rw [hw]
    exact ⟨_, hf x hf9, hn⟩
theorem gEx.callVs {q ci n a : Nat} {fs : List (Option (Option Nat))} {st' as : List Value} {f : Option (Nat × gM)} {g : Nat × gM → Option R} (hc : code pc = some (.invokevirtual q, nx, v, kp)) (hk : gkeep ls kp = ls) (hmi : gmi q = some (ci, n, 0, 0)) (hp : gpop n [] st = some (as, .ref a :: st')) (hs : sh.1 a = some (.inr (.inr (ci, fs)))) (hw : gcan 0 0 (0, 0) st' = true) (hf : ∀ x, f = some x → gR gmi gdf gcd d q (.ref a :: as) (sh, m) ((grs x).1, (sh, (grs x).2))) (k : ∀ x, gEx d code sh rs nx ls (.retAddr x.1 :: st') x.2 (g x)) : gEx d code sh rs pc ls st m (f.bind g) := by
  intro y hy
  cases hf9 : f with
  | none => rw [hf9] at hy; cases hy
  | some x =>
    rw [hf9] at hy
    obtain ⟨n9, hn⟩ := k x y hy
    refine ⟨n9 + 1, ?_⟩
    unfold gexec
    rw [hc]
    dsimp only
    rw [hk]
    unfold gstep
    dsimp only
    rw [hmi]
    dsimp only
    rw [hp]
    dsimp only
    rw [hs]
    dsimp only
    rw [Nat.beq_refl]
    dsimp only [cond]
    rw [hw]
    exact ⟨_, hf x hf9, hn⟩
theorem gEx.callSi {q ci n : Nat} {st' as : List Value} {f : Option (Int32 × gM)} {g : Int32 × gM → Option R} (hc : code pc = some (.invokestatic q, nx, v, kp)) (hk : gkeep ls kp = ls) (hmi : gmi q = some (ci, n, 0, 0)) (hp : gpop n [] st = some (as, st')) (hw : gcan 0 0 (0, 0) st' = true) (hf : ∀ x, f = some x → gR gmi gdf gcd d q (as) (sh, m) ((gri x).1, (sh, (gri x).2))) (k : ∀ x, gEx d code sh rs nx ls (.int x.1 :: st') x.2 (g x)) : gEx d code sh rs pc ls st m (f.bind g) := by
  intro y hy
  cases hf9 : f with
  | none => rw [hf9] at hy; cases hy
  | some x =>
    rw [hf9] at hy
    obtain ⟨n9, hn⟩ := k x y hy
    refine ⟨n9 + 1, ?_⟩
    unfold gexec
    rw [hc]
    dsimp only
    rw [hk]
    unfold gstep
    dsimp only
    rw [hmi]
    dsimp only
    rw [hp]
    dsimp only
    rw [hw]
    exact ⟨_, hf x hf9, hn⟩
theorem gEx.callSv {q ci n : Nat} {st' as : List Value} {f : Option (gM)} {g : gM → Option R} (hc : code pc = some (.invokestatic q, nx, v, kp)) (hk : gkeep ls kp = ls) (hmi : gmi q = some (ci, n, 0, 0)) (hp : gpop n [] st = some (as, st')) (hw : gcan 0 0 (0, 0) st' = true) (hf : ∀ x, f = some x → gR gmi gdf gcd d q (as) (sh, m) ((grv x).1, (sh, (grv x).2))) (k : ∀ x, gEx d code sh rs nx ls (st') x (g x)) : gEx d code sh rs pc ls st m (f.bind g) := by
  intro y hy
  cases hf9 : f with
  | none => rw [hf9] at hy; cases hy
  | some x =>
    rw [hf9] at hy
    obtain ⟨n9, hn⟩ := k x y hy
    refine ⟨n9 + 1, ?_⟩
    unfold gexec
    rw [hc]
    dsimp only
    rw [hk]
    unfold gstep
    dsimp only
    rw [hmi]
    dsimp only
    rw [hp]
    dsimp only
    rw [hw]
    exact ⟨_, hf x hf9, hn⟩
theorem gEx.callSl {q ci n : Nat} {st' as : List Value} {f : Option (Int64 × gM)} {g : Int64 × gM → Option R} (hc : code pc = some (.invokestatic q, nx, v, kp)) (hk : gkeep ls kp = ls) (hmi : gmi q = some (ci, n, 0, 0)) (hp : gpop n [] st = some (as, st')) (hw : gcan 0 0 (0, 0) st' = true) (hf : ∀ x, f = some x → gR gmi gdf gcd d q (as) (sh, m) ((grl x).1, (sh, (grl x).2))) (k : ∀ x, gEx d code sh rs nx ls (.long x.1 :: st') x.2 (g x)) : gEx d code sh rs pc ls st m (f.bind g) := by
  intro y hy
  cases hf9 : f with
  | none => rw [hf9] at hy; cases hy
  | some x =>
    rw [hf9] at hy
    obtain ⟨n9, hn⟩ := k x y hy
    refine ⟨n9 + 1, ?_⟩
    unfold gexec
    rw [hc]
    dsimp only
    rw [hk]
    unfold gstep
    dsimp only
    rw [hmi]
    dsimp only
    rw [hp]
    dsimp only
    rw [hw]
    exact ⟨_, hf x hf9, hn⟩
theorem gEx.callSs {q ci n : Nat} {st' as : List Value} {f : Option (Nat × gM)} {g : Nat × gM → Option R} (hc : code pc = some (.invokestatic q, nx, v, kp)) (hk : gkeep ls kp = ls) (hmi : gmi q = some (ci, n, 0, 0)) (hp : gpop n [] st = some (as, st')) (hw : gcan 0 0 (0, 0) st' = true) (hf : ∀ x, f = some x → gR gmi gdf gcd d q (as) (sh, m) ((grs x).1, (sh, (grs x).2))) (k : ∀ x, f = some x → gEx d code sh rs nx ls (.retAddr x.1 :: st') x.2 (g x)) : gEx d code sh rs pc ls st m (f.bind g) := by
  intro y hy
  cases hf9 : f with
  | none => rw [hf9] at hy; cases hy
  | some x =>
    rw [hf9] at hy
    obtain ⟨n9, hn⟩ := k x hf9 y hy
    refine ⟨n9 + 1, ?_⟩
    unfold gexec
    rw [hc]
    dsimp only
    rw [hk]
    unfold gstep
    dsimp only
    rw [hmi]
    dsimp only
    rw [hp]
    dsimp only
    rw [hw]
    exact ⟨_, hf x hf9, hn⟩
theorem gEx.mmax {x y : Int32} (hc : code pc = some (.invokedynamic 3, nx, v, kp)) (hk : gkeep ls kp = ls) (hw : gcan 0 0 (0, 0) st = true) (k : gEx d code sh rs nx ls (.int (gmax x y) :: st) m o) : gEx d code sh rs pc ls (.int y :: .int x :: st) m o :=
  gEx.one hc hk (fun post k h => by show cond (gcan 0 0 (0, 0) st) (k nx ls (.int (gmax x y) :: st) (sh, m) (0, 0)) False; rw [hw]; exact h) k
theorem gEx.mmin {x y : Int32} (hc : code pc = some (.invokedynamic 4, nx, v, kp)) (hk : gkeep ls kp = ls) (hw : gcan 0 0 (0, 0) st = true) (k : gEx d code sh rs nx ls (.int (gmin x y) :: st) m o) : gEx d code sh rs pc ls (.int y :: .int x :: st) m o :=
  gEx.one hc hk (fun post k h => by show cond (gcan 0 0 (0, 0) st) (k nx ls (.int (gmin x y) :: st) (sh, m) (0, 0)) False; rw [hw]; exact h) k
theorem gEx.mabs {x : Int32} (hc : code pc = some (.invokedynamic 5, nx, v, kp)) (hk : gkeep ls kp = ls) (hw : gcan 0 0 (0, 0) st = true) (k : gEx d code sh rs nx ls (.int (gabs x) :: st) m o) : gEx d code sh rs pc ls (.int x :: st) m o :=
  gEx.one hc hk (fun post k h => by show cond (gcan 0 0 (0, 0) st) (k nx ls (.int (gabs x) :: st) (sh, m) (0, 0)) False; rw [hw]; exact h) k
theorem gEx.acopy {a b n0 n1 : Nat} {n dp sp : Int32} {g : gM → Option R} (hc : code pc = some (.invokedynamic 0, nx, v, kp)) (hk : gkeep ls kp = ls) (hs0 : sh.1 a = some (.inl (0, n0))) (hs1 : sh.1 b = some (.inl (0, n1))) (hw : (gcan 0 0 (0, 0) st && decide (0 ≤ sp) && decide (0 ≤ dp) && decide (0 ≤ n) && Nat.ble (sp.toNatClampNeg + n.toNatClampNeg) n0 && Nat.ble (dp.toNatClampNeg + n.toNatClampNeg) n1) = true) (k : ∀ m, gEx d code sh rs nx ls st m (g m)) : gEx d code sh rs pc ls (.int n :: .int dp :: .ref b :: .int sp :: .ref a :: st) m (glet (gcp m a b sp.toNatClampNeg dp.toNatClampNeg n.toNatClampNeg) g) :=
  gEx.one hc hk (fun post k h => by
    show (match sh.1 a, sh.1 b with
              | some (.inl (0, n0)), some (.inl (0, n1)) => cond (gcan 0 0 (0, 0) st && decide (0 ≤ sp) && decide (0 ≤ dp) && decide (0 ≤ n) && Nat.ble (sp.toNatClampNeg + n.toNatClampNeg) n0 && Nat.ble (dp.toNatClampNeg + n.toNatClampNeg) n1) (k nx ls st (sh, gcp m a b sp.toNatClampNeg dp.toNatClampNeg n.toNatClampNeg) (0, 0)) False
              | _, _ => False)
    rw [hs0, hs1]
    show cond (gcan 0 0 (0, 0) st && decide (0 ≤ sp) && decide (0 ≤ dp) && decide (0 ≤ n) && Nat.ble (sp.toNatClampNeg + n.toNatClampNeg) n0 && Nat.ble (dp.toNatClampNeg + n.toNatClampNeg) n1) (k nx ls st (sh, gcp m a b sp.toNatClampNeg dp.toNatClampNeg n.toNatClampNeg) (0, 0)) False
    rw [hw]
    exact h) (k _)
theorem gEx.slen {j : Nat} (hj : j < 7) (h4 : 4 ≤ d) (hc : code pc = some (.invokedynamic 1, nx, v, kp)) (hk : gkeep ls kp = ls) (hw : gcan 0 0 (0, 0) st = true) (k : gEx d code sh rs nx ls (.int (Int32.ofNat (gslen j)) :: st) m o) : gEx d code sh rs pc ls (.retAddr j :: st) m o :=
  gEx.one hc hk (fun post k h => by
    show cond (gcan 0 0 (0, 0) st) (∃ r, gR gmi gdf gcd d 900 [.retAddr j] (sh, m) r ∧ k nx ls (r.1.toList ++ st) r.2 (0, 0)) False
    rw [hw]
    exact ⟨(some (.int (Int32.ofNat (gslen j))), (sh, m)), gR900 hj h4, h⟩) k
theorem gEx.schr {j : Nat} {i : Int32} (hj : j < 7) (h4 : 4 ≤ d) (hc : code pc = some (.invokedynamic 2, nx, v, kp)) (hk : gkeep ls kp = ls) (hw : gcan 0 0 (0, 0) st = true) (k : gEx d code sh rs nx ls (.int (gsch j i.toNatClampNeg) :: st) m o) : gEx d code sh rs pc ls (.int i :: .retAddr j :: st) m (gok (gib i (gslen j)) o) := by
  unfold gok
  cases hi : gib i (gslen j) with
  | false => exact gEx.none
  | true =>
    exact gEx.one hc hk (fun post k h => by
      show cond (gcan 0 0 (0, 0) st) (∃ r, gR gmi gdf gcd d 901 [.retAddr j, .int i] (sh, m) r ∧ k nx ls (r.1.toList ++ st) r.2 (0, 0)) False
      rw [hw]
      exact ⟨(some (.int (gsch j i.toNatClampNeg)), (sh, m)), gR901 hj h4 hi, h⟩) k
theorem gEx.reti {d : Nat} {sh : gH} {x : Int32} (hc : code pc = some (.ireturn, nx, v, kp)) (hk : gkeep ls kp = ls) : gEx d code sh gri pc ls [.int x] m (some (x, m)) :=
  gEx.ret hc hk (fun post k h => h)
theorem gEx.retz {d : Nat} {sh : gH} {x : Int32} (hc : code pc = some (.freturn, nx, v, kp)) (hk : gkeep ls kp = ls) : gEx d code sh gri pc ls [.int x] m (gzo x (some (x, m))) := by
  unfold gzo
  by_cases hx : x = 0 ∨ x = 1
  · rw [if_pos hx]
    exact gEx.ret hc hk (fun post k h => by show (if x = 0 ∨ x = 1 then post (some (.int x)) (sh, m) else False); rw [if_pos hx]; exact h)
  · rw [if_neg hx]; exact gEx.none
theorem gEx.retz0 {d : Nat} {sh : gH} {x : Int32} (hx : x = 0 ∨ x = 1) (hc : code pc = some (.freturn, nx, v, kp)) (hk : gkeep ls kp = ls) : gEx d code sh gri pc ls [.int x] m (some (x, m)) :=
  gEx.ret hc hk (fun post k h => by show (if x = 0 ∨ x = 1 then post (some (.int x)) (sh, m) else False); rw [if_pos hx]; exact h)
theorem gEx.retl {d : Nat} {sh : gH} {x : Int64} (hc : code pc = some (.lreturn, nx, v, kp)) (hk : gkeep ls kp = ls) : gEx d code sh grl pc ls [.long x] m (some (x, m)) :=
  gEx.ret hc hk (fun post k h => h)
theorem gEx.rets {d : Nat} {sh : gH} {x : Nat} (hc : code pc = some (.areturn, nx, v, kp)) (hk : gkeep ls kp = ls) : gEx d code sh grs pc ls [.retAddr x] m (some (x, m)) :=
  gEx.ret hc hk (fun post k h => h)
theorem gEx.retv {d : Nat} {sh : gH} (hc : code pc = some (.return_, nx, v, kp)) (hk : gkeep ls kp = ls) : gEx d code sh grv pc ls [] m (some m) :=
  gEx.ret hc hk (fun post k h => h)
theorem gEx.aald {a kd : Nat} {l : List (Option Nat)} {i : Int32} {t : Nat → Nat} (hc : code pc = some (.aaload, nx, v, kp)) (hk : gkeep ls kp = ls) (hs : sh.1 a = some (.inr (.inl (kd, l)))) (hkd : (Nat.beq kd 10 || Nat.beq kd 12) = true) (hl : ∀ j, j < l.length → l.getD j Option.none = some (t j)) (k : i.toNatClampNeg < l.length → gEx d code sh rs nx ls (.ref (t i.toNatClampNeg) :: st) m o) : gEx d code sh rs pc ls (.int i :: .ref a :: st) m (gok (gib i l.length) o) := by
  unfold gok
  cases hi : gib i l.length with
  | false => exact gEx.none
  | true =>
    have hlt : i.toNatClampNeg < l.length := by
      unfold gib at hi
      rw [Bool.and_eq_true, decide_eq_true_eq, decide_eq_true_eq] at hi
      exact hi.2
    exact gEx.one hc hk (fun post k h => by
      show (match sh.1 a with
          | some (.inr (.inl (kd, l))) => cond (Nat.beq kd 10 || Nat.beq kd 12) (cond (gib i l.length) (match l.getD i.toNatClampNeg Option.none with
              | some t => k nx ls (.ref t :: st) (sh, m) (0, 0)
              | Option.none => k nx ls (.null :: st) (sh, m) (0, 0)) False) False
          | _ => False)
      rw [hs]
      show cond (Nat.beq kd 10 || Nat.beq kd 12) (cond (gib i l.length) (match l.getD i.toNatClampNeg Option.none with
              | some t => k nx ls (.ref t :: st) (sh, m) (0, 0)
              | Option.none => k nx ls (.null :: st) (sh, m) (0, 0)) False) False
      rw [hkd, hi, hl _ hlt]
      exact h) (k hlt)
end GEX
/-- a block of cells from a on -/
def gHas (S : Nat → Option gE) (a : Nat) (L : List gE) : Prop := ∀ j e, gnth L j = some e → S (a + j) = some e
theorem gHas.nil {S : Nat → Option gE} {a : Nat} : gHas S a [] := fun _ _ h => by cases h
theorem gHas.cons {S : Nat → Option gE} {a : Nat} {e : gE} {L : List gE} (h : S a = some e) (t : gHas S (a + 1) L) : gHas S a (e :: L) := by
  intro j e' hj
  cases j with
  | zero => cases hj; exact h
  | succ j =>
    have := t j e' hj
    rw [Nat.add_assoc, Nat.add_comm 1 j] at this
    exact this
