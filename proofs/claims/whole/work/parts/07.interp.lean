/-! ===== the abstract machine: resolved instructions over worlds by ids ===== -/
/-- a cell by its shape: a row of ints (kind 0), booleans (1), longs (2) with a length; a row of references (kind, what it holds); an object (class, per field: a number, null, a cell) -/
abbrev gE : Type := (Nat × Nat) ⊕ ((Nat × List (Option Nat)) ⊕ (Nat × List (Option (Option Nat))))
/-- the numbers: ints and longs, by cell and place -/
abbrev gM : Type := (Nat → Nat → Int32) × (Nat → Nat → Int64)
abbrev gH : Type := (Nat → Option gE) × Nat
abbrev gS : Type := gH × gM
abbrev gL : Type := List (Option Value)
abbrev gPost : Type := Option Value → gS → Prop
def gup (N : Nat → Nat → Int32) (a i : Nat) (x : Int32) : Nat → Nat → Int32 := fun p q => if p = a then (if q = i then x else N a q) else N p q
def gupL (N : Nat → Nat → Int64) (a i : Nat) (x : Int64) : Nat → Nat → Int64 := fun p q => if p = a then (if q = i then x else N a q) else N p q
def grow {α : Type} (N : Nat → Nat → α) (a : Nat) (f : Nat → α) : Nat → Nat → α := fun p => if p = a then f else N p
def gsh (S : Nat → Option gE) (a : Nat) (e : gE) : Nat → Option gE := fun p => if p = a then some e else S p
def gib (i : Int32) (n : Nat) : Bool := decide (0 ≤ i) && decide (i.toNatClampNeg < n)
theorem gib_in {i : Int32} {n : Nat} (h : gib i n = true) : vp_in i n := by
  unfold gib at h
  rw [Bool.and_eq_true, decide_eq_true_eq, decide_eq_true_eq] at h
  rintro (q | q)
  · exact Int32.not_lt.mpr h.1 q
  · omega
/-- locals: set (a long's first half that is overwritten is gone), read, cut -/
def gset : gL → Nat → Value → gL
  | [], _, _ => []
  | _ :: l, 0, v => some v :: l
  | a :: l, 1, v => (match a with
      | some (.long _) => none
      | some (.double _) => none
      | a => a) :: gset l 0 v
  | a :: l, n + 2, v => a :: gset l (n + 1) v
def gnon : gL → Nat → gL
  | [], _ => []
  | _ :: l, 0 => none :: l
  | a :: l, n + 1 => a :: gnon l n
def gset2 (l : gL) (i : Nat) (v : Value) : gL := gnon (gset l i v) (i + 1)
def gget : gL → Nat → Option Value
  | [], _ => none
  | a :: _, 0 => a
  | _ :: l, n + 1 => gget l n
def gcut : gL → Nat → gL
  | [], _ => []
  | _ :: l, 0 => none :: gcut l 0
  | a :: l, n + 1 => a :: gcut l n
def gkeep (l : gL) : Nat → gL
  | 0 => l
  | n + 1 => gcut l (n + 1)
def gpop : Nat → List Value → List Value → Option (List Value × List Value)
  | 0, acc, st => some (acc, st)
  | _ + 1, _, [] => none
  | n + 1, acc, v :: st => gpop n (v :: acc) st
/-- locals at a method's entry -/
def gent : Nat → List Value → gL
  | n, [] => List.replicate n none
  | 0, _ => []
  | 1, v :: _ => [some v]
  | n + 2, v :: as => match v with
      | .long x => some (.long x) :: none :: gent n as
      | .double _ => []
      | v => some v :: gent (n + 1) as
def gfv (m : gM) (id k : Nat) : Option (Option Nat) → Value
  | none => .int (m.1 id k)
  | some none => .null
  | some (some t) => .ref t
def gcmp (c : Jvm.ClassFile.Cond) (x y : Int32) (A B : Prop) : Prop := match c with
  | .eq => if x = y then A else B
  | .ne => if x = y then B else A
  | .lt => if x < y then A else B
  | .ge => if x < y then B else A
  | .gt => if y < x then A else B
  | .le => if y < x then B else A
def gsw (x : Int32) (A : Nat → Prop) : List (Int × Int) → Nat → Prop
  | [], d => A d
  | (v, t) :: l, d => if x = Int32.ofInt v then A t.toNat else gsw x A l d
/-- String constants: their bytes -/
def gstrs : List (List Int32) := [[110, 101, 97, 114], [97, 112, 97, 114, 116], [101, 97, 99, 104], [97, 99, 114, 101], [115, 104, 117, 116], [101, 120, 99, 101, 112, 116], [102, 114, 111, 109]]
def gslen (j : Nat) : Nat := (gstrs.getD j []).length
def gsch (j i : Nat) : Int32 := (gstrs.getD j []).getD i 0
def gcpy (N : Nat → Nat → Int32) (a b sp dp n : Nat) : Nat → Nat → Int32 := grow N b (va_cpy (N a) (N b) sp dp n)
def gmax (x y : Int32) : Int32 := if x < y then y else x
def gmin (x y : Int32) : Int32 := if y < x then y else x
def gabs (x : Int32) : Int32 := if 0 ≤ x then x else 0 - x
/-- a call: its cost is there, the rest of the stack is short -/
def gw : List Value → Nat
  | [] => 0
  | v :: st => v.category + gw st
def gcan (c1 c2 : Nat) (bd : Nat × Nat) (st : List Value) : Bool := Nat.ble c1 bd.1 && (Nat.ble c2 bd.2 && Nat.ble (gw st) 8)
/-- one instruction; k goes on at (pc, locals, stack, state, budget) -/
def gstep (C : Nat → List Value → gS → Option Value × gS → Prop) (mi : Nat → Option (Nat × Nat × Nat × Nat)) (df : Nat → List (Option (Option Nat))) (ins : Instr) (nx : Nat) (v : Int32) (ls : gL) (st : List Value) (s : gS) (bd : Nat × Nat) (post : gPost) (k : Nat → gL → List Value → gS → Nat × Nat → Prop) : Prop :=
  match ins with
  | .iconst _ => k nx ls (.int v :: st) s bd
  | .lconst _ => k nx ls (.long v.toInt64 :: st) s bd
  | .ldc j => k nx ls (.retAddr j :: st) s bd
  | .iload i => match gget ls i with
      | some (.int x) => k nx ls (.int x :: st) s bd
      | _ => False
  | .lload i => match gget ls i with
      | some (.long x) => k nx ls (.long x :: st) s bd
      | _ => False
  | .aload i => match gget ls i with
      | some (.ref x) => k nx ls (.ref x :: st) s bd
      | some (.retAddr x) => k nx ls (.retAddr x :: st) s bd
      | _ => False
  | .istore i => match st with
      | .int x :: st => k nx (gset ls i (.int x)) st s bd
      | _ => False
  | .lstore i => match st with
      | .long x :: st => k nx (gset2 ls i (.long x)) st s bd
      | _ => False
  | .astore i => match st with
      | .ref x :: st => k nx (gset ls i (.ref x)) st s bd
      | _ => False
  | .iinc i _ => match gget ls i with
      | some (.int x) => k nx (gset ls i (.int (x + v))) st s bd
      | _ => False
  | .iadd => match st with
      | .int y :: .int x :: st => k nx ls (.int (x + y) :: st) s bd
      | _ => False
  | .isub => match st with
      | .int y :: .int x :: st => k nx ls (.int (x - y) :: st) s bd
      | _ => False
  | .imul => match st with
      | .int y :: .int x :: st => k nx ls (.int (x * y) :: st) s bd
      | _ => False
  | .iand => match st with
      | .int y :: .int x :: st => k nx ls (.int (x &&& y) :: st) s bd
      | _ => False
  | .ior => match st with
      | .int y :: .int x :: st => k nx ls (.int (x ||| y) :: st) s bd
      | _ => False
  | .ixor => match st with
      | .int y :: .int x :: st => k nx ls (.int (x ^^^ y) :: st) s bd
      | _ => False
  | .idiv => match st with
      | .int y :: .int x :: st => if y = 0 then False else k nx ls (.int (x / y) :: st) s bd
      | _ => False
  | .irem => match st with
      | .int y :: .int x :: st => if y = 0 then False else k nx ls (.int (x - x / y * y) :: st) s bd
      | _ => False
  | .ineg => match st with
      | .int x :: st => k nx ls (.int (-x) :: st) s bd
      | _ => False
  | .ishl => match st with
      | .int y :: .int x :: st => k nx ls (.int (x <<< (y &&& 31)) :: st) s bd
      | _ => False
  | .ishr => match st with
      | .int y :: .int x :: st => k nx ls (.int (x >>> (y &&& 31)) :: st) s bd
      | _ => False
  | .i2l => match st with
      | .int x :: st => k nx ls (.long x.toInt64 :: st) s bd
      | _ => False
  | .l2i => match st with
      | .long x :: st => k nx ls (.int x.toInt32 :: st) s bd
      | _ => False
  | .i2b => match st with
      | .int x :: st => k nx ls (.int x.toInt8.toInt32 :: st) s bd
      | _ => False
  | .i2s => match st with
      | .int x :: st => k nx ls (.int x.toInt16.toInt32 :: st) s bd
      | _ => False
  | .ladd => match st with
      | .long y :: .long x :: st => k nx ls (.long (x + y) :: st) s bd
      | _ => False
  | .lmul => match st with
      | .long y :: .long x :: st => k nx ls (.long (x * y) :: st) s bd
      | _ => False
  | .ldiv => match st with
      | .long y :: .long x :: st => if y = 0 then False else k nx ls (.long (x / y) :: st) s bd
      | _ => False
  | .lshr => match st with
      | .int y :: .long x :: st => k nx ls (.long (x >>> (y.toInt64 &&& 63)) :: st) s bd
      | _ => False
  | .lushr => match st with
      | .int y :: .long x :: st => k nx ls (.long (x.toUInt64 >>> (y.toInt64.toUInt64 &&& Int64.toUInt64 63)).toInt64 :: st) s bd
      | _ => False
  | .lcmp => match st with
      | .long y :: .long x :: st => k nx ls (.int (lg_cmp x y) :: st) s bd
      | _ => False
  | .dup => match st with
      | .int x :: st => k nx ls (.int x :: .int x :: st) s bd
      | .ref x :: st => k nx ls (.ref x :: .ref x :: st) s bd
      | _ => False
  | .dup2 => match st with
      | .int x :: .ref y :: st => k nx ls (.int x :: .ref y :: .int x :: .ref y :: st) s bd
      | _ => False
  | .pop => match st with
      | .int _ :: st => k nx ls st s bd
      | _ => False
  | .ifCond c t => match st with
      | .int x :: st => gcmp c x 0 (k t.toNat ls st s bd) (k nx ls st s bd)
      | _ => False
  | .if_icmp c t => match st with
      | .int y :: .int x :: st => gcmp c x y (k t.toNat ls st s bd) (k nx ls st s bd)
      | _ => False
  | .ifnonnull t => match st with
      | .ref _ :: st => k t.toNat ls st s bd
      | .null :: st => k nx ls st s bd
      | _ => False
  | .goto t => k t.toNat ls st s bd
  | .lookupswitch d ps => match st with
      | .int x :: st => gsw x (fun t => k t ls st s bd) ps.toList d.toNat
      | _ => False
  | .invokeinterface ci f => match st with
      | .ref a :: st => match s.1.1 a with
          | some (.inr (.inr (c, fs))) => cond (Nat.beq c ci) (match fs[f]? with
              | some e => k nx ls (gfv s.2 a f e :: st) s bd
              | none => False) False
          | _ => False
      | _ => False
  | .multianewarray ci f => match st with
      | .int x :: .ref a :: st => match s.1.1 a with
          | some (.inr (.inr (c, fs))) => cond (Nat.beq c ci) (match fs[f]?, (df ci)[f]? with
              | some none, some none => cond (gZf ci f) (if x = 0 ∨ x = 1 then k nx ls st (s.1, gup s.2.1 a f x, s.2.2) bd else False) (k nx ls st (s.1, gup s.2.1 a f x, s.2.2) bd)
              | _, _ => False) False
          | _ => False
      | .ref t :: .ref a :: st => match s.1.1 a with
          | some (.inr (.inr (c, fs))) => cond (Nat.beq c ci) (match fs[f]?, (df ci)[f]? with
              | some (some _), some (some _) => k nx ls st ((gsh s.1.1 a (.inr (.inr (c, fs.set f (some (some t))))), s.1.2), s.2) bd
              | _, _ => False) False
          | _ => False
      | _ => False
  | .iaload => match st with
      | .int i :: .ref a :: st => match s.1.1 a with
          | some (.inl (0, n)) => cond (gib i n) (k nx ls (.int (s.2.1 a i.toNatClampNeg) :: st) s bd) False
          | _ => False
      | _ => False
  | .baload => match st with
      | .int i :: .ref a :: st => match s.1.1 a with
          | some (.inl (1, n)) => cond (gib i n) (k nx ls (.int (s.2.1 a i.toNatClampNeg) :: st) s bd) False
          | _ => False
      | _ => False
  | .laload => match st with
      | .int i :: .ref a :: st => match s.1.1 a with
          | some (.inl (2, n)) => cond (gib i n) (k nx ls (.long (s.2.2 a i.toNatClampNeg) :: st) s bd) False
          | _ => False
      | _ => False
  | .aaload => match st with
      | .int i :: .ref a :: st => match s.1.1 a with
          | some (.inr (.inl (kd, l))) => cond (Nat.beq kd 10 || Nat.beq kd 12) (cond (gib i l.length) (match l.getD i.toNatClampNeg none with
              | some t => k nx ls (.ref t :: st) s bd
              | none => k nx ls (.null :: st) s bd) False) False
          | _ => False
      | _ => False
  | .iastore => match st with
      | .int x :: .int i :: .ref a :: st => match s.1.1 a with
          | some (.inl (0, n)) => cond (gib i n) (k nx ls st (s.1, gup s.2.1 a i.toNatClampNeg x, s.2.2) bd) False
          | _ => False
      | _ => False
  | .bastore => match st with
      | .int x :: .int i :: .ref a :: st => match s.1.1 a with
          | some (.inl (1, n)) => cond (gib i n) (if x = 0 ∨ x = 1 then k nx ls st (s.1, gup s.2.1 a i.toNatClampNeg x, s.2.2) bd else False) False
          | _ => False
      | _ => False
  | .lastore => match st with
      | .long x :: .int i :: .ref a :: st => match s.1.1 a with
          | some (.inl (2, n)) => cond (gib i n) (k nx ls st (s.1, s.2.1, gupL s.2.2 a i.toNatClampNeg x) bd) False
          | _ => False
      | _ => False
  | .aastore => match st with
      | .ref t :: .int i :: .ref a :: st => match s.1.1 a with
          | some (.inr (.inl (kd, l))) => cond (gib i l.length) (match s.1.1 t with
              | some (.inr (.inr (c, _))) => cond (Nat.beq kd (c + 3) && (Nat.beq kd 10 || Nat.beq kd 12)) (k nx ls st ((gsh s.1.1 a (.inr (.inl (kd, l.set i.toNatClampNeg (some t)))), s.1.2), s.2) bd) False
              | _ => False) False
          | _ => False
      | _ => False
  | .arraylength => match st with
      | .ref a :: st => match s.1.1 a with
          | some (.inl (0, n)) => k nx ls (.int (Int32.ofNat n) :: st) s bd
          | _ => False
      | _ => False
  | .new ci => cond (Nat.ble 1 bd.1 && Nat.ble (df ci).length bd.2) (k nx ls (.ref s.1.2 :: st) ((gsh s.1.1 s.1.2 (.inr (.inr (ci, df ci))), s.1.2 + 1), grow s.2.1 s.1.2 (fun _ => 0), s.2.2) (bd.1 - 1, bd.2 - (df ci).length)) False
  | .newarray t => match st with
      | .int n :: st => match t with
          | .int => cond (decide (0 ≤ n) && Nat.ble 1 bd.1 && Nat.ble n.toNatClampNeg bd.2 && Nat.ble n.toNatClampNeg 8000) (k nx ls (.ref s.1.2 :: st) ((gsh s.1.1 s.1.2 (.inl (0, n.toNatClampNeg)), s.1.2 + 1), grow s.2.1 s.1.2 (fun _ => 0), s.2.2) (bd.1 - 1, bd.2 - n.toNatClampNeg)) False
          | .boolean => cond (decide (0 ≤ n) && Nat.ble 1 bd.1 && Nat.ble n.toNatClampNeg bd.2 && Nat.ble n.toNatClampNeg 8000) (k nx ls (.ref s.1.2 :: st) ((gsh s.1.1 s.1.2 (.inl (1, n.toNatClampNeg)), s.1.2 + 1), grow s.2.1 s.1.2 (fun _ => 0), s.2.2) (bd.1 - 1, bd.2 - n.toNatClampNeg)) False
          | .long => cond (decide (0 ≤ n) && Nat.ble 1 bd.1 && Nat.ble n.toNatClampNeg bd.2 && Nat.ble n.toNatClampNeg 8000) (k nx ls (.ref s.1.2 :: st) ((gsh s.1.1 s.1.2 (.inl (2, n.toNatClampNeg)), s.1.2 + 1), s.2.1, grow s.2.2 s.1.2 (fun _ => 0)) (bd.1 - 1, bd.2 - n.toNatClampNeg)) False
          | _ => False
      | _ => False
  | .anewarray kd => match st with
      | .int n :: st => cond (decide (0 ≤ n) && Nat.ble 1 bd.1 && Nat.ble n.toNatClampNeg bd.2 && Nat.ble n.toNatClampNeg 8000) (k nx ls (.ref s.1.2 :: st) ((gsh s.1.1 s.1.2 (.inr (.inl (kd, List.replicate n.toNatClampNeg none))), s.1.2 + 1), s.2) (bd.1 - 1, bd.2 - n.toNatClampNeg)) False
      | _ => False
  | .invokestatic q => match mi q with
      | some (_, n, c1, c2) => (match gpop n [] st with
          | some (as, st) => cond (gcan c1 c2 bd st) (∃ r, C q as s r ∧ k nx ls (r.1.toList ++ st) r.2 (bd.1 - c1, bd.2 - c2)) False
          | none => False)
      | none => False
  | .invokevirtual q => match mi q with
      | some (ci, n, c1, c2) => (match gpop n [] st with
          | some (as, .ref a :: st) => (match s.1.1 a with
              | some (.inr (.inr (c, _))) => cond (Nat.beq c ci) (cond (gcan c1 c2 bd st) (∃ r, C q (.ref a :: as) s r ∧ k nx ls (r.1.toList ++ st) r.2 (bd.1 - c1, bd.2 - c2)) False) False
              | _ => False)
          | _ => False)
      | none => False
  | .invokespecial q => match mi q with
      | some (_, n, c1, c2) => (match gpop n [] st with
          | some (as, .ref a :: st) => cond (gcan c1 c2 bd st) (∃ r, C q (.ref a :: as) s r ∧ k nx ls (r.1.toList ++ st) r.2 (bd.1 - c1, bd.2 - c2)) False
          | _ => False)
      | none => (match st with
          | .ref _ :: st => cond (gcan 0 0 bd st) (k nx ls st s bd) False
          | _ => False)
  | .invokedynamic q => match q with
      | 0 => (match st with
          | .int n :: .int dp :: .ref b :: .int sp :: .ref a :: st => (match s.1.1 a, s.1.1 b with
              | some (.inl (0, n0)), some (.inl (0, n1)) => cond (gcan 0 0 bd st && decide (0 ≤ sp) && decide (0 ≤ dp) && decide (0 ≤ n) && Nat.ble (sp.toNatClampNeg + n.toNatClampNeg) n0 && Nat.ble (dp.toNatClampNeg + n.toNatClampNeg) n1) (k nx ls st (s.1, gcpy s.2.1 a b sp.toNatClampNeg dp.toNatClampNeg n.toNatClampNeg, s.2.2) bd) False
              | _, _ => False)
          | _ => False)
      | 1 => (match st with
          | .retAddr j :: st => cond (gcan 0 0 bd st) (∃ r, C 900 [.retAddr j] s r ∧ k nx ls (r.1.toList ++ st) r.2 bd) False
          | _ => False)
      | 2 => (match st with
          | .int i :: .retAddr j :: st => cond (gcan 0 0 bd st) (∃ r, C 901 [.retAddr j, .int i] s r ∧ k nx ls (r.1.toList ++ st) r.2 bd) False
          | _ => False)
      | 3 => (match st with
          | .int y :: .int x :: st => cond (gcan 0 0 bd st) (k nx ls (.int (gmax x y) :: st) s bd) False
          | _ => False)
      | 4 => (match st with
          | .int y :: .int x :: st => cond (gcan 0 0 bd st) (k nx ls (.int (gmin x y) :: st) s bd) False
          | _ => False)
      | 5 => (match st with
          | .int x :: st => cond (gcan 0 0 bd st) (k nx ls (.int (gabs x) :: st) s bd) False
          | _ => False)
      | _ => False
  | .ireturn => match st with
      | [.int x] => post (some (.int x)) s
      | _ => False
  | .freturn => match st with
      | [.int x] => if x = 0 ∨ x = 1 then post (some (.int x)) s else False
      | _ => False
  | .lreturn => match st with
      | [.long x] => post (some (.long x)) s
      | _ => False
  | .areturn => match st with
      | [.retAddr x] => post (some (.retAddr x)) s
      | _ => False
  | .return_ => match st with
      | [] => post none s
      | _ => False
  | _ => False
def gexec (C : Nat → List Value → gS → Option Value × gS → Prop) (mi : Nat → Option (Nat × Nat × Nat × Nat)) (df : Nat → List (Option (Option Nat))) (code : gC) (post : gPost) : Nat → Nat → gL → List Value → gS → Nat × Nat → Prop
  | 0, _, _, _, _, _ => False
  | n + 1, pc, ls, st, s, bd => match code pc with
      | none => False
      | some (ins, nx, v, kp) => gstep C mi df ins nx v (gkeep ls kp) st s bd post (gexec C mi df code post n)
/-- method q of the table at depth d: from (arguments, state) to (answer, state) -/
def gR (mi : Nat → Option (Nat × Nat × Nat × Nat)) (df : Nat → List (Option (Option Nat))) (cd : Nat → Option (Nat × gC)) : Nat → Nat → List Value → gS → Option Value × gS → Prop
  | 0, _, _, _, _ => False
  | d + 1, q, as, s, r => match mi q, cd q with
      | some (_, _, c1, c2), some (mx, code) => (lg_sl as).length ≤ mx ∧ ∃ n, gexec (gR mi df cd d) mi df code (fun v t => (v, t) = r) n 0 (gent mx as) [] s (c1, c2)
      | _, _ => match q, as with
          | 900, [.retAddr j] => j < 7 ∧ 4 ≤ d + 1 ∧ r = (some (.int (Int32.ofNat (gslen j))), s)
          | 901, [.retAddr j, .int i] => j < 7 ∧ 4 ≤ d + 1 ∧ gib i (gslen j) = true ∧ r = (some (.int (gsch j i.toNatClampNeg)), s)
          | _, _ => False
