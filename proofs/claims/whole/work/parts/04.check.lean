/-! ===== the resolved code is the bytes' own: a check by program, and what it gives ===== -/
def gix (i : Nat) (w : Cond) : Bool := match gnth lw_tbl i with
  | some w' => decide (w' = w) && goodWord w
  | none => false
theorem gnth_mem {α : Type} : ∀ {l : List α} {i : Nat} {a : α}, gnth l i = some a → a ∈ l
  | [], _, _, h => by cases h
  | x :: l, 0, a, h => by cases h; exact List.mem_cons_self
  | x :: l, n + 1, a, h => List.mem_cons_of_mem _ (gnth_mem (l := l) (i := n) h)
theorem gix_mem {i : Nat} {w : Cond} (h : gix i w = true) : w ∈ gT := by
  unfold gix at h
  split at h
  · rename_i w' hw
    rw [Bool.and_eq_true, decide_eq_true_eq] at h
    exact gT_mem (h.1 ▸ gnth_mem hw) h.2
  · cases h
theorem glook_mem : ∀ {l : List gIn} {pc : Nat} {e : Instr × Nat × Int32 × Nat}, glook l pc = some e → (pc, e) ∈ l
  | [], _, _, h => by cases h
  | a :: l, pc, e, h => by
    unfold glook at h
    cases hb : Nat.beq a.1 pc with
    | true =>
      rw [hb] at h
      have h1 : a.2 = e := Option.some.inj h
      have h2 : a.1 = pc := Nat.eq_of_beq_eq_true hb
      rw [← h1, ← h2]
      exact List.mem_cons_self
    | false =>
      rw [hb] at h
      exact List.mem_cons_of_mem _ (glook_mem (l := l) h)
def g4 (l : List (Nat × Nat × Nat × Nat × Nat)) (o i c k : Nat) : Bool := l.any fun q => Nat.beq q.1 o && (Nat.beq q.2.1 i && (Nat.beq q.2.2.1 c && Nat.beq q.2.2.2.1 k))
theorem g4_mem {l : List (Nat × Nat × Nat × Nat × Nat)} {o i c k : Nat} (h : g4 l o i c k = true) : ∃ p, (o, i, c, k, p) ∈ l := by
  obtain ⟨⟨a1, a2, a3, a4, a5⟩, hm, hq⟩ := List.any_eq_true.mp h
  simp only [Bool.and_eq_true] at hq
  obtain ⟨e1, e2, e3, e4⟩ := hq
  cases Nat.eq_of_beq_eq_true e1; cases Nat.eq_of_beq_eq_true e2; cases Nat.eq_of_beq_eq_true e3; cases Nat.eq_of_beq_eq_true e4
  exact ⟨a5, hm⟩
def gmlk (o i q k : Nat) : Bool := gML.any fun e => Nat.beq e.1 o && (Nat.beq e.2.1 i && (Nat.beq e.2.2.1 q && Nat.beq e.2.2.2.1 k))
theorem gmlk_mem {o i q k : Nat} (h : gmlk o i q k = true) : ∃ p, (o, i, q, k, p) ∈ gML := by
  obtain ⟨⟨a1, a2, a3, a4, a5⟩, hm, hq⟩ := List.any_eq_true.mp h
  simp only [Bool.and_eq_true] at hq
  obtain ⟨e1, e2, e3, e4⟩ := hq
  cases Nat.eq_of_beq_eq_true e1; cases Nat.eq_of_beq_eq_true e2; cases Nat.eq_of_beq_eq_true e3; cases Nat.eq_of_beq_eq_true e4
  exact ⟨a5, hm⟩
/-- is it an instruction without operands that stands for itself -/
def gplain (i : Instr) : Bool := match i with
  | .iadd | .isub | .imul | .iand | .ior | .ixor | .idiv | .irem | .ineg | .ishl | .ishr | .i2l | .l2i | .i2b | .i2s | .ladd | .lmul | .ldiv | .lshr | .lushr | .lcmp | .dup | .dup2 | .pop => true
  | .iaload | .baload | .laload | .aaload | .iastore | .bastore | .lastore | .aastore | .arraylength => true
  | _ => false
def gmt (o : Nat) (ini : Bool) (rt : Option FieldType) (mx pc len : Nat) (cins ins : Instr) (v : Int32) : Bool :=
  match ins with
  | .iconst _ => match cins with
      | .iconst i => Nat.beq len 1 && decide (Int32.ofInt i = v)
      | .bipush i => Nat.beq len 2 && decide ((Int8.ofInt i).toInt32 = v)
      | .sipush i => Nat.beq len 3 && decide ((Int16.ofInt i).toInt32 = v)
      | .ldc i => Nat.beq len 2 && gCO.any fun q => Nat.beq q.1 o && (Nat.beq q.2.1 i && decide (q.2.2.1 = v))
      | .ldc_w i => Nat.beq len 3 && gCO.any fun q => Nat.beq q.1 o && (Nat.beq q.2.1 i && decide (q.2.2.1 = v))
      | _ => false
  | .lconst _ => match cins with
      | .lconst i => Nat.beq len 1 && decide (Int64.ofNat (i : Nat) = v.toInt64)
      | .ldc2_w i => Nat.beq len 3 && gLO.any fun q => Nat.beq q.1 o && (Nat.beq q.2.1 i && decide (q.2.2.1 = v))
      | _ => false
  | .ldc j => match cins with
      | .ldc i => Nat.beq len 2 && gSO.any fun q => Nat.beq q.1 o && (Nat.beq q.2.1 i && Nat.beq q.2.2 j)
      | _ => false
  | .iload i => match cins with
      | .iload k => Nat.beq len 2 && Nat.beq k i
      | .iload_n k => Nat.beq len 1 && Nat.beq k.val i
      | _ => false
  | .lload i => match cins with
      | .lload k => Nat.beq len 2 && Nat.beq k i
      | .lload_n k => Nat.beq len 1 && Nat.beq k.val i
      | _ => false
  | .aload i => match cins with
      | .aload k => Nat.beq len 2 && Nat.beq k i
      | .aload_n k => Nat.beq len 1 && Nat.beq k.val i
      | _ => false
  | .istore i => match cins with
      | .istore k => Nat.beq len 2 && (Nat.beq k i && Nat.ble (i + 1) mx)
      | .istore_n k => Nat.beq len 1 && (Nat.beq k.val i && Nat.ble (i + 1) mx)
      | _ => false
  | .lstore i => match cins with
      | .lstore k => Nat.beq len 2 && (Nat.beq k i && Nat.ble (i + 2) mx)
      | .lstore_n k => Nat.beq len 1 && (Nat.beq k.val i && Nat.ble (i + 2) mx)
      | _ => false
  | .astore i => match cins with
      | .astore k => Nat.beq len 2 && (Nat.beq k i && Nat.ble (i + 1) mx)
      | .astore_n k => Nat.beq len 1 && (Nat.beq k.val i && Nat.ble (i + 1) mx)
      | _ => false
  | .iinc i _ => match cins with
      | .iinc k n => Nat.beq len 3 && (Nat.beq k i && (Nat.ble (i + 1) mx && decide (Int32.ofInt n = v)))
      | _ => false
  | .ifCond c t => match cins with
      | .ifCond c' off => Nat.beq len 3 && (decide (c' = c) && decide ((pc : Int) + off = ((t.toNat : Nat) : Int)))
      | _ => false
  | .if_icmp c t => match cins with
      | .if_icmp c' off => Nat.beq len 3 && (decide (c' = c) && decide ((pc : Int) + off = ((t.toNat : Nat) : Int)))
      | _ => false
  | .ifnonnull t => match cins with
      | .ifnonnull off => Nat.beq len 3 && decide ((pc : Int) + off = ((t.toNat : Nat) : Int))
      | _ => false
  | .goto t => match cins with
      | .goto off => Nat.beq len 3 && decide ((pc : Int) + off = ((t.toNat : Nat) : Int))
      | _ => false
  | .lookupswitch d ps => match cins with
      | .lookupswitch d' ps' => (ps'.toList.zip (ps'.toList.drop 1)).all (fun (a, next) => a.1 < next.1) && (decide ((pc : Int) + d' = ((d.toNat : Nat) : Int)) && (decide (ps.toList.map (fun a => a.1) = ps'.toList.map (fun a => a.1)) && (decide (ps.toList.map (fun a => ((a.2.toNat : Nat) : Int)) = ps'.toList.map (fun a => (pc : Int) + a.2)) && ps.toList.all (fun a => decide ((Int32.ofInt a.1).toInt = a.1)))))
      | .tableswitch d' lo hi offs => decide ((pc : Int) + d' = ((d.toNat : Nat) : Int)) && (decide (hi = lo + (offs.size : Int) - 1) && (decide (ps.toList.map (fun a => a.1) = (List.range offs.size).map (fun i : Nat => lo + (i : Int))) && (decide (ps.toList.map (fun a => ((a.2.toNat : Nat) : Int)) = offs.toList.map (fun a => (pc : Int) + a)) && ps.toList.all (fun a => decide ((Int32.ofInt a.1).toInt = a.1)))))
      | _ => false
  | .invokeinterface ci k => match cins with
      | .getfield i => Nat.beq len 3 && g4 gFL o i ci k
      | _ => false
  | .multianewarray ci k => match cins with
      | .putfield i => Nat.beq len 3 && (g4 gPI o i ci k || (ini && g4 gPR o i ci k))
      | _ => false
  | .new ci => match cins with
      | .new i => Nat.beq len 3 && gCK.any fun q => Nat.beq q.1 o && (Nat.beq q.2.1 i && Nat.beq q.2.2.1 ci)
      | _ => false
  | .newarray t => match cins with
      | .newarray t' => Nat.beq len 2 && decide (t' = t)
      | _ => false
  | .anewarray kd => match cins with
      | .anewarray i => Nat.beq len 3 && gAL.any fun q => Nat.beq q.1 o && (Nat.beq q.2.1 i && Nat.beq q.2.2.1 kd)
      | _ => false
  | .invokestatic q => match cins with
      | .invokestatic i => Nat.beq len 3 && gmlk o i q 0
      | _ => false
  | .invokevirtual q => match cins with
      | .invokevirtual i => Nat.beq len 3 && gmlk o i q 1
      | _ => false
  | .invokespecial q => match cins with
      | .invokespecial i => Nat.beq len 3 && ((Nat.beq q 999 && gOI.any fun e => Nat.beq e.1 o && Nat.beq e.2.1 i) || (Nat.ble q 900 && (gmlk o i q 2 || gmlk o i q 3)))
      | _ => false
  | .invokedynamic t => match cins with
      | .invokestatic i => Nat.beq len 3 && ((Nat.beq t 0 && gAC.any fun e => Nat.beq e.1 o && Nat.beq e.2.1 i) || ((Nat.beq t 3 || (Nat.beq t 4 || Nat.beq t 5)) && gMA.any fun e => Nat.beq e.1 o && (Nat.beq e.2.1 i && Nat.beq e.2.2.1 t)))
      | .invokevirtual i => Nat.beq len 3 && ((Nat.beq t 1 || Nat.beq t 2) && gSX.any fun e => Nat.beq e.1 o && (Nat.beq e.2.1 i && Nat.beq e.2.2.1 t))
      | _ => false
  | .ireturn => decide (cins = .ireturn) && (Nat.beq len 1 && decide (rt = some .int))
  | .freturn => decide (cins = .ireturn) && (Nat.beq len 1 && decide (rt = some .boolean))
  | .lreturn => decide (cins = .lreturn) && (Nat.beq len 1 && decide (rt = some .long))
  | .areturn => decide (cins = .areturn) && (Nat.beq len 1 && decide (rt = some (.object "java/lang/String")))
  | .return_ => decide (cins = .return_) && (Nat.beq len 1 && decide (rt = none))
  | ins => gplain ins && (decide (cins = ins) && Nat.beq len 1)
def gck (o : Nat) (ini : Bool) (rt : Option FieldType) (mx : Nat) (cc : ByteArray) (x : gIn) : Bool := match decode cc x.1 with
  | .ok (cins, len) => Nat.beq x.2.2.1 (x.1 + len) && gmt o ini rt mx x.1 len cins x.2.1 x.2.2.2.1
  | .error _ => false
theorem gck_of {o : Nat} {ini : Bool} {rt : Option FieldType} {mx : Nat} {cc : ByteArray} {pc nx kp : Nat} {ins : Instr} {v : Int32} (h : gck o ini rt mx cc (pc, ins, nx, v, kp) = true) : ∃ cins len, decode cc pc = .ok (cins, len) ∧ nx = pc + len ∧ gmt o ini rt mx pc len cins ins v = true := by
  unfold gck at h
  split at h
  · rename_i cins len hd
    rw [Bool.and_eq_true] at h
    exact ⟨cins, len, hd, Nat.eq_of_beq_eq_true h.1, h.2⟩
  · cases h
/-- a method of the table: what is known of it -/
def gmeP (x : gMe) : Prop := Cond.code x.1.1 x.1.2.1 x.1.2.2.1 x.1.2.2.2 ∈ gT ∧ plainName x.1.1.cls = true ∧ (x.1.1.cls ≠ "java/lang/invoke/MethodHandle" ∧ x.1.1.cls ≠ "java/lang/invoke/VarHandle" ∧ (parseMethodDescriptor x.1.1.desc).map (fun d => d.parameters.length) = some x.2.2.1.2.1) ∧ gnm x.2.1.1 = x.1.1.cls ∧ x.1.2.2.1 ≤ 20 ∧ (x.2.1.2 = true → x.1.1.name = "<init>") ∧ (x.2.1.2 = true → x.1.2.2.2 = none) ∧ ∀ i ∈ x.2.2.2, gck x.2.1.1 x.2.1.2 x.1.2.2.2 x.1.2.2.1 x.1.2.1 i = true
def gmeB (x : gMe) : Bool := plainName x.1.1.cls && (decide (x.1.1.cls ≠ "java/lang/invoke/MethodHandle") && (decide (x.1.1.cls ≠ "java/lang/invoke/VarHandle") && (decide ((parseMethodDescriptor x.1.1.desc).map (fun d => d.parameters.length) = some x.2.2.1.2.1) && (decide (gnm x.2.1.1 = x.1.1.cls) && (Nat.ble x.1.2.2.1 20 && ((!x.2.1.2 || decide (x.1.1.name = "<init>")) && (!x.2.1.2 || decide (x.1.2.2.2 = none))))))))
theorem gmeP_of {x : gMe} (hc : Cond.code x.1.1 x.1.2.1 x.1.2.2.1 x.1.2.2.2 ∈ gT) (h : gmeB x = true) (hi : ∀ i ∈ x.2.2.2, gck x.2.1.1 x.2.1.2 x.1.2.2.2 x.1.2.2.1 x.1.2.1 i = true) : gmeP x := by
  unfold gmeB at h
  simp only [Bool.and_eq_true, decide_eq_true_eq, Bool.or_eq_true, Bool.not_eq_true'] at h
  obtain ⟨h1, h2, h3, h4, h5, h6, h7, h8⟩ := h
  refine ⟨hc, h1, ⟨h2, h3, h4⟩, h5, Nat.le_of_ble_eq_true h6, fun z => ?_, fun z => ?_, hi⟩
  · rcases h7 with h7 | h7
    · rw [z] at h7; cases h7
    · exact h7
  · rcases h8 with h8 | h8
    · rw [z] at h8; cases h8
    · exact h8
theorem gall {l : List gIn} {f : gIn → Bool} (h : l.all f = true) : ∀ i ∈ l, f i = true := List.all_eq_true.mp h
theorem gapp {a b : List gIn} {f : gIn → Bool} (ha : ∀ i ∈ a, f i = true) (hb : ∀ i ∈ b, f i = true) : ∀ i ∈ a ++ b, f i = true := List.forall_mem_append.mpr ⟨ha, hb⟩
