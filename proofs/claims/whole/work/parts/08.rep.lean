/-! ===== worlds by ids, and the heap: what an instruction does to both ===== -/
def genc (b : Nat) (str : Nat → Nat) : Value → Value
  | .ref id => .ref (b + id)
  | .retAddr j => .ref (str j)
  | v => v
abbrev gtys (ax : Nat → ClassId) : List (ClassId × FieldType) := [(ax 0, .int), (ax 1, .boolean), (ax 2, .long), (ax 12, .object RX9), (ax 10, .object RX7)]
def gclP (r : vw_C) : Prop := (∀ w ∈ u_ws r.1 r.2.1 r.2.2, w ∈ gT) ∧ ∃ ty : Nat → FieldType, (∀ k, k < r.2.2 → parseFieldDescriptor (r.2.1 k).2.2.1 = some (ty k)) ∧ ∀ a, a < r.2.2 → ∀ b, b < r.2.2 → a ≠ b → (r.2.1 a).2.1 ≠ (r.2.1 b).2.1
theorem gcl_ok : ∀ r ∈ gcl, gclP r := by
  refine List.forall_mem_cons.mpr ⟨⟨gT_all gin0 (by decide +kernel), tyX0, tyX0_ok, nmX0⟩, ?_⟩
  refine List.forall_mem_cons.mpr ⟨⟨gT_all gin1 (by decide +kernel), tyX1, tyX1_ok, nmX1⟩, ?_⟩
  refine List.forall_mem_cons.mpr ⟨⟨gT_all gin2 (by decide +kernel), tyX2, tyX2_ok, nmX2⟩, ?_⟩
  refine List.forall_mem_cons.mpr ⟨⟨gT_all gin3 (by decide +kernel), tyX3, tyX3_ok, nmX3⟩, ?_⟩
  refine List.forall_mem_cons.mpr ⟨⟨gT_all gin4 (by decide +kernel), tyX4, tyX4_ok, nmX4⟩, ?_⟩
  refine List.forall_mem_cons.mpr ⟨⟨gT_all gin5 (by decide +kernel), tyX5, tyX5_ok, nmX5⟩, ?_⟩
  refine List.forall_mem_cons.mpr ⟨⟨gT_all gin6 (by decide +kernel), tyX6, tyX6_ok, nmX6⟩, ?_⟩
  refine List.forall_mem_cons.mpr ⟨⟨gT_all gin7 (by decide +kernel), tyX7, tyX7_ok, nmX7⟩, ?_⟩
  refine List.forall_mem_cons.mpr ⟨⟨gT_all gin8 (by decide +kernel), tyX8, tyX8_ok, nmX8⟩, ?_⟩
  refine List.forall_mem_cons.mpr ⟨⟨gT_all gin9 (by decide +kernel), tyX9, tyX9_ok, nmX9⟩, ?_⟩
  refine List.forall_mem_cons.mpr ⟨⟨gT_all gin10 (by decide +kernel), tyX10, tyX10_ok, nmX10⟩, ?_⟩
  refine List.forall_mem_cons.mpr ⟨⟨gT_all gin11 (by decide +kernel), tyX11, tyX11_ok, nmX11⟩, ?_⟩
  refine List.forall_mem_cons.mpr ⟨⟨gT_all gin12 (by decide +kernel), tyX12, tyX12_ok, nmX12⟩, ?_⟩
  exact fun _ h => absurd h List.not_mem_nil
def gav (m : gM) (id k j : Nat) : Value := if k = 2 then .long (m.2 id j) else .int (m.1 id j)
def gcell (D : va_G) (ax : Nat → ClassId) (str : Nat → Nat) (b : Nat) (m : gM) (id : Nat) (H : Heap) : gE → Prop
  | .inl (k, n) => H[b + id]? = some (arrV (ax k) n (gav m id k))
  | .inr (.inl (k, l)) => H[b + id]? = some (arrV (ax k) l.length (fun j => genc b str (gfv m id j (some (l.getD j none)))))
  | .inr (.inr (ci, fs)) => ∃ r, gcl[ci]? = some r ∧ fs.length = r.2.2 ∧ t_OB (b + id) (D.1 ci) r.2.2 (D.2 ci) H (fun k => genc b str (gfv m id k (fs.getD k none)))
def gRep (D : va_G) (ax : Nat → ClassId) (str : Nat → Nat) (b : Nat) (q : gS) (H : Heap) : Prop := H.size = b + q.1.2 ∧ ∀ id e, q.1.1 id = some e → gcell D ax str b q.2 id H e
theorem gav_congr {m m' : gM} {id : Nat} (h1 : m'.1 id = m.1 id) (h2 : m'.2 id = m.2 id) (k : Nat) : gav m' id k = gav m id k := by
  funext j
  simp only [gav, h1, h2]
theorem gfv_congr {m m' : gM} {id : Nat} (h1 : m'.1 id = m.1 id) (k : Nat) (e : Option (Option Nat)) : gfv m' id k e = gfv m id k e := by
  rcases e with _ | _ | t
  · simp only [gfv, h1]
  · rfl
  · rfl
theorem gcell.kept {D : va_G} {ax : Nat → ClassId} {str : Nat → Nat} {b : Nat} {m m' : gM} {id : Nat} {H H1 : Heap} {e : gE} (h : gcell D ax str b m id H e) (hq : H1[b + id]? = H[b + id]?) (h1 : m'.1 id = m.1 id) (h2 : m'.2 id = m.2 id) : gcell D ax str b m' id H1 e := by
  rcases e with ⟨k, n⟩ | ⟨k, lx⟩ | ⟨ci, fs⟩
  · show H1[b + id]? = _
    rw [hq, gav_congr h1 h2]
    exact h
  · show H1[b + id]? = _
    rw [hq]
    have h9 : (fun j => genc b str (gfv m' id j (some (lx.getD j none)))) = fun j => genc b str (gfv m id j (some (lx.getD j none))) := by
      funext j
      rw [gfv_congr h1]
    rw [h9]
    exact h
  · obtain ⟨r, g1, g2, g3⟩ := h
    exact ⟨r, g1, g2, (g3.kept hq).to (fun k _ => by rw [gfv_congr h1])⟩
theorem gcell.lt {D : va_G} {ax : Nat → ClassId} {str : Nat → Nat} {b : Nat} {m : gM} {id : Nat} {H : Heap} {e : gE} (h : gcell D ax str b m id H e) : b + id < H.size := by
  rcases e with ⟨k, n⟩ | ⟨k, lx⟩ | ⟨ci, fs⟩
  · exact (Array.getElem?_eq_some_iff.mp h).1
  · exact (Array.getElem?_eq_some_iff.mp h).1
  · obtain ⟨r, g1, g2, cell, g3, -⟩ := h
    exact (Array.getElem?_eq_some_iff.mp g3).1
theorem gRep.put {D : va_G} {ax : Nat → ClassId} {str : Nat → Nat} {b : Nat} {q q' : gS} {H H1 : Heap} (id : Nat) (h : gRep D ax str b q H) (hz : H1.size = H.size) (ho : ∀ x : Nat, x ≠ b + id → H1[x]? = H[x]?) (hn : q'.1.2 = q.1.2)
    (hnew : ∀ e, q'.1.1 id = some e → gcell D ax str b q'.2 id H1 e) (hold : ∀ j, j ≠ id → q'.1.1 j = q.1.1 j) (hm : ∀ j, j ≠ id → q'.2.1 j = q.2.1 j ∧ q'.2.2 j = q.2.2 j) : gRep D ax str b q' H1 := by
  refine ⟨by rw [hz, hn]; exact h.1, fun j e he => ?_⟩
  by_cases hj : j = id
  · subst hj
    exact hnew e he
  · rw [hold j hj] at he
    exact (h.2 j e he).kept (ho _ (by omega)) (hm j hj).1 (hm j hj).2
theorem gRep.born {D : va_G} {ax : Nat → ClassId} {str : Nat → Nat} {b : Nat} {q q' : gS} {H H1 : Heap} (e0 : gE) (h : gRep D ax str b q H) (hz : H1.size = H.size + 1) (ho : ∀ x : Nat, x < H.size → H1[x]? = H[x]?) (hn : q'.1.2 = q.1.2 + 1)
    (hs : q'.1.1 = gsh q.1.1 q.1.2 e0) (hnew : gcell D ax str b q'.2 q.1.2 H1 e0) (hm : ∀ j, j ≠ q.1.2 → q'.2.1 j = q.2.1 j ∧ q'.2.2 j = q.2.2 j) : gRep D ax str b q' H1 := by
  refine ⟨by rw [hz, hn, h.1]; omega, fun j e he => ?_⟩
  rw [hs] at he
  unfold gsh at he
  by_cases hj : j = q.1.2
  · rw [if_pos hj] at he
    cases he
    rw [hj]
    exact hnew
  · rw [if_neg hj] at he
    have := h.2 j e he
    exact this.kept (ho _ this.lt) (hm j hj).1 (hm j hj).2
section GR
variable {p : Program} {l : Launch} {e : Env} {R : Room} {s : State} {m : MethodId} {args : Array Value} {below : List Frame} {meth : Method} {c : Code} {H H0 : Heap} {locs : List Loc} {cells slots : Nat} {Q : State → Prop}
variable {cc : ByteArray} {pc : Nat} {ls : Array Slot} {rest : List Value} {D : va_G} {ax : Nat → ClassId} {str : Nat → Nat} {b : Nat} {A : Nat → Prop} {q : gS} {id : Nat} {Ts : List Cond} {own : String}
theorem g_get (hx : p.tables.exec = Jvm.exec) (hb : c.code = cc) (hts : ∀ w ∈ Ts, w.before args s = true) (hT : ∀ w ∈ gT, w ∈ Ts) (hown : s.vm.findClass own = some m.cls) (hK : va_K D gcl (gtys ax) s) (hR : gRep D ax str b q H) {ci index k : Nat} {fs : List (Option (Option Nat))} (hs : q.1.1 id = some (.inr (.inr (ci, fs)))) {C : String} {T : u_T} {N : Nat} (hc : gcl[ci]? = some (C, T, N)) {f : Option (Option Nat)} (hf : fs[k]? = some f)
    (hlink : (Cond.fieldLink own index (T k).1 (T k).2.1 (T k).2.2.1).before args s = true) (hdg : decode cc pc = .ok (.getfield index, 3))
    (kk : W p l e R s m args below meth c H locs cells slots Q (F0 m (pc + 3) ls (genc b str (gfv q.2 id k f) :: rest))) : W p l e R s m args below meth c H locs cells slots Q (F0 m pc ls (.ref (b + id) :: rest)) := by
  obtain ⟨r, h1, hl, cell, q1, q2, q3, q4⟩ := hR.2 id _ hs
  have hr : r = (C, T, N) := Option.some.inj (h1.symm.trans hc)
  subst hr
  have hl : fs.length = N := hl
  have hk : k < N := by rw [← hl]; exact (List.getElem?_eq_some_iff.mp hf).1
  obtain ⟨hin, -⟩ := gcl_ok _ (List.mem_of_getElem? hc)
  obtain ⟨hS, hfc, kC, hkC, hkind⟩ := hK.1 ci _ hc
  obtain ⟨cf, kf, fi, fd, hi, hsl⟩ := hS k hk
  refine W.getf hx hb hown hlink hi (u_facts hfc hkC (u_lays hts (fun w h => hT w (hin w h)) hk) hi).1 q1 (by rw [q3]; exact fun h => by cases h) (v := genc b str (gfv q.2 id k f)) ?_ rfl rfl hdg kk
  rw [hsl, q4 k hk]
  simp [List.getD_eq_getElem?_getD, hf]
theorem g_put0 (hx : p.tables.exec = Jvm.exec) (hb : c.code = cc) (hts : ∀ w ∈ Ts, w.before args s = true) (hT : ∀ w ∈ gT, w ∈ Ts) (hown : s.vm.findClass own = some m.cls) (hK : va_K D gcl (gtys ax) s) (hR : gRep D ax str b q H) (hSv : va_S A H0 H locs) (hAq : A (b + id)) {ci index k : Nat} {fs : List (Option (Option Nat))} (hs : q.1.1 id = some (.inr (.inr (ci, fs)))) {C : String} {T : u_T} {N : Nat} (hc : gcl[ci]? = some (C, T, N)) (hk : k < fs.length)
    (hlink : (Cond.fieldLink own index (T k).1 (T k).2.1 (T k).2.2.1).before args s = true) (hfin : (T k).2.2.2 = false ∨ ((T k).2.2.2 = true ∧ meth.name = "<init>" ∧ (T k).1 = own)) {ty : FieldType} {v : Value} (hd : parseFieldDescriptor (T k).2.2.1 = some ty) (hn : narrow ty v = v) (hfit : fits ty v = true) (hdg : decode cc pc = .ok (.putfield index, 3))
    (kk : ∀ (H1 : Heap) (locs1 : List Loc), H1.size = H.size → (∀ x : Nat, x ≠ b + id → H1[x]? = H[x]?) → t_OB (b + id) (D.1 ci) N (D.2 ci) H1 (updV (fun k => genc b str (gfv q.2 id k (fs.getD k none))) k v) → va_S A H0 H1 locs1 → W p l e R s m args below meth c H1 locs1 cells slots Q (F0 m (pc + 3) ls rest)) : W p l e R s m args below meth c H locs cells slots Q (F0 m pc ls (v :: .ref (b + id) :: rest)) := by
  obtain ⟨r, h1, hl, cell, q1, q2, q3, q4⟩ := hR.2 id _ hs
  have hr : r = (C, T, N) := Option.some.inj (h1.symm.trans hc)
  subst hr
  have hl : fs.length = N := hl
  have hk : k < N := by rw [← hl]; exact hk
  obtain ⟨hin, ty0, hty, hnm⟩ := gcl_ok _ (List.mem_of_getElem? hc)
  have hin' : ∀ w ∈ u_ws C T N, w ∈ Ts := fun w h => hT w (hin w h)
  have hap := va_apart (own := own) hts hin' ty0 hty hnm hK hc
  obtain ⟨hS, hfc, kC, hkC, hkind⟩ := hK.1 ci _ hc
  obtain ⟨cf, kf, fi, f, hi, hsl⟩ := hS k hk
  have hlay := hts _ (hin' _ (u_in_lay hk))
  unfold u_lay at hlay
  have hst := (u_facts hfc hkC (u_lays hts hin' hk) hi).1
  rcases hfin with hfin | ⟨hfin, hin2, hdecl⟩
  · rw [if_neg (by rw [hfin]; decide)] at hlay
    have h6 := u_store hfc hkC hkind hlay hi hd hn hfit
    refine W.putK hx hb (f := f) ⟨hown, hlink, ⟨_, _, _, hi⟩, hst⟩ (by rw [q2]; exact h6) q1 q3 (by rw [hsl]; exact k2_hasslot (q4 k hk)) rfl rfl hdg fun H' e1 e2 e3 => ?_
    rw [hsl] at e1 ⊢
    exact kk H' _ e2 e3 ⟨_, e1, q2, q3, t_set q4 hap hk v⟩ (hSv.put e2 e3 hAq)
  · rw [if_pos hfin] at hlay
    have hcf : m.cls = cf := by
      obtain ⟨_, _, c', _, _, _, -, -, hf', -, -, -, hown2, -⟩ := Cond.laysFinal_spec hlay
      have e1 : c' = cf := by have := hi.symm.trans hf'; simp at this; exact this.1.symm
      rw [hdecl] at hown2
      rw [← e1]; exact Option.some.inj (hown.symm.trans hown2)
    have h6 := u_fits hfc hkC hkind (Or.inr hlay) hi hd hn hfit
    refine W.putFinK hx hb hown hlink hi hst hcf hin2 (by rw [q2]; exact h6) q1 q3 (by rw [hsl]; exact k2_hasslot (q4 k hk)) rfl rfl hdg fun H' e1 e2 e3 => ?_
    rw [hsl] at e1 ⊢
    exact kk H' _ e2 e3 ⟨_, e1, q2, q3, t_set q4 hap hk v⟩ (hSv.put e2 e3 hAq)
theorem g_putI (hx : p.tables.exec = Jvm.exec) (hb : c.code = cc) (hts : ∀ w ∈ Ts, w.before args s = true) (hT : ∀ w ∈ gT, w ∈ Ts) (hown : s.vm.findClass own = some m.cls) (hK : va_K D gcl (gtys ax) s) (hR : gRep D ax str b q H) (hSv : va_S A H0 H locs) (hAq : A (b + id)) {ci index k : Nat} {fs : List (Option (Option Nat))} (hs : q.1.1 id = some (.inr (.inr (ci, fs)))) {C : String} {T : u_T} {N : Nat} (hc : gcl[ci]? = some (C, T, N)) (hf : fs[k]? = some none)
    (hlink : (Cond.fieldLink own index (T k).1 (T k).2.1 (T k).2.2.1).before args s = true) (hfin : (T k).2.2.2 = false) {ty : FieldType} {x : Int32} (hd : parseFieldDescriptor (T k).2.2.1 = some ty) (hn : narrow ty (.int x) = .int x) (hfit : fits ty (.int x) = true) (hdg : decode cc pc = .ok (.putfield index, 3))
    (kk : ∀ (H1 : Heap) (locs1 : List Loc), gRep D ax str b (q.1, gup q.2.1 id k x, q.2.2) H1 → va_S A H0 H1 locs1 → W p l e R s m args below meth c H1 locs1 cells slots Q (F0 m (pc + 3) ls rest)) : W p l e R s m args below meth c H locs cells slots Q (F0 m pc ls (.int x :: .ref (b + id) :: rest)) := by
  have hl : k < fs.length := (List.getElem?_eq_some_iff.mp hf).1
  refine g_put0 hx hb hts hT hown hK hR hSv hAq hs hc hl hlink (Or.inl hfin) hd hn hfit hdg fun H1 locs1 z o hO hS1 => ?_
  refine kk H1 locs1 (hR.put id z o rfl (fun e1 he => ?_) (fun _ _ => rfl) (fun j hj => ⟨by funext y; simp [gup, hj], rfl⟩)) hS1
  have he1 : e1 = .inr (.inr (ci, fs)) := Option.some.inj (he.symm.trans hs)
  subst he1
  obtain ⟨r, h1, hl1, -⟩ := hR.2 id _ hs
  have hr : r = (C, T, N) := Option.some.inj (h1.symm.trans hc)
  subst hr
  refine ⟨_, h1, hl1, hO.to (fun j hj => ?_)⟩
  unfold updV
  by_cases hjk : j = k
  · subst hjk
    rw [if_pos rfl]
    simp [List.getD_eq_getElem?_getD, hf, gfv, gup, genc]
  · rw [if_neg hjk]
    show genc b str (gfv q.2 id j (fs.getD j none)) = genc b str (gfv (gup q.2.1 id k x, q.2.2) id j (fs.getD j none))
    congr 1
    rcases fs.getD j none with _ | _ | t
    · simp [gfv, gup, hjk]
    · rfl
    · rfl
theorem g_putR (hx : p.tables.exec = Jvm.exec) (hb : c.code = cc) (hts : ∀ w ∈ Ts, w.before args s = true) (hT : ∀ w ∈ gT, w ∈ Ts) (hown : s.vm.findClass own = some m.cls) (hK : va_K D gcl (gtys ax) s) (hR : gRep D ax str b q H) (hSv : va_S A H0 H locs) (hAq : A (b + id)) {ci index k t : Nat} {fs : List (Option (Option Nat))} {f0 : Option Nat} (hs : q.1.1 id = some (.inr (.inr (ci, fs)))) {C : String} {T : u_T} {N : Nat} (hc : gcl[ci]? = some (C, T, N)) (hf : fs[k]? = some (some f0))
    (hlink : (Cond.fieldLink own index (T k).1 (T k).2.1 (T k).2.2.1).before args s = true) (hfin : (T k).2.2.2 = true) (hin2 : meth.name = "<init>") (hdecl : (T k).1 = own) {ty : FieldType} (hd : parseFieldDescriptor (T k).2.2.1 = some ty) (hn : narrow ty (.ref (b + t)) = .ref (b + t)) (hfit : fits ty (.ref (b + t)) = true) (hdg : decode cc pc = .ok (.putfield index, 3))
    (kk : ∀ (H1 : Heap) (locs1 : List Loc), gRep D ax str b ((gsh q.1.1 id (.inr (.inr (ci, fs.set k (some (some t))))), q.1.2), q.2) H1 → va_S A H0 H1 locs1 → W p l e R s m args below meth c H1 locs1 cells slots Q (F0 m (pc + 3) ls rest)) : W p l e R s m args below meth c H locs cells slots Q (F0 m pc ls (.ref (b + t) :: .ref (b + id) :: rest)) := by
  have hl : k < fs.length := (List.getElem?_eq_some_iff.mp hf).1
  refine g_put0 hx hb hts hT hown hK hR hSv hAq hs hc hl hlink (Or.inr ⟨hfin, hin2, hdecl⟩) hd hn hfit hdg fun H1 locs1 z o hO hS1 => ?_
  refine kk H1 locs1 (hR.put id z o rfl (fun e1 he => ?_) (fun j hj => by simp [gsh, hj]) (fun j hj => ⟨rfl, rfl⟩)) hS1
  have he1 : e1 = .inr (.inr (ci, fs.set k (some (some t)))) := by
    have : gsh q.1.1 id (.inr (.inr (ci, fs.set k (some (some t))))) id = some e1 := he
    simp [gsh] at this
    exact this.symm
  subst he1
  obtain ⟨r, h1, hl1, -⟩ := hR.2 id _ hs
  have hr : r = (C, T, N) := Option.some.inj (h1.symm.trans hc)
  subst hr
  refine ⟨_, h1, by rw [List.length_set]; exact hl1, hO.to (fun j hj => ?_)⟩
  unfold updV
  by_cases hjk : j = k
  · subst hjk
    rw [if_pos rfl]
    simp [List.getD_eq_getElem?_getD, hl, gfv, genc]
  · rw [if_neg hjk]
    simp [List.getD_eq_getElem?_getD, List.getElem?_set_ne (Ne.symm hjk)]
theorem g_iald (hx : p.tables.exec = Jvm.exec) (hb : c.code = cc) (hK : va_K D gcl (gtys ax) s) (hR : gRep D ax str b q H) {n : Nat} {i : Int32} (hs : q.1.1 id = some (.inl (0, n))) (hin : gib i n = true) (hdg : decode cc pc = .ok (.iaload, 1))
    (kk : W p l e R s m args below meth c H locs cells slots Q (F0 m (pc + 1) ls (.int (q.2.1 id i.toNatClampNeg) :: rest))) : W p l e R s m args below meth c H locs cells slots Q (F0 m pc ls (.int i :: .ref (b + id) :: rest)) := by
  have hin := gib_in hin
  have hlt : i.toNatClampNeg < n := Nat.not_le.mp fun z => hin (Or.inr z)
  exact W.iald (v := .int (q.2.1 id i.toNatClampNeg)) hx hb (hR.2 id _ hs) ((hK.2 0 _ rfl).1 n _) (fun z => by cases z) (by rw [arrV_size]; exact hin) (by rw [arrV_read _ _ hlt]; rfl) rfl rfl hdg kk
theorem g_zald (hx : p.tables.exec = Jvm.exec) (hb : c.code = cc) (hK : va_K D gcl (gtys ax) s) (hR : gRep D ax str b q H) {n : Nat} {i : Int32} (hs : q.1.1 id = some (.inl (1, n))) (hin : gib i n = true) (hdg : decode cc pc = .ok (.baload, 1))
    (kk : W p l e R s m args below meth c H locs cells slots Q (F0 m (pc + 1) ls (.int (q.2.1 id i.toNatClampNeg) :: rest))) : W p l e R s m args below meth c H locs cells slots Q (F0 m pc ls (.int i :: .ref (b + id) :: rest)) := by
  have hin := gib_in hin
  have hlt : i.toNatClampNeg < n := Nat.not_le.mp fun z => hin (Or.inr z)
  exact W.zald (v := .int (q.2.1 id i.toNatClampNeg)) hx hb (hR.2 id _ hs) ((hK.2 1 _ rfl).1 n _) (fun z => by cases z) (by rw [arrV_size]; exact hin) (by rw [arrV_read _ _ hlt]; rfl) rfl rfl hdg kk
theorem g_lald (hx : p.tables.exec = Jvm.exec) (hb : c.code = cc) (hK : va_K D gcl (gtys ax) s) (hR : gRep D ax str b q H) {n : Nat} {i : Int32} (hs : q.1.1 id = some (.inl (2, n))) (hin : gib i n = true) (hdg : decode cc pc = .ok (.laload, 1))
    (kk : W p l e R s m args below meth c H locs cells slots Q (F0 m (pc + 1) ls (.long (q.2.2 id i.toNatClampNeg) :: rest))) : W p l e R s m args below meth c H locs cells slots Q (F0 m pc ls (.int i :: .ref (b + id) :: rest)) := by
  have hin := gib_in hin
  have hlt : i.toNatClampNeg < n := Nat.not_le.mp fun z => hin (Or.inr z)
  exact W.lald (v := .long (q.2.2 id i.toNatClampNeg)) hx hb (hR.2 id _ hs) ((hK.2 2 _ rfl).1 n _) (fun z => by cases z) (by rw [arrV_size]; exact hin) (by rw [arrV_read _ _ hlt]; rfl) rfl rfl hdg kk
theorem g_kd {kd : Nat} (hK : va_K D gcl (gtys ax) s) (h : kd = 10 ∨ kd = 12) : ∃ (t0 ci : Nat) (r : vw_C), kd = ci + 3 ∧ gcl[ci]? = some r ∧ (gtys ax)[t0]? = some (ax kd, .object r.1) := by
  rcases h with rfl | rfl
  · exact ⟨4, 7, _, rfl, rfl, rfl⟩
  · exact ⟨3, 9, _, rfl, rfl, rfl⟩
theorem g_aald (hx : p.tables.exec = Jvm.exec) (hb : c.code = cc) (hK : va_K D gcl (gtys ax) s) (hR : gRep D ax str b q H) {kd : Nat} {lx : List (Option Nat)} {i : Int32} (hs : q.1.1 id = some (.inr (.inl (kd, lx)))) (hkd : kd = 10 ∨ kd = 12) (hin : gib i lx.length = true) (hdg : decode cc pc = .ok (.aaload, 1))
    (kk : W p l e R s m args below meth c H locs cells slots Q (F0 m (pc + 1) ls (genc b str (gfv q.2 id i.toNatClampNeg (some (lx.getD i.toNatClampNeg none))) :: rest))) : W p l e R s m args below meth c H locs cells slots Q (F0 m pc ls (.int i :: .ref (b + id) :: rest)) := by
  have hin := gib_in hin
  obtain ⟨t0, ci, r, -, -, ht⟩ := g_kd (ax := ax) hK hkd
  have hlt : i.toNatClampNeg < lx.length := Nat.not_le.mp fun z => hin (Or.inr z)
  exact W.aald (v := genc b str (gfv q.2 id i.toNatClampNeg (some (lx.getD i.toNatClampNeg none)))) (ty := .object r.1) hx hb (hR.2 id _ hs) ((hK.2 t0 _ ht).1 lx.length _) rfl (fun z => by cases z) (by rw [arrV_size]; exact hin) (by rw [arrV_read _ _ hlt]) rfl rfl hdg kk
theorem g_alen (hx : p.tables.exec = Jvm.exec) (hb : c.code = cc) (hK : va_K D gcl (gtys ax) s) (hR : gRep D ax str b q H) {n : Nat} (hs : q.1.1 id = some (.inl (0, n))) (hdg : decode cc pc = .ok (.arraylength, 1))
    (kk : W p l e R s m args below meth c H locs cells slots Q (F0 m (pc + 1) ls (.int (Int32.ofNat n) :: rest))) : W p l e R s m args below meth c H locs cells slots Q (F0 m pc ls (.ref (b + id) :: rest)) :=
  W.alen (n := Int32.ofNat n) hx hb (hR.2 id _ hs) ((hK.2 0 _ rfl).1 n _) (by rw [arrV_size]) rfl rfl hdg kk
theorem g_iast (hx : p.tables.exec = Jvm.exec) (hb : c.code = cc) (hK : va_K D gcl (gtys ax) s) (hR : gRep D ax str b q H) (hSv : va_S A H0 H locs) (hAq : A (b + id)) {n : Nat} {i x : Int32} (hs : q.1.1 id = some (.inl (0, n))) (hin : gib i n = true) (hdg : decode cc pc = .ok (.iastore, 1))
    (kk : ∀ (H1 : Heap) (locs1 : List Loc), gRep D ax str b (q.1, gup q.2.1 id i.toNatClampNeg x, q.2.2) H1 → va_S A H0 H1 locs1 → W p l e R s m args below meth c H1 locs1 cells slots Q (F0 m (pc + 1) ls rest)) : W p l e R s m args below meth c H locs cells slots Q (F0 m pc ls (.int x :: .int i :: .ref (b + id) :: rest)) := by
  have hin := gib_in hin
  refine W.iast hx hb (hR.2 id _ hs) ((hK.2 0 _ rfl).1 n _) (fun z => by cases z) (by rw [arrV_size]; exact hin) rfl rfl hdg fun H1 e1 z o => ?_
  refine kk H1 _ (hR.put id z o rfl (fun e9 he => ?_) (fun _ _ => rfl) (fun j hj => ⟨by funext y; simp [gup, hj], rfl⟩)) (hSv.put z o hAq)
  have he1 : e9 = .inl (0, n) := Option.some.inj (he.symm.trans hs)
  subst he1
  show H1[b + id]? = _
  rw [e1, arrV_store]
  congr 2
  funext j
  by_cases hj : j = i.toNatClampNeg
  · simp [updV, gav, gup, hj]
  · simp [updV, gav, gup, hj]
theorem g_zast (hx : p.tables.exec = Jvm.exec) (hb : c.code = cc) (hK : va_K D gcl (gtys ax) s) (hR : gRep D ax str b q H) (hSv : va_S A H0 H locs) (hAq : A (b + id)) {n : Nat} {i x : Int32} (hs : q.1.1 id = some (.inl (1, n))) (hin : gib i n = true) (h01 : x = 0 ∨ x = 1) (hdg : decode cc pc = .ok (.bastore, 1))
    (kk : ∀ (H1 : Heap) (locs1 : List Loc), gRep D ax str b (q.1, gup q.2.1 id i.toNatClampNeg x, q.2.2) H1 → va_S A H0 H1 locs1 → W p l e R s m args below meth c H1 locs1 cells slots Q (F0 m (pc + 1) ls rest)) : W p l e R s m args below meth c H locs cells slots Q (F0 m pc ls (.int x :: .int i :: .ref (b + id) :: rest)) := by
  have hin := gib_in hin
  have hnr : narrow .boolean (.int x) = .int x := by rcases h01 with rfl | rfl <;> rfl
  refine W.zast hx hb (hR.2 id _ hs) ((hK.2 1 _ rfl).1 n _) (fun z => by cases z) (by rw [arrV_size]; exact hin) rfl rfl hdg fun H1 e1 z o => ?_
  refine kk H1 _ (hR.put id z o rfl (fun e9 he => ?_) (fun _ _ => rfl) (fun j hj => ⟨by funext y; simp [gup, hj], rfl⟩)) (hSv.put z o hAq)
  have he1 : e9 = .inl (1, n) := Option.some.inj (he.symm.trans hs)
  subst he1
  show H1[b + id]? = _
  rw [e1, hnr, arrV_store]
  congr 2
  funext j
  by_cases hj : j = i.toNatClampNeg
  · simp [updV, gav, gup, hj]
  · simp [updV, gav, gup, hj]
theorem g_last (hx : p.tables.exec = Jvm.exec) (hb : c.code = cc) (hK : va_K D gcl (gtys ax) s) (hR : gRep D ax str b q H) (hSv : va_S A H0 H locs) (hAq : A (b + id)) {n : Nat} {i : Int32} {x : Int64} (hs : q.1.1 id = some (.inl (2, n))) (hin : gib i n = true) (hdg : decode cc pc = .ok (.lastore, 1))
    (kk : ∀ (H1 : Heap) (locs1 : List Loc), gRep D ax str b (q.1, q.2.1, gupL q.2.2 id i.toNatClampNeg x) H1 → va_S A H0 H1 locs1 → W p l e R s m args below meth c H1 locs1 cells slots Q (F0 m (pc + 1) ls rest)) : W p l e R s m args below meth c H locs cells slots Q (F0 m pc ls (.long x :: .int i :: .ref (b + id) :: rest)) := by
  have hin := gib_in hin
  refine W.last hx hb (hR.2 id _ hs) ((hK.2 2 _ rfl).1 n _) (fun z => by cases z) (by rw [arrV_size]; exact hin) rfl rfl hdg fun H1 e1 z o => ?_
  refine kk H1 _ (hR.put id z o rfl (fun e9 he => ?_) (fun _ _ => rfl) (fun j hj => ⟨rfl, by funext y; simp [gupL, hj]⟩)) (hSv.put z o hAq)
  have he1 : e9 = .inl (2, n) := Option.some.inj (he.symm.trans hs)
  subst he1
  show H1[b + id]? = _
  rw [e1, arrV_store]
  congr 2
  funext j
  by_cases hj : j = i.toNatClampNeg
  · simp [updV, gav, gupL, hj]
  · simp [updV, gav, gupL, hj]
theorem g_aast (hx : p.tables.exec = Jvm.exec) (hb : c.code = cc) (hK : va_K D gcl (gtys ax) s) (hR : gRep D ax str b q H) (hSv : va_S A H0 H locs) (hAq : A (b + id)) {kd ci t : Nat} {lx : List (Option Nat)} {fs : List (Option (Option Nat))} {i : Int32} (hs : q.1.1 id = some (.inr (.inl (kd, lx)))) (hkd : kd = ci + 3 ∧ (kd = 10 ∨ kd = 12)) (ht : q.1.1 t = some (.inr (.inr (ci, fs)))) (hin : gib i lx.length = true) (hdg : decode cc pc = .ok (.aastore, 1))
    (kk : ∀ (H1 : Heap) (locs1 : List Loc), gRep D ax str b ((gsh q.1.1 id (.inr (.inl (kd, lx.set i.toNatClampNeg (some t)))), q.1.2), q.2) H1 → va_S A H0 H1 locs1 → W p l e R s m args below meth c H1 locs1 cells slots Q (F0 m (pc + 1) ls rest)) : W p l e R s m args below meth c H locs cells slots Q (F0 m pc ls (.ref (b + t) :: .int i :: .ref (b + id) :: rest)) := by
  have hin := gib_in hin
  obtain ⟨t0, ci', r, h1, hc, hty⟩ := g_kd (ax := ax) hK hkd.2
  have hci : ci' = ci := by omega
  subst hci
  have hlt : i.toNatClampNeg < lx.length := Nat.not_le.mp fun z => hin (Or.inr z)
  have h0 : ¬ i < 0 := fun z => hin (Or.inl z)
  obtain ⟨r', hr', -, cellV, g1, g2, g3, -⟩ := hR.2 t _ ht
  have hcls := (hK.1 ci' r hc).2
  obtain ⟨kA, comp, k1, k2, k3, -⟩ := (hK.2 t0 _ hty).2
  have hcomp : comp = D.1 ci' := Option.some.inj (k3.symm.trans hcls.1)
  subst hcomp
  obtain ⟨kC, hkC, -⟩ := hcls.2
  refine W.aast hx hb (hR.2 id _ hs) (fun z h => by cases h) (fun h => by cases h) k1 k2 rfl hkC ⟨h0, by rw [arrV_size]; exact hlt⟩ g1 (fun z h => by rw [g3] at h; cases h) (by rw [g2]; exact hkC) (by rw [g2]; exact va_assign hcls) rfl rfl hdg fun H1 e1 z o => ?_
  refine kk H1 _ (hR.put id z o rfl (fun e9 he => ?_) (fun j hj => by simp [gsh, hj]) (fun j hj => ⟨rfl, rfl⟩)) (hSv.put z o hAq)
  have he1 : e9 = .inr (.inl (kd, lx.set i.toNatClampNeg (some t))) := by
    have : gsh q.1.1 id (.inr (.inl (kd, lx.set i.toNatClampNeg (some t)))) id = some e9 := he
    simp [gsh] at this
    exact this.symm
  subst he1
  show H1[b + id]? = _
  rw [e1, arrV_store, List.length_set]
  congr 2
  funext j
  by_cases hj : j = i.toNatClampNeg
  · simp [updV, hj, List.getD_eq_getElem?_getD, hlt, gfv, genc]
  · simp [updV, hj, List.getD_eq_getElem?_getD, List.getElem?_set_ne (Ne.symm hj)]
theorem g_new (hx : p.tables.exec = Jvm.exec) (hb : c.code = cc) (hts : ∀ w ∈ Ts, w.before args s = true) (hT : ∀ w ∈ gT, w ∈ Ts) (hown : s.vm.findClass own = some m.cls) (hK : va_K D gcl (gtys ax) s) (hR : gRep D ax str b q H) (hSv : va_S A H0 H locs) {ci index : Nat} {fs : List (Option (Option Nat))} {C : String} {T : u_T} {N : Nat} (hc : gcl[ci]? = some (C, T, N)) (hl : fs.length = N)
    (hdf : ∀ ty : Nat → FieldType, (∀ k, k < N → parseFieldDescriptor (T k).2.2.1 = some (ty k)) → ∀ k, k < N → defaultValue (ty k) = genc b str (gfv (fun _ _ => 0, fun _ _ => 0) 0 k (fs.getD k none)))
    (hcl : (Cond.classLink own index C).before args s = true) (hinst : (Cond.instantiable C N).before args s = true) (hini : (Cond.initialized C).before args s = true) (hcells : cells + 1 ≤ R.cells) (hslots : slots + N ≤ R.slots) (hdg : decode cc pc = .ok (.new index, 3))
    (kk : ∀ H1 : Heap, gRep D ax str b ((gsh q.1.1 q.1.2 (.inr (.inr (ci, fs))), q.1.2 + 1), grow q.2.1 q.1.2 (fun _ => 0), q.2.2) H1 → va_S A H0 H1 locs →
      W p l e R s m args below meth c H1 locs (cells + 1) (slots + N) Q (F0 m (pc + 3) ls (.ref (b + q.1.2) :: rest))) : W p l e R s m args below meth c H locs cells slots Q (F0 m pc ls rest) := by
  have hKn := hK.1 ci _ hc
  obtain ⟨hin, ty0, hty, hnm⟩ := gcl_ok _ (List.mem_of_getElem? hc)
  refine W.newcK hx hb hown hcl hinst hini rfl hdg hcells hslots hKn.2.1 hR.1 fun H1 kC hkC e1 z1 o1 => ?_
  refine kk H1 (hR.born (.inr (.inr (ci, fs))) (by rw [z1, hR.1]) (fun x hx => o1 x (by rw [← hR.1]; exact hx)) rfl rfl ?_ (fun j hj => ⟨by funext y; simp [grow, hj], rfl⟩)) ⟨by rw [z1, ← hR.1]; exact Nat.le_trans hSv.1 (by omega), fun x h1 h2 => (o1 x (by rw [← hR.1]; exact Nat.lt_of_lt_of_le h1 hSv.1)).trans (hSv.2.1 x h1 h2), hSv.2.2⟩
  refine ⟨_, hc, hl, (u_born ty0 hts (fun w h => hT w (hin w h)) hKn hkC e1 hty).to (fun k hk => ?_)⟩
  rw [hdf ty0 hty k hk]
  rcases fs.getD k none with _ | _ | t
  · simp [gfv, grow]
  · rfl
  · rfl
theorem g_newa (hx : p.tables.exec = Jvm.exec) (hb : c.code = cc) (hK : va_K D gcl (gtys ax) s) (hR : gRep D ax str b q H) (hSv : va_S A H0 H locs) {kd : Nat} {atype : ArrayType} (hkd : (kd = 0 ∧ atype = .int) ∨ (kd = 1 ∧ atype = .boolean) ∨ (kd = 2 ∧ atype = .long)) (harr : (Cond.arrayClass (newarray.typeOf atype)).before args s = true) {n : Int32} (hn : ¬ n < 0) (hbig : n.toNatClampNeg ≤ 8000) (hcells : cells + 1 ≤ R.cells) (hslots : slots + n.toNatClampNeg ≤ R.slots) (hdg : decode cc pc = .ok (.newarray atype, 2)) {q' : gS}
    (hq : q' = ((gsh q.1.1 q.1.2 (.inl (kd, n.toNatClampNeg)), q.1.2 + 1), if kd = 2 then (q.2.1, grow q.2.2 q.1.2 (fun _ => 0)) else (grow q.2.1 q.1.2 (fun _ => 0), q.2.2)))
    (kk : ∀ H1 : Heap, gRep D ax str b q' H1 → va_S A H0 H1 locs →
      W p l e R s m args below meth c H1 locs (cells + 1) (slots + n.toNatClampNeg) Q (F0 m (pc + 2) ls (.ref (b + q.1.2) :: rest))) : W p l e R s m args below meth c H locs cells slots Q (F0 m pc ls (.int n :: rest)) := by
  subst hq
  have hbytes : n.toNatClampNeg * componentBytes (newarray.typeOf atype) ≤ 536870912 := by
    rcases hkd with ⟨-, rfl⟩ | ⟨-, rfl⟩ | ⟨-, rfl⟩
    · show n.toNatClampNeg * 4 ≤ _
      omega
    · show n.toNatClampNeg * 1 ≤ _
      omega
    · show n.toNatClampNeg * 8 ≤ _
      omega
  refine va_newaK hx hb harr rfl hdg rfl hn rfl hbytes hcells hslots hR.1 fun H1 cA e1 z1 o1 hAr hNm => ?_
  have hcA : cA = ax kd := by
    rcases hkd with ⟨rfl, rfl⟩ | ⟨rfl, rfl⟩ | ⟨rfl, rfl⟩
    · exact Option.some.inj (hNm.symm.trans (hK.2 0 _ rfl).2)
    · exact Option.some.inj (hNm.symm.trans (hK.2 1 _ rfl).2)
    · exact Option.some.inj (hNm.symm.trans (hK.2 2 _ rfl).2)
  subst hcA
  refine kk H1 (hR.born (.inl (kd, n.toNatClampNeg)) (by rw [z1, hR.1]) (fun x hx => o1 x (by rw [← hR.1]; exact hx)) rfl rfl ?_ (fun j hj => ?_)) ⟨by rw [z1, ← hR.1]; exact Nat.le_trans hSv.1 (by omega), fun x h1 h2 => (o1 x (by rw [← hR.1]; exact Nat.lt_of_lt_of_le h1 hSv.1)).trans (hSv.2.1 x h1 h2), hSv.2.2⟩
  · show H1[b + q.1.2]? = _
    rw [e1]
    congr 2
    funext j
    rcases hkd with ⟨rfl, rfl⟩ | ⟨rfl, rfl⟩ | ⟨rfl, rfl⟩
    · simp [gav, grow, newarray.typeOf, defaultValue]
    · simp [gav, grow, newarray.typeOf, defaultValue]
    · simp [gav, grow, newarray.typeOf, defaultValue]
  · by_cases h2 : kd = 2
    · simp only [h2, if_true]
      exact ⟨trivial, by funext y; simp [grow, hj]⟩
    · simp only [h2, if_false]
      exact ⟨by funext y; simp [grow, hj], trivial⟩
theorem g_anew (hx : p.tables.exec = Jvm.exec) (hb : c.code = cc) (hown : s.vm.findClass own = some m.cls) (hK : va_K D gcl (gtys ax) s) (hR : gRep D ax str b q H) (hSv : va_S A H0 H locs) {kd index : Nat} {C : String} {t0 : Nat} (hty : (gtys ax)[t0]? = some (ax kd, .object C)) (hclink : (Cond.classLink own index C).before args s = true) (hover : va_AO C s) {n : Int32} (hn : ¬ n < 0) (hbig : n.toNatClampNeg ≤ 8000) (hcells : cells + 1 ≤ R.cells) (hslots : slots + n.toNatClampNeg ≤ R.slots) (hdg : decode cc pc = .ok (.anewarray index, 3))
    (kk : ∀ H1 : Heap, gRep D ax str b ((gsh q.1.1 q.1.2 (.inr (.inl (kd, List.replicate n.toNatClampNeg none))), q.1.2 + 1), q.2) H1 → va_S A H0 H1 locs →
      W p l e R s m args below meth c H1 locs (cells + 1) (slots + n.toNatClampNeg) Q (F0 m (pc + 3) ls (.ref (b + q.1.2) :: rest))) : W p l e R s m args below meth c H locs cells slots Q (F0 m pc ls (.int n :: rest)) := by
  refine W.anew hx hb hown hclink (va_AO.use hover) rfl hdg rfl hn (by omega) hcells hslots fun cA kA comp f1 f2 f3 f4 => ?_
  obtain ⟨kA', comp', -, -, -, k4⟩ := (hK.2 t0 _ hty).2
  have hcA : cA = ax kd := Option.some.inj (f1.symm.trans k4)
  subst hcA
  rw [hR.1]
  refine kk _ (hR.born (.inr (.inl (kd, List.replicate n.toNatClampNeg none))) (by rw [Array.size_push]) (fun x hx => by rw [Array.getElem?_push, if_neg (Nat.ne_of_lt hx)]) rfl rfl ?_ (fun j hj => ⟨rfl, rfl⟩)) ⟨by rw [Array.size_push]; exact Nat.le_trans hSv.1 (by omega), fun x h1 h2 => by rw [Array.getElem?_push, if_neg (Nat.ne_of_lt (Nat.lt_of_lt_of_le h1 hSv.1))]; exact hSv.2.1 x h1 h2, hSv.2.2⟩
  show (H.push _)[b + q.1.2]? = _
  rw [← hR.1, Array.getElem?_push_size, arrV_new, List.length_replicate]
  congr 2
  funext j
  have : (List.replicate n.toNatClampNeg (none : Option Nat)).getD j none = none := by
    rw [List.getD_eq_getElem?_getD, List.getElem?_replicate]
    split <;> rfl
  rw [this]
  rfl
theorem g_copy (hx : p.tables.exec = Jvm.exec) (hb : c.code = cc) (hml : c.maxLocals = ls.size) {index : Nat} (hown : s.vm.findClass own = some m.cls) (hlink : (Cond.methodLink own index arraycopyName).before args s = true) (hnat : (Cond.native arraycopyName).before args s = true) (hstat : (Cond.static arraycopyName).before args s = true) (hini : (Cond.initialized "java/lang/System").before args s = true)
    (hK : va_K D gcl (gtys ax) s) (hR : gRep D ax str b q H) (hSv : va_S A H0 H locs) (hAq : A (b + id)) {a0 n0 n1 : Nat} (ha0 : q.1.1 a0 = some (.inl (0, n0))) (ha1 : q.1.1 id = some (.inl (0, n1)))
    {sp dp n : Int32} (h1 : ¬ sp < 0) (h2 : ¬ dp < 0) (h3 : ¬ n < 0) (h4 : sp.toNatClampNeg + n.toNatClampNeg ≤ n0) (h5 : dp.toNatClampNeg + n.toNatClampNeg ≤ n1)
    (hframes : 1 ≤ R.frames) (hlocals : (rest.map fun v => v.category).sum + (nativeFrameWords "java/lang/System" "arraycopy" 5 + 11) ≤ R.locals) (hdg : decode cc pc = .ok (.invokestatic index, 3))
    (kk : ∀ (H1 : Heap) (locs1 : List Loc), gRep D ax str b (q.1, gcpy q.2.1 a0 id sp.toNatClampNeg dp.toNatClampNeg n.toNatClampNeg, q.2.2) H1 → va_S A H0 H1 locs1 → W p l e R s m args below meth c H1 locs1 cells slots Q (F0 m (pc + 3) ls rest)) : W p l e R s m args below meth c H locs cells slots Q (F0 m pc ls (.int n :: .int dp :: .ref (b + id) :: .int sp :: .ref (b + a0) :: rest)) := by
  have nn : ∀ z : Int32, ¬ z < 0 → z.toInt = (z.toNatClampNeg : Int) := by
    intro z hz
    have hz0 : (0 : Int) ≤ z.toInt := by
      have := Int32.not_lt.mp hz
      simpa using Int32.le_iff_toInt_le.mp this
    show z.toInt = ((z.toInt.toNat : Nat) : Int)
    omega
  intro T hT X
  have hc0 : H[b + a0]? = some (vp_cell (ax 0) (n0, .inl (q.2.1 a0))) := hR.2 a0 _ ha0
  have hc1 : H[b + id]? = some (vp_cell (ax 0) (n1, .inl (q.2.1 id))) := hR.2 id _ ha1
  obtain ⟨-, k0, hk0, cm0, hkk0⟩ := (hK.2 0 _ rfl).1 n0 (fun j => .int (q.2.1 a0 j))
  obtain ⟨-, k1, hk1, cm1, hkk1⟩ := (hK.2 0 _ rfl).1 n1 (fun j => .int (q.2.1 id j))
  obtain ⟨vm', X', step⟩ := X.arraycopy hx hown hlink hnat hstat hini (src := b + a0) (dst := b + id) (cs := vp_cell (ax 0) (n0, .inl (q.2.1 a0))) (cd := vp_cell (ax 0) (n1, .inl (q.2.1 id))) (srcPos := sp) (destPos := dp) (n := n) (by rw [hT]; exact hc0) (by rw [hT]; exact hc1)
    (fun _ h => by cases h) (fun _ h => by cases h) (fun h => by cases h) (fun h => by cases h) hk0 hk1 hkk0 hkk1 (by simp [refKind]) h1 h2 h3
    (by rw [nn sp h1, nn n h3]; show ¬ _ > ((arrV (ax 0) n0 (fun j => .int (q.2.1 a0 j))).slots.size : Int); rw [arrV_size]; omega)
    (by rw [nn dp h2, nn n h3]; show ¬ _ > ((arrV (ax 0) n1 (fun j => .int (q.2.1 id j))).slots.size : Int); rw [arrV_size]; omega)
    (fun vm₁ _ i hi => by
      have e : (vp_cell (ax 0) (n0, .inl (q.2.1 a0))).slots.getD (sp.toNatClampNeg + i) .null = .int (q.2.1 a0 (sp.toNatClampNeg + i)) := by
        show (arrV (ax 0) n0 (fun j => .int (q.2.1 a0 j))).slots.getD _ _ = _
        rw [Array.getD_eq_getD_getElem?, arrV_read _ _ (by omega)]
        rfl
      refine ⟨?_, ?_⟩
      · rw [e]
        rfl
      · rw [e]
        exact trivial)
    (g := F0 m pc ls (.int n :: .int dp :: .ref (b + id) :: .int sp :: .ref (b + a0) :: rest)) rfl (by rw [hml]) (rest := rest) rfl (by rw [hb]; exact hdg) hframes (by show 2 * 0 + _ + _ ≤ _; omega)
  have e1 : copied (vp_cell (ax 0) (n0, .inl (q.2.1 a0))) (vp_cell (ax 0) (n1, .inl (q.2.1 id))) sp dp n = vp_cell (ax 0) (n1, .inl (va_cpy (q.2.1 a0) (q.2.1 id) sp.toNatClampNeg dp.toNatClampNeg n.toNatClampNeg)) := va_copied (fun z => .int z) (ax 0) (ax 0) (q.2.1 a0) (q.2.1 id) h4
  rw [e1] at X' step
  have hl : b + id < H.size := (Array.getElem?_eq_some_iff.mp hc1).1
  have hheap : ((T.setVm vm').setCell (b + id) (vp_cell (ax 0) (n1, .inl (va_cpy (q.2.1 a0) (q.2.1 id) sp.toNatClampNeg dp.toNatClampNeg n.toNatClampNeg)))).heap = H.setIfInBounds (b + id) (vp_cell (ax 0) (n1, .inl (va_cpy (q.2.1 a0) (q.2.1 id) sp.toNatClampNeg dp.toNatClampNeg n.toNatClampNeg))) := by rw [← hT]; rfl
  have oq : ∀ x : Nat, x ≠ b + id → (H.setIfInBounds (b + id) (vp_cell (ax 0) (n1, .inl (va_cpy (q.2.1 a0) (q.2.1 id) sp.toNatClampNeg dp.toNatClampNeg n.toNatClampNeg))))[x]? = H[x]? := fun x hq => by simp [Array.getElem?_setIfInBounds, Ne.symm hq]
  have hRep1 : gRep D ax str b (q.1, gcpy q.2.1 a0 id sp.toNatClampNeg dp.toNatClampNeg n.toNatClampNeg, q.2.2) (H.setIfInBounds (b + id) (vp_cell (ax 0) (n1, .inl (va_cpy (q.2.1 a0) (q.2.1 id) sp.toNatClampNeg dp.toNatClampNeg n.toNatClampNeg)))) := by
    refine hR.put id (by simp) oq rfl (fun e9 he => ?_) (fun _ _ => rfl) (fun j hj => ⟨by funext y; simp [gcpy, grow, hj], rfl⟩)
    have he1 : e9 = .inl (0, n1) := Option.some.inj (he.symm.trans ha1)
    subst he1
    show (H.setIfInBounds (b + id) _)[b + id]? = _
    simp only [Array.getElem?_setIfInBounds, hl, if_true]
    rw [vp_cell_i]
    congr 2
    funext j
    simp [gav, gcpy, grow]
  obtain ⟨t, a1, b1⟩ := kk _ _ hRep1 ⟨by simp; exact hSv.1, fun x g1 g2 => by
      rw [oq x (fun e => g2 (by rw [e]; exact hAq))]
      exact hSv.2.1 x g1 g2, fun x hq => by
      rcases List.mem_append.mp hq with h | h
      · exact hSv.2.2 x h
      · obtain ⟨z, -, hz⟩ := List.mem_map.mp h
        rw [← hz]
        exact hAq⟩ _ hheap X'
  exact ⟨t, step t a1, b1⟩
end GR
