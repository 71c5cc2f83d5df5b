/-! ===== soundness: a run of the abstract machine is a walk; a method of the table is its contract ===== -/
theorem gwalk {p : Program} {l : Launch} {e : Env} {R : Room} {s : State} {m : MethodId} {args : Array Value} {below : List Frame} {meth : Method} {c : Code} {cc : ByteArray} {o : Nat} {ini : Bool} {rt : Option FieldType} {mx mc ms : Nat} {D : va_G} {ax : Nat → ClassId} {str : Nat → Nat} {b : Nat} {q0 : gS} {r : Option Value × gS} {d : Nat}
    (cx : gCx p R s m args meth c cc o ini rt mx mc ms D ax str b q0) (hRf : d + 1 ≤ R.frames ∧ 40 * d + 40 ≤ R.locals) {C : Nat → List Value → gS → Option Value × gS → Prop} (hC : ∀ n as q r, C n as q r → gMet l D ax str b d n as q r)
    (hX : ∀ n as q r, C n as q r → n = 900 ∨ n = 901 → (∀ j as', as = .retAddr j :: as' → j < 7) ∧ gStrMet l D ax str b d n as q r)
    {post : gPost} (hp : ∀ v t, post v t → (v, t) = r) {code : gC} (hcode : ∀ pc e, code pc = some e → gck o ini rt mx cc (pc, e) = true) :
    ∀ (n pc : Nat) (ls : gL) (st : List Value) (q : gS) (bd : Nat × Nat), gexec C gmi gdf code post n pc ls st q bd → gWp p l e R s m args below meth c mx mc ms D ax str b q0 (MQ below (gQc D ax str b q0 r) args s mc ms (gA b q0.1)) pc ls st q bd := by
  intro n
  induction n with
  | zero => intro pc ls st q bd h; exact (h : False).elim
  | succ n ih =>
    intro pc ls st q bd h
    unfold gexec at h
    split at h
    · exact h.elim
    · rename_i ins nx v kp hcd
      have h9 := gone (below := below) cx hRf hC hX (k := gexec C gmi gdf code post n) ih hp (hcode _ _ hcd) h
      intro H locs cells slots als hl
      exact h9 H locs cells slots als (gkeep_sub hl)
theorem glg_len (b : Nat) (str : Nat → Nat) : ∀ as : List Value, (lg_sl (as.map (genc b str))).length = (lg_sl as).length
  | [] => rfl
  | a :: as => by
    have iha := glg_len b str as
    unfold lg_sl at iha ⊢
    rw [List.map_cons, List.flatMap_cons, List.flatMap_cons, List.length_append, List.length_append, iha, genc_cat]
    by_cases hc : a.category = 2 <;> simp [hc]
theorem gsound (l : Launch) (D : va_G) (ax : Nat → ClassId) (str : Nat → Nat) (b : Nat) : ∀ (d n : Nat) (as : List Value) (q : gS) (r : Option Value × gS), gR gmi gdf gcd d n as q r → gMet l D ax str b d n as q r ∧ (n = 900 ∨ n = 901 → (∀ j as', as = .retAddr j :: as' → j < 7) ∧ gStrMet l D ax str b d n as q r) := by
  intro d
  induction d with
  | zero => intro n as q r h; exact (h : False).elim
  | succ d ih =>
    intro n as q r h
    have hlen : gtab.length = 241 := by decide +kernel
    by_cases hn : n = 900 ∨ n = 901
    · have h0 : gnth gtab n = none := by
        have : ∀ {α : Type} (l : List α) (k : Nat), l.length ≤ k → gnth l k = none := by
          intro α l
          induction l with
          | nil => intro k _; rfl
          | cons a l ihl =>
            intro k hk
            cases k with
            | zero => simp at hk
            | succ k => exact ihl k (by simpa using hk)
        exact this gtab n (by rw [hlen]; omega)
      have h1 : gmi n = none := by unfold gmi; rw [h0]
      refine ⟨fun x hx => (by rw [h0] at hx; cases hx), fun _ => ?_⟩
      unfold gR at h
      rw [h1] at h
      dsimp only at h
      rcases hn with rfl | rfl
      · split at h
        · rename_i j
          obtain ⟨hj, hd, rfl⟩ := h
          refine ⟨fun j' as' e => by cases e; exact hj, ?_⟩
          exact gs_len d hj
        · exfalso; omega
        · exact h.elim
      · split at h
        · exfalso; omega
        · rename_i j i
          obtain ⟨hj, hd, hi, rfl⟩ := h
          refine ⟨fun j' as' e => by cases e; exact hj, ?_⟩
          obtain ⟨d', rfl⟩ : ∃ d', d = d' + 3 := ⟨d - 3, by omega⟩
          exact gs_chr (d' + 1) hj hi
        · exact h.elim
    · refine ⟨fun x hx => ?_, fun z => absurd z hn⟩
      have hP := gtab_ok x (gnth_mem hx)
      unfold gR at h
      have h1 : gmi n = some x.2.2.1 := by unfold gmi; rw [hx]
      have h2 : gcd n = some (x.1.2.2.1, glook x.2.2.2) := by unfold gcd; rw [hx]
      rw [h1, h2] at h
      obtain ⟨⟨y, cy, mx, rt⟩, ⟨o, ini⟩, ⟨ci, nn, c1, c2⟩, code⟩ := x
      dsimp only at h ⊢
      obtain ⟨p1, p2, p3, p4, p5, p6, p7, p8⟩ := hP
      obtain ⟨hsl, k, hk⟩ := h
      refine gOfW p2 ?_
      rintro p e s m args below meth c hx hb hml hr hts hown hnm hlk ⟨rfl, hR, hE, hZ⟩
      have hlen2 := glg_len b str as
      have hl := lv_entry (as.map (genc b str)) (n := mx) (by rw [hlen2]; exact hsl)
      rw [lg_entry_eq]
      refine gwalk (o := o) (ini := ini) (rt := rt) (mc := c1) (ms := c2) (q0 := q) (r := r) (d := d) ⟨hx, hb, hml, hts, by rw [p4]; exact hown, hE, hZ, fun z => by rw [hnm]; exact p6 z, hr, hlk, ⟨rfl, rfl, by show 1 ≤ d + 1; omega, by show 40 ≤ 40 * (d + 1); omega⟩, hR.1⟩ ⟨Nat.le_refl _, by show 40 * d + 40 ≤ 40 * (d + 1); omega⟩ (fun n as q r h => (ih n as q r h).1) (fun n as q r h => (ih n as q r h).2) (fun v t z => z) (fun pc e he => p8 _ (glook_mem he)) k 0 (gent mx as) [] q (c1, c2) hk s.heap [] 0 0 _ ?_ hR va_S.rf (fun x h => h) (by show 0 + c1 ≤ c1; omega) (by show 0 + c2 ≤ c2; omega)
      refine ⟨hl.1, hl.2.1, fun x hx => hl.2.2 x ?_⟩
      exact gent_sub b str as mx 0 x hx
