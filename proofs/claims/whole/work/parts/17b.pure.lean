/-! ===== the methods as pure functions (by program) ===== -/
def L_fill_5 (p0 : Nat) (n0 : Nat) (x1 : Int32) (v1 : Int32) : Nat → Int32 → gM → Option (gM) :=
  gfix (fun rec_5 v2 m1 =>
    if v2 < v1 then (gok (gib v2 n0) (glet (gst m1 p0 v2 x1) fun (m2 : gM) => rec_5 (v2 + 1) m2)) else (some m1)) (fun _ _ => none)
def f_fill (p0 : Nat) (n0 : Nat) (x1 : Int32) (m : gM) : Option (gM) :=
  glet (Int32.ofNat n0) fun (v1 : Int32) => L_fill_5 p0 n0 x1 v1 1000 0 m
def f_Books_clear (a : Nat) (m : gM) : Option (gM) :=
  (f_fill (a + 1) 6 0 m).bind fun (r1 : gM) => (f_fill (a + 2) 6 0 r1).bind fun (r2 : gM) => (f_fill (a + 3) 6 0 r2).bind fun (r3 : gM) => (f_fill (a + 4) 50 0 r3).bind fun (r4 : gM) => some r4
def f_Books_copyFrom (a : Nat) (p1 : Nat) (m : gM) : Option (gM) :=
  glet (gcp m (p1 + 1) (a + 1) (Int32.toNatClampNeg 0) (Int32.toNatClampNeg 0) (Int32.toNatClampNeg 6)) fun (m1 : gM) => glet (gcp m1 (p1 + 2) (a + 2) (Int32.toNatClampNeg 0) (Int32.toNatClampNeg 0) (Int32.toNatClampNeg 6)) fun (m2 : gM) => glet (gcp m2 (p1 + 3) (a + 3) (Int32.toNatClampNeg 0) (Int32.toNatClampNeg 0) (Int32.toNatClampNeg 6)) fun (m3 : gM) => glet (gcp m3 (p1 + 4) (a + 4) (Int32.toNatClampNeg 0) (Int32.toNatClampNeg 0) (Int32.toNatClampNeg 50)) fun (m4 : gM) => some m4
def f_Books_priceIn (a : Nat) (x1 : Int32) (m : gM) : Option (Int32 × gM) :=
  if 0 < x1 then (gok (gib (x1 - 1) 50) (gnz 5 (some (gmax 4 (100 - ((grd m (a + 4) (x1 - 1)) / 5)), m)))) else (some (100, m))
def f_Books_sellAt (a : Nat) (x1 : Int32) (x2 : Int32) (x3 : Int32) (m : gM) : Option (Int32 × gM) :=
  (f_Books_priceIn a x1 m).bind fun (r1 : Int32 × gM) => glet (x3 * r1.1) fun (v1 : Int32) => gok (gib x2 6) (gok (gib x2 6) (glet (gst r1.2 (a + 1) x2 ((grd r1.2 (a + 1) x2) - x3)) fun (m1 : gM) => gok (gib x2 6) (gok (gib x2 6) (glet (gst m1 (a + 2) x2 ((grd m1 (a + 2) x2) + x3)) fun (m2 : gM) => gok (gib x2 6) (gok (gib x2 6) (glet (gst m2 (a + 3) x2 ((grd m2 (a + 3) x2) + v1)) fun (m3 : gM) => gok (gib x1 50) (gok (gib x1 50) (glet (gst m3 (a + 4) x1 ((grd m3 (a + 4) x1) + x3)) fun (m4 : gM) => some (v1, m4)))))))))
def L_Books_sumOverPersons_4 (p0 : Nat) (m : gM) : Nat → Int32 → Int32 → Option (Int32 × gM) :=
  gfix (fun rec_4 v1 v2 =>
    if v2 < 6 then (gok (gib v2 6) (glet (v1 + (grd m p0 v2)) fun (v3 : Int32) => rec_4 v3 (v2 + 1))) else (some (v1, m))) (fun _ _ => none)
def f_Books_sumOverPersons (p0 : Nat) (m : gM) : Option (Int32 × gM) :=
  L_Books_sumOverPersons_4 p0 m 1000 0 0
def f_Books_allInTanks (a : Nat) (m : gM) : Option (Int32 × gM) :=
  (f_Books_sumOverPersons (a + 1) m).bind fun (r1 : Int32 × gM) => some (r1.1, r1.2)
def f_Books_allSold (a : Nat) (m : gM) : Option (Int32 × gM) :=
  (f_Books_sumOverPersons (a + 2) m).bind fun (r1 : Int32 × gM) => some (r1.1, r1.2)
def f_Pool_liquid (a : Nat) (x1 : Int32) (m : gM) : Option (Int32 × gM) :=
  gok (gib x1 36) (gok (gib x1 36) (some ((grd m (a + 6) x1) + (grd m (a + 5) x1), m)))
def f_Pool_beside (a : Nat) (x1 : Int32) (x2 : Int32) (m : gM) : Option (Int32 × gM) :=
  gswo x2 [(0, gok (gib x1 36) (if 0 < (grd m (a + 1) x1) then (some (x1 - 1, m)) else (some ((-4), m)))), (1, gok (gib x1 36) (if (grd m (a + 1) x1) < ((gfd m a 0) - 1) then (some (x1 + 1, m)) else (some ((-4), m)))), (2, gok (gib x1 36) (if 0 < (grd m (a + 2) x1) then (some (x1 - (gfd m a 0), m)) else (some ((-4), m))))] (gok (gib x1 36) (if (grd m (a + 2) x1) < ((gfd m a 1) - 1) then (some (x1 + (gfd m a 0), m)) else (some ((-4), m))))
def f_Pool_push (a : Nat) (x1 : Int32) (m : gM) : Option (Int32 × gM) :=
  gok (gib x1 36) (gok (gib x1 36) (gok (gib x1 36) (some (((grd m (a + 6) x1) + (grd m (a + 5) x1)) + (grd m (a + 4) x1), m))))
def f_Currents_wantOf (p0 : Nat) (x1 : Int32) (x2 : Int32) (m : gM) : Option (Int64 × gM) :=
  if x2 = (-4) then (some ((Int32.toInt64 0), m)) else ((f_Pool_push p0 x1 m).bind fun (r1 : Int32 × gM) => (f_Pool_push p0 x2 r1.2).bind fun (r2 : Int32 × gM) => glet (Int32.toInt64 (r1.1 - r2.1)) fun (w1 : Int64) => if 0 < (lg_cmp w1 (Int32.toInt64 0)) then (gok (gib x1 36) (gok (gib x2 36) (gnzL (Int32.toInt64 40) (some ((w1 * (Int32.toInt64 (gmin (grd r2.2 (p0 + 3) x1) (grd r2.2 (p0 + 3) x2)))) / (Int32.toInt64 40), r2.2))))) else (some ((Int32.toInt64 0), r2.2)))
def f_Currents_add (a : Nat) (p1 : Nat) (x2 : Int32) (x3 : Int32) (y4 : Int64) (m : gM) : Option (gM) :=
  (f_Pool_liquid p1 x2 m).bind fun (r1 : Int32 × gM) => glet (Int32.toInt64 r1.1) fun (w1 : Int64) => if 0 < (lg_cmp w1 (Int32.toInt64 0)) then (if (gfd r1.2 a 2) < 144 then (gok (gib (gfd r1.2 a 2) 144) (glet (gst r1.2 (a + 3) (gfd r1.2 a 2) x2) fun (m1 : gM) => gok (gib (gfd m1 a 2) 144) (glet (gst m1 (a + 4) (gfd m1 a 2) x3) fun (m2 : gM) => gok (gib x2 36) (gnzL w1 (gok (gib (gfd m2 a 2) 144) (glet (gst m2 (a + 5) (gfd m2 a 2) (Int64.toInt32 ((y4 * (Int32.toInt64 (grd m2 (p1 + 6) x2))) / w1))) fun (m3 : gM) => gok (gib x2 36) (gnzL w1 (gok (gib (gfd m3 a 2) 144) (glet (gst m3 (a + 6) (gfd m3 a 2) (Int64.toInt32 ((y4 * (Int32.toInt64 (grd m3 (p1 + 5) x2))) / w1))) fun (m4 : gM) => glet (gsf m4 a 2 ((gfd m4 a 2) + 1)) fun (m5 : gM) => some m5))))))))) else (some r1.2)) else (some r1.2)
def J_Currents_measureCell_127 (rec_57 : Int32 → gM → Option (gM)) (v3 : Int32) (m3 : gM) : Option (gM) :=
  rec_57 (v3 + 1) m3
def J_Currents_measureCell_110 (a : Nat) (p1 : Nat) (x2 : Int32) (rec_57 : Int32 → gM → Option (gM)) (v4 : Int32) (w3 : Int64) (m4 : gM) : Option (gM) :=
  (f_Pool_beside p1 x2 v4 m4).bind fun (r2 : Int32 × gM) => (f_Currents_add a p1 x2 r2.1 w3 r2.2).bind fun (r3 : gM) => J_Currents_measureCell_127 rec_57 v4 r3
def J_Currents_measureCell_103 (a : Nat) (p1 : Nat) (x2 : Int32) (rec_57 : Int32 → gM → Option (gM)) (v5 : Int32) (m5 : gM) : Option (gM) :=
  gok (gib v5 4) (J_Currents_measureCell_110 a p1 x2 rec_57 v5 (grdL m5 (a + 2) v5) m5)
def L_Currents_measureCell_57 (a : Nat) (p1 : Nat) (x2 : Int32) (w1 : Int64) (w2 : Int64) : Nat → Int32 → gM → Option (gM) :=
  gfix (fun rec_57 v2 m2 =>
    if v2 < 4 then (gok (gib v2 4) (if 0 < (lg_cmp (grdL m2 (a + 2) v2) (Int32.toInt64 0)) then (if 0 < (lg_cmp w1 w2) then (if 0 < (lg_cmp w1 (Int32.toInt64 0)) then (gok (gib v2 4) (gnzL w1 (J_Currents_measureCell_110 a p1 x2 rec_57 v2 (((grdL m2 (a + 2) v2) * w2) / w1) m2))) else (J_Currents_measureCell_103 a p1 x2 rec_57 v2 m2)) else (J_Currents_measureCell_103 a p1 x2 rec_57 v2 m2)) else (J_Currents_measureCell_127 rec_57 v2 m2))) else (some m2)) (fun _ _ => none)
def J_Currents_measureCell_46 (a : Nat) (p1 : Nat) (x2 : Int32) (w1 : Int64) (v1 : Int32) (m1 : gM) : Option (gM) :=
  (f_Pool_liquid p1 x2 m1).bind fun (r1 : Int32 × gM) => glet (Int32.toInt64 r1.1) fun (w2 : Int64) => L_Currents_measureCell_57 a p1 x2 w1 w2 1000 0 r1.2
def L_Currents_measureCell_5 (a : Nat) (p1 : Nat) (x2 : Int32) (k_5 : Int64 → Int32 → gM → Option (gM)) : Nat → Int64 → Int32 → gM → Option (gM) :=
  gfix (fun rec_5 w4 v6 m6 =>
    if v6 < 4 then ((f_Pool_beside p1 x2 v6 m6).bind fun (r4 : Int32 × gM) => (f_Currents_wantOf p1 x2 r4.1 r4.2).bind fun (r5 : Int64 × gM) => gok (gib v6 4) (glet (gstL r5.2 (a + 2) v6 r5.1) fun (m7 : gM) => gok (gib v6 4) (glet (w4 + (grdL m7 (a + 2) v6)) fun (w5 : Int64) => rec_5 w5 (v6 + 1) m7))) else (k_5 w4 v6 m6)) (fun _ _ _ => none)
def f_Currents_measureCell (a : Nat) (p1 : Nat) (x2 : Int32) (m : gM) : Option (gM) :=
  L_Currents_measureCell_5 a p1 x2 (fun w4 v6 m6 => J_Currents_measureCell_46 a p1 x2 w4 v6 m6) 1000 (Int32.toInt64 0) 0 m
def J_Currents_measure_29 (rec_7 : Int32 → gM → Option (gM)) (v2 : Int32) (m3 : gM) : Option (gM) :=
  rec_7 (v2 + 1) m3
def L_Currents_measure_7 (a : Nat) (p1 : Nat) : Nat → Int32 → gM → Option (gM) :=
  gfix (fun rec_7 v1 m2 =>
    if v1 < (gfd m2 p1 2) then ((f_Pool_liquid p1 v1 m2).bind fun (r1 : Int32 × gM) => if 0 < r1.1 then ((f_Currents_measureCell a p1 v1 r1.2).bind fun (r2 : gM) => J_Currents_measure_29 rec_7 v1 r2) else (J_Currents_measure_29 rec_7 v1 r1.2)) else (some m2)) (fun _ _ => none)
def f_Currents_measure (a : Nat) (p1 : Nat) (m : gM) : Option (gM) :=
  glet (gsf m a 2 0) fun (m1 : gM) => L_Currents_measure_7 a p1 1000 0 m1
def L_Currents_moveWater_2 (a : Nat) (p1 : Nat) : Nat → Int32 → gM → Option (gM) :=
  gfix (fun rec_2 v1 m1 =>
    if v1 < (gfd m1 a 2) then (gok (gib v1 144) (gok (gib (grd m1 (a + 3) v1) 36) (gok (gib v1 144) (gok (gib (grd m1 (a + 3) v1) 36) (glet (gst m1 (p1 + 5) (grd m1 (a + 3) v1) ((grd m1 (p1 + 5) (grd m1 (a + 3) v1)) - (grd m1 (a + 6) v1))) fun (m2 : gM) => gok (gib v1 144) (gok (gib (grd m2 (a + 4) v1) 36) (gok (gib v1 144) (gok (gib (grd m2 (a + 4) v1) 36) (glet (gst m2 (p1 + 5) (grd m2 (a + 4) v1) ((grd m2 (p1 + 5) (grd m2 (a + 4) v1)) + (grd m2 (a + 6) v1))) fun (m3 : gM) => rec_2 (v1 + 1) m3))))))))) else (some m1)) (fun _ _ => none)
def f_Currents_moveWater (a : Nat) (p1 : Nat) (m : gM) : Option (gM) :=
  L_Currents_moveWater_2 a p1 1000 0 m
def J_Currents_movePool_56 (a : Nat) (p1 : Nat) (v1 : Int32) (m1 : gM) : Option (gM) :=
  (f_Currents_moveWater a p1 m1).bind fun (r1 : gM) => some r1
def L_Currents_movePool_2 (a : Nat) (p1 : Nat) (k_2 : Int32 → gM → Option (gM)) : Nat → Int32 → gM → Option (gM) :=
  gfix (fun rec_2 v2 m2 =>
    if v2 < (gfd m2 a 2) then (gok (gib v2 144) (gok (gib (grd m2 (a + 3) v2) 36) (gok (gib v2 144) (gok (gib (grd m2 (a + 3) v2) 36) (glet (gst m2 (p1 + 6) (grd m2 (a + 3) v2) ((grd m2 (p1 + 6) (grd m2 (a + 3) v2)) - (grd m2 (a + 5) v2))) fun (m3 : gM) => gok (gib v2 144) (gok (gib (grd m3 (a + 4) v2) 36) (gok (gib v2 144) (gok (gib (grd m3 (a + 4) v2) 36) (glet (gst m3 (p1 + 6) (grd m3 (a + 4) v2) ((grd m3 (p1 + 6) (grd m3 (a + 4) v2)) + (grd m3 (a + 5) v2))) fun (m4 : gM) => rec_2 (v2 + 1) m4))))))))) else (k_2 v2 m2)) (fun _ _ => none)
def f_Currents_movePool (a : Nat) (p1 : Nat) (m : gM) : Option (gM) :=
  L_Currents_movePool_2 a p1 (fun v2 m2 => J_Currents_movePool_56 a p1 v2 m2) 1000 0 m
def J_Ground_take_143 (a : Nat) (x1 : Int32) (x2 : Int32) (v1 : Int32) (v2 : Int32) (v3 : Int32) (v4 : Int32) (m1 : gM) : Option (gM) :=
  gok (gib x1 36) (gok (gib x1 36) (glet (gst m1 (a + 7) x1 ((grd m1 (a + 7) x1) - x2)) fun (m2 : gM) => some m2))
def J_Ground_take_120 (a : Nat) (p3 : Nat) (v5 : Int32) (rec_80 : Int32 → Int32 → gM → Option (gM)) (v11 : Int32) (v12 : Int32) (m5 : gM) : Option (gM) :=
  gok (gib (v5 + v12) 324) (gok (gib v12 9) (gok (gib (v5 + v12) 324) (glet (gst m5 (a + 9) (v5 + v12) ((grd m5 (a + 9) (v5 + v12)) - (grd m5 p3 v12))) fun (m6 : gM) => rec_80 v11 (v12 + 1) m6)))
def L_Ground_take_80 (a : Nat) (p3 : Nat) (v5 : Int32) (k_80 : Int32 → Int32 → gM → Option (gM)) : Nat → Int32 → Int32 → gM → Option (gM) :=
  gfix (fun rec_80 v9 v10 m4 =>
    if v10 < 9 then (if 0 < v9 then (gok (gib (v5 + v10) 324) (gok (gib v10 9) (if (grd m4 p3 v10) < (grd m4 (a + 9) (v5 + v10)) then (gok (gib v10 9) (gok (gib v10 9) (glet (gst m4 p3 v10 ((grd m4 p3 v10) + 1)) fun (m7 : gM) => J_Ground_take_120 a p3 v5 rec_80 (v9 + (-1)) v10 m7))) else (J_Ground_take_120 a p3 v5 rec_80 v9 v10 m4)))) else (J_Ground_take_120 a p3 v5 rec_80 v9 v10 m4)) else (k_80 v9 v10 m4)) (fun _ _ _ => none)
def J_Ground_take_77 (a : Nat) (x1 : Int32) (x2 : Int32) (p3 : Nat) (v5 : Int32) (v6 : Int32) (v7 : Int32) (v8 : Int32) (m3 : gM) : Option (gM) :=
  L_Ground_take_80 a p3 v5 (fun v9 v10 m4 => J_Ground_take_143 a x1 x2 v5 v6 v9 v10 m4) 1000 v7 0 m3
def J_Ground_take_61 (p3 : Nat) (rec_23 : Int32 → Int32 → gM → Option (gM)) (v16 : Int32) (v17 : Int32) (v18 : Int32) (v19 : Int32) (m9 : gM) : Option (gM) :=
  gok (gib v18 9) (glet (gst m9 p3 v18 v19) fun (m10 : gM) => gok (gib v17 9) (glet (v16 - (grd m10 p3 v17)) fun (v20 : Int32) => rec_23 v20 (v17 + 1) m10))
def L_Ground_take_23 (a : Nat) (x1 : Int32) (x2 : Int32) (p3 : Nat) (v13 : Int32) (k_23 : Int32 → Int32 → gM → Option (gM)) : Nat → Int32 → Int32 → gM → Option (gM) :=
  gfix (fun rec_23 v14 v15 m8 =>
    if v15 < 9 then (if 0 < v13 then (gok (gib ((x1 * 9) + v15) 324) (gnzL (Int32.toInt64 v13) (J_Ground_take_61 p3 rec_23 v14 v15 v15 (Int64.toInt32 (((Int32.toInt64 x2) * (Int32.toInt64 (grd m8 (a + 9) ((x1 * 9) + v15)))) / (Int32.toInt64 v13))) m8))) else (J_Ground_take_61 p3 rec_23 v14 v15 v15 0 m8)) else (k_23 v14 v15 m8)) (fun _ _ _ => none)
def f_Ground_take (a : Nat) (x1 : Int32) (x2 : Int32) (p3 : Nat) (m : gM) : Option (gM) :=
  gok (gib x1 36) (glet (grd m (a + 7) x1) fun (v13 : Int32) => L_Ground_take_23 a x1 x2 p3 v13 (fun v14 v15 m8 => J_Ground_take_77 a x1 x2 p3 (x1 * 9) v13 v14 v15 m8) 1000 x2 0 m)
def J_Currents_moveGround_164 (a : Nat) (p1 : Nat) (v1 : Int32) (m1 : gM) : Option (gM) :=
  (f_Currents_moveWater a (p1 + 1) m1).bind fun (r1 : gM) => some r1
def J_Currents_moveGround_158 (rec_85 : Int32 → gM → Option (gM)) (v4 : Int32) (v5 : Int32) (m4 : gM) : Option (gM) :=
  rec_85 (v4 + 1) m4
def L_Currents_moveGround_98 (a : Nat) (p1 : Nat) (v3 : Int32) (k_98 : Int32 → gM → Option (gM)) : Nat → Int32 → gM → Option (gM) :=
  gfix (fun rec_98 v6 m5 =>
    if v6 < 9 then (gok (gib ((v3 * 9) + v6) 324) (gok (gib ((v3 * 9) + v6) 324) (gok (gib ((v3 * 9) + v6) 324) (glet (gst m5 (p1 + 9) ((v3 * 9) + v6) ((grd m5 (p1 + 9) ((v3 * 9) + v6)) + (grd m5 (a + 7) ((v3 * 9) + v6)))) fun (m6 : gM) => gok (gib v3 36) (gok (gib ((v3 * 9) + v6) 324) (gok (gib v3 36) (glet (gst m6 (p1 + 7) v3 ((grd m6 (p1 + 7) v3) + (grd m6 (a + 7) ((v3 * 9) + v6)))) fun (m7 : gM) => rec_98 (v6 + 1) m7))))))) else (k_98 v6 m5)) (fun _ _ => none)
def L_Currents_moveGround_85 (a : Nat) (p1 : Nat) (k_85 : Int32 → gM → Option (gM)) : Nat → Int32 → gM → Option (gM) :=
  gfix (fun rec_85 v3 m3 =>
    if v3 < (gfd m3 (p1 + 1) 2) then (L_Currents_moveGround_98 a p1 v3 (fun v6 m5 => J_Currents_moveGround_158 rec_85 v3 v6 m5) 1000 0 m3) else (k_85 v3 m3)) (fun _ _ => none)
def J_Currents_moveGround_83 (a : Nat) (p1 : Nat) (v2 : Int32) (m2 : gM) : Option (gM) :=
  L_Currents_moveGround_85 a p1 (fun v3 m3 => J_Currents_moveGround_164 a p1 v3 m3) 1000 0 m2
def J_Currents_moveGround_77 (rec_10 : Int32 → gM → Option (gM)) (v8 : Int32) (v9 : Int32) (m9 : gM) : Option (gM) :=
  rec_10 (v8 + 1) m9
def L_Currents_moveGround_40 (a : Nat) (v7 : Int32) (k_40 : Int32 → gM → Option (gM)) : Nat → Int32 → gM → Option (gM) :=
  gfix (fun rec_40 v10 m10 =>
    if v10 < 9 then (gok (gib v7 144) (gok (gib (((grd m10 (a + 4) v7) * 9) + v10) 324) (gok (gib v10 9) (gok (gib (((grd m10 (a + 4) v7) * 9) + v10) 324) (glet (gst m10 (a + 7) (((grd m10 (a + 4) v7) * 9) + v10) ((grd m10 (a + 7) (((grd m10 (a + 4) v7) * 9) + v10)) + (grd m10 (a + 1) v10))) fun (m11 : gM) => rec_40 (v10 + 1) m11))))) else (k_40 v10 m10)) (fun _ _ => none)
def L_Currents_moveGround_10 (a : Nat) (p1 : Nat) (k_10 : Int32 → gM → Option (gM)) : Nat → Int32 → gM → Option (gM) :=
  gfix (fun rec_10 v7 m8 =>
    if v7 < (gfd m8 a 2) then (gok (gib v7 144) (gok (gib v7 144) ((f_Ground_take p1 (grd m8 (a + 3) v7) (grd m8 (a + 5) v7) (a + 1) m8).bind fun (r3 : gM) => L_Currents_moveGround_40 a v7 (fun v10 m10 => J_Currents_moveGround_77 rec_10 v7 v10 m10) 1000 0 r3))) else (k_10 v7 m8)) (fun _ _ => none)
def f_Currents_moveGround (a : Nat) (p1 : Nat) (m : gM) : Option (gM) :=
  (f_fill (a + 7) 324 0 m).bind fun (r2 : gM) => L_Currents_moveGround_10 a p1 (fun v7 m8 => J_Currents_moveGround_83 a p1 v7 m8) 1000 0 r2
def f_Deeds_clear (a : Nat) (m : gM) : Option (gM) :=
  (f_fill (a + 1) 8 (-4) m).bind fun (r1 : gM) => glet (gsf r1 a 1 0) fun (m1 : gM) => some m1
def f_Deeds_copyFrom (a : Nat) (p1 : Nat) (m : gM) : Option (gM) :=
  glet (gsf m a 1 (gfd m p1 1)) fun (m1 : gM) => glet (gcp m1 (p1 + 1) (a + 1) (Int32.toNatClampNeg 0) (Int32.toNatClampNeg 0) (Int32.toNatClampNeg 8)) fun (m2 : gM) => glet (gcp m2 (p1 + 2) (a + 2) (Int32.toNatClampNeg 0) (Int32.toNatClampNeg 0) (Int32.toNatClampNeg 12)) fun (m3 : gM) => glet (gcp m3 (p1 + 3) (a + 3) (Int32.toNatClampNeg 0) (Int32.toNatClampNeg 0) (Int32.toNatClampNeg 12)) fun (m4 : gM) => glet (gcp m4 (p1 + 4) (a + 4) (Int32.toNatClampNeg 0) (Int32.toNatClampNeg 0) (Int32.toNatClampNeg 12)) fun (m5 : gM) => glet (gcp m5 (p1 + 5) (a + 5) (Int32.toNatClampNeg 0) (Int32.toNatClampNeg 0) (Int32.toNatClampNeg 12)) fun (m6 : gM) => some m6
def f_Deeds_add (a : Nat) (x1 : Int32) (x2 : Int32) (x3 : Int32) (x4 : Int32) (m : gM) : Option (Int32 × gM) :=
  if (gfd m a 1) < 12 then (gok (gib (gfd m a 1) 12) (glet (gst m (a + 2) (gfd m a 1) x1) fun (m1 : gM) => gok (gib (gfd m1 a 1) 12) (glet (gst m1 (a + 3) (gfd m1 a 1) x2) fun (m2 : gM) => gok (gib (gfd m2 a 1) 12) (glet (gst m2 (a + 4) (gfd m2 a 1) x3) fun (m3 : gM) => gok (gib (gfd m3 a 1) 12) (glet (gst m3 (a + 5) (gfd m3 a 1) x4) fun (m4 : gM) => glet (gsf m4 a 1 ((gfd m4 a 1) + 1)) fun (m5 : gM) => some ((gfd m5 a 1) - 1, m5)))))) else (some ((-3), m))
def J_Pool_becomeNew_70 (a : Nat) (v1 : Int32) (m1 : gM) : Option (gM) :=
  (f_fill (a + 3) 36 5 m1).bind fun (r1 : gM) => (f_fill (a + 4) 36 0 r1).bind fun (r2 : gM) => (f_fill (a + 5) 36 0 r2).bind fun (r3 : gM) => (f_fill (a + 6) 36 0 r3).bind fun (r4 : gM) => some r4
def J_Pool_becomeNew_64 (rec_19 : Int32 → gM → Option (gM)) (v3 : Int32) (v4 : Int32) (m6 : gM) : Option (gM) :=
  rec_19 (v3 + 1) m6
def L_Pool_becomeNew_27 (a : Nat) (x1 : Int32) (v2 : Int32) (k_27 : Int32 → gM → Option (gM)) : Nat → Int32 → gM → Option (gM) :=
  gfix (fun rec_27 v5 m7 =>
    if v5 < x1 then (gok (gib ((v2 * x1) + v5) 36) (glet (gst m7 (a + 1) ((v2 * x1) + v5) v5) fun (m8 : gM) => gok (gib ((v2 * x1) + v5) 36) (glet (gst m8 (a + 2) ((v2 * x1) + v5) v2) fun (m9 : gM) => rec_27 (v5 + 1) m9))) else (k_27 v5 m7)) (fun _ _ => none)
def L_Pool_becomeNew_19 (a : Nat) (x1 : Int32) (x2 : Int32) (k_19 : Int32 → gM → Option (gM)) : Nat → Int32 → gM → Option (gM) :=
  gfix (fun rec_19 v2 m5 =>
    if v2 < x2 then (L_Pool_becomeNew_27 a x1 v2 (fun v5 m7 => J_Pool_becomeNew_64 rec_19 v2 v5 m7) 1000 0 m5) else (k_19 v2 m5)) (fun _ _ => none)
def f_Pool_becomeNew (a : Nat) (x1 : Int32) (x2 : Int32) (m : gM) : Option (gM) :=
  glet (gsf m a 0 x1) fun (m2 : gM) => glet (gsf m2 a 1 x2) fun (m3 : gM) => glet (gsf m3 a 2 (x1 * x2)) fun (m4 : gM) => L_Pool_becomeNew_19 a x1 x2 (fun v2 m5 => J_Pool_becomeNew_70 a v2 m5) 1000 0 m4
def f_Ground_becomeNew (a : Nat) (x1 : Int32) (x2 : Int32) (m : gM) : Option (gM) :=
  (f_Pool_becomeNew (a + 1) x1 x2 m).bind fun (r1 : gM) => (f_fill (a + 8) 36 (-4) r1).bind fun (r2 : gM) => (f_fill (a + 9) 324 0 r2).bind fun (r3 : gM) => some r3
def f_Pool_copyFrom (a : Nat) (p1 : Nat) (m : gM) : Option (gM) :=
  glet (gsf m a 0 (gfd m p1 0)) fun (m1 : gM) => glet (gsf m1 a 1 (gfd m1 p1 1)) fun (m2 : gM) => glet (gsf m2 a 2 (gfd m2 p1 2)) fun (m3 : gM) => glet (gcp m3 (p1 + 1) (a + 1) (Int32.toNatClampNeg 0) (Int32.toNatClampNeg 0) (Int32.toNatClampNeg 36)) fun (m4 : gM) => glet (gcp m4 (p1 + 2) (a + 2) (Int32.toNatClampNeg 0) (Int32.toNatClampNeg 0) (Int32.toNatClampNeg 36)) fun (m5 : gM) => glet (gcp m5 (p1 + 3) (a + 3) (Int32.toNatClampNeg 0) (Int32.toNatClampNeg 0) (Int32.toNatClampNeg 36)) fun (m6 : gM) => glet (gcp m6 (p1 + 4) (a + 4) (Int32.toNatClampNeg 0) (Int32.toNatClampNeg 0) (Int32.toNatClampNeg 36)) fun (m7 : gM) => glet (gcp m7 (p1 + 5) (a + 5) (Int32.toNatClampNeg 0) (Int32.toNatClampNeg 0) (Int32.toNatClampNeg 36)) fun (m8 : gM) => glet (gcp m8 (p1 + 6) (a + 6) (Int32.toNatClampNeg 0) (Int32.toNatClampNeg 0) (Int32.toNatClampNeg 36)) fun (m9 : gM) => some m9
def f_Ground_copyFrom (a : Nat) (p1 : Nat) (m : gM) : Option (gM) :=
  (f_Pool_copyFrom (a + 1) (p1 + 1) m).bind fun (r1 : gM) => glet (gcp r1 (p1 + 8) (a + 8) (Int32.toNatClampNeg 0) (Int32.toNatClampNeg 0) (Int32.toNatClampNeg 36)) fun (m1 : gM) => glet (gcp m1 (p1 + 9) (a + 9) (Int32.toNatClampNeg 0) (Int32.toNatClampNeg 0) (Int32.toNatClampNeg 324)) fun (m2 : gM) => some m2
def J_Ground_tellOil_48 (a : Nat) (x1 : Int32) (x2 : Int32) (v1 : Int32) (m1 : gM) : Option (gM) :=
  gok (gib ((x1 * 9) + v1) 324) (glet (gst m1 (a + 9) ((x1 * 9) + v1) x2) fun (m2 : gM) => gok (gib x1 36) (glet (gst m2 (a + 7) x1 x2) fun (m3 : gM) => some m3))
def J_Ground_tellOil_26 (a : Nat) (x1 : Int32) (x2 : Int32) (v2 : Int32) (m4 : gM) : Option (gM) :=
  gok (gib x1 36) (if (grd m4 (a + 8) x1) = (-4) then (J_Ground_tellOil_48 a x1 x2 8 m4) else (gok (gib x1 36) (J_Ground_tellOil_48 a x1 x2 (grd m4 (a + 8) x1) m4)))
def L_Ground_tellOil_2 (a : Nat) (x1 : Int32) (k_2 : Int32 → gM → Option (gM)) : Nat → Int32 → gM → Option (gM) :=
  gfix (fun rec_2 v3 m5 =>
    if v3 < 9 then (gok (gib ((x1 * 9) + v3) 324) (glet (gst m5 (a + 9) ((x1 * 9) + v3) 0) fun (m6 : gM) => rec_2 (v3 + 1) m6)) else (k_2 v3 m5)) (fun _ _ => none)
def f_Ground_tellOil (a : Nat) (x1 : Int32) (x2 : Int32) (m : gM) : Option (gM) :=
  L_Ground_tellOil_2 a x1 (fun v3 m5 => J_Ground_tellOil_26 a x1 x2 v3 m5) 1000 0 m
def J_Ground_cellsOf_28 (rec_4 : Int32 → Int32 → Option (Int32 × gM)) (v3 : Int32) (v4 : Int32) : Option (Int32 × gM) :=
  rec_4 v3 (v4 + 1)
def L_Ground_cellsOf_4 (a : Nat) (x1 : Int32) (m : gM) : Nat → Int32 → Int32 → Option (Int32 × gM) :=
  gfix (fun rec_4 v1 v2 =>
    if v2 < (gfd m (a + 1) 2) then (gok (gib v2 36) (if (grd m (a + 8) v2) = x1 then (J_Ground_cellsOf_28 rec_4 (v1 + 1) v2) else (J_Ground_cellsOf_28 rec_4 v1 v2))) else (some (v1, m))) (fun _ _ => none)
def f_Ground_cellsOf (a : Nat) (x1 : Int32) (m : gM) : Option (Int32 × gM) :=
  L_Ground_cellsOf_4 a x1 m 1000 0 0
def f_Pool_howFar (a : Nat) (x1 : Int32) (x2 : Int32) (m : gM) : Option (Int32 × gM) :=
  gok (gib x1 36) (gok (gib x2 36) (gok (gib x1 36) (gok (gib x2 36) (some ((gabs ((grd m (a + 1) x1) - (grd m (a + 1) x2))) + (gabs ((grd m (a + 2) x1) - (grd m (a + 2) x2))), m)))))
def J_Ground_strangerFrom_45 (rec_5 : Int32 → Int32 → gM → Option (Int32 × gM)) (v3 : Int32) (v4 : Int32) (m2 : gM) : Option (Int32 × gM) :=
  rec_5 v3 (v4 + 1) m2
def L_Ground_strangerFrom_5 (a : Nat) (x1 : Int32) : Nat → Int32 → Int32 → gM → Option (Int32 × gM) :=
  gfix (fun rec_5 v1 v2 m1 =>
    if v2 < (gfd m1 (a + 1) 2) then (gok (gib v2 36) (gok (gib x1 36) (if (grd m1 (a + 8) v2) = (grd m1 (a + 8) x1) then (J_Ground_strangerFrom_45 rec_5 v1 v2 m1) else ((f_Pool_howFar (a + 1) x1 v2 m1).bind fun (r1 : Int32 × gM) => glet (gmin v1 r1.1) fun (v5 : Int32) => J_Ground_strangerFrom_45 rec_5 v5 v2 r1.2)))) else (some (v1, m1))) (fun _ _ _ => none)
def f_Ground_strangerFrom (a : Nat) (x1 : Int32) (m : gM) : Option (Int32 × gM) :=
  L_Ground_strangerFrom_5 a x1 1000 99 0 m
def L_Orders_copyFrom_55 (a : Nat) (p1 : Nat) : Nat → Int32 → gM → Option (gM) :=
  gfix (fun rec_55 v1 m5 =>
    if v1 < 12 then (gok (gib v1 12) (gok (gib v1 12) (gzo (grd m5 (p1 + 4) v1) (glet (gst m5 (a + 4) v1 (grd m5 (p1 + 4) v1)) fun (m6 : gM) => rec_55 (v1 + 1) m6)))) else (some m5)) (fun _ _ => none)
def f_Orders_copyFrom (a : Nat) (p1 : Nat) (m : gM) : Option (gM) :=
  glet (gsf m a 0 (gfd m p1 0)) fun (m1 : gM) => glet (gcp m1 (p1 + 1) (a + 1) (Int32.toNatClampNeg 0) (Int32.toNatClampNeg 0) (Int32.toNatClampNeg 12)) fun (m2 : gM) => glet (gcp m2 (p1 + 2) (a + 2) (Int32.toNatClampNeg 0) (Int32.toNatClampNeg 0) (Int32.toNatClampNeg 12)) fun (m3 : gM) => glet (gcp m3 (p1 + 3) (a + 3) (Int32.toNatClampNeg 0) (Int32.toNatClampNeg 0) (Int32.toNatClampNeg 12)) fun (m4 : gM) => L_Orders_copyFrom_55 a p1 1000 0 m4
def f_Orders_add (a : Nat) (x1 : Int32) (x2 : Int32) (x3 : Int32) (m : gM) : Option (gM) :=
  if (gfd m a 0) < 12 then (gok (gib (gfd m a 0) 12) (glet (gst m (a + 1) (gfd m a 0) x1) fun (m1 : gM) => gok (gib (gfd m1 a 0) 12) (glet (gst m1 (a + 2) (gfd m1 a 0) x2) fun (m2 : gM) => gok (gib (gfd m2 a 0) 12) (glet (gst m2 (a + 3) (gfd m2 a 0) x3) fun (m3 : gM) => gok (gib (gfd m3 a 0) 12) (gzo 0 (glet (gst m3 (a + 4) (gfd m3 a 0) 0) fun (m4 : gM) => glet (gsf m4 a 0 ((gfd m4 a 0) + 1)) fun (m5 : gM) => some m5)))))) else (some m)
def J_Orders_tells_32 (rec_2 : Int32 → Option (Int32 × gM)) (v2 : Int32) : Option (Int32 × gM) :=
  rec_2 (v2 + 1)
def L_Orders_tells_2 (a : Nat) (x1 : Int32) (x2 : Int32) (m : gM) : Nat → Int32 → Option (Int32 × gM) :=
  gfix (fun rec_2 v1 =>
    if v1 < (gfd m a 0) then (gok (gib v1 12) (if (grd m (a + 1) v1) = x1 then (gok (gib v1 12) (if (grd m (a + 2) v1) = x2 then (some (1, m)) else (J_Orders_tells_32 rec_2 v1))) else (J_Orders_tells_32 rec_2 v1))) else (some (0, m))) (fun _ => none)
def f_Orders_tells (a : Nat) (x1 : Int32) (x2 : Int32) (m : gM) : Option (Int32 × gM) :=
  L_Orders_tells_2 a x1 x2 m 1000 0
def J_Orders_tellsExcept_42 (rec_2 : Int32 → Option (Int32 × gM)) (v2 : Int32) : Option (Int32 × gM) :=
  rec_2 (v2 + 1)
def L_Orders_tellsExcept_2 (a : Nat) (x1 : Int32) (x2 : Int32) (m : gM) : Nat → Int32 → Option (Int32 × gM) :=
  gfix (fun rec_2 v1 =>
    if v1 < (gfd m a 0) then (gok (gib v1 12) (if (grd m (a + 1) v1) = 5 then (gok (gib v1 12) (if (grd m (a + 2) v1) = x2 then (gok (gib v1 12) (if (grd m (a + 3) v1) = x1 then (some (1, m)) else (J_Orders_tellsExcept_42 rec_2 v1))) else (J_Orders_tellsExcept_42 rec_2 v1))) else (J_Orders_tellsExcept_42 rec_2 v1))) else (some (0, m))) (fun _ => none)
def f_Orders_tellsExcept (a : Nat) (x1 : Int32) (x2 : Int32) (m : gM) : Option (Int32 × gM) :=
  L_Orders_tellsExcept_2 a x1 x2 m 1000 0
def J_Orders_lineIn_72 (rec_6 : Int32 → Int32 → Option (Int32 × gM)) (v3 : Int32) (v4 : Int32) : Option (Int32 × gM) :=
  rec_6 v3 (v4 + 1)
def J_Orders_lineIn_69 (rec_6 : Int32 → Int32 → Option (Int32 × gM)) (v5 : Int32) (v6 : Int32) : Option (Int32 × gM) :=
  J_Orders_lineIn_72 rec_6 v6 v6
def L_Orders_lineIn_6 (a : Nat) (x1 : Int32) (x2 : Int32) (m : gM) : Nat → Int32 → Int32 → Option (Int32 × gM) :=
  gfix (fun rec_6 v1 v2 =>
    if v2 < (gfd m a 0) then (gok (gib v2 12) (if (grd m (a + 1) v2) = x1 then (gok (gib v2 12) (if (grd m (a + 4) v2) = 0 then (gok (gib v2 12) (if x2 < (grd m (a + 2) v2) then (J_Orders_lineIn_72 rec_6 v1 v2) else (if v1 = (-4) then (J_Orders_lineIn_69 rec_6 v1 v2) else (gok (gib v2 12) (gok (gib v1 12) (if (grd m (a + 2) v1) < (grd m (a + 2) v2) then (J_Orders_lineIn_69 rec_6 v1 v2) else (J_Orders_lineIn_72 rec_6 v1 v2))))))) else (J_Orders_lineIn_72 rec_6 v1 v2))) else (J_Orders_lineIn_72 rec_6 v1 v2))) else (some (v1, m))) (fun _ _ => none)
def f_Orders_lineIn (a : Nat) (x1 : Int32) (x2 : Int32) (m : gM) : Option (Int32 × gM) :=
  L_Orders_lineIn_6 a x1 x2 m 1000 (-4) 0
def f_Orders_numberIn (a : Nat) (x1 : Int32) (x2 : Int32) (m : gM) : Option (Int32 × gM) :=
  (f_Orders_lineIn a x1 x2 m).bind fun (r1 : Int32 × gM) => if r1.1 = (-4) then (some (0, r1.2)) else (gok (gib r1.1 12) (some (grd r1.2 (a + 3) r1.1, r1.2)))
def J_Orders_excepts_51 (rec_2 : Int32 → Option (Int32 × gM)) (v2 : Int32) : Option (Int32 × gM) :=
  rec_2 (v2 + 1)
def L_Orders_excepts_2 (a : Nat) (x1 : Int32) (x2 : Int32) (m : gM) : Nat → Int32 → Option (Int32 × gM) :=
  gfix (fun rec_2 v1 =>
    if v1 < (gfd m a 0) then (gok (gib v1 12) (if (grd m (a + 1) v1) = 5 then (gok (gib v1 12) (if (grd m (a + 4) v1) = 0 then (gok (gib v1 12) (if x2 < (grd m (a + 2) v1) then (J_Orders_excepts_51 rec_2 v1) else (gok (gib v1 12) (if (grd m (a + 3) v1) = x1 then (some (1, m)) else (J_Orders_excepts_51 rec_2 v1))))) else (J_Orders_excepts_51 rec_2 v1))) else (J_Orders_excepts_51 rec_2 v1))) else (some (0, m))) (fun _ => none)
def f_Orders_excepts (a : Nat) (x1 : Int32) (x2 : Int32) (m : gM) : Option (Int32 × gM) :=
  L_Orders_excepts_2 a x1 x2 m 1000 0
def f_Town_shift (a : Nat) (m : gM) : Option (Int32 × gM) :=
  gnz 4 (some ((gfd m a 4) / 4, m))
def J_Town_hasWellOn_49 (rec_2 : Int32 → Option (Int32 × gM)) (v2 : Int32) : Option (Int32 × gM) :=
  rec_2 (v2 + 1)
def L_Town_hasWellOn_2 (a : Nat) (x1 : Int32) (x2 : Int32) (m : gM) : Nat → Int32 → Option (Int32 × gM) :=
  gfix (fun rec_2 v1 =>
    if v1 < (gfd m (a + 17) 0) then (gok (gib v1 10) (if (grd m (a + 18) v1) = x1 then (gok (gib v1 10) (gok (gib (grd m (a + 19) v1) 36) (if (grd m (a + 9) (grd m (a + 19) v1)) = x2 then (some (1, m)) else (J_Town_hasWellOn_49 rec_2 v1)))) else (J_Town_hasWellOn_49 rec_2 v1))) else (some (0, m))) (fun _ => none)
def f_Town_hasWellOn (a : Nat) (x1 : Int32) (x2 : Int32) (m : gM) : Option (Int32 × gM) :=
  L_Town_hasWellOn_2 a x1 x2 m 1000 0
def f_Town_hasEnded (a : Nat) (x1 : Int32) (m : gM) : Option (Int32 × gM) :=
  gok (gib x1 12) (if (gfd m a 4) < (grd m (a + 15) x1) then (some (0, m)) else (gok (gib x1 12) (gok (gib x1 12) ((f_Town_hasWellOn a (grd m (a + 14) x1) (grd m (a + 13) x1) m).bind fun (r1 : Int32 × gM) => if r1.1 = 0 then (some (1, r1.2)) else (some (0, r1.2))))))
def J_Town_holderOf_72 (a : Nat) (x1 : Int32) (v1 : Int32) (v2 : Int32) (m1 : gM) : Option (Int32 × gM) :=
  if v1 = (-4) then (gok (gib x1 8) (some (grd m1 (a + 12) x1, m1))) else (gok (gib v1 12) (some (grd m1 (a + 14) v1, m1)))
def J_Town_holderOf_66 (rec_5 : Int32 → Int32 → gM → Option (Int32 × gM)) (v5 : Int32) (v6 : Int32) (m3 : gM) : Option (Int32 × gM) :=
  rec_5 v5 (v6 + 1) m3
def J_Town_holderOf_64 (rec_5 : Int32 → Int32 → gM → Option (Int32 × gM)) (v7 : Int32) (v8 : Int32) (m4 : gM) : Option (Int32 × gM) :=
  J_Town_holderOf_66 rec_5 v8 v8 m4
def L_Town_holderOf_5 (a : Nat) (x1 : Int32) (k_5 : Int32 → Int32 → gM → Option (Int32 × gM)) : Nat → Int32 → Int32 → gM → Option (Int32 × gM) :=
  gfix (fun rec_5 v3 v4 m2 =>
    if v4 < (gfd m2 (a + 11) 1) then (gok (gib v4 12) (if (grd m2 (a + 13) v4) = x1 then ((f_Town_hasEnded a v4 m2).bind fun (r1 : Int32 × gM) => if r1.1 = 0 then (if v3 = (-4) then (J_Town_holderOf_64 rec_5 v3 v4 r1.2) else (gok (gib v4 12) (gok (gib v3 12) (if (grd r1.2 (a + 16) v4) < (grd r1.2 (a + 16) v3) then (J_Town_holderOf_64 rec_5 v3 v4 r1.2) else (J_Town_holderOf_66 rec_5 v3 v4 r1.2))))) else (J_Town_holderOf_66 rec_5 v3 v4 r1.2)) else (J_Town_holderOf_66 rec_5 v3 v4 m2))) else (k_5 v3 v4 m2)) (fun _ _ _ => none)
def f_Town_holderOf (a : Nat) (x1 : Int32) (m : gM) : Option (Int32 × gM) :=
  L_Town_holderOf_5 a x1 (fun v3 v4 m2 => J_Town_holderOf_72 a x1 v3 v4 m2) 1000 (-4) 0 m
def L_Town_nearestWellFrom_5 (a : Nat) (x1 : Int32) : Nat → Int32 → Int32 → gM → Option (Int32 × gM) :=
  gfix (fun rec_5 v1 v2 m1 =>
    if v2 < (gfd m1 (a + 17) 0) then (gok (gib v2 10) ((f_Pool_howFar (a + 2) x1 (grd m1 (a + 19) v2) m1).bind fun (r1 : Int32 × gM) => glet (gmin v1 r1.1) fun (v3 : Int32) => rec_5 v3 (v2 + 1) r1.2)) else (some (v1, m1))) (fun _ _ _ => none)
def f_Town_nearestWellFrom (a : Nat) (x1 : Int32) (m : gM) : Option (Int32 × gM) :=
  L_Town_nearestWellFrom_5 a x1 1000 99 0 m
def f_Orders_whyNotUnder (a : Nat) (p1 : Nat) (x2 : Int32) (x3 : Int32) (x4 : Int32) (x5 : Int32) (m : gM) : Option (Int32 × gM) :=
  gok (gib x3 36) (glet (grd m (p1 + 9) x3) fun (v1 : Int32) => if v1 = (-4) then (some (1, m)) else ((f_Town_holderOf p1 v1 m).bind fun (r1 : Int32 × gM) => if r1.1 = x2 then ((f_Town_shift p1 r1.2).bind fun (r2 : Int32 × gM) => (f_Orders_excepts a x2 r2.1 r2.2).bind fun (r3 : Int32 × gM) => if r3.1 = 0 then ((f_Ground_strangerFrom (p1 + 1) x3 r3.2).bind fun (r4 : Int32 × gM) => if r4.1 < x4 then (some (2, r4.2)) else ((f_Town_nearestWellFrom p1 x3 r4.2).bind fun (r5 : Int32 × gM) => if r5.1 < x5 then (some (3, r5.2)) else (some (0, r5.2)))) else (some (0, r3.2))) else (some (1, r1.2))))
def f_Orders_whyNot (a : Nat) (p1 : Nat) (x2 : Int32) (x3 : Int32) (m : gM) : Option (Int32 × gM) :=
  (f_Town_shift p1 m).bind fun (r1 : Int32 × gM) => (f_Orders_numberIn a 0 r1.1 r1.2).bind fun (r2 : Int32 × gM) => (f_Orders_numberIn a 1 r1.1 r2.2).bind fun (r3 : Int32 × gM) => (f_Orders_whyNotUnder a p1 x2 x3 r2.1 r3.1 r3.2).bind fun (r4 : Int32 × gM) => some (r4.1, r4.2)
def J_Town_wellsOn_39 (rec_4 : Int32 → Int32 → Option (Int32 × gM)) (v3 : Int32) (v4 : Int32) : Option (Int32 × gM) :=
  rec_4 v3 (v4 + 1)
def L_Town_wellsOn_4 (a : Nat) (x1 : Int32) (m : gM) : Nat → Int32 → Int32 → Option (Int32 × gM) :=
  gfix (fun rec_4 v1 v2 =>
    if v2 < (gfd m (a + 17) 0) then (gok (gib v2 10) (gok (gib (grd m (a + 19) v2) 36) (if (grd m (a + 9) (grd m (a + 19) v2)) = x1 then (J_Town_wellsOn_39 rec_4 (v1 + 1) v2) else (J_Town_wellsOn_39 rec_4 v1 v2)))) else (some (v1, m))) (fun _ _ => none)
def f_Town_wellsOn (a : Nat) (x1 : Int32) (m : gM) : Option (Int32 × gM) :=
  L_Town_wellsOn_4 a x1 m 1000 0 0
def J_Town_shareByAcres_33 (a : Nat) (x2 : Int32) (v1 : Int32) (v2 : Int32) (m1 : gM) : Option (Int32 × gM) :=
  if 0 < v2 then ((f_Ground_cellsOf (a + 1) v1 m1).bind fun (r1 : Int32 × gM) => gnz v2 (some ((x2 * r1.1) / v2, r1.2))) else (some (0, m1))
def f_Town_shareByAcres (a : Nat) (x1 : Int32) (x2 : Int32) (m : gM) : Option (Int32 × gM) :=
  gok (gib x1 10) (gok (gib (grd m (a + 19) x1) 36) (glet (grd m (a + 9) (grd m (a + 19) x1)) fun (v3 : Int32) => if v3 = (-4) then (J_Town_shareByAcres_33 a x2 v3 0 m) else ((f_Town_wellsOn a v3 m).bind fun (r2 : Int32 × gM) => J_Town_shareByAcres_33 a x2 v3 r2.1 r2.2)))
def f_Orders_letOf (a : Nat) (p1 : Nat) (x2 : Int32) (x3 : Int32) (m : gM) : Option (Int32 × gM) :=
  (f_Orders_lineIn a 4 x3 m).bind fun (r1 : Int32 × gM) => if r1.1 = (-4) then ((f_Orders_lineIn a 2 x3 r1.2).bind fun (r2 : Int32 × gM) => (f_Orders_lineIn a 3 x3 r2.2).bind fun (r3 : Int32 × gM) => if r3.1 = (-4) then (if r2.1 = (-4) then (some ((-4), r3.2)) else (gok (gib r2.1 12) (some (grd r3.2 (a + 3) r2.1, r3.2)))) else (gok (gib r3.1 12) ((f_Town_shareByAcres p1 x2 (grd r3.2 (a + 3) r3.1) r3.2).bind fun (r4 : Int32 × gM) => if r2.1 = (-4) then (some (r4.1, r4.2)) else (gok (gib r2.1 12) (some (gmin (grd r4.2 (a + 3) r2.1) r4.1, r4.2)))))) else (some (0, r1.2))
def f_Orders_hotIn (a : Nat) (p1 : Nat) (x2 : Int32) (x3 : Int32) (m : gM) : Option (Int32 × gM) :=
  gok (gib ((x2 * 50) + x3) 500) (glet (grd m (p1 + 25) ((x2 * 50) + x3)) fun (v1 : Int32) => if v1 = 0 then (some (0, m)) else ((f_Orders_letOf a p1 x2 x3 m).bind fun (r1 : Int32 × gM) => if r1.1 = (-4) then (some (0, r1.2)) else (some (gmax 0 (v1 - r1.1), r1.2))))
def L_Orders_hotOfWell_5 (a : Nat) (p1 : Nat) (x2 : Int32) : Nat → Int32 → Int32 → gM → Option (Int32 × gM) :=
  gfix (fun rec_5 v1 v2 m1 =>
    if v2 < 50 then ((f_Orders_hotIn a p1 x2 v2 m1).bind fun (r1 : Int32 × gM) => glet (v1 + r1.1) fun (v3 : Int32) => rec_5 v3 (v2 + 1) r1.2) else (some (v1, m1))) (fun _ _ _ => none)
def f_Orders_hotOfWell (a : Nat) (p1 : Nat) (x2 : Int32) (m : gM) : Option (Int32 × gM) :=
  L_Orders_hotOfWell_5 a p1 x2 1000 0 0 m
def J_Orders_hotOfPerson_41 (rec_5 : Int32 → Int32 → gM → Option (Int32 × gM)) (v3 : Int32) (v4 : Int32) (m2 : gM) : Option (Int32 × gM) :=
  rec_5 v3 (v4 + 1) m2
def L_Orders_hotOfPerson_5 (a : Nat) (p1 : Nat) (x2 : Int32) : Nat → Int32 → Int32 → gM → Option (Int32 × gM) :=
  gfix (fun rec_5 v1 v2 m1 =>
    if v2 < (gfd m1 (p1 + 17) 0) then (gok (gib v2 10) (if (grd m1 (p1 + 18) v2) = x2 then ((f_Orders_hotOfWell a p1 v2 m1).bind fun (r1 : Int32 × gM) => glet (v1 + r1.1) fun (v5 : Int32) => J_Orders_hotOfPerson_41 rec_5 v5 v2 r1.2) else (J_Orders_hotOfPerson_41 rec_5 v1 v2 m1))) else (some (v1, m1))) (fun _ _ _ => none)
def f_Orders_hotOfPerson (a : Nat) (p1 : Nat) (x2 : Int32) (m : gM) : Option (Int32 × gM) :=
  L_Orders_hotOfPerson_5 a p1 x2 1000 0 0 m
def L_Orders_hotOfAll_4 (a : Nat) (p1 : Nat) : Nat → Int32 → Int32 → gM → Option (Int32 × gM) :=
  gfix (fun rec_4 v1 v2 m1 =>
    if v2 < (gfd m1 (p1 + 17) 0) then ((f_Orders_hotOfWell a p1 v2 m1).bind fun (r1 : Int32 × gM) => glet (v1 + r1.1) fun (v3 : Int32) => rec_4 v3 (v2 + 1) r1.2) else (some (v1, m1))) (fun _ _ _ => none)
def f_Orders_hotOfAll (a : Nat) (p1 : Nat) (m : gM) : Option (Int32 × gM) :=
  L_Orders_hotOfAll_4 a p1 1000 0 0 m
def f_Pool_has (a : Nat) (x1 : Int32) (m : gM) : Option (Int32 × gM) :=
  if x1 < 0 then (some (0, m)) else (if x1 < (gfd m a 2) then (some (1, m)) else (some (0, m)))
def f_Pool_barrelsUnder (a : Nat) (x1 : Int32) (x2 : Int32) (m : gM) : Option (Int32 × gM) :=
  (f_Pool_liquid a x1 m).bind fun (r1 : Int32 × gM) => some (gmin x2 r1.1, r1.2)
def f_Pool_oilAmong (a : Nat) (x1 : Int32) (x2 : Int32) (m : gM) : Option (Int32 × gM) :=
  (f_Pool_liquid a x1 m).bind fun (r1 : Int32 × gM) => if 0 < r1.1 then (gok (gib x1 36) (gnzL (Int32.toInt64 r1.1) (some (Int64.toInt32 (((Int32.toInt64 x2) * (Int32.toInt64 (grd r1.2 (a + 6) x1))) / (Int32.toInt64 r1.1)), r1.2)))) else (some (0, r1.2))
def L_Pool_sumOverCells_4 (a : Nat) (p1 : Nat) (m : gM) : Nat → Int32 → Int32 → Option (Int32 × gM) :=
  gfix (fun rec_4 v1 v2 =>
    if v2 < (gfd m a 2) then (gok (gib v2 36) (glet (v1 + (grd m p1 v2)) fun (v3 : Int32) => rec_4 v3 (v2 + 1))) else (some (v1, m))) (fun _ _ => none)
def f_Pool_sumOverCells (a : Nat) (p1 : Nat) (m : gM) : Option (Int32 × gM) :=
  L_Pool_sumOverCells_4 a p1 m 1000 0 0
def f_Pool_allOil (a : Nat) (m : gM) : Option (Int32 × gM) :=
  (f_Pool_sumOverCells a (a + 6) m).bind fun (r1 : Int32 × gM) => some (r1.1, r1.2)
def f_Pool_allWater (a : Nat) (m : gM) : Option (Int32 × gM) :=
  (f_Pool_sumOverCells a (a + 5) m).bind fun (r1 : Int32 × gM) => some (r1.1, r1.2)
def f_Race_prepare (a : Nat) (x1 : Int32) (x2 : Int32) (x3 : Int32) (x4 : Int32) (m : gM) : Option (gM) :=
  glet (gsf m a 4 x1) fun (m1 : gM) => glet (gsf m1 a 5 x2) fun (m2 : gM) => glet (gsf m2 a 6 x3) fun (m3 : gM) => glet (gsf m3 a 7 x4) fun (m4 : gM) => some m4
def f_Race_drawFrom (a : Nat) (x1 : Int32) (x2 : Int32) (m : gM) : Option (Int32 × gM) :=
  (f_Pool_barrelsUnder (a + 1) x1 x2 m).bind fun (r1 : Int32 × gM) => (f_Pool_oilAmong (a + 1) x1 r1.1 r1.2).bind fun (r2 : Int32 × gM) => gok (gib x1 36) (gok (gib x1 36) (glet (gst r2.2 (a + 7) x1 ((grd r2.2 (a + 7) x1) - r2.1)) fun (m1 : gM) => gok (gib x1 36) (gok (gib x1 36) (glet (gst m1 (a + 6) x1 ((grd m1 (a + 6) x1) - (r1.1 - r2.1))) fun (m2 : gM) => some (r2.1, m2)))))
def f_Race_drills (x0 : Int32) (x1 : Int32) (m : gM) : Option (Int32 × gM) :=
  if ((x0 >>> (x1 &&& 31)) &&& 1) = 1 then (some (1, m)) else (some (0, m))
def J_Race_drawAll_104 (rec_64 : Int32 → gM → Option (gM)) (v3 : Int32) (m3 : gM) : Option (gM) :=
  rec_64 (v3 + 1) m3
def L_Race_drawAll_64 (a : Nat) (p2 : Nat) (x3 : Int32) : Nat → Int32 → gM → Option (gM) :=
  gfix (fun rec_64 v2 m2 =>
    if v2 < (gfd m2 a 4) then ((f_Race_drills x3 v2 m2).bind fun (r1 : Int32 × gM) => if r1.1 = 0 then (J_Race_drawAll_104 rec_64 v2 r1.2) else (gok (gib v2 6) (gok (gib v2 6) ((f_Race_drawFrom a (grd r1.2 p2 v2) (gfd r1.2 a 5) r1.2).bind fun (r2 : Int32 × gM) => gok (gib v2 6) (glet (gst r2.2 (a + 16) v2 ((grd r1.2 (a + 16) v2) + r2.1)) fun (m4 : gM) => J_Race_drawAll_104 rec_64 v2 m4))))) else (some m2)) (fun _ _ => none)
def J_Race_drawAll_61 (a : Nat) (p2 : Nat) (x3 : Int32) (v1 : Int32) (m1 : gM) : Option (gM) :=
  L_Race_drawAll_64 a p2 x3 1000 0 m1
def J_Race_drawAll_55 (rec_3 : Int32 → gM → Option (gM)) (v5 : Int32) (m6 : gM) : Option (gM) :=
  rec_3 (v5 + 1) m6
def L_Race_drawAll_3 (a : Nat) (p1 : Nat) (k_3 : Int32 → gM → Option (gM)) : Nat → Int32 → gM → Option (gM) :=
  gfix (fun rec_3 v4 m5 =>
    if v4 < (gfd m5 p1 0) then (gok (gib v4 10) (if (grd m5 (p1 + 4) v4) = 0 then (J_Race_drawAll_55 rec_3 v4 m5) else (gok (gib v4 10) (gok (gib (grd m5 (p1 + 1) v4) 6) (gok (gib v4 10) (gok (gib v4 10) ((f_Race_drawFrom a (grd m5 (p1 + 2) v4) (grd m5 (p1 + 3) v4) m5).bind fun (r3 : Int32 × gM) => gok (gib (grd m5 (p1 + 1) v4) 6) (glet (gst r3.2 (a + 16) (grd m5 (p1 + 1) v4) ((grd m5 (a + 16) (grd m5 (p1 + 1) v4)) + r3.1)) fun (m7 : gM) => J_Race_drawAll_55 rec_3 v4 m7)))))))) else (k_3 v4 m5)) (fun _ _ => none)
def f_Race_drawAll (a : Nat) (p1 : Nat) (p2 : Nat) (x3 : Int32) (m : gM) : Option (gM) :=
  L_Race_drawAll_3 a p1 (fun v4 m5 => J_Race_drawAll_61 a p2 x3 v4 m5) 1000 0 m
def J_Race_run_118 (a : Nat) (rec_75 : Int32 → gM → Option (gM)) (v3 : Int32) (v4 : Int32) (v5 : Int32) (v6 : Int32) (m3 : gM) : Option (gM) :=
  gok (gib v4 64) (glet (gst m3 (a + 17) v4 (v5 - v6)) fun (m4 : gM) => rec_75 (v3 + 1) m4)
def L_Race_run_75 (a : Nat) (x3 : Int32) : Nat → Int32 → gM → Option (gM) :=
  gfix (fun rec_75 v2 m2 =>
    if v2 < (gfd m2 a 4) then (gok (gib v2 6) ((f_Race_drills x3 v2 m2).bind fun (r1 : Int32 × gM) => if r1.1 = 0 then (J_Race_run_118 a rec_75 v2 ((x3 * 4) + v2) (grd m2 (a + 16) v2) 0 r1.2) else (J_Race_run_118 a rec_75 v2 ((x3 * 4) + v2) (grd m2 (a + 16) v2) (gfd r1.2 a 6) r1.2))) else (some m2)) (fun _ _ => none)
def J_Race_run_72 (a : Nat) (x3 : Int32) (v1 : Int32) (m1 : gM) : Option (gM) :=
  L_Race_run_75 a x3 1000 0 m1
def L_Race_run_25 (a : Nat) (p1 : Nat) (p2 : Nat) (x3 : Int32) (k_25 : Int32 → gM → Option (gM)) : Nat → Int32 → gM → Option (gM) :=
  gfix (fun rec_25 v7 m5 =>
    if v7 < (gfd m5 a 7) then ((f_Race_drawAll a (p1 + 17) p2 x3 m5).bind fun (r4 : gM) => (f_Currents_measure (a + 8) (a + 1) r4).bind fun (r5 : gM) => (f_Currents_movePool (a + 8) (a + 1) r5).bind fun (r6 : gM) => rec_25 (v7 + 1) r6) else (k_25 v7 m5)) (fun _ _ => none)
def f_Race_run (a : Nat) (p1 : Nat) (p2 : Nat) (x3 : Int32) (m : gM) : Option (gM) :=
  (f_Pool_copyFrom (a + 1) (p1 + 2) m).bind fun (r2 : gM) => (f_fill (a + 16) 6 0 r2).bind fun (r3 : gM) => L_Race_run_25 a p1 p2 x3 (fun v7 m5 => J_Race_run_72 a x3 v7 m5) 1000 0 r3
def L_Race_runAll_2 (a : Nat) (p1 : Nat) (p2 : Nat) : Nat → Int32 → gM → Option (gM) :=
  gfix (fun rec_2 v1 m1 =>
    if v1 < ((1 : Int32) <<< ((gfd m1 a 4) &&& 31)) then ((f_Race_run a p1 p2 v1 m1).bind fun (r1 : gM) => rec_2 (v1 + 1) r1) else (some m1)) (fun _ _ => none)
def f_Race_runAll (a : Nat) (p1 : Nat) (p2 : Nat) (m : gM) : Option (gM) :=
  L_Race_runAll_2 a p1 p2 1000 0 m
def f_Race_gainOf (a : Nat) (x1 : Int32) (x2 : Int32) (m : gM) : Option (Int32 × gM) :=
  gok (gib ((x1 * 4) + x2) 64) (some (grd m (a + 17) ((x1 * 4) + x2), m))
def L_Race_sumOf_4 (a : Nat) (x1 : Int32) : Nat → Int32 → Int32 → gM → Option (Int32 × gM) :=
  gfix (fun rec_4 v1 v2 m1 =>
    if v2 < (gfd m1 a 4) then ((f_Race_gainOf a x1 v2 m1).bind fun (r1 : Int32 × gM) => glet (v1 + r1.1) fun (v3 : Int32) => rec_4 v3 (v2 + 1) r1.2) else (some (v1, m1))) (fun _ _ _ => none)
def f_Race_sumOf (a : Nat) (x1 : Int32) (m : gM) : Option (Int32 × gM) :=
  L_Race_sumOf_4 a x1 1000 0 0 m
def L_Race_isSteady_2 (a : Nat) (x1 : Int32) : Nat → Int32 → gM → Option (Int32 × gM) :=
  gfix (fun rec_2 v1 m1 =>
    if v1 < (gfd m1 a 4) then ((f_Race_gainOf a (x1 ^^^ ((1 : Int32) <<< (v1 &&& 31))) v1 m1).bind fun (r1 : Int32 × gM) => (f_Race_gainOf a x1 v1 r1.2).bind fun (r2 : Int32 × gM) => if r2.1 < r1.1 then (some (0, r2.2)) else (rec_2 (v1 + 1) r2.2)) else (some (1, m1))) (fun _ _ => none)
def f_Race_isSteady (a : Nat) (x1 : Int32) (m : gM) : Option (Int32 × gM) :=
  L_Race_isSteady_2 a x1 1000 0 m
def J_Race_steadySets_25 (rec_4 : Int32 → Int32 → gM → Option (Int32 × gM)) (v3 : Int32) (v4 : Int32) (m2 : gM) : Option (Int32 × gM) :=
  rec_4 v3 (v4 + 1) m2
def L_Race_steadySets_4 (a : Nat) : Nat → Int32 → Int32 → gM → Option (Int32 × gM) :=
  gfix (fun rec_4 v1 v2 m1 =>
    if v2 < ((1 : Int32) <<< ((gfd m1 a 4) &&& 31)) then ((f_Race_isSteady a v2 m1).bind fun (r1 : Int32 × gM) => if r1.1 = 0 then (J_Race_steadySets_25 rec_4 v1 v2 r1.2) else (J_Race_steadySets_25 rec_4 (v1 + 1) v2 r1.2)) else (some (v1, m1))) (fun _ _ _ => none)
def f_Race_steadySets (a : Nat) (m : gM) : Option (Int32 × gM) :=
  L_Race_steadySets_4 a 1000 0 0 m
def L_Race_leastSteady_2 (a : Nat) : Nat → Int32 → gM → Option (Int32 × gM) :=
  gfix (fun rec_2 v1 m1 =>
    if v1 < ((1 : Int32) <<< ((gfd m1 a 4) &&& 31)) then ((f_Race_isSteady a v1 m1).bind fun (r1 : Int32 × gM) => if r1.1 = 0 then (rec_2 (v1 + 1) r1.2) else (some (v1, r1.2))) else (some ((-4), m1))) (fun _ _ => none)
def f_Race_leastSteady (a : Nat) (m : gM) : Option (Int32 × gM) :=
  L_Race_leastSteady_2 a 1000 0 m
def J_Race_richest_48 (rec_5 : Int32 → Int32 → gM → Option (Int32 × gM)) (v3 : Int32) (v4 : Int32) (m2 : gM) : Option (Int32 × gM) :=
  rec_5 v3 (v4 + 1) m2
def J_Race_richest_46 (rec_5 : Int32 → Int32 → gM → Option (Int32 × gM)) (v5 : Int32) (v6 : Int32) (m3 : gM) : Option (Int32 × gM) :=
  J_Race_richest_48 rec_5 v6 v6 m3
def J_Race_richest_27 (a : Nat) (rec_5 : Int32 → Int32 → gM → Option (Int32 × gM)) (v7 : Int32) (v8 : Int32) (m4 : gM) : Option (Int32 × gM) :=
  if v7 = (-4) then (J_Race_richest_46 rec_5 v7 v8 m4) else ((f_Race_sumOf a v8 m4).bind fun (r1 : Int32 × gM) => (f_Race_sumOf a v7 r1.2).bind fun (r2 : Int32 × gM) => if r2.1 < r1.1 then (J_Race_richest_46 rec_5 v7 v8 r2.2) else (J_Race_richest_48 rec_5 v7 v8 r2.2))
def L_Race_richest_5 (a : Nat) (x1 : Int32) : Nat → Int32 → Int32 → gM → Option (Int32 × gM) :=
  gfix (fun rec_5 v1 v2 m1 =>
    if v2 < ((1 : Int32) <<< ((gfd m1 a 4) &&& 31)) then (if x1 = 0 then (J_Race_richest_27 a rec_5 v1 v2 m1) else ((f_Race_isSteady a v2 m1).bind fun (r3 : Int32 × gM) => if r3.1 = 0 then (J_Race_richest_48 rec_5 v1 v2 r3.2) else (J_Race_richest_27 a rec_5 v1 v2 r3.2))) else (some (v1, m1))) (fun _ _ _ => none)
def f_Race_richest (a : Nat) (x1 : Int32) (m : gM) : Option (Int32 × gM) :=
  L_Race_richest_5 a x1 1000 (-4) 0 m
def J_Race_urgeOf_91 (v1 : Int32) (v2 : Int32) (v3 : Int32) (m1 : gM) : Option (Int32 × gM) :=
  if v1 = 0 then (if v2 = 0 then (some (0, m1)) else (some (1, m1))) else (some (2, m1))
def J_Race_urgeOf_85 (rec_7 : Int32 → Int32 → Int32 → gM → Option (Int32 × gM)) (v7 : Int32) (v8 : Int32) (v9 : Int32) (m3 : gM) : Option (Int32 × gM) :=
  rec_7 v7 v8 (v9 + 1) m3
def J_Race_urgeOf_84 (rec_7 : Int32 → Int32 → Int32 → gM → Option (Int32 × gM)) (v10 : Int32) (v11 : Int32) (v12 : Int32) (v13 : Int32) (m4 : gM) : Option (Int32 × gM) :=
  J_Race_urgeOf_85 rec_7 v10 v13 v12 m4
def J_Race_urgeOf_79 (rec_7 : Int32 → Int32 → Int32 → gM → Option (Int32 × gM)) (v14 : Int32) (v15 : Int32) (v16 : Int32) (m5 : gM) : Option (Int32 × gM) :=
  J_Race_urgeOf_84 rec_7 v14 v15 v16 1 m5
def J_Race_urgeOf_69 (rec_7 : Int32 → Int32 → Int32 → gM → Option (Int32 × gM)) (v17 : Int32) (v18 : Int32) (v19 : Int32) (v20 : Int32) (v21 : Int32) (m6 : gM) : Option (Int32 × gM) :=
  if v18 = 0 then (if 0 < v20 then (J_Race_urgeOf_79 rec_7 v21 v18 v19 m6) else (J_Race_urgeOf_84 rec_7 v21 v18 v19 0 m6)) else (J_Race_urgeOf_79 rec_7 v21 v18 v19 m6)
def J_Race_urgeOf_68 (rec_7 : Int32 → Int32 → Int32 → gM → Option (Int32 × gM)) (v22 : Int32) (v23 : Int32) (v24 : Int32) (v25 : Int32) (m7 : gM) : Option (Int32 × gM) :=
  J_Race_urgeOf_69 rec_7 v22 v23 v24 v25 0 m7
def L_Race_urgeOf_7 (a : Nat) (x1 : Int32) (k_7 : Int32 → Int32 → Int32 → gM → Option (Int32 × gM)) : Nat → Int32 → Int32 → Int32 → gM → Option (Int32 × gM) :=
  gfix (fun rec_7 v4 v5 v6 m2 =>
    if v6 < ((1 : Int32) <<< ((gfd m2 a 4) &&& 31)) then ((f_Race_drills v6 x1 m2).bind fun (r1 : Int32 × gM) => if r1.1 = 0 then ((f_Race_gainOf a (v6 ||| ((1 : Int32) <<< (x1 &&& 31))) x1 r1.2).bind fun (r2 : Int32 × gM) => (f_Race_gainOf a v6 x1 r2.2).bind fun (r3 : Int32 × gM) => glet (r2.1 - r3.1) fun (v26 : Int32) => if v26 < 0 then (some (0, r3.2)) else (if v4 = 0 then (J_Race_urgeOf_68 rec_7 v4 v5 v6 v26 r3.2) else (if 0 < v26 then (J_Race_urgeOf_69 rec_7 v4 v5 v6 v26 1 r3.2) else (J_Race_urgeOf_68 rec_7 v4 v5 v6 v26 r3.2)))) else (J_Race_urgeOf_85 rec_7 v4 v5 v6 r1.2)) else (k_7 v4 v5 v6 m2)) (fun _ _ _ _ => none)
def f_Race_urgeOf (a : Nat) (x1 : Int32) (m : gM) : Option (Int32 × gM) :=
  L_Race_urgeOf_7 a x1 (fun v4 v5 v6 m2 => J_Race_urgeOf_91 v4 v5 v6 m2) 1000 1 0 0 m
def f_Sheet_becomeNew (a : Nat) (x1 : Int32) (x2 : Int32) (m : gM) : Option (gM) :=
  glet (gsf m a 0 x1) fun (m1 : gM) => glet (gsf m1 a 1 x2) fun (m2 : gM) => (f_fill (a + 1) 72 0 m2).bind fun (r1 : gM) => some r1
def J_Sheet_put_31 (a : Nat) (v1 : Int32) (v2 : Int32) (m1 : gM) : Option (gM) :=
  gok (gib v1 72) (glet (gst m1 (a + 1) v1 v2) fun (m2 : gM) => some m2)
def f_Sheet_put (a : Nat) (x1 : Int32) (x2 : Int32) (m : gM) : Option (gM) :=
  if (gfd m a 0) = 0 then (J_Sheet_put_31 a x1 (Int8.toInt32 (Int32.toInt8 x2)) m) else (if (gfd m a 0) = 1 then (J_Sheet_put_31 a x1 (Int16.toInt32 (Int32.toInt16 x2)) m) else (J_Sheet_put_31 a x1 x2 m))
def J_Sheet_sumOf_53 (m : gM) (v1 : Int32) (v2 : Int32) : Option (Int32 × gM) :=
  some ((-100) - v2, m)
def L_Sheet_sumOf_5 (a : Nat) (x1 : Int32) (x2 : Int32) (m : gM) (k_5 : Int32 → Int32 → Option (Int32 × gM)) : Nat → Int32 → Int32 → Option (Int32 × gM) :=
  gfix (fun rec_5 v3 v4 =>
    if v4 < x2 then (if x1 < 0 then (some ((-12), m)) else (if x1 < ((gfd m a 1) - v4) then (gok (gib (x1 + v4) 72) (glet (grd m (a + 1) (x1 + v4)) fun (v5 : Int32) => if v5 < 0 then (k_5 v3 v4) else (if 999 < v5 then (k_5 v3 v4) else (rec_5 (v3 + v5) (v4 + 1))))) else (some ((-12), m)))) else (some (v3, m))) (fun _ _ => none)
def f_Sheet_sumOf (a : Nat) (x1 : Int32) (x2 : Int32) (m : gM) : Option (Int32 × gM) :=
  L_Sheet_sumOf_5 a x1 x2 m (fun v3 v4 => J_Sheet_sumOf_53 m v3 v4) 1000 0 0
def J_Tape_add_55 (a : Nat) (v1 : Int32) (m1 : gM) : Option (Int32 × gM) :=
  glet (gsf m1 a 0 ((gfd m1 a 0) + 8)) fun (m2 : gM) => some (gfd m2 a 0, m2)
def L_Tape_add_18 (a : Nat) (y1 : Int64) (k_18 : Int32 → gM → Option (Int32 × gM)) : Nat → Int32 → gM → Option (Int32 × gM) :=
  gfix (fun rec_18 v2 m3 =>
    if v2 < 8 then (gok (gib ((gfd m3 a 0) + v2) 160) (glet (gst m3 (a + 1) ((gfd m3 a 0) + v2) ((Int64.toInt32 (UInt64.toInt64 (Int64.toUInt64 y1 >>> (Int64.toUInt64 (Int32.toInt64 (56 - (8 * v2))) &&& Int64.toUInt64 63)))) &&& 255)) fun (m4 : gM) => rec_18 (v2 + 1) m4)) else (k_18 v2 m3)) (fun _ _ => none)
def f_Tape_add (a : Nat) (y1 : Int64) (m : gM) : Option (Int32 × gM) :=
  if 160 < ((gfd m a 0) + 8) then (some ((-3), m)) else (L_Tape_add_18 a y1 (fun v2 m3 => J_Tape_add_55 a v2 m3) 1000 0 m)
def f_Tape_isLetter (x0 : Int32) (m : gM) : Option (Int32 × gM) :=
  if x0 < 97 then (some (0, m)) else (if 122 < x0 then (some (0, m)) else (some (1, m)))
def f_Tape_nameOf (x0 : Int32) (m : gM) : Option (Nat × gM) :=
  gswo x0 [(0, some (0, m)), (1, some (1, m)), (2, some (2, m)), (3, some (3, m)), (4, some (4, m)), (5, some (5, m))] (some (6, m))
def L_Tape_isSpelt_20 (a : Nat) (j1 : Nat) (m : gM) : Nat → Int32 → Option (Int32 × gM) :=
  gfix (fun rec_20 v1 =>
    if v1 < (Int32.ofNat (gslen j1)) then (gok (gib ((gfd m a 7) + v1) 160) (gok (gib v1 (gslen j1)) (if (grd m (a + 1) ((gfd m a 7) + v1)) = (gsch j1 (Int32.toNatClampNeg v1)) then (rec_20 (v1 + 1)) else (some (0, m))))) else (some (1, m))) (fun _ => none)
def f_Tape_isSpelt (a : Nat) (j1 : Nat) (m : gM) : Option (Int32 × gM) :=
  if ((gfd m a 5) - (gfd m a 7)) = (Int32.ofNat (gslen j1)) then (L_Tape_isSpelt_20 a j1 m 1000 0) else (some (0, m))
def f_Tape_fail (a : Nat) (x1 : Int32) (m : gM) : Option (gM) :=
  if (gfd m a 3) = 0 then (glet (gsf m a 3 x1) fun (m1 : gM) => glet (gsf m1 a 4 (gfd m1 a 7)) fun (m2 : gM) => some m2) else (some m)
def J_Tape_readName_70 (a : Nat) (v1 : Int32) (m1 : gM) : Option (gM) :=
  (f_Tape_fail a 1 m1).bind fun (r1 : gM) => some r1
def J_Tape_readName_58 (a : Nat) (v2 : Int32) (m2 : gM) : Option (gM) :=
  glet (gsf m2 a 6 v2) fun (m3 : gM) => some m3
def L_Tape_readName_41 (a : Nat) (k_41 : Int32 → gM → Option (gM)) : Nat → Int32 → gM → Option (gM) :=
  gfix (fun rec_41 v3 m5 =>
    if 6 < v3 then (k_41 v3 m5) else ((f_Tape_nameOf v3 m5).bind fun (r2 : Nat × gM) => (f_Tape_isSpelt a r2.1 r2.2).bind fun (r3 : Int32 × gM) => if r3.1 = 0 then (rec_41 (v3 + 1) r3.2) else (J_Tape_readName_58 a v3 r3.2))) (fun _ _ => none)
def J_Tape_readName_39 (a : Nat) (m4 : gM) : Option (gM) :=
  L_Tape_readName_41 a (fun v3 m5 => J_Tape_readName_70 a v3 m5) 1000 0 m4
def L_Tape_readName_0 (a : Nat) (k_0 : gM → Option (gM)) : Nat → gM → Option (gM) :=
  gfix (fun rec_0 m6 =>
    if (gfd m6 a 5) < (gfd m6 a 0) then (gok (gib (gfd m6 a 5) 160) ((f_Tape_isLetter (grd m6 (a + 1) (gfd m6 a 5)) m6).bind fun (r4 : Int32 × gM) => if r4.1 = 0 then (k_0 r4.2) else (glet (gsf r4.2 a 5 ((gfd r4.2 a 5) + 1)) fun (m7 : gM) => rec_0 m7))) else (k_0 m6)) (fun _ => none)
def f_Tape_readName (a : Nat) (m : gM) : Option (gM) :=
  L_Tape_readName_0 a (fun m6 => J_Tape_readName_39 a m6) 1000 m
def f_Tape_isFigure (x0 : Int32) (m : gM) : Option (Int32 × gM) :=
  if x0 < 48 then (some (0, m)) else (if 57 < x0 then (some (0, m)) else (some (1, m)))
def J_Tape_readFigures_76 (a : Nat) (m1 : gM) : Option (gM) :=
  glet (gsf m1 a 6 7) fun (m2 : gM) => if 3 < ((gfd m2 a 5) - (gfd m2 a 7)) then ((f_Tape_fail a 1 m2).bind fun (r1 : gM) => some r1) else (some m2)
def J_Tape_readFigures_63 (a : Nat) (rec_0 : gM → Option (gM)) (m4 : gM) : Option (gM) :=
  glet (gsf m4 a 5 ((gfd m4 a 5) + 1)) fun (m5 : gM) => rec_0 m5
def L_Tape_readFigures_0 (a : Nat) (k_0 : gM → Option (gM)) : Nat → gM → Option (gM) :=
  gfix (fun rec_0 m3 =>
    if (gfd m3 a 5) < (gfd m3 a 0) then (gok (gib (gfd m3 a 5) 160) ((f_Tape_isFigure (grd m3 (a + 1) (gfd m3 a 5)) m3).bind fun (r2 : Int32 × gM) => if r2.1 = 0 then (k_0 r2.2) else (if ((gfd r2.2 a 5) - (gfd r2.2 a 7)) < 3 then (gok (gib (gfd r2.2 a 5) 160) (glet (gsf r2.2 a 8 ((((gfd r2.2 a 8) * 10) + (grd r2.2 (a + 1) (gfd r2.2 a 5))) - 48)) fun (m6 : gM) => J_Tape_readFigures_63 a rec_0 m6)) else (J_Tape_readFigures_63 a rec_0 r2.2)))) else (k_0 m3)) (fun _ => none)
def f_Tape_readFigures (a : Nat) (m : gM) : Option (gM) :=
  L_Tape_readFigures_0 a (fun m3 => J_Tape_readFigures_76 a m3) 1000 m
def J_Tape_nextToken_46 (a : Nat) (m1 : gM) : Option (gM) :=
  glet (gsf m1 a 7 (gfd m1 a 5)) fun (m2 : gM) => glet (gsf m2 a 8 0) fun (m3 : gM) => if (gfd m3 a 5) < (gfd m3 a 0) then (gok (gib (gfd m3 a 5) 160) ((f_Tape_isLetter (grd m3 (a + 1) (gfd m3 a 5)) m3).bind fun (r1 : Int32 × gM) => if r1.1 = 0 then (gok (gib (gfd r1.2 a 5) 160) ((f_Tape_isFigure (grd r1.2 (a + 1) (gfd r1.2 a 5)) r1.2).bind fun (r2 : Int32 × gM) => if r2.1 = 0 then (gok (gib (gfd r2.2 a 5) 160) (if (grd r2.2 (a + 1) (gfd r2.2 a 5)) = 59 then (glet (gsf r2.2 a 6 8) fun (m4 : gM) => glet (gsf m4 a 5 ((gfd m4 a 5) + 1)) fun (m5 : gM) => some m5) else ((f_Tape_fail a 1 r2.2).bind fun (r3 : gM) => some r3))) else ((f_Tape_readFigures a r2.2).bind fun (r4 : gM) => some r4))) else ((f_Tape_readName a r1.2).bind fun (r5 : gM) => some r5))) else (glet (gsf m3 a 6 9) fun (m6 : gM) => some m6)
def L_Tape_nextToken_8 (a : Nat) (k_8 : gM → Option (gM)) : Nat → gM → Option (gM) :=
  gfix (fun rec_8 m7 =>
    if (gfd m7 a 5) < (gfd m7 a 0) then (gok (gib (gfd m7 a 5) 160) (if (grd m7 (a + 1) (gfd m7 a 5)) = 32 then (glet (gsf m7 a 5 ((gfd m7 a 5) + 1)) fun (m8 : gM) => rec_8 m8) else (k_8 m7))) else (k_8 m7)) (fun _ => none)
def f_Tape_nextToken (a : Nat) (m : gM) : Option (gM) :=
  if (gfd m a 3) = 0 then (L_Tape_nextToken_8 a (fun m7 => J_Tape_nextToken_46 a m7) 1000 m) else (some m)
def f_Tape_checkNumber (a : Nat) (x1 : Int32) (m : gM) : Option (gM) :=
  if (gfd m a 6) = 7 then (if x1 < (gfd m a 8) then ((f_Tape_fail a 3 m).bind fun (r1 : gM) => some r1) else (some m)) else ((f_Tape_fail a 2 m).bind fun (r2 : gM) => some r2)
def J_Tape_readFrom_31 (a : Nat) (m1 : gM) : Option (Int32 × gM) :=
  if (gfd m1 a 3) = 0 then (if (gfd m1 a 6) = 6 then ((f_Tape_nextToken a m1).bind fun (r1 : gM) => (f_Tape_checkNumber a 49 r1).bind fun (r2 : gM) => glet (gfd r2 a 8) fun (v1 : Int32) => (f_Tape_nextToken a r2).bind fun (r3 : gM) => some (v1, r3)) else (some (0, m1))) else (some (0, m1))
def J_Tape_readFrom_14 (a : Nat) (m2 : gM) : Option (Int32 × gM) :=
  if (gfd m2 (a + 2) 0) < 12 then (J_Tape_readFrom_31 a m2) else ((f_Tape_fail a 4 m2).bind fun (r4 : gM) => J_Tape_readFrom_31 a r4)
def f_Tape_readFrom (a : Nat) (m : gM) : Option (Int32 × gM) :=
  if 6 < (gfd m a 6) then ((f_Tape_fail a 2 m).bind fun (r5 : gM) => J_Tape_readFrom_14 a r5) else (J_Tape_readFrom_14 a m)
def f_Tape_mostOf (x0 : Int32) (m : gM) : Option (Int32 × gM) :=
  gswo x0 [(0, some (9, m)), (1, some (9, m)), (5, some (5, m))] (some (999, m))
def J_Tape_readRule_105 (a : Nat) (x1 : Int32) (v1 : Int32) (v2 : Int32) (m1 : gM) : Option (gM) :=
  if (gfd m1 a 3) = 0 then ((f_Orders_add (a + 2) v1 x1 v2 m1).bind fun (r1 : gM) => (f_Tape_nextToken a r1).bind fun (r2 : gM) => some r2) else (some m1)
def J_Tape_readRule_91 (a : Nat) (x1 : Int32) (v3 : Int32) (v4 : Int32) (m2 : gM) : Option (gM) :=
  if (gfd m2 a 6) = 8 then (J_Tape_readRule_105 a x1 v3 v4 m2) else ((f_Tape_fail a 2 m2).bind fun (r3 : gM) => J_Tape_readRule_105 a x1 v3 v4 r3)
def J_Tape_readRule_87 (a : Nat) (x1 : Int32) (v5 : Int32) (v6 : Int32) (m3 : gM) : Option (gM) :=
  (f_Tape_nextToken a m3).bind fun (r4 : gM) => J_Tape_readRule_91 a x1 v5 v6 r4
def J_Tape_readRule_41 (a : Nat) (x1 : Int32) (v7 : Int32) (m4 : gM) : Option (gM) :=
  (f_Tape_nextToken a m4).bind fun (r5 : gM) => if v7 = 4 then (J_Tape_readRule_91 a x1 v7 0 r5) else ((f_Tape_mostOf v7 r5).bind fun (r6 : Int32 × gM) => (f_Tape_checkNumber a r6.1 r6.2).bind fun (r7 : gM) => glet (gfd r7 a 8) fun (v8 : Int32) => if v7 = 5 then ((f_Orders_tellsExcept (a + 2) v8 x1 r7).bind fun (r8 : Int32 × gM) => if r8.1 = 0 then (J_Tape_readRule_87 a x1 v7 v8 r8.2) else ((f_Tape_fail a 5 r8.2).bind fun (r9 : gM) => J_Tape_readRule_87 a x1 v7 v8 r9)) else (J_Tape_readRule_87 a x1 v7 v8 r7))
def J_Tape_readRule_14 (a : Nat) (x1 : Int32) (m5 : gM) : Option (gM) :=
  glet (gfd m5 a 6) fun (v9 : Int32) => if v9 = 5 then (J_Tape_readRule_41 a x1 v9 m5) else ((f_Orders_tells (a + 2) v9 x1 m5).bind fun (r10 : Int32 × gM) => if r10.1 = 0 then (J_Tape_readRule_41 a x1 v9 r10.2) else ((f_Tape_fail a 5 r10.2).bind fun (r11 : gM) => J_Tape_readRule_41 a x1 v9 r11))
def f_Tape_readRule (a : Nat) (x1 : Int32) (m : gM) : Option (gM) :=
  if (gfd m a 6) < 6 then (J_Tape_readRule_14 a x1 m) else ((f_Tape_fail a 2 m).bind fun (r12 : gM) => J_Tape_readRule_14 a x1 r12)
def L_Tape_read_29 (a : Nat) : Nat → Int32 → gM → Option (gM) :=
  gfix (fun rec_29 v1 m5 =>
    if 160 < v1 then (some m5) else (if (gfd m5 a 3) = 0 then (if (gfd m5 a 6) = 9 then (some m5) else ((f_Tape_readFrom a m5).bind fun (r2 : Int32 × gM) => (f_Tape_readRule a r2.1 r2.2).bind fun (r3 : gM) => rec_29 (v1 + 1) r3)) else (some m5))) (fun _ _ => none)
def f_Tape_read (a : Nat) (m : gM) : Option (gM) :=
  glet (gsf m (a + 2) 0 0) fun (m1 : gM) => glet (gsf m1 a 3 0) fun (m2 : gM) => glet (gsf m2 a 4 0) fun (m3 : gM) => glet (gsf m3 a 5 0) fun (m4 : gM) => (f_Tape_nextToken a m4).bind fun (r1 : gM) => L_Tape_read_29 a 1000 0 r1
def f_Wells_clear (a : Nat) (m : gM) : Option (gM) :=
  glet (gsf m a 0 0) fun (m1 : gM) => (f_fill (a + 5) 10 0 m1).bind fun (r1 : gM) => (f_fill (a + 6) 10 0 r1).bind fun (r2 : gM) => (f_fill (a + 7) 90 0 r2).bind fun (r3 : gM) => (f_fill (a + 8) 500 0 r3).bind fun (r4 : gM) => some r4
def f_Town_becomeNew (a : Nat) (x1 : Int32) (x2 : Int32) (m : gM) : Option (gM) :=
  (f_Ground_becomeNew (a + 1) x1 x2 m).bind fun (r1 : gM) => (f_Deeds_clear (a + 11) r1).bind fun (r2 : gM) => (f_Wells_clear (a + 17) r2).bind fun (r3 : gM) => (f_Books_clear (a + 26) r3).bind fun (r4 : gM) => glet (gsf r4 a 4 0) fun (m1 : gM) => some m1
def L_Wells_copyFrom_116 (a : Nat) (p1 : Nat) : Nat → Int32 → gM → Option (gM) :=
  gfix (fun rec_116 v1 m9 =>
    if v1 < 10 then (gok (gib v1 10) (gok (gib v1 10) (gzo (grd m9 (p1 + 4) v1) (glet (gst m9 (a + 4) v1 (grd m9 (p1 + 4) v1)) fun (m10 : gM) => rec_116 (v1 + 1) m10)))) else (some m9)) (fun _ _ => none)
def f_Wells_copyFrom (a : Nat) (p1 : Nat) (m : gM) : Option (gM) :=
  glet (gsf m a 0 (gfd m p1 0)) fun (m1 : gM) => glet (gcp m1 (p1 + 1) (a + 1) (Int32.toNatClampNeg 0) (Int32.toNatClampNeg 0) (Int32.toNatClampNeg 10)) fun (m2 : gM) => glet (gcp m2 (p1 + 2) (a + 2) (Int32.toNatClampNeg 0) (Int32.toNatClampNeg 0) (Int32.toNatClampNeg 10)) fun (m3 : gM) => glet (gcp m3 (p1 + 3) (a + 3) (Int32.toNatClampNeg 0) (Int32.toNatClampNeg 0) (Int32.toNatClampNeg 10)) fun (m4 : gM) => glet (gcp m4 (p1 + 5) (a + 5) (Int32.toNatClampNeg 0) (Int32.toNatClampNeg 0) (Int32.toNatClampNeg 10)) fun (m5 : gM) => glet (gcp m5 (p1 + 6) (a + 6) (Int32.toNatClampNeg 0) (Int32.toNatClampNeg 0) (Int32.toNatClampNeg 10)) fun (m6 : gM) => glet (gcp m6 (p1 + 7) (a + 7) (Int32.toNatClampNeg 0) (Int32.toNatClampNeg 0) (Int32.toNatClampNeg 90)) fun (m7 : gM) => glet (gcp m7 (p1 + 8) (a + 8) (Int32.toNatClampNeg 0) (Int32.toNatClampNeg 0) (Int32.toNatClampNeg 500)) fun (m8 : gM) => L_Wells_copyFrom_116 a p1 1000 0 m8
def f_Town_copyFrom (a : Nat) (p1 : Nat) (m : gM) : Option (gM) :=
  (f_Ground_copyFrom (a + 1) (p1 + 1) m).bind fun (r1 : gM) => (f_Deeds_copyFrom (a + 11) (p1 + 11) r1).bind fun (r2 : gM) => (f_Wells_copyFrom (a + 17) (p1 + 17) r2).bind fun (r3 : gM) => (f_Books_copyFrom (a + 26) (p1 + 26) r3).bind fun (r4 : gM) => glet (gsf r4 a 4 (gfd r4 p1 4)) fun (m1 : gM) => some m1
def J_Wells_noteDraw_66 (a : Nat) (x1 : Int32) (x4 : Int32) (v1 : Int32) (m1 : gM) : Option (gM) :=
  gok (gib x1 10) (gok (gib x1 10) (glet (gst m1 (a + 6) x1 ((grd m1 (a + 6) x1) + x4)) fun (m2 : gM) => some m2))
def L_Wells_noteDraw_3 (a : Nat) (x1 : Int32) (x2 : Int32) (p3 : Nat) (k_3 : Int32 → gM → Option (gM)) : Nat → Int32 → gM → Option (gM) :=
  gfix (fun rec_3 v2 m3 =>
    if v2 < 9 then (gok (gib x1 10) (gok (gib v2 9) (gok (gib x1 10) (glet (gst m3 (a + 5) x1 ((grd m3 (a + 5) x1) + (grd m3 p3 v2))) fun (m4 : gM) => gok (gib ((x1 * 9) + v2) 90) (gok (gib v2 9) (gok (gib ((x1 * 9) + v2) 90) (glet (gst m4 (a + 7) ((x1 * 9) + v2) ((grd m4 (a + 7) ((x1 * 9) + v2)) + (grd m4 p3 v2))) fun (m5 : gM) => gok (gib ((x1 * 50) + x2) 500) (gok (gib v2 9) (gok (gib ((x1 * 50) + x2) 500) (glet (gst m5 (a + 8) ((x1 * 50) + x2) ((grd m5 (a + 8) ((x1 * 50) + x2)) + (grd m5 p3 v2))) fun (m6 : gM) => rec_3 (v2 + 1) m6)))))))))) else (k_3 v2 m3)) (fun _ _ => none)
def f_Wells_noteDraw (a : Nat) (x1 : Int32) (x2 : Int32) (p3 : Nat) (x4 : Int32) (m : gM) : Option (gM) :=
  L_Wells_noteDraw_3 a x1 x2 p3 (fun v2 m3 => J_Wells_noteDraw_66 a x1 x4 v2 m3) 1000 0 m
def f_Town_drawBy (a : Nat) (x1 : Int32) (p2 : Nat) (m : gM) : Option (Int32 × gM) :=
  gok (gib x1 10) (glet (grd m (a + 19) x1) fun (v1 : Int32) => gok (gib x1 10) ((f_Pool_barrelsUnder (a + 2) v1 (grd m (a + 20) x1) m).bind fun (r1 : Int32 × gM) => (f_Pool_oilAmong (a + 2) v1 r1.1 r1.2).bind fun (r2 : Int32 × gM) => (f_Ground_take (a + 1) v1 r2.1 p2 r2.2).bind fun (r3 : gM) => gok (gib v1 36) (gok (gib v1 36) (glet (gst r3 (a + 7) v1 ((grd r3 (a + 7) v1) - (r1.1 - r2.1))) fun (m1 : gM) => (f_Town_shift a m1).bind fun (r4 : Int32 × gM) => (f_Wells_noteDraw (a + 17) x1 r4.1 p2 (r1.1 - r2.1) r4.2).bind fun (r5 : gM) => gok (gib x1 10) (gok (gib (grd r5 (a + 18) x1) 6) (gok (gib (grd r5 (a + 18) x1) 6) (glet (gst r5 (a + 27) (grd r5 (a + 18) x1) ((grd r5 (a + 27) (grd r5 (a + 18) x1)) + r2.1)) fun (m2 : gM) => some (r2.1, m2))))))))
def J_Town_letHourGo_45 (a : Nat) (p1 : Nat) (v1 : Int32) (v2 : Int32) (m1 : gM) : Option (Int32 × gM) :=
  (f_Currents_measure p1 (a + 2) m1).bind fun (r1 : gM) => (f_Currents_moveGround p1 (a + 1) r1).bind fun (r2 : gM) => glet (gsf r2 a 4 ((gfd r2 a 4) + 1)) fun (m2 : gM) => some (v1, m2)
def J_Town_letHourGo_39 (rec_4 : Int32 → Int32 → gM → Option (Int32 × gM)) (v5 : Int32) (v6 : Int32) (m4 : gM) : Option (Int32 × gM) :=
  rec_4 v5 (v6 + 1) m4
def L_Town_letHourGo_4 (a : Nat) (p1 : Nat) (k_4 : Int32 → Int32 → gM → Option (Int32 × gM)) : Nat → Int32 → Int32 → gM → Option (Int32 × gM) :=
  gfix (fun rec_4 v3 v4 m3 =>
    if v4 < (gfd m3 (a + 17) 0) then (gok (gib v4 10) (if (grd m3 (a + 21) v4) = 0 then (J_Town_letHourGo_39 rec_4 v3 v4 m3) else ((f_Town_drawBy a v4 (p1 + 1) m3).bind fun (r3 : Int32 × gM) => glet (v3 + r3.1) fun (v7 : Int32) => J_Town_letHourGo_39 rec_4 v7 v4 r3.2))) else (k_4 v3 v4 m3)) (fun _ _ _ => none)
def f_Town_letHourGo (a : Nat) (p1 : Nat) (m : gM) : Option (Int32 × gM) :=
  L_Town_letHourGo_4 a p1 (fun v3 v4 m3 => J_Town_letHourGo_45 a p1 v3 v4 m3) 1000 0 0 m
def f_Wells_add (a : Nat) (x1 : Int32) (x2 : Int32) (x3 : Int32) (m : gM) : Option (Int32 × gM) :=
  if (gfd m a 0) < 10 then (gok (gib (gfd m a 0) 10) (glet (gst m (a + 1) (gfd m a 0) x1) fun (m1 : gM) => gok (gib (gfd m1 a 0) 10) (glet (gst m1 (a + 2) (gfd m1 a 0) x2) fun (m2 : gM) => gok (gib (gfd m2 a 0) 10) (glet (gst m2 (a + 3) (gfd m2 a 0) x3) fun (m3 : gM) => gok (gib (gfd m3 a 0) 10) (gzo 1 (glet (gst m3 (a + 4) (gfd m3 a 0) 1) fun (m4 : gM) => glet (gsf m4 a 0 ((gfd m4 a 0) + 1)) fun (m5 : gM) => some ((gfd m5 a 0) - 1, m5))))))) else (some ((-3), m))
def J_Wells_sizeOf_25 (rec_4 : Int32 → Int32 → Option (Int32 × gM)) (v3 : Int32) (v4 : Int32) : Option (Int32 × gM) :=
  rec_4 v3 (v4 + 1)
def L_Wells_sizeOf_4 (a : Nat) (x1 : Int32) (m : gM) : Nat → Int32 → Int32 → Option (Int32 × gM) :=
  gfix (fun rec_4 v1 v2 =>
    if v2 < (gfd m a 0) then (gok (gib v2 10) (if (grd m (a + 1) v2) = x1 then (J_Wells_sizeOf_25 rec_4 (v1 + 1) v2) else (J_Wells_sizeOf_25 rec_4 v1 v2))) else (some (v1, m))) (fun _ _ => none)
def f_Wells_sizeOf (a : Nat) (x1 : Int32) (m : gM) : Option (Int32 × gM) :=
  L_Wells_sizeOf_4 a x1 m 1000 0 0
def J_Wells_oilOf_31 (rec_4 : Int32 → Int32 → Option (Int32 × gM)) (v3 : Int32) (v4 : Int32) : Option (Int32 × gM) :=
  rec_4 v3 (v4 + 1)
def L_Wells_oilOf_4 (a : Nat) (x1 : Int32) (m : gM) : Nat → Int32 → Int32 → Option (Int32 × gM) :=
  gfix (fun rec_4 v1 v2 =>
    if v2 < (gfd m a 0) then (gok (gib v2 10) (if (grd m (a + 1) v2) = x1 then (gok (gib v2 10) (glet (v1 + (grd m (a + 5) v2)) fun (v5 : Int32) => J_Wells_oilOf_31 rec_4 v5 v2)) else (J_Wells_oilOf_31 rec_4 v1 v2))) else (some (v1, m))) (fun _ _ => none)
def f_Wells_oilOf (a : Nat) (x1 : Int32) (m : gM) : Option (Int32 × gM) :=
  L_Wells_oilOf_4 a x1 m 1000 0 0
def J_Wells_oilOfLot_40 (rec_5 : Int32 → Int32 → Option (Int32 × gM)) (v3 : Int32) (v4 : Int32) : Option (Int32 × gM) :=
  rec_5 v3 (v4 + 1)
def L_Wells_oilOfLot_5 (a : Nat) (x1 : Int32) (x2 : Int32) (m : gM) : Nat → Int32 → Int32 → Option (Int32 × gM) :=
  gfix (fun rec_5 v1 v2 =>
    if v2 < (gfd m a 0) then (gok (gib v2 10) (if (grd m (a + 1) v2) = x1 then (gok (gib ((v2 * 9) + x2) 90) (glet (v1 + (grd m (a + 7) ((v2 * 9) + x2))) fun (v5 : Int32) => J_Wells_oilOfLot_40 rec_5 v5 v2)) else (J_Wells_oilOfLot_40 rec_5 v1 v2))) else (some (v1, m))) (fun _ _ => none)
def f_Wells_oilOfLot (a : Nat) (x1 : Int32) (x2 : Int32) (m : gM) : Option (Int32 × gM) :=
  L_Wells_oilOfLot_5 a x1 x2 m 1000 0 0
def f_OT_field (x1 : Int32) (x2 : Int32) (m : gM) : Option (Int32 × gM) :=
  if x1 < 1 then (some ((-1), m)) else (if 6 < x1 then (some ((-1), m)) else (if x2 < 1 then (some ((-1), m)) else (if 6 < x2 then (some ((-1), m)) else ((f_Town_becomeNew 1 x1 x2 m).bind fun (r1 : gM) => some (1, r1)))))
def f_OT_hasCell (x1 : Int32) (m : gM) : Option (Int32 × gM) :=
  (f_Pool_has 3 x1 m).bind fun (r1 : Int32 × gM) => gzo r1.1 (some (r1.1, r1.2))
def f_OT_within (x0 : Int32) (x1 : Int32) (m : gM) : Option (Int32 × gM) :=
  if x0 < 0 then (some (0, m)) else (if x1 < x0 then (some (0, m)) else (some (1, m)))
def f_OT_cell (x1 : Int32) (x2 : Int32) (x3 : Int32) (x4 : Int32) (x5 : Int32) (m : gM) : Option (Int32 × gM) :=
  (f_OT_hasCell x1 m).bind fun (r1 : Int32 × gM) => if r1.1 = 0 then (some ((-1), r1.2)) else ((f_OT_within x2 9 r1.2).bind fun (r2 : Int32 × gM) => if r2.1 = 0 then (some ((-1), r2.2)) else ((f_OT_within x3 999 r2.2).bind fun (r3 : Int32 × gM) => if r3.1 = 0 then (some ((-1), r3.2)) else ((f_OT_within x4 999 r3.2).bind fun (r4 : Int32 × gM) => if r4.1 = 0 then (some ((-1), r4.2)) else ((f_OT_within x5 999 r4.2).bind fun (r5 : Int32 × gM) => if r5.1 = 0 then (some ((-1), r5.2)) else (gok (gib x1 36) (glet (gst r5.2 6 x1 x2) fun (m1 : gM) => gok (gib x1 36) (glet (gst m1 7 x1 x3) fun (m2 : gM) => gok (gib x1 36) (glet (gst m2 8 x1 x4) fun (m3 : gM) => (f_Ground_tellOil 2 x1 x5 m3).bind fun (r6 : gM) => some (1, r6)))))))))
def f_OT_isLot (x0 : Int32) (m : gM) : Option (Int32 × gM) :=
  if x0 < 0 then (some (0, m)) else (if x0 < 8 then (some (1, m)) else (some (0, m)))
def J_OT_lay_23 (x1 : Int32) (x2 : Int32) (m1 : gM) : Option (Int32 × gM) :=
  gok (gib x1 36) (glet (grd m1 10 x1) fun (v1 : Int32) => gok (gib x1 36) (glet (gst m1 10 x1 x2) fun (m2 : gM) => some (v1, m2)))
def f_OT_lay (x1 : Int32) (x2 : Int32) (m : gM) : Option (Int32 × gM) :=
  (f_OT_hasCell x1 m).bind fun (r1 : Int32 × gM) => if r1.1 = 0 then (some ((-1), r1.2)) else (if x2 = (-4) then (J_OT_lay_23 x1 x2 r1.2) else ((f_OT_isLot x2 r1.2).bind fun (r2 : Int32 × gM) => if r2.1 = 0 then (some ((-1), r2.2)) else (J_OT_lay_23 x1 x2 r2.2)))
def f_OT_isByLot (x0 : Int32) (m : gM) : Option (Int32 × gM) :=
  if x0 < 10 then (some (0, m)) else (if x0 < 19 then (some (1, m)) else (some (0, m)))
def f_OT_cellOf (x1 : Int32) (x2 : Int32) (m : gM) : Option (Int32 × gM) :=
  (f_OT_hasCell x1 m).bind fun (r1 : Int32 × gM) => if r1.1 = 0 then (some ((-1), r1.2)) else (gswo x2 [(0, gok (gib x1 36) (some (grd r1.2 6 x1, r1.2))), (1, gok (gib x1 36) (some (grd r1.2 7 x1, r1.2))), (2, gok (gib x1 36) (some (grd r1.2 8 x1, r1.2))), (3, gok (gib x1 36) (some (grd r1.2 9 x1, r1.2))), (4, gok (gib x1 36) (some (grd r1.2 10 x1, r1.2))), (5, (f_Pool_push 3 x1 r1.2).bind fun (r2 : Int32 × gM) => some (r2.1, r2.2))] ((f_OT_isByLot x2 r1.2).bind fun (r3 : Int32 × gM) => if r3.1 = 0 then (some ((-1), r3.2)) else (gok (gib (((x1 * 9) + x2) - 10) 324) (some (grd r3.2 11 (((x1 * 9) + x2) - 10), r3.2)))))
def f_OT_hour  (m : gM) : Option (Int32 × gM) :=
  if (gfd m 1 4) < 199 then ((f_Town_letHourGo 1 46 m).bind fun (r1 : Int32 × gM) => some (r1.1, r1.2)) else (some ((-3), m))
def f_OT_person  (m : gM) : Option (Int32 × gM) :=
  if (gfd m 0 3) < 6 then (glet (gsf m 0 3 ((gfd m 0 3) + 1)) fun (m1 : gM) => some ((gfd m1 0 3) - 1, m1)) else (some ((-3), m))
def f_OT_isPerson (x1 : Int32) (m : gM) : Option (Int32 × gM) :=
  if x1 < 0 then (some (0, m)) else (if x1 < (gfd m 0 3) then (some (1, m)) else (some (0, m)))
def J_OT_owner_24 (x1 : Int32) (x2 : Int32) (m1 : gM) : Option (Int32 × gM) :=
  gok (gib x1 8) (glet (grd m1 13 x1) fun (v1 : Int32) => gok (gib x1 8) (glet (gst m1 13 x1 x2) fun (m2 : gM) => some (v1, m2)))
def f_OT_owner (x1 : Int32) (x2 : Int32) (m : gM) : Option (Int32 × gM) :=
  (f_OT_isLot x1 m).bind fun (r1 : Int32 × gM) => if r1.1 = 0 then (some ((-5), r1.2)) else (if x2 = (-4) then (J_OT_owner_24 x1 x2 r1.2) else ((f_OT_isPerson x2 r1.2).bind fun (r2 : Int32 × gM) => if r2.1 = 0 then (some ((-5), r2.2)) else (J_OT_owner_24 x1 x2 r2.2)))
def f_OT_lease (x1 : Int32) (x2 : Int32) (x3 : Int32) (x4 : Int32) (m : gM) : Option (Int32 × gM) :=
  (f_OT_isLot x1 m).bind fun (r1 : Int32 × gM) => if r1.1 = 0 then (some ((-1), r1.2)) else ((f_OT_isPerson x2 r1.2).bind fun (r2 : Int32 × gM) => if r2.1 = 0 then (some ((-1), r2.2)) else (if x3 < 1 then (some ((-1), r2.2)) else (if 199 < x3 then (some ((-1), r2.2)) else ((f_OT_within x4 999 r2.2).bind fun (r3 : Int32 × gM) => if r3.1 = 0 then (some ((-1), r3.2)) else ((f_Deeds_add 12 x1 x2 x3 x4 r3.2).bind fun (r4 : Int32 × gM) => some (r4.1, r4.2))))))
def f_OT_leaseOf (x1 : Int32) (x2 : Int32) (m : gM) : Option (Int32 × gM) :=
  if x1 < 0 then (some ((-1), m)) else (if x1 < (gfd m 12 1) then (gswo x2 [(0, gok (gib x1 12) (some (grd m 14 x1, m))), (1, gok (gib x1 12) (some (grd m 15 x1, m))), (2, gok (gib x1 12) (some (grd m 16 x1, m))), (3, gok (gib x1 12) (some (grd m 17 x1, m))), (4, (f_Town_hasEnded 1 x1 m).bind fun (r1 : Int32 × gM) => if r1.1 = 0 then (some (0, r1.2)) else (some (1, r1.2)))] (some ((-1), m))) else (some ((-1), m)))
def f_OT_holds (x1 : Int32) (m : gM) : Option (Int32 × gM) :=
  (f_OT_isLot x1 m).bind fun (r1 : Int32 × gM) => if r1.1 = 0 then (some ((-1), r1.2)) else ((f_Town_holderOf 1 x1 r1.2).bind fun (r2 : Int32 × gM) => some (r2.1, r2.2))
def f_OT_told (x1 : Int32) (x2 : Int32) (m : gM) : Option (Int32 × gM) :=
  (f_OT_isPerson x1 m).bind fun (r1 : Int32 × gM) => if r1.1 = 0 then (some ((-1), r1.2)) else (gswo x2 [(0, gok (gib x1 6) (some (grd r1.2 28 x1, r1.2))), (1, gok (gib x1 6) (some (grd r1.2 29 x1, r1.2))), (2, gok (gib x1 6) (some (grd r1.2 30 x1, r1.2))), (3, (f_Wells_sizeOf 18 x1 r1.2).bind fun (r2 : Int32 × gM) => some (r2.1, r2.2)), (4, (f_Wells_oilOf 18 x1 r1.2).bind fun (r3 : Int32 × gM) => some (r3.1, r3.2)), (5, (f_Orders_hotOfPerson 41 1 x1 r1.2).bind fun (r4 : Int32 × gM) => some (r4.1, r4.2)), (6, gok (gib x1 6) ((f_Wells_oilOf 18 x1 r1.2).bind fun (r5 : Int32 × gM) => (f_Orders_hotOfPerson 41 1 x1 r5.2).bind fun (r6 : Int32 × gM) => some (gmax 0 ((grd r1.2 29 x1) - (r5.1 - r6.1)), r6.2)))] ((f_OT_isByLot x2 r1.2).bind fun (r7 : Int32 × gM) => if r7.1 = 0 then (some ((-1), r7.2)) else ((f_Wells_oilOfLot 18 x1 (x2 - 10) r7.2).bind fun (r8 : Int32 × gM) => some (r8.1, r8.2))))
def f_OT_drill (x1 : Int32) (x2 : Int32) (x3 : Int32) (m : gM) : Option (Int32 × gM) :=
  (f_OT_isPerson x1 m).bind fun (r1 : Int32 × gM) => if r1.1 = 0 then (some ((-1), r1.2)) else ((f_OT_hasCell x2 r1.2).bind fun (r2 : Int32 × gM) => if r2.1 = 0 then (some ((-1), r2.2)) else ((f_OT_within x3 60 r2.2).bind fun (r3 : Int32 × gM) => if r3.1 = 0 then (some ((-1), r3.2)) else ((f_Orders_whyNot 41 1 x1 x2 r3.2).bind fun (r4 : Int32 × gM) => if r4.1 = 0 then ((f_Wells_add 18 x1 x2 x3 r4.2).bind fun (r5 : Int32 × gM) => some (r5.1, r5.2)) else (some ((-2), r4.2)))))
def f_OT_why (x1 : Int32) (x2 : Int32) (m : gM) : Option (Int32 × gM) :=
  (f_OT_isPerson x1 m).bind fun (r1 : Int32 × gM) => if r1.1 = 0 then (some ((-1), r1.2)) else ((f_OT_hasCell x2 r1.2).bind fun (r2 : Int32 × gM) => if r2.1 = 0 then (some ((-1), r2.2)) else ((f_Orders_whyNot 41 1 x1 x2 r2.2).bind fun (r3 : Int32 × gM) => some (r3.1, r3.2)))
def f_OT_isWell (x1 : Int32) (m : gM) : Option (Int32 × gM) :=
  if x1 < 0 then (some (0, m)) else (if x1 < (gfd m 18 0) then (some (1, m)) else (some (0, m)))
def f_OT_will (x1 : Int32) (x2 : Int32) (m : gM) : Option (Int32 × gM) :=
  (f_OT_isWell x1 m).bind fun (r1 : Int32 × gM) => if r1.1 = 0 then (some ((-1), r1.2)) else ((f_OT_within x2 60 r1.2).bind fun (r2 : Int32 × gM) => if r2.1 = 0 then (some ((-1), r2.2)) else (gok (gib x1 10) (glet (grd r2.2 21 x1) fun (v1 : Int32) => gok (gib x1 10) (glet (gst r2.2 21 x1 x2) fun (m1 : gM) => some (v1, m1)))))
def f_OT_open (x1 : Int32) (x2 : Int32) (m : gM) : Option (Int32 × gM) :=
  (f_OT_isWell x1 m).bind fun (r1 : Int32 × gM) => if r1.1 = 0 then (some ((-1), r1.2)) else (gok (gib x1 10) (glet (grd r1.2 22 x1) fun (v1 : Int32) => gok (gib x1 10) (gzo x2 (glet (gst r1.2 22 x1 x2) fun (m1 : gM) => if v1 = 0 then (some (0, m1)) else (some (1, m1))))))
def f_OT_wellOf (x1 : Int32) (x2 : Int32) (m : gM) : Option (Int32 × gM) :=
  (f_OT_isWell x1 m).bind fun (r1 : Int32 × gM) => if r1.1 = 0 then (some ((-1), r1.2)) else (gswo x2 [(0, gok (gib x1 10) (some (grd r1.2 19 x1, r1.2))), (1, gok (gib x1 10) (some (grd r1.2 20 x1, r1.2))), (2, gok (gib x1 10) (some (grd r1.2 21 x1, r1.2))), (3, gok (gib x1 10) (if (grd r1.2 22 x1) = 0 then (some (0, r1.2)) else (some (1, r1.2)))), (4, gok (gib x1 10) (some (grd r1.2 23 x1, r1.2))), (5, gok (gib x1 10) (some (grd r1.2 24 x1, r1.2))), (6, (f_Orders_hotOfWell 41 1 x1 r1.2).bind fun (r2 : Int32 × gM) => some (r2.1, r2.2))] ((f_OT_isByLot x2 r1.2).bind fun (r3 : Int32 × gM) => if r3.1 = 0 then (some ((-1), r3.2)) else (gok (gib (((x1 * 9) + x2) - 10) 90) (some (grd r3.2 25 (((x1 * 9) + x2) - 10), r3.2)))))
def f_OT_drew (x1 : Int32) (x2 : Int32) (x3 : Int32) (m : gM) : Option (Int32 × gM) :=
  (f_OT_isWell x1 m).bind fun (r1 : Int32 × gM) => if r1.1 = 0 then (some ((-1), r1.2)) else ((f_OT_within x2 49 r1.2).bind fun (r2 : Int32 × gM) => if r2.1 = 0 then (some ((-1), r2.2)) else (gswo x3 [(0, gok (gib ((x1 * 50) + x2) 500) (some (grd r2.2 26 ((x1 * 50) + x2), r2.2))), (1, (f_Orders_letOf 41 1 x1 x2 r2.2).bind fun (r3 : Int32 × gM) => some (r3.1, r3.2)), (2, (f_Orders_hotIn 41 1 x1 x2 r2.2).bind fun (r4 : Int32 × gM) => some (r4.1, r4.2))] (some ((-1), r2.2))))
def f_OT_sell (x1 : Int32) (x2 : Int32) (m : gM) : Option (Int32 × gM) :=
  (f_OT_isPerson x1 m).bind fun (r1 : Int32 × gM) => if r1.1 = 0 then (some ((-1), r1.2)) else (if x2 < 1 then (some ((-1), r1.2)) else (if 999 < x2 then (some ((-1), r1.2)) else (gok (gib x1 6) (if (grd r1.2 28 x1) < x2 then (some ((-2), r1.2)) else ((f_Town_shift 1 r1.2).bind fun (r2 : Int32 × gM) => (f_Books_sellAt 27 r2.1 x1 x2 r2.2).bind fun (r3 : Int32 × gM) => some (r3.1, r3.2))))))
def f_OT_price (x1 : Int32) (m : gM) : Option (Int32 × gM) :=
  (f_Town_shift 1 m).bind fun (r1 : Int32 × gM) => (f_OT_within x1 r1.1 r1.2).bind fun (r2 : Int32 × gM) => if r2.1 = 0 then (some ((-1), r2.2)) else ((f_Books_priceIn 27 x1 r2.2).bind fun (r3 : Int32 × gM) => some (r3.1, r3.2))
def f_OT_feed (y1 : Int64) (m : gM) : Option (Int32 × gM) :=
  (f_Tape_add 34 y1 m).bind fun (r1 : Int32 × gM) => some (r1.1, r1.2)
def f_OT_end (x1 : Int32) (m : gM) : Option (Int32 × gM) :=
  if x1 < 0 then (some ((-1), m)) else (if (gfd m 34 0) < x1 then (some ((-1), m)) else (glet (gfd m 34 0) fun (v1 : Int32) => glet (gsf m 34 0 x1) fun (m1 : gM) => some (v1, m1)))
def f_OT_orders  (m : gM) : Option (Int32 × gM) :=
  (f_Tape_read 34 m).bind fun (r1 : gM) => glet (gsf r1 34 0 0) fun (m1 : gM) => if (gfd m1 34 3) = 0 then ((f_Orders_copyFrom 41 36 m1).bind fun (r2 : gM) => some (gfd r2 41 0, r2)) else (some ((-10) - (gfd m1 34 4), m1))
def f_OT_fault  (m : gM) : Option (Int32 × gM) :=
  some (gfd m 34 3, m)
def f_OT_line (x1 : Int32) (x2 : Int32) (m : gM) : Option (Int32 × gM) :=
  if x1 < 0 then (some ((-1), m)) else (if x1 < (gfd m 41 0) then (gswo x2 [(0, gok (gib x1 12) (some (grd m 42 x1, m))), (1, gok (gib x1 12) (some (grd m 43 x1, m))), (2, gok (gib x1 12) (some (grd m 44 x1, m))), (3, gok (gib x1 12) (if (grd m 45 x1) = 0 then (some (0, m)) else (some (1, m))))] (some ((-1), m))) else (some ((-1), m)))
def f_OT_voids (x1 : Int32) (m : gM) : Option (Int32 × gM) :=
  if x1 < 0 then (some ((-100000), m)) else (if x1 < (gfd m 41 0) then (gok (gib x1 12) (if (grd m 45 x1) = 0 then ((f_Orders_hotOfAll 41 1 m).bind fun (r1 : Int32 × gM) => gok (gib x1 12) (gzo 1 (glet (gst r1.2 45 x1 1) fun (m1 : gM) => (f_Orders_hotOfAll 41 1 m1).bind fun (r2 : Int32 × gM) => some (r1.1 - r2.1, r2.2)))) else (some ((-100002), m)))) else (some ((-100000), m)))
def J_OT_lets_111 (rec_65 : Int32 → gM → Option (Int32 × gM)) (v2 : Int32) (v3 : Int32) (m3 : gM) : Option (Int32 × gM) :=
  if v3 = 0 then (some (v2, m3)) else (rec_65 (v2 + (-1)) m3)
def L_OT_lets_65 (x1 : Int32) (x2 : Int32) (x3 : Int32) (r2 : Int32 × gM) (r4 : Int32 × gM) : Nat → Int32 → gM → Option (Int32 × gM) :=
  gfix (fun rec_65 v1 m2 =>
    if v1 < 0 then (some ((-4), m2)) else (if x3 = 0 then ((f_Orders_whyNotUnder 41 1 x1 x2 v1 r4.1 m2).bind fun (r6 : Int32 × gM) => J_OT_lets_111 rec_65 v1 r6.1 r6.2) else ((f_Orders_whyNotUnder 41 1 x1 x2 r2.1 v1 m2).bind fun (r5 : Int32 × gM) => J_OT_lets_111 rec_65 v1 r5.1 r5.2))) (fun _ _ => none)
def J_OT_lets_27 (x1 : Int32) (x2 : Int32) (x3 : Int32) (m1 : gM) : Option (Int32 × gM) :=
  (f_Town_shift 1 m1).bind fun (r1 : Int32 × gM) => (f_Orders_numberIn 41 0 r1.1 r1.2).bind fun (r2 : Int32 × gM) => (f_Town_shift 1 r2.2).bind fun (r3 : Int32 × gM) => (f_Orders_numberIn 41 1 r3.1 r3.2).bind fun (r4 : Int32 × gM) => L_OT_lets_65 x1 x2 x3 r2 r4 1000 9 r4.2
def f_OT_lets (x1 : Int32) (x2 : Int32) (x3 : Int32) (m : gM) : Option (Int32 × gM) :=
  (f_OT_isPerson x1 m).bind fun (r7 : Int32 × gM) => if r7.1 = 0 then (some ((-1), r7.2)) else ((f_OT_hasCell x2 r7.2).bind fun (r8 : Int32 × gM) => if r8.1 = 0 then (some ((-1), r8.2)) else (if x3 = 0 then (J_OT_lets_27 x1 x2 x3 r8.2) else (if x3 = 1 then (J_OT_lets_27 x1 x2 x3 r8.2) else (some ((-1), r8.2)))))
def f_OT_spot (x1 : Int32) (x2 : Int32) (m : gM) : Option (Int32 × gM) :=
  (f_OT_isPerson x1 m).bind fun (r1 : Int32 × gM) => if r1.1 = 0 then (some ((-5), r1.2)) else ((f_OT_hasCell x2 r1.2).bind fun (r2 : Int32 × gM) => if r2.1 = 0 then (some ((-5), r2.2)) else (gok (gib x1 6) (glet (grd r2.2 33 x1) fun (v1 : Int32) => gok (gib x1 6) (glet (gst r2.2 33 x1 x2) fun (m1 : gM) => some (v1, m1)))))
def f_OT_isRace (x1 : Int32) (x2 : Int32) (x3 : Int32) (x4 : Int32) (m : gM) : Option (Int32 × gM) :=
  if x1 < 1 then (some (0, m)) else (if 4 < x1 then (some (0, m)) else (if (gfd m 0 3) < x1 then (some (0, m)) else ((f_OT_within x2 60 m).bind fun (r1 : Int32 × gM) => if r1.1 = 0 then (some (0, r1.2)) else ((f_OT_within x3 999 r1.2).bind fun (r2 : Int32 × gM) => if r2.1 = 0 then (some (0, r2.2)) else (if x4 < 1 then (some (0, r2.2)) else (if 24 < x4 then (some (0, r2.2)) else (some (1, r2.2))))))))
def L_OT_haveSpots_2 (x1 : Int32) : Nat → Int32 → gM → Option (Int32 × gM) :=
  gfix (fun rec_2 v1 m1 =>
    if v1 < x1 then (gok (gib v1 6) ((f_OT_hasCell (grd m1 33 v1) m1).bind fun (r1 : Int32 × gM) => if r1.1 = 0 then (some (0, r1.2)) else (rec_2 (v1 + 1) r1.2))) else (some (1, m1))) (fun _ _ => none)
def f_OT_haveSpots (x1 : Int32) (m : gM) : Option (Int32 × gM) :=
  L_OT_haveSpots_2 x1 1000 0 m
def f_OT_gain (x1 : Int32) (x2 : Int32) (x3 : Int32) (x4 : Int32) (x5 : Int32) (x6 : Int32) (m : gM) : Option (Int32 × gM) :=
  (f_OT_isRace x1 x2 x3 x4 m).bind fun (r1 : Int32 × gM) => if r1.1 = 0 then (some ((-100000), r1.2)) else (if x5 < 0 then (some ((-100000), r1.2)) else (if x5 < ((1 : Int32) <<< (x1 &&& 31)) then (if x6 < 0 then (some ((-100000), r1.2)) else (if x6 < x1 then ((f_OT_haveSpots x1 r1.2).bind fun (r2 : Int32 × gM) => if r2.1 = 0 then (some ((-100002), r2.2)) else ((f_Race_prepare 54 x1 x2 x3 x4 r2.2).bind fun (r3 : gM) => (f_Race_run 54 1 33 x5 r3).bind fun (r4 : gM) => (f_Race_gainOf 54 x5 x6 r4).bind fun (r5 : Int32 × gM) => some (r5.1, r5.2))) else (some ((-100000), r1.2)))) else (some ((-100000), r1.2))))
def f_OT_steady (x1 : Int32) (x2 : Int32) (x3 : Int32) (x4 : Int32) (x5 : Int32) (m : gM) : Option (Int32 × gM) :=
  (f_OT_isRace x1 x2 x3 x4 m).bind fun (r1 : Int32 × gM) => if r1.1 = 0 then (some ((-1), r1.2)) else (if x5 < 0 then (some ((-1), r1.2)) else (if 3 < x5 then (some ((-1), r1.2)) else ((f_OT_haveSpots x1 r1.2).bind fun (r2 : Int32 × gM) => if r2.1 = 0 then (some ((-2), r2.2)) else ((f_Race_prepare 54 x1 x2 x3 x4 r2.2).bind fun (r3 : gM) => (f_Race_runAll 54 1 33 r3).bind fun (r4 : gM) => gswo x5 [(0, (f_Race_steadySets 54 r4).bind fun (r5 : Int32 × gM) => some (r5.1, r5.2)), (1, (f_Race_leastSteady 54 r4).bind fun (r6 : Int32 × gM) => some (r6.1, r6.2)), (2, (f_Race_richest 54 1 r4).bind fun (r7 : Int32 × gM) => some (r7.1, r7.2))] ((f_Race_richest 54 0 r4).bind fun (r8 : Int32 × gM) => some (r8.1, r8.2))))))
def f_OT_must (x1 : Int32) (x2 : Int32) (x3 : Int32) (x4 : Int32) (x5 : Int32) (m : gM) : Option (Int32 × gM) :=
  (f_OT_isRace x1 x2 x3 x4 m).bind fun (r1 : Int32 × gM) => if r1.1 = 0 then (some ((-1), r1.2)) else (if x5 < 0 then (some ((-1), r1.2)) else (if x5 < x1 then ((f_OT_haveSpots x1 r1.2).bind fun (r2 : Int32 × gM) => if r2.1 = 0 then (some ((-2), r2.2)) else ((f_Race_prepare 54 x1 x2 x3 x4 r2.2).bind fun (r3 : gM) => (f_Race_runAll 54 1 33 r3).bind fun (r4 : gM) => (f_Race_urgeOf 54 x5 r4).bind fun (r5 : Int32 × gM) => some (r5.1, r5.2))) else (some ((-1), r1.2))))
def f_OT_isSheet (x0 : Int32) (m : gM) : Option (Int32 × gM) :=
  if x0 < 0 then (some (0, m)) else (if x0 < 4 then (some (1, m)) else (some (0, m)))
def f_OT_isLane (x0 : Int32) (m : gM) : Option (Int32 × gM) :=
  if x0 < 0 then (some (0, m)) else (if 2 < x0 then (some (0, m)) else (some (1, m)))
def f_OT_sheet (x1 : Int32) (x2 : Int32) (x3 : Int32) (m : gM) : Option (Int32 × gM) :=
  (f_OT_isSheet x1 m).bind fun (r1 : Int32 × gM) => if r1.1 = 0 then (some ((-1), r1.2)) else ((f_OT_isLane x2 r1.2).bind fun (r2 : Int32 × gM) => if r2.1 = 0 then (some ((-1), r2.2)) else (if 72 < x3 then (some ((-1), r2.2)) else (if x3 < 0 then (some ((-14), r2.2)) else (gok (gib x1 4) ((f_Sheet_becomeNew (73 + 2 * x1.toNatClampNeg) x2 x3 r2.2).bind fun (r3 : gM) => some (1, r3))))))
def f_OT_write (x1 : Int32) (x2 : Int32) (x3 : Int32) (m : gM) : Option (Int32 × gM) :=
  (f_OT_isSheet x1 m).bind fun (r1 : Int32 × gM) => if r1.1 = 0 then (some ((-1), r1.2)) else (gok (gib x1 4) (if (gfd r1.2 (73 + 2 * x1.toNatClampNeg) 0) = (-4) then (some ((-11), r1.2)) else (if x2 < 0 then (some ((-12), r1.2)) else (if x2 < (gfd r1.2 (73 + 2 * x1.toNatClampNeg) 1) then ((f_Sheet_put (73 + 2 * x1.toNatClampNeg) x2 x3 r1.2).bind fun (r2 : gM) => some (1, r2)) else (some ((-12), r1.2))))))
def L_OT_tellOilFrom_17 (p1 : Nat) (x2 : Int32) (v1 : Int32) : Nat → Int32 → gM → Option (gM) :=
  gfix (fun rec_17 v2 m1 =>
    if v2 < v1 then (gok (gib (x2 + v2) 72) ((f_Ground_tellOil 2 v2 (grd m1 (p1 + 1) (x2 + v2)) m1).bind fun (r1 : gM) => rec_17 (v2 + 1) r1)) else (some m1)) (fun _ _ => none)
def f_OT_tellOilFrom (p1 : Nat) (x2 : Int32) (m : gM) : Option (gM) :=
  glet (gfd m 3 2) fun (v1 : Int32) => L_OT_tellOilFrom_17 p1 x2 v1 1000 0 m
def f_OT_scan (x1 : Int32) (x2 : Int32) (x3 : Int32) (m : gM) : Option (Int32 × gM) :=
  (f_OT_isSheet x1 m).bind fun (r1 : Int32 × gM) => if r1.1 = 0 then (some ((-1), r1.2)) else ((f_OT_isLane x2 r1.2).bind fun (r2 : Int32 × gM) => if r2.1 = 0 then (some ((-1), r2.2)) else (gok (gib x1 4) (if (gfd r2.2 (73 + 2 * x1.toNatClampNeg) 0) = (-4) then (some ((-11), r2.2)) else (if (gfd r2.2 (73 + 2 * x1.toNatClampNeg) 0) = x2 then ((f_Sheet_sumOf (73 + 2 * x1.toNatClampNeg) x3 (gfd r2.2 3 2) r2.2).bind fun (r3 : Int32 × gM) => if r3.1 < 0 then (some (r3.1, r3.2)) else ((f_OT_tellOilFrom (73 + 2 * x1.toNatClampNeg) x3 r3.2).bind fun (r4 : gM) => some (r3.1, r4))) else (some ((-13), r2.2))))))
def f_OT_count (x1 : Int32) (m : gM) : Option (Int32 × gM) :=
  gswo x1 [(0, some (gfd m 3 2, m)), (1, (f_Pool_allOil 3 m).bind fun (r1 : Int32 × gM) => some (r1.1, r1.2)), (2, (f_Pool_allWater 3 m).bind fun (r2 : Int32 × gM) => some (r2.1, r2.2)), (3, some (gfd m 0 3, m)), (4, some (gfd m 12 1, m)), (5, some (gfd m 18 0, m)), (6, some (gfd m 41 0, m)), (7, some (gfd m 1 4, m)), (8, (f_Books_allInTanks 27 m).bind fun (r3 : Int32 × gM) => some (r3.1, r3.2)), (9, (f_Books_allSold 27 m).bind fun (r4 : Int32 × gM) => some (r4.1, r4.2)), (10, (f_Orders_hotOfAll 41 1 m).bind fun (r5 : Int32 × gM) => some (r5.1, r5.2)), (11, some (gfd m 0 2, m)), (12, some (gfd m 34 0, m)), (13, gok (gib 0 4) (if (gfd m 73 0) = (-4) then (some ((-4), m)) else (gok (gib 0 4) (some (gfd m 73 1, m)))))] (some ((-1), m))
def f_MO_in (y0 : Int64) (y2 : Int64) (y4 : Int64) (m : gM) : Option (Int32 × gM) :=
  if (lg_cmp y0 y2) < 0 then (some (0, m)) else (if 0 < (lg_cmp y0 y4) then (some (0, m)) else (some (1, m)))
def f_MO_cells  (m : gM) : Option (Int32 × gM) :=
  some ((gfd m 81 0) * (gfd m 81 1), m)
def f_MO_isCell (x1 : Int32) (m : gM) : Option (Int32 × gM) :=
  (f_MO_cells m).bind fun (r1 : Int32 × gM) => (f_MO_in (Int32.toInt64 x1) (Int32.toInt64 0) (Int32.toInt64 (r1.1 - 1)) r1.2).bind fun (r2 : Int32 × gM) => gzo r2.1 (some (r2.1, r2.2))
def f_MO_isLot (x0 : Int32) (m : gM) : Option (Int32 × gM) :=
  (f_MO_in (Int32.toInt64 x0) (Int32.toInt64 0) (Int32.toInt64 7) m).bind fun (r1 : Int32 × gM) => gzo r1.1 (some (r1.1, r1.2))
def f_MO_isPerson (x1 : Int32) (m : gM) : Option (Int32 × gM) :=
  (f_MO_in (Int32.toInt64 x1) (Int32.toInt64 0) (Int32.toInt64 ((gfd m 81 8) - 1)) m).bind fun (r1 : Int32 × gM) => gzo r1.1 (some (r1.1, r1.2))
def f_MO_isWell (x1 : Int32) (m : gM) : Option (Int32 × gM) :=
  (f_MO_in (Int32.toInt64 x1) (Int32.toInt64 0) (Int32.toInt64 ((gfd m 81 15) - 1)) m).bind fun (r1 : Int32 × gM) => gzo r1.1 (some (r1.1, r1.2))
def f_MO_shift  (m : gM) : Option (Int32 × gM) :=
  gnz 4 (some ((gfd m 81 2) / 4, m))
def L_MO_field_175  : Nat → Int32 → gM → Option (Int32 × gM) :=
  gfix (fun rec_175 v2 m2 =>
    if v2 < 50 then (gok (gib v2 50) (glet (gst m2 103 v2 0) fun (m3 : gM) => rec_175 (v2 + 1) m3)) else (some (1, m2))) (fun _ _ => none)
def J_MO_field_173 (v1 : Int32) (m1 : gM) : Option (Int32 × gM) :=
  L_MO_field_175 1000 0 m1
def L_MO_field_140  (k_140 : Int32 → gM → Option (Int32 × gM)) : Nat → Int32 → gM → Option (Int32 × gM) :=
  gfix (fun rec_140 v4 m5 =>
    if v4 < 6 then (gok (gib v4 6) (glet (gst m5 100 v4 0) fun (m6 : gM) => gok (gib v4 6) (glet (gst m6 101 v4 0) fun (m7 : gM) => gok (gib v4 6) (glet (gst m7 102 v4 0) fun (m8 : gM) => rec_140 (v4 + 1) m8)))) else (k_140 v4 m5)) (fun _ _ => none)
def J_MO_field_138 (v3 : Int32) (m4 : gM) : Option (Int32 × gM) :=
  L_MO_field_140 (fun v4 m5 => J_MO_field_173 v4 m5) 1000 0 m4
def L_MO_field_118  (k_118 : Int32 → gM → Option (Int32 × gM)) : Nat → Int32 → gM → Option (Int32 × gM) :=
  gfix (fun rec_118 v6 m10 =>
    if v6 < 8 then (gok (gib v6 8) (glet (gst m10 87 v6 (-4)) fun (m11 : gM) => rec_118 (v6 + 1) m11)) else (k_118 v6 m10)) (fun _ _ => none)
def J_MO_field_116 (v5 : Int32) (m9 : gM) : Option (Int32 × gM) :=
  L_MO_field_118 (fun v6 m10 => J_MO_field_138 v6 m10) 1000 0 m9
def L_MO_field_96  (k_96 : Int32 → gM → Option (Int32 × gM)) : Nat → Int32 → gM → Option (Int32 × gM) :=
  gfix (fun rec_96 v8 m13 =>
    if v8 < 324 then (gok (gib v8 324) (glet (gst m13 86 v8 0) fun (m14 : gM) => rec_96 (v8 + 1) m14)) else (k_96 v8 m13)) (fun _ _ => none)
def J_MO_field_94 (v7 : Int32) (m12 : gM) : Option (Int32 × gM) :=
  L_MO_field_96 (fun v8 m13 => J_MO_field_116 v8 m13) 1000 0 m12
def L_MO_field_53  (k_53 : Int32 → gM → Option (Int32 × gM)) : Nat → Int32 → gM → Option (Int32 × gM) :=
  gfix (fun rec_53 v9 m20 =>
    if v9 < 36 then (gok (gib v9 36) (glet (gst m20 82 v9 5) fun (m21 : gM) => gok (gib v9 36) (glet (gst m21 83 v9 0) fun (m22 : gM) => gok (gib v9 36) (glet (gst m22 84 v9 0) fun (m23 : gM) => gok (gib v9 36) (glet (gst m23 85 v9 (-4)) fun (m24 : gM) => rec_53 (v9 + 1) m24))))) else (k_53 v9 m20)) (fun _ _ => none)
def f_MO_field (x1 : Int32) (x2 : Int32) (m : gM) : Option (Int32 × gM) :=
  (f_MO_in (Int32.toInt64 x1) (Int32.toInt64 1) (Int32.toInt64 6) m).bind fun (r1 : Int32 × gM) => if r1.1 = 0 then (some ((-1), r1.2)) else ((f_MO_in (Int32.toInt64 x2) (Int32.toInt64 1) (Int32.toInt64 6) r1.2).bind fun (r2 : Int32 × gM) => if r2.1 = 0 then (some ((-1), r2.2)) else (glet (gsf r2.2 81 0 x1) fun (m15 : gM) => glet (gsf m15 81 1 x2) fun (m16 : gM) => glet (gsf m16 81 2 0) fun (m17 : gM) => glet (gsf m17 81 10 0) fun (m18 : gM) => glet (gsf m18 81 15 0) fun (m19 : gM) => L_MO_field_53 (fun v9 m20 => J_MO_field_94 v9 m20) 1000 0 m19))
def J_MO_putOil_56 (x2 : Int32) (v1 : Int32) (v2 : Int32) (m1 : gM) : Option (gM) :=
  gok (gib (v1 + v2) 324) (glet (gst m1 86 (v1 + v2) x2) fun (m2 : gM) => some m2)
def J_MO_putOil_26 (x1 : Int32) (x2 : Int32) (v3 : Int32) (m3 : gM) : Option (gM) :=
  gok (gib x1 36) (if (grd m3 85 x1) = (-4) then (J_MO_putOil_56 x2 (9 * x1) 8 m3) else (gok (gib x1 36) (J_MO_putOil_56 x2 (9 * x1) (grd m3 85 x1) m3)))
def L_MO_putOil_2 (x1 : Int32) (k_2 : Int32 → gM → Option (gM)) : Nat → Int32 → gM → Option (gM) :=
  gfix (fun rec_2 v4 m4 =>
    if v4 < 9 then (gok (gib ((9 * x1) + v4) 324) (glet (gst m4 86 ((9 * x1) + v4) 0) fun (m5 : gM) => rec_2 (v4 + 1) m5)) else (k_2 v4 m4)) (fun _ _ => none)
def f_MO_putOil (x1 : Int32) (x2 : Int32) (m : gM) : Option (gM) :=
  L_MO_putOil_2 x1 (fun v4 m4 => J_MO_putOil_26 x1 x2 v4 m4) 1000 0 m
def L_MO_oilOf_4 (x1 : Int32) (m : gM) : Nat → Int32 → Int32 → Option (Int32 × gM) :=
  gfix (fun rec_4 v1 v2 =>
    if v2 < 9 then (gok (gib ((9 * x1) + v2) 324) (glet (v1 + (grd m 86 ((9 * x1) + v2))) fun (v3 : Int32) => rec_4 v3 (v2 + 1))) else (some (v1, m))) (fun _ _ => none)
def f_MO_oilOf (x1 : Int32) (m : gM) : Option (Int32 × gM) :=
  L_MO_oilOf_4 x1 m 1000 0 0
def f_MO_cell (x1 : Int32) (x2 : Int32) (x3 : Int32) (x4 : Int32) (x5 : Int32) (m : gM) : Option (Int32 × gM) :=
  (f_MO_isCell x1 m).bind fun (r1 : Int32 × gM) => if r1.1 = 0 then (some ((-1), r1.2)) else ((f_MO_in (Int32.toInt64 x2) (Int32.toInt64 0) (Int32.toInt64 9) r1.2).bind fun (r2 : Int32 × gM) => if r2.1 = 0 then (some ((-1), r2.2)) else ((f_MO_in (Int32.toInt64 x3) (Int32.toInt64 0) (Int32.toInt64 999) r2.2).bind fun (r3 : Int32 × gM) => if r3.1 = 0 then (some ((-1), r3.2)) else ((f_MO_in (Int32.toInt64 x4) (Int32.toInt64 0) (Int32.toInt64 999) r3.2).bind fun (r4 : Int32 × gM) => if r4.1 = 0 then (some ((-1), r4.2)) else ((f_MO_in (Int32.toInt64 x5) (Int32.toInt64 0) (Int32.toInt64 999) r4.2).bind fun (r5 : Int32 × gM) => if r5.1 = 0 then (some ((-1), r5.2)) else (gok (gib x1 36) (glet (gst r5.2 82 x1 x2) fun (m1 : gM) => gok (gib x1 36) (glet (gst m1 83 x1 x3) fun (m2 : gM) => gok (gib x1 36) (glet (gst m2 84 x1 x4) fun (m3 : gM) => (f_MO_putOil x1 x5 m3).bind fun (r6 : gM) => some (1, r6)))))))))
def J_MO_lay_23 (x1 : Int32) (x2 : Int32) (m1 : gM) : Option (Int32 × gM) :=
  gok (gib x1 36) (glet (grd m1 85 x1) fun (v1 : Int32) => gok (gib x1 36) (glet (gst m1 85 x1 x2) fun (m2 : gM) => some (v1, m2)))
def f_MO_lay (x1 : Int32) (x2 : Int32) (m : gM) : Option (Int32 × gM) :=
  (f_MO_isCell x1 m).bind fun (r1 : Int32 × gM) => if r1.1 = 0 then (some ((-1), r1.2)) else ((f_MO_isLot x2 r1.2).bind fun (r2 : Int32 × gM) => if r2.1 = 0 then (if x2 = (-4) then (J_MO_lay_23 x1 x2 r2.2) else (some ((-1), r2.2))) else (J_MO_lay_23 x1 x2 r2.2))
def f_MO_pushOf (x1 : Int32) (m : gM) : Option (Int32 × gM) :=
  (f_MO_oilOf x1 m).bind fun (r1 : Int32 × gM) => gok (gib x1 36) (gok (gib x1 36) (some ((r1.1 + (grd r1.2 84 x1)) + (grd r1.2 83 x1), r1.2)))
def f_MO_cellOf (x1 : Int32) (x2 : Int32) (m : gM) : Option (Int32 × gM) :=
  (f_MO_isCell x1 m).bind fun (r1 : Int32 × gM) => if r1.1 = 0 then (some ((-1), r1.2)) else ((f_MO_in (Int32.toInt64 x2) (Int32.toInt64 10) (Int32.toInt64 18) r1.2).bind fun (r2 : Int32 × gM) => if r2.1 = 0 then (gswo x2 [(0, gok (gib x1 36) (some (grd r2.2 82 x1, r2.2))), (1, gok (gib x1 36) (some (grd r2.2 83 x1, r2.2))), (2, gok (gib x1 36) (some (grd r2.2 84 x1, r2.2))), (3, (f_MO_oilOf x1 r2.2).bind fun (r3 : Int32 × gM) => some (r3.1, r3.2)), (4, gok (gib x1 36) (some (grd r2.2 85 x1, r2.2))), (5, (f_MO_pushOf x1 r2.2).bind fun (r4 : Int32 × gM) => some (r4.1, r4.2))] (some ((-1), r2.2))) else (gok (gib (((9 * x1) + x2) - 10) 324) (some (grd r2.2 86 (((9 * x1) + x2) - 10), r2.2))))
def L_MO_take_128 (x1 : Int32) : Nat → Int32 → gM → Option (gM) :=
  gfix (fun rec_128 v1 m2 =>
    if v1 < 9 then (gok (gib ((9 * x1) + v1) 324) (gok (gib v1 9) (gok (gib ((9 * x1) + v1) 324) (glet (gst m2 86 ((9 * x1) + v1) ((grd m2 86 ((9 * x1) + v1)) - (grd m2 105 v1))) fun (m3 : gM) => rec_128 (v1 + 1) m3)))) else (some m2)) (fun _ _ => none)
def J_MO_take_125 (x1 : Int32) (m1 : gM) : Option (gM) :=
  L_MO_take_128 x1 1000 0 m1
def J_MO_take_119 (rec_71 : Int32 → Int32 → gM → Option (gM)) (v7 : Int32) (v8 : Int32) (m6 : gM) : Option (gM) :=
  rec_71 v7 (v8 + 1) m6
def L_MO_take_71 (x1 : Int32) (k_71 : Int32 → Int32 → gM → Option (gM)) : Nat → Int32 → Int32 → gM → Option (gM) :=
  gfix (fun rec_71 v5 v6 m5 =>
    if v6 < 9 then (if 0 < v5 then (gok (gib ((9 * x1) + v6) 324) (gok (gib v6 9) (if (grd m5 105 v6) < (grd m5 86 ((9 * x1) + v6)) then (gok (gib v6 9) (gok (gib v6 9) (glet (gst m5 105 v6 ((grd m5 105 v6) + 1)) fun (m7 : gM) => J_MO_take_119 rec_71 (v5 + (-1)) v6 m7))) else (J_MO_take_119 rec_71 v5 v6 m5)))) else (k_71 v5 v6 m5)) else (k_71 v5 v6 m5)) (fun _ _ _ => none)
def J_MO_take_68 (x1 : Int32) (v2 : Int32) (v3 : Int32) (v4 : Int32) (m4 : gM) : Option (gM) :=
  L_MO_take_71 x1 (fun v5 v6 m5 => J_MO_take_125 x1 m5) 1000 v3 0 m4
def J_MO_take_49 (rec_12 : Int32 → Int32 → gM → Option (gM)) (v11 : Int32) (v12 : Int32) (v13 : Int32) (v14 : Int32) (m9 : gM) : Option (gM) :=
  gok (gib v13 9) (glet (gst m9 105 v13 v14) fun (m10 : gM) => gok (gib v12 9) (glet (v11 - (grd m10 105 v12)) fun (v15 : Int32) => rec_12 v15 (v12 + 1) m10))
def L_MO_take_12 (x1 : Int32) (x2 : Int32) (r1 : Int32 × gM) (k_12 : Int32 → Int32 → gM → Option (gM)) : Nat → Int32 → Int32 → gM → Option (gM) :=
  gfix (fun rec_12 v9 v10 m8 =>
    if v10 < 9 then (if r1.1 = 0 then (J_MO_take_49 rec_12 v9 v10 v10 0 m8) else (gok (gib ((9 * x1) + v10) 324) (gnz r1.1 (J_MO_take_49 rec_12 v9 v10 v10 ((x2 * (grd m8 86 ((9 * x1) + v10))) / r1.1) m8)))) else (k_12 v9 v10 m8)) (fun _ _ _ => none)
def f_MO_take (x1 : Int32) (x2 : Int32) (m : gM) : Option (gM) :=
  (f_MO_oilOf x1 m).bind fun (r1 : Int32 × gM) => L_MO_take_12 x1 x2 r1 (fun v9 v10 m8 => J_MO_take_68 x1 r1.1 v9 v10 m8) 1000 x2 0 r1.2
def J_MO_draws_209 (rec_4 : Int32 → Int32 → gM → Option (Int32 × gM)) (v3 : Int32) (v4 : Int32) (m2 : gM) : Option (Int32 × gM) :=
  rec_4 v3 (v4 + 1) m2
def J_MO_draws_169 (rec_4 : Int32 → Int32 → gM → Option (Int32 × gM)) (v5 : Int32) (v6 : Int32) (v7 : Int32) (v8 : Int32) (v9 : Int32) (v10 : Int32) (v11 : Int32) (m3 : gM) : Option (Int32 × gM) :=
  (f_MO_shift m3).bind fun (r1 : Int32 × gM) => gok (gib ((60 * v6) + r1.1) 840) (gok (gib ((60 * v6) + r1.1) 840) (glet (gst r1.2 99 ((60 * v6) + r1.1) ((grd r1.2 99 ((60 * v6) + r1.1)) + v10)) fun (m4 : gM) => gok (gib v6 14) (gok (gib (grd m4 92 v6) 6) (gok (gib (grd m4 92 v6) 6) (glet (gst m4 100 (grd m4 92 v6) ((grd m4 100 (grd m4 92 v6)) + v10)) fun (m5 : gM) => glet (v5 + v10) fun (v12 : Int32) => J_MO_draws_209 rec_4 v12 v6 m5)))))
def L_MO_draws_134 (v14 : Int32) (k_134 : Int32 → gM → Option (Int32 × gM)) : Nat → Int32 → gM → Option (Int32 × gM) :=
  gfix (fun rec_134 v19 m10 =>
    if v19 < 9 then (gok (gib ((9 * v14) + v19) 126) (gok (gib v19 9) (gok (gib ((9 * v14) + v19) 126) (glet (gst m10 98 ((9 * v14) + v19) ((grd m10 98 ((9 * v14) + v19)) + (grd m10 105 v19))) fun (m11 : gM) => rec_134 (v19 + 1) m11)))) else (k_134 v19 m10)) (fun _ _ => none)
def J_MO_draws_55 (rec_4 : Int32 → Int32 → gM → Option (Int32 × gM)) (v13 : Int32) (v14 : Int32) (v15 : Int32) (v16 : Int32) (v17 : Int32) (m6 : gM) : Option (Int32 × gM) :=
  gok (gib v14 14) (if (grd m6 95 v14) = 1 then (if 0 < v17 then ((f_MO_oilOf v15 m6).bind fun (r2 : Int32 × gM) => gnz v16 (glet ((v17 * r2.1) / v16) fun (v18 : Int32) => (f_MO_take v15 v18 r2.2).bind fun (r3 : gM) => gok (gib v15 36) (gok (gib v15 36) (glet (gst r3 84 v15 ((grd r3 84 v15) - (v17 - v18))) fun (m7 : gM) => gok (gib v14 14) (gok (gib v14 14) (glet (gst m7 97 v14 ((grd m7 97 v14) + (v17 - v18))) fun (m8 : gM) => gok (gib v14 14) (gok (gib v14 14) (glet (gst m8 96 v14 ((grd m8 96 v14) + v18)) fun (m9 : gM) => L_MO_draws_134 v14 (fun v19 m10 => J_MO_draws_169 rec_4 v13 v14 v15 v16 v17 v18 v19 m10) 1000 0 m9)))))))) else (J_MO_draws_209 rec_4 v13 v14 m6)) else (J_MO_draws_209 rec_4 v13 v14 m6))
def L_MO_draws_4  : Nat → Int32 → Int32 → gM → Option (Int32 × gM) :=
  gfix (fun rec_4 v1 v2 m1 =>
    if v2 < (gfd m1 81 15) then (gok (gib v2 14) (glet (grd m1 93 v2) fun (v20 : Int32) => (f_MO_oilOf v20 m1).bind fun (r4 : Int32 × gM) => gok (gib v20 36) (glet (r4.1 + (grd r4.2 84 v20)) fun (v21 : Int32) => gok (gib v2 14) (if (grd r4.2 94 v2) < v21 then (gok (gib v2 14) (J_MO_draws_55 rec_4 v1 v2 v20 v21 (grd r4.2 94 v2) r4.2)) else (J_MO_draws_55 rec_4 v1 v2 v20 v21 v21 r4.2))))) else (some (v1, m1))) (fun _ _ _ => none)
def f_MO_draws  (m : gM) : Option (Int32 × gM) :=
  L_MO_draws_4 1000 0 0 m
def J_MO_beside_51 (v1 : Int32) (v2 : Int32) (v3 : Int32) (m1 : gM) : Option (Int32 × gM) :=
  (f_MO_in (Int32.toInt64 v1) (Int32.toInt64 0) (Int32.toInt64 ((gfd m1 81 0) - 1)) m1).bind fun (r1 : Int32 × gM) => if r1.1 = 0 then (some ((-4), r1.2)) else ((f_MO_in (Int32.toInt64 (v2 + v3)) (Int32.toInt64 0) (Int32.toInt64 ((gfd r1.2 81 1) - 1)) r1.2).bind fun (r2 : Int32 × gM) => if r2.1 = 0 then (some ((-4), r2.2)) else (some (((gfd r2.2 81 0) * (v2 + v3)) + v1, r2.2)))
def J_MO_beside_24 (x1 : Int32) (x2 : Int32) (v4 : Int32) (v5 : Int32) (m2 : gM) : Option (Int32 × gM) :=
  gnz (gfd m2 81 0) (if x2 = 2 then (J_MO_beside_51 (v4 + v5) (x1 / (gfd m2 81 0)) (-1) m2) else (if x2 = 3 then (J_MO_beside_51 (v4 + v5) (x1 / (gfd m2 81 0)) 1 m2) else (J_MO_beside_51 (v4 + v5) (x1 / (gfd m2 81 0)) 0 m2)))
def f_MO_beside (x1 : Int32) (x2 : Int32) (m : gM) : Option (Int32 × gM) :=
  gnz (gfd m 81 0) (if x2 = 0 then (J_MO_beside_24 x1 x2 (x1 - x1 / (gfd m 81 0) * (gfd m 81 0)) (-1) m) else (if x2 = 1 then (J_MO_beside_24 x1 x2 (x1 - x1 / (gfd m 81 0) * (gfd m 81 0)) 1 m) else (J_MO_beside_24 x1 x2 (x1 - x1 / (gfd m 81 0) * (gfd m 81 0)) 0 m)))
def J_MO_wantOf_60 (x1 : Int32) (v1 : Int32) (v2 : Int32) (m1 : gM) : Option (Int32 × gM) :=
  gok (gib x1 36) (gok (gib v1 36) (gnz 40 (some ((((grd m1 106 x1) - (grd m1 106 v1)) * v2) / 40, m1))))
def f_MO_wantOf (x1 : Int32) (x2 : Int32) (m : gM) : Option (Int32 × gM) :=
  (f_MO_beside x1 x2 m).bind fun (r1 : Int32 × gM) => if r1.1 = (-4) then (some (0, r1.2)) else (gok (gib r1.1 36) (gok (gib x1 36) (if (grd r1.2 106 r1.1) < (grd r1.2 106 x1) then (gok (gib x1 36) (gok (gib r1.1 36) (if (grd r1.2 82 x1) < (grd r1.2 82 r1.1) then (gok (gib x1 36) (J_MO_wantOf_60 x1 r1.1 (grd r1.2 82 x1) r1.2)) else (gok (gib r1.1 36) (J_MO_wantOf_60 x1 r1.1 (grd r1.2 82 r1.1) r1.2))))) else (some (0, r1.2)))))
def J_MO_flowOf_201 (rec_58 : Int32 → gM → Option (gM)) (v5 : Int32) (m3 : gM) : Option (gM) :=
  rec_58 (v5 + 1) m3
def J_MO_flowOf_178 (x1 : Int32) (rec_58 : Int32 → gM → Option (gM)) (v6 : Int32) (v7 : Int32) (v8 : Int32) (v9 : Int32) (v10 : Int32) (m4 : gM) : Option (gM) :=
  gok (gib x1 36) (gok (gib x1 36) (glet (gst m4 84 x1 ((grd m4 84 x1) - v9)) fun (m5 : gM) => gok (gib v8 36) (gok (gib v8 36) (glet (gst m5 110 v8 ((grd m5 110 v8) + v9)) fun (m6 : gM) => J_MO_flowOf_201 rec_58 v6 m6))))
def L_MO_flowOf_142 (r1 : Int32 × gM) (k_142 : Int32 → gM → Option (gM)) : Nat → Int32 → gM → Option (gM) :=
  gfix (fun rec_142 v14 m8 =>
    if v14 < 9 then (gok (gib ((9 * r1.1) + v14) 324) (gok (gib v14 9) (gok (gib ((9 * r1.1) + v14) 324) (glet (gst m8 109 ((9 * r1.1) + v14) ((grd m8 109 ((9 * r1.1) + v14)) + (grd m8 105 v14))) fun (m9 : gM) => rec_142 (v14 + 1) m9)))) else (k_142 v14 m8)) (fun _ _ => none)
def J_MO_flowOf_90 (x1 : Int32) (v1 : Int32) (rec_58 : Int32 → gM → Option (gM)) (v11 : Int32) (v12 : Int32) (m7 : gM) : Option (gM) :=
  if 0 < v12 then (if 0 < v1 then ((f_MO_beside x1 v11 m7).bind fun (r1 : Int32 × gM) => gok (gib x1 36) (gnz v1 (glet ((v12 * (grd r1.2 108 x1)) / v1) fun (v13 : Int32) => gok (gib x1 36) (gnz v1 ((f_MO_take x1 ((v12 * (grd r1.2 107 x1)) / v1) r1.2).bind fun (r2 : gM) => L_MO_flowOf_142 r1 (fun v14 m8 => J_MO_flowOf_178 x1 rec_58 v11 v12 r1.1 v13 v14 m8) 1000 0 r2))))) else (J_MO_flowOf_201 rec_58 v11 m7)) else (J_MO_flowOf_201 rec_58 v11 m7)
def L_MO_flowOf_58 (x1 : Int32) (v1 : Int32) (v2 : Int32) : Nat → Int32 → gM → Option (gM) :=
  gfix (fun rec_58 v4 m2 =>
    if v4 < 4 then (if v1 < v2 then (gok (gib v4 4) (gnz v2 (J_MO_flowOf_90 x1 v1 rec_58 v4 (((grd m2 111 v4) * v1) / v2) m2))) else (gok (gib v4 4) (J_MO_flowOf_90 x1 v1 rec_58 v4 (grd m2 111 v4) m2))) else (some m2)) (fun _ _ => none)
def J_MO_flowOf_55 (x1 : Int32) (v1 : Int32) (v2 : Int32) (v3 : Int32) (m1 : gM) : Option (gM) :=
  L_MO_flowOf_58 x1 v1 v2 1000 0 m1
def L_MO_flowOf_19 (x1 : Int32) (k_19 : Int32 → Int32 → gM → Option (gM)) : Nat → Int32 → Int32 → gM → Option (gM) :=
  gfix (fun rec_19 v16 v17 m10 =>
    if v17 < 4 then ((f_MO_wantOf x1 v17 m10).bind fun (r3 : Int32 × gM) => gok (gib v17 4) (glet (gst r3.2 111 v17 r3.1) fun (m11 : gM) => gok (gib v17 4) (glet (v16 + (grd m11 111 v17)) fun (v18 : Int32) => rec_19 v18 (v17 + 1) m11))) else (k_19 v16 v17 m10)) (fun _ _ _ => none)
def f_MO_flowOf (x1 : Int32) (m : gM) : Option (gM) :=
  gok (gib x1 36) (gok (gib x1 36) (glet ((grd m 107 x1) + (grd m 108 x1)) fun (v15 : Int32) => L_MO_flowOf_19 x1 (fun v16 v17 m10 => J_MO_flowOf_55 x1 v15 v16 v17 m10) 1000 0 0 m))
def J_MO_flows_168 (rec_106 : Int32 → gM → Option (gM)) (v3 : Int32) (v4 : Int32) (m3 : gM) : Option (gM) :=
  rec_106 (v3 + 1) m3
def L_MO_flows_131 (v2 : Int32) (k_131 : Int32 → gM → Option (gM)) : Nat → Int32 → gM → Option (gM) :=
  gfix (fun rec_131 v5 m5 =>
    if v5 < 9 then (gok (gib ((9 * v2) + v5) 324) (gok (gib ((9 * v2) + v5) 324) (gok (gib ((9 * v2) + v5) 324) (glet (gst m5 86 ((9 * v2) + v5) ((grd m5 86 ((9 * v2) + v5)) + (grd m5 109 ((9 * v2) + v5)))) fun (m6 : gM) => rec_131 (v5 + 1) m6)))) else (k_131 v5 m5)) (fun _ _ => none)
def L_MO_flows_106  : Nat → Int32 → gM → Option (gM) :=
  gfix (fun rec_106 v2 m2 =>
    (f_MO_cells m2).bind fun (r1 : Int32 × gM) => if v2 < r1.1 then (gok (gib v2 36) (gok (gib v2 36) (gok (gib v2 36) (glet (gst r1.2 84 v2 ((grd r1.2 84 v2) + (grd r1.2 110 v2))) fun (m4 : gM) => L_MO_flows_131 v2 (fun v5 m5 => J_MO_flows_168 rec_106 v2 v5 m5) 1000 0 m4)))) else (some r1.2)) (fun _ _ => none)
def J_MO_flows_104 (v1 : Int32) (m1 : gM) : Option (gM) :=
  L_MO_flows_106 1000 0 m1
def L_MO_flows_85  (k_85 : Int32 → gM → Option (gM)) : Nat → Int32 → gM → Option (gM) :=
  gfix (fun rec_85 v7 m8 =>
    (f_MO_cells m8).bind fun (r2 : Int32 × gM) => if v7 < r2.1 then ((f_MO_flowOf v7 r2.2).bind fun (r3 : gM) => rec_85 (v7 + 1) r3) else (k_85 v7 r2.2)) (fun _ _ => none)
def J_MO_flows_83 (v6 : Int32) (m7 : gM) : Option (gM) :=
  L_MO_flows_85 (fun v7 m8 => J_MO_flows_104 v7 m8) 1000 0 m7
def J_MO_flows_77 (rec_2 : Int32 → gM → Option (gM)) (v9 : Int32) (v10 : Int32) (m10 : gM) : Option (gM) :=
  rec_2 (v9 + 1) m10
def L_MO_flows_53 (v8 : Int32) (k_53 : Int32 → gM → Option (gM)) : Nat → Int32 → gM → Option (gM) :=
  gfix (fun rec_53 v11 m15 =>
    if v11 < 9 then (gok (gib ((9 * v8) + v11) 324) (glet (gst m15 109 ((9 * v8) + v11) 0) fun (m16 : gM) => rec_53 (v11 + 1) m16)) else (k_53 v11 m15)) (fun _ _ => none)
def L_MO_flows_2  (k_2 : Int32 → gM → Option (gM)) : Nat → Int32 → gM → Option (gM) :=
  gfix (fun rec_2 v8 m9 =>
    (f_MO_cells m9).bind fun (r4 : Int32 × gM) => if v8 < r4.1 then ((f_MO_pushOf v8 r4.2).bind fun (r5 : Int32 × gM) => gok (gib v8 36) (glet (gst r5.2 106 v8 r5.1) fun (m11 : gM) => (f_MO_oilOf v8 m11).bind fun (r6 : Int32 × gM) => gok (gib v8 36) (glet (gst r6.2 107 v8 r6.1) fun (m12 : gM) => gok (gib v8 36) (gok (gib v8 36) (glet (gst m12 108 v8 (grd m12 84 v8)) fun (m13 : gM) => gok (gib v8 36) (glet (gst m13 110 v8 0) fun (m14 : gM) => L_MO_flows_53 v8 (fun v11 m15 => J_MO_flows_77 rec_2 v8 v11 m15) 1000 0 m14)))))) else (k_2 v8 r4.2)) (fun _ _ => none)
def f_MO_flows  (m : gM) : Option (gM) :=
  L_MO_flows_2 (fun v8 m9 => J_MO_flows_83 v8 m9) 1000 0 m
def f_MO_step  (m : gM) : Option (Int32 × gM) :=
  (f_MO_draws m).bind fun (r1 : Int32 × gM) => (f_MO_flows r1.2).bind fun (r2 : gM) => glet (gsf r2 81 2 ((gfd r2 81 2) + 1)) fun (m1 : gM) => some (r1.1, m1)
def f_MO_hour  (m : gM) : Option (Int32 × gM) :=
  if (gfd m 81 2) = 199 then (some ((-3), m)) else ((f_MO_step m).bind fun (r1 : Int32 × gM) => some (r1.1, r1.2))
def f_MO_person  (m : gM) : Option (Int32 × gM) :=
  if (gfd m 81 8) = 6 then (some ((-3), m)) else (glet (gsf m 81 8 ((gfd m 81 8) + 1)) fun (m1 : gM) => some ((gfd m1 81 8) - 1, m1))
def J_MO_owner_24 (x1 : Int32) (x2 : Int32) (m1 : gM) : Option (Int32 × gM) :=
  gok (gib x1 8) (glet (grd m1 87 x1) fun (v1 : Int32) => gok (gib x1 8) (glet (gst m1 87 x1 x2) fun (m2 : gM) => some (v1, m2)))
def f_MO_owner (x1 : Int32) (x2 : Int32) (m : gM) : Option (Int32 × gM) :=
  (f_MO_isLot x1 m).bind fun (r1 : Int32 × gM) => if r1.1 = 0 then (some ((-5), r1.2)) else ((f_MO_isPerson x2 r1.2).bind fun (r2 : Int32 × gM) => if r2.1 = 0 then (if x2 = (-4) then (J_MO_owner_24 x1 x2 r2.2) else (some ((-5), r2.2))) else (J_MO_owner_24 x1 x2 r2.2))
def f_MO_lease (x1 : Int32) (x2 : Int32) (x3 : Int32) (x4 : Int32) (m : gM) : Option (Int32 × gM) :=
  (f_MO_isLot x1 m).bind fun (r1 : Int32 × gM) => if r1.1 = 0 then (some ((-1), r1.2)) else ((f_MO_isPerson x2 r1.2).bind fun (r2 : Int32 × gM) => if r2.1 = 0 then (some ((-1), r2.2)) else ((f_MO_in (Int32.toInt64 x3) (Int32.toInt64 1) (Int32.toInt64 199) r2.2).bind fun (r3 : Int32 × gM) => if r3.1 = 0 then (some ((-1), r3.2)) else ((f_MO_in (Int32.toInt64 x4) (Int32.toInt64 0) (Int32.toInt64 999) r3.2).bind fun (r4 : Int32 × gM) => if r4.1 = 0 then (some ((-1), r4.2)) else (if (gfd r4.2 81 10) = 12 then (some ((-3), r4.2)) else (gok (gib (gfd r4.2 81 10) 12) (glet (gst r4.2 88 (gfd r4.2 81 10) x1) fun (m1 : gM) => gok (gib (gfd m1 81 10) 12) (glet (gst m1 89 (gfd m1 81 10) x2) fun (m2 : gM) => gok (gib (gfd m2 81 10) 12) (glet (gst m2 90 (gfd m2 81 10) x3) fun (m3 : gM) => gok (gib (gfd m3 81 10) 12) (glet (gst m3 91 (gfd m3 81 10) x4) fun (m4 : gM) => glet (gsf m4 81 10 ((gfd m4 81 10) + 1)) fun (m5 : gM) => some ((gfd m5 81 10) - 1, m5))))))))))
def J_MO_hasEnded_73 (rec_21 : Int32 → Int32 → Option (Int32 × gM)) (v4 : Int32) (v5 : Int32) (v6 : Int32) : Option (Int32 × gM) :=
  rec_21 v6 (v5 + 1)
def J_MO_hasEnded_72 (rec_21 : Int32 → Int32 → Option (Int32 × gM)) (v7 : Int32) (v8 : Int32) : Option (Int32 × gM) :=
  J_MO_hasEnded_73 rec_21 v7 v8 0
def J_MO_hasEnded_68 (rec_21 : Int32 → Int32 → Option (Int32 × gM)) (v9 : Int32) (v10 : Int32) : Option (Int32 × gM) :=
  J_MO_hasEnded_73 rec_21 v9 v10 1
def L_MO_hasEnded_21 (x1 : Int32) (m : gM) : Nat → Int32 → Int32 → Option (Int32 × gM) :=
  gfix (fun rec_21 v2 v3 =>
    if v3 < (gfd m 81 15) then (if v2 = 0 then (J_MO_hasEnded_72 rec_21 v2 v3) else (gok (gib v3 14) (gok (gib x1 12) (if (grd m 92 v3) = (grd m 89 x1) then (gok (gib v3 14) (gok (gib (grd m 93 v3) 36) (gok (gib x1 12) (if (grd m 85 (grd m 93 v3)) = (grd m 88 x1) then (J_MO_hasEnded_72 rec_21 v2 v3) else (J_MO_hasEnded_68 rec_21 v2 v3))))) else (J_MO_hasEnded_68 rec_21 v2 v3))))) else (gzo v2 (some (v2, m)))) (fun _ _ => none)
def J_MO_hasEnded_18 (x1 : Int32) (m : gM) (v1 : Int32) : Option (Int32 × gM) :=
  L_MO_hasEnded_21 x1 m 1000 v1 0
def f_MO_hasEnded (x1 : Int32) (m : gM) : Option (Int32 × gM) :=
  gok (gib x1 12) (if (gfd m 81 2) < (grd m 90 x1) then (J_MO_hasEnded_18 x1 m 0) else (J_MO_hasEnded_18 x1 m 1))
def f_MO_leaseOf (x1 : Int32) (x2 : Int32) (m : gM) : Option (Int32 × gM) :=
  (f_MO_in (Int32.toInt64 x1) (Int32.toInt64 0) (Int32.toInt64 ((gfd m 81 10) - 1)) m).bind fun (r1 : Int32 × gM) => if r1.1 = 0 then (some ((-1), r1.2)) else (gswo x2 [(0, gok (gib x1 12) (some (grd r1.2 88 x1, r1.2))), (1, gok (gib x1 12) (some (grd r1.2 89 x1, r1.2))), (2, gok (gib x1 12) (some (grd r1.2 90 x1, r1.2))), (3, gok (gib x1 12) (some (grd r1.2 91 x1, r1.2))), (4, (f_MO_hasEnded x1 r1.2).bind fun (r2 : Int32 × gM) => if r2.1 = 0 then (some (0, r2.2)) else (some (1, r2.2)))] (some ((-1), r1.2)))
def J_MO_holderOf_60 (x1 : Int32) (v1 : Int32) (v2 : Int32) (m1 : gM) : Option (Int32 × gM) :=
  if v1 = (-4) then (gok (gib x1 8) (some (grd m1 87 x1, m1))) else (gok (gib v1 12) (some (grd m1 89 v1, m1)))
def J_MO_holderOf_54 (rec_5 : Int32 → Int32 → gM → Option (Int32 × gM)) (v5 : Int32) (v6 : Int32) (m3 : gM) : Option (Int32 × gM) :=
  rec_5 v5 (v6 + 1) m3
def J_MO_holderOf_52 (rec_5 : Int32 → Int32 → gM → Option (Int32 × gM)) (v7 : Int32) (v8 : Int32) (m4 : gM) : Option (Int32 × gM) :=
  J_MO_holderOf_54 rec_5 v8 v8 m4
def L_MO_holderOf_5 (x1 : Int32) (k_5 : Int32 → Int32 → gM → Option (Int32 × gM)) : Nat → Int32 → Int32 → gM → Option (Int32 × gM) :=
  gfix (fun rec_5 v3 v4 m2 =>
    if v4 < (gfd m2 81 10) then (gok (gib v4 12) (if (grd m2 88 v4) = x1 then ((f_MO_hasEnded v4 m2).bind fun (r1 : Int32 × gM) => if r1.1 = 0 then (if v3 = (-4) then (J_MO_holderOf_52 rec_5 v3 v4 r1.2) else (gok (gib v4 12) (gok (gib v3 12) (if (grd r1.2 91 v4) < (grd r1.2 91 v3) then (J_MO_holderOf_52 rec_5 v3 v4 r1.2) else (J_MO_holderOf_54 rec_5 v3 v4 r1.2))))) else (J_MO_holderOf_54 rec_5 v3 v4 r1.2)) else (J_MO_holderOf_54 rec_5 v3 v4 m2))) else (k_5 v3 v4 m2)) (fun _ _ _ => none)
def f_MO_holderOf (x1 : Int32) (m : gM) : Option (Int32 × gM) :=
  L_MO_holderOf_5 x1 (fun v3 v4 m2 => J_MO_holderOf_60 x1 v3 v4 m2) 1000 (-4) 0 m
def f_MO_holds (x1 : Int32) (m : gM) : Option (Int32 × gM) :=
  (f_MO_isLot x1 m).bind fun (r1 : Int32 × gM) => if r1.1 = 0 then (some ((-1), r1.2)) else ((f_MO_holderOf x1 r1.2).bind fun (r2 : Int32 × gM) => some (r2.1, r2.2))
def J_MO_lineAt_72 (rec_6 : Int32 → Int32 → Option (Int32 × gM)) (v3 : Int32) (v4 : Int32) : Option (Int32 × gM) :=
  rec_6 v3 (v4 + 1)
def J_MO_lineAt_69 (rec_6 : Int32 → Int32 → Option (Int32 × gM)) (v5 : Int32) (v6 : Int32) : Option (Int32 × gM) :=
  J_MO_lineAt_72 rec_6 v6 v6
def L_MO_lineAt_6 (x1 : Int32) (x2 : Int32) (m : gM) : Nat → Int32 → Int32 → Option (Int32 × gM) :=
  gfix (fun rec_6 v1 v2 =>
    if v2 < (gfd m 81 48) then (gok (gib v2 12) (if (grd m 116 v2) = x1 then (gok (gib v2 12) (if (grd m 119 v2) = 0 then (gok (gib v2 12) (if x2 < (grd m 117 v2) then (J_MO_lineAt_72 rec_6 v1 v2) else (if v1 = (-4) then (J_MO_lineAt_69 rec_6 v1 v2) else (gok (gib v2 12) (gok (gib v1 12) (if (grd m 117 v1) < (grd m 117 v2) then (J_MO_lineAt_69 rec_6 v1 v2) else (J_MO_lineAt_72 rec_6 v1 v2))))))) else (J_MO_lineAt_72 rec_6 v1 v2))) else (J_MO_lineAt_72 rec_6 v1 v2))) else (some (v1, m))) (fun _ _ => none)
def f_MO_lineAt (x1 : Int32) (x2 : Int32) (m : gM) : Option (Int32 × gM) :=
  L_MO_lineAt_6 x1 x2 m 1000 (-4) 0
def J_MO_letOf_205 (v1 : Int32) (m1 : gM) : Option (Int32 × gM) :=
  some (v1, m1)
def J_MO_letOf_198 (v2 : Int32) (v3 : Int32) (v4 : Int32) (v5 : Int32) (m2 : gM) : Option (Int32 × gM) :=
  J_MO_letOf_205 v5 m2
def J_MO_letOf_182 (v6 : Int32) (v7 : Int32) (v8 : Int32) (v9 : Int32) (m3 : gM) : Option (Int32 × gM) :=
  if v8 = (-4) then (J_MO_letOf_198 v6 v7 v8 v9 m3) else (if v9 < v8 then (J_MO_letOf_198 v6 v7 v8 v9 m3) else (J_MO_letOf_205 v8 m3))
def J_MO_letOf_158 (v10 : Int32) (v11 : Int32) (v12 : Int32) (v13 : Int32) (v14 : Int32) (v15 : Int32) (v16 : Int32) (m4 : gM) : Option (Int32 × gM) :=
  if v13 = (-4) then (J_MO_letOf_182 v10 v11 v12 0 m4) else (gok (gib v11 12) (gnz v15 (J_MO_letOf_182 v10 v11 v12 (((grd m4 118 v11) * v14) / v15) m4)))
def J_MO_letOf_149 (rec_116 : Int32 → Int32 → Option (Int32 × gM)) (v26 : Int32) (v27 : Int32) (v28 : Int32) (v29 : Int32) : Option (Int32 × gM) :=
  glet (v28 + v29) fun (v30 : Int32) => rec_116 v30 (v27 + 1)
def L_MO_letOf_116 (v20 : Int32) (m5 : gM) (k_116 : Int32 → Int32 → Option (Int32 × gM)) : Nat → Int32 → Int32 → Option (Int32 × gM) :=
  gfix (fun rec_116 v24 v25 =>
    if v25 < (gfd m5 81 15) then (gok (gib v25 14) (gok (gib (grd m5 93 v25) 36) (if (grd m5 85 (grd m5 93 v25)) = v20 then (J_MO_letOf_149 rec_116 v24 v25 v24 1) else (J_MO_letOf_149 rec_116 v24 v25 v24 0)))) else (k_116 v24 v25)) (fun _ _ => none)
def J_MO_letOf_113 (v17 : Int32) (v18 : Int32) (v19 : Int32) (v20 : Int32) (v21 : Int32) (v22 : Int32) (v23 : Int32) (m5 : gM) : Option (Int32 × gM) :=
  L_MO_letOf_116 v20 m5 (fun v24 v25 => J_MO_letOf_158 v17 v18 v19 v20 v21 v24 v25 m5) 1000 v22 0
def J_MO_letOf_104 (rec_76 : Int32 → Int32 → gM → Option (Int32 × gM)) (v37 : Int32) (v38 : Int32) (v39 : Int32) (v40 : Int32) (m8 : gM) : Option (Int32 × gM) :=
  glet (v39 + v40) fun (v41 : Int32) => rec_76 v41 (v38 + 1) m8
def L_MO_letOf_76 (v34 : Int32) (k_76 : Int32 → Int32 → gM → Option (Int32 × gM)) : Nat → Int32 → Int32 → gM → Option (Int32 × gM) :=
  gfix (fun rec_76 v35 v36 m7 =>
    (f_MO_cells m7).bind fun (r1 : Int32 × gM) => if v36 < r1.1 then (gok (gib v36 36) (if (grd r1.2 85 v36) = v34 then (J_MO_letOf_104 rec_76 v35 v36 v35 1 r1.2) else (J_MO_letOf_104 rec_76 v35 v36 v35 0 r1.2))) else (k_76 v35 v36 r1.2)) (fun _ _ _ => none)
def J_MO_letOf_45 (x1 : Int32) (v31 : Int32) (v32 : Int32) (v33 : Int32) (m6 : gM) : Option (Int32 × gM) :=
  if v32 = (-4) then (some (v33, m6)) else (gok (gib x1 14) (gok (gib (grd m6 93 x1) 36) (glet (grd m6 85 (grd m6 93 x1)) fun (v34 : Int32) => L_MO_letOf_76 v34 (fun v35 v36 m7 => J_MO_letOf_113 v31 v32 v33 v34 v35 0 v36 m7) 1000 0 0 m6)))
def f_MO_letOf (x1 : Int32) (x2 : Int32) (m : gM) : Option (Int32 × gM) :=
  (f_MO_lineAt 4 x2 m).bind fun (r2 : Int32 × gM) => if r2.1 = (-4) then ((f_MO_lineAt 2 x2 r2.2).bind fun (r3 : Int32 × gM) => (f_MO_lineAt 3 x2 r3.2).bind fun (r4 : Int32 × gM) => if r3.1 = (-4) then (J_MO_letOf_45 x1 r3.1 r4.1 (-4) r4.2) else (gok (gib r3.1 12) (J_MO_letOf_45 x1 r3.1 r4.1 (grd r4.2 118 r3.1) r4.2))) else (some (0, r2.2))
def f_MO_hotIn (x1 : Int32) (x2 : Int32) (m : gM) : Option (Int32 × gM) :=
  (f_MO_letOf x1 x2 m).bind fun (r1 : Int32 × gM) => gok (gib ((60 * x1) + x2) 840) (glet ((grd r1.2 99 ((60 * x1) + x2)) - r1.1) fun (v1 : Int32) => if r1.1 = (-4) then (some (0, r1.2)) else (if v1 < 0 then (some (0, r1.2)) else (some (v1, r1.2))))
def J_MO_hotOf_35 (rec_4 : Int32 → Int32 → gM → Option (Int32 × gM)) (v3 : Int32) (v4 : Int32) (v5 : Int32) (v6 : Int32) (m2 : gM) : Option (Int32 × gM) :=
  rec_4 (v5 + v6) (v4 + 1) m2
def L_MO_hotOf_4 (x1 : Int32) : Nat → Int32 → Int32 → gM → Option (Int32 × gM) :=
  gfix (fun rec_4 v1 v2 m1 =>
    if v2 < 50 then (gok (gib ((60 * x1) + v2) 840) (if 0 < (grd m1 99 ((60 * x1) + v2)) then ((f_MO_hotIn x1 v2 m1).bind fun (r1 : Int32 × gM) => J_MO_hotOf_35 rec_4 v1 v2 v1 r1.1 r1.2) else (J_MO_hotOf_35 rec_4 v1 v2 v1 0 m1))) else (some (v1, m1))) (fun _ _ _ => none)
def f_MO_hotOf (x1 : Int32) (m : gM) : Option (Int32 × gM) :=
  L_MO_hotOf_4 x1 1000 0 0 m
def J_MO_told_114 (x1 : Int32) (x2 : Int32) (v1 : Int32) (v2 : Int32) (v3 : Int32) (v4 : Int32) (v5 : Int32) (m1 : gM) : Option (Int32 × gM) :=
  (f_MO_in (Int32.toInt64 x2) (Int32.toInt64 10) (Int32.toInt64 18) m1).bind fun (r1 : Int32 × gM) => if r1.1 = 0 then (gok (gib x1 6) (glet ((grd r1.2 101 x1) - (v2 - v3)) fun (v6 : Int32) => gswo x2 [(0, gok (gib x1 6) (some (grd r1.2 100 x1, r1.2))), (1, gok (gib x1 6) (some (grd r1.2 101 x1, r1.2))), (2, gok (gib x1 6) (some (grd r1.2 102 x1, r1.2))), (3, some (v1, r1.2)), (4, some (v2, r1.2)), (5, some (v3, r1.2)), (6, if v6 < 0 then (some (0, r1.2)) else (some (v6, r1.2)))] (some ((-1), r1.2)))) else (some (v4, r1.2))
def J_MO_told_108 (rec_24 : Int32 → Int32 → Int32 → Int32 → Int32 → gM → Option (Int32 × gM)) (v12 : Int32) (v13 : Int32) (v14 : Int32) (v15 : Int32) (v16 : Int32) (m3 : gM) : Option (Int32 × gM) :=
  rec_24 v12 v13 v14 v15 (v16 + 1) m3
def J_MO_told_105 (rec_24 : Int32 → Int32 → Int32 → Int32 → Int32 → gM → Option (Int32 × gM)) (v17 : Int32) (v18 : Int32) (v19 : Int32) (v20 : Int32) (v21 : Int32) (v22 : Int32) (v23 : Int32) (m4 : gM) : Option (Int32 × gM) :=
  glet (v22 + v23) fun (v24 : Int32) => J_MO_told_108 rec_24 v17 v18 v19 v24 v21 m4
def L_MO_told_24 (x1 : Int32) (x2 : Int32) (k_24 : Int32 → Int32 → Int32 → Int32 → Int32 → gM → Option (Int32 × gM)) : Nat → Int32 → Int32 → Int32 → Int32 → Int32 → gM → Option (Int32 × gM) :=
  gfix (fun rec_24 v7 v8 v9 v10 v11 m2 =>
    if v11 < (gfd m2 81 15) then (gok (gib v11 14) (if (grd m2 92 v11) = x1 then (gok (gib v11 14) (glet (v8 + (grd m2 96 v11)) fun (v25 : Int32) => (f_MO_hotOf v11 m2).bind fun (r3 : Int32 × gM) => glet (v9 + r3.1) fun (v26 : Int32) => (f_MO_in (Int32.toInt64 x2) (Int32.toInt64 10) (Int32.toInt64 18) r3.2).bind fun (r4 : Int32 × gM) => if r4.1 = 0 then (J_MO_told_105 rec_24 (v7 + 1) v25 v26 v10 v11 v10 0 r4.2) else (gok (gib (((9 * v11) + x2) - 10) 126) (J_MO_told_105 rec_24 (v7 + 1) v25 v26 v10 v11 v10 (grd r4.2 98 (((9 * v11) + x2) - 10)) r4.2)))) else (J_MO_told_108 rec_24 v7 v8 v9 v10 v11 m2))) else (k_24 v7 v8 v9 v10 v11 m2)) (fun _ _ _ _ _ _ => none)
def f_MO_told (x1 : Int32) (x2 : Int32) (m : gM) : Option (Int32 × gM) :=
  (f_MO_isPerson x1 m).bind fun (r2 : Int32 × gM) => if r2.1 = 0 then (some ((-1), r2.2)) else (L_MO_told_24 x1 x2 (fun v7 v8 v9 v10 v11 m2 => J_MO_told_114 x1 x2 v7 v8 v9 v10 v11 m2) 1000 0 0 0 0 0 r2.2)
def J_MO_howFar_52 (m : gM) (v1 : Int32) (v2 : Int32) : Option (Int32 × gM) :=
  some (v1 + v2, m)
def J_MO_howFar_39 (m : gM) (v3 : Int32) (v4 : Int32) (v5 : Int32) : Option (Int32 × gM) :=
  if v4 < 0 then (J_MO_howFar_52 m v5 (-v4)) else (J_MO_howFar_52 m v5 v4)
def f_MO_howFar (x1 : Int32) (x2 : Int32) (m : gM) : Option (Int32 × gM) :=
  gnz (gfd m 81 0) (gnz (gfd m 81 0) (glet ((x1 - x1 / (gfd m 81 0) * (gfd m 81 0)) - (x2 - x2 / (gfd m 81 0) * (gfd m 81 0))) fun (v6 : Int32) => gnz (gfd m 81 0) (gnz (gfd m 81 0) (glet ((x1 / (gfd m 81 0)) - (x2 / (gfd m 81 0))) fun (v7 : Int32) => if v6 < 0 then (J_MO_howFar_39 m v6 v7 (-v6)) else (J_MO_howFar_39 m v6 v7 v6)))))
def J_MO_isExcepted_63 (rec_4 : Int32 → Int32 → gM → Option (Int32 × gM)) (v3 : Int32) (v4 : Int32) (v5 : Int32) (m2 : gM) : Option (Int32 × gM) :=
  rec_4 v5 (v4 + 1) m2
def J_MO_isExcepted_62 (rec_4 : Int32 → Int32 → gM → Option (Int32 × gM)) (v6 : Int32) (v7 : Int32) (m3 : gM) : Option (Int32 × gM) :=
  J_MO_isExcepted_63 rec_4 v6 v7 0 m3
def J_MO_isExcepted_58 (rec_4 : Int32 → Int32 → gM → Option (Int32 × gM)) (v8 : Int32) (v9 : Int32) (m4 : gM) : Option (Int32 × gM) :=
  J_MO_isExcepted_63 rec_4 v8 v9 1 m4
def L_MO_isExcepted_4 (x1 : Int32) : Nat → Int32 → Int32 → gM → Option (Int32 × gM) :=
  gfix (fun rec_4 v1 v2 m1 =>
    if v2 < (gfd m1 81 48) then (if v1 = 0 then (gok (gib v2 12) (if (grd m1 116 v2) = 5 then (gok (gib v2 12) (if (grd m1 119 v2) = 0 then (gok (gib v2 12) (if (grd m1 118 v2) = x1 then (gok (gib v2 12) ((f_MO_shift m1).bind fun (r1 : Int32 × gM) => if r1.1 < (grd m1 117 v2) then (J_MO_isExcepted_62 rec_4 v1 v2 r1.2) else (J_MO_isExcepted_58 rec_4 v1 v2 r1.2))) else (J_MO_isExcepted_62 rec_4 v1 v2 m1))) else (J_MO_isExcepted_62 rec_4 v1 v2 m1))) else (J_MO_isExcepted_62 rec_4 v1 v2 m1))) else (J_MO_isExcepted_58 rec_4 v1 v2 m1)) else (gzo v1 (some (v1, m1)))) (fun _ _ _ => none)
def f_MO_isExcepted (x1 : Int32) (m : gM) : Option (Int32 × gM) :=
  L_MO_isExcepted_4 x1 1000 0 0 m
def L_MO_whyNot_87 (x2 : Int32) (x4 : Int32) : Nat → Int32 → gM → Option (Int32 × gM) :=
  gfix (fun rec_87 v2 m2 =>
    if v2 < (gfd m2 81 15) then (gok (gib v2 14) ((f_MO_howFar x2 (grd m2 93 v2) m2).bind fun (r1 : Int32 × gM) => if r1.1 < x4 then (some (3, r1.2)) else (rec_87 (v2 + 1) r1.2))) else (some (0, m2))) (fun _ _ => none)
def J_MO_whyNot_84 (x2 : Int32) (x4 : Int32) (v1 : Int32) (m1 : gM) : Option (Int32 × gM) :=
  L_MO_whyNot_87 x2 x4 1000 0 m1
def J_MO_whyNot_78 (rec_40 : Int32 → gM → Option (Int32 × gM)) (v4 : Int32) (m4 : gM) : Option (Int32 × gM) :=
  rec_40 (v4 + 1) m4
def L_MO_whyNot_40 (x2 : Int32) (x3 : Int32) (k_40 : Int32 → gM → Option (Int32 × gM)) : Nat → Int32 → gM → Option (Int32 × gM) :=
  gfix (fun rec_40 v3 m3 =>
    (f_MO_cells m3).bind fun (r4 : Int32 × gM) => if v3 < r4.1 then (gok (gib v3 36) (gok (gib x2 36) (if (grd r4.2 85 v3) = (grd r4.2 85 x2) then (J_MO_whyNot_78 rec_40 v3 r4.2) else ((f_MO_howFar x2 v3 r4.2).bind fun (r5 : Int32 × gM) => if r5.1 < x3 then (some (2, r5.2)) else (J_MO_whyNot_78 rec_40 v3 r5.2))))) else (k_40 v3 r4.2)) (fun _ _ => none)
def f_MO_whyNot (x1 : Int32) (x2 : Int32) (x3 : Int32) (x4 : Int32) (m : gM) : Option (Int32 × gM) :=
  gok (gib x2 36) (if (grd m 85 x2) = (-4) then (some (1, m)) else (gok (gib x2 36) ((f_MO_holderOf (grd m 85 x2) m).bind fun (r2 : Int32 × gM) => if r2.1 = x1 then ((f_MO_isExcepted x1 r2.2).bind fun (r3 : Int32 × gM) => if r3.1 = 0 then (L_MO_whyNot_40 x2 x3 (fun v3 m3 => J_MO_whyNot_84 x2 x4 v3 m3) 1000 0 r3.2) else (some (0, r3.2))) else (some (1, r2.2)))))
def J_MO_whyNow_58 (v1 : Int32) (v2 : Int32) (v3 : Int32) (v4 : Int32) (m1 : gM) : Option (Int32 × gM) :=
  (f_MO_whyNot v1 v2 v3 v4 m1).bind fun (r1 : Int32 × gM) => some (r1.1, r1.2)
def J_MO_whyNow_40 (v5 : Int32) (v6 : Int32) (v7 : Int32) (v8 : Int32) (v9 : Int32) (m2 : gM) : Option (Int32 × gM) :=
  if v6 = (-4) then (J_MO_whyNow_58 v7 v8 v9 0 m2) else (gok (gib v6 12) (J_MO_whyNow_58 v7 v8 v9 (grd m2 118 v6) m2))
def f_MO_whyNow (x1 : Int32) (x2 : Int32) (m : gM) : Option (Int32 × gM) :=
  (f_MO_shift m).bind fun (r2 : Int32 × gM) => (f_MO_lineAt 0 r2.1 r2.2).bind fun (r3 : Int32 × gM) => (f_MO_shift r3.2).bind fun (r4 : Int32 × gM) => (f_MO_lineAt 1 r4.1 r4.2).bind fun (r5 : Int32 × gM) => if r3.1 = (-4) then (J_MO_whyNow_40 r3.1 r5.1 x1 x2 0 r5.2) else (gok (gib r3.1 12) (J_MO_whyNow_40 r3.1 r5.1 x1 x2 (grd r5.2 118 r3.1) r5.2))
def J_MO_addWell_114 (v1 : Int32) (v2 : Int32) (m1 : gM) : Option (gM) :=
  glet (gsf m1 81 15 ((gfd m1 81 15) + 1)) fun (m2 : gM) => some m2
def L_MO_addWell_87 (v3 : Int32) (k_87 : Int32 → gM → Option (gM)) : Nat → Int32 → gM → Option (gM) :=
  gfix (fun rec_87 v5 m4 =>
    if v5 < 60 then (gok (gib ((60 * v3) + v5) 840) (glet (gst m4 99 ((60 * v3) + v5) 0) fun (m5 : gM) => rec_87 (v5 + 1) m5)) else (k_87 v5 m4)) (fun _ _ => none)
def J_MO_addWell_84 (v3 : Int32) (v4 : Int32) (m3 : gM) : Option (gM) :=
  L_MO_addWell_87 v3 (fun v5 m4 => J_MO_addWell_114 v3 v5 m4) 1000 0 m3
def L_MO_addWell_57 (v6 : Int32) (k_57 : Int32 → gM → Option (gM)) : Nat → Int32 → gM → Option (gM) :=
  gfix (fun rec_57 v7 m12 =>
    if v7 < 9 then (gok (gib ((9 * v6) + v7) 126) (glet (gst m12 98 ((9 * v6) + v7) 0) fun (m13 : gM) => rec_57 (v7 + 1) m13)) else (k_57 v7 m12)) (fun _ _ => none)
def f_MO_addWell (x1 : Int32) (x2 : Int32) (x3 : Int32) (m : gM) : Option (gM) :=
  glet (gfd m 81 15) fun (v6 : Int32) => gok (gib v6 14) (glet (gst m 92 v6 x1) fun (m6 : gM) => gok (gib v6 14) (glet (gst m6 93 v6 x2) fun (m7 : gM) => gok (gib v6 14) (glet (gst m7 94 v6 x3) fun (m8 : gM) => gok (gib v6 14) (glet (gst m8 95 v6 1) fun (m9 : gM) => gok (gib v6 14) (glet (gst m9 96 v6 0) fun (m10 : gM) => gok (gib v6 14) (glet (gst m10 97 v6 0) fun (m11 : gM) => L_MO_addWell_57 v6 (fun v7 m12 => J_MO_addWell_84 v6 v7 m12) 1000 0 m11))))))
def f_MO_drill (x1 : Int32) (x2 : Int32) (x3 : Int32) (m : gM) : Option (Int32 × gM) :=
  (f_MO_isPerson x1 m).bind fun (r1 : Int32 × gM) => if r1.1 = 0 then (some ((-1), r1.2)) else ((f_MO_isCell x2 r1.2).bind fun (r2 : Int32 × gM) => if r2.1 = 0 then (some ((-1), r2.2)) else ((f_MO_in (Int32.toInt64 x3) (Int32.toInt64 0) (Int32.toInt64 60) r2.2).bind fun (r3 : Int32 × gM) => if r3.1 = 0 then (some ((-1), r3.2)) else ((f_MO_whyNow x1 x2 r3.2).bind fun (r4 : Int32 × gM) => if 0 < r4.1 then (some ((-2), r4.2)) else (if (gfd r4.2 81 15) = 10 then (some ((-3), r4.2)) else ((f_MO_addWell x1 x2 x3 r4.2).bind fun (r5 : gM) => some ((gfd r5 81 15) - 1, r5))))))
def f_MO_why (x1 : Int32) (x2 : Int32) (m : gM) : Option (Int32 × gM) :=
  (f_MO_isPerson x1 m).bind fun (r1 : Int32 × gM) => if r1.1 = 0 then (some ((-1), r1.2)) else ((f_MO_isCell x2 r1.2).bind fun (r2 : Int32 × gM) => if r2.1 = 0 then (some ((-1), r2.2)) else ((f_MO_whyNow x1 x2 r2.2).bind fun (r3 : Int32 × gM) => some (r3.1, r3.2)))
def f_MO_will (x1 : Int32) (x2 : Int32) (m : gM) : Option (Int32 × gM) :=
  (f_MO_isWell x1 m).bind fun (r1 : Int32 × gM) => if r1.1 = 0 then (some ((-1), r1.2)) else ((f_MO_in (Int32.toInt64 x2) (Int32.toInt64 0) (Int32.toInt64 60) r1.2).bind fun (r2 : Int32 × gM) => if r2.1 = 0 then (some ((-1), r2.2)) else (gok (gib x1 14) (glet (grd r2.2 94 x1) fun (v1 : Int32) => gok (gib x1 14) (glet (gst r2.2 94 x1 x2) fun (m1 : gM) => some (v1, m1)))))
def J_MO_open_31 (v1 : Int32) (v2 : Int32) (v3 : Int32) (m1 : gM) : Option (Int32 × gM) :=
  gok (gib v2 14) (glet (gst m1 95 v2 v3) fun (m2 : gM) => some (v1, m2))
def f_MO_open (x1 : Int32) (x2 : Int32) (m : gM) : Option (Int32 × gM) :=
  (f_MO_isWell x1 m).bind fun (r1 : Int32 × gM) => if r1.1 = 0 then (some ((-1), r1.2)) else (gok (gib x1 14) (glet (grd r1.2 95 x1) fun (v4 : Int32) => if x2 = 0 then (J_MO_open_31 v4 x1 0 r1.2) else (J_MO_open_31 v4 x1 1 r1.2)))
def L_MO_hotAll_4  : Nat → Int32 → Int32 → gM → Option (Int32 × gM) :=
  gfix (fun rec_4 v1 v2 m1 =>
    if v2 < (gfd m1 81 15) then ((f_MO_hotOf v2 m1).bind fun (r1 : Int32 × gM) => glet (v1 + r1.1) fun (v3 : Int32) => rec_4 v3 (v2 + 1) r1.2) else (some (v1, m1))) (fun _ _ _ => none)
def f_MO_hotAll  (m : gM) : Option (Int32 × gM) :=
  L_MO_hotAll_4 1000 0 0 m
def f_MO_wellOf (x1 : Int32) (x2 : Int32) (m : gM) : Option (Int32 × gM) :=
  (f_MO_isWell x1 m).bind fun (r1 : Int32 × gM) => if r1.1 = 0 then (some ((-1), r1.2)) else ((f_MO_in (Int32.toInt64 x2) (Int32.toInt64 10) (Int32.toInt64 18) r1.2).bind fun (r2 : Int32 × gM) => if r2.1 = 0 then (gswo x2 [(0, gok (gib x1 14) (some (grd r2.2 92 x1, r2.2))), (1, gok (gib x1 14) (some (grd r2.2 93 x1, r2.2))), (2, gok (gib x1 14) (some (grd r2.2 94 x1, r2.2))), (3, gok (gib x1 14) (some (grd r2.2 95 x1, r2.2))), (4, gok (gib x1 14) (some (grd r2.2 96 x1, r2.2))), (5, gok (gib x1 14) (some (grd r2.2 97 x1, r2.2))), (6, (f_MO_hotOf x1 r2.2).bind fun (r3 : Int32 × gM) => some (r3.1, r3.2))] (some ((-1), r2.2))) else (gok (gib (((9 * x1) + x2) - 10) 126) (some (grd r2.2 98 (((9 * x1) + x2) - 10), r2.2))))
def f_MO_drew (x1 : Int32) (x2 : Int32) (x3 : Int32) (m : gM) : Option (Int32 × gM) :=
  (f_MO_isWell x1 m).bind fun (r1 : Int32 × gM) => if r1.1 = 0 then (some ((-1), r1.2)) else ((f_MO_in (Int32.toInt64 x2) (Int32.toInt64 0) (Int32.toInt64 49) r1.2).bind fun (r2 : Int32 × gM) => if r2.1 = 0 then (some ((-1), r2.2)) else ((f_MO_in (Int32.toInt64 x3) (Int32.toInt64 0) (Int32.toInt64 2) r2.2).bind fun (r3 : Int32 × gM) => if r3.1 = 0 then (some ((-1), r3.2)) else (if x3 = 0 then (gok (gib ((60 * x1) + x2) 840) (some (grd r3.2 99 ((60 * x1) + x2), r3.2))) else (if x3 = 1 then ((f_MO_letOf x1 x2 r3.2).bind fun (r5 : Int32 × gM) => some (r5.1, r5.2)) else ((f_MO_hotIn x1 x2 r3.2).bind fun (r4 : Int32 × gM) => some (r4.1, r4.2))))))
def J_MO_priceOf_22 (m : gM) (v1 : Int32) : Option (Int32 × gM) :=
  if v1 < 4 then (some (4, m)) else (some (v1, m))
def f_MO_priceOf (x1 : Int32) (m : gM) : Option (Int32 × gM) :=
  if x1 = 0 then (J_MO_priceOf_22 m 100) else (gok (gib (x1 - 1) 50) (gnz 5 (J_MO_priceOf_22 m (100 - ((grd m 103 (x1 - 1)) / 5)))))
def f_MO_sell (x1 : Int32) (x2 : Int32) (m : gM) : Option (Int32 × gM) :=
  (f_MO_isPerson x1 m).bind fun (r1 : Int32 × gM) => if r1.1 = 0 then (some ((-1), r1.2)) else ((f_MO_in (Int32.toInt64 x2) (Int32.toInt64 1) (Int32.toInt64 999) r1.2).bind fun (r2 : Int32 × gM) => if r2.1 = 0 then (some ((-1), r2.2)) else (gok (gib x1 6) (if (grd r2.2 100 x1) < x2 then (some ((-2), r2.2)) else ((f_MO_shift r2.2).bind fun (r3 : Int32 × gM) => (f_MO_priceOf r3.1 r3.2).bind fun (r4 : Int32 × gM) => glet (x2 * r4.1) fun (v1 : Int32) => gok (gib x1 6) (gok (gib x1 6) (glet (gst r4.2 100 x1 ((grd r4.2 100 x1) - x2)) fun (m1 : gM) => gok (gib x1 6) (gok (gib x1 6) (glet (gst m1 101 x1 ((grd m1 101 x1) + x2)) fun (m2 : gM) => gok (gib x1 6) (gok (gib x1 6) (glet (gst m2 102 x1 ((grd m2 102 x1) + v1)) fun (m3 : gM) => (f_MO_shift m3).bind fun (r5 : Int32 × gM) => gok (gib r5.1 50) (gok (gib r5.1 50) (glet (gst r5.2 103 r5.1 ((grd r5.2 103 r5.1) + x2)) fun (m4 : gM) => some (v1, m4)))))))))))))
def f_MO_price (x1 : Int32) (m : gM) : Option (Int32 × gM) :=
  (f_MO_shift m).bind fun (r1 : Int32 × gM) => (f_MO_in (Int32.toInt64 x1) (Int32.toInt64 0) (Int32.toInt64 r1.1) r1.2).bind fun (r2 : Int32 × gM) => if r2.1 = 0 then (some ((-1), r2.2)) else ((f_MO_priceOf x1 r2.2).bind fun (r3 : Int32 × gM) => some (r3.1, r3.2))
def J_MO_feed_56 (v1 : Int32) (m1 : gM) : Option (Int32 × gM) :=
  some (gfd m1 81 37, m1)
def L_MO_feed_19 (y1 : Int64) (k_19 : Int32 → gM → Option (Int32 × gM)) : Nat → Int32 → gM → Option (Int32 × gM) :=
  gfix (fun rec_19 v2 m2 =>
    if v2 < 0 then (k_19 v2 m2) else (gok (gib (gfd m2 81 37) 160) (glet (gst m2 112 (gfd m2 81 37) ((Int64.toInt32 (y1 >>> (Int32.toInt64 v2 &&& 63))) &&& 255)) fun (m3 : gM) => glet (gsf m3 81 37 ((gfd m3 81 37) + 1)) fun (m4 : gM) => rec_19 (v2 + (-8)) m4))) (fun _ _ => none)
def f_MO_feed (y1 : Int64) (m : gM) : Option (Int32 × gM) :=
  if 160 < ((gfd m 81 37) + 8) then (some ((-3), m)) else (L_MO_feed_19 y1 (fun v2 m2 => J_MO_feed_56 v2 m2) 1000 56 m)
def f_MO_end (x1 : Int32) (m : gM) : Option (Int32 × gM) :=
  (f_MO_in (Int32.toInt64 x1) (Int32.toInt64 0) (Int32.toInt64 (gfd m 81 37)) m).bind fun (r1 : Int32 × gM) => if r1.1 = 0 then (some ((-1), r1.2)) else (glet (gfd r1.2 81 37) fun (v1 : Int32) => glet (gsf r1.2 81 37 x1) fun (m1 : gM) => some (v1, m1))
def f_MO_byteAt (x1 : Int32) (m : gM) : Option (Int32 × gM) :=
  if x1 < (gfd m 81 37) then (gok (gib x1 160) (some (grd m 112 x1, m))) else (some ((-4), m))
def f_MO_fails (x1 : Int32) (m : gM) : Option (gM) :=
  if (gfd m 81 39) = 0 then (glet (gsf m 81 39 x1) fun (m1 : gM) => glet (gsf m1 81 40 (gfd m1 81 42)) fun (m2 : gM) => some m2) else (some m)
def J_MO_nameAt_90 (rec_2 : Int32 → gM → Option (Int32 × gM)) (v2 : Int32) (v3 : Int32) (m2 : gM) : Option (Int32 × gM) :=
  if v3 = 0 then (rec_2 (v2 + 1) m2) else (some (v2, m2))
def J_MO_nameAt_82 (rec_39 : Int32 → Int32 → gM → Option (Int32 × gM)) (v8 : Int32) (v9 : Int32) (v10 : Int32) (m5 : gM) : Option (Int32 × gM) :=
  rec_39 v10 (v9 + 1) m5
def L_MO_nameAt_39 (x1 : Int32) (x2 : Int32) (v4 : Int32) (k_39 : Int32 → Int32 → gM → Option (Int32 × gM)) : Nat → Int32 → Int32 → gM → Option (Int32 × gM) :=
  gfix (fun rec_39 v6 v7 m4 =>
    if v7 < (x2 - x1) then (if v6 = 0 then (k_39 v6 v7 m4) else ((f_MO_byteAt (x1 + v7) m4).bind fun (r1 : Int32 × gM) => gok (gib v4 8) (gok (gib ((grd r1.2 113 v4) + v7) 31) (if r1.1 = (grd r1.2 114 ((grd r1.2 113 v4) + v7)) then (J_MO_nameAt_82 rec_39 v6 v7 1 r1.2) else (J_MO_nameAt_82 rec_39 v6 v7 0 r1.2))))) else (k_39 v6 v7 m4)) (fun _ _ _ => none)
def J_MO_nameAt_34 (x1 : Int32) (x2 : Int32) (rec_2 : Int32 → gM → Option (Int32 × gM)) (v4 : Int32) (v5 : Int32) (m3 : gM) : Option (Int32 × gM) :=
  L_MO_nameAt_39 x1 x2 v4 (fun v6 v7 m4 => J_MO_nameAt_90 rec_2 v4 v6 m4) 1000 v5 0 m3
def L_MO_nameAt_2 (x1 : Int32) (x2 : Int32) : Nat → Int32 → gM → Option (Int32 × gM) :=
  gfix (fun rec_2 v1 m1 =>
    if v1 < 7 then (gok (gib (v1 + 1) 8) (gok (gib v1 8) (if (x2 - x1) = ((grd m1 113 (v1 + 1)) - (grd m1 113 v1)) then (J_MO_nameAt_34 x1 x2 rec_2 v1 1 m1) else (J_MO_nameAt_34 x1 x2 rec_2 v1 0 m1)))) else (some ((-4), m1))) (fun _ _ => none)
def f_MO_nameAt (x1 : Int32) (x2 : Int32) (m : gM) : Option (Int32 × gM) :=
  L_MO_nameAt_2 x1 x2 1000 0 m
def J_MO_next_247 (m1 : gM) : Option (gM) :=
  glet (gsf m1 81 43 2) fun (m2 : gM) => if 3 < ((gfd m2 81 41) - (gfd m2 81 42)) then ((f_MO_fails 1 m2).bind fun (r1 : gM) => some r1) else (some m2)
def J_MO_next_118 (m3 : gM) : Option (gM) :=
  glet (gsf m3 81 43 1) fun (m4 : gM) => (f_MO_nameAt (gfd m4 81 42) (gfd m4 81 41) m4).bind fun (r2 : Int32 × gM) => glet (gsf r2.2 81 44 r2.1) fun (m5 : gM) => if (gfd m5 81 44) = (-4) then ((f_MO_fails 1 m5).bind fun (r3 : gM) => some r3) else (some m5)
def J_MO_next_231 (rec_170 : gM → Option (gM)) (v1 : Int32) (m12 : gM) : Option (gM) :=
  glet (gsf m12 81 44 v1) fun (m13 : gM) => glet (gsf m13 81 41 ((gfd m13 81 41) + 1)) fun (m14 : gM) => rec_170 m14
def L_MO_next_170  (k_170 : gM → Option (gM)) : Nat → gM → Option (gM) :=
  gfix (fun rec_170 m11 =>
    (f_MO_byteAt (gfd m11 81 41) m11).bind fun (r8 : Int32 × gM) => (f_MO_in (Int32.toInt64 r8.1) (Int32.toInt64 48) (Int32.toInt64 57) r8.2).bind fun (r9 : Int32 × gM) => if r9.1 = 0 then (k_170 r9.2) else (if ((gfd r9.2 81 41) - (gfd r9.2 81 42)) < 3 then ((f_MO_byteAt (gfd r9.2 81 41) r9.2).bind fun (r10 : Int32 × gM) => J_MO_next_231 rec_170 (((10 * (gfd r9.2 81 44)) + r10.1) - 48) r10.2) else (J_MO_next_231 rec_170 (gfd r9.2 81 44) r9.2))) (fun _ => none)
def L_MO_next_84  (k_84 : gM → Option (gM)) : Nat → gM → Option (gM) :=
  gfix (fun rec_84 m15 =>
    (f_MO_byteAt (gfd m15 81 41) m15).bind fun (r11 : Int32 × gM) => (f_MO_in (Int32.toInt64 r11.1) (Int32.toInt64 97) (Int32.toInt64 122) r11.2).bind fun (r12 : Int32 × gM) => if r12.1 = 0 then (k_84 r12.2) else (glet (gsf r12.2 81 41 ((gfd r12.2 81 41) + 1)) fun (m16 : gM) => rec_84 m16)) (fun _ => none)
def J_MO_next_34 (m6 : gM) : Option (gM) :=
  glet (gsf m6 81 42 (gfd m6 81 41)) fun (m7 : gM) => (f_MO_byteAt (gfd m7 81 41) m7).bind fun (r4 : Int32 × gM) => glet (gsf r4.2 81 44 0) fun (m8 : gM) => if r4.1 = (-4) then (glet (gsf m8 81 43 0) fun (m17 : gM) => some m17) else ((f_MO_in (Int32.toInt64 r4.1) (Int32.toInt64 97) (Int32.toInt64 122) m8).bind fun (r5 : Int32 × gM) => if r5.1 = 0 then ((f_MO_in (Int32.toInt64 r4.1) (Int32.toInt64 48) (Int32.toInt64 57) r5.2).bind fun (r6 : Int32 × gM) => if r6.1 = 0 then (glet (gsf r6.2 81 43 3) fun (m9 : gM) => glet (gsf m9 81 41 ((gfd m9 81 41) + 1)) fun (m10 : gM) => if r4.1 = 59 then (some m10) else ((f_MO_fails 1 m10).bind fun (r7 : gM) => some r7)) else (L_MO_next_170 (fun m11 => J_MO_next_247 m11) 1000 r6.2)) else (L_MO_next_84 (fun m15 => J_MO_next_118 m15) 1000 r5.2))
def L_MO_next_8  (k_8 : gM → Option (gM)) : Nat → gM → Option (gM) :=
  gfix (fun rec_8 m18 =>
    (f_MO_byteAt (gfd m18 81 41) m18).bind fun (r13 : Int32 × gM) => if r13.1 = 32 then (glet (gsf r13.2 81 41 ((gfd r13.2 81 41) + 1)) fun (m19 : gM) => rec_8 m19) else (k_8 r13.2)) (fun _ => none)
def f_MO_next  (m : gM) : Option (gM) :=
  if 0 < (gfd m 81 39) then (some m) else (L_MO_next_8 (fun m18 => J_MO_next_34 m18) 1000 m)
def J_MO_number_43 (m1 : gM) : Option (Int32 × gM) :=
  some (gfd m1 81 44, m1)
def J_MO_number_23 (x1 : Int32) (m2 : gM) : Option (Int32 × gM) :=
  if (gfd m2 81 39) = 0 then (if x1 < (gfd m2 81 44) then ((f_MO_fails 3 m2).bind fun (r1 : gM) => J_MO_number_43 r1) else (J_MO_number_43 m2)) else (J_MO_number_43 m2)
def f_MO_number (x1 : Int32) (m : gM) : Option (Int32 × gM) :=
  if (gfd m 81 39) = 0 then (if (gfd m 81 43) = 2 then (J_MO_number_23 x1 m) else ((f_MO_fails 2 m).bind fun (r2 : gM) => J_MO_number_43 r2)) else (J_MO_number_23 x1 m)
def J_MO_once_62 (rec_3 : Int32 → gM → Option (gM)) (v2 : Int32) (m2 : gM) : Option (gM) :=
  rec_3 (v2 + 1) m2
def J_MO_once_57 (rec_3 : Int32 → gM → Option (gM)) (v3 : Int32) (m3 : gM) : Option (gM) :=
  (f_MO_fails 5 m3).bind fun (r1 : gM) => J_MO_once_62 rec_3 v3 r1
def L_MO_once_3 (x1 : Int32) (x2 : Int32) (x3 : Int32) : Nat → Int32 → gM → Option (gM) :=
  gfix (fun rec_3 v1 m1 =>
    if v1 < (gfd m1 81 53) then (if (gfd m1 81 39) = 0 then (gok (gib v1 12) (if (grd m1 120 v1) = x1 then (gok (gib v1 12) (if (grd m1 121 v1) = x2 then (if x1 = 5 then (gok (gib v1 12) (if (grd m1 122 v1) = x3 then (J_MO_once_57 rec_3 v1 m1) else (J_MO_once_62 rec_3 v1 m1))) else (J_MO_once_57 rec_3 v1 m1)) else (J_MO_once_62 rec_3 v1 m1))) else (J_MO_once_62 rec_3 v1 m1))) else (some m1)) else (some m1)) (fun _ _ => none)
def f_MO_once (x1 : Int32) (x2 : Int32) (x3 : Int32) (m : gM) : Option (gM) :=
  L_MO_once_3 x1 x2 x3 1000 0 m
def J_MO_oneLine_175 (v1 : Int32) (v2 : Int32) (v3 : Int32) (m1 : gM) : Option (gM) :=
  if (gfd m1 81 39) = 0 then (gok (gib (gfd m1 81 53) 12) (glet (gst m1 120 (gfd m1 81 53) v2) fun (m2 : gM) => gok (gib (gfd m2 81 53) 12) (glet (gst m2 121 (gfd m2 81 53) v1) fun (m3 : gM) => gok (gib (gfd m3 81 53) 12) (glet (gst m3 122 (gfd m3 81 53) v3) fun (m4 : gM) => glet (gsf m4 81 53 ((gfd m4 81 53) + 1)) fun (m5 : gM) => (f_MO_next m5).bind fun (r1 : gM) => some r1)))) else (some m1)
def J_MO_oneLine_155 (v4 : Int32) (v5 : Int32) (v6 : Int32) (m6 : gM) : Option (gM) :=
  if (gfd m6 81 39) = 0 then (if (gfd m6 81 43) = 3 then (J_MO_oneLine_175 v4 v5 v6 m6) else ((f_MO_fails 2 m6).bind fun (r2 : gM) => J_MO_oneLine_175 v4 v5 v6 r2)) else (J_MO_oneLine_175 v4 v5 v6 m6)
def J_MO_oneLine_151 (v7 : Int32) (v8 : Int32) (v9 : Int32) (m7 : gM) : Option (gM) :=
  (f_MO_next m7).bind fun (r3 : gM) => J_MO_oneLine_155 v7 v8 v9 r3
def J_MO_oneLine_119 (v10 : Int32) (v11 : Int32) (v12 : Int32) (m8 : gM) : Option (gM) :=
  (f_MO_next m8).bind fun (r4 : gM) => if v11 = 4 then (J_MO_oneLine_155 v10 v11 v12 r4) else (gok (gib v11 6) ((f_MO_number (grd r4 115 v11) r4).bind fun (r5 : Int32 × gM) => if v11 = 5 then ((f_MO_once v11 v10 r5.1 r5.2).bind fun (r6 : gM) => J_MO_oneLine_151 v10 v11 r5.1 r6) else (J_MO_oneLine_151 v10 v11 r5.1 r5.2)))
def J_MO_oneLine_92 (v13 : Int32) (m9 : gM) : Option (gM) :=
  if 0 < (gfd m9 81 39) then (some m9) else (glet (gfd m9 81 44) fun (v14 : Int32) => if v14 = 5 then (J_MO_oneLine_119 v13 v14 0 m9) else ((f_MO_once v14 v13 0 m9).bind fun (r7 : gM) => J_MO_oneLine_119 v13 v14 0 r7))
def J_MO_oneLine_87 (v15 : Int32) (m10 : gM) : Option (gM) :=
  (f_MO_fails 2 m10).bind fun (r8 : gM) => J_MO_oneLine_92 v15 r8
def J_MO_oneLine_30 (m11 : gM) : Option (gM) :=
  if (gfd m11 81 39) = 0 then (if (gfd m11 81 44) = 6 then ((f_MO_next m11).bind fun (r9 : gM) => (f_MO_number 49 r9).bind fun (r10 : Int32 × gM) => (f_MO_next r10.2).bind fun (r11 : gM) => if (gfd r11 81 39) = 0 then (if (gfd r11 81 43) = 1 then (if (gfd r11 81 44) = 6 then (J_MO_oneLine_87 r10.1 r11) else (J_MO_oneLine_92 r10.1 r11)) else (J_MO_oneLine_87 r10.1 r11)) else (J_MO_oneLine_92 r10.1 r11)) else (J_MO_oneLine_92 0 m11)) else (J_MO_oneLine_92 0 m11)
def f_MO_oneLine  (m : gM) : Option (gM) :=
  if (gfd m 81 43) = 1 then (if (gfd m 81 53) = 12 then ((f_MO_fails 4 m).bind fun (r12 : gM) => J_MO_oneLine_30 r12) else (J_MO_oneLine_30 m)) else ((f_MO_fails 2 m).bind fun (r13 : gM) => J_MO_oneLine_30 r13)
def J_MO_orders_133 (v1 : Int32) (m1 : gM) : Option (Int32 × gM) :=
  some (gfd m1 81 48, m1)
def L_MO_orders_78  (k_78 : Int32 → gM → Option (Int32 × gM)) : Nat → Int32 → gM → Option (Int32 × gM) :=
  gfix (fun rec_78 v2 m6 =>
    if v2 < 12 then (gok (gib v2 12) (gok (gib v2 12) (glet (gst m6 116 v2 (grd m6 120 v2)) fun (m7 : gM) => gok (gib v2 12) (gok (gib v2 12) (glet (gst m7 117 v2 (grd m7 121 v2)) fun (m8 : gM) => gok (gib v2 12) (gok (gib v2 12) (glet (gst m8 118 v2 (grd m8 122 v2)) fun (m9 : gM) => gok (gib v2 12) (glet (gst m9 119 v2 0) fun (m10 : gM) => rec_78 (v2 + 1) m10)))))))) else (k_78 v2 m6)) (fun _ _ => none)
def J_MO_orders_40 (m2 : gM) : Option (Int32 × gM) :=
  glet (gsf m2 81 37 0) fun (m3 : gM) => glet (gsf m3 81 38 (gfd m3 81 39)) fun (m4 : gM) => if 0 < (gfd m4 81 39) then (some ((-10) - (gfd m4 81 40), m4)) else (glet (gsf m4 81 48 (gfd m4 81 53)) fun (m5 : gM) => L_MO_orders_78 (fun v2 m6 => J_MO_orders_133 v2 m6) 1000 0 m5)
def L_MO_orders_19  (k_19 : gM → Option (Int32 × gM)) : Nat → gM → Option (Int32 × gM) :=
  gfix (fun rec_19 m14 =>
    if (gfd m14 81 39) = 0 then (if (gfd m14 81 43) = 0 then (k_19 m14) else ((f_MO_oneLine m14).bind fun (r2 : gM) => rec_19 r2)) else (k_19 m14)) (fun _ => none)
def f_MO_orders  (m : gM) : Option (Int32 × gM) :=
  glet (gsf m 81 39 0) fun (m11 : gM) => glet (gsf m11 81 41 0) fun (m12 : gM) => glet (gsf m12 81 53 0) fun (m13 : gM) => (f_MO_next m13).bind fun (r1 : gM) => L_MO_orders_19 (fun m14 => J_MO_orders_40 m14) 1000 r1
def f_MO_fault  (m : gM) : Option (Int32 × gM) :=
  some (gfd m 81 38, m)
def f_MO_line (x1 : Int32) (x2 : Int32) (m : gM) : Option (Int32 × gM) :=
  (f_MO_in (Int32.toInt64 x1) (Int32.toInt64 0) (Int32.toInt64 ((gfd m 81 48) - 1)) m).bind fun (r1 : Int32 × gM) => if r1.1 = 0 then (some ((-1), r1.2)) else (if x2 = 0 then (gok (gib x1 12) (some (grd r1.2 116 x1, r1.2))) else (if x2 = 1 then (gok (gib x1 12) (some (grd r1.2 117 x1, r1.2))) else (if x2 = 2 then (gok (gib x1 12) (some (grd r1.2 118 x1, r1.2))) else (if x2 = 3 then (gok (gib x1 12) (some (grd r1.2 119 x1, r1.2))) else (some ((-1), r1.2))))))
def f_MO_voids (x1 : Int32) (m : gM) : Option (Int32 × gM) :=
  (f_MO_in (Int32.toInt64 x1) (Int32.toInt64 0) (Int32.toInt64 ((gfd m 81 48) - 1)) m).bind fun (r1 : Int32 × gM) => if r1.1 = 0 then (some ((-100000), r1.2)) else (gok (gib x1 12) (if (grd r1.2 119 x1) = 1 then (some ((-100002), r1.2)) else ((f_MO_hotAll r1.2).bind fun (r2 : Int32 × gM) => gok (gib x1 12) (glet (gst r2.2 119 x1 1) fun (m1 : gM) => (f_MO_hotAll m1).bind fun (r3 : Int32 × gM) => some (r2.1 - r3.1, r3.2)))))
def J_MO_lets_101 (rec_71 : Int32 → gM → Option (Int32 × gM)) (v3 : Int32) (v4 : Int32) (v5 : Int32) (v6 : Int32) (v7 : Int32) (m3 : gM) : Option (Int32 × gM) :=
  (f_MO_whyNot v4 v5 v6 v7 m3).bind fun (r1 : Int32 × gM) => if r1.1 = 0 then (some (v3, r1.2)) else (rec_71 (v3 + (-1)) r1.2)
def J_MO_lets_90 (x3 : Int32) (v1 : Int32) (rec_71 : Int32 → gM → Option (Int32 × gM)) (v8 : Int32) (v9 : Int32) (v10 : Int32) (v11 : Int32) (m4 : gM) : Option (Int32 × gM) :=
  if x3 = 0 then (J_MO_lets_101 rec_71 v8 v9 v10 v11 v1 m4) else (J_MO_lets_101 rec_71 v8 v9 v10 v11 v8 m4)
def L_MO_lets_71 (x1 : Int32) (x2 : Int32) (x3 : Int32) (v1 : Int32) : Nat → Int32 → gM → Option (Int32 × gM) :=
  gfix (fun rec_71 v2 m2 =>
    if v2 < 0 then (some ((-4), m2)) else (if x3 = 0 then (J_MO_lets_90 x3 v1 rec_71 v2 x1 x2 v2 m2) else (J_MO_lets_90 x3 v1 rec_71 v2 x1 x2 v1 m2))) (fun _ _ => none)
def J_MO_lets_65 (x1 : Int32) (x2 : Int32) (x3 : Int32) (v1 : Int32) (m1 : gM) : Option (Int32 × gM) :=
  L_MO_lets_71 x1 x2 x3 v1 1000 9 m1
def J_MO_lets_38 (x1 : Int32) (x2 : Int32) (x3 : Int32) (v12 : Int32) (m5 : gM) : Option (Int32 × gM) :=
  (f_MO_shift m5).bind fun (r2 : Int32 × gM) => (f_MO_lineAt v12 r2.1 r2.2).bind fun (r3 : Int32 × gM) => if r3.1 = (-4) then (J_MO_lets_65 x1 x2 x3 0 r3.2) else (gok (gib r3.1 12) (J_MO_lets_65 x1 x2 x3 (grd r3.2 118 r3.1) r3.2))
def f_MO_lets (x1 : Int32) (x2 : Int32) (x3 : Int32) (m : gM) : Option (Int32 × gM) :=
  (f_MO_isPerson x1 m).bind fun (r4 : Int32 × gM) => if r4.1 = 0 then (some ((-1), r4.2)) else ((f_MO_isCell x2 r4.2).bind fun (r5 : Int32 × gM) => if r5.1 = 0 then (some ((-1), r5.2)) else ((f_MO_in (Int32.toInt64 x3) (Int32.toInt64 0) (Int32.toInt64 1) r5.2).bind fun (r6 : Int32 × gM) => if r6.1 = 0 then (some ((-1), r6.2)) else (if x3 = 0 then (J_MO_lets_38 x1 x2 x3 1 r6.2) else (J_MO_lets_38 x1 x2 x3 0 r6.2))))
def J_MO_turn_32 (v1 : Int32) (m1 : gM) : Option (Int32 × gM) :=
  glet (gsf m1 81 58 ((gfd m1 81 58) + 1)) fun (m2 : gM) => some (v1, m2)
def f_MO_turn (x1 : Int32) (m : gM) : Option (Int32 × gM) :=
  if (gfd m 81 59) = 0 then (gok (gib (gfd m 81 58) 7200) (glet (grd m 123 (gfd m 81 58)) fun (v2 : Int32) => J_MO_turn_32 v2 m)) else (gok (gib (gfd m 81 58) 7200) (glet (gst m 123 (gfd m 81 58) x1) fun (m3 : gM) => J_MO_turn_32 x1 m3))
def L_MO_turnLand_177  : Nat → Int32 → gM → Option (gM) :=
  gfix (fun rec_177 v2 m2 =>
    if v2 < 6 then (gok (gib v2 6) ((f_MO_turn (grd m2 100 v2) m2).bind fun (r1 : Int32 × gM) => gok (gib v2 6) (glet (gst r1.2 100 v2 r1.1) fun (m3 : gM) => gok (gib v2 6) ((f_MO_turn (grd m3 101 v2) m3).bind fun (r2 : Int32 × gM) => gok (gib v2 6) (glet (gst r2.2 101 v2 r2.1) fun (m4 : gM) => gok (gib v2 6) ((f_MO_turn (grd m4 102 v2) m4).bind fun (r3 : Int32 × gM) => gok (gib v2 6) (glet (gst r3.2 102 v2 r3.1) fun (m5 : gM) => rec_177 (v2 + 1) m5))))))) else (some m2)) (fun _ _ => none)
def J_MO_turnLand_175 (v1 : Int32) (m1 : gM) : Option (gM) :=
  L_MO_turnLand_177 1000 0 m1
def L_MO_turnLand_147  (k_147 : Int32 → gM → Option (gM)) : Nat → Int32 → gM → Option (gM) :=
  gfix (fun rec_147 v4 m7 =>
    if v4 < 50 then (gok (gib v4 50) ((f_MO_turn (grd m7 103 v4) m7).bind fun (r4 : Int32 × gM) => gok (gib v4 50) (glet (gst r4.2 103 v4 r4.1) fun (m8 : gM) => rec_147 (v4 + 1) m8))) else (k_147 v4 m7)) (fun _ _ => none)
def J_MO_turnLand_145 (v3 : Int32) (m6 : gM) : Option (gM) :=
  L_MO_turnLand_147 (fun v4 m7 => J_MO_turnLand_175 v4 m7) 1000 0 m6
def L_MO_turnLand_116  (k_116 : Int32 → gM → Option (gM)) : Nat → Int32 → gM → Option (gM) :=
  gfix (fun rec_116 v6 m10 =>
    if v6 < 324 then (gok (gib v6 324) ((f_MO_turn (grd m10 86 v6) m10).bind fun (r5 : Int32 × gM) => gok (gib v6 324) (glet (gst r5.2 86 v6 r5.1) fun (m11 : gM) => rec_116 (v6 + 1) m11))) else (k_116 v6 m10)) (fun _ _ => none)
def J_MO_turnLand_114 (v5 : Int32) (m9 : gM) : Option (gM) :=
  L_MO_turnLand_116 (fun v6 m10 => J_MO_turnLand_145 v6 m10) 1000 0 m9
def L_MO_turnLand_38  (k_38 : Int32 → gM → Option (gM)) : Nat → Int32 → gM → Option (gM) :=
  gfix (fun rec_38 v7 m15 =>
    if v7 < 36 then (gok (gib v7 36) ((f_MO_turn (grd m15 82 v7) m15).bind fun (r9 : Int32 × gM) => gok (gib v7 36) (glet (gst r9.2 82 v7 r9.1) fun (m16 : gM) => gok (gib v7 36) ((f_MO_turn (grd m16 83 v7) m16).bind fun (r10 : Int32 × gM) => gok (gib v7 36) (glet (gst r10.2 83 v7 r10.1) fun (m17 : gM) => gok (gib v7 36) ((f_MO_turn (grd m17 84 v7) m17).bind fun (r11 : Int32 × gM) => gok (gib v7 36) (glet (gst r11.2 84 v7 r11.1) fun (m18 : gM) => gok (gib v7 36) ((f_MO_turn (grd m18 85 v7) m18).bind fun (r12 : Int32 × gM) => gok (gib v7 36) (glet (gst r12.2 85 v7 r12.1) fun (m19 : gM) => rec_38 (v7 + 1) m19))))))))) else (k_38 v7 m15)) (fun _ _ => none)
def f_MO_turnLand  (m : gM) : Option (gM) :=
  (f_MO_turn (gfd m 81 0) m).bind fun (r6 : Int32 × gM) => glet (gsf r6.2 81 0 r6.1) fun (m12 : gM) => (f_MO_turn (gfd m12 81 1) m12).bind fun (r7 : Int32 × gM) => glet (gsf r7.2 81 1 r7.1) fun (m13 : gM) => (f_MO_turn (gfd m13 81 2) m13).bind fun (r8 : Int32 × gM) => glet (gsf r8.2 81 2 r8.1) fun (m14 : gM) => L_MO_turnLand_38 (fun v7 m15 => J_MO_turnLand_114 v7 m15) 1000 0 m14
def L_MO_turnPapers_274  : Nat → Int32 → gM → Option (gM) :=
  gfix (fun rec_274 v2 m2 =>
    if v2 < 840 then (gok (gib v2 840) ((f_MO_turn (grd m2 99 v2) m2).bind fun (r1 : Int32 × gM) => gok (gib v2 840) (glet (gst r1.2 99 v2 r1.1) fun (m3 : gM) => rec_274 (v2 + 1) m3))) else (some m2)) (fun _ _ => none)
def J_MO_turnPapers_272 (v1 : Int32) (m1 : gM) : Option (gM) :=
  L_MO_turnPapers_274 1000 0 m1
def L_MO_turnPapers_244  (k_244 : Int32 → gM → Option (gM)) : Nat → Int32 → gM → Option (gM) :=
  gfix (fun rec_244 v4 m5 =>
    if v4 < 126 then (gok (gib v4 126) ((f_MO_turn (grd m5 98 v4) m5).bind fun (r2 : Int32 × gM) => gok (gib v4 126) (glet (gst r2.2 98 v4 r2.1) fun (m6 : gM) => rec_244 (v4 + 1) m6))) else (k_244 v4 m5)) (fun _ _ => none)
def J_MO_turnPapers_242 (v3 : Int32) (m4 : gM) : Option (gM) :=
  L_MO_turnPapers_244 (fun v4 m5 => J_MO_turnPapers_272 v4 m5) 1000 0 m4
def L_MO_turnPapers_134  (k_134 : Int32 → gM → Option (gM)) : Nat → Int32 → gM → Option (gM) :=
  gfix (fun rec_134 v6 m9 =>
    if v6 < 14 then (gok (gib v6 14) ((f_MO_turn (grd m9 92 v6) m9).bind fun (r4 : Int32 × gM) => gok (gib v6 14) (glet (gst r4.2 92 v6 r4.1) fun (m10 : gM) => gok (gib v6 14) ((f_MO_turn (grd m10 93 v6) m10).bind fun (r5 : Int32 × gM) => gok (gib v6 14) (glet (gst r5.2 93 v6 r5.1) fun (m11 : gM) => gok (gib v6 14) ((f_MO_turn (grd m11 94 v6) m11).bind fun (r6 : Int32 × gM) => gok (gib v6 14) (glet (gst r6.2 94 v6 r6.1) fun (m12 : gM) => gok (gib v6 14) ((f_MO_turn (grd m12 95 v6) m12).bind fun (r7 : Int32 × gM) => gok (gib v6 14) (glet (gst r7.2 95 v6 r7.1) fun (m13 : gM) => gok (gib v6 14) ((f_MO_turn (grd m13 96 v6) m13).bind fun (r8 : Int32 × gM) => gok (gib v6 14) (glet (gst r8.2 96 v6 r8.1) fun (m14 : gM) => gok (gib v6 14) ((f_MO_turn (grd m14 97 v6) m14).bind fun (r9 : Int32 × gM) => gok (gib v6 14) (glet (gst r9.2 97 v6 r9.1) fun (m15 : gM) => rec_134 (v6 + 1) m15))))))))))))) else (k_134 v6 m9)) (fun _ _ => none)
def J_MO_turnPapers_120 (v5 : Int32) (m7 : gM) : Option (gM) :=
  (f_MO_turn (gfd m7 81 15) m7).bind fun (r3 : Int32 × gM) => glet (gsf r3.2 81 15 r3.1) fun (m8 : gM) => L_MO_turnPapers_134 (fun v6 m9 => J_MO_turnPapers_242 v6 m9) 1000 0 m8
def L_MO_turnPapers_44  (k_44 : Int32 → gM → Option (gM)) : Nat → Int32 → gM → Option (gM) :=
  gfix (fun rec_44 v8 m18 =>
    if v8 < 12 then (gok (gib v8 12) ((f_MO_turn (grd m18 88 v8) m18).bind fun (r11 : Int32 × gM) => gok (gib v8 12) (glet (gst r11.2 88 v8 r11.1) fun (m19 : gM) => gok (gib v8 12) ((f_MO_turn (grd m19 89 v8) m19).bind fun (r12 : Int32 × gM) => gok (gib v8 12) (glet (gst r12.2 89 v8 r12.1) fun (m20 : gM) => gok (gib v8 12) ((f_MO_turn (grd m20 90 v8) m20).bind fun (r13 : Int32 × gM) => gok (gib v8 12) (glet (gst r13.2 90 v8 r13.1) fun (m21 : gM) => gok (gib v8 12) ((f_MO_turn (grd m21 91 v8) m21).bind fun (r14 : Int32 × gM) => gok (gib v8 12) (glet (gst r14.2 91 v8 r14.1) fun (m22 : gM) => rec_44 (v8 + 1) m22))))))))) else (k_44 v8 m18)) (fun _ _ => none)
def J_MO_turnPapers_30 (v7 : Int32) (m16 : gM) : Option (gM) :=
  (f_MO_turn (gfd m16 81 10) m16).bind fun (r10 : Int32 × gM) => glet (gsf r10.2 81 10 r10.1) fun (m17 : gM) => L_MO_turnPapers_44 (fun v8 m18 => J_MO_turnPapers_120 v8 m18) 1000 0 m17
def L_MO_turnPapers_2  (k_2 : Int32 → gM → Option (gM)) : Nat → Int32 → gM → Option (gM) :=
  gfix (fun rec_2 v9 m23 =>
    if v9 < 8 then (gok (gib v9 8) ((f_MO_turn (grd m23 87 v9) m23).bind fun (r15 : Int32 × gM) => gok (gib v9 8) (glet (gst r15.2 87 v9 r15.1) fun (m24 : gM) => rec_2 (v9 + 1) m24))) else (k_2 v9 m23)) (fun _ _ => none)
def f_MO_turnPapers  (m : gM) : Option (gM) :=
  L_MO_turnPapers_2 (fun v9 m23 => J_MO_turnPapers_30 v9 m23) 1000 0 m
def f_MO_turnPage (x1 : Int32) (x2 : Int32) (m : gM) : Option (gM) :=
  glet (gsf m 81 58 (1800 * x1)) fun (m1 : gM) => gzo x2 (glet (gsf m1 81 59 x2) fun (m2 : gM) => (f_MO_turnLand m2).bind fun (r1 : gM) => (f_MO_turnPapers r1).bind fun (r2 : gM) => some r2)
def f_MO_keep  (m : gM) : Option (Int32 × gM) :=
  if (gfd m 81 60) = 3 then (some ((-3), m)) else ((f_MO_turnPage (gfd m 81 60) 1 m).bind fun (r1 : gM) => glet (gsf r1 81 60 ((gfd r1 81 60) + 1)) fun (m1 : gM) => some ((gfd m1 81 60) - 1, m1))
def f_MO_stand (x1 : Int32) (m : gM) : Option (Int32 × gM) :=
  (f_MO_in (Int32.toInt64 x1) (Int32.toInt64 0) (Int32.toInt64 ((gfd m 81 60) - 1)) m).bind fun (r1 : Int32 × gM) => if r1.1 = 0 then (some ((-1), r1.2)) else ((f_MO_turnPage x1 0 r1.2).bind fun (r2 : gM) => some (1, r2))
def f_MO_spot (x1 : Int32) (x2 : Int32) (m : gM) : Option (Int32 × gM) :=
  (f_MO_isPerson x1 m).bind fun (r1 : Int32 × gM) => if r1.1 = 0 then (some ((-5), r1.2)) else ((f_MO_isCell x2 r1.2).bind fun (r2 : Int32 × gM) => if r2.1 = 0 then (some ((-5), r2.2)) else (gok (gib x1 6) (glet (grd r2.2 104 x1) fun (v1 : Int32) => gok (gib x1 6) (glet (gst r2.2 104 x1 x2) fun (m1 : gM) => some (v1, m1)))))
def f_MO_isRace (x1 : Int32) (x2 : Int32) (x3 : Int32) (x4 : Int32) (m : gM) : Option (Int32 × gM) :=
  (f_MO_in (Int32.toInt64 x1) (Int32.toInt64 1) (Int32.toInt64 4) m).bind fun (r1 : Int32 × gM) => if r1.1 = 0 then (some (0, r1.2)) else (if (gfd r1.2 81 8) < x1 then (some (0, r1.2)) else ((f_MO_in (Int32.toInt64 x2) (Int32.toInt64 0) (Int32.toInt64 60) r1.2).bind fun (r2 : Int32 × gM) => if r2.1 = 0 then (some (0, r2.2)) else ((f_MO_in (Int32.toInt64 x3) (Int32.toInt64 0) (Int32.toInt64 999) r2.2).bind fun (r3 : Int32 × gM) => if r3.1 = 0 then (some (0, r3.2)) else ((f_MO_in (Int32.toInt64 x4) (Int32.toInt64 1) (Int32.toInt64 24) r3.2).bind fun (r4 : Int32 × gM) => if r4.1 = 0 then (some (0, r4.2)) else (some (1, r4.2))))))
def J_MO_haveSpots_31 (rec_4 : Int32 → Int32 → gM → Option (Int32 × gM)) (v3 : Int32) (v4 : Int32) (v5 : Int32) (m2 : gM) : Option (Int32 × gM) :=
  rec_4 v5 (v4 + 1) m2
def J_MO_haveSpots_30 (rec_4 : Int32 → Int32 → gM → Option (Int32 × gM)) (v6 : Int32) (v7 : Int32) (m3 : gM) : Option (Int32 × gM) :=
  J_MO_haveSpots_31 rec_4 v6 v7 0 m3
def L_MO_haveSpots_4 (x1 : Int32) : Nat → Int32 → Int32 → gM → Option (Int32 × gM) :=
  gfix (fun rec_4 v1 v2 m1 =>
    if v2 < x1 then (if v1 = 0 then (J_MO_haveSpots_30 rec_4 v1 v2 m1) else (gok (gib v2 6) ((f_MO_isCell (grd m1 104 v2) m1).bind fun (r1 : Int32 × gM) => if r1.1 = 0 then (J_MO_haveSpots_30 rec_4 v1 v2 r1.2) else (J_MO_haveSpots_31 rec_4 v1 v2 1 r1.2)))) else (gzo v1 (some (v1, m1)))) (fun _ _ _ => none)
def f_MO_haveSpots (x1 : Int32) (m : gM) : Option (Int32 × gM) :=
  L_MO_haveSpots_4 x1 1000 1 0 m
def J_MO_race_140 (v1 : Int32) (m1 : gM) : Option (gM) :=
  (f_MO_turnPage 3 0 m1).bind fun (r1 : gM) => some r1
def L_MO_race_106 (x1 : Int32) (x5 : Int32) (k_106 : Int32 → gM → Option (gM)) : Nat → Int32 → gM → Option (gM) :=
  gfix (fun rec_106 v3 m3 =>
    if v3 < x1 then (gok (gib ((4 * x5) + v3) 64) (gok (gib v3 6) (gok (gib ((4 * x5) + v3) 64) (glet (gst m3 124 ((4 * x5) + v3) ((grd m3 124 ((4 * x5) + v3)) + (grd m3 100 v3))) fun (m4 : gM) => rec_106 (v3 + 1) m4)))) else (k_106 v3 m3)) (fun _ _ => none)
def J_MO_race_103 (x1 : Int32) (x5 : Int32) (v2 : Int32) (m2 : gM) : Option (gM) :=
  L_MO_race_106 x1 x5 (fun v3 m3 => J_MO_race_140 v3 m3) 1000 0 m2
def L_MO_race_85 (x4 : Int32) (k_85 : Int32 → gM → Option (gM)) : Nat → Int32 → gM → Option (gM) :=
  gfix (fun rec_85 v5 m6 =>
    if v5 < x4 then ((f_MO_step m6).bind fun (r2 : Int32 × gM) => rec_85 (v5 + 1) r2.2) else (k_85 v5 m6)) (fun _ _ => none)
def J_MO_race_82 (x1 : Int32) (x4 : Int32) (x5 : Int32) (v4 : Int32) (m5 : gM) : Option (gM) :=
  L_MO_race_85 x4 (fun v5 m6 => J_MO_race_103 x1 x5 v5 m6) 1000 0 m5
def J_MO_race_76 (rec_9 : Int32 → gM → Option (gM)) (v7 : Int32) (m8 : gM) : Option (gM) :=
  rec_9 (v7 + 1) m8
def L_MO_race_9 (x1 : Int32) (x2 : Int32) (x3 : Int32) (x5 : Int32) (k_9 : Int32 → gM → Option (gM)) : Nat → Int32 → gM → Option (gM) :=
  gfix (fun rec_9 v6 m7 =>
    if v6 < x1 then (gok (gib v6 6) (gok (gib ((4 * x5) + v6) 64) (glet (gst m7 124 ((4 * x5) + v6) (-(grd m7 100 v6))) fun (m9 : gM) => if ((x5 >>> (v6 &&& 31)) &&& 1) = 1 then (gok (gib v6 6) ((f_MO_addWell v6 (grd m9 104 v6) x2 m9).bind fun (r4 : gM) => gok (gib ((4 * x5) + v6) 64) (gok (gib ((4 * x5) + v6) 64) (glet (gst r4 124 ((4 * x5) + v6) ((grd r4 124 ((4 * x5) + v6)) - x3)) fun (m10 : gM) => J_MO_race_76 rec_9 v6 m10)))) else (J_MO_race_76 rec_9 v6 m9)))) else (k_9 v6 m7)) (fun _ _ => none)
def f_MO_race (x1 : Int32) (x2 : Int32) (x3 : Int32) (x4 : Int32) (x5 : Int32) (m : gM) : Option (gM) :=
  (f_MO_turnPage 3 1 m).bind fun (r3 : gM) => L_MO_race_9 x1 x2 x3 x5 (fun v6 m7 => J_MO_race_82 x1 x4 x5 v6 m7) 1000 0 r3
def f_MO_gain (x1 : Int32) (x2 : Int32) (x3 : Int32) (x4 : Int32) (x5 : Int32) (x6 : Int32) (m : gM) : Option (Int32 × gM) :=
  (f_MO_isRace x1 x2 x3 x4 m).bind fun (r1 : Int32 × gM) => if r1.1 = 0 then (some ((-100000), r1.2)) else ((f_MO_in (Int32.toInt64 x5) (Int32.toInt64 0) (Int32.toInt64 (((1 : Int32) <<< (x1 &&& 31)) - 1)) r1.2).bind fun (r2 : Int32 × gM) => if r2.1 = 0 then (some ((-100000), r2.2)) else ((f_MO_in (Int32.toInt64 x6) (Int32.toInt64 0) (Int32.toInt64 (x1 - 1)) r2.2).bind fun (r3 : Int32 × gM) => if r3.1 = 0 then (some ((-100000), r3.2)) else ((f_MO_haveSpots x1 r3.2).bind fun (r4 : Int32 × gM) => if r4.1 = 0 then (some ((-100002), r4.2)) else ((f_MO_race x1 x2 x3 x4 x5 r4.2).bind fun (r5 : gM) => gok (gib ((4 * x5) + x6) 64) (some (grd r5 124 ((4 * x5) + x6), r5))))))
def L_MO_raceAll_3 (x1 : Int32) (x2 : Int32) (x3 : Int32) (x4 : Int32) : Nat → Int32 → gM → Option (gM) :=
  gfix (fun rec_3 v1 m1 =>
    if v1 < ((1 : Int32) <<< (x1 &&& 31)) then ((f_MO_race x1 x2 x3 x4 v1 m1).bind fun (r1 : gM) => rec_3 (v1 + 1) r1) else (some m1)) (fun _ _ => none)
def f_MO_raceAll (x1 : Int32) (x2 : Int32) (x3 : Int32) (x4 : Int32) (m : gM) : Option (gM) :=
  L_MO_raceAll_3 x1 x2 x3 x4 1000 0 m
def J_MO_isSteady_50 (rec_5 : Int32 → Int32 → Option (Int32 × gM)) (v3 : Int32) (v4 : Int32) (v5 : Int32) : Option (Int32 × gM) :=
  rec_5 v5 (v4 + 1)
def J_MO_isSteady_49 (rec_5 : Int32 → Int32 → Option (Int32 × gM)) (v6 : Int32) (v7 : Int32) : Option (Int32 × gM) :=
  J_MO_isSteady_50 rec_5 v6 v7 0
def L_MO_isSteady_5 (x1 : Int32) (x2 : Int32) (m : gM) : Nat → Int32 → Int32 → Option (Int32 × gM) :=
  gfix (fun rec_5 v1 v2 =>
    if v2 < x1 then (if v1 = 0 then (J_MO_isSteady_49 rec_5 v1 v2) else (gok (gib ((4 * (x2 ^^^ ((1 : Int32) <<< (v2 &&& 31)))) + v2) 64) (gok (gib ((4 * x2) + v2) 64) (if (grd m 124 ((4 * x2) + v2)) < (grd m 124 ((4 * (x2 ^^^ ((1 : Int32) <<< (v2 &&& 31)))) + v2)) then (J_MO_isSteady_49 rec_5 v1 v2) else (J_MO_isSteady_50 rec_5 v1 v2 1))))) else (gzo v1 (some (v1, m)))) (fun _ _ => none)
def f_MO_isSteady (x1 : Int32) (x2 : Int32) (m : gM) : Option (Int32 × gM) :=
  L_MO_isSteady_5 x1 x2 m 1000 1 0
def L_MO_sumOf_5 (x1 : Int32) (x2 : Int32) (m : gM) : Nat → Int32 → Int32 → Option (Int32 × gM) :=
  gfix (fun rec_5 v1 v2 =>
    if v2 < x1 then (gok (gib ((4 * x2) + v2) 64) (glet (v1 + (grd m 124 ((4 * x2) + v2))) fun (v3 : Int32) => rec_5 v3 (v2 + 1))) else (some (v1, m))) (fun _ _ => none)
def f_MO_sumOf (x1 : Int32) (x2 : Int32) (m : gM) : Option (Int32 × gM) :=
  L_MO_sumOf_5 x1 x2 m 1000 0 0
def J_MO_steady_162 (x5 : Int32) (v1 : Int32) (v2 : Int32) (v3 : Int32) (v4 : Int32) (v5 : Int32) (m1 : gM) : Option (Int32 × gM) :=
  if x5 = 0 then (some (v1, m1)) else (if x5 = 1 then (some (v2, m1)) else (if x5 = 2 then (some (v3, m1)) else (some (v4, m1))))
def J_MO_steady_154 (rec_64 : Int32 → Int32 → Int32 → Int32 → Int32 → gM → Option (Int32 × gM)) (v11 : Int32) (v12 : Int32) (v13 : Int32) (v14 : Int32) (v15 : Int32) (v16 : Int32) (m3 : gM) : Option (Int32 × gM) :=
  rec_64 v11 v12 v13 v16 (v15 + 1) m3
def J_MO_steady_130 (x1 : Int32) (rec_64 : Int32 → Int32 → Int32 → Int32 → Int32 → gM → Option (Int32 × gM)) (v17 : Int32) (v18 : Int32) (v19 : Int32) (v20 : Int32) (v21 : Int32) (m4 : gM) : Option (Int32 × gM) :=
  (f_MO_sumOf x1 v21 m4).bind fun (r5 : Int32 × gM) => (f_MO_sumOf x1 v20 r5.2).bind fun (r6 : Int32 × gM) => if r6.1 < r5.1 then (J_MO_steady_154 rec_64 v17 v18 v19 v20 v21 v21 r6.2) else (J_MO_steady_154 rec_64 v17 v18 v19 v20 v21 v20 r6.2)
def J_MO_steady_125 (x1 : Int32) (rec_64 : Int32 → Int32 → Int32 → Int32 → Int32 → gM → Option (Int32 × gM)) (v22 : Int32) (v23 : Int32) (v24 : Int32) (v25 : Int32) (v26 : Int32) (v27 : Int32) (m5 : gM) : Option (Int32 × gM) :=
  J_MO_steady_130 x1 rec_64 (v22 + 1) v23 v27 v25 v26 m5
def J_MO_steady_118 (x1 : Int32) (rec_64 : Int32 → Int32 → Int32 → Int32 → Int32 → gM → Option (Int32 × gM)) (v28 : Int32) (v29 : Int32) (v30 : Int32) (v31 : Int32) (v32 : Int32) (m6 : gM) : Option (Int32 × gM) :=
  J_MO_steady_125 x1 rec_64 v28 v29 v30 v31 v32 v32 m6
def J_MO_steady_94 (x1 : Int32) (rec_64 : Int32 → Int32 → Int32 → Int32 → Int32 → gM → Option (Int32 × gM)) (v33 : Int32) (v34 : Int32) (v35 : Int32) (v36 : Int32) (v37 : Int32) (v38 : Int32) (m7 : gM) : Option (Int32 × gM) :=
  if v33 = 0 then (J_MO_steady_118 x1 rec_64 v33 v38 v35 v36 v37 m7) else ((f_MO_sumOf x1 v37 m7).bind fun (r7 : Int32 × gM) => (f_MO_sumOf x1 v35 r7.2).bind fun (r8 : Int32 × gM) => if r8.1 < r7.1 then (J_MO_steady_118 x1 rec_64 v33 v38 v35 v36 v37 r8.2) else (J_MO_steady_125 x1 rec_64 v33 v38 v35 v36 v37 v35 r8.2))
def L_MO_steady_64 (x1 : Int32) (k_64 : Int32 → Int32 → Int32 → Int32 → Int32 → gM → Option (Int32 × gM)) : Nat → Int32 → Int32 → Int32 → Int32 → Int32 → gM → Option (Int32 × gM) :=
  gfix (fun rec_64 v6 v7 v8 v9 v10 m2 =>
    if v10 < ((1 : Int32) <<< (x1 &&& 31)) then ((f_MO_isSteady x1 v10 m2).bind fun (r9 : Int32 × gM) => if r9.1 = 0 then (J_MO_steady_130 x1 rec_64 v6 v7 v8 v9 v10 r9.2) else (if v6 = 0 then (J_MO_steady_94 x1 rec_64 v6 v7 v8 v9 v10 v10 r9.2) else (J_MO_steady_94 x1 rec_64 v6 v7 v8 v9 v10 v7 r9.2))) else (k_64 v6 v7 v8 v9 v10 m2)) (fun _ _ _ _ _ _ => none)
def f_MO_steady (x1 : Int32) (x2 : Int32) (x3 : Int32) (x4 : Int32) (x5 : Int32) (m : gM) : Option (Int32 × gM) :=
  (f_MO_isRace x1 x2 x3 x4 m).bind fun (r1 : Int32 × gM) => if r1.1 = 0 then (some ((-1), r1.2)) else ((f_MO_in (Int32.toInt64 x5) (Int32.toInt64 0) (Int32.toInt64 3) r1.2).bind fun (r2 : Int32 × gM) => if r2.1 = 0 then (some ((-1), r2.2)) else ((f_MO_haveSpots x1 r2.2).bind fun (r3 : Int32 × gM) => if r3.1 = 0 then (some ((-2), r3.2)) else ((f_MO_raceAll x1 x2 x3 x4 r3.2).bind fun (r4 : gM) => L_MO_steady_64 x1 (fun v6 v7 v8 v9 v10 m2 => J_MO_steady_162 x5 v6 v7 v8 v9 v10 m2) 1000 0 (-4) (-4) 0 0 r4)))
def J_MO_must_167 (v1 : Int32) (v2 : Int32) (v3 : Int32) (v4 : Int32) (m1 : gM) : Option (Int32 × gM) :=
  if v1 = 0 then (if v2 = 0 then (some (0, m1)) else (if v3 = 0 then (some (0, m1)) else (some (1, m1)))) else (some (2, m1))
def J_MO_must_161 (rec_60 : Int32 → Int32 → Int32 → Int32 → Option (Int32 × gM)) (v9 : Int32) (v10 : Int32) (v11 : Int32) (v12 : Int32) : Option (Int32 × gM) :=
  rec_60 v9 v10 v11 (v12 + 1)
def J_MO_must_159 (rec_60 : Int32 → Int32 → Int32 → Int32 → Option (Int32 × gM)) (v13 : Int32) (v14 : Int32) (v15 : Int32) (v16 : Int32) (v17 : Int32) : Option (Int32 × gM) :=
  J_MO_must_161 rec_60 v13 v14 v17 v16
def J_MO_must_154 (rec_60 : Int32 → Int32 → Int32 → Int32 → Option (Int32 × gM)) (v18 : Int32) (v19 : Int32) (v20 : Int32) (v21 : Int32) : Option (Int32 × gM) :=
  J_MO_must_159 rec_60 v18 v19 v20 v21 1
def J_MO_must_142 (rec_60 : Int32 → Int32 → Int32 → Int32 → Option (Int32 × gM)) (v22 : Int32) (v23 : Int32) (v24 : Int32) (v25 : Int32) (v26 : Int32) (v27 : Int32) : Option (Int32 × gM) :=
  if v24 = 0 then (if 0 < v26 then (J_MO_must_154 rec_60 v22 v27 v24 v25) else (J_MO_must_159 rec_60 v22 v27 v24 v25 0)) else (J_MO_must_154 rec_60 v22 v27 v24 v25)
def J_MO_must_141 (rec_60 : Int32 → Int32 → Int32 → Int32 → Option (Int32 × gM)) (v28 : Int32) (v29 : Int32) (v30 : Int32) (v31 : Int32) (v32 : Int32) : Option (Int32 × gM) :=
  J_MO_must_142 rec_60 v28 v29 v30 v31 v32 0
def J_MO_must_125 (rec_60 : Int32 → Int32 → Int32 → Int32 → Option (Int32 × gM)) (v33 : Int32) (v34 : Int32) (v35 : Int32) (v36 : Int32) (v37 : Int32) (v38 : Int32) : Option (Int32 × gM) :=
  if v34 = 0 then (J_MO_must_141 rec_60 v38 v34 v35 v36 v37) else (if v37 < 0 then (J_MO_must_141 rec_60 v38 v34 v35 v36 v37) else (J_MO_must_142 rec_60 v38 v34 v35 v36 v37 1))
def J_MO_must_124 (rec_60 : Int32 → Int32 → Int32 → Int32 → Option (Int32 × gM)) (v39 : Int32) (v40 : Int32) (v41 : Int32) (v42 : Int32) (v43 : Int32) : Option (Int32 × gM) :=
  J_MO_must_125 rec_60 v39 v40 v41 v42 v43 0
def L_MO_must_60 (x1 : Int32) (x5 : Int32) (r4 : gM) (k_60 : Int32 → Int32 → Int32 → Int32 → Option (Int32 × gM)) : Nat → Int32 → Int32 → Int32 → Int32 → Option (Int32 × gM) :=
  gfix (fun rec_60 v5 v6 v7 v8 =>
    if v8 < ((1 : Int32) <<< (x1 &&& 31)) then (if ((v8 >>> (x5 &&& 31)) &&& 1) = 0 then (gok (gib ((4 * (v8 ||| ((1 : Int32) <<< (x5 &&& 31)))) + x5) 64) (gok (gib ((4 * v8) + x5) 64) (glet ((grd r4 124 ((4 * (v8 ||| ((1 : Int32) <<< (x5 &&& 31)))) + x5)) - (grd r4 124 ((4 * v8) + x5))) fun (v44 : Int32) => if v5 = 0 then (J_MO_must_124 rec_60 v5 v6 v7 v8 v44) else (if 0 < v44 then (J_MO_must_125 rec_60 v5 v6 v7 v8 v44 1) else (J_MO_must_124 rec_60 v5 v6 v7 v8 v44))))) else (J_MO_must_161 rec_60 v5 v6 v7 v8)) else (k_60 v5 v6 v7 v8)) (fun _ _ _ _ => none)
def f_MO_must (x1 : Int32) (x2 : Int32) (x3 : Int32) (x4 : Int32) (x5 : Int32) (m : gM) : Option (Int32 × gM) :=
  (f_MO_isRace x1 x2 x3 x4 m).bind fun (r1 : Int32 × gM) => if r1.1 = 0 then (some ((-1), r1.2)) else ((f_MO_in (Int32.toInt64 x5) (Int32.toInt64 0) (Int32.toInt64 (x1 - 1)) r1.2).bind fun (r2 : Int32 × gM) => if r2.1 = 0 then (some ((-1), r2.2)) else ((f_MO_haveSpots x1 r2.2).bind fun (r3 : Int32 × gM) => if r3.1 = 0 then (some ((-2), r3.2)) else ((f_MO_raceAll x1 x2 x3 x4 r3.2).bind fun (r4 : gM) => L_MO_must_60 x1 x5 r4 (fun v5 v6 v7 v8 => J_MO_must_167 v5 v6 v7 v8 r4) 1000 1 1 0 0)))
def L_MO_sheet_56 (x1 : Int32) : Nat → Int32 → gM → Option (Int32 × gM) :=
  gfix (fun rec_56 v1 m3 =>
    if v1 < 72 then (gok (gib ((72 * x1) + v1) 288) (glet (gst m3 127 ((72 * x1) + v1) 0) fun (m4 : gM) => rec_56 (v1 + 1) m4)) else (some (1, m3))) (fun _ _ => none)
def f_MO_sheet (x1 : Int32) (x2 : Int32) (x3 : Int32) (m : gM) : Option (Int32 × gM) :=
  (f_MO_in (Int32.toInt64 x1) (Int32.toInt64 0) (Int32.toInt64 3) m).bind fun (r1 : Int32 × gM) => if r1.1 = 0 then (some ((-1), r1.2)) else ((f_MO_in (Int32.toInt64 x2) (Int32.toInt64 0) (Int32.toInt64 2) r1.2).bind fun (r2 : Int32 × gM) => if r2.1 = 0 then (some ((-1), r2.2)) else (if 72 < x3 then (some ((-1), r2.2)) else (if x3 < 0 then (some ((-14), r2.2)) else (gok (gib x1 4) (glet (gst r2.2 125 x1 x2) fun (m1 : gM) => gok (gib x1 4) (glet (gst m1 126 x1 x3) fun (m2 : gM) => L_MO_sheet_56 x1 1000 0 m2))))))
def J_MO_write_99 (v1 : Int32) (v2 : Int32) (m1 : gM) : Option (Int32 × gM) :=
  gok (gib v1 288) (glet (gst m1 127 v1 v2) fun (m2 : gM) => some (1, m2))
def f_MO_write (x1 : Int32) (x2 : Int32) (x3 : Int32) (m : gM) : Option (Int32 × gM) :=
  (f_MO_in (Int32.toInt64 x1) (Int32.toInt64 0) (Int32.toInt64 3) m).bind fun (r1 : Int32 × gM) => if r1.1 = 0 then (some ((-1), r1.2)) else (gok (gib x1 4) (if (grd r1.2 125 x1) = (-4) then (some ((-11), r1.2)) else (gok (gib x1 4) ((f_MO_in (Int32.toInt64 x2) (Int32.toInt64 0) (Int32.toInt64 ((grd r1.2 126 x1) - 1)) r1.2).bind fun (r2 : Int32 × gM) => if r2.1 = 0 then (some ((-12), r2.2)) else (gok (gib x1 4) (if (grd r2.2 125 x1) = 0 then (J_MO_write_99 ((72 * x1) + x2) ((x3 <<< (24 &&& 31)) >>> (24 &&& 31)) r2.2) else (gok (gib x1 4) (if (grd r2.2 125 x1) = 1 then (J_MO_write_99 ((72 * x1) + x2) ((x3 <<< (16 &&& 31)) >>> (16 &&& 31)) r2.2) else (J_MO_write_99 ((72 * x1) + x2) x3 r2.2)))))))))
def L_MO_scan_135 (x1 : Int32) (x3 : Int32) : Nat → Int32 → Int32 → gM → Option (Int32 × gM) :=
  gfix (fun rec_135 v2 v3 m2 =>
    (f_MO_cells m2).bind fun (r1 : Int32 × gM) => if v3 < r1.1 then (gok (gib (((72 * x1) + x3) + v3) 288) ((f_MO_putOil v3 (grd r1.2 127 (((72 * x1) + x3) + v3)) r1.2).bind fun (r2 : gM) => gok (gib (((72 * x1) + x3) + v3) 288) (glet (v2 + (grd r2 127 (((72 * x1) + x3) + v3))) fun (v4 : Int32) => rec_135 v4 (v3 + 1) r2))) else (some (v2, r1.2))) (fun _ _ _ => none)
def J_MO_scan_129 (x1 : Int32) (x3 : Int32) (v1 : Int32) (m1 : gM) : Option (Int32 × gM) :=
  L_MO_scan_135 x1 x3 1000 0 0 m1
def J_MO_scan_117 (v5 : Int32) (m3 : gM) : Option (Int32 × gM) :=
  some ((-100) - v5, m3)
def L_MO_scan_58 (x1 : Int32) (x3 : Int32) (k_58 : Int32 → gM → Option (Int32 × gM)) : Nat → Int32 → gM → Option (Int32 × gM) :=
  gfix (fun rec_58 v6 m4 =>
    (f_MO_cells m4).bind fun (r5 : Int32 × gM) => if v6 < r5.1 then (gok (gib x1 4) ((f_MO_in ((Int32.toInt64 x3) + (Int32.toInt64 v6)) (Int32.toInt64 0) (Int32.toInt64 ((grd r5.2 126 x1) - 1)) r5.2).bind fun (r6 : Int32 × gM) => if r6.1 = 0 then (some ((-12), r6.2)) else (gok (gib (((72 * x1) + x3) + v6) 288) ((f_MO_in (Int32.toInt64 (grd r6.2 127 (((72 * x1) + x3) + v6))) (Int32.toInt64 0) (Int32.toInt64 999) r6.2).bind fun (r7 : Int32 × gM) => if r7.1 = 0 then (J_MO_scan_117 v6 r7.2) else (rec_58 (v6 + 1) r7.2))))) else (k_58 v6 r5.2)) (fun _ _ => none)
def f_MO_scan (x1 : Int32) (x2 : Int32) (x3 : Int32) (m : gM) : Option (Int32 × gM) :=
  (f_MO_in (Int32.toInt64 x1) (Int32.toInt64 0) (Int32.toInt64 3) m).bind fun (r3 : Int32 × gM) => if r3.1 = 0 then (some ((-1), r3.2)) else ((f_MO_in (Int32.toInt64 x2) (Int32.toInt64 0) (Int32.toInt64 2) r3.2).bind fun (r4 : Int32 × gM) => if r4.1 = 0 then (some ((-1), r4.2)) else (gok (gib x1 4) (if (grd r4.2 125 x1) = x2 then (L_MO_scan_58 x1 x3 (fun v6 m4 => J_MO_scan_129 x1 x3 v6 m4) 1000 0 r4.2) else (gok (gib x1 4) (if (grd r4.2 125 x1) = (-4) then (some ((-11), r4.2)) else (some ((-13), r4.2)))))))
def J_MO_count_87 (x1 : Int32) (v1 : Int32) (v2 : Int32) (v3 : Int32) (v4 : Int32) (v5 : Int32) (m1 : gM) : Option (Int32 × gM) :=
  gswo x1 [(0, (f_MO_cells m1).bind fun (r1 : Int32 × gM) => some (r1.1, r1.2)), (1, some (v1, m1)), (2, some (v2, m1)), (3, some (gfd m1 81 8, m1)), (4, some (gfd m1 81 10, m1)), (5, some (gfd m1 81 15, m1)), (6, some (gfd m1 81 48, m1)), (7, some (gfd m1 81 2, m1)), (8, some (v3, m1)), (9, some (v4, m1)), (10, (f_MO_hotAll m1).bind fun (r2 : Int32 × gM) => some (r2.1, r2.2)), (11, some (gfd m1 81 60, m1)), (12, some (gfd m1 81 37, m1)), (13, gok (gib 0 4) (if (grd m1 125 0) = (-4) then (some ((-4), m1)) else (gok (gib 0 4) (some (grd m1 126 0, m1)))))] (some ((-1), m1))
def L_MO_count_50 (m2 : gM) (k_50 : Int32 → Int32 → Int32 → Option (Int32 × gM)) : Nat → Int32 → Int32 → Int32 → Option (Int32 × gM) :=
  gfix (fun rec_50 v11 v12 v13 =>
    if v13 < 6 then (gok (gib v13 6) (glet (v11 + (grd m2 100 v13)) fun (v14 : Int32) => gok (gib v13 6) (glet (v12 + (grd m2 101 v13)) fun (v15 : Int32) => rec_50 v14 v15 (v13 + 1)))) else (k_50 v11 v12 v13)) (fun _ _ _ => none)
def J_MO_count_47 (x1 : Int32) (v6 : Int32) (v7 : Int32) (v8 : Int32) (v9 : Int32) (v10 : Int32) (m2 : gM) : Option (Int32 × gM) :=
  L_MO_count_50 m2 (fun v11 v12 v13 => J_MO_count_87 x1 v6 v7 v11 v12 v13 m2) 1000 v8 v9 0
def L_MO_count_13  (k_13 : Int32 → Int32 → Int32 → gM → Option (Int32 × gM)) : Nat → Int32 → Int32 → Int32 → gM → Option (Int32 × gM) :=
  gfix (fun rec_13 v16 v17 v18 m3 =>
    (f_MO_cells m3).bind fun (r3 : Int32 × gM) => if v18 < r3.1 then ((f_MO_oilOf v18 r3.2).bind fun (r4 : Int32 × gM) => glet (v16 + r4.1) fun (v19 : Int32) => gok (gib v18 36) (glet (v17 + (grd r4.2 84 v18)) fun (v20 : Int32) => rec_13 v19 v20 (v18 + 1) r4.2)) else (k_13 v16 v17 v18 r3.2)) (fun _ _ _ _ => none)
def f_MO_count (x1 : Int32) (m : gM) : Option (Int32 × gM) :=
  L_MO_count_13 (fun v16 v17 v18 m3 => J_MO_count_47 x1 v16 v17 0 0 v18 m3) 1000 0 0 0 m
