/-! ===== a new field ===== -/
theorem glet_eq {α β : Type} (a : α) (f : α → β) : glet a f = f a := (fun (h : f a = f a) => h) rfl
theorem gbind_eq {α β : Type} (a : α) (f : α → Option β) : (some a).bind f = f a := (fun (h : f a = f a) => h) rfl
theorem pool_new {a w h : Nat} (hw : w ≤ 6) (hh : h ≤ 6) (m : gM) : f_Pool_becomeNew a (nI w) (nI h) m = some (gfil (gfil (gfil (gfil (gcolP (gsf (gsf (gsf m a 0 (nI w)) a 1 (nI h)) a 2 (nI (w * h))) a w (h * w)) (a + 3) 36 5) (a + 4) 36 0) (a + 5) 36 0) (a + 6) 36 0) := by
  unfold f_Pool_becomeNew
  rw [glet_eq, glet_eq, glet_eq, pool_cols hw hh]
  unfold J_Pool_becomeNew_70
  rw [f_fill_eq _ _ _ _ (by decide), gbind_eq, f_fill_eq _ _ _ _ (by decide), gbind_eq, f_fill_eq _ _ _ _ (by decide), gbind_eq, f_fill_eq _ _ _ _ (by decide), gbind_eq, pk_mul]
def gTnew (m : gM) (t w h : Nat) : gM :=
  gsf (gfil (gfil (gfil (gfil (gfil (gfil (gfil (gfil (gsf (gsf (gfil (gfil (gfil (gfil (gfil (gfil (gfil (gcolP (gsf (gsf (gsf m (t + 1 + 1) 0 (nI w)) (t + 1 + 1) 1 (nI h)) (t + 1 + 1) 2 (nI (w * h))) (t + 1 + 1) w (h * w)) (t + 1 + 1 + 3) 36 5) (t + 1 + 1 + 4) 36 0) (t + 1 + 1 + 5) 36 0) (t + 1 + 1 + 6) 36 0) (t + 1 + 8) 36 (-4)) (t + 1 + 9) 324 0) (t + 11 + 1) 8 (-4)) (t + 11) 1 0) (t + 17) 0 0) (t + 17 + 5) 10 0) (t + 17 + 6) 10 0) (t + 17 + 7) 90 0) (t + 17 + 8) 500 0) (t + 26 + 1) 6 0) (t + 26 + 2) 6 0) (t + 26 + 3) 6 0) (t + 26 + 4) 50 0) t 4 0
theorem town_new {t w h : Nat} (hw : w ≤ 6) (hh : h ≤ 6) (m : gM) : f_Town_becomeNew t (nI w) (nI h) m = some (gTnew m t w h) := by
  unfold f_Town_becomeNew f_Ground_becomeNew
  rw [pool_new hw hh, gbind_eq, f_fill_eq _ _ _ _ (by decide), gbind_eq, f_fill_eq _ _ _ _ (by decide), gbind_eq, gbind_eq]
  unfold f_Deeds_clear f_Wells_clear f_Books_clear
  rw [f_fill_eq _ _ _ _ (by decide), gbind_eq, glet_eq, gbind_eq, glet_eq, f_fill_eq _ _ _ _ (by decide), gbind_eq, f_fill_eq _ _ _ _ (by decide), gbind_eq, f_fill_eq _ _ _ _ (by decide), gbind_eq, f_fill_eq _ _ _ _ (by decide), gbind_eq, gbind_eq, f_fill_eq _ _ _ _ (by decide), gbind_eq, f_fill_eq _ _ _ _ (by decide), gbind_eq, f_fill_eq _ _ _ _ (by decide), gbind_eq, f_fill_eq _ _ _ _ (by decide), gbind_eq, gbind_eq, glet_eq]
  unfold gTnew
  with_reducible rfl
