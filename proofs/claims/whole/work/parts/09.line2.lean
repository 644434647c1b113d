/-! What a line's writes do to it. -/
def lSetO (u : LnR) (o : Nat → Int32) (n : Nat) : LnR := (o, lNu u, lCk u, lKe u, lTi u, lGa u, lOf u, n)
def lLeave (u : LnR) (p : Nat) : LnR := lSetO u (upd (va_cpy (lO u) (lO u) (p + 1) p (lSz u - p - 1)) (lSz u - 1) (lO u p)) (lSz u - 1)
def lSort (u : LnR) (k : Nat) : LnR := lSetO u (upd (va_cpy (lO u) (lO u) k (k + 1) (lSz u - k)) k (lO u (lSz u))) (lSz u + 1)
abbrev lSl (u : LnR) : Nat := (lO u (lSz u)).toNatClampNeg
def lPut (u : LnR) (a : Ent) : LnR := (lO u, upd (lNu u) (lSl u) (eN a), upd (lCk u) (lSl u) (eC a), vp_updL (lKe u) (lSl u) (eK a), vp_updL (lTi u) (lSl u) (eT a), vp_updL (lGa u) (lSl u) (eG a), upd (lOf u) (lSl u) (eO a), lSz u)
def lPutT (u : LnR) (t : Int64) : LnR := (lO u, lNu u, lCk u, lKe u, vp_updL (lTi u) (lSl u) t, lGa u, lOf u, lSz u)
def lAgain (u : LnR) (x : Int32) : LnR := (lO u, upd (lNu u) (lSl u) x, lCk u, lKe u, vp_updL (lTi u) (lSl u) (lTi u (lSl u) + lGa u (lSl u)), lGa u, upd (lOf u) (lSl u) (lOf u (lSl u) - 1), lSz u)
theorem lAb_len (u : LnR) : (lAb u).length = lSz u := by simp [lAb]
theorem lAb_get (u : LnR) (i : Nat) : (lAb u)[i]? = if i < lSz u then some (lAt u i) else none := by
  unfold lAb
  rw [List.getElem?_map]
  by_cases h : i < lSz u
  · rw [List.getElem?_range h, if_pos h]; rfl
  · rw [if_neg h, List.getElem?_eq_none (by rw [List.length_range]; omega)]; rfl
theorem lEnt_setO (u : LnR) (o : Nat → Int32) (n j : Nat) : lEnt (lSetO u o n) j = lEnt u j := rfl
theorem lLeave_o (u : LnR) {p : Nat} (hp : p < lSz u) (i : Nat) : lO (lLeave u p) i = if i = lSz u - 1 then lO u p else if p ≤ i ∧ i < lSz u - 1 then lO u (i + 1) else lO u i := by
  show upd (va_cpy (lO u) (lO u) (p + 1) p (lSz u - p - 1)) (lSz u - 1) (lO u p) i = _
  unfold upd va_cpy
  by_cases h1 : i = lSz u - 1
  · rw [if_pos h1, if_pos h1]
  · rw [if_neg h1, if_neg h1]
    by_cases h2 : p ≤ i ∧ i < lSz u - 1
    · rw [if_pos h2, if_pos (by omega), show p + 1 + (i - p) = i + 1 by omega]
    · rw [if_neg h2, if_neg (by omega)]
theorem lSort_o (u : LnR) {k : Nat} (hk : k ≤ lSz u) (i : Nat) : lO (lSort u k) i = if i = k then lO u (lSz u) else if k < i ∧ i ≤ lSz u then lO u (i - 1) else lO u i := by
  show upd (va_cpy (lO u) (lO u) k (k + 1) (lSz u - k)) k (lO u (lSz u)) i = _
  unfold upd va_cpy
  by_cases h1 : i = k
  · rw [if_pos h1, if_pos h1]
  · rw [if_neg h1, if_neg h1]
    by_cases h2 : k < i ∧ i ≤ lSz u
    · rw [if_pos h2, if_pos (by omega), show k + (i - (k + 1)) = i - 1 by omega]
    · rw [if_neg h2, if_neg (by omega)]
theorem lLeave_ok {u : LnR} (h : LnOk u) {p : Nat} (hp : p < lSz u) : LnOk (lLeave u p) := by
  obtain ⟨h1, h2, h3⟩ := h
  have key : ∀ i, i < 40 → ∃ j, j < 40 ∧ lO (lLeave u p) i = lO u j ∧ j = if i = lSz u - 1 then p else if p ≤ i ∧ i < lSz u - 1 then i + 1 else i := by
    intro i hi
    rw [lLeave_o u hp]
    by_cases e1 : i = lSz u - 1
    · rw [if_pos e1, if_pos e1]; exact ⟨p, by omega, rfl, rfl⟩
    · rw [if_neg e1, if_neg e1]
      by_cases e2 : p ≤ i ∧ i < lSz u - 1
      · rw [if_pos e2, if_pos e2]; exact ⟨i + 1, by omega, rfl, rfl⟩
      · rw [if_neg e2, if_neg e2]; exact ⟨i, hi, rfl, rfl⟩
  refine ⟨show lSz u - 1 ≤ 40 by omega, fun i hi => ?_, fun i j hi hj e => ?_⟩
  · obtain ⟨a, ha, e1, -⟩ := key i hi
    rw [e1]; exact h2 a ha
  · obtain ⟨a, ha, e1, e2⟩ := key i hi
    obtain ⟨b, hb, e3, e4⟩ := key j hj
    have := h3 a b ha hb (by rw [← e1, ← e3, e])
    repeat' split at e2
    all_goals repeat' split at e4
    all_goals omega
theorem lSort_ok {u : LnR} (h : LnOk u) (hn : lSz u < 40) {k : Nat} (hk : k ≤ lSz u) : LnOk (lSort u k) := by
  obtain ⟨h1, h2, h3⟩ := h
  have key : ∀ i, i < 40 → ∃ j, j < 40 ∧ lO (lSort u k) i = lO u j ∧ j = if i = k then lSz u else if k < i ∧ i ≤ lSz u then i - 1 else i := by
    intro i hi
    rw [lSort_o u hk]
    by_cases e1 : i = k
    · rw [if_pos e1, if_pos e1]; exact ⟨lSz u, by omega, rfl, rfl⟩
    · rw [if_neg e1, if_neg e1]
      by_cases e2 : k < i ∧ i ≤ lSz u
      · rw [if_pos e2, if_pos e2]; exact ⟨i - 1, by omega, rfl, rfl⟩
      · rw [if_neg e2, if_neg e2]; exact ⟨i, hi, rfl, rfl⟩
  refine ⟨show lSz u + 1 ≤ 40 by omega, fun i hi => ?_, fun i j hi hj e => ?_⟩
  · obtain ⟨a, ha, e1, -⟩ := key i hi
    rw [e1]; exact h2 a ha
  · obtain ⟨a, ha, e1, e2⟩ := key i hi
    obtain ⟨b, hb, e3, e4⟩ := key j hj
    have := h3 a b ha hb (by rw [← e1, ← e3, e])
    repeat' split at e2
    all_goals repeat' split at e4
    all_goals omega
theorem lLeave_ab {u : LnR} {p : Nat} (hp : p < lSz u) : lAb (lLeave u p) = (lAb u).eraseIdx p := by
  apply List.ext_getElem?
  intro i
  rw [lAb_get, List.getElem?_eraseIdx, lAb_get, lAb_get]
  have hz : lSz (lLeave u p) = lSz u - 1 := rfl
  have ha : lAt (lLeave u p) i = lEnt u (lO (lLeave u p) i).toNatClampNeg := rfl
  rw [hz, ha, lLeave_o u hp]
  by_cases h1 : i < p
  · rw [if_pos (show i < lSz u - 1 by omega), if_neg (show ¬ i = lSz u - 1 by omega), if_neg (show ¬ (p ≤ i ∧ i < lSz u - 1) by omega), if_pos h1, if_pos (show i < lSz u by omega)]; rfl
  · rw [if_neg h1]
    by_cases h2 : i + 1 < lSz u
    · rw [if_pos (show i < lSz u - 1 by omega), if_pos h2, if_neg (by omega), if_pos (by omega)]; rfl
    · rw [if_neg (show ¬ i < lSz u - 1 by omega), if_neg h2]
theorem lLeave_sl {u : LnR} {p : Nat} (hp : p < lSz u) : lO (lLeave u p) (lSz (lLeave u p)) = lO u p := by
  rw [lLeave_o u hp, if_pos (show lSz (lLeave u p) = lSz u - 1 from rfl)]
theorem lSort_ab {u : LnR} {k : Nat} (hk : k ≤ lSz u) : lAb (lSort u k) = (lAb u).insertIdx k (lAt u (lSz u)) := by
  apply List.ext_getElem?
  intro i
  rw [lAb_get, List.getElem?_insertIdx, lAb_get, lAb_get, lAb_len]
  have hz : lSz (lSort u k) = lSz u + 1 := rfl
  have ha : lAt (lSort u k) i = lEnt u (lO (lSort u k) i).toNatClampNeg := rfl
  rw [hz, ha, lSort_o u hk]
  by_cases h1 : i < k
  · rw [if_pos h1, if_pos (show i < lSz u + 1 by omega), if_neg (by omega), if_neg (by omega), if_pos (show i < lSz u by omega)]; rfl
  · rw [if_neg h1]
    by_cases h2 : i = k
    · rw [if_pos h2, if_pos h2, if_pos (show i < lSz u + 1 by omega)]
      rw [if_pos (by omega)]; rfl
    · rw [if_neg h2, if_neg h2]
      by_cases h3 : i < lSz u + 1
      · rw [if_pos h3, if_pos (by omega), if_pos (by omega)]; rfl
      · rw [if_neg h3, if_neg (by omega)]
/-- the slots of two places differ -/
theorem lSlot_ne {u : LnR} (h : LnOk u) {i j : Nat} (hi : i < 40) (hj : j < 40) (hne : i ≠ j) : (lO u i).toNatClampNeg ≠ (lO u j).toNatClampNeg := by
  intro e
  obtain ⟨a, ha, ea⟩ := vp_in_of (h.2.1 i hi) (by decide)
  obtain ⟨b, hb, eb⟩ := vp_in_of (h.2.1 j hj) (by decide)
  rw [ea, eb, nI_clamp (by omega), nI_clamp (by omega)] at e
  exact hne (h.2.2 i j hi hj (by rw [ea, eb, e]))
theorem lPut_ok {u : LnR} (h : LnOk u) (a : Ent) : LnOk (lPut u a) := h
theorem lPutT_ok {u : LnR} (h : LnOk u) (t : Int64) : LnOk (lPutT u t) := h
theorem lAgain_ok {u : LnR} (h : LnOk u) (x : Int32) : LnOk (lAgain u x) := h
theorem lPut_at {u : LnR} (h : LnOk u) (hn : lSz u < 40) (a : Ent) {i : Nat} (hi : i < lSz u) : lAt (lPut u a) i = lAt u i := by
  have hne := lSlot_ne h (show i < 40 by omega) hn (by omega)
  show ((upd (lNu u) (lSl u) (eN a)) (lO u i).toNatClampNeg, (upd (lCk u) (lSl u) (eC a)) (lO u i).toNatClampNeg, (vp_updL (lKe u) (lSl u) (eK a)) (lO u i).toNatClampNeg, (vp_updL (lTi u) (lSl u) (eT a)) (lO u i).toNatClampNeg, (vp_updL (lGa u) (lSl u) (eG a)) (lO u i).toNatClampNeg, (upd (lOf u) (lSl u) (eO a)) (lO u i).toNatClampNeg) = lAt u i
  rw [pk_un hne, pk_un hne, pk_uLn hne, pk_uLn hne, pk_uLn hne, pk_un hne]; rfl
theorem lPut_new (u : LnR) (a : Ent) : lAt (lPut u a) (lSz u) = a := by
  show ((upd (lNu u) (lSl u) (eN a)) (lSl u), (upd (lCk u) (lSl u) (eC a)) (lSl u), (vp_updL (lKe u) (lSl u) (eK a)) (lSl u), (vp_updL (lTi u) (lSl u) (eT a)) (lSl u), (vp_updL (lGa u) (lSl u) (eG a)) (lSl u), (upd (lOf u) (lSl u) (eO a)) (lSl u)) = a
  rw [pk_us, pk_us, pk_uLs, pk_uLs, pk_uLs, pk_us]
theorem lPutT_at {u : LnR} (h : LnOk u) (hn : lSz u < 40) (t : Int64) {i : Nat} (hi : i < lSz u) : lAt (lPutT u t) i = lAt u i := by
  have hne := lSlot_ne h (show i < 40 by omega) hn (by omega)
  show (lNu u (lO u i).toNatClampNeg, lCk u (lO u i).toNatClampNeg, lKe u (lO u i).toNatClampNeg, (vp_updL (lTi u) (lSl u) t) (lO u i).toNatClampNeg, lGa u (lO u i).toNatClampNeg, lOf u (lO u i).toNatClampNeg) = lAt u i
  rw [pk_uLn hne]; rfl
/-- another time -/
def eSetT (a : Ent) (t : Int64) : Ent := (eN a, eC a, eK a, t, eG a, eO a)
/-- set again -/
def eAgain (a : Ent) (x : Int32) : Ent := (x, eC a, eK a, eT a + eG a, eG a, eO a - 1)
theorem lPutT_new (u : LnR) (t : Int64) : lAt (lPutT u t) (lSz u) = eSetT (lAt u (lSz u)) t := by
  show (lNu u (lSl u), lCk u (lSl u), lKe u (lSl u), (vp_updL (lTi u) (lSl u) t) (lSl u), lGa u (lSl u), lOf u (lSl u)) = _
  rw [pk_uLs]; rfl
theorem lAgain_at {u : LnR} (h : LnOk u) (hn : lSz u < 40) (x : Int32) {i : Nat} (hi : i < lSz u) : lAt (lAgain u x) i = lAt u i := by
  have hne := lSlot_ne h (show i < 40 by omega) hn (by omega)
  show ((upd (lNu u) (lSl u) x) (lO u i).toNatClampNeg, lCk u (lO u i).toNatClampNeg, lKe u (lO u i).toNatClampNeg, (vp_updL (lTi u) (lSl u) _) (lO u i).toNatClampNeg, lGa u (lO u i).toNatClampNeg, (upd (lOf u) (lSl u) _) (lO u i).toNatClampNeg) = lAt u i
  rw [pk_un hne, pk_uLn hne, pk_un hne]; rfl
theorem lAgain_new (u : LnR) (x : Int32) : lAt (lAgain u x) (lSz u) = eAgain (lAt u (lSz u)) x := by
  show ((upd (lNu u) (lSl u) x) (lSl u), lCk u (lSl u), lKe u (lSl u), (vp_updL (lTi u) (lSl u) (lTi u (lSl u) + lGa u (lSl u))) (lSl u), lGa u (lSl u), (upd (lOf u) (lSl u) (lOf u (lSl u) - 1)) (lSl u)) = _
  rw [pk_us, pk_uLs, pk_us]; rfl
theorem lAb_cong {u v : LnR} (hz : lSz u = lSz v) (h : ∀ i, i < lSz u → lAt u i = lAt v i) : lAb u = lAb v := by
  apply List.ext_getElem?
  intro i
  rw [lAb_get, lAb_get, ← hz]
  by_cases hi : i < lSz u
  · rw [if_pos hi, if_pos hi, h i hi]
  · rw [if_neg hi, if_neg hi]
