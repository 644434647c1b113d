/-! The order of a line: sorted, places, what a pass does to it. -/
theorem eLt_iff (a b : Ent) : eLt a b = true ↔ (eT a).toInt < (eT b).toInt ∨ ((eT a).toInt = (eT b).toInt ∧ ((eK a).toInt < (eK b).toInt ∨ ((eK a).toInt = (eK b).toInt ∧ (eN a).toInt < (eN b).toInt))) := by
  unfold eLt
  by_cases h1 : eT a = eT b
  · rw [if_neg (fun q => q h1)]
    by_cases h2 : eK a = eK b
    · rw [if_neg (fun q => q h2), decide_eq_true_iff, Int32.lt_iff_toInt_lt, h1, h2]
      omega
    · have h2' : (eK a).toInt ≠ (eK b).toInt := fun q => h2 (Int64.toInt_inj.mp q)
      rw [if_pos h2, decide_eq_true_iff, Int64.lt_iff_toInt_lt, h1]
      omega
  · have h1' : (eT a).toInt ≠ (eT b).toInt := fun q => h1 (Int64.toInt_inj.mp q)
    rw [if_pos h1, decide_eq_true_iff, Int64.lt_iff_toInt_lt]
    omega
theorem eLt_f (a b : Ent) : eLt a b = false ↔ ¬ eLt a b = true := by
  cases eLt a b <;> simp
theorem eLt_ntr {a b c : Ent} (h1 : eLt b a = false) (h2 : eLt c b = false) : eLt c a = false := by
  rw [eLt_f, eLt_iff] at *
  omega
theorem eLt_as {a b : Ent} (h1 : eLt a b = true) : eLt b a = false := by
  rw [eLt_f, eLt_iff] at *
  omega
theorem eLt_eq {a b : Ent} (h1 : eLt a b = false) (h2 : eLt b a = false) : eN a = eN b := by
  rw [eLt_f, eLt_iff] at *
  exact Int32.toInt_inj.mp (by omega)
def eSrt (L : List Ent) : Prop := L.Pairwise (fun a b => eLt b a = false)
/-- the place of a in a row -/
def ePl (L : List Ent) (a : Ent) : Nat := (L.takeWhile (fun e => eLt e a)).length
def eIns (L : List Ent) (a : Ent) : List Ent := L.insertIdx (ePl L a) a
theorem ins_mid {α : Type} (a : α) : ∀ (L1 L2 : List α), (L1 ++ L2).insertIdx L1.length a = L1 ++ a :: L2
  | [], L2 => by simp
  | x :: L1, L2 => by
    show (x :: (L1 ++ L2)).insertIdx (L1.length + 1) a = x :: (L1 ++ a :: L2)
    rw [List.insertIdx_succ_cons, ins_mid a L1 L2]
theorem ePl_le (L : List Ent) (a : Ent) : ePl L a ≤ L.length := by
  unfold ePl
  exact (List.takeWhile_sublist _).length_le
theorem eIns_eq (L : List Ent) (a : Ent) : eIns L a = L.takeWhile (fun e => eLt e a) ++ a :: L.dropWhile (fun e => eLt e a) := by
  unfold eIns ePl
  have h := ins_mid a (L.takeWhile (fun e => eLt e a)) (L.dropWhile (fun e => eLt e a))
  rw [List.takeWhile_append_dropWhile] at h
  exact h
theorem eIns_perm (L : List Ent) (a : Ent) : (eIns L a).Perm (a :: L) := by
  rw [eIns_eq]
  refine List.perm_middle.trans ?_
  rw [List.takeWhile_append_dropWhile]
theorem tw_all {α : Type} (p : α → Bool) : ∀ (L : List α), ∀ x ∈ L.takeWhile p, p x = true
  | [], x, h => by simp at h
  | y :: L, x, h => by
    rw [List.takeWhile_cons] at h
    split at h
    · rcases List.mem_cons.mp h with e | h
      · rw [e]; assumption
      · exact tw_all p L x h
    · cases h
theorem dw_all {a : Ent} : ∀ (L : List Ent), eSrt L → ∀ x ∈ L.dropWhile (fun e => eLt e a), eLt x a = false
  | [], _, x, h => by simp at h
  | y :: L, hs, x, h => by
    rw [List.dropWhile_cons] at h
    have hs' := List.pairwise_cons.mp hs
    split at h
    · exact dw_all L hs'.2 x h
    · rename_i hy
      have hy' : eLt y a = false := (eLt_f _ _).mpr hy
      rcases List.mem_cons.mp h with e | h
      · rw [e]; exact hy'
      · exact eLt_ntr hy' (hs'.1 x h)
theorem eSrt_ins {L : List Ent} (h : eSrt L) (a : Ent) : eSrt (eIns L a) := by
  rw [eIns_eq]
  have h0 : eSrt (L.takeWhile (fun e => eLt e a) ++ L.dropWhile (fun e => eLt e a)) := by
    rw [List.takeWhile_append_dropWhile]; exact h
  obtain ⟨h1, h2, h3⟩ := List.pairwise_append.mp h0
  refine List.pairwise_append.mpr ⟨h1, List.pairwise_cons.mpr ⟨fun x hx => dw_all L h x hx, h2⟩, fun x hx y hy => ?_⟩
  rcases List.mem_cons.mp hy with e | hy
  · rw [e]; exact eLt_as (tw_all _ L x hx)
  · exact h3 x hx y hy
theorem tw_get {α : Type} (p : α → Bool) (L : List α) {i : Nat} (h : i < (L.takeWhile p).length) : ∃ x, L[i]? = some x ∧ p x = true := by
  refine ⟨(L.takeWhile p)[i], ?_, tw_all p L _ (List.getElem_mem h)⟩
  conv => lhs; rw [← List.takeWhile_append_dropWhile (p := p) (l := L)]
  rw [List.getElem?_append_left h, List.getElem?_eq_getElem h]
theorem dw_get {L : List Ent} (hs : eSrt L) {a : Ent} {i : Nat} (h : ePl L a ≤ i) {x : Ent} (hx : L[i]? = some x) : eLt x a = false := by
  refine dw_all L hs x ?_
  rw [← List.takeWhile_append_dropWhile (p := fun e => eLt e a) (l := L), List.getElem?_append_right h] at hx
  exact List.mem_of_getElem? hx
theorem lPl_of {u : LnR} (hs : eSrt (lAb u)) (a : Ent) : lPl u a (ePl (lAb u) a) := by
  have hl := ePl_le (lAb u) a
  rw [lAb_len] at hl
  refine ⟨hl, fun i hi => ?_, fun i hi hz => ?_⟩
  · obtain ⟨x, h1, h2⟩ := tw_get (fun e => eLt e a) (lAb u) hi
    rw [lAb_get, if_pos (by omega)] at h1
    cases h1
    exact h2
  · exact dw_get hs hi (by rw [lAb_get, if_pos hz])
theorem eSrt_erase {L : List Ent} (h : eSrt L) (i : Nat) : eSrt (L.eraseIdx i) := h.sublist (List.eraseIdx_sublist L i)
theorem lPl2_of {u : LnR} (hs : eSrt (lAb u)) {p : Nat} (hp : p < lSz u) (a : Ent) : lPl2 u p a (ePl (lAb (lLeave u p)) a) := by
  have hs' : eSrt (lAb (lLeave u p)) := by rw [lLeave_ab hp]; exact eSrt_erase hs p
  have hz : lSz (lLeave u p) = lSz u - 1 := rfl
  obtain ⟨h1, h2, h3⟩ := lPl_of hs' a
  rw [hz] at h1 h3
  exact ⟨by omega, h2, h3⟩
/-- the place at which one that is done is set again -/
def kC (w : TrR) (q : Nat) : Nat := ePl (lAb (lLeave (sT (tX w)) q)) (eAgain (lAt (sT (tX w)) q) (sTs (tX w)))
/-- what always holds of the class -/
def gLok (L : Nat) : Prop := L = 65 ∨ L = 130 ∨ L = 260 ∨ L = 520 ∨ L = 1040 ∨ L = 2080
def eOk (e : Ent) : Prop := (eO e).toNatClampNeg ≤ 50
def LnSt (u : LnR) : Prop := LnOk u ∧ eSrt (lAb u)
def StOk (x : StR) : Prop := LnSt (sT x) ∧ LnSt (sR x) ∧ (sRf x = 0 ∨ sRf x = 1) ∧ ∀ e ∈ lAb (sT x), eOk e
def TrOk (w : TrR) : Prop := StOk (tX w) ∧ gLok (gL (tG w)) ∧ gN (tG w) ≤ gL (tG w)
theorem lLeave_st {u : LnR} (h : LnSt u) {p : Nat} (hp : p < lSz u) : LnSt (lLeave u p) := ⟨lLeave_ok h.1 hp, by rw [lLeave_ab hp]; exact eSrt_erase h.2 p⟩
/-- one that comes in, at its place -/
theorem lSort_ab2 {u v : LnR} (a : Ent) (hz : lSz v = lSz u) (hat : ∀ i, i < lSz u → lAt v i = lAt u i) (hnew : lAt v (lSz v) = a) : lAb (lSort v (ePl (lAb u) a)) = eIns (lAb u) a := by
  have e : lAb v = lAb u := lAb_cong hz (fun i hi => hat i (by omega))
  have hl := ePl_le (lAb u) a
  rw [lAb_len] at hl
  rw [lSort_ab (by omega), e, hnew]; rfl
theorem lEnter_ab {u : LnR} (h : LnOk u) (hn : lSz u < 40) (a : Ent) : lAb (lSort (lPut u a) (ePl (lAb u) a)) = eIns (lAb u) a := lSort_ab2 a rfl (fun i hi => lPut_at h hn a hi) (lPut_new u a)
theorem lEnter_st {u : LnR} (h : LnSt u) (hn : lSz u < 40) (a : Ent) : LnSt (lSort (lPut u a) (ePl (lAb u) a)) := by
  have hl := ePl_le (lAb u) a
  rw [lAb_len] at hl
  exact ⟨lSort_ok (lPut_ok h.1 a) hn hl, by rw [lEnter_ab h.1 hn]; exact eSrt_ins h.2 a⟩
theorem lAgain_ab {u : LnR} (h : LnOk u) {p : Nat} (hp : p < lSz u) (x : Int32) : lAb (lSort (lAgain (lLeave u p) x) (ePl (lAb (lLeave u p)) (eAgain (lAt u p) x))) = eIns ((lAb u).eraseIdx p) (eAgain (lAt u p) x) := by
  have hz : lSz (lLeave u p) = lSz u - 1 := rfl
  have h40 := h.1
  rw [← lLeave_ab hp]
  refine lSort_ab2 _ rfl (fun i hi => lAgain_at (lLeave_ok h hp) (by omega) x hi) ?_
  have e := lAgain_new (lLeave u p) x
  have e2 : lAt (lLeave u p) (lSz (lLeave u p)) = lAt u p := by
    show lEnt (lLeave u p) _ = lEnt u _
    rw [lLeave_sl hp]; rfl
  rw [e2] at e
  exact e
theorem lAgain_st {u : LnR} (h : LnSt u) {p : Nat} (hp : p < lSz u) (x : Int32) : LnSt (lSort (lAgain (lLeave u p) x) (ePl (lAb (lLeave u p)) (eAgain (lAt u p) x))) := by
  have hz : lSz (lLeave u p) = lSz u - 1 := rfl
  have h40 := h.1.1
  have hl := ePl_le (lAb (lLeave u p)) (eAgain (lAt u p) x)
  rw [lAb_len] at hl
  exact ⟨lSort_ok (lAgain_ok (lLeave_ok h.1 hp) x) (by show lSz u - 1 < 40; omega) hl, by rw [lAgain_ab h.1 hp]; exact eSrt_ins (eSrt_erase h.2 p) _⟩
theorem lRetime_ab {u : LnR} (h : LnOk u) {p : Nat} (hp : p < lSz u) (t : Int64) : lAb (lSort (lPutT (lLeave u p) t) (ePl (lAb (lLeave u p)) (eSetT (lAt u p) t))) = eIns ((lAb u).eraseIdx p) (eSetT (lAt u p) t) := by
  have hz : lSz (lLeave u p) = lSz u - 1 := rfl
  have h40 := h.1
  rw [← lLeave_ab hp]
  refine lSort_ab2 _ rfl (fun i hi => lPutT_at (lLeave_ok h hp) (by omega) t hi) ?_
  have e := lPutT_new (lLeave u p) t
  have e2 : lAt (lLeave u p) (lSz (lLeave u p)) = lAt u p := by
    show lEnt (lLeave u p) _ = lEnt u _
    rw [lLeave_sl hp]; rfl
  rw [e2] at e
  exact e
theorem lRetime_st {u : LnR} (h : LnSt u) {p : Nat} (hp : p < lSz u) (t : Int64) : LnSt (lSort (lPutT (lLeave u p) t) (ePl (lAb (lLeave u p)) (eSetT (lAt u p) t))) := by
  have hz : lSz (lLeave u p) = lSz u - 1 := rfl
  have h40 := h.1.1
  have hl := ePl_le (lAb (lLeave u p)) (eSetT (lAt u p) t)
  rw [lAb_len] at hl
  exact ⟨lSort_ok (lPutT_ok (lLeave_ok h.1 hp) t) (by show lSz u - 1 < 40; omega) hl, by rw [lRetime_ab h.1 hp]; exact eSrt_ins (eSrt_erase h.2 p) _⟩
