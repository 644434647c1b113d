/-! A pass: its steps one after another. -/
def eSum : List Ent → Nat
  | [] => 0
  | e :: L => (eO e).toNatClampNeg + 1 + eSum L
theorem eSum_app : ∀ (L1 L2 : List Ent), eSum (L1 ++ L2) = eSum L1 + eSum L2
  | [], L2 => by simp [eSum]
  | e :: L1, L2 => by
    show (eO e).toNatClampNeg + 1 + eSum (L1 ++ L2) = (eO e).toNatClampNeg + 1 + eSum L1 + eSum L2
    rw [eSum_app L1 L2]; omega
theorem eSum_ins (L : List Ent) (a : Ent) : eSum (eIns L a) = (eO a).toNatClampNeg + 1 + eSum L := by
  have h : eSum L = eSum (L.takeWhile (fun e => eLt e a)) + eSum (L.dropWhile (fun e => eLt e a)) := by
    rw [← eSum_app, List.takeWhile_append_dropWhile]
  rw [eIns_eq, eSum_app]
  show _ + ((eO a).toNatClampNeg + 1 + _) = _
  omega
theorem at_split {α : Type} {L : List α} {i : Nat} {x : α} (h : L[i]? = some x) : L = L.take i ++ x :: L.drop (i + 1) := by
  obtain ⟨hi, e⟩ := List.getElem?_eq_some_iff.mp h
  rw [← e, List.getElem_cons_drop hi, List.take_append_drop]
theorem erase_split {α : Type} (L : List α) (i : Nat) : L.eraseIdx i = L.take i ++ L.drop (i + 1) := List.eraseIdx_eq_take_drop_succ L i
theorem erase_perm {α : Type} {L : List α} {i : Nat} {x : α} (h : L[i]? = some x) : L.Perm (x :: L.eraseIdx i) := by
  rw [erase_split]
  conv => lhs; rw [at_split h]
  exact List.perm_middle
theorem eSum_erase {L : List Ent} {i : Nat} {x : Ent} (h : L[i]? = some x) : eSum L = (eO x).toNatClampNeg + 1 + eSum (L.eraseIdx i) := by
  rw [erase_split, eSum_app]
  conv => lhs; rw [at_split h]
  rw [eSum_app]
  show _ + ((eO x).toNatClampNeg + 1 + _) = _
  omega
theorem eSum_le : ∀ (L : List Ent), (∀ e ∈ L, eOk e) → eSum L ≤ 51 * L.length
  | [], _ => Nat.le_refl _
  | e :: L, h => by
    have h1 : (eO e).toNatClampNeg ≤ 50 := h e List.mem_cons_self
    have h2 := eSum_le L (fun x hx => h x (List.mem_cons_of_mem _ hx))
    show (eO e).toNatClampNeg + 1 + eSum L ≤ 51 * (L.length + 1)
    omega
def tPot (w : TrR) : Nat := eSum (lAb (sT (tX w))) + lSz (sR (tX w))
theorem tPot_le {w : TrR} (h : StOk (tX w)) : tPot w ≤ 2080 := by
  have h1 := eSum_le _ h.2.2.2
  rw [lAb_len] at h1
  have h2 := h.1.1.1
  have h3 := h.2.1.1.1
  unfold tPot
  omega
/-- what is done is one of these -/
def tOne (c : Int32) (t : Int64) (w w' : TrR) : Prop := tDo c t (kC w) w w'
/-- nothing is due -/
def tStop (c : Int32) (t : Int64) (w : TrR) : Prop := lNone (sT (tX w)) c t ∧ (¬ c = 0 ∨ lNone (sR (tX w)) c t)
def tChain (c : Int32) (t : Int64) : Nat → TrR → TrR → Prop
  | 0, w, w' => w' = w
  | n + 1, w, w' => ∃ w1, tChain c t n w w1 ∧ tOne c t w1 w'
/-- the log's room behind n -/
def gGr : Nat → Nat → Nat
  | 0, L => L
  | n + 1, L => if n < gGr n L then gGr n L else 2 * gGr n L
theorem gGr_mono (L : Nat) : ∀ {n m : Nat}, n ≤ m → gGr n L ≤ gGr m L := by
  intro n m h
  induction m with
  | zero => rw [Nat.le_zero.mp h]; exact Nat.le_refl _
  | succ m ih =>
    rcases Nat.lt_or_ge n (m + 1) with h1 | h1
    · have h2 := ih (by omega)
      show gGr n L ≤ if m < gGr m L then gGr m L else 2 * gGr m L
      split <;> omega
    · rw [show n = m + 1 by omega]; exact Nat.le_refl _
theorem lgE_clamp1 {x : Int32} (h : 0 < x) : (x - 1).toNatClampNeg + 1 = x.toNatClampNeg := by
  have h1 : 0 < x.toInt := by have := Int32.lt_iff_toInt_lt.mp h; simpa using this
  have h2 := x.toInt_lt
  have h3 : (x - 1).toInt = x.toInt - 1 := by
    rw [Int32.toInt_sub, Int.bmod_eq_of_le] <;> simp <;> omega
  show (x - 1).toInt.toNat + 1 = x.toInt.toNat
  omega
theorem lgE_clamp0 {x : Int32} (h : ¬ 0 < x) : x.toNatClampNeg = 0 := by
  have h1 : ¬ 0 < x.toInt := fun q => h (Int32.lt_iff_toInt_lt.mpr (by simpa using q))
  show x.toInt.toNat = 0
  omega
theorem eOk_again {a : Ent} (h : eOk a) (h0 : 0 < eO a) (x : Int32) : eOk (eAgain a x) := by
  have h1 := lgE_clamp1 h0
  unfold eOk at h ⊢
  show (eO a - 1).toNatClampNeg ≤ 50
  omega
theorem lDue_get {u : LnR} {c : Int32} {t : Int64} {k : Nat} (h : lDue u c t k) : (lAb u)[k]? = some (lAt u k) := by rw [lAb_get, if_pos h.1]
theorem lAt_mem {u : LnR} {k : Nat} (h : k < lSz u) : lAt u k ∈ lAb u := List.mem_of_getElem? (i := k) (by rw [lAb_get, if_pos h])
/-- a timer's end, of a state -/
theorem sFin_ok {w : TrR} {x' : StR} {q : Nat} (h : StOk (tX w)) (hq : q < lSz (sT (tX w))) (hf : sFin (tX w) x' q (kC w q)) : StOk x' ∧ eSum (lAb (sT x')) + 1 ≤ eSum (lAb (sT (tX w))) ∧ sR x' = sR (tX w) := by
  have hg : (lAb (sT (tX w)))[q]? = some (lAt (sT (tX w)) q) := by rw [lAb_get, if_pos hq]
  have he := eSum_erase hg
  rcases hf with ⟨h0, rfl⟩ | ⟨h0, rfl⟩
  · have e1 : lAb (lSort (lAgain (lLeave (sT (tX w)) q) (sTs (tX w))) (kC w q)) = eIns ((lAb (sT (tX w))).eraseIdx q) (eAgain (lAt (sT (tX w)) q) (sTs (tX w))) := lAgain_ab h.1.1 hq _
    refine ⟨⟨lAgain_st h.1 hq _, h.2.1, h.2.2.1, ?_⟩, ?_, rfl⟩
    · intro e hm
      have hm' : e ∈ lAb (lSort (lAgain (lLeave (sT (tX w)) q) (sTs (tX w))) (kC w q)) := hm
      rw [e1] at hm'
      rcases List.mem_cons.mp ((eIns_perm _ _).mem_iff.mp hm') with r | hm'
      · rw [r]; exact eOk_again (h.2.2.2 _ (lAt_mem hq)) h0 _
      · exact h.2.2.2 e ((List.eraseIdx_sublist _ _).subset hm')
    · show eSum (lAb (lSort (lAgain (lLeave (sT (tX w)) q) (sTs (tX w))) (kC w q))) + 1 ≤ _
      rw [e1, eSum_ins, he]
      have := lgE_clamp1 h0
      show (eO (lAt (sT (tX w)) q) - 1).toNatClampNeg + 1 + _ + 1 ≤ _
      omega
  · have e1 : lAb (lLeave (sT (tX w)) q) = (lAb (sT (tX w))).eraseIdx q := lLeave_ab hq
    refine ⟨⟨lLeave_st h.1 hq, h.2.1, h.2.2.1, ?_⟩, ?_, rfl⟩
    · intro e hm
      have hm' : e ∈ lAb (lLeave (sT (tX w)) q) := hm
      rw [e1] at hm'
      exact h.2.2.2 e ((List.eraseIdx_sublist _ _).subset hm')
    · show eSum (lAb (lLeave (sT (tX w)) q)) + 1 ≤ _
      rw [e1, he]; omega
theorem gAdd_ok {g g' : LgR} {a : LgE} (h : gLok (gL g)) (hn : gN g ≤ gL g) (h2 : gN g < 2080) (ha : gAdd g g' a) : gLok (gL g') ∧ gN g' ≤ gL g' ∧ gN g' = gN g + 1 ∧ gL g' = if gN g < gL g then gL g else 2 * gL g := by
  obtain ⟨h1, h3, -, -⟩ := ha
  refine ⟨?_, ?_, h3, h1⟩
  · rw [h1]
    split
    · exact h
    · unfold gLok at h ⊢
      omega
  · rw [h1, h3]
    unfold gLok at h
    split <;> omega
theorem tOne_ok {c : Int32} {t : Int64} {w w' : TrR} (h : TrOk w) (hn : gN (tG w) < 2080) (h1 : tOne c t w w') : TrOk w' ∧ gN (tG w') = gN (tG w) + 1 ∧ tPot w' + 1 ≤ tPot w ∧ gL (tG w') = if gN (tG w) < gL (tG w) then gL (tG w) else 2 * gL (tG w) := by
  obtain ⟨hx, hg, hl⟩ := h
  rcases h1 with ⟨k, -, hd, -, g, ha, rfl⟩ | ⟨q, hd, -, g, x', ha, hf, rfl⟩
  · obtain ⟨a1, a2, a3, a4⟩ := gAdd_ok hg hl hn ha
    refine ⟨⟨⟨hx.1, lLeave_st hx.2.1 hd.1, hx.2.2⟩, a1, a2⟩, a3, ?_, a4⟩
    have := hd.1
    show eSum (lAb (sT (tX w))) + (lSz (sR (tX w)) - 1) + 1 ≤ eSum (lAb (sT (tX w))) + lSz (sR (tX w))
    omega
  · obtain ⟨a1, a2, a3, a4⟩ := gAdd_ok hg hl hn ha
    obtain ⟨b1, b2, b3⟩ := sFin_ok hx hd.1 hf
    refine ⟨⟨b1, a1, a2⟩, a3, ?_, a4⟩
    show eSum (lAb (sT x')) + lSz (sR x') + 1 ≤ eSum (lAb (sT (tX w))) + lSz (sR (tX w))
    rw [b3]; omega
theorem tChain_ok {c : Int32} {t : Int64} {w : TrR} (h : TrOk w) (h0 : gN (tG w) = 0) : ∀ {n : Nat} {w' : TrR}, tChain c t n w w' → TrOk w' ∧ gN (tG w') = n ∧ tPot w' + n ≤ tPot w ∧ gL (tG w') = gGr n (gL (tG w))
  | 0, w', e => by
    cases e
    exact ⟨h, h0, Nat.le_refl _, rfl⟩
  | n + 1, w', ⟨w1, h1, h2⟩ => by
    obtain ⟨a1, a2, a3, a4⟩ := tChain_ok h h0 h1
    have hp := tPot_le h.1
    by_cases hn : n < 2080
    · obtain ⟨b1, b2, b3, b4⟩ := tOne_ok a1 (by omega) h2
      refine ⟨b1, by omega, by omega, ?_⟩
      rw [b4, a2, a4]; rfl
    · exfalso
      have hz : tPot w1 = 0 := by omega
      have hs : lAb (sT (tX w1)) = [] := by
        cases e : lAb (sT (tX w1)) with
        | nil => rfl
        | cons x L =>
          unfold tPot at hz
          rw [e] at hz
          have : eSum (x :: L) = (eO x).toNatClampNeg + 1 + eSum L := rfl
          omega
      have hs0 : lSz (sT (tX w1)) = 0 := by rw [← lAb_len, hs]; rfl
      have hr0 : lSz (sR (tX w1)) = 0 := by unfold tPot at hz; omega
      rcases h2 with ⟨k, -, hd, -⟩ | ⟨q, hd, -⟩
      · have := hd.1; omega
      · have := hd.1; omega
theorem tStop_0 {c : Int32} {t : Int64} {w : TrR} (h : tPot w = 0) : tStop c t w := by
  have hr0 : lSz (sR (tX w)) = 0 := by unfold tPot at h; omega
  have hs0 : lSz (sT (tX w)) = 0 := by
    cases e : lAb (sT (tX w)) with
    | nil => rw [← lAb_len, e]; rfl
    | cons x L =>
      unfold tPot at h
      rw [e] at h
      have : eSum (x :: L) = (eO x).toNatClampNeg + 1 + eSum L := rfl
      omega
  exact ⟨fun k hk => absurd hk (by omega), Or.inr (fun k hk => absurd hk (by omega))⟩
/-- the state at a pass's start -/
def tPas (w : TrR) (c : Int32) (t : Int64) : TrR := tSetG (tSetX w (sSetNw (tX w) (vp_updL (sNw (tX w)) c.toNatClampNeg t))) (gSetN (tG w) 0)
theorem tPas_ok {w : TrR} (h : TrOk w) (c : Int32) (t : Int64) : TrOk (tPas w c t) ∧ gN (tG (tPas w c t)) = 0 := ⟨⟨h.1, h.2.1, Nat.zero_le _⟩, rfl⟩
section
variable {p : Program} {l : Launch} {e : Env} {R : Room} {s : State} {m : MethodId} {args : Array Value} {below : List Frame} {meth : Method} {c : Code} {H : Heap} {locs : List Loc} {Q : State → Prop} {pc : Nat} {ls : Array Slot}
/-- a loop whose room grows with what is held -/
theorem x_recC {α : Type} (μ kc ks : α → Nat) (Inv : α → Heap → List Loc → Array Slot → Prop) {st : List Value}
    (step : ∀ (a : α) (H : Heap) (locs : List Loc) (ls : Array Slot), Inv a H locs ls →
      (∀ (b : α) (H1 : Heap) (locs1 : List Loc) (ls1 : Array Slot), μ b < μ a → Inv b H1 locs1 ls1 → W p l e R s m args below meth c H1 locs1 (kc b) (ks b) Q (F0 m pc ls1 st)) →
      W p l e R s m args below meth c H locs (kc a) (ks a) Q (F0 m pc ls st)) (a : α) (h : Inv a H locs ls) : W p l e R s m args below meth c H locs (kc a) (ks a) Q (F0 m pc ls st) := by
  have key : ∀ (n : Nat) (a : α) (H : Heap) (locs : List Loc) (ls : Array Slot), μ a < n → Inv a H locs ls → W p l e R s m args below meth c H locs (kc a) (ks a) Q (F0 m pc ls st) := by
    intro n
    induction n with
    | zero => intro a H locs ls hn; exact absurd hn (Nat.not_lt_zero _)
    | succ n ih =>
      intro a H locs ls hn hI
      exact step a H locs ls hI (fun b H1 locs1 ls1 hb hI1 => ih b H1 locs1 ls1 (by omega) hI1)
  exact key (μ a + 1) a H locs ls (Nat.lt_succ_self _) h
end
