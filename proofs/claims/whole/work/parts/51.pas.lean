theorem gAdd_ex (g : LgR) (e : LgE) : ∃ g', gAdd g g' e := by
  obtain ⟨a, b, c, d, f⟩ := e
  refine ⟨(0, 0, 0, 0, 0, (if gN g < gL g then gL g else 2 * gL g), upd (gKi g) (gN g) a, upd (gNu g) (gN g) b, vp_updL (gKe g) (gN g) c, vp_updL (gTi g) (gN g) d, upd (gOf g) (gN g) f, gN g + 1), rfl, rfl, lg_new, fun i hi => lg_old hi⟩
theorem due_ex {u : LnR} {c : Int32} {t : Int64} (h : ¬ lNone u c t) : ∃ k, lDue u c t k := by
  apply Classical.byContradiction
  intro hn
  exact h (fun k h1 h2 h3 h4 => hn ⟨k, h1, h2, h3, h4⟩)
theorem fin_ex (w : TrR) (q : Nat) : ∃ x', sFin (tX w) x' q (kC w q) := by
  by_cases h : 0 < eO (lAt (sT (tX w)) q)
  · exact ⟨_, Or.inl ⟨h, rfl⟩⟩
  · exact ⟨_, Or.inr ⟨h, rfl⟩⟩
/-- where the pass is not at its end, one more is done -/
theorem prog (c : Int32) (t : Int64) (w : TrR) : tStop c t w ∨ ∃ w', tOne c t w w' := by
  by_cases hT : lNone (sT (tX w)) c t
  · by_cases hR : ¬ c = 0 ∨ lNone (sR (tX w)) c t
    · exact Or.inl ⟨hT, hR⟩
    · have h0 : c = 0 := Classical.byContradiction (fun q => hR (Or.inl q))
      obtain ⟨k, hk⟩ := due_ex (fun q => hR (Or.inr q))
      obtain ⟨g, hg⟩ := gAdd_ex (tG w) (lgE 0 (lAt (sR (tX w)) k))
      exact Or.inr ⟨_, Or.inl ⟨k, h0, hk, Or.inl hT, g, hg, rfl⟩⟩
  · obtain ⟨q, hq⟩ := due_ex hT
    obtain ⟨x', hx⟩ := fin_ex w q
    obtain ⟨g, hg⟩ := gAdd_ex (tG w) (lgE 1 (lAt (sT (tX w)) q))
    by_cases hR : ¬ c = 0 ∨ lNone (sR (tX w)) c t
    · exact Or.inr ⟨_, Or.inr ⟨q, hq, Or.inl hR, g, x', hg, hx, rfl⟩⟩
    · have h0 : c = 0 := Classical.byContradiction (fun q => hR (Or.inl q))
      obtain ⟨k, hk⟩ := due_ex (fun q => hR (Or.inr q))
      by_cases ha : sAhead (tX w) k q
      · obtain ⟨g2, hg2⟩ := gAdd_ex (tG w) (lgE 0 (lAt (sR (tX w)) k))
        exact Or.inr ⟨_, Or.inl ⟨k, h0, hk, Or.inr ⟨q, hq, ha⟩, g2, hg2, rfl⟩⟩
      · exact Or.inr ⟨_, Or.inr ⟨q, hq, Or.inr ⟨k, hk, ha⟩, g, x', hg, hx, rfl⟩⟩
theorem max_ex {P : Nat → Prop} (M : Nat) (h : ∀ n, P n → n ≤ M) (n0 : Nat) (h0 : P n0) : ∃ N, P N ∧ ∀ n, P n → n ≤ N := by
  obtain ⟨d, ⟨h1, h2⟩, h3⟩ := least_nat (P := fun d => d ≤ M ∧ P (M - d)) (M - n0) ⟨Nat.sub_le _ _, by rw [show M - (M - n0) = n0 from Nat.sub_sub_self (h n0 h0)]; exact h0⟩
  refine ⟨M - d, h2, fun n hn => ?_⟩
  apply Classical.byContradiction
  intro hx
  have hM := h n hn
  exact h3 (M - n) (by omega) ⟨Nat.sub_le _ _, by rw [Nat.sub_sub_self hM]; exact hn⟩
theorem lrel_start {tr : TrR} {kp : List (StA × StR)} {v : MR} {B : Nat} {c : Int32} {t : Int64} (h : LRel tr kp v B) (hc : c = 0 ∨ c = 1) : LRel (tPas tr c t) kp (mStart (mSetC v 0) c t) B := by
  have hb := h.2.2.1
  have ho : mOut v (mStart (mSetC v 0) c t) := ⟨fun _ _ => rfl, fun _ _ => rfl, fun k hk => by
    show vp_updL (mNw v) c.toNatClampNeg t k = mNw v k
    rcases hc with e | e <;> subst e
    · exact pk_uLn (show k ≠ 0 by omega)
    · exact pk_uLn (show k ≠ 1 by omega), fun _ _ => rfl⟩
  refine lrel_step (x' := sSetNw (tX tr) (vp_updL (sNw (tX tr)) c.toNatClampNeg t)) (g := gSetN (tG tr) 0) h (Nat.le_refl B) h.1.1 h.2.1 ⟨hb.1, ?_, ?_, hb.2.2.2⟩ ho h.2.2.2.2.1 (h.2.2.2.2.2.1 0 (by decide)) rfl h.1.2.1 (Nat.zero_le _) ⟨rfl, fun i hi => absurd hi (Nat.not_lt_zero i), Nat.zero_le _⟩
  · show vp_updL (sNw (tX tr)) c.toNatClampNeg t 0 = vp_updL (mNw v) c.toNatClampNeg t 0
    rcases hc with e | e <;> subst e
    · exact (pk_uLs (f := sNw (tX tr)) (k := 0)).trans (pk_uLs (f := mNw v) (k := 0)).symm
    · exact (pk_uLn (f := sNw (tX tr)) (show (0 : Nat) ≠ 1 by decide)).trans (hb.2.1.trans (pk_uLn (f := mNw v) (show (0 : Nat) ≠ 1 by decide)).symm)
  · show vp_updL (sNw (tX tr)) c.toNatClampNeg t 1 = vp_updL (mNw v) c.toNatClampNeg t 1
    rcases hc with e | e <;> subst e
    · exact (pk_uLn (f := sNw (tX tr)) (show (1 : Nat) ≠ 0 by decide)).trans (hb.2.2.1.trans (pk_uLn (f := mNw v) (show (1 : Nat) ≠ 0 by decide)).symm)
    · exact (pk_uLs (f := sNw (tX tr)) (k := 1)).trans (pk_uLs (f := mNw v) (k := 1)).symm
theorem chain_rel {w0 : TrR} {kp : List (StA × StR)} {v0 : MR} {B : Nat} {c : Int32} {t : Int64} (h : LRel w0 kp v0 B) (hg0 : gN (tG w0) = 0) (hB : B ≤ 1400000) (ht : gTim t) : ∀ (n : Nat) (w : TrR), tChain c t n w0 w → LRel w kp (mRun c t n v0) (B + n) ∧ (∀ k, mRun c t (n + k) v0 = mRun c t k (mRun c t n v0)) ∧ ∀ j, j < n → mLeast (mRun c t j v0) c 0 t (mW (mRun c t j v0) 0) ≠ none := by
  intro n
  induction n with
  | zero =>
    intro w hw
    have e : w = w0 := hw
    subst e
    exact ⟨h, fun k => by rw [Nat.zero_add, mRun], fun j hj => absurd hj (Nat.not_lt_zero j)⟩
  | succ n ih =>
    rintro w ⟨w1, hw1, h1⟩
    obtain ⟨a1, a2, a3⟩ := ih w1 hw1
    obtain ⟨o1, o2, o3, -⟩ := tChain_ok h.1 hg0 hw1
    obtain ⟨-, p2, p3, -⟩ := tChain_ok h.1 hg0 (n := n + 1) (w' := w) ⟨w1, hw1, h1⟩
    have hp := tPot_le h.1.1
    obtain ⟨i, e1, e2⟩ := step_rel a1 (by omega) ht (by omega) h1
    have hr : mRun c t (n + 1) v0 = mStep (mRun c t n v0) i := by
      rw [a2 1, mRun_go e1, mRun]
    refine ⟨by rw [hr]; exact e2, fun k => ?_, fun j hj => ?_⟩
    · rw [show n + 1 + k = n + (k + 1) by omega, a2 (k + 1), mRun_go e1, hr]
    · rcases Nat.lt_succ_iff_lt_or_eq.mp hj with q | q
      · exact a3 j q
      · rw [q, e1]; exact fun q => nomatch q
/-- how many are done -/
theorem pass_N {tr : TrR} {kp : List (StA × StR)} {v : MR} {B : Nat} {c : Int32} {t : Int64} (h : LRel tr kp v B) (hB : B ≤ 1400000) (hc : c = 0 ∨ c = 1) (ht : gTim t) : ∃ N, N ≤ 2080 ∧ mEnds c t N (mStart (mSetC v 0) c t) ∧ (∀ n w, tChain c t n (tPas tr c t) w → n ≤ N) ∧ ∀ n w, tChain c t n (tPas tr c t) w → tStop c t w → n = N ∧ gN (tG w) = N ∧ gL (tG w) = gGr N (gL (tG tr)) ∧ LRel w kp (mRun c t N (mStart (mSetC v 0) c t)) (B + 2080) := by
  have hs := lrel_start (c := c) (t := t) h hc
  have hp := tPot_le hs.1.1
  obtain ⟨N, ⟨wN, hN⟩, hmax⟩ := max_ex (P := fun n => ∃ w, tChain c t n (tPas tr c t) w) 2080 (fun n ⟨w, hw⟩ => by
    obtain ⟨-, -, q, -⟩ := tChain_ok hs.1 rfl hw
    omega) 0 ⟨_, rfl⟩
  obtain ⟨b1, b2, b3⟩ := chain_rel hs rfl hB ht N wN hN
  have hN2 : N ≤ 2080 := by
    obtain ⟨-, -, q, -⟩ := tChain_ok hs.1 rfl hN
    omega
  have hstop : tStop c t wN := (prog c t wN).resolve_right (fun ⟨w', h1⟩ => by
    have := hmax (N + 1) ⟨w', wN, hN, h1⟩
    omega)
  refine ⟨N, hN2, stop_rel b1 hstop, fun n w hw => hmax n ⟨w, hw⟩, fun n w hw hst => ?_⟩
  obtain ⟨c1, c2, c3⟩ := chain_rel hs rfl hB ht n w hw
  have hle := hmax n ⟨w, hw⟩
  have hnN : n = N := by
    rcases Nat.lt_or_ge n N with q | q
    · exact absurd (stop_rel c1 hst) (b3 n q)
    · omega
  subst hnN
  obtain ⟨-, q1, -, q2⟩ := tChain_ok hs.1 rfl hw
  exact ⟨rfl, q1, q2, c1.up (by omega)⟩
theorem op_pass {tr : TrR} {kp : List (StA × StR)} {v u2 : MR} {B N : Nat} {x : Int32} {t : Int64} {of9 : Nat → Int64} {r9 r : Int32} {w2 : TrR × (Nat → Int64)} (h : LRel tr kp v B) (hN : (x = 0 ∨ x = 1) → gTim t → ∀ n w, tChain x t n (tPas tr x t) w → tStop x t w → n = N ∧ gN (tG w) = N ∧ gL (tG w) = gGr N (gL (tG tr)) ∧ LRel w kp (mRun x t N (mStart (mSetC v 0) x t)) (B + 2080))
    (hc : (r9 = 0 ∧ ∃ v1 : Int32, ((cClk x ∧ gTim t ∧ ¬ t < sNw (tX tr) x.toNatClampNeg) ∧ v1 = nI (gN (tG w2.1)) ∧ ∃ n, tChain x t n (tPas tr x t) w2.1 ∧ tStop x t w2.1) ∧ w2.2 0 = v1.toInt64) ∨ (r9 = 1 ∧ w2 = (tr, of9) ∧ ¬ (cClk x ∧ gTim t ∧ ¬ t < sNw (tX tr) x.toNatClampNeg)))
    (hm : (¬ (gClk x ∧ gTim t ∧ mNw v x.toNatClampNeg ≤ t) ∧ u2 = mSetC v 1) ∨ ((gClk x ∧ gTim t ∧ mNw v x.toNatClampNeg ≤ t) ∧ u2 = mRun x t N (mStart (mSetC v 0) x t) ∧ r = nI (mDn u2))) (hcd : mCode (mRun x t N (mStart (mSetC v 0) x t)) = 0) : mCode u2 = r9 ∧ (r9 = 0 → w2.2 0 = r.toInt64) ∧ LRel w2.1 kp u2 (B + 2080) ∧ (gL (tG w2.1) = gL (tG tr) ∨ gL (tG w2.1) = gGr N (gL (tG tr))) := by
  have hb := h.2.2.1
  have hnw : x = 0 ∨ x = 1 → sNw (tX tr) x.toNatClampNeg = mNw v x.toNatClampNeg := fun q => by
    rcases q with e | e <;> subst e
    · exact hb.2.1
    · exact hb.2.2.1
  rcases hc with ⟨rfl, v1, ⟨⟨g1, g2, g3⟩, rfl, n, hch, hst⟩, h0⟩ | ⟨rfl, rfl, hg⟩
  · have hx := cclk_of g1
    rw [cclk_iff] at g1
    rw [hnw hx, Int64.not_lt] at g3
    obtain ⟨e1, e2, e3, e4⟩ := hN hx g2 n _ hch hst
    rcases hm with ⟨h1, -⟩ | ⟨-, rfl, rfl⟩
    · exact absurd ⟨g1, g2, g3⟩ h1
    · exact ⟨hcd, fun _ => by rw [h0, e4.2.2.2.1.1], e4, Or.inr e3⟩
  · rcases hm with ⟨-, rfl⟩ | ⟨⟨h1, h2, h3⟩, -⟩
    · exact ⟨rfl, fun q => absurd q (by decide), h.up (Nat.le_add_right _ _), Or.inl rfl⟩
    · have hx := clk_of h1
      rw [← hnw hx] at h3
      exact absurd ⟨(cclk_iff x).mpr h1, h2, Int64.not_lt.mpr h3⟩ hg
theorem mTake_code (V : MR) (i : Nat) : mCode (mTake V i) = mCode V := rfl
theorem mStep_code (v : MR) (i : Nat) : mCode (mStep v i) = mCode v := by
  unfold mStep
  split
  · rw [mTake_code]; rfl
  · rfl
theorem mRun_code (c : Int32) (t : Int64) : ∀ (n : Nat) (v : MR), mCode (mRun c t n v) = mCode v
  | 0, v => by rw [mRun]
  | n + 1, v => by
    cases e : mLeast v c 0 t (mW v 0) with
    | none => rw [mRun_end e]
    | some i => rw [mRun_go e, mRun_code c t n, mStep_code]
