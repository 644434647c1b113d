/-! What holds at the law's start. -/
theorem z_1 : Cond.laysStatic Bundle.tN "UNASSIGNED_STACK" Bundle.steD ∈ lw_tbl := by decide +kernel
theorem z_2 : Cond.initialized Bundle.tN ∈ lw_tbl := by decide +kernel
theorem z_3 : Cond.isRef (.static Bundle.tN "UNASSIGNED_STACK" Bundle.steD) ∈ flatC (Cond.and given_1 narrow_1) := by decide +kernel
theorem z_4 : Cond.laysStatic Bundle.tN "SUPPRESSED_SENTINEL" Bundle.listD ∈ lw_tbl := by decide +kernel
theorem z_5 : Cond.isRef (.static Bundle.tN "SUPPRESSED_SENTINEL" Bundle.listD) ∈ flatC (Cond.and given_1 narrow_1) := by decide +kernel
theorem z_bad : ∀ w ∈ xBad, w ∈ lw_tbl := by decide +kernel
theorem z_st : ∀ q ∈ xStr, Cond.stringRef RX3 q.1 q.2 ∈ lw_tbl := by decide +kernel
theorem z_ex : ∀ q ∈ xStr, Cond.exactly (.string RX3 q.1) "java/lang/String" ∈ flatC (Cond.and given_1 narrow_1) := by decide +kernel
theorem z_n1 : Cond.methodLinkNest RX0 66 yX3_taskOf RX3 ∈ lw_tbl := by decide +kernel
theorem z_n2 : Cond.methodLinkNest RX3 22 yX1_init RX3 ∈ lw_tbl := by decide +kernel
theorem z_ao : Cond.arrayOver (.object RX2) ∈ lw_tbl := by decide +kernel
theorem z_c1 : Cond.not (.castable xIS xIA) ∈ flatC (Cond.and given_1 narrow_1) := by decide +kernel
theorem z_c2 : Cond.not (.castable xNS xIA) ∈ flatC (Cond.and given_1 narrow_1) := by decide +kernel
theorem lw_env {s : State} {b : Nat} (hts : ∀ w ∈ lw_tbl, w.before #[Value.ref b] s = true) (hgv : (Jvm.Cond.and given_1 narrow_1).before #[Value.ref b] s = true) : xEn (fun q => s.heap.size ≤ q) s s.heap := by
  have hs := flat_of_before _ hgv
  refine ⟨vx_Zqof (hts _ z_1) (hts _ z_2) (hs _ z_3) (fun a h => Nat.not_le.mpr h), vx_Zqof (hts _ z_4) (hts _ z_2) (hs _ z_5) (fun a h => Nat.not_le.mpr h), fun w hw => dc_any (List.all_eq_true.mp xBad_dc w hw) (hts w (z_bad w hw)), fun q hq => ?_, ?_⟩
  · obtain ⟨a, -, -, -, h, -⟩ := Cond.exactly_spec (hs _ (z_ex q hq))
    exact ⟨a, vk_R.of (hts _ (z_st q hq)) h⟩
  · exact ⟨va_Nw.of rfl (hts _ z_n1), va_Nw.of rfl (hts _ z_n2), va_AO.of (hts _ z_ao), va_Nc.of (hs _ z_c1), va_Nc.of (hs _ z_c2)⟩
theorem lrel_new {tr : TrR} (hx : StNew (tX tr)) (h2 : ∀ j, tF tr j = none) (h3 : gL (tG tr) = 65) (h4 : gN (tG tr) = 0) (h5 : tN tr = 0) : LRel tr [] (mBegin mZero) (2081 * 0) := by
  obtain ⟨n1, n2, n3, n4, n5, n6, n7, n8, n9, n10⟩ := hx
  have eT0 : lAb (sT (tX tr)) = [] := List.eq_nil_of_length_eq_zero (by rw [lAb_len]; exact n3)
  have eR0 : lAb (sR (tX tr)) = [] := List.eq_nil_of_length_eq_zero (by rw [lAb_len]; exact n4)
  have hw0 : mW (mBegin mZero) 0 = 0 := va_up_self (mW mZero) 0 0
  have hst : StOk (tX tr) := ⟨⟨n1, by rw [eT0]; exact List.Pairwise.nil⟩, ⟨n2, by rw [eR0]; exact List.Pairwise.nil⟩, Or.inr n10, fun e he => by rw [eT0] at he; cases he⟩
  refine ⟨⟨hst, Or.inl h3, by rw [h4]; exact Nat.zero_le _⟩, ?_, ?_, ⟨h4, fun i hi => absurd hi (by omega), by omega⟩, fun j => Or.inl rfl, fun b hb => ?_, ?_⟩
  · refine ⟨fun e he => ?_, ?_, fun e he => ?_, ?_, ?_, ?_⟩
    · rw [eT0] at he; cases he
    · rw [eT0]; exact List.nodup_nil
    · rw [eR0] at he; cases he
    · rw [eR0]; exact List.nodup_nil
    · rw [n7]; exact ⟨Int.le_refl _, Int.natCast_nonneg _⟩
    · rw [n8]; exact ⟨Int.le_refl _, Int.natCast_nonneg _⟩
  · refine ⟨?_, ?_, ?_, ?_, ?_, ?_, ?_⟩
    · have : mBl (mBegin mZero) 0 = [] := List.eq_nil_of_length_eq_zero (by rw [mBl_len]; exact hw0)
      rw [this, eT0, eR0]; exact List.Perm.refl _
    · rw [n5]; rfl
    · rw [n6]; rfl
    · rw [n7]; rfl
    · rw [n8]; rfl
    · rw [n9]; rfl
    · rw [n10]; rfl
  · show va_up (fun _ => 0) 0 0 b ≤ 80
    unfold va_up
    split <;> exact Nat.zero_le _
  · exact ⟨h5, by omega, by rw [h5]; exact Nat.zero_le _, Nat.zero_le _, fun j _ => h2 j, fun j q hj => absurd hj (by omega)⟩
