/-! ===== all commands; the first states ===== -/
theorem law_all {l : Launch} (hfl : l.stackTraces = false) {Z : fx_Z} {ad am : Nat → Nat} (hA : fx_inj 116 ad) (hM : fx_inj 22 am) : law_OK l Z ad am Rel :=
  ⟨op_rate hfl hA hM, op_buy hfl hA hM, op_giveBack hfl hA hM, op_ferry hfl hA hM, op_seat hfl hA hM, op_leaveSeat hfl hA hM, op_aboard hfl hA hM, op_stamp hfl hA hM, fun a0 a1 h01 => op_check hfl hA hM a0 a1 h01, op_comeBack hfl hA hM, op_pass hfl hA hM, op_ofReceipt hfl hA hM, op_code hfl hA hM, op_ofTraveller hfl hA hM, op_refundsAnew hfl hA hM, op_debt hfl hA hM⟩
theorem iC_at {k i : Nat} (h : k ≠ 1) : iC k i = 0 := by
  show mS1 4 k i = 0
  unfold mS1
  rw [if_neg (fun q => h q.1)]
theorem iI_at {k i : Nat} (h : k ≠ 15) : iI k i = iC k i := by
  show mS2 10 k i = mS1 4 k i
  unfold mS2
  rw [if_neg (fun q => h q.1)]
theorem rfA_0 {g : St} {t : Nat} : rfA g t 0 0 = 0 := rfl
theorem Rel_0 : Rel iC iI := by
  refine ⟨0, 0, 0, ⟨fun k hk => funext fun i => (iI_at (by omega)).symm, ⟨iC_at (by decide), (iI_at (by decide)).trans (iC_at (by decide)), by decide, iC_at (by decide), (iI_at (by decide)).trans (iC_at (by decide)), by decide, iC_at (by decide), (iI_at (by decide)).trans (iC_at (by decide)), by decide⟩, ⟨⟨fun i => ⟨0, by decide, iC_at (by decide)⟩, fun i => ⟨0, by decide, iC_at (by decide)⟩⟩, fun k => ?_, fun t => Or.inl (iC_at (by decide))⟩, fun f hf => absurd hf (by omega), fun f _ _ => ⟨(iI_at (by decide)).trans (iC_at (by decide)), (iI_at (by decide)).trans (iC_at (by decide)), fun t => iC_at (by omega)⟩, fun t ht => Or.inl ?_, ⟨fun i _ => ⟨iC_at (by decide), iC_at (by decide)⟩, fun i hi => absurd hi (by omega)⟩, fun t _ => ?_⟩, fun f hf => absurd hf (by omega)⟩
  · by_cases c : k < 4
    · refine ⟨10, by decide, ?_⟩
      show mS1 4 1 k = _
      unfold mS1
      rw [if_pos ⟨rfl, c⟩]
      rfl
    · refine ⟨0, by decide, ?_⟩
      show mS1 4 1 k = _
      unfold mS1
      rw [if_neg (fun q => c q.2)]
      rfl
  · show mS2 10 15 t = -1
    unfold mS2
    rw [if_pos ⟨rfl, ht⟩]
  · rw [rfA_0]
    exact iC_at (by decide)
