/-! ===== the law's environment ===== -/
theorem env_arr {s : State} {args : Array Value} {ty : FieldType} (h : (Cond.arrayClass ty).before args s = true) : ∃ c : ClassId, ArrOfT s c ty ∧ s.vm.findClass ("[" ++ ty.toString) = some c := by
  obtain ⟨c, k, comp, h1, h2, h3⟩ := Cond.arrayClass_spec h
  exact ⟨c, fun n z => ⟨fun k h => (by cases h), k, h2, comp, h3⟩, h1⟩
theorem env_ao {s : State} {args : Array Value} {C : String} (h : (Cond.arrayOver (.object C)).before args s = true) : ∃ c : ClassId, ArrOfT s c (.object C) ∧ va_RA s c (.object C) := by
  obtain ⟨comp, c, k, h1, h2, h3, h4, h5⟩ := Cond.arrayOver_spec h
  exact ⟨c, fun N z => ⟨(fun k h => by cases h), k, h3, comp, h4⟩, k, comp, h3, h4, h1, h5⟩
theorem env_K {s : State} {args : Array Value} (hT : ∀ w ∈ lw_tbl, w.before args s = true) : ∃ (D : va_G) (cy : Nat → ClassId), ∀ sa : Nat → Nat, va_K D vwCl (fx_tys (D, cy, sa)) s := by
  have hF : ∀ w ∈ fx_ws, w.before args s = true := fun w hw => hT w (List.mem_filter.mp hw).1
  obtain ⟨c0, i0, k0⟩ := u_known (T := TJ4) (N := 4) hF i_J4 (hF (.instantiable RJ4 4) (fx_w 476 (by decide +kernel) rfl))
  obtain ⟨c1, i1, k1⟩ := u_known (T := TX0) (N := 3) hF i_X0 (hF (.instantiable RX0 3) (fx_w 107 (by decide +kernel) rfl))
  obtain ⟨c2, i2, k2⟩ := u_known (T := TX1) (N := 9) hF i_X1 (hF (.instantiable RX1 9) (fx_w 73 (by decide +kernel) rfl))
  obtain ⟨c3, i3, k3⟩ := u_known (T := TX2) (N := 5) hF i_X2 (hF (.instantiable RX2 5) (fx_w 123 (by decide +kernel) rfl))
  obtain ⟨c4, i4, k4⟩ := u_known (T := TX3) (N := 7) hF i_X3 (hF (.instantiable RX3 7) (fx_w 60 (by decide +kernel) rfl))
  obtain ⟨c5, i5, k5⟩ := u_known (T := TX4) (N := 25) hF i_X4 (hF (.instantiable RX4 25) (fx_w 681 (by decide +kernel) rfl))
  obtain ⟨a0, b0, d0⟩ := env_arr (hT (.arrayClass .int) (List.mem_of_getElem? (i := 106) (by decide +kernel)))
  obtain ⟨a1, b1, d1⟩ := env_ao (hT (.arrayOver (.object RX1)) (List.mem_of_getElem? (i := 68) (by decide +kernel)))
  obtain ⟨a2, b2, d2⟩ := env_ao (hT (.arrayOver (.object RX0)) (List.mem_of_getElem? (i := 70) (by decide +kernel)))
  obtain ⟨a3, b3, d3⟩ := env_ao (hT (.arrayOver (.object RX2)) (List.mem_of_getElem? (i := 72) (by decide +kernel)))
  obtain ⟨a4, b4, d4⟩ := env_arr (hT (.arrayClass .long) (List.mem_of_getElem? (i := 874) (by decide +kernel)))
  obtain ⟨a5, b5, d5⟩ := env_arr (hT (.arrayClass .byte) (List.mem_of_getElem? (i := 246) (by decide +kernel)))
  refine ⟨(fun k => match k with | 0 => c0 | 1 => c1 | 2 => c2 | 3 => c3 | 4 => c4 | _ => c5, fun k => match k with | 0 => i0 | 1 => i1 | 2 => i2 | 3 => i3 | 4 => i4 | _ => i5), fun k => match k with | 0 => a0 | 1 => a1 | 2 => a2 | 3 => a3 | 4 => a4 | _ => a5, fun sa => ⟨fun c q hq => ?_, fun k q hk => ?_⟩⟩
  · match c, hq with
    | 0, hq => cases hq; exact k0
    | 1, hq => cases hq; exact k1
    | 2, hq => cases hq; exact k2
    | 3, hq => cases hq; exact k3
    | 4, hq => cases hq; exact k4
    | 5, hq => cases hq; exact k5
    | c + 6, hq => cases hq
  · match k, hk with
    | 0, hk => cases hk; exact ⟨b0, d0⟩
    | 1, hk => cases hk; exact ⟨b1, d1⟩
    | 2, hk => cases hk; exact ⟨b2, d2⟩
    | 3, hk => cases hk; exact ⟨b3, d3⟩
    | 4, hk => cases hk; exact ⟨b4, d4⟩
    | 5, hk => cases hk; exact ⟨b5, d5⟩
    | k + 6, hk => cases hk
/-- the standing words -/
theorem env_w {s : State} {args : Array Value} (hT : ∀ w ∈ lw_tbl, w.before args s = true) : ∀ w ∈ fx_wb ++ fx_wc, va_Nw w s := by
  have hF : ∀ w ∈ fx_ws, w.before args s = true := fun w hw => hT w (List.mem_filter.mp hw).1
  have h0 : ∀ w ∈ fx_wb, w.onTables = true ∧ (w ∈ lw_tbl ∨ w = Cond.selects "java/lang/StringBuilder" ⟨"java/lang/AbstractStringBuilder", "ensureCapacityInternal", "(I)V"⟩ ⟨"java/lang/AbstractStringBuilder", "ensureCapacityInternal", "(I)V"⟩) := by decide +kernel
  intro w hw
  rcases List.mem_append.mp hw with h | h
  · refine va_Nw.of (A := args) (h0 w h).1 ?_
    rcases (h0 w h).2 with h1 | h1
    · exact hT w h1
    · rw [h1]
      exact j_sel (y := yJ5_ensureCapacityInternal_d00df) hF rfl (List.mem_of_getElem? (i := 513) (by decide +kernel)) (hT (Cond.privateMethod yJ5_ensureCapacityInternal_d00df) (List.mem_of_getElem? (i := 513) (by decide +kernel))) (fx_w 514 (by decide +kernel) rfl)
  · have hac : ∀ ty, Cond.arrayClass ty ∈ lw_tbl → va_Nw (Cond.arrayClass ty) s := fun ty hm => pay_in (big := [Cond.arrayClass ty]) (args := args) (s := s) (fun w hw => by rw [List.mem_singleton.mp hw]; exact hT _ hm) (ws := [Cond.arrayClass ty]) (fun w hw => ⟨hw, by rw [List.mem_singleton.mp hw]; exact Or.inr ⟨_, rfl⟩⟩) _ List.mem_cons_self #[] s (State.WarmedH.refl s)
    simp only [fx_wc, List.mem_cons, List.not_mem_nil, or_false] at h
    rcases h with rfl | rfl | rfl | rfl | rfl | rfl
    · exact hac _ (List.mem_of_getElem? (i := 106) (by decide +kernel))
    · exact hac _ (List.mem_of_getElem? (i := 246) (by decide +kernel))
    · exact hac _ (List.mem_of_getElem? (i := 874) (by decide +kernel))
    · exact va_AO.of (hT (.arrayOver (.object RX1)) (List.mem_of_getElem? (i := 68) (by decide +kernel)))
    · exact va_AO.of (hT (.arrayOver (.object RX0)) (List.mem_of_getElem? (i := 70) (by decide +kernel)))
    · exact va_AO.of (hT (.arrayOver (.object RX2)) (List.mem_of_getElem? (i := 72) (by decide +kernel)))
