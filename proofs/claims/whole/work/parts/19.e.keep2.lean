/-! ===== both sides held together: what each command keeps, on ===== -/
theorem rE_u {g h : St} (E : rE g h) (k i : Nat) (x : Int32) : rE (u2 g k i x) (u2 h k i x) := fun k2 hk2 => by
  funext j
  rw [u2_at, u2_at, E k2 hk2]
theorem rE_0 {g h : St} (E : rE g h) (i : Nat) (x y : Int32) : rE (u2 g 0 i x) (u2 h 0 i y) := fun k2 hk2 => by
  rw [u2_ne _ _ _ (by omega), u2_ne _ _ _ (by omega), E k2 hk2]
theorem rT_same {g h G H : St} {fc hr j : Nat} (T : rT g h fc hr j) (e1 : ∀ f, G 11 f = g 11 f) (e2 : ∀ f, H 14 f = h 14 f) : rT G H fc hr j := by
  intro f hf a ha e
  rw [e2]
  exact T f hf a ha (by rw [← e1]; exact e)
theorem RC_rows {g h G H : St} {rc fc hr : Nat} (R : RC g h rc fc hr) (E : rE G H) (eg : ∀ k, (k = 0 ∨ k = 3 ∨ k = 5 ∨ k = 11 ∨ k = 12 ∨ k = 20 ∨ 30 ≤ k) → G k = g k) (eh : ∀ k, (k = 0 ∨ k = 13 ∨ k = 14 ∨ k = 15) → H k = h k)
    (B1 : ∀ k, ∃ q, q ≤ 50 ∧ G 1 k = nI q) (B2 : ∀ t, G 16 t = 0 ∨ G 16 t = 1) (RR : rR G h rc fc) (e8 : ∀ i, i < rc → ∀ f, f < fc → h 14 f = 1 → (G 8 i = nI f ↔ g 8 i = nI f)) : RC G H rc fc hr := by
  obtain ⟨-, C, B, F, N, A, -, S⟩ := R
  have eP : ∀ f, G (30 + f) = g (30 + f) := fun f => eg _ (by omega)
  refine ⟨E, ?_, ⟨⟨fun i => by rw [eg 3 (by omega)]; exact B.1.1 i, fun i => by rw [eg 5 (by omega)]; exact B.1.2 i⟩, B1, B2⟩, ?_, ?_, ?_, ?_, ?_⟩
  · unfold rC
    rw [eg 0 (by omega), eh 0 (by omega)]
    exact C
  · intro f hf
    have := F f hf
    unfold rP at this ⊢
    rw [eg 11 (by omega), eg 12 (by omega), eh 13 (by omega), eh 14 (by omega), eh 15 (by omega), eP, pw_eq (g := g) (f := f) (fun t _ => by rw [eP])]
    exact this
  · intro f h1 h2
    rw [eP, eh 13 (by omega), eh 14 (by omega)]
    exact N f h1 h2
  · intro t ht
    rw [eh 15 (by omega)]
    exact A t ht
  · refine ⟨RR.1, fun i hi => ?_⟩
    have := RR.2 i hi
    unfold rO at this ⊢
    rw [eh 14 (by omega)]
    exact this
  · exact rS_keep F S (fun t => by rw [eg 20 (by omega)]) (fun i => by rw [eg 3 (by omega)]) (fun i => by rw [eg 5 (by omega)]) e8 (fun f _ t _ => by rw [eP])
theorem rR_row {g h G : St} {rc fc i : Nat} (RR : rR g h rc fc) (hi : i < rc) (e : ∀ j, j ≠ i → G 7 j = g 7 j ∧ G 8 j = g 8 j ∧ G 10 j = g 10 j) (e3 : ∀ j, G 3 j = g 3 j) (eP : ∀ f t, G (30 + f) t = g (30 + f) t) (o : rO G h fc i) : rR G h rc fc := by
  have ev : ∀ j, trv G j = trv g j := fun j => by unfold trv; rw [e3]
  refine ⟨fun j hj => ?_, fun j hj => ?_⟩
  · obtain ⟨e7, e8, e10⟩ := e j (by omega)
    rw [e7, e10]
    exact RR.1 j hj
  · by_cases c : j = i
    · rw [c]; exact o
    · obtain ⟨e7, e8, e10⟩ := e j c
      have := RR.2 j hj
      unfold rO at this ⊢
      rw [e7, e8, e10, ev]
      simp only [eP]
      exact this
theorem rel_rate {g h : St} {rc fc hr k q : Nat} (R : RC g h rc fc hr) (hq : q ≤ 50) : RC (u2 g 1 k (nI q)) (u2 h 1 k (nI q)) rc fc hr := by
  refine RC_rows R (rE_u R.1 _ _ _) (fun k hk => u2_ne _ _ _ (by omega)) (fun k hk => u2_ne _ _ _ (by omega)) (fun j => ?_) (fun t => ?_) ?_ (fun i _ f _ _ => by rw [u2_ne _ _ _ (by omega)])
  · rw [u2_at]
    split
    · exact ⟨q, hq, rfl⟩
    · exact R.2.2.1.2.1 j
  · rw [u2_ne _ _ _ (by omega)]; exact R.2.2.1.2.2 t
  · obtain ⟨-, -, -, -, -, -, RR, -⟩ := R
    have ev : ∀ j, trv (u2 g 1 k (nI q)) j = trv g j := fun j => by unfold trv; rw [u2_ne _ _ _ (by omega)]
    have eP : ∀ f, u2 g 1 k (nI q) (30 + f) = g (30 + f) := fun f => u2_ne _ _ _ (by omega)
    refine ⟨fun j hj => by rw [u2_ne _ _ _ (by omega), u2_ne _ _ _ (by omega)]; exact RR.1 j hj, fun j hj => ?_⟩
    have := RR.2 j hj
    unfold rO at this ⊢
    rw [ev, u2_ne g _ _ (by omega : 7 ≠ 1), u2_ne g _ _ (by omega : 8 ≠ 1), u2_ne g _ _ (by omega : 10 ≠ 1)]
    simp only [eP]
    exact this
theorem rel_giveBack {g h : St} {rc fc hr i : Nat} (R : RC g h rc fc hr) (hi : i < rc) (h7 : g 7 i = 0) : RC (u2 g 7 i 4) (u2 h 7 i 4) rc fc hr := by
  have o := R.2.2.2.2.2.2.1.2 i hi
  have o8 : g 8 i = -1 := by
    rcases o with ⟨-, o8, -⟩ | ⟨o7, -⟩ | ⟨o7, -⟩ | ⟨-, o8⟩
    · exact o8
    · rw [h7] at o7; exact absurd o7 (by decide)
    · rw [h7] at o7; exact absurd o7 (by decide)
    · exact o8
  refine RC_rows R (rE_u R.1 _ _ _) (fun k hk => u2_ne _ _ _ (by omega)) (fun k hk => u2_ne _ _ _ (by omega)) (fun j => by rw [u2_ne _ _ _ (by omega)]; exact R.2.2.1.2.1 j) (fun t => by rw [u2_ne _ _ _ (by omega)]; exact R.2.2.1.2.2 t) ?_ (fun i _ f _ _ => by rw [u2_ne _ _ _ (by omega)])
  refine rR_row R.2.2.2.2.2.2.1 hi (fun j hj => ⟨by rw [u2_off _ _ (by omega)], by rw [u2_off _ _ (by omega)], by rw [u2_off _ _ (by omega)]⟩) (fun j => by rw [u2_off _ _ (by omega)]) (fun f t => by rw [u2_off _ _ (by omega)]) ?_
  exact Or.inr (Or.inr (Or.inr ⟨Or.inr (u2_self _ _ _ _), by rw [u2_off _ _ (by omega)]; exact o8⟩))
theorem rel_comeBack {g h : St} {rc fc hr t : Nat} (R : RC g h rc fc hr) : RC (u2 g 16 t 0) (u2 h 16 t 0) rc fc hr := by
  refine RC_rows R (rE_u R.1 _ _ _) (fun k hk => u2_ne _ _ _ (by omega)) (fun k hk => u2_ne _ _ _ (by omega)) (fun j => by rw [u2_ne _ _ _ (by omega)]; exact R.2.2.1.2.1 j) (fun j => ?_) ?_ (fun i _ f _ _ => by rw [u2_ne _ _ _ (by omega)])
  · rw [u2_at]
    split
    · exact Or.inl rfl
    · exact R.2.2.1.2.2 j
  · obtain ⟨-, -, -, -, -, -, RR, -⟩ := R
    have ev : ∀ j, trv (u2 g 16 t 0) j = trv g j := fun j => by unfold trv; rw [u2_ne _ _ _ (by omega)]
    have eP : ∀ f, u2 g 16 t 0 (30 + f) = g (30 + f) := fun f => u2_ne _ _ _ (by omega)
    refine ⟨fun j hj => by rw [u2_ne _ _ _ (by omega), u2_ne _ _ _ (by omega)]; exact RR.1 j hj, fun j hj => ?_⟩
    have := RR.2 j hj
    unfold rO at this ⊢
    rw [ev, u2_ne g _ _ (by omega : 7 ≠ 16), u2_ne g _ _ (by omega : 8 ≠ 16), u2_ne g _ _ (by omega : 10 ≠ 16)]
    simp only [eP]
    exact this
/-- a stamp that stands is for a ferry that has not sailed -/
theorem st_open {g h : St} {rc fc hr i : Nat} (R : RC g h rc fc hr) (hi : i < rc) (h7 : g 7 i = 1) : (g 10 i = 0 ∨ g 10 i = 1) ∧ ∃ f, f < fc ∧ g 8 i = nI f ∧ h 14 f = 0 ∧ g (30 + f) (trv g i) ≠ 0 := by
  rcases R.2.2.2.2.2.2.1.2 i hi with ⟨o7, -⟩ | ⟨-, o⟩ | ⟨o7, -⟩ | ⟨o7 | o7, -⟩
  · rw [h7] at o7; exact absurd o7 (by decide)
  · exact o
  · rw [h7] at o7; exact absurd o7 (by decide)
  · rw [h7] at o7; exact absurd o7 (by decide)
  · rw [h7] at o7; exact absurd o7 (by decide)
theorem rC_b {g h : St} {rc fc hr : Nat} (R : RC g h rc fc hr) : rc ≤ 60 ∧ fc ≤ 20 ∧ hr ≤ 10000 := ⟨R.2.1.2.2.1, R.2.1.2.2.2.2.2.1, R.2.1.2.2.2.2.2.2.2.2⟩
theorem rel_check {g h : St} {rc fc hr i t : Nat} {x : Int32} (R : RC g h rc fc hr) (hi : i < rc) (h7 : g 7 i = 1) : RC (u2 (u2 (u2 g 7 i 3) 8 i (-1)) 19 t x) (u2 (u2 (u2 h 7 i 3) 8 i (-1)) 19 t x) rc fc hr := by
  obtain ⟨-, f0, hf0, o8, o14, -⟩ := st_open R hi h7
  obtain ⟨b1, b2, b3⟩ := rC_b R
  refine RC_rows R (rE_u (rE_u (rE_u R.1 _ _ _) _ _ _) _ _ _) (fun k hk => by rw [u2_ne _ _ _ (by omega), u2_ne _ _ _ (by omega), u2_ne _ _ _ (by omega)]) (fun k hk => by rw [u2_ne _ _ _ (by omega), u2_ne _ _ _ (by omega), u2_ne _ _ _ (by omega)]) (fun j => by rw [u2_ne _ _ _ (by omega), u2_ne _ _ _ (by omega), u2_ne _ _ _ (by omega)]; exact R.2.2.1.2.1 j) (fun t => by rw [u2_ne _ _ _ (by omega), u2_ne _ _ _ (by omega), u2_ne _ _ _ (by omega)]; exact R.2.2.1.2.2 t) ?_ ?_
  · refine rR_row R.2.2.2.2.2.2.1 hi (fun j hj => ⟨by rw [u2_off _ _ (by omega), u2_off _ _ (by omega), u2_off _ _ (by omega)], by rw [u2_off _ _ (by omega), u2_off _ _ (by omega), u2_off _ _ (by omega)], by rw [u2_off _ _ (by omega), u2_off _ _ (by omega), u2_off _ _ (by omega)]⟩) (fun j => by rw [u2_off _ _ (by omega), u2_off _ _ (by omega), u2_off _ _ (by omega)]) (fun f t => by rw [u2_off _ _ (by omega), u2_off _ _ (by omega), u2_off _ _ (by omega)]) ?_
    exact Or.inr (Or.inr (Or.inr ⟨Or.inl (by rw [u2_off _ _ (by omega), u2_off _ _ (by omega), u2_self]), by rw [u2_off _ _ (by omega), u2_self]⟩))
  · intro j hj f hf e14
    rw [u2_off _ _ (by omega), u2_at]
    by_cases c : j = i
    · subst c
      rw [if_pos ⟨rfl, rfl⟩, o8]
      refine ⟨fun w => absurd w.symm (nI_m1 (by omega)), fun w => ?_⟩
      have : f0 = f := nI_inj (by omega) (by omega) w
      rw [← this, o14] at e14
      exact absurd e14 (by decide)
    · rw [if_neg (fun w => c w.2), u2_off _ _ (by omega)]
theorem rel_stamp {g h : St} {rc fc hr i f : Nat} (R : RC g h rc fc hr) (hi : i < rc) (h7 : g 7 i = 0) (hf : f < fc) (h14 : h 14 f = 0) (hP : g (30 + f) (trv g i) ≠ 0) : RC (u2 (u2 g 7 i 1) 8 i (nI f)) (u2 (u2 h 7 i 1) 8 i (nI f)) rc fc hr := by
  obtain ⟨b1, b2, b3⟩ := rC_b R
  have o : g 8 i = -1 ∧ (g 10 i = 0 ∨ g 10 i = 1) := by
    rcases R.2.2.2.2.2.2.1.2 i hi with ⟨-, o⟩ | ⟨o7, -⟩ | ⟨o7, -⟩ | ⟨o7 | o7, -⟩
    · exact o
    · rw [h7] at o7; exact absurd o7 (by decide)
    · rw [h7] at o7; exact absurd o7 (by decide)
    · rw [h7] at o7; exact absurd o7 (by decide)
    · rw [h7] at o7; exact absurd o7 (by decide)
  refine RC_rows R (rE_u (rE_u R.1 _ _ _) _ _ _) (fun k hk => by rw [u2_ne _ _ _ (by omega), u2_ne _ _ _ (by omega)]) (fun k hk => by rw [u2_ne _ _ _ (by omega), u2_ne _ _ _ (by omega)]) (fun j => by rw [u2_ne _ _ _ (by omega), u2_ne _ _ _ (by omega)]; exact R.2.2.1.2.1 j) (fun t => by rw [u2_ne _ _ _ (by omega), u2_ne _ _ _ (by omega)]; exact R.2.2.1.2.2 t) ?_ ?_
  · refine rR_row R.2.2.2.2.2.2.1 hi (fun j hj => ⟨by rw [u2_off _ _ (by omega), u2_off _ _ (by omega)], by rw [u2_off _ _ (by omega), u2_off _ _ (by omega)], by rw [u2_off _ _ (by omega), u2_off _ _ (by omega)]⟩) (fun j => by rw [u2_off _ _ (by omega), u2_off _ _ (by omega)]) (fun f t => by rw [u2_off _ _ (by omega), u2_off _ _ (by omega)]) ?_
    have ev : trv (u2 (u2 g 7 i 1) 8 i (nI f)) i = trv g i := by unfold trv; rw [u2_ne _ _ _ (by omega), u2_ne _ _ _ (by omega)]
    refine Or.inr (Or.inl ⟨by rw [u2_off _ _ (by omega), u2_self], by rw [u2_off _ _ (by omega), u2_off _ _ (by omega)]; exact o.2, f, hf, u2_self _ _ _ _, h14, ?_⟩)
    rw [ev, u2_off _ _ (by omega), u2_off _ _ (by omega)]
    exact hP
  · intro j hj f2 hf2 e14
    rw [u2_at]
    by_cases c : j = i
    · subst c
      rw [if_pos ⟨rfl, rfl⟩, o.1]
      refine ⟨fun w => ?_, fun w => absurd w.symm (nI_m1 (by omega))⟩
      have : f = f2 := nI_inj (by omega) (by omega) w
      rw [← this, h14] at e14
      exact absurd e14 (by decide)
    · rw [if_neg (fun w => c w.2), u2_off _ _ (by omega)]
