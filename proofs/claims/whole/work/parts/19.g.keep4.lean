/-! ===== both sides held together: a place changes ===== -/
theorem pw_one {g G : St} {f t n : Nat} {x y : Int32} (eP : ∀ j, G (30 + f) j = if j = t then x else g (30 + f) j) : pwN G f y n + (if t < n ∧ g (30 + f) t = y then 1 else 0) = pwN g f y n + (if t < n ∧ x = y then 1 else 0) := by
  induction n with
  | zero => rw [if_neg (by omega), if_neg (by omega)]; rfl
  | succ n ih =>
    unfold pwN
    rw [eP n]
    by_cases e : n = t
    · subst e
      rw [if_neg (by omega), if_neg (by omega)] at ih
      simp only [Nat.lt_succ_self, true_and, if_true]
      omega
    · rw [if_neg e]
      have k : t < n + 1 ↔ t < n := by omega
      simp only [k]
      omega
theorem rF_place {g h G H : St} {fc f t : Nat} {x : Int32} (F : rF g h fc) (hf : f < fc) (hfc : fc ≤ 20) (ht : t < 10) (e11 : G 11 = g 11) (e12 : G 12 = g 12) (eP : ∀ f2 j, G (30 + f2) j = if f2 = f ∧ j = t then x else g (30 + f2) j)
    (e14 : H 14 = h 14) (h14 : h 14 f = 0) (e13o : ∀ f2, f2 ≠ f → H 13 f2 = h 13 f2) (e13 : ∀ j, j < 10 → j ≠ t → bt (H 13 f) j = bt (h 13 f) j) (e13t : bt (H 13 f) t = true ↔ x ≠ 0) (hx : x = 0 ∨ x = 1 ∨ x = 2)
    (e15o : ∀ j, j ≠ t → H 15 j = h 15 j) (e15 : H 15 t = nI f ↔ x = 2) (e15b : ∀ f2, f2 < fc → f2 ≠ f → (H 15 t = nI f2 ↔ g (30 + f2) t = 2))
    (hs : ∀ s, s ≤ 10 → g 12 f = nI s → 10 ≤ s + pwN g f 0 10 → 10 ≤ s + pwN G f 0 10) : rF G H fc := by
  intro f2 hf2
  obtain ⟨⟨s, s1, s2, s3⟩, a, z, p⟩ := F f2 hf2
  by_cases e : f2 = f
  · subst e
    refine ⟨⟨s, s1, by rw [e12]; exact s2, hs s s1 s2 s3⟩, by rw [e11]; exact a, by rw [e14]; exact z, fun j hj => ?_⟩
    obtain ⟨p1, p2, p3⟩ := p j hj
    by_cases c : j = t
    · subst c
      unfold rP
      rw [e14, eP, if_pos ⟨rfl, rfl⟩]
      exact ⟨fun _ => ⟨hx, e13t⟩, fun q => absurd (h14.symm.trans q) (by decide), e15⟩
    · unfold rP
      rw [e14, eP, if_neg (fun q => c q.2), e13 j hj c, e15o j c]
      exact ⟨p1, p2, p3⟩
  · have eQ : ∀ j, G (30 + f2) j = g (30 + f2) j := fun j => by rw [eP, if_neg (fun q => e q.1)]
    refine ⟨⟨s, s1, by rw [e12]; exact s2, ?_⟩, by rw [e11]; exact a, by rw [e14]; exact z, fun j hj => ?_⟩
    · rw [pw_eq (g := g) (f := f2) (fun j _ => by rw [eQ])]; exact s3
    · obtain ⟨p1, p2, p3⟩ := p j hj
      unfold rP
      rw [e14, eQ, e13o f2 e]
      refine ⟨p1, p2, ?_⟩
      by_cases c : j = t
      · subst c; exact e15b f2 hf2 e
      · rw [e15o j c]; exact p3
theorem not3 {g h : St} {fc f t : Nat} (F : rF g h fc) (hf : f < fc) (ht : t < 10) (h14 : h 14 f = 0) : ¬ g (30 + f) t = 3 := fun c => by
  have := rF_gone F hf ht c
  rw [h14] at this
  exact absurd this (by decide)
set_option maxHeartbeats 4000000 in
theorem rel_seat {g h : St} {rc fc hr f t : Nat} (R : RC g h rc fc hr) (hf : f < fc) (ht : t < 10) (h14 : h 14 f = 0) (hP : g (30 + f) t = 0) (hs : ∀ s, s ≤ 10 → g 12 f = nI s → 11 ≤ s + pwN g f 0 10) :
    RC (u2 g (30 + f) t 1) (u2 h 13 f (h 13 f ||| (1 <<< (nI t &&& 31)))) rc fc hr := by
  obtain ⟨E, ⟨c1, c2, c3, c4, c5, c6, c7, c8, c9⟩, B, F, N, A, RR, S⟩ := R
  have n3 := not3 F hf ht h14
  have eP : ∀ f2 j, u2 g (30 + f) t 1 (30 + f2) j = if f2 = f ∧ j = t then 1 else g (30 + f2) j := fun f2 j => by
    rw [u2_at]
    by_cases q : f2 = f ∧ j = t
    · rw [if_pos q, if_pos ⟨by omega, q.2⟩]
    · rw [if_neg q, if_neg (by omega)]
  have Gk : ∀ k, k < 30 → u2 g (30 + f) t 1 k = g k := fun k hk => u2_ne _ _ _ (by omega)
  have Hk : ∀ k, k ≠ 13 → u2 h 13 f (h 13 f ||| (1 <<< (nI t &&& 31))) k = h k := fun k hk => u2_ne _ _ _ hk
  have H13 : ∀ j, u2 h 13 f (h 13 f ||| (1 <<< (nI t &&& 31))) 13 j = if j = f then h 13 f ||| (1 <<< (nI t &&& 31)) else h 13 j := fun j => by
    rw [u2_at]; by_cases q : j = f <;> simp [q]
  generalize u2 g (30 + f) t 1 = G at eP Gk
  generalize u2 h 13 f (h 13 f ||| (1 <<< (nI t &&& 31))) = H at Hk H13
  obtain ⟨-, -, -, pf⟩ := F f hf
  have ev : ∀ i, trv G i = trv g i := fun i => by unfold trv; rw [Gk 3 (by omega)]
  refine ⟨fun k hk => by rw [Gk k (by omega), Hk k (by omega)]; exact E k hk, ?_, ?_, ?_, ?_, ?_, ?_, ?_⟩
  · unfold rC; rw [Gk 0 (by omega), Hk 0 (by omega)]; exact ⟨c1, c2, c3, c4, c5, c6, c7, c8, c9⟩
  · unfold rB okT; rw [Gk 1 (by omega), Gk 3 (by omega), Gk 5 (by omega), Gk 16 (by omega)]; exact B
  · refine rF_place (x := 1) F hf c6 ht (Gk 11 (by omega)) (Gk 12 (by omega)) eP (Hk 14 (by omega)) h14 (fun f2 q => by rw [H13, if_neg q]) (fun j hj q => ?_) ?_ (Or.inr (Or.inl rfl)) (fun j _ => by rw [Hk 15 (by omega)]) ?_ (fun f2 h2 _ => ?_) (fun s s1 s2 s3 => ?_)
    · rw [H13, if_pos rfl, bit_on (by omega) (by omega)]; simp [q]
    · rw [H13, if_pos rfl, bit_on (by omega) (by omega)]; simp
    · rw [Hk 15 (by omega), (pf t ht).2.2, hP]; decide
    · obtain ⟨-, -, -, p2⟩ := F f2 h2
      rw [Hk 15 (by omega)]; exact (p2 t ht).2.2
    · have := pw_one (g := g) (G := G) (f := f) (t := t) (x := 1) (y := 0) (n := 10) (fun j => by rw [eP]; simp)
      rw [if_pos ⟨ht, hP⟩, if_neg (fun q => absurd q.2 (by decide))] at this
      have := hs s s1 s2
      omega
  · intro f2 q1 q2
    rw [H13, if_neg (by omega), Hk 14 (by omega)]
    obtain ⟨n1, n2, n4⟩ := N f2 q1 q2
    exact ⟨n1, n2, fun j => by rw [eP, if_neg (by omega)]; exact n4 j⟩
  · intro j hj
    rw [Hk 15 (by omega)]; exact A j hj
  · refine ⟨fun i hi => by rw [Gk 7 (by omega), Gk 10 (by omega)]; exact RR.1 i hi, fun i hi => ?_⟩
    unfold rO
    rw [Gk 7 (by omega), Gk 8 (by omega), Gk 10 (by omega), Hk 14 (by omega), ev]
    rcases RR.2 i hi with o | ⟨o1, o2, f2, q2, o3, o4, o5⟩ | o | o
    · exact Or.inl o
    · refine Or.inr (Or.inl ⟨o1, o2, f2, q2, o3, o4, ?_⟩)
      rw [eP]
      split
      · decide
      · exact o5
    · exact Or.inr (Or.inr (Or.inl o))
    · exact Or.inr (Or.inr (Or.inr o))
  · refine rS_keep F S (fun t => by rw [Gk 20 (by omega)]) (fun i => by rw [Gk 3 (by omega)]) (fun i => by rw [Gk 5 (by omega)]) (fun i _ f _ _ => by rw [Gk 8 (by omega)]) (fun f2 q2 j hj => ?_)
    rw [eP]
    by_cases q : f2 = f ∧ j = t
    · rw [if_pos q, q.1, q.2]; exact ⟨fun w => absurd w (by decide), fun w => absurd w n3⟩
    · rw [if_neg q]
set_option maxHeartbeats 4000000 in
theorem rel_aboard {g h : St} {rc fc hr f t : Nat} (R : RC g h rc fc hr) (hf : f < fc) (ht : t < 10) (h14 : h 14 f = 0) (hP : ¬ g (30 + f) t = 0) (hall : ∀ f, f < fc → ¬ g (30 + f) t = 2) :
    RC (u2 g (30 + f) t 2) (u2 h 15 t (nI f)) rc fc hr := by
  obtain ⟨E, ⟨c1, c2, c3, c4, c5, c6, c7, c8, c9⟩, B, F, N, A, RR, S⟩ := R
  have n3 := not3 F hf ht h14
  have eP : ∀ f2 j, u2 g (30 + f) t 2 (30 + f2) j = if f2 = f ∧ j = t then 2 else g (30 + f2) j := fun f2 j => by
    rw [u2_at]
    by_cases q : f2 = f ∧ j = t
    · rw [if_pos q, if_pos ⟨by omega, q.2⟩]
    · rw [if_neg q, if_neg (by omega)]
  have Gk : ∀ k, k < 30 → u2 g (30 + f) t 2 k = g k := fun k hk => u2_ne _ _ _ (by omega)
  have Hk : ∀ k, k ≠ 15 → u2 h 15 t (nI f) k = h k := fun k hk => u2_ne _ _ _ hk
  have H15 : ∀ j, u2 h 15 t (nI f) 15 j = if j = t then nI f else h 15 j := fun j => by
    rw [u2_at]; by_cases q : j = t <;> simp [q]
  generalize u2 g (30 + f) t 2 = G at eP Gk
  generalize u2 h 15 t (nI f) = H at Hk H15
  obtain ⟨-, -, -, pf⟩ := F f hf
  have ev : ∀ i, trv G i = trv g i := fun i => by unfold trv; rw [Gk 3 (by omega)]
  refine ⟨fun k hk => by rw [Gk k (by omega), Hk k (by omega)]; exact E k hk, ?_, ?_, ?_, ?_, ?_, ?_, ?_⟩
  · unfold rC; rw [Gk 0 (by omega), Hk 0 (by omega)]; exact ⟨c1, c2, c3, c4, c5, c6, c7, c8, c9⟩
  · unfold rB okT; rw [Gk 1 (by omega), Gk 3 (by omega), Gk 5 (by omega), Gk 16 (by omega)]; exact B
  · refine rF_place (x := 2) F hf c6 ht (Gk 11 (by omega)) (Gk 12 (by omega)) eP (Hk 14 (by omega)) h14 (fun f2 q => by rw [Hk 13 (by omega)]) (fun j hj q => by rw [Hk 13 (by omega)]) ?_ (Or.inr (Or.inr rfl)) (fun j q => by rw [H15, if_neg q]) ?_ (fun f2 h2 q => ?_) (fun s s1 s2 s3 => ?_)
    · rw [Hk 13 (by omega), ((pf t ht).1 h14).2]
      exact ⟨fun _ => by decide, fun _ => hP⟩
    · rw [H15, if_pos rfl]; exact ⟨fun _ => rfl, fun _ => rfl⟩
    · rw [H15, if_pos rfl]
      exact ⟨fun w => absurd (nI_inj (by omega) (by omega) w).symm q, fun w => absurd w (hall f2 h2)⟩
    · have := pw_one (g := g) (G := G) (f := f) (t := t) (x := 2) (y := 0) (n := 10) (fun j => by rw [eP]; simp)
      rw [if_neg (fun q => hP q.2), if_neg (fun q => absurd q.2 (by decide))] at this
      omega
  · intro f2 q1 q2
    rw [Hk 13 (by omega), Hk 14 (by omega)]
    obtain ⟨n1, n2, n4⟩ := N f2 q1 q2
    exact ⟨n1, n2, fun j => by rw [eP, if_neg (by omega)]; exact n4 j⟩
  · intro j hj
    rw [H15]
    split
    · exact Or.inr ⟨f, hf, rfl⟩
    · exact A j hj
  · refine ⟨fun i hi => by rw [Gk 7 (by omega), Gk 10 (by omega)]; exact RR.1 i hi, fun i hi => ?_⟩
    unfold rO
    rw [Gk 7 (by omega), Gk 8 (by omega), Gk 10 (by omega), Hk 14 (by omega), ev]
    rcases RR.2 i hi with o | ⟨o1, o2, f2, q2, o3, o4, o5⟩ | o | o
    · exact Or.inl o
    · refine Or.inr (Or.inl ⟨o1, o2, f2, q2, o3, o4, ?_⟩)
      rw [eP]
      split
      · decide
      · exact o5
    · exact Or.inr (Or.inr (Or.inl o))
    · exact Or.inr (Or.inr (Or.inr o))
  · refine rS_keep F S (fun t => by rw [Gk 20 (by omega)]) (fun i => by rw [Gk 3 (by omega)]) (fun i => by rw [Gk 5 (by omega)]) (fun i _ f _ _ => by rw [Gk 8 (by omega)]) (fun f2 q2 j hj => ?_)
    rw [eP]
    by_cases q : f2 = f ∧ j = t
    · rw [if_pos q, q.1, q.2]; exact ⟨fun w => absurd w (by decide), fun w => absurd w n3⟩
    · rw [if_neg q]
theorem stF_cong {g u : St} {t f i : Nat} (e7 : u 7 = g 7) (e8 : u 8 = g 8) (e3 : u 3 = g 3) : stF u t f i ↔ stF g t f i := by
  show (_ = _ ∧ _ = _ ∧ _ = _) ↔ (_ = _ ∧ _ = _ ∧ _ = _)
  rw [e7, e8, e3]
theorem nRo_cong {g u : St} {t f n : Nat} (e7 : u 7 = g 7) (e8 : u 8 = g 8) (e3 : u 3 = g 3) : nRo u t f n = nRo g t f n := by
  induction n with
  | zero => rfl
  | succ n ih =>
    unfold nRo
    rw [ih]
    simp only [stF_cong e7 e8 e3]
theorem cRo_in {g : St} {t f n i : Nat} (c : i < n ∧ stF g t f i) : cRo g t f n 7 i = 0 ∧ cRo g t f n 8 i = -1 := by
  unfold cRo
  exact ⟨by rw [if_pos ⟨c.1, c.2, Or.inl rfl⟩, if_pos rfl], by rw [if_pos ⟨c.1, c.2, Or.inr rfl⟩, if_neg (by omega)]⟩
theorem cRo_out {g : St} {t f n i k : Nat} (c : ¬ (i < n ∧ stF g t f i)) : cRo g t f n k i = g k i := by
  unfold cRo
  rw [if_neg (fun q => c ⟨q.1, q.2.1⟩)]
set_option maxHeartbeats 4000000 in
theorem rel_leave {g h : St} {rc fc hr f t : Nat} {y : Int32} (R : RC g h rc fc hr) (hf : f < fc) (ht : t < 10) (h14 : h 14 f = 0) (hP : ¬ g (30 + f) t = 0) (hy : (h 15 t = nI f ∧ y = -1) ∨ (¬ h 15 t = nI f ∧ y = h 15 t)) :
    RC (cRo (u2 g (30 + f) t 0) t f rc) (cRo (u2 (u2 h 13 f (h 13 f &&& ((1 <<< (nI t &&& 31)) ^^^ (-1)))) 15 t y) t f rc) rc fc hr := by
  obtain ⟨E, ⟨c1, c2, c3, c4, c5, c6, c7, c8, c9⟩, B, F, N, A, RR, S⟩ := R
  have n3 := not3 F hf ht h14
  have eP1 : ∀ f2 j, u2 g (30 + f) t 0 (30 + f2) j = if f2 = f ∧ j = t then 0 else g (30 + f2) j := fun f2 j => by
    rw [u2_at]
    by_cases q : f2 = f ∧ j = t
    · rw [if_pos q, if_pos ⟨by omega, q.2⟩]
    · rw [if_neg q, if_neg (by omega)]
  have Gk1 : ∀ k, k < 30 → u2 g (30 + f) t 0 k = g k := fun k hk => u2_ne _ _ _ (by omega)
  have Hk1 : ∀ k, k ≠ 13 → k ≠ 15 → u2 (u2 h 13 f (h 13 f &&& ((1 <<< (nI t &&& 31)) ^^^ (-1)))) 15 t y k = h k := fun k h1 h2 => by rw [u2_ne _ _ _ h2, u2_ne _ _ _ h1]
  have H131 : ∀ j, u2 (u2 h 13 f (h 13 f &&& ((1 <<< (nI t &&& 31)) ^^^ (-1)))) 15 t y 13 j = if j = f then h 13 f &&& ((1 <<< (nI t &&& 31)) ^^^ (-1)) else h 13 j := fun j => by
    rw [u2_off _ _ (by omega), u2_at]; by_cases q : j = f <;> simp [q]
  have H151 : ∀ j, u2 (u2 h 13 f (h 13 f &&& ((1 <<< (nI t &&& 31)) ^^^ (-1)))) 15 t y 15 j = if j = t then y else h 15 j := fun j => by
    rw [u2_at]
    by_cases q : j = t
    · simp [q]
    · rw [if_neg (fun w => q w.2), if_neg q, u2_off _ _ (by omega)]
  generalize u2 g (30 + f) t 0 = g1 at eP1 Gk1
  generalize u2 (u2 h 13 f (h 13 f &&& ((1 <<< (nI t &&& 31)) ^^^ (-1)))) 15 t y = h1 at Hk1 H131 H151
  have sg : ∀ i, stF g1 t f i ↔ stF g t f i := fun i => stF_cong (Gk1 7 (by omega)) (Gk1 8 (by omega)) (Gk1 3 (by omega))
  have sh : ∀ i, stF h1 t f i ↔ stF g t f i := fun i => by
    rw [stF_cong (Hk1 7 (by omega) (by omega)) (Hk1 8 (by omega) (by omega)) (Hk1 3 (by omega) (by omega))]
    exact (stF_cong (E 7 (by omega)) (E 8 (by omega)) (E 3 (by omega))).symm
  have Gk : ∀ k, k ≠ 7 → k ≠ 8 → cRo g1 t f rc k = g1 k := fun k h1 h2 => cRo_k h1 h2
  have Hk : ∀ k, k ≠ 7 → k ≠ 8 → cRo h1 t f rc k = h1 k := fun k h1 h2 => cRo_k h1 h2
  have G7 : ∀ i, cRo g1 t f rc 7 i = if i < rc ∧ stF g t f i then 0 else g 7 i := fun i => by
    by_cases c : i < rc ∧ stF g t f i
    · rw [if_pos c]; exact (cRo_in ⟨c.1, (sg i).mpr c.2⟩).1
    · rw [if_neg c, cRo_out (fun q => c ⟨q.1, (sg i).mp q.2⟩), Gk1 7 (by omega)]
  have G8 : ∀ i, cRo g1 t f rc 8 i = if i < rc ∧ stF g t f i then -1 else g 8 i := fun i => by
    by_cases c : i < rc ∧ stF g t f i
    · rw [if_pos c]; exact (cRo_in ⟨c.1, (sg i).mpr c.2⟩).2
    · rw [if_neg c, cRo_out (fun q => c ⟨q.1, (sg i).mp q.2⟩), Gk1 8 (by omega)]
  have H7 : ∀ i, cRo h1 t f rc 7 i = if i < rc ∧ stF g t f i then 0 else h 7 i := fun i => by
    by_cases c : i < rc ∧ stF g t f i
    · rw [if_pos c]; exact (cRo_in ⟨c.1, (sh i).mpr c.2⟩).1
    · rw [if_neg c, cRo_out (fun q => c ⟨q.1, (sh i).mp q.2⟩), Hk1 7 (by omega) (by omega)]
  have H8 : ∀ i, cRo h1 t f rc 8 i = if i < rc ∧ stF g t f i then -1 else h 8 i := fun i => by
    by_cases c : i < rc ∧ stF g t f i
    · rw [if_pos c]; exact (cRo_in ⟨c.1, (sh i).mpr c.2⟩).2
    · rw [if_neg c, cRo_out (fun q => c ⟨q.1, (sh i).mp q.2⟩), Hk1 8 (by omega) (by omega)]
  generalize cRo g1 t f rc = G at Gk G7 G8
  generalize cRo h1 t f rc = H at Hk H7 H8
  have Gk2 : ∀ k, k < 30 → k ≠ 7 → k ≠ 8 → G k = g k := fun k h0 h1 h2 => by rw [Gk k h1 h2, Gk1 k h0]
  have Hk2 : ∀ k, k ≠ 7 → k ≠ 8 → k ≠ 13 → k ≠ 15 → H k = h k := fun k h1 h2 h3 h4 => by rw [Hk k h1 h2, Hk1 k h3 h4]
  have eP : ∀ f2 j, G (30 + f2) j = if f2 = f ∧ j = t then 0 else g (30 + f2) j := fun f2 j => by rw [Gk _ (by omega) (by omega), eP1]
  have H13 : ∀ j, H 13 j = if j = f then h 13 f &&& ((1 <<< (nI t &&& 31)) ^^^ (-1)) else h 13 j := fun j => by rw [Hk 13 (by omega) (by omega), H131]
  have H15 : ∀ j, H 15 j = if j = t then y else h 15 j := fun j => by rw [Hk 15 (by omega) (by omega), H151]
  obtain ⟨-, -, -, pf⟩ := F f hf
  have yf : ¬ y = nI f := by
    rcases hy with ⟨q1, q2⟩ | ⟨q1, q2⟩
    · rw [q2]; exact fun w => nI_m1 (by omega) w.symm
    · rw [q2]; exact q1
  have ev : ∀ i, trv G i = trv g i := fun i => by unfold trv; rw [Gk2 3 (by omega) (by omega) (by omega)]
  refine ⟨?_, ?_, ?_, ?_, ?_, ?_, ?_, ?_⟩
  · intro k hk
    by_cases k7 : k = 7
    · subst k7; funext i; rw [G7, H7]
      have q : g 7 i = h 7 i := by rw [E 7 (by omega)]
      by_cases c : i < rc ∧ stF g t f i
      · rw [if_pos c, if_pos c]
      · rw [if_neg c, if_neg c, q]
    · by_cases k8 : k = 8
      · subst k8; funext i; rw [G8, H8]
        have q : g 8 i = h 8 i := by rw [E 8 (by omega)]
        by_cases c : i < rc ∧ stF g t f i
        · rw [if_pos c, if_pos c]
        · rw [if_neg c, if_neg c, q]
      · rw [Gk2 k (by omega) k7 k8, Hk2 k k7 k8 (by omega) (by omega)]; exact E k hk
  · unfold rC; rw [Gk2 0 (by omega) (by omega) (by omega), Hk2 0 (by omega) (by omega) (by omega) (by omega)]; exact ⟨c1, c2, c3, c4, c5, c6, c7, c8, c9⟩
  · unfold rB okT; rw [Gk2 1 (by omega) (by omega) (by omega), Gk2 3 (by omega) (by omega) (by omega), Gk2 5 (by omega) (by omega) (by omega), Gk2 16 (by omega) (by omega) (by omega)]; exact B
  · refine rF_place (x := 0) F hf c6 ht (Gk2 11 (by omega) (by omega) (by omega)) (Gk2 12 (by omega) (by omega) (by omega)) eP (Hk2 14 (by omega) (by omega) (by omega) (by omega)) h14 (fun f2 q => by rw [H13, if_neg q]) (fun j hj q => ?_) ?_ (Or.inl rfl) (fun j q => by rw [H15, if_neg q]) ?_ (fun f2 h2 q => ?_) (fun s s1 s2 s3 => ?_)
    · rw [H13, if_pos rfl, bit_off (by omega) (by omega)]; simp [q]
    · rw [H13, if_pos rfl, bit_off (by omega) (by omega)]; simp
    · rw [H15, if_pos rfl]
      exact ⟨fun w => absurd w yf, fun w => absurd w (by decide)⟩
    · rw [H15, if_pos rfl]
      obtain ⟨-, -, -, p2⟩ := F f2 h2
      rw [← (p2 t ht).2.2]
      rcases hy with ⟨q1, q2⟩ | ⟨q1, q2⟩
      · rw [q2, q1]
        exact ⟨fun w => absurd w.symm (nI_m1 (by omega)), fun w => absurd (nI_inj (by omega) (by omega) w).symm q⟩
      · rw [q2]
    · have := pw_one (g := g) (G := G) (f := f) (t := t) (x := 0) (y := 0) (n := 10) (fun j => by rw [eP]; simp)
      rw [if_neg (fun q => hP q.2), if_pos ⟨ht, rfl⟩] at this
      omega
  · intro f2 q1 q2
    rw [H13, if_neg (by omega), Hk2 14 (by omega) (by omega) (by omega) (by omega)]
    obtain ⟨n1, n2, n4⟩ := N f2 q1 q2
    exact ⟨n1, n2, fun j => by rw [eP, if_neg (by omega)]; exact n4 j⟩
  · intro j hj
    rw [H15]
    by_cases q : j = t
    · rw [if_pos q]
      rcases hy with ⟨q1, q2⟩ | ⟨q1, q2⟩
      · exact Or.inl q2
      · rw [q2, ← q]; exact A j hj
    · rw [if_neg q]; exact A j hj
  · refine ⟨fun i hi => ?_, fun i hi => ?_⟩
    · rw [G7, if_neg (by omega), Gk2 10 (by omega) (by omega) (by omega)]; exact RR.1 i hi
    · have g10 := Gk2 10 (by omega) (by omega) (by omega)
      have h14 := Hk2 14 (by omega) (by omega) (by omega) (by omega)
      unfold rO
      rw [g10, h14, ev]
      by_cases c : stF g t f i
      · have o10 : g 10 i = 0 ∨ g 10 i = 1 := by
          rcases RR.2 i hi with ⟨-, -, o⟩ | ⟨-, o, -⟩ | ⟨o7, -⟩ | ⟨o7 | o7, -⟩
          · exact o
          · exact o
          · exact absurd (c.1.symm.trans o7) (by decide)
          · exact absurd (c.1.symm.trans o7) (by decide)
          · exact absurd (c.1.symm.trans o7) (by decide)
        exact Or.inl ⟨by rw [G7, if_pos ⟨hi, c⟩], by rw [G8, if_pos ⟨hi, c⟩], o10⟩
      · have v7 : G 7 i = g 7 i := by rw [G7, if_neg (fun q => c q.2)]
        have v8 : G 8 i = g 8 i := by rw [G8, if_neg (fun q => c q.2)]
        rw [v7, v8]
        rcases RR.2 i hi with o | ⟨o1, o2, f2, q2, o3, o4, o5⟩ | o | o
        · exact Or.inl o
        · refine Or.inr (Or.inl ⟨o1, o2, f2, q2, o3, o4, ?_⟩)
          rw [eP, if_neg (fun q => c ?_)]
          · exact o5
          · refine ⟨o1, ?_, ?_⟩
            · rw [← q.1]; exact o3
            · rw [← q.2]; exact (okT_t B.1 i).2
        · exact Or.inr (Or.inr (Or.inl o))
        · exact Or.inr (Or.inr (Or.inr o))
  · refine rS_keep F S (fun t => by rw [Gk2 20 (by omega) (by omega) (by omega)]) (fun i => by rw [Gk2 3 (by omega) (by omega) (by omega)]) (fun i => by rw [Gk2 5 (by omega) (by omega) (by omega)]) (fun i _ f2 q2 e14 => ?_) (fun f2 q2 j hj => ?_)
    · rw [G8]
      by_cases c : i < rc ∧ stF g t f i
      · rw [if_pos c, c.2.2.1]
        refine ⟨fun w => absurd w.symm (nI_m1 (by omega)), fun w => ?_⟩
        have : f = f2 := nI_inj (by omega) (by omega) w
        rw [← this, h14] at e14
        exact absurd e14 (by decide)
      · rw [if_neg c]
    · rw [eP]
      by_cases q : f2 = f ∧ j = t
      · rw [if_pos q, q.1, q.2]; exact ⟨fun w => absurd w (by decide), fun w => absurd w n3⟩
      · rw [if_neg q]
