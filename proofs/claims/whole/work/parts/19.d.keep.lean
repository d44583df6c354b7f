/-! ===== both sides held together: what each command keeps ===== -/
theorem rfS_cong {g G : St} {t f m : Nat} (h : ∀ n, n < m → ((G 3 n = nI t ∧ G 8 n = nI f) ↔ (g 3 n = nI t ∧ g 8 n = nI f)) ∧ G 5 n = g 5 n) : rfS G t f m = rfS g t f m := by
  induction m with
  | zero => rfl
  | succ m ih =>
    unfold rfS
    obtain ⟨h1, h2⟩ := h m (by omega)
    rw [ih (fun n hn => h n (by omega)), h2]
    simp only [h1]
theorem rfA_cong {g G : St} {t r1 r2 m : Nat} (h : ∀ f, f < m → (G (30 + f) t = 3 ↔ g (30 + f) t = 3) ∧ (g (30 + f) t = 3 → rfS G t f r1 = rfS g t f r2)) : rfA G t r1 m = rfA g t r2 m := by
  induction m with
  | zero => rfl
  | succ m ih =>
    show rfA G t r1 m + _ = rfA g t r2 m + _
    obtain ⟨h1, h2⟩ := h m (by omega)
    rw [ih (fun f hf => h f (by omega))]
    by_cases c : g (30 + m) t = 3
    · rw [if_pos (h1.mpr c), if_pos c, h2 c]
    · rw [if_neg (fun q => c (h1.mp q)), if_neg c]
/-- gone at a ferry: it has sailed -/
theorem rF_gone {g h : St} {fc f t : Nat} (F : rF g h fc) (hf : f < fc) (ht : t < 10) (c : g (30 + f) t = 3) : h 14 f = 1 := by
  obtain ⟨-, -, z, p⟩ := F f hf
  rcases z with z | z
  · rcases ((p t ht).1 z).1 with w | w | w <;> rw [w] at c <;> exact absurd c (by decide)
  · exact z
theorem rS_keep {g h G : St} {rc fc : Nat} (F : rF g h fc) (S : rS g rc fc) (e20 : ∀ t, G 20 t = g 20 t) (e3 : ∀ i, G 3 i = g 3 i) (e5 : ∀ i, G 5 i = g 5 i) (e8 : ∀ i, i < rc → ∀ f, f < fc → h 14 f = 1 → (G 8 i = nI f ↔ g 8 i = nI f)) (eP : ∀ f, f < fc → ∀ t, t < 10 → (G (30 + f) t = 3 ↔ g (30 + f) t = 3)) : rS G rc fc := by
  intro t ht
  rw [e20, S t ht]
  refine (rfA_cong (fun f hf => ⟨eP f hf t ht, fun c => rfS_cong (fun n hn => ⟨?_, e5 n⟩)⟩)).symm
  rw [e3, e8 n hn f hf (rF_gone F hf ht c)]
theorem RC_0 {g h G H : St} {rc fc hr hr2 : Nat} (R : RC g h rc fc hr) (eg : ∀ k, k ≠ 0 → G k = g k) (eh : ∀ k, k ≠ 0 → H k = h k) (C : rC G H rc fc hr2) : RC G H rc fc hr2 := by
  obtain ⟨E, -, B, F, N, A, RR, S⟩ := R
  have eP : ∀ f, G (30 + f) = g (30 + f) := fun f => eg _ (by omega)
  have ev : ∀ i, trv G i = trv g i := fun i => by unfold trv; rw [eg 3 (by omega)]
  refine ⟨fun k hk => by rw [eg k (by omega), eh k (by omega)]; exact E k hk, C, ?_, ?_, ?_, ?_, ?_, ?_⟩
  · unfold rB okT
    rw [eg 1 (by omega), eg 3 (by omega), eg 5 (by omega), eg 16 (by omega)]
    exact B
  · intro f hf
    have := F f hf
    unfold rP at this ⊢
    rw [eg 11 (by omega), eg 12 (by omega), eh 13 (by omega), eh 14 (by omega), eh 15 (by omega), eP, pw_eq (g := g) (f := f) (fun t _ => by rw [eP])]
    exact this
  · intro f h1 h2
    rw [eP, eh 13 (by omega), eh 14 (by omega)]
    exact N f h1 h2
  · intro t ht
    rw [eh 15 (by omega)]
    exact A t ht
  · refine ⟨fun i hi => ?_, fun i hi => ?_⟩
    · rw [eg 7 (by omega), eg 10 (by omega)]; exact RR.1 i hi
    · have := RR.2 i hi
      unfold rO at this ⊢
      rw [eg 7 (by omega), eg 8 (by omega), eg 10 (by omega), eh 14 (by omega), ev]
      simp only [eP]
      exact this
  · exact rS_keep F S (fun t => by rw [eg 20 (by omega)]) (fun i => by rw [eg 3 (by omega)]) (fun i => by rw [eg 5 (by omega)]) (fun i _ f _ _ => by rw [eg 8 (by omega)]) (fun f _ t _ => by rw [eP])
theorem rel_thrown {g h : St} {rc fc hr : Nat} {x : Int32} (R : RC g h rc fc hr) : RC g (u2 h 0 3 x) rc fc hr := by
  refine RC_0 R (fun _ _ => rfl) (fun k hk => u2_ne h 3 x hk) ?_
  obtain ⟨-, ⟨c1, c2, c3, c4, c5, c6, c7, c8, c9⟩, -⟩ := R
  exact ⟨c1, by rw [u2_off _ _ (by omega)]; exact c2, c3, c4, by rw [u2_off _ _ (by omega)]; exact c5, c6, c7, by rw [u2_off _ _ (by omega)]; exact c8, c9⟩
theorem rT_thrown {g h : St} {fc hr j : Nat} {x : Int32} (T : rT g h fc hr j) : rT g (u2 h 0 3 x) fc hr j := by
  intro f hf a ha e
  rw [u2_ne h 3 x (by omega)]
  exact T f hf a ha e
theorem Rel_thrown {g h : St} {x : Int32} (R : Rel g h) : Rel g (u2 h 0 3 x) := by
  obtain ⟨rc, fc, hr, R, T⟩ := R
  exact ⟨rc, fc, hr, rel_thrown R, rT_thrown T⟩
/-- an hour's sailings -/
theorem rel_hour {g h : St} {rc fc hr : Nat} (R : RC g h rc fc hr) (T : rT g h fc hr 0) : ∀ n, n ≤ fc → RC (cSa g rc n) (mPf h rc n) rc fc hr ∧ rT (cSa g rc n) (mPf h rc n) fc hr n := by
  intro n
  induction n with
  | zero => exact fun _ => ⟨R, T⟩
  | succ n ih =>
    intro hn
    obtain ⟨R1, T1⟩ := ih (by omega)
    generalize hu : cSa g rc n = u at R1 T1
    generalize hv : mPf h rc n = v at R1 T1
    have R0 := R1
    obtain ⟨E, ⟨-, -, -, -, -, -, c7, c8, c9⟩, -, F, -⟩ := R1
    obtain ⟨-, ⟨a, a1, a2, a3⟩, z, -⟩ := F n (by omega)
    have t1 := T1 n (by omega) a a2 a3
    have e11 : v 11 n = u 11 n := by rw [E 11 (by omega)]
    by_cases c : a = hr
    · subst c
      have z0 : v 14 n = 0 := by
        rcases z with z | z
        · exact z
        · have := t1.mp z
          omega
      have k1 : cSa g rc (n + 1) = cSl u n rc 10 := by rw [cSa_t (by rw [hu, a3, c7]), hu]
      have k2 : mPf h rc (n + 1) = mSail v n rc := by rw [← mPf_s (by rw [hv]; exact z0) (by rw [hv, e11, a3, c8]), hv]
      rw [k1, k2]
      obtain ⟨s1, s2, s3⟩ := rel_sail R0 (by omega) z0
      refine ⟨s1, fun f hf x hx e => ?_⟩
      rw [s2 11 (by omega)] at e
      rw [s3]
      have t2 := T1 f hf x hx e
      by_cases ef : f = n
      · subst ef
        have : x = a := nI_inj (by omega) (by omega) (e.symm.trans a3)
        subst this
        rw [if_pos rfl]
        exact ⟨fun _ => Or.inr ⟨rfl, by omega⟩, fun _ => rfl⟩
      · rw [if_neg ef, t2]
        omega
    · have k1 : cSa g rc (n + 1) = u := by rw [cSa_f (by rw [hu, a3, c7]; exact fun q => c (nI_inj (by omega) (by omega) q)), hu]
      have k2 : mPf h rc (n + 1) = v := by rw [← mPf_n (by rw [hv, e11, a3, c8]; exact fun q => c (nI_inj (by omega) (by omega) q.2)), hv]
      rw [k1, k2]
      refine ⟨R0, fun f hf x hx e => ?_⟩
      have t2 := T1 f hf x hx e
      rw [t2]
      by_cases ef : f = n
      · subst ef
        have : x = a := nI_inj (by omega) (by omega) (e.symm.trans a3)
        omega
      · omega
theorem rel_pass {g h : St} {rc fc hr : Nat} (R : RC g h rc fc hr) (T : rT g h fc hr fc) : ∀ n, hr + n ≤ 10000 → RC (cPs g rc fc n) (mPass h fc rc n) rc fc (hr + n) ∧ rT (cPs g rc fc n) (mPass h fc rc n) fc (hr + n) fc := by
  intro n
  induction n with
  | zero => exact fun _ => ⟨R, T⟩
  | succ n ih =>
    intro hn
    obtain ⟨R1, T1⟩ := ih (by omega)
    show RC (cSa (u2 (cPs g rc fc n) 0 2 (cPs g rc fc n 0 2 + 1)) rc fc) (mPf (u2 (mPass h fc rc n) 0 2 (mPass h fc rc n 0 2 + 1)) rc fc) rc fc (hr + (n + 1)) ∧ rT (cSa (u2 (cPs g rc fc n) 0 2 (cPs g rc fc n 0 2 + 1)) rc fc) (mPf (u2 (mPass h fc rc n) 0 2 (mPass h fc rc n 0 2 + 1)) rc fc) fc (hr + (n + 1)) fc
    generalize cPs g rc fc n = u at R1 T1
    generalize mPass h fc rc n = v at R1 T1
    obtain ⟨c1, c2, c3, c4, c5, c6, c7, c8, c9⟩ := R1.2.1
    refine rel_hour (g := u2 u 0 2 (u 0 2 + 1)) (h := u2 v 0 2 (v 0 2 + 1)) (RC_0 (G := u2 u 0 2 (u 0 2 + 1)) (H := u2 v 0 2 (v 0 2 + 1)) R1 (fun k hk => u2_ne _ _ _ hk) (fun k hk => u2_ne _ _ _ hk) ⟨?_, ?_, c3, ?_, ?_, c6, ?_, ?_, hn⟩) ?_ fc (Nat.le_refl _)
    · rw [u2_off _ _ (by omega)]; exact c1
    · rw [u2_off _ _ (by omega)]; exact c2
    · rw [u2_off _ _ (by omega)]; exact c4
    · rw [u2_off _ _ (by omega)]; exact c5
    · rw [u2_self, c7, nI_1, Nat.add_assoc]
    · rw [u2_self, c8, nI_1, Nat.add_assoc]
    · intro f hf a ha e
      rw [u2_ne _ _ _ (by omega)] at e
      rw [u2_ne _ _ _ (by omega), T1 f hf a ha e]
      omega
