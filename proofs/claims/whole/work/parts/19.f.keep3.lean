/-! ===== both sides held together: buy, ferry, seat, leaveSeat, aboard ===== -/
theorem tax_le {d q : Nat} (hd : d ≤ 10000) (hq : q ≤ 50) : (nI d * nI q) / 100 = nI (d * q / 100) ∧ d * q / 100 ≤ 5000 := by
  have h1 : d * q ≤ 10000 * 50 := Nat.mul_le_mul hd hq
  rw [pk_mul, show (100 : Int32) = nI 100 from rfl, pk_div (by omega) (by decide) (by decide)]
  exact ⟨rfl, by omega⟩
set_option maxHeartbeats 4000000 in
theorem rel_buy {g h : St} {rc fc hr a b tx : Nat} {d y : Int32} (R : RC g h rc fc hr) (hr6 : rc < 60) (hb5 : b < 10) (htx : tx ≤ 5000) :
    RC (u2 (u2 (u2 (u2 (u2 (u2 (u2 (u2 g 2 rc (nI a)) 3 rc (nI b)) 4 rc d) 5 rc (nI tx)) 6 rc y) 7 rc 0) 8 rc (-1)) 0 0 (nI (rc + 1))) (u2 (u2 (u2 (u2 (u2 (u2 (u2 h 2 rc (nI a)) 3 rc (nI b)) 4 rc d) 5 rc (nI tx)) 6 rc y) 8 rc (-1)) 0 0 (nI (rc + 1))) (rc + 1) fc hr := by
  obtain ⟨E, ⟨c1, c2, c3, c4, c5, c6, c7, c8, c9⟩, ⟨hT, hQ, h16⟩, F, N, A, RR, S⟩ := R
  obtain ⟨z7, z10⟩ := RR.1 rc (Nat.le_refl _)
  have e7 : u2 g 7 rc 0 = g := by
    funext k j
    rw [u2_at]
    split
    · rename_i q; rw [q.1, q.2, z7]
    · rfl
  -- the row's own kinds
  generalize hG : u2 (u2 (u2 (u2 (u2 (u2 (u2 (u2 g 2 rc (nI a)) 3 rc (nI b)) 4 rc d) 5 rc (nI tx)) 6 rc y) 7 rc 0) 8 rc (-1)) 0 0 (nI (rc + 1)) = G
  generalize hH : u2 (u2 (u2 (u2 (u2 (u2 (u2 h 2 rc (nI a)) 3 rc (nI b)) 4 rc d) 5 rc (nI tx)) 6 rc y) 8 rc (-1)) 0 0 (nI (rc + 1)) = H
  have Go : ∀ k i, (k ≠ 0 ∧ i ≠ rc) ∨ 8 < k ∨ k = 1 ∨ (k = 0 ∧ i ≠ 0) → G k i = g k i := fun k i hk => by
    rw [← hG, u2_off _ _ (by omega), u2_off _ _ (by omega), u2_off _ _ (by omega), u2_off _ _ (by omega), u2_off _ _ (by omega), u2_off _ _ (by omega), u2_off _ _ (by omega), u2_off _ _ (by omega)]
  have Ho : ∀ k i, (k ≠ 0 ∧ i ≠ rc) ∨ 8 < k ∨ k = 1 ∨ (k = 0 ∧ i ≠ 0) → H k i = h k i := fun k i hk => by
    rw [← hH, u2_off _ _ (by omega), u2_off _ _ (by omega), u2_off _ _ (by omega), u2_off _ _ (by omega), u2_off _ _ (by omega), u2_off _ _ (by omega), u2_off _ _ (by omega)]
  have G3 : G 3 rc = nI b := by rw [← hG]; simp [u2_at]
  have G5 : G 5 rc = nI tx := by rw [← hG]; simp [u2_at]
  have G7 : G 7 rc = 0 := by rw [← hG]; simp [u2_at]
  have G8 : G 8 rc = -1 := by rw [← hG]; simp [u2_at]
  have G0 : G 0 0 = nI (rc + 1) := by rw [← hG, u2_self]
  have H0 : H 0 0 = nI (rc + 1) := by rw [← hH, u2_self]
  have Gk : ∀ k, 8 < k ∨ k = 1 → G k = g k := fun k hk => funext fun i => Go k i (by omega)
  have Hk : ∀ k, 8 < k ∨ k = 1 → H k = h k := fun k hk => funext fun i => Ho k i (by omega)
  have eP : ∀ f t, G (30 + f) t = g (30 + f) t := fun f t => Go _ t (by omega)
  refine ⟨?_, ?_, ⟨⟨fun i => ?_, fun i => ?_⟩, fun k => ?_, fun t => ?_⟩, ?_, ?_, ?_, ?_, ?_⟩
  · rw [← hG, ← hH]
    have E1 := rE_u (rE_u (rE_u (rE_u (rE_u E 2 rc (nI a)) 3 rc (nI b)) 4 rc d) 5 rc (nI tx)) 6 rc y
    have e77 : u2 (u2 (u2 (u2 (u2 (u2 g 2 rc (nI a)) 3 rc (nI b)) 4 rc d) 5 rc (nI tx)) 6 rc y) 7 rc 0 = u2 (u2 (u2 (u2 (u2 g 2 rc (nI a)) 3 rc (nI b)) 4 rc d) 5 rc (nI tx)) 6 rc y := by
      funext k j
      by_cases q : k = 7 ∧ j = rc
      · rw [q.1, q.2, u2_self, u2_off _ _ (by omega), u2_off _ _ (by omega), u2_off _ _ (by omega), u2_off _ _ (by omega), u2_off _ _ (by omega), z7]
      · rw [u2_off _ _ q]
    rw [e77]
    exact rE_0 (rE_u E1 8 rc (-1)) _ _ _
  · exact ⟨G0, H0, by omega, by rw [Go 0 1 (by omega)]; exact c4, by rw [Ho 0 1 (by omega)]; exact c5, c6, by rw [Go 0 2 (by omega)]; exact c7, by rw [Ho 0 2 (by omega)]; exact c8, c9⟩
  · by_cases q : i = rc
    · rw [q, G3]; exact ⟨b, hb5, rfl⟩
    · rw [Go 3 i (by omega)]; exact hT.1 i
  · by_cases q : i = rc
    · rw [q, G5]; exact ⟨tx, htx, rfl⟩
    · rw [Go 5 i (by omega)]; exact hT.2 i
  · rw [Gk 1 (by omega)]; exact hQ k
  · rw [Gk 16 (by omega)]; exact h16 t
  · intro f hf
    have := F f hf
    unfold rP at this ⊢
    rw [Gk 11 (by omega), Gk 12 (by omega), Hk 13 (by omega), Hk 14 (by omega), Hk 15 (by omega), Gk (30 + f) (by omega), pw_eq (g := g) (f := f) (fun t _ => by rw [eP])]
    exact this
  · intro f h1 h2
    rw [Gk (30 + f) (by omega), Hk 13 (by omega), Hk 14 (by omega)]
    exact N f h1 h2
  · intro t ht
    rw [Hk 15 (by omega)]
    exact A t ht
  · refine ⟨fun i hi => ?_, fun i hi => ?_⟩
    · rw [Go 7 i (by omega), Go 10 i (by omega)]
      exact RR.1 i (by omega)
    · by_cases q : i = rc
      · subst q
        exact Or.inl ⟨G7, G8, Or.inl (by rw [Go 10 i (by omega)]; exact z10)⟩
      · have v7 := Go 7 i (by omega)
        have v8 := Go 8 i (by omega)
        have v10 := Go 10 i (by omega)
        have ev : trv G i = trv g i := by unfold trv; rw [Go 3 i (by omega)]
        have v14 := Hk 14 (by omega)
        have := RR.2 i (by omega)
        unfold rO at this ⊢
        rw [v7, v8, v10, ev, v14]
        simp only [eP]
        exact this
  · intro t ht
    rw [Gk 20 (by omega), S t ht]
    refine (rfA_cong (fun f hf => ⟨by rw [eP], fun c => ?_⟩)).symm
    show rfS G t f rc + _ = _
    rw [if_neg (fun q => absurd (G8.symm.trans q.2).symm (nI_m1 (by omega))), Int32.add_zero]
    exact rfS_cong (fun n hn => ⟨by rw [Go 3 n (by omega), Go 8 n (by omega)], Go 5 n (by omega)⟩)
theorem pw_zero {g : St} {f n : Nat} (h : ∀ t, g (30 + f) t = 0) : pwN g f 0 n = n := by
  induction n with
  | zero => rfl
  | succ n ih => unfold pwN; rw [ih, if_pos (h n)]
set_option maxHeartbeats 4000000 in
theorem rel_ferry {g h : St} {rc fc hr a b : Nat} (R : RC g h rc fc hr) (T : rT g h fc hr fc) (hf2 : fc < 20) (ha : hr < a) (ha2 : a ≤ 10000) (hb : b ≤ 10) :
    RC (u2 (u2 (u2 g 11 fc (nI a)) 12 fc (nI b)) 0 1 (nI (fc + 1))) (u2 (u2 (u2 h 11 fc (nI a)) 12 fc (nI b)) 0 1 (nI (fc + 1))) rc (fc + 1) hr ∧ rT (u2 (u2 (u2 g 11 fc (nI a)) 12 fc (nI b)) 0 1 (nI (fc + 1))) (u2 (u2 (u2 h 11 fc (nI a)) 12 fc (nI b)) 0 1 (nI (fc + 1))) (fc + 1) hr (fc + 1) := by
  obtain ⟨E, ⟨c1, c2, c3, c4, c5, c6, c7, c8, c9⟩, B, F, N, A, RR, S⟩ := R
  obtain ⟨n13, n14, nP⟩ := N fc (Nat.le_refl _) hf2
  generalize hG : u2 (u2 (u2 g 11 fc (nI a)) 12 fc (nI b)) 0 1 (nI (fc + 1)) = G
  generalize hH : u2 (u2 (u2 h 11 fc (nI a)) 12 fc (nI b)) 0 1 (nI (fc + 1)) = H
  have Go : ∀ k i, ¬ (k = 11 ∧ i = fc) → ¬ (k = 12 ∧ i = fc) → ¬ (k = 0 ∧ i = 1) → G k i = g k i := fun k i h1 h2 h3 => by
    rw [← hG, u2_off _ _ h3, u2_off _ _ h2, u2_off _ _ h1]
  have Ho : ∀ k i, ¬ (k = 11 ∧ i = fc) → ¬ (k = 12 ∧ i = fc) → ¬ (k = 0 ∧ i = 1) → H k i = h k i := fun k i h1 h2 h3 => by
    rw [← hH, u2_off _ _ h3, u2_off _ _ h2, u2_off _ _ h1]
  have Gk : ∀ k, k ≠ 0 → k ≠ 11 → k ≠ 12 → G k = g k := fun k h1 h2 h3 => funext fun i => Go k i (by omega) (by omega) (by omega)
  have Hk : ∀ k, k ≠ 0 → k ≠ 11 → k ≠ 12 → H k = h k := fun k h1 h2 h3 => funext fun i => Ho k i (by omega) (by omega) (by omega)
  have G11 : G 11 fc = nI a := by rw [← hG]; simp [u2_at]
  have G12 : G 12 fc = nI b := by rw [← hG]; simp [u2_at]
  have eP : ∀ f t, G (30 + f) t = g (30 + f) t := fun f t => Go _ t (by omega) (by omega) (by omega)
  have ev : ∀ i, trv G i = trv g i := fun i => by unfold trv; rw [Gk 3 (by omega) (by omega) (by omega)]
  refine ⟨⟨?_, ?_, ?_, ?_, ?_, ?_, ?_, ?_⟩, ?_⟩
  · rw [← hG, ← hH]; exact rE_0 (rE_u (rE_u E _ _ _) _ _ _) _ _ _
  · exact ⟨by rw [Go 0 0 (by omega) (by omega) (by omega)]; exact c1, by rw [Ho 0 0 (by omega) (by omega) (by omega)]; exact c2, c3, by rw [← hG, u2_self], by rw [← hH, u2_self], by omega, by rw [Go 0 2 (by omega) (by omega) (by omega)]; exact c7, by rw [Ho 0 2 (by omega) (by omega) (by omega)]; exact c8, c9⟩
  · unfold rB okT
    rw [Gk 1 (by omega) (by omega) (by omega), Gk 3 (by omega) (by omega) (by omega), Gk 5 (by omega) (by omega) (by omega), Gk 16 (by omega) (by omega) (by omega)]
    exact B
  · intro f hf
    by_cases q : f = fc
    · subst q
      refine ⟨⟨b, hb, G12, ?_⟩, ⟨a, by omega, ha2, G11⟩, Or.inl (by rw [Hk 14 (by omega) (by omega) (by omega)]; exact n14), fun t ht => ?_⟩
      · rw [pw_eq (g := g) (f := f) (fun t _ => by rw [eP]), pw_zero nP]; omega
      · unfold rP
        rw [Hk 13 (by omega) (by omega) (by omega), Hk 14 (by omega) (by omega) (by omega), Hk 15 (by omega) (by omega) (by omega), eP, nP, n13, n14]
        refine ⟨fun _ => ⟨Or.inl rfl, ?_⟩, fun q => absurd q (by decide), ?_⟩
        · rw [b_0]
          exact ⟨fun q => absurd q (by decide), fun q => absurd rfl q⟩
        · refine ⟨fun q => ?_, fun q => absurd q (by decide)⟩
          rcases A t ht with w | ⟨f2, w1, w2⟩
          · rw [w] at q; exact absurd q.symm (nI_m1 (by omega))
          · have := nI_inj (by omega) (by omega) (w2.symm.trans q)
            omega
    · have := F f (by omega)
      unfold rP at this ⊢
      rw [Go 11 f (by omega) (by omega) (by omega), Go 12 f (by omega) (by omega) (by omega), Hk 13 (by omega) (by omega) (by omega), Hk 14 (by omega) (by omega) (by omega), Hk 15 (by omega) (by omega) (by omega), Gk (30 + f) (by omega) (by omega) (by omega), pw_eq (g := g) (f := f) (fun t _ => by rw [eP])]
      exact this
  · intro f h1 h2
    rw [Gk (30 + f) (by omega) (by omega) (by omega), Hk 13 (by omega) (by omega) (by omega), Hk 14 (by omega) (by omega) (by omega)]
    exact N f (by omega) h2
  · intro t ht
    rw [Hk 15 (by omega) (by omega) (by omega)]
    rcases A t ht with w | ⟨f2, w1, w2⟩
    · exact Or.inl w
    · exact Or.inr ⟨f2, by omega, w2⟩
  · refine ⟨fun i hi => ?_, fun i hi => ?_⟩
    · rw [Gk 7 (by omega) (by omega) (by omega), Gk 10 (by omega) (by omega) (by omega)]; exact RR.1 i hi
    · have := RR.2 i hi
      unfold rO at this ⊢
      rw [Gk 7 (by omega) (by omega) (by omega), Gk 8 (by omega) (by omega) (by omega), Gk 10 (by omega) (by omega) (by omega), ev, Hk 14 (by omega) (by omega) (by omega)]
      simp only [eP]
      rcases this with o | ⟨o1, o2, f2, hf2, o3⟩ | ⟨o1, f2, hf2, o3⟩ | o
      · exact Or.inl o
      · exact Or.inr (Or.inl ⟨o1, o2, f2, by omega, o3⟩)
      · exact Or.inr (Or.inr (Or.inl ⟨o1, f2, by omega, o3⟩))
      · exact Or.inr (Or.inr (Or.inr o))
  · intro t ht
    rw [Gk 20 (by omega) (by omega) (by omega), S t ht]
    show _ = rfA G t rc fc + _
    rw [if_neg (by rw [eP, nP]; decide), Int32.add_zero]
    exact (rfA_cong (fun f hf => ⟨by rw [eP], fun c => rfS_cong (fun n hn => ⟨by rw [Gk 3 (by omega) (by omega) (by omega), Gk 8 (by omega) (by omega) (by omega)], by rw [Gk 5 (by omega) (by omega) (by omega)]⟩)⟩)).symm
  · intro f hf x hx e
    rw [Hk 14 (by omega) (by omega) (by omega)]
    by_cases q : f = fc
    · subst q
      have : x = a := nI_inj (by omega) (by omega) (e.symm.trans G11)
      rw [n14]
      exact ⟨fun w => absurd w (by decide), fun w => by omega⟩
    · rw [Go 11 f (by omega) (by omega) (by omega)] at e
      rw [T f (by omega) x hx e]
      omega
