/-! ===== the commands, on ===== -/
theorem op_buy {l : Launch} (hfl : l.stackTraces = false) {Z : fx_Z} {ad am : Nat → Nat} (hA : fx_inj 116 ad) (hM : fx_inj 22 am) (a0 a1 a2 a3 : Int32) : op_OK l Z ad am Rel yL_buy cL_buy 7 [(0, 14, 17, 13), (0, 14, 21, 15), (0, 14, 25, 21)] yX4_buy cX4_buy 7 (some .int) [.int a0, .int a1, .int a2, .int a3] := by
  intro g h o hR
  have hA5 := inj5 hA
  have hR0 := hR
  obtain ⟨rc, fc, hr, R, T⟩ := hR
  have E := R.1
  obtain ⟨c1, c2, c3, c4, c5, c6, c7, c8, c9⟩ := R.2.1
  have B := R.2.2.1
  have e16 := E 16 (by omega)
  rcases ixc a0 5 with ⟨a, ha, rfl⟩ | hb
  · rcases ixc a1 10 with ⟨b, hb5, rfl⟩ | hb
    · rcases ixc a2 4 with ⟨k, hk, rfl⟩ | hb
      · by_cases hp : 1 ≤ a3 ∧ a3 ≤ 10000
        · by_cases hg : g 16 b = 0
          · have hg1 : ¬ h 16 b = 1 := by rw [← e16, hg]; decide
            by_cases hr6 : rc < 60
            · refine op_ok (w_L_buy_ok l Z ad hA g _ o _ _ _ _ _ (c_X3_buy_ok l hfl Z ad hA5 g rc a b k a3 ha hb5 hk (nlt hp.1) hp.2 hg c1 hr6) (w_d rfl)) (c_X4_buy_0 l Z am hM h rc a b k a3 ha hb5 hk hp hg1 c2 hr6) (by decide) (rfl) (by rw [u2_off _ _ (by omega), u2_off _ _ (by omega), u2_off _ _ (by omega), u2_off _ _ (by omega), u2_off _ _ (by omega), u2_off _ _ (by omega), u2_off _ _ (by omega), u2_self]) ?_
              obtain ⟨d, hd, rfl⟩ := nI_of2 (M := 10000) (n := 10000) (by decide) (nlt (show 0 ≤ a3 from Int32.le_trans (by decide) hp.1)) hp.2
              obtain ⟨q, hq, eq⟩ := B.2.1 k
              obtain ⟨t1, t2⟩ := tax_le hd hq
              rw [show h 1 k = g 1 k by rw [E 1 (by omega)], eq, t1, c7, c8]
              exact ⟨rc + 1, fc, hr, rel_buy (rel_thrown R) hr6 hb5 t2, rT_same T (fun f => by simp [u2_at]) (fun f => by simp [u2_at])⟩
            · have e60 : rc = 60 := by omega
              exact op_x hR0 (by decide) (w_L_buy_ISE l Z ad hA g o _ _ _ _ (c_X3_buy_x3b l hfl Z ad hA5 g a b k a3 ha hb5 hk (nlt hp.1) hp.2 hg (by rw [c1, e60]; rfl)) (w_d rfl)) (c_X4_buy_3 l Z am hM h a b k a3 ha hb5 hk hp (Or.inr (by rw [c2, e60]; rfl))) (by decide)
          · exact op_x hR0 (by decide) (w_L_buy_ISE l Z ad hA g o _ _ _ _ (c_X3_buy_x3a l hfl Z ad hA5 g a b k a3 ha hb5 hk (nlt hp.1) hp.2 hg) (w_d rfl)) (c_X4_buy_3 l Z am hM h a b k a3 ha hb5 hk hp (Or.inl (by rw [← e16]; exact g16_1 B hg))) (by decide)
        · exact op_x hR0 (by decide) (w_L_buy_IAE l Z ad hA g o _ _ _ _ (c_X3_buy_x2 l hfl Z ad hA5 g a b k a3 ha hb5 hk (rng hp)) (w_d rfl)) (c_X4_buy_2 l Z am hM h a b k a3 ha hb5 hk hp) (by decide)
      · exact op_x hR0 (by decide) (w_L_buy_IOOBE l Z ad hA g o _ _ _ _ (c_X3_buy_x1c l hfl Z ad hA5 g a b a2 a3 ha hb5 hb) (w_d rfl)) (c_X4_buy_1 l Z am hM h _ _ _ a3 (Or.inr (Or.inr hb))) (by decide)
    · exact op_x hR0 (by decide) (w_L_buy_IOOBE l Z ad hA g o _ _ _ _ (c_X3_buy_x1b l hfl Z ad hA5 g a a1 a2 a3 ha hb) (w_d rfl)) (c_X4_buy_1 l Z am hM h _ _ _ a3 (Or.inr (Or.inl hb))) (by decide)
  · exact op_x hR0 (by decide) (w_L_buy_IOOBE l Z ad hA g o _ _ _ _ (c_X3_buy_x1a l hfl Z ad hA5 g a0 a1 a2 a3 hb) (w_d rfl)) (c_X4_buy_1 l Z am hM h _ _ _ a3 (Or.inl hb)) (by decide)
theorem op_giveBack {l : Launch} (hfl : l.stackTraces = false) {Z : fx_Z} {ad am : Nat → Nat} (hA : fx_inj 116 ad) (hM : fx_inj 22 am) (a0 : Int32) : op_OK l Z ad am Rel yL_giveBack cL_giveBack 4 [(0, 9, 12, 13), (0, 9, 15, 21)] yX4_giveBack cX4_giveBack 3 (some .int) [.int a0] := by
  intro g h o hR
  have hA5 := inj5 hA
  have hR0 := hR
  obtain ⟨rc, fc, hr, R, T⟩ := hR
  have E := R.1
  obtain ⟨c1, c2, c3, c4, c5, c6, c7, c8, c9⟩ := R.2.1
  have B := R.2.2.1
  have e16 := E 16 (by omega)
  rcases ixc a0 rc with ⟨i, hi, rfl⟩ | hb
  · obtain ⟨ht9, ht⟩ := okT_t B.1 i
    generalize trv g i = t at ht9 ht
    have ht2 : h 3 i = nI t := by rw [← E 3 (by omega)]; exact ht
    have e7 : h 7 i = g 7 i := by rw [E 7 (by omega)]
    have eh : h 0 2 - h 6 i = g 0 2 - g 6 i := by rw [c7, c8, E 6 (by omega)]
    by_cases h7 : g 7 i = 0
    · by_cases hh : g 0 2 - g 6 i ≤ 240
      · by_cases hg : g 16 t = 0
        · have hg1 : ¬ h 16 t = 1 := by rw [← e16, hg]; decide
          refine op_ok (w_L_giveBack_ok l Z ad hA g _ o _ _ (c_X3_giveBack_ok l hfl Z ad hA5 g rc t i hi c1 c3 ht ht9 h7 hh hg) (w_d rfl)) (c_X4_giveBack_0 l Z am hM h rc t i hi c2 c3 ht2 ht9 (e7.trans h7) (by rw [eh]; exact nlt hh) hg1) (by decide) (by rw [E 4 (by omega), E 5 (by omega)]) (by rw [u2_off _ _ (by omega), u2_self]) ?_
          exact ⟨rc, fc, hr, rel_giveBack (rel_thrown R) hi h7, rT_same T (fun f => by simp [u2_at]) (fun f => by simp [u2_at])⟩
        · exact op_x hR0 (by decide) (w_L_giveBack_ISE l Z ad hA g o _ (c_X3_giveBack_x2c l hfl Z ad hA5 g rc t i hi c1 c3 ht ht9 h7 hh hg) (w_d rfl)) (c_X4_giveBack_2 l Z am hM h rc t i hi c2 c3 ht2 ht9 (Or.inr (Or.inr (by rw [← e16]; exact g16_1 B hg)))) (by decide)
      · exact op_x hR0 (by decide) (w_L_giveBack_ISE l Z ad hA g o _ (c_X3_giveBack_x2b l hfl Z ad hA5 g rc i hi c1 c3 h7 hh) (w_d rfl)) (c_X4_giveBack_2 l Z am hM h rc t i hi c2 c3 ht2 ht9 (Or.inr (Or.inl (by rw [eh]; exact Int32.not_le.mp hh)))) (by decide)
    · exact op_x hR0 (by decide) (w_L_giveBack_ISE l Z ad hA g o _ (c_X3_giveBack_x2a l hfl Z ad hA5 g rc i hi c1 c3 h7) (w_d rfl)) (c_X4_giveBack_2 l Z am hM h rc t i hi c2 c3 ht2 ht9 (Or.inl (by rw [e7]; exact h7))) (by decide)
  · exact op_x hR0 (by decide) (w_L_giveBack_IOOBE l Z ad hA g o _ (c_X3_giveBack_x1 l hfl Z ad hA5 g rc a0 c1 c3 hb) (w_d rfl)) (c_X4_giveBack_1 l Z am hM h rc a0 c2 c3 hb) (by decide)
theorem op_ferry {l : Launch} (hfl : l.stackTraces = false) {Z : fx_Z} {ad am : Nat → Nat} (hA : fx_inj 116 ad) (hM : fx_inj 22 am) (a0 a1 : Int32) : op_OK l Z ad am Rel yL_ferry cL_ferry 5 [(0, 10, 13, 15), (0, 10, 17, 21)] yX4_ferry cX4_ferry 4 (some .int) [.int a0, .int a1] := by
  intro g h o hR
  have hA5 := inj5 hA
  have hR0 := hR
  obtain ⟨rc, fc, hr, R, T⟩ := hR
  have E := R.1
  obtain ⟨c1, c2, c3, c4, c5, c6, c7, c8, c9⟩ := R.2.1
  have B := R.2.2.1
  have e16 := E 16 (by omega)
  have k1 : h 0 2 + 1 ≤ a0 ↔ ¬ a0 ≤ g 0 2 := by
    rw [c7, c8, nI_1, Int32.not_le, Int32.le_iff_toInt_le, Int32.lt_iff_toInt_lt, nI_toInt (by omega), nI_toInt (by omega)]
    omega
  by_cases h1 : a0 ≤ g 0 2 ∨ ¬ a0 ≤ 10000
  · exact op_x hR0 (by decide) (w_L_ferry_IAE l Z ad hA g o _ _ (c_X3_ferry_x1a l hfl Z ad hA5 g a0 a1 h1) (w_d rfl)) (c_X4_ferry_1 l Z am hM h a0 a1 (Or.inl (fun q => h1.elim (fun w => (k1.mp q.1) w) (fun w => w q.2)))) (by decide)
  · have h1a : ¬ a0 ≤ g 0 2 := fun q => h1 (Or.inl q)
    have h1b : a0 ≤ 10000 := Classical.not_not.mp fun q => h1 (Or.inr q)
    by_cases hp : 1 ≤ a1 ∧ a1 ≤ 10
    · by_cases hf2 : fc < 20
      · refine op_ok (w_L_ferry_ok l Z ad hA g _ o _ _ _ (c_X3_ferry_ok l hfl Z ad hA5 g fc a0 a1 h1a h1b (nlt hp.1) hp.2 c4 hf2) (w_d rfl)) (c_X4_ferry_0 l Z am hM h fc a0 a1 ⟨k1.mpr h1a, h1b⟩ hp c5 hf2) (by decide) (rfl) (by rw [u2_off _ _ (by omega), u2_off _ _ (by omega), u2_off _ _ (by omega), u2_self]) ?_
        have ha0 : ¬ a0 < 0 := fun q => h1a (Int32.le_trans (Int32.le_of_lt q) (by rw [c7]; exact nI_pos' (by omega)))
        obtain ⟨a, ha, rfl⟩ := nI_of2 (M := 10000) (n := 10000) (by decide) ha0 h1b
        obtain ⟨b, hb, rfl⟩ := nI_of2 (M := 10) (n := 10) (by decide) (nlt (show 0 ≤ a1 from Int32.le_trans (by decide) hp.1)) hp.2
        have hlt : hr < a := by
          rw [c7, nI_leI (by omega) (by omega)] at h1a
          omega
        obtain ⟨r1, r2⟩ := rel_ferry (rel_thrown (x := 0) R) (rT_thrown (x := 0) T) hf2 hlt ha hb
        exact ⟨rc, fc + 1, hr, r1, r2⟩
      · have e20 : fc = 20 := by omega
        exact op_x hR0 (by decide) (w_L_ferry_ISE l Z ad hA g o _ _ (c_X3_ferry_x2 l hfl Z ad hA5 g a0 a1 h1a h1b (nlt hp.1) hp.2 (by rw [c4, e20]; rfl)) (w_d rfl)) (c_X4_ferry_2 l Z am hM h a0 a1 ⟨k1.mpr h1a, h1b⟩ hp (by rw [c5, e20]; rfl)) (by decide)
    · exact op_x hR0 (by decide) (w_L_ferry_IAE l Z ad hA g o _ _ (c_X3_ferry_x1b l hfl Z ad hA5 g a0 a1 h1a h1b (rng hp)) (w_d rfl)) (c_X4_ferry_1 l Z am hM h a0 a1 (Or.inr hp)) (by decide)
theorem op_seat {l : Launch} (hfl : l.stackTraces = false) {Z : fx_Z} {ad am : Nat → Nat} (hA : fx_inj 116 ad) (hM : fx_inj 22 am) (a0 a1 : Int32) : op_OK l Z ad am Rel yL_seat cL_seat 5 [(0, 10, 13, 13), (0, 10, 17, 21)] yX4_seat cX4_seat 4 (some .int) [.int a0, .int a1] := by
  intro g h o hR
  have hA5 := inj5 hA
  have hR0 := hR
  obtain ⟨rc, fc, hr, R, T⟩ := hR
  have E := R.1
  obtain ⟨c1, c2, c3, c4, c5, c6, c7, c8, c9⟩ := R.2.1
  have B := R.2.2.1
  have e16 := E 16 (by omega)
  rcases ixc a0 10 with ⟨t, ht9, rfl⟩ | hb
  · rcases ixc a1 fc with ⟨f, hff, rfl⟩ | hb
    · obtain ⟨s1, s2, -⟩ := sld_iff R T hff
      obtain ⟨-, -, -, pf⟩ := R.2.2.2.1 f hff
      by_cases hns : g 0 2 < g 11 f
      · have h14 := s1.mp hns
        have hg : ¬ h 14 f = 1 := by rw [h14]; decide
        have pm := (mS_iff (h := h) (f := f) (t := t) (by omega)).trans ((pf t ht9).1 h14).2
        by_cases hgo : g 16 t = 0
        · have hgo1 : ¬ h 16 t = 1 := by rw [← e16, hgo]; decide
          by_cases hp : g (30 + f) t = 0
          · obtain ⟨e1, s, q1, q2, q3, q4⟩ := seats_eq R hff h14
            by_cases hsl : 1 ≤ (g 12 f - (10 - nI (pwN g f 0 10)))
            · have hm : ¬ ml h f 10 = 0 := fun q => by rw [e1, q] at hsl; exact absurd hsl (by decide)
              have h11 : 11 ≤ s + pwN g f 0 10 := by
                rw [q4] at hm
                rcases Nat.lt_or_ge (s + pwN g f 0 10) 11 with w | w
                · exact absurd (by rw [show s + pwN g f 0 10 - 10 = 0 by omega]; rfl) hm
                · exact w
              have RN : RC (u2 g (30 + f) t 1) (u2 (u2 h 0 3 0) 13 f (h 13 f ||| (1 <<< (nI t &&& 31)))) rc fc hr := rel_seat (rel_thrown (x := 0) R) hff ht9 h14 hp (fun s2 w1 w2 => by
                have : s2 = s := nI_inj (by omega) (by omega) (w2.symm.trans q2)
                rw [this]; exact h11)
              refine op_ok (w_L_seat_ok l Z ad hA g _ o _ _ _ (c_X3_seat_ok l hfl Z ad hA5 g fc t f ht9 hff c4 c6 hns hgo hp hsl) (w_d rfl)) (c_X4_seat_0 l Z am hM h fc t f ht9 hff c5 c6 hg hm (fun q => (pm.mp q) hp) hgo1) (by decide) ((seats_eq RN hff h14).1) (by rw [u2_off _ _ (by omega), u2_self]) ?_
              exact ⟨rc, fc, hr, RN, rT_same T (fun f2 => by rw [u2_off _ _ (by omega)]) (fun f2 => by simp [u2_at])⟩
            · have hm : ml h f 10 = 0 := by
                rw [e1, q4] at hsl
                rw [q4]
                rcases Nat.eq_zero_or_pos (s + pwN g f 0 10 - 10) with w | w
                · rw [w]; rfl
                · exact absurd (nI_le (a := 1) w (by have := pw_len (g := g) (f := f) (n := 10) (x := 0); omega)) hsl
              exact op_x hR0 (by decide) (w_L_seat_ISE l Z ad hA g o _ _ (c_X3_seat_x2d l hfl Z ad hA5 g fc t f ht9 hff c4 c6 hns hgo hp hsl) (w_d rfl)) (c_X4_seat_2 l Z am hM h fc t f ht9 hff c5 c6 (Or.inr (Or.inl hm))) (by decide)
          · exact op_x hR0 (by decide) (w_L_seat_ISE l Z ad hA g o _ _ (c_X3_seat_x2c l hfl Z ad hA5 g fc t f ht9 hff c4 c6 hns hgo hp) (w_d rfl)) (c_X4_seat_2 l Z am hM h fc t f ht9 hff c5 c6 (Or.inr (Or.inr (Or.inl (pm.mpr hp))))) (by decide)
        · exact op_x hR0 (by decide) (w_L_seat_ISE l Z ad hA g o _ _ (c_X3_seat_x2b l hfl Z ad hA5 g fc t f ht9 hff c4 c6 hns hgo) (w_d rfl)) (c_X4_seat_2 l Z am hM h fc t f ht9 hff c5 c6 (Or.inr (Or.inr (Or.inr (by rw [← e16]; exact g16_1 B hgo))))) (by decide)
      · exact op_x hR0 (by decide) (w_L_seat_ISE l Z ad hA g o _ _ (c_X3_seat_x2a l hfl Z ad hA5 g fc t f ht9 hff c4 c6 hns) (w_d rfl)) (c_X4_seat_2 l Z am hM h fc t f ht9 hff c5 c6 (Or.inl (s2.mp hns))) (by decide)
    · exact op_x hR0 (by decide) (w_L_seat_IOOBE l Z ad hA g o _ _ (c_X3_seat_x1b l hfl Z ad hA5 g fc t a1 ht9 c4 c6 hb) (w_d rfl)) (c_X4_seat_1 l Z am hM h fc _ a1 c5 c6 (Or.inr hb)) (by decide)
  · exact op_x hR0 (by decide) (w_L_seat_IOOBE l Z ad hA g o _ _ (c_X3_seat_x1a l hfl Z ad hA5 g a0 a1 hb) (w_d rfl)) (c_X4_seat_1 l Z am hM h fc a0 a1 c5 c6 (Or.inl hb)) (by decide)
theorem op_leaveSeat {l : Launch} (hfl : l.stackTraces = false) {Z : fx_Z} {ad am : Nat → Nat} (hA : fx_inj 116 ad) (hM : fx_inj 22 am) (a0 a1 : Int32) : op_OK l Z ad am Rel yL_leaveSeat cL_leaveSeat 5 [(0, 10, 13, 13), (0, 10, 17, 21)] yX4_leaveSeat cX4_leaveSeat 6 (some .int) [.int a0, .int a1] := by
  intro g h o hR
  have hA5 := inj5 hA
  have hR0 := hR
  obtain ⟨rc, fc, hr, R, T⟩ := hR
  have E := R.1
  obtain ⟨c1, c2, c3, c4, c5, c6, c7, c8, c9⟩ := R.2.1
  have B := R.2.2.1
  have e16 := E 16 (by omega)
  rcases ixc a0 10 with ⟨t, ht9, rfl⟩ | hb
  · rcases ixc a1 fc with ⟨f, hff, rfl⟩ | hb
    · obtain ⟨s1, s2, -⟩ := sld_iff R T hff
      obtain ⟨-, -, -, pf⟩ := R.2.2.2.1 f hff
      by_cases hns : g 0 2 < g 11 f
      · have h14 := s1.mp hns
        have hg : ¬ h 14 f = 1 := by rw [h14]; decide
        have pm := (mS_iff (h := h) (f := f) (t := t) (by omega)).trans ((pf t ht9).1 h14).2
        by_cases hp : g (30 + f) t = 0
        · exact op_x hR0 (by decide) (w_L_leaveSeat_ISE l Z ad hA g o _ _ (c_X3_leaveSeat_x2b l hfl Z ad hA5 g fc t f ht9 hff c4 c6 hns hp) (w_d rfl)) (c_X4_leaveSeat_2 l Z am hM h fc t f ht9 hff c5 c6 (Or.inr (fun q => (pm.mp q) hp))) (by decide)
        · by_cases hab : h 15 t = nI f
          · refine op_ok (w_L_leaveSeat_ok l Z ad hA g _ o _ _ _ (c_X3_leaveSeat_ok l hfl Z ad hA5 g fc rc t f ht9 hff c4 c6 c1 c3 hns hp) (w_d rfl)) (c_X4_leaveSeat_0a l Z am hM h fc rc t f ht9 hff c5 c6 c2 c3 hg (pm.mpr hp) hab) (by decide) (congrArg nI (nRo_cong (by rw [u2_ne _ _ _ (by omega), u2_ne _ _ _ (by omega), u2_ne _ _ _ (by omega), u2_ne _ _ _ (by omega)]; exact E 7 (by omega)) (by rw [u2_ne _ _ _ (by omega), u2_ne _ _ _ (by omega), u2_ne _ _ _ (by omega), u2_ne _ _ _ (by omega)]; exact E 8 (by omega)) (by rw [u2_ne _ _ _ (by omega), u2_ne _ _ _ (by omega), u2_ne _ _ _ (by omega), u2_ne _ _ _ (by omega)]; exact E 3 (by omega)))) (by rw [cRo_k (by omega) (by omega), u2_off _ _ (by omega), u2_off _ _ (by omega), u2_self]) ?_
            exact ⟨rc, fc, hr, rel_leave (y := -1) (rel_thrown (x := 0) R) hff ht9 h14 hp (Or.inl ⟨hab, rfl⟩), rT_same T (fun f2 => by rw [cRo_k (by omega) (by omega), u2_off _ _ (by omega)]) (fun f2 => by rw [cRo_k (by omega) (by omega)]; simp [u2_at])⟩
          · refine op_ok (w_L_leaveSeat_ok l Z ad hA g _ o _ _ _ (c_X3_leaveSeat_ok l hfl Z ad hA5 g fc rc t f ht9 hff c4 c6 c1 c3 hns hp) (w_d rfl)) (c_X4_leaveSeat_0b l Z am hM h fc rc t f ht9 hff c5 c6 c2 c3 hg (pm.mpr hp) hab) (by decide) (congrArg nI (nRo_cong (by rw [u2_ne _ _ _ (by omega), u2_ne _ _ _ (by omega), u2_ne _ _ _ (by omega), u2_ne _ _ _ (by omega)]; exact E 7 (by omega)) (by rw [u2_ne _ _ _ (by omega), u2_ne _ _ _ (by omega), u2_ne _ _ _ (by omega), u2_ne _ _ _ (by omega)]; exact E 8 (by omega)) (by rw [u2_ne _ _ _ (by omega), u2_ne _ _ _ (by omega), u2_ne _ _ _ (by omega), u2_ne _ _ _ (by omega)]; exact E 3 (by omega)))) (by rw [cRo_k (by omega) (by omega), u2_off _ _ (by omega), u2_off _ _ (by omega), u2_self]) ?_
            exact ⟨rc, fc, hr, rel_leave (y := h 15 t) (rel_thrown (x := 0) R) hff ht9 h14 hp (Or.inr ⟨hab, rfl⟩), rT_same T (fun f2 => by rw [cRo_k (by omega) (by omega), u2_off _ _ (by omega)]) (fun f2 => by rw [cRo_k (by omega) (by omega)]; simp [u2_at])⟩
      · exact op_x hR0 (by decide) (w_L_leaveSeat_ISE l Z ad hA g o _ _ (c_X3_leaveSeat_x2a l hfl Z ad hA5 g fc t f ht9 hff c4 c6 hns) (w_d rfl)) (c_X4_leaveSeat_2 l Z am hM h fc t f ht9 hff c5 c6 (Or.inl (s2.mp hns))) (by decide)
    · exact op_x hR0 (by decide) (w_L_leaveSeat_IOOBE l Z ad hA g o _ _ (c_X3_leaveSeat_x1b l hfl Z ad hA5 g fc t a1 ht9 c4 c6 hb) (w_d rfl)) (c_X4_leaveSeat_1 l Z am hM h fc _ a1 c5 c6 (Or.inr hb)) (by decide)
  · exact op_x hR0 (by decide) (w_L_leaveSeat_IOOBE l Z ad hA g o _ _ (c_X3_leaveSeat_x1a l hfl Z ad hA5 g a0 a1 hb) (w_d rfl)) (c_X4_leaveSeat_1 l Z am hM h fc a0 a1 c5 c6 (Or.inl hb)) (by decide)
theorem op_aboard {l : Launch} (hfl : l.stackTraces = false) {Z : fx_Z} {ad am : Nat → Nat} (hA : fx_inj 116 ad) (hM : fx_inj 22 am) (a0 a1 : Int32) : op_OK l Z ad am Rel yL_aboard cL_aboard 5 [(0, 10, 13, 13), (0, 10, 17, 21)] yX4_aboard cX4_aboard 7 (some .int) [.int a0, .int a1] := by
  intro g h o hR
  have hA5 := inj5 hA
  have hR0 := hR
  obtain ⟨rc, fc, hr, R, T⟩ := hR
  have E := R.1
  obtain ⟨c1, c2, c3, c4, c5, c6, c7, c8, c9⟩ := R.2.1
  have B := R.2.2.1
  have e16 := E 16 (by omega)
  rcases ixc a0 10 with ⟨t, ht9, rfl⟩ | hb
  · rcases ixc a1 fc with ⟨f, hff, rfl⟩ | hb
    · obtain ⟨s1, s2, x, x1, x2, x3⟩ := sld_iff R T hff
      obtain ⟨-, -, z, pf⟩ := R.2.2.2.1 f hff
      have e11 : h 11 f = g 11 f := by rw [E 11 (by omega)]
      have e02 : h 0 2 = g 0 2 := by rw [c7, c8]
      by_cases hp : g (30 + f) t = 0
      · have hm : ¬ mS h f t ∨ 0 ≤ h 15 t ∨ h 16 t = 1 ∨ h 14 f = 1 ∨ ¬ (h 11 f - 3 ≤ h 0 2 ∧ h 0 2 ≤ h 11 f - 1) := by
          rcases z with z | z
          · exact Or.inl fun q => (((mS_iff (h := h) (f := f) (t := t) (by omega)).trans ((pf t ht9).1 z).2).mp q) hp
          · exact Or.inr (Or.inr (Or.inr (Or.inl z)))
        exact op_x hR0 (by decide) (w_L_aboard_ISE l Z ad hA g o _ _ (c_X3_aboard_x2a l hfl Z ad hA5 g fc t f ht9 hff c4 c6 hp) (w_d rfl)) (c_X4_aboard_2 l Z am hM h fc t f ht9 hff c5 c6 hm) (by decide)
      · by_cases hgo : g 16 t = 0
        · have hgo1 : ¬ h 16 t = 1 := by rw [← e16, hgo]; decide
          by_cases hns : g 0 2 < g 11 f
          · have h14 := s1.mp hns
            have hg : ¬ h 14 f = 1 := by rw [h14]; decide
            have pm := (mS_iff (h := h) (f := f) (t := t) (by omega)).trans ((pf t ht9).1 h14).2
            by_cases hw : g 11 f - 3 ≤ g 0 2
            · by_cases hall : ∀ f, f < fc → ¬ g (30 + f) t = 2
              · have hab : ¬ 0 ≤ h 15 t := by
                  rcases R.2.2.2.2.2.1 t ht9 with w | ⟨f2, w1, w2⟩
                  · rw [w]; decide
                  · obtain ⟨-, -, -, p2⟩ := R.2.2.2.1 f2 w1
                    exact absurd ((p2 t ht9).2.2.mp w2) (hall f2 w1)
                have hin : h 11 f - 3 ≤ h 0 2 ∧ h 0 2 ≤ h 11 f - 1 := by
                  refine ⟨by rw [e11, e02]; exact hw, ?_⟩
                  rw [c7, x3, nI_ltI (by omega) (by omega)] at hns
                  rw [e11, e02, c7, x3, show nI x - 1 = nI (x - 1) from pk_sub (b := 1) x1, nI_leI (by omega) (by omega)]
                  omega
                have RN : RC (u2 g (30 + f) t 2) (u2 (u2 h 0 3 0) 15 t (nI f)) rc fc hr := rel_aboard (rel_thrown (x := 0) R) hff ht9 h14 hp hall
                refine op_ok (w_L_aboard_ok l Z ad hA g _ o _ _ _ (c_X3_aboard_ok l hfl Z ad hA5 g fc t f ht9 hff c4 c6 hp hgo hns hw hall) (w_d rfl)) (c_X4_aboard_0 l Z am hM h fc t f ht9 hff c5 c6 (pm.mpr hp) hab hgo1 hg hin) (by decide) ((ab_eq RN hff 10 (by omega)).symm) (by rw [u2_off _ _ (by omega), u2_self]) ?_
                exact ⟨rc, fc, hr, RN, rT_same T (fun f2 => by rw [u2_off _ _ (by omega)]) (fun f2 => by simp [u2_at])⟩
              · have hex : ∃ f0, f0 < fc ∧ g (30 + f0) t = 2 := Classical.byContradiction fun q => hall fun f0 w1 w2 => q ⟨f0, w1, w2⟩
                obtain ⟨f0, hf0, hab⟩ := hex
                obtain ⟨-, -, -, p0⟩ := R.2.2.2.1 f0 hf0
                exact op_x hR0 (by decide) (w_L_aboard_ISE l Z ad hA g o _ _ (c_X3_aboard_x2e l hfl Z ad hA5 g fc f0 t f ht9 hff c4 c6 hp hgo hns hw hf0 hab) (w_d rfl)) (c_X4_aboard_2 l Z am hM h fc t f ht9 hff c5 c6 (Or.inr (Or.inl (by rw [(p0 t ht9).2.2.mpr hab]; exact nI_pos' (by omega))))) (by decide)
            · exact op_x hR0 (by decide) (w_L_aboard_ISE l Z ad hA g o _ _ (c_X3_aboard_x2d l hfl Z ad hA5 g fc t f ht9 hff c4 c6 hp hgo hns hw) (w_d rfl)) (c_X4_aboard_2 l Z am hM h fc t f ht9 hff c5 c6 (Or.inr (Or.inr (Or.inr (Or.inr (fun q => hw (by rw [← e11, ← e02]; exact q.1))))))) (by decide)
          · exact op_x hR0 (by decide) (w_L_aboard_ISE l Z ad hA g o _ _ (c_X3_aboard_x2c l hfl Z ad hA5 g fc t f ht9 hff c4 c6 hp hgo hns) (w_d rfl)) (c_X4_aboard_2 l Z am hM h fc t f ht9 hff c5 c6 (Or.inr (Or.inr (Or.inr (Or.inl (s2.mp hns)))))) (by decide)
        · exact op_x hR0 (by decide) (w_L_aboard_ISE l Z ad hA g o _ _ (c_X3_aboard_x2b l hfl Z ad hA5 g fc t f ht9 hff c4 c6 hp hgo) (w_d rfl)) (c_X4_aboard_2 l Z am hM h fc t f ht9 hff c5 c6 (Or.inr (Or.inr (Or.inl (by rw [← e16]; exact g16_1 B hgo))))) (by decide)
    · exact op_x hR0 (by decide) (w_L_aboard_IOOBE l Z ad hA g o _ _ (c_X3_aboard_x1b l hfl Z ad hA5 g fc t a1 ht9 c4 c6 hb) (w_d rfl)) (c_X4_aboard_1 l Z am hM h fc _ a1 c5 c6 (Or.inr hb)) (by decide)
  · exact op_x hR0 (by decide) (w_L_aboard_IOOBE l Z ad hA g o _ _ (c_X3_aboard_x1a l hfl Z ad hA5 g a0 a1 hb) (w_d rfl)) (c_X4_aboard_1 l Z am hM h fc a0 a1 c5 c6 (Or.inl hb)) (by decide)
