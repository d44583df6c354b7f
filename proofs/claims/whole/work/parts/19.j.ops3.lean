/-! ===== the commands, to the end ===== -/
theorem bwT_at {t : Nat → Nat} {n x : Nat} : ∀ k j, bwT t n x k j = if n ≤ j ∧ j < n + k then 48 + x / 10 ^ (j - n) % 10 else t j := by
  intro k
  induction k with
  | zero => intro j; rw [if_neg (by omega)]; rfl
  | succ k ih =>
    intro j
    show va_up (bwT t n x k) (n + k) (48 + x / 10 ^ k % 10) j = _
    unfold va_up
    by_cases c : j = n + k
    · rw [if_pos c, if_pos (by omega), c, show n + k - n = k by omega]
    · rw [if_neg c, ih]
      by_cases d : n ≤ j ∧ j < n + k
      · rw [if_pos d, if_pos (by omega)]
      · rw [if_neg d, if_neg (by omega)]
theorem cdT_tx {i tx q : Nat} (h1 : dgN i + 2 ≤ q) (h2 : q < cdL i tx) : cdT i tx q = 48 + tx / 10 ^ (q - dgN i - 2) % 10 := by
  unfold cdL at h2
  unfold cdT
  rw [bwT_at, if_pos (by omega), show q - (0 + 1 + dgN i + 1) = q - dgN i - 2 by omega]
theorem cdT_lo {i tx q : Nat} (h1 : q < dgN i + 2) : cdT i tx q = va_up (apI (va_up (fun _ => 0) 0 82) (0 + 1) i) (0 + 1 + dgN i) 45 q := by
  unfold cdT
  rw [bwT_at, if_neg (by omega)]
theorem cdT_0 {i tx : Nat} : cdT i tx 0 = 82 := by
  rw [cdT_lo (by omega)]
  unfold va_up apI
  rw [if_neg (by omega)]
  split
  · simp [va_up]
  · simp [va_up]
theorem cdT_m {i tx : Nat} : cdT i tx (dgN i + 1) = 45 := by
  rw [cdT_lo (by omega)]
  unfold va_up
  rw [if_pos (by omega)]
theorem cdT_n {i tx q : Nat} (hi : i < 100) (h0 : 0 < q) (h1 : q ≤ dgN i) : cdT i tx q = 48 + i / 10 ^ (dgN i - q) % 10 := by
  rw [cdT_lo (by omega)]
  unfold va_up
  rw [if_neg (by omega)]
  by_cases c : i < 10
  · have d : dgN i = 1 := by unfold dgN; rw [if_pos c]
    have hq : q = 1 := by omega
    subst hq
    rw [d]
    unfold apI va_up
    rw [if_pos c]
    simp
  · have d : dgN i = 2 := by unfold dgN; rw [if_neg c, if_pos hi]
    rw [d]
    unfold apI
    rw [if_neg c]
    have hq : q = 1 ∨ q = 2 := by omega
    rcases hq with rfl | rfl
    · simp [va_up]; omega
    · simp [va_up]
theorem op_stamp {l : Launch} (hfl : l.stackTraces = false) {Z : fx_Z} {ad am : Nat → Nat} (hA : fx_inj 116 ad) (hM : fx_inj 22 am) (a0 a1 : Int32) : op_OK l Z ad am Rel yL_stamp cL_stamp 5 [(0, 10, 13, 13), (0, 10, 17, 21)] yX4_stamp cX4_stamp 5 (some .int) [.int a0, .int a1] := by
  intro g h o hR
  have hA5 := inj5 hA
  have hR0 := hR
  obtain ⟨rc, fc, hr, R, T⟩ := hR
  have E := R.1
  obtain ⟨c1, c2, c3, c4, c5, c6, c7, c8, c9⟩ := R.2.1
  have B := R.2.2.1
  have e16 := E 16 (by omega)
  rcases ixc a0 rc with ⟨i, hi, rfl⟩ | hb
  · rcases ixc a1 fc with ⟨f, hff, rfl⟩ | hb
    · obtain ⟨ht9, ht⟩ := okT_t B.1 i
      have hv : trv g i = trv g i := rfl
      revert hv
      generalize trv g i = t at ht9 ht
      intro hv
      have ht2 : h 3 i = nI t := by rw [← E 3 (by omega)]; exact ht
      have e7 : h 7 i = g 7 i := by rw [E 7 (by omega)]
      have e4 : h 4 i = g 4 i := by rw [E 4 (by omega)]
      obtain ⟨s1, s2, x, x1, x2, x3⟩ := sld_iff R T hff
      obtain ⟨-, -, z, pf⟩ := R.2.2.2.1 f hff
      have e11 : h 11 f = g 11 f := by rw [E 11 (by omega)]
      have e02 : h 0 2 = g 0 2 := by rw [c7, c8]
      by_cases h7 : g 7 i = 0
      · by_cases h4 : 50 ≤ g 4 i
        · by_cases hp : g (30 + f) t = 0
          · have hm : h 7 i ≠ 0 ∨ h 4 i < 50 ∨ h 14 f = 1 ∨ ¬ mS h f t ∨ ¬ (h 11 f - 12 ≤ h 0 2 ∧ h 0 2 ≤ h 11 f - 1) := by
              rcases z with z | z
              · exact Or.inr (Or.inr (Or.inr (Or.inl fun q => (((mS_iff (h := h) (f := f) (t := t) (by omega)).trans ((pf t ht9).1 z).2).mp q) hp)))
              · exact Or.inr (Or.inr (Or.inl z))
            exact op_x hR0 (by decide) (w_L_stamp_ISE l Z ad hA g o _ _ (c_X3_stamp_x2c l hfl Z ad hA5 g rc fc t i f hi c1 c3 hff c4 c6 ht ht9 h7 h4 hp) (w_d rfl)) (c_X4_stamp_2 l Z am hM h rc fc t i f hi c2 c3 hff c5 c6 ht2 ht9 hm) (by decide)
          · by_cases hns : g 0 2 < g 11 f
            · have h14 := s1.mp hns
              have hg : ¬ h 14 f = 1 := by rw [h14]; decide
              have pm := (mS_iff (h := h) (f := f) (t := t) (by omega)).trans ((pf t ht9).1 h14).2
              by_cases hw : g 11 f - 12 ≤ g 0 2
              · have hin : h 11 f - 12 ≤ h 0 2 ∧ h 0 2 ≤ h 11 f - 1 := by
                  refine ⟨by rw [e11, e02]; exact hw, ?_⟩
                  rw [c7, x3, nI_ltI (by omega) (by omega)] at hns
                  rw [e11, e02, c7, x3, show nI x - 1 = nI (x - 1) from pk_sub (b := 1) x1, nI_leI (by omega) (by omega)]
                  omega
                refine op_ok (w_L_stamp_ok l Z ad hA g _ o _ _ _ (c_X3_stamp_ok l hfl Z ad hA5 g rc fc t i f hi c1 c3 hff c4 c6 ht ht9 h7 h4 hp hns hw) (w_d rfl)) (c_X4_stamp_0 l Z am hM h rc fc t i f hi c2 c3 hff c5 c6 ht2 ht9 (e7.trans h7) (by rw [e4]; exact nlt h4) hg (pm.mpr hp) hin) (by decide) (by rw [E 5 (by omega)]) (by rw [u2_off _ _ (by omega), u2_off _ _ (by omega), u2_self]) ?_
                have hv2 : trv g i = t := (trv_iff B.1 ht9).mp ht
                exact ⟨rc, fc, hr, rel_stamp (rel_thrown (x := 0) R) hi h7 hff h14 (by rw [hv2]; exact hp), rT_same T (fun f => by simp [u2_at]) (fun f => by simp [u2_at])⟩
              · exact op_x hR0 (by decide) (w_L_stamp_ISE l Z ad hA g o _ _ (c_X3_stamp_x2e l hfl Z ad hA5 g rc fc t i f hi c1 c3 hff c4 c6 ht ht9 h7 h4 hp hns hw) (w_d rfl)) (c_X4_stamp_2 l Z am hM h rc fc t i f hi c2 c3 hff c5 c6 ht2 ht9 (Or.inr (Or.inr (Or.inr (Or.inr (fun q => hw (by rw [← e11, ← e02]; exact q.1))))))) (by decide)
            · exact op_x hR0 (by decide) (w_L_stamp_ISE l Z ad hA g o _ _ (c_X3_stamp_x2d l hfl Z ad hA5 g rc fc t i f hi c1 c3 hff c4 c6 ht ht9 h7 h4 hp hns) (w_d rfl)) (c_X4_stamp_2 l Z am hM h rc fc t i f hi c2 c3 hff c5 c6 ht2 ht9 (Or.inr (Or.inr (Or.inl (s2.mp hns))))) (by decide)
        · exact op_x hR0 (by decide) (w_L_stamp_ISE l Z ad hA g o _ _ (c_X3_stamp_x2b l hfl Z ad hA5 g rc fc i f hi c1 c3 hff c4 c6 h7 h4) (w_d rfl)) (c_X4_stamp_2 l Z am hM h rc fc t i f hi c2 c3 hff c5 c6 ht2 ht9 (Or.inr (Or.inl (by rw [e4]; exact Int32.not_le.mp h4)))) (by decide)
      · exact op_x hR0 (by decide) (w_L_stamp_ISE l Z ad hA g o _ _ (c_X3_stamp_x2a l hfl Z ad hA5 g rc fc i f hi c1 c3 hff c4 c6 h7) (w_d rfl)) (c_X4_stamp_2 l Z am hM h rc fc t i f hi c2 c3 hff c5 c6 ht2 ht9 (Or.inl (by rw [e7]; exact h7))) (by decide)
    · exact op_x hR0 (by decide) (w_L_stamp_IOOBE l Z ad hA g o _ _ (c_X3_stamp_x1b l hfl Z ad hA5 g rc fc i a1 hi c1 c3 c4 c6 hb) (w_d rfl)) (c_X4_stamp_1 l Z am hM h rc fc _ a1 c2 c3 c5 c6 (Or.inr hb)) (by decide)
  · exact op_x hR0 (by decide) (w_L_stamp_IOOBE l Z ad hA g o _ _ (c_X3_stamp_x1a l hfl Z ad hA5 g rc a0 a1 c1 c3 hb) (w_d rfl)) (c_X4_stamp_1 l Z am hM h rc fc a0 a1 c2 c3 c5 c6 (Or.inl hb)) (by decide)
theorem op_check {l : Launch} (hfl : l.stackTraces = false) {Z : fx_Z} {ad am : Nat → Nat} (hA : fx_inj 116 ad) (hM : fx_inj 22 am) (a0 a1 : Int32) (h01 : a1 = 0 ∨ a1 = 1) : op_OK l Z ad am Rel yL_check cL_check 5 [(0, 10, 13, 13), (0, 10, 17, 21)] yX4_check cX4_check 4 (some .int) [.int a0, .int a1] := by
  intro g h o hR
  have hA5 := inj5 hA
  have hR0 := hR
  obtain ⟨rc, fc, hr, R, T⟩ := hR
  have E := R.1
  obtain ⟨c1, c2, c3, c4, c5, c6, c7, c8, c9⟩ := R.2.1
  have B := R.2.2.1
  have e16 := E 16 (by omega)
  rcases ixc a0 rc with ⟨i, hi, rfl⟩ | hb
  · have e7 : h 7 i = g 7 i := by rw [E 7 (by omega)]
    by_cases h7 : g 7 i = 1
    · by_cases h0 : a1 = 0
      · obtain ⟨ht9, ht⟩ := okT_t B.1 i
        generalize trv g i = t at ht9 ht
        have ht2 : h 3 i = nI t := by rw [← E 3 (by omega)]; exact ht
        refine op_ok (w_L_check_ok l Z ad hA g _ o _ _ _ (c_X3_check_okf l hfl Z ad hA5 g rc t i a1 hi c1 c3 ht ht9 h7 h0) (w_d rfl)) (c_X4_check_0f l Z am hM h rc t i a1 hi c2 c3 ht2 ht9 (e7.trans h7) h0) (by decide) (rfl) (by rw [u2_off _ _ (by omega), u2_off _ _ (by omega), u2_off _ _ (by omega), u2_self]) ?_
        rw [show h 19 t = g 19 t by rw [E 19 (by omega)]]
        exact ⟨rc, fc, hr, rel_check (rel_thrown (x := 0) R) hi h7, rT_same T (fun f => by simp [u2_at]) (fun f => by simp [u2_at])⟩
      · exact op_ok (w_L_check_ok l Z ad hA g _ o _ _ _ (c_X3_check_okt l hfl Z ad hA5 g rc i a1 hi c1 c3 h7 h0) (w_d rfl)) (c_X4_check_0t l Z am hM h rc i a1 hi c2 c3 (e7.trans h7) h0) (by decide) (e7.symm) (u2_self _ _ _ _) (Rel_thrown hR0)
    · exact op_x hR0 (by decide) (w_L_check_ISE l Z ad hA g o _ _ (c_X3_check_x2 l hfl Z ad hA5 g rc i a1 hi c1 c3 h7) (w_d rfl)) (c_X4_check_2 l Z am hM h rc i a1 hi c2 c3 (by rw [e7]; exact h7)) (by decide)
  · exact op_x hR0 (by decide) (w_L_check_IOOBE l Z ad hA g o _ _ (c_X3_check_x1 l hfl Z ad hA5 g rc a0 a1 c1 c3 hb) (w_d rfl)) (c_X4_check_1 l Z am hM h rc a0 a1 c2 c3 hb) (by decide)
theorem op_comeBack {l : Launch} (hfl : l.stackTraces = false) {Z : fx_Z} {ad am : Nat → Nat} (hA : fx_inj 116 ad) (hM : fx_inj 22 am) (a0 : Int32) : op_OK l Z ad am Rel yL_comeBack cL_comeBack 4 [(0, 9, 12, 13), (0, 9, 15, 21)] yX4_comeBack cX4_comeBack 3 (some .int) [.int a0] := by
  intro g h o hR
  have hA5 := inj5 hA
  have hR0 := hR
  obtain ⟨rc, fc, hr, R, T⟩ := hR
  have E := R.1
  obtain ⟨c1, c2, c3, c4, c5, c6, c7, c8, c9⟩ := R.2.1
  have B := R.2.2.1
  have e16 := E 16 (by omega)
  rcases ixc a0 10 with ⟨t, ht9, rfl⟩ | hb
  · by_cases hg : g 16 t = 0
    · exact op_x hR0 (by decide) (w_L_comeBack_ISE l Z ad hA g o _ (c_X3_comeBack_x2 l hfl Z ad hA5 g t ht9 hg) (w_d rfl)) (c_X4_comeBack_2 l Z am hM h t ht9 (by rw [← e16]; exact hg)) (by decide)
    · refine op_ok (w_L_comeBack_ok l Z ad hA g _ o _ _ (c_X3_comeBack_ok l hfl Z ad hA5 g t ht9 hg) (w_d rfl)) (c_X4_comeBack_0 l Z am hM h t ht9 (by rw [← e16]; exact hg)) (by decide) (by rw [E 17 (by omega)]) (by rw [u2_off _ _ (by omega), u2_self]) ?_
      exact ⟨rc, fc, hr, rel_comeBack (rel_thrown (x := 0) R), rT_same T (fun f => by simp [u2_at]) (fun f => by simp [u2_at])⟩
  · exact op_x hR0 (by decide) (w_L_comeBack_IOOBE l Z ad hA g o _ (c_X3_comeBack_x1 l hfl Z ad hA5 g a0 hb) (w_d rfl)) (c_X4_comeBack_1 l Z am hM h a0 hb) (by decide)
theorem op_pass {l : Launch} (hfl : l.stackTraces = false) {Z : fx_Z} {ad am : Nat → Nat} (hA : fx_inj 116 ad) (hM : fx_inj 22 am) (a0 : Int32) : op_OK l Z ad am Rel yL_pass cL_pass 4 [(0, 9, 12, 15), (0, 9, 15, 21)] yX4_pass cX4_pass 4 (some .int) [.int a0] := by
  intro g h o hR
  have hA5 := inj5 hA
  have hR0 := hR
  obtain ⟨rc, fc, hr, R, T⟩ := hR
  have E := R.1
  obtain ⟨c1, c2, c3, c4, c5, c6, c7, c8, c9⟩ := R.2.1
  have B := R.2.2.1
  have e16 := E 16 (by omega)
  by_cases hp : 1 ≤ a0 ∧ a0 ≤ 100
  · obtain ⟨n, hn, rfl⟩ := nI_of2 (M := 100) (n := 100) (by decide) (nlt (show 0 ≤ a0 from Int32.le_trans (by decide) hp.1)) hp.2
    have hn1 : 1 ≤ n := (nI_leI (a := 1) (by omega) (by omega)).mp hp.1
    have k1 : nI n ≤ 10000 - g 0 2 ↔ hr + n ≤ 10000 := by
      rw [c7, show (10000 : Int32) - nI hr = nI (10000 - hr) from pk_sub (a := 10000) c9, nI_leI (by omega) (by omega)]
      omega
    have k2 : h 0 2 + nI n ≤ 10000 ↔ hr + n ≤ 10000 := by
      rw [c8, nI_add, show (10000 : Int32) = nI 10000 from rfl, nI_leI (by omega) (by omega)]
    by_cases hs : hr + n ≤ 10000
    · obtain ⟨r1, r2⟩ := rel_pass (rel_thrown (x := 0) R) (rT_thrown (x := 0) T) n hs
      refine op_ok (w_L_pass_ok l Z ad hA g _ o _ _ (c_X3_pass_ok l hfl Z ad hA5 g rc fc n (nlt hp.1) hp.2 hn (k1.mpr hs) c1 c3 c4 c6) (w_d rfl)) (c_X4_pass_0 l Z am hM h rc fc n hn1 hn (k2.mpr hs) c2 c3 c5 c6 (fun i _ => by rw [← E 3 (by omega)]; exact B.1.1 i)) (by decide) (by rw [r1.2.1.2.2.2.2.2.2.1, r1.2.1.2.2.2.2.2.2.2.1]) (by rw [mPass_0 (by omega), u2_self]) ?_
      exact ⟨rc, fc, hr + n, r1, r2⟩
    · exact op_x hR0 (by decide) (w_L_pass_ISE l Z ad hA g o _ (c_X3_pass_x2 l hfl Z ad hA5 g (nI n) (nlt hp.1) hp.2 (fun q => hs (k1.mp q))) (w_d rfl)) (c_X4_pass_2 l Z am hM h n hn1 hn (fun q => hs (k2.mp q))) (by decide)
  · exact op_x hR0 (by decide) (w_L_pass_IAE l Z ad hA g o _ (c_X3_pass_x1 l hfl Z ad hA5 g a0 (rng hp)) (w_d rfl)) (c_X4_pass_1 l Z am hM h a0 hp) (by decide)
theorem op_ofReceipt {l : Launch} (hfl : l.stackTraces = false) {Z : fx_Z} {ad am : Nat → Nat} (hA : fx_inj 116 ad) (hM : fx_inj 22 am) (a0 a1 : Int32) : op_OK l Z ad am Rel yL_ofReceipt cL_ofReceipt 5 [(0, 10, 13, 13), (0, 10, 17, 15)] yX4_ofReceipt cX4_ofReceipt 3 (some .int) [.int a0, .int a1] := by
  intro g h o hR
  have hA5 := inj5 hA
  have hR0 := hR
  obtain ⟨rc, fc, hr, R, T⟩ := hR
  have E := R.1
  obtain ⟨c1, c2, c3, c4, c5, c6, c7, c8, c9⟩ := R.2.1
  have B := R.2.2.1
  have e16 := E 16 (by omega)
  rcases ixc a0 rc with ⟨i, hi, rfl⟩ | hb
  · rcases ixc a1 4 with ⟨j, hj, rfl⟩ | hb
    · match j, hj with
      | 0, _ => exact op_ok (w_L_ofReceipt_ok l Z ad hA g _ o _ _ _ (c_X3_ofReceipt_0 l hfl Z ad hA5 g rc i hi c1 c3) (w_d rfl)) (c_X4_ofReceipt_0 l Z am hM h rc i hi c2 c3) (by decide) (by rw [E 7 (by omega)]) (u2_self _ _ _ _) (Rel_thrown hR0)
      | 1, _ => exact op_ok (w_L_ofReceipt_ok l Z ad hA g _ o _ _ _ (c_X3_ofReceipt_1 l hfl Z ad hA5 g rc i hi c1 c3) (w_d rfl)) (c_X4_ofReceipt_1 l Z am hM h rc i hi c2 c3) (by decide) (by rw [E 5 (by omega)]) (u2_self _ _ _ _) (Rel_thrown hR0)
      | 2, _ => exact op_ok (w_L_ofReceipt_ok l Z ad hA g _ o _ _ _ (c_X3_ofReceipt_2 l hfl Z ad hA5 g rc i hi c1 c3) (w_d rfl)) (c_X4_ofReceipt_2 l Z am hM h rc i hi c2 c3) (by decide) (by rw [E 9 (by omega)]) (u2_self _ _ _ _) (Rel_thrown hR0)
      | 3, _ => exact op_ok (w_L_ofReceipt_ok l Z ad hA g _ o _ _ _ (c_X3_ofReceipt_3 l hfl Z ad hA5 g rc i hi c1 c3) (w_d rfl)) (c_X4_ofReceipt_3 l Z am hM h rc i hi c2 c3) (by decide) (by rw [E 8 (by omega)]) (u2_self _ _ _ _) (Rel_thrown hR0)
      | j + 4, q => exact absurd q (by omega)
    · exact op_x hR0 (by decide) (w_L_ofReceipt_IAE l Z ad hA g o _ _ (c_X3_ofReceipt_x2 l hfl Z ad hA5 g rc i a1 hi c1 c3 hb) (w_d rfl)) (c_X4_ofReceipt_e2 l Z am hM h rc i a1 hi c2 c3 hb) (by decide)
  · exact op_x hR0 (by decide) (w_L_ofReceipt_IOOBE l Z ad hA g o _ _ (c_X3_ofReceipt_x1 l hfl Z ad hA5 g rc a0 a1 c1 c3 hb) (w_d rfl)) (c_X4_ofReceipt_e1 l Z am hM h rc a0 a1 c2 c3 hb) (by decide)
theorem op_ofTraveller {l : Launch} (hfl : l.stackTraces = false) {Z : fx_Z} {ad am : Nat → Nat} (hA : fx_inj 116 ad) (hM : fx_inj 22 am) (a0 a1 : Int32) : op_OK l Z ad am Rel yL_ofTraveller cL_ofTraveller 5 [(0, 10, 13, 13), (0, 10, 17, 15)] yX4_ofTraveller cX4_ofTraveller 3 (some .int) [.int a0, .int a1] := by
  intro g h o hR
  have hA5 := inj5 hA
  have hR0 := hR
  obtain ⟨rc, fc, hr, R, T⟩ := hR
  have E := R.1
  obtain ⟨c1, c2, c3, c4, c5, c6, c7, c8, c9⟩ := R.2.1
  have B := R.2.2.1
  have e16 := E 16 (by omega)
  rcases ixc a0 10 with ⟨t, ht9, rfl⟩ | hb
  · rcases ixc a1 4 with ⟨j, hj, rfl⟩ | hb
    · match j, hj with
      | 0, _ => exact op_ok (w_L_ofTraveller_ok l Z ad hA g _ o _ _ _ (c_X3_ofTraveller_0 l hfl Z ad hA5 g t ht9) (w_d rfl)) (c_X4_ofTraveller_0 l Z am hM h t ht9) (by decide) (by rw [E 20 (by omega)]) (u2_self _ _ _ _) (Rel_thrown hR0)
      | 1, _ => exact op_ok (w_L_ofTraveller_ok l Z ad hA g _ o _ _ _ (c_X3_ofTraveller_1 l hfl Z ad hA5 g t ht9) (w_d rfl)) (c_X4_ofTraveller_1 l Z am hM h t ht9) (by decide) (by rw [E 19 (by omega)]) (u2_self _ _ _ _) (Rel_thrown hR0)
      | 2, _ => exact op_ok (w_L_ofTraveller_ok l Z ad hA g _ o _ _ _ (c_X3_ofTraveller_2 l hfl Z ad hA5 g t ht9) (w_d rfl)) (c_X4_ofTraveller_2 l Z am hM h t ht9) (by decide) (by rw [E 18 (by omega)]) (u2_self _ _ _ _) (Rel_thrown hR0)
      | 3, _ => exact op_ok (w_L_ofTraveller_ok l Z ad hA g _ o _ _ _ (c_X3_ofTraveller_3 l hfl Z ad hA5 g t ht9) (w_d rfl)) (c_X4_ofTraveller_3 l Z am hM h t ht9) (by decide) (by rw [← e16]; rcases B.2.2 t with w | w <;> rw [w] <;> decide) (u2_self _ _ _ _) (Rel_thrown hR0)
      | j + 4, q => exact absurd q (by omega)
    · exact op_x hR0 (by decide) (w_L_ofTraveller_IAE l Z ad hA g o _ _ (c_X3_ofTraveller_x2 l hfl Z ad hA5 g t a1 ht9 hb) (w_d rfl)) (c_X4_ofTraveller_e2 l Z am hM h t a1 ht9 hb) (by decide)
  · exact op_x hR0 (by decide) (w_L_ofTraveller_IOOBE l Z ad hA g o _ _ (c_X3_ofTraveller_x1 l hfl Z ad hA5 g a0 a1 hb) (w_d rfl)) (c_X4_ofTraveller_e1 l Z am hM h a0 a1 hb) (by decide)
theorem op_refundsAnew {l : Launch} (hfl : l.stackTraces = false) {Z : fx_Z} {ad am : Nat → Nat} (hA : fx_inj 116 ad) (hM : fx_inj 22 am) (a0 : Int32) : op_OK l Z ad am Rel yL_refundsAnew cL_refundsAnew 4 [(0, 9, 12, 13)] yX4_refundsAnew cX4_refundsAnew 2 (some .int) [.int a0] := by
  intro g h o hR
  have hA5 := inj5 hA
  have hR0 := hR
  obtain ⟨rc, fc, hr, R, T⟩ := hR
  have E := R.1
  obtain ⟨c1, c2, c3, c4, c5, c6, c7, c8, c9⟩ := R.2.1
  have B := R.2.2.1
  have e16 := E 16 (by omega)
  rcases ixc a0 10 with ⟨t, ht9, rfl⟩ | hb
  · exact op_ok (w_L_refundsAnew_ok l Z ad hA g _ o _ _ (c_X3_refundsAnew_ok l hfl Z ad hA5 g rc fc t ht9 c1 c3 c4 c6) (w_d rfl)) (c_X4_refundsAnew_0 l Z am hM h t ht9) (by decide) (by rw [← E 20 (by omega)]; exact (R.2.2.2.2.2.2.2 t ht9).symm) (u2_self _ _ _ _) (Rel_thrown hR0)
  · exact op_x hR0 (by decide) (w_L_refundsAnew_IOOBE l Z ad hA g o _ (c_X3_refundsAnew_x l hfl Z ad hA5 g a0 hb) (w_d rfl)) (c_X4_refundsAnew_1 l Z am hM h a0 hb) (by decide)
theorem op_debt {l : Launch} (hfl : l.stackTraces = false) {Z : fx_Z} {ad am : Nat → Nat} (hA : fx_inj 116 ad) (hM : fx_inj 22 am) (a0 : Int32) : op_OK l Z ad am Rel yL_debt cL_debt 4 [(0, 9, 12, 13)] yX4_debt cX4_debt 4 (some .int) [.int a0] := by
  intro g h o hR
  have hA5 := inj5 hA
  have hR0 := hR
  obtain ⟨rc, fc, hr, R, T⟩ := hR
  have E := R.1
  obtain ⟨c1, c2, c3, c4, c5, c6, c7, c8, c9⟩ := R.2.1
  have B := R.2.2.1
  have e16 := E 16 (by omega)
  rcases ixc a0 5 with ⟨a, ha, rfl⟩ | hb
  · exact op_ok (w_L_debt_ok l Z ad hA g _ o _ _ (c_X3_debt_ok l hfl Z ad hA5 g rc a ha c1 c3) (w_d rfl)) (c_X4_debt_0 l Z am hM h rc a ha c2 c3) (by decide) (dbt_E E a rc) (u2_self _ _ _ _) (Rel_thrown hR0)
  · exact op_x hR0 (by decide) (w_L_debt_IOOBE l Z ad hA g o _ (c_X3_debt_x1 l hfl Z ad hA5 g a0 hb) (w_d rfl)) (c_X4_debt_1 l Z am hM h a0 hb) (by decide)
theorem op_code {l : Launch} (hfl : l.stackTraces = false) {Z : fx_Z} {ad am : Nat → Nat} (hA : fx_inj 116 ad) (hM : fx_inj 22 am) (a0 a1 : Int32) : op_OK l Z ad am Rel yL_code cL_code 5 [(0, 10, 13, 13)] yX4_code cX4_code 5 (some .char) [.int a0, .int a1] := by
  intro g h o hR
  have hA5 := inj5 hA
  have hR0 := hR
  obtain ⟨rc, fc, hr, R, T⟩ := hR
  have E := R.1
  obtain ⟨c1, c2, c3, c4, c5, c6, c7, c8, c9⟩ := R.2.1
  have B := R.2.2.1
  have e16 := E 16 (by omega)
  rcases ixc a0 rc with ⟨i, hi, rfl⟩ | hb
  · by_cases hq : a1 < 0
    · exact op_x hR0 (by decide) (w_L_code_IOOBE l Z ad hA g o _ _ (c_X3_code_x2 l hfl Z ad hA5 g rc i a1 hi c1 c3 hq) (w_d rfl)) (c_X4_code_1 l Z am hM h rc _ a1 c2 c3 (Or.inr hq)) (by decide)
    · obtain ⟨q, hq2, rfl⟩ := nI_of hq
      obtain ⟨t1, t2⟩ := okT_x B.1 i
      generalize txv g i = tx at t1 t2
      have t3 : h 5 i = nI tx := by rw [← E 5 (by omega)]; exact t2
      have hd5 := dgN_le i
      have hd6 := dgN_le tx
      have hL : cdL i tx = dgN i + 2 + dgN tx := by unfold cdL; omega
      by_cases q0 : q = 0
      · subst q0
        exact op_ok (w_L_code_ok l Z ad hA g _ o _ _ _ (c_X3_code_in l hfl Z ad hA5 g rc tx i 0 hi c1 c3 t2 (by omega) (by omega) (by omega)) (w_d rfl)) (c_X4_code_A l Z am hM h rc i hi c2 c3) (by decide) (by rw [cdT_0]; rfl) (u2_self _ _ _ _) (Rel_thrown hR0)
      · by_cases qm : q = dgN i + 1
        · exact op_ok (w_L_code_ok l Z ad hA g _ o _ _ _ (c_X3_code_in l hfl Z ad hA5 g rc tx i q hi c1 c3 t2 (by omega) hq2 (by omega)) (w_d rfl)) (c_X4_code_B l Z am hM h rc i q hi c2 c3 qm hq2) (by decide) (by rw [qm, cdT_m]; rfl) (u2_self _ _ _ _) (Rel_thrown hR0)
        · by_cases qn : q ≤ dgN i
          · exact op_ok (w_L_code_ok l Z ad hA g _ o _ _ _ (c_X3_code_in l hfl Z ad hA5 g rc tx i q hi c1 c3 t2 (by omega) hq2 (by omega)) (w_d rfl)) (c_X4_code_C l Z am hM h rc i q hi c2 c3 (by omega) qn hd5) (by decide) (by rw [cdT_n (by omega) (by omega) qn]) (u2_self _ _ _ _) (Rel_thrown hR0)
          · by_cases ql : q < cdL i tx
            · exact op_ok (w_L_code_ok l Z ad hA g _ o _ _ _ (c_X3_code_in l hfl Z ad hA5 g rc tx i q hi c1 c3 t2 (by omega) hq2 ql) (w_d rfl)) (c_X4_code_D l Z am hM h rc tx i q hi c2 c3 t3 (by omega) hd5 hd6 (by omega) hq2 (by omega)) (by decide) (by rw [cdT_tx (by omega) ql]) (u2_self _ _ _ _) (Rel_thrown hR0)
            · exact op_ok (w_L_code_ok l Z ad hA g _ o _ _ _ (c_X3_code_out l hfl Z ad hA5 g rc tx i q hi c1 c3 t2 (by omega) hq2 ql) (w_d rfl)) (c_X4_code_E l Z am hM h rc tx i q hi c2 c3 t3 (by omega) hd5 hd6 (by omega) hq2 (by omega)) (by decide) (rfl) (u2_self _ _ _ _) (Rel_thrown hR0)
  · exact op_x hR0 (by decide) (w_L_code_IOOBE l Z ad hA g o _ _ (c_X3_code_x1 l hfl Z ad hA5 g rc a0 a1 c1 c3 hb) (w_d rfl)) (c_X4_code_1 l Z am hM h rc a0 a1 c2 c3 (Or.inl hb)) (by decide)
