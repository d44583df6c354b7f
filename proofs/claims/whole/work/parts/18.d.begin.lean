/-! ===== the law: its beginning ===== -/
theorem okj_L_68 : fj_ok RL 68 yX3_init cX3_init 2 none 0 := ⟨fx_w 63 (by decide +kernel) rfl, fx_w 61 (by decide +kernel) rfl, fx_w 37 (by decide +kernel) rfl, by decide +kernel⟩
theorem okj_L_71 : fj_ok RL 71 yX4_init cX4_init 2 none 0 := ⟨fx_w 684 (by decide +kernel) rfl, fx_w 682 (by decide +kernel) rfl, fx_w 41 (by decide +kernel) rfl, by decide +kernel⟩
theorem fx_tyL {Z : fx_Z} {U : State} {cA : ClassId} (h : va_K Z.1 vwCl (fx_tys Z ++ [(cA, .long)]) U) : cA = Z.2.1 4 := by
  have h1 : U.vm.findClass ("[" ++ FieldType.long.toString) = some (Z.2.1 4) := (h.2 4 (Z.2.1 4, .long) rfl).2
  have h2 : U.vm.findClass ("[" ++ FieldType.long.toString) = some cA := (h.2 6 (cA, .long) rfl).2
  exact Option.some.inj (h2.symm.trans h1)
theorem va_D_app {A : Nat → Prop} {w1 w2 : va_W} (h1 : va_D A w1) (h2 : va_D A w2) (hne : ∀ (i j : Nat) (x y : Nat × va_E), w1[i]? = some x → w2[j]? = some y → x.1 ≠ y.1) : va_D A (w1 ++ w2) := by
  have key : ∀ (k : Nat) (q : Nat × va_E), (w1 ++ w2)[k]? = some q → (w1[k]? = some q ∧ k < w1.length) ∨ (w2[k - w1.length]? = some q ∧ w1.length ≤ k) := by
    intro k q hq
    by_cases hl : k < w1.length
    · rw [List.getElem?_append_left hl] at hq; exact Or.inl ⟨hq, hl⟩
    · rw [List.getElem?_append_right (by omega)] at hq; exact Or.inr ⟨hq, by omega⟩
  refine ⟨fun i j x y hx hy e => ?_, fun k q hq => ?_⟩
  · rcases key i x hx with ⟨a1, b1⟩ | ⟨a1, b1⟩ <;> rcases key j y hy with ⟨a2, b2⟩ | ⟨a2, b2⟩
    · exact h1.1 i j x y a1 a2 e
    · exact absurd e (hne _ _ _ _ a1 a2)
    · exact absurd e.symm (hne _ _ _ _ a2 a1)
    · have := h2.1 _ _ x y a1 a2 e
      omega
  · rcases key k q hq with ⟨a1, -⟩ | ⟨a1, -⟩
    · exact h1.2 k q a1
    · exact h2.2 _ q a1
theorem cF_cong {D : va_G} {ad ad0 : Nat → Nat} {cy : Nat → ClassId} {g : St} {H : Heap} (h : ∀ k, k < 115 → ad k = ad0 k) (hP : va_P D vwCl (iw 115 (cF ad0 cy g)) H) : va_P D vwCl (iw 115 (cF ad cy g)) H := by
  intro k q hq
  obtain ⟨hk, rfl⟩ := iw_lt hq
  have h0 := hP k _ (iw_at hk)
  by_cases k2 : k = 2
  · subst k2
    have h9 : H[ad0 2]? = some (arrV (cy 1) 60 (fun j => va_rf (some (ad0 (5 + j))))) := h0
    show H[ad 2]? = some (arrV (cy 1) 60 (fun j => va_rf (some (ad (5 + j)))))
    rw [h 2 hk, arr_ext (g := fun j => va_rf (some (ad0 (5 + j)))) (fun i hi => by rw [h (5 + i) (by omega)])]
    exact h9
  by_cases k3 : k = 3
  · subst k3
    have h9 : H[ad0 3]? = some (arrV (cy 2) 20 (fun j => va_rf (some (ad0 (65 + j))))) := h0
    show H[ad 3]? = some (arrV (cy 2) 20 (fun j => va_rf (some (ad (65 + j)))))
    rw [h 3 hk, arr_ext (g := fun j => va_rf (some (ad0 (65 + j)))) (fun i hi => by rw [h (65 + i) (by omega)])]
    exact h9
  by_cases k4 : k = 4
  · subst k4
    have h9 : H[ad0 4]? = some (arrV (cy 3) 10 (fun j => va_rf (some (ad0 (105 + j))))) := h0
    show H[ad 4]? = some (arrV (cy 3) 10 (fun j => va_rf (some (ad (105 + j)))))
    rw [h 4 hk, arr_ext (g := fun j => va_rf (some (ad0 (105 + j)))) (fun i hi => by rw [h (105 + i) (by omega)])]
    exact h9
  have e : cF ad cy g k = cF ad0 cy g k := by
    show (ad k, ct ad cy g k) = (ad0 k, ct ad0 cy g k)
    rw [h k hk]
    congr 1
    unfold ct
    by_cases a0 : k = 0
    · rw [if_pos a0, if_pos a0, ct0, ct0, h 1 (by decide), h 2 (by decide), h 3 (by decide), h 4 (by decide)]
    rw [if_neg a0, if_neg a0]
    by_cases a1 : k = 1
    · rw [if_pos a1, if_pos a1]
    rw [if_neg a1, if_neg a1, if_neg k2, if_neg k2, if_neg k3, if_neg k3, if_neg k4, if_neg k4]
    by_cases a5 : k < 65
    · rw [if_pos a5, if_pos a5]
    rw [if_neg a5, if_neg a5]
    by_cases a6 : k < 85
    · rw [if_pos a6, if_pos a6, ctF, ctF, h (85 + (k - 65)) (by omega)]
    rw [if_neg a6, if_neg a6]
  rw [e]
  exact h0
set_option maxHeartbeats 4000000 in
set_option maxRecDepth 100000 in
theorem law_begin {p : Program} {l : Launch} {e : Env} {s : State} {m : MethodId} {below : List Frame} {meth : Method} {c : Code} {Q : State → Prop} {Z : fx_Z} {b L : Nat} {xs : Nat → Int32} {ls : Array Slot}
    (K : l_K p s m meth c b L xs Z) (hl : lv_has ls 7 [(0, .ref b)])
    (kk : ∀ (ad am : Nat → Nat) (H : Heap) (locs : List Loc) (ls : Array Slot), l_ad s ad am → va_P Z.1 vwCl (iw 116 (wF ad Z.2.1 (iC, 0))) H → va_P Z.1 vwCl (iw 22 (mF am (Z.2.1 0) iI)) H → va_S (lA s) s.heap H locs → lv_has ls 7 [(4, .int (nI 0)), (3, .ref (ad 115)), (2, .ref (am 0)), (1, .ref (ad 0)), (0, .ref b)] → W p l e room_1 s m #[Value.ref b] below meth c H locs 138 1671 Q (F0 m 23 ls [])) :
    W p l e room_1 s m #[Value.ref b] below meth c s.heap [] 0 0 Q (F0 m 0 ls []) := by
  obtain ⟨hx, hb, hml, hown, hT, hE, hSt, hX, hbl⟩ := K
  have hA : ∀ q, s.heap.size ≤ q → lA s q := fun q hq => hq
  have hS : va_S (lA s) s.heap s.heap [] := va_S.rf
  have hP0 : va_P Z.1 vwCl [] s.heap := fun k q hq => by cases hq
  have hD0 : va_D (lA s) ([] : va_W) := ⟨fun i j x y hx => (by cases hx), fun k q hq => (by cases hq)⟩
  refine va_new (D := Z.1) (ci := 4) (C := RX3) (T := TX3) (N := 7) (fs := [.null, .null, .null, .null, .int 0, .int 0, .int 0]) hx hb hT i_X3 tyX3 tyX3_ok hown (hT (.classLink RL 8 RX3) (fx_w 59 (by decide +kernel) rfl)) (hT (.instantiable RX3 7) (fx_w 60 (by decide +kernel) rfl)) (hT (.initialized RX3) (fx_w 37 (by decide +kernel) rfl)) hE.1 hP0 hD0 hS hA rfl ?_ (by decide) (by decide) dL_law_0 (fun q1 H1 hP1 hD1 hS1 => ?_)
  · intro j hj
    match j, hj with
    | 0, _ => rfl
    | 1, _ => rfl
    | 2, _ => rfl
    | 3, _ => rfl
    | 4, _ => rfl
    | 5, _ => rfl
    | 6, _ => rfl
  have hq1 : s.heap.size ≤ q1 := hD1.2 0 _ rfl
  refine lv_dup hx hb dL_law_3 rfl ?_
  refine fi_callI (rest := [.ref q1]) (N := 1) (ad := fun _ => q1) (F := cI_F q1) (A := lA s) hx hb hml hown hT hE hSt (fun k hk => hq1) hA hP1 hS1 (c_X3_init l Z q1) okj_L_68 (fx_w 62 (by decide +kernel) rfl) rfl rfl ⟨by decide, by decide⟩ rfl hl.1 (Nat.le_of_ble_eq_true rfl) ⟨by decide, by decide⟩ dL_law_4 (fun ad0 H2 locs2 hp2 hS2 hz2 hk2 => ?_)
  obtain ⟨j1, j2, j3, j4⟩ := hp2
  have hn0 : ∀ k, k < 115 → s.heap.size ≤ ad0 k := fun k hk => by
    by_cases k0 : k = 0
    · subst k0; rw [j2]; exact hq1
    · exact Nat.le_trans hS1.1 (j3 k (by omega) hk)
  have hDc : va_D (lA s) (iw 115 (cF ad0 Z.2.1 iC)) := fx_D j1 (cF_1 iC) hn0
  refine lv_astore_n (lv' := [(1, .ref q1), (0, .ref b)]) hx hb dL_law_7 rfl hl (by decide) rfl (fun ls hl => ?_)
  refine va_new (D := Z.1) (ci := 5) (C := RX4) (T := TX4) (N := 25) (fs := [.null, .null, .null, .null, .null, .null, .null, .null, .null, .null, .int 0, .null, .null, .null, .null, .int 0, .null, .null, .null, .null, .null, .null, .null, .int 0, .int 0]) hx hb hT i_X4 tyX4 tyX4_ok hown (hT (.classLink RL 69 RX4) (fx_w 680 (by decide +kernel) rfl)) (hT (.instantiable RX4 25) (fx_w 681 (by decide +kernel) rfl)) (hT (.initialized RX4) (fx_w 41 (by decide +kernel) rfl)) hE.1 j4 hDc hS2 hA rfl ?_ (by decide) (by decide) dL_law_8 (fun q2 H3 hP3 hD3 hS3 => ?_)
  · intro j hj
    match j, hj with
    | 0, _ => rfl
    | 1, _ => rfl
    | 2, _ => rfl
    | 3, _ => rfl
    | 4, _ => rfl
    | 5, _ => rfl
    | 6, _ => rfl
    | 7, _ => rfl
    | 8, _ => rfl
    | 9, _ => rfl
    | 10, _ => rfl
    | 11, _ => rfl
    | 12, _ => rfl
    | 13, _ => rfl
    | 14, _ => rfl
    | 15, _ => rfl
    | 16, _ => rfl
    | 17, _ => rfl
    | 18, _ => rfl
    | 19, _ => rfl
    | 20, _ => rfl
    | 21, _ => rfl
    | 22, _ => rfl
    | 23, _ => rfl
    | 24, _ => rfl
    | j + 25, h9 => exact absurd h9 (by omega)
  have hPc := va_P_l hP3
  have hPm : va_P Z.1 vwCl (iw 1 (mI_F q2)) H3 := va_P_r hP3
  have hat : (iw 115 (cF ad0 Z.2.1 iC) ++ [(q2, .inr (5, [.null, .null, .null, .null, .null, .null, .null, .null, .null, .null, .int 0, .null, .null, .null, .null, .int 0, .null, .null, .null, .null, .null, .null, .null, .int 0, .int 0]))])[115]? = some ((q2, .inr (5, [.null, .null, .null, .null, .null, .null, .null, .null, .null, .null, .int 0, .null, .null, .null, .null, .int 0, .null, .null, .null, .null, .null, .null, .null, .int 0, .int 0])) : Nat × va_E) := by
    rw [List.getElem?_append_right (by simp [iw])]; simp [iw]
  have hq2 : s.heap.size ≤ q2 := hD3.2 115 _ hat
  have hne2 : ∀ k, k < 115 → ad0 k ≠ q2 := fun k hk e9 => by
    have := hD3.1 k 115 _ _ (by rw [List.getElem?_append_left (by simp [iw]; omega)]; exact iw_at hk) hat e9
    omega
  refine lv_dup hx hb dL_law_11 rfl ?_
  refine fi_callI (rest := [.ref q2]) (N := 1) (ad := fun _ => q2) (F := mI_F q2) (A := lA s) hx hb hml hown hT hE hSt (fun k hk => hq2) hA hPm hS3 (c_X4_init l Z q2) okj_L_71 (fx_w 683 (by decide +kernel) rfl) rfl rfl ⟨by decide, by decide⟩ rfl hl.1 (Nat.le_of_ble_eq_true rfl) ⟨by decide, by decide⟩ dL_law_12 (fun am H4 locs4 hp4 hS4 hz4 hk4 => ?_)
  obtain ⟨m1, m2, m3, m4⟩ := hp4
  have hlt3 : ∀ k, k < 115 → ad0 k < H3.size := fun k hk => fx_P_lt hPc hk
  have hPc4 : va_P Z.1 vwCl (iw 115 (cF ad0 Z.2.1 iC)) H4 := fx_P_kept hPc (cF_1 iC) (fun k hk => hk4 _ (hlt3 k hk) (by
    rintro (⟨j, hj, e9⟩ | h9)
    · exact hne2 k hk e9.symm
    · have := hlt3 k hk
      omega))
  have hnm : ∀ k, k < 22 → s.heap.size ≤ am k := fun k hk => by
    by_cases k0 : k = 0
    · subst k0; rw [m2]; exact hq2
    · exact Nat.le_trans hS3.1 (m3 k (by omega) hk)
  have hne : ∀ i j, i < 115 → j < 22 → ad0 i ≠ am j := fun i j hi hj e9 => by
    by_cases j0 : j = 0
    · subst j0; rw [m2] at e9; exact hne2 i hi e9
    · have h1 := m3 j (by omega) hj
      have h2 := hlt3 i hi
      omega
  have hDm : va_D (lA s) (iw 22 (mF am (Z.2.1 0) iI)) := fx_D m1 (mF_1 iI) hnm
  have hDa := va_D_app hDc hDm (fun i j x y h1 h2 => by
    obtain ⟨hi, rfl⟩ := iw_lt h1
    obtain ⟨hj, rfl⟩ := iw_lt h2
    exact hne i j hi hj)
  refine lv_astore_n (lv' := [(2, .ref q2), (1, .ref q1), (0, .ref b)]) hx hb dL_law_15 rfl hl (by decide) rfl (fun ls hl => ?_)
  refine lv_iconst (v := 1) hx hb dL_law_16 (by decide) ?_
  refine va_newa (atype := .long) hx hb (va_ac hE fx_wcL) (ty := .long) rfl hE.1 (hPc4.app m4) hDa hS4 hA (N' := 1) (a0 := (1, .inr (.inl (fun _ => 0)))) (fun _ => rfl) (by decide) (by decide) (by decide) (by decide) (by decide) dL_law_17 (fun q3 cA H5 hK5 hP5 hD5 hS5 => ?_)
  have hcA := fx_tyL hK5
  subst hcA
  have hlen : (iw 115 (cF ad0 Z.2.1 iC) ++ iw 22 (mF am (Z.2.1 0) iI)).length = 137 := by simp [iw]
  have hat5 : (iw 115 (cF ad0 Z.2.1 iC) ++ iw 22 (mF am (Z.2.1 0) iI) ++ [(q3, .inl (Z.2.1 4, 1, .inr (.inl (fun _ => 0))))])[137]? = some ((q3, .inl (Z.2.1 4, 1, .inr (.inl (fun _ => 0)))) : Nat × va_E) := by
    rw [List.getElem?_append_right (by omega), hlen]; rfl
  have hq3 : s.heap.size ≤ q3 := hD5.2 137 _ hat5
  have hne3 : ∀ k, k < 115 → ad0 k ≠ q3 := fun k hk e9 => by
    have := hD5.1 k 137 _ _ (by rw [List.getElem?_append_left (by omega), List.getElem?_append_left (by simp [iw]; omega)]; exact iw_at hk) hat5 e9
    omega
  have hne4 : ∀ k, k < 22 → q3 ≠ am k := fun k hk e9 => by
    have := hD5.1 137 (115 + k) _ _ hat5 (by rw [List.getElem?_append_left (by omega), List.getElem?_append_right (by simp [iw])]; rw [show 115 + k - (iw 115 (cF ad0 Z.2.1 iC)).length = k by simp [iw]]; exact iw_at hk) e9
    omega
  have hP5a := va_P_l (va_P_l hP5)
  have hP5b := va_P_r (va_P_l hP5)
  have hP5c := va_P_r hP5
  obtain ⟨ad, had⟩ : ∃ ad : Nat → Nat, ad = fun k => if k < 115 then ad0 k else q3 := ⟨_, rfl⟩
  have e0 : ∀ k, k < 115 → ad k = ad0 k := fun k hk => by rw [had]; exact if_pos hk
  have e1 : ad 115 = q3 := by rw [had]; rfl
  clear had
  refine lv_astore_n (lv' := [(3, .ref q3), (2, .ref q2), (1, .ref q1), (0, .ref b)]) hx hb dL_law_19 rfl hl (by decide) rfl (fun ls hl => ?_)
  refine lv_iconst (v := 0) hx hb dL_law_20 (by decide) ?_
  refine lv_istore (lv' := [(4, .int (nI 0)), (3, .ref q3), (2, .ref q2), (1, .ref q1), (0, .ref b)]) hx hb dL_law_21 hl (by decide) rfl (fun ls hl => ?_)
  refine kk ad am H5 locs4 ls ⟨?_, m1, ?_, hnm, ?_⟩ (w_join (cF_cong e0 hP5a) (by rw [e1]; exact hP5c)) hP5b hS5 (by rw [e1, m2, e0 0 (by decide), j2]; exact hl)
  · intro i j hi hj e9
    by_cases hi5 : i < 115
    · by_cases hj5 : j < 115
      · rw [e0 i hi5, e0 j hj5] at e9; exact j1 i j hi5 hj5 e9
      · rw [e0 i hi5, show j = 115 by omega, e1] at e9; exact absurd e9 (hne3 i hi5)
    · by_cases hj5 : j < 115
      · rw [e0 j hj5, show i = 115 by omega, e1] at e9; exact absurd e9.symm (hne3 j hj5)
      · omega
  · intro k hk
    by_cases hk5 : k < 115
    · rw [e0 k hk5]; exact hn0 k hk5
    · rw [show k = 115 by omega, e1]; exact hq3
  · intro i j hi hj e9
    by_cases hi5 : i < 115
    · rw [e0 i hi5] at e9; exact hne i j hi5 hj e9
    · rw [show i = 115 by omega, e1] at e9; exact hne4 j hj e9
