/-! ===== the class's own constructor, whole ===== -/
theorem arr_ext {cA : ClassId} {n : Nat} {f g : Nat → Value} (h : ∀ i, i < n → f i = g i) : arrV cA n f = arrV cA n g := by
  unfold arrV
  congr 1
  congr 1
  funext j
  exact h j.1 j.2
/-- the class's first state -/
def iC : St := mS1 4
abbrev cI_F (b : Nat) : Nat → Nat × va_E := fun _ => (b, .inr (4, [.null, .null, .null, .null, .int 0, .int 0, .int 0]))
def cI_P (Z : fx_Z) (b sz : Nat) : (Nat → Nat) → Heap → Prop := fun ad H => fx_inj 115 ad ∧ ad 0 = b ∧ (∀ k, 0 < k → k < 115 → sz ≤ ad k) ∧ va_P Z.1 vwCl (iw 115 (cF ad Z.2.1 iC)) H
def cI_ix (k : Nat) : Nat := if k < 65 then k else if k < 85 then 65 + 2 * (k - 65) else if k < 105 then 66 + 2 * (k - 85) else k
theorem cI_ixi {i j : Nat} (hi : i < 115) (hj : j < 115) (h : cI_ix i = cI_ix j) : i = j := by
  unfold cI_ix at h
  split at h <;> split at h <;> (try split at h) <;> (try split at h) <;> (try split at h) <;> (try split at h) <;> omega
theorem cI_fin {Z : fx_Z} {b q1 q2 q3 q4 sz : Nat} {f2 f3 f4 : Nat → Option Nat} {LR LF LT : va_W} {H : Heap}
    (hR : okE (.inr (2, [.int 0, .int 0, .int 0, .int 0, .int 0, .int 0, .int 0, .int 0, .int 0])) LR f2 60) (hF : okF Z LF f3 20) (hT : okE (.inr (3, [.int 0, .int 0, .int 0, .int 0, .int 0])) LT f4 10)
    (hP : va_P Z.1 vwCl (bs Z b q1 q2 q3 q4 (fun j => if j < 4 then 10 else 0) f2 f3 f4 ((LR ++ LF) ++ LT)) H) (hD : va_D (fx_A 1 (fun _ => b) sz) (bs Z b q1 q2 q3 q4 (fun j => if j < 4 then 10 else 0) f2 f3 f4 ((LR ++ LF) ++ LT))) : ∃ ad, cI_P Z b sz ad H := by
  obtain ⟨ad, had⟩ : ∃ ad : Nat → Nat, ad = fun k => if k = 0 then b else if k = 1 then q1 else if k = 2 then q2 else if k = 3 then q3 else if k = 4 then q4 else if k < 65 then (f2 (k - 5)).getD 0 else if k < 85 then (f3 (k - 65)).getD 0 else if k < 105 then ((LF[2 * (k - 85) + 1]?).map Prod.fst).getD 0 else (f4 (k - 105)).getD 0 := ⟨_, rfl⟩
  have a0 : ad 0 = b := by rw [had]; rfl
  have a1 : ad 1 = q1 := by rw [had]; rfl
  have a2 : ad 2 = q2 := by rw [had]; rfl
  have a3 : ad 3 = q3 := by rw [had]; rfl
  have a4 : ad 4 = q4 := by rw [had]; rfl
  have at5 : ∀ k, (bs Z b q1 q2 q3 q4 (fun j => if j < 4 then 10 else 0) f2 f3 f4 ((LR ++ LF) ++ LT))[k + 5]? = ((LR ++ LF) ++ LT)[k]? := fun k => rfl
  have hRl := hR.1
  have hFl := hF.1
  have eR : ∀ i, i < 60 → f2 i = some (ad (5 + i)) ∧ (bs Z b q1 q2 q3 q4 (fun j => if j < 4 then 10 else 0) f2 f3 f4 ((LR ++ LF) ++ LT))[5 + i]? = some (ad (5 + i), .inr (2, [.int 0, .int 0, .int 0, .int 0, .int 0, .int 0, .int 0, .int 0, .int 0])) := by
    intro i hi
    obtain ⟨q, h1, h2⟩ := hR.2 i hi
    have e : ad (5 + i) = q := by
      rw [had]
      show (if 5 + i = 0 then b else if 5 + i = 1 then q1 else if 5 + i = 2 then q2 else if 5 + i = 3 then q3 else if 5 + i = 4 then q4 else if 5 + i < 65 then (f2 (5 + i - 5)).getD 0 else _) = q
      rw [if_neg (by omega), if_neg (by omega), if_neg (by omega), if_neg (by omega), if_neg (by omega), if_pos (by omega), Nat.add_sub_cancel_left, h2]
      rfl
    refine ⟨by rw [e]; exact h2, ?_⟩
    rw [Nat.add_comm 5 i, at5, Nat.add_comm i 5, e, List.append_assoc, List.getElem?_append_left (by omega)]
    exact h1
  have eF : ∀ i, i < 20 → f3 i = some (ad (65 + i)) ∧ (bs Z b q1 q2 q3 q4 (fun j => if j < 4 then 10 else 0) f2 f3 f4 ((LR ++ LF) ++ LT))[65 + 2 * i]? = some (ad (65 + i), .inr (1, [.int 0, .int 0, .ref (ad (85 + i))])) ∧ (bs Z b q1 q2 q3 q4 (fun j => if j < 4 then 10 else 0) f2 f3 f4 ((LR ++ LF) ++ LT))[66 + 2 * i]? = some (ad (85 + i), .inl (Z.2.1 0, 10, .inl (fun _ => 0))) := by
    intro i hi
    obtain ⟨q, v, h1, h2, h3⟩ := hF.2 i hi
    have e : ad (65 + i) = q := by
      rw [had]
      show (if 65 + i = 0 then b else if 65 + i = 1 then q1 else if 65 + i = 2 then q2 else if 65 + i = 3 then q3 else if 65 + i = 4 then q4 else if 65 + i < 65 then (f2 (65 + i - 5)).getD 0 else if 65 + i < 85 then (f3 (65 + i - 65)).getD 0 else _) = q
      rw [if_neg (by omega), if_neg (by omega), if_neg (by omega), if_neg (by omega), if_neg (by omega), if_neg (by omega), if_pos (by omega), Nat.add_sub_cancel_left, h3]
      rfl
    have e2 : ad (85 + i) = v := by
      rw [had]
      show (if 85 + i = 0 then b else if 85 + i = 1 then q1 else if 85 + i = 2 then q2 else if 85 + i = 3 then q3 else if 85 + i = 4 then q4 else if 85 + i < 65 then (f2 (85 + i - 5)).getD 0 else if 85 + i < 85 then (f3 (85 + i - 65)).getD 0 else if 85 + i < 105 then ((LF[2 * (85 + i - 85) + 1]?).map Prod.fst).getD 0 else _) = v
      rw [if_neg (by omega), if_neg (by omega), if_neg (by omega), if_neg (by omega), if_neg (by omega), if_neg (by omega), if_neg (by omega), if_pos (by omega), Nat.add_sub_cancel_left, h2]
      rfl
    refine ⟨by rw [e]; exact h3, ?_, ?_⟩
    · rw [show 65 + 2 * i = (60 + 2 * i) + 5 by omega, at5, e, e2, List.getElem?_append_left (by rw [List.length_append]; omega), List.getElem?_append_right (by omega), hRl, show 60 + 2 * i - 60 = 2 * i by omega]
      exact h1
    · rw [show 66 + 2 * i = (61 + 2 * i) + 5 by omega, at5, e2, List.getElem?_append_left (by rw [List.length_append]; omega), List.getElem?_append_right (by omega), hRl, show 61 + 2 * i - 60 = 2 * i + 1 by omega]
      exact h2
  have eT : ∀ i, i < 10 → f4 i = some (ad (105 + i)) ∧ (bs Z b q1 q2 q3 q4 (fun j => if j < 4 then 10 else 0) f2 f3 f4 ((LR ++ LF) ++ LT))[105 + i]? = some (ad (105 + i), .inr (3, [.int 0, .int 0, .int 0, .int 0, .int 0])) := by
    intro i hi
    obtain ⟨q, h1, h2⟩ := hT.2 i hi
    have e : ad (105 + i) = q := by
      rw [had]
      show (if 105 + i = 0 then b else if 105 + i = 1 then q1 else if 105 + i = 2 then q2 else if 105 + i = 3 then q3 else if 105 + i = 4 then q4 else if 105 + i < 65 then (f2 (105 + i - 5)).getD 0 else if 105 + i < 85 then (f3 (105 + i - 65)).getD 0 else if 105 + i < 105 then ((LF[2 * (105 + i - 85) + 1]?).map Prod.fst).getD 0 else (f4 (105 + i - 105)).getD 0) = q
      rw [if_neg (by omega), if_neg (by omega), if_neg (by omega), if_neg (by omega), if_neg (by omega), if_neg (by omega), if_neg (by omega), if_neg (by omega), Nat.add_sub_cancel_left, h2]
      rfl
    refine ⟨by rw [e]; exact h2, ?_⟩
    rw [show 105 + i = (100 + i) + 5 by omega, at5, show (100 + i) + 5 = 105 + i by omega, e, List.getElem?_append_right (by rw [List.length_append]; omega), List.length_append, hRl, hFl, show 100 + i - (60 + 2 * 20) = i by omega]
    exact h1
  clear had
  have hc1 : iC 1 = (fun j => if j < 4 then 10 else 0) := by funext j; simp [iC, mS1]
  have hc0 : ∀ k j, k ≠ 1 → iC k j = 0 := fun k j hk => by simp [iC, mS1, hk]
  have all : ∀ k, k < 115 → ∃ x, (bs Z b q1 q2 q3 q4 (fun j => if j < 4 then 10 else 0) f2 f3 f4 ((LR ++ LF) ++ LT))[cI_ix k]? = some (ad k, x) ∧ (va_at Z.1 vwCl (ad k, x) H → va_at Z.1 vwCl (cF ad Z.2.1 iC k) H) := by
    intro k hk
    by_cases k0 : k = 0
    · subst k0
      refine ⟨_, by rw [a0]; rfl, fun h => ?_⟩
      show va_at Z.1 vwCl (ad 0, ct0 ad iC) H
      rw [ct0, a1, a2, a3, a4, hc0 0 _ (by decide), hc0 0 _ (by decide), hc0 0 _ (by decide)]
      exact h
    by_cases k1 : k = 1
    · subst k1
      refine ⟨_, by rw [a1]; rfl, fun h => ?_⟩
      show va_at Z.1 vwCl (ad 1, ct ad Z.2.1 iC 1) H
      rw [ct_1, hc1]
      exact h
    by_cases k2 : k = 2
    · subst k2
      refine ⟨_, by rw [a2]; rfl, fun h => ?_⟩
      show H[ad 2]? = some (arrV (Z.2.1 1) 60 (fun j => va_rf (some (ad (5 + j)))))
      rw [arr_ext (g := fun j => va_rf (f2 j)) (fun i hi => by rw [(eR i hi).1])]
      exact h
    by_cases k3 : k = 3
    · subst k3
      refine ⟨_, by rw [a3]; rfl, fun h => ?_⟩
      show H[ad 3]? = some (arrV (Z.2.1 2) 20 (fun j => va_rf (some (ad (65 + j)))))
      rw [arr_ext (g := fun j => va_rf (f3 j)) (fun i hi => by rw [(eF i hi).1])]
      exact h
    by_cases k4 : k = 4
    · subst k4
      refine ⟨_, by rw [a4]; rfl, fun h => ?_⟩
      show H[ad 4]? = some (arrV (Z.2.1 3) 10 (fun j => va_rf (some (ad (105 + j)))))
      rw [arr_ext (g := fun j => va_rf (f4 j)) (fun i hi => by rw [(eT i hi).1])]
      exact h
    by_cases k5 : k < 65
    · obtain ⟨i, rfl⟩ : ∃ i, k = 5 + i := ⟨k - 5, by omega⟩
      refine ⟨_, by rw [show cI_ix (5 + i) = 5 + i from if_pos k5]; exact (eR i (by omega)).2, fun h => ?_⟩
      show va_at Z.1 vwCl (ad (5 + i), ct ad Z.2.1 iC (5 + i)) H
      rw [ct_R (by omega), ctR]
      simp only [hc0 _ _ (show (2 : Nat) ≠ 1 by decide), hc0 _ _ (show (3 : Nat) ≠ 1 by decide), hc0 _ _ (show (4 : Nat) ≠ 1 by decide), hc0 _ _ (show (5 : Nat) ≠ 1 by decide), hc0 _ _ (show (6 : Nat) ≠ 1 by decide), hc0 _ _ (show (7 : Nat) ≠ 1 by decide), hc0 _ _ (show (8 : Nat) ≠ 1 by decide), hc0 _ _ (show (9 : Nat) ≠ 1 by decide), hc0 _ _ (show (10 : Nat) ≠ 1 by decide)]
      exact h
    by_cases k6 : k < 85
    · obtain ⟨i, rfl⟩ : ∃ i, k = 65 + i := ⟨k - 65, by omega⟩
      refine ⟨_, by rw [show cI_ix (65 + i) = 65 + 2 * i by unfold cI_ix; rw [if_neg k5, if_pos k6, Nat.add_sub_cancel_left]]; exact (eF i (by omega)).2.1, fun h => ?_⟩
      show va_at Z.1 vwCl (ad (65 + i), ct ad Z.2.1 iC (65 + i)) H
      rw [ct_F (by omega), ctF, hc0 11 _ (by decide), hc0 12 _ (by decide)]
      exact h
    by_cases k7 : k < 105
    · obtain ⟨i, rfl⟩ : ∃ i, k = 85 + i := ⟨k - 85, by omega⟩
      refine ⟨_, by rw [show cI_ix (85 + i) = 66 + 2 * i by unfold cI_ix; rw [if_neg k5, if_neg k6, if_pos k7, Nat.add_sub_cancel_left]]; exact (eF i (by omega)).2.2, fun h => ?_⟩
      show va_at Z.1 vwCl (ad (85 + i), ct ad Z.2.1 iC (85 + i)) H
      rw [ct_P (by omega), show iC (30 + i) = fun _ => 0 from funext fun j => hc0 _ j (by omega)]
      exact h
    · obtain ⟨i, rfl⟩ : ∃ i, k = 105 + i := ⟨k - 105, by omega⟩
      refine ⟨_, by rw [show cI_ix (105 + i) = 105 + i by unfold cI_ix; rw [if_neg k5, if_neg k6, if_neg k7]]; exact (eT i (by omega)).2, fun h => ?_⟩
      show va_at Z.1 vwCl (ad (105 + i), ct ad Z.2.1 iC (105 + i)) H
      rw [ct_T, ctT, hc0 20 _ (by decide), hc0 19 _ (by decide), hc0 18 _ (by decide), hc0 17 _ (by decide), hc0 16 _ (by decide)]
      exact h
  have hDi : ∀ i j, i < 115 → j < 115 → ad i = ad j → i = j := by
    intro i j hi hj e
    obtain ⟨x, h1, -⟩ := all i hi
    obtain ⟨y, h2, -⟩ := all j hj
    exact cI_ixi hi hj (hD.1 _ _ _ _ h1 h2 e)
  refine ⟨ad, hDi, a0, fun k hk0 hk => ?_, fun k q hq => ?_⟩
  · obtain ⟨x, h1, -⟩ := all k hk
    rcases hD.2 _ _ h1 with ⟨j, hj, e⟩ | h
    · have := hDi 0 k (by omega) hk (a0.trans e)
      omega
    · exact h
  · obtain ⟨hk, rfl⟩ := iw_lt hq
    obtain ⟨x, h1, h2⟩ := all k hk
    exact h2 (hP _ _ h1)
set_option maxHeartbeats 8000000 in
set_option maxRecDepth 100000 in
theorem c_X3_init (l : Launch) (Z : fx_Z) (b : Nat) : fi_C l Z yX3_init cX3_init 2 2 32 114 944 1 (fun _ => b) (cI_F b) [.ref b] (cI_P Z b) := by
  intro sz
  refine va_MetF (cc := cX3_init) (maxL := 2) (ret := none) (by decide +kernel) rfl ?_
  intro p e s m args below meth c s₁ B hml hv
  obtain ⟨rfl, hsz, hP, hE, hSt⟩ := hv
  subst hsz
  have hx := B.exec
  have hb := B.bytes
  have hr := B.returns
  have hown : s.vm.findClass RX3 = some m.cls := findClass_of_methodNamed B.named
  have hlocks := B.notSynchronized
  have hT : ∀ w ∈ fx_ws, w.before ([.ref b] : List Value).toArray s = true := fun w hw => atoms_spec (ws := fx_l yX3_init cX3_init 2 none) B.pre w (List.mem_cons_of_mem _ hw)
  have hS : va_S (fx_A 1 (fun _ => b) s.heap.size) s.heap s.heap [] := va_S.rf
  have hl := lv_entry ([.ref b]) (n := 2) (Nat.le_of_ble_eq_true rfl)
  rw [lg_entry_eq]
  generalize (lg_sl ([.ref b]) ++ List.replicate (2 - (lg_sl ([.ref b])).length) Slot.unset).toArray = ls at hl ⊢
  have hin : meth.name = "<init>" := (name_of_methodNamed B.named B.method).1
  have hl : lv_has ls 2 [(0, .ref b)] := hl
  have hP : va_P Z.1 vwCl [(b, .inr (4, [.null, .null, .null, .null, .int 0, .int 0, .int 0]))] s.heap := hP
  have hD : va_D (fx_A 1 (fun _ => b) s.heap.size) [(b, .inr (4, [.null, .null, .null, .null, .int 0, .int 0, .int 0]))] := fx_D (N := 1) (F := cI_F b) (ad := fun _ => b) (fun i j hi hj _ => by omega) (fun _ _ => rfl) (fun k hk => Or.inl ⟨k, hk, rfl⟩)
  have hA : ∀ q, s.heap.size ≤ q → fx_A 1 (fun _ => b) s.heap.size q := fun q h => Or.inr h
  have K : x_K p s m c Z b := ⟨hx, hb, hml, hown, hT, hE, hSt⟩
  refine lv_aload_n hx hb dX3_init_0 rfl (lv_at hl 0 rfl) ?_
  refine W.objInit hx hb hown (hT (.methodLink RX3 1 objectInit) (fx_w 64 (by decide +kernel) rfl)) (hT (.instanceMethod objectInit) (fx_w 65 (by decide +kernel) rfl)) (hT _ (fx_w 66 (by decide +kernel) rfl)) rfl (by rw [hml]; exact hl.1) rfl dX3_init_1 (Nat.le_of_ble_eq_true rfl) (Nat.le_of_ble_eq_true rfl) ?_
  refine W.eq (g2 := F0 m 4 ls []) rfl ?_
  refine lv_aload_n hx hb dX3_init_4 rfl (lv_at hl 0 rfl) ?_
  refine lv_iconst (v := 4) hx hb dX3_init_5 (by decide) ?_
  refine va_newa (atype := .int) hx hb (va_ac hE fx_wcI) (ty := .int) rfl hE.1 hP hD hS hA (N' := 4) (a0 := (4, .inl (fun _ => 0))) (fun _ => rfl) (by decide) (by decide) (by decide) (Nat.le_of_ble_eq_true rfl) (Nat.le_of_ble_eq_true rfl) dX3_init_6 (fun q1 cA H hK1 hP hD hS => ?_)
  have hcA := fx_tyI hK1
  subst hcA
  clear hK1
  have hP : va_P Z.1 vwCl [(b, .inr (4, [.null, .null, .null, .null, .int 0, .int 0, .int 0])), (q1, .inl (Z.2.1 0, 4, .inl (fun _ => 0)))] H := hP
  have hD : va_D (fx_A 1 (fun _ => b) s.heap.size) [(b, .inr (4, [.null, .null, .null, .null, .int 0, .int 0, .int 0])), (q1, .inl (Z.2.1 0, 4, .inl (fun _ => 0)))] := hD
  refine va_putF (D := Z.1) (ci := 4) (v := .ref q1) (ty := .array .int) (C := RX3) (T := TX3) (N := 7) (ref := "Ferrytax") hx hb hT i_X3 tyX3 tyX3_ok nmX3 hown hE.1 hP hD hS 0 rfl rfl 0 (by decide) (hT (.fieldLink RX3 9 "Ferrytax" "rates" "[I") (fx_w 144 (by decide +kernel) rfl)) (fun _ h9 => h9) rfl hin rfl (by decide +kernel) rfl rfl (Nat.le_of_ble_eq_true rfl) dX3_init_8 (fun H locs hP hD hS => ?_)
  have hP : va_P Z.1 vwCl [(b, .inr (4, [.ref q1, .null, .null, .null, .int 0, .int 0, .int 0])), (q1, .inl (Z.2.1 0, 4, .inl (fun _ => 0)))] H := hP
  have hD : va_D (fx_A 1 (fun _ => b) s.heap.size) [(b, .inr (4, [.ref q1, .null, .null, .null, .int 0, .int 0, .int 0])), (q1, .inl (Z.2.1 0, 4, .inl (fun _ => 0)))] := hD
  refine lv_aload_n hx hb dX3_init_11 rfl (lv_at hl 0 rfl) ?_
  refine lv_bipush (v := 60) hx hb dX3_init_12 (by decide) ?_
  refine va_newq (n := 60) hx hb hown (hT (.classLink RX3 13 RX1) (fx_w 67 (by decide +kernel) rfl)) (hE.2.2.1 (.arrayOver (.object RX1)) (List.mem_append_right _ (List.mem_of_getElem? (i := 3) rfl))) hE.1 hP hD hS hA (N' := 60) (by decide) (by decide) (by decide) (Nat.le_of_ble_eq_true rfl) (Nat.le_of_ble_eq_true rfl) dX3_init_14 (fun q2 cA H hK1 hP hD hS => ?_)
  have hcA := fx_tyO 1 rfl hK1
  subst hcA
  clear hK1
  have hP : va_P Z.1 vwCl [(b, .inr (4, [.ref q1, .null, .null, .null, .int 0, .int 0, .int 0])), (q1, .inl (Z.2.1 0, 4, .inl (fun _ => 0))), (q2, .inl (Z.2.1 1, 60, .inr (.inr (.inr (.inr (fun _ => none))))))] H := hP
  have hD : va_D (fx_A 1 (fun _ => b) s.heap.size) [(b, .inr (4, [.ref q1, .null, .null, .null, .int 0, .int 0, .int 0])), (q1, .inl (Z.2.1 0, 4, .inl (fun _ => 0))), (q2, .inl (Z.2.1 1, 60, .inr (.inr (.inr (.inr (fun _ => none))))))] := hD
  refine va_putF (D := Z.1) (ci := 4) (v := .ref q2) (ty := .array (.object RX1)) (C := RX3) (T := TX3) (N := 7) (ref := "Ferrytax") hx hb hT i_X3 tyX3 tyX3_ok nmX3 hown hE.1 hP hD hS 0 rfl rfl 1 (by decide) (hT (.fieldLink RX3 15 "Ferrytax" "receipts" "[LFerrytax$Receipt;") (fx_w 145 (by decide +kernel) rfl)) (fun _ h9 => h9) rfl hin rfl (by decide +kernel) rfl rfl (Nat.le_of_ble_eq_true rfl) dX3_init_17 (fun H locs hP hD hS => ?_)
  have hP : va_P Z.1 vwCl [(b, .inr (4, [.ref q1, .ref q2, .null, .null, .int 0, .int 0, .int 0])), (q1, .inl (Z.2.1 0, 4, .inl (fun _ => 0))), (q2, .inl (Z.2.1 1, 60, .inr (.inr (.inr (.inr (fun _ => none))))))] H := hP
  have hD : va_D (fx_A 1 (fun _ => b) s.heap.size) [(b, .inr (4, [.ref q1, .ref q2, .null, .null, .int 0, .int 0, .int 0])), (q1, .inl (Z.2.1 0, 4, .inl (fun _ => 0))), (q2, .inl (Z.2.1 1, 60, .inr (.inr (.inr (.inr (fun _ => none))))))] := hD
  refine lv_aload_n hx hb dX3_init_20 rfl (lv_at hl 0 rfl) ?_
  refine lv_bipush (v := 20) hx hb dX3_init_21 (by decide) ?_
  refine va_newq (n := 20) hx hb hown (hT (.classLink RX3 19 RX0) (fx_w 69 (by decide +kernel) rfl)) (hE.2.2.1 (.arrayOver (.object RX0)) (List.mem_append_right _ (List.mem_of_getElem? (i := 4) rfl))) hE.1 hP hD hS hA (N' := 20) (by decide) (by decide) (by decide) (Nat.le_of_ble_eq_true rfl) (Nat.le_of_ble_eq_true rfl) dX3_init_23 (fun q3 cA H hK1 hP hD hS => ?_)
  have hcA := fx_tyO 2 rfl hK1
  subst hcA
  clear hK1
  have hP : va_P Z.1 vwCl [(b, .inr (4, [.ref q1, .ref q2, .null, .null, .int 0, .int 0, .int 0])), (q1, .inl (Z.2.1 0, 4, .inl (fun _ => 0))), (q2, .inl (Z.2.1 1, 60, .inr (.inr (.inr (.inr (fun _ => none)))))), (q3, .inl (Z.2.1 2, 20, .inr (.inr (.inr (.inr (fun _ => none))))))] H := hP
  have hD : va_D (fx_A 1 (fun _ => b) s.heap.size) [(b, .inr (4, [.ref q1, .ref q2, .null, .null, .int 0, .int 0, .int 0])), (q1, .inl (Z.2.1 0, 4, .inl (fun _ => 0))), (q2, .inl (Z.2.1 1, 60, .inr (.inr (.inr (.inr (fun _ => none)))))), (q3, .inl (Z.2.1 2, 20, .inr (.inr (.inr (.inr (fun _ => none))))))] := hD
  refine va_putF (D := Z.1) (ci := 4) (v := .ref q3) (ty := .array (.object RX0)) (C := RX3) (T := TX3) (N := 7) (ref := "Ferrytax") hx hb hT i_X3 tyX3 tyX3_ok nmX3 hown hE.1 hP hD hS 0 rfl rfl 2 (by decide) (hT (.fieldLink RX3 21 "Ferrytax" "ferries" "[LFerrytax$Ferry;") (fx_w 146 (by decide +kernel) rfl)) (fun _ h9 => h9) rfl hin rfl (by decide +kernel) rfl rfl (Nat.le_of_ble_eq_true rfl) dX3_init_26 (fun H locs hP hD hS => ?_)
  have hP : va_P Z.1 vwCl [(b, .inr (4, [.ref q1, .ref q2, .ref q3, .null, .int 0, .int 0, .int 0])), (q1, .inl (Z.2.1 0, 4, .inl (fun _ => 0))), (q2, .inl (Z.2.1 1, 60, .inr (.inr (.inr (.inr (fun _ => none)))))), (q3, .inl (Z.2.1 2, 20, .inr (.inr (.inr (.inr (fun _ => none))))))] H := hP
  have hD : va_D (fx_A 1 (fun _ => b) s.heap.size) [(b, .inr (4, [.ref q1, .ref q2, .ref q3, .null, .int 0, .int 0, .int 0])), (q1, .inl (Z.2.1 0, 4, .inl (fun _ => 0))), (q2, .inl (Z.2.1 1, 60, .inr (.inr (.inr (.inr (fun _ => none)))))), (q3, .inl (Z.2.1 2, 20, .inr (.inr (.inr (.inr (fun _ => none))))))] := hD
  refine lv_aload_n hx hb dX3_init_29 rfl (lv_at hl 0 rfl) ?_
  refine lv_bipush (v := 10) hx hb dX3_init_30 (by decide) ?_
  refine va_newq (n := 10) hx hb hown (hT (.classLink RX3 25 RX2) (fx_w 71 (by decide +kernel) rfl)) (hE.2.2.1 (.arrayOver (.object RX2)) (List.mem_append_right _ (List.mem_of_getElem? (i := 5) rfl))) hE.1 hP hD hS hA (N' := 10) (by decide) (by decide) (by decide) (Nat.le_of_ble_eq_true rfl) (Nat.le_of_ble_eq_true rfl) dX3_init_32 (fun q4 cA H hK1 hP hD hS => ?_)
  have hcA := fx_tyO 3 rfl hK1
  subst hcA
  clear hK1
  have hP : va_P Z.1 vwCl [(b, .inr (4, [.ref q1, .ref q2, .ref q3, .null, .int 0, .int 0, .int 0])), (q1, .inl (Z.2.1 0, 4, .inl (fun _ => 0))), (q2, .inl (Z.2.1 1, 60, .inr (.inr (.inr (.inr (fun _ => none)))))), (q3, .inl (Z.2.1 2, 20, .inr (.inr (.inr (.inr (fun _ => none)))))), (q4, .inl (Z.2.1 3, 10, .inr (.inr (.inr (.inr (fun _ => none))))))] H := hP
  have hD : va_D (fx_A 1 (fun _ => b) s.heap.size) [(b, .inr (4, [.ref q1, .ref q2, .ref q3, .null, .int 0, .int 0, .int 0])), (q1, .inl (Z.2.1 0, 4, .inl (fun _ => 0))), (q2, .inl (Z.2.1 1, 60, .inr (.inr (.inr (.inr (fun _ => none)))))), (q3, .inl (Z.2.1 2, 20, .inr (.inr (.inr (.inr (fun _ => none)))))), (q4, .inl (Z.2.1 3, 10, .inr (.inr (.inr (.inr (fun _ => none))))))] := hD
  refine va_putF (D := Z.1) (ci := 4) (v := .ref q4) (ty := .array (.object RX2)) (C := RX3) (T := TX3) (N := 7) (ref := "Ferrytax") hx hb hT i_X3 tyX3 tyX3_ok nmX3 hown hE.1 hP hD hS 0 rfl rfl 3 (by decide) (hT (.fieldLink RX3 27 "Ferrytax" "travellers" "[LFerrytax$Traveller;") (fx_w 147 (by decide +kernel) rfl)) (fun _ h9 => h9) rfl hin rfl (by decide +kernel) rfl rfl (Nat.le_of_ble_eq_true rfl) dX3_init_35 (fun H locs hP hD hS => ?_)
  have hP : va_P Z.1 vwCl [(b, .inr (4, [.ref q1, .ref q2, .ref q3, .ref q4, .int 0, .int 0, .int 0])), (q1, .inl (Z.2.1 0, 4, .inl (fun _ => 0))), (q2, .inl (Z.2.1 1, 60, .inr (.inr (.inr (.inr (fun _ => none)))))), (q3, .inl (Z.2.1 2, 20, .inr (.inr (.inr (.inr (fun _ => none)))))), (q4, .inl (Z.2.1 3, 10, .inr (.inr (.inr (.inr (fun _ => none))))))] H := hP
  have hD : va_D (fx_A 1 (fun _ => b) s.heap.size) [(b, .inr (4, [.ref q1, .ref q2, .ref q3, .ref q4, .int 0, .int 0, .int 0])), (q1, .inl (Z.2.1 0, 4, .inl (fun _ => 0))), (q2, .inl (Z.2.1 1, 60, .inr (.inr (.inr (.inr (fun _ => none)))))), (q3, .inl (Z.2.1 2, 20, .inr (.inr (.inr (.inr (fun _ => none)))))), (q4, .inl (Z.2.1 3, 10, .inr (.inr (.inr (.inr (fun _ => none))))))] := hD
  refine lv_aload_n hx hb dX3_init_38 rfl (lv_at hl 0 rfl) ?_
  refine lv_iconst (v := 0) hx hb dX3_init_39 (by decide) ?_
  refine va_put (D := Z.1) (ci := 4) (v := .int 0) (ty := .int) (C := RX3) (T := TX3) (N := 7) (ref := "Ferrytax") hx hb hT i_X3 tyX3 tyX3_ok nmX3 hown hE.1 hP hD hS 0 rfl rfl 4 (by decide) (hT (.fieldLink RX3 31 "Ferrytax" "receiptCount" "I") (fx_w 148 (by decide +kernel) rfl)) (fun _ h9 => h9) rfl (by decide +kernel) rfl rfl (Nat.le_of_ble_eq_true rfl) dX3_init_40 fun H locs hP hD hS => ?_
  have hP : va_P Z.1 vwCl [(b, .inr (4, [.ref q1, .ref q2, .ref q3, .ref q4, .int 0, .int 0, .int 0])), (q1, .inl (Z.2.1 0, 4, .inl (fun _ => 0))), (q2, .inl (Z.2.1 1, 60, .inr (.inr (.inr (.inr (fun _ => none)))))), (q3, .inl (Z.2.1 2, 20, .inr (.inr (.inr (.inr (fun _ => none)))))), (q4, .inl (Z.2.1 3, 10, .inr (.inr (.inr (.inr (fun _ => none))))))] H := hP
  have hD : va_D (fx_A 1 (fun _ => b) s.heap.size) [(b, .inr (4, [.ref q1, .ref q2, .ref q3, .ref q4, .int 0, .int 0, .int 0])), (q1, .inl (Z.2.1 0, 4, .inl (fun _ => 0))), (q2, .inl (Z.2.1 1, 60, .inr (.inr (.inr (.inr (fun _ => none)))))), (q3, .inl (Z.2.1 2, 20, .inr (.inr (.inr (.inr (fun _ => none)))))), (q4, .inl (Z.2.1 3, 10, .inr (.inr (.inr (.inr (fun _ => none))))))] := hD
  refine lv_aload_n hx hb dX3_init_43 rfl (lv_at hl 0 rfl) ?_
  refine lv_iconst (v := 0) hx hb dX3_init_44 (by decide) ?_
  refine va_put (D := Z.1) (ci := 4) (v := .int 0) (ty := .int) (C := RX3) (T := TX3) (N := 7) (ref := "Ferrytax") hx hb hT i_X3 tyX3 tyX3_ok nmX3 hown hE.1 hP hD hS 0 rfl rfl 5 (by decide) (hT (.fieldLink RX3 35 "Ferrytax" "ferryCount" "I") (fx_w 149 (by decide +kernel) rfl)) (fun _ h9 => h9) rfl (by decide +kernel) rfl rfl (Nat.le_of_ble_eq_true rfl) dX3_init_45 fun H locs hP hD hS => ?_
  have hP : va_P Z.1 vwCl [(b, .inr (4, [.ref q1, .ref q2, .ref q3, .ref q4, .int 0, .int 0, .int 0])), (q1, .inl (Z.2.1 0, 4, .inl (fun _ => 0))), (q2, .inl (Z.2.1 1, 60, .inr (.inr (.inr (.inr (fun _ => none)))))), (q3, .inl (Z.2.1 2, 20, .inr (.inr (.inr (.inr (fun _ => none)))))), (q4, .inl (Z.2.1 3, 10, .inr (.inr (.inr (.inr (fun _ => none))))))] H := hP
  have hD : va_D (fx_A 1 (fun _ => b) s.heap.size) [(b, .inr (4, [.ref q1, .ref q2, .ref q3, .ref q4, .int 0, .int 0, .int 0])), (q1, .inl (Z.2.1 0, 4, .inl (fun _ => 0))), (q2, .inl (Z.2.1 1, 60, .inr (.inr (.inr (.inr (fun _ => none)))))), (q3, .inl (Z.2.1 2, 20, .inr (.inr (.inr (.inr (fun _ => none)))))), (q4, .inl (Z.2.1 3, 10, .inr (.inr (.inr (.inr (fun _ => none))))))] := hD
  refine lv_aload_n hx hb dX3_init_48 rfl (lv_at hl 0 rfl) ?_
  refine lv_iconst (v := 0) hx hb dX3_init_49 (by decide) ?_
  refine va_put (D := Z.1) (ci := 4) (v := .int 0) (ty := .int) (C := RX3) (T := TX3) (N := 7) (ref := "Ferrytax") hx hb hT i_X3 tyX3 tyX3_ok nmX3 hown hE.1 hP hD hS 0 rfl rfl 6 (by decide) (hT (.fieldLink RX3 38 "Ferrytax" "now" "I") (fx_w 150 (by decide +kernel) rfl)) (fun _ h9 => h9) rfl (by decide +kernel) rfl rfl (Nat.le_of_ble_eq_true rfl) dX3_init_50 fun H locs hP hD hS => ?_
  have hP : va_P Z.1 vwCl [(b, .inr (4, [.ref q1, .ref q2, .ref q3, .ref q4, .int 0, .int 0, .int 0])), (q1, .inl (Z.2.1 0, 4, .inl (fun _ => 0))), (q2, .inl (Z.2.1 1, 60, .inr (.inr (.inr (.inr (fun _ => none)))))), (q3, .inl (Z.2.1 2, 20, .inr (.inr (.inr (.inr (fun _ => none)))))), (q4, .inl (Z.2.1 3, 10, .inr (.inr (.inr (.inr (fun _ => none))))))] H := hP
  have hD : va_D (fx_A 1 (fun _ => b) s.heap.size) [(b, .inr (4, [.ref q1, .ref q2, .ref q3, .ref q4, .int 0, .int 0, .int 0])), (q1, .inl (Z.2.1 0, 4, .inl (fun _ => 0))), (q2, .inl (Z.2.1 1, 60, .inr (.inr (.inr (.inr (fun _ => none)))))), (q3, .inl (Z.2.1 2, 20, .inr (.inr (.inr (.inr (fun _ => none)))))), (q4, .inl (Z.2.1 3, 10, .inr (.inr (.inr (.inr (fun _ => none))))))] := hD
  refine lv_iconst (v := 0) hx hb dX3_init_53 (by decide) ?_
  refine lv_istore_n (lv' := [(1, .int (nI 0)), (0, .ref b)]) hx hb dX3_init_54 rfl hl (by decide) rfl (fun ls hl => ?_)
  have hz : (fun j : Nat => if j < 0 then (10 : Int32) else 0) = fun _ => 0 := by funext j; simp
  refine x3_1 (q1 := q1) (q2 := q2) (q3 := q3) (q4 := q4) K (fun H locs ls hP hD hS hl => ?_) 4 0 (by omega) H locs ls (by rw [hz]; exact hP) (by rw [hz]; exact hD) hS hl
  refine lv_iconst (v := 0) hx hb dX3_init_74 (by decide) ?_
  refine lv_istore_n (lv' := [(1, .int (nI 0)), (0, .ref b)]) hx hb dX3_init_75 rfl hl (by decide) rfl (fun ls hl => ?_)
  refine x3_R [] K (fun LR f2 H locs ls hoR hP hD hS hl => ?_) 60 0 (by omega) [] (fun _ => none) H locs ls okE_0 hP hD hS hl
  refine lv_iconst (v := 0) hx hb dX3_init_101 (by decide) ?_
  refine lv_istore_n (lv' := [(1, .int (nI 0)), (0, .ref b)]) hx hb dX3_init_102 rfl hl (by decide) rfl (fun ls hl => ?_)
  refine x3_F ([] ++ LR) f2 K (fun LF f3 H locs ls hoF hP hD hS hl => ?_) 20 0 (by omega) [] (fun _ => none) H locs ls okF_0 (by rw [List.append_nil]; exact hP) (by rw [List.append_nil]; exact hD) hS hl
  refine lv_iconst (v := 0) hx hb dX3_init_128 (by decide) ?_
  refine lv_istore_n (lv' := [(1, .int (nI 0)), (0, .ref b)]) hx hb dX3_init_129 rfl hl (by decide) rfl (fun ls hl => ?_)
  refine x3_T ([] ++ LR ++ LF) f2 f3 K (fun LT f4 H locs ls hoT hP hD hS hl => ?_) 10 0 (by omega) [] (fun _ => none) H locs ls okE_0 (by rw [List.append_nil]; exact hP) (by rw [List.append_nil]; exact hD) hS hl
  rw [List.nil_append] at hP hD
  obtain ⟨ad, hfin⟩ := cI_fin hoR hoF hoT hP hD
  exact fi_ret (P0 := cI_P Z b s.heap.size) ad hx hb hr hlocks hS (Nat.le_of_ble_eq_true rfl) (Nat.le_of_ble_eq_true rfl) dX3_init_155 hfin
