/-! ===== more of the model ===== -/
theorem isF_t {x : Int32} {fc i : Nat} (h : x = nI fc) (h6 : fc ≤ 20) (hi : i < fc) : (0 : Int32) ≤ nI i ∧ nI i ≤ x - 1 := isR_t h (by omega) hi
theorem isF_f {x r : Int32} {fc : Nat} (h : x = nI fc) (h6 : fc ≤ 20) (hr : bad r fc) : ¬ ((0 : Int32) ≤ r ∧ r ≤ x - 1) := isR_f h (by omega) hr
theorem nbad2 {x t f : Int32} {fc : Nat} (h : x = nI fc) (h6 : fc ≤ 20) (h1 : 0 ≤ t ∧ t ≤ 9) (h2 : 0 ≤ f ∧ f ≤ x - 1) : ¬ (bad t 10 ∨ bad f fc) := by
  rintro (h9 | h9)
  · exact nix9 h9 h1
  · exact isF_f h h6 h9 h2
theorem nbadS {x y r f : Int32} {rc fc : Nat} (h : x = nI rc) (h6 : rc ≤ 60) (k : y = nI fc) (k6 : fc ≤ 20) (h1 : 0 ≤ r ∧ r ≤ x - 1) (h2 : 0 ≤ f ∧ f ≤ y - 1) : ¬ (bad r rc ∨ bad f fc) := by
  rintro (h9 | h9)
  · exact isR_f h h6 h9 h1
  · exact isF_f k k6 h9 h2
/-- what a shop owes, of the first receipts -/
def dbt (h : St) (a : Nat) : Nat → Int32
  | 0 => 0
  | n + 1 => dbt h a n + (if h 2 n = nI a ∧ ¬ h 7 n = 4 then h 5 n else 0)
/-- the model's seat bit -/
abbrev mS (h : St) (f t : Nat) : Prop := (h 13 f >>> (nI t &&& 31)) &&& 1 = 1
def ml (h : St) (f : Nat) : Nat → Int32
  | 0 => h 12 f
  | n + 1 => ml h f n - (if mS h f n then 1 else 0)
def cAb (h : St) (f : Nat) : Nat → Int32
  | 0 => 0
  | n + 1 => cAb h f n + (if h 15 n = nI f then 1 else 0)
/-- a receipt's stamp holds for a ferry -/
abbrev stF (h : St) (t f n : Nat) : Prop := h 7 n = 1 ∧ h 8 n = nI f ∧ h 3 n = nI t
def cRo (h : St) (t f n : Nat) : St := fun k i => if i < n ∧ stF h t f i ∧ (k = 7 ∨ k = 8) then (if k = 7 then 0 else -1) else h k i
def nRo (h : St) (t f : Nat) : Nat → Nat
  | 0 => 0
  | n + 1 => nRo h t f n + (if stF h t f n then 1 else 0)
theorem cRo_0 (h : St) (t f : Nat) : cRo h t f 0 = h := by
  funext k i
  simp [cRo]
theorem cRo_at (h : St) (t f n k : Nat) : cRo h t f n k n = h k n := by simp [cRo]
theorem cRo_k {h : St} {t f n k : Nat} (h1 : k ≠ 7) (h2 : k ≠ 8) : cRo h t f n k = h k := by
  funext i
  simp [cRo, h1, h2]
theorem cRo_n {h : St} {t f n : Nat} (hn : ¬ stF (cRo h t f n) t f n) : cRo h t f n = cRo h t f (n + 1) := by
  simp only [stF, cRo_at] at hn
  funext k i
  unfold cRo
  by_cases h1 : i < n
  · simp [h1, Nat.lt_succ_of_lt h1]
  · by_cases h2 : i = n
    · subst h2
      simp [stF, hn]
    · simp [h1, show ¬ i < n + 1 by omega]
theorem cRo_s {h : St} {t f n : Nat} (h1 : cRo h t f n 7 n = 1) (h2 : cRo h t f n 8 n = nI f) (h3 : cRo h t f n 3 n = nI t) : u2 (u2 (cRo h t f n) 7 n 0) 8 n (-1) = cRo h t f (n + 1) := by
  rw [cRo_at] at h1 h2 h3
  funext k i
  simp only [u2_at]
  by_cases hi : i = n
  · subst hi
    by_cases h8 : k = 8
    · subst h8
      simp [cRo, stF, h1, h2, h3]
    · by_cases h7 : k = 7
      · subst h7
        simp [cRo, stF, h1, h2, h3]
      · simp [cRo, h7, h8]
  · simp only [hi, and_false, if_false]
    unfold cRo
    by_cases hn : i < n
    · simp [hn, Nat.lt_succ_of_lt hn]
    · simp [hn, show ¬ i < n + 1 by omega]
theorem nRo_t {h : St} {t f n : Nat} (h1 : cRo h t f n 7 n = 1) (h2 : cRo h t f n 8 n = nI f) (h3 : cRo h t f n 3 n = nI t) : nRo h t f (n + 1) = nRo h t f n + 1 := by
  rw [cRo_at] at h1 h2 h3
  simp [nRo, stF, h1, h2, h3]
theorem nRo_f {h : St} {t f n : Nat} (hn : ¬ stF (cRo h t f n) t f n) : nRo h t f (n + 1) = nRo h t f n := by
  simp only [stF, cRo_at] at hn
  simp [nRo, stF, hn]
def its0 (x : Int32) : Int32 := x - (x + 9) / 10
def itsV (h : St) (i t : Nat) : Int32 := if 500 < h 21 t + its0 (h 5 i) then 500 - h 21 t else its0 (h 5 i)
def payS (h : St) (i t : Nat) : St := u2 (u2 (u2 (u2 h 21 t (h 21 t + itsV h i t)) 20 t (h 20 t + itsV h i t)) 9 i (itsV h i t)) 7 i 2
def failS (h : St) (i : Nat) : St := u2 (u2 (u2 h 10 i (h 10 i + 1)) 7 i (if h 10 i + 1 = 2 then 3 else 0)) 8 i (-1)
theorem ok_X4_97 : fx_ok RX4 97 RX4 yX4_hasSeat cX4_hasSeat 3 (some .boolean) 2 := ⟨fx_w 809 (by decide +kernel) rfl, fx_w 806 (by decide +kernel) rfl, fx_w 808 (by decide +kernel) rfl, fx_w 30 (by decide +kernel) rfl, fx_w 41 (by decide +kernel) rfl, by decide +kernel⟩
theorem ok_X4_101 : fx_ok RX4 101 RX4 yX4_isFerry cX4_isFerry 2 (some .boolean) 1 := ⟨fx_w 801 (by decide +kernel) rfl, fx_w 798 (by decide +kernel) rfl, fx_w 800 (by decide +kernel) rfl, fx_w 28 (by decide +kernel) rfl, fx_w 41 (by decide +kernel) rfl, by decide +kernel⟩
theorem ok_X4_104 : fx_ok RX4 104 RX4 yX4_left cX4_left 4 (some .int) 1 := ⟨fx_w 805 (by decide +kernel) rfl, fx_w 802 (by decide +kernel) rfl, fx_w 804 (by decide +kernel) rfl, fx_w 29 (by decide +kernel) rfl, fx_w 41 (by decide +kernel) rfl, by decide +kernel⟩
set_option maxHeartbeats 4000000 in
set_option maxRecDepth 100000 in
theorem c_X4_ofReceipt_0 (l : Launch) (Z : fx_Z) (am : Nat → Nat) (hinj : fx_inj 22 am) (h : St) (rc : Nat) (i : Nat) (hi : i < rc) (hrc : h 0 0 = nI rc) (hr6 : rc ≤ 60) : fx_C l Z yX4_ofReceipt cX4_ofReceipt 3 (some .int) 2 44 0 0 22 am (mF am (Z.2.1 0)) h [.ref (am 0), .int (nI i), .int 0] (pI (h 7 i) (u2 h 0 3 0)) (fun _ => False) := by
  intro sz
  refine vx_ofW (cc := cX4_ofReceipt) (maxL := 3) (ret := (some .int)) (by decide) rfl ?_
  intro p e s m args below meth c s₁ B hml hout hv
  obtain ⟨rfl, hsz, hP, hE, hSt⟩ := hv
  subst hsz
  have hx := B.exec
  have hb := B.bytes
  have hr := B.returns
  have hown : s.vm.findClass RX4 = some m.cls := findClass_of_methodNamed B.named
  have hlocks := B.notSynchronized
  have K : m_K p s m ([.ref (am 0), .int (nI i), .int 0] : List Value).toArray c cX4_ofReceipt 3 Z am := ⟨hx, hb, hml, hown, fun w hw => atoms_spec (ws := fx_l yX4_ofReceipt cX4_ofReceipt 3 (some .int)) B.pre w (List.mem_cons_of_mem _ hw), hE, hSt, hinj⟩
  have hS : va_S (fx_A 22 am s.heap.size) s.heap s.heap [] := va_S.rf
  have hl := lv_entry ([.ref (am 0), .int (nI i), .int 0]) (n := 3) (Nat.le_of_ble_eq_true rfl)
  rw [lg_entry_eq]
  generalize (lg_sl ([.ref (am 0), .int (nI i), .int 0]) ++ List.replicate (3 - (lg_sl ([.ref (am 0), .int (nI i), .int 0])).length) Slot.unset).toArray = ls at hl ⊢
  have hl : lv_has ls 3 [(0, .ref (am 0)), (1, .int (nI i)), (2, .int 0)] := hl
  refine lv_aload_n hx hb dX4_ofReceipt_0 rfl (lv_at hl 0 rfl) ?_
  refine lv_aload_n hx hb dX4_ofReceipt_1 rfl (lv_at hl 0 rfl) ?_
  refine lv_iload_n hx hb dX4_ofReceipt_2 rfl (lv_at hl 1 rfl) ?_
  refine m_callt (rest := [.ref (am 0)]) K hP hS (c_X4_isReceipt l Z am hinj h (nI i)) ok_X4_94 rfl ⟨Nat.le_of_ble_eq_true rfl, Nat.le_of_ble_eq_true rfl⟩ rfl hl.1 (Nat.le_of_ble_eq_true rfl) ⟨Nat.le_of_ble_eq_true rfl, Nat.le_of_ble_eq_true rfl⟩ dX4_ofReceipt_3 (isR_t hrc hr6 hi) (fun H locs hP hS => ?_)
  refine lv_if_ne (tgt := 13) hx hb dX4_ofReceipt_6 (by decide) (fun _ => ?_) (fun c1 => absurd c1 (by decide))
  refine lv_aload_n hx hb dX4_ofReceipt_13 rfl (lv_at hl 0 rfl) ?_
  refine lv_iload_n hx hb dX4_ofReceipt_14 rfl (lv_at hl 2 rfl) ?_
  refine lv_iconst (v := 0) hx hb dX4_ofReceipt_15 (by decide) ?_
  refine lv_iconst (v := 3) hx hb dX4_ofReceipt_16 (by decide) ?_
  refine m_callt (rest := [.ref (am 0)]) K hP hS (c_X4_in l Z am hinj h 0 0 3) ok_X4_80 rfl ⟨Nat.le_of_ble_eq_true rfl, Nat.le_of_ble_eq_true rfl⟩ rfl hl.1 (Nat.le_of_ble_eq_true rfl) ⟨Nat.le_of_ble_eq_true rfl, Nat.le_of_ble_eq_true rfl⟩ dX4_ofReceipt_17 (by decide) (fun H locs hP hS => ?_)
  refine lv_if_eq (tgt := 27) hx hb dX4_ofReceipt_20 (by decide) (fun c2 => absurd c2 (by decide)) (fun _ => ?_)
  refine lv_iconst (v := 0) hx hb dX4_ofReceipt_23 (by decide) ?_
  refine lv_goto (tgt := 28) hx hb dX4_ofReceipt_24 (by decide) ?_
  refine m_callf (rest := []) K hP hS (c_X4_holds l Z am hinj h 0) ok_X4_87 rfl ⟨Nat.le_of_ble_eq_true rfl, Nat.le_of_ble_eq_true rfl⟩ rfl hl.1 (Nat.le_of_ble_eq_true rfl) ⟨Nat.le_of_ble_eq_true rfl, Nat.le_of_ble_eq_true rfl⟩ dX4_ofReceipt_28 (by decide) (fun H locs hP hS => ?_)
  obtain ⟨h3, e3⟩ : ∃ z : St, z = (u2 h 0 3 0) := ⟨_, rfl⟩
  rw [← e3] at hP
  refine lv_if_eq (tgt := 36) hx hb dX4_ofReceipt_31 (by decide) (fun _ => ?_) (fun c4 => absurd (by decide) c4)
  refine lv_iload_n hx hb dX4_ofReceipt_36 rfl (lv_at hl 2 rfl) ?_
  refine lv_if_ne (tgt := 49) hx hb dX4_ofReceipt_37 (by decide) (fun c5 => absurd (by decide) c5) (fun _ => ?_)
  refine lv_aload_n hx hb dX4_ofReceipt_40 rfl (lv_at hl 0 rfl) ?_
  refine mg_rk K hP dX4_ofReceipt_41 ?_
  refine lv_iload_n hx hb dX4_ofReceipt_44 rfl (lv_at hl 1 rfl) ?_
  refine mr_ald K hP (by decide) (by decide) (n := 60) rfl (by omega) (by decide) dX4_ofReceipt_45 ?_
  rw [show h3 7 i = h 7 i from by rw [e3, u2_off _ _ (by omega)]]
  refine lv_goto (tgt := 83) hx hb dX4_ofReceipt_46 (by decide) ?_
  exact fx_reti hx hb hr hlocks hP hS (Nat.le_of_ble_eq_true rfl) (Nat.le_of_ble_eq_true rfl) dX4_ofReceipt_83 ⟨rfl, by simp only [e3]⟩

set_option maxHeartbeats 4000000 in
set_option maxRecDepth 100000 in
theorem c_X4_ofReceipt_1 (l : Launch) (Z : fx_Z) (am : Nat → Nat) (hinj : fx_inj 22 am) (h : St) (rc : Nat) (i : Nat) (hi : i < rc) (hrc : h 0 0 = nI rc) (hr6 : rc ≤ 60) : fx_C l Z yX4_ofReceipt cX4_ofReceipt 3 (some .int) 2 44 0 0 22 am (mF am (Z.2.1 0)) h [.ref (am 0), .int (nI i), .int 1] (pI (h 5 i) (u2 h 0 3 0)) (fun _ => False) := by
  intro sz
  refine vx_ofW (cc := cX4_ofReceipt) (maxL := 3) (ret := (some .int)) (by decide) rfl ?_
  intro p e s m args below meth c s₁ B hml hout hv
  obtain ⟨rfl, hsz, hP, hE, hSt⟩ := hv
  subst hsz
  have hx := B.exec
  have hb := B.bytes
  have hr := B.returns
  have hown : s.vm.findClass RX4 = some m.cls := findClass_of_methodNamed B.named
  have hlocks := B.notSynchronized
  have K : m_K p s m ([.ref (am 0), .int (nI i), .int 1] : List Value).toArray c cX4_ofReceipt 3 Z am := ⟨hx, hb, hml, hown, fun w hw => atoms_spec (ws := fx_l yX4_ofReceipt cX4_ofReceipt 3 (some .int)) B.pre w (List.mem_cons_of_mem _ hw), hE, hSt, hinj⟩
  have hS : va_S (fx_A 22 am s.heap.size) s.heap s.heap [] := va_S.rf
  have hl := lv_entry ([.ref (am 0), .int (nI i), .int 1]) (n := 3) (Nat.le_of_ble_eq_true rfl)
  rw [lg_entry_eq]
  generalize (lg_sl ([.ref (am 0), .int (nI i), .int 1]) ++ List.replicate (3 - (lg_sl ([.ref (am 0), .int (nI i), .int 1])).length) Slot.unset).toArray = ls at hl ⊢
  have hl : lv_has ls 3 [(0, .ref (am 0)), (1, .int (nI i)), (2, .int 1)] := hl
  refine lv_aload_n hx hb dX4_ofReceipt_0 rfl (lv_at hl 0 rfl) ?_
  refine lv_aload_n hx hb dX4_ofReceipt_1 rfl (lv_at hl 0 rfl) ?_
  refine lv_iload_n hx hb dX4_ofReceipt_2 rfl (lv_at hl 1 rfl) ?_
  refine m_callt (rest := [.ref (am 0)]) K hP hS (c_X4_isReceipt l Z am hinj h (nI i)) ok_X4_94 rfl ⟨Nat.le_of_ble_eq_true rfl, Nat.le_of_ble_eq_true rfl⟩ rfl hl.1 (Nat.le_of_ble_eq_true rfl) ⟨Nat.le_of_ble_eq_true rfl, Nat.le_of_ble_eq_true rfl⟩ dX4_ofReceipt_3 (isR_t hrc hr6 hi) (fun H locs hP hS => ?_)
  refine lv_if_ne (tgt := 13) hx hb dX4_ofReceipt_6 (by decide) (fun _ => ?_) (fun c1 => absurd c1 (by decide))
  refine lv_aload_n hx hb dX4_ofReceipt_13 rfl (lv_at hl 0 rfl) ?_
  refine lv_iload_n hx hb dX4_ofReceipt_14 rfl (lv_at hl 2 rfl) ?_
  refine lv_iconst (v := 0) hx hb dX4_ofReceipt_15 (by decide) ?_
  refine lv_iconst (v := 3) hx hb dX4_ofReceipt_16 (by decide) ?_
  refine m_callt (rest := [.ref (am 0)]) K hP hS (c_X4_in l Z am hinj h 1 0 3) ok_X4_80 rfl ⟨Nat.le_of_ble_eq_true rfl, Nat.le_of_ble_eq_true rfl⟩ rfl hl.1 (Nat.le_of_ble_eq_true rfl) ⟨Nat.le_of_ble_eq_true rfl, Nat.le_of_ble_eq_true rfl⟩ dX4_ofReceipt_17 (by decide) (fun H locs hP hS => ?_)
  refine lv_if_eq (tgt := 27) hx hb dX4_ofReceipt_20 (by decide) (fun c2 => absurd c2 (by decide)) (fun _ => ?_)
  refine lv_iconst (v := 0) hx hb dX4_ofReceipt_23 (by decide) ?_
  refine lv_goto (tgt := 28) hx hb dX4_ofReceipt_24 (by decide) ?_
  refine m_callf (rest := []) K hP hS (c_X4_holds l Z am hinj h 0) ok_X4_87 rfl ⟨Nat.le_of_ble_eq_true rfl, Nat.le_of_ble_eq_true rfl⟩ rfl hl.1 (Nat.le_of_ble_eq_true rfl) ⟨Nat.le_of_ble_eq_true rfl, Nat.le_of_ble_eq_true rfl⟩ dX4_ofReceipt_28 (by decide) (fun H locs hP hS => ?_)
  obtain ⟨h3, e3⟩ : ∃ z : St, z = (u2 h 0 3 0) := ⟨_, rfl⟩
  rw [← e3] at hP
  refine lv_if_eq (tgt := 36) hx hb dX4_ofReceipt_31 (by decide) (fun _ => ?_) (fun c4 => absurd (by decide) c4)
  refine lv_iload_n hx hb dX4_ofReceipt_36 rfl (lv_at hl 2 rfl) ?_
  refine lv_if_ne (tgt := 49) hx hb dX4_ofReceipt_37 (by decide) (fun _ => ?_) (fun c5 => absurd c5 (by decide))
  refine lv_iload_n hx hb dX4_ofReceipt_49 rfl (lv_at hl 2 rfl) ?_
  refine lv_iconst (v := 1) hx hb dX4_ofReceipt_50 (by decide) ?_
  refine lv_icmp_ne (tgt := 63) hx hb dX4_ofReceipt_51 (by decide) (fun c6 => absurd (by decide) c6) (fun _ => ?_)
  refine lv_aload_n hx hb dX4_ofReceipt_54 rfl (lv_at hl 0 rfl) ?_
  refine mg_rx K hP dX4_ofReceipt_55 ?_
  refine lv_iload_n hx hb dX4_ofReceipt_58 rfl (lv_at hl 1 rfl) ?_
  refine mr_ald K hP (by decide) (by decide) (n := 60) rfl (by omega) (by decide) dX4_ofReceipt_59 ?_
  rw [show h3 5 i = h 5 i from by rw [e3, u2_off _ _ (by omega)]]
  refine lv_goto (tgt := 83) hx hb dX4_ofReceipt_60 (by decide) ?_
  exact fx_reti hx hb hr hlocks hP hS (Nat.le_of_ble_eq_true rfl) (Nat.le_of_ble_eq_true rfl) dX4_ofReceipt_83 ⟨rfl, by simp only [e3]⟩

set_option maxHeartbeats 4000000 in
set_option maxRecDepth 100000 in
theorem c_X4_ofReceipt_2 (l : Launch) (Z : fx_Z) (am : Nat → Nat) (hinj : fx_inj 22 am) (h : St) (rc : Nat) (i : Nat) (hi : i < rc) (hrc : h 0 0 = nI rc) (hr6 : rc ≤ 60) : fx_C l Z yX4_ofReceipt cX4_ofReceipt 3 (some .int) 2 44 0 0 22 am (mF am (Z.2.1 0)) h [.ref (am 0), .int (nI i), .int 2] (pI (h 9 i) (u2 h 0 3 0)) (fun _ => False) := by
  intro sz
  refine vx_ofW (cc := cX4_ofReceipt) (maxL := 3) (ret := (some .int)) (by decide) rfl ?_
  intro p e s m args below meth c s₁ B hml hout hv
  obtain ⟨rfl, hsz, hP, hE, hSt⟩ := hv
  subst hsz
  have hx := B.exec
  have hb := B.bytes
  have hr := B.returns
  have hown : s.vm.findClass RX4 = some m.cls := findClass_of_methodNamed B.named
  have hlocks := B.notSynchronized
  have K : m_K p s m ([.ref (am 0), .int (nI i), .int 2] : List Value).toArray c cX4_ofReceipt 3 Z am := ⟨hx, hb, hml, hown, fun w hw => atoms_spec (ws := fx_l yX4_ofReceipt cX4_ofReceipt 3 (some .int)) B.pre w (List.mem_cons_of_mem _ hw), hE, hSt, hinj⟩
  have hS : va_S (fx_A 22 am s.heap.size) s.heap s.heap [] := va_S.rf
  have hl := lv_entry ([.ref (am 0), .int (nI i), .int 2]) (n := 3) (Nat.le_of_ble_eq_true rfl)
  rw [lg_entry_eq]
  generalize (lg_sl ([.ref (am 0), .int (nI i), .int 2]) ++ List.replicate (3 - (lg_sl ([.ref (am 0), .int (nI i), .int 2])).length) Slot.unset).toArray = ls at hl ⊢
  have hl : lv_has ls 3 [(0, .ref (am 0)), (1, .int (nI i)), (2, .int 2)] := hl
  refine lv_aload_n hx hb dX4_ofReceipt_0 rfl (lv_at hl 0 rfl) ?_
  refine lv_aload_n hx hb dX4_ofReceipt_1 rfl (lv_at hl 0 rfl) ?_
  refine lv_iload_n hx hb dX4_ofReceipt_2 rfl (lv_at hl 1 rfl) ?_
  refine m_callt (rest := [.ref (am 0)]) K hP hS (c_X4_isReceipt l Z am hinj h (nI i)) ok_X4_94 rfl ⟨Nat.le_of_ble_eq_true rfl, Nat.le_of_ble_eq_true rfl⟩ rfl hl.1 (Nat.le_of_ble_eq_true rfl) ⟨Nat.le_of_ble_eq_true rfl, Nat.le_of_ble_eq_true rfl⟩ dX4_ofReceipt_3 (isR_t hrc hr6 hi) (fun H locs hP hS => ?_)
  refine lv_if_ne (tgt := 13) hx hb dX4_ofReceipt_6 (by decide) (fun _ => ?_) (fun c1 => absurd c1 (by decide))
  refine lv_aload_n hx hb dX4_ofReceipt_13 rfl (lv_at hl 0 rfl) ?_
  refine lv_iload_n hx hb dX4_ofReceipt_14 rfl (lv_at hl 2 rfl) ?_
  refine lv_iconst (v := 0) hx hb dX4_ofReceipt_15 (by decide) ?_
  refine lv_iconst (v := 3) hx hb dX4_ofReceipt_16 (by decide) ?_
  refine m_callt (rest := [.ref (am 0)]) K hP hS (c_X4_in l Z am hinj h 2 0 3) ok_X4_80 rfl ⟨Nat.le_of_ble_eq_true rfl, Nat.le_of_ble_eq_true rfl⟩ rfl hl.1 (Nat.le_of_ble_eq_true rfl) ⟨Nat.le_of_ble_eq_true rfl, Nat.le_of_ble_eq_true rfl⟩ dX4_ofReceipt_17 (by decide) (fun H locs hP hS => ?_)
  refine lv_if_eq (tgt := 27) hx hb dX4_ofReceipt_20 (by decide) (fun c2 => absurd c2 (by decide)) (fun _ => ?_)
  refine lv_iconst (v := 0) hx hb dX4_ofReceipt_23 (by decide) ?_
  refine lv_goto (tgt := 28) hx hb dX4_ofReceipt_24 (by decide) ?_
  refine m_callf (rest := []) K hP hS (c_X4_holds l Z am hinj h 0) ok_X4_87 rfl ⟨Nat.le_of_ble_eq_true rfl, Nat.le_of_ble_eq_true rfl⟩ rfl hl.1 (Nat.le_of_ble_eq_true rfl) ⟨Nat.le_of_ble_eq_true rfl, Nat.le_of_ble_eq_true rfl⟩ dX4_ofReceipt_28 (by decide) (fun H locs hP hS => ?_)
  obtain ⟨h3, e3⟩ : ∃ z : St, z = (u2 h 0 3 0) := ⟨_, rfl⟩
  rw [← e3] at hP
  refine lv_if_eq (tgt := 36) hx hb dX4_ofReceipt_31 (by decide) (fun _ => ?_) (fun c4 => absurd (by decide) c4)
  refine lv_iload_n hx hb dX4_ofReceipt_36 rfl (lv_at hl 2 rfl) ?_
  refine lv_if_ne (tgt := 49) hx hb dX4_ofReceipt_37 (by decide) (fun _ => ?_) (fun c5 => absurd c5 (by decide))
  refine lv_iload_n hx hb dX4_ofReceipt_49 rfl (lv_at hl 2 rfl) ?_
  refine lv_iconst (v := 1) hx hb dX4_ofReceipt_50 (by decide) ?_
  refine lv_icmp_ne (tgt := 63) hx hb dX4_ofReceipt_51 (by decide) (fun _ => ?_) (fun c6 => absurd c6 (by decide))
  refine lv_iload_n hx hb dX4_ofReceipt_63 rfl (lv_at hl 2 rfl) ?_
  refine lv_iconst (v := 2) hx hb dX4_ofReceipt_64 (by decide) ?_
  refine lv_icmp_ne (tgt := 77) hx hb dX4_ofReceipt_65 (by decide) (fun c7 => absurd (by decide) c7) (fun _ => ?_)
  refine lv_aload_n hx hb dX4_ofReceipt_68 rfl (lv_at hl 0 rfl) ?_
  refine mg_rr K hP dX4_ofReceipt_69 ?_
  refine lv_iload_n hx hb dX4_ofReceipt_72 rfl (lv_at hl 1 rfl) ?_
  refine mr_ald K hP (by decide) (by decide) (n := 60) rfl (by omega) (by decide) dX4_ofReceipt_73 ?_
  rw [show h3 9 i = h 9 i from by rw [e3, u2_off _ _ (by omega)]]
  refine lv_goto (tgt := 83) hx hb dX4_ofReceipt_74 (by decide) ?_
  exact fx_reti hx hb hr hlocks hP hS (Nat.le_of_ble_eq_true rfl) (Nat.le_of_ble_eq_true rfl) dX4_ofReceipt_83 ⟨rfl, by simp only [e3]⟩

set_option maxHeartbeats 4000000 in
set_option maxRecDepth 100000 in
theorem c_X4_ofReceipt_3 (l : Launch) (Z : fx_Z) (am : Nat → Nat) (hinj : fx_inj 22 am) (h : St) (rc : Nat) (i : Nat) (hi : i < rc) (hrc : h 0 0 = nI rc) (hr6 : rc ≤ 60) : fx_C l Z yX4_ofReceipt cX4_ofReceipt 3 (some .int) 2 44 0 0 22 am (mF am (Z.2.1 0)) h [.ref (am 0), .int (nI i), .int 3] (pI (h 8 i) (u2 h 0 3 0)) (fun _ => False) := by
  intro sz
  refine vx_ofW (cc := cX4_ofReceipt) (maxL := 3) (ret := (some .int)) (by decide) rfl ?_
  intro p e s m args below meth c s₁ B hml hout hv
  obtain ⟨rfl, hsz, hP, hE, hSt⟩ := hv
  subst hsz
  have hx := B.exec
  have hb := B.bytes
  have hr := B.returns
  have hown : s.vm.findClass RX4 = some m.cls := findClass_of_methodNamed B.named
  have hlocks := B.notSynchronized
  have K : m_K p s m ([.ref (am 0), .int (nI i), .int 3] : List Value).toArray c cX4_ofReceipt 3 Z am := ⟨hx, hb, hml, hown, fun w hw => atoms_spec (ws := fx_l yX4_ofReceipt cX4_ofReceipt 3 (some .int)) B.pre w (List.mem_cons_of_mem _ hw), hE, hSt, hinj⟩
  have hS : va_S (fx_A 22 am s.heap.size) s.heap s.heap [] := va_S.rf
  have hl := lv_entry ([.ref (am 0), .int (nI i), .int 3]) (n := 3) (Nat.le_of_ble_eq_true rfl)
  rw [lg_entry_eq]
  generalize (lg_sl ([.ref (am 0), .int (nI i), .int 3]) ++ List.replicate (3 - (lg_sl ([.ref (am 0), .int (nI i), .int 3])).length) Slot.unset).toArray = ls at hl ⊢
  have hl : lv_has ls 3 [(0, .ref (am 0)), (1, .int (nI i)), (2, .int 3)] := hl
  refine lv_aload_n hx hb dX4_ofReceipt_0 rfl (lv_at hl 0 rfl) ?_
  refine lv_aload_n hx hb dX4_ofReceipt_1 rfl (lv_at hl 0 rfl) ?_
  refine lv_iload_n hx hb dX4_ofReceipt_2 rfl (lv_at hl 1 rfl) ?_
  refine m_callt (rest := [.ref (am 0)]) K hP hS (c_X4_isReceipt l Z am hinj h (nI i)) ok_X4_94 rfl ⟨Nat.le_of_ble_eq_true rfl, Nat.le_of_ble_eq_true rfl⟩ rfl hl.1 (Nat.le_of_ble_eq_true rfl) ⟨Nat.le_of_ble_eq_true rfl, Nat.le_of_ble_eq_true rfl⟩ dX4_ofReceipt_3 (isR_t hrc hr6 hi) (fun H locs hP hS => ?_)
  refine lv_if_ne (tgt := 13) hx hb dX4_ofReceipt_6 (by decide) (fun _ => ?_) (fun c1 => absurd c1 (by decide))
  refine lv_aload_n hx hb dX4_ofReceipt_13 rfl (lv_at hl 0 rfl) ?_
  refine lv_iload_n hx hb dX4_ofReceipt_14 rfl (lv_at hl 2 rfl) ?_
  refine lv_iconst (v := 0) hx hb dX4_ofReceipt_15 (by decide) ?_
  refine lv_iconst (v := 3) hx hb dX4_ofReceipt_16 (by decide) ?_
  refine m_callt (rest := [.ref (am 0)]) K hP hS (c_X4_in l Z am hinj h 3 0 3) ok_X4_80 rfl ⟨Nat.le_of_ble_eq_true rfl, Nat.le_of_ble_eq_true rfl⟩ rfl hl.1 (Nat.le_of_ble_eq_true rfl) ⟨Nat.le_of_ble_eq_true rfl, Nat.le_of_ble_eq_true rfl⟩ dX4_ofReceipt_17 (by decide) (fun H locs hP hS => ?_)
  refine lv_if_eq (tgt := 27) hx hb dX4_ofReceipt_20 (by decide) (fun c2 => absurd c2 (by decide)) (fun _ => ?_)
  refine lv_iconst (v := 0) hx hb dX4_ofReceipt_23 (by decide) ?_
  refine lv_goto (tgt := 28) hx hb dX4_ofReceipt_24 (by decide) ?_
  refine m_callf (rest := []) K hP hS (c_X4_holds l Z am hinj h 0) ok_X4_87 rfl ⟨Nat.le_of_ble_eq_true rfl, Nat.le_of_ble_eq_true rfl⟩ rfl hl.1 (Nat.le_of_ble_eq_true rfl) ⟨Nat.le_of_ble_eq_true rfl, Nat.le_of_ble_eq_true rfl⟩ dX4_ofReceipt_28 (by decide) (fun H locs hP hS => ?_)
  obtain ⟨h3, e3⟩ : ∃ z : St, z = (u2 h 0 3 0) := ⟨_, rfl⟩
  rw [← e3] at hP
  refine lv_if_eq (tgt := 36) hx hb dX4_ofReceipt_31 (by decide) (fun _ => ?_) (fun c4 => absurd (by decide) c4)
  refine lv_iload_n hx hb dX4_ofReceipt_36 rfl (lv_at hl 2 rfl) ?_
  refine lv_if_ne (tgt := 49) hx hb dX4_ofReceipt_37 (by decide) (fun _ => ?_) (fun c5 => absurd c5 (by decide))
  refine lv_iload_n hx hb dX4_ofReceipt_49 rfl (lv_at hl 2 rfl) ?_
  refine lv_iconst (v := 1) hx hb dX4_ofReceipt_50 (by decide) ?_
  refine lv_icmp_ne (tgt := 63) hx hb dX4_ofReceipt_51 (by decide) (fun _ => ?_) (fun c6 => absurd c6 (by decide))
  refine lv_iload_n hx hb dX4_ofReceipt_63 rfl (lv_at hl 2 rfl) ?_
  refine lv_iconst (v := 2) hx hb dX4_ofReceipt_64 (by decide) ?_
  refine lv_icmp_ne (tgt := 77) hx hb dX4_ofReceipt_65 (by decide) (fun _ => ?_) (fun c7 => absurd c7 (by decide))
  refine lv_aload_n hx hb dX4_ofReceipt_77 rfl (lv_at hl 0 rfl) ?_
  refine mg_rf K hP dX4_ofReceipt_78 ?_
  refine lv_iload_n hx hb dX4_ofReceipt_81 rfl (lv_at hl 1 rfl) ?_
  refine mr_ald K hP (by decide) (by decide) (n := 60) rfl (by omega) (by decide) dX4_ofReceipt_82 ?_
  rw [show h3 8 i = h 8 i from by rw [e3, u2_off _ _ (by omega)]]
  exact fx_reti hx hb hr hlocks hP hS (Nat.le_of_ble_eq_true rfl) (Nat.le_of_ble_eq_true rfl) dX4_ofReceipt_83 ⟨rfl, by simp only [e3]⟩

set_option maxHeartbeats 4000000 in
set_option maxRecDepth 100000 in
theorem c_X4_ofReceipt_e1 (l : Launch) (Z : fx_Z) (am : Nat → Nat) (hinj : fx_inj 22 am) (h : St) (rc : Nat) (r : Int32) (w : Int32) (hrc : h 0 0 = nI rc) (hr6 : rc ≤ 60) (hbr : bad r rc) : fx_C l Z yX4_ofReceipt cX4_ofReceipt 3 (some .int) 2 44 0 0 22 am (mF am (Z.2.1 0)) h [.ref (am 0), .int r, .int w] (pI (-1) (u2 h 0 3 1)) (fun _ => False) := by
  intro sz
  refine vx_ofW (cc := cX4_ofReceipt) (maxL := 3) (ret := (some .int)) (by decide) rfl ?_
  intro p e s m args below meth c s₁ B hml hout hv
  obtain ⟨rfl, hsz, hP, hE, hSt⟩ := hv
  subst hsz
  have hx := B.exec
  have hb := B.bytes
  have hr := B.returns
  have hown : s.vm.findClass RX4 = some m.cls := findClass_of_methodNamed B.named
  have hlocks := B.notSynchronized
  have K : m_K p s m ([.ref (am 0), .int r, .int w] : List Value).toArray c cX4_ofReceipt 3 Z am := ⟨hx, hb, hml, hown, fun w hw => atoms_spec (ws := fx_l yX4_ofReceipt cX4_ofReceipt 3 (some .int)) B.pre w (List.mem_cons_of_mem _ hw), hE, hSt, hinj⟩
  have hS : va_S (fx_A 22 am s.heap.size) s.heap s.heap [] := va_S.rf
  have hl := lv_entry ([.ref (am 0), .int r, .int w]) (n := 3) (Nat.le_of_ble_eq_true rfl)
  rw [lg_entry_eq]
  generalize (lg_sl ([.ref (am 0), .int r, .int w]) ++ List.replicate (3 - (lg_sl ([.ref (am 0), .int r, .int w])).length) Slot.unset).toArray = ls at hl ⊢
  have hl : lv_has ls 3 [(0, .ref (am 0)), (1, .int r), (2, .int w)] := hl
  refine lv_aload_n hx hb dX4_ofReceipt_0 rfl (lv_at hl 0 rfl) ?_
  refine lv_aload_n hx hb dX4_ofReceipt_1 rfl (lv_at hl 0 rfl) ?_
  refine lv_iload_n hx hb dX4_ofReceipt_2 rfl (lv_at hl 1 rfl) ?_
  refine m_callf (rest := [.ref (am 0)]) K hP hS (c_X4_isReceipt l Z am hinj h r) ok_X4_94 rfl ⟨Nat.le_of_ble_eq_true rfl, Nat.le_of_ble_eq_true rfl⟩ rfl hl.1 (Nat.le_of_ble_eq_true rfl) ⟨Nat.le_of_ble_eq_true rfl, Nat.le_of_ble_eq_true rfl⟩ dX4_ofReceipt_3 (isR_f hrc hr6 hbr) (fun H locs hP hS => ?_)
  refine lv_if_ne (tgt := 13) hx hb dX4_ofReceipt_6 (by decide) (fun c1 => absurd (by decide) c1) (fun _ => ?_)
  refine lv_iconst (v := 1) hx hb dX4_ofReceipt_9 (by decide) ?_
  refine lv_goto (tgt := 28) hx hb dX4_ofReceipt_10 (by decide) ?_
  refine m_callt (rest := []) K hP hS (c_X4_holds l Z am hinj h 1) ok_X4_87 rfl ⟨Nat.le_of_ble_eq_true rfl, Nat.le_of_ble_eq_true rfl⟩ rfl hl.1 (Nat.le_of_ble_eq_true rfl) ⟨Nat.le_of_ble_eq_true rfl, Nat.le_of_ble_eq_true rfl⟩ dX4_ofReceipt_28 (by decide) (fun H locs hP hS => ?_)
  obtain ⟨h2, e2⟩ : ∃ z : St, z = (u2 h 0 3 1) := ⟨_, rfl⟩
  rw [← e2] at hP
  refine lv_if_eq (tgt := 36) hx hb dX4_ofReceipt_31 (by decide) (fun c3 => absurd c3 (by decide)) (fun _ => ?_)
  refine lv_iconst (v := (-1)) hx hb dX4_ofReceipt_34 (by decide) ?_
  exact fx_reti hx hb hr hlocks hP hS (Nat.le_of_ble_eq_true rfl) (Nat.le_of_ble_eq_true rfl) dX4_ofReceipt_35 ⟨rfl, e2⟩

set_option maxHeartbeats 4000000 in
set_option maxRecDepth 100000 in
theorem c_X4_ofReceipt_e2 (l : Launch) (Z : fx_Z) (am : Nat → Nat) (hinj : fx_inj 22 am) (h : St) (rc : Nat) (i : Nat) (w : Int32) (hi : i < rc) (hrc : h 0 0 = nI rc) (hr6 : rc ≤ 60) (hw : bad w 4) : fx_C l Z yX4_ofReceipt cX4_ofReceipt 3 (some .int) 2 44 0 0 22 am (mF am (Z.2.1 0)) h [.ref (am 0), .int (nI i), .int w] (pI (-1) (u2 h 0 3 2)) (fun _ => False) := by
  intro sz
  refine vx_ofW (cc := cX4_ofReceipt) (maxL := 3) (ret := (some .int)) (by decide) rfl ?_
  intro p e s m args below meth c s₁ B hml hout hv
  obtain ⟨rfl, hsz, hP, hE, hSt⟩ := hv
  subst hsz
  have hx := B.exec
  have hb := B.bytes
  have hr := B.returns
  have hown : s.vm.findClass RX4 = some m.cls := findClass_of_methodNamed B.named
  have hlocks := B.notSynchronized
  have K : m_K p s m ([.ref (am 0), .int (nI i), .int w] : List Value).toArray c cX4_ofReceipt 3 Z am := ⟨hx, hb, hml, hown, fun w hw => atoms_spec (ws := fx_l yX4_ofReceipt cX4_ofReceipt 3 (some .int)) B.pre w (List.mem_cons_of_mem _ hw), hE, hSt, hinj⟩
  have hS : va_S (fx_A 22 am s.heap.size) s.heap s.heap [] := va_S.rf
  have hl := lv_entry ([.ref (am 0), .int (nI i), .int w]) (n := 3) (Nat.le_of_ble_eq_true rfl)
  rw [lg_entry_eq]
  generalize (lg_sl ([.ref (am 0), .int (nI i), .int w]) ++ List.replicate (3 - (lg_sl ([.ref (am 0), .int (nI i), .int w])).length) Slot.unset).toArray = ls at hl ⊢
  have hl : lv_has ls 3 [(0, .ref (am 0)), (1, .int (nI i)), (2, .int w)] := hl
  refine lv_aload_n hx hb dX4_ofReceipt_0 rfl (lv_at hl 0 rfl) ?_
  refine lv_aload_n hx hb dX4_ofReceipt_1 rfl (lv_at hl 0 rfl) ?_
  refine lv_iload_n hx hb dX4_ofReceipt_2 rfl (lv_at hl 1 rfl) ?_
  refine m_callt (rest := [.ref (am 0)]) K hP hS (c_X4_isReceipt l Z am hinj h (nI i)) ok_X4_94 rfl ⟨Nat.le_of_ble_eq_true rfl, Nat.le_of_ble_eq_true rfl⟩ rfl hl.1 (Nat.le_of_ble_eq_true rfl) ⟨Nat.le_of_ble_eq_true rfl, Nat.le_of_ble_eq_true rfl⟩ dX4_ofReceipt_3 (isR_t hrc hr6 hi) (fun H locs hP hS => ?_)
  refine lv_if_ne (tgt := 13) hx hb dX4_ofReceipt_6 (by decide) (fun _ => ?_) (fun c1 => absurd c1 (by decide))
  refine lv_aload_n hx hb dX4_ofReceipt_13 rfl (lv_at hl 0 rfl) ?_
  refine lv_iload_n hx hb dX4_ofReceipt_14 rfl (lv_at hl 2 rfl) ?_
  refine lv_iconst (v := 0) hx hb dX4_ofReceipt_15 (by decide) ?_
  refine lv_iconst (v := 3) hx hb dX4_ofReceipt_16 (by decide) ?_
  refine m_callf (rest := [.ref (am 0)]) K hP hS (c_X4_in l Z am hinj h w 0 3) ok_X4_80 rfl ⟨Nat.le_of_ble_eq_true rfl, Nat.le_of_ble_eq_true rfl⟩ rfl hl.1 (Nat.le_of_ble_eq_true rfl) ⟨Nat.le_of_ble_eq_true rfl, Nat.le_of_ble_eq_true rfl⟩ dX4_ofReceipt_17 (nix3 hw) (fun H locs hP hS => ?_)
  refine lv_if_eq (tgt := 27) hx hb dX4_ofReceipt_20 (by decide) (fun _ => ?_) (fun c2 => absurd (by decide) c2)
  refine lv_iconst (v := 2) hx hb dX4_ofReceipt_27 (by decide) ?_
  refine m_callt (rest := []) K hP hS (c_X4_holds l Z am hinj h 2) ok_X4_87 rfl ⟨Nat.le_of_ble_eq_true rfl, Nat.le_of_ble_eq_true rfl⟩ rfl hl.1 (Nat.le_of_ble_eq_true rfl) ⟨Nat.le_of_ble_eq_true rfl, Nat.le_of_ble_eq_true rfl⟩ dX4_ofReceipt_28 (by decide) (fun H locs hP hS => ?_)
  obtain ⟨h3, e3⟩ : ∃ z : St, z = (u2 h 0 3 2) := ⟨_, rfl⟩
  rw [← e3] at hP
  refine lv_if_eq (tgt := 36) hx hb dX4_ofReceipt_31 (by decide) (fun c4 => absurd c4 (by decide)) (fun _ => ?_)
  refine lv_iconst (v := (-1)) hx hb dX4_ofReceipt_34 (by decide) ?_
  exact fx_reti hx hb hr hlocks hP hS (Nat.le_of_ble_eq_true rfl) (Nat.le_of_ble_eq_true rfl) dX4_ofReceipt_35 ⟨rfl, e3⟩

set_option maxHeartbeats 4000000 in
set_option maxRecDepth 100000 in
theorem c_X4_ofTraveller_0 (l : Launch) (Z : fx_Z) (am : Nat → Nat) (hinj : fx_inj 22 am) (h : St) (t : Nat) (ht9 : t < 10) : fx_C l Z yX4_ofTraveller cX4_ofTraveller 3 (some .int) 1 23 0 0 22 am (mF am (Z.2.1 0)) h [.ref (am 0), .int (nI t), .int 0] (pI (h 20 t) (u2 h 0 3 0)) (fun _ => False) := by
  intro sz
  refine vx_ofW (cc := cX4_ofTraveller) (maxL := 3) (ret := (some .int)) (by decide) rfl ?_
  intro p e s m args below meth c s₁ B hml hout hv
  obtain ⟨rfl, hsz, hP, hE, hSt⟩ := hv
  subst hsz
  have hx := B.exec
  have hb := B.bytes
  have hr := B.returns
  have hown : s.vm.findClass RX4 = some m.cls := findClass_of_methodNamed B.named
  have hlocks := B.notSynchronized
  have K : m_K p s m ([.ref (am 0), .int (nI t), .int 0] : List Value).toArray c cX4_ofTraveller 3 Z am := ⟨hx, hb, hml, hown, fun w hw => atoms_spec (ws := fx_l yX4_ofTraveller cX4_ofTraveller 3 (some .int)) B.pre w (List.mem_cons_of_mem _ hw), hE, hSt, hinj⟩
  have hS : va_S (fx_A 22 am s.heap.size) s.heap s.heap [] := va_S.rf
  have hl := lv_entry ([.ref (am 0), .int (nI t), .int 0]) (n := 3) (Nat.le_of_ble_eq_true rfl)
  rw [lg_entry_eq]
  generalize (lg_sl ([.ref (am 0), .int (nI t), .int 0]) ++ List.replicate (3 - (lg_sl ([.ref (am 0), .int (nI t), .int 0])).length) Slot.unset).toArray = ls at hl ⊢
  have hl : lv_has ls 3 [(0, .ref (am 0)), (1, .int (nI t)), (2, .int 0)] := hl
  refine lv_aload_n hx hb dX4_ofTraveller_0 rfl (lv_at hl 0 rfl) ?_
  refine lv_aload_n hx hb dX4_ofTraveller_1 rfl (lv_at hl 0 rfl) ?_
  refine lv_iload_n hx hb dX4_ofTraveller_2 rfl (lv_at hl 1 rfl) ?_
  refine lv_iconst (v := 0) hx hb dX4_ofTraveller_3 (by decide) ?_
  refine lv_bipush (v := 9) hx hb dX4_ofTraveller_4 (by decide) ?_
  refine m_callt (rest := [.ref (am 0)]) K hP hS (c_X4_in l Z am hinj h (nI t) 0 9) ok_X4_80 rfl ⟨Nat.le_of_ble_eq_true rfl, Nat.le_of_ble_eq_true rfl⟩ rfl hl.1 (Nat.le_of_ble_eq_true rfl) ⟨Nat.le_of_ble_eq_true rfl, Nat.le_of_ble_eq_true rfl⟩ dX4_ofTraveller_6 (ix9 ht9) (fun H locs hP hS => ?_)
  refine lv_if_ne (tgt := 16) hx hb dX4_ofTraveller_9 (by decide) (fun _ => ?_) (fun c1 => absurd c1 (by decide))
  refine lv_aload_n hx hb dX4_ofTraveller_16 rfl (lv_at hl 0 rfl) ?_
  refine lv_iload_n hx hb dX4_ofTraveller_17 rfl (lv_at hl 2 rfl) ?_
  refine lv_iconst (v := 0) hx hb dX4_ofTraveller_18 (by decide) ?_
  refine lv_iconst (v := 3) hx hb dX4_ofTraveller_19 (by decide) ?_
  refine m_callt (rest := [.ref (am 0)]) K hP hS (c_X4_in l Z am hinj h 0 0 3) ok_X4_80 rfl ⟨Nat.le_of_ble_eq_true rfl, Nat.le_of_ble_eq_true rfl⟩ rfl hl.1 (Nat.le_of_ble_eq_true rfl) ⟨Nat.le_of_ble_eq_true rfl, Nat.le_of_ble_eq_true rfl⟩ dX4_ofTraveller_20 (by decide) (fun H locs hP hS => ?_)
  refine lv_if_eq (tgt := 30) hx hb dX4_ofTraveller_23 (by decide) (fun c2 => absurd c2 (by decide)) (fun _ => ?_)
  refine lv_iconst (v := 0) hx hb dX4_ofTraveller_26 (by decide) ?_
  refine lv_goto (tgt := 31) hx hb dX4_ofTraveller_27 (by decide) ?_
  refine m_callf (rest := []) K hP hS (c_X4_holds l Z am hinj h 0) ok_X4_87 rfl ⟨Nat.le_of_ble_eq_true rfl, Nat.le_of_ble_eq_true rfl⟩ rfl hl.1 (Nat.le_of_ble_eq_true rfl) ⟨Nat.le_of_ble_eq_true rfl, Nat.le_of_ble_eq_true rfl⟩ dX4_ofTraveller_31 (by decide) (fun H locs hP hS => ?_)
  obtain ⟨h3, e3⟩ : ∃ z : St, z = (u2 h 0 3 0) := ⟨_, rfl⟩
  rw [← e3] at hP
  refine lv_if_eq (tgt := 39) hx hb dX4_ofTraveller_34 (by decide) (fun _ => ?_) (fun c4 => absurd (by decide) c4)
  refine lv_iload_n hx hb dX4_ofTraveller_39 rfl (lv_at hl 2 rfl) ?_
  refine lv_if_ne (tgt := 52) hx hb dX4_ofTraveller_40 (by decide) (fun c5 => absurd (by decide) c5) (fun _ => ?_)
  refine lv_aload_n hx hb dX4_ofTraveller_43 rfl (lv_at hl 0 rfl) ?_
  refine mg_refunds K hP dX4_ofTraveller_44 ?_
  refine lv_iload_n hx hb dX4_ofTraveller_47 rfl (lv_at hl 1 rfl) ?_
  refine mr_ald K hP (by decide) (by decide) (n := 10) rfl (by omega) (by decide) dX4_ofTraveller_48 ?_
  rw [show h3 20 t = h 20 t from by rw [e3, u2_off _ _ (by omega)]]
  refine lv_goto (tgt := 86) hx hb dX4_ofTraveller_49 (by decide) ?_
  exact fx_reti hx hb hr hlocks hP hS (Nat.le_of_ble_eq_true rfl) (Nat.le_of_ble_eq_true rfl) dX4_ofTraveller_86 ⟨rfl, by simp only [e3]⟩

set_option maxHeartbeats 4000000 in
set_option maxRecDepth 100000 in
theorem c_X4_ofTraveller_1 (l : Launch) (Z : fx_Z) (am : Nat → Nat) (hinj : fx_inj 22 am) (h : St) (t : Nat) (ht9 : t < 10) : fx_C l Z yX4_ofTraveller cX4_ofTraveller 3 (some .int) 1 23 0 0 22 am (mF am (Z.2.1 0)) h [.ref (am 0), .int (nI t), .int 1] (pI (h 19 t) (u2 h 0 3 0)) (fun _ => False) := by
  intro sz
  refine vx_ofW (cc := cX4_ofTraveller) (maxL := 3) (ret := (some .int)) (by decide) rfl ?_
  intro p e s m args below meth c s₁ B hml hout hv
  obtain ⟨rfl, hsz, hP, hE, hSt⟩ := hv
  subst hsz
  have hx := B.exec
  have hb := B.bytes
  have hr := B.returns
  have hown : s.vm.findClass RX4 = some m.cls := findClass_of_methodNamed B.named
  have hlocks := B.notSynchronized
  have K : m_K p s m ([.ref (am 0), .int (nI t), .int 1] : List Value).toArray c cX4_ofTraveller 3 Z am := ⟨hx, hb, hml, hown, fun w hw => atoms_spec (ws := fx_l yX4_ofTraveller cX4_ofTraveller 3 (some .int)) B.pre w (List.mem_cons_of_mem _ hw), hE, hSt, hinj⟩
  have hS : va_S (fx_A 22 am s.heap.size) s.heap s.heap [] := va_S.rf
  have hl := lv_entry ([.ref (am 0), .int (nI t), .int 1]) (n := 3) (Nat.le_of_ble_eq_true rfl)
  rw [lg_entry_eq]
  generalize (lg_sl ([.ref (am 0), .int (nI t), .int 1]) ++ List.replicate (3 - (lg_sl ([.ref (am 0), .int (nI t), .int 1])).length) Slot.unset).toArray = ls at hl ⊢
  have hl : lv_has ls 3 [(0, .ref (am 0)), (1, .int (nI t)), (2, .int 1)] := hl
  refine lv_aload_n hx hb dX4_ofTraveller_0 rfl (lv_at hl 0 rfl) ?_
  refine lv_aload_n hx hb dX4_ofTraveller_1 rfl (lv_at hl 0 rfl) ?_
  refine lv_iload_n hx hb dX4_ofTraveller_2 rfl (lv_at hl 1 rfl) ?_
  refine lv_iconst (v := 0) hx hb dX4_ofTraveller_3 (by decide) ?_
  refine lv_bipush (v := 9) hx hb dX4_ofTraveller_4 (by decide) ?_
  refine m_callt (rest := [.ref (am 0)]) K hP hS (c_X4_in l Z am hinj h (nI t) 0 9) ok_X4_80 rfl ⟨Nat.le_of_ble_eq_true rfl, Nat.le_of_ble_eq_true rfl⟩ rfl hl.1 (Nat.le_of_ble_eq_true rfl) ⟨Nat.le_of_ble_eq_true rfl, Nat.le_of_ble_eq_true rfl⟩ dX4_ofTraveller_6 (ix9 ht9) (fun H locs hP hS => ?_)
  refine lv_if_ne (tgt := 16) hx hb dX4_ofTraveller_9 (by decide) (fun _ => ?_) (fun c1 => absurd c1 (by decide))
  refine lv_aload_n hx hb dX4_ofTraveller_16 rfl (lv_at hl 0 rfl) ?_
  refine lv_iload_n hx hb dX4_ofTraveller_17 rfl (lv_at hl 2 rfl) ?_
  refine lv_iconst (v := 0) hx hb dX4_ofTraveller_18 (by decide) ?_
  refine lv_iconst (v := 3) hx hb dX4_ofTraveller_19 (by decide) ?_
  refine m_callt (rest := [.ref (am 0)]) K hP hS (c_X4_in l Z am hinj h 1 0 3) ok_X4_80 rfl ⟨Nat.le_of_ble_eq_true rfl, Nat.le_of_ble_eq_true rfl⟩ rfl hl.1 (Nat.le_of_ble_eq_true rfl) ⟨Nat.le_of_ble_eq_true rfl, Nat.le_of_ble_eq_true rfl⟩ dX4_ofTraveller_20 (by decide) (fun H locs hP hS => ?_)
  refine lv_if_eq (tgt := 30) hx hb dX4_ofTraveller_23 (by decide) (fun c2 => absurd c2 (by decide)) (fun _ => ?_)
  refine lv_iconst (v := 0) hx hb dX4_ofTraveller_26 (by decide) ?_
  refine lv_goto (tgt := 31) hx hb dX4_ofTraveller_27 (by decide) ?_
  refine m_callf (rest := []) K hP hS (c_X4_holds l Z am hinj h 0) ok_X4_87 rfl ⟨Nat.le_of_ble_eq_true rfl, Nat.le_of_ble_eq_true rfl⟩ rfl hl.1 (Nat.le_of_ble_eq_true rfl) ⟨Nat.le_of_ble_eq_true rfl, Nat.le_of_ble_eq_true rfl⟩ dX4_ofTraveller_31 (by decide) (fun H locs hP hS => ?_)
  obtain ⟨h3, e3⟩ : ∃ z : St, z = (u2 h 0 3 0) := ⟨_, rfl⟩
  rw [← e3] at hP
  refine lv_if_eq (tgt := 39) hx hb dX4_ofTraveller_34 (by decide) (fun _ => ?_) (fun c4 => absurd (by decide) c4)
  refine lv_iload_n hx hb dX4_ofTraveller_39 rfl (lv_at hl 2 rfl) ?_
  refine lv_if_ne (tgt := 52) hx hb dX4_ofTraveller_40 (by decide) (fun _ => ?_) (fun c5 => absurd c5 (by decide))
  refine lv_iload_n hx hb dX4_ofTraveller_52 rfl (lv_at hl 2 rfl) ?_
  refine lv_iconst (v := 1) hx hb dX4_ofTraveller_53 (by decide) ?_
  refine lv_icmp_ne (tgt := 66) hx hb dX4_ofTraveller_54 (by decide) (fun c6 => absurd (by decide) c6) (fun _ => ?_)
  refine lv_aload_n hx hb dX4_ofTraveller_57 rfl (lv_at hl 0 rfl) ?_
  refine mg_fine K hP dX4_ofTraveller_58 ?_
  refine lv_iload_n hx hb dX4_ofTraveller_61 rfl (lv_at hl 1 rfl) ?_
  refine mr_ald K hP (by decide) (by decide) (n := 10) rfl (by omega) (by decide) dX4_ofTraveller_62 ?_
  rw [show h3 19 t = h 19 t from by rw [e3, u2_off _ _ (by omega)]]
  refine lv_goto (tgt := 86) hx hb dX4_ofTraveller_63 (by decide) ?_
  exact fx_reti hx hb hr hlocks hP hS (Nat.le_of_ble_eq_true rfl) (Nat.le_of_ble_eq_true rfl) dX4_ofTraveller_86 ⟨rfl, by simp only [e3]⟩

set_option maxHeartbeats 4000000 in
set_option maxRecDepth 100000 in
theorem c_X4_ofTraveller_2 (l : Launch) (Z : fx_Z) (am : Nat → Nat) (hinj : fx_inj 22 am) (h : St) (t : Nat) (ht9 : t < 10) : fx_C l Z yX4_ofTraveller cX4_ofTraveller 3 (some .int) 1 23 0 0 22 am (mF am (Z.2.1 0)) h [.ref (am 0), .int (nI t), .int 2] (pI (h 18 t) (u2 h 0 3 0)) (fun _ => False) := by
  intro sz
  refine vx_ofW (cc := cX4_ofTraveller) (maxL := 3) (ret := (some .int)) (by decide) rfl ?_
  intro p e s m args below meth c s₁ B hml hout hv
  obtain ⟨rfl, hsz, hP, hE, hSt⟩ := hv
  subst hsz
  have hx := B.exec
  have hb := B.bytes
  have hr := B.returns
  have hown : s.vm.findClass RX4 = some m.cls := findClass_of_methodNamed B.named
  have hlocks := B.notSynchronized
  have K : m_K p s m ([.ref (am 0), .int (nI t), .int 2] : List Value).toArray c cX4_ofTraveller 3 Z am := ⟨hx, hb, hml, hown, fun w hw => atoms_spec (ws := fx_l yX4_ofTraveller cX4_ofTraveller 3 (some .int)) B.pre w (List.mem_cons_of_mem _ hw), hE, hSt, hinj⟩
  have hS : va_S (fx_A 22 am s.heap.size) s.heap s.heap [] := va_S.rf
  have hl := lv_entry ([.ref (am 0), .int (nI t), .int 2]) (n := 3) (Nat.le_of_ble_eq_true rfl)
  rw [lg_entry_eq]
  generalize (lg_sl ([.ref (am 0), .int (nI t), .int 2]) ++ List.replicate (3 - (lg_sl ([.ref (am 0), .int (nI t), .int 2])).length) Slot.unset).toArray = ls at hl ⊢
  have hl : lv_has ls 3 [(0, .ref (am 0)), (1, .int (nI t)), (2, .int 2)] := hl
  refine lv_aload_n hx hb dX4_ofTraveller_0 rfl (lv_at hl 0 rfl) ?_
  refine lv_aload_n hx hb dX4_ofTraveller_1 rfl (lv_at hl 0 rfl) ?_
  refine lv_iload_n hx hb dX4_ofTraveller_2 rfl (lv_at hl 1 rfl) ?_
  refine lv_iconst (v := 0) hx hb dX4_ofTraveller_3 (by decide) ?_
  refine lv_bipush (v := 9) hx hb dX4_ofTraveller_4 (by decide) ?_
  refine m_callt (rest := [.ref (am 0)]) K hP hS (c_X4_in l Z am hinj h (nI t) 0 9) ok_X4_80 rfl ⟨Nat.le_of_ble_eq_true rfl, Nat.le_of_ble_eq_true rfl⟩ rfl hl.1 (Nat.le_of_ble_eq_true rfl) ⟨Nat.le_of_ble_eq_true rfl, Nat.le_of_ble_eq_true rfl⟩ dX4_ofTraveller_6 (ix9 ht9) (fun H locs hP hS => ?_)
  refine lv_if_ne (tgt := 16) hx hb dX4_ofTraveller_9 (by decide) (fun _ => ?_) (fun c1 => absurd c1 (by decide))
  refine lv_aload_n hx hb dX4_ofTraveller_16 rfl (lv_at hl 0 rfl) ?_
  refine lv_iload_n hx hb dX4_ofTraveller_17 rfl (lv_at hl 2 rfl) ?_
  refine lv_iconst (v := 0) hx hb dX4_ofTraveller_18 (by decide) ?_
  refine lv_iconst (v := 3) hx hb dX4_ofTraveller_19 (by decide) ?_
  refine m_callt (rest := [.ref (am 0)]) K hP hS (c_X4_in l Z am hinj h 2 0 3) ok_X4_80 rfl ⟨Nat.le_of_ble_eq_true rfl, Nat.le_of_ble_eq_true rfl⟩ rfl hl.1 (Nat.le_of_ble_eq_true rfl) ⟨Nat.le_of_ble_eq_true rfl, Nat.le_of_ble_eq_true rfl⟩ dX4_ofTraveller_20 (by decide) (fun H locs hP hS => ?_)
  refine lv_if_eq (tgt := 30) hx hb dX4_ofTraveller_23 (by decide) (fun c2 => absurd c2 (by decide)) (fun _ => ?_)
  refine lv_iconst (v := 0) hx hb dX4_ofTraveller_26 (by decide) ?_
  refine lv_goto (tgt := 31) hx hb dX4_ofTraveller_27 (by decide) ?_
  refine m_callf (rest := []) K hP hS (c_X4_holds l Z am hinj h 0) ok_X4_87 rfl ⟨Nat.le_of_ble_eq_true rfl, Nat.le_of_ble_eq_true rfl⟩ rfl hl.1 (Nat.le_of_ble_eq_true rfl) ⟨Nat.le_of_ble_eq_true rfl, Nat.le_of_ble_eq_true rfl⟩ dX4_ofTraveller_31 (by decide) (fun H locs hP hS => ?_)
  obtain ⟨h3, e3⟩ : ∃ z : St, z = (u2 h 0 3 0) := ⟨_, rfl⟩
  rw [← e3] at hP
  refine lv_if_eq (tgt := 39) hx hb dX4_ofTraveller_34 (by decide) (fun _ => ?_) (fun c4 => absurd (by decide) c4)
  refine lv_iload_n hx hb dX4_ofTraveller_39 rfl (lv_at hl 2 rfl) ?_
  refine lv_if_ne (tgt := 52) hx hb dX4_ofTraveller_40 (by decide) (fun _ => ?_) (fun c5 => absurd c5 (by decide))
  refine lv_iload_n hx hb dX4_ofTraveller_52 rfl (lv_at hl 2 rfl) ?_
  refine lv_iconst (v := 1) hx hb dX4_ofTraveller_53 (by decide) ?_
  refine lv_icmp_ne (tgt := 66) hx hb dX4_ofTraveller_54 (by decide) (fun _ => ?_) (fun c6 => absurd c6 (by decide))
  refine lv_iload_n hx hb dX4_ofTraveller_66 rfl (lv_at hl 2 rfl) ?_
  refine lv_iconst (v := 2) hx hb dX4_ofTraveller_67 (by decide) ?_
  refine lv_icmp_ne (tgt := 80) hx hb dX4_ofTraveller_68 (by decide) (fun c7 => absurd (by decide) c7) (fun _ => ?_)
  refine lv_aload_n hx hb dX4_ofTraveller_71 rfl (lv_at hl 0 rfl) ?_
  refine mg_missed K hP dX4_ofTraveller_72 ?_
  refine lv_iload_n hx hb dX4_ofTraveller_75 rfl (lv_at hl 1 rfl) ?_
  refine mr_ald K hP (by decide) (by decide) (n := 10) rfl (by omega) (by decide) dX4_ofTraveller_76 ?_
  rw [show h3 18 t = h 18 t from by rw [e3, u2_off _ _ (by omega)]]
  refine lv_goto (tgt := 86) hx hb dX4_ofTraveller_77 (by decide) ?_
  exact fx_reti hx hb hr hlocks hP hS (Nat.le_of_ble_eq_true rfl) (Nat.le_of_ble_eq_true rfl) dX4_ofTraveller_86 ⟨rfl, by simp only [e3]⟩

set_option maxHeartbeats 4000000 in
set_option maxRecDepth 100000 in
theorem c_X4_ofTraveller_3 (l : Launch) (Z : fx_Z) (am : Nat → Nat) (hinj : fx_inj 22 am) (h : St) (t : Nat) (ht9 : t < 10) : fx_C l Z yX4_ofTraveller cX4_ofTraveller 3 (some .int) 1 23 0 0 22 am (mF am (Z.2.1 0)) h [.ref (am 0), .int (nI t), .int 3] (pI (h 16 t) (u2 h 0 3 0)) (fun _ => False) := by
  intro sz
  refine vx_ofW (cc := cX4_ofTraveller) (maxL := 3) (ret := (some .int)) (by decide) rfl ?_
  intro p e s m args below meth c s₁ B hml hout hv
  obtain ⟨rfl, hsz, hP, hE, hSt⟩ := hv
  subst hsz
  have hx := B.exec
  have hb := B.bytes
  have hr := B.returns
  have hown : s.vm.findClass RX4 = some m.cls := findClass_of_methodNamed B.named
  have hlocks := B.notSynchronized
  have K : m_K p s m ([.ref (am 0), .int (nI t), .int 3] : List Value).toArray c cX4_ofTraveller 3 Z am := ⟨hx, hb, hml, hown, fun w hw => atoms_spec (ws := fx_l yX4_ofTraveller cX4_ofTraveller 3 (some .int)) B.pre w (List.mem_cons_of_mem _ hw), hE, hSt, hinj⟩
  have hS : va_S (fx_A 22 am s.heap.size) s.heap s.heap [] := va_S.rf
  have hl := lv_entry ([.ref (am 0), .int (nI t), .int 3]) (n := 3) (Nat.le_of_ble_eq_true rfl)
  rw [lg_entry_eq]
  generalize (lg_sl ([.ref (am 0), .int (nI t), .int 3]) ++ List.replicate (3 - (lg_sl ([.ref (am 0), .int (nI t), .int 3])).length) Slot.unset).toArray = ls at hl ⊢
  have hl : lv_has ls 3 [(0, .ref (am 0)), (1, .int (nI t)), (2, .int 3)] := hl
  refine lv_aload_n hx hb dX4_ofTraveller_0 rfl (lv_at hl 0 rfl) ?_
  refine lv_aload_n hx hb dX4_ofTraveller_1 rfl (lv_at hl 0 rfl) ?_
  refine lv_iload_n hx hb dX4_ofTraveller_2 rfl (lv_at hl 1 rfl) ?_
  refine lv_iconst (v := 0) hx hb dX4_ofTraveller_3 (by decide) ?_
  refine lv_bipush (v := 9) hx hb dX4_ofTraveller_4 (by decide) ?_
  refine m_callt (rest := [.ref (am 0)]) K hP hS (c_X4_in l Z am hinj h (nI t) 0 9) ok_X4_80 rfl ⟨Nat.le_of_ble_eq_true rfl, Nat.le_of_ble_eq_true rfl⟩ rfl hl.1 (Nat.le_of_ble_eq_true rfl) ⟨Nat.le_of_ble_eq_true rfl, Nat.le_of_ble_eq_true rfl⟩ dX4_ofTraveller_6 (ix9 ht9) (fun H locs hP hS => ?_)
  refine lv_if_ne (tgt := 16) hx hb dX4_ofTraveller_9 (by decide) (fun _ => ?_) (fun c1 => absurd c1 (by decide))
  refine lv_aload_n hx hb dX4_ofTraveller_16 rfl (lv_at hl 0 rfl) ?_
  refine lv_iload_n hx hb dX4_ofTraveller_17 rfl (lv_at hl 2 rfl) ?_
  refine lv_iconst (v := 0) hx hb dX4_ofTraveller_18 (by decide) ?_
  refine lv_iconst (v := 3) hx hb dX4_ofTraveller_19 (by decide) ?_
  refine m_callt (rest := [.ref (am 0)]) K hP hS (c_X4_in l Z am hinj h 3 0 3) ok_X4_80 rfl ⟨Nat.le_of_ble_eq_true rfl, Nat.le_of_ble_eq_true rfl⟩ rfl hl.1 (Nat.le_of_ble_eq_true rfl) ⟨Nat.le_of_ble_eq_true rfl, Nat.le_of_ble_eq_true rfl⟩ dX4_ofTraveller_20 (by decide) (fun H locs hP hS => ?_)
  refine lv_if_eq (tgt := 30) hx hb dX4_ofTraveller_23 (by decide) (fun c2 => absurd c2 (by decide)) (fun _ => ?_)
  refine lv_iconst (v := 0) hx hb dX4_ofTraveller_26 (by decide) ?_
  refine lv_goto (tgt := 31) hx hb dX4_ofTraveller_27 (by decide) ?_
  refine m_callf (rest := []) K hP hS (c_X4_holds l Z am hinj h 0) ok_X4_87 rfl ⟨Nat.le_of_ble_eq_true rfl, Nat.le_of_ble_eq_true rfl⟩ rfl hl.1 (Nat.le_of_ble_eq_true rfl) ⟨Nat.le_of_ble_eq_true rfl, Nat.le_of_ble_eq_true rfl⟩ dX4_ofTraveller_31 (by decide) (fun H locs hP hS => ?_)
  obtain ⟨h3, e3⟩ : ∃ z : St, z = (u2 h 0 3 0) := ⟨_, rfl⟩
  rw [← e3] at hP
  refine lv_if_eq (tgt := 39) hx hb dX4_ofTraveller_34 (by decide) (fun _ => ?_) (fun c4 => absurd (by decide) c4)
  refine lv_iload_n hx hb dX4_ofTraveller_39 rfl (lv_at hl 2 rfl) ?_
  refine lv_if_ne (tgt := 52) hx hb dX4_ofTraveller_40 (by decide) (fun _ => ?_) (fun c5 => absurd c5 (by decide))
  refine lv_iload_n hx hb dX4_ofTraveller_52 rfl (lv_at hl 2 rfl) ?_
  refine lv_iconst (v := 1) hx hb dX4_ofTraveller_53 (by decide) ?_
  refine lv_icmp_ne (tgt := 66) hx hb dX4_ofTraveller_54 (by decide) (fun _ => ?_) (fun c6 => absurd c6 (by decide))
  refine lv_iload_n hx hb dX4_ofTraveller_66 rfl (lv_at hl 2 rfl) ?_
  refine lv_iconst (v := 2) hx hb dX4_ofTraveller_67 (by decide) ?_
  refine lv_icmp_ne (tgt := 80) hx hb dX4_ofTraveller_68 (by decide) (fun _ => ?_) (fun c7 => absurd c7 (by decide))
  refine lv_aload_n hx hb dX4_ofTraveller_80 rfl (lv_at hl 0 rfl) ?_
  refine mg_gone K hP dX4_ofTraveller_81 ?_
  refine lv_iload_n hx hb dX4_ofTraveller_84 rfl (lv_at hl 1 rfl) ?_
  refine mr_ald K hP (by decide) (by decide) (n := 10) rfl (by omega) (by decide) dX4_ofTraveller_85 ?_
  rw [show h3 16 t = h 16 t from by rw [e3, u2_off _ _ (by omega)]]
  exact fx_reti hx hb hr hlocks hP hS (Nat.le_of_ble_eq_true rfl) (Nat.le_of_ble_eq_true rfl) dX4_ofTraveller_86 ⟨rfl, by simp only [e3]⟩

set_option maxHeartbeats 4000000 in
set_option maxRecDepth 100000 in
theorem c_X4_ofTraveller_e1 (l : Launch) (Z : fx_Z) (am : Nat → Nat) (hinj : fx_inj 22 am) (h : St) (t : Int32) (w : Int32) (ht : bad t 10) : fx_C l Z yX4_ofTraveller cX4_ofTraveller 3 (some .int) 1 23 0 0 22 am (mF am (Z.2.1 0)) h [.ref (am 0), .int t, .int w] (pI (-1) (u2 h 0 3 1)) (fun _ => False) := by
  intro sz
  refine vx_ofW (cc := cX4_ofTraveller) (maxL := 3) (ret := (some .int)) (by decide) rfl ?_
  intro p e s m args below meth c s₁ B hml hout hv
  obtain ⟨rfl, hsz, hP, hE, hSt⟩ := hv
  subst hsz
  have hx := B.exec
  have hb := B.bytes
  have hr := B.returns
  have hown : s.vm.findClass RX4 = some m.cls := findClass_of_methodNamed B.named
  have hlocks := B.notSynchronized
  have K : m_K p s m ([.ref (am 0), .int t, .int w] : List Value).toArray c cX4_ofTraveller 3 Z am := ⟨hx, hb, hml, hown, fun w hw => atoms_spec (ws := fx_l yX4_ofTraveller cX4_ofTraveller 3 (some .int)) B.pre w (List.mem_cons_of_mem _ hw), hE, hSt, hinj⟩
  have hS : va_S (fx_A 22 am s.heap.size) s.heap s.heap [] := va_S.rf
  have hl := lv_entry ([.ref (am 0), .int t, .int w]) (n := 3) (Nat.le_of_ble_eq_true rfl)
  rw [lg_entry_eq]
  generalize (lg_sl ([.ref (am 0), .int t, .int w]) ++ List.replicate (3 - (lg_sl ([.ref (am 0), .int t, .int w])).length) Slot.unset).toArray = ls at hl ⊢
  have hl : lv_has ls 3 [(0, .ref (am 0)), (1, .int t), (2, .int w)] := hl
  refine lv_aload_n hx hb dX4_ofTraveller_0 rfl (lv_at hl 0 rfl) ?_
  refine lv_aload_n hx hb dX4_ofTraveller_1 rfl (lv_at hl 0 rfl) ?_
  refine lv_iload_n hx hb dX4_ofTraveller_2 rfl (lv_at hl 1 rfl) ?_
  refine lv_iconst (v := 0) hx hb dX4_ofTraveller_3 (by decide) ?_
  refine lv_bipush (v := 9) hx hb dX4_ofTraveller_4 (by decide) ?_
  refine m_callf (rest := [.ref (am 0)]) K hP hS (c_X4_in l Z am hinj h t 0 9) ok_X4_80 rfl ⟨Nat.le_of_ble_eq_true rfl, Nat.le_of_ble_eq_true rfl⟩ rfl hl.1 (Nat.le_of_ble_eq_true rfl) ⟨Nat.le_of_ble_eq_true rfl, Nat.le_of_ble_eq_true rfl⟩ dX4_ofTraveller_6 (nix9 ht) (fun H locs hP hS => ?_)
  refine lv_if_ne (tgt := 16) hx hb dX4_ofTraveller_9 (by decide) (fun c1 => absurd (by decide) c1) (fun _ => ?_)
  refine lv_iconst (v := 1) hx hb dX4_ofTraveller_12 (by decide) ?_
  refine lv_goto (tgt := 31) hx hb dX4_ofTraveller_13 (by decide) ?_
  refine m_callt (rest := []) K hP hS (c_X4_holds l Z am hinj h 1) ok_X4_87 rfl ⟨Nat.le_of_ble_eq_true rfl, Nat.le_of_ble_eq_true rfl⟩ rfl hl.1 (Nat.le_of_ble_eq_true rfl) ⟨Nat.le_of_ble_eq_true rfl, Nat.le_of_ble_eq_true rfl⟩ dX4_ofTraveller_31 (by decide) (fun H locs hP hS => ?_)
  obtain ⟨h2, e2⟩ : ∃ z : St, z = (u2 h 0 3 1) := ⟨_, rfl⟩
  rw [← e2] at hP
  refine lv_if_eq (tgt := 39) hx hb dX4_ofTraveller_34 (by decide) (fun c3 => absurd c3 (by decide)) (fun _ => ?_)
  refine lv_iconst (v := (-1)) hx hb dX4_ofTraveller_37 (by decide) ?_
  exact fx_reti hx hb hr hlocks hP hS (Nat.le_of_ble_eq_true rfl) (Nat.le_of_ble_eq_true rfl) dX4_ofTraveller_38 ⟨rfl, e2⟩

set_option maxHeartbeats 4000000 in
set_option maxRecDepth 100000 in
theorem c_X4_ofTraveller_e2 (l : Launch) (Z : fx_Z) (am : Nat → Nat) (hinj : fx_inj 22 am) (h : St) (t : Nat) (w : Int32) (ht9 : t < 10) (hw : bad w 4) : fx_C l Z yX4_ofTraveller cX4_ofTraveller 3 (some .int) 1 23 0 0 22 am (mF am (Z.2.1 0)) h [.ref (am 0), .int (nI t), .int w] (pI (-1) (u2 h 0 3 2)) (fun _ => False) := by
  intro sz
  refine vx_ofW (cc := cX4_ofTraveller) (maxL := 3) (ret := (some .int)) (by decide) rfl ?_
  intro p e s m args below meth c s₁ B hml hout hv
  obtain ⟨rfl, hsz, hP, hE, hSt⟩ := hv
  subst hsz
  have hx := B.exec
  have hb := B.bytes
  have hr := B.returns
  have hown : s.vm.findClass RX4 = some m.cls := findClass_of_methodNamed B.named
  have hlocks := B.notSynchronized
  have K : m_K p s m ([.ref (am 0), .int (nI t), .int w] : List Value).toArray c cX4_ofTraveller 3 Z am := ⟨hx, hb, hml, hown, fun w hw => atoms_spec (ws := fx_l yX4_ofTraveller cX4_ofTraveller 3 (some .int)) B.pre w (List.mem_cons_of_mem _ hw), hE, hSt, hinj⟩
  have hS : va_S (fx_A 22 am s.heap.size) s.heap s.heap [] := va_S.rf
  have hl := lv_entry ([.ref (am 0), .int (nI t), .int w]) (n := 3) (Nat.le_of_ble_eq_true rfl)
  rw [lg_entry_eq]
  generalize (lg_sl ([.ref (am 0), .int (nI t), .int w]) ++ List.replicate (3 - (lg_sl ([.ref (am 0), .int (nI t), .int w])).length) Slot.unset).toArray = ls at hl ⊢
  have hl : lv_has ls 3 [(0, .ref (am 0)), (1, .int (nI t)), (2, .int w)] := hl
  refine lv_aload_n hx hb dX4_ofTraveller_0 rfl (lv_at hl 0 rfl) ?_
  refine lv_aload_n hx hb dX4_ofTraveller_1 rfl (lv_at hl 0 rfl) ?_
  refine lv_iload_n hx hb dX4_ofTraveller_2 rfl (lv_at hl 1 rfl) ?_
  refine lv_iconst (v := 0) hx hb dX4_ofTraveller_3 (by decide) ?_
  refine lv_bipush (v := 9) hx hb dX4_ofTraveller_4 (by decide) ?_
  refine m_callt (rest := [.ref (am 0)]) K hP hS (c_X4_in l Z am hinj h (nI t) 0 9) ok_X4_80 rfl ⟨Nat.le_of_ble_eq_true rfl, Nat.le_of_ble_eq_true rfl⟩ rfl hl.1 (Nat.le_of_ble_eq_true rfl) ⟨Nat.le_of_ble_eq_true rfl, Nat.le_of_ble_eq_true rfl⟩ dX4_ofTraveller_6 (ix9 ht9) (fun H locs hP hS => ?_)
  refine lv_if_ne (tgt := 16) hx hb dX4_ofTraveller_9 (by decide) (fun _ => ?_) (fun c1 => absurd c1 (by decide))
  refine lv_aload_n hx hb dX4_ofTraveller_16 rfl (lv_at hl 0 rfl) ?_
  refine lv_iload_n hx hb dX4_ofTraveller_17 rfl (lv_at hl 2 rfl) ?_
  refine lv_iconst (v := 0) hx hb dX4_ofTraveller_18 (by decide) ?_
  refine lv_iconst (v := 3) hx hb dX4_ofTraveller_19 (by decide) ?_
  refine m_callf (rest := [.ref (am 0)]) K hP hS (c_X4_in l Z am hinj h w 0 3) ok_X4_80 rfl ⟨Nat.le_of_ble_eq_true rfl, Nat.le_of_ble_eq_true rfl⟩ rfl hl.1 (Nat.le_of_ble_eq_true rfl) ⟨Nat.le_of_ble_eq_true rfl, Nat.le_of_ble_eq_true rfl⟩ dX4_ofTraveller_20 (nix3 hw) (fun H locs hP hS => ?_)
  refine lv_if_eq (tgt := 30) hx hb dX4_ofTraveller_23 (by decide) (fun _ => ?_) (fun c2 => absurd (by decide) c2)
  refine lv_iconst (v := 2) hx hb dX4_ofTraveller_30 (by decide) ?_
  refine m_callt (rest := []) K hP hS (c_X4_holds l Z am hinj h 2) ok_X4_87 rfl ⟨Nat.le_of_ble_eq_true rfl, Nat.le_of_ble_eq_true rfl⟩ rfl hl.1 (Nat.le_of_ble_eq_true rfl) ⟨Nat.le_of_ble_eq_true rfl, Nat.le_of_ble_eq_true rfl⟩ dX4_ofTraveller_31 (by decide) (fun H locs hP hS => ?_)
  obtain ⟨h3, e3⟩ : ∃ z : St, z = (u2 h 0 3 2) := ⟨_, rfl⟩
  rw [← e3] at hP
  refine lv_if_eq (tgt := 39) hx hb dX4_ofTraveller_34 (by decide) (fun c4 => absurd c4 (by decide)) (fun _ => ?_)
  refine lv_iconst (v := (-1)) hx hb dX4_ofTraveller_37 (by decide) ?_
  exact fx_reti hx hb hr hlocks hP hS (Nat.le_of_ble_eq_true rfl) (Nat.le_of_ble_eq_true rfl) dX4_ofTraveller_38 ⟨rfl, e3⟩

set_option maxHeartbeats 4000000 in
set_option maxRecDepth 100000 in
theorem c_X4_refundsAnew_0 (l : Launch) (Z : fx_Z) (am : Nat → Nat) (hinj : fx_inj 22 am) (h : St) (t : Nat) (ht9 : t < 10) : fx_C l Z yX4_refundsAnew cX4_refundsAnew 2 (some .int) 1 23 0 0 22 am (mF am (Z.2.1 0)) h [.ref (am 0), .int (nI t)] (pI (h 20 t) (u2 h 0 3 0)) (fun _ => False) := by
  intro sz
  refine vx_ofW (cc := cX4_refundsAnew) (maxL := 2) (ret := (some .int)) (by decide) rfl ?_
  intro p e s m args below meth c s₁ B hml hout hv
  obtain ⟨rfl, hsz, hP, hE, hSt⟩ := hv
  subst hsz
  have hx := B.exec
  have hb := B.bytes
  have hr := B.returns
  have hown : s.vm.findClass RX4 = some m.cls := findClass_of_methodNamed B.named
  have hlocks := B.notSynchronized
  have K : m_K p s m ([.ref (am 0), .int (nI t)] : List Value).toArray c cX4_refundsAnew 2 Z am := ⟨hx, hb, hml, hown, fun w hw => atoms_spec (ws := fx_l yX4_refundsAnew cX4_refundsAnew 2 (some .int)) B.pre w (List.mem_cons_of_mem _ hw), hE, hSt, hinj⟩
  have hS : va_S (fx_A 22 am s.heap.size) s.heap s.heap [] := va_S.rf
  have hl := lv_entry ([.ref (am 0), .int (nI t)]) (n := 2) (Nat.le_of_ble_eq_true rfl)
  rw [lg_entry_eq]
  generalize (lg_sl ([.ref (am 0), .int (nI t)]) ++ List.replicate (2 - (lg_sl ([.ref (am 0), .int (nI t)])).length) Slot.unset).toArray = ls at hl ⊢
  have hl : lv_has ls 2 [(0, .ref (am 0)), (1, .int (nI t))] := hl
  refine lv_aload_n hx hb dX4_refundsAnew_0 rfl (lv_at hl 0 rfl) ?_
  refine lv_aload_n hx hb dX4_refundsAnew_1 rfl (lv_at hl 0 rfl) ?_
  refine lv_iload_n hx hb dX4_refundsAnew_2 rfl (lv_at hl 1 rfl) ?_
  refine lv_iconst (v := 0) hx hb dX4_refundsAnew_3 (by decide) ?_
  refine lv_bipush (v := 9) hx hb dX4_refundsAnew_4 (by decide) ?_
  refine m_callt (rest := [.ref (am 0)]) K hP hS (c_X4_in l Z am hinj h (nI t) 0 9) ok_X4_80 rfl ⟨Nat.le_of_ble_eq_true rfl, Nat.le_of_ble_eq_true rfl⟩ rfl hl.1 (Nat.le_of_ble_eq_true rfl) ⟨Nat.le_of_ble_eq_true rfl, Nat.le_of_ble_eq_true rfl⟩ dX4_refundsAnew_6 (ix9 ht9) (fun H locs hP hS => ?_)
  refine lv_if_eq (tgt := 16) hx hb dX4_refundsAnew_9 (by decide) (fun c1 => absurd c1 (by decide)) (fun _ => ?_)
  refine lv_iconst (v := 0) hx hb dX4_refundsAnew_12 (by decide) ?_
  refine lv_goto (tgt := 17) hx hb dX4_refundsAnew_13 (by decide) ?_
  refine m_callf (rest := []) K hP hS (c_X4_holds l Z am hinj h 0) ok_X4_87 rfl ⟨Nat.le_of_ble_eq_true rfl, Nat.le_of_ble_eq_true rfl⟩ rfl hl.1 (Nat.le_of_ble_eq_true rfl) ⟨Nat.le_of_ble_eq_true rfl, Nat.le_of_ble_eq_true rfl⟩ dX4_refundsAnew_17 (by decide) (fun H locs hP hS => ?_)
  obtain ⟨h2, e2⟩ : ∃ z : St, z = (u2 h 0 3 0) := ⟨_, rfl⟩
  rw [← e2] at hP
  refine lv_if_eq (tgt := 27) hx hb dX4_refundsAnew_20 (by decide) (fun _ => ?_) (fun c3 => absurd (by decide) c3)
  refine lv_aload_n hx hb dX4_refundsAnew_27 rfl (lv_at hl 0 rfl) ?_
  refine mg_refunds K hP dX4_refundsAnew_28 ?_
  refine lv_iload_n hx hb dX4_refundsAnew_31 rfl (lv_at hl 1 rfl) ?_
  refine mr_ald K hP (by decide) (by decide) (n := 10) rfl (by omega) (by decide) dX4_refundsAnew_32 ?_
  rw [show h2 20 t = h 20 t from by rw [e2, u2_off _ _ (by omega)]]
  exact fx_reti hx hb hr hlocks hP hS (Nat.le_of_ble_eq_true rfl) (Nat.le_of_ble_eq_true rfl) dX4_refundsAnew_33 ⟨rfl, by simp only [e2]⟩

set_option maxHeartbeats 4000000 in
set_option maxRecDepth 100000 in
theorem c_X4_refundsAnew_1 (l : Launch) (Z : fx_Z) (am : Nat → Nat) (hinj : fx_inj 22 am) (h : St) (t : Int32) (ht : bad t 10) : fx_C l Z yX4_refundsAnew cX4_refundsAnew 2 (some .int) 1 23 0 0 22 am (mF am (Z.2.1 0)) h [.ref (am 0), .int t] (pI (-1) (u2 h 0 3 1)) (fun _ => False) := by
  intro sz
  refine vx_ofW (cc := cX4_refundsAnew) (maxL := 2) (ret := (some .int)) (by decide) rfl ?_
  intro p e s m args below meth c s₁ B hml hout hv
  obtain ⟨rfl, hsz, hP, hE, hSt⟩ := hv
  subst hsz
  have hx := B.exec
  have hb := B.bytes
  have hr := B.returns
  have hown : s.vm.findClass RX4 = some m.cls := findClass_of_methodNamed B.named
  have hlocks := B.notSynchronized
  have K : m_K p s m ([.ref (am 0), .int t] : List Value).toArray c cX4_refundsAnew 2 Z am := ⟨hx, hb, hml, hown, fun w hw => atoms_spec (ws := fx_l yX4_refundsAnew cX4_refundsAnew 2 (some .int)) B.pre w (List.mem_cons_of_mem _ hw), hE, hSt, hinj⟩
  have hS : va_S (fx_A 22 am s.heap.size) s.heap s.heap [] := va_S.rf
  have hl := lv_entry ([.ref (am 0), .int t]) (n := 2) (Nat.le_of_ble_eq_true rfl)
  rw [lg_entry_eq]
  generalize (lg_sl ([.ref (am 0), .int t]) ++ List.replicate (2 - (lg_sl ([.ref (am 0), .int t])).length) Slot.unset).toArray = ls at hl ⊢
  have hl : lv_has ls 2 [(0, .ref (am 0)), (1, .int t)] := hl
  refine lv_aload_n hx hb dX4_refundsAnew_0 rfl (lv_at hl 0 rfl) ?_
  refine lv_aload_n hx hb dX4_refundsAnew_1 rfl (lv_at hl 0 rfl) ?_
  refine lv_iload_n hx hb dX4_refundsAnew_2 rfl (lv_at hl 1 rfl) ?_
  refine lv_iconst (v := 0) hx hb dX4_refundsAnew_3 (by decide) ?_
  refine lv_bipush (v := 9) hx hb dX4_refundsAnew_4 (by decide) ?_
  refine m_callf (rest := [.ref (am 0)]) K hP hS (c_X4_in l Z am hinj h t 0 9) ok_X4_80 rfl ⟨Nat.le_of_ble_eq_true rfl, Nat.le_of_ble_eq_true rfl⟩ rfl hl.1 (Nat.le_of_ble_eq_true rfl) ⟨Nat.le_of_ble_eq_true rfl, Nat.le_of_ble_eq_true rfl⟩ dX4_refundsAnew_6 (nix9 ht) (fun H locs hP hS => ?_)
  refine lv_if_eq (tgt := 16) hx hb dX4_refundsAnew_9 (by decide) (fun _ => ?_) (fun c1 => absurd (by decide) c1)
  refine lv_iconst (v := 1) hx hb dX4_refundsAnew_16 (by decide) ?_
  refine m_callt (rest := []) K hP hS (c_X4_holds l Z am hinj h 1) ok_X4_87 rfl ⟨Nat.le_of_ble_eq_true rfl, Nat.le_of_ble_eq_true rfl⟩ rfl hl.1 (Nat.le_of_ble_eq_true rfl) ⟨Nat.le_of_ble_eq_true rfl, Nat.le_of_ble_eq_true rfl⟩ dX4_refundsAnew_17 (by decide) (fun H locs hP hS => ?_)
  obtain ⟨h2, e2⟩ : ∃ z : St, z = (u2 h 0 3 1) := ⟨_, rfl⟩
  rw [← e2] at hP
  refine lv_if_eq (tgt := 27) hx hb dX4_refundsAnew_20 (by decide) (fun c3 => absurd c3 (by decide)) (fun _ => ?_)
  refine lv_iconst (v := (-1)) hx hb dX4_refundsAnew_23 (by decide) ?_
  refine lv_goto (tgt := 33) hx hb dX4_refundsAnew_24 (by decide) ?_
  exact fx_reti hx hb hr hlocks hP hS (Nat.le_of_ble_eq_true rfl) (Nat.le_of_ble_eq_true rfl) dX4_refundsAnew_33 ⟨rfl, e2⟩

set_option maxHeartbeats 4000000 in
set_option maxRecDepth 100000 in
theorem c_X4_debt_0 (l : Launch) (Z : fx_Z) (am : Nat → Nat) (hinj : fx_inj 22 am) (h : St) (rc : Nat) (a : Nat) (ha : a < 5) (hrc : h 0 0 = nI rc) (hr6 : rc ≤ 60) : fx_C l Z yX4_debt cX4_debt 4 (some .int) 1 23 0 0 22 am (mF am (Z.2.1 0)) h [.ref (am 0), .int (nI a)] (pI (dbt h a rc) (u2 h 0 3 0)) (fun _ => False) := by
  intro sz
  refine vx_ofW (cc := cX4_debt) (maxL := 4) (ret := (some .int)) (by decide) rfl ?_
  intro p e s m args below meth c s₁ B hml hout hv
  obtain ⟨rfl, hsz, hP, hE, hSt⟩ := hv
  subst hsz
  have hx := B.exec
  have hb := B.bytes
  have hr := B.returns
  have hown : s.vm.findClass RX4 = some m.cls := findClass_of_methodNamed B.named
  have hlocks := B.notSynchronized
  have K : m_K p s m ([.ref (am 0), .int (nI a)] : List Value).toArray c cX4_debt 4 Z am := ⟨hx, hb, hml, hown, fun w hw => atoms_spec (ws := fx_l yX4_debt cX4_debt 4 (some .int)) B.pre w (List.mem_cons_of_mem _ hw), hE, hSt, hinj⟩
  have hS : va_S (fx_A 22 am s.heap.size) s.heap s.heap [] := va_S.rf
  have hl := lv_entry ([.ref (am 0), .int (nI a)]) (n := 4) (Nat.le_of_ble_eq_true rfl)
  rw [lg_entry_eq]
  generalize (lg_sl ([.ref (am 0), .int (nI a)]) ++ List.replicate (4 - (lg_sl ([.ref (am 0), .int (nI a)])).length) Slot.unset).toArray = ls at hl ⊢
  have hl : lv_has ls 4 [(0, .ref (am 0)), (1, .int (nI a))] := hl
  refine lv_aload_n hx hb dX4_debt_0 rfl (lv_at hl 0 rfl) ?_
  refine lv_aload_n hx hb dX4_debt_1 rfl (lv_at hl 0 rfl) ?_
  refine lv_iload_n hx hb dX4_debt_2 rfl (lv_at hl 1 rfl) ?_
  refine lv_iconst (v := 0) hx hb dX4_debt_3 (by decide) ?_
  refine lv_iconst (v := 4) hx hb dX4_debt_4 (by decide) ?_
  refine m_callt (rest := [.ref (am 0)]) K hP hS (c_X4_in l Z am hinj h (nI a) 0 4) ok_X4_80 rfl ⟨Nat.le_of_ble_eq_true rfl, Nat.le_of_ble_eq_true rfl⟩ rfl hl.1 (Nat.le_of_ble_eq_true rfl) ⟨Nat.le_of_ble_eq_true rfl, Nat.le_of_ble_eq_true rfl⟩ dX4_debt_5 (ix4 ha) (fun H locs hP hS => ?_)
  refine lv_if_eq (tgt := 15) hx hb dX4_debt_8 (by decide) (fun c1 => absurd c1 (by decide)) (fun _ => ?_)
  refine lv_iconst (v := 0) hx hb dX4_debt_11 (by decide) ?_
  refine lv_goto (tgt := 16) hx hb dX4_debt_12 (by decide) ?_
  refine m_callf (rest := []) K hP hS (c_X4_holds l Z am hinj h 0) ok_X4_87 rfl ⟨Nat.le_of_ble_eq_true rfl, Nat.le_of_ble_eq_true rfl⟩ rfl hl.1 (Nat.le_of_ble_eq_true rfl) ⟨Nat.le_of_ble_eq_true rfl, Nat.le_of_ble_eq_true rfl⟩ dX4_debt_16 (by decide) (fun H locs hP hS => ?_)
  obtain ⟨h2, e2⟩ : ∃ z : St, z = (u2 h 0 3 0) := ⟨_, rfl⟩
  rw [← e2] at hP
  refine lv_if_eq (tgt := 24) hx hb dX4_debt_19 (by decide) (fun _ => ?_) (fun c3 => absurd (by decide) c3)
  refine lv_iconst (v := 0) hx hb dX4_debt_24 (by decide) ?_
  refine lv_istore_n (lv' := [(2, .int 0), (0, .ref (am 0)), (1, .int (nI a))]) hx hb dX4_debt_25 rfl hl (by decide) rfl (fun ls hl => ?_)
  refine lv_iconst (v := 0) hx hb dX4_debt_26 (by decide) ?_
  refine lv_istore_n (lv' := [(3, .int 0), (2, .int 0), (0, .ref (am 0)), (1, .int (nI a))]) hx hb dX4_debt_27 rfl hl (by decide) rfl (fun ls hl => ?_)
  have hloop28 : ∀ (d : Nat) (r : Nat) (x : Int32), r + d = rc → x = dbt h a r → ∀ (H : Heap) (locs : List Loc), va_P Z.1 vwCl (iw 22 (mF am (Z.2.1 0) h2)) H → va_S (fx_A 22 am s.heap.size) s.heap H locs → ∀ ls : Array Slot, lv_has ls 4 [(0, .ref (am 0)), (1, .int (nI a)), (2, .int x), (3, .int (nI r))] → W p l e (headSpec (fx_l yX4_debt cX4_debt 4 (some .int)) { frames := 1, cells := 0, slots := 0, locals := 23 }).room s m ([.ref (am 0), .int (nI a)] : List Value).toArray below meth c H locs 0 0 (vx_MQ below (fx_post Z 22 am (mF am (Z.2.1 0)) (pI (dbt h a rc) (u2 h 0 3 0)) s.heap.size) (fx_px Z 22 am (mF am (Z.2.1 0) h) (fun _ => False) s.heap.size) ([.ref (am 0), .int (nI a)] : List Value).toArray s 0 0 (fx_A 22 am s.heap.size)) (F0 m 28 ls []) := by
    intro d
    induction d with
    | zero =>
      intro r x hd hx2 H locs hP hS ls hl
      refine lv_iload_n hx hb dX4_debt_28 rfl (lv_at hl 3 rfl) ?_
      refine lv_aload_n hx hb dX4_debt_29 rfl (lv_at hl 0 rfl) ?_
      refine mg_receipts K hP dX4_debt_30 ?_
      rw [show h2 0 0 = h 0 0 from by rw [e2, u2_off _ _ (by omega)]]
      rw [hrc]
      refine lv_icmp_ge (tgt := 75) hx hb dX4_debt_33 (by decide) (fun _ => ?_) (fun c4 => absurd (nI_le (by omega) (by omega)) c4)
      refine lv_iload_n hx hb dX4_debt_75 rfl (lv_at hl 2 rfl) ?_
      exact fx_reti hx hb hr hlocks hP hS (Nat.le_of_ble_eq_true rfl) (Nat.le_of_ble_eq_true rfl) dX4_debt_76 ⟨(by rw [hx2, show r = rc by omega]), by simp only [e2]⟩
    | succ d ih28 =>
      intro r x hd hx2 H locs hP hS ls hl
      refine lv_iload_n hx hb dX4_debt_28 rfl (lv_at hl 3 rfl) ?_
      refine lv_aload_n hx hb dX4_debt_29 rfl (lv_at hl 0 rfl) ?_
      refine mg_receipts K hP dX4_debt_30 ?_
      rw [show h2 0 0 = h 0 0 from by rw [e2, u2_off _ _ (by omega)]]
      rw [hrc]
      refine lv_icmp_ge (tgt := 75) hx hb dX4_debt_33 (by decide) (fun c5 => absurd c5 (nI_ge (by omega) (by omega))) (fun _ => ?_)
      refine lv_iload_n hx hb dX4_debt_36 rfl (lv_at hl 2 rfl) ?_
      refine lv_aload_n hx hb dX4_debt_37 rfl (lv_at hl 0 rfl) ?_
      refine mg_rs K hP dX4_debt_38 ?_
      refine lv_iload_n hx hb dX4_debt_41 rfl (lv_at hl 3 rfl) ?_
      refine mr_ald K hP (by decide) (by decide) (n := 60) rfl (by omega) (by decide) dX4_debt_42 ?_
      rw [show h2 2 r = h 2 r from by rw [e2, u2_off _ _ (by omega)]]
      refine lv_iload_n hx hb dX4_debt_43 rfl (lv_at hl 1 rfl) ?_
      refine lv_icmp_ne (tgt := 66) hx hb dX4_debt_44 (by decide) (fun c6 => ?_) (fun c6 => ?_)
      · refine lv_iconst (v := 0) hx hb dX4_debt_66 (by decide) ?_
        refine lv_iadd hx hb dX4_debt_67 ?_
        refine lv_topi (fun v7 e7 => ?_)
        refine lv_istore_n (lv' := [(2, .int v7), (0, .ref (am 0)), (1, .int (nI a)), (3, .int (nI r))]) hx hb dX4_debt_68 rfl hl (by decide) rfl (fun ls hl => ?_)
        refine lv_iinc (v := nI (r + 1)) (lv' := [(3, .int (nI (r + 1))), (2, .int v7), (0, .ref (am 0)), (1, .int (nI a))]) hx hb dX4_debt_69 hl (k := 3) rfl (nI_1 _) (by decide) rfl (fun ls hl => ?_)
        refine lv_goto (tgt := 28) hx hb dX4_debt_72 (by decide) ?_
        exact ih28 (r + 1) v7 (by omega) (by rw [e7, hx2]; simp [dbt, c6]) H locs hP hS ls (lv_sub hl [2, 3, 1, 0] rfl)
      · refine lv_aload_n hx hb dX4_debt_47 rfl (lv_at hl 0 rfl) ?_
        refine mg_rk K hP dX4_debt_48 ?_
        refine lv_iload_n hx hb dX4_debt_51 rfl (lv_at hl 3 rfl) ?_
        refine mr_ald K hP (by decide) (by decide) (n := 60) rfl (by omega) (by decide) dX4_debt_52 ?_
        rw [show h2 7 r = h 7 r from by rw [e2, u2_off _ _ (by omega)]]
        refine lv_iconst (v := 4) hx hb dX4_debt_53 (by decide) ?_
        refine lv_icmp_eq (tgt := 66) hx hb dX4_debt_54 (by decide) (fun c8 => ?_) (fun c8 => ?_)
        · refine lv_iconst (v := 0) hx hb dX4_debt_66 (by decide) ?_
          refine lv_iadd hx hb dX4_debt_67 ?_
          refine lv_topi (fun v9 e9 => ?_)
          refine lv_istore_n (lv' := [(2, .int v9), (0, .ref (am 0)), (1, .int (nI a)), (3, .int (nI r))]) hx hb dX4_debt_68 rfl hl (by decide) rfl (fun ls hl => ?_)
          refine lv_iinc (v := nI (r + 1)) (lv' := [(3, .int (nI (r + 1))), (2, .int v9), (0, .ref (am 0)), (1, .int (nI a))]) hx hb dX4_debt_69 hl (k := 3) rfl (nI_1 _) (by decide) rfl (fun ls hl => ?_)
          refine lv_goto (tgt := 28) hx hb dX4_debt_72 (by decide) ?_
          exact ih28 (r + 1) v9 (by omega) (by rw [e9, hx2]; simp [dbt, c6, c8]) H locs hP hS ls (lv_sub hl [2, 3, 1, 0] rfl)
        · refine lv_aload_n hx hb dX4_debt_57 rfl (lv_at hl 0 rfl) ?_
          refine mg_rx K hP dX4_debt_58 ?_
          refine lv_iload_n hx hb dX4_debt_61 rfl (lv_at hl 3 rfl) ?_
          refine mr_ald K hP (by decide) (by decide) (n := 60) rfl (by omega) (by decide) dX4_debt_62 ?_
          rw [show h2 5 r = h 5 r from by rw [e2, u2_off _ _ (by omega)]]
          refine lv_goto (tgt := 67) hx hb dX4_debt_63 (by decide) ?_
          refine lv_iadd hx hb dX4_debt_67 ?_
          refine lv_topi (fun v10 e10 => ?_)
          refine lv_istore_n (lv' := [(2, .int v10), (0, .ref (am 0)), (1, .int (nI a)), (3, .int (nI r))]) hx hb dX4_debt_68 rfl hl (by decide) rfl (fun ls hl => ?_)
          refine lv_iinc (v := nI (r + 1)) (lv' := [(3, .int (nI (r + 1))), (2, .int v10), (0, .ref (am 0)), (1, .int (nI a))]) hx hb dX4_debt_69 hl (k := 3) rfl (nI_1 _) (by decide) rfl (fun ls hl => ?_)
          refine lv_goto (tgt := 28) hx hb dX4_debt_72 (by decide) ?_
          exact ih28 (r + 1) v10 (by omega) (by rw [e10, hx2]; simp [dbt, c6, c8]) H locs hP hS ls (lv_sub hl [2, 3, 1, 0] rfl)
  exact hloop28 rc 0 0 (by omega) rfl H locs hP hS ls (lv_sub hl [2, 3, 1, 0] rfl)

set_option maxHeartbeats 4000000 in
set_option maxRecDepth 100000 in
theorem c_X4_debt_1 (l : Launch) (Z : fx_Z) (am : Nat → Nat) (hinj : fx_inj 22 am) (h : St) (a : Int32) (ha : bad a 5) : fx_C l Z yX4_debt cX4_debt 4 (some .int) 1 23 0 0 22 am (mF am (Z.2.1 0)) h [.ref (am 0), .int a] (pI (-1) (u2 h 0 3 1)) (fun _ => False) := by
  intro sz
  refine vx_ofW (cc := cX4_debt) (maxL := 4) (ret := (some .int)) (by decide) rfl ?_
  intro p e s m args below meth c s₁ B hml hout hv
  obtain ⟨rfl, hsz, hP, hE, hSt⟩ := hv
  subst hsz
  have hx := B.exec
  have hb := B.bytes
  have hr := B.returns
  have hown : s.vm.findClass RX4 = some m.cls := findClass_of_methodNamed B.named
  have hlocks := B.notSynchronized
  have K : m_K p s m ([.ref (am 0), .int a] : List Value).toArray c cX4_debt 4 Z am := ⟨hx, hb, hml, hown, fun w hw => atoms_spec (ws := fx_l yX4_debt cX4_debt 4 (some .int)) B.pre w (List.mem_cons_of_mem _ hw), hE, hSt, hinj⟩
  have hS : va_S (fx_A 22 am s.heap.size) s.heap s.heap [] := va_S.rf
  have hl := lv_entry ([.ref (am 0), .int a]) (n := 4) (Nat.le_of_ble_eq_true rfl)
  rw [lg_entry_eq]
  generalize (lg_sl ([.ref (am 0), .int a]) ++ List.replicate (4 - (lg_sl ([.ref (am 0), .int a])).length) Slot.unset).toArray = ls at hl ⊢
  have hl : lv_has ls 4 [(0, .ref (am 0)), (1, .int a)] := hl
  refine lv_aload_n hx hb dX4_debt_0 rfl (lv_at hl 0 rfl) ?_
  refine lv_aload_n hx hb dX4_debt_1 rfl (lv_at hl 0 rfl) ?_
  refine lv_iload_n hx hb dX4_debt_2 rfl (lv_at hl 1 rfl) ?_
  refine lv_iconst (v := 0) hx hb dX4_debt_3 (by decide) ?_
  refine lv_iconst (v := 4) hx hb dX4_debt_4 (by decide) ?_
  refine m_callf (rest := [.ref (am 0)]) K hP hS (c_X4_in l Z am hinj h a 0 4) ok_X4_80 rfl ⟨Nat.le_of_ble_eq_true rfl, Nat.le_of_ble_eq_true rfl⟩ rfl hl.1 (Nat.le_of_ble_eq_true rfl) ⟨Nat.le_of_ble_eq_true rfl, Nat.le_of_ble_eq_true rfl⟩ dX4_debt_5 (nix4 ha) (fun H locs hP hS => ?_)
  refine lv_if_eq (tgt := 15) hx hb dX4_debt_8 (by decide) (fun _ => ?_) (fun c1 => absurd (by decide) c1)
  refine lv_iconst (v := 1) hx hb dX4_debt_15 (by decide) ?_
  refine m_callt (rest := []) K hP hS (c_X4_holds l Z am hinj h 1) ok_X4_87 rfl ⟨Nat.le_of_ble_eq_true rfl, Nat.le_of_ble_eq_true rfl⟩ rfl hl.1 (Nat.le_of_ble_eq_true rfl) ⟨Nat.le_of_ble_eq_true rfl, Nat.le_of_ble_eq_true rfl⟩ dX4_debt_16 (by decide) (fun H locs hP hS => ?_)
  obtain ⟨h2, e2⟩ : ∃ z : St, z = (u2 h 0 3 1) := ⟨_, rfl⟩
  rw [← e2] at hP
  refine lv_if_eq (tgt := 24) hx hb dX4_debt_19 (by decide) (fun c3 => absurd c3 (by decide)) (fun _ => ?_)
  refine lv_iconst (v := (-1)) hx hb dX4_debt_22 (by decide) ?_
  exact fx_reti hx hb hr hlocks hP hS (Nat.le_of_ble_eq_true rfl) (Nat.le_of_ble_eq_true rfl) dX4_debt_23 ⟨rfl, e2⟩

set_option maxHeartbeats 4000000 in
set_option maxRecDepth 100000 in
theorem c_X4_left (l : Launch) (Z : fx_Z) (am : Nat → Nat) (hinj : fx_inj 22 am) (h : St) (f : Nat) (hf : f < 20) : fx_C l Z yX4_left cX4_left 4 (some .int) 1 22 0 0 22 am (mF am (Z.2.1 0)) h [.ref (am 0), .int (nI f)] (pI (ml h f 10) h) (fun _ => False) := by
  intro sz
  refine vx_ofW (cc := cX4_left) (maxL := 4) (ret := (some .int)) (by decide) rfl ?_
  intro p e s m args below meth c s₁ B hml hout hv
  obtain ⟨rfl, hsz, hP, hE, hSt⟩ := hv
  subst hsz
  have hx := B.exec
  have hb := B.bytes
  have hr := B.returns
  have hown : s.vm.findClass RX4 = some m.cls := findClass_of_methodNamed B.named
  have hlocks := B.notSynchronized
  have K : m_K p s m ([.ref (am 0), .int (nI f)] : List Value).toArray c cX4_left 4 Z am := ⟨hx, hb, hml, hown, fun w hw => atoms_spec (ws := fx_l yX4_left cX4_left 4 (some .int)) B.pre w (List.mem_cons_of_mem _ hw), hE, hSt, hinj⟩
  have hS : va_S (fx_A 22 am s.heap.size) s.heap s.heap [] := va_S.rf
  have hl := lv_entry ([.ref (am 0), .int (nI f)]) (n := 4) (Nat.le_of_ble_eq_true rfl)
  rw [lg_entry_eq]
  generalize (lg_sl ([.ref (am 0), .int (nI f)]) ++ List.replicate (4 - (lg_sl ([.ref (am 0), .int (nI f)])).length) Slot.unset).toArray = ls at hl ⊢
  have hl : lv_has ls 4 [(0, .ref (am 0)), (1, .int (nI f))] := hl
  refine lv_aload_n hx hb dX4_left_0 rfl (lv_at hl 0 rfl) ?_
  refine mg_fs K hP dX4_left_1 ?_
  refine lv_iload_n hx hb dX4_left_4 rfl (lv_at hl 1 rfl) ?_
  refine mr_ald K hP (by decide) (by decide) (n := 20) rfl (by omega) (by decide) dX4_left_5 ?_
  refine lv_istore_n (lv' := [(2, .int (h 12 f)), (0, .ref (am 0)), (1, .int (nI f))]) hx hb dX4_left_6 rfl hl (by decide) rfl (fun ls hl => ?_)
  refine lv_iconst (v := 0) hx hb dX4_left_7 (by decide) ?_
  refine lv_istore_n (lv' := [(3, .int 0), (2, .int (h 12 f)), (0, .ref (am 0)), (1, .int (nI f))]) hx hb dX4_left_8 rfl hl (by decide) rfl (fun ls hl => ?_)
  have hloop9 : ∀ (d : Nat) (t : Nat) (x : Int32), t + d = 10 → x = ml h f t → ∀ (H : Heap) (locs : List Loc), va_P Z.1 vwCl (iw 22 (mF am (Z.2.1 0) h)) H → va_S (fx_A 22 am s.heap.size) s.heap H locs → ∀ ls : Array Slot, lv_has ls 4 [(0, .ref (am 0)), (1, .int (nI f)), (2, .int x), (3, .int (nI t))] → W p l e (headSpec (fx_l yX4_left cX4_left 4 (some .int)) { frames := 1, cells := 0, slots := 0, locals := 22 }).room s m ([.ref (am 0), .int (nI f)] : List Value).toArray below meth c H locs 0 0 (vx_MQ below (fx_post Z 22 am (mF am (Z.2.1 0)) (pI (ml h f 10) h) s.heap.size) (fx_px Z 22 am (mF am (Z.2.1 0) h) (fun _ => False) s.heap.size) ([.ref (am 0), .int (nI f)] : List Value).toArray s 0 0 (fx_A 22 am s.heap.size)) (F0 m 9 ls []) := by
    intro d
    induction d with
    | zero =>
      intro t x hd hx2 H locs hP hS ls hl
      refine lv_iload_n hx hb dX4_left_9 rfl (lv_at hl 3 rfl) ?_
      refine lv_bipush (v := 10) hx hb dX4_left_10 (by decide) ?_
      refine lv_icmp_ge (tgt := 38) hx hb dX4_left_12 (by decide) (fun _ => ?_) (fun c1 => absurd (nI_le (a := 10) (by omega) (by omega)) c1)
      refine lv_iload_n hx hb dX4_left_38 rfl (lv_at hl 2 rfl) ?_
      exact fx_reti hx hb hr hlocks hP hS (Nat.le_of_ble_eq_true rfl) (Nat.le_of_ble_eq_true rfl) dX4_left_39 ⟨(by rw [hx2, show t = 10 by omega]), rfl⟩
    | succ d ih9 =>
      intro t x hd hx2 H locs hP hS ls hl
      refine lv_iload_n hx hb dX4_left_9 rfl (lv_at hl 3 rfl) ?_
      refine lv_bipush (v := 10) hx hb dX4_left_10 (by decide) ?_
      refine lv_icmp_ge (tgt := 38) hx hb dX4_left_12 (by decide) (fun c2 => absurd c2 (nI_ge (b := 10) (by omega) (by omega))) (fun _ => ?_)
      refine lv_iload_n hx hb dX4_left_15 rfl (lv_at hl 2 rfl) ?_
      refine lv_aload_n hx hb dX4_left_16 rfl (lv_at hl 0 rfl) ?_
      refine lv_iload_n hx hb dX4_left_17 rfl (lv_at hl 3 rfl) ?_
      refine lv_iload_n hx hb dX4_left_18 rfl (lv_at hl 1 rfl) ?_
      refine m_callb (rest := [.int x]) K hP hS (c_X4_hasSeat l Z am hinj h t f (by omega)) ok_X4_97 rfl ⟨Nat.le_of_ble_eq_true rfl, Nat.le_of_ble_eq_true rfl⟩ rfl hl.1 (Nat.le_of_ble_eq_true rfl) ⟨Nat.le_of_ble_eq_true rfl, Nat.le_of_ble_eq_true rfl⟩ dX4_left_19 (fun c3 H locs hP hS => ?_) (fun c3 H locs hP hS => ?_)
      · refine lv_if_eq (tgt := 29) hx hb dX4_left_22 (by decide) (fun c4 => absurd c4 (by decide)) (fun _ => ?_)
        refine lv_iconst (v := 1) hx hb dX4_left_25 (by decide) ?_
        refine lv_goto (tgt := 30) hx hb dX4_left_26 (by decide) ?_
        refine lv_isub hx hb dX4_left_30 ?_
        refine lv_topi (fun v5 e5 => ?_)
        refine lv_istore_n (lv' := [(2, .int v5), (0, .ref (am 0)), (1, .int (nI f)), (3, .int (nI t))]) hx hb dX4_left_31 rfl hl (by decide) rfl (fun ls hl => ?_)
        refine lv_iinc (v := nI (t + 1)) (lv' := [(3, .int (nI (t + 1))), (2, .int v5), (0, .ref (am 0)), (1, .int (nI f))]) hx hb dX4_left_32 hl (k := 3) rfl (nI_1 _) (by decide) rfl (fun ls hl => ?_)
        refine lv_goto (tgt := 9) hx hb dX4_left_35 (by decide) ?_
        exact ih9 (t + 1) v5 (by omega) (by rw [e5, hx2]; simp [ml, mS, c3]) H locs hP hS ls (lv_sub hl [2, 3, 1, 0] rfl)
      · refine lv_if_eq (tgt := 29) hx hb dX4_left_22 (by decide) (fun _ => ?_) (fun c6 => absurd (by decide) c6)
        refine lv_iconst (v := 0) hx hb dX4_left_29 (by decide) ?_
        refine lv_isub hx hb dX4_left_30 ?_
        refine lv_topi (fun v7 e7 => ?_)
        refine lv_istore_n (lv' := [(2, .int v7), (0, .ref (am 0)), (1, .int (nI f)), (3, .int (nI t))]) hx hb dX4_left_31 rfl hl (by decide) rfl (fun ls hl => ?_)
        refine lv_iinc (v := nI (t + 1)) (lv' := [(3, .int (nI (t + 1))), (2, .int v7), (0, .ref (am 0)), (1, .int (nI f))]) hx hb dX4_left_32 hl (k := 3) rfl (nI_1 _) (by decide) rfl (fun ls hl => ?_)
        refine lv_goto (tgt := 9) hx hb dX4_left_35 (by decide) ?_
        exact ih9 (t + 1) v7 (by omega) (by rw [e7, hx2]; simp [ml, mS, c3]) H locs hP hS ls (lv_sub hl [2, 3, 1, 0] rfl)
  exact hloop9 10 0 (h 12 f) (by omega) rfl s.heap [] hP hS ls (lv_sub hl [2, 3, 1, 0] rfl)

set_option maxHeartbeats 4000000 in
set_option maxRecDepth 100000 in
theorem c_X4_seat_0 (l : Launch) (Z : fx_Z) (am : Nat → Nat) (hinj : fx_inj 22 am) (h : St) (fc : Nat) (t : Nat) (f : Nat) (ht9 : t < 10) (hff : f < fc) (hfc : h 0 1 = nI fc) (hf2 : fc ≤ 20) (hg : ¬ h 14 f = 1) (hm : ¬ ml h f 10 = 0) (hs : ¬ mS h f t) (hgo : ¬ h 16 t = 1) : fx_C l Z yX4_seat cX4_seat 4 (some .int) 2 45 0 0 22 am (mF am (Z.2.1 0)) h [.ref (am 0), .int (nI t), .int (nI f)] (pI (ml (u2 (u2 h 0 3 0) 13 f (h 13 f ||| (1 <<< (nI t &&& 31)))) f 10) (u2 (u2 h 0 3 0) 13 f (h 13 f ||| (1 <<< (nI t &&& 31))))) (fun _ => False) := by
  intro sz
  refine vx_ofW (cc := cX4_seat) (maxL := 4) (ret := (some .int)) (by decide) rfl ?_
  intro p e s m args below meth c s₁ B hml hout hv
  obtain ⟨rfl, hsz, hP, hE, hSt⟩ := hv
  subst hsz
  have hx := B.exec
  have hb := B.bytes
  have hr := B.returns
  have hown : s.vm.findClass RX4 = some m.cls := findClass_of_methodNamed B.named
  have hlocks := B.notSynchronized
  have K : m_K p s m ([.ref (am 0), .int (nI t), .int (nI f)] : List Value).toArray c cX4_seat 4 Z am := ⟨hx, hb, hml, hown, fun w hw => atoms_spec (ws := fx_l yX4_seat cX4_seat 4 (some .int)) B.pre w (List.mem_cons_of_mem _ hw), hE, hSt, hinj⟩
  have hS : va_S (fx_A 22 am s.heap.size) s.heap s.heap [] := va_S.rf
  have hl := lv_entry ([.ref (am 0), .int (nI t), .int (nI f)]) (n := 4) (Nat.le_of_ble_eq_true rfl)
  rw [lg_entry_eq]
  generalize (lg_sl ([.ref (am 0), .int (nI t), .int (nI f)]) ++ List.replicate (4 - (lg_sl ([.ref (am 0), .int (nI t), .int (nI f)])).length) Slot.unset).toArray = ls at hl ⊢
  have hl : lv_has ls 4 [(0, .ref (am 0)), (1, .int (nI t)), (2, .int (nI f))] := hl
  refine lv_aload_n hx hb dX4_seat_0 rfl (lv_at hl 0 rfl) ?_
  refine lv_iload_n hx hb dX4_seat_1 rfl (lv_at hl 1 rfl) ?_
  refine lv_iconst (v := 0) hx hb dX4_seat_2 (by decide) ?_
  refine lv_bipush (v := 9) hx hb dX4_seat_3 (by decide) ?_
  refine m_callt (rest := []) K hP hS (c_X4_in l Z am hinj h (nI t) 0 9) ok_X4_80 rfl ⟨Nat.le_of_ble_eq_true rfl, Nat.le_of_ble_eq_true rfl⟩ rfl hl.1 (Nat.le_of_ble_eq_true rfl) ⟨Nat.le_of_ble_eq_true rfl, Nat.le_of_ble_eq_true rfl⟩ dX4_seat_5 (ix9 ht9) (fun H locs hP hS => ?_)
  refine lv_if_eq (tgt := 23) hx hb dX4_seat_8 (by decide) (fun c1 => absurd c1 (by decide)) (fun _ => ?_)
  refine lv_aload_n hx hb dX4_seat_11 rfl (lv_at hl 0 rfl) ?_
  refine lv_iload_n hx hb dX4_seat_12 rfl (lv_at hl 2 rfl) ?_
  refine m_callt (rest := []) K hP hS (c_X4_isFerry l Z am hinj h (nI f)) ok_X4_101 rfl ⟨Nat.le_of_ble_eq_true rfl, Nat.le_of_ble_eq_true rfl⟩ rfl hl.1 (Nat.le_of_ble_eq_true rfl) ⟨Nat.le_of_ble_eq_true rfl, Nat.le_of_ble_eq_true rfl⟩ dX4_seat_13 (isF_t hfc hf2 hff) (fun H locs hP hS => ?_)
  refine lv_if_eq (tgt := 23) hx hb dX4_seat_16 (by decide) (fun c2 => absurd c2 (by decide)) (fun _ => ?_)
  refine lv_iconst (v := 1) hx hb dX4_seat_19 (by decide) ?_
  refine lv_goto (tgt := 24) hx hb dX4_seat_20 (by decide) ?_
  refine lv_istore_n (lv' := [(3, .int 1), (0, .ref (am 0)), (1, .int (nI t)), (2, .int (nI f))]) hx hb dX4_seat_24 rfl hl (by decide) rfl (fun ls hl => ?_)
  refine lv_aload_n hx hb dX4_seat_25 rfl (lv_at hl 1 rfl) ?_
  refine lv_iload_n hx hb dX4_seat_26 rfl (lv_at hl 0 rfl) ?_
  refine lv_if_ne (tgt := 34) hx hb dX4_seat_27 (by decide) (fun _ => ?_) (fun c3 => absurd c3 (by decide))
  refine lv_aload_n hx hb dX4_seat_34 rfl (lv_at hl 1 rfl) ?_
  refine mg_fg K hP dX4_seat_35 ?_
  refine lv_iload_n hx hb dX4_seat_38 rfl (lv_at hl 3 rfl) ?_
  refine mr_ald K hP (by decide) (by decide) (n := 20) rfl (by omega) (by decide) dX4_seat_39 ?_
  refine lv_iconst (v := 1) hx hb dX4_seat_40 (by decide) ?_
  refine lv_icmp_eq (tgt := 71) hx hb dX4_seat_41 (by decide) (fun c4 => absurd c4 hg) (fun _ => ?_)
  refine lv_aload_n hx hb dX4_seat_44 rfl (lv_at hl 1 rfl) ?_
  refine lv_iload_n hx hb dX4_seat_45 rfl (lv_at hl 3 rfl) ?_
  refine m_calli (rest := [.ref (am 0)]) K hP hS (c_X4_left l Z am hinj h f (by omega)) ok_X4_104 rfl ⟨Nat.le_of_ble_eq_true rfl, Nat.le_of_ble_eq_true rfl⟩ rfl hl.1 (Nat.le_of_ble_eq_true rfl) ⟨Nat.le_of_ble_eq_true rfl, Nat.le_of_ble_eq_true rfl⟩ dX4_seat_46 (fun H locs hP hS => ?_)
  refine lv_topi (fun v5 e5 => ?_)
  refine lv_if_eq (tgt := 71) hx hb dX4_seat_49 (by decide) (fun c6 => absurd c6 (by rw [e5]; exact hm)) (fun _ => ?_)
  refine lv_aload_n hx hb dX4_seat_52 rfl (lv_at hl 1 rfl) ?_
  refine lv_iload_n hx hb dX4_seat_53 rfl (lv_at hl 2 rfl) ?_
  refine lv_iload_n hx hb dX4_seat_54 rfl (lv_at hl 3 rfl) ?_
  refine m_callf (rest := [.ref (am 0)]) K hP hS (c_X4_hasSeat l Z am hinj h t f (by omega)) ok_X4_97 rfl ⟨Nat.le_of_ble_eq_true rfl, Nat.le_of_ble_eq_true rfl⟩ rfl hl.1 (Nat.le_of_ble_eq_true rfl) ⟨Nat.le_of_ble_eq_true rfl, Nat.le_of_ble_eq_true rfl⟩ dX4_seat_55 hs (fun H locs hP hS => ?_)
  refine lv_if_ne (tgt := 71) hx hb dX4_seat_58 (by decide) (fun c7 => absurd (by decide) c7) (fun _ => ?_)
  refine lv_aload_n hx hb dX4_seat_61 rfl (lv_at hl 1 rfl) ?_
  refine mg_gone K hP dX4_seat_62 ?_
  refine lv_iload_n hx hb dX4_seat_65 rfl (lv_at hl 2 rfl) ?_
  refine mr_ald K hP (by decide) (by decide) (n := 10) rfl (by omega) (by decide) dX4_seat_66 ?_
  refine lv_iconst (v := 1) hx hb dX4_seat_67 (by decide) ?_
  refine lv_icmp_ne (tgt := 75) hx hb dX4_seat_68 (by decide) (fun _ => ?_) (fun c8 => absurd c8 hgo)
  refine lv_iconst (v := 0) hx hb dX4_seat_75 (by decide) ?_
  refine m_callf (rest := []) K hP hS (c_X4_holds l Z am hinj h 0) ok_X4_87 rfl ⟨Nat.le_of_ble_eq_true rfl, Nat.le_of_ble_eq_true rfl⟩ rfl hl.1 (Nat.le_of_ble_eq_true rfl) ⟨Nat.le_of_ble_eq_true rfl, Nat.le_of_ble_eq_true rfl⟩ dX4_seat_76 (by decide) (fun H locs hP hS => ?_)
  obtain ⟨h9, e9⟩ : ∃ z : St, z = (u2 h 0 3 0) := ⟨_, rfl⟩
  rw [← e9] at hP
  refine lv_if_eq (tgt := 84) hx hb dX4_seat_79 (by decide) (fun _ => ?_) (fun c10 => absurd (by decide) c10)
  refine lv_aload_n hx hb dX4_seat_84 rfl (lv_at hl 1 rfl) ?_
  refine mg_fw K hP dX4_seat_85 ?_
  refine lv_iload_n hx hb dX4_seat_88 rfl (lv_at hl 3 rfl) ?_
  refine lv_dup2_11 hx hb dX4_seat_89 rfl rfl ?_
  refine mr_ald K hP (by decide) (by decide) (n := 20) rfl (by omega) (by decide) dX4_seat_90 ?_
  rw [show h9 13 f = h 13 f from by rw [e9, u2_off _ _ (by omega)]]
  refine lv_iconst (v := 1) hx hb dX4_seat_91 (by decide) ?_
  refine lv_iload_n hx hb dX4_seat_92 rfl (lv_at hl 2 rfl) ?_
  refine lv_ishl hx hb dX4_seat_93 ?_
  refine lv_topi (fun v11 e11 => ?_)
  refine lv_ior hx hb dX4_seat_94 ?_
  refine lv_topi (fun v12 e12 => ?_)
  refine mr_ast K hP hS (by decide) (by decide) (n := 20) rfl (by omega) (by decide) dX4_seat_95 (fun h13 H locs e13 hP hS => ?_)
  refine lv_aload_n hx hb dX4_seat_96 rfl (lv_at hl 1 rfl) ?_
  refine lv_iload_n hx hb dX4_seat_97 rfl (lv_at hl 3 rfl) ?_
  refine m_calli (rest := []) K hP hS (c_X4_left l Z am hinj h13 f (by omega)) ok_X4_104 rfl ⟨Nat.le_of_ble_eq_true rfl, Nat.le_of_ble_eq_true rfl⟩ rfl hl.1 (Nat.le_of_ble_eq_true rfl) ⟨Nat.le_of_ble_eq_true rfl, Nat.le_of_ble_eq_true rfl⟩ dX4_seat_98 (fun H locs hP hS => ?_)
  refine lv_topi (fun v14 e14 => ?_)
  exact fx_reti hx hb hr hlocks hP hS (Nat.le_of_ble_eq_true rfl) (Nat.le_of_ble_eq_true rfl) dX4_seat_101 ⟨by simp only [e5, e9, e11, e12, e13, e14], by simp only [e5, e9, e11, e12, e13, e14]⟩

set_option maxHeartbeats 4000000 in
set_option maxRecDepth 100000 in
theorem c_X4_seat_1 (l : Launch) (Z : fx_Z) (am : Nat → Nat) (hinj : fx_inj 22 am) (h : St) (fc : Nat) (t : Int32) (f : Int32) (hfc : h 0 1 = nI fc) (hf2 : fc ≤ 20) (hbad : bad t 10 ∨ bad f fc) : fx_C l Z yX4_seat cX4_seat 4 (some .int) 2 44 0 0 22 am (mF am (Z.2.1 0)) h [.ref (am 0), .int t, .int f] (pI (-1) (u2 h 0 3 1)) (fun _ => False) := by
  intro sz
  refine vx_ofW (cc := cX4_seat) (maxL := 4) (ret := (some .int)) (by decide) rfl ?_
  intro p e s m args below meth c s₁ B hml hout hv
  obtain ⟨rfl, hsz, hP, hE, hSt⟩ := hv
  subst hsz
  have hx := B.exec
  have hb := B.bytes
  have hr := B.returns
  have hown : s.vm.findClass RX4 = some m.cls := findClass_of_methodNamed B.named
  have hlocks := B.notSynchronized
  have K : m_K p s m ([.ref (am 0), .int t, .int f] : List Value).toArray c cX4_seat 4 Z am := ⟨hx, hb, hml, hown, fun w hw => atoms_spec (ws := fx_l yX4_seat cX4_seat 4 (some .int)) B.pre w (List.mem_cons_of_mem _ hw), hE, hSt, hinj⟩
  have hS : va_S (fx_A 22 am s.heap.size) s.heap s.heap [] := va_S.rf
  have hl := lv_entry ([.ref (am 0), .int t, .int f]) (n := 4) (Nat.le_of_ble_eq_true rfl)
  rw [lg_entry_eq]
  generalize (lg_sl ([.ref (am 0), .int t, .int f]) ++ List.replicate (4 - (lg_sl ([.ref (am 0), .int t, .int f])).length) Slot.unset).toArray = ls at hl ⊢
  have hl : lv_has ls 4 [(0, .ref (am 0)), (1, .int t), (2, .int f)] := hl
  refine lv_aload_n hx hb dX4_seat_0 rfl (lv_at hl 0 rfl) ?_
  refine lv_iload_n hx hb dX4_seat_1 rfl (lv_at hl 1 rfl) ?_
  refine lv_iconst (v := 0) hx hb dX4_seat_2 (by decide) ?_
  refine lv_bipush (v := 9) hx hb dX4_seat_3 (by decide) ?_
  refine m_callb (rest := []) K hP hS (c_X4_in l Z am hinj h t 0 9) ok_X4_80 rfl ⟨Nat.le_of_ble_eq_true rfl, Nat.le_of_ble_eq_true rfl⟩ rfl hl.1 (Nat.le_of_ble_eq_true rfl) ⟨Nat.le_of_ble_eq_true rfl, Nat.le_of_ble_eq_true rfl⟩ dX4_seat_5 (fun c1 H locs hP hS => ?_) (fun c1 H locs hP hS => ?_)
  · refine lv_if_eq (tgt := 23) hx hb dX4_seat_8 (by decide) (fun c2 => absurd c2 (by decide)) (fun _ => ?_)
    refine lv_aload_n hx hb dX4_seat_11 rfl (lv_at hl 0 rfl) ?_
    refine lv_iload_n hx hb dX4_seat_12 rfl (lv_at hl 2 rfl) ?_
    refine m_callb (rest := []) K hP hS (c_X4_isFerry l Z am hinj h f) ok_X4_101 rfl ⟨Nat.le_of_ble_eq_true rfl, Nat.le_of_ble_eq_true rfl⟩ rfl hl.1 (Nat.le_of_ble_eq_true rfl) ⟨Nat.le_of_ble_eq_true rfl, Nat.le_of_ble_eq_true rfl⟩ dX4_seat_13 (fun c3 H locs hP hS => ?_) (fun c3 H locs hP hS => ?_)
    · exact absurd hbad (nbad2 hfc hf2 c1 c3)
    · refine lv_if_eq (tgt := 23) hx hb dX4_seat_16 (by decide) (fun _ => ?_) (fun c4 => absurd (by decide) c4)
      refine lv_iconst (v := 0) hx hb dX4_seat_23 (by decide) ?_
      refine lv_istore_n (lv' := [(3, .int 0), (0, .ref (am 0)), (1, .int t), (2, .int f)]) hx hb dX4_seat_24 rfl hl (by decide) rfl (fun ls hl => ?_)
      refine lv_aload_n hx hb dX4_seat_25 rfl (lv_at hl 1 rfl) ?_
      refine lv_iload_n hx hb dX4_seat_26 rfl (lv_at hl 0 rfl) ?_
      refine lv_if_ne (tgt := 34) hx hb dX4_seat_27 (by decide) (fun c5 => absurd (by decide) c5) (fun _ => ?_)
      refine lv_iconst (v := 1) hx hb dX4_seat_30 (by decide) ?_
      refine lv_goto (tgt := 76) hx hb dX4_seat_31 (by decide) ?_
      refine m_callt (rest := []) K hP hS (c_X4_holds l Z am hinj h 1) ok_X4_87 rfl ⟨Nat.le_of_ble_eq_true rfl, Nat.le_of_ble_eq_true rfl⟩ rfl hl.1 (Nat.le_of_ble_eq_true rfl) ⟨Nat.le_of_ble_eq_true rfl, Nat.le_of_ble_eq_true rfl⟩ dX4_seat_76 (by decide) (fun H locs hP hS => ?_)
      obtain ⟨h6, e6⟩ : ∃ z : St, z = (u2 h 0 3 1) := ⟨_, rfl⟩
      rw [← e6] at hP
      refine lv_if_eq (tgt := 84) hx hb dX4_seat_79 (by decide) (fun c7 => absurd c7 (by decide)) (fun _ => ?_)
      refine lv_iconst (v := (-1)) hx hb dX4_seat_82 (by decide) ?_
      exact fx_reti hx hb hr hlocks hP hS (Nat.le_of_ble_eq_true rfl) (Nat.le_of_ble_eq_true rfl) dX4_seat_83 ⟨rfl, e6⟩
  · refine lv_if_eq (tgt := 23) hx hb dX4_seat_8 (by decide) (fun _ => ?_) (fun c8 => absurd (by decide) c8)
    refine lv_iconst (v := 0) hx hb dX4_seat_23 (by decide) ?_
    refine lv_istore_n (lv' := [(3, .int 0), (0, .ref (am 0)), (1, .int t), (2, .int f)]) hx hb dX4_seat_24 rfl hl (by decide) rfl (fun ls hl => ?_)
    refine lv_aload_n hx hb dX4_seat_25 rfl (lv_at hl 1 rfl) ?_
    refine lv_iload_n hx hb dX4_seat_26 rfl (lv_at hl 0 rfl) ?_
    refine lv_if_ne (tgt := 34) hx hb dX4_seat_27 (by decide) (fun c9 => absurd (by decide) c9) (fun _ => ?_)
    refine lv_iconst (v := 1) hx hb dX4_seat_30 (by decide) ?_
    refine lv_goto (tgt := 76) hx hb dX4_seat_31 (by decide) ?_
    refine m_callt (rest := []) K hP hS (c_X4_holds l Z am hinj h 1) ok_X4_87 rfl ⟨Nat.le_of_ble_eq_true rfl, Nat.le_of_ble_eq_true rfl⟩ rfl hl.1 (Nat.le_of_ble_eq_true rfl) ⟨Nat.le_of_ble_eq_true rfl, Nat.le_of_ble_eq_true rfl⟩ dX4_seat_76 (by decide) (fun H locs hP hS => ?_)
    obtain ⟨h10, e10⟩ : ∃ z : St, z = (u2 h 0 3 1) := ⟨_, rfl⟩
    rw [← e10] at hP
    refine lv_if_eq (tgt := 84) hx hb dX4_seat_79 (by decide) (fun c11 => absurd c11 (by decide)) (fun _ => ?_)
    refine lv_iconst (v := (-1)) hx hb dX4_seat_82 (by decide) ?_
    exact fx_reti hx hb hr hlocks hP hS (Nat.le_of_ble_eq_true rfl) (Nat.le_of_ble_eq_true rfl) dX4_seat_83 ⟨rfl, e10⟩

set_option maxHeartbeats 4000000 in
set_option maxRecDepth 100000 in
theorem c_X4_seat_2 (l : Launch) (Z : fx_Z) (am : Nat → Nat) (hinj : fx_inj 22 am) (h : St) (fc : Nat) (t : Nat) (f : Nat) (ht9 : t < 10) (hff : f < fc) (hfc : h 0 1 = nI fc) (hf2 : fc ≤ 20) (hbad : h 14 f = 1 ∨ ml h f 10 = 0 ∨ mS h f t ∨ h 16 t = 1) : fx_C l Z yX4_seat cX4_seat 4 (some .int) 2 45 0 0 22 am (mF am (Z.2.1 0)) h [.ref (am 0), .int (nI t), .int (nI f)] (pI (-1) (u2 h 0 3 2)) (fun _ => False) := by
  intro sz
  refine vx_ofW (cc := cX4_seat) (maxL := 4) (ret := (some .int)) (by decide) rfl ?_
  intro p e s m args below meth c s₁ B hml hout hv
  obtain ⟨rfl, hsz, hP, hE, hSt⟩ := hv
  subst hsz
  have hx := B.exec
  have hb := B.bytes
  have hr := B.returns
  have hown : s.vm.findClass RX4 = some m.cls := findClass_of_methodNamed B.named
  have hlocks := B.notSynchronized
  have K : m_K p s m ([.ref (am 0), .int (nI t), .int (nI f)] : List Value).toArray c cX4_seat 4 Z am := ⟨hx, hb, hml, hown, fun w hw => atoms_spec (ws := fx_l yX4_seat cX4_seat 4 (some .int)) B.pre w (List.mem_cons_of_mem _ hw), hE, hSt, hinj⟩
  have hS : va_S (fx_A 22 am s.heap.size) s.heap s.heap [] := va_S.rf
  have hl := lv_entry ([.ref (am 0), .int (nI t), .int (nI f)]) (n := 4) (Nat.le_of_ble_eq_true rfl)
  rw [lg_entry_eq]
  generalize (lg_sl ([.ref (am 0), .int (nI t), .int (nI f)]) ++ List.replicate (4 - (lg_sl ([.ref (am 0), .int (nI t), .int (nI f)])).length) Slot.unset).toArray = ls at hl ⊢
  have hl : lv_has ls 4 [(0, .ref (am 0)), (1, .int (nI t)), (2, .int (nI f))] := hl
  refine lv_aload_n hx hb dX4_seat_0 rfl (lv_at hl 0 rfl) ?_
  refine lv_iload_n hx hb dX4_seat_1 rfl (lv_at hl 1 rfl) ?_
  refine lv_iconst (v := 0) hx hb dX4_seat_2 (by decide) ?_
  refine lv_bipush (v := 9) hx hb dX4_seat_3 (by decide) ?_
  refine m_callt (rest := []) K hP hS (c_X4_in l Z am hinj h (nI t) 0 9) ok_X4_80 rfl ⟨Nat.le_of_ble_eq_true rfl, Nat.le_of_ble_eq_true rfl⟩ rfl hl.1 (Nat.le_of_ble_eq_true rfl) ⟨Nat.le_of_ble_eq_true rfl, Nat.le_of_ble_eq_true rfl⟩ dX4_seat_5 (ix9 ht9) (fun H locs hP hS => ?_)
  refine lv_if_eq (tgt := 23) hx hb dX4_seat_8 (by decide) (fun c1 => absurd c1 (by decide)) (fun _ => ?_)
  refine lv_aload_n hx hb dX4_seat_11 rfl (lv_at hl 0 rfl) ?_
  refine lv_iload_n hx hb dX4_seat_12 rfl (lv_at hl 2 rfl) ?_
  refine m_callt (rest := []) K hP hS (c_X4_isFerry l Z am hinj h (nI f)) ok_X4_101 rfl ⟨Nat.le_of_ble_eq_true rfl, Nat.le_of_ble_eq_true rfl⟩ rfl hl.1 (Nat.le_of_ble_eq_true rfl) ⟨Nat.le_of_ble_eq_true rfl, Nat.le_of_ble_eq_true rfl⟩ dX4_seat_13 (isF_t hfc hf2 hff) (fun H locs hP hS => ?_)
  refine lv_if_eq (tgt := 23) hx hb dX4_seat_16 (by decide) (fun c2 => absurd c2 (by decide)) (fun _ => ?_)
  refine lv_iconst (v := 1) hx hb dX4_seat_19 (by decide) ?_
  refine lv_goto (tgt := 24) hx hb dX4_seat_20 (by decide) ?_
  refine lv_istore_n (lv' := [(3, .int 1), (0, .ref (am 0)), (1, .int (nI t)), (2, .int (nI f))]) hx hb dX4_seat_24 rfl hl (by decide) rfl (fun ls hl => ?_)
  refine lv_aload_n hx hb dX4_seat_25 rfl (lv_at hl 1 rfl) ?_
  refine lv_iload_n hx hb dX4_seat_26 rfl (lv_at hl 0 rfl) ?_
  refine lv_if_ne (tgt := 34) hx hb dX4_seat_27 (by decide) (fun _ => ?_) (fun c3 => absurd c3 (by decide))
  refine lv_aload_n hx hb dX4_seat_34 rfl (lv_at hl 1 rfl) ?_
  refine mg_fg K hP dX4_seat_35 ?_
  refine lv_iload_n hx hb dX4_seat_38 rfl (lv_at hl 3 rfl) ?_
  refine mr_ald K hP (by decide) (by decide) (n := 20) rfl (by omega) (by decide) dX4_seat_39 ?_
  refine lv_iconst (v := 1) hx hb dX4_seat_40 (by decide) ?_
  refine lv_icmp_eq (tgt := 71) hx hb dX4_seat_41 (by decide) (fun c4 => ?_) (fun c4 => ?_)
  · refine lv_iconst (v := 2) hx hb dX4_seat_71 (by decide) ?_
    refine lv_goto (tgt := 76) hx hb dX4_seat_72 (by decide) ?_
    refine m_callt (rest := []) K hP hS (c_X4_holds l Z am hinj h 2) ok_X4_87 rfl ⟨Nat.le_of_ble_eq_true rfl, Nat.le_of_ble_eq_true rfl⟩ rfl hl.1 (Nat.le_of_ble_eq_true rfl) ⟨Nat.le_of_ble_eq_true rfl, Nat.le_of_ble_eq_true rfl⟩ dX4_seat_76 (by decide) (fun H locs hP hS => ?_)
    obtain ⟨h5, e5⟩ : ∃ z : St, z = (u2 h 0 3 2) := ⟨_, rfl⟩
    rw [← e5] at hP
    refine lv_if_eq (tgt := 84) hx hb dX4_seat_79 (by decide) (fun c6 => absurd c6 (by decide)) (fun _ => ?_)
    refine lv_iconst (v := (-1)) hx hb dX4_seat_82 (by decide) ?_
    exact fx_reti hx hb hr hlocks hP hS (Nat.le_of_ble_eq_true rfl) (Nat.le_of_ble_eq_true rfl) dX4_seat_83 ⟨rfl, e5⟩
  · refine lv_aload_n hx hb dX4_seat_44 rfl (lv_at hl 1 rfl) ?_
    refine lv_iload_n hx hb dX4_seat_45 rfl (lv_at hl 3 rfl) ?_
    refine m_calli (rest := [.ref (am 0)]) K hP hS (c_X4_left l Z am hinj h f (by omega)) ok_X4_104 rfl ⟨Nat.le_of_ble_eq_true rfl, Nat.le_of_ble_eq_true rfl⟩ rfl hl.1 (Nat.le_of_ble_eq_true rfl) ⟨Nat.le_of_ble_eq_true rfl, Nat.le_of_ble_eq_true rfl⟩ dX4_seat_46 (fun H locs hP hS => ?_)
    refine lv_topi (fun v7 e7 => ?_)
    refine lv_if_eq (tgt := 71) hx hb dX4_seat_49 (by decide) (fun c8 => ?_) (fun c8 => ?_)
    · refine lv_iconst (v := 2) hx hb dX4_seat_71 (by decide) ?_
      refine lv_goto (tgt := 76) hx hb dX4_seat_72 (by decide) ?_
      refine m_callt (rest := []) K hP hS (c_X4_holds l Z am hinj h 2) ok_X4_87 rfl ⟨Nat.le_of_ble_eq_true rfl, Nat.le_of_ble_eq_true rfl⟩ rfl hl.1 (Nat.le_of_ble_eq_true rfl) ⟨Nat.le_of_ble_eq_true rfl, Nat.le_of_ble_eq_true rfl⟩ dX4_seat_76 (by decide) (fun H locs hP hS => ?_)
      obtain ⟨h9, e9⟩ : ∃ z : St, z = (u2 h 0 3 2) := ⟨_, rfl⟩
      rw [← e9] at hP
      refine lv_if_eq (tgt := 84) hx hb dX4_seat_79 (by decide) (fun c10 => absurd c10 (by decide)) (fun _ => ?_)
      refine lv_iconst (v := (-1)) hx hb dX4_seat_82 (by decide) ?_
      exact fx_reti hx hb hr hlocks hP hS (Nat.le_of_ble_eq_true rfl) (Nat.le_of_ble_eq_true rfl) dX4_seat_83 ⟨rfl, e9⟩
    · refine lv_aload_n hx hb dX4_seat_52 rfl (lv_at hl 1 rfl) ?_
      refine lv_iload_n hx hb dX4_seat_53 rfl (lv_at hl 2 rfl) ?_
      refine lv_iload_n hx hb dX4_seat_54 rfl (lv_at hl 3 rfl) ?_
      refine m_callb (rest := [.ref (am 0)]) K hP hS (c_X4_hasSeat l Z am hinj h t f (by omega)) ok_X4_97 rfl ⟨Nat.le_of_ble_eq_true rfl, Nat.le_of_ble_eq_true rfl⟩ rfl hl.1 (Nat.le_of_ble_eq_true rfl) ⟨Nat.le_of_ble_eq_true rfl, Nat.le_of_ble_eq_true rfl⟩ dX4_seat_55 (fun c11 H locs hP hS => ?_) (fun c11 H locs hP hS => ?_)
      · refine lv_if_ne (tgt := 71) hx hb dX4_seat_58 (by decide) (fun _ => ?_) (fun c12 => absurd c12 (by decide))
        refine lv_iconst (v := 2) hx hb dX4_seat_71 (by decide) ?_
        refine lv_goto (tgt := 76) hx hb dX4_seat_72 (by decide) ?_
        refine m_callt (rest := []) K hP hS (c_X4_holds l Z am hinj h 2) ok_X4_87 rfl ⟨Nat.le_of_ble_eq_true rfl, Nat.le_of_ble_eq_true rfl⟩ rfl hl.1 (Nat.le_of_ble_eq_true rfl) ⟨Nat.le_of_ble_eq_true rfl, Nat.le_of_ble_eq_true rfl⟩ dX4_seat_76 (by decide) (fun H locs hP hS => ?_)
        obtain ⟨h13, e13⟩ : ∃ z : St, z = (u2 h 0 3 2) := ⟨_, rfl⟩
        rw [← e13] at hP
        refine lv_if_eq (tgt := 84) hx hb dX4_seat_79 (by decide) (fun c14 => absurd c14 (by decide)) (fun _ => ?_)
        refine lv_iconst (v := (-1)) hx hb dX4_seat_82 (by decide) ?_
        exact fx_reti hx hb hr hlocks hP hS (Nat.le_of_ble_eq_true rfl) (Nat.le_of_ble_eq_true rfl) dX4_seat_83 ⟨rfl, e13⟩
      · refine lv_if_ne (tgt := 71) hx hb dX4_seat_58 (by decide) (fun c15 => absurd (by decide) c15) (fun _ => ?_)
        refine lv_aload_n hx hb dX4_seat_61 rfl (lv_at hl 1 rfl) ?_
        refine mg_gone K hP dX4_seat_62 ?_
        refine lv_iload_n hx hb dX4_seat_65 rfl (lv_at hl 2 rfl) ?_
        refine mr_ald K hP (by decide) (by decide) (n := 10) rfl (by omega) (by decide) dX4_seat_66 ?_
        refine lv_iconst (v := 1) hx hb dX4_seat_67 (by decide) ?_
        refine lv_icmp_ne (tgt := 75) hx hb dX4_seat_68 (by decide) (fun c16 => ?_) (fun c16 => ?_)
        · exact absurd hbad (by simp only [not_or]; exact ⟨c4, fun q => c8 (e7.trans q), c11, c16⟩)
        · refine lv_iconst (v := 2) hx hb dX4_seat_71 (by decide) ?_
          refine lv_goto (tgt := 76) hx hb dX4_seat_72 (by decide) ?_
          refine m_callt (rest := []) K hP hS (c_X4_holds l Z am hinj h 2) ok_X4_87 rfl ⟨Nat.le_of_ble_eq_true rfl, Nat.le_of_ble_eq_true rfl⟩ rfl hl.1 (Nat.le_of_ble_eq_true rfl) ⟨Nat.le_of_ble_eq_true rfl, Nat.le_of_ble_eq_true rfl⟩ dX4_seat_76 (by decide) (fun H locs hP hS => ?_)
          obtain ⟨h17, e17⟩ : ∃ z : St, z = (u2 h 0 3 2) := ⟨_, rfl⟩
          rw [← e17] at hP
          refine lv_if_eq (tgt := 84) hx hb dX4_seat_79 (by decide) (fun c18 => absurd c18 (by decide)) (fun _ => ?_)
          refine lv_iconst (v := (-1)) hx hb dX4_seat_82 (by decide) ?_
          exact fx_reti hx hb hr hlocks hP hS (Nat.le_of_ble_eq_true rfl) (Nat.le_of_ble_eq_true rfl) dX4_seat_83 ⟨rfl, e17⟩

set_option maxHeartbeats 4000000 in
set_option maxRecDepth 100000 in
theorem c_X4_leaveSeat_0a (l : Launch) (Z : fx_Z) (am : Nat → Nat) (hinj : fx_inj 22 am) (h : St) (fc : Nat) (rc : Nat) (t : Nat) (f : Nat) (ht9 : t < 10) (hff : f < fc) (hfc : h 0 1 = nI fc) (hf2 : fc ≤ 20) (hrc : h 0 0 = nI rc) (hr6 : rc ≤ 60) (hg : ¬ h 14 f = 1) (hs : mS h f t) (hab : h 15 t = nI f) : fx_C l Z yX4_leaveSeat cX4_leaveSeat 6 (some .int) 2 44 0 0 22 am (mF am (Z.2.1 0)) h [.ref (am 0), .int (nI t), .int (nI f)] (pI (nI (nRo (u2 (u2 (u2 h 0 3 0) 13 f (h 13 f &&& ((1 <<< (nI t &&& 31)) ^^^ (-1)))) 15 t (-1)) t f rc)) (cRo (u2 (u2 (u2 h 0 3 0) 13 f (h 13 f &&& ((1 <<< (nI t &&& 31)) ^^^ (-1)))) 15 t (-1)) t f rc)) (fun _ => False) := by
  intro sz
  refine vx_ofW (cc := cX4_leaveSeat) (maxL := 6) (ret := (some .int)) (by decide) rfl ?_
  intro p e s m args below meth c s₁ B hml hout hv
  obtain ⟨rfl, hsz, hP, hE, hSt⟩ := hv
  subst hsz
  have hx := B.exec
  have hb := B.bytes
  have hr := B.returns
  have hown : s.vm.findClass RX4 = some m.cls := findClass_of_methodNamed B.named
  have hlocks := B.notSynchronized
  have K : m_K p s m ([.ref (am 0), .int (nI t), .int (nI f)] : List Value).toArray c cX4_leaveSeat 6 Z am := ⟨hx, hb, hml, hown, fun w hw => atoms_spec (ws := fx_l yX4_leaveSeat cX4_leaveSeat 6 (some .int)) B.pre w (List.mem_cons_of_mem _ hw), hE, hSt, hinj⟩
  have hS : va_S (fx_A 22 am s.heap.size) s.heap s.heap [] := va_S.rf
  have hl := lv_entry ([.ref (am 0), .int (nI t), .int (nI f)]) (n := 6) (Nat.le_of_ble_eq_true rfl)
  rw [lg_entry_eq]
  generalize (lg_sl ([.ref (am 0), .int (nI t), .int (nI f)]) ++ List.replicate (6 - (lg_sl ([.ref (am 0), .int (nI t), .int (nI f)])).length) Slot.unset).toArray = ls at hl ⊢
  have hl : lv_has ls 6 [(0, .ref (am 0)), (1, .int (nI t)), (2, .int (nI f))] := hl
  refine lv_aload_n hx hb dX4_leaveSeat_0 rfl (lv_at hl 0 rfl) ?_
  refine lv_iload_n hx hb dX4_leaveSeat_1 rfl (lv_at hl 1 rfl) ?_
  refine lv_iconst (v := 0) hx hb dX4_leaveSeat_2 (by decide) ?_
  refine lv_bipush (v := 9) hx hb dX4_leaveSeat_3 (by decide) ?_
  refine m_callt (rest := []) K hP hS (c_X4_in l Z am hinj h (nI t) 0 9) ok_X4_80 rfl ⟨Nat.le_of_ble_eq_true rfl, Nat.le_of_ble_eq_true rfl⟩ rfl hl.1 (Nat.le_of_ble_eq_true rfl) ⟨Nat.le_of_ble_eq_true rfl, Nat.le_of_ble_eq_true rfl⟩ dX4_leaveSeat_5 (ix9 ht9) (fun H locs hP hS => ?_)
  refine lv_if_eq (tgt := 23) hx hb dX4_leaveSeat_8 (by decide) (fun c1 => absurd c1 (by decide)) (fun _ => ?_)
  refine lv_aload_n hx hb dX4_leaveSeat_11 rfl (lv_at hl 0 rfl) ?_
  refine lv_iload_n hx hb dX4_leaveSeat_12 rfl (lv_at hl 2 rfl) ?_
  refine m_callt (rest := []) K hP hS (c_X4_isFerry l Z am hinj h (nI f)) ok_X4_101 rfl ⟨Nat.le_of_ble_eq_true rfl, Nat.le_of_ble_eq_true rfl⟩ rfl hl.1 (Nat.le_of_ble_eq_true rfl) ⟨Nat.le_of_ble_eq_true rfl, Nat.le_of_ble_eq_true rfl⟩ dX4_leaveSeat_13 (isF_t hfc hf2 hff) (fun H locs hP hS => ?_)
  refine lv_if_eq (tgt := 23) hx hb dX4_leaveSeat_16 (by decide) (fun c2 => absurd c2 (by decide)) (fun _ => ?_)
  refine lv_iconst (v := 1) hx hb dX4_leaveSeat_19 (by decide) ?_
  refine lv_goto (tgt := 24) hx hb dX4_leaveSeat_20 (by decide) ?_
  refine lv_istore_n (lv' := [(3, .int 1), (0, .ref (am 0)), (1, .int (nI t)), (2, .int (nI f))]) hx hb dX4_leaveSeat_24 rfl hl (by decide) rfl (fun ls hl => ?_)
  refine lv_aload_n hx hb dX4_leaveSeat_25 rfl (lv_at hl 1 rfl) ?_
  refine lv_iload_n hx hb dX4_leaveSeat_26 rfl (lv_at hl 0 rfl) ?_
  refine lv_if_ne (tgt := 34) hx hb dX4_leaveSeat_27 (by decide) (fun _ => ?_) (fun c3 => absurd c3 (by decide))
  refine lv_aload_n hx hb dX4_leaveSeat_34 rfl (lv_at hl 1 rfl) ?_
  refine mg_fg K hP dX4_leaveSeat_35 ?_
  refine lv_iload_n hx hb dX4_leaveSeat_38 rfl (lv_at hl 3 rfl) ?_
  refine mr_ald K hP (by decide) (by decide) (n := 20) rfl (by omega) (by decide) dX4_leaveSeat_39 ?_
  refine lv_iconst (v := 1) hx hb dX4_leaveSeat_40 (by decide) ?_
  refine lv_icmp_eq (tgt := 53) hx hb dX4_leaveSeat_41 (by decide) (fun c4 => absurd c4 hg) (fun _ => ?_)
  refine lv_aload_n hx hb dX4_leaveSeat_44 rfl (lv_at hl 1 rfl) ?_
  refine lv_iload_n hx hb dX4_leaveSeat_45 rfl (lv_at hl 2 rfl) ?_
  refine lv_iload_n hx hb dX4_leaveSeat_46 rfl (lv_at hl 3 rfl) ?_
  refine m_callt (rest := [.ref (am 0)]) K hP hS (c_X4_hasSeat l Z am hinj h t f (by omega)) ok_X4_97 rfl ⟨Nat.le_of_ble_eq_true rfl, Nat.le_of_ble_eq_true rfl⟩ rfl hl.1 (Nat.le_of_ble_eq_true rfl) ⟨Nat.le_of_ble_eq_true rfl, Nat.le_of_ble_eq_true rfl⟩ dX4_leaveSeat_47 hs (fun H locs hP hS => ?_)
  refine lv_if_ne (tgt := 57) hx hb dX4_leaveSeat_50 (by decide) (fun _ => ?_) (fun c5 => absurd c5 (by decide))
  refine lv_iconst (v := 0) hx hb dX4_leaveSeat_57 (by decide) ?_
  refine m_callf (rest := []) K hP hS (c_X4_holds l Z am hinj h 0) ok_X4_87 rfl ⟨Nat.le_of_ble_eq_true rfl, Nat.le_of_ble_eq_true rfl⟩ rfl hl.1 (Nat.le_of_ble_eq_true rfl) ⟨Nat.le_of_ble_eq_true rfl, Nat.le_of_ble_eq_true rfl⟩ dX4_leaveSeat_58 (by decide) (fun H locs hP hS => ?_)
  obtain ⟨h6, e6⟩ : ∃ z : St, z = (u2 h 0 3 0) := ⟨_, rfl⟩
  rw [← e6] at hP
  refine lv_if_eq (tgt := 66) hx hb dX4_leaveSeat_61 (by decide) (fun _ => ?_) (fun c7 => absurd (by decide) c7)
  refine lv_aload_n hx hb dX4_leaveSeat_66 rfl (lv_at hl 1 rfl) ?_
  refine mg_fw K hP dX4_leaveSeat_67 ?_
  refine lv_iload_n hx hb dX4_leaveSeat_70 rfl (lv_at hl 3 rfl) ?_
  refine lv_dup2_11 hx hb dX4_leaveSeat_71 rfl rfl ?_
  refine mr_ald K hP (by decide) (by decide) (n := 20) rfl (by omega) (by decide) dX4_leaveSeat_72 ?_
  rw [show h6 13 f = h 13 f from by rw [e6, u2_off _ _ (by omega)]]
  refine lv_iconst (v := 1) hx hb dX4_leaveSeat_73 (by decide) ?_
  refine lv_iload_n hx hb dX4_leaveSeat_74 rfl (lv_at hl 2 rfl) ?_
  refine lv_ishl hx hb dX4_leaveSeat_75 ?_
  refine lv_topi (fun v8 e8 => ?_)
  refine lv_iconst (v := (-1)) hx hb dX4_leaveSeat_76 (by decide) ?_
  refine lv_ixor hx hb dX4_leaveSeat_77 ?_
  refine lv_topi (fun v9 e9 => ?_)
  refine lv_iand hx hb dX4_leaveSeat_78 ?_
  refine lv_topi (fun v10 e10 => ?_)
  refine mr_ast K hP hS (by decide) (by decide) (n := 20) rfl (by omega) (by decide) dX4_leaveSeat_79 (fun h11 H locs e11 hP hS => ?_)
  refine lv_aload_n hx hb dX4_leaveSeat_80 rfl (lv_at hl 1 rfl) ?_
  refine mg_ab K hP dX4_leaveSeat_81 ?_
  refine lv_iload_n hx hb dX4_leaveSeat_84 rfl (lv_at hl 2 rfl) ?_
  refine lv_aload_n hx hb dX4_leaveSeat_85 rfl (lv_at hl 1 rfl) ?_
  refine mg_ab K hP dX4_leaveSeat_86 ?_
  refine lv_iload_n hx hb dX4_leaveSeat_89 rfl (lv_at hl 2 rfl) ?_
  refine mr_ald K hP (by decide) (by decide) (n := 10) rfl (by omega) (by decide) dX4_leaveSeat_90 ?_
  rw [show h11 15 t = h 15 t from by rw [e11, u2_off _ _ (by omega), e6, u2_off _ _ (by omega)]]
  refine lv_iload_n hx hb dX4_leaveSeat_91 rfl (lv_at hl 3 rfl) ?_
  refine lv_icmp_ne (tgt := 99) hx hb dX4_leaveSeat_92 (by decide) (fun c12 => absurd hab c12) (fun _ => ?_)
  refine lv_iconst (v := (-1)) hx hb dX4_leaveSeat_95 (by decide) ?_
  refine lv_goto (tgt := 105) hx hb dX4_leaveSeat_96 (by decide) ?_
  refine mr_ast K hP hS (by decide) (by decide) (n := 10) rfl (by omega) (by decide) dX4_leaveSeat_105 (fun h13 H locs e13 hP hS => ?_)
  refine lv_iconst (v := 0) hx hb dX4_leaveSeat_106 (by decide) ?_
  refine lv_istore (lv' := [(4, .int 0), (3, .int 1), (0, .ref (am 0)), (1, .int (nI t)), (2, .int (nI f))]) hx hb dX4_leaveSeat_107 hl (by decide) rfl (fun ls hl => ?_)
  refine lv_iconst (v := 0) hx hb dX4_leaveSeat_109 (by decide) ?_
  refine lv_istore (lv' := [(5, .int 0), (4, .int 0), (3, .int 1), (0, .ref (am 0)), (1, .int (nI t)), (2, .int (nI f))]) hx hb dX4_leaveSeat_110 hl (by decide) rfl (fun ls hl => ?_)
  obtain ⟨g0, eg0⟩ : ∃ z : St, z = (u2 (u2 (u2 h 0 3 0) 13 f (h 13 f &&& ((1 <<< (nI t &&& 31)) ^^^ (-1)))) 15 t (-1)) := ⟨_, rfl⟩
  rw [show h13 = g0 from by rw [eg0]; simp only [e6, e8, e9, e10, e11, e13]] at hP
  rw [← cRo_0 g0 t f] at hP
  have hloop112 : ∀ (d : Nat) (r : Nat) (k : Nat), r + d = rc → k = nRo g0 t f r → ∀ (H : Heap) (locs : List Loc), va_P Z.1 vwCl (iw 22 (mF am (Z.2.1 0) (cRo g0 t f r))) H → va_S (fx_A 22 am s.heap.size) s.heap H locs → ∀ ls : Array Slot, lv_has ls 6 [(0, .ref (am 0)), (1, .int (nI t)), (2, .int (nI f)), (4, .int (nI k)), (5, .int (nI r))] → W p l e (headSpec (fx_l yX4_leaveSeat cX4_leaveSeat 6 (some .int)) { frames := 2, cells := 0, slots := 0, locals := 44 }).room s m ([.ref (am 0), .int (nI t), .int (nI f)] : List Value).toArray below meth c H locs 0 0 (vx_MQ below (fx_post Z 22 am (mF am (Z.2.1 0)) (pI (nI (nRo (u2 (u2 (u2 h 0 3 0) 13 f (h 13 f &&& ((1 <<< (nI t &&& 31)) ^^^ (-1)))) 15 t (-1)) t f rc)) (cRo (u2 (u2 (u2 h 0 3 0) 13 f (h 13 f &&& ((1 <<< (nI t &&& 31)) ^^^ (-1)))) 15 t (-1)) t f rc)) s.heap.size) (fx_px Z 22 am (mF am (Z.2.1 0) h) (fun _ => False) s.heap.size) ([.ref (am 0), .int (nI t), .int (nI f)] : List Value).toArray s 0 0 (fx_A 22 am s.heap.size)) (F0 m 112 ls []) := by
    intro d
    induction d with
    | zero =>
      intro r k hd hk H locs hP hS ls hl
      have hrc9 : cRo g0 t f r 0 0 = nI rc := by rw [cRo_k (by decide) (by decide), eg0]; simp [u2_at, hrc]
      refine lv_iload hx hb dX4_leaveSeat_112 (lv_at hl 4 rfl) ?_
      refine lv_aload_n hx hb dX4_leaveSeat_114 rfl (lv_at hl 0 rfl) ?_
      refine mg_receipts K hP dX4_leaveSeat_115 ?_
      rw [hrc9]
      refine lv_icmp_ge (tgt := 179) hx hb dX4_leaveSeat_118 (by decide) (fun _ => ?_) (fun c14 => absurd (nI_le (by omega) (by omega)) c14)
      refine lv_iload hx hb dX4_leaveSeat_179 (lv_at hl 3 rfl) ?_
      exact fx_reti hx hb hr hlocks hP hS (Nat.le_of_ble_eq_true rfl) (Nat.le_of_ble_eq_true rfl) dX4_leaveSeat_181 ⟨(by rw [hk, show r = rc by omega, eg0]), (by rw [show r = rc by omega, eg0])⟩
    | succ d ih112 =>
      intro r k hd hk H locs hP hS ls hl
      have hrc9 : cRo g0 t f r 0 0 = nI rc := by rw [cRo_k (by decide) (by decide), eg0]; simp [u2_at, hrc]
      refine lv_iload hx hb dX4_leaveSeat_112 (lv_at hl 4 rfl) ?_
      refine lv_aload_n hx hb dX4_leaveSeat_114 rfl (lv_at hl 0 rfl) ?_
      refine mg_receipts K hP dX4_leaveSeat_115 ?_
      rw [hrc9]
      refine lv_icmp_ge (tgt := 179) hx hb dX4_leaveSeat_118 (by decide) (fun c15 => absurd c15 (nI_ge (by omega) (by omega))) (fun _ => ?_)
      refine lv_aload_n hx hb dX4_leaveSeat_121 rfl (lv_at hl 0 rfl) ?_
      refine mg_rk K hP dX4_leaveSeat_122 ?_
      refine lv_iload hx hb dX4_leaveSeat_125 (lv_at hl 4 rfl) ?_
      refine mr_ald K hP (by decide) (by decide) (n := 60) rfl (by omega) (by decide) dX4_leaveSeat_127 ?_
      refine lv_iconst (v := 1) hx hb dX4_leaveSeat_128 (by decide) ?_
      refine lv_icmp_ne (tgt := 173) hx hb dX4_leaveSeat_129 (by decide) (fun c16 => ?_) (fun c16 => ?_)
      · refine lv_iinc (v := nI (r + 1)) (lv' := [(5, .int (nI (r + 1))), (0, .ref (am 0)), (1, .int (nI t)), (2, .int (nI f)), (4, .int (nI k))]) hx hb dX4_leaveSeat_173 hl (k := 4) rfl (nI_1 _) (by decide) rfl (fun ls hl => ?_)
        refine lv_goto (tgt := 112) hx hb dX4_leaveSeat_176 (by decide) ?_
        rw [show cRo g0 t f r = cRo g0 t f (r + 1) from cRo_n (by simp [c16])] at hP
        exact ih112 (r + 1) k (by omega) (by rw [nRo_f (by simp [c16]), hk]) H locs hP hS ls (lv_sub hl [1, 2, 3, 4, 0] rfl)
      · refine lv_aload_n hx hb dX4_leaveSeat_132 rfl (lv_at hl 0 rfl) ?_
        refine mg_rf K hP dX4_leaveSeat_133 ?_
        refine lv_iload hx hb dX4_leaveSeat_136 (lv_at hl 4 rfl) ?_
        refine mr_ald K hP (by decide) (by decide) (n := 60) rfl (by omega) (by decide) dX4_leaveSeat_138 ?_
        refine lv_iload_n hx hb dX4_leaveSeat_139 rfl (lv_at hl 2 rfl) ?_
        refine lv_icmp_ne (tgt := 173) hx hb dX4_leaveSeat_140 (by decide) (fun c17 => ?_) (fun c17 => ?_)
        · refine lv_iinc (v := nI (r + 1)) (lv' := [(5, .int (nI (r + 1))), (0, .ref (am 0)), (1, .int (nI t)), (2, .int (nI f)), (4, .int (nI k))]) hx hb dX4_leaveSeat_173 hl (k := 4) rfl (nI_1 _) (by decide) rfl (fun ls hl => ?_)
          refine lv_goto (tgt := 112) hx hb dX4_leaveSeat_176 (by decide) ?_
          rw [show cRo g0 t f r = cRo g0 t f (r + 1) from cRo_n (by simp [c16, c17])] at hP
          exact ih112 (r + 1) k (by omega) (by rw [nRo_f (by simp [c16, c17]), hk]) H locs hP hS ls (lv_sub hl [1, 2, 3, 4, 0] rfl)
        · refine lv_aload_n hx hb dX4_leaveSeat_143 rfl (lv_at hl 0 rfl) ?_
          refine mg_rt K hP dX4_leaveSeat_144 ?_
          refine lv_iload hx hb dX4_leaveSeat_147 (lv_at hl 4 rfl) ?_
          refine mr_ald K hP (by decide) (by decide) (n := 60) rfl (by omega) (by decide) dX4_leaveSeat_149 ?_
          refine lv_iload_n hx hb dX4_leaveSeat_150 rfl (lv_at hl 1 rfl) ?_
          refine lv_icmp_ne (tgt := 173) hx hb dX4_leaveSeat_151 (by decide) (fun c18 => ?_) (fun c18 => ?_)
          · refine lv_iinc (v := nI (r + 1)) (lv' := [(5, .int (nI (r + 1))), (0, .ref (am 0)), (1, .int (nI t)), (2, .int (nI f)), (4, .int (nI k))]) hx hb dX4_leaveSeat_173 hl (k := 4) rfl (nI_1 _) (by decide) rfl (fun ls hl => ?_)
            refine lv_goto (tgt := 112) hx hb dX4_leaveSeat_176 (by decide) ?_
            rw [show cRo g0 t f r = cRo g0 t f (r + 1) from cRo_n (by simp [c16, c17, c18])] at hP
            exact ih112 (r + 1) k (by omega) (by rw [nRo_f (by simp [c16, c17, c18]), hk]) H locs hP hS ls (lv_sub hl [1, 2, 3, 4, 0] rfl)
          · refine lv_aload_n hx hb dX4_leaveSeat_154 rfl (lv_at hl 0 rfl) ?_
            refine mg_rk K hP dX4_leaveSeat_155 ?_
            refine lv_iload hx hb dX4_leaveSeat_158 (lv_at hl 4 rfl) ?_
            refine lv_iconst (v := 0) hx hb dX4_leaveSeat_160 (by decide) ?_
            refine mr_ast K hP hS (by decide) (by decide) (n := 60) rfl (by omega) (by decide) dX4_leaveSeat_161 (fun h19 H locs e19 hP hS => ?_)
            refine lv_aload_n hx hb dX4_leaveSeat_162 rfl (lv_at hl 0 rfl) ?_
            refine mg_rf K hP dX4_leaveSeat_163 ?_
            refine lv_iload hx hb dX4_leaveSeat_166 (lv_at hl 4 rfl) ?_
            refine lv_iconst (v := (-1)) hx hb dX4_leaveSeat_168 (by decide) ?_
            refine mr_ast K hP hS (by decide) (by decide) (n := 60) rfl (by omega) (by decide) dX4_leaveSeat_169 (fun h20 H locs e20 hP hS => ?_)
            refine lv_iinc (v := nI (k + 1)) (lv' := [(4, .int (nI (k + 1))), (0, .ref (am 0)), (1, .int (nI t)), (2, .int (nI f)), (5, .int (nI r))]) hx hb dX4_leaveSeat_170 hl (k := 3) rfl (nI_1 _) (by decide) rfl (fun ls hl => ?_)
            refine lv_iinc (v := nI (r + 1)) (lv' := [(5, .int (nI (r + 1))), (4, .int (nI (k + 1))), (0, .ref (am 0)), (1, .int (nI t)), (2, .int (nI f))]) hx hb dX4_leaveSeat_173 hl (k := 4) rfl (nI_1 _) (by decide) rfl (fun ls hl => ?_)
            refine lv_goto (tgt := 112) hx hb dX4_leaveSeat_176 (by decide) ?_
            rw [show h20 = cRo g0 t f (r + 1) from by simp only [e19, e20]; exact cRo_s c16 c17 c18] at hP
            exact ih112 (r + 1) (k + 1) (by omega) (by rw [nRo_t c16 c17 c18, hk]) H locs hP hS ls (lv_sub hl [2, 3, 4, 1, 0] rfl)
  exact hloop112 rc 0 0 (by omega) rfl H locs hP hS ls (lv_sub hl [3, 4, 5, 1, 0] rfl)

set_option maxHeartbeats 4000000 in
set_option maxRecDepth 100000 in
theorem c_X4_leaveSeat_0b (l : Launch) (Z : fx_Z) (am : Nat → Nat) (hinj : fx_inj 22 am) (h : St) (fc : Nat) (rc : Nat) (t : Nat) (f : Nat) (ht9 : t < 10) (hff : f < fc) (hfc : h 0 1 = nI fc) (hf2 : fc ≤ 20) (hrc : h 0 0 = nI rc) (hr6 : rc ≤ 60) (hg : ¬ h 14 f = 1) (hs : mS h f t) (hab : ¬ h 15 t = nI f) : fx_C l Z yX4_leaveSeat cX4_leaveSeat 6 (some .int) 2 44 0 0 22 am (mF am (Z.2.1 0)) h [.ref (am 0), .int (nI t), .int (nI f)] (pI (nI (nRo (u2 (u2 (u2 h 0 3 0) 13 f (h 13 f &&& ((1 <<< (nI t &&& 31)) ^^^ (-1)))) 15 t (h 15 t)) t f rc)) (cRo (u2 (u2 (u2 h 0 3 0) 13 f (h 13 f &&& ((1 <<< (nI t &&& 31)) ^^^ (-1)))) 15 t (h 15 t)) t f rc)) (fun _ => False) := by
  intro sz
  refine vx_ofW (cc := cX4_leaveSeat) (maxL := 6) (ret := (some .int)) (by decide) rfl ?_
  intro p e s m args below meth c s₁ B hml hout hv
  obtain ⟨rfl, hsz, hP, hE, hSt⟩ := hv
  subst hsz
  have hx := B.exec
  have hb := B.bytes
  have hr := B.returns
  have hown : s.vm.findClass RX4 = some m.cls := findClass_of_methodNamed B.named
  have hlocks := B.notSynchronized
  have K : m_K p s m ([.ref (am 0), .int (nI t), .int (nI f)] : List Value).toArray c cX4_leaveSeat 6 Z am := ⟨hx, hb, hml, hown, fun w hw => atoms_spec (ws := fx_l yX4_leaveSeat cX4_leaveSeat 6 (some .int)) B.pre w (List.mem_cons_of_mem _ hw), hE, hSt, hinj⟩
  have hS : va_S (fx_A 22 am s.heap.size) s.heap s.heap [] := va_S.rf
  have hl := lv_entry ([.ref (am 0), .int (nI t), .int (nI f)]) (n := 6) (Nat.le_of_ble_eq_true rfl)
  rw [lg_entry_eq]
  generalize (lg_sl ([.ref (am 0), .int (nI t), .int (nI f)]) ++ List.replicate (6 - (lg_sl ([.ref (am 0), .int (nI t), .int (nI f)])).length) Slot.unset).toArray = ls at hl ⊢
  have hl : lv_has ls 6 [(0, .ref (am 0)), (1, .int (nI t)), (2, .int (nI f))] := hl
  refine lv_aload_n hx hb dX4_leaveSeat_0 rfl (lv_at hl 0 rfl) ?_
  refine lv_iload_n hx hb dX4_leaveSeat_1 rfl (lv_at hl 1 rfl) ?_
  refine lv_iconst (v := 0) hx hb dX4_leaveSeat_2 (by decide) ?_
  refine lv_bipush (v := 9) hx hb dX4_leaveSeat_3 (by decide) ?_
  refine m_callt (rest := []) K hP hS (c_X4_in l Z am hinj h (nI t) 0 9) ok_X4_80 rfl ⟨Nat.le_of_ble_eq_true rfl, Nat.le_of_ble_eq_true rfl⟩ rfl hl.1 (Nat.le_of_ble_eq_true rfl) ⟨Nat.le_of_ble_eq_true rfl, Nat.le_of_ble_eq_true rfl⟩ dX4_leaveSeat_5 (ix9 ht9) (fun H locs hP hS => ?_)
  refine lv_if_eq (tgt := 23) hx hb dX4_leaveSeat_8 (by decide) (fun c1 => absurd c1 (by decide)) (fun _ => ?_)
  refine lv_aload_n hx hb dX4_leaveSeat_11 rfl (lv_at hl 0 rfl) ?_
  refine lv_iload_n hx hb dX4_leaveSeat_12 rfl (lv_at hl 2 rfl) ?_
  refine m_callt (rest := []) K hP hS (c_X4_isFerry l Z am hinj h (nI f)) ok_X4_101 rfl ⟨Nat.le_of_ble_eq_true rfl, Nat.le_of_ble_eq_true rfl⟩ rfl hl.1 (Nat.le_of_ble_eq_true rfl) ⟨Nat.le_of_ble_eq_true rfl, Nat.le_of_ble_eq_true rfl⟩ dX4_leaveSeat_13 (isF_t hfc hf2 hff) (fun H locs hP hS => ?_)
  refine lv_if_eq (tgt := 23) hx hb dX4_leaveSeat_16 (by decide) (fun c2 => absurd c2 (by decide)) (fun _ => ?_)
  refine lv_iconst (v := 1) hx hb dX4_leaveSeat_19 (by decide) ?_
  refine lv_goto (tgt := 24) hx hb dX4_leaveSeat_20 (by decide) ?_
  refine lv_istore_n (lv' := [(3, .int 1), (0, .ref (am 0)), (1, .int (nI t)), (2, .int (nI f))]) hx hb dX4_leaveSeat_24 rfl hl (by decide) rfl (fun ls hl => ?_)
  refine lv_aload_n hx hb dX4_leaveSeat_25 rfl (lv_at hl 1 rfl) ?_
  refine lv_iload_n hx hb dX4_leaveSeat_26 rfl (lv_at hl 0 rfl) ?_
  refine lv_if_ne (tgt := 34) hx hb dX4_leaveSeat_27 (by decide) (fun _ => ?_) (fun c3 => absurd c3 (by decide))
  refine lv_aload_n hx hb dX4_leaveSeat_34 rfl (lv_at hl 1 rfl) ?_
  refine mg_fg K hP dX4_leaveSeat_35 ?_
  refine lv_iload_n hx hb dX4_leaveSeat_38 rfl (lv_at hl 3 rfl) ?_
  refine mr_ald K hP (by decide) (by decide) (n := 20) rfl (by omega) (by decide) dX4_leaveSeat_39 ?_
  refine lv_iconst (v := 1) hx hb dX4_leaveSeat_40 (by decide) ?_
  refine lv_icmp_eq (tgt := 53) hx hb dX4_leaveSeat_41 (by decide) (fun c4 => absurd c4 hg) (fun _ => ?_)
  refine lv_aload_n hx hb dX4_leaveSeat_44 rfl (lv_at hl 1 rfl) ?_
  refine lv_iload_n hx hb dX4_leaveSeat_45 rfl (lv_at hl 2 rfl) ?_
  refine lv_iload_n hx hb dX4_leaveSeat_46 rfl (lv_at hl 3 rfl) ?_
  refine m_callt (rest := [.ref (am 0)]) K hP hS (c_X4_hasSeat l Z am hinj h t f (by omega)) ok_X4_97 rfl ⟨Nat.le_of_ble_eq_true rfl, Nat.le_of_ble_eq_true rfl⟩ rfl hl.1 (Nat.le_of_ble_eq_true rfl) ⟨Nat.le_of_ble_eq_true rfl, Nat.le_of_ble_eq_true rfl⟩ dX4_leaveSeat_47 hs (fun H locs hP hS => ?_)
  refine lv_if_ne (tgt := 57) hx hb dX4_leaveSeat_50 (by decide) (fun _ => ?_) (fun c5 => absurd c5 (by decide))
  refine lv_iconst (v := 0) hx hb dX4_leaveSeat_57 (by decide) ?_
  refine m_callf (rest := []) K hP hS (c_X4_holds l Z am hinj h 0) ok_X4_87 rfl ⟨Nat.le_of_ble_eq_true rfl, Nat.le_of_ble_eq_true rfl⟩ rfl hl.1 (Nat.le_of_ble_eq_true rfl) ⟨Nat.le_of_ble_eq_true rfl, Nat.le_of_ble_eq_true rfl⟩ dX4_leaveSeat_58 (by decide) (fun H locs hP hS => ?_)
  obtain ⟨h6, e6⟩ : ∃ z : St, z = (u2 h 0 3 0) := ⟨_, rfl⟩
  rw [← e6] at hP
  refine lv_if_eq (tgt := 66) hx hb dX4_leaveSeat_61 (by decide) (fun _ => ?_) (fun c7 => absurd (by decide) c7)
  refine lv_aload_n hx hb dX4_leaveSeat_66 rfl (lv_at hl 1 rfl) ?_
  refine mg_fw K hP dX4_leaveSeat_67 ?_
  refine lv_iload_n hx hb dX4_leaveSeat_70 rfl (lv_at hl 3 rfl) ?_
  refine lv_dup2_11 hx hb dX4_leaveSeat_71 rfl rfl ?_
  refine mr_ald K hP (by decide) (by decide) (n := 20) rfl (by omega) (by decide) dX4_leaveSeat_72 ?_
  rw [show h6 13 f = h 13 f from by rw [e6, u2_off _ _ (by omega)]]
  refine lv_iconst (v := 1) hx hb dX4_leaveSeat_73 (by decide) ?_
  refine lv_iload_n hx hb dX4_leaveSeat_74 rfl (lv_at hl 2 rfl) ?_
  refine lv_ishl hx hb dX4_leaveSeat_75 ?_
  refine lv_topi (fun v8 e8 => ?_)
  refine lv_iconst (v := (-1)) hx hb dX4_leaveSeat_76 (by decide) ?_
  refine lv_ixor hx hb dX4_leaveSeat_77 ?_
  refine lv_topi (fun v9 e9 => ?_)
  refine lv_iand hx hb dX4_leaveSeat_78 ?_
  refine lv_topi (fun v10 e10 => ?_)
  refine mr_ast K hP hS (by decide) (by decide) (n := 20) rfl (by omega) (by decide) dX4_leaveSeat_79 (fun h11 H locs e11 hP hS => ?_)
  refine lv_aload_n hx hb dX4_leaveSeat_80 rfl (lv_at hl 1 rfl) ?_
  refine mg_ab K hP dX4_leaveSeat_81 ?_
  refine lv_iload_n hx hb dX4_leaveSeat_84 rfl (lv_at hl 2 rfl) ?_
  refine lv_aload_n hx hb dX4_leaveSeat_85 rfl (lv_at hl 1 rfl) ?_
  refine mg_ab K hP dX4_leaveSeat_86 ?_
  refine lv_iload_n hx hb dX4_leaveSeat_89 rfl (lv_at hl 2 rfl) ?_
  refine mr_ald K hP (by decide) (by decide) (n := 10) rfl (by omega) (by decide) dX4_leaveSeat_90 ?_
  rw [show h11 15 t = h 15 t from by rw [e11, u2_off _ _ (by omega), e6, u2_off _ _ (by omega)]]
  refine lv_iload_n hx hb dX4_leaveSeat_91 rfl (lv_at hl 3 rfl) ?_
  refine lv_icmp_ne (tgt := 99) hx hb dX4_leaveSeat_92 (by decide) (fun _ => ?_) (fun c12 => absurd c12 hab)
  refine lv_aload_n hx hb dX4_leaveSeat_99 rfl (lv_at hl 1 rfl) ?_
  refine mg_ab K hP dX4_leaveSeat_100 ?_
  refine lv_iload_n hx hb dX4_leaveSeat_103 rfl (lv_at hl 2 rfl) ?_
  refine mr_ald K hP (by decide) (by decide) (n := 10) rfl (by omega) (by decide) dX4_leaveSeat_104 ?_
  rw [show h11 15 t = h 15 t from by rw [e11, u2_off _ _ (by omega), e6, u2_off _ _ (by omega)]]
  refine mr_ast K hP hS (by decide) (by decide) (n := 10) rfl (by omega) (by decide) dX4_leaveSeat_105 (fun h13 H locs e13 hP hS => ?_)
  refine lv_iconst (v := 0) hx hb dX4_leaveSeat_106 (by decide) ?_
  refine lv_istore (lv' := [(4, .int 0), (3, .int 1), (0, .ref (am 0)), (1, .int (nI t)), (2, .int (nI f))]) hx hb dX4_leaveSeat_107 hl (by decide) rfl (fun ls hl => ?_)
  refine lv_iconst (v := 0) hx hb dX4_leaveSeat_109 (by decide) ?_
  refine lv_istore (lv' := [(5, .int 0), (4, .int 0), (3, .int 1), (0, .ref (am 0)), (1, .int (nI t)), (2, .int (nI f))]) hx hb dX4_leaveSeat_110 hl (by decide) rfl (fun ls hl => ?_)
  obtain ⟨g0, eg0⟩ : ∃ z : St, z = (u2 (u2 (u2 h 0 3 0) 13 f (h 13 f &&& ((1 <<< (nI t &&& 31)) ^^^ (-1)))) 15 t (h 15 t)) := ⟨_, rfl⟩
  rw [show h13 = g0 from by rw [eg0]; simp only [e6, e8, e9, e10, e11, e13]] at hP
  rw [← cRo_0 g0 t f] at hP
  have hloop112 : ∀ (d : Nat) (r : Nat) (k : Nat), r + d = rc → k = nRo g0 t f r → ∀ (H : Heap) (locs : List Loc), va_P Z.1 vwCl (iw 22 (mF am (Z.2.1 0) (cRo g0 t f r))) H → va_S (fx_A 22 am s.heap.size) s.heap H locs → ∀ ls : Array Slot, lv_has ls 6 [(0, .ref (am 0)), (1, .int (nI t)), (2, .int (nI f)), (4, .int (nI k)), (5, .int (nI r))] → W p l e (headSpec (fx_l yX4_leaveSeat cX4_leaveSeat 6 (some .int)) { frames := 2, cells := 0, slots := 0, locals := 44 }).room s m ([.ref (am 0), .int (nI t), .int (nI f)] : List Value).toArray below meth c H locs 0 0 (vx_MQ below (fx_post Z 22 am (mF am (Z.2.1 0)) (pI (nI (nRo (u2 (u2 (u2 h 0 3 0) 13 f (h 13 f &&& ((1 <<< (nI t &&& 31)) ^^^ (-1)))) 15 t (h 15 t)) t f rc)) (cRo (u2 (u2 (u2 h 0 3 0) 13 f (h 13 f &&& ((1 <<< (nI t &&& 31)) ^^^ (-1)))) 15 t (h 15 t)) t f rc)) s.heap.size) (fx_px Z 22 am (mF am (Z.2.1 0) h) (fun _ => False) s.heap.size) ([.ref (am 0), .int (nI t), .int (nI f)] : List Value).toArray s 0 0 (fx_A 22 am s.heap.size)) (F0 m 112 ls []) := by
    intro d
    induction d with
    | zero =>
      intro r k hd hk H locs hP hS ls hl
      have hrc9 : cRo g0 t f r 0 0 = nI rc := by rw [cRo_k (by decide) (by decide), eg0]; simp [u2_at, hrc]
      refine lv_iload hx hb dX4_leaveSeat_112 (lv_at hl 4 rfl) ?_
      refine lv_aload_n hx hb dX4_leaveSeat_114 rfl (lv_at hl 0 rfl) ?_
      refine mg_receipts K hP dX4_leaveSeat_115 ?_
      rw [hrc9]
      refine lv_icmp_ge (tgt := 179) hx hb dX4_leaveSeat_118 (by decide) (fun _ => ?_) (fun c14 => absurd (nI_le (by omega) (by omega)) c14)
      refine lv_iload hx hb dX4_leaveSeat_179 (lv_at hl 3 rfl) ?_
      exact fx_reti hx hb hr hlocks hP hS (Nat.le_of_ble_eq_true rfl) (Nat.le_of_ble_eq_true rfl) dX4_leaveSeat_181 ⟨(by rw [hk, show r = rc by omega, eg0]), (by rw [show r = rc by omega, eg0])⟩
    | succ d ih112 =>
      intro r k hd hk H locs hP hS ls hl
      have hrc9 : cRo g0 t f r 0 0 = nI rc := by rw [cRo_k (by decide) (by decide), eg0]; simp [u2_at, hrc]
      refine lv_iload hx hb dX4_leaveSeat_112 (lv_at hl 4 rfl) ?_
      refine lv_aload_n hx hb dX4_leaveSeat_114 rfl (lv_at hl 0 rfl) ?_
      refine mg_receipts K hP dX4_leaveSeat_115 ?_
      rw [hrc9]
      refine lv_icmp_ge (tgt := 179) hx hb dX4_leaveSeat_118 (by decide) (fun c15 => absurd c15 (nI_ge (by omega) (by omega))) (fun _ => ?_)
      refine lv_aload_n hx hb dX4_leaveSeat_121 rfl (lv_at hl 0 rfl) ?_
      refine mg_rk K hP dX4_leaveSeat_122 ?_
      refine lv_iload hx hb dX4_leaveSeat_125 (lv_at hl 4 rfl) ?_
      refine mr_ald K hP (by decide) (by decide) (n := 60) rfl (by omega) (by decide) dX4_leaveSeat_127 ?_
      refine lv_iconst (v := 1) hx hb dX4_leaveSeat_128 (by decide) ?_
      refine lv_icmp_ne (tgt := 173) hx hb dX4_leaveSeat_129 (by decide) (fun c16 => ?_) (fun c16 => ?_)
      · refine lv_iinc (v := nI (r + 1)) (lv' := [(5, .int (nI (r + 1))), (0, .ref (am 0)), (1, .int (nI t)), (2, .int (nI f)), (4, .int (nI k))]) hx hb dX4_leaveSeat_173 hl (k := 4) rfl (nI_1 _) (by decide) rfl (fun ls hl => ?_)
        refine lv_goto (tgt := 112) hx hb dX4_leaveSeat_176 (by decide) ?_
        rw [show cRo g0 t f r = cRo g0 t f (r + 1) from cRo_n (by simp [c16])] at hP
        exact ih112 (r + 1) k (by omega) (by rw [nRo_f (by simp [c16]), hk]) H locs hP hS ls (lv_sub hl [1, 2, 3, 4, 0] rfl)
      · refine lv_aload_n hx hb dX4_leaveSeat_132 rfl (lv_at hl 0 rfl) ?_
        refine mg_rf K hP dX4_leaveSeat_133 ?_
        refine lv_iload hx hb dX4_leaveSeat_136 (lv_at hl 4 rfl) ?_
        refine mr_ald K hP (by decide) (by decide) (n := 60) rfl (by omega) (by decide) dX4_leaveSeat_138 ?_
        refine lv_iload_n hx hb dX4_leaveSeat_139 rfl (lv_at hl 2 rfl) ?_
        refine lv_icmp_ne (tgt := 173) hx hb dX4_leaveSeat_140 (by decide) (fun c17 => ?_) (fun c17 => ?_)
        · refine lv_iinc (v := nI (r + 1)) (lv' := [(5, .int (nI (r + 1))), (0, .ref (am 0)), (1, .int (nI t)), (2, .int (nI f)), (4, .int (nI k))]) hx hb dX4_leaveSeat_173 hl (k := 4) rfl (nI_1 _) (by decide) rfl (fun ls hl => ?_)
          refine lv_goto (tgt := 112) hx hb dX4_leaveSeat_176 (by decide) ?_
          rw [show cRo g0 t f r = cRo g0 t f (r + 1) from cRo_n (by simp [c16, c17])] at hP
          exact ih112 (r + 1) k (by omega) (by rw [nRo_f (by simp [c16, c17]), hk]) H locs hP hS ls (lv_sub hl [1, 2, 3, 4, 0] rfl)
        · refine lv_aload_n hx hb dX4_leaveSeat_143 rfl (lv_at hl 0 rfl) ?_
          refine mg_rt K hP dX4_leaveSeat_144 ?_
          refine lv_iload hx hb dX4_leaveSeat_147 (lv_at hl 4 rfl) ?_
          refine mr_ald K hP (by decide) (by decide) (n := 60) rfl (by omega) (by decide) dX4_leaveSeat_149 ?_
          refine lv_iload_n hx hb dX4_leaveSeat_150 rfl (lv_at hl 1 rfl) ?_
          refine lv_icmp_ne (tgt := 173) hx hb dX4_leaveSeat_151 (by decide) (fun c18 => ?_) (fun c18 => ?_)
          · refine lv_iinc (v := nI (r + 1)) (lv' := [(5, .int (nI (r + 1))), (0, .ref (am 0)), (1, .int (nI t)), (2, .int (nI f)), (4, .int (nI k))]) hx hb dX4_leaveSeat_173 hl (k := 4) rfl (nI_1 _) (by decide) rfl (fun ls hl => ?_)
            refine lv_goto (tgt := 112) hx hb dX4_leaveSeat_176 (by decide) ?_
            rw [show cRo g0 t f r = cRo g0 t f (r + 1) from cRo_n (by simp [c16, c17, c18])] at hP
            exact ih112 (r + 1) k (by omega) (by rw [nRo_f (by simp [c16, c17, c18]), hk]) H locs hP hS ls (lv_sub hl [1, 2, 3, 4, 0] rfl)
          · refine lv_aload_n hx hb dX4_leaveSeat_154 rfl (lv_at hl 0 rfl) ?_
            refine mg_rk K hP dX4_leaveSeat_155 ?_
            refine lv_iload hx hb dX4_leaveSeat_158 (lv_at hl 4 rfl) ?_
            refine lv_iconst (v := 0) hx hb dX4_leaveSeat_160 (by decide) ?_
            refine mr_ast K hP hS (by decide) (by decide) (n := 60) rfl (by omega) (by decide) dX4_leaveSeat_161 (fun h19 H locs e19 hP hS => ?_)
            refine lv_aload_n hx hb dX4_leaveSeat_162 rfl (lv_at hl 0 rfl) ?_
            refine mg_rf K hP dX4_leaveSeat_163 ?_
            refine lv_iload hx hb dX4_leaveSeat_166 (lv_at hl 4 rfl) ?_
            refine lv_iconst (v := (-1)) hx hb dX4_leaveSeat_168 (by decide) ?_
            refine mr_ast K hP hS (by decide) (by decide) (n := 60) rfl (by omega) (by decide) dX4_leaveSeat_169 (fun h20 H locs e20 hP hS => ?_)
            refine lv_iinc (v := nI (k + 1)) (lv' := [(4, .int (nI (k + 1))), (0, .ref (am 0)), (1, .int (nI t)), (2, .int (nI f)), (5, .int (nI r))]) hx hb dX4_leaveSeat_170 hl (k := 3) rfl (nI_1 _) (by decide) rfl (fun ls hl => ?_)
            refine lv_iinc (v := nI (r + 1)) (lv' := [(5, .int (nI (r + 1))), (4, .int (nI (k + 1))), (0, .ref (am 0)), (1, .int (nI t)), (2, .int (nI f))]) hx hb dX4_leaveSeat_173 hl (k := 4) rfl (nI_1 _) (by decide) rfl (fun ls hl => ?_)
            refine lv_goto (tgt := 112) hx hb dX4_leaveSeat_176 (by decide) ?_
            rw [show h20 = cRo g0 t f (r + 1) from by simp only [e19, e20]; exact cRo_s c16 c17 c18] at hP
            exact ih112 (r + 1) (k + 1) (by omega) (by rw [nRo_t c16 c17 c18, hk]) H locs hP hS ls (lv_sub hl [2, 3, 4, 1, 0] rfl)
  exact hloop112 rc 0 0 (by omega) rfl H locs hP hS ls (lv_sub hl [3, 4, 5, 1, 0] rfl)

set_option maxHeartbeats 4000000 in
set_option maxRecDepth 100000 in
theorem c_X4_leaveSeat_1 (l : Launch) (Z : fx_Z) (am : Nat → Nat) (hinj : fx_inj 22 am) (h : St) (fc : Nat) (t : Int32) (f : Int32) (hfc : h 0 1 = nI fc) (hf2 : fc ≤ 20) (hbad : bad t 10 ∨ bad f fc) : fx_C l Z yX4_leaveSeat cX4_leaveSeat 6 (some .int) 2 44 0 0 22 am (mF am (Z.2.1 0)) h [.ref (am 0), .int t, .int f] (pI (-1) (u2 h 0 3 1)) (fun _ => False) := by
  intro sz
  refine vx_ofW (cc := cX4_leaveSeat) (maxL := 6) (ret := (some .int)) (by decide) rfl ?_
  intro p e s m args below meth c s₁ B hml hout hv
  obtain ⟨rfl, hsz, hP, hE, hSt⟩ := hv
  subst hsz
  have hx := B.exec
  have hb := B.bytes
  have hr := B.returns
  have hown : s.vm.findClass RX4 = some m.cls := findClass_of_methodNamed B.named
  have hlocks := B.notSynchronized
  have K : m_K p s m ([.ref (am 0), .int t, .int f] : List Value).toArray c cX4_leaveSeat 6 Z am := ⟨hx, hb, hml, hown, fun w hw => atoms_spec (ws := fx_l yX4_leaveSeat cX4_leaveSeat 6 (some .int)) B.pre w (List.mem_cons_of_mem _ hw), hE, hSt, hinj⟩
  have hS : va_S (fx_A 22 am s.heap.size) s.heap s.heap [] := va_S.rf
  have hl := lv_entry ([.ref (am 0), .int t, .int f]) (n := 6) (Nat.le_of_ble_eq_true rfl)
  rw [lg_entry_eq]
  generalize (lg_sl ([.ref (am 0), .int t, .int f]) ++ List.replicate (6 - (lg_sl ([.ref (am 0), .int t, .int f])).length) Slot.unset).toArray = ls at hl ⊢
  have hl : lv_has ls 6 [(0, .ref (am 0)), (1, .int t), (2, .int f)] := hl
  refine lv_aload_n hx hb dX4_leaveSeat_0 rfl (lv_at hl 0 rfl) ?_
  refine lv_iload_n hx hb dX4_leaveSeat_1 rfl (lv_at hl 1 rfl) ?_
  refine lv_iconst (v := 0) hx hb dX4_leaveSeat_2 (by decide) ?_
  refine lv_bipush (v := 9) hx hb dX4_leaveSeat_3 (by decide) ?_
  refine m_callb (rest := []) K hP hS (c_X4_in l Z am hinj h t 0 9) ok_X4_80 rfl ⟨Nat.le_of_ble_eq_true rfl, Nat.le_of_ble_eq_true rfl⟩ rfl hl.1 (Nat.le_of_ble_eq_true rfl) ⟨Nat.le_of_ble_eq_true rfl, Nat.le_of_ble_eq_true rfl⟩ dX4_leaveSeat_5 (fun c1 H locs hP hS => ?_) (fun c1 H locs hP hS => ?_)
  · refine lv_if_eq (tgt := 23) hx hb dX4_leaveSeat_8 (by decide) (fun c2 => absurd c2 (by decide)) (fun _ => ?_)
    refine lv_aload_n hx hb dX4_leaveSeat_11 rfl (lv_at hl 0 rfl) ?_
    refine lv_iload_n hx hb dX4_leaveSeat_12 rfl (lv_at hl 2 rfl) ?_
    refine m_callb (rest := []) K hP hS (c_X4_isFerry l Z am hinj h f) ok_X4_101 rfl ⟨Nat.le_of_ble_eq_true rfl, Nat.le_of_ble_eq_true rfl⟩ rfl hl.1 (Nat.le_of_ble_eq_true rfl) ⟨Nat.le_of_ble_eq_true rfl, Nat.le_of_ble_eq_true rfl⟩ dX4_leaveSeat_13 (fun c3 H locs hP hS => ?_) (fun c3 H locs hP hS => ?_)
    · exact absurd hbad (nbad2 hfc hf2 c1 c3)
    · refine lv_if_eq (tgt := 23) hx hb dX4_leaveSeat_16 (by decide) (fun _ => ?_) (fun c4 => absurd (by decide) c4)
      refine lv_iconst (v := 0) hx hb dX4_leaveSeat_23 (by decide) ?_
      refine lv_istore_n (lv' := [(3, .int 0), (0, .ref (am 0)), (1, .int t), (2, .int f)]) hx hb dX4_leaveSeat_24 rfl hl (by decide) rfl (fun ls hl => ?_)
      refine lv_aload_n hx hb dX4_leaveSeat_25 rfl (lv_at hl 1 rfl) ?_
      refine lv_iload_n hx hb dX4_leaveSeat_26 rfl (lv_at hl 0 rfl) ?_
      refine lv_if_ne (tgt := 34) hx hb dX4_leaveSeat_27 (by decide) (fun c5 => absurd (by decide) c5) (fun _ => ?_)
      refine lv_iconst (v := 1) hx hb dX4_leaveSeat_30 (by decide) ?_
      refine lv_goto (tgt := 58) hx hb dX4_leaveSeat_31 (by decide) ?_
      refine m_callt (rest := []) K hP hS (c_X4_holds l Z am hinj h 1) ok_X4_87 rfl ⟨Nat.le_of_ble_eq_true rfl, Nat.le_of_ble_eq_true rfl⟩ rfl hl.1 (Nat.le_of_ble_eq_true rfl) ⟨Nat.le_of_ble_eq_true rfl, Nat.le_of_ble_eq_true rfl⟩ dX4_leaveSeat_58 (by decide) (fun H locs hP hS => ?_)
      obtain ⟨h6, e6⟩ : ∃ z : St, z = (u2 h 0 3 1) := ⟨_, rfl⟩
      rw [← e6] at hP
      refine lv_if_eq (tgt := 66) hx hb dX4_leaveSeat_61 (by decide) (fun c7 => absurd c7 (by decide)) (fun _ => ?_)
      refine lv_iconst (v := (-1)) hx hb dX4_leaveSeat_64 (by decide) ?_
      exact fx_reti hx hb hr hlocks hP hS (Nat.le_of_ble_eq_true rfl) (Nat.le_of_ble_eq_true rfl) dX4_leaveSeat_65 ⟨rfl, e6⟩
  · refine lv_if_eq (tgt := 23) hx hb dX4_leaveSeat_8 (by decide) (fun _ => ?_) (fun c8 => absurd (by decide) c8)
    refine lv_iconst (v := 0) hx hb dX4_leaveSeat_23 (by decide) ?_
    refine lv_istore_n (lv' := [(3, .int 0), (0, .ref (am 0)), (1, .int t), (2, .int f)]) hx hb dX4_leaveSeat_24 rfl hl (by decide) rfl (fun ls hl => ?_)
    refine lv_aload_n hx hb dX4_leaveSeat_25 rfl (lv_at hl 1 rfl) ?_
    refine lv_iload_n hx hb dX4_leaveSeat_26 rfl (lv_at hl 0 rfl) ?_
    refine lv_if_ne (tgt := 34) hx hb dX4_leaveSeat_27 (by decide) (fun c9 => absurd (by decide) c9) (fun _ => ?_)
    refine lv_iconst (v := 1) hx hb dX4_leaveSeat_30 (by decide) ?_
    refine lv_goto (tgt := 58) hx hb dX4_leaveSeat_31 (by decide) ?_
    refine m_callt (rest := []) K hP hS (c_X4_holds l Z am hinj h 1) ok_X4_87 rfl ⟨Nat.le_of_ble_eq_true rfl, Nat.le_of_ble_eq_true rfl⟩ rfl hl.1 (Nat.le_of_ble_eq_true rfl) ⟨Nat.le_of_ble_eq_true rfl, Nat.le_of_ble_eq_true rfl⟩ dX4_leaveSeat_58 (by decide) (fun H locs hP hS => ?_)
    obtain ⟨h10, e10⟩ : ∃ z : St, z = (u2 h 0 3 1) := ⟨_, rfl⟩
    rw [← e10] at hP
    refine lv_if_eq (tgt := 66) hx hb dX4_leaveSeat_61 (by decide) (fun c11 => absurd c11 (by decide)) (fun _ => ?_)
    refine lv_iconst (v := (-1)) hx hb dX4_leaveSeat_64 (by decide) ?_
    exact fx_reti hx hb hr hlocks hP hS (Nat.le_of_ble_eq_true rfl) (Nat.le_of_ble_eq_true rfl) dX4_leaveSeat_65 ⟨rfl, e10⟩

set_option maxHeartbeats 4000000 in
set_option maxRecDepth 100000 in
theorem c_X4_leaveSeat_2 (l : Launch) (Z : fx_Z) (am : Nat → Nat) (hinj : fx_inj 22 am) (h : St) (fc : Nat) (t : Nat) (f : Nat) (ht9 : t < 10) (hff : f < fc) (hfc : h 0 1 = nI fc) (hf2 : fc ≤ 20) (hbad : h 14 f = 1 ∨ ¬ mS h f t) : fx_C l Z yX4_leaveSeat cX4_leaveSeat 6 (some .int) 2 44 0 0 22 am (mF am (Z.2.1 0)) h [.ref (am 0), .int (nI t), .int (nI f)] (pI (-1) (u2 h 0 3 2)) (fun _ => False) := by
  intro sz
  refine vx_ofW (cc := cX4_leaveSeat) (maxL := 6) (ret := (some .int)) (by decide) rfl ?_
  intro p e s m args below meth c s₁ B hml hout hv
  obtain ⟨rfl, hsz, hP, hE, hSt⟩ := hv
  subst hsz
  have hx := B.exec
  have hb := B.bytes
  have hr := B.returns
  have hown : s.vm.findClass RX4 = some m.cls := findClass_of_methodNamed B.named
  have hlocks := B.notSynchronized
  have K : m_K p s m ([.ref (am 0), .int (nI t), .int (nI f)] : List Value).toArray c cX4_leaveSeat 6 Z am := ⟨hx, hb, hml, hown, fun w hw => atoms_spec (ws := fx_l yX4_leaveSeat cX4_leaveSeat 6 (some .int)) B.pre w (List.mem_cons_of_mem _ hw), hE, hSt, hinj⟩
  have hS : va_S (fx_A 22 am s.heap.size) s.heap s.heap [] := va_S.rf
  have hl := lv_entry ([.ref (am 0), .int (nI t), .int (nI f)]) (n := 6) (Nat.le_of_ble_eq_true rfl)
  rw [lg_entry_eq]
  generalize (lg_sl ([.ref (am 0), .int (nI t), .int (nI f)]) ++ List.replicate (6 - (lg_sl ([.ref (am 0), .int (nI t), .int (nI f)])).length) Slot.unset).toArray = ls at hl ⊢
  have hl : lv_has ls 6 [(0, .ref (am 0)), (1, .int (nI t)), (2, .int (nI f))] := hl
  refine lv_aload_n hx hb dX4_leaveSeat_0 rfl (lv_at hl 0 rfl) ?_
  refine lv_iload_n hx hb dX4_leaveSeat_1 rfl (lv_at hl 1 rfl) ?_
  refine lv_iconst (v := 0) hx hb dX4_leaveSeat_2 (by decide) ?_
  refine lv_bipush (v := 9) hx hb dX4_leaveSeat_3 (by decide) ?_
  refine m_callt (rest := []) K hP hS (c_X4_in l Z am hinj h (nI t) 0 9) ok_X4_80 rfl ⟨Nat.le_of_ble_eq_true rfl, Nat.le_of_ble_eq_true rfl⟩ rfl hl.1 (Nat.le_of_ble_eq_true rfl) ⟨Nat.le_of_ble_eq_true rfl, Nat.le_of_ble_eq_true rfl⟩ dX4_leaveSeat_5 (ix9 ht9) (fun H locs hP hS => ?_)
  refine lv_if_eq (tgt := 23) hx hb dX4_leaveSeat_8 (by decide) (fun c1 => absurd c1 (by decide)) (fun _ => ?_)
  refine lv_aload_n hx hb dX4_leaveSeat_11 rfl (lv_at hl 0 rfl) ?_
  refine lv_iload_n hx hb dX4_leaveSeat_12 rfl (lv_at hl 2 rfl) ?_
  refine m_callt (rest := []) K hP hS (c_X4_isFerry l Z am hinj h (nI f)) ok_X4_101 rfl ⟨Nat.le_of_ble_eq_true rfl, Nat.le_of_ble_eq_true rfl⟩ rfl hl.1 (Nat.le_of_ble_eq_true rfl) ⟨Nat.le_of_ble_eq_true rfl, Nat.le_of_ble_eq_true rfl⟩ dX4_leaveSeat_13 (isF_t hfc hf2 hff) (fun H locs hP hS => ?_)
  refine lv_if_eq (tgt := 23) hx hb dX4_leaveSeat_16 (by decide) (fun c2 => absurd c2 (by decide)) (fun _ => ?_)
  refine lv_iconst (v := 1) hx hb dX4_leaveSeat_19 (by decide) ?_
  refine lv_goto (tgt := 24) hx hb dX4_leaveSeat_20 (by decide) ?_
  refine lv_istore_n (lv' := [(3, .int 1), (0, .ref (am 0)), (1, .int (nI t)), (2, .int (nI f))]) hx hb dX4_leaveSeat_24 rfl hl (by decide) rfl (fun ls hl => ?_)
  refine lv_aload_n hx hb dX4_leaveSeat_25 rfl (lv_at hl 1 rfl) ?_
  refine lv_iload_n hx hb dX4_leaveSeat_26 rfl (lv_at hl 0 rfl) ?_
  refine lv_if_ne (tgt := 34) hx hb dX4_leaveSeat_27 (by decide) (fun _ => ?_) (fun c3 => absurd c3 (by decide))
  refine lv_aload_n hx hb dX4_leaveSeat_34 rfl (lv_at hl 1 rfl) ?_
  refine mg_fg K hP dX4_leaveSeat_35 ?_
  refine lv_iload_n hx hb dX4_leaveSeat_38 rfl (lv_at hl 3 rfl) ?_
  refine mr_ald K hP (by decide) (by decide) (n := 20) rfl (by omega) (by decide) dX4_leaveSeat_39 ?_
  refine lv_iconst (v := 1) hx hb dX4_leaveSeat_40 (by decide) ?_
  refine lv_icmp_eq (tgt := 53) hx hb dX4_leaveSeat_41 (by decide) (fun c4 => ?_) (fun c4 => ?_)
  · refine lv_iconst (v := 2) hx hb dX4_leaveSeat_53 (by decide) ?_
    refine lv_goto (tgt := 58) hx hb dX4_leaveSeat_54 (by decide) ?_
    refine m_callt (rest := []) K hP hS (c_X4_holds l Z am hinj h 2) ok_X4_87 rfl ⟨Nat.le_of_ble_eq_true rfl, Nat.le_of_ble_eq_true rfl⟩ rfl hl.1 (Nat.le_of_ble_eq_true rfl) ⟨Nat.le_of_ble_eq_true rfl, Nat.le_of_ble_eq_true rfl⟩ dX4_leaveSeat_58 (by decide) (fun H locs hP hS => ?_)
    obtain ⟨h5, e5⟩ : ∃ z : St, z = (u2 h 0 3 2) := ⟨_, rfl⟩
    rw [← e5] at hP
    refine lv_if_eq (tgt := 66) hx hb dX4_leaveSeat_61 (by decide) (fun c6 => absurd c6 (by decide)) (fun _ => ?_)
    refine lv_iconst (v := (-1)) hx hb dX4_leaveSeat_64 (by decide) ?_
    exact fx_reti hx hb hr hlocks hP hS (Nat.le_of_ble_eq_true rfl) (Nat.le_of_ble_eq_true rfl) dX4_leaveSeat_65 ⟨rfl, e5⟩
  · refine lv_aload_n hx hb dX4_leaveSeat_44 rfl (lv_at hl 1 rfl) ?_
    refine lv_iload_n hx hb dX4_leaveSeat_45 rfl (lv_at hl 2 rfl) ?_
    refine lv_iload_n hx hb dX4_leaveSeat_46 rfl (lv_at hl 3 rfl) ?_
    refine m_callb (rest := [.ref (am 0)]) K hP hS (c_X4_hasSeat l Z am hinj h t f (by omega)) ok_X4_97 rfl ⟨Nat.le_of_ble_eq_true rfl, Nat.le_of_ble_eq_true rfl⟩ rfl hl.1 (Nat.le_of_ble_eq_true rfl) ⟨Nat.le_of_ble_eq_true rfl, Nat.le_of_ble_eq_true rfl⟩ dX4_leaveSeat_47 (fun c7 H locs hP hS => ?_) (fun c7 H locs hP hS => ?_)
    · exact absurd hbad (by simp only [not_or, Classical.not_not]; exact ⟨c4, c7⟩)
    · refine lv_if_ne (tgt := 57) hx hb dX4_leaveSeat_50 (by decide) (fun c8 => absurd (by decide) c8) (fun _ => ?_)
      refine lv_iconst (v := 2) hx hb dX4_leaveSeat_53 (by decide) ?_
      refine lv_goto (tgt := 58) hx hb dX4_leaveSeat_54 (by decide) ?_
      refine m_callt (rest := []) K hP hS (c_X4_holds l Z am hinj h 2) ok_X4_87 rfl ⟨Nat.le_of_ble_eq_true rfl, Nat.le_of_ble_eq_true rfl⟩ rfl hl.1 (Nat.le_of_ble_eq_true rfl) ⟨Nat.le_of_ble_eq_true rfl, Nat.le_of_ble_eq_true rfl⟩ dX4_leaveSeat_58 (by decide) (fun H locs hP hS => ?_)
      obtain ⟨h9, e9⟩ : ∃ z : St, z = (u2 h 0 3 2) := ⟨_, rfl⟩
      rw [← e9] at hP
      refine lv_if_eq (tgt := 66) hx hb dX4_leaveSeat_61 (by decide) (fun c10 => absurd c10 (by decide)) (fun _ => ?_)
      refine lv_iconst (v := (-1)) hx hb dX4_leaveSeat_64 (by decide) ?_
      exact fx_reti hx hb hr hlocks hP hS (Nat.le_of_ble_eq_true rfl) (Nat.le_of_ble_eq_true rfl) dX4_leaveSeat_65 ⟨rfl, e9⟩

set_option maxHeartbeats 4000000 in
set_option maxRecDepth 100000 in
theorem c_X4_aboard_0 (l : Launch) (Z : fx_Z) (am : Nat → Nat) (hinj : fx_inj 22 am) (h : St) (fc : Nat) (t : Nat) (f : Nat) (ht9 : t < 10) (hff : f < fc) (hfc : h 0 1 = nI fc) (hf2 : fc ≤ 20) (hs : mS h f t) (hab : ¬ 0 ≤ h 15 t) (hgo : ¬ h 16 t = 1) (hg : ¬ h 14 f = 1) (hin : h 11 f - 3 ≤ h 0 2 ∧ h 0 2 ≤ h 11 f - 1) : fx_C l Z yX4_aboard cX4_aboard 7 (some .int) 2 44 0 0 22 am (mF am (Z.2.1 0)) h [.ref (am 0), .int (nI t), .int (nI f)] (pI (cAb (u2 (u2 h 0 3 0) 15 t (nI f)) f 10) (u2 (u2 h 0 3 0) 15 t (nI f))) (fun _ => False) := by
  intro sz
  refine vx_ofW (cc := cX4_aboard) (maxL := 7) (ret := (some .int)) (by decide) rfl ?_
  intro p e s m args below meth c s₁ B hml hout hv
  obtain ⟨rfl, hsz, hP, hE, hSt⟩ := hv
  subst hsz
  have hx := B.exec
  have hb := B.bytes
  have hr := B.returns
  have hown : s.vm.findClass RX4 = some m.cls := findClass_of_methodNamed B.named
  have hlocks := B.notSynchronized
  have K : m_K p s m ([.ref (am 0), .int (nI t), .int (nI f)] : List Value).toArray c cX4_aboard 7 Z am := ⟨hx, hb, hml, hown, fun w hw => atoms_spec (ws := fx_l yX4_aboard cX4_aboard 7 (some .int)) B.pre w (List.mem_cons_of_mem _ hw), hE, hSt, hinj⟩
  have hS : va_S (fx_A 22 am s.heap.size) s.heap s.heap [] := va_S.rf
  have hl := lv_entry ([.ref (am 0), .int (nI t), .int (nI f)]) (n := 7) (Nat.le_of_ble_eq_true rfl)
  rw [lg_entry_eq]
  generalize (lg_sl ([.ref (am 0), .int (nI t), .int (nI f)]) ++ List.replicate (7 - (lg_sl ([.ref (am 0), .int (nI t), .int (nI f)])).length) Slot.unset).toArray = ls at hl ⊢
  have hl : lv_has ls 7 [(0, .ref (am 0)), (1, .int (nI t)), (2, .int (nI f))] := hl
  refine lv_aload_n hx hb dX4_aboard_0 rfl (lv_at hl 0 rfl) ?_
  refine lv_iload_n hx hb dX4_aboard_1 rfl (lv_at hl 1 rfl) ?_
  refine lv_iconst (v := 0) hx hb dX4_aboard_2 (by decide) ?_
  refine lv_bipush (v := 9) hx hb dX4_aboard_3 (by decide) ?_
  refine m_callt (rest := []) K hP hS (c_X4_in l Z am hinj h (nI t) 0 9) ok_X4_80 rfl ⟨Nat.le_of_ble_eq_true rfl, Nat.le_of_ble_eq_true rfl⟩ rfl hl.1 (Nat.le_of_ble_eq_true rfl) ⟨Nat.le_of_ble_eq_true rfl, Nat.le_of_ble_eq_true rfl⟩ dX4_aboard_5 (ix9 ht9) (fun H locs hP hS => ?_)
  refine lv_if_eq (tgt := 23) hx hb dX4_aboard_8 (by decide) (fun c1 => absurd c1 (by decide)) (fun _ => ?_)
  refine lv_aload_n hx hb dX4_aboard_11 rfl (lv_at hl 0 rfl) ?_
  refine lv_iload_n hx hb dX4_aboard_12 rfl (lv_at hl 2 rfl) ?_
  refine m_callt (rest := []) K hP hS (c_X4_isFerry l Z am hinj h (nI f)) ok_X4_101 rfl ⟨Nat.le_of_ble_eq_true rfl, Nat.le_of_ble_eq_true rfl⟩ rfl hl.1 (Nat.le_of_ble_eq_true rfl) ⟨Nat.le_of_ble_eq_true rfl, Nat.le_of_ble_eq_true rfl⟩ dX4_aboard_13 (isF_t hfc hf2 hff) (fun H locs hP hS => ?_)
  refine lv_if_eq (tgt := 23) hx hb dX4_aboard_16 (by decide) (fun c2 => absurd c2 (by decide)) (fun _ => ?_)
  refine lv_iconst (v := 1) hx hb dX4_aboard_19 (by decide) ?_
  refine lv_goto (tgt := 24) hx hb dX4_aboard_20 (by decide) ?_
  refine lv_istore_n (lv' := [(3, .int 1), (0, .ref (am 0)), (1, .int (nI t)), (2, .int (nI f))]) hx hb dX4_aboard_24 rfl hl (by decide) rfl (fun ls hl => ?_)
  refine lv_iload_n hx hb dX4_aboard_25 rfl (lv_at hl 0 rfl) ?_
  refine lv_if_eq (tgt := 98) hx hb dX4_aboard_26 (by decide) (fun c3 => absurd c3 (by decide)) (fun _ => ?_)
  refine lv_aload_n hx hb dX4_aboard_29 rfl (lv_at hl 1 rfl) ?_
  refine lv_iload_n hx hb dX4_aboard_30 rfl (lv_at hl 2 rfl) ?_
  refine lv_iload_n hx hb dX4_aboard_31 rfl (lv_at hl 3 rfl) ?_
  refine m_callt (rest := []) K hP hS (c_X4_hasSeat l Z am hinj h t f (by omega)) ok_X4_97 rfl ⟨Nat.le_of_ble_eq_true rfl, Nat.le_of_ble_eq_true rfl⟩ rfl hl.1 (Nat.le_of_ble_eq_true rfl) ⟨Nat.le_of_ble_eq_true rfl, Nat.le_of_ble_eq_true rfl⟩ dX4_aboard_32 hs (fun H locs hP hS => ?_)
  refine lv_if_eq (tgt := 94) hx hb dX4_aboard_35 (by decide) (fun c4 => absurd c4 (by decide)) (fun _ => ?_)
  refine lv_aload_n hx hb dX4_aboard_38 rfl (lv_at hl 1 rfl) ?_
  refine mg_ab K hP dX4_aboard_39 ?_
  refine lv_iload_n hx hb dX4_aboard_42 rfl (lv_at hl 2 rfl) ?_
  refine mr_ald K hP (by decide) (by decide) (n := 10) rfl (by omega) (by decide) dX4_aboard_43 ?_
  refine lv_if_ge (tgt := 94) hx hb dX4_aboard_44 (by decide) (fun c5 => absurd c5 hab) (fun _ => ?_)
  refine lv_aload_n hx hb dX4_aboard_47 rfl (lv_at hl 1 rfl) ?_
  refine mg_gone K hP dX4_aboard_48 ?_
  refine lv_iload_n hx hb dX4_aboard_51 rfl (lv_at hl 2 rfl) ?_
  refine mr_ald K hP (by decide) (by decide) (n := 10) rfl (by omega) (by decide) dX4_aboard_52 ?_
  refine lv_iconst (v := 1) hx hb dX4_aboard_53 (by decide) ?_
  refine lv_icmp_eq (tgt := 94) hx hb dX4_aboard_54 (by decide) (fun c6 => absurd c6 hgo) (fun _ => ?_)
  refine lv_aload_n hx hb dX4_aboard_57 rfl (lv_at hl 1 rfl) ?_
  refine mg_fg K hP dX4_aboard_58 ?_
  refine lv_iload_n hx hb dX4_aboard_61 rfl (lv_at hl 3 rfl) ?_
  refine mr_ald K hP (by decide) (by decide) (n := 20) rfl (by omega) (by decide) dX4_aboard_62 ?_
  refine lv_iconst (v := 1) hx hb dX4_aboard_63 (by decide) ?_
  refine lv_icmp_eq (tgt := 94) hx hb dX4_aboard_64 (by decide) (fun c7 => absurd c7 hg) (fun _ => ?_)
  refine lv_aload_n hx hb dX4_aboard_67 rfl (lv_at hl 1 rfl) ?_
  refine lv_aload_n hx hb dX4_aboard_68 rfl (lv_at hl 1 rfl) ?_
  refine mg_hour K hP dX4_aboard_69 ?_
  refine lv_aload_n hx hb dX4_aboard_72 rfl (lv_at hl 1 rfl) ?_
  refine mg_fh K hP dX4_aboard_73 ?_
  refine lv_iload_n hx hb dX4_aboard_76 rfl (lv_at hl 3 rfl) ?_
  refine mr_ald K hP (by decide) (by decide) (n := 20) rfl (by omega) (by decide) dX4_aboard_77 ?_
  refine lv_iconst (v := 3) hx hb dX4_aboard_78 (by decide) ?_
  refine lv_isub hx hb dX4_aboard_79 ?_
  refine lv_topi (fun v8 e8 => ?_)
  refine lv_aload_n hx hb dX4_aboard_80 rfl (lv_at hl 1 rfl) ?_
  refine mg_fh K hP dX4_aboard_81 ?_
  refine lv_iload_n hx hb dX4_aboard_84 rfl (lv_at hl 3 rfl) ?_
  refine mr_ald K hP (by decide) (by decide) (n := 20) rfl (by omega) (by decide) dX4_aboard_85 ?_
  refine lv_iconst (v := 1) hx hb dX4_aboard_86 (by decide) ?_
  refine lv_isub hx hb dX4_aboard_87 ?_
  refine lv_topi (fun v9 e9 => ?_)
  refine m_callt (rest := []) K hP hS (c_X4_in l Z am hinj h (h 0 2) v8 v9) ok_X4_80 rfl ⟨Nat.le_of_ble_eq_true rfl, Nat.le_of_ble_eq_true rfl⟩ rfl hl.1 (Nat.le_of_ble_eq_true rfl) ⟨Nat.le_of_ble_eq_true rfl, Nat.le_of_ble_eq_true rfl⟩ dX4_aboard_88 (by rw [e8, e9]; exact hin) (fun H locs hP hS => ?_)
  refine lv_if_ne (tgt := 98) hx hb dX4_aboard_91 (by decide) (fun _ => ?_) (fun c10 => absurd c10 (by decide))
  refine lv_iconst (v := 0) hx hb dX4_aboard_98 (by decide) ?_
  refine lv_istore (lv' := [(4, .int 0), (3, .int 1), (0, .ref (am 0)), (1, .int (nI t)), (2, .int (nI f))]) hx hb dX4_aboard_99 hl (by decide) rfl (fun ls hl => ?_)
  refine lv_aload_n hx hb dX4_aboard_101 rfl (lv_at hl 2 rfl) ?_
  refine lv_iload_n hx hb dX4_aboard_102 rfl (lv_at hl 1 rfl) ?_
  refine lv_if_ne (tgt := 110) hx hb dX4_aboard_103 (by decide) (fun _ => ?_) (fun c11 => absurd c11 (by decide))
  refine lv_iload hx hb dX4_aboard_110 (lv_at hl 0 rfl) ?_
  refine lv_if_eq (tgt := 119) hx hb dX4_aboard_112 (by decide) (fun _ => ?_) (fun c12 => absurd (by decide) c12)
  refine lv_iconst (v := 0) hx hb dX4_aboard_119 (by decide) ?_
  refine m_callf (rest := []) K hP hS (c_X4_holds l Z am hinj h 0) ok_X4_87 rfl ⟨Nat.le_of_ble_eq_true rfl, Nat.le_of_ble_eq_true rfl⟩ rfl hl.1 (Nat.le_of_ble_eq_true rfl) ⟨Nat.le_of_ble_eq_true rfl, Nat.le_of_ble_eq_true rfl⟩ dX4_aboard_120 (by decide) (fun H locs hP hS => ?_)
  obtain ⟨h13, e13⟩ : ∃ z : St, z = (u2 h 0 3 0) := ⟨_, rfl⟩
  rw [← e13] at hP
  refine lv_if_eq (tgt := 128) hx hb dX4_aboard_123 (by decide) (fun _ => ?_) (fun c14 => absurd (by decide) c14)
  refine lv_aload_n hx hb dX4_aboard_128 rfl (lv_at hl 2 rfl) ?_
  refine mg_ab K hP dX4_aboard_129 ?_
  refine lv_iload_n hx hb dX4_aboard_132 rfl (lv_at hl 3 rfl) ?_
  refine lv_iload_n hx hb dX4_aboard_133 rfl (lv_at hl 4 rfl) ?_
  refine mr_ast K hP hS (by decide) (by decide) (n := 10) rfl (by omega) (by decide) dX4_aboard_134 (fun h15 H locs e15 hP hS => ?_)
  refine lv_iconst (v := 0) hx hb dX4_aboard_135 (by decide) ?_
  refine lv_istore (lv' := [(5, .int 0), (4, .int 0), (3, .int 1), (0, .ref (am 0)), (1, .int (nI t)), (2, .int (nI f))]) hx hb dX4_aboard_136 hl (by decide) rfl (fun ls hl => ?_)
  refine lv_iconst (v := 0) hx hb dX4_aboard_138 (by decide) ?_
  refine lv_istore (lv' := [(6, .int 0), (5, .int 0), (4, .int 0), (3, .int 1), (0, .ref (am 0)), (1, .int (nI t)), (2, .int (nI f))]) hx hb dX4_aboard_139 hl (by decide) rfl (fun ls hl => ?_)
  have hloop141 : ∀ (d : Nat) (k : Nat) (x : Int32), k + d = 10 → x = cAb h15 f k → ∀ (H : Heap) (locs : List Loc), va_P Z.1 vwCl (iw 22 (mF am (Z.2.1 0) h15)) H → va_S (fx_A 22 am s.heap.size) s.heap H locs → ∀ ls : Array Slot, lv_has ls 7 [(0, .ref (am 0)), (2, .int (nI f)), (5, .int x), (6, .int (nI k))] → W p l e (headSpec (fx_l yX4_aboard cX4_aboard 7 (some .int)) { frames := 2, cells := 0, slots := 0, locals := 44 }).room s m ([.ref (am 0), .int (nI t), .int (nI f)] : List Value).toArray below meth c H locs 0 0 (vx_MQ below (fx_post Z 22 am (mF am (Z.2.1 0)) (pI (cAb (u2 (u2 h 0 3 0) 15 t (nI f)) f 10) (u2 (u2 h 0 3 0) 15 t (nI f))) s.heap.size) (fx_px Z 22 am (mF am (Z.2.1 0) h) (fun _ => False) s.heap.size) ([.ref (am 0), .int (nI t), .int (nI f)] : List Value).toArray s 0 0 (fx_A 22 am s.heap.size)) (F0 m 141 ls []) := by
    intro d
    induction d with
    | zero =>
      intro k x hd hx2 H locs hP hS ls hl
      refine lv_iload hx hb dX4_aboard_141 (lv_at hl 3 rfl) ?_
      refine lv_bipush (v := 10) hx hb dX4_aboard_143 (by decide) ?_
      refine lv_icmp_ge (tgt := 175) hx hb dX4_aboard_145 (by decide) (fun _ => ?_) (fun c16 => absurd (nI_le (a := 10) (by omega) (by omega)) c16)
      refine lv_iload hx hb dX4_aboard_175 (lv_at hl 2 rfl) ?_
      exact fx_reti hx hb hr hlocks hP hS (Nat.le_of_ble_eq_true rfl) (Nat.le_of_ble_eq_true rfl) dX4_aboard_177 ⟨(by rw [hx2, show k = 10 by omega]; simp only [e13, e15]), by simp only [e13, e15]⟩
    | succ d ih141 =>
      intro k x hd hx2 H locs hP hS ls hl
      refine lv_iload hx hb dX4_aboard_141 (lv_at hl 3 rfl) ?_
      refine lv_bipush (v := 10) hx hb dX4_aboard_143 (by decide) ?_
      refine lv_icmp_ge (tgt := 175) hx hb dX4_aboard_145 (by decide) (fun c17 => absurd c17 (nI_ge (b := 10) (by omega) (by omega))) (fun _ => ?_)
      refine lv_iload hx hb dX4_aboard_148 (lv_at hl 2 rfl) ?_
      refine lv_aload_n hx hb dX4_aboard_150 rfl (lv_at hl 0 rfl) ?_
      refine mg_ab K hP dX4_aboard_151 ?_
      refine lv_iload hx hb dX4_aboard_154 (lv_at hl 3 rfl) ?_
      refine mr_ald K hP (by decide) (by decide) (n := 10) rfl (by omega) (by decide) dX4_aboard_156 ?_
      refine lv_iload_n hx hb dX4_aboard_157 rfl (lv_at hl 1 rfl) ?_
      refine lv_icmp_ne (tgt := 165) hx hb dX4_aboard_158 (by decide) (fun c18 => ?_) (fun c18 => ?_)
      · refine lv_iconst (v := 0) hx hb dX4_aboard_165 (by decide) ?_
        refine lv_iadd hx hb dX4_aboard_166 ?_
        refine lv_topi (fun v19 e19 => ?_)
        refine lv_istore (lv' := [(5, .int v19), (0, .ref (am 0)), (2, .int (nI f)), (6, .int (nI k))]) hx hb dX4_aboard_167 hl (by decide) rfl (fun ls hl => ?_)
        refine lv_iinc (v := nI (k + 1)) (lv' := [(6, .int (nI (k + 1))), (5, .int v19), (0, .ref (am 0)), (2, .int (nI f))]) hx hb dX4_aboard_169 hl (k := 3) rfl (nI_1 _) (by decide) rfl (fun ls hl => ?_)
        refine lv_goto (tgt := 141) hx hb dX4_aboard_172 (by decide) ?_
        exact ih141 (k + 1) v19 (by omega) (by rw [e19, hx2]; simp [cAb, c18]) H locs hP hS ls (lv_sub hl [2, 3, 1, 0] rfl)
      · refine lv_iconst (v := 1) hx hb dX4_aboard_161 (by decide) ?_
        refine lv_goto (tgt := 166) hx hb dX4_aboard_162 (by decide) ?_
        refine lv_iadd hx hb dX4_aboard_166 ?_
        refine lv_topi (fun v20 e20 => ?_)
        refine lv_istore (lv' := [(5, .int v20), (0, .ref (am 0)), (2, .int (nI f)), (6, .int (nI k))]) hx hb dX4_aboard_167 hl (by decide) rfl (fun ls hl => ?_)
        refine lv_iinc (v := nI (k + 1)) (lv' := [(6, .int (nI (k + 1))), (5, .int v20), (0, .ref (am 0)), (2, .int (nI f))]) hx hb dX4_aboard_169 hl (k := 3) rfl (nI_1 _) (by decide) rfl (fun ls hl => ?_)
        refine lv_goto (tgt := 141) hx hb dX4_aboard_172 (by decide) ?_
        exact ih141 (k + 1) v20 (by omega) (by rw [e20, hx2]; simp [cAb, c18]) H locs hP hS ls (lv_sub hl [2, 3, 1, 0] rfl)
  exact hloop141 10 0 0 (by omega) rfl H locs hP hS ls (lv_sub hl [4, 6, 1, 0] rfl)

set_option maxHeartbeats 4000000 in
set_option maxRecDepth 100000 in
theorem c_X4_aboard_1 (l : Launch) (Z : fx_Z) (am : Nat → Nat) (hinj : fx_inj 22 am) (h : St) (fc : Nat) (t : Int32) (f : Int32) (hfc : h 0 1 = nI fc) (hf2 : fc ≤ 20) (hbad : bad t 10 ∨ bad f fc) : fx_C l Z yX4_aboard cX4_aboard 7 (some .int) 2 44 0 0 22 am (mF am (Z.2.1 0)) h [.ref (am 0), .int t, .int f] (pI (-1) (u2 h 0 3 1)) (fun _ => False) := by
  intro sz
  refine vx_ofW (cc := cX4_aboard) (maxL := 7) (ret := (some .int)) (by decide) rfl ?_
  intro p e s m args below meth c s₁ B hml hout hv
  obtain ⟨rfl, hsz, hP, hE, hSt⟩ := hv
  subst hsz
  have hx := B.exec
  have hb := B.bytes
  have hr := B.returns
  have hown : s.vm.findClass RX4 = some m.cls := findClass_of_methodNamed B.named
  have hlocks := B.notSynchronized
  have K : m_K p s m ([.ref (am 0), .int t, .int f] : List Value).toArray c cX4_aboard 7 Z am := ⟨hx, hb, hml, hown, fun w hw => atoms_spec (ws := fx_l yX4_aboard cX4_aboard 7 (some .int)) B.pre w (List.mem_cons_of_mem _ hw), hE, hSt, hinj⟩
  have hS : va_S (fx_A 22 am s.heap.size) s.heap s.heap [] := va_S.rf
  have hl := lv_entry ([.ref (am 0), .int t, .int f]) (n := 7) (Nat.le_of_ble_eq_true rfl)
  rw [lg_entry_eq]
  generalize (lg_sl ([.ref (am 0), .int t, .int f]) ++ List.replicate (7 - (lg_sl ([.ref (am 0), .int t, .int f])).length) Slot.unset).toArray = ls at hl ⊢
  have hl : lv_has ls 7 [(0, .ref (am 0)), (1, .int t), (2, .int f)] := hl
  refine lv_aload_n hx hb dX4_aboard_0 rfl (lv_at hl 0 rfl) ?_
  refine lv_iload_n hx hb dX4_aboard_1 rfl (lv_at hl 1 rfl) ?_
  refine lv_iconst (v := 0) hx hb dX4_aboard_2 (by decide) ?_
  refine lv_bipush (v := 9) hx hb dX4_aboard_3 (by decide) ?_
  refine m_callb (rest := []) K hP hS (c_X4_in l Z am hinj h t 0 9) ok_X4_80 rfl ⟨Nat.le_of_ble_eq_true rfl, Nat.le_of_ble_eq_true rfl⟩ rfl hl.1 (Nat.le_of_ble_eq_true rfl) ⟨Nat.le_of_ble_eq_true rfl, Nat.le_of_ble_eq_true rfl⟩ dX4_aboard_5 (fun c1 H locs hP hS => ?_) (fun c1 H locs hP hS => ?_)
  · refine lv_if_eq (tgt := 23) hx hb dX4_aboard_8 (by decide) (fun c2 => absurd c2 (by decide)) (fun _ => ?_)
    refine lv_aload_n hx hb dX4_aboard_11 rfl (lv_at hl 0 rfl) ?_
    refine lv_iload_n hx hb dX4_aboard_12 rfl (lv_at hl 2 rfl) ?_
    refine m_callb (rest := []) K hP hS (c_X4_isFerry l Z am hinj h f) ok_X4_101 rfl ⟨Nat.le_of_ble_eq_true rfl, Nat.le_of_ble_eq_true rfl⟩ rfl hl.1 (Nat.le_of_ble_eq_true rfl) ⟨Nat.le_of_ble_eq_true rfl, Nat.le_of_ble_eq_true rfl⟩ dX4_aboard_13 (fun c3 H locs hP hS => ?_) (fun c3 H locs hP hS => ?_)
    · exact absurd hbad (nbad2 hfc hf2 c1 c3)
    · refine lv_if_eq (tgt := 23) hx hb dX4_aboard_16 (by decide) (fun _ => ?_) (fun c4 => absurd (by decide) c4)
      refine lv_iconst (v := 0) hx hb dX4_aboard_23 (by decide) ?_
      refine lv_istore_n (lv' := [(3, .int 0), (0, .ref (am 0)), (1, .int t), (2, .int f)]) hx hb dX4_aboard_24 rfl hl (by decide) rfl (fun ls hl => ?_)
      refine lv_iload_n hx hb dX4_aboard_25 rfl (lv_at hl 0 rfl) ?_
      refine lv_if_eq (tgt := 98) hx hb dX4_aboard_26 (by decide) (fun _ => ?_) (fun c5 => absurd (by decide) c5)
      refine lv_iconst (v := 0) hx hb dX4_aboard_98 (by decide) ?_
      refine lv_istore (lv' := [(4, .int 0), (3, .int 0), (0, .ref (am 0)), (1, .int t), (2, .int f)]) hx hb dX4_aboard_99 hl (by decide) rfl (fun ls hl => ?_)
      refine lv_aload_n hx hb dX4_aboard_101 rfl (lv_at hl 2 rfl) ?_
      refine lv_iload_n hx hb dX4_aboard_102 rfl (lv_at hl 1 rfl) ?_
      refine lv_if_ne (tgt := 110) hx hb dX4_aboard_103 (by decide) (fun c6 => absurd (by decide) c6) (fun _ => ?_)
      refine lv_iconst (v := 1) hx hb dX4_aboard_106 (by decide) ?_
      refine lv_goto (tgt := 120) hx hb dX4_aboard_107 (by decide) ?_
      refine m_callt (rest := []) K hP hS (c_X4_holds l Z am hinj h 1) ok_X4_87 rfl ⟨Nat.le_of_ble_eq_true rfl, Nat.le_of_ble_eq_true rfl⟩ rfl hl.1 (Nat.le_of_ble_eq_true rfl) ⟨Nat.le_of_ble_eq_true rfl, Nat.le_of_ble_eq_true rfl⟩ dX4_aboard_120 (by decide) (fun H locs hP hS => ?_)
      obtain ⟨h7, e7⟩ : ∃ z : St, z = (u2 h 0 3 1) := ⟨_, rfl⟩
      rw [← e7] at hP
      refine lv_if_eq (tgt := 128) hx hb dX4_aboard_123 (by decide) (fun c8 => absurd c8 (by decide)) (fun _ => ?_)
      refine lv_iconst (v := (-1)) hx hb dX4_aboard_126 (by decide) ?_
      exact fx_reti hx hb hr hlocks hP hS (Nat.le_of_ble_eq_true rfl) (Nat.le_of_ble_eq_true rfl) dX4_aboard_127 ⟨rfl, e7⟩
  · refine lv_if_eq (tgt := 23) hx hb dX4_aboard_8 (by decide) (fun _ => ?_) (fun c9 => absurd (by decide) c9)
    refine lv_iconst (v := 0) hx hb dX4_aboard_23 (by decide) ?_
    refine lv_istore_n (lv' := [(3, .int 0), (0, .ref (am 0)), (1, .int t), (2, .int f)]) hx hb dX4_aboard_24 rfl hl (by decide) rfl (fun ls hl => ?_)
    refine lv_iload_n hx hb dX4_aboard_25 rfl (lv_at hl 0 rfl) ?_
    refine lv_if_eq (tgt := 98) hx hb dX4_aboard_26 (by decide) (fun _ => ?_) (fun c10 => absurd (by decide) c10)
    refine lv_iconst (v := 0) hx hb dX4_aboard_98 (by decide) ?_
    refine lv_istore (lv' := [(4, .int 0), (3, .int 0), (0, .ref (am 0)), (1, .int t), (2, .int f)]) hx hb dX4_aboard_99 hl (by decide) rfl (fun ls hl => ?_)
    refine lv_aload_n hx hb dX4_aboard_101 rfl (lv_at hl 2 rfl) ?_
    refine lv_iload_n hx hb dX4_aboard_102 rfl (lv_at hl 1 rfl) ?_
    refine lv_if_ne (tgt := 110) hx hb dX4_aboard_103 (by decide) (fun c11 => absurd (by decide) c11) (fun _ => ?_)
    refine lv_iconst (v := 1) hx hb dX4_aboard_106 (by decide) ?_
    refine lv_goto (tgt := 120) hx hb dX4_aboard_107 (by decide) ?_
    refine m_callt (rest := []) K hP hS (c_X4_holds l Z am hinj h 1) ok_X4_87 rfl ⟨Nat.le_of_ble_eq_true rfl, Nat.le_of_ble_eq_true rfl⟩ rfl hl.1 (Nat.le_of_ble_eq_true rfl) ⟨Nat.le_of_ble_eq_true rfl, Nat.le_of_ble_eq_true rfl⟩ dX4_aboard_120 (by decide) (fun H locs hP hS => ?_)
    obtain ⟨h12, e12⟩ : ∃ z : St, z = (u2 h 0 3 1) := ⟨_, rfl⟩
    rw [← e12] at hP
    refine lv_if_eq (tgt := 128) hx hb dX4_aboard_123 (by decide) (fun c13 => absurd c13 (by decide)) (fun _ => ?_)
    refine lv_iconst (v := (-1)) hx hb dX4_aboard_126 (by decide) ?_
    exact fx_reti hx hb hr hlocks hP hS (Nat.le_of_ble_eq_true rfl) (Nat.le_of_ble_eq_true rfl) dX4_aboard_127 ⟨rfl, e12⟩

set_option maxHeartbeats 4000000 in
set_option maxRecDepth 100000 in
theorem c_X4_aboard_2 (l : Launch) (Z : fx_Z) (am : Nat → Nat) (hinj : fx_inj 22 am) (h : St) (fc : Nat) (t : Nat) (f : Nat) (ht9 : t < 10) (hff : f < fc) (hfc : h 0 1 = nI fc) (hf2 : fc ≤ 20) (hbad : ¬ mS h f t ∨ 0 ≤ h 15 t ∨ h 16 t = 1 ∨ h 14 f = 1 ∨ ¬ (h 11 f - 3 ≤ h 0 2 ∧ h 0 2 ≤ h 11 f - 1)) : fx_C l Z yX4_aboard cX4_aboard 7 (some .int) 2 44 0 0 22 am (mF am (Z.2.1 0)) h [.ref (am 0), .int (nI t), .int (nI f)] (pI (-1) (u2 h 0 3 2)) (fun _ => False) := by
  intro sz
  refine vx_ofW (cc := cX4_aboard) (maxL := 7) (ret := (some .int)) (by decide) rfl ?_
  intro p e s m args below meth c s₁ B hml hout hv
  obtain ⟨rfl, hsz, hP, hE, hSt⟩ := hv
  subst hsz
  have hx := B.exec
  have hb := B.bytes
  have hr := B.returns
  have hown : s.vm.findClass RX4 = some m.cls := findClass_of_methodNamed B.named
  have hlocks := B.notSynchronized
  have K : m_K p s m ([.ref (am 0), .int (nI t), .int (nI f)] : List Value).toArray c cX4_aboard 7 Z am := ⟨hx, hb, hml, hown, fun w hw => atoms_spec (ws := fx_l yX4_aboard cX4_aboard 7 (some .int)) B.pre w (List.mem_cons_of_mem _ hw), hE, hSt, hinj⟩
  have hS : va_S (fx_A 22 am s.heap.size) s.heap s.heap [] := va_S.rf
  have hl := lv_entry ([.ref (am 0), .int (nI t), .int (nI f)]) (n := 7) (Nat.le_of_ble_eq_true rfl)
  rw [lg_entry_eq]
  generalize (lg_sl ([.ref (am 0), .int (nI t), .int (nI f)]) ++ List.replicate (7 - (lg_sl ([.ref (am 0), .int (nI t), .int (nI f)])).length) Slot.unset).toArray = ls at hl ⊢
  have hl : lv_has ls 7 [(0, .ref (am 0)), (1, .int (nI t)), (2, .int (nI f))] := hl
  refine lv_aload_n hx hb dX4_aboard_0 rfl (lv_at hl 0 rfl) ?_
  refine lv_iload_n hx hb dX4_aboard_1 rfl (lv_at hl 1 rfl) ?_
  refine lv_iconst (v := 0) hx hb dX4_aboard_2 (by decide) ?_
  refine lv_bipush (v := 9) hx hb dX4_aboard_3 (by decide) ?_
  refine m_callt (rest := []) K hP hS (c_X4_in l Z am hinj h (nI t) 0 9) ok_X4_80 rfl ⟨Nat.le_of_ble_eq_true rfl, Nat.le_of_ble_eq_true rfl⟩ rfl hl.1 (Nat.le_of_ble_eq_true rfl) ⟨Nat.le_of_ble_eq_true rfl, Nat.le_of_ble_eq_true rfl⟩ dX4_aboard_5 (ix9 ht9) (fun H locs hP hS => ?_)
  refine lv_if_eq (tgt := 23) hx hb dX4_aboard_8 (by decide) (fun c1 => absurd c1 (by decide)) (fun _ => ?_)
  refine lv_aload_n hx hb dX4_aboard_11 rfl (lv_at hl 0 rfl) ?_
  refine lv_iload_n hx hb dX4_aboard_12 rfl (lv_at hl 2 rfl) ?_
  refine m_callt (rest := []) K hP hS (c_X4_isFerry l Z am hinj h (nI f)) ok_X4_101 rfl ⟨Nat.le_of_ble_eq_true rfl, Nat.le_of_ble_eq_true rfl⟩ rfl hl.1 (Nat.le_of_ble_eq_true rfl) ⟨Nat.le_of_ble_eq_true rfl, Nat.le_of_ble_eq_true rfl⟩ dX4_aboard_13 (isF_t hfc hf2 hff) (fun H locs hP hS => ?_)
  refine lv_if_eq (tgt := 23) hx hb dX4_aboard_16 (by decide) (fun c2 => absurd c2 (by decide)) (fun _ => ?_)
  refine lv_iconst (v := 1) hx hb dX4_aboard_19 (by decide) ?_
  refine lv_goto (tgt := 24) hx hb dX4_aboard_20 (by decide) ?_
  refine lv_istore_n (lv' := [(3, .int 1), (0, .ref (am 0)), (1, .int (nI t)), (2, .int (nI f))]) hx hb dX4_aboard_24 rfl hl (by decide) rfl (fun ls hl => ?_)
  refine lv_iload_n hx hb dX4_aboard_25 rfl (lv_at hl 0 rfl) ?_
  refine lv_if_eq (tgt := 98) hx hb dX4_aboard_26 (by decide) (fun c3 => absurd c3 (by decide)) (fun _ => ?_)
  refine lv_aload_n hx hb dX4_aboard_29 rfl (lv_at hl 1 rfl) ?_
  refine lv_iload_n hx hb dX4_aboard_30 rfl (lv_at hl 2 rfl) ?_
  refine lv_iload_n hx hb dX4_aboard_31 rfl (lv_at hl 3 rfl) ?_
  refine m_callb (rest := []) K hP hS (c_X4_hasSeat l Z am hinj h t f (by omega)) ok_X4_97 rfl ⟨Nat.le_of_ble_eq_true rfl, Nat.le_of_ble_eq_true rfl⟩ rfl hl.1 (Nat.le_of_ble_eq_true rfl) ⟨Nat.le_of_ble_eq_true rfl, Nat.le_of_ble_eq_true rfl⟩ dX4_aboard_32 (fun c4 H locs hP hS => ?_) (fun c4 H locs hP hS => ?_)
  · refine lv_if_eq (tgt := 94) hx hb dX4_aboard_35 (by decide) (fun c5 => absurd c5 (by decide)) (fun _ => ?_)
    refine lv_aload_n hx hb dX4_aboard_38 rfl (lv_at hl 1 rfl) ?_
    refine mg_ab K hP dX4_aboard_39 ?_
    refine lv_iload_n hx hb dX4_aboard_42 rfl (lv_at hl 2 rfl) ?_
    refine mr_ald K hP (by decide) (by decide) (n := 10) rfl (by omega) (by decide) dX4_aboard_43 ?_
    refine lv_if_ge (tgt := 94) hx hb dX4_aboard_44 (by decide) (fun c6 => ?_) (fun c6 => ?_)
    · refine lv_iconst (v := 1) hx hb dX4_aboard_94 (by decide) ?_
      refine lv_goto (tgt := 99) hx hb dX4_aboard_95 (by decide) ?_
      refine lv_istore (lv' := [(4, .int 1), (3, .int 1), (0, .ref (am 0)), (1, .int (nI t)), (2, .int (nI f))]) hx hb dX4_aboard_99 hl (by decide) rfl (fun ls hl => ?_)
      refine lv_aload_n hx hb dX4_aboard_101 rfl (lv_at hl 2 rfl) ?_
      refine lv_iload_n hx hb dX4_aboard_102 rfl (lv_at hl 1 rfl) ?_
      refine lv_if_ne (tgt := 110) hx hb dX4_aboard_103 (by decide) (fun _ => ?_) (fun c7 => absurd c7 (by decide))
      refine lv_iload hx hb dX4_aboard_110 (lv_at hl 0 rfl) ?_
      refine lv_if_eq (tgt := 119) hx hb dX4_aboard_112 (by decide) (fun c8 => absurd c8 (by decide)) (fun _ => ?_)
      refine lv_iconst (v := 2) hx hb dX4_aboard_115 (by decide) ?_
      refine lv_goto (tgt := 120) hx hb dX4_aboard_116 (by decide) ?_
      refine m_callt (rest := []) K hP hS (c_X4_holds l Z am hinj h 2) ok_X4_87 rfl ⟨Nat.le_of_ble_eq_true rfl, Nat.le_of_ble_eq_true rfl⟩ rfl hl.1 (Nat.le_of_ble_eq_true rfl) ⟨Nat.le_of_ble_eq_true rfl, Nat.le_of_ble_eq_true rfl⟩ dX4_aboard_120 (by decide) (fun H locs hP hS => ?_)
      obtain ⟨h9, e9⟩ : ∃ z : St, z = (u2 h 0 3 2) := ⟨_, rfl⟩
      rw [← e9] at hP
      refine lv_if_eq (tgt := 128) hx hb dX4_aboard_123 (by decide) (fun c10 => absurd c10 (by decide)) (fun _ => ?_)
      refine lv_iconst (v := (-1)) hx hb dX4_aboard_126 (by decide) ?_
      exact fx_reti hx hb hr hlocks hP hS (Nat.le_of_ble_eq_true rfl) (Nat.le_of_ble_eq_true rfl) dX4_aboard_127 ⟨rfl, e9⟩
    · refine lv_aload_n hx hb dX4_aboard_47 rfl (lv_at hl 1 rfl) ?_
      refine mg_gone K hP dX4_aboard_48 ?_
      refine lv_iload_n hx hb dX4_aboard_51 rfl (lv_at hl 2 rfl) ?_
      refine mr_ald K hP (by decide) (by decide) (n := 10) rfl (by omega) (by decide) dX4_aboard_52 ?_
      refine lv_iconst (v := 1) hx hb dX4_aboard_53 (by decide) ?_
      refine lv_icmp_eq (tgt := 94) hx hb dX4_aboard_54 (by decide) (fun c11 => ?_) (fun c11 => ?_)
      · refine lv_iconst (v := 1) hx hb dX4_aboard_94 (by decide) ?_
        refine lv_goto (tgt := 99) hx hb dX4_aboard_95 (by decide) ?_
        refine lv_istore (lv' := [(4, .int 1), (3, .int 1), (0, .ref (am 0)), (1, .int (nI t)), (2, .int (nI f))]) hx hb dX4_aboard_99 hl (by decide) rfl (fun ls hl => ?_)
        refine lv_aload_n hx hb dX4_aboard_101 rfl (lv_at hl 2 rfl) ?_
        refine lv_iload_n hx hb dX4_aboard_102 rfl (lv_at hl 1 rfl) ?_
        refine lv_if_ne (tgt := 110) hx hb dX4_aboard_103 (by decide) (fun _ => ?_) (fun c12 => absurd c12 (by decide))
        refine lv_iload hx hb dX4_aboard_110 (lv_at hl 0 rfl) ?_
        refine lv_if_eq (tgt := 119) hx hb dX4_aboard_112 (by decide) (fun c13 => absurd c13 (by decide)) (fun _ => ?_)
        refine lv_iconst (v := 2) hx hb dX4_aboard_115 (by decide) ?_
        refine lv_goto (tgt := 120) hx hb dX4_aboard_116 (by decide) ?_
        refine m_callt (rest := []) K hP hS (c_X4_holds l Z am hinj h 2) ok_X4_87 rfl ⟨Nat.le_of_ble_eq_true rfl, Nat.le_of_ble_eq_true rfl⟩ rfl hl.1 (Nat.le_of_ble_eq_true rfl) ⟨Nat.le_of_ble_eq_true rfl, Nat.le_of_ble_eq_true rfl⟩ dX4_aboard_120 (by decide) (fun H locs hP hS => ?_)
        obtain ⟨h14, e14⟩ : ∃ z : St, z = (u2 h 0 3 2) := ⟨_, rfl⟩
        rw [← e14] at hP
        refine lv_if_eq (tgt := 128) hx hb dX4_aboard_123 (by decide) (fun c15 => absurd c15 (by decide)) (fun _ => ?_)
        refine lv_iconst (v := (-1)) hx hb dX4_aboard_126 (by decide) ?_
        exact fx_reti hx hb hr hlocks hP hS (Nat.le_of_ble_eq_true rfl) (Nat.le_of_ble_eq_true rfl) dX4_aboard_127 ⟨rfl, e14⟩
      · refine lv_aload_n hx hb dX4_aboard_57 rfl (lv_at hl 1 rfl) ?_
        refine mg_fg K hP dX4_aboard_58 ?_
        refine lv_iload_n hx hb dX4_aboard_61 rfl (lv_at hl 3 rfl) ?_
        refine mr_ald K hP (by decide) (by decide) (n := 20) rfl (by omega) (by decide) dX4_aboard_62 ?_
        refine lv_iconst (v := 1) hx hb dX4_aboard_63 (by decide) ?_
        refine lv_icmp_eq (tgt := 94) hx hb dX4_aboard_64 (by decide) (fun c16 => ?_) (fun c16 => ?_)
        · refine lv_iconst (v := 1) hx hb dX4_aboard_94 (by decide) ?_
          refine lv_goto (tgt := 99) hx hb dX4_aboard_95 (by decide) ?_
          refine lv_istore (lv' := [(4, .int 1), (3, .int 1), (0, .ref (am 0)), (1, .int (nI t)), (2, .int (nI f))]) hx hb dX4_aboard_99 hl (by decide) rfl (fun ls hl => ?_)
          refine lv_aload_n hx hb dX4_aboard_101 rfl (lv_at hl 2 rfl) ?_
          refine lv_iload_n hx hb dX4_aboard_102 rfl (lv_at hl 1 rfl) ?_
          refine lv_if_ne (tgt := 110) hx hb dX4_aboard_103 (by decide) (fun _ => ?_) (fun c17 => absurd c17 (by decide))
          refine lv_iload hx hb dX4_aboard_110 (lv_at hl 0 rfl) ?_
          refine lv_if_eq (tgt := 119) hx hb dX4_aboard_112 (by decide) (fun c18 => absurd c18 (by decide)) (fun _ => ?_)
          refine lv_iconst (v := 2) hx hb dX4_aboard_115 (by decide) ?_
          refine lv_goto (tgt := 120) hx hb dX4_aboard_116 (by decide) ?_
          refine m_callt (rest := []) K hP hS (c_X4_holds l Z am hinj h 2) ok_X4_87 rfl ⟨Nat.le_of_ble_eq_true rfl, Nat.le_of_ble_eq_true rfl⟩ rfl hl.1 (Nat.le_of_ble_eq_true rfl) ⟨Nat.le_of_ble_eq_true rfl, Nat.le_of_ble_eq_true rfl⟩ dX4_aboard_120 (by decide) (fun H locs hP hS => ?_)
          obtain ⟨h19, e19⟩ : ∃ z : St, z = (u2 h 0 3 2) := ⟨_, rfl⟩
          rw [← e19] at hP
          refine lv_if_eq (tgt := 128) hx hb dX4_aboard_123 (by decide) (fun c20 => absurd c20 (by decide)) (fun _ => ?_)
          refine lv_iconst (v := (-1)) hx hb dX4_aboard_126 (by decide) ?_
          exact fx_reti hx hb hr hlocks hP hS (Nat.le_of_ble_eq_true rfl) (Nat.le_of_ble_eq_true rfl) dX4_aboard_127 ⟨rfl, e19⟩
        · refine lv_aload_n hx hb dX4_aboard_67 rfl (lv_at hl 1 rfl) ?_
          refine lv_aload_n hx hb dX4_aboard_68 rfl (lv_at hl 1 rfl) ?_
          refine mg_hour K hP dX4_aboard_69 ?_
          refine lv_aload_n hx hb dX4_aboard_72 rfl (lv_at hl 1 rfl) ?_
          refine mg_fh K hP dX4_aboard_73 ?_
          refine lv_iload_n hx hb dX4_aboard_76 rfl (lv_at hl 3 rfl) ?_
          refine mr_ald K hP (by decide) (by decide) (n := 20) rfl (by omega) (by decide) dX4_aboard_77 ?_
          refine lv_iconst (v := 3) hx hb dX4_aboard_78 (by decide) ?_
          refine lv_isub hx hb dX4_aboard_79 ?_
          refine lv_topi (fun v21 e21 => ?_)
          refine lv_aload_n hx hb dX4_aboard_80 rfl (lv_at hl 1 rfl) ?_
          refine mg_fh K hP dX4_aboard_81 ?_
          refine lv_iload_n hx hb dX4_aboard_84 rfl (lv_at hl 3 rfl) ?_
          refine mr_ald K hP (by decide) (by decide) (n := 20) rfl (by omega) (by decide) dX4_aboard_85 ?_
          refine lv_iconst (v := 1) hx hb dX4_aboard_86 (by decide) ?_
          refine lv_isub hx hb dX4_aboard_87 ?_
          refine lv_topi (fun v22 e22 => ?_)
          refine m_callb (rest := []) K hP hS (c_X4_in l Z am hinj h (h 0 2) v21 v22) ok_X4_80 rfl ⟨Nat.le_of_ble_eq_true rfl, Nat.le_of_ble_eq_true rfl⟩ rfl hl.1 (Nat.le_of_ble_eq_true rfl) ⟨Nat.le_of_ble_eq_true rfl, Nat.le_of_ble_eq_true rfl⟩ dX4_aboard_88 (fun c23 H locs hP hS => ?_) (fun c23 H locs hP hS => ?_)
          · exact absurd hbad (by simp only [not_or, Classical.not_not]; exact ⟨c4, c6, c11, c16, by rw [e21, e22] at c23; exact c23⟩)
          · refine lv_if_ne (tgt := 98) hx hb dX4_aboard_91 (by decide) (fun c24 => absurd (by decide) c24) (fun _ => ?_)
            refine lv_iconst (v := 1) hx hb dX4_aboard_94 (by decide) ?_
            refine lv_goto (tgt := 99) hx hb dX4_aboard_95 (by decide) ?_
            refine lv_istore (lv' := [(4, .int 1), (3, .int 1), (0, .ref (am 0)), (1, .int (nI t)), (2, .int (nI f))]) hx hb dX4_aboard_99 hl (by decide) rfl (fun ls hl => ?_)
            refine lv_aload_n hx hb dX4_aboard_101 rfl (lv_at hl 2 rfl) ?_
            refine lv_iload_n hx hb dX4_aboard_102 rfl (lv_at hl 1 rfl) ?_
            refine lv_if_ne (tgt := 110) hx hb dX4_aboard_103 (by decide) (fun _ => ?_) (fun c25 => absurd c25 (by decide))
            refine lv_iload hx hb dX4_aboard_110 (lv_at hl 0 rfl) ?_
            refine lv_if_eq (tgt := 119) hx hb dX4_aboard_112 (by decide) (fun c26 => absurd c26 (by decide)) (fun _ => ?_)
            refine lv_iconst (v := 2) hx hb dX4_aboard_115 (by decide) ?_
            refine lv_goto (tgt := 120) hx hb dX4_aboard_116 (by decide) ?_
            refine m_callt (rest := []) K hP hS (c_X4_holds l Z am hinj h 2) ok_X4_87 rfl ⟨Nat.le_of_ble_eq_true rfl, Nat.le_of_ble_eq_true rfl⟩ rfl hl.1 (Nat.le_of_ble_eq_true rfl) ⟨Nat.le_of_ble_eq_true rfl, Nat.le_of_ble_eq_true rfl⟩ dX4_aboard_120 (by decide) (fun H locs hP hS => ?_)
            obtain ⟨h27, e27⟩ : ∃ z : St, z = (u2 h 0 3 2) := ⟨_, rfl⟩
            rw [← e27] at hP
            refine lv_if_eq (tgt := 128) hx hb dX4_aboard_123 (by decide) (fun c28 => absurd c28 (by decide)) (fun _ => ?_)
            refine lv_iconst (v := (-1)) hx hb dX4_aboard_126 (by decide) ?_
            exact fx_reti hx hb hr hlocks hP hS (Nat.le_of_ble_eq_true rfl) (Nat.le_of_ble_eq_true rfl) dX4_aboard_127 ⟨rfl, e27⟩
  · refine lv_if_eq (tgt := 94) hx hb dX4_aboard_35 (by decide) (fun _ => ?_) (fun c29 => absurd (by decide) c29)
    refine lv_iconst (v := 1) hx hb dX4_aboard_94 (by decide) ?_
    refine lv_goto (tgt := 99) hx hb dX4_aboard_95 (by decide) ?_
    refine lv_istore (lv' := [(4, .int 1), (3, .int 1), (0, .ref (am 0)), (1, .int (nI t)), (2, .int (nI f))]) hx hb dX4_aboard_99 hl (by decide) rfl (fun ls hl => ?_)
    refine lv_aload_n hx hb dX4_aboard_101 rfl (lv_at hl 2 rfl) ?_
    refine lv_iload_n hx hb dX4_aboard_102 rfl (lv_at hl 1 rfl) ?_
    refine lv_if_ne (tgt := 110) hx hb dX4_aboard_103 (by decide) (fun _ => ?_) (fun c30 => absurd c30 (by decide))
    refine lv_iload hx hb dX4_aboard_110 (lv_at hl 0 rfl) ?_
    refine lv_if_eq (tgt := 119) hx hb dX4_aboard_112 (by decide) (fun c31 => absurd c31 (by decide)) (fun _ => ?_)
    refine lv_iconst (v := 2) hx hb dX4_aboard_115 (by decide) ?_
    refine lv_goto (tgt := 120) hx hb dX4_aboard_116 (by decide) ?_
    refine m_callt (rest := []) K hP hS (c_X4_holds l Z am hinj h 2) ok_X4_87 rfl ⟨Nat.le_of_ble_eq_true rfl, Nat.le_of_ble_eq_true rfl⟩ rfl hl.1 (Nat.le_of_ble_eq_true rfl) ⟨Nat.le_of_ble_eq_true rfl, Nat.le_of_ble_eq_true rfl⟩ dX4_aboard_120 (by decide) (fun H locs hP hS => ?_)
    obtain ⟨h32, e32⟩ : ∃ z : St, z = (u2 h 0 3 2) := ⟨_, rfl⟩
    rw [← e32] at hP
    refine lv_if_eq (tgt := 128) hx hb dX4_aboard_123 (by decide) (fun c33 => absurd c33 (by decide)) (fun _ => ?_)
    refine lv_iconst (v := (-1)) hx hb dX4_aboard_126 (by decide) ?_
    exact fx_reti hx hb hr hlocks hP hS (Nat.le_of_ble_eq_true rfl) (Nat.le_of_ble_eq_true rfl) dX4_aboard_127 ⟨rfl, e32⟩

set_option maxHeartbeats 4000000 in
set_option maxRecDepth 100000 in
theorem c_X4_stamp_0 (l : Launch) (Z : fx_Z) (am : Nat → Nat) (hinj : fx_inj 22 am) (h : St) (rc : Nat) (fc : Nat) (t : Nat) (i : Nat) (f : Nat) (hi : i < rc) (hrc : h 0 0 = nI rc) (hr6 : rc ≤ 60) (hff : f < fc) (hfc : h 0 1 = nI fc) (hf2 : fc ≤ 20) (ht : h 3 i = nI t) (ht9 : t < 10) (h7 : h 7 i = 0) (h4 : ¬ h 4 i < 50) (hg : ¬ h 14 f = 1) (hs : mS h f t) (hin : h 11 f - 12 ≤ h 0 2 ∧ h 0 2 ≤ h 11 f - 1) : fx_C l Z yX4_stamp cX4_stamp 5 (some .int) 2 44 0 0 22 am (mF am (Z.2.1 0)) h [.ref (am 0), .int (nI i), .int (nI f)] (pI (h 5 i) (u2 (u2 (u2 h 0 3 0) 7 i 1) 8 i (nI f))) (fun _ => False) := by
  intro sz
  refine vx_ofW (cc := cX4_stamp) (maxL := 5) (ret := (some .int)) (by decide) rfl ?_
  intro p e s m args below meth c s₁ B hml hout hv
  obtain ⟨rfl, hsz, hP, hE, hSt⟩ := hv
  subst hsz
  have hx := B.exec
  have hb := B.bytes
  have hr := B.returns
  have hown : s.vm.findClass RX4 = some m.cls := findClass_of_methodNamed B.named
  have hlocks := B.notSynchronized
  have K : m_K p s m ([.ref (am 0), .int (nI i), .int (nI f)] : List Value).toArray c cX4_stamp 5 Z am := ⟨hx, hb, hml, hown, fun w hw => atoms_spec (ws := fx_l yX4_stamp cX4_stamp 5 (some .int)) B.pre w (List.mem_cons_of_mem _ hw), hE, hSt, hinj⟩
  have hS : va_S (fx_A 22 am s.heap.size) s.heap s.heap [] := va_S.rf
  have hl := lv_entry ([.ref (am 0), .int (nI i), .int (nI f)]) (n := 5) (Nat.le_of_ble_eq_true rfl)
  rw [lg_entry_eq]
  generalize (lg_sl ([.ref (am 0), .int (nI i), .int (nI f)]) ++ List.replicate (5 - (lg_sl ([.ref (am 0), .int (nI i), .int (nI f)])).length) Slot.unset).toArray = ls at hl ⊢
  have hl : lv_has ls 5 [(0, .ref (am 0)), (1, .int (nI i)), (2, .int (nI f))] := hl
  refine lv_aload_n hx hb dX4_stamp_0 rfl (lv_at hl 0 rfl) ?_
  refine lv_iload_n hx hb dX4_stamp_1 rfl (lv_at hl 1 rfl) ?_
  refine m_callt (rest := []) K hP hS (c_X4_isReceipt l Z am hinj h (nI i)) ok_X4_94 rfl ⟨Nat.le_of_ble_eq_true rfl, Nat.le_of_ble_eq_true rfl⟩ rfl hl.1 (Nat.le_of_ble_eq_true rfl) ⟨Nat.le_of_ble_eq_true rfl, Nat.le_of_ble_eq_true rfl⟩ dX4_stamp_2 (isR_t hrc hr6 hi) (fun H locs hP hS => ?_)
  refine lv_if_eq (tgt := 20) hx hb dX4_stamp_5 (by decide) (fun c1 => absurd c1 (by decide)) (fun _ => ?_)
  refine lv_aload_n hx hb dX4_stamp_8 rfl (lv_at hl 0 rfl) ?_
  refine lv_iload_n hx hb dX4_stamp_9 rfl (lv_at hl 2 rfl) ?_
  refine m_callt (rest := []) K hP hS (c_X4_isFerry l Z am hinj h (nI f)) ok_X4_101 rfl ⟨Nat.le_of_ble_eq_true rfl, Nat.le_of_ble_eq_true rfl⟩ rfl hl.1 (Nat.le_of_ble_eq_true rfl) ⟨Nat.le_of_ble_eq_true rfl, Nat.le_of_ble_eq_true rfl⟩ dX4_stamp_10 (isF_t hfc hf2 hff) (fun H locs hP hS => ?_)
  refine lv_if_eq (tgt := 20) hx hb dX4_stamp_13 (by decide) (fun c2 => absurd c2 (by decide)) (fun _ => ?_)
  refine lv_iconst (v := 1) hx hb dX4_stamp_16 (by decide) ?_
  refine lv_goto (tgt := 21) hx hb dX4_stamp_17 (by decide) ?_
  refine lv_istore_n (lv' := [(3, .int 1), (0, .ref (am 0)), (1, .int (nI i)), (2, .int (nI f))]) hx hb dX4_stamp_21 rfl hl (by decide) rfl (fun ls hl => ?_)
  refine lv_iload_n hx hb dX4_stamp_22 rfl (lv_at hl 0 rfl) ?_
  refine lv_if_eq (tgt := 102) hx hb dX4_stamp_23 (by decide) (fun c3 => absurd c3 (by decide)) (fun _ => ?_)
  refine lv_aload_n hx hb dX4_stamp_26 rfl (lv_at hl 1 rfl) ?_
  refine mg_rk K hP dX4_stamp_27 ?_
  refine lv_iload_n hx hb dX4_stamp_30 rfl (lv_at hl 2 rfl) ?_
  refine mr_ald K hP (by decide) (by decide) (n := 60) rfl (by omega) (by decide) dX4_stamp_31 ?_
  refine lv_if_ne (tgt := 98) hx hb dX4_stamp_32 (by decide) (fun c4 => absurd h7 c4) (fun _ => ?_)
  refine lv_aload_n hx hb dX4_stamp_35 rfl (lv_at hl 1 rfl) ?_
  refine mg_rp K hP dX4_stamp_36 ?_
  refine lv_iload_n hx hb dX4_stamp_39 rfl (lv_at hl 2 rfl) ?_
  refine mr_ald K hP (by decide) (by decide) (n := 60) rfl (by omega) (by decide) dX4_stamp_40 ?_
  refine lv_bipush (v := 50) hx hb dX4_stamp_41 (by decide) ?_
  refine lv_icmp_lt (tgt := 98) hx hb dX4_stamp_43 (by decide) (fun c5 => absurd c5 h4) (fun _ => ?_)
  refine lv_aload_n hx hb dX4_stamp_46 rfl (lv_at hl 1 rfl) ?_
  refine mg_fg K hP dX4_stamp_47 ?_
  refine lv_iload_n hx hb dX4_stamp_50 rfl (lv_at hl 3 rfl) ?_
  refine mr_ald K hP (by decide) (by decide) (n := 20) rfl (by omega) (by decide) dX4_stamp_51 ?_
  refine lv_iconst (v := 1) hx hb dX4_stamp_52 (by decide) ?_
  refine lv_icmp_eq (tgt := 98) hx hb dX4_stamp_53 (by decide) (fun c6 => absurd c6 hg) (fun _ => ?_)
  refine lv_aload_n hx hb dX4_stamp_56 rfl (lv_at hl 1 rfl) ?_
  refine lv_aload_n hx hb dX4_stamp_57 rfl (lv_at hl 1 rfl) ?_
  refine mg_rt K hP dX4_stamp_58 ?_
  refine lv_iload_n hx hb dX4_stamp_61 rfl (lv_at hl 2 rfl) ?_
  refine mr_ald K hP (by decide) (by decide) (n := 60) rfl (by omega) (by decide) dX4_stamp_62 ?_
  rw [ht]
  refine lv_iload_n hx hb dX4_stamp_63 rfl (lv_at hl 3 rfl) ?_
  refine m_callt (rest := []) K hP hS (c_X4_hasSeat l Z am hinj h t f (by omega)) ok_X4_97 rfl ⟨Nat.le_of_ble_eq_true rfl, Nat.le_of_ble_eq_true rfl⟩ rfl hl.1 (Nat.le_of_ble_eq_true rfl) ⟨Nat.le_of_ble_eq_true rfl, Nat.le_of_ble_eq_true rfl⟩ dX4_stamp_64 hs (fun H locs hP hS => ?_)
  refine lv_if_eq (tgt := 98) hx hb dX4_stamp_67 (by decide) (fun c7 => absurd c7 (by decide)) (fun _ => ?_)
  refine lv_aload_n hx hb dX4_stamp_70 rfl (lv_at hl 1 rfl) ?_
  refine lv_aload_n hx hb dX4_stamp_71 rfl (lv_at hl 1 rfl) ?_
  refine mg_hour K hP dX4_stamp_72 ?_
  refine lv_aload_n hx hb dX4_stamp_75 rfl (lv_at hl 1 rfl) ?_
  refine mg_fh K hP dX4_stamp_76 ?_
  refine lv_iload_n hx hb dX4_stamp_79 rfl (lv_at hl 3 rfl) ?_
  refine mr_ald K hP (by decide) (by decide) (n := 20) rfl (by omega) (by decide) dX4_stamp_80 ?_
  refine lv_bipush (v := 12) hx hb dX4_stamp_81 (by decide) ?_
  refine lv_isub hx hb dX4_stamp_83 ?_
  refine lv_topi (fun v8 e8 => ?_)
  refine lv_aload_n hx hb dX4_stamp_84 rfl (lv_at hl 1 rfl) ?_
  refine mg_fh K hP dX4_stamp_85 ?_
  refine lv_iload_n hx hb dX4_stamp_88 rfl (lv_at hl 3 rfl) ?_
  refine mr_ald K hP (by decide) (by decide) (n := 20) rfl (by omega) (by decide) dX4_stamp_89 ?_
  refine lv_iconst (v := 1) hx hb dX4_stamp_90 (by decide) ?_
  refine lv_isub hx hb dX4_stamp_91 ?_
  refine lv_topi (fun v9 e9 => ?_)
  refine m_callt (rest := []) K hP hS (c_X4_in l Z am hinj h (h 0 2) v8 v9) ok_X4_80 rfl ⟨Nat.le_of_ble_eq_true rfl, Nat.le_of_ble_eq_true rfl⟩ rfl hl.1 (Nat.le_of_ble_eq_true rfl) ⟨Nat.le_of_ble_eq_true rfl, Nat.le_of_ble_eq_true rfl⟩ dX4_stamp_92 (by rw [e8, e9]; exact hin) (fun H locs hP hS => ?_)
  refine lv_if_ne (tgt := 102) hx hb dX4_stamp_95 (by decide) (fun _ => ?_) (fun c10 => absurd c10 (by decide))
  refine lv_iconst (v := 0) hx hb dX4_stamp_102 (by decide) ?_
  refine lv_istore (lv' := [(4, .int 0), (3, .int 1), (0, .ref (am 0)), (1, .int (nI i)), (2, .int (nI f))]) hx hb dX4_stamp_103 hl (by decide) rfl (fun ls hl => ?_)
  refine lv_aload_n hx hb dX4_stamp_105 rfl (lv_at hl 2 rfl) ?_
  refine lv_iload_n hx hb dX4_stamp_106 rfl (lv_at hl 1 rfl) ?_
  refine lv_if_ne (tgt := 114) hx hb dX4_stamp_107 (by decide) (fun _ => ?_) (fun c11 => absurd c11 (by decide))
  refine lv_iload hx hb dX4_stamp_114 (lv_at hl 0 rfl) ?_
  refine lv_if_eq (tgt := 123) hx hb dX4_stamp_116 (by decide) (fun _ => ?_) (fun c12 => absurd (by decide) c12)
  refine lv_iconst (v := 0) hx hb dX4_stamp_123 (by decide) ?_
  refine m_callf (rest := []) K hP hS (c_X4_holds l Z am hinj h 0) ok_X4_87 rfl ⟨Nat.le_of_ble_eq_true rfl, Nat.le_of_ble_eq_true rfl⟩ rfl hl.1 (Nat.le_of_ble_eq_true rfl) ⟨Nat.le_of_ble_eq_true rfl, Nat.le_of_ble_eq_true rfl⟩ dX4_stamp_124 (by decide) (fun H locs hP hS => ?_)
  obtain ⟨h13, e13⟩ : ∃ z : St, z = (u2 h 0 3 0) := ⟨_, rfl⟩
  rw [← e13] at hP
  refine lv_if_eq (tgt := 132) hx hb dX4_stamp_127 (by decide) (fun _ => ?_) (fun c14 => absurd (by decide) c14)
  refine lv_aload_n hx hb dX4_stamp_132 rfl (lv_at hl 2 rfl) ?_
  refine mg_rk K hP dX4_stamp_133 ?_
  refine lv_iload_n hx hb dX4_stamp_136 rfl (lv_at hl 3 rfl) ?_
  refine lv_iconst (v := 1) hx hb dX4_stamp_137 (by decide) ?_
  refine mr_ast K hP hS (by decide) (by decide) (n := 60) rfl (by omega) (by decide) dX4_stamp_138 (fun h15 H locs e15 hP hS => ?_)
  refine lv_aload_n hx hb dX4_stamp_139 rfl (lv_at hl 2 rfl) ?_
  refine mg_rf K hP dX4_stamp_140 ?_
  refine lv_iload_n hx hb dX4_stamp_143 rfl (lv_at hl 3 rfl) ?_
  refine lv_iload_n hx hb dX4_stamp_144 rfl (lv_at hl 4 rfl) ?_
  refine mr_ast K hP hS (by decide) (by decide) (n := 60) rfl (by omega) (by decide) dX4_stamp_145 (fun h16 H locs e16 hP hS => ?_)
  refine lv_aload_n hx hb dX4_stamp_146 rfl (lv_at hl 2 rfl) ?_
  refine mg_rx K hP dX4_stamp_147 ?_
  refine lv_iload_n hx hb dX4_stamp_150 rfl (lv_at hl 3 rfl) ?_
  refine mr_ald K hP (by decide) (by decide) (n := 60) rfl (by omega) (by decide) dX4_stamp_151 ?_
  rw [show h16 5 i = h 5 i from by rw [e16, u2_off _ _ (by omega), e15, u2_off _ _ (by omega), e13, u2_off _ _ (by omega)]]
  exact fx_reti hx hb hr hlocks hP hS (Nat.le_of_ble_eq_true rfl) (Nat.le_of_ble_eq_true rfl) dX4_stamp_152 ⟨rfl, by simp only [e8, e9, e13, e15, e16]⟩

set_option maxHeartbeats 4000000 in
set_option maxRecDepth 100000 in
theorem c_X4_stamp_1 (l : Launch) (Z : fx_Z) (am : Nat → Nat) (hinj : fx_inj 22 am) (h : St) (rc : Nat) (fc : Nat) (r : Int32) (f : Int32) (hrc : h 0 0 = nI rc) (hr6 : rc ≤ 60) (hfc : h 0 1 = nI fc) (hf2 : fc ≤ 20) (hbad : bad r rc ∨ bad f fc) : fx_C l Z yX4_stamp cX4_stamp 5 (some .int) 2 44 0 0 22 am (mF am (Z.2.1 0)) h [.ref (am 0), .int r, .int f] (pI (-1) (u2 h 0 3 1)) (fun _ => False) := by
  intro sz
  refine vx_ofW (cc := cX4_stamp) (maxL := 5) (ret := (some .int)) (by decide) rfl ?_
  intro p e s m args below meth c s₁ B hml hout hv
  obtain ⟨rfl, hsz, hP, hE, hSt⟩ := hv
  subst hsz
  have hx := B.exec
  have hb := B.bytes
  have hr := B.returns
  have hown : s.vm.findClass RX4 = some m.cls := findClass_of_methodNamed B.named
  have hlocks := B.notSynchronized
  have K : m_K p s m ([.ref (am 0), .int r, .int f] : List Value).toArray c cX4_stamp 5 Z am := ⟨hx, hb, hml, hown, fun w hw => atoms_spec (ws := fx_l yX4_stamp cX4_stamp 5 (some .int)) B.pre w (List.mem_cons_of_mem _ hw), hE, hSt, hinj⟩
  have hS : va_S (fx_A 22 am s.heap.size) s.heap s.heap [] := va_S.rf
  have hl := lv_entry ([.ref (am 0), .int r, .int f]) (n := 5) (Nat.le_of_ble_eq_true rfl)
  rw [lg_entry_eq]
  generalize (lg_sl ([.ref (am 0), .int r, .int f]) ++ List.replicate (5 - (lg_sl ([.ref (am 0), .int r, .int f])).length) Slot.unset).toArray = ls at hl ⊢
  have hl : lv_has ls 5 [(0, .ref (am 0)), (1, .int r), (2, .int f)] := hl
  refine lv_aload_n hx hb dX4_stamp_0 rfl (lv_at hl 0 rfl) ?_
  refine lv_iload_n hx hb dX4_stamp_1 rfl (lv_at hl 1 rfl) ?_
  refine m_callb (rest := []) K hP hS (c_X4_isReceipt l Z am hinj h r) ok_X4_94 rfl ⟨Nat.le_of_ble_eq_true rfl, Nat.le_of_ble_eq_true rfl⟩ rfl hl.1 (Nat.le_of_ble_eq_true rfl) ⟨Nat.le_of_ble_eq_true rfl, Nat.le_of_ble_eq_true rfl⟩ dX4_stamp_2 (fun c1 H locs hP hS => ?_) (fun c1 H locs hP hS => ?_)
  · refine lv_if_eq (tgt := 20) hx hb dX4_stamp_5 (by decide) (fun c2 => absurd c2 (by decide)) (fun _ => ?_)
    refine lv_aload_n hx hb dX4_stamp_8 rfl (lv_at hl 0 rfl) ?_
    refine lv_iload_n hx hb dX4_stamp_9 rfl (lv_at hl 2 rfl) ?_
    refine m_callb (rest := []) K hP hS (c_X4_isFerry l Z am hinj h f) ok_X4_101 rfl ⟨Nat.le_of_ble_eq_true rfl, Nat.le_of_ble_eq_true rfl⟩ rfl hl.1 (Nat.le_of_ble_eq_true rfl) ⟨Nat.le_of_ble_eq_true rfl, Nat.le_of_ble_eq_true rfl⟩ dX4_stamp_10 (fun c3 H locs hP hS => ?_) (fun c3 H locs hP hS => ?_)
    · exact absurd hbad (nbadS hrc hr6 hfc hf2 c1 c3)
    · refine lv_if_eq (tgt := 20) hx hb dX4_stamp_13 (by decide) (fun _ => ?_) (fun c4 => absurd (by decide) c4)
      refine lv_iconst (v := 0) hx hb dX4_stamp_20 (by decide) ?_
      refine lv_istore_n (lv' := [(3, .int 0), (0, .ref (am 0)), (1, .int r), (2, .int f)]) hx hb dX4_stamp_21 rfl hl (by decide) rfl (fun ls hl => ?_)
      refine lv_iload_n hx hb dX4_stamp_22 rfl (lv_at hl 0 rfl) ?_
      refine lv_if_eq (tgt := 102) hx hb dX4_stamp_23 (by decide) (fun _ => ?_) (fun c5 => absurd (by decide) c5)
      refine lv_iconst (v := 0) hx hb dX4_stamp_102 (by decide) ?_
      refine lv_istore (lv' := [(4, .int 0), (3, .int 0), (0, .ref (am 0)), (1, .int r), (2, .int f)]) hx hb dX4_stamp_103 hl (by decide) rfl (fun ls hl => ?_)
      refine lv_aload_n hx hb dX4_stamp_105 rfl (lv_at hl 2 rfl) ?_
      refine lv_iload_n hx hb dX4_stamp_106 rfl (lv_at hl 1 rfl) ?_
      refine lv_if_ne (tgt := 114) hx hb dX4_stamp_107 (by decide) (fun c6 => absurd (by decide) c6) (fun _ => ?_)
      refine lv_iconst (v := 1) hx hb dX4_stamp_110 (by decide) ?_
      refine lv_goto (tgt := 124) hx hb dX4_stamp_111 (by decide) ?_
      refine m_callt (rest := []) K hP hS (c_X4_holds l Z am hinj h 1) ok_X4_87 rfl ⟨Nat.le_of_ble_eq_true rfl, Nat.le_of_ble_eq_true rfl⟩ rfl hl.1 (Nat.le_of_ble_eq_true rfl) ⟨Nat.le_of_ble_eq_true rfl, Nat.le_of_ble_eq_true rfl⟩ dX4_stamp_124 (by decide) (fun H locs hP hS => ?_)
      obtain ⟨h7, e7⟩ : ∃ z : St, z = (u2 h 0 3 1) := ⟨_, rfl⟩
      rw [← e7] at hP
      refine lv_if_eq (tgt := 132) hx hb dX4_stamp_127 (by decide) (fun c8 => absurd c8 (by decide)) (fun _ => ?_)
      refine lv_iconst (v := (-1)) hx hb dX4_stamp_130 (by decide) ?_
      exact fx_reti hx hb hr hlocks hP hS (Nat.le_of_ble_eq_true rfl) (Nat.le_of_ble_eq_true rfl) dX4_stamp_131 ⟨rfl, e7⟩
  · refine lv_if_eq (tgt := 20) hx hb dX4_stamp_5 (by decide) (fun _ => ?_) (fun c9 => absurd (by decide) c9)
    refine lv_iconst (v := 0) hx hb dX4_stamp_20 (by decide) ?_
    refine lv_istore_n (lv' := [(3, .int 0), (0, .ref (am 0)), (1, .int r), (2, .int f)]) hx hb dX4_stamp_21 rfl hl (by decide) rfl (fun ls hl => ?_)
    refine lv_iload_n hx hb dX4_stamp_22 rfl (lv_at hl 0 rfl) ?_
    refine lv_if_eq (tgt := 102) hx hb dX4_stamp_23 (by decide) (fun _ => ?_) (fun c10 => absurd (by decide) c10)
    refine lv_iconst (v := 0) hx hb dX4_stamp_102 (by decide) ?_
    refine lv_istore (lv' := [(4, .int 0), (3, .int 0), (0, .ref (am 0)), (1, .int r), (2, .int f)]) hx hb dX4_stamp_103 hl (by decide) rfl (fun ls hl => ?_)
    refine lv_aload_n hx hb dX4_stamp_105 rfl (lv_at hl 2 rfl) ?_
    refine lv_iload_n hx hb dX4_stamp_106 rfl (lv_at hl 1 rfl) ?_
    refine lv_if_ne (tgt := 114) hx hb dX4_stamp_107 (by decide) (fun c11 => absurd (by decide) c11) (fun _ => ?_)
    refine lv_iconst (v := 1) hx hb dX4_stamp_110 (by decide) ?_
    refine lv_goto (tgt := 124) hx hb dX4_stamp_111 (by decide) ?_
    refine m_callt (rest := []) K hP hS (c_X4_holds l Z am hinj h 1) ok_X4_87 rfl ⟨Nat.le_of_ble_eq_true rfl, Nat.le_of_ble_eq_true rfl⟩ rfl hl.1 (Nat.le_of_ble_eq_true rfl) ⟨Nat.le_of_ble_eq_true rfl, Nat.le_of_ble_eq_true rfl⟩ dX4_stamp_124 (by decide) (fun H locs hP hS => ?_)
    obtain ⟨h12, e12⟩ : ∃ z : St, z = (u2 h 0 3 1) := ⟨_, rfl⟩
    rw [← e12] at hP
    refine lv_if_eq (tgt := 132) hx hb dX4_stamp_127 (by decide) (fun c13 => absurd c13 (by decide)) (fun _ => ?_)
    refine lv_iconst (v := (-1)) hx hb dX4_stamp_130 (by decide) ?_
    exact fx_reti hx hb hr hlocks hP hS (Nat.le_of_ble_eq_true rfl) (Nat.le_of_ble_eq_true rfl) dX4_stamp_131 ⟨rfl, e12⟩

set_option maxHeartbeats 4000000 in
set_option maxRecDepth 100000 in
theorem c_X4_stamp_2 (l : Launch) (Z : fx_Z) (am : Nat → Nat) (hinj : fx_inj 22 am) (h : St) (rc : Nat) (fc : Nat) (t : Nat) (i : Nat) (f : Nat) (hi : i < rc) (hrc : h 0 0 = nI rc) (hr6 : rc ≤ 60) (hff : f < fc) (hfc : h 0 1 = nI fc) (hf2 : fc ≤ 20) (ht : h 3 i = nI t) (ht9 : t < 10) (hbad : h 7 i ≠ 0 ∨ h 4 i < 50 ∨ h 14 f = 1 ∨ ¬ mS h f t ∨ ¬ (h 11 f - 12 ≤ h 0 2 ∧ h 0 2 ≤ h 11 f - 1)) : fx_C l Z yX4_stamp cX4_stamp 5 (some .int) 2 44 0 0 22 am (mF am (Z.2.1 0)) h [.ref (am 0), .int (nI i), .int (nI f)] (pI (-1) (u2 h 0 3 2)) (fun _ => False) := by
  intro sz
  refine vx_ofW (cc := cX4_stamp) (maxL := 5) (ret := (some .int)) (by decide) rfl ?_
  intro p e s m args below meth c s₁ B hml hout hv
  obtain ⟨rfl, hsz, hP, hE, hSt⟩ := hv
  subst hsz
  have hx := B.exec
  have hb := B.bytes
  have hr := B.returns
  have hown : s.vm.findClass RX4 = some m.cls := findClass_of_methodNamed B.named
  have hlocks := B.notSynchronized
  have K : m_K p s m ([.ref (am 0), .int (nI i), .int (nI f)] : List Value).toArray c cX4_stamp 5 Z am := ⟨hx, hb, hml, hown, fun w hw => atoms_spec (ws := fx_l yX4_stamp cX4_stamp 5 (some .int)) B.pre w (List.mem_cons_of_mem _ hw), hE, hSt, hinj⟩
  have hS : va_S (fx_A 22 am s.heap.size) s.heap s.heap [] := va_S.rf
  have hl := lv_entry ([.ref (am 0), .int (nI i), .int (nI f)]) (n := 5) (Nat.le_of_ble_eq_true rfl)
  rw [lg_entry_eq]
  generalize (lg_sl ([.ref (am 0), .int (nI i), .int (nI f)]) ++ List.replicate (5 - (lg_sl ([.ref (am 0), .int (nI i), .int (nI f)])).length) Slot.unset).toArray = ls at hl ⊢
  have hl : lv_has ls 5 [(0, .ref (am 0)), (1, .int (nI i)), (2, .int (nI f))] := hl
  refine lv_aload_n hx hb dX4_stamp_0 rfl (lv_at hl 0 rfl) ?_
  refine lv_iload_n hx hb dX4_stamp_1 rfl (lv_at hl 1 rfl) ?_
  refine m_callt (rest := []) K hP hS (c_X4_isReceipt l Z am hinj h (nI i)) ok_X4_94 rfl ⟨Nat.le_of_ble_eq_true rfl, Nat.le_of_ble_eq_true rfl⟩ rfl hl.1 (Nat.le_of_ble_eq_true rfl) ⟨Nat.le_of_ble_eq_true rfl, Nat.le_of_ble_eq_true rfl⟩ dX4_stamp_2 (isR_t hrc hr6 hi) (fun H locs hP hS => ?_)
  refine lv_if_eq (tgt := 20) hx hb dX4_stamp_5 (by decide) (fun c1 => absurd c1 (by decide)) (fun _ => ?_)
  refine lv_aload_n hx hb dX4_stamp_8 rfl (lv_at hl 0 rfl) ?_
  refine lv_iload_n hx hb dX4_stamp_9 rfl (lv_at hl 2 rfl) ?_
  refine m_callt (rest := []) K hP hS (c_X4_isFerry l Z am hinj h (nI f)) ok_X4_101 rfl ⟨Nat.le_of_ble_eq_true rfl, Nat.le_of_ble_eq_true rfl⟩ rfl hl.1 (Nat.le_of_ble_eq_true rfl) ⟨Nat.le_of_ble_eq_true rfl, Nat.le_of_ble_eq_true rfl⟩ dX4_stamp_10 (isF_t hfc hf2 hff) (fun H locs hP hS => ?_)
  refine lv_if_eq (tgt := 20) hx hb dX4_stamp_13 (by decide) (fun c2 => absurd c2 (by decide)) (fun _ => ?_)
  refine lv_iconst (v := 1) hx hb dX4_stamp_16 (by decide) ?_
  refine lv_goto (tgt := 21) hx hb dX4_stamp_17 (by decide) ?_
  refine lv_istore_n (lv' := [(3, .int 1), (0, .ref (am 0)), (1, .int (nI i)), (2, .int (nI f))]) hx hb dX4_stamp_21 rfl hl (by decide) rfl (fun ls hl => ?_)
  refine lv_iload_n hx hb dX4_stamp_22 rfl (lv_at hl 0 rfl) ?_
  refine lv_if_eq (tgt := 102) hx hb dX4_stamp_23 (by decide) (fun c3 => absurd c3 (by decide)) (fun _ => ?_)
  refine lv_aload_n hx hb dX4_stamp_26 rfl (lv_at hl 1 rfl) ?_
  refine mg_rk K hP dX4_stamp_27 ?_
  refine lv_iload_n hx hb dX4_stamp_30 rfl (lv_at hl 2 rfl) ?_
  refine mr_ald K hP (by decide) (by decide) (n := 60) rfl (by omega) (by decide) dX4_stamp_31 ?_
  refine lv_if_ne (tgt := 98) hx hb dX4_stamp_32 (by decide) (fun c4 => ?_) (fun c4 => ?_)
  · refine lv_iconst (v := 1) hx hb dX4_stamp_98 (by decide) ?_
    refine lv_goto (tgt := 103) hx hb dX4_stamp_99 (by decide) ?_
    refine lv_istore (lv' := [(4, .int 1), (3, .int 1), (0, .ref (am 0)), (1, .int (nI i)), (2, .int (nI f))]) hx hb dX4_stamp_103 hl (by decide) rfl (fun ls hl => ?_)
    refine lv_aload_n hx hb dX4_stamp_105 rfl (lv_at hl 2 rfl) ?_
    refine lv_iload_n hx hb dX4_stamp_106 rfl (lv_at hl 1 rfl) ?_
    refine lv_if_ne (tgt := 114) hx hb dX4_stamp_107 (by decide) (fun _ => ?_) (fun c5 => absurd c5 (by decide))
    refine lv_iload hx hb dX4_stamp_114 (lv_at hl 0 rfl) ?_
    refine lv_if_eq (tgt := 123) hx hb dX4_stamp_116 (by decide) (fun c6 => absurd c6 (by decide)) (fun _ => ?_)
    refine lv_iconst (v := 2) hx hb dX4_stamp_119 (by decide) ?_
    refine lv_goto (tgt := 124) hx hb dX4_stamp_120 (by decide) ?_
    refine m_callt (rest := []) K hP hS (c_X4_holds l Z am hinj h 2) ok_X4_87 rfl ⟨Nat.le_of_ble_eq_true rfl, Nat.le_of_ble_eq_true rfl⟩ rfl hl.1 (Nat.le_of_ble_eq_true rfl) ⟨Nat.le_of_ble_eq_true rfl, Nat.le_of_ble_eq_true rfl⟩ dX4_stamp_124 (by decide) (fun H locs hP hS => ?_)
    obtain ⟨h7, e7⟩ : ∃ z : St, z = (u2 h 0 3 2) := ⟨_, rfl⟩
    rw [← e7] at hP
    refine lv_if_eq (tgt := 132) hx hb dX4_stamp_127 (by decide) (fun c8 => absurd c8 (by decide)) (fun _ => ?_)
    refine lv_iconst (v := (-1)) hx hb dX4_stamp_130 (by decide) ?_
    exact fx_reti hx hb hr hlocks hP hS (Nat.le_of_ble_eq_true rfl) (Nat.le_of_ble_eq_true rfl) dX4_stamp_131 ⟨rfl, e7⟩
  · refine lv_aload_n hx hb dX4_stamp_35 rfl (lv_at hl 1 rfl) ?_
    refine mg_rp K hP dX4_stamp_36 ?_
    refine lv_iload_n hx hb dX4_stamp_39 rfl (lv_at hl 2 rfl) ?_
    refine mr_ald K hP (by decide) (by decide) (n := 60) rfl (by omega) (by decide) dX4_stamp_40 ?_
    refine lv_bipush (v := 50) hx hb dX4_stamp_41 (by decide) ?_
    refine lv_icmp_lt (tgt := 98) hx hb dX4_stamp_43 (by decide) (fun c9 => ?_) (fun c9 => ?_)
    · refine lv_iconst (v := 1) hx hb dX4_stamp_98 (by decide) ?_
      refine lv_goto (tgt := 103) hx hb dX4_stamp_99 (by decide) ?_
      refine lv_istore (lv' := [(4, .int 1), (3, .int 1), (0, .ref (am 0)), (1, .int (nI i)), (2, .int (nI f))]) hx hb dX4_stamp_103 hl (by decide) rfl (fun ls hl => ?_)
      refine lv_aload_n hx hb dX4_stamp_105 rfl (lv_at hl 2 rfl) ?_
      refine lv_iload_n hx hb dX4_stamp_106 rfl (lv_at hl 1 rfl) ?_
      refine lv_if_ne (tgt := 114) hx hb dX4_stamp_107 (by decide) (fun _ => ?_) (fun c10 => absurd c10 (by decide))
      refine lv_iload hx hb dX4_stamp_114 (lv_at hl 0 rfl) ?_
      refine lv_if_eq (tgt := 123) hx hb dX4_stamp_116 (by decide) (fun c11 => absurd c11 (by decide)) (fun _ => ?_)
      refine lv_iconst (v := 2) hx hb dX4_stamp_119 (by decide) ?_
      refine lv_goto (tgt := 124) hx hb dX4_stamp_120 (by decide) ?_
      refine m_callt (rest := []) K hP hS (c_X4_holds l Z am hinj h 2) ok_X4_87 rfl ⟨Nat.le_of_ble_eq_true rfl, Nat.le_of_ble_eq_true rfl⟩ rfl hl.1 (Nat.le_of_ble_eq_true rfl) ⟨Nat.le_of_ble_eq_true rfl, Nat.le_of_ble_eq_true rfl⟩ dX4_stamp_124 (by decide) (fun H locs hP hS => ?_)
      obtain ⟨h12, e12⟩ : ∃ z : St, z = (u2 h 0 3 2) := ⟨_, rfl⟩
      rw [← e12] at hP
      refine lv_if_eq (tgt := 132) hx hb dX4_stamp_127 (by decide) (fun c13 => absurd c13 (by decide)) (fun _ => ?_)
      refine lv_iconst (v := (-1)) hx hb dX4_stamp_130 (by decide) ?_
      exact fx_reti hx hb hr hlocks hP hS (Nat.le_of_ble_eq_true rfl) (Nat.le_of_ble_eq_true rfl) dX4_stamp_131 ⟨rfl, e12⟩
    · refine lv_aload_n hx hb dX4_stamp_46 rfl (lv_at hl 1 rfl) ?_
      refine mg_fg K hP dX4_stamp_47 ?_
      refine lv_iload_n hx hb dX4_stamp_50 rfl (lv_at hl 3 rfl) ?_
      refine mr_ald K hP (by decide) (by decide) (n := 20) rfl (by omega) (by decide) dX4_stamp_51 ?_
      refine lv_iconst (v := 1) hx hb dX4_stamp_52 (by decide) ?_
      refine lv_icmp_eq (tgt := 98) hx hb dX4_stamp_53 (by decide) (fun c14 => ?_) (fun c14 => ?_)
      · refine lv_iconst (v := 1) hx hb dX4_stamp_98 (by decide) ?_
        refine lv_goto (tgt := 103) hx hb dX4_stamp_99 (by decide) ?_
        refine lv_istore (lv' := [(4, .int 1), (3, .int 1), (0, .ref (am 0)), (1, .int (nI i)), (2, .int (nI f))]) hx hb dX4_stamp_103 hl (by decide) rfl (fun ls hl => ?_)
        refine lv_aload_n hx hb dX4_stamp_105 rfl (lv_at hl 2 rfl) ?_
        refine lv_iload_n hx hb dX4_stamp_106 rfl (lv_at hl 1 rfl) ?_
        refine lv_if_ne (tgt := 114) hx hb dX4_stamp_107 (by decide) (fun _ => ?_) (fun c15 => absurd c15 (by decide))
        refine lv_iload hx hb dX4_stamp_114 (lv_at hl 0 rfl) ?_
        refine lv_if_eq (tgt := 123) hx hb dX4_stamp_116 (by decide) (fun c16 => absurd c16 (by decide)) (fun _ => ?_)
        refine lv_iconst (v := 2) hx hb dX4_stamp_119 (by decide) ?_
        refine lv_goto (tgt := 124) hx hb dX4_stamp_120 (by decide) ?_
        refine m_callt (rest := []) K hP hS (c_X4_holds l Z am hinj h 2) ok_X4_87 rfl ⟨Nat.le_of_ble_eq_true rfl, Nat.le_of_ble_eq_true rfl⟩ rfl hl.1 (Nat.le_of_ble_eq_true rfl) ⟨Nat.le_of_ble_eq_true rfl, Nat.le_of_ble_eq_true rfl⟩ dX4_stamp_124 (by decide) (fun H locs hP hS => ?_)
        obtain ⟨h17, e17⟩ : ∃ z : St, z = (u2 h 0 3 2) := ⟨_, rfl⟩
        rw [← e17] at hP
        refine lv_if_eq (tgt := 132) hx hb dX4_stamp_127 (by decide) (fun c18 => absurd c18 (by decide)) (fun _ => ?_)
        refine lv_iconst (v := (-1)) hx hb dX4_stamp_130 (by decide) ?_
        exact fx_reti hx hb hr hlocks hP hS (Nat.le_of_ble_eq_true rfl) (Nat.le_of_ble_eq_true rfl) dX4_stamp_131 ⟨rfl, e17⟩
      · refine lv_aload_n hx hb dX4_stamp_56 rfl (lv_at hl 1 rfl) ?_
        refine lv_aload_n hx hb dX4_stamp_57 rfl (lv_at hl 1 rfl) ?_
        refine mg_rt K hP dX4_stamp_58 ?_
        refine lv_iload_n hx hb dX4_stamp_61 rfl (lv_at hl 2 rfl) ?_
        refine mr_ald K hP (by decide) (by decide) (n := 60) rfl (by omega) (by decide) dX4_stamp_62 ?_
        rw [ht]
        refine lv_iload_n hx hb dX4_stamp_63 rfl (lv_at hl 3 rfl) ?_
        refine m_callb (rest := []) K hP hS (c_X4_hasSeat l Z am hinj h t f (by omega)) ok_X4_97 rfl ⟨Nat.le_of_ble_eq_true rfl, Nat.le_of_ble_eq_true rfl⟩ rfl hl.1 (Nat.le_of_ble_eq_true rfl) ⟨Nat.le_of_ble_eq_true rfl, Nat.le_of_ble_eq_true rfl⟩ dX4_stamp_64 (fun c19 H locs hP hS => ?_) (fun c19 H locs hP hS => ?_)
        · refine lv_if_eq (tgt := 98) hx hb dX4_stamp_67 (by decide) (fun c20 => absurd c20 (by decide)) (fun _ => ?_)
          refine lv_aload_n hx hb dX4_stamp_70 rfl (lv_at hl 1 rfl) ?_
          refine lv_aload_n hx hb dX4_stamp_71 rfl (lv_at hl 1 rfl) ?_
          refine mg_hour K hP dX4_stamp_72 ?_
          refine lv_aload_n hx hb dX4_stamp_75 rfl (lv_at hl 1 rfl) ?_
          refine mg_fh K hP dX4_stamp_76 ?_
          refine lv_iload_n hx hb dX4_stamp_79 rfl (lv_at hl 3 rfl) ?_
          refine mr_ald K hP (by decide) (by decide) (n := 20) rfl (by omega) (by decide) dX4_stamp_80 ?_
          refine lv_bipush (v := 12) hx hb dX4_stamp_81 (by decide) ?_
          refine lv_isub hx hb dX4_stamp_83 ?_
          refine lv_topi (fun v21 e21 => ?_)
          refine lv_aload_n hx hb dX4_stamp_84 rfl (lv_at hl 1 rfl) ?_
          refine mg_fh K hP dX4_stamp_85 ?_
          refine lv_iload_n hx hb dX4_stamp_88 rfl (lv_at hl 3 rfl) ?_
          refine mr_ald K hP (by decide) (by decide) (n := 20) rfl (by omega) (by decide) dX4_stamp_89 ?_
          refine lv_iconst (v := 1) hx hb dX4_stamp_90 (by decide) ?_
          refine lv_isub hx hb dX4_stamp_91 ?_
          refine lv_topi (fun v22 e22 => ?_)
          refine m_callb (rest := []) K hP hS (c_X4_in l Z am hinj h (h 0 2) v21 v22) ok_X4_80 rfl ⟨Nat.le_of_ble_eq_true rfl, Nat.le_of_ble_eq_true rfl⟩ rfl hl.1 (Nat.le_of_ble_eq_true rfl) ⟨Nat.le_of_ble_eq_true rfl, Nat.le_of_ble_eq_true rfl⟩ dX4_stamp_92 (fun c23 H locs hP hS => ?_) (fun c23 H locs hP hS => ?_)
          · exact absurd hbad (by simp only [not_or, Classical.not_not]; exact ⟨by simpa using c4, c9, c14, c19, by rw [e21, e22] at c23; exact c23⟩)
          · refine lv_if_ne (tgt := 102) hx hb dX4_stamp_95 (by decide) (fun c24 => absurd (by decide) c24) (fun _ => ?_)
            refine lv_iconst (v := 1) hx hb dX4_stamp_98 (by decide) ?_
            refine lv_goto (tgt := 103) hx hb dX4_stamp_99 (by decide) ?_
            refine lv_istore (lv' := [(4, .int 1), (3, .int 1), (0, .ref (am 0)), (1, .int (nI i)), (2, .int (nI f))]) hx hb dX4_stamp_103 hl (by decide) rfl (fun ls hl => ?_)
            refine lv_aload_n hx hb dX4_stamp_105 rfl (lv_at hl 2 rfl) ?_
            refine lv_iload_n hx hb dX4_stamp_106 rfl (lv_at hl 1 rfl) ?_
            refine lv_if_ne (tgt := 114) hx hb dX4_stamp_107 (by decide) (fun _ => ?_) (fun c25 => absurd c25 (by decide))
            refine lv_iload hx hb dX4_stamp_114 (lv_at hl 0 rfl) ?_
            refine lv_if_eq (tgt := 123) hx hb dX4_stamp_116 (by decide) (fun c26 => absurd c26 (by decide)) (fun _ => ?_)
            refine lv_iconst (v := 2) hx hb dX4_stamp_119 (by decide) ?_
            refine lv_goto (tgt := 124) hx hb dX4_stamp_120 (by decide) ?_
            refine m_callt (rest := []) K hP hS (c_X4_holds l Z am hinj h 2) ok_X4_87 rfl ⟨Nat.le_of_ble_eq_true rfl, Nat.le_of_ble_eq_true rfl⟩ rfl hl.1 (Nat.le_of_ble_eq_true rfl) ⟨Nat.le_of_ble_eq_true rfl, Nat.le_of_ble_eq_true rfl⟩ dX4_stamp_124 (by decide) (fun H locs hP hS => ?_)
            obtain ⟨h27, e27⟩ : ∃ z : St, z = (u2 h 0 3 2) := ⟨_, rfl⟩
            rw [← e27] at hP
            refine lv_if_eq (tgt := 132) hx hb dX4_stamp_127 (by decide) (fun c28 => absurd c28 (by decide)) (fun _ => ?_)
            refine lv_iconst (v := (-1)) hx hb dX4_stamp_130 (by decide) ?_
            exact fx_reti hx hb hr hlocks hP hS (Nat.le_of_ble_eq_true rfl) (Nat.le_of_ble_eq_true rfl) dX4_stamp_131 ⟨rfl, e27⟩
        · refine lv_if_eq (tgt := 98) hx hb dX4_stamp_67 (by decide) (fun _ => ?_) (fun c29 => absurd (by decide) c29)
          refine lv_iconst (v := 1) hx hb dX4_stamp_98 (by decide) ?_
          refine lv_goto (tgt := 103) hx hb dX4_stamp_99 (by decide) ?_
          refine lv_istore (lv' := [(4, .int 1), (3, .int 1), (0, .ref (am 0)), (1, .int (nI i)), (2, .int (nI f))]) hx hb dX4_stamp_103 hl (by decide) rfl (fun ls hl => ?_)
          refine lv_aload_n hx hb dX4_stamp_105 rfl (lv_at hl 2 rfl) ?_
          refine lv_iload_n hx hb dX4_stamp_106 rfl (lv_at hl 1 rfl) ?_
          refine lv_if_ne (tgt := 114) hx hb dX4_stamp_107 (by decide) (fun _ => ?_) (fun c30 => absurd c30 (by decide))
          refine lv_iload hx hb dX4_stamp_114 (lv_at hl 0 rfl) ?_
          refine lv_if_eq (tgt := 123) hx hb dX4_stamp_116 (by decide) (fun c31 => absurd c31 (by decide)) (fun _ => ?_)
          refine lv_iconst (v := 2) hx hb dX4_stamp_119 (by decide) ?_
          refine lv_goto (tgt := 124) hx hb dX4_stamp_120 (by decide) ?_
          refine m_callt (rest := []) K hP hS (c_X4_holds l Z am hinj h 2) ok_X4_87 rfl ⟨Nat.le_of_ble_eq_true rfl, Nat.le_of_ble_eq_true rfl⟩ rfl hl.1 (Nat.le_of_ble_eq_true rfl) ⟨Nat.le_of_ble_eq_true rfl, Nat.le_of_ble_eq_true rfl⟩ dX4_stamp_124 (by decide) (fun H locs hP hS => ?_)
          obtain ⟨h32, e32⟩ : ∃ z : St, z = (u2 h 0 3 2) := ⟨_, rfl⟩
          rw [← e32] at hP
          refine lv_if_eq (tgt := 132) hx hb dX4_stamp_127 (by decide) (fun c33 => absurd c33 (by decide)) (fun _ => ?_)
          refine lv_iconst (v := (-1)) hx hb dX4_stamp_130 (by decide) ?_
          exact fx_reti hx hb hr hlocks hP hS (Nat.le_of_ble_eq_true rfl) (Nat.le_of_ble_eq_true rfl) dX4_stamp_131 ⟨rfl, e32⟩

set_option maxHeartbeats 4000000 in
set_option maxRecDepth 100000 in
theorem c_X4_pays (l : Launch) (Z : fx_Z) (am : Nat → Nat) (hinj : fx_inj 22 am) (h : St) (t : Nat) (i : Nat) (hi : i < 60) (ht : h 3 i = nI t) (ht9 : t < 10) : fx_C l Z yX4_pays cX4_pays 4 none 0 0 0 0 22 am (mF am (Z.2.1 0)) h [.ref (am 0), .int (nI i)] (pV (payS h i t)) (fun _ => False) := by
  intro sz
  refine vx_ofW (cc := cX4_pays) (maxL := 4) (ret := none) (by decide) rfl ?_
  intro p e s m args below meth c s₁ B hml hout hv
  obtain ⟨rfl, hsz, hP, hE, hSt⟩ := hv
  subst hsz
  have hx := B.exec
  have hb := B.bytes
  have hr := B.returns
  have hown : s.vm.findClass RX4 = some m.cls := findClass_of_methodNamed B.named
  have hlocks := B.notSynchronized
  have K : m_K p s m ([.ref (am 0), .int (nI i)] : List Value).toArray c cX4_pays 4 Z am := ⟨hx, hb, hml, hown, fun w hw => atoms_spec (ws := fx_l yX4_pays cX4_pays 4 none) B.pre w (List.mem_cons_of_mem _ hw), hE, hSt, hinj⟩
  have hS : va_S (fx_A 22 am s.heap.size) s.heap s.heap [] := va_S.rf
  have hl := lv_entry ([.ref (am 0), .int (nI i)]) (n := 4) (Nat.le_of_ble_eq_true rfl)
  rw [lg_entry_eq]
  generalize (lg_sl ([.ref (am 0), .int (nI i)]) ++ List.replicate (4 - (lg_sl ([.ref (am 0), .int (nI i)])).length) Slot.unset).toArray = ls at hl ⊢
  have hl : lv_has ls 4 [(0, .ref (am 0)), (1, .int (nI i))] := hl
  refine lv_aload_n hx hb dX4_pays_0 rfl (lv_at hl 0 rfl) ?_
  refine mg_rt K hP dX4_pays_1 ?_
  refine lv_iload_n hx hb dX4_pays_4 rfl (lv_at hl 1 rfl) ?_
  refine mr_ald K hP (by decide) (by decide) (n := 60) rfl (by omega) (by decide) dX4_pays_5 ?_
  rw [ht]
  refine lv_istore_n (lv' := [(2, .int (nI t)), (0, .ref (am 0)), (1, .int (nI i))]) hx hb dX4_pays_6 rfl hl (by decide) rfl (fun ls hl => ?_)
  refine lv_aload_n hx hb dX4_pays_7 rfl (lv_at hl 1 rfl) ?_
  refine mg_rx K hP dX4_pays_8 ?_
  refine lv_iload_n hx hb dX4_pays_11 rfl (lv_at hl 2 rfl) ?_
  refine mr_ald K hP (by decide) (by decide) (n := 60) rfl (by omega) (by decide) dX4_pays_12 ?_
  refine lv_aload_n hx hb dX4_pays_13 rfl (lv_at hl 1 rfl) ?_
  refine mg_rx K hP dX4_pays_14 ?_
  refine lv_iload_n hx hb dX4_pays_17 rfl (lv_at hl 2 rfl) ?_
  refine mr_ald K hP (by decide) (by decide) (n := 60) rfl (by omega) (by decide) dX4_pays_18 ?_
  refine lv_bipush (v := 9) hx hb dX4_pays_19 (by decide) ?_
  refine lv_iadd hx hb dX4_pays_21 ?_
  refine lv_topi (fun v1 e1 => ?_)
  refine lv_bipush (v := 10) hx hb dX4_pays_22 (by decide) ?_
  refine lv_idiv hx hb dX4_pays_24 (by decide) ?_
  refine lv_topi (fun v2 e2 => ?_)
  refine lv_isub hx hb dX4_pays_25 ?_
  refine lv_topi (fun v3 e3 => ?_)
  refine lv_istore_n (lv' := [(3, .int v3), (2, .int (nI t)), (0, .ref (am 0)), (1, .int (nI i))]) hx hb dX4_pays_26 rfl hl (by decide) rfl (fun ls hl => ?_)
  refine lv_aload_n hx hb dX4_pays_27 rfl (lv_at hl 2 rfl) ?_
  refine mg_given K hP dX4_pays_28 ?_
  refine lv_iload_n hx hb dX4_pays_31 rfl (lv_at hl 1 rfl) ?_
  refine mr_ald K hP (by decide) (by decide) (n := 10) rfl (by omega) (by decide) dX4_pays_32 ?_
  refine lv_iload_n hx hb dX4_pays_33 rfl (lv_at hl 0 rfl) ?_
  refine lv_iadd hx hb dX4_pays_34 ?_
  refine lv_topi (fun v4 e4 => ?_)
  refine lv_sipush (v := 500) hx hb dX4_pays_35 (by decide) ?_
  refine lv_icmp_le (tgt := 54) hx hb dX4_pays_38 (by decide) (fun c5 => ?_) (fun c5 => ?_)
  · refine lv_iload_n hx hb dX4_pays_54 rfl (lv_at hl 0 rfl) ?_
    rw [show v3 = itsV h i t from by simp only [e1, e2, e3, e4] at *; unfold itsV its0; grind]
    refine lv_istore_n (lv' := [(3, .int (itsV h i t)), (2, .int (nI t)), (0, .ref (am 0)), (1, .int (nI i))]) hx hb dX4_pays_55 rfl hl (by decide) rfl (fun ls hl => ?_)
    refine lv_aload_n hx hb dX4_pays_56 rfl (lv_at hl 2 rfl) ?_
    refine mg_given K hP dX4_pays_57 ?_
    refine lv_iload_n hx hb dX4_pays_60 rfl (lv_at hl 1 rfl) ?_
    refine lv_dup2_11 hx hb dX4_pays_61 rfl rfl ?_
    refine mr_ald K hP (by decide) (by decide) (n := 10) rfl (by omega) (by decide) dX4_pays_62 ?_
    refine lv_iload_n hx hb dX4_pays_63 rfl (lv_at hl 0 rfl) ?_
    refine lv_iadd hx hb dX4_pays_64 ?_
    refine lv_topi (fun v6 e6 => ?_)
    refine mr_ast K hP hS (by decide) (by decide) (n := 10) rfl (by omega) (by decide) dX4_pays_65 (fun h7 H locs e7 hP hS => ?_)
    refine lv_aload_n hx hb dX4_pays_66 rfl (lv_at hl 2 rfl) ?_
    refine mg_refunds K hP dX4_pays_67 ?_
    refine lv_iload_n hx hb dX4_pays_70 rfl (lv_at hl 1 rfl) ?_
    refine lv_dup2_11 hx hb dX4_pays_71 rfl rfl ?_
    refine mr_ald K hP (by decide) (by decide) (n := 10) rfl (by omega) (by decide) dX4_pays_72 ?_
    rw [show h7 20 t = h 20 t from by rw [e7, u2_off _ _ (by omega)]]
    refine lv_iload_n hx hb dX4_pays_73 rfl (lv_at hl 0 rfl) ?_
    refine lv_iadd hx hb dX4_pays_74 ?_
    refine lv_topi (fun v8 e8 => ?_)
    refine mr_ast K hP hS (by decide) (by decide) (n := 10) rfl (by omega) (by decide) dX4_pays_75 (fun h9 H locs e9 hP hS => ?_)
    refine lv_aload_n hx hb dX4_pays_76 rfl (lv_at hl 2 rfl) ?_
    refine mg_rr K hP dX4_pays_77 ?_
    refine lv_iload_n hx hb dX4_pays_80 rfl (lv_at hl 3 rfl) ?_
    refine lv_iload_n hx hb dX4_pays_81 rfl (lv_at hl 0 rfl) ?_
    refine mr_ast K hP hS (by decide) (by decide) (n := 60) rfl (by omega) (by decide) dX4_pays_82 (fun h10 H locs e10 hP hS => ?_)
    refine lv_aload_n hx hb dX4_pays_83 rfl (lv_at hl 2 rfl) ?_
    refine mg_rk K hP dX4_pays_84 ?_
    refine lv_iload_n hx hb dX4_pays_87 rfl (lv_at hl 3 rfl) ?_
    refine lv_iconst (v := 2) hx hb dX4_pays_88 (by decide) ?_
    refine mr_ast K hP hS (by decide) (by decide) (n := 60) rfl (by omega) (by decide) dX4_pays_89 (fun h11 H locs e11 hP hS => ?_)
    exact fx_retv hx hb hr hlocks hP hS (Nat.le_of_ble_eq_true rfl) (Nat.le_of_ble_eq_true rfl) dX4_pays_90 ⟨rfl, by simp only [e1, e2, e3, e4, e6, e7, e8, e9, e10, e11]; rfl⟩
  · refine lv_sipush (v := 500) hx hb dX4_pays_41 (by decide) ?_
    refine lv_aload_n hx hb dX4_pays_44 rfl (lv_at hl 2 rfl) ?_
    refine mg_given K hP dX4_pays_45 ?_
    refine lv_iload_n hx hb dX4_pays_48 rfl (lv_at hl 1 rfl) ?_
    refine mr_ald K hP (by decide) (by decide) (n := 10) rfl (by omega) (by decide) dX4_pays_49 ?_
    refine lv_isub hx hb dX4_pays_50 ?_
    refine lv_topi (fun v12 e12 => ?_)
    refine lv_goto (tgt := 55) hx hb dX4_pays_51 (by decide) ?_
    rw [show v12 = itsV h i t from by simp only [e1, e2, e3, e4, e12] at *; unfold itsV its0; grind]
    refine lv_istore_n (lv' := [(3, .int (itsV h i t)), (2, .int (nI t)), (0, .ref (am 0)), (1, .int (nI i))]) hx hb dX4_pays_55 rfl hl (by decide) rfl (fun ls hl => ?_)
    refine lv_aload_n hx hb dX4_pays_56 rfl (lv_at hl 2 rfl) ?_
    refine mg_given K hP dX4_pays_57 ?_
    refine lv_iload_n hx hb dX4_pays_60 rfl (lv_at hl 1 rfl) ?_
    refine lv_dup2_11 hx hb dX4_pays_61 rfl rfl ?_
    refine mr_ald K hP (by decide) (by decide) (n := 10) rfl (by omega) (by decide) dX4_pays_62 ?_
    refine lv_iload_n hx hb dX4_pays_63 rfl (lv_at hl 0 rfl) ?_
    refine lv_iadd hx hb dX4_pays_64 ?_
    refine lv_topi (fun v13 e13 => ?_)
    refine mr_ast K hP hS (by decide) (by decide) (n := 10) rfl (by omega) (by decide) dX4_pays_65 (fun h14 H locs e14 hP hS => ?_)
    refine lv_aload_n hx hb dX4_pays_66 rfl (lv_at hl 2 rfl) ?_
    refine mg_refunds K hP dX4_pays_67 ?_
    refine lv_iload_n hx hb dX4_pays_70 rfl (lv_at hl 1 rfl) ?_
    refine lv_dup2_11 hx hb dX4_pays_71 rfl rfl ?_
    refine mr_ald K hP (by decide) (by decide) (n := 10) rfl (by omega) (by decide) dX4_pays_72 ?_
    rw [show h14 20 t = h 20 t from by rw [e14, u2_off _ _ (by omega)]]
    refine lv_iload_n hx hb dX4_pays_73 rfl (lv_at hl 0 rfl) ?_
    refine lv_iadd hx hb dX4_pays_74 ?_
    refine lv_topi (fun v15 e15 => ?_)
    refine mr_ast K hP hS (by decide) (by decide) (n := 10) rfl (by omega) (by decide) dX4_pays_75 (fun h16 H locs e16 hP hS => ?_)
    refine lv_aload_n hx hb dX4_pays_76 rfl (lv_at hl 2 rfl) ?_
    refine mg_rr K hP dX4_pays_77 ?_
    refine lv_iload_n hx hb dX4_pays_80 rfl (lv_at hl 3 rfl) ?_
    refine lv_iload_n hx hb dX4_pays_81 rfl (lv_at hl 0 rfl) ?_
    refine mr_ast K hP hS (by decide) (by decide) (n := 60) rfl (by omega) (by decide) dX4_pays_82 (fun h17 H locs e17 hP hS => ?_)
    refine lv_aload_n hx hb dX4_pays_83 rfl (lv_at hl 2 rfl) ?_
    refine mg_rk K hP dX4_pays_84 ?_
    refine lv_iload_n hx hb dX4_pays_87 rfl (lv_at hl 3 rfl) ?_
    refine lv_iconst (v := 2) hx hb dX4_pays_88 (by decide) ?_
    refine mr_ast K hP hS (by decide) (by decide) (n := 60) rfl (by omega) (by decide) dX4_pays_89 (fun h18 H locs e18 hP hS => ?_)
    exact fx_retv hx hb hr hlocks hP hS (Nat.le_of_ble_eq_true rfl) (Nat.le_of_ble_eq_true rfl) dX4_pays_90 ⟨rfl, by simp only [e1, e2, e3, e4, e12, e13, e14, e15, e16, e17, e18]; rfl⟩

set_option maxHeartbeats 4000000 in
set_option maxRecDepth 100000 in
theorem c_X4_fails (l : Launch) (Z : fx_Z) (am : Nat → Nat) (hinj : fx_inj 22 am) (h : St) (i : Nat) (hi : i < 60) : fx_C l Z yX4_fails cX4_fails 2 none 0 0 0 0 22 am (mF am (Z.2.1 0)) h [.ref (am 0), .int (nI i)] (pV (failS h i)) (fun _ => False) := by
  intro sz
  refine vx_ofW (cc := cX4_fails) (maxL := 2) (ret := none) (by decide) rfl ?_
  intro p e s m args below meth c s₁ B hml hout hv
  obtain ⟨rfl, hsz, hP, hE, hSt⟩ := hv
  subst hsz
  have hx := B.exec
  have hb := B.bytes
  have hr := B.returns
  have hown : s.vm.findClass RX4 = some m.cls := findClass_of_methodNamed B.named
  have hlocks := B.notSynchronized
  have K : m_K p s m ([.ref (am 0), .int (nI i)] : List Value).toArray c cX4_fails 2 Z am := ⟨hx, hb, hml, hown, fun w hw => atoms_spec (ws := fx_l yX4_fails cX4_fails 2 none) B.pre w (List.mem_cons_of_mem _ hw), hE, hSt, hinj⟩
  have hS : va_S (fx_A 22 am s.heap.size) s.heap s.heap [] := va_S.rf
  have hl := lv_entry ([.ref (am 0), .int (nI i)]) (n := 2) (Nat.le_of_ble_eq_true rfl)
  rw [lg_entry_eq]
  generalize (lg_sl ([.ref (am 0), .int (nI i)]) ++ List.replicate (2 - (lg_sl ([.ref (am 0), .int (nI i)])).length) Slot.unset).toArray = ls at hl ⊢
  have hl : lv_has ls 2 [(0, .ref (am 0)), (1, .int (nI i))] := hl
  refine lv_aload_n hx hb dX4_fails_0 rfl (lv_at hl 0 rfl) ?_
  refine mg_rn K hP dX4_fails_1 ?_
  refine lv_iload_n hx hb dX4_fails_4 rfl (lv_at hl 1 rfl) ?_
  refine lv_dup2_11 hx hb dX4_fails_5 rfl rfl ?_
  refine mr_ald K hP (by decide) (by decide) (n := 60) rfl (by omega) (by decide) dX4_fails_6 ?_
  refine lv_iconst (v := 1) hx hb dX4_fails_7 (by decide) ?_
  refine lv_iadd hx hb dX4_fails_8 ?_
  refine lv_topi (fun v1 e1 => ?_)
  refine mr_ast K hP hS (by decide) (by decide) (n := 60) rfl (by omega) (by decide) dX4_fails_9 (fun h2 H locs e2 hP hS => ?_)
  refine lv_aload_n hx hb dX4_fails_10 rfl (lv_at hl 0 rfl) ?_
  refine mg_rk K hP dX4_fails_11 ?_
  refine lv_iload_n hx hb dX4_fails_14 rfl (lv_at hl 1 rfl) ?_
  refine lv_aload_n hx hb dX4_fails_15 rfl (lv_at hl 0 rfl) ?_
  refine mg_rn K hP dX4_fails_16 ?_
  refine lv_iload_n hx hb dX4_fails_19 rfl (lv_at hl 1 rfl) ?_
  refine mr_ald K hP (by decide) (by decide) (n := 60) rfl (by omega) (by decide) dX4_fails_20 ?_
  rw [show h2 10 i = v1 from by rw [e2, u2_self]]
  refine lv_iconst (v := 2) hx hb dX4_fails_21 (by decide) ?_
  refine lv_icmp_ne (tgt := 29) hx hb dX4_fails_22 (by decide) (fun c3 => ?_) (fun c3 => ?_)
  · refine lv_iconst (v := 0) hx hb dX4_fails_29 (by decide) ?_
    rw [show (0 : Int32) = (if h 10 i + 1 = 2 then 3 else 0) from by simp only [e1, e2] at *; simp [c3]]
    refine mr_ast K hP hS (by decide) (by decide) (n := 60) rfl (by omega) (by decide) dX4_fails_30 (fun h4 H locs e4 hP hS => ?_)
    refine lv_aload_n hx hb dX4_fails_31 rfl (lv_at hl 0 rfl) ?_
    refine mg_rf K hP dX4_fails_32 ?_
    refine lv_iload_n hx hb dX4_fails_35 rfl (lv_at hl 1 rfl) ?_
    refine lv_iconst (v := (-1)) hx hb dX4_fails_36 (by decide) ?_
    refine mr_ast K hP hS (by decide) (by decide) (n := 60) rfl (by omega) (by decide) dX4_fails_37 (fun h5 H locs e5 hP hS => ?_)
    exact fx_retv hx hb hr hlocks hP hS (Nat.le_of_ble_eq_true rfl) (Nat.le_of_ble_eq_true rfl) dX4_fails_38 ⟨rfl, by simp only [e1, e2, e4, e5]; rfl⟩
  · refine lv_iconst (v := 3) hx hb dX4_fails_25 (by decide) ?_
    refine lv_goto (tgt := 30) hx hb dX4_fails_26 (by decide) ?_
    rw [show (3 : Int32) = (if h 10 i + 1 = 2 then 3 else 0) from by simp only [e1, e2] at *; simp [c3]]
    refine mr_ast K hP hS (by decide) (by decide) (n := 60) rfl (by omega) (by decide) dX4_fails_30 (fun h6 H locs e6 hP hS => ?_)
    refine lv_aload_n hx hb dX4_fails_31 rfl (lv_at hl 0 rfl) ?_
    refine mg_rf K hP dX4_fails_32 ?_
    refine lv_iload_n hx hb dX4_fails_35 rfl (lv_at hl 1 rfl) ?_
    refine lv_iconst (v := (-1)) hx hb dX4_fails_36 (by decide) ?_
    refine mr_ast K hP hS (by decide) (by decide) (n := 60) rfl (by omega) (by decide) dX4_fails_37 (fun h7 H locs e7 hP hS => ?_)
    exact fx_retv hx hb hr hlocks hP hS (Nat.le_of_ble_eq_true rfl) (Nat.le_of_ble_eq_true rfl) dX4_fails_38 ⟨rfl, by simp only [e1, e2, e6, e7]; rfl⟩

