/-! ===== the model's API methods ===== -/
def bad (x : Int32) (n : Nat) : Prop := ∀ j : Nat, j < n → x ≠ nI j
theorem ix_t {j n : Nat} {M : Int32} (hM : M = nI n) (h : j ≤ n) (hn : n < 2 ^ 31) : (0 : Int32) ≤ nI j ∧ nI j ≤ M := by
  rw [hM]
  exact ⟨nI_pos' (by omega), nI_le h hn⟩
theorem ix_f {x : Int32} {n : Nat} {M : Int32} (hM : M = nI n) (h : bad x (n + 1)) (hn : n < 2 ^ 31) : ¬ ((0 : Int32) ≤ x ∧ x ≤ M) := by
  rintro ⟨h1, h2⟩
  obtain ⟨j, hj, rfl⟩ := nI_of2 (x := x) (M := M) (n := n) (by rw [hM]; exact nI_toInt hn) (Int32.not_lt.mpr h1) h2
  exact h j (by omega) rfl
theorem ix3 {j : Nat} (h : j < 4) : (0 : Int32) ≤ nI j ∧ nI j ≤ 3 := ix_t (n := 3) rfl (by omega) (by decide)
theorem ix4 {j : Nat} (h : j < 5) : (0 : Int32) ≤ nI j ∧ nI j ≤ 4 := ix_t (n := 4) rfl (by omega) (by decide)
theorem ix9 {j : Nat} (h : j < 10) : (0 : Int32) ≤ nI j ∧ nI j ≤ 9 := ix_t (n := 9) rfl (by omega) (by decide)
theorem nix3 {x : Int32} (h : bad x 4) : ¬ ((0 : Int32) ≤ x ∧ x ≤ 3) := ix_f (n := 3) rfl h (by decide)
theorem nix4 {x : Int32} (h : bad x 5) : ¬ ((0 : Int32) ≤ x ∧ x ≤ 4) := ix_f (n := 4) rfl h (by decide)
theorem nix9 {x : Int32} (h : bad x 10) : ¬ ((0 : Int32) ≤ x ∧ x ≤ 9) := ix_f (n := 9) rfl h (by decide)
theorem nbad3 {a b k : Int32} (h1 : 0 ≤ a ∧ a ≤ 4) (h2 : 0 ≤ b ∧ b ≤ 9) (h3 : 0 ≤ k ∧ k ≤ 3) : ¬ (bad a 5 ∨ bad b 10 ∨ bad k 4) := by
  rintro (h | h | h)
  · exact nix4 h h1
  · exact nix9 h h2
  · exact nix3 h h3
theorem isR_t {x : Int32} {rc i : Nat} (h : x = nI rc) (h6 : rc ≤ 60) (hi : i < rc) : (0 : Int32) ≤ nI i ∧ nI i ≤ x - 1 := by
  obtain ⟨k, rfl⟩ : ∃ k, rc = k + 1 := ⟨rc - 1, by omega⟩
  exact ix_t (n := k) (by rw [h]; exact nI_pred k) (by omega) (by omega)
theorem isR_f {x r : Int32} {rc : Nat} (h : x = nI rc) (h6 : rc ≤ 60) (hr : bad r rc) : ¬ ((0 : Int32) ≤ r ∧ r ≤ x - 1) := by
  rcases Nat.eq_zero_or_pos rc with h0 | h0
  · subst h0
    rw [h]
    rintro ⟨h1, h2⟩
    have h3 : (0 : Int32) ≤ nI 0 - 1 := Int32.le_trans h1 h2
    exact absurd h3 (by decide)
  · obtain ⟨k, rfl⟩ : ∃ k, rc = k + 1 := ⟨rc - 1, by omega⟩
    exact ix_f (n := k) (by rw [h]; exact nI_pred k) hr (by omega)
theorem rc_ne {rc : Nat} (h : rc < 60) : ¬ nI rc = 60 := fun q => by
  have := (nI_eq (a := rc) (b := 60) (by omega) (by decide)).mp q
  omega
theorem fc_ne {fc : Nat} (h : fc < 20) : ¬ nI fc = 20 := fun q => by
  have := (nI_eq (a := fc) (b := 20) (by omega) (by decide)).mp q
  omega
theorem ok_X4_80 : fx_ok RX4 80 RX4 yX4_in cX4_in 4 (some .boolean) 3 := ⟨fx_w 773 (by decide +kernel) rfl, fx_w 770 (by decide +kernel) rfl, fx_w 772 (by decide +kernel) rfl, fx_w 25 (by decide +kernel) rfl, fx_w 41 (by decide +kernel) rfl, by decide +kernel⟩
theorem ok_X4_87 : fx_ok RX4 87 RX4 yX4_holds cX4_holds 2 (some .boolean) 1 := ⟨fx_w 777 (by decide +kernel) rfl, fx_w 774 (by decide +kernel) rfl, fx_w 776 (by decide +kernel) rfl, fx_w 26 (by decide +kernel) rfl, fx_w 41 (by decide +kernel) rfl, by decide +kernel⟩
theorem ok_X4_94 : fx_ok RX4 94 RX4 yX4_isReceipt cX4_isReceipt 2 (some .boolean) 1 := ⟨fx_w 789 (by decide +kernel) rfl, fx_w 786 (by decide +kernel) rfl, fx_w 788 (by decide +kernel) rfl, fx_w 27 (by decide +kernel) rfl, fx_w 41 (by decide +kernel) rfl, by decide +kernel⟩
set_option maxHeartbeats 4000000 in
set_option maxRecDepth 100000 in
theorem c_X4_thrown (l : Launch) (Z : fx_Z) (am : Nat → Nat) (hinj : fx_inj 22 am) (h : St) : fx_C l Z yX4_thrown cX4_thrown 1 (some .int) 0 0 0 0 22 am (mF am (Z.2.1 0)) h [.ref (am 0)] (pI (h 0 3) h) (fun _ => False) := by
  intro sz
  refine vx_ofW (cc := cX4_thrown) (maxL := 1) (ret := (some .int)) (by decide) rfl ?_
  intro p e s m args below meth c s₁ B hml hout hv
  obtain ⟨rfl, hsz, hP, hE, hSt⟩ := hv
  subst hsz
  have hx := B.exec
  have hb := B.bytes
  have hr := B.returns
  have hown : s.vm.findClass RX4 = some m.cls := findClass_of_methodNamed B.named
  have hlocks := B.notSynchronized
  have K : m_K p s m ([.ref (am 0)] : List Value).toArray c cX4_thrown 1 Z am := ⟨hx, hb, hml, hown, fun w hw => atoms_spec (ws := fx_l yX4_thrown cX4_thrown 1 (some .int)) B.pre w (List.mem_cons_of_mem _ hw), hE, hSt, hinj⟩
  have hS : va_S (fx_A 22 am s.heap.size) s.heap s.heap [] := va_S.rf
  have hl := lv_entry ([.ref (am 0)]) (n := 1) (Nat.le_of_ble_eq_true rfl)
  rw [lg_entry_eq]
  generalize (lg_sl ([.ref (am 0)]) ++ List.replicate (1 - (lg_sl ([.ref (am 0)])).length) Slot.unset).toArray = ls at hl ⊢
  have hl : lv_has ls 1 [(0, .ref (am 0))] := hl
  refine lv_aload_n hx hb dX4_thrown_0 rfl (lv_at hl 0 rfl) ?_
  refine mg_thrown K hP dX4_thrown_1 ?_
  exact fx_reti hx hb hr hlocks hP hS (Nat.le_of_ble_eq_true rfl) (Nat.le_of_ble_eq_true rfl) dX4_thrown_4 ⟨rfl, rfl⟩

set_option maxHeartbeats 4000000 in
set_option maxRecDepth 100000 in
theorem c_X4_isReceipt (l : Launch) (Z : fx_Z) (am : Nat → Nat) (hinj : fx_inj 22 am) (h : St) (r : Int32) : fx_C l Z yX4_isReceipt cX4_isReceipt 2 (some .boolean) 1 23 0 0 22 am (mF am (Z.2.1 0)) h [.ref (am 0), .int r] (pI (if 0 ≤ r ∧ r ≤ h 0 0 - 1 then 1 else 0) h) (fun _ => False) := by
  intro sz
  refine vx_ofW (cc := cX4_isReceipt) (maxL := 2) (ret := (some .boolean)) (by decide) rfl ?_
  intro p e s m args below meth c s₁ B hml hout hv
  obtain ⟨rfl, hsz, hP, hE, hSt⟩ := hv
  subst hsz
  have hx := B.exec
  have hb := B.bytes
  have hr := B.returns
  have hown : s.vm.findClass RX4 = some m.cls := findClass_of_methodNamed B.named
  have hlocks := B.notSynchronized
  have K : m_K p s m ([.ref (am 0), .int r] : List Value).toArray c cX4_isReceipt 2 Z am := ⟨hx, hb, hml, hown, fun w hw => atoms_spec (ws := fx_l yX4_isReceipt cX4_isReceipt 2 (some .boolean)) B.pre w (List.mem_cons_of_mem _ hw), hE, hSt, hinj⟩
  have hS : va_S (fx_A 22 am s.heap.size) s.heap s.heap [] := va_S.rf
  have hl := lv_entry ([.ref (am 0), .int r]) (n := 2) (Nat.le_of_ble_eq_true rfl)
  rw [lg_entry_eq]
  generalize (lg_sl ([.ref (am 0), .int r]) ++ List.replicate (2 - (lg_sl ([.ref (am 0), .int r])).length) Slot.unset).toArray = ls at hl ⊢
  have hl : lv_has ls 2 [(0, .ref (am 0)), (1, .int r)] := hl
  refine lv_aload_n hx hb dX4_isReceipt_0 rfl (lv_at hl 0 rfl) ?_
  refine lv_iload_n hx hb dX4_isReceipt_1 rfl (lv_at hl 1 rfl) ?_
  refine lv_iconst (v := 0) hx hb dX4_isReceipt_2 (by decide) ?_
  refine lv_aload_n hx hb dX4_isReceipt_3 rfl (lv_at hl 0 rfl) ?_
  refine mg_receipts K hP dX4_isReceipt_4 ?_
  refine lv_iconst (v := 1) hx hb dX4_isReceipt_7 (by decide) ?_
  refine lv_isub hx hb dX4_isReceipt_8 ?_
  refine lv_topi (fun v1 e1 => ?_)
  refine m_callb (rest := []) K hP hS (c_X4_in l Z am hinj h r 0 v1) ok_X4_80 rfl ⟨Nat.le_of_ble_eq_true rfl, Nat.le_of_ble_eq_true rfl⟩ rfl hl.1 (Nat.le_of_ble_eq_true rfl) ⟨Nat.le_of_ble_eq_true rfl, Nat.le_of_ble_eq_true rfl⟩ dX4_isReceipt_9 (fun c2 H locs hP hS => ?_) (fun c2 H locs hP hS => ?_)
  · exact fx_retz hx hb hr hlocks rfl hP hS (Nat.le_of_ble_eq_true rfl) (Nat.le_of_ble_eq_true rfl) dX4_isReceipt_12 ⟨by subst e1; simp [c2], rfl⟩
  · exact fx_retz hx hb hr hlocks rfl hP hS (Nat.le_of_ble_eq_true rfl) (Nat.le_of_ble_eq_true rfl) dX4_isReceipt_12 ⟨by subst e1; simp [c2], rfl⟩

set_option maxHeartbeats 4000000 in
set_option maxRecDepth 100000 in
theorem c_X4_isFerry (l : Launch) (Z : fx_Z) (am : Nat → Nat) (hinj : fx_inj 22 am) (h : St) (f : Int32) : fx_C l Z yX4_isFerry cX4_isFerry 2 (some .boolean) 1 23 0 0 22 am (mF am (Z.2.1 0)) h [.ref (am 0), .int f] (pI (if 0 ≤ f ∧ f ≤ h 0 1 - 1 then 1 else 0) h) (fun _ => False) := by
  intro sz
  refine vx_ofW (cc := cX4_isFerry) (maxL := 2) (ret := (some .boolean)) (by decide) rfl ?_
  intro p e s m args below meth c s₁ B hml hout hv
  obtain ⟨rfl, hsz, hP, hE, hSt⟩ := hv
  subst hsz
  have hx := B.exec
  have hb := B.bytes
  have hr := B.returns
  have hown : s.vm.findClass RX4 = some m.cls := findClass_of_methodNamed B.named
  have hlocks := B.notSynchronized
  have K : m_K p s m ([.ref (am 0), .int f] : List Value).toArray c cX4_isFerry 2 Z am := ⟨hx, hb, hml, hown, fun w hw => atoms_spec (ws := fx_l yX4_isFerry cX4_isFerry 2 (some .boolean)) B.pre w (List.mem_cons_of_mem _ hw), hE, hSt, hinj⟩
  have hS : va_S (fx_A 22 am s.heap.size) s.heap s.heap [] := va_S.rf
  have hl := lv_entry ([.ref (am 0), .int f]) (n := 2) (Nat.le_of_ble_eq_true rfl)
  rw [lg_entry_eq]
  generalize (lg_sl ([.ref (am 0), .int f]) ++ List.replicate (2 - (lg_sl ([.ref (am 0), .int f])).length) Slot.unset).toArray = ls at hl ⊢
  have hl : lv_has ls 2 [(0, .ref (am 0)), (1, .int f)] := hl
  refine lv_aload_n hx hb dX4_isFerry_0 rfl (lv_at hl 0 rfl) ?_
  refine lv_iload_n hx hb dX4_isFerry_1 rfl (lv_at hl 1 rfl) ?_
  refine lv_iconst (v := 0) hx hb dX4_isFerry_2 (by decide) ?_
  refine lv_aload_n hx hb dX4_isFerry_3 rfl (lv_at hl 0 rfl) ?_
  refine mg_ferries K hP dX4_isFerry_4 ?_
  refine lv_iconst (v := 1) hx hb dX4_isFerry_7 (by decide) ?_
  refine lv_isub hx hb dX4_isFerry_8 ?_
  refine lv_topi (fun v1 e1 => ?_)
  refine m_callb (rest := []) K hP hS (c_X4_in l Z am hinj h f 0 v1) ok_X4_80 rfl ⟨Nat.le_of_ble_eq_true rfl, Nat.le_of_ble_eq_true rfl⟩ rfl hl.1 (Nat.le_of_ble_eq_true rfl) ⟨Nat.le_of_ble_eq_true rfl, Nat.le_of_ble_eq_true rfl⟩ dX4_isFerry_9 (fun c2 H locs hP hS => ?_) (fun c2 H locs hP hS => ?_)
  · exact fx_retz hx hb hr hlocks rfl hP hS (Nat.le_of_ble_eq_true rfl) (Nat.le_of_ble_eq_true rfl) dX4_isFerry_12 ⟨by subst e1; simp [c2], rfl⟩
  · exact fx_retz hx hb hr hlocks rfl hP hS (Nat.le_of_ble_eq_true rfl) (Nat.le_of_ble_eq_true rfl) dX4_isFerry_12 ⟨by subst e1; simp [c2], rfl⟩

set_option maxHeartbeats 4000000 in
set_option maxRecDepth 100000 in
theorem c_X4_hasSeat (l : Launch) (Z : fx_Z) (am : Nat → Nat) (hinj : fx_inj 22 am) (h : St) (t : Nat) (f : Nat) (hf : f < 20) : fx_C l Z yX4_hasSeat cX4_hasSeat 3 (some .boolean) 0 0 0 0 22 am (mF am (Z.2.1 0)) h [.ref (am 0), .int (nI t), .int (nI f)] (pI (if (h 13 f >>> (nI t &&& 31)) &&& 1 = 1 then 1 else 0) h) (fun _ => False) := by
  intro sz
  refine vx_ofW (cc := cX4_hasSeat) (maxL := 3) (ret := (some .boolean)) (by decide) rfl ?_
  intro p e s m args below meth c s₁ B hml hout hv
  obtain ⟨rfl, hsz, hP, hE, hSt⟩ := hv
  subst hsz
  have hx := B.exec
  have hb := B.bytes
  have hr := B.returns
  have hown : s.vm.findClass RX4 = some m.cls := findClass_of_methodNamed B.named
  have hlocks := B.notSynchronized
  have K : m_K p s m ([.ref (am 0), .int (nI t), .int (nI f)] : List Value).toArray c cX4_hasSeat 3 Z am := ⟨hx, hb, hml, hown, fun w hw => atoms_spec (ws := fx_l yX4_hasSeat cX4_hasSeat 3 (some .boolean)) B.pre w (List.mem_cons_of_mem _ hw), hE, hSt, hinj⟩
  have hS : va_S (fx_A 22 am s.heap.size) s.heap s.heap [] := va_S.rf
  have hl := lv_entry ([.ref (am 0), .int (nI t), .int (nI f)]) (n := 3) (Nat.le_of_ble_eq_true rfl)
  rw [lg_entry_eq]
  generalize (lg_sl ([.ref (am 0), .int (nI t), .int (nI f)]) ++ List.replicate (3 - (lg_sl ([.ref (am 0), .int (nI t), .int (nI f)])).length) Slot.unset).toArray = ls at hl ⊢
  have hl : lv_has ls 3 [(0, .ref (am 0)), (1, .int (nI t)), (2, .int (nI f))] := hl
  refine lv_aload_n hx hb dX4_hasSeat_0 rfl (lv_at hl 0 rfl) ?_
  refine mg_fw K hP dX4_hasSeat_1 ?_
  refine lv_iload_n hx hb dX4_hasSeat_4 rfl (lv_at hl 2 rfl) ?_
  refine mr_ald K hP (by decide) (by decide) (n := 20) rfl (by omega) (by decide) dX4_hasSeat_5 ?_
  refine lv_iload_n hx hb dX4_hasSeat_6 rfl (lv_at hl 1 rfl) ?_
  refine lv_ishr hx hb dX4_hasSeat_7 ?_
  refine lv_topi (fun v1 e1 => ?_)
  refine lv_iconst (v := 1) hx hb dX4_hasSeat_8 (by decide) ?_
  refine lv_iand hx hb dX4_hasSeat_9 ?_
  refine lv_topi (fun v2 e2 => ?_)
  refine lv_iconst (v := 1) hx hb dX4_hasSeat_10 (by decide) ?_
  refine lv_icmp_ne (tgt := 18) hx hb dX4_hasSeat_11 (by decide) (fun c3 => ?_) (fun c3 => ?_)
  · refine lv_iconst (v := 0) hx hb dX4_hasSeat_18 (by decide) ?_
    exact fx_retz hx hb hr hlocks rfl hP hS (Nat.le_of_ble_eq_true rfl) (Nat.le_of_ble_eq_true rfl) dX4_hasSeat_19 ⟨by subst e1; subst e2; simp [c3], rfl⟩
  · refine lv_iconst (v := 1) hx hb dX4_hasSeat_14 (by decide) ?_
    refine lv_goto (tgt := 19) hx hb dX4_hasSeat_15 (by decide) ?_
    exact fx_retz hx hb hr hlocks rfl hP hS (Nat.le_of_ble_eq_true rfl) (Nat.le_of_ble_eq_true rfl) dX4_hasSeat_19 ⟨by subst e1; subst e2; simp [c3], rfl⟩

set_option maxHeartbeats 4000000 in
set_option maxRecDepth 100000 in
theorem c_X4_rate_0 (l : Launch) (Z : fx_Z) (am : Nat → Nat) (hinj : fx_inj 22 am) (h : St) (k : Nat) (q : Int32) (hk : k < 4) (hp : 0 ≤ q ∧ q ≤ 50) : fx_C l Z yX4_rate cX4_rate 4 (some .int) 1 23 0 0 22 am (mF am (Z.2.1 0)) h [.ref (am 0), .int (nI k), .int q] (pI (h 1 k) (u2 (u2 h 0 3 0) 1 k q)) (fun _ => False) := by
  intro sz
  refine vx_ofW (cc := cX4_rate) (maxL := 4) (ret := (some .int)) (by decide) rfl ?_
  intro p e s m args below meth c s₁ B hml hout hv
  obtain ⟨rfl, hsz, hP, hE, hSt⟩ := hv
  subst hsz
  have hx := B.exec
  have hb := B.bytes
  have hr := B.returns
  have hown : s.vm.findClass RX4 = some m.cls := findClass_of_methodNamed B.named
  have hlocks := B.notSynchronized
  have K : m_K p s m ([.ref (am 0), .int (nI k), .int q] : List Value).toArray c cX4_rate 4 Z am := ⟨hx, hb, hml, hown, fun w hw => atoms_spec (ws := fx_l yX4_rate cX4_rate 4 (some .int)) B.pre w (List.mem_cons_of_mem _ hw), hE, hSt, hinj⟩
  have hS : va_S (fx_A 22 am s.heap.size) s.heap s.heap [] := va_S.rf
  have hl := lv_entry ([.ref (am 0), .int (nI k), .int q]) (n := 4) (Nat.le_of_ble_eq_true rfl)
  rw [lg_entry_eq]
  generalize (lg_sl ([.ref (am 0), .int (nI k), .int q]) ++ List.replicate (4 - (lg_sl ([.ref (am 0), .int (nI k), .int q])).length) Slot.unset).toArray = ls at hl ⊢
  have hl : lv_has ls 4 [(0, .ref (am 0)), (1, .int (nI k)), (2, .int q)] := hl
  refine lv_aload_n hx hb dX4_rate_0 rfl (lv_at hl 0 rfl) ?_
  refine lv_aload_n hx hb dX4_rate_1 rfl (lv_at hl 0 rfl) ?_
  refine lv_iload_n hx hb dX4_rate_2 rfl (lv_at hl 1 rfl) ?_
  refine lv_iconst (v := 0) hx hb dX4_rate_3 (by decide) ?_
  refine lv_iconst (v := 3) hx hb dX4_rate_4 (by decide) ?_
  refine m_callt (rest := [.ref (am 0)]) K hP hS (c_X4_in l Z am hinj h (nI k) 0 3) ok_X4_80 rfl ⟨Nat.le_of_ble_eq_true rfl, Nat.le_of_ble_eq_true rfl⟩ rfl hl.1 (Nat.le_of_ble_eq_true rfl) ⟨Nat.le_of_ble_eq_true rfl, Nat.le_of_ble_eq_true rfl⟩ dX4_rate_5 (ix3 hk) (fun H locs hP hS => ?_)
  refine lv_if_ne (tgt := 15) hx hb dX4_rate_8 (by decide) (fun _ => ?_) (fun c1 => absurd c1 (by decide))
  refine lv_aload_n hx hb dX4_rate_15 rfl (lv_at hl 0 rfl) ?_
  refine lv_iload_n hx hb dX4_rate_16 rfl (lv_at hl 2 rfl) ?_
  refine lv_iconst (v := 0) hx hb dX4_rate_17 (by decide) ?_
  refine lv_bipush (v := 50) hx hb dX4_rate_18 (by decide) ?_
  refine m_callt (rest := [.ref (am 0)]) K hP hS (c_X4_in l Z am hinj h q 0 50) ok_X4_80 rfl ⟨Nat.le_of_ble_eq_true rfl, Nat.le_of_ble_eq_true rfl⟩ rfl hl.1 (Nat.le_of_ble_eq_true rfl) ⟨Nat.le_of_ble_eq_true rfl, Nat.le_of_ble_eq_true rfl⟩ dX4_rate_20 hp (fun H locs hP hS => ?_)
  refine lv_if_eq (tgt := 30) hx hb dX4_rate_23 (by decide) (fun c2 => absurd c2 (by decide)) (fun _ => ?_)
  refine lv_iconst (v := 0) hx hb dX4_rate_26 (by decide) ?_
  refine lv_goto (tgt := 31) hx hb dX4_rate_27 (by decide) ?_
  refine m_callf (rest := []) K hP hS (c_X4_holds l Z am hinj h 0) ok_X4_87 rfl ⟨Nat.le_of_ble_eq_true rfl, Nat.le_of_ble_eq_true rfl⟩ rfl hl.1 (Nat.le_of_ble_eq_true rfl) ⟨Nat.le_of_ble_eq_true rfl, Nat.le_of_ble_eq_true rfl⟩ dX4_rate_31 (by decide) (fun H locs hP hS => ?_)
  obtain ⟨h3, e3⟩ : ∃ z : St, z = (u2 h 0 3 0) := ⟨_, rfl⟩
  rw [← e3] at hP
  refine lv_if_eq (tgt := 39) hx hb dX4_rate_34 (by decide) (fun _ => ?_) (fun c4 => absurd (by decide) c4)
  refine lv_aload_n hx hb dX4_rate_39 rfl (lv_at hl 0 rfl) ?_
  refine mg_rate K hP dX4_rate_40 ?_
  refine lv_iload_n hx hb dX4_rate_43 rfl (lv_at hl 1 rfl) ?_
  refine mr_ald K hP (by decide) (by decide) (n := 4) rfl (by omega) (by decide) dX4_rate_44 ?_
  rw [show h3 1 k = h 1 k from by rw [e3, u2_off _ _ (by omega)]]
  refine lv_istore_n (lv' := [(3, .int (h 1 k)), (0, .ref (am 0)), (1, .int (nI k)), (2, .int q)]) hx hb dX4_rate_45 rfl hl (by decide) rfl (fun ls hl => ?_)
  refine lv_aload_n hx hb dX4_rate_46 rfl (lv_at hl 1 rfl) ?_
  refine mg_rate K hP dX4_rate_47 ?_
  refine lv_iload_n hx hb dX4_rate_50 rfl (lv_at hl 2 rfl) ?_
  refine lv_iload_n hx hb dX4_rate_51 rfl (lv_at hl 3 rfl) ?_
  refine mr_ast K hP hS (by decide) (by decide) (n := 4) rfl (by omega) (by decide) dX4_rate_52 (fun h5 H locs e5 hP hS => ?_)
  refine lv_iload_n hx hb dX4_rate_53 rfl (lv_at hl 0 rfl) ?_
  exact fx_reti hx hb hr hlocks hP hS (Nat.le_of_ble_eq_true rfl) (Nat.le_of_ble_eq_true rfl) dX4_rate_54 ⟨rfl, by simp only [e3, e5]⟩

set_option maxHeartbeats 4000000 in
set_option maxRecDepth 100000 in
theorem c_X4_rate_1 (l : Launch) (Z : fx_Z) (am : Nat → Nat) (hinj : fx_inj 22 am) (h : St) (k : Int32) (q : Int32) (hk : bad k 4) : fx_C l Z yX4_rate cX4_rate 4 (some .int) 1 23 0 0 22 am (mF am (Z.2.1 0)) h [.ref (am 0), .int k, .int q] (pI (-1) (u2 h 0 3 1)) (fun _ => False) := by
  intro sz
  refine vx_ofW (cc := cX4_rate) (maxL := 4) (ret := (some .int)) (by decide) rfl ?_
  intro p e s m args below meth c s₁ B hml hout hv
  obtain ⟨rfl, hsz, hP, hE, hSt⟩ := hv
  subst hsz
  have hx := B.exec
  have hb := B.bytes
  have hr := B.returns
  have hown : s.vm.findClass RX4 = some m.cls := findClass_of_methodNamed B.named
  have hlocks := B.notSynchronized
  have K : m_K p s m ([.ref (am 0), .int k, .int q] : List Value).toArray c cX4_rate 4 Z am := ⟨hx, hb, hml, hown, fun w hw => atoms_spec (ws := fx_l yX4_rate cX4_rate 4 (some .int)) B.pre w (List.mem_cons_of_mem _ hw), hE, hSt, hinj⟩
  have hS : va_S (fx_A 22 am s.heap.size) s.heap s.heap [] := va_S.rf
  have hl := lv_entry ([.ref (am 0), .int k, .int q]) (n := 4) (Nat.le_of_ble_eq_true rfl)
  rw [lg_entry_eq]
  generalize (lg_sl ([.ref (am 0), .int k, .int q]) ++ List.replicate (4 - (lg_sl ([.ref (am 0), .int k, .int q])).length) Slot.unset).toArray = ls at hl ⊢
  have hl : lv_has ls 4 [(0, .ref (am 0)), (1, .int k), (2, .int q)] := hl
  refine lv_aload_n hx hb dX4_rate_0 rfl (lv_at hl 0 rfl) ?_
  refine lv_aload_n hx hb dX4_rate_1 rfl (lv_at hl 0 rfl) ?_
  refine lv_iload_n hx hb dX4_rate_2 rfl (lv_at hl 1 rfl) ?_
  refine lv_iconst (v := 0) hx hb dX4_rate_3 (by decide) ?_
  refine lv_iconst (v := 3) hx hb dX4_rate_4 (by decide) ?_
  refine m_callf (rest := [.ref (am 0)]) K hP hS (c_X4_in l Z am hinj h k 0 3) ok_X4_80 rfl ⟨Nat.le_of_ble_eq_true rfl, Nat.le_of_ble_eq_true rfl⟩ rfl hl.1 (Nat.le_of_ble_eq_true rfl) ⟨Nat.le_of_ble_eq_true rfl, Nat.le_of_ble_eq_true rfl⟩ dX4_rate_5 (nix3 hk) (fun H locs hP hS => ?_)
  refine lv_if_ne (tgt := 15) hx hb dX4_rate_8 (by decide) (fun c1 => absurd (by decide) c1) (fun _ => ?_)
  refine lv_iconst (v := 1) hx hb dX4_rate_11 (by decide) ?_
  refine lv_goto (tgt := 31) hx hb dX4_rate_12 (by decide) ?_
  refine m_callt (rest := []) K hP hS (c_X4_holds l Z am hinj h 1) ok_X4_87 rfl ⟨Nat.le_of_ble_eq_true rfl, Nat.le_of_ble_eq_true rfl⟩ rfl hl.1 (Nat.le_of_ble_eq_true rfl) ⟨Nat.le_of_ble_eq_true rfl, Nat.le_of_ble_eq_true rfl⟩ dX4_rate_31 (by decide) (fun H locs hP hS => ?_)
  obtain ⟨h2, e2⟩ : ∃ z : St, z = (u2 h 0 3 1) := ⟨_, rfl⟩
  rw [← e2] at hP
  refine lv_if_eq (tgt := 39) hx hb dX4_rate_34 (by decide) (fun c3 => absurd c3 (by decide)) (fun _ => ?_)
  refine lv_iconst (v := (-1)) hx hb dX4_rate_37 (by decide) ?_
  exact fx_reti hx hb hr hlocks hP hS (Nat.le_of_ble_eq_true rfl) (Nat.le_of_ble_eq_true rfl) dX4_rate_38 ⟨rfl, e2⟩

set_option maxHeartbeats 4000000 in
set_option maxRecDepth 100000 in
theorem c_X4_rate_2 (l : Launch) (Z : fx_Z) (am : Nat → Nat) (hinj : fx_inj 22 am) (h : St) (k : Nat) (q : Int32) (hk : k < 4) (hp : ¬ (0 ≤ q ∧ q ≤ 50)) : fx_C l Z yX4_rate cX4_rate 4 (some .int) 1 23 0 0 22 am (mF am (Z.2.1 0)) h [.ref (am 0), .int (nI k), .int q] (pI (-1) (u2 h 0 3 2)) (fun _ => False) := by
  intro sz
  refine vx_ofW (cc := cX4_rate) (maxL := 4) (ret := (some .int)) (by decide) rfl ?_
  intro p e s m args below meth c s₁ B hml hout hv
  obtain ⟨rfl, hsz, hP, hE, hSt⟩ := hv
  subst hsz
  have hx := B.exec
  have hb := B.bytes
  have hr := B.returns
  have hown : s.vm.findClass RX4 = some m.cls := findClass_of_methodNamed B.named
  have hlocks := B.notSynchronized
  have K : m_K p s m ([.ref (am 0), .int (nI k), .int q] : List Value).toArray c cX4_rate 4 Z am := ⟨hx, hb, hml, hown, fun w hw => atoms_spec (ws := fx_l yX4_rate cX4_rate 4 (some .int)) B.pre w (List.mem_cons_of_mem _ hw), hE, hSt, hinj⟩
  have hS : va_S (fx_A 22 am s.heap.size) s.heap s.heap [] := va_S.rf
  have hl := lv_entry ([.ref (am 0), .int (nI k), .int q]) (n := 4) (Nat.le_of_ble_eq_true rfl)
  rw [lg_entry_eq]
  generalize (lg_sl ([.ref (am 0), .int (nI k), .int q]) ++ List.replicate (4 - (lg_sl ([.ref (am 0), .int (nI k), .int q])).length) Slot.unset).toArray = ls at hl ⊢
  have hl : lv_has ls 4 [(0, .ref (am 0)), (1, .int (nI k)), (2, .int q)] := hl
  refine lv_aload_n hx hb dX4_rate_0 rfl (lv_at hl 0 rfl) ?_
  refine lv_aload_n hx hb dX4_rate_1 rfl (lv_at hl 0 rfl) ?_
  refine lv_iload_n hx hb dX4_rate_2 rfl (lv_at hl 1 rfl) ?_
  refine lv_iconst (v := 0) hx hb dX4_rate_3 (by decide) ?_
  refine lv_iconst (v := 3) hx hb dX4_rate_4 (by decide) ?_
  refine m_callt (rest := [.ref (am 0)]) K hP hS (c_X4_in l Z am hinj h (nI k) 0 3) ok_X4_80 rfl ⟨Nat.le_of_ble_eq_true rfl, Nat.le_of_ble_eq_true rfl⟩ rfl hl.1 (Nat.le_of_ble_eq_true rfl) ⟨Nat.le_of_ble_eq_true rfl, Nat.le_of_ble_eq_true rfl⟩ dX4_rate_5 (ix3 hk) (fun H locs hP hS => ?_)
  refine lv_if_ne (tgt := 15) hx hb dX4_rate_8 (by decide) (fun _ => ?_) (fun c1 => absurd c1 (by decide))
  refine lv_aload_n hx hb dX4_rate_15 rfl (lv_at hl 0 rfl) ?_
  refine lv_iload_n hx hb dX4_rate_16 rfl (lv_at hl 2 rfl) ?_
  refine lv_iconst (v := 0) hx hb dX4_rate_17 (by decide) ?_
  refine lv_bipush (v := 50) hx hb dX4_rate_18 (by decide) ?_
  refine m_callf (rest := [.ref (am 0)]) K hP hS (c_X4_in l Z am hinj h q 0 50) ok_X4_80 rfl ⟨Nat.le_of_ble_eq_true rfl, Nat.le_of_ble_eq_true rfl⟩ rfl hl.1 (Nat.le_of_ble_eq_true rfl) ⟨Nat.le_of_ble_eq_true rfl, Nat.le_of_ble_eq_true rfl⟩ dX4_rate_20 hp (fun H locs hP hS => ?_)
  refine lv_if_eq (tgt := 30) hx hb dX4_rate_23 (by decide) (fun _ => ?_) (fun c2 => absurd (by decide) c2)
  refine lv_iconst (v := 2) hx hb dX4_rate_30 (by decide) ?_
  refine m_callt (rest := []) K hP hS (c_X4_holds l Z am hinj h 2) ok_X4_87 rfl ⟨Nat.le_of_ble_eq_true rfl, Nat.le_of_ble_eq_true rfl⟩ rfl hl.1 (Nat.le_of_ble_eq_true rfl) ⟨Nat.le_of_ble_eq_true rfl, Nat.le_of_ble_eq_true rfl⟩ dX4_rate_31 (by decide) (fun H locs hP hS => ?_)
  obtain ⟨h3, e3⟩ : ∃ z : St, z = (u2 h 0 3 2) := ⟨_, rfl⟩
  rw [← e3] at hP
  refine lv_if_eq (tgt := 39) hx hb dX4_rate_34 (by decide) (fun c4 => absurd c4 (by decide)) (fun _ => ?_)
  refine lv_iconst (v := (-1)) hx hb dX4_rate_37 (by decide) ?_
  exact fx_reti hx hb hr hlocks hP hS (Nat.le_of_ble_eq_true rfl) (Nat.le_of_ble_eq_true rfl) dX4_rate_38 ⟨rfl, e3⟩

set_option maxHeartbeats 4000000 in
set_option maxRecDepth 100000 in
theorem c_X4_buy_0 (l : Launch) (Z : fx_Z) (am : Nat → Nat) (hinj : fx_inj 22 am) (h : St) (rc : Nat) (a : Nat) (b : Nat) (k : Nat) (d : Int32) (ha : a < 5) (hb5 : b < 10) (hk : k < 4) (hp : 1 ≤ d ∧ d ≤ 10000) (hg : ¬ h 16 b = 1) (hrc : h 0 0 = nI rc) (hr6 : rc < 60) : fx_C l Z yX4_buy cX4_buy 7 (some .int) 1 23 0 0 22 am (mF am (Z.2.1 0)) h [.ref (am 0), .int (nI a), .int (nI b), .int (nI k), .int d] (pI (nI rc) (u2 (u2 (u2 (u2 (u2 (u2 (u2 (u2 h 0 3 0) 2 rc (nI a)) 3 rc (nI b)) 4 rc d) 5 rc ((d * (h 1 k)) / 100)) 6 rc (h 0 2)) 8 rc (-1)) 0 0 (nI (rc + 1)))) (fun _ => False) := by
  intro sz
  refine vx_ofW (cc := cX4_buy) (maxL := 7) (ret := (some .int)) (by decide) rfl ?_
  intro p e s m args below meth c s₁ B hml hout hv
  obtain ⟨rfl, hsz, hP, hE, hSt⟩ := hv
  subst hsz
  have hx := B.exec
  have hb := B.bytes
  have hr := B.returns
  have hown : s.vm.findClass RX4 = some m.cls := findClass_of_methodNamed B.named
  have hlocks := B.notSynchronized
  have K : m_K p s m ([.ref (am 0), .int (nI a), .int (nI b), .int (nI k), .int d] : List Value).toArray c cX4_buy 7 Z am := ⟨hx, hb, hml, hown, fun w hw => atoms_spec (ws := fx_l yX4_buy cX4_buy 7 (some .int)) B.pre w (List.mem_cons_of_mem _ hw), hE, hSt, hinj⟩
  have hS : va_S (fx_A 22 am s.heap.size) s.heap s.heap [] := va_S.rf
  have hl := lv_entry ([.ref (am 0), .int (nI a), .int (nI b), .int (nI k), .int d]) (n := 7) (Nat.le_of_ble_eq_true rfl)
  rw [lg_entry_eq]
  generalize (lg_sl ([.ref (am 0), .int (nI a), .int (nI b), .int (nI k), .int d]) ++ List.replicate (7 - (lg_sl ([.ref (am 0), .int (nI a), .int (nI b), .int (nI k), .int d])).length) Slot.unset).toArray = ls at hl ⊢
  have hl : lv_has ls 7 [(0, .ref (am 0)), (1, .int (nI a)), (2, .int (nI b)), (3, .int (nI k)), (4, .int d)] := hl
  refine lv_aload_n hx hb dX4_buy_0 rfl (lv_at hl 0 rfl) ?_
  refine lv_iload_n hx hb dX4_buy_1 rfl (lv_at hl 1 rfl) ?_
  refine lv_iconst (v := 0) hx hb dX4_buy_2 (by decide) ?_
  refine lv_iconst (v := 4) hx hb dX4_buy_3 (by decide) ?_
  refine m_callt (rest := []) K hP hS (c_X4_in l Z am hinj h (nI a) 0 4) ok_X4_80 rfl ⟨Nat.le_of_ble_eq_true rfl, Nat.le_of_ble_eq_true rfl⟩ rfl hl.1 (Nat.le_of_ble_eq_true rfl) ⟨Nat.le_of_ble_eq_true rfl, Nat.le_of_ble_eq_true rfl⟩ dX4_buy_4 (ix4 ha) (fun H locs hP hS => ?_)
  refine lv_if_eq (tgt := 35) hx hb dX4_buy_7 (by decide) (fun c1 => absurd c1 (by decide)) (fun _ => ?_)
  refine lv_aload_n hx hb dX4_buy_10 rfl (lv_at hl 0 rfl) ?_
  refine lv_iload_n hx hb dX4_buy_11 rfl (lv_at hl 2 rfl) ?_
  refine lv_iconst (v := 0) hx hb dX4_buy_12 (by decide) ?_
  refine lv_bipush (v := 9) hx hb dX4_buy_13 (by decide) ?_
  refine m_callt (rest := []) K hP hS (c_X4_in l Z am hinj h (nI b) 0 9) ok_X4_80 rfl ⟨Nat.le_of_ble_eq_true rfl, Nat.le_of_ble_eq_true rfl⟩ rfl hl.1 (Nat.le_of_ble_eq_true rfl) ⟨Nat.le_of_ble_eq_true rfl, Nat.le_of_ble_eq_true rfl⟩ dX4_buy_15 (ix9 hb5) (fun H locs hP hS => ?_)
  refine lv_if_eq (tgt := 35) hx hb dX4_buy_18 (by decide) (fun c2 => absurd c2 (by decide)) (fun _ => ?_)
  refine lv_aload_n hx hb dX4_buy_21 rfl (lv_at hl 0 rfl) ?_
  refine lv_iload_n hx hb dX4_buy_22 rfl (lv_at hl 3 rfl) ?_
  refine lv_iconst (v := 0) hx hb dX4_buy_23 (by decide) ?_
  refine lv_iconst (v := 3) hx hb dX4_buy_24 (by decide) ?_
  refine m_callt (rest := []) K hP hS (c_X4_in l Z am hinj h (nI k) 0 3) ok_X4_80 rfl ⟨Nat.le_of_ble_eq_true rfl, Nat.le_of_ble_eq_true rfl⟩ rfl hl.1 (Nat.le_of_ble_eq_true rfl) ⟨Nat.le_of_ble_eq_true rfl, Nat.le_of_ble_eq_true rfl⟩ dX4_buy_25 (ix3 hk) (fun H locs hP hS => ?_)
  refine lv_if_eq (tgt := 35) hx hb dX4_buy_28 (by decide) (fun c3 => absurd c3 (by decide)) (fun _ => ?_)
  refine lv_iconst (v := 1) hx hb dX4_buy_31 (by decide) ?_
  refine lv_goto (tgt := 36) hx hb dX4_buy_32 (by decide) ?_
  refine lv_istore (lv' := [(5, .int 1), (0, .ref (am 0)), (1, .int (nI a)), (2, .int (nI b)), (3, .int (nI k)), (4, .int d)]) hx hb dX4_buy_36 hl (by decide) rfl (fun ls hl => ?_)
  refine lv_aload_n hx hb dX4_buy_38 rfl (lv_at hl 1 rfl) ?_
  refine lv_iload hx hb dX4_buy_39 (lv_at hl 0 rfl) ?_
  refine lv_if_ne (tgt := 48) hx hb dX4_buy_41 (by decide) (fun _ => ?_) (fun c4 => absurd c4 (by decide))
  refine lv_aload_n hx hb dX4_buy_48 rfl (lv_at hl 1 rfl) ?_
  refine lv_iload hx hb dX4_buy_49 (lv_at hl 5 rfl) ?_
  refine lv_iconst (v := 1) hx hb dX4_buy_51 (by decide) ?_
  refine lv_sipush (v := 10000) hx hb dX4_buy_52 (by decide) ?_
  refine m_callt (rest := [.ref (am 0)]) K hP hS (c_X4_in l Z am hinj h d 1 10000) ok_X4_80 rfl ⟨Nat.le_of_ble_eq_true rfl, Nat.le_of_ble_eq_true rfl⟩ rfl hl.1 (Nat.le_of_ble_eq_true rfl) ⟨Nat.le_of_ble_eq_true rfl, Nat.le_of_ble_eq_true rfl⟩ dX4_buy_55 hp (fun H locs hP hS => ?_)
  refine lv_if_ne (tgt := 65) hx hb dX4_buy_58 (by decide) (fun _ => ?_) (fun c5 => absurd c5 (by decide))
  refine lv_aload_n hx hb dX4_buy_65 rfl (lv_at hl 1 rfl) ?_
  refine mg_gone K hP dX4_buy_66 ?_
  refine lv_iload_n hx hb dX4_buy_69 rfl (lv_at hl 3 rfl) ?_
  refine mr_ald K hP (by decide) (by decide) (n := 10) rfl (by omega) (by decide) dX4_buy_70 ?_
  refine lv_iconst (v := 1) hx hb dX4_buy_71 (by decide) ?_
  refine lv_icmp_eq (tgt := 84) hx hb dX4_buy_72 (by decide) (fun c6 => absurd c6 hg) (fun _ => ?_)
  refine lv_aload_n hx hb dX4_buy_75 rfl (lv_at hl 1 rfl) ?_
  refine mg_receipts K hP dX4_buy_76 ?_
  rw [hrc]
  refine lv_bipush (v := 60) hx hb dX4_buy_79 (by decide) ?_
  refine lv_icmp_ne (tgt := 88) hx hb dX4_buy_81 (by decide) (fun _ => ?_) (fun c7 => absurd c7 (rc_ne hr6))
  refine lv_iconst (v := 0) hx hb dX4_buy_88 (by decide) ?_
  refine m_callf (rest := []) K hP hS (c_X4_holds l Z am hinj h 0) ok_X4_87 rfl ⟨Nat.le_of_ble_eq_true rfl, Nat.le_of_ble_eq_true rfl⟩ rfl hl.1 (Nat.le_of_ble_eq_true rfl) ⟨Nat.le_of_ble_eq_true rfl, Nat.le_of_ble_eq_true rfl⟩ dX4_buy_89 (by decide) (fun H locs hP hS => ?_)
  obtain ⟨h8, e8⟩ : ∃ z : St, z = (u2 h 0 3 0) := ⟨_, rfl⟩
  rw [← e8] at hP
  refine lv_if_eq (tgt := 97) hx hb dX4_buy_92 (by decide) (fun _ => ?_) (fun c9 => absurd (by decide) c9)
  refine lv_aload_n hx hb dX4_buy_97 rfl (lv_at hl 1 rfl) ?_
  refine mg_receipts K hP dX4_buy_98 ?_
  rw [show h8 0 0 = h 0 0 from by rw [e8, u2_off _ _ (by omega)]]
  rw [hrc]
  refine lv_istore (lv' := [(6, .int (nI rc)), (5, .int 1), (0, .ref (am 0)), (1, .int (nI a)), (2, .int (nI b)), (3, .int (nI k)), (4, .int d)]) hx hb dX4_buy_101 hl (by decide) rfl (fun ls hl => ?_)
  refine lv_aload_n hx hb dX4_buy_103 rfl (lv_at hl 2 rfl) ?_
  refine mg_rs K hP dX4_buy_104 ?_
  refine lv_iload hx hb dX4_buy_107 (lv_at hl 0 rfl) ?_
  refine lv_iload_n hx hb dX4_buy_109 rfl (lv_at hl 3 rfl) ?_
  refine mr_ast K hP hS (by decide) (by decide) (n := 60) rfl (by omega) (by decide) dX4_buy_110 (fun h10 H locs e10 hP hS => ?_)
  refine lv_aload_n hx hb dX4_buy_111 rfl (lv_at hl 2 rfl) ?_
  refine mg_rt K hP dX4_buy_112 ?_
  refine lv_iload hx hb dX4_buy_115 (lv_at hl 0 rfl) ?_
  refine lv_iload_n hx hb dX4_buy_117 rfl (lv_at hl 4 rfl) ?_
  refine mr_ast K hP hS (by decide) (by decide) (n := 60) rfl (by omega) (by decide) dX4_buy_118 (fun h11 H locs e11 hP hS => ?_)
  refine lv_aload_n hx hb dX4_buy_119 rfl (lv_at hl 2 rfl) ?_
  refine mg_rp K hP dX4_buy_120 ?_
  refine lv_iload hx hb dX4_buy_123 (lv_at hl 0 rfl) ?_
  refine lv_iload hx hb dX4_buy_125 (lv_at hl 6 rfl) ?_
  refine mr_ast K hP hS (by decide) (by decide) (n := 60) rfl (by omega) (by decide) dX4_buy_127 (fun h12 H locs e12 hP hS => ?_)
  refine lv_aload_n hx hb dX4_buy_128 rfl (lv_at hl 2 rfl) ?_
  refine mg_rx K hP dX4_buy_129 ?_
  refine lv_iload hx hb dX4_buy_132 (lv_at hl 0 rfl) ?_
  refine lv_iload hx hb dX4_buy_134 (lv_at hl 6 rfl) ?_
  refine lv_aload_n hx hb dX4_buy_136 rfl (lv_at hl 2 rfl) ?_
  refine mg_rate K hP dX4_buy_137 ?_
  refine lv_iload_n hx hb dX4_buy_140 rfl (lv_at hl 5 rfl) ?_
  refine mr_ald K hP (by decide) (by decide) (n := 4) rfl (by omega) (by decide) dX4_buy_141 ?_
  rw [show h12 1 k = h 1 k from by rw [e12, u2_off _ _ (by omega), e11, u2_off _ _ (by omega), e10, u2_off _ _ (by omega), e8, u2_off _ _ (by omega)]]
  refine lv_imul hx hb dX4_buy_142 ?_
  refine lv_topi (fun v13 e13 => ?_)
  refine lv_bipush (v := 100) hx hb dX4_buy_143 (by decide) ?_
  refine lv_idiv hx hb dX4_buy_145 (by decide) ?_
  refine lv_topi (fun v14 e14 => ?_)
  refine mr_ast K hP hS (by decide) (by decide) (n := 60) rfl (by omega) (by decide) dX4_buy_146 (fun h15 H locs e15 hP hS => ?_)
  refine lv_aload_n hx hb dX4_buy_147 rfl (lv_at hl 2 rfl) ?_
  refine mg_rh K hP dX4_buy_148 ?_
  refine lv_iload hx hb dX4_buy_151 (lv_at hl 0 rfl) ?_
  refine lv_aload_n hx hb dX4_buy_153 rfl (lv_at hl 2 rfl) ?_
  refine mg_hour K hP dX4_buy_154 ?_
  rw [show h15 0 2 = h 0 2 from by rw [e15, u2_off _ _ (by omega), e12, u2_off _ _ (by omega), e11, u2_off _ _ (by omega), e10, u2_off _ _ (by omega), e8, u2_off _ _ (by omega)]]
  refine mr_ast K hP hS (by decide) (by decide) (n := 60) rfl (by omega) (by decide) dX4_buy_157 (fun h16 H locs e16 hP hS => ?_)
  refine lv_aload_n hx hb dX4_buy_158 rfl (lv_at hl 2 rfl) ?_
  refine mg_rf K hP dX4_buy_159 ?_
  refine lv_iload hx hb dX4_buy_162 (lv_at hl 0 rfl) ?_
  refine lv_iconst (v := (-1)) hx hb dX4_buy_164 (by decide) ?_
  refine mr_ast K hP hS (by decide) (by decide) (n := 60) rfl (by omega) (by decide) dX4_buy_165 (fun h17 H locs e17 hP hS => ?_)
  refine lv_aload_n hx hb dX4_buy_166 rfl (lv_at hl 2 rfl) ?_
  refine lv_dup hx hb dX4_buy_167 rfl ?_
  refine mg_receipts K hP dX4_buy_168 ?_
  rw [show h17 0 0 = h 0 0 from by rw [e17, u2_off _ _ (by omega), e16, u2_off _ _ (by omega), e15, u2_off _ _ (by omega), e12, u2_off _ _ (by omega), e11, u2_off _ _ (by omega), e10, u2_off _ _ (by omega), e8, u2_off _ _ (by omega)]]
  rw [hrc]
  refine lv_iconst (v := 1) hx hb dX4_buy_171 (by decide) ?_
  refine lv_iadd hx hb dX4_buy_172 ?_
  rw [show ((nI rc) + 1 : Int32) = nI (rc + 1) from nI_1 rc]
  refine mp_receipts K hP hS dX4_buy_173 (fun h18 H locs e18 hP hS => ?_)
  refine lv_iload hx hb dX4_buy_176 (lv_at hl 0 rfl) ?_
  exact fx_reti hx hb hr hlocks hP hS (Nat.le_of_ble_eq_true rfl) (Nat.le_of_ble_eq_true rfl) dX4_buy_178 ⟨rfl, by simp only [e8, e10, e11, e12, e13, e14, e15, e16, e17, e18]⟩

set_option maxHeartbeats 4000000 in
set_option maxRecDepth 100000 in
theorem c_X4_buy_1 (l : Launch) (Z : fx_Z) (am : Nat → Nat) (hinj : fx_inj 22 am) (h : St) (a : Int32) (b : Int32) (k : Int32) (d : Int32) (hbad : bad a 5 ∨ bad b 10 ∨ bad k 4) : fx_C l Z yX4_buy cX4_buy 7 (some .int) 1 23 0 0 22 am (mF am (Z.2.1 0)) h [.ref (am 0), .int a, .int b, .int k, .int d] (pI (-1) (u2 h 0 3 1)) (fun _ => False) := by
  intro sz
  refine vx_ofW (cc := cX4_buy) (maxL := 7) (ret := (some .int)) (by decide) rfl ?_
  intro p e s m args below meth c s₁ B hml hout hv
  obtain ⟨rfl, hsz, hP, hE, hSt⟩ := hv
  subst hsz
  have hx := B.exec
  have hb := B.bytes
  have hr := B.returns
  have hown : s.vm.findClass RX4 = some m.cls := findClass_of_methodNamed B.named
  have hlocks := B.notSynchronized
  have K : m_K p s m ([.ref (am 0), .int a, .int b, .int k, .int d] : List Value).toArray c cX4_buy 7 Z am := ⟨hx, hb, hml, hown, fun w hw => atoms_spec (ws := fx_l yX4_buy cX4_buy 7 (some .int)) B.pre w (List.mem_cons_of_mem _ hw), hE, hSt, hinj⟩
  have hS : va_S (fx_A 22 am s.heap.size) s.heap s.heap [] := va_S.rf
  have hl := lv_entry ([.ref (am 0), .int a, .int b, .int k, .int d]) (n := 7) (Nat.le_of_ble_eq_true rfl)
  rw [lg_entry_eq]
  generalize (lg_sl ([.ref (am 0), .int a, .int b, .int k, .int d]) ++ List.replicate (7 - (lg_sl ([.ref (am 0), .int a, .int b, .int k, .int d])).length) Slot.unset).toArray = ls at hl ⊢
  have hl : lv_has ls 7 [(0, .ref (am 0)), (1, .int a), (2, .int b), (3, .int k), (4, .int d)] := hl
  refine lv_aload_n hx hb dX4_buy_0 rfl (lv_at hl 0 rfl) ?_
  refine lv_iload_n hx hb dX4_buy_1 rfl (lv_at hl 1 rfl) ?_
  refine lv_iconst (v := 0) hx hb dX4_buy_2 (by decide) ?_
  refine lv_iconst (v := 4) hx hb dX4_buy_3 (by decide) ?_
  refine m_callb (rest := []) K hP hS (c_X4_in l Z am hinj h a 0 4) ok_X4_80 rfl ⟨Nat.le_of_ble_eq_true rfl, Nat.le_of_ble_eq_true rfl⟩ rfl hl.1 (Nat.le_of_ble_eq_true rfl) ⟨Nat.le_of_ble_eq_true rfl, Nat.le_of_ble_eq_true rfl⟩ dX4_buy_4 (fun c1 H locs hP hS => ?_) (fun c1 H locs hP hS => ?_)
  · refine lv_if_eq (tgt := 35) hx hb dX4_buy_7 (by decide) (fun c2 => absurd c2 (by decide)) (fun _ => ?_)
    refine lv_aload_n hx hb dX4_buy_10 rfl (lv_at hl 0 rfl) ?_
    refine lv_iload_n hx hb dX4_buy_11 rfl (lv_at hl 2 rfl) ?_
    refine lv_iconst (v := 0) hx hb dX4_buy_12 (by decide) ?_
    refine lv_bipush (v := 9) hx hb dX4_buy_13 (by decide) ?_
    refine m_callb (rest := []) K hP hS (c_X4_in l Z am hinj h b 0 9) ok_X4_80 rfl ⟨Nat.le_of_ble_eq_true rfl, Nat.le_of_ble_eq_true rfl⟩ rfl hl.1 (Nat.le_of_ble_eq_true rfl) ⟨Nat.le_of_ble_eq_true rfl, Nat.le_of_ble_eq_true rfl⟩ dX4_buy_15 (fun c3 H locs hP hS => ?_) (fun c3 H locs hP hS => ?_)
    · refine lv_if_eq (tgt := 35) hx hb dX4_buy_18 (by decide) (fun c4 => absurd c4 (by decide)) (fun _ => ?_)
      refine lv_aload_n hx hb dX4_buy_21 rfl (lv_at hl 0 rfl) ?_
      refine lv_iload_n hx hb dX4_buy_22 rfl (lv_at hl 3 rfl) ?_
      refine lv_iconst (v := 0) hx hb dX4_buy_23 (by decide) ?_
      refine lv_iconst (v := 3) hx hb dX4_buy_24 (by decide) ?_
      refine m_callb (rest := []) K hP hS (c_X4_in l Z am hinj h k 0 3) ok_X4_80 rfl ⟨Nat.le_of_ble_eq_true rfl, Nat.le_of_ble_eq_true rfl⟩ rfl hl.1 (Nat.le_of_ble_eq_true rfl) ⟨Nat.le_of_ble_eq_true rfl, Nat.le_of_ble_eq_true rfl⟩ dX4_buy_25 (fun c5 H locs hP hS => ?_) (fun c5 H locs hP hS => ?_)
      · exact absurd hbad (nbad3 c1 c3 c5)
      · refine lv_if_eq (tgt := 35) hx hb dX4_buy_28 (by decide) (fun _ => ?_) (fun c6 => absurd (by decide) c6)
        refine lv_iconst (v := 0) hx hb dX4_buy_35 (by decide) ?_
        refine lv_istore (lv' := [(5, .int 0), (0, .ref (am 0)), (1, .int a), (2, .int b), (3, .int k), (4, .int d)]) hx hb dX4_buy_36 hl (by decide) rfl (fun ls hl => ?_)
        refine lv_aload_n hx hb dX4_buy_38 rfl (lv_at hl 1 rfl) ?_
        refine lv_iload hx hb dX4_buy_39 (lv_at hl 0 rfl) ?_
        refine lv_if_ne (tgt := 48) hx hb dX4_buy_41 (by decide) (fun c7 => absurd (by decide) c7) (fun _ => ?_)
        refine lv_iconst (v := 1) hx hb dX4_buy_44 (by decide) ?_
        refine lv_goto (tgt := 89) hx hb dX4_buy_45 (by decide) ?_
        refine m_callt (rest := []) K hP hS (c_X4_holds l Z am hinj h 1) ok_X4_87 rfl ⟨Nat.le_of_ble_eq_true rfl, Nat.le_of_ble_eq_true rfl⟩ rfl hl.1 (Nat.le_of_ble_eq_true rfl) ⟨Nat.le_of_ble_eq_true rfl, Nat.le_of_ble_eq_true rfl⟩ dX4_buy_89 (by decide) (fun H locs hP hS => ?_)
        obtain ⟨h8, e8⟩ : ∃ z : St, z = (u2 h 0 3 1) := ⟨_, rfl⟩
        rw [← e8] at hP
        refine lv_if_eq (tgt := 97) hx hb dX4_buy_92 (by decide) (fun c9 => absurd c9 (by decide)) (fun _ => ?_)
        refine lv_iconst (v := (-1)) hx hb dX4_buy_95 (by decide) ?_
        exact fx_reti hx hb hr hlocks hP hS (Nat.le_of_ble_eq_true rfl) (Nat.le_of_ble_eq_true rfl) dX4_buy_96 ⟨rfl, e8⟩
    · refine lv_if_eq (tgt := 35) hx hb dX4_buy_18 (by decide) (fun _ => ?_) (fun c10 => absurd (by decide) c10)
      refine lv_iconst (v := 0) hx hb dX4_buy_35 (by decide) ?_
      refine lv_istore (lv' := [(5, .int 0), (0, .ref (am 0)), (1, .int a), (2, .int b), (3, .int k), (4, .int d)]) hx hb dX4_buy_36 hl (by decide) rfl (fun ls hl => ?_)
      refine lv_aload_n hx hb dX4_buy_38 rfl (lv_at hl 1 rfl) ?_
      refine lv_iload hx hb dX4_buy_39 (lv_at hl 0 rfl) ?_
      refine lv_if_ne (tgt := 48) hx hb dX4_buy_41 (by decide) (fun c11 => absurd (by decide) c11) (fun _ => ?_)
      refine lv_iconst (v := 1) hx hb dX4_buy_44 (by decide) ?_
      refine lv_goto (tgt := 89) hx hb dX4_buy_45 (by decide) ?_
      refine m_callt (rest := []) K hP hS (c_X4_holds l Z am hinj h 1) ok_X4_87 rfl ⟨Nat.le_of_ble_eq_true rfl, Nat.le_of_ble_eq_true rfl⟩ rfl hl.1 (Nat.le_of_ble_eq_true rfl) ⟨Nat.le_of_ble_eq_true rfl, Nat.le_of_ble_eq_true rfl⟩ dX4_buy_89 (by decide) (fun H locs hP hS => ?_)
      obtain ⟨h12, e12⟩ : ∃ z : St, z = (u2 h 0 3 1) := ⟨_, rfl⟩
      rw [← e12] at hP
      refine lv_if_eq (tgt := 97) hx hb dX4_buy_92 (by decide) (fun c13 => absurd c13 (by decide)) (fun _ => ?_)
      refine lv_iconst (v := (-1)) hx hb dX4_buy_95 (by decide) ?_
      exact fx_reti hx hb hr hlocks hP hS (Nat.le_of_ble_eq_true rfl) (Nat.le_of_ble_eq_true rfl) dX4_buy_96 ⟨rfl, e12⟩
  · refine lv_if_eq (tgt := 35) hx hb dX4_buy_7 (by decide) (fun _ => ?_) (fun c14 => absurd (by decide) c14)
    refine lv_iconst (v := 0) hx hb dX4_buy_35 (by decide) ?_
    refine lv_istore (lv' := [(5, .int 0), (0, .ref (am 0)), (1, .int a), (2, .int b), (3, .int k), (4, .int d)]) hx hb dX4_buy_36 hl (by decide) rfl (fun ls hl => ?_)
    refine lv_aload_n hx hb dX4_buy_38 rfl (lv_at hl 1 rfl) ?_
    refine lv_iload hx hb dX4_buy_39 (lv_at hl 0 rfl) ?_
    refine lv_if_ne (tgt := 48) hx hb dX4_buy_41 (by decide) (fun c15 => absurd (by decide) c15) (fun _ => ?_)
    refine lv_iconst (v := 1) hx hb dX4_buy_44 (by decide) ?_
    refine lv_goto (tgt := 89) hx hb dX4_buy_45 (by decide) ?_
    refine m_callt (rest := []) K hP hS (c_X4_holds l Z am hinj h 1) ok_X4_87 rfl ⟨Nat.le_of_ble_eq_true rfl, Nat.le_of_ble_eq_true rfl⟩ rfl hl.1 (Nat.le_of_ble_eq_true rfl) ⟨Nat.le_of_ble_eq_true rfl, Nat.le_of_ble_eq_true rfl⟩ dX4_buy_89 (by decide) (fun H locs hP hS => ?_)
    obtain ⟨h16, e16⟩ : ∃ z : St, z = (u2 h 0 3 1) := ⟨_, rfl⟩
    rw [← e16] at hP
    refine lv_if_eq (tgt := 97) hx hb dX4_buy_92 (by decide) (fun c17 => absurd c17 (by decide)) (fun _ => ?_)
    refine lv_iconst (v := (-1)) hx hb dX4_buy_95 (by decide) ?_
    exact fx_reti hx hb hr hlocks hP hS (Nat.le_of_ble_eq_true rfl) (Nat.le_of_ble_eq_true rfl) dX4_buy_96 ⟨rfl, e16⟩

set_option maxHeartbeats 4000000 in
set_option maxRecDepth 100000 in
theorem c_X4_buy_2 (l : Launch) (Z : fx_Z) (am : Nat → Nat) (hinj : fx_inj 22 am) (h : St) (a : Nat) (b : Nat) (k : Nat) (d : Int32) (ha : a < 5) (hb5 : b < 10) (hk : k < 4) (hp : ¬ (1 ≤ d ∧ d ≤ 10000)) : fx_C l Z yX4_buy cX4_buy 7 (some .int) 1 23 0 0 22 am (mF am (Z.2.1 0)) h [.ref (am 0), .int (nI a), .int (nI b), .int (nI k), .int d] (pI (-1) (u2 h 0 3 2)) (fun _ => False) := by
  intro sz
  refine vx_ofW (cc := cX4_buy) (maxL := 7) (ret := (some .int)) (by decide) rfl ?_
  intro p e s m args below meth c s₁ B hml hout hv
  obtain ⟨rfl, hsz, hP, hE, hSt⟩ := hv
  subst hsz
  have hx := B.exec
  have hb := B.bytes
  have hr := B.returns
  have hown : s.vm.findClass RX4 = some m.cls := findClass_of_methodNamed B.named
  have hlocks := B.notSynchronized
  have K : m_K p s m ([.ref (am 0), .int (nI a), .int (nI b), .int (nI k), .int d] : List Value).toArray c cX4_buy 7 Z am := ⟨hx, hb, hml, hown, fun w hw => atoms_spec (ws := fx_l yX4_buy cX4_buy 7 (some .int)) B.pre w (List.mem_cons_of_mem _ hw), hE, hSt, hinj⟩
  have hS : va_S (fx_A 22 am s.heap.size) s.heap s.heap [] := va_S.rf
  have hl := lv_entry ([.ref (am 0), .int (nI a), .int (nI b), .int (nI k), .int d]) (n := 7) (Nat.le_of_ble_eq_true rfl)
  rw [lg_entry_eq]
  generalize (lg_sl ([.ref (am 0), .int (nI a), .int (nI b), .int (nI k), .int d]) ++ List.replicate (7 - (lg_sl ([.ref (am 0), .int (nI a), .int (nI b), .int (nI k), .int d])).length) Slot.unset).toArray = ls at hl ⊢
  have hl : lv_has ls 7 [(0, .ref (am 0)), (1, .int (nI a)), (2, .int (nI b)), (3, .int (nI k)), (4, .int d)] := hl
  refine lv_aload_n hx hb dX4_buy_0 rfl (lv_at hl 0 rfl) ?_
  refine lv_iload_n hx hb dX4_buy_1 rfl (lv_at hl 1 rfl) ?_
  refine lv_iconst (v := 0) hx hb dX4_buy_2 (by decide) ?_
  refine lv_iconst (v := 4) hx hb dX4_buy_3 (by decide) ?_
  refine m_callt (rest := []) K hP hS (c_X4_in l Z am hinj h (nI a) 0 4) ok_X4_80 rfl ⟨Nat.le_of_ble_eq_true rfl, Nat.le_of_ble_eq_true rfl⟩ rfl hl.1 (Nat.le_of_ble_eq_true rfl) ⟨Nat.le_of_ble_eq_true rfl, Nat.le_of_ble_eq_true rfl⟩ dX4_buy_4 (ix4 ha) (fun H locs hP hS => ?_)
  refine lv_if_eq (tgt := 35) hx hb dX4_buy_7 (by decide) (fun c1 => absurd c1 (by decide)) (fun _ => ?_)
  refine lv_aload_n hx hb dX4_buy_10 rfl (lv_at hl 0 rfl) ?_
  refine lv_iload_n hx hb dX4_buy_11 rfl (lv_at hl 2 rfl) ?_
  refine lv_iconst (v := 0) hx hb dX4_buy_12 (by decide) ?_
  refine lv_bipush (v := 9) hx hb dX4_buy_13 (by decide) ?_
  refine m_callt (rest := []) K hP hS (c_X4_in l Z am hinj h (nI b) 0 9) ok_X4_80 rfl ⟨Nat.le_of_ble_eq_true rfl, Nat.le_of_ble_eq_true rfl⟩ rfl hl.1 (Nat.le_of_ble_eq_true rfl) ⟨Nat.le_of_ble_eq_true rfl, Nat.le_of_ble_eq_true rfl⟩ dX4_buy_15 (ix9 hb5) (fun H locs hP hS => ?_)
  refine lv_if_eq (tgt := 35) hx hb dX4_buy_18 (by decide) (fun c2 => absurd c2 (by decide)) (fun _ => ?_)
  refine lv_aload_n hx hb dX4_buy_21 rfl (lv_at hl 0 rfl) ?_
  refine lv_iload_n hx hb dX4_buy_22 rfl (lv_at hl 3 rfl) ?_
  refine lv_iconst (v := 0) hx hb dX4_buy_23 (by decide) ?_
  refine lv_iconst (v := 3) hx hb dX4_buy_24 (by decide) ?_
  refine m_callt (rest := []) K hP hS (c_X4_in l Z am hinj h (nI k) 0 3) ok_X4_80 rfl ⟨Nat.le_of_ble_eq_true rfl, Nat.le_of_ble_eq_true rfl⟩ rfl hl.1 (Nat.le_of_ble_eq_true rfl) ⟨Nat.le_of_ble_eq_true rfl, Nat.le_of_ble_eq_true rfl⟩ dX4_buy_25 (ix3 hk) (fun H locs hP hS => ?_)
  refine lv_if_eq (tgt := 35) hx hb dX4_buy_28 (by decide) (fun c3 => absurd c3 (by decide)) (fun _ => ?_)
  refine lv_iconst (v := 1) hx hb dX4_buy_31 (by decide) ?_
  refine lv_goto (tgt := 36) hx hb dX4_buy_32 (by decide) ?_
  refine lv_istore (lv' := [(5, .int 1), (0, .ref (am 0)), (1, .int (nI a)), (2, .int (nI b)), (3, .int (nI k)), (4, .int d)]) hx hb dX4_buy_36 hl (by decide) rfl (fun ls hl => ?_)
  refine lv_aload_n hx hb dX4_buy_38 rfl (lv_at hl 1 rfl) ?_
  refine lv_iload hx hb dX4_buy_39 (lv_at hl 0 rfl) ?_
  refine lv_if_ne (tgt := 48) hx hb dX4_buy_41 (by decide) (fun _ => ?_) (fun c4 => absurd c4 (by decide))
  refine lv_aload_n hx hb dX4_buy_48 rfl (lv_at hl 1 rfl) ?_
  refine lv_iload hx hb dX4_buy_49 (lv_at hl 5 rfl) ?_
  refine lv_iconst (v := 1) hx hb dX4_buy_51 (by decide) ?_
  refine lv_sipush (v := 10000) hx hb dX4_buy_52 (by decide) ?_
  refine m_callf (rest := [.ref (am 0)]) K hP hS (c_X4_in l Z am hinj h d 1 10000) ok_X4_80 rfl ⟨Nat.le_of_ble_eq_true rfl, Nat.le_of_ble_eq_true rfl⟩ rfl hl.1 (Nat.le_of_ble_eq_true rfl) ⟨Nat.le_of_ble_eq_true rfl, Nat.le_of_ble_eq_true rfl⟩ dX4_buy_55 hp (fun H locs hP hS => ?_)
  refine lv_if_ne (tgt := 65) hx hb dX4_buy_58 (by decide) (fun c5 => absurd (by decide) c5) (fun _ => ?_)
  refine lv_iconst (v := 2) hx hb dX4_buy_61 (by decide) ?_
  refine lv_goto (tgt := 89) hx hb dX4_buy_62 (by decide) ?_
  refine m_callt (rest := []) K hP hS (c_X4_holds l Z am hinj h 2) ok_X4_87 rfl ⟨Nat.le_of_ble_eq_true rfl, Nat.le_of_ble_eq_true rfl⟩ rfl hl.1 (Nat.le_of_ble_eq_true rfl) ⟨Nat.le_of_ble_eq_true rfl, Nat.le_of_ble_eq_true rfl⟩ dX4_buy_89 (by decide) (fun H locs hP hS => ?_)
  obtain ⟨h6, e6⟩ : ∃ z : St, z = (u2 h 0 3 2) := ⟨_, rfl⟩
  rw [← e6] at hP
  refine lv_if_eq (tgt := 97) hx hb dX4_buy_92 (by decide) (fun c7 => absurd c7 (by decide)) (fun _ => ?_)
  refine lv_iconst (v := (-1)) hx hb dX4_buy_95 (by decide) ?_
  exact fx_reti hx hb hr hlocks hP hS (Nat.le_of_ble_eq_true rfl) (Nat.le_of_ble_eq_true rfl) dX4_buy_96 ⟨rfl, e6⟩

set_option maxHeartbeats 4000000 in
set_option maxRecDepth 100000 in
theorem c_X4_buy_3 (l : Launch) (Z : fx_Z) (am : Nat → Nat) (hinj : fx_inj 22 am) (h : St) (a : Nat) (b : Nat) (k : Nat) (d : Int32) (ha : a < 5) (hb5 : b < 10) (hk : k < 4) (hp : 1 ≤ d ∧ d ≤ 10000) (hg : h 16 b = 1 ∨ h 0 0 = 60) : fx_C l Z yX4_buy cX4_buy 7 (some .int) 1 23 0 0 22 am (mF am (Z.2.1 0)) h [.ref (am 0), .int (nI a), .int (nI b), .int (nI k), .int d] (pI (-1) (u2 h 0 3 3)) (fun _ => False) := by
  intro sz
  refine vx_ofW (cc := cX4_buy) (maxL := 7) (ret := (some .int)) (by decide) rfl ?_
  intro p e s m args below meth c s₁ B hml hout hv
  obtain ⟨rfl, hsz, hP, hE, hSt⟩ := hv
  subst hsz
  have hx := B.exec
  have hb := B.bytes
  have hr := B.returns
  have hown : s.vm.findClass RX4 = some m.cls := findClass_of_methodNamed B.named
  have hlocks := B.notSynchronized
  have K : m_K p s m ([.ref (am 0), .int (nI a), .int (nI b), .int (nI k), .int d] : List Value).toArray c cX4_buy 7 Z am := ⟨hx, hb, hml, hown, fun w hw => atoms_spec (ws := fx_l yX4_buy cX4_buy 7 (some .int)) B.pre w (List.mem_cons_of_mem _ hw), hE, hSt, hinj⟩
  have hS : va_S (fx_A 22 am s.heap.size) s.heap s.heap [] := va_S.rf
  have hl := lv_entry ([.ref (am 0), .int (nI a), .int (nI b), .int (nI k), .int d]) (n := 7) (Nat.le_of_ble_eq_true rfl)
  rw [lg_entry_eq]
  generalize (lg_sl ([.ref (am 0), .int (nI a), .int (nI b), .int (nI k), .int d]) ++ List.replicate (7 - (lg_sl ([.ref (am 0), .int (nI a), .int (nI b), .int (nI k), .int d])).length) Slot.unset).toArray = ls at hl ⊢
  have hl : lv_has ls 7 [(0, .ref (am 0)), (1, .int (nI a)), (2, .int (nI b)), (3, .int (nI k)), (4, .int d)] := hl
  refine lv_aload_n hx hb dX4_buy_0 rfl (lv_at hl 0 rfl) ?_
  refine lv_iload_n hx hb dX4_buy_1 rfl (lv_at hl 1 rfl) ?_
  refine lv_iconst (v := 0) hx hb dX4_buy_2 (by decide) ?_
  refine lv_iconst (v := 4) hx hb dX4_buy_3 (by decide) ?_
  refine m_callt (rest := []) K hP hS (c_X4_in l Z am hinj h (nI a) 0 4) ok_X4_80 rfl ⟨Nat.le_of_ble_eq_true rfl, Nat.le_of_ble_eq_true rfl⟩ rfl hl.1 (Nat.le_of_ble_eq_true rfl) ⟨Nat.le_of_ble_eq_true rfl, Nat.le_of_ble_eq_true rfl⟩ dX4_buy_4 (ix4 ha) (fun H locs hP hS => ?_)
  refine lv_if_eq (tgt := 35) hx hb dX4_buy_7 (by decide) (fun c1 => absurd c1 (by decide)) (fun _ => ?_)
  refine lv_aload_n hx hb dX4_buy_10 rfl (lv_at hl 0 rfl) ?_
  refine lv_iload_n hx hb dX4_buy_11 rfl (lv_at hl 2 rfl) ?_
  refine lv_iconst (v := 0) hx hb dX4_buy_12 (by decide) ?_
  refine lv_bipush (v := 9) hx hb dX4_buy_13 (by decide) ?_
  refine m_callt (rest := []) K hP hS (c_X4_in l Z am hinj h (nI b) 0 9) ok_X4_80 rfl ⟨Nat.le_of_ble_eq_true rfl, Nat.le_of_ble_eq_true rfl⟩ rfl hl.1 (Nat.le_of_ble_eq_true rfl) ⟨Nat.le_of_ble_eq_true rfl, Nat.le_of_ble_eq_true rfl⟩ dX4_buy_15 (ix9 hb5) (fun H locs hP hS => ?_)
  refine lv_if_eq (tgt := 35) hx hb dX4_buy_18 (by decide) (fun c2 => absurd c2 (by decide)) (fun _ => ?_)
  refine lv_aload_n hx hb dX4_buy_21 rfl (lv_at hl 0 rfl) ?_
  refine lv_iload_n hx hb dX4_buy_22 rfl (lv_at hl 3 rfl) ?_
  refine lv_iconst (v := 0) hx hb dX4_buy_23 (by decide) ?_
  refine lv_iconst (v := 3) hx hb dX4_buy_24 (by decide) ?_
  refine m_callt (rest := []) K hP hS (c_X4_in l Z am hinj h (nI k) 0 3) ok_X4_80 rfl ⟨Nat.le_of_ble_eq_true rfl, Nat.le_of_ble_eq_true rfl⟩ rfl hl.1 (Nat.le_of_ble_eq_true rfl) ⟨Nat.le_of_ble_eq_true rfl, Nat.le_of_ble_eq_true rfl⟩ dX4_buy_25 (ix3 hk) (fun H locs hP hS => ?_)
  refine lv_if_eq (tgt := 35) hx hb dX4_buy_28 (by decide) (fun c3 => absurd c3 (by decide)) (fun _ => ?_)
  refine lv_iconst (v := 1) hx hb dX4_buy_31 (by decide) ?_
  refine lv_goto (tgt := 36) hx hb dX4_buy_32 (by decide) ?_
  refine lv_istore (lv' := [(5, .int 1), (0, .ref (am 0)), (1, .int (nI a)), (2, .int (nI b)), (3, .int (nI k)), (4, .int d)]) hx hb dX4_buy_36 hl (by decide) rfl (fun ls hl => ?_)
  refine lv_aload_n hx hb dX4_buy_38 rfl (lv_at hl 1 rfl) ?_
  refine lv_iload hx hb dX4_buy_39 (lv_at hl 0 rfl) ?_
  refine lv_if_ne (tgt := 48) hx hb dX4_buy_41 (by decide) (fun _ => ?_) (fun c4 => absurd c4 (by decide))
  refine lv_aload_n hx hb dX4_buy_48 rfl (lv_at hl 1 rfl) ?_
  refine lv_iload hx hb dX4_buy_49 (lv_at hl 5 rfl) ?_
  refine lv_iconst (v := 1) hx hb dX4_buy_51 (by decide) ?_
  refine lv_sipush (v := 10000) hx hb dX4_buy_52 (by decide) ?_
  refine m_callt (rest := [.ref (am 0)]) K hP hS (c_X4_in l Z am hinj h d 1 10000) ok_X4_80 rfl ⟨Nat.le_of_ble_eq_true rfl, Nat.le_of_ble_eq_true rfl⟩ rfl hl.1 (Nat.le_of_ble_eq_true rfl) ⟨Nat.le_of_ble_eq_true rfl, Nat.le_of_ble_eq_true rfl⟩ dX4_buy_55 hp (fun H locs hP hS => ?_)
  refine lv_if_ne (tgt := 65) hx hb dX4_buy_58 (by decide) (fun _ => ?_) (fun c5 => absurd c5 (by decide))
  refine lv_aload_n hx hb dX4_buy_65 rfl (lv_at hl 1 rfl) ?_
  refine mg_gone K hP dX4_buy_66 ?_
  refine lv_iload_n hx hb dX4_buy_69 rfl (lv_at hl 3 rfl) ?_
  refine mr_ald K hP (by decide) (by decide) (n := 10) rfl (by omega) (by decide) dX4_buy_70 ?_
  refine lv_iconst (v := 1) hx hb dX4_buy_71 (by decide) ?_
  refine lv_icmp_eq (tgt := 84) hx hb dX4_buy_72 (by decide) (fun c6 => ?_) (fun c6 => ?_)
  · refine lv_iconst (v := 3) hx hb dX4_buy_84 (by decide) ?_
    refine lv_goto (tgt := 89) hx hb dX4_buy_85 (by decide) ?_
    refine m_callt (rest := []) K hP hS (c_X4_holds l Z am hinj h 3) ok_X4_87 rfl ⟨Nat.le_of_ble_eq_true rfl, Nat.le_of_ble_eq_true rfl⟩ rfl hl.1 (Nat.le_of_ble_eq_true rfl) ⟨Nat.le_of_ble_eq_true rfl, Nat.le_of_ble_eq_true rfl⟩ dX4_buy_89 (by decide) (fun H locs hP hS => ?_)
    obtain ⟨h7, e7⟩ : ∃ z : St, z = (u2 h 0 3 3) := ⟨_, rfl⟩
    rw [← e7] at hP
    refine lv_if_eq (tgt := 97) hx hb dX4_buy_92 (by decide) (fun c8 => absurd c8 (by decide)) (fun _ => ?_)
    refine lv_iconst (v := (-1)) hx hb dX4_buy_95 (by decide) ?_
    exact fx_reti hx hb hr hlocks hP hS (Nat.le_of_ble_eq_true rfl) (Nat.le_of_ble_eq_true rfl) dX4_buy_96 ⟨rfl, e7⟩
  · refine lv_aload_n hx hb dX4_buy_75 rfl (lv_at hl 1 rfl) ?_
    refine mg_receipts K hP dX4_buy_76 ?_
    refine lv_bipush (v := 60) hx hb dX4_buy_79 (by decide) ?_
    refine lv_icmp_ne (tgt := 88) hx hb dX4_buy_81 (by decide) (fun c9 => ?_) (fun c9 => ?_)
    · exact absurd hg (not_or.mpr ⟨c6, c9⟩)
    · refine lv_iconst (v := 3) hx hb dX4_buy_84 (by decide) ?_
      refine lv_goto (tgt := 89) hx hb dX4_buy_85 (by decide) ?_
      refine m_callt (rest := []) K hP hS (c_X4_holds l Z am hinj h 3) ok_X4_87 rfl ⟨Nat.le_of_ble_eq_true rfl, Nat.le_of_ble_eq_true rfl⟩ rfl hl.1 (Nat.le_of_ble_eq_true rfl) ⟨Nat.le_of_ble_eq_true rfl, Nat.le_of_ble_eq_true rfl⟩ dX4_buy_89 (by decide) (fun H locs hP hS => ?_)
      obtain ⟨h10, e10⟩ : ∃ z : St, z = (u2 h 0 3 3) := ⟨_, rfl⟩
      rw [← e10] at hP
      refine lv_if_eq (tgt := 97) hx hb dX4_buy_92 (by decide) (fun c11 => absurd c11 (by decide)) (fun _ => ?_)
      refine lv_iconst (v := (-1)) hx hb dX4_buy_95 (by decide) ?_
      exact fx_reti hx hb hr hlocks hP hS (Nat.le_of_ble_eq_true rfl) (Nat.le_of_ble_eq_true rfl) dX4_buy_96 ⟨rfl, e10⟩

set_option maxHeartbeats 4000000 in
set_option maxRecDepth 100000 in
theorem c_X4_giveBack_0 (l : Launch) (Z : fx_Z) (am : Nat → Nat) (hinj : fx_inj 22 am) (h : St) (rc : Nat) (t : Nat) (i : Nat) (hi : i < rc) (hrc : h 0 0 = nI rc) (hr6 : rc ≤ 60) (ht : h 3 i = nI t) (ht9 : t < 10) (h7 : h 7 i = 0) (hh : ¬ 240 < h 0 2 - h 6 i) (hg : ¬ h 16 t = 1) : fx_C l Z yX4_giveBack cX4_giveBack 3 (some .int) 2 44 0 0 22 am (mF am (Z.2.1 0)) h [.ref (am 0), .int (nI i)] (pI ((h 4 i) + (h 5 i)) (u2 (u2 h 0 3 0) 7 i 4)) (fun _ => False) := by
  intro sz
  refine vx_ofW (cc := cX4_giveBack) (maxL := 3) (ret := (some .int)) (by decide) rfl ?_
  intro p e s m args below meth c s₁ B hml hout hv
  obtain ⟨rfl, hsz, hP, hE, hSt⟩ := hv
  subst hsz
  have hx := B.exec
  have hb := B.bytes
  have hr := B.returns
  have hown : s.vm.findClass RX4 = some m.cls := findClass_of_methodNamed B.named
  have hlocks := B.notSynchronized
  have K : m_K p s m ([.ref (am 0), .int (nI i)] : List Value).toArray c cX4_giveBack 3 Z am := ⟨hx, hb, hml, hown, fun w hw => atoms_spec (ws := fx_l yX4_giveBack cX4_giveBack 3 (some .int)) B.pre w (List.mem_cons_of_mem _ hw), hE, hSt, hinj⟩
  have hS : va_S (fx_A 22 am s.heap.size) s.heap s.heap [] := va_S.rf
  have hl := lv_entry ([.ref (am 0), .int (nI i)]) (n := 3) (Nat.le_of_ble_eq_true rfl)
  rw [lg_entry_eq]
  generalize (lg_sl ([.ref (am 0), .int (nI i)]) ++ List.replicate (3 - (lg_sl ([.ref (am 0), .int (nI i)])).length) Slot.unset).toArray = ls at hl ⊢
  have hl : lv_has ls 3 [(0, .ref (am 0)), (1, .int (nI i))] := hl
  refine lv_aload_n hx hb dX4_giveBack_0 rfl (lv_at hl 0 rfl) ?_
  refine lv_iload_n hx hb dX4_giveBack_1 rfl (lv_at hl 1 rfl) ?_
  refine m_callt (rest := []) K hP hS (c_X4_isReceipt l Z am hinj h (nI i)) ok_X4_94 rfl ⟨Nat.le_of_ble_eq_true rfl, Nat.le_of_ble_eq_true rfl⟩ rfl hl.1 (Nat.le_of_ble_eq_true rfl) ⟨Nat.le_of_ble_eq_true rfl, Nat.le_of_ble_eq_true rfl⟩ dX4_giveBack_2 (isR_t hrc hr6 hi) (fun H locs hP hS => ?_)
  refine lv_istore_n (lv' := [(2, .int 1), (0, .ref (am 0)), (1, .int (nI i))]) hx hb dX4_giveBack_5 rfl hl (by decide) rfl (fun ls hl => ?_)
  refine lv_aload_n hx hb dX4_giveBack_6 rfl (lv_at hl 1 rfl) ?_
  refine lv_iload_n hx hb dX4_giveBack_7 rfl (lv_at hl 0 rfl) ?_
  refine lv_if_ne (tgt := 15) hx hb dX4_giveBack_8 (by decide) (fun _ => ?_) (fun c1 => absurd c1 (by decide))
  refine lv_aload_n hx hb dX4_giveBack_15 rfl (lv_at hl 1 rfl) ?_
  refine mg_rk K hP dX4_giveBack_16 ?_
  refine lv_iload_n hx hb dX4_giveBack_19 rfl (lv_at hl 2 rfl) ?_
  refine mr_ald K hP (by decide) (by decide) (n := 60) rfl (by omega) (by decide) dX4_giveBack_20 ?_
  refine lv_if_ne (tgt := 56) hx hb dX4_giveBack_21 (by decide) (fun c2 => absurd h7 c2) (fun _ => ?_)
  refine lv_aload_n hx hb dX4_giveBack_24 rfl (lv_at hl 1 rfl) ?_
  refine mg_hour K hP dX4_giveBack_25 ?_
  refine lv_aload_n hx hb dX4_giveBack_28 rfl (lv_at hl 1 rfl) ?_
  refine mg_rh K hP dX4_giveBack_29 ?_
  refine lv_iload_n hx hb dX4_giveBack_32 rfl (lv_at hl 2 rfl) ?_
  refine mr_ald K hP (by decide) (by decide) (n := 60) rfl (by omega) (by decide) dX4_giveBack_33 ?_
  refine lv_isub hx hb dX4_giveBack_34 ?_
  refine lv_topi (fun v3 e3 => ?_)
  refine lv_sipush (v := 240) hx hb dX4_giveBack_35 (by decide) ?_
  refine lv_icmp_gt (tgt := 56) hx hb dX4_giveBack_38 (by decide) (fun c4 => absurd c4 (by rw [e3]; exact hh)) (fun _ => ?_)
  refine lv_aload_n hx hb dX4_giveBack_41 rfl (lv_at hl 1 rfl) ?_
  refine mg_gone K hP dX4_giveBack_42 ?_
  refine lv_aload_n hx hb dX4_giveBack_45 rfl (lv_at hl 1 rfl) ?_
  refine mg_rt K hP dX4_giveBack_46 ?_
  refine lv_iload_n hx hb dX4_giveBack_49 rfl (lv_at hl 2 rfl) ?_
  refine mr_ald K hP (by decide) (by decide) (n := 60) rfl (by omega) (by decide) dX4_giveBack_50 ?_
  rw [ht]
  refine mr_ald K hP (by decide) (by decide) (n := 10) rfl (by omega) (by decide) dX4_giveBack_51 ?_
  refine lv_iconst (v := 1) hx hb dX4_giveBack_52 (by decide) ?_
  refine lv_icmp_ne (tgt := 60) hx hb dX4_giveBack_53 (by decide) (fun _ => ?_) (fun c5 => absurd c5 hg)
  refine lv_iconst (v := 0) hx hb dX4_giveBack_60 (by decide) ?_
  refine m_callf (rest := []) K hP hS (c_X4_holds l Z am hinj h 0) ok_X4_87 rfl ⟨Nat.le_of_ble_eq_true rfl, Nat.le_of_ble_eq_true rfl⟩ rfl hl.1 (Nat.le_of_ble_eq_true rfl) ⟨Nat.le_of_ble_eq_true rfl, Nat.le_of_ble_eq_true rfl⟩ dX4_giveBack_61 (by decide) (fun H locs hP hS => ?_)
  obtain ⟨h6, e6⟩ : ∃ z : St, z = (u2 h 0 3 0) := ⟨_, rfl⟩
  rw [← e6] at hP
  refine lv_if_eq (tgt := 69) hx hb dX4_giveBack_64 (by decide) (fun _ => ?_) (fun c7 => absurd (by decide) c7)
  refine lv_aload_n hx hb dX4_giveBack_69 rfl (lv_at hl 1 rfl) ?_
  refine mg_rk K hP dX4_giveBack_70 ?_
  refine lv_iload_n hx hb dX4_giveBack_73 rfl (lv_at hl 2 rfl) ?_
  refine lv_iconst (v := 4) hx hb dX4_giveBack_74 (by decide) ?_
  refine mr_ast K hP hS (by decide) (by decide) (n := 60) rfl (by omega) (by decide) dX4_giveBack_75 (fun h8 H locs e8 hP hS => ?_)
  refine lv_aload_n hx hb dX4_giveBack_76 rfl (lv_at hl 1 rfl) ?_
  refine mg_rp K hP dX4_giveBack_77 ?_
  refine lv_iload_n hx hb dX4_giveBack_80 rfl (lv_at hl 2 rfl) ?_
  refine mr_ald K hP (by decide) (by decide) (n := 60) rfl (by omega) (by decide) dX4_giveBack_81 ?_
  rw [show h8 4 i = h 4 i from by rw [e8, u2_off _ _ (by omega), e6, u2_off _ _ (by omega)]]
  refine lv_aload_n hx hb dX4_giveBack_82 rfl (lv_at hl 1 rfl) ?_
  refine mg_rx K hP dX4_giveBack_83 ?_
  refine lv_iload_n hx hb dX4_giveBack_86 rfl (lv_at hl 2 rfl) ?_
  refine mr_ald K hP (by decide) (by decide) (n := 60) rfl (by omega) (by decide) dX4_giveBack_87 ?_
  rw [show h8 5 i = h 5 i from by rw [e8, u2_off _ _ (by omega), e6, u2_off _ _ (by omega)]]
  refine lv_iadd hx hb dX4_giveBack_88 ?_
  refine lv_topi (fun v9 e9 => ?_)
  exact fx_reti hx hb hr hlocks hP hS (Nat.le_of_ble_eq_true rfl) (Nat.le_of_ble_eq_true rfl) dX4_giveBack_89 ⟨by simp only [e3, e6, e8, e9], by simp only [e3, e6, e8, e9]⟩

set_option maxHeartbeats 4000000 in
set_option maxRecDepth 100000 in
theorem c_X4_giveBack_1 (l : Launch) (Z : fx_Z) (am : Nat → Nat) (hinj : fx_inj 22 am) (h : St) (rc : Nat) (r : Int32) (hrc : h 0 0 = nI rc) (hr6 : rc ≤ 60) (hbr : bad r rc) : fx_C l Z yX4_giveBack cX4_giveBack 3 (some .int) 2 44 0 0 22 am (mF am (Z.2.1 0)) h [.ref (am 0), .int r] (pI (-1) (u2 h 0 3 1)) (fun _ => False) := by
  intro sz
  refine vx_ofW (cc := cX4_giveBack) (maxL := 3) (ret := (some .int)) (by decide) rfl ?_
  intro p e s m args below meth c s₁ B hml hout hv
  obtain ⟨rfl, hsz, hP, hE, hSt⟩ := hv
  subst hsz
  have hx := B.exec
  have hb := B.bytes
  have hr := B.returns
  have hown : s.vm.findClass RX4 = some m.cls := findClass_of_methodNamed B.named
  have hlocks := B.notSynchronized
  have K : m_K p s m ([.ref (am 0), .int r] : List Value).toArray c cX4_giveBack 3 Z am := ⟨hx, hb, hml, hown, fun w hw => atoms_spec (ws := fx_l yX4_giveBack cX4_giveBack 3 (some .int)) B.pre w (List.mem_cons_of_mem _ hw), hE, hSt, hinj⟩
  have hS : va_S (fx_A 22 am s.heap.size) s.heap s.heap [] := va_S.rf
  have hl := lv_entry ([.ref (am 0), .int r]) (n := 3) (Nat.le_of_ble_eq_true rfl)
  rw [lg_entry_eq]
  generalize (lg_sl ([.ref (am 0), .int r]) ++ List.replicate (3 - (lg_sl ([.ref (am 0), .int r])).length) Slot.unset).toArray = ls at hl ⊢
  have hl : lv_has ls 3 [(0, .ref (am 0)), (1, .int r)] := hl
  refine lv_aload_n hx hb dX4_giveBack_0 rfl (lv_at hl 0 rfl) ?_
  refine lv_iload_n hx hb dX4_giveBack_1 rfl (lv_at hl 1 rfl) ?_
  refine m_callf (rest := []) K hP hS (c_X4_isReceipt l Z am hinj h r) ok_X4_94 rfl ⟨Nat.le_of_ble_eq_true rfl, Nat.le_of_ble_eq_true rfl⟩ rfl hl.1 (Nat.le_of_ble_eq_true rfl) ⟨Nat.le_of_ble_eq_true rfl, Nat.le_of_ble_eq_true rfl⟩ dX4_giveBack_2 (isR_f hrc hr6 hbr) (fun H locs hP hS => ?_)
  refine lv_istore_n (lv' := [(2, .int 0), (0, .ref (am 0)), (1, .int r)]) hx hb dX4_giveBack_5 rfl hl (by decide) rfl (fun ls hl => ?_)
  refine lv_aload_n hx hb dX4_giveBack_6 rfl (lv_at hl 1 rfl) ?_
  refine lv_iload_n hx hb dX4_giveBack_7 rfl (lv_at hl 0 rfl) ?_
  refine lv_if_ne (tgt := 15) hx hb dX4_giveBack_8 (by decide) (fun c1 => absurd (by decide) c1) (fun _ => ?_)
  refine lv_iconst (v := 1) hx hb dX4_giveBack_11 (by decide) ?_
  refine lv_goto (tgt := 61) hx hb dX4_giveBack_12 (by decide) ?_
  refine m_callt (rest := []) K hP hS (c_X4_holds l Z am hinj h 1) ok_X4_87 rfl ⟨Nat.le_of_ble_eq_true rfl, Nat.le_of_ble_eq_true rfl⟩ rfl hl.1 (Nat.le_of_ble_eq_true rfl) ⟨Nat.le_of_ble_eq_true rfl, Nat.le_of_ble_eq_true rfl⟩ dX4_giveBack_61 (by decide) (fun H locs hP hS => ?_)
  obtain ⟨h2, e2⟩ : ∃ z : St, z = (u2 h 0 3 1) := ⟨_, rfl⟩
  rw [← e2] at hP
  refine lv_if_eq (tgt := 69) hx hb dX4_giveBack_64 (by decide) (fun c3 => absurd c3 (by decide)) (fun _ => ?_)
  refine lv_iconst (v := (-1)) hx hb dX4_giveBack_67 (by decide) ?_
  exact fx_reti hx hb hr hlocks hP hS (Nat.le_of_ble_eq_true rfl) (Nat.le_of_ble_eq_true rfl) dX4_giveBack_68 ⟨rfl, e2⟩

set_option maxHeartbeats 4000000 in
set_option maxRecDepth 100000 in
theorem c_X4_giveBack_2 (l : Launch) (Z : fx_Z) (am : Nat → Nat) (hinj : fx_inj 22 am) (h : St) (rc : Nat) (t : Nat) (i : Nat) (hi : i < rc) (hrc : h 0 0 = nI rc) (hr6 : rc ≤ 60) (ht : h 3 i = nI t) (ht9 : t < 10) (hbad : h 7 i ≠ 0 ∨ 240 < h 0 2 - h 6 i ∨ h 16 t = 1) : fx_C l Z yX4_giveBack cX4_giveBack 3 (some .int) 2 44 0 0 22 am (mF am (Z.2.1 0)) h [.ref (am 0), .int (nI i)] (pI (-1) (u2 h 0 3 2)) (fun _ => False) := by
  intro sz
  refine vx_ofW (cc := cX4_giveBack) (maxL := 3) (ret := (some .int)) (by decide) rfl ?_
  intro p e s m args below meth c s₁ B hml hout hv
  obtain ⟨rfl, hsz, hP, hE, hSt⟩ := hv
  subst hsz
  have hx := B.exec
  have hb := B.bytes
  have hr := B.returns
  have hown : s.vm.findClass RX4 = some m.cls := findClass_of_methodNamed B.named
  have hlocks := B.notSynchronized
  have K : m_K p s m ([.ref (am 0), .int (nI i)] : List Value).toArray c cX4_giveBack 3 Z am := ⟨hx, hb, hml, hown, fun w hw => atoms_spec (ws := fx_l yX4_giveBack cX4_giveBack 3 (some .int)) B.pre w (List.mem_cons_of_mem _ hw), hE, hSt, hinj⟩
  have hS : va_S (fx_A 22 am s.heap.size) s.heap s.heap [] := va_S.rf
  have hl := lv_entry ([.ref (am 0), .int (nI i)]) (n := 3) (Nat.le_of_ble_eq_true rfl)
  rw [lg_entry_eq]
  generalize (lg_sl ([.ref (am 0), .int (nI i)]) ++ List.replicate (3 - (lg_sl ([.ref (am 0), .int (nI i)])).length) Slot.unset).toArray = ls at hl ⊢
  have hl : lv_has ls 3 [(0, .ref (am 0)), (1, .int (nI i))] := hl
  refine lv_aload_n hx hb dX4_giveBack_0 rfl (lv_at hl 0 rfl) ?_
  refine lv_iload_n hx hb dX4_giveBack_1 rfl (lv_at hl 1 rfl) ?_
  refine m_callt (rest := []) K hP hS (c_X4_isReceipt l Z am hinj h (nI i)) ok_X4_94 rfl ⟨Nat.le_of_ble_eq_true rfl, Nat.le_of_ble_eq_true rfl⟩ rfl hl.1 (Nat.le_of_ble_eq_true rfl) ⟨Nat.le_of_ble_eq_true rfl, Nat.le_of_ble_eq_true rfl⟩ dX4_giveBack_2 (isR_t hrc hr6 hi) (fun H locs hP hS => ?_)
  refine lv_istore_n (lv' := [(2, .int 1), (0, .ref (am 0)), (1, .int (nI i))]) hx hb dX4_giveBack_5 rfl hl (by decide) rfl (fun ls hl => ?_)
  refine lv_aload_n hx hb dX4_giveBack_6 rfl (lv_at hl 1 rfl) ?_
  refine lv_iload_n hx hb dX4_giveBack_7 rfl (lv_at hl 0 rfl) ?_
  refine lv_if_ne (tgt := 15) hx hb dX4_giveBack_8 (by decide) (fun _ => ?_) (fun c1 => absurd c1 (by decide))
  refine lv_aload_n hx hb dX4_giveBack_15 rfl (lv_at hl 1 rfl) ?_
  refine mg_rk K hP dX4_giveBack_16 ?_
  refine lv_iload_n hx hb dX4_giveBack_19 rfl (lv_at hl 2 rfl) ?_
  refine mr_ald K hP (by decide) (by decide) (n := 60) rfl (by omega) (by decide) dX4_giveBack_20 ?_
  refine lv_if_ne (tgt := 56) hx hb dX4_giveBack_21 (by decide) (fun c2 => ?_) (fun c2 => ?_)
  · refine lv_iconst (v := 2) hx hb dX4_giveBack_56 (by decide) ?_
    refine lv_goto (tgt := 61) hx hb dX4_giveBack_57 (by decide) ?_
    refine m_callt (rest := []) K hP hS (c_X4_holds l Z am hinj h 2) ok_X4_87 rfl ⟨Nat.le_of_ble_eq_true rfl, Nat.le_of_ble_eq_true rfl⟩ rfl hl.1 (Nat.le_of_ble_eq_true rfl) ⟨Nat.le_of_ble_eq_true rfl, Nat.le_of_ble_eq_true rfl⟩ dX4_giveBack_61 (by decide) (fun H locs hP hS => ?_)
    obtain ⟨h3, e3⟩ : ∃ z : St, z = (u2 h 0 3 2) := ⟨_, rfl⟩
    rw [← e3] at hP
    refine lv_if_eq (tgt := 69) hx hb dX4_giveBack_64 (by decide) (fun c4 => absurd c4 (by decide)) (fun _ => ?_)
    refine lv_iconst (v := (-1)) hx hb dX4_giveBack_67 (by decide) ?_
    exact fx_reti hx hb hr hlocks hP hS (Nat.le_of_ble_eq_true rfl) (Nat.le_of_ble_eq_true rfl) dX4_giveBack_68 ⟨rfl, e3⟩
  · refine lv_aload_n hx hb dX4_giveBack_24 rfl (lv_at hl 1 rfl) ?_
    refine mg_hour K hP dX4_giveBack_25 ?_
    refine lv_aload_n hx hb dX4_giveBack_28 rfl (lv_at hl 1 rfl) ?_
    refine mg_rh K hP dX4_giveBack_29 ?_
    refine lv_iload_n hx hb dX4_giveBack_32 rfl (lv_at hl 2 rfl) ?_
    refine mr_ald K hP (by decide) (by decide) (n := 60) rfl (by omega) (by decide) dX4_giveBack_33 ?_
    refine lv_isub hx hb dX4_giveBack_34 ?_
    refine lv_topi (fun v5 e5 => ?_)
    refine lv_sipush (v := 240) hx hb dX4_giveBack_35 (by decide) ?_
    refine lv_icmp_gt (tgt := 56) hx hb dX4_giveBack_38 (by decide) (fun c6 => ?_) (fun c6 => ?_)
    · refine lv_iconst (v := 2) hx hb dX4_giveBack_56 (by decide) ?_
      refine lv_goto (tgt := 61) hx hb dX4_giveBack_57 (by decide) ?_
      refine m_callt (rest := []) K hP hS (c_X4_holds l Z am hinj h 2) ok_X4_87 rfl ⟨Nat.le_of_ble_eq_true rfl, Nat.le_of_ble_eq_true rfl⟩ rfl hl.1 (Nat.le_of_ble_eq_true rfl) ⟨Nat.le_of_ble_eq_true rfl, Nat.le_of_ble_eq_true rfl⟩ dX4_giveBack_61 (by decide) (fun H locs hP hS => ?_)
      obtain ⟨h7, e7⟩ : ∃ z : St, z = (u2 h 0 3 2) := ⟨_, rfl⟩
      rw [← e7] at hP
      refine lv_if_eq (tgt := 69) hx hb dX4_giveBack_64 (by decide) (fun c8 => absurd c8 (by decide)) (fun _ => ?_)
      refine lv_iconst (v := (-1)) hx hb dX4_giveBack_67 (by decide) ?_
      exact fx_reti hx hb hr hlocks hP hS (Nat.le_of_ble_eq_true rfl) (Nat.le_of_ble_eq_true rfl) dX4_giveBack_68 ⟨rfl, e7⟩
    · refine lv_aload_n hx hb dX4_giveBack_41 rfl (lv_at hl 1 rfl) ?_
      refine mg_gone K hP dX4_giveBack_42 ?_
      refine lv_aload_n hx hb dX4_giveBack_45 rfl (lv_at hl 1 rfl) ?_
      refine mg_rt K hP dX4_giveBack_46 ?_
      refine lv_iload_n hx hb dX4_giveBack_49 rfl (lv_at hl 2 rfl) ?_
      refine mr_ald K hP (by decide) (by decide) (n := 60) rfl (by omega) (by decide) dX4_giveBack_50 ?_
      rw [ht]
      refine mr_ald K hP (by decide) (by decide) (n := 10) rfl (by omega) (by decide) dX4_giveBack_51 ?_
      refine lv_iconst (v := 1) hx hb dX4_giveBack_52 (by decide) ?_
      refine lv_icmp_ne (tgt := 60) hx hb dX4_giveBack_53 (by decide) (fun c9 => ?_) (fun c9 => ?_)
      · exact absurd hbad (by rw [e5] at *; simp_all)
      · refine lv_iconst (v := 2) hx hb dX4_giveBack_56 (by decide) ?_
        refine lv_goto (tgt := 61) hx hb dX4_giveBack_57 (by decide) ?_
        refine m_callt (rest := []) K hP hS (c_X4_holds l Z am hinj h 2) ok_X4_87 rfl ⟨Nat.le_of_ble_eq_true rfl, Nat.le_of_ble_eq_true rfl⟩ rfl hl.1 (Nat.le_of_ble_eq_true rfl) ⟨Nat.le_of_ble_eq_true rfl, Nat.le_of_ble_eq_true rfl⟩ dX4_giveBack_61 (by decide) (fun H locs hP hS => ?_)
        obtain ⟨h10, e10⟩ : ∃ z : St, z = (u2 h 0 3 2) := ⟨_, rfl⟩
        rw [← e10] at hP
        refine lv_if_eq (tgt := 69) hx hb dX4_giveBack_64 (by decide) (fun c11 => absurd c11 (by decide)) (fun _ => ?_)
        refine lv_iconst (v := (-1)) hx hb dX4_giveBack_67 (by decide) ?_
        exact fx_reti hx hb hr hlocks hP hS (Nat.le_of_ble_eq_true rfl) (Nat.le_of_ble_eq_true rfl) dX4_giveBack_68 ⟨rfl, e10⟩

set_option maxHeartbeats 4000000 in
set_option maxRecDepth 100000 in
theorem c_X4_ferry_0 (l : Launch) (Z : fx_Z) (am : Nat → Nat) (hinj : fx_inj 22 am) (h : St) (fc : Nat) (a : Int32) (b : Int32) (h1 : h 0 2 + 1 ≤ a ∧ a ≤ 10000) (h2 : 1 ≤ b ∧ b ≤ 10) (hfc : h 0 1 = nI fc) (hf2 : fc < 20) : fx_C l Z yX4_ferry cX4_ferry 4 (some .int) 1 23 0 0 22 am (mF am (Z.2.1 0)) h [.ref (am 0), .int a, .int b] (pI (nI fc) (u2 (u2 (u2 (u2 h 0 3 0) 11 fc a) 12 fc b) 0 1 (nI (fc + 1)))) (fun _ => False) := by
  intro sz
  refine vx_ofW (cc := cX4_ferry) (maxL := 4) (ret := (some .int)) (by decide) rfl ?_
  intro p e s m args below meth c s₁ B hml hout hv
  obtain ⟨rfl, hsz, hP, hE, hSt⟩ := hv
  subst hsz
  have hx := B.exec
  have hb := B.bytes
  have hr := B.returns
  have hown : s.vm.findClass RX4 = some m.cls := findClass_of_methodNamed B.named
  have hlocks := B.notSynchronized
  have K : m_K p s m ([.ref (am 0), .int a, .int b] : List Value).toArray c cX4_ferry 4 Z am := ⟨hx, hb, hml, hown, fun w hw => atoms_spec (ws := fx_l yX4_ferry cX4_ferry 4 (some .int)) B.pre w (List.mem_cons_of_mem _ hw), hE, hSt, hinj⟩
  have hS : va_S (fx_A 22 am s.heap.size) s.heap s.heap [] := va_S.rf
  have hl := lv_entry ([.ref (am 0), .int a, .int b]) (n := 4) (Nat.le_of_ble_eq_true rfl)
  rw [lg_entry_eq]
  generalize (lg_sl ([.ref (am 0), .int a, .int b]) ++ List.replicate (4 - (lg_sl ([.ref (am 0), .int a, .int b])).length) Slot.unset).toArray = ls at hl ⊢
  have hl : lv_has ls 4 [(0, .ref (am 0)), (1, .int a), (2, .int b)] := hl
  refine lv_aload_n hx hb dX4_ferry_0 rfl (lv_at hl 0 rfl) ?_
  refine lv_iload_n hx hb dX4_ferry_1 rfl (lv_at hl 1 rfl) ?_
  refine lv_aload_n hx hb dX4_ferry_2 rfl (lv_at hl 0 rfl) ?_
  refine mg_hour K hP dX4_ferry_3 ?_
  refine lv_iconst (v := 1) hx hb dX4_ferry_6 (by decide) ?_
  refine lv_iadd hx hb dX4_ferry_7 ?_
  refine lv_topi (fun v1 e1 => ?_)
  refine lv_sipush (v := 10000) hx hb dX4_ferry_8 (by decide) ?_
  refine m_callt (rest := []) K hP hS (c_X4_in l Z am hinj h a v1 10000) ok_X4_80 rfl ⟨Nat.le_of_ble_eq_true rfl, Nat.le_of_ble_eq_true rfl⟩ rfl hl.1 (Nat.le_of_ble_eq_true rfl) ⟨Nat.le_of_ble_eq_true rfl, Nat.le_of_ble_eq_true rfl⟩ dX4_ferry_11 (by rw [e1]; exact h1) (fun H locs hP hS => ?_)
  refine lv_if_eq (tgt := 32) hx hb dX4_ferry_14 (by decide) (fun c2 => absurd c2 (by decide)) (fun _ => ?_)
  refine lv_aload_n hx hb dX4_ferry_17 rfl (lv_at hl 0 rfl) ?_
  refine lv_iload_n hx hb dX4_ferry_18 rfl (lv_at hl 2 rfl) ?_
  refine lv_iconst (v := 1) hx hb dX4_ferry_19 (by decide) ?_
  refine lv_bipush (v := 10) hx hb dX4_ferry_20 (by decide) ?_
  refine m_callt (rest := []) K hP hS (c_X4_in l Z am hinj h b 1 10) ok_X4_80 rfl ⟨Nat.le_of_ble_eq_true rfl, Nat.le_of_ble_eq_true rfl⟩ rfl hl.1 (Nat.le_of_ble_eq_true rfl) ⟨Nat.le_of_ble_eq_true rfl, Nat.le_of_ble_eq_true rfl⟩ dX4_ferry_22 h2 (fun H locs hP hS => ?_)
  refine lv_if_eq (tgt := 32) hx hb dX4_ferry_25 (by decide) (fun c3 => absurd c3 (by decide)) (fun _ => ?_)
  refine lv_iconst (v := 1) hx hb dX4_ferry_28 (by decide) ?_
  refine lv_goto (tgt := 33) hx hb dX4_ferry_29 (by decide) ?_
  refine lv_istore_n (lv' := [(3, .int 1), (0, .ref (am 0)), (1, .int a), (2, .int b)]) hx hb dX4_ferry_33 rfl hl (by decide) rfl (fun ls hl => ?_)
  refine lv_aload_n hx hb dX4_ferry_34 rfl (lv_at hl 1 rfl) ?_
  refine lv_iload_n hx hb dX4_ferry_35 rfl (lv_at hl 0 rfl) ?_
  refine lv_if_ne (tgt := 43) hx hb dX4_ferry_36 (by decide) (fun _ => ?_) (fun c4 => absurd c4 (by decide))
  refine lv_aload_n hx hb dX4_ferry_43 rfl (lv_at hl 1 rfl) ?_
  refine mg_ferries K hP dX4_ferry_44 ?_
  rw [hfc]
  refine lv_bipush (v := 20) hx hb dX4_ferry_47 (by decide) ?_
  refine lv_icmp_ne (tgt := 56) hx hb dX4_ferry_49 (by decide) (fun _ => ?_) (fun c5 => absurd c5 (fc_ne hf2))
  refine lv_iconst (v := 0) hx hb dX4_ferry_56 (by decide) ?_
  refine m_callf (rest := []) K hP hS (c_X4_holds l Z am hinj h 0) ok_X4_87 rfl ⟨Nat.le_of_ble_eq_true rfl, Nat.le_of_ble_eq_true rfl⟩ rfl hl.1 (Nat.le_of_ble_eq_true rfl) ⟨Nat.le_of_ble_eq_true rfl, Nat.le_of_ble_eq_true rfl⟩ dX4_ferry_57 (by decide) (fun H locs hP hS => ?_)
  obtain ⟨h6, e6⟩ : ∃ z : St, z = (u2 h 0 3 0) := ⟨_, rfl⟩
  rw [← e6] at hP
  refine lv_if_eq (tgt := 65) hx hb dX4_ferry_60 (by decide) (fun _ => ?_) (fun c7 => absurd (by decide) c7)
  refine lv_aload_n hx hb dX4_ferry_65 rfl (lv_at hl 1 rfl) ?_
  refine mg_fh K hP dX4_ferry_66 ?_
  refine lv_aload_n hx hb dX4_ferry_69 rfl (lv_at hl 1 rfl) ?_
  refine mg_ferries K hP dX4_ferry_70 ?_
  rw [show h6 0 1 = h 0 1 from by rw [e6, u2_off _ _ (by omega)]]
  rw [hfc]
  refine lv_iload_n hx hb dX4_ferry_73 rfl (lv_at hl 2 rfl) ?_
  refine mr_ast K hP hS (by decide) (by decide) (n := 20) rfl (by omega) (by decide) dX4_ferry_74 (fun h8 H locs e8 hP hS => ?_)
  refine lv_aload_n hx hb dX4_ferry_75 rfl (lv_at hl 1 rfl) ?_
  refine mg_fs K hP dX4_ferry_76 ?_
  refine lv_aload_n hx hb dX4_ferry_79 rfl (lv_at hl 1 rfl) ?_
  refine mg_ferries K hP dX4_ferry_80 ?_
  rw [show h8 0 1 = h 0 1 from by rw [e8, u2_off _ _ (by omega), e6, u2_off _ _ (by omega)]]
  rw [hfc]
  refine lv_iload_n hx hb dX4_ferry_83 rfl (lv_at hl 3 rfl) ?_
  refine mr_ast K hP hS (by decide) (by decide) (n := 20) rfl (by omega) (by decide) dX4_ferry_84 (fun h9 H locs e9 hP hS => ?_)
  refine lv_aload_n hx hb dX4_ferry_85 rfl (lv_at hl 1 rfl) ?_
  refine lv_dup hx hb dX4_ferry_86 rfl ?_
  refine mg_ferries K hP dX4_ferry_87 ?_
  rw [show h9 0 1 = h 0 1 from by rw [e9, u2_off _ _ (by omega), e8, u2_off _ _ (by omega), e6, u2_off _ _ (by omega)]]
  rw [hfc]
  refine lv_iconst (v := 1) hx hb dX4_ferry_90 (by decide) ?_
  refine lv_iadd hx hb dX4_ferry_91 ?_
  rw [show ((nI fc) + 1 : Int32) = nI (fc + 1) from nI_1 fc]
  refine mp_ferries K hP hS dX4_ferry_92 (fun h10 H locs e10 hP hS => ?_)
  refine lv_aload_n hx hb dX4_ferry_95 rfl (lv_at hl 1 rfl) ?_
  refine mg_ferries K hP dX4_ferry_96 ?_
  rw [show h10 0 1 = nI (fc + 1) from by rw [e10, u2_self]]
  refine lv_iconst (v := 1) hx hb dX4_ferry_99 (by decide) ?_
  refine lv_isub hx hb dX4_ferry_100 ?_
  rw [show ((nI (fc + 1)) - 1 : Int32) = nI fc from nI_pred fc]
  exact fx_reti hx hb hr hlocks hP hS (Nat.le_of_ble_eq_true rfl) (Nat.le_of_ble_eq_true rfl) dX4_ferry_101 ⟨rfl, by simp only [e1, e6, e8, e9, e10]⟩

set_option maxHeartbeats 4000000 in
set_option maxRecDepth 100000 in
theorem c_X4_ferry_1 (l : Launch) (Z : fx_Z) (am : Nat → Nat) (hinj : fx_inj 22 am) (h : St) (a : Int32) (b : Int32) (hbad : ¬ (h 0 2 + 1 ≤ a ∧ a ≤ 10000) ∨ ¬ (1 ≤ b ∧ b ≤ 10)) : fx_C l Z yX4_ferry cX4_ferry 4 (some .int) 1 23 0 0 22 am (mF am (Z.2.1 0)) h [.ref (am 0), .int a, .int b] (pI (-1) (u2 h 0 3 1)) (fun _ => False) := by
  intro sz
  refine vx_ofW (cc := cX4_ferry) (maxL := 4) (ret := (some .int)) (by decide) rfl ?_
  intro p e s m args below meth c s₁ B hml hout hv
  obtain ⟨rfl, hsz, hP, hE, hSt⟩ := hv
  subst hsz
  have hx := B.exec
  have hb := B.bytes
  have hr := B.returns
  have hown : s.vm.findClass RX4 = some m.cls := findClass_of_methodNamed B.named
  have hlocks := B.notSynchronized
  have K : m_K p s m ([.ref (am 0), .int a, .int b] : List Value).toArray c cX4_ferry 4 Z am := ⟨hx, hb, hml, hown, fun w hw => atoms_spec (ws := fx_l yX4_ferry cX4_ferry 4 (some .int)) B.pre w (List.mem_cons_of_mem _ hw), hE, hSt, hinj⟩
  have hS : va_S (fx_A 22 am s.heap.size) s.heap s.heap [] := va_S.rf
  have hl := lv_entry ([.ref (am 0), .int a, .int b]) (n := 4) (Nat.le_of_ble_eq_true rfl)
  rw [lg_entry_eq]
  generalize (lg_sl ([.ref (am 0), .int a, .int b]) ++ List.replicate (4 - (lg_sl ([.ref (am 0), .int a, .int b])).length) Slot.unset).toArray = ls at hl ⊢
  have hl : lv_has ls 4 [(0, .ref (am 0)), (1, .int a), (2, .int b)] := hl
  refine lv_aload_n hx hb dX4_ferry_0 rfl (lv_at hl 0 rfl) ?_
  refine lv_iload_n hx hb dX4_ferry_1 rfl (lv_at hl 1 rfl) ?_
  refine lv_aload_n hx hb dX4_ferry_2 rfl (lv_at hl 0 rfl) ?_
  refine mg_hour K hP dX4_ferry_3 ?_
  refine lv_iconst (v := 1) hx hb dX4_ferry_6 (by decide) ?_
  refine lv_iadd hx hb dX4_ferry_7 ?_
  refine lv_topi (fun v1 e1 => ?_)
  refine lv_sipush (v := 10000) hx hb dX4_ferry_8 (by decide) ?_
  refine m_callb (rest := []) K hP hS (c_X4_in l Z am hinj h a v1 10000) ok_X4_80 rfl ⟨Nat.le_of_ble_eq_true rfl, Nat.le_of_ble_eq_true rfl⟩ rfl hl.1 (Nat.le_of_ble_eq_true rfl) ⟨Nat.le_of_ble_eq_true rfl, Nat.le_of_ble_eq_true rfl⟩ dX4_ferry_11 (fun c2 H locs hP hS => ?_) (fun c2 H locs hP hS => ?_)
  · refine lv_if_eq (tgt := 32) hx hb dX4_ferry_14 (by decide) (fun c3 => absurd c3 (by decide)) (fun _ => ?_)
    refine lv_aload_n hx hb dX4_ferry_17 rfl (lv_at hl 0 rfl) ?_
    refine lv_iload_n hx hb dX4_ferry_18 rfl (lv_at hl 2 rfl) ?_
    refine lv_iconst (v := 1) hx hb dX4_ferry_19 (by decide) ?_
    refine lv_bipush (v := 10) hx hb dX4_ferry_20 (by decide) ?_
    refine m_callb (rest := []) K hP hS (c_X4_in l Z am hinj h b 1 10) ok_X4_80 rfl ⟨Nat.le_of_ble_eq_true rfl, Nat.le_of_ble_eq_true rfl⟩ rfl hl.1 (Nat.le_of_ble_eq_true rfl) ⟨Nat.le_of_ble_eq_true rfl, Nat.le_of_ble_eq_true rfl⟩ dX4_ferry_22 (fun c4 H locs hP hS => ?_) (fun c4 H locs hP hS => ?_)
    · exact absurd hbad (by rw [e1] at *; simp_all)
    · refine lv_if_eq (tgt := 32) hx hb dX4_ferry_25 (by decide) (fun _ => ?_) (fun c5 => absurd (by decide) c5)
      refine lv_iconst (v := 0) hx hb dX4_ferry_32 (by decide) ?_
      refine lv_istore_n (lv' := [(3, .int 0), (0, .ref (am 0)), (1, .int a), (2, .int b)]) hx hb dX4_ferry_33 rfl hl (by decide) rfl (fun ls hl => ?_)
      refine lv_aload_n hx hb dX4_ferry_34 rfl (lv_at hl 1 rfl) ?_
      refine lv_iload_n hx hb dX4_ferry_35 rfl (lv_at hl 0 rfl) ?_
      refine lv_if_ne (tgt := 43) hx hb dX4_ferry_36 (by decide) (fun c6 => absurd (by decide) c6) (fun _ => ?_)
      refine lv_iconst (v := 1) hx hb dX4_ferry_39 (by decide) ?_
      refine lv_goto (tgt := 57) hx hb dX4_ferry_40 (by decide) ?_
      refine m_callt (rest := []) K hP hS (c_X4_holds l Z am hinj h 1) ok_X4_87 rfl ⟨Nat.le_of_ble_eq_true rfl, Nat.le_of_ble_eq_true rfl⟩ rfl hl.1 (Nat.le_of_ble_eq_true rfl) ⟨Nat.le_of_ble_eq_true rfl, Nat.le_of_ble_eq_true rfl⟩ dX4_ferry_57 (by decide) (fun H locs hP hS => ?_)
      obtain ⟨h7, e7⟩ : ∃ z : St, z = (u2 h 0 3 1) := ⟨_, rfl⟩
      rw [← e7] at hP
      refine lv_if_eq (tgt := 65) hx hb dX4_ferry_60 (by decide) (fun c8 => absurd c8 (by decide)) (fun _ => ?_)
      refine lv_iconst (v := (-1)) hx hb dX4_ferry_63 (by decide) ?_
      exact fx_reti hx hb hr hlocks hP hS (Nat.le_of_ble_eq_true rfl) (Nat.le_of_ble_eq_true rfl) dX4_ferry_64 ⟨rfl, e7⟩
  · refine lv_if_eq (tgt := 32) hx hb dX4_ferry_14 (by decide) (fun _ => ?_) (fun c9 => absurd (by decide) c9)
    refine lv_iconst (v := 0) hx hb dX4_ferry_32 (by decide) ?_
    refine lv_istore_n (lv' := [(3, .int 0), (0, .ref (am 0)), (1, .int a), (2, .int b)]) hx hb dX4_ferry_33 rfl hl (by decide) rfl (fun ls hl => ?_)
    refine lv_aload_n hx hb dX4_ferry_34 rfl (lv_at hl 1 rfl) ?_
    refine lv_iload_n hx hb dX4_ferry_35 rfl (lv_at hl 0 rfl) ?_
    refine lv_if_ne (tgt := 43) hx hb dX4_ferry_36 (by decide) (fun c10 => absurd (by decide) c10) (fun _ => ?_)
    refine lv_iconst (v := 1) hx hb dX4_ferry_39 (by decide) ?_
    refine lv_goto (tgt := 57) hx hb dX4_ferry_40 (by decide) ?_
    refine m_callt (rest := []) K hP hS (c_X4_holds l Z am hinj h 1) ok_X4_87 rfl ⟨Nat.le_of_ble_eq_true rfl, Nat.le_of_ble_eq_true rfl⟩ rfl hl.1 (Nat.le_of_ble_eq_true rfl) ⟨Nat.le_of_ble_eq_true rfl, Nat.le_of_ble_eq_true rfl⟩ dX4_ferry_57 (by decide) (fun H locs hP hS => ?_)
    obtain ⟨h11, e11⟩ : ∃ z : St, z = (u2 h 0 3 1) := ⟨_, rfl⟩
    rw [← e11] at hP
    refine lv_if_eq (tgt := 65) hx hb dX4_ferry_60 (by decide) (fun c12 => absurd c12 (by decide)) (fun _ => ?_)
    refine lv_iconst (v := (-1)) hx hb dX4_ferry_63 (by decide) ?_
    exact fx_reti hx hb hr hlocks hP hS (Nat.le_of_ble_eq_true rfl) (Nat.le_of_ble_eq_true rfl) dX4_ferry_64 ⟨rfl, e11⟩

set_option maxHeartbeats 4000000 in
set_option maxRecDepth 100000 in
theorem c_X4_ferry_2 (l : Launch) (Z : fx_Z) (am : Nat → Nat) (hinj : fx_inj 22 am) (h : St) (a : Int32) (b : Int32) (h1 : h 0 2 + 1 ≤ a ∧ a ≤ 10000) (h2 : 1 ≤ b ∧ b ≤ 10) (hfc : h 0 1 = 20) : fx_C l Z yX4_ferry cX4_ferry 4 (some .int) 1 23 0 0 22 am (mF am (Z.2.1 0)) h [.ref (am 0), .int a, .int b] (pI (-1) (u2 h 0 3 2)) (fun _ => False) := by
  intro sz
  refine vx_ofW (cc := cX4_ferry) (maxL := 4) (ret := (some .int)) (by decide) rfl ?_
  intro p e s m args below meth c s₁ B hml hout hv
  obtain ⟨rfl, hsz, hP, hE, hSt⟩ := hv
  subst hsz
  have hx := B.exec
  have hb := B.bytes
  have hr := B.returns
  have hown : s.vm.findClass RX4 = some m.cls := findClass_of_methodNamed B.named
  have hlocks := B.notSynchronized
  have K : m_K p s m ([.ref (am 0), .int a, .int b] : List Value).toArray c cX4_ferry 4 Z am := ⟨hx, hb, hml, hown, fun w hw => atoms_spec (ws := fx_l yX4_ferry cX4_ferry 4 (some .int)) B.pre w (List.mem_cons_of_mem _ hw), hE, hSt, hinj⟩
  have hS : va_S (fx_A 22 am s.heap.size) s.heap s.heap [] := va_S.rf
  have hl := lv_entry ([.ref (am 0), .int a, .int b]) (n := 4) (Nat.le_of_ble_eq_true rfl)
  rw [lg_entry_eq]
  generalize (lg_sl ([.ref (am 0), .int a, .int b]) ++ List.replicate (4 - (lg_sl ([.ref (am 0), .int a, .int b])).length) Slot.unset).toArray = ls at hl ⊢
  have hl : lv_has ls 4 [(0, .ref (am 0)), (1, .int a), (2, .int b)] := hl
  refine lv_aload_n hx hb dX4_ferry_0 rfl (lv_at hl 0 rfl) ?_
  refine lv_iload_n hx hb dX4_ferry_1 rfl (lv_at hl 1 rfl) ?_
  refine lv_aload_n hx hb dX4_ferry_2 rfl (lv_at hl 0 rfl) ?_
  refine mg_hour K hP dX4_ferry_3 ?_
  refine lv_iconst (v := 1) hx hb dX4_ferry_6 (by decide) ?_
  refine lv_iadd hx hb dX4_ferry_7 ?_
  refine lv_topi (fun v1 e1 => ?_)
  refine lv_sipush (v := 10000) hx hb dX4_ferry_8 (by decide) ?_
  refine m_callt (rest := []) K hP hS (c_X4_in l Z am hinj h a v1 10000) ok_X4_80 rfl ⟨Nat.le_of_ble_eq_true rfl, Nat.le_of_ble_eq_true rfl⟩ rfl hl.1 (Nat.le_of_ble_eq_true rfl) ⟨Nat.le_of_ble_eq_true rfl, Nat.le_of_ble_eq_true rfl⟩ dX4_ferry_11 (by rw [e1]; exact h1) (fun H locs hP hS => ?_)
  refine lv_if_eq (tgt := 32) hx hb dX4_ferry_14 (by decide) (fun c2 => absurd c2 (by decide)) (fun _ => ?_)
  refine lv_aload_n hx hb dX4_ferry_17 rfl (lv_at hl 0 rfl) ?_
  refine lv_iload_n hx hb dX4_ferry_18 rfl (lv_at hl 2 rfl) ?_
  refine lv_iconst (v := 1) hx hb dX4_ferry_19 (by decide) ?_
  refine lv_bipush (v := 10) hx hb dX4_ferry_20 (by decide) ?_
  refine m_callt (rest := []) K hP hS (c_X4_in l Z am hinj h b 1 10) ok_X4_80 rfl ⟨Nat.le_of_ble_eq_true rfl, Nat.le_of_ble_eq_true rfl⟩ rfl hl.1 (Nat.le_of_ble_eq_true rfl) ⟨Nat.le_of_ble_eq_true rfl, Nat.le_of_ble_eq_true rfl⟩ dX4_ferry_22 h2 (fun H locs hP hS => ?_)
  refine lv_if_eq (tgt := 32) hx hb dX4_ferry_25 (by decide) (fun c3 => absurd c3 (by decide)) (fun _ => ?_)
  refine lv_iconst (v := 1) hx hb dX4_ferry_28 (by decide) ?_
  refine lv_goto (tgt := 33) hx hb dX4_ferry_29 (by decide) ?_
  refine lv_istore_n (lv' := [(3, .int 1), (0, .ref (am 0)), (1, .int a), (2, .int b)]) hx hb dX4_ferry_33 rfl hl (by decide) rfl (fun ls hl => ?_)
  refine lv_aload_n hx hb dX4_ferry_34 rfl (lv_at hl 1 rfl) ?_
  refine lv_iload_n hx hb dX4_ferry_35 rfl (lv_at hl 0 rfl) ?_
  refine lv_if_ne (tgt := 43) hx hb dX4_ferry_36 (by decide) (fun _ => ?_) (fun c4 => absurd c4 (by decide))
  refine lv_aload_n hx hb dX4_ferry_43 rfl (lv_at hl 1 rfl) ?_
  refine mg_ferries K hP dX4_ferry_44 ?_
  refine lv_bipush (v := 20) hx hb dX4_ferry_47 (by decide) ?_
  refine lv_icmp_ne (tgt := 56) hx hb dX4_ferry_49 (by decide) (fun c5 => absurd hfc c5) (fun _ => ?_)
  refine lv_iconst (v := 2) hx hb dX4_ferry_52 (by decide) ?_
  refine lv_goto (tgt := 57) hx hb dX4_ferry_53 (by decide) ?_
  refine m_callt (rest := []) K hP hS (c_X4_holds l Z am hinj h 2) ok_X4_87 rfl ⟨Nat.le_of_ble_eq_true rfl, Nat.le_of_ble_eq_true rfl⟩ rfl hl.1 (Nat.le_of_ble_eq_true rfl) ⟨Nat.le_of_ble_eq_true rfl, Nat.le_of_ble_eq_true rfl⟩ dX4_ferry_57 (by decide) (fun H locs hP hS => ?_)
  obtain ⟨h6, e6⟩ : ∃ z : St, z = (u2 h 0 3 2) := ⟨_, rfl⟩
  rw [← e6] at hP
  refine lv_if_eq (tgt := 65) hx hb dX4_ferry_60 (by decide) (fun c7 => absurd c7 (by decide)) (fun _ => ?_)
  refine lv_iconst (v := (-1)) hx hb dX4_ferry_63 (by decide) ?_
  exact fx_reti hx hb hr hlocks hP hS (Nat.le_of_ble_eq_true rfl) (Nat.le_of_ble_eq_true rfl) dX4_ferry_64 ⟨rfl, e6⟩

set_option maxHeartbeats 4000000 in
set_option maxRecDepth 100000 in
theorem c_X4_check_0t (l : Launch) (Z : fx_Z) (am : Nat → Nat) (hinj : fx_inj 22 am) (h : St) (rc : Nat) (i : Nat) (b : Int32) (hi : i < rc) (hrc : h 0 0 = nI rc) (hr6 : rc ≤ 60) (h7 : h 7 i = 1) (hb1 : ¬ b = 0) : fx_C l Z yX4_check cX4_check 4 (some .int) 2 44 0 0 22 am (mF am (Z.2.1 0)) h [.ref (am 0), .int (nI i), .int b] (pI (h 7 i) (u2 h 0 3 0)) (fun _ => False) := by
  intro sz
  refine vx_ofW (cc := cX4_check) (maxL := 4) (ret := (some .int)) (by decide) rfl ?_
  intro p e s m args below meth c s₁ B hml hout hv
  obtain ⟨rfl, hsz, hP, hE, hSt⟩ := hv
  subst hsz
  have hx := B.exec
  have hb := B.bytes
  have hr := B.returns
  have hown : s.vm.findClass RX4 = some m.cls := findClass_of_methodNamed B.named
  have hlocks := B.notSynchronized
  have K : m_K p s m ([.ref (am 0), .int (nI i), .int b] : List Value).toArray c cX4_check 4 Z am := ⟨hx, hb, hml, hown, fun w hw => atoms_spec (ws := fx_l yX4_check cX4_check 4 (some .int)) B.pre w (List.mem_cons_of_mem _ hw), hE, hSt, hinj⟩
  have hS : va_S (fx_A 22 am s.heap.size) s.heap s.heap [] := va_S.rf
  have hl := lv_entry ([.ref (am 0), .int (nI i), .int b]) (n := 4) (Nat.le_of_ble_eq_true rfl)
  rw [lg_entry_eq]
  generalize (lg_sl ([.ref (am 0), .int (nI i), .int b]) ++ List.replicate (4 - (lg_sl ([.ref (am 0), .int (nI i), .int b])).length) Slot.unset).toArray = ls at hl ⊢
  have hl : lv_has ls 4 [(0, .ref (am 0)), (1, .int (nI i)), (2, .int b)] := hl
  refine lv_aload_n hx hb dX4_check_0 rfl (lv_at hl 0 rfl) ?_
  refine lv_iload_n hx hb dX4_check_1 rfl (lv_at hl 1 rfl) ?_
  refine m_callt (rest := []) K hP hS (c_X4_isReceipt l Z am hinj h (nI i)) ok_X4_94 rfl ⟨Nat.le_of_ble_eq_true rfl, Nat.le_of_ble_eq_true rfl⟩ rfl hl.1 (Nat.le_of_ble_eq_true rfl) ⟨Nat.le_of_ble_eq_true rfl, Nat.le_of_ble_eq_true rfl⟩ dX4_check_2 (isR_t hrc hr6 hi) (fun H locs hP hS => ?_)
  refine lv_istore_n (lv' := [(3, .int 1), (0, .ref (am 0)), (1, .int (nI i)), (2, .int b)]) hx hb dX4_check_5 rfl hl (by decide) rfl (fun ls hl => ?_)
  refine lv_aload_n hx hb dX4_check_6 rfl (lv_at hl 1 rfl) ?_
  refine lv_iload_n hx hb dX4_check_7 rfl (lv_at hl 0 rfl) ?_
  refine lv_if_ne (tgt := 15) hx hb dX4_check_8 (by decide) (fun _ => ?_) (fun c1 => absurd c1 (by decide))
  refine lv_aload_n hx hb dX4_check_15 rfl (lv_at hl 1 rfl) ?_
  refine mg_rk K hP dX4_check_16 ?_
  refine lv_iload_n hx hb dX4_check_19 rfl (lv_at hl 2 rfl) ?_
  refine mr_ald K hP (by decide) (by decide) (n := 60) rfl (by omega) (by decide) dX4_check_20 ?_
  refine lv_iconst (v := 1) hx hb dX4_check_21 (by decide) ?_
  refine lv_icmp_eq (tgt := 29) hx hb dX4_check_22 (by decide) (fun _ => ?_) (fun c2 => absurd h7 c2)
  refine lv_iconst (v := 0) hx hb dX4_check_29 (by decide) ?_
  refine m_callf (rest := []) K hP hS (c_X4_holds l Z am hinj h 0) ok_X4_87 rfl ⟨Nat.le_of_ble_eq_true rfl, Nat.le_of_ble_eq_true rfl⟩ rfl hl.1 (Nat.le_of_ble_eq_true rfl) ⟨Nat.le_of_ble_eq_true rfl, Nat.le_of_ble_eq_true rfl⟩ dX4_check_30 (by decide) (fun H locs hP hS => ?_)
  obtain ⟨h3, e3⟩ : ∃ z : St, z = (u2 h 0 3 0) := ⟨_, rfl⟩
  rw [← e3] at hP
  refine lv_if_eq (tgt := 38) hx hb dX4_check_33 (by decide) (fun _ => ?_) (fun c4 => absurd (by decide) c4)
  refine lv_iload_n hx hb dX4_check_38 rfl (lv_at hl 3 rfl) ?_
  refine lv_if_ne (tgt := 72) hx hb dX4_check_39 (by decide) (fun _ => ?_) (fun c5 => absurd c5 hb1)
  refine lv_aload_n hx hb dX4_check_72 rfl (lv_at hl 1 rfl) ?_
  refine mg_rk K hP dX4_check_73 ?_
  refine lv_iload_n hx hb dX4_check_76 rfl (lv_at hl 2 rfl) ?_
  refine mr_ald K hP (by decide) (by decide) (n := 60) rfl (by omega) (by decide) dX4_check_77 ?_
  rw [show h3 7 i = h 7 i from by rw [e3, u2_off _ _ (by omega)]]
  exact fx_reti hx hb hr hlocks hP hS (Nat.le_of_ble_eq_true rfl) (Nat.le_of_ble_eq_true rfl) dX4_check_78 ⟨rfl, by simp only [e3]⟩

set_option maxHeartbeats 4000000 in
set_option maxRecDepth 100000 in
theorem c_X4_check_0f (l : Launch) (Z : fx_Z) (am : Nat → Nat) (hinj : fx_inj 22 am) (h : St) (rc : Nat) (t : Nat) (i : Nat) (b : Int32) (hi : i < rc) (hrc : h 0 0 = nI rc) (hr6 : rc ≤ 60) (ht : h 3 i = nI t) (ht9 : t < 10) (h7 : h 7 i = 1) (hb1 : b = 0) : fx_C l Z yX4_check cX4_check 4 (some .int) 2 44 0 0 22 am (mF am (Z.2.1 0)) h [.ref (am 0), .int (nI i), .int b] (pI 3 (u2 (u2 (u2 (u2 h 0 3 0) 7 i 3) 8 i (-1)) 19 t ((h 19 t) + 50))) (fun _ => False) := by
  intro sz
  refine vx_ofW (cc := cX4_check) (maxL := 4) (ret := (some .int)) (by decide) rfl ?_
  intro p e s m args below meth c s₁ B hml hout hv
  obtain ⟨rfl, hsz, hP, hE, hSt⟩ := hv
  subst hsz
  have hx := B.exec
  have hb := B.bytes
  have hr := B.returns
  have hown : s.vm.findClass RX4 = some m.cls := findClass_of_methodNamed B.named
  have hlocks := B.notSynchronized
  have K : m_K p s m ([.ref (am 0), .int (nI i), .int b] : List Value).toArray c cX4_check 4 Z am := ⟨hx, hb, hml, hown, fun w hw => atoms_spec (ws := fx_l yX4_check cX4_check 4 (some .int)) B.pre w (List.mem_cons_of_mem _ hw), hE, hSt, hinj⟩
  have hS : va_S (fx_A 22 am s.heap.size) s.heap s.heap [] := va_S.rf
  have hl := lv_entry ([.ref (am 0), .int (nI i), .int b]) (n := 4) (Nat.le_of_ble_eq_true rfl)
  rw [lg_entry_eq]
  generalize (lg_sl ([.ref (am 0), .int (nI i), .int b]) ++ List.replicate (4 - (lg_sl ([.ref (am 0), .int (nI i), .int b])).length) Slot.unset).toArray = ls at hl ⊢
  have hl : lv_has ls 4 [(0, .ref (am 0)), (1, .int (nI i)), (2, .int b)] := hl
  refine lv_aload_n hx hb dX4_check_0 rfl (lv_at hl 0 rfl) ?_
  refine lv_iload_n hx hb dX4_check_1 rfl (lv_at hl 1 rfl) ?_
  refine m_callt (rest := []) K hP hS (c_X4_isReceipt l Z am hinj h (nI i)) ok_X4_94 rfl ⟨Nat.le_of_ble_eq_true rfl, Nat.le_of_ble_eq_true rfl⟩ rfl hl.1 (Nat.le_of_ble_eq_true rfl) ⟨Nat.le_of_ble_eq_true rfl, Nat.le_of_ble_eq_true rfl⟩ dX4_check_2 (isR_t hrc hr6 hi) (fun H locs hP hS => ?_)
  refine lv_istore_n (lv' := [(3, .int 1), (0, .ref (am 0)), (1, .int (nI i)), (2, .int b)]) hx hb dX4_check_5 rfl hl (by decide) rfl (fun ls hl => ?_)
  refine lv_aload_n hx hb dX4_check_6 rfl (lv_at hl 1 rfl) ?_
  refine lv_iload_n hx hb dX4_check_7 rfl (lv_at hl 0 rfl) ?_
  refine lv_if_ne (tgt := 15) hx hb dX4_check_8 (by decide) (fun _ => ?_) (fun c1 => absurd c1 (by decide))
  refine lv_aload_n hx hb dX4_check_15 rfl (lv_at hl 1 rfl) ?_
  refine mg_rk K hP dX4_check_16 ?_
  refine lv_iload_n hx hb dX4_check_19 rfl (lv_at hl 2 rfl) ?_
  refine mr_ald K hP (by decide) (by decide) (n := 60) rfl (by omega) (by decide) dX4_check_20 ?_
  refine lv_iconst (v := 1) hx hb dX4_check_21 (by decide) ?_
  refine lv_icmp_eq (tgt := 29) hx hb dX4_check_22 (by decide) (fun _ => ?_) (fun c2 => absurd h7 c2)
  refine lv_iconst (v := 0) hx hb dX4_check_29 (by decide) ?_
  refine m_callf (rest := []) K hP hS (c_X4_holds l Z am hinj h 0) ok_X4_87 rfl ⟨Nat.le_of_ble_eq_true rfl, Nat.le_of_ble_eq_true rfl⟩ rfl hl.1 (Nat.le_of_ble_eq_true rfl) ⟨Nat.le_of_ble_eq_true rfl, Nat.le_of_ble_eq_true rfl⟩ dX4_check_30 (by decide) (fun H locs hP hS => ?_)
  obtain ⟨h3, e3⟩ : ∃ z : St, z = (u2 h 0 3 0) := ⟨_, rfl⟩
  rw [← e3] at hP
  refine lv_if_eq (tgt := 38) hx hb dX4_check_33 (by decide) (fun _ => ?_) (fun c4 => absurd (by decide) c4)
  refine lv_iload_n hx hb dX4_check_38 rfl (lv_at hl 3 rfl) ?_
  refine lv_if_ne (tgt := 72) hx hb dX4_check_39 (by decide) (fun c5 => absurd hb1 c5) (fun _ => ?_)
  refine lv_aload_n hx hb dX4_check_42 rfl (lv_at hl 1 rfl) ?_
  refine mg_rk K hP dX4_check_43 ?_
  refine lv_iload_n hx hb dX4_check_46 rfl (lv_at hl 2 rfl) ?_
  refine lv_iconst (v := 3) hx hb dX4_check_47 (by decide) ?_
  refine mr_ast K hP hS (by decide) (by decide) (n := 60) rfl (by omega) (by decide) dX4_check_48 (fun h6 H locs e6 hP hS => ?_)
  refine lv_aload_n hx hb dX4_check_49 rfl (lv_at hl 1 rfl) ?_
  refine mg_rf K hP dX4_check_50 ?_
  refine lv_iload_n hx hb dX4_check_53 rfl (lv_at hl 2 rfl) ?_
  refine lv_iconst (v := (-1)) hx hb dX4_check_54 (by decide) ?_
  refine mr_ast K hP hS (by decide) (by decide) (n := 60) rfl (by omega) (by decide) dX4_check_55 (fun h7 H locs e7 hP hS => ?_)
  refine lv_aload_n hx hb dX4_check_56 rfl (lv_at hl 1 rfl) ?_
  refine mg_fine K hP dX4_check_57 ?_
  refine lv_aload_n hx hb dX4_check_60 rfl (lv_at hl 1 rfl) ?_
  refine mg_rt K hP dX4_check_61 ?_
  refine lv_iload_n hx hb dX4_check_64 rfl (lv_at hl 2 rfl) ?_
  refine mr_ald K hP (by decide) (by decide) (n := 60) rfl (by omega) (by decide) dX4_check_65 ?_
  rw [show h7 3 i = h 3 i from by rw [e7, u2_off _ _ (by omega), e6, u2_off _ _ (by omega), e3, u2_off _ _ (by omega)]]
  rw [ht]
  refine lv_dup2_11 hx hb dX4_check_66 rfl rfl ?_
  refine mr_ald K hP (by decide) (by decide) (n := 10) rfl (by omega) (by decide) dX4_check_67 ?_
  rw [show h7 19 t = h 19 t from by rw [e7, u2_off _ _ (by omega), e6, u2_off _ _ (by omega), e3, u2_off _ _ (by omega)]]
  refine lv_bipush (v := 50) hx hb dX4_check_68 (by decide) ?_
  refine lv_iadd hx hb dX4_check_70 ?_
  refine lv_topi (fun v8 e8 => ?_)
  refine mr_ast K hP hS (by decide) (by decide) (n := 10) rfl (by omega) (by decide) dX4_check_71 (fun h9 H locs e9 hP hS => ?_)
  refine lv_aload_n hx hb dX4_check_72 rfl (lv_at hl 1 rfl) ?_
  refine mg_rk K hP dX4_check_73 ?_
  refine lv_iload_n hx hb dX4_check_76 rfl (lv_at hl 2 rfl) ?_
  refine mr_ald K hP (by decide) (by decide) (n := 60) rfl (by omega) (by decide) dX4_check_77 ?_
  rw [show h9 7 i = 3 from by rw [e9, u2_off _ _ (by omega), e7, u2_off _ _ (by omega), e6, u2_self]]
  exact fx_reti hx hb hr hlocks hP hS (Nat.le_of_ble_eq_true rfl) (Nat.le_of_ble_eq_true rfl) dX4_check_78 ⟨rfl, by simp only [e3, e6, e7, e8, e9]⟩

set_option maxHeartbeats 4000000 in
set_option maxRecDepth 100000 in
theorem c_X4_check_1 (l : Launch) (Z : fx_Z) (am : Nat → Nat) (hinj : fx_inj 22 am) (h : St) (rc : Nat) (r : Int32) (b : Int32) (hrc : h 0 0 = nI rc) (hr6 : rc ≤ 60) (hbr : bad r rc) : fx_C l Z yX4_check cX4_check 4 (some .int) 2 44 0 0 22 am (mF am (Z.2.1 0)) h [.ref (am 0), .int r, .int b] (pI (-1) (u2 h 0 3 1)) (fun _ => False) := by
  intro sz
  refine vx_ofW (cc := cX4_check) (maxL := 4) (ret := (some .int)) (by decide) rfl ?_
  intro p e s m args below meth c s₁ B hml hout hv
  obtain ⟨rfl, hsz, hP, hE, hSt⟩ := hv
  subst hsz
  have hx := B.exec
  have hb := B.bytes
  have hr := B.returns
  have hown : s.vm.findClass RX4 = some m.cls := findClass_of_methodNamed B.named
  have hlocks := B.notSynchronized
  have K : m_K p s m ([.ref (am 0), .int r, .int b] : List Value).toArray c cX4_check 4 Z am := ⟨hx, hb, hml, hown, fun w hw => atoms_spec (ws := fx_l yX4_check cX4_check 4 (some .int)) B.pre w (List.mem_cons_of_mem _ hw), hE, hSt, hinj⟩
  have hS : va_S (fx_A 22 am s.heap.size) s.heap s.heap [] := va_S.rf
  have hl := lv_entry ([.ref (am 0), .int r, .int b]) (n := 4) (Nat.le_of_ble_eq_true rfl)
  rw [lg_entry_eq]
  generalize (lg_sl ([.ref (am 0), .int r, .int b]) ++ List.replicate (4 - (lg_sl ([.ref (am 0), .int r, .int b])).length) Slot.unset).toArray = ls at hl ⊢
  have hl : lv_has ls 4 [(0, .ref (am 0)), (1, .int r), (2, .int b)] := hl
  refine lv_aload_n hx hb dX4_check_0 rfl (lv_at hl 0 rfl) ?_
  refine lv_iload_n hx hb dX4_check_1 rfl (lv_at hl 1 rfl) ?_
  refine m_callf (rest := []) K hP hS (c_X4_isReceipt l Z am hinj h r) ok_X4_94 rfl ⟨Nat.le_of_ble_eq_true rfl, Nat.le_of_ble_eq_true rfl⟩ rfl hl.1 (Nat.le_of_ble_eq_true rfl) ⟨Nat.le_of_ble_eq_true rfl, Nat.le_of_ble_eq_true rfl⟩ dX4_check_2 (isR_f hrc hr6 hbr) (fun H locs hP hS => ?_)
  refine lv_istore_n (lv' := [(3, .int 0), (0, .ref (am 0)), (1, .int r), (2, .int b)]) hx hb dX4_check_5 rfl hl (by decide) rfl (fun ls hl => ?_)
  refine lv_aload_n hx hb dX4_check_6 rfl (lv_at hl 1 rfl) ?_
  refine lv_iload_n hx hb dX4_check_7 rfl (lv_at hl 0 rfl) ?_
  refine lv_if_ne (tgt := 15) hx hb dX4_check_8 (by decide) (fun c1 => absurd (by decide) c1) (fun _ => ?_)
  refine lv_iconst (v := 1) hx hb dX4_check_11 (by decide) ?_
  refine lv_goto (tgt := 30) hx hb dX4_check_12 (by decide) ?_
  refine m_callt (rest := []) K hP hS (c_X4_holds l Z am hinj h 1) ok_X4_87 rfl ⟨Nat.le_of_ble_eq_true rfl, Nat.le_of_ble_eq_true rfl⟩ rfl hl.1 (Nat.le_of_ble_eq_true rfl) ⟨Nat.le_of_ble_eq_true rfl, Nat.le_of_ble_eq_true rfl⟩ dX4_check_30 (by decide) (fun H locs hP hS => ?_)
  obtain ⟨h2, e2⟩ : ∃ z : St, z = (u2 h 0 3 1) := ⟨_, rfl⟩
  rw [← e2] at hP
  refine lv_if_eq (tgt := 38) hx hb dX4_check_33 (by decide) (fun c3 => absurd c3 (by decide)) (fun _ => ?_)
  refine lv_iconst (v := (-1)) hx hb dX4_check_36 (by decide) ?_
  exact fx_reti hx hb hr hlocks hP hS (Nat.le_of_ble_eq_true rfl) (Nat.le_of_ble_eq_true rfl) dX4_check_37 ⟨rfl, e2⟩

set_option maxHeartbeats 4000000 in
set_option maxRecDepth 100000 in
theorem c_X4_check_2 (l : Launch) (Z : fx_Z) (am : Nat → Nat) (hinj : fx_inj 22 am) (h : St) (rc : Nat) (i : Nat) (b : Int32) (hi : i < rc) (hrc : h 0 0 = nI rc) (hr6 : rc ≤ 60) (h7 : ¬ h 7 i = 1) : fx_C l Z yX4_check cX4_check 4 (some .int) 2 44 0 0 22 am (mF am (Z.2.1 0)) h [.ref (am 0), .int (nI i), .int b] (pI (-1) (u2 h 0 3 2)) (fun _ => False) := by
  intro sz
  refine vx_ofW (cc := cX4_check) (maxL := 4) (ret := (some .int)) (by decide) rfl ?_
  intro p e s m args below meth c s₁ B hml hout hv
  obtain ⟨rfl, hsz, hP, hE, hSt⟩ := hv
  subst hsz
  have hx := B.exec
  have hb := B.bytes
  have hr := B.returns
  have hown : s.vm.findClass RX4 = some m.cls := findClass_of_methodNamed B.named
  have hlocks := B.notSynchronized
  have K : m_K p s m ([.ref (am 0), .int (nI i), .int b] : List Value).toArray c cX4_check 4 Z am := ⟨hx, hb, hml, hown, fun w hw => atoms_spec (ws := fx_l yX4_check cX4_check 4 (some .int)) B.pre w (List.mem_cons_of_mem _ hw), hE, hSt, hinj⟩
  have hS : va_S (fx_A 22 am s.heap.size) s.heap s.heap [] := va_S.rf
  have hl := lv_entry ([.ref (am 0), .int (nI i), .int b]) (n := 4) (Nat.le_of_ble_eq_true rfl)
  rw [lg_entry_eq]
  generalize (lg_sl ([.ref (am 0), .int (nI i), .int b]) ++ List.replicate (4 - (lg_sl ([.ref (am 0), .int (nI i), .int b])).length) Slot.unset).toArray = ls at hl ⊢
  have hl : lv_has ls 4 [(0, .ref (am 0)), (1, .int (nI i)), (2, .int b)] := hl
  refine lv_aload_n hx hb dX4_check_0 rfl (lv_at hl 0 rfl) ?_
  refine lv_iload_n hx hb dX4_check_1 rfl (lv_at hl 1 rfl) ?_
  refine m_callt (rest := []) K hP hS (c_X4_isReceipt l Z am hinj h (nI i)) ok_X4_94 rfl ⟨Nat.le_of_ble_eq_true rfl, Nat.le_of_ble_eq_true rfl⟩ rfl hl.1 (Nat.le_of_ble_eq_true rfl) ⟨Nat.le_of_ble_eq_true rfl, Nat.le_of_ble_eq_true rfl⟩ dX4_check_2 (isR_t hrc hr6 hi) (fun H locs hP hS => ?_)
  refine lv_istore_n (lv' := [(3, .int 1), (0, .ref (am 0)), (1, .int (nI i)), (2, .int b)]) hx hb dX4_check_5 rfl hl (by decide) rfl (fun ls hl => ?_)
  refine lv_aload_n hx hb dX4_check_6 rfl (lv_at hl 1 rfl) ?_
  refine lv_iload_n hx hb dX4_check_7 rfl (lv_at hl 0 rfl) ?_
  refine lv_if_ne (tgt := 15) hx hb dX4_check_8 (by decide) (fun _ => ?_) (fun c1 => absurd c1 (by decide))
  refine lv_aload_n hx hb dX4_check_15 rfl (lv_at hl 1 rfl) ?_
  refine mg_rk K hP dX4_check_16 ?_
  refine lv_iload_n hx hb dX4_check_19 rfl (lv_at hl 2 rfl) ?_
  refine mr_ald K hP (by decide) (by decide) (n := 60) rfl (by omega) (by decide) dX4_check_20 ?_
  refine lv_iconst (v := 1) hx hb dX4_check_21 (by decide) ?_
  refine lv_icmp_eq (tgt := 29) hx hb dX4_check_22 (by decide) (fun c2 => absurd c2 h7) (fun _ => ?_)
  refine lv_iconst (v := 2) hx hb dX4_check_25 (by decide) ?_
  refine lv_goto (tgt := 30) hx hb dX4_check_26 (by decide) ?_
  refine m_callt (rest := []) K hP hS (c_X4_holds l Z am hinj h 2) ok_X4_87 rfl ⟨Nat.le_of_ble_eq_true rfl, Nat.le_of_ble_eq_true rfl⟩ rfl hl.1 (Nat.le_of_ble_eq_true rfl) ⟨Nat.le_of_ble_eq_true rfl, Nat.le_of_ble_eq_true rfl⟩ dX4_check_30 (by decide) (fun H locs hP hS => ?_)
  obtain ⟨h3, e3⟩ : ∃ z : St, z = (u2 h 0 3 2) := ⟨_, rfl⟩
  rw [← e3] at hP
  refine lv_if_eq (tgt := 38) hx hb dX4_check_33 (by decide) (fun c4 => absurd c4 (by decide)) (fun _ => ?_)
  refine lv_iconst (v := (-1)) hx hb dX4_check_36 (by decide) ?_
  exact fx_reti hx hb hr hlocks hP hS (Nat.le_of_ble_eq_true rfl) (Nat.le_of_ble_eq_true rfl) dX4_check_37 ⟨rfl, e3⟩

set_option maxHeartbeats 4000000 in
set_option maxRecDepth 100000 in
theorem c_X4_comeBack_0 (l : Launch) (Z : fx_Z) (am : Nat → Nat) (hinj : fx_inj 22 am) (h : St) (t : Nat) (ht9 : t < 10) (hg : ¬ h 16 t = 0) : fx_C l Z yX4_comeBack cX4_comeBack 3 (some .int) 1 23 0 0 22 am (mF am (Z.2.1 0)) h [.ref (am 0), .int (nI t)] (pI (h 17 t) (u2 (u2 h 0 3 0) 16 t 0)) (fun _ => False) := by
  intro sz
  refine vx_ofW (cc := cX4_comeBack) (maxL := 3) (ret := (some .int)) (by decide) rfl ?_
  intro p e s m args below meth c s₁ B hml hout hv
  obtain ⟨rfl, hsz, hP, hE, hSt⟩ := hv
  subst hsz
  have hx := B.exec
  have hb := B.bytes
  have hr := B.returns
  have hown : s.vm.findClass RX4 = some m.cls := findClass_of_methodNamed B.named
  have hlocks := B.notSynchronized
  have K : m_K p s m ([.ref (am 0), .int (nI t)] : List Value).toArray c cX4_comeBack 3 Z am := ⟨hx, hb, hml, hown, fun w hw => atoms_spec (ws := fx_l yX4_comeBack cX4_comeBack 3 (some .int)) B.pre w (List.mem_cons_of_mem _ hw), hE, hSt, hinj⟩
  have hS : va_S (fx_A 22 am s.heap.size) s.heap s.heap [] := va_S.rf
  have hl := lv_entry ([.ref (am 0), .int (nI t)]) (n := 3) (Nat.le_of_ble_eq_true rfl)
  rw [lg_entry_eq]
  generalize (lg_sl ([.ref (am 0), .int (nI t)]) ++ List.replicate (3 - (lg_sl ([.ref (am 0), .int (nI t)])).length) Slot.unset).toArray = ls at hl ⊢
  have hl : lv_has ls 3 [(0, .ref (am 0)), (1, .int (nI t))] := hl
  refine lv_aload_n hx hb dX4_comeBack_0 rfl (lv_at hl 0 rfl) ?_
  refine lv_iload_n hx hb dX4_comeBack_1 rfl (lv_at hl 1 rfl) ?_
  refine lv_iconst (v := 0) hx hb dX4_comeBack_2 (by decide) ?_
  refine lv_bipush (v := 9) hx hb dX4_comeBack_3 (by decide) ?_
  refine m_callt (rest := []) K hP hS (c_X4_in l Z am hinj h (nI t) 0 9) ok_X4_80 rfl ⟨Nat.le_of_ble_eq_true rfl, Nat.le_of_ble_eq_true rfl⟩ rfl hl.1 (Nat.le_of_ble_eq_true rfl) ⟨Nat.le_of_ble_eq_true rfl, Nat.le_of_ble_eq_true rfl⟩ dX4_comeBack_5 (ix9 ht9) (fun H locs hP hS => ?_)
  refine lv_istore_n (lv' := [(2, .int 1), (0, .ref (am 0)), (1, .int (nI t))]) hx hb dX4_comeBack_8 rfl hl (by decide) rfl (fun ls hl => ?_)
  refine lv_aload_n hx hb dX4_comeBack_9 rfl (lv_at hl 1 rfl) ?_
  refine lv_iload_n hx hb dX4_comeBack_10 rfl (lv_at hl 0 rfl) ?_
  refine lv_if_ne (tgt := 18) hx hb dX4_comeBack_11 (by decide) (fun _ => ?_) (fun c1 => absurd c1 (by decide))
  refine lv_aload_n hx hb dX4_comeBack_18 rfl (lv_at hl 1 rfl) ?_
  refine mg_gone K hP dX4_comeBack_19 ?_
  refine lv_iload_n hx hb dX4_comeBack_22 rfl (lv_at hl 2 rfl) ?_
  refine mr_ald K hP (by decide) (by decide) (n := 10) rfl (by omega) (by decide) dX4_comeBack_23 ?_
  refine lv_if_ne (tgt := 31) hx hb dX4_comeBack_24 (by decide) (fun _ => ?_) (fun c2 => absurd c2 hg)
  refine lv_iconst (v := 0) hx hb dX4_comeBack_31 (by decide) ?_
  refine m_callf (rest := []) K hP hS (c_X4_holds l Z am hinj h 0) ok_X4_87 rfl ⟨Nat.le_of_ble_eq_true rfl, Nat.le_of_ble_eq_true rfl⟩ rfl hl.1 (Nat.le_of_ble_eq_true rfl) ⟨Nat.le_of_ble_eq_true rfl, Nat.le_of_ble_eq_true rfl⟩ dX4_comeBack_32 (by decide) (fun H locs hP hS => ?_)
  obtain ⟨h3, e3⟩ : ∃ z : St, z = (u2 h 0 3 0) := ⟨_, rfl⟩
  rw [← e3] at hP
  refine lv_if_eq (tgt := 40) hx hb dX4_comeBack_35 (by decide) (fun _ => ?_) (fun c4 => absurd (by decide) c4)
  refine lv_aload_n hx hb dX4_comeBack_40 rfl (lv_at hl 1 rfl) ?_
  refine mg_gone K hP dX4_comeBack_41 ?_
  refine lv_iload_n hx hb dX4_comeBack_44 rfl (lv_at hl 2 rfl) ?_
  refine lv_iconst (v := 0) hx hb dX4_comeBack_45 (by decide) ?_
  refine mr_ast K hP hS (by decide) (by decide) (n := 10) rfl (by omega) (by decide) dX4_comeBack_46 (fun h5 H locs e5 hP hS => ?_)
  refine lv_aload_n hx hb dX4_comeBack_47 rfl (lv_at hl 1 rfl) ?_
  refine mg_often K hP dX4_comeBack_48 ?_
  refine lv_iload_n hx hb dX4_comeBack_51 rfl (lv_at hl 2 rfl) ?_
  refine mr_ald K hP (by decide) (by decide) (n := 10) rfl (by omega) (by decide) dX4_comeBack_52 ?_
  rw [show h5 17 t = h 17 t from by rw [e5, u2_off _ _ (by omega), e3, u2_off _ _ (by omega)]]
  exact fx_reti hx hb hr hlocks hP hS (Nat.le_of_ble_eq_true rfl) (Nat.le_of_ble_eq_true rfl) dX4_comeBack_53 ⟨rfl, by simp only [e3, e5]⟩

set_option maxHeartbeats 4000000 in
set_option maxRecDepth 100000 in
theorem c_X4_comeBack_1 (l : Launch) (Z : fx_Z) (am : Nat → Nat) (hinj : fx_inj 22 am) (h : St) (t : Int32) (ht : bad t 10) : fx_C l Z yX4_comeBack cX4_comeBack 3 (some .int) 1 23 0 0 22 am (mF am (Z.2.1 0)) h [.ref (am 0), .int t] (pI (-1) (u2 h 0 3 1)) (fun _ => False) := by
  intro sz
  refine vx_ofW (cc := cX4_comeBack) (maxL := 3) (ret := (some .int)) (by decide) rfl ?_
  intro p e s m args below meth c s₁ B hml hout hv
  obtain ⟨rfl, hsz, hP, hE, hSt⟩ := hv
  subst hsz
  have hx := B.exec
  have hb := B.bytes
  have hr := B.returns
  have hown : s.vm.findClass RX4 = some m.cls := findClass_of_methodNamed B.named
  have hlocks := B.notSynchronized
  have K : m_K p s m ([.ref (am 0), .int t] : List Value).toArray c cX4_comeBack 3 Z am := ⟨hx, hb, hml, hown, fun w hw => atoms_spec (ws := fx_l yX4_comeBack cX4_comeBack 3 (some .int)) B.pre w (List.mem_cons_of_mem _ hw), hE, hSt, hinj⟩
  have hS : va_S (fx_A 22 am s.heap.size) s.heap s.heap [] := va_S.rf
  have hl := lv_entry ([.ref (am 0), .int t]) (n := 3) (Nat.le_of_ble_eq_true rfl)
  rw [lg_entry_eq]
  generalize (lg_sl ([.ref (am 0), .int t]) ++ List.replicate (3 - (lg_sl ([.ref (am 0), .int t])).length) Slot.unset).toArray = ls at hl ⊢
  have hl : lv_has ls 3 [(0, .ref (am 0)), (1, .int t)] := hl
  refine lv_aload_n hx hb dX4_comeBack_0 rfl (lv_at hl 0 rfl) ?_
  refine lv_iload_n hx hb dX4_comeBack_1 rfl (lv_at hl 1 rfl) ?_
  refine lv_iconst (v := 0) hx hb dX4_comeBack_2 (by decide) ?_
  refine lv_bipush (v := 9) hx hb dX4_comeBack_3 (by decide) ?_
  refine m_callf (rest := []) K hP hS (c_X4_in l Z am hinj h t 0 9) ok_X4_80 rfl ⟨Nat.le_of_ble_eq_true rfl, Nat.le_of_ble_eq_true rfl⟩ rfl hl.1 (Nat.le_of_ble_eq_true rfl) ⟨Nat.le_of_ble_eq_true rfl, Nat.le_of_ble_eq_true rfl⟩ dX4_comeBack_5 (nix9 ht) (fun H locs hP hS => ?_)
  refine lv_istore_n (lv' := [(2, .int 0), (0, .ref (am 0)), (1, .int t)]) hx hb dX4_comeBack_8 rfl hl (by decide) rfl (fun ls hl => ?_)
  refine lv_aload_n hx hb dX4_comeBack_9 rfl (lv_at hl 1 rfl) ?_
  refine lv_iload_n hx hb dX4_comeBack_10 rfl (lv_at hl 0 rfl) ?_
  refine lv_if_ne (tgt := 18) hx hb dX4_comeBack_11 (by decide) (fun c1 => absurd (by decide) c1) (fun _ => ?_)
  refine lv_iconst (v := 1) hx hb dX4_comeBack_14 (by decide) ?_
  refine lv_goto (tgt := 32) hx hb dX4_comeBack_15 (by decide) ?_
  refine m_callt (rest := []) K hP hS (c_X4_holds l Z am hinj h 1) ok_X4_87 rfl ⟨Nat.le_of_ble_eq_true rfl, Nat.le_of_ble_eq_true rfl⟩ rfl hl.1 (Nat.le_of_ble_eq_true rfl) ⟨Nat.le_of_ble_eq_true rfl, Nat.le_of_ble_eq_true rfl⟩ dX4_comeBack_32 (by decide) (fun H locs hP hS => ?_)
  obtain ⟨h2, e2⟩ : ∃ z : St, z = (u2 h 0 3 1) := ⟨_, rfl⟩
  rw [← e2] at hP
  refine lv_if_eq (tgt := 40) hx hb dX4_comeBack_35 (by decide) (fun c3 => absurd c3 (by decide)) (fun _ => ?_)
  refine lv_iconst (v := (-1)) hx hb dX4_comeBack_38 (by decide) ?_
  exact fx_reti hx hb hr hlocks hP hS (Nat.le_of_ble_eq_true rfl) (Nat.le_of_ble_eq_true rfl) dX4_comeBack_39 ⟨rfl, e2⟩

set_option maxHeartbeats 4000000 in
set_option maxRecDepth 100000 in
theorem c_X4_comeBack_2 (l : Launch) (Z : fx_Z) (am : Nat → Nat) (hinj : fx_inj 22 am) (h : St) (t : Nat) (ht9 : t < 10) (hg : h 16 t = 0) : fx_C l Z yX4_comeBack cX4_comeBack 3 (some .int) 1 23 0 0 22 am (mF am (Z.2.1 0)) h [.ref (am 0), .int (nI t)] (pI (-1) (u2 h 0 3 2)) (fun _ => False) := by
  intro sz
  refine vx_ofW (cc := cX4_comeBack) (maxL := 3) (ret := (some .int)) (by decide) rfl ?_
  intro p e s m args below meth c s₁ B hml hout hv
  obtain ⟨rfl, hsz, hP, hE, hSt⟩ := hv
  subst hsz
  have hx := B.exec
  have hb := B.bytes
  have hr := B.returns
  have hown : s.vm.findClass RX4 = some m.cls := findClass_of_methodNamed B.named
  have hlocks := B.notSynchronized
  have K : m_K p s m ([.ref (am 0), .int (nI t)] : List Value).toArray c cX4_comeBack 3 Z am := ⟨hx, hb, hml, hown, fun w hw => atoms_spec (ws := fx_l yX4_comeBack cX4_comeBack 3 (some .int)) B.pre w (List.mem_cons_of_mem _ hw), hE, hSt, hinj⟩
  have hS : va_S (fx_A 22 am s.heap.size) s.heap s.heap [] := va_S.rf
  have hl := lv_entry ([.ref (am 0), .int (nI t)]) (n := 3) (Nat.le_of_ble_eq_true rfl)
  rw [lg_entry_eq]
  generalize (lg_sl ([.ref (am 0), .int (nI t)]) ++ List.replicate (3 - (lg_sl ([.ref (am 0), .int (nI t)])).length) Slot.unset).toArray = ls at hl ⊢
  have hl : lv_has ls 3 [(0, .ref (am 0)), (1, .int (nI t))] := hl
  refine lv_aload_n hx hb dX4_comeBack_0 rfl (lv_at hl 0 rfl) ?_
  refine lv_iload_n hx hb dX4_comeBack_1 rfl (lv_at hl 1 rfl) ?_
  refine lv_iconst (v := 0) hx hb dX4_comeBack_2 (by decide) ?_
  refine lv_bipush (v := 9) hx hb dX4_comeBack_3 (by decide) ?_
  refine m_callt (rest := []) K hP hS (c_X4_in l Z am hinj h (nI t) 0 9) ok_X4_80 rfl ⟨Nat.le_of_ble_eq_true rfl, Nat.le_of_ble_eq_true rfl⟩ rfl hl.1 (Nat.le_of_ble_eq_true rfl) ⟨Nat.le_of_ble_eq_true rfl, Nat.le_of_ble_eq_true rfl⟩ dX4_comeBack_5 (ix9 ht9) (fun H locs hP hS => ?_)
  refine lv_istore_n (lv' := [(2, .int 1), (0, .ref (am 0)), (1, .int (nI t))]) hx hb dX4_comeBack_8 rfl hl (by decide) rfl (fun ls hl => ?_)
  refine lv_aload_n hx hb dX4_comeBack_9 rfl (lv_at hl 1 rfl) ?_
  refine lv_iload_n hx hb dX4_comeBack_10 rfl (lv_at hl 0 rfl) ?_
  refine lv_if_ne (tgt := 18) hx hb dX4_comeBack_11 (by decide) (fun _ => ?_) (fun c1 => absurd c1 (by decide))
  refine lv_aload_n hx hb dX4_comeBack_18 rfl (lv_at hl 1 rfl) ?_
  refine mg_gone K hP dX4_comeBack_19 ?_
  refine lv_iload_n hx hb dX4_comeBack_22 rfl (lv_at hl 2 rfl) ?_
  refine mr_ald K hP (by decide) (by decide) (n := 10) rfl (by omega) (by decide) dX4_comeBack_23 ?_
  refine lv_if_ne (tgt := 31) hx hb dX4_comeBack_24 (by decide) (fun c2 => absurd hg c2) (fun _ => ?_)
  refine lv_iconst (v := 2) hx hb dX4_comeBack_27 (by decide) ?_
  refine lv_goto (tgt := 32) hx hb dX4_comeBack_28 (by decide) ?_
  refine m_callt (rest := []) K hP hS (c_X4_holds l Z am hinj h 2) ok_X4_87 rfl ⟨Nat.le_of_ble_eq_true rfl, Nat.le_of_ble_eq_true rfl⟩ rfl hl.1 (Nat.le_of_ble_eq_true rfl) ⟨Nat.le_of_ble_eq_true rfl, Nat.le_of_ble_eq_true rfl⟩ dX4_comeBack_32 (by decide) (fun H locs hP hS => ?_)
  obtain ⟨h3, e3⟩ : ∃ z : St, z = (u2 h 0 3 2) := ⟨_, rfl⟩
  rw [← e3] at hP
  refine lv_if_eq (tgt := 40) hx hb dX4_comeBack_35 (by decide) (fun c4 => absurd c4 (by decide)) (fun _ => ?_)
  refine lv_iconst (v := (-1)) hx hb dX4_comeBack_38 (by decide) ?_
  exact fx_reti hx hb hr hlocks hP hS (Nat.le_of_ble_eq_true rfl) (Nat.le_of_ble_eq_true rfl) dX4_comeBack_39 ⟨rfl, e3⟩

