/-! ===== the model's methods ===== -/
def pI (r : Int32) (G : St) : Option Value → St → Prop := fun v u => v = some (.int r) ∧ u = G
def pV (G : St) : Option Value → St → Prop := fun v u => v = none ∧ u = G
section FXM2
variable {p : Program} {l : Launch} {e : Env} {R : Room} {s : State} {m : MethodId} {args : Array Value} {below : List Frame} {meth : Method} {c : Code} {H : Heap} {locs : List Loc} {cells slots : Nat} {Q : State → Prop}
variable {Z : fx_Z} {am : Nat → Nat} {cc : ByteArray} {pc nL : Nat} {ls : Array Slot} {rest : List Value} {h : St}
variable {fr lo maxL n idx : Nat} {y : MethodName} {bytes : ByteArray} {ret : Option FieldType} {As st0 : List Value}
theorem m_calli {r : Int32} {G : St} (K : m_K p s m args c cc nL Z am) (hP : va_P Z.1 vwCl (iw 22 (mF am (Z.2.1 0) h)) H) (hS : va_S (fx_A 22 am s.heap.size) s.heap H locs)
    (hM : fx_C l Z y bytes maxL ret fr lo 0 0 22 am (mF am (Z.2.1 0)) h (.ref (am 0) :: As) (pI r G) (fun _ => False)) (hok : fx_ok RX4 idx RX4 y bytes maxL ret n) (hst0 : st0 = As.reverse ++ .ref (am 0) :: rest)
    (hroom : fr + 1 ≤ R.frames ∧ 8 + (maxL + 11) + lo ≤ R.locals) (hn : As.length = n) (hsize : ls.size = nL) (hrest : (rest.map fun v => v.category).sum ≤ 8) (hcap : cells + 0 ≤ R.cells ∧ slots + 0 ≤ R.slots) (hdg : decode cc pc = .ok (.invokevirtual idx, 3))
    (kk : ∀ (H1 : Heap) (locs1 : List Loc), va_P Z.1 vwCl (iw 22 (mF am (Z.2.1 0) G)) H1 → va_S (fx_A 22 am s.heap.size) s.heap H1 locs1 → W p l e R s m args below meth c H1 locs1 cells slots Q (F0 m (pc + 3) ls (.int r :: rest))) :
    W p l e R s m args below meth c H locs cells slots Q (F0 m pc ls st0) := by
  have hrecv := m_recv K hP
  obtain ⟨hx, hb, hml, hown, hT, hE, hSt, hinj⟩ := K
  refine fx_callV hx hb hml hown hT hE hSt (fun k hk => m_A hk) m_A2 hP hS hM hok hrecv hst0 hroom hn hsize hrest hcap hdg (fun _ _ _ _ _ hf => hf.elim) (fun v u H1 locs1 hp hP1 hS1 _ _ => ?_)
  obtain ⟨rfl, rfl⟩ := hp
  exact kk H1 locs1 hP1 hS1
theorem m_callv {G : St} (K : m_K p s m args c cc nL Z am) (hP : va_P Z.1 vwCl (iw 22 (mF am (Z.2.1 0) h)) H) (hS : va_S (fx_A 22 am s.heap.size) s.heap H locs)
    (hM : fx_C l Z y bytes maxL ret fr lo 0 0 22 am (mF am (Z.2.1 0)) h (.ref (am 0) :: As) (pV G) (fun _ => False)) (hok : fx_ok RX4 idx RX4 y bytes maxL ret n) (hst0 : st0 = As.reverse ++ .ref (am 0) :: rest)
    (hroom : fr + 1 ≤ R.frames ∧ 8 + (maxL + 11) + lo ≤ R.locals) (hn : As.length = n) (hsize : ls.size = nL) (hrest : (rest.map fun v => v.category).sum ≤ 8) (hcap : cells + 0 ≤ R.cells ∧ slots + 0 ≤ R.slots) (hdg : decode cc pc = .ok (.invokevirtual idx, 3))
    (kk : ∀ (H1 : Heap) (locs1 : List Loc), va_P Z.1 vwCl (iw 22 (mF am (Z.2.1 0) G)) H1 → va_S (fx_A 22 am s.heap.size) s.heap H1 locs1 → W p l e R s m args below meth c H1 locs1 cells slots Q (F0 m (pc + 3) ls rest)) :
    W p l e R s m args below meth c H locs cells slots Q (F0 m pc ls st0) := by
  have hrecv := m_recv K hP
  obtain ⟨hx, hb, hml, hown, hT, hE, hSt, hinj⟩ := K
  refine fx_callV hx hb hml hown hT hE hSt (fun k hk => m_A hk) m_A2 hP hS hM hok hrecv hst0 hroom hn hsize hrest hcap hdg (fun _ _ _ _ _ hf => hf.elim) (fun v u H1 locs1 hp hP1 hS1 _ _ => ?_)
  obtain ⟨rfl, rfl⟩ := hp
  exact kk H1 locs1 hP1 hS1
theorem m_callb {B : Prop} [Decidable B] {G : St} (K : m_K p s m args c cc nL Z am) (hP : va_P Z.1 vwCl (iw 22 (mF am (Z.2.1 0) h)) H) (hS : va_S (fx_A 22 am s.heap.size) s.heap H locs)
    (hM : fx_C l Z y bytes maxL ret fr lo 0 0 22 am (mF am (Z.2.1 0)) h (.ref (am 0) :: As) (pI (if B then 1 else 0) G) (fun _ => False)) (hok : fx_ok RX4 idx RX4 y bytes maxL ret n) (hst0 : st0 = As.reverse ++ .ref (am 0) :: rest)
    (hroom : fr + 1 ≤ R.frames ∧ 8 + (maxL + 11) + lo ≤ R.locals) (hn : As.length = n) (hsize : ls.size = nL) (hrest : (rest.map fun v => v.category).sum ≤ 8) (hcap : cells + 0 ≤ R.cells ∧ slots + 0 ≤ R.slots) (hdg : decode cc pc = .ok (.invokevirtual idx, 3))
    (kt : B → ∀ (H1 : Heap) (locs1 : List Loc), va_P Z.1 vwCl (iw 22 (mF am (Z.2.1 0) G)) H1 → va_S (fx_A 22 am s.heap.size) s.heap H1 locs1 → W p l e R s m args below meth c H1 locs1 cells slots Q (F0 m (pc + 3) ls (.int 1 :: rest)))
    (kf : ¬ B → ∀ (H1 : Heap) (locs1 : List Loc), va_P Z.1 vwCl (iw 22 (mF am (Z.2.1 0) G)) H1 → va_S (fx_A 22 am s.heap.size) s.heap H1 locs1 → W p l e R s m args below meth c H1 locs1 cells slots Q (F0 m (pc + 3) ls (.int 0 :: rest))) :
    W p l e R s m args below meth c H locs cells slots Q (F0 m pc ls st0) := by
  refine m_calli K hP hS hM hok hst0 hroom hn hsize hrest hcap hdg (fun H1 locs1 hP1 hS1 => ?_)
  by_cases hB : B
  · rw [if_pos hB]; exact kt hB H1 locs1 hP1 hS1
  · rw [if_neg hB]; exact kf hB H1 locs1 hP1 hS1
theorem m_callt {B : Prop} [Decidable B] {G : St} (K : m_K p s m args c cc nL Z am) (hP : va_P Z.1 vwCl (iw 22 (mF am (Z.2.1 0) h)) H) (hS : va_S (fx_A 22 am s.heap.size) s.heap H locs)
    (hM : fx_C l Z y bytes maxL ret fr lo 0 0 22 am (mF am (Z.2.1 0)) h (.ref (am 0) :: As) (pI (if B then 1 else 0) G) (fun _ => False)) (hok : fx_ok RX4 idx RX4 y bytes maxL ret n) (hst0 : st0 = As.reverse ++ .ref (am 0) :: rest)
    (hroom : fr + 1 ≤ R.frames ∧ 8 + (maxL + 11) + lo ≤ R.locals) (hn : As.length = n) (hsize : ls.size = nL) (hrest : (rest.map fun v => v.category).sum ≤ 8) (hcap : cells + 0 ≤ R.cells ∧ slots + 0 ≤ R.slots) (hdg : decode cc pc = .ok (.invokevirtual idx, 3)) (hB : B)
    (kt : ∀ (H1 : Heap) (locs1 : List Loc), va_P Z.1 vwCl (iw 22 (mF am (Z.2.1 0) G)) H1 → va_S (fx_A 22 am s.heap.size) s.heap H1 locs1 → W p l e R s m args below meth c H1 locs1 cells slots Q (F0 m (pc + 3) ls (.int 1 :: rest))) :
    W p l e R s m args below meth c H locs cells slots Q (F0 m pc ls st0) :=
  m_callb K hP hS hM hok hst0 hroom hn hsize hrest hcap hdg (fun _ => kt) (fun h => absurd hB h)
theorem m_callf {B : Prop} [Decidable B] {G : St} (K : m_K p s m args c cc nL Z am) (hP : va_P Z.1 vwCl (iw 22 (mF am (Z.2.1 0) h)) H) (hS : va_S (fx_A 22 am s.heap.size) s.heap H locs)
    (hM : fx_C l Z y bytes maxL ret fr lo 0 0 22 am (mF am (Z.2.1 0)) h (.ref (am 0) :: As) (pI (if B then 1 else 0) G) (fun _ => False)) (hok : fx_ok RX4 idx RX4 y bytes maxL ret n) (hst0 : st0 = As.reverse ++ .ref (am 0) :: rest)
    (hroom : fr + 1 ≤ R.frames ∧ 8 + (maxL + 11) + lo ≤ R.locals) (hn : As.length = n) (hsize : ls.size = nL) (hrest : (rest.map fun v => v.category).sum ≤ 8) (hcap : cells + 0 ≤ R.cells ∧ slots + 0 ≤ R.slots) (hdg : decode cc pc = .ok (.invokevirtual idx, 3)) (hB : ¬ B)
    (kt : ∀ (H1 : Heap) (locs1 : List Loc), va_P Z.1 vwCl (iw 22 (mF am (Z.2.1 0) G)) H1 → va_S (fx_A 22 am s.heap.size) s.heap H1 locs1 → W p l e R s m args below meth c H1 locs1 cells slots Q (F0 m (pc + 3) ls (.int 0 :: rest))) :
    W p l e R s m args below meth c H locs cells slots Q (F0 m pc ls st0) :=
  m_callb K hP hS hM hok hst0 hroom hn hsize hrest hcap hdg (fun h => absurd h hB) (fun _ => kt)
end FXM2

set_option maxHeartbeats 4000000 in
set_option maxRecDepth 100000 in
theorem c_X4_in (l : Launch) (Z : fx_Z) (am : Nat → Nat) (hinj : fx_inj 22 am) (h : St) (v : Int32) (a : Int32) (b : Int32) : fx_C l Z yX4_in cX4_in 4 (some .boolean) 0 0 0 0 22 am (mF am (Z.2.1 0)) h [.ref (am 0), .int v, .int a, .int b] (pI (if a ≤ v ∧ v ≤ b then 1 else 0) h) (fun _ => False) := by
  intro sz
  refine vx_ofW (cc := cX4_in) (maxL := 4) (ret := (some .boolean)) (by decide) rfl ?_
  intro p e s m args below meth c s₁ B hml hout hv
  obtain ⟨rfl, hsz, hP, hE, hSt⟩ := hv
  subst hsz
  have hx := B.exec
  have hb := B.bytes
  have hr := B.returns
  have hown : s.vm.findClass RX4 = some m.cls := findClass_of_methodNamed B.named
  have hlocks := B.notSynchronized
  have K : m_K p s m ([.ref (am 0), .int v, .int a, .int b] : List Value).toArray c cX4_in 4 Z am := ⟨hx, hb, hml, hown, fun w hw => atoms_spec (ws := fx_l yX4_in cX4_in 4 (some .boolean)) B.pre w (List.mem_cons_of_mem _ hw), hE, hSt, hinj⟩
  have hS : va_S (fx_A 22 am s.heap.size) s.heap s.heap [] := va_S.rf
  have hl := lv_entry ([.ref (am 0), .int v, .int a, .int b]) (n := 4) (Nat.le_of_ble_eq_true rfl)
  rw [lg_entry_eq]
  generalize (lg_sl ([.ref (am 0), .int v, .int a, .int b]) ++ List.replicate (4 - (lg_sl ([.ref (am 0), .int v, .int a, .int b])).length) Slot.unset).toArray = ls at hl ⊢
  have hl : lv_has ls 4 [(0, .ref (am 0)), (1, .int v), (2, .int a), (3, .int b)] := hl
  refine lv_iload_n hx hb dX4_in_0 rfl (lv_at hl 1 rfl) ?_
  refine lv_iload_n hx hb dX4_in_1 rfl (lv_at hl 2 rfl) ?_
  refine lv_icmp_lt (tgt := 14) hx hb dX4_in_2 (by decide) (fun c1 => ?_) (fun c1 => ?_)
  · refine lv_iconst (v := 0) hx hb dX4_in_14 (by decide) ?_
    exact fx_retz hx hb hr hlocks rfl hP hS (Nat.le_of_ble_eq_true rfl) (Nat.le_of_ble_eq_true rfl) dX4_in_15 ⟨by grind, rfl⟩
  · refine lv_iload_n hx hb dX4_in_5 rfl (lv_at hl 1 rfl) ?_
    refine lv_iload_n hx hb dX4_in_6 rfl (lv_at hl 3 rfl) ?_
    refine lv_icmp_gt (tgt := 14) hx hb dX4_in_7 (by decide) (fun c2 => ?_) (fun c2 => ?_)
    · refine lv_iconst (v := 0) hx hb dX4_in_14 (by decide) ?_
      exact fx_retz hx hb hr hlocks rfl hP hS (Nat.le_of_ble_eq_true rfl) (Nat.le_of_ble_eq_true rfl) dX4_in_15 ⟨by grind, rfl⟩
    · refine lv_iconst (v := 1) hx hb dX4_in_10 (by decide) ?_
      refine lv_goto (tgt := 15) hx hb dX4_in_11 (by decide) ?_
      exact fx_retz hx hb hr hlocks rfl hP hS (Nat.le_of_ble_eq_true rfl) (Nat.le_of_ble_eq_true rfl) dX4_in_15 ⟨by grind, rfl⟩

set_option maxHeartbeats 4000000 in
set_option maxRecDepth 100000 in
theorem c_X4_holds (l : Launch) (Z : fx_Z) (am : Nat → Nat) (hinj : fx_inj 22 am) (h : St) (v : Int32) : fx_C l Z yX4_holds cX4_holds 2 (some .boolean) 0 0 0 0 22 am (mF am (Z.2.1 0)) h [.ref (am 0), .int v] (pI (if 0 < v then 1 else 0) (u2 h 0 3 v)) (fun _ => False) := by
  intro sz
  refine vx_ofW (cc := cX4_holds) (maxL := 2) (ret := (some .boolean)) (by decide) rfl ?_
  intro p e s m args below meth c s₁ B hml hout hv
  obtain ⟨rfl, hsz, hP, hE, hSt⟩ := hv
  subst hsz
  have hx := B.exec
  have hb := B.bytes
  have hr := B.returns
  have hown : s.vm.findClass RX4 = some m.cls := findClass_of_methodNamed B.named
  have hlocks := B.notSynchronized
  have K : m_K p s m ([.ref (am 0), .int v] : List Value).toArray c cX4_holds 2 Z am := ⟨hx, hb, hml, hown, fun w hw => atoms_spec (ws := fx_l yX4_holds cX4_holds 2 (some .boolean)) B.pre w (List.mem_cons_of_mem _ hw), hE, hSt, hinj⟩
  have hS : va_S (fx_A 22 am s.heap.size) s.heap s.heap [] := va_S.rf
  have hl := lv_entry ([.ref (am 0), .int v]) (n := 2) (Nat.le_of_ble_eq_true rfl)
  rw [lg_entry_eq]
  generalize (lg_sl ([.ref (am 0), .int v]) ++ List.replicate (2 - (lg_sl ([.ref (am 0), .int v])).length) Slot.unset).toArray = ls at hl ⊢
  have hl : lv_has ls 2 [(0, .ref (am 0)), (1, .int v)] := hl
  refine lv_aload_n hx hb dX4_holds_0 rfl (lv_at hl 0 rfl) ?_
  refine lv_iload_n hx hb dX4_holds_1 rfl (lv_at hl 1 rfl) ?_
  refine mp_thrown K hP hS dX4_holds_2 (fun h1 H locs e1 hP hS => ?_)
  refine lv_iload_n hx hb dX4_holds_5 rfl (lv_at hl 1 rfl) ?_
  refine lv_if_le (tgt := 13) hx hb dX4_holds_6 (by decide) (fun c2 => ?_) (fun c2 => ?_)
  · refine lv_iconst (v := 0) hx hb dX4_holds_13 (by decide) ?_
    exact fx_retz hx hb hr hlocks rfl hP hS (Nat.le_of_ble_eq_true rfl) (Nat.le_of_ble_eq_true rfl) dX4_holds_14 ⟨by grind, e1⟩
  · refine lv_iconst (v := 1) hx hb dX4_holds_9 (by decide) ?_
    refine lv_goto (tgt := 14) hx hb dX4_holds_10 (by decide) ?_
    exact fx_retz hx hb hr hlocks rfl hP hS (Nat.le_of_ble_eq_true rfl) (Nat.le_of_ble_eq_true rfl) dX4_holds_14 ⟨by grind, e1⟩

