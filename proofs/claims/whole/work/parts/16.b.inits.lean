/-! ===== the class's constructors ===== -/
theorem va_D_map {A : Nat → Prop} {ws ws' : va_W} (h : ws.map Prod.fst = ws'.map Prod.fst) (hD : va_D A ws) : va_D A ws' := by
  have key : ∀ (k : Nat) (q : Nat × va_E), ws'[k]? = some q → ∃ q0, ws[k]? = some q0 ∧ q0.1 = q.1 := by
    intro k q hq
    have h1 : (ws'.map Prod.fst)[k]? = some q.1 := by rw [List.getElem?_map, hq]; rfl
    rw [← h, List.getElem?_map] at h1
    cases h2 : ws[k]? with
    | none => rw [h2] at h1; cases h1
    | some q0 => rw [h2] at h1; exact ⟨q0, rfl, Option.some.inj h1⟩
  refine ⟨fun i j p q hp hq e => ?_, fun k q hq => ?_⟩
  · obtain ⟨p0, h1, h2⟩ := key i p hp
    obtain ⟨q0, h3, h4⟩ := key j q hq
    exact hD.1 i j p0 q0 h1 h3 (by rw [h2, h4]; exact e)
  · obtain ⟨q0, h1, h2⟩ := key k q hq
    rw [← h2]
    exact hD.2 k q0 h1
theorem va_D_push {A : Nat → Prop} {ws : va_W} {v : Nat} {x : va_E} (hD : va_D A ws) (hv : A v) (hn : ∀ (k : Nat) (q : Nat × va_E), ws[k]? = some q → q.1 ≠ v) : va_D A (ws ++ [(v, x)]) := by
  have key : ∀ (k : Nat) (q : Nat × va_E), (ws ++ [(v, x)])[k]? = some q → (ws[k]? = some q) ∨ (k = ws.length ∧ q = (v, x)) := by
    intro k q hq
    by_cases hl : k < ws.length
    · rw [List.getElem?_append_left hl] at hq; exact Or.inl hq
    · rw [List.getElem?_append_right (by omega)] at hq
      have hz : k - ws.length < 1 := (List.getElem?_eq_some_iff.mp hq).1
      rw [show k - ws.length = 0 by omega] at hq
      cases hq
      exact Or.inr ⟨by omega, rfl⟩
  refine ⟨fun i j p q hp hq e => ?_, fun k q hq => ?_⟩
  · rcases key i p hp with h1 | ⟨h1, rfl⟩ <;> rcases key j q hq with h2 | ⟨h2, rfl⟩
    · exact hD.1 i j p q h1 h2 e
    · exact absurd e (hn i p h1)
    · exact absurd e.symm (hn j q h2)
    · omega
  · rcases key k q hq with h1 | ⟨h1, rfl⟩
    · exact hD.2 k q h1
    · exact hv
theorem fx_tyO {Z : fx_Z} {U : State} {cA c0 : ClassId} {C : String} (k : Nat) (hk : (fx_tys Z)[k]? = some (c0, .object C)) (h : va_K Z.1 vwCl (fx_tys Z ++ [(cA, .object C)]) U) : cA = c0 := by
  have hk6 : k < 6 := (List.getElem?_eq_some_iff.mp hk).1
  obtain ⟨k1, m1, -, -, -, h1⟩ : ∃ (kA : Class) (comp : ClassId), U.vm.classes[c0]? = some kA ∧ kA.kind = .array comp (.object C) ∧ U.vm.findClass C = some comp ∧ U.vm.findClass ("[" ++ (FieldType.object C).toString) = some c0 := (h.2 k (c0, .object C) (by rw [List.getElem?_append_left hk6]; exact hk)).2
  obtain ⟨k2, m2, -, -, -, h2⟩ : ∃ (kA : Class) (comp : ClassId), U.vm.classes[cA]? = some kA ∧ kA.kind = .array comp (.object C) ∧ U.vm.findClass C = some comp ∧ U.vm.findClass ("[" ++ (FieldType.object C).toString) = some cA := (h.2 6 (cA, .object C) rfl).2
  exact Option.some.inj (h2.symm.trans h1)
abbrev e0_F : Nat → Nat × va_E := fun _ => (0, .inr (0, []))
set_option maxHeartbeats 4000000 in
set_option maxRecDepth 100000 in
theorem c_X1_init (l : Launch) (Z : fx_Z) (b : Nat) : fi_C (X := Unit) l Z yX1_init cX1_init 1 1 12 0 0 0 (fun _ => 0) e0_F [.ref b] (fun _ _ _ => True) := by
  intro sz
  refine va_MetF (cc := cX1_init) (maxL := 1) (ret := none) (by decide +kernel) rfl ?_
  intro p e s m args below meth c s₁ B hml hv
  obtain ⟨rfl, hsz, hP, hE, hSt⟩ := hv
  subst hsz
  have hx := B.exec
  have hb := B.bytes
  have hr := B.returns
  have hown : s.vm.findClass RX1 = some m.cls := findClass_of_methodNamed B.named
  have hlocks := B.notSynchronized
  have hT : ∀ w ∈ fx_ws, w.before ([.ref b] : List Value).toArray s = true := fun w hw => atoms_spec (ws := fx_l yX1_init cX1_init 1 none) B.pre w (List.mem_cons_of_mem _ hw)
  have hS : va_S (fx_A 0 (fun _ => 0) s.heap.size) s.heap s.heap [] := va_S.rf
  have hl := lv_entry ([.ref b]) (n := 1) (Nat.le_of_ble_eq_true rfl)
  rw [lg_entry_eq]
  generalize (lg_sl ([.ref b]) ++ List.replicate (1 - (lg_sl ([.ref b])).length) Slot.unset).toArray = ls at hl ⊢
  have hl : lv_has ls 1 [(0, .ref b)] := hl
  refine lv_aload_n hx hb dX1_init_0 rfl (lv_at hl 0 rfl) ?_
  refine W.objInit hx hb hown (hT (.methodLink RX1 1 objectInit) (fx_w 77 (by decide +kernel) rfl)) (hT (.instanceMethod objectInit) (fx_w 65 (by decide +kernel) rfl)) (hT _ (fx_w 66 (by decide +kernel) rfl)) rfl (by rw [hml]; exact hl.1) rfl dX1_init_1 (Nat.le_of_ble_eq_true rfl) (Nat.le_of_ble_eq_true rfl) ?_
  refine W.eq (g2 := F0 m 4 ls []) rfl ?_
  exact fi_ret (X := Unit) (P0 := fun _ _ => True) () hx hb hr hlocks hS (Nat.le_of_ble_eq_true rfl) (Nat.le_of_ble_eq_true rfl) dX1_init_4 trivial
set_option maxHeartbeats 4000000 in
set_option maxRecDepth 100000 in
theorem c_X2_init (l : Launch) (Z : fx_Z) (b : Nat) : fi_C (X := Unit) l Z yX2_init cX2_init 1 1 12 0 0 0 (fun _ => 0) e0_F [.ref b] (fun _ _ _ => True) := by
  intro sz
  refine va_MetF (cc := cX2_init) (maxL := 1) (ret := none) (by decide +kernel) rfl ?_
  intro p e s m args below meth c s₁ B hml hv
  obtain ⟨rfl, hsz, hP, hE, hSt⟩ := hv
  subst hsz
  have hx := B.exec
  have hb := B.bytes
  have hr := B.returns
  have hown : s.vm.findClass RX2 = some m.cls := findClass_of_methodNamed B.named
  have hlocks := B.notSynchronized
  have hT : ∀ w ∈ fx_ws, w.before ([.ref b] : List Value).toArray s = true := fun w hw => atoms_spec (ws := fx_l yX2_init cX2_init 1 none) B.pre w (List.mem_cons_of_mem _ hw)
  have hS : va_S (fx_A 0 (fun _ => 0) s.heap.size) s.heap s.heap [] := va_S.rf
  have hl := lv_entry ([.ref b]) (n := 1) (Nat.le_of_ble_eq_true rfl)
  rw [lg_entry_eq]
  generalize (lg_sl ([.ref b]) ++ List.replicate (1 - (lg_sl ([.ref b])).length) Slot.unset).toArray = ls at hl ⊢
  have hl : lv_has ls 1 [(0, .ref b)] := hl
  refine lv_aload_n hx hb dX2_init_0 rfl (lv_at hl 0 rfl) ?_
  refine W.objInit hx hb hown (hT (.methodLink RX2 1 objectInit) (fx_w 127 (by decide +kernel) rfl)) (hT (.instanceMethod objectInit) (fx_w 65 (by decide +kernel) rfl)) (hT _ (fx_w 66 (by decide +kernel) rfl)) rfl (by rw [hml]; exact hl.1) rfl dX2_init_1 (Nat.le_of_ble_eq_true rfl) (Nat.le_of_ble_eq_true rfl) ?_
  refine W.eq (g2 := F0 m 4 ls []) rfl ?_
  exact fi_ret (X := Unit) (P0 := fun _ _ => True) () hx hb hr hlocks hS (Nat.le_of_ble_eq_true rfl) (Nat.le_of_ble_eq_true rfl) dX2_init_4 trivial
abbrev iF_F (b : Nat) : Nat → Nat × va_E := fun _ => (b, .inr (1, [.int 0, .int 0, .null]))
def iF_P (Z : fx_Z) (b sz : Nat) : Nat → Heap → Prop := fun v H => sz ≤ v ∧ va_P Z.1 vwCl [(b, .inr (1, [.int 0, .int 0, .ref v])), (v, .inl (Z.2.1 0, 10, .inl (fun _ => 0)))] H
set_option maxHeartbeats 4000000 in
set_option maxRecDepth 100000 in
theorem c_X0_init (l : Launch) (Z : fx_Z) (b : Nat) : fi_C l Z yX0_init cX0_init 1 1 12 1 10 1 (fun _ => b) (iF_F b) [.ref b] (iF_P Z b) := by
  intro sz
  refine va_MetF (cc := cX0_init) (maxL := 1) (ret := none) (by decide +kernel) rfl ?_
  intro p e s m args below meth c s₁ B hml hv
  obtain ⟨rfl, hsz, hP, hE, hSt⟩ := hv
  subst hsz
  have hx := B.exec
  have hb := B.bytes
  have hr := B.returns
  have hown : s.vm.findClass RX0 = some m.cls := findClass_of_methodNamed B.named
  have hlocks := B.notSynchronized
  have hT : ∀ w ∈ fx_ws, w.before ([.ref b] : List Value).toArray s = true := fun w hw => atoms_spec (ws := fx_l yX0_init cX0_init 1 none) B.pre w (List.mem_cons_of_mem _ hw)
  have hS : va_S (fx_A 1 (fun _ => b) s.heap.size) s.heap s.heap [] := va_S.rf
  have hl := lv_entry ([.ref b]) (n := 1) (Nat.le_of_ble_eq_true rfl)
  rw [lg_entry_eq]
  generalize (lg_sl ([.ref b]) ++ List.replicate (1 - (lg_sl ([.ref b])).length) Slot.unset).toArray = ls at hl ⊢
  have hl : lv_has ls 1 [(0, .ref b)] := hl
  have hin : meth.name = "<init>" := (name_of_methodNamed B.named B.method).1
  have hP : va_P Z.1 vwCl [(b, .inr (1, [.int 0, .int 0, .null]))] s.heap := hP
  have hD : va_D (fx_A 1 (fun _ => b) s.heap.size) [(b, .inr (1, [.int 0, .int 0, .null]))] := fx_D (N := 1) (F := iF_F b) (ad := fun _ => b) (fun i j hi hj _ => by omega) (fun _ _ => rfl) (fun k hk => Or.inl ⟨k, hk, rfl⟩)
  have hA : ∀ q, s.heap.size ≤ q → fx_A 1 (fun _ => b) s.heap.size q := fun q h => Or.inr h
  refine lv_aload_n hx hb dX0_init_0 rfl (lv_at hl 0 rfl) ?_
  refine W.objInit hx hb hown (hT (.methodLink RX0 3 objectInit) (fx_w 111 (by decide +kernel) rfl)) (hT (.instanceMethod objectInit) (fx_w 65 (by decide +kernel) rfl)) (hT _ (fx_w 66 (by decide +kernel) rfl)) rfl (by rw [hml]; exact hl.1) rfl dX0_init_1 (Nat.le_of_ble_eq_true rfl) (Nat.le_of_ble_eq_true rfl) ?_
  refine W.eq (g2 := F0 m 4 ls []) rfl ?_
  refine lv_aload_n hx hb dX0_init_4 rfl (lv_at hl 0 rfl) ?_
  refine lv_bipush (v := 10) hx hb dX0_init_5 (by decide) ?_
  refine va_newa (atype := .int) hx hb (va_ac hE fx_wcI) (ty := .int) rfl hE.1 hP hD hS hA (N' := 10) (a0 := (10, .inl (fun _ => 0))) (fun _ => rfl) (by decide) (by decide) (by decide) (Nat.le_of_ble_eq_true rfl) (Nat.le_of_ble_eq_true rfl) dX0_init_7 (fun v cA H hK1 hP hD hS => ?_)
  have hcA := fx_tyI hK1
  subst hcA
  clear hK1
  have hP : va_P Z.1 vwCl [(b, .inr (1, [.int 0, .int 0, .null])), (v, .inl (Z.2.1 0, 10, .inl (fun _ => 0)))] H := hP
  have hD : va_D (fx_A 1 (fun _ => b) s.heap.size) [(b, .inr (1, [.int 0, .int 0, .null])), (v, .inl (Z.2.1 0, 10, .inl (fun _ => 0)))] := hD
  have hv : s.heap.size ≤ v := by
    rcases hD.2 1 (v, _) rfl with ⟨k, hk, hkb⟩ | h
    · exact absurd (hD.1 0 1 _ _ rfl rfl hkb) (by decide)
    · exact h
  refine va_putF (D := Z.1) (ci := 1) (v := .ref v) (ty := .array .int) (C := RX0) (T := TX0) (N := 3) (ref := "Ferrytax$Ferry") hx hb hT i_X0 tyX0 tyX0_ok nmX0 hown hE.1 hP hD hS 0 rfl rfl 2 (by decide) (hT (.fieldLink RX0 9 "Ferrytax$Ferry" "places" "[I") (fx_w 114 (by decide +kernel) rfl)) (fun _ h9 => h9) rfl hin rfl (by decide +kernel) rfl rfl (Nat.le_of_ble_eq_true rfl) dX0_init_9 (fun H locs hP hD hS => ?_)
  exact fi_ret (P0 := iF_P Z b s.heap.size) v hx hb hr hlocks hS (Nat.le_of_ble_eq_true rfl) (Nat.le_of_ble_eq_true rfl) dX0_init_12 ⟨hv, hP⟩
