/-! ===== constructors: the contract, the call ===== -/
def fx_postX {X : Type} (P0 : X → Heap → Prop) (A : Nat → Prop) : Array Value → State → Outcome → State → Prop := fun _ st oc t => ∃ x : X, oc = .returned none ∧ P0 x t.heap ∧ va_F A st t
def fi_C {X : Type} (l : Launch) (Z : fx_Z) (y : MethodName) (cc : ByteArray) (nL : Nat) (fr lo mc ms : Nat) (N : Nat) (ad : Nat → Nat) (F : Nat → Nat × va_E) (av : List Value) (P0 : Nat → X → Heap → Prop) : Prop :=
  ∀ sz : Nat, Met l y (fx_l y cc nL none) { frames := fr, cells := mc, slots := ms, locals := lo } (fx_pre Z N ad F av sz) (fx_postX (P0 sz) (fx_A N ad sz)) mc ms (fx_A N ad sz)
section FXI
variable {p : Program} {l : Launch} {e : Env} {R : Room} {s : State} {m : MethodId} {args : Array Value} {below : List Frame} {meth : Method} {c : Code} {H : Heap} {locs : List Loc} {cells slots : Nat} {Q : State → Prop}
variable {Z : fx_Z} {N : Nat} {ad : Nat → Nat} {cc : ByteArray} {pc nL : Nat} {ls : Array Slot} {rest : List Value}
theorem fi_back {X : Type} {P0 : X → Heap → Prop} {A : Nat → Prop} {mc ms : Nat} {a : Array Value} {st0 : List Value}
    (hr : va_Run p l e R s m args below meth c H locs cells slots mc ms (F0 m pc ls st0) rest (fx_postX P0 (fx_A N ad H.size) a) (fx_A N ad H.size))
    (hS : va_S A s.heap H locs) (hsub : ∀ q, fx_A N ad H.size q → A q)
    (kk : ∀ (x : X) (H1 : Heap) (locs1 : List Loc), P0 x H1 → va_S A s.heap H1 locs1 → H.size ≤ H1.size → (∀ q : Nat, q < H.size → ¬ fx_A N ad H.size q → H1[q]? = H[q]?) → W p l e R s m args below meth c H1 locs1 (cells + mc) (slots + ms) Q (F0 m (pc + 3) ls rest)) :
    W p l e R s m args below meth c H locs cells slots Q (F0 m pc ls st0) := by
  intro T hT X
  obtain ⟨v, st₀, t, T', L, h0, X', hL, e1, e2, ⟨x, hv, hp, hF⟩, st⟩ := hr T hT X
  cases hv
  obtain ⟨k1, k2, k3⟩ := vx_keep h0 e1 hS (fun q _ h => hsub q h) hsub hL hF
  obtain ⟨t2, a1, b1⟩ := kk x T'.heap (locs ++ L) (by rw [e1]; exact hp) k3 k1 k2 T' rfl X'
  exact ⟨t2, st t2 a1, b1⟩
theorem fi_callI {X : Type} {P0 : Nat → X → Heap → Prop} {A : Nat → Prop} {F : Nat → Nat × va_E} {fr lo mc ms : Nat} {y : MethodName} {bytes : ByteArray} {maxL n idx b : Nat} {own : String} {As : List Value} {st0 : List Value}
    (hx : p.tables.exec = Jvm.exec) (hb : c.code = cc) (hml : c.maxLocals = nL) (hown : s.vm.findClass own = some m.cls) (hT : ∀ w ∈ fx_ws, w.before args s = true) (hE : fx_E Z s) (hSt : fx_S A s s.heap)
    (hA : ∀ k, k < N → A (ad k)) (hA2 : ∀ q, s.heap.size ≤ q → A q) (hP : va_P Z.1 vwCl (iw N F) H) (hS : va_S A s.heap H locs)
    (hM : fi_C l Z y bytes maxL fr lo mc ms N ad F (.ref b :: As) P0) (hok : fj_ok own idx y bytes maxL none n) (hins : Cond.instanceMethod y ∈ fx_ws) (hin : y.name = "<init>")
    (hst0 : st0 = As.reverse ++ .ref b :: rest) (hroom : fr + 1 ≤ R.frames ∧ 8 + (maxL + 11) + lo ≤ R.locals) (hn : As.length = n) (hsize : ls.size = nL) (hrest : (rest.map fun v => v.category).sum ≤ 8)
    (hcap : cells + mc ≤ R.cells ∧ slots + ms ≤ R.slots) (hdg : decode cc pc = .ok (.invokespecial idx, 3))
    (kk : ∀ (x : X) (H1 : Heap) (locs1 : List Loc), P0 H.size x H1 → va_S A s.heap H1 locs1 → H.size ≤ H1.size → (∀ q : Nat, q < H.size → ¬ fx_A N ad H.size q → H1[q]? = H[q]?) → W p l e R s m args below meth c H1 locs1 (cells + mc) (slots + ms) Q (F0 m (pc + 3) ls rest)) :
    W p l e R s m args below meth c H locs cells slots Q (F0 m pc ls st0) := by
  have hrun := va_runI (p := p) (l := l) (e := e) (R := R) (s := s) (m := m) (args := args) (below := below) (meth := meth) (c := c) (H := H) (locs := locs) (cells := cells) (slots := slots) (rest := rest) (g := F0 m pc ls st0) (Ts := fx_ws)
    ⟨hx, hb, hml, hown, hT⟩ (hM H.size) ⟨fj_cb hT hok hroom, hin, hT _ hins⟩
    ⟨fx_blind, fun U hU hW => ⟨rfl, by rw [hU], by rw [hU]; exact hP, hE.warm hW, fx_Sat hSt hS hU hW hA hA2⟩⟩ rfl hn hsize hst0 (lv_room hrest) hdg hcap
  exact fi_back hrun hS (fx_sub hS hA hA2) kk
theorem fi_callIN {X : Type} {P0 : Nat → X → Heap → Prop} {A : Nat → Prop} {F : Nat → Nat × va_E} {fr lo mc ms : Nat} {y : MethodName} {bytes : ByteArray} {maxL n idx b : Nat} {own host : String} {As : List Value} {st0 : List Value}
    (hx : p.tables.exec = Jvm.exec) (hb : c.code = cc) (hml : c.maxLocals = nL) (hown : s.vm.findClass own = some m.cls) (hT : ∀ w ∈ fx_ws, w.before args s = true) (hE : fx_E Z s) (hSt : fx_S A s s.heap)
    (hA : ∀ k, k < N → A (ad k)) (hA2 : ∀ q, s.heap.size ≤ q → A q) (hP : va_P Z.1 vwCl (iw N F) H) (hS : va_S A s.heap H locs)
    (hM : fi_C l Z y bytes maxL fr lo mc ms N ad F (.ref b :: As) P0) (hcode : Cond.code y bytes maxL none ∈ fx_ws) (hini : Cond.initialized y.cls ∈ fx_ws) (hlink : Cond.methodLinkNest own idx y host ∈ fx_wb) (hd : y.cls ≠ "java/lang/invoke/MethodHandle" ∧ y.cls ≠ "java/lang/invoke/VarHandle" ∧ (parseMethodDescriptor y.desc).map (fun d => d.parameters.length) = some n) (hins : Cond.instanceMethod y ∈ fx_ws) (hin : y.name = "<init>")
    (hst0 : st0 = As.reverse ++ .ref b :: rest) (hroom : fr + 1 ≤ R.frames ∧ 8 + (maxL + 11) + lo ≤ R.locals) (hn : As.length = n) (hsize : ls.size = nL) (hrest : (rest.map fun v => v.category).sum ≤ 8)
    (hcap : cells + mc ≤ R.cells ∧ slots + ms ≤ R.slots) (hdg : decode cc pc = .ok (.invokespecial idx, 3))
    (kk : ∀ (x : X) (H1 : Heap) (locs1 : List Loc), P0 H.size x H1 → va_S A s.heap H1 locs1 → H.size ≤ H1.size → (∀ q : Nat, q < H.size → ¬ fx_A N ad H.size q → H1[q]? = H[q]?) → W p l e R s m args below meth c H1 locs1 (cells + mc) (slots + ms) Q (F0 m (pc + 3) ls rest)) :
    W p l e R s m args below meth c H locs cells slots Q (F0 m pc ls st0) := by
  have hrun := va_runIN (p := p) (l := l) (e := e) (R := R) (s := s) (m := m) (args := args) (below := below) (meth := meth) (c := c) (H := H) (locs := locs) (cells := cells) (slots := slots) (rest := rest) (g := F0 m pc ls st0) (Ts := fx_ws)
    ⟨hx, hb, hml, hown, hT⟩ (hM H.size) ⟨va_cnB n hT (fx_good0 hcode) rfl rfl rfl (hE.2.2.1 _ (List.mem_append_left _ hlink)) (hT _ hini) hd hroom, hin, hT _ hins⟩
    ⟨fx_blind, fun U hU hW => ⟨rfl, by rw [hU], by rw [hU]; exact hP, hE.warm hW, fx_Sat hSt hS hU hW hA hA2⟩⟩ rfl hn hsize hst0 (lv_room hrest) hdg hcap
  exact fi_back hrun hS (fx_sub hS hA hA2) kk
theorem fi_ret {X : Type} {P0 : X → Heap → Prop} {mc ms : Nat} (x : X) (hx : p.tables.exec = Jvm.exec) (hb : c.code = cc) (hr : meth.sig.returnType = none) (hlocks : meth.locks = false)
    (hS : va_S (fx_A N ad s.heap.size) s.heap H locs) (hc : cells ≤ mc) (hs : slots ≤ ms) (hdg : decode cc pc = .ok (.return_, 1)) (hp : P0 x H) :
    W p l e R s m args below meth c H locs cells slots (MQ below (fx_postX P0 (fx_A N ad s.heap.size)) args s mc ms (fx_A N ad s.heap.size)) (F0 m pc ls []) := by
  refine W.widen (k := mc) (n := ms) hc hs (W.vret hx hb hr (fun t ht hW => ⟨x, rfl, by rw [ht]; exact hp, hS.F ht⟩) hS.2.2 hdg hlocks)
end FXI
theorem fx_wcI : Cond.arrayClass .int ∈ fx_wb ++ fx_wc := List.mem_append_right _ (List.mem_of_getElem? (i := 0) rfl)
theorem fx_wcB : Cond.arrayClass .byte ∈ fx_wb ++ fx_wc := List.mem_append_right _ (List.mem_of_getElem? (i := 1) rfl)
theorem fx_wcL : Cond.arrayClass .long ∈ fx_wb ++ fx_wc := List.mem_append_right _ (List.mem_of_getElem? (i := 2) rfl)
theorem va_ac {Z : fx_Z} {U : State} {ty : FieldType} {args : Array Value} (hE : fx_E Z U) (hm : Cond.arrayClass ty ∈ fx_wb ++ fx_wc) : (Cond.arrayClass ty).before args U = true :=
  pay_in (big := [Cond.arrayClass ty]) (args := #[]) (s := U) (fun w hw => by rw [List.mem_singleton.mp hw]; exact hE.2.2.1 _ hm) (ws := [Cond.arrayClass ty]) (fun w hw => ⟨hw, by rw [List.mem_singleton.mp hw]; exact Or.inr ⟨_, rfl⟩⟩) _ List.mem_cons_self args U (State.WarmedH.refl U)
theorem fx_tyB {Z : fx_Z} {U : State} {cA : ClassId} (h : va_K Z.1 vwCl (fx_tys Z ++ [(cA, .byte)]) U) : cA = Z.2.1 5 := by
  have h1 : U.vm.findClass ("[" ++ FieldType.byte.toString) = some (Z.2.1 5) := (h.2 5 (Z.2.1 5, .byte) rfl).2
  have h2 : U.vm.findClass ("[" ++ FieldType.byte.toString) = some cA := (h.2 6 (cA, .byte) rfl).2
  exact Option.some.inj (h2.symm.trans h1)
/-! ===== a new StringBuilder ===== -/
abbrev jI_F (b : Nat) : Nat → Nat × va_E := fun _ => (b, .inr (0, [.null, .int 0, .int 0, .int 0]))
def jI_P (Z : fx_Z) (b sz : Nat) : Nat → Heap → Prop := fun v H => sz ≤ v ∧ va_P Z.1 vwCl (iw 2 (jF b v (Z.2.1 5) (fun _ => 0, 0))) H
set_option maxHeartbeats 400000 in
set_option maxRecDepth 100000 in
theorem cj_init5 (l : Launch) (Z : fx_Z) (b : Nat) : fi_C l Z yJ5_init_d00df cJ5_init_d00df 2 1 12 1 16 1 (fun _ => b) (jI_F b) [.ref b, .int 16] (jI_P Z b) := by
  intro sz
  refine va_MetF (cc := cJ5_init_d00df) (maxL := 2) (ret := none) (by decide +kernel) rfl ?_
  intro p e s m args below meth c s₁ B hml hv
  obtain ⟨rfl, hsz, hP, hE, hSt⟩ := hv
  subst hsz
  have hx := B.exec
  have hb := B.bytes
  have hr := B.returns
  have hown : s.vm.findClass RJ5 = some m.cls := findClass_of_methodNamed B.named
  have hlocks := B.notSynchronized
  have hT : ∀ w ∈ fx_ws, w.before ([.ref b, .int 16] : List Value).toArray s = true := fun w hw => atoms_spec (ws := fx_l yJ5_init_d00df cJ5_init_d00df 2 none) B.pre w (List.mem_cons_of_mem _ hw)
  have hS : va_S (fx_A 1 (fun _ => b) s.heap.size) s.heap s.heap [] := va_S.rf
  have hl := lv_entry ([.ref b, .int 16]) (n := 2) (Nat.le_of_ble_eq_true rfl)
  rw [lg_entry_eq]
  generalize (lg_sl ([.ref b, .int 16]) ++ List.replicate (2 - (lg_sl ([.ref b, .int 16])).length) Slot.unset).toArray = ls at hl ⊢
  have hl : lv_has ls 2 [(0, .ref b), (1, .int 16)] := hl
  have hP : va_P Z.1 vwCl [(b, .inr (0, [.null, .int 0, .int 0, .int 0]))] s.heap := hP
  have hD : va_D (fx_A 1 (fun _ => b) s.heap.size) [(b, .inr (0, [.null, .int 0, .int 0, .int 0]))] := fx_D (N := 1) (F := jI_F b) (ad := fun _ => b) (fun i j hi hj _ => by omega) (fun _ _ => rfl) (fun k hk => Or.inl ⟨k, hk, rfl⟩)
  have hA : ∀ q, s.heap.size ≤ q → fx_A 1 (fun _ => b) s.heap.size q := fun q h => Or.inr h
  refine lv_aload_n hx hb dJ5_init_d00df_0 rfl (lv_at hl 0 rfl) ?_
  refine W.objInit hx hb hown (hT (.methodLink RJ5 3 objectInit) (fx_w 483 (by decide +kernel) rfl)) (hT (.instanceMethod objectInit) (fx_w 65 (by decide +kernel) rfl)) (hT _ (fx_w 66 (by decide +kernel) rfl)) rfl (by rw [hml]; exact hl.1) rfl dJ5_init_d00df_1 (Nat.le_of_ble_eq_true rfl) (Nat.le_of_ble_eq_true rfl) ?_
  refine W.eq (g2 := F0 m 4 ls []) rfl ?_
  refine va_gets hx hb hSt.2.2.1 hS hown (hT (.fieldLink RJ5 18 "java/lang/String" "COMPACT_STRINGS" "Z") (fx_w 484 (by decide +kernel) rfl)) (fun _ h9 => h9) dJ5_init_d00df_4 ?_
  refine lv_if_eq (tgt := 25) hx hb dJ5_init_d00df_7 (by decide) (fun c1 => absurd c1 (by decide)) (fun _ => ?_)
  refine lv_aload_n hx hb dJ5_init_d00df_10 rfl (lv_at hl 0 rfl) ?_
  refine lv_iload_n hx hb dJ5_init_d00df_11 rfl (lv_at hl 1 rfl) ?_
  refine va_newa (atype := .byte) hx hb (va_ac hE fx_wcB) (ty := .byte) rfl hE.1 hP hD hS hA (N' := 16) (a0 := (16, .inl (fun _ => 0))) (fun _ => rfl) (by decide) (by decide) (by decide) (Nat.le_of_ble_eq_true rfl) (Nat.le_of_ble_eq_true rfl) dJ5_init_d00df_12 (fun v cA H1 hK1 hP1 hD1 hS1 => ?_)
  have hcA := fx_tyB hK1
  subst hcA
  have hP1 : va_P Z.1 vwCl [(b, .inr (0, [.null, .int 0, .int 0, .int 0])), (v, .inl (Z.2.1 5, 16, .inl (fun _ => 0)))] H1 := hP1
  have hD1 : va_D (fx_A 1 (fun _ => b) s.heap.size) [(b, .inr (0, [.null, .int 0, .int 0, .int 0])), (v, .inl (Z.2.1 5, 16, .inl (fun _ => 0)))] := hD1
  have hv : s.heap.size ≤ v := by
    rcases hD1.2 1 (v, _) rfl with ⟨k, hk, hkb⟩ | h
    · exact absurd (hD1.1 0 1 _ _ rfl rfl hkb) (by decide)
    · exact h
  refine va_put (D := Z.1) (ci := 0) (v := .ref v) (ty := .array .byte) (C := RJ4) (T := TJ4) (N := 4) (ref := "java/lang/AbstractStringBuilder") hx hb hT i_J4 tyJ4 tyJ4_ok nmJ4 hown hE.1 hP1 hD1 hS1 0 rfl rfl 0 (by decide) (hT (.fieldLink RJ5 15 "java/lang/AbstractStringBuilder" "value" "[B") (fx_w 493 (by decide +kernel) rfl)) (fun _ h9 => h9) rfl (by decide +kernel) rfl rfl (Nat.le_of_ble_eq_true rfl) dJ5_init_d00df_14 fun H2 locs2 hP2 hD2 hS2 => ?_
  refine lv_aload_n hx hb dJ5_init_d00df_17 rfl (lv_at hl 0 rfl) ?_
  refine lv_iconst (v := 0) hx hb dJ5_init_d00df_18 (by decide) ?_
  refine va_put (D := Z.1) (ci := 0) (v := .int 0) (ty := .byte) (C := RJ4) (T := TJ4) (N := 4) (ref := "java/lang/AbstractStringBuilder") hx hb hT i_J4 tyJ4 tyJ4_ok nmJ4 hown hE.1 hP2 hD2 hS2 0 rfl rfl 1 (by decide) (hT (.fieldLink RJ5 22 "java/lang/AbstractStringBuilder" "coder" "B") (fx_w 494 (by decide +kernel) rfl)) (fun _ h9 => h9) rfl (by decide +kernel) rfl rfl (Nat.le_of_ble_eq_true rfl) dJ5_init_d00df_19 fun H3 locs3 hP3 hD3 hS3 => ?_
  refine lv_goto (tgt := 38) hx hb dJ5_init_d00df_22 (by decide) ?_
  exact fi_ret (P0 := jI_P Z b s.heap.size) v hx hb hr hlocks hS3 (Nat.le_of_ble_eq_true rfl) (Nat.le_of_ble_eq_true rfl) dJ5_init_d00df_38 ⟨hv, (show va_P Z.1 vwCl [(b, .inr (0, [.ref v, .int 0, .int 0, .int (nI 0)])), (v, .inl (Z.2.1 5, 16, .inl (fun _ => nI 0)))] H3 from hP3)⟩
theorem okj_J4_1 : fj_ok RJ4 1 yJ5_init_d00df cJ5_init_d00df 2 none 1 := ⟨fx_w 482 (by decide +kernel) rfl, fx_w 480 (by decide +kernel) rfl, fx_w 49 (by decide +kernel) rfl, by decide +kernel⟩
set_option maxHeartbeats 4000000 in
set_option maxRecDepth 100000 in
theorem cj_init4 (l : Launch) (Z : fx_Z) (b : Nat) : fi_C l Z yJ4_init_da8c8 cJ4_init_da8c8 1 2 33 1 16 1 (fun _ => b) (jI_F b) [.ref b] (jI_P Z b) := by
  intro sz
  refine va_MetF (cc := cJ4_init_da8c8) (maxL := 1) (ret := none) (by decide +kernel) rfl ?_
  intro p e s m args below meth c s₁ B hml hv
  obtain ⟨rfl, hsz, hP, hE, hSt⟩ := hv
  subst hsz
  have hx := B.exec
  have hb := B.bytes
  have hr := B.returns
  have hown : s.vm.findClass RJ4 = some m.cls := findClass_of_methodNamed B.named
  have hlocks := B.notSynchronized
  have hT : ∀ w ∈ fx_ws, w.before ([.ref b] : List Value).toArray s = true := fun w hw => atoms_spec (ws := fx_l yJ4_init_da8c8 cJ4_init_da8c8 1 none) B.pre w (List.mem_cons_of_mem _ hw)
  have hS : va_S (fx_A 1 (fun _ => b) s.heap.size) s.heap s.heap [] := va_S.rf
  have hl := lv_entry ([.ref b]) (n := 1) (Nat.le_of_ble_eq_true rfl)
  rw [lg_entry_eq]
  generalize (lg_sl ([.ref b]) ++ List.replicate (1 - (lg_sl ([.ref b])).length) Slot.unset).toArray = ls at hl ⊢
  have hl : lv_has ls 1 [(0, .ref b)] := hl
  refine lv_aload_n hx hb dJ4_init_da8c8_0 rfl (lv_at hl 0 rfl) ?_
  refine lv_bipush (v := 16) hx hb dJ4_init_da8c8_1 (by decide) ?_
  refine fi_callI (rest := []) (A := fx_A 1 (fun _ => b) s.heap.size) hx hb hml hown hT hE hSt (fun k hk => Or.inl ⟨k, hk, rfl⟩) (fun q h => Or.inr h) hP hS (cj_init5 l Z b) okj_J4_1 (fx_w 481 (by decide +kernel) rfl) rfl rfl ⟨Nat.le_of_ble_eq_true rfl, Nat.le_of_ble_eq_true rfl⟩ rfl hl.1 (Nat.le_of_ble_eq_true rfl) ⟨Nat.le_of_ble_eq_true rfl, Nat.le_of_ble_eq_true rfl⟩ dJ4_init_da8c8_3 (fun v H1 locs1 hp1 hS1 _ _ => ?_)
  exact fi_ret (P0 := jI_P Z b s.heap.size) v hx hb hr hlocks hS1 (Nat.le_of_ble_eq_true rfl) (Nat.le_of_ble_eq_true rfl) dJ4_init_da8c8_6 hp1
/-! ===== appendBackwards ===== -/
def bwT (t : Nat → Nat) (n x : Nat) : Nat → Nat → Nat
  | 0 => t
  | j + 1 => va_up (bwT t n x j) (n + j) (48 + x / 10 ^ j % 10)
theorem dg_pos {x j : Nat} (hx : x < 10000) (h : j < dgN x) (h0 : ¬ nI j = 0) : ¬ nI (x / 10 ^ j) ≤ 0 := by
  have hj0 : j ≠ 0 := fun q => h0 (by rw [q]; rfl)
  have hj : j < 5 := Nat.lt_of_lt_of_le h (dgN_le x)
  have : 0 < x / 10 ^ j := by
    unfold dgN at h
    match j, hj0, hj with
    | 1, _, _ => split at h <;> omega
    | 2, _, _ => split at h <;> (try split at h) <;> omega
    | 3, _, _ => split at h <;> (try split at h) <;> (try split at h) <;> omega
    | 4, _, _ => split at h <;> (try split at h) <;> (try split at h) <;> (try split at h) <;> omega
  exact nI_nle this (Nat.lt_of_le_of_lt (Nat.div_le_self _ _) (by omega))
theorem dg_zero {x : Nat} (hx : x < 10000) : nI (x / 10 ^ dgN x) ≤ 0 := by
  have : x / 10 ^ dgN x = 0 := by
    unfold dgN
    split
    · omega
    · split
      · omega
      · split
        · omega
        · omega
  rw [this]
  decide
theorem dg_one (x : Nat) : 1 ≤ dgN x := by unfold dgN; split <;> (try split) <;> (try split) <;> (try split) <;> omega
theorem dg_le4 {x : Nat} (hx : x < 10000) : dgN x ≤ 4 := by unfold dgN; split <;> (try split) <;> (try split) <;> (try split) <;> omega
theorem okj_X3_199 : fj_ok RX3 199 yJ4_append_cf468 cJ4_append_cf468 2 (some (.object "java/lang/StringBuilder")) 1 := ⟨fx_w 508 (by decide +kernel) rfl, fx_w 505 (by decide +kernel) rfl, fx_w 50 (by decide +kernel) rfl, by decide +kernel⟩
set_option maxHeartbeats 4000000 in
set_option maxRecDepth 100000 in
theorem cj_bw (l : Launch) (Z : fx_Z) (b v : Nat) (hbv : b ≠ v) (t : Nat → Nat) (n : Nat) (a0 : Nat) (x : Nat) (hx9 : x < 10000) (hn9 : n + 4 ≤ 16) : fj_C l Z yX3_appendBackwards cX3_appendBackwards 5 none 3 64 0 0 2 (jad b v) (jF b v (Z.2.1 5)) (t, n) [.ref a0, .ref b, .int (nI x)] (fun w8 u8 => w8 = none ∧ u8 = ((bwT t n x (dgN x)), (n + dgN x))) := by
  intro sz
  refine va_MetF (cc := cX3_appendBackwards) (maxL := 5) (ret := none) (by decide +kernel) rfl ?_
  intro p e s m args below meth c s₁ B hml hv
  obtain ⟨rfl, hsz, hP, hE9, hSt9⟩ := hv
  subst hsz
  have hx := B.exec
  have hb := B.bytes
  have hr := B.returns
  have hown : s.vm.findClass RX3 = some m.cls := findClass_of_methodNamed B.named
  have hlocks := B.notSynchronized
  have hT9 : ∀ w ∈ fx_ws, w.before ([.ref a0, .ref b, .int (nI x)] : List Value).toArray s = true := fun w hw => atoms_spec (ws := fx_l yX3_appendBackwards cX3_appendBackwards 5 none) B.pre w (List.mem_cons_of_mem _ hw)
  have K : j_K p s m ([.ref a0, .ref b, .int (nI x)] : List Value).toArray c cX3_appendBackwards 5 RX3 Z b v := ⟨hx, hb, hml, hown, hT9, hE9, hSt9, hbv⟩
  have hS : va_S (fx_A 2 (jad b v) s.heap.size) s.heap s.heap [] := va_S.rf
  have hl := lv_entry ([.ref a0, .ref b, .int (nI x)]) (n := 5) (Nat.le_of_ble_eq_true rfl)
  rw [lg_entry_eq]
  generalize (lg_sl ([.ref a0, .ref b, .int (nI x)]) ++ List.replicate (5 - (lg_sl ([.ref a0, .ref b, .int (nI x)])).length) Slot.unset).toArray = ls at hl ⊢
  have hl : lv_has ls 5 [(0, .ref a0), (1, .ref b), (2, .int (nI x))] := hl
  refine lv_iload_n hx hb dX3_appendBackwards_0 rfl (lv_at hl 2 rfl) ?_
  refine lv_istore_n (lv' := [(3, .int (nI x)), (0, .ref a0), (1, .ref b), (2, .int (nI x))]) hx hb dX3_appendBackwards_1 rfl hl (by decide) rfl (fun ls hl => ?_)
  refine lv_iconst (v := 0) hx hb dX3_appendBackwards_2 (by decide) ?_
  refine lv_istore (lv' := [(4, .int 0), (3, .int (nI x)), (0, .ref a0), (1, .ref b), (2, .int (nI x))]) hx hb dX3_appendBackwards_3 hl (by decide) rfl (fun ls hl => ?_)
  have hl : lv_has ls 5 [(4, .int 0), (3, .int (nI (x / 10 ^ 0))), (0, .ref a0), (1, .ref b), (2, .int (nI x))] := by rw [show x / 10 ^ 0 = x by simp]; exact hl
  have hloop5 : ∀ (d : Nat) (j : Nat), j + d = dgN x → ∀ (H : Heap) (locs : List Loc), va_P Z.1 vwCl (iw 2 (jF b v (Z.2.1 5) (bwT t n x j, n + j))) H → va_S (fx_A 2 (jad b v) s.heap.size) s.heap H locs → ∀ ls : Array Slot, lv_has ls 5 [(0, .ref a0), (1, .ref b), (2, .int (nI x)), (3, .int (nI (x / 10 ^ j))), (4, .int (nI j))] → W p l e (headSpec (fx_l yX3_appendBackwards cX3_appendBackwards 5 none) { frames := 3, cells := 0, slots := 0, locals := 64 }).room s m ([.ref a0, .ref b, .int (nI x)] : List Value).toArray below meth c H locs 0 0 (MQ below (fx_post Z 2 (jad b v) (jF b v (Z.2.1 5)) (fun w8 u8 => w8 = none ∧ u8 = ((bwT t n x (dgN x)), (n + dgN x))) s.heap.size) ([.ref a0, .ref b, .int (nI x)] : List Value).toArray s 0 0 (fx_A 2 (jad b v) s.heap.size)) (F0 m 5 ls []) := by
    intro d
    induction d with
    | zero =>
      intro j hd H locs hP hS ls hl
      have hdg4 := dg_le4 hx9
      have hj5 : j ≤ 4 := by omega
      have hj1 := dg_one x
      refine lv_iload hx hb dX3_appendBackwards_5 (lv_at hl 4 rfl) ?_
      refine lv_bipush (v := 10) hx hb dX3_appendBackwards_7 (by decide) ?_
      refine lv_icmp_ge (tgt := 45) hx hb dX3_appendBackwards_9 (by decide) (fun c1 => absurd c1 (nI_ge (b := 10) (by omega) (by omega))) (fun _ => ?_)
      refine lv_iload hx hb dX3_appendBackwards_12 (lv_at hl 4 rfl) ?_
      refine lv_if_eq (tgt := 21) hx hb dX3_appendBackwards_14 (by decide) (fun c2 => absurd c2 (nI_ne0 (by omega) (by omega))) (fun _ => ?_)
      refine lv_iload_n hx hb dX3_appendBackwards_17 rfl (lv_at hl 3 rfl) ?_
      refine lv_if_le (tgt := 45) hx hb dX3_appendBackwards_18 (by decide) (fun _ => ?_) (fun c3 => absurd (by rw [show j = dgN x by omega]; exact dg_zero hx9) c3)
      exact fj_retv (u := ((bwT t n x j), n + j)) hx hb hr hlocks hP hS (Nat.le_of_ble_eq_true rfl) (Nat.le_of_ble_eq_true rfl) dX3_appendBackwards_45 ⟨rfl, (by rw [show j = dgN x by omega])⟩
    | succ d ih5 =>
      intro j hd H locs hP hS ls hl
      have hdg4 := dg_le4 hx9
      have hj5 : j ≤ 4 := by omega
      have hj1 := dg_one x
      refine lv_iload hx hb dX3_appendBackwards_5 (lv_at hl 4 rfl) ?_
      refine lv_bipush (v := 10) hx hb dX3_appendBackwards_7 (by decide) ?_
      refine lv_icmp_ge (tgt := 45) hx hb dX3_appendBackwards_9 (by decide) (fun c4 => absurd c4 (nI_ge (b := 10) (by omega) (by omega))) (fun _ => ?_)
      refine lv_iload hx hb dX3_appendBackwards_12 (lv_at hl 4 rfl) ?_
      refine lv_if_eq (tgt := 21) hx hb dX3_appendBackwards_14 (by decide) (fun c5 => ?_) (fun c5 => ?_)
      · refine lv_aload_n hx hb dX3_appendBackwards_21 rfl (lv_at hl 1 rfl) ?_
        refine lv_bipush (v := 48) hx hb dX3_appendBackwards_22 (by decide) ?_
        refine lv_iload_n hx hb dX3_appendBackwards_24 rfl (lv_at hl 3 rfl) ?_
        refine lv_bipush (v := 10) hx hb dX3_appendBackwards_25 (by decide) ?_
        refine lv_irem hx hb dX3_appendBackwards_27 (by decide) ?_
        rw [show (nI (x / 10 ^ j)) - (nI (x / 10 ^ j)) / 10 * 10 = nI (x / 10 ^ j % 10) from dv_r (by omega)]
        refine lv_iadd hx hb dX3_appendBackwards_28 ?_
        rw [show (48 + (nI (x / 10 ^ j % 10)) : Int32) = nI (48 + x / 10 ^ j % 10) from nI_add 48 _]
        refine lv_i2c (v := nI (48 + x / 10 ^ j % 10)) hx hb dX3_appendBackwards_29 (i2c_n (by omega)) ?_
        refine fj_callV (rest := []) hx hb hml hown hT9 hE9 hSt9 (fun k hk => j_A hk) j_A2 hP hS (cj_appc4 l Z b v hbv (bwT t n x j) (n + j) (48 + x / 10 ^ j % 10) (by omega) (by omega)) okj_X3_199 (fx_w 506 (by decide +kernel) rfl) (hT9 _ (fx_w 507 (by decide +kernel) rfl)) (j_recv hE9 hP) rfl ⟨Nat.le_of_ble_eq_true rfl, Nat.le_of_ble_eq_true rfl⟩ rfl hl.1 (Nat.le_of_ble_eq_true rfl) ⟨Nat.le_of_ble_eq_true rfl, Nat.le_of_ble_eq_true rfl⟩ dX3_appendBackwards_30 (fun w9 u9 H locs hp9 hP hS _ _ => ?_)
        obtain ⟨rfl, rfl⟩ := hp9
        refine lv_pop hx hb dX3_appendBackwards_33 rfl ?_
        refine lv_iload_n hx hb dX3_appendBackwards_34 rfl (lv_at hl 3 rfl) ?_
        refine lv_bipush (v := 10) hx hb dX3_appendBackwards_35 (by decide) ?_
        refine lv_idiv hx hb dX3_appendBackwards_37 (by decide) ?_
        rw [show ((nI (x / 10 ^ j)) / 10 : Int32) = nI (x / 10 ^ (j + 1)) from dv_s (by omega)]
        refine lv_istore_n (lv' := [(3, .int (nI (x / 10 ^ (j + 1)))), (0, .ref a0), (1, .ref b), (2, .int (nI x)), (4, .int (nI j))]) hx hb dX3_appendBackwards_38 rfl hl (by decide) rfl (fun ls hl => ?_)
        refine lv_iinc (v := nI (j + 1)) (lv' := [(4, .int (nI (j + 1))), (3, .int (nI (x / 10 ^ (j + 1)))), (0, .ref a0), (1, .ref b), (2, .int (nI x))]) hx hb dX3_appendBackwards_39 hl (k := 4) rfl (nI_1 _) (by decide) rfl (fun ls hl => ?_)
        refine lv_goto (tgt := 5) hx hb dX3_appendBackwards_42 (by decide) ?_
        exact ih5 (j + 1) (by omega) H locs hP hS ls (lv_sub hl [2, 3, 4, 1, 0] rfl)
      · refine lv_iload_n hx hb dX3_appendBackwards_17 rfl (lv_at hl 3 rfl) ?_
        refine lv_if_le (tgt := 45) hx hb dX3_appendBackwards_18 (by decide) (fun c7 => absurd c7 (dg_pos hx9 (by omega) c5)) (fun _ => ?_)
        refine lv_aload_n hx hb dX3_appendBackwards_21 rfl (lv_at hl 1 rfl) ?_
        refine lv_bipush (v := 48) hx hb dX3_appendBackwards_22 (by decide) ?_
        refine lv_iload_n hx hb dX3_appendBackwards_24 rfl (lv_at hl 3 rfl) ?_
        refine lv_bipush (v := 10) hx hb dX3_appendBackwards_25 (by decide) ?_
        refine lv_irem hx hb dX3_appendBackwards_27 (by decide) ?_
        rw [show (nI (x / 10 ^ j)) - (nI (x / 10 ^ j)) / 10 * 10 = nI (x / 10 ^ j % 10) from dv_r (by omega)]
        refine lv_iadd hx hb dX3_appendBackwards_28 ?_
        rw [show (48 + (nI (x / 10 ^ j % 10)) : Int32) = nI (48 + x / 10 ^ j % 10) from nI_add 48 _]
        refine lv_i2c (v := nI (48 + x / 10 ^ j % 10)) hx hb dX3_appendBackwards_29 (i2c_n (by omega)) ?_
        refine fj_callV (rest := []) hx hb hml hown hT9 hE9 hSt9 (fun k hk => j_A hk) j_A2 hP hS (cj_appc4 l Z b v hbv (bwT t n x j) (n + j) (48 + x / 10 ^ j % 10) (by omega) (by omega)) okj_X3_199 (fx_w 506 (by decide +kernel) rfl) (hT9 _ (fx_w 507 (by decide +kernel) rfl)) (j_recv hE9 hP) rfl ⟨Nat.le_of_ble_eq_true rfl, Nat.le_of_ble_eq_true rfl⟩ rfl hl.1 (Nat.le_of_ble_eq_true rfl) ⟨Nat.le_of_ble_eq_true rfl, Nat.le_of_ble_eq_true rfl⟩ dX3_appendBackwards_30 (fun w9 u9 H locs hp9 hP hS _ _ => ?_)
        obtain ⟨rfl, rfl⟩ := hp9
        refine lv_pop hx hb dX3_appendBackwards_33 rfl ?_
        refine lv_iload_n hx hb dX3_appendBackwards_34 rfl (lv_at hl 3 rfl) ?_
        refine lv_bipush (v := 10) hx hb dX3_appendBackwards_35 (by decide) ?_
        refine lv_idiv hx hb dX3_appendBackwards_37 (by decide) ?_
        rw [show ((nI (x / 10 ^ j)) / 10 : Int32) = nI (x / 10 ^ (j + 1)) from dv_s (by omega)]
        refine lv_istore_n (lv' := [(3, .int (nI (x / 10 ^ (j + 1)))), (0, .ref a0), (1, .ref b), (2, .int (nI x)), (4, .int (nI j))]) hx hb dX3_appendBackwards_38 rfl hl (by decide) rfl (fun ls hl => ?_)
        refine lv_iinc (v := nI (j + 1)) (lv' := [(4, .int (nI (j + 1))), (3, .int (nI (x / 10 ^ (j + 1)))), (0, .ref a0), (1, .ref b), (2, .int (nI x))]) hx hb dX3_appendBackwards_39 hl (k := 4) rfl (nI_1 _) (by decide) rfl (fun ls hl => ?_)
        refine lv_goto (tgt := 5) hx hb dX3_appendBackwards_42 (by decide) ?_
        exact ih5 (j + 1) (by omega) H locs hP hS ls (lv_sub hl [2, 3, 4, 1, 0] rfl)
  exact hloop5 (dgN x) 0 (by omega) s.heap [] hP hS ls (lv_sub hl [2, 3, 4, 1, 0] rfl)

