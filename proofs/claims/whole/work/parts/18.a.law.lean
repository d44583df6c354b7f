/-! ===== the law: its two worlds, calls, the script ===== -/
abbrev lA (s : State) : Nat → Prop := fun q => s.heap.size ≤ q
def l_K (p : Program) (s : State) (m : MethodId) (meth : Method) (c : Code) (b L : Nat) (xs : Nat → Int32) (Z : fx_Z) : Prop :=
  p.tables.exec = Jvm.exec ∧ c.code = cL_law ∧ c.maxLocals = 7 ∧ s.vm.findClass RL = some m.cls ∧ (∀ w ∈ fx_ws, w.before #[Value.ref b] s = true) ∧ fx_E Z s ∧ fx_S (lA s) s s.heap ∧ va_X b L xs s s.heap ∧ b < s.heap.size
/-- the addresses: new, and apart -/
def l_ad (s : State) (ad am : Nat → Nat) : Prop := fx_inj 116 ad ∧ fx_inj 22 am ∧ (∀ k, k < 116 → s.heap.size ≤ ad k) ∧ (∀ k, k < 22 → s.heap.size ≤ am k) ∧ ∀ i j, i < 116 → j < 22 → ad i ≠ am j
section FXL
variable {p : Program} {l : Launch} {e : Env} {R : Room} {s : State} {m : MethodId} {below : List Frame} {meth : Method} {c : Code} {H : Heap} {locs : List Loc} {cells slots : Nat} {Q : State → Prop}
variable {Z : fx_Z} {ad am : Nat → Nat} {b L pc : Nat} {xs : Nat → Int32} {ls : Array Slot} {rest : List Value} {u u2 : WS} {h h2 : St}
theorem l_keep {N N2 : Nat} {a1 a2 : Nat → Nat} {F : Nat → Nat × va_E} {H1 : Heap} (hP : va_P Z.1 vwCl (iw N F) H) (hF : ∀ k, k < N → (F k).1 = a1 k) (hne : ∀ i j, i < N → j < N2 → a1 i ≠ a2 j) (hk : ∀ q : Nat, q < H.size → ¬ fx_A N2 a2 H.size q → H1[q]? = H[q]?) : va_P Z.1 vwCl (iw N F) H1 := by
  refine fx_P_kept hP hF (fun k hkN => ?_)
  have hlt : a1 k < H.size := by have := fx_P_lt hP hkN; rw [hF k hkN] at this; exact this
  refine hk _ hlt ?_
  rintro (⟨j, hj, e9⟩ | h9)
  · exact hne k j hkN hj e9.symm
  · omega
theorem l_wrap {nL n idx : Nat} {y : MethodName} {cc : ByteArray} {hh : List (Nat × Nat × Nat × Nat)} {av : List Value} {st0 : List Value} {code : Int32} (K : l_K p s m meth c b L xs Z) (hA : l_ad s ad am) (hW : va_P Z.1 vwCl (iw 116 (wF ad Z.2.1 u)) H) (hM : va_P Z.1 vwCl (iw 22 (mF am (Z.2.1 0) h)) H) (hS : va_S (lA s) s.heap H locs)
    (hC : fw_C l Z y cc nL hh ad u av code u2) (hcode : Cond.codeWith y cc nL (some .int) hh ∈ fx_ws) (hlink : Cond.methodLink RL idx y ∈ fx_ws) (hstt : Cond.static y ∈ fx_ws) (hini : Cond.initialized y.cls ∈ fx_ws)
    (hd : y.cls ≠ "java/lang/invoke/MethodHandle" ∧ y.cls ≠ "java/lang/invoke/VarHandle" ∧ (parseMethodDescriptor y.desc).map (fun d => d.parameters.length) = some n)
    (hst0 : st0 = av.reverse ++ rest) (hroom : 12 + 1 ≤ R.frames ∧ 8 + (nL + 11) + 476 ≤ R.locals) (hn : av.length = n) (hsize : ls.size = 7) (hrest : (rest.map fun v => v.category).sum ≤ 8)
    (hcap : cells + 2 ≤ R.cells ∧ slots + 20 ≤ R.slots) (hdg : decode cL_law pc = .ok (.invokestatic idx, 3))
    (kk : ∀ (H1 : Heap) (locs1 : List Loc), va_P Z.1 vwCl (iw 116 (wF ad Z.2.1 u2)) H1 → va_P Z.1 vwCl (iw 22 (mF am (Z.2.1 0) h)) H1 → va_S (lA s) s.heap H1 locs1 → W p l e R s m #[Value.ref b] below meth c H1 locs1 (cells + 2) (slots + 20) Q (F0 m (pc + 3) ls (.int code :: rest))) :
    W p l e R s m #[Value.ref b] below meth c H locs cells slots Q (F0 m pc ls st0) := by
  obtain ⟨hx, hb, hml, hown, hT, hE, hSt, -⟩ := K
  obtain ⟨i1, i2, n1, n2, hne⟩ := hA
  have hgood : GoodIn fx_ws (va_wsS RL idx y (fw_l y cc nL hh)) := by
    intro w hw
    rcases List.mem_append.mp hw with h9 | h9
    · have : w ∈ fx_ws := by
        simp only [List.mem_cons, List.not_mem_nil, or_false] at h9
        rcases h9 with rfl | rfl | rfl
        · exact hlink
        · exact hstt
        · exact hini
      exact ⟨this, good_of_word (fx_wg this)⟩
    · rcases List.mem_cons.mp h9 with rfl | h8
      · exact ⟨hcode, good_of_word (fx_wg hcode)⟩
      · exact ⟨h8, good_of_word (fx_wg h8)⟩
  have hA1 : ∀ k, k < 116 → lA s (ad k) := fun k hk => n1 k hk
  have hA2 : ∀ q, s.heap.size ≤ q → lA s q := fun q hq => hq
  have hrun := vx_runSW (p := p) (l := l) (e := e) (R := R) (s := s) (m := m) (args := #[Value.ref b]) (below := below) (meth := meth) (c := c) (H := H) (locs := locs) (cells := cells) (slots := slots) (rest := rest) (g := F0 m pc ls st0) (Ts := fx_ws)
    ⟨hx, hb, hml, hown, hT⟩ (hC H.size) (vx_cwSW n hT hgood rfl rfl rfl hd hroom)
    ⟨fx_blind, fun U hU hW9 => ⟨rfl, by rw [hU], by rw [hU]; exact hW, hE.warm hW9, fx_Sat hSt hS hU hW9 hA1 hA2⟩⟩ rfl hn hsize hst0 (lv_room hrest) hdg hcap
  refine fj_back hrun hS (fx_sub hS hA1 hA2) (fun v u9 H1 locs1 hp hW1 hS1 _ hk => ?_)
  obtain ⟨rfl, rfl⟩ := hp
  exact kk H1 locs1 hW1 (l_keep hM (mF_1 h) (fun i j hi hj e9 => hne j i hj hi e9.symm) hk) hS1
theorem l_model {nL n idx fr lo : Nat} {y : MethodName} {cc : ByteArray} {ret : Option FieldType} {As : List Value} {st0 : List Value} {r : Int32} (K : l_K p s m meth c b L xs Z) (hA : l_ad s ad am) (hW : va_P Z.1 vwCl (iw 116 (wF ad Z.2.1 u)) H) (hM : va_P Z.1 vwCl (iw 22 (mF am (Z.2.1 0) h)) H) (hS : va_S (lA s) s.heap H locs)
    (hC : fx_C l Z y cc nL ret fr lo 0 0 22 am (mF am (Z.2.1 0)) h (.ref (am 0) :: As) (pI r h2) (fun _ => False)) (hok : fx_ok RL idx RX4 y cc nL ret n)
    (hst0 : st0 = As.reverse ++ .ref (am 0) :: rest) (hroom : fr + 1 ≤ R.frames ∧ 8 + (nL + 11) + lo ≤ R.locals) (hn : As.length = n) (hsize : ls.size = 7) (hrest : (rest.map fun v => v.category).sum ≤ 8)
    (hcap : cells + 0 ≤ R.cells ∧ slots + 0 ≤ R.slots) (hdg : decode cL_law pc = .ok (.invokevirtual idx, 3))
    (kk : ∀ (H1 : Heap) (locs1 : List Loc), va_P Z.1 vwCl (iw 116 (wF ad Z.2.1 u)) H1 → va_P Z.1 vwCl (iw 22 (mF am (Z.2.1 0) h2)) H1 → va_S (lA s) s.heap H1 locs1 → W p l e R s m #[Value.ref b] below meth c H1 locs1 cells slots Q (F0 m (pc + 3) ls (.int r :: rest))) :
    W p l e R s m #[Value.ref b] below meth c H locs cells slots Q (F0 m pc ls st0) := by
  obtain ⟨hx, hb, hml, hown, hT, hE, hSt, -⟩ := K
  obtain ⟨i1, i2, n1, n2, hne⟩ := hA
  have hrecv : ∃ cellB : Cell, H[am 0]? = some cellB ∧ cellB.vm.isStatics = false ∧ s.vm.findClass RX4 = some cellB.cls := va_recv hE.1 hM (ci := 5) (q0 := 0) (q := (RX4, TX4, 25)) rfl (by rw [iw_at (by decide), mF_0])
  refine fx_callV (A := lA s) hx hb hml hown hT hE hSt (fun k hk => n2 k hk) (fun q hq => hq) hM hS hC hok hrecv hst0 hroom hn hsize hrest hcap hdg (fun _ _ _ _ _ hf => hf.elim) (fun v u9 H1 locs1 hp hM1 hS1 _ hk => ?_)
  obtain ⟨rfl, rfl⟩ := hp
  exact kk H1 locs1 (l_keep hW (wF_1 u) (fun i j hi hj => hne i j hi hj) hk) hM1 hS1
theorem l_sld {i : Nat} (K : l_K p s m meth c b L xs Z) (hS : va_S (lA s) s.heap H locs) (hi : i < L) (hL : L < 2 ^ 31) (hdg : decode cL_law pc = .ok (.iaload, 1)) (kk : W p l e R s m #[Value.ref b] below meth c H locs cells slots Q (F0 m (pc + 1) ls (.int (xs i) :: rest))) : W p l e R s m #[Value.ref b] below meth c H locs cells slots Q (F0 m pc ls (.int (nI i) :: .ref b :: rest)) := by
  obtain ⟨hx, hb, -, -, -, -, -, hX, hbl⟩ := K
  refine va_sld hx hb hX hbl (Nat.not_le.mpr hbl) hS (vp_in_nI hi hL) hdg ?_
  rw [nI_clamp (by omega)]
  exact kk
theorem l_oget (K : l_K p s m meth c b L xs Z) (hW : va_P Z.1 vwCl (iw 116 (wF ad Z.2.1 u)) H) (hdg : decode cL_law pc = .ok (.laload, 1)) (kk : W p l e R s m #[Value.ref b] below meth c H locs cells slots Q (F0 m (pc + 1) ls (.long u.2 :: rest))) : W p l e R s m #[Value.ref b] below meth c H locs cells slots Q (F0 m pc ls (.int 0 :: .ref (ad 115) :: rest)) := by
  obtain ⟨hx, hb, -, -, -, hE, -⟩ := K
  exact va_lald (i := 0) hx hb hE.1 hW 115 4 (by rw [iw_at (by decide)]; rfl) rfl (vp_in_nI (n := 0) (N := 1) (by decide) (by decide)) hdg kk
theorem l_lcmp {x : Int64} (hx : p.tables.exec = Jvm.exec) (hb : c.code = cL_law) (hdg : decode cL_law pc = .ok (.lcmp, 1)) (kk : W p l e R s m #[Value.ref b] below meth c H locs cells slots Q (F0 m (pc + 1) ls (.int 0 :: rest))) : W p l e R s m #[Value.ref b] below meth c H locs cells slots Q (F0 m pc ls (.long x :: .long x :: rest)) := by
  intro T hT X
  obtain ⟨t, a, b9⟩ := kk T hT X
  refine ⟨t, ?_, b9⟩
  jvm_step X.here [X.here.top, hx, hb, hdg]
  first | (simp; exact a) | exact a
end FXL
/-- one command of the script: the class and the model answer alike, and stay alike -/
def op_OK (l : Launch) (Z : fx_Z) (ad am : Nat → Nat) (Rel : St → St → Prop) (yw : MethodName) (cw : ByteArray) (nw : Nat) (hh : List (Nat × Nat × Nat × Nat)) (ym : MethodName) (cm : ByteArray) (nm : Nat) (rm : Option FieldType) (As : List Value) : Prop :=
  ∀ (g h : St) (o : Int64), Rel g h → ∃ (code r : Int32) (u2 : WS) (h2 : St) (fr lo : Nat), fr ≤ 11 ∧ lo ≤ 440 ∧ fw_C l Z yw cw nw hh ad (g, o) (.ref (ad 0) :: (As ++ [.ref (ad 115)])) code u2 ∧ fx_C l Z ym cm nm rm fr lo 0 0 22 am (mF am (Z.2.1 0)) h (.ref (am 0) :: As) (pI r h2) (fun _ => False) ∧ h2 0 3 = code ∧ (code = 0 → u2.2 = r.toInt64) ∧ Rel u2.1 h2
