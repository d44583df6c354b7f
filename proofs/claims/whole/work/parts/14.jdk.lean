/-! ===== a StringBuilder of 16 bytes: its world (the object b, its bytes v), rows, calls ===== -/
abbrev SB : Type := (Nat → Nat) × Nat
def jad (b v : Nat) (k : Nat) : Nat := if k = 0 then b else v
def jF (b v : Nat) (cB : ClassId) (u : SB) (k : Nat) : Nat × va_E := if k = 0 then (b, .inr (0, [.ref v, .int 0, .int 0, .int (nI u.2)])) else (v, .inl (cB, 16, .inl (fun j => nI (u.1 j))))
theorem jF_1 {b v : Nat} {cB : ClassId} (u : SB) : ∀ k, k < 2 → (jF b v cB u k).1 = jad b v k := by
  intro k hk
  unfold jF jad
  split <;> rfl
theorem jinj {b v : Nat} (h : b ≠ v) : fx_inj 2 (jad b v) := by
  intro i j hi hj e
  unfold jad at e
  split at e <;> split at e <;> first | omega | exact absurd e h | exact absurd e.symm h
theorem jF_n {b v : Nat} {cB : ClassId} {t : Nat → Nat} {n n2 : Nat} : (iw 2 (jF b v cB (t, n))).set 0 (b, .inr (0, [.ref v, .int 0, .int 0, .int (nI n2)])) = iw 2 (jF b v cB (t, n2)) := rfl
theorem jF_t {b v : Nat} {cB : ClassId} {t : Nat → Nat} {n i k : Nat} : (iw 2 (jF b v cB (t, n))).set 1 (v, .inl (cB, 16, .inl (upd (fun j => nI (t j)) i (nI k)))) = iw 2 (jF b v cB (va_up t i k, n)) := by
  have e : upd (fun j => nI (t j)) i (nI k) = fun j => nI (va_up t i k j) := by
    funext j
    unfold upd va_up
    split <;> rfl
  rw [e]
  rfl
/-- a contract of a method that always returns -/
def fj_C {S : Type} (l : Launch) (Z : fx_Z) (y : MethodName) (cc : ByteArray) (nL : Nat) (ret : Option FieldType) (fr lo mc ms : Nat) (N : Nat) (ad : Nat → Nat) (F : S → Nat → Nat × va_E) (g : S) (av : List Value) (post : Option Value → S → Prop) : Prop :=
  ∀ sz : Nat, Met l y (fx_l y cc nL ret) { frames := fr, cells := mc, slots := ms, locals := lo } (fx_pre Z N ad (F g) av sz) (fx_post Z N ad F post sz) mc ms (fx_A N ad sz)
section FXJ
variable {p : Program} {l : Launch} {e : Env} {R : Room} {s : State} {m : MethodId} {args : Array Value} {below : List Frame} {meth : Method} {c : Code} {H : Heap} {locs : List Loc} {cells slots : Nat} {Q : State → Prop}
variable {Z : fx_Z} {N : Nat} {ad : Nat → Nat} {cc : ByteArray} {pc nL : Nat} {ls : Array Slot} {rest : List Value}
theorem fj_back {S : Type} {F : S → Nat → Nat × va_E} {A : Nat → Prop} {post : Option Value → S → Prop} {mc ms : Nat} {a : Array Value} {st0 : List Value}
    (hr : va_Run p l e R s m args below meth c H locs cells slots mc ms (F0 m pc ls st0) rest (fx_post Z N ad F post H.size a) (fx_A N ad H.size))
    (hS : va_S A s.heap H locs) (hsub : ∀ q, fx_A N ad H.size q → A q)
    (kk : ∀ (v : Option Value) (u : S) (H1 : Heap) (locs1 : List Loc), post v u → va_P Z.1 vwCl (iw N (F u)) H1 → va_S A s.heap H1 locs1 → H.size ≤ H1.size → (∀ q : Nat, q < H.size → ¬ fx_A N ad H.size q → H1[q]? = H[q]?) → W p l e R s m args below meth c H1 locs1 (cells + mc) (slots + ms) Q (F0 m (pc + 3) ls (v.toList ++ rest))) :
    W p l e R s m args below meth c H locs cells slots Q (F0 m pc ls st0) := by
  intro T hT X
  obtain ⟨v, st₀, t, T', L, h0, X', hL, e1, e2, ⟨v', u, hv, hp, hb, hF⟩, st⟩ := hr T hT X
  cases hv
  obtain ⟨k1, k2, k3⟩ := vx_keep h0 e1 hS (fun q _ h => hsub q h) hsub hL hF
  obtain ⟨t2, a1, b1⟩ := kk v u T'.heap (locs ++ L) hp (by rw [e1]; exact hb) k3 k1 k2 T' rfl X'
  exact ⟨t2, st t2 a1, b1⟩
/-- a callee's own words, and its name -/
def fj_ok (own : String) (idx : Nat) (y : MethodName) (bytes : ByteArray) (maxL : Nat) (ret : Option FieldType) (n : Nat) : Prop :=
  Cond.code y bytes maxL ret ∈ fx_ws ∧ Cond.methodLink own idx y ∈ fx_ws ∧ Cond.initialized y.cls ∈ fx_ws ∧ (y.cls ≠ "java/lang/invoke/MethodHandle" ∧ y.cls ≠ "java/lang/invoke/VarHandle" ∧ (parseMethodDescriptor y.desc).map (fun d => d.parameters.length) = some n)
theorem fj_cb {own : String} {idx maxL n mc ms fr lo : Nat} {y : MethodName} {bytes : ByteArray} {ret : Option FieldType} (hT : ∀ w ∈ fx_ws, w.before args s = true) (h : fj_ok own idx y bytes maxL ret n) (hR : fr + 1 ≤ R.frames ∧ 8 + (maxL + 11) + lo ≤ R.locals) :
    CallB R s args own idx y bytes maxL ret (fx_l y bytes maxL ret) { frames := fr, cells := mc, slots := ms, locals := lo } mc ms n :=
  callB_of n hT (fx_good0 h.1) rfl rfl rfl (hT _ h.2.2.1) (hT _ h.2.1) h.2.2.2 hR
/-- invokevirtual, by an object of class C -/
theorem fj_callV {S : Type} {F : S → Nat → Nat × va_E} {g : S} {A : Nat → Prop} {post : Option Value → S → Prop} {fr lo mc ms : Nat} {y : MethodName} {bytes : ByteArray} {maxL n idx b : Nat} {ret : Option FieldType} {own C : String} {As : List Value} {st0 : List Value}
    (hx : p.tables.exec = Jvm.exec) (hb : c.code = cc) (hml : c.maxLocals = nL) (hown : s.vm.findClass own = some m.cls) (hT : ∀ w ∈ fx_ws, w.before args s = true) (hE : fx_E Z s) (hSt : fx_S A s s.heap)
    (hA : ∀ k, k < N → A (ad k)) (hA2 : ∀ q, s.heap.size ≤ q → A q) (hP : va_P Z.1 vwCl (iw N (F g)) H) (hS : va_S A s.heap H locs)
    (hM : fj_C l Z y bytes maxL ret fr lo mc ms N ad F g (.ref b :: As) post) (hok : fj_ok own idx y bytes maxL ret n) (hins : Cond.instanceMethod y ∈ fx_ws) (hsel : (Cond.selects C y y).before args s = true)
    (hrecv : ∃ cellB : Cell, H[b]? = some cellB ∧ cellB.vm.isStatics = false ∧ s.vm.findClass C = some cellB.cls)
    (hst0 : st0 = As.reverse ++ .ref b :: rest) (hroom : fr + 1 ≤ R.frames ∧ 8 + (maxL + 11) + lo ≤ R.locals) (hn : As.length = n) (hsize : ls.size = nL) (hrest : (rest.map fun v => v.category).sum ≤ 8)
    (hcap : cells + mc ≤ R.cells ∧ slots + ms ≤ R.slots) (hdg : decode cc pc = .ok (.invokevirtual idx, 3))
    (kk : ∀ (v : Option Value) (u : S) (H1 : Heap) (locs1 : List Loc), post v u → va_P Z.1 vwCl (iw N (F u)) H1 → va_S A s.heap H1 locs1 → H.size ≤ H1.size → (∀ q : Nat, q < H.size → ¬ fx_A N ad H.size q → H1[q]? = H[q]?) → W p l e R s m args below meth c H1 locs1 (cells + mc) (slots + ms) Q (F0 m (pc + 3) ls (v.toList ++ rest))) :
    W p l e R s m args below meth c H locs cells slots Q (F0 m pc ls st0) := by
  have hrun := va_runV (p := p) (l := l) (e := e) (R := R) (s := s) (m := m) (args := args) (below := below) (meth := meth) (c := c) (H := H) (locs := locs) (cells := cells) (slots := slots) (rest := rest) (g := F0 m pc ls st0) (Ts := fx_ws) (C := C)
    ⟨hx, hb, hml, hown, hT⟩ (hM H.size) ⟨fj_cb hT hok hroom, hT _ hins, hsel⟩
    ⟨fx_blind, hrecv, fun U hU hW => ⟨rfl, by rw [hU], by rw [hU]; exact hP, hE.warm hW, fx_Sat hSt hS hU hW hA hA2⟩⟩ rfl hn hsize hst0 (lv_room hrest) hdg hcap
  exact fj_back hrun hS (fx_sub hS hA hA2) kk
/-- invokestatic -/
theorem fj_callS {S : Type} {F : S → Nat → Nat × va_E} {g : S} {A : Nat → Prop} {post : Option Value → S → Prop} {fr lo mc ms : Nat} {y : MethodName} {bytes : ByteArray} {maxL n idx : Nat} {ret : Option FieldType} {own : String} {As : List Value} {st0 : List Value}
    (hx : p.tables.exec = Jvm.exec) (hb : c.code = cc) (hml : c.maxLocals = nL) (hown : s.vm.findClass own = some m.cls) (hT : ∀ w ∈ fx_ws, w.before args s = true) (hE : fx_E Z s) (hSt : fx_S A s s.heap)
    (hA : ∀ k, k < N → A (ad k)) (hA2 : ∀ q, s.heap.size ≤ q → A q) (hP : va_P Z.1 vwCl (iw N (F g)) H) (hS : va_S A s.heap H locs)
    (hM : fj_C l Z y bytes maxL ret fr lo mc ms N ad F g As post) (hok : fj_ok own idx y bytes maxL ret n) (hstt : Cond.static y ∈ fx_ws)
    (hst0 : st0 = As.reverse ++ rest) (hroom : fr + 1 ≤ R.frames ∧ 8 + (maxL + 11) + lo ≤ R.locals) (hn : As.length = n) (hsize : ls.size = nL) (hrest : (rest.map fun v => v.category).sum ≤ 8)
    (hcap : cells + mc ≤ R.cells ∧ slots + ms ≤ R.slots) (hdg : decode cc pc = .ok (.invokestatic idx, 3))
    (kk : ∀ (v : Option Value) (u : S) (H1 : Heap) (locs1 : List Loc), post v u → va_P Z.1 vwCl (iw N (F u)) H1 → va_S A s.heap H1 locs1 → H.size ≤ H1.size → (∀ q : Nat, q < H.size → ¬ fx_A N ad H.size q → H1[q]? = H[q]?) → W p l e R s m args below meth c H1 locs1 (cells + mc) (slots + ms) Q (F0 m (pc + 3) ls (v.toList ++ rest))) :
    W p l e R s m args below meth c H locs cells slots Q (F0 m pc ls st0) := by
  have hrun := va_runS (p := p) (l := l) (e := e) (R := R) (s := s) (m := m) (args := args) (below := below) (meth := meth) (c := c) (H := H) (locs := locs) (cells := cells) (slots := slots) (rest := rest) (g := F0 m pc ls st0) (Ts := fx_ws)
    ⟨hx, hb, hml, hown, hT⟩ (hM H.size) ⟨fj_cb hT hok hroom, hT _ hstt⟩
    ⟨fx_blind, fun U hU hW => ⟨rfl, by rw [hU], by rw [hU]; exact hP, hE.warm hW, fx_Sat hSt hS hU hW hA hA2⟩⟩ rfl hn hsize hst0 (lv_room hrest) hdg hcap
  exact fj_back hrun hS (fx_sub hS hA hA2) kk
/-- invokespecial of the class above's method -/
theorem fj_callU {S : Type} {F : S → Nat → Nat × va_E} {g : S} {A : Nat → Prop} {post : Option Value → S → Prop} {fr lo mc ms : Nat} {y : MethodName} {bytes : ByteArray} {maxL n idx b : Nat} {ret : Option FieldType} {own C : String} {cC : ClassId} {As : List Value} {st0 : List Value}
    (hat : ClassAt s C cC) (hx : p.tables.exec = Jvm.exec) (hb : c.code = cc) (hml : c.maxLocals = nL) (hown : s.vm.findClass own = some m.cls) (hT : ∀ w ∈ fx_ws, w.before args s = true) (hE : fx_E Z s) (hSt : fx_S A s s.heap)
    (hA : ∀ k, k < N → A (ad k)) (hA2 : ∀ q, s.heap.size ≤ q → A q) (hP : va_P Z.1 vwCl (iw N (F g)) H) (hS : va_S A s.heap H locs)
    (hM : fj_C l Z y bytes maxL ret fr lo mc ms N ad F g (.ref b :: As) post) (hgood : GoodIn fx_ws (va_wsSU own idx y (fx_l y bytes maxL ret))) (hd : y.name ≠ "<init>" ∧ (parseMethodDescriptor y.desc).map (fun d => d.parameters.length) = some n)
    (hrecv : ∃ cellB : Cell, H[b]? = some cellB ∧ cellB.vm.isStatics = false ∧ s.vm.findClass C = some cellB.cls)
    (hst0 : st0 = As.reverse ++ .ref b :: rest) (hroom : fr + 1 ≤ R.frames ∧ 8 + (maxL + 11) + lo ≤ R.locals) (hn : As.length = n) (hsize : ls.size = nL) (hrest : (rest.map fun v => v.category).sum ≤ 8)
    (hcap : cells + mc ≤ R.cells ∧ slots + ms ≤ R.slots) (hdg : decode cc pc = .ok (.invokespecial idx, 3))
    (kk : ∀ (v : Option Value) (u : S) (H1 : Heap) (locs1 : List Loc), post v u → va_P Z.1 vwCl (iw N (F u)) H1 → va_S A s.heap H1 locs1 → H.size ≤ H1.size → (∀ q : Nat, q < H.size → ¬ fx_A N ad H.size q → H1[q]? = H[q]?) → W p l e R s m args below meth c H1 locs1 (cells + mc) (slots + ms) Q (F0 m (pc + 3) ls (v.toList ++ rest))) :
    W p l e R s m args below meth c H locs cells slots Q (F0 m pc ls st0) := by
  have hrun := va_runSU (p := p) (l := l) (e := e) (R := R) (s := s) (m := m) (args := args) (below := below) (meth := meth) (c := c) (H := H) (locs := locs) (cells := cells) (slots := slots) (rest := rest) (g := F0 m pc ls st0) (Ts := fx_ws) (C := C)
    hat ⟨hx, hb, hml, hown, hT⟩ (hM H.size) (va_cwSU n hT hgood rfl rfl rfl hd hroom)
    ⟨fx_blind, hrecv, fun U hU hW => ⟨rfl, by rw [hU], by rw [hU]; exact hP, hE.warm hW, fx_Sat hSt hS hU hW hA hA2⟩⟩ rfl hn hsize hst0 (lv_room hrest) hdg hcap
  exact fj_back hrun hS (fx_sub hS hA hA2) kk
/-- ends of such methods -/
theorem fj_reti {S : Type} {F : S → Nat → Nat × va_E} {u : S} {post : Option Value → S → Prop} {mc ms : Nat} {v : Int32} {ty : FieldType} (hx : p.tables.exec = Jvm.exec) (hb : c.code = cc) (hr : meth.sig.returnType = some ty) (hlocks : meth.locks = false) (hn : narrow ty (.int v) = .int v)
    (hP : va_P Z.1 vwCl (iw N (F u)) H) (hS : va_S (fx_A N ad s.heap.size) s.heap H locs) (hc : cells ≤ mc) (hs : slots ≤ ms) (hdg : decode cc pc = .ok (.ireturn, 1)) (hp : post (some (.int v)) u) :
    W p l e R s m args below meth c H locs cells slots (MQ below (fx_post Z N ad F post s.heap.size) args s mc ms (fx_A N ad s.heap.size)) (F0 m pc ls [.int v]) := by
  refine W.widen (k := mc) (n := ms) hc hs (W.zret (v := v) hx hb hr hn (fun t ht hW => ⟨_, u, rfl, hp, by rw [ht]; exact hP, hS.F ht⟩) hS.2.2 hdg hlocks)
theorem fj_retv {S : Type} {F : S → Nat → Nat × va_E} {u : S} {post : Option Value → S → Prop} {mc ms : Nat} (hx : p.tables.exec = Jvm.exec) (hb : c.code = cc) (hr : meth.sig.returnType = none) (hlocks : meth.locks = false)
    (hP : va_P Z.1 vwCl (iw N (F u)) H) (hS : va_S (fx_A N ad s.heap.size) s.heap H locs) (hc : cells ≤ mc) (hs : slots ≤ ms) (hdg : decode cc pc = .ok (.return_, 1)) (hp : post none u) :
    W p l e R s m args below meth c H locs cells slots (MQ below (fx_post Z N ad F post s.heap.size) args s mc ms (fx_A N ad s.heap.size)) (F0 m pc ls []) := by
  refine W.widen (k := mc) (n := ms) hc hs (W.vret hx hb hr (fun t ht hW => ⟨_, u, rfl, hp, by rw [ht]; exact hP, hS.F ht⟩) hS.2.2 hdg hlocks)
theorem fj_reta {S : Type} {F : S → Nat → Nat × va_E} {u : S} {post : Option Value → S → Prop} {mc ms a : Nat} {rt : FieldType} (hx : p.tables.exec = Jvm.exec) (hb : c.code = cc) (hr : meth.sig.returnType = some rt) (hrt : (∃ n, rt = .object n) ∨ ∃ t, rt = .array t) (hlocks : meth.locks = false)
    (hP : va_P Z.1 vwCl (iw N (F u)) H) (hS : va_S (fx_A N ad s.heap.size) s.heap H locs) (hc : cells ≤ mc) (hs : slots ≤ ms) (hdg : decode cc pc = .ok (.areturn, 1)) (hp : post (some (.ref a)) u) :
    W p l e R s m args below meth c H locs cells slots (MQ below (fx_post Z N ad F post s.heap.size) args s mc ms (fx_A N ad s.heap.size)) (F0 m pc ls [.ref a]) := by
  refine W.widen (k := mc) (n := ms) hc hs (W.aret (v := .ref a) hx hb hr hrt (Or.inr ⟨a, rfl⟩) (fun t ht hW => ⟨_, u, rfl, hp, by rw [ht]; exact hP, hS.F ht⟩) hS.2.2 hdg hlocks)
end FXJ
theorem i_J4 : ∀ w ∈ wsJ40, w ∈ fx_ws := by
  intro w hw
  obtain ⟨k, hk, rfl⟩ := List.mem_map.mp hw
  have hk : k < 4 := List.mem_range.mp hk
  have key : ∀ k, k < 4 → u_lay RJ4 TJ4 k ∈ fx_ws := by
    intro k hk
    match k, hk with
    | 0, _ => exact fx_w 496 (by decide +kernel) rfl
    | 1, _ => exact fx_w 498 (by decide +kernel) rfl
    | 2, _ => exact fx_w 500 (by decide +kernel) rfl
    | 3, _ => exact fx_w 502 (by decide +kernel) rfl
    | k + 4, h => exact absurd h (by omega)
  exact key k hk
theorem j_byte {k : Nat} (h : k < 128) : (nI k).toInt8.toInt32 = nI k := by
  have key : ∀ k, k < 128 → (nI k).toInt8.toInt32 = nI k := by decide +kernel
  exact key k h
section FXJ2
variable {p : Program} {l : Launch} {e : Env} {R : Room} {s : State} {m : MethodId} {args : Array Value} {below : List Frame} {meth : Method} {c : Code} {H : Heap} {locs : List Loc} {cells slots : Nat} {Q : State → Prop}
variable {Z : fx_Z} {b v : Nat} {cc : ByteArray} {pc nL : Nat} {ls : Array Slot} {rest : List Value} {u : SB} {own : String}
/-- the standing facts of a method over a StringBuilder's world -/
def j_K (p : Program) (s : State) (m : MethodId) (args : Array Value) (c : Code) (cc : ByteArray) (nL : Nat) (own : String) (Z : fx_Z) (b v : Nat) : Prop :=
  p.tables.exec = Jvm.exec ∧ c.code = cc ∧ c.maxLocals = nL ∧ s.vm.findClass own = some m.cls ∧ (∀ w ∈ fx_ws, w.before args s = true) ∧ fx_E Z s ∧ fx_S (fx_A 2 (jad b v) s.heap.size) s s.heap ∧ b ≠ v
theorem j_A {k : Nat} (hk : k < 2) : fx_A 2 (jad b v) s.heap.size (jad b v k) := Or.inl ⟨k, hk, rfl⟩
theorem j_A2 : ∀ q, s.heap.size ≤ q → fx_A 2 (jad b v) s.heap.size q := fun q h => Or.inr h
theorem j_D (hi : b ≠ v) : va_D (fx_A 2 (jad b v) s.heap.size) (iw 2 (jF b v (Z.2.1 5) u)) := fx_D (jinj hi) (jF_1 u) (fun k hk => j_A hk)
theorem j_recv (hE : fx_E Z s) (hP : va_P Z.1 vwCl (iw 2 (jF b v (Z.2.1 5) u)) H) : ∃ cellB : Cell, H[b]? = some cellB ∧ cellB.vm.isStatics = false ∧ s.vm.findClass RJ4 = some cellB.cls :=
  va_recv hE.1 hP (ci := 0) (q0 := 0) (q := (RJ4, TJ4, 4)) rfl rfl
theorem j_cls (hE : fx_E Z s) : ∃ cC, ClassAt s RJ4 cC := ⟨_, (hE.1.1 0 (RJ4, TJ4, 4) rfl).2⟩
/-- a private method of the class above, by a StringBuilder -/
theorem j_sel {y : MethodName} (hT : ∀ w ∈ fx_ws, w.before args s = true) (hy : y.cls = RJ5) (hpriv : Cond.privateMethod y ∈ lw_tbl) (hps : (Cond.privateMethod y).before args s = true) (hinst : Cond.instanceMethod y ∈ fx_ws) : (Cond.selects RJ4 y y).before args s = true := by
  have h0 := hT (.selects RJ4 yJ5_isLatin1_aae02 yJ5_isLatin1_aae02) (fx_w 548 (by decide +kernel) rfl)
  obtain ⟨cc9, r9, m9, hc, -, hm9, -, k9, hk9, hni⟩ := Cond.selects_spec (args := args) (first := s) (o := none) (s := s) (idx := []) h0
  obtain ⟨mk, methM, hnamed, hmethM, -, -⟩ := Cond.instanceMethod_spec (hT _ hinst)
  have hMH : y.cls ≠ "java/lang/invoke/MethodHandle" ∧ y.cls ≠ "java/lang/invoke/VarHandle" := by rw [hy]; exact ⟨by decide, by decide⟩
  have hfound : s.methodFound? y.cls y.name y.desc = some mk := State.methodFound?_of_named hnamed hMH
  have hcls : mk.cls = m9.cls := by
    have h1 : s.vm.findClass y.cls = some mk.cls := findClass_of_methodNamed hnamed
    have h2 : s.vm.findClass yJ5_isLatin1_aae02.cls = some m9.cls := findClass_of_methodNamed hm9
    rw [hy] at h1
    exact Option.some.inj (h1.symm.trans h2)
  have hsel : selectMethod {} s.vm cc9 mk = .method mk := selectMethod_private hmethM (Cond.privateMethod_at hps mk methM hnamed hmethM)
  have hk : s.vm.classes[mk.cls]? = some k9 := by rw [hcls]; exact hk9
  simp only [Cond.before, Cond.holds, Cond.value, hc, hfound, hnamed, hsel, hk]
  simp; exact hni
theorem jg_value (K : j_K p s m args c cc nL RJ5 Z b v) (hP : va_P Z.1 vwCl (iw 2 (jF b v (Z.2.1 5) u)) H) (hdg : decode cc pc = .ok (.getfield 15, 3)) (kk : W p l e R s m args below meth c H locs cells slots Q (F0 m (pc + 3) ls (.ref v :: rest))) : W p l e R s m args below meth c H locs cells slots Q (F0 m pc ls (.ref b :: rest)) := by
  obtain ⟨hx, hb, -, hown, hT, hE, -⟩ := K
  exact va_get (D := Z.1) (ci := 0) (v := .ref v) (C := RJ4) (T := TJ4) (N := 4) (ref := "java/lang/AbstractStringBuilder") hx hb hT i_J4 hown hE.1 hP 0 rfl rfl 0 (by decide) (hT (.fieldLink RJ5 15 "java/lang/AbstractStringBuilder" "value" "[B") (fx_w 493 (by decide +kernel) rfl)) (fun _ h9 => h9) rfl hdg kk
theorem jg_coder (K : j_K p s m args c cc nL RJ5 Z b v) (hP : va_P Z.1 vwCl (iw 2 (jF b v (Z.2.1 5) u)) H) (hdg : decode cc pc = .ok (.getfield 22, 3)) (kk : W p l e R s m args below meth c H locs cells slots Q (F0 m (pc + 3) ls (.int 0 :: rest))) : W p l e R s m args below meth c H locs cells slots Q (F0 m pc ls (.ref b :: rest)) := by
  obtain ⟨hx, hb, -, hown, hT, hE, -⟩ := K
  exact va_get (D := Z.1) (ci := 0) (v := .int 0) (C := RJ4) (T := TJ4) (N := 4) (ref := "java/lang/AbstractStringBuilder") hx hb hT i_J4 hown hE.1 hP 0 rfl rfl 1 (by decide) (hT (.fieldLink RJ5 22 "java/lang/AbstractStringBuilder" "coder" "B") (fx_w 494 (by decide +kernel) rfl)) (fun _ h9 => h9) rfl hdg kk
theorem jg_count (K : j_K p s m args c cc nL RJ5 Z b v) (hP : va_P Z.1 vwCl (iw 2 (jF b v (Z.2.1 5) u)) H) (hdg : decode cc pc = .ok (.getfield 79, 3)) (kk : W p l e R s m args below meth c H locs cells slots Q (F0 m (pc + 3) ls (.int (nI u.2) :: rest))) : W p l e R s m args below meth c H locs cells slots Q (F0 m pc ls (.ref b :: rest)) := by
  obtain ⟨hx, hb, -, hown, hT, hE, -⟩ := K
  exact va_get (D := Z.1) (ci := 0) (v := .int (nI u.2)) (C := RJ4) (T := TJ4) (N := 4) (ref := "java/lang/AbstractStringBuilder") hx hb hT i_J4 hown hE.1 hP 0 rfl rfl 3 (by decide) (hT (.fieldLink RJ5 79 "java/lang/AbstractStringBuilder" "count" "I") (fx_w 495 (by decide +kernel) rfl)) (fun _ h9 => h9) rfl hdg kk
theorem jp_count {t : Nat → Nat} {n n2 : Nat} (K : j_K p s m args c cc nL RJ5 Z b v) (hP : va_P Z.1 vwCl (iw 2 (jF b v (Z.2.1 5) (t, n))) H) (hS : va_S (fx_A 2 (jad b v) s.heap.size) s.heap H locs) (hdg : decode cc pc = .ok (.putfield 79, 3))
    (kk : ∀ (H1 : Heap) (locs1 : List Loc), va_P Z.1 vwCl (iw 2 (jF b v (Z.2.1 5) (t, n2))) H1 → va_S (fx_A 2 (jad b v) s.heap.size) s.heap H1 locs1 → W p l e R s m args below meth c H1 locs1 cells slots Q (F0 m (pc + 3) ls rest)) : W p l e R s m args below meth c H locs cells slots Q (F0 m pc ls (.int (nI n2) :: .ref b :: rest)) := by
  obtain ⟨hx, hb, -, hown, hT, hE, -, hi9⟩ := K
  refine va_put (D := Z.1) (ci := 0) (v := .int (nI n2)) (ty := .int) (C := RJ4) (T := TJ4) (N := 4) (ref := "java/lang/AbstractStringBuilder") hx hb hT i_J4 tyJ4 tyJ4_ok nmJ4 hown hE.1 hP (j_D hi9) hS 0 rfl rfl 3 (by decide) (hT (.fieldLink RJ5 79 "java/lang/AbstractStringBuilder" "count" "I") (fx_w 495 (by decide +kernel) rfl)) (fun _ h9 => h9) rfl (by decide +kernel) rfl rfl (Nat.le_of_ble_eq_true rfl) hdg fun H1 locs1 hP1 _ hS1 => ?_
  exact kk H1 locs1 hP1 hS1
theorem j_bald {i : Nat} (K : j_K p s m args c cc nL own Z b v) (hP : va_P Z.1 vwCl (iw 2 (jF b v (Z.2.1 5) u)) H) (hi : i < 16) (hdg : decode cc pc = .ok (.baload, 1)) (kk : W p l e R s m args below meth c H locs cells slots Q (F0 m (pc + 1) ls (.int (nI (u.1 i)) :: rest))) : W p l e R s m args below meth c H locs cells slots Q (F0 m pc ls (.int (nI i) :: .ref v :: rest)) := by
  obtain ⟨hx, hb, -, hown, hT, hE, -⟩ := K
  refine va_bald (n := 16) (f := fun j => nI (u.1 j)) hx hb hE.1 hP 1 5 rfl rfl (vp_in_nI hi (by decide)) hdg ?_
  rw [nI_clamp (by omega)]
  exact kk
theorem j_bast {t : Nat → Nat} {n i k : Nat} (K : j_K p s m args c cc nL own Z b v) (hP : va_P Z.1 vwCl (iw 2 (jF b v (Z.2.1 5) (t, n))) H) (hS : va_S (fx_A 2 (jad b v) s.heap.size) s.heap H locs) (hi : i < 16) (hk : k < 128) (hdg : decode cc pc = .ok (.bastore, 1))
    (kk : ∀ (H1 : Heap) (locs1 : List Loc), va_P Z.1 vwCl (iw 2 (jF b v (Z.2.1 5) (va_up t i k, n))) H1 → va_S (fx_A 2 (jad b v) s.heap.size) s.heap H1 locs1 → W p l e R s m args below meth c H1 locs1 cells slots Q (F0 m (pc + 1) ls rest)) : W p l e R s m args below meth c H locs cells slots Q (F0 m pc ls (.int (nI k) :: .int (nI i) :: .ref v :: rest)) := by
  obtain ⟨hx, hb, -, hown, hT, hE, -, hi9⟩ := K
  refine va_bast (n := 16) (f := fun j => nI (t j)) hx hb hE.1 hP (j_D hi9) hS 1 5 rfl rfl (vp_in_nI hi (by decide)) hdg fun H1 locs1 hP1 _ hS1 => ?_
  rw [nI_clamp (by omega), vp_nar_byte, j_byte hk, jF_t] at hP1
  exact kk H1 locs1 hP1 hS1
theorem j_alen (K : j_K p s m args c cc nL own Z b v) (hP : va_P Z.1 vwCl (iw 2 (jF b v (Z.2.1 5) u)) H) (hdg : decode cc pc = .ok (.arraylength, 1)) (kk : W p l e R s m args below meth c H locs cells slots Q (F0 m (pc + 1) ls (.int 16 :: rest))) : W p l e R s m args below meth c H locs cells slots Q (F0 m pc ls (.ref v :: rest)) := by
  obtain ⟨hx, hb, -, hown, hT, hE, -⟩ := K
  exact va_alen (x := (16, .inl (fun j => nI (u.1 j)))) (v := 16) hx hb hE.1 hP 1 5 rfl rfl rfl hdg kk
/-- a digit out of the tables -/
theorem j_dig {f : Nat → Nat} {t i : Nat} (K : j_K p s m args c cc nL own Z b v) (hZ : va_T .byte t 100 (fun j => .int (nI (f j))) (fx_A 2 (jad b v) s.heap.size) s s.heap) (hS : va_S (fx_A 2 (jad b v) s.heap.size) s.heap H locs) (hi : i < 100) (hdg : decode cc pc = .ok (.baload, 1)) (kk : W p l e R s m args below meth c H locs cells slots Q (F0 m (pc + 1) ls (.int (nI (f i)) :: rest))) : W p l e R s m args below meth c H locs cells slots Q (F0 m pc ls (.int (nI i) :: .ref t :: rest)) := by
  obtain ⟨hx, hb, -⟩ := K
  exact va_tb (v := .int (nI (f i))) hx hb hZ hS (vp_in_nI hi (by decide)) (by rw [nI_clamp (by omega)]) hdg kk
end FXJ2
