/-! ===== my kit: the uniform contract, calls, ends ===== -/
def fx_pre (Z : fx_Z) (N : Nat) (ad : Nat → Nat) (F : Nat → Nat × va_E) (av : List Value) (sz : Nat) : Array Value → State → Prop :=
  va_Pc av (fun U => U.heap.size = sz ∧ va_P Z.1 vwCl (iw N F) U.heap ∧ fx_E Z U ∧ fx_S (fx_A N ad sz) U U.heap)
def fx_post {S : Type} (Z : fx_Z) (N : Nat) (ad : Nat → Nat) (F : S → Nat → Nat × va_E) (post : Option Value → S → Prop) (sz : Nat) : Array Value → State → Outcome → State → Prop :=
  fun _ st oc t => ∃ (v : Option Value) (u : S), oc = .returned v ∧ post v u ∧ va_P Z.1 vwCl (iw N (F u)) t.heap ∧ va_F (fx_A N ad sz) st t
def fx_px (Z : fx_Z) (N : Nat) (ad : Nat → Nat) (F : Nat → Nat × va_E) (px : String → Prop) (sz : Nat) : String → State → State → Prop :=
  fun E st t => px E ∧ va_P Z.1 vwCl (iw N F) t.heap ∧ va_F (fx_A N ad sz) st t
def fx_C {S : Type} (l : Launch) (Z : fx_Z) (y : MethodName) (cc : ByteArray) (nL : Nat) (ret : Option FieldType) (fr lo mc ms : Nat) (N : Nat) (ad : Nat → Nat) (F : S → Nat → Nat × va_E) (g : S) (av : List Value) (post : Option Value → S → Prop) (px : String → Prop) : Prop :=
  ∀ sz : Nat, vx_Met l y (fx_l y cc nL ret) { frames := fr, cells := mc, slots := ms, locals := lo } (fx_pre Z N ad (F g) av sz) (fx_post Z N ad F post sz) (fx_px Z N ad (F g) px sz) mc ms (fx_A N ad sz)
theorem fx_blind {Z : fx_Z} {N : Nat} {ad : Nat → Nat} {F : Nat → Nat × va_E} {av : List Value} {sz : Nat} : FrameBlind (fx_pre Z N ad F av sz) := by
  intro a U g mk h
  obtain ⟨h0, h1, h2, h3, h4⟩ := h
  exact ⟨h0, h1, h2, fx_E.same (U := U.calling g mk a) (u := U) rfl h3, fx_S.moved (U := U.calling g mk a) (Vm.Alike.refl U.vm) h4⟩
/-- a call's own words -/
def fx_ok (own : String) (idx : Nat) (C : String) (y : MethodName) (bytes : ByteArray) (maxL : Nat) (ret : Option FieldType) (n : Nat) : Prop :=
  Cond.code y bytes maxL ret ∈ fx_ws ∧ Cond.methodLink own idx y ∈ fx_ws ∧ Cond.instanceMethod y ∈ fx_ws ∧ Cond.selects C y y ∈ fx_ws ∧ Cond.initialized C ∈ fx_ws ∧ (y.cls = C ∧ y.cls ≠ "java/lang/invoke/MethodHandle" ∧ y.cls ≠ "java/lang/invoke/VarHandle" ∧ (parseMethodDescriptor y.desc).map (fun d => d.parameters.length) = some n)
theorem fx_good0 {y : MethodName} {cc : ByteArray} {n : Nat} {ret : Option FieldType} (h : Cond.code y cc n ret ∈ fx_ws) : GoodIn fx_ws (fx_l y cc n ret) := by
  intro w hw
  refine ⟨?_, good_of_word (fx_lg w hw)⟩
  rcases List.mem_cons.mp hw with rfl | h9
  · exact h
  · exact h9
section FXC
variable {p : Program} {l : Launch} {e : Env} {R : Room} {s : State} {m : MethodId} {args : Array Value} {below : List Frame} {meth : Method} {c : Code} {H : Heap} {locs : List Loc} {cells slots : Nat} {Q : State → Prop}
variable {Z : fx_Z} {N : Nat} {ad : Nat → Nat} {cc : ByteArray} {pc : Nat} {ls : Array Slot} {rest : List Value}
/-- what the start's statics and the like are, seen at a call -/
theorem fx_Sat {A : Nat → Prop} {U : State} (hSt : fx_S A s s.heap) (hS : va_S A s.heap H locs) (hU : U.heap = H) (hW : s.WarmedH U.vm) (hA : ∀ k, k < N → A (ad k)) (hA2 : ∀ q, s.heap.size ≤ q → A q) : fx_S (fx_A N ad H.size) U U.heap := by
  rw [hU]
  refine fx_S.moved hW.alike ((hSt.kept hS.2.1).narrow fun q hq => ?_)
  rcases hq with ⟨k, hk, rfl⟩ | h
  · exact hA k hk
  · exact hA2 q (Nat.le_trans hS.1 h)
theorem fx_sub {A : Nat → Prop} (hS : va_S A s.heap H locs) (hA : ∀ k, k < N → A (ad k)) (hA2 : ∀ q, s.heap.size ≤ q → A q) : ∀ q, fx_A N ad H.size q → A q := by
  intro q hq
  rcases hq with ⟨k, hk, rfl⟩ | h
  · exact hA k hk
  · exact hA2 q (Nat.le_trans hS.1 h)
/-- behind any call: it returned, or it threw -/
theorem fx_back {S : Type} {F : S → Nat → Nat × va_E} {F0g : Nat → Nat × va_E} {A : Nat → Prop} {post : Option Value → S → Prop} {px : String → Prop} {mc ms : Nat} {a : Array Value} {st0 : List Value}
    (hr : vx_Run p l e R s m args below meth c H locs cells slots mc ms (F0 m pc ls st0) rest (fx_post Z N ad F post H.size a) (fx_px Z N ad F0g px H.size) (fx_A N ad H.size))
    (hS : va_S A s.heap H locs) (hsub : ∀ q, fx_A N ad H.size q → A q)
    (kx : ∀ (E : String) (ce : Cell) (q9 : Addr) (H1 : Heap) (locs1 : List Loc), px E → va_P Z.1 vwCl (iw N F0g) H1 → va_S A s.heap H1 locs1 → H.size ≤ H1.size → (∀ q : Nat, q < H.size → ¬ fx_A N ad H.size q → H1[q]? = H[q]?) → H1[q9]? = some ce → ce.vm = .none → s.vm.findClass E = some ce.cls → vx_W p l e R s m args below meth c H1 locs1 (cells + mc) (slots + ms) Q (F0 m pc ls rest) q9)
    (kk : ∀ (v : Option Value) (u : S) (H1 : Heap) (locs1 : List Loc), post v u → va_P Z.1 vwCl (iw N (F u)) H1 → va_S A s.heap H1 locs1 → H.size ≤ H1.size → (∀ q : Nat, q < H.size → ¬ fx_A N ad H.size q → H1[q]? = H[q]?) → W p l e R s m args below meth c H1 locs1 (cells + mc) (slots + ms) Q (F0 m (pc + 3) ls (v.toList ++ rest))) :
    W p l e R s m args below meth c H locs cells slots Q (F0 m pc ls st0) := by
  intro T hT X
  rcases hr T hT X with ⟨v, st₀, t, T', L, h0, X', hL, e1, e2, ⟨v', u, hv, hp, hb, hF⟩, st⟩ | ⟨q, st₀, t, T', L, E, ce, h0, X', hL, e1, e2, ⟨hp, hb, hF⟩, hce, hcv, hcl, st⟩
  · cases hv
    obtain ⟨k1, k2, k3⟩ := vx_keep h0 e1 hS (fun q _ h => hsub q h) hsub hL hF
    obtain ⟨t2, a1, b1⟩ := kk v u T'.heap (locs ++ L) hp (by rw [e1]; exact hb) k3 k1 k2 T' rfl X'
    exact ⟨t2, st t2 a1, b1⟩
  · obtain ⟨k1, k2, k3⟩ := vx_keep h0 e1 hS (fun q _ h => hsub q h) hsub hL hF
    obtain ⟨t2, a1, b1⟩ := kx E ce q T'.heap (locs ++ L) hp (by rw [e1]; exact hb) k3 k1 k2 (by rw [e1]; exact hce) hcv hcl T' rfl X'
    exact ⟨t2, st.trans a1, b1⟩
/-- invokevirtual of a method with the uniform contract -/
theorem fx_callV {S : Type} {F : S → Nat → Nat × va_E} {g : S} {A : Nat → Prop} {post : Option Value → S → Prop} {px : String → Prop} {fr lo mc ms nL : Nat} {y : MethodName} {bytes : ByteArray} {maxL n idx b : Nat} {ret : Option FieldType} {own C : String} {As : List Value} {st0 : List Value}
    (hx : p.tables.exec = Jvm.exec) (hb : c.code = cc) (hml : c.maxLocals = nL) (hown : s.vm.findClass own = some m.cls) (hT : ∀ w ∈ fx_ws, w.before args s = true) (hE : fx_E Z s) (hSt : fx_S A s s.heap)
    (hA : ∀ k, k < N → A (ad k)) (hA2 : ∀ q, s.heap.size ≤ q → A q) (hP : va_P Z.1 vwCl (iw N (F g)) H) (hS : va_S A s.heap H locs)
    (hM : fx_C l Z y bytes maxL ret fr lo mc ms N ad F g (.ref b :: As) post px) (hok : fx_ok own idx C y bytes maxL ret n)
    (hrecv : ∃ cellB : Cell, H[b]? = some cellB ∧ cellB.vm.isStatics = false ∧ s.vm.findClass C = some cellB.cls)
    (hst0 : st0 = As.reverse ++ .ref b :: rest) (hroom : fr + 1 ≤ R.frames ∧ 8 + (maxL + 11) + lo ≤ R.locals) (hn : As.length = n) (hsize : ls.size = nL) (hrest : (rest.map fun v => v.category).sum ≤ 8)
    (hcap : cells + mc ≤ R.cells ∧ slots + ms ≤ R.slots) (hdg : decode cc pc = .ok (.invokevirtual idx, 3))
    (kx : ∀ (E : String) (ce : Cell) (q9 : Addr) (H1 : Heap) (locs1 : List Loc), px E → va_P Z.1 vwCl (iw N (F g)) H1 → va_S A s.heap H1 locs1 → H.size ≤ H1.size → (∀ q : Nat, q < H.size → ¬ fx_A N ad H.size q → H1[q]? = H[q]?) → H1[q9]? = some ce → ce.vm = .none → s.vm.findClass E = some ce.cls → vx_W p l e R s m args below meth c H1 locs1 (cells + mc) (slots + ms) Q (F0 m pc ls rest) q9)
    (kk : ∀ (v : Option Value) (u : S) (H1 : Heap) (locs1 : List Loc), post v u → va_P Z.1 vwCl (iw N (F u)) H1 → va_S A s.heap H1 locs1 → H.size ≤ H1.size → (∀ q : Nat, q < H.size → ¬ fx_A N ad H.size q → H1[q]? = H[q]?) → W p l e R s m args below meth c H1 locs1 (cells + mc) (slots + ms) Q (F0 m (pc + 3) ls (v.toList ++ rest))) :
    W p l e R s m args below meth c H locs cells slots Q (F0 m pc ls st0) := by
  obtain ⟨k1, k2, k3, k4, k5, k6⟩ := hok
  have hgood : GoodIn fx_ws (wsV own idx C y (fx_l y bytes maxL ret)) := by
    refine fun w hw => ?_
    rcases List.mem_append.mp hw with h | h
    · have : w ∈ fx_ws := by
        simp only [List.mem_cons, List.not_mem_nil, or_false] at h
        rcases h with rfl | rfl | rfl | rfl
        · exact k2
        · exact k3
        · exact k4
        · exact k5
      exact ⟨this, good_of_word (fx_wg this)⟩
    · exact fx_good0 k1 w h
  have hrun := vx_runV (p := p) (l := l) (e := e) (R := R) (s := s) (m := m) (args := args) (below := below) (meth := meth) (c := c) (H := H) (locs := locs) (cells := cells) (slots := slots) (rest := rest) (g := F0 m pc ls st0) (Ts := fx_ws)
    ⟨hx, hb, hml, hown, hT⟩ (hM H.size) (cwV n hT hgood rfl rfl rfl k6 hroom)
    ⟨fx_blind, hrecv, fun U hU hW => ⟨rfl, by rw [hU], by rw [hU]; exact hP, hE.warm hW, fx_Sat hSt hS hU hW hA hA2⟩⟩ rfl hn hsize hst0 (lv_room hrest) hdg hcap
  exact fx_back hrun hS (fx_sub hS hA hA2) kx kk
/-- ends -/
theorem fx_reti {S : Type} {F : S → Nat → Nat × va_E} {u : S} {post : Option Value → S → Prop} {XC : String → State → State → Prop} {mc ms : Nat} {v : Int32} (hx : p.tables.exec = Jvm.exec) (hb : c.code = cc) (hr : meth.sig.returnType = some .int) (hlocks : meth.locks = false)
    (hP : va_P Z.1 vwCl (iw N (F u)) H) (hS : va_S (fx_A N ad s.heap.size) s.heap H locs) (hc : cells ≤ mc) (hs : slots ≤ ms) (hdg : decode cc pc = .ok (.ireturn, 1)) (hp : post (some (.int v)) u) :
    W p l e R s m args below meth c H locs cells slots (vx_MQ below (fx_post Z N ad F post s.heap.size) XC args s mc ms (fx_A N ad s.heap.size)) (F0 m pc ls [.int v]) := by
  refine W.widen (k := mc) (n := ms) hc hs (vx_ret (W.iret (v := v) hx hb hr (fun t ht hW => ⟨_, u, rfl, hp, by rw [ht]; exact hP, hS.F ht⟩) hS.2.2 hdg hlocks))
theorem fx_retz {S : Type} {F : S → Nat → Nat × va_E} {u : S} {post : Option Value → S → Prop} {XC : String → State → State → Prop} {mc ms : Nat} {v : Int32} {ty : FieldType} (hx : p.tables.exec = Jvm.exec) (hb : c.code = cc) (hr : meth.sig.returnType = some ty) (hlocks : meth.locks = false) (hn : narrow ty (.int v) = .int v)
    (hP : va_P Z.1 vwCl (iw N (F u)) H) (hS : va_S (fx_A N ad s.heap.size) s.heap H locs) (hc : cells ≤ mc) (hs : slots ≤ ms) (hdg : decode cc pc = .ok (.ireturn, 1)) (hp : post (some (.int v)) u) :
    W p l e R s m args below meth c H locs cells slots (vx_MQ below (fx_post Z N ad F post s.heap.size) XC args s mc ms (fx_A N ad s.heap.size)) (F0 m pc ls [.int v]) := by
  refine W.widen (k := mc) (n := ms) hc hs (vx_ret (W.zret (v := v) hx hb hr hn (fun t ht hW => ⟨_, u, rfl, hp, by rw [ht]; exact hP, hS.F ht⟩) hS.2.2 hdg hlocks))
theorem fx_retv {S : Type} {F : S → Nat → Nat × va_E} {u : S} {post : Option Value → S → Prop} {XC : String → State → State → Prop} {mc ms : Nat} (hx : p.tables.exec = Jvm.exec) (hb : c.code = cc) (hr : meth.sig.returnType = none) (hlocks : meth.locks = false)
    (hP : va_P Z.1 vwCl (iw N (F u)) H) (hS : va_S (fx_A N ad s.heap.size) s.heap H locs) (hc : cells ≤ mc) (hs : slots ≤ ms) (hdg : decode cc pc = .ok (.return_, 1)) (hp : post none u) :
    W p l e R s m args below meth c H locs cells slots (vx_MQ below (fx_post Z N ad F post s.heap.size) XC args s mc ms (fx_A N ad s.heap.size)) (F0 m pc ls []) := by
  refine W.widen (k := mc) (n := ms) hc hs (vx_ret (W.vret hx hb hr (fun t ht hW => ⟨_, u, rfl, hp, by rw [ht]; exact hP, hS.F ht⟩) hS.2.2 hdg hlocks))
theorem fx_reta {S : Type} {F : S → Nat → Nat × va_E} {u : S} {post : Option Value → S → Prop} {XC : String → State → State → Prop} {mc ms a : Nat} {rt : FieldType} (hx : p.tables.exec = Jvm.exec) (hb : c.code = cc) (hr : meth.sig.returnType = some rt) (hrt : (∃ n, rt = .object n) ∨ ∃ t, rt = .array t) (hlocks : meth.locks = false)
    (hP : va_P Z.1 vwCl (iw N (F u)) H) (hS : va_S (fx_A N ad s.heap.size) s.heap H locs) (hc : cells ≤ mc) (hs : slots ≤ ms) (hdg : decode cc pc = .ok (.areturn, 1)) (hp : post (some (.ref a)) u) :
    W p l e R s m args below meth c H locs cells slots (vx_MQ below (fx_post Z N ad F post s.heap.size) XC args s mc ms (fx_A N ad s.heap.size)) (F0 m pc ls [.ref a]) := by
  refine W.widen (k := mc) (n := ms) hc hs (vx_ret (W.aret (v := .ref a) hx hb hr hrt (Or.inr ⟨a, rfl⟩) (fun t ht hW => ⟨_, u, rfl, hp, by rw [ht]; exact hP, hS.F ht⟩) hS.2.2 hdg hlocks))
/-- thrown by a callee, not caught here -/
theorem fx_out {F0g : Nat → Nat × va_E} {Qc : Array Value → State → Outcome → State → Prop} {px : String → Prop} {mc ms : Nat} {E : String} {ce : Cell} {q9 : Addr} (hout : ∀ x ∈ c.exceptionTable.toList, False) (hlocks : meth.locks = false)
    (hP : va_P Z.1 vwCl (iw N F0g) H) (hS : va_S (fx_A N ad s.heap.size) s.heap H locs) (hc : cells ≤ mc) (hs : slots ≤ ms) (hcell : H[q9]? = some ce) (hv : ce.vm = .none) (hcl : s.vm.findClass E = some ce.cls) (hp : px E) :
    vx_W p l e R s m args below meth c H locs cells slots (vx_MQ below Qc (fx_px Z N ad F0g px s.heap.size) args s mc ms (fx_A N ad s.heap.size)) (F0 m pc ls rest) q9 :=
  vx_out (fun x hx => absurd (hout x hx) id) hlocks hcell hv hcl (fun t ht hW => ⟨hp, by rw [ht]; exact hP, hS.F ht⟩) hS.2.2 hc hs
end FXC
