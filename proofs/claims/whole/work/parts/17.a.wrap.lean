/-! ===== the law's wrappers: the class's world and the out array ===== -/
abbrev WS : Type := St × Int64
def wF (ad : Nat → Nat) (cy : Nat → ClassId) (u : WS) (k : Nat) : Nat × va_E := if k < 115 then cF ad cy u.1 k else (ad k, .inl (cy 4, 1, .inr (.inl (fun _ => u.2))))
theorem wF_1 {ad : Nat → Nat} {cy : Nat → ClassId} (u : WS) : ∀ k, k < 116 → (wF ad cy u k).1 = ad k := by
  intro k hk
  unfold wF
  split <;> rfl
theorem wF_iw {ad : Nat → Nat} {cy : Nat → ClassId} (u : WS) : iw 116 (wF ad cy u) = iw 115 (cF ad cy u.1) ++ [(ad 115, .inl (cy 4, 1, .inr (.inl (fun _ => u.2))))] := by
  refine (iw_push (fun j hj => ?_) ?_).symm
  · unfold wF; rw [if_pos hj]
  · unfold wF; rw [if_neg (by decide)]
def fw_l (y : MethodName) (cc : ByteArray) (n : Nat) (hh : List (Nat × Nat × Nat × Nat)) : List Cond := Cond.codeWith y cc n (some .int) hh :: fx_ws
def fw_C (l : Launch) (Z : fx_Z) (y : MethodName) (cc : ByteArray) (nL : Nat) (hh : List (Nat × Nat × Nat × Nat)) (ad : Nat → Nat) (u : WS) (av : List Value) (code : Int32) (u2 : WS) : Prop :=
  ∀ sz : Nat, Met l y (fw_l y cc nL hh) { frames := 12, cells := 2, slots := 20, locals := 476 } (fx_pre Z 116 ad (wF ad Z.2.1 u) av sz) (fx_post Z 116 ad (wF ad Z.2.1) (fun w8 u8 => w8 = some (.int code) ∧ u8 = u2) sz) 2 20 (fx_A 116 ad sz)
section FXW
variable {p : Program} {l : Launch} {e : Env} {R : Room} {s : State} {m : MethodId} {args : Array Value} {below : List Frame} {meth : Method} {c : Code} {H : Heap} {locs : List Loc} {cells slots : Nat} {Q : State → Prop}
variable {Z : fx_Z} {ad : Nat → Nat} {cc : ByteArray} {pc nL : Nat} {ls : Array Slot} {rest : List Value} {g G : St} {o : Int64}
def w_K (p : Program) (l : Launch) (s : State) (m : MethodId) (args : Array Value) (c : Code) (cc : ByteArray) (nL : Nat) (Z : fx_Z) (ad : Nat → Nat) : Prop :=
  p.tables.exec = Jvm.exec ∧ c.code = cc ∧ c.maxLocals = nL ∧ s.vm.findClass RL = some m.cls ∧ (∀ w ∈ fx_ws, w.before args s = true) ∧ fx_E Z s ∧ fx_S (fx_A 116 ad s.heap.size) s s.heap ∧ fx_inj 116 ad
theorem w_split (hP : va_P Z.1 vwCl (iw 116 (wF ad Z.2.1 (g, o))) H) : va_P Z.1 vwCl (iw 115 (cF ad Z.2.1 g)) H ∧ va_P Z.1 vwCl [(ad 115, .inl (Z.2.1 4, 1, .inr (.inl (fun _ => o))))] H := by
  rw [wF_iw] at hP
  exact ⟨va_P_l hP, va_P_r hP⟩
theorem w_join (h1 : va_P Z.1 vwCl (iw 115 (cF ad Z.2.1 g)) H) (h2 : va_P Z.1 vwCl [(ad 115, .inl (Z.2.1 4, 1, .inr (.inl (fun _ => o))))] H) : va_P Z.1 vwCl (iw 116 (wF ad Z.2.1 (g, o))) H := by
  rw [wF_iw]
  exact h1.app h2
theorem w_notin (hi : fx_inj 116 ad) (hl : ad 115 < H.size) : ¬ fx_A 115 ad H.size (ad 115) := by
  rintro (⟨k, hk, e9⟩ | h)
  · have := hi k 115 (by omega) (by decide) e9
    omega
  · omega
theorem w_at0 (hP : va_P Z.1 vwCl [(ad 115, .inl (Z.2.1 4, 1, .inr (.inl (fun _ => o))))] H) : ad 115 < H.size := (hP 0 _ rfl).lt
/-- the call of the class's method: it returned -/
theorem w_ok {fr lo mc ms n idx maxL : Nat} {y : MethodName} {bytes : ByteArray} {ret : Option FieldType} {As st0 : List Value} {r : Int32} (K : w_K p l s m args c cc nL Z ad) (hP : va_P Z.1 vwCl (iw 116 (wF ad Z.2.1 (g, o))) H) (hS : va_S (fx_A 116 ad s.heap.size) s.heap H locs)
    (hM : fx_C l Z y bytes maxL ret fr lo mc ms 115 ad (cF ad Z.2.1) g (.ref (ad 0) :: As) (pI r G) (fun _ => False)) (hok : fx_ok RL idx RX3 y bytes maxL ret n) (hst0 : st0 = As.reverse ++ .ref (ad 0) :: rest)
    (hroom : fr + 1 ≤ R.frames ∧ 8 + (maxL + 11) + lo ≤ R.locals) (hn : As.length = n) (hsize : ls.size = nL) (hrest : (rest.map fun v => v.category).sum ≤ 8) (hcap : cells + mc ≤ R.cells ∧ slots + ms ≤ R.slots) (hdg : decode cc pc = .ok (.invokevirtual idx, 3))
    (kk : ∀ (H1 : Heap) (locs1 : List Loc), va_P Z.1 vwCl (iw 116 (wF ad Z.2.1 (G, o))) H1 → va_S (fx_A 116 ad s.heap.size) s.heap H1 locs1 → W p l e R s m args below meth c H1 locs1 (cells + mc) (slots + ms) Q (F0 m (pc + 3) ls (.int r :: rest))) :
    W p l e R s m args below meth c H locs cells slots Q (F0 m pc ls st0) := by
  obtain ⟨hx, hb, hml, hown, hT, hE, hSt, hinj⟩ := K
  obtain ⟨hPc, hPo⟩ := w_split hP
  have hrecv : ∃ cellB : Cell, H[ad 0]? = some cellB ∧ cellB.vm.isStatics = false ∧ s.vm.findClass RX3 = some cellB.cls := va_recv hE.1 hPc (ci := 4) (q0 := 0) (q := (RX3, TX3, 7)) rfl (by rw [iw_at (by decide)]; rfl)
  refine fx_callV (A := fx_A 116 ad s.heap.size) hx hb hml hown hT hE hSt (fun k hk => Or.inl ⟨k, by omega, rfl⟩) (fun q h => Or.inr h) hPc hS hM hok hrecv hst0 hroom hn hsize hrest hcap hdg (fun _ _ _ _ _ hf => hf.elim) (fun v u H1 locs1 hp hP1 hS1 hz hk => ?_)
  obtain ⟨rfl, rfl⟩ := hp
  exact kk H1 locs1 (w_join hP1 (hPo.kept (fun k q hq => by
    have hk0 : k < 1 := (List.getElem?_eq_some_iff.mp hq).1
    rw [show k = 0 by omega] at hq
    cases hq
    exact hk _ (w_at0 hPo) (w_notin hinj (w_at0 hPo))))) hS1
/-- the call of the class's method: it threw, and is caught -/
theorem w_x {fr lo mc ms n idx maxL : Nat} {y : MethodName} {bytes : ByteArray} {ret : Option FieldType} {As st0 : List Value} {E : String} (K : w_K p l s m args c cc nL Z ad) (hP : va_P Z.1 vwCl (iw 116 (wF ad Z.2.1 (g, o))) H) (hS : va_S (fx_A 116 ad s.heap.size) s.heap H locs)
    (hM : fx_C l Z y bytes maxL ret fr lo mc ms 115 ad (cF ad Z.2.1) g (.ref (ad 0) :: As) (fun _ _ => False) (fun E9 => E9 = E)) (hok : fx_ok RL idx RX3 y bytes maxL ret n) (hst0 : st0 = As.reverse ++ .ref (ad 0) :: rest)
    (hroom : fr + 1 ≤ R.frames ∧ 8 + (maxL + 11) + lo ≤ R.locals) (hn : As.length = n) (hsize : ls.size = nL) (hrest : (rest.map fun v => v.category).sum ≤ 8) (hcap : cells + mc ≤ R.cells ∧ slots + ms ≤ R.slots) (hdg : decode cc pc = .ok (.invokevirtual idx, 3))
    (pre : List ExceptionTableEntry) (x : ExceptionTableEntry) (suf : List ExceptionTableEntry) (hsplit : c.exceptionTable.toList = pre ++ x :: suf)
    (hpass : ∀ z ∈ pre, covers z pc = false ∨ (z.catchType ≠ 0 ∧ ∃ nm : String, (Cond.classLink RL z.catchType nm).before args s = true ∧ va_Nc E nm s)) (hcov : covers x pc = true) (h0 : x.catchType ≠ 0)
    (hlink : (Cond.classLink RL x.catchType E).before args s = true) (hcast : Cond.castable E E ∈ fx_wb)
    (kk : ∀ (q9 : Addr) (H1 : Heap) (locs1 : List Loc), va_P Z.1 vwCl (iw 116 (wF ad Z.2.1 (g, o))) H1 → va_S (fx_A 116 ad s.heap.size) s.heap H1 locs1 → W p l e R s m args below meth c H1 locs1 (cells + mc) (slots + ms) Q (F0 m x.handlerPc ls [.ref q9])) :
    W p l e R s m args below meth c H locs cells slots Q (F0 m pc ls st0) := by
  obtain ⟨hx, hb, hml, hown, hT, hE, hSt, hinj⟩ := K
  obtain ⟨hPc, hPo⟩ := w_split hP
  have hrecv : ∃ cellB : Cell, H[ad 0]? = some cellB ∧ cellB.vm.isStatics = false ∧ s.vm.findClass RX3 = some cellB.cls := va_recv hE.1 hPc (ci := 4) (q0 := 0) (q := (RX3, TX3, 7)) rfl (by rw [iw_at (by decide)]; rfl)
  refine fx_callV (A := fx_A 116 ad s.heap.size) hx hb hml hown hT hE hSt (fun k hk => Or.inl ⟨k, by omega, rfl⟩) (fun q h => Or.inr h) hPc hS hM hok hrecv hst0 hroom hn hsize hrest hcap hdg (fun E9 ce q9 H1 locs1 hp hP1 hS1 hz hk h1 h2 h3 => ?_) (fun v u H1 locs1 hp _ _ _ _ => hp.elim)
  subst hp
  refine vx_catch (name := E9) hown pre x suf hsplit hpass hcov h0 hlink (va_Nw.use rfl (hE.2.2.1 _ (List.mem_append_left _ hcast))) h1 h2 h3 (kk q9 H1 locs1 (w_join hP1 (hPo.kept (fun k q hq => by
    have hk0 : k < 1 := (List.getElem?_eq_some_iff.mp hq).1
    rw [show k = 0 by omega] at hq
    cases hq
    exact hk _ (w_at0 hPo) (w_notin hinj (w_at0 hPo))))) hS1)
/-- out[0] = ... -/
theorem w_out {x : Int64} (K : w_K p l s m args c cc nL Z ad) (hP : va_P Z.1 vwCl (iw 116 (wF ad Z.2.1 (g, o))) H) (hS : va_S (fx_A 116 ad s.heap.size) s.heap H locs) (hdg : decode cc pc = .ok (.lastore, 1))
    (kk : ∀ (H1 : Heap) (locs1 : List Loc), va_P Z.1 vwCl (iw 116 (wF ad Z.2.1 (g, x))) H1 → va_S (fx_A 116 ad s.heap.size) s.heap H1 locs1 → W p l e R s m args below meth c H1 locs1 cells slots Q (F0 m (pc + 1) ls rest)) : W p l e R s m args below meth c H locs cells slots Q (F0 m pc ls (.long x :: .int 0 :: .ref (ad 115) :: rest)) := by
  obtain ⟨hx, hb, hml, hown, hT, hE, hSt, hinj⟩ := K
  have hD : va_D (fx_A 116 ad s.heap.size) (iw 116 (wF ad Z.2.1 (g, o))) := fx_D hinj (wF_1 _) (fun k hk => Or.inl ⟨k, hk, rfl⟩)
  refine va_last (i := 0) hx hb hE.1 hP hD hS 115 4 (by rw [iw_at (by decide)]; rfl) rfl (vp_in_nI (n := 0) (N := 1) (by decide) (by decide)) hdg fun H1 locs1 hP1 _ hS1 => ?_
  refine kk H1 locs1 (fun k q hq => ?_) hS1
  obtain ⟨hk, rfl⟩ := iw_lt hq
  by_cases h9 : k = 115
  · subst h9
    have h1 := hP1 115 _ (List.getElem?_set_self (by simp [iw]))
    show H1[ad 115]? = some (arrV (Z.2.1 4) 1 (fun _ => .long x))
    rw [arr_ext (g := fun j => .long (vp_updL (fun _ => o) (0 : Int32).toNatClampNeg x j)) (fun i hi => by rw [show i = 0 by omega]; rfl)]
    exact h1
  · have h1 := hP1 k (wF ad Z.2.1 (g, o) k) (by rw [List.getElem?_set_ne (fun q => h9 q.symm), iw_at hk])
    rw [show wF ad Z.2.1 (g, x) k = wF ad Z.2.1 (g, o) k by unfold wF; rw [if_pos (by omega), if_pos (by omega)]]
    exact h1
end FXW
