section
/-! ===== BEGIN words of one list among another's, by their places ===== -/
theorem goodIn_r {big : List Cond} (ws : List Cond) (ps : List Nat) (hp : ws = ps.filterMap (fun i => big[i]?)) (h : ws.all goodWord = true) : GoodIn big ws := by
  intro w hw
  have h1 := List.all_eq_true.mp h w hw
  rw [hp] at hw
  obtain ⟨i, -, hi⟩ := List.mem_filterMap.mp hw
  have hm : w ∈ big := by first | exact List.mem_of_getElem? hi | exact List.getElem?_mem hi
  exact ⟨hm, good_of_word h1⟩
theorem goodIn_app {big a b : List Cond} (ha : GoodIn big a) (hb : GoodIn big b) : GoodIn big (a ++ b) := fun w h => (List.mem_append.mp h).elim (ha w) (hb w)
theorem goodIn_ca {big a b : List Cond} {c : Cond} (ha : GoodIn big (c :: a)) (hb : GoodIn big b) : GoodIn big (c :: (a ++ b)) := fun w h => (List.mem_cons.mp h).elim (fun e => ha w (List.mem_cons.mpr (Or.inl e))) (fun h => (List.mem_append.mp h).elim (fun h => ha w (List.mem_cons.mpr (Or.inr h))) (hb w))
theorem goodIn_sub {big ws : List Cond} (hm : ∀ w ∈ ws, w ∈ big) (h : ws.all goodWord = true) : GoodIn big ws := fun w hw => ⟨hm w hw, good_of_word (List.all_eq_true.mp h w hw)⟩
/-! ===== END ===== -/

/-! ===== BEGIN exceptions that leave a method, and their catching by the caller (launches without stack traces) ===== -/
section VXA
/-! The laws vx_back, vx_callV, vx_callS, vx_callSW, vx_throw0, vx_throwS follow proofs of the library, with one case more: JvmDerived/Free/Laws.lean (Back.of_free), Shelf42/LK1.lean (callV, callS), Shelf/KitTraced.lean (throwNew0V, throwNewS). -/
/-- where a method has thrown q: the class by its name, the cell, what was written, the world -/
def vx_T (XC : String → State → State → Prop) (st : State) (q : Addr) (t : State) (mc ms : Nat) (free : Addr → Prop) : Prop :=
  ∃ (E : String) (ce : Cell) (L : List Loc), XC E st t ∧ t.heap[q]? = some ce ∧ ce.vm = .none ∧ st.vm.findClass E = some ce.cls ∧ st.WarmedH t.vm ∧ st.sameButNew ({ t with vm := st.vm } : State) L mc ms ∧ ∀ z ∈ L, free z.base
def vx_Q (Qc : Array Value → State → Outcome → State → Prop) (XC : String → State → State → Prop) (mc ms : Nat) (free : Addr → Prop) : Array Value → State → Outcome → State → Prop := fun a st o t =>
  (Qc a st o t ∧ ∃ L, FrameEnd st o t L mc ms ∧ ∀ q ∈ L, free q.base) ∨ ∃ q, o = .threw q ∧ vx_T XC st q t mc ms free
/-- a callee that returns or throws -/
def vx_Met (l : Launch) (y : MethodName) (ws : List Cond) (rm : Room) (Pc : Array Value → State → Prop) (Qc : Array Value → State → Outcome → State → Prop) (XC : String → State → State → Prop) (mc ms : Nat) (free : Addr → Prop) : Prop :=
  MetFree l y (headSpec ws rm) Pc (fun _ _ _ _ _ => True) (vx_Q Qc XC mc ms free)
def vx_Post (XC : String → State → State → Prop) (mc ms : Nat) (free : Addr → Prop) : Pt → Array Value → Addr → Pt → Prop := fun A a q B =>
  ∃ (g : JFrame) (mk : MethodId) (t : State) (L : List Loc) (E : String) (ce : Cell), B.U.heap = t.heap ∧ B.U.vm = t.vm ∧ XC E (A.U.calling g mk a) t ∧ t.heap[q]? = some ce ∧ ce.vm = .none ∧ A.U.vm.findClass E = some ce.cls ∧ B.locs = A.locs ++ L ∧ (∀ z ∈ L, free z.base) ∧ B.cells = A.cells + mc ∧ B.slots = A.slots + ms
def vx_Back (l : Launch) (R : Room) (p : Program) (e : Env) (below : List Frame) (s : State) (sargs : Array Value) (y : MethodName) (len W9 : Nat)
    (Pre : Pt → Array Value → Prop) (Post : Pt → Array Value → Option Value → Pt → Prop) (PostX : Pt → Array Value → Addr → Pt → Prop) : Prop :=
  ∀ (m : MethodId) (meth : Method) (c : Code) (A : Pt) (g : JFrame) (ig : Instr) (mk : MethodId) (a : Array Value),
    Stand p l e R s m sargs below meth c A.U A.locs A.cells A.slots → g.method = m → g.locals.size = c.maxLocals → decode c.code g.pc = .ok (ig, len) →
    2 * g.monitorRoom + (g.stack.map fun v => v.category).sum ≤ W9 → A.U.methodNamed? y = some mk → Pre A a →
    (∃ (v : Option Value) (B : Pt), Stand p l e R s m sargs below meth c B.U B.locs B.cells B.slots ∧ Post A a v B ∧
      Steps p.tables e below (doInvoke e (A.U.setTop g) [] mk a).1 (B.U.setTop { g with pc := g.pc + len, stack := v.toList ++ g.stack })) ∨
    (∃ (q : Addr) (B : Pt), Stand p l e R s m sargs below meth c B.U B.locs B.cells B.slots ∧ PostX A a q B ∧
      Steps p.tables e below (doInvoke e (A.U.setTop g) [] mk a).1 ((B.U.setTop g).pushFrame (.throwing q)))
section Payer
variable {l : Launch} {R : Room} {p : Program} {e : Env} {below : List Frame} {s : State} {sargs : Array Value} {y : MethodName} {len W9 : Nat}
theorem vx_back {ws : List Cond} {rm : Room} {Pc : Array Value → State → Prop} {Qc : Array Value → State → Outcome → State → Prop} {XC : String → State → State → Prop} {mc ms : Nat} {free : Addr → Prop} {bytes : ByteArray} {maxL : Nat} {ret : Option FieldType}
    (hM : vx_Met l y ws rm Pc Qc XC mc ms free) (hblind : FrameBlind Pc) (hrc : rm.cells = mc) (hrs : rm.slots = ms)
    (hframes : rm.frames + 1 ≤ R.frames) (hlocals : W9 + (maxL + 11) + rm.locals ≤ R.locals)
    (hws : ∀ w ∈ ws, ∀ a' U, s.WarmedH U.vm → w.before a' U = true) (hcode : Cond.code y bytes maxL ret ∈ ws) (hinit : ∀ a' U, s.WarmedH U.vm → (Cond.initialized y.cls).before a' U = true) :
    vx_Back l R p e below s sargs y len W9 (PreOf R mc ms Pc) (PostOf Qc mc ms free) (vx_Post XC mc ms free) := by
  intro m meth c A g ig mk a X hg hsize hdg hW hn hp
  have h1 : (headSpec ws rm).pre.before a A.U = true := atoms_intro fun w hw => hws w hw _ _ X.warmed
  have h2 : (Cond.code y bytes maxL ret).before a A.U = true := hws _ hcode _ _ X.warmed
  have h3 : (Cond.initialized y.cls).before a A.U = true := hinit _ _ X.warmed
  have h4 : A.cells + (headSpec ws rm).room.cells ≤ R.cells := by rw [show (headSpec ws rm).room.cells = mc from hrc]; exact hp.1
  have h5 : A.slots + (headSpec ws rm).room.slots ≤ R.slots := by rw [show (headSpec ws rm).room.slots = ms from hrs]; exact hp.2.1
  have hPc : Pc a (A.U.calling g mk a) := hblind _ _ _ _ hp.2.2
  obtain ⟨U, Ls, c0, s0⟩ := A
  dsimp only [Pt.U, Pt.locs, Pt.cells, Pt.slots] at h1 h2 h3 h4 h5 X hn hPc ⊢
  obtain ⟨methY, cY, hmY, hcY, -, hlY, -, -, -, -⟩ := Cond.code_spec hn h2
  obtain ⟨kY, hkY, -⟩ := className_of_methodNamed hn
  have hinitY : kY.init = .initialized := Cond.initialized_spec (findClass_of_methodNamed hn) hkY h3
  have h : At U g.method c below := by rw [hg]; exact X.here
  have hlocals9 : W9 + (maxL + 11) + (headSpec ws rm).room.locals ≤ R.locals := hlocals
  have happ : (headSpec ws rm).appliesLoose y e.platform (U.calling g mk a) = true :=
    Spec.appliesLoose_calling (g := g) h hdg hn hkY hinitY
      (X.room_calling (g := g) (R' := (headSpec ws rm).room) hsize hmY hcY hframes (by rw [hlY]; omega) h4 h5) h1
  obtain ⟨mid, hmid⟩ := h.above
  have hfr : (U.setTop g).frames = (.java g :: mid) ++ below := by rw [State.frames_setTop' g h.top, hmid]; rfl
  obtain ⟨o, s₂, hsteps, -, hend, hq⟩ := Steps.callFree hM p X.admits X.cas X.clock (acts := []) hfr happ hPc trivial
  have hq' : vx_Q Qc XC mc ms free a (U.calling g mk a) o s₂ := hq
  rw [State.frames_setTop' g h.top] at hend
  obtain ⟨g₀, hg0⟩ := Option.isSome_iff_exists.mp h.top
  obtain ⟨r, hr⟩ := State.topJava?_eq_some.mp hg0
  have hr' : (({ U with heap := s₂.heap, slotsUsed := s₂.slotsUsed } : State).setVm s₂.vm).frames = .java g₀ :: r := hr
  rcases hq' with ⟨hqc, L, hfe, hL⟩ | ⟨q, rfl, E, ce, L, hx, hce, hcv, hcl, hW₂, hsm, hL⟩
  · obtain ⟨⟨v, rfl⟩, hW₂, e2, q2, q3, q4, q5, q6⟩ := id hfe
    have e3 : s₂ = ({ (U.calling g mk a).setFrames s₂.frames with heap := s₂.heap, slotsUsed := s₂.slotsUsed } : State).setVm s₂.vm := by
      have : s₂ = ({ s₂ with vm := (U.calling g mk a).vm } : State).setVm s₂.vm := rfl
      rw [e2] at this
      exact this
    obtain ⟨c₂, i₂, len₂, hc₂, hd₂, hf₂⟩ := hend
    have hW' : U.WarmedH s₂.vm := hW₂
    have hcc : c₂ = c := by
      have h1 : s₂.code? g.method = U.code? g.method := by
        rw [State.code?_eq, State.code?_eq, hW'.alike.method?]
      exact Option.some.inj (hc₂.symm.trans (h1.trans h.code))
    subst hcc
    have hlen : len₂ = len := by rw [hdg] at hd₂; cases hd₂; rfl
    subst hlen
    have hs₂ : s₂ = (({ U with heap := s₂.heap, slotsUsed := s₂.slotsUsed } : State).setVm s₂.vm).setTop { g with pc := g.pc + len₂, stack := v.toList ++ g.stack } := by
      refine e3.trans ?_
      rw [hf₂, State.calling_eq h.top, State.setFrames_setFrames, State.setTop_of_frames _ hr', hr]
      rfl
    have hsame : U.sameButNew ({ U with heap := s₂.heap, slotsUsed := s₂.slotsUsed } : State) L mc ms := by
      refine ⟨?_, q2, q3, q4, q5, q6⟩
      obtain ⟨t, ht, -⟩ := State.frames_cons hr
      show ({ U with heap := s₂.heap, slotsUsed := s₂.slotsUsed } : State) = { U.setFrames U.frames with heap := s₂.heap, slotsUsed := s₂.slotsUsed }
      rw [State.setFrames_self ht]
    subst hg
    refine Or.inl ⟨v, ⟨(({ U with heap := s₂.heap, slotsUsed := s₂.slotsUsed } : State).setVm s₂.vm), Ls ++ L, c0 + mc, s0 + ms⟩,
      ⟨X.admits, X.cas, X.clock, X.frames, X.room, X.hears, X.method, X.code, (X.here.setHeapUsed s₂.heap s₂.slotsUsed).setVm hW'.alike, X.tail, State.WarmedH.trans X.warmed hW', X.limits, X.bytes, X.same.trans (hsame.setVm s.vm)⟩,
      ⟨g, mk, s₂, L, rfl, rfl, hqc, rfl, hL, rfl, rfl⟩, ?_⟩
    show Steps p.tables e below _ ((({ U with heap := s₂.heap, slotsUsed := s₂.slotsUsed } : State).setVm s₂.vm).setTop { g with pc := g.pc + len₂, stack := v.toList ++ g.stack })
    rw [← hs₂]
    exact hsteps
  · obtain ⟨e2, q2, q3, q4, q5, q6⟩ := id hsm
    have e3 : s₂ = ({ (U.calling g mk a).setFrames s₂.frames with heap := s₂.heap, slotsUsed := s₂.slotsUsed } : State).setVm s₂.vm := by
      have : s₂ = ({ s₂ with vm := (U.calling g mk a).vm } : State).setVm s₂.vm := rfl
      rw [e2] at this
      exact this
    have hf₂ : s₂.frames = .throwing q :: .java g :: U.frames.tail := hend
    have hW' : U.WarmedH s₂.vm := hW₂
    have hs₂ : s₂ = ((({ U with heap := s₂.heap, slotsUsed := s₂.slotsUsed } : State).setVm s₂.vm).setTop g).pushFrame (.throwing q) := by
      refine e3.trans ?_
      rw [hf₂, State.calling_eq h.top, State.setFrames_setFrames, State.pushFrame, State.frames_setTop _ hr', State.setTop_of_frames _ hr', State.setFrames_setFrames, hr]
      rfl
    have hsame : U.sameButNew ({ U with heap := s₂.heap, slotsUsed := s₂.slotsUsed } : State) L mc ms := by
      refine ⟨?_, q2, q3, q4, q5, q6⟩
      obtain ⟨t, ht, -⟩ := State.frames_cons hr
      show ({ U with heap := s₂.heap, slotsUsed := s₂.slotsUsed } : State) = { U.setFrames U.frames with heap := s₂.heap, slotsUsed := s₂.slotsUsed }
      rw [State.setFrames_self ht]
    subst hg
    refine Or.inr ⟨q, ⟨(({ U with heap := s₂.heap, slotsUsed := s₂.slotsUsed } : State).setVm s₂.vm), Ls ++ L, c0 + mc, s0 + ms⟩,
      ⟨X.admits, X.cas, X.clock, X.frames, X.room, X.hears, X.method, X.code, (X.here.setHeapUsed s₂.heap s₂.slotsUsed).setVm hW'.alike, X.tail, State.WarmedH.trans X.warmed hW', X.limits, X.bytes, X.same.trans (hsame.setVm s.vm)⟩,
      ⟨g, mk, s₂, L, E, ce, rfl, rfl, hx, hce, hcv, hcl, rfl, hL, rfl, rfl⟩, ?_⟩
    show Steps p.tables e below _ (((({ U with heap := s₂.heap, slotsUsed := s₂.slotsUsed } : State).setVm s₂.vm).setTop g).pushFrame (.throwing q))
    rw [← hs₂]
    exact hsteps
end Payer
section Calls
variable {p : Program} {l : Launch} {e : Env} {R : Room} {s : State} {m : MethodId} {args : Array Value} {below : List Frame} {meth : Method} {c : Code} {T : State} {locs : List Loc} {cells slots : Nat}
theorem vx_callV (X : Stand p l e R s m args below meth c T locs cells slots) (hexec : p.tables.exec = Jvm.exec) {own C : String} {index : Nat} {y : MethodName} {bytes : ByteArray} {maxL : Nat} {ret : Option FieldType}
    (hown : s.vm.findClass own = some m.cls) (hlink : (Cond.methodLink own index y).before args s = true) (hinst : (Cond.instanceMethod y).before args s = true) (hsel : (Cond.selects C y y).before args s = true)
    (hcode : (Cond.code y bytes maxL ret).before args s = true) (hy : y.cls ≠ "java/lang/invoke/MethodHandle" ∧ y.cls ≠ "java/lang/invoke/VarHandle")
    {W9 : Nat} {Pre : Pt → Array Value → Prop} {Post : Pt → Array Value → Option Value → Pt → Prop} {PostX : Pt → Array Value → Addr → Pt → Prop} (hK : vx_Back l R p e below s args y 3 W9 Pre Post PostX)
    {b : Addr} {cellB : Cell} (hcell : T.heap[b]? = some cellB) (hobj : cellB.vm.isStatics = false) (hcls : s.vm.findClass C = some cellB.cls)
    {g : JFrame} (hg : g.method = m) (hsize : g.locals.size = c.maxLocals) {argsL rest : List Value} (hlen : ∀ sig, parseMethodDescriptor y.desc = some sig → argsL.length = sig.parameters.length)
    (hstack : g.stack = argsL.reverse ++ .ref b :: rest) (hW : 2 * g.monitorRoom + (rest.map fun v => v.category).sum ≤ W9) (hdg : decode c.code g.pc = .ok (.invokevirtual index, 3))
    (hpre : ∀ vm₁, s.WarmedH vm₁ → Pre ⟨T.setVm vm₁, locs, cells, slots⟩ (Value.ref b :: argsL).toArray) :
    (∃ (v : Option Value) (vm₁ : Vm) (B : Pt), s.WarmedH vm₁ ∧ Stand p l e R s m args below meth c B.U B.locs B.cells B.slots ∧ Post ⟨T.setVm vm₁, locs, cells, slots⟩ (Value.ref b :: argsL).toArray v B ∧
      ∀ target, Steps p.tables e below (B.U.setTop { g with pc := g.pc + 3, stack := v.toList ++ rest }) target → Steps p.tables e below (T.setTop g) target) ∨
    (∃ (q : Addr) (vm₁ : Vm) (B : Pt), s.WarmedH vm₁ ∧ Stand p l e R s m args below meth c B.U B.locs B.cells B.slots ∧ PostX ⟨T.setVm vm₁, locs, cells, slots⟩ (Value.ref b :: argsL).toArray q B ∧
      Steps p.tables e below (T.setTop g) ((B.U.setTop { g with stack := rest }).pushFrame (.throwing q))) := by
  obtain ⟨mk, methM, hnamed, hmethM, hstM, habM⟩ := Cond.instanceMethod_spec hinst
  obtain ⟨methM', cM, hmethM', -, -, -, -, -, -, hsigM⟩ := Cond.code_spec hnamed hcode
  cases hmethM.symm.trans hmethM'
  obtain ⟨c2, r2, m2, q1, q2, q3, q4, kP, hkP, hkPi⟩ := Cond.selects_spec hsel
  cases hcls.symm.trans q1
  cases (State.methodFound?_of_named hnamed hy).symm.trans q2
  cases hnamed.symm.trans q3
  have hselP : selectMethod e.platform s.vm cellB.cls mk = .method mk := by rw [Launch.admits_selectMethod X.admits]; exact q4
  obtain ⟨vm₁, X₁, hstep₁⟩ := X.invokevirtual hexec hown hlink hnamed hmethM hstM hkP hkPi hy (a := b) (cell := cellB) hcell
    (fun z h => by rw [h] at hobj; cases hobj) hselP hmethM habM hkP hkPi (g := g) hg (argsL := argsL) (rest := rest) (hlen _ hsigM) hstack hdg
  rcases hK m meth c ⟨T.setVm vm₁, locs, cells, slots⟩ { g with stack := rest } (.invokevirtual index) mk (Value.ref b :: argsL).toArray X₁ hg hsize hdg hW (X₁.named hnamed) (hpre vm₁ X₁.warmed) with ⟨v, B, X', hpost, hsteps⟩ | ⟨q, B, X', hpost, hsteps⟩
  · exact Or.inl ⟨v, vm₁, B, X₁.warmed, X', hpost, fun target h => hstep₁ _ fun acts => by rw [doInvoke_state]; exact hsteps.trans h⟩
  · exact Or.inr ⟨q, vm₁, B, X₁.warmed, X', hpost, hstep₁ _ fun acts => by rw [doInvoke_state]; exact hsteps⟩
theorem vx_callS (X : Stand p l e R s m args below meth c T locs cells slots) (hexec : p.tables.exec = Jvm.exec) {own : String} {index : Nat} {y : MethodName} {bytes : ByteArray} {maxL : Nat} {ret : Option FieldType}
    (hown : s.vm.findClass own = some m.cls) (hlink : (Cond.methodLink own index y).before args s = true) (hstat : (Cond.static y).before args s = true) (hinit : (Cond.initialized y.cls).before args s = true)
    (hcode : (Cond.code y bytes maxL ret).before args s = true) (hy : y.cls ≠ "java/lang/invoke/MethodHandle" ∧ y.cls ≠ "java/lang/invoke/VarHandle")
    {W9 : Nat} {Pre : Pt → Array Value → Prop} {Post : Pt → Array Value → Option Value → Pt → Prop} {PostX : Pt → Array Value → Addr → Pt → Prop} (hK : vx_Back l R p e below s args y 3 W9 Pre Post PostX)
    {g : JFrame} (hg : g.method = m) (hsize : g.locals.size = c.maxLocals) {argsL rest : List Value} (hlen : ∀ sig, parseMethodDescriptor y.desc = some sig → argsL.length = sig.parameters.length)
    (hstack : g.stack = argsL.reverse ++ rest) (hW : 2 * g.monitorRoom + (rest.map fun v => v.category).sum ≤ W9) (hdg : decode c.code g.pc = .ok (.invokestatic index, 3))
    (hpre : ∀ vm₁, s.WarmedH vm₁ → Pre ⟨T.setVm vm₁, locs, cells, slots⟩ argsL.toArray) :
    (∃ (v : Option Value) (vm₁ : Vm) (B : Pt), s.WarmedH vm₁ ∧ Stand p l e R s m args below meth c B.U B.locs B.cells B.slots ∧ Post ⟨T.setVm vm₁, locs, cells, slots⟩ argsL.toArray v B ∧
      ∀ target, Steps p.tables e below (B.U.setTop { g with pc := g.pc + 3, stack := v.toList ++ rest }) target → Steps p.tables e below (T.setTop g) target) ∨
    (∃ (q : Addr) (vm₁ : Vm) (B : Pt), s.WarmedH vm₁ ∧ Stand p l e R s m args below meth c B.U B.locs B.cells B.slots ∧ PostX ⟨T.setVm vm₁, locs, cells, slots⟩ argsL.toArray q B ∧
      Steps p.tables e below (T.setTop g) ((B.U.setTop { g with stack := rest }).pushFrame (.throwing q))) := by
  obtain ⟨mk, hnamed⟩ := Cond.code_named hcode
  obtain ⟨methM, cM, hmethM, -, -, -, -, -, -, hsigM⟩ := Cond.code_spec hnamed hcode
  have hstatic : methM.isStatic = true := Cond.static_spec hnamed hmethM hstat
  obtain ⟨kP, hkP, -⟩ := className_of_methodNamed hnamed
  have hinitP : kP.init = .initialized := Cond.initialized_spec (findClass_of_methodNamed hnamed) hkP hinit
  obtain ⟨vm₁, X₁, hstep₁⟩ := X.invokestatic hexec hown hlink hnamed hmethM hstatic hkP hinitP hy (g := g) hg (argsL := argsL) (rest := rest) (hlen _ hsigM) hstack hdg
  rcases hK m meth c ⟨T.setVm vm₁, locs, cells, slots⟩ { g with stack := rest } (.invokestatic index) mk argsL.toArray X₁ hg hsize hdg hW (X₁.named hnamed) (hpre vm₁ X₁.warmed) with ⟨v, B, X', hpost, hsteps⟩ | ⟨q, B, X', hpost, hsteps⟩
  · exact Or.inl ⟨v, vm₁, B, X₁.warmed, X', hpost, fun target h => hstep₁ _ fun acts => by rw [doInvoke_state]; exact hsteps.trans h⟩
  · exact Or.inr ⟨q, vm₁, B, X₁.warmed, X', hpost, hstep₁ _ fun acts => by rw [doInvoke_state]; exact hsteps⟩
end Calls
theorem vx_cls {s : State} {T : State} {vm₁ : Vm} {E : String} {k : ClassId} (hW : s.WarmedH vm₁) (h : (T.setVm vm₁).vm.findClass E = some k) : s.vm.findClass E = some k := by
  have h1 : vm₁.findClass E = some k := h
  rw [hW.alike.findClass] at h1
  exact h1
/-- the method's frame g, with q thrown over it -/
def vx_W (p : Program) (l : Launch) (e : Env) (R : Room) (s : State) (m : MethodId) (args : Array Value) (below : List Frame) (meth : Method) (c : Code) (H : Heap) (locs : List Loc) (cells slots : Nat) (Q : State → Prop) (g : JFrame) (q : Addr) : Prop :=
  ∀ T : State, T.heap = H → Stand p l e R s m args below meth c T locs cells slots → ∃ t, Steps p.tables e below ((T.setTop g).pushFrame (.throwing q)) t ∧ Q t
def vx_Run (p : Program) (l : Launch) (e : Env) (R : Room) (s : State) (m : MethodId) (args : Array Value) (below : List Frame) (meth : Method) (c : Code) (H : Heap) (locs : List Loc) (cells slots mc ms : Nat) (g : JFrame) (rest : List Value) (Qa : State → Outcome → State → Prop) (XC : String → State → State → Prop) (free : Addr → Prop) : Prop :=
  ∀ T : State, T.heap = H → Stand p l e R s m args below meth c T locs cells slots →
    (∃ (v : Option Value) (st₀ t T' : State) (L : List Loc), st₀.heap = H ∧ Stand p l e R s m args below meth c T' (locs ++ L) (cells + mc) (slots + ms) ∧ (∀ q ∈ L, free q.base) ∧ T'.heap = t.heap ∧ T'.vm = t.vm ∧ Qa st₀ (.returned v) t ∧
      Goes p e below T g T' { g with pc := g.pc + 3, stack := v.toList ++ rest }) ∨
    (∃ (q : Addr) (st₀ t T' : State) (L : List Loc) (E : String) (ce : Cell), st₀.heap = H ∧ Stand p l e R s m args below meth c T' (locs ++ L) (cells + mc) (slots + ms) ∧ (∀ z ∈ L, free z.base) ∧ T'.heap = t.heap ∧ T'.vm = t.vm ∧ XC E st₀ t ∧ t.heap[q]? = some ce ∧ ce.vm = .none ∧ s.vm.findClass E = some ce.cls ∧
      Steps p.tables e below (T.setTop g) ((T'.setTop { g with stack := rest }).pushFrame (.throwing q)))
def vx_X {S : Type} (px : S → Prop) (B : String → S → State → Prop) (A : Nat → Prop) : String → State → State → Prop := fun E st t => ∃ u : S, px u ∧ B E u t ∧ va_F A st t
section Runs
variable {p : Program} {l : Launch} {e : Env} {R : Room} {s : State} {m : MethodId} {args : Array Value} {below : List Frame} {meth : Method} {c : Code} {H : Heap} {locs : List Loc} {cells slots : Nat}
variable {y : MethodName} {bytes cc : ByteArray} {maxL nL mc ms n index : Nat} {ret : Option FieldType} {ws : List Cond} {rm : Room} {Pc : Array Value → State → Prop} {Qc : Array Value → State → Outcome → State → Prop} {XC : String → State → State → Prop} {free : Addr → Prop} {Ts : List Cond} {own C : String} {b : Addr} {As rest : List Value} {g : JFrame}
theorem vx_callBack (cb : CallB R s args own index y bytes maxL ret ws rm mc ms n) (hM : vx_Met l y ws rm Pc Qc XC mc ms free) (hbl : FrameBlind Pc) : vx_Back l R p e below s args y 3 8 (PreOf R mc ms Pc) (PostOf Qc mc ms free) (vx_Post XC mc ms free) := by
  obtain ⟨hrc, hrs, hfr, hlo, hws, hcw, -, hini, -⟩ := cb
  exact vx_back (bytes := bytes) (maxL := maxL) (ret := ret) hM hbl hrc hrs hfr hlo hws hcw (fun a' U hW => word_at hW (Or.inl (by first | rfl | simp [Cond.onTables, Cond.keeps, Cond.steady])) hini)
theorem vx_runV (S : CallFix p m c cc nL s args Ts own) (hM : vx_Met l y ws rm Pc Qc XC mc ms free) (cw : CallW R s args own C index y bytes maxL ret ws rm mc ms n) (hp : PreV s H C b Pc As)
    (hg : g.method = m) (hn : As.length = n) (hsize : g.locals.size = nL) (hstack : g.stack = As.reverse ++ .ref b :: rest) (hW : 2 * g.monitorRoom + (rest.map fun v => v.category).sum ≤ 8) (hdg : decode cc g.pc = .ok (.invokevirtual index, 3)) (hf : cells + mc ≤ R.cells ∧ slots + ms ≤ R.slots) :
    vx_Run p l e R s m args below meth c H locs cells slots mc ms g rest (Qc (Value.ref b :: As).toArray) XC free := by
  have hK : vx_Back l R p e below s args y 3 8 (PreOf R mc ms Pc) (PostOf Qc mc ms free) (vx_Post XC mc ms free) := vx_callBack cw.1 hM hp.1
  obtain ⟨⟨-, -, -, -, -, -, hcode, -, hy, hlen, hl⟩, hin, hse⟩ := cw
  obtain ⟨hx, hb, hml, ho, -⟩ := S
  obtain ⟨-, ⟨cellB, hcB, hoB, hclB⟩, hPc⟩ := hp
  intro T hT X
  rcases vx_callV X hx (C := C) (bytes := bytes) (maxL := maxL) (ret := ret) ho hl hin hse hcode hy hK (by rw [hT]; exact hcB) hoB hclB hg (hsize.trans hml.symm) (argsL := As) (rest := rest) (fun sig h => hn.trans (hlen sig h)) hstack hW (by rw [hb]; exact hdg)
    (fun vm₁ hW₁ => ⟨hf.1, hf.2, hPc (T.setVm vm₁) hT hW₁⟩) with ⟨v, vm₁, ⟨U', l2, c2, s2⟩, hW₁, X', ⟨g', mk, t, L, e1, e2, hq, h1, hL, h2, h3⟩, st⟩ | ⟨q, vm₁, ⟨U', l2, c2, s2⟩, hW₁, X', ⟨g', mk, t, L, E, ce, e1, e2, hq, hce, hcv, hcl, h1, hL, h2, h3⟩, st⟩
  · dsimp only [Pt.U, Pt.locs, Pt.cells, Pt.slots] at X' e1 e2 h1 h2 h3 st
    subst h1; subst h2; subst h3
    exact Or.inl ⟨v, (T.setVm vm₁).calling g' mk (Value.ref b :: As).toArray, t, U', L, hT, X', hL, e1, e2, hq, st⟩
  · dsimp only [Pt.U, Pt.locs, Pt.cells, Pt.slots] at X' e1 e2 h1 h2 h3 st hcl
    subst h1; subst h2; subst h3
    exact Or.inr ⟨q, (T.setVm vm₁).calling g' mk (Value.ref b :: As).toArray, t, U', L, E, ce, hT, X', hL, e1, e2, hq, hce, hcv, vx_cls hW₁ hcl, st⟩
theorem vx_runS (S : CallFix p m c cc nL s args Ts own) (hM : vx_Met l y ws rm Pc Qc XC mc ms free) (cw : CallB R s args own index y bytes maxL ret ws rm mc ms n ∧ (Cond.static y).before args s = true) (hp : PreS s H Pc As)
    (hg : g.method = m) (hn : As.length = n) (hsize : g.locals.size = nL) (hstack : g.stack = As.reverse ++ rest) (hW : 2 * g.monitorRoom + (rest.map fun v => v.category).sum ≤ 8) (hdg : decode cc g.pc = .ok (.invokestatic index, 3)) (hf : cells + mc ≤ R.cells ∧ slots + ms ≤ R.slots) :
    vx_Run p l e R s m args below meth c H locs cells slots mc ms g rest (Qc As.toArray) XC free := by
  have hK : vx_Back l R p e below s args y 3 8 (PreOf R mc ms Pc) (PostOf Qc mc ms free) (vx_Post XC mc ms free) := vx_callBack cw.1 hM hp.1
  obtain ⟨⟨-, -, -, -, -, -, hcode, hini, hy, hlen, hl⟩, hstt⟩ := cw
  obtain ⟨hx, hb, hml, ho, -⟩ := S
  intro T hT X
  rcases vx_callS X hx (bytes := bytes) (maxL := maxL) (ret := ret) ho hl hstt hini hcode hy hK hg (hsize.trans hml.symm) (argsL := As) (rest := rest) (fun sig h => hn.trans (hlen sig h)) hstack hW (by rw [hb]; exact hdg)
    (fun vm₁ hW₁ => ⟨hf.1, hf.2, hp.2 (T.setVm vm₁) hT hW₁⟩) with ⟨v, vm₁, ⟨U', l2, c2, s2⟩, hW₁, X', ⟨g', mk, t, L, e1, e2, hq, h1, hL, h2, h3⟩, st⟩ | ⟨q, vm₁, ⟨U', l2, c2, s2⟩, hW₁, X', ⟨g', mk, t, L, E, ce, e1, e2, hq, hce, hcv, hcl, h1, hL, h2, h3⟩, st⟩
  · dsimp only [Pt.U, Pt.locs, Pt.cells, Pt.slots] at X' e1 e2 h1 h2 h3 st
    subst h1; subst h2; subst h3
    exact Or.inl ⟨v, (T.setVm vm₁).calling g' mk As.toArray, t, U', L, hT, X', hL, e1, e2, hq, st⟩
  · dsimp only [Pt.U, Pt.locs, Pt.cells, Pt.slots] at X' e1 e2 h1 h2 h3 st hcl
    subst h1; subst h2; subst h3
    exact Or.inr ⟨q, (T.setVm vm₁).calling g' mk As.toArray, t, U', L, E, ce, hT, X', hL, e1, e2, hq, hce, hcv, vx_cls hW₁ hcl, st⟩
end Runs
section Rows
variable {p : Program} {l : Launch} {e : Env} {R : Room} {s : State} {m : MethodId} {args : Array Value} {below : List Frame} {meth : Method} {c : Code} {H : Heap} {locs : List Loc} {cells slots : Nat} {Q : State → Prop}
variable {mc ms : Nat} {free : Addr → Prop} {A0 A1 : Nat → Prop} {H0 : Heap} {a : Array Value} {pc : Nat} {ls : Array Slot} {st0 rest : List Value}
theorem vx_keep {st₀ t T' : State} {L : List Loc} (h0 : st₀.heap = H) (e1 : T'.heap = t.heap) (hS : va_S A0 H0 H locs) (hA : ∀ q, q < H.size → A1 q → A0 q) (hf : ∀ q, free q → A0 q) (hL : ∀ q ∈ L, free q.base) (hF : va_F A1 st₀ t) :
    H.size ≤ T'.heap.size ∧ (∀ q : Nat, q < H.size → ¬ A1 q → T'.heap[q]? = H[q]?) ∧ va_S A0 H0 T'.heap (locs ++ L) := by
  obtain ⟨hz, hk⟩ := hF
  rw [h0] at hz hk
  exact ⟨by rw [e1]; exact hz, fun q h1 h2 => by rw [e1]; exact hk q h1 h2,
    ⟨Nat.le_trans hS.1 (by rw [e1]; exact hz), fun q h1 h2 => by rw [e1, hk q (Nat.lt_of_lt_of_le h1 hS.1) (fun z => h2 (hA q (Nat.lt_of_lt_of_le h1 hS.1) z))]; exact hS.2.1 q h1 h2, fun q hq => by
      rcases List.mem_append.mp hq with h | h
      · exact hS.2.2 q h
      · exact hf _ (hL q h)⟩⟩
theorem vx_calli {S SX : Type} {post : Int32 → S → Prop} {px : SX → Prop} {B : S → State → Prop} {BX : String → SX → State → Prop} {AX : Nat → Prop} (hr : vx_Run p l e R s m args below meth c H locs cells slots mc ms (F0 m pc ls st0) rest (va_Qi post B A1 a) (vx_X px BX AX) free) (hS : va_S A0 H0 H locs) (hA : ∀ q, q < H.size → A1 q → A0 q) (hf : ∀ q, free q → A0 q) (hAX : ∀ q, q < H.size → AX q → A0 q)
    (kx : ∀ (E : String) (ce : Cell) (q9 : Addr) (u : SX) (t : State) (H1 : Heap) (locs1 : List Loc), t.heap = H1 → s.vm.Alike t.vm → px u → BX E u t → H.size ≤ H1.size → (∀ q : Nat, q < H.size → ¬ AX q → H1[q]? = H[q]?) → va_S A0 H0 H1 locs1 → H1[q9]? = some ce → ce.vm = .none → s.vm.findClass E = some ce.cls → vx_W p l e R s m args below meth c H1 locs1 (cells + mc) (slots + ms) Q (F0 m pc ls rest) q9)
    (kk : ∀ (r : Int32) (u : S) (t : State) (H1 : Heap) (locs1 : List Loc), t.heap = H1 → s.vm.Alike t.vm → post r u → B u t → H.size ≤ H1.size → (∀ q : Nat, q < H.size → ¬ A1 q → H1[q]? = H[q]?) → va_S A0 H0 H1 locs1 → W p l e R s m args below meth c H1 locs1 (cells + mc) (slots + ms) Q (F0 m (pc + 3) ls (.int r :: rest))) : W p l e R s m args below meth c H locs cells slots Q (F0 m pc ls st0) := by
  intro T hT X
  rcases hr T hT X with ⟨v, st₀, t, T', L, h0, X', hL, e1, e2, ⟨⟨r, u, hv, hp, hb⟩, hF⟩, st⟩ | ⟨q, st₀, t, T', L, E, ce, h0, X', hL, e1, e2, ⟨u, hp, hb, hF⟩, hce, hcv, hcl, st⟩
  · cases hv
    obtain ⟨k1, k2, k3⟩ := vx_keep h0 e1 hS hA hf hL hF
    obtain ⟨t2, a1, b1⟩ := kk r u t T'.heap (locs ++ L) e1.symm (by rw [← e2]; exact X'.warmed.alike) hp hb k1 k2 k3 T' rfl X'
    exact ⟨t2, st t2 a1, b1⟩
  · obtain ⟨k1, k2, k3⟩ := vx_keep h0 e1 hS hAX hf hL hF
    obtain ⟨t2, a1, b1⟩ := kx E ce q u t T'.heap (locs ++ L) e1.symm (by rw [← e2]; exact X'.warmed.alike) hp hb k1 k2 k3 (by rw [e1]; exact hce) hcv hcl T' rfl X'
    exact ⟨t2, st.trans a1, b1⟩
theorem vx_calll {S SX : Type} {post : Int64 → S → Prop} {px : SX → Prop} {B : S → State → Prop} {BX : String → SX → State → Prop} {AX : Nat → Prop} (hr : vx_Run p l e R s m args below meth c H locs cells slots mc ms (F0 m pc ls st0) rest (va_Ql post B A1 a) (vx_X px BX AX) free) (hS : va_S A0 H0 H locs) (hA : ∀ q, q < H.size → A1 q → A0 q) (hf : ∀ q, free q → A0 q) (hAX : ∀ q, q < H.size → AX q → A0 q)
    (kx : ∀ (E : String) (ce : Cell) (q9 : Addr) (u : SX) (t : State) (H1 : Heap) (locs1 : List Loc), t.heap = H1 → s.vm.Alike t.vm → px u → BX E u t → H.size ≤ H1.size → (∀ q : Nat, q < H.size → ¬ AX q → H1[q]? = H[q]?) → va_S A0 H0 H1 locs1 → H1[q9]? = some ce → ce.vm = .none → s.vm.findClass E = some ce.cls → vx_W p l e R s m args below meth c H1 locs1 (cells + mc) (slots + ms) Q (F0 m pc ls rest) q9)
    (kk : ∀ (r : Int64) (u : S) (t : State) (H1 : Heap) (locs1 : List Loc), t.heap = H1 → s.vm.Alike t.vm → post r u → B u t → H.size ≤ H1.size → (∀ q : Nat, q < H.size → ¬ A1 q → H1[q]? = H[q]?) → va_S A0 H0 H1 locs1 → W p l e R s m args below meth c H1 locs1 (cells + mc) (slots + ms) Q (F0 m (pc + 3) ls (.long r :: rest))) : W p l e R s m args below meth c H locs cells slots Q (F0 m pc ls st0) := by
  intro T hT X
  rcases hr T hT X with ⟨v, st₀, t, T', L, h0, X', hL, e1, e2, ⟨⟨r, u, hv, hp, hb⟩, hF⟩, st⟩ | ⟨q, st₀, t, T', L, E, ce, h0, X', hL, e1, e2, ⟨u, hp, hb, hF⟩, hce, hcv, hcl, st⟩
  · cases hv
    obtain ⟨k1, k2, k3⟩ := vx_keep h0 e1 hS hA hf hL hF
    obtain ⟨t2, a1, b1⟩ := kk r u t T'.heap (locs ++ L) e1.symm (by rw [← e2]; exact X'.warmed.alike) hp hb k1 k2 k3 T' rfl X'
    exact ⟨t2, st t2 a1, b1⟩
  · obtain ⟨k1, k2, k3⟩ := vx_keep h0 e1 hS hAX hf hL hF
    obtain ⟨t2, a1, b1⟩ := kx E ce q u t T'.heap (locs ++ L) e1.symm (by rw [← e2]; exact X'.warmed.alike) hp hb k1 k2 k3 (by rw [e1]; exact hce) hcv hcl T' rfl X'
    exact ⟨t2, st.trans a1, b1⟩
theorem vx_callf {S SX : Type} {post : UInt32 → S → Prop} {px : SX → Prop} {B : S → State → Prop} {BX : String → SX → State → Prop} {AX : Nat → Prop} (hr : vx_Run p l e R s m args below meth c H locs cells slots mc ms (F0 m pc ls st0) rest (va_Qf post B A1 a) (vx_X px BX AX) free) (hS : va_S A0 H0 H locs) (hA : ∀ q, q < H.size → A1 q → A0 q) (hf : ∀ q, free q → A0 q) (hAX : ∀ q, q < H.size → AX q → A0 q)
    (kx : ∀ (E : String) (ce : Cell) (q9 : Addr) (u : SX) (t : State) (H1 : Heap) (locs1 : List Loc), t.heap = H1 → s.vm.Alike t.vm → px u → BX E u t → H.size ≤ H1.size → (∀ q : Nat, q < H.size → ¬ AX q → H1[q]? = H[q]?) → va_S A0 H0 H1 locs1 → H1[q9]? = some ce → ce.vm = .none → s.vm.findClass E = some ce.cls → vx_W p l e R s m args below meth c H1 locs1 (cells + mc) (slots + ms) Q (F0 m pc ls rest) q9)
    (kk : ∀ (r : UInt32) (u : S) (t : State) (H1 : Heap) (locs1 : List Loc), t.heap = H1 → s.vm.Alike t.vm → post r u → B u t → H.size ≤ H1.size → (∀ q : Nat, q < H.size → ¬ A1 q → H1[q]? = H[q]?) → va_S A0 H0 H1 locs1 → W p l e R s m args below meth c H1 locs1 (cells + mc) (slots + ms) Q (F0 m (pc + 3) ls (.float r :: rest))) : W p l e R s m args below meth c H locs cells slots Q (F0 m pc ls st0) := by
  intro T hT X
  rcases hr T hT X with ⟨v, st₀, t, T', L, h0, X', hL, e1, e2, ⟨⟨r, u, hv, hp, hb⟩, hF⟩, st⟩ | ⟨q, st₀, t, T', L, E, ce, h0, X', hL, e1, e2, ⟨u, hp, hb, hF⟩, hce, hcv, hcl, st⟩
  · cases hv
    obtain ⟨k1, k2, k3⟩ := vx_keep h0 e1 hS hA hf hL hF
    obtain ⟨t2, a1, b1⟩ := kk r u t T'.heap (locs ++ L) e1.symm (by rw [← e2]; exact X'.warmed.alike) hp hb k1 k2 k3 T' rfl X'
    exact ⟨t2, st t2 a1, b1⟩
  · obtain ⟨k1, k2, k3⟩ := vx_keep h0 e1 hS hAX hf hL hF
    obtain ⟨t2, a1, b1⟩ := kx E ce q u t T'.heap (locs ++ L) e1.symm (by rw [← e2]; exact X'.warmed.alike) hp hb k1 k2 k3 (by rw [e1]; exact hce) hcv hcl T' rfl X'
    exact ⟨t2, st.trans a1, b1⟩
theorem vx_calld {S SX : Type} {post : UInt64 → S → Prop} {px : SX → Prop} {B : S → State → Prop} {BX : String → SX → State → Prop} {AX : Nat → Prop} (hr : vx_Run p l e R s m args below meth c H locs cells slots mc ms (F0 m pc ls st0) rest (va_Qd post B A1 a) (vx_X px BX AX) free) (hS : va_S A0 H0 H locs) (hA : ∀ q, q < H.size → A1 q → A0 q) (hf : ∀ q, free q → A0 q) (hAX : ∀ q, q < H.size → AX q → A0 q)
    (kx : ∀ (E : String) (ce : Cell) (q9 : Addr) (u : SX) (t : State) (H1 : Heap) (locs1 : List Loc), t.heap = H1 → s.vm.Alike t.vm → px u → BX E u t → H.size ≤ H1.size → (∀ q : Nat, q < H.size → ¬ AX q → H1[q]? = H[q]?) → va_S A0 H0 H1 locs1 → H1[q9]? = some ce → ce.vm = .none → s.vm.findClass E = some ce.cls → vx_W p l e R s m args below meth c H1 locs1 (cells + mc) (slots + ms) Q (F0 m pc ls rest) q9)
    (kk : ∀ (r : UInt64) (u : S) (t : State) (H1 : Heap) (locs1 : List Loc), t.heap = H1 → s.vm.Alike t.vm → post r u → B u t → H.size ≤ H1.size → (∀ q : Nat, q < H.size → ¬ A1 q → H1[q]? = H[q]?) → va_S A0 H0 H1 locs1 → W p l e R s m args below meth c H1 locs1 (cells + mc) (slots + ms) Q (F0 m (pc + 3) ls (.double r :: rest))) : W p l e R s m args below meth c H locs cells slots Q (F0 m pc ls st0) := by
  intro T hT X
  rcases hr T hT X with ⟨v, st₀, t, T', L, h0, X', hL, e1, e2, ⟨⟨r, u, hv, hp, hb⟩, hF⟩, st⟩ | ⟨q, st₀, t, T', L, E, ce, h0, X', hL, e1, e2, ⟨u, hp, hb, hF⟩, hce, hcv, hcl, st⟩
  · cases hv
    obtain ⟨k1, k2, k3⟩ := vx_keep h0 e1 hS hA hf hL hF
    obtain ⟨t2, a1, b1⟩ := kk r u t T'.heap (locs ++ L) e1.symm (by rw [← e2]; exact X'.warmed.alike) hp hb k1 k2 k3 T' rfl X'
    exact ⟨t2, st t2 a1, b1⟩
  · obtain ⟨k1, k2, k3⟩ := vx_keep h0 e1 hS hAX hf hL hF
    obtain ⟨t2, a1, b1⟩ := kx E ce q u t T'.heap (locs ++ L) e1.symm (by rw [← e2]; exact X'.warmed.alike) hp hb k1 k2 k3 (by rw [e1]; exact hce) hcv hcl T' rfl X'
    exact ⟨t2, st.trans a1, b1⟩
theorem vx_callv {S SX : Type} {post : S → Prop} {px : SX → Prop} {B : S → State → Prop} {BX : String → SX → State → Prop} {AX : Nat → Prop} (hr : vx_Run p l e R s m args below meth c H locs cells slots mc ms (F0 m pc ls st0) rest (va_Qv post B A1 a) (vx_X px BX AX) free) (hS : va_S A0 H0 H locs) (hA : ∀ q, q < H.size → A1 q → A0 q) (hf : ∀ q, free q → A0 q) (hAX : ∀ q, q < H.size → AX q → A0 q)
    (kx : ∀ (E : String) (ce : Cell) (q9 : Addr) (u : SX) (t : State) (H1 : Heap) (locs1 : List Loc), t.heap = H1 → s.vm.Alike t.vm → px u → BX E u t → H.size ≤ H1.size → (∀ q : Nat, q < H.size → ¬ AX q → H1[q]? = H[q]?) → va_S A0 H0 H1 locs1 → H1[q9]? = some ce → ce.vm = .none → s.vm.findClass E = some ce.cls → vx_W p l e R s m args below meth c H1 locs1 (cells + mc) (slots + ms) Q (F0 m pc ls rest) q9)
    (kk : ∀ (u : S) (t : State) (H1 : Heap) (locs1 : List Loc), t.heap = H1 → s.vm.Alike t.vm → post u → B u t → H.size ≤ H1.size → (∀ q : Nat, q < H.size → ¬ A1 q → H1[q]? = H[q]?) → va_S A0 H0 H1 locs1 → W p l e R s m args below meth c H1 locs1 (cells + mc) (slots + ms) Q (F0 m (pc + 3) ls (rest))) : W p l e R s m args below meth c H locs cells slots Q (F0 m pc ls st0) := by
  intro T hT X
  rcases hr T hT X with ⟨v, st₀, t, T', L, h0, X', hL, e1, e2, ⟨⟨u, hv, hp, hb⟩, hF⟩, st⟩ | ⟨q, st₀, t, T', L, E, ce, h0, X', hL, e1, e2, ⟨u, hp, hb, hF⟩, hce, hcv, hcl, st⟩
  · cases hv
    obtain ⟨k1, k2, k3⟩ := vx_keep h0 e1 hS hA hf hL hF
    obtain ⟨t2, a1, b1⟩ := kk u t T'.heap (locs ++ L) e1.symm (by rw [← e2]; exact X'.warmed.alike) hp hb k1 k2 k3 T' rfl X'
    exact ⟨t2, st t2 a1, b1⟩
  · obtain ⟨k1, k2, k3⟩ := vx_keep h0 e1 hS hAX hf hL hF
    obtain ⟨t2, a1, b1⟩ := kx E ce q u t T'.heap (locs ++ L) e1.symm (by rw [← e2]; exact X'.warmed.alike) hp hb k1 k2 k3 (by rw [e1]; exact hce) hcv hcl T' rfl X'
    exact ⟨t2, st.trans a1, b1⟩
/-- caught by the row x of this method's table; the rows ahead don't take it -/
theorem vx_catch {own name : String} {E : String} {ce : Cell} {q : Addr} (hown : s.vm.findClass own = some m.cls) (pre : List ExceptionTableEntry) (x : ExceptionTableEntry) (suf : List ExceptionTableEntry) (hsplit : c.exceptionTable.toList = pre ++ x :: suf)
    (hpass : ∀ z ∈ pre, covers z pc = false ∨ (z.catchType ≠ 0 ∧ ∃ nm : String, (Cond.classLink own z.catchType nm).before args s = true ∧ va_Nc E nm s)) (hx : covers x pc = true) (h0 : x.catchType ≠ 0)
    (hlink : (Cond.classLink own x.catchType name).before args s = true) (hcast : (Cond.castable E name).before args s = true) (hcell : H[q]? = some ce) (hv : ce.vm = .none) (hcl : s.vm.findClass E = some ce.cls)
    (kk : W p l e R s m args below meth c H locs cells slots Q (F0 m x.handlerPc ls [.ref q])) : vx_W p l e R s m args below meth c H locs cells slots Q (F0 m pc ls rest) q := by
  intro T hT X
  have hpl : e.platform.magicAccessors = ({} : Platform).magicAccessors := by rw [X.admits.platform]
  obtain ⟨c3, c4, hc3, hc4, hasg⟩ := Cond.castable_spec hcast
  cases Option.some.inj (hc3.symm.trans hcl)
  obtain ⟨c5, hc5, hcl5⟩ := Cond.classLink_spec hown hlink e.platform hpl
  cases Option.some.inj (hc4.symm.trans hc5)
  obtain ⟨vm', X', st⟩ := X.thenCaughtThrough q (g := F0 m pc ls rest) rfl (Steps.refl _) (by rw [hT]; exact hcell) (by rw [hv]; rfl) (by obtain ⟨k9, h9, -⟩ := Vm.findClass_spec hcl; exact ⟨k9, h9⟩) pre x suf hsplit
    (fun z hz => by
      rcases hpass z hz with h | ⟨hz0, nm, hl1, hn1⟩
      · exact Or.inl h
      · obtain ⟨c6, hc6, hcl6⟩ := Cond.classLink_spec hown hl1 e.platform hpl
        obtain ⟨a8, b8, h1, h2, h3⟩ := hn1
        cases Option.some.inj (h1.symm.trans hcl)
        cases Option.some.inj (h2.symm.trans hc6)
        exact Or.inr ⟨hz0, _, hcl6, h3⟩) hx (Or.inr ⟨h0, c4, hcl5, hasg⟩)
  obtain ⟨t, a1, b1⟩ := kk (T.setVm vm') hT X'
  exact ⟨t, st.trans a1, b1⟩
end Rows
section Ends
variable {p : Program} {l : Launch} {e : Env} {R : Room} {s : State} {m : MethodId} {args : Array Value} {below : List Frame} {meth : Method} {c : Code} {H : Heap} {locs : List Loc} {cells slots : Nat} {Q : State → Prop}
variable {mc ms : Nat} {free : Addr → Prop} {A0 A1 : Nat → Prop} {H0 : Heap} {a : Array Value} {ls : Array Slot} {st0 rest : List Value}
variable {Qc : Array Value → State → Outcome → State → Prop} {XC : String → State → State → Prop}
/-- what a body that may throw owes at its end -/
def vx_MQ (below : List Frame) (Qc : Array Value → State → Outcome → State → Prop) (XC : String → State → State → Prop) (a : Array Value) (s : State) (mc ms : Nat) (free : Addr → Prop) : State → Prop := fun t =>
  ∃ o, t.status = .running ∧ Ended t below o ∧ vx_Q Qc XC mc ms free a s o t
theorem vx_ret {g : JFrame} {mc ms : Nat} (k : W p l e R s m args below meth c H locs cells slots (MQ below Qc args s mc ms free) g) : W p l e R s m args below meth c H locs cells slots (vx_MQ below Qc XC args s mc ms free) g := by
  intro T hT X
  obtain ⟨t, a1, o, b1, b2, b3, b4⟩ := k T hT X
  exact ⟨t, a1, o, b1, b2, Or.inl ⟨b3, b4⟩⟩
/-- not caught here: it goes on to the caller -/
theorem vx_widen {g : JFrame} {q : Addr} {k n : Nat} (h1 : cells ≤ k) (h2 : slots ≤ n) (kk : vx_W p l e R s m args below meth c H locs k n Q g q) : vx_W p l e R s m args below meth c H locs cells slots Q g q := fun T hT X => kk T hT (stand_widen X h1 h2)
theorem vx_out {pc : Nat} {E : String} {ce : Cell} {q : Addr} {mc ms : Nat} (hout : ∀ x ∈ c.exceptionTable.toList, covers x pc = false) (hlocks : meth.locks = false) (hcell : H[q]? = some ce) (hv : ce.vm = .none) (hcl : s.vm.findClass E = some ce.cls)
    (hx : ∀ t : State, t.heap = H → s.vm.Alike t.vm → XC E s t) (hf : ∀ z ∈ locs, free z.base) (hc : cells ≤ mc) (hs : slots ≤ ms) :
    vx_W p l e R s m args below meth c H locs cells slots (vx_MQ below Qc XC args s mc ms free) (F0 m pc ls rest) q := by
  intro T hT X
  obtain ⟨st1, hrun, hend, hW, hsm⟩ := X.leaveThrown q (g := F0 m pc ls rest) rfl rfl rfl hout hlocks
  have hcell9 : (T.setFrames (.throwing q :: below)).heap[q]? = some ce := by
    show T.heap[q]? = some ce
    rw [hT]; exact hcell
  exact ⟨_, st1, .threw q, hrun, hend, Or.inr ⟨q, rfl, E, ce, locs, hx _ hT hW.alike, hcell9, hv, hcl, hW, hsm.mono hc hs, hf⟩⟩
theorem vx_frame {U : State} {k n : Nat} (h : s.sameButNew ({ U with vm := s.vm } : State) locs k n) : s.heap.size ≤ U.heap.size ∧ ∀ q : Nat, q < s.heap.size → (∀ z ∈ locs, z.base ≠ q) → U.heap[q]? = s.heap[q]? := by
  obtain ⟨-, h2, -, -, -, h6⟩ := h
  refine ⟨h2, fun q hq hz => ?_⟩
  obtain ⟨c9, e1, e2, e3, e4⟩ := h6 q _ (Array.getElem?_eq_getElem hq)
  have hs : c9.slots = (s.heap[q]).slots := Array.ext_getElem? fun i => e4 i fun hm => hz _ hm rfl
  have h9 : c9 = s.heap[q] := by
    rw [hs] at e2
    exact e2
  have e5 : U.heap[q]? = some c9 := e1
  rw [e5, h9, Array.getElem?_eq_getElem hq]
/-- the words of a throw but the four that speak of the heap -/
def vx_no (w : Cond) : Bool := decide (w ≠ .isRef (.static Bundle.tN "UNASSIGNED_STACK" Bundle.steD)) && decide (w ≠ .isRef (.static Bundle.tN "SUPPRESSED_SENTINEL" Bundle.listD)) && decide (w ≠ .laysStatic Bundle.tN "UNASSIGNED_STACK" Bundle.steD) && decide (w ≠ .laysStatic Bundle.tN "SUPPRESSED_SENTINEL" Bundle.listD)
def vx_at0 (own : String) (ic : Nat) (X : String) (names : List String) : List Cond := (Bundle.ownAtoms0 own ic X names).filter vx_no
def vx_atS (own : String) (ic : Nat) (X : String) (names : List String) : List Cond := (Bundle.ownAtoms own ic X names).filter vx_no
/-- a word that the tables alone decide, or a good one -/
def vx_ot (w : Cond) : Bool := w.onTables || goodWord w
theorem vx_ot_at {args a' : Array Value} {s U : State} {w : Cond} (hW : s.WarmedH U.vm) (hvm : s.vm = U.vm) (hg : vx_ot w = true) (h : w.before args s = true) : w.before a' U = true := by
  simp only [vx_ot, Bool.or_eq_true] at hg
  rcases hg with hg | hg
  · exact va_tabs hg hvm h
  · exact word_at hW (good_of_word hg) h
/-- a list's words: the good ones out of the method's own list, the others by premises of their own -/
theorem vx_hat {args : Array Value} {s : State} {L B : List Cond} (h1 : ∀ w ∈ L.filter goodWord, w.before args s = true) (h2 : ∀ w ∈ L.filter (fun w => !goodWord w), w ∈ B) (h3 : ∀ w ∈ B, w.before args s = true) : ∀ w ∈ L, w.before args s = true := by
  intro w hw
  by_cases g : goodWord w = true
  · exact h1 w (List.mem_filter.mpr ⟨hw, g⟩)
  · refine h3 w (h2 w (List.mem_filter.mpr ⟨hw, ?_⟩))
    show (!goodWord w) = true
    cases hgw : goodWord w
    · rfl
    · exact absurd hgw g
theorem vx_c {args : Array Value} {s : State} {w : Cond} {B : List Cond} (h : w.before args s = true) (t : ∀ w ∈ B, w.before args s = true) : ∀ w' ∈ w :: B, w'.before args s = true := fun w' h' => (List.mem_cons.mp h').elim (fun e => by rw [e]; exact h) (t w')
theorem vx_n {args : Array Value} {s : State} : ∀ w ∈ ([] : List Cond), w.before args s = true := fun _ h => nomatch h
theorem vx_own {args : Array Value} {s : State} {L : List Cond} (h1 : ∀ w ∈ L.filter vx_no, w.before args s = true)
    (hU : (Cond.isRef (.static Bundle.tN "UNASSIGNED_STACK" Bundle.steD)).before args s = true) (hN : (Cond.isRef (.static Bundle.tN "SUPPRESSED_SENTINEL" Bundle.listD)).before args s = true)
    (lU : (Cond.laysStatic Bundle.tN "UNASSIGNED_STACK" Bundle.steD).before args s = true) (lN : (Cond.laysStatic Bundle.tN "SUPPRESSED_SENTINEL" Bundle.listD).before args s = true) : ∀ w ∈ L, w.before args s = true := by
  intro w hw
  by_cases e1 : w = .isRef (.static Bundle.tN "UNASSIGNED_STACK" Bundle.steD)
  · rw [e1]; exact hU
  · by_cases e2 : w = .isRef (.static Bundle.tN "SUPPRESSED_SENTINEL" Bundle.listD)
    · rw [e2]; exact hN
    · by_cases e3 : w = .laysStatic Bundle.tN "UNASSIGNED_STACK" Bundle.steD
      · rw [e3]; exact lU
      · by_cases e4 : w = .laysStatic Bundle.tN "SUPPRESSED_SENTINEL" Bundle.listD
        · rw [e4]; exact lN
        · exact h1 w (List.mem_filter.mpr ⟨hw, by unfold vx_no; rw [decide_eq_true e1, decide_eq_true e2, decide_eq_true e3, decide_eq_true e4]; rfl⟩)
/-- where a static field lies, its class's statics cell in H -/
def vx_L (C n d : String) (A : Nat → Prop) (U : State) (H : Heap) : Prop := ∃ (c : ClassId) (k : Class) (i : Nat) (f : Field) (a : Nat) (cell : Cell), U.vm.findClass C = some c ∧ U.fieldFound? C n d = some (c, k, i, f) ∧ f.isStatic = true ∧ k.statics = some a ∧ H[a]? = some cell ∧ cell.vm.isStatics = true ∧ cell.cls = c ∧ f.slot < cell.slots.size ∧ k.staticTypes[f.slot]? = some f.type ∧ ¬ A a
theorem vx_L.moved {C n d : String} {A : Nat → Prop} {u U : State} {H : Heap} (hvm : u.vm.Alike U.vm) (h : vx_L C n d A u H) : vx_L C n d A U H := by
  obtain ⟨c, k, i, f, a, cell, h1, h2, h3, h4, h5, h6, h7, h8, h9, h10⟩ := h
  obtain ⟨k', hi', he⟩ := State.fieldFound?_setVm hvm h2
  exact ⟨c, k', i, f, a, cell, by rw [hvm.findClass]; exact h1, hi', h3, by rw [he]; exact h4, h5, h6, h7, h8, by rw [he]; exact h9, h10⟩
theorem vx_L.kept {C n d : String} {A : Nat → Prop} {U : State} {H H1 : Heap} (h : vx_L C n d A U H) (hq : ∀ a : Nat, a < H.size → ¬ A a → H1[a]? = H[a]?) : vx_L C n d A U H1 := by
  obtain ⟨c, k, i, f, a, cell, h1, h2, h3, h4, h5, h6, h7, h8, h9, h10⟩ := h
  exact ⟨c, k, i, f, a, cell, h1, h2, h3, h4, by rw [hq a (Array.getElem?_eq_some_iff.mp h5).1 h10]; exact h5, h6, h7, h8, h9, h10⟩
theorem vx_L.narrow {C n d : String} {A B : Nat → Prop} {U : State} {H : Heap} (h : vx_L C n d A U H) (hAB : ∀ q, B q → A q) : vx_L C n d B U H := by
  obtain ⟨c, k, i, f, a, cell, h1, h2, h3, h4, h5, h6, h7, h8, h9, h10⟩ := h
  exact ⟨c, k, i, f, a, cell, h1, h2, h3, h4, h5, h6, h7, h8, h9, fun z => h10 (hAB _ z)⟩
theorem vx_L.word {C n d : String} {A : Nat → Prop} {s : State} {args : Array Value} (h : vx_L C n d A s s.heap) : (Cond.laysStatic C n d).before args s = true := by
  obtain ⟨c, k, i, f, a, cell, h1, h2, h3, h4, h5, h6, h7, h8, h9, -⟩ := h
  show (Cond.laysStatic C n d).holds args s none s [] = true
  exact Cond.laysStatic_of h1 h2 h3 h4 h5 h6 h7 h8 h9
/-- .. and what it holds: null or some reference -/
def vx_Zq (C n d : String) (A : Nat → Prop) (U : State) (H : Heap) : Prop := va_Zq C n d A U H ∧ vx_L C n d A U H
theorem vx_Zq.moved {C n d : String} {A : Nat → Prop} {u U : State} {H : Heap} (hvm : u.vm.Alike U.vm) (h : vx_Zq C n d A u H) : vx_Zq C n d A U H := ⟨va_Zq.moved hvm h.1, vx_L.moved hvm h.2⟩
theorem vx_Zq.kept {C n d : String} {A : Nat → Prop} {U : State} {H H1 : Heap} (h : vx_Zq C n d A U H) (hq : ∀ a : Nat, a < H.size → ¬ A a → H1[a]? = H[a]?) : vx_Zq C n d A U H1 := ⟨va_Zq.kept h.1 hq, vx_L.kept h.2 hq⟩
theorem vx_Zq.narrow {C n d : String} {A B : Nat → Prop} {U : State} {H : Heap} (h : vx_Zq C n d A U H) (hAB : ∀ q, B q → A q) : vx_Zq C n d B U H := ⟨va_Zq.narrow h.1 hAB, vx_L.narrow h.2 hAB⟩
theorem vx_Zqof {args : Array Value} {s : State} {C n d : String} {A : Nat → Prop} (hl : (Cond.laysStatic C n d).before args s = true) (hini : (Cond.initialized C).before args s = true) (h : (Cond.isRef (.static C n d)).before args s = true) (hA : ∀ a : Nat, a < s.heap.size → ¬ A a) : vx_Zq C n d A s s.heap := by
  refine ⟨va_Zqof hl hini h hA, ?_⟩
  obtain ⟨c, k, i, f, a, cell, h1, h2, h3, h4, h5, h6, h7, h8, h9⟩ := Cond.laysStatic_spec hl
  exact ⟨c, k, i, f, a, cell, h1, h2, h3, h4, h5, h6, h7, h8, h9, hA a (Array.getElem?_eq_some_iff.mp h5).1⟩
theorem vx_isRef {C n d : String} {v : Value} {A : Nat → Prop} {s : State} {args : Array Value} (h : va_Z C n d v A s s.heap) (hv : v.isRef = true) : (Cond.isRef (.static C n d)).before args s = true := by
  obtain ⟨cf, kf, fi, f, a, cell, h1, h2, h3, h4, h5, h6, h7, -⟩ := h
  have he : (Term.static C n d).eval args s none [] s = some v := by
    simp [Term.eval, State.fieldNamed?, h1, h2, h4, h5, h6, h7]
  simp only [Cond.before, Cond.holds, Cond.value, he]
  cases v <;> simp_all [Value.isRef]
theorem vx_isRefq {C n d : String} {A : Nat → Prop} {s : State} {args : Array Value} (h : va_Zq C n d A s s.heap) : (Cond.isRef (.static C n d)).before args s = true := by
  rcases h with h | ⟨t, h⟩
  · exact vx_isRef h rfl
  · exact vx_isRef h rfl
/-- the same frame, seen from here: as if the method were called anew in this heap -/
theorem vx_rebase {T : State} (X : Stand p l e R s m args below meth c T locs cells slots) {R' : Room} (hf : R'.frames ≤ R.frames) (hl : R'.locals ≤ R.locals) (hc : cells + R'.cells ≤ R.cells) (hs : slots + R'.slots ≤ R.slots) :
    Stand p l e R' ((T.setVm s.vm).setFrames (.invoking m args :: below)) m args below meth c T [] 0 0 := by
  have htop : (T.setVm s.vm).topJava?.isSome := X.here.top
  have hF : ((T.setVm s.vm).setFrames (.invoking m args :: below)).frames = .invoking m args :: below := State.frames_setFrames _ (State.cur_lt_of_top htop)
  obtain ⟨g₀, hg0⟩ := Option.isSome_iff_exists.mp htop
  obtain ⟨r, hr⟩ := State.topJava?_eq_some.mp hg0
  have hl9 : e.platform.stackLimits (T.setVm s.vm).me = e.platform.stackLimits s.me := X.limits
  have hb9 : (T.setVm s.vm).me.stackBytes = s.me.stackBytes := X.bytes
  refine ⟨X.admits, X.cas, X.clock, hF, ?_, X.hears, X.method, X.code, X.here, X.tail, X.warmed, ?_, ?_, ?_⟩
  · have h := X.room
    have hU : ((T.setVm s.vm).setFrames (.invoking m args :: below)).localsInUse = s.localsInUse := by
      rw [State.localsInUse_invoking hF (meth := meth) (c := c) X.method X.code, State.localsInUse_invoking X.frames X.method X.code]
    simp only [State.hasRoom, Bool.and_eq_true, decide_eq_true_eq] at h ⊢
    obtain ⟨⟨⟨⟨h1, h2, h3, h4, h5, h6⟩, h7⟩, h8⟩, h9⟩ := h
    rw [X.frames, List.length_cons] at h2 h3
    have q1 := X.heapSize
    have q2 := X.used
    simp only [hF, hU, List.length_cons, State.stackLimits_setFrames, State.stackBytes_setFrames, hl9, hb9]
    refine ⟨⟨⟨⟨by omega, by omega, by omega, by omega, by omega, h6⟩, ?_⟩, ?_⟩, X.book⟩
    · show T.heap.size + R'.cells ≤ e.platform.maxCells
      omega
    · show T.slotsUsed + R'.slots ≤ e.platform.maxSlots
      omega
  · rw [State.stackLimits_setFrames]; rfl
  · rw [State.stackBytes_setFrames]; rfl
  · refine ⟨?_, Nat.le_refl _, Nat.le_refl _, ?_, ?_, fun a c9 h9 => ⟨c9, h9, rfl, rfl, fun _ _ => rfl⟩⟩
    · obtain ⟨t, ht, -⟩ := State.frames_cons hr
      show T.setVm s.vm = { ((T.setVm s.vm).setFrames (.invoking m args :: below)).setFrames (T.setVm s.vm).frames with heap := T.heap, slotsUsed := T.slotsUsed }
      rw [State.setFrames_setFrames, State.setFrames_self ht]
      rfl
    · show T.slotsUsed = T.slotsUsed + ((T.heap.toList.drop T.heap.size).map (·.slots.size)).sum
      rw [List.drop_eq_nil_of_le (Nat.le_of_eq Array.length_toList)]
      rfl
    · show ((T.heap.toList.drop T.heap.size).map (·.slots.size)).sum ≤ 0
      rw [List.drop_eq_nil_of_le (Nat.le_of_eq Array.length_toList)]
      exact Nat.le_refl _
/-- 'throw new E()': new; dup; invokespecial; athrow -/
theorem vx_throw0 {cc : ByteArray} {pc : Nat} (hexec : p.tables.exec = Jvm.exec) (hb : c.code = cc) (hl : l.stackTraces = false) {own cls : String} {names : List String} {ik ic mc ms : Nat} {A : Nat → Prop}
    (hown : s.vm.findClass own = some m.cls) (hcls : Bundle.fit cls = true) (hnames : ∀ n ∈ names, Bundle.fit n = true)
    (hk : (Cond.classLink own ik cls).before args s = true) (hini : (Cond.initialized cls).before args s = true) (hat : ∀ w ∈ vx_at0 own ic cls names, w.before args s = true)
    (hgood : ∀ w ∈ Cond.classLink own ik cls :: Cond.initialized cls :: vx_at0 own ic cls names, vx_ot w = true)
    (hU : vx_Zq Bundle.tN "UNASSIGNED_STACK" Bundle.steD A s s.heap) (hN : vx_Zq Bundle.tN "SUPPRESSED_SENTINEL" Bundle.listD A s s.heap) (hS : va_S A s.heap H locs) (hsize : ls.size = c.maxLocals)
    (d0 : decode cc pc = .ok (.new ik, 3)) (d3 : decode cc (pc + 3) = .ok (.dup, 1)) (d4 : decode cc (pc + 4) = .ok (.invokespecial ic, 3)) (d7 : decode cc (pc + 7) = .ok (.athrow, 1))
    (hout : ∀ x ∈ c.exceptionTable.toList, covers x (pc + 7) = false)
    (hRframes : names.length + 3 < R.frames) (hRlocals : (rest.map fun v => v.category).sum + (13 * (names.length + 1) + 42) ≤ R.locals) (hRcells : cells + 1 ≤ R.cells) (hRslots : slots + 6 ≤ R.slots) (hlocks : meth.locks = false)
    (hx : ∀ t : State, s.vm.Alike t.vm → H.size ≤ t.heap.size → (∀ q : Nat, q < H.size → t.heap[q]? = H[q]?) → XC cls s t)
    (hf : ∀ z ∈ locs, free z.base) (hc : cells + 1 ≤ mc) (hs : slots + 6 ≤ ms) :
    W p l e R s m args below meth c H locs cells slots (vx_MQ below Qc XC args s mc ms free) (F0 m pc ls rest) := by
  intro T hT X
  have htr : e.platform.stackTraces = false := (show e.platform.stackTraces = l.stackTraces by rw [X.admits.platform]).trans hl
  have Y := vx_rebase X (R' := { frames := R.frames, locals := R.locals, cells := 1, slots := 6 }) (Nat.le_refl _) (Nat.le_refl _) hRcells hRslots
  obtain ⟨s', hA⟩ : ∃ z, z = (T.setVm s.vm).setFrames (.invoking m args :: below) := ⟨_, rfl⟩
  rw [← hA] at Y
  have hvm : s'.vm = s.vm := by rw [hA]; rfl
  have hhp : s'.heap = H := by rw [hA]; exact hT
  have hW0 : s.WarmedH s'.vm := by rw [hvm]; exact State.WarmedH.refl s
  have hat' : ∀ w ∈ vx_at0 own ic cls names, w.before args s' = true := fun w hw => vx_ot_at hW0 hvm.symm (hgood w (List.mem_cons_of_mem _ (List.mem_cons_of_mem _ hw))) (hat w hw)
  have hk' : (Cond.classLink own ik cls).before args s' = true := vx_ot_at hW0 hvm.symm (hgood _ List.mem_cons_self) hk
  have hini' : (Cond.initialized cls).before args s' = true := vx_ot_at hW0 hvm.symm (hgood _ (List.mem_cons_of_mem _ List.mem_cons_self)) hini
  have hU' : vx_Zq Bundle.tN "UNASSIGNED_STACK" Bundle.steD A s' s'.heap := by rw [hhp]; exact vx_Zq.moved hW0.alike (hU.kept hS.2.1)
  have hN' : vx_Zq Bundle.tN "SUPPRESSED_SENTINEL" Bundle.listD A s' s'.heap := by rw [hhp]; exact vx_Zq.moved hW0.alike (hN.kept hS.2.1)
  have h : ∀ w ∈ Bundle.ownAtoms0 own ic cls names, w.before args s' = true := vx_own hat' (vx_isRefq hU'.1) (vx_isRefq hN'.1) hU'.2.word hN'.2.word
  have hown' : s'.vm.findClass own = some m.cls := by rw [hvm]; exact hown
  have hins : (Cond.instantiable cls 6).before args s' = true := h _ (by simp [Bundle.ownAtoms0])
  obtain ⟨vm₁, cX, kX, hfX, hkX, -, -, X₁, st1⟩ := Y.newCold hexec (own := own) (C := cls) (index := ik) (n := 6) hown' hk' hins hini'
    (g := F0 m pc ls rest) rfl (by rw [hb]; exact d0) (Nat.le_refl _) (Nat.le_refl _)
  generalize hT1 : (T.setVm vm₁).pushCell { cls := cX, slots := kX.instanceTypes.map defaultValue, vm := .none } = T1 at X₁ st1
  have hcat : (Value.ref T.heap.size).category = 1 := rfl
  have hcellA : T1.heap[T.heap.size]? = some (freshCell cX kX) := by rw [← hT1]; exact State.heap_pushCell_size _ _
  have d3' : decode c.code (pc + 3) = .ok (.dup, 1) := by rw [hb]; exact d3
  obtain ⟨U, hsteps, hrun, hend, hW, hsame, ce, hce, hO⟩ := X₁.ctorThrow0 hexec htr (own := own) (cls := cls) (names := names) (ic := ic) hown' hcls hnames h (fun x hx => nomatch hx) hfX hkX hcellA (by rw [hhp, hT]; exact Nat.le_refl _)
    (g := { method := m, pc := pc + 4, locals := ls, stack := .ref T.heap.size :: .ref T.heap.size :: rest, locked := none }) rfl hsize rfl rfl (rest := rest) rfl
    (by rw [hb]; exact d4) (by rw [hb]; exact d7) hout hRframes (by simp only [List.map_cons, List.sum_cons, hcat]; omega) hlocks
  obtain ⟨f1, f2⟩ := vx_frame hsame
  rw [hhp] at f1 f2
  have hWs : s.WarmedH U.vm := State.WarmedH.trans hW0 hW
  have hcl : s.vm.findClass cls = some ce.cls := by
    have h9 := hO.cls
    rw [hvm] at h9
    exact h9
  have hall : s.sameButNew ({ U with vm := s.vm } : State) locs mc ms := by
    subst hA
    obtain ⟨e1, e2⟩ := hsame
    rw [State.setFrames_setFrames] at e1
    have h2 : (T.setVm s.vm).sameButNew ({ U with vm := s.vm } : State) [] (0 + 1) (0 + 6) := ⟨e1, e2⟩
    have h3 := X.same.trans h2
    rw [List.append_nil] at h3
    exact h3.mono hc hs
  refine ⟨U, ?_, .threw T.heap.size, hrun, hend, Or.inr ⟨T.heap.size, rfl, cls, ce, locs, hx U hWs.alike f1 (fun q hq => f2 q hq (fun z hz => nomatch hz)), hce, hO.vm, hcl, hWs, hall, hf⟩⟩
  refine st1 _ ?_
  show Steps p.tables e below (T1.setTop { method := m, pc := pc + 3, locals := ls, stack := .ref T.heap.size :: rest, locked := none }) _
  jvm_step X₁.here [X₁.here.top, hexec, d3', Value.category]
  exact hsteps
/-- 'throw new E("text")': new; dup; ldc; invokespecial; athrow -/
theorem vx_throwS {cc : ByteArray} {pc : Nat} (hexec : p.tables.exec = Jvm.exec) (hb : c.code = cc) (hl : l.stackTraces = false) {own cls text : String} {names : List String} {ik is ic mc ms sa : Nat} {A : Nat → Prop}
    (hown : s.vm.findClass own = some m.cls) (hcls : Bundle.fit cls = true) (hnames : ∀ n ∈ names, Bundle.fit n = true)
    (hk : (Cond.classLink own ik cls).before args s = true) (hini : (Cond.initialized cls).before args s = true) (hstr : vk_R own is text sa s) (hat : ∀ w ∈ vx_atS own ic cls names, w.before args s = true)
    (hgood : ∀ w ∈ Cond.classLink own ik cls :: Cond.initialized cls :: vx_atS own ic cls names, vx_ot w = true)
    (hU : vx_Zq Bundle.tN "UNASSIGNED_STACK" Bundle.steD A s s.heap) (hN : vx_Zq Bundle.tN "SUPPRESSED_SENTINEL" Bundle.listD A s s.heap) (hS : va_S A s.heap H locs) (hsize : ls.size = c.maxLocals)
    (d0 : decode cc pc = .ok (.new ik, 3)) (d3 : decode cc (pc + 3) = .ok (.dup, 1)) (d4 : decode cc (pc + 4) = .ok (.ldc is, 2)) (d6 : decode cc (pc + 6) = .ok (.invokespecial ic, 3)) (d9 : decode cc (pc + 9) = .ok (.athrow, 1))
    (hout : ∀ x ∈ c.exceptionTable.toList, covers x (pc + 9) = false)
    (hRframes : names.length + 3 < R.frames) (hRlocals : (rest.map fun v => v.category).sum + (13 * (names.length + 1) + 43) ≤ R.locals) (hRcells : cells + 1 ≤ R.cells) (hRslots : slots + 6 ≤ R.slots) (hlocks : meth.locks = false)
    (hx : ∀ t : State, s.vm.Alike t.vm → H.size ≤ t.heap.size → (∀ q : Nat, q < H.size → t.heap[q]? = H[q]?) → XC cls s t)
    (hf : ∀ z ∈ locs, free z.base) (hc : cells + 1 ≤ mc) (hs : slots + 6 ≤ ms) :
    W p l e R s m args below meth c H locs cells slots (vx_MQ below Qc XC args s mc ms free) (F0 m pc ls rest) := by
  intro T hT X
  have htr : e.platform.stackTraces = false := (show e.platform.stackTraces = l.stackTraces by rw [X.admits.platform]).trans hl
  have Y := vx_rebase X (R' := { frames := R.frames, locals := R.locals, cells := 1, slots := 6 }) (Nat.le_refl _) (Nat.le_refl _) hRcells hRslots
  obtain ⟨s', hA⟩ : ∃ z, z = (T.setVm s.vm).setFrames (.invoking m args :: below) := ⟨_, rfl⟩
  rw [← hA] at Y
  have hvm : s'.vm = s.vm := by rw [hA]; rfl
  have hhp : s'.heap = H := by rw [hA]; exact hT
  have hW0 : s.WarmedH s'.vm := by rw [hvm]; exact State.WarmedH.refl s
  have hat' : ∀ w ∈ vx_atS own ic cls names, w.before args s' = true := fun w hw => vx_ot_at hW0 hvm.symm (hgood w (List.mem_cons_of_mem _ (List.mem_cons_of_mem _ hw))) (hat w hw)
  have hk' : (Cond.classLink own ik cls).before args s' = true := vx_ot_at hW0 hvm.symm (hgood _ List.mem_cons_self) hk
  have hini' : (Cond.initialized cls).before args s' = true := vx_ot_at hW0 hvm.symm (hgood _ (List.mem_cons_of_mem _ List.mem_cons_self)) hini
  have hU' : vx_Zq Bundle.tN "UNASSIGNED_STACK" Bundle.steD A s' s'.heap := by rw [hhp]; exact vx_Zq.moved hW0.alike (hU.kept hS.2.1)
  have hN' : vx_Zq Bundle.tN "SUPPRESSED_SENTINEL" Bundle.listD A s' s'.heap := by rw [hhp]; exact vx_Zq.moved hW0.alike (hN.kept hS.2.1)
  have h : ∀ w ∈ Bundle.ownAtoms own ic cls names, w.before args s' = true := vx_own hat' (vx_isRefq hU'.1) (vx_isRefq hN'.1) hU'.2.word hN'.2.word
  have hown' : s'.vm.findClass own = some m.cls := by rw [hvm]; exact hown
  have hins : (Cond.instantiable cls 6).before args s' = true := h _ (by simp [Bundle.ownAtoms])
  obtain ⟨vm₁, cX, kX, hfX, hkX, -, -, X₁, st1⟩ := Y.newCold hexec (own := own) (C := cls) (index := ik) (n := 6) hown' hk' hins hini'
    (g := F0 m pc ls rest) rfl (by rw [hb]; exact d0) (Nat.le_refl _) (Nat.le_refl _)
  generalize hT1 : (T.setVm vm₁).pushCell { cls := cX, slots := kX.instanceTypes.map defaultValue, vm := .none } = T1 at X₁ st1
  have hcat : (Value.ref T.heap.size).category = 1 := rfl
  have hcellA : T1.heap[T.heap.size]? = some (freshCell cX kX) := by rw [← hT1]; exact State.heap_pushCell_size _ _
  have d3' : decode c.code (pc + 3) = .ok (.dup, 1) := by rw [hb]; exact d3
  have d4' : decode c.code (pc + 4) = .ok (.ldc is, 2) := by rw [hb]; exact d4
  have hstr' : vk_R own is text sa s' := vk_R.warm hW0 hstr
  obtain ⟨U, hsteps, hrun, hend, hW, hsame, ce, hce, hO⟩ := X₁.ctorThrowS hexec htr (own := own) (cls := cls) (names := names) (ic := ic) hown' hcls hnames h (fun x hx => nomatch hx) hfX hkX hcellA (by rw [hhp, hT]; exact Nat.le_refl _) (msg := .ref sa) rfl
    (g := { method := m, pc := pc + 6, locals := ls, stack := .ref sa :: .ref T.heap.size :: .ref T.heap.size :: rest, locked := none }) rfl hsize rfl rfl (rest := rest) rfl
    (by rw [hb]; exact d6) (by rw [hb]; exact d9) hout hRframes (by simp only [List.map_cons, List.sum_cons, hcat]; omega) hlocks
  obtain ⟨f1, f2⟩ := vx_frame hsame
  rw [hhp] at f1 f2
  have hWs : s.WarmedH U.vm := State.WarmedH.trans hW0 hW
  have hcl : s.vm.findClass cls = some ce.cls := by
    have h9 := hO.cls
    rw [hvm] at h9
    exact h9
  have hall : s.sameButNew ({ U with vm := s.vm } : State) locs mc ms := by
    subst hA
    obtain ⟨e1, e2⟩ := hsame
    rw [State.setFrames_setFrames] at e1
    have h2 : (T.setVm s.vm).sameButNew ({ U with vm := s.vm } : State) [] (0 + 1) (0 + 6) := ⟨e1, e2⟩
    have h3 := X.same.trans h2
    rw [List.append_nil] at h3
    exact h3.mono hc hs
  refine ⟨U, ?_, .threw T.heap.size, hrun, hend, Or.inr ⟨T.heap.size, rfl, cls, ce, locs, hx U hWs.alike f1 (fun q hq => f2 q hq (fun z hz => nomatch hz)), hce, hO.vm, hcl, hWs, hall, hf⟩⟩
  refine st1 _ ?_
  show Steps p.tables e below (T1.setTop { method := m, pc := pc + 3, locals := ls, stack := .ref T.heap.size :: rest, locked := none }) _
  jvm_step X₁.here [X₁.here.top, hexec, d3', Value.category]
  exact X₁.ldcString hexec (own := own) (text := text) (index := is) (a := sa) hown' hstr'.1 hstr'.2
    (g := { method := m, pc := pc + 4, locals := ls, stack := .ref T.heap.size :: .ref T.heap.size :: rest, locked := none }) rfl d4' _ hsteps
/-- 'throw new E("text")', the text by a wide index -/
theorem vx_throwSW {cc : ByteArray} {pc : Nat} (hexec : p.tables.exec = Jvm.exec) (hb : c.code = cc) (hl : l.stackTraces = false) {own cls text : String} {names : List String} {ik is ic mc ms sa : Nat} {A : Nat → Prop}
    (hown : s.vm.findClass own = some m.cls) (hcls : Bundle.fit cls = true) (hnames : ∀ n ∈ names, Bundle.fit n = true)
    (hk : (Cond.classLink own ik cls).before args s = true) (hini : (Cond.initialized cls).before args s = true) (hstr : vk_R own is text sa s) (hat : ∀ w ∈ vx_atS own ic cls names, w.before args s = true)
    (hgood : ∀ w ∈ Cond.classLink own ik cls :: Cond.initialized cls :: vx_atS own ic cls names, vx_ot w = true)
    (hU : vx_Zq Bundle.tN "UNASSIGNED_STACK" Bundle.steD A s s.heap) (hN : vx_Zq Bundle.tN "SUPPRESSED_SENTINEL" Bundle.listD A s s.heap) (hS : va_S A s.heap H locs) (hsize : ls.size = c.maxLocals)
    (d0 : decode cc pc = .ok (.new ik, 3)) (d3 : decode cc (pc + 3) = .ok (.dup, 1)) (d4 : decode cc (pc + 4) = .ok (.ldc_w is, 3)) (d7 : decode cc (pc + 7) = .ok (.invokespecial ic, 3)) (d10 : decode cc (pc + 10) = .ok (.athrow, 1))
    (hout : ∀ x ∈ c.exceptionTable.toList, covers x (pc + 10) = false)
    (hRframes : names.length + 3 < R.frames) (hRlocals : (rest.map fun v => v.category).sum + (13 * (names.length + 1) + 43) ≤ R.locals) (hRcells : cells + 1 ≤ R.cells) (hRslots : slots + 6 ≤ R.slots) (hlocks : meth.locks = false)
    (hx : ∀ t : State, s.vm.Alike t.vm → H.size ≤ t.heap.size → (∀ q : Nat, q < H.size → t.heap[q]? = H[q]?) → XC cls s t)
    (hf : ∀ z ∈ locs, free z.base) (hc : cells + 1 ≤ mc) (hs : slots + 6 ≤ ms) :
    W p l e R s m args below meth c H locs cells slots (vx_MQ below Qc XC args s mc ms free) (F0 m pc ls rest) := by
  intro T hT X
  have htr : e.platform.stackTraces = false := (show e.platform.stackTraces = l.stackTraces by rw [X.admits.platform]).trans hl
  have Y := vx_rebase X (R' := { frames := R.frames, locals := R.locals, cells := 1, slots := 6 }) (Nat.le_refl _) (Nat.le_refl _) hRcells hRslots
  obtain ⟨s', hA⟩ : ∃ z, z = (T.setVm s.vm).setFrames (.invoking m args :: below) := ⟨_, rfl⟩
  rw [← hA] at Y
  have hvm : s'.vm = s.vm := by rw [hA]; rfl
  have hhp : s'.heap = H := by rw [hA]; exact hT
  have hW0 : s.WarmedH s'.vm := by rw [hvm]; exact State.WarmedH.refl s
  have hat' : ∀ w ∈ vx_atS own ic cls names, w.before args s' = true := fun w hw => vx_ot_at hW0 hvm.symm (hgood w (List.mem_cons_of_mem _ (List.mem_cons_of_mem _ hw))) (hat w hw)
  have hk' : (Cond.classLink own ik cls).before args s' = true := vx_ot_at hW0 hvm.symm (hgood _ List.mem_cons_self) hk
  have hini' : (Cond.initialized cls).before args s' = true := vx_ot_at hW0 hvm.symm (hgood _ (List.mem_cons_of_mem _ List.mem_cons_self)) hini
  have hU' : vx_Zq Bundle.tN "UNASSIGNED_STACK" Bundle.steD A s' s'.heap := by rw [hhp]; exact vx_Zq.moved hW0.alike (hU.kept hS.2.1)
  have hN' : vx_Zq Bundle.tN "SUPPRESSED_SENTINEL" Bundle.listD A s' s'.heap := by rw [hhp]; exact vx_Zq.moved hW0.alike (hN.kept hS.2.1)
  have h : ∀ w ∈ Bundle.ownAtoms own ic cls names, w.before args s' = true := vx_own hat' (vx_isRefq hU'.1) (vx_isRefq hN'.1) hU'.2.word hN'.2.word
  have hown' : s'.vm.findClass own = some m.cls := by rw [hvm]; exact hown
  have hins : (Cond.instantiable cls 6).before args s' = true := h _ (by simp [Bundle.ownAtoms])
  obtain ⟨vm₁, cX, kX, hfX, hkX, -, -, X₁, st1⟩ := Y.newCold hexec (own := own) (C := cls) (index := ik) (n := 6) hown' hk' hins hini'
    (g := F0 m pc ls rest) rfl (by rw [hb]; exact d0) (Nat.le_refl _) (Nat.le_refl _)
  generalize hT1 : (T.setVm vm₁).pushCell { cls := cX, slots := kX.instanceTypes.map defaultValue, vm := .none } = T1 at X₁ st1
  have hcat : (Value.ref T.heap.size).category = 1 := rfl
  have hcellA : T1.heap[T.heap.size]? = some (freshCell cX kX) := by rw [← hT1]; exact State.heap_pushCell_size _ _
  have d3' : decode c.code (pc + 3) = .ok (.dup, 1) := by rw [hb]; exact d3
  have d4' : decode c.code (pc + 4) = .ok (.ldc_w is, 3) := by rw [hb]; exact d4
  have hstr' : vk_R own is text sa s' := vk_R.warm hW0 hstr
  obtain ⟨U, hsteps, hrun, hend, hW, hsame, ce, hce, hO⟩ := X₁.ctorThrowS hexec htr (own := own) (cls := cls) (names := names) (ic := ic) hown' hcls hnames h (fun x hx => nomatch hx) hfX hkX hcellA (by rw [hhp, hT]; exact Nat.le_refl _) (msg := .ref sa) rfl
    (g := { method := m, pc := pc + 7, locals := ls, stack := .ref sa :: .ref T.heap.size :: .ref T.heap.size :: rest, locked := none }) rfl hsize rfl rfl (rest := rest) rfl
    (by rw [hb]; exact d7) (by rw [hb]; exact d10) hout hRframes (by simp only [List.map_cons, List.sum_cons, hcat]; omega) hlocks
  obtain ⟨f1, f2⟩ := vx_frame hsame
  rw [hhp] at f1 f2
  have hWs : s.WarmedH U.vm := State.WarmedH.trans hW0 hW
  have hcl : s.vm.findClass cls = some ce.cls := by
    have h9 := hO.cls
    rw [hvm] at h9
    exact h9
  have hall : s.sameButNew ({ U with vm := s.vm } : State) locs mc ms := by
    subst hA
    obtain ⟨e1, e2⟩ := hsame
    rw [State.setFrames_setFrames] at e1
    have h2 : (T.setVm s.vm).sameButNew ({ U with vm := s.vm } : State) [] (0 + 1) (0 + 6) := ⟨e1, e2⟩
    have h3 := X.same.trans h2
    rw [List.append_nil] at h3
    exact h3.mono hc hs
  refine ⟨U, ?_, .threw T.heap.size, hrun, hend, Or.inr ⟨T.heap.size, rfl, cls, ce, locs, hx U hWs.alike f1 (fun q hq => f2 q hq (fun z hz => nomatch hz)), hce, hO.vm, hcl, hWs, hall, hf⟩⟩
  refine st1 _ ?_
  show Steps p.tables e below (T1.setTop { method := m, pc := pc + 3, locals := ls, stack := .ref T.heap.size :: rest, locked := none }) _
  jvm_step X₁.here [X₁.here.top, hexec, d3', Value.category]
  exact X₁.ldcStringW hexec (own := own) (text := text) (index := is) (a := sa) hown' hstr'.1 hstr'.2
    (g := { method := m, pc := pc + 4, locals := ls, stack := .ref T.heap.size :: .ref T.heap.size :: rest, locked := none }) rfl d4' _ hsteps
end Ends
section Bodies
variable {l : Launch}
theorem vx_ofW {y : MethodName} {ws ws' : List Cond} {rm : Room} {Pc : Array Value → State → Prop} {Qc : Array Value → State → Outcome → State → Prop} {XC : String → State → State → Prop} {mc ms : Nat} {free : Addr → Prop} {cc : ByteArray} {maxL : Nat} {ret : Option FieldType}
    (hy : plainName y.cls = true) (hw : ws = Cond.code y cc maxL ret :: ws')
    (body : ∀ p e s m args below meth c s₁, BodyLoose p l y (headSpec ws rm) cc maxL ret e s m args below meth c s₁ → c.maxLocals = maxL → (∀ x ∈ c.exceptionTable.toList, False) → Pc args s →
      W p l e (headSpec ws rm).room s m args below meth c s.heap [] 0 0 (vx_MQ below Qc XC args s mc ms free) (entryFrame m args maxL)) : vx_Met l y ws rm Pc Qc XC mc ms free := by
  refine MetFree.of_bodyS (code := cc) (maxLocals := maxL) (ret := ret) hy ?_ ?_
  · intro args s m h hn
    obtain ⟨meth, c, h1, h2, h3, h4, h5, h6, -, -⟩ := Cond.code_spec hn (atoms_spec (ws := ws) h _ (by rw [hw]; exact List.mem_cons_self))
    exact ⟨meth, c, h1, h2, h3, h4, h5, h6⟩
  · intro p e s m args below meth c s₁ B hml hP _
    have hh0 : s₁.heap = s.heap := by rw [B.state]; rfl
    have ht : ∀ x ∈ c.exceptionTable.toList, False := by
      obtain ⟨meth9, c9, h1, h2, -, -, -, -, h7, -⟩ := Cond.code_spec B.named (atoms_spec (ws := ws) B.pre _ (by rw [hw]; exact List.mem_cons_self))
      cases Option.some.inj (h1.symm.trans B.method)
      cases Option.some.inj (h2.symm.trans (Stand.of_body B).code)
      intro x hx
      rw [Array.isEmpty_iff.mp h7] at hx
      cases hx
    obtain ⟨t, a1, o, b1, b2, b3⟩ := body p e s m args below meth c s₁ B hml ht hP s₁ hh0 (Stand.of_body B)
    exact ⟨t, o, a1, b1, b2, b3⟩
/-- the table of a body with handlers -/
theorem vx_table {p : Program} {x y : MethodName} {S : Spec} {cc bytes : ByteArray} {maxL maxL' : Nat} {ret ret' : Option FieldType} {e : Env} {s s₁ : State} {m : MethodId} {args : Array Value} {below : List Frame} {meth : Method} {c : Code} {hh : List (Nat × Nat × Nat × Nat)}
    (B : BodyLoose p l y S cc maxL ret e s m args below meth c s₁) (h : (Cond.codeWith y bytes maxL' ret' hh).before args s = true) : c.exceptionTable.toList = tableOf hh := by
  obtain ⟨m9, meth9, c9, hn9, h1, h2, -, -, h6, -⟩ := Cond.codeWith_spec h
  cases Option.some.inj (hn9.symm.trans B.named)
  cases Option.some.inj (h1.symm.trans B.method)
  cases Option.some.inj (h2.symm.trans (Stand.of_body B).code)
  rw [← h6, table_eq]
end Bodies
end VXA
/-! ===== END ===== -/
/-! ===== BEGIN a static call of a method with an exception table ===== -/
section VXS
variable {p : Program} {l : Launch} {e : Env} {R : Room} {s : State} {m : MethodId} {args : Array Value} {below : List Frame} {meth : Method} {c : Code} {T : State} {H : Heap} {locs : List Loc} {cells slots : Nat}
abbrev vx_CSW (R : Room) (s : State) (args : Array Value) (own : String) (index : Nat) (y : MethodName) (bytes : ByteArray) (maxL : Nat) (ret : Option FieldType) (hh : List (Nat × Nat × Nat × Nat)) (ws : List Cond) (rm : Room) (mc ms n : Nat) : Prop :=
  (rm.cells = mc ∧ rm.slots = ms ∧ rm.frames + 1 ≤ R.frames ∧ 8 + (maxL + 11) + rm.locals ≤ R.locals ∧ (∀ w ∈ ws, ∀ (a' : Array Value) (U : State), s.WarmedH U.vm → w.before a' U = true) ∧ Cond.codeWith y bytes maxL ret hh ∈ ws) ∧
  (Cond.codeWith y bytes maxL ret hh).before args s = true ∧ (Cond.initialized y.cls).before args s = true ∧ (y.cls ≠ "java/lang/invoke/MethodHandle" ∧ y.cls ≠ "java/lang/invoke/VarHandle") ∧
  (∀ sig, parseMethodDescriptor y.desc = some sig → n = sig.parameters.length) ∧ (Cond.methodLink own index y).before args s = true ∧ (Cond.static y).before args s = true
theorem vx_cwSW {own : String} {index maxL mc ms : Nat} {y : MethodName} {bytes : ByteArray} {ret : Option FieldType} {hh : List (Nat × Nat × Nat × Nat)} {Ts ws ws' : List Cond} {rm : Room} (n : Nat) (ht : ∀ w ∈ Ts, w.before args s = true) (hT : GoodIn Ts (va_wsS own index y ws)) (hw : ws = Cond.codeWith y bytes maxL ret hh :: ws') (hrc : rm.cells = mc) (hrs : rm.slots = ms)
    (hd : y.cls ≠ "java/lang/invoke/MethodHandle" ∧ y.cls ≠ "java/lang/invoke/VarHandle" ∧ (parseMethodDescriptor y.desc).map (fun d => d.parameters.length) = some n) (hR : rm.frames + 1 ≤ R.frames ∧ 8 + (maxL + 11) + rm.locals ≤ R.locals) :
    vx_CSW R s args own index y bytes maxL ret hh ws rm mc ms n := by
  have ok : ∀ w ∈ va_wsS own index y ws, w.before args s = true := fun w h => ht w (hT w h).1
  have hG : GoodIn Ts ws := fun w h => hT w (by unfold va_wsS; exact List.mem_append_right _ h)
  have hc : Cond.codeWith y bytes maxL ret hh ∈ ws := by rw [hw]; exact List.mem_cons_self
  refine ⟨⟨hrc, hrs, hR.1, hR.2, pay_in ht hG, hc⟩, ht _ (hG _ hc).1, ok _ (by simp [va_wsS]), ⟨hd.1, hd.2.1⟩, fun sig h => ?_, ok _ (by simp [va_wsS]), ok _ (by simp [va_wsS])⟩
  have h2 := hd.2.2
  rw [h] at h2
  exact (Option.some.inj h2).symm
theorem vx_callSW (X : Stand p l e R s m args below meth c T locs cells slots) (hexec : p.tables.exec = Jvm.exec) {own : String} {index : Nat} {y : MethodName} {bytes : ByteArray} {maxL : Nat} {ret : Option FieldType} {hh : List (Nat × Nat × Nat × Nat)}
    (hown : s.vm.findClass own = some m.cls) (hlink : (Cond.methodLink own index y).before args s = true) (hstat : (Cond.static y).before args s = true) (hinit : (Cond.initialized y.cls).before args s = true)
    (hcode : (Cond.codeWith y bytes maxL ret hh).before args s = true) (hy : y.cls ≠ "java/lang/invoke/MethodHandle" ∧ y.cls ≠ "java/lang/invoke/VarHandle")
    {W9 : Nat} {Pre : Pt → Array Value → Prop} {Post : Pt → Array Value → Option Value → Pt → Prop} (hK : Back l R p e below s args y 3 W9 Pre Post)
    {g : JFrame} (hg : g.method = m) (hsize : g.locals.size = c.maxLocals) {argsL rest : List Value} (hlen : ∀ sig, parseMethodDescriptor y.desc = some sig → argsL.length = sig.parameters.length)
    (hstack : g.stack = argsL.reverse ++ rest) (hW : 2 * g.monitorRoom + (rest.map fun v => v.category).sum ≤ W9) (hdg : decode c.code g.pc = .ok (.invokestatic index, 3))
    (hpre : ∀ vm₁, s.WarmedH vm₁ → Pre ⟨T.setVm vm₁, locs, cells, slots⟩ argsL.toArray) :
    ∃ (v : Option Value) (vm₁ : Vm) (B : Pt), s.WarmedH vm₁ ∧ Stand p l e R s m args below meth c B.U B.locs B.cells B.slots ∧ Post ⟨T.setVm vm₁, locs, cells, slots⟩ argsL.toArray v B ∧
      ∀ target, Steps p.tables e below (B.U.setTop { g with pc := g.pc + 3, stack := v.toList ++ rest }) target → Steps p.tables e below (T.setTop g) target := by
  obtain ⟨mk, methM, cM, hnamed, hmethM, -, -, -, -, -, -, hsigM⟩ := Cond.codeWith_spec hcode
  have hstatic : methM.isStatic = true := Cond.static_spec hnamed hmethM hstat
  obtain ⟨kP, hkP, -⟩ := className_of_methodNamed hnamed
  have hinitP : kP.init = .initialized := Cond.initialized_spec (findClass_of_methodNamed hnamed) hkP hinit
  obtain ⟨vm₁, X₁, hstep₁⟩ := X.invokestatic hexec hown hlink hnamed hmethM hstatic hkP hinitP hy (g := g) hg (argsL := argsL) (rest := rest) (hlen _ hsigM) hstack hdg
  obtain ⟨v, B, X', hpost, hsteps⟩ := hK m meth c ⟨T.setVm vm₁, locs, cells, slots⟩ { g with stack := rest } (.invokestatic index) mk argsL.toArray X₁ hg hsize hdg hW (X₁.named hnamed) (hpre vm₁ X₁.warmed)
  exact ⟨v, vm₁, B, X₁.warmed, X', hpost, fun target h => hstep₁ _ fun acts => by rw [doInvoke_state]; exact hsteps.trans h⟩
theorem vx_runSW {y : MethodName} {bytes cc : ByteArray} {maxL nL mc ms n index : Nat} {ret : Option FieldType} {hh : List (Nat × Nat × Nat × Nat)} {ws : List Cond} {rm : Room} {Pc : Array Value → State → Prop} {Qc : Array Value → State → Outcome → State → Prop} {free : Addr → Prop} {Ts : List Cond} {own : String} {As rest : List Value} {g : JFrame}
    (S : CallFix p m c cc nL s args Ts own) (hM : Met l y ws rm Pc Qc mc ms free) (cw : vx_CSW R s args own index y bytes maxL ret hh ws rm mc ms n) (hp : PreS s H Pc As)
    (hg : g.method = m) (hn : As.length = n) (hsize : g.locals.size = nL) (hstack : g.stack = As.reverse ++ rest) (hW : 2 * g.monitorRoom + (rest.map fun v => v.category).sum ≤ 8) (hdg : decode cc g.pc = .ok (.invokestatic index, 3)) (hf : cells + mc ≤ R.cells ∧ slots + ms ≤ R.slots) :
    va_Run p l e R s m args below meth c H locs cells slots mc ms g rest (Qc As.toArray) (free) := by
  obtain ⟨⟨hrc, hrs, hfr, hlo, hws, hcw⟩, hcode, hini, hy, hlen, hl, hstt⟩ := cw
  have hK : Back l R p e below s args y 3 8 (PreOf R mc ms Pc) (PostOf Qc mc ms free) := va_backW (hh := hh) (bytes := bytes) (maxL := maxL) (ret := ret) hM hp.1 hrc hrs hfr hlo hws hcw (fun a' U hW => word_at hW (Or.inl (by first | rfl | simp [Cond.onTables, Cond.keeps, Cond.steady])) hini)
  obtain ⟨hx, hb, hml, ho, -⟩ := S
  intro T hT X
  obtain ⟨v, vm₁, ⟨U', l2, c2, s2⟩, hW₁, X', ⟨g', mk, t, L, e1, e2, hq, h1, hL, h2, h3⟩, st⟩ := vx_callSW X hx (hh := hh) (bytes := bytes) (maxL := maxL) (ret := ret) ho hl hstt hini hcode hy hK hg (hsize.trans hml.symm) (argsL := As) (rest := rest) (fun sig h => hn.trans (hlen sig h)) hstack hW (by rw [hb]; exact hdg)
    (fun vm₁ hW₁ => ⟨hf.1, hf.2, hp.2 (T.setVm vm₁) hT hW₁⟩)
  dsimp only [Pt.U, Pt.locs, Pt.cells, Pt.slots] at X' e1 e2 h1 h2 h3 st
  subst h1; subst h2; subst h3
  exact ⟨v, (T.setVm vm₁).calling g' mk As.toArray, t, U', L, hT, X', hL, e1, e2, hq, st⟩
/-- not caught here, past rows that name other classes: it goes on to the caller -/
theorem vx_outP {p : Program} {l : Launch} {e : Env} {R : Room} {s : State} {m : MethodId} {args : Array Value} {below : List Frame} {meth : Method} {c : Code} {H : Heap} {locs : List Loc} {cells slots : Nat} {free : Addr → Prop} {ls : Array Slot} {rest : List Value} {Qc : Array Value → State → Outcome → State → Prop} {XC : String → State → State → Prop}
    {pc : Nat} {own E : String} {ce : Cell} {q : Addr} {mc ms : Nat} (hown : s.vm.findClass own = some m.cls) (hlocks : meth.locks = false)
    (hpass : ∀ z ∈ c.exceptionTable.toList, covers z pc = false ∨ (z.catchType ≠ 0 ∧ ∃ nm : String, (Cond.classLink own z.catchType nm).before args s = true ∧ va_Nc E nm s)) (hcell : H[q]? = some ce) (hv : ce.vm = .none) (hcl : s.vm.findClass E = some ce.cls)
    (hx : ∀ t : State, t.heap = H → s.vm.Alike t.vm → XC E s t) (hf : ∀ z ∈ locs, free z.base) (hc : cells ≤ mc) (hs : slots ≤ ms) :
    vx_W p l e R s m args below meth c H locs cells slots (vx_MQ below Qc XC args s mc ms free) (F0 m pc ls rest) q := by
  intro T hT X
  have hpl : e.platform.magicAccessors = ({} : Platform).magicAccessors := by rw [X.admits.platform]
  obtain ⟨vm', hW', X', st⟩ := X.outThrough hlocks q (g := F0 m pc ls rest) rfl rfl rfl (cell := ce) (by rw [hT]; exact hcell) (by rw [hv]; rfl)
    (by obtain ⟨k9, h9, -⟩ := Vm.findClass_spec hcl; exact ⟨k9, h9⟩) (fun z hz => by
      rcases hpass z hz with h | ⟨hz0, nm, hl1, hn1⟩
      · exact Or.inl h
      · obtain ⟨c6, hc6, hcl6⟩ := Cond.classLink_spec hown hl1 e.platform hpl
        obtain ⟨a8, b8, h1, h2, h3⟩ := hn1
        cases Option.some.inj (h1.symm.trans hcl)
        cases Option.some.inj (h2.symm.trans hc6)
        exact Or.inr ⟨hz0, _, hcl6, h3⟩)
  obtain ⟨g₀, hfr⟩ := X'.frames_eq
  have hcell9 : ((T.setVm vm').setFrames (.throwing q :: below)).heap[q]? = some ce := by
    show T.heap[q]? = some ce
    rw [hT]; exact hcell
  have hend : Ended ((T.setVm vm').setFrames (.throwing q :: below)) below (.threw q) := State.frames_setFrames _ (State.cur_lt_of_frames hfr)
  refine ⟨(T.setVm vm').setFrames (.throwing q :: below), ?_, .threw q, X'.here.running, hend, Or.inr ⟨q, rfl, E, ce, locs, hx _ hT (X'.ends _).1.alike, hcell9, hv, hcl, (X'.ends _).1, (X'.ends _).2.mono hc hs, hf⟩⟩
  rw [X.pushThrowing_eq]
  exact st
/-- a thing of a world lies in the heap -/
theorem vx_lt {D : va_G} {cl : List vw_C} {ws : va_W} {H1 : Heap} (h : va_P D cl ws H1) {k : Nat} {q : Nat × va_E} (hk : ws[k]? = some q) : q.1 < H1.size := (h k q hk).lt
end VXS
/-! ===== END ===== -/
/-! ===== BEGIN methods with a table of their own: called by a name, returning or throwing ===== -/
section VXH
/-! vx_backW, vx_callVX, vx_callSX, vx_callVW, vx_runVW, vx_runVX, vx_runSX, vx_ofWH follow the same proofs as their sisters above (Free/Laws.lean, Shelf42/LK1.lean); vx_outP calls Shelf42/NT130.lean (outThrough). -/
section
variable {l : Launch} {R : Room} {p : Program} {e : Env} {below : List Frame} {s : State} {sargs : Array Value} {y : MethodName} {len W9 : Nat}
theorem vx_backW {ws : List Cond} {rm : Room} {Pc : Array Value → State → Prop} {Qc : Array Value → State → Outcome → State → Prop} {XC : String → State → State → Prop} {mc ms : Nat} {free : Addr → Prop} {bytes : ByteArray} {maxL : Nat} {ret : Option FieldType} {hh : List (Nat × Nat × Nat × Nat)}
    (hM : vx_Met l y ws rm Pc Qc XC mc ms free) (hblind : FrameBlind Pc) (hrc : rm.cells = mc) (hrs : rm.slots = ms)
    (hframes : rm.frames + 1 ≤ R.frames) (hlocals : W9 + (maxL + 11) + rm.locals ≤ R.locals)
    (hws : ∀ w ∈ ws, ∀ a' U, s.WarmedH U.vm → w.before a' U = true) (hcode : Cond.codeWith y bytes maxL ret hh ∈ ws) (hinit : ∀ a' U, s.WarmedH U.vm → (Cond.initialized y.cls).before a' U = true) :
    vx_Back l R p e below s sargs y len W9 (PreOf R mc ms Pc) (PostOf Qc mc ms free) (vx_Post XC mc ms free) := by
  intro m meth c A g ig mk a X hg hsize hdg hW hn hp
  have h1 : (headSpec ws rm).pre.before a A.U = true := atoms_intro fun w hw => hws w hw _ _ X.warmed
  have h2 : (Cond.codeWith y bytes maxL ret hh).before a A.U = true := hws _ hcode _ _ X.warmed
  have h3 : (Cond.initialized y.cls).before a A.U = true := hinit _ _ X.warmed
  have h4 : A.cells + (headSpec ws rm).room.cells ≤ R.cells := by rw [show (headSpec ws rm).room.cells = mc from hrc]; exact hp.1
  have h5 : A.slots + (headSpec ws rm).room.slots ≤ R.slots := by rw [show (headSpec ws rm).room.slots = ms from hrs]; exact hp.2.1
  have hPc : Pc a (A.U.calling g mk a) := hblind _ _ _ _ hp.2.2
  obtain ⟨U, Ls, c0, s0⟩ := A
  dsimp only [Pt.U, Pt.locs, Pt.cells, Pt.slots] at h1 h2 h3 h4 h5 X hn hPc ⊢
  obtain ⟨m9, methY, cY, hn9, hmY, hcY, -, hlY, -⟩ := Cond.codeWith_spec h2
  cases Option.some.inj (hn9.symm.trans hn)
  obtain ⟨kY, hkY, -⟩ := className_of_methodNamed hn
  have hinitY : kY.init = .initialized := Cond.initialized_spec (findClass_of_methodNamed hn) hkY h3
  have h : At U g.method c below := by rw [hg]; exact X.here
  have hlocals9 : W9 + (maxL + 11) + (headSpec ws rm).room.locals ≤ R.locals := hlocals
  have happ : (headSpec ws rm).appliesLoose y e.platform (U.calling g mk a) = true :=
    Spec.appliesLoose_calling (g := g) h hdg hn hkY hinitY
      (X.room_calling (g := g) (R' := (headSpec ws rm).room) hsize hmY hcY hframes (by rw [hlY]; omega) h4 h5) h1
  obtain ⟨mid, hmid⟩ := h.above
  have hfr : (U.setTop g).frames = (.java g :: mid) ++ below := by rw [State.frames_setTop' g h.top, hmid]; rfl
  obtain ⟨o, s₂, hsteps, -, hend, hq⟩ := Steps.callFree hM p X.admits X.cas X.clock (acts := []) hfr happ hPc trivial
  have hq' : vx_Q Qc XC mc ms free a (U.calling g mk a) o s₂ := hq
  rw [State.frames_setTop' g h.top] at hend
  obtain ⟨g₀, hg0⟩ := Option.isSome_iff_exists.mp h.top
  obtain ⟨r, hr⟩ := State.topJava?_eq_some.mp hg0
  have hr' : (({ U with heap := s₂.heap, slotsUsed := s₂.slotsUsed } : State).setVm s₂.vm).frames = .java g₀ :: r := hr
  rcases hq' with ⟨hqc, L, hfe, hL⟩ | ⟨q, rfl, E, ce, L, hx, hce, hcv, hcl, hW₂, hsm, hL⟩
  · obtain ⟨⟨v, rfl⟩, hW₂, e2, q2, q3, q4, q5, q6⟩ := id hfe
    have e3 : s₂ = ({ (U.calling g mk a).setFrames s₂.frames with heap := s₂.heap, slotsUsed := s₂.slotsUsed } : State).setVm s₂.vm := by
      have : s₂ = ({ s₂ with vm := (U.calling g mk a).vm } : State).setVm s₂.vm := rfl
      rw [e2] at this
      exact this
    obtain ⟨c₂, i₂, len₂, hc₂, hd₂, hf₂⟩ := hend
    have hW' : U.WarmedH s₂.vm := hW₂
    have hcc : c₂ = c := by
      have h1 : s₂.code? g.method = U.code? g.method := by
        rw [State.code?_eq, State.code?_eq, hW'.alike.method?]
      exact Option.some.inj (hc₂.symm.trans (h1.trans h.code))
    subst hcc
    have hlen : len₂ = len := by rw [hdg] at hd₂; cases hd₂; rfl
    subst hlen
    have hs₂ : s₂ = (({ U with heap := s₂.heap, slotsUsed := s₂.slotsUsed } : State).setVm s₂.vm).setTop { g with pc := g.pc + len₂, stack := v.toList ++ g.stack } := by
      refine e3.trans ?_
      rw [hf₂, State.calling_eq h.top, State.setFrames_setFrames, State.setTop_of_frames _ hr', hr]
      rfl
    have hsame : U.sameButNew ({ U with heap := s₂.heap, slotsUsed := s₂.slotsUsed } : State) L mc ms := by
      refine ⟨?_, q2, q3, q4, q5, q6⟩
      obtain ⟨t, ht, -⟩ := State.frames_cons hr
      show ({ U with heap := s₂.heap, slotsUsed := s₂.slotsUsed } : State) = { U.setFrames U.frames with heap := s₂.heap, slotsUsed := s₂.slotsUsed }
      rw [State.setFrames_self ht]
    subst hg
    refine Or.inl ⟨v, ⟨(({ U with heap := s₂.heap, slotsUsed := s₂.slotsUsed } : State).setVm s₂.vm), Ls ++ L, c0 + mc, s0 + ms⟩,
      ⟨X.admits, X.cas, X.clock, X.frames, X.room, X.hears, X.method, X.code, (X.here.setHeapUsed s₂.heap s₂.slotsUsed).setVm hW'.alike, X.tail, State.WarmedH.trans X.warmed hW', X.limits, X.bytes, X.same.trans (hsame.setVm s.vm)⟩,
      ⟨g, mk, s₂, L, rfl, rfl, hqc, rfl, hL, rfl, rfl⟩, ?_⟩
    show Steps p.tables e below _ ((({ U with heap := s₂.heap, slotsUsed := s₂.slotsUsed } : State).setVm s₂.vm).setTop { g with pc := g.pc + len₂, stack := v.toList ++ g.stack })
    rw [← hs₂]
    exact hsteps
  · obtain ⟨e2, q2, q3, q4, q5, q6⟩ := id hsm
    have e3 : s₂ = ({ (U.calling g mk a).setFrames s₂.frames with heap := s₂.heap, slotsUsed := s₂.slotsUsed } : State).setVm s₂.vm := by
      have : s₂ = ({ s₂ with vm := (U.calling g mk a).vm } : State).setVm s₂.vm := rfl
      rw [e2] at this
      exact this
    have hf₂ : s₂.frames = .throwing q :: .java g :: U.frames.tail := hend
    have hW' : U.WarmedH s₂.vm := hW₂
    have hs₂ : s₂ = ((({ U with heap := s₂.heap, slotsUsed := s₂.slotsUsed } : State).setVm s₂.vm).setTop g).pushFrame (.throwing q) := by
      refine e3.trans ?_
      rw [hf₂, State.calling_eq h.top, State.setFrames_setFrames, State.pushFrame, State.frames_setTop _ hr', State.setTop_of_frames _ hr', State.setFrames_setFrames, hr]
      rfl
    have hsame : U.sameButNew ({ U with heap := s₂.heap, slotsUsed := s₂.slotsUsed } : State) L mc ms := by
      refine ⟨?_, q2, q3, q4, q5, q6⟩
      obtain ⟨t, ht, -⟩ := State.frames_cons hr
      show ({ U with heap := s₂.heap, slotsUsed := s₂.slotsUsed } : State) = { U.setFrames U.frames with heap := s₂.heap, slotsUsed := s₂.slotsUsed }
      rw [State.setFrames_self ht]
    subst hg
    refine Or.inr ⟨q, ⟨(({ U with heap := s₂.heap, slotsUsed := s₂.slotsUsed } : State).setVm s₂.vm), Ls ++ L, c0 + mc, s0 + ms⟩,
      ⟨X.admits, X.cas, X.clock, X.frames, X.room, X.hears, X.method, X.code, (X.here.setHeapUsed s₂.heap s₂.slotsUsed).setVm hW'.alike, X.tail, State.WarmedH.trans X.warmed hW', X.limits, X.bytes, X.same.trans (hsame.setVm s.vm)⟩,
      ⟨g, mk, s₂, L, E, ce, rfl, rfl, hx, hce, hcv, hcl, rfl, hL, rfl, rfl⟩, ?_⟩
    show Steps p.tables e below _ (((({ U with heap := s₂.heap, slotsUsed := s₂.slotsUsed } : State).setVm s₂.vm).setTop g).pushFrame (.throwing q))
    rw [← hs₂]
    exact hsteps
end
variable {p : Program} {l : Launch} {e : Env} {R : Room} {s : State} {m : MethodId} {args : Array Value} {below : List Frame} {meth : Method} {c : Code} {T : State} {H : Heap} {locs : List Loc} {cells slots : Nat}
theorem vx_callVX (X : Stand p l e R s m args below meth c T locs cells slots) (hexec : p.tables.exec = Jvm.exec) {own C : String} {index : Nat} {y : MethodName} {bytes : ByteArray} {maxL : Nat} {ret : Option FieldType} {hh : List (Nat × Nat × Nat × Nat)}
    (hown : s.vm.findClass own = some m.cls) (hlink : (Cond.methodLink own index y).before args s = true) (hinst : (Cond.instanceMethod y).before args s = true) (hsel : (Cond.selects C y y).before args s = true)
    (hcode : (Cond.codeWith y bytes maxL ret hh).before args s = true) (hy : y.cls ≠ "java/lang/invoke/MethodHandle" ∧ y.cls ≠ "java/lang/invoke/VarHandle")
    {W9 : Nat} {Pre : Pt → Array Value → Prop} {Post : Pt → Array Value → Option Value → Pt → Prop} {PostX : Pt → Array Value → Addr → Pt → Prop} (hK : vx_Back l R p e below s args y 3 W9 Pre Post PostX)
    {b : Addr} {cellB : Cell} (hcell : T.heap[b]? = some cellB) (hobj : cellB.vm.isStatics = false) (hcls : s.vm.findClass C = some cellB.cls)
    {g : JFrame} (hg : g.method = m) (hsize : g.locals.size = c.maxLocals) {argsL rest : List Value} (hlen : ∀ sig, parseMethodDescriptor y.desc = some sig → argsL.length = sig.parameters.length)
    (hstack : g.stack = argsL.reverse ++ .ref b :: rest) (hW : 2 * g.monitorRoom + (rest.map fun v => v.category).sum ≤ W9) (hdg : decode c.code g.pc = .ok (.invokevirtual index, 3))
    (hpre : ∀ vm₁, s.WarmedH vm₁ → Pre ⟨T.setVm vm₁, locs, cells, slots⟩ (Value.ref b :: argsL).toArray) :
    (∃ (v : Option Value) (vm₁ : Vm) (B : Pt), s.WarmedH vm₁ ∧ Stand p l e R s m args below meth c B.U B.locs B.cells B.slots ∧ Post ⟨T.setVm vm₁, locs, cells, slots⟩ (Value.ref b :: argsL).toArray v B ∧
      ∀ target, Steps p.tables e below (B.U.setTop { g with pc := g.pc + 3, stack := v.toList ++ rest }) target → Steps p.tables e below (T.setTop g) target) ∨
    (∃ (q : Addr) (vm₁ : Vm) (B : Pt), s.WarmedH vm₁ ∧ Stand p l e R s m args below meth c B.U B.locs B.cells B.slots ∧ PostX ⟨T.setVm vm₁, locs, cells, slots⟩ (Value.ref b :: argsL).toArray q B ∧
      Steps p.tables e below (T.setTop g) ((B.U.setTop { g with stack := rest }).pushFrame (.throwing q))) := by
  obtain ⟨mk, methM, hnamed, hmethM, hstM, habM⟩ := Cond.instanceMethod_spec hinst
  obtain ⟨m8, methM', cM, hn8, hmethM', -, -, -, -, -, -, hsigM⟩ := Cond.codeWith_spec hcode
  cases Option.some.inj (hn8.symm.trans hnamed)
  cases hmethM.symm.trans hmethM'
  obtain ⟨c2, r2, m2, q1, q2, q3, q4, kP, hkP, hkPi⟩ := Cond.selects_spec hsel
  cases hcls.symm.trans q1
  cases (State.methodFound?_of_named hnamed hy).symm.trans q2
  cases hnamed.symm.trans q3
  have hselP : selectMethod e.platform s.vm cellB.cls mk = .method mk := by rw [Launch.admits_selectMethod X.admits]; exact q4
  obtain ⟨vm₁, X₁, hstep₁⟩ := X.invokevirtual hexec hown hlink hnamed hmethM hstM hkP hkPi hy (a := b) (cell := cellB) hcell
    (fun z h => by rw [h] at hobj; cases hobj) hselP hmethM habM hkP hkPi (g := g) hg (argsL := argsL) (rest := rest) (hlen _ hsigM) hstack hdg
  rcases hK m meth c ⟨T.setVm vm₁, locs, cells, slots⟩ { g with stack := rest } (.invokevirtual index) mk (Value.ref b :: argsL).toArray X₁ hg hsize hdg hW (X₁.named hnamed) (hpre vm₁ X₁.warmed) with ⟨v, B, X', hpost, hsteps⟩ | ⟨q, B, X', hpost, hsteps⟩
  · exact Or.inl ⟨v, vm₁, B, X₁.warmed, X', hpost, fun target h => hstep₁ _ fun acts => by rw [doInvoke_state]; exact hsteps.trans h⟩
  · exact Or.inr ⟨q, vm₁, B, X₁.warmed, X', hpost, hstep₁ _ fun acts => by rw [doInvoke_state]; exact hsteps⟩
theorem vx_callSX (X : Stand p l e R s m args below meth c T locs cells slots) (hexec : p.tables.exec = Jvm.exec) {own : String} {index : Nat} {y : MethodName} {bytes : ByteArray} {maxL : Nat} {ret : Option FieldType} {hh : List (Nat × Nat × Nat × Nat)}
    (hown : s.vm.findClass own = some m.cls) (hlink : (Cond.methodLink own index y).before args s = true) (hstat : (Cond.static y).before args s = true) (hinit : (Cond.initialized y.cls).before args s = true)
    (hcode : (Cond.codeWith y bytes maxL ret hh).before args s = true) (hy : y.cls ≠ "java/lang/invoke/MethodHandle" ∧ y.cls ≠ "java/lang/invoke/VarHandle")
    {W9 : Nat} {Pre : Pt → Array Value → Prop} {Post : Pt → Array Value → Option Value → Pt → Prop} {PostX : Pt → Array Value → Addr → Pt → Prop} (hK : vx_Back l R p e below s args y 3 W9 Pre Post PostX)
    {g : JFrame} (hg : g.method = m) (hsize : g.locals.size = c.maxLocals) {argsL rest : List Value} (hlen : ∀ sig, parseMethodDescriptor y.desc = some sig → argsL.length = sig.parameters.length)
    (hstack : g.stack = argsL.reverse ++ rest) (hW : 2 * g.monitorRoom + (rest.map fun v => v.category).sum ≤ W9) (hdg : decode c.code g.pc = .ok (.invokestatic index, 3))
    (hpre : ∀ vm₁, s.WarmedH vm₁ → Pre ⟨T.setVm vm₁, locs, cells, slots⟩ argsL.toArray) :
    (∃ (v : Option Value) (vm₁ : Vm) (B : Pt), s.WarmedH vm₁ ∧ Stand p l e R s m args below meth c B.U B.locs B.cells B.slots ∧ Post ⟨T.setVm vm₁, locs, cells, slots⟩ argsL.toArray v B ∧
      ∀ target, Steps p.tables e below (B.U.setTop { g with pc := g.pc + 3, stack := v.toList ++ rest }) target → Steps p.tables e below (T.setTop g) target) ∨
    (∃ (q : Addr) (vm₁ : Vm) (B : Pt), s.WarmedH vm₁ ∧ Stand p l e R s m args below meth c B.U B.locs B.cells B.slots ∧ PostX ⟨T.setVm vm₁, locs, cells, slots⟩ argsL.toArray q B ∧
      Steps p.tables e below (T.setTop g) ((B.U.setTop { g with stack := rest }).pushFrame (.throwing q))) := by
  obtain ⟨mk, methM, cM, hnamed, hmethM, -, -, -, -, -, -, hsigM⟩ := Cond.codeWith_spec hcode
  have hstatic : methM.isStatic = true := Cond.static_spec hnamed hmethM hstat
  obtain ⟨kP, hkP, -⟩ := className_of_methodNamed hnamed
  have hinitP : kP.init = .initialized := Cond.initialized_spec (findClass_of_methodNamed hnamed) hkP hinit
  obtain ⟨vm₁, X₁, hstep₁⟩ := X.invokestatic hexec hown hlink hnamed hmethM hstatic hkP hinitP hy (g := g) hg (argsL := argsL) (rest := rest) (hlen _ hsigM) hstack hdg
  rcases hK m meth c ⟨T.setVm vm₁, locs, cells, slots⟩ { g with stack := rest } (.invokestatic index) mk argsL.toArray X₁ hg hsize hdg hW (X₁.named hnamed) (hpre vm₁ X₁.warmed) with ⟨v, B, X', hpost, hsteps⟩ | ⟨q, B, X', hpost, hsteps⟩
  · exact Or.inl ⟨v, vm₁, B, X₁.warmed, X', hpost, fun target h => hstep₁ _ fun acts => by rw [doInvoke_state]; exact hsteps.trans h⟩
  · exact Or.inr ⟨q, vm₁, B, X₁.warmed, X', hpost, hstep₁ _ fun acts => by rw [doInvoke_state]; exact hsteps⟩
theorem vx_callVW (X : Stand p l e R s m args below meth c T locs cells slots) (hexec : p.tables.exec = Jvm.exec) {own C : String} {index : Nat} {y : MethodName} {bytes : ByteArray} {maxL : Nat} {ret : Option FieldType} {hh : List (Nat × Nat × Nat × Nat)}
    (hown : s.vm.findClass own = some m.cls) (hlink : (Cond.methodLink own index y).before args s = true) (hinst : (Cond.instanceMethod y).before args s = true) (hsel : (Cond.selects C y y).before args s = true)
    (hcode : (Cond.codeWith y bytes maxL ret hh).before args s = true) (hy : y.cls ≠ "java/lang/invoke/MethodHandle" ∧ y.cls ≠ "java/lang/invoke/VarHandle")
    {W9 : Nat} {Pre : Pt → Array Value → Prop} {Post : Pt → Array Value → Option Value → Pt → Prop} (hK : Back l R p e below s args y 3 W9 Pre Post)
    {b : Addr} {cellB : Cell} (hcell : T.heap[b]? = some cellB) (hobj : cellB.vm.isStatics = false) (hcls : s.vm.findClass C = some cellB.cls)
    {g : JFrame} (hg : g.method = m) (hsize : g.locals.size = c.maxLocals) {argsL rest : List Value} (hlen : ∀ sig, parseMethodDescriptor y.desc = some sig → argsL.length = sig.parameters.length)
    (hstack : g.stack = argsL.reverse ++ .ref b :: rest) (hW : 2 * g.monitorRoom + (rest.map fun v => v.category).sum ≤ W9) (hdg : decode c.code g.pc = .ok (.invokevirtual index, 3))
    (hpre : ∀ vm₁, s.WarmedH vm₁ → Pre ⟨T.setVm vm₁, locs, cells, slots⟩ (Value.ref b :: argsL).toArray) :
    ∃ (v : Option Value) (vm₁ : Vm) (B : Pt), s.WarmedH vm₁ ∧ Stand p l e R s m args below meth c B.U B.locs B.cells B.slots ∧ Post ⟨T.setVm vm₁, locs, cells, slots⟩ (Value.ref b :: argsL).toArray v B ∧
      ∀ target, Steps p.tables e below (B.U.setTop { g with pc := g.pc + 3, stack := v.toList ++ rest }) target → Steps p.tables e below (T.setTop g) target := by
  obtain ⟨mk, methM, hnamed, hmethM, hstM, habM⟩ := Cond.instanceMethod_spec hinst
  obtain ⟨m8, methM', cM, hn8, hmethM', -, -, -, -, -, -, hsigM⟩ := Cond.codeWith_spec hcode
  cases Option.some.inj (hn8.symm.trans hnamed)
  cases hmethM.symm.trans hmethM'
  obtain ⟨c2, r2, m2, q1, q2, q3, q4, kP, hkP, hkPi⟩ := Cond.selects_spec hsel
  cases hcls.symm.trans q1
  cases (State.methodFound?_of_named hnamed hy).symm.trans q2
  cases hnamed.symm.trans q3
  have hselP : selectMethod e.platform s.vm cellB.cls mk = .method mk := by rw [Launch.admits_selectMethod X.admits]; exact q4
  obtain ⟨vm₁, X₁, hstep₁⟩ := X.invokevirtual hexec hown hlink hnamed hmethM hstM hkP hkPi hy (a := b) (cell := cellB) hcell
    (fun z h => by rw [h] at hobj; cases hobj) hselP hmethM habM hkP hkPi (g := g) hg (argsL := argsL) (rest := rest) (hlen _ hsigM) hstack hdg
  obtain ⟨v, B, X', hpost, hsteps⟩ := hK m meth c ⟨T.setVm vm₁, locs, cells, slots⟩ { g with stack := rest } (.invokevirtual index) mk (Value.ref b :: argsL).toArray X₁ hg hsize hdg hW (X₁.named hnamed) (hpre vm₁ X₁.warmed)
  exact ⟨v, vm₁, B, X₁.warmed, X', hpost, fun target h => hstep₁ _ fun acts => by rw [doInvoke_state]; exact hsteps.trans h⟩
abbrev vx_CVW (R : Room) (s : State) (args : Array Value) (own C : String) (index : Nat) (y : MethodName) (bytes : ByteArray) (maxL : Nat) (ret : Option FieldType) (hh : List (Nat × Nat × Nat × Nat)) (ws : List Cond) (rm : Room) (mc ms n : Nat) : Prop :=
  (rm.cells = mc ∧ rm.slots = ms ∧ rm.frames + 1 ≤ R.frames ∧ 8 + (maxL + 11) + rm.locals ≤ R.locals ∧ (∀ w ∈ ws, ∀ (a' : Array Value) (U : State), s.WarmedH U.vm → w.before a' U = true) ∧ Cond.codeWith y bytes maxL ret hh ∈ ws) ∧
  (Cond.codeWith y bytes maxL ret hh).before args s = true ∧ (Cond.initialized y.cls).before args s = true ∧ (y.cls ≠ "java/lang/invoke/MethodHandle" ∧ y.cls ≠ "java/lang/invoke/VarHandle") ∧
  (∀ sig, parseMethodDescriptor y.desc = some sig → n = sig.parameters.length) ∧ (Cond.methodLink own index y).before args s = true ∧ (Cond.instanceMethod y).before args s = true ∧ (Cond.selects C y y).before args s = true
theorem vx_cwVW {own C : String} {index maxL mc ms : Nat} {y : MethodName} {bytes : ByteArray} {ret : Option FieldType} {hh : List (Nat × Nat × Nat × Nat)} {Ts ws ws' : List Cond} {rm : Room} (n : Nat) (ht : ∀ w ∈ Ts, w.before args s = true) (hT : GoodIn Ts (wsV own index C y ws)) (hw : ws = Cond.codeWith y bytes maxL ret hh :: ws') (hrc : rm.cells = mc) (hrs : rm.slots = ms)
    (hd : y.cls = C ∧ y.cls ≠ "java/lang/invoke/MethodHandle" ∧ y.cls ≠ "java/lang/invoke/VarHandle" ∧ (parseMethodDescriptor y.desc).map (fun d => d.parameters.length) = some n) (hR : rm.frames + 1 ≤ R.frames ∧ 8 + (maxL + 11) + rm.locals ≤ R.locals) :
    vx_CVW R s args own C index y bytes maxL ret hh ws rm mc ms n := by
  obtain ⟨hC, hd⟩ := hd
  subst hC
  have ok : ∀ w ∈ wsV own index y.cls y ws, w.before args s = true := fun w h => ht w (hT w h).1
  have hG : GoodIn Ts ws := fun w h => hT w (by unfold wsV; exact List.mem_append_right _ h)
  have hc : Cond.codeWith y bytes maxL ret hh ∈ ws := by rw [hw]; exact List.mem_cons_self
  refine ⟨⟨hrc, hrs, hR.1, hR.2, pay_in ht hG, hc⟩, ht _ (hG _ hc).1, ok _ (by simp [wsV]), ⟨hd.1, hd.2.1⟩, fun sig h => ?_, ok _ (by simp [wsV]), ok _ (by simp [wsV]), ok _ (by simp [wsV])⟩
  have h2 := hd.2.2
  rw [h] at h2
  exact (Option.some.inj h2).symm
theorem vx_runVW {y : MethodName} {bytes cc : ByteArray} {maxL nL mc ms n index : Nat} {ret : Option FieldType} {hh : List (Nat × Nat × Nat × Nat)} {ws : List Cond} {rm : Room} {Pc : Array Value → State → Prop} {Qc : Array Value → State → Outcome → State → Prop} {free : Addr → Prop} {Ts : List Cond} {own C : String} {b : Addr} {As rest : List Value} {g : JFrame}
    (S : CallFix p m c cc nL s args Ts own) (hM : Met l y ws rm Pc Qc mc ms free) (cw : vx_CVW R s args own C index y bytes maxL ret hh ws rm mc ms n) (hp : PreV s H C b Pc As)
    (hg : g.method = m) (hn : As.length = n) (hsize : g.locals.size = nL) (hstack : g.stack = As.reverse ++ .ref b :: rest) (hW : 2 * g.monitorRoom + (rest.map fun v => v.category).sum ≤ 8) (hdg : decode cc g.pc = .ok (.invokevirtual index, 3)) (hf : cells + mc ≤ R.cells ∧ slots + ms ≤ R.slots) :
    va_Run p l e R s m args below meth c H locs cells slots mc ms g rest (Qc (Value.ref b :: As).toArray) free := by
  obtain ⟨⟨hrc, hrs, hfr, hlo, hws, hcw⟩, hcode, hini, hy, hlen, hl, hin, hse⟩ := cw
  have hK : Back l R p e below s args y 3 8 (PreOf R mc ms Pc) (PostOf Qc mc ms free) := va_backW (hh := hh) (bytes := bytes) (maxL := maxL) (ret := ret) hM hp.1 hrc hrs hfr hlo hws hcw (fun a' U hW => word_at hW (Or.inl (by first | rfl | simp [Cond.onTables, Cond.keeps, Cond.steady])) hini)
  obtain ⟨hx, hb, hml, ho, -⟩ := S
  obtain ⟨-, ⟨cellB, hcB, hoB, hclB⟩, hPc⟩ := hp
  intro T hT X
  obtain ⟨v, vm₁, ⟨U', l2, c2, s2⟩, hW₁, X', ⟨g', mk, t, L, e1, e2, hq, h1, hL, h2, h3⟩, st⟩ := vx_callVW X hx (C := C) (hh := hh) (bytes := bytes) (maxL := maxL) (ret := ret) ho hl hin hse hcode hy hK (by rw [hT]; exact hcB) hoB hclB hg (hsize.trans hml.symm) (argsL := As) (rest := rest) (fun sig h => hn.trans (hlen sig h)) hstack hW (by rw [hb]; exact hdg)
    (fun vm₁ hW₁ => ⟨hf.1, hf.2, hPc (T.setVm vm₁) hT hW₁⟩)
  dsimp only [Pt.U, Pt.locs, Pt.cells, Pt.slots] at X' e1 e2 h1 h2 h3 st
  subst h1; subst h2; subst h3
  exact ⟨v, (T.setVm vm₁).calling g' mk (Value.ref b :: As).toArray, t, U', L, hT, X', hL, e1, e2, hq, st⟩
section
variable {y : MethodName} {bytes cc : ByteArray} {maxL nL mc ms n index : Nat} {ret : Option FieldType} {ws : List Cond} {rm : Room} {Pc : Array Value → State → Prop} {Qc : Array Value → State → Outcome → State → Prop} {XC : String → State → State → Prop} {free : Addr → Prop} {Ts : List Cond} {own C : String} {b : Addr} {As rest : List Value} {g : JFrame}
theorem vx_runVX {hh : List (Nat × Nat × Nat × Nat)} (S : CallFix p m c cc nL s args Ts own) (hM : vx_Met l y ws rm Pc Qc XC mc ms free) (cw : vx_CVW R s args own C index y bytes maxL ret hh ws rm mc ms n) (hp : PreV s H C b Pc As)
    (hg : g.method = m) (hn : As.length = n) (hsize : g.locals.size = nL) (hstack : g.stack = As.reverse ++ .ref b :: rest) (hW : 2 * g.monitorRoom + (rest.map fun v => v.category).sum ≤ 8) (hdg : decode cc g.pc = .ok (.invokevirtual index, 3)) (hf : cells + mc ≤ R.cells ∧ slots + ms ≤ R.slots) :
    vx_Run p l e R s m args below meth c H locs cells slots mc ms g rest (Qc (Value.ref b :: As).toArray) XC free := by
  obtain ⟨⟨hrc, hrs, hfr, hlo, hws, hcw⟩, hcode, hini, hy, hlen, hl, hin, hse⟩ := cw
  have hK : vx_Back l R p e below s args y 3 8 (PreOf R mc ms Pc) (PostOf Qc mc ms free) (vx_Post XC mc ms free) := vx_backW (hh := hh) (bytes := bytes) (maxL := maxL) (ret := ret) hM hp.1 hrc hrs hfr hlo hws hcw (fun a' U hW => word_at hW (Or.inl (by first | rfl | simp [Cond.onTables, Cond.keeps, Cond.steady])) hini)
  obtain ⟨hx, hb, hml, ho, -⟩ := S
  obtain ⟨-, ⟨cellB, hcB, hoB, hclB⟩, hPc⟩ := hp
  intro T hT X
  rcases vx_callVX X hx (C := C) (hh := hh) (bytes := bytes) (maxL := maxL) (ret := ret) ho hl hin hse hcode hy hK (by rw [hT]; exact hcB) hoB hclB hg (hsize.trans hml.symm) (argsL := As) (rest := rest) (fun sig h => hn.trans (hlen sig h)) hstack hW (by rw [hb]; exact hdg)
    (fun vm₁ hW₁ => ⟨hf.1, hf.2, hPc (T.setVm vm₁) hT hW₁⟩) with ⟨v, vm₁, ⟨U', l2, c2, s2⟩, hW₁, X', ⟨g', mk, t, L, e1, e2, hq, h1, hL, h2, h3⟩, st⟩ | ⟨q, vm₁, ⟨U', l2, c2, s2⟩, hW₁, X', ⟨g', mk, t, L, E, ce, e1, e2, hq, hce, hcv, hcl, h1, hL, h2, h3⟩, st⟩
  · dsimp only [Pt.U, Pt.locs, Pt.cells, Pt.slots] at X' e1 e2 h1 h2 h3 st
    subst h1; subst h2; subst h3
    exact Or.inl ⟨v, (T.setVm vm₁).calling g' mk (Value.ref b :: As).toArray, t, U', L, hT, X', hL, e1, e2, hq, st⟩
  · dsimp only [Pt.U, Pt.locs, Pt.cells, Pt.slots] at X' e1 e2 h1 h2 h3 st hcl
    subst h1; subst h2; subst h3
    exact Or.inr ⟨q, (T.setVm vm₁).calling g' mk (Value.ref b :: As).toArray, t, U', L, E, ce, hT, X', hL, e1, e2, hq, hce, hcv, vx_cls hW₁ hcl, st⟩
theorem vx_runSX {hh : List (Nat × Nat × Nat × Nat)} (S : CallFix p m c cc nL s args Ts own) (hM : vx_Met l y ws rm Pc Qc XC mc ms free) (cw : vx_CSW R s args own index y bytes maxL ret hh ws rm mc ms n) (hp : PreS s H Pc As)
    (hg : g.method = m) (hn : As.length = n) (hsize : g.locals.size = nL) (hstack : g.stack = As.reverse ++ rest) (hW : 2 * g.monitorRoom + (rest.map fun v => v.category).sum ≤ 8) (hdg : decode cc g.pc = .ok (.invokestatic index, 3)) (hf : cells + mc ≤ R.cells ∧ slots + ms ≤ R.slots) :
    vx_Run p l e R s m args below meth c H locs cells slots mc ms g rest (Qc As.toArray) XC free := by
  obtain ⟨⟨hrc, hrs, hfr, hlo, hws, hcw⟩, hcode, hini, hy, hlen, hl, hstt⟩ := cw
  have hK : vx_Back l R p e below s args y 3 8 (PreOf R mc ms Pc) (PostOf Qc mc ms free) (vx_Post XC mc ms free) := vx_backW (hh := hh) (bytes := bytes) (maxL := maxL) (ret := ret) hM hp.1 hrc hrs hfr hlo hws hcw (fun a' U hW => word_at hW (Or.inl (by first | rfl | simp [Cond.onTables, Cond.keeps, Cond.steady])) hini)
  obtain ⟨hx, hb, hml, ho, -⟩ := S
  intro T hT X
  rcases vx_callSX X hx (hh := hh) (bytes := bytes) (maxL := maxL) (ret := ret) ho hl hstt hini hcode hy hK hg (hsize.trans hml.symm) (argsL := As) (rest := rest) (fun sig h => hn.trans (hlen sig h)) hstack hW (by rw [hb]; exact hdg)
    (fun vm₁ hW₁ => ⟨hf.1, hf.2, hp.2 (T.setVm vm₁) hT hW₁⟩) with ⟨v, vm₁, ⟨U', l2, c2, s2⟩, hW₁, X', ⟨g', mk, t, L, e1, e2, hq, h1, hL, h2, h3⟩, st⟩ | ⟨q, vm₁, ⟨U', l2, c2, s2⟩, hW₁, X', ⟨g', mk, t, L, E, ce, e1, e2, hq, hce, hcv, hcl, h1, hL, h2, h3⟩, st⟩
  · dsimp only [Pt.U, Pt.locs, Pt.cells, Pt.slots] at X' e1 e2 h1 h2 h3 st
    subst h1; subst h2; subst h3
    exact Or.inl ⟨v, (T.setVm vm₁).calling g' mk As.toArray, t, U', L, hT, X', hL, e1, e2, hq, st⟩
  · dsimp only [Pt.U, Pt.locs, Pt.cells, Pt.slots] at X' e1 e2 h1 h2 h3 st hcl
    subst h1; subst h2; subst h3
    exact Or.inr ⟨q, (T.setVm vm₁).calling g' mk As.toArray, t, U', L, E, ce, hT, X', hL, e1, e2, hq, hce, hcv, vx_cls hW₁ hcl, st⟩
end
end VXH
theorem vx_ofWH {l : Launch} {y : MethodName} {ws ws' : List Cond} {rm : Room} {Pc : Array Value → State → Prop} {Qc : Array Value → State → Outcome → State → Prop} {XC : String → State → State → Prop} {mc ms : Nat} {free : Addr → Prop} {cc : ByteArray} {maxL : Nat} {ret : Option FieldType} {hh : List (Nat × Nat × Nat × Nat)}
    (hy : plainName y.cls = true) (hw : ws = Cond.codeWith y cc maxL ret hh :: ws')
    (body : ∀ p e s m args below meth c s₁, BodyLoose p l y (headSpec ws rm) cc maxL ret e s m args below meth c s₁ → c.maxLocals = maxL → Pc args s →
      W p l e (headSpec ws rm).room s m args below meth c s.heap [] 0 0 (vx_MQ below Qc XC args s mc ms free) (entryFrame m args maxL)) : vx_Met l y ws rm Pc Qc XC mc ms free := by
  refine MetFree.of_bodyS (code := cc) (maxLocals := maxL) (ret := ret) hy ?_ ?_
  · intro args s m h hn
    obtain ⟨m9, meth, c, hn9, h1, h2, h3, h4, -, h5, h6, -⟩ := Cond.codeWith_spec (atoms_spec (ws := ws) h _ (by rw [hw]; exact List.mem_cons_self))
    cases hn.symm.trans hn9
    exact ⟨meth, c, h1, h2, h3, h4, h5, h6⟩
  · intro p e s m args below meth c s₁ B hml hP _
    have hh0 : s₁.heap = s.heap := by rw [B.state]; rfl
    obtain ⟨t, a1, o, b1, b2, b3⟩ := body p e s m args below meth c s₁ B hml hP s₁ hh0 (Stand.of_body B)
    exact ⟨t, o, a1, b1, b2, b3⟩
/-! ===== END ===== -/
end
section
-- ===== PART A: goes FIRST, ahead of the names: the tables' words, and 'selects' of the private methods out of them =====
/-- a private method of a class that the tables say can be made, by its rows of tables_1 -/
def lw_okq (q : MethodName × Nat) : Prop := (q.1.cls ≠ "java/lang/invoke/MethodHandle" ∧ q.1.cls ≠ "java/lang/invoke/VarHandle") ∧ Cond.instantiable q.1.cls q.2 ∈ tables_1 ∧ Cond.privateMethod q.1 ∈ tables_1 ∧ Cond.instanceMethod q.1 ∈ tables_1
theorem lw_p0 : lw_okq (⟨"Ferrytax", "requireKind", "(I)V"⟩, 7) := ⟨⟨by decide +kernel, by decide +kernel⟩, List.mem_of_getElem? (i := 24) (by decide +kernel), List.mem_of_getElem? (i := 140) (by decide +kernel), List.mem_of_getElem? (i := 141) (by decide +kernel)⟩
theorem lw_p1 : lw_okq (⟨"java/lang/Throwable", "fillInStackTrace", "(I)Ljava/lang/Throwable;"⟩, 6) := ⟨⟨by decide +kernel, by decide +kernel⟩, List.mem_of_getElem? (i := 182) (by decide +kernel), List.mem_of_getElem? (i := 180) (by decide +kernel), List.mem_of_getElem? (i := 181) (by decide +kernel)⟩
theorem lw_p2 : lw_okq (⟨"Ferrytax", "requireShop", "(I)V"⟩, 7) := ⟨⟨by decide +kernel, by decide +kernel⟩, List.mem_of_getElem? (i := 24) (by decide +kernel), List.mem_of_getElem? (i := 236) (by decide +kernel), List.mem_of_getElem? (i := 237) (by decide +kernel)⟩
theorem lw_p3 : lw_okq (⟨"Ferrytax", "travellerNumbered", "(I)LFerrytax$Traveller;"⟩, 7) := ⟨⟨by decide +kernel, by decide +kernel⟩, List.mem_of_getElem? (i := 24) (by decide +kernel), List.mem_of_getElem? (i := 241) (by decide +kernel), List.mem_of_getElem? (i := 242) (by decide +kernel)⟩
theorem lw_p4 : lw_okq (⟨"Ferrytax", "requireTraveller", "(I)V"⟩, 7) := ⟨⟨by decide +kernel, by decide +kernel⟩, List.mem_of_getElem? (i := 24) (by decide +kernel), List.mem_of_getElem? (i := 245) (by decide +kernel), List.mem_of_getElem? (i := 246) (by decide +kernel)⟩
theorem lw_p5 : lw_okq (⟨"Ferrytax", "requireOnIsland", "(LFerrytax$Traveller;)V"⟩, 7) := ⟨⟨by decide +kernel, by decide +kernel⟩, List.mem_of_getElem? (i := 24) (by decide +kernel), List.mem_of_getElem? (i := 251) (by decide +kernel), List.mem_of_getElem? (i := 252) (by decide +kernel)⟩
theorem lw_p6 : lw_okq (⟨"Ferrytax", "receiptNumbered", "(I)LFerrytax$Receipt;"⟩, 7) := ⟨⟨by decide +kernel, by decide +kernel⟩, List.mem_of_getElem? (i := 24) (by decide +kernel), List.mem_of_getElem? (i := 279) (by decide +kernel), List.mem_of_getElem? (i := 280) (by decide +kernel)⟩
theorem lw_p7 : lw_okq (⟨"Ferrytax", "requireOpen", "(LFerrytax$Receipt;)V"⟩, 7) := ⟨⟨by decide +kernel, by decide +kernel⟩, List.mem_of_getElem? (i := 24) (by decide +kernel), List.mem_of_getElem? (i := 284) (by decide +kernel), List.mem_of_getElem? (i := 285) (by decide +kernel)⟩
theorem lw_p8 : lw_okq (⟨"Ferrytax", "ferryNumbered", "(I)LFerrytax$Ferry;"⟩, 7) := ⟨⟨by decide +kernel, by decide +kernel⟩, List.mem_of_getElem? (i := 24) (by decide +kernel), List.mem_of_getElem? (i := 307) (by decide +kernel), List.mem_of_getElem? (i := 308) (by decide +kernel)⟩
theorem lw_p9 : lw_okq (⟨"Ferrytax", "requireNotSailed", "(LFerrytax$Ferry;)V"⟩, 7) := ⟨⟨by decide +kernel, by decide +kernel⟩, List.mem_of_getElem? (i := 24) (by decide +kernel), List.mem_of_getElem? (i := 312) (by decide +kernel), List.mem_of_getElem? (i := 313) (by decide +kernel)⟩
theorem lw_p10 : lw_okq (⟨"Ferrytax", "seatsLeft", "(LFerrytax$Ferry;)I"⟩, 7) := ⟨⟨by decide +kernel, by decide +kernel⟩, List.mem_of_getElem? (i := 24) (by decide +kernel), List.mem_of_getElem? (i := 318) (by decide +kernel), List.mem_of_getElem? (i := 319) (by decide +kernel)⟩
theorem lw_p11 : lw_okq (⟨"Ferrytax", "placesWith", "(LFerrytax$Ferry;I)I"⟩, 7) := ⟨⟨by decide +kernel, by decide +kernel⟩, List.mem_of_getElem? (i := 24) (by decide +kernel), List.mem_of_getElem? (i := 322) (by decide +kernel), List.mem_of_getElem? (i := 323) (by decide +kernel)⟩
theorem lw_p12 : lw_okq (⟨"Ferrytax", "requireSeat", "(LFerrytax$Ferry;I)V"⟩, 7) := ⟨⟨by decide +kernel, by decide +kernel⟩, List.mem_of_getElem? (i := 24) (by decide +kernel), List.mem_of_getElem? (i := 334) (by decide +kernel), List.mem_of_getElem? (i := 335) (by decide +kernel)⟩
theorem lw_p13 : lw_okq (⟨"Ferrytax", "reopenStamped", "(II)I"⟩, 7) := ⟨⟨by decide +kernel, by decide +kernel⟩, List.mem_of_getElem? (i := 24) (by decide +kernel), List.mem_of_getElem? (i := 339) (by decide +kernel), List.mem_of_getElem? (i := 340) (by decide +kernel)⟩
theorem lw_p14 : lw_okq (⟨"Ferrytax", "isStampedFor", "(LFerrytax$Receipt;II)Z"⟩, 7) := ⟨⟨by decide +kernel, by decide +kernel⟩, List.mem_of_getElem? (i := 24) (by decide +kernel), List.mem_of_getElem? (i := 343) (by decide +kernel), List.mem_of_getElem? (i := 344) (by decide +kernel)⟩
theorem lw_p15 : lw_okq (⟨"Ferrytax", "takeStampOff", "(LFerrytax$Receipt;I)V"⟩, 7) := ⟨⟨by decide +kernel, by decide +kernel⟩, List.mem_of_getElem? (i := 24) (by decide +kernel), List.mem_of_getElem? (i := 347) (by decide +kernel), List.mem_of_getElem? (i := 348) (by decide +kernel)⟩
def lw_privs_1 : List (MethodName × Nat) := [(⟨"Ferrytax", "requireKind", "(I)V"⟩, 7), (⟨"java/lang/Throwable", "fillInStackTrace", "(I)Ljava/lang/Throwable;"⟩, 6), (⟨"Ferrytax", "requireShop", "(I)V"⟩, 7), (⟨"Ferrytax", "travellerNumbered", "(I)LFerrytax$Traveller;"⟩, 7), (⟨"Ferrytax", "requireTraveller", "(I)V"⟩, 7), (⟨"Ferrytax", "requireOnIsland", "(LFerrytax$Traveller;)V"⟩, 7), (⟨"Ferrytax", "receiptNumbered", "(I)LFerrytax$Receipt;"⟩, 7), (⟨"Ferrytax", "requireOpen", "(LFerrytax$Receipt;)V"⟩, 7), (⟨"Ferrytax", "ferryNumbered", "(I)LFerrytax$Ferry;"⟩, 7), (⟨"Ferrytax", "requireNotSailed", "(LFerrytax$Ferry;)V"⟩, 7), (⟨"Ferrytax", "seatsLeft", "(LFerrytax$Ferry;)I"⟩, 7), (⟨"Ferrytax", "placesWith", "(LFerrytax$Ferry;I)I"⟩, 7), (⟨"Ferrytax", "requireSeat", "(LFerrytax$Ferry;I)V"⟩, 7), (⟨"Ferrytax", "reopenStamped", "(II)I"⟩, 7), (⟨"Ferrytax", "isStampedFor", "(LFerrytax$Receipt;II)Z"⟩, 7), (⟨"Ferrytax", "takeStampOff", "(LFerrytax$Receipt;I)V"⟩, 7)]
theorem lw_r1 : ∀ q ∈ lw_privs_1, lw_okq q := List.forall_mem_cons.mpr ⟨lw_p0, List.forall_mem_cons.mpr ⟨lw_p1, List.forall_mem_cons.mpr ⟨lw_p2, List.forall_mem_cons.mpr ⟨lw_p3, List.forall_mem_cons.mpr ⟨lw_p4, List.forall_mem_cons.mpr ⟨lw_p5, List.forall_mem_cons.mpr ⟨lw_p6, List.forall_mem_cons.mpr ⟨lw_p7, List.forall_mem_cons.mpr ⟨lw_p8, List.forall_mem_cons.mpr ⟨lw_p9, List.forall_mem_cons.mpr ⟨lw_p10, List.forall_mem_cons.mpr ⟨lw_p11, List.forall_mem_cons.mpr ⟨lw_p12, List.forall_mem_cons.mpr ⟨lw_p13, List.forall_mem_cons.mpr ⟨lw_p14, List.forall_mem_cons.mpr ⟨lw_p15, fun _ h => absurd h List.not_mem_nil⟩⟩⟩⟩⟩⟩⟩⟩⟩⟩⟩⟩⟩⟩⟩⟩
theorem lw_p16 : lw_okq (⟨"Ferrytax", "requireWithin", "(LFerrytax$Ferry;I)V"⟩, 7) := ⟨⟨by decide +kernel, by decide +kernel⟩, List.mem_of_getElem? (i := 24) (by decide +kernel), List.mem_of_getElem? (i := 358) (by decide +kernel), List.mem_of_getElem? (i := 359) (by decide +kernel)⟩
theorem lw_p17 : lw_okq (⟨"Ferrytax", "isAboardSomewhere", "(I)Z"⟩, 7) := ⟨⟨by decide +kernel, by decide +kernel⟩, List.mem_of_getElem? (i := 24) (by decide +kernel), List.mem_of_getElem? (i := 363) (by decide +kernel), List.mem_of_getElem? (i := 364) (by decide +kernel)⟩
theorem lw_p18 : lw_okq (⟨"Ferrytax", "sailAllOfNow", "()V"⟩, 7) := ⟨⟨by decide +kernel, by decide +kernel⟩, List.mem_of_getElem? (i := 24) (by decide +kernel), List.mem_of_getElem? (i := 401) (by decide +kernel), List.mem_of_getElem? (i := 402) (by decide +kernel)⟩
theorem lw_p19 : lw_okq (⟨"Ferrytax", "sail", "(I)V"⟩, 7) := ⟨⟨by decide +kernel, by decide +kernel⟩, List.mem_of_getElem? (i := 24) (by decide +kernel), List.mem_of_getElem? (i := 405) (by decide +kernel), List.mem_of_getElem? (i := 406) (by decide +kernel)⟩
theorem lw_p20 : lw_okq (⟨"Ferrytax", "payStamped", "(II)V"⟩, 7) := ⟨⟨by decide +kernel, by decide +kernel⟩, List.mem_of_getElem? (i := 24) (by decide +kernel), List.mem_of_getElem? (i := 409) (by decide +kernel), List.mem_of_getElem? (i := 410) (by decide +kernel)⟩
theorem lw_p21 : lw_okq (⟨"Ferrytax", "refundOfTax", "(I)I"⟩, 7) := ⟨⟨by decide +kernel, by decide +kernel⟩, List.mem_of_getElem? (i := 24) (by decide +kernel), List.mem_of_getElem? (i := 413) (by decide +kernel), List.mem_of_getElem? (i := 414) (by decide +kernel)⟩
theorem lw_p22 : lw_okq (⟨"Ferrytax", "wasteStamped", "(II)V"⟩, 7) := ⟨⟨by decide +kernel, by decide +kernel⟩, List.mem_of_getElem? (i := 24) (by decide +kernel), List.mem_of_getElem? (i := 420) (by decide +kernel), List.mem_of_getElem? (i := 421) (by decide +kernel)⟩
theorem lw_p23 : lw_okq (⟨"Ferrytax", "appendBackwards", "(Ljava/lang/StringBuilder;I)V"⟩, 7) := ⟨⟨by decide +kernel, by decide +kernel⟩, List.mem_of_getElem? (i := 24) (by decide +kernel), List.mem_of_getElem? (i := 597) (by decide +kernel), List.mem_of_getElem? (i := 598) (by decide +kernel)⟩
theorem lw_p24 : lw_okq (⟨"Ferrytax", "refundsOfSailing", "(II)I"⟩, 7) := ⟨⟨by decide +kernel, by decide +kernel⟩, List.mem_of_getElem? (i := 24) (by decide +kernel), List.mem_of_getElem? (i := 634) (by decide +kernel), List.mem_of_getElem? (i := 635) (by decide +kernel)⟩
theorem lw_p25 : lw_okq (⟨"FerrytaxModel", "in", "(III)Z"⟩, 25) := ⟨⟨by decide +kernel, by decide +kernel⟩, List.mem_of_getElem? (i := 645) (by decide +kernel), List.mem_of_getElem? (i := 735) (by decide +kernel), List.mem_of_getElem? (i := 736) (by decide +kernel)⟩
theorem lw_p26 : lw_okq (⟨"FerrytaxModel", "holds", "(I)Z"⟩, 25) := ⟨⟨by decide +kernel, by decide +kernel⟩, List.mem_of_getElem? (i := 645) (by decide +kernel), List.mem_of_getElem? (i := 739) (by decide +kernel), List.mem_of_getElem? (i := 740) (by decide +kernel)⟩
theorem lw_p27 : lw_okq (⟨"FerrytaxModel", "isReceipt", "(I)Z"⟩, 25) := ⟨⟨by decide +kernel, by decide +kernel⟩, List.mem_of_getElem? (i := 645) (by decide +kernel), List.mem_of_getElem? (i := 751) (by decide +kernel), List.mem_of_getElem? (i := 752) (by decide +kernel)⟩
theorem lw_p28 : lw_okq (⟨"FerrytaxModel", "isFerry", "(I)Z"⟩, 25) := ⟨⟨by decide +kernel, by decide +kernel⟩, List.mem_of_getElem? (i := 645) (by decide +kernel), List.mem_of_getElem? (i := 763) (by decide +kernel), List.mem_of_getElem? (i := 764) (by decide +kernel)⟩
theorem lw_p29 : lw_okq (⟨"FerrytaxModel", "left", "(I)I"⟩, 25) := ⟨⟨by decide +kernel, by decide +kernel⟩, List.mem_of_getElem? (i := 645) (by decide +kernel), List.mem_of_getElem? (i := 767) (by decide +kernel), List.mem_of_getElem? (i := 768) (by decide +kernel)⟩
theorem lw_p30 : lw_okq (⟨"FerrytaxModel", "hasSeat", "(II)Z"⟩, 25) := ⟨⟨by decide +kernel, by decide +kernel⟩, List.mem_of_getElem? (i := 645) (by decide +kernel), List.mem_of_getElem? (i := 771) (by decide +kernel), List.mem_of_getElem? (i := 772) (by decide +kernel)⟩
theorem lw_p31 : lw_okq (⟨"FerrytaxModel", "sails", "(I)V"⟩, 25) := ⟨⟨by decide +kernel, by decide +kernel⟩, List.mem_of_getElem? (i := 645) (by decide +kernel), List.mem_of_getElem? (i := 799) (by decide +kernel), List.mem_of_getElem? (i := 800) (by decide +kernel)⟩
def lw_privs_2 : List (MethodName × Nat) := [(⟨"Ferrytax", "requireWithin", "(LFerrytax$Ferry;I)V"⟩, 7), (⟨"Ferrytax", "isAboardSomewhere", "(I)Z"⟩, 7), (⟨"Ferrytax", "sailAllOfNow", "()V"⟩, 7), (⟨"Ferrytax", "sail", "(I)V"⟩, 7), (⟨"Ferrytax", "payStamped", "(II)V"⟩, 7), (⟨"Ferrytax", "refundOfTax", "(I)I"⟩, 7), (⟨"Ferrytax", "wasteStamped", "(II)V"⟩, 7), (⟨"Ferrytax", "appendBackwards", "(Ljava/lang/StringBuilder;I)V"⟩, 7), (⟨"Ferrytax", "refundsOfSailing", "(II)I"⟩, 7), (⟨"FerrytaxModel", "in", "(III)Z"⟩, 25), (⟨"FerrytaxModel", "holds", "(I)Z"⟩, 25), (⟨"FerrytaxModel", "isReceipt", "(I)Z"⟩, 25), (⟨"FerrytaxModel", "isFerry", "(I)Z"⟩, 25), (⟨"FerrytaxModel", "left", "(I)I"⟩, 25), (⟨"FerrytaxModel", "hasSeat", "(II)Z"⟩, 25), (⟨"FerrytaxModel", "sails", "(I)V"⟩, 25)]
theorem lw_r2 : ∀ q ∈ lw_privs_2, lw_okq q := List.forall_mem_cons.mpr ⟨lw_p16, List.forall_mem_cons.mpr ⟨lw_p17, List.forall_mem_cons.mpr ⟨lw_p18, List.forall_mem_cons.mpr ⟨lw_p19, List.forall_mem_cons.mpr ⟨lw_p20, List.forall_mem_cons.mpr ⟨lw_p21, List.forall_mem_cons.mpr ⟨lw_p22, List.forall_mem_cons.mpr ⟨lw_p23, List.forall_mem_cons.mpr ⟨lw_p24, List.forall_mem_cons.mpr ⟨lw_p25, List.forall_mem_cons.mpr ⟨lw_p26, List.forall_mem_cons.mpr ⟨lw_p27, List.forall_mem_cons.mpr ⟨lw_p28, List.forall_mem_cons.mpr ⟨lw_p29, List.forall_mem_cons.mpr ⟨lw_p30, List.forall_mem_cons.mpr ⟨lw_p31, fun _ h => absurd h List.not_mem_nil⟩⟩⟩⟩⟩⟩⟩⟩⟩⟩⟩⟩⟩⟩⟩⟩
theorem lw_p32 : lw_okq (⟨"FerrytaxModel", "pays", "(I)V"⟩, 25) := ⟨⟨by decide +kernel, by decide +kernel⟩, List.mem_of_getElem? (i := 645) (by decide +kernel), List.mem_of_getElem? (i := 803) (by decide +kernel), List.mem_of_getElem? (i := 804) (by decide +kernel)⟩
theorem lw_p33 : lw_okq (⟨"FerrytaxModel", "fails", "(I)V"⟩, 25) := ⟨⟨by decide +kernel, by decide +kernel⟩, List.mem_of_getElem? (i := 645) (by decide +kernel), List.mem_of_getElem? (i := 807) (by decide +kernel), List.mem_of_getElem? (i := 808) (by decide +kernel)⟩
theorem lw_p34 : lw_okq (⟨"FerrytaxModel", "digits", "(I)I"⟩, 25) := ⟨⟨by decide +kernel, by decide +kernel⟩, List.mem_of_getElem? (i := 645) (by decide +kernel), List.mem_of_getElem? (i := 819) (by decide +kernel), List.mem_of_getElem? (i := 820) (by decide +kernel)⟩
theorem lw_p35 : lw_okq (⟨"FerrytaxModel", "digit", "(II)C"⟩, 25) := ⟨⟨by decide +kernel, by decide +kernel⟩, List.mem_of_getElem? (i := 645) (by decide +kernel), List.mem_of_getElem? (i := 823) (by decide +kernel), List.mem_of_getElem? (i := 824) (by decide +kernel)⟩
def lw_privs_3 : List (MethodName × Nat) := [(⟨"FerrytaxModel", "pays", "(I)V"⟩, 25), (⟨"FerrytaxModel", "fails", "(I)V"⟩, 25), (⟨"FerrytaxModel", "digits", "(I)I"⟩, 25), (⟨"FerrytaxModel", "digit", "(II)C"⟩, 25)]
theorem lw_r3 : ∀ q ∈ lw_privs_3, lw_okq q := List.forall_mem_cons.mpr ⟨lw_p32, List.forall_mem_cons.mpr ⟨lw_p33, List.forall_mem_cons.mpr ⟨lw_p34, List.forall_mem_cons.mpr ⟨lw_p35, fun _ h => absurd h List.not_mem_nil⟩⟩⟩⟩
def lw_privs : List (MethodName × Nat) := lw_privs_1 ++ (lw_privs_2 ++ (lw_privs_3))
def lw_tbl : List Cond := k2_sels lw_privs ++ tables_1
theorem lw_privs_ok : ∀ q ∈ lw_privs, lw_okq q := by
  show ∀ q ∈ lw_privs_1 ++ (lw_privs_2 ++ (lw_privs_3)), lw_okq q
  exact List.forall_mem_append.mpr ⟨lw_r1, List.forall_mem_append.mpr ⟨lw_r2, lw_r3⟩⟩

/-! ===== BEGIN printed: names, fields, word lists, decode rows ===== -/
def RX0 : String := "Ferrytax$Ferry"
def TX0 : u_T := fun k => match k with
  | 0 => ("Ferrytax$Ferry", "sailsAt", "I", false)
  | 1 => ("Ferrytax$Ferry", "seats", "I", false)
  | _ => ("Ferrytax$Ferry", "places", "[I", true)
def tyX0 : Nat → FieldType := fun k => match k with
  | 0 => .int
  | 1 => .int
  | _ => .array .int
abbrev wsX00 : List Cond := u_ws RX0 TX0 3
theorem nmX0 : ∀ a, a < 3 → ∀ b, b < 3 → a ≠ b → (TX0 a).2.1 ≠ (TX0 b).2.1 := by decide +kernel
theorem tyX0_ok : ∀ k, k < 3 → parseFieldDescriptor (TX0 k).2.2.1 = some (tyX0 k) := by decide +kernel
abbrev cX0_init : ByteArray := prog_2_method_1_code
def yX0_init : MethodName := ⟨RX0, "<init>", "()V"⟩
def RX1 : String := "Ferrytax$Receipt"
def TX1 : u_T := fun k => match k with
  | 0 => ("Ferrytax$Receipt", "shop", "I", false)
  | 1 => ("Ferrytax$Receipt", "traveller", "I", false)
  | 2 => ("Ferrytax$Receipt", "price", "I", false)
  | 3 => ("Ferrytax$Receipt", "tax", "I", false)
  | 4 => ("Ferrytax$Receipt", "boughtAt", "I", false)
  | 5 => ("Ferrytax$Receipt", "state", "I", false)
  | 6 => ("Ferrytax$Receipt", "stampedFor", "I", false)
  | 7 => ("Ferrytax$Receipt", "refund", "I", false)
  | _ => ("Ferrytax$Receipt", "wastedStamps", "I", false)
def tyX1 : Nat → FieldType := fun k => match k with
  | 0 => .int
  | 1 => .int
  | 2 => .int
  | 3 => .int
  | 4 => .int
  | 5 => .int
  | 6 => .int
  | 7 => .int
  | _ => .int
abbrev wsX10 : List Cond := u_ws RX1 TX1 9
theorem nmX1 : ∀ a, a < 9 → ∀ b, b < 9 → a ≠ b → (TX1 a).2.1 ≠ (TX1 b).2.1 := by decide +kernel
theorem tyX1_ok : ∀ k, k < 9 → parseFieldDescriptor (TX1 k).2.2.1 = some (tyX1 k) := by decide +kernel
abbrev cX1_init : ByteArray := prog_3_method_1_code
def yX1_init : MethodName := ⟨RX1, "<init>", "()V"⟩
def RX2 : String := "Ferrytax$Traveller"
def TX2 : u_T := fun k => match k with
  | 0 => ("Ferrytax$Traveller", "refunds", "I", false)
  | 1 => ("Ferrytax$Traveller", "fines", "I", false)
  | 2 => ("Ferrytax$Traveller", "missed", "I", false)
  | 3 => ("Ferrytax$Traveller", "timesLeft", "I", false)
  | _ => ("Ferrytax$Traveller", "left", "Z", false)
def tyX2 : Nat → FieldType := fun k => match k with
  | 0 => .int
  | 1 => .int
  | 2 => .int
  | 3 => .int
  | _ => .boolean
abbrev wsX20 : List Cond := u_ws RX2 TX2 5
theorem nmX2 : ∀ a, a < 5 → ∀ b, b < 5 → a ≠ b → (TX2 a).2.1 ≠ (TX2 b).2.1 := by decide +kernel
theorem tyX2_ok : ∀ k, k < 5 → parseFieldDescriptor (TX2 k).2.2.1 = some (tyX2 k) := by decide +kernel
abbrev cX2_init : ByteArray := prog_4_method_1_code
def yX2_init : MethodName := ⟨RX2, "<init>", "()V"⟩
def RX3 : String := "Ferrytax"
def TX3 : u_T := fun k => match k with
  | 0 => ("Ferrytax", "rates", "[I", true)
  | 1 => ("Ferrytax", "receipts", "[LFerrytax$Receipt;", true)
  | 2 => ("Ferrytax", "ferries", "[LFerrytax$Ferry;", true)
  | 3 => ("Ferrytax", "travellers", "[LFerrytax$Traveller;", true)
  | 4 => ("Ferrytax", "receiptCount", "I", false)
  | 5 => ("Ferrytax", "ferryCount", "I", false)
  | _ => ("Ferrytax", "now", "I", false)
def tyX3 : Nat → FieldType := fun k => match k with
  | 0 => .array .int
  | 1 => .array (.object "Ferrytax$Receipt")
  | 2 => .array (.object "Ferrytax$Ferry")
  | 3 => .array (.object "Ferrytax$Traveller")
  | 4 => .int
  | 5 => .int
  | _ => .int
abbrev wsX30 : List Cond := u_ws RX3 TX3 7
theorem nmX3 : ∀ a, a < 7 → ∀ b, b < 7 → a ≠ b → (TX3 a).2.1 ≠ (TX3 b).2.1 := by decide +kernel
theorem tyX3_ok : ∀ k, k < 7 → parseFieldDescriptor (TX3 k).2.2.1 = some (tyX3 k) := by decide +kernel
abbrev cX3_init : ByteArray := prog_1_method_1_code
def yX3_init : MethodName := ⟨RX3, "<init>", "()V"⟩
abbrev cX3_rate : ByteArray := prog_1_method_2_code
def yX3_rate : MethodName := ⟨RX3, "rate", "(II)I"⟩
abbrev cX3_buy : ByteArray := prog_1_method_3_code
def yX3_buy : MethodName := ⟨RX3, "buy", "(IIII)I"⟩
abbrev cX3_giveBack : ByteArray := prog_1_method_4_code
def yX3_giveBack : MethodName := ⟨RX3, "giveBack", "(I)I"⟩
abbrev cX3_ferry : ByteArray := prog_1_method_5_code
def yX3_ferry : MethodName := ⟨RX3, "ferry", "(II)I"⟩
abbrev cX3_seat : ByteArray := prog_1_method_6_code
def yX3_seat : MethodName := ⟨RX3, "seat", "(II)I"⟩
abbrev cX3_leaveSeat : ByteArray := prog_1_method_7_code
def yX3_leaveSeat : MethodName := ⟨RX3, "leaveSeat", "(II)I"⟩
abbrev cX3_aboard : ByteArray := prog_1_method_8_code
def yX3_aboard : MethodName := ⟨RX3, "aboard", "(II)I"⟩
abbrev cX3_stamp : ByteArray := prog_1_method_9_code
def yX3_stamp : MethodName := ⟨RX3, "stamp", "(II)I"⟩
abbrev cX3_check : ByteArray := prog_1_method_10_code
def yX3_check : MethodName := ⟨RX3, "check", "(IZ)I"⟩
abbrev cX3_comeBack : ByteArray := prog_1_method_11_code
def yX3_comeBack : MethodName := ⟨RX3, "comeBack", "(I)I"⟩
abbrev cX3_pass : ByteArray := prog_1_method_12_code
def yX3_pass : MethodName := ⟨RX3, "pass", "(I)I"⟩
abbrev cX3_ofReceipt : ByteArray := prog_1_method_13_code
def yX3_ofReceipt : MethodName := ⟨RX3, "ofReceipt", "(II)I"⟩
abbrev cX3_code : ByteArray := prog_1_method_14_code
def yX3_code : MethodName := ⟨RX3, "code", "(II)C"⟩
abbrev cX3_ofTraveller : ByteArray := prog_1_method_15_code
def yX3_ofTraveller : MethodName := ⟨RX3, "ofTraveller", "(II)I"⟩
abbrev cX3_refundsAnew : ByteArray := prog_1_method_16_code
def yX3_refundsAnew : MethodName := ⟨RX3, "refundsAnew", "(I)I"⟩
abbrev cX3_debt : ByteArray := prog_1_method_17_code
def yX3_debt : MethodName := ⟨RX3, "debt", "(I)I"⟩
abbrev cX3_requireShop : ByteArray := prog_1_method_18_code
def yX3_requireShop : MethodName := ⟨RX3, "requireShop", "(I)V"⟩
abbrev cX3_requireKind : ByteArray := prog_1_method_19_code
def yX3_requireKind : MethodName := ⟨RX3, "requireKind", "(I)V"⟩
abbrev cX3_requireTraveller : ByteArray := prog_1_method_20_code
def yX3_requireTraveller : MethodName := ⟨RX3, "requireTraveller", "(I)V"⟩
abbrev cX3_travellerNumbered : ByteArray := prog_1_method_21_code
def yX3_travellerNumbered : MethodName := ⟨RX3, "travellerNumbered", "(I)LFerrytax$Traveller;"⟩
abbrev cX3_receiptNumbered : ByteArray := prog_1_method_22_code
def yX3_receiptNumbered : MethodName := ⟨RX3, "receiptNumbered", "(I)LFerrytax$Receipt;"⟩
abbrev cX3_ferryNumbered : ByteArray := prog_1_method_23_code
def yX3_ferryNumbered : MethodName := ⟨RX3, "ferryNumbered", "(I)LFerrytax$Ferry;"⟩
abbrev cX3_requireOnIsland : ByteArray := prog_1_method_24_code
def yX3_requireOnIsland : MethodName := ⟨RX3, "requireOnIsland", "(LFerrytax$Traveller;)V"⟩
abbrev cX3_requireOpen : ByteArray := prog_1_method_25_code
def yX3_requireOpen : MethodName := ⟨RX3, "requireOpen", "(LFerrytax$Receipt;)V"⟩
abbrev cX3_requireNotSailed : ByteArray := prog_1_method_26_code
def yX3_requireNotSailed : MethodName := ⟨RX3, "requireNotSailed", "(LFerrytax$Ferry;)V"⟩
abbrev cX3_requireSeat : ByteArray := prog_1_method_27_code
def yX3_requireSeat : MethodName := ⟨RX3, "requireSeat", "(LFerrytax$Ferry;I)V"⟩
abbrev cX3_requireWithin : ByteArray := prog_1_method_28_code
def yX3_requireWithin : MethodName := ⟨RX3, "requireWithin", "(LFerrytax$Ferry;I)V"⟩
abbrev cX3_placesWith : ByteArray := prog_1_method_29_code
def yX3_placesWith : MethodName := ⟨RX3, "placesWith", "(LFerrytax$Ferry;I)I"⟩
abbrev cX3_seatsLeft : ByteArray := prog_1_method_30_code
def yX3_seatsLeft : MethodName := ⟨RX3, "seatsLeft", "(LFerrytax$Ferry;)I"⟩
abbrev cX3_isAboardSomewhere : ByteArray := prog_1_method_31_code
def yX3_isAboardSomewhere : MethodName := ⟨RX3, "isAboardSomewhere", "(I)Z"⟩
abbrev cX3_isStampedFor : ByteArray := prog_1_method_32_code
def yX3_isStampedFor : MethodName := ⟨RX3, "isStampedFor", "(LFerrytax$Receipt;II)Z"⟩
abbrev cX3_takeStampOff : ByteArray := prog_1_method_33_code
def yX3_takeStampOff : MethodName := ⟨RX3, "takeStampOff", "(LFerrytax$Receipt;I)V"⟩
abbrev cX3_reopenStamped : ByteArray := prog_1_method_34_code
def yX3_reopenStamped : MethodName := ⟨RX3, "reopenStamped", "(II)I"⟩
abbrev cX3_sailAllOfNow : ByteArray := prog_1_method_35_code
def yX3_sailAllOfNow : MethodName := ⟨RX3, "sailAllOfNow", "()V"⟩
abbrev cX3_sail : ByteArray := prog_1_method_36_code
def yX3_sail : MethodName := ⟨RX3, "sail", "(I)V"⟩
abbrev cX3_payStamped : ByteArray := prog_1_method_37_code
def yX3_payStamped : MethodName := ⟨RX3, "payStamped", "(II)V"⟩
abbrev cX3_wasteStamped : ByteArray := prog_1_method_38_code
def yX3_wasteStamped : MethodName := ⟨RX3, "wasteStamped", "(II)V"⟩
abbrev cX3_refundOfTax : ByteArray := prog_1_method_39_code
def yX3_refundOfTax : MethodName := ⟨RX3, "refundOfTax", "(I)I"⟩
abbrev cX3_refundsOfSailing : ByteArray := prog_1_method_40_code
def yX3_refundsOfSailing : MethodName := ⟨RX3, "refundsOfSailing", "(II)I"⟩
abbrev cX3_appendBackwards : ByteArray := prog_1_method_41_code
def yX3_appendBackwards : MethodName := ⟨RX3, "appendBackwards", "(Ljava/lang/StringBuilder;I)V"⟩
def RX4 : String := "FerrytaxModel"
def TX4 : u_T := fun k => match k with
  | 0 => ("FerrytaxModel", "rate", "[I", true)
  | 1 => ("FerrytaxModel", "rs", "[I", true)
  | 2 => ("FerrytaxModel", "rt", "[I", true)
  | 3 => ("FerrytaxModel", "rp", "[I", true)
  | 4 => ("FerrytaxModel", "rx", "[I", true)
  | 5 => ("FerrytaxModel", "rh", "[I", true)
  | 6 => ("FerrytaxModel", "rk", "[I", true)
  | 7 => ("FerrytaxModel", "rf", "[I", true)
  | 8 => ("FerrytaxModel", "rr", "[I", true)
  | 9 => ("FerrytaxModel", "rn", "[I", true)
  | 10 => ("FerrytaxModel", "receipts", "I", false)
  | 11 => ("FerrytaxModel", "fh", "[I", true)
  | 12 => ("FerrytaxModel", "fs", "[I", true)
  | 13 => ("FerrytaxModel", "fw", "[I", true)
  | 14 => ("FerrytaxModel", "fg", "[I", true)
  | 15 => ("FerrytaxModel", "ferries", "I", false)
  | 16 => ("FerrytaxModel", "ab", "[I", true)
  | 17 => ("FerrytaxModel", "gone", "[I", true)
  | 18 => ("FerrytaxModel", "often", "[I", true)
  | 19 => ("FerrytaxModel", "missed", "[I", true)
  | 20 => ("FerrytaxModel", "fine", "[I", true)
  | 21 => ("FerrytaxModel", "refunds", "[I", true)
  | 22 => ("FerrytaxModel", "given", "[I", true)
  | 23 => ("FerrytaxModel", "hour", "I", false)
  | _ => ("FerrytaxModel", "thrown", "I", false)
def tyX4 : Nat → FieldType := fun k => match k with
  | 0 => .array .int
  | 1 => .array .int
  | 2 => .array .int
  | 3 => .array .int
  | 4 => .array .int
  | 5 => .array .int
  | 6 => .array .int
  | 7 => .array .int
  | 8 => .array .int
  | 9 => .array .int
  | 10 => .int
  | 11 => .array .int
  | 12 => .array .int
  | 13 => .array .int
  | 14 => .array .int
  | 15 => .int
  | 16 => .array .int
  | 17 => .array .int
  | 18 => .array .int
  | 19 => .array .int
  | 20 => .array .int
  | 21 => .array .int
  | 22 => .array .int
  | 23 => .int
  | _ => .int
abbrev wsX40 : List Cond := u_ws RX4 TX4 25
theorem nmX4 : ∀ a, a < 25 → ∀ b, b < 25 → a ≠ b → (TX4 a).2.1 ≠ (TX4 b).2.1 := by decide +kernel
theorem tyX4_ok : ∀ k, k < 25 → parseFieldDescriptor (TX4 k).2.2.1 = some (tyX4 k) := by decide +kernel
abbrev cX4_init : ByteArray := prog_6_method_1_code
def yX4_init : MethodName := ⟨RX4, "<init>", "()V"⟩
abbrev cX4_thrown : ByteArray := prog_6_method_2_code
def yX4_thrown : MethodName := ⟨RX4, "thrown", "()I"⟩
abbrev cX4_holds : ByteArray := prog_6_method_3_code
def yX4_holds : MethodName := ⟨RX4, "holds", "(I)Z"⟩
abbrev cX4_in : ByteArray := prog_6_method_4_code
def yX4_in : MethodName := ⟨RX4, "in", "(III)Z"⟩
abbrev cX4_isReceipt : ByteArray := prog_6_method_5_code
def yX4_isReceipt : MethodName := ⟨RX4, "isReceipt", "(I)Z"⟩
abbrev cX4_isFerry : ByteArray := prog_6_method_6_code
def yX4_isFerry : MethodName := ⟨RX4, "isFerry", "(I)Z"⟩
abbrev cX4_hasSeat : ByteArray := prog_6_method_7_code
def yX4_hasSeat : MethodName := ⟨RX4, "hasSeat", "(II)Z"⟩
abbrev cX4_rate : ByteArray := prog_6_method_8_code
def yX4_rate : MethodName := ⟨RX4, "rate", "(II)I"⟩
abbrev cX4_buy : ByteArray := prog_6_method_9_code
def yX4_buy : MethodName := ⟨RX4, "buy", "(IIII)I"⟩
abbrev cX4_giveBack : ByteArray := prog_6_method_10_code
def yX4_giveBack : MethodName := ⟨RX4, "giveBack", "(I)I"⟩
abbrev cX4_ferry : ByteArray := prog_6_method_11_code
def yX4_ferry : MethodName := ⟨RX4, "ferry", "(II)I"⟩
abbrev cX4_left : ByteArray := prog_6_method_12_code
def yX4_left : MethodName := ⟨RX4, "left", "(I)I"⟩
abbrev cX4_seat : ByteArray := prog_6_method_13_code
def yX4_seat : MethodName := ⟨RX4, "seat", "(II)I"⟩
abbrev cX4_leaveSeat : ByteArray := prog_6_method_14_code
def yX4_leaveSeat : MethodName := ⟨RX4, "leaveSeat", "(II)I"⟩
abbrev cX4_aboard : ByteArray := prog_6_method_15_code
def yX4_aboard : MethodName := ⟨RX4, "aboard", "(II)I"⟩
abbrev cX4_stamp : ByteArray := prog_6_method_16_code
def yX4_stamp : MethodName := ⟨RX4, "stamp", "(II)I"⟩
abbrev cX4_check : ByteArray := prog_6_method_17_code
def yX4_check : MethodName := ⟨RX4, "check", "(IZ)I"⟩
abbrev cX4_comeBack : ByteArray := prog_6_method_18_code
def yX4_comeBack : MethodName := ⟨RX4, "comeBack", "(I)I"⟩
abbrev cX4_pays : ByteArray := prog_6_method_19_code
def yX4_pays : MethodName := ⟨RX4, "pays", "(I)V"⟩
abbrev cX4_fails : ByteArray := prog_6_method_20_code
def yX4_fails : MethodName := ⟨RX4, "fails", "(I)V"⟩
abbrev cX4_sails : ByteArray := prog_6_method_21_code
def yX4_sails : MethodName := ⟨RX4, "sails", "(I)V"⟩
abbrev cX4_pass : ByteArray := prog_6_method_22_code
def yX4_pass : MethodName := ⟨RX4, "pass", "(I)I"⟩
abbrev cX4_ofReceipt : ByteArray := prog_6_method_23_code
def yX4_ofReceipt : MethodName := ⟨RX4, "ofReceipt", "(II)I"⟩
abbrev cX4_digits : ByteArray := prog_6_method_24_code
def yX4_digits : MethodName := ⟨RX4, "digits", "(I)I"⟩
abbrev cX4_digit : ByteArray := prog_6_method_25_code
def yX4_digit : MethodName := ⟨RX4, "digit", "(II)C"⟩
abbrev cX4_code : ByteArray := prog_6_method_26_code
def yX4_code : MethodName := ⟨RX4, "code", "(II)C"⟩
abbrev cX4_ofTraveller : ByteArray := prog_6_method_27_code
def yX4_ofTraveller : MethodName := ⟨RX4, "ofTraveller", "(II)I"⟩
abbrev cX4_refundsAnew : ByteArray := prog_6_method_28_code
def yX4_refundsAnew : MethodName := ⟨RX4, "refundsAnew", "(I)I"⟩
abbrev cX4_debt : ByteArray := prog_6_method_29_code
def yX4_debt : MethodName := ⟨RX4, "debt", "(I)I"⟩
def RJ5 : String := "java/lang/AbstractStringBuilder"
def TJ5 : u_T := fun k => match k with
  | _ => ("", "", "", false)
def tyJ5 : Nat → FieldType := fun k => match k with
  | _ => .int
abbrev wsJ50 : List Cond := u_ws RJ5 TJ5 0
theorem nmJ5 : ∀ a, a < 0 → ∀ b, b < 0 → a ≠ b → (TJ5 a).2.1 ≠ (TJ5 b).2.1 := by decide +kernel
theorem tyJ5_ok : ∀ k, k < 0 → parseFieldDescriptor (TJ5 k).2.2.1 = some (tyJ5 k) := by decide +kernel
abbrev cJ5_init_d00df : ByteArray := prog_7_method_2_code
def yJ5_init_d00df : MethodName := ⟨RJ5, "<init>", "(I)V"⟩
abbrev cJ5_length_8abf5 : ByteArray := prog_7_method_6_code
def yJ5_length_8abf5 : MethodName := ⟨RJ5, "length", "()I"⟩
abbrev cJ5_ensureCapacityInternal_d00df : ByteArray := prog_7_method_9_code
def yJ5_ensureCapacityInternal_d00df : MethodName := ⟨RJ5, "ensureCapacityInternal", "(I)V"⟩
abbrev cJ5_newCapacity_0f7a4 : ByteArray := prog_7_method_10_code
def yJ5_newCapacity_0f7a4 : MethodName := ⟨RJ5, "newCapacity", "(I)I"⟩
abbrev cJ5_inflate_da8c8 : ByteArray := prog_7_method_11_code
def yJ5_inflate_da8c8 : MethodName := ⟨RJ5, "inflate", "()V"⟩
abbrev cJ5_charAt_5068e : ByteArray := prog_7_method_14_code
def yJ5_charAt_5068e : MethodName := ⟨RJ5, "charAt", "(I)C"⟩
abbrev cJ5_append_3fe6f : ByteArray := prog_7_method_31_code
def yJ5_append_3fe6f : MethodName := ⟨RJ5, "append", "(C)Ljava/lang/AbstractStringBuilder;"⟩
abbrev cJ5_append_c97b9 : ByteArray := prog_7_method_32_code
def yJ5_append_c97b9 : MethodName := ⟨RJ5, "append", "(I)Ljava/lang/AbstractStringBuilder;"⟩
abbrev cJ5_isLatin1_aae02 : ByteArray := prog_7_method_68_code
def yJ5_isLatin1_aae02 : MethodName := ⟨RJ5, "isLatin1", "()Z"⟩
def RJx8e188 : String := "java/lang/Cloneable"
def TJx8e188 : u_T := fun k => match k with
  | _ => ("", "", "", false)
def tyJx8e188 : Nat → FieldType := fun k => match k with
  | _ => .int
abbrev wsJx8e1880 : List Cond := u_ws RJx8e188 TJx8e188 0
theorem nmJx8e188 : ∀ a, a < 0 → ∀ b, b < 0 → a ≠ b → (TJx8e188 a).2.1 ≠ (TJx8e188 b).2.1 := by decide +kernel
theorem tyJx8e188_ok : ∀ k, k < 0 → parseFieldDescriptor (TJx8e188 k).2.2.1 = some (tyJx8e188 k) := by decide +kernel
def RJ6 : String := "java/lang/Integer"
def TJ6 : u_T := fun k => match k with
  | _ => ("", "", "", false)
def tyJ6 : Nat → FieldType := fun k => match k with
  | _ => .int
abbrev wsJ60 : List Cond := u_ws RJ6 TJ6 0
theorem nmJ6 : ∀ a, a < 0 → ∀ b, b < 0 → a ≠ b → (TJ6 a).2.1 ≠ (TJ6 b).2.1 := by decide +kernel
theorem tyJ6_ok : ∀ k, k < 0 → parseFieldDescriptor (TJ6 k).2.2.1 = some (tyJ6 k) := by decide +kernel
abbrev cJ6_getChars_ba4f3 : ByteArray := prog_13_method_12_code
def yJ6_getChars_ba4f3 : MethodName := ⟨RJ6, "getChars", "(II[B)I"⟩
abbrev cJ6_stringSize_0f7a4 : ByteArray := prog_13_method_13_code
def yJ6_stringSize_0f7a4 : MethodName := ⟨RJ6, "stringSize", "(I)I"⟩
def RJ9 : String := "java/lang/Math"
def TJ9 : u_T := fun k => match k with
  | _ => ("", "", "", false)
def tyJ9 : Nat → FieldType := fun k => match k with
  | _ => .int
abbrev wsJ90 : List Cond := u_ws RJ9 TJ9 0
theorem nmJ9 : ∀ a, a < 0 → ∀ b, b < 0 → a ≠ b → (TJ9 a).2.1 ≠ (TJ9 b).2.1 := by decide +kernel
theorem tyJ9_ok : ∀ k, k < 0 → parseFieldDescriptor (TJ9 k).2.2.1 = some (tyJ9 k) := by decide +kernel
abbrev cJ9_max_7cf53 : ByteArray := prog_14_method_65_code
def yJ9_max_7cf53 : MethodName := ⟨RJ9, "max", "(II)I"⟩
abbrev cJ9_min_7cf53 : ByteArray := prog_14_method_69_code
def yJ9_min_7cf53 : MethodName := ⟨RJ9, "min", "(II)I"⟩
def RJ0 : String := "java/lang/String"
def TJ0 : u_T := fun k => match k with
  | _ => ("", "", "", false)
def tyJ0 : Nat → FieldType := fun k => match k with
  | _ => .int
abbrev wsJ00 : List Cond := u_ws RJ0 TJ0 0
theorem nmJ0 : ∀ a, a < 0 → ∀ b, b < 0 → a ≠ b → (TJ0 a).2.1 ≠ (TJ0 b).2.1 := by decide +kernel
theorem tyJ0_ok : ∀ k, k < 0 → parseFieldDescriptor (TJ0 k).2.2.1 = some (tyJ0 k) := by decide +kernel
abbrev cJ0_checkIndex_df160 : ByteArray := prog_16_method_155_code
def yJ0_checkIndex_df160 : MethodName := ⟨RJ0, "checkIndex", "(II)V"⟩
abbrev cJ0_checkBoundsOffCount_cabcc : ByteArray := prog_16_method_157_code
def yJ0_checkBoundsOffCount_cabcc : MethodName := ⟨RJ0, "checkBoundsOffCount", "(III)I"⟩
abbrev cJ0_checkBoundsBeginEnd_23922 : ByteArray := prog_16_method_158_code
def yJ0_checkBoundsBeginEnd_23922 : MethodName := ⟨RJ0, "checkBoundsBeginEnd", "(III)V"⟩
def RJ4 : String := "java/lang/StringBuilder"
def TJ4 : u_T := fun k => match k with
  | 0 => ("java/lang/AbstractStringBuilder", "value", "[B", false)
  | 1 => ("java/lang/AbstractStringBuilder", "coder", "B", false)
  | 2 => ("java/lang/AbstractStringBuilder", "maybeLatin1", "Z", false)
  | _ => ("java/lang/AbstractStringBuilder", "count", "I", false)
def tyJ4 : Nat → FieldType := fun k => match k with
  | 0 => .array .byte
  | 1 => .byte
  | 2 => .boolean
  | _ => .int
abbrev wsJ40 : List Cond := u_ws RJ4 TJ4 4
theorem nmJ4 : ∀ a, a < 4 → ∀ b, b < 4 → a ≠ b → (TJ4 a).2.1 ≠ (TJ4 b).2.1 := by decide +kernel
theorem tyJ4_ok : ∀ k, k < 4 → parseFieldDescriptor (TJ4 k).2.2.1 = some (tyJ4 k) := by decide +kernel
abbrev cJ4_init_da8c8 : ByteArray := prog_17_method_1_code
def yJ4_init_da8c8 : MethodName := ⟨RJ4, "<init>", "()V"⟩
abbrev cJ4_append_cf468 : ByteArray := prog_17_method_14_code
def yJ4_append_cf468 : MethodName := ⟨RJ4, "append", "(C)Ljava/lang/StringBuilder;"⟩
abbrev cJ4_append_bf812 : ByteArray := prog_17_method_15_code
def yJ4_append_bf812 : MethodName := ⟨RJ4, "append", "(I)Ljava/lang/StringBuilder;"⟩
abbrev cJ4_charAt_5068e : ByteArray := prog_17_method_88_code
def yJ4_charAt_5068e : MethodName := ⟨RJ4, "charAt", "(I)C"⟩
abbrev cJ4_length_8abf5 : ByteArray := prog_17_method_93_code
def yJ4_length_8abf5 : MethodName := ⟨RJ4, "length", "()I"⟩
def RJ1 : String := "java/lang/StringLatin1"
def TJ1 : u_T := fun k => match k with
  | _ => ("", "", "", false)
def tyJ1 : Nat → FieldType := fun k => match k with
  | _ => .int
abbrev wsJ10 : List Cond := u_ws RJ1 TJ1 0
theorem nmJ1 : ∀ a, a < 0 → ∀ b, b < 0 → a ≠ b → (TJ1 a).2.1 ≠ (TJ1 b).2.1 := by decide +kernel
theorem tyJ1_ok : ∀ k, k < 0 → parseFieldDescriptor (TJ1 k).2.2.1 = some (tyJ1 k) := by decide +kernel
abbrev cJ1_canEncode_fc78d : ByteArray := prog_18_method_3_code
def yJ1_canEncode_fc78d : MethodName := ⟨RJ1, "canEncode", "(C)Z"⟩
abbrev cJ1_inflate_0e8fd : ByteArray := prog_18_method_50_code
def yJ1_inflate_0e8fd : MethodName := ⟨RJ1, "inflate", "([BI[BII)V"⟩
def RJ2 : String := "java/lang/StringUTF16"
def TJ2 : u_T := fun k => match k with
  | _ => ("", "", "", false)
def tyJ2 : Nat → FieldType := fun k => match k with
  | _ => .int
abbrev wsJ20 : List Cond := u_ws RJ2 TJ2 0
theorem nmJ2 : ∀ a, a < 0 → ∀ b, b < 0 → a ≠ b → (TJ2 a).2.1 ≠ (TJ2 b).2.1 := by decide +kernel
theorem tyJ2_ok : ∀ k, k < 0 → parseFieldDescriptor (TJ2 k).2.2.1 = some (tyJ2 k) := by decide +kernel
abbrev cJ2_newBytesFor_77867 : ByteArray := prog_19_method_2_code
def yJ2_newBytesFor_77867 : MethodName := ⟨RJ2, "newBytesFor", "(I)[B"⟩
abbrev cJ2_newBytesLength_0f7a4 : ByteArray := prog_19_method_3_code
def yJ2_newBytesLength_0f7a4 : MethodName := ⟨RJ2, "newBytesLength", "(I)I"⟩
abbrev cJ2_putChar_b72d1 : ByteArray := prog_19_method_4_code
def yJ2_putChar_b72d1 : MethodName := ⟨RJ2, "putChar", "([BII)V"⟩
abbrev cJ2_getChar_3b067 : ByteArray := prog_19_method_5_code
def yJ2_getChar_3b067 : MethodName := ⟨RJ2, "getChar", "([BI)C"⟩
abbrev cJ2_length_9d52b : ByteArray := prog_19_method_6_code
def yJ2_length_9d52b : MethodName := ⟨RJ2, "length", "([B)I"⟩
abbrev cJ2_putCharSB_b72d1 : ByteArray := prog_19_method_71_code
def yJ2_putCharSB_b72d1 : MethodName := ⟨RJ2, "putCharSB", "([BII)V"⟩
abbrev cJ2_getChars_46870 : ByteArray := prog_19_method_77_code
def yJ2_getChars_46870 : MethodName := ⟨RJ2, "getChars", "(III[B)I"⟩
abbrev cJ2_inflate_0e8fd : ByteArray := prog_19_method_86_code
def yJ2_inflate_0e8fd : MethodName := ⟨RJ2, "inflate", "([BI[BII)V"⟩
abbrev cJ2_getChars_ba4f3 : ByteArray := prog_19_method_89_code
def yJ2_getChars_ba4f3 : MethodName := ⟨RJ2, "getChars", "(II[B)I"⟩
abbrev cJ2_checkIndex_2214a : ByteArray := prog_19_method_91_code
def yJ2_checkIndex_2214a : MethodName := ⟨RJ2, "checkIndex", "(I[B)V"⟩
abbrev cJ2_checkBoundsBeginEnd_d044e : ByteArray := prog_19_method_93_code
def yJ2_checkBoundsBeginEnd_d044e : MethodName := ⟨RJ2, "checkBoundsBeginEnd", "(II[B)V"⟩
abbrev cJ2_checkBoundsOffCount_d044e : ByteArray := prog_19_method_94_code
def yJ2_checkBoundsOffCount_d044e : MethodName := ⟨RJ2, "checkBoundsOffCount", "(II[B)V"⟩
def RJ10 : String := "java/lang/System"
def TJ10 : u_T := fun k => match k with
  | _ => ("", "", "", false)
def tyJ10 : Nat → FieldType := fun k => match k with
  | _ => .int
abbrev wsJ100 : List Cond := u_ws RJ10 TJ10 0
theorem nmJ10 : ∀ a, a < 0 → ∀ b, b < 0 → a ≠ b → (TJ10 a).2.1 ≠ (TJ10 b).2.1 := by decide +kernel
theorem tyJ10_ok : ∀ k, k < 0 → parseFieldDescriptor (TJ10 k).2.2.1 = some (tyJ10 k) := by decide +kernel
def RJ7 : String := "java/util/Arrays"
def TJ7 : u_T := fun k => match k with
  | _ => ("", "", "", false)
def tyJ7 : Nat → FieldType := fun k => match k with
  | _ => .int
abbrev wsJ70 : List Cond := u_ws RJ7 TJ7 0
theorem nmJ7 : ∀ a, a < 0 → ∀ b, b < 0 → a ≠ b → (TJ7 a).2.1 ≠ (TJ7 b).2.1 := by decide +kernel
theorem tyJ7_ok : ∀ k, k < 0 → parseFieldDescriptor (TJ7 k).2.2.1 = some (tyJ7 k) := by decide +kernel
abbrev cJ7_copyOf_9075b : ByteArray := prog_22_method_121_code
def yJ7_copyOf_9075b : MethodName := ⟨RJ7, "copyOf", "([BI)[B"⟩
def RJ8 : String := "jdk/internal/util/ArraysSupport"
def TJ8 : u_T := fun k => match k with
  | _ => ("", "", "", false)
def tyJ8 : Nat → FieldType := fun k => match k with
  | _ => .int
abbrev wsJ80 : List Cond := u_ws RJ8 TJ8 0
theorem nmJ8 : ∀ a, a < 0 → ∀ b, b < 0 → a ≠ b → (TJ8 a).2.1 ≠ (TJ8 b).2.1 := by decide +kernel
theorem tyJ8_ok : ∀ k, k < 0 → parseFieldDescriptor (TJ8 k).2.2.1 = some (tyJ8 k) := by decide +kernel
abbrev cJ8_newLength_cabcc : ByteArray := prog_23_method_27_code
def yJ8_newLength_cabcc : MethodName := ⟨RJ8, "newLength", "(III)I"⟩
abbrev cJ8_hugeLength_7cf53 : ByteArray := prog_23_method_28_code
def yJ8_hugeLength_7cf53 : MethodName := ⟨RJ8, "hugeLength", "(II)I"⟩
def RJ3 : String := "jdk/internal/util/Preconditions"
def TJ3 : u_T := fun k => match k with
  | _ => ("", "", "", false)
def tyJ3 : Nat → FieldType := fun k => match k with
  | _ => .int
abbrev wsJ30 : List Cond := u_ws RJ3 TJ3 0
theorem nmJ3 : ∀ a, a < 0 → ∀ b, b < 0 → a ≠ b → (TJ3 a).2.1 ≠ (TJ3 b).2.1 := by decide +kernel
theorem tyJ3_ok : ∀ k, k < 0 → parseFieldDescriptor (TJ3 k).2.2.1 = some (tyJ3 k) := by decide +kernel
abbrev cJ3_checkIndex_8e157 : ByteArray := prog_24_method_11_code
def yJ3_checkIndex_8e157 : MethodName := ⟨RJ3, "checkIndex", "(IILjava/util/function/BiFunction;)I"⟩
abbrev cJ3_checkFromToIndex_8c36e : ByteArray := prog_24_method_12_code
def yJ3_checkFromToIndex_8c36e : MethodName := ⟨RJ3, "checkFromToIndex", "(IIILjava/util/function/BiFunction;)I"⟩
abbrev cJ3_checkFromIndexSize_8c36e : ByteArray := prog_24_method_13_code
def yJ3_checkFromIndexSize_8c36e : MethodName := ⟨RJ3, "checkFromIndexSize", "(IIILjava/util/function/BiFunction;)I"⟩
def RL : String := "FerrytaxLaw"
abbrev cL_rate : ByteArray := method_3_code
def yL_rate : MethodName := ⟨RL, "rate", "(LFerrytax;II[J)I"⟩
abbrev cL_buy : ByteArray := method_4_code
def yL_buy : MethodName := ⟨RL, "buy", "(LFerrytax;IIII[J)I"⟩
abbrev cL_giveBack : ByteArray := method_5_code
def yL_giveBack : MethodName := ⟨RL, "giveBack", "(LFerrytax;I[J)I"⟩
abbrev cL_ferry : ByteArray := method_6_code
def yL_ferry : MethodName := ⟨RL, "ferry", "(LFerrytax;II[J)I"⟩
abbrev cL_seat : ByteArray := method_7_code
def yL_seat : MethodName := ⟨RL, "seat", "(LFerrytax;II[J)I"⟩
abbrev cL_leaveSeat : ByteArray := method_8_code
def yL_leaveSeat : MethodName := ⟨RL, "leaveSeat", "(LFerrytax;II[J)I"⟩
abbrev cL_aboard : ByteArray := method_9_code
def yL_aboard : MethodName := ⟨RL, "aboard", "(LFerrytax;II[J)I"⟩
abbrev cL_stamp : ByteArray := method_10_code
def yL_stamp : MethodName := ⟨RL, "stamp", "(LFerrytax;II[J)I"⟩
abbrev cL_check : ByteArray := method_11_code
def yL_check : MethodName := ⟨RL, "check", "(LFerrytax;IZ[J)I"⟩
abbrev cL_comeBack : ByteArray := method_12_code
def yL_comeBack : MethodName := ⟨RL, "comeBack", "(LFerrytax;I[J)I"⟩
abbrev cL_pass : ByteArray := method_13_code
def yL_pass : MethodName := ⟨RL, "pass", "(LFerrytax;I[J)I"⟩
abbrev cL_ofReceipt : ByteArray := method_14_code
def yL_ofReceipt : MethodName := ⟨RL, "ofReceipt", "(LFerrytax;II[J)I"⟩
abbrev cL_code : ByteArray := method_15_code
def yL_code : MethodName := ⟨RL, "code", "(LFerrytax;II[J)I"⟩
abbrev cL_ofTraveller : ByteArray := method_16_code
def yL_ofTraveller : MethodName := ⟨RL, "ofTraveller", "(LFerrytax;II[J)I"⟩
abbrev cL_refundsAnew : ByteArray := method_17_code
def yL_refundsAnew : MethodName := ⟨RL, "refundsAnew", "(LFerrytax;I[J)I"⟩
abbrev cL_debt : ByteArray := method_18_code
def yL_debt : MethodName := ⟨RL, "debt", "(LFerrytax;I[J)I"⟩
abbrev cL_law : ByteArray := code
def yL_law : MethodName := ⟨RL, "law", "([I)Z"⟩
abbrev vwCl : List vw_C := [(RJ4, TJ4, 4), (RX0, TX0, 3), (RX1, TX1, 9), (RX2, TX2, 5), (RX3, TX3, 7), (RX4, TX4, 25)]
end
section
theorem dX0_init_0 : decode cX0_init 0 = .ok (.aload_n 0, 1) := by decide +kernel
theorem dX0_init_1 : decode cX0_init 1 = .ok (.invokespecial 3, 3) := by decide +kernel
theorem dX0_init_4 : decode cX0_init 4 = .ok (.aload_n 0, 1) := by decide +kernel
theorem dX0_init_5 : decode cX0_init 5 = .ok (.bipush 10, 2) := by decide +kernel
theorem dX0_init_7 : decode cX0_init 7 = .ok (.newarray .int, 2) := by decide +kernel
theorem dX0_init_9 : decode cX0_init 9 = .ok (.putfield 9, 3) := by decide +kernel
theorem dX0_init_12 : decode cX0_init 12 = .ok (.return_, 1) := by decide +kernel
theorem dX1_init_0 : decode cX1_init 0 = .ok (.aload_n 0, 1) := by decide +kernel
theorem dX1_init_1 : decode cX1_init 1 = .ok (.invokespecial 1, 3) := by decide +kernel
theorem dX1_init_4 : decode cX1_init 4 = .ok (.return_, 1) := by decide +kernel
theorem dX2_init_0 : decode cX2_init 0 = .ok (.aload_n 0, 1) := by decide +kernel
theorem dX2_init_1 : decode cX2_init 1 = .ok (.invokespecial 1, 3) := by decide +kernel
theorem dX2_init_4 : decode cX2_init 4 = .ok (.return_, 1) := by decide +kernel
theorem dX3_init_0 : decode cX3_init 0 = .ok (.aload_n 0, 1) := by decide +kernel
theorem dX3_init_1 : decode cX3_init 1 = .ok (.invokespecial 1, 3) := by decide +kernel
theorem dX3_init_4 : decode cX3_init 4 = .ok (.aload_n 0, 1) := by decide +kernel
theorem dX3_init_5 : decode cX3_init 5 = .ok (.iconst 4, 1) := by decide +kernel
theorem dX3_init_6 : decode cX3_init 6 = .ok (.newarray .int, 2) := by decide +kernel
theorem dX3_init_8 : decode cX3_init 8 = .ok (.putfield 9, 3) := by decide +kernel
theorem dX3_init_11 : decode cX3_init 11 = .ok (.aload_n 0, 1) := by decide +kernel
theorem dX3_init_12 : decode cX3_init 12 = .ok (.bipush 60, 2) := by decide +kernel
theorem dX3_init_14 : decode cX3_init 14 = .ok (.anewarray 13, 3) := by decide +kernel
theorem dX3_init_17 : decode cX3_init 17 = .ok (.putfield 15, 3) := by decide +kernel
theorem dX3_init_20 : decode cX3_init 20 = .ok (.aload_n 0, 1) := by decide +kernel
theorem dX3_init_21 : decode cX3_init 21 = .ok (.bipush 20, 2) := by decide +kernel
theorem dX3_init_23 : decode cX3_init 23 = .ok (.anewarray 19, 3) := by decide +kernel
theorem dX3_init_26 : decode cX3_init 26 = .ok (.putfield 21, 3) := by decide +kernel
theorem dX3_init_29 : decode cX3_init 29 = .ok (.aload_n 0, 1) := by decide +kernel
theorem dX3_init_30 : decode cX3_init 30 = .ok (.bipush 10, 2) := by decide +kernel
theorem dX3_init_32 : decode cX3_init 32 = .ok (.anewarray 25, 3) := by decide +kernel
theorem dX3_init_35 : decode cX3_init 35 = .ok (.putfield 27, 3) := by decide +kernel
theorem dX3_init_38 : decode cX3_init 38 = .ok (.aload_n 0, 1) := by decide +kernel
theorem dX3_init_39 : decode cX3_init 39 = .ok (.iconst 0, 1) := by decide +kernel
theorem dX3_init_40 : decode cX3_init 40 = .ok (.putfield 31, 3) := by decide +kernel
theorem dX3_init_43 : decode cX3_init 43 = .ok (.aload_n 0, 1) := by decide +kernel
theorem dX3_init_44 : decode cX3_init 44 = .ok (.iconst 0, 1) := by decide +kernel
theorem dX3_init_45 : decode cX3_init 45 = .ok (.putfield 35, 3) := by decide +kernel
theorem dX3_init_48 : decode cX3_init 48 = .ok (.aload_n 0, 1) := by decide +kernel
theorem dX3_init_49 : decode cX3_init 49 = .ok (.iconst 0, 1) := by decide +kernel
theorem dX3_init_50 : decode cX3_init 50 = .ok (.putfield 38, 3) := by decide +kernel
theorem dX3_init_53 : decode cX3_init 53 = .ok (.iconst 0, 1) := by decide +kernel
theorem dX3_init_54 : decode cX3_init 54 = .ok (.istore_n 1, 1) := by decide +kernel
theorem dX3_init_55 : decode cX3_init 55 = .ok (.iload_n 1, 1) := by decide +kernel
theorem dX3_init_56 : decode cX3_init 56 = .ok (.iconst 4, 1) := by decide +kernel
theorem dX3_init_57 : decode cX3_init 57 = .ok (.if_icmp .ge 17, 3) := by decide +kernel
theorem dX3_init_60 : decode cX3_init 60 = .ok (.aload_n 0, 1) := by decide +kernel
theorem dX3_init_61 : decode cX3_init 61 = .ok (.getfield 9, 3) := by decide +kernel
theorem dX3_init_64 : decode cX3_init 64 = .ok (.iload_n 1, 1) := by decide +kernel
theorem dX3_init_65 : decode cX3_init 65 = .ok (.bipush 10, 2) := by decide +kernel
theorem dX3_init_67 : decode cX3_init 67 = .ok (.iastore, 1) := by decide +kernel
theorem dX3_init_68 : decode cX3_init 68 = .ok (.iinc 1 1, 3) := by decide +kernel
theorem dX3_init_71 : decode cX3_init 71 = .ok (.goto (-16), 3) := by decide +kernel
theorem dX3_init_74 : decode cX3_init 74 = .ok (.iconst 0, 1) := by decide +kernel
theorem dX3_init_75 : decode cX3_init 75 = .ok (.istore_n 1, 1) := by decide +kernel
theorem dX3_init_76 : decode cX3_init 76 = .ok (.iload_n 1, 1) := by decide +kernel
theorem dX3_init_77 : decode cX3_init 77 = .ok (.bipush 60, 2) := by decide +kernel
theorem dX3_init_79 : decode cX3_init 79 = .ok (.if_icmp .ge 22, 3) := by decide +kernel
theorem dX3_init_82 : decode cX3_init 82 = .ok (.aload_n 0, 1) := by decide +kernel
theorem dX3_init_83 : decode cX3_init 83 = .ok (.getfield 15, 3) := by decide +kernel
theorem dX3_init_86 : decode cX3_init 86 = .ok (.iload_n 1, 1) := by decide +kernel
theorem dX3_init_87 : decode cX3_init 87 = .ok (.new 13, 3) := by decide +kernel
theorem dX3_init_90 : decode cX3_init 90 = .ok (.dup, 1) := by decide +kernel
theorem dX3_init_91 : decode cX3_init 91 = .ok (.invokespecial 41, 3) := by decide +kernel
theorem dX3_init_94 : decode cX3_init 94 = .ok (.aastore, 1) := by decide +kernel
theorem dX3_init_95 : decode cX3_init 95 = .ok (.iinc 1 1, 3) := by decide +kernel
theorem dX3_init_98 : decode cX3_init 98 = .ok (.goto (-22), 3) := by decide +kernel
theorem dX3_init_101 : decode cX3_init 101 = .ok (.iconst 0, 1) := by decide +kernel
theorem dX3_init_102 : decode cX3_init 102 = .ok (.istore_n 1, 1) := by decide +kernel
theorem dX3_init_103 : decode cX3_init 103 = .ok (.iload_n 1, 1) := by decide +kernel
theorem dX3_init_104 : decode cX3_init 104 = .ok (.bipush 20, 2) := by decide +kernel
theorem dX3_init_106 : decode cX3_init 106 = .ok (.if_icmp .ge 22, 3) := by decide +kernel
theorem dX3_init_109 : decode cX3_init 109 = .ok (.aload_n 0, 1) := by decide +kernel
theorem dX3_init_110 : decode cX3_init 110 = .ok (.getfield 21, 3) := by decide +kernel
theorem dX3_init_113 : decode cX3_init 113 = .ok (.iload_n 1, 1) := by decide +kernel
theorem dX3_init_114 : decode cX3_init 114 = .ok (.new 19, 3) := by decide +kernel
theorem dX3_init_117 : decode cX3_init 117 = .ok (.dup, 1) := by decide +kernel
theorem dX3_init_118 : decode cX3_init 118 = .ok (.invokespecial 42, 3) := by decide +kernel
theorem dX3_init_121 : decode cX3_init 121 = .ok (.aastore, 1) := by decide +kernel
theorem dX3_init_122 : decode cX3_init 122 = .ok (.iinc 1 1, 3) := by decide +kernel
theorem dX3_init_125 : decode cX3_init 125 = .ok (.goto (-22), 3) := by decide +kernel
theorem dX3_init_128 : decode cX3_init 128 = .ok (.iconst 0, 1) := by decide +kernel
theorem dX3_init_129 : decode cX3_init 129 = .ok (.istore_n 1, 1) := by decide +kernel
theorem dX3_init_130 : decode cX3_init 130 = .ok (.iload_n 1, 1) := by decide +kernel
theorem dX3_init_131 : decode cX3_init 131 = .ok (.bipush 10, 2) := by decide +kernel
theorem dX3_init_133 : decode cX3_init 133 = .ok (.if_icmp .ge 22, 3) := by decide +kernel
theorem dX3_init_136 : decode cX3_init 136 = .ok (.aload_n 0, 1) := by decide +kernel
theorem dX3_init_137 : decode cX3_init 137 = .ok (.getfield 27, 3) := by decide +kernel
theorem dX3_init_140 : decode cX3_init 140 = .ok (.iload_n 1, 1) := by decide +kernel
theorem dX3_init_141 : decode cX3_init 141 = .ok (.new 25, 3) := by decide +kernel
theorem dX3_init_144 : decode cX3_init 144 = .ok (.dup, 1) := by decide +kernel
theorem dX3_init_145 : decode cX3_init 145 = .ok (.invokespecial 43, 3) := by decide +kernel
theorem dX3_init_148 : decode cX3_init 148 = .ok (.aastore, 1) := by decide +kernel
theorem dX3_init_149 : decode cX3_init 149 = .ok (.iinc 1 1, 3) := by decide +kernel
theorem dX3_init_152 : decode cX3_init 152 = .ok (.goto (-22), 3) := by decide +kernel
theorem dX3_init_155 : decode cX3_init 155 = .ok (.return_, 1) := by decide +kernel
theorem dX3_rate_0 : decode cX3_rate 0 = .ok (.aload_n 0, 1) := by decide +kernel
theorem dX3_rate_1 : decode cX3_rate 1 = .ok (.iload_n 1, 1) := by decide +kernel
theorem dX3_rate_2 : decode cX3_rate 2 = .ok (.invokevirtual 44, 3) := by decide +kernel
theorem dX3_rate_5 : decode cX3_rate 5 = .ok (.iload_n 2, 1) := by decide +kernel
theorem dX3_rate_6 : decode cX3_rate 6 = .ok (.ifCond .lt 9, 3) := by decide +kernel
theorem dX3_rate_9 : decode cX3_rate 9 = .ok (.iload_n 2, 1) := by decide +kernel
theorem dX3_rate_10 : decode cX3_rate 10 = .ok (.bipush 50, 2) := by decide +kernel
theorem dX3_rate_12 : decode cX3_rate 12 = .ok (.if_icmp .le 13, 3) := by decide +kernel
theorem dX3_rate_15 : decode cX3_rate 15 = .ok (.new 48, 3) := by decide +kernel
theorem dX3_rate_18 : decode cX3_rate 18 = .ok (.dup, 1) := by decide +kernel
theorem dX3_rate_19 : decode cX3_rate 19 = .ok (.ldc 50, 2) := by decide +kernel
theorem dX3_rate_21 : decode cX3_rate 21 = .ok (.invokespecial 52, 3) := by decide +kernel
theorem dX3_rate_24 : decode cX3_rate 24 = .ok (.athrow, 1) := by decide +kernel
theorem dX3_rate_25 : decode cX3_rate 25 = .ok (.aload_n 0, 1) := by decide +kernel
theorem dX3_rate_26 : decode cX3_rate 26 = .ok (.getfield 9, 3) := by decide +kernel
theorem dX3_rate_29 : decode cX3_rate 29 = .ok (.iload_n 1, 1) := by decide +kernel
theorem dX3_rate_30 : decode cX3_rate 30 = .ok (.iaload, 1) := by decide +kernel
theorem dX3_rate_31 : decode cX3_rate 31 = .ok (.istore_n 3, 1) := by decide +kernel
theorem dX3_rate_32 : decode cX3_rate 32 = .ok (.aload_n 0, 1) := by decide +kernel
theorem dX3_rate_33 : decode cX3_rate 33 = .ok (.getfield 9, 3) := by decide +kernel
theorem dX3_rate_36 : decode cX3_rate 36 = .ok (.iload_n 1, 1) := by decide +kernel
theorem dX3_rate_37 : decode cX3_rate 37 = .ok (.iload_n 2, 1) := by decide +kernel
theorem dX3_rate_38 : decode cX3_rate 38 = .ok (.iastore, 1) := by decide +kernel
theorem dX3_rate_39 : decode cX3_rate 39 = .ok (.iload_n 3, 1) := by decide +kernel
theorem dX3_rate_40 : decode cX3_rate 40 = .ok (.ireturn, 1) := by decide +kernel
theorem dX3_buy_0 : decode cX3_buy 0 = .ok (.aload_n 0, 1) := by decide +kernel
theorem dX3_buy_1 : decode cX3_buy 1 = .ok (.iload_n 1, 1) := by decide +kernel
theorem dX3_buy_2 : decode cX3_buy 2 = .ok (.invokevirtual 55, 3) := by decide +kernel
theorem dX3_buy_5 : decode cX3_buy 5 = .ok (.aload_n 0, 1) := by decide +kernel
theorem dX3_buy_6 : decode cX3_buy 6 = .ok (.iload_n 2, 1) := by decide +kernel
theorem dX3_buy_7 : decode cX3_buy 7 = .ok (.invokevirtual 58, 3) := by decide +kernel
theorem dX3_buy_10 : decode cX3_buy 10 = .ok (.astore 5, 2) := by decide +kernel
theorem dX3_buy_12 : decode cX3_buy 12 = .ok (.aload_n 0, 1) := by decide +kernel
theorem dX3_buy_13 : decode cX3_buy 13 = .ok (.iload_n 3, 1) := by decide +kernel
theorem dX3_buy_14 : decode cX3_buy 14 = .ok (.invokevirtual 44, 3) := by decide +kernel
theorem dX3_buy_17 : decode cX3_buy 17 = .ok (.iload 4, 2) := by decide +kernel
theorem dX3_buy_19 : decode cX3_buy 19 = .ok (.iconst 1, 1) := by decide +kernel
theorem dX3_buy_20 : decode cX3_buy 20 = .ok (.if_icmp .lt 11, 3) := by decide +kernel
theorem dX3_buy_23 : decode cX3_buy 23 = .ok (.iload 4, 2) := by decide +kernel
theorem dX3_buy_25 : decode cX3_buy 25 = .ok (.sipush 10000, 3) := by decide +kernel
theorem dX3_buy_28 : decode cX3_buy 28 = .ok (.if_icmp .le 13, 3) := by decide +kernel
theorem dX3_buy_31 : decode cX3_buy 31 = .ok (.new 48, 3) := by decide +kernel
theorem dX3_buy_34 : decode cX3_buy 34 = .ok (.dup, 1) := by decide +kernel
theorem dX3_buy_35 : decode cX3_buy 35 = .ok (.ldc 62, 2) := by decide +kernel
theorem dX3_buy_37 : decode cX3_buy 37 = .ok (.invokespecial 52, 3) := by decide +kernel
theorem dX3_buy_40 : decode cX3_buy 40 = .ok (.athrow, 1) := by decide +kernel
theorem dX3_buy_41 : decode cX3_buy 41 = .ok (.aload_n 0, 1) := by decide +kernel
theorem dX3_buy_42 : decode cX3_buy 42 = .ok (.aload 5, 2) := by decide +kernel
theorem dX3_buy_44 : decode cX3_buy 44 = .ok (.invokevirtual 64, 3) := by decide +kernel
theorem dX3_buy_47 : decode cX3_buy 47 = .ok (.aload_n 0, 1) := by decide +kernel
theorem dX3_buy_48 : decode cX3_buy 48 = .ok (.getfield 31, 3) := by decide +kernel
theorem dX3_buy_51 : decode cX3_buy 51 = .ok (.bipush 60, 2) := by decide +kernel
theorem dX3_buy_53 : decode cX3_buy 53 = .ok (.if_icmp .lt 13, 3) := by decide +kernel
theorem dX3_buy_56 : decode cX3_buy 56 = .ok (.new 68, 3) := by decide +kernel
theorem dX3_buy_59 : decode cX3_buy 59 = .ok (.dup, 1) := by decide +kernel
theorem dX3_buy_60 : decode cX3_buy 60 = .ok (.ldc 70, 2) := by decide +kernel
theorem dX3_buy_62 : decode cX3_buy 62 = .ok (.invokespecial 72, 3) := by decide +kernel
theorem dX3_buy_65 : decode cX3_buy 65 = .ok (.athrow, 1) := by decide +kernel
theorem dX3_buy_66 : decode cX3_buy 66 = .ok (.aload_n 0, 1) := by decide +kernel
theorem dX3_buy_67 : decode cX3_buy 67 = .ok (.getfield 15, 3) := by decide +kernel
theorem dX3_buy_70 : decode cX3_buy 70 = .ok (.aload_n 0, 1) := by decide +kernel
theorem dX3_buy_71 : decode cX3_buy 71 = .ok (.getfield 31, 3) := by decide +kernel
theorem dX3_buy_74 : decode cX3_buy 74 = .ok (.aaload, 1) := by decide +kernel
theorem dX3_buy_75 : decode cX3_buy 75 = .ok (.astore 6, 2) := by decide +kernel
theorem dX3_buy_77 : decode cX3_buy 77 = .ok (.aload 6, 2) := by decide +kernel
theorem dX3_buy_79 : decode cX3_buy 79 = .ok (.iload_n 1, 1) := by decide +kernel
theorem dX3_buy_80 : decode cX3_buy 80 = .ok (.putfield 73, 3) := by decide +kernel
theorem dX3_buy_83 : decode cX3_buy 83 = .ok (.aload 6, 2) := by decide +kernel
theorem dX3_buy_85 : decode cX3_buy 85 = .ok (.iload_n 2, 1) := by decide +kernel
theorem dX3_buy_86 : decode cX3_buy 86 = .ok (.putfield 76, 3) := by decide +kernel
theorem dX3_buy_89 : decode cX3_buy 89 = .ok (.aload 6, 2) := by decide +kernel
theorem dX3_buy_91 : decode cX3_buy 91 = .ok (.iload 4, 2) := by decide +kernel
theorem dX3_buy_93 : decode cX3_buy 93 = .ok (.putfield 79, 3) := by decide +kernel
theorem dX3_buy_96 : decode cX3_buy 96 = .ok (.aload 6, 2) := by decide +kernel
theorem dX3_buy_98 : decode cX3_buy 98 = .ok (.iload 4, 2) := by decide +kernel
theorem dX3_buy_100 : decode cX3_buy 100 = .ok (.aload_n 0, 1) := by decide +kernel
theorem dX3_buy_101 : decode cX3_buy 101 = .ok (.getfield 9, 3) := by decide +kernel
theorem dX3_buy_104 : decode cX3_buy 104 = .ok (.iload_n 3, 1) := by decide +kernel
theorem dX3_buy_105 : decode cX3_buy 105 = .ok (.iaload, 1) := by decide +kernel
theorem dX3_buy_106 : decode cX3_buy 106 = .ok (.imul, 1) := by decide +kernel
theorem dX3_buy_107 : decode cX3_buy 107 = .ok (.bipush 100, 2) := by decide +kernel
theorem dX3_buy_109 : decode cX3_buy 109 = .ok (.idiv, 1) := by decide +kernel
theorem dX3_buy_110 : decode cX3_buy 110 = .ok (.putfield 82, 3) := by decide +kernel
theorem dX3_buy_113 : decode cX3_buy 113 = .ok (.aload 6, 2) := by decide +kernel
theorem dX3_buy_115 : decode cX3_buy 115 = .ok (.aload_n 0, 1) := by decide +kernel
theorem dX3_buy_116 : decode cX3_buy 116 = .ok (.getfield 38, 3) := by decide +kernel
theorem dX3_buy_119 : decode cX3_buy 119 = .ok (.putfield 85, 3) := by decide +kernel
theorem dX3_buy_122 : decode cX3_buy 122 = .ok (.aload 6, 2) := by decide +kernel
theorem dX3_buy_124 : decode cX3_buy 124 = .ok (.iconst 0, 1) := by decide +kernel
theorem dX3_buy_125 : decode cX3_buy 125 = .ok (.putfield 88, 3) := by decide +kernel
theorem dX3_buy_128 : decode cX3_buy 128 = .ok (.aload 6, 2) := by decide +kernel
theorem dX3_buy_130 : decode cX3_buy 130 = .ok (.iconst (-1), 1) := by decide +kernel
theorem dX3_buy_131 : decode cX3_buy 131 = .ok (.putfield 91, 3) := by decide +kernel
theorem dX3_buy_134 : decode cX3_buy 134 = .ok (.aload_n 0, 1) := by decide +kernel
theorem dX3_buy_135 : decode cX3_buy 135 = .ok (.dup, 1) := by decide +kernel
theorem dX3_buy_136 : decode cX3_buy 136 = .ok (.getfield 31, 3) := by decide +kernel
theorem dX3_buy_139 : decode cX3_buy 139 = .ok (.iconst 1, 1) := by decide +kernel
theorem dX3_buy_140 : decode cX3_buy 140 = .ok (.iadd, 1) := by decide +kernel
theorem dX3_buy_141 : decode cX3_buy 141 = .ok (.putfield 31, 3) := by decide +kernel
theorem dX3_buy_144 : decode cX3_buy 144 = .ok (.aload_n 0, 1) := by decide +kernel
theorem dX3_buy_145 : decode cX3_buy 145 = .ok (.getfield 31, 3) := by decide +kernel
theorem dX3_buy_148 : decode cX3_buy 148 = .ok (.iconst 1, 1) := by decide +kernel
theorem dX3_buy_149 : decode cX3_buy 149 = .ok (.isub, 1) := by decide +kernel
theorem dX3_buy_150 : decode cX3_buy 150 = .ok (.ireturn, 1) := by decide +kernel
theorem dX3_giveBack_0 : decode cX3_giveBack 0 = .ok (.aload_n 0, 1) := by decide +kernel
theorem dX3_giveBack_1 : decode cX3_giveBack 1 = .ok (.iload_n 1, 1) := by decide +kernel
theorem dX3_giveBack_2 : decode cX3_giveBack 2 = .ok (.invokevirtual 94, 3) := by decide +kernel
theorem dX3_giveBack_5 : decode cX3_giveBack 5 = .ok (.astore_n 2, 1) := by decide +kernel
theorem dX3_giveBack_6 : decode cX3_giveBack 6 = .ok (.aload_n 0, 1) := by decide +kernel
theorem dX3_giveBack_7 : decode cX3_giveBack 7 = .ok (.aload_n 2, 1) := by decide +kernel
theorem dX3_giveBack_8 : decode cX3_giveBack 8 = .ok (.invokevirtual 98, 3) := by decide +kernel
theorem dX3_giveBack_11 : decode cX3_giveBack 11 = .ok (.aload_n 0, 1) := by decide +kernel
theorem dX3_giveBack_12 : decode cX3_giveBack 12 = .ok (.getfield 38, 3) := by decide +kernel
theorem dX3_giveBack_15 : decode cX3_giveBack 15 = .ok (.aload_n 2, 1) := by decide +kernel
theorem dX3_giveBack_16 : decode cX3_giveBack 16 = .ok (.getfield 85, 3) := by decide +kernel
theorem dX3_giveBack_19 : decode cX3_giveBack 19 = .ok (.isub, 1) := by decide +kernel
theorem dX3_giveBack_20 : decode cX3_giveBack 20 = .ok (.sipush 240, 3) := by decide +kernel
theorem dX3_giveBack_23 : decode cX3_giveBack 23 = .ok (.if_icmp .le 13, 3) := by decide +kernel
theorem dX3_giveBack_26 : decode cX3_giveBack 26 = .ok (.new 68, 3) := by decide +kernel
theorem dX3_giveBack_29 : decode cX3_giveBack 29 = .ok (.dup, 1) := by decide +kernel
theorem dX3_giveBack_30 : decode cX3_giveBack 30 = .ok (.ldc 102, 2) := by decide +kernel
theorem dX3_giveBack_32 : decode cX3_giveBack 32 = .ok (.invokespecial 72, 3) := by decide +kernel
theorem dX3_giveBack_35 : decode cX3_giveBack 35 = .ok (.athrow, 1) := by decide +kernel
theorem dX3_giveBack_36 : decode cX3_giveBack 36 = .ok (.aload_n 0, 1) := by decide +kernel
theorem dX3_giveBack_37 : decode cX3_giveBack 37 = .ok (.aload_n 0, 1) := by decide +kernel
theorem dX3_giveBack_38 : decode cX3_giveBack 38 = .ok (.aload_n 2, 1) := by decide +kernel
theorem dX3_giveBack_39 : decode cX3_giveBack 39 = .ok (.getfield 76, 3) := by decide +kernel
theorem dX3_giveBack_42 : decode cX3_giveBack 42 = .ok (.invokevirtual 58, 3) := by decide +kernel
theorem dX3_giveBack_45 : decode cX3_giveBack 45 = .ok (.invokevirtual 64, 3) := by decide +kernel
theorem dX3_giveBack_48 : decode cX3_giveBack 48 = .ok (.aload_n 2, 1) := by decide +kernel
theorem dX3_giveBack_49 : decode cX3_giveBack 49 = .ok (.iconst 4, 1) := by decide +kernel
theorem dX3_giveBack_50 : decode cX3_giveBack 50 = .ok (.putfield 88, 3) := by decide +kernel
theorem dX3_giveBack_53 : decode cX3_giveBack 53 = .ok (.aload_n 2, 1) := by decide +kernel
theorem dX3_giveBack_54 : decode cX3_giveBack 54 = .ok (.getfield 79, 3) := by decide +kernel
theorem dX3_giveBack_57 : decode cX3_giveBack 57 = .ok (.aload_n 2, 1) := by decide +kernel
theorem dX3_giveBack_58 : decode cX3_giveBack 58 = .ok (.getfield 82, 3) := by decide +kernel
theorem dX3_giveBack_61 : decode cX3_giveBack 61 = .ok (.iadd, 1) := by decide +kernel
theorem dX3_giveBack_62 : decode cX3_giveBack 62 = .ok (.ireturn, 1) := by decide +kernel
theorem dX3_ferry_0 : decode cX3_ferry 0 = .ok (.iload_n 1, 1) := by decide +kernel
theorem dX3_ferry_1 : decode cX3_ferry 1 = .ok (.aload_n 0, 1) := by decide +kernel
theorem dX3_ferry_2 : decode cX3_ferry 2 = .ok (.getfield 38, 3) := by decide +kernel
theorem dX3_ferry_5 : decode cX3_ferry 5 = .ok (.if_icmp .le 10, 3) := by decide +kernel
theorem dX3_ferry_8 : decode cX3_ferry 8 = .ok (.iload_n 1, 1) := by decide +kernel
theorem dX3_ferry_9 : decode cX3_ferry 9 = .ok (.sipush 10000, 3) := by decide +kernel
theorem dX3_ferry_12 : decode cX3_ferry 12 = .ok (.if_icmp .le 13, 3) := by decide +kernel
theorem dX3_ferry_15 : decode cX3_ferry 15 = .ok (.new 48, 3) := by decide +kernel
theorem dX3_ferry_18 : decode cX3_ferry 18 = .ok (.dup, 1) := by decide +kernel
theorem dX3_ferry_19 : decode cX3_ferry 19 = .ok (.ldc 104, 2) := by decide +kernel
theorem dX3_ferry_21 : decode cX3_ferry 21 = .ok (.invokespecial 52, 3) := by decide +kernel
theorem dX3_ferry_24 : decode cX3_ferry 24 = .ok (.athrow, 1) := by decide +kernel
theorem dX3_ferry_25 : decode cX3_ferry 25 = .ok (.iload_n 2, 1) := by decide +kernel
theorem dX3_ferry_26 : decode cX3_ferry 26 = .ok (.iconst 1, 1) := by decide +kernel
theorem dX3_ferry_27 : decode cX3_ferry 27 = .ok (.if_icmp .lt 9, 3) := by decide +kernel
theorem dX3_ferry_30 : decode cX3_ferry 30 = .ok (.iload_n 2, 1) := by decide +kernel
theorem dX3_ferry_31 : decode cX3_ferry 31 = .ok (.bipush 10, 2) := by decide +kernel
theorem dX3_ferry_33 : decode cX3_ferry 33 = .ok (.if_icmp .le 13, 3) := by decide +kernel
theorem dX3_ferry_36 : decode cX3_ferry 36 = .ok (.new 48, 3) := by decide +kernel
theorem dX3_ferry_39 : decode cX3_ferry 39 = .ok (.dup, 1) := by decide +kernel
theorem dX3_ferry_40 : decode cX3_ferry 40 = .ok (.ldc 106, 2) := by decide +kernel
theorem dX3_ferry_42 : decode cX3_ferry 42 = .ok (.invokespecial 52, 3) := by decide +kernel
theorem dX3_ferry_45 : decode cX3_ferry 45 = .ok (.athrow, 1) := by decide +kernel
theorem dX3_ferry_46 : decode cX3_ferry 46 = .ok (.aload_n 0, 1) := by decide +kernel
theorem dX3_ferry_47 : decode cX3_ferry 47 = .ok (.getfield 35, 3) := by decide +kernel
theorem dX3_ferry_50 : decode cX3_ferry 50 = .ok (.bipush 20, 2) := by decide +kernel
theorem dX3_ferry_52 : decode cX3_ferry 52 = .ok (.if_icmp .lt 13, 3) := by decide +kernel
theorem dX3_ferry_55 : decode cX3_ferry 55 = .ok (.new 68, 3) := by decide +kernel
theorem dX3_ferry_58 : decode cX3_ferry 58 = .ok (.dup, 1) := by decide +kernel
theorem dX3_ferry_59 : decode cX3_ferry 59 = .ok (.ldc 108, 2) := by decide +kernel
theorem dX3_ferry_61 : decode cX3_ferry 61 = .ok (.invokespecial 72, 3) := by decide +kernel
theorem dX3_ferry_64 : decode cX3_ferry 64 = .ok (.athrow, 1) := by decide +kernel
theorem dX3_ferry_65 : decode cX3_ferry 65 = .ok (.aload_n 0, 1) := by decide +kernel
theorem dX3_ferry_66 : decode cX3_ferry 66 = .ok (.getfield 21, 3) := by decide +kernel
theorem dX3_ferry_69 : decode cX3_ferry 69 = .ok (.aload_n 0, 1) := by decide +kernel
theorem dX3_ferry_70 : decode cX3_ferry 70 = .ok (.getfield 35, 3) := by decide +kernel
theorem dX3_ferry_73 : decode cX3_ferry 73 = .ok (.aaload, 1) := by decide +kernel
theorem dX3_ferry_74 : decode cX3_ferry 74 = .ok (.astore_n 3, 1) := by decide +kernel
theorem dX3_ferry_75 : decode cX3_ferry 75 = .ok (.aload_n 3, 1) := by decide +kernel
theorem dX3_ferry_76 : decode cX3_ferry 76 = .ok (.iload_n 1, 1) := by decide +kernel
theorem dX3_ferry_77 : decode cX3_ferry 77 = .ok (.putfield 110, 3) := by decide +kernel
theorem dX3_ferry_80 : decode cX3_ferry 80 = .ok (.aload_n 3, 1) := by decide +kernel
theorem dX3_ferry_81 : decode cX3_ferry 81 = .ok (.iload_n 2, 1) := by decide +kernel
theorem dX3_ferry_82 : decode cX3_ferry 82 = .ok (.putfield 113, 3) := by decide +kernel
theorem dX3_ferry_85 : decode cX3_ferry 85 = .ok (.aload_n 0, 1) := by decide +kernel
theorem dX3_ferry_86 : decode cX3_ferry 86 = .ok (.dup, 1) := by decide +kernel
theorem dX3_ferry_87 : decode cX3_ferry 87 = .ok (.getfield 35, 3) := by decide +kernel
theorem dX3_ferry_90 : decode cX3_ferry 90 = .ok (.iconst 1, 1) := by decide +kernel
theorem dX3_ferry_91 : decode cX3_ferry 91 = .ok (.iadd, 1) := by decide +kernel
theorem dX3_ferry_92 : decode cX3_ferry 92 = .ok (.putfield 35, 3) := by decide +kernel
theorem dX3_ferry_95 : decode cX3_ferry 95 = .ok (.aload_n 0, 1) := by decide +kernel
theorem dX3_ferry_96 : decode cX3_ferry 96 = .ok (.getfield 35, 3) := by decide +kernel
theorem dX3_ferry_99 : decode cX3_ferry 99 = .ok (.iconst 1, 1) := by decide +kernel
theorem dX3_ferry_100 : decode cX3_ferry 100 = .ok (.isub, 1) := by decide +kernel
theorem dX3_ferry_101 : decode cX3_ferry 101 = .ok (.ireturn, 1) := by decide +kernel
theorem dX3_seat_0 : decode cX3_seat 0 = .ok (.aload_n 0, 1) := by decide +kernel
theorem dX3_seat_1 : decode cX3_seat 1 = .ok (.iload_n 1, 1) := by decide +kernel
theorem dX3_seat_2 : decode cX3_seat 2 = .ok (.invokevirtual 58, 3) := by decide +kernel
theorem dX3_seat_5 : decode cX3_seat 5 = .ok (.astore_n 3, 1) := by decide +kernel
theorem dX3_seat_6 : decode cX3_seat 6 = .ok (.aload_n 0, 1) := by decide +kernel
theorem dX3_seat_7 : decode cX3_seat 7 = .ok (.iload_n 2, 1) := by decide +kernel
theorem dX3_seat_8 : decode cX3_seat 8 = .ok (.invokevirtual 116, 3) := by decide +kernel
theorem dX3_seat_11 : decode cX3_seat 11 = .ok (.astore 4, 2) := by decide +kernel
theorem dX3_seat_13 : decode cX3_seat 13 = .ok (.aload_n 0, 1) := by decide +kernel
theorem dX3_seat_14 : decode cX3_seat 14 = .ok (.aload 4, 2) := by decide +kernel
theorem dX3_seat_16 : decode cX3_seat 16 = .ok (.invokevirtual 120, 3) := by decide +kernel
theorem dX3_seat_19 : decode cX3_seat 19 = .ok (.aload_n 0, 1) := by decide +kernel
theorem dX3_seat_20 : decode cX3_seat 20 = .ok (.aload_n 3, 1) := by decide +kernel
theorem dX3_seat_21 : decode cX3_seat 21 = .ok (.invokevirtual 64, 3) := by decide +kernel
theorem dX3_seat_24 : decode cX3_seat 24 = .ok (.aload 4, 2) := by decide +kernel
theorem dX3_seat_26 : decode cX3_seat 26 = .ok (.getfield 124, 3) := by decide +kernel
theorem dX3_seat_29 : decode cX3_seat 29 = .ok (.iload_n 1, 1) := by decide +kernel
theorem dX3_seat_30 : decode cX3_seat 30 = .ok (.iaload, 1) := by decide +kernel
theorem dX3_seat_31 : decode cX3_seat 31 = .ok (.ifCond .eq 13, 3) := by decide +kernel
theorem dX3_seat_34 : decode cX3_seat 34 = .ok (.new 68, 3) := by decide +kernel
theorem dX3_seat_37 : decode cX3_seat 37 = .ok (.dup, 1) := by decide +kernel
theorem dX3_seat_38 : decode cX3_seat 38 = .ok (.ldc 127, 2) := by decide +kernel
theorem dX3_seat_40 : decode cX3_seat 40 = .ok (.invokespecial 72, 3) := by decide +kernel
theorem dX3_seat_43 : decode cX3_seat 43 = .ok (.athrow, 1) := by decide +kernel
theorem dX3_seat_44 : decode cX3_seat 44 = .ok (.aload_n 0, 1) := by decide +kernel
theorem dX3_seat_45 : decode cX3_seat 45 = .ok (.aload 4, 2) := by decide +kernel
theorem dX3_seat_47 : decode cX3_seat 47 = .ok (.invokevirtual 129, 3) := by decide +kernel
theorem dX3_seat_50 : decode cX3_seat 50 = .ok (.iconst 1, 1) := by decide +kernel
theorem dX3_seat_51 : decode cX3_seat 51 = .ok (.if_icmp .ge 13, 3) := by decide +kernel
theorem dX3_seat_54 : decode cX3_seat 54 = .ok (.new 68, 3) := by decide +kernel
theorem dX3_seat_57 : decode cX3_seat 57 = .ok (.dup, 1) := by decide +kernel
theorem dX3_seat_58 : decode cX3_seat 58 = .ok (.ldc 133, 2) := by decide +kernel
theorem dX3_seat_60 : decode cX3_seat 60 = .ok (.invokespecial 72, 3) := by decide +kernel
theorem dX3_seat_63 : decode cX3_seat 63 = .ok (.athrow, 1) := by decide +kernel
theorem dX3_seat_64 : decode cX3_seat 64 = .ok (.aload 4, 2) := by decide +kernel
theorem dX3_seat_66 : decode cX3_seat 66 = .ok (.getfield 124, 3) := by decide +kernel
theorem dX3_seat_69 : decode cX3_seat 69 = .ok (.iload_n 1, 1) := by decide +kernel
theorem dX3_seat_70 : decode cX3_seat 70 = .ok (.iconst 1, 1) := by decide +kernel
theorem dX3_seat_71 : decode cX3_seat 71 = .ok (.iastore, 1) := by decide +kernel
theorem dX3_seat_72 : decode cX3_seat 72 = .ok (.aload_n 0, 1) := by decide +kernel
theorem dX3_seat_73 : decode cX3_seat 73 = .ok (.aload 4, 2) := by decide +kernel
theorem dX3_seat_75 : decode cX3_seat 75 = .ok (.invokevirtual 129, 3) := by decide +kernel
theorem dX3_seat_78 : decode cX3_seat 78 = .ok (.ireturn, 1) := by decide +kernel
theorem dX3_leaveSeat_0 : decode cX3_leaveSeat 0 = .ok (.aload_n 0, 1) := by decide +kernel
theorem dX3_leaveSeat_1 : decode cX3_leaveSeat 1 = .ok (.iload_n 1, 1) := by decide +kernel
theorem dX3_leaveSeat_2 : decode cX3_leaveSeat 2 = .ok (.invokevirtual 135, 3) := by decide +kernel
theorem dX3_leaveSeat_5 : decode cX3_leaveSeat 5 = .ok (.aload_n 0, 1) := by decide +kernel
theorem dX3_leaveSeat_6 : decode cX3_leaveSeat 6 = .ok (.iload_n 2, 1) := by decide +kernel
theorem dX3_leaveSeat_7 : decode cX3_leaveSeat 7 = .ok (.invokevirtual 116, 3) := by decide +kernel
theorem dX3_leaveSeat_10 : decode cX3_leaveSeat 10 = .ok (.astore_n 3, 1) := by decide +kernel
theorem dX3_leaveSeat_11 : decode cX3_leaveSeat 11 = .ok (.aload_n 0, 1) := by decide +kernel
theorem dX3_leaveSeat_12 : decode cX3_leaveSeat 12 = .ok (.aload_n 3, 1) := by decide +kernel
theorem dX3_leaveSeat_13 : decode cX3_leaveSeat 13 = .ok (.invokevirtual 120, 3) := by decide +kernel
theorem dX3_leaveSeat_16 : decode cX3_leaveSeat 16 = .ok (.aload_n 0, 1) := by decide +kernel
theorem dX3_leaveSeat_17 : decode cX3_leaveSeat 17 = .ok (.aload_n 3, 1) := by decide +kernel
theorem dX3_leaveSeat_18 : decode cX3_leaveSeat 18 = .ok (.iload_n 1, 1) := by decide +kernel
theorem dX3_leaveSeat_19 : decode cX3_leaveSeat 19 = .ok (.invokevirtual 138, 3) := by decide +kernel
theorem dX3_leaveSeat_22 : decode cX3_leaveSeat 22 = .ok (.aload_n 3, 1) := by decide +kernel
theorem dX3_leaveSeat_23 : decode cX3_leaveSeat 23 = .ok (.getfield 124, 3) := by decide +kernel
theorem dX3_leaveSeat_26 : decode cX3_leaveSeat 26 = .ok (.iload_n 1, 1) := by decide +kernel
theorem dX3_leaveSeat_27 : decode cX3_leaveSeat 27 = .ok (.iconst 0, 1) := by decide +kernel
theorem dX3_leaveSeat_28 : decode cX3_leaveSeat 28 = .ok (.iastore, 1) := by decide +kernel
theorem dX3_leaveSeat_29 : decode cX3_leaveSeat 29 = .ok (.aload_n 0, 1) := by decide +kernel
theorem dX3_leaveSeat_30 : decode cX3_leaveSeat 30 = .ok (.iload_n 1, 1) := by decide +kernel
theorem dX3_leaveSeat_31 : decode cX3_leaveSeat 31 = .ok (.iload_n 2, 1) := by decide +kernel
theorem dX3_leaveSeat_32 : decode cX3_leaveSeat 32 = .ok (.invokevirtual 142, 3) := by decide +kernel
theorem dX3_leaveSeat_35 : decode cX3_leaveSeat 35 = .ok (.ireturn, 1) := by decide +kernel
theorem dX3_aboard_0 : decode cX3_aboard 0 = .ok (.aload_n 0, 1) := by decide +kernel
theorem dX3_aboard_1 : decode cX3_aboard 1 = .ok (.iload_n 1, 1) := by decide +kernel
theorem dX3_aboard_2 : decode cX3_aboard 2 = .ok (.invokevirtual 58, 3) := by decide +kernel
theorem dX3_aboard_5 : decode cX3_aboard 5 = .ok (.astore_n 3, 1) := by decide +kernel
theorem dX3_aboard_6 : decode cX3_aboard 6 = .ok (.aload_n 0, 1) := by decide +kernel
theorem dX3_aboard_7 : decode cX3_aboard 7 = .ok (.iload_n 2, 1) := by decide +kernel
theorem dX3_aboard_8 : decode cX3_aboard 8 = .ok (.invokevirtual 116, 3) := by decide +kernel
theorem dX3_aboard_11 : decode cX3_aboard 11 = .ok (.astore 4, 2) := by decide +kernel
theorem dX3_aboard_13 : decode cX3_aboard 13 = .ok (.aload_n 0, 1) := by decide +kernel
theorem dX3_aboard_14 : decode cX3_aboard 14 = .ok (.aload 4, 2) := by decide +kernel
theorem dX3_aboard_16 : decode cX3_aboard 16 = .ok (.iload_n 1, 1) := by decide +kernel
theorem dX3_aboard_17 : decode cX3_aboard 17 = .ok (.invokevirtual 138, 3) := by decide +kernel
theorem dX3_aboard_20 : decode cX3_aboard 20 = .ok (.aload_n 0, 1) := by decide +kernel
theorem dX3_aboard_21 : decode cX3_aboard 21 = .ok (.aload_n 3, 1) := by decide +kernel
theorem dX3_aboard_22 : decode cX3_aboard 22 = .ok (.invokevirtual 64, 3) := by decide +kernel
theorem dX3_aboard_25 : decode cX3_aboard 25 = .ok (.aload_n 0, 1) := by decide +kernel
theorem dX3_aboard_26 : decode cX3_aboard 26 = .ok (.aload 4, 2) := by decide +kernel
theorem dX3_aboard_28 : decode cX3_aboard 28 = .ok (.iconst 3, 1) := by decide +kernel
theorem dX3_aboard_29 : decode cX3_aboard 29 = .ok (.invokevirtual 146, 3) := by decide +kernel
theorem dX3_aboard_32 : decode cX3_aboard 32 = .ok (.aload_n 0, 1) := by decide +kernel
theorem dX3_aboard_33 : decode cX3_aboard 33 = .ok (.iload_n 1, 1) := by decide +kernel
theorem dX3_aboard_34 : decode cX3_aboard 34 = .ok (.invokevirtual 149, 3) := by decide +kernel
theorem dX3_aboard_37 : decode cX3_aboard 37 = .ok (.ifCond .eq 13, 3) := by decide +kernel
theorem dX3_aboard_40 : decode cX3_aboard 40 = .ok (.new 68, 3) := by decide +kernel
theorem dX3_aboard_43 : decode cX3_aboard 43 = .ok (.dup, 1) := by decide +kernel
theorem dX3_aboard_44 : decode cX3_aboard 44 = .ok (.ldc 153, 2) := by decide +kernel
theorem dX3_aboard_46 : decode cX3_aboard 46 = .ok (.invokespecial 72, 3) := by decide +kernel
theorem dX3_aboard_49 : decode cX3_aboard 49 = .ok (.athrow, 1) := by decide +kernel
theorem dX3_aboard_50 : decode cX3_aboard 50 = .ok (.aload 4, 2) := by decide +kernel
theorem dX3_aboard_52 : decode cX3_aboard 52 = .ok (.getfield 124, 3) := by decide +kernel
theorem dX3_aboard_55 : decode cX3_aboard 55 = .ok (.iload_n 1, 1) := by decide +kernel
theorem dX3_aboard_56 : decode cX3_aboard 56 = .ok (.iconst 2, 1) := by decide +kernel
theorem dX3_aboard_57 : decode cX3_aboard 57 = .ok (.iastore, 1) := by decide +kernel
theorem dX3_aboard_58 : decode cX3_aboard 58 = .ok (.aload_n 0, 1) := by decide +kernel
theorem dX3_aboard_59 : decode cX3_aboard 59 = .ok (.aload 4, 2) := by decide +kernel
theorem dX3_aboard_61 : decode cX3_aboard 61 = .ok (.iconst 2, 1) := by decide +kernel
theorem dX3_aboard_62 : decode cX3_aboard 62 = .ok (.invokevirtual 155, 3) := by decide +kernel
theorem dX3_aboard_65 : decode cX3_aboard 65 = .ok (.ireturn, 1) := by decide +kernel
theorem dX3_stamp_0 : decode cX3_stamp 0 = .ok (.aload_n 0, 1) := by decide +kernel
theorem dX3_stamp_1 : decode cX3_stamp 1 = .ok (.iload_n 1, 1) := by decide +kernel
theorem dX3_stamp_2 : decode cX3_stamp 2 = .ok (.invokevirtual 94, 3) := by decide +kernel
theorem dX3_stamp_5 : decode cX3_stamp 5 = .ok (.astore_n 3, 1) := by decide +kernel
theorem dX3_stamp_6 : decode cX3_stamp 6 = .ok (.aload_n 0, 1) := by decide +kernel
theorem dX3_stamp_7 : decode cX3_stamp 7 = .ok (.iload_n 2, 1) := by decide +kernel
theorem dX3_stamp_8 : decode cX3_stamp 8 = .ok (.invokevirtual 116, 3) := by decide +kernel
theorem dX3_stamp_11 : decode cX3_stamp 11 = .ok (.astore 4, 2) := by decide +kernel
theorem dX3_stamp_13 : decode cX3_stamp 13 = .ok (.aload_n 0, 1) := by decide +kernel
theorem dX3_stamp_14 : decode cX3_stamp 14 = .ok (.aload_n 3, 1) := by decide +kernel
theorem dX3_stamp_15 : decode cX3_stamp 15 = .ok (.invokevirtual 98, 3) := by decide +kernel
theorem dX3_stamp_18 : decode cX3_stamp 18 = .ok (.aload_n 3, 1) := by decide +kernel
theorem dX3_stamp_19 : decode cX3_stamp 19 = .ok (.getfield 79, 3) := by decide +kernel
theorem dX3_stamp_22 : decode cX3_stamp 22 = .ok (.bipush 50, 2) := by decide +kernel
theorem dX3_stamp_24 : decode cX3_stamp 24 = .ok (.if_icmp .ge 13, 3) := by decide +kernel
theorem dX3_stamp_27 : decode cX3_stamp 27 = .ok (.new 68, 3) := by decide +kernel
theorem dX3_stamp_30 : decode cX3_stamp 30 = .ok (.dup, 1) := by decide +kernel
theorem dX3_stamp_31 : decode cX3_stamp 31 = .ok (.ldc 159, 2) := by decide +kernel
theorem dX3_stamp_33 : decode cX3_stamp 33 = .ok (.invokespecial 72, 3) := by decide +kernel
theorem dX3_stamp_36 : decode cX3_stamp 36 = .ok (.athrow, 1) := by decide +kernel
theorem dX3_stamp_37 : decode cX3_stamp 37 = .ok (.aload_n 0, 1) := by decide +kernel
theorem dX3_stamp_38 : decode cX3_stamp 38 = .ok (.aload 4, 2) := by decide +kernel
theorem dX3_stamp_40 : decode cX3_stamp 40 = .ok (.aload_n 3, 1) := by decide +kernel
theorem dX3_stamp_41 : decode cX3_stamp 41 = .ok (.getfield 76, 3) := by decide +kernel
theorem dX3_stamp_44 : decode cX3_stamp 44 = .ok (.invokevirtual 138, 3) := by decide +kernel
theorem dX3_stamp_47 : decode cX3_stamp 47 = .ok (.aload_n 0, 1) := by decide +kernel
theorem dX3_stamp_48 : decode cX3_stamp 48 = .ok (.aload 4, 2) := by decide +kernel
theorem dX3_stamp_50 : decode cX3_stamp 50 = .ok (.bipush 12, 2) := by decide +kernel
theorem dX3_stamp_52 : decode cX3_stamp 52 = .ok (.invokevirtual 146, 3) := by decide +kernel
theorem dX3_stamp_55 : decode cX3_stamp 55 = .ok (.aload_n 3, 1) := by decide +kernel
theorem dX3_stamp_56 : decode cX3_stamp 56 = .ok (.iconst 1, 1) := by decide +kernel
theorem dX3_stamp_57 : decode cX3_stamp 57 = .ok (.putfield 88, 3) := by decide +kernel
theorem dX3_stamp_60 : decode cX3_stamp 60 = .ok (.aload_n 3, 1) := by decide +kernel
theorem dX3_stamp_61 : decode cX3_stamp 61 = .ok (.iload_n 2, 1) := by decide +kernel
theorem dX3_stamp_62 : decode cX3_stamp 62 = .ok (.putfield 91, 3) := by decide +kernel
theorem dX3_stamp_65 : decode cX3_stamp 65 = .ok (.aload_n 3, 1) := by decide +kernel
theorem dX3_stamp_66 : decode cX3_stamp 66 = .ok (.getfield 82, 3) := by decide +kernel
theorem dX3_stamp_69 : decode cX3_stamp 69 = .ok (.ireturn, 1) := by decide +kernel
theorem dX3_check_0 : decode cX3_check 0 = .ok (.aload_n 0, 1) := by decide +kernel
theorem dX3_check_1 : decode cX3_check 1 = .ok (.iload_n 1, 1) := by decide +kernel
theorem dX3_check_2 : decode cX3_check 2 = .ok (.invokevirtual 94, 3) := by decide +kernel
theorem dX3_check_5 : decode cX3_check 5 = .ok (.astore_n 3, 1) := by decide +kernel
theorem dX3_check_6 : decode cX3_check 6 = .ok (.aload_n 3, 1) := by decide +kernel
theorem dX3_check_7 : decode cX3_check 7 = .ok (.getfield 88, 3) := by decide +kernel
theorem dX3_check_10 : decode cX3_check 10 = .ok (.iconst 1, 1) := by decide +kernel
theorem dX3_check_11 : decode cX3_check 11 = .ok (.if_icmp .eq 13, 3) := by decide +kernel
theorem dX3_check_14 : decode cX3_check 14 = .ok (.new 68, 3) := by decide +kernel
theorem dX3_check_17 : decode cX3_check 17 = .ok (.dup, 1) := by decide +kernel
theorem dX3_check_18 : decode cX3_check 18 = .ok (.ldc 161, 2) := by decide +kernel
theorem dX3_check_20 : decode cX3_check 20 = .ok (.invokespecial 72, 3) := by decide +kernel
theorem dX3_check_23 : decode cX3_check 23 = .ok (.athrow, 1) := by decide +kernel
theorem dX3_check_24 : decode cX3_check 24 = .ok (.iload_n 2, 1) := by decide +kernel
theorem dX3_check_25 : decode cX3_check 25 = .ok (.ifCond .ne 27, 3) := by decide +kernel
theorem dX3_check_28 : decode cX3_check 28 = .ok (.aload_n 0, 1) := by decide +kernel
theorem dX3_check_29 : decode cX3_check 29 = .ok (.aload_n 3, 1) := by decide +kernel
theorem dX3_check_30 : decode cX3_check 30 = .ok (.iconst 3, 1) := by decide +kernel
theorem dX3_check_31 : decode cX3_check 31 = .ok (.invokevirtual 163, 3) := by decide +kernel
theorem dX3_check_34 : decode cX3_check 34 = .ok (.aload_n 0, 1) := by decide +kernel
theorem dX3_check_35 : decode cX3_check 35 = .ok (.aload_n 3, 1) := by decide +kernel
theorem dX3_check_36 : decode cX3_check 36 = .ok (.getfield 76, 3) := by decide +kernel
theorem dX3_check_39 : decode cX3_check 39 = .ok (.invokevirtual 58, 3) := by decide +kernel
theorem dX3_check_42 : decode cX3_check 42 = .ok (.dup, 1) := by decide +kernel
theorem dX3_check_43 : decode cX3_check 43 = .ok (.getfield 167, 3) := by decide +kernel
theorem dX3_check_46 : decode cX3_check 46 = .ok (.bipush 50, 2) := by decide +kernel
theorem dX3_check_48 : decode cX3_check 48 = .ok (.iadd, 1) := by decide +kernel
theorem dX3_check_49 : decode cX3_check 49 = .ok (.putfield 167, 3) := by decide +kernel
theorem dX3_check_52 : decode cX3_check 52 = .ok (.aload_n 3, 1) := by decide +kernel
theorem dX3_check_53 : decode cX3_check 53 = .ok (.getfield 88, 3) := by decide +kernel
theorem dX3_check_56 : decode cX3_check 56 = .ok (.ireturn, 1) := by decide +kernel
theorem dX3_comeBack_0 : decode cX3_comeBack 0 = .ok (.aload_n 0, 1) := by decide +kernel
theorem dX3_comeBack_1 : decode cX3_comeBack 1 = .ok (.iload_n 1, 1) := by decide +kernel
theorem dX3_comeBack_2 : decode cX3_comeBack 2 = .ok (.invokevirtual 58, 3) := by decide +kernel
theorem dX3_comeBack_5 : decode cX3_comeBack 5 = .ok (.astore_n 2, 1) := by decide +kernel
theorem dX3_comeBack_6 : decode cX3_comeBack 6 = .ok (.aload_n 2, 1) := by decide +kernel
theorem dX3_comeBack_7 : decode cX3_comeBack 7 = .ok (.getfield 170, 3) := by decide +kernel
theorem dX3_comeBack_10 : decode cX3_comeBack 10 = .ok (.ifCond .ne 13, 3) := by decide +kernel
theorem dX3_comeBack_13 : decode cX3_comeBack 13 = .ok (.new 68, 3) := by decide +kernel
theorem dX3_comeBack_16 : decode cX3_comeBack 16 = .ok (.dup, 1) := by decide +kernel
theorem dX3_comeBack_17 : decode cX3_comeBack 17 = .ok (.ldc 174, 2) := by decide +kernel
theorem dX3_comeBack_19 : decode cX3_comeBack 19 = .ok (.invokespecial 72, 3) := by decide +kernel
theorem dX3_comeBack_22 : decode cX3_comeBack 22 = .ok (.athrow, 1) := by decide +kernel
theorem dX3_comeBack_23 : decode cX3_comeBack 23 = .ok (.aload_n 2, 1) := by decide +kernel
theorem dX3_comeBack_24 : decode cX3_comeBack 24 = .ok (.iconst 0, 1) := by decide +kernel
theorem dX3_comeBack_25 : decode cX3_comeBack 25 = .ok (.putfield 170, 3) := by decide +kernel
theorem dX3_comeBack_28 : decode cX3_comeBack 28 = .ok (.aload_n 2, 1) := by decide +kernel
theorem dX3_comeBack_29 : decode cX3_comeBack 29 = .ok (.getfield 176, 3) := by decide +kernel
theorem dX3_comeBack_32 : decode cX3_comeBack 32 = .ok (.ireturn, 1) := by decide +kernel
theorem dX3_pass_0 : decode cX3_pass 0 = .ok (.iload_n 1, 1) := by decide +kernel
theorem dX3_pass_1 : decode cX3_pass 1 = .ok (.iconst 1, 1) := by decide +kernel
theorem dX3_pass_2 : decode cX3_pass 2 = .ok (.if_icmp .lt 9, 3) := by decide +kernel
theorem dX3_pass_5 : decode cX3_pass 5 = .ok (.iload_n 1, 1) := by decide +kernel
theorem dX3_pass_6 : decode cX3_pass 6 = .ok (.bipush 100, 2) := by decide +kernel
theorem dX3_pass_8 : decode cX3_pass 8 = .ok (.if_icmp .le 13, 3) := by decide +kernel
theorem dX3_pass_11 : decode cX3_pass 11 = .ok (.new 48, 3) := by decide +kernel
theorem dX3_pass_14 : decode cX3_pass 14 = .ok (.dup, 1) := by decide +kernel
theorem dX3_pass_15 : decode cX3_pass 15 = .ok (.ldc 179, 2) := by decide +kernel
theorem dX3_pass_17 : decode cX3_pass 17 = .ok (.invokespecial 52, 3) := by decide +kernel
theorem dX3_pass_20 : decode cX3_pass 20 = .ok (.athrow, 1) := by decide +kernel
theorem dX3_pass_21 : decode cX3_pass 21 = .ok (.iload_n 1, 1) := by decide +kernel
theorem dX3_pass_22 : decode cX3_pass 22 = .ok (.sipush 10000, 3) := by decide +kernel
theorem dX3_pass_25 : decode cX3_pass 25 = .ok (.aload_n 0, 1) := by decide +kernel
theorem dX3_pass_26 : decode cX3_pass 26 = .ok (.getfield 38, 3) := by decide +kernel
theorem dX3_pass_29 : decode cX3_pass 29 = .ok (.isub, 1) := by decide +kernel
theorem dX3_pass_30 : decode cX3_pass 30 = .ok (.if_icmp .le 13, 3) := by decide +kernel
theorem dX3_pass_33 : decode cX3_pass 33 = .ok (.new 68, 3) := by decide +kernel
theorem dX3_pass_36 : decode cX3_pass 36 = .ok (.dup, 1) := by decide +kernel
theorem dX3_pass_37 : decode cX3_pass 37 = .ok (.ldc 181, 2) := by decide +kernel
theorem dX3_pass_39 : decode cX3_pass 39 = .ok (.invokespecial 72, 3) := by decide +kernel
theorem dX3_pass_42 : decode cX3_pass 42 = .ok (.athrow, 1) := by decide +kernel
theorem dX3_pass_43 : decode cX3_pass 43 = .ok (.iconst 0, 1) := by decide +kernel
theorem dX3_pass_44 : decode cX3_pass 44 = .ok (.istore_n 2, 1) := by decide +kernel
theorem dX3_pass_45 : decode cX3_pass 45 = .ok (.iload_n 2, 1) := by decide +kernel
theorem dX3_pass_46 : decode cX3_pass 46 = .ok (.iload_n 1, 1) := by decide +kernel
theorem dX3_pass_47 : decode cX3_pass 47 = .ok (.if_icmp .ge 23, 3) := by decide +kernel
theorem dX3_pass_50 : decode cX3_pass 50 = .ok (.aload_n 0, 1) := by decide +kernel
theorem dX3_pass_51 : decode cX3_pass 51 = .ok (.dup, 1) := by decide +kernel
theorem dX3_pass_52 : decode cX3_pass 52 = .ok (.getfield 38, 3) := by decide +kernel
theorem dX3_pass_55 : decode cX3_pass 55 = .ok (.iconst 1, 1) := by decide +kernel
theorem dX3_pass_56 : decode cX3_pass 56 = .ok (.iadd, 1) := by decide +kernel
theorem dX3_pass_57 : decode cX3_pass 57 = .ok (.putfield 38, 3) := by decide +kernel
theorem dX3_pass_60 : decode cX3_pass 60 = .ok (.aload_n 0, 1) := by decide +kernel
theorem dX3_pass_61 : decode cX3_pass 61 = .ok (.invokevirtual 183, 3) := by decide +kernel
theorem dX3_pass_64 : decode cX3_pass 64 = .ok (.iinc 2 1, 3) := by decide +kernel
theorem dX3_pass_67 : decode cX3_pass 67 = .ok (.goto (-22), 3) := by decide +kernel
theorem dX3_pass_70 : decode cX3_pass 70 = .ok (.aload_n 0, 1) := by decide +kernel
theorem dX3_pass_71 : decode cX3_pass 71 = .ok (.getfield 38, 3) := by decide +kernel
theorem dX3_pass_74 : decode cX3_pass 74 = .ok (.ireturn, 1) := by decide +kernel
theorem dX3_ofReceipt_0 : decode cX3_ofReceipt 0 = .ok (.aload_n 0, 1) := by decide +kernel
theorem dX3_ofReceipt_1 : decode cX3_ofReceipt 1 = .ok (.iload_n 1, 1) := by decide +kernel
theorem dX3_ofReceipt_2 : decode cX3_ofReceipt 2 = .ok (.invokevirtual 94, 3) := by decide +kernel
theorem dX3_ofReceipt_5 : decode cX3_ofReceipt 5 = .ok (.astore_n 3, 1) := by decide +kernel
theorem dX3_ofReceipt_6 : decode cX3_ofReceipt 6 = .ok (.iload_n 2, 1) := by decide +kernel
theorem dX3_ofReceipt_7 : decode cX3_ofReceipt 7 = .ok (.tableswitch 49 0 3 #[29, 34, 39, 44], 29) := by decide +kernel
theorem dX3_ofReceipt_36 : decode cX3_ofReceipt 36 = .ok (.aload_n 3, 1) := by decide +kernel
theorem dX3_ofReceipt_37 : decode cX3_ofReceipt 37 = .ok (.getfield 88, 3) := by decide +kernel
theorem dX3_ofReceipt_40 : decode cX3_ofReceipt 40 = .ok (.ireturn, 1) := by decide +kernel
theorem dX3_ofReceipt_41 : decode cX3_ofReceipt 41 = .ok (.aload_n 3, 1) := by decide +kernel
theorem dX3_ofReceipt_42 : decode cX3_ofReceipt 42 = .ok (.getfield 82, 3) := by decide +kernel
theorem dX3_ofReceipt_45 : decode cX3_ofReceipt 45 = .ok (.ireturn, 1) := by decide +kernel
theorem dX3_ofReceipt_46 : decode cX3_ofReceipt 46 = .ok (.aload_n 3, 1) := by decide +kernel
theorem dX3_ofReceipt_47 : decode cX3_ofReceipt 47 = .ok (.getfield 186, 3) := by decide +kernel
theorem dX3_ofReceipt_50 : decode cX3_ofReceipt 50 = .ok (.ireturn, 1) := by decide +kernel
theorem dX3_ofReceipt_51 : decode cX3_ofReceipt 51 = .ok (.aload_n 3, 1) := by decide +kernel
theorem dX3_ofReceipt_52 : decode cX3_ofReceipt 52 = .ok (.getfield 91, 3) := by decide +kernel
theorem dX3_ofReceipt_55 : decode cX3_ofReceipt 55 = .ok (.ireturn, 1) := by decide +kernel
theorem dX3_ofReceipt_56 : decode cX3_ofReceipt 56 = .ok (.new 48, 3) := by decide +kernel
theorem dX3_ofReceipt_59 : decode cX3_ofReceipt 59 = .ok (.dup, 1) := by decide +kernel
theorem dX3_ofReceipt_60 : decode cX3_ofReceipt 60 = .ok (.ldc 189, 2) := by decide +kernel
theorem dX3_ofReceipt_62 : decode cX3_ofReceipt 62 = .ok (.invokespecial 52, 3) := by decide +kernel
theorem dX3_ofReceipt_65 : decode cX3_ofReceipt 65 = .ok (.athrow, 1) := by decide +kernel
theorem dX3_code_0 : decode cX3_code 0 = .ok (.aload_n 0, 1) := by decide +kernel
theorem dX3_code_1 : decode cX3_code 1 = .ok (.iload_n 1, 1) := by decide +kernel
theorem dX3_code_2 : decode cX3_code 2 = .ok (.invokevirtual 94, 3) := by decide +kernel
theorem dX3_code_5 : decode cX3_code 5 = .ok (.astore_n 3, 1) := by decide +kernel
theorem dX3_code_6 : decode cX3_code 6 = .ok (.iload_n 2, 1) := by decide +kernel
theorem dX3_code_7 : decode cX3_code 7 = .ok (.ifCond .ge 13, 3) := by decide +kernel
theorem dX3_code_10 : decode cX3_code 10 = .ok (.new 191, 3) := by decide +kernel
theorem dX3_code_13 : decode cX3_code 13 = .ok (.dup, 1) := by decide +kernel
theorem dX3_code_14 : decode cX3_code 14 = .ok (.ldc 193, 2) := by decide +kernel
theorem dX3_code_16 : decode cX3_code 16 = .ok (.invokespecial 195, 3) := by decide +kernel
theorem dX3_code_19 : decode cX3_code 19 = .ok (.athrow, 1) := by decide +kernel
theorem dX3_code_20 : decode cX3_code 20 = .ok (.new 196, 3) := by decide +kernel
theorem dX3_code_23 : decode cX3_code 23 = .ok (.dup, 1) := by decide +kernel
theorem dX3_code_24 : decode cX3_code 24 = .ok (.invokespecial 198, 3) := by decide +kernel
theorem dX3_code_27 : decode cX3_code 27 = .ok (.astore 4, 2) := by decide +kernel
theorem dX3_code_29 : decode cX3_code 29 = .ok (.aload 4, 2) := by decide +kernel
theorem dX3_code_31 : decode cX3_code 31 = .ok (.bipush 82, 2) := by decide +kernel
theorem dX3_code_33 : decode cX3_code 33 = .ok (.invokevirtual 199, 3) := by decide +kernel
theorem dX3_code_36 : decode cX3_code 36 = .ok (.iload_n 1, 1) := by decide +kernel
theorem dX3_code_37 : decode cX3_code 37 = .ok (.invokevirtual 203, 3) := by decide +kernel
theorem dX3_code_40 : decode cX3_code 40 = .ok (.bipush 45, 2) := by decide +kernel
theorem dX3_code_42 : decode cX3_code 42 = .ok (.invokevirtual 199, 3) := by decide +kernel
theorem dX3_code_45 : decode cX3_code 45 = .ok (.pop, 1) := by decide +kernel
theorem dX3_code_46 : decode cX3_code 46 = .ok (.aload_n 0, 1) := by decide +kernel
theorem dX3_code_47 : decode cX3_code 47 = .ok (.aload 4, 2) := by decide +kernel
theorem dX3_code_49 : decode cX3_code 49 = .ok (.aload_n 3, 1) := by decide +kernel
theorem dX3_code_50 : decode cX3_code 50 = .ok (.getfield 82, 3) := by decide +kernel
theorem dX3_code_53 : decode cX3_code 53 = .ok (.invokevirtual 206, 3) := by decide +kernel
theorem dX3_code_56 : decode cX3_code 56 = .ok (.iload_n 2, 1) := by decide +kernel
theorem dX3_code_57 : decode cX3_code 57 = .ok (.aload 4, 2) := by decide +kernel
theorem dX3_code_59 : decode cX3_code 59 = .ok (.invokevirtual 210, 3) := by decide +kernel
theorem dX3_code_62 : decode cX3_code 62 = .ok (.if_icmp .ge 12, 3) := by decide +kernel
theorem dX3_code_65 : decode cX3_code 65 = .ok (.aload 4, 2) := by decide +kernel
theorem dX3_code_67 : decode cX3_code 67 = .ok (.iload_n 2, 1) := by decide +kernel
theorem dX3_code_68 : decode cX3_code 68 = .ok (.invokevirtual 214, 3) := by decide +kernel
theorem dX3_code_71 : decode cX3_code 71 = .ok (.goto 4, 3) := by decide +kernel
theorem dX3_code_74 : decode cX3_code 74 = .ok (.iconst 0, 1) := by decide +kernel
theorem dX3_code_75 : decode cX3_code 75 = .ok (.ireturn, 1) := by decide +kernel
theorem dX3_ofTraveller_0 : decode cX3_ofTraveller 0 = .ok (.aload_n 0, 1) := by decide +kernel
theorem dX3_ofTraveller_1 : decode cX3_ofTraveller 1 = .ok (.iload_n 1, 1) := by decide +kernel
theorem dX3_ofTraveller_2 : decode cX3_ofTraveller 2 = .ok (.invokevirtual 58, 3) := by decide +kernel
theorem dX3_ofTraveller_5 : decode cX3_ofTraveller 5 = .ok (.astore_n 3, 1) := by decide +kernel
theorem dX3_ofTraveller_6 : decode cX3_ofTraveller 6 = .ok (.iload_n 2, 1) := by decide +kernel
theorem dX3_ofTraveller_7 : decode cX3_ofTraveller 7 = .ok (.tableswitch 57 0 3 #[29, 34, 39, 44], 29) := by decide +kernel
theorem dX3_ofTraveller_36 : decode cX3_ofTraveller 36 = .ok (.aload_n 3, 1) := by decide +kernel
theorem dX3_ofTraveller_37 : decode cX3_ofTraveller 37 = .ok (.getfield 218, 3) := by decide +kernel
theorem dX3_ofTraveller_40 : decode cX3_ofTraveller 40 = .ok (.ireturn, 1) := by decide +kernel
theorem dX3_ofTraveller_41 : decode cX3_ofTraveller 41 = .ok (.aload_n 3, 1) := by decide +kernel
theorem dX3_ofTraveller_42 : decode cX3_ofTraveller 42 = .ok (.getfield 167, 3) := by decide +kernel
theorem dX3_ofTraveller_45 : decode cX3_ofTraveller 45 = .ok (.ireturn, 1) := by decide +kernel
theorem dX3_ofTraveller_46 : decode cX3_ofTraveller 46 = .ok (.aload_n 3, 1) := by decide +kernel
theorem dX3_ofTraveller_47 : decode cX3_ofTraveller 47 = .ok (.getfield 221, 3) := by decide +kernel
theorem dX3_ofTraveller_50 : decode cX3_ofTraveller 50 = .ok (.ireturn, 1) := by decide +kernel
theorem dX3_ofTraveller_51 : decode cX3_ofTraveller 51 = .ok (.aload_n 3, 1) := by decide +kernel
theorem dX3_ofTraveller_52 : decode cX3_ofTraveller 52 = .ok (.getfield 170, 3) := by decide +kernel
theorem dX3_ofTraveller_55 : decode cX3_ofTraveller 55 = .ok (.ifCond .eq 7, 3) := by decide +kernel
theorem dX3_ofTraveller_58 : decode cX3_ofTraveller 58 = .ok (.iconst 1, 1) := by decide +kernel
theorem dX3_ofTraveller_59 : decode cX3_ofTraveller 59 = .ok (.goto 4, 3) := by decide +kernel
theorem dX3_ofTraveller_62 : decode cX3_ofTraveller 62 = .ok (.iconst 0, 1) := by decide +kernel
theorem dX3_ofTraveller_63 : decode cX3_ofTraveller 63 = .ok (.ireturn, 1) := by decide +kernel
theorem dX3_ofTraveller_64 : decode cX3_ofTraveller 64 = .ok (.new 48, 3) := by decide +kernel
theorem dX3_ofTraveller_67 : decode cX3_ofTraveller 67 = .ok (.dup, 1) := by decide +kernel
theorem dX3_ofTraveller_68 : decode cX3_ofTraveller 68 = .ok (.ldc 189, 2) := by decide +kernel
theorem dX3_ofTraveller_70 : decode cX3_ofTraveller 70 = .ok (.invokespecial 52, 3) := by decide +kernel
theorem dX3_ofTraveller_73 : decode cX3_ofTraveller 73 = .ok (.athrow, 1) := by decide +kernel
theorem dX3_refundsAnew_0 : decode cX3_refundsAnew 0 = .ok (.aload_n 0, 1) := by decide +kernel
theorem dX3_refundsAnew_1 : decode cX3_refundsAnew 1 = .ok (.iload_n 1, 1) := by decide +kernel
theorem dX3_refundsAnew_2 : decode cX3_refundsAnew 2 = .ok (.invokevirtual 135, 3) := by decide +kernel
theorem dX3_refundsAnew_5 : decode cX3_refundsAnew 5 = .ok (.iconst 0, 1) := by decide +kernel
theorem dX3_refundsAnew_6 : decode cX3_refundsAnew 6 = .ok (.istore_n 2, 1) := by decide +kernel
theorem dX3_refundsAnew_7 : decode cX3_refundsAnew 7 = .ok (.iconst 0, 1) := by decide +kernel
theorem dX3_refundsAnew_8 : decode cX3_refundsAnew 8 = .ok (.istore_n 3, 1) := by decide +kernel
theorem dX3_refundsAnew_9 : decode cX3_refundsAnew 9 = .ok (.iload_n 3, 1) := by decide +kernel
theorem dX3_refundsAnew_10 : decode cX3_refundsAnew 10 = .ok (.aload_n 0, 1) := by decide +kernel
theorem dX3_refundsAnew_11 : decode cX3_refundsAnew 11 = .ok (.getfield 35, 3) := by decide +kernel
theorem dX3_refundsAnew_14 : decode cX3_refundsAnew 14 = .ok (.if_icmp .ge 33, 3) := by decide +kernel
theorem dX3_refundsAnew_17 : decode cX3_refundsAnew 17 = .ok (.aload_n 0, 1) := by decide +kernel
theorem dX3_refundsAnew_18 : decode cX3_refundsAnew 18 = .ok (.getfield 21, 3) := by decide +kernel
theorem dX3_refundsAnew_21 : decode cX3_refundsAnew 21 = .ok (.iload_n 3, 1) := by decide +kernel
theorem dX3_refundsAnew_22 : decode cX3_refundsAnew 22 = .ok (.aaload, 1) := by decide +kernel
theorem dX3_refundsAnew_23 : decode cX3_refundsAnew 23 = .ok (.getfield 124, 3) := by decide +kernel
theorem dX3_refundsAnew_26 : decode cX3_refundsAnew 26 = .ok (.iload_n 1, 1) := by decide +kernel
theorem dX3_refundsAnew_27 : decode cX3_refundsAnew 27 = .ok (.iaload, 1) := by decide +kernel
theorem dX3_refundsAnew_28 : decode cX3_refundsAnew 28 = .ok (.iconst 3, 1) := by decide +kernel
theorem dX3_refundsAnew_29 : decode cX3_refundsAnew 29 = .ok (.if_icmp .ne 12, 3) := by decide +kernel
theorem dX3_refundsAnew_32 : decode cX3_refundsAnew 32 = .ok (.iload_n 2, 1) := by decide +kernel
theorem dX3_refundsAnew_33 : decode cX3_refundsAnew 33 = .ok (.aload_n 0, 1) := by decide +kernel
theorem dX3_refundsAnew_34 : decode cX3_refundsAnew 34 = .ok (.iload_n 1, 1) := by decide +kernel
theorem dX3_refundsAnew_35 : decode cX3_refundsAnew 35 = .ok (.iload_n 3, 1) := by decide +kernel
theorem dX3_refundsAnew_36 : decode cX3_refundsAnew 36 = .ok (.invokevirtual 224, 3) := by decide +kernel
theorem dX3_refundsAnew_39 : decode cX3_refundsAnew 39 = .ok (.iadd, 1) := by decide +kernel
theorem dX3_refundsAnew_40 : decode cX3_refundsAnew 40 = .ok (.istore_n 2, 1) := by decide +kernel
theorem dX3_refundsAnew_41 : decode cX3_refundsAnew 41 = .ok (.iinc 3 1, 3) := by decide +kernel
theorem dX3_refundsAnew_44 : decode cX3_refundsAnew 44 = .ok (.goto (-35), 3) := by decide +kernel
theorem dX3_refundsAnew_47 : decode cX3_refundsAnew 47 = .ok (.iload_n 2, 1) := by decide +kernel
theorem dX3_refundsAnew_48 : decode cX3_refundsAnew 48 = .ok (.ireturn, 1) := by decide +kernel
theorem dX3_debt_0 : decode cX3_debt 0 = .ok (.aload_n 0, 1) := by decide +kernel
theorem dX3_debt_1 : decode cX3_debt 1 = .ok (.iload_n 1, 1) := by decide +kernel
theorem dX3_debt_2 : decode cX3_debt 2 = .ok (.invokevirtual 55, 3) := by decide +kernel
theorem dX3_debt_5 : decode cX3_debt 5 = .ok (.iconst 0, 1) := by decide +kernel
theorem dX3_debt_6 : decode cX3_debt 6 = .ok (.istore_n 2, 1) := by decide +kernel
theorem dX3_debt_7 : decode cX3_debt 7 = .ok (.iconst 0, 1) := by decide +kernel
theorem dX3_debt_8 : decode cX3_debt 8 = .ok (.istore_n 3, 1) := by decide +kernel
theorem dX3_debt_9 : decode cX3_debt 9 = .ok (.iload_n 3, 1) := by decide +kernel
theorem dX3_debt_10 : decode cX3_debt 10 = .ok (.aload_n 0, 1) := by decide +kernel
theorem dX3_debt_11 : decode cX3_debt 11 = .ok (.getfield 31, 3) := by decide +kernel
theorem dX3_debt_14 : decode cX3_debt 14 = .ok (.if_icmp .ge 43, 3) := by decide +kernel
theorem dX3_debt_17 : decode cX3_debt 17 = .ok (.aload_n 0, 1) := by decide +kernel
theorem dX3_debt_18 : decode cX3_debt 18 = .ok (.getfield 15, 3) := by decide +kernel
theorem dX3_debt_21 : decode cX3_debt 21 = .ok (.iload_n 3, 1) := by decide +kernel
theorem dX3_debt_22 : decode cX3_debt 22 = .ok (.aaload, 1) := by decide +kernel
theorem dX3_debt_23 : decode cX3_debt 23 = .ok (.astore 4, 2) := by decide +kernel
theorem dX3_debt_25 : decode cX3_debt 25 = .ok (.aload 4, 2) := by decide +kernel
theorem dX3_debt_27 : decode cX3_debt 27 = .ok (.getfield 73, 3) := by decide +kernel
theorem dX3_debt_30 : decode cX3_debt 30 = .ok (.iload_n 1, 1) := by decide +kernel
theorem dX3_debt_31 : decode cX3_debt 31 = .ok (.if_icmp .ne 20, 3) := by decide +kernel
theorem dX3_debt_34 : decode cX3_debt 34 = .ok (.aload 4, 2) := by decide +kernel
theorem dX3_debt_36 : decode cX3_debt 36 = .ok (.getfield 88, 3) := by decide +kernel
theorem dX3_debt_39 : decode cX3_debt 39 = .ok (.iconst 4, 1) := by decide +kernel
theorem dX3_debt_40 : decode cX3_debt 40 = .ok (.if_icmp .eq 11, 3) := by decide +kernel
theorem dX3_debt_43 : decode cX3_debt 43 = .ok (.iload_n 2, 1) := by decide +kernel
theorem dX3_debt_44 : decode cX3_debt 44 = .ok (.aload 4, 2) := by decide +kernel
theorem dX3_debt_46 : decode cX3_debt 46 = .ok (.getfield 82, 3) := by decide +kernel
theorem dX3_debt_49 : decode cX3_debt 49 = .ok (.iadd, 1) := by decide +kernel
theorem dX3_debt_50 : decode cX3_debt 50 = .ok (.istore_n 2, 1) := by decide +kernel
theorem dX3_debt_51 : decode cX3_debt 51 = .ok (.iinc 3 1, 3) := by decide +kernel
theorem dX3_debt_54 : decode cX3_debt 54 = .ok (.goto (-45), 3) := by decide +kernel
theorem dX3_debt_57 : decode cX3_debt 57 = .ok (.iload_n 2, 1) := by decide +kernel
theorem dX3_debt_58 : decode cX3_debt 58 = .ok (.ireturn, 1) := by decide +kernel
theorem dX3_requireShop_0 : decode cX3_requireShop 0 = .ok (.iload_n 1, 1) := by decide +kernel
theorem dX3_requireShop_1 : decode cX3_requireShop 1 = .ok (.ifCond .lt 8, 3) := by decide +kernel
theorem dX3_requireShop_4 : decode cX3_requireShop 4 = .ok (.iload_n 1, 1) := by decide +kernel
theorem dX3_requireShop_5 : decode cX3_requireShop 5 = .ok (.iconst 5, 1) := by decide +kernel
theorem dX3_requireShop_6 : decode cX3_requireShop 6 = .ok (.if_icmp .lt 13, 3) := by decide +kernel
theorem dX3_requireShop_9 : decode cX3_requireShop 9 = .ok (.new 191, 3) := by decide +kernel
theorem dX3_requireShop_12 : decode cX3_requireShop 12 = .ok (.dup, 1) := by decide +kernel
theorem dX3_requireShop_13 : decode cX3_requireShop 13 = .ok (.ldc 227, 2) := by decide +kernel
theorem dX3_requireShop_15 : decode cX3_requireShop 15 = .ok (.invokespecial 195, 3) := by decide +kernel
theorem dX3_requireShop_18 : decode cX3_requireShop 18 = .ok (.athrow, 1) := by decide +kernel
theorem dX3_requireShop_19 : decode cX3_requireShop 19 = .ok (.return_, 1) := by decide +kernel
theorem dX3_requireKind_0 : decode cX3_requireKind 0 = .ok (.iload_n 1, 1) := by decide +kernel
theorem dX3_requireKind_1 : decode cX3_requireKind 1 = .ok (.ifCond .lt 8, 3) := by decide +kernel
theorem dX3_requireKind_4 : decode cX3_requireKind 4 = .ok (.iload_n 1, 1) := by decide +kernel
theorem dX3_requireKind_5 : decode cX3_requireKind 5 = .ok (.iconst 4, 1) := by decide +kernel
theorem dX3_requireKind_6 : decode cX3_requireKind 6 = .ok (.if_icmp .lt 13, 3) := by decide +kernel
theorem dX3_requireKind_9 : decode cX3_requireKind 9 = .ok (.new 191, 3) := by decide +kernel
theorem dX3_requireKind_12 : decode cX3_requireKind 12 = .ok (.dup, 1) := by decide +kernel
theorem dX3_requireKind_13 : decode cX3_requireKind 13 = .ok (.ldc 229, 2) := by decide +kernel
theorem dX3_requireKind_15 : decode cX3_requireKind 15 = .ok (.invokespecial 195, 3) := by decide +kernel
theorem dX3_requireKind_18 : decode cX3_requireKind 18 = .ok (.athrow, 1) := by decide +kernel
theorem dX3_requireKind_19 : decode cX3_requireKind 19 = .ok (.return_, 1) := by decide +kernel
theorem dX3_requireTraveller_0 : decode cX3_requireTraveller 0 = .ok (.iload_n 1, 1) := by decide +kernel
theorem dX3_requireTraveller_1 : decode cX3_requireTraveller 1 = .ok (.ifCond .lt 9, 3) := by decide +kernel
theorem dX3_requireTraveller_4 : decode cX3_requireTraveller 4 = .ok (.iload_n 1, 1) := by decide +kernel
theorem dX3_requireTraveller_5 : decode cX3_requireTraveller 5 = .ok (.bipush 10, 2) := by decide +kernel
theorem dX3_requireTraveller_7 : decode cX3_requireTraveller 7 = .ok (.if_icmp .lt 13, 3) := by decide +kernel
theorem dX3_requireTraveller_10 : decode cX3_requireTraveller 10 = .ok (.new 191, 3) := by decide +kernel
theorem dX3_requireTraveller_13 : decode cX3_requireTraveller 13 = .ok (.dup, 1) := by decide +kernel
theorem dX3_requireTraveller_14 : decode cX3_requireTraveller 14 = .ok (.ldc 231, 2) := by decide +kernel
theorem dX3_requireTraveller_16 : decode cX3_requireTraveller 16 = .ok (.invokespecial 195, 3) := by decide +kernel
theorem dX3_requireTraveller_19 : decode cX3_requireTraveller 19 = .ok (.athrow, 1) := by decide +kernel
theorem dX3_requireTraveller_20 : decode cX3_requireTraveller 20 = .ok (.return_, 1) := by decide +kernel
theorem dX3_travellerNumbered_0 : decode cX3_travellerNumbered 0 = .ok (.aload_n 0, 1) := by decide +kernel
theorem dX3_travellerNumbered_1 : decode cX3_travellerNumbered 1 = .ok (.iload_n 1, 1) := by decide +kernel
theorem dX3_travellerNumbered_2 : decode cX3_travellerNumbered 2 = .ok (.invokevirtual 135, 3) := by decide +kernel
theorem dX3_travellerNumbered_5 : decode cX3_travellerNumbered 5 = .ok (.aload_n 0, 1) := by decide +kernel
theorem dX3_travellerNumbered_6 : decode cX3_travellerNumbered 6 = .ok (.getfield 27, 3) := by decide +kernel
theorem dX3_travellerNumbered_9 : decode cX3_travellerNumbered 9 = .ok (.iload_n 1, 1) := by decide +kernel
theorem dX3_travellerNumbered_10 : decode cX3_travellerNumbered 10 = .ok (.aaload, 1) := by decide +kernel
theorem dX3_travellerNumbered_11 : decode cX3_travellerNumbered 11 = .ok (.areturn, 1) := by decide +kernel
theorem dX3_receiptNumbered_0 : decode cX3_receiptNumbered 0 = .ok (.iload_n 1, 1) := by decide +kernel
theorem dX3_receiptNumbered_1 : decode cX3_receiptNumbered 1 = .ok (.ifCond .lt 11, 3) := by decide +kernel
theorem dX3_receiptNumbered_4 : decode cX3_receiptNumbered 4 = .ok (.iload_n 1, 1) := by decide +kernel
theorem dX3_receiptNumbered_5 : decode cX3_receiptNumbered 5 = .ok (.aload_n 0, 1) := by decide +kernel
theorem dX3_receiptNumbered_6 : decode cX3_receiptNumbered 6 = .ok (.getfield 31, 3) := by decide +kernel
theorem dX3_receiptNumbered_9 : decode cX3_receiptNumbered 9 = .ok (.if_icmp .lt 13, 3) := by decide +kernel
theorem dX3_receiptNumbered_12 : decode cX3_receiptNumbered 12 = .ok (.new 191, 3) := by decide +kernel
theorem dX3_receiptNumbered_15 : decode cX3_receiptNumbered 15 = .ok (.dup, 1) := by decide +kernel
theorem dX3_receiptNumbered_16 : decode cX3_receiptNumbered 16 = .ok (.ldc 233, 2) := by decide +kernel
theorem dX3_receiptNumbered_18 : decode cX3_receiptNumbered 18 = .ok (.invokespecial 195, 3) := by decide +kernel
theorem dX3_receiptNumbered_21 : decode cX3_receiptNumbered 21 = .ok (.athrow, 1) := by decide +kernel
theorem dX3_receiptNumbered_22 : decode cX3_receiptNumbered 22 = .ok (.aload_n 0, 1) := by decide +kernel
theorem dX3_receiptNumbered_23 : decode cX3_receiptNumbered 23 = .ok (.getfield 15, 3) := by decide +kernel
theorem dX3_receiptNumbered_26 : decode cX3_receiptNumbered 26 = .ok (.iload_n 1, 1) := by decide +kernel
theorem dX3_receiptNumbered_27 : decode cX3_receiptNumbered 27 = .ok (.aaload, 1) := by decide +kernel
theorem dX3_receiptNumbered_28 : decode cX3_receiptNumbered 28 = .ok (.areturn, 1) := by decide +kernel
theorem dX3_ferryNumbered_0 : decode cX3_ferryNumbered 0 = .ok (.iload_n 1, 1) := by decide +kernel
theorem dX3_ferryNumbered_1 : decode cX3_ferryNumbered 1 = .ok (.ifCond .lt 11, 3) := by decide +kernel
theorem dX3_ferryNumbered_4 : decode cX3_ferryNumbered 4 = .ok (.iload_n 1, 1) := by decide +kernel
theorem dX3_ferryNumbered_5 : decode cX3_ferryNumbered 5 = .ok (.aload_n 0, 1) := by decide +kernel
theorem dX3_ferryNumbered_6 : decode cX3_ferryNumbered 6 = .ok (.getfield 35, 3) := by decide +kernel
theorem dX3_ferryNumbered_9 : decode cX3_ferryNumbered 9 = .ok (.if_icmp .lt 13, 3) := by decide +kernel
theorem dX3_ferryNumbered_12 : decode cX3_ferryNumbered 12 = .ok (.new 191, 3) := by decide +kernel
theorem dX3_ferryNumbered_15 : decode cX3_ferryNumbered 15 = .ok (.dup, 1) := by decide +kernel
theorem dX3_ferryNumbered_16 : decode cX3_ferryNumbered 16 = .ok (.ldc 235, 2) := by decide +kernel
theorem dX3_ferryNumbered_18 : decode cX3_ferryNumbered 18 = .ok (.invokespecial 195, 3) := by decide +kernel
theorem dX3_ferryNumbered_21 : decode cX3_ferryNumbered 21 = .ok (.athrow, 1) := by decide +kernel
theorem dX3_ferryNumbered_22 : decode cX3_ferryNumbered 22 = .ok (.aload_n 0, 1) := by decide +kernel
theorem dX3_ferryNumbered_23 : decode cX3_ferryNumbered 23 = .ok (.getfield 21, 3) := by decide +kernel
theorem dX3_ferryNumbered_26 : decode cX3_ferryNumbered 26 = .ok (.iload_n 1, 1) := by decide +kernel
theorem dX3_ferryNumbered_27 : decode cX3_ferryNumbered 27 = .ok (.aaload, 1) := by decide +kernel
theorem dX3_ferryNumbered_28 : decode cX3_ferryNumbered 28 = .ok (.areturn, 1) := by decide +kernel
theorem dX3_requireOnIsland_0 : decode cX3_requireOnIsland 0 = .ok (.aload_n 1, 1) := by decide +kernel
theorem dX3_requireOnIsland_1 : decode cX3_requireOnIsland 1 = .ok (.getfield 170, 3) := by decide +kernel
theorem dX3_requireOnIsland_4 : decode cX3_requireOnIsland 4 = .ok (.ifCond .eq 13, 3) := by decide +kernel
theorem dX3_requireOnIsland_7 : decode cX3_requireOnIsland 7 = .ok (.new 68, 3) := by decide +kernel
theorem dX3_requireOnIsland_10 : decode cX3_requireOnIsland 10 = .ok (.dup, 1) := by decide +kernel
theorem dX3_requireOnIsland_11 : decode cX3_requireOnIsland 11 = .ok (.ldc 237, 2) := by decide +kernel
theorem dX3_requireOnIsland_13 : decode cX3_requireOnIsland 13 = .ok (.invokespecial 72, 3) := by decide +kernel
theorem dX3_requireOnIsland_16 : decode cX3_requireOnIsland 16 = .ok (.athrow, 1) := by decide +kernel
theorem dX3_requireOnIsland_17 : decode cX3_requireOnIsland 17 = .ok (.return_, 1) := by decide +kernel
theorem dX3_requireOpen_0 : decode cX3_requireOpen 0 = .ok (.aload_n 1, 1) := by decide +kernel
theorem dX3_requireOpen_1 : decode cX3_requireOpen 1 = .ok (.getfield 88, 3) := by decide +kernel
theorem dX3_requireOpen_4 : decode cX3_requireOpen 4 = .ok (.ifCond .eq 13, 3) := by decide +kernel
theorem dX3_requireOpen_7 : decode cX3_requireOpen 7 = .ok (.new 68, 3) := by decide +kernel
theorem dX3_requireOpen_10 : decode cX3_requireOpen 10 = .ok (.dup, 1) := by decide +kernel
theorem dX3_requireOpen_11 : decode cX3_requireOpen 11 = .ok (.ldc 239, 2) := by decide +kernel
theorem dX3_requireOpen_13 : decode cX3_requireOpen 13 = .ok (.invokespecial 72, 3) := by decide +kernel
theorem dX3_requireOpen_16 : decode cX3_requireOpen 16 = .ok (.athrow, 1) := by decide +kernel
theorem dX3_requireOpen_17 : decode cX3_requireOpen 17 = .ok (.return_, 1) := by decide +kernel
theorem dX3_requireNotSailed_0 : decode cX3_requireNotSailed 0 = .ok (.aload_n 0, 1) := by decide +kernel
theorem dX3_requireNotSailed_1 : decode cX3_requireNotSailed 1 = .ok (.getfield 38, 3) := by decide +kernel
theorem dX3_requireNotSailed_4 : decode cX3_requireNotSailed 4 = .ok (.aload_n 1, 1) := by decide +kernel
theorem dX3_requireNotSailed_5 : decode cX3_requireNotSailed 5 = .ok (.getfield 110, 3) := by decide +kernel
theorem dX3_requireNotSailed_8 : decode cX3_requireNotSailed 8 = .ok (.if_icmp .lt 13, 3) := by decide +kernel
theorem dX3_requireNotSailed_11 : decode cX3_requireNotSailed 11 = .ok (.new 68, 3) := by decide +kernel
theorem dX3_requireNotSailed_14 : decode cX3_requireNotSailed 14 = .ok (.dup, 1) := by decide +kernel
theorem dX3_requireNotSailed_15 : decode cX3_requireNotSailed 15 = .ok (.ldc 241, 2) := by decide +kernel
theorem dX3_requireNotSailed_17 : decode cX3_requireNotSailed 17 = .ok (.invokespecial 72, 3) := by decide +kernel
theorem dX3_requireNotSailed_20 : decode cX3_requireNotSailed 20 = .ok (.athrow, 1) := by decide +kernel
theorem dX3_requireNotSailed_21 : decode cX3_requireNotSailed 21 = .ok (.return_, 1) := by decide +kernel
theorem dX3_requireSeat_0 : decode cX3_requireSeat 0 = .ok (.aload_n 1, 1) := by decide +kernel
theorem dX3_requireSeat_1 : decode cX3_requireSeat 1 = .ok (.getfield 124, 3) := by decide +kernel
theorem dX3_requireSeat_4 : decode cX3_requireSeat 4 = .ok (.iload_n 2, 1) := by decide +kernel
theorem dX3_requireSeat_5 : decode cX3_requireSeat 5 = .ok (.iaload, 1) := by decide +kernel
theorem dX3_requireSeat_6 : decode cX3_requireSeat 6 = .ok (.ifCond .ne 13, 3) := by decide +kernel
theorem dX3_requireSeat_9 : decode cX3_requireSeat 9 = .ok (.new 68, 3) := by decide +kernel
theorem dX3_requireSeat_12 : decode cX3_requireSeat 12 = .ok (.dup, 1) := by decide +kernel
theorem dX3_requireSeat_13 : decode cX3_requireSeat 13 = .ok (.ldc 243, 2) := by decide +kernel
theorem dX3_requireSeat_15 : decode cX3_requireSeat 15 = .ok (.invokespecial 72, 3) := by decide +kernel
theorem dX3_requireSeat_18 : decode cX3_requireSeat 18 = .ok (.athrow, 1) := by decide +kernel
theorem dX3_requireSeat_19 : decode cX3_requireSeat 19 = .ok (.return_, 1) := by decide +kernel
theorem dX3_requireWithin_0 : decode cX3_requireWithin 0 = .ok (.aload_n 0, 1) := by decide +kernel
theorem dX3_requireWithin_1 : decode cX3_requireWithin 1 = .ok (.aload_n 1, 1) := by decide +kernel
theorem dX3_requireWithin_2 : decode cX3_requireWithin 2 = .ok (.invokevirtual 120, 3) := by decide +kernel
theorem dX3_requireWithin_5 : decode cX3_requireWithin 5 = .ok (.aload_n 0, 1) := by decide +kernel
theorem dX3_requireWithin_6 : decode cX3_requireWithin 6 = .ok (.getfield 38, 3) := by decide +kernel
theorem dX3_requireWithin_9 : decode cX3_requireWithin 9 = .ok (.aload_n 1, 1) := by decide +kernel
theorem dX3_requireWithin_10 : decode cX3_requireWithin 10 = .ok (.getfield 110, 3) := by decide +kernel
theorem dX3_requireWithin_13 : decode cX3_requireWithin 13 = .ok (.iload_n 2, 1) := by decide +kernel
theorem dX3_requireWithin_14 : decode cX3_requireWithin 14 = .ok (.isub, 1) := by decide +kernel
theorem dX3_requireWithin_15 : decode cX3_requireWithin 15 = .ok (.if_icmp .ge 13, 3) := by decide +kernel
theorem dX3_requireWithin_18 : decode cX3_requireWithin 18 = .ok (.new 68, 3) := by decide +kernel
theorem dX3_requireWithin_21 : decode cX3_requireWithin 21 = .ok (.dup, 1) := by decide +kernel
theorem dX3_requireWithin_22 : decode cX3_requireWithin 22 = .ok (.ldc 245, 2) := by decide +kernel
theorem dX3_requireWithin_24 : decode cX3_requireWithin 24 = .ok (.invokespecial 72, 3) := by decide +kernel
theorem dX3_requireWithin_27 : decode cX3_requireWithin 27 = .ok (.athrow, 1) := by decide +kernel
theorem dX3_requireWithin_28 : decode cX3_requireWithin 28 = .ok (.return_, 1) := by decide +kernel
theorem dX3_placesWith_0 : decode cX3_placesWith 0 = .ok (.iconst 0, 1) := by decide +kernel
theorem dX3_placesWith_1 : decode cX3_placesWith 1 = .ok (.istore_n 3, 1) := by decide +kernel
theorem dX3_placesWith_2 : decode cX3_placesWith 2 = .ok (.iconst 0, 1) := by decide +kernel
theorem dX3_placesWith_3 : decode cX3_placesWith 3 = .ok (.istore 4, 2) := by decide +kernel
theorem dX3_placesWith_5 : decode cX3_placesWith 5 = .ok (.iload 4, 2) := by decide +kernel
theorem dX3_placesWith_7 : decode cX3_placesWith 7 = .ok (.bipush 10, 2) := by decide +kernel
theorem dX3_placesWith_9 : decode cX3_placesWith 9 = .ok (.if_icmp .ge 23, 3) := by decide +kernel
theorem dX3_placesWith_12 : decode cX3_placesWith 12 = .ok (.aload_n 1, 1) := by decide +kernel
theorem dX3_placesWith_13 : decode cX3_placesWith 13 = .ok (.getfield 124, 3) := by decide +kernel
theorem dX3_placesWith_16 : decode cX3_placesWith 16 = .ok (.iload 4, 2) := by decide +kernel
theorem dX3_placesWith_18 : decode cX3_placesWith 18 = .ok (.iaload, 1) := by decide +kernel
theorem dX3_placesWith_19 : decode cX3_placesWith 19 = .ok (.iload_n 2, 1) := by decide +kernel
theorem dX3_placesWith_20 : decode cX3_placesWith 20 = .ok (.if_icmp .ne 6, 3) := by decide +kernel
theorem dX3_placesWith_23 : decode cX3_placesWith 23 = .ok (.iinc 3 1, 3) := by decide +kernel
theorem dX3_placesWith_26 : decode cX3_placesWith 26 = .ok (.iinc 4 1, 3) := by decide +kernel
theorem dX3_placesWith_29 : decode cX3_placesWith 29 = .ok (.goto (-24), 3) := by decide +kernel
theorem dX3_placesWith_32 : decode cX3_placesWith 32 = .ok (.iload_n 3, 1) := by decide +kernel
theorem dX3_placesWith_33 : decode cX3_placesWith 33 = .ok (.ireturn, 1) := by decide +kernel
theorem dX3_seatsLeft_0 : decode cX3_seatsLeft 0 = .ok (.aload_n 1, 1) := by decide +kernel
theorem dX3_seatsLeft_1 : decode cX3_seatsLeft 1 = .ok (.getfield 113, 3) := by decide +kernel
theorem dX3_seatsLeft_4 : decode cX3_seatsLeft 4 = .ok (.bipush 10, 2) := by decide +kernel
theorem dX3_seatsLeft_6 : decode cX3_seatsLeft 6 = .ok (.aload_n 0, 1) := by decide +kernel
theorem dX3_seatsLeft_7 : decode cX3_seatsLeft 7 = .ok (.aload_n 1, 1) := by decide +kernel
theorem dX3_seatsLeft_8 : decode cX3_seatsLeft 8 = .ok (.iconst 0, 1) := by decide +kernel
theorem dX3_seatsLeft_9 : decode cX3_seatsLeft 9 = .ok (.invokevirtual 155, 3) := by decide +kernel
theorem dX3_seatsLeft_12 : decode cX3_seatsLeft 12 = .ok (.isub, 1) := by decide +kernel
theorem dX3_seatsLeft_13 : decode cX3_seatsLeft 13 = .ok (.isub, 1) := by decide +kernel
theorem dX3_seatsLeft_14 : decode cX3_seatsLeft 14 = .ok (.ireturn, 1) := by decide +kernel
theorem dX3_isAboardSomewhere_0 : decode cX3_isAboardSomewhere 0 = .ok (.iconst 0, 1) := by decide +kernel
theorem dX3_isAboardSomewhere_1 : decode cX3_isAboardSomewhere 1 = .ok (.istore_n 2, 1) := by decide +kernel
theorem dX3_isAboardSomewhere_2 : decode cX3_isAboardSomewhere 2 = .ok (.iload_n 2, 1) := by decide +kernel
theorem dX3_isAboardSomewhere_3 : decode cX3_isAboardSomewhere 3 = .ok (.aload_n 0, 1) := by decide +kernel
theorem dX3_isAboardSomewhere_4 : decode cX3_isAboardSomewhere 4 = .ok (.getfield 35, 3) := by decide +kernel
theorem dX3_isAboardSomewhere_7 : decode cX3_isAboardSomewhere 7 = .ok (.if_icmp .ge 26, 3) := by decide +kernel
theorem dX3_isAboardSomewhere_10 : decode cX3_isAboardSomewhere 10 = .ok (.aload_n 0, 1) := by decide +kernel
theorem dX3_isAboardSomewhere_11 : decode cX3_isAboardSomewhere 11 = .ok (.getfield 21, 3) := by decide +kernel
theorem dX3_isAboardSomewhere_14 : decode cX3_isAboardSomewhere 14 = .ok (.iload_n 2, 1) := by decide +kernel
theorem dX3_isAboardSomewhere_15 : decode cX3_isAboardSomewhere 15 = .ok (.aaload, 1) := by decide +kernel
theorem dX3_isAboardSomewhere_16 : decode cX3_isAboardSomewhere 16 = .ok (.getfield 124, 3) := by decide +kernel
theorem dX3_isAboardSomewhere_19 : decode cX3_isAboardSomewhere 19 = .ok (.iload_n 1, 1) := by decide +kernel
theorem dX3_isAboardSomewhere_20 : decode cX3_isAboardSomewhere 20 = .ok (.iaload, 1) := by decide +kernel
theorem dX3_isAboardSomewhere_21 : decode cX3_isAboardSomewhere 21 = .ok (.iconst 2, 1) := by decide +kernel
theorem dX3_isAboardSomewhere_22 : decode cX3_isAboardSomewhere 22 = .ok (.if_icmp .ne 5, 3) := by decide +kernel
theorem dX3_isAboardSomewhere_25 : decode cX3_isAboardSomewhere 25 = .ok (.iconst 1, 1) := by decide +kernel
theorem dX3_isAboardSomewhere_26 : decode cX3_isAboardSomewhere 26 = .ok (.ireturn, 1) := by decide +kernel
theorem dX3_isAboardSomewhere_27 : decode cX3_isAboardSomewhere 27 = .ok (.iinc 2 1, 3) := by decide +kernel
theorem dX3_isAboardSomewhere_30 : decode cX3_isAboardSomewhere 30 = .ok (.goto (-28), 3) := by decide +kernel
theorem dX3_isAboardSomewhere_33 : decode cX3_isAboardSomewhere 33 = .ok (.iconst 0, 1) := by decide +kernel
theorem dX3_isAboardSomewhere_34 : decode cX3_isAboardSomewhere 34 = .ok (.ireturn, 1) := by decide +kernel
theorem dX3_isStampedFor_0 : decode cX3_isStampedFor 0 = .ok (.aload_n 1, 1) := by decide +kernel
theorem dX3_isStampedFor_1 : decode cX3_isStampedFor 1 = .ok (.getfield 88, 3) := by decide +kernel
theorem dX3_isStampedFor_4 : decode cX3_isStampedFor 4 = .ok (.iconst 1, 1) := by decide +kernel
theorem dX3_isStampedFor_5 : decode cX3_isStampedFor 5 = .ok (.if_icmp .ne 23, 3) := by decide +kernel
theorem dX3_isStampedFor_8 : decode cX3_isStampedFor 8 = .ok (.aload_n 1, 1) := by decide +kernel
theorem dX3_isStampedFor_9 : decode cX3_isStampedFor 9 = .ok (.getfield 76, 3) := by decide +kernel
theorem dX3_isStampedFor_12 : decode cX3_isStampedFor 12 = .ok (.iload_n 2, 1) := by decide +kernel
theorem dX3_isStampedFor_13 : decode cX3_isStampedFor 13 = .ok (.if_icmp .ne 15, 3) := by decide +kernel
theorem dX3_isStampedFor_16 : decode cX3_isStampedFor 16 = .ok (.aload_n 1, 1) := by decide +kernel
theorem dX3_isStampedFor_17 : decode cX3_isStampedFor 17 = .ok (.getfield 91, 3) := by decide +kernel
theorem dX3_isStampedFor_20 : decode cX3_isStampedFor 20 = .ok (.iload_n 3, 1) := by decide +kernel
theorem dX3_isStampedFor_21 : decode cX3_isStampedFor 21 = .ok (.if_icmp .ne 7, 3) := by decide +kernel
theorem dX3_isStampedFor_24 : decode cX3_isStampedFor 24 = .ok (.iconst 1, 1) := by decide +kernel
theorem dX3_isStampedFor_25 : decode cX3_isStampedFor 25 = .ok (.goto 4, 3) := by decide +kernel
theorem dX3_isStampedFor_28 : decode cX3_isStampedFor 28 = .ok (.iconst 0, 1) := by decide +kernel
theorem dX3_isStampedFor_29 : decode cX3_isStampedFor 29 = .ok (.ireturn, 1) := by decide +kernel
theorem dX3_takeStampOff_0 : decode cX3_takeStampOff 0 = .ok (.aload_n 1, 1) := by decide +kernel
theorem dX3_takeStampOff_1 : decode cX3_takeStampOff 1 = .ok (.iload_n 2, 1) := by decide +kernel
theorem dX3_takeStampOff_2 : decode cX3_takeStampOff 2 = .ok (.putfield 88, 3) := by decide +kernel
theorem dX3_takeStampOff_5 : decode cX3_takeStampOff 5 = .ok (.aload_n 1, 1) := by decide +kernel
theorem dX3_takeStampOff_6 : decode cX3_takeStampOff 6 = .ok (.iconst (-1), 1) := by decide +kernel
theorem dX3_takeStampOff_7 : decode cX3_takeStampOff 7 = .ok (.putfield 91, 3) := by decide +kernel
theorem dX3_takeStampOff_10 : decode cX3_takeStampOff 10 = .ok (.return_, 1) := by decide +kernel
theorem dX3_reopenStamped_0 : decode cX3_reopenStamped 0 = .ok (.iconst 0, 1) := by decide +kernel
theorem dX3_reopenStamped_1 : decode cX3_reopenStamped 1 = .ok (.istore_n 3, 1) := by decide +kernel
theorem dX3_reopenStamped_2 : decode cX3_reopenStamped 2 = .ok (.iconst 0, 1) := by decide +kernel
theorem dX3_reopenStamped_3 : decode cX3_reopenStamped 3 = .ok (.istore 4, 2) := by decide +kernel
theorem dX3_reopenStamped_5 : decode cX3_reopenStamped 5 = .ok (.iload 4, 2) := by decide +kernel
theorem dX3_reopenStamped_7 : decode cX3_reopenStamped 7 = .ok (.aload_n 0, 1) := by decide +kernel
theorem dX3_reopenStamped_8 : decode cX3_reopenStamped 8 = .ok (.getfield 31, 3) := by decide +kernel
theorem dX3_reopenStamped_11 : decode cX3_reopenStamped 11 = .ok (.if_icmp .ge 40, 3) := by decide +kernel
theorem dX3_reopenStamped_14 : decode cX3_reopenStamped 14 = .ok (.aload_n 0, 1) := by decide +kernel
theorem dX3_reopenStamped_15 : decode cX3_reopenStamped 15 = .ok (.aload_n 0, 1) := by decide +kernel
theorem dX3_reopenStamped_16 : decode cX3_reopenStamped 16 = .ok (.getfield 15, 3) := by decide +kernel
theorem dX3_reopenStamped_19 : decode cX3_reopenStamped 19 = .ok (.iload 4, 2) := by decide +kernel
theorem dX3_reopenStamped_21 : decode cX3_reopenStamped 21 = .ok (.aaload, 1) := by decide +kernel
theorem dX3_reopenStamped_22 : decode cX3_reopenStamped 22 = .ok (.iload_n 1, 1) := by decide +kernel
theorem dX3_reopenStamped_23 : decode cX3_reopenStamped 23 = .ok (.iload_n 2, 1) := by decide +kernel
theorem dX3_reopenStamped_24 : decode cX3_reopenStamped 24 = .ok (.invokevirtual 247, 3) := by decide +kernel
theorem dX3_reopenStamped_27 : decode cX3_reopenStamped 27 = .ok (.ifCond .eq 18, 3) := by decide +kernel
theorem dX3_reopenStamped_30 : decode cX3_reopenStamped 30 = .ok (.aload_n 0, 1) := by decide +kernel
theorem dX3_reopenStamped_31 : decode cX3_reopenStamped 31 = .ok (.aload_n 0, 1) := by decide +kernel
theorem dX3_reopenStamped_32 : decode cX3_reopenStamped 32 = .ok (.getfield 15, 3) := by decide +kernel
theorem dX3_reopenStamped_35 : decode cX3_reopenStamped 35 = .ok (.iload 4, 2) := by decide +kernel
theorem dX3_reopenStamped_37 : decode cX3_reopenStamped 37 = .ok (.aaload, 1) := by decide +kernel
theorem dX3_reopenStamped_38 : decode cX3_reopenStamped 38 = .ok (.iconst 0, 1) := by decide +kernel
theorem dX3_reopenStamped_39 : decode cX3_reopenStamped 39 = .ok (.invokevirtual 163, 3) := by decide +kernel
theorem dX3_reopenStamped_42 : decode cX3_reopenStamped 42 = .ok (.iinc 3 1, 3) := by decide +kernel
theorem dX3_reopenStamped_45 : decode cX3_reopenStamped 45 = .ok (.iinc 4 1, 3) := by decide +kernel
theorem dX3_reopenStamped_48 : decode cX3_reopenStamped 48 = .ok (.goto (-43), 3) := by decide +kernel
theorem dX3_reopenStamped_51 : decode cX3_reopenStamped 51 = .ok (.iload_n 3, 1) := by decide +kernel
theorem dX3_reopenStamped_52 : decode cX3_reopenStamped 52 = .ok (.ireturn, 1) := by decide +kernel
theorem dX3_sailAllOfNow_0 : decode cX3_sailAllOfNow 0 = .ok (.iconst 0, 1) := by decide +kernel
theorem dX3_sailAllOfNow_1 : decode cX3_sailAllOfNow 1 = .ok (.istore_n 1, 1) := by decide +kernel
theorem dX3_sailAllOfNow_2 : decode cX3_sailAllOfNow 2 = .ok (.iload_n 1, 1) := by decide +kernel
theorem dX3_sailAllOfNow_3 : decode cX3_sailAllOfNow 3 = .ok (.aload_n 0, 1) := by decide +kernel
theorem dX3_sailAllOfNow_4 : decode cX3_sailAllOfNow 4 = .ok (.getfield 35, 3) := by decide +kernel
theorem dX3_sailAllOfNow_7 : decode cX3_sailAllOfNow 7 = .ok (.if_icmp .ge 30, 3) := by decide +kernel
theorem dX3_sailAllOfNow_10 : decode cX3_sailAllOfNow 10 = .ok (.aload_n 0, 1) := by decide +kernel
theorem dX3_sailAllOfNow_11 : decode cX3_sailAllOfNow 11 = .ok (.getfield 21, 3) := by decide +kernel
theorem dX3_sailAllOfNow_14 : decode cX3_sailAllOfNow 14 = .ok (.iload_n 1, 1) := by decide +kernel
theorem dX3_sailAllOfNow_15 : decode cX3_sailAllOfNow 15 = .ok (.aaload, 1) := by decide +kernel
theorem dX3_sailAllOfNow_16 : decode cX3_sailAllOfNow 16 = .ok (.getfield 110, 3) := by decide +kernel
theorem dX3_sailAllOfNow_19 : decode cX3_sailAllOfNow 19 = .ok (.aload_n 0, 1) := by decide +kernel
theorem dX3_sailAllOfNow_20 : decode cX3_sailAllOfNow 20 = .ok (.getfield 38, 3) := by decide +kernel
theorem dX3_sailAllOfNow_23 : decode cX3_sailAllOfNow 23 = .ok (.if_icmp .ne 8, 3) := by decide +kernel
theorem dX3_sailAllOfNow_26 : decode cX3_sailAllOfNow 26 = .ok (.aload_n 0, 1) := by decide +kernel
theorem dX3_sailAllOfNow_27 : decode cX3_sailAllOfNow 27 = .ok (.iload_n 1, 1) := by decide +kernel
theorem dX3_sailAllOfNow_28 : decode cX3_sailAllOfNow 28 = .ok (.invokevirtual 251, 3) := by decide +kernel
theorem dX3_sailAllOfNow_31 : decode cX3_sailAllOfNow 31 = .ok (.iinc 1 1, 3) := by decide +kernel
theorem dX3_sailAllOfNow_34 : decode cX3_sailAllOfNow 34 = .ok (.goto (-32), 3) := by decide +kernel
theorem dX3_sailAllOfNow_37 : decode cX3_sailAllOfNow 37 = .ok (.return_, 1) := by decide +kernel
theorem dX3_sail_0 : decode cX3_sail 0 = .ok (.aload_n 0, 1) := by decide +kernel
theorem dX3_sail_1 : decode cX3_sail 1 = .ok (.getfield 21, 3) := by decide +kernel
theorem dX3_sail_4 : decode cX3_sail 4 = .ok (.iload_n 1, 1) := by decide +kernel
theorem dX3_sail_5 : decode cX3_sail 5 = .ok (.aaload, 1) := by decide +kernel
theorem dX3_sail_6 : decode cX3_sail 6 = .ok (.getfield 124, 3) := by decide +kernel
theorem dX3_sail_9 : decode cX3_sail 9 = .ok (.astore_n 2, 1) := by decide +kernel
theorem dX3_sail_10 : decode cX3_sail 10 = .ok (.iconst 0, 1) := by decide +kernel
theorem dX3_sail_11 : decode cX3_sail 11 = .ok (.istore_n 3, 1) := by decide +kernel
theorem dX3_sail_12 : decode cX3_sail 12 = .ok (.iload_n 3, 1) := by decide +kernel
theorem dX3_sail_13 : decode cX3_sail 13 = .ok (.bipush 10, 2) := by decide +kernel
theorem dX3_sail_15 : decode cX3_sail 15 = .ok (.if_icmp .ge 82, 3) := by decide +kernel
theorem dX3_sail_18 : decode cX3_sail 18 = .ok (.aload_n 2, 1) := by decide +kernel
theorem dX3_sail_19 : decode cX3_sail 19 = .ok (.iload_n 3, 1) := by decide +kernel
theorem dX3_sail_20 : decode cX3_sail 20 = .ok (.iaload, 1) := by decide +kernel
theorem dX3_sail_21 : decode cX3_sail 21 = .ok (.iconst 2, 1) := by decide +kernel
theorem dX3_sail_22 : decode cX3_sail 22 = .ok (.if_icmp .ne 41, 3) := by decide +kernel
theorem dX3_sail_25 : decode cX3_sail 25 = .ok (.aload_n 2, 1) := by decide +kernel
theorem dX3_sail_26 : decode cX3_sail 26 = .ok (.iload_n 3, 1) := by decide +kernel
theorem dX3_sail_27 : decode cX3_sail 27 = .ok (.iconst 3, 1) := by decide +kernel
theorem dX3_sail_28 : decode cX3_sail 28 = .ok (.iastore, 1) := by decide +kernel
theorem dX3_sail_29 : decode cX3_sail 29 = .ok (.aload_n 0, 1) := by decide +kernel
theorem dX3_sail_30 : decode cX3_sail 30 = .ok (.getfield 27, 3) := by decide +kernel
theorem dX3_sail_33 : decode cX3_sail 33 = .ok (.iload_n 3, 1) := by decide +kernel
theorem dX3_sail_34 : decode cX3_sail 34 = .ok (.aaload, 1) := by decide +kernel
theorem dX3_sail_35 : decode cX3_sail 35 = .ok (.iconst 1, 1) := by decide +kernel
theorem dX3_sail_36 : decode cX3_sail 36 = .ok (.putfield 170, 3) := by decide +kernel
theorem dX3_sail_39 : decode cX3_sail 39 = .ok (.aload_n 0, 1) := by decide +kernel
theorem dX3_sail_40 : decode cX3_sail 40 = .ok (.getfield 27, 3) := by decide +kernel
theorem dX3_sail_43 : decode cX3_sail 43 = .ok (.iload_n 3, 1) := by decide +kernel
theorem dX3_sail_44 : decode cX3_sail 44 = .ok (.aaload, 1) := by decide +kernel
theorem dX3_sail_45 : decode cX3_sail 45 = .ok (.dup, 1) := by decide +kernel
theorem dX3_sail_46 : decode cX3_sail 46 = .ok (.getfield 176, 3) := by decide +kernel
theorem dX3_sail_49 : decode cX3_sail 49 = .ok (.iconst 1, 1) := by decide +kernel
theorem dX3_sail_50 : decode cX3_sail 50 = .ok (.iadd, 1) := by decide +kernel
theorem dX3_sail_51 : decode cX3_sail 51 = .ok (.putfield 176, 3) := by decide +kernel
theorem dX3_sail_54 : decode cX3_sail 54 = .ok (.aload_n 0, 1) := by decide +kernel
theorem dX3_sail_55 : decode cX3_sail 55 = .ok (.iload_n 3, 1) := by decide +kernel
theorem dX3_sail_56 : decode cX3_sail 56 = .ok (.iload_n 1, 1) := by decide +kernel
theorem dX3_sail_57 : decode cX3_sail 57 = .ok (.invokevirtual 254, 3) := by decide +kernel
theorem dX3_sail_60 : decode cX3_sail 60 = .ok (.goto 31, 3) := by decide +kernel
theorem dX3_sail_63 : decode cX3_sail 63 = .ok (.aload_n 2, 1) := by decide +kernel
theorem dX3_sail_64 : decode cX3_sail 64 = .ok (.iload_n 3, 1) := by decide +kernel
theorem dX3_sail_65 : decode cX3_sail 65 = .ok (.iaload, 1) := by decide +kernel
theorem dX3_sail_66 : decode cX3_sail 66 = .ok (.iconst 1, 1) := by decide +kernel
theorem dX3_sail_67 : decode cX3_sail 67 = .ok (.if_icmp .ne 24, 3) := by decide +kernel
theorem dX3_sail_70 : decode cX3_sail 70 = .ok (.aload_n 0, 1) := by decide +kernel
theorem dX3_sail_71 : decode cX3_sail 71 = .ok (.getfield 27, 3) := by decide +kernel
theorem dX3_sail_74 : decode cX3_sail 74 = .ok (.iload_n 3, 1) := by decide +kernel
theorem dX3_sail_75 : decode cX3_sail 75 = .ok (.aaload, 1) := by decide +kernel
theorem dX3_sail_76 : decode cX3_sail 76 = .ok (.dup, 1) := by decide +kernel
theorem dX3_sail_77 : decode cX3_sail 77 = .ok (.getfield 221, 3) := by decide +kernel
theorem dX3_sail_80 : decode cX3_sail 80 = .ok (.iconst 1, 1) := by decide +kernel
theorem dX3_sail_81 : decode cX3_sail 81 = .ok (.iadd, 1) := by decide +kernel
theorem dX3_sail_82 : decode cX3_sail 82 = .ok (.putfield 221, 3) := by decide +kernel
theorem dX3_sail_85 : decode cX3_sail 85 = .ok (.aload_n 0, 1) := by decide +kernel
theorem dX3_sail_86 : decode cX3_sail 86 = .ok (.iload_n 3, 1) := by decide +kernel
theorem dX3_sail_87 : decode cX3_sail 87 = .ok (.iload_n 1, 1) := by decide +kernel
theorem dX3_sail_88 : decode cX3_sail 88 = .ok (.invokevirtual 258, 3) := by decide +kernel
theorem dX3_sail_91 : decode cX3_sail 91 = .ok (.iinc 3 1, 3) := by decide +kernel
theorem dX3_sail_94 : decode cX3_sail 94 = .ok (.goto (-82), 3) := by decide +kernel
theorem dX3_sail_97 : decode cX3_sail 97 = .ok (.return_, 1) := by decide +kernel
theorem dX3_payStamped_0 : decode cX3_payStamped 0 = .ok (.sipush 500, 3) := by decide +kernel
theorem dX3_payStamped_3 : decode cX3_payStamped 3 = .ok (.istore_n 3, 1) := by decide +kernel
theorem dX3_payStamped_4 : decode cX3_payStamped 4 = .ok (.iconst 0, 1) := by decide +kernel
theorem dX3_payStamped_5 : decode cX3_payStamped 5 = .ok (.istore 4, 2) := by decide +kernel
theorem dX3_payStamped_7 : decode cX3_payStamped 7 = .ok (.iload 4, 2) := by decide +kernel
theorem dX3_payStamped_9 : decode cX3_payStamped 9 = .ok (.aload_n 0, 1) := by decide +kernel
theorem dX3_payStamped_10 : decode cX3_payStamped 10 = .ok (.getfield 31, 3) := by decide +kernel
theorem dX3_payStamped_13 : decode cX3_payStamped 13 = .ok (.if_icmp .ge 80, 3) := by decide +kernel
theorem dX3_payStamped_16 : decode cX3_payStamped 16 = .ok (.aload_n 0, 1) := by decide +kernel
theorem dX3_payStamped_17 : decode cX3_payStamped 17 = .ok (.getfield 15, 3) := by decide +kernel
theorem dX3_payStamped_20 : decode cX3_payStamped 20 = .ok (.iload 4, 2) := by decide +kernel
theorem dX3_payStamped_22 : decode cX3_payStamped 22 = .ok (.aaload, 1) := by decide +kernel
theorem dX3_payStamped_23 : decode cX3_payStamped 23 = .ok (.astore 5, 2) := by decide +kernel
theorem dX3_payStamped_25 : decode cX3_payStamped 25 = .ok (.aload_n 0, 1) := by decide +kernel
theorem dX3_payStamped_26 : decode cX3_payStamped 26 = .ok (.aload 5, 2) := by decide +kernel
theorem dX3_payStamped_28 : decode cX3_payStamped 28 = .ok (.iload_n 1, 1) := by decide +kernel
theorem dX3_payStamped_29 : decode cX3_payStamped 29 = .ok (.iload_n 2, 1) := by decide +kernel
theorem dX3_payStamped_30 : decode cX3_payStamped 30 = .ok (.invokevirtual 247, 3) := by decide +kernel
theorem dX3_payStamped_33 : decode cX3_payStamped 33 = .ok (.ifCond .eq 54, 3) := by decide +kernel
theorem dX3_payStamped_36 : decode cX3_payStamped 36 = .ok (.aload 5, 2) := by decide +kernel
theorem dX3_payStamped_38 : decode cX3_payStamped 38 = .ok (.iconst 2, 1) := by decide +kernel
theorem dX3_payStamped_39 : decode cX3_payStamped 39 = .ok (.putfield 88, 3) := by decide +kernel
theorem dX3_payStamped_42 : decode cX3_payStamped 42 = .ok (.aload 5, 2) := by decide +kernel
theorem dX3_payStamped_44 : decode cX3_payStamped 44 = .ok (.aload_n 0, 1) := by decide +kernel
theorem dX3_payStamped_45 : decode cX3_payStamped 45 = .ok (.aload 5, 2) := by decide +kernel
theorem dX3_payStamped_47 : decode cX3_payStamped 47 = .ok (.getfield 82, 3) := by decide +kernel
theorem dX3_payStamped_50 : decode cX3_payStamped 50 = .ok (.invokevirtual 261, 3) := by decide +kernel
theorem dX3_payStamped_53 : decode cX3_payStamped 53 = .ok (.iload_n 3, 1) := by decide +kernel
theorem dX3_payStamped_54 : decode cX3_payStamped 54 = .ok (.invokestatic 265, 3) := by decide +kernel
theorem dX3_payStamped_57 : decode cX3_payStamped 57 = .ok (.putfield 186, 3) := by decide +kernel
theorem dX3_payStamped_60 : decode cX3_payStamped 60 = .ok (.iload_n 3, 1) := by decide +kernel
theorem dX3_payStamped_61 : decode cX3_payStamped 61 = .ok (.aload 5, 2) := by decide +kernel
theorem dX3_payStamped_63 : decode cX3_payStamped 63 = .ok (.getfield 186, 3) := by decide +kernel
theorem dX3_payStamped_66 : decode cX3_payStamped 66 = .ok (.isub, 1) := by decide +kernel
theorem dX3_payStamped_67 : decode cX3_payStamped 67 = .ok (.istore_n 3, 1) := by decide +kernel
theorem dX3_payStamped_68 : decode cX3_payStamped 68 = .ok (.aload_n 0, 1) := by decide +kernel
theorem dX3_payStamped_69 : decode cX3_payStamped 69 = .ok (.getfield 27, 3) := by decide +kernel
theorem dX3_payStamped_72 : decode cX3_payStamped 72 = .ok (.iload_n 1, 1) := by decide +kernel
theorem dX3_payStamped_73 : decode cX3_payStamped 73 = .ok (.aaload, 1) := by decide +kernel
theorem dX3_payStamped_74 : decode cX3_payStamped 74 = .ok (.dup, 1) := by decide +kernel
theorem dX3_payStamped_75 : decode cX3_payStamped 75 = .ok (.getfield 218, 3) := by decide +kernel
theorem dX3_payStamped_78 : decode cX3_payStamped 78 = .ok (.aload 5, 2) := by decide +kernel
theorem dX3_payStamped_80 : decode cX3_payStamped 80 = .ok (.getfield 186, 3) := by decide +kernel
theorem dX3_payStamped_83 : decode cX3_payStamped 83 = .ok (.iadd, 1) := by decide +kernel
theorem dX3_payStamped_84 : decode cX3_payStamped 84 = .ok (.putfield 218, 3) := by decide +kernel
theorem dX3_payStamped_87 : decode cX3_payStamped 87 = .ok (.iinc 4 1, 3) := by decide +kernel
theorem dX3_payStamped_90 : decode cX3_payStamped 90 = .ok (.goto (-83), 3) := by decide +kernel
theorem dX3_payStamped_93 : decode cX3_payStamped 93 = .ok (.return_, 1) := by decide +kernel
theorem dX3_wasteStamped_0 : decode cX3_wasteStamped 0 = .ok (.iconst 0, 1) := by decide +kernel
theorem dX3_wasteStamped_1 : decode cX3_wasteStamped 1 = .ok (.istore_n 3, 1) := by decide +kernel
theorem dX3_wasteStamped_2 : decode cX3_wasteStamped 2 = .ok (.iload_n 3, 1) := by decide +kernel
theorem dX3_wasteStamped_3 : decode cX3_wasteStamped 3 = .ok (.aload_n 0, 1) := by decide +kernel
theorem dX3_wasteStamped_4 : decode cX3_wasteStamped 4 = .ok (.getfield 31, 3) := by decide +kernel
theorem dX3_wasteStamped_7 : decode cX3_wasteStamped 7 = .ok (.if_icmp .ge 59, 3) := by decide +kernel
theorem dX3_wasteStamped_10 : decode cX3_wasteStamped 10 = .ok (.aload_n 0, 1) := by decide +kernel
theorem dX3_wasteStamped_11 : decode cX3_wasteStamped 11 = .ok (.getfield 15, 3) := by decide +kernel
theorem dX3_wasteStamped_14 : decode cX3_wasteStamped 14 = .ok (.iload_n 3, 1) := by decide +kernel
theorem dX3_wasteStamped_15 : decode cX3_wasteStamped 15 = .ok (.aaload, 1) := by decide +kernel
theorem dX3_wasteStamped_16 : decode cX3_wasteStamped 16 = .ok (.astore 4, 2) := by decide +kernel
theorem dX3_wasteStamped_18 : decode cX3_wasteStamped 18 = .ok (.aload_n 0, 1) := by decide +kernel
theorem dX3_wasteStamped_19 : decode cX3_wasteStamped 19 = .ok (.aload 4, 2) := by decide +kernel
theorem dX3_wasteStamped_21 : decode cX3_wasteStamped 21 = .ok (.iload_n 1, 1) := by decide +kernel
theorem dX3_wasteStamped_22 : decode cX3_wasteStamped 22 = .ok (.iload_n 2, 1) := by decide +kernel
theorem dX3_wasteStamped_23 : decode cX3_wasteStamped 23 = .ok (.invokevirtual 247, 3) := by decide +kernel
theorem dX3_wasteStamped_26 : decode cX3_wasteStamped 26 = .ok (.ifCond .eq 34, 3) := by decide +kernel
theorem dX3_wasteStamped_29 : decode cX3_wasteStamped 29 = .ok (.aload 4, 2) := by decide +kernel
theorem dX3_wasteStamped_31 : decode cX3_wasteStamped 31 = .ok (.dup, 1) := by decide +kernel
theorem dX3_wasteStamped_32 : decode cX3_wasteStamped 32 = .ok (.getfield 270, 3) := by decide +kernel
theorem dX3_wasteStamped_35 : decode cX3_wasteStamped 35 = .ok (.iconst 1, 1) := by decide +kernel
theorem dX3_wasteStamped_36 : decode cX3_wasteStamped 36 = .ok (.iadd, 1) := by decide +kernel
theorem dX3_wasteStamped_37 : decode cX3_wasteStamped 37 = .ok (.putfield 270, 3) := by decide +kernel
theorem dX3_wasteStamped_40 : decode cX3_wasteStamped 40 = .ok (.aload_n 0, 1) := by decide +kernel
theorem dX3_wasteStamped_41 : decode cX3_wasteStamped 41 = .ok (.aload 4, 2) := by decide +kernel
theorem dX3_wasteStamped_43 : decode cX3_wasteStamped 43 = .ok (.aload 4, 2) := by decide +kernel
theorem dX3_wasteStamped_45 : decode cX3_wasteStamped 45 = .ok (.getfield 270, 3) := by decide +kernel
theorem dX3_wasteStamped_48 : decode cX3_wasteStamped 48 = .ok (.iconst 2, 1) := by decide +kernel
theorem dX3_wasteStamped_49 : decode cX3_wasteStamped 49 = .ok (.if_icmp .lt 7, 3) := by decide +kernel
theorem dX3_wasteStamped_52 : decode cX3_wasteStamped 52 = .ok (.iconst 3, 1) := by decide +kernel
theorem dX3_wasteStamped_53 : decode cX3_wasteStamped 53 = .ok (.goto 4, 3) := by decide +kernel
theorem dX3_wasteStamped_56 : decode cX3_wasteStamped 56 = .ok (.iconst 0, 1) := by decide +kernel
theorem dX3_wasteStamped_57 : decode cX3_wasteStamped 57 = .ok (.invokevirtual 163, 3) := by decide +kernel
theorem dX3_wasteStamped_60 : decode cX3_wasteStamped 60 = .ok (.iinc 3 1, 3) := by decide +kernel
theorem dX3_wasteStamped_63 : decode cX3_wasteStamped 63 = .ok (.goto (-61), 3) := by decide +kernel
theorem dX3_wasteStamped_66 : decode cX3_wasteStamped 66 = .ok (.return_, 1) := by decide +kernel
theorem dX3_refundOfTax_0 : decode cX3_refundOfTax 0 = .ok (.iload_n 1, 1) := by decide +kernel
theorem dX3_refundOfTax_1 : decode cX3_refundOfTax 1 = .ok (.iload_n 1, 1) := by decide +kernel
theorem dX3_refundOfTax_2 : decode cX3_refundOfTax 2 = .ok (.bipush 9, 2) := by decide +kernel
theorem dX3_refundOfTax_4 : decode cX3_refundOfTax 4 = .ok (.iadd, 1) := by decide +kernel
theorem dX3_refundOfTax_5 : decode cX3_refundOfTax 5 = .ok (.bipush 10, 2) := by decide +kernel
theorem dX3_refundOfTax_7 : decode cX3_refundOfTax 7 = .ok (.idiv, 1) := by decide +kernel
theorem dX3_refundOfTax_8 : decode cX3_refundOfTax 8 = .ok (.isub, 1) := by decide +kernel
theorem dX3_refundOfTax_9 : decode cX3_refundOfTax 9 = .ok (.ireturn, 1) := by decide +kernel
theorem dX3_refundsOfSailing_0 : decode cX3_refundsOfSailing 0 = .ok (.iconst 0, 1) := by decide +kernel
theorem dX3_refundsOfSailing_1 : decode cX3_refundsOfSailing 1 = .ok (.istore_n 3, 1) := by decide +kernel
theorem dX3_refundsOfSailing_2 : decode cX3_refundsOfSailing 2 = .ok (.iconst 0, 1) := by decide +kernel
theorem dX3_refundsOfSailing_3 : decode cX3_refundsOfSailing 3 = .ok (.istore 4, 2) := by decide +kernel
theorem dX3_refundsOfSailing_5 : decode cX3_refundsOfSailing 5 = .ok (.iload 4, 2) := by decide +kernel
theorem dX3_refundsOfSailing_7 : decode cX3_refundsOfSailing 7 = .ok (.aload_n 0, 1) := by decide +kernel
theorem dX3_refundsOfSailing_8 : decode cX3_refundsOfSailing 8 = .ok (.getfield 31, 3) := by decide +kernel
theorem dX3_refundsOfSailing_11 : decode cX3_refundsOfSailing 11 = .ok (.if_icmp .ge 48, 3) := by decide +kernel
theorem dX3_refundsOfSailing_14 : decode cX3_refundsOfSailing 14 = .ok (.aload_n 0, 1) := by decide +kernel
theorem dX3_refundsOfSailing_15 : decode cX3_refundsOfSailing 15 = .ok (.getfield 15, 3) := by decide +kernel
theorem dX3_refundsOfSailing_18 : decode cX3_refundsOfSailing 18 = .ok (.iload 4, 2) := by decide +kernel
theorem dX3_refundsOfSailing_20 : decode cX3_refundsOfSailing 20 = .ok (.aaload, 1) := by decide +kernel
theorem dX3_refundsOfSailing_21 : decode cX3_refundsOfSailing 21 = .ok (.astore 5, 2) := by decide +kernel
theorem dX3_refundsOfSailing_23 : decode cX3_refundsOfSailing 23 = .ok (.aload 5, 2) := by decide +kernel
theorem dX3_refundsOfSailing_25 : decode cX3_refundsOfSailing 25 = .ok (.getfield 76, 3) := by decide +kernel
theorem dX3_refundsOfSailing_28 : decode cX3_refundsOfSailing 28 = .ok (.iload_n 1, 1) := by decide +kernel
theorem dX3_refundsOfSailing_29 : decode cX3_refundsOfSailing 29 = .ok (.if_icmp .ne 24, 3) := by decide +kernel
theorem dX3_refundsOfSailing_32 : decode cX3_refundsOfSailing 32 = .ok (.aload 5, 2) := by decide +kernel
theorem dX3_refundsOfSailing_34 : decode cX3_refundsOfSailing 34 = .ok (.getfield 91, 3) := by decide +kernel
theorem dX3_refundsOfSailing_37 : decode cX3_refundsOfSailing 37 = .ok (.iload_n 2, 1) := by decide +kernel
theorem dX3_refundsOfSailing_38 : decode cX3_refundsOfSailing 38 = .ok (.if_icmp .ne 15, 3) := by decide +kernel
theorem dX3_refundsOfSailing_41 : decode cX3_refundsOfSailing 41 = .ok (.iload_n 3, 1) := by decide +kernel
theorem dX3_refundsOfSailing_42 : decode cX3_refundsOfSailing 42 = .ok (.aload_n 0, 1) := by decide +kernel
theorem dX3_refundsOfSailing_43 : decode cX3_refundsOfSailing 43 = .ok (.aload 5, 2) := by decide +kernel
theorem dX3_refundsOfSailing_45 : decode cX3_refundsOfSailing 45 = .ok (.getfield 82, 3) := by decide +kernel
theorem dX3_refundsOfSailing_48 : decode cX3_refundsOfSailing 48 = .ok (.invokevirtual 261, 3) := by decide +kernel
theorem dX3_refundsOfSailing_51 : decode cX3_refundsOfSailing 51 = .ok (.iadd, 1) := by decide +kernel
theorem dX3_refundsOfSailing_52 : decode cX3_refundsOfSailing 52 = .ok (.istore_n 3, 1) := by decide +kernel
theorem dX3_refundsOfSailing_53 : decode cX3_refundsOfSailing 53 = .ok (.iinc 4 1, 3) := by decide +kernel
theorem dX3_refundsOfSailing_56 : decode cX3_refundsOfSailing 56 = .ok (.goto (-51), 3) := by decide +kernel
theorem dX3_refundsOfSailing_59 : decode cX3_refundsOfSailing 59 = .ok (.iload_n 3, 1) := by decide +kernel
theorem dX3_refundsOfSailing_60 : decode cX3_refundsOfSailing 60 = .ok (.sipush 500, 3) := by decide +kernel
theorem dX3_refundsOfSailing_63 : decode cX3_refundsOfSailing 63 = .ok (.invokestatic 265, 3) := by decide +kernel
theorem dX3_refundsOfSailing_66 : decode cX3_refundsOfSailing 66 = .ok (.ireturn, 1) := by decide +kernel
theorem dX3_appendBackwards_0 : decode cX3_appendBackwards 0 = .ok (.iload_n 2, 1) := by decide +kernel
theorem dX3_appendBackwards_1 : decode cX3_appendBackwards 1 = .ok (.istore_n 3, 1) := by decide +kernel
theorem dX3_appendBackwards_2 : decode cX3_appendBackwards 2 = .ok (.iconst 0, 1) := by decide +kernel
theorem dX3_appendBackwards_3 : decode cX3_appendBackwards 3 = .ok (.istore 4, 2) := by decide +kernel
theorem dX3_appendBackwards_5 : decode cX3_appendBackwards 5 = .ok (.iload 4, 2) := by decide +kernel
theorem dX3_appendBackwards_7 : decode cX3_appendBackwards 7 = .ok (.bipush 10, 2) := by decide +kernel
theorem dX3_appendBackwards_9 : decode cX3_appendBackwards 9 = .ok (.if_icmp .ge 36, 3) := by decide +kernel
theorem dX3_appendBackwards_12 : decode cX3_appendBackwards 12 = .ok (.iload 4, 2) := by decide +kernel
theorem dX3_appendBackwards_14 : decode cX3_appendBackwards 14 = .ok (.ifCond .eq 7, 3) := by decide +kernel
theorem dX3_appendBackwards_17 : decode cX3_appendBackwards 17 = .ok (.iload_n 3, 1) := by decide +kernel
theorem dX3_appendBackwards_18 : decode cX3_appendBackwards 18 = .ok (.ifCond .le 27, 3) := by decide +kernel
theorem dX3_appendBackwards_21 : decode cX3_appendBackwards 21 = .ok (.aload_n 1, 1) := by decide +kernel
theorem dX3_appendBackwards_22 : decode cX3_appendBackwards 22 = .ok (.bipush 48, 2) := by decide +kernel
theorem dX3_appendBackwards_24 : decode cX3_appendBackwards 24 = .ok (.iload_n 3, 1) := by decide +kernel
theorem dX3_appendBackwards_25 : decode cX3_appendBackwards 25 = .ok (.bipush 10, 2) := by decide +kernel
theorem dX3_appendBackwards_27 : decode cX3_appendBackwards 27 = .ok (.irem, 1) := by decide +kernel
theorem dX3_appendBackwards_28 : decode cX3_appendBackwards 28 = .ok (.iadd, 1) := by decide +kernel
theorem dX3_appendBackwards_29 : decode cX3_appendBackwards 29 = .ok (.i2c, 1) := by decide +kernel
theorem dX3_appendBackwards_30 : decode cX3_appendBackwards 30 = .ok (.invokevirtual 199, 3) := by decide +kernel
theorem dX3_appendBackwards_33 : decode cX3_appendBackwards 33 = .ok (.pop, 1) := by decide +kernel
theorem dX3_appendBackwards_34 : decode cX3_appendBackwards 34 = .ok (.iload_n 3, 1) := by decide +kernel
theorem dX3_appendBackwards_35 : decode cX3_appendBackwards 35 = .ok (.bipush 10, 2) := by decide +kernel
theorem dX3_appendBackwards_37 : decode cX3_appendBackwards 37 = .ok (.idiv, 1) := by decide +kernel
theorem dX3_appendBackwards_38 : decode cX3_appendBackwards 38 = .ok (.istore_n 3, 1) := by decide +kernel
theorem dX3_appendBackwards_39 : decode cX3_appendBackwards 39 = .ok (.iinc 4 1, 3) := by decide +kernel
theorem dX3_appendBackwards_42 : decode cX3_appendBackwards 42 = .ok (.goto (-37), 3) := by decide +kernel
theorem dX3_appendBackwards_45 : decode cX3_appendBackwards 45 = .ok (.return_, 1) := by decide +kernel
end
section
theorem dX4_init_0 : decode cX4_init 0 = .ok (.aload_n 0, 1) := by decide +kernel
theorem dX4_init_1 : decode cX4_init 1 = .ok (.invokespecial 1, 3) := by decide +kernel
theorem dX4_init_4 : decode cX4_init 4 = .ok (.aload_n 0, 1) := by decide +kernel
theorem dX4_init_5 : decode cX4_init 5 = .ok (.iconst 4, 1) := by decide +kernel
theorem dX4_init_6 : decode cX4_init 6 = .ok (.newarray .int, 2) := by decide +kernel
theorem dX4_init_8 : decode cX4_init 8 = .ok (.putfield 7, 3) := by decide +kernel
theorem dX4_init_11 : decode cX4_init 11 = .ok (.aload_n 0, 1) := by decide +kernel
theorem dX4_init_12 : decode cX4_init 12 = .ok (.bipush 60, 2) := by decide +kernel
theorem dX4_init_14 : decode cX4_init 14 = .ok (.newarray .int, 2) := by decide +kernel
theorem dX4_init_16 : decode cX4_init 16 = .ok (.putfield 13, 3) := by decide +kernel
theorem dX4_init_19 : decode cX4_init 19 = .ok (.aload_n 0, 1) := by decide +kernel
theorem dX4_init_20 : decode cX4_init 20 = .ok (.bipush 60, 2) := by decide +kernel
theorem dX4_init_22 : decode cX4_init 22 = .ok (.newarray .int, 2) := by decide +kernel
theorem dX4_init_24 : decode cX4_init 24 = .ok (.putfield 16, 3) := by decide +kernel
theorem dX4_init_27 : decode cX4_init 27 = .ok (.aload_n 0, 1) := by decide +kernel
theorem dX4_init_28 : decode cX4_init 28 = .ok (.bipush 60, 2) := by decide +kernel
theorem dX4_init_30 : decode cX4_init 30 = .ok (.newarray .int, 2) := by decide +kernel
theorem dX4_init_32 : decode cX4_init 32 = .ok (.putfield 19, 3) := by decide +kernel
theorem dX4_init_35 : decode cX4_init 35 = .ok (.aload_n 0, 1) := by decide +kernel
theorem dX4_init_36 : decode cX4_init 36 = .ok (.bipush 60, 2) := by decide +kernel
theorem dX4_init_38 : decode cX4_init 38 = .ok (.newarray .int, 2) := by decide +kernel
theorem dX4_init_40 : decode cX4_init 40 = .ok (.putfield 22, 3) := by decide +kernel
theorem dX4_init_43 : decode cX4_init 43 = .ok (.aload_n 0, 1) := by decide +kernel
theorem dX4_init_44 : decode cX4_init 44 = .ok (.bipush 60, 2) := by decide +kernel
theorem dX4_init_46 : decode cX4_init 46 = .ok (.newarray .int, 2) := by decide +kernel
theorem dX4_init_48 : decode cX4_init 48 = .ok (.putfield 25, 3) := by decide +kernel
theorem dX4_init_51 : decode cX4_init 51 = .ok (.aload_n 0, 1) := by decide +kernel
theorem dX4_init_52 : decode cX4_init 52 = .ok (.bipush 60, 2) := by decide +kernel
theorem dX4_init_54 : decode cX4_init 54 = .ok (.newarray .int, 2) := by decide +kernel
theorem dX4_init_56 : decode cX4_init 56 = .ok (.putfield 28, 3) := by decide +kernel
theorem dX4_init_59 : decode cX4_init 59 = .ok (.aload_n 0, 1) := by decide +kernel
theorem dX4_init_60 : decode cX4_init 60 = .ok (.bipush 60, 2) := by decide +kernel
theorem dX4_init_62 : decode cX4_init 62 = .ok (.newarray .int, 2) := by decide +kernel
theorem dX4_init_64 : decode cX4_init 64 = .ok (.putfield 31, 3) := by decide +kernel
theorem dX4_init_67 : decode cX4_init 67 = .ok (.aload_n 0, 1) := by decide +kernel
theorem dX4_init_68 : decode cX4_init 68 = .ok (.bipush 60, 2) := by decide +kernel
theorem dX4_init_70 : decode cX4_init 70 = .ok (.newarray .int, 2) := by decide +kernel
theorem dX4_init_72 : decode cX4_init 72 = .ok (.putfield 34, 3) := by decide +kernel
theorem dX4_init_75 : decode cX4_init 75 = .ok (.aload_n 0, 1) := by decide +kernel
theorem dX4_init_76 : decode cX4_init 76 = .ok (.bipush 60, 2) := by decide +kernel
theorem dX4_init_78 : decode cX4_init 78 = .ok (.newarray .int, 2) := by decide +kernel
theorem dX4_init_80 : decode cX4_init 80 = .ok (.putfield 37, 3) := by decide +kernel
theorem dX4_init_83 : decode cX4_init 83 = .ok (.aload_n 0, 1) := by decide +kernel
theorem dX4_init_84 : decode cX4_init 84 = .ok (.bipush 20, 2) := by decide +kernel
theorem dX4_init_86 : decode cX4_init 86 = .ok (.newarray .int, 2) := by decide +kernel
theorem dX4_init_88 : decode cX4_init 88 = .ok (.putfield 40, 3) := by decide +kernel
theorem dX4_init_91 : decode cX4_init 91 = .ok (.aload_n 0, 1) := by decide +kernel
theorem dX4_init_92 : decode cX4_init 92 = .ok (.bipush 20, 2) := by decide +kernel
theorem dX4_init_94 : decode cX4_init 94 = .ok (.newarray .int, 2) := by decide +kernel
theorem dX4_init_96 : decode cX4_init 96 = .ok (.putfield 43, 3) := by decide +kernel
theorem dX4_init_99 : decode cX4_init 99 = .ok (.aload_n 0, 1) := by decide +kernel
theorem dX4_init_100 : decode cX4_init 100 = .ok (.bipush 20, 2) := by decide +kernel
theorem dX4_init_102 : decode cX4_init 102 = .ok (.newarray .int, 2) := by decide +kernel
theorem dX4_init_104 : decode cX4_init 104 = .ok (.putfield 46, 3) := by decide +kernel
theorem dX4_init_107 : decode cX4_init 107 = .ok (.aload_n 0, 1) := by decide +kernel
theorem dX4_init_108 : decode cX4_init 108 = .ok (.bipush 20, 2) := by decide +kernel
theorem dX4_init_110 : decode cX4_init 110 = .ok (.newarray .int, 2) := by decide +kernel
theorem dX4_init_112 : decode cX4_init 112 = .ok (.putfield 49, 3) := by decide +kernel
theorem dX4_init_115 : decode cX4_init 115 = .ok (.aload_n 0, 1) := by decide +kernel
theorem dX4_init_116 : decode cX4_init 116 = .ok (.bipush 10, 2) := by decide +kernel
theorem dX4_init_118 : decode cX4_init 118 = .ok (.newarray .int, 2) := by decide +kernel
theorem dX4_init_120 : decode cX4_init 120 = .ok (.putfield 52, 3) := by decide +kernel
theorem dX4_init_123 : decode cX4_init 123 = .ok (.aload_n 0, 1) := by decide +kernel
theorem dX4_init_124 : decode cX4_init 124 = .ok (.bipush 10, 2) := by decide +kernel
theorem dX4_init_126 : decode cX4_init 126 = .ok (.newarray .int, 2) := by decide +kernel
theorem dX4_init_128 : decode cX4_init 128 = .ok (.putfield 55, 3) := by decide +kernel
theorem dX4_init_131 : decode cX4_init 131 = .ok (.aload_n 0, 1) := by decide +kernel
theorem dX4_init_132 : decode cX4_init 132 = .ok (.bipush 10, 2) := by decide +kernel
theorem dX4_init_134 : decode cX4_init 134 = .ok (.newarray .int, 2) := by decide +kernel
theorem dX4_init_136 : decode cX4_init 136 = .ok (.putfield 58, 3) := by decide +kernel
theorem dX4_init_139 : decode cX4_init 139 = .ok (.aload_n 0, 1) := by decide +kernel
theorem dX4_init_140 : decode cX4_init 140 = .ok (.bipush 10, 2) := by decide +kernel
theorem dX4_init_142 : decode cX4_init 142 = .ok (.newarray .int, 2) := by decide +kernel
theorem dX4_init_144 : decode cX4_init 144 = .ok (.putfield 61, 3) := by decide +kernel
theorem dX4_init_147 : decode cX4_init 147 = .ok (.aload_n 0, 1) := by decide +kernel
theorem dX4_init_148 : decode cX4_init 148 = .ok (.bipush 10, 2) := by decide +kernel
theorem dX4_init_150 : decode cX4_init 150 = .ok (.newarray .int, 2) := by decide +kernel
theorem dX4_init_152 : decode cX4_init 152 = .ok (.putfield 64, 3) := by decide +kernel
theorem dX4_init_155 : decode cX4_init 155 = .ok (.aload_n 0, 1) := by decide +kernel
theorem dX4_init_156 : decode cX4_init 156 = .ok (.bipush 10, 2) := by decide +kernel
theorem dX4_init_158 : decode cX4_init 158 = .ok (.newarray .int, 2) := by decide +kernel
theorem dX4_init_160 : decode cX4_init 160 = .ok (.putfield 67, 3) := by decide +kernel
theorem dX4_init_163 : decode cX4_init 163 = .ok (.aload_n 0, 1) := by decide +kernel
theorem dX4_init_164 : decode cX4_init 164 = .ok (.bipush 10, 2) := by decide +kernel
theorem dX4_init_166 : decode cX4_init 166 = .ok (.newarray .int, 2) := by decide +kernel
theorem dX4_init_168 : decode cX4_init 168 = .ok (.putfield 70, 3) := by decide +kernel
theorem dX4_init_171 : decode cX4_init 171 = .ok (.iconst 0, 1) := by decide +kernel
theorem dX4_init_172 : decode cX4_init 172 = .ok (.istore_n 1, 1) := by decide +kernel
theorem dX4_init_173 : decode cX4_init 173 = .ok (.iload_n 1, 1) := by decide +kernel
theorem dX4_init_174 : decode cX4_init 174 = .ok (.iconst 4, 1) := by decide +kernel
theorem dX4_init_175 : decode cX4_init 175 = .ok (.if_icmp .ge 17, 3) := by decide +kernel
theorem dX4_init_178 : decode cX4_init 178 = .ok (.aload_n 0, 1) := by decide +kernel
theorem dX4_init_179 : decode cX4_init 179 = .ok (.getfield 7, 3) := by decide +kernel
theorem dX4_init_182 : decode cX4_init 182 = .ok (.iload_n 1, 1) := by decide +kernel
theorem dX4_init_183 : decode cX4_init 183 = .ok (.bipush 10, 2) := by decide +kernel
theorem dX4_init_185 : decode cX4_init 185 = .ok (.iastore, 1) := by decide +kernel
theorem dX4_init_186 : decode cX4_init 186 = .ok (.iinc 1 1, 3) := by decide +kernel
theorem dX4_init_189 : decode cX4_init 189 = .ok (.goto (-16), 3) := by decide +kernel
theorem dX4_init_192 : decode cX4_init 192 = .ok (.iconst 0, 1) := by decide +kernel
theorem dX4_init_193 : decode cX4_init 193 = .ok (.istore_n 1, 1) := by decide +kernel
theorem dX4_init_194 : decode cX4_init 194 = .ok (.iload_n 1, 1) := by decide +kernel
theorem dX4_init_195 : decode cX4_init 195 = .ok (.bipush 10, 2) := by decide +kernel
theorem dX4_init_197 : decode cX4_init 197 = .ok (.if_icmp .ge 16, 3) := by decide +kernel
theorem dX4_init_200 : decode cX4_init 200 = .ok (.aload_n 0, 1) := by decide +kernel
theorem dX4_init_201 : decode cX4_init 201 = .ok (.getfield 52, 3) := by decide +kernel
theorem dX4_init_204 : decode cX4_init 204 = .ok (.iload_n 1, 1) := by decide +kernel
theorem dX4_init_205 : decode cX4_init 205 = .ok (.iconst (-1), 1) := by decide +kernel
theorem dX4_init_206 : decode cX4_init 206 = .ok (.iastore, 1) := by decide +kernel
theorem dX4_init_207 : decode cX4_init 207 = .ok (.iinc 1 1, 3) := by decide +kernel
theorem dX4_init_210 : decode cX4_init 210 = .ok (.goto (-16), 3) := by decide +kernel
theorem dX4_init_213 : decode cX4_init 213 = .ok (.return_, 1) := by decide +kernel
theorem dX4_thrown_0 : decode cX4_thrown 0 = .ok (.aload_n 0, 1) := by decide +kernel
theorem dX4_thrown_1 : decode cX4_thrown 1 = .ok (.getfield 73, 3) := by decide +kernel
theorem dX4_thrown_4 : decode cX4_thrown 4 = .ok (.ireturn, 1) := by decide +kernel
theorem dX4_holds_0 : decode cX4_holds 0 = .ok (.aload_n 0, 1) := by decide +kernel
theorem dX4_holds_1 : decode cX4_holds 1 = .ok (.iload_n 1, 1) := by decide +kernel
theorem dX4_holds_2 : decode cX4_holds 2 = .ok (.putfield 73, 3) := by decide +kernel
theorem dX4_holds_5 : decode cX4_holds 5 = .ok (.iload_n 1, 1) := by decide +kernel
theorem dX4_holds_6 : decode cX4_holds 6 = .ok (.ifCond .le 7, 3) := by decide +kernel
theorem dX4_holds_9 : decode cX4_holds 9 = .ok (.iconst 1, 1) := by decide +kernel
theorem dX4_holds_10 : decode cX4_holds 10 = .ok (.goto 4, 3) := by decide +kernel
theorem dX4_holds_13 : decode cX4_holds 13 = .ok (.iconst 0, 1) := by decide +kernel
theorem dX4_holds_14 : decode cX4_holds 14 = .ok (.ireturn, 1) := by decide +kernel
theorem dX4_in_0 : decode cX4_in 0 = .ok (.iload_n 1, 1) := by decide +kernel
theorem dX4_in_1 : decode cX4_in 1 = .ok (.iload_n 2, 1) := by decide +kernel
theorem dX4_in_2 : decode cX4_in 2 = .ok (.if_icmp .lt 12, 3) := by decide +kernel
theorem dX4_in_5 : decode cX4_in 5 = .ok (.iload_n 1, 1) := by decide +kernel
theorem dX4_in_6 : decode cX4_in 6 = .ok (.iload_n 3, 1) := by decide +kernel
theorem dX4_in_7 : decode cX4_in 7 = .ok (.if_icmp .gt 7, 3) := by decide +kernel
theorem dX4_in_10 : decode cX4_in 10 = .ok (.iconst 1, 1) := by decide +kernel
theorem dX4_in_11 : decode cX4_in 11 = .ok (.goto 4, 3) := by decide +kernel
theorem dX4_in_14 : decode cX4_in 14 = .ok (.iconst 0, 1) := by decide +kernel
theorem dX4_in_15 : decode cX4_in 15 = .ok (.ireturn, 1) := by decide +kernel
theorem dX4_isReceipt_0 : decode cX4_isReceipt 0 = .ok (.aload_n 0, 1) := by decide +kernel
theorem dX4_isReceipt_1 : decode cX4_isReceipt 1 = .ok (.iload_n 1, 1) := by decide +kernel
theorem dX4_isReceipt_2 : decode cX4_isReceipt 2 = .ok (.iconst 0, 1) := by decide +kernel
theorem dX4_isReceipt_3 : decode cX4_isReceipt 3 = .ok (.aload_n 0, 1) := by decide +kernel
theorem dX4_isReceipt_4 : decode cX4_isReceipt 4 = .ok (.getfield 77, 3) := by decide +kernel
theorem dX4_isReceipt_7 : decode cX4_isReceipt 7 = .ok (.iconst 1, 1) := by decide +kernel
theorem dX4_isReceipt_8 : decode cX4_isReceipt 8 = .ok (.isub, 1) := by decide +kernel
theorem dX4_isReceipt_9 : decode cX4_isReceipt 9 = .ok (.invokevirtual 80, 3) := by decide +kernel
theorem dX4_isReceipt_12 : decode cX4_isReceipt 12 = .ok (.ireturn, 1) := by decide +kernel
theorem dX4_isFerry_0 : decode cX4_isFerry 0 = .ok (.aload_n 0, 1) := by decide +kernel
theorem dX4_isFerry_1 : decode cX4_isFerry 1 = .ok (.iload_n 1, 1) := by decide +kernel
theorem dX4_isFerry_2 : decode cX4_isFerry 2 = .ok (.iconst 0, 1) := by decide +kernel
theorem dX4_isFerry_3 : decode cX4_isFerry 3 = .ok (.aload_n 0, 1) := by decide +kernel
theorem dX4_isFerry_4 : decode cX4_isFerry 4 = .ok (.getfield 84, 3) := by decide +kernel
theorem dX4_isFerry_7 : decode cX4_isFerry 7 = .ok (.iconst 1, 1) := by decide +kernel
theorem dX4_isFerry_8 : decode cX4_isFerry 8 = .ok (.isub, 1) := by decide +kernel
theorem dX4_isFerry_9 : decode cX4_isFerry 9 = .ok (.invokevirtual 80, 3) := by decide +kernel
theorem dX4_isFerry_12 : decode cX4_isFerry 12 = .ok (.ireturn, 1) := by decide +kernel
theorem dX4_hasSeat_0 : decode cX4_hasSeat 0 = .ok (.aload_n 0, 1) := by decide +kernel
theorem dX4_hasSeat_1 : decode cX4_hasSeat 1 = .ok (.getfield 46, 3) := by decide +kernel
theorem dX4_hasSeat_4 : decode cX4_hasSeat 4 = .ok (.iload_n 2, 1) := by decide +kernel
theorem dX4_hasSeat_5 : decode cX4_hasSeat 5 = .ok (.iaload, 1) := by decide +kernel
theorem dX4_hasSeat_6 : decode cX4_hasSeat 6 = .ok (.iload_n 1, 1) := by decide +kernel
theorem dX4_hasSeat_7 : decode cX4_hasSeat 7 = .ok (.ishr, 1) := by decide +kernel
theorem dX4_hasSeat_8 : decode cX4_hasSeat 8 = .ok (.iconst 1, 1) := by decide +kernel
theorem dX4_hasSeat_9 : decode cX4_hasSeat 9 = .ok (.iand, 1) := by decide +kernel
theorem dX4_hasSeat_10 : decode cX4_hasSeat 10 = .ok (.iconst 1, 1) := by decide +kernel
theorem dX4_hasSeat_11 : decode cX4_hasSeat 11 = .ok (.if_icmp .ne 7, 3) := by decide +kernel
theorem dX4_hasSeat_14 : decode cX4_hasSeat 14 = .ok (.iconst 1, 1) := by decide +kernel
theorem dX4_hasSeat_15 : decode cX4_hasSeat 15 = .ok (.goto 4, 3) := by decide +kernel
theorem dX4_hasSeat_18 : decode cX4_hasSeat 18 = .ok (.iconst 0, 1) := by decide +kernel
theorem dX4_hasSeat_19 : decode cX4_hasSeat 19 = .ok (.ireturn, 1) := by decide +kernel
theorem dX4_rate_0 : decode cX4_rate 0 = .ok (.aload_n 0, 1) := by decide +kernel
theorem dX4_rate_1 : decode cX4_rate 1 = .ok (.aload_n 0, 1) := by decide +kernel
theorem dX4_rate_2 : decode cX4_rate 2 = .ok (.iload_n 1, 1) := by decide +kernel
theorem dX4_rate_3 : decode cX4_rate 3 = .ok (.iconst 0, 1) := by decide +kernel
theorem dX4_rate_4 : decode cX4_rate 4 = .ok (.iconst 3, 1) := by decide +kernel
theorem dX4_rate_5 : decode cX4_rate 5 = .ok (.invokevirtual 80, 3) := by decide +kernel
theorem dX4_rate_8 : decode cX4_rate 8 = .ok (.ifCond .ne 7, 3) := by decide +kernel
theorem dX4_rate_11 : decode cX4_rate 11 = .ok (.iconst 1, 1) := by decide +kernel
theorem dX4_rate_12 : decode cX4_rate 12 = .ok (.goto 19, 3) := by decide +kernel
theorem dX4_rate_15 : decode cX4_rate 15 = .ok (.aload_n 0, 1) := by decide +kernel
theorem dX4_rate_16 : decode cX4_rate 16 = .ok (.iload_n 2, 1) := by decide +kernel
theorem dX4_rate_17 : decode cX4_rate 17 = .ok (.iconst 0, 1) := by decide +kernel
theorem dX4_rate_18 : decode cX4_rate 18 = .ok (.bipush 50, 2) := by decide +kernel
theorem dX4_rate_20 : decode cX4_rate 20 = .ok (.invokevirtual 80, 3) := by decide +kernel
theorem dX4_rate_23 : decode cX4_rate 23 = .ok (.ifCond .eq 7, 3) := by decide +kernel
theorem dX4_rate_26 : decode cX4_rate 26 = .ok (.iconst 0, 1) := by decide +kernel
theorem dX4_rate_27 : decode cX4_rate 27 = .ok (.goto 4, 3) := by decide +kernel
theorem dX4_rate_30 : decode cX4_rate 30 = .ok (.iconst 2, 1) := by decide +kernel
theorem dX4_rate_31 : decode cX4_rate 31 = .ok (.invokevirtual 87, 3) := by decide +kernel
theorem dX4_rate_34 : decode cX4_rate 34 = .ok (.ifCond .eq 5, 3) := by decide +kernel
theorem dX4_rate_37 : decode cX4_rate 37 = .ok (.iconst (-1), 1) := by decide +kernel
theorem dX4_rate_38 : decode cX4_rate 38 = .ok (.ireturn, 1) := by decide +kernel
theorem dX4_rate_39 : decode cX4_rate 39 = .ok (.aload_n 0, 1) := by decide +kernel
theorem dX4_rate_40 : decode cX4_rate 40 = .ok (.getfield 7, 3) := by decide +kernel
theorem dX4_rate_43 : decode cX4_rate 43 = .ok (.iload_n 1, 1) := by decide +kernel
theorem dX4_rate_44 : decode cX4_rate 44 = .ok (.iaload, 1) := by decide +kernel
theorem dX4_rate_45 : decode cX4_rate 45 = .ok (.istore_n 3, 1) := by decide +kernel
theorem dX4_rate_46 : decode cX4_rate 46 = .ok (.aload_n 0, 1) := by decide +kernel
theorem dX4_rate_47 : decode cX4_rate 47 = .ok (.getfield 7, 3) := by decide +kernel
theorem dX4_rate_50 : decode cX4_rate 50 = .ok (.iload_n 1, 1) := by decide +kernel
theorem dX4_rate_51 : decode cX4_rate 51 = .ok (.iload_n 2, 1) := by decide +kernel
theorem dX4_rate_52 : decode cX4_rate 52 = .ok (.iastore, 1) := by decide +kernel
theorem dX4_rate_53 : decode cX4_rate 53 = .ok (.iload_n 3, 1) := by decide +kernel
theorem dX4_rate_54 : decode cX4_rate 54 = .ok (.ireturn, 1) := by decide +kernel
theorem dX4_buy_0 : decode cX4_buy 0 = .ok (.aload_n 0, 1) := by decide +kernel
theorem dX4_buy_1 : decode cX4_buy 1 = .ok (.iload_n 1, 1) := by decide +kernel
theorem dX4_buy_2 : decode cX4_buy 2 = .ok (.iconst 0, 1) := by decide +kernel
theorem dX4_buy_3 : decode cX4_buy 3 = .ok (.iconst 4, 1) := by decide +kernel
theorem dX4_buy_4 : decode cX4_buy 4 = .ok (.invokevirtual 80, 3) := by decide +kernel
theorem dX4_buy_7 : decode cX4_buy 7 = .ok (.ifCond .eq 28, 3) := by decide +kernel
theorem dX4_buy_10 : decode cX4_buy 10 = .ok (.aload_n 0, 1) := by decide +kernel
theorem dX4_buy_11 : decode cX4_buy 11 = .ok (.iload_n 2, 1) := by decide +kernel
theorem dX4_buy_12 : decode cX4_buy 12 = .ok (.iconst 0, 1) := by decide +kernel
theorem dX4_buy_13 : decode cX4_buy 13 = .ok (.bipush 9, 2) := by decide +kernel
theorem dX4_buy_15 : decode cX4_buy 15 = .ok (.invokevirtual 80, 3) := by decide +kernel
theorem dX4_buy_18 : decode cX4_buy 18 = .ok (.ifCond .eq 17, 3) := by decide +kernel
theorem dX4_buy_21 : decode cX4_buy 21 = .ok (.aload_n 0, 1) := by decide +kernel
theorem dX4_buy_22 : decode cX4_buy 22 = .ok (.iload_n 3, 1) := by decide +kernel
theorem dX4_buy_23 : decode cX4_buy 23 = .ok (.iconst 0, 1) := by decide +kernel
theorem dX4_buy_24 : decode cX4_buy 24 = .ok (.iconst 3, 1) := by decide +kernel
theorem dX4_buy_25 : decode cX4_buy 25 = .ok (.invokevirtual 80, 3) := by decide +kernel
theorem dX4_buy_28 : decode cX4_buy 28 = .ok (.ifCond .eq 7, 3) := by decide +kernel
theorem dX4_buy_31 : decode cX4_buy 31 = .ok (.iconst 1, 1) := by decide +kernel
theorem dX4_buy_32 : decode cX4_buy 32 = .ok (.goto 4, 3) := by decide +kernel
theorem dX4_buy_35 : decode cX4_buy 35 = .ok (.iconst 0, 1) := by decide +kernel
theorem dX4_buy_36 : decode cX4_buy 36 = .ok (.istore 5, 2) := by decide +kernel
theorem dX4_buy_38 : decode cX4_buy 38 = .ok (.aload_n 0, 1) := by decide +kernel
theorem dX4_buy_39 : decode cX4_buy 39 = .ok (.iload 5, 2) := by decide +kernel
theorem dX4_buy_41 : decode cX4_buy 41 = .ok (.ifCond .ne 7, 3) := by decide +kernel
theorem dX4_buy_44 : decode cX4_buy 44 = .ok (.iconst 1, 1) := by decide +kernel
theorem dX4_buy_45 : decode cX4_buy 45 = .ok (.goto 44, 3) := by decide +kernel
theorem dX4_buy_48 : decode cX4_buy 48 = .ok (.aload_n 0, 1) := by decide +kernel
theorem dX4_buy_49 : decode cX4_buy 49 = .ok (.iload 4, 2) := by decide +kernel
theorem dX4_buy_51 : decode cX4_buy 51 = .ok (.iconst 1, 1) := by decide +kernel
theorem dX4_buy_52 : decode cX4_buy 52 = .ok (.sipush 10000, 3) := by decide +kernel
theorem dX4_buy_55 : decode cX4_buy 55 = .ok (.invokevirtual 80, 3) := by decide +kernel
theorem dX4_buy_58 : decode cX4_buy 58 = .ok (.ifCond .ne 7, 3) := by decide +kernel
theorem dX4_buy_61 : decode cX4_buy 61 = .ok (.iconst 2, 1) := by decide +kernel
theorem dX4_buy_62 : decode cX4_buy 62 = .ok (.goto 27, 3) := by decide +kernel
theorem dX4_buy_65 : decode cX4_buy 65 = .ok (.aload_n 0, 1) := by decide +kernel
theorem dX4_buy_66 : decode cX4_buy 66 = .ok (.getfield 55, 3) := by decide +kernel
theorem dX4_buy_69 : decode cX4_buy 69 = .ok (.iload_n 2, 1) := by decide +kernel
theorem dX4_buy_70 : decode cX4_buy 70 = .ok (.iaload, 1) := by decide +kernel
theorem dX4_buy_71 : decode cX4_buy 71 = .ok (.iconst 1, 1) := by decide +kernel
theorem dX4_buy_72 : decode cX4_buy 72 = .ok (.if_icmp .eq 12, 3) := by decide +kernel
theorem dX4_buy_75 : decode cX4_buy 75 = .ok (.aload_n 0, 1) := by decide +kernel
theorem dX4_buy_76 : decode cX4_buy 76 = .ok (.getfield 77, 3) := by decide +kernel
theorem dX4_buy_79 : decode cX4_buy 79 = .ok (.bipush 60, 2) := by decide +kernel
theorem dX4_buy_81 : decode cX4_buy 81 = .ok (.if_icmp .ne 7, 3) := by decide +kernel
theorem dX4_buy_84 : decode cX4_buy 84 = .ok (.iconst 3, 1) := by decide +kernel
theorem dX4_buy_85 : decode cX4_buy 85 = .ok (.goto 4, 3) := by decide +kernel
theorem dX4_buy_88 : decode cX4_buy 88 = .ok (.iconst 0, 1) := by decide +kernel
theorem dX4_buy_89 : decode cX4_buy 89 = .ok (.invokevirtual 87, 3) := by decide +kernel
theorem dX4_buy_92 : decode cX4_buy 92 = .ok (.ifCond .eq 5, 3) := by decide +kernel
theorem dX4_buy_95 : decode cX4_buy 95 = .ok (.iconst (-1), 1) := by decide +kernel
theorem dX4_buy_96 : decode cX4_buy 96 = .ok (.ireturn, 1) := by decide +kernel
theorem dX4_buy_97 : decode cX4_buy 97 = .ok (.aload_n 0, 1) := by decide +kernel
theorem dX4_buy_98 : decode cX4_buy 98 = .ok (.getfield 77, 3) := by decide +kernel
theorem dX4_buy_101 : decode cX4_buy 101 = .ok (.istore 6, 2) := by decide +kernel
theorem dX4_buy_103 : decode cX4_buy 103 = .ok (.aload_n 0, 1) := by decide +kernel
theorem dX4_buy_104 : decode cX4_buy 104 = .ok (.getfield 13, 3) := by decide +kernel
theorem dX4_buy_107 : decode cX4_buy 107 = .ok (.iload 6, 2) := by decide +kernel
theorem dX4_buy_109 : decode cX4_buy 109 = .ok (.iload_n 1, 1) := by decide +kernel
theorem dX4_buy_110 : decode cX4_buy 110 = .ok (.iastore, 1) := by decide +kernel
theorem dX4_buy_111 : decode cX4_buy 111 = .ok (.aload_n 0, 1) := by decide +kernel
theorem dX4_buy_112 : decode cX4_buy 112 = .ok (.getfield 16, 3) := by decide +kernel
theorem dX4_buy_115 : decode cX4_buy 115 = .ok (.iload 6, 2) := by decide +kernel
theorem dX4_buy_117 : decode cX4_buy 117 = .ok (.iload_n 2, 1) := by decide +kernel
theorem dX4_buy_118 : decode cX4_buy 118 = .ok (.iastore, 1) := by decide +kernel
theorem dX4_buy_119 : decode cX4_buy 119 = .ok (.aload_n 0, 1) := by decide +kernel
theorem dX4_buy_120 : decode cX4_buy 120 = .ok (.getfield 19, 3) := by decide +kernel
theorem dX4_buy_123 : decode cX4_buy 123 = .ok (.iload 6, 2) := by decide +kernel
theorem dX4_buy_125 : decode cX4_buy 125 = .ok (.iload 4, 2) := by decide +kernel
theorem dX4_buy_127 : decode cX4_buy 127 = .ok (.iastore, 1) := by decide +kernel
theorem dX4_buy_128 : decode cX4_buy 128 = .ok (.aload_n 0, 1) := by decide +kernel
theorem dX4_buy_129 : decode cX4_buy 129 = .ok (.getfield 22, 3) := by decide +kernel
theorem dX4_buy_132 : decode cX4_buy 132 = .ok (.iload 6, 2) := by decide +kernel
theorem dX4_buy_134 : decode cX4_buy 134 = .ok (.iload 4, 2) := by decide +kernel
theorem dX4_buy_136 : decode cX4_buy 136 = .ok (.aload_n 0, 1) := by decide +kernel
theorem dX4_buy_137 : decode cX4_buy 137 = .ok (.getfield 7, 3) := by decide +kernel
theorem dX4_buy_140 : decode cX4_buy 140 = .ok (.iload_n 3, 1) := by decide +kernel
theorem dX4_buy_141 : decode cX4_buy 141 = .ok (.iaload, 1) := by decide +kernel
theorem dX4_buy_142 : decode cX4_buy 142 = .ok (.imul, 1) := by decide +kernel
theorem dX4_buy_143 : decode cX4_buy 143 = .ok (.bipush 100, 2) := by decide +kernel
theorem dX4_buy_145 : decode cX4_buy 145 = .ok (.idiv, 1) := by decide +kernel
theorem dX4_buy_146 : decode cX4_buy 146 = .ok (.iastore, 1) := by decide +kernel
theorem dX4_buy_147 : decode cX4_buy 147 = .ok (.aload_n 0, 1) := by decide +kernel
theorem dX4_buy_148 : decode cX4_buy 148 = .ok (.getfield 25, 3) := by decide +kernel
theorem dX4_buy_151 : decode cX4_buy 151 = .ok (.iload 6, 2) := by decide +kernel
theorem dX4_buy_153 : decode cX4_buy 153 = .ok (.aload_n 0, 1) := by decide +kernel
theorem dX4_buy_154 : decode cX4_buy 154 = .ok (.getfield 91, 3) := by decide +kernel
theorem dX4_buy_157 : decode cX4_buy 157 = .ok (.iastore, 1) := by decide +kernel
theorem dX4_buy_158 : decode cX4_buy 158 = .ok (.aload_n 0, 1) := by decide +kernel
theorem dX4_buy_159 : decode cX4_buy 159 = .ok (.getfield 31, 3) := by decide +kernel
theorem dX4_buy_162 : decode cX4_buy 162 = .ok (.iload 6, 2) := by decide +kernel
theorem dX4_buy_164 : decode cX4_buy 164 = .ok (.iconst (-1), 1) := by decide +kernel
theorem dX4_buy_165 : decode cX4_buy 165 = .ok (.iastore, 1) := by decide +kernel
theorem dX4_buy_166 : decode cX4_buy 166 = .ok (.aload_n 0, 1) := by decide +kernel
theorem dX4_buy_167 : decode cX4_buy 167 = .ok (.dup, 1) := by decide +kernel
theorem dX4_buy_168 : decode cX4_buy 168 = .ok (.getfield 77, 3) := by decide +kernel
theorem dX4_buy_171 : decode cX4_buy 171 = .ok (.iconst 1, 1) := by decide +kernel
theorem dX4_buy_172 : decode cX4_buy 172 = .ok (.iadd, 1) := by decide +kernel
theorem dX4_buy_173 : decode cX4_buy 173 = .ok (.putfield 77, 3) := by decide +kernel
theorem dX4_buy_176 : decode cX4_buy 176 = .ok (.iload 6, 2) := by decide +kernel
theorem dX4_buy_178 : decode cX4_buy 178 = .ok (.ireturn, 1) := by decide +kernel
theorem dX4_giveBack_0 : decode cX4_giveBack 0 = .ok (.aload_n 0, 1) := by decide +kernel
theorem dX4_giveBack_1 : decode cX4_giveBack 1 = .ok (.iload_n 1, 1) := by decide +kernel
theorem dX4_giveBack_2 : decode cX4_giveBack 2 = .ok (.invokevirtual 94, 3) := by decide +kernel
theorem dX4_giveBack_5 : decode cX4_giveBack 5 = .ok (.istore_n 2, 1) := by decide +kernel
theorem dX4_giveBack_6 : decode cX4_giveBack 6 = .ok (.aload_n 0, 1) := by decide +kernel
theorem dX4_giveBack_7 : decode cX4_giveBack 7 = .ok (.iload_n 2, 1) := by decide +kernel
theorem dX4_giveBack_8 : decode cX4_giveBack 8 = .ok (.ifCond .ne 7, 3) := by decide +kernel
theorem dX4_giveBack_11 : decode cX4_giveBack 11 = .ok (.iconst 1, 1) := by decide +kernel
theorem dX4_giveBack_12 : decode cX4_giveBack 12 = .ok (.goto 49, 3) := by decide +kernel
theorem dX4_giveBack_15 : decode cX4_giveBack 15 = .ok (.aload_n 0, 1) := by decide +kernel
theorem dX4_giveBack_16 : decode cX4_giveBack 16 = .ok (.getfield 28, 3) := by decide +kernel
theorem dX4_giveBack_19 : decode cX4_giveBack 19 = .ok (.iload_n 1, 1) := by decide +kernel
theorem dX4_giveBack_20 : decode cX4_giveBack 20 = .ok (.iaload, 1) := by decide +kernel
theorem dX4_giveBack_21 : decode cX4_giveBack 21 = .ok (.ifCond .ne 35, 3) := by decide +kernel
theorem dX4_giveBack_24 : decode cX4_giveBack 24 = .ok (.aload_n 0, 1) := by decide +kernel
theorem dX4_giveBack_25 : decode cX4_giveBack 25 = .ok (.getfield 91, 3) := by decide +kernel
theorem dX4_giveBack_28 : decode cX4_giveBack 28 = .ok (.aload_n 0, 1) := by decide +kernel
theorem dX4_giveBack_29 : decode cX4_giveBack 29 = .ok (.getfield 25, 3) := by decide +kernel
theorem dX4_giveBack_32 : decode cX4_giveBack 32 = .ok (.iload_n 1, 1) := by decide +kernel
theorem dX4_giveBack_33 : decode cX4_giveBack 33 = .ok (.iaload, 1) := by decide +kernel
theorem dX4_giveBack_34 : decode cX4_giveBack 34 = .ok (.isub, 1) := by decide +kernel
theorem dX4_giveBack_35 : decode cX4_giveBack 35 = .ok (.sipush 240, 3) := by decide +kernel
theorem dX4_giveBack_38 : decode cX4_giveBack 38 = .ok (.if_icmp .gt 18, 3) := by decide +kernel
theorem dX4_giveBack_41 : decode cX4_giveBack 41 = .ok (.aload_n 0, 1) := by decide +kernel
theorem dX4_giveBack_42 : decode cX4_giveBack 42 = .ok (.getfield 55, 3) := by decide +kernel
theorem dX4_giveBack_45 : decode cX4_giveBack 45 = .ok (.aload_n 0, 1) := by decide +kernel
theorem dX4_giveBack_46 : decode cX4_giveBack 46 = .ok (.getfield 16, 3) := by decide +kernel
theorem dX4_giveBack_49 : decode cX4_giveBack 49 = .ok (.iload_n 1, 1) := by decide +kernel
theorem dX4_giveBack_50 : decode cX4_giveBack 50 = .ok (.iaload, 1) := by decide +kernel
theorem dX4_giveBack_51 : decode cX4_giveBack 51 = .ok (.iaload, 1) := by decide +kernel
theorem dX4_giveBack_52 : decode cX4_giveBack 52 = .ok (.iconst 1, 1) := by decide +kernel
theorem dX4_giveBack_53 : decode cX4_giveBack 53 = .ok (.if_icmp .ne 7, 3) := by decide +kernel
theorem dX4_giveBack_56 : decode cX4_giveBack 56 = .ok (.iconst 2, 1) := by decide +kernel
theorem dX4_giveBack_57 : decode cX4_giveBack 57 = .ok (.goto 4, 3) := by decide +kernel
theorem dX4_giveBack_60 : decode cX4_giveBack 60 = .ok (.iconst 0, 1) := by decide +kernel
theorem dX4_giveBack_61 : decode cX4_giveBack 61 = .ok (.invokevirtual 87, 3) := by decide +kernel
theorem dX4_giveBack_64 : decode cX4_giveBack 64 = .ok (.ifCond .eq 5, 3) := by decide +kernel
theorem dX4_giveBack_67 : decode cX4_giveBack 67 = .ok (.iconst (-1), 1) := by decide +kernel
theorem dX4_giveBack_68 : decode cX4_giveBack 68 = .ok (.ireturn, 1) := by decide +kernel
theorem dX4_giveBack_69 : decode cX4_giveBack 69 = .ok (.aload_n 0, 1) := by decide +kernel
theorem dX4_giveBack_70 : decode cX4_giveBack 70 = .ok (.getfield 28, 3) := by decide +kernel
theorem dX4_giveBack_73 : decode cX4_giveBack 73 = .ok (.iload_n 1, 1) := by decide +kernel
theorem dX4_giveBack_74 : decode cX4_giveBack 74 = .ok (.iconst 4, 1) := by decide +kernel
theorem dX4_giveBack_75 : decode cX4_giveBack 75 = .ok (.iastore, 1) := by decide +kernel
theorem dX4_giveBack_76 : decode cX4_giveBack 76 = .ok (.aload_n 0, 1) := by decide +kernel
theorem dX4_giveBack_77 : decode cX4_giveBack 77 = .ok (.getfield 19, 3) := by decide +kernel
theorem dX4_giveBack_80 : decode cX4_giveBack 80 = .ok (.iload_n 1, 1) := by decide +kernel
theorem dX4_giveBack_81 : decode cX4_giveBack 81 = .ok (.iaload, 1) := by decide +kernel
theorem dX4_giveBack_82 : decode cX4_giveBack 82 = .ok (.aload_n 0, 1) := by decide +kernel
theorem dX4_giveBack_83 : decode cX4_giveBack 83 = .ok (.getfield 22, 3) := by decide +kernel
theorem dX4_giveBack_86 : decode cX4_giveBack 86 = .ok (.iload_n 1, 1) := by decide +kernel
theorem dX4_giveBack_87 : decode cX4_giveBack 87 = .ok (.iaload, 1) := by decide +kernel
theorem dX4_giveBack_88 : decode cX4_giveBack 88 = .ok (.iadd, 1) := by decide +kernel
theorem dX4_giveBack_89 : decode cX4_giveBack 89 = .ok (.ireturn, 1) := by decide +kernel
theorem dX4_ferry_0 : decode cX4_ferry 0 = .ok (.aload_n 0, 1) := by decide +kernel
theorem dX4_ferry_1 : decode cX4_ferry 1 = .ok (.iload_n 1, 1) := by decide +kernel
theorem dX4_ferry_2 : decode cX4_ferry 2 = .ok (.aload_n 0, 1) := by decide +kernel
theorem dX4_ferry_3 : decode cX4_ferry 3 = .ok (.getfield 91, 3) := by decide +kernel
theorem dX4_ferry_6 : decode cX4_ferry 6 = .ok (.iconst 1, 1) := by decide +kernel
theorem dX4_ferry_7 : decode cX4_ferry 7 = .ok (.iadd, 1) := by decide +kernel
theorem dX4_ferry_8 : decode cX4_ferry 8 = .ok (.sipush 10000, 3) := by decide +kernel
theorem dX4_ferry_11 : decode cX4_ferry 11 = .ok (.invokevirtual 80, 3) := by decide +kernel
theorem dX4_ferry_14 : decode cX4_ferry 14 = .ok (.ifCond .eq 18, 3) := by decide +kernel
theorem dX4_ferry_17 : decode cX4_ferry 17 = .ok (.aload_n 0, 1) := by decide +kernel
theorem dX4_ferry_18 : decode cX4_ferry 18 = .ok (.iload_n 2, 1) := by decide +kernel
theorem dX4_ferry_19 : decode cX4_ferry 19 = .ok (.iconst 1, 1) := by decide +kernel
theorem dX4_ferry_20 : decode cX4_ferry 20 = .ok (.bipush 10, 2) := by decide +kernel
theorem dX4_ferry_22 : decode cX4_ferry 22 = .ok (.invokevirtual 80, 3) := by decide +kernel
theorem dX4_ferry_25 : decode cX4_ferry 25 = .ok (.ifCond .eq 7, 3) := by decide +kernel
theorem dX4_ferry_28 : decode cX4_ferry 28 = .ok (.iconst 1, 1) := by decide +kernel
theorem dX4_ferry_29 : decode cX4_ferry 29 = .ok (.goto 4, 3) := by decide +kernel
theorem dX4_ferry_32 : decode cX4_ferry 32 = .ok (.iconst 0, 1) := by decide +kernel
theorem dX4_ferry_33 : decode cX4_ferry 33 = .ok (.istore_n 3, 1) := by decide +kernel
theorem dX4_ferry_34 : decode cX4_ferry 34 = .ok (.aload_n 0, 1) := by decide +kernel
theorem dX4_ferry_35 : decode cX4_ferry 35 = .ok (.iload_n 3, 1) := by decide +kernel
theorem dX4_ferry_36 : decode cX4_ferry 36 = .ok (.ifCond .ne 7, 3) := by decide +kernel
theorem dX4_ferry_39 : decode cX4_ferry 39 = .ok (.iconst 1, 1) := by decide +kernel
theorem dX4_ferry_40 : decode cX4_ferry 40 = .ok (.goto 17, 3) := by decide +kernel
theorem dX4_ferry_43 : decode cX4_ferry 43 = .ok (.aload_n 0, 1) := by decide +kernel
theorem dX4_ferry_44 : decode cX4_ferry 44 = .ok (.getfield 84, 3) := by decide +kernel
theorem dX4_ferry_47 : decode cX4_ferry 47 = .ok (.bipush 20, 2) := by decide +kernel
theorem dX4_ferry_49 : decode cX4_ferry 49 = .ok (.if_icmp .ne 7, 3) := by decide +kernel
theorem dX4_ferry_52 : decode cX4_ferry 52 = .ok (.iconst 2, 1) := by decide +kernel
theorem dX4_ferry_53 : decode cX4_ferry 53 = .ok (.goto 4, 3) := by decide +kernel
theorem dX4_ferry_56 : decode cX4_ferry 56 = .ok (.iconst 0, 1) := by decide +kernel
theorem dX4_ferry_57 : decode cX4_ferry 57 = .ok (.invokevirtual 87, 3) := by decide +kernel
theorem dX4_ferry_60 : decode cX4_ferry 60 = .ok (.ifCond .eq 5, 3) := by decide +kernel
theorem dX4_ferry_63 : decode cX4_ferry 63 = .ok (.iconst (-1), 1) := by decide +kernel
theorem dX4_ferry_64 : decode cX4_ferry 64 = .ok (.ireturn, 1) := by decide +kernel
theorem dX4_ferry_65 : decode cX4_ferry 65 = .ok (.aload_n 0, 1) := by decide +kernel
theorem dX4_ferry_66 : decode cX4_ferry 66 = .ok (.getfield 40, 3) := by decide +kernel
theorem dX4_ferry_69 : decode cX4_ferry 69 = .ok (.aload_n 0, 1) := by decide +kernel
theorem dX4_ferry_70 : decode cX4_ferry 70 = .ok (.getfield 84, 3) := by decide +kernel
theorem dX4_ferry_73 : decode cX4_ferry 73 = .ok (.iload_n 1, 1) := by decide +kernel
theorem dX4_ferry_74 : decode cX4_ferry 74 = .ok (.iastore, 1) := by decide +kernel
theorem dX4_ferry_75 : decode cX4_ferry 75 = .ok (.aload_n 0, 1) := by decide +kernel
theorem dX4_ferry_76 : decode cX4_ferry 76 = .ok (.getfield 43, 3) := by decide +kernel
theorem dX4_ferry_79 : decode cX4_ferry 79 = .ok (.aload_n 0, 1) := by decide +kernel
theorem dX4_ferry_80 : decode cX4_ferry 80 = .ok (.getfield 84, 3) := by decide +kernel
theorem dX4_ferry_83 : decode cX4_ferry 83 = .ok (.iload_n 2, 1) := by decide +kernel
theorem dX4_ferry_84 : decode cX4_ferry 84 = .ok (.iastore, 1) := by decide +kernel
theorem dX4_ferry_85 : decode cX4_ferry 85 = .ok (.aload_n 0, 1) := by decide +kernel
theorem dX4_ferry_86 : decode cX4_ferry 86 = .ok (.dup, 1) := by decide +kernel
theorem dX4_ferry_87 : decode cX4_ferry 87 = .ok (.getfield 84, 3) := by decide +kernel
theorem dX4_ferry_90 : decode cX4_ferry 90 = .ok (.iconst 1, 1) := by decide +kernel
theorem dX4_ferry_91 : decode cX4_ferry 91 = .ok (.iadd, 1) := by decide +kernel
theorem dX4_ferry_92 : decode cX4_ferry 92 = .ok (.putfield 84, 3) := by decide +kernel
theorem dX4_ferry_95 : decode cX4_ferry 95 = .ok (.aload_n 0, 1) := by decide +kernel
theorem dX4_ferry_96 : decode cX4_ferry 96 = .ok (.getfield 84, 3) := by decide +kernel
theorem dX4_ferry_99 : decode cX4_ferry 99 = .ok (.iconst 1, 1) := by decide +kernel
theorem dX4_ferry_100 : decode cX4_ferry 100 = .ok (.isub, 1) := by decide +kernel
theorem dX4_ferry_101 : decode cX4_ferry 101 = .ok (.ireturn, 1) := by decide +kernel
theorem dX4_left_0 : decode cX4_left 0 = .ok (.aload_n 0, 1) := by decide +kernel
theorem dX4_left_1 : decode cX4_left 1 = .ok (.getfield 43, 3) := by decide +kernel
theorem dX4_left_4 : decode cX4_left 4 = .ok (.iload_n 1, 1) := by decide +kernel
theorem dX4_left_5 : decode cX4_left 5 = .ok (.iaload, 1) := by decide +kernel
theorem dX4_left_6 : decode cX4_left 6 = .ok (.istore_n 2, 1) := by decide +kernel
theorem dX4_left_7 : decode cX4_left 7 = .ok (.iconst 0, 1) := by decide +kernel
theorem dX4_left_8 : decode cX4_left 8 = .ok (.istore_n 3, 1) := by decide +kernel
theorem dX4_left_9 : decode cX4_left 9 = .ok (.iload_n 3, 1) := by decide +kernel
theorem dX4_left_10 : decode cX4_left 10 = .ok (.bipush 10, 2) := by decide +kernel
theorem dX4_left_12 : decode cX4_left 12 = .ok (.if_icmp .ge 26, 3) := by decide +kernel
theorem dX4_left_15 : decode cX4_left 15 = .ok (.iload_n 2, 1) := by decide +kernel
theorem dX4_left_16 : decode cX4_left 16 = .ok (.aload_n 0, 1) := by decide +kernel
theorem dX4_left_17 : decode cX4_left 17 = .ok (.iload_n 3, 1) := by decide +kernel
theorem dX4_left_18 : decode cX4_left 18 = .ok (.iload_n 1, 1) := by decide +kernel
theorem dX4_left_19 : decode cX4_left 19 = .ok (.invokevirtual 97, 3) := by decide +kernel
theorem dX4_left_22 : decode cX4_left 22 = .ok (.ifCond .eq 7, 3) := by decide +kernel
theorem dX4_left_25 : decode cX4_left 25 = .ok (.iconst 1, 1) := by decide +kernel
theorem dX4_left_26 : decode cX4_left 26 = .ok (.goto 4, 3) := by decide +kernel
theorem dX4_left_29 : decode cX4_left 29 = .ok (.iconst 0, 1) := by decide +kernel
theorem dX4_left_30 : decode cX4_left 30 = .ok (.isub, 1) := by decide +kernel
theorem dX4_left_31 : decode cX4_left 31 = .ok (.istore_n 2, 1) := by decide +kernel
theorem dX4_left_32 : decode cX4_left 32 = .ok (.iinc 3 1, 3) := by decide +kernel
theorem dX4_left_35 : decode cX4_left 35 = .ok (.goto (-26), 3) := by decide +kernel
theorem dX4_left_38 : decode cX4_left 38 = .ok (.iload_n 2, 1) := by decide +kernel
theorem dX4_left_39 : decode cX4_left 39 = .ok (.ireturn, 1) := by decide +kernel
theorem dX4_seat_0 : decode cX4_seat 0 = .ok (.aload_n 0, 1) := by decide +kernel
theorem dX4_seat_1 : decode cX4_seat 1 = .ok (.iload_n 1, 1) := by decide +kernel
theorem dX4_seat_2 : decode cX4_seat 2 = .ok (.iconst 0, 1) := by decide +kernel
theorem dX4_seat_3 : decode cX4_seat 3 = .ok (.bipush 9, 2) := by decide +kernel
theorem dX4_seat_5 : decode cX4_seat 5 = .ok (.invokevirtual 80, 3) := by decide +kernel
theorem dX4_seat_8 : decode cX4_seat 8 = .ok (.ifCond .eq 15, 3) := by decide +kernel
theorem dX4_seat_11 : decode cX4_seat 11 = .ok (.aload_n 0, 1) := by decide +kernel
theorem dX4_seat_12 : decode cX4_seat 12 = .ok (.iload_n 2, 1) := by decide +kernel
theorem dX4_seat_13 : decode cX4_seat 13 = .ok (.invokevirtual 101, 3) := by decide +kernel
theorem dX4_seat_16 : decode cX4_seat 16 = .ok (.ifCond .eq 7, 3) := by decide +kernel
theorem dX4_seat_19 : decode cX4_seat 19 = .ok (.iconst 1, 1) := by decide +kernel
theorem dX4_seat_20 : decode cX4_seat 20 = .ok (.goto 4, 3) := by decide +kernel
theorem dX4_seat_23 : decode cX4_seat 23 = .ok (.iconst 0, 1) := by decide +kernel
theorem dX4_seat_24 : decode cX4_seat 24 = .ok (.istore_n 3, 1) := by decide +kernel
theorem dX4_seat_25 : decode cX4_seat 25 = .ok (.aload_n 0, 1) := by decide +kernel
theorem dX4_seat_26 : decode cX4_seat 26 = .ok (.iload_n 3, 1) := by decide +kernel
theorem dX4_seat_27 : decode cX4_seat 27 = .ok (.ifCond .ne 7, 3) := by decide +kernel
theorem dX4_seat_30 : decode cX4_seat 30 = .ok (.iconst 1, 1) := by decide +kernel
theorem dX4_seat_31 : decode cX4_seat 31 = .ok (.goto 45, 3) := by decide +kernel
theorem dX4_seat_34 : decode cX4_seat 34 = .ok (.aload_n 0, 1) := by decide +kernel
theorem dX4_seat_35 : decode cX4_seat 35 = .ok (.getfield 49, 3) := by decide +kernel
theorem dX4_seat_38 : decode cX4_seat 38 = .ok (.iload_n 2, 1) := by decide +kernel
theorem dX4_seat_39 : decode cX4_seat 39 = .ok (.iaload, 1) := by decide +kernel
theorem dX4_seat_40 : decode cX4_seat 40 = .ok (.iconst 1, 1) := by decide +kernel
theorem dX4_seat_41 : decode cX4_seat 41 = .ok (.if_icmp .eq 30, 3) := by decide +kernel
theorem dX4_seat_44 : decode cX4_seat 44 = .ok (.aload_n 0, 1) := by decide +kernel
theorem dX4_seat_45 : decode cX4_seat 45 = .ok (.iload_n 2, 1) := by decide +kernel
theorem dX4_seat_46 : decode cX4_seat 46 = .ok (.invokevirtual 104, 3) := by decide +kernel
theorem dX4_seat_49 : decode cX4_seat 49 = .ok (.ifCond .eq 22, 3) := by decide +kernel
theorem dX4_seat_52 : decode cX4_seat 52 = .ok (.aload_n 0, 1) := by decide +kernel
theorem dX4_seat_53 : decode cX4_seat 53 = .ok (.iload_n 1, 1) := by decide +kernel
theorem dX4_seat_54 : decode cX4_seat 54 = .ok (.iload_n 2, 1) := by decide +kernel
theorem dX4_seat_55 : decode cX4_seat 55 = .ok (.invokevirtual 97, 3) := by decide +kernel
theorem dX4_seat_58 : decode cX4_seat 58 = .ok (.ifCond .ne 13, 3) := by decide +kernel
theorem dX4_seat_61 : decode cX4_seat 61 = .ok (.aload_n 0, 1) := by decide +kernel
theorem dX4_seat_62 : decode cX4_seat 62 = .ok (.getfield 55, 3) := by decide +kernel
theorem dX4_seat_65 : decode cX4_seat 65 = .ok (.iload_n 1, 1) := by decide +kernel
theorem dX4_seat_66 : decode cX4_seat 66 = .ok (.iaload, 1) := by decide +kernel
theorem dX4_seat_67 : decode cX4_seat 67 = .ok (.iconst 1, 1) := by decide +kernel
theorem dX4_seat_68 : decode cX4_seat 68 = .ok (.if_icmp .ne 7, 3) := by decide +kernel
theorem dX4_seat_71 : decode cX4_seat 71 = .ok (.iconst 2, 1) := by decide +kernel
theorem dX4_seat_72 : decode cX4_seat 72 = .ok (.goto 4, 3) := by decide +kernel
theorem dX4_seat_75 : decode cX4_seat 75 = .ok (.iconst 0, 1) := by decide +kernel
theorem dX4_seat_76 : decode cX4_seat 76 = .ok (.invokevirtual 87, 3) := by decide +kernel
theorem dX4_seat_79 : decode cX4_seat 79 = .ok (.ifCond .eq 5, 3) := by decide +kernel
theorem dX4_seat_82 : decode cX4_seat 82 = .ok (.iconst (-1), 1) := by decide +kernel
theorem dX4_seat_83 : decode cX4_seat 83 = .ok (.ireturn, 1) := by decide +kernel
theorem dX4_seat_84 : decode cX4_seat 84 = .ok (.aload_n 0, 1) := by decide +kernel
theorem dX4_seat_85 : decode cX4_seat 85 = .ok (.getfield 46, 3) := by decide +kernel
theorem dX4_seat_88 : decode cX4_seat 88 = .ok (.iload_n 2, 1) := by decide +kernel
theorem dX4_seat_89 : decode cX4_seat 89 = .ok (.dup2, 1) := by decide +kernel
theorem dX4_seat_90 : decode cX4_seat 90 = .ok (.iaload, 1) := by decide +kernel
theorem dX4_seat_91 : decode cX4_seat 91 = .ok (.iconst 1, 1) := by decide +kernel
theorem dX4_seat_92 : decode cX4_seat 92 = .ok (.iload_n 1, 1) := by decide +kernel
theorem dX4_seat_93 : decode cX4_seat 93 = .ok (.ishl, 1) := by decide +kernel
theorem dX4_seat_94 : decode cX4_seat 94 = .ok (.ior, 1) := by decide +kernel
theorem dX4_seat_95 : decode cX4_seat 95 = .ok (.iastore, 1) := by decide +kernel
theorem dX4_seat_96 : decode cX4_seat 96 = .ok (.aload_n 0, 1) := by decide +kernel
theorem dX4_seat_97 : decode cX4_seat 97 = .ok (.iload_n 2, 1) := by decide +kernel
theorem dX4_seat_98 : decode cX4_seat 98 = .ok (.invokevirtual 104, 3) := by decide +kernel
theorem dX4_seat_101 : decode cX4_seat 101 = .ok (.ireturn, 1) := by decide +kernel
theorem dX4_leaveSeat_0 : decode cX4_leaveSeat 0 = .ok (.aload_n 0, 1) := by decide +kernel
theorem dX4_leaveSeat_1 : decode cX4_leaveSeat 1 = .ok (.iload_n 1, 1) := by decide +kernel
theorem dX4_leaveSeat_2 : decode cX4_leaveSeat 2 = .ok (.iconst 0, 1) := by decide +kernel
theorem dX4_leaveSeat_3 : decode cX4_leaveSeat 3 = .ok (.bipush 9, 2) := by decide +kernel
theorem dX4_leaveSeat_5 : decode cX4_leaveSeat 5 = .ok (.invokevirtual 80, 3) := by decide +kernel
theorem dX4_leaveSeat_8 : decode cX4_leaveSeat 8 = .ok (.ifCond .eq 15, 3) := by decide +kernel
theorem dX4_leaveSeat_11 : decode cX4_leaveSeat 11 = .ok (.aload_n 0, 1) := by decide +kernel
theorem dX4_leaveSeat_12 : decode cX4_leaveSeat 12 = .ok (.iload_n 2, 1) := by decide +kernel
theorem dX4_leaveSeat_13 : decode cX4_leaveSeat 13 = .ok (.invokevirtual 101, 3) := by decide +kernel
theorem dX4_leaveSeat_16 : decode cX4_leaveSeat 16 = .ok (.ifCond .eq 7, 3) := by decide +kernel
theorem dX4_leaveSeat_19 : decode cX4_leaveSeat 19 = .ok (.iconst 1, 1) := by decide +kernel
theorem dX4_leaveSeat_20 : decode cX4_leaveSeat 20 = .ok (.goto 4, 3) := by decide +kernel
theorem dX4_leaveSeat_23 : decode cX4_leaveSeat 23 = .ok (.iconst 0, 1) := by decide +kernel
theorem dX4_leaveSeat_24 : decode cX4_leaveSeat 24 = .ok (.istore_n 3, 1) := by decide +kernel
theorem dX4_leaveSeat_25 : decode cX4_leaveSeat 25 = .ok (.aload_n 0, 1) := by decide +kernel
theorem dX4_leaveSeat_26 : decode cX4_leaveSeat 26 = .ok (.iload_n 3, 1) := by decide +kernel
theorem dX4_leaveSeat_27 : decode cX4_leaveSeat 27 = .ok (.ifCond .ne 7, 3) := by decide +kernel
theorem dX4_leaveSeat_30 : decode cX4_leaveSeat 30 = .ok (.iconst 1, 1) := by decide +kernel
theorem dX4_leaveSeat_31 : decode cX4_leaveSeat 31 = .ok (.goto 27, 3) := by decide +kernel
theorem dX4_leaveSeat_34 : decode cX4_leaveSeat 34 = .ok (.aload_n 0, 1) := by decide +kernel
theorem dX4_leaveSeat_35 : decode cX4_leaveSeat 35 = .ok (.getfield 49, 3) := by decide +kernel
theorem dX4_leaveSeat_38 : decode cX4_leaveSeat 38 = .ok (.iload_n 2, 1) := by decide +kernel
theorem dX4_leaveSeat_39 : decode cX4_leaveSeat 39 = .ok (.iaload, 1) := by decide +kernel
theorem dX4_leaveSeat_40 : decode cX4_leaveSeat 40 = .ok (.iconst 1, 1) := by decide +kernel
theorem dX4_leaveSeat_41 : decode cX4_leaveSeat 41 = .ok (.if_icmp .eq 12, 3) := by decide +kernel
theorem dX4_leaveSeat_44 : decode cX4_leaveSeat 44 = .ok (.aload_n 0, 1) := by decide +kernel
theorem dX4_leaveSeat_45 : decode cX4_leaveSeat 45 = .ok (.iload_n 1, 1) := by decide +kernel
theorem dX4_leaveSeat_46 : decode cX4_leaveSeat 46 = .ok (.iload_n 2, 1) := by decide +kernel
theorem dX4_leaveSeat_47 : decode cX4_leaveSeat 47 = .ok (.invokevirtual 97, 3) := by decide +kernel
theorem dX4_leaveSeat_50 : decode cX4_leaveSeat 50 = .ok (.ifCond .ne 7, 3) := by decide +kernel
theorem dX4_leaveSeat_53 : decode cX4_leaveSeat 53 = .ok (.iconst 2, 1) := by decide +kernel
theorem dX4_leaveSeat_54 : decode cX4_leaveSeat 54 = .ok (.goto 4, 3) := by decide +kernel
theorem dX4_leaveSeat_57 : decode cX4_leaveSeat 57 = .ok (.iconst 0, 1) := by decide +kernel
theorem dX4_leaveSeat_58 : decode cX4_leaveSeat 58 = .ok (.invokevirtual 87, 3) := by decide +kernel
theorem dX4_leaveSeat_61 : decode cX4_leaveSeat 61 = .ok (.ifCond .eq 5, 3) := by decide +kernel
theorem dX4_leaveSeat_64 : decode cX4_leaveSeat 64 = .ok (.iconst (-1), 1) := by decide +kernel
theorem dX4_leaveSeat_65 : decode cX4_leaveSeat 65 = .ok (.ireturn, 1) := by decide +kernel
theorem dX4_leaveSeat_66 : decode cX4_leaveSeat 66 = .ok (.aload_n 0, 1) := by decide +kernel
theorem dX4_leaveSeat_67 : decode cX4_leaveSeat 67 = .ok (.getfield 46, 3) := by decide +kernel
theorem dX4_leaveSeat_70 : decode cX4_leaveSeat 70 = .ok (.iload_n 2, 1) := by decide +kernel
theorem dX4_leaveSeat_71 : decode cX4_leaveSeat 71 = .ok (.dup2, 1) := by decide +kernel
theorem dX4_leaveSeat_72 : decode cX4_leaveSeat 72 = .ok (.iaload, 1) := by decide +kernel
theorem dX4_leaveSeat_73 : decode cX4_leaveSeat 73 = .ok (.iconst 1, 1) := by decide +kernel
theorem dX4_leaveSeat_74 : decode cX4_leaveSeat 74 = .ok (.iload_n 1, 1) := by decide +kernel
theorem dX4_leaveSeat_75 : decode cX4_leaveSeat 75 = .ok (.ishl, 1) := by decide +kernel
theorem dX4_leaveSeat_76 : decode cX4_leaveSeat 76 = .ok (.iconst (-1), 1) := by decide +kernel
theorem dX4_leaveSeat_77 : decode cX4_leaveSeat 77 = .ok (.ixor, 1) := by decide +kernel
theorem dX4_leaveSeat_78 : decode cX4_leaveSeat 78 = .ok (.iand, 1) := by decide +kernel
theorem dX4_leaveSeat_79 : decode cX4_leaveSeat 79 = .ok (.iastore, 1) := by decide +kernel
theorem dX4_leaveSeat_80 : decode cX4_leaveSeat 80 = .ok (.aload_n 0, 1) := by decide +kernel
theorem dX4_leaveSeat_81 : decode cX4_leaveSeat 81 = .ok (.getfield 52, 3) := by decide +kernel
theorem dX4_leaveSeat_84 : decode cX4_leaveSeat 84 = .ok (.iload_n 1, 1) := by decide +kernel
theorem dX4_leaveSeat_85 : decode cX4_leaveSeat 85 = .ok (.aload_n 0, 1) := by decide +kernel
theorem dX4_leaveSeat_86 : decode cX4_leaveSeat 86 = .ok (.getfield 52, 3) := by decide +kernel
theorem dX4_leaveSeat_89 : decode cX4_leaveSeat 89 = .ok (.iload_n 1, 1) := by decide +kernel
theorem dX4_leaveSeat_90 : decode cX4_leaveSeat 90 = .ok (.iaload, 1) := by decide +kernel
theorem dX4_leaveSeat_91 : decode cX4_leaveSeat 91 = .ok (.iload_n 2, 1) := by decide +kernel
theorem dX4_leaveSeat_92 : decode cX4_leaveSeat 92 = .ok (.if_icmp .ne 7, 3) := by decide +kernel
theorem dX4_leaveSeat_95 : decode cX4_leaveSeat 95 = .ok (.iconst (-1), 1) := by decide +kernel
theorem dX4_leaveSeat_96 : decode cX4_leaveSeat 96 = .ok (.goto 9, 3) := by decide +kernel
theorem dX4_leaveSeat_99 : decode cX4_leaveSeat 99 = .ok (.aload_n 0, 1) := by decide +kernel
theorem dX4_leaveSeat_100 : decode cX4_leaveSeat 100 = .ok (.getfield 52, 3) := by decide +kernel
theorem dX4_leaveSeat_103 : decode cX4_leaveSeat 103 = .ok (.iload_n 1, 1) := by decide +kernel
theorem dX4_leaveSeat_104 : decode cX4_leaveSeat 104 = .ok (.iaload, 1) := by decide +kernel
theorem dX4_leaveSeat_105 : decode cX4_leaveSeat 105 = .ok (.iastore, 1) := by decide +kernel
theorem dX4_leaveSeat_106 : decode cX4_leaveSeat 106 = .ok (.iconst 0, 1) := by decide +kernel
theorem dX4_leaveSeat_107 : decode cX4_leaveSeat 107 = .ok (.istore 4, 2) := by decide +kernel
theorem dX4_leaveSeat_109 : decode cX4_leaveSeat 109 = .ok (.iconst 0, 1) := by decide +kernel
theorem dX4_leaveSeat_110 : decode cX4_leaveSeat 110 = .ok (.istore 5, 2) := by decide +kernel
theorem dX4_leaveSeat_112 : decode cX4_leaveSeat 112 = .ok (.iload 5, 2) := by decide +kernel
theorem dX4_leaveSeat_114 : decode cX4_leaveSeat 114 = .ok (.aload_n 0, 1) := by decide +kernel
theorem dX4_leaveSeat_115 : decode cX4_leaveSeat 115 = .ok (.getfield 77, 3) := by decide +kernel
theorem dX4_leaveSeat_118 : decode cX4_leaveSeat 118 = .ok (.if_icmp .ge 61, 3) := by decide +kernel
theorem dX4_leaveSeat_121 : decode cX4_leaveSeat 121 = .ok (.aload_n 0, 1) := by decide +kernel
theorem dX4_leaveSeat_122 : decode cX4_leaveSeat 122 = .ok (.getfield 28, 3) := by decide +kernel
theorem dX4_leaveSeat_125 : decode cX4_leaveSeat 125 = .ok (.iload 5, 2) := by decide +kernel
theorem dX4_leaveSeat_127 : decode cX4_leaveSeat 127 = .ok (.iaload, 1) := by decide +kernel
theorem dX4_leaveSeat_128 : decode cX4_leaveSeat 128 = .ok (.iconst 1, 1) := by decide +kernel
theorem dX4_leaveSeat_129 : decode cX4_leaveSeat 129 = .ok (.if_icmp .ne 44, 3) := by decide +kernel
theorem dX4_leaveSeat_132 : decode cX4_leaveSeat 132 = .ok (.aload_n 0, 1) := by decide +kernel
theorem dX4_leaveSeat_133 : decode cX4_leaveSeat 133 = .ok (.getfield 31, 3) := by decide +kernel
theorem dX4_leaveSeat_136 : decode cX4_leaveSeat 136 = .ok (.iload 5, 2) := by decide +kernel
theorem dX4_leaveSeat_138 : decode cX4_leaveSeat 138 = .ok (.iaload, 1) := by decide +kernel
theorem dX4_leaveSeat_139 : decode cX4_leaveSeat 139 = .ok (.iload_n 2, 1) := by decide +kernel
theorem dX4_leaveSeat_140 : decode cX4_leaveSeat 140 = .ok (.if_icmp .ne 33, 3) := by decide +kernel
theorem dX4_leaveSeat_143 : decode cX4_leaveSeat 143 = .ok (.aload_n 0, 1) := by decide +kernel
theorem dX4_leaveSeat_144 : decode cX4_leaveSeat 144 = .ok (.getfield 16, 3) := by decide +kernel
theorem dX4_leaveSeat_147 : decode cX4_leaveSeat 147 = .ok (.iload 5, 2) := by decide +kernel
theorem dX4_leaveSeat_149 : decode cX4_leaveSeat 149 = .ok (.iaload, 1) := by decide +kernel
theorem dX4_leaveSeat_150 : decode cX4_leaveSeat 150 = .ok (.iload_n 1, 1) := by decide +kernel
theorem dX4_leaveSeat_151 : decode cX4_leaveSeat 151 = .ok (.if_icmp .ne 22, 3) := by decide +kernel
theorem dX4_leaveSeat_154 : decode cX4_leaveSeat 154 = .ok (.aload_n 0, 1) := by decide +kernel
theorem dX4_leaveSeat_155 : decode cX4_leaveSeat 155 = .ok (.getfield 28, 3) := by decide +kernel
theorem dX4_leaveSeat_158 : decode cX4_leaveSeat 158 = .ok (.iload 5, 2) := by decide +kernel
theorem dX4_leaveSeat_160 : decode cX4_leaveSeat 160 = .ok (.iconst 0, 1) := by decide +kernel
theorem dX4_leaveSeat_161 : decode cX4_leaveSeat 161 = .ok (.iastore, 1) := by decide +kernel
theorem dX4_leaveSeat_162 : decode cX4_leaveSeat 162 = .ok (.aload_n 0, 1) := by decide +kernel
theorem dX4_leaveSeat_163 : decode cX4_leaveSeat 163 = .ok (.getfield 31, 3) := by decide +kernel
theorem dX4_leaveSeat_166 : decode cX4_leaveSeat 166 = .ok (.iload 5, 2) := by decide +kernel
theorem dX4_leaveSeat_168 : decode cX4_leaveSeat 168 = .ok (.iconst (-1), 1) := by decide +kernel
theorem dX4_leaveSeat_169 : decode cX4_leaveSeat 169 = .ok (.iastore, 1) := by decide +kernel
theorem dX4_leaveSeat_170 : decode cX4_leaveSeat 170 = .ok (.iinc 4 1, 3) := by decide +kernel
theorem dX4_leaveSeat_173 : decode cX4_leaveSeat 173 = .ok (.iinc 5 1, 3) := by decide +kernel
theorem dX4_leaveSeat_176 : decode cX4_leaveSeat 176 = .ok (.goto (-64), 3) := by decide +kernel
theorem dX4_leaveSeat_179 : decode cX4_leaveSeat 179 = .ok (.iload 4, 2) := by decide +kernel
theorem dX4_leaveSeat_181 : decode cX4_leaveSeat 181 = .ok (.ireturn, 1) := by decide +kernel
theorem dX4_aboard_0 : decode cX4_aboard 0 = .ok (.aload_n 0, 1) := by decide +kernel
theorem dX4_aboard_1 : decode cX4_aboard 1 = .ok (.iload_n 1, 1) := by decide +kernel
theorem dX4_aboard_2 : decode cX4_aboard 2 = .ok (.iconst 0, 1) := by decide +kernel
theorem dX4_aboard_3 : decode cX4_aboard 3 = .ok (.bipush 9, 2) := by decide +kernel
theorem dX4_aboard_5 : decode cX4_aboard 5 = .ok (.invokevirtual 80, 3) := by decide +kernel
theorem dX4_aboard_8 : decode cX4_aboard 8 = .ok (.ifCond .eq 15, 3) := by decide +kernel
theorem dX4_aboard_11 : decode cX4_aboard 11 = .ok (.aload_n 0, 1) := by decide +kernel
theorem dX4_aboard_12 : decode cX4_aboard 12 = .ok (.iload_n 2, 1) := by decide +kernel
theorem dX4_aboard_13 : decode cX4_aboard 13 = .ok (.invokevirtual 101, 3) := by decide +kernel
theorem dX4_aboard_16 : decode cX4_aboard 16 = .ok (.ifCond .eq 7, 3) := by decide +kernel
theorem dX4_aboard_19 : decode cX4_aboard 19 = .ok (.iconst 1, 1) := by decide +kernel
theorem dX4_aboard_20 : decode cX4_aboard 20 = .ok (.goto 4, 3) := by decide +kernel
theorem dX4_aboard_23 : decode cX4_aboard 23 = .ok (.iconst 0, 1) := by decide +kernel
theorem dX4_aboard_24 : decode cX4_aboard 24 = .ok (.istore_n 3, 1) := by decide +kernel
theorem dX4_aboard_25 : decode cX4_aboard 25 = .ok (.iload_n 3, 1) := by decide +kernel
theorem dX4_aboard_26 : decode cX4_aboard 26 = .ok (.ifCond .eq 72, 3) := by decide +kernel
theorem dX4_aboard_29 : decode cX4_aboard 29 = .ok (.aload_n 0, 1) := by decide +kernel
theorem dX4_aboard_30 : decode cX4_aboard 30 = .ok (.iload_n 1, 1) := by decide +kernel
theorem dX4_aboard_31 : decode cX4_aboard 31 = .ok (.iload_n 2, 1) := by decide +kernel
theorem dX4_aboard_32 : decode cX4_aboard 32 = .ok (.invokevirtual 97, 3) := by decide +kernel
theorem dX4_aboard_35 : decode cX4_aboard 35 = .ok (.ifCond .eq 59, 3) := by decide +kernel
theorem dX4_aboard_38 : decode cX4_aboard 38 = .ok (.aload_n 0, 1) := by decide +kernel
theorem dX4_aboard_39 : decode cX4_aboard 39 = .ok (.getfield 52, 3) := by decide +kernel
theorem dX4_aboard_42 : decode cX4_aboard 42 = .ok (.iload_n 1, 1) := by decide +kernel
theorem dX4_aboard_43 : decode cX4_aboard 43 = .ok (.iaload, 1) := by decide +kernel
theorem dX4_aboard_44 : decode cX4_aboard 44 = .ok (.ifCond .ge 50, 3) := by decide +kernel
theorem dX4_aboard_47 : decode cX4_aboard 47 = .ok (.aload_n 0, 1) := by decide +kernel
theorem dX4_aboard_48 : decode cX4_aboard 48 = .ok (.getfield 55, 3) := by decide +kernel
theorem dX4_aboard_51 : decode cX4_aboard 51 = .ok (.iload_n 1, 1) := by decide +kernel
theorem dX4_aboard_52 : decode cX4_aboard 52 = .ok (.iaload, 1) := by decide +kernel
theorem dX4_aboard_53 : decode cX4_aboard 53 = .ok (.iconst 1, 1) := by decide +kernel
theorem dX4_aboard_54 : decode cX4_aboard 54 = .ok (.if_icmp .eq 40, 3) := by decide +kernel
theorem dX4_aboard_57 : decode cX4_aboard 57 = .ok (.aload_n 0, 1) := by decide +kernel
theorem dX4_aboard_58 : decode cX4_aboard 58 = .ok (.getfield 49, 3) := by decide +kernel
theorem dX4_aboard_61 : decode cX4_aboard 61 = .ok (.iload_n 2, 1) := by decide +kernel
theorem dX4_aboard_62 : decode cX4_aboard 62 = .ok (.iaload, 1) := by decide +kernel
theorem dX4_aboard_63 : decode cX4_aboard 63 = .ok (.iconst 1, 1) := by decide +kernel
theorem dX4_aboard_64 : decode cX4_aboard 64 = .ok (.if_icmp .eq 30, 3) := by decide +kernel
theorem dX4_aboard_67 : decode cX4_aboard 67 = .ok (.aload_n 0, 1) := by decide +kernel
theorem dX4_aboard_68 : decode cX4_aboard 68 = .ok (.aload_n 0, 1) := by decide +kernel
theorem dX4_aboard_69 : decode cX4_aboard 69 = .ok (.getfield 91, 3) := by decide +kernel
theorem dX4_aboard_72 : decode cX4_aboard 72 = .ok (.aload_n 0, 1) := by decide +kernel
theorem dX4_aboard_73 : decode cX4_aboard 73 = .ok (.getfield 40, 3) := by decide +kernel
theorem dX4_aboard_76 : decode cX4_aboard 76 = .ok (.iload_n 2, 1) := by decide +kernel
theorem dX4_aboard_77 : decode cX4_aboard 77 = .ok (.iaload, 1) := by decide +kernel
theorem dX4_aboard_78 : decode cX4_aboard 78 = .ok (.iconst 3, 1) := by decide +kernel
theorem dX4_aboard_79 : decode cX4_aboard 79 = .ok (.isub, 1) := by decide +kernel
theorem dX4_aboard_80 : decode cX4_aboard 80 = .ok (.aload_n 0, 1) := by decide +kernel
theorem dX4_aboard_81 : decode cX4_aboard 81 = .ok (.getfield 40, 3) := by decide +kernel
theorem dX4_aboard_84 : decode cX4_aboard 84 = .ok (.iload_n 2, 1) := by decide +kernel
theorem dX4_aboard_85 : decode cX4_aboard 85 = .ok (.iaload, 1) := by decide +kernel
theorem dX4_aboard_86 : decode cX4_aboard 86 = .ok (.iconst 1, 1) := by decide +kernel
theorem dX4_aboard_87 : decode cX4_aboard 87 = .ok (.isub, 1) := by decide +kernel
theorem dX4_aboard_88 : decode cX4_aboard 88 = .ok (.invokevirtual 80, 3) := by decide +kernel
theorem dX4_aboard_91 : decode cX4_aboard 91 = .ok (.ifCond .ne 7, 3) := by decide +kernel
theorem dX4_aboard_94 : decode cX4_aboard 94 = .ok (.iconst 1, 1) := by decide +kernel
theorem dX4_aboard_95 : decode cX4_aboard 95 = .ok (.goto 4, 3) := by decide +kernel
theorem dX4_aboard_98 : decode cX4_aboard 98 = .ok (.iconst 0, 1) := by decide +kernel
theorem dX4_aboard_99 : decode cX4_aboard 99 = .ok (.istore 4, 2) := by decide +kernel
theorem dX4_aboard_101 : decode cX4_aboard 101 = .ok (.aload_n 0, 1) := by decide +kernel
theorem dX4_aboard_102 : decode cX4_aboard 102 = .ok (.iload_n 3, 1) := by decide +kernel
theorem dX4_aboard_103 : decode cX4_aboard 103 = .ok (.ifCond .ne 7, 3) := by decide +kernel
theorem dX4_aboard_106 : decode cX4_aboard 106 = .ok (.iconst 1, 1) := by decide +kernel
theorem dX4_aboard_107 : decode cX4_aboard 107 = .ok (.goto 13, 3) := by decide +kernel
theorem dX4_aboard_110 : decode cX4_aboard 110 = .ok (.iload 4, 2) := by decide +kernel
theorem dX4_aboard_112 : decode cX4_aboard 112 = .ok (.ifCond .eq 7, 3) := by decide +kernel
theorem dX4_aboard_115 : decode cX4_aboard 115 = .ok (.iconst 2, 1) := by decide +kernel
theorem dX4_aboard_116 : decode cX4_aboard 116 = .ok (.goto 4, 3) := by decide +kernel
theorem dX4_aboard_119 : decode cX4_aboard 119 = .ok (.iconst 0, 1) := by decide +kernel
theorem dX4_aboard_120 : decode cX4_aboard 120 = .ok (.invokevirtual 87, 3) := by decide +kernel
theorem dX4_aboard_123 : decode cX4_aboard 123 = .ok (.ifCond .eq 5, 3) := by decide +kernel
theorem dX4_aboard_126 : decode cX4_aboard 126 = .ok (.iconst (-1), 1) := by decide +kernel
theorem dX4_aboard_127 : decode cX4_aboard 127 = .ok (.ireturn, 1) := by decide +kernel
theorem dX4_aboard_128 : decode cX4_aboard 128 = .ok (.aload_n 0, 1) := by decide +kernel
theorem dX4_aboard_129 : decode cX4_aboard 129 = .ok (.getfield 52, 3) := by decide +kernel
theorem dX4_aboard_132 : decode cX4_aboard 132 = .ok (.iload_n 1, 1) := by decide +kernel
theorem dX4_aboard_133 : decode cX4_aboard 133 = .ok (.iload_n 2, 1) := by decide +kernel
theorem dX4_aboard_134 : decode cX4_aboard 134 = .ok (.iastore, 1) := by decide +kernel
theorem dX4_aboard_135 : decode cX4_aboard 135 = .ok (.iconst 0, 1) := by decide +kernel
theorem dX4_aboard_136 : decode cX4_aboard 136 = .ok (.istore 5, 2) := by decide +kernel
theorem dX4_aboard_138 : decode cX4_aboard 138 = .ok (.iconst 0, 1) := by decide +kernel
theorem dX4_aboard_139 : decode cX4_aboard 139 = .ok (.istore 6, 2) := by decide +kernel
theorem dX4_aboard_141 : decode cX4_aboard 141 = .ok (.iload 6, 2) := by decide +kernel
theorem dX4_aboard_143 : decode cX4_aboard 143 = .ok (.bipush 10, 2) := by decide +kernel
theorem dX4_aboard_145 : decode cX4_aboard 145 = .ok (.if_icmp .ge 30, 3) := by decide +kernel
theorem dX4_aboard_148 : decode cX4_aboard 148 = .ok (.iload 5, 2) := by decide +kernel
theorem dX4_aboard_150 : decode cX4_aboard 150 = .ok (.aload_n 0, 1) := by decide +kernel
theorem dX4_aboard_151 : decode cX4_aboard 151 = .ok (.getfield 52, 3) := by decide +kernel
theorem dX4_aboard_154 : decode cX4_aboard 154 = .ok (.iload 6, 2) := by decide +kernel
theorem dX4_aboard_156 : decode cX4_aboard 156 = .ok (.iaload, 1) := by decide +kernel
theorem dX4_aboard_157 : decode cX4_aboard 157 = .ok (.iload_n 2, 1) := by decide +kernel
theorem dX4_aboard_158 : decode cX4_aboard 158 = .ok (.if_icmp .ne 7, 3) := by decide +kernel
theorem dX4_aboard_161 : decode cX4_aboard 161 = .ok (.iconst 1, 1) := by decide +kernel
theorem dX4_aboard_162 : decode cX4_aboard 162 = .ok (.goto 4, 3) := by decide +kernel
theorem dX4_aboard_165 : decode cX4_aboard 165 = .ok (.iconst 0, 1) := by decide +kernel
theorem dX4_aboard_166 : decode cX4_aboard 166 = .ok (.iadd, 1) := by decide +kernel
theorem dX4_aboard_167 : decode cX4_aboard 167 = .ok (.istore 5, 2) := by decide +kernel
theorem dX4_aboard_169 : decode cX4_aboard 169 = .ok (.iinc 6 1, 3) := by decide +kernel
theorem dX4_aboard_172 : decode cX4_aboard 172 = .ok (.goto (-31), 3) := by decide +kernel
theorem dX4_aboard_175 : decode cX4_aboard 175 = .ok (.iload 5, 2) := by decide +kernel
theorem dX4_aboard_177 : decode cX4_aboard 177 = .ok (.ireturn, 1) := by decide +kernel
theorem dX4_stamp_0 : decode cX4_stamp 0 = .ok (.aload_n 0, 1) := by decide +kernel
theorem dX4_stamp_1 : decode cX4_stamp 1 = .ok (.iload_n 1, 1) := by decide +kernel
theorem dX4_stamp_2 : decode cX4_stamp 2 = .ok (.invokevirtual 94, 3) := by decide +kernel
theorem dX4_stamp_5 : decode cX4_stamp 5 = .ok (.ifCond .eq 15, 3) := by decide +kernel
theorem dX4_stamp_8 : decode cX4_stamp 8 = .ok (.aload_n 0, 1) := by decide +kernel
theorem dX4_stamp_9 : decode cX4_stamp 9 = .ok (.iload_n 2, 1) := by decide +kernel
theorem dX4_stamp_10 : decode cX4_stamp 10 = .ok (.invokevirtual 101, 3) := by decide +kernel
theorem dX4_stamp_13 : decode cX4_stamp 13 = .ok (.ifCond .eq 7, 3) := by decide +kernel
theorem dX4_stamp_16 : decode cX4_stamp 16 = .ok (.iconst 1, 1) := by decide +kernel
theorem dX4_stamp_17 : decode cX4_stamp 17 = .ok (.goto 4, 3) := by decide +kernel
theorem dX4_stamp_20 : decode cX4_stamp 20 = .ok (.iconst 0, 1) := by decide +kernel
theorem dX4_stamp_21 : decode cX4_stamp 21 = .ok (.istore_n 3, 1) := by decide +kernel
theorem dX4_stamp_22 : decode cX4_stamp 22 = .ok (.iload_n 3, 1) := by decide +kernel
theorem dX4_stamp_23 : decode cX4_stamp 23 = .ok (.ifCond .eq 79, 3) := by decide +kernel
theorem dX4_stamp_26 : decode cX4_stamp 26 = .ok (.aload_n 0, 1) := by decide +kernel
theorem dX4_stamp_27 : decode cX4_stamp 27 = .ok (.getfield 28, 3) := by decide +kernel
theorem dX4_stamp_30 : decode cX4_stamp 30 = .ok (.iload_n 1, 1) := by decide +kernel
theorem dX4_stamp_31 : decode cX4_stamp 31 = .ok (.iaload, 1) := by decide +kernel
theorem dX4_stamp_32 : decode cX4_stamp 32 = .ok (.ifCond .ne 66, 3) := by decide +kernel
theorem dX4_stamp_35 : decode cX4_stamp 35 = .ok (.aload_n 0, 1) := by decide +kernel
theorem dX4_stamp_36 : decode cX4_stamp 36 = .ok (.getfield 19, 3) := by decide +kernel
theorem dX4_stamp_39 : decode cX4_stamp 39 = .ok (.iload_n 1, 1) := by decide +kernel
theorem dX4_stamp_40 : decode cX4_stamp 40 = .ok (.iaload, 1) := by decide +kernel
theorem dX4_stamp_41 : decode cX4_stamp 41 = .ok (.bipush 50, 2) := by decide +kernel
theorem dX4_stamp_43 : decode cX4_stamp 43 = .ok (.if_icmp .lt 55, 3) := by decide +kernel
theorem dX4_stamp_46 : decode cX4_stamp 46 = .ok (.aload_n 0, 1) := by decide +kernel
theorem dX4_stamp_47 : decode cX4_stamp 47 = .ok (.getfield 49, 3) := by decide +kernel
theorem dX4_stamp_50 : decode cX4_stamp 50 = .ok (.iload_n 2, 1) := by decide +kernel
theorem dX4_stamp_51 : decode cX4_stamp 51 = .ok (.iaload, 1) := by decide +kernel
theorem dX4_stamp_52 : decode cX4_stamp 52 = .ok (.iconst 1, 1) := by decide +kernel
theorem dX4_stamp_53 : decode cX4_stamp 53 = .ok (.if_icmp .eq 45, 3) := by decide +kernel
theorem dX4_stamp_56 : decode cX4_stamp 56 = .ok (.aload_n 0, 1) := by decide +kernel
theorem dX4_stamp_57 : decode cX4_stamp 57 = .ok (.aload_n 0, 1) := by decide +kernel
theorem dX4_stamp_58 : decode cX4_stamp 58 = .ok (.getfield 16, 3) := by decide +kernel
theorem dX4_stamp_61 : decode cX4_stamp 61 = .ok (.iload_n 1, 1) := by decide +kernel
theorem dX4_stamp_62 : decode cX4_stamp 62 = .ok (.iaload, 1) := by decide +kernel
theorem dX4_stamp_63 : decode cX4_stamp 63 = .ok (.iload_n 2, 1) := by decide +kernel
theorem dX4_stamp_64 : decode cX4_stamp 64 = .ok (.invokevirtual 97, 3) := by decide +kernel
theorem dX4_stamp_67 : decode cX4_stamp 67 = .ok (.ifCond .eq 31, 3) := by decide +kernel
theorem dX4_stamp_70 : decode cX4_stamp 70 = .ok (.aload_n 0, 1) := by decide +kernel
theorem dX4_stamp_71 : decode cX4_stamp 71 = .ok (.aload_n 0, 1) := by decide +kernel
theorem dX4_stamp_72 : decode cX4_stamp 72 = .ok (.getfield 91, 3) := by decide +kernel
theorem dX4_stamp_75 : decode cX4_stamp 75 = .ok (.aload_n 0, 1) := by decide +kernel
theorem dX4_stamp_76 : decode cX4_stamp 76 = .ok (.getfield 40, 3) := by decide +kernel
theorem dX4_stamp_79 : decode cX4_stamp 79 = .ok (.iload_n 2, 1) := by decide +kernel
theorem dX4_stamp_80 : decode cX4_stamp 80 = .ok (.iaload, 1) := by decide +kernel
theorem dX4_stamp_81 : decode cX4_stamp 81 = .ok (.bipush 12, 2) := by decide +kernel
theorem dX4_stamp_83 : decode cX4_stamp 83 = .ok (.isub, 1) := by decide +kernel
theorem dX4_stamp_84 : decode cX4_stamp 84 = .ok (.aload_n 0, 1) := by decide +kernel
theorem dX4_stamp_85 : decode cX4_stamp 85 = .ok (.getfield 40, 3) := by decide +kernel
theorem dX4_stamp_88 : decode cX4_stamp 88 = .ok (.iload_n 2, 1) := by decide +kernel
theorem dX4_stamp_89 : decode cX4_stamp 89 = .ok (.iaload, 1) := by decide +kernel
theorem dX4_stamp_90 : decode cX4_stamp 90 = .ok (.iconst 1, 1) := by decide +kernel
theorem dX4_stamp_91 : decode cX4_stamp 91 = .ok (.isub, 1) := by decide +kernel
theorem dX4_stamp_92 : decode cX4_stamp 92 = .ok (.invokevirtual 80, 3) := by decide +kernel
theorem dX4_stamp_95 : decode cX4_stamp 95 = .ok (.ifCond .ne 7, 3) := by decide +kernel
theorem dX4_stamp_98 : decode cX4_stamp 98 = .ok (.iconst 1, 1) := by decide +kernel
theorem dX4_stamp_99 : decode cX4_stamp 99 = .ok (.goto 4, 3) := by decide +kernel
theorem dX4_stamp_102 : decode cX4_stamp 102 = .ok (.iconst 0, 1) := by decide +kernel
theorem dX4_stamp_103 : decode cX4_stamp 103 = .ok (.istore 4, 2) := by decide +kernel
theorem dX4_stamp_105 : decode cX4_stamp 105 = .ok (.aload_n 0, 1) := by decide +kernel
theorem dX4_stamp_106 : decode cX4_stamp 106 = .ok (.iload_n 3, 1) := by decide +kernel
theorem dX4_stamp_107 : decode cX4_stamp 107 = .ok (.ifCond .ne 7, 3) := by decide +kernel
theorem dX4_stamp_110 : decode cX4_stamp 110 = .ok (.iconst 1, 1) := by decide +kernel
theorem dX4_stamp_111 : decode cX4_stamp 111 = .ok (.goto 13, 3) := by decide +kernel
theorem dX4_stamp_114 : decode cX4_stamp 114 = .ok (.iload 4, 2) := by decide +kernel
theorem dX4_stamp_116 : decode cX4_stamp 116 = .ok (.ifCond .eq 7, 3) := by decide +kernel
theorem dX4_stamp_119 : decode cX4_stamp 119 = .ok (.iconst 2, 1) := by decide +kernel
theorem dX4_stamp_120 : decode cX4_stamp 120 = .ok (.goto 4, 3) := by decide +kernel
theorem dX4_stamp_123 : decode cX4_stamp 123 = .ok (.iconst 0, 1) := by decide +kernel
theorem dX4_stamp_124 : decode cX4_stamp 124 = .ok (.invokevirtual 87, 3) := by decide +kernel
theorem dX4_stamp_127 : decode cX4_stamp 127 = .ok (.ifCond .eq 5, 3) := by decide +kernel
theorem dX4_stamp_130 : decode cX4_stamp 130 = .ok (.iconst (-1), 1) := by decide +kernel
theorem dX4_stamp_131 : decode cX4_stamp 131 = .ok (.ireturn, 1) := by decide +kernel
theorem dX4_stamp_132 : decode cX4_stamp 132 = .ok (.aload_n 0, 1) := by decide +kernel
theorem dX4_stamp_133 : decode cX4_stamp 133 = .ok (.getfield 28, 3) := by decide +kernel
theorem dX4_stamp_136 : decode cX4_stamp 136 = .ok (.iload_n 1, 1) := by decide +kernel
theorem dX4_stamp_137 : decode cX4_stamp 137 = .ok (.iconst 1, 1) := by decide +kernel
theorem dX4_stamp_138 : decode cX4_stamp 138 = .ok (.iastore, 1) := by decide +kernel
theorem dX4_stamp_139 : decode cX4_stamp 139 = .ok (.aload_n 0, 1) := by decide +kernel
theorem dX4_stamp_140 : decode cX4_stamp 140 = .ok (.getfield 31, 3) := by decide +kernel
theorem dX4_stamp_143 : decode cX4_stamp 143 = .ok (.iload_n 1, 1) := by decide +kernel
theorem dX4_stamp_144 : decode cX4_stamp 144 = .ok (.iload_n 2, 1) := by decide +kernel
theorem dX4_stamp_145 : decode cX4_stamp 145 = .ok (.iastore, 1) := by decide +kernel
theorem dX4_stamp_146 : decode cX4_stamp 146 = .ok (.aload_n 0, 1) := by decide +kernel
theorem dX4_stamp_147 : decode cX4_stamp 147 = .ok (.getfield 22, 3) := by decide +kernel
theorem dX4_stamp_150 : decode cX4_stamp 150 = .ok (.iload_n 1, 1) := by decide +kernel
theorem dX4_stamp_151 : decode cX4_stamp 151 = .ok (.iaload, 1) := by decide +kernel
theorem dX4_stamp_152 : decode cX4_stamp 152 = .ok (.ireturn, 1) := by decide +kernel
theorem dX4_check_0 : decode cX4_check 0 = .ok (.aload_n 0, 1) := by decide +kernel
theorem dX4_check_1 : decode cX4_check 1 = .ok (.iload_n 1, 1) := by decide +kernel
theorem dX4_check_2 : decode cX4_check 2 = .ok (.invokevirtual 94, 3) := by decide +kernel
theorem dX4_check_5 : decode cX4_check 5 = .ok (.istore_n 3, 1) := by decide +kernel
theorem dX4_check_6 : decode cX4_check 6 = .ok (.aload_n 0, 1) := by decide +kernel
theorem dX4_check_7 : decode cX4_check 7 = .ok (.iload_n 3, 1) := by decide +kernel
theorem dX4_check_8 : decode cX4_check 8 = .ok (.ifCond .ne 7, 3) := by decide +kernel
theorem dX4_check_11 : decode cX4_check 11 = .ok (.iconst 1, 1) := by decide +kernel
theorem dX4_check_12 : decode cX4_check 12 = .ok (.goto 18, 3) := by decide +kernel
theorem dX4_check_15 : decode cX4_check 15 = .ok (.aload_n 0, 1) := by decide +kernel
theorem dX4_check_16 : decode cX4_check 16 = .ok (.getfield 28, 3) := by decide +kernel
theorem dX4_check_19 : decode cX4_check 19 = .ok (.iload_n 1, 1) := by decide +kernel
theorem dX4_check_20 : decode cX4_check 20 = .ok (.iaload, 1) := by decide +kernel
theorem dX4_check_21 : decode cX4_check 21 = .ok (.iconst 1, 1) := by decide +kernel
theorem dX4_check_22 : decode cX4_check 22 = .ok (.if_icmp .eq 7, 3) := by decide +kernel
theorem dX4_check_25 : decode cX4_check 25 = .ok (.iconst 2, 1) := by decide +kernel
theorem dX4_check_26 : decode cX4_check 26 = .ok (.goto 4, 3) := by decide +kernel
theorem dX4_check_29 : decode cX4_check 29 = .ok (.iconst 0, 1) := by decide +kernel
theorem dX4_check_30 : decode cX4_check 30 = .ok (.invokevirtual 87, 3) := by decide +kernel
theorem dX4_check_33 : decode cX4_check 33 = .ok (.ifCond .eq 5, 3) := by decide +kernel
theorem dX4_check_36 : decode cX4_check 36 = .ok (.iconst (-1), 1) := by decide +kernel
theorem dX4_check_37 : decode cX4_check 37 = .ok (.ireturn, 1) := by decide +kernel
theorem dX4_check_38 : decode cX4_check 38 = .ok (.iload_n 2, 1) := by decide +kernel
theorem dX4_check_39 : decode cX4_check 39 = .ok (.ifCond .ne 33, 3) := by decide +kernel
theorem dX4_check_42 : decode cX4_check 42 = .ok (.aload_n 0, 1) := by decide +kernel
theorem dX4_check_43 : decode cX4_check 43 = .ok (.getfield 28, 3) := by decide +kernel
theorem dX4_check_46 : decode cX4_check 46 = .ok (.iload_n 1, 1) := by decide +kernel
theorem dX4_check_47 : decode cX4_check 47 = .ok (.iconst 3, 1) := by decide +kernel
theorem dX4_check_48 : decode cX4_check 48 = .ok (.iastore, 1) := by decide +kernel
theorem dX4_check_49 : decode cX4_check 49 = .ok (.aload_n 0, 1) := by decide +kernel
theorem dX4_check_50 : decode cX4_check 50 = .ok (.getfield 31, 3) := by decide +kernel
theorem dX4_check_53 : decode cX4_check 53 = .ok (.iload_n 1, 1) := by decide +kernel
theorem dX4_check_54 : decode cX4_check 54 = .ok (.iconst (-1), 1) := by decide +kernel
theorem dX4_check_55 : decode cX4_check 55 = .ok (.iastore, 1) := by decide +kernel
theorem dX4_check_56 : decode cX4_check 56 = .ok (.aload_n 0, 1) := by decide +kernel
theorem dX4_check_57 : decode cX4_check 57 = .ok (.getfield 64, 3) := by decide +kernel
theorem dX4_check_60 : decode cX4_check 60 = .ok (.aload_n 0, 1) := by decide +kernel
theorem dX4_check_61 : decode cX4_check 61 = .ok (.getfield 16, 3) := by decide +kernel
theorem dX4_check_64 : decode cX4_check 64 = .ok (.iload_n 1, 1) := by decide +kernel
theorem dX4_check_65 : decode cX4_check 65 = .ok (.iaload, 1) := by decide +kernel
theorem dX4_check_66 : decode cX4_check 66 = .ok (.dup2, 1) := by decide +kernel
theorem dX4_check_67 : decode cX4_check 67 = .ok (.iaload, 1) := by decide +kernel
theorem dX4_check_68 : decode cX4_check 68 = .ok (.bipush 50, 2) := by decide +kernel
theorem dX4_check_70 : decode cX4_check 70 = .ok (.iadd, 1) := by decide +kernel
theorem dX4_check_71 : decode cX4_check 71 = .ok (.iastore, 1) := by decide +kernel
theorem dX4_check_72 : decode cX4_check 72 = .ok (.aload_n 0, 1) := by decide +kernel
theorem dX4_check_73 : decode cX4_check 73 = .ok (.getfield 28, 3) := by decide +kernel
theorem dX4_check_76 : decode cX4_check 76 = .ok (.iload_n 1, 1) := by decide +kernel
theorem dX4_check_77 : decode cX4_check 77 = .ok (.iaload, 1) := by decide +kernel
theorem dX4_check_78 : decode cX4_check 78 = .ok (.ireturn, 1) := by decide +kernel
theorem dX4_comeBack_0 : decode cX4_comeBack 0 = .ok (.aload_n 0, 1) := by decide +kernel
theorem dX4_comeBack_1 : decode cX4_comeBack 1 = .ok (.iload_n 1, 1) := by decide +kernel
theorem dX4_comeBack_2 : decode cX4_comeBack 2 = .ok (.iconst 0, 1) := by decide +kernel
theorem dX4_comeBack_3 : decode cX4_comeBack 3 = .ok (.bipush 9, 2) := by decide +kernel
theorem dX4_comeBack_5 : decode cX4_comeBack 5 = .ok (.invokevirtual 80, 3) := by decide +kernel
theorem dX4_comeBack_8 : decode cX4_comeBack 8 = .ok (.istore_n 2, 1) := by decide +kernel
theorem dX4_comeBack_9 : decode cX4_comeBack 9 = .ok (.aload_n 0, 1) := by decide +kernel
theorem dX4_comeBack_10 : decode cX4_comeBack 10 = .ok (.iload_n 2, 1) := by decide +kernel
theorem dX4_comeBack_11 : decode cX4_comeBack 11 = .ok (.ifCond .ne 7, 3) := by decide +kernel
theorem dX4_comeBack_14 : decode cX4_comeBack 14 = .ok (.iconst 1, 1) := by decide +kernel
theorem dX4_comeBack_15 : decode cX4_comeBack 15 = .ok (.goto 17, 3) := by decide +kernel
theorem dX4_comeBack_18 : decode cX4_comeBack 18 = .ok (.aload_n 0, 1) := by decide +kernel
theorem dX4_comeBack_19 : decode cX4_comeBack 19 = .ok (.getfield 55, 3) := by decide +kernel
theorem dX4_comeBack_22 : decode cX4_comeBack 22 = .ok (.iload_n 1, 1) := by decide +kernel
theorem dX4_comeBack_23 : decode cX4_comeBack 23 = .ok (.iaload, 1) := by decide +kernel
theorem dX4_comeBack_24 : decode cX4_comeBack 24 = .ok (.ifCond .ne 7, 3) := by decide +kernel
theorem dX4_comeBack_27 : decode cX4_comeBack 27 = .ok (.iconst 2, 1) := by decide +kernel
theorem dX4_comeBack_28 : decode cX4_comeBack 28 = .ok (.goto 4, 3) := by decide +kernel
theorem dX4_comeBack_31 : decode cX4_comeBack 31 = .ok (.iconst 0, 1) := by decide +kernel
theorem dX4_comeBack_32 : decode cX4_comeBack 32 = .ok (.invokevirtual 87, 3) := by decide +kernel
theorem dX4_comeBack_35 : decode cX4_comeBack 35 = .ok (.ifCond .eq 5, 3) := by decide +kernel
theorem dX4_comeBack_38 : decode cX4_comeBack 38 = .ok (.iconst (-1), 1) := by decide +kernel
theorem dX4_comeBack_39 : decode cX4_comeBack 39 = .ok (.ireturn, 1) := by decide +kernel
theorem dX4_comeBack_40 : decode cX4_comeBack 40 = .ok (.aload_n 0, 1) := by decide +kernel
theorem dX4_comeBack_41 : decode cX4_comeBack 41 = .ok (.getfield 55, 3) := by decide +kernel
theorem dX4_comeBack_44 : decode cX4_comeBack 44 = .ok (.iload_n 1, 1) := by decide +kernel
theorem dX4_comeBack_45 : decode cX4_comeBack 45 = .ok (.iconst 0, 1) := by decide +kernel
theorem dX4_comeBack_46 : decode cX4_comeBack 46 = .ok (.iastore, 1) := by decide +kernel
theorem dX4_comeBack_47 : decode cX4_comeBack 47 = .ok (.aload_n 0, 1) := by decide +kernel
theorem dX4_comeBack_48 : decode cX4_comeBack 48 = .ok (.getfield 58, 3) := by decide +kernel
theorem dX4_comeBack_51 : decode cX4_comeBack 51 = .ok (.iload_n 1, 1) := by decide +kernel
theorem dX4_comeBack_52 : decode cX4_comeBack 52 = .ok (.iaload, 1) := by decide +kernel
theorem dX4_comeBack_53 : decode cX4_comeBack 53 = .ok (.ireturn, 1) := by decide +kernel
theorem dX4_pays_0 : decode cX4_pays 0 = .ok (.aload_n 0, 1) := by decide +kernel
theorem dX4_pays_1 : decode cX4_pays 1 = .ok (.getfield 16, 3) := by decide +kernel
theorem dX4_pays_4 : decode cX4_pays 4 = .ok (.iload_n 1, 1) := by decide +kernel
theorem dX4_pays_5 : decode cX4_pays 5 = .ok (.iaload, 1) := by decide +kernel
theorem dX4_pays_6 : decode cX4_pays 6 = .ok (.istore_n 2, 1) := by decide +kernel
theorem dX4_pays_7 : decode cX4_pays 7 = .ok (.aload_n 0, 1) := by decide +kernel
theorem dX4_pays_8 : decode cX4_pays 8 = .ok (.getfield 22, 3) := by decide +kernel
theorem dX4_pays_11 : decode cX4_pays 11 = .ok (.iload_n 1, 1) := by decide +kernel
theorem dX4_pays_12 : decode cX4_pays 12 = .ok (.iaload, 1) := by decide +kernel
theorem dX4_pays_13 : decode cX4_pays 13 = .ok (.aload_n 0, 1) := by decide +kernel
theorem dX4_pays_14 : decode cX4_pays 14 = .ok (.getfield 22, 3) := by decide +kernel
theorem dX4_pays_17 : decode cX4_pays 17 = .ok (.iload_n 1, 1) := by decide +kernel
theorem dX4_pays_18 : decode cX4_pays 18 = .ok (.iaload, 1) := by decide +kernel
theorem dX4_pays_19 : decode cX4_pays 19 = .ok (.bipush 9, 2) := by decide +kernel
theorem dX4_pays_21 : decode cX4_pays 21 = .ok (.iadd, 1) := by decide +kernel
theorem dX4_pays_22 : decode cX4_pays 22 = .ok (.bipush 10, 2) := by decide +kernel
theorem dX4_pays_24 : decode cX4_pays 24 = .ok (.idiv, 1) := by decide +kernel
theorem dX4_pays_25 : decode cX4_pays 25 = .ok (.isub, 1) := by decide +kernel
theorem dX4_pays_26 : decode cX4_pays 26 = .ok (.istore_n 3, 1) := by decide +kernel
theorem dX4_pays_27 : decode cX4_pays 27 = .ok (.aload_n 0, 1) := by decide +kernel
theorem dX4_pays_28 : decode cX4_pays 28 = .ok (.getfield 70, 3) := by decide +kernel
theorem dX4_pays_31 : decode cX4_pays 31 = .ok (.iload_n 2, 1) := by decide +kernel
theorem dX4_pays_32 : decode cX4_pays 32 = .ok (.iaload, 1) := by decide +kernel
theorem dX4_pays_33 : decode cX4_pays 33 = .ok (.iload_n 3, 1) := by decide +kernel
theorem dX4_pays_34 : decode cX4_pays 34 = .ok (.iadd, 1) := by decide +kernel
theorem dX4_pays_35 : decode cX4_pays 35 = .ok (.sipush 500, 3) := by decide +kernel
theorem dX4_pays_38 : decode cX4_pays 38 = .ok (.if_icmp .le 16, 3) := by decide +kernel
theorem dX4_pays_41 : decode cX4_pays 41 = .ok (.sipush 500, 3) := by decide +kernel
theorem dX4_pays_44 : decode cX4_pays 44 = .ok (.aload_n 0, 1) := by decide +kernel
theorem dX4_pays_45 : decode cX4_pays 45 = .ok (.getfield 70, 3) := by decide +kernel
theorem dX4_pays_48 : decode cX4_pays 48 = .ok (.iload_n 2, 1) := by decide +kernel
theorem dX4_pays_49 : decode cX4_pays 49 = .ok (.iaload, 1) := by decide +kernel
theorem dX4_pays_50 : decode cX4_pays 50 = .ok (.isub, 1) := by decide +kernel
theorem dX4_pays_51 : decode cX4_pays 51 = .ok (.goto 4, 3) := by decide +kernel
theorem dX4_pays_54 : decode cX4_pays 54 = .ok (.iload_n 3, 1) := by decide +kernel
theorem dX4_pays_55 : decode cX4_pays 55 = .ok (.istore_n 3, 1) := by decide +kernel
theorem dX4_pays_56 : decode cX4_pays 56 = .ok (.aload_n 0, 1) := by decide +kernel
theorem dX4_pays_57 : decode cX4_pays 57 = .ok (.getfield 70, 3) := by decide +kernel
theorem dX4_pays_60 : decode cX4_pays 60 = .ok (.iload_n 2, 1) := by decide +kernel
theorem dX4_pays_61 : decode cX4_pays 61 = .ok (.dup2, 1) := by decide +kernel
theorem dX4_pays_62 : decode cX4_pays 62 = .ok (.iaload, 1) := by decide +kernel
theorem dX4_pays_63 : decode cX4_pays 63 = .ok (.iload_n 3, 1) := by decide +kernel
theorem dX4_pays_64 : decode cX4_pays 64 = .ok (.iadd, 1) := by decide +kernel
theorem dX4_pays_65 : decode cX4_pays 65 = .ok (.iastore, 1) := by decide +kernel
theorem dX4_pays_66 : decode cX4_pays 66 = .ok (.aload_n 0, 1) := by decide +kernel
theorem dX4_pays_67 : decode cX4_pays 67 = .ok (.getfield 67, 3) := by decide +kernel
theorem dX4_pays_70 : decode cX4_pays 70 = .ok (.iload_n 2, 1) := by decide +kernel
theorem dX4_pays_71 : decode cX4_pays 71 = .ok (.dup2, 1) := by decide +kernel
theorem dX4_pays_72 : decode cX4_pays 72 = .ok (.iaload, 1) := by decide +kernel
theorem dX4_pays_73 : decode cX4_pays 73 = .ok (.iload_n 3, 1) := by decide +kernel
theorem dX4_pays_74 : decode cX4_pays 74 = .ok (.iadd, 1) := by decide +kernel
theorem dX4_pays_75 : decode cX4_pays 75 = .ok (.iastore, 1) := by decide +kernel
theorem dX4_pays_76 : decode cX4_pays 76 = .ok (.aload_n 0, 1) := by decide +kernel
theorem dX4_pays_77 : decode cX4_pays 77 = .ok (.getfield 34, 3) := by decide +kernel
theorem dX4_pays_80 : decode cX4_pays 80 = .ok (.iload_n 1, 1) := by decide +kernel
theorem dX4_pays_81 : decode cX4_pays 81 = .ok (.iload_n 3, 1) := by decide +kernel
theorem dX4_pays_82 : decode cX4_pays 82 = .ok (.iastore, 1) := by decide +kernel
theorem dX4_pays_83 : decode cX4_pays 83 = .ok (.aload_n 0, 1) := by decide +kernel
theorem dX4_pays_84 : decode cX4_pays 84 = .ok (.getfield 28, 3) := by decide +kernel
theorem dX4_pays_87 : decode cX4_pays 87 = .ok (.iload_n 1, 1) := by decide +kernel
theorem dX4_pays_88 : decode cX4_pays 88 = .ok (.iconst 2, 1) := by decide +kernel
theorem dX4_pays_89 : decode cX4_pays 89 = .ok (.iastore, 1) := by decide +kernel
theorem dX4_pays_90 : decode cX4_pays 90 = .ok (.return_, 1) := by decide +kernel
theorem dX4_fails_0 : decode cX4_fails 0 = .ok (.aload_n 0, 1) := by decide +kernel
theorem dX4_fails_1 : decode cX4_fails 1 = .ok (.getfield 37, 3) := by decide +kernel
theorem dX4_fails_4 : decode cX4_fails 4 = .ok (.iload_n 1, 1) := by decide +kernel
theorem dX4_fails_5 : decode cX4_fails 5 = .ok (.dup2, 1) := by decide +kernel
theorem dX4_fails_6 : decode cX4_fails 6 = .ok (.iaload, 1) := by decide +kernel
theorem dX4_fails_7 : decode cX4_fails 7 = .ok (.iconst 1, 1) := by decide +kernel
theorem dX4_fails_8 : decode cX4_fails 8 = .ok (.iadd, 1) := by decide +kernel
theorem dX4_fails_9 : decode cX4_fails 9 = .ok (.iastore, 1) := by decide +kernel
theorem dX4_fails_10 : decode cX4_fails 10 = .ok (.aload_n 0, 1) := by decide +kernel
theorem dX4_fails_11 : decode cX4_fails 11 = .ok (.getfield 28, 3) := by decide +kernel
theorem dX4_fails_14 : decode cX4_fails 14 = .ok (.iload_n 1, 1) := by decide +kernel
theorem dX4_fails_15 : decode cX4_fails 15 = .ok (.aload_n 0, 1) := by decide +kernel
theorem dX4_fails_16 : decode cX4_fails 16 = .ok (.getfield 37, 3) := by decide +kernel
theorem dX4_fails_19 : decode cX4_fails 19 = .ok (.iload_n 1, 1) := by decide +kernel
theorem dX4_fails_20 : decode cX4_fails 20 = .ok (.iaload, 1) := by decide +kernel
theorem dX4_fails_21 : decode cX4_fails 21 = .ok (.iconst 2, 1) := by decide +kernel
theorem dX4_fails_22 : decode cX4_fails 22 = .ok (.if_icmp .ne 7, 3) := by decide +kernel
theorem dX4_fails_25 : decode cX4_fails 25 = .ok (.iconst 3, 1) := by decide +kernel
theorem dX4_fails_26 : decode cX4_fails 26 = .ok (.goto 4, 3) := by decide +kernel
theorem dX4_fails_29 : decode cX4_fails 29 = .ok (.iconst 0, 1) := by decide +kernel
theorem dX4_fails_30 : decode cX4_fails 30 = .ok (.iastore, 1) := by decide +kernel
theorem dX4_fails_31 : decode cX4_fails 31 = .ok (.aload_n 0, 1) := by decide +kernel
theorem dX4_fails_32 : decode cX4_fails 32 = .ok (.getfield 31, 3) := by decide +kernel
theorem dX4_fails_35 : decode cX4_fails 35 = .ok (.iload_n 1, 1) := by decide +kernel
theorem dX4_fails_36 : decode cX4_fails 36 = .ok (.iconst (-1), 1) := by decide +kernel
theorem dX4_fails_37 : decode cX4_fails 37 = .ok (.iastore, 1) := by decide +kernel
theorem dX4_fails_38 : decode cX4_fails 38 = .ok (.return_, 1) := by decide +kernel
theorem dX4_sails_0 : decode cX4_sails 0 = .ok (.iconst 0, 1) := by decide +kernel
theorem dX4_sails_1 : decode cX4_sails 1 = .ok (.istore_n 2, 1) := by decide +kernel
theorem dX4_sails_2 : decode cX4_sails 2 = .ok (.iconst 0, 1) := by decide +kernel
theorem dX4_sails_3 : decode cX4_sails 3 = .ok (.istore_n 3, 1) := by decide +kernel
theorem dX4_sails_4 : decode cX4_sails 4 = .ok (.iload_n 3, 1) := by decide +kernel
theorem dX4_sails_5 : decode cX4_sails 5 = .ok (.bipush 10, 2) := by decide +kernel
theorem dX4_sails_7 : decode cX4_sails 7 = .ok (.if_icmp .ge 82, 3) := by decide +kernel
theorem dX4_sails_10 : decode cX4_sails 10 = .ok (.aload_n 0, 1) := by decide +kernel
theorem dX4_sails_11 : decode cX4_sails 11 = .ok (.getfield 70, 3) := by decide +kernel
theorem dX4_sails_14 : decode cX4_sails 14 = .ok (.iload_n 3, 1) := by decide +kernel
theorem dX4_sails_15 : decode cX4_sails 15 = .ok (.iconst 0, 1) := by decide +kernel
theorem dX4_sails_16 : decode cX4_sails 16 = .ok (.iastore, 1) := by decide +kernel
theorem dX4_sails_17 : decode cX4_sails 17 = .ok (.aload_n 0, 1) := by decide +kernel
theorem dX4_sails_18 : decode cX4_sails 18 = .ok (.getfield 52, 3) := by decide +kernel
theorem dX4_sails_21 : decode cX4_sails 21 = .ok (.iload_n 3, 1) := by decide +kernel
theorem dX4_sails_22 : decode cX4_sails 22 = .ok (.iaload, 1) := by decide +kernel
theorem dX4_sails_23 : decode cX4_sails 23 = .ok (.iload_n 1, 1) := by decide +kernel
theorem dX4_sails_24 : decode cX4_sails 24 = .ok (.if_icmp .ne 36, 3) := by decide +kernel
theorem dX4_sails_27 : decode cX4_sails 27 = .ok (.iload_n 2, 1) := by decide +kernel
theorem dX4_sails_28 : decode cX4_sails 28 = .ok (.iconst 1, 1) := by decide +kernel
theorem dX4_sails_29 : decode cX4_sails 29 = .ok (.iload_n 3, 1) := by decide +kernel
theorem dX4_sails_30 : decode cX4_sails 30 = .ok (.ishl, 1) := by decide +kernel
theorem dX4_sails_31 : decode cX4_sails 31 = .ok (.ior, 1) := by decide +kernel
theorem dX4_sails_32 : decode cX4_sails 32 = .ok (.istore_n 2, 1) := by decide +kernel
theorem dX4_sails_33 : decode cX4_sails 33 = .ok (.aload_n 0, 1) := by decide +kernel
theorem dX4_sails_34 : decode cX4_sails 34 = .ok (.getfield 55, 3) := by decide +kernel
theorem dX4_sails_37 : decode cX4_sails 37 = .ok (.iload_n 3, 1) := by decide +kernel
theorem dX4_sails_38 : decode cX4_sails 38 = .ok (.iconst 1, 1) := by decide +kernel
theorem dX4_sails_39 : decode cX4_sails 39 = .ok (.iastore, 1) := by decide +kernel
theorem dX4_sails_40 : decode cX4_sails 40 = .ok (.aload_n 0, 1) := by decide +kernel
theorem dX4_sails_41 : decode cX4_sails 41 = .ok (.getfield 58, 3) := by decide +kernel
theorem dX4_sails_44 : decode cX4_sails 44 = .ok (.iload_n 3, 1) := by decide +kernel
theorem dX4_sails_45 : decode cX4_sails 45 = .ok (.dup2, 1) := by decide +kernel
theorem dX4_sails_46 : decode cX4_sails 46 = .ok (.iaload, 1) := by decide +kernel
theorem dX4_sails_47 : decode cX4_sails 47 = .ok (.iconst 1, 1) := by decide +kernel
theorem dX4_sails_48 : decode cX4_sails 48 = .ok (.iadd, 1) := by decide +kernel
theorem dX4_sails_49 : decode cX4_sails 49 = .ok (.iastore, 1) := by decide +kernel
theorem dX4_sails_50 : decode cX4_sails 50 = .ok (.aload_n 0, 1) := by decide +kernel
theorem dX4_sails_51 : decode cX4_sails 51 = .ok (.getfield 52, 3) := by decide +kernel
theorem dX4_sails_54 : decode cX4_sails 54 = .ok (.iload_n 3, 1) := by decide +kernel
theorem dX4_sails_55 : decode cX4_sails 55 = .ok (.iconst (-1), 1) := by decide +kernel
theorem dX4_sails_56 : decode cX4_sails 56 = .ok (.iastore, 1) := by decide +kernel
theorem dX4_sails_57 : decode cX4_sails 57 = .ok (.goto 26, 3) := by decide +kernel
theorem dX4_sails_60 : decode cX4_sails 60 = .ok (.aload_n 0, 1) := by decide +kernel
theorem dX4_sails_61 : decode cX4_sails 61 = .ok (.getfield 61, 3) := by decide +kernel
theorem dX4_sails_64 : decode cX4_sails 64 = .ok (.iload_n 3, 1) := by decide +kernel
theorem dX4_sails_65 : decode cX4_sails 65 = .ok (.dup2, 1) := by decide +kernel
theorem dX4_sails_66 : decode cX4_sails 66 = .ok (.iaload, 1) := by decide +kernel
theorem dX4_sails_67 : decode cX4_sails 67 = .ok (.aload_n 0, 1) := by decide +kernel
theorem dX4_sails_68 : decode cX4_sails 68 = .ok (.iload_n 3, 1) := by decide +kernel
theorem dX4_sails_69 : decode cX4_sails 69 = .ok (.iload_n 1, 1) := by decide +kernel
theorem dX4_sails_70 : decode cX4_sails 70 = .ok (.invokevirtual 97, 3) := by decide +kernel
theorem dX4_sails_73 : decode cX4_sails 73 = .ok (.ifCond .eq 7, 3) := by decide +kernel
theorem dX4_sails_76 : decode cX4_sails 76 = .ok (.iconst 1, 1) := by decide +kernel
theorem dX4_sails_77 : decode cX4_sails 77 = .ok (.goto 4, 3) := by decide +kernel
theorem dX4_sails_80 : decode cX4_sails 80 = .ok (.iconst 0, 1) := by decide +kernel
theorem dX4_sails_81 : decode cX4_sails 81 = .ok (.iadd, 1) := by decide +kernel
theorem dX4_sails_82 : decode cX4_sails 82 = .ok (.iastore, 1) := by decide +kernel
theorem dX4_sails_83 : decode cX4_sails 83 = .ok (.iinc 3 1, 3) := by decide +kernel
theorem dX4_sails_86 : decode cX4_sails 86 = .ok (.goto (-82), 3) := by decide +kernel
theorem dX4_sails_89 : decode cX4_sails 89 = .ok (.iconst 0, 1) := by decide +kernel
theorem dX4_sails_90 : decode cX4_sails 90 = .ok (.istore_n 3, 1) := by decide +kernel
theorem dX4_sails_91 : decode cX4_sails 91 = .ok (.iload_n 3, 1) := by decide +kernel
theorem dX4_sails_92 : decode cX4_sails 92 = .ok (.aload_n 0, 1) := by decide +kernel
theorem dX4_sails_93 : decode cX4_sails 93 = .ok (.getfield 77, 3) := by decide +kernel
theorem dX4_sails_96 : decode cX4_sails 96 = .ok (.if_icmp .ge 56, 3) := by decide +kernel
theorem dX4_sails_99 : decode cX4_sails 99 = .ok (.aload_n 0, 1) := by decide +kernel
theorem dX4_sails_100 : decode cX4_sails 100 = .ok (.getfield 28, 3) := by decide +kernel
theorem dX4_sails_103 : decode cX4_sails 103 = .ok (.iload_n 3, 1) := by decide +kernel
theorem dX4_sails_104 : decode cX4_sails 104 = .ok (.iaload, 1) := by decide +kernel
theorem dX4_sails_105 : decode cX4_sails 105 = .ok (.iconst 1, 1) := by decide +kernel
theorem dX4_sails_106 : decode cX4_sails 106 = .ok (.if_icmp .ne 40, 3) := by decide +kernel
theorem dX4_sails_109 : decode cX4_sails 109 = .ok (.aload_n 0, 1) := by decide +kernel
theorem dX4_sails_110 : decode cX4_sails 110 = .ok (.getfield 31, 3) := by decide +kernel
theorem dX4_sails_113 : decode cX4_sails 113 = .ok (.iload_n 3, 1) := by decide +kernel
theorem dX4_sails_114 : decode cX4_sails 114 = .ok (.iaload, 1) := by decide +kernel
theorem dX4_sails_115 : decode cX4_sails 115 = .ok (.iload_n 1, 1) := by decide +kernel
theorem dX4_sails_116 : decode cX4_sails 116 = .ok (.if_icmp .ne 30, 3) := by decide +kernel
theorem dX4_sails_119 : decode cX4_sails 119 = .ok (.iload_n 2, 1) := by decide +kernel
theorem dX4_sails_120 : decode cX4_sails 120 = .ok (.aload_n 0, 1) := by decide +kernel
theorem dX4_sails_121 : decode cX4_sails 121 = .ok (.getfield 16, 3) := by decide +kernel
theorem dX4_sails_124 : decode cX4_sails 124 = .ok (.iload_n 3, 1) := by decide +kernel
theorem dX4_sails_125 : decode cX4_sails 125 = .ok (.iaload, 1) := by decide +kernel
theorem dX4_sails_126 : decode cX4_sails 126 = .ok (.ishr, 1) := by decide +kernel
theorem dX4_sails_127 : decode cX4_sails 127 = .ok (.iconst 1, 1) := by decide +kernel
theorem dX4_sails_128 : decode cX4_sails 128 = .ok (.iand, 1) := by decide +kernel
theorem dX4_sails_129 : decode cX4_sails 129 = .ok (.iconst 1, 1) := by decide +kernel
theorem dX4_sails_130 : decode cX4_sails 130 = .ok (.if_icmp .ne 11, 3) := by decide +kernel
theorem dX4_sails_133 : decode cX4_sails 133 = .ok (.aload_n 0, 1) := by decide +kernel
theorem dX4_sails_134 : decode cX4_sails 134 = .ok (.iload_n 3, 1) := by decide +kernel
theorem dX4_sails_135 : decode cX4_sails 135 = .ok (.invokevirtual 108, 3) := by decide +kernel
theorem dX4_sails_138 : decode cX4_sails 138 = .ok (.goto 8, 3) := by decide +kernel
theorem dX4_sails_141 : decode cX4_sails 141 = .ok (.aload_n 0, 1) := by decide +kernel
theorem dX4_sails_142 : decode cX4_sails 142 = .ok (.iload_n 3, 1) := by decide +kernel
theorem dX4_sails_143 : decode cX4_sails 143 = .ok (.invokevirtual 112, 3) := by decide +kernel
theorem dX4_sails_146 : decode cX4_sails 146 = .ok (.iinc 3 1, 3) := by decide +kernel
theorem dX4_sails_149 : decode cX4_sails 149 = .ok (.goto (-58), 3) := by decide +kernel
theorem dX4_sails_152 : decode cX4_sails 152 = .ok (.aload_n 0, 1) := by decide +kernel
theorem dX4_sails_153 : decode cX4_sails 153 = .ok (.getfield 49, 3) := by decide +kernel
theorem dX4_sails_156 : decode cX4_sails 156 = .ok (.iload_n 1, 1) := by decide +kernel
theorem dX4_sails_157 : decode cX4_sails 157 = .ok (.iconst 1, 1) := by decide +kernel
theorem dX4_sails_158 : decode cX4_sails 158 = .ok (.iastore, 1) := by decide +kernel
theorem dX4_sails_159 : decode cX4_sails 159 = .ok (.aload_n 0, 1) := by decide +kernel
theorem dX4_sails_160 : decode cX4_sails 160 = .ok (.getfield 46, 3) := by decide +kernel
theorem dX4_sails_163 : decode cX4_sails 163 = .ok (.iload_n 1, 1) := by decide +kernel
theorem dX4_sails_164 : decode cX4_sails 164 = .ok (.iconst 0, 1) := by decide +kernel
theorem dX4_sails_165 : decode cX4_sails 165 = .ok (.iastore, 1) := by decide +kernel
theorem dX4_sails_166 : decode cX4_sails 166 = .ok (.return_, 1) := by decide +kernel
theorem dX4_pass_0 : decode cX4_pass 0 = .ok (.aload_n 0, 1) := by decide +kernel
theorem dX4_pass_1 : decode cX4_pass 1 = .ok (.aload_n 0, 1) := by decide +kernel
theorem dX4_pass_2 : decode cX4_pass 2 = .ok (.iload_n 1, 1) := by decide +kernel
theorem dX4_pass_3 : decode cX4_pass 3 = .ok (.iconst 1, 1) := by decide +kernel
theorem dX4_pass_4 : decode cX4_pass 4 = .ok (.bipush 100, 2) := by decide +kernel
theorem dX4_pass_6 : decode cX4_pass 6 = .ok (.invokevirtual 80, 3) := by decide +kernel
theorem dX4_pass_9 : decode cX4_pass 9 = .ok (.ifCond .ne 7, 3) := by decide +kernel
theorem dX4_pass_12 : decode cX4_pass 12 = .ok (.iconst 1, 1) := by decide +kernel
theorem dX4_pass_13 : decode cX4_pass 13 = .ok (.goto 20, 3) := by decide +kernel
theorem dX4_pass_16 : decode cX4_pass 16 = .ok (.aload_n 0, 1) := by decide +kernel
theorem dX4_pass_17 : decode cX4_pass 17 = .ok (.getfield 91, 3) := by decide +kernel
theorem dX4_pass_20 : decode cX4_pass 20 = .ok (.iload_n 1, 1) := by decide +kernel
theorem dX4_pass_21 : decode cX4_pass 21 = .ok (.iadd, 1) := by decide +kernel
theorem dX4_pass_22 : decode cX4_pass 22 = .ok (.sipush 10000, 3) := by decide +kernel
theorem dX4_pass_25 : decode cX4_pass 25 = .ok (.if_icmp .le 7, 3) := by decide +kernel
theorem dX4_pass_28 : decode cX4_pass 28 = .ok (.iconst 2, 1) := by decide +kernel
theorem dX4_pass_29 : decode cX4_pass 29 = .ok (.goto 4, 3) := by decide +kernel
theorem dX4_pass_32 : decode cX4_pass 32 = .ok (.iconst 0, 1) := by decide +kernel
theorem dX4_pass_33 : decode cX4_pass 33 = .ok (.invokevirtual 87, 3) := by decide +kernel
theorem dX4_pass_36 : decode cX4_pass 36 = .ok (.ifCond .eq 5, 3) := by decide +kernel
theorem dX4_pass_39 : decode cX4_pass 39 = .ok (.iconst (-1), 1) := by decide +kernel
theorem dX4_pass_40 : decode cX4_pass 40 = .ok (.ireturn, 1) := by decide +kernel
theorem dX4_pass_41 : decode cX4_pass 41 = .ok (.iconst 0, 1) := by decide +kernel
theorem dX4_pass_42 : decode cX4_pass 42 = .ok (.istore_n 2, 1) := by decide +kernel
theorem dX4_pass_43 : decode cX4_pass 43 = .ok (.iload_n 2, 1) := by decide +kernel
theorem dX4_pass_44 : decode cX4_pass 44 = .ok (.iload_n 1, 1) := by decide +kernel
theorem dX4_pass_45 : decode cX4_pass 45 = .ok (.if_icmp .ge 62, 3) := by decide +kernel
theorem dX4_pass_48 : decode cX4_pass 48 = .ok (.aload_n 0, 1) := by decide +kernel
theorem dX4_pass_49 : decode cX4_pass 49 = .ok (.dup, 1) := by decide +kernel
theorem dX4_pass_50 : decode cX4_pass 50 = .ok (.getfield 91, 3) := by decide +kernel
theorem dX4_pass_53 : decode cX4_pass 53 = .ok (.iconst 1, 1) := by decide +kernel
theorem dX4_pass_54 : decode cX4_pass 54 = .ok (.iadd, 1) := by decide +kernel
theorem dX4_pass_55 : decode cX4_pass 55 = .ok (.putfield 91, 3) := by decide +kernel
theorem dX4_pass_58 : decode cX4_pass 58 = .ok (.iconst 0, 1) := by decide +kernel
theorem dX4_pass_59 : decode cX4_pass 59 = .ok (.istore_n 3, 1) := by decide +kernel
theorem dX4_pass_60 : decode cX4_pass 60 = .ok (.iload_n 3, 1) := by decide +kernel
theorem dX4_pass_61 : decode cX4_pass 61 = .ok (.aload_n 0, 1) := by decide +kernel
theorem dX4_pass_62 : decode cX4_pass 62 = .ok (.getfield 84, 3) := by decide +kernel
theorem dX4_pass_65 : decode cX4_pass 65 = .ok (.if_icmp .ge 36, 3) := by decide +kernel
theorem dX4_pass_68 : decode cX4_pass 68 = .ok (.aload_n 0, 1) := by decide +kernel
theorem dX4_pass_69 : decode cX4_pass 69 = .ok (.getfield 49, 3) := by decide +kernel
theorem dX4_pass_72 : decode cX4_pass 72 = .ok (.iload_n 3, 1) := by decide +kernel
theorem dX4_pass_73 : decode cX4_pass 73 = .ok (.iaload, 1) := by decide +kernel
theorem dX4_pass_74 : decode cX4_pass 74 = .ok (.ifCond .ne 21, 3) := by decide +kernel
theorem dX4_pass_77 : decode cX4_pass 77 = .ok (.aload_n 0, 1) := by decide +kernel
theorem dX4_pass_78 : decode cX4_pass 78 = .ok (.getfield 40, 3) := by decide +kernel
theorem dX4_pass_81 : decode cX4_pass 81 = .ok (.iload_n 3, 1) := by decide +kernel
theorem dX4_pass_82 : decode cX4_pass 82 = .ok (.iaload, 1) := by decide +kernel
theorem dX4_pass_83 : decode cX4_pass 83 = .ok (.aload_n 0, 1) := by decide +kernel
theorem dX4_pass_84 : decode cX4_pass 84 = .ok (.getfield 91, 3) := by decide +kernel
theorem dX4_pass_87 : decode cX4_pass 87 = .ok (.if_icmp .ne 8, 3) := by decide +kernel
theorem dX4_pass_90 : decode cX4_pass 90 = .ok (.aload_n 0, 1) := by decide +kernel
theorem dX4_pass_91 : decode cX4_pass 91 = .ok (.iload_n 3, 1) := by decide +kernel
theorem dX4_pass_92 : decode cX4_pass 92 = .ok (.invokevirtual 115, 3) := by decide +kernel
theorem dX4_pass_95 : decode cX4_pass 95 = .ok (.iinc 3 1, 3) := by decide +kernel
theorem dX4_pass_98 : decode cX4_pass 98 = .ok (.goto (-38), 3) := by decide +kernel
theorem dX4_pass_101 : decode cX4_pass 101 = .ok (.iinc 2 1, 3) := by decide +kernel
theorem dX4_pass_104 : decode cX4_pass 104 = .ok (.goto (-61), 3) := by decide +kernel
theorem dX4_pass_107 : decode cX4_pass 107 = .ok (.aload_n 0, 1) := by decide +kernel
theorem dX4_pass_108 : decode cX4_pass 108 = .ok (.getfield 91, 3) := by decide +kernel
theorem dX4_pass_111 : decode cX4_pass 111 = .ok (.ireturn, 1) := by decide +kernel
theorem dX4_ofReceipt_0 : decode cX4_ofReceipt 0 = .ok (.aload_n 0, 1) := by decide +kernel
theorem dX4_ofReceipt_1 : decode cX4_ofReceipt 1 = .ok (.aload_n 0, 1) := by decide +kernel
theorem dX4_ofReceipt_2 : decode cX4_ofReceipt 2 = .ok (.iload_n 1, 1) := by decide +kernel
theorem dX4_ofReceipt_3 : decode cX4_ofReceipt 3 = .ok (.invokevirtual 94, 3) := by decide +kernel
theorem dX4_ofReceipt_6 : decode cX4_ofReceipt 6 = .ok (.ifCond .ne 7, 3) := by decide +kernel
theorem dX4_ofReceipt_9 : decode cX4_ofReceipt 9 = .ok (.iconst 1, 1) := by decide +kernel
theorem dX4_ofReceipt_10 : decode cX4_ofReceipt 10 = .ok (.goto 18, 3) := by decide +kernel
theorem dX4_ofReceipt_13 : decode cX4_ofReceipt 13 = .ok (.aload_n 0, 1) := by decide +kernel
theorem dX4_ofReceipt_14 : decode cX4_ofReceipt 14 = .ok (.iload_n 2, 1) := by decide +kernel
theorem dX4_ofReceipt_15 : decode cX4_ofReceipt 15 = .ok (.iconst 0, 1) := by decide +kernel
theorem dX4_ofReceipt_16 : decode cX4_ofReceipt 16 = .ok (.iconst 3, 1) := by decide +kernel
theorem dX4_ofReceipt_17 : decode cX4_ofReceipt 17 = .ok (.invokevirtual 80, 3) := by decide +kernel
theorem dX4_ofReceipt_20 : decode cX4_ofReceipt 20 = .ok (.ifCond .eq 7, 3) := by decide +kernel
theorem dX4_ofReceipt_23 : decode cX4_ofReceipt 23 = .ok (.iconst 0, 1) := by decide +kernel
theorem dX4_ofReceipt_24 : decode cX4_ofReceipt 24 = .ok (.goto 4, 3) := by decide +kernel
theorem dX4_ofReceipt_27 : decode cX4_ofReceipt 27 = .ok (.iconst 2, 1) := by decide +kernel
theorem dX4_ofReceipt_28 : decode cX4_ofReceipt 28 = .ok (.invokevirtual 87, 3) := by decide +kernel
theorem dX4_ofReceipt_31 : decode cX4_ofReceipt 31 = .ok (.ifCond .eq 5, 3) := by decide +kernel
theorem dX4_ofReceipt_34 : decode cX4_ofReceipt 34 = .ok (.iconst (-1), 1) := by decide +kernel
theorem dX4_ofReceipt_35 : decode cX4_ofReceipt 35 = .ok (.ireturn, 1) := by decide +kernel
theorem dX4_ofReceipt_36 : decode cX4_ofReceipt 36 = .ok (.iload_n 2, 1) := by decide +kernel
theorem dX4_ofReceipt_37 : decode cX4_ofReceipt 37 = .ok (.ifCond .ne 12, 3) := by decide +kernel
theorem dX4_ofReceipt_40 : decode cX4_ofReceipt 40 = .ok (.aload_n 0, 1) := by decide +kernel
theorem dX4_ofReceipt_41 : decode cX4_ofReceipt 41 = .ok (.getfield 28, 3) := by decide +kernel
theorem dX4_ofReceipt_44 : decode cX4_ofReceipt 44 = .ok (.iload_n 1, 1) := by decide +kernel
theorem dX4_ofReceipt_45 : decode cX4_ofReceipt 45 = .ok (.iaload, 1) := by decide +kernel
theorem dX4_ofReceipt_46 : decode cX4_ofReceipt 46 = .ok (.goto 37, 3) := by decide +kernel
theorem dX4_ofReceipt_49 : decode cX4_ofReceipt 49 = .ok (.iload_n 2, 1) := by decide +kernel
theorem dX4_ofReceipt_50 : decode cX4_ofReceipt 50 = .ok (.iconst 1, 1) := by decide +kernel
theorem dX4_ofReceipt_51 : decode cX4_ofReceipt 51 = .ok (.if_icmp .ne 12, 3) := by decide +kernel
theorem dX4_ofReceipt_54 : decode cX4_ofReceipt 54 = .ok (.aload_n 0, 1) := by decide +kernel
theorem dX4_ofReceipt_55 : decode cX4_ofReceipt 55 = .ok (.getfield 22, 3) := by decide +kernel
theorem dX4_ofReceipt_58 : decode cX4_ofReceipt 58 = .ok (.iload_n 1, 1) := by decide +kernel
theorem dX4_ofReceipt_59 : decode cX4_ofReceipt 59 = .ok (.iaload, 1) := by decide +kernel
theorem dX4_ofReceipt_60 : decode cX4_ofReceipt 60 = .ok (.goto 23, 3) := by decide +kernel
theorem dX4_ofReceipt_63 : decode cX4_ofReceipt 63 = .ok (.iload_n 2, 1) := by decide +kernel
theorem dX4_ofReceipt_64 : decode cX4_ofReceipt 64 = .ok (.iconst 2, 1) := by decide +kernel
theorem dX4_ofReceipt_65 : decode cX4_ofReceipt 65 = .ok (.if_icmp .ne 12, 3) := by decide +kernel
theorem dX4_ofReceipt_68 : decode cX4_ofReceipt 68 = .ok (.aload_n 0, 1) := by decide +kernel
theorem dX4_ofReceipt_69 : decode cX4_ofReceipt 69 = .ok (.getfield 34, 3) := by decide +kernel
theorem dX4_ofReceipt_72 : decode cX4_ofReceipt 72 = .ok (.iload_n 1, 1) := by decide +kernel
theorem dX4_ofReceipt_73 : decode cX4_ofReceipt 73 = .ok (.iaload, 1) := by decide +kernel
theorem dX4_ofReceipt_74 : decode cX4_ofReceipt 74 = .ok (.goto 9, 3) := by decide +kernel
theorem dX4_ofReceipt_77 : decode cX4_ofReceipt 77 = .ok (.aload_n 0, 1) := by decide +kernel
theorem dX4_ofReceipt_78 : decode cX4_ofReceipt 78 = .ok (.getfield 31, 3) := by decide +kernel
theorem dX4_ofReceipt_81 : decode cX4_ofReceipt 81 = .ok (.iload_n 1, 1) := by decide +kernel
theorem dX4_ofReceipt_82 : decode cX4_ofReceipt 82 = .ok (.iaload, 1) := by decide +kernel
theorem dX4_ofReceipt_83 : decode cX4_ofReceipt 83 = .ok (.ireturn, 1) := by decide +kernel
theorem dX4_digits_0 : decode cX4_digits 0 = .ok (.iload_n 1, 1) := by decide +kernel
theorem dX4_digits_1 : decode cX4_digits 1 = .ok (.bipush 10, 2) := by decide +kernel
theorem dX4_digits_3 : decode cX4_digits 3 = .ok (.if_icmp .ge 7, 3) := by decide +kernel
theorem dX4_digits_6 : decode cX4_digits 6 = .ok (.iconst 1, 1) := by decide +kernel
theorem dX4_digits_7 : decode cX4_digits 7 = .ok (.goto 36, 3) := by decide +kernel
theorem dX4_digits_10 : decode cX4_digits 10 = .ok (.iload_n 1, 1) := by decide +kernel
theorem dX4_digits_11 : decode cX4_digits 11 = .ok (.bipush 100, 2) := by decide +kernel
theorem dX4_digits_13 : decode cX4_digits 13 = .ok (.if_icmp .ge 7, 3) := by decide +kernel
theorem dX4_digits_16 : decode cX4_digits 16 = .ok (.iconst 2, 1) := by decide +kernel
theorem dX4_digits_17 : decode cX4_digits 17 = .ok (.goto 26, 3) := by decide +kernel
theorem dX4_digits_20 : decode cX4_digits 20 = .ok (.iload_n 1, 1) := by decide +kernel
theorem dX4_digits_21 : decode cX4_digits 21 = .ok (.sipush 1000, 3) := by decide +kernel
theorem dX4_digits_24 : decode cX4_digits 24 = .ok (.if_icmp .ge 7, 3) := by decide +kernel
theorem dX4_digits_27 : decode cX4_digits 27 = .ok (.iconst 3, 1) := by decide +kernel
theorem dX4_digits_28 : decode cX4_digits 28 = .ok (.goto 15, 3) := by decide +kernel
theorem dX4_digits_31 : decode cX4_digits 31 = .ok (.iload_n 1, 1) := by decide +kernel
theorem dX4_digits_32 : decode cX4_digits 32 = .ok (.sipush 10000, 3) := by decide +kernel
theorem dX4_digits_35 : decode cX4_digits 35 = .ok (.if_icmp .ge 7, 3) := by decide +kernel
theorem dX4_digits_38 : decode cX4_digits 38 = .ok (.iconst 4, 1) := by decide +kernel
theorem dX4_digits_39 : decode cX4_digits 39 = .ok (.goto 4, 3) := by decide +kernel
theorem dX4_digits_42 : decode cX4_digits 42 = .ok (.iconst 5, 1) := by decide +kernel
theorem dX4_digits_43 : decode cX4_digits 43 = .ok (.ireturn, 1) := by decide +kernel
theorem dX4_digit_0 : decode cX4_digit 0 = .ok (.iload_n 1, 1) := by decide +kernel
theorem dX4_digit_1 : decode cX4_digit 1 = .ok (.istore_n 3, 1) := by decide +kernel
theorem dX4_digit_2 : decode cX4_digit 2 = .ok (.iconst 0, 1) := by decide +kernel
theorem dX4_digit_3 : decode cX4_digit 3 = .ok (.istore 4, 2) := by decide +kernel
theorem dX4_digit_5 : decode cX4_digit 5 = .ok (.iload 4, 2) := by decide +kernel
theorem dX4_digit_7 : decode cX4_digit 7 = .ok (.iload_n 2, 1) := by decide +kernel
theorem dX4_digit_8 : decode cX4_digit 8 = .ok (.if_icmp .ge 14, 3) := by decide +kernel
theorem dX4_digit_11 : decode cX4_digit 11 = .ok (.iload_n 3, 1) := by decide +kernel
theorem dX4_digit_12 : decode cX4_digit 12 = .ok (.bipush 10, 2) := by decide +kernel
theorem dX4_digit_14 : decode cX4_digit 14 = .ok (.idiv, 1) := by decide +kernel
theorem dX4_digit_15 : decode cX4_digit 15 = .ok (.istore_n 3, 1) := by decide +kernel
theorem dX4_digit_16 : decode cX4_digit 16 = .ok (.iinc 4 1, 3) := by decide +kernel
theorem dX4_digit_19 : decode cX4_digit 19 = .ok (.goto (-14), 3) := by decide +kernel
theorem dX4_digit_22 : decode cX4_digit 22 = .ok (.bipush 48, 2) := by decide +kernel
theorem dX4_digit_24 : decode cX4_digit 24 = .ok (.iload_n 3, 1) := by decide +kernel
theorem dX4_digit_25 : decode cX4_digit 25 = .ok (.bipush 10, 2) := by decide +kernel
theorem dX4_digit_27 : decode cX4_digit 27 = .ok (.irem, 1) := by decide +kernel
theorem dX4_digit_28 : decode cX4_digit 28 = .ok (.iadd, 1) := by decide +kernel
theorem dX4_digit_29 : decode cX4_digit 29 = .ok (.i2c, 1) := by decide +kernel
theorem dX4_digit_30 : decode cX4_digit 30 = .ok (.ireturn, 1) := by decide +kernel
theorem dX4_code_0 : decode cX4_code 0 = .ok (.aload_n 0, 1) := by decide +kernel
theorem dX4_code_1 : decode cX4_code 1 = .ok (.aload_n 0, 1) := by decide +kernel
theorem dX4_code_2 : decode cX4_code 2 = .ok (.iload_n 1, 1) := by decide +kernel
theorem dX4_code_3 : decode cX4_code 3 = .ok (.invokevirtual 94, 3) := by decide +kernel
theorem dX4_code_6 : decode cX4_code 6 = .ok (.ifCond .eq 11, 3) := by decide +kernel
theorem dX4_code_9 : decode cX4_code 9 = .ok (.iload_n 2, 1) := by decide +kernel
theorem dX4_code_10 : decode cX4_code 10 = .ok (.ifCond .lt 7, 3) := by decide +kernel
theorem dX4_code_13 : decode cX4_code 13 = .ok (.iconst 0, 1) := by decide +kernel
theorem dX4_code_14 : decode cX4_code 14 = .ok (.goto 4, 3) := by decide +kernel
theorem dX4_code_17 : decode cX4_code 17 = .ok (.iconst 1, 1) := by decide +kernel
theorem dX4_code_18 : decode cX4_code 18 = .ok (.invokevirtual 87, 3) := by decide +kernel
theorem dX4_code_21 : decode cX4_code 21 = .ok (.ifCond .eq 5, 3) := by decide +kernel
theorem dX4_code_24 : decode cX4_code 24 = .ok (.iconst 0, 1) := by decide +kernel
theorem dX4_code_25 : decode cX4_code 25 = .ok (.ireturn, 1) := by decide +kernel
theorem dX4_code_26 : decode cX4_code 26 = .ok (.aload_n 0, 1) := by decide +kernel
theorem dX4_code_27 : decode cX4_code 27 = .ok (.iload_n 1, 1) := by decide +kernel
theorem dX4_code_28 : decode cX4_code 28 = .ok (.invokevirtual 118, 3) := by decide +kernel
theorem dX4_code_31 : decode cX4_code 31 = .ok (.istore_n 3, 1) := by decide +kernel
theorem dX4_code_32 : decode cX4_code 32 = .ok (.iload_n 2, 1) := by decide +kernel
theorem dX4_code_33 : decode cX4_code 33 = .ok (.ifCond .eq 10, 3) := by decide +kernel
theorem dX4_code_36 : decode cX4_code 36 = .ok (.iload_n 2, 1) := by decide +kernel
theorem dX4_code_37 : decode cX4_code 37 = .ok (.iload_n 3, 1) := by decide +kernel
theorem dX4_code_38 : decode cX4_code 38 = .ok (.iconst 1, 1) := by decide +kernel
theorem dX4_code_39 : decode cX4_code 39 = .ok (.iadd, 1) := by decide +kernel
theorem dX4_code_40 : decode cX4_code 40 = .ok (.if_icmp .ne 15, 3) := by decide +kernel
theorem dX4_code_43 : decode cX4_code 43 = .ok (.iload_n 2, 1) := by decide +kernel
theorem dX4_code_44 : decode cX4_code 44 = .ok (.ifCond .ne 8, 3) := by decide +kernel
theorem dX4_code_47 : decode cX4_code 47 = .ok (.bipush 82, 2) := by decide +kernel
theorem dX4_code_49 : decode cX4_code 49 = .ok (.goto 5, 3) := by decide +kernel
theorem dX4_code_52 : decode cX4_code 52 = .ok (.bipush 45, 2) := by decide +kernel
theorem dX4_code_54 : decode cX4_code 54 = .ok (.ireturn, 1) := by decide +kernel
theorem dX4_code_55 : decode cX4_code 55 = .ok (.iload_n 2, 1) := by decide +kernel
theorem dX4_code_56 : decode cX4_code 56 = .ok (.iload_n 3, 1) := by decide +kernel
theorem dX4_code_57 : decode cX4_code 57 = .ok (.if_icmp .gt 12, 3) := by decide +kernel
theorem dX4_code_60 : decode cX4_code 60 = .ok (.aload_n 0, 1) := by decide +kernel
theorem dX4_code_61 : decode cX4_code 61 = .ok (.iload_n 1, 1) := by decide +kernel
theorem dX4_code_62 : decode cX4_code 62 = .ok (.iload_n 3, 1) := by decide +kernel
theorem dX4_code_63 : decode cX4_code 63 = .ok (.iload_n 2, 1) := by decide +kernel
theorem dX4_code_64 : decode cX4_code 64 = .ok (.isub, 1) := by decide +kernel
theorem dX4_code_65 : decode cX4_code 65 = .ok (.invokevirtual 121, 3) := by decide +kernel
theorem dX4_code_68 : decode cX4_code 68 = .ok (.ireturn, 1) := by decide +kernel
theorem dX4_code_69 : decode cX4_code 69 = .ok (.iload_n 2, 1) := by decide +kernel
theorem dX4_code_70 : decode cX4_code 70 = .ok (.iload_n 3, 1) := by decide +kernel
theorem dX4_code_71 : decode cX4_code 71 = .ok (.isub, 1) := by decide +kernel
theorem dX4_code_72 : decode cX4_code 72 = .ok (.iconst 2, 1) := by decide +kernel
theorem dX4_code_73 : decode cX4_code 73 = .ok (.isub, 1) := by decide +kernel
theorem dX4_code_74 : decode cX4_code 74 = .ok (.istore 4, 2) := by decide +kernel
theorem dX4_code_76 : decode cX4_code 76 = .ok (.iload 4, 2) := by decide +kernel
theorem dX4_code_78 : decode cX4_code 78 = .ok (.aload_n 0, 1) := by decide +kernel
theorem dX4_code_79 : decode cX4_code 79 = .ok (.aload_n 0, 1) := by decide +kernel
theorem dX4_code_80 : decode cX4_code 80 = .ok (.getfield 22, 3) := by decide +kernel
theorem dX4_code_83 : decode cX4_code 83 = .ok (.iload_n 1, 1) := by decide +kernel
theorem dX4_code_84 : decode cX4_code 84 = .ok (.iaload, 1) := by decide +kernel
theorem dX4_code_85 : decode cX4_code 85 = .ok (.invokevirtual 118, 3) := by decide +kernel
theorem dX4_code_88 : decode cX4_code 88 = .ok (.if_icmp .ge 18, 3) := by decide +kernel
theorem dX4_code_91 : decode cX4_code 91 = .ok (.aload_n 0, 1) := by decide +kernel
theorem dX4_code_92 : decode cX4_code 92 = .ok (.aload_n 0, 1) := by decide +kernel
theorem dX4_code_93 : decode cX4_code 93 = .ok (.getfield 22, 3) := by decide +kernel
theorem dX4_code_96 : decode cX4_code 96 = .ok (.iload_n 1, 1) := by decide +kernel
theorem dX4_code_97 : decode cX4_code 97 = .ok (.iaload, 1) := by decide +kernel
theorem dX4_code_98 : decode cX4_code 98 = .ok (.iload 4, 2) := by decide +kernel
theorem dX4_code_100 : decode cX4_code 100 = .ok (.invokevirtual 121, 3) := by decide +kernel
theorem dX4_code_103 : decode cX4_code 103 = .ok (.goto 4, 3) := by decide +kernel
theorem dX4_code_106 : decode cX4_code 106 = .ok (.iconst 0, 1) := by decide +kernel
theorem dX4_code_107 : decode cX4_code 107 = .ok (.ireturn, 1) := by decide +kernel
theorem dX4_ofTraveller_0 : decode cX4_ofTraveller 0 = .ok (.aload_n 0, 1) := by decide +kernel
theorem dX4_ofTraveller_1 : decode cX4_ofTraveller 1 = .ok (.aload_n 0, 1) := by decide +kernel
theorem dX4_ofTraveller_2 : decode cX4_ofTraveller 2 = .ok (.iload_n 1, 1) := by decide +kernel
theorem dX4_ofTraveller_3 : decode cX4_ofTraveller 3 = .ok (.iconst 0, 1) := by decide +kernel
theorem dX4_ofTraveller_4 : decode cX4_ofTraveller 4 = .ok (.bipush 9, 2) := by decide +kernel
theorem dX4_ofTraveller_6 : decode cX4_ofTraveller 6 = .ok (.invokevirtual 80, 3) := by decide +kernel
theorem dX4_ofTraveller_9 : decode cX4_ofTraveller 9 = .ok (.ifCond .ne 7, 3) := by decide +kernel
theorem dX4_ofTraveller_12 : decode cX4_ofTraveller 12 = .ok (.iconst 1, 1) := by decide +kernel
theorem dX4_ofTraveller_13 : decode cX4_ofTraveller 13 = .ok (.goto 18, 3) := by decide +kernel
theorem dX4_ofTraveller_16 : decode cX4_ofTraveller 16 = .ok (.aload_n 0, 1) := by decide +kernel
theorem dX4_ofTraveller_17 : decode cX4_ofTraveller 17 = .ok (.iload_n 2, 1) := by decide +kernel
theorem dX4_ofTraveller_18 : decode cX4_ofTraveller 18 = .ok (.iconst 0, 1) := by decide +kernel
theorem dX4_ofTraveller_19 : decode cX4_ofTraveller 19 = .ok (.iconst 3, 1) := by decide +kernel
theorem dX4_ofTraveller_20 : decode cX4_ofTraveller 20 = .ok (.invokevirtual 80, 3) := by decide +kernel
theorem dX4_ofTraveller_23 : decode cX4_ofTraveller 23 = .ok (.ifCond .eq 7, 3) := by decide +kernel
theorem dX4_ofTraveller_26 : decode cX4_ofTraveller 26 = .ok (.iconst 0, 1) := by decide +kernel
theorem dX4_ofTraveller_27 : decode cX4_ofTraveller 27 = .ok (.goto 4, 3) := by decide +kernel
theorem dX4_ofTraveller_30 : decode cX4_ofTraveller 30 = .ok (.iconst 2, 1) := by decide +kernel
theorem dX4_ofTraveller_31 : decode cX4_ofTraveller 31 = .ok (.invokevirtual 87, 3) := by decide +kernel
theorem dX4_ofTraveller_34 : decode cX4_ofTraveller 34 = .ok (.ifCond .eq 5, 3) := by decide +kernel
theorem dX4_ofTraveller_37 : decode cX4_ofTraveller 37 = .ok (.iconst (-1), 1) := by decide +kernel
theorem dX4_ofTraveller_38 : decode cX4_ofTraveller 38 = .ok (.ireturn, 1) := by decide +kernel
theorem dX4_ofTraveller_39 : decode cX4_ofTraveller 39 = .ok (.iload_n 2, 1) := by decide +kernel
theorem dX4_ofTraveller_40 : decode cX4_ofTraveller 40 = .ok (.ifCond .ne 12, 3) := by decide +kernel
theorem dX4_ofTraveller_43 : decode cX4_ofTraveller 43 = .ok (.aload_n 0, 1) := by decide +kernel
theorem dX4_ofTraveller_44 : decode cX4_ofTraveller 44 = .ok (.getfield 67, 3) := by decide +kernel
theorem dX4_ofTraveller_47 : decode cX4_ofTraveller 47 = .ok (.iload_n 1, 1) := by decide +kernel
theorem dX4_ofTraveller_48 : decode cX4_ofTraveller 48 = .ok (.iaload, 1) := by decide +kernel
theorem dX4_ofTraveller_49 : decode cX4_ofTraveller 49 = .ok (.goto 37, 3) := by decide +kernel
theorem dX4_ofTraveller_52 : decode cX4_ofTraveller 52 = .ok (.iload_n 2, 1) := by decide +kernel
theorem dX4_ofTraveller_53 : decode cX4_ofTraveller 53 = .ok (.iconst 1, 1) := by decide +kernel
theorem dX4_ofTraveller_54 : decode cX4_ofTraveller 54 = .ok (.if_icmp .ne 12, 3) := by decide +kernel
theorem dX4_ofTraveller_57 : decode cX4_ofTraveller 57 = .ok (.aload_n 0, 1) := by decide +kernel
theorem dX4_ofTraveller_58 : decode cX4_ofTraveller 58 = .ok (.getfield 64, 3) := by decide +kernel
theorem dX4_ofTraveller_61 : decode cX4_ofTraveller 61 = .ok (.iload_n 1, 1) := by decide +kernel
theorem dX4_ofTraveller_62 : decode cX4_ofTraveller 62 = .ok (.iaload, 1) := by decide +kernel
theorem dX4_ofTraveller_63 : decode cX4_ofTraveller 63 = .ok (.goto 23, 3) := by decide +kernel
theorem dX4_ofTraveller_66 : decode cX4_ofTraveller 66 = .ok (.iload_n 2, 1) := by decide +kernel
theorem dX4_ofTraveller_67 : decode cX4_ofTraveller 67 = .ok (.iconst 2, 1) := by decide +kernel
theorem dX4_ofTraveller_68 : decode cX4_ofTraveller 68 = .ok (.if_icmp .ne 12, 3) := by decide +kernel
theorem dX4_ofTraveller_71 : decode cX4_ofTraveller 71 = .ok (.aload_n 0, 1) := by decide +kernel
theorem dX4_ofTraveller_72 : decode cX4_ofTraveller 72 = .ok (.getfield 61, 3) := by decide +kernel
theorem dX4_ofTraveller_75 : decode cX4_ofTraveller 75 = .ok (.iload_n 1, 1) := by decide +kernel
theorem dX4_ofTraveller_76 : decode cX4_ofTraveller 76 = .ok (.iaload, 1) := by decide +kernel
theorem dX4_ofTraveller_77 : decode cX4_ofTraveller 77 = .ok (.goto 9, 3) := by decide +kernel
theorem dX4_ofTraveller_80 : decode cX4_ofTraveller 80 = .ok (.aload_n 0, 1) := by decide +kernel
theorem dX4_ofTraveller_81 : decode cX4_ofTraveller 81 = .ok (.getfield 55, 3) := by decide +kernel
theorem dX4_ofTraveller_84 : decode cX4_ofTraveller 84 = .ok (.iload_n 1, 1) := by decide +kernel
theorem dX4_ofTraveller_85 : decode cX4_ofTraveller 85 = .ok (.iaload, 1) := by decide +kernel
theorem dX4_ofTraveller_86 : decode cX4_ofTraveller 86 = .ok (.ireturn, 1) := by decide +kernel
theorem dX4_refundsAnew_0 : decode cX4_refundsAnew 0 = .ok (.aload_n 0, 1) := by decide +kernel
theorem dX4_refundsAnew_1 : decode cX4_refundsAnew 1 = .ok (.aload_n 0, 1) := by decide +kernel
theorem dX4_refundsAnew_2 : decode cX4_refundsAnew 2 = .ok (.iload_n 1, 1) := by decide +kernel
theorem dX4_refundsAnew_3 : decode cX4_refundsAnew 3 = .ok (.iconst 0, 1) := by decide +kernel
theorem dX4_refundsAnew_4 : decode cX4_refundsAnew 4 = .ok (.bipush 9, 2) := by decide +kernel
theorem dX4_refundsAnew_6 : decode cX4_refundsAnew 6 = .ok (.invokevirtual 80, 3) := by decide +kernel
theorem dX4_refundsAnew_9 : decode cX4_refundsAnew 9 = .ok (.ifCond .eq 7, 3) := by decide +kernel
theorem dX4_refundsAnew_12 : decode cX4_refundsAnew 12 = .ok (.iconst 0, 1) := by decide +kernel
theorem dX4_refundsAnew_13 : decode cX4_refundsAnew 13 = .ok (.goto 4, 3) := by decide +kernel
theorem dX4_refundsAnew_16 : decode cX4_refundsAnew 16 = .ok (.iconst 1, 1) := by decide +kernel
theorem dX4_refundsAnew_17 : decode cX4_refundsAnew 17 = .ok (.invokevirtual 87, 3) := by decide +kernel
theorem dX4_refundsAnew_20 : decode cX4_refundsAnew 20 = .ok (.ifCond .eq 7, 3) := by decide +kernel
theorem dX4_refundsAnew_23 : decode cX4_refundsAnew 23 = .ok (.iconst (-1), 1) := by decide +kernel
theorem dX4_refundsAnew_24 : decode cX4_refundsAnew 24 = .ok (.goto 9, 3) := by decide +kernel
theorem dX4_refundsAnew_27 : decode cX4_refundsAnew 27 = .ok (.aload_n 0, 1) := by decide +kernel
theorem dX4_refundsAnew_28 : decode cX4_refundsAnew 28 = .ok (.getfield 67, 3) := by decide +kernel
theorem dX4_refundsAnew_31 : decode cX4_refundsAnew 31 = .ok (.iload_n 1, 1) := by decide +kernel
theorem dX4_refundsAnew_32 : decode cX4_refundsAnew 32 = .ok (.iaload, 1) := by decide +kernel
theorem dX4_refundsAnew_33 : decode cX4_refundsAnew 33 = .ok (.ireturn, 1) := by decide +kernel
theorem dX4_debt_0 : decode cX4_debt 0 = .ok (.aload_n 0, 1) := by decide +kernel
theorem dX4_debt_1 : decode cX4_debt 1 = .ok (.aload_n 0, 1) := by decide +kernel
theorem dX4_debt_2 : decode cX4_debt 2 = .ok (.iload_n 1, 1) := by decide +kernel
theorem dX4_debt_3 : decode cX4_debt 3 = .ok (.iconst 0, 1) := by decide +kernel
theorem dX4_debt_4 : decode cX4_debt 4 = .ok (.iconst 4, 1) := by decide +kernel
theorem dX4_debt_5 : decode cX4_debt 5 = .ok (.invokevirtual 80, 3) := by decide +kernel
theorem dX4_debt_8 : decode cX4_debt 8 = .ok (.ifCond .eq 7, 3) := by decide +kernel
theorem dX4_debt_11 : decode cX4_debt 11 = .ok (.iconst 0, 1) := by decide +kernel
theorem dX4_debt_12 : decode cX4_debt 12 = .ok (.goto 4, 3) := by decide +kernel
theorem dX4_debt_15 : decode cX4_debt 15 = .ok (.iconst 1, 1) := by decide +kernel
theorem dX4_debt_16 : decode cX4_debt 16 = .ok (.invokevirtual 87, 3) := by decide +kernel
theorem dX4_debt_19 : decode cX4_debt 19 = .ok (.ifCond .eq 5, 3) := by decide +kernel
theorem dX4_debt_22 : decode cX4_debt 22 = .ok (.iconst (-1), 1) := by decide +kernel
theorem dX4_debt_23 : decode cX4_debt 23 = .ok (.ireturn, 1) := by decide +kernel
theorem dX4_debt_24 : decode cX4_debt 24 = .ok (.iconst 0, 1) := by decide +kernel
theorem dX4_debt_25 : decode cX4_debt 25 = .ok (.istore_n 2, 1) := by decide +kernel
theorem dX4_debt_26 : decode cX4_debt 26 = .ok (.iconst 0, 1) := by decide +kernel
theorem dX4_debt_27 : decode cX4_debt 27 = .ok (.istore_n 3, 1) := by decide +kernel
theorem dX4_debt_28 : decode cX4_debt 28 = .ok (.iload_n 3, 1) := by decide +kernel
theorem dX4_debt_29 : decode cX4_debt 29 = .ok (.aload_n 0, 1) := by decide +kernel
theorem dX4_debt_30 : decode cX4_debt 30 = .ok (.getfield 77, 3) := by decide +kernel
theorem dX4_debt_33 : decode cX4_debt 33 = .ok (.if_icmp .ge 42, 3) := by decide +kernel
theorem dX4_debt_36 : decode cX4_debt 36 = .ok (.iload_n 2, 1) := by decide +kernel
theorem dX4_debt_37 : decode cX4_debt 37 = .ok (.aload_n 0, 1) := by decide +kernel
theorem dX4_debt_38 : decode cX4_debt 38 = .ok (.getfield 13, 3) := by decide +kernel
theorem dX4_debt_41 : decode cX4_debt 41 = .ok (.iload_n 3, 1) := by decide +kernel
theorem dX4_debt_42 : decode cX4_debt 42 = .ok (.iaload, 1) := by decide +kernel
theorem dX4_debt_43 : decode cX4_debt 43 = .ok (.iload_n 1, 1) := by decide +kernel
theorem dX4_debt_44 : decode cX4_debt 44 = .ok (.if_icmp .ne 22, 3) := by decide +kernel
theorem dX4_debt_47 : decode cX4_debt 47 = .ok (.aload_n 0, 1) := by decide +kernel
theorem dX4_debt_48 : decode cX4_debt 48 = .ok (.getfield 28, 3) := by decide +kernel
theorem dX4_debt_51 : decode cX4_debt 51 = .ok (.iload_n 3, 1) := by decide +kernel
theorem dX4_debt_52 : decode cX4_debt 52 = .ok (.iaload, 1) := by decide +kernel
theorem dX4_debt_53 : decode cX4_debt 53 = .ok (.iconst 4, 1) := by decide +kernel
theorem dX4_debt_54 : decode cX4_debt 54 = .ok (.if_icmp .eq 12, 3) := by decide +kernel
theorem dX4_debt_57 : decode cX4_debt 57 = .ok (.aload_n 0, 1) := by decide +kernel
theorem dX4_debt_58 : decode cX4_debt 58 = .ok (.getfield 22, 3) := by decide +kernel
theorem dX4_debt_61 : decode cX4_debt 61 = .ok (.iload_n 3, 1) := by decide +kernel
theorem dX4_debt_62 : decode cX4_debt 62 = .ok (.iaload, 1) := by decide +kernel
theorem dX4_debt_63 : decode cX4_debt 63 = .ok (.goto 4, 3) := by decide +kernel
theorem dX4_debt_66 : decode cX4_debt 66 = .ok (.iconst 0, 1) := by decide +kernel
theorem dX4_debt_67 : decode cX4_debt 67 = .ok (.iadd, 1) := by decide +kernel
theorem dX4_debt_68 : decode cX4_debt 68 = .ok (.istore_n 2, 1) := by decide +kernel
theorem dX4_debt_69 : decode cX4_debt 69 = .ok (.iinc 3 1, 3) := by decide +kernel
theorem dX4_debt_72 : decode cX4_debt 72 = .ok (.goto (-44), 3) := by decide +kernel
theorem dX4_debt_75 : decode cX4_debt 75 = .ok (.iload_n 2, 1) := by decide +kernel
theorem dX4_debt_76 : decode cX4_debt 76 = .ok (.ireturn, 1) := by decide +kernel
end
section
theorem dL_rate_0 : decode cL_rate 0 = .ok (.aload_n 3, 1) := by decide +kernel
theorem dL_rate_1 : decode cL_rate 1 = .ok (.iconst 0, 1) := by decide +kernel
theorem dL_rate_2 : decode cL_rate 2 = .ok (.aload_n 0, 1) := by decide +kernel
theorem dL_rate_3 : decode cL_rate 3 = .ok (.iload_n 1, 1) := by decide +kernel
theorem dL_rate_4 : decode cL_rate 4 = .ok (.iload_n 2, 1) := by decide +kernel
theorem dL_rate_5 : decode cL_rate 5 = .ok (.invokevirtual 7, 3) := by decide +kernel
theorem dL_rate_8 : decode cL_rate 8 = .ok (.i2l, 1) := by decide +kernel
theorem dL_rate_9 : decode cL_rate 9 = .ok (.lastore, 1) := by decide +kernel
theorem dL_rate_10 : decode cL_rate 10 = .ok (.goto 11, 3) := by decide +kernel
theorem dL_rate_13 : decode cL_rate 13 = .ok (.astore 4, 2) := by decide +kernel
theorem dL_rate_15 : decode cL_rate 15 = .ok (.iconst 1, 1) := by decide +kernel
theorem dL_rate_16 : decode cL_rate 16 = .ok (.ireturn, 1) := by decide +kernel
theorem dL_rate_17 : decode cL_rate 17 = .ok (.astore 4, 2) := by decide +kernel
theorem dL_rate_19 : decode cL_rate 19 = .ok (.iconst 2, 1) := by decide +kernel
theorem dL_rate_20 : decode cL_rate 20 = .ok (.ireturn, 1) := by decide +kernel
theorem dL_rate_21 : decode cL_rate 21 = .ok (.iconst 0, 1) := by decide +kernel
theorem dL_rate_22 : decode cL_rate 22 = .ok (.ireturn, 1) := by decide +kernel
theorem dL_buy_0 : decode cL_buy 0 = .ok (.aload 5, 2) := by decide +kernel
theorem dL_buy_2 : decode cL_buy 2 = .ok (.iconst 0, 1) := by decide +kernel
theorem dL_buy_3 : decode cL_buy 3 = .ok (.aload_n 0, 1) := by decide +kernel
theorem dL_buy_4 : decode cL_buy 4 = .ok (.iload_n 1, 1) := by decide +kernel
theorem dL_buy_5 : decode cL_buy 5 = .ok (.iload_n 2, 1) := by decide +kernel
theorem dL_buy_6 : decode cL_buy 6 = .ok (.iload_n 3, 1) := by decide +kernel
theorem dL_buy_7 : decode cL_buy 7 = .ok (.iload 4, 2) := by decide +kernel
theorem dL_buy_9 : decode cL_buy 9 = .ok (.invokevirtual 17, 3) := by decide +kernel
theorem dL_buy_12 : decode cL_buy 12 = .ok (.i2l, 1) := by decide +kernel
theorem dL_buy_13 : decode cL_buy 13 = .ok (.lastore, 1) := by decide +kernel
theorem dL_buy_14 : decode cL_buy 14 = .ok (.goto 15, 3) := by decide +kernel
theorem dL_buy_17 : decode cL_buy 17 = .ok (.astore 6, 2) := by decide +kernel
theorem dL_buy_19 : decode cL_buy 19 = .ok (.iconst 1, 1) := by decide +kernel
theorem dL_buy_20 : decode cL_buy 20 = .ok (.ireturn, 1) := by decide +kernel
theorem dL_buy_21 : decode cL_buy 21 = .ok (.astore 6, 2) := by decide +kernel
theorem dL_buy_23 : decode cL_buy 23 = .ok (.iconst 2, 1) := by decide +kernel
theorem dL_buy_24 : decode cL_buy 24 = .ok (.ireturn, 1) := by decide +kernel
theorem dL_buy_25 : decode cL_buy 25 = .ok (.astore 6, 2) := by decide +kernel
theorem dL_buy_27 : decode cL_buy 27 = .ok (.iconst 3, 1) := by decide +kernel
theorem dL_buy_28 : decode cL_buy 28 = .ok (.ireturn, 1) := by decide +kernel
theorem dL_buy_29 : decode cL_buy 29 = .ok (.iconst 0, 1) := by decide +kernel
theorem dL_buy_30 : decode cL_buy 30 = .ok (.ireturn, 1) := by decide +kernel
theorem dL_giveBack_0 : decode cL_giveBack 0 = .ok (.aload_n 2, 1) := by decide +kernel
theorem dL_giveBack_1 : decode cL_giveBack 1 = .ok (.iconst 0, 1) := by decide +kernel
theorem dL_giveBack_2 : decode cL_giveBack 2 = .ok (.aload_n 0, 1) := by decide +kernel
theorem dL_giveBack_3 : decode cL_giveBack 3 = .ok (.iload_n 1, 1) := by decide +kernel
theorem dL_giveBack_4 : decode cL_giveBack 4 = .ok (.invokevirtual 23, 3) := by decide +kernel
theorem dL_giveBack_7 : decode cL_giveBack 7 = .ok (.i2l, 1) := by decide +kernel
theorem dL_giveBack_8 : decode cL_giveBack 8 = .ok (.lastore, 1) := by decide +kernel
theorem dL_giveBack_9 : decode cL_giveBack 9 = .ok (.goto 9, 3) := by decide +kernel
theorem dL_giveBack_12 : decode cL_giveBack 12 = .ok (.astore_n 3, 1) := by decide +kernel
theorem dL_giveBack_13 : decode cL_giveBack 13 = .ok (.iconst 1, 1) := by decide +kernel
theorem dL_giveBack_14 : decode cL_giveBack 14 = .ok (.ireturn, 1) := by decide +kernel
theorem dL_giveBack_15 : decode cL_giveBack 15 = .ok (.astore_n 3, 1) := by decide +kernel
theorem dL_giveBack_16 : decode cL_giveBack 16 = .ok (.iconst 2, 1) := by decide +kernel
theorem dL_giveBack_17 : decode cL_giveBack 17 = .ok (.ireturn, 1) := by decide +kernel
theorem dL_giveBack_18 : decode cL_giveBack 18 = .ok (.iconst 0, 1) := by decide +kernel
theorem dL_giveBack_19 : decode cL_giveBack 19 = .ok (.ireturn, 1) := by decide +kernel
theorem dL_ferry_0 : decode cL_ferry 0 = .ok (.aload_n 3, 1) := by decide +kernel
theorem dL_ferry_1 : decode cL_ferry 1 = .ok (.iconst 0, 1) := by decide +kernel
theorem dL_ferry_2 : decode cL_ferry 2 = .ok (.aload_n 0, 1) := by decide +kernel
theorem dL_ferry_3 : decode cL_ferry 3 = .ok (.iload_n 1, 1) := by decide +kernel
theorem dL_ferry_4 : decode cL_ferry 4 = .ok (.iload_n 2, 1) := by decide +kernel
theorem dL_ferry_5 : decode cL_ferry 5 = .ok (.invokevirtual 27, 3) := by decide +kernel
theorem dL_ferry_8 : decode cL_ferry 8 = .ok (.i2l, 1) := by decide +kernel
theorem dL_ferry_9 : decode cL_ferry 9 = .ok (.lastore, 1) := by decide +kernel
theorem dL_ferry_10 : decode cL_ferry 10 = .ok (.goto 11, 3) := by decide +kernel
theorem dL_ferry_13 : decode cL_ferry 13 = .ok (.astore 4, 2) := by decide +kernel
theorem dL_ferry_15 : decode cL_ferry 15 = .ok (.iconst 1, 1) := by decide +kernel
theorem dL_ferry_16 : decode cL_ferry 16 = .ok (.ireturn, 1) := by decide +kernel
theorem dL_ferry_17 : decode cL_ferry 17 = .ok (.astore 4, 2) := by decide +kernel
theorem dL_ferry_19 : decode cL_ferry 19 = .ok (.iconst 2, 1) := by decide +kernel
theorem dL_ferry_20 : decode cL_ferry 20 = .ok (.ireturn, 1) := by decide +kernel
theorem dL_ferry_21 : decode cL_ferry 21 = .ok (.iconst 0, 1) := by decide +kernel
theorem dL_ferry_22 : decode cL_ferry 22 = .ok (.ireturn, 1) := by decide +kernel
theorem dL_seat_0 : decode cL_seat 0 = .ok (.aload_n 3, 1) := by decide +kernel
theorem dL_seat_1 : decode cL_seat 1 = .ok (.iconst 0, 1) := by decide +kernel
theorem dL_seat_2 : decode cL_seat 2 = .ok (.aload_n 0, 1) := by decide +kernel
theorem dL_seat_3 : decode cL_seat 3 = .ok (.iload_n 1, 1) := by decide +kernel
theorem dL_seat_4 : decode cL_seat 4 = .ok (.iload_n 2, 1) := by decide +kernel
theorem dL_seat_5 : decode cL_seat 5 = .ok (.invokevirtual 30, 3) := by decide +kernel
theorem dL_seat_8 : decode cL_seat 8 = .ok (.i2l, 1) := by decide +kernel
theorem dL_seat_9 : decode cL_seat 9 = .ok (.lastore, 1) := by decide +kernel
theorem dL_seat_10 : decode cL_seat 10 = .ok (.goto 11, 3) := by decide +kernel
theorem dL_seat_13 : decode cL_seat 13 = .ok (.astore 4, 2) := by decide +kernel
theorem dL_seat_15 : decode cL_seat 15 = .ok (.iconst 1, 1) := by decide +kernel
theorem dL_seat_16 : decode cL_seat 16 = .ok (.ireturn, 1) := by decide +kernel
theorem dL_seat_17 : decode cL_seat 17 = .ok (.astore 4, 2) := by decide +kernel
theorem dL_seat_19 : decode cL_seat 19 = .ok (.iconst 2, 1) := by decide +kernel
theorem dL_seat_20 : decode cL_seat 20 = .ok (.ireturn, 1) := by decide +kernel
theorem dL_seat_21 : decode cL_seat 21 = .ok (.iconst 0, 1) := by decide +kernel
theorem dL_seat_22 : decode cL_seat 22 = .ok (.ireturn, 1) := by decide +kernel
theorem dL_leaveSeat_0 : decode cL_leaveSeat 0 = .ok (.aload_n 3, 1) := by decide +kernel
theorem dL_leaveSeat_1 : decode cL_leaveSeat 1 = .ok (.iconst 0, 1) := by decide +kernel
theorem dL_leaveSeat_2 : decode cL_leaveSeat 2 = .ok (.aload_n 0, 1) := by decide +kernel
theorem dL_leaveSeat_3 : decode cL_leaveSeat 3 = .ok (.iload_n 1, 1) := by decide +kernel
theorem dL_leaveSeat_4 : decode cL_leaveSeat 4 = .ok (.iload_n 2, 1) := by decide +kernel
theorem dL_leaveSeat_5 : decode cL_leaveSeat 5 = .ok (.invokevirtual 33, 3) := by decide +kernel
theorem dL_leaveSeat_8 : decode cL_leaveSeat 8 = .ok (.i2l, 1) := by decide +kernel
theorem dL_leaveSeat_9 : decode cL_leaveSeat 9 = .ok (.lastore, 1) := by decide +kernel
theorem dL_leaveSeat_10 : decode cL_leaveSeat 10 = .ok (.goto 11, 3) := by decide +kernel
theorem dL_leaveSeat_13 : decode cL_leaveSeat 13 = .ok (.astore 4, 2) := by decide +kernel
theorem dL_leaveSeat_15 : decode cL_leaveSeat 15 = .ok (.iconst 1, 1) := by decide +kernel
theorem dL_leaveSeat_16 : decode cL_leaveSeat 16 = .ok (.ireturn, 1) := by decide +kernel
theorem dL_leaveSeat_17 : decode cL_leaveSeat 17 = .ok (.astore 4, 2) := by decide +kernel
theorem dL_leaveSeat_19 : decode cL_leaveSeat 19 = .ok (.iconst 2, 1) := by decide +kernel
theorem dL_leaveSeat_20 : decode cL_leaveSeat 20 = .ok (.ireturn, 1) := by decide +kernel
theorem dL_leaveSeat_21 : decode cL_leaveSeat 21 = .ok (.iconst 0, 1) := by decide +kernel
theorem dL_leaveSeat_22 : decode cL_leaveSeat 22 = .ok (.ireturn, 1) := by decide +kernel
theorem dL_aboard_0 : decode cL_aboard 0 = .ok (.aload_n 3, 1) := by decide +kernel
theorem dL_aboard_1 : decode cL_aboard 1 = .ok (.iconst 0, 1) := by decide +kernel
theorem dL_aboard_2 : decode cL_aboard 2 = .ok (.aload_n 0, 1) := by decide +kernel
theorem dL_aboard_3 : decode cL_aboard 3 = .ok (.iload_n 1, 1) := by decide +kernel
theorem dL_aboard_4 : decode cL_aboard 4 = .ok (.iload_n 2, 1) := by decide +kernel
theorem dL_aboard_5 : decode cL_aboard 5 = .ok (.invokevirtual 36, 3) := by decide +kernel
theorem dL_aboard_8 : decode cL_aboard 8 = .ok (.i2l, 1) := by decide +kernel
theorem dL_aboard_9 : decode cL_aboard 9 = .ok (.lastore, 1) := by decide +kernel
theorem dL_aboard_10 : decode cL_aboard 10 = .ok (.goto 11, 3) := by decide +kernel
theorem dL_aboard_13 : decode cL_aboard 13 = .ok (.astore 4, 2) := by decide +kernel
theorem dL_aboard_15 : decode cL_aboard 15 = .ok (.iconst 1, 1) := by decide +kernel
theorem dL_aboard_16 : decode cL_aboard 16 = .ok (.ireturn, 1) := by decide +kernel
theorem dL_aboard_17 : decode cL_aboard 17 = .ok (.astore 4, 2) := by decide +kernel
theorem dL_aboard_19 : decode cL_aboard 19 = .ok (.iconst 2, 1) := by decide +kernel
theorem dL_aboard_20 : decode cL_aboard 20 = .ok (.ireturn, 1) := by decide +kernel
theorem dL_aboard_21 : decode cL_aboard 21 = .ok (.iconst 0, 1) := by decide +kernel
theorem dL_aboard_22 : decode cL_aboard 22 = .ok (.ireturn, 1) := by decide +kernel
theorem dL_stamp_0 : decode cL_stamp 0 = .ok (.aload_n 3, 1) := by decide +kernel
theorem dL_stamp_1 : decode cL_stamp 1 = .ok (.iconst 0, 1) := by decide +kernel
theorem dL_stamp_2 : decode cL_stamp 2 = .ok (.aload_n 0, 1) := by decide +kernel
theorem dL_stamp_3 : decode cL_stamp 3 = .ok (.iload_n 1, 1) := by decide +kernel
theorem dL_stamp_4 : decode cL_stamp 4 = .ok (.iload_n 2, 1) := by decide +kernel
theorem dL_stamp_5 : decode cL_stamp 5 = .ok (.invokevirtual 39, 3) := by decide +kernel
theorem dL_stamp_8 : decode cL_stamp 8 = .ok (.i2l, 1) := by decide +kernel
theorem dL_stamp_9 : decode cL_stamp 9 = .ok (.lastore, 1) := by decide +kernel
theorem dL_stamp_10 : decode cL_stamp 10 = .ok (.goto 11, 3) := by decide +kernel
theorem dL_stamp_13 : decode cL_stamp 13 = .ok (.astore 4, 2) := by decide +kernel
theorem dL_stamp_15 : decode cL_stamp 15 = .ok (.iconst 1, 1) := by decide +kernel
theorem dL_stamp_16 : decode cL_stamp 16 = .ok (.ireturn, 1) := by decide +kernel
theorem dL_stamp_17 : decode cL_stamp 17 = .ok (.astore 4, 2) := by decide +kernel
theorem dL_stamp_19 : decode cL_stamp 19 = .ok (.iconst 2, 1) := by decide +kernel
theorem dL_stamp_20 : decode cL_stamp 20 = .ok (.ireturn, 1) := by decide +kernel
theorem dL_stamp_21 : decode cL_stamp 21 = .ok (.iconst 0, 1) := by decide +kernel
theorem dL_stamp_22 : decode cL_stamp 22 = .ok (.ireturn, 1) := by decide +kernel
theorem dL_check_0 : decode cL_check 0 = .ok (.aload_n 3, 1) := by decide +kernel
theorem dL_check_1 : decode cL_check 1 = .ok (.iconst 0, 1) := by decide +kernel
theorem dL_check_2 : decode cL_check 2 = .ok (.aload_n 0, 1) := by decide +kernel
theorem dL_check_3 : decode cL_check 3 = .ok (.iload_n 1, 1) := by decide +kernel
theorem dL_check_4 : decode cL_check 4 = .ok (.iload_n 2, 1) := by decide +kernel
theorem dL_check_5 : decode cL_check 5 = .ok (.invokevirtual 42, 3) := by decide +kernel
theorem dL_check_8 : decode cL_check 8 = .ok (.i2l, 1) := by decide +kernel
theorem dL_check_9 : decode cL_check 9 = .ok (.lastore, 1) := by decide +kernel
theorem dL_check_10 : decode cL_check 10 = .ok (.goto 11, 3) := by decide +kernel
theorem dL_check_13 : decode cL_check 13 = .ok (.astore 4, 2) := by decide +kernel
theorem dL_check_15 : decode cL_check 15 = .ok (.iconst 1, 1) := by decide +kernel
theorem dL_check_16 : decode cL_check 16 = .ok (.ireturn, 1) := by decide +kernel
theorem dL_check_17 : decode cL_check 17 = .ok (.astore 4, 2) := by decide +kernel
theorem dL_check_19 : decode cL_check 19 = .ok (.iconst 2, 1) := by decide +kernel
theorem dL_check_20 : decode cL_check 20 = .ok (.ireturn, 1) := by decide +kernel
theorem dL_check_21 : decode cL_check 21 = .ok (.iconst 0, 1) := by decide +kernel
theorem dL_check_22 : decode cL_check 22 = .ok (.ireturn, 1) := by decide +kernel
theorem dL_comeBack_0 : decode cL_comeBack 0 = .ok (.aload_n 2, 1) := by decide +kernel
theorem dL_comeBack_1 : decode cL_comeBack 1 = .ok (.iconst 0, 1) := by decide +kernel
theorem dL_comeBack_2 : decode cL_comeBack 2 = .ok (.aload_n 0, 1) := by decide +kernel
theorem dL_comeBack_3 : decode cL_comeBack 3 = .ok (.iload_n 1, 1) := by decide +kernel
theorem dL_comeBack_4 : decode cL_comeBack 4 = .ok (.invokevirtual 46, 3) := by decide +kernel
theorem dL_comeBack_7 : decode cL_comeBack 7 = .ok (.i2l, 1) := by decide +kernel
theorem dL_comeBack_8 : decode cL_comeBack 8 = .ok (.lastore, 1) := by decide +kernel
theorem dL_comeBack_9 : decode cL_comeBack 9 = .ok (.goto 9, 3) := by decide +kernel
theorem dL_comeBack_12 : decode cL_comeBack 12 = .ok (.astore_n 3, 1) := by decide +kernel
theorem dL_comeBack_13 : decode cL_comeBack 13 = .ok (.iconst 1, 1) := by decide +kernel
theorem dL_comeBack_14 : decode cL_comeBack 14 = .ok (.ireturn, 1) := by decide +kernel
theorem dL_comeBack_15 : decode cL_comeBack 15 = .ok (.astore_n 3, 1) := by decide +kernel
theorem dL_comeBack_16 : decode cL_comeBack 16 = .ok (.iconst 2, 1) := by decide +kernel
theorem dL_comeBack_17 : decode cL_comeBack 17 = .ok (.ireturn, 1) := by decide +kernel
theorem dL_comeBack_18 : decode cL_comeBack 18 = .ok (.iconst 0, 1) := by decide +kernel
theorem dL_comeBack_19 : decode cL_comeBack 19 = .ok (.ireturn, 1) := by decide +kernel
theorem dL_pass_0 : decode cL_pass 0 = .ok (.aload_n 2, 1) := by decide +kernel
theorem dL_pass_1 : decode cL_pass 1 = .ok (.iconst 0, 1) := by decide +kernel
theorem dL_pass_2 : decode cL_pass 2 = .ok (.aload_n 0, 1) := by decide +kernel
theorem dL_pass_3 : decode cL_pass 3 = .ok (.iload_n 1, 1) := by decide +kernel
theorem dL_pass_4 : decode cL_pass 4 = .ok (.invokevirtual 49, 3) := by decide +kernel
theorem dL_pass_7 : decode cL_pass 7 = .ok (.i2l, 1) := by decide +kernel
theorem dL_pass_8 : decode cL_pass 8 = .ok (.lastore, 1) := by decide +kernel
theorem dL_pass_9 : decode cL_pass 9 = .ok (.goto 9, 3) := by decide +kernel
theorem dL_pass_12 : decode cL_pass 12 = .ok (.astore_n 3, 1) := by decide +kernel
theorem dL_pass_13 : decode cL_pass 13 = .ok (.iconst 1, 1) := by decide +kernel
theorem dL_pass_14 : decode cL_pass 14 = .ok (.ireturn, 1) := by decide +kernel
theorem dL_pass_15 : decode cL_pass 15 = .ok (.astore_n 3, 1) := by decide +kernel
theorem dL_pass_16 : decode cL_pass 16 = .ok (.iconst 2, 1) := by decide +kernel
theorem dL_pass_17 : decode cL_pass 17 = .ok (.ireturn, 1) := by decide +kernel
theorem dL_pass_18 : decode cL_pass 18 = .ok (.iconst 0, 1) := by decide +kernel
theorem dL_pass_19 : decode cL_pass 19 = .ok (.ireturn, 1) := by decide +kernel
theorem dL_ofReceipt_0 : decode cL_ofReceipt 0 = .ok (.aload_n 3, 1) := by decide +kernel
theorem dL_ofReceipt_1 : decode cL_ofReceipt 1 = .ok (.iconst 0, 1) := by decide +kernel
theorem dL_ofReceipt_2 : decode cL_ofReceipt 2 = .ok (.aload_n 0, 1) := by decide +kernel
theorem dL_ofReceipt_3 : decode cL_ofReceipt 3 = .ok (.iload_n 1, 1) := by decide +kernel
theorem dL_ofReceipt_4 : decode cL_ofReceipt 4 = .ok (.iload_n 2, 1) := by decide +kernel
theorem dL_ofReceipt_5 : decode cL_ofReceipt 5 = .ok (.invokevirtual 52, 3) := by decide +kernel
theorem dL_ofReceipt_8 : decode cL_ofReceipt 8 = .ok (.i2l, 1) := by decide +kernel
theorem dL_ofReceipt_9 : decode cL_ofReceipt 9 = .ok (.lastore, 1) := by decide +kernel
theorem dL_ofReceipt_10 : decode cL_ofReceipt 10 = .ok (.goto 11, 3) := by decide +kernel
theorem dL_ofReceipt_13 : decode cL_ofReceipt 13 = .ok (.astore 4, 2) := by decide +kernel
theorem dL_ofReceipt_15 : decode cL_ofReceipt 15 = .ok (.iconst 1, 1) := by decide +kernel
theorem dL_ofReceipt_16 : decode cL_ofReceipt 16 = .ok (.ireturn, 1) := by decide +kernel
theorem dL_ofReceipt_17 : decode cL_ofReceipt 17 = .ok (.astore 4, 2) := by decide +kernel
theorem dL_ofReceipt_19 : decode cL_ofReceipt 19 = .ok (.iconst 2, 1) := by decide +kernel
theorem dL_ofReceipt_20 : decode cL_ofReceipt 20 = .ok (.ireturn, 1) := by decide +kernel
theorem dL_ofReceipt_21 : decode cL_ofReceipt 21 = .ok (.iconst 0, 1) := by decide +kernel
theorem dL_ofReceipt_22 : decode cL_ofReceipt 22 = .ok (.ireturn, 1) := by decide +kernel
theorem dL_code_0 : decode cL_code 0 = .ok (.aload_n 3, 1) := by decide +kernel
theorem dL_code_1 : decode cL_code 1 = .ok (.iconst 0, 1) := by decide +kernel
theorem dL_code_2 : decode cL_code 2 = .ok (.aload_n 0, 1) := by decide +kernel
theorem dL_code_3 : decode cL_code 3 = .ok (.iload_n 1, 1) := by decide +kernel
theorem dL_code_4 : decode cL_code 4 = .ok (.iload_n 2, 1) := by decide +kernel
theorem dL_code_5 : decode cL_code 5 = .ok (.invokevirtual 55, 3) := by decide +kernel
theorem dL_code_8 : decode cL_code 8 = .ok (.i2l, 1) := by decide +kernel
theorem dL_code_9 : decode cL_code 9 = .ok (.lastore, 1) := by decide +kernel
theorem dL_code_10 : decode cL_code 10 = .ok (.goto 7, 3) := by decide +kernel
theorem dL_code_13 : decode cL_code 13 = .ok (.astore 4, 2) := by decide +kernel
theorem dL_code_15 : decode cL_code 15 = .ok (.iconst 1, 1) := by decide +kernel
theorem dL_code_16 : decode cL_code 16 = .ok (.ireturn, 1) := by decide +kernel
theorem dL_code_17 : decode cL_code 17 = .ok (.iconst 0, 1) := by decide +kernel
theorem dL_code_18 : decode cL_code 18 = .ok (.ireturn, 1) := by decide +kernel
theorem dL_ofTraveller_0 : decode cL_ofTraveller 0 = .ok (.aload_n 3, 1) := by decide +kernel
theorem dL_ofTraveller_1 : decode cL_ofTraveller 1 = .ok (.iconst 0, 1) := by decide +kernel
theorem dL_ofTraveller_2 : decode cL_ofTraveller 2 = .ok (.aload_n 0, 1) := by decide +kernel
theorem dL_ofTraveller_3 : decode cL_ofTraveller 3 = .ok (.iload_n 1, 1) := by decide +kernel
theorem dL_ofTraveller_4 : decode cL_ofTraveller 4 = .ok (.iload_n 2, 1) := by decide +kernel
theorem dL_ofTraveller_5 : decode cL_ofTraveller 5 = .ok (.invokevirtual 59, 3) := by decide +kernel
theorem dL_ofTraveller_8 : decode cL_ofTraveller 8 = .ok (.i2l, 1) := by decide +kernel
theorem dL_ofTraveller_9 : decode cL_ofTraveller 9 = .ok (.lastore, 1) := by decide +kernel
theorem dL_ofTraveller_10 : decode cL_ofTraveller 10 = .ok (.goto 11, 3) := by decide +kernel
theorem dL_ofTraveller_13 : decode cL_ofTraveller 13 = .ok (.astore 4, 2) := by decide +kernel
theorem dL_ofTraveller_15 : decode cL_ofTraveller 15 = .ok (.iconst 1, 1) := by decide +kernel
theorem dL_ofTraveller_16 : decode cL_ofTraveller 16 = .ok (.ireturn, 1) := by decide +kernel
theorem dL_ofTraveller_17 : decode cL_ofTraveller 17 = .ok (.astore 4, 2) := by decide +kernel
theorem dL_ofTraveller_19 : decode cL_ofTraveller 19 = .ok (.iconst 2, 1) := by decide +kernel
theorem dL_ofTraveller_20 : decode cL_ofTraveller 20 = .ok (.ireturn, 1) := by decide +kernel
theorem dL_ofTraveller_21 : decode cL_ofTraveller 21 = .ok (.iconst 0, 1) := by decide +kernel
theorem dL_ofTraveller_22 : decode cL_ofTraveller 22 = .ok (.ireturn, 1) := by decide +kernel
theorem dL_refundsAnew_0 : decode cL_refundsAnew 0 = .ok (.aload_n 2, 1) := by decide +kernel
theorem dL_refundsAnew_1 : decode cL_refundsAnew 1 = .ok (.iconst 0, 1) := by decide +kernel
theorem dL_refundsAnew_2 : decode cL_refundsAnew 2 = .ok (.aload_n 0, 1) := by decide +kernel
theorem dL_refundsAnew_3 : decode cL_refundsAnew 3 = .ok (.iload_n 1, 1) := by decide +kernel
theorem dL_refundsAnew_4 : decode cL_refundsAnew 4 = .ok (.invokevirtual 62, 3) := by decide +kernel
theorem dL_refundsAnew_7 : decode cL_refundsAnew 7 = .ok (.i2l, 1) := by decide +kernel
theorem dL_refundsAnew_8 : decode cL_refundsAnew 8 = .ok (.lastore, 1) := by decide +kernel
theorem dL_refundsAnew_9 : decode cL_refundsAnew 9 = .ok (.goto 6, 3) := by decide +kernel
theorem dL_refundsAnew_12 : decode cL_refundsAnew 12 = .ok (.astore_n 3, 1) := by decide +kernel
theorem dL_refundsAnew_13 : decode cL_refundsAnew 13 = .ok (.iconst 1, 1) := by decide +kernel
theorem dL_refundsAnew_14 : decode cL_refundsAnew 14 = .ok (.ireturn, 1) := by decide +kernel
theorem dL_refundsAnew_15 : decode cL_refundsAnew 15 = .ok (.iconst 0, 1) := by decide +kernel
theorem dL_refundsAnew_16 : decode cL_refundsAnew 16 = .ok (.ireturn, 1) := by decide +kernel
theorem dL_debt_0 : decode cL_debt 0 = .ok (.aload_n 2, 1) := by decide +kernel
theorem dL_debt_1 : decode cL_debt 1 = .ok (.iconst 0, 1) := by decide +kernel
theorem dL_debt_2 : decode cL_debt 2 = .ok (.aload_n 0, 1) := by decide +kernel
theorem dL_debt_3 : decode cL_debt 3 = .ok (.iload_n 1, 1) := by decide +kernel
theorem dL_debt_4 : decode cL_debt 4 = .ok (.invokevirtual 65, 3) := by decide +kernel
theorem dL_debt_7 : decode cL_debt 7 = .ok (.i2l, 1) := by decide +kernel
theorem dL_debt_8 : decode cL_debt 8 = .ok (.lastore, 1) := by decide +kernel
theorem dL_debt_9 : decode cL_debt 9 = .ok (.goto 6, 3) := by decide +kernel
theorem dL_debt_12 : decode cL_debt 12 = .ok (.astore_n 3, 1) := by decide +kernel
theorem dL_debt_13 : decode cL_debt 13 = .ok (.iconst 1, 1) := by decide +kernel
theorem dL_debt_14 : decode cL_debt 14 = .ok (.ireturn, 1) := by decide +kernel
theorem dL_debt_15 : decode cL_debt 15 = .ok (.iconst 0, 1) := by decide +kernel
theorem dL_debt_16 : decode cL_debt 16 = .ok (.ireturn, 1) := by decide +kernel
theorem dL_law_0 : decode cL_law 0 = .ok (.new 8, 3) := by decide +kernel
theorem dL_law_3 : decode cL_law 3 = .ok (.dup, 1) := by decide +kernel
theorem dL_law_4 : decode cL_law 4 = .ok (.invokespecial 68, 3) := by decide +kernel
theorem dL_law_7 : decode cL_law 7 = .ok (.astore_n 1, 1) := by decide +kernel
theorem dL_law_8 : decode cL_law 8 = .ok (.new 69, 3) := by decide +kernel
theorem dL_law_11 : decode cL_law 11 = .ok (.dup, 1) := by decide +kernel
theorem dL_law_12 : decode cL_law 12 = .ok (.invokespecial 71, 3) := by decide +kernel
theorem dL_law_15 : decode cL_law 15 = .ok (.astore_n 2, 1) := by decide +kernel
theorem dL_law_16 : decode cL_law 16 = .ok (.iconst 1, 1) := by decide +kernel
theorem dL_law_17 : decode cL_law 17 = .ok (.newarray .long, 2) := by decide +kernel
theorem dL_law_19 : decode cL_law 19 = .ok (.astore_n 3, 1) := by decide +kernel
theorem dL_law_20 : decode cL_law 20 = .ok (.iconst 0, 1) := by decide +kernel
theorem dL_law_21 : decode cL_law 21 = .ok (.istore 4, 2) := by decide +kernel
theorem dL_law_23 : decode cL_law 23 = .ok (.iload 4, 2) := by decide +kernel
theorem dL_law_25 : decode cL_law 25 = .ok (.aload_n 0, 1) := by decide +kernel
theorem dL_law_26 : decode cL_law 26 = .ok (.arraylength, 1) := by decide +kernel
theorem dL_law_27 : decode cL_law 27 = .ok (.iconst 5, 1) := by decide +kernel
theorem dL_law_28 : decode cL_law 28 = .ok (.isub, 1) := by decide +kernel
theorem dL_law_29 : decode cL_law 29 = .ok (.if_icmp .gt 1161, 3) := by decide +kernel
theorem dL_law_32 : decode cL_law 32 = .ok (.aload_n 0, 1) := by decide +kernel
theorem dL_law_33 : decode cL_law 33 = .ok (.iload 4, 2) := by decide +kernel
theorem dL_law_35 : decode cL_law 35 = .ok (.iaload, 1) := by decide +kernel
theorem dL_law_36 : decode cL_law 36 = .ok (.bipush 15, 2) := by decide +kernel
theorem dL_law_38 : decode cL_law 38 = .ok (.iand, 1) := by decide +kernel
theorem dL_law_39 : decode cL_law 39 = .ok (.tableswitch 1145 0 15 #[77, 145, 237, 293, 361, 429, 497, 565, 633, 717, 773, 829, 897, 965, 1033, 1089], 77) := by decide +kernel
theorem dL_law_116 : decode cL_law 116 = .ok (.aload_n 1, 1) := by decide +kernel
theorem dL_law_117 : decode cL_law 117 = .ok (.aload_n 0, 1) := by decide +kernel
theorem dL_law_118 : decode cL_law 118 = .ok (.iload 4, 2) := by decide +kernel
theorem dL_law_120 : decode cL_law 120 = .ok (.iconst 1, 1) := by decide +kernel
theorem dL_law_121 : decode cL_law 121 = .ok (.iadd, 1) := by decide +kernel
theorem dL_law_122 : decode cL_law 122 = .ok (.iaload, 1) := by decide +kernel
theorem dL_law_123 : decode cL_law 123 = .ok (.aload_n 0, 1) := by decide +kernel
theorem dL_law_124 : decode cL_law 124 = .ok (.iload 4, 2) := by decide +kernel
theorem dL_law_126 : decode cL_law 126 = .ok (.iconst 2, 1) := by decide +kernel
theorem dL_law_127 : decode cL_law 127 = .ok (.iadd, 1) := by decide +kernel
theorem dL_law_128 : decode cL_law 128 = .ok (.iaload, 1) := by decide +kernel
theorem dL_law_129 : decode cL_law 129 = .ok (.aload_n 3, 1) := by decide +kernel
theorem dL_law_130 : decode cL_law 130 = .ok (.invokestatic 72, 3) := by decide +kernel
theorem dL_law_133 : decode cL_law 133 = .ok (.istore 5, 2) := by decide +kernel
theorem dL_law_135 : decode cL_law 135 = .ok (.aload_n 2, 1) := by decide +kernel
theorem dL_law_136 : decode cL_law 136 = .ok (.aload_n 0, 1) := by decide +kernel
theorem dL_law_137 : decode cL_law 137 = .ok (.iload 4, 2) := by decide +kernel
theorem dL_law_139 : decode cL_law 139 = .ok (.iconst 1, 1) := by decide +kernel
theorem dL_law_140 : decode cL_law 140 = .ok (.iadd, 1) := by decide +kernel
theorem dL_law_141 : decode cL_law 141 = .ok (.iaload, 1) := by decide +kernel
theorem dL_law_142 : decode cL_law 142 = .ok (.aload_n 0, 1) := by decide +kernel
theorem dL_law_143 : decode cL_law 143 = .ok (.iload 4, 2) := by decide +kernel
theorem dL_law_145 : decode cL_law 145 = .ok (.iconst 2, 1) := by decide +kernel
theorem dL_law_146 : decode cL_law 146 = .ok (.iadd, 1) := by decide +kernel
theorem dL_law_147 : decode cL_law 147 = .ok (.iaload, 1) := by decide +kernel
theorem dL_law_148 : decode cL_law 148 = .ok (.invokevirtual 77, 3) := by decide +kernel
theorem dL_law_151 : decode cL_law 151 = .ok (.istore 6, 2) := by decide +kernel
theorem dL_law_153 : decode cL_law 153 = .ok (.aload_n 2, 1) := by decide +kernel
theorem dL_law_154 : decode cL_law 154 = .ok (.invokevirtual 78, 3) := by decide +kernel
theorem dL_law_157 : decode cL_law 157 = .ok (.iload 5, 2) := by decide +kernel
theorem dL_law_159 : decode cL_law 159 = .ok (.if_icmp .eq 5, 3) := by decide +kernel
theorem dL_law_162 : decode cL_law 162 = .ok (.iconst 0, 1) := by decide +kernel
theorem dL_law_163 : decode cL_law 163 = .ok (.ireturn, 1) := by decide +kernel
theorem dL_law_164 : decode cL_law 164 = .ok (.iload 5, 2) := by decide +kernel
theorem dL_law_166 : decode cL_law 166 = .ok (.ifCond .ne 15, 3) := by decide +kernel
theorem dL_law_169 : decode cL_law 169 = .ok (.aload_n 3, 1) := by decide +kernel
theorem dL_law_170 : decode cL_law 170 = .ok (.iconst 0, 1) := by decide +kernel
theorem dL_law_171 : decode cL_law 171 = .ok (.laload, 1) := by decide +kernel
theorem dL_law_172 : decode cL_law 172 = .ok (.iload 6, 2) := by decide +kernel
theorem dL_law_174 : decode cL_law 174 = .ok (.i2l, 1) := by decide +kernel
theorem dL_law_175 : decode cL_law 175 = .ok (.lcmp, 1) := by decide +kernel
theorem dL_law_176 : decode cL_law 176 = .ok (.ifCond .eq 5, 3) := by decide +kernel
theorem dL_law_179 : decode cL_law 179 = .ok (.iconst 0, 1) := by decide +kernel
theorem dL_law_180 : decode cL_law 180 = .ok (.ireturn, 1) := by decide +kernel
theorem dL_law_181 : decode cL_law 181 = .ok (.goto 1003, 3) := by decide +kernel
theorem dL_law_184 : decode cL_law 184 = .ok (.aload_n 1, 1) := by decide +kernel
theorem dL_law_185 : decode cL_law 185 = .ok (.aload_n 0, 1) := by decide +kernel
theorem dL_law_186 : decode cL_law 186 = .ok (.iload 4, 2) := by decide +kernel
theorem dL_law_188 : decode cL_law 188 = .ok (.iconst 1, 1) := by decide +kernel
theorem dL_law_189 : decode cL_law 189 = .ok (.iadd, 1) := by decide +kernel
theorem dL_law_190 : decode cL_law 190 = .ok (.iaload, 1) := by decide +kernel
theorem dL_law_191 : decode cL_law 191 = .ok (.aload_n 0, 1) := by decide +kernel
theorem dL_law_192 : decode cL_law 192 = .ok (.iload 4, 2) := by decide +kernel
theorem dL_law_194 : decode cL_law 194 = .ok (.iconst 2, 1) := by decide +kernel
theorem dL_law_195 : decode cL_law 195 = .ok (.iadd, 1) := by decide +kernel
theorem dL_law_196 : decode cL_law 196 = .ok (.iaload, 1) := by decide +kernel
theorem dL_law_197 : decode cL_law 197 = .ok (.aload_n 0, 1) := by decide +kernel
theorem dL_law_198 : decode cL_law 198 = .ok (.iload 4, 2) := by decide +kernel
theorem dL_law_200 : decode cL_law 200 = .ok (.iconst 3, 1) := by decide +kernel
theorem dL_law_201 : decode cL_law 201 = .ok (.iadd, 1) := by decide +kernel
theorem dL_law_202 : decode cL_law 202 = .ok (.iaload, 1) := by decide +kernel
theorem dL_law_203 : decode cL_law 203 = .ok (.aload_n 0, 1) := by decide +kernel
theorem dL_law_204 : decode cL_law 204 = .ok (.iload 4, 2) := by decide +kernel
theorem dL_law_206 : decode cL_law 206 = .ok (.iconst 4, 1) := by decide +kernel
theorem dL_law_207 : decode cL_law 207 = .ok (.iadd, 1) := by decide +kernel
theorem dL_law_208 : decode cL_law 208 = .ok (.iaload, 1) := by decide +kernel
theorem dL_law_209 : decode cL_law 209 = .ok (.aload_n 3, 1) := by decide +kernel
theorem dL_law_210 : decode cL_law 210 = .ok (.invokestatic 82, 3) := by decide +kernel
theorem dL_law_213 : decode cL_law 213 = .ok (.istore 5, 2) := by decide +kernel
theorem dL_law_215 : decode cL_law 215 = .ok (.aload_n 2, 1) := by decide +kernel
theorem dL_law_216 : decode cL_law 216 = .ok (.aload_n 0, 1) := by decide +kernel
theorem dL_law_217 : decode cL_law 217 = .ok (.iload 4, 2) := by decide +kernel
theorem dL_law_219 : decode cL_law 219 = .ok (.iconst 1, 1) := by decide +kernel
theorem dL_law_220 : decode cL_law 220 = .ok (.iadd, 1) := by decide +kernel
theorem dL_law_221 : decode cL_law 221 = .ok (.iaload, 1) := by decide +kernel
theorem dL_law_222 : decode cL_law 222 = .ok (.aload_n 0, 1) := by decide +kernel
theorem dL_law_223 : decode cL_law 223 = .ok (.iload 4, 2) := by decide +kernel
theorem dL_law_225 : decode cL_law 225 = .ok (.iconst 2, 1) := by decide +kernel
theorem dL_law_226 : decode cL_law 226 = .ok (.iadd, 1) := by decide +kernel
theorem dL_law_227 : decode cL_law 227 = .ok (.iaload, 1) := by decide +kernel
theorem dL_law_228 : decode cL_law 228 = .ok (.aload_n 0, 1) := by decide +kernel
theorem dL_law_229 : decode cL_law 229 = .ok (.iload 4, 2) := by decide +kernel
theorem dL_law_231 : decode cL_law 231 = .ok (.iconst 3, 1) := by decide +kernel
theorem dL_law_232 : decode cL_law 232 = .ok (.iadd, 1) := by decide +kernel
theorem dL_law_233 : decode cL_law 233 = .ok (.iaload, 1) := by decide +kernel
theorem dL_law_234 : decode cL_law 234 = .ok (.aload_n 0, 1) := by decide +kernel
theorem dL_law_235 : decode cL_law 235 = .ok (.iload 4, 2) := by decide +kernel
theorem dL_law_237 : decode cL_law 237 = .ok (.iconst 4, 1) := by decide +kernel
theorem dL_law_238 : decode cL_law 238 = .ok (.iadd, 1) := by decide +kernel
theorem dL_law_239 : decode cL_law 239 = .ok (.iaload, 1) := by decide +kernel
theorem dL_law_240 : decode cL_law 240 = .ok (.invokevirtual 85, 3) := by decide +kernel
theorem dL_law_243 : decode cL_law 243 = .ok (.istore 6, 2) := by decide +kernel
theorem dL_law_245 : decode cL_law 245 = .ok (.aload_n 2, 1) := by decide +kernel
theorem dL_law_246 : decode cL_law 246 = .ok (.invokevirtual 78, 3) := by decide +kernel
theorem dL_law_249 : decode cL_law 249 = .ok (.iload 5, 2) := by decide +kernel
theorem dL_law_251 : decode cL_law 251 = .ok (.if_icmp .eq 5, 3) := by decide +kernel
theorem dL_law_254 : decode cL_law 254 = .ok (.iconst 0, 1) := by decide +kernel
theorem dL_law_255 : decode cL_law 255 = .ok (.ireturn, 1) := by decide +kernel
theorem dL_law_256 : decode cL_law 256 = .ok (.iload 5, 2) := by decide +kernel
theorem dL_law_258 : decode cL_law 258 = .ok (.ifCond .ne 15, 3) := by decide +kernel
theorem dL_law_261 : decode cL_law 261 = .ok (.aload_n 3, 1) := by decide +kernel
theorem dL_law_262 : decode cL_law 262 = .ok (.iconst 0, 1) := by decide +kernel
theorem dL_law_263 : decode cL_law 263 = .ok (.laload, 1) := by decide +kernel
theorem dL_law_264 : decode cL_law 264 = .ok (.iload 6, 2) := by decide +kernel
theorem dL_law_266 : decode cL_law 266 = .ok (.i2l, 1) := by decide +kernel
theorem dL_law_267 : decode cL_law 267 = .ok (.lcmp, 1) := by decide +kernel
theorem dL_law_268 : decode cL_law 268 = .ok (.ifCond .eq 5, 3) := by decide +kernel
theorem dL_law_271 : decode cL_law 271 = .ok (.iconst 0, 1) := by decide +kernel
theorem dL_law_272 : decode cL_law 272 = .ok (.ireturn, 1) := by decide +kernel
theorem dL_law_273 : decode cL_law 273 = .ok (.goto 911, 3) := by decide +kernel
theorem dL_law_276 : decode cL_law 276 = .ok (.aload_n 1, 1) := by decide +kernel
theorem dL_law_277 : decode cL_law 277 = .ok (.aload_n 0, 1) := by decide +kernel
theorem dL_law_278 : decode cL_law 278 = .ok (.iload 4, 2) := by decide +kernel
theorem dL_law_280 : decode cL_law 280 = .ok (.iconst 1, 1) := by decide +kernel
theorem dL_law_281 : decode cL_law 281 = .ok (.iadd, 1) := by decide +kernel
theorem dL_law_282 : decode cL_law 282 = .ok (.iaload, 1) := by decide +kernel
theorem dL_law_283 : decode cL_law 283 = .ok (.aload_n 3, 1) := by decide +kernel
theorem dL_law_284 : decode cL_law 284 = .ok (.invokestatic 86, 3) := by decide +kernel
theorem dL_law_287 : decode cL_law 287 = .ok (.istore 5, 2) := by decide +kernel
theorem dL_law_289 : decode cL_law 289 = .ok (.aload_n 2, 1) := by decide +kernel
theorem dL_law_290 : decode cL_law 290 = .ok (.aload_n 0, 1) := by decide +kernel
theorem dL_law_291 : decode cL_law 291 = .ok (.iload 4, 2) := by decide +kernel
theorem dL_law_293 : decode cL_law 293 = .ok (.iconst 1, 1) := by decide +kernel
theorem dL_law_294 : decode cL_law 294 = .ok (.iadd, 1) := by decide +kernel
theorem dL_law_295 : decode cL_law 295 = .ok (.iaload, 1) := by decide +kernel
theorem dL_law_296 : decode cL_law 296 = .ok (.invokevirtual 89, 3) := by decide +kernel
theorem dL_law_299 : decode cL_law 299 = .ok (.istore 6, 2) := by decide +kernel
theorem dL_law_301 : decode cL_law 301 = .ok (.aload_n 2, 1) := by decide +kernel
theorem dL_law_302 : decode cL_law 302 = .ok (.invokevirtual 78, 3) := by decide +kernel
theorem dL_law_305 : decode cL_law 305 = .ok (.iload 5, 2) := by decide +kernel
theorem dL_law_307 : decode cL_law 307 = .ok (.if_icmp .eq 5, 3) := by decide +kernel
theorem dL_law_310 : decode cL_law 310 = .ok (.iconst 0, 1) := by decide +kernel
theorem dL_law_311 : decode cL_law 311 = .ok (.ireturn, 1) := by decide +kernel
theorem dL_law_312 : decode cL_law 312 = .ok (.iload 5, 2) := by decide +kernel
theorem dL_law_314 : decode cL_law 314 = .ok (.ifCond .ne 15, 3) := by decide +kernel
theorem dL_law_317 : decode cL_law 317 = .ok (.aload_n 3, 1) := by decide +kernel
theorem dL_law_318 : decode cL_law 318 = .ok (.iconst 0, 1) := by decide +kernel
theorem dL_law_319 : decode cL_law 319 = .ok (.laload, 1) := by decide +kernel
theorem dL_law_320 : decode cL_law 320 = .ok (.iload 6, 2) := by decide +kernel
theorem dL_law_322 : decode cL_law 322 = .ok (.i2l, 1) := by decide +kernel
theorem dL_law_323 : decode cL_law 323 = .ok (.lcmp, 1) := by decide +kernel
theorem dL_law_324 : decode cL_law 324 = .ok (.ifCond .eq 5, 3) := by decide +kernel
theorem dL_law_327 : decode cL_law 327 = .ok (.iconst 0, 1) := by decide +kernel
theorem dL_law_328 : decode cL_law 328 = .ok (.ireturn, 1) := by decide +kernel
theorem dL_law_329 : decode cL_law 329 = .ok (.goto 855, 3) := by decide +kernel
theorem dL_law_332 : decode cL_law 332 = .ok (.aload_n 1, 1) := by decide +kernel
theorem dL_law_333 : decode cL_law 333 = .ok (.aload_n 0, 1) := by decide +kernel
theorem dL_law_334 : decode cL_law 334 = .ok (.iload 4, 2) := by decide +kernel
theorem dL_law_336 : decode cL_law 336 = .ok (.iconst 1, 1) := by decide +kernel
theorem dL_law_337 : decode cL_law 337 = .ok (.iadd, 1) := by decide +kernel
theorem dL_law_338 : decode cL_law 338 = .ok (.iaload, 1) := by decide +kernel
theorem dL_law_339 : decode cL_law 339 = .ok (.aload_n 0, 1) := by decide +kernel
theorem dL_law_340 : decode cL_law 340 = .ok (.iload 4, 2) := by decide +kernel
theorem dL_law_342 : decode cL_law 342 = .ok (.iconst 2, 1) := by decide +kernel
theorem dL_law_343 : decode cL_law 343 = .ok (.iadd, 1) := by decide +kernel
theorem dL_law_344 : decode cL_law 344 = .ok (.iaload, 1) := by decide +kernel
theorem dL_law_345 : decode cL_law 345 = .ok (.aload_n 3, 1) := by decide +kernel
theorem dL_law_346 : decode cL_law 346 = .ok (.invokestatic 90, 3) := by decide +kernel
theorem dL_law_349 : decode cL_law 349 = .ok (.istore 5, 2) := by decide +kernel
theorem dL_law_351 : decode cL_law 351 = .ok (.aload_n 2, 1) := by decide +kernel
theorem dL_law_352 : decode cL_law 352 = .ok (.aload_n 0, 1) := by decide +kernel
theorem dL_law_353 : decode cL_law 353 = .ok (.iload 4, 2) := by decide +kernel
theorem dL_law_355 : decode cL_law 355 = .ok (.iconst 1, 1) := by decide +kernel
theorem dL_law_356 : decode cL_law 356 = .ok (.iadd, 1) := by decide +kernel
theorem dL_law_357 : decode cL_law 357 = .ok (.iaload, 1) := by decide +kernel
theorem dL_law_358 : decode cL_law 358 = .ok (.aload_n 0, 1) := by decide +kernel
theorem dL_law_359 : decode cL_law 359 = .ok (.iload 4, 2) := by decide +kernel
theorem dL_law_361 : decode cL_law 361 = .ok (.iconst 2, 1) := by decide +kernel
theorem dL_law_362 : decode cL_law 362 = .ok (.iadd, 1) := by decide +kernel
theorem dL_law_363 : decode cL_law 363 = .ok (.iaload, 1) := by decide +kernel
theorem dL_law_364 : decode cL_law 364 = .ok (.invokevirtual 92, 3) := by decide +kernel
theorem dL_law_367 : decode cL_law 367 = .ok (.istore 6, 2) := by decide +kernel
theorem dL_law_369 : decode cL_law 369 = .ok (.aload_n 2, 1) := by decide +kernel
theorem dL_law_370 : decode cL_law 370 = .ok (.invokevirtual 78, 3) := by decide +kernel
theorem dL_law_373 : decode cL_law 373 = .ok (.iload 5, 2) := by decide +kernel
theorem dL_law_375 : decode cL_law 375 = .ok (.if_icmp .eq 5, 3) := by decide +kernel
theorem dL_law_378 : decode cL_law 378 = .ok (.iconst 0, 1) := by decide +kernel
theorem dL_law_379 : decode cL_law 379 = .ok (.ireturn, 1) := by decide +kernel
theorem dL_law_380 : decode cL_law 380 = .ok (.iload 5, 2) := by decide +kernel
theorem dL_law_382 : decode cL_law 382 = .ok (.ifCond .ne 15, 3) := by decide +kernel
theorem dL_law_385 : decode cL_law 385 = .ok (.aload_n 3, 1) := by decide +kernel
theorem dL_law_386 : decode cL_law 386 = .ok (.iconst 0, 1) := by decide +kernel
theorem dL_law_387 : decode cL_law 387 = .ok (.laload, 1) := by decide +kernel
theorem dL_law_388 : decode cL_law 388 = .ok (.iload 6, 2) := by decide +kernel
theorem dL_law_390 : decode cL_law 390 = .ok (.i2l, 1) := by decide +kernel
theorem dL_law_391 : decode cL_law 391 = .ok (.lcmp, 1) := by decide +kernel
theorem dL_law_392 : decode cL_law 392 = .ok (.ifCond .eq 5, 3) := by decide +kernel
theorem dL_law_395 : decode cL_law 395 = .ok (.iconst 0, 1) := by decide +kernel
theorem dL_law_396 : decode cL_law 396 = .ok (.ireturn, 1) := by decide +kernel
theorem dL_law_397 : decode cL_law 397 = .ok (.goto 787, 3) := by decide +kernel
theorem dL_law_400 : decode cL_law 400 = .ok (.aload_n 1, 1) := by decide +kernel
theorem dL_law_401 : decode cL_law 401 = .ok (.aload_n 0, 1) := by decide +kernel
theorem dL_law_402 : decode cL_law 402 = .ok (.iload 4, 2) := by decide +kernel
theorem dL_law_404 : decode cL_law 404 = .ok (.iconst 1, 1) := by decide +kernel
theorem dL_law_405 : decode cL_law 405 = .ok (.iadd, 1) := by decide +kernel
theorem dL_law_406 : decode cL_law 406 = .ok (.iaload, 1) := by decide +kernel
theorem dL_law_407 : decode cL_law 407 = .ok (.aload_n 0, 1) := by decide +kernel
theorem dL_law_408 : decode cL_law 408 = .ok (.iload 4, 2) := by decide +kernel
theorem dL_law_410 : decode cL_law 410 = .ok (.iconst 2, 1) := by decide +kernel
theorem dL_law_411 : decode cL_law 411 = .ok (.iadd, 1) := by decide +kernel
theorem dL_law_412 : decode cL_law 412 = .ok (.iaload, 1) := by decide +kernel
theorem dL_law_413 : decode cL_law 413 = .ok (.aload_n 3, 1) := by decide +kernel
theorem dL_law_414 : decode cL_law 414 = .ok (.invokestatic 93, 3) := by decide +kernel
theorem dL_law_417 : decode cL_law 417 = .ok (.istore 5, 2) := by decide +kernel
theorem dL_law_419 : decode cL_law 419 = .ok (.aload_n 2, 1) := by decide +kernel
theorem dL_law_420 : decode cL_law 420 = .ok (.aload_n 0, 1) := by decide +kernel
theorem dL_law_421 : decode cL_law 421 = .ok (.iload 4, 2) := by decide +kernel
theorem dL_law_423 : decode cL_law 423 = .ok (.iconst 1, 1) := by decide +kernel
theorem dL_law_424 : decode cL_law 424 = .ok (.iadd, 1) := by decide +kernel
theorem dL_law_425 : decode cL_law 425 = .ok (.iaload, 1) := by decide +kernel
theorem dL_law_426 : decode cL_law 426 = .ok (.aload_n 0, 1) := by decide +kernel
theorem dL_law_427 : decode cL_law 427 = .ok (.iload 4, 2) := by decide +kernel
theorem dL_law_429 : decode cL_law 429 = .ok (.iconst 2, 1) := by decide +kernel
theorem dL_law_430 : decode cL_law 430 = .ok (.iadd, 1) := by decide +kernel
theorem dL_law_431 : decode cL_law 431 = .ok (.iaload, 1) := by decide +kernel
theorem dL_law_432 : decode cL_law 432 = .ok (.invokevirtual 95, 3) := by decide +kernel
theorem dL_law_435 : decode cL_law 435 = .ok (.istore 6, 2) := by decide +kernel
theorem dL_law_437 : decode cL_law 437 = .ok (.aload_n 2, 1) := by decide +kernel
theorem dL_law_438 : decode cL_law 438 = .ok (.invokevirtual 78, 3) := by decide +kernel
theorem dL_law_441 : decode cL_law 441 = .ok (.iload 5, 2) := by decide +kernel
theorem dL_law_443 : decode cL_law 443 = .ok (.if_icmp .eq 5, 3) := by decide +kernel
theorem dL_law_446 : decode cL_law 446 = .ok (.iconst 0, 1) := by decide +kernel
theorem dL_law_447 : decode cL_law 447 = .ok (.ireturn, 1) := by decide +kernel
theorem dL_law_448 : decode cL_law 448 = .ok (.iload 5, 2) := by decide +kernel
theorem dL_law_450 : decode cL_law 450 = .ok (.ifCond .ne 15, 3) := by decide +kernel
theorem dL_law_453 : decode cL_law 453 = .ok (.aload_n 3, 1) := by decide +kernel
theorem dL_law_454 : decode cL_law 454 = .ok (.iconst 0, 1) := by decide +kernel
theorem dL_law_455 : decode cL_law 455 = .ok (.laload, 1) := by decide +kernel
theorem dL_law_456 : decode cL_law 456 = .ok (.iload 6, 2) := by decide +kernel
theorem dL_law_458 : decode cL_law 458 = .ok (.i2l, 1) := by decide +kernel
theorem dL_law_459 : decode cL_law 459 = .ok (.lcmp, 1) := by decide +kernel
theorem dL_law_460 : decode cL_law 460 = .ok (.ifCond .eq 5, 3) := by decide +kernel
theorem dL_law_463 : decode cL_law 463 = .ok (.iconst 0, 1) := by decide +kernel
theorem dL_law_464 : decode cL_law 464 = .ok (.ireturn, 1) := by decide +kernel
theorem dL_law_465 : decode cL_law 465 = .ok (.goto 719, 3) := by decide +kernel
theorem dL_law_468 : decode cL_law 468 = .ok (.aload_n 1, 1) := by decide +kernel
theorem dL_law_469 : decode cL_law 469 = .ok (.aload_n 0, 1) := by decide +kernel
theorem dL_law_470 : decode cL_law 470 = .ok (.iload 4, 2) := by decide +kernel
theorem dL_law_472 : decode cL_law 472 = .ok (.iconst 1, 1) := by decide +kernel
theorem dL_law_473 : decode cL_law 473 = .ok (.iadd, 1) := by decide +kernel
theorem dL_law_474 : decode cL_law 474 = .ok (.iaload, 1) := by decide +kernel
theorem dL_law_475 : decode cL_law 475 = .ok (.aload_n 0, 1) := by decide +kernel
theorem dL_law_476 : decode cL_law 476 = .ok (.iload 4, 2) := by decide +kernel
theorem dL_law_478 : decode cL_law 478 = .ok (.iconst 2, 1) := by decide +kernel
theorem dL_law_479 : decode cL_law 479 = .ok (.iadd, 1) := by decide +kernel
theorem dL_law_480 : decode cL_law 480 = .ok (.iaload, 1) := by decide +kernel
theorem dL_law_481 : decode cL_law 481 = .ok (.aload_n 3, 1) := by decide +kernel
theorem dL_law_482 : decode cL_law 482 = .ok (.invokestatic 96, 3) := by decide +kernel
theorem dL_law_485 : decode cL_law 485 = .ok (.istore 5, 2) := by decide +kernel
theorem dL_law_487 : decode cL_law 487 = .ok (.aload_n 2, 1) := by decide +kernel
theorem dL_law_488 : decode cL_law 488 = .ok (.aload_n 0, 1) := by decide +kernel
theorem dL_law_489 : decode cL_law 489 = .ok (.iload 4, 2) := by decide +kernel
theorem dL_law_491 : decode cL_law 491 = .ok (.iconst 1, 1) := by decide +kernel
theorem dL_law_492 : decode cL_law 492 = .ok (.iadd, 1) := by decide +kernel
theorem dL_law_493 : decode cL_law 493 = .ok (.iaload, 1) := by decide +kernel
theorem dL_law_494 : decode cL_law 494 = .ok (.aload_n 0, 1) := by decide +kernel
theorem dL_law_495 : decode cL_law 495 = .ok (.iload 4, 2) := by decide +kernel
theorem dL_law_497 : decode cL_law 497 = .ok (.iconst 2, 1) := by decide +kernel
theorem dL_law_498 : decode cL_law 498 = .ok (.iadd, 1) := by decide +kernel
theorem dL_law_499 : decode cL_law 499 = .ok (.iaload, 1) := by decide +kernel
theorem dL_law_500 : decode cL_law 500 = .ok (.invokevirtual 98, 3) := by decide +kernel
theorem dL_law_503 : decode cL_law 503 = .ok (.istore 6, 2) := by decide +kernel
theorem dL_law_505 : decode cL_law 505 = .ok (.aload_n 2, 1) := by decide +kernel
theorem dL_law_506 : decode cL_law 506 = .ok (.invokevirtual 78, 3) := by decide +kernel
theorem dL_law_509 : decode cL_law 509 = .ok (.iload 5, 2) := by decide +kernel
theorem dL_law_511 : decode cL_law 511 = .ok (.if_icmp .eq 5, 3) := by decide +kernel
theorem dL_law_514 : decode cL_law 514 = .ok (.iconst 0, 1) := by decide +kernel
theorem dL_law_515 : decode cL_law 515 = .ok (.ireturn, 1) := by decide +kernel
theorem dL_law_516 : decode cL_law 516 = .ok (.iload 5, 2) := by decide +kernel
theorem dL_law_518 : decode cL_law 518 = .ok (.ifCond .ne 15, 3) := by decide +kernel
theorem dL_law_521 : decode cL_law 521 = .ok (.aload_n 3, 1) := by decide +kernel
theorem dL_law_522 : decode cL_law 522 = .ok (.iconst 0, 1) := by decide +kernel
theorem dL_law_523 : decode cL_law 523 = .ok (.laload, 1) := by decide +kernel
theorem dL_law_524 : decode cL_law 524 = .ok (.iload 6, 2) := by decide +kernel
theorem dL_law_526 : decode cL_law 526 = .ok (.i2l, 1) := by decide +kernel
theorem dL_law_527 : decode cL_law 527 = .ok (.lcmp, 1) := by decide +kernel
theorem dL_law_528 : decode cL_law 528 = .ok (.ifCond .eq 5, 3) := by decide +kernel
theorem dL_law_531 : decode cL_law 531 = .ok (.iconst 0, 1) := by decide +kernel
theorem dL_law_532 : decode cL_law 532 = .ok (.ireturn, 1) := by decide +kernel
theorem dL_law_533 : decode cL_law 533 = .ok (.goto 651, 3) := by decide +kernel
theorem dL_law_536 : decode cL_law 536 = .ok (.aload_n 1, 1) := by decide +kernel
theorem dL_law_537 : decode cL_law 537 = .ok (.aload_n 0, 1) := by decide +kernel
theorem dL_law_538 : decode cL_law 538 = .ok (.iload 4, 2) := by decide +kernel
theorem dL_law_540 : decode cL_law 540 = .ok (.iconst 1, 1) := by decide +kernel
theorem dL_law_541 : decode cL_law 541 = .ok (.iadd, 1) := by decide +kernel
theorem dL_law_542 : decode cL_law 542 = .ok (.iaload, 1) := by decide +kernel
theorem dL_law_543 : decode cL_law 543 = .ok (.aload_n 0, 1) := by decide +kernel
theorem dL_law_544 : decode cL_law 544 = .ok (.iload 4, 2) := by decide +kernel
theorem dL_law_546 : decode cL_law 546 = .ok (.iconst 2, 1) := by decide +kernel
theorem dL_law_547 : decode cL_law 547 = .ok (.iadd, 1) := by decide +kernel
theorem dL_law_548 : decode cL_law 548 = .ok (.iaload, 1) := by decide +kernel
theorem dL_law_549 : decode cL_law 549 = .ok (.aload_n 3, 1) := by decide +kernel
theorem dL_law_550 : decode cL_law 550 = .ok (.invokestatic 99, 3) := by decide +kernel
theorem dL_law_553 : decode cL_law 553 = .ok (.istore 5, 2) := by decide +kernel
theorem dL_law_555 : decode cL_law 555 = .ok (.aload_n 2, 1) := by decide +kernel
theorem dL_law_556 : decode cL_law 556 = .ok (.aload_n 0, 1) := by decide +kernel
theorem dL_law_557 : decode cL_law 557 = .ok (.iload 4, 2) := by decide +kernel
theorem dL_law_559 : decode cL_law 559 = .ok (.iconst 1, 1) := by decide +kernel
theorem dL_law_560 : decode cL_law 560 = .ok (.iadd, 1) := by decide +kernel
theorem dL_law_561 : decode cL_law 561 = .ok (.iaload, 1) := by decide +kernel
theorem dL_law_562 : decode cL_law 562 = .ok (.aload_n 0, 1) := by decide +kernel
theorem dL_law_563 : decode cL_law 563 = .ok (.iload 4, 2) := by decide +kernel
theorem dL_law_565 : decode cL_law 565 = .ok (.iconst 2, 1) := by decide +kernel
theorem dL_law_566 : decode cL_law 566 = .ok (.iadd, 1) := by decide +kernel
theorem dL_law_567 : decode cL_law 567 = .ok (.iaload, 1) := by decide +kernel
theorem dL_law_568 : decode cL_law 568 = .ok (.invokevirtual 101, 3) := by decide +kernel
theorem dL_law_571 : decode cL_law 571 = .ok (.istore 6, 2) := by decide +kernel
theorem dL_law_573 : decode cL_law 573 = .ok (.aload_n 2, 1) := by decide +kernel
theorem dL_law_574 : decode cL_law 574 = .ok (.invokevirtual 78, 3) := by decide +kernel
theorem dL_law_577 : decode cL_law 577 = .ok (.iload 5, 2) := by decide +kernel
theorem dL_law_579 : decode cL_law 579 = .ok (.if_icmp .eq 5, 3) := by decide +kernel
theorem dL_law_582 : decode cL_law 582 = .ok (.iconst 0, 1) := by decide +kernel
theorem dL_law_583 : decode cL_law 583 = .ok (.ireturn, 1) := by decide +kernel
theorem dL_law_584 : decode cL_law 584 = .ok (.iload 5, 2) := by decide +kernel
theorem dL_law_586 : decode cL_law 586 = .ok (.ifCond .ne 15, 3) := by decide +kernel
theorem dL_law_589 : decode cL_law 589 = .ok (.aload_n 3, 1) := by decide +kernel
theorem dL_law_590 : decode cL_law 590 = .ok (.iconst 0, 1) := by decide +kernel
theorem dL_law_591 : decode cL_law 591 = .ok (.laload, 1) := by decide +kernel
theorem dL_law_592 : decode cL_law 592 = .ok (.iload 6, 2) := by decide +kernel
theorem dL_law_594 : decode cL_law 594 = .ok (.i2l, 1) := by decide +kernel
theorem dL_law_595 : decode cL_law 595 = .ok (.lcmp, 1) := by decide +kernel
theorem dL_law_596 : decode cL_law 596 = .ok (.ifCond .eq 5, 3) := by decide +kernel
theorem dL_law_599 : decode cL_law 599 = .ok (.iconst 0, 1) := by decide +kernel
theorem dL_law_600 : decode cL_law 600 = .ok (.ireturn, 1) := by decide +kernel
theorem dL_law_601 : decode cL_law 601 = .ok (.goto 583, 3) := by decide +kernel
theorem dL_law_604 : decode cL_law 604 = .ok (.aload_n 1, 1) := by decide +kernel
theorem dL_law_605 : decode cL_law 605 = .ok (.aload_n 0, 1) := by decide +kernel
theorem dL_law_606 : decode cL_law 606 = .ok (.iload 4, 2) := by decide +kernel
theorem dL_law_608 : decode cL_law 608 = .ok (.iconst 1, 1) := by decide +kernel
theorem dL_law_609 : decode cL_law 609 = .ok (.iadd, 1) := by decide +kernel
theorem dL_law_610 : decode cL_law 610 = .ok (.iaload, 1) := by decide +kernel
theorem dL_law_611 : decode cL_law 611 = .ok (.aload_n 0, 1) := by decide +kernel
theorem dL_law_612 : decode cL_law 612 = .ok (.iload 4, 2) := by decide +kernel
theorem dL_law_614 : decode cL_law 614 = .ok (.iconst 2, 1) := by decide +kernel
theorem dL_law_615 : decode cL_law 615 = .ok (.iadd, 1) := by decide +kernel
theorem dL_law_616 : decode cL_law 616 = .ok (.iaload, 1) := by decide +kernel
theorem dL_law_617 : decode cL_law 617 = .ok (.aload_n 3, 1) := by decide +kernel
theorem dL_law_618 : decode cL_law 618 = .ok (.invokestatic 102, 3) := by decide +kernel
theorem dL_law_621 : decode cL_law 621 = .ok (.istore 5, 2) := by decide +kernel
theorem dL_law_623 : decode cL_law 623 = .ok (.aload_n 2, 1) := by decide +kernel
theorem dL_law_624 : decode cL_law 624 = .ok (.aload_n 0, 1) := by decide +kernel
theorem dL_law_625 : decode cL_law 625 = .ok (.iload 4, 2) := by decide +kernel
theorem dL_law_627 : decode cL_law 627 = .ok (.iconst 1, 1) := by decide +kernel
theorem dL_law_628 : decode cL_law 628 = .ok (.iadd, 1) := by decide +kernel
theorem dL_law_629 : decode cL_law 629 = .ok (.iaload, 1) := by decide +kernel
theorem dL_law_630 : decode cL_law 630 = .ok (.aload_n 0, 1) := by decide +kernel
theorem dL_law_631 : decode cL_law 631 = .ok (.iload 4, 2) := by decide +kernel
theorem dL_law_633 : decode cL_law 633 = .ok (.iconst 2, 1) := by decide +kernel
theorem dL_law_634 : decode cL_law 634 = .ok (.iadd, 1) := by decide +kernel
theorem dL_law_635 : decode cL_law 635 = .ok (.iaload, 1) := by decide +kernel
theorem dL_law_636 : decode cL_law 636 = .ok (.invokevirtual 104, 3) := by decide +kernel
theorem dL_law_639 : decode cL_law 639 = .ok (.istore 6, 2) := by decide +kernel
theorem dL_law_641 : decode cL_law 641 = .ok (.aload_n 2, 1) := by decide +kernel
theorem dL_law_642 : decode cL_law 642 = .ok (.invokevirtual 78, 3) := by decide +kernel
theorem dL_law_645 : decode cL_law 645 = .ok (.iload 5, 2) := by decide +kernel
theorem dL_law_647 : decode cL_law 647 = .ok (.if_icmp .eq 5, 3) := by decide +kernel
theorem dL_law_650 : decode cL_law 650 = .ok (.iconst 0, 1) := by decide +kernel
theorem dL_law_651 : decode cL_law 651 = .ok (.ireturn, 1) := by decide +kernel
theorem dL_law_652 : decode cL_law 652 = .ok (.iload 5, 2) := by decide +kernel
theorem dL_law_654 : decode cL_law 654 = .ok (.ifCond .ne 15, 3) := by decide +kernel
theorem dL_law_657 : decode cL_law 657 = .ok (.aload_n 3, 1) := by decide +kernel
theorem dL_law_658 : decode cL_law 658 = .ok (.iconst 0, 1) := by decide +kernel
theorem dL_law_659 : decode cL_law 659 = .ok (.laload, 1) := by decide +kernel
theorem dL_law_660 : decode cL_law 660 = .ok (.iload 6, 2) := by decide +kernel
theorem dL_law_662 : decode cL_law 662 = .ok (.i2l, 1) := by decide +kernel
theorem dL_law_663 : decode cL_law 663 = .ok (.lcmp, 1) := by decide +kernel
theorem dL_law_664 : decode cL_law 664 = .ok (.ifCond .eq 5, 3) := by decide +kernel
theorem dL_law_667 : decode cL_law 667 = .ok (.iconst 0, 1) := by decide +kernel
theorem dL_law_668 : decode cL_law 668 = .ok (.ireturn, 1) := by decide +kernel
theorem dL_law_669 : decode cL_law 669 = .ok (.goto 515, 3) := by decide +kernel
theorem dL_law_672 : decode cL_law 672 = .ok (.aload_n 1, 1) := by decide +kernel
theorem dL_law_673 : decode cL_law 673 = .ok (.aload_n 0, 1) := by decide +kernel
theorem dL_law_674 : decode cL_law 674 = .ok (.iload 4, 2) := by decide +kernel
theorem dL_law_676 : decode cL_law 676 = .ok (.iconst 1, 1) := by decide +kernel
theorem dL_law_677 : decode cL_law 677 = .ok (.iadd, 1) := by decide +kernel
theorem dL_law_678 : decode cL_law 678 = .ok (.iaload, 1) := by decide +kernel
theorem dL_law_679 : decode cL_law 679 = .ok (.aload_n 0, 1) := by decide +kernel
theorem dL_law_680 : decode cL_law 680 = .ok (.iload 4, 2) := by decide +kernel
theorem dL_law_682 : decode cL_law 682 = .ok (.iconst 2, 1) := by decide +kernel
theorem dL_law_683 : decode cL_law 683 = .ok (.iadd, 1) := by decide +kernel
theorem dL_law_684 : decode cL_law 684 = .ok (.iaload, 1) := by decide +kernel
theorem dL_law_685 : decode cL_law 685 = .ok (.ifCond .eq 7, 3) := by decide +kernel
theorem dL_law_688 : decode cL_law 688 = .ok (.iconst 1, 1) := by decide +kernel
theorem dL_law_689 : decode cL_law 689 = .ok (.goto 4, 3) := by decide +kernel
theorem dL_law_692 : decode cL_law 692 = .ok (.iconst 0, 1) := by decide +kernel
theorem dL_law_693 : decode cL_law 693 = .ok (.aload_n 3, 1) := by decide +kernel
theorem dL_law_694 : decode cL_law 694 = .ok (.invokestatic 105, 3) := by decide +kernel
theorem dL_law_697 : decode cL_law 697 = .ok (.istore 5, 2) := by decide +kernel
theorem dL_law_699 : decode cL_law 699 = .ok (.aload_n 2, 1) := by decide +kernel
theorem dL_law_700 : decode cL_law 700 = .ok (.aload_n 0, 1) := by decide +kernel
theorem dL_law_701 : decode cL_law 701 = .ok (.iload 4, 2) := by decide +kernel
theorem dL_law_703 : decode cL_law 703 = .ok (.iconst 1, 1) := by decide +kernel
theorem dL_law_704 : decode cL_law 704 = .ok (.iadd, 1) := by decide +kernel
theorem dL_law_705 : decode cL_law 705 = .ok (.iaload, 1) := by decide +kernel
theorem dL_law_706 : decode cL_law 706 = .ok (.aload_n 0, 1) := by decide +kernel
theorem dL_law_707 : decode cL_law 707 = .ok (.iload 4, 2) := by decide +kernel
theorem dL_law_709 : decode cL_law 709 = .ok (.iconst 2, 1) := by decide +kernel
theorem dL_law_710 : decode cL_law 710 = .ok (.iadd, 1) := by decide +kernel
theorem dL_law_711 : decode cL_law 711 = .ok (.iaload, 1) := by decide +kernel
theorem dL_law_712 : decode cL_law 712 = .ok (.ifCond .eq 7, 3) := by decide +kernel
theorem dL_law_715 : decode cL_law 715 = .ok (.iconst 1, 1) := by decide +kernel
theorem dL_law_716 : decode cL_law 716 = .ok (.goto 4, 3) := by decide +kernel
theorem dL_law_719 : decode cL_law 719 = .ok (.iconst 0, 1) := by decide +kernel
theorem dL_law_720 : decode cL_law 720 = .ok (.invokevirtual 108, 3) := by decide +kernel
theorem dL_law_723 : decode cL_law 723 = .ok (.istore 6, 2) := by decide +kernel
theorem dL_law_725 : decode cL_law 725 = .ok (.aload_n 2, 1) := by decide +kernel
theorem dL_law_726 : decode cL_law 726 = .ok (.invokevirtual 78, 3) := by decide +kernel
theorem dL_law_729 : decode cL_law 729 = .ok (.iload 5, 2) := by decide +kernel
theorem dL_law_731 : decode cL_law 731 = .ok (.if_icmp .eq 5, 3) := by decide +kernel
theorem dL_law_734 : decode cL_law 734 = .ok (.iconst 0, 1) := by decide +kernel
theorem dL_law_735 : decode cL_law 735 = .ok (.ireturn, 1) := by decide +kernel
theorem dL_law_736 : decode cL_law 736 = .ok (.iload 5, 2) := by decide +kernel
theorem dL_law_738 : decode cL_law 738 = .ok (.ifCond .ne 15, 3) := by decide +kernel
theorem dL_law_741 : decode cL_law 741 = .ok (.aload_n 3, 1) := by decide +kernel
theorem dL_law_742 : decode cL_law 742 = .ok (.iconst 0, 1) := by decide +kernel
theorem dL_law_743 : decode cL_law 743 = .ok (.laload, 1) := by decide +kernel
theorem dL_law_744 : decode cL_law 744 = .ok (.iload 6, 2) := by decide +kernel
theorem dL_law_746 : decode cL_law 746 = .ok (.i2l, 1) := by decide +kernel
theorem dL_law_747 : decode cL_law 747 = .ok (.lcmp, 1) := by decide +kernel
theorem dL_law_748 : decode cL_law 748 = .ok (.ifCond .eq 5, 3) := by decide +kernel
theorem dL_law_751 : decode cL_law 751 = .ok (.iconst 0, 1) := by decide +kernel
theorem dL_law_752 : decode cL_law 752 = .ok (.ireturn, 1) := by decide +kernel
theorem dL_law_753 : decode cL_law 753 = .ok (.goto 431, 3) := by decide +kernel
theorem dL_law_756 : decode cL_law 756 = .ok (.aload_n 1, 1) := by decide +kernel
theorem dL_law_757 : decode cL_law 757 = .ok (.aload_n 0, 1) := by decide +kernel
theorem dL_law_758 : decode cL_law 758 = .ok (.iload 4, 2) := by decide +kernel
theorem dL_law_760 : decode cL_law 760 = .ok (.iconst 1, 1) := by decide +kernel
theorem dL_law_761 : decode cL_law 761 = .ok (.iadd, 1) := by decide +kernel
theorem dL_law_762 : decode cL_law 762 = .ok (.iaload, 1) := by decide +kernel
theorem dL_law_763 : decode cL_law 763 = .ok (.aload_n 3, 1) := by decide +kernel
theorem dL_law_764 : decode cL_law 764 = .ok (.invokestatic 109, 3) := by decide +kernel
theorem dL_law_767 : decode cL_law 767 = .ok (.istore 5, 2) := by decide +kernel
theorem dL_law_769 : decode cL_law 769 = .ok (.aload_n 2, 1) := by decide +kernel
theorem dL_law_770 : decode cL_law 770 = .ok (.aload_n 0, 1) := by decide +kernel
theorem dL_law_771 : decode cL_law 771 = .ok (.iload 4, 2) := by decide +kernel
theorem dL_law_773 : decode cL_law 773 = .ok (.iconst 1, 1) := by decide +kernel
theorem dL_law_774 : decode cL_law 774 = .ok (.iadd, 1) := by decide +kernel
theorem dL_law_775 : decode cL_law 775 = .ok (.iaload, 1) := by decide +kernel
theorem dL_law_776 : decode cL_law 776 = .ok (.invokevirtual 111, 3) := by decide +kernel
theorem dL_law_779 : decode cL_law 779 = .ok (.istore 6, 2) := by decide +kernel
theorem dL_law_781 : decode cL_law 781 = .ok (.aload_n 2, 1) := by decide +kernel
theorem dL_law_782 : decode cL_law 782 = .ok (.invokevirtual 78, 3) := by decide +kernel
theorem dL_law_785 : decode cL_law 785 = .ok (.iload 5, 2) := by decide +kernel
theorem dL_law_787 : decode cL_law 787 = .ok (.if_icmp .eq 5, 3) := by decide +kernel
theorem dL_law_790 : decode cL_law 790 = .ok (.iconst 0, 1) := by decide +kernel
theorem dL_law_791 : decode cL_law 791 = .ok (.ireturn, 1) := by decide +kernel
theorem dL_law_792 : decode cL_law 792 = .ok (.iload 5, 2) := by decide +kernel
theorem dL_law_794 : decode cL_law 794 = .ok (.ifCond .ne 15, 3) := by decide +kernel
theorem dL_law_797 : decode cL_law 797 = .ok (.aload_n 3, 1) := by decide +kernel
theorem dL_law_798 : decode cL_law 798 = .ok (.iconst 0, 1) := by decide +kernel
theorem dL_law_799 : decode cL_law 799 = .ok (.laload, 1) := by decide +kernel
theorem dL_law_800 : decode cL_law 800 = .ok (.iload 6, 2) := by decide +kernel
theorem dL_law_802 : decode cL_law 802 = .ok (.i2l, 1) := by decide +kernel
theorem dL_law_803 : decode cL_law 803 = .ok (.lcmp, 1) := by decide +kernel
theorem dL_law_804 : decode cL_law 804 = .ok (.ifCond .eq 5, 3) := by decide +kernel
theorem dL_law_807 : decode cL_law 807 = .ok (.iconst 0, 1) := by decide +kernel
theorem dL_law_808 : decode cL_law 808 = .ok (.ireturn, 1) := by decide +kernel
theorem dL_law_809 : decode cL_law 809 = .ok (.goto 375, 3) := by decide +kernel
theorem dL_law_812 : decode cL_law 812 = .ok (.aload_n 1, 1) := by decide +kernel
theorem dL_law_813 : decode cL_law 813 = .ok (.aload_n 0, 1) := by decide +kernel
theorem dL_law_814 : decode cL_law 814 = .ok (.iload 4, 2) := by decide +kernel
theorem dL_law_816 : decode cL_law 816 = .ok (.iconst 1, 1) := by decide +kernel
theorem dL_law_817 : decode cL_law 817 = .ok (.iadd, 1) := by decide +kernel
theorem dL_law_818 : decode cL_law 818 = .ok (.iaload, 1) := by decide +kernel
theorem dL_law_819 : decode cL_law 819 = .ok (.aload_n 3, 1) := by decide +kernel
theorem dL_law_820 : decode cL_law 820 = .ok (.invokestatic 112, 3) := by decide +kernel
theorem dL_law_823 : decode cL_law 823 = .ok (.istore 5, 2) := by decide +kernel
theorem dL_law_825 : decode cL_law 825 = .ok (.aload_n 2, 1) := by decide +kernel
theorem dL_law_826 : decode cL_law 826 = .ok (.aload_n 0, 1) := by decide +kernel
theorem dL_law_827 : decode cL_law 827 = .ok (.iload 4, 2) := by decide +kernel
theorem dL_law_829 : decode cL_law 829 = .ok (.iconst 1, 1) := by decide +kernel
theorem dL_law_830 : decode cL_law 830 = .ok (.iadd, 1) := by decide +kernel
theorem dL_law_831 : decode cL_law 831 = .ok (.iaload, 1) := by decide +kernel
theorem dL_law_832 : decode cL_law 832 = .ok (.invokevirtual 114, 3) := by decide +kernel
theorem dL_law_835 : decode cL_law 835 = .ok (.istore 6, 2) := by decide +kernel
theorem dL_law_837 : decode cL_law 837 = .ok (.aload_n 2, 1) := by decide +kernel
theorem dL_law_838 : decode cL_law 838 = .ok (.invokevirtual 78, 3) := by decide +kernel
theorem dL_law_841 : decode cL_law 841 = .ok (.iload 5, 2) := by decide +kernel
theorem dL_law_843 : decode cL_law 843 = .ok (.if_icmp .eq 5, 3) := by decide +kernel
theorem dL_law_846 : decode cL_law 846 = .ok (.iconst 0, 1) := by decide +kernel
theorem dL_law_847 : decode cL_law 847 = .ok (.ireturn, 1) := by decide +kernel
theorem dL_law_848 : decode cL_law 848 = .ok (.iload 5, 2) := by decide +kernel
theorem dL_law_850 : decode cL_law 850 = .ok (.ifCond .ne 15, 3) := by decide +kernel
theorem dL_law_853 : decode cL_law 853 = .ok (.aload_n 3, 1) := by decide +kernel
theorem dL_law_854 : decode cL_law 854 = .ok (.iconst 0, 1) := by decide +kernel
theorem dL_law_855 : decode cL_law 855 = .ok (.laload, 1) := by decide +kernel
theorem dL_law_856 : decode cL_law 856 = .ok (.iload 6, 2) := by decide +kernel
theorem dL_law_858 : decode cL_law 858 = .ok (.i2l, 1) := by decide +kernel
theorem dL_law_859 : decode cL_law 859 = .ok (.lcmp, 1) := by decide +kernel
theorem dL_law_860 : decode cL_law 860 = .ok (.ifCond .eq 5, 3) := by decide +kernel
theorem dL_law_863 : decode cL_law 863 = .ok (.iconst 0, 1) := by decide +kernel
theorem dL_law_864 : decode cL_law 864 = .ok (.ireturn, 1) := by decide +kernel
theorem dL_law_865 : decode cL_law 865 = .ok (.goto 319, 3) := by decide +kernel
theorem dL_law_868 : decode cL_law 868 = .ok (.aload_n 1, 1) := by decide +kernel
theorem dL_law_869 : decode cL_law 869 = .ok (.aload_n 0, 1) := by decide +kernel
theorem dL_law_870 : decode cL_law 870 = .ok (.iload 4, 2) := by decide +kernel
theorem dL_law_872 : decode cL_law 872 = .ok (.iconst 1, 1) := by decide +kernel
theorem dL_law_873 : decode cL_law 873 = .ok (.iadd, 1) := by decide +kernel
theorem dL_law_874 : decode cL_law 874 = .ok (.iaload, 1) := by decide +kernel
theorem dL_law_875 : decode cL_law 875 = .ok (.aload_n 0, 1) := by decide +kernel
theorem dL_law_876 : decode cL_law 876 = .ok (.iload 4, 2) := by decide +kernel
theorem dL_law_878 : decode cL_law 878 = .ok (.iconst 2, 1) := by decide +kernel
theorem dL_law_879 : decode cL_law 879 = .ok (.iadd, 1) := by decide +kernel
theorem dL_law_880 : decode cL_law 880 = .ok (.iaload, 1) := by decide +kernel
theorem dL_law_881 : decode cL_law 881 = .ok (.aload_n 3, 1) := by decide +kernel
theorem dL_law_882 : decode cL_law 882 = .ok (.invokestatic 115, 3) := by decide +kernel
theorem dL_law_885 : decode cL_law 885 = .ok (.istore 5, 2) := by decide +kernel
theorem dL_law_887 : decode cL_law 887 = .ok (.aload_n 2, 1) := by decide +kernel
theorem dL_law_888 : decode cL_law 888 = .ok (.aload_n 0, 1) := by decide +kernel
theorem dL_law_889 : decode cL_law 889 = .ok (.iload 4, 2) := by decide +kernel
theorem dL_law_891 : decode cL_law 891 = .ok (.iconst 1, 1) := by decide +kernel
theorem dL_law_892 : decode cL_law 892 = .ok (.iadd, 1) := by decide +kernel
theorem dL_law_893 : decode cL_law 893 = .ok (.iaload, 1) := by decide +kernel
theorem dL_law_894 : decode cL_law 894 = .ok (.aload_n 0, 1) := by decide +kernel
theorem dL_law_895 : decode cL_law 895 = .ok (.iload 4, 2) := by decide +kernel
theorem dL_law_897 : decode cL_law 897 = .ok (.iconst 2, 1) := by decide +kernel
theorem dL_law_898 : decode cL_law 898 = .ok (.iadd, 1) := by decide +kernel
theorem dL_law_899 : decode cL_law 899 = .ok (.iaload, 1) := by decide +kernel
theorem dL_law_900 : decode cL_law 900 = .ok (.invokevirtual 117, 3) := by decide +kernel
theorem dL_law_903 : decode cL_law 903 = .ok (.istore 6, 2) := by decide +kernel
theorem dL_law_905 : decode cL_law 905 = .ok (.aload_n 2, 1) := by decide +kernel
theorem dL_law_906 : decode cL_law 906 = .ok (.invokevirtual 78, 3) := by decide +kernel
theorem dL_law_909 : decode cL_law 909 = .ok (.iload 5, 2) := by decide +kernel
theorem dL_law_911 : decode cL_law 911 = .ok (.if_icmp .eq 5, 3) := by decide +kernel
theorem dL_law_914 : decode cL_law 914 = .ok (.iconst 0, 1) := by decide +kernel
theorem dL_law_915 : decode cL_law 915 = .ok (.ireturn, 1) := by decide +kernel
theorem dL_law_916 : decode cL_law 916 = .ok (.iload 5, 2) := by decide +kernel
theorem dL_law_918 : decode cL_law 918 = .ok (.ifCond .ne 15, 3) := by decide +kernel
theorem dL_law_921 : decode cL_law 921 = .ok (.aload_n 3, 1) := by decide +kernel
theorem dL_law_922 : decode cL_law 922 = .ok (.iconst 0, 1) := by decide +kernel
theorem dL_law_923 : decode cL_law 923 = .ok (.laload, 1) := by decide +kernel
theorem dL_law_924 : decode cL_law 924 = .ok (.iload 6, 2) := by decide +kernel
theorem dL_law_926 : decode cL_law 926 = .ok (.i2l, 1) := by decide +kernel
theorem dL_law_927 : decode cL_law 927 = .ok (.lcmp, 1) := by decide +kernel
theorem dL_law_928 : decode cL_law 928 = .ok (.ifCond .eq 5, 3) := by decide +kernel
theorem dL_law_931 : decode cL_law 931 = .ok (.iconst 0, 1) := by decide +kernel
theorem dL_law_932 : decode cL_law 932 = .ok (.ireturn, 1) := by decide +kernel
theorem dL_law_933 : decode cL_law 933 = .ok (.goto 251, 3) := by decide +kernel
theorem dL_law_936 : decode cL_law 936 = .ok (.aload_n 1, 1) := by decide +kernel
theorem dL_law_937 : decode cL_law 937 = .ok (.aload_n 0, 1) := by decide +kernel
theorem dL_law_938 : decode cL_law 938 = .ok (.iload 4, 2) := by decide +kernel
theorem dL_law_940 : decode cL_law 940 = .ok (.iconst 1, 1) := by decide +kernel
theorem dL_law_941 : decode cL_law 941 = .ok (.iadd, 1) := by decide +kernel
theorem dL_law_942 : decode cL_law 942 = .ok (.iaload, 1) := by decide +kernel
theorem dL_law_943 : decode cL_law 943 = .ok (.aload_n 0, 1) := by decide +kernel
theorem dL_law_944 : decode cL_law 944 = .ok (.iload 4, 2) := by decide +kernel
theorem dL_law_946 : decode cL_law 946 = .ok (.iconst 2, 1) := by decide +kernel
theorem dL_law_947 : decode cL_law 947 = .ok (.iadd, 1) := by decide +kernel
theorem dL_law_948 : decode cL_law 948 = .ok (.iaload, 1) := by decide +kernel
theorem dL_law_949 : decode cL_law 949 = .ok (.aload_n 3, 1) := by decide +kernel
theorem dL_law_950 : decode cL_law 950 = .ok (.invokestatic 118, 3) := by decide +kernel
theorem dL_law_953 : decode cL_law 953 = .ok (.istore 5, 2) := by decide +kernel
theorem dL_law_955 : decode cL_law 955 = .ok (.aload_n 2, 1) := by decide +kernel
theorem dL_law_956 : decode cL_law 956 = .ok (.aload_n 0, 1) := by decide +kernel
theorem dL_law_957 : decode cL_law 957 = .ok (.iload 4, 2) := by decide +kernel
theorem dL_law_959 : decode cL_law 959 = .ok (.iconst 1, 1) := by decide +kernel
theorem dL_law_960 : decode cL_law 960 = .ok (.iadd, 1) := by decide +kernel
theorem dL_law_961 : decode cL_law 961 = .ok (.iaload, 1) := by decide +kernel
theorem dL_law_962 : decode cL_law 962 = .ok (.aload_n 0, 1) := by decide +kernel
theorem dL_law_963 : decode cL_law 963 = .ok (.iload 4, 2) := by decide +kernel
theorem dL_law_965 : decode cL_law 965 = .ok (.iconst 2, 1) := by decide +kernel
theorem dL_law_966 : decode cL_law 966 = .ok (.iadd, 1) := by decide +kernel
theorem dL_law_967 : decode cL_law 967 = .ok (.iaload, 1) := by decide +kernel
theorem dL_law_968 : decode cL_law 968 = .ok (.invokevirtual 120, 3) := by decide +kernel
theorem dL_law_971 : decode cL_law 971 = .ok (.istore 6, 2) := by decide +kernel
theorem dL_law_973 : decode cL_law 973 = .ok (.aload_n 2, 1) := by decide +kernel
theorem dL_law_974 : decode cL_law 974 = .ok (.invokevirtual 78, 3) := by decide +kernel
theorem dL_law_977 : decode cL_law 977 = .ok (.iload 5, 2) := by decide +kernel
theorem dL_law_979 : decode cL_law 979 = .ok (.if_icmp .eq 5, 3) := by decide +kernel
theorem dL_law_982 : decode cL_law 982 = .ok (.iconst 0, 1) := by decide +kernel
theorem dL_law_983 : decode cL_law 983 = .ok (.ireturn, 1) := by decide +kernel
theorem dL_law_984 : decode cL_law 984 = .ok (.iload 5, 2) := by decide +kernel
theorem dL_law_986 : decode cL_law 986 = .ok (.ifCond .ne 15, 3) := by decide +kernel
theorem dL_law_989 : decode cL_law 989 = .ok (.aload_n 3, 1) := by decide +kernel
theorem dL_law_990 : decode cL_law 990 = .ok (.iconst 0, 1) := by decide +kernel
theorem dL_law_991 : decode cL_law 991 = .ok (.laload, 1) := by decide +kernel
theorem dL_law_992 : decode cL_law 992 = .ok (.iload 6, 2) := by decide +kernel
theorem dL_law_994 : decode cL_law 994 = .ok (.i2l, 1) := by decide +kernel
theorem dL_law_995 : decode cL_law 995 = .ok (.lcmp, 1) := by decide +kernel
theorem dL_law_996 : decode cL_law 996 = .ok (.ifCond .eq 5, 3) := by decide +kernel
theorem dL_law_999 : decode cL_law 999 = .ok (.iconst 0, 1) := by decide +kernel
theorem dL_law_1000 : decode cL_law 1000 = .ok (.ireturn, 1) := by decide +kernel
theorem dL_law_1001 : decode cL_law 1001 = .ok (.goto 183, 3) := by decide +kernel
theorem dL_law_1004 : decode cL_law 1004 = .ok (.aload_n 1, 1) := by decide +kernel
theorem dL_law_1005 : decode cL_law 1005 = .ok (.aload_n 0, 1) := by decide +kernel
theorem dL_law_1006 : decode cL_law 1006 = .ok (.iload 4, 2) := by decide +kernel
theorem dL_law_1008 : decode cL_law 1008 = .ok (.iconst 1, 1) := by decide +kernel
theorem dL_law_1009 : decode cL_law 1009 = .ok (.iadd, 1) := by decide +kernel
theorem dL_law_1010 : decode cL_law 1010 = .ok (.iaload, 1) := by decide +kernel
theorem dL_law_1011 : decode cL_law 1011 = .ok (.aload_n 0, 1) := by decide +kernel
theorem dL_law_1012 : decode cL_law 1012 = .ok (.iload 4, 2) := by decide +kernel
theorem dL_law_1014 : decode cL_law 1014 = .ok (.iconst 2, 1) := by decide +kernel
theorem dL_law_1015 : decode cL_law 1015 = .ok (.iadd, 1) := by decide +kernel
theorem dL_law_1016 : decode cL_law 1016 = .ok (.iaload, 1) := by decide +kernel
theorem dL_law_1017 : decode cL_law 1017 = .ok (.aload_n 3, 1) := by decide +kernel
theorem dL_law_1018 : decode cL_law 1018 = .ok (.invokestatic 121, 3) := by decide +kernel
theorem dL_law_1021 : decode cL_law 1021 = .ok (.istore 5, 2) := by decide +kernel
theorem dL_law_1023 : decode cL_law 1023 = .ok (.aload_n 2, 1) := by decide +kernel
theorem dL_law_1024 : decode cL_law 1024 = .ok (.aload_n 0, 1) := by decide +kernel
theorem dL_law_1025 : decode cL_law 1025 = .ok (.iload 4, 2) := by decide +kernel
theorem dL_law_1027 : decode cL_law 1027 = .ok (.iconst 1, 1) := by decide +kernel
theorem dL_law_1028 : decode cL_law 1028 = .ok (.iadd, 1) := by decide +kernel
theorem dL_law_1029 : decode cL_law 1029 = .ok (.iaload, 1) := by decide +kernel
theorem dL_law_1030 : decode cL_law 1030 = .ok (.aload_n 0, 1) := by decide +kernel
theorem dL_law_1031 : decode cL_law 1031 = .ok (.iload 4, 2) := by decide +kernel
theorem dL_law_1033 : decode cL_law 1033 = .ok (.iconst 2, 1) := by decide +kernel
theorem dL_law_1034 : decode cL_law 1034 = .ok (.iadd, 1) := by decide +kernel
theorem dL_law_1035 : decode cL_law 1035 = .ok (.iaload, 1) := by decide +kernel
theorem dL_law_1036 : decode cL_law 1036 = .ok (.invokevirtual 123, 3) := by decide +kernel
theorem dL_law_1039 : decode cL_law 1039 = .ok (.istore 6, 2) := by decide +kernel
theorem dL_law_1041 : decode cL_law 1041 = .ok (.aload_n 2, 1) := by decide +kernel
theorem dL_law_1042 : decode cL_law 1042 = .ok (.invokevirtual 78, 3) := by decide +kernel
theorem dL_law_1045 : decode cL_law 1045 = .ok (.iload 5, 2) := by decide +kernel
theorem dL_law_1047 : decode cL_law 1047 = .ok (.if_icmp .eq 5, 3) := by decide +kernel
theorem dL_law_1050 : decode cL_law 1050 = .ok (.iconst 0, 1) := by decide +kernel
theorem dL_law_1051 : decode cL_law 1051 = .ok (.ireturn, 1) := by decide +kernel
theorem dL_law_1052 : decode cL_law 1052 = .ok (.iload 5, 2) := by decide +kernel
theorem dL_law_1054 : decode cL_law 1054 = .ok (.ifCond .ne 15, 3) := by decide +kernel
theorem dL_law_1057 : decode cL_law 1057 = .ok (.aload_n 3, 1) := by decide +kernel
theorem dL_law_1058 : decode cL_law 1058 = .ok (.iconst 0, 1) := by decide +kernel
theorem dL_law_1059 : decode cL_law 1059 = .ok (.laload, 1) := by decide +kernel
theorem dL_law_1060 : decode cL_law 1060 = .ok (.iload 6, 2) := by decide +kernel
theorem dL_law_1062 : decode cL_law 1062 = .ok (.i2l, 1) := by decide +kernel
theorem dL_law_1063 : decode cL_law 1063 = .ok (.lcmp, 1) := by decide +kernel
theorem dL_law_1064 : decode cL_law 1064 = .ok (.ifCond .eq 5, 3) := by decide +kernel
theorem dL_law_1067 : decode cL_law 1067 = .ok (.iconst 0, 1) := by decide +kernel
theorem dL_law_1068 : decode cL_law 1068 = .ok (.ireturn, 1) := by decide +kernel
theorem dL_law_1069 : decode cL_law 1069 = .ok (.goto 115, 3) := by decide +kernel
theorem dL_law_1072 : decode cL_law 1072 = .ok (.aload_n 1, 1) := by decide +kernel
theorem dL_law_1073 : decode cL_law 1073 = .ok (.aload_n 0, 1) := by decide +kernel
theorem dL_law_1074 : decode cL_law 1074 = .ok (.iload 4, 2) := by decide +kernel
theorem dL_law_1076 : decode cL_law 1076 = .ok (.iconst 1, 1) := by decide +kernel
theorem dL_law_1077 : decode cL_law 1077 = .ok (.iadd, 1) := by decide +kernel
theorem dL_law_1078 : decode cL_law 1078 = .ok (.iaload, 1) := by decide +kernel
theorem dL_law_1079 : decode cL_law 1079 = .ok (.aload_n 3, 1) := by decide +kernel
theorem dL_law_1080 : decode cL_law 1080 = .ok (.invokestatic 124, 3) := by decide +kernel
theorem dL_law_1083 : decode cL_law 1083 = .ok (.istore 5, 2) := by decide +kernel
theorem dL_law_1085 : decode cL_law 1085 = .ok (.aload_n 2, 1) := by decide +kernel
theorem dL_law_1086 : decode cL_law 1086 = .ok (.aload_n 0, 1) := by decide +kernel
theorem dL_law_1087 : decode cL_law 1087 = .ok (.iload 4, 2) := by decide +kernel
theorem dL_law_1089 : decode cL_law 1089 = .ok (.iconst 1, 1) := by decide +kernel
theorem dL_law_1090 : decode cL_law 1090 = .ok (.iadd, 1) := by decide +kernel
theorem dL_law_1091 : decode cL_law 1091 = .ok (.iaload, 1) := by decide +kernel
theorem dL_law_1092 : decode cL_law 1092 = .ok (.invokevirtual 126, 3) := by decide +kernel
theorem dL_law_1095 : decode cL_law 1095 = .ok (.istore 6, 2) := by decide +kernel
theorem dL_law_1097 : decode cL_law 1097 = .ok (.aload_n 2, 1) := by decide +kernel
theorem dL_law_1098 : decode cL_law 1098 = .ok (.invokevirtual 78, 3) := by decide +kernel
theorem dL_law_1101 : decode cL_law 1101 = .ok (.iload 5, 2) := by decide +kernel
theorem dL_law_1103 : decode cL_law 1103 = .ok (.if_icmp .eq 5, 3) := by decide +kernel
theorem dL_law_1106 : decode cL_law 1106 = .ok (.iconst 0, 1) := by decide +kernel
theorem dL_law_1107 : decode cL_law 1107 = .ok (.ireturn, 1) := by decide +kernel
theorem dL_law_1108 : decode cL_law 1108 = .ok (.iload 5, 2) := by decide +kernel
theorem dL_law_1110 : decode cL_law 1110 = .ok (.ifCond .ne 15, 3) := by decide +kernel
theorem dL_law_1113 : decode cL_law 1113 = .ok (.aload_n 3, 1) := by decide +kernel
theorem dL_law_1114 : decode cL_law 1114 = .ok (.iconst 0, 1) := by decide +kernel
theorem dL_law_1115 : decode cL_law 1115 = .ok (.laload, 1) := by decide +kernel
theorem dL_law_1116 : decode cL_law 1116 = .ok (.iload 6, 2) := by decide +kernel
theorem dL_law_1118 : decode cL_law 1118 = .ok (.i2l, 1) := by decide +kernel
theorem dL_law_1119 : decode cL_law 1119 = .ok (.lcmp, 1) := by decide +kernel
theorem dL_law_1120 : decode cL_law 1120 = .ok (.ifCond .eq 5, 3) := by decide +kernel
theorem dL_law_1123 : decode cL_law 1123 = .ok (.iconst 0, 1) := by decide +kernel
theorem dL_law_1124 : decode cL_law 1124 = .ok (.ireturn, 1) := by decide +kernel
theorem dL_law_1125 : decode cL_law 1125 = .ok (.goto 59, 3) := by decide +kernel
theorem dL_law_1128 : decode cL_law 1128 = .ok (.aload_n 1, 1) := by decide +kernel
theorem dL_law_1129 : decode cL_law 1129 = .ok (.aload_n 0, 1) := by decide +kernel
theorem dL_law_1130 : decode cL_law 1130 = .ok (.iload 4, 2) := by decide +kernel
theorem dL_law_1132 : decode cL_law 1132 = .ok (.iconst 1, 1) := by decide +kernel
theorem dL_law_1133 : decode cL_law 1133 = .ok (.iadd, 1) := by decide +kernel
theorem dL_law_1134 : decode cL_law 1134 = .ok (.iaload, 1) := by decide +kernel
theorem dL_law_1135 : decode cL_law 1135 = .ok (.aload_n 3, 1) := by decide +kernel
theorem dL_law_1136 : decode cL_law 1136 = .ok (.invokestatic 127, 3) := by decide +kernel
theorem dL_law_1139 : decode cL_law 1139 = .ok (.istore 5, 2) := by decide +kernel
theorem dL_law_1141 : decode cL_law 1141 = .ok (.aload_n 2, 1) := by decide +kernel
theorem dL_law_1142 : decode cL_law 1142 = .ok (.aload_n 0, 1) := by decide +kernel
theorem dL_law_1143 : decode cL_law 1143 = .ok (.iload 4, 2) := by decide +kernel
theorem dL_law_1145 : decode cL_law 1145 = .ok (.iconst 1, 1) := by decide +kernel
theorem dL_law_1146 : decode cL_law 1146 = .ok (.iadd, 1) := by decide +kernel
theorem dL_law_1147 : decode cL_law 1147 = .ok (.iaload, 1) := by decide +kernel
theorem dL_law_1148 : decode cL_law 1148 = .ok (.invokevirtual 129, 3) := by decide +kernel
theorem dL_law_1151 : decode cL_law 1151 = .ok (.istore 6, 2) := by decide +kernel
theorem dL_law_1153 : decode cL_law 1153 = .ok (.aload_n 2, 1) := by decide +kernel
theorem dL_law_1154 : decode cL_law 1154 = .ok (.invokevirtual 78, 3) := by decide +kernel
theorem dL_law_1157 : decode cL_law 1157 = .ok (.iload 5, 2) := by decide +kernel
theorem dL_law_1159 : decode cL_law 1159 = .ok (.if_icmp .eq 5, 3) := by decide +kernel
theorem dL_law_1162 : decode cL_law 1162 = .ok (.iconst 0, 1) := by decide +kernel
theorem dL_law_1163 : decode cL_law 1163 = .ok (.ireturn, 1) := by decide +kernel
theorem dL_law_1164 : decode cL_law 1164 = .ok (.iload 5, 2) := by decide +kernel
theorem dL_law_1166 : decode cL_law 1166 = .ok (.ifCond .ne 15, 3) := by decide +kernel
theorem dL_law_1169 : decode cL_law 1169 = .ok (.aload_n 3, 1) := by decide +kernel
theorem dL_law_1170 : decode cL_law 1170 = .ok (.iconst 0, 1) := by decide +kernel
theorem dL_law_1171 : decode cL_law 1171 = .ok (.laload, 1) := by decide +kernel
theorem dL_law_1172 : decode cL_law 1172 = .ok (.iload 6, 2) := by decide +kernel
theorem dL_law_1174 : decode cL_law 1174 = .ok (.i2l, 1) := by decide +kernel
theorem dL_law_1175 : decode cL_law 1175 = .ok (.lcmp, 1) := by decide +kernel
theorem dL_law_1176 : decode cL_law 1176 = .ok (.ifCond .eq 5, 3) := by decide +kernel
theorem dL_law_1179 : decode cL_law 1179 = .ok (.iconst 0, 1) := by decide +kernel
theorem dL_law_1180 : decode cL_law 1180 = .ok (.ireturn, 1) := by decide +kernel
theorem dL_law_1181 : decode cL_law 1181 = .ok (.goto 3, 3) := by decide +kernel
theorem dL_law_1184 : decode cL_law 1184 = .ok (.iinc 4 5, 3) := by decide +kernel
theorem dL_law_1187 : decode cL_law 1187 = .ok (.goto (-1164), 3) := by decide +kernel
theorem dL_law_1190 : decode cL_law 1190 = .ok (.iconst 1, 1) := by decide +kernel
theorem dL_law_1191 : decode cL_law 1191 = .ok (.ireturn, 1) := by decide +kernel
end
section
theorem dJ5_init_d00df_0 : decode cJ5_init_d00df 0 = .ok (.aload_n 0, 1) := by decide +kernel
theorem dJ5_init_d00df_1 : decode cJ5_init_d00df 1 = .ok (.invokespecial 3, 3) := by decide +kernel
theorem dJ5_init_d00df_4 : decode cJ5_init_d00df 4 = .ok (.getstatic 18, 3) := by decide +kernel
theorem dJ5_init_d00df_7 : decode cJ5_init_d00df 7 = .ok (.ifCond .eq 18, 3) := by decide +kernel
theorem dJ5_init_d00df_10 : decode cJ5_init_d00df 10 = .ok (.aload_n 0, 1) := by decide +kernel
theorem dJ5_init_d00df_11 : decode cJ5_init_d00df 11 = .ok (.iload_n 1, 1) := by decide +kernel
theorem dJ5_init_d00df_12 : decode cJ5_init_d00df 12 = .ok (.newarray .byte, 2) := by decide +kernel
theorem dJ5_init_d00df_14 : decode cJ5_init_d00df 14 = .ok (.putfield 15, 3) := by decide +kernel
theorem dJ5_init_d00df_17 : decode cJ5_init_d00df 17 = .ok (.aload_n 0, 1) := by decide +kernel
theorem dJ5_init_d00df_18 : decode cJ5_init_d00df 18 = .ok (.iconst 0, 1) := by decide +kernel
theorem dJ5_init_d00df_19 : decode cJ5_init_d00df 19 = .ok (.putfield 22, 3) := by decide +kernel
theorem dJ5_init_d00df_22 : decode cJ5_init_d00df 22 = .ok (.goto 16, 3) := by decide +kernel
theorem dJ5_init_d00df_25 : decode cJ5_init_d00df 25 = .ok (.aload_n 0, 1) := by decide +kernel
theorem dJ5_init_d00df_26 : decode cJ5_init_d00df 26 = .ok (.iload_n 1, 1) := by decide +kernel
theorem dJ5_init_d00df_27 : decode cJ5_init_d00df 27 = .ok (.invokestatic 26, 3) := by decide +kernel
theorem dJ5_init_d00df_30 : decode cJ5_init_d00df 30 = .ok (.putfield 15, 3) := by decide +kernel
theorem dJ5_init_d00df_33 : decode cJ5_init_d00df 33 = .ok (.aload_n 0, 1) := by decide +kernel
theorem dJ5_init_d00df_34 : decode cJ5_init_d00df 34 = .ok (.iconst 1, 1) := by decide +kernel
theorem dJ5_init_d00df_35 : decode cJ5_init_d00df 35 = .ok (.putfield 22, 3) := by decide +kernel
theorem dJ5_init_d00df_38 : decode cJ5_init_d00df 38 = .ok (.return_, 1) := by decide +kernel
theorem dJ5_length_8abf5_0 : decode cJ5_length_8abf5 0 = .ok (.aload_n 0, 1) := by decide +kernel
theorem dJ5_length_8abf5_1 : decode cJ5_length_8abf5 1 = .ok (.getfield 79, 3) := by decide +kernel
theorem dJ5_length_8abf5_4 : decode cJ5_length_8abf5 4 = .ok (.ireturn, 1) := by decide +kernel
theorem dJ5_ensureCapacityInternal_d00df_0 : decode cJ5_ensureCapacityInternal_d00df 0 = .ok (.aload_n 0, 1) := by decide +kernel
theorem dJ5_ensureCapacityInternal_d00df_1 : decode cJ5_ensureCapacityInternal_d00df 1 = .ok (.getfield 15, 3) := by decide +kernel
theorem dJ5_ensureCapacityInternal_d00df_4 : decode cJ5_ensureCapacityInternal_d00df 4 = .ok (.arraylength, 1) := by decide +kernel
theorem dJ5_ensureCapacityInternal_d00df_5 : decode cJ5_ensureCapacityInternal_d00df 5 = .ok (.aload_n 0, 1) := by decide +kernel
theorem dJ5_ensureCapacityInternal_d00df_6 : decode cJ5_ensureCapacityInternal_d00df 6 = .ok (.getfield 22, 3) := by decide +kernel
theorem dJ5_ensureCapacityInternal_d00df_9 : decode cJ5_ensureCapacityInternal_d00df 9 = .ok (.ishr, 1) := by decide +kernel
theorem dJ5_ensureCapacityInternal_d00df_10 : decode cJ5_ensureCapacityInternal_d00df 10 = .ok (.istore_n 2, 1) := by decide +kernel
theorem dJ5_ensureCapacityInternal_d00df_11 : decode cJ5_ensureCapacityInternal_d00df 11 = .ok (.iload_n 1, 1) := by decide +kernel
theorem dJ5_ensureCapacityInternal_d00df_12 : decode cJ5_ensureCapacityInternal_d00df 12 = .ok (.iload_n 2, 1) := by decide +kernel
theorem dJ5_ensureCapacityInternal_d00df_13 : decode cJ5_ensureCapacityInternal_d00df 13 = .ok (.isub, 1) := by decide +kernel
theorem dJ5_ensureCapacityInternal_d00df_14 : decode cJ5_ensureCapacityInternal_d00df 14 = .ok (.ifCond .le 24, 3) := by decide +kernel
theorem dJ5_ensureCapacityInternal_d00df_17 : decode cJ5_ensureCapacityInternal_d00df 17 = .ok (.aload_n 0, 1) := by decide +kernel
theorem dJ5_ensureCapacityInternal_d00df_18 : decode cJ5_ensureCapacityInternal_d00df 18 = .ok (.aload_n 0, 1) := by decide +kernel
theorem dJ5_ensureCapacityInternal_d00df_19 : decode cJ5_ensureCapacityInternal_d00df 19 = .ok (.getfield 15, 3) := by decide +kernel
theorem dJ5_ensureCapacityInternal_d00df_22 : decode cJ5_ensureCapacityInternal_d00df 22 = .ok (.aload_n 0, 1) := by decide +kernel
theorem dJ5_ensureCapacityInternal_d00df_23 : decode cJ5_ensureCapacityInternal_d00df 23 = .ok (.iload_n 1, 1) := by decide +kernel
theorem dJ5_ensureCapacityInternal_d00df_24 : decode cJ5_ensureCapacityInternal_d00df 24 = .ok (.invokevirtual 104, 3) := by decide +kernel
theorem dJ5_ensureCapacityInternal_d00df_27 : decode cJ5_ensureCapacityInternal_d00df 27 = .ok (.aload_n 0, 1) := by decide +kernel
theorem dJ5_ensureCapacityInternal_d00df_28 : decode cJ5_ensureCapacityInternal_d00df 28 = .ok (.getfield 22, 3) := by decide +kernel
theorem dJ5_ensureCapacityInternal_d00df_31 : decode cJ5_ensureCapacityInternal_d00df 31 = .ok (.ishl, 1) := by decide +kernel
theorem dJ5_ensureCapacityInternal_d00df_32 : decode cJ5_ensureCapacityInternal_d00df 32 = .ok (.invokestatic 108, 3) := by decide +kernel
theorem dJ5_ensureCapacityInternal_d00df_35 : decode cJ5_ensureCapacityInternal_d00df 35 = .ok (.putfield 15, 3) := by decide +kernel
theorem dJ5_ensureCapacityInternal_d00df_38 : decode cJ5_ensureCapacityInternal_d00df 38 = .ok (.return_, 1) := by decide +kernel
theorem dJ5_newCapacity_0f7a4_0 : decode cJ5_newCapacity_0f7a4 0 = .ok (.aload_n 0, 1) := by decide +kernel
theorem dJ5_newCapacity_0f7a4_1 : decode cJ5_newCapacity_0f7a4 1 = .ok (.getfield 15, 3) := by decide +kernel
theorem dJ5_newCapacity_0f7a4_4 : decode cJ5_newCapacity_0f7a4 4 = .ok (.arraylength, 1) := by decide +kernel
theorem dJ5_newCapacity_0f7a4_5 : decode cJ5_newCapacity_0f7a4 5 = .ok (.istore_n 2, 1) := by decide +kernel
theorem dJ5_newCapacity_0f7a4_6 : decode cJ5_newCapacity_0f7a4 6 = .ok (.iload_n 1, 1) := by decide +kernel
theorem dJ5_newCapacity_0f7a4_7 : decode cJ5_newCapacity_0f7a4 7 = .ok (.aload_n 0, 1) := by decide +kernel
theorem dJ5_newCapacity_0f7a4_8 : decode cJ5_newCapacity_0f7a4 8 = .ok (.getfield 22, 3) := by decide +kernel
theorem dJ5_newCapacity_0f7a4_11 : decode cJ5_newCapacity_0f7a4 11 = .ok (.ishl, 1) := by decide +kernel
theorem dJ5_newCapacity_0f7a4_12 : decode cJ5_newCapacity_0f7a4 12 = .ok (.istore_n 3, 1) := by decide +kernel
theorem dJ5_newCapacity_0f7a4_13 : decode cJ5_newCapacity_0f7a4 13 = .ok (.iload_n 3, 1) := by decide +kernel
theorem dJ5_newCapacity_0f7a4_14 : decode cJ5_newCapacity_0f7a4 14 = .ok (.iload_n 2, 1) := by decide +kernel
theorem dJ5_newCapacity_0f7a4_15 : decode cJ5_newCapacity_0f7a4 15 = .ok (.isub, 1) := by decide +kernel
theorem dJ5_newCapacity_0f7a4_16 : decode cJ5_newCapacity_0f7a4 16 = .ok (.istore 4, 2) := by decide +kernel
theorem dJ5_newCapacity_0f7a4_18 : decode cJ5_newCapacity_0f7a4 18 = .ok (.iload_n 2, 1) := by decide +kernel
theorem dJ5_newCapacity_0f7a4_19 : decode cJ5_newCapacity_0f7a4 19 = .ok (.iload 4, 2) := by decide +kernel
theorem dJ5_newCapacity_0f7a4_21 : decode cJ5_newCapacity_0f7a4 21 = .ok (.iload_n 2, 1) := by decide +kernel
theorem dJ5_newCapacity_0f7a4_22 : decode cJ5_newCapacity_0f7a4 22 = .ok (.iconst 2, 1) := by decide +kernel
theorem dJ5_newCapacity_0f7a4_23 : decode cJ5_newCapacity_0f7a4 23 = .ok (.aload_n 0, 1) := by decide +kernel
theorem dJ5_newCapacity_0f7a4_24 : decode cJ5_newCapacity_0f7a4 24 = .ok (.getfield 22, 3) := by decide +kernel
theorem dJ5_newCapacity_0f7a4_27 : decode cJ5_newCapacity_0f7a4 27 = .ok (.ishl, 1) := by decide +kernel
theorem dJ5_newCapacity_0f7a4_28 : decode cJ5_newCapacity_0f7a4 28 = .ok (.iadd, 1) := by decide +kernel
theorem dJ5_newCapacity_0f7a4_29 : decode cJ5_newCapacity_0f7a4 29 = .ok (.invokestatic 114, 3) := by decide +kernel
theorem dJ5_newCapacity_0f7a4_32 : decode cJ5_newCapacity_0f7a4 32 = .ok (.istore 5, 2) := by decide +kernel
theorem dJ5_newCapacity_0f7a4_34 : decode cJ5_newCapacity_0f7a4 34 = .ok (.iload 5, 2) := by decide +kernel
theorem dJ5_newCapacity_0f7a4_36 : decode cJ5_newCapacity_0f7a4 36 = .ok (.ldc 39, 2) := by decide +kernel
theorem dJ5_newCapacity_0f7a4_38 : decode cJ5_newCapacity_0f7a4 38 = .ok (.if_icmp .ne 13, 3) := by decide +kernel
theorem dJ5_newCapacity_0f7a4_41 : decode cJ5_newCapacity_0f7a4 41 = .ok (.new 120, 3) := by decide +kernel
theorem dJ5_newCapacity_0f7a4_44 : decode cJ5_newCapacity_0f7a4 44 = .ok (.dup, 1) := by decide +kernel
theorem dJ5_newCapacity_0f7a4_45 : decode cJ5_newCapacity_0f7a4 45 = .ok (.ldc 122, 2) := by decide +kernel
theorem dJ5_newCapacity_0f7a4_47 : decode cJ5_newCapacity_0f7a4 47 = .ok (.invokespecial 124, 3) := by decide +kernel
theorem dJ5_newCapacity_0f7a4_50 : decode cJ5_newCapacity_0f7a4 50 = .ok (.athrow, 1) := by decide +kernel
theorem dJ5_newCapacity_0f7a4_51 : decode cJ5_newCapacity_0f7a4 51 = .ok (.iload 5, 2) := by decide +kernel
theorem dJ5_newCapacity_0f7a4_53 : decode cJ5_newCapacity_0f7a4 53 = .ok (.aload_n 0, 1) := by decide +kernel
theorem dJ5_newCapacity_0f7a4_54 : decode cJ5_newCapacity_0f7a4 54 = .ok (.getfield 22, 3) := by decide +kernel
theorem dJ5_newCapacity_0f7a4_57 : decode cJ5_newCapacity_0f7a4 57 = .ok (.ishr, 1) := by decide +kernel
theorem dJ5_newCapacity_0f7a4_58 : decode cJ5_newCapacity_0f7a4 58 = .ok (.ireturn, 1) := by decide +kernel
theorem dJ5_inflate_da8c8_0 : decode cJ5_inflate_da8c8 0 = .ok (.aload_n 0, 1) := by decide +kernel
theorem dJ5_inflate_da8c8_1 : decode cJ5_inflate_da8c8 1 = .ok (.invokevirtual 83, 3) := by decide +kernel
theorem dJ5_inflate_da8c8_4 : decode cJ5_inflate_da8c8 4 = .ok (.ifCond .ne 4, 3) := by decide +kernel
theorem dJ5_inflate_da8c8_7 : decode cJ5_inflate_da8c8 7 = .ok (.return_, 1) := by decide +kernel
theorem dJ5_inflate_da8c8_8 : decode cJ5_inflate_da8c8 8 = .ok (.aload_n 0, 1) := by decide +kernel
theorem dJ5_inflate_da8c8_9 : decode cJ5_inflate_da8c8 9 = .ok (.getfield 15, 3) := by decide +kernel
theorem dJ5_inflate_da8c8_12 : decode cJ5_inflate_da8c8 12 = .ok (.arraylength, 1) := by decide +kernel
theorem dJ5_inflate_da8c8_13 : decode cJ5_inflate_da8c8 13 = .ok (.invokestatic 26, 3) := by decide +kernel
theorem dJ5_inflate_da8c8_16 : decode cJ5_inflate_da8c8 16 = .ok (.astore_n 1, 1) := by decide +kernel
theorem dJ5_inflate_da8c8_17 : decode cJ5_inflate_da8c8 17 = .ok (.aload_n 0, 1) := by decide +kernel
theorem dJ5_inflate_da8c8_18 : decode cJ5_inflate_da8c8 18 = .ok (.getfield 15, 3) := by decide +kernel
theorem dJ5_inflate_da8c8_21 : decode cJ5_inflate_da8c8 21 = .ok (.iconst 0, 1) := by decide +kernel
theorem dJ5_inflate_da8c8_22 : decode cJ5_inflate_da8c8 22 = .ok (.aload_n 1, 1) := by decide +kernel
theorem dJ5_inflate_da8c8_23 : decode cJ5_inflate_da8c8 23 = .ok (.iconst 0, 1) := by decide +kernel
theorem dJ5_inflate_da8c8_24 : decode cJ5_inflate_da8c8 24 = .ok (.aload_n 0, 1) := by decide +kernel
theorem dJ5_inflate_da8c8_25 : decode cJ5_inflate_da8c8 25 = .ok (.getfield 79, 3) := by decide +kernel
theorem dJ5_inflate_da8c8_28 : decode cJ5_inflate_da8c8 28 = .ok (.invokestatic 125, 3) := by decide +kernel
theorem dJ5_inflate_da8c8_31 : decode cJ5_inflate_da8c8 31 = .ok (.aload_n 0, 1) := by decide +kernel
theorem dJ5_inflate_da8c8_32 : decode cJ5_inflate_da8c8 32 = .ok (.aload_n 1, 1) := by decide +kernel
theorem dJ5_inflate_da8c8_33 : decode cJ5_inflate_da8c8 33 = .ok (.putfield 15, 3) := by decide +kernel
theorem dJ5_inflate_da8c8_36 : decode cJ5_inflate_da8c8 36 = .ok (.aload_n 0, 1) := by decide +kernel
theorem dJ5_inflate_da8c8_37 : decode cJ5_inflate_da8c8 37 = .ok (.iconst 1, 1) := by decide +kernel
theorem dJ5_inflate_da8c8_38 : decode cJ5_inflate_da8c8 38 = .ok (.putfield 22, 3) := by decide +kernel
theorem dJ5_inflate_da8c8_41 : decode cJ5_inflate_da8c8 41 = .ok (.return_, 1) := by decide +kernel
theorem dJ5_charAt_5068e_0 : decode cJ5_charAt_5068e 0 = .ok (.aload_n 0, 1) := by decide +kernel
theorem dJ5_charAt_5068e_1 : decode cJ5_charAt_5068e 1 = .ok (.getfield 22, 3) := by decide +kernel
theorem dJ5_charAt_5068e_4 : decode cJ5_charAt_5068e 4 = .ok (.istore_n 2, 1) := by decide +kernel
theorem dJ5_charAt_5068e_5 : decode cJ5_charAt_5068e 5 = .ok (.aload_n 0, 1) := by decide +kernel
theorem dJ5_charAt_5068e_6 : decode cJ5_charAt_5068e 6 = .ok (.getfield 15, 3) := by decide +kernel
theorem dJ5_charAt_5068e_9 : decode cJ5_charAt_5068e 9 = .ok (.astore_n 3, 1) := by decide +kernel
theorem dJ5_charAt_5068e_10 : decode cJ5_charAt_5068e 10 = .ok (.aload_n 0, 1) := by decide +kernel
theorem dJ5_charAt_5068e_11 : decode cJ5_charAt_5068e 11 = .ok (.getfield 79, 3) := by decide +kernel
theorem dJ5_charAt_5068e_14 : decode cJ5_charAt_5068e 14 = .ok (.aload_n 3, 1) := by decide +kernel
theorem dJ5_charAt_5068e_15 : decode cJ5_charAt_5068e 15 = .ok (.arraylength, 1) := by decide +kernel
theorem dJ5_charAt_5068e_16 : decode cJ5_charAt_5068e 16 = .ok (.iload_n 2, 1) := by decide +kernel
theorem dJ5_charAt_5068e_17 : decode cJ5_charAt_5068e 17 = .ok (.ishr, 1) := by decide +kernel
theorem dJ5_charAt_5068e_18 : decode cJ5_charAt_5068e 18 = .ok (.invokestatic 138, 3) := by decide +kernel
theorem dJ5_charAt_5068e_21 : decode cJ5_charAt_5068e 21 = .ok (.istore 4, 2) := by decide +kernel
theorem dJ5_charAt_5068e_23 : decode cJ5_charAt_5068e 23 = .ok (.iload_n 1, 1) := by decide +kernel
theorem dJ5_charAt_5068e_24 : decode cJ5_charAt_5068e 24 = .ok (.iload 4, 2) := by decide +kernel
theorem dJ5_charAt_5068e_26 : decode cJ5_charAt_5068e 26 = .ok (.invokestatic 144, 3) := by decide +kernel
theorem dJ5_charAt_5068e_29 : decode cJ5_charAt_5068e 29 = .ok (.iload_n 2, 1) := by decide +kernel
theorem dJ5_charAt_5068e_30 : decode cJ5_charAt_5068e 30 = .ok (.ifCond .ne 12, 3) := by decide +kernel
theorem dJ5_charAt_5068e_33 : decode cJ5_charAt_5068e 33 = .ok (.aload_n 3, 1) := by decide +kernel
theorem dJ5_charAt_5068e_34 : decode cJ5_charAt_5068e 34 = .ok (.iload_n 1, 1) := by decide +kernel
theorem dJ5_charAt_5068e_35 : decode cJ5_charAt_5068e 35 = .ok (.baload, 1) := by decide +kernel
theorem dJ5_charAt_5068e_36 : decode cJ5_charAt_5068e 36 = .ok (.sipush 255, 3) := by decide +kernel
theorem dJ5_charAt_5068e_39 : decode cJ5_charAt_5068e 39 = .ok (.iand, 1) := by decide +kernel
theorem dJ5_charAt_5068e_40 : decode cJ5_charAt_5068e 40 = .ok (.i2c, 1) := by decide +kernel
theorem dJ5_charAt_5068e_41 : decode cJ5_charAt_5068e 41 = .ok (.ireturn, 1) := by decide +kernel
theorem dJ5_charAt_5068e_42 : decode cJ5_charAt_5068e 42 = .ok (.aload_n 3, 1) := by decide +kernel
theorem dJ5_charAt_5068e_43 : decode cJ5_charAt_5068e 43 = .ok (.iload_n 1, 1) := by decide +kernel
theorem dJ5_charAt_5068e_44 : decode cJ5_charAt_5068e 44 = .ok (.invokestatic 148, 3) := by decide +kernel
theorem dJ5_charAt_5068e_47 : decode cJ5_charAt_5068e 47 = .ok (.ireturn, 1) := by decide +kernel
theorem dJ5_append_3fe6f_0 : decode cJ5_append_3fe6f 0 = .ok (.aload_n 0, 1) := by decide +kernel
theorem dJ5_append_3fe6f_1 : decode cJ5_append_3fe6f 1 = .ok (.aload_n 0, 1) := by decide +kernel
theorem dJ5_append_3fe6f_2 : decode cJ5_append_3fe6f 2 = .ok (.getfield 79, 3) := by decide +kernel
theorem dJ5_append_3fe6f_5 : decode cJ5_append_3fe6f 5 = .ok (.iconst 1, 1) := by decide +kernel
theorem dJ5_append_3fe6f_6 : decode cJ5_append_3fe6f 6 = .ok (.iadd, 1) := by decide +kernel
theorem dJ5_append_3fe6f_7 : decode cJ5_append_3fe6f 7 = .ok (.invokevirtual 100, 3) := by decide +kernel
theorem dJ5_append_3fe6f_10 : decode cJ5_append_3fe6f 10 = .ok (.aload_n 0, 1) := by decide +kernel
theorem dJ5_append_3fe6f_11 : decode cJ5_append_3fe6f 11 = .ok (.invokevirtual 83, 3) := by decide +kernel
theorem dJ5_append_3fe6f_14 : decode cJ5_append_3fe6f 14 = .ok (.ifCond .eq 31, 3) := by decide +kernel
theorem dJ5_append_3fe6f_17 : decode cJ5_append_3fe6f 17 = .ok (.iload_n 1, 1) := by decide +kernel
theorem dJ5_append_3fe6f_18 : decode cJ5_append_3fe6f 18 = .ok (.invokestatic 191, 3) := by decide +kernel
theorem dJ5_append_3fe6f_21 : decode cJ5_append_3fe6f 21 = .ok (.ifCond .eq 24, 3) := by decide +kernel
theorem dJ5_append_3fe6f_24 : decode cJ5_append_3fe6f 24 = .ok (.aload_n 0, 1) := by decide +kernel
theorem dJ5_append_3fe6f_25 : decode cJ5_append_3fe6f 25 = .ok (.getfield 15, 3) := by decide +kernel
theorem dJ5_append_3fe6f_28 : decode cJ5_append_3fe6f 28 = .ok (.aload_n 0, 1) := by decide +kernel
theorem dJ5_append_3fe6f_29 : decode cJ5_append_3fe6f 29 = .ok (.dup, 1) := by decide +kernel
theorem dJ5_append_3fe6f_30 : decode cJ5_append_3fe6f 30 = .ok (.getfield 79, 3) := by decide +kernel
theorem dJ5_append_3fe6f_33 : decode cJ5_append_3fe6f 33 = .ok (.dup_x1, 1) := by decide +kernel
theorem dJ5_append_3fe6f_34 : decode cJ5_append_3fe6f 34 = .ok (.iconst 1, 1) := by decide +kernel
theorem dJ5_append_3fe6f_35 : decode cJ5_append_3fe6f 35 = .ok (.iadd, 1) := by decide +kernel
theorem dJ5_append_3fe6f_36 : decode cJ5_append_3fe6f 36 = .ok (.putfield 79, 3) := by decide +kernel
theorem dJ5_append_3fe6f_39 : decode cJ5_append_3fe6f 39 = .ok (.iload_n 1, 1) := by decide +kernel
theorem dJ5_append_3fe6f_40 : decode cJ5_append_3fe6f 40 = .ok (.i2b, 1) := by decide +kernel
theorem dJ5_append_3fe6f_41 : decode cJ5_append_3fe6f 41 = .ok (.bastore, 1) := by decide +kernel
theorem dJ5_append_3fe6f_42 : decode cJ5_append_3fe6f 42 = .ok (.goto 33, 3) := by decide +kernel
theorem dJ5_append_3fe6f_45 : decode cJ5_append_3fe6f 45 = .ok (.aload_n 0, 1) := by decide +kernel
theorem dJ5_append_3fe6f_46 : decode cJ5_append_3fe6f 46 = .ok (.invokevirtual 83, 3) := by decide +kernel
theorem dJ5_append_3fe6f_49 : decode cJ5_append_3fe6f 49 = .ok (.ifCond .eq 7, 3) := by decide +kernel
theorem dJ5_append_3fe6f_52 : decode cJ5_append_3fe6f 52 = .ok (.aload_n 0, 1) := by decide +kernel
theorem dJ5_append_3fe6f_53 : decode cJ5_append_3fe6f 53 = .ok (.invokevirtual 195, 3) := by decide +kernel
theorem dJ5_append_3fe6f_56 : decode cJ5_append_3fe6f 56 = .ok (.aload_n 0, 1) := by decide +kernel
theorem dJ5_append_3fe6f_57 : decode cJ5_append_3fe6f 57 = .ok (.getfield 15, 3) := by decide +kernel
theorem dJ5_append_3fe6f_60 : decode cJ5_append_3fe6f 60 = .ok (.aload_n 0, 1) := by decide +kernel
theorem dJ5_append_3fe6f_61 : decode cJ5_append_3fe6f 61 = .ok (.dup, 1) := by decide +kernel
theorem dJ5_append_3fe6f_62 : decode cJ5_append_3fe6f 62 = .ok (.getfield 79, 3) := by decide +kernel
theorem dJ5_append_3fe6f_65 : decode cJ5_append_3fe6f 65 = .ok (.dup_x1, 1) := by decide +kernel
theorem dJ5_append_3fe6f_66 : decode cJ5_append_3fe6f 66 = .ok (.iconst 1, 1) := by decide +kernel
theorem dJ5_append_3fe6f_67 : decode cJ5_append_3fe6f 67 = .ok (.iadd, 1) := by decide +kernel
theorem dJ5_append_3fe6f_68 : decode cJ5_append_3fe6f 68 = .ok (.putfield 79, 3) := by decide +kernel
theorem dJ5_append_3fe6f_71 : decode cJ5_append_3fe6f 71 = .ok (.iload_n 1, 1) := by decide +kernel
theorem dJ5_append_3fe6f_72 : decode cJ5_append_3fe6f 72 = .ok (.invokestatic 197, 3) := by decide +kernel
theorem dJ5_append_3fe6f_75 : decode cJ5_append_3fe6f 75 = .ok (.aload_n 0, 1) := by decide +kernel
theorem dJ5_append_3fe6f_76 : decode cJ5_append_3fe6f 76 = .ok (.areturn, 1) := by decide +kernel
theorem dJ5_append_c97b9_0 : decode cJ5_append_c97b9 0 = .ok (.aload_n 0, 1) := by decide +kernel
theorem dJ5_append_c97b9_1 : decode cJ5_append_c97b9 1 = .ok (.getfield 79, 3) := by decide +kernel
theorem dJ5_append_c97b9_4 : decode cJ5_append_c97b9 4 = .ok (.istore_n 2, 1) := by decide +kernel
theorem dJ5_append_c97b9_5 : decode cJ5_append_c97b9 5 = .ok (.iload_n 2, 1) := by decide +kernel
theorem dJ5_append_c97b9_6 : decode cJ5_append_c97b9 6 = .ok (.iload_n 1, 1) := by decide +kernel
theorem dJ5_append_c97b9_7 : decode cJ5_append_c97b9 7 = .ok (.invokestatic 245, 3) := by decide +kernel
theorem dJ5_append_c97b9_10 : decode cJ5_append_c97b9 10 = .ok (.iadd, 1) := by decide +kernel
theorem dJ5_append_c97b9_11 : decode cJ5_append_c97b9 11 = .ok (.istore_n 3, 1) := by decide +kernel
theorem dJ5_append_c97b9_12 : decode cJ5_append_c97b9 12 = .ok (.aload_n 0, 1) := by decide +kernel
theorem dJ5_append_c97b9_13 : decode cJ5_append_c97b9 13 = .ok (.iload_n 3, 1) := by decide +kernel
theorem dJ5_append_c97b9_14 : decode cJ5_append_c97b9 14 = .ok (.invokevirtual 100, 3) := by decide +kernel
theorem dJ5_append_c97b9_17 : decode cJ5_append_c97b9 17 = .ok (.aload_n 0, 1) := by decide +kernel
theorem dJ5_append_c97b9_18 : decode cJ5_append_c97b9 18 = .ok (.invokevirtual 83, 3) := by decide +kernel
theorem dJ5_append_c97b9_21 : decode cJ5_append_c97b9 21 = .ok (.ifCond .eq 16, 3) := by decide +kernel
theorem dJ5_append_c97b9_24 : decode cJ5_append_c97b9 24 = .ok (.iload_n 1, 1) := by decide +kernel
theorem dJ5_append_c97b9_25 : decode cJ5_append_c97b9 25 = .ok (.iload_n 3, 1) := by decide +kernel
theorem dJ5_append_c97b9_26 : decode cJ5_append_c97b9 26 = .ok (.aload_n 0, 1) := by decide +kernel
theorem dJ5_append_c97b9_27 : decode cJ5_append_c97b9 27 = .ok (.getfield 15, 3) := by decide +kernel
theorem dJ5_append_c97b9_30 : decode cJ5_append_c97b9 30 = .ok (.invokestatic 248, 3) := by decide +kernel
theorem dJ5_append_c97b9_33 : decode cJ5_append_c97b9 33 = .ok (.pop, 1) := by decide +kernel
theorem dJ5_append_c97b9_34 : decode cJ5_append_c97b9 34 = .ok (.goto 14, 3) := by decide +kernel
theorem dJ5_append_c97b9_37 : decode cJ5_append_c97b9 37 = .ok (.iload_n 1, 1) := by decide +kernel
theorem dJ5_append_c97b9_38 : decode cJ5_append_c97b9 38 = .ok (.iload_n 2, 1) := by decide +kernel
theorem dJ5_append_c97b9_39 : decode cJ5_append_c97b9 39 = .ok (.iload_n 3, 1) := by decide +kernel
theorem dJ5_append_c97b9_40 : decode cJ5_append_c97b9 40 = .ok (.aload_n 0, 1) := by decide +kernel
theorem dJ5_append_c97b9_41 : decode cJ5_append_c97b9 41 = .ok (.getfield 15, 3) := by decide +kernel
theorem dJ5_append_c97b9_44 : decode cJ5_append_c97b9 44 = .ok (.invokestatic 251, 3) := by decide +kernel
theorem dJ5_append_c97b9_47 : decode cJ5_append_c97b9 47 = .ok (.pop, 1) := by decide +kernel
theorem dJ5_append_c97b9_48 : decode cJ5_append_c97b9 48 = .ok (.aload_n 0, 1) := by decide +kernel
theorem dJ5_append_c97b9_49 : decode cJ5_append_c97b9 49 = .ok (.iload_n 3, 1) := by decide +kernel
theorem dJ5_append_c97b9_50 : decode cJ5_append_c97b9 50 = .ok (.putfield 79, 3) := by decide +kernel
theorem dJ5_append_c97b9_53 : decode cJ5_append_c97b9 53 = .ok (.aload_n 0, 1) := by decide +kernel
theorem dJ5_append_c97b9_54 : decode cJ5_append_c97b9 54 = .ok (.areturn, 1) := by decide +kernel
theorem dJ5_isLatin1_aae02_0 : decode cJ5_isLatin1_aae02 0 = .ok (.getstatic 18, 3) := by decide +kernel
theorem dJ5_isLatin1_aae02_3 : decode cJ5_isLatin1_aae02 3 = .ok (.ifCond .eq 14, 3) := by decide +kernel
theorem dJ5_isLatin1_aae02_6 : decode cJ5_isLatin1_aae02 6 = .ok (.aload_n 0, 1) := by decide +kernel
theorem dJ5_isLatin1_aae02_7 : decode cJ5_isLatin1_aae02 7 = .ok (.getfield 22, 3) := by decide +kernel
theorem dJ5_isLatin1_aae02_10 : decode cJ5_isLatin1_aae02 10 = .ok (.ifCond .ne 7, 3) := by decide +kernel
theorem dJ5_isLatin1_aae02_13 : decode cJ5_isLatin1_aae02 13 = .ok (.iconst 1, 1) := by decide +kernel
theorem dJ5_isLatin1_aae02_14 : decode cJ5_isLatin1_aae02 14 = .ok (.goto 4, 3) := by decide +kernel
theorem dJ5_isLatin1_aae02_17 : decode cJ5_isLatin1_aae02 17 = .ok (.iconst 0, 1) := by decide +kernel
theorem dJ5_isLatin1_aae02_18 : decode cJ5_isLatin1_aae02 18 = .ok (.ireturn, 1) := by decide +kernel
theorem dJ6_getChars_ba4f3_0 : decode cJ6_getChars_ba4f3 0 = .ok (.iload_n 1, 1) := by decide +kernel
theorem dJ6_getChars_ba4f3_1 : decode cJ6_getChars_ba4f3 1 = .ok (.istore 5, 2) := by decide +kernel
theorem dJ6_getChars_ba4f3_3 : decode cJ6_getChars_ba4f3 3 = .ok (.iload_n 0, 1) := by decide +kernel
theorem dJ6_getChars_ba4f3_4 : decode cJ6_getChars_ba4f3 4 = .ok (.ifCond .ge 7, 3) := by decide +kernel
theorem dJ6_getChars_ba4f3_7 : decode cJ6_getChars_ba4f3 7 = .ok (.iconst 1, 1) := by decide +kernel
theorem dJ6_getChars_ba4f3_8 : decode cJ6_getChars_ba4f3 8 = .ok (.goto 4, 3) := by decide +kernel
theorem dJ6_getChars_ba4f3_11 : decode cJ6_getChars_ba4f3 11 = .ok (.iconst 0, 1) := by decide +kernel
theorem dJ6_getChars_ba4f3_12 : decode cJ6_getChars_ba4f3 12 = .ok (.istore 6, 2) := by decide +kernel
theorem dJ6_getChars_ba4f3_14 : decode cJ6_getChars_ba4f3 14 = .ok (.iload 6, 2) := by decide +kernel
theorem dJ6_getChars_ba4f3_16 : decode cJ6_getChars_ba4f3 16 = .ok (.ifCond .ne 6, 3) := by decide +kernel
theorem dJ6_getChars_ba4f3_19 : decode cJ6_getChars_ba4f3 19 = .ok (.iload_n 0, 1) := by decide +kernel
theorem dJ6_getChars_ba4f3_20 : decode cJ6_getChars_ba4f3 20 = .ok (.ineg, 1) := by decide +kernel
theorem dJ6_getChars_ba4f3_21 : decode cJ6_getChars_ba4f3 21 = .ok (.istore_n 0, 1) := by decide +kernel
theorem dJ6_getChars_ba4f3_22 : decode cJ6_getChars_ba4f3 22 = .ok (.iload_n 0, 1) := by decide +kernel
theorem dJ6_getChars_ba4f3_23 : decode cJ6_getChars_ba4f3 23 = .ok (.bipush (-100), 2) := by decide +kernel
theorem dJ6_getChars_ba4f3_25 : decode cJ6_getChars_ba4f3 25 = .ok (.if_icmp .gt 47, 3) := by decide +kernel
theorem dJ6_getChars_ba4f3_28 : decode cJ6_getChars_ba4f3 28 = .ok (.iload_n 0, 1) := by decide +kernel
theorem dJ6_getChars_ba4f3_29 : decode cJ6_getChars_ba4f3 29 = .ok (.bipush 100, 2) := by decide +kernel
theorem dJ6_getChars_ba4f3_31 : decode cJ6_getChars_ba4f3 31 = .ok (.idiv, 1) := by decide +kernel
theorem dJ6_getChars_ba4f3_32 : decode cJ6_getChars_ba4f3 32 = .ok (.istore_n 3, 1) := by decide +kernel
theorem dJ6_getChars_ba4f3_33 : decode cJ6_getChars_ba4f3 33 = .ok (.iload_n 3, 1) := by decide +kernel
theorem dJ6_getChars_ba4f3_34 : decode cJ6_getChars_ba4f3 34 = .ok (.bipush 100, 2) := by decide +kernel
theorem dJ6_getChars_ba4f3_36 : decode cJ6_getChars_ba4f3 36 = .ok (.imul, 1) := by decide +kernel
theorem dJ6_getChars_ba4f3_37 : decode cJ6_getChars_ba4f3 37 = .ok (.iload_n 0, 1) := by decide +kernel
theorem dJ6_getChars_ba4f3_38 : decode cJ6_getChars_ba4f3 38 = .ok (.isub, 1) := by decide +kernel
theorem dJ6_getChars_ba4f3_39 : decode cJ6_getChars_ba4f3 39 = .ok (.istore 4, 2) := by decide +kernel
theorem dJ6_getChars_ba4f3_41 : decode cJ6_getChars_ba4f3 41 = .ok (.iload_n 3, 1) := by decide +kernel
theorem dJ6_getChars_ba4f3_42 : decode cJ6_getChars_ba4f3 42 = .ok (.istore_n 0, 1) := by decide +kernel
theorem dJ6_getChars_ba4f3_43 : decode cJ6_getChars_ba4f3 43 = .ok (.aload_n 2, 1) := by decide +kernel
theorem dJ6_getChars_ba4f3_44 : decode cJ6_getChars_ba4f3 44 = .ok (.iinc 5 (-1), 3) := by decide +kernel
theorem dJ6_getChars_ba4f3_47 : decode cJ6_getChars_ba4f3 47 = .ok (.iload 5, 2) := by decide +kernel
theorem dJ6_getChars_ba4f3_49 : decode cJ6_getChars_ba4f3 49 = .ok (.getstatic 83, 3) := by decide +kernel
theorem dJ6_getChars_ba4f3_52 : decode cJ6_getChars_ba4f3 52 = .ok (.iload 4, 2) := by decide +kernel
theorem dJ6_getChars_ba4f3_54 : decode cJ6_getChars_ba4f3 54 = .ok (.baload, 1) := by decide +kernel
theorem dJ6_getChars_ba4f3_55 : decode cJ6_getChars_ba4f3 55 = .ok (.bastore, 1) := by decide +kernel
theorem dJ6_getChars_ba4f3_56 : decode cJ6_getChars_ba4f3 56 = .ok (.aload_n 2, 1) := by decide +kernel
theorem dJ6_getChars_ba4f3_57 : decode cJ6_getChars_ba4f3 57 = .ok (.iinc 5 (-1), 3) := by decide +kernel
theorem dJ6_getChars_ba4f3_60 : decode cJ6_getChars_ba4f3 60 = .ok (.iload 5, 2) := by decide +kernel
theorem dJ6_getChars_ba4f3_62 : decode cJ6_getChars_ba4f3 62 = .ok (.getstatic 87, 3) := by decide +kernel
theorem dJ6_getChars_ba4f3_65 : decode cJ6_getChars_ba4f3 65 = .ok (.iload 4, 2) := by decide +kernel
theorem dJ6_getChars_ba4f3_67 : decode cJ6_getChars_ba4f3 67 = .ok (.baload, 1) := by decide +kernel
theorem dJ6_getChars_ba4f3_68 : decode cJ6_getChars_ba4f3 68 = .ok (.bastore, 1) := by decide +kernel
theorem dJ6_getChars_ba4f3_69 : decode cJ6_getChars_ba4f3 69 = .ok (.goto (-47), 3) := by decide +kernel
theorem dJ6_getChars_ba4f3_72 : decode cJ6_getChars_ba4f3 72 = .ok (.aload_n 2, 1) := by decide +kernel
theorem dJ6_getChars_ba4f3_73 : decode cJ6_getChars_ba4f3 73 = .ok (.iinc 5 (-1), 3) := by decide +kernel
theorem dJ6_getChars_ba4f3_76 : decode cJ6_getChars_ba4f3 76 = .ok (.iload 5, 2) := by decide +kernel
theorem dJ6_getChars_ba4f3_78 : decode cJ6_getChars_ba4f3 78 = .ok (.getstatic 83, 3) := by decide +kernel
theorem dJ6_getChars_ba4f3_81 : decode cJ6_getChars_ba4f3 81 = .ok (.iload_n 0, 1) := by decide +kernel
theorem dJ6_getChars_ba4f3_82 : decode cJ6_getChars_ba4f3 82 = .ok (.ineg, 1) := by decide +kernel
theorem dJ6_getChars_ba4f3_83 : decode cJ6_getChars_ba4f3 83 = .ok (.baload, 1) := by decide +kernel
theorem dJ6_getChars_ba4f3_84 : decode cJ6_getChars_ba4f3 84 = .ok (.bastore, 1) := by decide +kernel
theorem dJ6_getChars_ba4f3_85 : decode cJ6_getChars_ba4f3 85 = .ok (.iload_n 0, 1) := by decide +kernel
theorem dJ6_getChars_ba4f3_86 : decode cJ6_getChars_ba4f3 86 = .ok (.bipush (-9), 2) := by decide +kernel
theorem dJ6_getChars_ba4f3_88 : decode cJ6_getChars_ba4f3 88 = .ok (.if_icmp .ge 16, 3) := by decide +kernel
theorem dJ6_getChars_ba4f3_91 : decode cJ6_getChars_ba4f3 91 = .ok (.aload_n 2, 1) := by decide +kernel
theorem dJ6_getChars_ba4f3_92 : decode cJ6_getChars_ba4f3 92 = .ok (.iinc 5 (-1), 3) := by decide +kernel
theorem dJ6_getChars_ba4f3_95 : decode cJ6_getChars_ba4f3 95 = .ok (.iload 5, 2) := by decide +kernel
theorem dJ6_getChars_ba4f3_97 : decode cJ6_getChars_ba4f3 97 = .ok (.getstatic 87, 3) := by decide +kernel
theorem dJ6_getChars_ba4f3_100 : decode cJ6_getChars_ba4f3 100 = .ok (.iload_n 0, 1) := by decide +kernel
theorem dJ6_getChars_ba4f3_101 : decode cJ6_getChars_ba4f3 101 = .ok (.ineg, 1) := by decide +kernel
theorem dJ6_getChars_ba4f3_102 : decode cJ6_getChars_ba4f3 102 = .ok (.baload, 1) := by decide +kernel
theorem dJ6_getChars_ba4f3_103 : decode cJ6_getChars_ba4f3 103 = .ok (.bastore, 1) := by decide +kernel
theorem dJ6_getChars_ba4f3_104 : decode cJ6_getChars_ba4f3 104 = .ok (.iload 6, 2) := by decide +kernel
theorem dJ6_getChars_ba4f3_106 : decode cJ6_getChars_ba4f3 106 = .ok (.ifCond .eq 12, 3) := by decide +kernel
theorem dJ6_getChars_ba4f3_109 : decode cJ6_getChars_ba4f3 109 = .ok (.aload_n 2, 1) := by decide +kernel
theorem dJ6_getChars_ba4f3_110 : decode cJ6_getChars_ba4f3 110 = .ok (.iinc 5 (-1), 3) := by decide +kernel
theorem dJ6_getChars_ba4f3_113 : decode cJ6_getChars_ba4f3 113 = .ok (.iload 5, 2) := by decide +kernel
theorem dJ6_getChars_ba4f3_115 : decode cJ6_getChars_ba4f3 115 = .ok (.bipush 45, 2) := by decide +kernel
theorem dJ6_getChars_ba4f3_117 : decode cJ6_getChars_ba4f3 117 = .ok (.bastore, 1) := by decide +kernel
theorem dJ6_getChars_ba4f3_118 : decode cJ6_getChars_ba4f3 118 = .ok (.iload 5, 2) := by decide +kernel
theorem dJ6_getChars_ba4f3_120 : decode cJ6_getChars_ba4f3 120 = .ok (.ireturn, 1) := by decide +kernel
theorem dJ6_stringSize_0f7a4_0 : decode cJ6_stringSize_0f7a4 0 = .ok (.iconst 1, 1) := by decide +kernel
theorem dJ6_stringSize_0f7a4_1 : decode cJ6_stringSize_0f7a4 1 = .ok (.istore_n 1, 1) := by decide +kernel
theorem dJ6_stringSize_0f7a4_2 : decode cJ6_stringSize_0f7a4 2 = .ok (.iload_n 0, 1) := by decide +kernel
theorem dJ6_stringSize_0f7a4_3 : decode cJ6_stringSize_0f7a4 3 = .ok (.ifCond .lt 8, 3) := by decide +kernel
theorem dJ6_stringSize_0f7a4_6 : decode cJ6_stringSize_0f7a4 6 = .ok (.iconst 0, 1) := by decide +kernel
theorem dJ6_stringSize_0f7a4_7 : decode cJ6_stringSize_0f7a4 7 = .ok (.istore_n 1, 1) := by decide +kernel
theorem dJ6_stringSize_0f7a4_8 : decode cJ6_stringSize_0f7a4 8 = .ok (.iload_n 0, 1) := by decide +kernel
theorem dJ6_stringSize_0f7a4_9 : decode cJ6_stringSize_0f7a4 9 = .ok (.ineg, 1) := by decide +kernel
theorem dJ6_stringSize_0f7a4_10 : decode cJ6_stringSize_0f7a4 10 = .ok (.istore_n 0, 1) := by decide +kernel
theorem dJ6_stringSize_0f7a4_11 : decode cJ6_stringSize_0f7a4 11 = .ok (.bipush (-10), 2) := by decide +kernel
theorem dJ6_stringSize_0f7a4_13 : decode cJ6_stringSize_0f7a4 13 = .ok (.istore_n 2, 1) := by decide +kernel
theorem dJ6_stringSize_0f7a4_14 : decode cJ6_stringSize_0f7a4 14 = .ok (.iconst 1, 1) := by decide +kernel
theorem dJ6_stringSize_0f7a4_15 : decode cJ6_stringSize_0f7a4 15 = .ok (.istore_n 3, 1) := by decide +kernel
theorem dJ6_stringSize_0f7a4_16 : decode cJ6_stringSize_0f7a4 16 = .ok (.iload_n 3, 1) := by decide +kernel
theorem dJ6_stringSize_0f7a4_17 : decode cJ6_stringSize_0f7a4 17 = .ok (.bipush 10, 2) := by decide +kernel
theorem dJ6_stringSize_0f7a4_19 : decode cJ6_stringSize_0f7a4 19 = .ok (.if_icmp .ge 23, 3) := by decide +kernel
theorem dJ6_stringSize_0f7a4_22 : decode cJ6_stringSize_0f7a4 22 = .ok (.iload_n 0, 1) := by decide +kernel
theorem dJ6_stringSize_0f7a4_23 : decode cJ6_stringSize_0f7a4 23 = .ok (.iload_n 2, 1) := by decide +kernel
theorem dJ6_stringSize_0f7a4_24 : decode cJ6_stringSize_0f7a4 24 = .ok (.if_icmp .le 7, 3) := by decide +kernel
theorem dJ6_stringSize_0f7a4_27 : decode cJ6_stringSize_0f7a4 27 = .ok (.iload_n 3, 1) := by decide +kernel
theorem dJ6_stringSize_0f7a4_28 : decode cJ6_stringSize_0f7a4 28 = .ok (.iload_n 1, 1) := by decide +kernel
theorem dJ6_stringSize_0f7a4_29 : decode cJ6_stringSize_0f7a4 29 = .ok (.iadd, 1) := by decide +kernel
theorem dJ6_stringSize_0f7a4_30 : decode cJ6_stringSize_0f7a4 30 = .ok (.ireturn, 1) := by decide +kernel
theorem dJ6_stringSize_0f7a4_31 : decode cJ6_stringSize_0f7a4 31 = .ok (.bipush 10, 2) := by decide +kernel
theorem dJ6_stringSize_0f7a4_33 : decode cJ6_stringSize_0f7a4 33 = .ok (.iload_n 2, 1) := by decide +kernel
theorem dJ6_stringSize_0f7a4_34 : decode cJ6_stringSize_0f7a4 34 = .ok (.imul, 1) := by decide +kernel
theorem dJ6_stringSize_0f7a4_35 : decode cJ6_stringSize_0f7a4 35 = .ok (.istore_n 2, 1) := by decide +kernel
theorem dJ6_stringSize_0f7a4_36 : decode cJ6_stringSize_0f7a4 36 = .ok (.iinc 3 1, 3) := by decide +kernel
theorem dJ6_stringSize_0f7a4_39 : decode cJ6_stringSize_0f7a4 39 = .ok (.goto (-23), 3) := by decide +kernel
theorem dJ6_stringSize_0f7a4_42 : decode cJ6_stringSize_0f7a4 42 = .ok (.bipush 10, 2) := by decide +kernel
theorem dJ6_stringSize_0f7a4_44 : decode cJ6_stringSize_0f7a4 44 = .ok (.iload_n 1, 1) := by decide +kernel
theorem dJ6_stringSize_0f7a4_45 : decode cJ6_stringSize_0f7a4 45 = .ok (.iadd, 1) := by decide +kernel
theorem dJ6_stringSize_0f7a4_46 : decode cJ6_stringSize_0f7a4 46 = .ok (.ireturn, 1) := by decide +kernel
theorem dJ9_max_7cf53_0 : decode cJ9_max_7cf53 0 = .ok (.iload_n 0, 1) := by decide +kernel
theorem dJ9_max_7cf53_1 : decode cJ9_max_7cf53 1 = .ok (.iload_n 1, 1) := by decide +kernel
theorem dJ9_max_7cf53_2 : decode cJ9_max_7cf53 2 = .ok (.if_icmp .lt 7, 3) := by decide +kernel
theorem dJ9_max_7cf53_5 : decode cJ9_max_7cf53 5 = .ok (.iload_n 0, 1) := by decide +kernel
theorem dJ9_max_7cf53_6 : decode cJ9_max_7cf53 6 = .ok (.goto 4, 3) := by decide +kernel
theorem dJ9_max_7cf53_9 : decode cJ9_max_7cf53 9 = .ok (.iload_n 1, 1) := by decide +kernel
theorem dJ9_max_7cf53_10 : decode cJ9_max_7cf53 10 = .ok (.ireturn, 1) := by decide +kernel
theorem dJ9_min_7cf53_0 : decode cJ9_min_7cf53 0 = .ok (.iload_n 0, 1) := by decide +kernel
theorem dJ9_min_7cf53_1 : decode cJ9_min_7cf53 1 = .ok (.iload_n 1, 1) := by decide +kernel
theorem dJ9_min_7cf53_2 : decode cJ9_min_7cf53 2 = .ok (.if_icmp .gt 7, 3) := by decide +kernel
theorem dJ9_min_7cf53_5 : decode cJ9_min_7cf53 5 = .ok (.iload_n 0, 1) := by decide +kernel
theorem dJ9_min_7cf53_6 : decode cJ9_min_7cf53 6 = .ok (.goto 4, 3) := by decide +kernel
theorem dJ9_min_7cf53_9 : decode cJ9_min_7cf53 9 = .ok (.iload_n 1, 1) := by decide +kernel
theorem dJ9_min_7cf53_10 : decode cJ9_min_7cf53 10 = .ok (.ireturn, 1) := by decide +kernel
theorem dJ0_checkIndex_df160_0 : decode cJ0_checkIndex_df160 0 = .ok (.iload_n 0, 1) := by decide +kernel
theorem dJ0_checkIndex_df160_1 : decode cJ0_checkIndex_df160 1 = .ok (.iload_n 1, 1) := by decide +kernel
theorem dJ0_checkIndex_df160_2 : decode cJ0_checkIndex_df160 2 = .ok (.getstatic 1053, 3) := by decide +kernel
theorem dJ0_checkIndex_df160_5 : decode cJ0_checkIndex_df160 5 = .ok (.invokestatic 1059, 3) := by decide +kernel
theorem dJ0_checkIndex_df160_8 : decode cJ0_checkIndex_df160 8 = .ok (.pop, 1) := by decide +kernel
theorem dJ0_checkIndex_df160_9 : decode cJ0_checkIndex_df160 9 = .ok (.return_, 1) := by decide +kernel
theorem dJ0_checkBoundsOffCount_cabcc_0 : decode cJ0_checkBoundsOffCount_cabcc 0 = .ok (.iload_n 0, 1) := by decide +kernel
theorem dJ0_checkBoundsOffCount_cabcc_1 : decode cJ0_checkBoundsOffCount_cabcc 1 = .ok (.iload_n 1, 1) := by decide +kernel
theorem dJ0_checkBoundsOffCount_cabcc_2 : decode cJ0_checkBoundsOffCount_cabcc 2 = .ok (.iload_n 2, 1) := by decide +kernel
theorem dJ0_checkBoundsOffCount_cabcc_3 : decode cJ0_checkBoundsOffCount_cabcc 3 = .ok (.getstatic 1053, 3) := by decide +kernel
theorem dJ0_checkBoundsOffCount_cabcc_6 : decode cJ0_checkBoundsOffCount_cabcc 6 = .ok (.invokestatic 1065, 3) := by decide +kernel
theorem dJ0_checkBoundsOffCount_cabcc_9 : decode cJ0_checkBoundsOffCount_cabcc 9 = .ok (.ireturn, 1) := by decide +kernel
theorem dJ0_checkBoundsBeginEnd_23922_0 : decode cJ0_checkBoundsBeginEnd_23922 0 = .ok (.iload_n 0, 1) := by decide +kernel
theorem dJ0_checkBoundsBeginEnd_23922_1 : decode cJ0_checkBoundsBeginEnd_23922 1 = .ok (.iload_n 1, 1) := by decide +kernel
theorem dJ0_checkBoundsBeginEnd_23922_2 : decode cJ0_checkBoundsBeginEnd_23922 2 = .ok (.iload_n 2, 1) := by decide +kernel
theorem dJ0_checkBoundsBeginEnd_23922_3 : decode cJ0_checkBoundsBeginEnd_23922 3 = .ok (.getstatic 1053, 3) := by decide +kernel
theorem dJ0_checkBoundsBeginEnd_23922_6 : decode cJ0_checkBoundsBeginEnd_23922 6 = .ok (.invokestatic 1062, 3) := by decide +kernel
theorem dJ0_checkBoundsBeginEnd_23922_9 : decode cJ0_checkBoundsBeginEnd_23922 9 = .ok (.pop, 1) := by decide +kernel
theorem dJ0_checkBoundsBeginEnd_23922_10 : decode cJ0_checkBoundsBeginEnd_23922 10 = .ok (.return_, 1) := by decide +kernel
theorem dJ4_init_da8c8_0 : decode cJ4_init_da8c8 0 = .ok (.aload_n 0, 1) := by decide +kernel
theorem dJ4_init_da8c8_1 : decode cJ4_init_da8c8 1 = .ok (.bipush 16, 2) := by decide +kernel
theorem dJ4_init_da8c8_3 : decode cJ4_init_da8c8 3 = .ok (.invokespecial 1, 3) := by decide +kernel
theorem dJ4_init_da8c8_6 : decode cJ4_init_da8c8 6 = .ok (.return_, 1) := by decide +kernel
theorem dJ4_append_cf468_0 : decode cJ4_append_cf468 0 = .ok (.aload_n 0, 1) := by decide +kernel
theorem dJ4_append_cf468_1 : decode cJ4_append_cf468 1 = .ok (.iload_n 1, 1) := by decide +kernel
theorem dJ4_append_cf468_2 : decode cJ4_append_cf468 2 = .ok (.invokespecial 50, 3) := by decide +kernel
theorem dJ4_append_cf468_5 : decode cJ4_append_cf468 5 = .ok (.pop, 1) := by decide +kernel
theorem dJ4_append_cf468_6 : decode cJ4_append_cf468 6 = .ok (.aload_n 0, 1) := by decide +kernel
theorem dJ4_append_cf468_7 : decode cJ4_append_cf468 7 = .ok (.areturn, 1) := by decide +kernel
theorem dJ4_append_bf812_0 : decode cJ4_append_bf812 0 = .ok (.aload_n 0, 1) := by decide +kernel
theorem dJ4_append_bf812_1 : decode cJ4_append_bf812 1 = .ok (.iload_n 1, 1) := by decide +kernel
theorem dJ4_append_bf812_2 : decode cJ4_append_bf812 2 = .ok (.invokespecial 53, 3) := by decide +kernel
theorem dJ4_append_bf812_5 : decode cJ4_append_bf812 5 = .ok (.pop, 1) := by decide +kernel
theorem dJ4_append_bf812_6 : decode cJ4_append_bf812 6 = .ok (.aload_n 0, 1) := by decide +kernel
theorem dJ4_append_bf812_7 : decode cJ4_append_bf812 7 = .ok (.areturn, 1) := by decide +kernel
theorem dJ4_charAt_5068e_0 : decode cJ4_charAt_5068e 0 = .ok (.aload_n 0, 1) := by decide +kernel
theorem dJ4_charAt_5068e_1 : decode cJ4_charAt_5068e 1 = .ok (.iload_n 1, 1) := by decide +kernel
theorem dJ4_charAt_5068e_2 : decode cJ4_charAt_5068e 2 = .ok (.invokespecial 329, 3) := by decide +kernel
theorem dJ4_charAt_5068e_5 : decode cJ4_charAt_5068e 5 = .ok (.ireturn, 1) := by decide +kernel
theorem dJ4_length_8abf5_0 : decode cJ4_length_8abf5 0 = .ok (.aload_n 0, 1) := by decide +kernel
theorem dJ4_length_8abf5_1 : decode cJ4_length_8abf5 1 = .ok (.invokespecial 343, 3) := by decide +kernel
theorem dJ4_length_8abf5_4 : decode cJ4_length_8abf5 4 = .ok (.ireturn, 1) := by decide +kernel
theorem dJ1_canEncode_fc78d_0 : decode cJ1_canEncode_fc78d 0 = .ok (.iload_n 0, 1) := by decide +kernel
theorem dJ1_canEncode_fc78d_1 : decode cJ1_canEncode_fc78d 1 = .ok (.sipush 255, 3) := by decide +kernel
theorem dJ1_canEncode_fc78d_4 : decode cJ1_canEncode_fc78d 4 = .ok (.if_icmp .gt 7, 3) := by decide +kernel
theorem dJ1_canEncode_fc78d_7 : decode cJ1_canEncode_fc78d 7 = .ok (.iconst 1, 1) := by decide +kernel
theorem dJ1_canEncode_fc78d_8 : decode cJ1_canEncode_fc78d 8 = .ok (.goto 4, 3) := by decide +kernel
theorem dJ1_canEncode_fc78d_11 : decode cJ1_canEncode_fc78d 11 = .ok (.iconst 0, 1) := by decide +kernel
theorem dJ1_canEncode_fc78d_12 : decode cJ1_canEncode_fc78d 12 = .ok (.ireturn, 1) := by decide +kernel
theorem dJ1_inflate_0e8fd_0 : decode cJ1_inflate_0e8fd 0 = .ok (.aload_n 0, 1) := by decide +kernel
theorem dJ1_inflate_0e8fd_1 : decode cJ1_inflate_0e8fd 1 = .ok (.iload_n 1, 1) := by decide +kernel
theorem dJ1_inflate_0e8fd_2 : decode cJ1_inflate_0e8fd 2 = .ok (.aload_n 2, 1) := by decide +kernel
theorem dJ1_inflate_0e8fd_3 : decode cJ1_inflate_0e8fd 3 = .ok (.iload_n 3, 1) := by decide +kernel
theorem dJ1_inflate_0e8fd_4 : decode cJ1_inflate_0e8fd 4 = .ok (.iload 4, 2) := by decide +kernel
theorem dJ1_inflate_0e8fd_6 : decode cJ1_inflate_0e8fd 6 = .ok (.invokestatic 240, 3) := by decide +kernel
theorem dJ1_inflate_0e8fd_9 : decode cJ1_inflate_0e8fd 9 = .ok (.return_, 1) := by decide +kernel
theorem dJ2_newBytesFor_77867_0 : decode cJ2_newBytesFor_77867 0 = .ok (.iload_n 0, 1) := by decide +kernel
theorem dJ2_newBytesFor_77867_1 : decode cJ2_newBytesFor_77867 1 = .ok (.invokestatic 11, 3) := by decide +kernel
theorem dJ2_newBytesFor_77867_4 : decode cJ2_newBytesFor_77867 4 = .ok (.newarray .byte, 2) := by decide +kernel
theorem dJ2_newBytesFor_77867_6 : decode cJ2_newBytesFor_77867 6 = .ok (.areturn, 1) := by decide +kernel
theorem dJ2_newBytesLength_0f7a4_0 : decode cJ2_newBytesLength_0f7a4 0 = .ok (.iload_n 0, 1) := by decide +kernel
theorem dJ2_newBytesLength_0f7a4_1 : decode cJ2_newBytesLength_0f7a4 1 = .ok (.ifCond .ge 11, 3) := by decide +kernel
theorem dJ2_newBytesLength_0f7a4_4 : decode cJ2_newBytesLength_0f7a4 4 = .ok (.new 17, 3) := by decide +kernel
theorem dJ2_newBytesLength_0f7a4_7 : decode cJ2_newBytesLength_0f7a4 7 = .ok (.dup, 1) := by decide +kernel
theorem dJ2_newBytesLength_0f7a4_8 : decode cJ2_newBytesLength_0f7a4 8 = .ok (.invokespecial 19, 3) := by decide +kernel
theorem dJ2_newBytesLength_0f7a4_11 : decode cJ2_newBytesLength_0f7a4 11 = .ok (.athrow, 1) := by decide +kernel
theorem dJ2_newBytesLength_0f7a4_12 : decode cJ2_newBytesLength_0f7a4 12 = .ok (.iload_n 0, 1) := by decide +kernel
theorem dJ2_newBytesLength_0f7a4_13 : decode cJ2_newBytesLength_0f7a4 13 = .ok (.ldc 20, 2) := by decide +kernel
theorem dJ2_newBytesLength_0f7a4_15 : decode cJ2_newBytesLength_0f7a4 15 = .ok (.if_icmp .lt 40, 3) := by decide +kernel
theorem dJ2_newBytesLength_0f7a4_18 : decode cJ2_newBytesLength_0f7a4 18 = .ok (.new 21, 3) := by decide +kernel
theorem dJ2_newBytesLength_0f7a4_21 : decode cJ2_newBytesLength_0f7a4 21 = .ok (.dup, 1) := by decide +kernel
theorem dJ2_newBytesLength_0f7a4_22 : decode cJ2_newBytesLength_0f7a4 22 = .ok (.new 23, 3) := by decide +kernel
theorem dJ2_newBytesLength_0f7a4_25 : decode cJ2_newBytesLength_0f7a4 25 = .ok (.dup, 1) := by decide +kernel
theorem dJ2_newBytesLength_0f7a4_26 : decode cJ2_newBytesLength_0f7a4 26 = .ok (.invokespecial 25, 3) := by decide +kernel
theorem dJ2_newBytesLength_0f7a4_29 : decode cJ2_newBytesLength_0f7a4 29 = .ok (.ldc 26, 2) := by decide +kernel
theorem dJ2_newBytesLength_0f7a4_31 : decode cJ2_newBytesLength_0f7a4 31 = .ok (.invokevirtual 28, 3) := by decide +kernel
theorem dJ2_newBytesLength_0f7a4_34 : decode cJ2_newBytesLength_0f7a4 34 = .ok (.iload_n 0, 1) := by decide +kernel
theorem dJ2_newBytesLength_0f7a4_35 : decode cJ2_newBytesLength_0f7a4 35 = .ok (.invokevirtual 32, 3) := by decide +kernel
theorem dJ2_newBytesLength_0f7a4_38 : decode cJ2_newBytesLength_0f7a4 38 = .ok (.ldc 35, 2) := by decide +kernel
theorem dJ2_newBytesLength_0f7a4_40 : decode cJ2_newBytesLength_0f7a4 40 = .ok (.invokevirtual 28, 3) := by decide +kernel
theorem dJ2_newBytesLength_0f7a4_43 : decode cJ2_newBytesLength_0f7a4 43 = .ok (.ldc 20, 2) := by decide +kernel
theorem dJ2_newBytesLength_0f7a4_45 : decode cJ2_newBytesLength_0f7a4 45 = .ok (.invokevirtual 32, 3) := by decide +kernel
theorem dJ2_newBytesLength_0f7a4_48 : decode cJ2_newBytesLength_0f7a4 48 = .ok (.invokevirtual 37, 3) := by decide +kernel
theorem dJ2_newBytesLength_0f7a4_51 : decode cJ2_newBytesLength_0f7a4 51 = .ok (.invokespecial 41, 3) := by decide +kernel
theorem dJ2_newBytesLength_0f7a4_54 : decode cJ2_newBytesLength_0f7a4 54 = .ok (.athrow, 1) := by decide +kernel
theorem dJ2_newBytesLength_0f7a4_55 : decode cJ2_newBytesLength_0f7a4 55 = .ok (.iload_n 0, 1) := by decide +kernel
theorem dJ2_newBytesLength_0f7a4_56 : decode cJ2_newBytesLength_0f7a4 56 = .ok (.iconst 1, 1) := by decide +kernel
theorem dJ2_newBytesLength_0f7a4_57 : decode cJ2_newBytesLength_0f7a4 57 = .ok (.ishl, 1) := by decide +kernel
theorem dJ2_newBytesLength_0f7a4_58 : decode cJ2_newBytesLength_0f7a4 58 = .ok (.ireturn, 1) := by decide +kernel
theorem dJ2_putChar_b72d1_0 : decode cJ2_putChar_b72d1 0 = .ok (.getstatic 44, 3) := by decide +kernel
theorem dJ2_putChar_b72d1_3 : decode cJ2_putChar_b72d1 3 = .ok (.ifCond .ne 25, 3) := by decide +kernel
theorem dJ2_putChar_b72d1_6 : decode cJ2_putChar_b72d1 6 = .ok (.iload_n 1, 1) := by decide +kernel
theorem dJ2_putChar_b72d1_7 : decode cJ2_putChar_b72d1 7 = .ok (.ifCond .lt 11, 3) := by decide +kernel
theorem dJ2_putChar_b72d1_10 : decode cJ2_putChar_b72d1 10 = .ok (.iload_n 1, 1) := by decide +kernel
theorem dJ2_putChar_b72d1_11 : decode cJ2_putChar_b72d1 11 = .ok (.aload_n 0, 1) := by decide +kernel
theorem dJ2_putChar_b72d1_12 : decode cJ2_putChar_b72d1 12 = .ok (.invokestatic 48, 3) := by decide +kernel
theorem dJ2_putChar_b72d1_15 : decode cJ2_putChar_b72d1 15 = .ok (.if_icmp .lt 13, 3) := by decide +kernel
theorem dJ2_putChar_b72d1_18 : decode cJ2_putChar_b72d1 18 = .ok (.new 52, 3) := by decide +kernel
theorem dJ2_putChar_b72d1_21 : decode cJ2_putChar_b72d1 21 = .ok (.dup, 1) := by decide +kernel
theorem dJ2_putChar_b72d1_22 : decode cJ2_putChar_b72d1 22 = .ok (.ldc 54, 2) := by decide +kernel
theorem dJ2_putChar_b72d1_24 : decode cJ2_putChar_b72d1 24 = .ok (.invokespecial 56, 3) := by decide +kernel
theorem dJ2_putChar_b72d1_27 : decode cJ2_putChar_b72d1 27 = .ok (.athrow, 1) := by decide +kernel
theorem dJ2_putChar_b72d1_28 : decode cJ2_putChar_b72d1 28 = .ok (.iload_n 1, 1) := by decide +kernel
theorem dJ2_putChar_b72d1_29 : decode cJ2_putChar_b72d1 29 = .ok (.iconst 1, 1) := by decide +kernel
theorem dJ2_putChar_b72d1_30 : decode cJ2_putChar_b72d1 30 = .ok (.ishl, 1) := by decide +kernel
theorem dJ2_putChar_b72d1_31 : decode cJ2_putChar_b72d1 31 = .ok (.istore_n 1, 1) := by decide +kernel
theorem dJ2_putChar_b72d1_32 : decode cJ2_putChar_b72d1 32 = .ok (.aload_n 0, 1) := by decide +kernel
theorem dJ2_putChar_b72d1_33 : decode cJ2_putChar_b72d1 33 = .ok (.iload_n 1, 1) := by decide +kernel
theorem dJ2_putChar_b72d1_34 : decode cJ2_putChar_b72d1 34 = .ok (.iinc 1 1, 3) := by decide +kernel
theorem dJ2_putChar_b72d1_37 : decode cJ2_putChar_b72d1 37 = .ok (.iload_n 2, 1) := by decide +kernel
theorem dJ2_putChar_b72d1_38 : decode cJ2_putChar_b72d1 38 = .ok (.getstatic 59, 3) := by decide +kernel
theorem dJ2_putChar_b72d1_41 : decode cJ2_putChar_b72d1 41 = .ok (.ishr, 1) := by decide +kernel
theorem dJ2_putChar_b72d1_42 : decode cJ2_putChar_b72d1 42 = .ok (.i2b, 1) := by decide +kernel
theorem dJ2_putChar_b72d1_43 : decode cJ2_putChar_b72d1 43 = .ok (.bastore, 1) := by decide +kernel
theorem dJ2_putChar_b72d1_44 : decode cJ2_putChar_b72d1 44 = .ok (.aload_n 0, 1) := by decide +kernel
theorem dJ2_putChar_b72d1_45 : decode cJ2_putChar_b72d1 45 = .ok (.iload_n 1, 1) := by decide +kernel
theorem dJ2_putChar_b72d1_46 : decode cJ2_putChar_b72d1 46 = .ok (.iload_n 2, 1) := by decide +kernel
theorem dJ2_putChar_b72d1_47 : decode cJ2_putChar_b72d1 47 = .ok (.getstatic 63, 3) := by decide +kernel
theorem dJ2_putChar_b72d1_50 : decode cJ2_putChar_b72d1 50 = .ok (.ishr, 1) := by decide +kernel
theorem dJ2_putChar_b72d1_51 : decode cJ2_putChar_b72d1 51 = .ok (.i2b, 1) := by decide +kernel
theorem dJ2_putChar_b72d1_52 : decode cJ2_putChar_b72d1 52 = .ok (.bastore, 1) := by decide +kernel
theorem dJ2_putChar_b72d1_53 : decode cJ2_putChar_b72d1 53 = .ok (.return_, 1) := by decide +kernel
theorem dJ2_getChar_3b067_0 : decode cJ2_getChar_3b067 0 = .ok (.getstatic 44, 3) := by decide +kernel
theorem dJ2_getChar_3b067_3 : decode cJ2_getChar_3b067 3 = .ok (.ifCond .ne 25, 3) := by decide +kernel
theorem dJ2_getChar_3b067_6 : decode cJ2_getChar_3b067 6 = .ok (.iload_n 1, 1) := by decide +kernel
theorem dJ2_getChar_3b067_7 : decode cJ2_getChar_3b067 7 = .ok (.ifCond .lt 11, 3) := by decide +kernel
theorem dJ2_getChar_3b067_10 : decode cJ2_getChar_3b067 10 = .ok (.iload_n 1, 1) := by decide +kernel
theorem dJ2_getChar_3b067_11 : decode cJ2_getChar_3b067 11 = .ok (.aload_n 0, 1) := by decide +kernel
theorem dJ2_getChar_3b067_12 : decode cJ2_getChar_3b067 12 = .ok (.invokestatic 48, 3) := by decide +kernel
theorem dJ2_getChar_3b067_15 : decode cJ2_getChar_3b067 15 = .ok (.if_icmp .lt 13, 3) := by decide +kernel
theorem dJ2_getChar_3b067_18 : decode cJ2_getChar_3b067 18 = .ok (.new 52, 3) := by decide +kernel
theorem dJ2_getChar_3b067_21 : decode cJ2_getChar_3b067 21 = .ok (.dup, 1) := by decide +kernel
theorem dJ2_getChar_3b067_22 : decode cJ2_getChar_3b067 22 = .ok (.ldc 54, 2) := by decide +kernel
theorem dJ2_getChar_3b067_24 : decode cJ2_getChar_3b067 24 = .ok (.invokespecial 56, 3) := by decide +kernel
theorem dJ2_getChar_3b067_27 : decode cJ2_getChar_3b067 27 = .ok (.athrow, 1) := by decide +kernel
theorem dJ2_getChar_3b067_28 : decode cJ2_getChar_3b067 28 = .ok (.iload_n 1, 1) := by decide +kernel
theorem dJ2_getChar_3b067_29 : decode cJ2_getChar_3b067 29 = .ok (.iconst 1, 1) := by decide +kernel
theorem dJ2_getChar_3b067_30 : decode cJ2_getChar_3b067 30 = .ok (.ishl, 1) := by decide +kernel
theorem dJ2_getChar_3b067_31 : decode cJ2_getChar_3b067 31 = .ok (.istore_n 1, 1) := by decide +kernel
theorem dJ2_getChar_3b067_32 : decode cJ2_getChar_3b067 32 = .ok (.aload_n 0, 1) := by decide +kernel
theorem dJ2_getChar_3b067_33 : decode cJ2_getChar_3b067 33 = .ok (.iload_n 1, 1) := by decide +kernel
theorem dJ2_getChar_3b067_34 : decode cJ2_getChar_3b067 34 = .ok (.iinc 1 1, 3) := by decide +kernel
theorem dJ2_getChar_3b067_37 : decode cJ2_getChar_3b067 37 = .ok (.baload, 1) := by decide +kernel
theorem dJ2_getChar_3b067_38 : decode cJ2_getChar_3b067 38 = .ok (.sipush 255, 3) := by decide +kernel
theorem dJ2_getChar_3b067_41 : decode cJ2_getChar_3b067 41 = .ok (.iand, 1) := by decide +kernel
theorem dJ2_getChar_3b067_42 : decode cJ2_getChar_3b067 42 = .ok (.getstatic 59, 3) := by decide +kernel
theorem dJ2_getChar_3b067_45 : decode cJ2_getChar_3b067 45 = .ok (.ishl, 1) := by decide +kernel
theorem dJ2_getChar_3b067_46 : decode cJ2_getChar_3b067 46 = .ok (.aload_n 0, 1) := by decide +kernel
theorem dJ2_getChar_3b067_47 : decode cJ2_getChar_3b067 47 = .ok (.iload_n 1, 1) := by decide +kernel
theorem dJ2_getChar_3b067_48 : decode cJ2_getChar_3b067 48 = .ok (.baload, 1) := by decide +kernel
theorem dJ2_getChar_3b067_49 : decode cJ2_getChar_3b067 49 = .ok (.sipush 255, 3) := by decide +kernel
theorem dJ2_getChar_3b067_52 : decode cJ2_getChar_3b067 52 = .ok (.iand, 1) := by decide +kernel
theorem dJ2_getChar_3b067_53 : decode cJ2_getChar_3b067 53 = .ok (.getstatic 63, 3) := by decide +kernel
theorem dJ2_getChar_3b067_56 : decode cJ2_getChar_3b067 56 = .ok (.ishl, 1) := by decide +kernel
theorem dJ2_getChar_3b067_57 : decode cJ2_getChar_3b067 57 = .ok (.ior, 1) := by decide +kernel
theorem dJ2_getChar_3b067_58 : decode cJ2_getChar_3b067 58 = .ok (.i2c, 1) := by decide +kernel
theorem dJ2_getChar_3b067_59 : decode cJ2_getChar_3b067 59 = .ok (.ireturn, 1) := by decide +kernel
theorem dJ2_length_9d52b_0 : decode cJ2_length_9d52b 0 = .ok (.aload_n 0, 1) := by decide +kernel
theorem dJ2_length_9d52b_1 : decode cJ2_length_9d52b 1 = .ok (.arraylength, 1) := by decide +kernel
theorem dJ2_length_9d52b_2 : decode cJ2_length_9d52b 2 = .ok (.iconst 1, 1) := by decide +kernel
theorem dJ2_length_9d52b_3 : decode cJ2_length_9d52b 3 = .ok (.ishr, 1) := by decide +kernel
theorem dJ2_length_9d52b_4 : decode cJ2_length_9d52b 4 = .ok (.ireturn, 1) := by decide +kernel
theorem dJ2_putCharSB_b72d1_0 : decode cJ2_putCharSB_b72d1 0 = .ok (.iload_n 1, 1) := by decide +kernel
theorem dJ2_putCharSB_b72d1_1 : decode cJ2_putCharSB_b72d1 1 = .ok (.aload_n 0, 1) := by decide +kernel
theorem dJ2_putCharSB_b72d1_2 : decode cJ2_putCharSB_b72d1 2 = .ok (.invokestatic 67, 3) := by decide +kernel
theorem dJ2_putCharSB_b72d1_5 : decode cJ2_putCharSB_b72d1 5 = .ok (.aload_n 0, 1) := by decide +kernel
theorem dJ2_putCharSB_b72d1_6 : decode cJ2_putCharSB_b72d1 6 = .ok (.iload_n 1, 1) := by decide +kernel
theorem dJ2_putCharSB_b72d1_7 : decode cJ2_putCharSB_b72d1 7 = .ok (.iload_n 2, 1) := by decide +kernel
theorem dJ2_putCharSB_b72d1_8 : decode cJ2_putCharSB_b72d1 8 = .ok (.invokestatic 111, 3) := by decide +kernel
theorem dJ2_putCharSB_b72d1_11 : decode cJ2_putCharSB_b72d1 11 = .ok (.return_, 1) := by decide +kernel
theorem dJ2_getChars_46870_0 : decode cJ2_getChars_46870 0 = .ok (.iload_n 1, 1) := by decide +kernel
theorem dJ2_getChars_46870_1 : decode cJ2_getChars_46870 1 = .ok (.iload_n 2, 1) := by decide +kernel
theorem dJ2_getChars_46870_2 : decode cJ2_getChars_46870 2 = .ok (.aload_n 3, 1) := by decide +kernel
theorem dJ2_getChars_46870_3 : decode cJ2_getChars_46870 3 = .ok (.invokestatic 96, 3) := by decide +kernel
theorem dJ2_getChars_46870_6 : decode cJ2_getChars_46870 6 = .ok (.iload_n 0, 1) := by decide +kernel
theorem dJ2_getChars_46870_7 : decode cJ2_getChars_46870 7 = .ok (.iload_n 2, 1) := by decide +kernel
theorem dJ2_getChars_46870_8 : decode cJ2_getChars_46870 8 = .ok (.aload_n 3, 1) := by decide +kernel
theorem dJ2_getChars_46870_9 : decode cJ2_getChars_46870 9 = .ok (.invokestatic 393, 3) := by decide +kernel
theorem dJ2_getChars_46870_12 : decode cJ2_getChars_46870 12 = .ok (.istore 4, 2) := by decide +kernel
theorem dJ2_getChars_46870_14 : decode cJ2_getChars_46870 14 = .ok (.getstatic 44, 3) := by decide +kernel
theorem dJ2_getChars_46870_17 : decode cJ2_getChars_46870 17 = .ok (.ifCond .ne 17, 3) := by decide +kernel
theorem dJ2_getChars_46870_20 : decode cJ2_getChars_46870 20 = .ok (.iload_n 1, 1) := by decide +kernel
theorem dJ2_getChars_46870_21 : decode cJ2_getChars_46870 21 = .ok (.iload 4, 2) := by decide +kernel
theorem dJ2_getChars_46870_23 : decode cJ2_getChars_46870 23 = .ok (.if_icmp .eq 11, 3) := by decide +kernel
theorem dJ2_getChars_46870_26 : decode cJ2_getChars_46870 26 = .ok (.new 52, 3) := by decide +kernel
theorem dJ2_getChars_46870_29 : decode cJ2_getChars_46870 29 = .ok (.dup, 1) := by decide +kernel
theorem dJ2_getChars_46870_30 : decode cJ2_getChars_46870 30 = .ok (.invokespecial 66, 3) := by decide +kernel
theorem dJ2_getChars_46870_33 : decode cJ2_getChars_46870 33 = .ok (.athrow, 1) := by decide +kernel
theorem dJ2_getChars_46870_34 : decode cJ2_getChars_46870 34 = .ok (.iload 4, 2) := by decide +kernel
theorem dJ2_getChars_46870_36 : decode cJ2_getChars_46870 36 = .ok (.ireturn, 1) := by decide +kernel
theorem dJ2_inflate_0e8fd_0 : decode cJ2_inflate_0e8fd 0 = .ok (.iload_n 3, 1) := by decide +kernel
theorem dJ2_inflate_0e8fd_1 : decode cJ2_inflate_0e8fd 1 = .ok (.iload 4, 2) := by decide +kernel
theorem dJ2_inflate_0e8fd_3 : decode cJ2_inflate_0e8fd 3 = .ok (.aload_n 2, 1) := by decide +kernel
theorem dJ2_inflate_0e8fd_4 : decode cJ2_inflate_0e8fd 4 = .ok (.invokestatic 173, 3) := by decide +kernel
theorem dJ2_inflate_0e8fd_7 : decode cJ2_inflate_0e8fd 7 = .ok (.iconst 0, 1) := by decide +kernel
theorem dJ2_inflate_0e8fd_8 : decode cJ2_inflate_0e8fd 8 = .ok (.istore 5, 2) := by decide +kernel
theorem dJ2_inflate_0e8fd_10 : decode cJ2_inflate_0e8fd 10 = .ok (.iload 5, 2) := by decide +kernel
theorem dJ2_inflate_0e8fd_12 : decode cJ2_inflate_0e8fd 12 = .ok (.iload 4, 2) := by decide +kernel
theorem dJ2_inflate_0e8fd_14 : decode cJ2_inflate_0e8fd 14 = .ok (.if_icmp .ge 27, 3) := by decide +kernel
theorem dJ2_inflate_0e8fd_17 : decode cJ2_inflate_0e8fd 17 = .ok (.aload_n 2, 1) := by decide +kernel
theorem dJ2_inflate_0e8fd_18 : decode cJ2_inflate_0e8fd 18 = .ok (.iload_n 3, 1) := by decide +kernel
theorem dJ2_inflate_0e8fd_19 : decode cJ2_inflate_0e8fd 19 = .ok (.iinc 3 1, 3) := by decide +kernel
theorem dJ2_inflate_0e8fd_22 : decode cJ2_inflate_0e8fd 22 = .ok (.aload_n 0, 1) := by decide +kernel
theorem dJ2_inflate_0e8fd_23 : decode cJ2_inflate_0e8fd 23 = .ok (.iload_n 1, 1) := by decide +kernel
theorem dJ2_inflate_0e8fd_24 : decode cJ2_inflate_0e8fd 24 = .ok (.iinc 1 1, 3) := by decide +kernel
theorem dJ2_inflate_0e8fd_27 : decode cJ2_inflate_0e8fd 27 = .ok (.baload, 1) := by decide +kernel
theorem dJ2_inflate_0e8fd_28 : decode cJ2_inflate_0e8fd 28 = .ok (.sipush 255, 3) := by decide +kernel
theorem dJ2_inflate_0e8fd_31 : decode cJ2_inflate_0e8fd 31 = .ok (.iand, 1) := by decide +kernel
theorem dJ2_inflate_0e8fd_32 : decode cJ2_inflate_0e8fd 32 = .ok (.invokestatic 111, 3) := by decide +kernel
theorem dJ2_inflate_0e8fd_35 : decode cJ2_inflate_0e8fd 35 = .ok (.iinc 5 1, 3) := by decide +kernel
theorem dJ2_inflate_0e8fd_38 : decode cJ2_inflate_0e8fd 38 = .ok (.goto (-28), 3) := by decide +kernel
theorem dJ2_inflate_0e8fd_41 : decode cJ2_inflate_0e8fd 41 = .ok (.return_, 1) := by decide +kernel
theorem dJ2_getChars_ba4f3_0 : decode cJ2_getChars_ba4f3 0 = .ok (.iload_n 1, 1) := by decide +kernel
theorem dJ2_getChars_ba4f3_1 : decode cJ2_getChars_ba4f3 1 = .ok (.istore 5, 2) := by decide +kernel
theorem dJ2_getChars_ba4f3_3 : decode cJ2_getChars_ba4f3 3 = .ok (.iload_n 0, 1) := by decide +kernel
theorem dJ2_getChars_ba4f3_4 : decode cJ2_getChars_ba4f3 4 = .ok (.ifCond .ge 7, 3) := by decide +kernel
theorem dJ2_getChars_ba4f3_7 : decode cJ2_getChars_ba4f3 7 = .ok (.iconst 1, 1) := by decide +kernel
theorem dJ2_getChars_ba4f3_8 : decode cJ2_getChars_ba4f3 8 = .ok (.goto 4, 3) := by decide +kernel
theorem dJ2_getChars_ba4f3_11 : decode cJ2_getChars_ba4f3 11 = .ok (.iconst 0, 1) := by decide +kernel
theorem dJ2_getChars_ba4f3_12 : decode cJ2_getChars_ba4f3 12 = .ok (.istore 6, 2) := by decide +kernel
theorem dJ2_getChars_ba4f3_14 : decode cJ2_getChars_ba4f3 14 = .ok (.iload 6, 2) := by decide +kernel
theorem dJ2_getChars_ba4f3_16 : decode cJ2_getChars_ba4f3 16 = .ok (.ifCond .ne 6, 3) := by decide +kernel
theorem dJ2_getChars_ba4f3_19 : decode cJ2_getChars_ba4f3 19 = .ok (.iload_n 0, 1) := by decide +kernel
theorem dJ2_getChars_ba4f3_20 : decode cJ2_getChars_ba4f3 20 = .ok (.ineg, 1) := by decide +kernel
theorem dJ2_getChars_ba4f3_21 : decode cJ2_getChars_ba4f3 21 = .ok (.istore_n 0, 1) := by decide +kernel
theorem dJ2_getChars_ba4f3_22 : decode cJ2_getChars_ba4f3 22 = .ok (.iload_n 0, 1) := by decide +kernel
theorem dJ2_getChars_ba4f3_23 : decode cJ2_getChars_ba4f3 23 = .ok (.bipush (-100), 2) := by decide +kernel
theorem dJ2_getChars_ba4f3_25 : decode cJ2_getChars_ba4f3 25 = .ok (.if_icmp .gt 51, 3) := by decide +kernel
theorem dJ2_getChars_ba4f3_28 : decode cJ2_getChars_ba4f3 28 = .ok (.iload_n 0, 1) := by decide +kernel
theorem dJ2_getChars_ba4f3_29 : decode cJ2_getChars_ba4f3 29 = .ok (.bipush 100, 2) := by decide +kernel
theorem dJ2_getChars_ba4f3_31 : decode cJ2_getChars_ba4f3 31 = .ok (.idiv, 1) := by decide +kernel
theorem dJ2_getChars_ba4f3_32 : decode cJ2_getChars_ba4f3 32 = .ok (.istore_n 3, 1) := by decide +kernel
theorem dJ2_getChars_ba4f3_33 : decode cJ2_getChars_ba4f3 33 = .ok (.iload_n 3, 1) := by decide +kernel
theorem dJ2_getChars_ba4f3_34 : decode cJ2_getChars_ba4f3 34 = .ok (.bipush 100, 2) := by decide +kernel
theorem dJ2_getChars_ba4f3_36 : decode cJ2_getChars_ba4f3 36 = .ok (.imul, 1) := by decide +kernel
theorem dJ2_getChars_ba4f3_37 : decode cJ2_getChars_ba4f3 37 = .ok (.iload_n 0, 1) := by decide +kernel
theorem dJ2_getChars_ba4f3_38 : decode cJ2_getChars_ba4f3 38 = .ok (.isub, 1) := by decide +kernel
theorem dJ2_getChars_ba4f3_39 : decode cJ2_getChars_ba4f3 39 = .ok (.istore 4, 2) := by decide +kernel
theorem dJ2_getChars_ba4f3_41 : decode cJ2_getChars_ba4f3 41 = .ok (.iload_n 3, 1) := by decide +kernel
theorem dJ2_getChars_ba4f3_42 : decode cJ2_getChars_ba4f3 42 = .ok (.istore_n 0, 1) := by decide +kernel
theorem dJ2_getChars_ba4f3_43 : decode cJ2_getChars_ba4f3 43 = .ok (.aload_n 2, 1) := by decide +kernel
theorem dJ2_getChars_ba4f3_44 : decode cJ2_getChars_ba4f3 44 = .ok (.iinc 5 (-1), 3) := by decide +kernel
theorem dJ2_getChars_ba4f3_47 : decode cJ2_getChars_ba4f3 47 = .ok (.iload 5, 2) := by decide +kernel
theorem dJ2_getChars_ba4f3_49 : decode cJ2_getChars_ba4f3 49 = .ok (.getstatic 403, 3) := by decide +kernel
theorem dJ2_getChars_ba4f3_52 : decode cJ2_getChars_ba4f3 52 = .ok (.iload 4, 2) := by decide +kernel
theorem dJ2_getChars_ba4f3_54 : decode cJ2_getChars_ba4f3 54 = .ok (.baload, 1) := by decide +kernel
theorem dJ2_getChars_ba4f3_55 : decode cJ2_getChars_ba4f3 55 = .ok (.invokestatic 111, 3) := by decide +kernel
theorem dJ2_getChars_ba4f3_58 : decode cJ2_getChars_ba4f3 58 = .ok (.aload_n 2, 1) := by decide +kernel
theorem dJ2_getChars_ba4f3_59 : decode cJ2_getChars_ba4f3 59 = .ok (.iinc 5 (-1), 3) := by decide +kernel
theorem dJ2_getChars_ba4f3_62 : decode cJ2_getChars_ba4f3 62 = .ok (.iload 5, 2) := by decide +kernel
theorem dJ2_getChars_ba4f3_64 : decode cJ2_getChars_ba4f3 64 = .ok (.getstatic 407, 3) := by decide +kernel
theorem dJ2_getChars_ba4f3_67 : decode cJ2_getChars_ba4f3 67 = .ok (.iload 4, 2) := by decide +kernel
theorem dJ2_getChars_ba4f3_69 : decode cJ2_getChars_ba4f3 69 = .ok (.baload, 1) := by decide +kernel
theorem dJ2_getChars_ba4f3_70 : decode cJ2_getChars_ba4f3 70 = .ok (.invokestatic 111, 3) := by decide +kernel
theorem dJ2_getChars_ba4f3_73 : decode cJ2_getChars_ba4f3 73 = .ok (.goto (-51), 3) := by decide +kernel
theorem dJ2_getChars_ba4f3_76 : decode cJ2_getChars_ba4f3 76 = .ok (.aload_n 2, 1) := by decide +kernel
theorem dJ2_getChars_ba4f3_77 : decode cJ2_getChars_ba4f3 77 = .ok (.iinc 5 (-1), 3) := by decide +kernel
theorem dJ2_getChars_ba4f3_80 : decode cJ2_getChars_ba4f3 80 = .ok (.iload 5, 2) := by decide +kernel
theorem dJ2_getChars_ba4f3_82 : decode cJ2_getChars_ba4f3 82 = .ok (.getstatic 403, 3) := by decide +kernel
theorem dJ2_getChars_ba4f3_85 : decode cJ2_getChars_ba4f3 85 = .ok (.iload_n 0, 1) := by decide +kernel
theorem dJ2_getChars_ba4f3_86 : decode cJ2_getChars_ba4f3 86 = .ok (.ineg, 1) := by decide +kernel
theorem dJ2_getChars_ba4f3_87 : decode cJ2_getChars_ba4f3 87 = .ok (.baload, 1) := by decide +kernel
theorem dJ2_getChars_ba4f3_88 : decode cJ2_getChars_ba4f3 88 = .ok (.invokestatic 111, 3) := by decide +kernel
theorem dJ2_getChars_ba4f3_91 : decode cJ2_getChars_ba4f3 91 = .ok (.iload_n 0, 1) := by decide +kernel
theorem dJ2_getChars_ba4f3_92 : decode cJ2_getChars_ba4f3 92 = .ok (.bipush (-9), 2) := by decide +kernel
theorem dJ2_getChars_ba4f3_94 : decode cJ2_getChars_ba4f3 94 = .ok (.if_icmp .ge 18, 3) := by decide +kernel
theorem dJ2_getChars_ba4f3_97 : decode cJ2_getChars_ba4f3 97 = .ok (.aload_n 2, 1) := by decide +kernel
theorem dJ2_getChars_ba4f3_98 : decode cJ2_getChars_ba4f3 98 = .ok (.iinc 5 (-1), 3) := by decide +kernel
theorem dJ2_getChars_ba4f3_101 : decode cJ2_getChars_ba4f3 101 = .ok (.iload 5, 2) := by decide +kernel
theorem dJ2_getChars_ba4f3_103 : decode cJ2_getChars_ba4f3 103 = .ok (.getstatic 407, 3) := by decide +kernel
theorem dJ2_getChars_ba4f3_106 : decode cJ2_getChars_ba4f3 106 = .ok (.iload_n 0, 1) := by decide +kernel
theorem dJ2_getChars_ba4f3_107 : decode cJ2_getChars_ba4f3 107 = .ok (.ineg, 1) := by decide +kernel
theorem dJ2_getChars_ba4f3_108 : decode cJ2_getChars_ba4f3 108 = .ok (.baload, 1) := by decide +kernel
theorem dJ2_getChars_ba4f3_109 : decode cJ2_getChars_ba4f3 109 = .ok (.invokestatic 111, 3) := by decide +kernel
theorem dJ2_getChars_ba4f3_112 : decode cJ2_getChars_ba4f3 112 = .ok (.iload 6, 2) := by decide +kernel
theorem dJ2_getChars_ba4f3_114 : decode cJ2_getChars_ba4f3 114 = .ok (.ifCond .eq 14, 3) := by decide +kernel
theorem dJ2_getChars_ba4f3_117 : decode cJ2_getChars_ba4f3 117 = .ok (.aload_n 2, 1) := by decide +kernel
theorem dJ2_getChars_ba4f3_118 : decode cJ2_getChars_ba4f3 118 = .ok (.iinc 5 (-1), 3) := by decide +kernel
theorem dJ2_getChars_ba4f3_121 : decode cJ2_getChars_ba4f3 121 = .ok (.iload 5, 2) := by decide +kernel
theorem dJ2_getChars_ba4f3_123 : decode cJ2_getChars_ba4f3 123 = .ok (.bipush 45, 2) := by decide +kernel
theorem dJ2_getChars_ba4f3_125 : decode cJ2_getChars_ba4f3 125 = .ok (.invokestatic 111, 3) := by decide +kernel
theorem dJ2_getChars_ba4f3_128 : decode cJ2_getChars_ba4f3 128 = .ok (.iload 5, 2) := by decide +kernel
theorem dJ2_getChars_ba4f3_130 : decode cJ2_getChars_ba4f3 130 = .ok (.ireturn, 1) := by decide +kernel
theorem dJ2_checkIndex_2214a_0 : decode cJ2_checkIndex_2214a 0 = .ok (.iload_n 0, 1) := by decide +kernel
theorem dJ2_checkIndex_2214a_1 : decode cJ2_checkIndex_2214a 1 = .ok (.aload_n 1, 1) := by decide +kernel
theorem dJ2_checkIndex_2214a_2 : decode cJ2_checkIndex_2214a 2 = .ok (.invokestatic 48, 3) := by decide +kernel
theorem dJ2_checkIndex_2214a_5 : decode cJ2_checkIndex_2214a 5 = .ok (.invokestatic 414, 3) := by decide +kernel
theorem dJ2_checkIndex_2214a_8 : decode cJ2_checkIndex_2214a 8 = .ok (.return_, 1) := by decide +kernel
theorem dJ2_checkBoundsBeginEnd_d044e_0 : decode cJ2_checkBoundsBeginEnd_d044e 0 = .ok (.iload_n 0, 1) := by decide +kernel
theorem dJ2_checkBoundsBeginEnd_d044e_1 : decode cJ2_checkBoundsBeginEnd_d044e 1 = .ok (.iload_n 1, 1) := by decide +kernel
theorem dJ2_checkBoundsBeginEnd_d044e_2 : decode cJ2_checkBoundsBeginEnd_d044e 2 = .ok (.aload_n 2, 1) := by decide +kernel
theorem dJ2_checkBoundsBeginEnd_d044e_3 : decode cJ2_checkBoundsBeginEnd_d044e 3 = .ok (.invokestatic 48, 3) := by decide +kernel
theorem dJ2_checkBoundsBeginEnd_d044e_6 : decode cJ2_checkBoundsBeginEnd_d044e 6 = .ok (.invokestatic 241, 3) := by decide +kernel
theorem dJ2_checkBoundsBeginEnd_d044e_9 : decode cJ2_checkBoundsBeginEnd_d044e 9 = .ok (.return_, 1) := by decide +kernel
theorem dJ2_checkBoundsOffCount_d044e_0 : decode cJ2_checkBoundsOffCount_d044e 0 = .ok (.iload_n 0, 1) := by decide +kernel
theorem dJ2_checkBoundsOffCount_d044e_1 : decode cJ2_checkBoundsOffCount_d044e 1 = .ok (.iload_n 1, 1) := by decide +kernel
theorem dJ2_checkBoundsOffCount_d044e_2 : decode cJ2_checkBoundsOffCount_d044e 2 = .ok (.aload_n 2, 1) := by decide +kernel
theorem dJ2_checkBoundsOffCount_d044e_3 : decode cJ2_checkBoundsOffCount_d044e 3 = .ok (.invokestatic 48, 3) := by decide +kernel
theorem dJ2_checkBoundsOffCount_d044e_6 : decode cJ2_checkBoundsOffCount_d044e 6 = .ok (.invokestatic 419, 3) := by decide +kernel
theorem dJ2_checkBoundsOffCount_d044e_9 : decode cJ2_checkBoundsOffCount_d044e 9 = .ok (.pop, 1) := by decide +kernel
theorem dJ2_checkBoundsOffCount_d044e_10 : decode cJ2_checkBoundsOffCount_d044e 10 = .ok (.return_, 1) := by decide +kernel
theorem dJ7_copyOf_9075b_0 : decode cJ7_copyOf_9075b 0 = .ok (.iload_n 1, 1) := by decide +kernel
theorem dJ7_copyOf_9075b_1 : decode cJ7_copyOf_9075b 1 = .ok (.aload_n 0, 1) := by decide +kernel
theorem dJ7_copyOf_9075b_2 : decode cJ7_copyOf_9075b 2 = .ok (.arraylength, 1) := by decide +kernel
theorem dJ7_copyOf_9075b_3 : decode cJ7_copyOf_9075b 3 = .ok (.if_icmp .ne 11, 3) := by decide +kernel
theorem dJ7_copyOf_9075b_6 : decode cJ7_copyOf_9075b 6 = .ok (.aload_n 0, 1) := by decide +kernel
theorem dJ7_copyOf_9075b_7 : decode cJ7_copyOf_9075b 7 = .ok (.invokevirtual 310, 3) := by decide +kernel
theorem dJ7_copyOf_9075b_10 : decode cJ7_copyOf_9075b 10 = .ok (.checkcast 311, 3) := by decide +kernel
theorem dJ7_copyOf_9075b_13 : decode cJ7_copyOf_9075b 13 = .ok (.areturn, 1) := by decide +kernel
theorem dJ7_copyOf_9075b_14 : decode cJ7_copyOf_9075b 14 = .ok (.iload_n 1, 1) := by decide +kernel
theorem dJ7_copyOf_9075b_15 : decode cJ7_copyOf_9075b 15 = .ok (.newarray .byte, 2) := by decide +kernel
theorem dJ7_copyOf_9075b_17 : decode cJ7_copyOf_9075b 17 = .ok (.astore_n 2, 1) := by decide +kernel
theorem dJ7_copyOf_9075b_18 : decode cJ7_copyOf_9075b 18 = .ok (.aload_n 0, 1) := by decide +kernel
theorem dJ7_copyOf_9075b_19 : decode cJ7_copyOf_9075b 19 = .ok (.iconst 0, 1) := by decide +kernel
theorem dJ7_copyOf_9075b_20 : decode cJ7_copyOf_9075b 20 = .ok (.aload_n 2, 1) := by decide +kernel
theorem dJ7_copyOf_9075b_21 : decode cJ7_copyOf_9075b 21 = .ok (.iconst 0, 1) := by decide +kernel
theorem dJ7_copyOf_9075b_22 : decode cJ7_copyOf_9075b 22 = .ok (.aload_n 0, 1) := by decide +kernel
theorem dJ7_copyOf_9075b_23 : decode cJ7_copyOf_9075b 23 = .ok (.arraylength, 1) := by decide +kernel
theorem dJ7_copyOf_9075b_24 : decode cJ7_copyOf_9075b 24 = .ok (.iload_n 1, 1) := by decide +kernel
theorem dJ7_copyOf_9075b_25 : decode cJ7_copyOf_9075b 25 = .ok (.invokestatic 304, 3) := by decide +kernel
theorem dJ7_copyOf_9075b_28 : decode cJ7_copyOf_9075b 28 = .ok (.invokestatic 150, 3) := by decide +kernel
theorem dJ7_copyOf_9075b_31 : decode cJ7_copyOf_9075b 31 = .ok (.aload_n 2, 1) := by decide +kernel
theorem dJ7_copyOf_9075b_32 : decode cJ7_copyOf_9075b 32 = .ok (.areturn, 1) := by decide +kernel
theorem dJ8_newLength_cabcc_0 : decode cJ8_newLength_cabcc 0 = .ok (.iload_n 0, 1) := by decide +kernel
theorem dJ8_newLength_cabcc_1 : decode cJ8_newLength_cabcc 1 = .ok (.iload_n 1, 1) := by decide +kernel
theorem dJ8_newLength_cabcc_2 : decode cJ8_newLength_cabcc 2 = .ok (.iload_n 2, 1) := by decide +kernel
theorem dJ8_newLength_cabcc_3 : decode cJ8_newLength_cabcc 3 = .ok (.invokestatic 194, 3) := by decide +kernel
theorem dJ8_newLength_cabcc_6 : decode cJ8_newLength_cabcc 6 = .ok (.iadd, 1) := by decide +kernel
theorem dJ8_newLength_cabcc_7 : decode cJ8_newLength_cabcc 7 = .ok (.istore_n 3, 1) := by decide +kernel
theorem dJ8_newLength_cabcc_8 : decode cJ8_newLength_cabcc 8 = .ok (.iconst 0, 1) := by decide +kernel
theorem dJ8_newLength_cabcc_9 : decode cJ8_newLength_cabcc 9 = .ok (.iload_n 3, 1) := by decide +kernel
theorem dJ8_newLength_cabcc_10 : decode cJ8_newLength_cabcc 10 = .ok (.if_icmp .ge 11, 3) := by decide +kernel
theorem dJ8_newLength_cabcc_13 : decode cJ8_newLength_cabcc 13 = .ok (.iload_n 3, 1) := by decide +kernel
theorem dJ8_newLength_cabcc_14 : decode cJ8_newLength_cabcc 14 = .ok (.ldc 200, 2) := by decide +kernel
theorem dJ8_newLength_cabcc_16 : decode cJ8_newLength_cabcc 16 = .ok (.if_icmp .gt 5, 3) := by decide +kernel
theorem dJ8_newLength_cabcc_19 : decode cJ8_newLength_cabcc 19 = .ok (.iload_n 3, 1) := by decide +kernel
theorem dJ8_newLength_cabcc_20 : decode cJ8_newLength_cabcc 20 = .ok (.ireturn, 1) := by decide +kernel
theorem dJ8_newLength_cabcc_21 : decode cJ8_newLength_cabcc 21 = .ok (.iload_n 0, 1) := by decide +kernel
theorem dJ8_newLength_cabcc_22 : decode cJ8_newLength_cabcc 22 = .ok (.iload_n 1, 1) := by decide +kernel
theorem dJ8_newLength_cabcc_23 : decode cJ8_newLength_cabcc 23 = .ok (.invokestatic 201, 3) := by decide +kernel
theorem dJ8_newLength_cabcc_26 : decode cJ8_newLength_cabcc 26 = .ok (.ireturn, 1) := by decide +kernel
theorem dJ8_hugeLength_7cf53_0 : decode cJ8_hugeLength_7cf53 0 = .ok (.iload_n 0, 1) := by decide +kernel
theorem dJ8_hugeLength_7cf53_1 : decode cJ8_hugeLength_7cf53 1 = .ok (.iload_n 1, 1) := by decide +kernel
theorem dJ8_hugeLength_7cf53_2 : decode cJ8_hugeLength_7cf53 2 = .ok (.iadd, 1) := by decide +kernel
theorem dJ8_hugeLength_7cf53_3 : decode cJ8_hugeLength_7cf53 3 = .ok (.istore_n 2, 1) := by decide +kernel
theorem dJ8_hugeLength_7cf53_4 : decode cJ8_hugeLength_7cf53 4 = .ok (.iload_n 2, 1) := by decide +kernel
theorem dJ8_hugeLength_7cf53_5 : decode cJ8_hugeLength_7cf53 5 = .ok (.ifCond .ge 44, 3) := by decide +kernel
theorem dJ8_hugeLength_7cf53_8 : decode cJ8_hugeLength_7cf53 8 = .ok (.new 204, 3) := by decide +kernel
theorem dJ8_hugeLength_7cf53_11 : decode cJ8_hugeLength_7cf53 11 = .ok (.dup, 1) := by decide +kernel
theorem dJ8_hugeLength_7cf53_12 : decode cJ8_hugeLength_7cf53 12 = .ok (.new 89, 3) := by decide +kernel
theorem dJ8_hugeLength_7cf53_15 : decode cJ8_hugeLength_7cf53 15 = .ok (.dup, 1) := by decide +kernel
theorem dJ8_hugeLength_7cf53_16 : decode cJ8_hugeLength_7cf53 16 = .ok (.invokespecial 91, 3) := by decide +kernel
theorem dJ8_hugeLength_7cf53_19 : decode cJ8_hugeLength_7cf53 19 = .ok (.ldc 206, 2) := by decide +kernel
theorem dJ8_hugeLength_7cf53_21 : decode cJ8_hugeLength_7cf53 21 = .ok (.invokevirtual 94, 3) := by decide +kernel
theorem dJ8_hugeLength_7cf53_24 : decode cJ8_hugeLength_7cf53 24 = .ok (.iload_n 0, 1) := by decide +kernel
theorem dJ8_hugeLength_7cf53_25 : decode cJ8_hugeLength_7cf53 25 = .ok (.invokevirtual 98, 3) := by decide +kernel
theorem dJ8_hugeLength_7cf53_28 : decode cJ8_hugeLength_7cf53 28 = .ok (.ldc 208, 2) := by decide +kernel
theorem dJ8_hugeLength_7cf53_30 : decode cJ8_hugeLength_7cf53 30 = .ok (.invokevirtual 94, 3) := by decide +kernel
theorem dJ8_hugeLength_7cf53_33 : decode cJ8_hugeLength_7cf53 33 = .ok (.iload_n 1, 1) := by decide +kernel
theorem dJ8_hugeLength_7cf53_34 : decode cJ8_hugeLength_7cf53 34 = .ok (.invokevirtual 98, 3) := by decide +kernel
theorem dJ8_hugeLength_7cf53_37 : decode cJ8_hugeLength_7cf53 37 = .ok (.ldc 210, 2) := by decide +kernel
theorem dJ8_hugeLength_7cf53_39 : decode cJ8_hugeLength_7cf53 39 = .ok (.invokevirtual 94, 3) := by decide +kernel
theorem dJ8_hugeLength_7cf53_42 : decode cJ8_hugeLength_7cf53 42 = .ok (.invokevirtual 101, 3) := by decide +kernel
theorem dJ8_hugeLength_7cf53_45 : decode cJ8_hugeLength_7cf53 45 = .ok (.invokespecial 212, 3) := by decide +kernel
theorem dJ8_hugeLength_7cf53_48 : decode cJ8_hugeLength_7cf53 48 = .ok (.athrow, 1) := by decide +kernel
theorem dJ8_hugeLength_7cf53_49 : decode cJ8_hugeLength_7cf53 49 = .ok (.iload_n 2, 1) := by decide +kernel
theorem dJ8_hugeLength_7cf53_50 : decode cJ8_hugeLength_7cf53 50 = .ok (.ldc 200, 2) := by decide +kernel
theorem dJ8_hugeLength_7cf53_52 : decode cJ8_hugeLength_7cf53 52 = .ok (.if_icmp .gt 6, 3) := by decide +kernel
theorem dJ8_hugeLength_7cf53_55 : decode cJ8_hugeLength_7cf53 55 = .ok (.ldc 200, 2) := by decide +kernel
theorem dJ8_hugeLength_7cf53_57 : decode cJ8_hugeLength_7cf53 57 = .ok (.ireturn, 1) := by decide +kernel
theorem dJ8_hugeLength_7cf53_58 : decode cJ8_hugeLength_7cf53 58 = .ok (.iload_n 2, 1) := by decide +kernel
theorem dJ8_hugeLength_7cf53_59 : decode cJ8_hugeLength_7cf53 59 = .ok (.ireturn, 1) := by decide +kernel
theorem dJ3_checkIndex_8e157_0 : decode cJ3_checkIndex_8e157 0 = .ok (.iload_n 0, 1) := by decide +kernel
theorem dJ3_checkIndex_8e157_1 : decode cJ3_checkIndex_8e157 1 = .ok (.ifCond .lt 8, 3) := by decide +kernel
theorem dJ3_checkIndex_8e157_4 : decode cJ3_checkIndex_8e157 4 = .ok (.iload_n 0, 1) := by decide +kernel
theorem dJ3_checkIndex_8e157_5 : decode cJ3_checkIndex_8e157 5 = .ok (.iload_n 1, 1) := by decide +kernel
theorem dJ3_checkIndex_8e157_6 : decode cJ3_checkIndex_8e157 6 = .ok (.if_icmp .lt 10, 3) := by decide +kernel
theorem dJ3_checkIndex_8e157_9 : decode cJ3_checkIndex_8e157 9 = .ok (.aload_n 2, 1) := by decide +kernel
theorem dJ3_checkIndex_8e157_10 : decode cJ3_checkIndex_8e157 10 = .ok (.iload_n 0, 1) := by decide +kernel
theorem dJ3_checkIndex_8e157_11 : decode cJ3_checkIndex_8e157 11 = .ok (.iload_n 1, 1) := by decide +kernel
theorem dJ3_checkIndex_8e157_12 : decode cJ3_checkIndex_8e157 12 = .ok (.invokestatic 95, 3) := by decide +kernel
theorem dJ3_checkIndex_8e157_15 : decode cJ3_checkIndex_8e157 15 = .ok (.athrow, 1) := by decide +kernel
theorem dJ3_checkIndex_8e157_16 : decode cJ3_checkIndex_8e157 16 = .ok (.iload_n 0, 1) := by decide +kernel
theorem dJ3_checkIndex_8e157_17 : decode cJ3_checkIndex_8e157 17 = .ok (.ireturn, 1) := by decide +kernel
theorem dJ3_checkFromToIndex_8c36e_0 : decode cJ3_checkFromToIndex_8c36e 0 = .ok (.iload_n 0, 1) := by decide +kernel
theorem dJ3_checkFromToIndex_8c36e_1 : decode cJ3_checkFromToIndex_8c36e 1 = .ok (.ifCond .lt 13, 3) := by decide +kernel
theorem dJ3_checkFromToIndex_8c36e_4 : decode cJ3_checkFromToIndex_8c36e 4 = .ok (.iload_n 0, 1) := by decide +kernel
theorem dJ3_checkFromToIndex_8c36e_5 : decode cJ3_checkFromToIndex_8c36e 5 = .ok (.iload_n 1, 1) := by decide +kernel
theorem dJ3_checkFromToIndex_8c36e_6 : decode cJ3_checkFromToIndex_8c36e 6 = .ok (.if_icmp .gt 8, 3) := by decide +kernel
theorem dJ3_checkFromToIndex_8c36e_9 : decode cJ3_checkFromToIndex_8c36e 9 = .ok (.iload_n 1, 1) := by decide +kernel
theorem dJ3_checkFromToIndex_8c36e_10 : decode cJ3_checkFromToIndex_8c36e 10 = .ok (.iload_n 2, 1) := by decide +kernel
theorem dJ3_checkFromToIndex_8c36e_11 : decode cJ3_checkFromToIndex_8c36e 11 = .ok (.if_icmp .le 11, 3) := by decide +kernel
theorem dJ3_checkFromToIndex_8c36e_14 : decode cJ3_checkFromToIndex_8c36e 14 = .ok (.aload_n 3, 1) := by decide +kernel
theorem dJ3_checkFromToIndex_8c36e_15 : decode cJ3_checkFromToIndex_8c36e 15 = .ok (.iload_n 0, 1) := by decide +kernel
theorem dJ3_checkFromToIndex_8c36e_16 : decode cJ3_checkFromToIndex_8c36e 16 = .ok (.iload_n 1, 1) := by decide +kernel
theorem dJ3_checkFromToIndex_8c36e_17 : decode cJ3_checkFromToIndex_8c36e 17 = .ok (.iload_n 2, 1) := by decide +kernel
theorem dJ3_checkFromToIndex_8c36e_18 : decode cJ3_checkFromToIndex_8c36e 18 = .ok (.invokestatic 99, 3) := by decide +kernel
theorem dJ3_checkFromToIndex_8c36e_21 : decode cJ3_checkFromToIndex_8c36e 21 = .ok (.athrow, 1) := by decide +kernel
theorem dJ3_checkFromToIndex_8c36e_22 : decode cJ3_checkFromToIndex_8c36e 22 = .ok (.iload_n 0, 1) := by decide +kernel
theorem dJ3_checkFromToIndex_8c36e_23 : decode cJ3_checkFromToIndex_8c36e 23 = .ok (.ireturn, 1) := by decide +kernel
theorem dJ3_checkFromIndexSize_8c36e_0 : decode cJ3_checkFromIndexSize_8c36e 0 = .ok (.iload_n 2, 1) := by decide +kernel
theorem dJ3_checkFromIndexSize_8c36e_1 : decode cJ3_checkFromIndexSize_8c36e 1 = .ok (.iload_n 0, 1) := by decide +kernel
theorem dJ3_checkFromIndexSize_8c36e_2 : decode cJ3_checkFromIndexSize_8c36e 2 = .ok (.ior, 1) := by decide +kernel
theorem dJ3_checkFromIndexSize_8c36e_3 : decode cJ3_checkFromIndexSize_8c36e 3 = .ok (.iload_n 1, 1) := by decide +kernel
theorem dJ3_checkFromIndexSize_8c36e_4 : decode cJ3_checkFromIndexSize_8c36e 4 = .ok (.ior, 1) := by decide +kernel
theorem dJ3_checkFromIndexSize_8c36e_5 : decode cJ3_checkFromIndexSize_8c36e 5 = .ok (.ifCond .lt 10, 3) := by decide +kernel
theorem dJ3_checkFromIndexSize_8c36e_8 : decode cJ3_checkFromIndexSize_8c36e 8 = .ok (.iload_n 1, 1) := by decide +kernel
theorem dJ3_checkFromIndexSize_8c36e_9 : decode cJ3_checkFromIndexSize_8c36e 9 = .ok (.iload_n 2, 1) := by decide +kernel
theorem dJ3_checkFromIndexSize_8c36e_10 : decode cJ3_checkFromIndexSize_8c36e 10 = .ok (.iload_n 0, 1) := by decide +kernel
theorem dJ3_checkFromIndexSize_8c36e_11 : decode cJ3_checkFromIndexSize_8c36e 11 = .ok (.isub, 1) := by decide +kernel
theorem dJ3_checkFromIndexSize_8c36e_12 : decode cJ3_checkFromIndexSize_8c36e 12 = .ok (.if_icmp .le 11, 3) := by decide +kernel
theorem dJ3_checkFromIndexSize_8c36e_15 : decode cJ3_checkFromIndexSize_8c36e 15 = .ok (.aload_n 3, 1) := by decide +kernel
theorem dJ3_checkFromIndexSize_8c36e_16 : decode cJ3_checkFromIndexSize_8c36e 16 = .ok (.iload_n 0, 1) := by decide +kernel
theorem dJ3_checkFromIndexSize_8c36e_17 : decode cJ3_checkFromIndexSize_8c36e 17 = .ok (.iload_n 1, 1) := by decide +kernel
theorem dJ3_checkFromIndexSize_8c36e_18 : decode cJ3_checkFromIndexSize_8c36e 18 = .ok (.iload_n 2, 1) := by decide +kernel
theorem dJ3_checkFromIndexSize_8c36e_19 : decode cJ3_checkFromIndexSize_8c36e 19 = .ok (.invokestatic 103, 3) := by decide +kernel
theorem dJ3_checkFromIndexSize_8c36e_22 : decode cJ3_checkFromIndexSize_8c36e 22 = .ok (.athrow, 1) := by decide +kernel
theorem dJ3_checkFromIndexSize_8c36e_23 : decode cJ3_checkFromIndexSize_8c36e 23 = .ok (.iload_n 0, 1) := by decide +kernel
theorem dJ3_checkFromIndexSize_8c36e_24 : decode cJ3_checkFromIndexSize_8c36e 24 = .ok (.ireturn, 1) := by decide +kernel
end
section
/-! ===== my kit: words, indexed worlds, the uniform contract ===== -/
/-- all good words of the tables: every method's list is its code and these -/
def fx_ws : List Cond := lw_tbl.filter goodWord
theorem fx_w {w : Cond} (i : Nat) (h : lw_tbl[i]? = some w) (g : goodWord w = true) : w ∈ fx_ws := List.mem_filter.mpr ⟨List.mem_of_getElem? h, g⟩
theorem fx_wg {w : Cond} (h : w ∈ fx_ws) : goodWord w = true := (List.mem_filter.mp h).2
/-- a method's own list -/
abbrev fx_l (y : MethodName) (cc : ByteArray) (n : Nat) (ret : Option FieldType) : List Cond := Cond.code y cc n ret :: fx_ws
theorem fx_lg {y : MethodName} {cc : ByteArray} {n : Nat} {ret : Option FieldType} : ∀ w ∈ fx_l y cc n ret, goodWord w = true := by
  intro w hw
  rcases List.mem_cons.mp hw with rfl | h
  · rfl
  · exact fx_wg h
theorem fx_in {y : MethodName} {cc : ByteArray} {n : Nat} {ret : Option FieldType} {w0 : Cond} (h : Cond.code y cc n ret ∈ fx_ws) : GoodIn (w0 :: fx_ws) (fx_l y cc n ret) := by
  intro w hw
  refine ⟨?_, good_of_word (fx_lg w hw)⟩
  rcases List.mem_cons.mp hw with rfl | h9
  · exact List.mem_cons_of_mem _ h
  · exact List.mem_cons_of_mem _ h9
/-- the words that hold everywhere, but are no good words -/
def fx_wb : List Cond := [.castable "java/lang/IndexOutOfBoundsException" "java/lang/IndexOutOfBoundsException", .castable "java/lang/IllegalArgumentException" "java/lang/IllegalArgumentException", .castable "java/lang/IllegalStateException" "java/lang/IllegalStateException",
  .declares ⟨"java/lang/RuntimeException", "<init>", "(Ljava/lang/String;)V"⟩, .declares ⟨"java/lang/Exception", "<init>", "(Ljava/lang/String;)V"⟩, .declares ⟨"java/lang/Throwable", "<init>", "(Ljava/lang/String;)V"⟩]
theorem fx_wbt : ∀ w ∈ fx_wb, w.onTables = true := by decide
theorem fx_wbw {s U : State} (hW : s.WarmedH U.vm) (h : ∀ w ∈ fx_wb, va_Nw w s) : ∀ w ∈ fx_wb, va_Nw w U := by
  intro w hw
  have h1 := h w hw
  simp only [fx_wb, List.mem_cons, List.not_mem_nil, or_false] at hw
  rcases hw with rfl | rfl | rfl | rfl | rfl | rfl
  · exact va_Nw.warmC hW h1
  · exact va_Nw.warmC hW h1
  · exact va_Nw.warmC hW h1
  · exact va_Nw.warmD hW h1
  · exact va_Nw.warmD hW h1
  · exact va_Nw.warmD hW h1
theorem fx_wbs {u U : State} (hv : u.vm = U.vm) (h : ∀ w ∈ fx_wb, va_Nw w u) : ∀ w ∈ fx_wb, va_Nw w U := fun w hw => va_Nw.same (fx_wbt w hw) hv (h w hw)
/-- the texts of the throws: their places in the class's pool -/
def fx_tx : List (Nat × String) := [(229, "there is no such kind"), (50, "the rate is out of range"), (227, "there is no such shop"), (231, "there is no such traveller"), (62, "the price is out of range"), (237, "the traveller has left"), (70, "there are as many receipts as there may be"), (233, "there is no such receipt"), (239, "the receipt is not OPEN"), (102, "it is too late to give the goods back"), (104, "the hour is out of range"), (106, "the seats are out of range"), (108, "there are as many ferries as there may be"), (235, "there is no such ferry"), (241, "the ferry has sailed"), (127, "the traveller has a seat there"), (133, "no seat is left"), (243, "the traveller has no seat there"), (245, "it is too early"), (153, "the traveller is aboard of a ferry"), (159, "the price is too low for a stamp"), (161, "the receipt is not STAMPED"), (174, "the traveller has not left"), (179, "the hours are out of range"), (181, "the hour would be above the last one"), (189, "what is out of range"), (193, "the place is below 0")]
/-- what is the same in a whole run: classes' numbers and slots, the array classes, the texts' addresses -/
abbrev fx_Z : Type := va_G × (Nat → ClassId) × (Nat → Nat)
abbrev fx_tys (Z : fx_Z) : List (ClassId × FieldType) := [(Z.2.1 0, .int), (Z.2.1 1, .object RX1), (Z.2.1 2, .object RX0), (Z.2.1 3, .object RX2), (Z.2.1 4, .long), (Z.2.1 5, .byte)]
def fx_E (Z : fx_Z) (U : State) : Prop := va_K Z.1 vwCl (fx_tys Z) U ∧ (∀ q ∈ fx_tx, vk_R RX3 q.1 q.2 (Z.2.2 q.1) U) ∧ (∀ w ∈ fx_wb, va_Nw w U) ∧ va_Nc "java/lang/IllegalArgumentException" "java/lang/IndexOutOfBoundsException" U ∧ va_Nc "java/lang/IllegalStateException" "java/lang/IndexOutOfBoundsException" U ∧ va_Nc "java/lang/IllegalStateException" "java/lang/IllegalArgumentException" U
def fx_S (A : Nat → Prop) (U : State) (H : Heap) : Prop := vx_Zq Bundle.tN "UNASSIGNED_STACK" Bundle.steD A U H ∧ vx_Zq Bundle.tN "SUPPRESSED_SENTINEL" Bundle.listD A U H ∧ va_Z "java/lang/String" "COMPACT_STRINGS" "Z" (.int 1) A U H
theorem fx_E.warm {Z : fx_Z} {s U : State} (hW : s.WarmedH U.vm) (h : fx_E Z s) : fx_E Z U := by
  obtain ⟨h1, h2, h3, h4, h5, h6⟩ := h
  exact ⟨va_K.moved hW.alike h1, fun q hq => vk_R.warm hW (h2 q hq), fx_wbw hW h3, va_Nc.moved hW.alike h4, va_Nc.moved hW.alike h5, va_Nc.moved hW.alike h6⟩
theorem fx_E.same {Z : fx_Z} {u U : State} (hv : u.vm = U.vm) (h : fx_E Z u) : fx_E Z U := by
  obtain ⟨h1, h2, h3, h4, h5, h6⟩ := h
  have ha : u.vm.Alike U.vm := by rw [hv]; exact Vm.Alike.refl _
  exact ⟨va_K.moved ha h1, fun q hq => vk_R.same hv.symm (h2 q hq), fx_wbs hv h3, va_Nc.moved ha h4, va_Nc.moved ha h5, va_Nc.moved ha h6⟩
theorem fx_S.moved {A : Nat → Prop} {u U : State} {H : Heap} (hvm : u.vm.Alike U.vm) (h : fx_S A u H) : fx_S A U H := ⟨vx_Zq.moved hvm h.1, vx_Zq.moved hvm h.2.1, va_Z.moved hvm h.2.2⟩
theorem fx_S.kept {A : Nat → Prop} {U : State} {H H1 : Heap} (h : fx_S A U H) (hq : ∀ a : Nat, a < H.size → ¬ A a → H1[a]? = H[a]?) : fx_S A U H1 := ⟨h.1.kept hq, h.2.1.kept hq, h.2.2.kept hq⟩
theorem fx_S.narrow {A B : Nat → Prop} {U : State} {H : Heap} (h : fx_S A U H) (hAB : ∀ q, B q → A q) : fx_S B U H := ⟨h.1.narrow hAB, h.2.1.narrow hAB, h.2.2.narrow hAB⟩
/-! indexed worlds -/
def iw (N : Nat) (F : Nat → Nat × va_E) : va_W := (List.range N).map F
theorem iw_at {N : Nat} {F : Nat → Nat × va_E} {k : Nat} (h : k < N) : (iw N F)[k]? = some (F k) := by simp [iw, h]
theorem iw_lt {N : Nat} {F : Nat → Nat × va_E} {k : Nat} {q : Nat × va_E} (h : (iw N F)[k]? = some q) : k < N ∧ q = F k := by
  have hl : k < (iw N F).length := (List.getElem?_eq_some_iff.mp h).1
  have hk : k < N := by simpa [iw] using hl
  exact ⟨hk, Option.some.inj (h.symm.trans (iw_at hk))⟩
theorem iw_congr {N : Nat} {F G : Nat → Nat × va_E} (h : ∀ k, k < N → F k = G k) : iw N F = iw N G := List.map_congr_left fun k hk => h k (List.mem_range.mp hk)
theorem iw_set {N : Nat} {F G : Nat → Nat × va_E} {k : Nat} {e : Nat × va_E} (hk : k < N) (h : ∀ j, j < N → G j = if j = k then e else F j) : (iw N F).set k e = iw N G := by
  apply List.ext_getElem?
  intro j
  by_cases hj : j < N
  · rw [iw_at hj, h j hj]
    by_cases e9 : j = k
    · subst e9
      rw [List.getElem?_set_self (by simpa [iw] using hj), if_pos rfl]
    · rw [List.getElem?_set_ne (fun q => e9 q.symm), iw_at hj, if_neg e9]
  · rw [List.getElem?_eq_none (by simp [iw]; omega), List.getElem?_eq_none (by simp [iw]; omega)]
theorem iw_push {N : Nat} {F G : Nat → Nat × va_E} {e : Nat × va_E} (h : ∀ j, j < N → G j = F j) (he : G N = e) : iw N F ++ [e] = iw (N + 1) G := by
  show (List.range N).map F ++ [e] = (List.range (N + 1)).map G
  rw [List.range_succ, List.map_append, ← he]
  congr 1
  exact List.map_congr_left fun k hk => (h k (List.mem_range.mp hk)).symm
/-- what may be written: the world's addresses, and what is new -/
def fx_A (N : Nat) (ad : Nat → Nat) (sz : Nat) : Nat → Prop := fun q => (∃ k, k < N ∧ ad k = q) ∨ sz ≤ q
def fx_inj (N : Nat) (ad : Nat → Nat) : Prop := ∀ i j : Nat, i < N → j < N → ad i = ad j → i = j
theorem fx_D {N : Nat} {ad : Nat → Nat} {A : Nat → Prop} {F : Nat → Nat × va_E} (hi : fx_inj N ad) (hF : ∀ k, k < N → (F k).1 = ad k) (hA : ∀ k, k < N → A (ad k)) : va_D A (iw N F) := by
  refine ⟨fun i j p q h1 h2 he => ?_, fun k q h => ?_⟩
  · obtain ⟨k1, rfl⟩ := iw_lt h1
    obtain ⟨k2, rfl⟩ := iw_lt h2
    exact hi i j k1 k2 (by rw [← hF i k1, ← hF j k2]; exact he)
  · obtain ⟨k1, rfl⟩ := iw_lt h
    rw [hF k k1]
    exact hA k k1
theorem fx_P_lt {D : va_G} {N : Nat} {F : Nat → Nat × va_E} {H : Heap} (h : va_P D vwCl (iw N F) H) {k : Nat} (hk : k < N) : (F k).1 < H.size := (h k _ (iw_at hk)).lt
theorem fx_P_kept {D : va_G} {N : Nat} {ad : Nat → Nat} {F : Nat → Nat × va_E} {H H1 : Heap} (h : va_P D vwCl (iw N F) H) (hF : ∀ k, k < N → (F k).1 = ad k) (hk : ∀ k, k < N → H1[ad k]? = H[ad k]?) : va_P D vwCl (iw N F) H1 :=
  h.kept fun k q hq => by
    obtain ⟨k1, rfl⟩ := iw_lt hq
    rw [hF k k1]
    exact hk k k1
end
section
/-! ===== my kit: the uniform contract, calls, ends ===== -/
def fx_pre (Z : fx_Z) (N : Nat) (ad : Nat → Nat) (F : Nat → Nat × va_E) (av : List Value) (sz : Nat) : Array Value → State → Prop :=
  va_Pc av (fun U => U.heap.size = sz ∧ va_P Z.1 vwCl (iw N F) U.heap ∧ fx_E Z U ∧ fx_S (fx_A N ad sz) U U.heap)
def fx_post {S : Type} (Z : fx_Z) (N : Nat) (ad : Nat → Nat) (F : S → Nat → Nat × va_E) (post : Option Value → S → Prop) (sz : Nat) : Array Value → State → Outcome → State → Prop :=
  fun _ st oc t => ∃ (v : Option Value) (u : S), oc = .returned v ∧ post v u ∧ va_P Z.1 vwCl (iw N (F u)) t.heap ∧ va_F (fx_A N ad sz) st t
def fx_px (Z : fx_Z) (N : Nat) (ad : Nat → Nat) (F : Nat → Nat × va_E) (px : String → Prop) (sz : Nat) : String → State → State → Prop :=
  fun E st t => px E ∧ va_P Z.1 vwCl (iw N F) t.heap ∧ va_F (fx_A N ad sz) st t
def fx_C {S : Type} (l : Launch) (Z : fx_Z) (y : MethodName) (cc : ByteArray) (nL : Nat) (ret : Option FieldType) (fr lo mc ms : Nat) (N : Nat) (ad : Nat → Nat) (F : S → Nat → Nat × va_E) (g : S) (av : List Value) (post : Option Value → S → Prop) (px : String → Prop) : Prop :=
  ∀ sz : Nat, vx_Met l y (fx_l y cc nL ret) { frames := fr, cells := mc, slots := ms, locals := lo } (fx_pre Z N ad (F g) av sz) (fx_post Z N ad F post sz) (fx_px Z N ad (F g) px sz) mc ms (fx_A N ad sz)
theorem fx_blind {Z : fx_Z} {N : Nat} {ad : Nat → Nat} {F : Nat → Nat × va_E} {av : List Value} {sz : Nat} : FrameBlind (fx_pre Z N ad F av sz) := by
  intro a U g mk h
  obtain ⟨h0, h1, h2, h3, h4⟩ := h
  exact ⟨h0, h1, h2, fx_E.same (U := U.calling g mk a) (u := U) rfl h3, fx_S.moved (U := U.calling g mk a) (Vm.Alike.refl U.vm) h4⟩
/-- a call's own words -/
def fx_ok (own : String) (idx : Nat) (C : String) (y : MethodName) (bytes : ByteArray) (maxL : Nat) (ret : Option FieldType) (n : Nat) : Prop :=
  Cond.code y bytes maxL ret ∈ fx_ws ∧ Cond.methodLink own idx y ∈ fx_ws ∧ Cond.instanceMethod y ∈ fx_ws ∧ Cond.selects C y y ∈ fx_ws ∧ Cond.initialized C ∈ fx_ws ∧ (y.cls = C ∧ y.cls ≠ "java/lang/invoke/MethodHandle" ∧ y.cls ≠ "java/lang/invoke/VarHandle" ∧ (parseMethodDescriptor y.desc).map (fun d => d.parameters.length) = some n)
theorem fx_good0 {y : MethodName} {cc : ByteArray} {n : Nat} {ret : Option FieldType} (h : Cond.code y cc n ret ∈ fx_ws) : GoodIn fx_ws (fx_l y cc n ret) := by
  intro w hw
  refine ⟨?_, good_of_word (fx_lg w hw)⟩
  rcases List.mem_cons.mp hw with rfl | h9
  · exact h
  · exact h9
section FXC
variable {p : Program} {l : Launch} {e : Env} {R : Room} {s : State} {m : MethodId} {args : Array Value} {below : List Frame} {meth : Method} {c : Code} {H : Heap} {locs : List Loc} {cells slots : Nat} {Q : State → Prop}
variable {Z : fx_Z} {N : Nat} {ad : Nat → Nat} {cc : ByteArray} {pc : Nat} {ls : Array Slot} {rest : List Value}
/-- what the start's statics and the like are, seen at a call -/
theorem fx_Sat {A : Nat → Prop} {U : State} (hSt : fx_S A s s.heap) (hS : va_S A s.heap H locs) (hU : U.heap = H) (hW : s.WarmedH U.vm) (hA : ∀ k, k < N → A (ad k)) (hA2 : ∀ q, s.heap.size ≤ q → A q) : fx_S (fx_A N ad H.size) U U.heap := by
  rw [hU]
  refine fx_S.moved hW.alike ((hSt.kept hS.2.1).narrow fun q hq => ?_)
  rcases hq with ⟨k, hk, rfl⟩ | h
  · exact hA k hk
  · exact hA2 q (Nat.le_trans hS.1 h)
theorem fx_sub {A : Nat → Prop} (hS : va_S A s.heap H locs) (hA : ∀ k, k < N → A (ad k)) (hA2 : ∀ q, s.heap.size ≤ q → A q) : ∀ q, fx_A N ad H.size q → A q := by
  intro q hq
  rcases hq with ⟨k, hk, rfl⟩ | h
  · exact hA k hk
  · exact hA2 q (Nat.le_trans hS.1 h)
/-- behind any call: it returned, or it threw -/
theorem fx_back {S : Type} {F : S → Nat → Nat × va_E} {F0g : Nat → Nat × va_E} {A : Nat → Prop} {post : Option Value → S → Prop} {px : String → Prop} {mc ms : Nat} {a : Array Value} {st0 : List Value}
    (hr : vx_Run p l e R s m args below meth c H locs cells slots mc ms (F0 m pc ls st0) rest (fx_post Z N ad F post H.size a) (fx_px Z N ad F0g px H.size) (fx_A N ad H.size))
    (hS : va_S A s.heap H locs) (hsub : ∀ q, fx_A N ad H.size q → A q)
    (kx : ∀ (E : String) (ce : Cell) (q9 : Addr) (H1 : Heap) (locs1 : List Loc), px E → va_P Z.1 vwCl (iw N F0g) H1 → va_S A s.heap H1 locs1 → H.size ≤ H1.size → (∀ q : Nat, q < H.size → ¬ fx_A N ad H.size q → H1[q]? = H[q]?) → H1[q9]? = some ce → ce.vm = .none → s.vm.findClass E = some ce.cls → vx_W p l e R s m args below meth c H1 locs1 (cells + mc) (slots + ms) Q (F0 m pc ls rest) q9)
    (kk : ∀ (v : Option Value) (u : S) (H1 : Heap) (locs1 : List Loc), post v u → va_P Z.1 vwCl (iw N (F u)) H1 → va_S A s.heap H1 locs1 → H.size ≤ H1.size → (∀ q : Nat, q < H.size → ¬ fx_A N ad H.size q → H1[q]? = H[q]?) → W p l e R s m args below meth c H1 locs1 (cells + mc) (slots + ms) Q (F0 m (pc + 3) ls (v.toList ++ rest))) :
    W p l e R s m args below meth c H locs cells slots Q (F0 m pc ls st0) := by
  intro T hT X
  rcases hr T hT X with ⟨v, st₀, t, T', L, h0, X', hL, e1, e2, ⟨v', u, hv, hp, hb, hF⟩, st⟩ | ⟨q, st₀, t, T', L, E, ce, h0, X', hL, e1, e2, ⟨hp, hb, hF⟩, hce, hcv, hcl, st⟩
  · cases hv
    obtain ⟨k1, k2, k3⟩ := vx_keep h0 e1 hS (fun q _ h => hsub q h) hsub hL hF
    obtain ⟨t2, a1, b1⟩ := kk v u T'.heap (locs ++ L) hp (by rw [e1]; exact hb) k3 k1 k2 T' rfl X'
    exact ⟨t2, st t2 a1, b1⟩
  · obtain ⟨k1, k2, k3⟩ := vx_keep h0 e1 hS (fun q _ h => hsub q h) hsub hL hF
    obtain ⟨t2, a1, b1⟩ := kx E ce q T'.heap (locs ++ L) hp (by rw [e1]; exact hb) k3 k1 k2 (by rw [e1]; exact hce) hcv hcl T' rfl X'
    exact ⟨t2, st.trans a1, b1⟩
/-- invokevirtual of a method with the uniform contract -/
theorem fx_callV {S : Type} {F : S → Nat → Nat × va_E} {g : S} {A : Nat → Prop} {post : Option Value → S → Prop} {px : String → Prop} {fr lo mc ms nL : Nat} {y : MethodName} {bytes : ByteArray} {maxL n idx b : Nat} {ret : Option FieldType} {own C : String} {As : List Value} {st0 : List Value}
    (hx : p.tables.exec = Jvm.exec) (hb : c.code = cc) (hml : c.maxLocals = nL) (hown : s.vm.findClass own = some m.cls) (hT : ∀ w ∈ fx_ws, w.before args s = true) (hE : fx_E Z s) (hSt : fx_S A s s.heap)
    (hA : ∀ k, k < N → A (ad k)) (hA2 : ∀ q, s.heap.size ≤ q → A q) (hP : va_P Z.1 vwCl (iw N (F g)) H) (hS : va_S A s.heap H locs)
    (hM : fx_C l Z y bytes maxL ret fr lo mc ms N ad F g (.ref b :: As) post px) (hok : fx_ok own idx C y bytes maxL ret n)
    (hrecv : ∃ cellB : Cell, H[b]? = some cellB ∧ cellB.vm.isStatics = false ∧ s.vm.findClass C = some cellB.cls)
    (hst0 : st0 = As.reverse ++ .ref b :: rest) (hroom : fr + 1 ≤ R.frames ∧ 8 + (maxL + 11) + lo ≤ R.locals) (hn : As.length = n) (hsize : ls.size = nL) (hrest : (rest.map fun v => v.category).sum ≤ 8)
    (hcap : cells + mc ≤ R.cells ∧ slots + ms ≤ R.slots) (hdg : decode cc pc = .ok (.invokevirtual idx, 3))
    (kx : ∀ (E : String) (ce : Cell) (q9 : Addr) (H1 : Heap) (locs1 : List Loc), px E → va_P Z.1 vwCl (iw N (F g)) H1 → va_S A s.heap H1 locs1 → H.size ≤ H1.size → (∀ q : Nat, q < H.size → ¬ fx_A N ad H.size q → H1[q]? = H[q]?) → H1[q9]? = some ce → ce.vm = .none → s.vm.findClass E = some ce.cls → vx_W p l e R s m args below meth c H1 locs1 (cells + mc) (slots + ms) Q (F0 m pc ls rest) q9)
    (kk : ∀ (v : Option Value) (u : S) (H1 : Heap) (locs1 : List Loc), post v u → va_P Z.1 vwCl (iw N (F u)) H1 → va_S A s.heap H1 locs1 → H.size ≤ H1.size → (∀ q : Nat, q < H.size → ¬ fx_A N ad H.size q → H1[q]? = H[q]?) → W p l e R s m args below meth c H1 locs1 (cells + mc) (slots + ms) Q (F0 m (pc + 3) ls (v.toList ++ rest))) :
    W p l e R s m args below meth c H locs cells slots Q (F0 m pc ls st0) := by
  obtain ⟨k1, k2, k3, k4, k5, k6⟩ := hok
  have hgood : GoodIn fx_ws (wsV own idx C y (fx_l y bytes maxL ret)) := by
    refine fun w hw => ?_
    rcases List.mem_append.mp hw with h | h
    · have : w ∈ fx_ws := by
        simp only [List.mem_cons, List.not_mem_nil, or_false] at h
        rcases h with rfl | rfl | rfl | rfl
        · exact k2
        · exact k3
        · exact k4
        · exact k5
      exact ⟨this, good_of_word (fx_wg this)⟩
    · exact fx_good0 k1 w h
  have hrun := vx_runV (p := p) (l := l) (e := e) (R := R) (s := s) (m := m) (args := args) (below := below) (meth := meth) (c := c) (H := H) (locs := locs) (cells := cells) (slots := slots) (rest := rest) (g := F0 m pc ls st0) (Ts := fx_ws)
    ⟨hx, hb, hml, hown, hT⟩ (hM H.size) (cwV n hT hgood rfl rfl rfl k6 hroom)
    ⟨fx_blind, hrecv, fun U hU hW => ⟨rfl, by rw [hU], by rw [hU]; exact hP, hE.warm hW, fx_Sat hSt hS hU hW hA hA2⟩⟩ rfl hn hsize hst0 (lv_room hrest) hdg hcap
  exact fx_back hrun hS (fx_sub hS hA hA2) kx kk
/-- ends -/
theorem fx_reti {S : Type} {F : S → Nat → Nat × va_E} {u : S} {post : Option Value → S → Prop} {XC : String → State → State → Prop} {mc ms : Nat} {v : Int32} (hx : p.tables.exec = Jvm.exec) (hb : c.code = cc) (hr : meth.sig.returnType = some .int) (hlocks : meth.locks = false)
    (hP : va_P Z.1 vwCl (iw N (F u)) H) (hS : va_S (fx_A N ad s.heap.size) s.heap H locs) (hc : cells ≤ mc) (hs : slots ≤ ms) (hdg : decode cc pc = .ok (.ireturn, 1)) (hp : post (some (.int v)) u) :
    W p l e R s m args below meth c H locs cells slots (vx_MQ below (fx_post Z N ad F post s.heap.size) XC args s mc ms (fx_A N ad s.heap.size)) (F0 m pc ls [.int v]) := by
  refine W.widen (k := mc) (n := ms) hc hs (vx_ret (W.iret (v := v) hx hb hr (fun t ht hW => ⟨_, u, rfl, hp, by rw [ht]; exact hP, hS.F ht⟩) hS.2.2 hdg hlocks))
theorem fx_retz {S : Type} {F : S → Nat → Nat × va_E} {u : S} {post : Option Value → S → Prop} {XC : String → State → State → Prop} {mc ms : Nat} {v : Int32} {ty : FieldType} (hx : p.tables.exec = Jvm.exec) (hb : c.code = cc) (hr : meth.sig.returnType = some ty) (hlocks : meth.locks = false) (hn : narrow ty (.int v) = .int v)
    (hP : va_P Z.1 vwCl (iw N (F u)) H) (hS : va_S (fx_A N ad s.heap.size) s.heap H locs) (hc : cells ≤ mc) (hs : slots ≤ ms) (hdg : decode cc pc = .ok (.ireturn, 1)) (hp : post (some (.int v)) u) :
    W p l e R s m args below meth c H locs cells slots (vx_MQ below (fx_post Z N ad F post s.heap.size) XC args s mc ms (fx_A N ad s.heap.size)) (F0 m pc ls [.int v]) := by
  refine W.widen (k := mc) (n := ms) hc hs (vx_ret (W.zret (v := v) hx hb hr hn (fun t ht hW => ⟨_, u, rfl, hp, by rw [ht]; exact hP, hS.F ht⟩) hS.2.2 hdg hlocks))
theorem fx_retv {S : Type} {F : S → Nat → Nat × va_E} {u : S} {post : Option Value → S → Prop} {XC : String → State → State → Prop} {mc ms : Nat} (hx : p.tables.exec = Jvm.exec) (hb : c.code = cc) (hr : meth.sig.returnType = none) (hlocks : meth.locks = false)
    (hP : va_P Z.1 vwCl (iw N (F u)) H) (hS : va_S (fx_A N ad s.heap.size) s.heap H locs) (hc : cells ≤ mc) (hs : slots ≤ ms) (hdg : decode cc pc = .ok (.return_, 1)) (hp : post none u) :
    W p l e R s m args below meth c H locs cells slots (vx_MQ below (fx_post Z N ad F post s.heap.size) XC args s mc ms (fx_A N ad s.heap.size)) (F0 m pc ls []) := by
  refine W.widen (k := mc) (n := ms) hc hs (vx_ret (W.vret hx hb hr (fun t ht hW => ⟨_, u, rfl, hp, by rw [ht]; exact hP, hS.F ht⟩) hS.2.2 hdg hlocks))
theorem fx_reta {S : Type} {F : S → Nat → Nat × va_E} {u : S} {post : Option Value → S → Prop} {XC : String → State → State → Prop} {mc ms a : Nat} {rt : FieldType} (hx : p.tables.exec = Jvm.exec) (hb : c.code = cc) (hr : meth.sig.returnType = some rt) (hrt : (∃ n, rt = .object n) ∨ ∃ t, rt = .array t) (hlocks : meth.locks = false)
    (hP : va_P Z.1 vwCl (iw N (F u)) H) (hS : va_S (fx_A N ad s.heap.size) s.heap H locs) (hc : cells ≤ mc) (hs : slots ≤ ms) (hdg : decode cc pc = .ok (.areturn, 1)) (hp : post (some (.ref a)) u) :
    W p l e R s m args below meth c H locs cells slots (vx_MQ below (fx_post Z N ad F post s.heap.size) XC args s mc ms (fx_A N ad s.heap.size)) (F0 m pc ls [.ref a]) := by
  refine W.widen (k := mc) (n := ms) hc hs (vx_ret (W.aret (v := .ref a) hx hb hr hrt (Or.inr ⟨a, rfl⟩) (fun t ht hW => ⟨_, u, rfl, hp, by rw [ht]; exact hP, hS.F ht⟩) hS.2.2 hdg hlocks))
/-- thrown by a callee, not caught here -/
theorem fx_out {F0g : Nat → Nat × va_E} {Qc : Array Value → State → Outcome → State → Prop} {px : String → Prop} {mc ms : Nat} {E : String} {ce : Cell} {q9 : Addr} (hout : ∀ x ∈ c.exceptionTable.toList, False) (hlocks : meth.locks = false)
    (hP : va_P Z.1 vwCl (iw N F0g) H) (hS : va_S (fx_A N ad s.heap.size) s.heap H locs) (hc : cells ≤ mc) (hs : slots ≤ ms) (hcell : H[q9]? = some ce) (hv : ce.vm = .none) (hcl : s.vm.findClass E = some ce.cls) (hp : px E) :
    vx_W p l e R s m args below meth c H locs cells slots (vx_MQ below Qc (fx_px Z N ad F0g px s.heap.size) args s mc ms (fx_A N ad s.heap.size)) (F0 m pc ls rest) q9 :=
  vx_out (fun x hx => absurd (hout x hx) id) hlocks hcell hv hcl (fun t ht hW => ⟨hp, by rw [ht]; exact hP, hS.F ht⟩) hS.2.2 hc hs
end FXC
end
section
/-! ===== states: cells' contents by kind and place; the model's world ===== -/
abbrev St : Type := Nat → Nat → Int32
def u2 (g : St) (k i : Nat) (x : Int32) : St := fun k' => if k' = k then upd (g k) i x else g k'
theorem u2_k (g : St) (k i : Nat) (x : Int32) : u2 g k i x k = upd (g k) i x := if_pos rfl
theorem u2_ne (g : St) {k k' : Nat} (i : Nat) (x : Int32) (h : k' ≠ k) : u2 g k i x k' = g k' := if_neg h
theorem u2_at (g : St) (k i k' i' : Nat) (x : Int32) : u2 g k i x k' i' = if k' = k ∧ i' = i then x else g k' i' := by
  unfold u2
  by_cases h : k' = k
  · subst h
    rw [if_pos rfl]
    unfold upd
    by_cases h2 : i' = i
    · rw [if_pos h2, if_pos ⟨rfl, h2⟩]
    · rw [if_neg h2, if_neg (fun q => h2 q.2)]
  · rw [if_neg h, if_neg (fun q => h q.1)]
theorem u2_self (g : St) (k i : Nat) (x : Int32) : u2 g k i x k i = x := by rw [u2_at, if_pos ⟨rfl, rfl⟩]
theorem u2_off (g : St) {k i k' i' : Nat} (x : Int32) (h : ¬ (k' = k ∧ i' = i)) : u2 g k i x k' i' = g k' i' := by rw [u2_at, if_neg h]
def mlen (k : Nat) : Nat := if k = 1 then 4 else if k ≤ 10 then 60 else if k ≤ 14 then 20 else 10
def mct (am : Nat → Nat) (cI : ClassId) (h : St) (k : Nat) : va_E := if k = 0 then .inr (5, [.ref (am 1), .ref (am 2), .ref (am 3), .ref (am 4), .ref (am 5), .ref (am 6), .ref (am 7), .ref (am 8), .ref (am 9), .ref (am 10), .int (h 0 0), .ref (am 11), .ref (am 12), .ref (am 13), .ref (am 14), .int (h 0 1), .ref (am 15), .ref (am 16), .ref (am 17), .ref (am 18), .ref (am 19), .ref (am 20), .ref (am 21), .int (h 0 2), .int (h 0 3)]) else .inl (cI, mlen k, .inl (h k))
abbrev mF (am : Nat → Nat) (cI : ClassId) (h : St) (k : Nat) : Nat × va_E := (am k, mct am cI h k)
theorem mF_1 {am : Nat → Nat} {cI : ClassId} (h : St) : ∀ k, k < 22 → (mF am cI h k).1 = am k := fun _ _ => rfl
theorem mF_0 {am : Nat → Nat} {cI : ClassId} {h : St} : mF am cI h 0 = (am 0, .inr (5, [.ref (am 1), .ref (am 2), .ref (am 3), .ref (am 4), .ref (am 5), .ref (am 6), .ref (am 7), .ref (am 8), .ref (am 9), .ref (am 10), .int (h 0 0), .ref (am 11), .ref (am 12), .ref (am 13), .ref (am 14), .int (h 0 1), .ref (am 15), .ref (am 16), .ref (am 17), .ref (am 18), .ref (am 19), .ref (am 20), .ref (am 21), .int (h 0 2), .int (h 0 3)])) := rfl
theorem mF_a {am : Nat → Nat} {cI : ClassId} {h : St} {k : Nat} (hk : k ≠ 0) : mF am cI h k = (am k, .inl (cI, mlen k, .inl (h k))) := by
  show (am k, mct am cI h k) = _
  unfold mct
  rw [if_neg hk]
theorem mF_sa {am : Nat → Nat} {cI : ClassId} {h : St} {k i : Nat} {x : Int32} (hk : k < 22) (h0 : k ≠ 0) : (iw 22 (mF am cI h)).set k (am k, .inl (cI, mlen k, .inl (upd (h k) i x))) = iw 22 (mF am cI (u2 h k i x)) := by
  refine iw_set hk fun j hj => ?_
  by_cases e : j = k
  · subst e
    rw [if_pos rfl, mF_a h0, u2_k]
  · rw [if_neg e]
    by_cases e0 : j = 0
    · subst e0
      show (am 0, mct am cI (u2 h k i x) 0) = (am 0, mct am cI h 0)
      unfold mct
      rw [if_pos rfl, if_pos rfl, u2_ne h i x (Ne.symm h0)]
    · rw [mF_a e0, mF_a e0, u2_ne h i x e]
theorem mF_s0 {am : Nat → Nat} {cI : ClassId} {h h1 : St} {e : Nat × va_E} (hk : ∀ k, k ≠ 0 → h1 k = h k) (he : mF am cI h1 0 = e) : (iw 22 (mF am cI h)).set 0 e = iw 22 (mF am cI h1) := by
  refine iw_set (by decide) fun j hj => ?_
  by_cases e0 : j = 0
  · subst e0
    rw [if_pos rfl]; exact he
  · rw [if_neg e0, mF_a e0, mF_a e0, hk j e0]
theorem i_X4 : ∀ w ∈ wsX40, w ∈ fx_ws := by
  intro w hw
  obtain ⟨k, hk, rfl⟩ := List.mem_map.mp hw
  have hk : k < 25 := List.mem_range.mp hk
  have key : ∀ k, k < 25 → u_lay RX4 TX4 k ∈ fx_ws := by
    intro k hk
    match k, hk with
    | 0, _ => exact fx_w 711 (by decide +kernel) rfl
    | 1, _ => exact fx_w 713 (by decide +kernel) rfl
    | 2, _ => exact fx_w 715 (by decide +kernel) rfl
    | 3, _ => exact fx_w 717 (by decide +kernel) rfl
    | 4, _ => exact fx_w 719 (by decide +kernel) rfl
    | 5, _ => exact fx_w 721 (by decide +kernel) rfl
    | 6, _ => exact fx_w 723 (by decide +kernel) rfl
    | 7, _ => exact fx_w 725 (by decide +kernel) rfl
    | 8, _ => exact fx_w 727 (by decide +kernel) rfl
    | 9, _ => exact fx_w 729 (by decide +kernel) rfl
    | 10, _ => exact fx_w 731 (by decide +kernel) rfl
    | 11, _ => exact fx_w 733 (by decide +kernel) rfl
    | 12, _ => exact fx_w 735 (by decide +kernel) rfl
    | 13, _ => exact fx_w 737 (by decide +kernel) rfl
    | 14, _ => exact fx_w 739 (by decide +kernel) rfl
    | 15, _ => exact fx_w 741 (by decide +kernel) rfl
    | 16, _ => exact fx_w 743 (by decide +kernel) rfl
    | 17, _ => exact fx_w 745 (by decide +kernel) rfl
    | 18, _ => exact fx_w 747 (by decide +kernel) rfl
    | 19, _ => exact fx_w 749 (by decide +kernel) rfl
    | 20, _ => exact fx_w 751 (by decide +kernel) rfl
    | 21, _ => exact fx_w 753 (by decide +kernel) rfl
    | 22, _ => exact fx_w 755 (by decide +kernel) rfl
    | 23, _ => exact fx_w 757 (by decide +kernel) rfl
    | 24, _ => exact fx_w 759 (by decide +kernel) rfl
    | k + 25, h => exact absurd h (by omega)
  exact key k hk
section FXM
variable {p : Program} {l : Launch} {e : Env} {R : Room} {s : State} {m : MethodId} {args : Array Value} {below : List Frame} {meth : Method} {c : Code} {H : Heap} {locs : List Loc} {cells slots : Nat} {Q : State → Prop}
variable {Z : fx_Z} {am : Nat → Nat} {cc : ByteArray} {pc nL : Nat} {ls : Array Slot} {rest : List Value} {h : St}
/-- the standing facts of a method of the model -/
def m_K (p : Program) (s : State) (m : MethodId) (args : Array Value) (c : Code) (cc : ByteArray) (nL : Nat) (Z : fx_Z) (am : Nat → Nat) : Prop :=
  p.tables.exec = Jvm.exec ∧ c.code = cc ∧ c.maxLocals = nL ∧ s.vm.findClass RX4 = some m.cls ∧ (∀ w ∈ fx_ws, w.before args s = true) ∧ fx_E Z s ∧ fx_S (fx_A 22 am s.heap.size) s s.heap ∧ fx_inj 22 am
theorem m_A {k : Nat} (hk : k < 22) : fx_A 22 am s.heap.size (am k) := Or.inl ⟨k, hk, rfl⟩
theorem m_A2 : ∀ q, s.heap.size ≤ q → fx_A 22 am s.heap.size q := fun q h => Or.inr h
theorem m_D (hi : fx_inj 22 am) : va_D (fx_A 22 am s.heap.size) (iw 22 (mF am (Z.2.1 0) h)) := fx_D hi (mF_1 h) (fun k hk => m_A hk)
theorem mr_ald {k i n : Nat} (K : m_K p s m args c cc nL Z am) (hP : va_P Z.1 vwCl (iw 22 (mF am (Z.2.1 0) h)) H) (hk : k < 22) (h0 : k ≠ 0) (hn : mlen k = n) (hi : i < n) (hn2 : n < 2 ^ 31) (hdg : decode cc pc = .ok (.iaload, 1))
    (kk : W p l e R s m args below meth c H locs cells slots Q (F0 m (pc + 1) ls (.int (h k i) :: rest))) : W p l e R s m args below meth c H locs cells slots Q (F0 m pc ls (.int (nI i) :: .ref (am k) :: rest)) := by
  obtain ⟨hx, hb, -, -, -, hE, -⟩ := K
  refine va_iald hx hb hE.1 hP k 0 (by rw [iw_at hk, mF_a h0]) rfl (by rw [hn]; exact vp_in_nI hi hn2) hdg ?_
  rw [nI_clamp (Nat.lt_trans hi hn2)]
  exact kk
theorem mr_ast {k i n : Nat} {x : Int32} (K : m_K p s m args c cc nL Z am) (hP : va_P Z.1 vwCl (iw 22 (mF am (Z.2.1 0) h)) H) (hS : va_S (fx_A 22 am s.heap.size) s.heap H locs) (hk : k < 22) (h0 : k ≠ 0) (hn : mlen k = n) (hi : i < n) (hn2 : n < 2 ^ 31) (hdg : decode cc pc = .ok (.iastore, 1))
    (kk : ∀ (h1 : St) (H1 : Heap) (locs1 : List Loc), h1 = u2 h k i x → va_P Z.1 vwCl (iw 22 (mF am (Z.2.1 0) h1)) H1 → va_S (fx_A 22 am s.heap.size) s.heap H1 locs1 → W p l e R s m args below meth c H1 locs1 cells slots Q (F0 m (pc + 1) ls rest)) : W p l e R s m args below meth c H locs cells slots Q (F0 m pc ls (.int x :: .int (nI i) :: .ref (am k) :: rest)) := by
  obtain ⟨hx, hb, -, -, -, hE, -, hi9⟩ := K
  refine va_iast hx hb hE.1 hP (m_D hi9) hS k 0 (n := mlen k) (f := h k) (by rw [iw_at hk, mF_a h0]) rfl (by rw [hn]; exact vp_in_nI hi hn2) hdg fun H1 locs1 hP1 _ hS1 => ?_
  rw [nI_clamp (Nat.lt_trans hi hn2), mF_sa hk h0] at hP1
  exact kk _ H1 locs1 rfl hP1 hS1
theorem m_recv (K : m_K p s m args c cc nL Z am) (hP : va_P Z.1 vwCl (iw 22 (mF am (Z.2.1 0) h)) H) : ∃ cellB : Cell, H[am 0]? = some cellB ∧ cellB.vm.isStatics = false ∧ s.vm.findClass RX4 = some cellB.cls :=
  va_recv K.2.2.2.2.2.1.1 hP (ci := 5) (q0 := 0) (q := (RX4, TX4, 25)) rfl (by rw [iw_at (by decide), mF_0])
theorem mg_rate (K : m_K p s m args c cc nL Z am) (hP : va_P Z.1 vwCl (iw 22 (mF am (Z.2.1 0) h)) H) (hdg : decode cc pc = .ok (.getfield 7, 3)) (kk : W p l e R s m args below meth c H locs cells slots Q (F0 m (pc + 3) ls (.ref (am 1) :: rest))) : W p l e R s m args below meth c H locs cells slots Q (F0 m pc ls (.ref (am 0) :: rest)) := by
  obtain ⟨hx, hb, -, hown, hT, hE, -⟩ := K
  exact va_get (D := Z.1) (ci := 5) (v := .ref (am 1)) (C := RX4) (T := TX4) (N := 25) (ref := "FerrytaxModel") hx hb hT i_X4 hown hE.1 hP 0 (by rw [iw_at (by decide), mF_0]) rfl 0 (by decide) (hT (.fieldLink RX4 7 "FerrytaxModel" "rate" "[I") (fx_w 686 (by decide +kernel) rfl)) (fun _ h9 => h9) rfl hdg kk
theorem mg_rs (K : m_K p s m args c cc nL Z am) (hP : va_P Z.1 vwCl (iw 22 (mF am (Z.2.1 0) h)) H) (hdg : decode cc pc = .ok (.getfield 13, 3)) (kk : W p l e R s m args below meth c H locs cells slots Q (F0 m (pc + 3) ls (.ref (am 2) :: rest))) : W p l e R s m args below meth c H locs cells slots Q (F0 m pc ls (.ref (am 0) :: rest)) := by
  obtain ⟨hx, hb, -, hown, hT, hE, -⟩ := K
  exact va_get (D := Z.1) (ci := 5) (v := .ref (am 2)) (C := RX4) (T := TX4) (N := 25) (ref := "FerrytaxModel") hx hb hT i_X4 hown hE.1 hP 0 (by rw [iw_at (by decide), mF_0]) rfl 1 (by decide) (hT (.fieldLink RX4 13 "FerrytaxModel" "rs" "[I") (fx_w 687 (by decide +kernel) rfl)) (fun _ h9 => h9) rfl hdg kk
theorem mg_rt (K : m_K p s m args c cc nL Z am) (hP : va_P Z.1 vwCl (iw 22 (mF am (Z.2.1 0) h)) H) (hdg : decode cc pc = .ok (.getfield 16, 3)) (kk : W p l e R s m args below meth c H locs cells slots Q (F0 m (pc + 3) ls (.ref (am 3) :: rest))) : W p l e R s m args below meth c H locs cells slots Q (F0 m pc ls (.ref (am 0) :: rest)) := by
  obtain ⟨hx, hb, -, hown, hT, hE, -⟩ := K
  exact va_get (D := Z.1) (ci := 5) (v := .ref (am 3)) (C := RX4) (T := TX4) (N := 25) (ref := "FerrytaxModel") hx hb hT i_X4 hown hE.1 hP 0 (by rw [iw_at (by decide), mF_0]) rfl 2 (by decide) (hT (.fieldLink RX4 16 "FerrytaxModel" "rt" "[I") (fx_w 688 (by decide +kernel) rfl)) (fun _ h9 => h9) rfl hdg kk
theorem mg_rp (K : m_K p s m args c cc nL Z am) (hP : va_P Z.1 vwCl (iw 22 (mF am (Z.2.1 0) h)) H) (hdg : decode cc pc = .ok (.getfield 19, 3)) (kk : W p l e R s m args below meth c H locs cells slots Q (F0 m (pc + 3) ls (.ref (am 4) :: rest))) : W p l e R s m args below meth c H locs cells slots Q (F0 m pc ls (.ref (am 0) :: rest)) := by
  obtain ⟨hx, hb, -, hown, hT, hE, -⟩ := K
  exact va_get (D := Z.1) (ci := 5) (v := .ref (am 4)) (C := RX4) (T := TX4) (N := 25) (ref := "FerrytaxModel") hx hb hT i_X4 hown hE.1 hP 0 (by rw [iw_at (by decide), mF_0]) rfl 3 (by decide) (hT (.fieldLink RX4 19 "FerrytaxModel" "rp" "[I") (fx_w 689 (by decide +kernel) rfl)) (fun _ h9 => h9) rfl hdg kk
theorem mg_rx (K : m_K p s m args c cc nL Z am) (hP : va_P Z.1 vwCl (iw 22 (mF am (Z.2.1 0) h)) H) (hdg : decode cc pc = .ok (.getfield 22, 3)) (kk : W p l e R s m args below meth c H locs cells slots Q (F0 m (pc + 3) ls (.ref (am 5) :: rest))) : W p l e R s m args below meth c H locs cells slots Q (F0 m pc ls (.ref (am 0) :: rest)) := by
  obtain ⟨hx, hb, -, hown, hT, hE, -⟩ := K
  exact va_get (D := Z.1) (ci := 5) (v := .ref (am 5)) (C := RX4) (T := TX4) (N := 25) (ref := "FerrytaxModel") hx hb hT i_X4 hown hE.1 hP 0 (by rw [iw_at (by decide), mF_0]) rfl 4 (by decide) (hT (.fieldLink RX4 22 "FerrytaxModel" "rx" "[I") (fx_w 690 (by decide +kernel) rfl)) (fun _ h9 => h9) rfl hdg kk
theorem mg_rh (K : m_K p s m args c cc nL Z am) (hP : va_P Z.1 vwCl (iw 22 (mF am (Z.2.1 0) h)) H) (hdg : decode cc pc = .ok (.getfield 25, 3)) (kk : W p l e R s m args below meth c H locs cells slots Q (F0 m (pc + 3) ls (.ref (am 6) :: rest))) : W p l e R s m args below meth c H locs cells slots Q (F0 m pc ls (.ref (am 0) :: rest)) := by
  obtain ⟨hx, hb, -, hown, hT, hE, -⟩ := K
  exact va_get (D := Z.1) (ci := 5) (v := .ref (am 6)) (C := RX4) (T := TX4) (N := 25) (ref := "FerrytaxModel") hx hb hT i_X4 hown hE.1 hP 0 (by rw [iw_at (by decide), mF_0]) rfl 5 (by decide) (hT (.fieldLink RX4 25 "FerrytaxModel" "rh" "[I") (fx_w 691 (by decide +kernel) rfl)) (fun _ h9 => h9) rfl hdg kk
theorem mg_rk (K : m_K p s m args c cc nL Z am) (hP : va_P Z.1 vwCl (iw 22 (mF am (Z.2.1 0) h)) H) (hdg : decode cc pc = .ok (.getfield 28, 3)) (kk : W p l e R s m args below meth c H locs cells slots Q (F0 m (pc + 3) ls (.ref (am 7) :: rest))) : W p l e R s m args below meth c H locs cells slots Q (F0 m pc ls (.ref (am 0) :: rest)) := by
  obtain ⟨hx, hb, -, hown, hT, hE, -⟩ := K
  exact va_get (D := Z.1) (ci := 5) (v := .ref (am 7)) (C := RX4) (T := TX4) (N := 25) (ref := "FerrytaxModel") hx hb hT i_X4 hown hE.1 hP 0 (by rw [iw_at (by decide), mF_0]) rfl 6 (by decide) (hT (.fieldLink RX4 28 "FerrytaxModel" "rk" "[I") (fx_w 692 (by decide +kernel) rfl)) (fun _ h9 => h9) rfl hdg kk
theorem mg_rf (K : m_K p s m args c cc nL Z am) (hP : va_P Z.1 vwCl (iw 22 (mF am (Z.2.1 0) h)) H) (hdg : decode cc pc = .ok (.getfield 31, 3)) (kk : W p l e R s m args below meth c H locs cells slots Q (F0 m (pc + 3) ls (.ref (am 8) :: rest))) : W p l e R s m args below meth c H locs cells slots Q (F0 m pc ls (.ref (am 0) :: rest)) := by
  obtain ⟨hx, hb, -, hown, hT, hE, -⟩ := K
  exact va_get (D := Z.1) (ci := 5) (v := .ref (am 8)) (C := RX4) (T := TX4) (N := 25) (ref := "FerrytaxModel") hx hb hT i_X4 hown hE.1 hP 0 (by rw [iw_at (by decide), mF_0]) rfl 7 (by decide) (hT (.fieldLink RX4 31 "FerrytaxModel" "rf" "[I") (fx_w 693 (by decide +kernel) rfl)) (fun _ h9 => h9) rfl hdg kk
theorem mg_rr (K : m_K p s m args c cc nL Z am) (hP : va_P Z.1 vwCl (iw 22 (mF am (Z.2.1 0) h)) H) (hdg : decode cc pc = .ok (.getfield 34, 3)) (kk : W p l e R s m args below meth c H locs cells slots Q (F0 m (pc + 3) ls (.ref (am 9) :: rest))) : W p l e R s m args below meth c H locs cells slots Q (F0 m pc ls (.ref (am 0) :: rest)) := by
  obtain ⟨hx, hb, -, hown, hT, hE, -⟩ := K
  exact va_get (D := Z.1) (ci := 5) (v := .ref (am 9)) (C := RX4) (T := TX4) (N := 25) (ref := "FerrytaxModel") hx hb hT i_X4 hown hE.1 hP 0 (by rw [iw_at (by decide), mF_0]) rfl 8 (by decide) (hT (.fieldLink RX4 34 "FerrytaxModel" "rr" "[I") (fx_w 694 (by decide +kernel) rfl)) (fun _ h9 => h9) rfl hdg kk
theorem mg_rn (K : m_K p s m args c cc nL Z am) (hP : va_P Z.1 vwCl (iw 22 (mF am (Z.2.1 0) h)) H) (hdg : decode cc pc = .ok (.getfield 37, 3)) (kk : W p l e R s m args below meth c H locs cells slots Q (F0 m (pc + 3) ls (.ref (am 10) :: rest))) : W p l e R s m args below meth c H locs cells slots Q (F0 m pc ls (.ref (am 0) :: rest)) := by
  obtain ⟨hx, hb, -, hown, hT, hE, -⟩ := K
  exact va_get (D := Z.1) (ci := 5) (v := .ref (am 10)) (C := RX4) (T := TX4) (N := 25) (ref := "FerrytaxModel") hx hb hT i_X4 hown hE.1 hP 0 (by rw [iw_at (by decide), mF_0]) rfl 9 (by decide) (hT (.fieldLink RX4 37 "FerrytaxModel" "rn" "[I") (fx_w 695 (by decide +kernel) rfl)) (fun _ h9 => h9) rfl hdg kk
theorem mg_receipts (K : m_K p s m args c cc nL Z am) (hP : va_P Z.1 vwCl (iw 22 (mF am (Z.2.1 0) h)) H) (hdg : decode cc pc = .ok (.getfield 77, 3)) (kk : W p l e R s m args below meth c H locs cells slots Q (F0 m (pc + 3) ls (.int (h 0 0) :: rest))) : W p l e R s m args below meth c H locs cells slots Q (F0 m pc ls (.ref (am 0) :: rest)) := by
  obtain ⟨hx, hb, -, hown, hT, hE, -⟩ := K
  exact va_get (D := Z.1) (ci := 5) (v := .int (h 0 0)) (C := RX4) (T := TX4) (N := 25) (ref := "FerrytaxModel") hx hb hT i_X4 hown hE.1 hP 0 (by rw [iw_at (by decide), mF_0]) rfl 10 (by decide) (hT (.fieldLink RX4 77 "FerrytaxModel" "receipts" "I") (fx_w 696 (by decide +kernel) rfl)) (fun _ h9 => h9) rfl hdg kk
theorem mp_receipts {x : Int32} (K : m_K p s m args c cc nL Z am) (hP : va_P Z.1 vwCl (iw 22 (mF am (Z.2.1 0) h)) H) (hS : va_S (fx_A 22 am s.heap.size) s.heap H locs) (hdg : decode cc pc = .ok (.putfield 77, 3))
    (kk : ∀ (h1 : St) (H1 : Heap) (locs1 : List Loc), h1 = u2 h 0 0 x → va_P Z.1 vwCl (iw 22 (mF am (Z.2.1 0) h1)) H1 → va_S (fx_A 22 am s.heap.size) s.heap H1 locs1 → W p l e R s m args below meth c H1 locs1 cells slots Q (F0 m (pc + 3) ls rest)) : W p l e R s m args below meth c H locs cells slots Q (F0 m pc ls (.int x :: .ref (am 0) :: rest)) := by
  obtain ⟨hx, hb, -, hown, hT, hE, -, hi9⟩ := K
  refine va_put (D := Z.1) (ci := 5) (v := .int x) (ty := .int) (C := RX4) (T := TX4) (N := 25) (ref := "FerrytaxModel") hx hb hT i_X4 tyX4 tyX4_ok nmX4 hown hE.1 hP (m_D hi9) hS 0 (by rw [iw_at (by decide), mF_0]) rfl 10 (by decide) (hT (.fieldLink RX4 77 "FerrytaxModel" "receipts" "I") (fx_w 696 (by decide +kernel) rfl)) (fun _ h9 => h9) rfl (by decide +kernel) rfl rfl (Nat.le_of_ble_eq_true rfl) hdg fun H1 locs1 hP1 _ hS1 => ?_
  rw [mF_s0 (h1 := u2 h 0 0 x) (fun k hk => u2_ne h 0 x hk) (by rw [mF_0, u2_k]; simp [upd])] at hP1
  exact kk _ H1 locs1 rfl hP1 hS1
theorem mg_fh (K : m_K p s m args c cc nL Z am) (hP : va_P Z.1 vwCl (iw 22 (mF am (Z.2.1 0) h)) H) (hdg : decode cc pc = .ok (.getfield 40, 3)) (kk : W p l e R s m args below meth c H locs cells slots Q (F0 m (pc + 3) ls (.ref (am 11) :: rest))) : W p l e R s m args below meth c H locs cells slots Q (F0 m pc ls (.ref (am 0) :: rest)) := by
  obtain ⟨hx, hb, -, hown, hT, hE, -⟩ := K
  exact va_get (D := Z.1) (ci := 5) (v := .ref (am 11)) (C := RX4) (T := TX4) (N := 25) (ref := "FerrytaxModel") hx hb hT i_X4 hown hE.1 hP 0 (by rw [iw_at (by decide), mF_0]) rfl 11 (by decide) (hT (.fieldLink RX4 40 "FerrytaxModel" "fh" "[I") (fx_w 697 (by decide +kernel) rfl)) (fun _ h9 => h9) rfl hdg kk
theorem mg_fs (K : m_K p s m args c cc nL Z am) (hP : va_P Z.1 vwCl (iw 22 (mF am (Z.2.1 0) h)) H) (hdg : decode cc pc = .ok (.getfield 43, 3)) (kk : W p l e R s m args below meth c H locs cells slots Q (F0 m (pc + 3) ls (.ref (am 12) :: rest))) : W p l e R s m args below meth c H locs cells slots Q (F0 m pc ls (.ref (am 0) :: rest)) := by
  obtain ⟨hx, hb, -, hown, hT, hE, -⟩ := K
  exact va_get (D := Z.1) (ci := 5) (v := .ref (am 12)) (C := RX4) (T := TX4) (N := 25) (ref := "FerrytaxModel") hx hb hT i_X4 hown hE.1 hP 0 (by rw [iw_at (by decide), mF_0]) rfl 12 (by decide) (hT (.fieldLink RX4 43 "FerrytaxModel" "fs" "[I") (fx_w 698 (by decide +kernel) rfl)) (fun _ h9 => h9) rfl hdg kk
theorem mg_fw (K : m_K p s m args c cc nL Z am) (hP : va_P Z.1 vwCl (iw 22 (mF am (Z.2.1 0) h)) H) (hdg : decode cc pc = .ok (.getfield 46, 3)) (kk : W p l e R s m args below meth c H locs cells slots Q (F0 m (pc + 3) ls (.ref (am 13) :: rest))) : W p l e R s m args below meth c H locs cells slots Q (F0 m pc ls (.ref (am 0) :: rest)) := by
  obtain ⟨hx, hb, -, hown, hT, hE, -⟩ := K
  exact va_get (D := Z.1) (ci := 5) (v := .ref (am 13)) (C := RX4) (T := TX4) (N := 25) (ref := "FerrytaxModel") hx hb hT i_X4 hown hE.1 hP 0 (by rw [iw_at (by decide), mF_0]) rfl 13 (by decide) (hT (.fieldLink RX4 46 "FerrytaxModel" "fw" "[I") (fx_w 699 (by decide +kernel) rfl)) (fun _ h9 => h9) rfl hdg kk
theorem mg_fg (K : m_K p s m args c cc nL Z am) (hP : va_P Z.1 vwCl (iw 22 (mF am (Z.2.1 0) h)) H) (hdg : decode cc pc = .ok (.getfield 49, 3)) (kk : W p l e R s m args below meth c H locs cells slots Q (F0 m (pc + 3) ls (.ref (am 14) :: rest))) : W p l e R s m args below meth c H locs cells slots Q (F0 m pc ls (.ref (am 0) :: rest)) := by
  obtain ⟨hx, hb, -, hown, hT, hE, -⟩ := K
  exact va_get (D := Z.1) (ci := 5) (v := .ref (am 14)) (C := RX4) (T := TX4) (N := 25) (ref := "FerrytaxModel") hx hb hT i_X4 hown hE.1 hP 0 (by rw [iw_at (by decide), mF_0]) rfl 14 (by decide) (hT (.fieldLink RX4 49 "FerrytaxModel" "fg" "[I") (fx_w 700 (by decide +kernel) rfl)) (fun _ h9 => h9) rfl hdg kk
theorem mg_ferries (K : m_K p s m args c cc nL Z am) (hP : va_P Z.1 vwCl (iw 22 (mF am (Z.2.1 0) h)) H) (hdg : decode cc pc = .ok (.getfield 84, 3)) (kk : W p l e R s m args below meth c H locs cells slots Q (F0 m (pc + 3) ls (.int (h 0 1) :: rest))) : W p l e R s m args below meth c H locs cells slots Q (F0 m pc ls (.ref (am 0) :: rest)) := by
  obtain ⟨hx, hb, -, hown, hT, hE, -⟩ := K
  exact va_get (D := Z.1) (ci := 5) (v := .int (h 0 1)) (C := RX4) (T := TX4) (N := 25) (ref := "FerrytaxModel") hx hb hT i_X4 hown hE.1 hP 0 (by rw [iw_at (by decide), mF_0]) rfl 15 (by decide) (hT (.fieldLink RX4 84 "FerrytaxModel" "ferries" "I") (fx_w 701 (by decide +kernel) rfl)) (fun _ h9 => h9) rfl hdg kk
theorem mp_ferries {x : Int32} (K : m_K p s m args c cc nL Z am) (hP : va_P Z.1 vwCl (iw 22 (mF am (Z.2.1 0) h)) H) (hS : va_S (fx_A 22 am s.heap.size) s.heap H locs) (hdg : decode cc pc = .ok (.putfield 84, 3))
    (kk : ∀ (h1 : St) (H1 : Heap) (locs1 : List Loc), h1 = u2 h 0 1 x → va_P Z.1 vwCl (iw 22 (mF am (Z.2.1 0) h1)) H1 → va_S (fx_A 22 am s.heap.size) s.heap H1 locs1 → W p l e R s m args below meth c H1 locs1 cells slots Q (F0 m (pc + 3) ls rest)) : W p l e R s m args below meth c H locs cells slots Q (F0 m pc ls (.int x :: .ref (am 0) :: rest)) := by
  obtain ⟨hx, hb, -, hown, hT, hE, -, hi9⟩ := K
  refine va_put (D := Z.1) (ci := 5) (v := .int x) (ty := .int) (C := RX4) (T := TX4) (N := 25) (ref := "FerrytaxModel") hx hb hT i_X4 tyX4 tyX4_ok nmX4 hown hE.1 hP (m_D hi9) hS 0 (by rw [iw_at (by decide), mF_0]) rfl 15 (by decide) (hT (.fieldLink RX4 84 "FerrytaxModel" "ferries" "I") (fx_w 701 (by decide +kernel) rfl)) (fun _ h9 => h9) rfl (by decide +kernel) rfl rfl (Nat.le_of_ble_eq_true rfl) hdg fun H1 locs1 hP1 _ hS1 => ?_
  rw [mF_s0 (h1 := u2 h 0 1 x) (fun k hk => u2_ne h 1 x hk) (by rw [mF_0, u2_k]; simp [upd])] at hP1
  exact kk _ H1 locs1 rfl hP1 hS1
theorem mg_ab (K : m_K p s m args c cc nL Z am) (hP : va_P Z.1 vwCl (iw 22 (mF am (Z.2.1 0) h)) H) (hdg : decode cc pc = .ok (.getfield 52, 3)) (kk : W p l e R s m args below meth c H locs cells slots Q (F0 m (pc + 3) ls (.ref (am 15) :: rest))) : W p l e R s m args below meth c H locs cells slots Q (F0 m pc ls (.ref (am 0) :: rest)) := by
  obtain ⟨hx, hb, -, hown, hT, hE, -⟩ := K
  exact va_get (D := Z.1) (ci := 5) (v := .ref (am 15)) (C := RX4) (T := TX4) (N := 25) (ref := "FerrytaxModel") hx hb hT i_X4 hown hE.1 hP 0 (by rw [iw_at (by decide), mF_0]) rfl 16 (by decide) (hT (.fieldLink RX4 52 "FerrytaxModel" "ab" "[I") (fx_w 702 (by decide +kernel) rfl)) (fun _ h9 => h9) rfl hdg kk
theorem mg_gone (K : m_K p s m args c cc nL Z am) (hP : va_P Z.1 vwCl (iw 22 (mF am (Z.2.1 0) h)) H) (hdg : decode cc pc = .ok (.getfield 55, 3)) (kk : W p l e R s m args below meth c H locs cells slots Q (F0 m (pc + 3) ls (.ref (am 16) :: rest))) : W p l e R s m args below meth c H locs cells slots Q (F0 m pc ls (.ref (am 0) :: rest)) := by
  obtain ⟨hx, hb, -, hown, hT, hE, -⟩ := K
  exact va_get (D := Z.1) (ci := 5) (v := .ref (am 16)) (C := RX4) (T := TX4) (N := 25) (ref := "FerrytaxModel") hx hb hT i_X4 hown hE.1 hP 0 (by rw [iw_at (by decide), mF_0]) rfl 17 (by decide) (hT (.fieldLink RX4 55 "FerrytaxModel" "gone" "[I") (fx_w 703 (by decide +kernel) rfl)) (fun _ h9 => h9) rfl hdg kk
theorem mg_often (K : m_K p s m args c cc nL Z am) (hP : va_P Z.1 vwCl (iw 22 (mF am (Z.2.1 0) h)) H) (hdg : decode cc pc = .ok (.getfield 58, 3)) (kk : W p l e R s m args below meth c H locs cells slots Q (F0 m (pc + 3) ls (.ref (am 17) :: rest))) : W p l e R s m args below meth c H locs cells slots Q (F0 m pc ls (.ref (am 0) :: rest)) := by
  obtain ⟨hx, hb, -, hown, hT, hE, -⟩ := K
  exact va_get (D := Z.1) (ci := 5) (v := .ref (am 17)) (C := RX4) (T := TX4) (N := 25) (ref := "FerrytaxModel") hx hb hT i_X4 hown hE.1 hP 0 (by rw [iw_at (by decide), mF_0]) rfl 18 (by decide) (hT (.fieldLink RX4 58 "FerrytaxModel" "often" "[I") (fx_w 704 (by decide +kernel) rfl)) (fun _ h9 => h9) rfl hdg kk
theorem mg_missed (K : m_K p s m args c cc nL Z am) (hP : va_P Z.1 vwCl (iw 22 (mF am (Z.2.1 0) h)) H) (hdg : decode cc pc = .ok (.getfield 61, 3)) (kk : W p l e R s m args below meth c H locs cells slots Q (F0 m (pc + 3) ls (.ref (am 18) :: rest))) : W p l e R s m args below meth c H locs cells slots Q (F0 m pc ls (.ref (am 0) :: rest)) := by
  obtain ⟨hx, hb, -, hown, hT, hE, -⟩ := K
  exact va_get (D := Z.1) (ci := 5) (v := .ref (am 18)) (C := RX4) (T := TX4) (N := 25) (ref := "FerrytaxModel") hx hb hT i_X4 hown hE.1 hP 0 (by rw [iw_at (by decide), mF_0]) rfl 19 (by decide) (hT (.fieldLink RX4 61 "FerrytaxModel" "missed" "[I") (fx_w 705 (by decide +kernel) rfl)) (fun _ h9 => h9) rfl hdg kk
theorem mg_fine (K : m_K p s m args c cc nL Z am) (hP : va_P Z.1 vwCl (iw 22 (mF am (Z.2.1 0) h)) H) (hdg : decode cc pc = .ok (.getfield 64, 3)) (kk : W p l e R s m args below meth c H locs cells slots Q (F0 m (pc + 3) ls (.ref (am 19) :: rest))) : W p l e R s m args below meth c H locs cells slots Q (F0 m pc ls (.ref (am 0) :: rest)) := by
  obtain ⟨hx, hb, -, hown, hT, hE, -⟩ := K
  exact va_get (D := Z.1) (ci := 5) (v := .ref (am 19)) (C := RX4) (T := TX4) (N := 25) (ref := "FerrytaxModel") hx hb hT i_X4 hown hE.1 hP 0 (by rw [iw_at (by decide), mF_0]) rfl 20 (by decide) (hT (.fieldLink RX4 64 "FerrytaxModel" "fine" "[I") (fx_w 706 (by decide +kernel) rfl)) (fun _ h9 => h9) rfl hdg kk
theorem mg_refunds (K : m_K p s m args c cc nL Z am) (hP : va_P Z.1 vwCl (iw 22 (mF am (Z.2.1 0) h)) H) (hdg : decode cc pc = .ok (.getfield 67, 3)) (kk : W p l e R s m args below meth c H locs cells slots Q (F0 m (pc + 3) ls (.ref (am 20) :: rest))) : W p l e R s m args below meth c H locs cells slots Q (F0 m pc ls (.ref (am 0) :: rest)) := by
  obtain ⟨hx, hb, -, hown, hT, hE, -⟩ := K
  exact va_get (D := Z.1) (ci := 5) (v := .ref (am 20)) (C := RX4) (T := TX4) (N := 25) (ref := "FerrytaxModel") hx hb hT i_X4 hown hE.1 hP 0 (by rw [iw_at (by decide), mF_0]) rfl 21 (by decide) (hT (.fieldLink RX4 67 "FerrytaxModel" "refunds" "[I") (fx_w 707 (by decide +kernel) rfl)) (fun _ h9 => h9) rfl hdg kk
theorem mg_given (K : m_K p s m args c cc nL Z am) (hP : va_P Z.1 vwCl (iw 22 (mF am (Z.2.1 0) h)) H) (hdg : decode cc pc = .ok (.getfield 70, 3)) (kk : W p l e R s m args below meth c H locs cells slots Q (F0 m (pc + 3) ls (.ref (am 21) :: rest))) : W p l e R s m args below meth c H locs cells slots Q (F0 m pc ls (.ref (am 0) :: rest)) := by
  obtain ⟨hx, hb, -, hown, hT, hE, -⟩ := K
  exact va_get (D := Z.1) (ci := 5) (v := .ref (am 21)) (C := RX4) (T := TX4) (N := 25) (ref := "FerrytaxModel") hx hb hT i_X4 hown hE.1 hP 0 (by rw [iw_at (by decide), mF_0]) rfl 22 (by decide) (hT (.fieldLink RX4 70 "FerrytaxModel" "given" "[I") (fx_w 708 (by decide +kernel) rfl)) (fun _ h9 => h9) rfl hdg kk
theorem mg_hour (K : m_K p s m args c cc nL Z am) (hP : va_P Z.1 vwCl (iw 22 (mF am (Z.2.1 0) h)) H) (hdg : decode cc pc = .ok (.getfield 91, 3)) (kk : W p l e R s m args below meth c H locs cells slots Q (F0 m (pc + 3) ls (.int (h 0 2) :: rest))) : W p l e R s m args below meth c H locs cells slots Q (F0 m pc ls (.ref (am 0) :: rest)) := by
  obtain ⟨hx, hb, -, hown, hT, hE, -⟩ := K
  exact va_get (D := Z.1) (ci := 5) (v := .int (h 0 2)) (C := RX4) (T := TX4) (N := 25) (ref := "FerrytaxModel") hx hb hT i_X4 hown hE.1 hP 0 (by rw [iw_at (by decide), mF_0]) rfl 23 (by decide) (hT (.fieldLink RX4 91 "FerrytaxModel" "hour" "I") (fx_w 709 (by decide +kernel) rfl)) (fun _ h9 => h9) rfl hdg kk
theorem mp_hour {x : Int32} (K : m_K p s m args c cc nL Z am) (hP : va_P Z.1 vwCl (iw 22 (mF am (Z.2.1 0) h)) H) (hS : va_S (fx_A 22 am s.heap.size) s.heap H locs) (hdg : decode cc pc = .ok (.putfield 91, 3))
    (kk : ∀ (h1 : St) (H1 : Heap) (locs1 : List Loc), h1 = u2 h 0 2 x → va_P Z.1 vwCl (iw 22 (mF am (Z.2.1 0) h1)) H1 → va_S (fx_A 22 am s.heap.size) s.heap H1 locs1 → W p l e R s m args below meth c H1 locs1 cells slots Q (F0 m (pc + 3) ls rest)) : W p l e R s m args below meth c H locs cells slots Q (F0 m pc ls (.int x :: .ref (am 0) :: rest)) := by
  obtain ⟨hx, hb, -, hown, hT, hE, -, hi9⟩ := K
  refine va_put (D := Z.1) (ci := 5) (v := .int x) (ty := .int) (C := RX4) (T := TX4) (N := 25) (ref := "FerrytaxModel") hx hb hT i_X4 tyX4 tyX4_ok nmX4 hown hE.1 hP (m_D hi9) hS 0 (by rw [iw_at (by decide), mF_0]) rfl 23 (by decide) (hT (.fieldLink RX4 91 "FerrytaxModel" "hour" "I") (fx_w 709 (by decide +kernel) rfl)) (fun _ h9 => h9) rfl (by decide +kernel) rfl rfl (Nat.le_of_ble_eq_true rfl) hdg fun H1 locs1 hP1 _ hS1 => ?_
  rw [mF_s0 (h1 := u2 h 0 2 x) (fun k hk => u2_ne h 2 x hk) (by rw [mF_0, u2_k]; simp [upd])] at hP1
  exact kk _ H1 locs1 rfl hP1 hS1
theorem mg_thrown (K : m_K p s m args c cc nL Z am) (hP : va_P Z.1 vwCl (iw 22 (mF am (Z.2.1 0) h)) H) (hdg : decode cc pc = .ok (.getfield 73, 3)) (kk : W p l e R s m args below meth c H locs cells slots Q (F0 m (pc + 3) ls (.int (h 0 3) :: rest))) : W p l e R s m args below meth c H locs cells slots Q (F0 m pc ls (.ref (am 0) :: rest)) := by
  obtain ⟨hx, hb, -, hown, hT, hE, -⟩ := K
  exact va_get (D := Z.1) (ci := 5) (v := .int (h 0 3)) (C := RX4) (T := TX4) (N := 25) (ref := "FerrytaxModel") hx hb hT i_X4 hown hE.1 hP 0 (by rw [iw_at (by decide), mF_0]) rfl 24 (by decide) (hT (.fieldLink RX4 73 "FerrytaxModel" "thrown" "I") (fx_w 710 (by decide +kernel) rfl)) (fun _ h9 => h9) rfl hdg kk
theorem mp_thrown {x : Int32} (K : m_K p s m args c cc nL Z am) (hP : va_P Z.1 vwCl (iw 22 (mF am (Z.2.1 0) h)) H) (hS : va_S (fx_A 22 am s.heap.size) s.heap H locs) (hdg : decode cc pc = .ok (.putfield 73, 3))
    (kk : ∀ (h1 : St) (H1 : Heap) (locs1 : List Loc), h1 = u2 h 0 3 x → va_P Z.1 vwCl (iw 22 (mF am (Z.2.1 0) h1)) H1 → va_S (fx_A 22 am s.heap.size) s.heap H1 locs1 → W p l e R s m args below meth c H1 locs1 cells slots Q (F0 m (pc + 3) ls rest)) : W p l e R s m args below meth c H locs cells slots Q (F0 m pc ls (.int x :: .ref (am 0) :: rest)) := by
  obtain ⟨hx, hb, -, hown, hT, hE, -, hi9⟩ := K
  refine va_put (D := Z.1) (ci := 5) (v := .int x) (ty := .int) (C := RX4) (T := TX4) (N := 25) (ref := "FerrytaxModel") hx hb hT i_X4 tyX4 tyX4_ok nmX4 hown hE.1 hP (m_D hi9) hS 0 (by rw [iw_at (by decide), mF_0]) rfl 24 (by decide) (hT (.fieldLink RX4 73 "FerrytaxModel" "thrown" "I") (fx_w 710 (by decide +kernel) rfl)) (fun _ h9 => h9) rfl (by decide +kernel) rfl rfl (Nat.le_of_ble_eq_true rfl) hdg fun H1 locs1 hP1 _ hS1 => ?_
  rw [mF_s0 (h1 := u2 h 0 3 x) (fun k hk => u2_ne h 3 x hk) (by rw [mF_0, u2_k]; simp [upd])] at hP1
  exact kk _ H1 locs1 rfl hP1 hS1
end FXM
end
section
/-! ===== the model's methods ===== -/
def pI (r : Int32) (G : St) : Option Value → St → Prop := fun v u => v = some (.int r) ∧ u = G
def pV (G : St) : Option Value → St → Prop := fun v u => v = none ∧ u = G
section FXM2
variable {p : Program} {l : Launch} {e : Env} {R : Room} {s : State} {m : MethodId} {args : Array Value} {below : List Frame} {meth : Method} {c : Code} {H : Heap} {locs : List Loc} {cells slots : Nat} {Q : State → Prop}
variable {Z : fx_Z} {am : Nat → Nat} {cc : ByteArray} {pc nL : Nat} {ls : Array Slot} {rest : List Value} {h : St}
variable {fr lo maxL n idx : Nat} {y : MethodName} {bytes : ByteArray} {ret : Option FieldType} {As st0 : List Value}
theorem m_calli {r : Int32} {G : St} (K : m_K p s m args c cc nL Z am) (hP : va_P Z.1 vwCl (iw 22 (mF am (Z.2.1 0) h)) H) (hS : va_S (fx_A 22 am s.heap.size) s.heap H locs)
    (hM : fx_C l Z y bytes maxL ret fr lo 0 0 22 am (mF am (Z.2.1 0)) h (.ref (am 0) :: As) (pI r G) (fun _ => False)) (hok : fx_ok RX4 idx RX4 y bytes maxL ret n) (hst0 : st0 = As.reverse ++ .ref (am 0) :: rest)
    (hroom : fr + 1 ≤ R.frames ∧ 8 + (maxL + 11) + lo ≤ R.locals) (hn : As.length = n) (hsize : ls.size = nL) (hrest : (rest.map fun v => v.category).sum ≤ 8) (hcap : cells + 0 ≤ R.cells ∧ slots + 0 ≤ R.slots) (hdg : decode cc pc = .ok (.invokevirtual idx, 3))
    (kk : ∀ (H1 : Heap) (locs1 : List Loc), va_P Z.1 vwCl (iw 22 (mF am (Z.2.1 0) G)) H1 → va_S (fx_A 22 am s.heap.size) s.heap H1 locs1 → W p l e R s m args below meth c H1 locs1 cells slots Q (F0 m (pc + 3) ls (.int r :: rest))) :
    W p l e R s m args below meth c H locs cells slots Q (F0 m pc ls st0) := by
  have hrecv := m_recv K hP
  obtain ⟨hx, hb, hml, hown, hT, hE, hSt, hinj⟩ := K
  refine fx_callV hx hb hml hown hT hE hSt (fun k hk => m_A hk) m_A2 hP hS hM hok hrecv hst0 hroom hn hsize hrest hcap hdg (fun _ _ _ _ _ hf => hf.elim) (fun v u H1 locs1 hp hP1 hS1 _ _ => ?_)
  obtain ⟨rfl, rfl⟩ := hp
  exact kk H1 locs1 hP1 hS1
theorem m_callv {G : St} (K : m_K p s m args c cc nL Z am) (hP : va_P Z.1 vwCl (iw 22 (mF am (Z.2.1 0) h)) H) (hS : va_S (fx_A 22 am s.heap.size) s.heap H locs)
    (hM : fx_C l Z y bytes maxL ret fr lo 0 0 22 am (mF am (Z.2.1 0)) h (.ref (am 0) :: As) (pV G) (fun _ => False)) (hok : fx_ok RX4 idx RX4 y bytes maxL ret n) (hst0 : st0 = As.reverse ++ .ref (am 0) :: rest)
    (hroom : fr + 1 ≤ R.frames ∧ 8 + (maxL + 11) + lo ≤ R.locals) (hn : As.length = n) (hsize : ls.size = nL) (hrest : (rest.map fun v => v.category).sum ≤ 8) (hcap : cells + 0 ≤ R.cells ∧ slots + 0 ≤ R.slots) (hdg : decode cc pc = .ok (.invokevirtual idx, 3))
    (kk : ∀ (H1 : Heap) (locs1 : List Loc), va_P Z.1 vwCl (iw 22 (mF am (Z.2.1 0) G)) H1 → va_S (fx_A 22 am s.heap.size) s.heap H1 locs1 → W p l e R s m args below meth c H1 locs1 cells slots Q (F0 m (pc + 3) ls rest)) :
    W p l e R s m args below meth c H locs cells slots Q (F0 m pc ls st0) := by
  have hrecv := m_recv K hP
  obtain ⟨hx, hb, hml, hown, hT, hE, hSt, hinj⟩ := K
  refine fx_callV hx hb hml hown hT hE hSt (fun k hk => m_A hk) m_A2 hP hS hM hok hrecv hst0 hroom hn hsize hrest hcap hdg (fun _ _ _ _ _ hf => hf.elim) (fun v u H1 locs1 hp hP1 hS1 _ _ => ?_)
  obtain ⟨rfl, rfl⟩ := hp
  exact kk H1 locs1 hP1 hS1
theorem m_callb {B : Prop} [Decidable B] {G : St} (K : m_K p s m args c cc nL Z am) (hP : va_P Z.1 vwCl (iw 22 (mF am (Z.2.1 0) h)) H) (hS : va_S (fx_A 22 am s.heap.size) s.heap H locs)
    (hM : fx_C l Z y bytes maxL ret fr lo 0 0 22 am (mF am (Z.2.1 0)) h (.ref (am 0) :: As) (pI (if B then 1 else 0) G) (fun _ => False)) (hok : fx_ok RX4 idx RX4 y bytes maxL ret n) (hst0 : st0 = As.reverse ++ .ref (am 0) :: rest)
    (hroom : fr + 1 ≤ R.frames ∧ 8 + (maxL + 11) + lo ≤ R.locals) (hn : As.length = n) (hsize : ls.size = nL) (hrest : (rest.map fun v => v.category).sum ≤ 8) (hcap : cells + 0 ≤ R.cells ∧ slots + 0 ≤ R.slots) (hdg : decode cc pc = .ok (.invokevirtual idx, 3))
    (kt : B → ∀ (H1 : Heap) (locs1 : List Loc), va_P Z.1 vwCl (iw 22 (mF am (Z.2.1 0) G)) H1 → va_S (fx_A 22 am s.heap.size) s.heap H1 locs1 → W p l e R s m args below meth c H1 locs1 cells slots Q (F0 m (pc + 3) ls (.int 1 :: rest)))
    (kf : ¬ B → ∀ (H1 : Heap) (locs1 : List Loc), va_P Z.1 vwCl (iw 22 (mF am (Z.2.1 0) G)) H1 → va_S (fx_A 22 am s.heap.size) s.heap H1 locs1 → W p l e R s m args below meth c H1 locs1 cells slots Q (F0 m (pc + 3) ls (.int 0 :: rest))) :
    W p l e R s m args below meth c H locs cells slots Q (F0 m pc ls st0) := by
  refine m_calli K hP hS hM hok hst0 hroom hn hsize hrest hcap hdg (fun H1 locs1 hP1 hS1 => ?_)
  by_cases hB : B
  · rw [if_pos hB]; exact kt hB H1 locs1 hP1 hS1
  · rw [if_neg hB]; exact kf hB H1 locs1 hP1 hS1
theorem m_callt {B : Prop} [Decidable B] {G : St} (K : m_K p s m args c cc nL Z am) (hP : va_P Z.1 vwCl (iw 22 (mF am (Z.2.1 0) h)) H) (hS : va_S (fx_A 22 am s.heap.size) s.heap H locs)
    (hM : fx_C l Z y bytes maxL ret fr lo 0 0 22 am (mF am (Z.2.1 0)) h (.ref (am 0) :: As) (pI (if B then 1 else 0) G) (fun _ => False)) (hok : fx_ok RX4 idx RX4 y bytes maxL ret n) (hst0 : st0 = As.reverse ++ .ref (am 0) :: rest)
    (hroom : fr + 1 ≤ R.frames ∧ 8 + (maxL + 11) + lo ≤ R.locals) (hn : As.length = n) (hsize : ls.size = nL) (hrest : (rest.map fun v => v.category).sum ≤ 8) (hcap : cells + 0 ≤ R.cells ∧ slots + 0 ≤ R.slots) (hdg : decode cc pc = .ok (.invokevirtual idx, 3)) (hB : B)
    (kt : ∀ (H1 : Heap) (locs1 : List Loc), va_P Z.1 vwCl (iw 22 (mF am (Z.2.1 0) G)) H1 → va_S (fx_A 22 am s.heap.size) s.heap H1 locs1 → W p l e R s m args below meth c H1 locs1 cells slots Q (F0 m (pc + 3) ls (.int 1 :: rest))) :
    W p l e R s m args below meth c H locs cells slots Q (F0 m pc ls st0) :=
  m_callb K hP hS hM hok hst0 hroom hn hsize hrest hcap hdg (fun _ => kt) (fun h => absurd hB h)
theorem m_callf {B : Prop} [Decidable B] {G : St} (K : m_K p s m args c cc nL Z am) (hP : va_P Z.1 vwCl (iw 22 (mF am (Z.2.1 0) h)) H) (hS : va_S (fx_A 22 am s.heap.size) s.heap H locs)
    (hM : fx_C l Z y bytes maxL ret fr lo 0 0 22 am (mF am (Z.2.1 0)) h (.ref (am 0) :: As) (pI (if B then 1 else 0) G) (fun _ => False)) (hok : fx_ok RX4 idx RX4 y bytes maxL ret n) (hst0 : st0 = As.reverse ++ .ref (am 0) :: rest)
    (hroom : fr + 1 ≤ R.frames ∧ 8 + (maxL + 11) + lo ≤ R.locals) (hn : As.length = n) (hsize : ls.size = nL) (hrest : (rest.map fun v => v.category).sum ≤ 8) (hcap : cells + 0 ≤ R.cells ∧ slots + 0 ≤ R.slots) (hdg : decode cc pc = .ok (.invokevirtual idx, 3)) (hB : ¬ B)
    (kt : ∀ (H1 : Heap) (locs1 : List Loc), va_P Z.1 vwCl (iw 22 (mF am (Z.2.1 0) G)) H1 → va_S (fx_A 22 am s.heap.size) s.heap H1 locs1 → W p l e R s m args below meth c H1 locs1 cells slots Q (F0 m (pc + 3) ls (.int 0 :: rest))) :
    W p l e R s m args below meth c H locs cells slots Q (F0 m pc ls st0) :=
  m_callb K hP hS hM hok hst0 hroom hn hsize hrest hcap hdg (fun h => absurd h hB) (fun _ => kt)
end FXM2

set_option maxHeartbeats 4000000 in
set_option maxRecDepth 100000 in
theorem c_X4_in (l : Launch) (Z : fx_Z) (am : Nat → Nat) (hinj : fx_inj 22 am) (h : St) (v : Int32) (a : Int32) (b : Int32) : fx_C l Z yX4_in cX4_in 4 (some .boolean) 0 0 0 0 22 am (mF am (Z.2.1 0)) h [.ref (am 0), .int v, .int a, .int b] (pI (if a ≤ v ∧ v ≤ b then 1 else 0) h) (fun _ => False) := by
  intro sz
  refine vx_ofW (cc := cX4_in) (maxL := 4) (ret := (some .boolean)) (by decide) rfl ?_
  intro p e s m args below meth c s₁ B hml hout hv
  obtain ⟨rfl, hsz, hP, hE, hSt⟩ := hv
  subst hsz
  have hx := B.exec
  have hb := B.bytes
  have hr := B.returns
  have hown : s.vm.findClass RX4 = some m.cls := findClass_of_methodNamed B.named
  have hlocks := B.notSynchronized
  have K : m_K p s m ([.ref (am 0), .int v, .int a, .int b] : List Value).toArray c cX4_in 4 Z am := ⟨hx, hb, hml, hown, fun w hw => atoms_spec (ws := fx_l yX4_in cX4_in 4 (some .boolean)) B.pre w (List.mem_cons_of_mem _ hw), hE, hSt, hinj⟩
  have hS : va_S (fx_A 22 am s.heap.size) s.heap s.heap [] := va_S.rf
  have hl := lv_entry ([.ref (am 0), .int v, .int a, .int b]) (n := 4) (Nat.le_of_ble_eq_true rfl)
  rw [lg_entry_eq]
  generalize (lg_sl ([.ref (am 0), .int v, .int a, .int b]) ++ List.replicate (4 - (lg_sl ([.ref (am 0), .int v, .int a, .int b])).length) Slot.unset).toArray = ls at hl ⊢
  have hl : lv_has ls 4 [(0, .ref (am 0)), (1, .int v), (2, .int a), (3, .int b)] := hl
  refine lv_iload_n hx hb dX4_in_0 rfl (lv_at hl 1 rfl) ?_
  refine lv_iload_n hx hb dX4_in_1 rfl (lv_at hl 2 rfl) ?_
  refine lv_icmp_lt (tgt := 14) hx hb dX4_in_2 (by decide) (fun c1 => ?_) (fun c1 => ?_)
  · refine lv_iconst (v := 0) hx hb dX4_in_14 (by decide) ?_
    exact fx_retz hx hb hr hlocks rfl hP hS (Nat.le_of_ble_eq_true rfl) (Nat.le_of_ble_eq_true rfl) dX4_in_15 ⟨by grind, rfl⟩
  · refine lv_iload_n hx hb dX4_in_5 rfl (lv_at hl 1 rfl) ?_
    refine lv_iload_n hx hb dX4_in_6 rfl (lv_at hl 3 rfl) ?_
    refine lv_icmp_gt (tgt := 14) hx hb dX4_in_7 (by decide) (fun c2 => ?_) (fun c2 => ?_)
    · refine lv_iconst (v := 0) hx hb dX4_in_14 (by decide) ?_
      exact fx_retz hx hb hr hlocks rfl hP hS (Nat.le_of_ble_eq_true rfl) (Nat.le_of_ble_eq_true rfl) dX4_in_15 ⟨by grind, rfl⟩
    · refine lv_iconst (v := 1) hx hb dX4_in_10 (by decide) ?_
      refine lv_goto (tgt := 15) hx hb dX4_in_11 (by decide) ?_
      exact fx_retz hx hb hr hlocks rfl hP hS (Nat.le_of_ble_eq_true rfl) (Nat.le_of_ble_eq_true rfl) dX4_in_15 ⟨by grind, rfl⟩

set_option maxHeartbeats 4000000 in
set_option maxRecDepth 100000 in
theorem c_X4_holds (l : Launch) (Z : fx_Z) (am : Nat → Nat) (hinj : fx_inj 22 am) (h : St) (v : Int32) : fx_C l Z yX4_holds cX4_holds 2 (some .boolean) 0 0 0 0 22 am (mF am (Z.2.1 0)) h [.ref (am 0), .int v] (pI (if 0 < v then 1 else 0) (u2 h 0 3 v)) (fun _ => False) := by
  intro sz
  refine vx_ofW (cc := cX4_holds) (maxL := 2) (ret := (some .boolean)) (by decide) rfl ?_
  intro p e s m args below meth c s₁ B hml hout hv
  obtain ⟨rfl, hsz, hP, hE, hSt⟩ := hv
  subst hsz
  have hx := B.exec
  have hb := B.bytes
  have hr := B.returns
  have hown : s.vm.findClass RX4 = some m.cls := findClass_of_methodNamed B.named
  have hlocks := B.notSynchronized
  have K : m_K p s m ([.ref (am 0), .int v] : List Value).toArray c cX4_holds 2 Z am := ⟨hx, hb, hml, hown, fun w hw => atoms_spec (ws := fx_l yX4_holds cX4_holds 2 (some .boolean)) B.pre w (List.mem_cons_of_mem _ hw), hE, hSt, hinj⟩
  have hS : va_S (fx_A 22 am s.heap.size) s.heap s.heap [] := va_S.rf
  have hl := lv_entry ([.ref (am 0), .int v]) (n := 2) (Nat.le_of_ble_eq_true rfl)
  rw [lg_entry_eq]
  generalize (lg_sl ([.ref (am 0), .int v]) ++ List.replicate (2 - (lg_sl ([.ref (am 0), .int v])).length) Slot.unset).toArray = ls at hl ⊢
  have hl : lv_has ls 2 [(0, .ref (am 0)), (1, .int v)] := hl
  refine lv_aload_n hx hb dX4_holds_0 rfl (lv_at hl 0 rfl) ?_
  refine lv_iload_n hx hb dX4_holds_1 rfl (lv_at hl 1 rfl) ?_
  refine mp_thrown K hP hS dX4_holds_2 (fun h1 H locs e1 hP hS => ?_)
  refine lv_iload_n hx hb dX4_holds_5 rfl (lv_at hl 1 rfl) ?_
  refine lv_if_le (tgt := 13) hx hb dX4_holds_6 (by decide) (fun c2 => ?_) (fun c2 => ?_)
  · refine lv_iconst (v := 0) hx hb dX4_holds_13 (by decide) ?_
    exact fx_retz hx hb hr hlocks rfl hP hS (Nat.le_of_ble_eq_true rfl) (Nat.le_of_ble_eq_true rfl) dX4_holds_14 ⟨by grind, e1⟩
  · refine lv_iconst (v := 1) hx hb dX4_holds_9 (by decide) ?_
    refine lv_goto (tgt := 14) hx hb dX4_holds_10 (by decide) ?_
    exact fx_retz hx hb hr hlocks rfl hP hS (Nat.le_of_ble_eq_true rfl) (Nat.le_of_ble_eq_true rfl) dX4_holds_14 ⟨by grind, e1⟩
end
section
/-! ===== the model's API methods ===== -/
def bad (x : Int32) (n : Nat) : Prop := ∀ j : Nat, j < n → x ≠ nI j
theorem ix_t {j n : Nat} {M : Int32} (hM : M = nI n) (h : j ≤ n) (hn : n < 2 ^ 31) : (0 : Int32) ≤ nI j ∧ nI j ≤ M := by
  rw [hM]
  exact ⟨nI_pos' (by omega), nI_le h hn⟩
theorem ix_f {x : Int32} {n : Nat} {M : Int32} (hM : M = nI n) (h : bad x (n + 1)) (hn : n < 2 ^ 31) : ¬ ((0 : Int32) ≤ x ∧ x ≤ M) := by
  rintro ⟨h1, h2⟩
  obtain ⟨j, hj, rfl⟩ := nI_of2 (x := x) (M := M) (n := n) (by rw [hM]; exact nI_toInt hn) (Int32.not_lt.mpr h1) h2
  exact h j (by omega) rfl
theorem ix3 {j : Nat} (h : j < 4) : (0 : Int32) ≤ nI j ∧ nI j ≤ 3 := ix_t (n := 3) rfl (by omega) (by decide)
theorem ix4 {j : Nat} (h : j < 5) : (0 : Int32) ≤ nI j ∧ nI j ≤ 4 := ix_t (n := 4) rfl (by omega) (by decide)
theorem ix9 {j : Nat} (h : j < 10) : (0 : Int32) ≤ nI j ∧ nI j ≤ 9 := ix_t (n := 9) rfl (by omega) (by decide)
theorem nix3 {x : Int32} (h : bad x 4) : ¬ ((0 : Int32) ≤ x ∧ x ≤ 3) := ix_f (n := 3) rfl h (by decide)
theorem nix4 {x : Int32} (h : bad x 5) : ¬ ((0 : Int32) ≤ x ∧ x ≤ 4) := ix_f (n := 4) rfl h (by decide)
theorem nix9 {x : Int32} (h : bad x 10) : ¬ ((0 : Int32) ≤ x ∧ x ≤ 9) := ix_f (n := 9) rfl h (by decide)
theorem nbad3 {a b k : Int32} (h1 : 0 ≤ a ∧ a ≤ 4) (h2 : 0 ≤ b ∧ b ≤ 9) (h3 : 0 ≤ k ∧ k ≤ 3) : ¬ (bad a 5 ∨ bad b 10 ∨ bad k 4) := by
  rintro (h | h | h)
  · exact nix4 h h1
  · exact nix9 h h2
  · exact nix3 h h3
theorem isR_t {x : Int32} {rc i : Nat} (h : x = nI rc) (h6 : rc ≤ 60) (hi : i < rc) : (0 : Int32) ≤ nI i ∧ nI i ≤ x - 1 := by
  obtain ⟨k, rfl⟩ : ∃ k, rc = k + 1 := ⟨rc - 1, by omega⟩
  exact ix_t (n := k) (by rw [h]; exact nI_pred k) (by omega) (by omega)
theorem isR_f {x r : Int32} {rc : Nat} (h : x = nI rc) (h6 : rc ≤ 60) (hr : bad r rc) : ¬ ((0 : Int32) ≤ r ∧ r ≤ x - 1) := by
  rcases Nat.eq_zero_or_pos rc with h0 | h0
  · subst h0
    rw [h]
    rintro ⟨h1, h2⟩
    have h3 : (0 : Int32) ≤ nI 0 - 1 := Int32.le_trans h1 h2
    exact absurd h3 (by decide)
  · obtain ⟨k, rfl⟩ : ∃ k, rc = k + 1 := ⟨rc - 1, by omega⟩
    exact ix_f (n := k) (by rw [h]; exact nI_pred k) hr (by omega)
theorem rc_ne {rc : Nat} (h : rc < 60) : ¬ nI rc = 60 := fun q => by
  have := (nI_eq (a := rc) (b := 60) (by omega) (by decide)).mp q
  omega
theorem fc_ne {fc : Nat} (h : fc < 20) : ¬ nI fc = 20 := fun q => by
  have := (nI_eq (a := fc) (b := 20) (by omega) (by decide)).mp q
  omega
theorem ok_X4_80 : fx_ok RX4 80 RX4 yX4_in cX4_in 4 (some .boolean) 3 := ⟨fx_w 773 (by decide +kernel) rfl, fx_w 770 (by decide +kernel) rfl, fx_w 772 (by decide +kernel) rfl, fx_w 25 (by decide +kernel) rfl, fx_w 41 (by decide +kernel) rfl, by decide +kernel⟩
theorem ok_X4_87 : fx_ok RX4 87 RX4 yX4_holds cX4_holds 2 (some .boolean) 1 := ⟨fx_w 777 (by decide +kernel) rfl, fx_w 774 (by decide +kernel) rfl, fx_w 776 (by decide +kernel) rfl, fx_w 26 (by decide +kernel) rfl, fx_w 41 (by decide +kernel) rfl, by decide +kernel⟩
theorem ok_X4_94 : fx_ok RX4 94 RX4 yX4_isReceipt cX4_isReceipt 2 (some .boolean) 1 := ⟨fx_w 789 (by decide +kernel) rfl, fx_w 786 (by decide +kernel) rfl, fx_w 788 (by decide +kernel) rfl, fx_w 27 (by decide +kernel) rfl, fx_w 41 (by decide +kernel) rfl, by decide +kernel⟩
set_option maxHeartbeats 4000000 in
set_option maxRecDepth 100000 in
theorem c_X4_thrown (l : Launch) (Z : fx_Z) (am : Nat → Nat) (hinj : fx_inj 22 am) (h : St) : fx_C l Z yX4_thrown cX4_thrown 1 (some .int) 0 0 0 0 22 am (mF am (Z.2.1 0)) h [.ref (am 0)] (pI (h 0 3) h) (fun _ => False) := by
  intro sz
  refine vx_ofW (cc := cX4_thrown) (maxL := 1) (ret := (some .int)) (by decide) rfl ?_
  intro p e s m args below meth c s₁ B hml hout hv
  obtain ⟨rfl, hsz, hP, hE, hSt⟩ := hv
  subst hsz
  have hx := B.exec
  have hb := B.bytes
  have hr := B.returns
  have hown : s.vm.findClass RX4 = some m.cls := findClass_of_methodNamed B.named
  have hlocks := B.notSynchronized
  have K : m_K p s m ([.ref (am 0)] : List Value).toArray c cX4_thrown 1 Z am := ⟨hx, hb, hml, hown, fun w hw => atoms_spec (ws := fx_l yX4_thrown cX4_thrown 1 (some .int)) B.pre w (List.mem_cons_of_mem _ hw), hE, hSt, hinj⟩
  have hS : va_S (fx_A 22 am s.heap.size) s.heap s.heap [] := va_S.rf
  have hl := lv_entry ([.ref (am 0)]) (n := 1) (Nat.le_of_ble_eq_true rfl)
  rw [lg_entry_eq]
  generalize (lg_sl ([.ref (am 0)]) ++ List.replicate (1 - (lg_sl ([.ref (am 0)])).length) Slot.unset).toArray = ls at hl ⊢
  have hl : lv_has ls 1 [(0, .ref (am 0))] := hl
  refine lv_aload_n hx hb dX4_thrown_0 rfl (lv_at hl 0 rfl) ?_
  refine mg_thrown K hP dX4_thrown_1 ?_
  exact fx_reti hx hb hr hlocks hP hS (Nat.le_of_ble_eq_true rfl) (Nat.le_of_ble_eq_true rfl) dX4_thrown_4 ⟨rfl, rfl⟩

set_option maxHeartbeats 4000000 in
set_option maxRecDepth 100000 in
theorem c_X4_isReceipt (l : Launch) (Z : fx_Z) (am : Nat → Nat) (hinj : fx_inj 22 am) (h : St) (r : Int32) : fx_C l Z yX4_isReceipt cX4_isReceipt 2 (some .boolean) 1 23 0 0 22 am (mF am (Z.2.1 0)) h [.ref (am 0), .int r] (pI (if 0 ≤ r ∧ r ≤ h 0 0 - 1 then 1 else 0) h) (fun _ => False) := by
  intro sz
  refine vx_ofW (cc := cX4_isReceipt) (maxL := 2) (ret := (some .boolean)) (by decide) rfl ?_
  intro p e s m args below meth c s₁ B hml hout hv
  obtain ⟨rfl, hsz, hP, hE, hSt⟩ := hv
  subst hsz
  have hx := B.exec
  have hb := B.bytes
  have hr := B.returns
  have hown : s.vm.findClass RX4 = some m.cls := findClass_of_methodNamed B.named
  have hlocks := B.notSynchronized
  have K : m_K p s m ([.ref (am 0), .int r] : List Value).toArray c cX4_isReceipt 2 Z am := ⟨hx, hb, hml, hown, fun w hw => atoms_spec (ws := fx_l yX4_isReceipt cX4_isReceipt 2 (some .boolean)) B.pre w (List.mem_cons_of_mem _ hw), hE, hSt, hinj⟩
  have hS : va_S (fx_A 22 am s.heap.size) s.heap s.heap [] := va_S.rf
  have hl := lv_entry ([.ref (am 0), .int r]) (n := 2) (Nat.le_of_ble_eq_true rfl)
  rw [lg_entry_eq]
  generalize (lg_sl ([.ref (am 0), .int r]) ++ List.replicate (2 - (lg_sl ([.ref (am 0), .int r])).length) Slot.unset).toArray = ls at hl ⊢
  have hl : lv_has ls 2 [(0, .ref (am 0)), (1, .int r)] := hl
  refine lv_aload_n hx hb dX4_isReceipt_0 rfl (lv_at hl 0 rfl) ?_
  refine lv_iload_n hx hb dX4_isReceipt_1 rfl (lv_at hl 1 rfl) ?_
  refine lv_iconst (v := 0) hx hb dX4_isReceipt_2 (by decide) ?_
  refine lv_aload_n hx hb dX4_isReceipt_3 rfl (lv_at hl 0 rfl) ?_
  refine mg_receipts K hP dX4_isReceipt_4 ?_
  refine lv_iconst (v := 1) hx hb dX4_isReceipt_7 (by decide) ?_
  refine lv_isub hx hb dX4_isReceipt_8 ?_
  refine lv_topi (fun v1 e1 => ?_)
  refine m_callb (rest := []) K hP hS (c_X4_in l Z am hinj h r 0 v1) ok_X4_80 rfl ⟨Nat.le_of_ble_eq_true rfl, Nat.le_of_ble_eq_true rfl⟩ rfl hl.1 (Nat.le_of_ble_eq_true rfl) ⟨Nat.le_of_ble_eq_true rfl, Nat.le_of_ble_eq_true rfl⟩ dX4_isReceipt_9 (fun c2 H locs hP hS => ?_) (fun c2 H locs hP hS => ?_)
  · exact fx_retz hx hb hr hlocks rfl hP hS (Nat.le_of_ble_eq_true rfl) (Nat.le_of_ble_eq_true rfl) dX4_isReceipt_12 ⟨by subst e1; simp [c2], rfl⟩
  · exact fx_retz hx hb hr hlocks rfl hP hS (Nat.le_of_ble_eq_true rfl) (Nat.le_of_ble_eq_true rfl) dX4_isReceipt_12 ⟨by subst e1; simp [c2], rfl⟩

set_option maxHeartbeats 4000000 in
set_option maxRecDepth 100000 in
theorem c_X4_isFerry (l : Launch) (Z : fx_Z) (am : Nat → Nat) (hinj : fx_inj 22 am) (h : St) (f : Int32) : fx_C l Z yX4_isFerry cX4_isFerry 2 (some .boolean) 1 23 0 0 22 am (mF am (Z.2.1 0)) h [.ref (am 0), .int f] (pI (if 0 ≤ f ∧ f ≤ h 0 1 - 1 then 1 else 0) h) (fun _ => False) := by
  intro sz
  refine vx_ofW (cc := cX4_isFerry) (maxL := 2) (ret := (some .boolean)) (by decide) rfl ?_
  intro p e s m args below meth c s₁ B hml hout hv
  obtain ⟨rfl, hsz, hP, hE, hSt⟩ := hv
  subst hsz
  have hx := B.exec
  have hb := B.bytes
  have hr := B.returns
  have hown : s.vm.findClass RX4 = some m.cls := findClass_of_methodNamed B.named
  have hlocks := B.notSynchronized
  have K : m_K p s m ([.ref (am 0), .int f] : List Value).toArray c cX4_isFerry 2 Z am := ⟨hx, hb, hml, hown, fun w hw => atoms_spec (ws := fx_l yX4_isFerry cX4_isFerry 2 (some .boolean)) B.pre w (List.mem_cons_of_mem _ hw), hE, hSt, hinj⟩
  have hS : va_S (fx_A 22 am s.heap.size) s.heap s.heap [] := va_S.rf
  have hl := lv_entry ([.ref (am 0), .int f]) (n := 2) (Nat.le_of_ble_eq_true rfl)
  rw [lg_entry_eq]
  generalize (lg_sl ([.ref (am 0), .int f]) ++ List.replicate (2 - (lg_sl ([.ref (am 0), .int f])).length) Slot.unset).toArray = ls at hl ⊢
  have hl : lv_has ls 2 [(0, .ref (am 0)), (1, .int f)] := hl
  refine lv_aload_n hx hb dX4_isFerry_0 rfl (lv_at hl 0 rfl) ?_
  refine lv_iload_n hx hb dX4_isFerry_1 rfl (lv_at hl 1 rfl) ?_
  refine lv_iconst (v := 0) hx hb dX4_isFerry_2 (by decide) ?_
  refine lv_aload_n hx hb dX4_isFerry_3 rfl (lv_at hl 0 rfl) ?_
  refine mg_ferries K hP dX4_isFerry_4 ?_
  refine lv_iconst (v := 1) hx hb dX4_isFerry_7 (by decide) ?_
  refine lv_isub hx hb dX4_isFerry_8 ?_
  refine lv_topi (fun v1 e1 => ?_)
  refine m_callb (rest := []) K hP hS (c_X4_in l Z am hinj h f 0 v1) ok_X4_80 rfl ⟨Nat.le_of_ble_eq_true rfl, Nat.le_of_ble_eq_true rfl⟩ rfl hl.1 (Nat.le_of_ble_eq_true rfl) ⟨Nat.le_of_ble_eq_true rfl, Nat.le_of_ble_eq_true rfl⟩ dX4_isFerry_9 (fun c2 H locs hP hS => ?_) (fun c2 H locs hP hS => ?_)
  · exact fx_retz hx hb hr hlocks rfl hP hS (Nat.le_of_ble_eq_true rfl) (Nat.le_of_ble_eq_true rfl) dX4_isFerry_12 ⟨by subst e1; simp [c2], rfl⟩
  · exact fx_retz hx hb hr hlocks rfl hP hS (Nat.le_of_ble_eq_true rfl) (Nat.le_of_ble_eq_true rfl) dX4_isFerry_12 ⟨by subst e1; simp [c2], rfl⟩

set_option maxHeartbeats 4000000 in
set_option maxRecDepth 100000 in
theorem c_X4_hasSeat (l : Launch) (Z : fx_Z) (am : Nat → Nat) (hinj : fx_inj 22 am) (h : St) (t : Nat) (f : Nat) (hf : f < 20) : fx_C l Z yX4_hasSeat cX4_hasSeat 3 (some .boolean) 0 0 0 0 22 am (mF am (Z.2.1 0)) h [.ref (am 0), .int (nI t), .int (nI f)] (pI (if (h 13 f >>> (nI t &&& 31)) &&& 1 = 1 then 1 else 0) h) (fun _ => False) := by
  intro sz
  refine vx_ofW (cc := cX4_hasSeat) (maxL := 3) (ret := (some .boolean)) (by decide) rfl ?_
  intro p e s m args below meth c s₁ B hml hout hv
  obtain ⟨rfl, hsz, hP, hE, hSt⟩ := hv
  subst hsz
  have hx := B.exec
  have hb := B.bytes
  have hr := B.returns
  have hown : s.vm.findClass RX4 = some m.cls := findClass_of_methodNamed B.named
  have hlocks := B.notSynchronized
  have K : m_K p s m ([.ref (am 0), .int (nI t), .int (nI f)] : List Value).toArray c cX4_hasSeat 3 Z am := ⟨hx, hb, hml, hown, fun w hw => atoms_spec (ws := fx_l yX4_hasSeat cX4_hasSeat 3 (some .boolean)) B.pre w (List.mem_cons_of_mem _ hw), hE, hSt, hinj⟩
  have hS : va_S (fx_A 22 am s.heap.size) s.heap s.heap [] := va_S.rf
  have hl := lv_entry ([.ref (am 0), .int (nI t), .int (nI f)]) (n := 3) (Nat.le_of_ble_eq_true rfl)
  rw [lg_entry_eq]
  generalize (lg_sl ([.ref (am 0), .int (nI t), .int (nI f)]) ++ List.replicate (3 - (lg_sl ([.ref (am 0), .int (nI t), .int (nI f)])).length) Slot.unset).toArray = ls at hl ⊢
  have hl : lv_has ls 3 [(0, .ref (am 0)), (1, .int (nI t)), (2, .int (nI f))] := hl
  refine lv_aload_n hx hb dX4_hasSeat_0 rfl (lv_at hl 0 rfl) ?_
  refine mg_fw K hP dX4_hasSeat_1 ?_
  refine lv_iload_n hx hb dX4_hasSeat_4 rfl (lv_at hl 2 rfl) ?_
  refine mr_ald K hP (by decide) (by decide) (n := 20) rfl (by omega) (by decide) dX4_hasSeat_5 ?_
  refine lv_iload_n hx hb dX4_hasSeat_6 rfl (lv_at hl 1 rfl) ?_
  refine lv_ishr hx hb dX4_hasSeat_7 ?_
  refine lv_topi (fun v1 e1 => ?_)
  refine lv_iconst (v := 1) hx hb dX4_hasSeat_8 (by decide) ?_
  refine lv_iand hx hb dX4_hasSeat_9 ?_
  refine lv_topi (fun v2 e2 => ?_)
  refine lv_iconst (v := 1) hx hb dX4_hasSeat_10 (by decide) ?_
  refine lv_icmp_ne (tgt := 18) hx hb dX4_hasSeat_11 (by decide) (fun c3 => ?_) (fun c3 => ?_)
  · refine lv_iconst (v := 0) hx hb dX4_hasSeat_18 (by decide) ?_
    exact fx_retz hx hb hr hlocks rfl hP hS (Nat.le_of_ble_eq_true rfl) (Nat.le_of_ble_eq_true rfl) dX4_hasSeat_19 ⟨by subst e1; subst e2; simp [c3], rfl⟩
  · refine lv_iconst (v := 1) hx hb dX4_hasSeat_14 (by decide) ?_
    refine lv_goto (tgt := 19) hx hb dX4_hasSeat_15 (by decide) ?_
    exact fx_retz hx hb hr hlocks rfl hP hS (Nat.le_of_ble_eq_true rfl) (Nat.le_of_ble_eq_true rfl) dX4_hasSeat_19 ⟨by subst e1; subst e2; simp [c3], rfl⟩

set_option maxHeartbeats 4000000 in
set_option maxRecDepth 100000 in
theorem c_X4_rate_0 (l : Launch) (Z : fx_Z) (am : Nat → Nat) (hinj : fx_inj 22 am) (h : St) (k : Nat) (q : Int32) (hk : k < 4) (hp : 0 ≤ q ∧ q ≤ 50) : fx_C l Z yX4_rate cX4_rate 4 (some .int) 1 23 0 0 22 am (mF am (Z.2.1 0)) h [.ref (am 0), .int (nI k), .int q] (pI (h 1 k) (u2 (u2 h 0 3 0) 1 k q)) (fun _ => False) := by
  intro sz
  refine vx_ofW (cc := cX4_rate) (maxL := 4) (ret := (some .int)) (by decide) rfl ?_
  intro p e s m args below meth c s₁ B hml hout hv
  obtain ⟨rfl, hsz, hP, hE, hSt⟩ := hv
  subst hsz
  have hx := B.exec
  have hb := B.bytes
  have hr := B.returns
  have hown : s.vm.findClass RX4 = some m.cls := findClass_of_methodNamed B.named
  have hlocks := B.notSynchronized
  have K : m_K p s m ([.ref (am 0), .int (nI k), .int q] : List Value).toArray c cX4_rate 4 Z am := ⟨hx, hb, hml, hown, fun w hw => atoms_spec (ws := fx_l yX4_rate cX4_rate 4 (some .int)) B.pre w (List.mem_cons_of_mem _ hw), hE, hSt, hinj⟩
  have hS : va_S (fx_A 22 am s.heap.size) s.heap s.heap [] := va_S.rf
  have hl := lv_entry ([.ref (am 0), .int (nI k), .int q]) (n := 4) (Nat.le_of_ble_eq_true rfl)
  rw [lg_entry_eq]
  generalize (lg_sl ([.ref (am 0), .int (nI k), .int q]) ++ List.replicate (4 - (lg_sl ([.ref (am 0), .int (nI k), .int q])).length) Slot.unset).toArray = ls at hl ⊢
  have hl : lv_has ls 4 [(0, .ref (am 0)), (1, .int (nI k)), (2, .int q)] := hl
  refine lv_aload_n hx hb dX4_rate_0 rfl (lv_at hl 0 rfl) ?_
  refine lv_aload_n hx hb dX4_rate_1 rfl (lv_at hl 0 rfl) ?_
  refine lv_iload_n hx hb dX4_rate_2 rfl (lv_at hl 1 rfl) ?_
  refine lv_iconst (v := 0) hx hb dX4_rate_3 (by decide) ?_
  refine lv_iconst (v := 3) hx hb dX4_rate_4 (by decide) ?_
  refine m_callt (rest := [.ref (am 0)]) K hP hS (c_X4_in l Z am hinj h (nI k) 0 3) ok_X4_80 rfl ⟨Nat.le_of_ble_eq_true rfl, Nat.le_of_ble_eq_true rfl⟩ rfl hl.1 (Nat.le_of_ble_eq_true rfl) ⟨Nat.le_of_ble_eq_true rfl, Nat.le_of_ble_eq_true rfl⟩ dX4_rate_5 (ix3 hk) (fun H locs hP hS => ?_)
  refine lv_if_ne (tgt := 15) hx hb dX4_rate_8 (by decide) (fun _ => ?_) (fun c1 => absurd c1 (by decide))
  refine lv_aload_n hx hb dX4_rate_15 rfl (lv_at hl 0 rfl) ?_
  refine lv_iload_n hx hb dX4_rate_16 rfl (lv_at hl 2 rfl) ?_
  refine lv_iconst (v := 0) hx hb dX4_rate_17 (by decide) ?_
  refine lv_bipush (v := 50) hx hb dX4_rate_18 (by decide) ?_
  refine m_callt (rest := [.ref (am 0)]) K hP hS (c_X4_in l Z am hinj h q 0 50) ok_X4_80 rfl ⟨Nat.le_of_ble_eq_true rfl, Nat.le_of_ble_eq_true rfl⟩ rfl hl.1 (Nat.le_of_ble_eq_true rfl) ⟨Nat.le_of_ble_eq_true rfl, Nat.le_of_ble_eq_true rfl⟩ dX4_rate_20 hp (fun H locs hP hS => ?_)
  refine lv_if_eq (tgt := 30) hx hb dX4_rate_23 (by decide) (fun c2 => absurd c2 (by decide)) (fun _ => ?_)
  refine lv_iconst (v := 0) hx hb dX4_rate_26 (by decide) ?_
  refine lv_goto (tgt := 31) hx hb dX4_rate_27 (by decide) ?_
  refine m_callf (rest := []) K hP hS (c_X4_holds l Z am hinj h 0) ok_X4_87 rfl ⟨Nat.le_of_ble_eq_true rfl, Nat.le_of_ble_eq_true rfl⟩ rfl hl.1 (Nat.le_of_ble_eq_true rfl) ⟨Nat.le_of_ble_eq_true rfl, Nat.le_of_ble_eq_true rfl⟩ dX4_rate_31 (by decide) (fun H locs hP hS => ?_)
  obtain ⟨h3, e3⟩ : ∃ z : St, z = (u2 h 0 3 0) := ⟨_, rfl⟩
  rw [← e3] at hP
  refine lv_if_eq (tgt := 39) hx hb dX4_rate_34 (by decide) (fun _ => ?_) (fun c4 => absurd (by decide) c4)
  refine lv_aload_n hx hb dX4_rate_39 rfl (lv_at hl 0 rfl) ?_
  refine mg_rate K hP dX4_rate_40 ?_
  refine lv_iload_n hx hb dX4_rate_43 rfl (lv_at hl 1 rfl) ?_
  refine mr_ald K hP (by decide) (by decide) (n := 4) rfl (by omega) (by decide) dX4_rate_44 ?_
  rw [show h3 1 k = h 1 k from by simp [u2_at, e3]]
  refine lv_istore_n (lv' := [(3, .int (h 1 k)), (0, .ref (am 0)), (1, .int (nI k)), (2, .int q)]) hx hb dX4_rate_45 rfl hl (by decide) rfl (fun ls hl => ?_)
  refine lv_aload_n hx hb dX4_rate_46 rfl (lv_at hl 1 rfl) ?_
  refine mg_rate K hP dX4_rate_47 ?_
  refine lv_iload_n hx hb dX4_rate_50 rfl (lv_at hl 2 rfl) ?_
  refine lv_iload_n hx hb dX4_rate_51 rfl (lv_at hl 3 rfl) ?_
  refine mr_ast K hP hS (by decide) (by decide) (n := 4) rfl (by omega) (by decide) dX4_rate_52 (fun h5 H locs e5 hP hS => ?_)
  refine lv_iload_n hx hb dX4_rate_53 rfl (lv_at hl 0 rfl) ?_
  exact fx_reti hx hb hr hlocks hP hS (Nat.le_of_ble_eq_true rfl) (Nat.le_of_ble_eq_true rfl) dX4_rate_54 ⟨rfl, by simp only [e3, e5]⟩

set_option maxHeartbeats 4000000 in
set_option maxRecDepth 100000 in
theorem c_X4_rate_1 (l : Launch) (Z : fx_Z) (am : Nat → Nat) (hinj : fx_inj 22 am) (h : St) (k : Int32) (q : Int32) (hk : bad k 4) : fx_C l Z yX4_rate cX4_rate 4 (some .int) 1 23 0 0 22 am (mF am (Z.2.1 0)) h [.ref (am 0), .int k, .int q] (pI (-1) (u2 h 0 3 1)) (fun _ => False) := by
  intro sz
  refine vx_ofW (cc := cX4_rate) (maxL := 4) (ret := (some .int)) (by decide) rfl ?_
  intro p e s m args below meth c s₁ B hml hout hv
  obtain ⟨rfl, hsz, hP, hE, hSt⟩ := hv
  subst hsz
  have hx := B.exec
  have hb := B.bytes
  have hr := B.returns
  have hown : s.vm.findClass RX4 = some m.cls := findClass_of_methodNamed B.named
  have hlocks := B.notSynchronized
  have K : m_K p s m ([.ref (am 0), .int k, .int q] : List Value).toArray c cX4_rate 4 Z am := ⟨hx, hb, hml, hown, fun w hw => atoms_spec (ws := fx_l yX4_rate cX4_rate 4 (some .int)) B.pre w (List.mem_cons_of_mem _ hw), hE, hSt, hinj⟩
  have hS : va_S (fx_A 22 am s.heap.size) s.heap s.heap [] := va_S.rf
  have hl := lv_entry ([.ref (am 0), .int k, .int q]) (n := 4) (Nat.le_of_ble_eq_true rfl)
  rw [lg_entry_eq]
  generalize (lg_sl ([.ref (am 0), .int k, .int q]) ++ List.replicate (4 - (lg_sl ([.ref (am 0), .int k, .int q])).length) Slot.unset).toArray = ls at hl ⊢
  have hl : lv_has ls 4 [(0, .ref (am 0)), (1, .int k), (2, .int q)] := hl
  refine lv_aload_n hx hb dX4_rate_0 rfl (lv_at hl 0 rfl) ?_
  refine lv_aload_n hx hb dX4_rate_1 rfl (lv_at hl 0 rfl) ?_
  refine lv_iload_n hx hb dX4_rate_2 rfl (lv_at hl 1 rfl) ?_
  refine lv_iconst (v := 0) hx hb dX4_rate_3 (by decide) ?_
  refine lv_iconst (v := 3) hx hb dX4_rate_4 (by decide) ?_
  refine m_callf (rest := [.ref (am 0)]) K hP hS (c_X4_in l Z am hinj h k 0 3) ok_X4_80 rfl ⟨Nat.le_of_ble_eq_true rfl, Nat.le_of_ble_eq_true rfl⟩ rfl hl.1 (Nat.le_of_ble_eq_true rfl) ⟨Nat.le_of_ble_eq_true rfl, Nat.le_of_ble_eq_true rfl⟩ dX4_rate_5 (nix3 hk) (fun H locs hP hS => ?_)
  refine lv_if_ne (tgt := 15) hx hb dX4_rate_8 (by decide) (fun c1 => absurd (by decide) c1) (fun _ => ?_)
  refine lv_iconst (v := 1) hx hb dX4_rate_11 (by decide) ?_
  refine lv_goto (tgt := 31) hx hb dX4_rate_12 (by decide) ?_
  refine m_callt (rest := []) K hP hS (c_X4_holds l Z am hinj h 1) ok_X4_87 rfl ⟨Nat.le_of_ble_eq_true rfl, Nat.le_of_ble_eq_true rfl⟩ rfl hl.1 (Nat.le_of_ble_eq_true rfl) ⟨Nat.le_of_ble_eq_true rfl, Nat.le_of_ble_eq_true rfl⟩ dX4_rate_31 (by decide) (fun H locs hP hS => ?_)
  obtain ⟨h2, e2⟩ : ∃ z : St, z = (u2 h 0 3 1) := ⟨_, rfl⟩
  rw [← e2] at hP
  refine lv_if_eq (tgt := 39) hx hb dX4_rate_34 (by decide) (fun c3 => absurd c3 (by decide)) (fun _ => ?_)
  refine lv_iconst (v := (-1)) hx hb dX4_rate_37 (by decide) ?_
  exact fx_reti hx hb hr hlocks hP hS (Nat.le_of_ble_eq_true rfl) (Nat.le_of_ble_eq_true rfl) dX4_rate_38 ⟨rfl, e2⟩

set_option maxHeartbeats 4000000 in
set_option maxRecDepth 100000 in
theorem c_X4_rate_2 (l : Launch) (Z : fx_Z) (am : Nat → Nat) (hinj : fx_inj 22 am) (h : St) (k : Nat) (q : Int32) (hk : k < 4) (hp : ¬ (0 ≤ q ∧ q ≤ 50)) : fx_C l Z yX4_rate cX4_rate 4 (some .int) 1 23 0 0 22 am (mF am (Z.2.1 0)) h [.ref (am 0), .int (nI k), .int q] (pI (-1) (u2 h 0 3 2)) (fun _ => False) := by
  intro sz
  refine vx_ofW (cc := cX4_rate) (maxL := 4) (ret := (some .int)) (by decide) rfl ?_
  intro p e s m args below meth c s₁ B hml hout hv
  obtain ⟨rfl, hsz, hP, hE, hSt⟩ := hv
  subst hsz
  have hx := B.exec
  have hb := B.bytes
  have hr := B.returns
  have hown : s.vm.findClass RX4 = some m.cls := findClass_of_methodNamed B.named
  have hlocks := B.notSynchronized
  have K : m_K p s m ([.ref (am 0), .int (nI k), .int q] : List Value).toArray c cX4_rate 4 Z am := ⟨hx, hb, hml, hown, fun w hw => atoms_spec (ws := fx_l yX4_rate cX4_rate 4 (some .int)) B.pre w (List.mem_cons_of_mem _ hw), hE, hSt, hinj⟩
  have hS : va_S (fx_A 22 am s.heap.size) s.heap s.heap [] := va_S.rf
  have hl := lv_entry ([.ref (am 0), .int (nI k), .int q]) (n := 4) (Nat.le_of_ble_eq_true rfl)
  rw [lg_entry_eq]
  generalize (lg_sl ([.ref (am 0), .int (nI k), .int q]) ++ List.replicate (4 - (lg_sl ([.ref (am 0), .int (nI k), .int q])).length) Slot.unset).toArray = ls at hl ⊢
  have hl : lv_has ls 4 [(0, .ref (am 0)), (1, .int (nI k)), (2, .int q)] := hl
  refine lv_aload_n hx hb dX4_rate_0 rfl (lv_at hl 0 rfl) ?_
  refine lv_aload_n hx hb dX4_rate_1 rfl (lv_at hl 0 rfl) ?_
  refine lv_iload_n hx hb dX4_rate_2 rfl (lv_at hl 1 rfl) ?_
  refine lv_iconst (v := 0) hx hb dX4_rate_3 (by decide) ?_
  refine lv_iconst (v := 3) hx hb dX4_rate_4 (by decide) ?_
  refine m_callt (rest := [.ref (am 0)]) K hP hS (c_X4_in l Z am hinj h (nI k) 0 3) ok_X4_80 rfl ⟨Nat.le_of_ble_eq_true rfl, Nat.le_of_ble_eq_true rfl⟩ rfl hl.1 (Nat.le_of_ble_eq_true rfl) ⟨Nat.le_of_ble_eq_true rfl, Nat.le_of_ble_eq_true rfl⟩ dX4_rate_5 (ix3 hk) (fun H locs hP hS => ?_)
  refine lv_if_ne (tgt := 15) hx hb dX4_rate_8 (by decide) (fun _ => ?_) (fun c1 => absurd c1 (by decide))
  refine lv_aload_n hx hb dX4_rate_15 rfl (lv_at hl 0 rfl) ?_
  refine lv_iload_n hx hb dX4_rate_16 rfl (lv_at hl 2 rfl) ?_
  refine lv_iconst (v := 0) hx hb dX4_rate_17 (by decide) ?_
  refine lv_bipush (v := 50) hx hb dX4_rate_18 (by decide) ?_
  refine m_callf (rest := [.ref (am 0)]) K hP hS (c_X4_in l Z am hinj h q 0 50) ok_X4_80 rfl ⟨Nat.le_of_ble_eq_true rfl, Nat.le_of_ble_eq_true rfl⟩ rfl hl.1 (Nat.le_of_ble_eq_true rfl) ⟨Nat.le_of_ble_eq_true rfl, Nat.le_of_ble_eq_true rfl⟩ dX4_rate_20 hp (fun H locs hP hS => ?_)
  refine lv_if_eq (tgt := 30) hx hb dX4_rate_23 (by decide) (fun _ => ?_) (fun c2 => absurd (by decide) c2)
  refine lv_iconst (v := 2) hx hb dX4_rate_30 (by decide) ?_
  refine m_callt (rest := []) K hP hS (c_X4_holds l Z am hinj h 2) ok_X4_87 rfl ⟨Nat.le_of_ble_eq_true rfl, Nat.le_of_ble_eq_true rfl⟩ rfl hl.1 (Nat.le_of_ble_eq_true rfl) ⟨Nat.le_of_ble_eq_true rfl, Nat.le_of_ble_eq_true rfl⟩ dX4_rate_31 (by decide) (fun H locs hP hS => ?_)
  obtain ⟨h3, e3⟩ : ∃ z : St, z = (u2 h 0 3 2) := ⟨_, rfl⟩
  rw [← e3] at hP
  refine lv_if_eq (tgt := 39) hx hb dX4_rate_34 (by decide) (fun c4 => absurd c4 (by decide)) (fun _ => ?_)
  refine lv_iconst (v := (-1)) hx hb dX4_rate_37 (by decide) ?_
  exact fx_reti hx hb hr hlocks hP hS (Nat.le_of_ble_eq_true rfl) (Nat.le_of_ble_eq_true rfl) dX4_rate_38 ⟨rfl, e3⟩

set_option maxHeartbeats 4000000 in
set_option maxRecDepth 100000 in
theorem c_X4_buy_0 (l : Launch) (Z : fx_Z) (am : Nat → Nat) (hinj : fx_inj 22 am) (h : St) (rc : Nat) (a : Nat) (b : Nat) (k : Nat) (d : Int32) (ha : a < 5) (hb5 : b < 10) (hk : k < 4) (hp : 1 ≤ d ∧ d ≤ 10000) (hg : ¬ h 16 b = 1) (hrc : h 0 0 = nI rc) (hr6 : rc < 60) : fx_C l Z yX4_buy cX4_buy 7 (some .int) 1 23 0 0 22 am (mF am (Z.2.1 0)) h [.ref (am 0), .int (nI a), .int (nI b), .int (nI k), .int d] (pI (nI rc) (u2 (u2 (u2 (u2 (u2 (u2 (u2 (u2 h 0 3 0) 2 rc (nI a)) 3 rc (nI b)) 4 rc d) 5 rc ((d * (h 1 k)) / 100)) 6 rc (h 0 2)) 8 rc (-1)) 0 0 (nI (rc + 1)))) (fun _ => False) := by
  intro sz
  refine vx_ofW (cc := cX4_buy) (maxL := 7) (ret := (some .int)) (by decide) rfl ?_
  intro p e s m args below meth c s₁ B hml hout hv
  obtain ⟨rfl, hsz, hP, hE, hSt⟩ := hv
  subst hsz
  have hx := B.exec
  have hb := B.bytes
  have hr := B.returns
  have hown : s.vm.findClass RX4 = some m.cls := findClass_of_methodNamed B.named
  have hlocks := B.notSynchronized
  have K : m_K p s m ([.ref (am 0), .int (nI a), .int (nI b), .int (nI k), .int d] : List Value).toArray c cX4_buy 7 Z am := ⟨hx, hb, hml, hown, fun w hw => atoms_spec (ws := fx_l yX4_buy cX4_buy 7 (some .int)) B.pre w (List.mem_cons_of_mem _ hw), hE, hSt, hinj⟩
  have hS : va_S (fx_A 22 am s.heap.size) s.heap s.heap [] := va_S.rf
  have hl := lv_entry ([.ref (am 0), .int (nI a), .int (nI b), .int (nI k), .int d]) (n := 7) (Nat.le_of_ble_eq_true rfl)
  rw [lg_entry_eq]
  generalize (lg_sl ([.ref (am 0), .int (nI a), .int (nI b), .int (nI k), .int d]) ++ List.replicate (7 - (lg_sl ([.ref (am 0), .int (nI a), .int (nI b), .int (nI k), .int d])).length) Slot.unset).toArray = ls at hl ⊢
  have hl : lv_has ls 7 [(0, .ref (am 0)), (1, .int (nI a)), (2, .int (nI b)), (3, .int (nI k)), (4, .int d)] := hl
  refine lv_aload_n hx hb dX4_buy_0 rfl (lv_at hl 0 rfl) ?_
  refine lv_iload_n hx hb dX4_buy_1 rfl (lv_at hl 1 rfl) ?_
  refine lv_iconst (v := 0) hx hb dX4_buy_2 (by decide) ?_
  refine lv_iconst (v := 4) hx hb dX4_buy_3 (by decide) ?_
  refine m_callt (rest := []) K hP hS (c_X4_in l Z am hinj h (nI a) 0 4) ok_X4_80 rfl ⟨Nat.le_of_ble_eq_true rfl, Nat.le_of_ble_eq_true rfl⟩ rfl hl.1 (Nat.le_of_ble_eq_true rfl) ⟨Nat.le_of_ble_eq_true rfl, Nat.le_of_ble_eq_true rfl⟩ dX4_buy_4 (ix4 ha) (fun H locs hP hS => ?_)
  refine lv_if_eq (tgt := 35) hx hb dX4_buy_7 (by decide) (fun c1 => absurd c1 (by decide)) (fun _ => ?_)
  refine lv_aload_n hx hb dX4_buy_10 rfl (lv_at hl 0 rfl) ?_
  refine lv_iload_n hx hb dX4_buy_11 rfl (lv_at hl 2 rfl) ?_
  refine lv_iconst (v := 0) hx hb dX4_buy_12 (by decide) ?_
  refine lv_bipush (v := 9) hx hb dX4_buy_13 (by decide) ?_
  refine m_callt (rest := []) K hP hS (c_X4_in l Z am hinj h (nI b) 0 9) ok_X4_80 rfl ⟨Nat.le_of_ble_eq_true rfl, Nat.le_of_ble_eq_true rfl⟩ rfl hl.1 (Nat.le_of_ble_eq_true rfl) ⟨Nat.le_of_ble_eq_true rfl, Nat.le_of_ble_eq_true rfl⟩ dX4_buy_15 (ix9 hb5) (fun H locs hP hS => ?_)
  refine lv_if_eq (tgt := 35) hx hb dX4_buy_18 (by decide) (fun c2 => absurd c2 (by decide)) (fun _ => ?_)
  refine lv_aload_n hx hb dX4_buy_21 rfl (lv_at hl 0 rfl) ?_
  refine lv_iload_n hx hb dX4_buy_22 rfl (lv_at hl 3 rfl) ?_
  refine lv_iconst (v := 0) hx hb dX4_buy_23 (by decide) ?_
  refine lv_iconst (v := 3) hx hb dX4_buy_24 (by decide) ?_
  refine m_callt (rest := []) K hP hS (c_X4_in l Z am hinj h (nI k) 0 3) ok_X4_80 rfl ⟨Nat.le_of_ble_eq_true rfl, Nat.le_of_ble_eq_true rfl⟩ rfl hl.1 (Nat.le_of_ble_eq_true rfl) ⟨Nat.le_of_ble_eq_true rfl, Nat.le_of_ble_eq_true rfl⟩ dX4_buy_25 (ix3 hk) (fun H locs hP hS => ?_)
  refine lv_if_eq (tgt := 35) hx hb dX4_buy_28 (by decide) (fun c3 => absurd c3 (by decide)) (fun _ => ?_)
  refine lv_iconst (v := 1) hx hb dX4_buy_31 (by decide) ?_
  refine lv_goto (tgt := 36) hx hb dX4_buy_32 (by decide) ?_
  refine lv_istore (lv' := [(5, .int 1), (0, .ref (am 0)), (1, .int (nI a)), (2, .int (nI b)), (3, .int (nI k)), (4, .int d)]) hx hb dX4_buy_36 hl (by decide) rfl (fun ls hl => ?_)
  refine lv_aload_n hx hb dX4_buy_38 rfl (lv_at hl 1 rfl) ?_
  refine lv_iload hx hb dX4_buy_39 (lv_at hl 0 rfl) ?_
  refine lv_if_ne (tgt := 48) hx hb dX4_buy_41 (by decide) (fun _ => ?_) (fun c4 => absurd c4 (by decide))
  refine lv_aload_n hx hb dX4_buy_48 rfl (lv_at hl 1 rfl) ?_
  refine lv_iload hx hb dX4_buy_49 (lv_at hl 5 rfl) ?_
  refine lv_iconst (v := 1) hx hb dX4_buy_51 (by decide) ?_
  refine lv_sipush (v := 10000) hx hb dX4_buy_52 (by decide) ?_
  refine m_callt (rest := [.ref (am 0)]) K hP hS (c_X4_in l Z am hinj h d 1 10000) ok_X4_80 rfl ⟨Nat.le_of_ble_eq_true rfl, Nat.le_of_ble_eq_true rfl⟩ rfl hl.1 (Nat.le_of_ble_eq_true rfl) ⟨Nat.le_of_ble_eq_true rfl, Nat.le_of_ble_eq_true rfl⟩ dX4_buy_55 hp (fun H locs hP hS => ?_)
  refine lv_if_ne (tgt := 65) hx hb dX4_buy_58 (by decide) (fun _ => ?_) (fun c5 => absurd c5 (by decide))
  refine lv_aload_n hx hb dX4_buy_65 rfl (lv_at hl 1 rfl) ?_
  refine mg_gone K hP dX4_buy_66 ?_
  refine lv_iload_n hx hb dX4_buy_69 rfl (lv_at hl 3 rfl) ?_
  refine mr_ald K hP (by decide) (by decide) (n := 10) rfl (by omega) (by decide) dX4_buy_70 ?_
  refine lv_iconst (v := 1) hx hb dX4_buy_71 (by decide) ?_
  refine lv_icmp_eq (tgt := 84) hx hb dX4_buy_72 (by decide) (fun c6 => absurd c6 hg) (fun _ => ?_)
  refine lv_aload_n hx hb dX4_buy_75 rfl (lv_at hl 1 rfl) ?_
  refine mg_receipts K hP dX4_buy_76 ?_
  rw [hrc]
  refine lv_bipush (v := 60) hx hb dX4_buy_79 (by decide) ?_
  refine lv_icmp_ne (tgt := 88) hx hb dX4_buy_81 (by decide) (fun _ => ?_) (fun c7 => absurd c7 (rc_ne hr6))
  refine lv_iconst (v := 0) hx hb dX4_buy_88 (by decide) ?_
  refine m_callf (rest := []) K hP hS (c_X4_holds l Z am hinj h 0) ok_X4_87 rfl ⟨Nat.le_of_ble_eq_true rfl, Nat.le_of_ble_eq_true rfl⟩ rfl hl.1 (Nat.le_of_ble_eq_true rfl) ⟨Nat.le_of_ble_eq_true rfl, Nat.le_of_ble_eq_true rfl⟩ dX4_buy_89 (by decide) (fun H locs hP hS => ?_)
  obtain ⟨h8, e8⟩ : ∃ z : St, z = (u2 h 0 3 0) := ⟨_, rfl⟩
  rw [← e8] at hP
  refine lv_if_eq (tgt := 97) hx hb dX4_buy_92 (by decide) (fun _ => ?_) (fun c9 => absurd (by decide) c9)
  refine lv_aload_n hx hb dX4_buy_97 rfl (lv_at hl 1 rfl) ?_
  refine mg_receipts K hP dX4_buy_98 ?_
  rw [show h8 0 0 = h 0 0 from by simp [u2_at, e8]]
  rw [hrc]
  refine lv_istore (lv' := [(6, .int (nI rc)), (5, .int 1), (0, .ref (am 0)), (1, .int (nI a)), (2, .int (nI b)), (3, .int (nI k)), (4, .int d)]) hx hb dX4_buy_101 hl (by decide) rfl (fun ls hl => ?_)
  refine lv_aload_n hx hb dX4_buy_103 rfl (lv_at hl 2 rfl) ?_
  refine mg_rs K hP dX4_buy_104 ?_
  refine lv_iload hx hb dX4_buy_107 (lv_at hl 0 rfl) ?_
  refine lv_iload_n hx hb dX4_buy_109 rfl (lv_at hl 3 rfl) ?_
  refine mr_ast K hP hS (by decide) (by decide) (n := 60) rfl (by omega) (by decide) dX4_buy_110 (fun h10 H locs e10 hP hS => ?_)
  refine lv_aload_n hx hb dX4_buy_111 rfl (lv_at hl 2 rfl) ?_
  refine mg_rt K hP dX4_buy_112 ?_
  refine lv_iload hx hb dX4_buy_115 (lv_at hl 0 rfl) ?_
  refine lv_iload_n hx hb dX4_buy_117 rfl (lv_at hl 4 rfl) ?_
  refine mr_ast K hP hS (by decide) (by decide) (n := 60) rfl (by omega) (by decide) dX4_buy_118 (fun h11 H locs e11 hP hS => ?_)
  refine lv_aload_n hx hb dX4_buy_119 rfl (lv_at hl 2 rfl) ?_
  refine mg_rp K hP dX4_buy_120 ?_
  refine lv_iload hx hb dX4_buy_123 (lv_at hl 0 rfl) ?_
  refine lv_iload hx hb dX4_buy_125 (lv_at hl 6 rfl) ?_
  refine mr_ast K hP hS (by decide) (by decide) (n := 60) rfl (by omega) (by decide) dX4_buy_127 (fun h12 H locs e12 hP hS => ?_)
  refine lv_aload_n hx hb dX4_buy_128 rfl (lv_at hl 2 rfl) ?_
  refine mg_rx K hP dX4_buy_129 ?_
  refine lv_iload hx hb dX4_buy_132 (lv_at hl 0 rfl) ?_
  refine lv_iload hx hb dX4_buy_134 (lv_at hl 6 rfl) ?_
  refine lv_aload_n hx hb dX4_buy_136 rfl (lv_at hl 2 rfl) ?_
  refine mg_rate K hP dX4_buy_137 ?_
  refine lv_iload_n hx hb dX4_buy_140 rfl (lv_at hl 5 rfl) ?_
  refine mr_ald K hP (by decide) (by decide) (n := 4) rfl (by omega) (by decide) dX4_buy_141 ?_
  rw [show h12 1 k = h 1 k from by simp [u2_at, e8, e10, e11, e12]]
  refine lv_imul hx hb dX4_buy_142 ?_
  refine lv_topi (fun v13 e13 => ?_)
  refine lv_bipush (v := 100) hx hb dX4_buy_143 (by decide) ?_
  refine lv_idiv hx hb dX4_buy_145 (by decide) ?_
  refine lv_topi (fun v14 e14 => ?_)
  refine mr_ast K hP hS (by decide) (by decide) (n := 60) rfl (by omega) (by decide) dX4_buy_146 (fun h15 H locs e15 hP hS => ?_)
  refine lv_aload_n hx hb dX4_buy_147 rfl (lv_at hl 2 rfl) ?_
  refine mg_rh K hP dX4_buy_148 ?_
  refine lv_iload hx hb dX4_buy_151 (lv_at hl 0 rfl) ?_
  refine lv_aload_n hx hb dX4_buy_153 rfl (lv_at hl 2 rfl) ?_
  refine mg_hour K hP dX4_buy_154 ?_
  rw [show h15 0 2 = h 0 2 from by simp [u2_at, e8, e10, e11, e12, e15]]
  refine mr_ast K hP hS (by decide) (by decide) (n := 60) rfl (by omega) (by decide) dX4_buy_157 (fun h16 H locs e16 hP hS => ?_)
  refine lv_aload_n hx hb dX4_buy_158 rfl (lv_at hl 2 rfl) ?_
  refine mg_rf K hP dX4_buy_159 ?_
  refine lv_iload hx hb dX4_buy_162 (lv_at hl 0 rfl) ?_
  refine lv_iconst (v := (-1)) hx hb dX4_buy_164 (by decide) ?_
  refine mr_ast K hP hS (by decide) (by decide) (n := 60) rfl (by omega) (by decide) dX4_buy_165 (fun h17 H locs e17 hP hS => ?_)
  refine lv_aload_n hx hb dX4_buy_166 rfl (lv_at hl 2 rfl) ?_
  refine lv_dup hx hb dX4_buy_167 rfl ?_
  refine mg_receipts K hP dX4_buy_168 ?_
  rw [show h17 0 0 = h 0 0 from by simp [u2_at, e8, e10, e11, e12, e15, e16, e17]]
  rw [hrc]
  refine lv_iconst (v := 1) hx hb dX4_buy_171 (by decide) ?_
  refine lv_iadd hx hb dX4_buy_172 ?_
  rw [show (nI rc) + 1 = nI (rc + 1) from nI_1 rc]
  refine mp_receipts K hP hS dX4_buy_173 (fun h18 H locs e18 hP hS => ?_)
  refine lv_iload hx hb dX4_buy_176 (lv_at hl 0 rfl) ?_
  exact fx_reti hx hb hr hlocks hP hS (Nat.le_of_ble_eq_true rfl) (Nat.le_of_ble_eq_true rfl) dX4_buy_178 ⟨rfl, by simp only [e8, e10, e11, e12, e13, e14, e15, e16, e17, e18]⟩

set_option maxHeartbeats 4000000 in
set_option maxRecDepth 100000 in
theorem c_X4_buy_1 (l : Launch) (Z : fx_Z) (am : Nat → Nat) (hinj : fx_inj 22 am) (h : St) (a : Int32) (b : Int32) (k : Int32) (d : Int32) (hbad : bad a 5 ∨ bad b 10 ∨ bad k 4) : fx_C l Z yX4_buy cX4_buy 7 (some .int) 1 23 0 0 22 am (mF am (Z.2.1 0)) h [.ref (am 0), .int a, .int b, .int k, .int d] (pI (-1) (u2 h 0 3 1)) (fun _ => False) := by
  intro sz
  refine vx_ofW (cc := cX4_buy) (maxL := 7) (ret := (some .int)) (by decide) rfl ?_
  intro p e s m args below meth c s₁ B hml hout hv
  obtain ⟨rfl, hsz, hP, hE, hSt⟩ := hv
  subst hsz
  have hx := B.exec
  have hb := B.bytes
  have hr := B.returns
  have hown : s.vm.findClass RX4 = some m.cls := findClass_of_methodNamed B.named
  have hlocks := B.notSynchronized
  have K : m_K p s m ([.ref (am 0), .int a, .int b, .int k, .int d] : List Value).toArray c cX4_buy 7 Z am := ⟨hx, hb, hml, hown, fun w hw => atoms_spec (ws := fx_l yX4_buy cX4_buy 7 (some .int)) B.pre w (List.mem_cons_of_mem _ hw), hE, hSt, hinj⟩
  have hS : va_S (fx_A 22 am s.heap.size) s.heap s.heap [] := va_S.rf
  have hl := lv_entry ([.ref (am 0), .int a, .int b, .int k, .int d]) (n := 7) (Nat.le_of_ble_eq_true rfl)
  rw [lg_entry_eq]
  generalize (lg_sl ([.ref (am 0), .int a, .int b, .int k, .int d]) ++ List.replicate (7 - (lg_sl ([.ref (am 0), .int a, .int b, .int k, .int d])).length) Slot.unset).toArray = ls at hl ⊢
  have hl : lv_has ls 7 [(0, .ref (am 0)), (1, .int a), (2, .int b), (3, .int k), (4, .int d)] := hl
  refine lv_aload_n hx hb dX4_buy_0 rfl (lv_at hl 0 rfl) ?_
  refine lv_iload_n hx hb dX4_buy_1 rfl (lv_at hl 1 rfl) ?_
  refine lv_iconst (v := 0) hx hb dX4_buy_2 (by decide) ?_
  refine lv_iconst (v := 4) hx hb dX4_buy_3 (by decide) ?_
  refine m_callb (rest := []) K hP hS (c_X4_in l Z am hinj h a 0 4) ok_X4_80 rfl ⟨Nat.le_of_ble_eq_true rfl, Nat.le_of_ble_eq_true rfl⟩ rfl hl.1 (Nat.le_of_ble_eq_true rfl) ⟨Nat.le_of_ble_eq_true rfl, Nat.le_of_ble_eq_true rfl⟩ dX4_buy_4 (fun c1 H locs hP hS => ?_) (fun c1 H locs hP hS => ?_)
  · refine lv_if_eq (tgt := 35) hx hb dX4_buy_7 (by decide) (fun c2 => absurd c2 (by decide)) (fun _ => ?_)
    refine lv_aload_n hx hb dX4_buy_10 rfl (lv_at hl 0 rfl) ?_
    refine lv_iload_n hx hb dX4_buy_11 rfl (lv_at hl 2 rfl) ?_
    refine lv_iconst (v := 0) hx hb dX4_buy_12 (by decide) ?_
    refine lv_bipush (v := 9) hx hb dX4_buy_13 (by decide) ?_
    refine m_callb (rest := []) K hP hS (c_X4_in l Z am hinj h b 0 9) ok_X4_80 rfl ⟨Nat.le_of_ble_eq_true rfl, Nat.le_of_ble_eq_true rfl⟩ rfl hl.1 (Nat.le_of_ble_eq_true rfl) ⟨Nat.le_of_ble_eq_true rfl, Nat.le_of_ble_eq_true rfl⟩ dX4_buy_15 (fun c3 H locs hP hS => ?_) (fun c3 H locs hP hS => ?_)
    · refine lv_if_eq (tgt := 35) hx hb dX4_buy_18 (by decide) (fun c4 => absurd c4 (by decide)) (fun _ => ?_)
      refine lv_aload_n hx hb dX4_buy_21 rfl (lv_at hl 0 rfl) ?_
      refine lv_iload_n hx hb dX4_buy_22 rfl (lv_at hl 3 rfl) ?_
      refine lv_iconst (v := 0) hx hb dX4_buy_23 (by decide) ?_
      refine lv_iconst (v := 3) hx hb dX4_buy_24 (by decide) ?_
      refine m_callb (rest := []) K hP hS (c_X4_in l Z am hinj h k 0 3) ok_X4_80 rfl ⟨Nat.le_of_ble_eq_true rfl, Nat.le_of_ble_eq_true rfl⟩ rfl hl.1 (Nat.le_of_ble_eq_true rfl) ⟨Nat.le_of_ble_eq_true rfl, Nat.le_of_ble_eq_true rfl⟩ dX4_buy_25 (fun c5 H locs hP hS => ?_) (fun c5 H locs hP hS => ?_)
      · exact absurd hbad (nbad3 c1 c3 c5)
      · refine lv_if_eq (tgt := 35) hx hb dX4_buy_28 (by decide) (fun _ => ?_) (fun c6 => absurd (by decide) c6)
        refine lv_iconst (v := 0) hx hb dX4_buy_35 (by decide) ?_
        refine lv_istore (lv' := [(5, .int 0), (0, .ref (am 0)), (1, .int a), (2, .int b), (3, .int k), (4, .int d)]) hx hb dX4_buy_36 hl (by decide) rfl (fun ls hl => ?_)
        refine lv_aload_n hx hb dX4_buy_38 rfl (lv_at hl 1 rfl) ?_
        refine lv_iload hx hb dX4_buy_39 (lv_at hl 0 rfl) ?_
        refine lv_if_ne (tgt := 48) hx hb dX4_buy_41 (by decide) (fun c7 => absurd (by decide) c7) (fun _ => ?_)
        refine lv_iconst (v := 1) hx hb dX4_buy_44 (by decide) ?_
        refine lv_goto (tgt := 89) hx hb dX4_buy_45 (by decide) ?_
        refine m_callt (rest := []) K hP hS (c_X4_holds l Z am hinj h 1) ok_X4_87 rfl ⟨Nat.le_of_ble_eq_true rfl, Nat.le_of_ble_eq_true rfl⟩ rfl hl.1 (Nat.le_of_ble_eq_true rfl) ⟨Nat.le_of_ble_eq_true rfl, Nat.le_of_ble_eq_true rfl⟩ dX4_buy_89 (by decide) (fun H locs hP hS => ?_)
        obtain ⟨h8, e8⟩ : ∃ z : St, z = (u2 h 0 3 1) := ⟨_, rfl⟩
        rw [← e8] at hP
        refine lv_if_eq (tgt := 97) hx hb dX4_buy_92 (by decide) (fun c9 => absurd c9 (by decide)) (fun _ => ?_)
        refine lv_iconst (v := (-1)) hx hb dX4_buy_95 (by decide) ?_
        exact fx_reti hx hb hr hlocks hP hS (Nat.le_of_ble_eq_true rfl) (Nat.le_of_ble_eq_true rfl) dX4_buy_96 ⟨rfl, e8⟩
    · refine lv_if_eq (tgt := 35) hx hb dX4_buy_18 (by decide) (fun _ => ?_) (fun c10 => absurd (by decide) c10)
      refine lv_iconst (v := 0) hx hb dX4_buy_35 (by decide) ?_
      refine lv_istore (lv' := [(5, .int 0), (0, .ref (am 0)), (1, .int a), (2, .int b), (3, .int k), (4, .int d)]) hx hb dX4_buy_36 hl (by decide) rfl (fun ls hl => ?_)
      refine lv_aload_n hx hb dX4_buy_38 rfl (lv_at hl 1 rfl) ?_
      refine lv_iload hx hb dX4_buy_39 (lv_at hl 0 rfl) ?_
      refine lv_if_ne (tgt := 48) hx hb dX4_buy_41 (by decide) (fun c11 => absurd (by decide) c11) (fun _ => ?_)
      refine lv_iconst (v := 1) hx hb dX4_buy_44 (by decide) ?_
      refine lv_goto (tgt := 89) hx hb dX4_buy_45 (by decide) ?_
      refine m_callt (rest := []) K hP hS (c_X4_holds l Z am hinj h 1) ok_X4_87 rfl ⟨Nat.le_of_ble_eq_true rfl, Nat.le_of_ble_eq_true rfl⟩ rfl hl.1 (Nat.le_of_ble_eq_true rfl) ⟨Nat.le_of_ble_eq_true rfl, Nat.le_of_ble_eq_true rfl⟩ dX4_buy_89 (by decide) (fun H locs hP hS => ?_)
      obtain ⟨h12, e12⟩ : ∃ z : St, z = (u2 h 0 3 1) := ⟨_, rfl⟩
      rw [← e12] at hP
      refine lv_if_eq (tgt := 97) hx hb dX4_buy_92 (by decide) (fun c13 => absurd c13 (by decide)) (fun _ => ?_)
      refine lv_iconst (v := (-1)) hx hb dX4_buy_95 (by decide) ?_
      exact fx_reti hx hb hr hlocks hP hS (Nat.le_of_ble_eq_true rfl) (Nat.le_of_ble_eq_true rfl) dX4_buy_96 ⟨rfl, e12⟩
  · refine lv_if_eq (tgt := 35) hx hb dX4_buy_7 (by decide) (fun _ => ?_) (fun c14 => absurd (by decide) c14)
    refine lv_iconst (v := 0) hx hb dX4_buy_35 (by decide) ?_
    refine lv_istore (lv' := [(5, .int 0), (0, .ref (am 0)), (1, .int a), (2, .int b), (3, .int k), (4, .int d)]) hx hb dX4_buy_36 hl (by decide) rfl (fun ls hl => ?_)
    refine lv_aload_n hx hb dX4_buy_38 rfl (lv_at hl 1 rfl) ?_
    refine lv_iload hx hb dX4_buy_39 (lv_at hl 0 rfl) ?_
    refine lv_if_ne (tgt := 48) hx hb dX4_buy_41 (by decide) (fun c15 => absurd (by decide) c15) (fun _ => ?_)
    refine lv_iconst (v := 1) hx hb dX4_buy_44 (by decide) ?_
    refine lv_goto (tgt := 89) hx hb dX4_buy_45 (by decide) ?_
    refine m_callt (rest := []) K hP hS (c_X4_holds l Z am hinj h 1) ok_X4_87 rfl ⟨Nat.le_of_ble_eq_true rfl, Nat.le_of_ble_eq_true rfl⟩ rfl hl.1 (Nat.le_of_ble_eq_true rfl) ⟨Nat.le_of_ble_eq_true rfl, Nat.le_of_ble_eq_true rfl⟩ dX4_buy_89 (by decide) (fun H locs hP hS => ?_)
    obtain ⟨h16, e16⟩ : ∃ z : St, z = (u2 h 0 3 1) := ⟨_, rfl⟩
    rw [← e16] at hP
    refine lv_if_eq (tgt := 97) hx hb dX4_buy_92 (by decide) (fun c17 => absurd c17 (by decide)) (fun _ => ?_)
    refine lv_iconst (v := (-1)) hx hb dX4_buy_95 (by decide) ?_
    exact fx_reti hx hb hr hlocks hP hS (Nat.le_of_ble_eq_true rfl) (Nat.le_of_ble_eq_true rfl) dX4_buy_96 ⟨rfl, e16⟩

set_option maxHeartbeats 4000000 in
set_option maxRecDepth 100000 in
theorem c_X4_buy_2 (l : Launch) (Z : fx_Z) (am : Nat → Nat) (hinj : fx_inj 22 am) (h : St) (a : Nat) (b : Nat) (k : Nat) (d : Int32) (ha : a < 5) (hb5 : b < 10) (hk : k < 4) (hp : ¬ (1 ≤ d ∧ d ≤ 10000)) : fx_C l Z yX4_buy cX4_buy 7 (some .int) 1 23 0 0 22 am (mF am (Z.2.1 0)) h [.ref (am 0), .int (nI a), .int (nI b), .int (nI k), .int d] (pI (-1) (u2 h 0 3 2)) (fun _ => False) := by
  intro sz
  refine vx_ofW (cc := cX4_buy) (maxL := 7) (ret := (some .int)) (by decide) rfl ?_
  intro p e s m args below meth c s₁ B hml hout hv
  obtain ⟨rfl, hsz, hP, hE, hSt⟩ := hv
  subst hsz
  have hx := B.exec
  have hb := B.bytes
  have hr := B.returns
  have hown : s.vm.findClass RX4 = some m.cls := findClass_of_methodNamed B.named
  have hlocks := B.notSynchronized
  have K : m_K p s m ([.ref (am 0), .int (nI a), .int (nI b), .int (nI k), .int d] : List Value).toArray c cX4_buy 7 Z am := ⟨hx, hb, hml, hown, fun w hw => atoms_spec (ws := fx_l yX4_buy cX4_buy 7 (some .int)) B.pre w (List.mem_cons_of_mem _ hw), hE, hSt, hinj⟩
  have hS : va_S (fx_A 22 am s.heap.size) s.heap s.heap [] := va_S.rf
  have hl := lv_entry ([.ref (am 0), .int (nI a), .int (nI b), .int (nI k), .int d]) (n := 7) (Nat.le_of_ble_eq_true rfl)
  rw [lg_entry_eq]
  generalize (lg_sl ([.ref (am 0), .int (nI a), .int (nI b), .int (nI k), .int d]) ++ List.replicate (7 - (lg_sl ([.ref (am 0), .int (nI a), .int (nI b), .int (nI k), .int d])).length) Slot.unset).toArray = ls at hl ⊢
  have hl : lv_has ls 7 [(0, .ref (am 0)), (1, .int (nI a)), (2, .int (nI b)), (3, .int (nI k)), (4, .int d)] := hl
  refine lv_aload_n hx hb dX4_buy_0 rfl (lv_at hl 0 rfl) ?_
  refine lv_iload_n hx hb dX4_buy_1 rfl (lv_at hl 1 rfl) ?_
  refine lv_iconst (v := 0) hx hb dX4_buy_2 (by decide) ?_
  refine lv_iconst (v := 4) hx hb dX4_buy_3 (by decide) ?_
  refine m_callt (rest := []) K hP hS (c_X4_in l Z am hinj h (nI a) 0 4) ok_X4_80 rfl ⟨Nat.le_of_ble_eq_true rfl, Nat.le_of_ble_eq_true rfl⟩ rfl hl.1 (Nat.le_of_ble_eq_true rfl) ⟨Nat.le_of_ble_eq_true rfl, Nat.le_of_ble_eq_true rfl⟩ dX4_buy_4 (ix4 ha) (fun H locs hP hS => ?_)
  refine lv_if_eq (tgt := 35) hx hb dX4_buy_7 (by decide) (fun c1 => absurd c1 (by decide)) (fun _ => ?_)
  refine lv_aload_n hx hb dX4_buy_10 rfl (lv_at hl 0 rfl) ?_
  refine lv_iload_n hx hb dX4_buy_11 rfl (lv_at hl 2 rfl) ?_
  refine lv_iconst (v := 0) hx hb dX4_buy_12 (by decide) ?_
  refine lv_bipush (v := 9) hx hb dX4_buy_13 (by decide) ?_
  refine m_callt (rest := []) K hP hS (c_X4_in l Z am hinj h (nI b) 0 9) ok_X4_80 rfl ⟨Nat.le_of_ble_eq_true rfl, Nat.le_of_ble_eq_true rfl⟩ rfl hl.1 (Nat.le_of_ble_eq_true rfl) ⟨Nat.le_of_ble_eq_true rfl, Nat.le_of_ble_eq_true rfl⟩ dX4_buy_15 (ix9 hb5) (fun H locs hP hS => ?_)
  refine lv_if_eq (tgt := 35) hx hb dX4_buy_18 (by decide) (fun c2 => absurd c2 (by decide)) (fun _ => ?_)
  refine lv_aload_n hx hb dX4_buy_21 rfl (lv_at hl 0 rfl) ?_
  refine lv_iload_n hx hb dX4_buy_22 rfl (lv_at hl 3 rfl) ?_
  refine lv_iconst (v := 0) hx hb dX4_buy_23 (by decide) ?_
  refine lv_iconst (v := 3) hx hb dX4_buy_24 (by decide) ?_
  refine m_callt (rest := []) K hP hS (c_X4_in l Z am hinj h (nI k) 0 3) ok_X4_80 rfl ⟨Nat.le_of_ble_eq_true rfl, Nat.le_of_ble_eq_true rfl⟩ rfl hl.1 (Nat.le_of_ble_eq_true rfl) ⟨Nat.le_of_ble_eq_true rfl, Nat.le_of_ble_eq_true rfl⟩ dX4_buy_25 (ix3 hk) (fun H locs hP hS => ?_)
  refine lv_if_eq (tgt := 35) hx hb dX4_buy_28 (by decide) (fun c3 => absurd c3 (by decide)) (fun _ => ?_)
  refine lv_iconst (v := 1) hx hb dX4_buy_31 (by decide) ?_
  refine lv_goto (tgt := 36) hx hb dX4_buy_32 (by decide) ?_
  refine lv_istore (lv' := [(5, .int 1), (0, .ref (am 0)), (1, .int (nI a)), (2, .int (nI b)), (3, .int (nI k)), (4, .int d)]) hx hb dX4_buy_36 hl (by decide) rfl (fun ls hl => ?_)
  refine lv_aload_n hx hb dX4_buy_38 rfl (lv_at hl 1 rfl) ?_
  refine lv_iload hx hb dX4_buy_39 (lv_at hl 0 rfl) ?_
  refine lv_if_ne (tgt := 48) hx hb dX4_buy_41 (by decide) (fun _ => ?_) (fun c4 => absurd c4 (by decide))
  refine lv_aload_n hx hb dX4_buy_48 rfl (lv_at hl 1 rfl) ?_
  refine lv_iload hx hb dX4_buy_49 (lv_at hl 5 rfl) ?_
  refine lv_iconst (v := 1) hx hb dX4_buy_51 (by decide) ?_
  refine lv_sipush (v := 10000) hx hb dX4_buy_52 (by decide) ?_
  refine m_callf (rest := [.ref (am 0)]) K hP hS (c_X4_in l Z am hinj h d 1 10000) ok_X4_80 rfl ⟨Nat.le_of_ble_eq_true rfl, Nat.le_of_ble_eq_true rfl⟩ rfl hl.1 (Nat.le_of_ble_eq_true rfl) ⟨Nat.le_of_ble_eq_true rfl, Nat.le_of_ble_eq_true rfl⟩ dX4_buy_55 hp (fun H locs hP hS => ?_)
  refine lv_if_ne (tgt := 65) hx hb dX4_buy_58 (by decide) (fun c5 => absurd (by decide) c5) (fun _ => ?_)
  refine lv_iconst (v := 2) hx hb dX4_buy_61 (by decide) ?_
  refine lv_goto (tgt := 89) hx hb dX4_buy_62 (by decide) ?_
  refine m_callt (rest := []) K hP hS (c_X4_holds l Z am hinj h 2) ok_X4_87 rfl ⟨Nat.le_of_ble_eq_true rfl, Nat.le_of_ble_eq_true rfl⟩ rfl hl.1 (Nat.le_of_ble_eq_true rfl) ⟨Nat.le_of_ble_eq_true rfl, Nat.le_of_ble_eq_true rfl⟩ dX4_buy_89 (by decide) (fun H locs hP hS => ?_)
  obtain ⟨h6, e6⟩ : ∃ z : St, z = (u2 h 0 3 2) := ⟨_, rfl⟩
  rw [← e6] at hP
  refine lv_if_eq (tgt := 97) hx hb dX4_buy_92 (by decide) (fun c7 => absurd c7 (by decide)) (fun _ => ?_)
  refine lv_iconst (v := (-1)) hx hb dX4_buy_95 (by decide) ?_
  exact fx_reti hx hb hr hlocks hP hS (Nat.le_of_ble_eq_true rfl) (Nat.le_of_ble_eq_true rfl) dX4_buy_96 ⟨rfl, e6⟩

set_option maxHeartbeats 4000000 in
set_option maxRecDepth 100000 in
theorem c_X4_buy_3 (l : Launch) (Z : fx_Z) (am : Nat → Nat) (hinj : fx_inj 22 am) (h : St) (a : Nat) (b : Nat) (k : Nat) (d : Int32) (ha : a < 5) (hb5 : b < 10) (hk : k < 4) (hp : 1 ≤ d ∧ d ≤ 10000) (hg : h 16 b = 1 ∨ h 0 0 = 60) : fx_C l Z yX4_buy cX4_buy 7 (some .int) 1 23 0 0 22 am (mF am (Z.2.1 0)) h [.ref (am 0), .int (nI a), .int (nI b), .int (nI k), .int d] (pI (-1) (u2 h 0 3 3)) (fun _ => False) := by
  intro sz
  refine vx_ofW (cc := cX4_buy) (maxL := 7) (ret := (some .int)) (by decide) rfl ?_
  intro p e s m args below meth c s₁ B hml hout hv
  obtain ⟨rfl, hsz, hP, hE, hSt⟩ := hv
  subst hsz
  have hx := B.exec
  have hb := B.bytes
  have hr := B.returns
  have hown : s.vm.findClass RX4 = some m.cls := findClass_of_methodNamed B.named
  have hlocks := B.notSynchronized
  have K : m_K p s m ([.ref (am 0), .int (nI a), .int (nI b), .int (nI k), .int d] : List Value).toArray c cX4_buy 7 Z am := ⟨hx, hb, hml, hown, fun w hw => atoms_spec (ws := fx_l yX4_buy cX4_buy 7 (some .int)) B.pre w (List.mem_cons_of_mem _ hw), hE, hSt, hinj⟩
  have hS : va_S (fx_A 22 am s.heap.size) s.heap s.heap [] := va_S.rf
  have hl := lv_entry ([.ref (am 0), .int (nI a), .int (nI b), .int (nI k), .int d]) (n := 7) (Nat.le_of_ble_eq_true rfl)
  rw [lg_entry_eq]
  generalize (lg_sl ([.ref (am 0), .int (nI a), .int (nI b), .int (nI k), .int d]) ++ List.replicate (7 - (lg_sl ([.ref (am 0), .int (nI a), .int (nI b), .int (nI k), .int d])).length) Slot.unset).toArray = ls at hl ⊢
  have hl : lv_has ls 7 [(0, .ref (am 0)), (1, .int (nI a)), (2, .int (nI b)), (3, .int (nI k)), (4, .int d)] := hl
  refine lv_aload_n hx hb dX4_buy_0 rfl (lv_at hl 0 rfl) ?_
  refine lv_iload_n hx hb dX4_buy_1 rfl (lv_at hl 1 rfl) ?_
  refine lv_iconst (v := 0) hx hb dX4_buy_2 (by decide) ?_
  refine lv_iconst (v := 4) hx hb dX4_buy_3 (by decide) ?_
  refine m_callt (rest := []) K hP hS (c_X4_in l Z am hinj h (nI a) 0 4) ok_X4_80 rfl ⟨Nat.le_of_ble_eq_true rfl, Nat.le_of_ble_eq_true rfl⟩ rfl hl.1 (Nat.le_of_ble_eq_true rfl) ⟨Nat.le_of_ble_eq_true rfl, Nat.le_of_ble_eq_true rfl⟩ dX4_buy_4 (ix4 ha) (fun H locs hP hS => ?_)
  refine lv_if_eq (tgt := 35) hx hb dX4_buy_7 (by decide) (fun c1 => absurd c1 (by decide)) (fun _ => ?_)
  refine lv_aload_n hx hb dX4_buy_10 rfl (lv_at hl 0 rfl) ?_
  refine lv_iload_n hx hb dX4_buy_11 rfl (lv_at hl 2 rfl) ?_
  refine lv_iconst (v := 0) hx hb dX4_buy_12 (by decide) ?_
  refine lv_bipush (v := 9) hx hb dX4_buy_13 (by decide) ?_
  refine m_callt (rest := []) K hP hS (c_X4_in l Z am hinj h (nI b) 0 9) ok_X4_80 rfl ⟨Nat.le_of_ble_eq_true rfl, Nat.le_of_ble_eq_true rfl⟩ rfl hl.1 (Nat.le_of_ble_eq_true rfl) ⟨Nat.le_of_ble_eq_true rfl, Nat.le_of_ble_eq_true rfl⟩ dX4_buy_15 (ix9 hb5) (fun H locs hP hS => ?_)
  refine lv_if_eq (tgt := 35) hx hb dX4_buy_18 (by decide) (fun c2 => absurd c2 (by decide)) (fun _ => ?_)
  refine lv_aload_n hx hb dX4_buy_21 rfl (lv_at hl 0 rfl) ?_
  refine lv_iload_n hx hb dX4_buy_22 rfl (lv_at hl 3 rfl) ?_
  refine lv_iconst (v := 0) hx hb dX4_buy_23 (by decide) ?_
  refine lv_iconst (v := 3) hx hb dX4_buy_24 (by decide) ?_
  refine m_callt (rest := []) K hP hS (c_X4_in l Z am hinj h (nI k) 0 3) ok_X4_80 rfl ⟨Nat.le_of_ble_eq_true rfl, Nat.le_of_ble_eq_true rfl⟩ rfl hl.1 (Nat.le_of_ble_eq_true rfl) ⟨Nat.le_of_ble_eq_true rfl, Nat.le_of_ble_eq_true rfl⟩ dX4_buy_25 (ix3 hk) (fun H locs hP hS => ?_)
  refine lv_if_eq (tgt := 35) hx hb dX4_buy_28 (by decide) (fun c3 => absurd c3 (by decide)) (fun _ => ?_)
  refine lv_iconst (v := 1) hx hb dX4_buy_31 (by decide) ?_
  refine lv_goto (tgt := 36) hx hb dX4_buy_32 (by decide) ?_
  refine lv_istore (lv' := [(5, .int 1), (0, .ref (am 0)), (1, .int (nI a)), (2, .int (nI b)), (3, .int (nI k)), (4, .int d)]) hx hb dX4_buy_36 hl (by decide) rfl (fun ls hl => ?_)
  refine lv_aload_n hx hb dX4_buy_38 rfl (lv_at hl 1 rfl) ?_
  refine lv_iload hx hb dX4_buy_39 (lv_at hl 0 rfl) ?_
  refine lv_if_ne (tgt := 48) hx hb dX4_buy_41 (by decide) (fun _ => ?_) (fun c4 => absurd c4 (by decide))
  refine lv_aload_n hx hb dX4_buy_48 rfl (lv_at hl 1 rfl) ?_
  refine lv_iload hx hb dX4_buy_49 (lv_at hl 5 rfl) ?_
  refine lv_iconst (v := 1) hx hb dX4_buy_51 (by decide) ?_
  refine lv_sipush (v := 10000) hx hb dX4_buy_52 (by decide) ?_
  refine m_callt (rest := [.ref (am 0)]) K hP hS (c_X4_in l Z am hinj h d 1 10000) ok_X4_80 rfl ⟨Nat.le_of_ble_eq_true rfl, Nat.le_of_ble_eq_true rfl⟩ rfl hl.1 (Nat.le_of_ble_eq_true rfl) ⟨Nat.le_of_ble_eq_true rfl, Nat.le_of_ble_eq_true rfl⟩ dX4_buy_55 hp (fun H locs hP hS => ?_)
  refine lv_if_ne (tgt := 65) hx hb dX4_buy_58 (by decide) (fun _ => ?_) (fun c5 => absurd c5 (by decide))
  refine lv_aload_n hx hb dX4_buy_65 rfl (lv_at hl 1 rfl) ?_
  refine mg_gone K hP dX4_buy_66 ?_
  refine lv_iload_n hx hb dX4_buy_69 rfl (lv_at hl 3 rfl) ?_
  refine mr_ald K hP (by decide) (by decide) (n := 10) rfl (by omega) (by decide) dX4_buy_70 ?_
  refine lv_iconst (v := 1) hx hb dX4_buy_71 (by decide) ?_
  refine lv_icmp_eq (tgt := 84) hx hb dX4_buy_72 (by decide) (fun c6 => ?_) (fun c6 => ?_)
  · refine lv_iconst (v := 3) hx hb dX4_buy_84 (by decide) ?_
    refine lv_goto (tgt := 89) hx hb dX4_buy_85 (by decide) ?_
    refine m_callt (rest := []) K hP hS (c_X4_holds l Z am hinj h 3) ok_X4_87 rfl ⟨Nat.le_of_ble_eq_true rfl, Nat.le_of_ble_eq_true rfl⟩ rfl hl.1 (Nat.le_of_ble_eq_true rfl) ⟨Nat.le_of_ble_eq_true rfl, Nat.le_of_ble_eq_true rfl⟩ dX4_buy_89 (by decide) (fun H locs hP hS => ?_)
    obtain ⟨h7, e7⟩ : ∃ z : St, z = (u2 h 0 3 3) := ⟨_, rfl⟩
    rw [← e7] at hP
    refine lv_if_eq (tgt := 97) hx hb dX4_buy_92 (by decide) (fun c8 => absurd c8 (by decide)) (fun _ => ?_)
    refine lv_iconst (v := (-1)) hx hb dX4_buy_95 (by decide) ?_
    exact fx_reti hx hb hr hlocks hP hS (Nat.le_of_ble_eq_true rfl) (Nat.le_of_ble_eq_true rfl) dX4_buy_96 ⟨rfl, e7⟩
  · refine lv_aload_n hx hb dX4_buy_75 rfl (lv_at hl 1 rfl) ?_
    refine mg_receipts K hP dX4_buy_76 ?_
    refine lv_bipush (v := 60) hx hb dX4_buy_79 (by decide) ?_
    refine lv_icmp_ne (tgt := 88) hx hb dX4_buy_81 (by decide) (fun c9 => ?_) (fun c9 => ?_)
    · exact absurd hg (not_or.mpr ⟨c6, c9⟩)
    · refine lv_iconst (v := 3) hx hb dX4_buy_84 (by decide) ?_
      refine lv_goto (tgt := 89) hx hb dX4_buy_85 (by decide) ?_
      refine m_callt (rest := []) K hP hS (c_X4_holds l Z am hinj h 3) ok_X4_87 rfl ⟨Nat.le_of_ble_eq_true rfl, Nat.le_of_ble_eq_true rfl⟩ rfl hl.1 (Nat.le_of_ble_eq_true rfl) ⟨Nat.le_of_ble_eq_true rfl, Nat.le_of_ble_eq_true rfl⟩ dX4_buy_89 (by decide) (fun H locs hP hS => ?_)
      obtain ⟨h10, e10⟩ : ∃ z : St, z = (u2 h 0 3 3) := ⟨_, rfl⟩
      rw [← e10] at hP
      refine lv_if_eq (tgt := 97) hx hb dX4_buy_92 (by decide) (fun c11 => absurd c11 (by decide)) (fun _ => ?_)
      refine lv_iconst (v := (-1)) hx hb dX4_buy_95 (by decide) ?_
      exact fx_reti hx hb hr hlocks hP hS (Nat.le_of_ble_eq_true rfl) (Nat.le_of_ble_eq_true rfl) dX4_buy_96 ⟨rfl, e10⟩

set_option maxHeartbeats 4000000 in
set_option maxRecDepth 100000 in
theorem c_X4_giveBack_0 (l : Launch) (Z : fx_Z) (am : Nat → Nat) (hinj : fx_inj 22 am) (h : St) (rc : Nat) (t : Nat) (i : Nat) (hi : i < rc) (hrc : h 0 0 = nI rc) (hr6 : rc ≤ 60) (ht : h 3 i = nI t) (ht9 : t < 10) (h7 : h 7 i = 0) (hh : ¬ 240 < h 0 2 - h 6 i) (hg : ¬ h 16 t = 1) : fx_C l Z yX4_giveBack cX4_giveBack 3 (some .int) 2 44 0 0 22 am (mF am (Z.2.1 0)) h [.ref (am 0), .int (nI i)] (pI ((h 4 i) + (h 5 i)) (u2 (u2 h 0 3 0) 7 i 4)) (fun _ => False) := by
  intro sz
  refine vx_ofW (cc := cX4_giveBack) (maxL := 3) (ret := (some .int)) (by decide) rfl ?_
  intro p e s m args below meth c s₁ B hml hout hv
  obtain ⟨rfl, hsz, hP, hE, hSt⟩ := hv
  subst hsz
  have hx := B.exec
  have hb := B.bytes
  have hr := B.returns
  have hown : s.vm.findClass RX4 = some m.cls := findClass_of_methodNamed B.named
  have hlocks := B.notSynchronized
  have K : m_K p s m ([.ref (am 0), .int (nI i)] : List Value).toArray c cX4_giveBack 3 Z am := ⟨hx, hb, hml, hown, fun w hw => atoms_spec (ws := fx_l yX4_giveBack cX4_giveBack 3 (some .int)) B.pre w (List.mem_cons_of_mem _ hw), hE, hSt, hinj⟩
  have hS : va_S (fx_A 22 am s.heap.size) s.heap s.heap [] := va_S.rf
  have hl := lv_entry ([.ref (am 0), .int (nI i)]) (n := 3) (Nat.le_of_ble_eq_true rfl)
  rw [lg_entry_eq]
  generalize (lg_sl ([.ref (am 0), .int (nI i)]) ++ List.replicate (3 - (lg_sl ([.ref (am 0), .int (nI i)])).length) Slot.unset).toArray = ls at hl ⊢
  have hl : lv_has ls 3 [(0, .ref (am 0)), (1, .int (nI i))] := hl
  refine lv_aload_n hx hb dX4_giveBack_0 rfl (lv_at hl 0 rfl) ?_
  refine lv_iload_n hx hb dX4_giveBack_1 rfl (lv_at hl 1 rfl) ?_
  refine m_callt (rest := []) K hP hS (c_X4_isReceipt l Z am hinj h (nI i)) ok_X4_94 rfl ⟨Nat.le_of_ble_eq_true rfl, Nat.le_of_ble_eq_true rfl⟩ rfl hl.1 (Nat.le_of_ble_eq_true rfl) ⟨Nat.le_of_ble_eq_true rfl, Nat.le_of_ble_eq_true rfl⟩ dX4_giveBack_2 (isR_t hrc hr6 hi) (fun H locs hP hS => ?_)
  refine lv_istore_n (lv' := [(2, .int 1), (0, .ref (am 0)), (1, .int (nI i))]) hx hb dX4_giveBack_5 rfl hl (by decide) rfl (fun ls hl => ?_)
  refine lv_aload_n hx hb dX4_giveBack_6 rfl (lv_at hl 1 rfl) ?_
  refine lv_iload_n hx hb dX4_giveBack_7 rfl (lv_at hl 0 rfl) ?_
  refine lv_if_ne (tgt := 15) hx hb dX4_giveBack_8 (by decide) (fun _ => ?_) (fun c1 => absurd c1 (by decide))
  refine lv_aload_n hx hb dX4_giveBack_15 rfl (lv_at hl 1 rfl) ?_
  refine mg_rk K hP dX4_giveBack_16 ?_
  refine lv_iload_n hx hb dX4_giveBack_19 rfl (lv_at hl 2 rfl) ?_
  refine mr_ald K hP (by decide) (by decide) (n := 60) rfl (by omega) (by decide) dX4_giveBack_20 ?_
  refine lv_if_ne (tgt := 56) hx hb dX4_giveBack_21 (by decide) (fun c2 => absurd h7 c2) (fun _ => ?_)
  refine lv_aload_n hx hb dX4_giveBack_24 rfl (lv_at hl 1 rfl) ?_
  refine mg_hour K hP dX4_giveBack_25 ?_
  refine lv_aload_n hx hb dX4_giveBack_28 rfl (lv_at hl 1 rfl) ?_
  refine mg_rh K hP dX4_giveBack_29 ?_
  refine lv_iload_n hx hb dX4_giveBack_32 rfl (lv_at hl 2 rfl) ?_
  refine mr_ald K hP (by decide) (by decide) (n := 60) rfl (by omega) (by decide) dX4_giveBack_33 ?_
  refine lv_isub hx hb dX4_giveBack_34 ?_
  refine lv_topi (fun v3 e3 => ?_)
  refine lv_sipush (v := 240) hx hb dX4_giveBack_35 (by decide) ?_
  refine lv_icmp_gt (tgt := 56) hx hb dX4_giveBack_38 (by decide) (fun c4 => absurd c4 (by rw [e3]; exact hh)) (fun _ => ?_)
  refine lv_aload_n hx hb dX4_giveBack_41 rfl (lv_at hl 1 rfl) ?_
  refine mg_gone K hP dX4_giveBack_42 ?_
  refine lv_aload_n hx hb dX4_giveBack_45 rfl (lv_at hl 1 rfl) ?_
  refine mg_rt K hP dX4_giveBack_46 ?_
  refine lv_iload_n hx hb dX4_giveBack_49 rfl (lv_at hl 2 rfl) ?_
  refine mr_ald K hP (by decide) (by decide) (n := 60) rfl (by omega) (by decide) dX4_giveBack_50 ?_
  rw [ht]
  refine mr_ald K hP (by decide) (by decide) (n := 10) rfl (by omega) (by decide) dX4_giveBack_51 ?_
  refine lv_iconst (v := 1) hx hb dX4_giveBack_52 (by decide) ?_
  refine lv_icmp_ne (tgt := 60) hx hb dX4_giveBack_53 (by decide) (fun _ => ?_) (fun c5 => absurd c5 hg)
  refine lv_iconst (v := 0) hx hb dX4_giveBack_60 (by decide) ?_
  refine m_callf (rest := []) K hP hS (c_X4_holds l Z am hinj h 0) ok_X4_87 rfl ⟨Nat.le_of_ble_eq_true rfl, Nat.le_of_ble_eq_true rfl⟩ rfl hl.1 (Nat.le_of_ble_eq_true rfl) ⟨Nat.le_of_ble_eq_true rfl, Nat.le_of_ble_eq_true rfl⟩ dX4_giveBack_61 (by decide) (fun H locs hP hS => ?_)
  obtain ⟨h6, e6⟩ : ∃ z : St, z = (u2 h 0 3 0) := ⟨_, rfl⟩
  rw [← e6] at hP
  refine lv_if_eq (tgt := 69) hx hb dX4_giveBack_64 (by decide) (fun _ => ?_) (fun c7 => absurd (by decide) c7)
  refine lv_aload_n hx hb dX4_giveBack_69 rfl (lv_at hl 1 rfl) ?_
  refine mg_rk K hP dX4_giveBack_70 ?_
  refine lv_iload_n hx hb dX4_giveBack_73 rfl (lv_at hl 2 rfl) ?_
  refine lv_iconst (v := 4) hx hb dX4_giveBack_74 (by decide) ?_
  refine mr_ast K hP hS (by decide) (by decide) (n := 60) rfl (by omega) (by decide) dX4_giveBack_75 (fun h8 H locs e8 hP hS => ?_)
  refine lv_aload_n hx hb dX4_giveBack_76 rfl (lv_at hl 1 rfl) ?_
  refine mg_rp K hP dX4_giveBack_77 ?_
  refine lv_iload_n hx hb dX4_giveBack_80 rfl (lv_at hl 2 rfl) ?_
  refine mr_ald K hP (by decide) (by decide) (n := 60) rfl (by omega) (by decide) dX4_giveBack_81 ?_
  rw [show h8 4 i = h 4 i from by simp [u2_at, e6, e8]]
  refine lv_aload_n hx hb dX4_giveBack_82 rfl (lv_at hl 1 rfl) ?_
  refine mg_rx K hP dX4_giveBack_83 ?_
  refine lv_iload_n hx hb dX4_giveBack_86 rfl (lv_at hl 2 rfl) ?_
  refine mr_ald K hP (by decide) (by decide) (n := 60) rfl (by omega) (by decide) dX4_giveBack_87 ?_
  rw [show h8 5 i = h 5 i from by simp [u2_at, e6, e8]]
  refine lv_iadd hx hb dX4_giveBack_88 ?_
  refine lv_topi (fun v9 e9 => ?_)
  exact fx_reti hx hb hr hlocks hP hS (Nat.le_of_ble_eq_true rfl) (Nat.le_of_ble_eq_true rfl) dX4_giveBack_89 ⟨by simp only [e3, e6, e8, e9], by simp only [e3, e6, e8, e9]⟩

set_option maxHeartbeats 4000000 in
set_option maxRecDepth 100000 in
theorem c_X4_giveBack_1 (l : Launch) (Z : fx_Z) (am : Nat → Nat) (hinj : fx_inj 22 am) (h : St) (rc : Nat) (r : Int32) (hrc : h 0 0 = nI rc) (hr6 : rc ≤ 60) (hbr : bad r rc) : fx_C l Z yX4_giveBack cX4_giveBack 3 (some .int) 2 44 0 0 22 am (mF am (Z.2.1 0)) h [.ref (am 0), .int r] (pI (-1) (u2 h 0 3 1)) (fun _ => False) := by
  intro sz
  refine vx_ofW (cc := cX4_giveBack) (maxL := 3) (ret := (some .int)) (by decide) rfl ?_
  intro p e s m args below meth c s₁ B hml hout hv
  obtain ⟨rfl, hsz, hP, hE, hSt⟩ := hv
  subst hsz
  have hx := B.exec
  have hb := B.bytes
  have hr := B.returns
  have hown : s.vm.findClass RX4 = some m.cls := findClass_of_methodNamed B.named
  have hlocks := B.notSynchronized
  have K : m_K p s m ([.ref (am 0), .int r] : List Value).toArray c cX4_giveBack 3 Z am := ⟨hx, hb, hml, hown, fun w hw => atoms_spec (ws := fx_l yX4_giveBack cX4_giveBack 3 (some .int)) B.pre w (List.mem_cons_of_mem _ hw), hE, hSt, hinj⟩
  have hS : va_S (fx_A 22 am s.heap.size) s.heap s.heap [] := va_S.rf
  have hl := lv_entry ([.ref (am 0), .int r]) (n := 3) (Nat.le_of_ble_eq_true rfl)
  rw [lg_entry_eq]
  generalize (lg_sl ([.ref (am 0), .int r]) ++ List.replicate (3 - (lg_sl ([.ref (am 0), .int r])).length) Slot.unset).toArray = ls at hl ⊢
  have hl : lv_has ls 3 [(0, .ref (am 0)), (1, .int r)] := hl
  refine lv_aload_n hx hb dX4_giveBack_0 rfl (lv_at hl 0 rfl) ?_
  refine lv_iload_n hx hb dX4_giveBack_1 rfl (lv_at hl 1 rfl) ?_
  refine m_callf (rest := []) K hP hS (c_X4_isReceipt l Z am hinj h r) ok_X4_94 rfl ⟨Nat.le_of_ble_eq_true rfl, Nat.le_of_ble_eq_true rfl⟩ rfl hl.1 (Nat.le_of_ble_eq_true rfl) ⟨Nat.le_of_ble_eq_true rfl, Nat.le_of_ble_eq_true rfl⟩ dX4_giveBack_2 (isR_f hrc hr6 hbr) (fun H locs hP hS => ?_)
  refine lv_istore_n (lv' := [(2, .int 0), (0, .ref (am 0)), (1, .int r)]) hx hb dX4_giveBack_5 rfl hl (by decide) rfl (fun ls hl => ?_)
  refine lv_aload_n hx hb dX4_giveBack_6 rfl (lv_at hl 1 rfl) ?_
  refine lv_iload_n hx hb dX4_giveBack_7 rfl (lv_at hl 0 rfl) ?_
  refine lv_if_ne (tgt := 15) hx hb dX4_giveBack_8 (by decide) (fun c1 => absurd (by decide) c1) (fun _ => ?_)
  refine lv_iconst (v := 1) hx hb dX4_giveBack_11 (by decide) ?_
  refine lv_goto (tgt := 61) hx hb dX4_giveBack_12 (by decide) ?_
  refine m_callt (rest := []) K hP hS (c_X4_holds l Z am hinj h 1) ok_X4_87 rfl ⟨Nat.le_of_ble_eq_true rfl, Nat.le_of_ble_eq_true rfl⟩ rfl hl.1 (Nat.le_of_ble_eq_true rfl) ⟨Nat.le_of_ble_eq_true rfl, Nat.le_of_ble_eq_true rfl⟩ dX4_giveBack_61 (by decide) (fun H locs hP hS => ?_)
  obtain ⟨h2, e2⟩ : ∃ z : St, z = (u2 h 0 3 1) := ⟨_, rfl⟩
  rw [← e2] at hP
  refine lv_if_eq (tgt := 69) hx hb dX4_giveBack_64 (by decide) (fun c3 => absurd c3 (by decide)) (fun _ => ?_)
  refine lv_iconst (v := (-1)) hx hb dX4_giveBack_67 (by decide) ?_
  exact fx_reti hx hb hr hlocks hP hS (Nat.le_of_ble_eq_true rfl) (Nat.le_of_ble_eq_true rfl) dX4_giveBack_68 ⟨rfl, e2⟩

set_option maxHeartbeats 4000000 in
set_option maxRecDepth 100000 in
theorem c_X4_giveBack_2 (l : Launch) (Z : fx_Z) (am : Nat → Nat) (hinj : fx_inj 22 am) (h : St) (rc : Nat) (t : Nat) (i : Nat) (hi : i < rc) (hrc : h 0 0 = nI rc) (hr6 : rc ≤ 60) (ht : h 3 i = nI t) (ht9 : t < 10) (hbad : h 7 i ≠ 0 ∨ 240 < h 0 2 - h 6 i ∨ h 16 t = 1) : fx_C l Z yX4_giveBack cX4_giveBack 3 (some .int) 2 44 0 0 22 am (mF am (Z.2.1 0)) h [.ref (am 0), .int (nI i)] (pI (-1) (u2 h 0 3 2)) (fun _ => False) := by
  intro sz
  refine vx_ofW (cc := cX4_giveBack) (maxL := 3) (ret := (some .int)) (by decide) rfl ?_
  intro p e s m args below meth c s₁ B hml hout hv
  obtain ⟨rfl, hsz, hP, hE, hSt⟩ := hv
  subst hsz
  have hx := B.exec
  have hb := B.bytes
  have hr := B.returns
  have hown : s.vm.findClass RX4 = some m.cls := findClass_of_methodNamed B.named
  have hlocks := B.notSynchronized
  have K : m_K p s m ([.ref (am 0), .int (nI i)] : List Value).toArray c cX4_giveBack 3 Z am := ⟨hx, hb, hml, hown, fun w hw => atoms_spec (ws := fx_l yX4_giveBack cX4_giveBack 3 (some .int)) B.pre w (List.mem_cons_of_mem _ hw), hE, hSt, hinj⟩
  have hS : va_S (fx_A 22 am s.heap.size) s.heap s.heap [] := va_S.rf
  have hl := lv_entry ([.ref (am 0), .int (nI i)]) (n := 3) (Nat.le_of_ble_eq_true rfl)
  rw [lg_entry_eq]
  generalize (lg_sl ([.ref (am 0), .int (nI i)]) ++ List.replicate (3 - (lg_sl ([.ref (am 0), .int (nI i)])).length) Slot.unset).toArray = ls at hl ⊢
  have hl : lv_has ls 3 [(0, .ref (am 0)), (1, .int (nI i))] := hl
  refine lv_aload_n hx hb dX4_giveBack_0 rfl (lv_at hl 0 rfl) ?_
  refine lv_iload_n hx hb dX4_giveBack_1 rfl (lv_at hl 1 rfl) ?_
  refine m_callt (rest := []) K hP hS (c_X4_isReceipt l Z am hinj h (nI i)) ok_X4_94 rfl ⟨Nat.le_of_ble_eq_true rfl, Nat.le_of_ble_eq_true rfl⟩ rfl hl.1 (Nat.le_of_ble_eq_true rfl) ⟨Nat.le_of_ble_eq_true rfl, Nat.le_of_ble_eq_true rfl⟩ dX4_giveBack_2 (isR_t hrc hr6 hi) (fun H locs hP hS => ?_)
  refine lv_istore_n (lv' := [(2, .int 1), (0, .ref (am 0)), (1, .int (nI i))]) hx hb dX4_giveBack_5 rfl hl (by decide) rfl (fun ls hl => ?_)
  refine lv_aload_n hx hb dX4_giveBack_6 rfl (lv_at hl 1 rfl) ?_
  refine lv_iload_n hx hb dX4_giveBack_7 rfl (lv_at hl 0 rfl) ?_
  refine lv_if_ne (tgt := 15) hx hb dX4_giveBack_8 (by decide) (fun _ => ?_) (fun c1 => absurd c1 (by decide))
  refine lv_aload_n hx hb dX4_giveBack_15 rfl (lv_at hl 1 rfl) ?_
  refine mg_rk K hP dX4_giveBack_16 ?_
  refine lv_iload_n hx hb dX4_giveBack_19 rfl (lv_at hl 2 rfl) ?_
  refine mr_ald K hP (by decide) (by decide) (n := 60) rfl (by omega) (by decide) dX4_giveBack_20 ?_
  refine lv_if_ne (tgt := 56) hx hb dX4_giveBack_21 (by decide) (fun c2 => ?_) (fun c2 => ?_)
  · refine lv_iconst (v := 2) hx hb dX4_giveBack_56 (by decide) ?_
    refine lv_goto (tgt := 61) hx hb dX4_giveBack_57 (by decide) ?_
    refine m_callt (rest := []) K hP hS (c_X4_holds l Z am hinj h 2) ok_X4_87 rfl ⟨Nat.le_of_ble_eq_true rfl, Nat.le_of_ble_eq_true rfl⟩ rfl hl.1 (Nat.le_of_ble_eq_true rfl) ⟨Nat.le_of_ble_eq_true rfl, Nat.le_of_ble_eq_true rfl⟩ dX4_giveBack_61 (by decide) (fun H locs hP hS => ?_)
    obtain ⟨h3, e3⟩ : ∃ z : St, z = (u2 h 0 3 2) := ⟨_, rfl⟩
    rw [← e3] at hP
    refine lv_if_eq (tgt := 69) hx hb dX4_giveBack_64 (by decide) (fun c4 => absurd c4 (by decide)) (fun _ => ?_)
    refine lv_iconst (v := (-1)) hx hb dX4_giveBack_67 (by decide) ?_
    exact fx_reti hx hb hr hlocks hP hS (Nat.le_of_ble_eq_true rfl) (Nat.le_of_ble_eq_true rfl) dX4_giveBack_68 ⟨rfl, e3⟩
  · refine lv_aload_n hx hb dX4_giveBack_24 rfl (lv_at hl 1 rfl) ?_
    refine mg_hour K hP dX4_giveBack_25 ?_
    refine lv_aload_n hx hb dX4_giveBack_28 rfl (lv_at hl 1 rfl) ?_
    refine mg_rh K hP dX4_giveBack_29 ?_
    refine lv_iload_n hx hb dX4_giveBack_32 rfl (lv_at hl 2 rfl) ?_
    refine mr_ald K hP (by decide) (by decide) (n := 60) rfl (by omega) (by decide) dX4_giveBack_33 ?_
    refine lv_isub hx hb dX4_giveBack_34 ?_
    refine lv_topi (fun v5 e5 => ?_)
    refine lv_sipush (v := 240) hx hb dX4_giveBack_35 (by decide) ?_
    refine lv_icmp_gt (tgt := 56) hx hb dX4_giveBack_38 (by decide) (fun c6 => ?_) (fun c6 => ?_)
    · refine lv_iconst (v := 2) hx hb dX4_giveBack_56 (by decide) ?_
      refine lv_goto (tgt := 61) hx hb dX4_giveBack_57 (by decide) ?_
      refine m_callt (rest := []) K hP hS (c_X4_holds l Z am hinj h 2) ok_X4_87 rfl ⟨Nat.le_of_ble_eq_true rfl, Nat.le_of_ble_eq_true rfl⟩ rfl hl.1 (Nat.le_of_ble_eq_true rfl) ⟨Nat.le_of_ble_eq_true rfl, Nat.le_of_ble_eq_true rfl⟩ dX4_giveBack_61 (by decide) (fun H locs hP hS => ?_)
      obtain ⟨h7, e7⟩ : ∃ z : St, z = (u2 h 0 3 2) := ⟨_, rfl⟩
      rw [← e7] at hP
      refine lv_if_eq (tgt := 69) hx hb dX4_giveBack_64 (by decide) (fun c8 => absurd c8 (by decide)) (fun _ => ?_)
      refine lv_iconst (v := (-1)) hx hb dX4_giveBack_67 (by decide) ?_
      exact fx_reti hx hb hr hlocks hP hS (Nat.le_of_ble_eq_true rfl) (Nat.le_of_ble_eq_true rfl) dX4_giveBack_68 ⟨rfl, e7⟩
    · refine lv_aload_n hx hb dX4_giveBack_41 rfl (lv_at hl 1 rfl) ?_
      refine mg_gone K hP dX4_giveBack_42 ?_
      refine lv_aload_n hx hb dX4_giveBack_45 rfl (lv_at hl 1 rfl) ?_
      refine mg_rt K hP dX4_giveBack_46 ?_
      refine lv_iload_n hx hb dX4_giveBack_49 rfl (lv_at hl 2 rfl) ?_
      refine mr_ald K hP (by decide) (by decide) (n := 60) rfl (by omega) (by decide) dX4_giveBack_50 ?_
      rw [ht]
      refine mr_ald K hP (by decide) (by decide) (n := 10) rfl (by omega) (by decide) dX4_giveBack_51 ?_
      refine lv_iconst (v := 1) hx hb dX4_giveBack_52 (by decide) ?_
      refine lv_icmp_ne (tgt := 60) hx hb dX4_giveBack_53 (by decide) (fun c9 => ?_) (fun c9 => ?_)
      · exact absurd hbad (by rw [e5] at *; simp_all)
      · refine lv_iconst (v := 2) hx hb dX4_giveBack_56 (by decide) ?_
        refine lv_goto (tgt := 61) hx hb dX4_giveBack_57 (by decide) ?_
        refine m_callt (rest := []) K hP hS (c_X4_holds l Z am hinj h 2) ok_X4_87 rfl ⟨Nat.le_of_ble_eq_true rfl, Nat.le_of_ble_eq_true rfl⟩ rfl hl.1 (Nat.le_of_ble_eq_true rfl) ⟨Nat.le_of_ble_eq_true rfl, Nat.le_of_ble_eq_true rfl⟩ dX4_giveBack_61 (by decide) (fun H locs hP hS => ?_)
        obtain ⟨h10, e10⟩ : ∃ z : St, z = (u2 h 0 3 2) := ⟨_, rfl⟩
        rw [← e10] at hP
        refine lv_if_eq (tgt := 69) hx hb dX4_giveBack_64 (by decide) (fun c11 => absurd c11 (by decide)) (fun _ => ?_)
        refine lv_iconst (v := (-1)) hx hb dX4_giveBack_67 (by decide) ?_
        exact fx_reti hx hb hr hlocks hP hS (Nat.le_of_ble_eq_true rfl) (Nat.le_of_ble_eq_true rfl) dX4_giveBack_68 ⟨rfl, e10⟩

set_option maxHeartbeats 4000000 in
set_option maxRecDepth 100000 in
theorem c_X4_ferry_0 (l : Launch) (Z : fx_Z) (am : Nat → Nat) (hinj : fx_inj 22 am) (h : St) (fc : Nat) (a : Int32) (b : Int32) (h1 : h 0 2 + 1 ≤ a ∧ a ≤ 10000) (h2 : 1 ≤ b ∧ b ≤ 10) (hfc : h 0 1 = nI fc) (hf2 : fc < 20) : fx_C l Z yX4_ferry cX4_ferry 4 (some .int) 1 23 0 0 22 am (mF am (Z.2.1 0)) h [.ref (am 0), .int a, .int b] (pI (nI fc) (u2 (u2 (u2 (u2 h 0 3 0) 11 fc a) 12 fc b) 0 1 (nI (fc + 1)))) (fun _ => False) := by
  intro sz
  refine vx_ofW (cc := cX4_ferry) (maxL := 4) (ret := (some .int)) (by decide) rfl ?_
  intro p e s m args below meth c s₁ B hml hout hv
  obtain ⟨rfl, hsz, hP, hE, hSt⟩ := hv
  subst hsz
  have hx := B.exec
  have hb := B.bytes
  have hr := B.returns
  have hown : s.vm.findClass RX4 = some m.cls := findClass_of_methodNamed B.named
  have hlocks := B.notSynchronized
  have K : m_K p s m ([.ref (am 0), .int a, .int b] : List Value).toArray c cX4_ferry 4 Z am := ⟨hx, hb, hml, hown, fun w hw => atoms_spec (ws := fx_l yX4_ferry cX4_ferry 4 (some .int)) B.pre w (List.mem_cons_of_mem _ hw), hE, hSt, hinj⟩
  have hS : va_S (fx_A 22 am s.heap.size) s.heap s.heap [] := va_S.rf
  have hl := lv_entry ([.ref (am 0), .int a, .int b]) (n := 4) (Nat.le_of_ble_eq_true rfl)
  rw [lg_entry_eq]
  generalize (lg_sl ([.ref (am 0), .int a, .int b]) ++ List.replicate (4 - (lg_sl ([.ref (am 0), .int a, .int b])).length) Slot.unset).toArray = ls at hl ⊢
  have hl : lv_has ls 4 [(0, .ref (am 0)), (1, .int a), (2, .int b)] := hl
  refine lv_aload_n hx hb dX4_ferry_0 rfl (lv_at hl 0 rfl) ?_
  refine lv_iload_n hx hb dX4_ferry_1 rfl (lv_at hl 1 rfl) ?_
  refine lv_aload_n hx hb dX4_ferry_2 rfl (lv_at hl 0 rfl) ?_
  refine mg_hour K hP dX4_ferry_3 ?_
  refine lv_iconst (v := 1) hx hb dX4_ferry_6 (by decide) ?_
  refine lv_iadd hx hb dX4_ferry_7 ?_
  refine lv_topi (fun v1 e1 => ?_)
  refine lv_sipush (v := 10000) hx hb dX4_ferry_8 (by decide) ?_
  refine m_callt (rest := []) K hP hS (c_X4_in l Z am hinj h a v1 10000) ok_X4_80 rfl ⟨Nat.le_of_ble_eq_true rfl, Nat.le_of_ble_eq_true rfl⟩ rfl hl.1 (Nat.le_of_ble_eq_true rfl) ⟨Nat.le_of_ble_eq_true rfl, Nat.le_of_ble_eq_true rfl⟩ dX4_ferry_11 (by rw [e1]; exact h1) (fun H locs hP hS => ?_)
  refine lv_if_eq (tgt := 32) hx hb dX4_ferry_14 (by decide) (fun c2 => absurd c2 (by decide)) (fun _ => ?_)
  refine lv_aload_n hx hb dX4_ferry_17 rfl (lv_at hl 0 rfl) ?_
  refine lv_iload_n hx hb dX4_ferry_18 rfl (lv_at hl 2 rfl) ?_
  refine lv_iconst (v := 1) hx hb dX4_ferry_19 (by decide) ?_
  refine lv_bipush (v := 10) hx hb dX4_ferry_20 (by decide) ?_
  refine m_callt (rest := []) K hP hS (c_X4_in l Z am hinj h b 1 10) ok_X4_80 rfl ⟨Nat.le_of_ble_eq_true rfl, Nat.le_of_ble_eq_true rfl⟩ rfl hl.1 (Nat.le_of_ble_eq_true rfl) ⟨Nat.le_of_ble_eq_true rfl, Nat.le_of_ble_eq_true rfl⟩ dX4_ferry_22 h2 (fun H locs hP hS => ?_)
  refine lv_if_eq (tgt := 32) hx hb dX4_ferry_25 (by decide) (fun c3 => absurd c3 (by decide)) (fun _ => ?_)
  refine lv_iconst (v := 1) hx hb dX4_ferry_28 (by decide) ?_
  refine lv_goto (tgt := 33) hx hb dX4_ferry_29 (by decide) ?_
  refine lv_istore_n (lv' := [(3, .int 1), (0, .ref (am 0)), (1, .int a), (2, .int b)]) hx hb dX4_ferry_33 rfl hl (by decide) rfl (fun ls hl => ?_)
  refine lv_aload_n hx hb dX4_ferry_34 rfl (lv_at hl 1 rfl) ?_
  refine lv_iload_n hx hb dX4_ferry_35 rfl (lv_at hl 0 rfl) ?_
  refine lv_if_ne (tgt := 43) hx hb dX4_ferry_36 (by decide) (fun _ => ?_) (fun c4 => absurd c4 (by decide))
  refine lv_aload_n hx hb dX4_ferry_43 rfl (lv_at hl 1 rfl) ?_
  refine mg_ferries K hP dX4_ferry_44 ?_
  rw [hfc]
  refine lv_bipush (v := 20) hx hb dX4_ferry_47 (by decide) ?_
  refine lv_icmp_ne (tgt := 56) hx hb dX4_ferry_49 (by decide) (fun _ => ?_) (fun c5 => absurd c5 (fc_ne hf2))
  refine lv_iconst (v := 0) hx hb dX4_ferry_56 (by decide) ?_
  refine m_callf (rest := []) K hP hS (c_X4_holds l Z am hinj h 0) ok_X4_87 rfl ⟨Nat.le_of_ble_eq_true rfl, Nat.le_of_ble_eq_true rfl⟩ rfl hl.1 (Nat.le_of_ble_eq_true rfl) ⟨Nat.le_of_ble_eq_true rfl, Nat.le_of_ble_eq_true rfl⟩ dX4_ferry_57 (by decide) (fun H locs hP hS => ?_)
  obtain ⟨h6, e6⟩ : ∃ z : St, z = (u2 h 0 3 0) := ⟨_, rfl⟩
  rw [← e6] at hP
  refine lv_if_eq (tgt := 65) hx hb dX4_ferry_60 (by decide) (fun _ => ?_) (fun c7 => absurd (by decide) c7)
  refine lv_aload_n hx hb dX4_ferry_65 rfl (lv_at hl 1 rfl) ?_
  refine mg_fh K hP dX4_ferry_66 ?_
  refine lv_aload_n hx hb dX4_ferry_69 rfl (lv_at hl 1 rfl) ?_
  refine mg_ferries K hP dX4_ferry_70 ?_
  rw [show h6 0 1 = h 0 1 from by simp [u2_at, e6]]
  rw [hfc]
  refine lv_iload_n hx hb dX4_ferry_73 rfl (lv_at hl 2 rfl) ?_
  refine mr_ast K hP hS (by decide) (by decide) (n := 20) rfl (by omega) (by decide) dX4_ferry_74 (fun h8 H locs e8 hP hS => ?_)
  refine lv_aload_n hx hb dX4_ferry_75 rfl (lv_at hl 1 rfl) ?_
  refine mg_fs K hP dX4_ferry_76 ?_
  refine lv_aload_n hx hb dX4_ferry_79 rfl (lv_at hl 1 rfl) ?_
  refine mg_ferries K hP dX4_ferry_80 ?_
  rw [show h8 0 1 = h 0 1 from by simp [u2_at, e6, e8]]
  rw [hfc]
  refine lv_iload_n hx hb dX4_ferry_83 rfl (lv_at hl 3 rfl) ?_
  refine mr_ast K hP hS (by decide) (by decide) (n := 20) rfl (by omega) (by decide) dX4_ferry_84 (fun h9 H locs e9 hP hS => ?_)
  refine lv_aload_n hx hb dX4_ferry_85 rfl (lv_at hl 1 rfl) ?_
  refine lv_dup hx hb dX4_ferry_86 rfl ?_
  refine mg_ferries K hP dX4_ferry_87 ?_
  rw [show h9 0 1 = h 0 1 from by simp [u2_at, e6, e8, e9]]
  rw [hfc]
  refine lv_iconst (v := 1) hx hb dX4_ferry_90 (by decide) ?_
  refine lv_iadd hx hb dX4_ferry_91 ?_
  rw [show (nI fc) + 1 = nI (fc + 1) from nI_1 fc]
  refine mp_ferries K hP hS dX4_ferry_92 (fun h10 H locs e10 hP hS => ?_)
  refine lv_aload_n hx hb dX4_ferry_95 rfl (lv_at hl 1 rfl) ?_
  refine mg_ferries K hP dX4_ferry_96 ?_
  rw [show h10 0 1 = nI (fc + 1) from by simp [u2_at, e6, e8, e9, e10]]
  refine lv_iconst (v := 1) hx hb dX4_ferry_99 (by decide) ?_
  refine lv_isub hx hb dX4_ferry_100 ?_
  rw [show (nI (fc + 1)) - 1 = nI fc from nI_pred fc]
  exact fx_reti hx hb hr hlocks hP hS (Nat.le_of_ble_eq_true rfl) (Nat.le_of_ble_eq_true rfl) dX4_ferry_101 ⟨rfl, by simp only [e1, e6, e8, e9, e10]⟩

set_option maxHeartbeats 4000000 in
set_option maxRecDepth 100000 in
theorem c_X4_ferry_1 (l : Launch) (Z : fx_Z) (am : Nat → Nat) (hinj : fx_inj 22 am) (h : St) (a : Int32) (b : Int32) (hbad : ¬ (h 0 2 + 1 ≤ a ∧ a ≤ 10000) ∨ ¬ (1 ≤ b ∧ b ≤ 10)) : fx_C l Z yX4_ferry cX4_ferry 4 (some .int) 1 23 0 0 22 am (mF am (Z.2.1 0)) h [.ref (am 0), .int a, .int b] (pI (-1) (u2 h 0 3 1)) (fun _ => False) := by
  intro sz
  refine vx_ofW (cc := cX4_ferry) (maxL := 4) (ret := (some .int)) (by decide) rfl ?_
  intro p e s m args below meth c s₁ B hml hout hv
  obtain ⟨rfl, hsz, hP, hE, hSt⟩ := hv
  subst hsz
  have hx := B.exec
  have hb := B.bytes
  have hr := B.returns
  have hown : s.vm.findClass RX4 = some m.cls := findClass_of_methodNamed B.named
  have hlocks := B.notSynchronized
  have K : m_K p s m ([.ref (am 0), .int a, .int b] : List Value).toArray c cX4_ferry 4 Z am := ⟨hx, hb, hml, hown, fun w hw => atoms_spec (ws := fx_l yX4_ferry cX4_ferry 4 (some .int)) B.pre w (List.mem_cons_of_mem _ hw), hE, hSt, hinj⟩
  have hS : va_S (fx_A 22 am s.heap.size) s.heap s.heap [] := va_S.rf
  have hl := lv_entry ([.ref (am 0), .int a, .int b]) (n := 4) (Nat.le_of_ble_eq_true rfl)
  rw [lg_entry_eq]
  generalize (lg_sl ([.ref (am 0), .int a, .int b]) ++ List.replicate (4 - (lg_sl ([.ref (am 0), .int a, .int b])).length) Slot.unset).toArray = ls at hl ⊢
  have hl : lv_has ls 4 [(0, .ref (am 0)), (1, .int a), (2, .int b)] := hl
  refine lv_aload_n hx hb dX4_ferry_0 rfl (lv_at hl 0 rfl) ?_
  refine lv_iload_n hx hb dX4_ferry_1 rfl (lv_at hl 1 rfl) ?_
  refine lv_aload_n hx hb dX4_ferry_2 rfl (lv_at hl 0 rfl) ?_
  refine mg_hour K hP dX4_ferry_3 ?_
  refine lv_iconst (v := 1) hx hb dX4_ferry_6 (by decide) ?_
  refine lv_iadd hx hb dX4_ferry_7 ?_
  refine lv_topi (fun v1 e1 => ?_)
  refine lv_sipush (v := 10000) hx hb dX4_ferry_8 (by decide) ?_
  refine m_callb (rest := []) K hP hS (c_X4_in l Z am hinj h a v1 10000) ok_X4_80 rfl ⟨Nat.le_of_ble_eq_true rfl, Nat.le_of_ble_eq_true rfl⟩ rfl hl.1 (Nat.le_of_ble_eq_true rfl) ⟨Nat.le_of_ble_eq_true rfl, Nat.le_of_ble_eq_true rfl⟩ dX4_ferry_11 (fun c2 H locs hP hS => ?_) (fun c2 H locs hP hS => ?_)
  · refine lv_if_eq (tgt := 32) hx hb dX4_ferry_14 (by decide) (fun c3 => absurd c3 (by decide)) (fun _ => ?_)
    refine lv_aload_n hx hb dX4_ferry_17 rfl (lv_at hl 0 rfl) ?_
    refine lv_iload_n hx hb dX4_ferry_18 rfl (lv_at hl 2 rfl) ?_
    refine lv_iconst (v := 1) hx hb dX4_ferry_19 (by decide) ?_
    refine lv_bipush (v := 10) hx hb dX4_ferry_20 (by decide) ?_
    refine m_callb (rest := []) K hP hS (c_X4_in l Z am hinj h b 1 10) ok_X4_80 rfl ⟨Nat.le_of_ble_eq_true rfl, Nat.le_of_ble_eq_true rfl⟩ rfl hl.1 (Nat.le_of_ble_eq_true rfl) ⟨Nat.le_of_ble_eq_true rfl, Nat.le_of_ble_eq_true rfl⟩ dX4_ferry_22 (fun c4 H locs hP hS => ?_) (fun c4 H locs hP hS => ?_)
    · exact absurd hbad (by rw [e1] at *; simp_all)
    · refine lv_if_eq (tgt := 32) hx hb dX4_ferry_25 (by decide) (fun _ => ?_) (fun c5 => absurd (by decide) c5)
      refine lv_iconst (v := 0) hx hb dX4_ferry_32 (by decide) ?_
      refine lv_istore_n (lv' := [(3, .int 0), (0, .ref (am 0)), (1, .int a), (2, .int b)]) hx hb dX4_ferry_33 rfl hl (by decide) rfl (fun ls hl => ?_)
      refine lv_aload_n hx hb dX4_ferry_34 rfl (lv_at hl 1 rfl) ?_
      refine lv_iload_n hx hb dX4_ferry_35 rfl (lv_at hl 0 rfl) ?_
      refine lv_if_ne (tgt := 43) hx hb dX4_ferry_36 (by decide) (fun c6 => absurd (by decide) c6) (fun _ => ?_)
      refine lv_iconst (v := 1) hx hb dX4_ferry_39 (by decide) ?_
      refine lv_goto (tgt := 57) hx hb dX4_ferry_40 (by decide) ?_
      refine m_callt (rest := []) K hP hS (c_X4_holds l Z am hinj h 1) ok_X4_87 rfl ⟨Nat.le_of_ble_eq_true rfl, Nat.le_of_ble_eq_true rfl⟩ rfl hl.1 (Nat.le_of_ble_eq_true rfl) ⟨Nat.le_of_ble_eq_true rfl, Nat.le_of_ble_eq_true rfl⟩ dX4_ferry_57 (by decide) (fun H locs hP hS => ?_)
      obtain ⟨h7, e7⟩ : ∃ z : St, z = (u2 h 0 3 1) := ⟨_, rfl⟩
      rw [← e7] at hP
      refine lv_if_eq (tgt := 65) hx hb dX4_ferry_60 (by decide) (fun c8 => absurd c8 (by decide)) (fun _ => ?_)
      refine lv_iconst (v := (-1)) hx hb dX4_ferry_63 (by decide) ?_
      exact fx_reti hx hb hr hlocks hP hS (Nat.le_of_ble_eq_true rfl) (Nat.le_of_ble_eq_true rfl) dX4_ferry_64 ⟨rfl, e7⟩
  · refine lv_if_eq (tgt := 32) hx hb dX4_ferry_14 (by decide) (fun _ => ?_) (fun c9 => absurd (by decide) c9)
    refine lv_iconst (v := 0) hx hb dX4_ferry_32 (by decide) ?_
    refine lv_istore_n (lv' := [(3, .int 0), (0, .ref (am 0)), (1, .int a), (2, .int b)]) hx hb dX4_ferry_33 rfl hl (by decide) rfl (fun ls hl => ?_)
    refine lv_aload_n hx hb dX4_ferry_34 rfl (lv_at hl 1 rfl) ?_
    refine lv_iload_n hx hb dX4_ferry_35 rfl (lv_at hl 0 rfl) ?_
    refine lv_if_ne (tgt := 43) hx hb dX4_ferry_36 (by decide) (fun c10 => absurd (by decide) c10) (fun _ => ?_)
    refine lv_iconst (v := 1) hx hb dX4_ferry_39 (by decide) ?_
    refine lv_goto (tgt := 57) hx hb dX4_ferry_40 (by decide) ?_
    refine m_callt (rest := []) K hP hS (c_X4_holds l Z am hinj h 1) ok_X4_87 rfl ⟨Nat.le_of_ble_eq_true rfl, Nat.le_of_ble_eq_true rfl⟩ rfl hl.1 (Nat.le_of_ble_eq_true rfl) ⟨Nat.le_of_ble_eq_true rfl, Nat.le_of_ble_eq_true rfl⟩ dX4_ferry_57 (by decide) (fun H locs hP hS => ?_)
    obtain ⟨h11, e11⟩ : ∃ z : St, z = (u2 h 0 3 1) := ⟨_, rfl⟩
    rw [← e11] at hP
    refine lv_if_eq (tgt := 65) hx hb dX4_ferry_60 (by decide) (fun c12 => absurd c12 (by decide)) (fun _ => ?_)
    refine lv_iconst (v := (-1)) hx hb dX4_ferry_63 (by decide) ?_
    exact fx_reti hx hb hr hlocks hP hS (Nat.le_of_ble_eq_true rfl) (Nat.le_of_ble_eq_true rfl) dX4_ferry_64 ⟨rfl, e11⟩

set_option maxHeartbeats 4000000 in
set_option maxRecDepth 100000 in
theorem c_X4_ferry_2 (l : Launch) (Z : fx_Z) (am : Nat → Nat) (hinj : fx_inj 22 am) (h : St) (a : Int32) (b : Int32) (h1 : h 0 2 + 1 ≤ a ∧ a ≤ 10000) (h2 : 1 ≤ b ∧ b ≤ 10) (hfc : h 0 1 = 20) : fx_C l Z yX4_ferry cX4_ferry 4 (some .int) 1 23 0 0 22 am (mF am (Z.2.1 0)) h [.ref (am 0), .int a, .int b] (pI (-1) (u2 h 0 3 2)) (fun _ => False) := by
  intro sz
  refine vx_ofW (cc := cX4_ferry) (maxL := 4) (ret := (some .int)) (by decide) rfl ?_
  intro p e s m args below meth c s₁ B hml hout hv
  obtain ⟨rfl, hsz, hP, hE, hSt⟩ := hv
  subst hsz
  have hx := B.exec
  have hb := B.bytes
  have hr := B.returns
  have hown : s.vm.findClass RX4 = some m.cls := findClass_of_methodNamed B.named
  have hlocks := B.notSynchronized
  have K : m_K p s m ([.ref (am 0), .int a, .int b] : List Value).toArray c cX4_ferry 4 Z am := ⟨hx, hb, hml, hown, fun w hw => atoms_spec (ws := fx_l yX4_ferry cX4_ferry 4 (some .int)) B.pre w (List.mem_cons_of_mem _ hw), hE, hSt, hinj⟩
  have hS : va_S (fx_A 22 am s.heap.size) s.heap s.heap [] := va_S.rf
  have hl := lv_entry ([.ref (am 0), .int a, .int b]) (n := 4) (Nat.le_of_ble_eq_true rfl)
  rw [lg_entry_eq]
  generalize (lg_sl ([.ref (am 0), .int a, .int b]) ++ List.replicate (4 - (lg_sl ([.ref (am 0), .int a, .int b])).length) Slot.unset).toArray = ls at hl ⊢
  have hl : lv_has ls 4 [(0, .ref (am 0)), (1, .int a), (2, .int b)] := hl
  refine lv_aload_n hx hb dX4_ferry_0 rfl (lv_at hl 0 rfl) ?_
  refine lv_iload_n hx hb dX4_ferry_1 rfl (lv_at hl 1 rfl) ?_
  refine lv_aload_n hx hb dX4_ferry_2 rfl (lv_at hl 0 rfl) ?_
  refine mg_hour K hP dX4_ferry_3 ?_
  refine lv_iconst (v := 1) hx hb dX4_ferry_6 (by decide) ?_
  refine lv_iadd hx hb dX4_ferry_7 ?_
  refine lv_topi (fun v1 e1 => ?_)
  refine lv_sipush (v := 10000) hx hb dX4_ferry_8 (by decide) ?_
  refine m_callt (rest := []) K hP hS (c_X4_in l Z am hinj h a v1 10000) ok_X4_80 rfl ⟨Nat.le_of_ble_eq_true rfl, Nat.le_of_ble_eq_true rfl⟩ rfl hl.1 (Nat.le_of_ble_eq_true rfl) ⟨Nat.le_of_ble_eq_true rfl, Nat.le_of_ble_eq_true rfl⟩ dX4_ferry_11 (by rw [e1]; exact h1) (fun H locs hP hS => ?_)
  refine lv_if_eq (tgt := 32) hx hb dX4_ferry_14 (by decide) (fun c2 => absurd c2 (by decide)) (fun _ => ?_)
  refine lv_aload_n hx hb dX4_ferry_17 rfl (lv_at hl 0 rfl) ?_
  refine lv_iload_n hx hb dX4_ferry_18 rfl (lv_at hl 2 rfl) ?_
  refine lv_iconst (v := 1) hx hb dX4_ferry_19 (by decide) ?_
  refine lv_bipush (v := 10) hx hb dX4_ferry_20 (by decide) ?_
  refine m_callt (rest := []) K hP hS (c_X4_in l Z am hinj h b 1 10) ok_X4_80 rfl ⟨Nat.le_of_ble_eq_true rfl, Nat.le_of_ble_eq_true rfl⟩ rfl hl.1 (Nat.le_of_ble_eq_true rfl) ⟨Nat.le_of_ble_eq_true rfl, Nat.le_of_ble_eq_true rfl⟩ dX4_ferry_22 h2 (fun H locs hP hS => ?_)
  refine lv_if_eq (tgt := 32) hx hb dX4_ferry_25 (by decide) (fun c3 => absurd c3 (by decide)) (fun _ => ?_)
  refine lv_iconst (v := 1) hx hb dX4_ferry_28 (by decide) ?_
  refine lv_goto (tgt := 33) hx hb dX4_ferry_29 (by decide) ?_
  refine lv_istore_n (lv' := [(3, .int 1), (0, .ref (am 0)), (1, .int a), (2, .int b)]) hx hb dX4_ferry_33 rfl hl (by decide) rfl (fun ls hl => ?_)
  refine lv_aload_n hx hb dX4_ferry_34 rfl (lv_at hl 1 rfl) ?_
  refine lv_iload_n hx hb dX4_ferry_35 rfl (lv_at hl 0 rfl) ?_
  refine lv_if_ne (tgt := 43) hx hb dX4_ferry_36 (by decide) (fun _ => ?_) (fun c4 => absurd c4 (by decide))
  refine lv_aload_n hx hb dX4_ferry_43 rfl (lv_at hl 1 rfl) ?_
  refine mg_ferries K hP dX4_ferry_44 ?_
  refine lv_bipush (v := 20) hx hb dX4_ferry_47 (by decide) ?_
  refine lv_icmp_ne (tgt := 56) hx hb dX4_ferry_49 (by decide) (fun c5 => absurd hfc c5) (fun _ => ?_)
  refine lv_iconst (v := 2) hx hb dX4_ferry_52 (by decide) ?_
  refine lv_goto (tgt := 57) hx hb dX4_ferry_53 (by decide) ?_
  refine m_callt (rest := []) K hP hS (c_X4_holds l Z am hinj h 2) ok_X4_87 rfl ⟨Nat.le_of_ble_eq_true rfl, Nat.le_of_ble_eq_true rfl⟩ rfl hl.1 (Nat.le_of_ble_eq_true rfl) ⟨Nat.le_of_ble_eq_true rfl, Nat.le_of_ble_eq_true rfl⟩ dX4_ferry_57 (by decide) (fun H locs hP hS => ?_)
  obtain ⟨h6, e6⟩ : ∃ z : St, z = (u2 h 0 3 2) := ⟨_, rfl⟩
  rw [← e6] at hP
  refine lv_if_eq (tgt := 65) hx hb dX4_ferry_60 (by decide) (fun c7 => absurd c7 (by decide)) (fun _ => ?_)
  refine lv_iconst (v := (-1)) hx hb dX4_ferry_63 (by decide) ?_
  exact fx_reti hx hb hr hlocks hP hS (Nat.le_of_ble_eq_true rfl) (Nat.le_of_ble_eq_true rfl) dX4_ferry_64 ⟨rfl, e6⟩

set_option maxHeartbeats 4000000 in
set_option maxRecDepth 100000 in
theorem c_X4_check_0t (l : Launch) (Z : fx_Z) (am : Nat → Nat) (hinj : fx_inj 22 am) (h : St) (rc : Nat) (i : Nat) (b : Int32) (hi : i < rc) (hrc : h 0 0 = nI rc) (hr6 : rc ≤ 60) (h7 : h 7 i = 1) (hb1 : ¬ b = 0) : fx_C l Z yX4_check cX4_check 4 (some .int) 2 44 0 0 22 am (mF am (Z.2.1 0)) h [.ref (am 0), .int (nI i), .int b] (pI (h 7 i) (u2 h 0 3 0)) (fun _ => False) := by
  intro sz
  refine vx_ofW (cc := cX4_check) (maxL := 4) (ret := (some .int)) (by decide) rfl ?_
  intro p e s m args below meth c s₁ B hml hout hv
  obtain ⟨rfl, hsz, hP, hE, hSt⟩ := hv
  subst hsz
  have hx := B.exec
  have hb := B.bytes
  have hr := B.returns
  have hown : s.vm.findClass RX4 = some m.cls := findClass_of_methodNamed B.named
  have hlocks := B.notSynchronized
  have K : m_K p s m ([.ref (am 0), .int (nI i), .int b] : List Value).toArray c cX4_check 4 Z am := ⟨hx, hb, hml, hown, fun w hw => atoms_spec (ws := fx_l yX4_check cX4_check 4 (some .int)) B.pre w (List.mem_cons_of_mem _ hw), hE, hSt, hinj⟩
  have hS : va_S (fx_A 22 am s.heap.size) s.heap s.heap [] := va_S.rf
  have hl := lv_entry ([.ref (am 0), .int (nI i), .int b]) (n := 4) (Nat.le_of_ble_eq_true rfl)
  rw [lg_entry_eq]
  generalize (lg_sl ([.ref (am 0), .int (nI i), .int b]) ++ List.replicate (4 - (lg_sl ([.ref (am 0), .int (nI i), .int b])).length) Slot.unset).toArray = ls at hl ⊢
  have hl : lv_has ls 4 [(0, .ref (am 0)), (1, .int (nI i)), (2, .int b)] := hl
  refine lv_aload_n hx hb dX4_check_0 rfl (lv_at hl 0 rfl) ?_
  refine lv_iload_n hx hb dX4_check_1 rfl (lv_at hl 1 rfl) ?_
  refine m_callt (rest := []) K hP hS (c_X4_isReceipt l Z am hinj h (nI i)) ok_X4_94 rfl ⟨Nat.le_of_ble_eq_true rfl, Nat.le_of_ble_eq_true rfl⟩ rfl hl.1 (Nat.le_of_ble_eq_true rfl) ⟨Nat.le_of_ble_eq_true rfl, Nat.le_of_ble_eq_true rfl⟩ dX4_check_2 (isR_t hrc hr6 hi) (fun H locs hP hS => ?_)
  refine lv_istore_n (lv' := [(3, .int 1), (0, .ref (am 0)), (1, .int (nI i)), (2, .int b)]) hx hb dX4_check_5 rfl hl (by decide) rfl (fun ls hl => ?_)
  refine lv_aload_n hx hb dX4_check_6 rfl (lv_at hl 1 rfl) ?_
  refine lv_iload_n hx hb dX4_check_7 rfl (lv_at hl 0 rfl) ?_
  refine lv_if_ne (tgt := 15) hx hb dX4_check_8 (by decide) (fun _ => ?_) (fun c1 => absurd c1 (by decide))
  refine lv_aload_n hx hb dX4_check_15 rfl (lv_at hl 1 rfl) ?_
  refine mg_rk K hP dX4_check_16 ?_
  refine lv_iload_n hx hb dX4_check_19 rfl (lv_at hl 2 rfl) ?_
  refine mr_ald K hP (by decide) (by decide) (n := 60) rfl (by omega) (by decide) dX4_check_20 ?_
  refine lv_iconst (v := 1) hx hb dX4_check_21 (by decide) ?_
  refine lv_icmp_eq (tgt := 29) hx hb dX4_check_22 (by decide) (fun _ => ?_) (fun c2 => absurd h7 c2)
  refine lv_iconst (v := 0) hx hb dX4_check_29 (by decide) ?_
  refine m_callf (rest := []) K hP hS (c_X4_holds l Z am hinj h 0) ok_X4_87 rfl ⟨Nat.le_of_ble_eq_true rfl, Nat.le_of_ble_eq_true rfl⟩ rfl hl.1 (Nat.le_of_ble_eq_true rfl) ⟨Nat.le_of_ble_eq_true rfl, Nat.le_of_ble_eq_true rfl⟩ dX4_check_30 (by decide) (fun H locs hP hS => ?_)
  obtain ⟨h3, e3⟩ : ∃ z : St, z = (u2 h 0 3 0) := ⟨_, rfl⟩
  rw [← e3] at hP
  refine lv_if_eq (tgt := 38) hx hb dX4_check_33 (by decide) (fun _ => ?_) (fun c4 => absurd (by decide) c4)
  refine lv_iload_n hx hb dX4_check_38 rfl (lv_at hl 3 rfl) ?_
  refine lv_if_ne (tgt := 72) hx hb dX4_check_39 (by decide) (fun _ => ?_) (fun c5 => absurd c5 hb1)
  refine lv_aload_n hx hb dX4_check_72 rfl (lv_at hl 1 rfl) ?_
  refine mg_rk K hP dX4_check_73 ?_
  refine lv_iload_n hx hb dX4_check_76 rfl (lv_at hl 2 rfl) ?_
  refine mr_ald K hP (by decide) (by decide) (n := 60) rfl (by omega) (by decide) dX4_check_77 ?_
  rw [show h3 7 i = h 7 i from by simp [u2_at, e3]]
  exact fx_reti hx hb hr hlocks hP hS (Nat.le_of_ble_eq_true rfl) (Nat.le_of_ble_eq_true rfl) dX4_check_78 ⟨rfl, by simp only [e3]⟩

set_option maxHeartbeats 4000000 in
set_option maxRecDepth 100000 in
theorem c_X4_check_0f (l : Launch) (Z : fx_Z) (am : Nat → Nat) (hinj : fx_inj 22 am) (h : St) (rc : Nat) (t : Nat) (i : Nat) (b : Int32) (hi : i < rc) (hrc : h 0 0 = nI rc) (hr6 : rc ≤ 60) (ht : h 3 i = nI t) (ht9 : t < 10) (h7 : h 7 i = 1) (hb1 : b = 0) : fx_C l Z yX4_check cX4_check 4 (some .int) 2 44 0 0 22 am (mF am (Z.2.1 0)) h [.ref (am 0), .int (nI i), .int b] (pI 3 (u2 (u2 (u2 (u2 h 0 3 0) 7 i 3) 8 i (-1)) 19 t ((h 19 t) + 50))) (fun _ => False) := by
  intro sz
  refine vx_ofW (cc := cX4_check) (maxL := 4) (ret := (some .int)) (by decide) rfl ?_
  intro p e s m args below meth c s₁ B hml hout hv
  obtain ⟨rfl, hsz, hP, hE, hSt⟩ := hv
  subst hsz
  have hx := B.exec
  have hb := B.bytes
  have hr := B.returns
  have hown : s.vm.findClass RX4 = some m.cls := findClass_of_methodNamed B.named
  have hlocks := B.notSynchronized
  have K : m_K p s m ([.ref (am 0), .int (nI i), .int b] : List Value).toArray c cX4_check 4 Z am := ⟨hx, hb, hml, hown, fun w hw => atoms_spec (ws := fx_l yX4_check cX4_check 4 (some .int)) B.pre w (List.mem_cons_of_mem _ hw), hE, hSt, hinj⟩
  have hS : va_S (fx_A 22 am s.heap.size) s.heap s.heap [] := va_S.rf
  have hl := lv_entry ([.ref (am 0), .int (nI i), .int b]) (n := 4) (Nat.le_of_ble_eq_true rfl)
  rw [lg_entry_eq]
  generalize (lg_sl ([.ref (am 0), .int (nI i), .int b]) ++ List.replicate (4 - (lg_sl ([.ref (am 0), .int (nI i), .int b])).length) Slot.unset).toArray = ls at hl ⊢
  have hl : lv_has ls 4 [(0, .ref (am 0)), (1, .int (nI i)), (2, .int b)] := hl
  refine lv_aload_n hx hb dX4_check_0 rfl (lv_at hl 0 rfl) ?_
  refine lv_iload_n hx hb dX4_check_1 rfl (lv_at hl 1 rfl) ?_
  refine m_callt (rest := []) K hP hS (c_X4_isReceipt l Z am hinj h (nI i)) ok_X4_94 rfl ⟨Nat.le_of_ble_eq_true rfl, Nat.le_of_ble_eq_true rfl⟩ rfl hl.1 (Nat.le_of_ble_eq_true rfl) ⟨Nat.le_of_ble_eq_true rfl, Nat.le_of_ble_eq_true rfl⟩ dX4_check_2 (isR_t hrc hr6 hi) (fun H locs hP hS => ?_)
  refine lv_istore_n (lv' := [(3, .int 1), (0, .ref (am 0)), (1, .int (nI i)), (2, .int b)]) hx hb dX4_check_5 rfl hl (by decide) rfl (fun ls hl => ?_)
  refine lv_aload_n hx hb dX4_check_6 rfl (lv_at hl 1 rfl) ?_
  refine lv_iload_n hx hb dX4_check_7 rfl (lv_at hl 0 rfl) ?_
  refine lv_if_ne (tgt := 15) hx hb dX4_check_8 (by decide) (fun _ => ?_) (fun c1 => absurd c1 (by decide))
  refine lv_aload_n hx hb dX4_check_15 rfl (lv_at hl 1 rfl) ?_
  refine mg_rk K hP dX4_check_16 ?_
  refine lv_iload_n hx hb dX4_check_19 rfl (lv_at hl 2 rfl) ?_
  refine mr_ald K hP (by decide) (by decide) (n := 60) rfl (by omega) (by decide) dX4_check_20 ?_
  refine lv_iconst (v := 1) hx hb dX4_check_21 (by decide) ?_
  refine lv_icmp_eq (tgt := 29) hx hb dX4_check_22 (by decide) (fun _ => ?_) (fun c2 => absurd h7 c2)
  refine lv_iconst (v := 0) hx hb dX4_check_29 (by decide) ?_
  refine m_callf (rest := []) K hP hS (c_X4_holds l Z am hinj h 0) ok_X4_87 rfl ⟨Nat.le_of_ble_eq_true rfl, Nat.le_of_ble_eq_true rfl⟩ rfl hl.1 (Nat.le_of_ble_eq_true rfl) ⟨Nat.le_of_ble_eq_true rfl, Nat.le_of_ble_eq_true rfl⟩ dX4_check_30 (by decide) (fun H locs hP hS => ?_)
  obtain ⟨h3, e3⟩ : ∃ z : St, z = (u2 h 0 3 0) := ⟨_, rfl⟩
  rw [← e3] at hP
  refine lv_if_eq (tgt := 38) hx hb dX4_check_33 (by decide) (fun _ => ?_) (fun c4 => absurd (by decide) c4)
  refine lv_iload_n hx hb dX4_check_38 rfl (lv_at hl 3 rfl) ?_
  refine lv_if_ne (tgt := 72) hx hb dX4_check_39 (by decide) (fun c5 => absurd hb1 c5) (fun _ => ?_)
  refine lv_aload_n hx hb dX4_check_42 rfl (lv_at hl 1 rfl) ?_
  refine mg_rk K hP dX4_check_43 ?_
  refine lv_iload_n hx hb dX4_check_46 rfl (lv_at hl 2 rfl) ?_
  refine lv_iconst (v := 3) hx hb dX4_check_47 (by decide) ?_
  refine mr_ast K hP hS (by decide) (by decide) (n := 60) rfl (by omega) (by decide) dX4_check_48 (fun h6 H locs e6 hP hS => ?_)
  refine lv_aload_n hx hb dX4_check_49 rfl (lv_at hl 1 rfl) ?_
  refine mg_rf K hP dX4_check_50 ?_
  refine lv_iload_n hx hb dX4_check_53 rfl (lv_at hl 2 rfl) ?_
  refine lv_iconst (v := (-1)) hx hb dX4_check_54 (by decide) ?_
  refine mr_ast K hP hS (by decide) (by decide) (n := 60) rfl (by omega) (by decide) dX4_check_55 (fun h7 H locs e7 hP hS => ?_)
  refine lv_aload_n hx hb dX4_check_56 rfl (lv_at hl 1 rfl) ?_
  refine mg_fine K hP dX4_check_57 ?_
  refine lv_aload_n hx hb dX4_check_60 rfl (lv_at hl 1 rfl) ?_
  refine mg_rt K hP dX4_check_61 ?_
  refine lv_iload_n hx hb dX4_check_64 rfl (lv_at hl 2 rfl) ?_
  refine mr_ald K hP (by decide) (by decide) (n := 60) rfl (by omega) (by decide) dX4_check_65 ?_
  rw [show h7 3 i = h 3 i from by simp [u2_at, e3, e6, e7]]
  rw [ht]
  refine lv_dup2_11 hx hb dX4_check_66 rfl rfl ?_
  refine mr_ald K hP (by decide) (by decide) (n := 10) rfl (by omega) (by decide) dX4_check_67 ?_
  rw [show h7 19 t = h 19 t from by simp [u2_at, e3, e6, e7]]
  refine lv_bipush (v := 50) hx hb dX4_check_68 (by decide) ?_
  refine lv_iadd hx hb dX4_check_70 ?_
  refine lv_topi (fun v8 e8 => ?_)
  refine mr_ast K hP hS (by decide) (by decide) (n := 10) rfl (by omega) (by decide) dX4_check_71 (fun h9 H locs e9 hP hS => ?_)
  refine lv_aload_n hx hb dX4_check_72 rfl (lv_at hl 1 rfl) ?_
  refine mg_rk K hP dX4_check_73 ?_
  refine lv_iload_n hx hb dX4_check_76 rfl (lv_at hl 2 rfl) ?_
  refine mr_ald K hP (by decide) (by decide) (n := 60) rfl (by omega) (by decide) dX4_check_77 ?_
  rw [show h9 7 i = 3 from by simp [u2_at, e3, e6, e7, e9]]
  exact fx_reti hx hb hr hlocks hP hS (Nat.le_of_ble_eq_true rfl) (Nat.le_of_ble_eq_true rfl) dX4_check_78 ⟨rfl, by simp only [e3, e6, e7, e8, e9]⟩

set_option maxHeartbeats 4000000 in
set_option maxRecDepth 100000 in
theorem c_X4_check_1 (l : Launch) (Z : fx_Z) (am : Nat → Nat) (hinj : fx_inj 22 am) (h : St) (rc : Nat) (r : Int32) (b : Int32) (hrc : h 0 0 = nI rc) (hr6 : rc ≤ 60) (hbr : bad r rc) : fx_C l Z yX4_check cX4_check 4 (some .int) 2 44 0 0 22 am (mF am (Z.2.1 0)) h [.ref (am 0), .int r, .int b] (pI (-1) (u2 h 0 3 1)) (fun _ => False) := by
  intro sz
  refine vx_ofW (cc := cX4_check) (maxL := 4) (ret := (some .int)) (by decide) rfl ?_
  intro p e s m args below meth c s₁ B hml hout hv
  obtain ⟨rfl, hsz, hP, hE, hSt⟩ := hv
  subst hsz
  have hx := B.exec
  have hb := B.bytes
  have hr := B.returns
  have hown : s.vm.findClass RX4 = some m.cls := findClass_of_methodNamed B.named
  have hlocks := B.notSynchronized
  have K : m_K p s m ([.ref (am 0), .int r, .int b] : List Value).toArray c cX4_check 4 Z am := ⟨hx, hb, hml, hown, fun w hw => atoms_spec (ws := fx_l yX4_check cX4_check 4 (some .int)) B.pre w (List.mem_cons_of_mem _ hw), hE, hSt, hinj⟩
  have hS : va_S (fx_A 22 am s.heap.size) s.heap s.heap [] := va_S.rf
  have hl := lv_entry ([.ref (am 0), .int r, .int b]) (n := 4) (Nat.le_of_ble_eq_true rfl)
  rw [lg_entry_eq]
  generalize (lg_sl ([.ref (am 0), .int r, .int b]) ++ List.replicate (4 - (lg_sl ([.ref (am 0), .int r, .int b])).length) Slot.unset).toArray = ls at hl ⊢
  have hl : lv_has ls 4 [(0, .ref (am 0)), (1, .int r), (2, .int b)] := hl
  refine lv_aload_n hx hb dX4_check_0 rfl (lv_at hl 0 rfl) ?_
  refine lv_iload_n hx hb dX4_check_1 rfl (lv_at hl 1 rfl) ?_
  refine m_callf (rest := []) K hP hS (c_X4_isReceipt l Z am hinj h r) ok_X4_94 rfl ⟨Nat.le_of_ble_eq_true rfl, Nat.le_of_ble_eq_true rfl⟩ rfl hl.1 (Nat.le_of_ble_eq_true rfl) ⟨Nat.le_of_ble_eq_true rfl, Nat.le_of_ble_eq_true rfl⟩ dX4_check_2 (isR_f hrc hr6 hbr) (fun H locs hP hS => ?_)
  refine lv_istore_n (lv' := [(3, .int 0), (0, .ref (am 0)), (1, .int r), (2, .int b)]) hx hb dX4_check_5 rfl hl (by decide) rfl (fun ls hl => ?_)
  refine lv_aload_n hx hb dX4_check_6 rfl (lv_at hl 1 rfl) ?_
  refine lv_iload_n hx hb dX4_check_7 rfl (lv_at hl 0 rfl) ?_
  refine lv_if_ne (tgt := 15) hx hb dX4_check_8 (by decide) (fun c1 => absurd (by decide) c1) (fun _ => ?_)
  refine lv_iconst (v := 1) hx hb dX4_check_11 (by decide) ?_
  refine lv_goto (tgt := 30) hx hb dX4_check_12 (by decide) ?_
  refine m_callt (rest := []) K hP hS (c_X4_holds l Z am hinj h 1) ok_X4_87 rfl ⟨Nat.le_of_ble_eq_true rfl, Nat.le_of_ble_eq_true rfl⟩ rfl hl.1 (Nat.le_of_ble_eq_true rfl) ⟨Nat.le_of_ble_eq_true rfl, Nat.le_of_ble_eq_true rfl⟩ dX4_check_30 (by decide) (fun H locs hP hS => ?_)
  obtain ⟨h2, e2⟩ : ∃ z : St, z = (u2 h 0 3 1) := ⟨_, rfl⟩
  rw [← e2] at hP
  refine lv_if_eq (tgt := 38) hx hb dX4_check_33 (by decide) (fun c3 => absurd c3 (by decide)) (fun _ => ?_)
  refine lv_iconst (v := (-1)) hx hb dX4_check_36 (by decide) ?_
  exact fx_reti hx hb hr hlocks hP hS (Nat.le_of_ble_eq_true rfl) (Nat.le_of_ble_eq_true rfl) dX4_check_37 ⟨rfl, e2⟩

set_option maxHeartbeats 4000000 in
set_option maxRecDepth 100000 in
theorem c_X4_check_2 (l : Launch) (Z : fx_Z) (am : Nat → Nat) (hinj : fx_inj 22 am) (h : St) (rc : Nat) (i : Nat) (b : Int32) (hi : i < rc) (hrc : h 0 0 = nI rc) (hr6 : rc ≤ 60) (h7 : ¬ h 7 i = 1) : fx_C l Z yX4_check cX4_check 4 (some .int) 2 44 0 0 22 am (mF am (Z.2.1 0)) h [.ref (am 0), .int (nI i), .int b] (pI (-1) (u2 h 0 3 2)) (fun _ => False) := by
  intro sz
  refine vx_ofW (cc := cX4_check) (maxL := 4) (ret := (some .int)) (by decide) rfl ?_
  intro p e s m args below meth c s₁ B hml hout hv
  obtain ⟨rfl, hsz, hP, hE, hSt⟩ := hv
  subst hsz
  have hx := B.exec
  have hb := B.bytes
  have hr := B.returns
  have hown : s.vm.findClass RX4 = some m.cls := findClass_of_methodNamed B.named
  have hlocks := B.notSynchronized
  have K : m_K p s m ([.ref (am 0), .int (nI i), .int b] : List Value).toArray c cX4_check 4 Z am := ⟨hx, hb, hml, hown, fun w hw => atoms_spec (ws := fx_l yX4_check cX4_check 4 (some .int)) B.pre w (List.mem_cons_of_mem _ hw), hE, hSt, hinj⟩
  have hS : va_S (fx_A 22 am s.heap.size) s.heap s.heap [] := va_S.rf
  have hl := lv_entry ([.ref (am 0), .int (nI i), .int b]) (n := 4) (Nat.le_of_ble_eq_true rfl)
  rw [lg_entry_eq]
  generalize (lg_sl ([.ref (am 0), .int (nI i), .int b]) ++ List.replicate (4 - (lg_sl ([.ref (am 0), .int (nI i), .int b])).length) Slot.unset).toArray = ls at hl ⊢
  have hl : lv_has ls 4 [(0, .ref (am 0)), (1, .int (nI i)), (2, .int b)] := hl
  refine lv_aload_n hx hb dX4_check_0 rfl (lv_at hl 0 rfl) ?_
  refine lv_iload_n hx hb dX4_check_1 rfl (lv_at hl 1 rfl) ?_
  refine m_callt (rest := []) K hP hS (c_X4_isReceipt l Z am hinj h (nI i)) ok_X4_94 rfl ⟨Nat.le_of_ble_eq_true rfl, Nat.le_of_ble_eq_true rfl⟩ rfl hl.1 (Nat.le_of_ble_eq_true rfl) ⟨Nat.le_of_ble_eq_true rfl, Nat.le_of_ble_eq_true rfl⟩ dX4_check_2 (isR_t hrc hr6 hi) (fun H locs hP hS => ?_)
  refine lv_istore_n (lv' := [(3, .int 1), (0, .ref (am 0)), (1, .int (nI i)), (2, .int b)]) hx hb dX4_check_5 rfl hl (by decide) rfl (fun ls hl => ?_)
  refine lv_aload_n hx hb dX4_check_6 rfl (lv_at hl 1 rfl) ?_
  refine lv_iload_n hx hb dX4_check_7 rfl (lv_at hl 0 rfl) ?_
  refine lv_if_ne (tgt := 15) hx hb dX4_check_8 (by decide) (fun _ => ?_) (fun c1 => absurd c1 (by decide))
  refine lv_aload_n hx hb dX4_check_15 rfl (lv_at hl 1 rfl) ?_
  refine mg_rk K hP dX4_check_16 ?_
  refine lv_iload_n hx hb dX4_check_19 rfl (lv_at hl 2 rfl) ?_
  refine mr_ald K hP (by decide) (by decide) (n := 60) rfl (by omega) (by decide) dX4_check_20 ?_
  refine lv_iconst (v := 1) hx hb dX4_check_21 (by decide) ?_
  refine lv_icmp_eq (tgt := 29) hx hb dX4_check_22 (by decide) (fun c2 => absurd c2 h7) (fun _ => ?_)
  refine lv_iconst (v := 2) hx hb dX4_check_25 (by decide) ?_
  refine lv_goto (tgt := 30) hx hb dX4_check_26 (by decide) ?_
  refine m_callt (rest := []) K hP hS (c_X4_holds l Z am hinj h 2) ok_X4_87 rfl ⟨Nat.le_of_ble_eq_true rfl, Nat.le_of_ble_eq_true rfl⟩ rfl hl.1 (Nat.le_of_ble_eq_true rfl) ⟨Nat.le_of_ble_eq_true rfl, Nat.le_of_ble_eq_true rfl⟩ dX4_check_30 (by decide) (fun H locs hP hS => ?_)
  obtain ⟨h3, e3⟩ : ∃ z : St, z = (u2 h 0 3 2) := ⟨_, rfl⟩
  rw [← e3] at hP
  refine lv_if_eq (tgt := 38) hx hb dX4_check_33 (by decide) (fun c4 => absurd c4 (by decide)) (fun _ => ?_)
  refine lv_iconst (v := (-1)) hx hb dX4_check_36 (by decide) ?_
  exact fx_reti hx hb hr hlocks hP hS (Nat.le_of_ble_eq_true rfl) (Nat.le_of_ble_eq_true rfl) dX4_check_37 ⟨rfl, e3⟩

set_option maxHeartbeats 4000000 in
set_option maxRecDepth 100000 in
theorem c_X4_comeBack_0 (l : Launch) (Z : fx_Z) (am : Nat → Nat) (hinj : fx_inj 22 am) (h : St) (t : Nat) (ht9 : t < 10) (hg : ¬ h 16 t = 0) : fx_C l Z yX4_comeBack cX4_comeBack 3 (some .int) 1 23 0 0 22 am (mF am (Z.2.1 0)) h [.ref (am 0), .int (nI t)] (pI (h 17 t) (u2 (u2 h 0 3 0) 16 t 0)) (fun _ => False) := by
  intro sz
  refine vx_ofW (cc := cX4_comeBack) (maxL := 3) (ret := (some .int)) (by decide) rfl ?_
  intro p e s m args below meth c s₁ B hml hout hv
  obtain ⟨rfl, hsz, hP, hE, hSt⟩ := hv
  subst hsz
  have hx := B.exec
  have hb := B.bytes
  have hr := B.returns
  have hown : s.vm.findClass RX4 = some m.cls := findClass_of_methodNamed B.named
  have hlocks := B.notSynchronized
  have K : m_K p s m ([.ref (am 0), .int (nI t)] : List Value).toArray c cX4_comeBack 3 Z am := ⟨hx, hb, hml, hown, fun w hw => atoms_spec (ws := fx_l yX4_comeBack cX4_comeBack 3 (some .int)) B.pre w (List.mem_cons_of_mem _ hw), hE, hSt, hinj⟩
  have hS : va_S (fx_A 22 am s.heap.size) s.heap s.heap [] := va_S.rf
  have hl := lv_entry ([.ref (am 0), .int (nI t)]) (n := 3) (Nat.le_of_ble_eq_true rfl)
  rw [lg_entry_eq]
  generalize (lg_sl ([.ref (am 0), .int (nI t)]) ++ List.replicate (3 - (lg_sl ([.ref (am 0), .int (nI t)])).length) Slot.unset).toArray = ls at hl ⊢
  have hl : lv_has ls 3 [(0, .ref (am 0)), (1, .int (nI t))] := hl
  refine lv_aload_n hx hb dX4_comeBack_0 rfl (lv_at hl 0 rfl) ?_
  refine lv_iload_n hx hb dX4_comeBack_1 rfl (lv_at hl 1 rfl) ?_
  refine lv_iconst (v := 0) hx hb dX4_comeBack_2 (by decide) ?_
  refine lv_bipush (v := 9) hx hb dX4_comeBack_3 (by decide) ?_
  refine m_callt (rest := []) K hP hS (c_X4_in l Z am hinj h (nI t) 0 9) ok_X4_80 rfl ⟨Nat.le_of_ble_eq_true rfl, Nat.le_of_ble_eq_true rfl⟩ rfl hl.1 (Nat.le_of_ble_eq_true rfl) ⟨Nat.le_of_ble_eq_true rfl, Nat.le_of_ble_eq_true rfl⟩ dX4_comeBack_5 (ix9 ht9) (fun H locs hP hS => ?_)
  refine lv_istore_n (lv' := [(2, .int 1), (0, .ref (am 0)), (1, .int (nI t))]) hx hb dX4_comeBack_8 rfl hl (by decide) rfl (fun ls hl => ?_)
  refine lv_aload_n hx hb dX4_comeBack_9 rfl (lv_at hl 1 rfl) ?_
  refine lv_iload_n hx hb dX4_comeBack_10 rfl (lv_at hl 0 rfl) ?_
  refine lv_if_ne (tgt := 18) hx hb dX4_comeBack_11 (by decide) (fun _ => ?_) (fun c1 => absurd c1 (by decide))
  refine lv_aload_n hx hb dX4_comeBack_18 rfl (lv_at hl 1 rfl) ?_
  refine mg_gone K hP dX4_comeBack_19 ?_
  refine lv_iload_n hx hb dX4_comeBack_22 rfl (lv_at hl 2 rfl) ?_
  refine mr_ald K hP (by decide) (by decide) (n := 10) rfl (by omega) (by decide) dX4_comeBack_23 ?_
  refine lv_if_ne (tgt := 31) hx hb dX4_comeBack_24 (by decide) (fun _ => ?_) (fun c2 => absurd c2 hg)
  refine lv_iconst (v := 0) hx hb dX4_comeBack_31 (by decide) ?_
  refine m_callf (rest := []) K hP hS (c_X4_holds l Z am hinj h 0) ok_X4_87 rfl ⟨Nat.le_of_ble_eq_true rfl, Nat.le_of_ble_eq_true rfl⟩ rfl hl.1 (Nat.le_of_ble_eq_true rfl) ⟨Nat.le_of_ble_eq_true rfl, Nat.le_of_ble_eq_true rfl⟩ dX4_comeBack_32 (by decide) (fun H locs hP hS => ?_)
  obtain ⟨h3, e3⟩ : ∃ z : St, z = (u2 h 0 3 0) := ⟨_, rfl⟩
  rw [← e3] at hP
  refine lv_if_eq (tgt := 40) hx hb dX4_comeBack_35 (by decide) (fun _ => ?_) (fun c4 => absurd (by decide) c4)
  refine lv_aload_n hx hb dX4_comeBack_40 rfl (lv_at hl 1 rfl) ?_
  refine mg_gone K hP dX4_comeBack_41 ?_
  refine lv_iload_n hx hb dX4_comeBack_44 rfl (lv_at hl 2 rfl) ?_
  refine lv_iconst (v := 0) hx hb dX4_comeBack_45 (by decide) ?_
  refine mr_ast K hP hS (by decide) (by decide) (n := 10) rfl (by omega) (by decide) dX4_comeBack_46 (fun h5 H locs e5 hP hS => ?_)
  refine lv_aload_n hx hb dX4_comeBack_47 rfl (lv_at hl 1 rfl) ?_
  refine mg_often K hP dX4_comeBack_48 ?_
  refine lv_iload_n hx hb dX4_comeBack_51 rfl (lv_at hl 2 rfl) ?_
  refine mr_ald K hP (by decide) (by decide) (n := 10) rfl (by omega) (by decide) dX4_comeBack_52 ?_
  rw [show h5 17 t = h 17 t from by simp [u2_at, e3, e5]]
  exact fx_reti hx hb hr hlocks hP hS (Nat.le_of_ble_eq_true rfl) (Nat.le_of_ble_eq_true rfl) dX4_comeBack_53 ⟨rfl, by simp only [e3, e5]⟩

set_option maxHeartbeats 4000000 in
set_option maxRecDepth 100000 in
theorem c_X4_comeBack_1 (l : Launch) (Z : fx_Z) (am : Nat → Nat) (hinj : fx_inj 22 am) (h : St) (t : Int32) (ht : bad t 10) : fx_C l Z yX4_comeBack cX4_comeBack 3 (some .int) 1 23 0 0 22 am (mF am (Z.2.1 0)) h [.ref (am 0), .int t] (pI (-1) (u2 h 0 3 1)) (fun _ => False) := by
  intro sz
  refine vx_ofW (cc := cX4_comeBack) (maxL := 3) (ret := (some .int)) (by decide) rfl ?_
  intro p e s m args below meth c s₁ B hml hout hv
  obtain ⟨rfl, hsz, hP, hE, hSt⟩ := hv
  subst hsz
  have hx := B.exec
  have hb := B.bytes
  have hr := B.returns
  have hown : s.vm.findClass RX4 = some m.cls := findClass_of_methodNamed B.named
  have hlocks := B.notSynchronized
  have K : m_K p s m ([.ref (am 0), .int t] : List Value).toArray c cX4_comeBack 3 Z am := ⟨hx, hb, hml, hown, fun w hw => atoms_spec (ws := fx_l yX4_comeBack cX4_comeBack 3 (some .int)) B.pre w (List.mem_cons_of_mem _ hw), hE, hSt, hinj⟩
  have hS : va_S (fx_A 22 am s.heap.size) s.heap s.heap [] := va_S.rf
  have hl := lv_entry ([.ref (am 0), .int t]) (n := 3) (Nat.le_of_ble_eq_true rfl)
  rw [lg_entry_eq]
  generalize (lg_sl ([.ref (am 0), .int t]) ++ List.replicate (3 - (lg_sl ([.ref (am 0), .int t])).length) Slot.unset).toArray = ls at hl ⊢
  have hl : lv_has ls 3 [(0, .ref (am 0)), (1, .int t)] := hl
  refine lv_aload_n hx hb dX4_comeBack_0 rfl (lv_at hl 0 rfl) ?_
  refine lv_iload_n hx hb dX4_comeBack_1 rfl (lv_at hl 1 rfl) ?_
  refine lv_iconst (v := 0) hx hb dX4_comeBack_2 (by decide) ?_
  refine lv_bipush (v := 9) hx hb dX4_comeBack_3 (by decide) ?_
  refine m_callf (rest := []) K hP hS (c_X4_in l Z am hinj h t 0 9) ok_X4_80 rfl ⟨Nat.le_of_ble_eq_true rfl, Nat.le_of_ble_eq_true rfl⟩ rfl hl.1 (Nat.le_of_ble_eq_true rfl) ⟨Nat.le_of_ble_eq_true rfl, Nat.le_of_ble_eq_true rfl⟩ dX4_comeBack_5 (nix9 ht) (fun H locs hP hS => ?_)
  refine lv_istore_n (lv' := [(2, .int 0), (0, .ref (am 0)), (1, .int t)]) hx hb dX4_comeBack_8 rfl hl (by decide) rfl (fun ls hl => ?_)
  refine lv_aload_n hx hb dX4_comeBack_9 rfl (lv_at hl 1 rfl) ?_
  refine lv_iload_n hx hb dX4_comeBack_10 rfl (lv_at hl 0 rfl) ?_
  refine lv_if_ne (tgt := 18) hx hb dX4_comeBack_11 (by decide) (fun c1 => absurd (by decide) c1) (fun _ => ?_)
  refine lv_iconst (v := 1) hx hb dX4_comeBack_14 (by decide) ?_
  refine lv_goto (tgt := 32) hx hb dX4_comeBack_15 (by decide) ?_
  refine m_callt (rest := []) K hP hS (c_X4_holds l Z am hinj h 1) ok_X4_87 rfl ⟨Nat.le_of_ble_eq_true rfl, Nat.le_of_ble_eq_true rfl⟩ rfl hl.1 (Nat.le_of_ble_eq_true rfl) ⟨Nat.le_of_ble_eq_true rfl, Nat.le_of_ble_eq_true rfl⟩ dX4_comeBack_32 (by decide) (fun H locs hP hS => ?_)
  obtain ⟨h2, e2⟩ : ∃ z : St, z = (u2 h 0 3 1) := ⟨_, rfl⟩
  rw [← e2] at hP
  refine lv_if_eq (tgt := 40) hx hb dX4_comeBack_35 (by decide) (fun c3 => absurd c3 (by decide)) (fun _ => ?_)
  refine lv_iconst (v := (-1)) hx hb dX4_comeBack_38 (by decide) ?_
  exact fx_reti hx hb hr hlocks hP hS (Nat.le_of_ble_eq_true rfl) (Nat.le_of_ble_eq_true rfl) dX4_comeBack_39 ⟨rfl, e2⟩

set_option maxHeartbeats 4000000 in
set_option maxRecDepth 100000 in
theorem c_X4_comeBack_2 (l : Launch) (Z : fx_Z) (am : Nat → Nat) (hinj : fx_inj 22 am) (h : St) (t : Nat) (ht9 : t < 10) (hg : h 16 t = 0) : fx_C l Z yX4_comeBack cX4_comeBack 3 (some .int) 1 23 0 0 22 am (mF am (Z.2.1 0)) h [.ref (am 0), .int (nI t)] (pI (-1) (u2 h 0 3 2)) (fun _ => False) := by
  intro sz
  refine vx_ofW (cc := cX4_comeBack) (maxL := 3) (ret := (some .int)) (by decide) rfl ?_
  intro p e s m args below meth c s₁ B hml hout hv
  obtain ⟨rfl, hsz, hP, hE, hSt⟩ := hv
  subst hsz
  have hx := B.exec
  have hb := B.bytes
  have hr := B.returns
  have hown : s.vm.findClass RX4 = some m.cls := findClass_of_methodNamed B.named
  have hlocks := B.notSynchronized
  have K : m_K p s m ([.ref (am 0), .int (nI t)] : List Value).toArray c cX4_comeBack 3 Z am := ⟨hx, hb, hml, hown, fun w hw => atoms_spec (ws := fx_l yX4_comeBack cX4_comeBack 3 (some .int)) B.pre w (List.mem_cons_of_mem _ hw), hE, hSt, hinj⟩
  have hS : va_S (fx_A 22 am s.heap.size) s.heap s.heap [] := va_S.rf
  have hl := lv_entry ([.ref (am 0), .int (nI t)]) (n := 3) (Nat.le_of_ble_eq_true rfl)
  rw [lg_entry_eq]
  generalize (lg_sl ([.ref (am 0), .int (nI t)]) ++ List.replicate (3 - (lg_sl ([.ref (am 0), .int (nI t)])).length) Slot.unset).toArray = ls at hl ⊢
  have hl : lv_has ls 3 [(0, .ref (am 0)), (1, .int (nI t))] := hl
  refine lv_aload_n hx hb dX4_comeBack_0 rfl (lv_at hl 0 rfl) ?_
  refine lv_iload_n hx hb dX4_comeBack_1 rfl (lv_at hl 1 rfl) ?_
  refine lv_iconst (v := 0) hx hb dX4_comeBack_2 (by decide) ?_
  refine lv_bipush (v := 9) hx hb dX4_comeBack_3 (by decide) ?_
  refine m_callt (rest := []) K hP hS (c_X4_in l Z am hinj h (nI t) 0 9) ok_X4_80 rfl ⟨Nat.le_of_ble_eq_true rfl, Nat.le_of_ble_eq_true rfl⟩ rfl hl.1 (Nat.le_of_ble_eq_true rfl) ⟨Nat.le_of_ble_eq_true rfl, Nat.le_of_ble_eq_true rfl⟩ dX4_comeBack_5 (ix9 ht9) (fun H locs hP hS => ?_)
  refine lv_istore_n (lv' := [(2, .int 1), (0, .ref (am 0)), (1, .int (nI t))]) hx hb dX4_comeBack_8 rfl hl (by decide) rfl (fun ls hl => ?_)
  refine lv_aload_n hx hb dX4_comeBack_9 rfl (lv_at hl 1 rfl) ?_
  refine lv_iload_n hx hb dX4_comeBack_10 rfl (lv_at hl 0 rfl) ?_
  refine lv_if_ne (tgt := 18) hx hb dX4_comeBack_11 (by decide) (fun _ => ?_) (fun c1 => absurd c1 (by decide))
  refine lv_aload_n hx hb dX4_comeBack_18 rfl (lv_at hl 1 rfl) ?_
  refine mg_gone K hP dX4_comeBack_19 ?_
  refine lv_iload_n hx hb dX4_comeBack_22 rfl (lv_at hl 2 rfl) ?_
  refine mr_ald K hP (by decide) (by decide) (n := 10) rfl (by omega) (by decide) dX4_comeBack_23 ?_
  refine lv_if_ne (tgt := 31) hx hb dX4_comeBack_24 (by decide) (fun c2 => absurd hg c2) (fun _ => ?_)
  refine lv_iconst (v := 2) hx hb dX4_comeBack_27 (by decide) ?_
  refine lv_goto (tgt := 32) hx hb dX4_comeBack_28 (by decide) ?_
  refine m_callt (rest := []) K hP hS (c_X4_holds l Z am hinj h 2) ok_X4_87 rfl ⟨Nat.le_of_ble_eq_true rfl, Nat.le_of_ble_eq_true rfl⟩ rfl hl.1 (Nat.le_of_ble_eq_true rfl) ⟨Nat.le_of_ble_eq_true rfl, Nat.le_of_ble_eq_true rfl⟩ dX4_comeBack_32 (by decide) (fun H locs hP hS => ?_)
  obtain ⟨h3, e3⟩ : ∃ z : St, z = (u2 h 0 3 2) := ⟨_, rfl⟩
  rw [← e3] at hP
  refine lv_if_eq (tgt := 40) hx hb dX4_comeBack_35 (by decide) (fun c4 => absurd c4 (by decide)) (fun _ => ?_)
  refine lv_iconst (v := (-1)) hx hb dX4_comeBack_38 (by decide) ?_
  exact fx_reti hx hb hr hlocks hP hS (Nat.le_of_ble_eq_true rfl) (Nat.le_of_ble_eq_true rfl) dX4_comeBack_39 ⟨rfl, e3⟩
end
section
/-! ===== more of the model ===== -/
theorem isF_t {x : Int32} {fc i : Nat} (h : x = nI fc) (h6 : fc ≤ 20) (hi : i < fc) : (0 : Int32) ≤ nI i ∧ nI i ≤ x - 1 := isR_t h (by omega) hi
theorem isF_f {x r : Int32} {fc : Nat} (h : x = nI fc) (h6 : fc ≤ 20) (hr : bad r fc) : ¬ ((0 : Int32) ≤ r ∧ r ≤ x - 1) := isR_f h (by omega) hr
theorem nbad2 {x t f : Int32} {fc : Nat} (h : x = nI fc) (h6 : fc ≤ 20) (h1 : 0 ≤ t ∧ t ≤ 9) (h2 : 0 ≤ f ∧ f ≤ x - 1) : ¬ (bad t 10 ∨ bad f fc) := by
  rintro (h9 | h9)
  · exact nix9 h9 h1
  · exact isF_f h h6 h9 h2
theorem nbadS {x y r f : Int32} {rc fc : Nat} (h : x = nI rc) (h6 : rc ≤ 60) (k : y = nI fc) (k6 : fc ≤ 20) (h1 : 0 ≤ r ∧ r ≤ x - 1) (h2 : 0 ≤ f ∧ f ≤ y - 1) : ¬ (bad r rc ∨ bad f fc) := by
  rintro (h9 | h9)
  · exact isR_f h h6 h9 h1
  · exact isF_f k k6 h9 h2
/-- what a shop owes, of the first receipts -/
def dbt (h : St) (a : Nat) : Nat → Int32
  | 0 => 0
  | n + 1 => dbt h a n + (if h 2 n = nI a ∧ ¬ h 7 n = 4 then h 5 n else 0)
/-- the model's seat bit -/
abbrev mS (h : St) (f t : Nat) : Prop := (h 13 f >>> (nI t &&& 31)) &&& 1 = 1
def ml (h : St) (f : Nat) : Nat → Int32
  | 0 => h 12 f
  | n + 1 => ml h f n - (if mS h f n then 1 else 0)
def cAb (h : St) (f : Nat) : Nat → Int32
  | 0 => 0
  | n + 1 => cAb h f n + (if h 15 n = nI f then 1 else 0)
/-- a receipt's stamp holds for a ferry -/
abbrev stF (h : St) (t f n : Nat) : Prop := h 7 n = 1 ∧ h 8 n = nI f ∧ h 3 n = nI t
def cRo (h : St) (t f n : Nat) : St := fun k i => if i < n ∧ stF h t f i ∧ (k = 7 ∨ k = 8) then (if k = 7 then 0 else -1) else h k i
def nRo (h : St) (t f : Nat) : Nat → Nat
  | 0 => 0
  | n + 1 => nRo h t f n + (if stF h t f n then 1 else 0)
theorem cRo_0 (h : St) (t f : Nat) : cRo h t f 0 = h := by
  funext k i
  simp [cRo]
theorem cRo_at (h : St) (t f n k : Nat) : cRo h t f n k n = h k n := by simp [cRo]
theorem cRo_k {h : St} {t f n k : Nat} (h1 : k ≠ 7) (h2 : k ≠ 8) : cRo h t f n k = h k := by
  funext i
  simp [cRo, h1, h2]
theorem cRo_n {h : St} {t f n : Nat} (hn : ¬ stF (cRo h t f n) t f n) : cRo h t f n = cRo h t f (n + 1) := by
  simp only [stF, cRo_at] at hn
  funext k i
  unfold cRo
  by_cases h1 : i < n
  · simp [h1, Nat.lt_succ_of_lt h1]
  · by_cases h2 : i = n
    · subst h2
      simp [stF, hn]
    · simp [h1, show ¬ i < n + 1 by omega]
theorem cRo_s {h : St} {t f n : Nat} (h1 : cRo h t f n 7 n = 1) (h2 : cRo h t f n 8 n = nI f) (h3 : cRo h t f n 3 n = nI t) : u2 (u2 (cRo h t f n) 7 n 0) 8 n (-1) = cRo h t f (n + 1) := by
  rw [cRo_at] at h1 h2 h3
  funext k i
  simp only [u2_at]
  by_cases hi : i = n
  · subst hi
    by_cases h8 : k = 8
    · subst h8
      simp [cRo, stF, h1, h2, h3]
    · by_cases h7 : k = 7
      · subst h7
        simp [cRo, stF, h1, h2, h3]
      · simp [cRo, h7, h8]
  · simp only [hi, and_false, if_false]
    unfold cRo
    by_cases hn : i < n
    · simp [hn, Nat.lt_succ_of_lt hn]
    · simp [hn, show ¬ i < n + 1 by omega]
theorem nRo_t {h : St} {t f n : Nat} (h1 : cRo h t f n 7 n = 1) (h2 : cRo h t f n 8 n = nI f) (h3 : cRo h t f n 3 n = nI t) : nRo h t f (n + 1) = nRo h t f n + 1 := by
  rw [cRo_at] at h1 h2 h3
  simp [nRo, stF, h1, h2, h3]
theorem nRo_f {h : St} {t f n : Nat} (hn : ¬ stF (cRo h t f n) t f n) : nRo h t f (n + 1) = nRo h t f n := by
  simp only [stF, cRo_at] at hn
  simp [nRo, stF, hn]
def its0 (x : Int32) : Int32 := x - (x + 9) / 10
def itsV (h : St) (i t : Nat) : Int32 := if 500 < h 21 t + its0 (h 5 i) then 500 - h 21 t else its0 (h 5 i)
def payS (h : St) (i t : Nat) : St := u2 (u2 (u2 (u2 h 21 t (h 21 t + itsV h i t)) 20 t (h 20 t + itsV h i t)) 9 i (itsV h i t)) 7 i 2
def failS (h : St) (i : Nat) : St := u2 (u2 (u2 h 10 i (h 10 i + 1)) 7 i (if h 10 i + 1 = 2 then 3 else 0)) 8 i (-1)
theorem ok_X4_97 : fx_ok RX4 97 RX4 yX4_hasSeat cX4_hasSeat 3 (some .boolean) 2 := ⟨fx_w 809 (by decide +kernel) rfl, fx_w 806 (by decide +kernel) rfl, fx_w 808 (by decide +kernel) rfl, fx_w 30 (by decide +kernel) rfl, fx_w 41 (by decide +kernel) rfl, by decide +kernel⟩
theorem ok_X4_101 : fx_ok RX4 101 RX4 yX4_isFerry cX4_isFerry 2 (some .boolean) 1 := ⟨fx_w 801 (by decide +kernel) rfl, fx_w 798 (by decide +kernel) rfl, fx_w 800 (by decide +kernel) rfl, fx_w 28 (by decide +kernel) rfl, fx_w 41 (by decide +kernel) rfl, by decide +kernel⟩
theorem ok_X4_104 : fx_ok RX4 104 RX4 yX4_left cX4_left 4 (some .int) 1 := ⟨fx_w 805 (by decide +kernel) rfl, fx_w 802 (by decide +kernel) rfl, fx_w 804 (by decide +kernel) rfl, fx_w 29 (by decide +kernel) rfl, fx_w 41 (by decide +kernel) rfl, by decide +kernel⟩
set_option maxHeartbeats 4000000 in
set_option maxRecDepth 100000 in
theorem c_X4_ofReceipt_0 (l : Launch) (Z : fx_Z) (am : Nat → Nat) (hinj : fx_inj 22 am) (h : St) (rc : Nat) (i : Nat) (hi : i < rc) (hrc : h 0 0 = nI rc) (hr6 : rc ≤ 60) : fx_C l Z yX4_ofReceipt cX4_ofReceipt 3 (some .int) 2 44 0 0 22 am (mF am (Z.2.1 0)) h [.ref (am 0), .int (nI i), .int 0] (pI (h 7 i) (u2 h 0 3 0)) (fun _ => False) := by
  intro sz
  refine vx_ofW (cc := cX4_ofReceipt) (maxL := 3) (ret := (some .int)) (by decide) rfl ?_
  intro p e s m args below meth c s₁ B hml hout hv
  obtain ⟨rfl, hsz, hP, hE, hSt⟩ := hv
  subst hsz
  have hx := B.exec
  have hb := B.bytes
  have hr := B.returns
  have hown : s.vm.findClass RX4 = some m.cls := findClass_of_methodNamed B.named
  have hlocks := B.notSynchronized
  have K : m_K p s m ([.ref (am 0), .int (nI i), .int 0] : List Value).toArray c cX4_ofReceipt 3 Z am := ⟨hx, hb, hml, hown, fun w hw => atoms_spec (ws := fx_l yX4_ofReceipt cX4_ofReceipt 3 (some .int)) B.pre w (List.mem_cons_of_mem _ hw), hE, hSt, hinj⟩
  have hS : va_S (fx_A 22 am s.heap.size) s.heap s.heap [] := va_S.rf
  have hl := lv_entry ([.ref (am 0), .int (nI i), .int 0]) (n := 3) (Nat.le_of_ble_eq_true rfl)
  rw [lg_entry_eq]
  generalize (lg_sl ([.ref (am 0), .int (nI i), .int 0]) ++ List.replicate (3 - (lg_sl ([.ref (am 0), .int (nI i), .int 0])).length) Slot.unset).toArray = ls at hl ⊢
  have hl : lv_has ls 3 [(0, .ref (am 0)), (1, .int (nI i)), (2, .int 0)] := hl
  refine lv_aload_n hx hb dX4_ofReceipt_0 rfl (lv_at hl 0 rfl) ?_
  refine lv_aload_n hx hb dX4_ofReceipt_1 rfl (lv_at hl 0 rfl) ?_
  refine lv_iload_n hx hb dX4_ofReceipt_2 rfl (lv_at hl 1 rfl) ?_
  refine m_callt (rest := [.ref (am 0)]) K hP hS (c_X4_isReceipt l Z am hinj h (nI i)) ok_X4_94 rfl ⟨Nat.le_of_ble_eq_true rfl, Nat.le_of_ble_eq_true rfl⟩ rfl hl.1 (Nat.le_of_ble_eq_true rfl) ⟨Nat.le_of_ble_eq_true rfl, Nat.le_of_ble_eq_true rfl⟩ dX4_ofReceipt_3 (isR_t hrc hr6 hi) (fun H locs hP hS => ?_)
  refine lv_if_ne (tgt := 13) hx hb dX4_ofReceipt_6 (by decide) (fun _ => ?_) (fun c1 => absurd c1 (by decide))
  refine lv_aload_n hx hb dX4_ofReceipt_13 rfl (lv_at hl 0 rfl) ?_
  refine lv_iload_n hx hb dX4_ofReceipt_14 rfl (lv_at hl 2 rfl) ?_
  refine lv_iconst (v := 0) hx hb dX4_ofReceipt_15 (by decide) ?_
  refine lv_iconst (v := 3) hx hb dX4_ofReceipt_16 (by decide) ?_
  refine m_callt (rest := [.ref (am 0)]) K hP hS (c_X4_in l Z am hinj h 0 0 3) ok_X4_80 rfl ⟨Nat.le_of_ble_eq_true rfl, Nat.le_of_ble_eq_true rfl⟩ rfl hl.1 (Nat.le_of_ble_eq_true rfl) ⟨Nat.le_of_ble_eq_true rfl, Nat.le_of_ble_eq_true rfl⟩ dX4_ofReceipt_17 (by decide) (fun H locs hP hS => ?_)
  refine lv_if_eq (tgt := 27) hx hb dX4_ofReceipt_20 (by decide) (fun c2 => absurd c2 (by decide)) (fun _ => ?_)
  refine lv_iconst (v := 0) hx hb dX4_ofReceipt_23 (by decide) ?_
  refine lv_goto (tgt := 28) hx hb dX4_ofReceipt_24 (by decide) ?_
  refine m_callf (rest := []) K hP hS (c_X4_holds l Z am hinj h 0) ok_X4_87 rfl ⟨Nat.le_of_ble_eq_true rfl, Nat.le_of_ble_eq_true rfl⟩ rfl hl.1 (Nat.le_of_ble_eq_true rfl) ⟨Nat.le_of_ble_eq_true rfl, Nat.le_of_ble_eq_true rfl⟩ dX4_ofReceipt_28 (by decide) (fun H locs hP hS => ?_)
  obtain ⟨h3, e3⟩ : ∃ z : St, z = (u2 h 0 3 0) := ⟨_, rfl⟩
  rw [← e3] at hP
  refine lv_if_eq (tgt := 36) hx hb dX4_ofReceipt_31 (by decide) (fun _ => ?_) (fun c4 => absurd (by decide) c4)
  refine lv_iload_n hx hb dX4_ofReceipt_36 rfl (lv_at hl 2 rfl) ?_
  refine lv_if_ne (tgt := 49) hx hb dX4_ofReceipt_37 (by decide) (fun c5 => absurd (by decide) c5) (fun _ => ?_)
  refine lv_aload_n hx hb dX4_ofReceipt_40 rfl (lv_at hl 0 rfl) ?_
  refine mg_rk K hP dX4_ofReceipt_41 ?_
  refine lv_iload_n hx hb dX4_ofReceipt_44 rfl (lv_at hl 1 rfl) ?_
  refine mr_ald K hP (by decide) (by decide) (n := 60) rfl (by omega) (by decide) dX4_ofReceipt_45 ?_
  rw [show h3 7 i = h 7 i from by simp [u2_at, e3]]
  refine lv_goto (tgt := 83) hx hb dX4_ofReceipt_46 (by decide) ?_
  exact fx_reti hx hb hr hlocks hP hS (Nat.le_of_ble_eq_true rfl) (Nat.le_of_ble_eq_true rfl) dX4_ofReceipt_83 ⟨rfl, by simp only [e3]⟩

set_option maxHeartbeats 4000000 in
set_option maxRecDepth 100000 in
theorem c_X4_ofReceipt_1 (l : Launch) (Z : fx_Z) (am : Nat → Nat) (hinj : fx_inj 22 am) (h : St) (rc : Nat) (i : Nat) (hi : i < rc) (hrc : h 0 0 = nI rc) (hr6 : rc ≤ 60) : fx_C l Z yX4_ofReceipt cX4_ofReceipt 3 (some .int) 2 44 0 0 22 am (mF am (Z.2.1 0)) h [.ref (am 0), .int (nI i), .int 1] (pI (h 5 i) (u2 h 0 3 0)) (fun _ => False) := by
  intro sz
  refine vx_ofW (cc := cX4_ofReceipt) (maxL := 3) (ret := (some .int)) (by decide) rfl ?_
  intro p e s m args below meth c s₁ B hml hout hv
  obtain ⟨rfl, hsz, hP, hE, hSt⟩ := hv
  subst hsz
  have hx := B.exec
  have hb := B.bytes
  have hr := B.returns
  have hown : s.vm.findClass RX4 = some m.cls := findClass_of_methodNamed B.named
  have hlocks := B.notSynchronized
  have K : m_K p s m ([.ref (am 0), .int (nI i), .int 1] : List Value).toArray c cX4_ofReceipt 3 Z am := ⟨hx, hb, hml, hown, fun w hw => atoms_spec (ws := fx_l yX4_ofReceipt cX4_ofReceipt 3 (some .int)) B.pre w (List.mem_cons_of_mem _ hw), hE, hSt, hinj⟩
  have hS : va_S (fx_A 22 am s.heap.size) s.heap s.heap [] := va_S.rf
  have hl := lv_entry ([.ref (am 0), .int (nI i), .int 1]) (n := 3) (Nat.le_of_ble_eq_true rfl)
  rw [lg_entry_eq]
  generalize (lg_sl ([.ref (am 0), .int (nI i), .int 1]) ++ List.replicate (3 - (lg_sl ([.ref (am 0), .int (nI i), .int 1])).length) Slot.unset).toArray = ls at hl ⊢
  have hl : lv_has ls 3 [(0, .ref (am 0)), (1, .int (nI i)), (2, .int 1)] := hl
  refine lv_aload_n hx hb dX4_ofReceipt_0 rfl (lv_at hl 0 rfl) ?_
  refine lv_aload_n hx hb dX4_ofReceipt_1 rfl (lv_at hl 0 rfl) ?_
  refine lv_iload_n hx hb dX4_ofReceipt_2 rfl (lv_at hl 1 rfl) ?_
  refine m_callt (rest := [.ref (am 0)]) K hP hS (c_X4_isReceipt l Z am hinj h (nI i)) ok_X4_94 rfl ⟨Nat.le_of_ble_eq_true rfl, Nat.le_of_ble_eq_true rfl⟩ rfl hl.1 (Nat.le_of_ble_eq_true rfl) ⟨Nat.le_of_ble_eq_true rfl, Nat.le_of_ble_eq_true rfl⟩ dX4_ofReceipt_3 (isR_t hrc hr6 hi) (fun H locs hP hS => ?_)
  refine lv_if_ne (tgt := 13) hx hb dX4_ofReceipt_6 (by decide) (fun _ => ?_) (fun c1 => absurd c1 (by decide))
  refine lv_aload_n hx hb dX4_ofReceipt_13 rfl (lv_at hl 0 rfl) ?_
  refine lv_iload_n hx hb dX4_ofReceipt_14 rfl (lv_at hl 2 rfl) ?_
  refine lv_iconst (v := 0) hx hb dX4_ofReceipt_15 (by decide) ?_
  refine lv_iconst (v := 3) hx hb dX4_ofReceipt_16 (by decide) ?_
  refine m_callt (rest := [.ref (am 0)]) K hP hS (c_X4_in l Z am hinj h 1 0 3) ok_X4_80 rfl ⟨Nat.le_of_ble_eq_true rfl, Nat.le_of_ble_eq_true rfl⟩ rfl hl.1 (Nat.le_of_ble_eq_true rfl) ⟨Nat.le_of_ble_eq_true rfl, Nat.le_of_ble_eq_true rfl⟩ dX4_ofReceipt_17 (by decide) (fun H locs hP hS => ?_)
  refine lv_if_eq (tgt := 27) hx hb dX4_ofReceipt_20 (by decide) (fun c2 => absurd c2 (by decide)) (fun _ => ?_)
  refine lv_iconst (v := 0) hx hb dX4_ofReceipt_23 (by decide) ?_
  refine lv_goto (tgt := 28) hx hb dX4_ofReceipt_24 (by decide) ?_
  refine m_callf (rest := []) K hP hS (c_X4_holds l Z am hinj h 0) ok_X4_87 rfl ⟨Nat.le_of_ble_eq_true rfl, Nat.le_of_ble_eq_true rfl⟩ rfl hl.1 (Nat.le_of_ble_eq_true rfl) ⟨Nat.le_of_ble_eq_true rfl, Nat.le_of_ble_eq_true rfl⟩ dX4_ofReceipt_28 (by decide) (fun H locs hP hS => ?_)
  obtain ⟨h3, e3⟩ : ∃ z : St, z = (u2 h 0 3 0) := ⟨_, rfl⟩
  rw [← e3] at hP
  refine lv_if_eq (tgt := 36) hx hb dX4_ofReceipt_31 (by decide) (fun _ => ?_) (fun c4 => absurd (by decide) c4)
  refine lv_iload_n hx hb dX4_ofReceipt_36 rfl (lv_at hl 2 rfl) ?_
  refine lv_if_ne (tgt := 49) hx hb dX4_ofReceipt_37 (by decide) (fun _ => ?_) (fun c5 => absurd c5 (by decide))
  refine lv_iload_n hx hb dX4_ofReceipt_49 rfl (lv_at hl 2 rfl) ?_
  refine lv_iconst (v := 1) hx hb dX4_ofReceipt_50 (by decide) ?_
  refine lv_icmp_ne (tgt := 63) hx hb dX4_ofReceipt_51 (by decide) (fun c6 => absurd (by decide) c6) (fun _ => ?_)
  refine lv_aload_n hx hb dX4_ofReceipt_54 rfl (lv_at hl 0 rfl) ?_
  refine mg_rx K hP dX4_ofReceipt_55 ?_
  refine lv_iload_n hx hb dX4_ofReceipt_58 rfl (lv_at hl 1 rfl) ?_
  refine mr_ald K hP (by decide) (by decide) (n := 60) rfl (by omega) (by decide) dX4_ofReceipt_59 ?_
  rw [show h3 5 i = h 5 i from by simp [u2_at, e3]]
  refine lv_goto (tgt := 83) hx hb dX4_ofReceipt_60 (by decide) ?_
  exact fx_reti hx hb hr hlocks hP hS (Nat.le_of_ble_eq_true rfl) (Nat.le_of_ble_eq_true rfl) dX4_ofReceipt_83 ⟨rfl, by simp only [e3]⟩

set_option maxHeartbeats 4000000 in
set_option maxRecDepth 100000 in
theorem c_X4_ofReceipt_2 (l : Launch) (Z : fx_Z) (am : Nat → Nat) (hinj : fx_inj 22 am) (h : St) (rc : Nat) (i : Nat) (hi : i < rc) (hrc : h 0 0 = nI rc) (hr6 : rc ≤ 60) : fx_C l Z yX4_ofReceipt cX4_ofReceipt 3 (some .int) 2 44 0 0 22 am (mF am (Z.2.1 0)) h [.ref (am 0), .int (nI i), .int 2] (pI (h 9 i) (u2 h 0 3 0)) (fun _ => False) := by
  intro sz
  refine vx_ofW (cc := cX4_ofReceipt) (maxL := 3) (ret := (some .int)) (by decide) rfl ?_
  intro p e s m args below meth c s₁ B hml hout hv
  obtain ⟨rfl, hsz, hP, hE, hSt⟩ := hv
  subst hsz
  have hx := B.exec
  have hb := B.bytes
  have hr := B.returns
  have hown : s.vm.findClass RX4 = some m.cls := findClass_of_methodNamed B.named
  have hlocks := B.notSynchronized
  have K : m_K p s m ([.ref (am 0), .int (nI i), .int 2] : List Value).toArray c cX4_ofReceipt 3 Z am := ⟨hx, hb, hml, hown, fun w hw => atoms_spec (ws := fx_l yX4_ofReceipt cX4_ofReceipt 3 (some .int)) B.pre w (List.mem_cons_of_mem _ hw), hE, hSt, hinj⟩
  have hS : va_S (fx_A 22 am s.heap.size) s.heap s.heap [] := va_S.rf
  have hl := lv_entry ([.ref (am 0), .int (nI i), .int 2]) (n := 3) (Nat.le_of_ble_eq_true rfl)
  rw [lg_entry_eq]
  generalize (lg_sl ([.ref (am 0), .int (nI i), .int 2]) ++ List.replicate (3 - (lg_sl ([.ref (am 0), .int (nI i), .int 2])).length) Slot.unset).toArray = ls at hl ⊢
  have hl : lv_has ls 3 [(0, .ref (am 0)), (1, .int (nI i)), (2, .int 2)] := hl
  refine lv_aload_n hx hb dX4_ofReceipt_0 rfl (lv_at hl 0 rfl) ?_
  refine lv_aload_n hx hb dX4_ofReceipt_1 rfl (lv_at hl 0 rfl) ?_
  refine lv_iload_n hx hb dX4_ofReceipt_2 rfl (lv_at hl 1 rfl) ?_
  refine m_callt (rest := [.ref (am 0)]) K hP hS (c_X4_isReceipt l Z am hinj h (nI i)) ok_X4_94 rfl ⟨Nat.le_of_ble_eq_true rfl, Nat.le_of_ble_eq_true rfl⟩ rfl hl.1 (Nat.le_of_ble_eq_true rfl) ⟨Nat.le_of_ble_eq_true rfl, Nat.le_of_ble_eq_true rfl⟩ dX4_ofReceipt_3 (isR_t hrc hr6 hi) (fun H locs hP hS => ?_)
  refine lv_if_ne (tgt := 13) hx hb dX4_ofReceipt_6 (by decide) (fun _ => ?_) (fun c1 => absurd c1 (by decide))
  refine lv_aload_n hx hb dX4_ofReceipt_13 rfl (lv_at hl 0 rfl) ?_
  refine lv_iload_n hx hb dX4_ofReceipt_14 rfl (lv_at hl 2 rfl) ?_
  refine lv_iconst (v := 0) hx hb dX4_ofReceipt_15 (by decide) ?_
  refine lv_iconst (v := 3) hx hb dX4_ofReceipt_16 (by decide) ?_
  refine m_callt (rest := [.ref (am 0)]) K hP hS (c_X4_in l Z am hinj h 2 0 3) ok_X4_80 rfl ⟨Nat.le_of_ble_eq_true rfl, Nat.le_of_ble_eq_true rfl⟩ rfl hl.1 (Nat.le_of_ble_eq_true rfl) ⟨Nat.le_of_ble_eq_true rfl, Nat.le_of_ble_eq_true rfl⟩ dX4_ofReceipt_17 (by decide) (fun H locs hP hS => ?_)
  refine lv_if_eq (tgt := 27) hx hb dX4_ofReceipt_20 (by decide) (fun c2 => absurd c2 (by decide)) (fun _ => ?_)
  refine lv_iconst (v := 0) hx hb dX4_ofReceipt_23 (by decide) ?_
  refine lv_goto (tgt := 28) hx hb dX4_ofReceipt_24 (by decide) ?_
  refine m_callf (rest := []) K hP hS (c_X4_holds l Z am hinj h 0) ok_X4_87 rfl ⟨Nat.le_of_ble_eq_true rfl, Nat.le_of_ble_eq_true rfl⟩ rfl hl.1 (Nat.le_of_ble_eq_true rfl) ⟨Nat.le_of_ble_eq_true rfl, Nat.le_of_ble_eq_true rfl⟩ dX4_ofReceipt_28 (by decide) (fun H locs hP hS => ?_)
  obtain ⟨h3, e3⟩ : ∃ z : St, z = (u2 h 0 3 0) := ⟨_, rfl⟩
  rw [← e3] at hP
  refine lv_if_eq (tgt := 36) hx hb dX4_ofReceipt_31 (by decide) (fun _ => ?_) (fun c4 => absurd (by decide) c4)
  refine lv_iload_n hx hb dX4_ofReceipt_36 rfl (lv_at hl 2 rfl) ?_
  refine lv_if_ne (tgt := 49) hx hb dX4_ofReceipt_37 (by decide) (fun _ => ?_) (fun c5 => absurd c5 (by decide))
  refine lv_iload_n hx hb dX4_ofReceipt_49 rfl (lv_at hl 2 rfl) ?_
  refine lv_iconst (v := 1) hx hb dX4_ofReceipt_50 (by decide) ?_
  refine lv_icmp_ne (tgt := 63) hx hb dX4_ofReceipt_51 (by decide) (fun _ => ?_) (fun c6 => absurd c6 (by decide))
  refine lv_iload_n hx hb dX4_ofReceipt_63 rfl (lv_at hl 2 rfl) ?_
  refine lv_iconst (v := 2) hx hb dX4_ofReceipt_64 (by decide) ?_
  refine lv_icmp_ne (tgt := 77) hx hb dX4_ofReceipt_65 (by decide) (fun c7 => absurd (by decide) c7) (fun _ => ?_)
  refine lv_aload_n hx hb dX4_ofReceipt_68 rfl (lv_at hl 0 rfl) ?_
  refine mg_rr K hP dX4_ofReceipt_69 ?_
  refine lv_iload_n hx hb dX4_ofReceipt_72 rfl (lv_at hl 1 rfl) ?_
  refine mr_ald K hP (by decide) (by decide) (n := 60) rfl (by omega) (by decide) dX4_ofReceipt_73 ?_
  rw [show h3 9 i = h 9 i from by simp [u2_at, e3]]
  refine lv_goto (tgt := 83) hx hb dX4_ofReceipt_74 (by decide) ?_
  exact fx_reti hx hb hr hlocks hP hS (Nat.le_of_ble_eq_true rfl) (Nat.le_of_ble_eq_true rfl) dX4_ofReceipt_83 ⟨rfl, by simp only [e3]⟩

set_option maxHeartbeats 4000000 in
set_option maxRecDepth 100000 in
theorem c_X4_ofReceipt_3 (l : Launch) (Z : fx_Z) (am : Nat → Nat) (hinj : fx_inj 22 am) (h : St) (rc : Nat) (i : Nat) (hi : i < rc) (hrc : h 0 0 = nI rc) (hr6 : rc ≤ 60) : fx_C l Z yX4_ofReceipt cX4_ofReceipt 3 (some .int) 2 44 0 0 22 am (mF am (Z.2.1 0)) h [.ref (am 0), .int (nI i), .int 3] (pI (h 8 i) (u2 h 0 3 0)) (fun _ => False) := by
  intro sz
  refine vx_ofW (cc := cX4_ofReceipt) (maxL := 3) (ret := (some .int)) (by decide) rfl ?_
  intro p e s m args below meth c s₁ B hml hout hv
  obtain ⟨rfl, hsz, hP, hE, hSt⟩ := hv
  subst hsz
  have hx := B.exec
  have hb := B.bytes
  have hr := B.returns
  have hown : s.vm.findClass RX4 = some m.cls := findClass_of_methodNamed B.named
  have hlocks := B.notSynchronized
  have K : m_K p s m ([.ref (am 0), .int (nI i), .int 3] : List Value).toArray c cX4_ofReceipt 3 Z am := ⟨hx, hb, hml, hown, fun w hw => atoms_spec (ws := fx_l yX4_ofReceipt cX4_ofReceipt 3 (some .int)) B.pre w (List.mem_cons_of_mem _ hw), hE, hSt, hinj⟩
  have hS : va_S (fx_A 22 am s.heap.size) s.heap s.heap [] := va_S.rf
  have hl := lv_entry ([.ref (am 0), .int (nI i), .int 3]) (n := 3) (Nat.le_of_ble_eq_true rfl)
  rw [lg_entry_eq]
  generalize (lg_sl ([.ref (am 0), .int (nI i), .int 3]) ++ List.replicate (3 - (lg_sl ([.ref (am 0), .int (nI i), .int 3])).length) Slot.unset).toArray = ls at hl ⊢
  have hl : lv_has ls 3 [(0, .ref (am 0)), (1, .int (nI i)), (2, .int 3)] := hl
  refine lv_aload_n hx hb dX4_ofReceipt_0 rfl (lv_at hl 0 rfl) ?_
  refine lv_aload_n hx hb dX4_ofReceipt_1 rfl (lv_at hl 0 rfl) ?_
  refine lv_iload_n hx hb dX4_ofReceipt_2 rfl (lv_at hl 1 rfl) ?_
  refine m_callt (rest := [.ref (am 0)]) K hP hS (c_X4_isReceipt l Z am hinj h (nI i)) ok_X4_94 rfl ⟨Nat.le_of_ble_eq_true rfl, Nat.le_of_ble_eq_true rfl⟩ rfl hl.1 (Nat.le_of_ble_eq_true rfl) ⟨Nat.le_of_ble_eq_true rfl, Nat.le_of_ble_eq_true rfl⟩ dX4_ofReceipt_3 (isR_t hrc hr6 hi) (fun H locs hP hS => ?_)
  refine lv_if_ne (tgt := 13) hx hb dX4_ofReceipt_6 (by decide) (fun _ => ?_) (fun c1 => absurd c1 (by decide))
  refine lv_aload_n hx hb dX4_ofReceipt_13 rfl (lv_at hl 0 rfl) ?_
  refine lv_iload_n hx hb dX4_ofReceipt_14 rfl (lv_at hl 2 rfl) ?_
  refine lv_iconst (v := 0) hx hb dX4_ofReceipt_15 (by decide) ?_
  refine lv_iconst (v := 3) hx hb dX4_ofReceipt_16 (by decide) ?_
  refine m_callt (rest := [.ref (am 0)]) K hP hS (c_X4_in l Z am hinj h 3 0 3) ok_X4_80 rfl ⟨Nat.le_of_ble_eq_true rfl, Nat.le_of_ble_eq_true rfl⟩ rfl hl.1 (Nat.le_of_ble_eq_true rfl) ⟨Nat.le_of_ble_eq_true rfl, Nat.le_of_ble_eq_true rfl⟩ dX4_ofReceipt_17 (by decide) (fun H locs hP hS => ?_)
  refine lv_if_eq (tgt := 27) hx hb dX4_ofReceipt_20 (by decide) (fun c2 => absurd c2 (by decide)) (fun _ => ?_)
  refine lv_iconst (v := 0) hx hb dX4_ofReceipt_23 (by decide) ?_
  refine lv_goto (tgt := 28) hx hb dX4_ofReceipt_24 (by decide) ?_
  refine m_callf (rest := []) K hP hS (c_X4_holds l Z am hinj h 0) ok_X4_87 rfl ⟨Nat.le_of_ble_eq_true rfl, Nat.le_of_ble_eq_true rfl⟩ rfl hl.1 (Nat.le_of_ble_eq_true rfl) ⟨Nat.le_of_ble_eq_true rfl, Nat.le_of_ble_eq_true rfl⟩ dX4_ofReceipt_28 (by decide) (fun H locs hP hS => ?_)
  obtain ⟨h3, e3⟩ : ∃ z : St, z = (u2 h 0 3 0) := ⟨_, rfl⟩
  rw [← e3] at hP
  refine lv_if_eq (tgt := 36) hx hb dX4_ofReceipt_31 (by decide) (fun _ => ?_) (fun c4 => absurd (by decide) c4)
  refine lv_iload_n hx hb dX4_ofReceipt_36 rfl (lv_at hl 2 rfl) ?_
  refine lv_if_ne (tgt := 49) hx hb dX4_ofReceipt_37 (by decide) (fun _ => ?_) (fun c5 => absurd c5 (by decide))
  refine lv_iload_n hx hb dX4_ofReceipt_49 rfl (lv_at hl 2 rfl) ?_
  refine lv_iconst (v := 1) hx hb dX4_ofReceipt_50 (by decide) ?_
  refine lv_icmp_ne (tgt := 63) hx hb dX4_ofReceipt_51 (by decide) (fun _ => ?_) (fun c6 => absurd c6 (by decide))
  refine lv_iload_n hx hb dX4_ofReceipt_63 rfl (lv_at hl 2 rfl) ?_
  refine lv_iconst (v := 2) hx hb dX4_ofReceipt_64 (by decide) ?_
  refine lv_icmp_ne (tgt := 77) hx hb dX4_ofReceipt_65 (by decide) (fun _ => ?_) (fun c7 => absurd c7 (by decide))
  refine lv_aload_n hx hb dX4_ofReceipt_77 rfl (lv_at hl 0 rfl) ?_
  refine mg_rf K hP dX4_ofReceipt_78 ?_
  refine lv_iload_n hx hb dX4_ofReceipt_81 rfl (lv_at hl 1 rfl) ?_
  refine mr_ald K hP (by decide) (by decide) (n := 60) rfl (by omega) (by decide) dX4_ofReceipt_82 ?_
  rw [show h3 8 i = h 8 i from by simp [u2_at, e3]]
  exact fx_reti hx hb hr hlocks hP hS (Nat.le_of_ble_eq_true rfl) (Nat.le_of_ble_eq_true rfl) dX4_ofReceipt_83 ⟨rfl, by simp only [e3]⟩

set_option maxHeartbeats 4000000 in
set_option maxRecDepth 100000 in
theorem c_X4_ofReceipt_e1 (l : Launch) (Z : fx_Z) (am : Nat → Nat) (hinj : fx_inj 22 am) (h : St) (rc : Nat) (r : Int32) (w : Int32) (hrc : h 0 0 = nI rc) (hr6 : rc ≤ 60) (hbr : bad r rc) : fx_C l Z yX4_ofReceipt cX4_ofReceipt 3 (some .int) 2 44 0 0 22 am (mF am (Z.2.1 0)) h [.ref (am 0), .int r, .int w] (pI (-1) (u2 h 0 3 1)) (fun _ => False) := by
  intro sz
  refine vx_ofW (cc := cX4_ofReceipt) (maxL := 3) (ret := (some .int)) (by decide) rfl ?_
  intro p e s m args below meth c s₁ B hml hout hv
  obtain ⟨rfl, hsz, hP, hE, hSt⟩ := hv
  subst hsz
  have hx := B.exec
  have hb := B.bytes
  have hr := B.returns
  have hown : s.vm.findClass RX4 = some m.cls := findClass_of_methodNamed B.named
  have hlocks := B.notSynchronized
  have K : m_K p s m ([.ref (am 0), .int r, .int w] : List Value).toArray c cX4_ofReceipt 3 Z am := ⟨hx, hb, hml, hown, fun w hw => atoms_spec (ws := fx_l yX4_ofReceipt cX4_ofReceipt 3 (some .int)) B.pre w (List.mem_cons_of_mem _ hw), hE, hSt, hinj⟩
  have hS : va_S (fx_A 22 am s.heap.size) s.heap s.heap [] := va_S.rf
  have hl := lv_entry ([.ref (am 0), .int r, .int w]) (n := 3) (Nat.le_of_ble_eq_true rfl)
  rw [lg_entry_eq]
  generalize (lg_sl ([.ref (am 0), .int r, .int w]) ++ List.replicate (3 - (lg_sl ([.ref (am 0), .int r, .int w])).length) Slot.unset).toArray = ls at hl ⊢
  have hl : lv_has ls 3 [(0, .ref (am 0)), (1, .int r), (2, .int w)] := hl
  refine lv_aload_n hx hb dX4_ofReceipt_0 rfl (lv_at hl 0 rfl) ?_
  refine lv_aload_n hx hb dX4_ofReceipt_1 rfl (lv_at hl 0 rfl) ?_
  refine lv_iload_n hx hb dX4_ofReceipt_2 rfl (lv_at hl 1 rfl) ?_
  refine m_callf (rest := [.ref (am 0)]) K hP hS (c_X4_isReceipt l Z am hinj h r) ok_X4_94 rfl ⟨Nat.le_of_ble_eq_true rfl, Nat.le_of_ble_eq_true rfl⟩ rfl hl.1 (Nat.le_of_ble_eq_true rfl) ⟨Nat.le_of_ble_eq_true rfl, Nat.le_of_ble_eq_true rfl⟩ dX4_ofReceipt_3 (isR_f hrc hr6 hbr) (fun H locs hP hS => ?_)
  refine lv_if_ne (tgt := 13) hx hb dX4_ofReceipt_6 (by decide) (fun c1 => absurd (by decide) c1) (fun _ => ?_)
  refine lv_iconst (v := 1) hx hb dX4_ofReceipt_9 (by decide) ?_
  refine lv_goto (tgt := 28) hx hb dX4_ofReceipt_10 (by decide) ?_
  refine m_callt (rest := []) K hP hS (c_X4_holds l Z am hinj h 1) ok_X4_87 rfl ⟨Nat.le_of_ble_eq_true rfl, Nat.le_of_ble_eq_true rfl⟩ rfl hl.1 (Nat.le_of_ble_eq_true rfl) ⟨Nat.le_of_ble_eq_true rfl, Nat.le_of_ble_eq_true rfl⟩ dX4_ofReceipt_28 (by decide) (fun H locs hP hS => ?_)
  obtain ⟨h2, e2⟩ : ∃ z : St, z = (u2 h 0 3 1) := ⟨_, rfl⟩
  rw [← e2] at hP
  refine lv_if_eq (tgt := 36) hx hb dX4_ofReceipt_31 (by decide) (fun c3 => absurd c3 (by decide)) (fun _ => ?_)
  refine lv_iconst (v := (-1)) hx hb dX4_ofReceipt_34 (by decide) ?_
  exact fx_reti hx hb hr hlocks hP hS (Nat.le_of_ble_eq_true rfl) (Nat.le_of_ble_eq_true rfl) dX4_ofReceipt_35 ⟨rfl, e2⟩

set_option maxHeartbeats 4000000 in
set_option maxRecDepth 100000 in
theorem c_X4_ofReceipt_e2 (l : Launch) (Z : fx_Z) (am : Nat → Nat) (hinj : fx_inj 22 am) (h : St) (rc : Nat) (i : Nat) (w : Int32) (hi : i < rc) (hrc : h 0 0 = nI rc) (hr6 : rc ≤ 60) (hw : bad w 4) : fx_C l Z yX4_ofReceipt cX4_ofReceipt 3 (some .int) 2 44 0 0 22 am (mF am (Z.2.1 0)) h [.ref (am 0), .int (nI i), .int w] (pI (-1) (u2 h 0 3 2)) (fun _ => False) := by
  intro sz
  refine vx_ofW (cc := cX4_ofReceipt) (maxL := 3) (ret := (some .int)) (by decide) rfl ?_
  intro p e s m args below meth c s₁ B hml hout hv
  obtain ⟨rfl, hsz, hP, hE, hSt⟩ := hv
  subst hsz
  have hx := B.exec
  have hb := B.bytes
  have hr := B.returns
  have hown : s.vm.findClass RX4 = some m.cls := findClass_of_methodNamed B.named
  have hlocks := B.notSynchronized
  have K : m_K p s m ([.ref (am 0), .int (nI i), .int w] : List Value).toArray c cX4_ofReceipt 3 Z am := ⟨hx, hb, hml, hown, fun w hw => atoms_spec (ws := fx_l yX4_ofReceipt cX4_ofReceipt 3 (some .int)) B.pre w (List.mem_cons_of_mem _ hw), hE, hSt, hinj⟩
  have hS : va_S (fx_A 22 am s.heap.size) s.heap s.heap [] := va_S.rf
  have hl := lv_entry ([.ref (am 0), .int (nI i), .int w]) (n := 3) (Nat.le_of_ble_eq_true rfl)
  rw [lg_entry_eq]
  generalize (lg_sl ([.ref (am 0), .int (nI i), .int w]) ++ List.replicate (3 - (lg_sl ([.ref (am 0), .int (nI i), .int w])).length) Slot.unset).toArray = ls at hl ⊢
  have hl : lv_has ls 3 [(0, .ref (am 0)), (1, .int (nI i)), (2, .int w)] := hl
  refine lv_aload_n hx hb dX4_ofReceipt_0 rfl (lv_at hl 0 rfl) ?_
  refine lv_aload_n hx hb dX4_ofReceipt_1 rfl (lv_at hl 0 rfl) ?_
  refine lv_iload_n hx hb dX4_ofReceipt_2 rfl (lv_at hl 1 rfl) ?_
  refine m_callt (rest := [.ref (am 0)]) K hP hS (c_X4_isReceipt l Z am hinj h (nI i)) ok_X4_94 rfl ⟨Nat.le_of_ble_eq_true rfl, Nat.le_of_ble_eq_true rfl⟩ rfl hl.1 (Nat.le_of_ble_eq_true rfl) ⟨Nat.le_of_ble_eq_true rfl, Nat.le_of_ble_eq_true rfl⟩ dX4_ofReceipt_3 (isR_t hrc hr6 hi) (fun H locs hP hS => ?_)
  refine lv_if_ne (tgt := 13) hx hb dX4_ofReceipt_6 (by decide) (fun _ => ?_) (fun c1 => absurd c1 (by decide))
  refine lv_aload_n hx hb dX4_ofReceipt_13 rfl (lv_at hl 0 rfl) ?_
  refine lv_iload_n hx hb dX4_ofReceipt_14 rfl (lv_at hl 2 rfl) ?_
  refine lv_iconst (v := 0) hx hb dX4_ofReceipt_15 (by decide) ?_
  refine lv_iconst (v := 3) hx hb dX4_ofReceipt_16 (by decide) ?_
  refine m_callf (rest := [.ref (am 0)]) K hP hS (c_X4_in l Z am hinj h w 0 3) ok_X4_80 rfl ⟨Nat.le_of_ble_eq_true rfl, Nat.le_of_ble_eq_true rfl⟩ rfl hl.1 (Nat.le_of_ble_eq_true rfl) ⟨Nat.le_of_ble_eq_true rfl, Nat.le_of_ble_eq_true rfl⟩ dX4_ofReceipt_17 (nix3 hw) (fun H locs hP hS => ?_)
  refine lv_if_eq (tgt := 27) hx hb dX4_ofReceipt_20 (by decide) (fun _ => ?_) (fun c2 => absurd (by decide) c2)
  refine lv_iconst (v := 2) hx hb dX4_ofReceipt_27 (by decide) ?_
  refine m_callt (rest := []) K hP hS (c_X4_holds l Z am hinj h 2) ok_X4_87 rfl ⟨Nat.le_of_ble_eq_true rfl, Nat.le_of_ble_eq_true rfl⟩ rfl hl.1 (Nat.le_of_ble_eq_true rfl) ⟨Nat.le_of_ble_eq_true rfl, Nat.le_of_ble_eq_true rfl⟩ dX4_ofReceipt_28 (by decide) (fun H locs hP hS => ?_)
  obtain ⟨h3, e3⟩ : ∃ z : St, z = (u2 h 0 3 2) := ⟨_, rfl⟩
  rw [← e3] at hP
  refine lv_if_eq (tgt := 36) hx hb dX4_ofReceipt_31 (by decide) (fun c4 => absurd c4 (by decide)) (fun _ => ?_)
  refine lv_iconst (v := (-1)) hx hb dX4_ofReceipt_34 (by decide) ?_
  exact fx_reti hx hb hr hlocks hP hS (Nat.le_of_ble_eq_true rfl) (Nat.le_of_ble_eq_true rfl) dX4_ofReceipt_35 ⟨rfl, e3⟩

set_option maxHeartbeats 4000000 in
set_option maxRecDepth 100000 in
theorem c_X4_ofTraveller_0 (l : Launch) (Z : fx_Z) (am : Nat → Nat) (hinj : fx_inj 22 am) (h : St) (t : Nat) (ht9 : t < 10) : fx_C l Z yX4_ofTraveller cX4_ofTraveller 3 (some .int) 1 23 0 0 22 am (mF am (Z.2.1 0)) h [.ref (am 0), .int (nI t), .int 0] (pI (h 20 t) (u2 h 0 3 0)) (fun _ => False) := by
  intro sz
  refine vx_ofW (cc := cX4_ofTraveller) (maxL := 3) (ret := (some .int)) (by decide) rfl ?_
  intro p e s m args below meth c s₁ B hml hout hv
  obtain ⟨rfl, hsz, hP, hE, hSt⟩ := hv
  subst hsz
  have hx := B.exec
  have hb := B.bytes
  have hr := B.returns
  have hown : s.vm.findClass RX4 = some m.cls := findClass_of_methodNamed B.named
  have hlocks := B.notSynchronized
  have K : m_K p s m ([.ref (am 0), .int (nI t), .int 0] : List Value).toArray c cX4_ofTraveller 3 Z am := ⟨hx, hb, hml, hown, fun w hw => atoms_spec (ws := fx_l yX4_ofTraveller cX4_ofTraveller 3 (some .int)) B.pre w (List.mem_cons_of_mem _ hw), hE, hSt, hinj⟩
  have hS : va_S (fx_A 22 am s.heap.size) s.heap s.heap [] := va_S.rf
  have hl := lv_entry ([.ref (am 0), .int (nI t), .int 0]) (n := 3) (Nat.le_of_ble_eq_true rfl)
  rw [lg_entry_eq]
  generalize (lg_sl ([.ref (am 0), .int (nI t), .int 0]) ++ List.replicate (3 - (lg_sl ([.ref (am 0), .int (nI t), .int 0])).length) Slot.unset).toArray = ls at hl ⊢
  have hl : lv_has ls 3 [(0, .ref (am 0)), (1, .int (nI t)), (2, .int 0)] := hl
  refine lv_aload_n hx hb dX4_ofTraveller_0 rfl (lv_at hl 0 rfl) ?_
  refine lv_aload_n hx hb dX4_ofTraveller_1 rfl (lv_at hl 0 rfl) ?_
  refine lv_iload_n hx hb dX4_ofTraveller_2 rfl (lv_at hl 1 rfl) ?_
  refine lv_iconst (v := 0) hx hb dX4_ofTraveller_3 (by decide) ?_
  refine lv_bipush (v := 9) hx hb dX4_ofTraveller_4 (by decide) ?_
  refine m_callt (rest := [.ref (am 0)]) K hP hS (c_X4_in l Z am hinj h (nI t) 0 9) ok_X4_80 rfl ⟨Nat.le_of_ble_eq_true rfl, Nat.le_of_ble_eq_true rfl⟩ rfl hl.1 (Nat.le_of_ble_eq_true rfl) ⟨Nat.le_of_ble_eq_true rfl, Nat.le_of_ble_eq_true rfl⟩ dX4_ofTraveller_6 (ix9 ht9) (fun H locs hP hS => ?_)
  refine lv_if_ne (tgt := 16) hx hb dX4_ofTraveller_9 (by decide) (fun _ => ?_) (fun c1 => absurd c1 (by decide))
  refine lv_aload_n hx hb dX4_ofTraveller_16 rfl (lv_at hl 0 rfl) ?_
  refine lv_iload_n hx hb dX4_ofTraveller_17 rfl (lv_at hl 2 rfl) ?_
  refine lv_iconst (v := 0) hx hb dX4_ofTraveller_18 (by decide) ?_
  refine lv_iconst (v := 3) hx hb dX4_ofTraveller_19 (by decide) ?_
  refine m_callt (rest := [.ref (am 0)]) K hP hS (c_X4_in l Z am hinj h 0 0 3) ok_X4_80 rfl ⟨Nat.le_of_ble_eq_true rfl, Nat.le_of_ble_eq_true rfl⟩ rfl hl.1 (Nat.le_of_ble_eq_true rfl) ⟨Nat.le_of_ble_eq_true rfl, Nat.le_of_ble_eq_true rfl⟩ dX4_ofTraveller_20 (by decide) (fun H locs hP hS => ?_)
  refine lv_if_eq (tgt := 30) hx hb dX4_ofTraveller_23 (by decide) (fun c2 => absurd c2 (by decide)) (fun _ => ?_)
  refine lv_iconst (v := 0) hx hb dX4_ofTraveller_26 (by decide) ?_
  refine lv_goto (tgt := 31) hx hb dX4_ofTraveller_27 (by decide) ?_
  refine m_callf (rest := []) K hP hS (c_X4_holds l Z am hinj h 0) ok_X4_87 rfl ⟨Nat.le_of_ble_eq_true rfl, Nat.le_of_ble_eq_true rfl⟩ rfl hl.1 (Nat.le_of_ble_eq_true rfl) ⟨Nat.le_of_ble_eq_true rfl, Nat.le_of_ble_eq_true rfl⟩ dX4_ofTraveller_31 (by decide) (fun H locs hP hS => ?_)
  obtain ⟨h3, e3⟩ : ∃ z : St, z = (u2 h 0 3 0) := ⟨_, rfl⟩
  rw [← e3] at hP
  refine lv_if_eq (tgt := 39) hx hb dX4_ofTraveller_34 (by decide) (fun _ => ?_) (fun c4 => absurd (by decide) c4)
  refine lv_iload_n hx hb dX4_ofTraveller_39 rfl (lv_at hl 2 rfl) ?_
  refine lv_if_ne (tgt := 52) hx hb dX4_ofTraveller_40 (by decide) (fun c5 => absurd (by decide) c5) (fun _ => ?_)
  refine lv_aload_n hx hb dX4_ofTraveller_43 rfl (lv_at hl 0 rfl) ?_
  refine mg_refunds K hP dX4_ofTraveller_44 ?_
  refine lv_iload_n hx hb dX4_ofTraveller_47 rfl (lv_at hl 1 rfl) ?_
  refine mr_ald K hP (by decide) (by decide) (n := 10) rfl (by omega) (by decide) dX4_ofTraveller_48 ?_
  rw [show h3 20 t = h 20 t from by simp [u2_at, e3]]
  refine lv_goto (tgt := 86) hx hb dX4_ofTraveller_49 (by decide) ?_
  exact fx_reti hx hb hr hlocks hP hS (Nat.le_of_ble_eq_true rfl) (Nat.le_of_ble_eq_true rfl) dX4_ofTraveller_86 ⟨rfl, by simp only [e3]⟩

set_option maxHeartbeats 4000000 in
set_option maxRecDepth 100000 in
theorem c_X4_ofTraveller_1 (l : Launch) (Z : fx_Z) (am : Nat → Nat) (hinj : fx_inj 22 am) (h : St) (t : Nat) (ht9 : t < 10) : fx_C l Z yX4_ofTraveller cX4_ofTraveller 3 (some .int) 1 23 0 0 22 am (mF am (Z.2.1 0)) h [.ref (am 0), .int (nI t), .int 1] (pI (h 19 t) (u2 h 0 3 0)) (fun _ => False) := by
  intro sz
  refine vx_ofW (cc := cX4_ofTraveller) (maxL := 3) (ret := (some .int)) (by decide) rfl ?_
  intro p e s m args below meth c s₁ B hml hout hv
  obtain ⟨rfl, hsz, hP, hE, hSt⟩ := hv
  subst hsz
  have hx := B.exec
  have hb := B.bytes
  have hr := B.returns
  have hown : s.vm.findClass RX4 = some m.cls := findClass_of_methodNamed B.named
  have hlocks := B.notSynchronized
  have K : m_K p s m ([.ref (am 0), .int (nI t), .int 1] : List Value).toArray c cX4_ofTraveller 3 Z am := ⟨hx, hb, hml, hown, fun w hw => atoms_spec (ws := fx_l yX4_ofTraveller cX4_ofTraveller 3 (some .int)) B.pre w (List.mem_cons_of_mem _ hw), hE, hSt, hinj⟩
  have hS : va_S (fx_A 22 am s.heap.size) s.heap s.heap [] := va_S.rf
  have hl := lv_entry ([.ref (am 0), .int (nI t), .int 1]) (n := 3) (Nat.le_of_ble_eq_true rfl)
  rw [lg_entry_eq]
  generalize (lg_sl ([.ref (am 0), .int (nI t), .int 1]) ++ List.replicate (3 - (lg_sl ([.ref (am 0), .int (nI t), .int 1])).length) Slot.unset).toArray = ls at hl ⊢
  have hl : lv_has ls 3 [(0, .ref (am 0)), (1, .int (nI t)), (2, .int 1)] := hl
  refine lv_aload_n hx hb dX4_ofTraveller_0 rfl (lv_at hl 0 rfl) ?_
  refine lv_aload_n hx hb dX4_ofTraveller_1 rfl (lv_at hl 0 rfl) ?_
  refine lv_iload_n hx hb dX4_ofTraveller_2 rfl (lv_at hl 1 rfl) ?_
  refine lv_iconst (v := 0) hx hb dX4_ofTraveller_3 (by decide) ?_
  refine lv_bipush (v := 9) hx hb dX4_ofTraveller_4 (by decide) ?_
  refine m_callt (rest := [.ref (am 0)]) K hP hS (c_X4_in l Z am hinj h (nI t) 0 9) ok_X4_80 rfl ⟨Nat.le_of_ble_eq_true rfl, Nat.le_of_ble_eq_true rfl⟩ rfl hl.1 (Nat.le_of_ble_eq_true rfl) ⟨Nat.le_of_ble_eq_true rfl, Nat.le_of_ble_eq_true rfl⟩ dX4_ofTraveller_6 (ix9 ht9) (fun H locs hP hS => ?_)
  refine lv_if_ne (tgt := 16) hx hb dX4_ofTraveller_9 (by decide) (fun _ => ?_) (fun c1 => absurd c1 (by decide))
  refine lv_aload_n hx hb dX4_ofTraveller_16 rfl (lv_at hl 0 rfl) ?_
  refine lv_iload_n hx hb dX4_ofTraveller_17 rfl (lv_at hl 2 rfl) ?_
  refine lv_iconst (v := 0) hx hb dX4_ofTraveller_18 (by decide) ?_
  refine lv_iconst (v := 3) hx hb dX4_ofTraveller_19 (by decide) ?_
  refine m_callt (rest := [.ref (am 0)]) K hP hS (c_X4_in l Z am hinj h 1 0 3) ok_X4_80 rfl ⟨Nat.le_of_ble_eq_true rfl, Nat.le_of_ble_eq_true rfl⟩ rfl hl.1 (Nat.le_of_ble_eq_true rfl) ⟨Nat.le_of_ble_eq_true rfl, Nat.le_of_ble_eq_true rfl⟩ dX4_ofTraveller_20 (by decide) (fun H locs hP hS => ?_)
  refine lv_if_eq (tgt := 30) hx hb dX4_ofTraveller_23 (by decide) (fun c2 => absurd c2 (by decide)) (fun _ => ?_)
  refine lv_iconst (v := 0) hx hb dX4_ofTraveller_26 (by decide) ?_
  refine lv_goto (tgt := 31) hx hb dX4_ofTraveller_27 (by decide) ?_
  refine m_callf (rest := []) K hP hS (c_X4_holds l Z am hinj h 0) ok_X4_87 rfl ⟨Nat.le_of_ble_eq_true rfl, Nat.le_of_ble_eq_true rfl⟩ rfl hl.1 (Nat.le_of_ble_eq_true rfl) ⟨Nat.le_of_ble_eq_true rfl, Nat.le_of_ble_eq_true rfl⟩ dX4_ofTraveller_31 (by decide) (fun H locs hP hS => ?_)
  obtain ⟨h3, e3⟩ : ∃ z : St, z = (u2 h 0 3 0) := ⟨_, rfl⟩
  rw [← e3] at hP
  refine lv_if_eq (tgt := 39) hx hb dX4_ofTraveller_34 (by decide) (fun _ => ?_) (fun c4 => absurd (by decide) c4)
  refine lv_iload_n hx hb dX4_ofTraveller_39 rfl (lv_at hl 2 rfl) ?_
  refine lv_if_ne (tgt := 52) hx hb dX4_ofTraveller_40 (by decide) (fun _ => ?_) (fun c5 => absurd c5 (by decide))
  refine lv_iload_n hx hb dX4_ofTraveller_52 rfl (lv_at hl 2 rfl) ?_
  refine lv_iconst (v := 1) hx hb dX4_ofTraveller_53 (by decide) ?_
  refine lv_icmp_ne (tgt := 66) hx hb dX4_ofTraveller_54 (by decide) (fun c6 => absurd (by decide) c6) (fun _ => ?_)
  refine lv_aload_n hx hb dX4_ofTraveller_57 rfl (lv_at hl 0 rfl) ?_
  refine mg_fine K hP dX4_ofTraveller_58 ?_
  refine lv_iload_n hx hb dX4_ofTraveller_61 rfl (lv_at hl 1 rfl) ?_
  refine mr_ald K hP (by decide) (by decide) (n := 10) rfl (by omega) (by decide) dX4_ofTraveller_62 ?_
  rw [show h3 19 t = h 19 t from by simp [u2_at, e3]]
  refine lv_goto (tgt := 86) hx hb dX4_ofTraveller_63 (by decide) ?_
  exact fx_reti hx hb hr hlocks hP hS (Nat.le_of_ble_eq_true rfl) (Nat.le_of_ble_eq_true rfl) dX4_ofTraveller_86 ⟨rfl, by simp only [e3]⟩

set_option maxHeartbeats 4000000 in
set_option maxRecDepth 100000 in
theorem c_X4_ofTraveller_2 (l : Launch) (Z : fx_Z) (am : Nat → Nat) (hinj : fx_inj 22 am) (h : St) (t : Nat) (ht9 : t < 10) : fx_C l Z yX4_ofTraveller cX4_ofTraveller 3 (some .int) 1 23 0 0 22 am (mF am (Z.2.1 0)) h [.ref (am 0), .int (nI t), .int 2] (pI (h 18 t) (u2 h 0 3 0)) (fun _ => False) := by
  intro sz
  refine vx_ofW (cc := cX4_ofTraveller) (maxL := 3) (ret := (some .int)) (by decide) rfl ?_
  intro p e s m args below meth c s₁ B hml hout hv
  obtain ⟨rfl, hsz, hP, hE, hSt⟩ := hv
  subst hsz
  have hx := B.exec
  have hb := B.bytes
  have hr := B.returns
  have hown : s.vm.findClass RX4 = some m.cls := findClass_of_methodNamed B.named
  have hlocks := B.notSynchronized
  have K : m_K p s m ([.ref (am 0), .int (nI t), .int 2] : List Value).toArray c cX4_ofTraveller 3 Z am := ⟨hx, hb, hml, hown, fun w hw => atoms_spec (ws := fx_l yX4_ofTraveller cX4_ofTraveller 3 (some .int)) B.pre w (List.mem_cons_of_mem _ hw), hE, hSt, hinj⟩
  have hS : va_S (fx_A 22 am s.heap.size) s.heap s.heap [] := va_S.rf
  have hl := lv_entry ([.ref (am 0), .int (nI t), .int 2]) (n := 3) (Nat.le_of_ble_eq_true rfl)
  rw [lg_entry_eq]
  generalize (lg_sl ([.ref (am 0), .int (nI t), .int 2]) ++ List.replicate (3 - (lg_sl ([.ref (am 0), .int (nI t), .int 2])).length) Slot.unset).toArray = ls at hl ⊢
  have hl : lv_has ls 3 [(0, .ref (am 0)), (1, .int (nI t)), (2, .int 2)] := hl
  refine lv_aload_n hx hb dX4_ofTraveller_0 rfl (lv_at hl 0 rfl) ?_
  refine lv_aload_n hx hb dX4_ofTraveller_1 rfl (lv_at hl 0 rfl) ?_
  refine lv_iload_n hx hb dX4_ofTraveller_2 rfl (lv_at hl 1 rfl) ?_
  refine lv_iconst (v := 0) hx hb dX4_ofTraveller_3 (by decide) ?_
  refine lv_bipush (v := 9) hx hb dX4_ofTraveller_4 (by decide) ?_
  refine m_callt (rest := [.ref (am 0)]) K hP hS (c_X4_in l Z am hinj h (nI t) 0 9) ok_X4_80 rfl ⟨Nat.le_of_ble_eq_true rfl, Nat.le_of_ble_eq_true rfl⟩ rfl hl.1 (Nat.le_of_ble_eq_true rfl) ⟨Nat.le_of_ble_eq_true rfl, Nat.le_of_ble_eq_true rfl⟩ dX4_ofTraveller_6 (ix9 ht9) (fun H locs hP hS => ?_)
  refine lv_if_ne (tgt := 16) hx hb dX4_ofTraveller_9 (by decide) (fun _ => ?_) (fun c1 => absurd c1 (by decide))
  refine lv_aload_n hx hb dX4_ofTraveller_16 rfl (lv_at hl 0 rfl) ?_
  refine lv_iload_n hx hb dX4_ofTraveller_17 rfl (lv_at hl 2 rfl) ?_
  refine lv_iconst (v := 0) hx hb dX4_ofTraveller_18 (by decide) ?_
  refine lv_iconst (v := 3) hx hb dX4_ofTraveller_19 (by decide) ?_
  refine m_callt (rest := [.ref (am 0)]) K hP hS (c_X4_in l Z am hinj h 2 0 3) ok_X4_80 rfl ⟨Nat.le_of_ble_eq_true rfl, Nat.le_of_ble_eq_true rfl⟩ rfl hl.1 (Nat.le_of_ble_eq_true rfl) ⟨Nat.le_of_ble_eq_true rfl, Nat.le_of_ble_eq_true rfl⟩ dX4_ofTraveller_20 (by decide) (fun H locs hP hS => ?_)
  refine lv_if_eq (tgt := 30) hx hb dX4_ofTraveller_23 (by decide) (fun c2 => absurd c2 (by decide)) (fun _ => ?_)
  refine lv_iconst (v := 0) hx hb dX4_ofTraveller_26 (by decide) ?_
  refine lv_goto (tgt := 31) hx hb dX4_ofTraveller_27 (by decide) ?_
  refine m_callf (rest := []) K hP hS (c_X4_holds l Z am hinj h 0) ok_X4_87 rfl ⟨Nat.le_of_ble_eq_true rfl, Nat.le_of_ble_eq_true rfl⟩ rfl hl.1 (Nat.le_of_ble_eq_true rfl) ⟨Nat.le_of_ble_eq_true rfl, Nat.le_of_ble_eq_true rfl⟩ dX4_ofTraveller_31 (by decide) (fun H locs hP hS => ?_)
  obtain ⟨h3, e3⟩ : ∃ z : St, z = (u2 h 0 3 0) := ⟨_, rfl⟩
  rw [← e3] at hP
  refine lv_if_eq (tgt := 39) hx hb dX4_ofTraveller_34 (by decide) (fun _ => ?_) (fun c4 => absurd (by decide) c4)
  refine lv_iload_n hx hb dX4_ofTraveller_39 rfl (lv_at hl 2 rfl) ?_
  refine lv_if_ne (tgt := 52) hx hb dX4_ofTraveller_40 (by decide) (fun _ => ?_) (fun c5 => absurd c5 (by decide))
  refine lv_iload_n hx hb dX4_ofTraveller_52 rfl (lv_at hl 2 rfl) ?_
  refine lv_iconst (v := 1) hx hb dX4_ofTraveller_53 (by decide) ?_
  refine lv_icmp_ne (tgt := 66) hx hb dX4_ofTraveller_54 (by decide) (fun _ => ?_) (fun c6 => absurd c6 (by decide))
  refine lv_iload_n hx hb dX4_ofTraveller_66 rfl (lv_at hl 2 rfl) ?_
  refine lv_iconst (v := 2) hx hb dX4_ofTraveller_67 (by decide) ?_
  refine lv_icmp_ne (tgt := 80) hx hb dX4_ofTraveller_68 (by decide) (fun c7 => absurd (by decide) c7) (fun _ => ?_)
  refine lv_aload_n hx hb dX4_ofTraveller_71 rfl (lv_at hl 0 rfl) ?_
  refine mg_missed K hP dX4_ofTraveller_72 ?_
  refine lv_iload_n hx hb dX4_ofTraveller_75 rfl (lv_at hl 1 rfl) ?_
  refine mr_ald K hP (by decide) (by decide) (n := 10) rfl (by omega) (by decide) dX4_ofTraveller_76 ?_
  rw [show h3 18 t = h 18 t from by simp [u2_at, e3]]
  refine lv_goto (tgt := 86) hx hb dX4_ofTraveller_77 (by decide) ?_
  exact fx_reti hx hb hr hlocks hP hS (Nat.le_of_ble_eq_true rfl) (Nat.le_of_ble_eq_true rfl) dX4_ofTraveller_86 ⟨rfl, by simp only [e3]⟩

set_option maxHeartbeats 4000000 in
set_option maxRecDepth 100000 in
theorem c_X4_ofTraveller_3 (l : Launch) (Z : fx_Z) (am : Nat → Nat) (hinj : fx_inj 22 am) (h : St) (t : Nat) (ht9 : t < 10) : fx_C l Z yX4_ofTraveller cX4_ofTraveller 3 (some .int) 1 23 0 0 22 am (mF am (Z.2.1 0)) h [.ref (am 0), .int (nI t), .int 3] (pI (h 16 t) (u2 h 0 3 0)) (fun _ => False) := by
  intro sz
  refine vx_ofW (cc := cX4_ofTraveller) (maxL := 3) (ret := (some .int)) (by decide) rfl ?_
  intro p e s m args below meth c s₁ B hml hout hv
  obtain ⟨rfl, hsz, hP, hE, hSt⟩ := hv
  subst hsz
  have hx := B.exec
  have hb := B.bytes
  have hr := B.returns
  have hown : s.vm.findClass RX4 = some m.cls := findClass_of_methodNamed B.named
  have hlocks := B.notSynchronized
  have K : m_K p s m ([.ref (am 0), .int (nI t), .int 3] : List Value).toArray c cX4_ofTraveller 3 Z am := ⟨hx, hb, hml, hown, fun w hw => atoms_spec (ws := fx_l yX4_ofTraveller cX4_ofTraveller 3 (some .int)) B.pre w (List.mem_cons_of_mem _ hw), hE, hSt, hinj⟩
  have hS : va_S (fx_A 22 am s.heap.size) s.heap s.heap [] := va_S.rf
  have hl := lv_entry ([.ref (am 0), .int (nI t), .int 3]) (n := 3) (Nat.le_of_ble_eq_true rfl)
  rw [lg_entry_eq]
  generalize (lg_sl ([.ref (am 0), .int (nI t), .int 3]) ++ List.replicate (3 - (lg_sl ([.ref (am 0), .int (nI t), .int 3])).length) Slot.unset).toArray = ls at hl ⊢
  have hl : lv_has ls 3 [(0, .ref (am 0)), (1, .int (nI t)), (2, .int 3)] := hl
  refine lv_aload_n hx hb dX4_ofTraveller_0 rfl (lv_at hl 0 rfl) ?_
  refine lv_aload_n hx hb dX4_ofTraveller_1 rfl (lv_at hl 0 rfl) ?_
  refine lv_iload_n hx hb dX4_ofTraveller_2 rfl (lv_at hl 1 rfl) ?_
  refine lv_iconst (v := 0) hx hb dX4_ofTraveller_3 (by decide) ?_
  refine lv_bipush (v := 9) hx hb dX4_ofTraveller_4 (by decide) ?_
  refine m_callt (rest := [.ref (am 0)]) K hP hS (c_X4_in l Z am hinj h (nI t) 0 9) ok_X4_80 rfl ⟨Nat.le_of_ble_eq_true rfl, Nat.le_of_ble_eq_true rfl⟩ rfl hl.1 (Nat.le_of_ble_eq_true rfl) ⟨Nat.le_of_ble_eq_true rfl, Nat.le_of_ble_eq_true rfl⟩ dX4_ofTraveller_6 (ix9 ht9) (fun H locs hP hS => ?_)
  refine lv_if_ne (tgt := 16) hx hb dX4_ofTraveller_9 (by decide) (fun _ => ?_) (fun c1 => absurd c1 (by decide))
  refine lv_aload_n hx hb dX4_ofTraveller_16 rfl (lv_at hl 0 rfl) ?_
  refine lv_iload_n hx hb dX4_ofTraveller_17 rfl (lv_at hl 2 rfl) ?_
  refine lv_iconst (v := 0) hx hb dX4_ofTraveller_18 (by decide) ?_
  refine lv_iconst (v := 3) hx hb dX4_ofTraveller_19 (by decide) ?_
  refine m_callt (rest := [.ref (am 0)]) K hP hS (c_X4_in l Z am hinj h 3 0 3) ok_X4_80 rfl ⟨Nat.le_of_ble_eq_true rfl, Nat.le_of_ble_eq_true rfl⟩ rfl hl.1 (Nat.le_of_ble_eq_true rfl) ⟨Nat.le_of_ble_eq_true rfl, Nat.le_of_ble_eq_true rfl⟩ dX4_ofTraveller_20 (by decide) (fun H locs hP hS => ?_)
  refine lv_if_eq (tgt := 30) hx hb dX4_ofTraveller_23 (by decide) (fun c2 => absurd c2 (by decide)) (fun _ => ?_)
  refine lv_iconst (v := 0) hx hb dX4_ofTraveller_26 (by decide) ?_
  refine lv_goto (tgt := 31) hx hb dX4_ofTraveller_27 (by decide) ?_
  refine m_callf (rest := []) K hP hS (c_X4_holds l Z am hinj h 0) ok_X4_87 rfl ⟨Nat.le_of_ble_eq_true rfl, Nat.le_of_ble_eq_true rfl⟩ rfl hl.1 (Nat.le_of_ble_eq_true rfl) ⟨Nat.le_of_ble_eq_true rfl, Nat.le_of_ble_eq_true rfl⟩ dX4_ofTraveller_31 (by decide) (fun H locs hP hS => ?_)
  obtain ⟨h3, e3⟩ : ∃ z : St, z = (u2 h 0 3 0) := ⟨_, rfl⟩
  rw [← e3] at hP
  refine lv_if_eq (tgt := 39) hx hb dX4_ofTraveller_34 (by decide) (fun _ => ?_) (fun c4 => absurd (by decide) c4)
  refine lv_iload_n hx hb dX4_ofTraveller_39 rfl (lv_at hl 2 rfl) ?_
  refine lv_if_ne (tgt := 52) hx hb dX4_ofTraveller_40 (by decide) (fun _ => ?_) (fun c5 => absurd c5 (by decide))
  refine lv_iload_n hx hb dX4_ofTraveller_52 rfl (lv_at hl 2 rfl) ?_
  refine lv_iconst (v := 1) hx hb dX4_ofTraveller_53 (by decide) ?_
  refine lv_icmp_ne (tgt := 66) hx hb dX4_ofTraveller_54 (by decide) (fun _ => ?_) (fun c6 => absurd c6 (by decide))
  refine lv_iload_n hx hb dX4_ofTraveller_66 rfl (lv_at hl 2 rfl) ?_
  refine lv_iconst (v := 2) hx hb dX4_ofTraveller_67 (by decide) ?_
  refine lv_icmp_ne (tgt := 80) hx hb dX4_ofTraveller_68 (by decide) (fun _ => ?_) (fun c7 => absurd c7 (by decide))
  refine lv_aload_n hx hb dX4_ofTraveller_80 rfl (lv_at hl 0 rfl) ?_
  refine mg_gone K hP dX4_ofTraveller_81 ?_
  refine lv_iload_n hx hb dX4_ofTraveller_84 rfl (lv_at hl 1 rfl) ?_
  refine mr_ald K hP (by decide) (by decide) (n := 10) rfl (by omega) (by decide) dX4_ofTraveller_85 ?_
  rw [show h3 16 t = h 16 t from by simp [u2_at, e3]]
  exact fx_reti hx hb hr hlocks hP hS (Nat.le_of_ble_eq_true rfl) (Nat.le_of_ble_eq_true rfl) dX4_ofTraveller_86 ⟨rfl, by simp only [e3]⟩

set_option maxHeartbeats 4000000 in
set_option maxRecDepth 100000 in
theorem c_X4_ofTraveller_e1 (l : Launch) (Z : fx_Z) (am : Nat → Nat) (hinj : fx_inj 22 am) (h : St) (t : Int32) (w : Int32) (ht : bad t 10) : fx_C l Z yX4_ofTraveller cX4_ofTraveller 3 (some .int) 1 23 0 0 22 am (mF am (Z.2.1 0)) h [.ref (am 0), .int t, .int w] (pI (-1) (u2 h 0 3 1)) (fun _ => False) := by
  intro sz
  refine vx_ofW (cc := cX4_ofTraveller) (maxL := 3) (ret := (some .int)) (by decide) rfl ?_
  intro p e s m args below meth c s₁ B hml hout hv
  obtain ⟨rfl, hsz, hP, hE, hSt⟩ := hv
  subst hsz
  have hx := B.exec
  have hb := B.bytes
  have hr := B.returns
  have hown : s.vm.findClass RX4 = some m.cls := findClass_of_methodNamed B.named
  have hlocks := B.notSynchronized
  have K : m_K p s m ([.ref (am 0), .int t, .int w] : List Value).toArray c cX4_ofTraveller 3 Z am := ⟨hx, hb, hml, hown, fun w hw => atoms_spec (ws := fx_l yX4_ofTraveller cX4_ofTraveller 3 (some .int)) B.pre w (List.mem_cons_of_mem _ hw), hE, hSt, hinj⟩
  have hS : va_S (fx_A 22 am s.heap.size) s.heap s.heap [] := va_S.rf
  have hl := lv_entry ([.ref (am 0), .int t, .int w]) (n := 3) (Nat.le_of_ble_eq_true rfl)
  rw [lg_entry_eq]
  generalize (lg_sl ([.ref (am 0), .int t, .int w]) ++ List.replicate (3 - (lg_sl ([.ref (am 0), .int t, .int w])).length) Slot.unset).toArray = ls at hl ⊢
  have hl : lv_has ls 3 [(0, .ref (am 0)), (1, .int t), (2, .int w)] := hl
  refine lv_aload_n hx hb dX4_ofTraveller_0 rfl (lv_at hl 0 rfl) ?_
  refine lv_aload_n hx hb dX4_ofTraveller_1 rfl (lv_at hl 0 rfl) ?_
  refine lv_iload_n hx hb dX4_ofTraveller_2 rfl (lv_at hl 1 rfl) ?_
  refine lv_iconst (v := 0) hx hb dX4_ofTraveller_3 (by decide) ?_
  refine lv_bipush (v := 9) hx hb dX4_ofTraveller_4 (by decide) ?_
  refine m_callf (rest := [.ref (am 0)]) K hP hS (c_X4_in l Z am hinj h t 0 9) ok_X4_80 rfl ⟨Nat.le_of_ble_eq_true rfl, Nat.le_of_ble_eq_true rfl⟩ rfl hl.1 (Nat.le_of_ble_eq_true rfl) ⟨Nat.le_of_ble_eq_true rfl, Nat.le_of_ble_eq_true rfl⟩ dX4_ofTraveller_6 (nix9 ht) (fun H locs hP hS => ?_)
  refine lv_if_ne (tgt := 16) hx hb dX4_ofTraveller_9 (by decide) (fun c1 => absurd (by decide) c1) (fun _ => ?_)
  refine lv_iconst (v := 1) hx hb dX4_ofTraveller_12 (by decide) ?_
  refine lv_goto (tgt := 31) hx hb dX4_ofTraveller_13 (by decide) ?_
  refine m_callt (rest := []) K hP hS (c_X4_holds l Z am hinj h 1) ok_X4_87 rfl ⟨Nat.le_of_ble_eq_true rfl, Nat.le_of_ble_eq_true rfl⟩ rfl hl.1 (Nat.le_of_ble_eq_true rfl) ⟨Nat.le_of_ble_eq_true rfl, Nat.le_of_ble_eq_true rfl⟩ dX4_ofTraveller_31 (by decide) (fun H locs hP hS => ?_)
  obtain ⟨h2, e2⟩ : ∃ z : St, z = (u2 h 0 3 1) := ⟨_, rfl⟩
  rw [← e2] at hP
  refine lv_if_eq (tgt := 39) hx hb dX4_ofTraveller_34 (by decide) (fun c3 => absurd c3 (by decide)) (fun _ => ?_)
  refine lv_iconst (v := (-1)) hx hb dX4_ofTraveller_37 (by decide) ?_
  exact fx_reti hx hb hr hlocks hP hS (Nat.le_of_ble_eq_true rfl) (Nat.le_of_ble_eq_true rfl) dX4_ofTraveller_38 ⟨rfl, e2⟩

set_option maxHeartbeats 4000000 in
set_option maxRecDepth 100000 in
theorem c_X4_ofTraveller_e2 (l : Launch) (Z : fx_Z) (am : Nat → Nat) (hinj : fx_inj 22 am) (h : St) (t : Nat) (w : Int32) (ht9 : t < 10) (hw : bad w 4) : fx_C l Z yX4_ofTraveller cX4_ofTraveller 3 (some .int) 1 23 0 0 22 am (mF am (Z.2.1 0)) h [.ref (am 0), .int (nI t), .int w] (pI (-1) (u2 h 0 3 2)) (fun _ => False) := by
  intro sz
  refine vx_ofW (cc := cX4_ofTraveller) (maxL := 3) (ret := (some .int)) (by decide) rfl ?_
  intro p e s m args below meth c s₁ B hml hout hv
  obtain ⟨rfl, hsz, hP, hE, hSt⟩ := hv
  subst hsz
  have hx := B.exec
  have hb := B.bytes
  have hr := B.returns
  have hown : s.vm.findClass RX4 = some m.cls := findClass_of_methodNamed B.named
  have hlocks := B.notSynchronized
  have K : m_K p s m ([.ref (am 0), .int (nI t), .int w] : List Value).toArray c cX4_ofTraveller 3 Z am := ⟨hx, hb, hml, hown, fun w hw => atoms_spec (ws := fx_l yX4_ofTraveller cX4_ofTraveller 3 (some .int)) B.pre w (List.mem_cons_of_mem _ hw), hE, hSt, hinj⟩
  have hS : va_S (fx_A 22 am s.heap.size) s.heap s.heap [] := va_S.rf
  have hl := lv_entry ([.ref (am 0), .int (nI t), .int w]) (n := 3) (Nat.le_of_ble_eq_true rfl)
  rw [lg_entry_eq]
  generalize (lg_sl ([.ref (am 0), .int (nI t), .int w]) ++ List.replicate (3 - (lg_sl ([.ref (am 0), .int (nI t), .int w])).length) Slot.unset).toArray = ls at hl ⊢
  have hl : lv_has ls 3 [(0, .ref (am 0)), (1, .int (nI t)), (2, .int w)] := hl
  refine lv_aload_n hx hb dX4_ofTraveller_0 rfl (lv_at hl 0 rfl) ?_
  refine lv_aload_n hx hb dX4_ofTraveller_1 rfl (lv_at hl 0 rfl) ?_
  refine lv_iload_n hx hb dX4_ofTraveller_2 rfl (lv_at hl 1 rfl) ?_
  refine lv_iconst (v := 0) hx hb dX4_ofTraveller_3 (by decide) ?_
  refine lv_bipush (v := 9) hx hb dX4_ofTraveller_4 (by decide) ?_
  refine m_callt (rest := [.ref (am 0)]) K hP hS (c_X4_in l Z am hinj h (nI t) 0 9) ok_X4_80 rfl ⟨Nat.le_of_ble_eq_true rfl, Nat.le_of_ble_eq_true rfl⟩ rfl hl.1 (Nat.le_of_ble_eq_true rfl) ⟨Nat.le_of_ble_eq_true rfl, Nat.le_of_ble_eq_true rfl⟩ dX4_ofTraveller_6 (ix9 ht9) (fun H locs hP hS => ?_)
  refine lv_if_ne (tgt := 16) hx hb dX4_ofTraveller_9 (by decide) (fun _ => ?_) (fun c1 => absurd c1 (by decide))
  refine lv_aload_n hx hb dX4_ofTraveller_16 rfl (lv_at hl 0 rfl) ?_
  refine lv_iload_n hx hb dX4_ofTraveller_17 rfl (lv_at hl 2 rfl) ?_
  refine lv_iconst (v := 0) hx hb dX4_ofTraveller_18 (by decide) ?_
  refine lv_iconst (v := 3) hx hb dX4_ofTraveller_19 (by decide) ?_
  refine m_callf (rest := [.ref (am 0)]) K hP hS (c_X4_in l Z am hinj h w 0 3) ok_X4_80 rfl ⟨Nat.le_of_ble_eq_true rfl, Nat.le_of_ble_eq_true rfl⟩ rfl hl.1 (Nat.le_of_ble_eq_true rfl) ⟨Nat.le_of_ble_eq_true rfl, Nat.le_of_ble_eq_true rfl⟩ dX4_ofTraveller_20 (nix3 hw) (fun H locs hP hS => ?_)
  refine lv_if_eq (tgt := 30) hx hb dX4_ofTraveller_23 (by decide) (fun _ => ?_) (fun c2 => absurd (by decide) c2)
  refine lv_iconst (v := 2) hx hb dX4_ofTraveller_30 (by decide) ?_
  refine m_callt (rest := []) K hP hS (c_X4_holds l Z am hinj h 2) ok_X4_87 rfl ⟨Nat.le_of_ble_eq_true rfl, Nat.le_of_ble_eq_true rfl⟩ rfl hl.1 (Nat.le_of_ble_eq_true rfl) ⟨Nat.le_of_ble_eq_true rfl, Nat.le_of_ble_eq_true rfl⟩ dX4_ofTraveller_31 (by decide) (fun H locs hP hS => ?_)
  obtain ⟨h3, e3⟩ : ∃ z : St, z = (u2 h 0 3 2) := ⟨_, rfl⟩
  rw [← e3] at hP
  refine lv_if_eq (tgt := 39) hx hb dX4_ofTraveller_34 (by decide) (fun c4 => absurd c4 (by decide)) (fun _ => ?_)
  refine lv_iconst (v := (-1)) hx hb dX4_ofTraveller_37 (by decide) ?_
  exact fx_reti hx hb hr hlocks hP hS (Nat.le_of_ble_eq_true rfl) (Nat.le_of_ble_eq_true rfl) dX4_ofTraveller_38 ⟨rfl, e3⟩

set_option maxHeartbeats 4000000 in
set_option maxRecDepth 100000 in
theorem c_X4_refundsAnew_0 (l : Launch) (Z : fx_Z) (am : Nat → Nat) (hinj : fx_inj 22 am) (h : St) (t : Nat) (ht9 : t < 10) : fx_C l Z yX4_refundsAnew cX4_refundsAnew 2 (some .int) 1 23 0 0 22 am (mF am (Z.2.1 0)) h [.ref (am 0), .int (nI t)] (pI (h 20 t) (u2 h 0 3 0)) (fun _ => False) := by
  intro sz
  refine vx_ofW (cc := cX4_refundsAnew) (maxL := 2) (ret := (some .int)) (by decide) rfl ?_
  intro p e s m args below meth c s₁ B hml hout hv
  obtain ⟨rfl, hsz, hP, hE, hSt⟩ := hv
  subst hsz
  have hx := B.exec
  have hb := B.bytes
  have hr := B.returns
  have hown : s.vm.findClass RX4 = some m.cls := findClass_of_methodNamed B.named
  have hlocks := B.notSynchronized
  have K : m_K p s m ([.ref (am 0), .int (nI t)] : List Value).toArray c cX4_refundsAnew 2 Z am := ⟨hx, hb, hml, hown, fun w hw => atoms_spec (ws := fx_l yX4_refundsAnew cX4_refundsAnew 2 (some .int)) B.pre w (List.mem_cons_of_mem _ hw), hE, hSt, hinj⟩
  have hS : va_S (fx_A 22 am s.heap.size) s.heap s.heap [] := va_S.rf
  have hl := lv_entry ([.ref (am 0), .int (nI t)]) (n := 2) (Nat.le_of_ble_eq_true rfl)
  rw [lg_entry_eq]
  generalize (lg_sl ([.ref (am 0), .int (nI t)]) ++ List.replicate (2 - (lg_sl ([.ref (am 0), .int (nI t)])).length) Slot.unset).toArray = ls at hl ⊢
  have hl : lv_has ls 2 [(0, .ref (am 0)), (1, .int (nI t))] := hl
  refine lv_aload_n hx hb dX4_refundsAnew_0 rfl (lv_at hl 0 rfl) ?_
  refine lv_aload_n hx hb dX4_refundsAnew_1 rfl (lv_at hl 0 rfl) ?_
  refine lv_iload_n hx hb dX4_refundsAnew_2 rfl (lv_at hl 1 rfl) ?_
  refine lv_iconst (v := 0) hx hb dX4_refundsAnew_3 (by decide) ?_
  refine lv_bipush (v := 9) hx hb dX4_refundsAnew_4 (by decide) ?_
  refine m_callt (rest := [.ref (am 0)]) K hP hS (c_X4_in l Z am hinj h (nI t) 0 9) ok_X4_80 rfl ⟨Nat.le_of_ble_eq_true rfl, Nat.le_of_ble_eq_true rfl⟩ rfl hl.1 (Nat.le_of_ble_eq_true rfl) ⟨Nat.le_of_ble_eq_true rfl, Nat.le_of_ble_eq_true rfl⟩ dX4_refundsAnew_6 (ix9 ht9) (fun H locs hP hS => ?_)
  refine lv_if_eq (tgt := 16) hx hb dX4_refundsAnew_9 (by decide) (fun c1 => absurd c1 (by decide)) (fun _ => ?_)
  refine lv_iconst (v := 0) hx hb dX4_refundsAnew_12 (by decide) ?_
  refine lv_goto (tgt := 17) hx hb dX4_refundsAnew_13 (by decide) ?_
  refine m_callf (rest := []) K hP hS (c_X4_holds l Z am hinj h 0) ok_X4_87 rfl ⟨Nat.le_of_ble_eq_true rfl, Nat.le_of_ble_eq_true rfl⟩ rfl hl.1 (Nat.le_of_ble_eq_true rfl) ⟨Nat.le_of_ble_eq_true rfl, Nat.le_of_ble_eq_true rfl⟩ dX4_refundsAnew_17 (by decide) (fun H locs hP hS => ?_)
  obtain ⟨h2, e2⟩ : ∃ z : St, z = (u2 h 0 3 0) := ⟨_, rfl⟩
  rw [← e2] at hP
  refine lv_if_eq (tgt := 27) hx hb dX4_refundsAnew_20 (by decide) (fun _ => ?_) (fun c3 => absurd (by decide) c3)
  refine lv_aload_n hx hb dX4_refundsAnew_27 rfl (lv_at hl 0 rfl) ?_
  refine mg_refunds K hP dX4_refundsAnew_28 ?_
  refine lv_iload_n hx hb dX4_refundsAnew_31 rfl (lv_at hl 1 rfl) ?_
  refine mr_ald K hP (by decide) (by decide) (n := 10) rfl (by omega) (by decide) dX4_refundsAnew_32 ?_
  rw [show h2 20 t = h 20 t from by simp [u2_at, e2]]
  exact fx_reti hx hb hr hlocks hP hS (Nat.le_of_ble_eq_true rfl) (Nat.le_of_ble_eq_true rfl) dX4_refundsAnew_33 ⟨rfl, by simp only [e2]⟩

set_option maxHeartbeats 4000000 in
set_option maxRecDepth 100000 in
theorem c_X4_refundsAnew_1 (l : Launch) (Z : fx_Z) (am : Nat → Nat) (hinj : fx_inj 22 am) (h : St) (t : Int32) (ht : bad t 10) : fx_C l Z yX4_refundsAnew cX4_refundsAnew 2 (some .int) 1 23 0 0 22 am (mF am (Z.2.1 0)) h [.ref (am 0), .int t] (pI (-1) (u2 h 0 3 1)) (fun _ => False) := by
  intro sz
  refine vx_ofW (cc := cX4_refundsAnew) (maxL := 2) (ret := (some .int)) (by decide) rfl ?_
  intro p e s m args below meth c s₁ B hml hout hv
  obtain ⟨rfl, hsz, hP, hE, hSt⟩ := hv
  subst hsz
  have hx := B.exec
  have hb := B.bytes
  have hr := B.returns
  have hown : s.vm.findClass RX4 = some m.cls := findClass_of_methodNamed B.named
  have hlocks := B.notSynchronized
  have K : m_K p s m ([.ref (am 0), .int t] : List Value).toArray c cX4_refundsAnew 2 Z am := ⟨hx, hb, hml, hown, fun w hw => atoms_spec (ws := fx_l yX4_refundsAnew cX4_refundsAnew 2 (some .int)) B.pre w (List.mem_cons_of_mem _ hw), hE, hSt, hinj⟩
  have hS : va_S (fx_A 22 am s.heap.size) s.heap s.heap [] := va_S.rf
  have hl := lv_entry ([.ref (am 0), .int t]) (n := 2) (Nat.le_of_ble_eq_true rfl)
  rw [lg_entry_eq]
  generalize (lg_sl ([.ref (am 0), .int t]) ++ List.replicate (2 - (lg_sl ([.ref (am 0), .int t])).length) Slot.unset).toArray = ls at hl ⊢
  have hl : lv_has ls 2 [(0, .ref (am 0)), (1, .int t)] := hl
  refine lv_aload_n hx hb dX4_refundsAnew_0 rfl (lv_at hl 0 rfl) ?_
  refine lv_aload_n hx hb dX4_refundsAnew_1 rfl (lv_at hl 0 rfl) ?_
  refine lv_iload_n hx hb dX4_refundsAnew_2 rfl (lv_at hl 1 rfl) ?_
  refine lv_iconst (v := 0) hx hb dX4_refundsAnew_3 (by decide) ?_
  refine lv_bipush (v := 9) hx hb dX4_refundsAnew_4 (by decide) ?_
  refine m_callf (rest := [.ref (am 0)]) K hP hS (c_X4_in l Z am hinj h t 0 9) ok_X4_80 rfl ⟨Nat.le_of_ble_eq_true rfl, Nat.le_of_ble_eq_true rfl⟩ rfl hl.1 (Nat.le_of_ble_eq_true rfl) ⟨Nat.le_of_ble_eq_true rfl, Nat.le_of_ble_eq_true rfl⟩ dX4_refundsAnew_6 (nix9 ht) (fun H locs hP hS => ?_)
  refine lv_if_eq (tgt := 16) hx hb dX4_refundsAnew_9 (by decide) (fun _ => ?_) (fun c1 => absurd (by decide) c1)
  refine lv_iconst (v := 1) hx hb dX4_refundsAnew_16 (by decide) ?_
  refine m_callt (rest := []) K hP hS (c_X4_holds l Z am hinj h 1) ok_X4_87 rfl ⟨Nat.le_of_ble_eq_true rfl, Nat.le_of_ble_eq_true rfl⟩ rfl hl.1 (Nat.le_of_ble_eq_true rfl) ⟨Nat.le_of_ble_eq_true rfl, Nat.le_of_ble_eq_true rfl⟩ dX4_refundsAnew_17 (by decide) (fun H locs hP hS => ?_)
  obtain ⟨h2, e2⟩ : ∃ z : St, z = (u2 h 0 3 1) := ⟨_, rfl⟩
  rw [← e2] at hP
  refine lv_if_eq (tgt := 27) hx hb dX4_refundsAnew_20 (by decide) (fun c3 => absurd c3 (by decide)) (fun _ => ?_)
  refine lv_iconst (v := (-1)) hx hb dX4_refundsAnew_23 (by decide) ?_
  refine lv_goto (tgt := 33) hx hb dX4_refundsAnew_24 (by decide) ?_
  exact fx_reti hx hb hr hlocks hP hS (Nat.le_of_ble_eq_true rfl) (Nat.le_of_ble_eq_true rfl) dX4_refundsAnew_33 ⟨rfl, e2⟩

set_option maxHeartbeats 4000000 in
set_option maxRecDepth 100000 in
theorem c_X4_debt_0 (l : Launch) (Z : fx_Z) (am : Nat → Nat) (hinj : fx_inj 22 am) (h : St) (rc : Nat) (a : Nat) (ha : a < 5) (hrc : h 0 0 = nI rc) (hr6 : rc ≤ 60) : fx_C l Z yX4_debt cX4_debt 4 (some .int) 1 23 0 0 22 am (mF am (Z.2.1 0)) h [.ref (am 0), .int (nI a)] (pI (dbt h a rc) (u2 h 0 3 0)) (fun _ => False) := by
  intro sz
  refine vx_ofW (cc := cX4_debt) (maxL := 4) (ret := (some .int)) (by decide) rfl ?_
  intro p e s m args below meth c s₁ B hml hout hv
  obtain ⟨rfl, hsz, hP, hE, hSt⟩ := hv
  subst hsz
  have hx := B.exec
  have hb := B.bytes
  have hr := B.returns
  have hown : s.vm.findClass RX4 = some m.cls := findClass_of_methodNamed B.named
  have hlocks := B.notSynchronized
  have K : m_K p s m ([.ref (am 0), .int (nI a)] : List Value).toArray c cX4_debt 4 Z am := ⟨hx, hb, hml, hown, fun w hw => atoms_spec (ws := fx_l yX4_debt cX4_debt 4 (some .int)) B.pre w (List.mem_cons_of_mem _ hw), hE, hSt, hinj⟩
  have hS : va_S (fx_A 22 am s.heap.size) s.heap s.heap [] := va_S.rf
  have hl := lv_entry ([.ref (am 0), .int (nI a)]) (n := 4) (Nat.le_of_ble_eq_true rfl)
  rw [lg_entry_eq]
  generalize (lg_sl ([.ref (am 0), .int (nI a)]) ++ List.replicate (4 - (lg_sl ([.ref (am 0), .int (nI a)])).length) Slot.unset).toArray = ls at hl ⊢
  have hl : lv_has ls 4 [(0, .ref (am 0)), (1, .int (nI a))] := hl
  refine lv_aload_n hx hb dX4_debt_0 rfl (lv_at hl 0 rfl) ?_
  refine lv_aload_n hx hb dX4_debt_1 rfl (lv_at hl 0 rfl) ?_
  refine lv_iload_n hx hb dX4_debt_2 rfl (lv_at hl 1 rfl) ?_
  refine lv_iconst (v := 0) hx hb dX4_debt_3 (by decide) ?_
  refine lv_iconst (v := 4) hx hb dX4_debt_4 (by decide) ?_
  refine m_callt (rest := [.ref (am 0)]) K hP hS (c_X4_in l Z am hinj h (nI a) 0 4) ok_X4_80 rfl ⟨Nat.le_of_ble_eq_true rfl, Nat.le_of_ble_eq_true rfl⟩ rfl hl.1 (Nat.le_of_ble_eq_true rfl) ⟨Nat.le_of_ble_eq_true rfl, Nat.le_of_ble_eq_true rfl⟩ dX4_debt_5 (ix4 ha) (fun H locs hP hS => ?_)
  refine lv_if_eq (tgt := 15) hx hb dX4_debt_8 (by decide) (fun c1 => absurd c1 (by decide)) (fun _ => ?_)
  refine lv_iconst (v := 0) hx hb dX4_debt_11 (by decide) ?_
  refine lv_goto (tgt := 16) hx hb dX4_debt_12 (by decide) ?_
  refine m_callf (rest := []) K hP hS (c_X4_holds l Z am hinj h 0) ok_X4_87 rfl ⟨Nat.le_of_ble_eq_true rfl, Nat.le_of_ble_eq_true rfl⟩ rfl hl.1 (Nat.le_of_ble_eq_true rfl) ⟨Nat.le_of_ble_eq_true rfl, Nat.le_of_ble_eq_true rfl⟩ dX4_debt_16 (by decide) (fun H locs hP hS => ?_)
  obtain ⟨h2, e2⟩ : ∃ z : St, z = (u2 h 0 3 0) := ⟨_, rfl⟩
  rw [← e2] at hP
  refine lv_if_eq (tgt := 24) hx hb dX4_debt_19 (by decide) (fun _ => ?_) (fun c3 => absurd (by decide) c3)
  refine lv_iconst (v := 0) hx hb dX4_debt_24 (by decide) ?_
  refine lv_istore_n (lv' := [(2, .int 0), (0, .ref (am 0)), (1, .int (nI a))]) hx hb dX4_debt_25 rfl hl (by decide) rfl (fun ls hl => ?_)
  refine lv_iconst (v := 0) hx hb dX4_debt_26 (by decide) ?_
  refine lv_istore_n (lv' := [(3, .int 0), (2, .int 0), (0, .ref (am 0)), (1, .int (nI a))]) hx hb dX4_debt_27 rfl hl (by decide) rfl (fun ls hl => ?_)
  have hloop28 : ∀ (d : Nat) (r : Nat) (x : Int32), r + d = rc → x = dbt h a r → ∀ (H : Heap) (locs : List Loc), va_P Z.1 vwCl (iw 22 (mF am (Z.2.1 0) h2)) H → va_S (fx_A 22 am s.heap.size) s.heap H locs → ∀ ls : Array Slot, lv_has ls 4 [(0, .ref (am 0)), (1, .int (nI a)), (2, .int x), (3, .int (nI r))] → W p l e (headSpec (fx_l yX4_debt cX4_debt 4 (some .int)) { frames := 1, cells := 0, slots := 0, locals := 23 }).room s m ([.ref (am 0), .int (nI a)] : List Value).toArray below meth c H locs 0 0 (vx_MQ below (fx_post Z 22 am (mF am (Z.2.1 0)) (pI (dbt h a rc) (u2 h 0 3 0)) s.heap.size) (fx_px Z 22 am (mF am (Z.2.1 0) h) (fun _ => False) s.heap.size) ([.ref (am 0), .int (nI a)] : List Value).toArray s 0 0 (fx_A 22 am s.heap.size)) (F0 m 28 ls []) := by
    intro d
    induction d with
    | zero =>
      intro r x hd hx2 H locs hP hS ls hl
      refine lv_iload_n hx hb dX4_debt_28 rfl (lv_at hl 3 rfl) ?_
      refine lv_aload_n hx hb dX4_debt_29 rfl (lv_at hl 0 rfl) ?_
      refine mg_receipts K hP dX4_debt_30 ?_
      rw [show h2 0 0 = h 0 0 from by simp [u2_at, e2]]
      rw [hrc]
      refine lv_icmp_ge (tgt := 75) hx hb dX4_debt_33 (by decide) (fun _ => ?_) (fun c4 => absurd (nI_le (by omega) (by omega)) c4)
      refine lv_iload_n hx hb dX4_debt_75 rfl (lv_at hl 2 rfl) ?_
      exact fx_reti hx hb hr hlocks hP hS (Nat.le_of_ble_eq_true rfl) (Nat.le_of_ble_eq_true rfl) dX4_debt_76 ⟨(by rw [hx2, show r = rc by omega]), by simp only [e2]⟩
    | succ d ih28 =>
      intro r x hd hx2 H locs hP hS ls hl
      refine lv_iload_n hx hb dX4_debt_28 rfl (lv_at hl 3 rfl) ?_
      refine lv_aload_n hx hb dX4_debt_29 rfl (lv_at hl 0 rfl) ?_
      refine mg_receipts K hP dX4_debt_30 ?_
      rw [show h2 0 0 = h 0 0 from by simp [u2_at, e2]]
      rw [hrc]
      refine lv_icmp_ge (tgt := 75) hx hb dX4_debt_33 (by decide) (fun c5 => absurd c5 (nI_ge (by omega) (by omega))) (fun _ => ?_)
      refine lv_iload_n hx hb dX4_debt_36 rfl (lv_at hl 2 rfl) ?_
      refine lv_aload_n hx hb dX4_debt_37 rfl (lv_at hl 0 rfl) ?_
      refine mg_rs K hP dX4_debt_38 ?_
      refine lv_iload_n hx hb dX4_debt_41 rfl (lv_at hl 3 rfl) ?_
      refine mr_ald K hP (by decide) (by decide) (n := 60) rfl (by omega) (by decide) dX4_debt_42 ?_
      rw [show h2 2 r = h 2 r from by simp [u2_at, e2]]
      refine lv_iload_n hx hb dX4_debt_43 rfl (lv_at hl 1 rfl) ?_
      refine lv_icmp_ne (tgt := 66) hx hb dX4_debt_44 (by decide) (fun c6 => ?_) (fun c6 => ?_)
      · refine lv_iconst (v := 0) hx hb dX4_debt_66 (by decide) ?_
        refine lv_iadd hx hb dX4_debt_67 ?_
        refine lv_topi (fun v7 e7 => ?_)
        refine lv_istore_n (lv' := [(2, .int v7), (0, .ref (am 0)), (1, .int (nI a)), (3, .int (nI r))]) hx hb dX4_debt_68 rfl hl (by decide) rfl (fun ls hl => ?_)
        refine lv_iinc (v := nI (r + 1)) (lv' := [(3, .int (nI (r + 1))), (2, .int v7), (0, .ref (am 0)), (1, .int (nI a))]) hx hb dX4_debt_69 hl (k := 3) rfl (nI_1 _) (by decide) rfl (fun ls hl => ?_)
        refine lv_goto (tgt := 28) hx hb dX4_debt_72 (by decide) ?_
        exact ih28 (r + 1) v7 (by omega) (by rw [e7, hx2]; simp [dbt, c6]) H locs hP hS ls (lv_sub hl [2, 3, 1, 0] rfl)
      · refine lv_aload_n hx hb dX4_debt_47 rfl (lv_at hl 0 rfl) ?_
        refine mg_rk K hP dX4_debt_48 ?_
        refine lv_iload_n hx hb dX4_debt_51 rfl (lv_at hl 3 rfl) ?_
        refine mr_ald K hP (by decide) (by decide) (n := 60) rfl (by omega) (by decide) dX4_debt_52 ?_
        rw [show h2 7 r = h 7 r from by simp [u2_at, e2]]
        refine lv_iconst (v := 4) hx hb dX4_debt_53 (by decide) ?_
        refine lv_icmp_eq (tgt := 66) hx hb dX4_debt_54 (by decide) (fun c8 => ?_) (fun c8 => ?_)
        · refine lv_iconst (v := 0) hx hb dX4_debt_66 (by decide) ?_
          refine lv_iadd hx hb dX4_debt_67 ?_
          refine lv_topi (fun v9 e9 => ?_)
          refine lv_istore_n (lv' := [(2, .int v9), (0, .ref (am 0)), (1, .int (nI a)), (3, .int (nI r))]) hx hb dX4_debt_68 rfl hl (by decide) rfl (fun ls hl => ?_)
          refine lv_iinc (v := nI (r + 1)) (lv' := [(3, .int (nI (r + 1))), (2, .int v9), (0, .ref (am 0)), (1, .int (nI a))]) hx hb dX4_debt_69 hl (k := 3) rfl (nI_1 _) (by decide) rfl (fun ls hl => ?_)
          refine lv_goto (tgt := 28) hx hb dX4_debt_72 (by decide) ?_
          exact ih28 (r + 1) v9 (by omega) (by rw [e9, hx2]; simp [dbt, c6, c8]) H locs hP hS ls (lv_sub hl [2, 3, 1, 0] rfl)
        · refine lv_aload_n hx hb dX4_debt_57 rfl (lv_at hl 0 rfl) ?_
          refine mg_rx K hP dX4_debt_58 ?_
          refine lv_iload_n hx hb dX4_debt_61 rfl (lv_at hl 3 rfl) ?_
          refine mr_ald K hP (by decide) (by decide) (n := 60) rfl (by omega) (by decide) dX4_debt_62 ?_
          rw [show h2 5 r = h 5 r from by simp [u2_at, e2]]
          refine lv_goto (tgt := 67) hx hb dX4_debt_63 (by decide) ?_
          refine lv_iadd hx hb dX4_debt_67 ?_
          refine lv_topi (fun v10 e10 => ?_)
          refine lv_istore_n (lv' := [(2, .int v10), (0, .ref (am 0)), (1, .int (nI a)), (3, .int (nI r))]) hx hb dX4_debt_68 rfl hl (by decide) rfl (fun ls hl => ?_)
          refine lv_iinc (v := nI (r + 1)) (lv' := [(3, .int (nI (r + 1))), (2, .int v10), (0, .ref (am 0)), (1, .int (nI a))]) hx hb dX4_debt_69 hl (k := 3) rfl (nI_1 _) (by decide) rfl (fun ls hl => ?_)
          refine lv_goto (tgt := 28) hx hb dX4_debt_72 (by decide) ?_
          exact ih28 (r + 1) v10 (by omega) (by rw [e10, hx2]; simp [dbt, c6, c8]) H locs hP hS ls (lv_sub hl [2, 3, 1, 0] rfl)
  exact hloop28 rc 0 0 (by omega) rfl H locs hP hS ls (lv_sub hl [2, 3, 1, 0] rfl)

set_option maxHeartbeats 4000000 in
set_option maxRecDepth 100000 in
theorem c_X4_debt_1 (l : Launch) (Z : fx_Z) (am : Nat → Nat) (hinj : fx_inj 22 am) (h : St) (a : Int32) (ha : bad a 5) : fx_C l Z yX4_debt cX4_debt 4 (some .int) 1 23 0 0 22 am (mF am (Z.2.1 0)) h [.ref (am 0), .int a] (pI (-1) (u2 h 0 3 1)) (fun _ => False) := by
  intro sz
  refine vx_ofW (cc := cX4_debt) (maxL := 4) (ret := (some .int)) (by decide) rfl ?_
  intro p e s m args below meth c s₁ B hml hout hv
  obtain ⟨rfl, hsz, hP, hE, hSt⟩ := hv
  subst hsz
  have hx := B.exec
  have hb := B.bytes
  have hr := B.returns
  have hown : s.vm.findClass RX4 = some m.cls := findClass_of_methodNamed B.named
  have hlocks := B.notSynchronized
  have K : m_K p s m ([.ref (am 0), .int a] : List Value).toArray c cX4_debt 4 Z am := ⟨hx, hb, hml, hown, fun w hw => atoms_spec (ws := fx_l yX4_debt cX4_debt 4 (some .int)) B.pre w (List.mem_cons_of_mem _ hw), hE, hSt, hinj⟩
  have hS : va_S (fx_A 22 am s.heap.size) s.heap s.heap [] := va_S.rf
  have hl := lv_entry ([.ref (am 0), .int a]) (n := 4) (Nat.le_of_ble_eq_true rfl)
  rw [lg_entry_eq]
  generalize (lg_sl ([.ref (am 0), .int a]) ++ List.replicate (4 - (lg_sl ([.ref (am 0), .int a])).length) Slot.unset).toArray = ls at hl ⊢
  have hl : lv_has ls 4 [(0, .ref (am 0)), (1, .int a)] := hl
  refine lv_aload_n hx hb dX4_debt_0 rfl (lv_at hl 0 rfl) ?_
  refine lv_aload_n hx hb dX4_debt_1 rfl (lv_at hl 0 rfl) ?_
  refine lv_iload_n hx hb dX4_debt_2 rfl (lv_at hl 1 rfl) ?_
  refine lv_iconst (v := 0) hx hb dX4_debt_3 (by decide) ?_
  refine lv_iconst (v := 4) hx hb dX4_debt_4 (by decide) ?_
  refine m_callf (rest := [.ref (am 0)]) K hP hS (c_X4_in l Z am hinj h a 0 4) ok_X4_80 rfl ⟨Nat.le_of_ble_eq_true rfl, Nat.le_of_ble_eq_true rfl⟩ rfl hl.1 (Nat.le_of_ble_eq_true rfl) ⟨Nat.le_of_ble_eq_true rfl, Nat.le_of_ble_eq_true rfl⟩ dX4_debt_5 (nix4 ha) (fun H locs hP hS => ?_)
  refine lv_if_eq (tgt := 15) hx hb dX4_debt_8 (by decide) (fun _ => ?_) (fun c1 => absurd (by decide) c1)
  refine lv_iconst (v := 1) hx hb dX4_debt_15 (by decide) ?_
  refine m_callt (rest := []) K hP hS (c_X4_holds l Z am hinj h 1) ok_X4_87 rfl ⟨Nat.le_of_ble_eq_true rfl, Nat.le_of_ble_eq_true rfl⟩ rfl hl.1 (Nat.le_of_ble_eq_true rfl) ⟨Nat.le_of_ble_eq_true rfl, Nat.le_of_ble_eq_true rfl⟩ dX4_debt_16 (by decide) (fun H locs hP hS => ?_)
  obtain ⟨h2, e2⟩ : ∃ z : St, z = (u2 h 0 3 1) := ⟨_, rfl⟩
  rw [← e2] at hP
  refine lv_if_eq (tgt := 24) hx hb dX4_debt_19 (by decide) (fun c3 => absurd c3 (by decide)) (fun _ => ?_)
  refine lv_iconst (v := (-1)) hx hb dX4_debt_22 (by decide) ?_
  exact fx_reti hx hb hr hlocks hP hS (Nat.le_of_ble_eq_true rfl) (Nat.le_of_ble_eq_true rfl) dX4_debt_23 ⟨rfl, e2⟩

set_option maxHeartbeats 4000000 in
set_option maxRecDepth 100000 in
theorem c_X4_left (l : Launch) (Z : fx_Z) (am : Nat → Nat) (hinj : fx_inj 22 am) (h : St) (f : Nat) (hf : f < 20) : fx_C l Z yX4_left cX4_left 4 (some .int) 1 22 0 0 22 am (mF am (Z.2.1 0)) h [.ref (am 0), .int (nI f)] (pI (ml h f 10) h) (fun _ => False) := by
  intro sz
  refine vx_ofW (cc := cX4_left) (maxL := 4) (ret := (some .int)) (by decide) rfl ?_
  intro p e s m args below meth c s₁ B hml hout hv
  obtain ⟨rfl, hsz, hP, hE, hSt⟩ := hv
  subst hsz
  have hx := B.exec
  have hb := B.bytes
  have hr := B.returns
  have hown : s.vm.findClass RX4 = some m.cls := findClass_of_methodNamed B.named
  have hlocks := B.notSynchronized
  have K : m_K p s m ([.ref (am 0), .int (nI f)] : List Value).toArray c cX4_left 4 Z am := ⟨hx, hb, hml, hown, fun w hw => atoms_spec (ws := fx_l yX4_left cX4_left 4 (some .int)) B.pre w (List.mem_cons_of_mem _ hw), hE, hSt, hinj⟩
  have hS : va_S (fx_A 22 am s.heap.size) s.heap s.heap [] := va_S.rf
  have hl := lv_entry ([.ref (am 0), .int (nI f)]) (n := 4) (Nat.le_of_ble_eq_true rfl)
  rw [lg_entry_eq]
  generalize (lg_sl ([.ref (am 0), .int (nI f)]) ++ List.replicate (4 - (lg_sl ([.ref (am 0), .int (nI f)])).length) Slot.unset).toArray = ls at hl ⊢
  have hl : lv_has ls 4 [(0, .ref (am 0)), (1, .int (nI f))] := hl
  refine lv_aload_n hx hb dX4_left_0 rfl (lv_at hl 0 rfl) ?_
  refine mg_fs K hP dX4_left_1 ?_
  refine lv_iload_n hx hb dX4_left_4 rfl (lv_at hl 1 rfl) ?_
  refine mr_ald K hP (by decide) (by decide) (n := 20) rfl (by omega) (by decide) dX4_left_5 ?_
  refine lv_istore_n (lv' := [(2, .int (h 12 f)), (0, .ref (am 0)), (1, .int (nI f))]) hx hb dX4_left_6 rfl hl (by decide) rfl (fun ls hl => ?_)
  refine lv_iconst (v := 0) hx hb dX4_left_7 (by decide) ?_
  refine lv_istore_n (lv' := [(3, .int 0), (2, .int (h 12 f)), (0, .ref (am 0)), (1, .int (nI f))]) hx hb dX4_left_8 rfl hl (by decide) rfl (fun ls hl => ?_)
  have hloop9 : ∀ (d : Nat) (t : Nat) (x : Int32), t + d = 10 → x = ml h f t → ∀ (H : Heap) (locs : List Loc), va_P Z.1 vwCl (iw 22 (mF am (Z.2.1 0) h)) H → va_S (fx_A 22 am s.heap.size) s.heap H locs → ∀ ls : Array Slot, lv_has ls 4 [(0, .ref (am 0)), (1, .int (nI f)), (2, .int x), (3, .int (nI t))] → W p l e (headSpec (fx_l yX4_left cX4_left 4 (some .int)) { frames := 1, cells := 0, slots := 0, locals := 22 }).room s m ([.ref (am 0), .int (nI f)] : List Value).toArray below meth c H locs 0 0 (vx_MQ below (fx_post Z 22 am (mF am (Z.2.1 0)) (pI (ml h f 10) h) s.heap.size) (fx_px Z 22 am (mF am (Z.2.1 0) h) (fun _ => False) s.heap.size) ([.ref (am 0), .int (nI f)] : List Value).toArray s 0 0 (fx_A 22 am s.heap.size)) (F0 m 9 ls []) := by
    intro d
    induction d with
    | zero =>
      intro t x hd hx2 H locs hP hS ls hl
      refine lv_iload_n hx hb dX4_left_9 rfl (lv_at hl 3 rfl) ?_
      refine lv_bipush (v := 10) hx hb dX4_left_10 (by decide) ?_
      refine lv_icmp_ge (tgt := 38) hx hb dX4_left_12 (by decide) (fun _ => ?_) (fun c1 => absurd (nI_le (a := 10) (by omega) (by omega)) c1)
      refine lv_iload_n hx hb dX4_left_38 rfl (lv_at hl 2 rfl) ?_
      exact fx_reti hx hb hr hlocks hP hS (Nat.le_of_ble_eq_true rfl) (Nat.le_of_ble_eq_true rfl) dX4_left_39 ⟨(by rw [hx2, show t = 10 by omega]), rfl⟩
    | succ d ih9 =>
      intro t x hd hx2 H locs hP hS ls hl
      refine lv_iload_n hx hb dX4_left_9 rfl (lv_at hl 3 rfl) ?_
      refine lv_bipush (v := 10) hx hb dX4_left_10 (by decide) ?_
      refine lv_icmp_ge (tgt := 38) hx hb dX4_left_12 (by decide) (fun c2 => absurd c2 (nI_ge (b := 10) (by omega) (by omega))) (fun _ => ?_)
      refine lv_iload_n hx hb dX4_left_15 rfl (lv_at hl 2 rfl) ?_
      refine lv_aload_n hx hb dX4_left_16 rfl (lv_at hl 0 rfl) ?_
      refine lv_iload_n hx hb dX4_left_17 rfl (lv_at hl 3 rfl) ?_
      refine lv_iload_n hx hb dX4_left_18 rfl (lv_at hl 1 rfl) ?_
      refine m_callb (rest := [.int x]) K hP hS (c_X4_hasSeat l Z am hinj h t f (by omega)) ok_X4_97 rfl ⟨Nat.le_of_ble_eq_true rfl, Nat.le_of_ble_eq_true rfl⟩ rfl hl.1 (Nat.le_of_ble_eq_true rfl) ⟨Nat.le_of_ble_eq_true rfl, Nat.le_of_ble_eq_true rfl⟩ dX4_left_19 (fun c3 H locs hP hS => ?_) (fun c3 H locs hP hS => ?_)
      · refine lv_if_eq (tgt := 29) hx hb dX4_left_22 (by decide) (fun c4 => absurd c4 (by decide)) (fun _ => ?_)
        refine lv_iconst (v := 1) hx hb dX4_left_25 (by decide) ?_
        refine lv_goto (tgt := 30) hx hb dX4_left_26 (by decide) ?_
        refine lv_isub hx hb dX4_left_30 ?_
        refine lv_topi (fun v5 e5 => ?_)
        refine lv_istore_n (lv' := [(2, .int v5), (0, .ref (am 0)), (1, .int (nI f)), (3, .int (nI t))]) hx hb dX4_left_31 rfl hl (by decide) rfl (fun ls hl => ?_)
        refine lv_iinc (v := nI (t + 1)) (lv' := [(3, .int (nI (t + 1))), (2, .int v5), (0, .ref (am 0)), (1, .int (nI f))]) hx hb dX4_left_32 hl (k := 3) rfl (nI_1 _) (by decide) rfl (fun ls hl => ?_)
        refine lv_goto (tgt := 9) hx hb dX4_left_35 (by decide) ?_
        exact ih9 (t + 1) v5 (by omega) (by rw [e5, hx2]; simp [ml, mS, c3]) H locs hP hS ls (lv_sub hl [2, 3, 1, 0] rfl)
      · refine lv_if_eq (tgt := 29) hx hb dX4_left_22 (by decide) (fun _ => ?_) (fun c6 => absurd (by decide) c6)
        refine lv_iconst (v := 0) hx hb dX4_left_29 (by decide) ?_
        refine lv_isub hx hb dX4_left_30 ?_
        refine lv_topi (fun v7 e7 => ?_)
        refine lv_istore_n (lv' := [(2, .int v7), (0, .ref (am 0)), (1, .int (nI f)), (3, .int (nI t))]) hx hb dX4_left_31 rfl hl (by decide) rfl (fun ls hl => ?_)
        refine lv_iinc (v := nI (t + 1)) (lv' := [(3, .int (nI (t + 1))), (2, .int v7), (0, .ref (am 0)), (1, .int (nI f))]) hx hb dX4_left_32 hl (k := 3) rfl (nI_1 _) (by decide) rfl (fun ls hl => ?_)
        refine lv_goto (tgt := 9) hx hb dX4_left_35 (by decide) ?_
        exact ih9 (t + 1) v7 (by omega) (by rw [e7, hx2]; simp [ml, mS, c3]) H locs hP hS ls (lv_sub hl [2, 3, 1, 0] rfl)
  exact hloop9 10 0 (h 12 f) (by omega) rfl s.heap [] hP hS ls (lv_sub hl [2, 3, 1, 0] rfl)

set_option maxHeartbeats 4000000 in
set_option maxRecDepth 100000 in
theorem c_X4_seat_0 (l : Launch) (Z : fx_Z) (am : Nat → Nat) (hinj : fx_inj 22 am) (h : St) (fc : Nat) (t : Nat) (f : Nat) (ht9 : t < 10) (hff : f < fc) (hfc : h 0 1 = nI fc) (hf2 : fc ≤ 20) (hg : ¬ h 14 f = 1) (hm : ¬ ml h f 10 = 0) (hs : ¬ mS h f t) (hgo : ¬ h 16 t = 1) : fx_C l Z yX4_seat cX4_seat 4 (some .int) 2 45 0 0 22 am (mF am (Z.2.1 0)) h [.ref (am 0), .int (nI t), .int (nI f)] (pI (ml (u2 (u2 h 0 3 0) 13 f (h 13 f ||| (1 <<< (nI t &&& 31)))) f 10) (u2 (u2 h 0 3 0) 13 f (h 13 f ||| (1 <<< (nI t &&& 31))))) (fun _ => False) := by
  intro sz
  refine vx_ofW (cc := cX4_seat) (maxL := 4) (ret := (some .int)) (by decide) rfl ?_
  intro p e s m args below meth c s₁ B hml hout hv
  obtain ⟨rfl, hsz, hP, hE, hSt⟩ := hv
  subst hsz
  have hx := B.exec
  have hb := B.bytes
  have hr := B.returns
  have hown : s.vm.findClass RX4 = some m.cls := findClass_of_methodNamed B.named
  have hlocks := B.notSynchronized
  have K : m_K p s m ([.ref (am 0), .int (nI t), .int (nI f)] : List Value).toArray c cX4_seat 4 Z am := ⟨hx, hb, hml, hown, fun w hw => atoms_spec (ws := fx_l yX4_seat cX4_seat 4 (some .int)) B.pre w (List.mem_cons_of_mem _ hw), hE, hSt, hinj⟩
  have hS : va_S (fx_A 22 am s.heap.size) s.heap s.heap [] := va_S.rf
  have hl := lv_entry ([.ref (am 0), .int (nI t), .int (nI f)]) (n := 4) (Nat.le_of_ble_eq_true rfl)
  rw [lg_entry_eq]
  generalize (lg_sl ([.ref (am 0), .int (nI t), .int (nI f)]) ++ List.replicate (4 - (lg_sl ([.ref (am 0), .int (nI t), .int (nI f)])).length) Slot.unset).toArray = ls at hl ⊢
  have hl : lv_has ls 4 [(0, .ref (am 0)), (1, .int (nI t)), (2, .int (nI f))] := hl
  refine lv_aload_n hx hb dX4_seat_0 rfl (lv_at hl 0 rfl) ?_
  refine lv_iload_n hx hb dX4_seat_1 rfl (lv_at hl 1 rfl) ?_
  refine lv_iconst (v := 0) hx hb dX4_seat_2 (by decide) ?_
  refine lv_bipush (v := 9) hx hb dX4_seat_3 (by decide) ?_
  refine m_callt (rest := []) K hP hS (c_X4_in l Z am hinj h (nI t) 0 9) ok_X4_80 rfl ⟨Nat.le_of_ble_eq_true rfl, Nat.le_of_ble_eq_true rfl⟩ rfl hl.1 (Nat.le_of_ble_eq_true rfl) ⟨Nat.le_of_ble_eq_true rfl, Nat.le_of_ble_eq_true rfl⟩ dX4_seat_5 (ix9 ht9) (fun H locs hP hS => ?_)
  refine lv_if_eq (tgt := 23) hx hb dX4_seat_8 (by decide) (fun c1 => absurd c1 (by decide)) (fun _ => ?_)
  refine lv_aload_n hx hb dX4_seat_11 rfl (lv_at hl 0 rfl) ?_
  refine lv_iload_n hx hb dX4_seat_12 rfl (lv_at hl 2 rfl) ?_
  refine m_callt (rest := []) K hP hS (c_X4_isFerry l Z am hinj h (nI f)) ok_X4_101 rfl ⟨Nat.le_of_ble_eq_true rfl, Nat.le_of_ble_eq_true rfl⟩ rfl hl.1 (Nat.le_of_ble_eq_true rfl) ⟨Nat.le_of_ble_eq_true rfl, Nat.le_of_ble_eq_true rfl⟩ dX4_seat_13 (isF_t hfc hf2 hff) (fun H locs hP hS => ?_)
  refine lv_if_eq (tgt := 23) hx hb dX4_seat_16 (by decide) (fun c2 => absurd c2 (by decide)) (fun _ => ?_)
  refine lv_iconst (v := 1) hx hb dX4_seat_19 (by decide) ?_
  refine lv_goto (tgt := 24) hx hb dX4_seat_20 (by decide) ?_
  refine lv_istore_n (lv' := [(3, .int 1), (0, .ref (am 0)), (1, .int (nI t)), (2, .int (nI f))]) hx hb dX4_seat_24 rfl hl (by decide) rfl (fun ls hl => ?_)
  refine lv_aload_n hx hb dX4_seat_25 rfl (lv_at hl 1 rfl) ?_
  refine lv_iload_n hx hb dX4_seat_26 rfl (lv_at hl 0 rfl) ?_
  refine lv_if_ne (tgt := 34) hx hb dX4_seat_27 (by decide) (fun _ => ?_) (fun c3 => absurd c3 (by decide))
  refine lv_aload_n hx hb dX4_seat_34 rfl (lv_at hl 1 rfl) ?_
  refine mg_fg K hP dX4_seat_35 ?_
  refine lv_iload_n hx hb dX4_seat_38 rfl (lv_at hl 3 rfl) ?_
  refine mr_ald K hP (by decide) (by decide) (n := 20) rfl (by omega) (by decide) dX4_seat_39 ?_
  refine lv_iconst (v := 1) hx hb dX4_seat_40 (by decide) ?_
  refine lv_icmp_eq (tgt := 71) hx hb dX4_seat_41 (by decide) (fun c4 => absurd c4 hg) (fun _ => ?_)
  refine lv_aload_n hx hb dX4_seat_44 rfl (lv_at hl 1 rfl) ?_
  refine lv_iload_n hx hb dX4_seat_45 rfl (lv_at hl 3 rfl) ?_
  refine m_calli (rest := [.ref (am 0)]) K hP hS (c_X4_left l Z am hinj h f (by omega)) ok_X4_104 rfl ⟨Nat.le_of_ble_eq_true rfl, Nat.le_of_ble_eq_true rfl⟩ rfl hl.1 (Nat.le_of_ble_eq_true rfl) ⟨Nat.le_of_ble_eq_true rfl, Nat.le_of_ble_eq_true rfl⟩ dX4_seat_46 (fun H locs hP hS => ?_)
  refine lv_topi (fun v5 e5 => ?_)
  refine lv_if_eq (tgt := 71) hx hb dX4_seat_49 (by decide) (fun c6 => absurd c6 (by rw [e5]; exact hm)) (fun _ => ?_)
  refine lv_aload_n hx hb dX4_seat_52 rfl (lv_at hl 1 rfl) ?_
  refine lv_iload_n hx hb dX4_seat_53 rfl (lv_at hl 2 rfl) ?_
  refine lv_iload_n hx hb dX4_seat_54 rfl (lv_at hl 3 rfl) ?_
  refine m_callf (rest := [.ref (am 0)]) K hP hS (c_X4_hasSeat l Z am hinj h t f (by omega)) ok_X4_97 rfl ⟨Nat.le_of_ble_eq_true rfl, Nat.le_of_ble_eq_true rfl⟩ rfl hl.1 (Nat.le_of_ble_eq_true rfl) ⟨Nat.le_of_ble_eq_true rfl, Nat.le_of_ble_eq_true rfl⟩ dX4_seat_55 hs (fun H locs hP hS => ?_)
  refine lv_if_ne (tgt := 71) hx hb dX4_seat_58 (by decide) (fun c7 => absurd (by decide) c7) (fun _ => ?_)
  refine lv_aload_n hx hb dX4_seat_61 rfl (lv_at hl 1 rfl) ?_
  refine mg_gone K hP dX4_seat_62 ?_
  refine lv_iload_n hx hb dX4_seat_65 rfl (lv_at hl 2 rfl) ?_
  refine mr_ald K hP (by decide) (by decide) (n := 10) rfl (by omega) (by decide) dX4_seat_66 ?_
  refine lv_iconst (v := 1) hx hb dX4_seat_67 (by decide) ?_
  refine lv_icmp_ne (tgt := 75) hx hb dX4_seat_68 (by decide) (fun _ => ?_) (fun c8 => absurd c8 hgo)
  refine lv_iconst (v := 0) hx hb dX4_seat_75 (by decide) ?_
  refine m_callf (rest := []) K hP hS (c_X4_holds l Z am hinj h 0) ok_X4_87 rfl ⟨Nat.le_of_ble_eq_true rfl, Nat.le_of_ble_eq_true rfl⟩ rfl hl.1 (Nat.le_of_ble_eq_true rfl) ⟨Nat.le_of_ble_eq_true rfl, Nat.le_of_ble_eq_true rfl⟩ dX4_seat_76 (by decide) (fun H locs hP hS => ?_)
  obtain ⟨h9, e9⟩ : ∃ z : St, z = (u2 h 0 3 0) := ⟨_, rfl⟩
  rw [← e9] at hP
  refine lv_if_eq (tgt := 84) hx hb dX4_seat_79 (by decide) (fun _ => ?_) (fun c10 => absurd (by decide) c10)
  refine lv_aload_n hx hb dX4_seat_84 rfl (lv_at hl 1 rfl) ?_
  refine mg_fw K hP dX4_seat_85 ?_
  refine lv_iload_n hx hb dX4_seat_88 rfl (lv_at hl 3 rfl) ?_
  refine lv_dup2_11 hx hb dX4_seat_89 rfl rfl ?_
  refine mr_ald K hP (by decide) (by decide) (n := 20) rfl (by omega) (by decide) dX4_seat_90 ?_
  rw [show h9 13 f = h 13 f from by simp [u2_at, e9]]
  refine lv_iconst (v := 1) hx hb dX4_seat_91 (by decide) ?_
  refine lv_iload_n hx hb dX4_seat_92 rfl (lv_at hl 2 rfl) ?_
  refine lv_ishl hx hb dX4_seat_93 ?_
  refine lv_topi (fun v11 e11 => ?_)
  refine lv_ior hx hb dX4_seat_94 ?_
  refine lv_topi (fun v12 e12 => ?_)
  refine mr_ast K hP hS (by decide) (by decide) (n := 20) rfl (by omega) (by decide) dX4_seat_95 (fun h13 H locs e13 hP hS => ?_)
  refine lv_aload_n hx hb dX4_seat_96 rfl (lv_at hl 1 rfl) ?_
  refine lv_iload_n hx hb dX4_seat_97 rfl (lv_at hl 3 rfl) ?_
  refine m_calli (rest := []) K hP hS (c_X4_left l Z am hinj h13 f (by omega)) ok_X4_104 rfl ⟨Nat.le_of_ble_eq_true rfl, Nat.le_of_ble_eq_true rfl⟩ rfl hl.1 (Nat.le_of_ble_eq_true rfl) ⟨Nat.le_of_ble_eq_true rfl, Nat.le_of_ble_eq_true rfl⟩ dX4_seat_98 (fun H locs hP hS => ?_)
  refine lv_topi (fun v14 e14 => ?_)
  exact fx_reti hx hb hr hlocks hP hS (Nat.le_of_ble_eq_true rfl) (Nat.le_of_ble_eq_true rfl) dX4_seat_101 ⟨by simp only [e5, e9, e11, e12, e13, e14], by simp only [e5, e9, e11, e12, e13, e14]⟩

set_option maxHeartbeats 4000000 in
set_option maxRecDepth 100000 in
theorem c_X4_seat_1 (l : Launch) (Z : fx_Z) (am : Nat → Nat) (hinj : fx_inj 22 am) (h : St) (fc : Nat) (t : Int32) (f : Int32) (hfc : h 0 1 = nI fc) (hf2 : fc ≤ 20) (hbad : bad t 10 ∨ bad f fc) : fx_C l Z yX4_seat cX4_seat 4 (some .int) 2 44 0 0 22 am (mF am (Z.2.1 0)) h [.ref (am 0), .int t, .int f] (pI (-1) (u2 h 0 3 1)) (fun _ => False) := by
  intro sz
  refine vx_ofW (cc := cX4_seat) (maxL := 4) (ret := (some .int)) (by decide) rfl ?_
  intro p e s m args below meth c s₁ B hml hout hv
  obtain ⟨rfl, hsz, hP, hE, hSt⟩ := hv
  subst hsz
  have hx := B.exec
  have hb := B.bytes
  have hr := B.returns
  have hown : s.vm.findClass RX4 = some m.cls := findClass_of_methodNamed B.named
  have hlocks := B.notSynchronized
  have K : m_K p s m ([.ref (am 0), .int t, .int f] : List Value).toArray c cX4_seat 4 Z am := ⟨hx, hb, hml, hown, fun w hw => atoms_spec (ws := fx_l yX4_seat cX4_seat 4 (some .int)) B.pre w (List.mem_cons_of_mem _ hw), hE, hSt, hinj⟩
  have hS : va_S (fx_A 22 am s.heap.size) s.heap s.heap [] := va_S.rf
  have hl := lv_entry ([.ref (am 0), .int t, .int f]) (n := 4) (Nat.le_of_ble_eq_true rfl)
  rw [lg_entry_eq]
  generalize (lg_sl ([.ref (am 0), .int t, .int f]) ++ List.replicate (4 - (lg_sl ([.ref (am 0), .int t, .int f])).length) Slot.unset).toArray = ls at hl ⊢
  have hl : lv_has ls 4 [(0, .ref (am 0)), (1, .int t), (2, .int f)] := hl
  refine lv_aload_n hx hb dX4_seat_0 rfl (lv_at hl 0 rfl) ?_
  refine lv_iload_n hx hb dX4_seat_1 rfl (lv_at hl 1 rfl) ?_
  refine lv_iconst (v := 0) hx hb dX4_seat_2 (by decide) ?_
  refine lv_bipush (v := 9) hx hb dX4_seat_3 (by decide) ?_
  refine m_callb (rest := []) K hP hS (c_X4_in l Z am hinj h t 0 9) ok_X4_80 rfl ⟨Nat.le_of_ble_eq_true rfl, Nat.le_of_ble_eq_true rfl⟩ rfl hl.1 (Nat.le_of_ble_eq_true rfl) ⟨Nat.le_of_ble_eq_true rfl, Nat.le_of_ble_eq_true rfl⟩ dX4_seat_5 (fun c1 H locs hP hS => ?_) (fun c1 H locs hP hS => ?_)
  · refine lv_if_eq (tgt := 23) hx hb dX4_seat_8 (by decide) (fun c2 => absurd c2 (by decide)) (fun _ => ?_)
    refine lv_aload_n hx hb dX4_seat_11 rfl (lv_at hl 0 rfl) ?_
    refine lv_iload_n hx hb dX4_seat_12 rfl (lv_at hl 2 rfl) ?_
    refine m_callb (rest := []) K hP hS (c_X4_isFerry l Z am hinj h f) ok_X4_101 rfl ⟨Nat.le_of_ble_eq_true rfl, Nat.le_of_ble_eq_true rfl⟩ rfl hl.1 (Nat.le_of_ble_eq_true rfl) ⟨Nat.le_of_ble_eq_true rfl, Nat.le_of_ble_eq_true rfl⟩ dX4_seat_13 (fun c3 H locs hP hS => ?_) (fun c3 H locs hP hS => ?_)
    · exact absurd hbad (nbad2 hfc hf2 c1 c3)
    · refine lv_if_eq (tgt := 23) hx hb dX4_seat_16 (by decide) (fun _ => ?_) (fun c4 => absurd (by decide) c4)
      refine lv_iconst (v := 0) hx hb dX4_seat_23 (by decide) ?_
      refine lv_istore_n (lv' := [(3, .int 0), (0, .ref (am 0)), (1, .int t), (2, .int f)]) hx hb dX4_seat_24 rfl hl (by decide) rfl (fun ls hl => ?_)
      refine lv_aload_n hx hb dX4_seat_25 rfl (lv_at hl 1 rfl) ?_
      refine lv_iload_n hx hb dX4_seat_26 rfl (lv_at hl 0 rfl) ?_
      refine lv_if_ne (tgt := 34) hx hb dX4_seat_27 (by decide) (fun c5 => absurd (by decide) c5) (fun _ => ?_)
      refine lv_iconst (v := 1) hx hb dX4_seat_30 (by decide) ?_
      refine lv_goto (tgt := 76) hx hb dX4_seat_31 (by decide) ?_
      refine m_callt (rest := []) K hP hS (c_X4_holds l Z am hinj h 1) ok_X4_87 rfl ⟨Nat.le_of_ble_eq_true rfl, Nat.le_of_ble_eq_true rfl⟩ rfl hl.1 (Nat.le_of_ble_eq_true rfl) ⟨Nat.le_of_ble_eq_true rfl, Nat.le_of_ble_eq_true rfl⟩ dX4_seat_76 (by decide) (fun H locs hP hS => ?_)
      obtain ⟨h6, e6⟩ : ∃ z : St, z = (u2 h 0 3 1) := ⟨_, rfl⟩
      rw [← e6] at hP
      refine lv_if_eq (tgt := 84) hx hb dX4_seat_79 (by decide) (fun c7 => absurd c7 (by decide)) (fun _ => ?_)
      refine lv_iconst (v := (-1)) hx hb dX4_seat_82 (by decide) ?_
      exact fx_reti hx hb hr hlocks hP hS (Nat.le_of_ble_eq_true rfl) (Nat.le_of_ble_eq_true rfl) dX4_seat_83 ⟨rfl, e6⟩
  · refine lv_if_eq (tgt := 23) hx hb dX4_seat_8 (by decide) (fun _ => ?_) (fun c8 => absurd (by decide) c8)
    refine lv_iconst (v := 0) hx hb dX4_seat_23 (by decide) ?_
    refine lv_istore_n (lv' := [(3, .int 0), (0, .ref (am 0)), (1, .int t), (2, .int f)]) hx hb dX4_seat_24 rfl hl (by decide) rfl (fun ls hl => ?_)
    refine lv_aload_n hx hb dX4_seat_25 rfl (lv_at hl 1 rfl) ?_
    refine lv_iload_n hx hb dX4_seat_26 rfl (lv_at hl 0 rfl) ?_
    refine lv_if_ne (tgt := 34) hx hb dX4_seat_27 (by decide) (fun c9 => absurd (by decide) c9) (fun _ => ?_)
    refine lv_iconst (v := 1) hx hb dX4_seat_30 (by decide) ?_
    refine lv_goto (tgt := 76) hx hb dX4_seat_31 (by decide) ?_
    refine m_callt (rest := []) K hP hS (c_X4_holds l Z am hinj h 1) ok_X4_87 rfl ⟨Nat.le_of_ble_eq_true rfl, Nat.le_of_ble_eq_true rfl⟩ rfl hl.1 (Nat.le_of_ble_eq_true rfl) ⟨Nat.le_of_ble_eq_true rfl, Nat.le_of_ble_eq_true rfl⟩ dX4_seat_76 (by decide) (fun H locs hP hS => ?_)
    obtain ⟨h10, e10⟩ : ∃ z : St, z = (u2 h 0 3 1) := ⟨_, rfl⟩
    rw [← e10] at hP
    refine lv_if_eq (tgt := 84) hx hb dX4_seat_79 (by decide) (fun c11 => absurd c11 (by decide)) (fun _ => ?_)
    refine lv_iconst (v := (-1)) hx hb dX4_seat_82 (by decide) ?_
    exact fx_reti hx hb hr hlocks hP hS (Nat.le_of_ble_eq_true rfl) (Nat.le_of_ble_eq_true rfl) dX4_seat_83 ⟨rfl, e10⟩

set_option maxHeartbeats 4000000 in
set_option maxRecDepth 100000 in
theorem c_X4_seat_2 (l : Launch) (Z : fx_Z) (am : Nat → Nat) (hinj : fx_inj 22 am) (h : St) (fc : Nat) (t : Nat) (f : Nat) (ht9 : t < 10) (hff : f < fc) (hfc : h 0 1 = nI fc) (hf2 : fc ≤ 20) (hbad : h 14 f = 1 ∨ ml h f 10 = 0 ∨ mS h f t ∨ h 16 t = 1) : fx_C l Z yX4_seat cX4_seat 4 (some .int) 2 45 0 0 22 am (mF am (Z.2.1 0)) h [.ref (am 0), .int (nI t), .int (nI f)] (pI (-1) (u2 h 0 3 2)) (fun _ => False) := by
  intro sz
  refine vx_ofW (cc := cX4_seat) (maxL := 4) (ret := (some .int)) (by decide) rfl ?_
  intro p e s m args below meth c s₁ B hml hout hv
  obtain ⟨rfl, hsz, hP, hE, hSt⟩ := hv
  subst hsz
  have hx := B.exec
  have hb := B.bytes
  have hr := B.returns
  have hown : s.vm.findClass RX4 = some m.cls := findClass_of_methodNamed B.named
  have hlocks := B.notSynchronized
  have K : m_K p s m ([.ref (am 0), .int (nI t), .int (nI f)] : List Value).toArray c cX4_seat 4 Z am := ⟨hx, hb, hml, hown, fun w hw => atoms_spec (ws := fx_l yX4_seat cX4_seat 4 (some .int)) B.pre w (List.mem_cons_of_mem _ hw), hE, hSt, hinj⟩
  have hS : va_S (fx_A 22 am s.heap.size) s.heap s.heap [] := va_S.rf
  have hl := lv_entry ([.ref (am 0), .int (nI t), .int (nI f)]) (n := 4) (Nat.le_of_ble_eq_true rfl)
  rw [lg_entry_eq]
  generalize (lg_sl ([.ref (am 0), .int (nI t), .int (nI f)]) ++ List.replicate (4 - (lg_sl ([.ref (am 0), .int (nI t), .int (nI f)])).length) Slot.unset).toArray = ls at hl ⊢
  have hl : lv_has ls 4 [(0, .ref (am 0)), (1, .int (nI t)), (2, .int (nI f))] := hl
  refine lv_aload_n hx hb dX4_seat_0 rfl (lv_at hl 0 rfl) ?_
  refine lv_iload_n hx hb dX4_seat_1 rfl (lv_at hl 1 rfl) ?_
  refine lv_iconst (v := 0) hx hb dX4_seat_2 (by decide) ?_
  refine lv_bipush (v := 9) hx hb dX4_seat_3 (by decide) ?_
  refine m_callt (rest := []) K hP hS (c_X4_in l Z am hinj h (nI t) 0 9) ok_X4_80 rfl ⟨Nat.le_of_ble_eq_true rfl, Nat.le_of_ble_eq_true rfl⟩ rfl hl.1 (Nat.le_of_ble_eq_true rfl) ⟨Nat.le_of_ble_eq_true rfl, Nat.le_of_ble_eq_true rfl⟩ dX4_seat_5 (ix9 ht9) (fun H locs hP hS => ?_)
  refine lv_if_eq (tgt := 23) hx hb dX4_seat_8 (by decide) (fun c1 => absurd c1 (by decide)) (fun _ => ?_)
  refine lv_aload_n hx hb dX4_seat_11 rfl (lv_at hl 0 rfl) ?_
  refine lv_iload_n hx hb dX4_seat_12 rfl (lv_at hl 2 rfl) ?_
  refine m_callt (rest := []) K hP hS (c_X4_isFerry l Z am hinj h (nI f)) ok_X4_101 rfl ⟨Nat.le_of_ble_eq_true rfl, Nat.le_of_ble_eq_true rfl⟩ rfl hl.1 (Nat.le_of_ble_eq_true rfl) ⟨Nat.le_of_ble_eq_true rfl, Nat.le_of_ble_eq_true rfl⟩ dX4_seat_13 (isF_t hfc hf2 hff) (fun H locs hP hS => ?_)
  refine lv_if_eq (tgt := 23) hx hb dX4_seat_16 (by decide) (fun c2 => absurd c2 (by decide)) (fun _ => ?_)
  refine lv_iconst (v := 1) hx hb dX4_seat_19 (by decide) ?_
  refine lv_goto (tgt := 24) hx hb dX4_seat_20 (by decide) ?_
  refine lv_istore_n (lv' := [(3, .int 1), (0, .ref (am 0)), (1, .int (nI t)), (2, .int (nI f))]) hx hb dX4_seat_24 rfl hl (by decide) rfl (fun ls hl => ?_)
  refine lv_aload_n hx hb dX4_seat_25 rfl (lv_at hl 1 rfl) ?_
  refine lv_iload_n hx hb dX4_seat_26 rfl (lv_at hl 0 rfl) ?_
  refine lv_if_ne (tgt := 34) hx hb dX4_seat_27 (by decide) (fun _ => ?_) (fun c3 => absurd c3 (by decide))
  refine lv_aload_n hx hb dX4_seat_34 rfl (lv_at hl 1 rfl) ?_
  refine mg_fg K hP dX4_seat_35 ?_
  refine lv_iload_n hx hb dX4_seat_38 rfl (lv_at hl 3 rfl) ?_
  refine mr_ald K hP (by decide) (by decide) (n := 20) rfl (by omega) (by decide) dX4_seat_39 ?_
  refine lv_iconst (v := 1) hx hb dX4_seat_40 (by decide) ?_
  refine lv_icmp_eq (tgt := 71) hx hb dX4_seat_41 (by decide) (fun c4 => ?_) (fun c4 => ?_)
  · refine lv_iconst (v := 2) hx hb dX4_seat_71 (by decide) ?_
    refine lv_goto (tgt := 76) hx hb dX4_seat_72 (by decide) ?_
    refine m_callt (rest := []) K hP hS (c_X4_holds l Z am hinj h 2) ok_X4_87 rfl ⟨Nat.le_of_ble_eq_true rfl, Nat.le_of_ble_eq_true rfl⟩ rfl hl.1 (Nat.le_of_ble_eq_true rfl) ⟨Nat.le_of_ble_eq_true rfl, Nat.le_of_ble_eq_true rfl⟩ dX4_seat_76 (by decide) (fun H locs hP hS => ?_)
    obtain ⟨h5, e5⟩ : ∃ z : St, z = (u2 h 0 3 2) := ⟨_, rfl⟩
    rw [← e5] at hP
    refine lv_if_eq (tgt := 84) hx hb dX4_seat_79 (by decide) (fun c6 => absurd c6 (by decide)) (fun _ => ?_)
    refine lv_iconst (v := (-1)) hx hb dX4_seat_82 (by decide) ?_
    exact fx_reti hx hb hr hlocks hP hS (Nat.le_of_ble_eq_true rfl) (Nat.le_of_ble_eq_true rfl) dX4_seat_83 ⟨rfl, e5⟩
  · refine lv_aload_n hx hb dX4_seat_44 rfl (lv_at hl 1 rfl) ?_
    refine lv_iload_n hx hb dX4_seat_45 rfl (lv_at hl 3 rfl) ?_
    refine m_calli (rest := [.ref (am 0)]) K hP hS (c_X4_left l Z am hinj h f (by omega)) ok_X4_104 rfl ⟨Nat.le_of_ble_eq_true rfl, Nat.le_of_ble_eq_true rfl⟩ rfl hl.1 (Nat.le_of_ble_eq_true rfl) ⟨Nat.le_of_ble_eq_true rfl, Nat.le_of_ble_eq_true rfl⟩ dX4_seat_46 (fun H locs hP hS => ?_)
    refine lv_topi (fun v7 e7 => ?_)
    refine lv_if_eq (tgt := 71) hx hb dX4_seat_49 (by decide) (fun c8 => ?_) (fun c8 => ?_)
    · refine lv_iconst (v := 2) hx hb dX4_seat_71 (by decide) ?_
      refine lv_goto (tgt := 76) hx hb dX4_seat_72 (by decide) ?_
      refine m_callt (rest := []) K hP hS (c_X4_holds l Z am hinj h 2) ok_X4_87 rfl ⟨Nat.le_of_ble_eq_true rfl, Nat.le_of_ble_eq_true rfl⟩ rfl hl.1 (Nat.le_of_ble_eq_true rfl) ⟨Nat.le_of_ble_eq_true rfl, Nat.le_of_ble_eq_true rfl⟩ dX4_seat_76 (by decide) (fun H locs hP hS => ?_)
      obtain ⟨h9, e9⟩ : ∃ z : St, z = (u2 h 0 3 2) := ⟨_, rfl⟩
      rw [← e9] at hP
      refine lv_if_eq (tgt := 84) hx hb dX4_seat_79 (by decide) (fun c10 => absurd c10 (by decide)) (fun _ => ?_)
      refine lv_iconst (v := (-1)) hx hb dX4_seat_82 (by decide) ?_
      exact fx_reti hx hb hr hlocks hP hS (Nat.le_of_ble_eq_true rfl) (Nat.le_of_ble_eq_true rfl) dX4_seat_83 ⟨rfl, e9⟩
    · refine lv_aload_n hx hb dX4_seat_52 rfl (lv_at hl 1 rfl) ?_
      refine lv_iload_n hx hb dX4_seat_53 rfl (lv_at hl 2 rfl) ?_
      refine lv_iload_n hx hb dX4_seat_54 rfl (lv_at hl 3 rfl) ?_
      refine m_callb (rest := [.ref (am 0)]) K hP hS (c_X4_hasSeat l Z am hinj h t f (by omega)) ok_X4_97 rfl ⟨Nat.le_of_ble_eq_true rfl, Nat.le_of_ble_eq_true rfl⟩ rfl hl.1 (Nat.le_of_ble_eq_true rfl) ⟨Nat.le_of_ble_eq_true rfl, Nat.le_of_ble_eq_true rfl⟩ dX4_seat_55 (fun c11 H locs hP hS => ?_) (fun c11 H locs hP hS => ?_)
      · refine lv_if_ne (tgt := 71) hx hb dX4_seat_58 (by decide) (fun _ => ?_) (fun c12 => absurd c12 (by decide))
        refine lv_iconst (v := 2) hx hb dX4_seat_71 (by decide) ?_
        refine lv_goto (tgt := 76) hx hb dX4_seat_72 (by decide) ?_
        refine m_callt (rest := []) K hP hS (c_X4_holds l Z am hinj h 2) ok_X4_87 rfl ⟨Nat.le_of_ble_eq_true rfl, Nat.le_of_ble_eq_true rfl⟩ rfl hl.1 (Nat.le_of_ble_eq_true rfl) ⟨Nat.le_of_ble_eq_true rfl, Nat.le_of_ble_eq_true rfl⟩ dX4_seat_76 (by decide) (fun H locs hP hS => ?_)
        obtain ⟨h13, e13⟩ : ∃ z : St, z = (u2 h 0 3 2) := ⟨_, rfl⟩
        rw [← e13] at hP
        refine lv_if_eq (tgt := 84) hx hb dX4_seat_79 (by decide) (fun c14 => absurd c14 (by decide)) (fun _ => ?_)
        refine lv_iconst (v := (-1)) hx hb dX4_seat_82 (by decide) ?_
        exact fx_reti hx hb hr hlocks hP hS (Nat.le_of_ble_eq_true rfl) (Nat.le_of_ble_eq_true rfl) dX4_seat_83 ⟨rfl, e13⟩
      · refine lv_if_ne (tgt := 71) hx hb dX4_seat_58 (by decide) (fun c15 => absurd (by decide) c15) (fun _ => ?_)
        refine lv_aload_n hx hb dX4_seat_61 rfl (lv_at hl 1 rfl) ?_
        refine mg_gone K hP dX4_seat_62 ?_
        refine lv_iload_n hx hb dX4_seat_65 rfl (lv_at hl 2 rfl) ?_
        refine mr_ald K hP (by decide) (by decide) (n := 10) rfl (by omega) (by decide) dX4_seat_66 ?_
        refine lv_iconst (v := 1) hx hb dX4_seat_67 (by decide) ?_
        refine lv_icmp_ne (tgt := 75) hx hb dX4_seat_68 (by decide) (fun c16 => ?_) (fun c16 => ?_)
        · exact absurd hbad (by simp only [not_or]; exact ⟨c4, fun q => c8 (e7.trans q), c11, c16⟩)
        · refine lv_iconst (v := 2) hx hb dX4_seat_71 (by decide) ?_
          refine lv_goto (tgt := 76) hx hb dX4_seat_72 (by decide) ?_
          refine m_callt (rest := []) K hP hS (c_X4_holds l Z am hinj h 2) ok_X4_87 rfl ⟨Nat.le_of_ble_eq_true rfl, Nat.le_of_ble_eq_true rfl⟩ rfl hl.1 (Nat.le_of_ble_eq_true rfl) ⟨Nat.le_of_ble_eq_true rfl, Nat.le_of_ble_eq_true rfl⟩ dX4_seat_76 (by decide) (fun H locs hP hS => ?_)
          obtain ⟨h17, e17⟩ : ∃ z : St, z = (u2 h 0 3 2) := ⟨_, rfl⟩
          rw [← e17] at hP
          refine lv_if_eq (tgt := 84) hx hb dX4_seat_79 (by decide) (fun c18 => absurd c18 (by decide)) (fun _ => ?_)
          refine lv_iconst (v := (-1)) hx hb dX4_seat_82 (by decide) ?_
          exact fx_reti hx hb hr hlocks hP hS (Nat.le_of_ble_eq_true rfl) (Nat.le_of_ble_eq_true rfl) dX4_seat_83 ⟨rfl, e17⟩

set_option maxHeartbeats 4000000 in
set_option maxRecDepth 100000 in
theorem c_X4_leaveSeat_0a (l : Launch) (Z : fx_Z) (am : Nat → Nat) (hinj : fx_inj 22 am) (h : St) (fc : Nat) (rc : Nat) (t : Nat) (f : Nat) (ht9 : t < 10) (hff : f < fc) (hfc : h 0 1 = nI fc) (hf2 : fc ≤ 20) (hrc : h 0 0 = nI rc) (hr6 : rc ≤ 60) (hg : ¬ h 14 f = 1) (hs : mS h f t) (hab : h 15 t = nI f) : fx_C l Z yX4_leaveSeat cX4_leaveSeat 6 (some .int) 2 44 0 0 22 am (mF am (Z.2.1 0)) h [.ref (am 0), .int (nI t), .int (nI f)] (pI (nI (nRo (u2 (u2 (u2 h 0 3 0) 13 f (h 13 f &&& ((1 <<< (nI t &&& 31)) ^^^ (-1)))) 15 t (-1)) t f rc)) (cRo (u2 (u2 (u2 h 0 3 0) 13 f (h 13 f &&& ((1 <<< (nI t &&& 31)) ^^^ (-1)))) 15 t (-1)) t f rc)) (fun _ => False) := by
  intro sz
  refine vx_ofW (cc := cX4_leaveSeat) (maxL := 6) (ret := (some .int)) (by decide) rfl ?_
  intro p e s m args below meth c s₁ B hml hout hv
  obtain ⟨rfl, hsz, hP, hE, hSt⟩ := hv
  subst hsz
  have hx := B.exec
  have hb := B.bytes
  have hr := B.returns
  have hown : s.vm.findClass RX4 = some m.cls := findClass_of_methodNamed B.named
  have hlocks := B.notSynchronized
  have K : m_K p s m ([.ref (am 0), .int (nI t), .int (nI f)] : List Value).toArray c cX4_leaveSeat 6 Z am := ⟨hx, hb, hml, hown, fun w hw => atoms_spec (ws := fx_l yX4_leaveSeat cX4_leaveSeat 6 (some .int)) B.pre w (List.mem_cons_of_mem _ hw), hE, hSt, hinj⟩
  have hS : va_S (fx_A 22 am s.heap.size) s.heap s.heap [] := va_S.rf
  have hl := lv_entry ([.ref (am 0), .int (nI t), .int (nI f)]) (n := 6) (Nat.le_of_ble_eq_true rfl)
  rw [lg_entry_eq]
  generalize (lg_sl ([.ref (am 0), .int (nI t), .int (nI f)]) ++ List.replicate (6 - (lg_sl ([.ref (am 0), .int (nI t), .int (nI f)])).length) Slot.unset).toArray = ls at hl ⊢
  have hl : lv_has ls 6 [(0, .ref (am 0)), (1, .int (nI t)), (2, .int (nI f))] := hl
  refine lv_aload_n hx hb dX4_leaveSeat_0 rfl (lv_at hl 0 rfl) ?_
  refine lv_iload_n hx hb dX4_leaveSeat_1 rfl (lv_at hl 1 rfl) ?_
  refine lv_iconst (v := 0) hx hb dX4_leaveSeat_2 (by decide) ?_
  refine lv_bipush (v := 9) hx hb dX4_leaveSeat_3 (by decide) ?_
  refine m_callt (rest := []) K hP hS (c_X4_in l Z am hinj h (nI t) 0 9) ok_X4_80 rfl ⟨Nat.le_of_ble_eq_true rfl, Nat.le_of_ble_eq_true rfl⟩ rfl hl.1 (Nat.le_of_ble_eq_true rfl) ⟨Nat.le_of_ble_eq_true rfl, Nat.le_of_ble_eq_true rfl⟩ dX4_leaveSeat_5 (ix9 ht9) (fun H locs hP hS => ?_)
  refine lv_if_eq (tgt := 23) hx hb dX4_leaveSeat_8 (by decide) (fun c1 => absurd c1 (by decide)) (fun _ => ?_)
  refine lv_aload_n hx hb dX4_leaveSeat_11 rfl (lv_at hl 0 rfl) ?_
  refine lv_iload_n hx hb dX4_leaveSeat_12 rfl (lv_at hl 2 rfl) ?_
  refine m_callt (rest := []) K hP hS (c_X4_isFerry l Z am hinj h (nI f)) ok_X4_101 rfl ⟨Nat.le_of_ble_eq_true rfl, Nat.le_of_ble_eq_true rfl⟩ rfl hl.1 (Nat.le_of_ble_eq_true rfl) ⟨Nat.le_of_ble_eq_true rfl, Nat.le_of_ble_eq_true rfl⟩ dX4_leaveSeat_13 (isF_t hfc hf2 hff) (fun H locs hP hS => ?_)
  refine lv_if_eq (tgt := 23) hx hb dX4_leaveSeat_16 (by decide) (fun c2 => absurd c2 (by decide)) (fun _ => ?_)
  refine lv_iconst (v := 1) hx hb dX4_leaveSeat_19 (by decide) ?_
  refine lv_goto (tgt := 24) hx hb dX4_leaveSeat_20 (by decide) ?_
  refine lv_istore_n (lv' := [(3, .int 1), (0, .ref (am 0)), (1, .int (nI t)), (2, .int (nI f))]) hx hb dX4_leaveSeat_24 rfl hl (by decide) rfl (fun ls hl => ?_)
  refine lv_aload_n hx hb dX4_leaveSeat_25 rfl (lv_at hl 1 rfl) ?_
  refine lv_iload_n hx hb dX4_leaveSeat_26 rfl (lv_at hl 0 rfl) ?_
  refine lv_if_ne (tgt := 34) hx hb dX4_leaveSeat_27 (by decide) (fun _ => ?_) (fun c3 => absurd c3 (by decide))
  refine lv_aload_n hx hb dX4_leaveSeat_34 rfl (lv_at hl 1 rfl) ?_
  refine mg_fg K hP dX4_leaveSeat_35 ?_
  refine lv_iload_n hx hb dX4_leaveSeat_38 rfl (lv_at hl 3 rfl) ?_
  refine mr_ald K hP (by decide) (by decide) (n := 20) rfl (by omega) (by decide) dX4_leaveSeat_39 ?_
  refine lv_iconst (v := 1) hx hb dX4_leaveSeat_40 (by decide) ?_
  refine lv_icmp_eq (tgt := 53) hx hb dX4_leaveSeat_41 (by decide) (fun c4 => absurd c4 hg) (fun _ => ?_)
  refine lv_aload_n hx hb dX4_leaveSeat_44 rfl (lv_at hl 1 rfl) ?_
  refine lv_iload_n hx hb dX4_leaveSeat_45 rfl (lv_at hl 2 rfl) ?_
  refine lv_iload_n hx hb dX4_leaveSeat_46 rfl (lv_at hl 3 rfl) ?_
  refine m_callt (rest := [.ref (am 0)]) K hP hS (c_X4_hasSeat l Z am hinj h t f (by omega)) ok_X4_97 rfl ⟨Nat.le_of_ble_eq_true rfl, Nat.le_of_ble_eq_true rfl⟩ rfl hl.1 (Nat.le_of_ble_eq_true rfl) ⟨Nat.le_of_ble_eq_true rfl, Nat.le_of_ble_eq_true rfl⟩ dX4_leaveSeat_47 hs (fun H locs hP hS => ?_)
  refine lv_if_ne (tgt := 57) hx hb dX4_leaveSeat_50 (by decide) (fun _ => ?_) (fun c5 => absurd c5 (by decide))
  refine lv_iconst (v := 0) hx hb dX4_leaveSeat_57 (by decide) ?_
  refine m_callf (rest := []) K hP hS (c_X4_holds l Z am hinj h 0) ok_X4_87 rfl ⟨Nat.le_of_ble_eq_true rfl, Nat.le_of_ble_eq_true rfl⟩ rfl hl.1 (Nat.le_of_ble_eq_true rfl) ⟨Nat.le_of_ble_eq_true rfl, Nat.le_of_ble_eq_true rfl⟩ dX4_leaveSeat_58 (by decide) (fun H locs hP hS => ?_)
  obtain ⟨h6, e6⟩ : ∃ z : St, z = (u2 h 0 3 0) := ⟨_, rfl⟩
  rw [← e6] at hP
  refine lv_if_eq (tgt := 66) hx hb dX4_leaveSeat_61 (by decide) (fun _ => ?_) (fun c7 => absurd (by decide) c7)
  refine lv_aload_n hx hb dX4_leaveSeat_66 rfl (lv_at hl 1 rfl) ?_
  refine mg_fw K hP dX4_leaveSeat_67 ?_
  refine lv_iload_n hx hb dX4_leaveSeat_70 rfl (lv_at hl 3 rfl) ?_
  refine lv_dup2_11 hx hb dX4_leaveSeat_71 rfl rfl ?_
  refine mr_ald K hP (by decide) (by decide) (n := 20) rfl (by omega) (by decide) dX4_leaveSeat_72 ?_
  rw [show h6 13 f = h 13 f from by simp [u2_at, e6]]
  refine lv_iconst (v := 1) hx hb dX4_leaveSeat_73 (by decide) ?_
  refine lv_iload_n hx hb dX4_leaveSeat_74 rfl (lv_at hl 2 rfl) ?_
  refine lv_ishl hx hb dX4_leaveSeat_75 ?_
  refine lv_topi (fun v8 e8 => ?_)
  refine lv_iconst (v := (-1)) hx hb dX4_leaveSeat_76 (by decide) ?_
  refine lv_ixor hx hb dX4_leaveSeat_77 ?_
  refine lv_topi (fun v9 e9 => ?_)
  refine lv_iand hx hb dX4_leaveSeat_78 ?_
  refine lv_topi (fun v10 e10 => ?_)
  refine mr_ast K hP hS (by decide) (by decide) (n := 20) rfl (by omega) (by decide) dX4_leaveSeat_79 (fun h11 H locs e11 hP hS => ?_)
  refine lv_aload_n hx hb dX4_leaveSeat_80 rfl (lv_at hl 1 rfl) ?_
  refine mg_ab K hP dX4_leaveSeat_81 ?_
  refine lv_iload_n hx hb dX4_leaveSeat_84 rfl (lv_at hl 2 rfl) ?_
  refine lv_aload_n hx hb dX4_leaveSeat_85 rfl (lv_at hl 1 rfl) ?_
  refine mg_ab K hP dX4_leaveSeat_86 ?_
  refine lv_iload_n hx hb dX4_leaveSeat_89 rfl (lv_at hl 2 rfl) ?_
  refine mr_ald K hP (by decide) (by decide) (n := 10) rfl (by omega) (by decide) dX4_leaveSeat_90 ?_
  rw [show h11 15 t = h 15 t from by simp [u2_at, e6, e11]]
  refine lv_iload_n hx hb dX4_leaveSeat_91 rfl (lv_at hl 3 rfl) ?_
  refine lv_icmp_ne (tgt := 99) hx hb dX4_leaveSeat_92 (by decide) (fun c12 => absurd hab c12) (fun _ => ?_)
  refine lv_iconst (v := (-1)) hx hb dX4_leaveSeat_95 (by decide) ?_
  refine lv_goto (tgt := 105) hx hb dX4_leaveSeat_96 (by decide) ?_
  refine mr_ast K hP hS (by decide) (by decide) (n := 10) rfl (by omega) (by decide) dX4_leaveSeat_105 (fun h13 H locs e13 hP hS => ?_)
  refine lv_iconst (v := 0) hx hb dX4_leaveSeat_106 (by decide) ?_
  refine lv_istore (lv' := [(4, .int 0), (3, .int 1), (0, .ref (am 0)), (1, .int (nI t)), (2, .int (nI f))]) hx hb dX4_leaveSeat_107 hl (by decide) rfl (fun ls hl => ?_)
  refine lv_iconst (v := 0) hx hb dX4_leaveSeat_109 (by decide) ?_
  refine lv_istore (lv' := [(5, .int 0), (4, .int 0), (3, .int 1), (0, .ref (am 0)), (1, .int (nI t)), (2, .int (nI f))]) hx hb dX4_leaveSeat_110 hl (by decide) rfl (fun ls hl => ?_)
  obtain ⟨g0, eg0⟩ : ∃ z : St, z = (u2 (u2 (u2 h 0 3 0) 13 f (h 13 f &&& ((1 <<< (nI t &&& 31)) ^^^ (-1)))) 15 t (-1)) := ⟨_, rfl⟩
  rw [show h13 = g0 from by rw [eg0]; simp only [e6, e8, e9, e10, e11, e13]] at hP
  rw [← cRo_0 g0 t f] at hP
  have hloop112 : ∀ (d : Nat) (r : Nat) (k : Nat), r + d = rc → k = nRo g0 t f r → ∀ (H : Heap) (locs : List Loc), va_P Z.1 vwCl (iw 22 (mF am (Z.2.1 0) (cRo g0 t f r))) H → va_S (fx_A 22 am s.heap.size) s.heap H locs → ∀ ls : Array Slot, lv_has ls 6 [(0, .ref (am 0)), (1, .int (nI t)), (2, .int (nI f)), (4, .int (nI k)), (5, .int (nI r))] → W p l e (headSpec (fx_l yX4_leaveSeat cX4_leaveSeat 6 (some .int)) { frames := 2, cells := 0, slots := 0, locals := 44 }).room s m ([.ref (am 0), .int (nI t), .int (nI f)] : List Value).toArray below meth c H locs 0 0 (vx_MQ below (fx_post Z 22 am (mF am (Z.2.1 0)) (pI (nI (nRo (u2 (u2 (u2 h 0 3 0) 13 f (h 13 f &&& ((1 <<< (nI t &&& 31)) ^^^ (-1)))) 15 t (-1)) t f rc)) (cRo (u2 (u2 (u2 h 0 3 0) 13 f (h 13 f &&& ((1 <<< (nI t &&& 31)) ^^^ (-1)))) 15 t (-1)) t f rc)) s.heap.size) (fx_px Z 22 am (mF am (Z.2.1 0) h) (fun _ => False) s.heap.size) ([.ref (am 0), .int (nI t), .int (nI f)] : List Value).toArray s 0 0 (fx_A 22 am s.heap.size)) (F0 m 112 ls []) := by
    intro d
    induction d with
    | zero =>
      intro r k hd hk H locs hP hS ls hl
      have hrc9 : cRo g0 t f r 0 0 = nI rc := by rw [cRo_k (by decide) (by decide), eg0]; simp [u2_at, hrc]
      refine lv_iload hx hb dX4_leaveSeat_112 (lv_at hl 4 rfl) ?_
      refine lv_aload_n hx hb dX4_leaveSeat_114 rfl (lv_at hl 0 rfl) ?_
      refine mg_receipts K hP dX4_leaveSeat_115 ?_
      rw [hrc9]
      refine lv_icmp_ge (tgt := 179) hx hb dX4_leaveSeat_118 (by decide) (fun _ => ?_) (fun c14 => absurd (nI_le (by omega) (by omega)) c14)
      refine lv_iload hx hb dX4_leaveSeat_179 (lv_at hl 3 rfl) ?_
      exact fx_reti hx hb hr hlocks hP hS (Nat.le_of_ble_eq_true rfl) (Nat.le_of_ble_eq_true rfl) dX4_leaveSeat_181 ⟨(by rw [hk, show r = rc by omega, eg0]), (by rw [show r = rc by omega, eg0])⟩
    | succ d ih112 =>
      intro r k hd hk H locs hP hS ls hl
      have hrc9 : cRo g0 t f r 0 0 = nI rc := by rw [cRo_k (by decide) (by decide), eg0]; simp [u2_at, hrc]
      refine lv_iload hx hb dX4_leaveSeat_112 (lv_at hl 4 rfl) ?_
      refine lv_aload_n hx hb dX4_leaveSeat_114 rfl (lv_at hl 0 rfl) ?_
      refine mg_receipts K hP dX4_leaveSeat_115 ?_
      rw [hrc9]
      refine lv_icmp_ge (tgt := 179) hx hb dX4_leaveSeat_118 (by decide) (fun c15 => absurd c15 (nI_ge (by omega) (by omega))) (fun _ => ?_)
      refine lv_aload_n hx hb dX4_leaveSeat_121 rfl (lv_at hl 0 rfl) ?_
      refine mg_rk K hP dX4_leaveSeat_122 ?_
      refine lv_iload hx hb dX4_leaveSeat_125 (lv_at hl 4 rfl) ?_
      refine mr_ald K hP (by decide) (by decide) (n := 60) rfl (by omega) (by decide) dX4_leaveSeat_127 ?_
      refine lv_iconst (v := 1) hx hb dX4_leaveSeat_128 (by decide) ?_
      refine lv_icmp_ne (tgt := 173) hx hb dX4_leaveSeat_129 (by decide) (fun c16 => ?_) (fun c16 => ?_)
      · refine lv_iinc (v := nI (r + 1)) (lv' := [(5, .int (nI (r + 1))), (0, .ref (am 0)), (1, .int (nI t)), (2, .int (nI f)), (4, .int (nI k))]) hx hb dX4_leaveSeat_173 hl (k := 4) rfl (nI_1 _) (by decide) rfl (fun ls hl => ?_)
        refine lv_goto (tgt := 112) hx hb dX4_leaveSeat_176 (by decide) ?_
        rw [show cRo g0 t f r = cRo g0 t f (r + 1) from cRo_n (by simp [c16])] at hP
        exact ih112 (r + 1) k (by omega) (by rw [nRo_f (by simp [c16]), hk]) H locs hP hS ls (lv_sub hl [1, 2, 3, 4, 0] rfl)
      · refine lv_aload_n hx hb dX4_leaveSeat_132 rfl (lv_at hl 0 rfl) ?_
        refine mg_rf K hP dX4_leaveSeat_133 ?_
        refine lv_iload hx hb dX4_leaveSeat_136 (lv_at hl 4 rfl) ?_
        refine mr_ald K hP (by decide) (by decide) (n := 60) rfl (by omega) (by decide) dX4_leaveSeat_138 ?_
        refine lv_iload_n hx hb dX4_leaveSeat_139 rfl (lv_at hl 2 rfl) ?_
        refine lv_icmp_ne (tgt := 173) hx hb dX4_leaveSeat_140 (by decide) (fun c17 => ?_) (fun c17 => ?_)
        · refine lv_iinc (v := nI (r + 1)) (lv' := [(5, .int (nI (r + 1))), (0, .ref (am 0)), (1, .int (nI t)), (2, .int (nI f)), (4, .int (nI k))]) hx hb dX4_leaveSeat_173 hl (k := 4) rfl (nI_1 _) (by decide) rfl (fun ls hl => ?_)
          refine lv_goto (tgt := 112) hx hb dX4_leaveSeat_176 (by decide) ?_
          rw [show cRo g0 t f r = cRo g0 t f (r + 1) from cRo_n (by simp [c16, c17])] at hP
          exact ih112 (r + 1) k (by omega) (by rw [nRo_f (by simp [c16, c17]), hk]) H locs hP hS ls (lv_sub hl [1, 2, 3, 4, 0] rfl)
        · refine lv_aload_n hx hb dX4_leaveSeat_143 rfl (lv_at hl 0 rfl) ?_
          refine mg_rt K hP dX4_leaveSeat_144 ?_
          refine lv_iload hx hb dX4_leaveSeat_147 (lv_at hl 4 rfl) ?_
          refine mr_ald K hP (by decide) (by decide) (n := 60) rfl (by omega) (by decide) dX4_leaveSeat_149 ?_
          refine lv_iload_n hx hb dX4_leaveSeat_150 rfl (lv_at hl 1 rfl) ?_
          refine lv_icmp_ne (tgt := 173) hx hb dX4_leaveSeat_151 (by decide) (fun c18 => ?_) (fun c18 => ?_)
          · refine lv_iinc (v := nI (r + 1)) (lv' := [(5, .int (nI (r + 1))), (0, .ref (am 0)), (1, .int (nI t)), (2, .int (nI f)), (4, .int (nI k))]) hx hb dX4_leaveSeat_173 hl (k := 4) rfl (nI_1 _) (by decide) rfl (fun ls hl => ?_)
            refine lv_goto (tgt := 112) hx hb dX4_leaveSeat_176 (by decide) ?_
            rw [show cRo g0 t f r = cRo g0 t f (r + 1) from cRo_n (by simp [c16, c17, c18])] at hP
            exact ih112 (r + 1) k (by omega) (by rw [nRo_f (by simp [c16, c17, c18]), hk]) H locs hP hS ls (lv_sub hl [1, 2, 3, 4, 0] rfl)
          · refine lv_aload_n hx hb dX4_leaveSeat_154 rfl (lv_at hl 0 rfl) ?_
            refine mg_rk K hP dX4_leaveSeat_155 ?_
            refine lv_iload hx hb dX4_leaveSeat_158 (lv_at hl 4 rfl) ?_
            refine lv_iconst (v := 0) hx hb dX4_leaveSeat_160 (by decide) ?_
            refine mr_ast K hP hS (by decide) (by decide) (n := 60) rfl (by omega) (by decide) dX4_leaveSeat_161 (fun h19 H locs e19 hP hS => ?_)
            refine lv_aload_n hx hb dX4_leaveSeat_162 rfl (lv_at hl 0 rfl) ?_
            refine mg_rf K hP dX4_leaveSeat_163 ?_
            refine lv_iload hx hb dX4_leaveSeat_166 (lv_at hl 4 rfl) ?_
            refine lv_iconst (v := (-1)) hx hb dX4_leaveSeat_168 (by decide) ?_
            refine mr_ast K hP hS (by decide) (by decide) (n := 60) rfl (by omega) (by decide) dX4_leaveSeat_169 (fun h20 H locs e20 hP hS => ?_)
            refine lv_iinc (v := nI (k + 1)) (lv' := [(4, .int (nI (k + 1))), (0, .ref (am 0)), (1, .int (nI t)), (2, .int (nI f)), (5, .int (nI r))]) hx hb dX4_leaveSeat_170 hl (k := 3) rfl (nI_1 _) (by decide) rfl (fun ls hl => ?_)
            refine lv_iinc (v := nI (r + 1)) (lv' := [(5, .int (nI (r + 1))), (4, .int (nI (k + 1))), (0, .ref (am 0)), (1, .int (nI t)), (2, .int (nI f))]) hx hb dX4_leaveSeat_173 hl (k := 4) rfl (nI_1 _) (by decide) rfl (fun ls hl => ?_)
            refine lv_goto (tgt := 112) hx hb dX4_leaveSeat_176 (by decide) ?_
            rw [show h20 = cRo g0 t f (r + 1) from by simp only [e19, e20]; exact cRo_s c16 c17 c18] at hP
            exact ih112 (r + 1) (k + 1) (by omega) (by rw [nRo_t c16 c17 c18, hk]) H locs hP hS ls (lv_sub hl [2, 3, 4, 1, 0] rfl)
  exact hloop112 rc 0 0 (by omega) rfl H locs hP hS ls (lv_sub hl [3, 4, 5, 1, 0] rfl)

set_option maxHeartbeats 4000000 in
set_option maxRecDepth 100000 in
theorem c_X4_leaveSeat_0b (l : Launch) (Z : fx_Z) (am : Nat → Nat) (hinj : fx_inj 22 am) (h : St) (fc : Nat) (rc : Nat) (t : Nat) (f : Nat) (ht9 : t < 10) (hff : f < fc) (hfc : h 0 1 = nI fc) (hf2 : fc ≤ 20) (hrc : h 0 0 = nI rc) (hr6 : rc ≤ 60) (hg : ¬ h 14 f = 1) (hs : mS h f t) (hab : ¬ h 15 t = nI f) : fx_C l Z yX4_leaveSeat cX4_leaveSeat 6 (some .int) 2 44 0 0 22 am (mF am (Z.2.1 0)) h [.ref (am 0), .int (nI t), .int (nI f)] (pI (nI (nRo (u2 (u2 (u2 h 0 3 0) 13 f (h 13 f &&& ((1 <<< (nI t &&& 31)) ^^^ (-1)))) 15 t (h 15 t)) t f rc)) (cRo (u2 (u2 (u2 h 0 3 0) 13 f (h 13 f &&& ((1 <<< (nI t &&& 31)) ^^^ (-1)))) 15 t (h 15 t)) t f rc)) (fun _ => False) := by
  intro sz
  refine vx_ofW (cc := cX4_leaveSeat) (maxL := 6) (ret := (some .int)) (by decide) rfl ?_
  intro p e s m args below meth c s₁ B hml hout hv
  obtain ⟨rfl, hsz, hP, hE, hSt⟩ := hv
  subst hsz
  have hx := B.exec
  have hb := B.bytes
  have hr := B.returns
  have hown : s.vm.findClass RX4 = some m.cls := findClass_of_methodNamed B.named
  have hlocks := B.notSynchronized
  have K : m_K p s m ([.ref (am 0), .int (nI t), .int (nI f)] : List Value).toArray c cX4_leaveSeat 6 Z am := ⟨hx, hb, hml, hown, fun w hw => atoms_spec (ws := fx_l yX4_leaveSeat cX4_leaveSeat 6 (some .int)) B.pre w (List.mem_cons_of_mem _ hw), hE, hSt, hinj⟩
  have hS : va_S (fx_A 22 am s.heap.size) s.heap s.heap [] := va_S.rf
  have hl := lv_entry ([.ref (am 0), .int (nI t), .int (nI f)]) (n := 6) (Nat.le_of_ble_eq_true rfl)
  rw [lg_entry_eq]
  generalize (lg_sl ([.ref (am 0), .int (nI t), .int (nI f)]) ++ List.replicate (6 - (lg_sl ([.ref (am 0), .int (nI t), .int (nI f)])).length) Slot.unset).toArray = ls at hl ⊢
  have hl : lv_has ls 6 [(0, .ref (am 0)), (1, .int (nI t)), (2, .int (nI f))] := hl
  refine lv_aload_n hx hb dX4_leaveSeat_0 rfl (lv_at hl 0 rfl) ?_
  refine lv_iload_n hx hb dX4_leaveSeat_1 rfl (lv_at hl 1 rfl) ?_
  refine lv_iconst (v := 0) hx hb dX4_leaveSeat_2 (by decide) ?_
  refine lv_bipush (v := 9) hx hb dX4_leaveSeat_3 (by decide) ?_
  refine m_callt (rest := []) K hP hS (c_X4_in l Z am hinj h (nI t) 0 9) ok_X4_80 rfl ⟨Nat.le_of_ble_eq_true rfl, Nat.le_of_ble_eq_true rfl⟩ rfl hl.1 (Nat.le_of_ble_eq_true rfl) ⟨Nat.le_of_ble_eq_true rfl, Nat.le_of_ble_eq_true rfl⟩ dX4_leaveSeat_5 (ix9 ht9) (fun H locs hP hS => ?_)
  refine lv_if_eq (tgt := 23) hx hb dX4_leaveSeat_8 (by decide) (fun c1 => absurd c1 (by decide)) (fun _ => ?_)
  refine lv_aload_n hx hb dX4_leaveSeat_11 rfl (lv_at hl 0 rfl) ?_
  refine lv_iload_n hx hb dX4_leaveSeat_12 rfl (lv_at hl 2 rfl) ?_
  refine m_callt (rest := []) K hP hS (c_X4_isFerry l Z am hinj h (nI f)) ok_X4_101 rfl ⟨Nat.le_of_ble_eq_true rfl, Nat.le_of_ble_eq_true rfl⟩ rfl hl.1 (Nat.le_of_ble_eq_true rfl) ⟨Nat.le_of_ble_eq_true rfl, Nat.le_of_ble_eq_true rfl⟩ dX4_leaveSeat_13 (isF_t hfc hf2 hff) (fun H locs hP hS => ?_)
  refine lv_if_eq (tgt := 23) hx hb dX4_leaveSeat_16 (by decide) (fun c2 => absurd c2 (by decide)) (fun _ => ?_)
  refine lv_iconst (v := 1) hx hb dX4_leaveSeat_19 (by decide) ?_
  refine lv_goto (tgt := 24) hx hb dX4_leaveSeat_20 (by decide) ?_
  refine lv_istore_n (lv' := [(3, .int 1), (0, .ref (am 0)), (1, .int (nI t)), (2, .int (nI f))]) hx hb dX4_leaveSeat_24 rfl hl (by decide) rfl (fun ls hl => ?_)
  refine lv_aload_n hx hb dX4_leaveSeat_25 rfl (lv_at hl 1 rfl) ?_
  refine lv_iload_n hx hb dX4_leaveSeat_26 rfl (lv_at hl 0 rfl) ?_
  refine lv_if_ne (tgt := 34) hx hb dX4_leaveSeat_27 (by decide) (fun _ => ?_) (fun c3 => absurd c3 (by decide))
  refine lv_aload_n hx hb dX4_leaveSeat_34 rfl (lv_at hl 1 rfl) ?_
  refine mg_fg K hP dX4_leaveSeat_35 ?_
  refine lv_iload_n hx hb dX4_leaveSeat_38 rfl (lv_at hl 3 rfl) ?_
  refine mr_ald K hP (by decide) (by decide) (n := 20) rfl (by omega) (by decide) dX4_leaveSeat_39 ?_
  refine lv_iconst (v := 1) hx hb dX4_leaveSeat_40 (by decide) ?_
  refine lv_icmp_eq (tgt := 53) hx hb dX4_leaveSeat_41 (by decide) (fun c4 => absurd c4 hg) (fun _ => ?_)
  refine lv_aload_n hx hb dX4_leaveSeat_44 rfl (lv_at hl 1 rfl) ?_
  refine lv_iload_n hx hb dX4_leaveSeat_45 rfl (lv_at hl 2 rfl) ?_
  refine lv_iload_n hx hb dX4_leaveSeat_46 rfl (lv_at hl 3 rfl) ?_
  refine m_callt (rest := [.ref (am 0)]) K hP hS (c_X4_hasSeat l Z am hinj h t f (by omega)) ok_X4_97 rfl ⟨Nat.le_of_ble_eq_true rfl, Nat.le_of_ble_eq_true rfl⟩ rfl hl.1 (Nat.le_of_ble_eq_true rfl) ⟨Nat.le_of_ble_eq_true rfl, Nat.le_of_ble_eq_true rfl⟩ dX4_leaveSeat_47 hs (fun H locs hP hS => ?_)
  refine lv_if_ne (tgt := 57) hx hb dX4_leaveSeat_50 (by decide) (fun _ => ?_) (fun c5 => absurd c5 (by decide))
  refine lv_iconst (v := 0) hx hb dX4_leaveSeat_57 (by decide) ?_
  refine m_callf (rest := []) K hP hS (c_X4_holds l Z am hinj h 0) ok_X4_87 rfl ⟨Nat.le_of_ble_eq_true rfl, Nat.le_of_ble_eq_true rfl⟩ rfl hl.1 (Nat.le_of_ble_eq_true rfl) ⟨Nat.le_of_ble_eq_true rfl, Nat.le_of_ble_eq_true rfl⟩ dX4_leaveSeat_58 (by decide) (fun H locs hP hS => ?_)
  obtain ⟨h6, e6⟩ : ∃ z : St, z = (u2 h 0 3 0) := ⟨_, rfl⟩
  rw [← e6] at hP
  refine lv_if_eq (tgt := 66) hx hb dX4_leaveSeat_61 (by decide) (fun _ => ?_) (fun c7 => absurd (by decide) c7)
  refine lv_aload_n hx hb dX4_leaveSeat_66 rfl (lv_at hl 1 rfl) ?_
  refine mg_fw K hP dX4_leaveSeat_67 ?_
  refine lv_iload_n hx hb dX4_leaveSeat_70 rfl (lv_at hl 3 rfl) ?_
  refine lv_dup2_11 hx hb dX4_leaveSeat_71 rfl rfl ?_
  refine mr_ald K hP (by decide) (by decide) (n := 20) rfl (by omega) (by decide) dX4_leaveSeat_72 ?_
  rw [show h6 13 f = h 13 f from by simp [u2_at, e6]]
  refine lv_iconst (v := 1) hx hb dX4_leaveSeat_73 (by decide) ?_
  refine lv_iload_n hx hb dX4_leaveSeat_74 rfl (lv_at hl 2 rfl) ?_
  refine lv_ishl hx hb dX4_leaveSeat_75 ?_
  refine lv_topi (fun v8 e8 => ?_)
  refine lv_iconst (v := (-1)) hx hb dX4_leaveSeat_76 (by decide) ?_
  refine lv_ixor hx hb dX4_leaveSeat_77 ?_
  refine lv_topi (fun v9 e9 => ?_)
  refine lv_iand hx hb dX4_leaveSeat_78 ?_
  refine lv_topi (fun v10 e10 => ?_)
  refine mr_ast K hP hS (by decide) (by decide) (n := 20) rfl (by omega) (by decide) dX4_leaveSeat_79 (fun h11 H locs e11 hP hS => ?_)
  refine lv_aload_n hx hb dX4_leaveSeat_80 rfl (lv_at hl 1 rfl) ?_
  refine mg_ab K hP dX4_leaveSeat_81 ?_
  refine lv_iload_n hx hb dX4_leaveSeat_84 rfl (lv_at hl 2 rfl) ?_
  refine lv_aload_n hx hb dX4_leaveSeat_85 rfl (lv_at hl 1 rfl) ?_
  refine mg_ab K hP dX4_leaveSeat_86 ?_
  refine lv_iload_n hx hb dX4_leaveSeat_89 rfl (lv_at hl 2 rfl) ?_
  refine mr_ald K hP (by decide) (by decide) (n := 10) rfl (by omega) (by decide) dX4_leaveSeat_90 ?_
  rw [show h11 15 t = h 15 t from by simp [u2_at, e6, e11]]
  refine lv_iload_n hx hb dX4_leaveSeat_91 rfl (lv_at hl 3 rfl) ?_
  refine lv_icmp_ne (tgt := 99) hx hb dX4_leaveSeat_92 (by decide) (fun _ => ?_) (fun c12 => absurd c12 hab)
  refine lv_aload_n hx hb dX4_leaveSeat_99 rfl (lv_at hl 1 rfl) ?_
  refine mg_ab K hP dX4_leaveSeat_100 ?_
  refine lv_iload_n hx hb dX4_leaveSeat_103 rfl (lv_at hl 2 rfl) ?_
  refine mr_ald K hP (by decide) (by decide) (n := 10) rfl (by omega) (by decide) dX4_leaveSeat_104 ?_
  rw [show h11 15 t = h 15 t from by simp [u2_at, e6, e11]]
  refine mr_ast K hP hS (by decide) (by decide) (n := 10) rfl (by omega) (by decide) dX4_leaveSeat_105 (fun h13 H locs e13 hP hS => ?_)
  refine lv_iconst (v := 0) hx hb dX4_leaveSeat_106 (by decide) ?_
  refine lv_istore (lv' := [(4, .int 0), (3, .int 1), (0, .ref (am 0)), (1, .int (nI t)), (2, .int (nI f))]) hx hb dX4_leaveSeat_107 hl (by decide) rfl (fun ls hl => ?_)
  refine lv_iconst (v := 0) hx hb dX4_leaveSeat_109 (by decide) ?_
  refine lv_istore (lv' := [(5, .int 0), (4, .int 0), (3, .int 1), (0, .ref (am 0)), (1, .int (nI t)), (2, .int (nI f))]) hx hb dX4_leaveSeat_110 hl (by decide) rfl (fun ls hl => ?_)
  obtain ⟨g0, eg0⟩ : ∃ z : St, z = (u2 (u2 (u2 h 0 3 0) 13 f (h 13 f &&& ((1 <<< (nI t &&& 31)) ^^^ (-1)))) 15 t (h 15 t)) := ⟨_, rfl⟩
  rw [show h13 = g0 from by rw [eg0]; simp only [e6, e8, e9, e10, e11, e13]] at hP
  rw [← cRo_0 g0 t f] at hP
  have hloop112 : ∀ (d : Nat) (r : Nat) (k : Nat), r + d = rc → k = nRo g0 t f r → ∀ (H : Heap) (locs : List Loc), va_P Z.1 vwCl (iw 22 (mF am (Z.2.1 0) (cRo g0 t f r))) H → va_S (fx_A 22 am s.heap.size) s.heap H locs → ∀ ls : Array Slot, lv_has ls 6 [(0, .ref (am 0)), (1, .int (nI t)), (2, .int (nI f)), (4, .int (nI k)), (5, .int (nI r))] → W p l e (headSpec (fx_l yX4_leaveSeat cX4_leaveSeat 6 (some .int)) { frames := 2, cells := 0, slots := 0, locals := 44 }).room s m ([.ref (am 0), .int (nI t), .int (nI f)] : List Value).toArray below meth c H locs 0 0 (vx_MQ below (fx_post Z 22 am (mF am (Z.2.1 0)) (pI (nI (nRo (u2 (u2 (u2 h 0 3 0) 13 f (h 13 f &&& ((1 <<< (nI t &&& 31)) ^^^ (-1)))) 15 t (h 15 t)) t f rc)) (cRo (u2 (u2 (u2 h 0 3 0) 13 f (h 13 f &&& ((1 <<< (nI t &&& 31)) ^^^ (-1)))) 15 t (h 15 t)) t f rc)) s.heap.size) (fx_px Z 22 am (mF am (Z.2.1 0) h) (fun _ => False) s.heap.size) ([.ref (am 0), .int (nI t), .int (nI f)] : List Value).toArray s 0 0 (fx_A 22 am s.heap.size)) (F0 m 112 ls []) := by
    intro d
    induction d with
    | zero =>
      intro r k hd hk H locs hP hS ls hl
      have hrc9 : cRo g0 t f r 0 0 = nI rc := by rw [cRo_k (by decide) (by decide), eg0]; simp [u2_at, hrc]
      refine lv_iload hx hb dX4_leaveSeat_112 (lv_at hl 4 rfl) ?_
      refine lv_aload_n hx hb dX4_leaveSeat_114 rfl (lv_at hl 0 rfl) ?_
      refine mg_receipts K hP dX4_leaveSeat_115 ?_
      rw [hrc9]
      refine lv_icmp_ge (tgt := 179) hx hb dX4_leaveSeat_118 (by decide) (fun _ => ?_) (fun c14 => absurd (nI_le (by omega) (by omega)) c14)
      refine lv_iload hx hb dX4_leaveSeat_179 (lv_at hl 3 rfl) ?_
      exact fx_reti hx hb hr hlocks hP hS (Nat.le_of_ble_eq_true rfl) (Nat.le_of_ble_eq_true rfl) dX4_leaveSeat_181 ⟨(by rw [hk, show r = rc by omega, eg0]), (by rw [show r = rc by omega, eg0])⟩
    | succ d ih112 =>
      intro r k hd hk H locs hP hS ls hl
      have hrc9 : cRo g0 t f r 0 0 = nI rc := by rw [cRo_k (by decide) (by decide), eg0]; simp [u2_at, hrc]
      refine lv_iload hx hb dX4_leaveSeat_112 (lv_at hl 4 rfl) ?_
      refine lv_aload_n hx hb dX4_leaveSeat_114 rfl (lv_at hl 0 rfl) ?_
      refine mg_receipts K hP dX4_leaveSeat_115 ?_
      rw [hrc9]
      refine lv_icmp_ge (tgt := 179) hx hb dX4_leaveSeat_118 (by decide) (fun c15 => absurd c15 (nI_ge (by omega) (by omega))) (fun _ => ?_)
      refine lv_aload_n hx hb dX4_leaveSeat_121 rfl (lv_at hl 0 rfl) ?_
      refine mg_rk K hP dX4_leaveSeat_122 ?_
      refine lv_iload hx hb dX4_leaveSeat_125 (lv_at hl 4 rfl) ?_
      refine mr_ald K hP (by decide) (by decide) (n := 60) rfl (by omega) (by decide) dX4_leaveSeat_127 ?_
      refine lv_iconst (v := 1) hx hb dX4_leaveSeat_128 (by decide) ?_
      refine lv_icmp_ne (tgt := 173) hx hb dX4_leaveSeat_129 (by decide) (fun c16 => ?_) (fun c16 => ?_)
      · refine lv_iinc (v := nI (r + 1)) (lv' := [(5, .int (nI (r + 1))), (0, .ref (am 0)), (1, .int (nI t)), (2, .int (nI f)), (4, .int (nI k))]) hx hb dX4_leaveSeat_173 hl (k := 4) rfl (nI_1 _) (by decide) rfl (fun ls hl => ?_)
        refine lv_goto (tgt := 112) hx hb dX4_leaveSeat_176 (by decide) ?_
        rw [show cRo g0 t f r = cRo g0 t f (r + 1) from cRo_n (by simp [c16])] at hP
        exact ih112 (r + 1) k (by omega) (by rw [nRo_f (by simp [c16]), hk]) H locs hP hS ls (lv_sub hl [1, 2, 3, 4, 0] rfl)
      · refine lv_aload_n hx hb dX4_leaveSeat_132 rfl (lv_at hl 0 rfl) ?_
        refine mg_rf K hP dX4_leaveSeat_133 ?_
        refine lv_iload hx hb dX4_leaveSeat_136 (lv_at hl 4 rfl) ?_
        refine mr_ald K hP (by decide) (by decide) (n := 60) rfl (by omega) (by decide) dX4_leaveSeat_138 ?_
        refine lv_iload_n hx hb dX4_leaveSeat_139 rfl (lv_at hl 2 rfl) ?_
        refine lv_icmp_ne (tgt := 173) hx hb dX4_leaveSeat_140 (by decide) (fun c17 => ?_) (fun c17 => ?_)
        · refine lv_iinc (v := nI (r + 1)) (lv' := [(5, .int (nI (r + 1))), (0, .ref (am 0)), (1, .int (nI t)), (2, .int (nI f)), (4, .int (nI k))]) hx hb dX4_leaveSeat_173 hl (k := 4) rfl (nI_1 _) (by decide) rfl (fun ls hl => ?_)
          refine lv_goto (tgt := 112) hx hb dX4_leaveSeat_176 (by decide) ?_
          rw [show cRo g0 t f r = cRo g0 t f (r + 1) from cRo_n (by simp [c16, c17])] at hP
          exact ih112 (r + 1) k (by omega) (by rw [nRo_f (by simp [c16, c17]), hk]) H locs hP hS ls (lv_sub hl [1, 2, 3, 4, 0] rfl)
        · refine lv_aload_n hx hb dX4_leaveSeat_143 rfl (lv_at hl 0 rfl) ?_
          refine mg_rt K hP dX4_leaveSeat_144 ?_
          refine lv_iload hx hb dX4_leaveSeat_147 (lv_at hl 4 rfl) ?_
          refine mr_ald K hP (by decide) (by decide) (n := 60) rfl (by omega) (by decide) dX4_leaveSeat_149 ?_
          refine lv_iload_n hx hb dX4_leaveSeat_150 rfl (lv_at hl 1 rfl) ?_
          refine lv_icmp_ne (tgt := 173) hx hb dX4_leaveSeat_151 (by decide) (fun c18 => ?_) (fun c18 => ?_)
          · refine lv_iinc (v := nI (r + 1)) (lv' := [(5, .int (nI (r + 1))), (0, .ref (am 0)), (1, .int (nI t)), (2, .int (nI f)), (4, .int (nI k))]) hx hb dX4_leaveSeat_173 hl (k := 4) rfl (nI_1 _) (by decide) rfl (fun ls hl => ?_)
            refine lv_goto (tgt := 112) hx hb dX4_leaveSeat_176 (by decide) ?_
            rw [show cRo g0 t f r = cRo g0 t f (r + 1) from cRo_n (by simp [c16, c17, c18])] at hP
            exact ih112 (r + 1) k (by omega) (by rw [nRo_f (by simp [c16, c17, c18]), hk]) H locs hP hS ls (lv_sub hl [1, 2, 3, 4, 0] rfl)
          · refine lv_aload_n hx hb dX4_leaveSeat_154 rfl (lv_at hl 0 rfl) ?_
            refine mg_rk K hP dX4_leaveSeat_155 ?_
            refine lv_iload hx hb dX4_leaveSeat_158 (lv_at hl 4 rfl) ?_
            refine lv_iconst (v := 0) hx hb dX4_leaveSeat_160 (by decide) ?_
            refine mr_ast K hP hS (by decide) (by decide) (n := 60) rfl (by omega) (by decide) dX4_leaveSeat_161 (fun h19 H locs e19 hP hS => ?_)
            refine lv_aload_n hx hb dX4_leaveSeat_162 rfl (lv_at hl 0 rfl) ?_
            refine mg_rf K hP dX4_leaveSeat_163 ?_
            refine lv_iload hx hb dX4_leaveSeat_166 (lv_at hl 4 rfl) ?_
            refine lv_iconst (v := (-1)) hx hb dX4_leaveSeat_168 (by decide) ?_
            refine mr_ast K hP hS (by decide) (by decide) (n := 60) rfl (by omega) (by decide) dX4_leaveSeat_169 (fun h20 H locs e20 hP hS => ?_)
            refine lv_iinc (v := nI (k + 1)) (lv' := [(4, .int (nI (k + 1))), (0, .ref (am 0)), (1, .int (nI t)), (2, .int (nI f)), (5, .int (nI r))]) hx hb dX4_leaveSeat_170 hl (k := 3) rfl (nI_1 _) (by decide) rfl (fun ls hl => ?_)
            refine lv_iinc (v := nI (r + 1)) (lv' := [(5, .int (nI (r + 1))), (4, .int (nI (k + 1))), (0, .ref (am 0)), (1, .int (nI t)), (2, .int (nI f))]) hx hb dX4_leaveSeat_173 hl (k := 4) rfl (nI_1 _) (by decide) rfl (fun ls hl => ?_)
            refine lv_goto (tgt := 112) hx hb dX4_leaveSeat_176 (by decide) ?_
            rw [show h20 = cRo g0 t f (r + 1) from by simp only [e19, e20]; exact cRo_s c16 c17 c18] at hP
            exact ih112 (r + 1) (k + 1) (by omega) (by rw [nRo_t c16 c17 c18, hk]) H locs hP hS ls (lv_sub hl [2, 3, 4, 1, 0] rfl)
  exact hloop112 rc 0 0 (by omega) rfl H locs hP hS ls (lv_sub hl [3, 4, 5, 1, 0] rfl)

set_option maxHeartbeats 4000000 in
set_option maxRecDepth 100000 in
theorem c_X4_leaveSeat_1 (l : Launch) (Z : fx_Z) (am : Nat → Nat) (hinj : fx_inj 22 am) (h : St) (fc : Nat) (t : Int32) (f : Int32) (hfc : h 0 1 = nI fc) (hf2 : fc ≤ 20) (hbad : bad t 10 ∨ bad f fc) : fx_C l Z yX4_leaveSeat cX4_leaveSeat 6 (some .int) 2 44 0 0 22 am (mF am (Z.2.1 0)) h [.ref (am 0), .int t, .int f] (pI (-1) (u2 h 0 3 1)) (fun _ => False) := by
  intro sz
  refine vx_ofW (cc := cX4_leaveSeat) (maxL := 6) (ret := (some .int)) (by decide) rfl ?_
  intro p e s m args below meth c s₁ B hml hout hv
  obtain ⟨rfl, hsz, hP, hE, hSt⟩ := hv
  subst hsz
  have hx := B.exec
  have hb := B.bytes
  have hr := B.returns
  have hown : s.vm.findClass RX4 = some m.cls := findClass_of_methodNamed B.named
  have hlocks := B.notSynchronized
  have K : m_K p s m ([.ref (am 0), .int t, .int f] : List Value).toArray c cX4_leaveSeat 6 Z am := ⟨hx, hb, hml, hown, fun w hw => atoms_spec (ws := fx_l yX4_leaveSeat cX4_leaveSeat 6 (some .int)) B.pre w (List.mem_cons_of_mem _ hw), hE, hSt, hinj⟩
  have hS : va_S (fx_A 22 am s.heap.size) s.heap s.heap [] := va_S.rf
  have hl := lv_entry ([.ref (am 0), .int t, .int f]) (n := 6) (Nat.le_of_ble_eq_true rfl)
  rw [lg_entry_eq]
  generalize (lg_sl ([.ref (am 0), .int t, .int f]) ++ List.replicate (6 - (lg_sl ([.ref (am 0), .int t, .int f])).length) Slot.unset).toArray = ls at hl ⊢
  have hl : lv_has ls 6 [(0, .ref (am 0)), (1, .int t), (2, .int f)] := hl
  refine lv_aload_n hx hb dX4_leaveSeat_0 rfl (lv_at hl 0 rfl) ?_
  refine lv_iload_n hx hb dX4_leaveSeat_1 rfl (lv_at hl 1 rfl) ?_
  refine lv_iconst (v := 0) hx hb dX4_leaveSeat_2 (by decide) ?_
  refine lv_bipush (v := 9) hx hb dX4_leaveSeat_3 (by decide) ?_
  refine m_callb (rest := []) K hP hS (c_X4_in l Z am hinj h t 0 9) ok_X4_80 rfl ⟨Nat.le_of_ble_eq_true rfl, Nat.le_of_ble_eq_true rfl⟩ rfl hl.1 (Nat.le_of_ble_eq_true rfl) ⟨Nat.le_of_ble_eq_true rfl, Nat.le_of_ble_eq_true rfl⟩ dX4_leaveSeat_5 (fun c1 H locs hP hS => ?_) (fun c1 H locs hP hS => ?_)
  · refine lv_if_eq (tgt := 23) hx hb dX4_leaveSeat_8 (by decide) (fun c2 => absurd c2 (by decide)) (fun _ => ?_)
    refine lv_aload_n hx hb dX4_leaveSeat_11 rfl (lv_at hl 0 rfl) ?_
    refine lv_iload_n hx hb dX4_leaveSeat_12 rfl (lv_at hl 2 rfl) ?_
    refine m_callb (rest := []) K hP hS (c_X4_isFerry l Z am hinj h f) ok_X4_101 rfl ⟨Nat.le_of_ble_eq_true rfl, Nat.le_of_ble_eq_true rfl⟩ rfl hl.1 (Nat.le_of_ble_eq_true rfl) ⟨Nat.le_of_ble_eq_true rfl, Nat.le_of_ble_eq_true rfl⟩ dX4_leaveSeat_13 (fun c3 H locs hP hS => ?_) (fun c3 H locs hP hS => ?_)
    · exact absurd hbad (nbad2 hfc hf2 c1 c3)
    · refine lv_if_eq (tgt := 23) hx hb dX4_leaveSeat_16 (by decide) (fun _ => ?_) (fun c4 => absurd (by decide) c4)
      refine lv_iconst (v := 0) hx hb dX4_leaveSeat_23 (by decide) ?_
      refine lv_istore_n (lv' := [(3, .int 0), (0, .ref (am 0)), (1, .int t), (2, .int f)]) hx hb dX4_leaveSeat_24 rfl hl (by decide) rfl (fun ls hl => ?_)
      refine lv_aload_n hx hb dX4_leaveSeat_25 rfl (lv_at hl 1 rfl) ?_
      refine lv_iload_n hx hb dX4_leaveSeat_26 rfl (lv_at hl 0 rfl) ?_
      refine lv_if_ne (tgt := 34) hx hb dX4_leaveSeat_27 (by decide) (fun c5 => absurd (by decide) c5) (fun _ => ?_)
      refine lv_iconst (v := 1) hx hb dX4_leaveSeat_30 (by decide) ?_
      refine lv_goto (tgt := 58) hx hb dX4_leaveSeat_31 (by decide) ?_
      refine m_callt (rest := []) K hP hS (c_X4_holds l Z am hinj h 1) ok_X4_87 rfl ⟨Nat.le_of_ble_eq_true rfl, Nat.le_of_ble_eq_true rfl⟩ rfl hl.1 (Nat.le_of_ble_eq_true rfl) ⟨Nat.le_of_ble_eq_true rfl, Nat.le_of_ble_eq_true rfl⟩ dX4_leaveSeat_58 (by decide) (fun H locs hP hS => ?_)
      obtain ⟨h6, e6⟩ : ∃ z : St, z = (u2 h 0 3 1) := ⟨_, rfl⟩
      rw [← e6] at hP
      refine lv_if_eq (tgt := 66) hx hb dX4_leaveSeat_61 (by decide) (fun c7 => absurd c7 (by decide)) (fun _ => ?_)
      refine lv_iconst (v := (-1)) hx hb dX4_leaveSeat_64 (by decide) ?_
      exact fx_reti hx hb hr hlocks hP hS (Nat.le_of_ble_eq_true rfl) (Nat.le_of_ble_eq_true rfl) dX4_leaveSeat_65 ⟨rfl, e6⟩
  · refine lv_if_eq (tgt := 23) hx hb dX4_leaveSeat_8 (by decide) (fun _ => ?_) (fun c8 => absurd (by decide) c8)
    refine lv_iconst (v := 0) hx hb dX4_leaveSeat_23 (by decide) ?_
    refine lv_istore_n (lv' := [(3, .int 0), (0, .ref (am 0)), (1, .int t), (2, .int f)]) hx hb dX4_leaveSeat_24 rfl hl (by decide) rfl (fun ls hl => ?_)
    refine lv_aload_n hx hb dX4_leaveSeat_25 rfl (lv_at hl 1 rfl) ?_
    refine lv_iload_n hx hb dX4_leaveSeat_26 rfl (lv_at hl 0 rfl) ?_
    refine lv_if_ne (tgt := 34) hx hb dX4_leaveSeat_27 (by decide) (fun c9 => absurd (by decide) c9) (fun _ => ?_)
    refine lv_iconst (v := 1) hx hb dX4_leaveSeat_30 (by decide) ?_
    refine lv_goto (tgt := 58) hx hb dX4_leaveSeat_31 (by decide) ?_
    refine m_callt (rest := []) K hP hS (c_X4_holds l Z am hinj h 1) ok_X4_87 rfl ⟨Nat.le_of_ble_eq_true rfl, Nat.le_of_ble_eq_true rfl⟩ rfl hl.1 (Nat.le_of_ble_eq_true rfl) ⟨Nat.le_of_ble_eq_true rfl, Nat.le_of_ble_eq_true rfl⟩ dX4_leaveSeat_58 (by decide) (fun H locs hP hS => ?_)
    obtain ⟨h10, e10⟩ : ∃ z : St, z = (u2 h 0 3 1) := ⟨_, rfl⟩
    rw [← e10] at hP
    refine lv_if_eq (tgt := 66) hx hb dX4_leaveSeat_61 (by decide) (fun c11 => absurd c11 (by decide)) (fun _ => ?_)
    refine lv_iconst (v := (-1)) hx hb dX4_leaveSeat_64 (by decide) ?_
    exact fx_reti hx hb hr hlocks hP hS (Nat.le_of_ble_eq_true rfl) (Nat.le_of_ble_eq_true rfl) dX4_leaveSeat_65 ⟨rfl, e10⟩

set_option maxHeartbeats 4000000 in
set_option maxRecDepth 100000 in
theorem c_X4_leaveSeat_2 (l : Launch) (Z : fx_Z) (am : Nat → Nat) (hinj : fx_inj 22 am) (h : St) (fc : Nat) (t : Nat) (f : Nat) (ht9 : t < 10) (hff : f < fc) (hfc : h 0 1 = nI fc) (hf2 : fc ≤ 20) (hbad : h 14 f = 1 ∨ ¬ mS h f t) : fx_C l Z yX4_leaveSeat cX4_leaveSeat 6 (some .int) 2 44 0 0 22 am (mF am (Z.2.1 0)) h [.ref (am 0), .int (nI t), .int (nI f)] (pI (-1) (u2 h 0 3 2)) (fun _ => False) := by
  intro sz
  refine vx_ofW (cc := cX4_leaveSeat) (maxL := 6) (ret := (some .int)) (by decide) rfl ?_
  intro p e s m args below meth c s₁ B hml hout hv
  obtain ⟨rfl, hsz, hP, hE, hSt⟩ := hv
  subst hsz
  have hx := B.exec
  have hb := B.bytes
  have hr := B.returns
  have hown : s.vm.findClass RX4 = some m.cls := findClass_of_methodNamed B.named
  have hlocks := B.notSynchronized
  have K : m_K p s m ([.ref (am 0), .int (nI t), .int (nI f)] : List Value).toArray c cX4_leaveSeat 6 Z am := ⟨hx, hb, hml, hown, fun w hw => atoms_spec (ws := fx_l yX4_leaveSeat cX4_leaveSeat 6 (some .int)) B.pre w (List.mem_cons_of_mem _ hw), hE, hSt, hinj⟩
  have hS : va_S (fx_A 22 am s.heap.size) s.heap s.heap [] := va_S.rf
  have hl := lv_entry ([.ref (am 0), .int (nI t), .int (nI f)]) (n := 6) (Nat.le_of_ble_eq_true rfl)
  rw [lg_entry_eq]
  generalize (lg_sl ([.ref (am 0), .int (nI t), .int (nI f)]) ++ List.replicate (6 - (lg_sl ([.ref (am 0), .int (nI t), .int (nI f)])).length) Slot.unset).toArray = ls at hl ⊢
  have hl : lv_has ls 6 [(0, .ref (am 0)), (1, .int (nI t)), (2, .int (nI f))] := hl
  refine lv_aload_n hx hb dX4_leaveSeat_0 rfl (lv_at hl 0 rfl) ?_
  refine lv_iload_n hx hb dX4_leaveSeat_1 rfl (lv_at hl 1 rfl) ?_
  refine lv_iconst (v := 0) hx hb dX4_leaveSeat_2 (by decide) ?_
  refine lv_bipush (v := 9) hx hb dX4_leaveSeat_3 (by decide) ?_
  refine m_callt (rest := []) K hP hS (c_X4_in l Z am hinj h (nI t) 0 9) ok_X4_80 rfl ⟨Nat.le_of_ble_eq_true rfl, Nat.le_of_ble_eq_true rfl⟩ rfl hl.1 (Nat.le_of_ble_eq_true rfl) ⟨Nat.le_of_ble_eq_true rfl, Nat.le_of_ble_eq_true rfl⟩ dX4_leaveSeat_5 (ix9 ht9) (fun H locs hP hS => ?_)
  refine lv_if_eq (tgt := 23) hx hb dX4_leaveSeat_8 (by decide) (fun c1 => absurd c1 (by decide)) (fun _ => ?_)
  refine lv_aload_n hx hb dX4_leaveSeat_11 rfl (lv_at hl 0 rfl) ?_
  refine lv_iload_n hx hb dX4_leaveSeat_12 rfl (lv_at hl 2 rfl) ?_
  refine m_callt (rest := []) K hP hS (c_X4_isFerry l Z am hinj h (nI f)) ok_X4_101 rfl ⟨Nat.le_of_ble_eq_true rfl, Nat.le_of_ble_eq_true rfl⟩ rfl hl.1 (Nat.le_of_ble_eq_true rfl) ⟨Nat.le_of_ble_eq_true rfl, Nat.le_of_ble_eq_true rfl⟩ dX4_leaveSeat_13 (isF_t hfc hf2 hff) (fun H locs hP hS => ?_)
  refine lv_if_eq (tgt := 23) hx hb dX4_leaveSeat_16 (by decide) (fun c2 => absurd c2 (by decide)) (fun _ => ?_)
  refine lv_iconst (v := 1) hx hb dX4_leaveSeat_19 (by decide) ?_
  refine lv_goto (tgt := 24) hx hb dX4_leaveSeat_20 (by decide) ?_
  refine lv_istore_n (lv' := [(3, .int 1), (0, .ref (am 0)), (1, .int (nI t)), (2, .int (nI f))]) hx hb dX4_leaveSeat_24 rfl hl (by decide) rfl (fun ls hl => ?_)
  refine lv_aload_n hx hb dX4_leaveSeat_25 rfl (lv_at hl 1 rfl) ?_
  refine lv_iload_n hx hb dX4_leaveSeat_26 rfl (lv_at hl 0 rfl) ?_
  refine lv_if_ne (tgt := 34) hx hb dX4_leaveSeat_27 (by decide) (fun _ => ?_) (fun c3 => absurd c3 (by decide))
  refine lv_aload_n hx hb dX4_leaveSeat_34 rfl (lv_at hl 1 rfl) ?_
  refine mg_fg K hP dX4_leaveSeat_35 ?_
  refine lv_iload_n hx hb dX4_leaveSeat_38 rfl (lv_at hl 3 rfl) ?_
  refine mr_ald K hP (by decide) (by decide) (n := 20) rfl (by omega) (by decide) dX4_leaveSeat_39 ?_
  refine lv_iconst (v := 1) hx hb dX4_leaveSeat_40 (by decide) ?_
  refine lv_icmp_eq (tgt := 53) hx hb dX4_leaveSeat_41 (by decide) (fun c4 => ?_) (fun c4 => ?_)
  · refine lv_iconst (v := 2) hx hb dX4_leaveSeat_53 (by decide) ?_
    refine lv_goto (tgt := 58) hx hb dX4_leaveSeat_54 (by decide) ?_
    refine m_callt (rest := []) K hP hS (c_X4_holds l Z am hinj h 2) ok_X4_87 rfl ⟨Nat.le_of_ble_eq_true rfl, Nat.le_of_ble_eq_true rfl⟩ rfl hl.1 (Nat.le_of_ble_eq_true rfl) ⟨Nat.le_of_ble_eq_true rfl, Nat.le_of_ble_eq_true rfl⟩ dX4_leaveSeat_58 (by decide) (fun H locs hP hS => ?_)
    obtain ⟨h5, e5⟩ : ∃ z : St, z = (u2 h 0 3 2) := ⟨_, rfl⟩
    rw [← e5] at hP
    refine lv_if_eq (tgt := 66) hx hb dX4_leaveSeat_61 (by decide) (fun c6 => absurd c6 (by decide)) (fun _ => ?_)
    refine lv_iconst (v := (-1)) hx hb dX4_leaveSeat_64 (by decide) ?_
    exact fx_reti hx hb hr hlocks hP hS (Nat.le_of_ble_eq_true rfl) (Nat.le_of_ble_eq_true rfl) dX4_leaveSeat_65 ⟨rfl, e5⟩
  · refine lv_aload_n hx hb dX4_leaveSeat_44 rfl (lv_at hl 1 rfl) ?_
    refine lv_iload_n hx hb dX4_leaveSeat_45 rfl (lv_at hl 2 rfl) ?_
    refine lv_iload_n hx hb dX4_leaveSeat_46 rfl (lv_at hl 3 rfl) ?_
    refine m_callb (rest := [.ref (am 0)]) K hP hS (c_X4_hasSeat l Z am hinj h t f (by omega)) ok_X4_97 rfl ⟨Nat.le_of_ble_eq_true rfl, Nat.le_of_ble_eq_true rfl⟩ rfl hl.1 (Nat.le_of_ble_eq_true rfl) ⟨Nat.le_of_ble_eq_true rfl, Nat.le_of_ble_eq_true rfl⟩ dX4_leaveSeat_47 (fun c7 H locs hP hS => ?_) (fun c7 H locs hP hS => ?_)
    · exact absurd hbad (by simp only [not_or, Classical.not_not]; exact ⟨c4, c7⟩)
    · refine lv_if_ne (tgt := 57) hx hb dX4_leaveSeat_50 (by decide) (fun c8 => absurd (by decide) c8) (fun _ => ?_)
      refine lv_iconst (v := 2) hx hb dX4_leaveSeat_53 (by decide) ?_
      refine lv_goto (tgt := 58) hx hb dX4_leaveSeat_54 (by decide) ?_
      refine m_callt (rest := []) K hP hS (c_X4_holds l Z am hinj h 2) ok_X4_87 rfl ⟨Nat.le_of_ble_eq_true rfl, Nat.le_of_ble_eq_true rfl⟩ rfl hl.1 (Nat.le_of_ble_eq_true rfl) ⟨Nat.le_of_ble_eq_true rfl, Nat.le_of_ble_eq_true rfl⟩ dX4_leaveSeat_58 (by decide) (fun H locs hP hS => ?_)
      obtain ⟨h9, e9⟩ : ∃ z : St, z = (u2 h 0 3 2) := ⟨_, rfl⟩
      rw [← e9] at hP
      refine lv_if_eq (tgt := 66) hx hb dX4_leaveSeat_61 (by decide) (fun c10 => absurd c10 (by decide)) (fun _ => ?_)
      refine lv_iconst (v := (-1)) hx hb dX4_leaveSeat_64 (by decide) ?_
      exact fx_reti hx hb hr hlocks hP hS (Nat.le_of_ble_eq_true rfl) (Nat.le_of_ble_eq_true rfl) dX4_leaveSeat_65 ⟨rfl, e9⟩

set_option maxHeartbeats 4000000 in
set_option maxRecDepth 100000 in
theorem c_X4_aboard_0 (l : Launch) (Z : fx_Z) (am : Nat → Nat) (hinj : fx_inj 22 am) (h : St) (fc : Nat) (t : Nat) (f : Nat) (ht9 : t < 10) (hff : f < fc) (hfc : h 0 1 = nI fc) (hf2 : fc ≤ 20) (hs : mS h f t) (hab : ¬ 0 ≤ h 15 t) (hgo : ¬ h 16 t = 1) (hg : ¬ h 14 f = 1) (hin : h 11 f - 3 ≤ h 0 2 ∧ h 0 2 ≤ h 11 f - 1) : fx_C l Z yX4_aboard cX4_aboard 7 (some .int) 2 44 0 0 22 am (mF am (Z.2.1 0)) h [.ref (am 0), .int (nI t), .int (nI f)] (pI (cAb (u2 (u2 h 0 3 0) 15 t (nI f)) f 10) (u2 (u2 h 0 3 0) 15 t (nI f))) (fun _ => False) := by
  intro sz
  refine vx_ofW (cc := cX4_aboard) (maxL := 7) (ret := (some .int)) (by decide) rfl ?_
  intro p e s m args below meth c s₁ B hml hout hv
  obtain ⟨rfl, hsz, hP, hE, hSt⟩ := hv
  subst hsz
  have hx := B.exec
  have hb := B.bytes
  have hr := B.returns
  have hown : s.vm.findClass RX4 = some m.cls := findClass_of_methodNamed B.named
  have hlocks := B.notSynchronized
  have K : m_K p s m ([.ref (am 0), .int (nI t), .int (nI f)] : List Value).toArray c cX4_aboard 7 Z am := ⟨hx, hb, hml, hown, fun w hw => atoms_spec (ws := fx_l yX4_aboard cX4_aboard 7 (some .int)) B.pre w (List.mem_cons_of_mem _ hw), hE, hSt, hinj⟩
  have hS : va_S (fx_A 22 am s.heap.size) s.heap s.heap [] := va_S.rf
  have hl := lv_entry ([.ref (am 0), .int (nI t), .int (nI f)]) (n := 7) (Nat.le_of_ble_eq_true rfl)
  rw [lg_entry_eq]
  generalize (lg_sl ([.ref (am 0), .int (nI t), .int (nI f)]) ++ List.replicate (7 - (lg_sl ([.ref (am 0), .int (nI t), .int (nI f)])).length) Slot.unset).toArray = ls at hl ⊢
  have hl : lv_has ls 7 [(0, .ref (am 0)), (1, .int (nI t)), (2, .int (nI f))] := hl
  refine lv_aload_n hx hb dX4_aboard_0 rfl (lv_at hl 0 rfl) ?_
  refine lv_iload_n hx hb dX4_aboard_1 rfl (lv_at hl 1 rfl) ?_
  refine lv_iconst (v := 0) hx hb dX4_aboard_2 (by decide) ?_
  refine lv_bipush (v := 9) hx hb dX4_aboard_3 (by decide) ?_
  refine m_callt (rest := []) K hP hS (c_X4_in l Z am hinj h (nI t) 0 9) ok_X4_80 rfl ⟨Nat.le_of_ble_eq_true rfl, Nat.le_of_ble_eq_true rfl⟩ rfl hl.1 (Nat.le_of_ble_eq_true rfl) ⟨Nat.le_of_ble_eq_true rfl, Nat.le_of_ble_eq_true rfl⟩ dX4_aboard_5 (ix9 ht9) (fun H locs hP hS => ?_)
  refine lv_if_eq (tgt := 23) hx hb dX4_aboard_8 (by decide) (fun c1 => absurd c1 (by decide)) (fun _ => ?_)
  refine lv_aload_n hx hb dX4_aboard_11 rfl (lv_at hl 0 rfl) ?_
  refine lv_iload_n hx hb dX4_aboard_12 rfl (lv_at hl 2 rfl) ?_
  refine m_callt (rest := []) K hP hS (c_X4_isFerry l Z am hinj h (nI f)) ok_X4_101 rfl ⟨Nat.le_of_ble_eq_true rfl, Nat.le_of_ble_eq_true rfl⟩ rfl hl.1 (Nat.le_of_ble_eq_true rfl) ⟨Nat.le_of_ble_eq_true rfl, Nat.le_of_ble_eq_true rfl⟩ dX4_aboard_13 (isF_t hfc hf2 hff) (fun H locs hP hS => ?_)
  refine lv_if_eq (tgt := 23) hx hb dX4_aboard_16 (by decide) (fun c2 => absurd c2 (by decide)) (fun _ => ?_)
  refine lv_iconst (v := 1) hx hb dX4_aboard_19 (by decide) ?_
  refine lv_goto (tgt := 24) hx hb dX4_aboard_20 (by decide) ?_
  refine lv_istore_n (lv' := [(3, .int 1), (0, .ref (am 0)), (1, .int (nI t)), (2, .int (nI f))]) hx hb dX4_aboard_24 rfl hl (by decide) rfl (fun ls hl => ?_)
  refine lv_iload_n hx hb dX4_aboard_25 rfl (lv_at hl 0 rfl) ?_
  refine lv_if_eq (tgt := 98) hx hb dX4_aboard_26 (by decide) (fun c3 => absurd c3 (by decide)) (fun _ => ?_)
  refine lv_aload_n hx hb dX4_aboard_29 rfl (lv_at hl 1 rfl) ?_
  refine lv_iload_n hx hb dX4_aboard_30 rfl (lv_at hl 2 rfl) ?_
  refine lv_iload_n hx hb dX4_aboard_31 rfl (lv_at hl 3 rfl) ?_
  refine m_callt (rest := []) K hP hS (c_X4_hasSeat l Z am hinj h t f (by omega)) ok_X4_97 rfl ⟨Nat.le_of_ble_eq_true rfl, Nat.le_of_ble_eq_true rfl⟩ rfl hl.1 (Nat.le_of_ble_eq_true rfl) ⟨Nat.le_of_ble_eq_true rfl, Nat.le_of_ble_eq_true rfl⟩ dX4_aboard_32 hs (fun H locs hP hS => ?_)
  refine lv_if_eq (tgt := 94) hx hb dX4_aboard_35 (by decide) (fun c4 => absurd c4 (by decide)) (fun _ => ?_)
  refine lv_aload_n hx hb dX4_aboard_38 rfl (lv_at hl 1 rfl) ?_
  refine mg_ab K hP dX4_aboard_39 ?_
  refine lv_iload_n hx hb dX4_aboard_42 rfl (lv_at hl 2 rfl) ?_
  refine mr_ald K hP (by decide) (by decide) (n := 10) rfl (by omega) (by decide) dX4_aboard_43 ?_
  refine lv_if_ge (tgt := 94) hx hb dX4_aboard_44 (by decide) (fun c5 => absurd c5 hab) (fun _ => ?_)
  refine lv_aload_n hx hb dX4_aboard_47 rfl (lv_at hl 1 rfl) ?_
  refine mg_gone K hP dX4_aboard_48 ?_
  refine lv_iload_n hx hb dX4_aboard_51 rfl (lv_at hl 2 rfl) ?_
  refine mr_ald K hP (by decide) (by decide) (n := 10) rfl (by omega) (by decide) dX4_aboard_52 ?_
  refine lv_iconst (v := 1) hx hb dX4_aboard_53 (by decide) ?_
  refine lv_icmp_eq (tgt := 94) hx hb dX4_aboard_54 (by decide) (fun c6 => absurd c6 hgo) (fun _ => ?_)
  refine lv_aload_n hx hb dX4_aboard_57 rfl (lv_at hl 1 rfl) ?_
  refine mg_fg K hP dX4_aboard_58 ?_
  refine lv_iload_n hx hb dX4_aboard_61 rfl (lv_at hl 3 rfl) ?_
  refine mr_ald K hP (by decide) (by decide) (n := 20) rfl (by omega) (by decide) dX4_aboard_62 ?_
  refine lv_iconst (v := 1) hx hb dX4_aboard_63 (by decide) ?_
  refine lv_icmp_eq (tgt := 94) hx hb dX4_aboard_64 (by decide) (fun c7 => absurd c7 hg) (fun _ => ?_)
  refine lv_aload_n hx hb dX4_aboard_67 rfl (lv_at hl 1 rfl) ?_
  refine lv_aload_n hx hb dX4_aboard_68 rfl (lv_at hl 1 rfl) ?_
  refine mg_hour K hP dX4_aboard_69 ?_
  refine lv_aload_n hx hb dX4_aboard_72 rfl (lv_at hl 1 rfl) ?_
  refine mg_fh K hP dX4_aboard_73 ?_
  refine lv_iload_n hx hb dX4_aboard_76 rfl (lv_at hl 3 rfl) ?_
  refine mr_ald K hP (by decide) (by decide) (n := 20) rfl (by omega) (by decide) dX4_aboard_77 ?_
  refine lv_iconst (v := 3) hx hb dX4_aboard_78 (by decide) ?_
  refine lv_isub hx hb dX4_aboard_79 ?_
  refine lv_topi (fun v8 e8 => ?_)
  refine lv_aload_n hx hb dX4_aboard_80 rfl (lv_at hl 1 rfl) ?_
  refine mg_fh K hP dX4_aboard_81 ?_
  refine lv_iload_n hx hb dX4_aboard_84 rfl (lv_at hl 3 rfl) ?_
  refine mr_ald K hP (by decide) (by decide) (n := 20) rfl (by omega) (by decide) dX4_aboard_85 ?_
  refine lv_iconst (v := 1) hx hb dX4_aboard_86 (by decide) ?_
  refine lv_isub hx hb dX4_aboard_87 ?_
  refine lv_topi (fun v9 e9 => ?_)
  refine m_callt (rest := []) K hP hS (c_X4_in l Z am hinj h (h 0 2) v8 v9) ok_X4_80 rfl ⟨Nat.le_of_ble_eq_true rfl, Nat.le_of_ble_eq_true rfl⟩ rfl hl.1 (Nat.le_of_ble_eq_true rfl) ⟨Nat.le_of_ble_eq_true rfl, Nat.le_of_ble_eq_true rfl⟩ dX4_aboard_88 (by rw [e8, e9]; exact hin) (fun H locs hP hS => ?_)
  refine lv_if_ne (tgt := 98) hx hb dX4_aboard_91 (by decide) (fun _ => ?_) (fun c10 => absurd c10 (by decide))
  refine lv_iconst (v := 0) hx hb dX4_aboard_98 (by decide) ?_
  refine lv_istore (lv' := [(4, .int 0), (3, .int 1), (0, .ref (am 0)), (1, .int (nI t)), (2, .int (nI f))]) hx hb dX4_aboard_99 hl (by decide) rfl (fun ls hl => ?_)
  refine lv_aload_n hx hb dX4_aboard_101 rfl (lv_at hl 2 rfl) ?_
  refine lv_iload_n hx hb dX4_aboard_102 rfl (lv_at hl 1 rfl) ?_
  refine lv_if_ne (tgt := 110) hx hb dX4_aboard_103 (by decide) (fun _ => ?_) (fun c11 => absurd c11 (by decide))
  refine lv_iload hx hb dX4_aboard_110 (lv_at hl 0 rfl) ?_
  refine lv_if_eq (tgt := 119) hx hb dX4_aboard_112 (by decide) (fun _ => ?_) (fun c12 => absurd (by decide) c12)
  refine lv_iconst (v := 0) hx hb dX4_aboard_119 (by decide) ?_
  refine m_callf (rest := []) K hP hS (c_X4_holds l Z am hinj h 0) ok_X4_87 rfl ⟨Nat.le_of_ble_eq_true rfl, Nat.le_of_ble_eq_true rfl⟩ rfl hl.1 (Nat.le_of_ble_eq_true rfl) ⟨Nat.le_of_ble_eq_true rfl, Nat.le_of_ble_eq_true rfl⟩ dX4_aboard_120 (by decide) (fun H locs hP hS => ?_)
  obtain ⟨h13, e13⟩ : ∃ z : St, z = (u2 h 0 3 0) := ⟨_, rfl⟩
  rw [← e13] at hP
  refine lv_if_eq (tgt := 128) hx hb dX4_aboard_123 (by decide) (fun _ => ?_) (fun c14 => absurd (by decide) c14)
  refine lv_aload_n hx hb dX4_aboard_128 rfl (lv_at hl 2 rfl) ?_
  refine mg_ab K hP dX4_aboard_129 ?_
  refine lv_iload_n hx hb dX4_aboard_132 rfl (lv_at hl 3 rfl) ?_
  refine lv_iload_n hx hb dX4_aboard_133 rfl (lv_at hl 4 rfl) ?_
  refine mr_ast K hP hS (by decide) (by decide) (n := 10) rfl (by omega) (by decide) dX4_aboard_134 (fun h15 H locs e15 hP hS => ?_)
  refine lv_iconst (v := 0) hx hb dX4_aboard_135 (by decide) ?_
  refine lv_istore (lv' := [(5, .int 0), (4, .int 0), (3, .int 1), (0, .ref (am 0)), (1, .int (nI t)), (2, .int (nI f))]) hx hb dX4_aboard_136 hl (by decide) rfl (fun ls hl => ?_)
  refine lv_iconst (v := 0) hx hb dX4_aboard_138 (by decide) ?_
  refine lv_istore (lv' := [(6, .int 0), (5, .int 0), (4, .int 0), (3, .int 1), (0, .ref (am 0)), (1, .int (nI t)), (2, .int (nI f))]) hx hb dX4_aboard_139 hl (by decide) rfl (fun ls hl => ?_)
  have hloop141 : ∀ (d : Nat) (k : Nat) (x : Int32), k + d = 10 → x = cAb h15 f k → ∀ (H : Heap) (locs : List Loc), va_P Z.1 vwCl (iw 22 (mF am (Z.2.1 0) h15)) H → va_S (fx_A 22 am s.heap.size) s.heap H locs → ∀ ls : Array Slot, lv_has ls 7 [(0, .ref (am 0)), (2, .int (nI f)), (5, .int x), (6, .int (nI k))] → W p l e (headSpec (fx_l yX4_aboard cX4_aboard 7 (some .int)) { frames := 2, cells := 0, slots := 0, locals := 44 }).room s m ([.ref (am 0), .int (nI t), .int (nI f)] : List Value).toArray below meth c H locs 0 0 (vx_MQ below (fx_post Z 22 am (mF am (Z.2.1 0)) (pI (cAb (u2 (u2 h 0 3 0) 15 t (nI f)) f 10) (u2 (u2 h 0 3 0) 15 t (nI f))) s.heap.size) (fx_px Z 22 am (mF am (Z.2.1 0) h) (fun _ => False) s.heap.size) ([.ref (am 0), .int (nI t), .int (nI f)] : List Value).toArray s 0 0 (fx_A 22 am s.heap.size)) (F0 m 141 ls []) := by
    intro d
    induction d with
    | zero =>
      intro k x hd hx2 H locs hP hS ls hl
      refine lv_iload hx hb dX4_aboard_141 (lv_at hl 3 rfl) ?_
      refine lv_bipush (v := 10) hx hb dX4_aboard_143 (by decide) ?_
      refine lv_icmp_ge (tgt := 175) hx hb dX4_aboard_145 (by decide) (fun _ => ?_) (fun c16 => absurd (nI_le (a := 10) (by omega) (by omega)) c16)
      refine lv_iload hx hb dX4_aboard_175 (lv_at hl 2 rfl) ?_
      exact fx_reti hx hb hr hlocks hP hS (Nat.le_of_ble_eq_true rfl) (Nat.le_of_ble_eq_true rfl) dX4_aboard_177 ⟨(by rw [hx2, show k = 10 by omega]; simp only [e13, e15]), by simp only [e13, e15]⟩
    | succ d ih141 =>
      intro k x hd hx2 H locs hP hS ls hl
      refine lv_iload hx hb dX4_aboard_141 (lv_at hl 3 rfl) ?_
      refine lv_bipush (v := 10) hx hb dX4_aboard_143 (by decide) ?_
      refine lv_icmp_ge (tgt := 175) hx hb dX4_aboard_145 (by decide) (fun c17 => absurd c17 (nI_ge (b := 10) (by omega) (by omega))) (fun _ => ?_)
      refine lv_iload hx hb dX4_aboard_148 (lv_at hl 2 rfl) ?_
      refine lv_aload_n hx hb dX4_aboard_150 rfl (lv_at hl 0 rfl) ?_
      refine mg_ab K hP dX4_aboard_151 ?_
      refine lv_iload hx hb dX4_aboard_154 (lv_at hl 3 rfl) ?_
      refine mr_ald K hP (by decide) (by decide) (n := 10) rfl (by omega) (by decide) dX4_aboard_156 ?_
      refine lv_iload_n hx hb dX4_aboard_157 rfl (lv_at hl 1 rfl) ?_
      refine lv_icmp_ne (tgt := 165) hx hb dX4_aboard_158 (by decide) (fun c18 => ?_) (fun c18 => ?_)
      · refine lv_iconst (v := 0) hx hb dX4_aboard_165 (by decide) ?_
        refine lv_iadd hx hb dX4_aboard_166 ?_
        refine lv_topi (fun v19 e19 => ?_)
        refine lv_istore (lv' := [(5, .int v19), (0, .ref (am 0)), (2, .int (nI f)), (6, .int (nI k))]) hx hb dX4_aboard_167 hl (by decide) rfl (fun ls hl => ?_)
        refine lv_iinc (v := nI (k + 1)) (lv' := [(6, .int (nI (k + 1))), (5, .int v19), (0, .ref (am 0)), (2, .int (nI f))]) hx hb dX4_aboard_169 hl (k := 3) rfl (nI_1 _) (by decide) rfl (fun ls hl => ?_)
        refine lv_goto (tgt := 141) hx hb dX4_aboard_172 (by decide) ?_
        exact ih141 (k + 1) v19 (by omega) (by rw [e19, hx2]; simp [cAb, c18]) H locs hP hS ls (lv_sub hl [2, 3, 1, 0] rfl)
      · refine lv_iconst (v := 1) hx hb dX4_aboard_161 (by decide) ?_
        refine lv_goto (tgt := 166) hx hb dX4_aboard_162 (by decide) ?_
        refine lv_iadd hx hb dX4_aboard_166 ?_
        refine lv_topi (fun v20 e20 => ?_)
        refine lv_istore (lv' := [(5, .int v20), (0, .ref (am 0)), (2, .int (nI f)), (6, .int (nI k))]) hx hb dX4_aboard_167 hl (by decide) rfl (fun ls hl => ?_)
        refine lv_iinc (v := nI (k + 1)) (lv' := [(6, .int (nI (k + 1))), (5, .int v20), (0, .ref (am 0)), (2, .int (nI f))]) hx hb dX4_aboard_169 hl (k := 3) rfl (nI_1 _) (by decide) rfl (fun ls hl => ?_)
        refine lv_goto (tgt := 141) hx hb dX4_aboard_172 (by decide) ?_
        exact ih141 (k + 1) v20 (by omega) (by rw [e20, hx2]; simp [cAb, c18]) H locs hP hS ls (lv_sub hl [2, 3, 1, 0] rfl)
  exact hloop141 10 0 0 (by omega) rfl H locs hP hS ls (lv_sub hl [4, 6, 1, 0] rfl)

set_option maxHeartbeats 4000000 in
set_option maxRecDepth 100000 in
theorem c_X4_aboard_1 (l : Launch) (Z : fx_Z) (am : Nat → Nat) (hinj : fx_inj 22 am) (h : St) (fc : Nat) (t : Int32) (f : Int32) (hfc : h 0 1 = nI fc) (hf2 : fc ≤ 20) (hbad : bad t 10 ∨ bad f fc) : fx_C l Z yX4_aboard cX4_aboard 7 (some .int) 2 44 0 0 22 am (mF am (Z.2.1 0)) h [.ref (am 0), .int t, .int f] (pI (-1) (u2 h 0 3 1)) (fun _ => False) := by
  intro sz
  refine vx_ofW (cc := cX4_aboard) (maxL := 7) (ret := (some .int)) (by decide) rfl ?_
  intro p e s m args below meth c s₁ B hml hout hv
  obtain ⟨rfl, hsz, hP, hE, hSt⟩ := hv
  subst hsz
  have hx := B.exec
  have hb := B.bytes
  have hr := B.returns
  have hown : s.vm.findClass RX4 = some m.cls := findClass_of_methodNamed B.named
  have hlocks := B.notSynchronized
  have K : m_K p s m ([.ref (am 0), .int t, .int f] : List Value).toArray c cX4_aboard 7 Z am := ⟨hx, hb, hml, hown, fun w hw => atoms_spec (ws := fx_l yX4_aboard cX4_aboard 7 (some .int)) B.pre w (List.mem_cons_of_mem _ hw), hE, hSt, hinj⟩
  have hS : va_S (fx_A 22 am s.heap.size) s.heap s.heap [] := va_S.rf
  have hl := lv_entry ([.ref (am 0), .int t, .int f]) (n := 7) (Nat.le_of_ble_eq_true rfl)
  rw [lg_entry_eq]
  generalize (lg_sl ([.ref (am 0), .int t, .int f]) ++ List.replicate (7 - (lg_sl ([.ref (am 0), .int t, .int f])).length) Slot.unset).toArray = ls at hl ⊢
  have hl : lv_has ls 7 [(0, .ref (am 0)), (1, .int t), (2, .int f)] := hl
  refine lv_aload_n hx hb dX4_aboard_0 rfl (lv_at hl 0 rfl) ?_
  refine lv_iload_n hx hb dX4_aboard_1 rfl (lv_at hl 1 rfl) ?_
  refine lv_iconst (v := 0) hx hb dX4_aboard_2 (by decide) ?_
  refine lv_bipush (v := 9) hx hb dX4_aboard_3 (by decide) ?_
  refine m_callb (rest := []) K hP hS (c_X4_in l Z am hinj h t 0 9) ok_X4_80 rfl ⟨Nat.le_of_ble_eq_true rfl, Nat.le_of_ble_eq_true rfl⟩ rfl hl.1 (Nat.le_of_ble_eq_true rfl) ⟨Nat.le_of_ble_eq_true rfl, Nat.le_of_ble_eq_true rfl⟩ dX4_aboard_5 (fun c1 H locs hP hS => ?_) (fun c1 H locs hP hS => ?_)
  · refine lv_if_eq (tgt := 23) hx hb dX4_aboard_8 (by decide) (fun c2 => absurd c2 (by decide)) (fun _ => ?_)
    refine lv_aload_n hx hb dX4_aboard_11 rfl (lv_at hl 0 rfl) ?_
    refine lv_iload_n hx hb dX4_aboard_12 rfl (lv_at hl 2 rfl) ?_
    refine m_callb (rest := []) K hP hS (c_X4_isFerry l Z am hinj h f) ok_X4_101 rfl ⟨Nat.le_of_ble_eq_true rfl, Nat.le_of_ble_eq_true rfl⟩ rfl hl.1 (Nat.le_of_ble_eq_true rfl) ⟨Nat.le_of_ble_eq_true rfl, Nat.le_of_ble_eq_true rfl⟩ dX4_aboard_13 (fun c3 H locs hP hS => ?_) (fun c3 H locs hP hS => ?_)
    · exact absurd hbad (nbad2 hfc hf2 c1 c3)
    · refine lv_if_eq (tgt := 23) hx hb dX4_aboard_16 (by decide) (fun _ => ?_) (fun c4 => absurd (by decide) c4)
      refine lv_iconst (v := 0) hx hb dX4_aboard_23 (by decide) ?_
      refine lv_istore_n (lv' := [(3, .int 0), (0, .ref (am 0)), (1, .int t), (2, .int f)]) hx hb dX4_aboard_24 rfl hl (by decide) rfl (fun ls hl => ?_)
      refine lv_iload_n hx hb dX4_aboard_25 rfl (lv_at hl 0 rfl) ?_
      refine lv_if_eq (tgt := 98) hx hb dX4_aboard_26 (by decide) (fun _ => ?_) (fun c5 => absurd (by decide) c5)
      refine lv_iconst (v := 0) hx hb dX4_aboard_98 (by decide) ?_
      refine lv_istore (lv' := [(4, .int 0), (3, .int 0), (0, .ref (am 0)), (1, .int t), (2, .int f)]) hx hb dX4_aboard_99 hl (by decide) rfl (fun ls hl => ?_)
      refine lv_aload_n hx hb dX4_aboard_101 rfl (lv_at hl 2 rfl) ?_
      refine lv_iload_n hx hb dX4_aboard_102 rfl (lv_at hl 1 rfl) ?_
      refine lv_if_ne (tgt := 110) hx hb dX4_aboard_103 (by decide) (fun c6 => absurd (by decide) c6) (fun _ => ?_)
      refine lv_iconst (v := 1) hx hb dX4_aboard_106 (by decide) ?_
      refine lv_goto (tgt := 120) hx hb dX4_aboard_107 (by decide) ?_
      refine m_callt (rest := []) K hP hS (c_X4_holds l Z am hinj h 1) ok_X4_87 rfl ⟨Nat.le_of_ble_eq_true rfl, Nat.le_of_ble_eq_true rfl⟩ rfl hl.1 (Nat.le_of_ble_eq_true rfl) ⟨Nat.le_of_ble_eq_true rfl, Nat.le_of_ble_eq_true rfl⟩ dX4_aboard_120 (by decide) (fun H locs hP hS => ?_)
      obtain ⟨h7, e7⟩ : ∃ z : St, z = (u2 h 0 3 1) := ⟨_, rfl⟩
      rw [← e7] at hP
      refine lv_if_eq (tgt := 128) hx hb dX4_aboard_123 (by decide) (fun c8 => absurd c8 (by decide)) (fun _ => ?_)
      refine lv_iconst (v := (-1)) hx hb dX4_aboard_126 (by decide) ?_
      exact fx_reti hx hb hr hlocks hP hS (Nat.le_of_ble_eq_true rfl) (Nat.le_of_ble_eq_true rfl) dX4_aboard_127 ⟨rfl, e7⟩
  · refine lv_if_eq (tgt := 23) hx hb dX4_aboard_8 (by decide) (fun _ => ?_) (fun c9 => absurd (by decide) c9)
    refine lv_iconst (v := 0) hx hb dX4_aboard_23 (by decide) ?_
    refine lv_istore_n (lv' := [(3, .int 0), (0, .ref (am 0)), (1, .int t), (2, .int f)]) hx hb dX4_aboard_24 rfl hl (by decide) rfl (fun ls hl => ?_)
    refine lv_iload_n hx hb dX4_aboard_25 rfl (lv_at hl 0 rfl) ?_
    refine lv_if_eq (tgt := 98) hx hb dX4_aboard_26 (by decide) (fun _ => ?_) (fun c10 => absurd (by decide) c10)
    refine lv_iconst (v := 0) hx hb dX4_aboard_98 (by decide) ?_
    refine lv_istore (lv' := [(4, .int 0), (3, .int 0), (0, .ref (am 0)), (1, .int t), (2, .int f)]) hx hb dX4_aboard_99 hl (by decide) rfl (fun ls hl => ?_)
    refine lv_aload_n hx hb dX4_aboard_101 rfl (lv_at hl 2 rfl) ?_
    refine lv_iload_n hx hb dX4_aboard_102 rfl (lv_at hl 1 rfl) ?_
    refine lv_if_ne (tgt := 110) hx hb dX4_aboard_103 (by decide) (fun c11 => absurd (by decide) c11) (fun _ => ?_)
    refine lv_iconst (v := 1) hx hb dX4_aboard_106 (by decide) ?_
    refine lv_goto (tgt := 120) hx hb dX4_aboard_107 (by decide) ?_
    refine m_callt (rest := []) K hP hS (c_X4_holds l Z am hinj h 1) ok_X4_87 rfl ⟨Nat.le_of_ble_eq_true rfl, Nat.le_of_ble_eq_true rfl⟩ rfl hl.1 (Nat.le_of_ble_eq_true rfl) ⟨Nat.le_of_ble_eq_true rfl, Nat.le_of_ble_eq_true rfl⟩ dX4_aboard_120 (by decide) (fun H locs hP hS => ?_)
    obtain ⟨h12, e12⟩ : ∃ z : St, z = (u2 h 0 3 1) := ⟨_, rfl⟩
    rw [← e12] at hP
    refine lv_if_eq (tgt := 128) hx hb dX4_aboard_123 (by decide) (fun c13 => absurd c13 (by decide)) (fun _ => ?_)
    refine lv_iconst (v := (-1)) hx hb dX4_aboard_126 (by decide) ?_
    exact fx_reti hx hb hr hlocks hP hS (Nat.le_of_ble_eq_true rfl) (Nat.le_of_ble_eq_true rfl) dX4_aboard_127 ⟨rfl, e12⟩

set_option maxHeartbeats 4000000 in
set_option maxRecDepth 100000 in
theorem c_X4_aboard_2 (l : Launch) (Z : fx_Z) (am : Nat → Nat) (hinj : fx_inj 22 am) (h : St) (fc : Nat) (t : Nat) (f : Nat) (ht9 : t < 10) (hff : f < fc) (hfc : h 0 1 = nI fc) (hf2 : fc ≤ 20) (hbad : ¬ mS h f t ∨ 0 ≤ h 15 t ∨ h 16 t = 1 ∨ h 14 f = 1 ∨ ¬ (h 11 f - 3 ≤ h 0 2 ∧ h 0 2 ≤ h 11 f - 1)) : fx_C l Z yX4_aboard cX4_aboard 7 (some .int) 2 44 0 0 22 am (mF am (Z.2.1 0)) h [.ref (am 0), .int (nI t), .int (nI f)] (pI (-1) (u2 h 0 3 2)) (fun _ => False) := by
  intro sz
  refine vx_ofW (cc := cX4_aboard) (maxL := 7) (ret := (some .int)) (by decide) rfl ?_
  intro p e s m args below meth c s₁ B hml hout hv
  obtain ⟨rfl, hsz, hP, hE, hSt⟩ := hv
  subst hsz
  have hx := B.exec
  have hb := B.bytes
  have hr := B.returns
  have hown : s.vm.findClass RX4 = some m.cls := findClass_of_methodNamed B.named
  have hlocks := B.notSynchronized
  have K : m_K p s m ([.ref (am 0), .int (nI t), .int (nI f)] : List Value).toArray c cX4_aboard 7 Z am := ⟨hx, hb, hml, hown, fun w hw => atoms_spec (ws := fx_l yX4_aboard cX4_aboard 7 (some .int)) B.pre w (List.mem_cons_of_mem _ hw), hE, hSt, hinj⟩
  have hS : va_S (fx_A 22 am s.heap.size) s.heap s.heap [] := va_S.rf
  have hl := lv_entry ([.ref (am 0), .int (nI t), .int (nI f)]) (n := 7) (Nat.le_of_ble_eq_true rfl)
  rw [lg_entry_eq]
  generalize (lg_sl ([.ref (am 0), .int (nI t), .int (nI f)]) ++ List.replicate (7 - (lg_sl ([.ref (am 0), .int (nI t), .int (nI f)])).length) Slot.unset).toArray = ls at hl ⊢
  have hl : lv_has ls 7 [(0, .ref (am 0)), (1, .int (nI t)), (2, .int (nI f))] := hl
  refine lv_aload_n hx hb dX4_aboard_0 rfl (lv_at hl 0 rfl) ?_
  refine lv_iload_n hx hb dX4_aboard_1 rfl (lv_at hl 1 rfl) ?_
  refine lv_iconst (v := 0) hx hb dX4_aboard_2 (by decide) ?_
  refine lv_bipush (v := 9) hx hb dX4_aboard_3 (by decide) ?_
  refine m_callt (rest := []) K hP hS (c_X4_in l Z am hinj h (nI t) 0 9) ok_X4_80 rfl ⟨Nat.le_of_ble_eq_true rfl, Nat.le_of_ble_eq_true rfl⟩ rfl hl.1 (Nat.le_of_ble_eq_true rfl) ⟨Nat.le_of_ble_eq_true rfl, Nat.le_of_ble_eq_true rfl⟩ dX4_aboard_5 (ix9 ht9) (fun H locs hP hS => ?_)
  refine lv_if_eq (tgt := 23) hx hb dX4_aboard_8 (by decide) (fun c1 => absurd c1 (by decide)) (fun _ => ?_)
  refine lv_aload_n hx hb dX4_aboard_11 rfl (lv_at hl 0 rfl) ?_
  refine lv_iload_n hx hb dX4_aboard_12 rfl (lv_at hl 2 rfl) ?_
  refine m_callt (rest := []) K hP hS (c_X4_isFerry l Z am hinj h (nI f)) ok_X4_101 rfl ⟨Nat.le_of_ble_eq_true rfl, Nat.le_of_ble_eq_true rfl⟩ rfl hl.1 (Nat.le_of_ble_eq_true rfl) ⟨Nat.le_of_ble_eq_true rfl, Nat.le_of_ble_eq_true rfl⟩ dX4_aboard_13 (isF_t hfc hf2 hff) (fun H locs hP hS => ?_)
  refine lv_if_eq (tgt := 23) hx hb dX4_aboard_16 (by decide) (fun c2 => absurd c2 (by decide)) (fun _ => ?_)
  refine lv_iconst (v := 1) hx hb dX4_aboard_19 (by decide) ?_
  refine lv_goto (tgt := 24) hx hb dX4_aboard_20 (by decide) ?_
  refine lv_istore_n (lv' := [(3, .int 1), (0, .ref (am 0)), (1, .int (nI t)), (2, .int (nI f))]) hx hb dX4_aboard_24 rfl hl (by decide) rfl (fun ls hl => ?_)
  refine lv_iload_n hx hb dX4_aboard_25 rfl (lv_at hl 0 rfl) ?_
  refine lv_if_eq (tgt := 98) hx hb dX4_aboard_26 (by decide) (fun c3 => absurd c3 (by decide)) (fun _ => ?_)
  refine lv_aload_n hx hb dX4_aboard_29 rfl (lv_at hl 1 rfl) ?_
  refine lv_iload_n hx hb dX4_aboard_30 rfl (lv_at hl 2 rfl) ?_
  refine lv_iload_n hx hb dX4_aboard_31 rfl (lv_at hl 3 rfl) ?_
  refine m_callb (rest := []) K hP hS (c_X4_hasSeat l Z am hinj h t f (by omega)) ok_X4_97 rfl ⟨Nat.le_of_ble_eq_true rfl, Nat.le_of_ble_eq_true rfl⟩ rfl hl.1 (Nat.le_of_ble_eq_true rfl) ⟨Nat.le_of_ble_eq_true rfl, Nat.le_of_ble_eq_true rfl⟩ dX4_aboard_32 (fun c4 H locs hP hS => ?_) (fun c4 H locs hP hS => ?_)
  · refine lv_if_eq (tgt := 94) hx hb dX4_aboard_35 (by decide) (fun c5 => absurd c5 (by decide)) (fun _ => ?_)
    refine lv_aload_n hx hb dX4_aboard_38 rfl (lv_at hl 1 rfl) ?_
    refine mg_ab K hP dX4_aboard_39 ?_
    refine lv_iload_n hx hb dX4_aboard_42 rfl (lv_at hl 2 rfl) ?_
    refine mr_ald K hP (by decide) (by decide) (n := 10) rfl (by omega) (by decide) dX4_aboard_43 ?_
    refine lv_if_ge (tgt := 94) hx hb dX4_aboard_44 (by decide) (fun c6 => ?_) (fun c6 => ?_)
    · refine lv_iconst (v := 1) hx hb dX4_aboard_94 (by decide) ?_
      refine lv_goto (tgt := 99) hx hb dX4_aboard_95 (by decide) ?_
      refine lv_istore (lv' := [(4, .int 1), (3, .int 1), (0, .ref (am 0)), (1, .int (nI t)), (2, .int (nI f))]) hx hb dX4_aboard_99 hl (by decide) rfl (fun ls hl => ?_)
      refine lv_aload_n hx hb dX4_aboard_101 rfl (lv_at hl 2 rfl) ?_
      refine lv_iload_n hx hb dX4_aboard_102 rfl (lv_at hl 1 rfl) ?_
      refine lv_if_ne (tgt := 110) hx hb dX4_aboard_103 (by decide) (fun _ => ?_) (fun c7 => absurd c7 (by decide))
      refine lv_iload hx hb dX4_aboard_110 (lv_at hl 0 rfl) ?_
      refine lv_if_eq (tgt := 119) hx hb dX4_aboard_112 (by decide) (fun c8 => absurd c8 (by decide)) (fun _ => ?_)
      refine lv_iconst (v := 2) hx hb dX4_aboard_115 (by decide) ?_
      refine lv_goto (tgt := 120) hx hb dX4_aboard_116 (by decide) ?_
      refine m_callt (rest := []) K hP hS (c_X4_holds l Z am hinj h 2) ok_X4_87 rfl ⟨Nat.le_of_ble_eq_true rfl, Nat.le_of_ble_eq_true rfl⟩ rfl hl.1 (Nat.le_of_ble_eq_true rfl) ⟨Nat.le_of_ble_eq_true rfl, Nat.le_of_ble_eq_true rfl⟩ dX4_aboard_120 (by decide) (fun H locs hP hS => ?_)
      obtain ⟨h9, e9⟩ : ∃ z : St, z = (u2 h 0 3 2) := ⟨_, rfl⟩
      rw [← e9] at hP
      refine lv_if_eq (tgt := 128) hx hb dX4_aboard_123 (by decide) (fun c10 => absurd c10 (by decide)) (fun _ => ?_)
      refine lv_iconst (v := (-1)) hx hb dX4_aboard_126 (by decide) ?_
      exact fx_reti hx hb hr hlocks hP hS (Nat.le_of_ble_eq_true rfl) (Nat.le_of_ble_eq_true rfl) dX4_aboard_127 ⟨rfl, e9⟩
    · refine lv_aload_n hx hb dX4_aboard_47 rfl (lv_at hl 1 rfl) ?_
      refine mg_gone K hP dX4_aboard_48 ?_
      refine lv_iload_n hx hb dX4_aboard_51 rfl (lv_at hl 2 rfl) ?_
      refine mr_ald K hP (by decide) (by decide) (n := 10) rfl (by omega) (by decide) dX4_aboard_52 ?_
      refine lv_iconst (v := 1) hx hb dX4_aboard_53 (by decide) ?_
      refine lv_icmp_eq (tgt := 94) hx hb dX4_aboard_54 (by decide) (fun c11 => ?_) (fun c11 => ?_)
      · refine lv_iconst (v := 1) hx hb dX4_aboard_94 (by decide) ?_
        refine lv_goto (tgt := 99) hx hb dX4_aboard_95 (by decide) ?_
        refine lv_istore (lv' := [(4, .int 1), (3, .int 1), (0, .ref (am 0)), (1, .int (nI t)), (2, .int (nI f))]) hx hb dX4_aboard_99 hl (by decide) rfl (fun ls hl => ?_)
        refine lv_aload_n hx hb dX4_aboard_101 rfl (lv_at hl 2 rfl) ?_
        refine lv_iload_n hx hb dX4_aboard_102 rfl (lv_at hl 1 rfl) ?_
        refine lv_if_ne (tgt := 110) hx hb dX4_aboard_103 (by decide) (fun _ => ?_) (fun c12 => absurd c12 (by decide))
        refine lv_iload hx hb dX4_aboard_110 (lv_at hl 0 rfl) ?_
        refine lv_if_eq (tgt := 119) hx hb dX4_aboard_112 (by decide) (fun c13 => absurd c13 (by decide)) (fun _ => ?_)
        refine lv_iconst (v := 2) hx hb dX4_aboard_115 (by decide) ?_
        refine lv_goto (tgt := 120) hx hb dX4_aboard_116 (by decide) ?_
        refine m_callt (rest := []) K hP hS (c_X4_holds l Z am hinj h 2) ok_X4_87 rfl ⟨Nat.le_of_ble_eq_true rfl, Nat.le_of_ble_eq_true rfl⟩ rfl hl.1 (Nat.le_of_ble_eq_true rfl) ⟨Nat.le_of_ble_eq_true rfl, Nat.le_of_ble_eq_true rfl⟩ dX4_aboard_120 (by decide) (fun H locs hP hS => ?_)
        obtain ⟨h14, e14⟩ : ∃ z : St, z = (u2 h 0 3 2) := ⟨_, rfl⟩
        rw [← e14] at hP
        refine lv_if_eq (tgt := 128) hx hb dX4_aboard_123 (by decide) (fun c15 => absurd c15 (by decide)) (fun _ => ?_)
        refine lv_iconst (v := (-1)) hx hb dX4_aboard_126 (by decide) ?_
        exact fx_reti hx hb hr hlocks hP hS (Nat.le_of_ble_eq_true rfl) (Nat.le_of_ble_eq_true rfl) dX4_aboard_127 ⟨rfl, e14⟩
      · refine lv_aload_n hx hb dX4_aboard_57 rfl (lv_at hl 1 rfl) ?_
        refine mg_fg K hP dX4_aboard_58 ?_
        refine lv_iload_n hx hb dX4_aboard_61 rfl (lv_at hl 3 rfl) ?_
        refine mr_ald K hP (by decide) (by decide) (n := 20) rfl (by omega) (by decide) dX4_aboard_62 ?_
        refine lv_iconst (v := 1) hx hb dX4_aboard_63 (by decide) ?_
        refine lv_icmp_eq (tgt := 94) hx hb dX4_aboard_64 (by decide) (fun c16 => ?_) (fun c16 => ?_)
        · refine lv_iconst (v := 1) hx hb dX4_aboard_94 (by decide) ?_
          refine lv_goto (tgt := 99) hx hb dX4_aboard_95 (by decide) ?_
          refine lv_istore (lv' := [(4, .int 1), (3, .int 1), (0, .ref (am 0)), (1, .int (nI t)), (2, .int (nI f))]) hx hb dX4_aboard_99 hl (by decide) rfl (fun ls hl => ?_)
          refine lv_aload_n hx hb dX4_aboard_101 rfl (lv_at hl 2 rfl) ?_
          refine lv_iload_n hx hb dX4_aboard_102 rfl (lv_at hl 1 rfl) ?_
          refine lv_if_ne (tgt := 110) hx hb dX4_aboard_103 (by decide) (fun _ => ?_) (fun c17 => absurd c17 (by decide))
          refine lv_iload hx hb dX4_aboard_110 (lv_at hl 0 rfl) ?_
          refine lv_if_eq (tgt := 119) hx hb dX4_aboard_112 (by decide) (fun c18 => absurd c18 (by decide)) (fun _ => ?_)
          refine lv_iconst (v := 2) hx hb dX4_aboard_115 (by decide) ?_
          refine lv_goto (tgt := 120) hx hb dX4_aboard_116 (by decide) ?_
          refine m_callt (rest := []) K hP hS (c_X4_holds l Z am hinj h 2) ok_X4_87 rfl ⟨Nat.le_of_ble_eq_true rfl, Nat.le_of_ble_eq_true rfl⟩ rfl hl.1 (Nat.le_of_ble_eq_true rfl) ⟨Nat.le_of_ble_eq_true rfl, Nat.le_of_ble_eq_true rfl⟩ dX4_aboard_120 (by decide) (fun H locs hP hS => ?_)
          obtain ⟨h19, e19⟩ : ∃ z : St, z = (u2 h 0 3 2) := ⟨_, rfl⟩
          rw [← e19] at hP
          refine lv_if_eq (tgt := 128) hx hb dX4_aboard_123 (by decide) (fun c20 => absurd c20 (by decide)) (fun _ => ?_)
          refine lv_iconst (v := (-1)) hx hb dX4_aboard_126 (by decide) ?_
          exact fx_reti hx hb hr hlocks hP hS (Nat.le_of_ble_eq_true rfl) (Nat.le_of_ble_eq_true rfl) dX4_aboard_127 ⟨rfl, e19⟩
        · refine lv_aload_n hx hb dX4_aboard_67 rfl (lv_at hl 1 rfl) ?_
          refine lv_aload_n hx hb dX4_aboard_68 rfl (lv_at hl 1 rfl) ?_
          refine mg_hour K hP dX4_aboard_69 ?_
          refine lv_aload_n hx hb dX4_aboard_72 rfl (lv_at hl 1 rfl) ?_
          refine mg_fh K hP dX4_aboard_73 ?_
          refine lv_iload_n hx hb dX4_aboard_76 rfl (lv_at hl 3 rfl) ?_
          refine mr_ald K hP (by decide) (by decide) (n := 20) rfl (by omega) (by decide) dX4_aboard_77 ?_
          refine lv_iconst (v := 3) hx hb dX4_aboard_78 (by decide) ?_
          refine lv_isub hx hb dX4_aboard_79 ?_
          refine lv_topi (fun v21 e21 => ?_)
          refine lv_aload_n hx hb dX4_aboard_80 rfl (lv_at hl 1 rfl) ?_
          refine mg_fh K hP dX4_aboard_81 ?_
          refine lv_iload_n hx hb dX4_aboard_84 rfl (lv_at hl 3 rfl) ?_
          refine mr_ald K hP (by decide) (by decide) (n := 20) rfl (by omega) (by decide) dX4_aboard_85 ?_
          refine lv_iconst (v := 1) hx hb dX4_aboard_86 (by decide) ?_
          refine lv_isub hx hb dX4_aboard_87 ?_
          refine lv_topi (fun v22 e22 => ?_)
          refine m_callb (rest := []) K hP hS (c_X4_in l Z am hinj h (h 0 2) v21 v22) ok_X4_80 rfl ⟨Nat.le_of_ble_eq_true rfl, Nat.le_of_ble_eq_true rfl⟩ rfl hl.1 (Nat.le_of_ble_eq_true rfl) ⟨Nat.le_of_ble_eq_true rfl, Nat.le_of_ble_eq_true rfl⟩ dX4_aboard_88 (fun c23 H locs hP hS => ?_) (fun c23 H locs hP hS => ?_)
          · exact absurd hbad (by simp only [not_or, Classical.not_not]; exact ⟨c4, c6, c11, c16, by rw [e21, e22] at c23; exact c23⟩)
          · refine lv_if_ne (tgt := 98) hx hb dX4_aboard_91 (by decide) (fun c24 => absurd (by decide) c24) (fun _ => ?_)
            refine lv_iconst (v := 1) hx hb dX4_aboard_94 (by decide) ?_
            refine lv_goto (tgt := 99) hx hb dX4_aboard_95 (by decide) ?_
            refine lv_istore (lv' := [(4, .int 1), (3, .int 1), (0, .ref (am 0)), (1, .int (nI t)), (2, .int (nI f))]) hx hb dX4_aboard_99 hl (by decide) rfl (fun ls hl => ?_)
            refine lv_aload_n hx hb dX4_aboard_101 rfl (lv_at hl 2 rfl) ?_
            refine lv_iload_n hx hb dX4_aboard_102 rfl (lv_at hl 1 rfl) ?_
            refine lv_if_ne (tgt := 110) hx hb dX4_aboard_103 (by decide) (fun _ => ?_) (fun c25 => absurd c25 (by decide))
            refine lv_iload hx hb dX4_aboard_110 (lv_at hl 0 rfl) ?_
            refine lv_if_eq (tgt := 119) hx hb dX4_aboard_112 (by decide) (fun c26 => absurd c26 (by decide)) (fun _ => ?_)
            refine lv_iconst (v := 2) hx hb dX4_aboard_115 (by decide) ?_
            refine lv_goto (tgt := 120) hx hb dX4_aboard_116 (by decide) ?_
            refine m_callt (rest := []) K hP hS (c_X4_holds l Z am hinj h 2) ok_X4_87 rfl ⟨Nat.le_of_ble_eq_true rfl, Nat.le_of_ble_eq_true rfl⟩ rfl hl.1 (Nat.le_of_ble_eq_true rfl) ⟨Nat.le_of_ble_eq_true rfl, Nat.le_of_ble_eq_true rfl⟩ dX4_aboard_120 (by decide) (fun H locs hP hS => ?_)
            obtain ⟨h27, e27⟩ : ∃ z : St, z = (u2 h 0 3 2) := ⟨_, rfl⟩
            rw [← e27] at hP
            refine lv_if_eq (tgt := 128) hx hb dX4_aboard_123 (by decide) (fun c28 => absurd c28 (by decide)) (fun _ => ?_)
            refine lv_iconst (v := (-1)) hx hb dX4_aboard_126 (by decide) ?_
            exact fx_reti hx hb hr hlocks hP hS (Nat.le_of_ble_eq_true rfl) (Nat.le_of_ble_eq_true rfl) dX4_aboard_127 ⟨rfl, e27⟩
  · refine lv_if_eq (tgt := 94) hx hb dX4_aboard_35 (by decide) (fun _ => ?_) (fun c29 => absurd (by decide) c29)
    refine lv_iconst (v := 1) hx hb dX4_aboard_94 (by decide) ?_
    refine lv_goto (tgt := 99) hx hb dX4_aboard_95 (by decide) ?_
    refine lv_istore (lv' := [(4, .int 1), (3, .int 1), (0, .ref (am 0)), (1, .int (nI t)), (2, .int (nI f))]) hx hb dX4_aboard_99 hl (by decide) rfl (fun ls hl => ?_)
    refine lv_aload_n hx hb dX4_aboard_101 rfl (lv_at hl 2 rfl) ?_
    refine lv_iload_n hx hb dX4_aboard_102 rfl (lv_at hl 1 rfl) ?_
    refine lv_if_ne (tgt := 110) hx hb dX4_aboard_103 (by decide) (fun _ => ?_) (fun c30 => absurd c30 (by decide))
    refine lv_iload hx hb dX4_aboard_110 (lv_at hl 0 rfl) ?_
    refine lv_if_eq (tgt := 119) hx hb dX4_aboard_112 (by decide) (fun c31 => absurd c31 (by decide)) (fun _ => ?_)
    refine lv_iconst (v := 2) hx hb dX4_aboard_115 (by decide) ?_
    refine lv_goto (tgt := 120) hx hb dX4_aboard_116 (by decide) ?_
    refine m_callt (rest := []) K hP hS (c_X4_holds l Z am hinj h 2) ok_X4_87 rfl ⟨Nat.le_of_ble_eq_true rfl, Nat.le_of_ble_eq_true rfl⟩ rfl hl.1 (Nat.le_of_ble_eq_true rfl) ⟨Nat.le_of_ble_eq_true rfl, Nat.le_of_ble_eq_true rfl⟩ dX4_aboard_120 (by decide) (fun H locs hP hS => ?_)
    obtain ⟨h32, e32⟩ : ∃ z : St, z = (u2 h 0 3 2) := ⟨_, rfl⟩
    rw [← e32] at hP
    refine lv_if_eq (tgt := 128) hx hb dX4_aboard_123 (by decide) (fun c33 => absurd c33 (by decide)) (fun _ => ?_)
    refine lv_iconst (v := (-1)) hx hb dX4_aboard_126 (by decide) ?_
    exact fx_reti hx hb hr hlocks hP hS (Nat.le_of_ble_eq_true rfl) (Nat.le_of_ble_eq_true rfl) dX4_aboard_127 ⟨rfl, e32⟩

set_option maxHeartbeats 4000000 in
set_option maxRecDepth 100000 in
theorem c_X4_stamp_0 (l : Launch) (Z : fx_Z) (am : Nat → Nat) (hinj : fx_inj 22 am) (h : St) (rc : Nat) (fc : Nat) (t : Nat) (i : Nat) (f : Nat) (hi : i < rc) (hrc : h 0 0 = nI rc) (hr6 : rc ≤ 60) (hff : f < fc) (hfc : h 0 1 = nI fc) (hf2 : fc ≤ 20) (ht : h 3 i = nI t) (ht9 : t < 10) (h7 : h 7 i = 0) (h4 : ¬ h 4 i < 50) (hg : ¬ h 14 f = 1) (hs : mS h f t) (hin : h 11 f - 12 ≤ h 0 2 ∧ h 0 2 ≤ h 11 f - 1) : fx_C l Z yX4_stamp cX4_stamp 5 (some .int) 2 44 0 0 22 am (mF am (Z.2.1 0)) h [.ref (am 0), .int (nI i), .int (nI f)] (pI (h 5 i) (u2 (u2 (u2 h 0 3 0) 7 i 1) 8 i (nI f))) (fun _ => False) := by
  intro sz
  refine vx_ofW (cc := cX4_stamp) (maxL := 5) (ret := (some .int)) (by decide) rfl ?_
  intro p e s m args below meth c s₁ B hml hout hv
  obtain ⟨rfl, hsz, hP, hE, hSt⟩ := hv
  subst hsz
  have hx := B.exec
  have hb := B.bytes
  have hr := B.returns
  have hown : s.vm.findClass RX4 = some m.cls := findClass_of_methodNamed B.named
  have hlocks := B.notSynchronized
  have K : m_K p s m ([.ref (am 0), .int (nI i), .int (nI f)] : List Value).toArray c cX4_stamp 5 Z am := ⟨hx, hb, hml, hown, fun w hw => atoms_spec (ws := fx_l yX4_stamp cX4_stamp 5 (some .int)) B.pre w (List.mem_cons_of_mem _ hw), hE, hSt, hinj⟩
  have hS : va_S (fx_A 22 am s.heap.size) s.heap s.heap [] := va_S.rf
  have hl := lv_entry ([.ref (am 0), .int (nI i), .int (nI f)]) (n := 5) (Nat.le_of_ble_eq_true rfl)
  rw [lg_entry_eq]
  generalize (lg_sl ([.ref (am 0), .int (nI i), .int (nI f)]) ++ List.replicate (5 - (lg_sl ([.ref (am 0), .int (nI i), .int (nI f)])).length) Slot.unset).toArray = ls at hl ⊢
  have hl : lv_has ls 5 [(0, .ref (am 0)), (1, .int (nI i)), (2, .int (nI f))] := hl
  refine lv_aload_n hx hb dX4_stamp_0 rfl (lv_at hl 0 rfl) ?_
  refine lv_iload_n hx hb dX4_stamp_1 rfl (lv_at hl 1 rfl) ?_
  refine m_callt (rest := []) K hP hS (c_X4_isReceipt l Z am hinj h (nI i)) ok_X4_94 rfl ⟨Nat.le_of_ble_eq_true rfl, Nat.le_of_ble_eq_true rfl⟩ rfl hl.1 (Nat.le_of_ble_eq_true rfl) ⟨Nat.le_of_ble_eq_true rfl, Nat.le_of_ble_eq_true rfl⟩ dX4_stamp_2 (isR_t hrc hr6 hi) (fun H locs hP hS => ?_)
  refine lv_if_eq (tgt := 20) hx hb dX4_stamp_5 (by decide) (fun c1 => absurd c1 (by decide)) (fun _ => ?_)
  refine lv_aload_n hx hb dX4_stamp_8 rfl (lv_at hl 0 rfl) ?_
  refine lv_iload_n hx hb dX4_stamp_9 rfl (lv_at hl 2 rfl) ?_
  refine m_callt (rest := []) K hP hS (c_X4_isFerry l Z am hinj h (nI f)) ok_X4_101 rfl ⟨Nat.le_of_ble_eq_true rfl, Nat.le_of_ble_eq_true rfl⟩ rfl hl.1 (Nat.le_of_ble_eq_true rfl) ⟨Nat.le_of_ble_eq_true rfl, Nat.le_of_ble_eq_true rfl⟩ dX4_stamp_10 (isF_t hfc hf2 hff) (fun H locs hP hS => ?_)
  refine lv_if_eq (tgt := 20) hx hb dX4_stamp_13 (by decide) (fun c2 => absurd c2 (by decide)) (fun _ => ?_)
  refine lv_iconst (v := 1) hx hb dX4_stamp_16 (by decide) ?_
  refine lv_goto (tgt := 21) hx hb dX4_stamp_17 (by decide) ?_
  refine lv_istore_n (lv' := [(3, .int 1), (0, .ref (am 0)), (1, .int (nI i)), (2, .int (nI f))]) hx hb dX4_stamp_21 rfl hl (by decide) rfl (fun ls hl => ?_)
  refine lv_iload_n hx hb dX4_stamp_22 rfl (lv_at hl 0 rfl) ?_
  refine lv_if_eq (tgt := 102) hx hb dX4_stamp_23 (by decide) (fun c3 => absurd c3 (by decide)) (fun _ => ?_)
  refine lv_aload_n hx hb dX4_stamp_26 rfl (lv_at hl 1 rfl) ?_
  refine mg_rk K hP dX4_stamp_27 ?_
  refine lv_iload_n hx hb dX4_stamp_30 rfl (lv_at hl 2 rfl) ?_
  refine mr_ald K hP (by decide) (by decide) (n := 60) rfl (by omega) (by decide) dX4_stamp_31 ?_
  refine lv_if_ne (tgt := 98) hx hb dX4_stamp_32 (by decide) (fun c4 => absurd h7 c4) (fun _ => ?_)
  refine lv_aload_n hx hb dX4_stamp_35 rfl (lv_at hl 1 rfl) ?_
  refine mg_rp K hP dX4_stamp_36 ?_
  refine lv_iload_n hx hb dX4_stamp_39 rfl (lv_at hl 2 rfl) ?_
  refine mr_ald K hP (by decide) (by decide) (n := 60) rfl (by omega) (by decide) dX4_stamp_40 ?_
  refine lv_bipush (v := 50) hx hb dX4_stamp_41 (by decide) ?_
  refine lv_icmp_lt (tgt := 98) hx hb dX4_stamp_43 (by decide) (fun c5 => absurd c5 h4) (fun _ => ?_)
  refine lv_aload_n hx hb dX4_stamp_46 rfl (lv_at hl 1 rfl) ?_
  refine mg_fg K hP dX4_stamp_47 ?_
  refine lv_iload_n hx hb dX4_stamp_50 rfl (lv_at hl 3 rfl) ?_
  refine mr_ald K hP (by decide) (by decide) (n := 20) rfl (by omega) (by decide) dX4_stamp_51 ?_
  refine lv_iconst (v := 1) hx hb dX4_stamp_52 (by decide) ?_
  refine lv_icmp_eq (tgt := 98) hx hb dX4_stamp_53 (by decide) (fun c6 => absurd c6 hg) (fun _ => ?_)
  refine lv_aload_n hx hb dX4_stamp_56 rfl (lv_at hl 1 rfl) ?_
  refine lv_aload_n hx hb dX4_stamp_57 rfl (lv_at hl 1 rfl) ?_
  refine mg_rt K hP dX4_stamp_58 ?_
  refine lv_iload_n hx hb dX4_stamp_61 rfl (lv_at hl 2 rfl) ?_
  refine mr_ald K hP (by decide) (by decide) (n := 60) rfl (by omega) (by decide) dX4_stamp_62 ?_
  rw [ht]
  refine lv_iload_n hx hb dX4_stamp_63 rfl (lv_at hl 3 rfl) ?_
  refine m_callt (rest := []) K hP hS (c_X4_hasSeat l Z am hinj h t f (by omega)) ok_X4_97 rfl ⟨Nat.le_of_ble_eq_true rfl, Nat.le_of_ble_eq_true rfl⟩ rfl hl.1 (Nat.le_of_ble_eq_true rfl) ⟨Nat.le_of_ble_eq_true rfl, Nat.le_of_ble_eq_true rfl⟩ dX4_stamp_64 hs (fun H locs hP hS => ?_)
  refine lv_if_eq (tgt := 98) hx hb dX4_stamp_67 (by decide) (fun c7 => absurd c7 (by decide)) (fun _ => ?_)
  refine lv_aload_n hx hb dX4_stamp_70 rfl (lv_at hl 1 rfl) ?_
  refine lv_aload_n hx hb dX4_stamp_71 rfl (lv_at hl 1 rfl) ?_
  refine mg_hour K hP dX4_stamp_72 ?_
  refine lv_aload_n hx hb dX4_stamp_75 rfl (lv_at hl 1 rfl) ?_
  refine mg_fh K hP dX4_stamp_76 ?_
  refine lv_iload_n hx hb dX4_stamp_79 rfl (lv_at hl 3 rfl) ?_
  refine mr_ald K hP (by decide) (by decide) (n := 20) rfl (by omega) (by decide) dX4_stamp_80 ?_
  refine lv_bipush (v := 12) hx hb dX4_stamp_81 (by decide) ?_
  refine lv_isub hx hb dX4_stamp_83 ?_
  refine lv_topi (fun v8 e8 => ?_)
  refine lv_aload_n hx hb dX4_stamp_84 rfl (lv_at hl 1 rfl) ?_
  refine mg_fh K hP dX4_stamp_85 ?_
  refine lv_iload_n hx hb dX4_stamp_88 rfl (lv_at hl 3 rfl) ?_
  refine mr_ald K hP (by decide) (by decide) (n := 20) rfl (by omega) (by decide) dX4_stamp_89 ?_
  refine lv_iconst (v := 1) hx hb dX4_stamp_90 (by decide) ?_
  refine lv_isub hx hb dX4_stamp_91 ?_
  refine lv_topi (fun v9 e9 => ?_)
  refine m_callt (rest := []) K hP hS (c_X4_in l Z am hinj h (h 0 2) v8 v9) ok_X4_80 rfl ⟨Nat.le_of_ble_eq_true rfl, Nat.le_of_ble_eq_true rfl⟩ rfl hl.1 (Nat.le_of_ble_eq_true rfl) ⟨Nat.le_of_ble_eq_true rfl, Nat.le_of_ble_eq_true rfl⟩ dX4_stamp_92 (by rw [e8, e9]; exact hin) (fun H locs hP hS => ?_)
  refine lv_if_ne (tgt := 102) hx hb dX4_stamp_95 (by decide) (fun _ => ?_) (fun c10 => absurd c10 (by decide))
  refine lv_iconst (v := 0) hx hb dX4_stamp_102 (by decide) ?_
  refine lv_istore (lv' := [(4, .int 0), (3, .int 1), (0, .ref (am 0)), (1, .int (nI i)), (2, .int (nI f))]) hx hb dX4_stamp_103 hl (by decide) rfl (fun ls hl => ?_)
  refine lv_aload_n hx hb dX4_stamp_105 rfl (lv_at hl 2 rfl) ?_
  refine lv_iload_n hx hb dX4_stamp_106 rfl (lv_at hl 1 rfl) ?_
  refine lv_if_ne (tgt := 114) hx hb dX4_stamp_107 (by decide) (fun _ => ?_) (fun c11 => absurd c11 (by decide))
  refine lv_iload hx hb dX4_stamp_114 (lv_at hl 0 rfl) ?_
  refine lv_if_eq (tgt := 123) hx hb dX4_stamp_116 (by decide) (fun _ => ?_) (fun c12 => absurd (by decide) c12)
  refine lv_iconst (v := 0) hx hb dX4_stamp_123 (by decide) ?_
  refine m_callf (rest := []) K hP hS (c_X4_holds l Z am hinj h 0) ok_X4_87 rfl ⟨Nat.le_of_ble_eq_true rfl, Nat.le_of_ble_eq_true rfl⟩ rfl hl.1 (Nat.le_of_ble_eq_true rfl) ⟨Nat.le_of_ble_eq_true rfl, Nat.le_of_ble_eq_true rfl⟩ dX4_stamp_124 (by decide) (fun H locs hP hS => ?_)
  obtain ⟨h13, e13⟩ : ∃ z : St, z = (u2 h 0 3 0) := ⟨_, rfl⟩
  rw [← e13] at hP
  refine lv_if_eq (tgt := 132) hx hb dX4_stamp_127 (by decide) (fun _ => ?_) (fun c14 => absurd (by decide) c14)
  refine lv_aload_n hx hb dX4_stamp_132 rfl (lv_at hl 2 rfl) ?_
  refine mg_rk K hP dX4_stamp_133 ?_
  refine lv_iload_n hx hb dX4_stamp_136 rfl (lv_at hl 3 rfl) ?_
  refine lv_iconst (v := 1) hx hb dX4_stamp_137 (by decide) ?_
  refine mr_ast K hP hS (by decide) (by decide) (n := 60) rfl (by omega) (by decide) dX4_stamp_138 (fun h15 H locs e15 hP hS => ?_)
  refine lv_aload_n hx hb dX4_stamp_139 rfl (lv_at hl 2 rfl) ?_
  refine mg_rf K hP dX4_stamp_140 ?_
  refine lv_iload_n hx hb dX4_stamp_143 rfl (lv_at hl 3 rfl) ?_
  refine lv_iload_n hx hb dX4_stamp_144 rfl (lv_at hl 4 rfl) ?_
  refine mr_ast K hP hS (by decide) (by decide) (n := 60) rfl (by omega) (by decide) dX4_stamp_145 (fun h16 H locs e16 hP hS => ?_)
  refine lv_aload_n hx hb dX4_stamp_146 rfl (lv_at hl 2 rfl) ?_
  refine mg_rx K hP dX4_stamp_147 ?_
  refine lv_iload_n hx hb dX4_stamp_150 rfl (lv_at hl 3 rfl) ?_
  refine mr_ald K hP (by decide) (by decide) (n := 60) rfl (by omega) (by decide) dX4_stamp_151 ?_
  rw [show h16 5 i = h 5 i from by simp [u2_at, e13, e15, e16]]
  exact fx_reti hx hb hr hlocks hP hS (Nat.le_of_ble_eq_true rfl) (Nat.le_of_ble_eq_true rfl) dX4_stamp_152 ⟨rfl, by simp only [e8, e9, e13, e15, e16]⟩

set_option maxHeartbeats 4000000 in
set_option maxRecDepth 100000 in
theorem c_X4_stamp_1 (l : Launch) (Z : fx_Z) (am : Nat → Nat) (hinj : fx_inj 22 am) (h : St) (rc : Nat) (fc : Nat) (r : Int32) (f : Int32) (hrc : h 0 0 = nI rc) (hr6 : rc ≤ 60) (hfc : h 0 1 = nI fc) (hf2 : fc ≤ 20) (hbad : bad r rc ∨ bad f fc) : fx_C l Z yX4_stamp cX4_stamp 5 (some .int) 2 44 0 0 22 am (mF am (Z.2.1 0)) h [.ref (am 0), .int r, .int f] (pI (-1) (u2 h 0 3 1)) (fun _ => False) := by
  intro sz
  refine vx_ofW (cc := cX4_stamp) (maxL := 5) (ret := (some .int)) (by decide) rfl ?_
  intro p e s m args below meth c s₁ B hml hout hv
  obtain ⟨rfl, hsz, hP, hE, hSt⟩ := hv
  subst hsz
  have hx := B.exec
  have hb := B.bytes
  have hr := B.returns
  have hown : s.vm.findClass RX4 = some m.cls := findClass_of_methodNamed B.named
  have hlocks := B.notSynchronized
  have K : m_K p s m ([.ref (am 0), .int r, .int f] : List Value).toArray c cX4_stamp 5 Z am := ⟨hx, hb, hml, hown, fun w hw => atoms_spec (ws := fx_l yX4_stamp cX4_stamp 5 (some .int)) B.pre w (List.mem_cons_of_mem _ hw), hE, hSt, hinj⟩
  have hS : va_S (fx_A 22 am s.heap.size) s.heap s.heap [] := va_S.rf
  have hl := lv_entry ([.ref (am 0), .int r, .int f]) (n := 5) (Nat.le_of_ble_eq_true rfl)
  rw [lg_entry_eq]
  generalize (lg_sl ([.ref (am 0), .int r, .int f]) ++ List.replicate (5 - (lg_sl ([.ref (am 0), .int r, .int f])).length) Slot.unset).toArray = ls at hl ⊢
  have hl : lv_has ls 5 [(0, .ref (am 0)), (1, .int r), (2, .int f)] := hl
  refine lv_aload_n hx hb dX4_stamp_0 rfl (lv_at hl 0 rfl) ?_
  refine lv_iload_n hx hb dX4_stamp_1 rfl (lv_at hl 1 rfl) ?_
  refine m_callb (rest := []) K hP hS (c_X4_isReceipt l Z am hinj h r) ok_X4_94 rfl ⟨Nat.le_of_ble_eq_true rfl, Nat.le_of_ble_eq_true rfl⟩ rfl hl.1 (Nat.le_of_ble_eq_true rfl) ⟨Nat.le_of_ble_eq_true rfl, Nat.le_of_ble_eq_true rfl⟩ dX4_stamp_2 (fun c1 H locs hP hS => ?_) (fun c1 H locs hP hS => ?_)
  · refine lv_if_eq (tgt := 20) hx hb dX4_stamp_5 (by decide) (fun c2 => absurd c2 (by decide)) (fun _ => ?_)
    refine lv_aload_n hx hb dX4_stamp_8 rfl (lv_at hl 0 rfl) ?_
    refine lv_iload_n hx hb dX4_stamp_9 rfl (lv_at hl 2 rfl) ?_
    refine m_callb (rest := []) K hP hS (c_X4_isFerry l Z am hinj h f) ok_X4_101 rfl ⟨Nat.le_of_ble_eq_true rfl, Nat.le_of_ble_eq_true rfl⟩ rfl hl.1 (Nat.le_of_ble_eq_true rfl) ⟨Nat.le_of_ble_eq_true rfl, Nat.le_of_ble_eq_true rfl⟩ dX4_stamp_10 (fun c3 H locs hP hS => ?_) (fun c3 H locs hP hS => ?_)
    · exact absurd hbad (nbadS hrc hr6 hfc hf2 c1 c3)
    · refine lv_if_eq (tgt := 20) hx hb dX4_stamp_13 (by decide) (fun _ => ?_) (fun c4 => absurd (by decide) c4)
      refine lv_iconst (v := 0) hx hb dX4_stamp_20 (by decide) ?_
      refine lv_istore_n (lv' := [(3, .int 0), (0, .ref (am 0)), (1, .int r), (2, .int f)]) hx hb dX4_stamp_21 rfl hl (by decide) rfl (fun ls hl => ?_)
      refine lv_iload_n hx hb dX4_stamp_22 rfl (lv_at hl 0 rfl) ?_
      refine lv_if_eq (tgt := 102) hx hb dX4_stamp_23 (by decide) (fun _ => ?_) (fun c5 => absurd (by decide) c5)
      refine lv_iconst (v := 0) hx hb dX4_stamp_102 (by decide) ?_
      refine lv_istore (lv' := [(4, .int 0), (3, .int 0), (0, .ref (am 0)), (1, .int r), (2, .int f)]) hx hb dX4_stamp_103 hl (by decide) rfl (fun ls hl => ?_)
      refine lv_aload_n hx hb dX4_stamp_105 rfl (lv_at hl 2 rfl) ?_
      refine lv_iload_n hx hb dX4_stamp_106 rfl (lv_at hl 1 rfl) ?_
      refine lv_if_ne (tgt := 114) hx hb dX4_stamp_107 (by decide) (fun c6 => absurd (by decide) c6) (fun _ => ?_)
      refine lv_iconst (v := 1) hx hb dX4_stamp_110 (by decide) ?_
      refine lv_goto (tgt := 124) hx hb dX4_stamp_111 (by decide) ?_
      refine m_callt (rest := []) K hP hS (c_X4_holds l Z am hinj h 1) ok_X4_87 rfl ⟨Nat.le_of_ble_eq_true rfl, Nat.le_of_ble_eq_true rfl⟩ rfl hl.1 (Nat.le_of_ble_eq_true rfl) ⟨Nat.le_of_ble_eq_true rfl, Nat.le_of_ble_eq_true rfl⟩ dX4_stamp_124 (by decide) (fun H locs hP hS => ?_)
      obtain ⟨h7, e7⟩ : ∃ z : St, z = (u2 h 0 3 1) := ⟨_, rfl⟩
      rw [← e7] at hP
      refine lv_if_eq (tgt := 132) hx hb dX4_stamp_127 (by decide) (fun c8 => absurd c8 (by decide)) (fun _ => ?_)
      refine lv_iconst (v := (-1)) hx hb dX4_stamp_130 (by decide) ?_
      exact fx_reti hx hb hr hlocks hP hS (Nat.le_of_ble_eq_true rfl) (Nat.le_of_ble_eq_true rfl) dX4_stamp_131 ⟨rfl, e7⟩
  · refine lv_if_eq (tgt := 20) hx hb dX4_stamp_5 (by decide) (fun _ => ?_) (fun c9 => absurd (by decide) c9)
    refine lv_iconst (v := 0) hx hb dX4_stamp_20 (by decide) ?_
    refine lv_istore_n (lv' := [(3, .int 0), (0, .ref (am 0)), (1, .int r), (2, .int f)]) hx hb dX4_stamp_21 rfl hl (by decide) rfl (fun ls hl => ?_)
    refine lv_iload_n hx hb dX4_stamp_22 rfl (lv_at hl 0 rfl) ?_
    refine lv_if_eq (tgt := 102) hx hb dX4_stamp_23 (by decide) (fun _ => ?_) (fun c10 => absurd (by decide) c10)
    refine lv_iconst (v := 0) hx hb dX4_stamp_102 (by decide) ?_
    refine lv_istore (lv' := [(4, .int 0), (3, .int 0), (0, .ref (am 0)), (1, .int r), (2, .int f)]) hx hb dX4_stamp_103 hl (by decide) rfl (fun ls hl => ?_)
    refine lv_aload_n hx hb dX4_stamp_105 rfl (lv_at hl 2 rfl) ?_
    refine lv_iload_n hx hb dX4_stamp_106 rfl (lv_at hl 1 rfl) ?_
    refine lv_if_ne (tgt := 114) hx hb dX4_stamp_107 (by decide) (fun c11 => absurd (by decide) c11) (fun _ => ?_)
    refine lv_iconst (v := 1) hx hb dX4_stamp_110 (by decide) ?_
    refine lv_goto (tgt := 124) hx hb dX4_stamp_111 (by decide) ?_
    refine m_callt (rest := []) K hP hS (c_X4_holds l Z am hinj h 1) ok_X4_87 rfl ⟨Nat.le_of_ble_eq_true rfl, Nat.le_of_ble_eq_true rfl⟩ rfl hl.1 (Nat.le_of_ble_eq_true rfl) ⟨Nat.le_of_ble_eq_true rfl, Nat.le_of_ble_eq_true rfl⟩ dX4_stamp_124 (by decide) (fun H locs hP hS => ?_)
    obtain ⟨h12, e12⟩ : ∃ z : St, z = (u2 h 0 3 1) := ⟨_, rfl⟩
    rw [← e12] at hP
    refine lv_if_eq (tgt := 132) hx hb dX4_stamp_127 (by decide) (fun c13 => absurd c13 (by decide)) (fun _ => ?_)
    refine lv_iconst (v := (-1)) hx hb dX4_stamp_130 (by decide) ?_
    exact fx_reti hx hb hr hlocks hP hS (Nat.le_of_ble_eq_true rfl) (Nat.le_of_ble_eq_true rfl) dX4_stamp_131 ⟨rfl, e12⟩

set_option maxHeartbeats 4000000 in
set_option maxRecDepth 100000 in
theorem c_X4_stamp_2 (l : Launch) (Z : fx_Z) (am : Nat → Nat) (hinj : fx_inj 22 am) (h : St) (rc : Nat) (fc : Nat) (t : Nat) (i : Nat) (f : Nat) (hi : i < rc) (hrc : h 0 0 = nI rc) (hr6 : rc ≤ 60) (hff : f < fc) (hfc : h 0 1 = nI fc) (hf2 : fc ≤ 20) (ht : h 3 i = nI t) (ht9 : t < 10) (hbad : h 7 i ≠ 0 ∨ h 4 i < 50 ∨ h 14 f = 1 ∨ ¬ mS h f t ∨ ¬ (h 11 f - 12 ≤ h 0 2 ∧ h 0 2 ≤ h 11 f - 1)) : fx_C l Z yX4_stamp cX4_stamp 5 (some .int) 2 44 0 0 22 am (mF am (Z.2.1 0)) h [.ref (am 0), .int (nI i), .int (nI f)] (pI (-1) (u2 h 0 3 2)) (fun _ => False) := by
  intro sz
  refine vx_ofW (cc := cX4_stamp) (maxL := 5) (ret := (some .int)) (by decide) rfl ?_
  intro p e s m args below meth c s₁ B hml hout hv
  obtain ⟨rfl, hsz, hP, hE, hSt⟩ := hv
  subst hsz
  have hx := B.exec
  have hb := B.bytes
  have hr := B.returns
  have hown : s.vm.findClass RX4 = some m.cls := findClass_of_methodNamed B.named
  have hlocks := B.notSynchronized
  have K : m_K p s m ([.ref (am 0), .int (nI i), .int (nI f)] : List Value).toArray c cX4_stamp 5 Z am := ⟨hx, hb, hml, hown, fun w hw => atoms_spec (ws := fx_l yX4_stamp cX4_stamp 5 (some .int)) B.pre w (List.mem_cons_of_mem _ hw), hE, hSt, hinj⟩
  have hS : va_S (fx_A 22 am s.heap.size) s.heap s.heap [] := va_S.rf
  have hl := lv_entry ([.ref (am 0), .int (nI i), .int (nI f)]) (n := 5) (Nat.le_of_ble_eq_true rfl)
  rw [lg_entry_eq]
  generalize (lg_sl ([.ref (am 0), .int (nI i), .int (nI f)]) ++ List.replicate (5 - (lg_sl ([.ref (am 0), .int (nI i), .int (nI f)])).length) Slot.unset).toArray = ls at hl ⊢
  have hl : lv_has ls 5 [(0, .ref (am 0)), (1, .int (nI i)), (2, .int (nI f))] := hl
  refine lv_aload_n hx hb dX4_stamp_0 rfl (lv_at hl 0 rfl) ?_
  refine lv_iload_n hx hb dX4_stamp_1 rfl (lv_at hl 1 rfl) ?_
  refine m_callt (rest := []) K hP hS (c_X4_isReceipt l Z am hinj h (nI i)) ok_X4_94 rfl ⟨Nat.le_of_ble_eq_true rfl, Nat.le_of_ble_eq_true rfl⟩ rfl hl.1 (Nat.le_of_ble_eq_true rfl) ⟨Nat.le_of_ble_eq_true rfl, Nat.le_of_ble_eq_true rfl⟩ dX4_stamp_2 (isR_t hrc hr6 hi) (fun H locs hP hS => ?_)
  refine lv_if_eq (tgt := 20) hx hb dX4_stamp_5 (by decide) (fun c1 => absurd c1 (by decide)) (fun _ => ?_)
  refine lv_aload_n hx hb dX4_stamp_8 rfl (lv_at hl 0 rfl) ?_
  refine lv_iload_n hx hb dX4_stamp_9 rfl (lv_at hl 2 rfl) ?_
  refine m_callt (rest := []) K hP hS (c_X4_isFerry l Z am hinj h (nI f)) ok_X4_101 rfl ⟨Nat.le_of_ble_eq_true rfl, Nat.le_of_ble_eq_true rfl⟩ rfl hl.1 (Nat.le_of_ble_eq_true rfl) ⟨Nat.le_of_ble_eq_true rfl, Nat.le_of_ble_eq_true rfl⟩ dX4_stamp_10 (isF_t hfc hf2 hff) (fun H locs hP hS => ?_)
  refine lv_if_eq (tgt := 20) hx hb dX4_stamp_13 (by decide) (fun c2 => absurd c2 (by decide)) (fun _ => ?_)
  refine lv_iconst (v := 1) hx hb dX4_stamp_16 (by decide) ?_
  refine lv_goto (tgt := 21) hx hb dX4_stamp_17 (by decide) ?_
  refine lv_istore_n (lv' := [(3, .int 1), (0, .ref (am 0)), (1, .int (nI i)), (2, .int (nI f))]) hx hb dX4_stamp_21 rfl hl (by decide) rfl (fun ls hl => ?_)
  refine lv_iload_n hx hb dX4_stamp_22 rfl (lv_at hl 0 rfl) ?_
  refine lv_if_eq (tgt := 102) hx hb dX4_stamp_23 (by decide) (fun c3 => absurd c3 (by decide)) (fun _ => ?_)
  refine lv_aload_n hx hb dX4_stamp_26 rfl (lv_at hl 1 rfl) ?_
  refine mg_rk K hP dX4_stamp_27 ?_
  refine lv_iload_n hx hb dX4_stamp_30 rfl (lv_at hl 2 rfl) ?_
  refine mr_ald K hP (by decide) (by decide) (n := 60) rfl (by omega) (by decide) dX4_stamp_31 ?_
  refine lv_if_ne (tgt := 98) hx hb dX4_stamp_32 (by decide) (fun c4 => ?_) (fun c4 => ?_)
  · refine lv_iconst (v := 1) hx hb dX4_stamp_98 (by decide) ?_
    refine lv_goto (tgt := 103) hx hb dX4_stamp_99 (by decide) ?_
    refine lv_istore (lv' := [(4, .int 1), (3, .int 1), (0, .ref (am 0)), (1, .int (nI i)), (2, .int (nI f))]) hx hb dX4_stamp_103 hl (by decide) rfl (fun ls hl => ?_)
    refine lv_aload_n hx hb dX4_stamp_105 rfl (lv_at hl 2 rfl) ?_
    refine lv_iload_n hx hb dX4_stamp_106 rfl (lv_at hl 1 rfl) ?_
    refine lv_if_ne (tgt := 114) hx hb dX4_stamp_107 (by decide) (fun _ => ?_) (fun c5 => absurd c5 (by decide))
    refine lv_iload hx hb dX4_stamp_114 (lv_at hl 0 rfl) ?_
    refine lv_if_eq (tgt := 123) hx hb dX4_stamp_116 (by decide) (fun c6 => absurd c6 (by decide)) (fun _ => ?_)
    refine lv_iconst (v := 2) hx hb dX4_stamp_119 (by decide) ?_
    refine lv_goto (tgt := 124) hx hb dX4_stamp_120 (by decide) ?_
    refine m_callt (rest := []) K hP hS (c_X4_holds l Z am hinj h 2) ok_X4_87 rfl ⟨Nat.le_of_ble_eq_true rfl, Nat.le_of_ble_eq_true rfl⟩ rfl hl.1 (Nat.le_of_ble_eq_true rfl) ⟨Nat.le_of_ble_eq_true rfl, Nat.le_of_ble_eq_true rfl⟩ dX4_stamp_124 (by decide) (fun H locs hP hS => ?_)
    obtain ⟨h7, e7⟩ : ∃ z : St, z = (u2 h 0 3 2) := ⟨_, rfl⟩
    rw [← e7] at hP
    refine lv_if_eq (tgt := 132) hx hb dX4_stamp_127 (by decide) (fun c8 => absurd c8 (by decide)) (fun _ => ?_)
    refine lv_iconst (v := (-1)) hx hb dX4_stamp_130 (by decide) ?_
    exact fx_reti hx hb hr hlocks hP hS (Nat.le_of_ble_eq_true rfl) (Nat.le_of_ble_eq_true rfl) dX4_stamp_131 ⟨rfl, e7⟩
  · refine lv_aload_n hx hb dX4_stamp_35 rfl (lv_at hl 1 rfl) ?_
    refine mg_rp K hP dX4_stamp_36 ?_
    refine lv_iload_n hx hb dX4_stamp_39 rfl (lv_at hl 2 rfl) ?_
    refine mr_ald K hP (by decide) (by decide) (n := 60) rfl (by omega) (by decide) dX4_stamp_40 ?_
    refine lv_bipush (v := 50) hx hb dX4_stamp_41 (by decide) ?_
    refine lv_icmp_lt (tgt := 98) hx hb dX4_stamp_43 (by decide) (fun c9 => ?_) (fun c9 => ?_)
    · refine lv_iconst (v := 1) hx hb dX4_stamp_98 (by decide) ?_
      refine lv_goto (tgt := 103) hx hb dX4_stamp_99 (by decide) ?_
      refine lv_istore (lv' := [(4, .int 1), (3, .int 1), (0, .ref (am 0)), (1, .int (nI i)), (2, .int (nI f))]) hx hb dX4_stamp_103 hl (by decide) rfl (fun ls hl => ?_)
      refine lv_aload_n hx hb dX4_stamp_105 rfl (lv_at hl 2 rfl) ?_
      refine lv_iload_n hx hb dX4_stamp_106 rfl (lv_at hl 1 rfl) ?_
      refine lv_if_ne (tgt := 114) hx hb dX4_stamp_107 (by decide) (fun _ => ?_) (fun c10 => absurd c10 (by decide))
      refine lv_iload hx hb dX4_stamp_114 (lv_at hl 0 rfl) ?_
      refine lv_if_eq (tgt := 123) hx hb dX4_stamp_116 (by decide) (fun c11 => absurd c11 (by decide)) (fun _ => ?_)
      refine lv_iconst (v := 2) hx hb dX4_stamp_119 (by decide) ?_
      refine lv_goto (tgt := 124) hx hb dX4_stamp_120 (by decide) ?_
      refine m_callt (rest := []) K hP hS (c_X4_holds l Z am hinj h 2) ok_X4_87 rfl ⟨Nat.le_of_ble_eq_true rfl, Nat.le_of_ble_eq_true rfl⟩ rfl hl.1 (Nat.le_of_ble_eq_true rfl) ⟨Nat.le_of_ble_eq_true rfl, Nat.le_of_ble_eq_true rfl⟩ dX4_stamp_124 (by decide) (fun H locs hP hS => ?_)
      obtain ⟨h12, e12⟩ : ∃ z : St, z = (u2 h 0 3 2) := ⟨_, rfl⟩
      rw [← e12] at hP
      refine lv_if_eq (tgt := 132) hx hb dX4_stamp_127 (by decide) (fun c13 => absurd c13 (by decide)) (fun _ => ?_)
      refine lv_iconst (v := (-1)) hx hb dX4_stamp_130 (by decide) ?_
      exact fx_reti hx hb hr hlocks hP hS (Nat.le_of_ble_eq_true rfl) (Nat.le_of_ble_eq_true rfl) dX4_stamp_131 ⟨rfl, e12⟩
    · refine lv_aload_n hx hb dX4_stamp_46 rfl (lv_at hl 1 rfl) ?_
      refine mg_fg K hP dX4_stamp_47 ?_
      refine lv_iload_n hx hb dX4_stamp_50 rfl (lv_at hl 3 rfl) ?_
      refine mr_ald K hP (by decide) (by decide) (n := 20) rfl (by omega) (by decide) dX4_stamp_51 ?_
      refine lv_iconst (v := 1) hx hb dX4_stamp_52 (by decide) ?_
      refine lv_icmp_eq (tgt := 98) hx hb dX4_stamp_53 (by decide) (fun c14 => ?_) (fun c14 => ?_)
      · refine lv_iconst (v := 1) hx hb dX4_stamp_98 (by decide) ?_
        refine lv_goto (tgt := 103) hx hb dX4_stamp_99 (by decide) ?_
        refine lv_istore (lv' := [(4, .int 1), (3, .int 1), (0, .ref (am 0)), (1, .int (nI i)), (2, .int (nI f))]) hx hb dX4_stamp_103 hl (by decide) rfl (fun ls hl => ?_)
        refine lv_aload_n hx hb dX4_stamp_105 rfl (lv_at hl 2 rfl) ?_
        refine lv_iload_n hx hb dX4_stamp_106 rfl (lv_at hl 1 rfl) ?_
        refine lv_if_ne (tgt := 114) hx hb dX4_stamp_107 (by decide) (fun _ => ?_) (fun c15 => absurd c15 (by decide))
        refine lv_iload hx hb dX4_stamp_114 (lv_at hl 0 rfl) ?_
        refine lv_if_eq (tgt := 123) hx hb dX4_stamp_116 (by decide) (fun c16 => absurd c16 (by decide)) (fun _ => ?_)
        refine lv_iconst (v := 2) hx hb dX4_stamp_119 (by decide) ?_
        refine lv_goto (tgt := 124) hx hb dX4_stamp_120 (by decide) ?_
        refine m_callt (rest := []) K hP hS (c_X4_holds l Z am hinj h 2) ok_X4_87 rfl ⟨Nat.le_of_ble_eq_true rfl, Nat.le_of_ble_eq_true rfl⟩ rfl hl.1 (Nat.le_of_ble_eq_true rfl) ⟨Nat.le_of_ble_eq_true rfl, Nat.le_of_ble_eq_true rfl⟩ dX4_stamp_124 (by decide) (fun H locs hP hS => ?_)
        obtain ⟨h17, e17⟩ : ∃ z : St, z = (u2 h 0 3 2) := ⟨_, rfl⟩
        rw [← e17] at hP
        refine lv_if_eq (tgt := 132) hx hb dX4_stamp_127 (by decide) (fun c18 => absurd c18 (by decide)) (fun _ => ?_)
        refine lv_iconst (v := (-1)) hx hb dX4_stamp_130 (by decide) ?_
        exact fx_reti hx hb hr hlocks hP hS (Nat.le_of_ble_eq_true rfl) (Nat.le_of_ble_eq_true rfl) dX4_stamp_131 ⟨rfl, e17⟩
      · refine lv_aload_n hx hb dX4_stamp_56 rfl (lv_at hl 1 rfl) ?_
        refine lv_aload_n hx hb dX4_stamp_57 rfl (lv_at hl 1 rfl) ?_
        refine mg_rt K hP dX4_stamp_58 ?_
        refine lv_iload_n hx hb dX4_stamp_61 rfl (lv_at hl 2 rfl) ?_
        refine mr_ald K hP (by decide) (by decide) (n := 60) rfl (by omega) (by decide) dX4_stamp_62 ?_
        rw [ht]
        refine lv_iload_n hx hb dX4_stamp_63 rfl (lv_at hl 3 rfl) ?_
        refine m_callb (rest := []) K hP hS (c_X4_hasSeat l Z am hinj h t f (by omega)) ok_X4_97 rfl ⟨Nat.le_of_ble_eq_true rfl, Nat.le_of_ble_eq_true rfl⟩ rfl hl.1 (Nat.le_of_ble_eq_true rfl) ⟨Nat.le_of_ble_eq_true rfl, Nat.le_of_ble_eq_true rfl⟩ dX4_stamp_64 (fun c19 H locs hP hS => ?_) (fun c19 H locs hP hS => ?_)
        · refine lv_if_eq (tgt := 98) hx hb dX4_stamp_67 (by decide) (fun c20 => absurd c20 (by decide)) (fun _ => ?_)
          refine lv_aload_n hx hb dX4_stamp_70 rfl (lv_at hl 1 rfl) ?_
          refine lv_aload_n hx hb dX4_stamp_71 rfl (lv_at hl 1 rfl) ?_
          refine mg_hour K hP dX4_stamp_72 ?_
          refine lv_aload_n hx hb dX4_stamp_75 rfl (lv_at hl 1 rfl) ?_
          refine mg_fh K hP dX4_stamp_76 ?_
          refine lv_iload_n hx hb dX4_stamp_79 rfl (lv_at hl 3 rfl) ?_
          refine mr_ald K hP (by decide) (by decide) (n := 20) rfl (by omega) (by decide) dX4_stamp_80 ?_
          refine lv_bipush (v := 12) hx hb dX4_stamp_81 (by decide) ?_
          refine lv_isub hx hb dX4_stamp_83 ?_
          refine lv_topi (fun v21 e21 => ?_)
          refine lv_aload_n hx hb dX4_stamp_84 rfl (lv_at hl 1 rfl) ?_
          refine mg_fh K hP dX4_stamp_85 ?_
          refine lv_iload_n hx hb dX4_stamp_88 rfl (lv_at hl 3 rfl) ?_
          refine mr_ald K hP (by decide) (by decide) (n := 20) rfl (by omega) (by decide) dX4_stamp_89 ?_
          refine lv_iconst (v := 1) hx hb dX4_stamp_90 (by decide) ?_
          refine lv_isub hx hb dX4_stamp_91 ?_
          refine lv_topi (fun v22 e22 => ?_)
          refine m_callb (rest := []) K hP hS (c_X4_in l Z am hinj h (h 0 2) v21 v22) ok_X4_80 rfl ⟨Nat.le_of_ble_eq_true rfl, Nat.le_of_ble_eq_true rfl⟩ rfl hl.1 (Nat.le_of_ble_eq_true rfl) ⟨Nat.le_of_ble_eq_true rfl, Nat.le_of_ble_eq_true rfl⟩ dX4_stamp_92 (fun c23 H locs hP hS => ?_) (fun c23 H locs hP hS => ?_)
          · exact absurd hbad (by simp only [not_or, Classical.not_not]; exact ⟨by simpa using c4, c9, c14, c19, by rw [e21, e22] at c23; exact c23⟩)
          · refine lv_if_ne (tgt := 102) hx hb dX4_stamp_95 (by decide) (fun c24 => absurd (by decide) c24) (fun _ => ?_)
            refine lv_iconst (v := 1) hx hb dX4_stamp_98 (by decide) ?_
            refine lv_goto (tgt := 103) hx hb dX4_stamp_99 (by decide) ?_
            refine lv_istore (lv' := [(4, .int 1), (3, .int 1), (0, .ref (am 0)), (1, .int (nI i)), (2, .int (nI f))]) hx hb dX4_stamp_103 hl (by decide) rfl (fun ls hl => ?_)
            refine lv_aload_n hx hb dX4_stamp_105 rfl (lv_at hl 2 rfl) ?_
            refine lv_iload_n hx hb dX4_stamp_106 rfl (lv_at hl 1 rfl) ?_
            refine lv_if_ne (tgt := 114) hx hb dX4_stamp_107 (by decide) (fun _ => ?_) (fun c25 => absurd c25 (by decide))
            refine lv_iload hx hb dX4_stamp_114 (lv_at hl 0 rfl) ?_
            refine lv_if_eq (tgt := 123) hx hb dX4_stamp_116 (by decide) (fun c26 => absurd c26 (by decide)) (fun _ => ?_)
            refine lv_iconst (v := 2) hx hb dX4_stamp_119 (by decide) ?_
            refine lv_goto (tgt := 124) hx hb dX4_stamp_120 (by decide) ?_
            refine m_callt (rest := []) K hP hS (c_X4_holds l Z am hinj h 2) ok_X4_87 rfl ⟨Nat.le_of_ble_eq_true rfl, Nat.le_of_ble_eq_true rfl⟩ rfl hl.1 (Nat.le_of_ble_eq_true rfl) ⟨Nat.le_of_ble_eq_true rfl, Nat.le_of_ble_eq_true rfl⟩ dX4_stamp_124 (by decide) (fun H locs hP hS => ?_)
            obtain ⟨h27, e27⟩ : ∃ z : St, z = (u2 h 0 3 2) := ⟨_, rfl⟩
            rw [← e27] at hP
            refine lv_if_eq (tgt := 132) hx hb dX4_stamp_127 (by decide) (fun c28 => absurd c28 (by decide)) (fun _ => ?_)
            refine lv_iconst (v := (-1)) hx hb dX4_stamp_130 (by decide) ?_
            exact fx_reti hx hb hr hlocks hP hS (Nat.le_of_ble_eq_true rfl) (Nat.le_of_ble_eq_true rfl) dX4_stamp_131 ⟨rfl, e27⟩
        · refine lv_if_eq (tgt := 98) hx hb dX4_stamp_67 (by decide) (fun _ => ?_) (fun c29 => absurd (by decide) c29)
          refine lv_iconst (v := 1) hx hb dX4_stamp_98 (by decide) ?_
          refine lv_goto (tgt := 103) hx hb dX4_stamp_99 (by decide) ?_
          refine lv_istore (lv' := [(4, .int 1), (3, .int 1), (0, .ref (am 0)), (1, .int (nI i)), (2, .int (nI f))]) hx hb dX4_stamp_103 hl (by decide) rfl (fun ls hl => ?_)
          refine lv_aload_n hx hb dX4_stamp_105 rfl (lv_at hl 2 rfl) ?_
          refine lv_iload_n hx hb dX4_stamp_106 rfl (lv_at hl 1 rfl) ?_
          refine lv_if_ne (tgt := 114) hx hb dX4_stamp_107 (by decide) (fun _ => ?_) (fun c30 => absurd c30 (by decide))
          refine lv_iload hx hb dX4_stamp_114 (lv_at hl 0 rfl) ?_
          refine lv_if_eq (tgt := 123) hx hb dX4_stamp_116 (by decide) (fun c31 => absurd c31 (by decide)) (fun _ => ?_)
          refine lv_iconst (v := 2) hx hb dX4_stamp_119 (by decide) ?_
          refine lv_goto (tgt := 124) hx hb dX4_stamp_120 (by decide) ?_
          refine m_callt (rest := []) K hP hS (c_X4_holds l Z am hinj h 2) ok_X4_87 rfl ⟨Nat.le_of_ble_eq_true rfl, Nat.le_of_ble_eq_true rfl⟩ rfl hl.1 (Nat.le_of_ble_eq_true rfl) ⟨Nat.le_of_ble_eq_true rfl, Nat.le_of_ble_eq_true rfl⟩ dX4_stamp_124 (by decide) (fun H locs hP hS => ?_)
          obtain ⟨h32, e32⟩ : ∃ z : St, z = (u2 h 0 3 2) := ⟨_, rfl⟩
          rw [← e32] at hP
          refine lv_if_eq (tgt := 132) hx hb dX4_stamp_127 (by decide) (fun c33 => absurd c33 (by decide)) (fun _ => ?_)
          refine lv_iconst (v := (-1)) hx hb dX4_stamp_130 (by decide) ?_
          exact fx_reti hx hb hr hlocks hP hS (Nat.le_of_ble_eq_true rfl) (Nat.le_of_ble_eq_true rfl) dX4_stamp_131 ⟨rfl, e32⟩

set_option maxHeartbeats 4000000 in
set_option maxRecDepth 100000 in
theorem c_X4_pays (l : Launch) (Z : fx_Z) (am : Nat → Nat) (hinj : fx_inj 22 am) (h : St) (t : Nat) (i : Nat) (hi : i < 60) (ht : h 3 i = nI t) (ht9 : t < 10) : fx_C l Z yX4_pays cX4_pays 4 none 0 0 0 0 22 am (mF am (Z.2.1 0)) h [.ref (am 0), .int (nI i)] (pV (payS h i t)) (fun _ => False) := by
  intro sz
  refine vx_ofW (cc := cX4_pays) (maxL := 4) (ret := none) (by decide) rfl ?_
  intro p e s m args below meth c s₁ B hml hout hv
  obtain ⟨rfl, hsz, hP, hE, hSt⟩ := hv
  subst hsz
  have hx := B.exec
  have hb := B.bytes
  have hr := B.returns
  have hown : s.vm.findClass RX4 = some m.cls := findClass_of_methodNamed B.named
  have hlocks := B.notSynchronized
  have K : m_K p s m ([.ref (am 0), .int (nI i)] : List Value).toArray c cX4_pays 4 Z am := ⟨hx, hb, hml, hown, fun w hw => atoms_spec (ws := fx_l yX4_pays cX4_pays 4 none) B.pre w (List.mem_cons_of_mem _ hw), hE, hSt, hinj⟩
  have hS : va_S (fx_A 22 am s.heap.size) s.heap s.heap [] := va_S.rf
  have hl := lv_entry ([.ref (am 0), .int (nI i)]) (n := 4) (Nat.le_of_ble_eq_true rfl)
  rw [lg_entry_eq]
  generalize (lg_sl ([.ref (am 0), .int (nI i)]) ++ List.replicate (4 - (lg_sl ([.ref (am 0), .int (nI i)])).length) Slot.unset).toArray = ls at hl ⊢
  have hl : lv_has ls 4 [(0, .ref (am 0)), (1, .int (nI i))] := hl
  refine lv_aload_n hx hb dX4_pays_0 rfl (lv_at hl 0 rfl) ?_
  refine mg_rt K hP dX4_pays_1 ?_
  refine lv_iload_n hx hb dX4_pays_4 rfl (lv_at hl 1 rfl) ?_
  refine mr_ald K hP (by decide) (by decide) (n := 60) rfl (by omega) (by decide) dX4_pays_5 ?_
  rw [ht]
  refine lv_istore_n (lv' := [(2, .int (nI t)), (0, .ref (am 0)), (1, .int (nI i))]) hx hb dX4_pays_6 rfl hl (by decide) rfl (fun ls hl => ?_)
  refine lv_aload_n hx hb dX4_pays_7 rfl (lv_at hl 1 rfl) ?_
  refine mg_rx K hP dX4_pays_8 ?_
  refine lv_iload_n hx hb dX4_pays_11 rfl (lv_at hl 2 rfl) ?_
  refine mr_ald K hP (by decide) (by decide) (n := 60) rfl (by omega) (by decide) dX4_pays_12 ?_
  refine lv_aload_n hx hb dX4_pays_13 rfl (lv_at hl 1 rfl) ?_
  refine mg_rx K hP dX4_pays_14 ?_
  refine lv_iload_n hx hb dX4_pays_17 rfl (lv_at hl 2 rfl) ?_
  refine mr_ald K hP (by decide) (by decide) (n := 60) rfl (by omega) (by decide) dX4_pays_18 ?_
  refine lv_bipush (v := 9) hx hb dX4_pays_19 (by decide) ?_
  refine lv_iadd hx hb dX4_pays_21 ?_
  refine lv_topi (fun v1 e1 => ?_)
  refine lv_bipush (v := 10) hx hb dX4_pays_22 (by decide) ?_
  refine lv_idiv hx hb dX4_pays_24 (by decide) ?_
  refine lv_topi (fun v2 e2 => ?_)
  refine lv_isub hx hb dX4_pays_25 ?_
  refine lv_topi (fun v3 e3 => ?_)
  refine lv_istore_n (lv' := [(3, .int v3), (2, .int (nI t)), (0, .ref (am 0)), (1, .int (nI i))]) hx hb dX4_pays_26 rfl hl (by decide) rfl (fun ls hl => ?_)
  refine lv_aload_n hx hb dX4_pays_27 rfl (lv_at hl 2 rfl) ?_
  refine mg_given K hP dX4_pays_28 ?_
  refine lv_iload_n hx hb dX4_pays_31 rfl (lv_at hl 1 rfl) ?_
  refine mr_ald K hP (by decide) (by decide) (n := 10) rfl (by omega) (by decide) dX4_pays_32 ?_
  refine lv_iload_n hx hb dX4_pays_33 rfl (lv_at hl 0 rfl) ?_
  refine lv_iadd hx hb dX4_pays_34 ?_
  refine lv_topi (fun v4 e4 => ?_)
  refine lv_sipush (v := 500) hx hb dX4_pays_35 (by decide) ?_
  refine lv_icmp_le (tgt := 54) hx hb dX4_pays_38 (by decide) (fun c5 => ?_) (fun c5 => ?_)
  · refine lv_iload_n hx hb dX4_pays_54 rfl (lv_at hl 0 rfl) ?_
    rw [show v3 = itsV h i t from by simp only [e1, e2, e3, e4] at *; unfold itsV its0; grind]
    refine lv_istore_n (lv' := [(3, .int (itsV h i t)), (2, .int (nI t)), (0, .ref (am 0)), (1, .int (nI i))]) hx hb dX4_pays_55 rfl hl (by decide) rfl (fun ls hl => ?_)
    refine lv_aload_n hx hb dX4_pays_56 rfl (lv_at hl 2 rfl) ?_
    refine mg_given K hP dX4_pays_57 ?_
    refine lv_iload_n hx hb dX4_pays_60 rfl (lv_at hl 1 rfl) ?_
    refine lv_dup2_11 hx hb dX4_pays_61 rfl rfl ?_
    refine mr_ald K hP (by decide) (by decide) (n := 10) rfl (by omega) (by decide) dX4_pays_62 ?_
    refine lv_iload_n hx hb dX4_pays_63 rfl (lv_at hl 0 rfl) ?_
    refine lv_iadd hx hb dX4_pays_64 ?_
    refine lv_topi (fun v6 e6 => ?_)
    refine mr_ast K hP hS (by decide) (by decide) (n := 10) rfl (by omega) (by decide) dX4_pays_65 (fun h7 H locs e7 hP hS => ?_)
    refine lv_aload_n hx hb dX4_pays_66 rfl (lv_at hl 2 rfl) ?_
    refine mg_refunds K hP dX4_pays_67 ?_
    refine lv_iload_n hx hb dX4_pays_70 rfl (lv_at hl 1 rfl) ?_
    refine lv_dup2_11 hx hb dX4_pays_71 rfl rfl ?_
    refine mr_ald K hP (by decide) (by decide) (n := 10) rfl (by omega) (by decide) dX4_pays_72 ?_
    rw [show h7 20 t = h 20 t from by simp [u2_at, e7]]
    refine lv_iload_n hx hb dX4_pays_73 rfl (lv_at hl 0 rfl) ?_
    refine lv_iadd hx hb dX4_pays_74 ?_
    refine lv_topi (fun v8 e8 => ?_)
    refine mr_ast K hP hS (by decide) (by decide) (n := 10) rfl (by omega) (by decide) dX4_pays_75 (fun h9 H locs e9 hP hS => ?_)
    refine lv_aload_n hx hb dX4_pays_76 rfl (lv_at hl 2 rfl) ?_
    refine mg_rr K hP dX4_pays_77 ?_
    refine lv_iload_n hx hb dX4_pays_80 rfl (lv_at hl 3 rfl) ?_
    refine lv_iload_n hx hb dX4_pays_81 rfl (lv_at hl 0 rfl) ?_
    refine mr_ast K hP hS (by decide) (by decide) (n := 60) rfl (by omega) (by decide) dX4_pays_82 (fun h10 H locs e10 hP hS => ?_)
    refine lv_aload_n hx hb dX4_pays_83 rfl (lv_at hl 2 rfl) ?_
    refine mg_rk K hP dX4_pays_84 ?_
    refine lv_iload_n hx hb dX4_pays_87 rfl (lv_at hl 3 rfl) ?_
    refine lv_iconst (v := 2) hx hb dX4_pays_88 (by decide) ?_
    refine mr_ast K hP hS (by decide) (by decide) (n := 60) rfl (by omega) (by decide) dX4_pays_89 (fun h11 H locs e11 hP hS => ?_)
    exact fx_retv hx hb hr hlocks hP hS (Nat.le_of_ble_eq_true rfl) (Nat.le_of_ble_eq_true rfl) dX4_pays_90 ⟨rfl, by simp only [e1, e2, e3, e4, e6, e7, e8, e9, e10, e11]; rfl⟩
  · refine lv_sipush (v := 500) hx hb dX4_pays_41 (by decide) ?_
    refine lv_aload_n hx hb dX4_pays_44 rfl (lv_at hl 2 rfl) ?_
    refine mg_given K hP dX4_pays_45 ?_
    refine lv_iload_n hx hb dX4_pays_48 rfl (lv_at hl 1 rfl) ?_
    refine mr_ald K hP (by decide) (by decide) (n := 10) rfl (by omega) (by decide) dX4_pays_49 ?_
    refine lv_isub hx hb dX4_pays_50 ?_
    refine lv_topi (fun v12 e12 => ?_)
    refine lv_goto (tgt := 55) hx hb dX4_pays_51 (by decide) ?_
    rw [show v12 = itsV h i t from by simp only [e1, e2, e3, e4, e12] at *; unfold itsV its0; grind]
    refine lv_istore_n (lv' := [(3, .int (itsV h i t)), (2, .int (nI t)), (0, .ref (am 0)), (1, .int (nI i))]) hx hb dX4_pays_55 rfl hl (by decide) rfl (fun ls hl => ?_)
    refine lv_aload_n hx hb dX4_pays_56 rfl (lv_at hl 2 rfl) ?_
    refine mg_given K hP dX4_pays_57 ?_
    refine lv_iload_n hx hb dX4_pays_60 rfl (lv_at hl 1 rfl) ?_
    refine lv_dup2_11 hx hb dX4_pays_61 rfl rfl ?_
    refine mr_ald K hP (by decide) (by decide) (n := 10) rfl (by omega) (by decide) dX4_pays_62 ?_
    refine lv_iload_n hx hb dX4_pays_63 rfl (lv_at hl 0 rfl) ?_
    refine lv_iadd hx hb dX4_pays_64 ?_
    refine lv_topi (fun v13 e13 => ?_)
    refine mr_ast K hP hS (by decide) (by decide) (n := 10) rfl (by omega) (by decide) dX4_pays_65 (fun h14 H locs e14 hP hS => ?_)
    refine lv_aload_n hx hb dX4_pays_66 rfl (lv_at hl 2 rfl) ?_
    refine mg_refunds K hP dX4_pays_67 ?_
    refine lv_iload_n hx hb dX4_pays_70 rfl (lv_at hl 1 rfl) ?_
    refine lv_dup2_11 hx hb dX4_pays_71 rfl rfl ?_
    refine mr_ald K hP (by decide) (by decide) (n := 10) rfl (by omega) (by decide) dX4_pays_72 ?_
    rw [show h14 20 t = h 20 t from by simp [u2_at, e14]]
    refine lv_iload_n hx hb dX4_pays_73 rfl (lv_at hl 0 rfl) ?_
    refine lv_iadd hx hb dX4_pays_74 ?_
    refine lv_topi (fun v15 e15 => ?_)
    refine mr_ast K hP hS (by decide) (by decide) (n := 10) rfl (by omega) (by decide) dX4_pays_75 (fun h16 H locs e16 hP hS => ?_)
    refine lv_aload_n hx hb dX4_pays_76 rfl (lv_at hl 2 rfl) ?_
    refine mg_rr K hP dX4_pays_77 ?_
    refine lv_iload_n hx hb dX4_pays_80 rfl (lv_at hl 3 rfl) ?_
    refine lv_iload_n hx hb dX4_pays_81 rfl (lv_at hl 0 rfl) ?_
    refine mr_ast K hP hS (by decide) (by decide) (n := 60) rfl (by omega) (by decide) dX4_pays_82 (fun h17 H locs e17 hP hS => ?_)
    refine lv_aload_n hx hb dX4_pays_83 rfl (lv_at hl 2 rfl) ?_
    refine mg_rk K hP dX4_pays_84 ?_
    refine lv_iload_n hx hb dX4_pays_87 rfl (lv_at hl 3 rfl) ?_
    refine lv_iconst (v := 2) hx hb dX4_pays_88 (by decide) ?_
    refine mr_ast K hP hS (by decide) (by decide) (n := 60) rfl (by omega) (by decide) dX4_pays_89 (fun h18 H locs e18 hP hS => ?_)
    exact fx_retv hx hb hr hlocks hP hS (Nat.le_of_ble_eq_true rfl) (Nat.le_of_ble_eq_true rfl) dX4_pays_90 ⟨rfl, by simp only [e1, e2, e3, e4, e12, e13, e14, e15, e16, e17, e18]; rfl⟩

set_option maxHeartbeats 4000000 in
set_option maxRecDepth 100000 in
theorem c_X4_fails (l : Launch) (Z : fx_Z) (am : Nat → Nat) (hinj : fx_inj 22 am) (h : St) (i : Nat) (hi : i < 60) : fx_C l Z yX4_fails cX4_fails 2 none 0 0 0 0 22 am (mF am (Z.2.1 0)) h [.ref (am 0), .int (nI i)] (pV (failS h i)) (fun _ => False) := by
  intro sz
  refine vx_ofW (cc := cX4_fails) (maxL := 2) (ret := none) (by decide) rfl ?_
  intro p e s m args below meth c s₁ B hml hout hv
  obtain ⟨rfl, hsz, hP, hE, hSt⟩ := hv
  subst hsz
  have hx := B.exec
  have hb := B.bytes
  have hr := B.returns
  have hown : s.vm.findClass RX4 = some m.cls := findClass_of_methodNamed B.named
  have hlocks := B.notSynchronized
  have K : m_K p s m ([.ref (am 0), .int (nI i)] : List Value).toArray c cX4_fails 2 Z am := ⟨hx, hb, hml, hown, fun w hw => atoms_spec (ws := fx_l yX4_fails cX4_fails 2 none) B.pre w (List.mem_cons_of_mem _ hw), hE, hSt, hinj⟩
  have hS : va_S (fx_A 22 am s.heap.size) s.heap s.heap [] := va_S.rf
  have hl := lv_entry ([.ref (am 0), .int (nI i)]) (n := 2) (Nat.le_of_ble_eq_true rfl)
  rw [lg_entry_eq]
  generalize (lg_sl ([.ref (am 0), .int (nI i)]) ++ List.replicate (2 - (lg_sl ([.ref (am 0), .int (nI i)])).length) Slot.unset).toArray = ls at hl ⊢
  have hl : lv_has ls 2 [(0, .ref (am 0)), (1, .int (nI i))] := hl
  refine lv_aload_n hx hb dX4_fails_0 rfl (lv_at hl 0 rfl) ?_
  refine mg_rn K hP dX4_fails_1 ?_
  refine lv_iload_n hx hb dX4_fails_4 rfl (lv_at hl 1 rfl) ?_
  refine lv_dup2_11 hx hb dX4_fails_5 rfl rfl ?_
  refine mr_ald K hP (by decide) (by decide) (n := 60) rfl (by omega) (by decide) dX4_fails_6 ?_
  refine lv_iconst (v := 1) hx hb dX4_fails_7 (by decide) ?_
  refine lv_iadd hx hb dX4_fails_8 ?_
  refine lv_topi (fun v1 e1 => ?_)
  refine mr_ast K hP hS (by decide) (by decide) (n := 60) rfl (by omega) (by decide) dX4_fails_9 (fun h2 H locs e2 hP hS => ?_)
  refine lv_aload_n hx hb dX4_fails_10 rfl (lv_at hl 0 rfl) ?_
  refine mg_rk K hP dX4_fails_11 ?_
  refine lv_iload_n hx hb dX4_fails_14 rfl (lv_at hl 1 rfl) ?_
  refine lv_aload_n hx hb dX4_fails_15 rfl (lv_at hl 0 rfl) ?_
  refine mg_rn K hP dX4_fails_16 ?_
  refine lv_iload_n hx hb dX4_fails_19 rfl (lv_at hl 1 rfl) ?_
  refine mr_ald K hP (by decide) (by decide) (n := 60) rfl (by omega) (by decide) dX4_fails_20 ?_
  rw [show h2 10 i = v1 from by simp [u2_at, e2]]
  refine lv_iconst (v := 2) hx hb dX4_fails_21 (by decide) ?_
  refine lv_icmp_ne (tgt := 29) hx hb dX4_fails_22 (by decide) (fun c3 => ?_) (fun c3 => ?_)
  · refine lv_iconst (v := 0) hx hb dX4_fails_29 (by decide) ?_
    rw [show (0 : Int32) = (if h 10 i + 1 = 2 then 3 else 0) from by simp only [e1, e2] at *; simp [c3]]
    refine mr_ast K hP hS (by decide) (by decide) (n := 60) rfl (by omega) (by decide) dX4_fails_30 (fun h4 H locs e4 hP hS => ?_)
    refine lv_aload_n hx hb dX4_fails_31 rfl (lv_at hl 0 rfl) ?_
    refine mg_rf K hP dX4_fails_32 ?_
    refine lv_iload_n hx hb dX4_fails_35 rfl (lv_at hl 1 rfl) ?_
    refine lv_iconst (v := (-1)) hx hb dX4_fails_36 (by decide) ?_
    refine mr_ast K hP hS (by decide) (by decide) (n := 60) rfl (by omega) (by decide) dX4_fails_37 (fun h5 H locs e5 hP hS => ?_)
    exact fx_retv hx hb hr hlocks hP hS (Nat.le_of_ble_eq_true rfl) (Nat.le_of_ble_eq_true rfl) dX4_fails_38 ⟨rfl, by simp only [e1, e2, e4, e5]; rfl⟩
  · refine lv_iconst (v := 3) hx hb dX4_fails_25 (by decide) ?_
    refine lv_goto (tgt := 30) hx hb dX4_fails_26 (by decide) ?_
    rw [show (3 : Int32) = (if h 10 i + 1 = 2 then 3 else 0) from by simp only [e1, e2] at *; simp [c3]]
    refine mr_ast K hP hS (by decide) (by decide) (n := 60) rfl (by omega) (by decide) dX4_fails_30 (fun h6 H locs e6 hP hS => ?_)
    refine lv_aload_n hx hb dX4_fails_31 rfl (lv_at hl 0 rfl) ?_
    refine mg_rf K hP dX4_fails_32 ?_
    refine lv_iload_n hx hb dX4_fails_35 rfl (lv_at hl 1 rfl) ?_
    refine lv_iconst (v := (-1)) hx hb dX4_fails_36 (by decide) ?_
    refine mr_ast K hP hS (by decide) (by decide) (n := 60) rfl (by omega) (by decide) dX4_fails_37 (fun h7 H locs e7 hP hS => ?_)
    exact fx_retv hx hb hr hlocks hP hS (Nat.le_of_ble_eq_true rfl) (Nat.le_of_ble_eq_true rfl) dX4_fails_38 ⟨rfl, by simp only [e1, e2, e6, e7]; rfl⟩
end
