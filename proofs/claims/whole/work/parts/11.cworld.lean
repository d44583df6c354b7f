/-! ===== the class's world: one object, its arrays, 60 receipts, 20 ferries with their places, 10 travellers ===== -/
abbrev ctR (g : St) (i : Nat) : va_E := .inr (2, [.int (g 2 i), .int (g 3 i), .int (g 4 i), .int (g 5 i), .int (g 6 i), .int (g 7 i), .int (g 8 i), .int (g 9 i), .int (g 10 i)])
abbrev ctF (ad : Nat → Nat) (g : St) (f : Nat) : va_E := .inr (1, [.int (g 11 f), .int (g 12 f), .ref (ad (85 + f))])
abbrev ctT (g : St) (t : Nat) : va_E := .inr (3, [.int (g 20 t), .int (g 19 t), .int (g 18 t), .int (g 17 t), .int (g 16 t)])
abbrev ct0 (ad : Nat → Nat) (g : St) : va_E := .inr (4, [.ref (ad 1), .ref (ad 2), .ref (ad 3), .ref (ad 4), .int (g 0 0), .int (g 0 1), .int (g 0 2)])
def ct (ad : Nat → Nat) (cy : Nat → ClassId) (g : St) (k : Nat) : va_E :=
  if k = 0 then ct0 ad g
  else if k = 1 then .inl (cy 0, 4, .inl (g 1))
  else if k = 2 then .inl (cy 1, 60, .inr (.inr (.inr (.inr (fun i => some (ad (5 + i)))))))
  else if k = 3 then .inl (cy 2, 20, .inr (.inr (.inr (.inr (fun i => some (ad (65 + i)))))))
  else if k = 4 then .inl (cy 3, 10, .inr (.inr (.inr (.inr (fun i => some (ad (105 + i)))))))
  else if k < 65 then ctR g (k - 5)
  else if k < 85 then ctF ad g (k - 65)
  else if k < 105 then .inl (cy 0, 10, .inl (g (30 + (k - 85))))
  else ctT g (k - 105)
abbrev cF (ad : Nat → Nat) (cy : Nat → ClassId) (g : St) (k : Nat) : Nat × va_E := (ad k, ct ad cy g k)
section CW
variable {ad : Nat → Nat} {cy : Nat → ClassId} {g g1 : St}
theorem cF_1 (g : St) : ∀ k, k < 115 → (cF ad cy g k).1 = ad k := fun _ _ => rfl
theorem ct_0 : ct ad cy g 0 = ct0 ad g := rfl
theorem ct_1 : ct ad cy g 1 = .inl (cy 0, 4, .inl (g 1)) := rfl
theorem ct_2 : ct ad cy g 2 = .inl (cy 1, 60, .inr (.inr (.inr (.inr (fun i => some (ad (5 + i))))))) := rfl
theorem ct_3 : ct ad cy g 3 = .inl (cy 2, 20, .inr (.inr (.inr (.inr (fun i => some (ad (65 + i))))))) := rfl
theorem ct_4 : ct ad cy g 4 = .inl (cy 3, 10, .inr (.inr (.inr (.inr (fun i => some (ad (105 + i))))))) := rfl
theorem ct_R {i : Nat} (h : i < 60) : ct ad cy g (5 + i) = ctR g i := by
  unfold ct
  rw [if_neg (by omega), if_neg (by omega), if_neg (by omega), if_neg (by omega), if_neg (by omega), if_pos (by omega), Nat.add_sub_cancel_left]
theorem ct_F {f : Nat} (h : f < 20) : ct ad cy g (65 + f) = ctF ad g f := by
  unfold ct
  rw [if_neg (by omega), if_neg (by omega), if_neg (by omega), if_neg (by omega), if_neg (by omega), if_neg (by omega), if_pos (by omega), Nat.add_sub_cancel_left]
theorem ct_P {f : Nat} (h : f < 20) : ct ad cy g (85 + f) = .inl (cy 0, 10, .inl (g (30 + f))) := by
  unfold ct
  rw [if_neg (by omega), if_neg (by omega), if_neg (by omega), if_neg (by omega), if_neg (by omega), if_neg (by omega), if_neg (by omega), if_pos (by omega), Nat.add_sub_cancel_left]
theorem ct_T {t : Nat} : ct ad cy g (105 + t) = ctT g t := by
  unfold ct
  rw [if_neg (by omega), if_neg (by omega), if_neg (by omega), if_neg (by omega), if_neg (by omega), if_neg (by omega), if_neg (by omega), if_neg (by omega), Nat.add_sub_cancel_left]
theorem ct_eq {j : Nat} (hj : j < 115) (h0 : j = 0 → ∀ i, i < 3 → g1 0 i = g 0 i) (h1 : j = 1 → g1 1 = g 1) (hR : ∀ i, j = 5 + i → i < 60 → ∀ k, 2 ≤ k → k ≤ 10 → g1 k i = g k i) (hF : ∀ f, j = 65 + f → f < 20 → g1 11 f = g 11 f ∧ g1 12 f = g 12 f) (hP : ∀ f, j = 85 + f → f < 20 → g1 (30 + f) = g (30 + f)) (hT : ∀ t, j = 105 + t → t < 10 → ∀ k, 16 ≤ k → k ≤ 20 → g1 k t = g k t) : ct ad cy g1 j = ct ad cy g j := by
  by_cases a0 : j = 0
  · subst a0
    rw [ct_0, ct_0, ct0, h0 rfl 0 (by omega), h0 rfl 1 (by omega), h0 rfl 2 (by omega)]
  by_cases a1 : j = 1
  · subst a1
    rw [ct_1, ct_1, h1 rfl]
  by_cases a2 : j = 2
  · subst a2; rfl
  by_cases a3 : j = 3
  · subst a3; rfl
  by_cases a4 : j = 4
  · subst a4; rfl
  by_cases a5 : j < 65
  · obtain ⟨i, rfl⟩ : ∃ i, j = 5 + i := ⟨j - 5, by omega⟩
    rw [ct_R (by omega), ct_R (by omega)]
    have q := hR i rfl (by omega)
    rw [ctR, ctR, q 2 (by omega) (by omega), q 3 (by omega) (by omega), q 4 (by omega) (by omega), q 5 (by omega) (by omega), q 6 (by omega) (by omega), q 7 (by omega) (by omega), q 8 (by omega) (by omega), q 9 (by omega) (by omega), q 10 (by omega) (by omega)]
  by_cases a6 : j < 85
  · obtain ⟨i, rfl⟩ : ∃ i, j = 65 + i := ⟨j - 65, by omega⟩
    rw [ct_F (by omega), ct_F (by omega), ctF, ctF, (hF i rfl (by omega)).1, (hF i rfl (by omega)).2]
  by_cases a7 : j < 105
  · obtain ⟨i, rfl⟩ : ∃ i, j = 85 + i := ⟨j - 85, by omega⟩
    rw [ct_P (by omega), ct_P (by omega), hP i rfl (by omega)]
  · obtain ⟨i, rfl⟩ : ∃ i, j = 105 + i := ⟨j - 105, by omega⟩
    have q := hT i rfl (by omega)
    rw [ct_T, ct_T, ctT, ctT, q 16 (by omega) (by omega), q 17 (by omega) (by omega), q 18 (by omega) (by omega), q 19 (by omega) (by omega), q 20 (by omega) (by omega)]
theorem cF_set {k : Nat} {e : va_E} (hk : k < 115) (he : ct ad cy g1 k = e) (h : ∀ j, j < 115 → j ≠ k → ct ad cy g1 j = ct ad cy g j) : (iw 115 (cF ad cy g)).set k (ad k, e) = iw 115 (cF ad cy g1) := by
  refine iw_set hk fun j hj => ?_
  by_cases e0 : j = k
  · subst e0
    rw [if_pos rfl, ← he]
  · rw [if_neg e0]
    show (ad j, _) = (ad j, _)
    rw [h j hj e0]
/-- a receipt's field j becomes x -/
theorem cF_sR {i k : Nat} {x : Int32} {e : va_E} (hi : i < 60) (hk : 2 ≤ k ∧ k ≤ 10) (he : ctR (u2 g k i x) i = e) : (iw 115 (cF ad cy g)).set (5 + i) (ad (5 + i), e) = iw 115 (cF ad cy (u2 g k i x)) := by
  refine cF_set (by omega) (by rw [ct_R hi]; exact he) fun j hj hne => ct_eq hj (fun _ _ _ => u2_off _ _ (by omega)) (fun _ => u2_ne _ _ _ (by omega)) (fun i2 h2 _ k2 _ _ => u2_off _ _ (by omega)) (fun _ _ _ => ⟨u2_off _ _ (by omega), u2_off _ _ (by omega)⟩) (fun _ _ _ => u2_ne _ _ _ (by omega)) (fun _ _ _ _ _ _ => u2_off _ _ (by omega))
theorem cF_sF {f k : Nat} {x : Int32} {e : va_E} (hf : f < 20) (hk : k = 11 ∨ k = 12) (he : ctF ad (u2 g k f x) f = e) : (iw 115 (cF ad cy g)).set (65 + f) (ad (65 + f), e) = iw 115 (cF ad cy (u2 g k f x)) := by
  refine cF_set (by omega) (by rw [ct_F hf]; exact he) fun j hj hne => ct_eq hj (fun _ _ _ => u2_off _ _ (by omega)) (fun _ => u2_ne _ _ _ (by omega)) (fun i2 h2 _ k2 _ _ => u2_off _ _ (by omega)) (fun _ _ _ => ⟨u2_off _ _ (by omega), u2_off _ _ (by omega)⟩) (fun _ _ _ => u2_ne _ _ _ (by omega)) (fun _ _ _ _ _ _ => u2_off _ _ (by omega))
theorem cF_sT {t k : Nat} {x : Int32} {e : va_E} (ht : t < 10) (hk : 16 ≤ k ∧ k ≤ 20) (he : ctT (u2 g k t x) t = e) : (iw 115 (cF ad cy g)).set (105 + t) (ad (105 + t), e) = iw 115 (cF ad cy (u2 g k t x)) := by
  refine cF_set (by omega) (by rw [ct_T]; exact he) fun j hj hne => ct_eq hj (fun _ _ _ => u2_off _ _ (by omega)) (fun _ => u2_ne _ _ _ (by omega)) (fun i2 h2 _ k2 _ _ => u2_off _ _ (by omega)) (fun _ _ _ => ⟨u2_off _ _ (by omega), u2_off _ _ (by omega)⟩) (fun _ _ _ => u2_ne _ _ _ (by omega)) (fun _ _ _ _ _ _ => u2_off _ _ (by omega))
theorem cF_sP {f t : Nat} {x : Int32} (hf : f < 20) : (iw 115 (cF ad cy g)).set (85 + f) (ad (85 + f), .inl (cy 0, 10, .inl (upd (g (30 + f)) t x))) = iw 115 (cF ad cy (u2 g (30 + f) t x)) := by
  refine cF_set (by omega) (by rw [ct_P hf, u2_k]) fun j hj hne => ct_eq hj (fun _ _ _ => u2_off _ _ (by omega)) (fun _ => u2_ne _ _ _ (by omega)) (fun i2 h2 _ k2 _ _ => u2_off _ _ (by omega)) (fun _ _ _ => ⟨u2_off _ _ (by omega), u2_off _ _ (by omega)⟩) (fun _ _ _ => u2_ne _ _ _ (by omega)) (fun _ _ _ _ _ _ => u2_off _ _ (by omega))
theorem cF_s1 {t : Nat} {x : Int32} : (iw 115 (cF ad cy g)).set 1 (ad 1, .inl (cy 0, 4, .inl (upd (g 1) t x))) = iw 115 (cF ad cy (u2 g 1 t x)) := by
  refine cF_set (by omega) (by rw [ct_1, u2_k]) fun j hj hne => ct_eq hj (fun _ _ _ => u2_off _ _ (by omega)) (fun h => absurd h hne) (fun i2 h2 _ k2 _ _ => u2_off _ _ (by omega)) (fun _ _ _ => ⟨u2_off _ _ (by omega), u2_off _ _ (by omega)⟩) (fun _ _ _ => u2_ne _ _ _ (by omega)) (fun _ _ _ _ _ _ => u2_off _ _ (by omega))
theorem cF_s0 {i : Nat} {x : Int32} {e : va_E} (he : ct0 ad (u2 g 0 i x) = e) : (iw 115 (cF ad cy g)).set 0 (ad 0, e) = iw 115 (cF ad cy (u2 g 0 i x)) := by
  refine cF_set (by omega) (by rw [ct_0]; exact he) fun j hj hne => ct_eq hj (fun h => absurd h hne) (fun _ => u2_ne _ _ _ (by omega)) (fun i2 h2 _ k2 _ _ => u2_off _ _ (by omega)) (fun _ _ _ => ⟨u2_off _ _ (by omega), u2_off _ _ (by omega)⟩) (fun _ _ _ => u2_ne _ _ _ (by omega)) (fun _ _ _ _ _ _ => u2_off _ _ (by omega))
end CW
theorem i_X0 : ∀ w ∈ wsX00, w ∈ fx_ws := by
  intro w hw
  obtain ⟨k, hk, rfl⟩ := List.mem_map.mp hw
  have hk : k < 3 := List.mem_range.mp hk
  have key : ∀ k, k < 3 → u_lay RX0 TX0 k ∈ fx_ws := by
    intro k hk
    match k, hk with
    | 0, _ => exact fx_w 116 (by decide +kernel) rfl
    | 1, _ => exact fx_w 118 (by decide +kernel) rfl
    | 2, _ => exact fx_w 120 (by decide +kernel) rfl
    | k + 3, h => exact absurd h (by omega)
  exact key k hk
theorem i_X1 : ∀ w ∈ wsX10, w ∈ fx_ws := by
  intro w hw
  obtain ⟨k, hk, rfl⟩ := List.mem_map.mp hw
  have hk : k < 9 := List.mem_range.mp hk
  have key : ∀ k, k < 9 → u_lay RX1 TX1 k ∈ fx_ws := by
    intro k hk
    match k, hk with
    | 0, _ => exact fx_w 87 (by decide +kernel) rfl
    | 1, _ => exact fx_w 89 (by decide +kernel) rfl
    | 2, _ => exact fx_w 91 (by decide +kernel) rfl
    | 3, _ => exact fx_w 93 (by decide +kernel) rfl
    | 4, _ => exact fx_w 95 (by decide +kernel) rfl
    | 5, _ => exact fx_w 97 (by decide +kernel) rfl
    | 6, _ => exact fx_w 99 (by decide +kernel) rfl
    | 7, _ => exact fx_w 101 (by decide +kernel) rfl
    | 8, _ => exact fx_w 103 (by decide +kernel) rfl
    | k + 9, h => exact absurd h (by omega)
  exact key k hk
theorem i_X2 : ∀ w ∈ wsX20, w ∈ fx_ws := by
  intro w hw
  obtain ⟨k, hk, rfl⟩ := List.mem_map.mp hw
  have hk : k < 5 := List.mem_range.mp hk
  have key : ∀ k, k < 5 → u_lay RX2 TX2 k ∈ fx_ws := by
    intro k hk
    match k, hk with
    | 0, _ => exact fx_w 133 (by decide +kernel) rfl
    | 1, _ => exact fx_w 135 (by decide +kernel) rfl
    | 2, _ => exact fx_w 137 (by decide +kernel) rfl
    | 3, _ => exact fx_w 139 (by decide +kernel) rfl
    | 4, _ => exact fx_w 141 (by decide +kernel) rfl
    | k + 5, h => exact absurd h (by omega)
  exact key k hk
theorem i_X3 : ∀ w ∈ wsX30, w ∈ fx_ws := by
  intro w hw
  obtain ⟨k, hk, rfl⟩ := List.mem_map.mp hw
  have hk : k < 7 := List.mem_range.mp hk
  have key : ∀ k, k < 7 → u_lay RX3 TX3 k ∈ fx_ws := by
    intro k hk
    match k, hk with
    | 0, _ => exact fx_w 151 (by decide +kernel) rfl
    | 1, _ => exact fx_w 153 (by decide +kernel) rfl
    | 2, _ => exact fx_w 155 (by decide +kernel) rfl
    | 3, _ => exact fx_w 157 (by decide +kernel) rfl
    | 4, _ => exact fx_w 159 (by decide +kernel) rfl
    | 5, _ => exact fx_w 161 (by decide +kernel) rfl
    | 6, _ => exact fx_w 163 (by decide +kernel) rfl
    | k + 7, h => exact absurd h (by omega)
  exact key k hk
section FXK
variable {p : Program} {l : Launch} {e : Env} {R : Room} {s : State} {m : MethodId} {args : Array Value} {below : List Frame} {meth : Method} {c : Code} {H : Heap} {locs : List Loc} {cells slots : Nat} {Q : State → Prop}
variable {Z : fx_Z} {ad : Nat → Nat} {cc : ByteArray} {pc nL : Nat} {ls : Array Slot} {rest : List Value} {g : St}
/-- the standing facts of a method of the class -/
def c_K (p : Program) (l : Launch) (s : State) (m : MethodId) (args : Array Value) (c : Code) (cc : ByteArray) (nL : Nat) (Z : fx_Z) (ad : Nat → Nat) : Prop :=
  p.tables.exec = Jvm.exec ∧ c.code = cc ∧ c.maxLocals = nL ∧ s.vm.findClass RX3 = some m.cls ∧ (∀ w ∈ fx_ws, w.before args s = true) ∧ fx_E Z s ∧ fx_S (fx_A 115 ad s.heap.size) s s.heap ∧ fx_inj 115 ad ∧ l.stackTraces = false
theorem c_A {k : Nat} (hk : k < 115) : fx_A 115 ad s.heap.size (ad k) := Or.inl ⟨k, hk, rfl⟩
theorem c_A2 : ∀ q, s.heap.size ≤ q → fx_A 115 ad s.heap.size q := fun q h => Or.inr h
theorem c_D (hi : fx_inj 115 ad) : va_D (fx_A 115 ad s.heap.size) (iw 115 (cF ad Z.2.1 g)) := fx_D hi (cF_1 g) (fun k hk => c_A hk)
theorem c_recv (K : c_K p l s m args c cc nL Z ad) (hP : va_P Z.1 vwCl (iw 115 (cF ad Z.2.1 g)) H) : ∃ cellB : Cell, H[ad 0]? = some cellB ∧ cellB.vm.isStatics = false ∧ s.vm.findClass RX3 = some cellB.cls :=
  va_recv K.2.2.2.2.2.1.1 hP (ci := 4) (q0 := 0) (q := (RX3, TX3, 7)) rfl (by rw [iw_at (by decide)]; rfl)
theorem cg_rates (K : c_K p l s m args c cc nL Z ad) (hP : va_P Z.1 vwCl (iw 115 (cF ad Z.2.1 g)) H) (hdg : decode cc pc = .ok (.getfield 9, 3)) (kk : W p l e R s m args below meth c H locs cells slots Q (F0 m (pc + 3) ls (.ref (ad 1) :: rest))) : W p l e R s m args below meth c H locs cells slots Q (F0 m pc ls (.ref (ad 0) :: rest)) := by
  obtain ⟨hx, hb, -, hown, hT, hE, -⟩ := K
  exact va_get (D := Z.1) (ci := 4) (v := .ref (ad 1)) (C := RX3) (T := TX3) (N := 7) (ref := "Ferrytax") hx hb hT i_X3 hown hE.1 hP (0) (by rw [iw_at (by omega)]; exact congrArg (fun e => some (ad (0), e)) (ct_0 (ad := ad) (cy := Z.2.1) (g := g))) rfl 0 (by decide) (hT (.fieldLink RX3 9 "Ferrytax" "rates" "[I") (fx_w 144 (by decide +kernel) rfl)) (fun _ h9 => h9) rfl hdg kk
theorem cg_receipts (K : c_K p l s m args c cc nL Z ad) (hP : va_P Z.1 vwCl (iw 115 (cF ad Z.2.1 g)) H) (hdg : decode cc pc = .ok (.getfield 15, 3)) (kk : W p l e R s m args below meth c H locs cells slots Q (F0 m (pc + 3) ls (.ref (ad 2) :: rest))) : W p l e R s m args below meth c H locs cells slots Q (F0 m pc ls (.ref (ad 0) :: rest)) := by
  obtain ⟨hx, hb, -, hown, hT, hE, -⟩ := K
  exact va_get (D := Z.1) (ci := 4) (v := .ref (ad 2)) (C := RX3) (T := TX3) (N := 7) (ref := "Ferrytax") hx hb hT i_X3 hown hE.1 hP (0) (by rw [iw_at (by omega)]; exact congrArg (fun e => some (ad (0), e)) (ct_0 (ad := ad) (cy := Z.2.1) (g := g))) rfl 1 (by decide) (hT (.fieldLink RX3 15 "Ferrytax" "receipts" "[LFerrytax$Receipt;") (fx_w 145 (by decide +kernel) rfl)) (fun _ h9 => h9) rfl hdg kk
theorem cg_ferries (K : c_K p l s m args c cc nL Z ad) (hP : va_P Z.1 vwCl (iw 115 (cF ad Z.2.1 g)) H) (hdg : decode cc pc = .ok (.getfield 21, 3)) (kk : W p l e R s m args below meth c H locs cells slots Q (F0 m (pc + 3) ls (.ref (ad 3) :: rest))) : W p l e R s m args below meth c H locs cells slots Q (F0 m pc ls (.ref (ad 0) :: rest)) := by
  obtain ⟨hx, hb, -, hown, hT, hE, -⟩ := K
  exact va_get (D := Z.1) (ci := 4) (v := .ref (ad 3)) (C := RX3) (T := TX3) (N := 7) (ref := "Ferrytax") hx hb hT i_X3 hown hE.1 hP (0) (by rw [iw_at (by omega)]; exact congrArg (fun e => some (ad (0), e)) (ct_0 (ad := ad) (cy := Z.2.1) (g := g))) rfl 2 (by decide) (hT (.fieldLink RX3 21 "Ferrytax" "ferries" "[LFerrytax$Ferry;") (fx_w 146 (by decide +kernel) rfl)) (fun _ h9 => h9) rfl hdg kk
theorem cg_travellers (K : c_K p l s m args c cc nL Z ad) (hP : va_P Z.1 vwCl (iw 115 (cF ad Z.2.1 g)) H) (hdg : decode cc pc = .ok (.getfield 27, 3)) (kk : W p l e R s m args below meth c H locs cells slots Q (F0 m (pc + 3) ls (.ref (ad 4) :: rest))) : W p l e R s m args below meth c H locs cells slots Q (F0 m pc ls (.ref (ad 0) :: rest)) := by
  obtain ⟨hx, hb, -, hown, hT, hE, -⟩ := K
  exact va_get (D := Z.1) (ci := 4) (v := .ref (ad 4)) (C := RX3) (T := TX3) (N := 7) (ref := "Ferrytax") hx hb hT i_X3 hown hE.1 hP (0) (by rw [iw_at (by omega)]; exact congrArg (fun e => some (ad (0), e)) (ct_0 (ad := ad) (cy := Z.2.1) (g := g))) rfl 3 (by decide) (hT (.fieldLink RX3 27 "Ferrytax" "travellers" "[LFerrytax$Traveller;") (fx_w 147 (by decide +kernel) rfl)) (fun _ h9 => h9) rfl hdg kk
theorem cg_receiptCount (K : c_K p l s m args c cc nL Z ad) (hP : va_P Z.1 vwCl (iw 115 (cF ad Z.2.1 g)) H) (hdg : decode cc pc = .ok (.getfield 31, 3)) (kk : W p l e R s m args below meth c H locs cells slots Q (F0 m (pc + 3) ls (.int (g 0 0) :: rest))) : W p l e R s m args below meth c H locs cells slots Q (F0 m pc ls (.ref (ad 0) :: rest)) := by
  obtain ⟨hx, hb, -, hown, hT, hE, -⟩ := K
  exact va_get (D := Z.1) (ci := 4) (v := .int (g 0 0)) (C := RX3) (T := TX3) (N := 7) (ref := "Ferrytax") hx hb hT i_X3 hown hE.1 hP (0) (by rw [iw_at (by omega)]; exact congrArg (fun e => some (ad (0), e)) (ct_0 (ad := ad) (cy := Z.2.1) (g := g))) rfl 4 (by decide) (hT (.fieldLink RX3 31 "Ferrytax" "receiptCount" "I") (fx_w 148 (by decide +kernel) rfl)) (fun _ h9 => h9) rfl hdg kk
theorem cp_receiptCount {x : Int32} (K : c_K p l s m args c cc nL Z ad) (hP : va_P Z.1 vwCl (iw 115 (cF ad Z.2.1 g)) H) (hS : va_S (fx_A 115 ad s.heap.size) s.heap H locs) (hdg : decode cc pc = .ok (.putfield 31, 3))
    (kk : ∀ (g1 : St) (H1 : Heap) (locs1 : List Loc), g1 = u2 g 0 0 x → va_P Z.1 vwCl (iw 115 (cF ad Z.2.1 g1)) H1 → va_S (fx_A 115 ad s.heap.size) s.heap H1 locs1 → W p l e R s m args below meth c H1 locs1 cells slots Q (F0 m (pc + 3) ls rest)) : W p l e R s m args below meth c H locs cells slots Q (F0 m pc ls (.int x :: .ref (ad 0) :: rest)) := by
  obtain ⟨hx, hb, -, hown, hT, hE, -, hi9, -⟩ := K
  refine va_put (D := Z.1) (ci := 4) (v := .int x) (ty := .int) (C := RX3) (T := TX3) (N := 7) (ref := "Ferrytax") hx hb hT i_X3 tyX3 tyX3_ok nmX3 hown hE.1 hP (c_D hi9) hS (0) (by rw [iw_at (by omega)]; exact congrArg (fun e => some (ad (0), e)) (ct_0 (ad := ad) (cy := Z.2.1) (g := g))) rfl 4 (by decide) (hT (.fieldLink RX3 31 "Ferrytax" "receiptCount" "I") (fx_w 148 (by decide +kernel) rfl)) (fun _ h9 => h9) rfl (by decide +kernel) rfl rfl (Nat.le_of_ble_eq_true rfl) hdg fun H1 locs1 hP1 _ hS1 => ?_
  rw [cF_s0 (i := 0) (x := x) (by simp [u2_at])] at hP1
  exact kk _ H1 locs1 rfl hP1 hS1
theorem cg_ferryCount (K : c_K p l s m args c cc nL Z ad) (hP : va_P Z.1 vwCl (iw 115 (cF ad Z.2.1 g)) H) (hdg : decode cc pc = .ok (.getfield 35, 3)) (kk : W p l e R s m args below meth c H locs cells slots Q (F0 m (pc + 3) ls (.int (g 0 1) :: rest))) : W p l e R s m args below meth c H locs cells slots Q (F0 m pc ls (.ref (ad 0) :: rest)) := by
  obtain ⟨hx, hb, -, hown, hT, hE, -⟩ := K
  exact va_get (D := Z.1) (ci := 4) (v := .int (g 0 1)) (C := RX3) (T := TX3) (N := 7) (ref := "Ferrytax") hx hb hT i_X3 hown hE.1 hP (0) (by rw [iw_at (by omega)]; exact congrArg (fun e => some (ad (0), e)) (ct_0 (ad := ad) (cy := Z.2.1) (g := g))) rfl 5 (by decide) (hT (.fieldLink RX3 35 "Ferrytax" "ferryCount" "I") (fx_w 149 (by decide +kernel) rfl)) (fun _ h9 => h9) rfl hdg kk
theorem cp_ferryCount {x : Int32} (K : c_K p l s m args c cc nL Z ad) (hP : va_P Z.1 vwCl (iw 115 (cF ad Z.2.1 g)) H) (hS : va_S (fx_A 115 ad s.heap.size) s.heap H locs) (hdg : decode cc pc = .ok (.putfield 35, 3))
    (kk : ∀ (g1 : St) (H1 : Heap) (locs1 : List Loc), g1 = u2 g 0 1 x → va_P Z.1 vwCl (iw 115 (cF ad Z.2.1 g1)) H1 → va_S (fx_A 115 ad s.heap.size) s.heap H1 locs1 → W p l e R s m args below meth c H1 locs1 cells slots Q (F0 m (pc + 3) ls rest)) : W p l e R s m args below meth c H locs cells slots Q (F0 m pc ls (.int x :: .ref (ad 0) :: rest)) := by
  obtain ⟨hx, hb, -, hown, hT, hE, -, hi9, -⟩ := K
  refine va_put (D := Z.1) (ci := 4) (v := .int x) (ty := .int) (C := RX3) (T := TX3) (N := 7) (ref := "Ferrytax") hx hb hT i_X3 tyX3 tyX3_ok nmX3 hown hE.1 hP (c_D hi9) hS (0) (by rw [iw_at (by omega)]; exact congrArg (fun e => some (ad (0), e)) (ct_0 (ad := ad) (cy := Z.2.1) (g := g))) rfl 5 (by decide) (hT (.fieldLink RX3 35 "Ferrytax" "ferryCount" "I") (fx_w 149 (by decide +kernel) rfl)) (fun _ h9 => h9) rfl (by decide +kernel) rfl rfl (Nat.le_of_ble_eq_true rfl) hdg fun H1 locs1 hP1 _ hS1 => ?_
  rw [cF_s0 (i := 1) (x := x) (by simp [u2_at])] at hP1
  exact kk _ H1 locs1 rfl hP1 hS1
theorem cg_now (K : c_K p l s m args c cc nL Z ad) (hP : va_P Z.1 vwCl (iw 115 (cF ad Z.2.1 g)) H) (hdg : decode cc pc = .ok (.getfield 38, 3)) (kk : W p l e R s m args below meth c H locs cells slots Q (F0 m (pc + 3) ls (.int (g 0 2) :: rest))) : W p l e R s m args below meth c H locs cells slots Q (F0 m pc ls (.ref (ad 0) :: rest)) := by
  obtain ⟨hx, hb, -, hown, hT, hE, -⟩ := K
  exact va_get (D := Z.1) (ci := 4) (v := .int (g 0 2)) (C := RX3) (T := TX3) (N := 7) (ref := "Ferrytax") hx hb hT i_X3 hown hE.1 hP (0) (by rw [iw_at (by omega)]; exact congrArg (fun e => some (ad (0), e)) (ct_0 (ad := ad) (cy := Z.2.1) (g := g))) rfl 6 (by decide) (hT (.fieldLink RX3 38 "Ferrytax" "now" "I") (fx_w 150 (by decide +kernel) rfl)) (fun _ h9 => h9) rfl hdg kk
theorem cp_now {x : Int32} (K : c_K p l s m args c cc nL Z ad) (hP : va_P Z.1 vwCl (iw 115 (cF ad Z.2.1 g)) H) (hS : va_S (fx_A 115 ad s.heap.size) s.heap H locs) (hdg : decode cc pc = .ok (.putfield 38, 3))
    (kk : ∀ (g1 : St) (H1 : Heap) (locs1 : List Loc), g1 = u2 g 0 2 x → va_P Z.1 vwCl (iw 115 (cF ad Z.2.1 g1)) H1 → va_S (fx_A 115 ad s.heap.size) s.heap H1 locs1 → W p l e R s m args below meth c H1 locs1 cells slots Q (F0 m (pc + 3) ls rest)) : W p l e R s m args below meth c H locs cells slots Q (F0 m pc ls (.int x :: .ref (ad 0) :: rest)) := by
  obtain ⟨hx, hb, -, hown, hT, hE, -, hi9, -⟩ := K
  refine va_put (D := Z.1) (ci := 4) (v := .int x) (ty := .int) (C := RX3) (T := TX3) (N := 7) (ref := "Ferrytax") hx hb hT i_X3 tyX3 tyX3_ok nmX3 hown hE.1 hP (c_D hi9) hS (0) (by rw [iw_at (by omega)]; exact congrArg (fun e => some (ad (0), e)) (ct_0 (ad := ad) (cy := Z.2.1) (g := g))) rfl 6 (by decide) (hT (.fieldLink RX3 38 "Ferrytax" "now" "I") (fx_w 150 (by decide +kernel) rfl)) (fun _ h9 => h9) rfl (by decide +kernel) rfl rfl (Nat.le_of_ble_eq_true rfl) hdg fun H1 locs1 hP1 _ hS1 => ?_
  rw [cF_s0 (i := 2) (x := x) (by simp [u2_at])] at hP1
  exact kk _ H1 locs1 rfl hP1 hS1
theorem cgR_shop {i : Nat} (K : c_K p l s m args c cc nL Z ad) (hP : va_P Z.1 vwCl (iw 115 (cF ad Z.2.1 g)) H) (hi : i < 60) (hdg : decode cc pc = .ok (.getfield 73, 3)) (kk : W p l e R s m args below meth c H locs cells slots Q (F0 m (pc + 3) ls (.int (g 2 i) :: rest))) : W p l e R s m args below meth c H locs cells slots Q (F0 m pc ls (.ref (ad (5 + i)) :: rest)) := by
  obtain ⟨hx, hb, -, hown, hT, hE, -⟩ := K
  exact va_get (D := Z.1) (ci := 2) (v := .int (g 2 i)) (C := RX1) (T := TX1) (N := 9) (ref := "Ferrytax$Receipt") hx hb hT i_X1 hown hE.1 hP (5 + i) (by rw [iw_at (by omega)]; exact congrArg (fun e => some (ad (5 + i), e)) (ct_R hi)) rfl 0 (by decide) (hT (.fieldLink RX3 73 "Ferrytax$Receipt" "shop" "I") (fx_w 78 (by decide +kernel) rfl)) (fun _ h9 => h9) rfl hdg kk
theorem cpR_shop {i : Nat} {x : Int32} (K : c_K p l s m args c cc nL Z ad) (hP : va_P Z.1 vwCl (iw 115 (cF ad Z.2.1 g)) H) (hS : va_S (fx_A 115 ad s.heap.size) s.heap H locs) (hi : i < 60) (hdg : decode cc pc = .ok (.putfield 73, 3))
    (kk : ∀ (g1 : St) (H1 : Heap) (locs1 : List Loc), g1 = u2 g 2 i x → va_P Z.1 vwCl (iw 115 (cF ad Z.2.1 g1)) H1 → va_S (fx_A 115 ad s.heap.size) s.heap H1 locs1 → W p l e R s m args below meth c H1 locs1 cells slots Q (F0 m (pc + 3) ls rest)) : W p l e R s m args below meth c H locs cells slots Q (F0 m pc ls (.int x :: .ref (ad (5 + i)) :: rest)) := by
  obtain ⟨hx, hb, -, hown, hT, hE, -, hi9, -⟩ := K
  refine va_put (D := Z.1) (ci := 2) (v := .int x) (ty := .int) (C := RX1) (T := TX1) (N := 9) (ref := "Ferrytax$Receipt") hx hb hT i_X1 tyX1 tyX1_ok nmX1 hown hE.1 hP (c_D hi9) hS (5 + i) (by rw [iw_at (by omega)]; exact congrArg (fun e => some (ad (5 + i), e)) (ct_R hi)) rfl 0 (by decide) (hT (.fieldLink RX3 73 "Ferrytax$Receipt" "shop" "I") (fx_w 78 (by decide +kernel) rfl)) (fun _ h9 => h9) rfl (by decide +kernel) rfl rfl (Nat.le_of_ble_eq_true rfl) hdg fun H1 locs1 hP1 _ hS1 => ?_
  rw [cF_sR (k := 2) (x := x) hi (by decide) (by simp [u2_at])] at hP1
  exact kk _ H1 locs1 rfl hP1 hS1
theorem cgR_traveller {i : Nat} (K : c_K p l s m args c cc nL Z ad) (hP : va_P Z.1 vwCl (iw 115 (cF ad Z.2.1 g)) H) (hi : i < 60) (hdg : decode cc pc = .ok (.getfield 76, 3)) (kk : W p l e R s m args below meth c H locs cells slots Q (F0 m (pc + 3) ls (.int (g 3 i) :: rest))) : W p l e R s m args below meth c H locs cells slots Q (F0 m pc ls (.ref (ad (5 + i)) :: rest)) := by
  obtain ⟨hx, hb, -, hown, hT, hE, -⟩ := K
  exact va_get (D := Z.1) (ci := 2) (v := .int (g 3 i)) (C := RX1) (T := TX1) (N := 9) (ref := "Ferrytax$Receipt") hx hb hT i_X1 hown hE.1 hP (5 + i) (by rw [iw_at (by omega)]; exact congrArg (fun e => some (ad (5 + i), e)) (ct_R hi)) rfl 1 (by decide) (hT (.fieldLink RX3 76 "Ferrytax$Receipt" "traveller" "I") (fx_w 79 (by decide +kernel) rfl)) (fun _ h9 => h9) rfl hdg kk
theorem cpR_traveller {i : Nat} {x : Int32} (K : c_K p l s m args c cc nL Z ad) (hP : va_P Z.1 vwCl (iw 115 (cF ad Z.2.1 g)) H) (hS : va_S (fx_A 115 ad s.heap.size) s.heap H locs) (hi : i < 60) (hdg : decode cc pc = .ok (.putfield 76, 3))
    (kk : ∀ (g1 : St) (H1 : Heap) (locs1 : List Loc), g1 = u2 g 3 i x → va_P Z.1 vwCl (iw 115 (cF ad Z.2.1 g1)) H1 → va_S (fx_A 115 ad s.heap.size) s.heap H1 locs1 → W p l e R s m args below meth c H1 locs1 cells slots Q (F0 m (pc + 3) ls rest)) : W p l e R s m args below meth c H locs cells slots Q (F0 m pc ls (.int x :: .ref (ad (5 + i)) :: rest)) := by
  obtain ⟨hx, hb, -, hown, hT, hE, -, hi9, -⟩ := K
  refine va_put (D := Z.1) (ci := 2) (v := .int x) (ty := .int) (C := RX1) (T := TX1) (N := 9) (ref := "Ferrytax$Receipt") hx hb hT i_X1 tyX1 tyX1_ok nmX1 hown hE.1 hP (c_D hi9) hS (5 + i) (by rw [iw_at (by omega)]; exact congrArg (fun e => some (ad (5 + i), e)) (ct_R hi)) rfl 1 (by decide) (hT (.fieldLink RX3 76 "Ferrytax$Receipt" "traveller" "I") (fx_w 79 (by decide +kernel) rfl)) (fun _ h9 => h9) rfl (by decide +kernel) rfl rfl (Nat.le_of_ble_eq_true rfl) hdg fun H1 locs1 hP1 _ hS1 => ?_
  rw [cF_sR (k := 3) (x := x) hi (by decide) (by simp [u2_at])] at hP1
  exact kk _ H1 locs1 rfl hP1 hS1
theorem cgR_price {i : Nat} (K : c_K p l s m args c cc nL Z ad) (hP : va_P Z.1 vwCl (iw 115 (cF ad Z.2.1 g)) H) (hi : i < 60) (hdg : decode cc pc = .ok (.getfield 79, 3)) (kk : W p l e R s m args below meth c H locs cells slots Q (F0 m (pc + 3) ls (.int (g 4 i) :: rest))) : W p l e R s m args below meth c H locs cells slots Q (F0 m pc ls (.ref (ad (5 + i)) :: rest)) := by
  obtain ⟨hx, hb, -, hown, hT, hE, -⟩ := K
  exact va_get (D := Z.1) (ci := 2) (v := .int (g 4 i)) (C := RX1) (T := TX1) (N := 9) (ref := "Ferrytax$Receipt") hx hb hT i_X1 hown hE.1 hP (5 + i) (by rw [iw_at (by omega)]; exact congrArg (fun e => some (ad (5 + i), e)) (ct_R hi)) rfl 2 (by decide) (hT (.fieldLink RX3 79 "Ferrytax$Receipt" "price" "I") (fx_w 80 (by decide +kernel) rfl)) (fun _ h9 => h9) rfl hdg kk
theorem cpR_price {i : Nat} {x : Int32} (K : c_K p l s m args c cc nL Z ad) (hP : va_P Z.1 vwCl (iw 115 (cF ad Z.2.1 g)) H) (hS : va_S (fx_A 115 ad s.heap.size) s.heap H locs) (hi : i < 60) (hdg : decode cc pc = .ok (.putfield 79, 3))
    (kk : ∀ (g1 : St) (H1 : Heap) (locs1 : List Loc), g1 = u2 g 4 i x → va_P Z.1 vwCl (iw 115 (cF ad Z.2.1 g1)) H1 → va_S (fx_A 115 ad s.heap.size) s.heap H1 locs1 → W p l e R s m args below meth c H1 locs1 cells slots Q (F0 m (pc + 3) ls rest)) : W p l e R s m args below meth c H locs cells slots Q (F0 m pc ls (.int x :: .ref (ad (5 + i)) :: rest)) := by
  obtain ⟨hx, hb, -, hown, hT, hE, -, hi9, -⟩ := K
  refine va_put (D := Z.1) (ci := 2) (v := .int x) (ty := .int) (C := RX1) (T := TX1) (N := 9) (ref := "Ferrytax$Receipt") hx hb hT i_X1 tyX1 tyX1_ok nmX1 hown hE.1 hP (c_D hi9) hS (5 + i) (by rw [iw_at (by omega)]; exact congrArg (fun e => some (ad (5 + i), e)) (ct_R hi)) rfl 2 (by decide) (hT (.fieldLink RX3 79 "Ferrytax$Receipt" "price" "I") (fx_w 80 (by decide +kernel) rfl)) (fun _ h9 => h9) rfl (by decide +kernel) rfl rfl (Nat.le_of_ble_eq_true rfl) hdg fun H1 locs1 hP1 _ hS1 => ?_
  rw [cF_sR (k := 4) (x := x) hi (by decide) (by simp [u2_at])] at hP1
  exact kk _ H1 locs1 rfl hP1 hS1
theorem cgR_tax {i : Nat} (K : c_K p l s m args c cc nL Z ad) (hP : va_P Z.1 vwCl (iw 115 (cF ad Z.2.1 g)) H) (hi : i < 60) (hdg : decode cc pc = .ok (.getfield 82, 3)) (kk : W p l e R s m args below meth c H locs cells slots Q (F0 m (pc + 3) ls (.int (g 5 i) :: rest))) : W p l e R s m args below meth c H locs cells slots Q (F0 m pc ls (.ref (ad (5 + i)) :: rest)) := by
  obtain ⟨hx, hb, -, hown, hT, hE, -⟩ := K
  exact va_get (D := Z.1) (ci := 2) (v := .int (g 5 i)) (C := RX1) (T := TX1) (N := 9) (ref := "Ferrytax$Receipt") hx hb hT i_X1 hown hE.1 hP (5 + i) (by rw [iw_at (by omega)]; exact congrArg (fun e => some (ad (5 + i), e)) (ct_R hi)) rfl 3 (by decide) (hT (.fieldLink RX3 82 "Ferrytax$Receipt" "tax" "I") (fx_w 81 (by decide +kernel) rfl)) (fun _ h9 => h9) rfl hdg kk
theorem cpR_tax {i : Nat} {x : Int32} (K : c_K p l s m args c cc nL Z ad) (hP : va_P Z.1 vwCl (iw 115 (cF ad Z.2.1 g)) H) (hS : va_S (fx_A 115 ad s.heap.size) s.heap H locs) (hi : i < 60) (hdg : decode cc pc = .ok (.putfield 82, 3))
    (kk : ∀ (g1 : St) (H1 : Heap) (locs1 : List Loc), g1 = u2 g 5 i x → va_P Z.1 vwCl (iw 115 (cF ad Z.2.1 g1)) H1 → va_S (fx_A 115 ad s.heap.size) s.heap H1 locs1 → W p l e R s m args below meth c H1 locs1 cells slots Q (F0 m (pc + 3) ls rest)) : W p l e R s m args below meth c H locs cells slots Q (F0 m pc ls (.int x :: .ref (ad (5 + i)) :: rest)) := by
  obtain ⟨hx, hb, -, hown, hT, hE, -, hi9, -⟩ := K
  refine va_put (D := Z.1) (ci := 2) (v := .int x) (ty := .int) (C := RX1) (T := TX1) (N := 9) (ref := "Ferrytax$Receipt") hx hb hT i_X1 tyX1 tyX1_ok nmX1 hown hE.1 hP (c_D hi9) hS (5 + i) (by rw [iw_at (by omega)]; exact congrArg (fun e => some (ad (5 + i), e)) (ct_R hi)) rfl 3 (by decide) (hT (.fieldLink RX3 82 "Ferrytax$Receipt" "tax" "I") (fx_w 81 (by decide +kernel) rfl)) (fun _ h9 => h9) rfl (by decide +kernel) rfl rfl (Nat.le_of_ble_eq_true rfl) hdg fun H1 locs1 hP1 _ hS1 => ?_
  rw [cF_sR (k := 5) (x := x) hi (by decide) (by simp [u2_at])] at hP1
  exact kk _ H1 locs1 rfl hP1 hS1
theorem cgR_boughtAt {i : Nat} (K : c_K p l s m args c cc nL Z ad) (hP : va_P Z.1 vwCl (iw 115 (cF ad Z.2.1 g)) H) (hi : i < 60) (hdg : decode cc pc = .ok (.getfield 85, 3)) (kk : W p l e R s m args below meth c H locs cells slots Q (F0 m (pc + 3) ls (.int (g 6 i) :: rest))) : W p l e R s m args below meth c H locs cells slots Q (F0 m pc ls (.ref (ad (5 + i)) :: rest)) := by
  obtain ⟨hx, hb, -, hown, hT, hE, -⟩ := K
  exact va_get (D := Z.1) (ci := 2) (v := .int (g 6 i)) (C := RX1) (T := TX1) (N := 9) (ref := "Ferrytax$Receipt") hx hb hT i_X1 hown hE.1 hP (5 + i) (by rw [iw_at (by omega)]; exact congrArg (fun e => some (ad (5 + i), e)) (ct_R hi)) rfl 4 (by decide) (hT (.fieldLink RX3 85 "Ferrytax$Receipt" "boughtAt" "I") (fx_w 82 (by decide +kernel) rfl)) (fun _ h9 => h9) rfl hdg kk
theorem cpR_boughtAt {i : Nat} {x : Int32} (K : c_K p l s m args c cc nL Z ad) (hP : va_P Z.1 vwCl (iw 115 (cF ad Z.2.1 g)) H) (hS : va_S (fx_A 115 ad s.heap.size) s.heap H locs) (hi : i < 60) (hdg : decode cc pc = .ok (.putfield 85, 3))
    (kk : ∀ (g1 : St) (H1 : Heap) (locs1 : List Loc), g1 = u2 g 6 i x → va_P Z.1 vwCl (iw 115 (cF ad Z.2.1 g1)) H1 → va_S (fx_A 115 ad s.heap.size) s.heap H1 locs1 → W p l e R s m args below meth c H1 locs1 cells slots Q (F0 m (pc + 3) ls rest)) : W p l e R s m args below meth c H locs cells slots Q (F0 m pc ls (.int x :: .ref (ad (5 + i)) :: rest)) := by
  obtain ⟨hx, hb, -, hown, hT, hE, -, hi9, -⟩ := K
  refine va_put (D := Z.1) (ci := 2) (v := .int x) (ty := .int) (C := RX1) (T := TX1) (N := 9) (ref := "Ferrytax$Receipt") hx hb hT i_X1 tyX1 tyX1_ok nmX1 hown hE.1 hP (c_D hi9) hS (5 + i) (by rw [iw_at (by omega)]; exact congrArg (fun e => some (ad (5 + i), e)) (ct_R hi)) rfl 4 (by decide) (hT (.fieldLink RX3 85 "Ferrytax$Receipt" "boughtAt" "I") (fx_w 82 (by decide +kernel) rfl)) (fun _ h9 => h9) rfl (by decide +kernel) rfl rfl (Nat.le_of_ble_eq_true rfl) hdg fun H1 locs1 hP1 _ hS1 => ?_
  rw [cF_sR (k := 6) (x := x) hi (by decide) (by simp [u2_at])] at hP1
  exact kk _ H1 locs1 rfl hP1 hS1
theorem cgR_state {i : Nat} (K : c_K p l s m args c cc nL Z ad) (hP : va_P Z.1 vwCl (iw 115 (cF ad Z.2.1 g)) H) (hi : i < 60) (hdg : decode cc pc = .ok (.getfield 88, 3)) (kk : W p l e R s m args below meth c H locs cells slots Q (F0 m (pc + 3) ls (.int (g 7 i) :: rest))) : W p l e R s m args below meth c H locs cells slots Q (F0 m pc ls (.ref (ad (5 + i)) :: rest)) := by
  obtain ⟨hx, hb, -, hown, hT, hE, -⟩ := K
  exact va_get (D := Z.1) (ci := 2) (v := .int (g 7 i)) (C := RX1) (T := TX1) (N := 9) (ref := "Ferrytax$Receipt") hx hb hT i_X1 hown hE.1 hP (5 + i) (by rw [iw_at (by omega)]; exact congrArg (fun e => some (ad (5 + i), e)) (ct_R hi)) rfl 5 (by decide) (hT (.fieldLink RX3 88 "Ferrytax$Receipt" "state" "I") (fx_w 83 (by decide +kernel) rfl)) (fun _ h9 => h9) rfl hdg kk
theorem cpR_state {i : Nat} {x : Int32} (K : c_K p l s m args c cc nL Z ad) (hP : va_P Z.1 vwCl (iw 115 (cF ad Z.2.1 g)) H) (hS : va_S (fx_A 115 ad s.heap.size) s.heap H locs) (hi : i < 60) (hdg : decode cc pc = .ok (.putfield 88, 3))
    (kk : ∀ (g1 : St) (H1 : Heap) (locs1 : List Loc), g1 = u2 g 7 i x → va_P Z.1 vwCl (iw 115 (cF ad Z.2.1 g1)) H1 → va_S (fx_A 115 ad s.heap.size) s.heap H1 locs1 → W p l e R s m args below meth c H1 locs1 cells slots Q (F0 m (pc + 3) ls rest)) : W p l e R s m args below meth c H locs cells slots Q (F0 m pc ls (.int x :: .ref (ad (5 + i)) :: rest)) := by
  obtain ⟨hx, hb, -, hown, hT, hE, -, hi9, -⟩ := K
  refine va_put (D := Z.1) (ci := 2) (v := .int x) (ty := .int) (C := RX1) (T := TX1) (N := 9) (ref := "Ferrytax$Receipt") hx hb hT i_X1 tyX1 tyX1_ok nmX1 hown hE.1 hP (c_D hi9) hS (5 + i) (by rw [iw_at (by omega)]; exact congrArg (fun e => some (ad (5 + i), e)) (ct_R hi)) rfl 5 (by decide) (hT (.fieldLink RX3 88 "Ferrytax$Receipt" "state" "I") (fx_w 83 (by decide +kernel) rfl)) (fun _ h9 => h9) rfl (by decide +kernel) rfl rfl (Nat.le_of_ble_eq_true rfl) hdg fun H1 locs1 hP1 _ hS1 => ?_
  rw [cF_sR (k := 7) (x := x) hi (by decide) (by simp [u2_at])] at hP1
  exact kk _ H1 locs1 rfl hP1 hS1
theorem cgR_stampedFor {i : Nat} (K : c_K p l s m args c cc nL Z ad) (hP : va_P Z.1 vwCl (iw 115 (cF ad Z.2.1 g)) H) (hi : i < 60) (hdg : decode cc pc = .ok (.getfield 91, 3)) (kk : W p l e R s m args below meth c H locs cells slots Q (F0 m (pc + 3) ls (.int (g 8 i) :: rest))) : W p l e R s m args below meth c H locs cells slots Q (F0 m pc ls (.ref (ad (5 + i)) :: rest)) := by
  obtain ⟨hx, hb, -, hown, hT, hE, -⟩ := K
  exact va_get (D := Z.1) (ci := 2) (v := .int (g 8 i)) (C := RX1) (T := TX1) (N := 9) (ref := "Ferrytax$Receipt") hx hb hT i_X1 hown hE.1 hP (5 + i) (by rw [iw_at (by omega)]; exact congrArg (fun e => some (ad (5 + i), e)) (ct_R hi)) rfl 6 (by decide) (hT (.fieldLink RX3 91 "Ferrytax$Receipt" "stampedFor" "I") (fx_w 84 (by decide +kernel) rfl)) (fun _ h9 => h9) rfl hdg kk
theorem cpR_stampedFor {i : Nat} {x : Int32} (K : c_K p l s m args c cc nL Z ad) (hP : va_P Z.1 vwCl (iw 115 (cF ad Z.2.1 g)) H) (hS : va_S (fx_A 115 ad s.heap.size) s.heap H locs) (hi : i < 60) (hdg : decode cc pc = .ok (.putfield 91, 3))
    (kk : ∀ (g1 : St) (H1 : Heap) (locs1 : List Loc), g1 = u2 g 8 i x → va_P Z.1 vwCl (iw 115 (cF ad Z.2.1 g1)) H1 → va_S (fx_A 115 ad s.heap.size) s.heap H1 locs1 → W p l e R s m args below meth c H1 locs1 cells slots Q (F0 m (pc + 3) ls rest)) : W p l e R s m args below meth c H locs cells slots Q (F0 m pc ls (.int x :: .ref (ad (5 + i)) :: rest)) := by
  obtain ⟨hx, hb, -, hown, hT, hE, -, hi9, -⟩ := K
  refine va_put (D := Z.1) (ci := 2) (v := .int x) (ty := .int) (C := RX1) (T := TX1) (N := 9) (ref := "Ferrytax$Receipt") hx hb hT i_X1 tyX1 tyX1_ok nmX1 hown hE.1 hP (c_D hi9) hS (5 + i) (by rw [iw_at (by omega)]; exact congrArg (fun e => some (ad (5 + i), e)) (ct_R hi)) rfl 6 (by decide) (hT (.fieldLink RX3 91 "Ferrytax$Receipt" "stampedFor" "I") (fx_w 84 (by decide +kernel) rfl)) (fun _ h9 => h9) rfl (by decide +kernel) rfl rfl (Nat.le_of_ble_eq_true rfl) hdg fun H1 locs1 hP1 _ hS1 => ?_
  rw [cF_sR (k := 8) (x := x) hi (by decide) (by simp [u2_at])] at hP1
  exact kk _ H1 locs1 rfl hP1 hS1
theorem cgR_refund {i : Nat} (K : c_K p l s m args c cc nL Z ad) (hP : va_P Z.1 vwCl (iw 115 (cF ad Z.2.1 g)) H) (hi : i < 60) (hdg : decode cc pc = .ok (.getfield 186, 3)) (kk : W p l e R s m args below meth c H locs cells slots Q (F0 m (pc + 3) ls (.int (g 9 i) :: rest))) : W p l e R s m args below meth c H locs cells slots Q (F0 m pc ls (.ref (ad (5 + i)) :: rest)) := by
  obtain ⟨hx, hb, -, hown, hT, hE, -⟩ := K
  exact va_get (D := Z.1) (ci := 2) (v := .int (g 9 i)) (C := RX1) (T := TX1) (N := 9) (ref := "Ferrytax$Receipt") hx hb hT i_X1 hown hE.1 hP (5 + i) (by rw [iw_at (by omega)]; exact congrArg (fun e => some (ad (5 + i), e)) (ct_R hi)) rfl 7 (by decide) (hT (.fieldLink RX3 186 "Ferrytax$Receipt" "refund" "I") (fx_w 85 (by decide +kernel) rfl)) (fun _ h9 => h9) rfl hdg kk
theorem cpR_refund {i : Nat} {x : Int32} (K : c_K p l s m args c cc nL Z ad) (hP : va_P Z.1 vwCl (iw 115 (cF ad Z.2.1 g)) H) (hS : va_S (fx_A 115 ad s.heap.size) s.heap H locs) (hi : i < 60) (hdg : decode cc pc = .ok (.putfield 186, 3))
    (kk : ∀ (g1 : St) (H1 : Heap) (locs1 : List Loc), g1 = u2 g 9 i x → va_P Z.1 vwCl (iw 115 (cF ad Z.2.1 g1)) H1 → va_S (fx_A 115 ad s.heap.size) s.heap H1 locs1 → W p l e R s m args below meth c H1 locs1 cells slots Q (F0 m (pc + 3) ls rest)) : W p l e R s m args below meth c H locs cells slots Q (F0 m pc ls (.int x :: .ref (ad (5 + i)) :: rest)) := by
  obtain ⟨hx, hb, -, hown, hT, hE, -, hi9, -⟩ := K
  refine va_put (D := Z.1) (ci := 2) (v := .int x) (ty := .int) (C := RX1) (T := TX1) (N := 9) (ref := "Ferrytax$Receipt") hx hb hT i_X1 tyX1 tyX1_ok nmX1 hown hE.1 hP (c_D hi9) hS (5 + i) (by rw [iw_at (by omega)]; exact congrArg (fun e => some (ad (5 + i), e)) (ct_R hi)) rfl 7 (by decide) (hT (.fieldLink RX3 186 "Ferrytax$Receipt" "refund" "I") (fx_w 85 (by decide +kernel) rfl)) (fun _ h9 => h9) rfl (by decide +kernel) rfl rfl (Nat.le_of_ble_eq_true rfl) hdg fun H1 locs1 hP1 _ hS1 => ?_
  rw [cF_sR (k := 9) (x := x) hi (by decide) (by simp [u2_at])] at hP1
  exact kk _ H1 locs1 rfl hP1 hS1
theorem cgR_wastedStamps {i : Nat} (K : c_K p l s m args c cc nL Z ad) (hP : va_P Z.1 vwCl (iw 115 (cF ad Z.2.1 g)) H) (hi : i < 60) (hdg : decode cc pc = .ok (.getfield 270, 3)) (kk : W p l e R s m args below meth c H locs cells slots Q (F0 m (pc + 3) ls (.int (g 10 i) :: rest))) : W p l e R s m args below meth c H locs cells slots Q (F0 m pc ls (.ref (ad (5 + i)) :: rest)) := by
  obtain ⟨hx, hb, -, hown, hT, hE, -⟩ := K
  exact va_get (D := Z.1) (ci := 2) (v := .int (g 10 i)) (C := RX1) (T := TX1) (N := 9) (ref := "Ferrytax$Receipt") hx hb hT i_X1 hown hE.1 hP (5 + i) (by rw [iw_at (by omega)]; exact congrArg (fun e => some (ad (5 + i), e)) (ct_R hi)) rfl 8 (by decide) (hT (.fieldLink RX3 270 "Ferrytax$Receipt" "wastedStamps" "I") (fx_w 86 (by decide +kernel) rfl)) (fun _ h9 => h9) rfl hdg kk
theorem cpR_wastedStamps {i : Nat} {x : Int32} (K : c_K p l s m args c cc nL Z ad) (hP : va_P Z.1 vwCl (iw 115 (cF ad Z.2.1 g)) H) (hS : va_S (fx_A 115 ad s.heap.size) s.heap H locs) (hi : i < 60) (hdg : decode cc pc = .ok (.putfield 270, 3))
    (kk : ∀ (g1 : St) (H1 : Heap) (locs1 : List Loc), g1 = u2 g 10 i x → va_P Z.1 vwCl (iw 115 (cF ad Z.2.1 g1)) H1 → va_S (fx_A 115 ad s.heap.size) s.heap H1 locs1 → W p l e R s m args below meth c H1 locs1 cells slots Q (F0 m (pc + 3) ls rest)) : W p l e R s m args below meth c H locs cells slots Q (F0 m pc ls (.int x :: .ref (ad (5 + i)) :: rest)) := by
  obtain ⟨hx, hb, -, hown, hT, hE, -, hi9, -⟩ := K
  refine va_put (D := Z.1) (ci := 2) (v := .int x) (ty := .int) (C := RX1) (T := TX1) (N := 9) (ref := "Ferrytax$Receipt") hx hb hT i_X1 tyX1 tyX1_ok nmX1 hown hE.1 hP (c_D hi9) hS (5 + i) (by rw [iw_at (by omega)]; exact congrArg (fun e => some (ad (5 + i), e)) (ct_R hi)) rfl 8 (by decide) (hT (.fieldLink RX3 270 "Ferrytax$Receipt" "wastedStamps" "I") (fx_w 86 (by decide +kernel) rfl)) (fun _ h9 => h9) rfl (by decide +kernel) rfl rfl (Nat.le_of_ble_eq_true rfl) hdg fun H1 locs1 hP1 _ hS1 => ?_
  rw [cF_sR (k := 10) (x := x) hi (by decide) (by simp [u2_at])] at hP1
  exact kk _ H1 locs1 rfl hP1 hS1
theorem cgF_sailsAt {f : Nat} (K : c_K p l s m args c cc nL Z ad) (hP : va_P Z.1 vwCl (iw 115 (cF ad Z.2.1 g)) H) (hf : f < 20) (hdg : decode cc pc = .ok (.getfield 110, 3)) (kk : W p l e R s m args below meth c H locs cells slots Q (F0 m (pc + 3) ls (.int (g 11 f) :: rest))) : W p l e R s m args below meth c H locs cells slots Q (F0 m pc ls (.ref (ad (65 + f)) :: rest)) := by
  obtain ⟨hx, hb, -, hown, hT, hE, -⟩ := K
  exact va_get (D := Z.1) (ci := 1) (v := .int (g 11 f)) (C := RX0) (T := TX0) (N := 3) (ref := "Ferrytax$Ferry") hx hb hT i_X0 hown hE.1 hP (65 + f) (by rw [iw_at (by omega)]; exact congrArg (fun e => some (ad (65 + f), e)) (ct_F hf)) rfl 0 (by decide) (hT (.fieldLink RX3 110 "Ferrytax$Ferry" "sailsAt" "I") (fx_w 112 (by decide +kernel) rfl)) (fun _ h9 => h9) rfl hdg kk
theorem cpF_sailsAt {f : Nat} {x : Int32} (K : c_K p l s m args c cc nL Z ad) (hP : va_P Z.1 vwCl (iw 115 (cF ad Z.2.1 g)) H) (hS : va_S (fx_A 115 ad s.heap.size) s.heap H locs) (hf : f < 20) (hdg : decode cc pc = .ok (.putfield 110, 3))
    (kk : ∀ (g1 : St) (H1 : Heap) (locs1 : List Loc), g1 = u2 g 11 f x → va_P Z.1 vwCl (iw 115 (cF ad Z.2.1 g1)) H1 → va_S (fx_A 115 ad s.heap.size) s.heap H1 locs1 → W p l e R s m args below meth c H1 locs1 cells slots Q (F0 m (pc + 3) ls rest)) : W p l e R s m args below meth c H locs cells slots Q (F0 m pc ls (.int x :: .ref (ad (65 + f)) :: rest)) := by
  obtain ⟨hx, hb, -, hown, hT, hE, -, hi9, -⟩ := K
  refine va_put (D := Z.1) (ci := 1) (v := .int x) (ty := .int) (C := RX0) (T := TX0) (N := 3) (ref := "Ferrytax$Ferry") hx hb hT i_X0 tyX0 tyX0_ok nmX0 hown hE.1 hP (c_D hi9) hS (65 + f) (by rw [iw_at (by omega)]; exact congrArg (fun e => some (ad (65 + f), e)) (ct_F hf)) rfl 0 (by decide) (hT (.fieldLink RX3 110 "Ferrytax$Ferry" "sailsAt" "I") (fx_w 112 (by decide +kernel) rfl)) (fun _ h9 => h9) rfl (by decide +kernel) rfl rfl (Nat.le_of_ble_eq_true rfl) hdg fun H1 locs1 hP1 _ hS1 => ?_
  rw [cF_sF (k := 11) (x := x) hf (by decide) (by simp [u2_at])] at hP1
  exact kk _ H1 locs1 rfl hP1 hS1
theorem cgF_seats {f : Nat} (K : c_K p l s m args c cc nL Z ad) (hP : va_P Z.1 vwCl (iw 115 (cF ad Z.2.1 g)) H) (hf : f < 20) (hdg : decode cc pc = .ok (.getfield 113, 3)) (kk : W p l e R s m args below meth c H locs cells slots Q (F0 m (pc + 3) ls (.int (g 12 f) :: rest))) : W p l e R s m args below meth c H locs cells slots Q (F0 m pc ls (.ref (ad (65 + f)) :: rest)) := by
  obtain ⟨hx, hb, -, hown, hT, hE, -⟩ := K
  exact va_get (D := Z.1) (ci := 1) (v := .int (g 12 f)) (C := RX0) (T := TX0) (N := 3) (ref := "Ferrytax$Ferry") hx hb hT i_X0 hown hE.1 hP (65 + f) (by rw [iw_at (by omega)]; exact congrArg (fun e => some (ad (65 + f), e)) (ct_F hf)) rfl 1 (by decide) (hT (.fieldLink RX3 113 "Ferrytax$Ferry" "seats" "I") (fx_w 113 (by decide +kernel) rfl)) (fun _ h9 => h9) rfl hdg kk
theorem cpF_seats {f : Nat} {x : Int32} (K : c_K p l s m args c cc nL Z ad) (hP : va_P Z.1 vwCl (iw 115 (cF ad Z.2.1 g)) H) (hS : va_S (fx_A 115 ad s.heap.size) s.heap H locs) (hf : f < 20) (hdg : decode cc pc = .ok (.putfield 113, 3))
    (kk : ∀ (g1 : St) (H1 : Heap) (locs1 : List Loc), g1 = u2 g 12 f x → va_P Z.1 vwCl (iw 115 (cF ad Z.2.1 g1)) H1 → va_S (fx_A 115 ad s.heap.size) s.heap H1 locs1 → W p l e R s m args below meth c H1 locs1 cells slots Q (F0 m (pc + 3) ls rest)) : W p l e R s m args below meth c H locs cells slots Q (F0 m pc ls (.int x :: .ref (ad (65 + f)) :: rest)) := by
  obtain ⟨hx, hb, -, hown, hT, hE, -, hi9, -⟩ := K
  refine va_put (D := Z.1) (ci := 1) (v := .int x) (ty := .int) (C := RX0) (T := TX0) (N := 3) (ref := "Ferrytax$Ferry") hx hb hT i_X0 tyX0 tyX0_ok nmX0 hown hE.1 hP (c_D hi9) hS (65 + f) (by rw [iw_at (by omega)]; exact congrArg (fun e => some (ad (65 + f), e)) (ct_F hf)) rfl 1 (by decide) (hT (.fieldLink RX3 113 "Ferrytax$Ferry" "seats" "I") (fx_w 113 (by decide +kernel) rfl)) (fun _ h9 => h9) rfl (by decide +kernel) rfl rfl (Nat.le_of_ble_eq_true rfl) hdg fun H1 locs1 hP1 _ hS1 => ?_
  rw [cF_sF (k := 12) (x := x) hf (by decide) (by simp [u2_at])] at hP1
  exact kk _ H1 locs1 rfl hP1 hS1
theorem cgF_places {f : Nat} (K : c_K p l s m args c cc nL Z ad) (hP : va_P Z.1 vwCl (iw 115 (cF ad Z.2.1 g)) H) (hf : f < 20) (hdg : decode cc pc = .ok (.getfield 124, 3)) (kk : W p l e R s m args below meth c H locs cells slots Q (F0 m (pc + 3) ls (.ref (ad (85 + f)) :: rest))) : W p l e R s m args below meth c H locs cells slots Q (F0 m pc ls (.ref (ad (65 + f)) :: rest)) := by
  obtain ⟨hx, hb, -, hown, hT, hE, -⟩ := K
  exact va_get (D := Z.1) (ci := 1) (v := .ref (ad (85 + f))) (C := RX0) (T := TX0) (N := 3) (ref := "Ferrytax$Ferry") hx hb hT i_X0 hown hE.1 hP (65 + f) (by rw [iw_at (by omega)]; exact congrArg (fun e => some (ad (65 + f), e)) (ct_F hf)) rfl 2 (by decide) (hT (.fieldLink RX3 124 "Ferrytax$Ferry" "places" "[I") (fx_w 115 (by decide +kernel) rfl)) (fun _ h9 => h9) rfl hdg kk
theorem cgT_refunds {t : Nat} (K : c_K p l s m args c cc nL Z ad) (hP : va_P Z.1 vwCl (iw 115 (cF ad Z.2.1 g)) H) (ht : t < 10) (hdg : decode cc pc = .ok (.getfield 218, 3)) (kk : W p l e R s m args below meth c H locs cells slots Q (F0 m (pc + 3) ls (.int (g 20 t) :: rest))) : W p l e R s m args below meth c H locs cells slots Q (F0 m pc ls (.ref (ad (105 + t)) :: rest)) := by
  obtain ⟨hx, hb, -, hown, hT, hE, -⟩ := K
  exact va_get (D := Z.1) (ci := 3) (v := .int (g 20 t)) (C := RX2) (T := TX2) (N := 5) (ref := "Ferrytax$Traveller") hx hb hT i_X2 hown hE.1 hP (105 + t) (by rw [iw_at (by omega)]; exact congrArg (fun e => some (ad (105 + t), e)) ct_T) rfl 0 (by decide) (hT (.fieldLink RX3 218 "Ferrytax$Traveller" "refunds" "I") (fx_w 128 (by decide +kernel) rfl)) (fun _ h9 => h9) rfl hdg kk
theorem cpT_refunds {t : Nat} {x : Int32} (K : c_K p l s m args c cc nL Z ad) (hP : va_P Z.1 vwCl (iw 115 (cF ad Z.2.1 g)) H) (hS : va_S (fx_A 115 ad s.heap.size) s.heap H locs) (ht : t < 10) (hdg : decode cc pc = .ok (.putfield 218, 3))
    (kk : ∀ (g1 : St) (H1 : Heap) (locs1 : List Loc), g1 = u2 g 20 t x → va_P Z.1 vwCl (iw 115 (cF ad Z.2.1 g1)) H1 → va_S (fx_A 115 ad s.heap.size) s.heap H1 locs1 → W p l e R s m args below meth c H1 locs1 cells slots Q (F0 m (pc + 3) ls rest)) : W p l e R s m args below meth c H locs cells slots Q (F0 m pc ls (.int x :: .ref (ad (105 + t)) :: rest)) := by
  obtain ⟨hx, hb, -, hown, hT, hE, -, hi9, -⟩ := K
  refine va_put (D := Z.1) (ci := 3) (v := .int x) (ty := .int) (C := RX2) (T := TX2) (N := 5) (ref := "Ferrytax$Traveller") hx hb hT i_X2 tyX2 tyX2_ok nmX2 hown hE.1 hP (c_D hi9) hS (105 + t) (by rw [iw_at (by omega)]; exact congrArg (fun e => some (ad (105 + t), e)) ct_T) rfl 0 (by decide) (hT (.fieldLink RX3 218 "Ferrytax$Traveller" "refunds" "I") (fx_w 128 (by decide +kernel) rfl)) (fun _ h9 => h9) rfl (by decide +kernel) rfl rfl (Nat.le_of_ble_eq_true rfl) hdg fun H1 locs1 hP1 _ hS1 => ?_
  rw [cF_sT (k := 20) (x := x) ht (by decide) (by simp [u2_at])] at hP1
  exact kk _ H1 locs1 rfl hP1 hS1
theorem cgT_fines {t : Nat} (K : c_K p l s m args c cc nL Z ad) (hP : va_P Z.1 vwCl (iw 115 (cF ad Z.2.1 g)) H) (ht : t < 10) (hdg : decode cc pc = .ok (.getfield 167, 3)) (kk : W p l e R s m args below meth c H locs cells slots Q (F0 m (pc + 3) ls (.int (g 19 t) :: rest))) : W p l e R s m args below meth c H locs cells slots Q (F0 m pc ls (.ref (ad (105 + t)) :: rest)) := by
  obtain ⟨hx, hb, -, hown, hT, hE, -⟩ := K
  exact va_get (D := Z.1) (ci := 3) (v := .int (g 19 t)) (C := RX2) (T := TX2) (N := 5) (ref := "Ferrytax$Traveller") hx hb hT i_X2 hown hE.1 hP (105 + t) (by rw [iw_at (by omega)]; exact congrArg (fun e => some (ad (105 + t), e)) ct_T) rfl 1 (by decide) (hT (.fieldLink RX3 167 "Ferrytax$Traveller" "fines" "I") (fx_w 129 (by decide +kernel) rfl)) (fun _ h9 => h9) rfl hdg kk
theorem cpT_fines {t : Nat} {x : Int32} (K : c_K p l s m args c cc nL Z ad) (hP : va_P Z.1 vwCl (iw 115 (cF ad Z.2.1 g)) H) (hS : va_S (fx_A 115 ad s.heap.size) s.heap H locs) (ht : t < 10) (hdg : decode cc pc = .ok (.putfield 167, 3))
    (kk : ∀ (g1 : St) (H1 : Heap) (locs1 : List Loc), g1 = u2 g 19 t x → va_P Z.1 vwCl (iw 115 (cF ad Z.2.1 g1)) H1 → va_S (fx_A 115 ad s.heap.size) s.heap H1 locs1 → W p l e R s m args below meth c H1 locs1 cells slots Q (F0 m (pc + 3) ls rest)) : W p l e R s m args below meth c H locs cells slots Q (F0 m pc ls (.int x :: .ref (ad (105 + t)) :: rest)) := by
  obtain ⟨hx, hb, -, hown, hT, hE, -, hi9, -⟩ := K
  refine va_put (D := Z.1) (ci := 3) (v := .int x) (ty := .int) (C := RX2) (T := TX2) (N := 5) (ref := "Ferrytax$Traveller") hx hb hT i_X2 tyX2 tyX2_ok nmX2 hown hE.1 hP (c_D hi9) hS (105 + t) (by rw [iw_at (by omega)]; exact congrArg (fun e => some (ad (105 + t), e)) ct_T) rfl 1 (by decide) (hT (.fieldLink RX3 167 "Ferrytax$Traveller" "fines" "I") (fx_w 129 (by decide +kernel) rfl)) (fun _ h9 => h9) rfl (by decide +kernel) rfl rfl (Nat.le_of_ble_eq_true rfl) hdg fun H1 locs1 hP1 _ hS1 => ?_
  rw [cF_sT (k := 19) (x := x) ht (by decide) (by simp [u2_at])] at hP1
  exact kk _ H1 locs1 rfl hP1 hS1
theorem cgT_missed {t : Nat} (K : c_K p l s m args c cc nL Z ad) (hP : va_P Z.1 vwCl (iw 115 (cF ad Z.2.1 g)) H) (ht : t < 10) (hdg : decode cc pc = .ok (.getfield 221, 3)) (kk : W p l e R s m args below meth c H locs cells slots Q (F0 m (pc + 3) ls (.int (g 18 t) :: rest))) : W p l e R s m args below meth c H locs cells slots Q (F0 m pc ls (.ref (ad (105 + t)) :: rest)) := by
  obtain ⟨hx, hb, -, hown, hT, hE, -⟩ := K
  exact va_get (D := Z.1) (ci := 3) (v := .int (g 18 t)) (C := RX2) (T := TX2) (N := 5) (ref := "Ferrytax$Traveller") hx hb hT i_X2 hown hE.1 hP (105 + t) (by rw [iw_at (by omega)]; exact congrArg (fun e => some (ad (105 + t), e)) ct_T) rfl 2 (by decide) (hT (.fieldLink RX3 221 "Ferrytax$Traveller" "missed" "I") (fx_w 130 (by decide +kernel) rfl)) (fun _ h9 => h9) rfl hdg kk
theorem cpT_missed {t : Nat} {x : Int32} (K : c_K p l s m args c cc nL Z ad) (hP : va_P Z.1 vwCl (iw 115 (cF ad Z.2.1 g)) H) (hS : va_S (fx_A 115 ad s.heap.size) s.heap H locs) (ht : t < 10) (hdg : decode cc pc = .ok (.putfield 221, 3))
    (kk : ∀ (g1 : St) (H1 : Heap) (locs1 : List Loc), g1 = u2 g 18 t x → va_P Z.1 vwCl (iw 115 (cF ad Z.2.1 g1)) H1 → va_S (fx_A 115 ad s.heap.size) s.heap H1 locs1 → W p l e R s m args below meth c H1 locs1 cells slots Q (F0 m (pc + 3) ls rest)) : W p l e R s m args below meth c H locs cells slots Q (F0 m pc ls (.int x :: .ref (ad (105 + t)) :: rest)) := by
  obtain ⟨hx, hb, -, hown, hT, hE, -, hi9, -⟩ := K
  refine va_put (D := Z.1) (ci := 3) (v := .int x) (ty := .int) (C := RX2) (T := TX2) (N := 5) (ref := "Ferrytax$Traveller") hx hb hT i_X2 tyX2 tyX2_ok nmX2 hown hE.1 hP (c_D hi9) hS (105 + t) (by rw [iw_at (by omega)]; exact congrArg (fun e => some (ad (105 + t), e)) ct_T) rfl 2 (by decide) (hT (.fieldLink RX3 221 "Ferrytax$Traveller" "missed" "I") (fx_w 130 (by decide +kernel) rfl)) (fun _ h9 => h9) rfl (by decide +kernel) rfl rfl (Nat.le_of_ble_eq_true rfl) hdg fun H1 locs1 hP1 _ hS1 => ?_
  rw [cF_sT (k := 18) (x := x) ht (by decide) (by simp [u2_at])] at hP1
  exact kk _ H1 locs1 rfl hP1 hS1
theorem cgT_timesLeft {t : Nat} (K : c_K p l s m args c cc nL Z ad) (hP : va_P Z.1 vwCl (iw 115 (cF ad Z.2.1 g)) H) (ht : t < 10) (hdg : decode cc pc = .ok (.getfield 176, 3)) (kk : W p l e R s m args below meth c H locs cells slots Q (F0 m (pc + 3) ls (.int (g 17 t) :: rest))) : W p l e R s m args below meth c H locs cells slots Q (F0 m pc ls (.ref (ad (105 + t)) :: rest)) := by
  obtain ⟨hx, hb, -, hown, hT, hE, -⟩ := K
  exact va_get (D := Z.1) (ci := 3) (v := .int (g 17 t)) (C := RX2) (T := TX2) (N := 5) (ref := "Ferrytax$Traveller") hx hb hT i_X2 hown hE.1 hP (105 + t) (by rw [iw_at (by omega)]; exact congrArg (fun e => some (ad (105 + t), e)) ct_T) rfl 3 (by decide) (hT (.fieldLink RX3 176 "Ferrytax$Traveller" "timesLeft" "I") (fx_w 131 (by decide +kernel) rfl)) (fun _ h9 => h9) rfl hdg kk
theorem cpT_timesLeft {t : Nat} {x : Int32} (K : c_K p l s m args c cc nL Z ad) (hP : va_P Z.1 vwCl (iw 115 (cF ad Z.2.1 g)) H) (hS : va_S (fx_A 115 ad s.heap.size) s.heap H locs) (ht : t < 10) (hdg : decode cc pc = .ok (.putfield 176, 3))
    (kk : ∀ (g1 : St) (H1 : Heap) (locs1 : List Loc), g1 = u2 g 17 t x → va_P Z.1 vwCl (iw 115 (cF ad Z.2.1 g1)) H1 → va_S (fx_A 115 ad s.heap.size) s.heap H1 locs1 → W p l e R s m args below meth c H1 locs1 cells slots Q (F0 m (pc + 3) ls rest)) : W p l e R s m args below meth c H locs cells slots Q (F0 m pc ls (.int x :: .ref (ad (105 + t)) :: rest)) := by
  obtain ⟨hx, hb, -, hown, hT, hE, -, hi9, -⟩ := K
  refine va_put (D := Z.1) (ci := 3) (v := .int x) (ty := .int) (C := RX2) (T := TX2) (N := 5) (ref := "Ferrytax$Traveller") hx hb hT i_X2 tyX2 tyX2_ok nmX2 hown hE.1 hP (c_D hi9) hS (105 + t) (by rw [iw_at (by omega)]; exact congrArg (fun e => some (ad (105 + t), e)) ct_T) rfl 3 (by decide) (hT (.fieldLink RX3 176 "Ferrytax$Traveller" "timesLeft" "I") (fx_w 131 (by decide +kernel) rfl)) (fun _ h9 => h9) rfl (by decide +kernel) rfl rfl (Nat.le_of_ble_eq_true rfl) hdg fun H1 locs1 hP1 _ hS1 => ?_
  rw [cF_sT (k := 17) (x := x) ht (by decide) (by simp [u2_at])] at hP1
  exact kk _ H1 locs1 rfl hP1 hS1
theorem cgT_left {t : Nat} (K : c_K p l s m args c cc nL Z ad) (hP : va_P Z.1 vwCl (iw 115 (cF ad Z.2.1 g)) H) (ht : t < 10) (hdg : decode cc pc = .ok (.getfield 170, 3)) (kk : W p l e R s m args below meth c H locs cells slots Q (F0 m (pc + 3) ls (.int (g 16 t) :: rest))) : W p l e R s m args below meth c H locs cells slots Q (F0 m pc ls (.ref (ad (105 + t)) :: rest)) := by
  obtain ⟨hx, hb, -, hown, hT, hE, -⟩ := K
  exact va_get (D := Z.1) (ci := 3) (v := .int (g 16 t)) (C := RX2) (T := TX2) (N := 5) (ref := "Ferrytax$Traveller") hx hb hT i_X2 hown hE.1 hP (105 + t) (by rw [iw_at (by omega)]; exact congrArg (fun e => some (ad (105 + t), e)) ct_T) rfl 4 (by decide) (hT (.fieldLink RX3 170 "Ferrytax$Traveller" "left" "Z") (fx_w 132 (by decide +kernel) rfl)) (fun _ h9 => h9) rfl hdg kk
theorem cpT_left {t : Nat} {x : Int32} (K : c_K p l s m args c cc nL Z ad) (hP : va_P Z.1 vwCl (iw 115 (cF ad Z.2.1 g)) H) (hS : va_S (fx_A 115 ad s.heap.size) s.heap H locs) (ht : t < 10) (hn : narrow .boolean (.int x) = .int x) (hfi : fits .boolean (.int x) = true) (hdg : decode cc pc = .ok (.putfield 170, 3))
    (kk : ∀ (g1 : St) (H1 : Heap) (locs1 : List Loc), g1 = u2 g 16 t x → va_P Z.1 vwCl (iw 115 (cF ad Z.2.1 g1)) H1 → va_S (fx_A 115 ad s.heap.size) s.heap H1 locs1 → W p l e R s m args below meth c H1 locs1 cells slots Q (F0 m (pc + 3) ls rest)) : W p l e R s m args below meth c H locs cells slots Q (F0 m pc ls (.int x :: .ref (ad (105 + t)) :: rest)) := by
  obtain ⟨hx, hb, -, hown, hT, hE, -, hi9, -⟩ := K
  refine va_put (D := Z.1) (ci := 3) (v := .int x) (ty := .boolean) (C := RX2) (T := TX2) (N := 5) (ref := "Ferrytax$Traveller") hx hb hT i_X2 tyX2 tyX2_ok nmX2 hown hE.1 hP (c_D hi9) hS (105 + t) (by rw [iw_at (by omega)]; exact congrArg (fun e => some (ad (105 + t), e)) ct_T) rfl 4 (by decide) (hT (.fieldLink RX3 170 "Ferrytax$Traveller" "left" "Z") (fx_w 132 (by decide +kernel) rfl)) (fun _ h9 => h9) rfl (by decide +kernel) hn hfi (Nat.le_of_ble_eq_true rfl) hdg fun H1 locs1 hP1 _ hS1 => ?_
  rw [cF_sT (k := 16) (x := x) ht (by decide) (by simp [u2_at])] at hP1
  exact kk _ H1 locs1 rfl hP1 hS1
theorem c_aldR {i : Nat} (K : c_K p l s m args c cc nL Z ad) (hP : va_P Z.1 vwCl (iw 115 (cF ad Z.2.1 g)) H) (hi : i < 60) (hdg : decode cc pc = .ok (.aaload, 1)) (kk : W p l e R s m args below meth c H locs cells slots Q (F0 m (pc + 1) ls (.ref (ad (5 + i)) :: rest))) : W p l e R s m args below meth c H locs cells slots Q (F0 m pc ls (.int (nI i) :: .ref (ad 2) :: rest)) := by
  obtain ⟨hx, hb, -, hown, hT, hE, -⟩ := K
  refine va_aldq (n := 60) (f := fun i => some (ad (5 + i))) hx hb hE.1 hP 2 1 (by rw [iw_at (by decide)]; rfl) rfl (vp_in_nI hi (by decide)) hdg ?_
  show W p l e R s m args below meth c H locs cells slots Q (F0 m (pc + 1) ls (.ref (ad (5 + (nI i).toNatClampNeg)) :: rest))
  rw [nI_clamp (by omega)]
  exact kk
theorem c_aldF {i : Nat} (K : c_K p l s m args c cc nL Z ad) (hP : va_P Z.1 vwCl (iw 115 (cF ad Z.2.1 g)) H) (hi : i < 20) (hdg : decode cc pc = .ok (.aaload, 1)) (kk : W p l e R s m args below meth c H locs cells slots Q (F0 m (pc + 1) ls (.ref (ad (65 + i)) :: rest))) : W p l e R s m args below meth c H locs cells slots Q (F0 m pc ls (.int (nI i) :: .ref (ad 3) :: rest)) := by
  obtain ⟨hx, hb, -, hown, hT, hE, -⟩ := K
  refine va_aldq (n := 20) (f := fun i => some (ad (65 + i))) hx hb hE.1 hP 3 2 (by rw [iw_at (by decide)]; rfl) rfl (vp_in_nI hi (by decide)) hdg ?_
  show W p l e R s m args below meth c H locs cells slots Q (F0 m (pc + 1) ls (.ref (ad (65 + (nI i).toNatClampNeg)) :: rest))
  rw [nI_clamp (by omega)]
  exact kk
theorem c_aldT {i : Nat} (K : c_K p l s m args c cc nL Z ad) (hP : va_P Z.1 vwCl (iw 115 (cF ad Z.2.1 g)) H) (hi : i < 10) (hdg : decode cc pc = .ok (.aaload, 1)) (kk : W p l e R s m args below meth c H locs cells slots Q (F0 m (pc + 1) ls (.ref (ad (105 + i)) :: rest))) : W p l e R s m args below meth c H locs cells slots Q (F0 m pc ls (.int (nI i) :: .ref (ad 4) :: rest)) := by
  obtain ⟨hx, hb, -, hown, hT, hE, -⟩ := K
  refine va_aldq (n := 10) (f := fun i => some (ad (105 + i))) hx hb hE.1 hP 4 3 (by rw [iw_at (by decide)]; rfl) rfl (vp_in_nI hi (by decide)) hdg ?_
  show W p l e R s m args below meth c H locs cells slots Q (F0 m (pc + 1) ls (.ref (ad (105 + (nI i).toNatClampNeg)) :: rest))
  rw [nI_clamp (by omega)]
  exact kk
theorem c_ald1 {i : Nat} (K : c_K p l s m args c cc nL Z ad) (hP : va_P Z.1 vwCl (iw 115 (cF ad Z.2.1 g)) H) (hi : i < 4) (hdg : decode cc pc = .ok (.iaload, 1)) (kk : W p l e R s m args below meth c H locs cells slots Q (F0 m (pc + 1) ls (.int (g 1 i) :: rest))) : W p l e R s m args below meth c H locs cells slots Q (F0 m pc ls (.int (nI i) :: .ref (ad (1)) :: rest)) := by
  obtain ⟨hx, hb, -, hown, hT, hE, -⟩ := K
  refine va_iald (n := 4) (f := g 1) hx hb hE.1 hP (1) 0 (by rw [iw_at (by omega)]; exact rfl) rfl (vp_in_nI hi (by decide)) hdg ?_
  rw [nI_clamp (by omega)]
  exact kk
theorem c_ast1 {i : Nat} {x : Int32} (K : c_K p l s m args c cc nL Z ad) (hP : va_P Z.1 vwCl (iw 115 (cF ad Z.2.1 g)) H) (hS : va_S (fx_A 115 ad s.heap.size) s.heap H locs) (hi : i < 4) (hdg : decode cc pc = .ok (.iastore, 1))
    (kk : ∀ (g1 : St) (H1 : Heap) (locs1 : List Loc), g1 = u2 g 1 i x → va_P Z.1 vwCl (iw 115 (cF ad Z.2.1 g1)) H1 → va_S (fx_A 115 ad s.heap.size) s.heap H1 locs1 → W p l e R s m args below meth c H1 locs1 cells slots Q (F0 m (pc + 1) ls rest)) : W p l e R s m args below meth c H locs cells slots Q (F0 m pc ls (.int x :: .int (nI i) :: .ref (ad (1)) :: rest)) := by
  obtain ⟨hx, hb, -, hown, hT, hE, -, hi9, -⟩ := K
  refine va_iast (n := 4) (f := g 1) hx hb hE.1 hP (c_D hi9) hS (1) 0 (by rw [iw_at (by omega)]; exact rfl) rfl (vp_in_nI hi (by decide)) hdg fun H1 locs1 hP1 _ hS1 => ?_
  rw [nI_clamp (by omega), cF_s1] at hP1
  exact kk _ H1 locs1 rfl hP1 hS1
theorem c_aldP {f : Nat} {i : Nat} (K : c_K p l s m args c cc nL Z ad) (hP : va_P Z.1 vwCl (iw 115 (cF ad Z.2.1 g)) H) (hf : f < 20) (hi : i < 10) (hdg : decode cc pc = .ok (.iaload, 1)) (kk : W p l e R s m args below meth c H locs cells slots Q (F0 m (pc + 1) ls (.int (g (30 + f) i) :: rest))) : W p l e R s m args below meth c H locs cells slots Q (F0 m pc ls (.int (nI i) :: .ref (ad (85 + f)) :: rest)) := by
  obtain ⟨hx, hb, -, hown, hT, hE, -⟩ := K
  refine va_iald (n := 10) (f := g (30 + f)) hx hb hE.1 hP (85 + f) 0 (by rw [iw_at (by omega)]; exact congrArg (fun e => some (ad (85 + f), e)) (ct_P hf)) rfl (vp_in_nI hi (by decide)) hdg ?_
  rw [nI_clamp (by omega)]
  exact kk
theorem c_astP {f : Nat} {i : Nat} {x : Int32} (K : c_K p l s m args c cc nL Z ad) (hP : va_P Z.1 vwCl (iw 115 (cF ad Z.2.1 g)) H) (hS : va_S (fx_A 115 ad s.heap.size) s.heap H locs) (hf : f < 20) (hi : i < 10) (hdg : decode cc pc = .ok (.iastore, 1))
    (kk : ∀ (g1 : St) (H1 : Heap) (locs1 : List Loc), g1 = u2 g (30 + f) i x → va_P Z.1 vwCl (iw 115 (cF ad Z.2.1 g1)) H1 → va_S (fx_A 115 ad s.heap.size) s.heap H1 locs1 → W p l e R s m args below meth c H1 locs1 cells slots Q (F0 m (pc + 1) ls rest)) : W p l e R s m args below meth c H locs cells slots Q (F0 m pc ls (.int x :: .int (nI i) :: .ref (ad (85 + f)) :: rest)) := by
  obtain ⟨hx, hb, -, hown, hT, hE, -, hi9, -⟩ := K
  refine va_iast (n := 10) (f := g (30 + f)) hx hb hE.1 hP (c_D hi9) hS (85 + f) 0 (by rw [iw_at (by omega)]; exact congrArg (fun e => some (ad (85 + f), e)) (ct_P hf)) rfl (vp_in_nI hi (by decide)) hdg fun H1 locs1 hP1 _ hS1 => ?_
  rw [nI_clamp (by omega), cF_sP hf] at hP1
  exact kk _ H1 locs1 rfl hP1 hS1
/-- a throw of the class: new, dup, ldc, invokespecial, athrow -/
theorem c_throw {cls text : String} {ik is ic mc ms : Nat} {Qc : Array Value → State → Outcome → State → Prop} {px : String → Prop} (K : c_K p l s m args c cc nL Z ad) (hlocks : meth.locks = false) (hout : ∀ x ∈ c.exceptionTable.toList, False) (hP : va_P Z.1 vwCl (iw 115 (cF ad Z.2.1 g)) H) (hS : va_S (fx_A 115 ad s.heap.size) s.heap H locs) (hls : ls.size = nL)
    (hk : Cond.classLink RX3 ik cls ∈ fx_ws) (hini : Cond.initialized cls ∈ fx_ws) (htx : (is, text) ∈ fx_tx) (hat : ∀ w ∈ vx_atS RX3 ic cls ["java/lang/RuntimeException", "java/lang/Exception"], w ∈ fx_ws ∨ w ∈ fx_wb) (hcls : Bundle.fit cls = true)
    (d0 : decode cc pc = .ok (.new ik, 3)) (d3 : decode cc (pc + 3) = .ok (.dup, 1)) (d4 : decode cc (pc + 4) = .ok (.ldc is, 2)) (d6 : decode cc (pc + 6) = .ok (.invokespecial ic, 3)) (d9 : decode cc (pc + 9) = .ok (.athrow, 1))
    (hR1 : 5 < R.frames) (hR2 : (rest.map fun v => v.category).sum + 82 ≤ R.locals) (hRc : cells + 1 ≤ R.cells) (hRs : slots + 6 ≤ R.slots) (hc : cells + 1 ≤ mc) (hs : slots + 6 ≤ ms) (hp : px cls) :
    W p l e R s m args below meth c H locs cells slots (vx_MQ below Qc (fx_px Z 115 ad (cF ad Z.2.1 g) px s.heap.size) args s mc ms (fx_A 115 ad s.heap.size)) (F0 m pc ls rest) := by
  obtain ⟨hx, hb, hml, hown, hT, hE, hSt, hi9, htr⟩ := K
  have hword : ∀ w, w ∈ fx_ws ∨ w ∈ fx_wb → w.before args s = true ∧ vx_ot w = true := by
    intro w hw
    rcases hw with hw | hw
    · exact ⟨hT w hw, by simp [vx_ot, fx_wg hw]⟩
    · exact ⟨va_Nw.use (fx_wbt w hw) (hE.2.2.1 w (List.mem_append_left _ hw)), by simp [vx_ot, fx_wbt w hw]⟩
  refine vx_throwS (names := ["java/lang/RuntimeException", "java/lang/Exception"]) (text := text) (sa := Z.2.2 is) hx hb htr hown hcls (by decide) (hT _ hk) (hT _ hini) (hE.2.1 _ htx) (fun w hw => (hword w (hat w hw)).1) ?_ hSt.1 hSt.2.1 hS (by rw [hls, hml]) d0 d3 d4 d6 d9 (fun x hx => absurd (hout x hx) id) hR1 hR2 hRc hRs hlocks ?_ hS.2.2 hc hs
  · intro w hw
    rcases List.mem_cons.mp hw with rfl | hw
    · exact (hword _ (Or.inl hk)).2
    · rcases List.mem_cons.mp hw with rfl | hw
      · exact (hword _ (Or.inl hini)).2
      · exact (hword w (hat w hw)).2
  · intro t hvm hz hk9
    have hP9 : va_P Z.1 vwCl (iw 115 (cF ad Z.2.1 g)) t.heap := fx_P_kept hP (cF_1 g) (fun k hk => hk9 _ (fx_P_lt hP hk))
    exact ⟨hp, hP9, Nat.le_trans hS.1 hz, fun q h1 h2 => by rw [hk9 q (Nat.lt_of_lt_of_le h1 hS.1)]; exact hS.2.1 q h1 h2⟩
end FXK
theorem xw_IOOBE : Cond.classLink RX3 191 "java/lang/IndexOutOfBoundsException" ∈ fx_ws := fx_w 179 (by decide +kernel) rfl
theorem xi_IOOBE : Cond.initialized "java/lang/IndexOutOfBoundsException" ∈ fx_ws := fx_w 45 (by decide +kernel) rfl
theorem xa_IOOBE : ∀ w ∈ vx_atS RX3 195 "java/lang/IndexOutOfBoundsException" ["java/lang/RuntimeException", "java/lang/Exception"], w ∈ fx_ws ∨ w ∈ fx_wb := by
  have h : (vx_atS RX3 195 "java/lang/IndexOutOfBoundsException" ["java/lang/RuntimeException", "java/lang/Exception"]).all (fun w => (decide (w ∈ lw_tbl) && goodWord w) || decide (w ∈ fx_wb)) = true := by decide +kernel
  intro w hw
  have h1 := List.all_eq_true.mp h w hw
  simp only [Bool.or_eq_true, Bool.and_eq_true, decide_eq_true_eq] at h1
  rcases h1 with h1 | h1
  · exact Or.inl (List.mem_filter.mpr h1)
  · exact Or.inr h1
theorem xw_IAE : Cond.classLink RX3 48 "java/lang/IllegalArgumentException" ∈ fx_ws := fx_w 247 (by decide +kernel) rfl
theorem xi_IAE : Cond.initialized "java/lang/IllegalArgumentException" ∈ fx_ws := fx_w 46 (by decide +kernel) rfl
theorem xa_IAE : ∀ w ∈ vx_atS RX3 52 "java/lang/IllegalArgumentException" ["java/lang/RuntimeException", "java/lang/Exception"], w ∈ fx_ws ∨ w ∈ fx_wb := by
  have h : (vx_atS RX3 52 "java/lang/IllegalArgumentException" ["java/lang/RuntimeException", "java/lang/Exception"]).all (fun w => (decide (w ∈ lw_tbl) && goodWord w) || decide (w ∈ fx_wb)) = true := by decide +kernel
  intro w hw
  have h1 := List.all_eq_true.mp h w hw
  simp only [Bool.or_eq_true, Bool.and_eq_true, decide_eq_true_eq] at h1
  rcases h1 with h1 | h1
  · exact Or.inl (List.mem_filter.mpr h1)
  · exact Or.inr h1
theorem xw_ISE : Cond.classLink RX3 68 "java/lang/IllegalStateException" ∈ fx_ws := fx_w 290 (by decide +kernel) rfl
theorem xi_ISE : Cond.initialized "java/lang/IllegalStateException" ∈ fx_ws := fx_w 47 (by decide +kernel) rfl
theorem xa_ISE : ∀ w ∈ vx_atS RX3 72 "java/lang/IllegalStateException" ["java/lang/RuntimeException", "java/lang/Exception"], w ∈ fx_ws ∨ w ∈ fx_wb := by
  have h : (vx_atS RX3 72 "java/lang/IllegalStateException" ["java/lang/RuntimeException", "java/lang/Exception"]).all (fun w => (decide (w ∈ lw_tbl) && goodWord w) || decide (w ∈ fx_wb)) = true := by decide +kernel
  intro w hw
  have h1 := List.all_eq_true.mp h w hw
  simp only [Bool.or_eq_true, Bool.and_eq_true, decide_eq_true_eq] at h1
  rcases h1 with h1 | h1
  · exact Or.inl (List.mem_filter.mpr h1)
  · exact Or.inr h1
