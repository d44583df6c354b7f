/-! ===== states: cells' contents by kind and place; the model's world ===== -/
abbrev St : Type := Nat → Nat → Int32
def u2 (g : St) (k i : Nat) (x : Int32) : St := fun k' => if k' = k then upd (g k) i x else g k'
theorem u2_k (g : St) (k i : Nat) (x : Int32) : u2 g k i x k = upd (g k) i x := if_pos rfl
theorem u2_ne (g : St) {k k' : Nat} (i : Nat) (x : Int32) (h : k' ≠ k) : u2 g k i x k' = g k' := if_neg h
theorem u2_at (g : St) (k i k' i' : Nat) (x : Int32) : u2 g k i x k' i' = if k' = k ∧ i' = i then x else g k' i' := by
  unfold u2
  by_cases h : k' = k
  · subst h
    rw [if_pos rfl]
    unfold upd
    by_cases h2 : i' = i
    · rw [if_pos h2, if_pos ⟨rfl, h2⟩]
    · rw [if_neg h2, if_neg (fun q => h2 q.2)]
  · rw [if_neg h, if_neg (fun q => h q.1)]
theorem u2_self (g : St) (k i : Nat) (x : Int32) : u2 g k i x k i = x := by rw [u2_at, if_pos ⟨rfl, rfl⟩]
theorem u2_off (g : St) {k i k' i' : Nat} (x : Int32) (h : ¬ (k' = k ∧ i' = i)) : u2 g k i x k' i' = g k' i' := by rw [u2_at, if_neg h]
def mlen (k : Nat) : Nat := if k = 1 then 4 else if k ≤ 10 then 60 else if k ≤ 14 then 20 else 10
def mct (am : Nat → Nat) (cI : ClassId) (h : St) (k : Nat) : va_E := if k = 0 then .inr (5, [.ref (am 1), .ref (am 2), .ref (am 3), .ref (am 4), .ref (am 5), .ref (am 6), .ref (am 7), .ref (am 8), .ref (am 9), .ref (am 10), .int (h 0 0), .ref (am 11), .ref (am 12), .ref (am 13), .ref (am 14), .int (h 0 1), .ref (am 15), .ref (am 16), .ref (am 17), .ref (am 18), .ref (am 19), .ref (am 20), .ref (am 21), .int (h 0 2), .int (h 0 3)]) else .inl (cI, mlen k, .inl (h k))
abbrev mF (am : Nat → Nat) (cI : ClassId) (h : St) (k : Nat) : Nat × va_E := (am k, mct am cI h k)
theorem mF_1 {am : Nat → Nat} {cI : ClassId} (h : St) : ∀ k, k < 22 → (mF am cI h k).1 = am k := fun _ _ => rfl
theorem mF_0 {am : Nat → Nat} {cI : ClassId} {h : St} : mF am cI h 0 = (am 0, .inr (5, [.ref (am 1), .ref (am 2), .ref (am 3), .ref (am 4), .ref (am 5), .ref (am 6), .ref (am 7), .ref (am 8), .ref (am 9), .ref (am 10), .int (h 0 0), .ref (am 11), .ref (am 12), .ref (am 13), .ref (am 14), .int (h 0 1), .ref (am 15), .ref (am 16), .ref (am 17), .ref (am 18), .ref (am 19), .ref (am 20), .ref (am 21), .int (h 0 2), .int (h 0 3)])) := rfl
theorem mF_a {am : Nat → Nat} {cI : ClassId} {h : St} {k : Nat} (hk : k ≠ 0) : mF am cI h k = (am k, .inl (cI, mlen k, .inl (h k))) := by
  show (am k, mct am cI h k) = _
  unfold mct
  rw [if_neg hk]
theorem mF_sa {am : Nat → Nat} {cI : ClassId} {h : St} {k i : Nat} {x : Int32} (hk : k < 22) (h0 : k ≠ 0) : (iw 22 (mF am cI h)).set k (am k, .inl (cI, mlen k, .inl (upd (h k) i x))) = iw 22 (mF am cI (u2 h k i x)) := by
  refine iw_set hk fun j hj => ?_
  by_cases e : j = k
  · subst e
    rw [if_pos rfl, mF_a h0, u2_k]
  · rw [if_neg e]
    by_cases e0 : j = 0
    · subst e0
      show (am 0, mct am cI (u2 h k i x) 0) = (am 0, mct am cI h 0)
      unfold mct
      rw [if_pos rfl, if_pos rfl, u2_ne h i x (Ne.symm h0)]
    · rw [mF_a e0, mF_a e0, u2_ne h i x e]
theorem mF_s0 {am : Nat → Nat} {cI : ClassId} {h h1 : St} {e : Nat × va_E} (hk : ∀ k, k ≠ 0 → h1 k = h k) (he : mF am cI h1 0 = e) : (iw 22 (mF am cI h)).set 0 e = iw 22 (mF am cI h1) := by
  refine iw_set (by decide) fun j hj => ?_
  by_cases e0 : j = 0
  · subst e0
    rw [if_pos rfl]; exact he
  · rw [if_neg e0, mF_a e0, mF_a e0, hk j e0]
theorem i_X4 : ∀ w ∈ wsX40, w ∈ fx_ws := by
  intro w hw
  obtain ⟨k, hk, rfl⟩ := List.mem_map.mp hw
  have hk : k < 25 := List.mem_range.mp hk
  have key : ∀ k, k < 25 → u_lay RX4 TX4 k ∈ fx_ws := by
    intro k hk
    match k, hk with
    | 0, _ => exact fx_w 711 (by decide +kernel) rfl
    | 1, _ => exact fx_w 713 (by decide +kernel) rfl
    | 2, _ => exact fx_w 715 (by decide +kernel) rfl
    | 3, _ => exact fx_w 717 (by decide +kernel) rfl
    | 4, _ => exact fx_w 719 (by decide +kernel) rfl
    | 5, _ => exact fx_w 721 (by decide +kernel) rfl
    | 6, _ => exact fx_w 723 (by decide +kernel) rfl
    | 7, _ => exact fx_w 725 (by decide +kernel) rfl
    | 8, _ => exact fx_w 727 (by decide +kernel) rfl
    | 9, _ => exact fx_w 729 (by decide +kernel) rfl
    | 10, _ => exact fx_w 731 (by decide +kernel) rfl
    | 11, _ => exact fx_w 733 (by decide +kernel) rfl
    | 12, _ => exact fx_w 735 (by decide +kernel) rfl
    | 13, _ => exact fx_w 737 (by decide +kernel) rfl
    | 14, _ => exact fx_w 739 (by decide +kernel) rfl
    | 15, _ => exact fx_w 741 (by decide +kernel) rfl
    | 16, _ => exact fx_w 743 (by decide +kernel) rfl
    | 17, _ => exact fx_w 745 (by decide +kernel) rfl
    | 18, _ => exact fx_w 747 (by decide +kernel) rfl
    | 19, _ => exact fx_w 749 (by decide +kernel) rfl
    | 20, _ => exact fx_w 751 (by decide +kernel) rfl
    | 21, _ => exact fx_w 753 (by decide +kernel) rfl
    | 22, _ => exact fx_w 755 (by decide +kernel) rfl
    | 23, _ => exact fx_w 757 (by decide +kernel) rfl
    | 24, _ => exact fx_w 759 (by decide +kernel) rfl
    | k + 25, h => exact absurd h (by omega)
  exact key k hk
section FXM
variable {p : Program} {l : Launch} {e : Env} {R : Room} {s : State} {m : MethodId} {args : Array Value} {below : List Frame} {meth : Method} {c : Code} {H : Heap} {locs : List Loc} {cells slots : Nat} {Q : State → Prop}
variable {Z : fx_Z} {am : Nat → Nat} {cc : ByteArray} {pc nL : Nat} {ls : Array Slot} {rest : List Value} {h : St}
/-- the standing facts of a method of the model -/
def m_K (p : Program) (s : State) (m : MethodId) (args : Array Value) (c : Code) (cc : ByteArray) (nL : Nat) (Z : fx_Z) (am : Nat → Nat) : Prop :=
  p.tables.exec = Jvm.exec ∧ c.code = cc ∧ c.maxLocals = nL ∧ s.vm.findClass RX4 = some m.cls ∧ (∀ w ∈ fx_ws, w.before args s = true) ∧ fx_E Z s ∧ fx_S (fx_A 22 am s.heap.size) s s.heap ∧ fx_inj 22 am
theorem m_A {k : Nat} (hk : k < 22) : fx_A 22 am s.heap.size (am k) := Or.inl ⟨k, hk, rfl⟩
theorem m_A2 : ∀ q, s.heap.size ≤ q → fx_A 22 am s.heap.size q := fun q h => Or.inr h
theorem m_D (hi : fx_inj 22 am) : va_D (fx_A 22 am s.heap.size) (iw 22 (mF am (Z.2.1 0) h)) := fx_D hi (mF_1 h) (fun k hk => m_A hk)
theorem mr_ald {k i n : Nat} (K : m_K p s m args c cc nL Z am) (hP : va_P Z.1 vwCl (iw 22 (mF am (Z.2.1 0) h)) H) (hk : k < 22) (h0 : k ≠ 0) (hn : mlen k = n) (hi : i < n) (hn2 : n < 2 ^ 31) (hdg : decode cc pc = .ok (.iaload, 1))
    (kk : W p l e R s m args below meth c H locs cells slots Q (F0 m (pc + 1) ls (.int (h k i) :: rest))) : W p l e R s m args below meth c H locs cells slots Q (F0 m pc ls (.int (nI i) :: .ref (am k) :: rest)) := by
  obtain ⟨hx, hb, -, -, -, hE, -⟩ := K
  refine va_iald hx hb hE.1 hP k 0 (by rw [iw_at hk, mF_a h0]) rfl (by rw [hn]; exact vp_in_nI hi hn2) hdg ?_
  rw [nI_clamp (Nat.lt_trans hi hn2)]
  exact kk
theorem mr_ast {k i n : Nat} {x : Int32} (K : m_K p s m args c cc nL Z am) (hP : va_P Z.1 vwCl (iw 22 (mF am (Z.2.1 0) h)) H) (hS : va_S (fx_A 22 am s.heap.size) s.heap H locs) (hk : k < 22) (h0 : k ≠ 0) (hn : mlen k = n) (hi : i < n) (hn2 : n < 2 ^ 31) (hdg : decode cc pc = .ok (.iastore, 1))
    (kk : ∀ (h1 : St) (H1 : Heap) (locs1 : List Loc), h1 = u2 h k i x → va_P Z.1 vwCl (iw 22 (mF am (Z.2.1 0) h1)) H1 → va_S (fx_A 22 am s.heap.size) s.heap H1 locs1 → W p l e R s m args below meth c H1 locs1 cells slots Q (F0 m (pc + 1) ls rest)) : W p l e R s m args below meth c H locs cells slots Q (F0 m pc ls (.int x :: .int (nI i) :: .ref (am k) :: rest)) := by
  obtain ⟨hx, hb, -, -, -, hE, -, hi9⟩ := K
  refine va_iast hx hb hE.1 hP (m_D hi9) hS k 0 (n := mlen k) (f := h k) (by rw [iw_at hk, mF_a h0]) rfl (by rw [hn]; exact vp_in_nI hi hn2) hdg fun H1 locs1 hP1 _ hS1 => ?_
  rw [nI_clamp (Nat.lt_trans hi hn2), mF_sa hk h0] at hP1
  exact kk _ H1 locs1 rfl hP1 hS1
theorem m_recv (K : m_K p s m args c cc nL Z am) (hP : va_P Z.1 vwCl (iw 22 (mF am (Z.2.1 0) h)) H) : ∃ cellB : Cell, H[am 0]? = some cellB ∧ cellB.vm.isStatics = false ∧ s.vm.findClass RX4 = some cellB.cls :=
  va_recv K.2.2.2.2.2.1.1 hP (ci := 5) (q0 := 0) (q := (RX4, TX4, 25)) rfl (by rw [iw_at (by decide), mF_0])
theorem mg_rate (K : m_K p s m args c cc nL Z am) (hP : va_P Z.1 vwCl (iw 22 (mF am (Z.2.1 0) h)) H) (hdg : decode cc pc = .ok (.getfield 7, 3)) (kk : W p l e R s m args below meth c H locs cells slots Q (F0 m (pc + 3) ls (.ref (am 1) :: rest))) : W p l e R s m args below meth c H locs cells slots Q (F0 m pc ls (.ref (am 0) :: rest)) := by
  obtain ⟨hx, hb, -, hown, hT, hE, -⟩ := K
  exact va_get (D := Z.1) (ci := 5) (v := .ref (am 1)) (C := RX4) (T := TX4) (N := 25) (ref := "FerrytaxModel") hx hb hT i_X4 hown hE.1 hP 0 (by rw [iw_at (by decide), mF_0]) rfl 0 (by decide) (hT (.fieldLink RX4 7 "FerrytaxModel" "rate" "[I") (fx_w 686 (by decide +kernel) rfl)) (fun _ h9 => h9) rfl hdg kk
theorem mg_rs (K : m_K p s m args c cc nL Z am) (hP : va_P Z.1 vwCl (iw 22 (mF am (Z.2.1 0) h)) H) (hdg : decode cc pc = .ok (.getfield 13, 3)) (kk : W p l e R s m args below meth c H locs cells slots Q (F0 m (pc + 3) ls (.ref (am 2) :: rest))) : W p l e R s m args below meth c H locs cells slots Q (F0 m pc ls (.ref (am 0) :: rest)) := by
  obtain ⟨hx, hb, -, hown, hT, hE, -⟩ := K
  exact va_get (D := Z.1) (ci := 5) (v := .ref (am 2)) (C := RX4) (T := TX4) (N := 25) (ref := "FerrytaxModel") hx hb hT i_X4 hown hE.1 hP 0 (by rw [iw_at (by decide), mF_0]) rfl 1 (by decide) (hT (.fieldLink RX4 13 "FerrytaxModel" "rs" "[I") (fx_w 687 (by decide +kernel) rfl)) (fun _ h9 => h9) rfl hdg kk
theorem mg_rt (K : m_K p s m args c cc nL Z am) (hP : va_P Z.1 vwCl (iw 22 (mF am (Z.2.1 0) h)) H) (hdg : decode cc pc = .ok (.getfield 16, 3)) (kk : W p l e R s m args below meth c H locs cells slots Q (F0 m (pc + 3) ls (.ref (am 3) :: rest))) : W p l e R s m args below meth c H locs cells slots Q (F0 m pc ls (.ref (am 0) :: rest)) := by
  obtain ⟨hx, hb, -, hown, hT, hE, -⟩ := K
  exact va_get (D := Z.1) (ci := 5) (v := .ref (am 3)) (C := RX4) (T := TX4) (N := 25) (ref := "FerrytaxModel") hx hb hT i_X4 hown hE.1 hP 0 (by rw [iw_at (by decide), mF_0]) rfl 2 (by decide) (hT (.fieldLink RX4 16 "FerrytaxModel" "rt" "[I") (fx_w 688 (by decide +kernel) rfl)) (fun _ h9 => h9) rfl hdg kk
theorem mg_rp (K : m_K p s m args c cc nL Z am) (hP : va_P Z.1 vwCl (iw 22 (mF am (Z.2.1 0) h)) H) (hdg : decode cc pc = .ok (.getfield 19, 3)) (kk : W p l e R s m args below meth c H locs cells slots Q (F0 m (pc + 3) ls (.ref (am 4) :: rest))) : W p l e R s m args below meth c H locs cells slots Q (F0 m pc ls (.ref (am 0) :: rest)) := by
  obtain ⟨hx, hb, -, hown, hT, hE, -⟩ := K
  exact va_get (D := Z.1) (ci := 5) (v := .ref (am 4)) (C := RX4) (T := TX4) (N := 25) (ref := "FerrytaxModel") hx hb hT i_X4 hown hE.1 hP 0 (by rw [iw_at (by decide), mF_0]) rfl 3 (by decide) (hT (.fieldLink RX4 19 "FerrytaxModel" "rp" "[I") (fx_w 689 (by decide +kernel) rfl)) (fun _ h9 => h9) rfl hdg kk
theorem mg_rx (K : m_K p s m args c cc nL Z am) (hP : va_P Z.1 vwCl (iw 22 (mF am (Z.2.1 0) h)) H) (hdg : decode cc pc = .ok (.getfield 22, 3)) (kk : W p l e R s m args below meth c H locs cells slots Q (F0 m (pc + 3) ls (.ref (am 5) :: rest))) : W p l e R s m args below meth c H locs cells slots Q (F0 m pc ls (.ref (am 0) :: rest)) := by
  obtain ⟨hx, hb, -, hown, hT, hE, -⟩ := K
  exact va_get (D := Z.1) (ci := 5) (v := .ref (am 5)) (C := RX4) (T := TX4) (N := 25) (ref := "FerrytaxModel") hx hb hT i_X4 hown hE.1 hP 0 (by rw [iw_at (by decide), mF_0]) rfl 4 (by decide) (hT (.fieldLink RX4 22 "FerrytaxModel" "rx" "[I") (fx_w 690 (by decide +kernel) rfl)) (fun _ h9 => h9) rfl hdg kk
theorem mg_rh (K : m_K p s m args c cc nL Z am) (hP : va_P Z.1 vwCl (iw 22 (mF am (Z.2.1 0) h)) H) (hdg : decode cc pc = .ok (.getfield 25, 3)) (kk : W p l e R s m args below meth c H locs cells slots Q (F0 m (pc + 3) ls (.ref (am 6) :: rest))) : W p l e R s m args below meth c H locs cells slots Q (F0 m pc ls (.ref (am 0) :: rest)) := by
  obtain ⟨hx, hb, -, hown, hT, hE, -⟩ := K
  exact va_get (D := Z.1) (ci := 5) (v := .ref (am 6)) (C := RX4) (T := TX4) (N := 25) (ref := "FerrytaxModel") hx hb hT i_X4 hown hE.1 hP 0 (by rw [iw_at (by decide), mF_0]) rfl 5 (by decide) (hT (.fieldLink RX4 25 "FerrytaxModel" "rh" "[I") (fx_w 691 (by decide +kernel) rfl)) (fun _ h9 => h9) rfl hdg kk
theorem mg_rk (K : m_K p s m args c cc nL Z am) (hP : va_P Z.1 vwCl (iw 22 (mF am (Z.2.1 0) h)) H) (hdg : decode cc pc = .ok (.getfield 28, 3)) (kk : W p l e R s m args below meth c H locs cells slots Q (F0 m (pc + 3) ls (.ref (am 7) :: rest))) : W p l e R s m args below meth c H locs cells slots Q (F0 m pc ls (.ref (am 0) :: rest)) := by
  obtain ⟨hx, hb, -, hown, hT, hE, -⟩ := K
  exact va_get (D := Z.1) (ci := 5) (v := .ref (am 7)) (C := RX4) (T := TX4) (N := 25) (ref := "FerrytaxModel") hx hb hT i_X4 hown hE.1 hP 0 (by rw [iw_at (by decide), mF_0]) rfl 6 (by decide) (hT (.fieldLink RX4 28 "FerrytaxModel" "rk" "[I") (fx_w 692 (by decide +kernel) rfl)) (fun _ h9 => h9) rfl hdg kk
theorem mg_rf (K : m_K p s m args c cc nL Z am) (hP : va_P Z.1 vwCl (iw 22 (mF am (Z.2.1 0) h)) H) (hdg : decode cc pc = .ok (.getfield 31, 3)) (kk : W p l e R s m args below meth c H locs cells slots Q (F0 m (pc + 3) ls (.ref (am 8) :: rest))) : W p l e R s m args below meth c H locs cells slots Q (F0 m pc ls (.ref (am 0) :: rest)) := by
  obtain ⟨hx, hb, -, hown, hT, hE, -⟩ := K
  exact va_get (D := Z.1) (ci := 5) (v := .ref (am 8)) (C := RX4) (T := TX4) (N := 25) (ref := "FerrytaxModel") hx hb hT i_X4 hown hE.1 hP 0 (by rw [iw_at (by decide), mF_0]) rfl 7 (by decide) (hT (.fieldLink RX4 31 "FerrytaxModel" "rf" "[I") (fx_w 693 (by decide +kernel) rfl)) (fun _ h9 => h9) rfl hdg kk
theorem mg_rr (K : m_K p s m args c cc nL Z am) (hP : va_P Z.1 vwCl (iw 22 (mF am (Z.2.1 0) h)) H) (hdg : decode cc pc = .ok (.getfield 34, 3)) (kk : W p l e R s m args below meth c H locs cells slots Q (F0 m (pc + 3) ls (.ref (am 9) :: rest))) : W p l e R s m args below meth c H locs cells slots Q (F0 m pc ls (.ref (am 0) :: rest)) := by
  obtain ⟨hx, hb, -, hown, hT, hE, -⟩ := K
  exact va_get (D := Z.1) (ci := 5) (v := .ref (am 9)) (C := RX4) (T := TX4) (N := 25) (ref := "FerrytaxModel") hx hb hT i_X4 hown hE.1 hP 0 (by rw [iw_at (by decide), mF_0]) rfl 8 (by decide) (hT (.fieldLink RX4 34 "FerrytaxModel" "rr" "[I") (fx_w 694 (by decide +kernel) rfl)) (fun _ h9 => h9) rfl hdg kk
theorem mg_rn (K : m_K p s m args c cc nL Z am) (hP : va_P Z.1 vwCl (iw 22 (mF am (Z.2.1 0) h)) H) (hdg : decode cc pc = .ok (.getfield 37, 3)) (kk : W p l e R s m args below meth c H locs cells slots Q (F0 m (pc + 3) ls (.ref (am 10) :: rest))) : W p l e R s m args below meth c H locs cells slots Q (F0 m pc ls (.ref (am 0) :: rest)) := by
  obtain ⟨hx, hb, -, hown, hT, hE, -⟩ := K
  exact va_get (D := Z.1) (ci := 5) (v := .ref (am 10)) (C := RX4) (T := TX4) (N := 25) (ref := "FerrytaxModel") hx hb hT i_X4 hown hE.1 hP 0 (by rw [iw_at (by decide), mF_0]) rfl 9 (by decide) (hT (.fieldLink RX4 37 "FerrytaxModel" "rn" "[I") (fx_w 695 (by decide +kernel) rfl)) (fun _ h9 => h9) rfl hdg kk
theorem mg_receipts (K : m_K p s m args c cc nL Z am) (hP : va_P Z.1 vwCl (iw 22 (mF am (Z.2.1 0) h)) H) (hdg : decode cc pc = .ok (.getfield 77, 3)) (kk : W p l e R s m args below meth c H locs cells slots Q (F0 m (pc + 3) ls (.int (h 0 0) :: rest))) : W p l e R s m args below meth c H locs cells slots Q (F0 m pc ls (.ref (am 0) :: rest)) := by
  obtain ⟨hx, hb, -, hown, hT, hE, -⟩ := K
  exact va_get (D := Z.1) (ci := 5) (v := .int (h 0 0)) (C := RX4) (T := TX4) (N := 25) (ref := "FerrytaxModel") hx hb hT i_X4 hown hE.1 hP 0 (by rw [iw_at (by decide), mF_0]) rfl 10 (by decide) (hT (.fieldLink RX4 77 "FerrytaxModel" "receipts" "I") (fx_w 696 (by decide +kernel) rfl)) (fun _ h9 => h9) rfl hdg kk
theorem mp_receipts {x : Int32} (K : m_K p s m args c cc nL Z am) (hP : va_P Z.1 vwCl (iw 22 (mF am (Z.2.1 0) h)) H) (hS : va_S (fx_A 22 am s.heap.size) s.heap H locs) (hdg : decode cc pc = .ok (.putfield 77, 3))
    (kk : ∀ (h1 : St) (H1 : Heap) (locs1 : List Loc), h1 = u2 h 0 0 x → va_P Z.1 vwCl (iw 22 (mF am (Z.2.1 0) h1)) H1 → va_S (fx_A 22 am s.heap.size) s.heap H1 locs1 → W p l e R s m args below meth c H1 locs1 cells slots Q (F0 m (pc + 3) ls rest)) : W p l e R s m args below meth c H locs cells slots Q (F0 m pc ls (.int x :: .ref (am 0) :: rest)) := by
  obtain ⟨hx, hb, -, hown, hT, hE, -, hi9⟩ := K
  refine va_put (D := Z.1) (ci := 5) (v := .int x) (ty := .int) (C := RX4) (T := TX4) (N := 25) (ref := "FerrytaxModel") hx hb hT i_X4 tyX4 tyX4_ok nmX4 hown hE.1 hP (m_D hi9) hS 0 (by rw [iw_at (by decide), mF_0]) rfl 10 (by decide) (hT (.fieldLink RX4 77 "FerrytaxModel" "receipts" "I") (fx_w 696 (by decide +kernel) rfl)) (fun _ h9 => h9) rfl (by decide +kernel) rfl rfl (Nat.le_of_ble_eq_true rfl) hdg fun H1 locs1 hP1 _ hS1 => ?_
  rw [mF_s0 (h1 := u2 h 0 0 x) (fun k hk => u2_ne h 0 x hk) (by rw [mF_0, u2_k]; simp [upd])] at hP1
  exact kk _ H1 locs1 rfl hP1 hS1
theorem mg_fh (K : m_K p s m args c cc nL Z am) (hP : va_P Z.1 vwCl (iw 22 (mF am (Z.2.1 0) h)) H) (hdg : decode cc pc = .ok (.getfield 40, 3)) (kk : W p l e R s m args below meth c H locs cells slots Q (F0 m (pc + 3) ls (.ref (am 11) :: rest))) : W p l e R s m args below meth c H locs cells slots Q (F0 m pc ls (.ref (am 0) :: rest)) := by
  obtain ⟨hx, hb, -, hown, hT, hE, -⟩ := K
  exact va_get (D := Z.1) (ci := 5) (v := .ref (am 11)) (C := RX4) (T := TX4) (N := 25) (ref := "FerrytaxModel") hx hb hT i_X4 hown hE.1 hP 0 (by rw [iw_at (by decide), mF_0]) rfl 11 (by decide) (hT (.fieldLink RX4 40 "FerrytaxModel" "fh" "[I") (fx_w 697 (by decide +kernel) rfl)) (fun _ h9 => h9) rfl hdg kk
theorem mg_fs (K : m_K p s m args c cc nL Z am) (hP : va_P Z.1 vwCl (iw 22 (mF am (Z.2.1 0) h)) H) (hdg : decode cc pc = .ok (.getfield 43, 3)) (kk : W p l e R s m args below meth c H locs cells slots Q (F0 m (pc + 3) ls (.ref (am 12) :: rest))) : W p l e R s m args below meth c H locs cells slots Q (F0 m pc ls (.ref (am 0) :: rest)) := by
  obtain ⟨hx, hb, -, hown, hT, hE, -⟩ := K
  exact va_get (D := Z.1) (ci := 5) (v := .ref (am 12)) (C := RX4) (T := TX4) (N := 25) (ref := "FerrytaxModel") hx hb hT i_X4 hown hE.1 hP 0 (by rw [iw_at (by decide), mF_0]) rfl 12 (by decide) (hT (.fieldLink RX4 43 "FerrytaxModel" "fs" "[I") (fx_w 698 (by decide +kernel) rfl)) (fun _ h9 => h9) rfl hdg kk
theorem mg_fw (K : m_K p s m args c cc nL Z am) (hP : va_P Z.1 vwCl (iw 22 (mF am (Z.2.1 0) h)) H) (hdg : decode cc pc = .ok (.getfield 46, 3)) (kk : W p l e R s m args below meth c H locs cells slots Q (F0 m (pc + 3) ls (.ref (am 13) :: rest))) : W p l e R s m args below meth c H locs cells slots Q (F0 m pc ls (.ref (am 0) :: rest)) := by
  obtain ⟨hx, hb, -, hown, hT, hE, -⟩ := K
  exact va_get (D := Z.1) (ci := 5) (v := .ref (am 13)) (C := RX4) (T := TX4) (N := 25) (ref := "FerrytaxModel") hx hb hT i_X4 hown hE.1 hP 0 (by rw [iw_at (by decide), mF_0]) rfl 13 (by decide) (hT (.fieldLink RX4 46 "FerrytaxModel" "fw" "[I") (fx_w 699 (by decide +kernel) rfl)) (fun _ h9 => h9) rfl hdg kk
theorem mg_fg (K : m_K p s m args c cc nL Z am) (hP : va_P Z.1 vwCl (iw 22 (mF am (Z.2.1 0) h)) H) (hdg : decode cc pc = .ok (.getfield 49, 3)) (kk : W p l e R s m args below meth c H locs cells slots Q (F0 m (pc + 3) ls (.ref (am 14) :: rest))) : W p l e R s m args below meth c H locs cells slots Q (F0 m pc ls (.ref (am 0) :: rest)) := by
  obtain ⟨hx, hb, -, hown, hT, hE, -⟩ := K
  exact va_get (D := Z.1) (ci := 5) (v := .ref (am 14)) (C := RX4) (T := TX4) (N := 25) (ref := "FerrytaxModel") hx hb hT i_X4 hown hE.1 hP 0 (by rw [iw_at (by decide), mF_0]) rfl 14 (by decide) (hT (.fieldLink RX4 49 "FerrytaxModel" "fg" "[I") (fx_w 700 (by decide +kernel) rfl)) (fun _ h9 => h9) rfl hdg kk
theorem mg_ferries (K : m_K p s m args c cc nL Z am) (hP : va_P Z.1 vwCl (iw 22 (mF am (Z.2.1 0) h)) H) (hdg : decode cc pc = .ok (.getfield 84, 3)) (kk : W p l e R s m args below meth c H locs cells slots Q (F0 m (pc + 3) ls (.int (h 0 1) :: rest))) : W p l e R s m args below meth c H locs cells slots Q (F0 m pc ls (.ref (am 0) :: rest)) := by
  obtain ⟨hx, hb, -, hown, hT, hE, -⟩ := K
  exact va_get (D := Z.1) (ci := 5) (v := .int (h 0 1)) (C := RX4) (T := TX4) (N := 25) (ref := "FerrytaxModel") hx hb hT i_X4 hown hE.1 hP 0 (by rw [iw_at (by decide), mF_0]) rfl 15 (by decide) (hT (.fieldLink RX4 84 "FerrytaxModel" "ferries" "I") (fx_w 701 (by decide +kernel) rfl)) (fun _ h9 => h9) rfl hdg kk
theorem mp_ferries {x : Int32} (K : m_K p s m args c cc nL Z am) (hP : va_P Z.1 vwCl (iw 22 (mF am (Z.2.1 0) h)) H) (hS : va_S (fx_A 22 am s.heap.size) s.heap H locs) (hdg : decode cc pc = .ok (.putfield 84, 3))
    (kk : ∀ (h1 : St) (H1 : Heap) (locs1 : List Loc), h1 = u2 h 0 1 x → va_P Z.1 vwCl (iw 22 (mF am (Z.2.1 0) h1)) H1 → va_S (fx_A 22 am s.heap.size) s.heap H1 locs1 → W p l e R s m args below meth c H1 locs1 cells slots Q (F0 m (pc + 3) ls rest)) : W p l e R s m args below meth c H locs cells slots Q (F0 m pc ls (.int x :: .ref (am 0) :: rest)) := by
  obtain ⟨hx, hb, -, hown, hT, hE, -, hi9⟩ := K
  refine va_put (D := Z.1) (ci := 5) (v := .int x) (ty := .int) (C := RX4) (T := TX4) (N := 25) (ref := "FerrytaxModel") hx hb hT i_X4 tyX4 tyX4_ok nmX4 hown hE.1 hP (m_D hi9) hS 0 (by rw [iw_at (by decide), mF_0]) rfl 15 (by decide) (hT (.fieldLink RX4 84 "FerrytaxModel" "ferries" "I") (fx_w 701 (by decide +kernel) rfl)) (fun _ h9 => h9) rfl (by decide +kernel) rfl rfl (Nat.le_of_ble_eq_true rfl) hdg fun H1 locs1 hP1 _ hS1 => ?_
  rw [mF_s0 (h1 := u2 h 0 1 x) (fun k hk => u2_ne h 1 x hk) (by rw [mF_0, u2_k]; simp [upd])] at hP1
  exact kk _ H1 locs1 rfl hP1 hS1
theorem mg_ab (K : m_K p s m args c cc nL Z am) (hP : va_P Z.1 vwCl (iw 22 (mF am (Z.2.1 0) h)) H) (hdg : decode cc pc = .ok (.getfield 52, 3)) (kk : W p l e R s m args below meth c H locs cells slots Q (F0 m (pc + 3) ls (.ref (am 15) :: rest))) : W p l e R s m args below meth c H locs cells slots Q (F0 m pc ls (.ref (am 0) :: rest)) := by
  obtain ⟨hx, hb, -, hown, hT, hE, -⟩ := K
  exact va_get (D := Z.1) (ci := 5) (v := .ref (am 15)) (C := RX4) (T := TX4) (N := 25) (ref := "FerrytaxModel") hx hb hT i_X4 hown hE.1 hP 0 (by rw [iw_at (by decide), mF_0]) rfl 16 (by decide) (hT (.fieldLink RX4 52 "FerrytaxModel" "ab" "[I") (fx_w 702 (by decide +kernel) rfl)) (fun _ h9 => h9) rfl hdg kk
theorem mg_gone (K : m_K p s m args c cc nL Z am) (hP : va_P Z.1 vwCl (iw 22 (mF am (Z.2.1 0) h)) H) (hdg : decode cc pc = .ok (.getfield 55, 3)) (kk : W p l e R s m args below meth c H locs cells slots Q (F0 m (pc + 3) ls (.ref (am 16) :: rest))) : W p l e R s m args below meth c H locs cells slots Q (F0 m pc ls (.ref (am 0) :: rest)) := by
  obtain ⟨hx, hb, -, hown, hT, hE, -⟩ := K
  exact va_get (D := Z.1) (ci := 5) (v := .ref (am 16)) (C := RX4) (T := TX4) (N := 25) (ref := "FerrytaxModel") hx hb hT i_X4 hown hE.1 hP 0 (by rw [iw_at (by decide), mF_0]) rfl 17 (by decide) (hT (.fieldLink RX4 55 "FerrytaxModel" "gone" "[I") (fx_w 703 (by decide +kernel) rfl)) (fun _ h9 => h9) rfl hdg kk
theorem mg_often (K : m_K p s m args c cc nL Z am) (hP : va_P Z.1 vwCl (iw 22 (mF am (Z.2.1 0) h)) H) (hdg : decode cc pc = .ok (.getfield 58, 3)) (kk : W p l e R s m args below meth c H locs cells slots Q (F0 m (pc + 3) ls (.ref (am 17) :: rest))) : W p l e R s m args below meth c H locs cells slots Q (F0 m pc ls (.ref (am 0) :: rest)) := by
  obtain ⟨hx, hb, -, hown, hT, hE, -⟩ := K
  exact va_get (D := Z.1) (ci := 5) (v := .ref (am 17)) (C := RX4) (T := TX4) (N := 25) (ref := "FerrytaxModel") hx hb hT i_X4 hown hE.1 hP 0 (by rw [iw_at (by decide), mF_0]) rfl 18 (by decide) (hT (.fieldLink RX4 58 "FerrytaxModel" "often" "[I") (fx_w 704 (by decide +kernel) rfl)) (fun _ h9 => h9) rfl hdg kk
theorem mg_missed (K : m_K p s m args c cc nL Z am) (hP : va_P Z.1 vwCl (iw 22 (mF am (Z.2.1 0) h)) H) (hdg : decode cc pc = .ok (.getfield 61, 3)) (kk : W p l e R s m args below meth c H locs cells slots Q (F0 m (pc + 3) ls (.ref (am 18) :: rest))) : W p l e R s m args below meth c H locs cells slots Q (F0 m pc ls (.ref (am 0) :: rest)) := by
  obtain ⟨hx, hb, -, hown, hT, hE, -⟩ := K
  exact va_get (D := Z.1) (ci := 5) (v := .ref (am 18)) (C := RX4) (T := TX4) (N := 25) (ref := "FerrytaxModel") hx hb hT i_X4 hown hE.1 hP 0 (by rw [iw_at (by decide), mF_0]) rfl 19 (by decide) (hT (.fieldLink RX4 61 "FerrytaxModel" "missed" "[I") (fx_w 705 (by decide +kernel) rfl)) (fun _ h9 => h9) rfl hdg kk
theorem mg_fine (K : m_K p s m args c cc nL Z am) (hP : va_P Z.1 vwCl (iw 22 (mF am (Z.2.1 0) h)) H) (hdg : decode cc pc = .ok (.getfield 64, 3)) (kk : W p l e R s m args below meth c H locs cells slots Q (F0 m (pc + 3) ls (.ref (am 19) :: rest))) : W p l e R s m args below meth c H locs cells slots Q (F0 m pc ls (.ref (am 0) :: rest)) := by
  obtain ⟨hx, hb, -, hown, hT, hE, -⟩ := K
  exact va_get (D := Z.1) (ci := 5) (v := .ref (am 19)) (C := RX4) (T := TX4) (N := 25) (ref := "FerrytaxModel") hx hb hT i_X4 hown hE.1 hP 0 (by rw [iw_at (by decide), mF_0]) rfl 20 (by decide) (hT (.fieldLink RX4 64 "FerrytaxModel" "fine" "[I") (fx_w 706 (by decide +kernel) rfl)) (fun _ h9 => h9) rfl hdg kk
theorem mg_refunds (K : m_K p s m args c cc nL Z am) (hP : va_P Z.1 vwCl (iw 22 (mF am (Z.2.1 0) h)) H) (hdg : decode cc pc = .ok (.getfield 67, 3)) (kk : W p l e R s m args below meth c H locs cells slots Q (F0 m (pc + 3) ls (.ref (am 20) :: rest))) : W p l e R s m args below meth c H locs cells slots Q (F0 m pc ls (.ref (am 0) :: rest)) := by
  obtain ⟨hx, hb, -, hown, hT, hE, -⟩ := K
  exact va_get (D := Z.1) (ci := 5) (v := .ref (am 20)) (C := RX4) (T := TX4) (N := 25) (ref := "FerrytaxModel") hx hb hT i_X4 hown hE.1 hP 0 (by rw [iw_at (by decide), mF_0]) rfl 21 (by decide) (hT (.fieldLink RX4 67 "FerrytaxModel" "refunds" "[I") (fx_w 707 (by decide +kernel) rfl)) (fun _ h9 => h9) rfl hdg kk
theorem mg_given (K : m_K p s m args c cc nL Z am) (hP : va_P Z.1 vwCl (iw 22 (mF am (Z.2.1 0) h)) H) (hdg : decode cc pc = .ok (.getfield 70, 3)) (kk : W p l e R s m args below meth c H locs cells slots Q (F0 m (pc + 3) ls (.ref (am 21) :: rest))) : W p l e R s m args below meth c H locs cells slots Q (F0 m pc ls (.ref (am 0) :: rest)) := by
  obtain ⟨hx, hb, -, hown, hT, hE, -⟩ := K
  exact va_get (D := Z.1) (ci := 5) (v := .ref (am 21)) (C := RX4) (T := TX4) (N := 25) (ref := "FerrytaxModel") hx hb hT i_X4 hown hE.1 hP 0 (by rw [iw_at (by decide), mF_0]) rfl 22 (by decide) (hT (.fieldLink RX4 70 "FerrytaxModel" "given" "[I") (fx_w 708 (by decide +kernel) rfl)) (fun _ h9 => h9) rfl hdg kk
theorem mg_hour (K : m_K p s m args c cc nL Z am) (hP : va_P Z.1 vwCl (iw 22 (mF am (Z.2.1 0) h)) H) (hdg : decode cc pc = .ok (.getfield 91, 3)) (kk : W p l e R s m args below meth c H locs cells slots Q (F0 m (pc + 3) ls (.int (h 0 2) :: rest))) : W p l e R s m args below meth c H locs cells slots Q (F0 m pc ls (.ref (am 0) :: rest)) := by
  obtain ⟨hx, hb, -, hown, hT, hE, -⟩ := K
  exact va_get (D := Z.1) (ci := 5) (v := .int (h 0 2)) (C := RX4) (T := TX4) (N := 25) (ref := "FerrytaxModel") hx hb hT i_X4 hown hE.1 hP 0 (by rw [iw_at (by decide), mF_0]) rfl 23 (by decide) (hT (.fieldLink RX4 91 "FerrytaxModel" "hour" "I") (fx_w 709 (by decide +kernel) rfl)) (fun _ h9 => h9) rfl hdg kk
theorem mp_hour {x : Int32} (K : m_K p s m args c cc nL Z am) (hP : va_P Z.1 vwCl (iw 22 (mF am (Z.2.1 0) h)) H) (hS : va_S (fx_A 22 am s.heap.size) s.heap H locs) (hdg : decode cc pc = .ok (.putfield 91, 3))
    (kk : ∀ (h1 : St) (H1 : Heap) (locs1 : List Loc), h1 = u2 h 0 2 x → va_P Z.1 vwCl (iw 22 (mF am (Z.2.1 0) h1)) H1 → va_S (fx_A 22 am s.heap.size) s.heap H1 locs1 → W p l e R s m args below meth c H1 locs1 cells slots Q (F0 m (pc + 3) ls rest)) : W p l e R s m args below meth c H locs cells slots Q (F0 m pc ls (.int x :: .ref (am 0) :: rest)) := by
  obtain ⟨hx, hb, -, hown, hT, hE, -, hi9⟩ := K
  refine va_put (D := Z.1) (ci := 5) (v := .int x) (ty := .int) (C := RX4) (T := TX4) (N := 25) (ref := "FerrytaxModel") hx hb hT i_X4 tyX4 tyX4_ok nmX4 hown hE.1 hP (m_D hi9) hS 0 (by rw [iw_at (by decide), mF_0]) rfl 23 (by decide) (hT (.fieldLink RX4 91 "FerrytaxModel" "hour" "I") (fx_w 709 (by decide +kernel) rfl)) (fun _ h9 => h9) rfl (by decide +kernel) rfl rfl (Nat.le_of_ble_eq_true rfl) hdg fun H1 locs1 hP1 _ hS1 => ?_
  rw [mF_s0 (h1 := u2 h 0 2 x) (fun k hk => u2_ne h 2 x hk) (by rw [mF_0, u2_k]; simp [upd])] at hP1
  exact kk _ H1 locs1 rfl hP1 hS1
theorem mg_thrown (K : m_K p s m args c cc nL Z am) (hP : va_P Z.1 vwCl (iw 22 (mF am (Z.2.1 0) h)) H) (hdg : decode cc pc = .ok (.getfield 73, 3)) (kk : W p l e R s m args below meth c H locs cells slots Q (F0 m (pc + 3) ls (.int (h 0 3) :: rest))) : W p l e R s m args below meth c H locs cells slots Q (F0 m pc ls (.ref (am 0) :: rest)) := by
  obtain ⟨hx, hb, -, hown, hT, hE, -⟩ := K
  exact va_get (D := Z.1) (ci := 5) (v := .int (h 0 3)) (C := RX4) (T := TX4) (N := 25) (ref := "FerrytaxModel") hx hb hT i_X4 hown hE.1 hP 0 (by rw [iw_at (by decide), mF_0]) rfl 24 (by decide) (hT (.fieldLink RX4 73 "FerrytaxModel" "thrown" "I") (fx_w 710 (by decide +kernel) rfl)) (fun _ h9 => h9) rfl hdg kk
theorem mp_thrown {x : Int32} (K : m_K p s m args c cc nL Z am) (hP : va_P Z.1 vwCl (iw 22 (mF am (Z.2.1 0) h)) H) (hS : va_S (fx_A 22 am s.heap.size) s.heap H locs) (hdg : decode cc pc = .ok (.putfield 73, 3))
    (kk : ∀ (h1 : St) (H1 : Heap) (locs1 : List Loc), h1 = u2 h 0 3 x → va_P Z.1 vwCl (iw 22 (mF am (Z.2.1 0) h1)) H1 → va_S (fx_A 22 am s.heap.size) s.heap H1 locs1 → W p l e R s m args below meth c H1 locs1 cells slots Q (F0 m (pc + 3) ls rest)) : W p l e R s m args below meth c H locs cells slots Q (F0 m pc ls (.int x :: .ref (am 0) :: rest)) := by
  obtain ⟨hx, hb, -, hown, hT, hE, -, hi9⟩ := K
  refine va_put (D := Z.1) (ci := 5) (v := .int x) (ty := .int) (C := RX4) (T := TX4) (N := 25) (ref := "FerrytaxModel") hx hb hT i_X4 tyX4 tyX4_ok nmX4 hown hE.1 hP (m_D hi9) hS 0 (by rw [iw_at (by decide), mF_0]) rfl 24 (by decide) (hT (.fieldLink RX4 73 "FerrytaxModel" "thrown" "I") (fx_w 710 (by decide +kernel) rfl)) (fun _ h9 => h9) rfl (by decide +kernel) rfl rfl (Nat.le_of_ble_eq_true rfl) hdg fun H1 locs1 hP1 _ hS1 => ?_
  rw [mF_s0 (h1 := u2 h 0 3 x) (fun k hk => u2_ne h 3 x hk) (by rw [mF_0, u2_k]; simp [upd])] at hP1
  exact kk _ H1 locs1 rfl hP1 hS1
end FXM
