/-! ===== the class's own constructor ===== -/
abbrev bs (Z : fx_Z) (b q1 q2 q3 q4 : Nat) (ra : Nat → Int32) (f2 f3 f4 : Nat → Option Nat) (L : va_W) : va_W :=
  (b, .inr (4, [.ref q1, .ref q2, .ref q3, .ref q4, .int 0, .int 0, .int 0])) :: (q1, .inl (Z.2.1 0, 4, .inl ra)) :: (q2, .inl (Z.2.1 1, 60, .inr (.inr (.inr (.inr f2))))) :: (q3, .inl (Z.2.1 2, 20, .inr (.inr (.inr (.inr f3))))) :: (q4, .inl (Z.2.1 3, 10, .inr (.inr (.inr (.inr f4))))) :: L
def okE (x : va_E) (L : va_W) (f : Nat → Option Nat) (i : Nat) : Prop := L.length = i ∧ ∀ j, j < i → ∃ q, L[j]? = some (q, x) ∧ f j = some q
theorem okE_0 {x : va_E} {f : Nat → Option Nat} : okE x [] f 0 := ⟨rfl, fun j hj => absurd hj (by omega)⟩
theorem okE_s {x : va_E} {L : va_W} {f : Nat → Option Nat} {i q : Nat} (h : okE x L f i) : okE x (L ++ [(q, x)]) (va_up f i (some q)) (i + 1) := by
  refine ⟨by rw [List.length_append, h.1]; rfl, fun j hj => ?_⟩
  by_cases hji : j = i
  · subst hji
    exact ⟨q, by rw [List.getElem?_append_right (by have := h.1; omega), h.1, Nat.sub_self]; rfl, by simp [va_up]⟩
  · obtain ⟨q2, h1, h2⟩ := h.2 j (by omega)
    exact ⟨q2, by rw [List.getElem?_append_left (by rw [h.1]; omega)]; exact h1, by simp [va_up, hji, h2]⟩
def okF (Z : fx_Z) (L : va_W) (f : Nat → Option Nat) (i : Nat) : Prop := L.length = 2 * i ∧ ∀ j, j < i → ∃ q v, L[2 * j]? = some (q, .inr (1, [.int 0, .int 0, .ref v])) ∧ L[2 * j + 1]? = some (v, .inl (Z.2.1 0, 10, .inl (fun _ => 0))) ∧ f j = some q
theorem okF_0 {Z : fx_Z} {f : Nat → Option Nat} : okF Z [] f 0 := ⟨rfl, fun j hj => absurd hj (by omega)⟩
theorem okF_s {Z : fx_Z} {L : va_W} {f : Nat → Option Nat} {i q v : Nat} (h : okF Z L f i) : okF Z (L ++ [(q, .inr (1, [.int 0, .int 0, .ref v])), (v, .inl (Z.2.1 0, 10, .inl (fun _ => 0)))]) (va_up f i (some q)) (i + 1) := by
  refine ⟨by rw [List.length_append, h.1]; rfl, fun j hj => ?_⟩
  by_cases hji : j = i
  · subst hji
    exact ⟨q, v, by rw [List.getElem?_append_right (by have := h.1; omega), h.1, Nat.sub_self]; rfl, by rw [List.getElem?_append_right (by have := h.1; omega), h.1, show 2 * j + 1 - 2 * j = 1 by omega]; rfl, by simp [va_up]⟩
  · obtain ⟨q2, v2, h1, h2, h3⟩ := h.2 j (by omega)
    exact ⟨q2, v2, by rw [List.getElem?_append_left (by rw [h.1]; omega)]; exact h1, by rw [List.getElem?_append_left (by rw [h.1]; omega)]; exact h2, by simp [va_up, hji, h3]⟩
def x_K (p : Program) (s : State) (m : MethodId) (c : Code) (Z : fx_Z) (b : Nat) : Prop :=
  p.tables.exec = Jvm.exec ∧ c.code = cX3_init ∧ c.maxLocals = 2 ∧ s.vm.findClass RX3 = some m.cls ∧ (∀ w ∈ fx_ws, w.before ([.ref b] : List Value).toArray s = true) ∧ fx_E Z s ∧ fx_S (fx_A 1 (fun _ => b) s.heap.size) s s.heap
section FXX
variable {p : Program} {l : Launch} {e : Env} {s : State} {m : MethodId} {below : List Frame} {meth : Method} {c : Code} {Q : State → Prop} {Z : fx_Z} {b q1 q2 q3 q4 : Nat}
theorem ra_s (i : Nat) : upd (fun j => if j < i then (10 : Int32) else 0) i 10 = fun j => if j < i + 1 then 10 else 0 := by funext j; unfold upd; grind
set_option maxHeartbeats 4000000 in
set_option maxRecDepth 100000 in
theorem x3_1 (K : x_K p s m c Z b) (kk : ∀ (H : Heap) (locs : List Loc) (ls : Array Slot), va_P Z.1 vwCl (bs Z b q1 q2 q3 q4 (fun j => if j < 4 then 10 else 0) (fun _ => none) (fun _ => none) (fun _ => none) []) H → va_D (fx_A 1 (fun _ => b) s.heap.size) (bs Z b q1 q2 q3 q4 (fun j => if j < 4 then 10 else 0) (fun _ => none) (fun _ => none) (fun _ => none) []) → va_S (fx_A 1 (fun _ => b) s.heap.size) s.heap H locs → lv_has ls 2 [(1, .int (nI 4)), (0, .ref b)] → W p l e (headSpec (fx_l yX3_init cX3_init 2 none) { frames := 2, cells := 114, slots := 944, locals := 32 }).room s m ([.ref b] : List Value).toArray below meth c H locs (4) (94) Q (F0 m 74 ls [])) :
    ∀ (d i : Nat), i + d = 4 → ∀ (H : Heap) (locs : List Loc) (ls : Array Slot), va_P Z.1 vwCl (bs Z b q1 q2 q3 q4 (fun j => if j < i then 10 else 0) (fun _ => none) (fun _ => none) (fun _ => none) []) H → va_D (fx_A 1 (fun _ => b) s.heap.size) (bs Z b q1 q2 q3 q4 (fun j => if j < i then 10 else 0) (fun _ => none) (fun _ => none) (fun _ => none) []) → va_S (fx_A 1 (fun _ => b) s.heap.size) s.heap H locs → lv_has ls 2 [(1, .int (nI i)), (0, .ref b)] → W p l e (headSpec (fx_l yX3_init cX3_init 2 none) { frames := 2, cells := 114, slots := 944, locals := 32 }).room s m ([.ref b] : List Value).toArray below meth c H locs (4) (94) Q (F0 m 55 ls []) := by
  obtain ⟨hx, hb, hml, hown, hT, hE, hSt⟩ := K
  intro d
  induction d with
  | zero =>
    intro i hi H locs ls hP hD hS hl
    rw [show i = 4 by omega] at hP hD hl
    refine lv_iload_n hx hb dX3_init_55 rfl (lv_at hl 0 rfl) ?_
    refine lv_iconst (v := 4) hx hb dX3_init_56 (by decide) ?_
    refine lv_icmp_ge (tgt := 74) hx hb dX3_init_57 (by decide) (fun _ => ?_) (fun c1 => absurd (nI_le (a := 4) (Nat.le_refl 4) (by decide)) c1)
    exact kk H locs ls hP hD hS hl
  | succ d ih =>
    intro i hi H locs ls hP hD hS hl
    refine lv_iload_n hx hb dX3_init_55 rfl (lv_at hl 0 rfl) ?_
    refine lv_iconst (v := 4) hx hb dX3_init_56 (by decide) ?_
    refine lv_icmp_ge (tgt := 74) hx hb dX3_init_57 (by decide) (fun c1 => absurd c1 (nI_ge (b := 4) (by omega) (by omega))) (fun _ => ?_)
    refine lv_aload_n hx hb dX3_init_60 rfl (lv_at hl 1 rfl) ?_
    refine va_get (D := Z.1) (ci := 4) (v := .ref q1) (C := RX3) (T := TX3) (N := 7) (ref := "Ferrytax") hx hb hT i_X3 hown hE.1 hP 0 rfl rfl 0 (by decide) (hT (.fieldLink RX3 9 "Ferrytax" "rates" "[I") (fx_w 144 (by decide +kernel) rfl)) (fun _ h9 => h9) rfl dX3_init_61 ?_
    refine lv_iload_n hx hb dX3_init_64 rfl (lv_at hl 0 rfl) ?_
    refine lv_bipush (v := 10) hx hb dX3_init_65 (by decide) ?_
    refine va_iast hx hb hE.1 hP hD hS 1 0 rfl rfl (vp_in_nI (by omega) (by decide)) dX3_init_67 (fun H locs hP hD hS => ?_)
    rw [nI_clamp (by omega), ra_s] at hP hD
    refine lv_iinc (v := nI (i + 1)) (lv' := [(1, .int (nI (i + 1))), (0, .ref b)]) hx hb dX3_init_68 hl (k := 0) rfl (nI_1 _) (by decide) rfl (fun ls hl => ?_)
    refine lv_goto (tgt := 55) hx hb dX3_init_71 (by decide) ?_
    exact ih (i + 1) (by omega) H locs ls hP hD hS hl
set_option maxHeartbeats 4000000 in
set_option maxRecDepth 100000 in
theorem x3_R (M : va_W) (K : x_K p s m c Z b) (kk : ∀ (L : va_W) (f : Nat → Option Nat) (H : Heap) (locs : List Loc) (ls : Array Slot), okE (.inr (2, [.int 0, .int 0, .int 0, .int 0, .int 0, .int 0, .int 0, .int 0, .int 0])) L f 60 → va_P Z.1 vwCl (bs Z b q1 q2 q3 q4 (fun j => if j < 4 then 10 else 0) f (fun _ => none) (fun _ => none) (M ++ L)) H → va_D (fx_A 1 (fun _ => b) s.heap.size) (bs Z b q1 q2 q3 q4 (fun j => if j < 4 then 10 else 0) f (fun _ => none) (fun _ => none) (M ++ L)) → va_S (fx_A 1 (fun _ => b) s.heap.size) s.heap H locs → lv_has ls 2 [(1, .int (nI 60)), (0, .ref b)] → W p l e (headSpec (fx_l yX3_init cX3_init 2 none) { frames := 2, cells := 114, slots := 944, locals := 32 }).room s m ([.ref b] : List Value).toArray below meth c H locs (4 + 1 * 60) (94 + 9 * 60) Q (F0 m 101 ls [])) :
    ∀ (d i : Nat), i + d = 60 → ∀ (L : va_W) (f : Nat → Option Nat) (H : Heap) (locs : List Loc) (ls : Array Slot), okE (.inr (2, [.int 0, .int 0, .int 0, .int 0, .int 0, .int 0, .int 0, .int 0, .int 0])) L f i → va_P Z.1 vwCl (bs Z b q1 q2 q3 q4 (fun j => if j < 4 then 10 else 0) f (fun _ => none) (fun _ => none) (M ++ L)) H → va_D (fx_A 1 (fun _ => b) s.heap.size) (bs Z b q1 q2 q3 q4 (fun j => if j < 4 then 10 else 0) f (fun _ => none) (fun _ => none) (M ++ L)) → va_S (fx_A 1 (fun _ => b) s.heap.size) s.heap H locs → lv_has ls 2 [(1, .int (nI i)), (0, .ref b)] → W p l e (headSpec (fx_l yX3_init cX3_init 2 none) { frames := 2, cells := 114, slots := 944, locals := 32 }).room s m ([.ref b] : List Value).toArray below meth c H locs (4 + 1 * i) (94 + 9 * i) Q (F0 m 76 ls []) := by
  have K0 := K
  obtain ⟨hx, hb, hml, hown, hT, hE, hSt⟩ := K0
  have hA : ∀ q, s.heap.size ≤ q → fx_A 1 (fun _ => b) s.heap.size q := fun q h => Or.inr h
  intro d
  induction d with
  | zero =>
    intro i hi L f H locs ls hok hP hD hS hl
    have hi9 : i = 60 := by omega
    subst hi9
    refine lv_iload_n hx hb dX3_init_76 rfl (lv_at hl 0 rfl) ?_
    refine lv_bipush (v := 60) hx hb dX3_init_77 (by decide) ?_
    refine lv_icmp_ge (tgt := 101) hx hb dX3_init_79 (by decide) (fun _ => ?_) (fun c1 => absurd (nI_le (a := 60) (Nat.le_refl 60) (by decide)) c1)
    exact kk L f H locs ls hok hP hD hS hl
  | succ d ih =>
    intro i hi L f H locs ls hok hP hD hS hl
    refine lv_iload_n hx hb dX3_init_76 rfl (lv_at hl 0 rfl) ?_
    refine lv_bipush (v := 60) hx hb dX3_init_77 (by decide) ?_
    refine lv_icmp_ge (tgt := 101) hx hb dX3_init_79 (by decide) (fun c1 => absurd c1 (nI_ge (b := 60) (by omega) (by omega))) (fun _ => ?_)
    refine lv_aload_n hx hb dX3_init_82 rfl (lv_at hl 1 rfl) ?_
    refine va_get (D := Z.1) (ci := 4) (v := .ref q2) (C := RX3) (T := TX3) (N := 7) (ref := "Ferrytax") hx hb hT i_X3 hown hE.1 hP 0 rfl rfl 1 (by decide) (hT (.fieldLink RX3 15 "Ferrytax" "receipts" "[LFerrytax$Receipt;") (fx_w 145 (by decide +kernel) rfl)) (fun _ h9 => h9) rfl dX3_init_83 ?_
    refine lv_iload_n hx hb dX3_init_86 rfl (lv_at hl 0 rfl) ?_
    refine va_new (D := Z.1) (ci := 2) (C := RX1) (T := TX1) (N := 9) (fs := [.int 0, .int 0, .int 0, .int 0, .int 0, .int 0, .int 0, .int 0, .int 0]) hx hb hT i_X1 tyX1 tyX1_ok hown (hT (.classLink RX3 13 RX1) (fx_w 67 (by decide +kernel) rfl)) (hT (.instantiable RX1 9) (fx_w 73 (by decide +kernel) rfl)) (hT (.initialized RX1) (fx_w 38 (by decide +kernel) rfl)) hE.1 hP hD hS hA rfl ?_ (by show 4 + 1 * i + 1 ≤ 114; omega) (by show 94 + 9 * i + 9 ≤ 944; omega) dX3_init_87 (fun q H hP hD hS => ?_)
    · intro j hj
      match j, hj with
      | 0, _ => rfl
      | 1, _ => rfl
      | 2, _ => rfl
      | 3, _ => rfl
      | 4, _ => rfl
      | 5, _ => rfl
      | 6, _ => rfl
      | 7, _ => rfl
      | 8, _ => rfl
    refine lv_dup hx hb dX3_init_90 rfl ?_
    refine fi_callIN (rest := [.ref q, .int (nI i), .ref q2]) (N := 0) (ad := fun _ => 0) (F := e0_F) (A := fx_A 1 (fun _ => b) s.heap.size) (host := RX3) hx hb hml hown hT hE hSt (fun k hk => absurd hk (by omega)) hA (fun k q hk => absurd hk (by simp [iw])) hS (c_X1_init l Z q) (fx_w 76 (by decide +kernel) rfl) (fx_w 38 (by decide +kernel) rfl) (List.mem_of_getElem? (i := 7) rfl) (by decide +kernel) (fx_w 75 (by decide +kernel) rfl) rfl rfl ⟨(Nat.le_of_ble_eq_true rfl), (Nat.le_of_ble_eq_true rfl)⟩ rfl hl.1 (Nat.le_of_ble_eq_true rfl) ⟨(by show 4 + 1 * i + 1 + 0 ≤ 114; omega), (by show 94 + 9 * i + 9 + 0 ≤ 944; omega)⟩ dX3_init_91 (fun _ H1 locs1 _ hS hz hk => ?_)
    have hP := hP.kept (H1 := H1) (fun k x hx => hk x.1 (hP k x hx).lt (by
      have hlt := (hP k x hx).lt
      rintro (⟨k2, hk2, -⟩ | h)
      · omega
      · omega))
    have hP : va_P Z.1 vwCl (bs Z b q1 q2 q3 q4 (fun j => if j < 4 then 10 else 0) f (fun _ => none) (fun _ => none) (M ++ L ++ [(q, .inr (2, [.int 0, .int 0, .int 0, .int 0, .int 0, .int 0, .int 0, .int 0, .int 0]))])) H1 := hP
    have hD : va_D (fx_A 1 (fun _ => b) s.heap.size) (bs Z b q1 q2 q3 q4 (fun j => if j < 4 then 10 else 0) f (fun _ => none) (fun _ => none) (M ++ L ++ [(q, .inr (2, [.int 0, .int 0, .int 0, .int 0, .int 0, .int 0, .int 0, .int 0, .int 0]))])) := hD
    refine va_astq hx hb hE.1 hP hD hS 2 1 ((M ++ L).length + 5) 2 (cA := Z.2.1 1) (r := (RX1, TX1, 9)) rfl rfl (by show (M ++ L ++ [(q, .inr (2, [.int 0, .int 0, .int 0, .int 0, .int 0, .int 0, .int 0, .int 0, .int 0]))])[(M ++ L).length]? = _; rw [List.getElem?_append_right (Nat.le_refl _), Nat.sub_self]; rfl) rfl (vp_in_nI (by omega) (by decide)) dX3_init_94 (fun H2 locs2 hP hD hS => ?_)
    rw [nI_clamp (by omega)] at hP hD
    have hP : va_P Z.1 vwCl (bs Z b q1 q2 q3 q4 (fun j => if j < 4 then 10 else 0) (va_up f i (some q)) (fun _ => none) (fun _ => none) (M ++ L ++ [(q, .inr (2, [.int 0, .int 0, .int 0, .int 0, .int 0, .int 0, .int 0, .int 0, .int 0]))])) H2 := hP
    have hD : va_D (fx_A 1 (fun _ => b) s.heap.size) (bs Z b q1 q2 q3 q4 (fun j => if j < 4 then 10 else 0) (va_up f i (some q)) (fun _ => none) (fun _ => none) (M ++ L ++ [(q, .inr (2, [.int 0, .int 0, .int 0, .int 0, .int 0, .int 0, .int 0, .int 0, .int 0]))])) := hD
    rw [List.append_assoc] at hP hD
    refine lv_iinc (v := nI (i + 1)) (lv' := [(1, .int (nI (i + 1))), (0, .ref b)]) hx hb dX3_init_95 hl (k := 0) rfl (nI_1 _) (by decide) rfl (fun ls hl => ?_)
    refine lv_goto (tgt := 76) hx hb dX3_init_98 (by decide) ?_
    have hgo := ih (i + 1) (by omega) (L ++ [(q, .inr (2, [.int 0, .int 0, .int 0, .int 0, .int 0, .int 0, .int 0, .int 0, .int 0]))]) (va_up f i (some q)) H2 locs2 ls (okE_s hok) hP hD hS hl
    rw [show 4 + 1 * (i + 1) = 4 + 1 * i + 1 + 0 by omega, show 94 + 9 * (i + 1) = 94 + 9 * i + 9 + 0 by omega] at hgo
    exact hgo
set_option maxHeartbeats 4000000 in
set_option maxRecDepth 100000 in
theorem x3_F (M : va_W) (f2 : Nat → Option Nat) (K : x_K p s m c Z b) (kk : ∀ (L : va_W) (f : Nat → Option Nat) (H : Heap) (locs : List Loc) (ls : Array Slot), okF Z L f 20 → va_P Z.1 vwCl (bs Z b q1 q2 q3 q4 (fun j => if j < 4 then 10 else 0) f2 f (fun _ => none) (M ++ L)) H → va_D (fx_A 1 (fun _ => b) s.heap.size) (bs Z b q1 q2 q3 q4 (fun j => if j < 4 then 10 else 0) f2 f (fun _ => none) (M ++ L)) → va_S (fx_A 1 (fun _ => b) s.heap.size) s.heap H locs → lv_has ls 2 [(1, .int (nI 20)), (0, .ref b)] → W p l e (headSpec (fx_l yX3_init cX3_init 2 none) { frames := 2, cells := 114, slots := 944, locals := 32 }).room s m ([.ref b] : List Value).toArray below meth c H locs (64 + 2 * 20) (634 + 13 * 20) Q (F0 m 128 ls [])) :
    ∀ (d i : Nat), i + d = 20 → ∀ (L : va_W) (f : Nat → Option Nat) (H : Heap) (locs : List Loc) (ls : Array Slot), okF Z L f i → va_P Z.1 vwCl (bs Z b q1 q2 q3 q4 (fun j => if j < 4 then 10 else 0) f2 f (fun _ => none) (M ++ L)) H → va_D (fx_A 1 (fun _ => b) s.heap.size) (bs Z b q1 q2 q3 q4 (fun j => if j < 4 then 10 else 0) f2 f (fun _ => none) (M ++ L)) → va_S (fx_A 1 (fun _ => b) s.heap.size) s.heap H locs → lv_has ls 2 [(1, .int (nI i)), (0, .ref b)] → W p l e (headSpec (fx_l yX3_init cX3_init 2 none) { frames := 2, cells := 114, slots := 944, locals := 32 }).room s m ([.ref b] : List Value).toArray below meth c H locs (64 + 2 * i) (634 + 13 * i) Q (F0 m 103 ls []) := by
  have K0 := K
  obtain ⟨hx, hb, hml, hown, hT, hE, hSt⟩ := K0
  have hA : ∀ q, s.heap.size ≤ q → fx_A 1 (fun _ => b) s.heap.size q := fun q h => Or.inr h
  intro d
  induction d with
  | zero =>
    intro i hi L f H locs ls hok hP hD hS hl
    have hi9 : i = 20 := by omega
    subst hi9
    refine lv_iload_n hx hb dX3_init_103 rfl (lv_at hl 0 rfl) ?_
    refine lv_bipush (v := 20) hx hb dX3_init_104 (by decide) ?_
    refine lv_icmp_ge (tgt := 128) hx hb dX3_init_106 (by decide) (fun _ => ?_) (fun c1 => absurd (nI_le (a := 20) (Nat.le_refl 20) (by decide)) c1)
    exact kk L f H locs ls hok hP hD hS hl
  | succ d ih =>
    intro i hi L f H locs ls hok hP hD hS hl
    refine lv_iload_n hx hb dX3_init_103 rfl (lv_at hl 0 rfl) ?_
    refine lv_bipush (v := 20) hx hb dX3_init_104 (by decide) ?_
    refine lv_icmp_ge (tgt := 128) hx hb dX3_init_106 (by decide) (fun c1 => absurd c1 (nI_ge (b := 20) (by omega) (by omega))) (fun _ => ?_)
    refine lv_aload_n hx hb dX3_init_109 rfl (lv_at hl 1 rfl) ?_
    refine va_get (D := Z.1) (ci := 4) (v := .ref q3) (C := RX3) (T := TX3) (N := 7) (ref := "Ferrytax") hx hb hT i_X3 hown hE.1 hP 0 rfl rfl 2 (by decide) (hT (.fieldLink RX3 21 "Ferrytax" "ferries" "[LFerrytax$Ferry;") (fx_w 146 (by decide +kernel) rfl)) (fun _ h9 => h9) rfl dX3_init_110 ?_
    refine lv_iload_n hx hb dX3_init_113 rfl (lv_at hl 0 rfl) ?_
    refine va_new (D := Z.1) (ci := 1) (C := RX0) (T := TX0) (N := 3) (fs := [.int 0, .int 0, .null]) hx hb hT i_X0 tyX0 tyX0_ok hown (hT (.classLink RX3 19 RX0) (fx_w 69 (by decide +kernel) rfl)) (hT (.instantiable RX0 3) (fx_w 107 (by decide +kernel) rfl)) (hT (.initialized RX0) (fx_w 39 (by decide +kernel) rfl)) hE.1 hP hD hS hA rfl ?_ (by show 64 + 2 * i + 1 ≤ 114; omega) (by show 634 + 13 * i + 3 ≤ 944; omega) dX3_init_114 (fun q H hP hD hS => ?_)
    · intro j hj
      match j, hj with
      | 0, _ => rfl
      | 1, _ => rfl
      | 2, _ => rfl
    refine lv_dup hx hb dX3_init_117 rfl ?_
    have hPq : va_P Z.1 vwCl (iw 1 (iF_F q)) H := va_P_r hP
    have hPo := va_P_l hP
    have hDo := hD
    refine fi_callIN (rest := [.ref q, .int (nI i), .ref q3]) (N := 1) (ad := fun _ => q) (F := iF_F q) (A := fx_A 1 (fun _ => b) s.heap.size) (host := RX3) hx hb hml hown hT hE hSt (fun k hk => hD.2 (M ++ L).length.succ.succ.succ.succ.succ (q, .inr (1, [.int 0, .int 0, .null])) (by show (M ++ L ++ [(q, .inr (1, [.int 0, .int 0, .null]))])[(M ++ L).length]? = _; rw [List.getElem?_append_right (Nat.le_refl _), Nat.sub_self]; rfl)) hA hPq hS (c_X0_init l Z q) (fx_w 110 (by decide +kernel) rfl) (fx_w 39 (by decide +kernel) rfl) (List.mem_of_getElem? (i := 8) rfl) (by decide +kernel) (fx_w 109 (by decide +kernel) rfl) rfl rfl ⟨(Nat.le_of_ble_eq_true rfl), (Nat.le_of_ble_eq_true rfl)⟩ rfl hl.1 (Nat.le_of_ble_eq_true rfl) ⟨(by show 64 + 2 * i + 1 + 1 ≤ 114; omega), (by show 634 + 13 * i + 3 + 10 ≤ 944; omega)⟩ dX3_init_118 (fun v H1 locs1 hv hS1 hz hk => ?_)
    have hPo1 := hPo.kept (H1 := H1) (fun k x hx => hk x.1 (hPo k x hx).lt (by
      have hlt := (hPo k x hx).lt
      rintro (⟨k2, hk2, e9⟩ | h)
      · have hkl := (List.getElem?_eq_some_iff.mp hx).1
        have := hDo.1 k (M ++ L).length.succ.succ.succ.succ.succ x (q, .inr (1, [.int 0, .int 0, .null])) (by rw [List.getElem?_append_left hkl]; exact hx) (by show (M ++ L ++ [(q, .inr (1, [.int 0, .int 0, .null]))])[(M ++ L).length]? = _; rw [List.getElem?_append_right (Nat.le_refl _), Nat.sub_self]; rfl) e9.symm
        simp at hkl
        simp at this
        omega
      · omega))
    have hP1 := hPo1.app hv.2
    have hDo2 : va_D (fx_A 1 (fun _ => b) s.heap.size) (bs Z b q1 q2 q3 q4 (fun j => if j < 4 then 10 else 0) f2 f (fun _ => none) (M ++ L ++ [(q, .inr (1, [.int 0, .int 0, .null]))])) := hDo
    have hmap : List.map Prod.fst (bs Z b q1 q2 q3 q4 (fun j => if j < 4 then 10 else 0) f2 f (fun _ => none) (M ++ L ++ [(q, .inr (1, [.int 0, .int 0, .null]))])) = List.map Prod.fst (bs Z b q1 q2 q3 q4 (fun j => if j < 4 then 10 else 0) f2 f (fun _ => none) (M ++ L ++ [(q, .inr (1, [.int 0, .int 0, .ref v]))])) := by simp
    have hD1 := va_D_push (x := .inl (Z.2.1 0, 10, .inl (fun _ => 0))) (v := v) (va_D_map hmap hDo2) (hA v (Nat.le_trans hS.1 hv.1)) (fun k x hx => by
      have hx2 : ((bs Z b q1 q2 q3 q4 (fun j => if j < 4 then 10 else 0) f2 f (fun _ => none) (M ++ L ++ [(q, .inr (1, [.int 0, .int 0, .ref v]))])).map Prod.fst)[k]? = some x.1 := by rw [List.getElem?_map, hx]; rfl
      have hx3 : ((bs Z b q1 q2 q3 q4 (fun j => if j < 4 then 10 else 0) f2 f (fun _ => none) (M ++ L ++ [(q, .inr (1, [.int 0, .int 0, .null]))])).map Prod.fst)[k]? = some x.1 := by rw [hmap]; exact hx2
      rw [List.getElem?_map] at hx3
      cases hx4 : (bs Z b q1 q2 q3 q4 (fun j => if j < 4 then 10 else 0) f2 f (fun _ => none) (M ++ L ++ [(q, .inr (1, [.int 0, .int 0, .null]))]))[k]? with
      | none => rw [hx4] at hx3; cases hx3
      | some x0 =>
        rw [hx4] at hx3
        have hx5 : x0.1 = x.1 := Option.some.inj hx3
        have hlt : x0.1 < H.size := (hP k x0 hx4).lt
        have := hv.1
        omega)
    clear hP hD hS
    have hS := hS1
    have hP : va_P Z.1 vwCl (bs Z b q1 q2 q3 q4 (fun j => if j < 4 then 10 else 0) f2 f (fun _ => none) (M ++ L ++ [(q, .inr (1, [.int 0, .int 0, .ref v]))] ++ [(v, .inl (Z.2.1 0, 10, .inl (fun _ => 0)))])) H1 := by rw [List.append_assoc]; exact hP1
    have hD : va_D (fx_A 1 (fun _ => b) s.heap.size) (bs Z b q1 q2 q3 q4 (fun j => if j < 4 then 10 else 0) f2 f (fun _ => none) (M ++ L ++ [(q, .inr (1, [.int 0, .int 0, .ref v]))] ++ [(v, .inl (Z.2.1 0, 10, .inl (fun _ => 0)))])) := hD1
    rw [show M ++ L ++ [(q, .inr (1, [.int 0, .int 0, .ref v]))] ++ [(v, .inl (Z.2.1 0, 10, .inl (fun _ => 0)))] = M ++ L ++ [(q, .inr (1, [.int 0, .int 0, .ref v])), (v, .inl (Z.2.1 0, 10, .inl (fun _ => 0)))] by simp] at hP hD
    refine va_astq hx hb hE.1 hP hD hS 3 2 ((M ++ L).length + 5) 1 (cA := Z.2.1 2) (r := (RX0, TX0, 3)) rfl rfl (by show (M ++ L ++ [(q, .inr (1, [.int 0, .int 0, .ref v])), (v, .inl (Z.2.1 0, 10, .inl (fun _ => 0)))])[(M ++ L).length]? = _; rw [List.getElem?_append_right (Nat.le_refl _), Nat.sub_self]; rfl) rfl (vp_in_nI (by omega) (by decide)) dX3_init_121 (fun H2 locs2 hP hD hS => ?_)
    rw [nI_clamp (by omega)] at hP hD
    have hP : va_P Z.1 vwCl (bs Z b q1 q2 q3 q4 (fun j => if j < 4 then 10 else 0) f2 (va_up f i (some q)) (fun _ => none) (M ++ L ++ [(q, .inr (1, [.int 0, .int 0, .ref v])), (v, .inl (Z.2.1 0, 10, .inl (fun _ => 0)))])) H2 := hP
    have hD : va_D (fx_A 1 (fun _ => b) s.heap.size) (bs Z b q1 q2 q3 q4 (fun j => if j < 4 then 10 else 0) f2 (va_up f i (some q)) (fun _ => none) (M ++ L ++ [(q, .inr (1, [.int 0, .int 0, .ref v])), (v, .inl (Z.2.1 0, 10, .inl (fun _ => 0)))])) := hD
    rw [List.append_assoc] at hP hD
    refine lv_iinc (v := nI (i + 1)) (lv' := [(1, .int (nI (i + 1))), (0, .ref b)]) hx hb dX3_init_122 hl (k := 0) rfl (nI_1 _) (by decide) rfl (fun ls hl => ?_)
    refine lv_goto (tgt := 103) hx hb dX3_init_125 (by decide) ?_
    have hgo := ih (i + 1) (by omega) (L ++ [(q, .inr (1, [.int 0, .int 0, .ref v])), (v, .inl (Z.2.1 0, 10, .inl (fun _ => 0)))]) (va_up f i (some q)) H2 locs2 ls (okF_s hok) hP hD hS hl
    rw [show 64 + 2 * (i + 1) = 64 + 2 * i + 1 + 1 by omega, show 634 + 13 * (i + 1) = 634 + 13 * i + 3 + 10 by omega] at hgo
    exact hgo
set_option maxHeartbeats 4000000 in
set_option maxRecDepth 100000 in
theorem x3_T (M : va_W) (f2 f3 : Nat → Option Nat) (K : x_K p s m c Z b) (kk : ∀ (L : va_W) (f : Nat → Option Nat) (H : Heap) (locs : List Loc) (ls : Array Slot), okE (.inr (3, [.int 0, .int 0, .int 0, .int 0, .int 0])) L f 10 → va_P Z.1 vwCl (bs Z b q1 q2 q3 q4 (fun j => if j < 4 then 10 else 0) f2 f3 f (M ++ L)) H → va_D (fx_A 1 (fun _ => b) s.heap.size) (bs Z b q1 q2 q3 q4 (fun j => if j < 4 then 10 else 0) f2 f3 f (M ++ L)) → va_S (fx_A 1 (fun _ => b) s.heap.size) s.heap H locs → lv_has ls 2 [(1, .int (nI 10)), (0, .ref b)] → W p l e (headSpec (fx_l yX3_init cX3_init 2 none) { frames := 2, cells := 114, slots := 944, locals := 32 }).room s m ([.ref b] : List Value).toArray below meth c H locs (104 + 1 * 10) (894 + 5 * 10) Q (F0 m 155 ls [])) :
    ∀ (d i : Nat), i + d = 10 → ∀ (L : va_W) (f : Nat → Option Nat) (H : Heap) (locs : List Loc) (ls : Array Slot), okE (.inr (3, [.int 0, .int 0, .int 0, .int 0, .int 0])) L f i → va_P Z.1 vwCl (bs Z b q1 q2 q3 q4 (fun j => if j < 4 then 10 else 0) f2 f3 f (M ++ L)) H → va_D (fx_A 1 (fun _ => b) s.heap.size) (bs Z b q1 q2 q3 q4 (fun j => if j < 4 then 10 else 0) f2 f3 f (M ++ L)) → va_S (fx_A 1 (fun _ => b) s.heap.size) s.heap H locs → lv_has ls 2 [(1, .int (nI i)), (0, .ref b)] → W p l e (headSpec (fx_l yX3_init cX3_init 2 none) { frames := 2, cells := 114, slots := 944, locals := 32 }).room s m ([.ref b] : List Value).toArray below meth c H locs (104 + 1 * i) (894 + 5 * i) Q (F0 m 130 ls []) := by
  have K0 := K
  obtain ⟨hx, hb, hml, hown, hT, hE, hSt⟩ := K0
  have hA : ∀ q, s.heap.size ≤ q → fx_A 1 (fun _ => b) s.heap.size q := fun q h => Or.inr h
  intro d
  induction d with
  | zero =>
    intro i hi L f H locs ls hok hP hD hS hl
    have hi9 : i = 10 := by omega
    subst hi9
    refine lv_iload_n hx hb dX3_init_130 rfl (lv_at hl 0 rfl) ?_
    refine lv_bipush (v := 10) hx hb dX3_init_131 (by decide) ?_
    refine lv_icmp_ge (tgt := 155) hx hb dX3_init_133 (by decide) (fun _ => ?_) (fun c1 => absurd (nI_le (a := 10) (Nat.le_refl 10) (by decide)) c1)
    exact kk L f H locs ls hok hP hD hS hl
  | succ d ih =>
    intro i hi L f H locs ls hok hP hD hS hl
    refine lv_iload_n hx hb dX3_init_130 rfl (lv_at hl 0 rfl) ?_
    refine lv_bipush (v := 10) hx hb dX3_init_131 (by decide) ?_
    refine lv_icmp_ge (tgt := 155) hx hb dX3_init_133 (by decide) (fun c1 => absurd c1 (nI_ge (b := 10) (by omega) (by omega))) (fun _ => ?_)
    refine lv_aload_n hx hb dX3_init_136 rfl (lv_at hl 1 rfl) ?_
    refine va_get (D := Z.1) (ci := 4) (v := .ref q4) (C := RX3) (T := TX3) (N := 7) (ref := "Ferrytax") hx hb hT i_X3 hown hE.1 hP 0 rfl rfl 3 (by decide) (hT (.fieldLink RX3 27 "Ferrytax" "travellers" "[LFerrytax$Traveller;") (fx_w 147 (by decide +kernel) rfl)) (fun _ h9 => h9) rfl dX3_init_137 ?_
    refine lv_iload_n hx hb dX3_init_140 rfl (lv_at hl 0 rfl) ?_
    refine va_new (D := Z.1) (ci := 3) (C := RX2) (T := TX2) (N := 5) (fs := [.int 0, .int 0, .int 0, .int 0, .int 0]) hx hb hT i_X2 tyX2 tyX2_ok hown (hT (.classLink RX3 25 RX2) (fx_w 71 (by decide +kernel) rfl)) (hT (.instantiable RX2 5) (fx_w 123 (by decide +kernel) rfl)) (hT (.initialized RX2) (fx_w 40 (by decide +kernel) rfl)) hE.1 hP hD hS hA rfl ?_ (by show 104 + 1 * i + 1 ≤ 114; omega) (by show 894 + 5 * i + 5 ≤ 944; omega) dX3_init_141 (fun q H hP hD hS => ?_)
    · intro j hj
      match j, hj with
      | 0, _ => rfl
      | 1, _ => rfl
      | 2, _ => rfl
      | 3, _ => rfl
      | 4, _ => rfl
    refine lv_dup hx hb dX3_init_144 rfl ?_
    refine fi_callIN (rest := [.ref q, .int (nI i), .ref q4]) (N := 0) (ad := fun _ => 0) (F := e0_F) (A := fx_A 1 (fun _ => b) s.heap.size) (host := RX3) hx hb hml hown hT hE hSt (fun k hk => absurd hk (by omega)) hA (fun k q hk => absurd hk (by simp [iw])) hS (c_X2_init l Z q) (fx_w 126 (by decide +kernel) rfl) (fx_w 40 (by decide +kernel) rfl) (List.mem_of_getElem? (i := 9) rfl) (by decide +kernel) (fx_w 125 (by decide +kernel) rfl) rfl rfl ⟨(Nat.le_of_ble_eq_true rfl), (Nat.le_of_ble_eq_true rfl)⟩ rfl hl.1 (Nat.le_of_ble_eq_true rfl) ⟨(by show 104 + 1 * i + 1 + 0 ≤ 114; omega), (by show 894 + 5 * i + 5 + 0 ≤ 944; omega)⟩ dX3_init_145 (fun _ H1 locs1 _ hS hz hk => ?_)
    have hP := hP.kept (H1 := H1) (fun k x hx => hk x.1 (hP k x hx).lt (by
      have hlt := (hP k x hx).lt
      rintro (⟨k2, hk2, -⟩ | h)
      · omega
      · omega))
    have hP : va_P Z.1 vwCl (bs Z b q1 q2 q3 q4 (fun j => if j < 4 then 10 else 0) f2 f3 f (M ++ L ++ [(q, .inr (3, [.int 0, .int 0, .int 0, .int 0, .int 0]))])) H1 := hP
    have hD : va_D (fx_A 1 (fun _ => b) s.heap.size) (bs Z b q1 q2 q3 q4 (fun j => if j < 4 then 10 else 0) f2 f3 f (M ++ L ++ [(q, .inr (3, [.int 0, .int 0, .int 0, .int 0, .int 0]))])) := hD
    refine va_astq hx hb hE.1 hP hD hS 4 3 ((M ++ L).length + 5) 3 (cA := Z.2.1 3) (r := (RX2, TX2, 5)) rfl rfl (by show (M ++ L ++ [(q, .inr (3, [.int 0, .int 0, .int 0, .int 0, .int 0]))])[(M ++ L).length]? = _; rw [List.getElem?_append_right (Nat.le_refl _), Nat.sub_self]; rfl) rfl (vp_in_nI (by omega) (by decide)) dX3_init_148 (fun H2 locs2 hP hD hS => ?_)
    rw [nI_clamp (by omega)] at hP hD
    have hP : va_P Z.1 vwCl (bs Z b q1 q2 q3 q4 (fun j => if j < 4 then 10 else 0) f2 f3 (va_up f i (some q)) (M ++ L ++ [(q, .inr (3, [.int 0, .int 0, .int 0, .int 0, .int 0]))])) H2 := hP
    have hD : va_D (fx_A 1 (fun _ => b) s.heap.size) (bs Z b q1 q2 q3 q4 (fun j => if j < 4 then 10 else 0) f2 f3 (va_up f i (some q)) (M ++ L ++ [(q, .inr (3, [.int 0, .int 0, .int 0, .int 0, .int 0]))])) := hD
    rw [List.append_assoc] at hP hD
    refine lv_iinc (v := nI (i + 1)) (lv' := [(1, .int (nI (i + 1))), (0, .ref b)]) hx hb dX3_init_149 hl (k := 0) rfl (nI_1 _) (by decide) rfl (fun ls hl => ?_)
    refine lv_goto (tgt := 130) hx hb dX3_init_152 (by decide) ?_
    have hgo := ih (i + 1) (by omega) (L ++ [(q, .inr (3, [.int 0, .int 0, .int 0, .int 0, .int 0]))]) (va_up f i (some q)) H2 locs2 ls (okE_s hok) hP hD hS hl
    rw [show 104 + 1 * (i + 1) = 104 + 1 * i + 1 + 0 by omega, show 894 + 5 * (i + 1) = 894 + 5 * i + 5 + 0 by omega] at hgo
    exact hgo
end FXX
