/-! ===== my kit: words, indexed worlds, the uniform contract ===== -/
/-- all good words of the tables: every method's list is its code and these -/
def fx_ws : List Cond := lw_tbl.filter goodWord
theorem fx_w {w : Cond} (i : Nat) (h : lw_tbl[i]? = some w) (g : goodWord w = true) : w ∈ fx_ws := List.mem_filter.mpr ⟨List.mem_of_getElem? h, g⟩
theorem fx_wg {w : Cond} (h : w ∈ fx_ws) : goodWord w = true := (List.mem_filter.mp h).2
/-- a method's own list -/
abbrev fx_l (y : MethodName) (cc : ByteArray) (n : Nat) (ret : Option FieldType) : List Cond := Cond.code y cc n ret :: fx_ws
theorem fx_lg {y : MethodName} {cc : ByteArray} {n : Nat} {ret : Option FieldType} : ∀ w ∈ fx_l y cc n ret, goodWord w = true := by
  intro w hw
  rcases List.mem_cons.mp hw with rfl | h
  · rfl
  · exact fx_wg h
theorem fx_in {y : MethodName} {cc : ByteArray} {n : Nat} {ret : Option FieldType} {w0 : Cond} (h : Cond.code y cc n ret ∈ fx_ws) : GoodIn (w0 :: fx_ws) (fx_l y cc n ret) := by
  intro w hw
  refine ⟨?_, good_of_word (fx_lg w hw)⟩
  rcases List.mem_cons.mp hw with rfl | h9
  · exact List.mem_cons_of_mem _ h
  · exact List.mem_cons_of_mem _ h9
/-- the words that hold everywhere, but are no good words -/
def fx_wb : List Cond := [.castable "java/lang/IndexOutOfBoundsException" "java/lang/IndexOutOfBoundsException", .castable "java/lang/IllegalArgumentException" "java/lang/IllegalArgumentException", .castable "java/lang/IllegalStateException" "java/lang/IllegalStateException",
  .declares ⟨"java/lang/RuntimeException", "<init>", "(Ljava/lang/String;)V"⟩, .declares ⟨"java/lang/Exception", "<init>", "(Ljava/lang/String;)V"⟩, .declares ⟨"java/lang/Throwable", "<init>", "(Ljava/lang/String;)V"⟩,
  .selects "java/lang/StringBuilder" ⟨"java/lang/AbstractStringBuilder", "ensureCapacityInternal", "(I)V"⟩ ⟨"java/lang/AbstractStringBuilder", "ensureCapacityInternal", "(I)V"⟩,
  .methodLinkNest RX3 41 yX1_init RX3, .methodLinkNest RX3 42 yX0_init RX3, .methodLinkNest RX3 43 yX2_init RX3]
def fx_wc : List Cond := [.arrayClass .int, .arrayClass .byte, .arrayClass .long, .arrayOver (.object RX1), .arrayOver (.object RX0), .arrayOver (.object RX2)]
theorem fx_wbt : ∀ w ∈ fx_wb, w.onTables = true := by decide
theorem fx_wbw {s U : State} (hW : s.WarmedH U.vm) (h : ∀ w ∈ fx_wb ++ fx_wc, va_Nw w s) : ∀ w ∈ fx_wb ++ fx_wc, va_Nw w U := by
  intro w hw
  have h1 := h w hw
  simp only [fx_wb, fx_wc, List.cons_append, List.nil_append, List.mem_cons, List.not_mem_nil, or_false] at hw
  have hp : ∀ w0 : Cond, va_Nw w0 s → ((w0.onTables && w0.keeps) = true ∨ ∃ ty, w0 = .arrayClass ty) → va_Nw w0 U := fun w0 h9 hg => pay_in (big := [w0]) (args := #[]) (s := s) (fun w hw => by rw [List.mem_singleton.mp hw]; exact h9) (ws := [w0]) (fun w hw => ⟨hw, by rw [List.mem_singleton.mp hw]; exact hg⟩) w0 List.mem_cons_self #[] U hW
  rcases hw with rfl | rfl | rfl | rfl | rfl | rfl | rfl | rfl | rfl | rfl | rfl | rfl | rfl | rfl | rfl | rfl
  · exact va_Nw.warmC hW h1
  · exact va_Nw.warmC hW h1
  · exact va_Nw.warmC hW h1
  · exact va_Nw.warmD hW h1
  · exact va_Nw.warmD hW h1
  · exact va_Nw.warmD hW h1
  · exact hp _ h1 (Or.inl rfl)
  · exact va_Nw.warmM hW h1
  · exact va_Nw.warmM hW h1
  · exact va_Nw.warmM hW h1
  · exact hp _ h1 (Or.inr ⟨_, rfl⟩)
  · exact hp _ h1 (Or.inr ⟨_, rfl⟩)
  · exact hp _ h1 (Or.inr ⟨_, rfl⟩)
  · exact va_AO.moved hW.alike h1
  · exact va_AO.moved hW.alike h1
  · exact va_AO.moved hW.alike h1
theorem fx_wbs {u U : State} (hv : u.vm = U.vm) (h : ∀ w ∈ fx_wb ++ fx_wc, va_Nw w u) : ∀ w ∈ fx_wb ++ fx_wc, va_Nw w U := fx_wbw (by rw [← hv]; exact State.WarmedH.refl u) h
/-- the texts of the throws: their places in the class's pool -/
def fx_tx : List (Nat × String) := [(229, "there is no such kind"), (50, "the rate is out of range"), (227, "there is no such shop"), (231, "there is no such traveller"), (62, "the price is out of range"), (237, "the traveller has left"), (70, "there are as many receipts as there may be"), (233, "there is no such receipt"), (239, "the receipt is not OPEN"), (102, "it is too late to give the goods back"), (104, "the hour is out of range"), (106, "the seats are out of range"), (108, "there are as many ferries as there may be"), (235, "there is no such ferry"), (241, "the ferry has sailed"), (127, "the traveller has a seat there"), (133, "no seat is left"), (243, "the traveller has no seat there"), (245, "it is too early"), (153, "the traveller is aboard of a ferry"), (159, "the price is too low for a stamp"), (161, "the receipt is not STAMPED"), (174, "the traveller has not left"), (179, "the hours are out of range"), (181, "the hour would be above the last one"), (189, "what is out of range"), (193, "the place is below 0")]
/-- what is the same in a whole run: classes' numbers and slots, the array classes, the texts' addresses -/
abbrev fx_Z : Type := va_G × (Nat → ClassId) × (Nat → Nat)
abbrev fx_tys (Z : fx_Z) : List (ClassId × FieldType) := [(Z.2.1 0, .int), (Z.2.1 1, .object RX1), (Z.2.1 2, .object RX0), (Z.2.1 3, .object RX2), (Z.2.1 4, .long), (Z.2.1 5, .byte)]
def fx_E (Z : fx_Z) (U : State) : Prop := va_K Z.1 vwCl (fx_tys Z) U ∧ (∀ q ∈ fx_tx, vk_R RX3 q.1 q.2 (Z.2.2 q.1) U) ∧ (∀ w ∈ fx_wb ++ fx_wc, va_Nw w U) ∧ va_Nc "java/lang/IllegalArgumentException" "java/lang/IndexOutOfBoundsException" U ∧ va_Nc "java/lang/IllegalStateException" "java/lang/IndexOutOfBoundsException" U ∧ va_Nc "java/lang/IllegalStateException" "java/lang/IllegalArgumentException" U
/-- the two tables of digits -/
def fx_T (n : String) (f : Nat → Nat) (A : Nat → Prop) (U : State) (H : Heap) : Prop := ∃ t : Nat, va_Z "java/lang/Integer" n "[B" (.ref t) A U H ∧ va_T .byte t 100 (fun j => .int (nI (f j))) A U H
theorem fx_T.moved {n : String} {f : Nat → Nat} {A : Nat → Prop} {u U : State} {H : Heap} (hvm : u.vm.Alike U.vm) (h : fx_T n f A u H) : fx_T n f A U H := by
  obtain ⟨t, h1, h2⟩ := h
  exact ⟨t, va_Z.moved hvm h1, va_T.moved hvm h2⟩
theorem fx_T.kept {n : String} {f : Nat → Nat} {A : Nat → Prop} {U : State} {H H1 : Heap} (h : fx_T n f A U H) (hq : ∀ a : Nat, a < H.size → ¬ A a → H1[a]? = H[a]?) : fx_T n f A U H1 := by
  obtain ⟨t, h1, h2⟩ := h
  exact ⟨t, h1.kept hq, h2.kept hq⟩
theorem fx_T.narrow {n : String} {f : Nat → Nat} {A B : Nat → Prop} {U : State} {H : Heap} (h : fx_T n f A U H) (hAB : ∀ q, B q → A q) : fx_T n f B U H := by
  obtain ⟨t, h1, h2⟩ := h
  exact ⟨t, h1.narrow hAB, h2.narrow hAB⟩
def fx_S (A : Nat → Prop) (U : State) (H : Heap) : Prop := vx_Zq Bundle.tN "UNASSIGNED_STACK" Bundle.steD A U H ∧ vx_Zq Bundle.tN "SUPPRESSED_SENTINEL" Bundle.listD A U H ∧ va_Z "java/lang/String" "COMPACT_STRINGS" "Z" (.int 1) A U H ∧ va_Zq "jdk/internal/util/Preconditions" "SIOOBE_FORMATTER" "Ljava/util/function/BiFunction;" A U H ∧ fx_T "DigitOnes" (fun j => 48 + j % 10) A U H ∧ fx_T "DigitTens" (fun j => 48 + j / 10) A U H
theorem fx_E.warm {Z : fx_Z} {s U : State} (hW : s.WarmedH U.vm) (h : fx_E Z s) : fx_E Z U := by
  obtain ⟨h1, h2, h3, h4, h5, h6⟩ := h
  exact ⟨va_K.moved hW.alike h1, fun q hq => vk_R.warm hW (h2 q hq), fx_wbw hW h3, va_Nc.moved hW.alike h4, va_Nc.moved hW.alike h5, va_Nc.moved hW.alike h6⟩
theorem fx_E.same {Z : fx_Z} {u U : State} (hv : u.vm = U.vm) (h : fx_E Z u) : fx_E Z U := by
  obtain ⟨h1, h2, h3, h4, h5, h6⟩ := h
  have ha : u.vm.Alike U.vm := by rw [hv]; exact Vm.Alike.refl _
  exact ⟨va_K.moved ha h1, fun q hq => vk_R.same hv.symm (h2 q hq), fx_wbs hv h3, va_Nc.moved ha h4, va_Nc.moved ha h5, va_Nc.moved ha h6⟩
theorem fx_S.moved {A : Nat → Prop} {u U : State} {H : Heap} (hvm : u.vm.Alike U.vm) (h : fx_S A u H) : fx_S A U H := ⟨vx_Zq.moved hvm h.1, vx_Zq.moved hvm h.2.1, va_Z.moved hvm h.2.2.1, va_Zq.moved hvm h.2.2.2.1, fx_T.moved hvm h.2.2.2.2.1, fx_T.moved hvm h.2.2.2.2.2⟩
theorem fx_S.kept {A : Nat → Prop} {U : State} {H H1 : Heap} (h : fx_S A U H) (hq : ∀ a : Nat, a < H.size → ¬ A a → H1[a]? = H[a]?) : fx_S A U H1 := ⟨h.1.kept hq, h.2.1.kept hq, h.2.2.1.kept hq, h.2.2.2.1.kept hq, h.2.2.2.2.1.kept hq, h.2.2.2.2.2.kept hq⟩
theorem fx_S.narrow {A B : Nat → Prop} {U : State} {H : Heap} (h : fx_S A U H) (hAB : ∀ q, B q → A q) : fx_S B U H := ⟨h.1.narrow hAB, h.2.1.narrow hAB, h.2.2.1.narrow hAB, h.2.2.2.1.narrow hAB, h.2.2.2.2.1.narrow hAB, h.2.2.2.2.2.narrow hAB⟩
/-! indexed worlds -/
def iw (N : Nat) (F : Nat → Nat × va_E) : va_W := (List.range N).map F
theorem iw_at {N : Nat} {F : Nat → Nat × va_E} {k : Nat} (h : k < N) : (iw N F)[k]? = some (F k) := by simp [iw, h]
theorem iw_lt {N : Nat} {F : Nat → Nat × va_E} {k : Nat} {q : Nat × va_E} (h : (iw N F)[k]? = some q) : k < N ∧ q = F k := by
  have hl : k < (iw N F).length := (List.getElem?_eq_some_iff.mp h).1
  have hk : k < N := by simpa [iw] using hl
  exact ⟨hk, Option.some.inj (h.symm.trans (iw_at hk))⟩
theorem iw_congr {N : Nat} {F G : Nat → Nat × va_E} (h : ∀ k, k < N → F k = G k) : iw N F = iw N G := List.map_congr_left fun k hk => h k (List.mem_range.mp hk)
theorem iw_set {N : Nat} {F G : Nat → Nat × va_E} {k : Nat} {e : Nat × va_E} (hk : k < N) (h : ∀ j, j < N → G j = if j = k then e else F j) : (iw N F).set k e = iw N G := by
  apply List.ext_getElem?
  intro j
  by_cases hj : j < N
  · rw [iw_at hj, h j hj]
    by_cases e9 : j = k
    · subst e9
      rw [List.getElem?_set_self (by simpa [iw] using hj), if_pos rfl]
    · rw [List.getElem?_set_ne (fun q => e9 q.symm), iw_at hj, if_neg e9]
  · rw [List.getElem?_eq_none (by simp [iw]; omega), List.getElem?_eq_none (by simp [iw]; omega)]
theorem iw_push {N : Nat} {F G : Nat → Nat × va_E} {e : Nat × va_E} (h : ∀ j, j < N → G j = F j) (he : G N = e) : iw N F ++ [e] = iw (N + 1) G := by
  show (List.range N).map F ++ [e] = (List.range (N + 1)).map G
  rw [List.range_succ, List.map_append, ← he]
  congr 1
  exact List.map_congr_left fun k hk => (h k (List.mem_range.mp hk)).symm
/-- what may be written: the world's addresses, and what is new -/
def fx_A (N : Nat) (ad : Nat → Nat) (sz : Nat) : Nat → Prop := fun q => (∃ k, k < N ∧ ad k = q) ∨ sz ≤ q
def fx_inj (N : Nat) (ad : Nat → Nat) : Prop := ∀ i j : Nat, i < N → j < N → ad i = ad j → i = j
theorem fx_D {N : Nat} {ad : Nat → Nat} {A : Nat → Prop} {F : Nat → Nat × va_E} (hi : fx_inj N ad) (hF : ∀ k, k < N → (F k).1 = ad k) (hA : ∀ k, k < N → A (ad k)) : va_D A (iw N F) := by
  refine ⟨fun i j p q h1 h2 he => ?_, fun k q h => ?_⟩
  · obtain ⟨k1, rfl⟩ := iw_lt h1
    obtain ⟨k2, rfl⟩ := iw_lt h2
    exact hi i j k1 k2 (by rw [← hF i k1, ← hF j k2]; exact he)
  · obtain ⟨k1, rfl⟩ := iw_lt h
    rw [hF k k1]
    exact hA k k1
theorem fx_P_lt {D : va_G} {N : Nat} {F : Nat → Nat × va_E} {H : Heap} (h : va_P D vwCl (iw N F) H) {k : Nat} (hk : k < N) : (F k).1 < H.size := (h k _ (iw_at hk)).lt
theorem fx_P_kept {D : va_G} {N : Nat} {ad : Nat → Nat} {F : Nat → Nat × va_E} {H H1 : Heap} (h : va_P D vwCl (iw N F) H) (hF : ∀ k, k < N → (F k).1 = ad k) (hk : ∀ k, k < N → H1[ad k]? = H[ad k]?) : va_P D vwCl (iw N F) H1 :=
  h.kept fun k q hq => by
    obtain ⟨k1, rfl⟩ := iw_lt hq
    rw [hF k k1]
    exact hk k k1
