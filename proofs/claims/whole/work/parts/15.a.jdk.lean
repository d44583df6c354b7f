/-! ===== the JDK's methods over a StringBuilder of 16 bytes ===== -/
theorem jn_1 : ∀ k, k ≤ 16 → nI k - 16 ≤ 0 := by decide +kernel
theorem jn_2 : ∀ x, x < 128 → ¬ 255 < nI x := by decide +kernel
theorem jn_2b : ∀ x, x < 128 → nI x ≤ 255 := by decide +kernel
theorem jn_3 : ∀ i, i < 100 → -100 < -(nI i) := by decide +kernel
theorem jn_4 : ∀ i, i < 100 → -(-(nI i)) = nI i := by decide +kernel
theorem jn_5 : ∀ i, i < 10 → -9 ≤ -(nI i) := by decide +kernel
theorem jn_6 : ∀ i, i < 100 → 10 ≤ i → ¬ -9 ≤ -(nI i) := by decide +kernel
theorem jn_7 : ∀ i, i < 10 → ¬ -(nI i) ≤ -10 := by decide +kernel
theorem jn_8 : ∀ i, i < 100 → 10 ≤ i → -(nI i) ≤ -10 := by decide +kernel
theorem jn_9 : ∀ i, i < 100 → ¬ -(nI i) ≤ -100 := by decide +kernel
theorem jn_10 : ∀ i, i < 128 → nI i &&& 255 = nI i := by decide +kernel
theorem jn_11 : ∀ i, i < 128 → ((nI i).toUInt32 % 65536).toInt32 = nI i := by decide +kernel
theorem jn_12 : ∀ i, i < 128 → narrow .char (.int (nI i)) = .int (nI i) := by
  intro i hi
  have : ((nI i).toUInt32 % 65536).toInt32 = nI i := jn_11 i hi
  simp [narrow, this]
theorem j_selw : Cond.selects "java/lang/StringBuilder" ⟨"java/lang/AbstractStringBuilder", "ensureCapacityInternal", "(I)V"⟩ ⟨"java/lang/AbstractStringBuilder", "ensureCapacityInternal", "(I)V"⟩ ∈ fx_wb := by simp [fx_wb]
theorem jn_dec {n : Nat} (h : 0 < n) : nI n + (-1) = nI (n - 1) := by
  obtain ⟨k, rfl⟩ : ∃ k, n = k + 1 := ⟨n - 1, by omega⟩
  rw [show k + 1 - 1 = k from rfl, ← nI_pred k]
  exact (Int32.sub_eq_add_neg _ _).symm
theorem okj_J5_100 : fj_ok RJ5 100 yJ5_ensureCapacityInternal_d00df cJ5_ensureCapacityInternal_d00df 3 none 1 := ⟨fx_w 515 (by decide +kernel) rfl, fx_w 512 (by decide +kernel) rfl, fx_w 49 (by decide +kernel) rfl, by decide +kernel⟩
theorem okj_J5_83 : fj_ok RJ5 83 yJ5_isLatin1_aae02 cJ5_isLatin1_aae02 1 (some .boolean) 0 := ⟨fx_w 549 (by decide +kernel) rfl, fx_w 545 (by decide +kernel) rfl, fx_w 49 (by decide +kernel) rfl, by decide +kernel⟩
theorem okj_J5_191 : fj_ok RJ5 191 yJ1_canEncode_fc78d cJ1_canEncode_fc78d 1 (some .boolean) 1 := ⟨fx_w 552 (by decide +kernel) rfl, fx_w 550 (by decide +kernel) rfl, fx_w 56 (by decide +kernel) rfl, by decide +kernel⟩
theorem okj_J4_50 : GoodIn fx_ws (va_wsSU RJ4 50 yJ5_append_3fe6f (fx_l yJ5_append_3fe6f cJ5_append_3fe6f 2 (some (.object "java/lang/AbstractStringBuilder")))) := by
  intro w hw
  rcases List.mem_append.mp hw with h | h
  · have : w ∈ fx_ws := by
      simp only [List.mem_cons, List.not_mem_nil, or_false] at h
      rcases h with rfl | rfl | rfl | rfl | rfl
      · exact fx_w 509 (by decide +kernel) rfl
      · exact fx_w 876 (by decide +kernel) rfl
      · exact fx_w 504 (by decide +kernel) rfl
      · exact fx_w 510 (by decide +kernel) rfl
      · exact fx_w 49 (by decide +kernel) rfl
    exact ⟨this, good_of_word (fx_wg this)⟩
  · exact fx_good0 (fx_w 511 (by decide +kernel) rfl) w h
theorem okj_J5_245 : fj_ok RJ5 245 yJ6_stringSize_0f7a4 cJ6_stringSize_0f7a4 4 (some .int) 1 := ⟨fx_w 607 (by decide +kernel) rfl, fx_w 605 (by decide +kernel) rfl, fx_w 58 (by decide +kernel) rfl, by decide +kernel⟩
theorem okj_J5_248 : fj_ok RJ5 248 yJ6_getChars_ba4f3 cJ6_getChars_ba4f3 7 (some .int) 3 := ⟨fx_w 610 (by decide +kernel) rfl, fx_w 608 (by decide +kernel) rfl, fx_w 58 (by decide +kernel) rfl, by decide +kernel⟩
theorem okj_J4_53 : GoodIn fx_ws (va_wsSU RJ4 53 yJ5_append_c97b9 (fx_l yJ5_append_c97b9 cJ5_append_c97b9 4 (some (.object "java/lang/AbstractStringBuilder")))) := by
  intro w hw
  rcases List.mem_append.mp hw with h | h
  · have : w ∈ fx_ws := by
      simp only [List.mem_cons, List.not_mem_nil, or_false] at h
      rcases h with rfl | rfl | rfl | rfl | rfl
      · exact fx_w 602 (by decide +kernel) rfl
      · exact fx_w 880 (by decide +kernel) rfl
      · exact fx_w 504 (by decide +kernel) rfl
      · exact fx_w 603 (by decide +kernel) rfl
      · exact fx_w 49 (by decide +kernel) rfl
    exact ⟨this, good_of_word (fx_wg this)⟩
  · exact fx_good0 (fx_w 604 (by decide +kernel) rfl) w h
theorem okj_J4_343 : GoodIn fx_ws (va_wsSU RJ4 343 yJ5_length_8abf5 (fx_l yJ5_length_8abf5 cJ5_length_8abf5 1 (some .int))) := by
  intro w hw
  rcases List.mem_append.mp hw with h | h
  · have : w ∈ fx_ws := by
      simp only [List.mem_cons, List.not_mem_nil, or_false] at h
      rcases h with rfl | rfl | rfl | rfl | rfl
      · exact fx_w 640 (by decide +kernel) rfl
      · exact fx_w 881 (by decide +kernel) rfl
      · exact fx_w 504 (by decide +kernel) rfl
      · exact fx_w 641 (by decide +kernel) rfl
      · exact fx_w 49 (by decide +kernel) rfl
    exact ⟨this, good_of_word (fx_wg this)⟩
  · exact fx_good0 (fx_w 642 (by decide +kernel) rfl) w h
theorem okj_J0_1059 : fj_ok RJ0 1059 yJ3_checkIndex_8e157 cJ3_checkIndex_8e157 3 (some .int) 3 := ⟨fx_w 597 (by decide +kernel) rfl, fx_w 595 (by decide +kernel) rfl, fx_w 57 (by decide +kernel) rfl, by decide +kernel⟩
theorem okj_J5_144 : fj_ok RJ5 144 yJ0_checkIndex_df160 cJ0_checkIndex_df160 2 none 2 := ⟨fx_w 594 (by decide +kernel) rfl, fx_w 651 (by decide +kernel) rfl, fx_w 51 (by decide +kernel) rfl, by decide +kernel⟩
theorem okj_J4_329 : GoodIn fx_ws (va_wsSU RJ4 329 yJ5_charAt_5068e (fx_l yJ5_charAt_5068e cJ5_charAt_5068e 5 (some .char))) := by
  intro w hw
  rcases List.mem_append.mp hw with h | h
  · have : w ∈ fx_ws := by
      simp only [List.mem_cons, List.not_mem_nil, or_false] at h
      rcases h with rfl | rfl | rfl | rfl | rfl
      · exact fx_w 647 (by decide +kernel) rfl
      · exact fx_w 882 (by decide +kernel) rfl
      · exact fx_w 504 (by decide +kernel) rfl
      · exact fx_w 648 (by decide +kernel) rfl
      · exact fx_w 49 (by decide +kernel) rfl
    exact ⟨this, good_of_word (fx_wg this)⟩
  · exact fx_good0 (fx_w 649 (by decide +kernel) rfl) w h
set_option maxHeartbeats 4000000 in
set_option maxRecDepth 100000 in
theorem cj_ensure (l : Launch) (Z : fx_Z) (b v : Nat) (hbv : b ≠ v) (t : Nat → Nat) (n : Nat) (k : Nat) (hk : k ≤ 16) : fj_C l Z yJ5_ensureCapacityInternal_d00df cJ5_ensureCapacityInternal_d00df 3 none 0 0 0 0 2 (jad b v) (jF b v (Z.2.1 5)) (t, n) [.ref b, .int (nI k)] (fun w8 u8 => w8 = none ∧ u8 = (t, n)) := by
  intro sz
  refine va_MetF (cc := cJ5_ensureCapacityInternal_d00df) (maxL := 3) (ret := none) (by decide +kernel) rfl ?_
  intro p e s m args below meth c s₁ B hml hv
  obtain ⟨rfl, hsz, hP, hE9, hSt9⟩ := hv
  subst hsz
  have hx := B.exec
  have hb := B.bytes
  have hr := B.returns
  have hown : s.vm.findClass RJ5 = some m.cls := findClass_of_methodNamed B.named
  have hlocks := B.notSynchronized
  have hT9 : ∀ w ∈ fx_ws, w.before ([.ref b, .int (nI k)] : List Value).toArray s = true := fun w hw => atoms_spec (ws := fx_l yJ5_ensureCapacityInternal_d00df cJ5_ensureCapacityInternal_d00df 3 none) B.pre w (List.mem_cons_of_mem _ hw)
  have K : j_K p s m ([.ref b, .int (nI k)] : List Value).toArray c cJ5_ensureCapacityInternal_d00df 3 RJ5 Z b v := ⟨hx, hb, hml, hown, hT9, hE9, hSt9, hbv⟩
  have hS : va_S (fx_A 2 (jad b v) s.heap.size) s.heap s.heap [] := va_S.rf
  have hl := lv_entry ([.ref b, .int (nI k)]) (n := 3) (Nat.le_of_ble_eq_true rfl)
  rw [lg_entry_eq]
  generalize (lg_sl ([.ref b, .int (nI k)]) ++ List.replicate (3 - (lg_sl ([.ref b, .int (nI k)])).length) Slot.unset).toArray = ls at hl ⊢
  have hl : lv_has ls 3 [(0, .ref b), (1, .int (nI k))] := hl
  refine lv_aload_n hx hb dJ5_ensureCapacityInternal_d00df_0 rfl (lv_at hl 0 rfl) ?_
  refine jg_value K hP dJ5_ensureCapacityInternal_d00df_1 ?_
  refine j_alen K hP dJ5_ensureCapacityInternal_d00df_4 ?_
  refine lv_aload_n hx hb dJ5_ensureCapacityInternal_d00df_5 rfl (lv_at hl 0 rfl) ?_
  refine jg_coder K hP dJ5_ensureCapacityInternal_d00df_6 ?_
  refine lv_ishr hx hb dJ5_ensureCapacityInternal_d00df_9 ?_
  rw [show ((16 : Int32) >>> ((0 : Int32) &&& 31) : Int32) = 16 from (by decide)]
  refine lv_istore_n (lv' := [(2, .int 16), (0, .ref b), (1, .int (nI k))]) hx hb dJ5_ensureCapacityInternal_d00df_10 rfl hl (by decide) rfl (fun ls hl => ?_)
  refine lv_iload_n hx hb dJ5_ensureCapacityInternal_d00df_11 rfl (lv_at hl 2 rfl) ?_
  refine lv_iload_n hx hb dJ5_ensureCapacityInternal_d00df_12 rfl (lv_at hl 0 rfl) ?_
  refine lv_isub hx hb dJ5_ensureCapacityInternal_d00df_13 ?_
  refine lv_topi (fun v1 e1 => ?_)
  refine lv_if_le (tgt := 38) hx hb dJ5_ensureCapacityInternal_d00df_14 (by decide) (fun _ => ?_) (fun c2 => absurd (by simp only [e1]; exact jn_1 k hk) c2)
  exact fj_retv (u := (t, n)) hx hb hr hlocks hP hS (Nat.le_of_ble_eq_true rfl) (Nat.le_of_ble_eq_true rfl) dJ5_ensureCapacityInternal_d00df_38 ⟨rfl, rfl⟩

set_option maxHeartbeats 4000000 in
set_option maxRecDepth 100000 in
theorem cj_isLatin1 (l : Launch) (Z : fx_Z) (b v : Nat) (hbv : b ≠ v) (t : Nat → Nat) (n : Nat) : fj_C l Z yJ5_isLatin1_aae02 cJ5_isLatin1_aae02 1 (some .boolean) 0 0 0 0 2 (jad b v) (jF b v (Z.2.1 5)) (t, n) [.ref b] (fun w8 u8 => w8 = some (.int 1) ∧ u8 = (t, n)) := by
  intro sz
  refine va_MetF (cc := cJ5_isLatin1_aae02) (maxL := 1) (ret := (some .boolean)) (by decide +kernel) rfl ?_
  intro p e s m args below meth c s₁ B hml hv
  obtain ⟨rfl, hsz, hP, hE9, hSt9⟩ := hv
  subst hsz
  have hx := B.exec
  have hb := B.bytes
  have hr := B.returns
  have hown : s.vm.findClass RJ5 = some m.cls := findClass_of_methodNamed B.named
  have hlocks := B.notSynchronized
  have hT9 : ∀ w ∈ fx_ws, w.before ([.ref b] : List Value).toArray s = true := fun w hw => atoms_spec (ws := fx_l yJ5_isLatin1_aae02 cJ5_isLatin1_aae02 1 (some .boolean)) B.pre w (List.mem_cons_of_mem _ hw)
  have K : j_K p s m ([.ref b] : List Value).toArray c cJ5_isLatin1_aae02 1 RJ5 Z b v := ⟨hx, hb, hml, hown, hT9, hE9, hSt9, hbv⟩
  have hS : va_S (fx_A 2 (jad b v) s.heap.size) s.heap s.heap [] := va_S.rf
  have hl := lv_entry ([.ref b]) (n := 1) (Nat.le_of_ble_eq_true rfl)
  rw [lg_entry_eq]
  generalize (lg_sl ([.ref b]) ++ List.replicate (1 - (lg_sl ([.ref b])).length) Slot.unset).toArray = ls at hl ⊢
  have hl : lv_has ls 1 [(0, .ref b)] := hl
  refine va_gets hx hb hSt9.2.2.1 hS hown (hT9 (.fieldLink RJ5 18 "java/lang/String" "COMPACT_STRINGS" "Z") (fx_w 484 (by decide +kernel) rfl)) (fun _ h9 => h9) dJ5_isLatin1_aae02_0 ?_
  refine lv_if_eq (tgt := 17) hx hb dJ5_isLatin1_aae02_3 (by decide) (fun c1 => absurd c1 (by decide)) (fun _ => ?_)
  refine lv_aload_n hx hb dJ5_isLatin1_aae02_6 rfl (lv_at hl 0 rfl) ?_
  refine jg_coder K hP dJ5_isLatin1_aae02_7 ?_
  refine lv_if_ne (tgt := 17) hx hb dJ5_isLatin1_aae02_10 (by decide) (fun c2 => absurd (by decide) c2) (fun _ => ?_)
  refine lv_iconst (v := 1) hx hb dJ5_isLatin1_aae02_13 (by decide) ?_
  refine lv_goto (tgt := 18) hx hb dJ5_isLatin1_aae02_14 (by decide) ?_
  exact fj_reti (u := (t, n)) hx hb hr hlocks rfl hP hS (Nat.le_of_ble_eq_true rfl) (Nat.le_of_ble_eq_true rfl) dJ5_isLatin1_aae02_18 ⟨rfl, rfl⟩

set_option maxHeartbeats 4000000 in
set_option maxRecDepth 100000 in
theorem cj_canEncode (l : Launch) (Z : fx_Z) (b v : Nat) (hbv : b ≠ v) (t : Nat → Nat) (n : Nat) (x : Nat) (hx9 : x < 128) : fj_C l Z yJ1_canEncode_fc78d cJ1_canEncode_fc78d 1 (some .boolean) 0 0 0 0 2 (jad b v) (jF b v (Z.2.1 5)) (t, n) [.int (nI x)] (fun w8 u8 => w8 = some (.int 1) ∧ u8 = (t, n)) := by
  intro sz
  refine va_MetF (cc := cJ1_canEncode_fc78d) (maxL := 1) (ret := (some .boolean)) (by decide +kernel) rfl ?_
  intro p e s m args below meth c s₁ B hml hv
  obtain ⟨rfl, hsz, hP, hE9, hSt9⟩ := hv
  subst hsz
  have hx := B.exec
  have hb := B.bytes
  have hr := B.returns
  have hown : s.vm.findClass RJ1 = some m.cls := findClass_of_methodNamed B.named
  have hlocks := B.notSynchronized
  have hT9 : ∀ w ∈ fx_ws, w.before ([.int (nI x)] : List Value).toArray s = true := fun w hw => atoms_spec (ws := fx_l yJ1_canEncode_fc78d cJ1_canEncode_fc78d 1 (some .boolean)) B.pre w (List.mem_cons_of_mem _ hw)
  have K : j_K p s m ([.int (nI x)] : List Value).toArray c cJ1_canEncode_fc78d 1 RJ1 Z b v := ⟨hx, hb, hml, hown, hT9, hE9, hSt9, hbv⟩
  have hS : va_S (fx_A 2 (jad b v) s.heap.size) s.heap s.heap [] := va_S.rf
  have hl := lv_entry ([.int (nI x)]) (n := 1) (Nat.le_of_ble_eq_true rfl)
  rw [lg_entry_eq]
  generalize (lg_sl ([.int (nI x)]) ++ List.replicate (1 - (lg_sl ([.int (nI x)])).length) Slot.unset).toArray = ls at hl ⊢
  have hl : lv_has ls 1 [(0, .int (nI x))] := hl
  refine lv_iload_n hx hb dJ1_canEncode_fc78d_0 rfl (lv_at hl 0 rfl) ?_
  refine lv_sipush (v := 255) hx hb dJ1_canEncode_fc78d_1 (by decide) ?_
  refine lv_icmp_gt (tgt := 11) hx hb dJ1_canEncode_fc78d_4 (by decide) (fun c1 => absurd c1 (jn_2 x hx9)) (fun _ => ?_)
  refine lv_iconst (v := 1) hx hb dJ1_canEncode_fc78d_7 (by decide) ?_
  refine lv_goto (tgt := 12) hx hb dJ1_canEncode_fc78d_8 (by decide) ?_
  exact fj_reti (u := (t, n)) hx hb hr hlocks rfl hP hS (Nat.le_of_ble_eq_true rfl) (Nat.le_of_ble_eq_true rfl) dJ1_canEncode_fc78d_12 ⟨rfl, rfl⟩

set_option maxHeartbeats 4000000 in
set_option maxRecDepth 100000 in
theorem cj_appc5 (l : Launch) (Z : fx_Z) (b v : Nat) (hbv : b ≠ v) (t : Nat → Nat) (n : Nat) (x : Nat) (hn9 : n < 16) (hx9 : x < 128) : fj_C l Z yJ5_append_3fe6f cJ5_append_3fe6f 2 (some (.object "java/lang/AbstractStringBuilder")) 1 22 0 0 2 (jad b v) (jF b v (Z.2.1 5)) (t, n) [.ref b, .int (nI x)] (fun w8 u8 => w8 = some (.ref b) ∧ u8 = ((va_up t n x), (n + 1))) := by
  intro sz
  refine va_MetF (cc := cJ5_append_3fe6f) (maxL := 2) (ret := (some (.object "java/lang/AbstractStringBuilder"))) (by decide +kernel) rfl ?_
  intro p e s m args below meth c s₁ B hml hv
  obtain ⟨rfl, hsz, hP, hE9, hSt9⟩ := hv
  subst hsz
  have hx := B.exec
  have hb := B.bytes
  have hr := B.returns
  have hown : s.vm.findClass RJ5 = some m.cls := findClass_of_methodNamed B.named
  have hlocks := B.notSynchronized
  have hT9 : ∀ w ∈ fx_ws, w.before ([.ref b, .int (nI x)] : List Value).toArray s = true := fun w hw => atoms_spec (ws := fx_l yJ5_append_3fe6f cJ5_append_3fe6f 2 (some (.object "java/lang/AbstractStringBuilder"))) B.pre w (List.mem_cons_of_mem _ hw)
  have K : j_K p s m ([.ref b, .int (nI x)] : List Value).toArray c cJ5_append_3fe6f 2 RJ5 Z b v := ⟨hx, hb, hml, hown, hT9, hE9, hSt9, hbv⟩
  have hS : va_S (fx_A 2 (jad b v) s.heap.size) s.heap s.heap [] := va_S.rf
  have hl := lv_entry ([.ref b, .int (nI x)]) (n := 2) (Nat.le_of_ble_eq_true rfl)
  rw [lg_entry_eq]
  generalize (lg_sl ([.ref b, .int (nI x)]) ++ List.replicate (2 - (lg_sl ([.ref b, .int (nI x)])).length) Slot.unset).toArray = ls at hl ⊢
  have hl : lv_has ls 2 [(0, .ref b), (1, .int (nI x))] := hl
  refine lv_aload_n hx hb dJ5_append_3fe6f_0 rfl (lv_at hl 0 rfl) ?_
  refine lv_aload_n hx hb dJ5_append_3fe6f_1 rfl (lv_at hl 0 rfl) ?_
  refine jg_count K hP dJ5_append_3fe6f_2 ?_
  refine lv_iconst (v := 1) hx hb dJ5_append_3fe6f_5 (by decide) ?_
  refine lv_iadd hx hb dJ5_append_3fe6f_6 ?_
  rw [show ((nI n) + 1 : Int32) = nI (n + 1) from nI_1 n]
  refine fj_callV (rest := []) hx hb hml hown hT9 hE9 hSt9 (fun k hk => j_A hk) j_A2 hP hS (cj_ensure l Z b v hbv t n (n + 1) (by omega)) okj_J5_100 (fx_w 514 (by decide +kernel) rfl) (va_Nw.use rfl (hE9.2.2.1 _ (List.mem_append_left _ j_selw))) (j_recv hE9 hP) rfl ⟨Nat.le_of_ble_eq_true rfl, Nat.le_of_ble_eq_true rfl⟩ rfl hl.1 (Nat.le_of_ble_eq_true rfl) ⟨Nat.le_of_ble_eq_true rfl, Nat.le_of_ble_eq_true rfl⟩ dJ5_append_3fe6f_7 (fun w9 u9 H locs hp9 hP hS _ _ => ?_)
  obtain ⟨rfl, rfl⟩ := hp9
  refine lv_aload_n hx hb dJ5_append_3fe6f_10 rfl (lv_at hl 0 rfl) ?_
  refine fj_callV (rest := []) hx hb hml hown hT9 hE9 hSt9 (fun k hk => j_A hk) j_A2 hP hS (cj_isLatin1 l Z b v hbv t n) okj_J5_83 (fx_w 546 (by decide +kernel) rfl) (hT9 _ (fx_w 548 (by decide +kernel) rfl)) (j_recv hE9 hP) rfl ⟨Nat.le_of_ble_eq_true rfl, Nat.le_of_ble_eq_true rfl⟩ rfl hl.1 (Nat.le_of_ble_eq_true rfl) ⟨Nat.le_of_ble_eq_true rfl, Nat.le_of_ble_eq_true rfl⟩ dJ5_append_3fe6f_11 (fun w9 u9 H locs hp9 hP hS _ _ => ?_)
  obtain ⟨rfl, rfl⟩ := hp9
  refine lv_if_eq (tgt := 45) hx hb dJ5_append_3fe6f_14 (by decide) (fun c3 => absurd c3 (by decide)) (fun _ => ?_)
  refine lv_iload_n hx hb dJ5_append_3fe6f_17 rfl (lv_at hl 1 rfl) ?_
  refine fj_callS (rest := []) hx hb hml hown hT9 hE9 hSt9 (fun k hk => j_A hk) j_A2 hP hS (cj_canEncode l Z b v hbv t n x (by omega)) okj_J5_191 (fx_w 551 (by decide +kernel) rfl) rfl ⟨Nat.le_of_ble_eq_true rfl, Nat.le_of_ble_eq_true rfl⟩ rfl hl.1 (Nat.le_of_ble_eq_true rfl) ⟨Nat.le_of_ble_eq_true rfl, Nat.le_of_ble_eq_true rfl⟩ dJ5_append_3fe6f_18 (fun w9 u9 H locs hp9 hP hS _ _ => ?_)
  obtain ⟨rfl, rfl⟩ := hp9
  refine lv_if_eq (tgt := 45) hx hb dJ5_append_3fe6f_21 (by decide) (fun c5 => absurd c5 (by decide)) (fun _ => ?_)
  refine lv_aload_n hx hb dJ5_append_3fe6f_24 rfl (lv_at hl 0 rfl) ?_
  refine jg_value K hP dJ5_append_3fe6f_25 ?_
  refine lv_aload_n hx hb dJ5_append_3fe6f_28 rfl (lv_at hl 0 rfl) ?_
  refine lv_dup hx hb dJ5_append_3fe6f_29 rfl ?_
  refine jg_count K hP dJ5_append_3fe6f_30 ?_
  refine lv_dup_x1 hx hb dJ5_append_3fe6f_33 rfl rfl ?_
  refine lv_iconst (v := 1) hx hb dJ5_append_3fe6f_34 (by decide) ?_
  refine lv_iadd hx hb dJ5_append_3fe6f_35 ?_
  rw [show ((nI n) + 1 : Int32) = nI (n + 1) from nI_1 n]
  refine jp_count K hP hS dJ5_append_3fe6f_36 (fun H locs hP hS => ?_)
  refine lv_iload_n hx hb dJ5_append_3fe6f_39 rfl (lv_at hl 1 rfl) ?_
  refine lv_i2b (v := nI x) hx hb dJ5_append_3fe6f_40 (j_byte hx9) ?_
  refine j_bast K hP hS (by omega) (by omega) dJ5_append_3fe6f_41 (fun H locs hP hS => ?_)
  refine lv_goto (tgt := 75) hx hb dJ5_append_3fe6f_42 (by decide) ?_
  refine lv_aload_n hx hb dJ5_append_3fe6f_75 rfl (lv_at hl 0 rfl) ?_
  exact fj_reta (u := (va_up t n x, (n + 1))) hx hb hr (Or.inl ⟨_, rfl⟩) hlocks hP hS (Nat.le_of_ble_eq_true rfl) (Nat.le_of_ble_eq_true rfl) dJ5_append_3fe6f_76 ⟨rfl, rfl⟩

set_option maxHeartbeats 4000000 in
set_option maxRecDepth 100000 in
theorem cj_appc4 (l : Launch) (Z : fx_Z) (b v : Nat) (hbv : b ≠ v) (t : Nat → Nat) (n : Nat) (x : Nat) (hn9 : n < 16) (hx9 : x < 128) : fj_C l Z yJ4_append_cf468 cJ4_append_cf468 2 (some (.object "java/lang/StringBuilder")) 2 43 0 0 2 (jad b v) (jF b v (Z.2.1 5)) (t, n) [.ref b, .int (nI x)] (fun w8 u8 => w8 = some (.ref b) ∧ u8 = ((va_up t n x), (n + 1))) := by
  intro sz
  refine va_MetF (cc := cJ4_append_cf468) (maxL := 2) (ret := (some (.object "java/lang/StringBuilder"))) (by decide +kernel) rfl ?_
  intro p e s m args below meth c s₁ B hml hv
  obtain ⟨rfl, hsz, hP, hE9, hSt9⟩ := hv
  subst hsz
  have hx := B.exec
  have hb := B.bytes
  have hr := B.returns
  have hown : s.vm.findClass RJ4 = some m.cls := findClass_of_methodNamed B.named
  have hlocks := B.notSynchronized
  have hT9 : ∀ w ∈ fx_ws, w.before ([.ref b, .int (nI x)] : List Value).toArray s = true := fun w hw => atoms_spec (ws := fx_l yJ4_append_cf468 cJ4_append_cf468 2 (some (.object "java/lang/StringBuilder"))) B.pre w (List.mem_cons_of_mem _ hw)
  have K : j_K p s m ([.ref b, .int (nI x)] : List Value).toArray c cJ4_append_cf468 2 RJ4 Z b v := ⟨hx, hb, hml, hown, hT9, hE9, hSt9, hbv⟩
  have hS : va_S (fx_A 2 (jad b v) s.heap.size) s.heap s.heap [] := va_S.rf
  have hl := lv_entry ([.ref b, .int (nI x)]) (n := 2) (Nat.le_of_ble_eq_true rfl)
  rw [lg_entry_eq]
  generalize (lg_sl ([.ref b, .int (nI x)]) ++ List.replicate (2 - (lg_sl ([.ref b, .int (nI x)])).length) Slot.unset).toArray = ls at hl ⊢
  have hl : lv_has ls 2 [(0, .ref b), (1, .int (nI x))] := hl
  refine lv_aload_n hx hb dJ4_append_cf468_0 rfl (lv_at hl 0 rfl) ?_
  refine lv_iload_n hx hb dJ4_append_cf468_1 rfl (lv_at hl 1 rfl) ?_
  obtain ⟨cC1, hcC1⟩ := j_cls (s := s) hE9
  refine fj_callU (n := 1) (rest := []) hcC1 hx hb hml hown hT9 hE9 hSt9 (fun k hk => j_A hk) j_A2 hP hS (cj_appc5 l Z b v hbv t n x (by omega) (by omega)) okj_J4_50 ⟨by decide, by decide +kernel⟩ (j_recv hE9 hP) rfl ⟨Nat.le_of_ble_eq_true rfl, Nat.le_of_ble_eq_true rfl⟩ rfl hl.1 (Nat.le_of_ble_eq_true rfl) ⟨Nat.le_of_ble_eq_true rfl, Nat.le_of_ble_eq_true rfl⟩ dJ4_append_cf468_2 (fun w9 u9 H locs hp9 hP hS _ _ => ?_)
  obtain ⟨rfl, rfl⟩ := hp9
  refine lv_pop hx hb dJ4_append_cf468_5 rfl ?_
  refine lv_aload_n hx hb dJ4_append_cf468_6 rfl (lv_at hl 0 rfl) ?_
  exact fj_reta (u := ((va_up t n x), (n + 1))) hx hb hr (Or.inl ⟨_, rfl⟩) hlocks hP hS (Nat.le_of_ble_eq_true rfl) (Nat.le_of_ble_eq_true rfl) dJ4_append_cf468_7 ⟨rfl, rfl⟩

set_option maxHeartbeats 4000000 in
set_option maxRecDepth 100000 in
theorem cj_size1 (l : Launch) (Z : fx_Z) (b v : Nat) (hbv : b ≠ v) (t : Nat → Nat) (n : Nat) (i : Nat) (hi : i < 10) : fj_C l Z yJ6_stringSize_0f7a4 cJ6_stringSize_0f7a4 4 (some .int) 0 0 0 0 2 (jad b v) (jF b v (Z.2.1 5)) (t, n) [.int (nI i)] (fun w8 u8 => w8 = some (.int (nI 1)) ∧ u8 = (t, n)) := by
  intro sz
  refine va_MetF (cc := cJ6_stringSize_0f7a4) (maxL := 4) (ret := (some .int)) (by decide +kernel) rfl ?_
  intro p e s m args below meth c s₁ B hml hv
  obtain ⟨rfl, hsz, hP, hE9, hSt9⟩ := hv
  subst hsz
  have hx := B.exec
  have hb := B.bytes
  have hr := B.returns
  have hown : s.vm.findClass RJ6 = some m.cls := findClass_of_methodNamed B.named
  have hlocks := B.notSynchronized
  have hT9 : ∀ w ∈ fx_ws, w.before ([.int (nI i)] : List Value).toArray s = true := fun w hw => atoms_spec (ws := fx_l yJ6_stringSize_0f7a4 cJ6_stringSize_0f7a4 4 (some .int)) B.pre w (List.mem_cons_of_mem _ hw)
  have K : j_K p s m ([.int (nI i)] : List Value).toArray c cJ6_stringSize_0f7a4 4 RJ6 Z b v := ⟨hx, hb, hml, hown, hT9, hE9, hSt9, hbv⟩
  have hS : va_S (fx_A 2 (jad b v) s.heap.size) s.heap s.heap [] := va_S.rf
  have hl := lv_entry ([.int (nI i)]) (n := 4) (Nat.le_of_ble_eq_true rfl)
  rw [lg_entry_eq]
  generalize (lg_sl ([.int (nI i)]) ++ List.replicate (4 - (lg_sl ([.int (nI i)])).length) Slot.unset).toArray = ls at hl ⊢
  have hl : lv_has ls 4 [(0, .int (nI i))] := hl
  refine lv_iconst (v := 1) hx hb dJ6_stringSize_0f7a4_0 (by decide) ?_
  refine lv_istore_n (lv' := [(1, .int 1), (0, .int (nI i))]) hx hb dJ6_stringSize_0f7a4_1 rfl hl (by decide) rfl (fun ls hl => ?_)
  refine lv_iload_n hx hb dJ6_stringSize_0f7a4_2 rfl (lv_at hl 1 rfl) ?_
  refine lv_if_lt (tgt := 11) hx hb dJ6_stringSize_0f7a4_3 (by decide) (fun c1 => absurd c1 (nI_pos (by omega))) (fun _ => ?_)
  refine lv_iconst (v := 0) hx hb dJ6_stringSize_0f7a4_6 (by decide) ?_
  refine lv_istore_n (lv' := [(1, .int 0), (0, .int (nI i))]) hx hb dJ6_stringSize_0f7a4_7 rfl hl (by decide) rfl (fun ls hl => ?_)
  refine lv_iload_n hx hb dJ6_stringSize_0f7a4_8 rfl (lv_at hl 1 rfl) ?_
  refine lv_ineg hx hb dJ6_stringSize_0f7a4_9 ?_
  refine lv_istore_n (lv' := [(0, .int (-(nI i))), (1, .int 0)]) hx hb dJ6_stringSize_0f7a4_10 rfl hl (by decide) rfl (fun ls hl => ?_)
  refine lv_bipush (v := (-10)) hx hb dJ6_stringSize_0f7a4_11 (by decide) ?_
  refine lv_istore_n (lv' := [(2, .int (-10)), (0, .int (-(nI i))), (1, .int 0)]) hx hb dJ6_stringSize_0f7a4_13 rfl hl (by decide) rfl (fun ls hl => ?_)
  refine lv_iconst (v := 1) hx hb dJ6_stringSize_0f7a4_14 (by decide) ?_
  refine lv_istore_n (lv' := [(3, .int 1), (2, .int (-10)), (0, .int (-(nI i))), (1, .int 0)]) hx hb dJ6_stringSize_0f7a4_15 rfl hl (by decide) rfl (fun ls hl => ?_)
  refine lv_iload_n hx hb dJ6_stringSize_0f7a4_16 rfl (lv_at hl 0 rfl) ?_
  refine lv_bipush (v := 10) hx hb dJ6_stringSize_0f7a4_17 (by decide) ?_
  refine lv_icmp_ge (tgt := 42) hx hb dJ6_stringSize_0f7a4_19 (by decide) (fun c2 => absurd c2 (by decide)) (fun _ => ?_)
  refine lv_iload_n hx hb dJ6_stringSize_0f7a4_22 rfl (lv_at hl 2 rfl) ?_
  refine lv_iload_n hx hb dJ6_stringSize_0f7a4_23 rfl (lv_at hl 1 rfl) ?_
  refine lv_icmp_le (tgt := 31) hx hb dJ6_stringSize_0f7a4_24 (by decide) (fun c3 => absurd c3 (jn_7 i hi)) (fun _ => ?_)
  refine lv_iload_n hx hb dJ6_stringSize_0f7a4_27 rfl (lv_at hl 0 rfl) ?_
  refine lv_iload_n hx hb dJ6_stringSize_0f7a4_28 rfl (lv_at hl 3 rfl) ?_
  refine lv_iadd hx hb dJ6_stringSize_0f7a4_29 ?_
  rw [show (1 + 0 : Int32) = 1 from (by decide)]
  exact fj_reti (u := (t, n)) hx hb hr hlocks rfl hP hS (Nat.le_of_ble_eq_true rfl) (Nat.le_of_ble_eq_true rfl) dJ6_stringSize_0f7a4_30 ⟨rfl, rfl⟩

set_option maxHeartbeats 4000000 in
set_option maxRecDepth 100000 in
theorem cj_size2 (l : Launch) (Z : fx_Z) (b v : Nat) (hbv : b ≠ v) (t : Nat → Nat) (n : Nat) (i : Nat) (hi : i < 100) (hi2 : 10 ≤ i) : fj_C l Z yJ6_stringSize_0f7a4 cJ6_stringSize_0f7a4 4 (some .int) 0 0 0 0 2 (jad b v) (jF b v (Z.2.1 5)) (t, n) [.int (nI i)] (fun w8 u8 => w8 = some (.int (nI 2)) ∧ u8 = (t, n)) := by
  intro sz
  refine va_MetF (cc := cJ6_stringSize_0f7a4) (maxL := 4) (ret := (some .int)) (by decide +kernel) rfl ?_
  intro p e s m args below meth c s₁ B hml hv
  obtain ⟨rfl, hsz, hP, hE9, hSt9⟩ := hv
  subst hsz
  have hx := B.exec
  have hb := B.bytes
  have hr := B.returns
  have hown : s.vm.findClass RJ6 = some m.cls := findClass_of_methodNamed B.named
  have hlocks := B.notSynchronized
  have hT9 : ∀ w ∈ fx_ws, w.before ([.int (nI i)] : List Value).toArray s = true := fun w hw => atoms_spec (ws := fx_l yJ6_stringSize_0f7a4 cJ6_stringSize_0f7a4 4 (some .int)) B.pre w (List.mem_cons_of_mem _ hw)
  have K : j_K p s m ([.int (nI i)] : List Value).toArray c cJ6_stringSize_0f7a4 4 RJ6 Z b v := ⟨hx, hb, hml, hown, hT9, hE9, hSt9, hbv⟩
  have hS : va_S (fx_A 2 (jad b v) s.heap.size) s.heap s.heap [] := va_S.rf
  have hl := lv_entry ([.int (nI i)]) (n := 4) (Nat.le_of_ble_eq_true rfl)
  rw [lg_entry_eq]
  generalize (lg_sl ([.int (nI i)]) ++ List.replicate (4 - (lg_sl ([.int (nI i)])).length) Slot.unset).toArray = ls at hl ⊢
  have hl : lv_has ls 4 [(0, .int (nI i))] := hl
  refine lv_iconst (v := 1) hx hb dJ6_stringSize_0f7a4_0 (by decide) ?_
  refine lv_istore_n (lv' := [(1, .int 1), (0, .int (nI i))]) hx hb dJ6_stringSize_0f7a4_1 rfl hl (by decide) rfl (fun ls hl => ?_)
  refine lv_iload_n hx hb dJ6_stringSize_0f7a4_2 rfl (lv_at hl 1 rfl) ?_
  refine lv_if_lt (tgt := 11) hx hb dJ6_stringSize_0f7a4_3 (by decide) (fun c1 => absurd c1 (nI_pos (by omega))) (fun _ => ?_)
  refine lv_iconst (v := 0) hx hb dJ6_stringSize_0f7a4_6 (by decide) ?_
  refine lv_istore_n (lv' := [(1, .int 0), (0, .int (nI i))]) hx hb dJ6_stringSize_0f7a4_7 rfl hl (by decide) rfl (fun ls hl => ?_)
  refine lv_iload_n hx hb dJ6_stringSize_0f7a4_8 rfl (lv_at hl 1 rfl) ?_
  refine lv_ineg hx hb dJ6_stringSize_0f7a4_9 ?_
  refine lv_istore_n (lv' := [(0, .int (-(nI i))), (1, .int 0)]) hx hb dJ6_stringSize_0f7a4_10 rfl hl (by decide) rfl (fun ls hl => ?_)
  refine lv_bipush (v := (-10)) hx hb dJ6_stringSize_0f7a4_11 (by decide) ?_
  refine lv_istore_n (lv' := [(2, .int (-10)), (0, .int (-(nI i))), (1, .int 0)]) hx hb dJ6_stringSize_0f7a4_13 rfl hl (by decide) rfl (fun ls hl => ?_)
  refine lv_iconst (v := 1) hx hb dJ6_stringSize_0f7a4_14 (by decide) ?_
  refine lv_istore_n (lv' := [(3, .int 1), (2, .int (-10)), (0, .int (-(nI i))), (1, .int 0)]) hx hb dJ6_stringSize_0f7a4_15 rfl hl (by decide) rfl (fun ls hl => ?_)
  refine lv_iload_n hx hb dJ6_stringSize_0f7a4_16 rfl (lv_at hl 0 rfl) ?_
  refine lv_bipush (v := 10) hx hb dJ6_stringSize_0f7a4_17 (by decide) ?_
  refine lv_icmp_ge (tgt := 42) hx hb dJ6_stringSize_0f7a4_19 (by decide) (fun c2 => absurd c2 (by decide)) (fun _ => ?_)
  refine lv_iload_n hx hb dJ6_stringSize_0f7a4_22 rfl (lv_at hl 2 rfl) ?_
  refine lv_iload_n hx hb dJ6_stringSize_0f7a4_23 rfl (lv_at hl 1 rfl) ?_
  refine lv_icmp_le (tgt := 31) hx hb dJ6_stringSize_0f7a4_24 (by decide) (fun _ => ?_) (fun c3 => absurd (jn_8 i hi hi2) c3)
  refine lv_bipush (v := 10) hx hb dJ6_stringSize_0f7a4_31 (by decide) ?_
  refine lv_iload_n hx hb dJ6_stringSize_0f7a4_33 rfl (lv_at hl 1 rfl) ?_
  refine lv_imul hx hb dJ6_stringSize_0f7a4_34 ?_
  rw [show (10 * (-10) : Int32) = (-100) from (by decide)]
  refine lv_istore_n (lv' := [(2, .int (-100)), (3, .int 1), (0, .int (-(nI i))), (1, .int 0)]) hx hb dJ6_stringSize_0f7a4_35 rfl hl (by decide) rfl (fun ls hl => ?_)
  refine lv_iinc (v := 2) (lv' := [(3, .int 2), (2, .int (-100)), (0, .int (-(nI i))), (1, .int 0)]) hx hb dJ6_stringSize_0f7a4_36 hl (k := 1) rfl (by decide) (by decide) rfl (fun ls hl => ?_)
  refine lv_goto (tgt := 16) hx hb dJ6_stringSize_0f7a4_39 (by decide) ?_
  refine lv_iload_n hx hb dJ6_stringSize_0f7a4_16 rfl (lv_at hl 0 rfl) ?_
  refine lv_bipush (v := 10) hx hb dJ6_stringSize_0f7a4_17 (by decide) ?_
  refine lv_icmp_ge (tgt := 42) hx hb dJ6_stringSize_0f7a4_19 (by decide) (fun c4 => absurd c4 (by decide)) (fun _ => ?_)
  refine lv_iload_n hx hb dJ6_stringSize_0f7a4_22 rfl (lv_at hl 2 rfl) ?_
  refine lv_iload_n hx hb dJ6_stringSize_0f7a4_23 rfl (lv_at hl 1 rfl) ?_
  refine lv_icmp_le (tgt := 31) hx hb dJ6_stringSize_0f7a4_24 (by decide) (fun c5 => absurd c5 (jn_9 i hi)) (fun _ => ?_)
  refine lv_iload_n hx hb dJ6_stringSize_0f7a4_27 rfl (lv_at hl 0 rfl) ?_
  refine lv_iload_n hx hb dJ6_stringSize_0f7a4_28 rfl (lv_at hl 3 rfl) ?_
  refine lv_iadd hx hb dJ6_stringSize_0f7a4_29 ?_
  rw [show (2 + 0 : Int32) = 2 from (by decide)]
  exact fj_reti (u := (t, n)) hx hb hr hlocks rfl hP hS (Nat.le_of_ble_eq_true rfl) (Nat.le_of_ble_eq_true rfl) dJ6_stringSize_0f7a4_30 ⟨rfl, rfl⟩

set_option maxHeartbeats 4000000 in
set_option maxRecDepth 100000 in
theorem cj_getChars1 (l : Launch) (Z : fx_Z) (b v : Nat) (hbv : b ≠ v) (t : Nat → Nat) (n : Nat) (i : Nat) (k : Nat) (hi : i < 10) (hk0 : 0 < k) (hk : k ≤ 16) : fj_C l Z yJ6_getChars_ba4f3 cJ6_getChars_ba4f3 7 (some .int) 0 0 0 0 2 (jad b v) (jF b v (Z.2.1 5)) (t, n) [.int (nI i), .int (nI k), .ref v] (fun w8 u8 => w8 = some (.int (nI (k - 1))) ∧ u8 = ((va_up t (k - 1) (48 + i % 10)), n)) := by
  intro sz
  refine va_MetF (cc := cJ6_getChars_ba4f3) (maxL := 7) (ret := (some .int)) (by decide +kernel) rfl ?_
  intro p e s m args below meth c s₁ B hml hv
  obtain ⟨rfl, hsz, hP, hE9, hSt9⟩ := hv
  subst hsz
  have hx := B.exec
  have hb := B.bytes
  have hr := B.returns
  have hown : s.vm.findClass RJ6 = some m.cls := findClass_of_methodNamed B.named
  have hlocks := B.notSynchronized
  have hT9 : ∀ w ∈ fx_ws, w.before ([.int (nI i), .int (nI k), .ref v] : List Value).toArray s = true := fun w hw => atoms_spec (ws := fx_l yJ6_getChars_ba4f3 cJ6_getChars_ba4f3 7 (some .int)) B.pre w (List.mem_cons_of_mem _ hw)
  have K : j_K p s m ([.int (nI i), .int (nI k), .ref v] : List Value).toArray c cJ6_getChars_ba4f3 7 RJ6 Z b v := ⟨hx, hb, hml, hown, hT9, hE9, hSt9, hbv⟩
  have hS : va_S (fx_A 2 (jad b v) s.heap.size) s.heap s.heap [] := va_S.rf
  have hl := lv_entry ([.int (nI i), .int (nI k), .ref v]) (n := 7) (Nat.le_of_ble_eq_true rfl)
  rw [lg_entry_eq]
  generalize (lg_sl ([.int (nI i), .int (nI k), .ref v]) ++ List.replicate (7 - (lg_sl ([.int (nI i), .int (nI k), .ref v])).length) Slot.unset).toArray = ls at hl ⊢
  have hl : lv_has ls 7 [(0, .int (nI i)), (1, .int (nI k)), (2, .ref v)] := hl
  refine lv_iload_n hx hb dJ6_getChars_ba4f3_0 rfl (lv_at hl 1 rfl) ?_
  refine lv_istore (lv' := [(5, .int (nI k)), (0, .int (nI i)), (1, .int (nI k)), (2, .ref v)]) hx hb dJ6_getChars_ba4f3_1 hl (by decide) rfl (fun ls hl => ?_)
  refine lv_iload_n hx hb dJ6_getChars_ba4f3_3 rfl (lv_at hl 1 rfl) ?_
  refine lv_if_ge (tgt := 11) hx hb dJ6_getChars_ba4f3_4 (by decide) (fun _ => ?_) (fun c1 => absurd (nI_pos' (by omega)) c1)
  refine lv_iconst (v := 0) hx hb dJ6_getChars_ba4f3_11 (by decide) ?_
  refine lv_istore (lv' := [(6, .int 0), (5, .int (nI k)), (0, .int (nI i)), (1, .int (nI k)), (2, .ref v)]) hx hb dJ6_getChars_ba4f3_12 hl (by decide) rfl (fun ls hl => ?_)
  refine lv_iload hx hb dJ6_getChars_ba4f3_14 (lv_at hl 0 rfl) ?_
  refine lv_if_ne (tgt := 22) hx hb dJ6_getChars_ba4f3_16 (by decide) (fun c2 => absurd (by decide) c2) (fun _ => ?_)
  refine lv_iload_n hx hb dJ6_getChars_ba4f3_19 rfl (lv_at hl 2 rfl) ?_
  refine lv_ineg hx hb dJ6_getChars_ba4f3_20 ?_
  refine lv_istore_n (lv' := [(0, .int (-(nI i))), (6, .int 0), (5, .int (nI k)), (1, .int (nI k)), (2, .ref v)]) hx hb dJ6_getChars_ba4f3_21 rfl hl (by decide) rfl (fun ls hl => ?_)
  refine lv_iload_n hx hb dJ6_getChars_ba4f3_22 rfl (lv_at hl 0 rfl) ?_
  refine lv_bipush (v := (-100)) hx hb dJ6_getChars_ba4f3_23 (by decide) ?_
  refine lv_icmp_gt (tgt := 72) hx hb dJ6_getChars_ba4f3_25 (by decide) (fun _ => ?_) (fun c3 => absurd (jn_3 i (by omega)) c3)
  refine lv_aload_n hx hb dJ6_getChars_ba4f3_72 rfl (lv_at hl 4 rfl) ?_
  refine lv_iinc (v := nI (k - 1)) (lv' := [(5, .int (nI (k - 1))), (0, .int (-(nI i))), (6, .int 0), (1, .int (nI k)), (2, .ref v)]) hx hb dJ6_getChars_ba4f3_73 hl (k := 2) rfl (jn_dec hk0) (by decide) rfl (fun ls hl => ?_)
  refine lv_iload hx hb dJ6_getChars_ba4f3_76 (lv_at hl 0 rfl) ?_
  obtain ⟨tq4, hzq4, htq4⟩ := hSt9.2.2.2.2.1
  refine va_gets hx hb hzq4 hS hown (hT9 (.fieldLink RJ6 83 "java/lang/Integer" "DigitOnes" "[B") (fx_w 611 (by decide +kernel) rfl)) (fun _ h9 => h9) dJ6_getChars_ba4f3_78 ?_
  refine lv_iload_n hx hb dJ6_getChars_ba4f3_81 rfl (lv_at hl 1 rfl) ?_
  refine lv_ineg hx hb dJ6_getChars_ba4f3_82 ?_
  rw [show -(-(nI i)) = nI i from jn_4 i (by omega)]
  refine j_dig K htq4 hS (by omega) dJ6_getChars_ba4f3_83 ?_
  refine j_bast K hP hS (by omega) (by omega) dJ6_getChars_ba4f3_84 (fun H locs hP hS => ?_)
  refine lv_iload_n hx hb dJ6_getChars_ba4f3_85 rfl (lv_at hl 1 rfl) ?_
  refine lv_bipush (v := (-9)) hx hb dJ6_getChars_ba4f3_86 (by decide) ?_
  refine lv_icmp_ge (tgt := 104) hx hb dJ6_getChars_ba4f3_88 (by decide) (fun _ => ?_) (fun c5 => absurd (jn_5 i hi) c5)
  refine lv_iload hx hb dJ6_getChars_ba4f3_104 (lv_at hl 2 rfl) ?_
  refine lv_if_eq (tgt := 118) hx hb dJ6_getChars_ba4f3_106 (by decide) (fun _ => ?_) (fun c6 => absurd (by decide) c6)
  refine lv_iload hx hb dJ6_getChars_ba4f3_118 (lv_at hl 0 rfl) ?_
  exact fj_reti (u := (va_up t (k - 1) (48 + i % 10), n)) hx hb hr hlocks rfl hP hS (Nat.le_of_ble_eq_true rfl) (Nat.le_of_ble_eq_true rfl) dJ6_getChars_ba4f3_120 ⟨rfl, rfl⟩

set_option maxHeartbeats 4000000 in
set_option maxRecDepth 100000 in
theorem cj_getChars2 (l : Launch) (Z : fx_Z) (b v : Nat) (hbv : b ≠ v) (t : Nat → Nat) (n : Nat) (i : Nat) (k : Nat) (hi : i < 100) (hi2 : 10 ≤ i) (hk0 : 1 < k) (hk : k ≤ 16) : fj_C l Z yJ6_getChars_ba4f3 cJ6_getChars_ba4f3 7 (some .int) 0 0 0 0 2 (jad b v) (jF b v (Z.2.1 5)) (t, n) [.int (nI i), .int (nI k), .ref v] (fun w8 u8 => w8 = some (.int (nI (k - 1 - 1))) ∧ u8 = ((va_up (va_up t (k - 1) (48 + i % 10)) (k - 1 - 1) (48 + i / 10)), n)) := by
  intro sz
  refine va_MetF (cc := cJ6_getChars_ba4f3) (maxL := 7) (ret := (some .int)) (by decide +kernel) rfl ?_
  intro p e s m args below meth c s₁ B hml hv
  obtain ⟨rfl, hsz, hP, hE9, hSt9⟩ := hv
  subst hsz
  have hx := B.exec
  have hb := B.bytes
  have hr := B.returns
  have hown : s.vm.findClass RJ6 = some m.cls := findClass_of_methodNamed B.named
  have hlocks := B.notSynchronized
  have hT9 : ∀ w ∈ fx_ws, w.before ([.int (nI i), .int (nI k), .ref v] : List Value).toArray s = true := fun w hw => atoms_spec (ws := fx_l yJ6_getChars_ba4f3 cJ6_getChars_ba4f3 7 (some .int)) B.pre w (List.mem_cons_of_mem _ hw)
  have K : j_K p s m ([.int (nI i), .int (nI k), .ref v] : List Value).toArray c cJ6_getChars_ba4f3 7 RJ6 Z b v := ⟨hx, hb, hml, hown, hT9, hE9, hSt9, hbv⟩
  have hS : va_S (fx_A 2 (jad b v) s.heap.size) s.heap s.heap [] := va_S.rf
  have hl := lv_entry ([.int (nI i), .int (nI k), .ref v]) (n := 7) (Nat.le_of_ble_eq_true rfl)
  rw [lg_entry_eq]
  generalize (lg_sl ([.int (nI i), .int (nI k), .ref v]) ++ List.replicate (7 - (lg_sl ([.int (nI i), .int (nI k), .ref v])).length) Slot.unset).toArray = ls at hl ⊢
  have hl : lv_has ls 7 [(0, .int (nI i)), (1, .int (nI k)), (2, .ref v)] := hl
  refine lv_iload_n hx hb dJ6_getChars_ba4f3_0 rfl (lv_at hl 1 rfl) ?_
  refine lv_istore (lv' := [(5, .int (nI k)), (0, .int (nI i)), (1, .int (nI k)), (2, .ref v)]) hx hb dJ6_getChars_ba4f3_1 hl (by decide) rfl (fun ls hl => ?_)
  refine lv_iload_n hx hb dJ6_getChars_ba4f3_3 rfl (lv_at hl 1 rfl) ?_
  refine lv_if_ge (tgt := 11) hx hb dJ6_getChars_ba4f3_4 (by decide) (fun _ => ?_) (fun c1 => absurd (nI_pos' (by omega)) c1)
  refine lv_iconst (v := 0) hx hb dJ6_getChars_ba4f3_11 (by decide) ?_
  refine lv_istore (lv' := [(6, .int 0), (5, .int (nI k)), (0, .int (nI i)), (1, .int (nI k)), (2, .ref v)]) hx hb dJ6_getChars_ba4f3_12 hl (by decide) rfl (fun ls hl => ?_)
  refine lv_iload hx hb dJ6_getChars_ba4f3_14 (lv_at hl 0 rfl) ?_
  refine lv_if_ne (tgt := 22) hx hb dJ6_getChars_ba4f3_16 (by decide) (fun c2 => absurd (by decide) c2) (fun _ => ?_)
  refine lv_iload_n hx hb dJ6_getChars_ba4f3_19 rfl (lv_at hl 2 rfl) ?_
  refine lv_ineg hx hb dJ6_getChars_ba4f3_20 ?_
  refine lv_istore_n (lv' := [(0, .int (-(nI i))), (6, .int 0), (5, .int (nI k)), (1, .int (nI k)), (2, .ref v)]) hx hb dJ6_getChars_ba4f3_21 rfl hl (by decide) rfl (fun ls hl => ?_)
  refine lv_iload_n hx hb dJ6_getChars_ba4f3_22 rfl (lv_at hl 0 rfl) ?_
  refine lv_bipush (v := (-100)) hx hb dJ6_getChars_ba4f3_23 (by decide) ?_
  refine lv_icmp_gt (tgt := 72) hx hb dJ6_getChars_ba4f3_25 (by decide) (fun _ => ?_) (fun c3 => absurd (jn_3 i (by omega)) c3)
  refine lv_aload_n hx hb dJ6_getChars_ba4f3_72 rfl (lv_at hl 4 rfl) ?_
  refine lv_iinc (v := nI (k - 1)) (lv' := [(5, .int (nI (k - 1))), (0, .int (-(nI i))), (6, .int 0), (1, .int (nI k)), (2, .ref v)]) hx hb dJ6_getChars_ba4f3_73 hl (k := 2) rfl (jn_dec (by omega)) (by decide) rfl (fun ls hl => ?_)
  refine lv_iload hx hb dJ6_getChars_ba4f3_76 (lv_at hl 0 rfl) ?_
  obtain ⟨tq4, hzq4, htq4⟩ := hSt9.2.2.2.2.1
  refine va_gets hx hb hzq4 hS hown (hT9 (.fieldLink RJ6 83 "java/lang/Integer" "DigitOnes" "[B") (fx_w 611 (by decide +kernel) rfl)) (fun _ h9 => h9) dJ6_getChars_ba4f3_78 ?_
  refine lv_iload_n hx hb dJ6_getChars_ba4f3_81 rfl (lv_at hl 1 rfl) ?_
  refine lv_ineg hx hb dJ6_getChars_ba4f3_82 ?_
  rw [show -(-(nI i)) = nI i from jn_4 i (by omega)]
  refine j_dig K htq4 hS (by omega) dJ6_getChars_ba4f3_83 ?_
  refine j_bast K hP hS (by omega) (by omega) dJ6_getChars_ba4f3_84 (fun H locs hP hS => ?_)
  refine lv_iload_n hx hb dJ6_getChars_ba4f3_85 rfl (lv_at hl 1 rfl) ?_
  refine lv_bipush (v := (-9)) hx hb dJ6_getChars_ba4f3_86 (by decide) ?_
  refine lv_icmp_ge (tgt := 104) hx hb dJ6_getChars_ba4f3_88 (by decide) (fun c5 => absurd c5 (jn_6 i hi hi2)) (fun _ => ?_)
  refine lv_aload_n hx hb dJ6_getChars_ba4f3_91 rfl (lv_at hl 4 rfl) ?_
  refine lv_iinc (v := nI (k - 1 - 1)) (lv' := [(5, .int (nI (k - 1 - 1))), (0, .int (-(nI i))), (6, .int 0), (1, .int (nI k)), (2, .ref v)]) hx hb dJ6_getChars_ba4f3_92 hl (k := 0) rfl (jn_dec (by omega)) (by decide) rfl (fun ls hl => ?_)
  refine lv_iload hx hb dJ6_getChars_ba4f3_95 (lv_at hl 0 rfl) ?_
  obtain ⟨tq6, hzq6, htq6⟩ := hSt9.2.2.2.2.2
  refine va_gets hx hb hzq6 hS hown (hT9 (.fieldLink RJ6 87 "java/lang/Integer" "DigitTens" "[B") (fx_w 613 (by decide +kernel) rfl)) (fun _ h9 => h9) dJ6_getChars_ba4f3_97 ?_
  refine lv_iload_n hx hb dJ6_getChars_ba4f3_100 rfl (lv_at hl 1 rfl) ?_
  refine lv_ineg hx hb dJ6_getChars_ba4f3_101 ?_
  rw [show -(-(nI i)) = nI i from jn_4 i (by omega)]
  refine j_dig K htq6 hS (by omega) dJ6_getChars_ba4f3_102 ?_
  refine j_bast K hP hS (by omega) (by omega) dJ6_getChars_ba4f3_103 (fun H locs hP hS => ?_)
  refine lv_iload hx hb dJ6_getChars_ba4f3_104 (lv_at hl 2 rfl) ?_
  refine lv_if_eq (tgt := 118) hx hb dJ6_getChars_ba4f3_106 (by decide) (fun _ => ?_) (fun c7 => absurd (by decide) c7)
  refine lv_iload hx hb dJ6_getChars_ba4f3_118 (lv_at hl 0 rfl) ?_
  exact fj_reti (u := (va_up (va_up t (k - 1) (48 + i % 10)) (k - 1 - 1) (48 + i / 10), n)) hx hb hr hlocks rfl hP hS (Nat.le_of_ble_eq_true rfl) (Nat.le_of_ble_eq_true rfl) dJ6_getChars_ba4f3_120 ⟨rfl, rfl⟩

set_option maxHeartbeats 4000000 in
set_option maxRecDepth 100000 in
theorem cj_appi5_1 (l : Launch) (Z : fx_Z) (b v : Nat) (hbv : b ≠ v) (t : Nat → Nat) (n : Nat) (i : Nat) (hi : i < 10) (hn9 : n < 16) : fj_C l Z yJ5_append_c97b9 cJ5_append_c97b9 4 (some (.object "java/lang/AbstractStringBuilder")) 1 26 0 0 2 (jad b v) (jF b v (Z.2.1 5)) (t, n) [.ref b, .int (nI i)] (fun w8 u8 => w8 = some (.ref b) ∧ u8 = ((va_up t (n + 1 - 1) (48 + i % 10)), (n + 1))) := by
  intro sz
  refine va_MetF (cc := cJ5_append_c97b9) (maxL := 4) (ret := (some (.object "java/lang/AbstractStringBuilder"))) (by decide +kernel) rfl ?_
  intro p e s m args below meth c s₁ B hml hv
  obtain ⟨rfl, hsz, hP, hE9, hSt9⟩ := hv
  subst hsz
  have hx := B.exec
  have hb := B.bytes
  have hr := B.returns
  have hown : s.vm.findClass RJ5 = some m.cls := findClass_of_methodNamed B.named
  have hlocks := B.notSynchronized
  have hT9 : ∀ w ∈ fx_ws, w.before ([.ref b, .int (nI i)] : List Value).toArray s = true := fun w hw => atoms_spec (ws := fx_l yJ5_append_c97b9 cJ5_append_c97b9 4 (some (.object "java/lang/AbstractStringBuilder"))) B.pre w (List.mem_cons_of_mem _ hw)
  have K : j_K p s m ([.ref b, .int (nI i)] : List Value).toArray c cJ5_append_c97b9 4 RJ5 Z b v := ⟨hx, hb, hml, hown, hT9, hE9, hSt9, hbv⟩
  have hS : va_S (fx_A 2 (jad b v) s.heap.size) s.heap s.heap [] := va_S.rf
  have hl := lv_entry ([.ref b, .int (nI i)]) (n := 4) (Nat.le_of_ble_eq_true rfl)
  rw [lg_entry_eq]
  generalize (lg_sl ([.ref b, .int (nI i)]) ++ List.replicate (4 - (lg_sl ([.ref b, .int (nI i)])).length) Slot.unset).toArray = ls at hl ⊢
  have hl : lv_has ls 4 [(0, .ref b), (1, .int (nI i))] := hl
  refine lv_aload_n hx hb dJ5_append_c97b9_0 rfl (lv_at hl 0 rfl) ?_
  refine jg_count K hP dJ5_append_c97b9_1 ?_
  refine lv_istore_n (lv' := [(2, .int (nI n)), (0, .ref b), (1, .int (nI i))]) hx hb dJ5_append_c97b9_4 rfl hl (by decide) rfl (fun ls hl => ?_)
  refine lv_iload_n hx hb dJ5_append_c97b9_5 rfl (lv_at hl 0 rfl) ?_
  refine lv_iload_n hx hb dJ5_append_c97b9_6 rfl (lv_at hl 2 rfl) ?_
  refine fj_callS (rest := [.int (nI n)]) hx hb hml hown hT9 hE9 hSt9 (fun k hk => j_A hk) j_A2 hP hS (cj_size1 l Z b v hbv t n i (by omega)) okj_J5_245 (fx_w 606 (by decide +kernel) rfl) rfl ⟨Nat.le_of_ble_eq_true rfl, Nat.le_of_ble_eq_true rfl⟩ rfl hl.1 (Nat.le_of_ble_eq_true rfl) ⟨Nat.le_of_ble_eq_true rfl, Nat.le_of_ble_eq_true rfl⟩ dJ5_append_c97b9_7 (fun w9 u9 H locs hp9 hP hS _ _ => ?_)
  obtain ⟨rfl, rfl⟩ := hp9
  refine lv_iadd hx hb dJ5_append_c97b9_10 ?_
  rw [show ((nI n) + (nI 1) : Int32) = nI (n + 1) from nI_add n 1]
  refine lv_istore_n (lv' := [(3, .int (nI (n + 1))), (2, .int (nI n)), (0, .ref b), (1, .int (nI i))]) hx hb dJ5_append_c97b9_11 rfl hl (by decide) rfl (fun ls hl => ?_)
  refine lv_aload_n hx hb dJ5_append_c97b9_12 rfl (lv_at hl 2 rfl) ?_
  refine lv_iload_n hx hb dJ5_append_c97b9_13 rfl (lv_at hl 0 rfl) ?_
  refine fj_callV (rest := []) hx hb hml hown hT9 hE9 hSt9 (fun k hk => j_A hk) j_A2 hP hS (cj_ensure l Z b v hbv t n (n + 1) (by omega)) okj_J5_100 (fx_w 514 (by decide +kernel) rfl) (va_Nw.use rfl (hE9.2.2.1 _ (List.mem_append_left _ j_selw))) (j_recv hE9 hP) rfl ⟨Nat.le_of_ble_eq_true rfl, Nat.le_of_ble_eq_true rfl⟩ rfl hl.1 (Nat.le_of_ble_eq_true rfl) ⟨Nat.le_of_ble_eq_true rfl, Nat.le_of_ble_eq_true rfl⟩ dJ5_append_c97b9_14 (fun w9 u9 H locs hp9 hP hS _ _ => ?_)
  obtain ⟨rfl, rfl⟩ := hp9
  refine lv_aload_n hx hb dJ5_append_c97b9_17 rfl (lv_at hl 2 rfl) ?_
  refine fj_callV (rest := []) hx hb hml hown hT9 hE9 hSt9 (fun k hk => j_A hk) j_A2 hP hS (cj_isLatin1 l Z b v hbv t n) okj_J5_83 (fx_w 546 (by decide +kernel) rfl) (hT9 _ (fx_w 548 (by decide +kernel) rfl)) (j_recv hE9 hP) rfl ⟨Nat.le_of_ble_eq_true rfl, Nat.le_of_ble_eq_true rfl⟩ rfl hl.1 (Nat.le_of_ble_eq_true rfl) ⟨Nat.le_of_ble_eq_true rfl, Nat.le_of_ble_eq_true rfl⟩ dJ5_append_c97b9_18 (fun w9 u9 H locs hp9 hP hS _ _ => ?_)
  obtain ⟨rfl, rfl⟩ := hp9
  refine lv_if_eq (tgt := 37) hx hb dJ5_append_c97b9_21 (by decide) (fun c4 => absurd c4 (by decide)) (fun _ => ?_)
  refine lv_iload_n hx hb dJ5_append_c97b9_24 rfl (lv_at hl 3 rfl) ?_
  refine lv_iload_n hx hb dJ5_append_c97b9_25 rfl (lv_at hl 0 rfl) ?_
  refine lv_aload_n hx hb dJ5_append_c97b9_26 rfl (lv_at hl 2 rfl) ?_
  refine jg_value K hP dJ5_append_c97b9_27 ?_
  refine fj_callS (rest := []) hx hb hml hown hT9 hE9 hSt9 (fun k hk => j_A hk) j_A2 hP hS (cj_getChars1 l Z b v hbv t n i (n + 1) (by omega) (by omega) (by omega)) okj_J5_248 (fx_w 609 (by decide +kernel) rfl) rfl ⟨Nat.le_of_ble_eq_true rfl, Nat.le_of_ble_eq_true rfl⟩ rfl hl.1 (Nat.le_of_ble_eq_true rfl) ⟨Nat.le_of_ble_eq_true rfl, Nat.le_of_ble_eq_true rfl⟩ dJ5_append_c97b9_30 (fun w9 u9 H locs hp9 hP hS _ _ => ?_)
  obtain ⟨rfl, rfl⟩ := hp9
  refine lv_pop hx hb dJ5_append_c97b9_33 rfl ?_
  refine lv_goto (tgt := 48) hx hb dJ5_append_c97b9_34 (by decide) ?_
  refine lv_aload_n hx hb dJ5_append_c97b9_48 rfl (lv_at hl 2 rfl) ?_
  refine lv_iload_n hx hb dJ5_append_c97b9_49 rfl (lv_at hl 0 rfl) ?_
  refine jp_count K hP hS dJ5_append_c97b9_50 (fun H locs hP hS => ?_)
  refine lv_aload_n hx hb dJ5_append_c97b9_53 rfl (lv_at hl 2 rfl) ?_
  exact fj_reta (u := ((va_up t ((n + 1) - 1) (48 + i % 10)), (n + 1))) hx hb hr (Or.inl ⟨_, rfl⟩) hlocks hP hS (Nat.le_of_ble_eq_true rfl) (Nat.le_of_ble_eq_true rfl) dJ5_append_c97b9_54 ⟨rfl, rfl⟩

set_option maxHeartbeats 4000000 in
set_option maxRecDepth 100000 in
theorem cj_appi4_1 (l : Launch) (Z : fx_Z) (b v : Nat) (hbv : b ≠ v) (t : Nat → Nat) (n : Nat) (i : Nat) (hi : i < 10) (hn9 : n < 16) : fj_C l Z yJ4_append_bf812 cJ4_append_bf812 2 (some (.object "java/lang/StringBuilder")) 2 49 0 0 2 (jad b v) (jF b v (Z.2.1 5)) (t, n) [.ref b, .int (nI i)] (fun w8 u8 => w8 = some (.ref b) ∧ u8 = ((va_up t (n + 1 - 1) (48 + i % 10)), (n + 1))) := by
  intro sz
  refine va_MetF (cc := cJ4_append_bf812) (maxL := 2) (ret := (some (.object "java/lang/StringBuilder"))) (by decide +kernel) rfl ?_
  intro p e s m args below meth c s₁ B hml hv
  obtain ⟨rfl, hsz, hP, hE9, hSt9⟩ := hv
  subst hsz
  have hx := B.exec
  have hb := B.bytes
  have hr := B.returns
  have hown : s.vm.findClass RJ4 = some m.cls := findClass_of_methodNamed B.named
  have hlocks := B.notSynchronized
  have hT9 : ∀ w ∈ fx_ws, w.before ([.ref b, .int (nI i)] : List Value).toArray s = true := fun w hw => atoms_spec (ws := fx_l yJ4_append_bf812 cJ4_append_bf812 2 (some (.object "java/lang/StringBuilder"))) B.pre w (List.mem_cons_of_mem _ hw)
  have K : j_K p s m ([.ref b, .int (nI i)] : List Value).toArray c cJ4_append_bf812 2 RJ4 Z b v := ⟨hx, hb, hml, hown, hT9, hE9, hSt9, hbv⟩
  have hS : va_S (fx_A 2 (jad b v) s.heap.size) s.heap s.heap [] := va_S.rf
  have hl := lv_entry ([.ref b, .int (nI i)]) (n := 2) (Nat.le_of_ble_eq_true rfl)
  rw [lg_entry_eq]
  generalize (lg_sl ([.ref b, .int (nI i)]) ++ List.replicate (2 - (lg_sl ([.ref b, .int (nI i)])).length) Slot.unset).toArray = ls at hl ⊢
  have hl : lv_has ls 2 [(0, .ref b), (1, .int (nI i))] := hl
  refine lv_aload_n hx hb dJ4_append_bf812_0 rfl (lv_at hl 0 rfl) ?_
  refine lv_iload_n hx hb dJ4_append_bf812_1 rfl (lv_at hl 1 rfl) ?_
  obtain ⟨cC1, hcC1⟩ := j_cls (s := s) hE9
  refine fj_callU (n := 1) (rest := []) hcC1 hx hb hml hown hT9 hE9 hSt9 (fun k hk => j_A hk) j_A2 hP hS (cj_appi5_1 l Z b v hbv t n i (by omega) (by omega)) okj_J4_53 ⟨by decide, by decide +kernel⟩ (j_recv hE9 hP) rfl ⟨Nat.le_of_ble_eq_true rfl, Nat.le_of_ble_eq_true rfl⟩ rfl hl.1 (Nat.le_of_ble_eq_true rfl) ⟨Nat.le_of_ble_eq_true rfl, Nat.le_of_ble_eq_true rfl⟩ dJ4_append_bf812_2 (fun w9 u9 H locs hp9 hP hS _ _ => ?_)
  obtain ⟨rfl, rfl⟩ := hp9
  refine lv_pop hx hb dJ4_append_bf812_5 rfl ?_
  refine lv_aload_n hx hb dJ4_append_bf812_6 rfl (lv_at hl 0 rfl) ?_
  exact fj_reta (u := ((va_up t (n + 1 - 1) (48 + i % 10)), (n + 1))) hx hb hr (Or.inl ⟨_, rfl⟩) hlocks hP hS (Nat.le_of_ble_eq_true rfl) (Nat.le_of_ble_eq_true rfl) dJ4_append_bf812_7 ⟨rfl, rfl⟩

set_option maxHeartbeats 4000000 in
set_option maxRecDepth 100000 in
theorem cj_appi5_2 (l : Launch) (Z : fx_Z) (b v : Nat) (hbv : b ≠ v) (t : Nat → Nat) (n : Nat) (i : Nat) (hi : i < 100) (hi2 : 10 ≤ i) (hn9 : n < 15) : fj_C l Z yJ5_append_c97b9 cJ5_append_c97b9 4 (some (.object "java/lang/AbstractStringBuilder")) 1 26 0 0 2 (jad b v) (jF b v (Z.2.1 5)) (t, n) [.ref b, .int (nI i)] (fun w8 u8 => w8 = some (.ref b) ∧ u8 = ((va_up (va_up t (n + 2 - 1) (48 + i % 10)) (n + 2 - 1 - 1) (48 + i / 10)), (n + 2))) := by
  intro sz
  refine va_MetF (cc := cJ5_append_c97b9) (maxL := 4) (ret := (some (.object "java/lang/AbstractStringBuilder"))) (by decide +kernel) rfl ?_
  intro p e s m args below meth c s₁ B hml hv
  obtain ⟨rfl, hsz, hP, hE9, hSt9⟩ := hv
  subst hsz
  have hx := B.exec
  have hb := B.bytes
  have hr := B.returns
  have hown : s.vm.findClass RJ5 = some m.cls := findClass_of_methodNamed B.named
  have hlocks := B.notSynchronized
  have hT9 : ∀ w ∈ fx_ws, w.before ([.ref b, .int (nI i)] : List Value).toArray s = true := fun w hw => atoms_spec (ws := fx_l yJ5_append_c97b9 cJ5_append_c97b9 4 (some (.object "java/lang/AbstractStringBuilder"))) B.pre w (List.mem_cons_of_mem _ hw)
  have K : j_K p s m ([.ref b, .int (nI i)] : List Value).toArray c cJ5_append_c97b9 4 RJ5 Z b v := ⟨hx, hb, hml, hown, hT9, hE9, hSt9, hbv⟩
  have hS : va_S (fx_A 2 (jad b v) s.heap.size) s.heap s.heap [] := va_S.rf
  have hl := lv_entry ([.ref b, .int (nI i)]) (n := 4) (Nat.le_of_ble_eq_true rfl)
  rw [lg_entry_eq]
  generalize (lg_sl ([.ref b, .int (nI i)]) ++ List.replicate (4 - (lg_sl ([.ref b, .int (nI i)])).length) Slot.unset).toArray = ls at hl ⊢
  have hl : lv_has ls 4 [(0, .ref b), (1, .int (nI i))] := hl
  refine lv_aload_n hx hb dJ5_append_c97b9_0 rfl (lv_at hl 0 rfl) ?_
  refine jg_count K hP dJ5_append_c97b9_1 ?_
  refine lv_istore_n (lv' := [(2, .int (nI n)), (0, .ref b), (1, .int (nI i))]) hx hb dJ5_append_c97b9_4 rfl hl (by decide) rfl (fun ls hl => ?_)
  refine lv_iload_n hx hb dJ5_append_c97b9_5 rfl (lv_at hl 0 rfl) ?_
  refine lv_iload_n hx hb dJ5_append_c97b9_6 rfl (lv_at hl 2 rfl) ?_
  refine fj_callS (rest := [.int (nI n)]) hx hb hml hown hT9 hE9 hSt9 (fun k hk => j_A hk) j_A2 hP hS (cj_size2 l Z b v hbv t n i (by omega) (by omega)) okj_J5_245 (fx_w 606 (by decide +kernel) rfl) rfl ⟨Nat.le_of_ble_eq_true rfl, Nat.le_of_ble_eq_true rfl⟩ rfl hl.1 (Nat.le_of_ble_eq_true rfl) ⟨Nat.le_of_ble_eq_true rfl, Nat.le_of_ble_eq_true rfl⟩ dJ5_append_c97b9_7 (fun w9 u9 H locs hp9 hP hS _ _ => ?_)
  obtain ⟨rfl, rfl⟩ := hp9
  refine lv_iadd hx hb dJ5_append_c97b9_10 ?_
  rw [show ((nI n) + (nI 2) : Int32) = nI (n + 2) from nI_add n 2]
  refine lv_istore_n (lv' := [(3, .int (nI (n + 2))), (2, .int (nI n)), (0, .ref b), (1, .int (nI i))]) hx hb dJ5_append_c97b9_11 rfl hl (by decide) rfl (fun ls hl => ?_)
  refine lv_aload_n hx hb dJ5_append_c97b9_12 rfl (lv_at hl 2 rfl) ?_
  refine lv_iload_n hx hb dJ5_append_c97b9_13 rfl (lv_at hl 0 rfl) ?_
  refine fj_callV (rest := []) hx hb hml hown hT9 hE9 hSt9 (fun k hk => j_A hk) j_A2 hP hS (cj_ensure l Z b v hbv t n (n + 2) (by omega)) okj_J5_100 (fx_w 514 (by decide +kernel) rfl) (va_Nw.use rfl (hE9.2.2.1 _ (List.mem_append_left _ j_selw))) (j_recv hE9 hP) rfl ⟨Nat.le_of_ble_eq_true rfl, Nat.le_of_ble_eq_true rfl⟩ rfl hl.1 (Nat.le_of_ble_eq_true rfl) ⟨Nat.le_of_ble_eq_true rfl, Nat.le_of_ble_eq_true rfl⟩ dJ5_append_c97b9_14 (fun w9 u9 H locs hp9 hP hS _ _ => ?_)
  obtain ⟨rfl, rfl⟩ := hp9
  refine lv_aload_n hx hb dJ5_append_c97b9_17 rfl (lv_at hl 2 rfl) ?_
  refine fj_callV (rest := []) hx hb hml hown hT9 hE9 hSt9 (fun k hk => j_A hk) j_A2 hP hS (cj_isLatin1 l Z b v hbv t n) okj_J5_83 (fx_w 546 (by decide +kernel) rfl) (hT9 _ (fx_w 548 (by decide +kernel) rfl)) (j_recv hE9 hP) rfl ⟨Nat.le_of_ble_eq_true rfl, Nat.le_of_ble_eq_true rfl⟩ rfl hl.1 (Nat.le_of_ble_eq_true rfl) ⟨Nat.le_of_ble_eq_true rfl, Nat.le_of_ble_eq_true rfl⟩ dJ5_append_c97b9_18 (fun w9 u9 H locs hp9 hP hS _ _ => ?_)
  obtain ⟨rfl, rfl⟩ := hp9
  refine lv_if_eq (tgt := 37) hx hb dJ5_append_c97b9_21 (by decide) (fun c4 => absurd c4 (by decide)) (fun _ => ?_)
  refine lv_iload_n hx hb dJ5_append_c97b9_24 rfl (lv_at hl 3 rfl) ?_
  refine lv_iload_n hx hb dJ5_append_c97b9_25 rfl (lv_at hl 0 rfl) ?_
  refine lv_aload_n hx hb dJ5_append_c97b9_26 rfl (lv_at hl 2 rfl) ?_
  refine jg_value K hP dJ5_append_c97b9_27 ?_
  refine fj_callS (rest := []) hx hb hml hown hT9 hE9 hSt9 (fun k hk => j_A hk) j_A2 hP hS (cj_getChars2 l Z b v hbv t n i (n + 2) (by omega) (by omega) (by omega) (by omega)) okj_J5_248 (fx_w 609 (by decide +kernel) rfl) rfl ⟨Nat.le_of_ble_eq_true rfl, Nat.le_of_ble_eq_true rfl⟩ rfl hl.1 (Nat.le_of_ble_eq_true rfl) ⟨Nat.le_of_ble_eq_true rfl, Nat.le_of_ble_eq_true rfl⟩ dJ5_append_c97b9_30 (fun w9 u9 H locs hp9 hP hS _ _ => ?_)
  obtain ⟨rfl, rfl⟩ := hp9
  refine lv_pop hx hb dJ5_append_c97b9_33 rfl ?_
  refine lv_goto (tgt := 48) hx hb dJ5_append_c97b9_34 (by decide) ?_
  refine lv_aload_n hx hb dJ5_append_c97b9_48 rfl (lv_at hl 2 rfl) ?_
  refine lv_iload_n hx hb dJ5_append_c97b9_49 rfl (lv_at hl 0 rfl) ?_
  refine jp_count K hP hS dJ5_append_c97b9_50 (fun H locs hP hS => ?_)
  refine lv_aload_n hx hb dJ5_append_c97b9_53 rfl (lv_at hl 2 rfl) ?_
  exact fj_reta (u := ((va_up (va_up t ((n + 2) - 1) (48 + i % 10)) ((n + 2) - 1 - 1) (48 + i / 10)), (n + 2))) hx hb hr (Or.inl ⟨_, rfl⟩) hlocks hP hS (Nat.le_of_ble_eq_true rfl) (Nat.le_of_ble_eq_true rfl) dJ5_append_c97b9_54 ⟨rfl, rfl⟩

set_option maxHeartbeats 4000000 in
set_option maxRecDepth 100000 in
theorem cj_appi4_2 (l : Launch) (Z : fx_Z) (b v : Nat) (hbv : b ≠ v) (t : Nat → Nat) (n : Nat) (i : Nat) (hi : i < 100) (hi2 : 10 ≤ i) (hn9 : n < 15) : fj_C l Z yJ4_append_bf812 cJ4_append_bf812 2 (some (.object "java/lang/StringBuilder")) 2 49 0 0 2 (jad b v) (jF b v (Z.2.1 5)) (t, n) [.ref b, .int (nI i)] (fun w8 u8 => w8 = some (.ref b) ∧ u8 = ((va_up (va_up t (n + 2 - 1) (48 + i % 10)) (n + 2 - 1 - 1) (48 + i / 10)), (n + 2))) := by
  intro sz
  refine va_MetF (cc := cJ4_append_bf812) (maxL := 2) (ret := (some (.object "java/lang/StringBuilder"))) (by decide +kernel) rfl ?_
  intro p e s m args below meth c s₁ B hml hv
  obtain ⟨rfl, hsz, hP, hE9, hSt9⟩ := hv
  subst hsz
  have hx := B.exec
  have hb := B.bytes
  have hr := B.returns
  have hown : s.vm.findClass RJ4 = some m.cls := findClass_of_methodNamed B.named
  have hlocks := B.notSynchronized
  have hT9 : ∀ w ∈ fx_ws, w.before ([.ref b, .int (nI i)] : List Value).toArray s = true := fun w hw => atoms_spec (ws := fx_l yJ4_append_bf812 cJ4_append_bf812 2 (some (.object "java/lang/StringBuilder"))) B.pre w (List.mem_cons_of_mem _ hw)
  have K : j_K p s m ([.ref b, .int (nI i)] : List Value).toArray c cJ4_append_bf812 2 RJ4 Z b v := ⟨hx, hb, hml, hown, hT9, hE9, hSt9, hbv⟩
  have hS : va_S (fx_A 2 (jad b v) s.heap.size) s.heap s.heap [] := va_S.rf
  have hl := lv_entry ([.ref b, .int (nI i)]) (n := 2) (Nat.le_of_ble_eq_true rfl)
  rw [lg_entry_eq]
  generalize (lg_sl ([.ref b, .int (nI i)]) ++ List.replicate (2 - (lg_sl ([.ref b, .int (nI i)])).length) Slot.unset).toArray = ls at hl ⊢
  have hl : lv_has ls 2 [(0, .ref b), (1, .int (nI i))] := hl
  refine lv_aload_n hx hb dJ4_append_bf812_0 rfl (lv_at hl 0 rfl) ?_
  refine lv_iload_n hx hb dJ4_append_bf812_1 rfl (lv_at hl 1 rfl) ?_
  obtain ⟨cC1, hcC1⟩ := j_cls (s := s) hE9
  refine fj_callU (n := 1) (rest := []) hcC1 hx hb hml hown hT9 hE9 hSt9 (fun k hk => j_A hk) j_A2 hP hS (cj_appi5_2 l Z b v hbv t n i (by omega) (by omega) (by omega)) okj_J4_53 ⟨by decide, by decide +kernel⟩ (j_recv hE9 hP) rfl ⟨Nat.le_of_ble_eq_true rfl, Nat.le_of_ble_eq_true rfl⟩ rfl hl.1 (Nat.le_of_ble_eq_true rfl) ⟨Nat.le_of_ble_eq_true rfl, Nat.le_of_ble_eq_true rfl⟩ dJ4_append_bf812_2 (fun w9 u9 H locs hp9 hP hS _ _ => ?_)
  obtain ⟨rfl, rfl⟩ := hp9
  refine lv_pop hx hb dJ4_append_bf812_5 rfl ?_
  refine lv_aload_n hx hb dJ4_append_bf812_6 rfl (lv_at hl 0 rfl) ?_
  exact fj_reta (u := ((va_up (va_up t (n + 2 - 1) (48 + i % 10)) (n + 2 - 1 - 1) (48 + i / 10)), (n + 2))) hx hb hr (Or.inl ⟨_, rfl⟩) hlocks hP hS (Nat.le_of_ble_eq_true rfl) (Nat.le_of_ble_eq_true rfl) dJ4_append_bf812_7 ⟨rfl, rfl⟩

set_option maxHeartbeats 4000000 in
set_option maxRecDepth 100000 in
theorem cj_len5 (l : Launch) (Z : fx_Z) (b v : Nat) (hbv : b ≠ v) (t : Nat → Nat) (n : Nat) : fj_C l Z yJ5_length_8abf5 cJ5_length_8abf5 1 (some .int) 0 0 0 0 2 (jad b v) (jF b v (Z.2.1 5)) (t, n) [.ref b] (fun w8 u8 => w8 = some (.int (nI n)) ∧ u8 = (t, n)) := by
  intro sz
  refine va_MetF (cc := cJ5_length_8abf5) (maxL := 1) (ret := (some .int)) (by decide +kernel) rfl ?_
  intro p e s m args below meth c s₁ B hml hv
  obtain ⟨rfl, hsz, hP, hE9, hSt9⟩ := hv
  subst hsz
  have hx := B.exec
  have hb := B.bytes
  have hr := B.returns
  have hown : s.vm.findClass RJ5 = some m.cls := findClass_of_methodNamed B.named
  have hlocks := B.notSynchronized
  have hT9 : ∀ w ∈ fx_ws, w.before ([.ref b] : List Value).toArray s = true := fun w hw => atoms_spec (ws := fx_l yJ5_length_8abf5 cJ5_length_8abf5 1 (some .int)) B.pre w (List.mem_cons_of_mem _ hw)
  have K : j_K p s m ([.ref b] : List Value).toArray c cJ5_length_8abf5 1 RJ5 Z b v := ⟨hx, hb, hml, hown, hT9, hE9, hSt9, hbv⟩
  have hS : va_S (fx_A 2 (jad b v) s.heap.size) s.heap s.heap [] := va_S.rf
  have hl := lv_entry ([.ref b]) (n := 1) (Nat.le_of_ble_eq_true rfl)
  rw [lg_entry_eq]
  generalize (lg_sl ([.ref b]) ++ List.replicate (1 - (lg_sl ([.ref b])).length) Slot.unset).toArray = ls at hl ⊢
  have hl : lv_has ls 1 [(0, .ref b)] := hl
  refine lv_aload_n hx hb dJ5_length_8abf5_0 rfl (lv_at hl 0 rfl) ?_
  refine jg_count K hP dJ5_length_8abf5_1 ?_
  exact fj_reti (u := (t, n)) hx hb hr hlocks rfl hP hS (Nat.le_of_ble_eq_true rfl) (Nat.le_of_ble_eq_true rfl) dJ5_length_8abf5_4 ⟨rfl, rfl⟩

set_option maxHeartbeats 4000000 in
set_option maxRecDepth 100000 in
theorem cj_len4 (l : Launch) (Z : fx_Z) (b v : Nat) (hbv : b ≠ v) (t : Nat → Nat) (n : Nat) : fj_C l Z yJ4_length_8abf5 cJ4_length_8abf5 1 (some .int) 1 20 0 0 2 (jad b v) (jF b v (Z.2.1 5)) (t, n) [.ref b] (fun w8 u8 => w8 = some (.int (nI n)) ∧ u8 = (t, n)) := by
  intro sz
  refine va_MetF (cc := cJ4_length_8abf5) (maxL := 1) (ret := (some .int)) (by decide +kernel) rfl ?_
  intro p e s m args below meth c s₁ B hml hv
  obtain ⟨rfl, hsz, hP, hE9, hSt9⟩ := hv
  subst hsz
  have hx := B.exec
  have hb := B.bytes
  have hr := B.returns
  have hown : s.vm.findClass RJ4 = some m.cls := findClass_of_methodNamed B.named
  have hlocks := B.notSynchronized
  have hT9 : ∀ w ∈ fx_ws, w.before ([.ref b] : List Value).toArray s = true := fun w hw => atoms_spec (ws := fx_l yJ4_length_8abf5 cJ4_length_8abf5 1 (some .int)) B.pre w (List.mem_cons_of_mem _ hw)
  have K : j_K p s m ([.ref b] : List Value).toArray c cJ4_length_8abf5 1 RJ4 Z b v := ⟨hx, hb, hml, hown, hT9, hE9, hSt9, hbv⟩
  have hS : va_S (fx_A 2 (jad b v) s.heap.size) s.heap s.heap [] := va_S.rf
  have hl := lv_entry ([.ref b]) (n := 1) (Nat.le_of_ble_eq_true rfl)
  rw [lg_entry_eq]
  generalize (lg_sl ([.ref b]) ++ List.replicate (1 - (lg_sl ([.ref b])).length) Slot.unset).toArray = ls at hl ⊢
  have hl : lv_has ls 1 [(0, .ref b)] := hl
  refine lv_aload_n hx hb dJ4_length_8abf5_0 rfl (lv_at hl 0 rfl) ?_
  obtain ⟨cC1, hcC1⟩ := j_cls (s := s) hE9
  refine fj_callU (n := 0) (rest := []) hcC1 hx hb hml hown hT9 hE9 hSt9 (fun k hk => j_A hk) j_A2 hP hS (cj_len5 l Z b v hbv t n) okj_J4_343 ⟨by decide, by decide +kernel⟩ (j_recv hE9 hP) rfl ⟨Nat.le_of_ble_eq_true rfl, Nat.le_of_ble_eq_true rfl⟩ rfl hl.1 (Nat.le_of_ble_eq_true rfl) ⟨Nat.le_of_ble_eq_true rfl, Nat.le_of_ble_eq_true rfl⟩ dJ4_length_8abf5_1 (fun w9 u9 H locs hp9 hP hS _ _ => ?_)
  obtain ⟨rfl, rfl⟩ := hp9
  exact fj_reti (u := (t, n)) hx hb hr hlocks rfl hP hS (Nat.le_of_ble_eq_true rfl) (Nat.le_of_ble_eq_true rfl) dJ4_length_8abf5_4 ⟨rfl, rfl⟩

set_option maxHeartbeats 4000000 in
set_option maxRecDepth 100000 in
theorem cj_chk3n (l : Launch) (Z : fx_Z) (b v : Nat) (hbv : b ≠ v) (t : Nat → Nat) (n : Nat) (i : Nat) (k : Nat) (hik : i < k) (hk : k ≤ 16) : fj_C l Z yJ3_checkIndex_8e157 cJ3_checkIndex_8e157 3 (some .int) 0 0 0 0 2 (jad b v) (jF b v (Z.2.1 5)) (t, n) [.int (nI i), .int (nI k), .null] (fun w8 u8 => w8 = some (.int (nI i)) ∧ u8 = (t, n)) := by
  intro sz
  refine va_MetF (cc := cJ3_checkIndex_8e157) (maxL := 3) (ret := (some .int)) (by decide +kernel) rfl ?_
  intro p e s m args below meth c s₁ B hml hv
  obtain ⟨rfl, hsz, hP, hE9, hSt9⟩ := hv
  subst hsz
  have hx := B.exec
  have hb := B.bytes
  have hr := B.returns
  have hown : s.vm.findClass RJ3 = some m.cls := findClass_of_methodNamed B.named
  have hlocks := B.notSynchronized
  have hT9 : ∀ w ∈ fx_ws, w.before ([.int (nI i), .int (nI k), .null] : List Value).toArray s = true := fun w hw => atoms_spec (ws := fx_l yJ3_checkIndex_8e157 cJ3_checkIndex_8e157 3 (some .int)) B.pre w (List.mem_cons_of_mem _ hw)
  have K : j_K p s m ([.int (nI i), .int (nI k), .null] : List Value).toArray c cJ3_checkIndex_8e157 3 RJ3 Z b v := ⟨hx, hb, hml, hown, hT9, hE9, hSt9, hbv⟩
  have hS : va_S (fx_A 2 (jad b v) s.heap.size) s.heap s.heap [] := va_S.rf
  have hl := lv_entry ([.int (nI i), .int (nI k), .null]) (n := 3) (Nat.le_of_ble_eq_true rfl)
  rw [lg_entry_eq]
  generalize (lg_sl ([.int (nI i), .int (nI k), .null]) ++ List.replicate (3 - (lg_sl ([.int (nI i), .int (nI k), .null])).length) Slot.unset).toArray = ls at hl ⊢
  have hl : lv_has ls 3 [(0, .int (nI i)), (1, .int (nI k)), (2, .null)] := hl
  refine lv_iload_n hx hb dJ3_checkIndex_8e157_0 rfl (lv_at hl 0 rfl) ?_
  refine lv_if_lt (tgt := 9) hx hb dJ3_checkIndex_8e157_1 (by decide) (fun c1 => absurd c1 (nI_pos (by omega))) (fun _ => ?_)
  refine lv_iload_n hx hb dJ3_checkIndex_8e157_4 rfl (lv_at hl 0 rfl) ?_
  refine lv_iload_n hx hb dJ3_checkIndex_8e157_5 rfl (lv_at hl 1 rfl) ?_
  refine lv_icmp_lt (tgt := 16) hx hb dJ3_checkIndex_8e157_6 (by decide) (fun _ => ?_) (fun c2 => absurd (nI_lt (by omega) (by omega)) c2)
  refine lv_iload_n hx hb dJ3_checkIndex_8e157_16 rfl (lv_at hl 0 rfl) ?_
  exact fj_reti (u := (t, n)) hx hb hr hlocks rfl hP hS (Nat.le_of_ble_eq_true rfl) (Nat.le_of_ble_eq_true rfl) dJ3_checkIndex_8e157_17 ⟨rfl, rfl⟩

set_option maxHeartbeats 4000000 in
set_option maxRecDepth 100000 in
theorem cj_chk3r (l : Launch) (Z : fx_Z) (b v : Nat) (hbv : b ≠ v) (t : Nat → Nat) (n : Nat) (i : Nat) (k : Nat) (f : Nat) (hik : i < k) (hk : k ≤ 16) : fj_C l Z yJ3_checkIndex_8e157 cJ3_checkIndex_8e157 3 (some .int) 0 0 0 0 2 (jad b v) (jF b v (Z.2.1 5)) (t, n) [.int (nI i), .int (nI k), .ref f] (fun w8 u8 => w8 = some (.int (nI i)) ∧ u8 = (t, n)) := by
  intro sz
  refine va_MetF (cc := cJ3_checkIndex_8e157) (maxL := 3) (ret := (some .int)) (by decide +kernel) rfl ?_
  intro p e s m args below meth c s₁ B hml hv
  obtain ⟨rfl, hsz, hP, hE9, hSt9⟩ := hv
  subst hsz
  have hx := B.exec
  have hb := B.bytes
  have hr := B.returns
  have hown : s.vm.findClass RJ3 = some m.cls := findClass_of_methodNamed B.named
  have hlocks := B.notSynchronized
  have hT9 : ∀ w ∈ fx_ws, w.before ([.int (nI i), .int (nI k), .ref f] : List Value).toArray s = true := fun w hw => atoms_spec (ws := fx_l yJ3_checkIndex_8e157 cJ3_checkIndex_8e157 3 (some .int)) B.pre w (List.mem_cons_of_mem _ hw)
  have K : j_K p s m ([.int (nI i), .int (nI k), .ref f] : List Value).toArray c cJ3_checkIndex_8e157 3 RJ3 Z b v := ⟨hx, hb, hml, hown, hT9, hE9, hSt9, hbv⟩
  have hS : va_S (fx_A 2 (jad b v) s.heap.size) s.heap s.heap [] := va_S.rf
  have hl := lv_entry ([.int (nI i), .int (nI k), .ref f]) (n := 3) (Nat.le_of_ble_eq_true rfl)
  rw [lg_entry_eq]
  generalize (lg_sl ([.int (nI i), .int (nI k), .ref f]) ++ List.replicate (3 - (lg_sl ([.int (nI i), .int (nI k), .ref f])).length) Slot.unset).toArray = ls at hl ⊢
  have hl : lv_has ls 3 [(0, .int (nI i)), (1, .int (nI k)), (2, .ref f)] := hl
  refine lv_iload_n hx hb dJ3_checkIndex_8e157_0 rfl (lv_at hl 0 rfl) ?_
  refine lv_if_lt (tgt := 9) hx hb dJ3_checkIndex_8e157_1 (by decide) (fun c1 => absurd c1 (nI_pos (by omega))) (fun _ => ?_)
  refine lv_iload_n hx hb dJ3_checkIndex_8e157_4 rfl (lv_at hl 0 rfl) ?_
  refine lv_iload_n hx hb dJ3_checkIndex_8e157_5 rfl (lv_at hl 1 rfl) ?_
  refine lv_icmp_lt (tgt := 16) hx hb dJ3_checkIndex_8e157_6 (by decide) (fun _ => ?_) (fun c2 => absurd (nI_lt (by omega) (by omega)) c2)
  refine lv_iload_n hx hb dJ3_checkIndex_8e157_16 rfl (lv_at hl 0 rfl) ?_
  exact fj_reti (u := (t, n)) hx hb hr hlocks rfl hP hS (Nat.le_of_ble_eq_true rfl) (Nat.le_of_ble_eq_true rfl) dJ3_checkIndex_8e157_17 ⟨rfl, rfl⟩

set_option maxHeartbeats 4000000 in
set_option maxRecDepth 100000 in
theorem cj_chk0 (l : Launch) (Z : fx_Z) (b v : Nat) (hbv : b ≠ v) (t : Nat → Nat) (n : Nat) (i : Nat) (k : Nat) (hik : i < k) (hk : k ≤ 16) : fj_C l Z yJ0_checkIndex_df160 cJ0_checkIndex_df160 2 none 1 22 0 0 2 (jad b v) (jF b v (Z.2.1 5)) (t, n) [.int (nI i), .int (nI k)] (fun w8 u8 => w8 = none ∧ u8 = (t, n)) := by
  intro sz
  refine va_MetF (cc := cJ0_checkIndex_df160) (maxL := 2) (ret := none) (by decide +kernel) rfl ?_
  intro p e s m args below meth c s₁ B hml hv
  obtain ⟨rfl, hsz, hP, hE9, hSt9⟩ := hv
  subst hsz
  have hx := B.exec
  have hb := B.bytes
  have hr := B.returns
  have hown : s.vm.findClass RJ0 = some m.cls := findClass_of_methodNamed B.named
  have hlocks := B.notSynchronized
  have hT9 : ∀ w ∈ fx_ws, w.before ([.int (nI i), .int (nI k)] : List Value).toArray s = true := fun w hw => atoms_spec (ws := fx_l yJ0_checkIndex_df160 cJ0_checkIndex_df160 2 none) B.pre w (List.mem_cons_of_mem _ hw)
  have K : j_K p s m ([.int (nI i), .int (nI k)] : List Value).toArray c cJ0_checkIndex_df160 2 RJ0 Z b v := ⟨hx, hb, hml, hown, hT9, hE9, hSt9, hbv⟩
  have hS : va_S (fx_A 2 (jad b v) s.heap.size) s.heap s.heap [] := va_S.rf
  have hl := lv_entry ([.int (nI i), .int (nI k)]) (n := 2) (Nat.le_of_ble_eq_true rfl)
  rw [lg_entry_eq]
  generalize (lg_sl ([.int (nI i), .int (nI k)]) ++ List.replicate (2 - (lg_sl ([.int (nI i), .int (nI k)])).length) Slot.unset).toArray = ls at hl ⊢
  have hl : lv_has ls 2 [(0, .int (nI i)), (1, .int (nI k))] := hl
  refine lv_iload_n hx hb dJ0_checkIndex_df160_0 rfl (lv_at hl 0 rfl) ?_
  refine lv_iload_n hx hb dJ0_checkIndex_df160_1 rfl (lv_at hl 1 rfl) ?_
  rcases hSt9.2.2.2.1 with hzq | ⟨tq, hzq⟩
  · refine va_gets hx hb hzq hS hown (hT9 (.fieldLink RJ0 1053 "jdk/internal/util/Preconditions" "SIOOBE_FORMATTER" "Ljava/util/function/BiFunction;") (fx_w 572 (by decide +kernel) rfl)) (fun _ h9 => h9) dJ0_checkIndex_df160_2 ?_
    refine fj_callS (rest := []) hx hb hml hown hT9 hE9 hSt9 (fun k hk => j_A hk) j_A2 hP hS (cj_chk3n l Z b v hbv t n i k (by omega) (by omega)) okj_J0_1059 (fx_w 596 (by decide +kernel) rfl) rfl ⟨Nat.le_of_ble_eq_true rfl, Nat.le_of_ble_eq_true rfl⟩ rfl hl.1 (Nat.le_of_ble_eq_true rfl) ⟨Nat.le_of_ble_eq_true rfl, Nat.le_of_ble_eq_true rfl⟩ dJ0_checkIndex_df160_5 (fun w9 u9 H locs hp9 hP hS _ _ => ?_)
    obtain ⟨rfl, rfl⟩ := hp9
    refine lv_pop hx hb dJ0_checkIndex_df160_8 rfl ?_
    exact fj_retv (u := (t, n)) hx hb hr hlocks hP hS (Nat.le_of_ble_eq_true rfl) (Nat.le_of_ble_eq_true rfl) dJ0_checkIndex_df160_9 ⟨rfl, rfl⟩
  · refine va_gets hx hb hzq hS hown (hT9 (.fieldLink RJ0 1053 "jdk/internal/util/Preconditions" "SIOOBE_FORMATTER" "Ljava/util/function/BiFunction;") (fx_w 572 (by decide +kernel) rfl)) (fun _ h9 => h9) dJ0_checkIndex_df160_2 ?_
    refine fj_callS (rest := []) hx hb hml hown hT9 hE9 hSt9 (fun k hk => j_A hk) j_A2 hP hS (cj_chk3r l Z b v hbv t n i k tq (by omega) (by omega)) okj_J0_1059 (fx_w 596 (by decide +kernel) rfl) rfl ⟨Nat.le_of_ble_eq_true rfl, Nat.le_of_ble_eq_true rfl⟩ rfl hl.1 (Nat.le_of_ble_eq_true rfl) ⟨Nat.le_of_ble_eq_true rfl, Nat.le_of_ble_eq_true rfl⟩ dJ0_checkIndex_df160_5 (fun w9 u9 H locs hp9 hP hS _ _ => ?_)
    obtain ⟨rfl, rfl⟩ := hp9
    refine lv_pop hx hb dJ0_checkIndex_df160_8 rfl ?_
    exact fj_retv (u := (t, n)) hx hb hr hlocks hP hS (Nat.le_of_ble_eq_true rfl) (Nat.le_of_ble_eq_true rfl) dJ0_checkIndex_df160_9 ⟨rfl, rfl⟩

set_option maxHeartbeats 4000000 in
set_option maxRecDepth 100000 in
theorem cj_at5 (l : Launch) (Z : fx_Z) (b v : Nat) (hbv : b ≠ v) (t : Nat → Nat) (n : Nat) (i : Nat) (hik : i < n) (hn9 : n ≤ 16) (hb9 : t i < 128) : fj_C l Z yJ5_charAt_5068e cJ5_charAt_5068e 5 (some .char) 2 43 0 0 2 (jad b v) (jF b v (Z.2.1 5)) (t, n) [.ref b, .int (nI i)] (fun w8 u8 => w8 = some (.int (nI (t i))) ∧ u8 = (t, n)) := by
  intro sz
  refine va_MetF (cc := cJ5_charAt_5068e) (maxL := 5) (ret := (some .char)) (by decide +kernel) rfl ?_
  intro p e s m args below meth c s₁ B hml hv
  obtain ⟨rfl, hsz, hP, hE9, hSt9⟩ := hv
  subst hsz
  have hx := B.exec
  have hb := B.bytes
  have hr := B.returns
  have hown : s.vm.findClass RJ5 = some m.cls := findClass_of_methodNamed B.named
  have hlocks := B.notSynchronized
  have hT9 : ∀ w ∈ fx_ws, w.before ([.ref b, .int (nI i)] : List Value).toArray s = true := fun w hw => atoms_spec (ws := fx_l yJ5_charAt_5068e cJ5_charAt_5068e 5 (some .char)) B.pre w (List.mem_cons_of_mem _ hw)
  have K : j_K p s m ([.ref b, .int (nI i)] : List Value).toArray c cJ5_charAt_5068e 5 RJ5 Z b v := ⟨hx, hb, hml, hown, hT9, hE9, hSt9, hbv⟩
  have hS : va_S (fx_A 2 (jad b v) s.heap.size) s.heap s.heap [] := va_S.rf
  have hl := lv_entry ([.ref b, .int (nI i)]) (n := 5) (Nat.le_of_ble_eq_true rfl)
  rw [lg_entry_eq]
  generalize (lg_sl ([.ref b, .int (nI i)]) ++ List.replicate (5 - (lg_sl ([.ref b, .int (nI i)])).length) Slot.unset).toArray = ls at hl ⊢
  have hl : lv_has ls 5 [(0, .ref b), (1, .int (nI i))] := hl
  refine lv_aload_n hx hb dJ5_charAt_5068e_0 rfl (lv_at hl 0 rfl) ?_
  refine jg_coder K hP dJ5_charAt_5068e_1 ?_
  refine lv_istore_n (lv' := [(2, .int 0), (0, .ref b), (1, .int (nI i))]) hx hb dJ5_charAt_5068e_4 rfl hl (by decide) rfl (fun ls hl => ?_)
  refine lv_aload_n hx hb dJ5_charAt_5068e_5 rfl (lv_at hl 1 rfl) ?_
  refine jg_value K hP dJ5_charAt_5068e_6 ?_
  refine lv_astore_n (lv' := [(3, .ref v), (2, .int 0), (0, .ref b), (1, .int (nI i))]) hx hb dJ5_charAt_5068e_9 rfl hl (by decide) rfl (fun ls hl => ?_)
  refine lv_aload_n hx hb dJ5_charAt_5068e_10 rfl (lv_at hl 2 rfl) ?_
  refine jg_count K hP dJ5_charAt_5068e_11 ?_
  refine lv_aload_n hx hb dJ5_charAt_5068e_14 rfl (lv_at hl 0 rfl) ?_
  refine j_alen K hP dJ5_charAt_5068e_15 ?_
  refine lv_iload_n hx hb dJ5_charAt_5068e_16 rfl (lv_at hl 1 rfl) ?_
  refine lv_ishr hx hb dJ5_charAt_5068e_17 ?_
  rw [show ((16 : Int32) >>> ((0 : Int32) &&& 31) : Int32) = 16 from (by decide)]
  refine va_mmin hx hb (by rw [hml, hl.1]) (own := RJ5) (index := 138) hown (hT9 _ (fx_w 650 (by decide +kernel) rfl)) (hT9 _ (fx_w 453 (by decide +kernel) rfl)) (hT9 _ (fx_w 48 (by decide +kernel) rfl)) (hT9 _ (fx_w 454 (by decide +kernel) rfl)) (Nat.le_of_ble_eq_true rfl) (Nat.le_of_ble_eq_true rfl) (Nat.le_of_ble_eq_true rfl) (Nat.le_of_ble_eq_true rfl) dJ5_charAt_5068e_18 ?_
  rw [show (if 16 < nI n then 16 else nI n) = nI n from (by rw [if_neg]; exact nI_nlt (a := 16) (b := n) hn9 (by decide))]
  refine lv_istore (lv' := [(4, .int (nI n)), (3, .ref v), (2, .int 0), (0, .ref b), (1, .int (nI i))]) hx hb dJ5_charAt_5068e_21 hl (by decide) rfl (fun ls hl => ?_)
  refine lv_iload_n hx hb dJ5_charAt_5068e_23 rfl (lv_at hl 4 rfl) ?_
  refine lv_iload hx hb dJ5_charAt_5068e_24 (lv_at hl 0 rfl) ?_
  refine fj_callS (rest := []) hx hb hml hown hT9 hE9 hSt9 (fun k hk => j_A hk) j_A2 hP hS (cj_chk0 l Z b v hbv t n i n (by omega) (by omega)) okj_J5_144 (fx_w 593 (by decide +kernel) rfl) rfl ⟨Nat.le_of_ble_eq_true rfl, Nat.le_of_ble_eq_true rfl⟩ rfl hl.1 (Nat.le_of_ble_eq_true rfl) ⟨Nat.le_of_ble_eq_true rfl, Nat.le_of_ble_eq_true rfl⟩ dJ5_charAt_5068e_26 (fun w9 u9 H locs hp9 hP hS _ _ => ?_)
  obtain ⟨rfl, rfl⟩ := hp9
  refine lv_iload_n hx hb dJ5_charAt_5068e_29 rfl (lv_at hl 2 rfl) ?_
  refine lv_if_ne (tgt := 42) hx hb dJ5_charAt_5068e_30 (by decide) (fun c2 => absurd (by decide) c2) (fun _ => ?_)
  refine lv_aload_n hx hb dJ5_charAt_5068e_33 rfl (lv_at hl 1 rfl) ?_
  refine lv_iload_n hx hb dJ5_charAt_5068e_34 rfl (lv_at hl 4 rfl) ?_
  refine j_bald K hP (by omega) dJ5_charAt_5068e_35 ?_
  refine lv_sipush (v := 255) hx hb dJ5_charAt_5068e_36 (by decide) ?_
  refine lv_iand hx hb dJ5_charAt_5068e_39 ?_
  rw [show ((nI (t i)) &&& 255 : Int32) = nI (t i) from jn_10 _ hb9]
  refine lv_i2c (v := nI (t i)) hx hb dJ5_charAt_5068e_40 (jn_11 _ hb9) ?_
  exact fj_reti (u := (t, n)) hx hb hr hlocks (jn_12 _ hb9) hP hS (Nat.le_of_ble_eq_true rfl) (Nat.le_of_ble_eq_true rfl) dJ5_charAt_5068e_41 ⟨rfl, rfl⟩

set_option maxHeartbeats 4000000 in
set_option maxRecDepth 100000 in
theorem cj_at4 (l : Launch) (Z : fx_Z) (b v : Nat) (hbv : b ≠ v) (t : Nat → Nat) (n : Nat) (i : Nat) (hik : i < n) (hn9 : n ≤ 16) (hb9 : t i < 128) : fj_C l Z yJ4_charAt_5068e cJ4_charAt_5068e 2 (some .char) 3 67 0 0 2 (jad b v) (jF b v (Z.2.1 5)) (t, n) [.ref b, .int (nI i)] (fun w8 u8 => w8 = some (.int (nI (t i))) ∧ u8 = (t, n)) := by
  intro sz
  refine va_MetF (cc := cJ4_charAt_5068e) (maxL := 2) (ret := (some .char)) (by decide +kernel) rfl ?_
  intro p e s m args below meth c s₁ B hml hv
  obtain ⟨rfl, hsz, hP, hE9, hSt9⟩ := hv
  subst hsz
  have hx := B.exec
  have hb := B.bytes
  have hr := B.returns
  have hown : s.vm.findClass RJ4 = some m.cls := findClass_of_methodNamed B.named
  have hlocks := B.notSynchronized
  have hT9 : ∀ w ∈ fx_ws, w.before ([.ref b, .int (nI i)] : List Value).toArray s = true := fun w hw => atoms_spec (ws := fx_l yJ4_charAt_5068e cJ4_charAt_5068e 2 (some .char)) B.pre w (List.mem_cons_of_mem _ hw)
  have K : j_K p s m ([.ref b, .int (nI i)] : List Value).toArray c cJ4_charAt_5068e 2 RJ4 Z b v := ⟨hx, hb, hml, hown, hT9, hE9, hSt9, hbv⟩
  have hS : va_S (fx_A 2 (jad b v) s.heap.size) s.heap s.heap [] := va_S.rf
  have hl := lv_entry ([.ref b, .int (nI i)]) (n := 2) (Nat.le_of_ble_eq_true rfl)
  rw [lg_entry_eq]
  generalize (lg_sl ([.ref b, .int (nI i)]) ++ List.replicate (2 - (lg_sl ([.ref b, .int (nI i)])).length) Slot.unset).toArray = ls at hl ⊢
  have hl : lv_has ls 2 [(0, .ref b), (1, .int (nI i))] := hl
  refine lv_aload_n hx hb dJ4_charAt_5068e_0 rfl (lv_at hl 0 rfl) ?_
  refine lv_iload_n hx hb dJ4_charAt_5068e_1 rfl (lv_at hl 1 rfl) ?_
  obtain ⟨cC1, hcC1⟩ := j_cls (s := s) hE9
  refine fj_callU (n := 1) (rest := []) hcC1 hx hb hml hown hT9 hE9 hSt9 (fun k hk => j_A hk) j_A2 hP hS (cj_at5 l Z b v hbv t n i (by omega) (by omega) (by assumption)) okj_J4_329 ⟨by decide, by decide +kernel⟩ (j_recv hE9 hP) rfl ⟨Nat.le_of_ble_eq_true rfl, Nat.le_of_ble_eq_true rfl⟩ rfl hl.1 (Nat.le_of_ble_eq_true rfl) ⟨Nat.le_of_ble_eq_true rfl, Nat.le_of_ble_eq_true rfl⟩ dJ4_charAt_5068e_2 (fun w9 u9 H locs hp9 hP hS _ _ => ?_)
  obtain ⟨rfl, rfl⟩ := hp9
  exact fj_reti (u := (t, n)) hx hb hr hlocks (jn_12 _ hb9) hP hS (Nat.le_of_ble_eq_true rfl) (Nat.le_of_ble_eq_true rfl) dJ4_charAt_5068e_5 ⟨rfl, rfl⟩

