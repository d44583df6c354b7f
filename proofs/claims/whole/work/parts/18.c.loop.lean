/-! ===== the law: its loop ===== -/
theorem and15 (y : Int32) : ∃ j : Nat, j < 16 ∧ y &&& 15 = nI j := by
  refine ⟨(y.toBitVec &&& 15#32).toNat, ?_, ?_⟩
  · rw [BitVec.toNat_and]
    exact Nat.lt_of_le_of_lt Nat.and_le_right (by decide)
  · apply Int32.toBitVec_inj.mp
    simp [nI]
theorem l_lim {i L : Nat} (hL : L ≤ 2560) (hi : i ≤ 2560) : nI L - 5 < nI i ↔ L < i + 5 := by
  by_cases h5 : 5 ≤ L
  · rw [show nI L - 5 = nI (L - 5) from pk_sub (b := 5) h5, nI_ltI (by omega) (by omega)]
    omega
  · refine ⟨fun _ => by omega, fun _ => ?_⟩
    have h0 : ∀ L, L < 5 → nI L - 5 < 0 := by decide +kernel
    have h1 := h0 L (by omega)
    have h2 : 0 ≤ nI i := nI_pos' (by omega)
    rw [Int32.lt_iff_toInt_lt] at h1 ⊢
    rw [Int32.le_iff_toInt_le] at h2
    exact Int.lt_of_lt_of_le h1 h2
/-- all sixteen commands -/
def law_OK (l : Launch) (Z : fx_Z) (ad am : Nat → Nat) (Rel : St → St → Prop) : Prop :=
  (∀ a0 a1 : Int32, op_OK l Z ad am Rel yL_rate cL_rate 5 [(0, 10, 13, 13), (0, 10, 17, 15)] yX4_rate cX4_rate 4 (some .int) [.int a0, .int a1]) ∧
  (∀ a0 a1 a2 a3 : Int32, op_OK l Z ad am Rel yL_buy cL_buy 7 [(0, 14, 17, 13), (0, 14, 21, 15), (0, 14, 25, 21)] yX4_buy cX4_buy 7 (some .int) [.int a0, .int a1, .int a2, .int a3]) ∧
  (∀ a0 : Int32, op_OK l Z ad am Rel yL_giveBack cL_giveBack 4 [(0, 9, 12, 13), (0, 9, 15, 21)] yX4_giveBack cX4_giveBack 3 (some .int) [.int a0]) ∧
  (∀ a0 a1 : Int32, op_OK l Z ad am Rel yL_ferry cL_ferry 5 [(0, 10, 13, 15), (0, 10, 17, 21)] yX4_ferry cX4_ferry 4 (some .int) [.int a0, .int a1]) ∧
  (∀ a0 a1 : Int32, op_OK l Z ad am Rel yL_seat cL_seat 5 [(0, 10, 13, 13), (0, 10, 17, 21)] yX4_seat cX4_seat 4 (some .int) [.int a0, .int a1]) ∧
  (∀ a0 a1 : Int32, op_OK l Z ad am Rel yL_leaveSeat cL_leaveSeat 5 [(0, 10, 13, 13), (0, 10, 17, 21)] yX4_leaveSeat cX4_leaveSeat 6 (some .int) [.int a0, .int a1]) ∧
  (∀ a0 a1 : Int32, op_OK l Z ad am Rel yL_aboard cL_aboard 5 [(0, 10, 13, 13), (0, 10, 17, 21)] yX4_aboard cX4_aboard 7 (some .int) [.int a0, .int a1]) ∧
  (∀ a0 a1 : Int32, op_OK l Z ad am Rel yL_stamp cL_stamp 5 [(0, 10, 13, 13), (0, 10, 17, 21)] yX4_stamp cX4_stamp 5 (some .int) [.int a0, .int a1]) ∧
  (∀ a0 a1 : Int32, a1 = 0 ∨ a1 = 1 → op_OK l Z ad am Rel yL_check cL_check 5 [(0, 10, 13, 13), (0, 10, 17, 21)] yX4_check cX4_check 4 (some .int) [.int a0, .int a1]) ∧
  (∀ a0 : Int32, op_OK l Z ad am Rel yL_comeBack cL_comeBack 4 [(0, 9, 12, 13), (0, 9, 15, 21)] yX4_comeBack cX4_comeBack 3 (some .int) [.int a0]) ∧
  (∀ a0 : Int32, op_OK l Z ad am Rel yL_pass cL_pass 4 [(0, 9, 12, 15), (0, 9, 15, 21)] yX4_pass cX4_pass 4 (some .int) [.int a0]) ∧
  (∀ a0 a1 : Int32, op_OK l Z ad am Rel yL_ofReceipt cL_ofReceipt 5 [(0, 10, 13, 13), (0, 10, 17, 15)] yX4_ofReceipt cX4_ofReceipt 3 (some .int) [.int a0, .int a1]) ∧
  (∀ a0 a1 : Int32, op_OK l Z ad am Rel yL_code cL_code 5 [(0, 10, 13, 13)] yX4_code cX4_code 5 (some .char) [.int a0, .int a1]) ∧
  (∀ a0 a1 : Int32, op_OK l Z ad am Rel yL_ofTraveller cL_ofTraveller 5 [(0, 10, 13, 13), (0, 10, 17, 15)] yX4_ofTraveller cX4_ofTraveller 3 (some .int) [.int a0, .int a1]) ∧
  (∀ a0 : Int32, op_OK l Z ad am Rel yL_refundsAnew cL_refundsAnew 4 [(0, 9, 12, 13)] yX4_refundsAnew cX4_refundsAnew 2 (some .int) [.int a0]) ∧
  (∀ a0 : Int32, op_OK l Z ad am Rel yL_debt cL_debt 4 [(0, 9, 12, 13)] yX4_debt cX4_debt 4 (some .int) [.int a0])
set_option maxHeartbeats 4000000 in
set_option maxRecDepth 100000 in
theorem law_loop {p : Program} {l : Launch} {e : Env} {s : State} {m : MethodId} {below : List Frame} {meth : Method} {c : Code} {Q : State → Prop} {Z : fx_Z} {ad am : Nat → Nat} {b L : Nat} {xs : Nat → Int32} {Rel : St → St → Prop}
    (K : l_K p s m meth c b L xs Z) (hA : l_ad s ad am) (hop : law_OK l Z ad am Rel) (hL : L ≤ 2560)
    (kk : ∀ (H : Heap) (locs : List Loc) (ls : Array Slot) (cells slots : Nat), cells ≤ room_1.cells → slots ≤ room_1.slots → va_S (lA s) s.heap H locs → W p l e room_1 s m #[Value.ref b] below meth c H locs cells slots Q (F0 m 1190 ls [])) :
    ∀ (d k : Nat), L < 5 * k + 5 * d + 5 → 5 * k ≤ 2560 → ∀ (g h : St) (o : Int64) (H : Heap) (locs : List Loc) (ls : Array Slot), Rel g h → va_P Z.1 vwCl (iw 116 (wF ad Z.2.1 (g, o))) H → va_P Z.1 vwCl (iw 22 (mF am (Z.2.1 0) h)) H → va_S (lA s) s.heap H locs → lv_has ls 7 [(4, .int (nI (5 * k))), (3, .ref (ad 115)), (2, .ref (am 0)), (1, .ref (ad 0)), (0, .ref b)] → W p l e room_1 s m #[Value.ref b] below meth c H locs (138 + 2 * k) (1671 + 20 * k) Q (F0 m 23 ls []) := by
  have hx := K.1
  have hb := K.2.1
  have hX := K.2.2.2.2.2.2.2.1
  have hbl := K.2.2.2.2.2.2.2.2
  have hrc9 : 2000 ≤ room_1.cells := Nat.le_of_ble_eq_true rfl
  have hrs9 : 20000 ≤ room_1.slots := Nat.le_of_ble_eq_true rfl
  intro d
  induction d with
  | zero =>
    intro k hd hk g h o H locs ls hR hW hM hS hl
    refine lv_iload hx hb dL_law_23 (lv_at hl 0 rfl) ?_
    refine lv_aload_n hx hb dL_law_25 rfl (lv_at hl 4 rfl) ?_
    refine va_slen hx hb hX hbl (Nat.not_le.mpr hbl) hS dL_law_26 ?_
    refine lv_iconst (v := 5) hx hb dL_law_27 (by decide) ?_
    refine lv_isub hx hb dL_law_28 ?_
    refine lv_icmp_gt (tgt := 1190) hx hb dL_law_29 (by decide) (fun _ => ?_) (fun c9 => absurd ((l_lim hL hk).mpr (by omega)) c9)
    exact kk H locs ls _ _ (by omega) (by omega) hS
  | succ d ih =>
    intro k hd hk g h o H locs ls hR hW hM hS hl
    refine lv_iload hx hb dL_law_23 (lv_at hl 0 rfl) ?_
    refine lv_aload_n hx hb dL_law_25 rfl (lv_at hl 4 rfl) ?_
    refine va_slen hx hb hX hbl (Nat.not_le.mpr hbl) hS dL_law_26 ?_
    refine lv_iconst (v := 5) hx hb dL_law_27 (by decide) ?_
    refine lv_isub hx hb dL_law_28 ?_
    refine lv_icmp_gt (tgt := 1190) hx hb dL_law_29 (by decide) (fun c9 => kk H locs ls _ _ (by omega) (by omega) hS) (fun c9 => ?_)
    have hi : 5 * k + 5 ≤ L := Nat.not_lt.mp fun q => c9 ((l_lim hL hk).mpr q)
    refine lv_aload_n hx hb dL_law_32 rfl (lv_at hl 4 rfl) ?_
    refine lv_iload hx hb dL_law_33 (lv_at hl 0 rfl) ?_
    refine l_sld K hS (by omega) (by omega) dL_law_35 ?_
    refine lv_bipush (v := 15) hx hb dL_law_36 (by decide) ?_
    refine lv_iand hx hb dL_law_38 ?_
    obtain ⟨j, hj, ej⟩ := and15 (xs (5 * k))
    rw [ej]
    have hend : ∀ (g2 h2 : St) (o2 : Int64) (H1 : Heap) (locs1 : List Loc) (ls : Array Slot), Rel g2 h2 → va_P Z.1 vwCl (iw 116 (wF ad Z.2.1 (g2, o2))) H1 → va_P Z.1 vwCl (iw 22 (mF am (Z.2.1 0) h2)) H1 → va_S (lA s) s.heap H1 locs1 → lv_has ls 7 [(4, .int (nI (5 * k))), (3, .ref (ad 115)), (2, .ref (am 0)), (1, .ref (ad 0)), (0, .ref b)] → W p l e room_1 s m #[Value.ref b] below meth c H1 locs1 (138 + 2 * k + 2) (1671 + 20 * k + 20) Q (F0 m 1184 ls []) := by
      intro g2 h2 o2 H1 locs1 ls hR hW hM hS hl
      refine lv_iinc (v := nI (5 * (k + 1))) (lv' := [(4, .int (nI (5 * (k + 1)))), (3, .ref (ad 115)), (2, .ref (am 0)), (1, .ref (ad 0)), (0, .ref b)]) hx hb dL_law_1184 hl (k := 0) rfl (nI_add (5 * k) 5) (by decide) rfl (fun ls hl => ?_)
      refine lv_goto (tgt := 23) hx hb dL_law_1187 (by decide) ?_
      have hgo := ih (k + 1) (by omega) (by omega) g2 h2 o2 H1 locs1 ls hR hW hM hS hl
      rw [show 138 + 2 * (k + 1) = 138 + 2 * k + 2 by omega, show 1671 + 20 * (k + 1) = 1671 + 20 * k + 20 by omega] at hgo
      exact hgo
    obtain ⟨p0, p1, p2, p3, p4, p5, p6, p7, p8, p9, p10, p11, p12, p13, p14, p15⟩ := hop
    match j, hj with
    | 0, _ =>
      refine lv_tableIn (off := 77) (tgt := 116) hx hb dL_law_39 (by decide) (by decide) (by decide) (by decide) ?_
      exact law_rate K hA p0 hR hW hM hS hi hL ⟨by omega, by omega⟩ hl hend
    | 1, _ =>
      refine lv_tableIn (off := 145) (tgt := 184) hx hb dL_law_39 (by decide) (by decide) (by decide) (by decide) ?_
      exact law_buy K hA p1 hR hW hM hS hi hL ⟨by omega, by omega⟩ hl hend
    | 2, _ =>
      refine lv_tableIn (off := 237) (tgt := 276) hx hb dL_law_39 (by decide) (by decide) (by decide) (by decide) ?_
      exact law_giveBack K hA p2 hR hW hM hS hi hL ⟨by omega, by omega⟩ hl hend
    | 3, _ =>
      refine lv_tableIn (off := 293) (tgt := 332) hx hb dL_law_39 (by decide) (by decide) (by decide) (by decide) ?_
      exact law_ferry K hA p3 hR hW hM hS hi hL ⟨by omega, by omega⟩ hl hend
    | 4, _ =>
      refine lv_tableIn (off := 361) (tgt := 400) hx hb dL_law_39 (by decide) (by decide) (by decide) (by decide) ?_
      exact law_seat K hA p4 hR hW hM hS hi hL ⟨by omega, by omega⟩ hl hend
    | 5, _ =>
      refine lv_tableIn (off := 429) (tgt := 468) hx hb dL_law_39 (by decide) (by decide) (by decide) (by decide) ?_
      exact law_leaveSeat K hA p5 hR hW hM hS hi hL ⟨by omega, by omega⟩ hl hend
    | 6, _ =>
      refine lv_tableIn (off := 497) (tgt := 536) hx hb dL_law_39 (by decide) (by decide) (by decide) (by decide) ?_
      exact law_aboard K hA p6 hR hW hM hS hi hL ⟨by omega, by omega⟩ hl hend
    | 7, _ =>
      refine lv_tableIn (off := 565) (tgt := 604) hx hb dL_law_39 (by decide) (by decide) (by decide) (by decide) ?_
      exact law_stamp K hA p7 hR hW hM hS hi hL ⟨by omega, by omega⟩ hl hend
    | 8, _ =>
      refine lv_tableIn (off := 633) (tgt := 672) hx hb dL_law_39 (by decide) (by decide) (by decide) (by decide) ?_
      exact law_check K hA p8 hR hW hM hS hi hL ⟨by omega, by omega⟩ hl hend
    | 9, _ =>
      refine lv_tableIn (off := 717) (tgt := 756) hx hb dL_law_39 (by decide) (by decide) (by decide) (by decide) ?_
      exact law_comeBack K hA p9 hR hW hM hS hi hL ⟨by omega, by omega⟩ hl hend
    | 10, _ =>
      refine lv_tableIn (off := 773) (tgt := 812) hx hb dL_law_39 (by decide) (by decide) (by decide) (by decide) ?_
      exact law_pass K hA p10 hR hW hM hS hi hL ⟨by omega, by omega⟩ hl hend
    | 11, _ =>
      refine lv_tableIn (off := 829) (tgt := 868) hx hb dL_law_39 (by decide) (by decide) (by decide) (by decide) ?_
      exact law_ofReceipt K hA p11 hR hW hM hS hi hL ⟨by omega, by omega⟩ hl hend
    | 12, _ =>
      refine lv_tableIn (off := 897) (tgt := 936) hx hb dL_law_39 (by decide) (by decide) (by decide) (by decide) ?_
      exact law_code K hA p12 hR hW hM hS hi hL ⟨by omega, by omega⟩ hl hend
    | 13, _ =>
      refine lv_tableIn (off := 965) (tgt := 1004) hx hb dL_law_39 (by decide) (by decide) (by decide) (by decide) ?_
      exact law_ofTraveller K hA p13 hR hW hM hS hi hL ⟨by omega, by omega⟩ hl hend
    | 14, _ =>
      refine lv_tableIn (off := 1033) (tgt := 1072) hx hb dL_law_39 (by decide) (by decide) (by decide) (by decide) ?_
      exact law_refundsAnew K hA p14 hR hW hM hS hi hL ⟨by omega, by omega⟩ hl hend
    | 15, _ =>
      refine lv_tableIn (off := 1089) (tgt := 1128) hx hb dL_law_39 (by decide) (by decide) (by decide) (by decide) ?_
      exact law_debt K hA p15 hR hW hM hS hi hL ⟨by omega, by omega⟩ hl hend
    | j + 16, h9 => exact absurd h9 (by omega)
