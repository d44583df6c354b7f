/-! ===== calls beside the class's world ===== -/
theorem va_P_l {D : va_G} {cl : List vw_C} {w1 w2 : va_W} {H : Heap} (h : va_P D cl (w1 ++ w2) H) : va_P D cl w1 H := fun k q hk => h k q (by rw [List.getElem?_append_left (List.getElem?_eq_some_iff.mp hk).1]; exact hk)
theorem va_P_r {D : va_G} {cl : List vw_C} {w1 w2 : va_W} {H : Heap} (h : va_P D cl (w1 ++ w2) H) : va_P D cl w2 H := fun k q hk => h (w1.length + k) q (by rw [List.getElem?_append_right (by omega), Nat.add_sub_cancel_left]; exact hk)
def apI (t : Nat → Nat) (n i : Nat) : Nat → Nat := if i < 10 then va_up t (n + 1 - 1) (48 + i % 10) else va_up (va_up t (n + 2 - 1) (48 + i % 10)) (n + 2 - 1 - 1) (48 + i / 10)
theorem cj_appi4 (l : Launch) (Z : fx_Z) (b v : Nat) (hbv : b ≠ v) (t : Nat → Nat) (n : Nat) (i : Nat) (hi : i < 100) (hn9 : n < 15) : fj_C l Z yJ4_append_bf812 cJ4_append_bf812 2 (some (.object "java/lang/StringBuilder")) 2 49 0 0 2 (jad b v) (jF b v (Z.2.1 5)) (t, n) [.ref b, .int (nI i)] (fun w8 u8 => w8 = some (.ref b) ∧ u8 = (apI t n i, n + dgN i)) := by
  by_cases h1 : i < 10
  · rw [show apI t n i = va_up t (n + 1 - 1) (48 + i % 10) from if_pos h1, show dgN i = 1 from if_pos h1]
    exact cj_appi4_1 l Z b v hbv t n i h1 (by omega)
  · rw [show apI t n i = va_up (va_up t (n + 2 - 1) (48 + i % 10)) (n + 2 - 1 - 1) (48 + i / 10) from if_neg h1, show dgN i = 2 by unfold dgN; rw [if_neg h1, if_pos hi]]
    exact cj_appi4_2 l Z b v hbv t n i hi (by omega) (by omega)
theorem okj_X3_198 : fj_ok RX3 198 yJ4_init_da8c8 cJ4_init_da8c8 1 none 0 := ⟨fx_w 479 (by decide +kernel) rfl, fx_w 477 (by decide +kernel) rfl, fx_w 50 (by decide +kernel) rfl, by decide +kernel⟩
section FXD
variable {p : Program} {l : Launch} {e : Env} {R : Room} {s : State} {m : MethodId} {args : Array Value} {below : List Frame} {meth : Method} {c : Code} {H : Heap} {locs : List Loc} {cells slots : Nat} {Q : State → Prop}
variable {Z : fx_Z} {ad : Nat → Nat} {cc : ByteArray} {pc nL : Nat} {ls : Array Slot} {rest : List Value} {g : St} {b v : Nat}
theorem d_notin {k : Nat} (hS : va_S (fx_A 115 ad s.heap.size) s.heap H locs) (hlt : ∀ k, k < 115 → ad k < s.heap.size) (hbv : s.heap.size ≤ b ∧ s.heap.size ≤ v) (hk : k < 115) : ¬ fx_A 2 (jad b v) H.size (ad k) := by
  have h1 := hlt k hk
  have h2 := hS.1
  rintro (⟨k2, hk2, e9⟩ | h)
  · unfold jad at e9
    split at e9 <;> omega
  · omega
theorem d_callV {fr lo n idx maxL o : Nat} {C : String} {y : MethodName} {bytes : ByteArray} {ret : Option FieldType} {As st0 : List Value} {u u2 : SB} {r : Option Value} (K : c_K p l s m args c cc nL Z ad) (hP : va_P Z.1 vwCl (iw 115 (cF ad Z.2.1 g)) H) (hJ : va_P Z.1 vwCl (iw 2 (jF b v (Z.2.1 5) u)) H) (hS : va_S (fx_A 115 ad s.heap.size) s.heap H locs)
    (hlt : ∀ k, k < 115 → ad k < s.heap.size) (hbv : s.heap.size ≤ b ∧ s.heap.size ≤ v)
    (hM : fj_C l Z y bytes maxL ret fr lo 0 0 2 (jad b v) (jF b v (Z.2.1 5)) u (.ref o :: As) (fun w8 u8 => w8 = r ∧ u8 = u2)) (hok : fj_ok RX3 idx y bytes maxL ret n) (hins : Cond.instanceMethod y ∈ fx_ws) (hsel : Cond.selects C y y ∈ fx_ws)
    (hrecv : ∃ cellB : Cell, H[o]? = some cellB ∧ cellB.vm.isStatics = false ∧ s.vm.findClass C = some cellB.cls)
    (hst0 : st0 = As.reverse ++ .ref o :: rest) (hroom : fr + 1 ≤ R.frames ∧ 8 + (maxL + 11) + lo ≤ R.locals) (hn : As.length = n) (hsize : ls.size = nL) (hrest : (rest.map fun v => v.category).sum ≤ 8)
    (hcap : cells + 0 ≤ R.cells ∧ slots + 0 ≤ R.slots) (hdg : decode cc pc = .ok (.invokevirtual idx, 3))
    (kk : ∀ (H1 : Heap) (locs1 : List Loc), va_P Z.1 vwCl (iw 115 (cF ad Z.2.1 g)) H1 → va_P Z.1 vwCl (iw 2 (jF b v (Z.2.1 5) u2)) H1 → va_S (fx_A 115 ad s.heap.size) s.heap H1 locs1 → W p l e R s m args below meth c H1 locs1 cells slots Q (F0 m (pc + 3) ls (r.toList ++ rest))) :
    W p l e R s m args below meth c H locs cells slots Q (F0 m pc ls st0) := by
  obtain ⟨hx, hb, hml, hown, hT, hE, hSt, hinj, -⟩ := K
  refine fj_callV (C := C) (A := fx_A 115 ad s.heap.size) hx hb hml hown hT hE hSt (fun k hk => ?_) c_A2 hJ hS hM hok hins (hT _ hsel) hrecv hst0 hroom hn hsize hrest hcap hdg (fun w9 u9 H1 locs1 hp hJ1 hS1 _ hk => ?_)
  · refine Or.inr ?_
    unfold jad
    split
    · exact hbv.1
    · exact hbv.2
  · obtain ⟨rfl, rfl⟩ := hp
    exact kk H1 locs1 (fx_P_kept hP (cF_1 g) (fun k hk9 => hk _ (fx_P_lt hP hk9) (d_notin hS hlt hbv hk9))) hJ1 hS1
theorem d_new (K : c_K p l s m args c cc nL Z ad) (hP : va_P Z.1 vwCl (iw 115 (cF ad Z.2.1 g)) H) (hS : va_S (fx_A 115 ad s.heap.size) s.heap H locs) (hlt : ∀ k, k < 115 → ad k < s.heap.size)
    (hroom : 2 + 1 ≤ R.frames ∧ 8 + (1 + 11) + 33 ≤ R.locals) (hsize : ls.size = nL) (hrest : ((.ref 0 :: rest).map fun v => v.category).sum ≤ 8) (hcap : cells + 2 ≤ R.cells ∧ slots + 20 ≤ R.slots)
    (d0 : decode cc pc = .ok (.new 196, 3)) (d3 : decode cc (pc + 3) = .ok (.dup, 1)) (d4 : decode cc (pc + 4) = .ok (.invokespecial 198, 3))
    (kk : ∀ (b v : Nat) (H1 : Heap) (locs1 : List Loc), (s.heap.size ≤ b ∧ s.heap.size ≤ v) → b ≠ v → va_P Z.1 vwCl (iw 115 (cF ad Z.2.1 g)) H1 → va_P Z.1 vwCl (iw 2 (jF b v (Z.2.1 5) (fun _ => 0, 0))) H1 → va_S (fx_A 115 ad s.heap.size) s.heap H1 locs1 → W p l e R s m args below meth c H1 locs1 (cells + 1 + 1) (slots + 4 + 16) Q (F0 m (pc + 7) ls (.ref b :: rest))) :
    W p l e R s m args below meth c H locs cells slots Q (F0 m pc ls rest) := by
  obtain ⟨hx, hb, hml, hown, hT, hE, hSt, hinj, -⟩ := K
  refine va_new (D := Z.1) (ci := 0) (C := RJ4) (T := TJ4) (N := 4) (fs := [.null, .int 0, .int 0, .int 0]) hx hb hT i_J4 tyJ4 tyJ4_ok hown (hT (.classLink RX3 196 RJ4) (fx_w 475 (by decide +kernel) rfl)) (hT (.instantiable RJ4 4) (fx_w 476 (by decide +kernel) rfl)) (hT (.initialized RJ4) (fx_w 50 (by decide +kernel) rfl)) hE.1 hP (c_D hinj) hS c_A2 rfl ?_ (by omega) (by omega) d0 (fun b H1 hP1 hD1 hS1 => ?_)
  · intro j hj
    match j, hj with
    | 0, _ => rfl
    | 1, _ => rfl
    | 2, _ => rfl
    | 3, _ => rfl
  have hat : (iw 115 (cF ad Z.2.1 g) ++ [(b, .inr (0, [.null, .int 0, .int 0, .int 0]))])[115]? = some ((b, .inr (0, [.null, .int 0, .int 0, .int 0])) : Nat × va_E) := by
    rw [List.getElem?_append_right (by simp [iw])]; simp [iw]
  have hb9 : s.heap.size ≤ b := by
    rcases hD1.2 115 _ hat with ⟨k, hk, hkb⟩ | h
    · exact absurd (hD1.1 k 115 _ _ (by rw [List.getElem?_append_left (by simp [iw]; omega)]; exact iw_at hk) hat hkb) (by omega)
    · exact h
  have hPc := va_P_l hP1
  have hPb : va_P Z.1 vwCl (iw 1 (jI_F b)) H1 := va_P_r hP1
  have hlb : b < H1.size := fx_P_lt (F := jI_F b) hPb (k := 0) (by decide)
  refine lv_dup hx hb d3 rfl ?_
  refine fi_callI (rest := .ref b :: rest) (A := fx_A 115 ad s.heap.size) hx hb hml hown hT hE hSt (fun k hk => Or.inr hb9) c_A2 hPb hS1 (cj_init4 l Z b) okj_X3_198 (fx_w 478 (by decide +kernel) rfl) rfl rfl hroom rfl hsize hrest ⟨by omega, by omega⟩ d4 (fun v H2 locs2 hp2 hS2 hz hk => ?_)
  obtain ⟨hv, hJ⟩ := hp2
  refine kk b v H2 locs2 ⟨hb9, Nat.le_trans hS1.1 hv⟩ (by omega) (fx_P_kept hPc (cF_1 g) (fun k hk9 => hk _ (fx_P_lt hPc hk9) ?_)) hJ hS2
  have h1 := hlt k hk9
  have h2 := hS1.1
  rintro (⟨k2, hk2, e9⟩ | h)
  · have e9 : b = ad k := e9
    omega
  · omega
end FXD
theorem okj_X3_206 : fj_ok RX3 206 yX3_appendBackwards cX3_appendBackwards 5 none 2 := ⟨fx_w 635 (by decide +kernel) rfl, fx_w 632 (by decide +kernel) rfl, fx_w 37 (by decide +kernel) rfl, by decide +kernel⟩
theorem okj_X3_210 : fj_ok RX3 210 yJ4_length_8abf5 cJ4_length_8abf5 1 (some .int) 0 := ⟨fx_w 639 (by decide +kernel) rfl, fx_w 636 (by decide +kernel) rfl, fx_w 50 (by decide +kernel) rfl, by decide +kernel⟩
theorem okj_X3_214 : fj_ok RX3 214 yJ4_charAt_5068e cJ4_charAt_5068e 2 (some .char) 1 := ⟨fx_w 646 (by decide +kernel) rfl, fx_w 643 (by decide +kernel) rfl, fx_w 50 (by decide +kernel) rfl, by decide +kernel⟩
/-- the code's bytes, and their number -/
def cdT (i tx : Nat) : Nat → Nat := bwT (va_up (apI (va_up (fun _ => 0) 0 82) (0 + 1) i) (0 + 1 + dgN i) 45) (0 + 1 + dgN i + 1) tx (dgN tx)
def cdL (i tx : Nat) : Nat := 0 + 1 + dgN i + 1 + dgN tx
theorem up_lt {t : Nat → Nat} {n x : Nat} (h : ∀ j, t j < 128) (hx : x < 128) : ∀ j, va_up t n x j < 128 := by
  intro j
  unfold va_up
  split
  · exact hx
  · exact h j
theorem bw_lt {t : Nat → Nat} {n x : Nat} (h : ∀ j, t j < 128) : ∀ k j, bwT t n x k j < 128 := by
  intro k
  induction k with
  | zero => exact h
  | succ k ih => exact up_lt ih (by omega)
theorem cd_lt {i tx : Nat} (hi : i < 100) (j : Nat) : cdT i tx j < 128 := by
  refine bw_lt (up_lt ?_ (by decide)) _ j
  unfold apI
  have h0 : ∀ j, va_up (fun _ => 0) 0 82 j < 128 := up_lt (fun _ => by decide) (by decide)
  split
  · exact up_lt h0 (by omega)
  · exact up_lt (up_lt h0 (by omega)) (by omega)
theorem dg_le2 {i : Nat} (h : i < 100) : dgN i ≤ 2 := by unfold dgN; split <;> (try split) <;> omega
theorem okj_X3_203 : fj_ok RX3 203 yJ4_append_bf812 cJ4_append_bf812 2 (some (.object "java/lang/StringBuilder")) 1 := ⟨fx_w 601 (by decide +kernel) rfl, fx_w 598 (by decide +kernel) rfl, fx_w 50 (by decide +kernel) rfl, by decide +kernel⟩
set_option maxHeartbeats 4000000 in
set_option maxRecDepth 100000 in
theorem c_X3_code_in (l : Launch) (hfl : l.stackTraces = false) (Z : fx_Z) (ad : Nat → Nat) (hinj : fx_inj 115 ad) (g : St) (rc tx i q : Nat) (hi : i < rc) (hrc : g 0 0 = nI rc) (hr6 : rc ≤ 60) (hx5 : g 5 i = nI tx) (htx : tx < 10000) (hq2 : q < 2 ^ 31) (hq : q < cdL i tx) : fx_C l Z yX3_code cX3_code 5 (some .char) 4 88 2 20 115 ad (cF ad Z.2.1) g [.ref (ad 0), .int (nI i), .int (nI q)] (pI (nI (cdT i tx q)) g) (fun _ => False) := by
  intro sz
  refine vx_ofW (cc := cX3_code) (maxL := 5) (ret := (some .char)) (by decide) rfl ?_
  intro p e s m args below meth c s₁ B hml hout hv
  obtain ⟨rfl, hsz, hP, hE, hSt⟩ := hv
  subst hsz
  have hx := B.exec
  have hb := B.bytes
  have hr := B.returns
  have hown : s.vm.findClass RX3 = some m.cls := findClass_of_methodNamed B.named
  have hlocks := B.notSynchronized
  have K : c_K p l s m ([.ref (ad 0), .int (nI i), .int (nI q)] : List Value).toArray c cX3_code 5 Z ad := ⟨hx, hb, hml, hown, fun w hw => atoms_spec (ws := fx_l yX3_code cX3_code 5 (some .char)) B.pre w (List.mem_cons_of_mem _ hw), hE, hSt, hinj, hfl⟩
  have hS : va_S (fx_A 115 ad s.heap.size) s.heap s.heap [] := va_S.rf
  have hl := lv_entry ([.ref (ad 0), .int (nI i), .int (nI q)]) (n := 5) (Nat.le_of_ble_eq_true rfl)
  rw [lg_entry_eq]
  generalize (lg_sl ([.ref (ad 0), .int (nI i), .int (nI q)]) ++ List.replicate (5 - (lg_sl ([.ref (ad 0), .int (nI i), .int (nI q)])).length) Slot.unset).toArray = ls at hl ⊢
  have hl : lv_has ls 5 [(0, .ref (ad 0)), (1, .int (nI i)), (2, .int (nI q))] := hl
  have hlt : ∀ k, k < 115 → ad k < s.heap.size := fun k hk => fx_P_lt hP hk
  refine lv_aload_n hx hb dX3_code_0 rfl (lv_at hl 0 rfl) ?_
  refine lv_iload_n hx hb dX3_code_1 rfl (lv_at hl 1 rfl) ?_
  refine c_callr (rest := []) K hP hS (c_X3_receiptNumbered_ok l hfl Z ad hinj g rc i hi hrc hr6) ok_X3_94 rfl ⟨Nat.le_of_ble_eq_true rfl, Nat.le_of_ble_eq_true rfl⟩ rfl hl.1 (Nat.le_of_ble_eq_true rfl) ⟨Nat.le_of_ble_eq_true rfl, Nat.le_of_ble_eq_true rfl⟩ dX3_code_2 (fun H locs hP hS => ?_)
  refine lv_astore_n (lv' := [(3, .ref (ad (5 + i))), (0, .ref (ad 0)), (1, .int (nI i)), (2, .int (nI q))]) hx hb dX3_code_5 rfl hl (by decide) rfl (fun ls hl => ?_)
  refine lv_iload_n hx hb dX3_code_6 rfl (lv_at hl 3 rfl) ?_
  refine lv_if_ge (tgt := 20) hx hb dX3_code_7 (by decide) (fun _ => ?_) (fun c1 => absurd (nI_pos' hq2) c1)
  refine d_new (rest := []) K hP hS hlt ⟨Nat.le_of_ble_eq_true rfl, Nat.le_of_ble_eq_true rfl⟩ hl.1 (Nat.le_of_ble_eq_true rfl) ⟨Nat.le_of_ble_eq_true rfl, Nat.le_of_ble_eq_true rfl⟩ dX3_code_20 dX3_code_23 dX3_code_24 (fun b v H locs hbv hne hP hJ hS => ?_)
  refine lv_astore (lv' := [(4, .ref b), (3, .ref (ad (5 + i))), (0, .ref (ad 0)), (1, .int (nI i)), (2, .int (nI q))]) hx hb dX3_code_27 hl (by decide) rfl (fun ls hl => ?_)
  have hi6 : i < 60 := by omega
  have hdi := dg_le2 (i := i) (by omega)
  have hdt := dg_le4 htx
  refine lv_aload hx hb dX3_code_29 (lv_at hl 0 rfl) ?_
  refine lv_bipush (v := nI 82) hx hb dX3_code_31 (by decide) ?_
  refine d_callV (C := RJ4) (rest := []) K hP hJ hS hlt hbv (cj_appc4 l Z b v hne _ _ 82 (by omega) (by omega)) okj_X3_199 (fx_w 506 (by decide +kernel) rfl) (fx_w 507 (by decide +kernel) rfl) (j_recv K.2.2.2.2.2.1 hJ) rfl ⟨Nat.le_of_ble_eq_true rfl, Nat.le_of_ble_eq_true rfl⟩ rfl hl.1 (Nat.le_of_ble_eq_true rfl) ⟨Nat.le_of_ble_eq_true rfl, Nat.le_of_ble_eq_true rfl⟩ dX3_code_33 (fun H locs hP hJ hS => ?_)
  refine lv_iload_n hx hb dX3_code_36 rfl (lv_at hl 3 rfl) ?_
  refine d_callV (C := RJ4) (rest := []) K hP hJ hS hlt hbv (cj_appi4 l Z b v hne _ _ i (by omega) (by omega)) okj_X3_203 (fx_w 599 (by decide +kernel) rfl) (fx_w 600 (by decide +kernel) rfl) (j_recv K.2.2.2.2.2.1 hJ) rfl ⟨Nat.le_of_ble_eq_true rfl, Nat.le_of_ble_eq_true rfl⟩ rfl hl.1 (Nat.le_of_ble_eq_true rfl) ⟨Nat.le_of_ble_eq_true rfl, Nat.le_of_ble_eq_true rfl⟩ dX3_code_37 (fun H locs hP hJ hS => ?_)
  refine lv_bipush (v := nI 45) hx hb dX3_code_40 (by decide) ?_
  refine d_callV (C := RJ4) (rest := []) K hP hJ hS hlt hbv (cj_appc4 l Z b v hne _ _ 45 (by omega) (by omega)) okj_X3_199 (fx_w 506 (by decide +kernel) rfl) (fx_w 507 (by decide +kernel) rfl) (j_recv K.2.2.2.2.2.1 hJ) rfl ⟨Nat.le_of_ble_eq_true rfl, Nat.le_of_ble_eq_true rfl⟩ rfl hl.1 (Nat.le_of_ble_eq_true rfl) ⟨Nat.le_of_ble_eq_true rfl, Nat.le_of_ble_eq_true rfl⟩ dX3_code_42 (fun H locs hP hJ hS => ?_)
  refine lv_pop hx hb dX3_code_45 rfl ?_
  refine lv_aload_n hx hb dX3_code_46 rfl (lv_at hl 2 rfl) ?_
  refine lv_aload hx hb dX3_code_47 (lv_at hl 0 rfl) ?_
  refine lv_aload_n hx hb dX3_code_49 rfl (lv_at hl 1 rfl) ?_
  refine cgR_tax K hP hi6 dX3_code_50 ?_
  rw [hx5]
  refine d_callV (C := RX3) (rest := []) K hP hJ hS hlt hbv (cj_bw l Z b v hne _ _ (ad 0) tx htx (by omega)) okj_X3_206 (fx_w 634 (by decide +kernel) rfl) (fx_w 23 (by decide +kernel) rfl) (c_recv K hP) rfl ⟨Nat.le_of_ble_eq_true rfl, Nat.le_of_ble_eq_true rfl⟩ rfl hl.1 (Nat.le_of_ble_eq_true rfl) ⟨Nat.le_of_ble_eq_true rfl, Nat.le_of_ble_eq_true rfl⟩ dX3_code_53 (fun H locs hP hJ hS => ?_)
  refine lv_iload_n hx hb dX3_code_56 rfl (lv_at hl 4 rfl) ?_
  refine lv_aload hx hb dX3_code_57 (lv_at hl 0 rfl) ?_
  refine d_callV (C := RJ4) (rest := [.int (nI q)]) K hP hJ hS hlt hbv (cj_len4 l Z b v hne _ _) okj_X3_210 (fx_w 637 (by decide +kernel) rfl) (fx_w 638 (by decide +kernel) rfl) (j_recv K.2.2.2.2.2.1 hJ) rfl ⟨Nat.le_of_ble_eq_true rfl, Nat.le_of_ble_eq_true rfl⟩ rfl hl.1 (Nat.le_of_ble_eq_true rfl) ⟨Nat.le_of_ble_eq_true rfl, Nat.le_of_ble_eq_true rfl⟩ dX3_code_59 (fun H locs hP hJ hS => ?_)
  refine lv_icmp_ge (tgt := 74) hx hb dX3_code_62 (by decide) (fun c2 => absurd c2 (nI_ge hq (by omega))) (fun _ => ?_)
  refine lv_aload hx hb dX3_code_65 (lv_at hl 0 rfl) ?_
  refine lv_iload_n hx hb dX3_code_67 rfl (lv_at hl 4 rfl) ?_
  refine d_callV (C := RJ4) (rest := []) K hP hJ hS hlt hbv (cj_at4 l Z b v hne _ _ q hq (by omega) (cd_lt (by omega) q)) okj_X3_214 (fx_w 644 (by decide +kernel) rfl) (fx_w 645 (by decide +kernel) rfl) (j_recv K.2.2.2.2.2.1 hJ) rfl ⟨Nat.le_of_ble_eq_true rfl, Nat.le_of_ble_eq_true rfl⟩ rfl hl.1 (Nat.le_of_ble_eq_true rfl) ⟨Nat.le_of_ble_eq_true rfl, Nat.le_of_ble_eq_true rfl⟩ dX3_code_68 (fun H locs hP hJ hS => ?_)
  refine lv_goto (tgt := 75) hx hb dX3_code_71 (by decide) ?_
  exact fx_retz hx hb hr hlocks (jn_12 _ (cd_lt (by omega) q)) hP hS (Nat.le_of_ble_eq_true rfl) (Nat.le_of_ble_eq_true rfl) dX3_code_75 ⟨rfl, rfl⟩
set_option maxHeartbeats 4000000 in
set_option maxRecDepth 100000 in
theorem c_X3_code_out (l : Launch) (hfl : l.stackTraces = false) (Z : fx_Z) (ad : Nat → Nat) (hinj : fx_inj 115 ad) (g : St) (rc tx i q : Nat) (hi : i < rc) (hrc : g 0 0 = nI rc) (hr6 : rc ≤ 60) (hx5 : g 5 i = nI tx) (htx : tx < 10000) (hq2 : q < 2 ^ 31) (hq : ¬ q < cdL i tx) : fx_C l Z yX3_code cX3_code 5 (some .char) 4 88 2 20 115 ad (cF ad Z.2.1) g [.ref (ad 0), .int (nI i), .int (nI q)] (pI 0 g) (fun _ => False) := by
  intro sz
  refine vx_ofW (cc := cX3_code) (maxL := 5) (ret := (some .char)) (by decide) rfl ?_
  intro p e s m args below meth c s₁ B hml hout hv
  obtain ⟨rfl, hsz, hP, hE, hSt⟩ := hv
  subst hsz
  have hx := B.exec
  have hb := B.bytes
  have hr := B.returns
  have hown : s.vm.findClass RX3 = some m.cls := findClass_of_methodNamed B.named
  have hlocks := B.notSynchronized
  have K : c_K p l s m ([.ref (ad 0), .int (nI i), .int (nI q)] : List Value).toArray c cX3_code 5 Z ad := ⟨hx, hb, hml, hown, fun w hw => atoms_spec (ws := fx_l yX3_code cX3_code 5 (some .char)) B.pre w (List.mem_cons_of_mem _ hw), hE, hSt, hinj, hfl⟩
  have hS : va_S (fx_A 115 ad s.heap.size) s.heap s.heap [] := va_S.rf
  have hl := lv_entry ([.ref (ad 0), .int (nI i), .int (nI q)]) (n := 5) (Nat.le_of_ble_eq_true rfl)
  rw [lg_entry_eq]
  generalize (lg_sl ([.ref (ad 0), .int (nI i), .int (nI q)]) ++ List.replicate (5 - (lg_sl ([.ref (ad 0), .int (nI i), .int (nI q)])).length) Slot.unset).toArray = ls at hl ⊢
  have hl : lv_has ls 5 [(0, .ref (ad 0)), (1, .int (nI i)), (2, .int (nI q))] := hl
  have hlt : ∀ k, k < 115 → ad k < s.heap.size := fun k hk => fx_P_lt hP hk
  refine lv_aload_n hx hb dX3_code_0 rfl (lv_at hl 0 rfl) ?_
  refine lv_iload_n hx hb dX3_code_1 rfl (lv_at hl 1 rfl) ?_
  refine c_callr (rest := []) K hP hS (c_X3_receiptNumbered_ok l hfl Z ad hinj g rc i hi hrc hr6) ok_X3_94 rfl ⟨Nat.le_of_ble_eq_true rfl, Nat.le_of_ble_eq_true rfl⟩ rfl hl.1 (Nat.le_of_ble_eq_true rfl) ⟨Nat.le_of_ble_eq_true rfl, Nat.le_of_ble_eq_true rfl⟩ dX3_code_2 (fun H locs hP hS => ?_)
  refine lv_astore_n (lv' := [(3, .ref (ad (5 + i))), (0, .ref (ad 0)), (1, .int (nI i)), (2, .int (nI q))]) hx hb dX3_code_5 rfl hl (by decide) rfl (fun ls hl => ?_)
  refine lv_iload_n hx hb dX3_code_6 rfl (lv_at hl 3 rfl) ?_
  refine lv_if_ge (tgt := 20) hx hb dX3_code_7 (by decide) (fun _ => ?_) (fun c1 => absurd (nI_pos' hq2) c1)
  refine d_new (rest := []) K hP hS hlt ⟨Nat.le_of_ble_eq_true rfl, Nat.le_of_ble_eq_true rfl⟩ hl.1 (Nat.le_of_ble_eq_true rfl) ⟨Nat.le_of_ble_eq_true rfl, Nat.le_of_ble_eq_true rfl⟩ dX3_code_20 dX3_code_23 dX3_code_24 (fun b v H locs hbv hne hP hJ hS => ?_)
  refine lv_astore (lv' := [(4, .ref b), (3, .ref (ad (5 + i))), (0, .ref (ad 0)), (1, .int (nI i)), (2, .int (nI q))]) hx hb dX3_code_27 hl (by decide) rfl (fun ls hl => ?_)
  have hi6 : i < 60 := by omega
  have hdi := dg_le2 (i := i) (by omega)
  have hdt := dg_le4 htx
  refine lv_aload hx hb dX3_code_29 (lv_at hl 0 rfl) ?_
  refine lv_bipush (v := nI 82) hx hb dX3_code_31 (by decide) ?_
  refine d_callV (C := RJ4) (rest := []) K hP hJ hS hlt hbv (cj_appc4 l Z b v hne _ _ 82 (by omega) (by omega)) okj_X3_199 (fx_w 506 (by decide +kernel) rfl) (fx_w 507 (by decide +kernel) rfl) (j_recv K.2.2.2.2.2.1 hJ) rfl ⟨Nat.le_of_ble_eq_true rfl, Nat.le_of_ble_eq_true rfl⟩ rfl hl.1 (Nat.le_of_ble_eq_true rfl) ⟨Nat.le_of_ble_eq_true rfl, Nat.le_of_ble_eq_true rfl⟩ dX3_code_33 (fun H locs hP hJ hS => ?_)
  refine lv_iload_n hx hb dX3_code_36 rfl (lv_at hl 3 rfl) ?_
  refine d_callV (C := RJ4) (rest := []) K hP hJ hS hlt hbv (cj_appi4 l Z b v hne _ _ i (by omega) (by omega)) okj_X3_203 (fx_w 599 (by decide +kernel) rfl) (fx_w 600 (by decide +kernel) rfl) (j_recv K.2.2.2.2.2.1 hJ) rfl ⟨Nat.le_of_ble_eq_true rfl, Nat.le_of_ble_eq_true rfl⟩ rfl hl.1 (Nat.le_of_ble_eq_true rfl) ⟨Nat.le_of_ble_eq_true rfl, Nat.le_of_ble_eq_true rfl⟩ dX3_code_37 (fun H locs hP hJ hS => ?_)
  refine lv_bipush (v := nI 45) hx hb dX3_code_40 (by decide) ?_
  refine d_callV (C := RJ4) (rest := []) K hP hJ hS hlt hbv (cj_appc4 l Z b v hne _ _ 45 (by omega) (by omega)) okj_X3_199 (fx_w 506 (by decide +kernel) rfl) (fx_w 507 (by decide +kernel) rfl) (j_recv K.2.2.2.2.2.1 hJ) rfl ⟨Nat.le_of_ble_eq_true rfl, Nat.le_of_ble_eq_true rfl⟩ rfl hl.1 (Nat.le_of_ble_eq_true rfl) ⟨Nat.le_of_ble_eq_true rfl, Nat.le_of_ble_eq_true rfl⟩ dX3_code_42 (fun H locs hP hJ hS => ?_)
  refine lv_pop hx hb dX3_code_45 rfl ?_
  refine lv_aload_n hx hb dX3_code_46 rfl (lv_at hl 2 rfl) ?_
  refine lv_aload hx hb dX3_code_47 (lv_at hl 0 rfl) ?_
  refine lv_aload_n hx hb dX3_code_49 rfl (lv_at hl 1 rfl) ?_
  refine cgR_tax K hP hi6 dX3_code_50 ?_
  rw [hx5]
  refine d_callV (C := RX3) (rest := []) K hP hJ hS hlt hbv (cj_bw l Z b v hne _ _ (ad 0) tx htx (by omega)) okj_X3_206 (fx_w 634 (by decide +kernel) rfl) (fx_w 23 (by decide +kernel) rfl) (c_recv K hP) rfl ⟨Nat.le_of_ble_eq_true rfl, Nat.le_of_ble_eq_true rfl⟩ rfl hl.1 (Nat.le_of_ble_eq_true rfl) ⟨Nat.le_of_ble_eq_true rfl, Nat.le_of_ble_eq_true rfl⟩ dX3_code_53 (fun H locs hP hJ hS => ?_)
  refine lv_iload_n hx hb dX3_code_56 rfl (lv_at hl 4 rfl) ?_
  refine lv_aload hx hb dX3_code_57 (lv_at hl 0 rfl) ?_
  refine d_callV (C := RJ4) (rest := [.int (nI q)]) K hP hJ hS hlt hbv (cj_len4 l Z b v hne _ _) okj_X3_210 (fx_w 637 (by decide +kernel) rfl) (fx_w 638 (by decide +kernel) rfl) (j_recv K.2.2.2.2.2.1 hJ) rfl ⟨Nat.le_of_ble_eq_true rfl, Nat.le_of_ble_eq_true rfl⟩ rfl hl.1 (Nat.le_of_ble_eq_true rfl) ⟨Nat.le_of_ble_eq_true rfl, Nat.le_of_ble_eq_true rfl⟩ dX3_code_59 (fun H locs hP hJ hS => ?_)
  refine lv_icmp_ge (tgt := 74) hx hb dX3_code_62 (by decide) (fun _ => ?_) (fun c2 => absurd (nI_le (Nat.le_of_not_lt hq) (by omega)) c2)
  refine lv_iconst (v := 0) hx hb dX3_code_74 (by decide) ?_
  exact fx_retz hx hb hr hlocks (by decide) hP hS (Nat.le_of_ble_eq_true rfl) (Nat.le_of_ble_eq_true rfl) dX3_code_75 ⟨rfl, rfl⟩
set_option maxHeartbeats 4000000 in
set_option maxRecDepth 100000 in
theorem c_X3_code_x1 (l : Launch) (hfl : l.stackTraces = false) (Z : fx_Z) (ad : Nat → Nat) (hinj : fx_inj 115 ad) (g : St) (rc : Nat) (a : Int32) (q : Int32) (hrc : g 0 0 = nI rc) (hr6 : rc ≤ 60) (hbi : bad a rc) : fx_C l Z yX3_code cX3_code 5 (some .char) 7 103 1 6 115 ad (cF ad Z.2.1) g [.ref (ad 0), .int a, .int q] (fun _ _ => False) (fun E => E = "java/lang/IndexOutOfBoundsException") := by
  intro sz
  refine vx_ofW (cc := cX3_code) (maxL := 5) (ret := (some .char)) (by decide) rfl ?_
  intro p e s m args below meth c s₁ B hml hout hv
  obtain ⟨rfl, hsz, hP, hE, hSt⟩ := hv
  subst hsz
  have hx := B.exec
  have hb := B.bytes
  have hr := B.returns
  have hown : s.vm.findClass RX3 = some m.cls := findClass_of_methodNamed B.named
  have hlocks := B.notSynchronized
  have K : c_K p l s m ([.ref (ad 0), .int a, .int q] : List Value).toArray c cX3_code 5 Z ad := ⟨hx, hb, hml, hown, fun w hw => atoms_spec (ws := fx_l yX3_code cX3_code 5 (some .char)) B.pre w (List.mem_cons_of_mem _ hw), hE, hSt, hinj, hfl⟩
  have hS : va_S (fx_A 115 ad s.heap.size) s.heap s.heap [] := va_S.rf
  have hl := lv_entry ([.ref (ad 0), .int a, .int q]) (n := 5) (Nat.le_of_ble_eq_true rfl)
  rw [lg_entry_eq]
  generalize (lg_sl ([.ref (ad 0), .int a, .int q]) ++ List.replicate (5 - (lg_sl ([.ref (ad 0), .int a, .int q])).length) Slot.unset).toArray = ls at hl ⊢
  have hl : lv_has ls 5 [(0, .ref (ad 0)), (1, .int a), (2, .int q)] := hl
  refine lv_aload_n hx hb dX3_code_0 rfl (lv_at hl 0 rfl) ?_
  refine lv_iload_n hx hb dX3_code_1 rfl (lv_at hl 1 rfl) ?_
  exact c_callx (rest := []) K hlocks hout hP hS (c_X3_receiptNumbered_x l hfl Z ad hinj g rc a (by assumption) (by assumption) (by assumption)) ok_X3_94 rfl ⟨Nat.le_of_ble_eq_true rfl, Nat.le_of_ble_eq_true rfl⟩ rfl hl.1 (Nat.le_of_ble_eq_true rfl) ⟨Nat.le_of_ble_eq_true rfl, Nat.le_of_ble_eq_true rfl⟩ dX3_code_2 (Nat.le_of_ble_eq_true rfl) (Nat.le_of_ble_eq_true rfl) (fun E hE => hE)

set_option maxHeartbeats 4000000 in
set_option maxRecDepth 100000 in
theorem c_X3_code_x2 (l : Launch) (hfl : l.stackTraces = false) (Z : fx_Z) (ad : Nat → Nat) (hinj : fx_inj 115 ad) (g : St) (rc : Nat) (i : Nat) (q : Int32) (hi : i < rc) (hrc : g 0 0 = nI rc) (hr6 : rc ≤ 60) (hq : q < 0) : fx_C l Z yX3_code cX3_code 5 (some .char) 6 82 1 6 115 ad (cF ad Z.2.1) g [.ref (ad 0), .int (nI i), .int q] (fun _ _ => False) (fun E => E = "java/lang/IndexOutOfBoundsException") := by
  intro sz
  refine vx_ofW (cc := cX3_code) (maxL := 5) (ret := (some .char)) (by decide) rfl ?_
  intro p e s m args below meth c s₁ B hml hout hv
  obtain ⟨rfl, hsz, hP, hE, hSt⟩ := hv
  subst hsz
  have hx := B.exec
  have hb := B.bytes
  have hr := B.returns
  have hown : s.vm.findClass RX3 = some m.cls := findClass_of_methodNamed B.named
  have hlocks := B.notSynchronized
  have K : c_K p l s m ([.ref (ad 0), .int (nI i), .int q] : List Value).toArray c cX3_code 5 Z ad := ⟨hx, hb, hml, hown, fun w hw => atoms_spec (ws := fx_l yX3_code cX3_code 5 (some .char)) B.pre w (List.mem_cons_of_mem _ hw), hE, hSt, hinj, hfl⟩
  have hS : va_S (fx_A 115 ad s.heap.size) s.heap s.heap [] := va_S.rf
  have hl := lv_entry ([.ref (ad 0), .int (nI i), .int q]) (n := 5) (Nat.le_of_ble_eq_true rfl)
  rw [lg_entry_eq]
  generalize (lg_sl ([.ref (ad 0), .int (nI i), .int q]) ++ List.replicate (5 - (lg_sl ([.ref (ad 0), .int (nI i), .int q])).length) Slot.unset).toArray = ls at hl ⊢
  have hl : lv_has ls 5 [(0, .ref (ad 0)), (1, .int (nI i)), (2, .int q)] := hl
  refine lv_aload_n hx hb dX3_code_0 rfl (lv_at hl 0 rfl) ?_
  refine lv_iload_n hx hb dX3_code_1 rfl (lv_at hl 1 rfl) ?_
  refine c_callr (rest := []) K hP hS (c_X3_receiptNumbered_ok l hfl Z ad hinj g rc i (by assumption) (by assumption) (by assumption)) ok_X3_94 rfl ⟨Nat.le_of_ble_eq_true rfl, Nat.le_of_ble_eq_true rfl⟩ rfl hl.1 (Nat.le_of_ble_eq_true rfl) ⟨Nat.le_of_ble_eq_true rfl, Nat.le_of_ble_eq_true rfl⟩ dX3_code_2 (fun H locs hP hS => ?_)
  refine lv_astore_n (lv' := [(3, .ref (ad (5 + i))), (0, .ref (ad 0)), (1, .int (nI i)), (2, .int q)]) hx hb dX3_code_5 rfl hl (by decide) rfl (fun ls hl => ?_)
  refine lv_iload_n hx hb dX3_code_6 rfl (lv_at hl 3 rfl) ?_
  refine lv_if_ge (tgt := 20) hx hb dX3_code_7 (by decide) (fun c1 => absurd c1 (Int32.not_le.mpr hq)) (fun _ => ?_)
  exact c_throw (text := "the place is below 0") K hlocks hout hP hS hl.1 xw_IOOBE xi_IOOBE (by decide) xa_IOOBE (by decide) dX3_code_10 dX3_code_13 dX3_code_14 dX3_code_16 dX3_code_19 (Nat.le_of_ble_eq_true rfl) (Nat.le_of_ble_eq_true rfl) (Nat.le_of_ble_eq_true rfl) (Nat.le_of_ble_eq_true rfl) (Nat.le_of_ble_eq_true rfl) (Nat.le_of_ble_eq_true rfl) rfl

