/-! ===== the sixteen wrappers ===== -/
theorem ok_L_7 : fx_ok RL 7 RX3 yX3_rate cX3_rate 4 (some .int) 2 := ⟨fx_w 174 (by decide +kernel) rfl, fx_w 171 (by decide +kernel) rfl, fx_w 172 (by decide +kernel) rfl, fx_w 173 (by decide +kernel) rfl, fx_w 37 (by decide +kernel) rfl, by decide +kernel⟩
theorem ok_L_17 : fx_ok RL 17 RX3 yX3_buy cX3_buy 7 (some .int) 4 := ⟨fx_w 270 (by decide +kernel) rfl, fx_w 267 (by decide +kernel) rfl, fx_w 268 (by decide +kernel) rfl, fx_w 269 (by decide +kernel) rfl, fx_w 37 (by decide +kernel) rfl, by decide +kernel⟩
theorem ok_L_23 : fx_ok RL 23 RX3 yX3_giveBack cX3_giveBack 3 (some .int) 1 := ⟨fx_w 313 (by decide +kernel) rfl, fx_w 310 (by decide +kernel) rfl, fx_w 311 (by decide +kernel) rfl, fx_w 312 (by decide +kernel) rfl, fx_w 37 (by decide +kernel) rfl, by decide +kernel⟩
theorem ok_L_27 : fx_ok RL 27 RX3 yX3_ferry cX3_ferry 4 (some .int) 2 := ⟨fx_w 331 (by decide +kernel) rfl, fx_w 328 (by decide +kernel) rfl, fx_w 329 (by decide +kernel) rfl, fx_w 330 (by decide +kernel) rfl, fx_w 37 (by decide +kernel) rfl, by decide +kernel⟩
theorem ok_L_30 : fx_ok RL 30 RX3 yX3_seat cX3_seat 5 (some .int) 2 := ⟨fx_w 341 (by decide +kernel) rfl, fx_w 338 (by decide +kernel) rfl, fx_w 339 (by decide +kernel) rfl, fx_w 340 (by decide +kernel) rfl, fx_w 37 (by decide +kernel) rfl, by decide +kernel⟩
theorem ok_L_33 : fx_ok RL 33 RX3 yX3_leaveSeat cX3_leaveSeat 4 (some .int) 2 := ⟨fx_w 368 (by decide +kernel) rfl, fx_w 365 (by decide +kernel) rfl, fx_w 366 (by decide +kernel) rfl, fx_w 367 (by decide +kernel) rfl, fx_w 37 (by decide +kernel) rfl, by decide +kernel⟩
theorem ok_L_36 : fx_ok RL 36 RX3 yX3_aboard cX3_aboard 5 (some .int) 2 := ⟨fx_w 392 (by decide +kernel) rfl, fx_w 389 (by decide +kernel) rfl, fx_w 390 (by decide +kernel) rfl, fx_w 391 (by decide +kernel) rfl, fx_w 37 (by decide +kernel) rfl, by decide +kernel⟩
theorem ok_L_39 : fx_ok RL 39 RX3 yX3_stamp cX3_stamp 5 (some .int) 2 := ⟨fx_w 409 (by decide +kernel) rfl, fx_w 406 (by decide +kernel) rfl, fx_w 407 (by decide +kernel) rfl, fx_w 408 (by decide +kernel) rfl, fx_w 37 (by decide +kernel) rfl, by decide +kernel⟩
theorem ok_L_42 : fx_ok RL 42 RX3 yX3_check cX3_check 4 (some .int) 2 := ⟨fx_w 417 (by decide +kernel) rfl, fx_w 414 (by decide +kernel) rfl, fx_w 415 (by decide +kernel) rfl, fx_w 416 (by decide +kernel) rfl, fx_w 37 (by decide +kernel) rfl, by decide +kernel⟩
theorem ok_L_46 : fx_ok RL 46 RX3 yX3_comeBack cX3_comeBack 3 (some .int) 1 := ⟨fx_w 425 (by decide +kernel) rfl, fx_w 422 (by decide +kernel) rfl, fx_w 423 (by decide +kernel) rfl, fx_w 424 (by decide +kernel) rfl, fx_w 37 (by decide +kernel) rfl, by decide +kernel⟩
theorem ok_L_49 : fx_ok RL 49 RX3 yX3_pass cX3_pass 3 (some .int) 1 := ⟨fx_w 433 (by decide +kernel) rfl, fx_w 430 (by decide +kernel) rfl, fx_w 431 (by decide +kernel) rfl, fx_w 432 (by decide +kernel) rfl, fx_w 37 (by decide +kernel) rfl, by decide +kernel⟩
theorem ok_L_52 : fx_ok RL 52 RX3 yX3_ofReceipt cX3_ofReceipt 4 (some .int) 2 := ⟨fx_w 465 (by decide +kernel) rfl, fx_w 462 (by decide +kernel) rfl, fx_w 463 (by decide +kernel) rfl, fx_w 464 (by decide +kernel) rfl, fx_w 37 (by decide +kernel) rfl, by decide +kernel⟩
theorem ok_L_55 : fx_ok RL 55 RX3 yX3_code cX3_code 5 (some .char) 2 := ⟨fx_w 473 (by decide +kernel) rfl, fx_w 470 (by decide +kernel) rfl, fx_w 471 (by decide +kernel) rfl, fx_w 472 (by decide +kernel) rfl, fx_w 37 (by decide +kernel) rfl, by decide +kernel⟩
theorem ok_L_59 : fx_ok RL 59 RX3 yX3_ofTraveller cX3_ofTraveller 4 (some .int) 2 := ⟨fx_w 661 (by decide +kernel) rfl, fx_w 658 (by decide +kernel) rfl, fx_w 659 (by decide +kernel) rfl, fx_w 660 (by decide +kernel) rfl, fx_w 37 (by decide +kernel) rfl, by decide +kernel⟩
theorem ok_L_62 : fx_ok RL 62 RX3 yX3_refundsAnew cX3_refundsAnew 4 (some .int) 1 := ⟨fx_w 668 (by decide +kernel) rfl, fx_w 665 (by decide +kernel) rfl, fx_w 666 (by decide +kernel) rfl, fx_w 667 (by decide +kernel) rfl, fx_w 37 (by decide +kernel) rfl, by decide +kernel⟩
theorem ok_L_65 : fx_ok RL 65 RX3 yX3_debt cX3_debt 5 (some .int) 1 := ⟨fx_w 679 (by decide +kernel) rfl, fx_w 676 (by decide +kernel) rfl, fx_w 677 (by decide +kernel) rfl, fx_w 678 (by decide +kernel) rfl, fx_w 37 (by decide +kernel) rfl, by decide +kernel⟩
set_option maxHeartbeats 4000000 in
set_option maxRecDepth 100000 in
theorem w_L_rate_ok (l : Launch) (Z : fx_Z) (ad : Nat → Nat) (hinj : fx_inj 116 ad) (g G : St) (o : Int64) (a0 : Int32) (a1 : Int32) (r : Int32) {fr lo mc ms : Nat} (hC : fx_C l Z yX3_rate cX3_rate 4 (some .int) fr lo mc ms 115 ad (cF ad Z.2.1) g [.ref (ad 0), .int a0, .int a1] (pI r G) (fun _ => False)) (hR : fr ≤ 11 ∧ lo ≤ 440 ∧ mc ≤ 2 ∧ ms ≤ 20) : fw_C l Z yL_rate cL_rate 5 [(0, 10, 13, 13), (0, 10, 17, 15)] ad (g, o) [.ref (ad 0), .int a0, .int a1, .ref (ad 115)] 0 (G, r.toInt64) := by
  intro sz
  refine va_MetW (cc := cL_rate) (maxL := 5) (ret := some .int) (hh := [(0, 10, 13, 13), (0, 10, 17, 15)]) (by decide) rfl ?_
  intro p e s m args below meth c s₁ B hml hv
  obtain ⟨rfl, hsz, hP, hE, hSt⟩ := hv
  subst hsz
  have hx := B.exec
  have hb := B.bytes
  have hr := B.returns
  have hown : s.vm.findClass RL = some m.cls := findClass_of_methodNamed B.named
  have hlocks := B.notSynchronized
  have hT : ∀ w ∈ fx_ws, w.before ([.ref (ad 0), .int a0, .int a1, .ref (ad 115)] : List Value).toArray s = true := fun w hw => atoms_spec (ws := fw_l yL_rate cL_rate 5 [(0, 10, 13, 13), (0, 10, 17, 15)]) B.pre w (List.mem_cons_of_mem _ hw)
  have htab : c.exceptionTable.toList = tableOf [(0, 10, 13, 13), (0, 10, 17, 15)] := vx_table (x := yL_rate) B (atoms_spec (ws := fw_l yL_rate cL_rate 5 [(0, 10, 13, 13), (0, 10, 17, 15)]) B.pre _ List.mem_cons_self)
  have K : w_K p l s m ([.ref (ad 0), .int a0, .int a1, .ref (ad 115)] : List Value).toArray c cL_rate 5 Z ad := ⟨hx, hb, hml, hown, hT, hE, hSt, hinj⟩
  have hS : va_S (fx_A 116 ad s.heap.size) s.heap s.heap [] := va_S.rf
  have hl := lv_entry ([.ref (ad 0), .int a0, .int a1, .ref (ad 115)]) (n := 5) (Nat.le_of_ble_eq_true rfl)
  rw [lg_entry_eq]
  generalize (lg_sl ([.ref (ad 0), .int a0, .int a1, .ref (ad 115)]) ++ List.replicate (5 - (lg_sl ([.ref (ad 0), .int a0, .int a1, .ref (ad 115)])).length) Slot.unset).toArray = ls at hl ⊢
  have hl : lv_has ls 5 [(0, .ref (ad 0)), (1, .int a0), (2, .int a1), (3, .ref (ad 115))] := hl
  refine lv_aload_n hx hb dL_rate_0 rfl (lv_at hl 3 rfl) ?_
  refine lv_iconst (v := 0) hx hb dL_rate_1 (by decide) ?_
  refine lv_aload_n hx hb dL_rate_2 rfl (lv_at hl 0 rfl) ?_
  refine lv_iload_n hx hb dL_rate_3 rfl (lv_at hl 1 rfl) ?_
  refine lv_iload_n hx hb dL_rate_4 rfl (lv_at hl 2 rfl) ?_
  refine w_ok (rest := [.int 0, .ref (ad 115)]) K hP hS hC ok_L_7 rfl ⟨by show fr + 1 ≤ 12; omega, by show 8 + (4 + 11) + lo ≤ 476; omega⟩ rfl hl.1 (Nat.le_of_ble_eq_true rfl) ⟨by show 0 + mc ≤ 2; omega, by show 0 + ms ≤ 20; omega⟩ dL_rate_5 (fun H locs hP hS => ?_)
  refine lv_i2l hx hb dL_rate_8 rfl ?_
  refine w_out (rest := []) K hP hS dL_rate_9 (fun H locs hP hS => ?_)
  refine lv_goto (tgt := 21) hx hb dL_rate_10 (by decide) ?_
  refine lv_iconst (v := 0) hx hb dL_rate_21 (by decide) ?_
  exact fj_reti (N := 116) (ad := ad) (u := (G, r.toInt64)) hx hb hr hlocks rfl hP hS (by show 0 + mc ≤ 2; omega) (by show 0 + ms ≤ 20; omega) dL_rate_22 ⟨rfl, rfl⟩

set_option maxHeartbeats 4000000 in
set_option maxRecDepth 100000 in
theorem w_L_rate_IOOBE (l : Launch) (Z : fx_Z) (ad : Nat → Nat) (hinj : fx_inj 116 ad) (g : St) (o : Int64) (a0 : Int32) (a1 : Int32) {fr lo mc ms : Nat} (hC : fx_C l Z yX3_rate cX3_rate 4 (some .int) fr lo mc ms 115 ad (cF ad Z.2.1) g [.ref (ad 0), .int a0, .int a1] (fun _ _ => False) (fun E9 => E9 = "java/lang/IndexOutOfBoundsException")) (hR : fr ≤ 11 ∧ lo ≤ 440 ∧ mc ≤ 2 ∧ ms ≤ 20) : fw_C l Z yL_rate cL_rate 5 [(0, 10, 13, 13), (0, 10, 17, 15)] ad (g, o) [.ref (ad 0), .int a0, .int a1, .ref (ad 115)] 1 (g, o) := by
  intro sz
  refine va_MetW (cc := cL_rate) (maxL := 5) (ret := some .int) (hh := [(0, 10, 13, 13), (0, 10, 17, 15)]) (by decide) rfl ?_
  intro p e s m args below meth c s₁ B hml hv
  obtain ⟨rfl, hsz, hP, hE, hSt⟩ := hv
  subst hsz
  have hx := B.exec
  have hb := B.bytes
  have hr := B.returns
  have hown : s.vm.findClass RL = some m.cls := findClass_of_methodNamed B.named
  have hlocks := B.notSynchronized
  have hT : ∀ w ∈ fx_ws, w.before ([.ref (ad 0), .int a0, .int a1, .ref (ad 115)] : List Value).toArray s = true := fun w hw => atoms_spec (ws := fw_l yL_rate cL_rate 5 [(0, 10, 13, 13), (0, 10, 17, 15)]) B.pre w (List.mem_cons_of_mem _ hw)
  have htab : c.exceptionTable.toList = tableOf [(0, 10, 13, 13), (0, 10, 17, 15)] := vx_table (x := yL_rate) B (atoms_spec (ws := fw_l yL_rate cL_rate 5 [(0, 10, 13, 13), (0, 10, 17, 15)]) B.pre _ List.mem_cons_self)
  have K : w_K p l s m ([.ref (ad 0), .int a0, .int a1, .ref (ad 115)] : List Value).toArray c cL_rate 5 Z ad := ⟨hx, hb, hml, hown, hT, hE, hSt, hinj⟩
  have hS : va_S (fx_A 116 ad s.heap.size) s.heap s.heap [] := va_S.rf
  have hl := lv_entry ([.ref (ad 0), .int a0, .int a1, .ref (ad 115)]) (n := 5) (Nat.le_of_ble_eq_true rfl)
  rw [lg_entry_eq]
  generalize (lg_sl ([.ref (ad 0), .int a0, .int a1, .ref (ad 115)]) ++ List.replicate (5 - (lg_sl ([.ref (ad 0), .int a0, .int a1, .ref (ad 115)])).length) Slot.unset).toArray = ls at hl ⊢
  have hl : lv_has ls 5 [(0, .ref (ad 0)), (1, .int a0), (2, .int a1), (3, .ref (ad 115))] := hl
  refine lv_aload_n hx hb dL_rate_0 rfl (lv_at hl 3 rfl) ?_
  refine lv_iconst (v := 0) hx hb dL_rate_1 (by decide) ?_
  refine lv_aload_n hx hb dL_rate_2 rfl (lv_at hl 0 rfl) ?_
  refine lv_iload_n hx hb dL_rate_3 rfl (lv_at hl 1 rfl) ?_
  refine lv_iload_n hx hb dL_rate_4 rfl (lv_at hl 2 rfl) ?_
  refine w_x (rest := [.int 0, .ref (ad 115)]) K hP hS hC ok_L_7 rfl ⟨by show fr + 1 ≤ 12; omega, by show 8 + (4 + 11) + lo ≤ 476; omega⟩ rfl hl.1 (Nat.le_of_ble_eq_true rfl) ⟨by show 0 + mc ≤ 2; omega, by show 0 + ms ≤ 20; omega⟩ dL_rate_5 [] ⟨0, 10, 13, 13⟩ [⟨0, 10, 17, 15⟩] htab (fun z hz => absurd hz (List.not_mem_nil)) (by decide) (by decide) (hT _ (fx_w 169 (by decide +kernel) rfl)) (List.mem_of_getElem? (i := 0) rfl) (fun q9 H locs hP hS => ?_)
  refine lv_astore (lv' := [(4, .ref q9), (0, .ref (ad 0)), (1, .int a0), (2, .int a1), (3, .ref (ad 115))]) hx hb dL_rate_13 hl (by decide) rfl (fun ls hl => ?_)
  refine lv_iconst (v := 1) hx hb dL_rate_15 (by decide) ?_
  exact fj_reti (N := 116) (ad := ad) (u := (g, o)) hx hb hr hlocks rfl hP hS (by show 0 + mc ≤ 2; omega) (by show 0 + ms ≤ 20; omega) dL_rate_16 ⟨rfl, rfl⟩

set_option maxHeartbeats 4000000 in
set_option maxRecDepth 100000 in
theorem w_L_rate_IAE (l : Launch) (Z : fx_Z) (ad : Nat → Nat) (hinj : fx_inj 116 ad) (g : St) (o : Int64) (a0 : Int32) (a1 : Int32) {fr lo mc ms : Nat} (hC : fx_C l Z yX3_rate cX3_rate 4 (some .int) fr lo mc ms 115 ad (cF ad Z.2.1) g [.ref (ad 0), .int a0, .int a1] (fun _ _ => False) (fun E9 => E9 = "java/lang/IllegalArgumentException")) (hR : fr ≤ 11 ∧ lo ≤ 440 ∧ mc ≤ 2 ∧ ms ≤ 20) : fw_C l Z yL_rate cL_rate 5 [(0, 10, 13, 13), (0, 10, 17, 15)] ad (g, o) [.ref (ad 0), .int a0, .int a1, .ref (ad 115)] 2 (g, o) := by
  intro sz
  refine va_MetW (cc := cL_rate) (maxL := 5) (ret := some .int) (hh := [(0, 10, 13, 13), (0, 10, 17, 15)]) (by decide) rfl ?_
  intro p e s m args below meth c s₁ B hml hv
  obtain ⟨rfl, hsz, hP, hE, hSt⟩ := hv
  subst hsz
  have hx := B.exec
  have hb := B.bytes
  have hr := B.returns
  have hown : s.vm.findClass RL = some m.cls := findClass_of_methodNamed B.named
  have hlocks := B.notSynchronized
  have hT : ∀ w ∈ fx_ws, w.before ([.ref (ad 0), .int a0, .int a1, .ref (ad 115)] : List Value).toArray s = true := fun w hw => atoms_spec (ws := fw_l yL_rate cL_rate 5 [(0, 10, 13, 13), (0, 10, 17, 15)]) B.pre w (List.mem_cons_of_mem _ hw)
  have htab : c.exceptionTable.toList = tableOf [(0, 10, 13, 13), (0, 10, 17, 15)] := vx_table (x := yL_rate) B (atoms_spec (ws := fw_l yL_rate cL_rate 5 [(0, 10, 13, 13), (0, 10, 17, 15)]) B.pre _ List.mem_cons_self)
  have K : w_K p l s m ([.ref (ad 0), .int a0, .int a1, .ref (ad 115)] : List Value).toArray c cL_rate 5 Z ad := ⟨hx, hb, hml, hown, hT, hE, hSt, hinj⟩
  have hS : va_S (fx_A 116 ad s.heap.size) s.heap s.heap [] := va_S.rf
  have hl := lv_entry ([.ref (ad 0), .int a0, .int a1, .ref (ad 115)]) (n := 5) (Nat.le_of_ble_eq_true rfl)
  rw [lg_entry_eq]
  generalize (lg_sl ([.ref (ad 0), .int a0, .int a1, .ref (ad 115)]) ++ List.replicate (5 - (lg_sl ([.ref (ad 0), .int a0, .int a1, .ref (ad 115)])).length) Slot.unset).toArray = ls at hl ⊢
  have hl : lv_has ls 5 [(0, .ref (ad 0)), (1, .int a0), (2, .int a1), (3, .ref (ad 115))] := hl
  refine lv_aload_n hx hb dL_rate_0 rfl (lv_at hl 3 rfl) ?_
  refine lv_iconst (v := 0) hx hb dL_rate_1 (by decide) ?_
  refine lv_aload_n hx hb dL_rate_2 rfl (lv_at hl 0 rfl) ?_
  refine lv_iload_n hx hb dL_rate_3 rfl (lv_at hl 1 rfl) ?_
  refine lv_iload_n hx hb dL_rate_4 rfl (lv_at hl 2 rfl) ?_
  have hpass : ∀ z ∈ ([⟨0, 10, 13, 13⟩] : List ExceptionTableEntry), covers z 5 = false ∨ (z.catchType ≠ 0 ∧ ∃ nm : String, (Cond.classLink RL z.catchType nm).before ([.ref (ad 0), .int a0, .int a1, .ref (ad 115)] : List Value).toArray s = true ∧ va_Nc "java/lang/IllegalArgumentException" nm s) := by
    intro z hz
    simp only [List.mem_cons, List.not_mem_nil, or_false] at hz
    rcases hz with rfl
    · exact Or.inr ⟨by decide, "java/lang/IndexOutOfBoundsException", hT _ (fx_w 169 (by decide +kernel) rfl), hE.2.2.2.1⟩
  refine w_x (rest := [.int 0, .ref (ad 115)]) K hP hS hC ok_L_7 rfl ⟨by show fr + 1 ≤ 12; omega, by show 8 + (4 + 11) + lo ≤ 476; omega⟩ rfl hl.1 (Nat.le_of_ble_eq_true rfl) ⟨by show 0 + mc ≤ 2; omega, by show 0 + ms ≤ 20; omega⟩ dL_rate_5 [⟨0, 10, 13, 13⟩] ⟨0, 10, 17, 15⟩ [] htab hpass (by decide) (by decide) (hT _ (fx_w 170 (by decide +kernel) rfl)) (List.mem_of_getElem? (i := 1) rfl) (fun q9 H locs hP hS => ?_)
  refine lv_astore (lv' := [(4, .ref q9), (0, .ref (ad 0)), (1, .int a0), (2, .int a1), (3, .ref (ad 115))]) hx hb dL_rate_17 hl (by decide) rfl (fun ls hl => ?_)
  refine lv_iconst (v := 2) hx hb dL_rate_19 (by decide) ?_
  exact fj_reti (N := 116) (ad := ad) (u := (g, o)) hx hb hr hlocks rfl hP hS (by show 0 + mc ≤ 2; omega) (by show 0 + ms ≤ 20; omega) dL_rate_20 ⟨rfl, rfl⟩

set_option maxHeartbeats 4000000 in
set_option maxRecDepth 100000 in
theorem w_L_buy_ok (l : Launch) (Z : fx_Z) (ad : Nat → Nat) (hinj : fx_inj 116 ad) (g G : St) (o : Int64) (a0 : Int32) (a1 : Int32) (a2 : Int32) (a3 : Int32) (r : Int32) {fr lo mc ms : Nat} (hC : fx_C l Z yX3_buy cX3_buy 7 (some .int) fr lo mc ms 115 ad (cF ad Z.2.1) g [.ref (ad 0), .int a0, .int a1, .int a2, .int a3] (pI r G) (fun _ => False)) (hR : fr ≤ 11 ∧ lo ≤ 440 ∧ mc ≤ 2 ∧ ms ≤ 20) : fw_C l Z yL_buy cL_buy 7 [(0, 14, 17, 13), (0, 14, 21, 15), (0, 14, 25, 21)] ad (g, o) [.ref (ad 0), .int a0, .int a1, .int a2, .int a3, .ref (ad 115)] 0 (G, r.toInt64) := by
  intro sz
  refine va_MetW (cc := cL_buy) (maxL := 7) (ret := some .int) (hh := [(0, 14, 17, 13), (0, 14, 21, 15), (0, 14, 25, 21)]) (by decide) rfl ?_
  intro p e s m args below meth c s₁ B hml hv
  obtain ⟨rfl, hsz, hP, hE, hSt⟩ := hv
  subst hsz
  have hx := B.exec
  have hb := B.bytes
  have hr := B.returns
  have hown : s.vm.findClass RL = some m.cls := findClass_of_methodNamed B.named
  have hlocks := B.notSynchronized
  have hT : ∀ w ∈ fx_ws, w.before ([.ref (ad 0), .int a0, .int a1, .int a2, .int a3, .ref (ad 115)] : List Value).toArray s = true := fun w hw => atoms_spec (ws := fw_l yL_buy cL_buy 7 [(0, 14, 17, 13), (0, 14, 21, 15), (0, 14, 25, 21)]) B.pre w (List.mem_cons_of_mem _ hw)
  have htab : c.exceptionTable.toList = tableOf [(0, 14, 17, 13), (0, 14, 21, 15), (0, 14, 25, 21)] := vx_table (x := yL_rate) B (atoms_spec (ws := fw_l yL_buy cL_buy 7 [(0, 14, 17, 13), (0, 14, 21, 15), (0, 14, 25, 21)]) B.pre _ List.mem_cons_self)
  have K : w_K p l s m ([.ref (ad 0), .int a0, .int a1, .int a2, .int a3, .ref (ad 115)] : List Value).toArray c cL_buy 7 Z ad := ⟨hx, hb, hml, hown, hT, hE, hSt, hinj⟩
  have hS : va_S (fx_A 116 ad s.heap.size) s.heap s.heap [] := va_S.rf
  have hl := lv_entry ([.ref (ad 0), .int a0, .int a1, .int a2, .int a3, .ref (ad 115)]) (n := 7) (Nat.le_of_ble_eq_true rfl)
  rw [lg_entry_eq]
  generalize (lg_sl ([.ref (ad 0), .int a0, .int a1, .int a2, .int a3, .ref (ad 115)]) ++ List.replicate (7 - (lg_sl ([.ref (ad 0), .int a0, .int a1, .int a2, .int a3, .ref (ad 115)])).length) Slot.unset).toArray = ls at hl ⊢
  have hl : lv_has ls 7 [(0, .ref (ad 0)), (1, .int a0), (2, .int a1), (3, .int a2), (4, .int a3), (5, .ref (ad 115))] := hl
  refine lv_aload hx hb dL_buy_0 (lv_at hl 5 rfl) ?_
  refine lv_iconst (v := 0) hx hb dL_buy_2 (by decide) ?_
  refine lv_aload_n hx hb dL_buy_3 rfl (lv_at hl 0 rfl) ?_
  refine lv_iload_n hx hb dL_buy_4 rfl (lv_at hl 1 rfl) ?_
  refine lv_iload_n hx hb dL_buy_5 rfl (lv_at hl 2 rfl) ?_
  refine lv_iload_n hx hb dL_buy_6 rfl (lv_at hl 3 rfl) ?_
  refine lv_iload hx hb dL_buy_7 (lv_at hl 4 rfl) ?_
  refine w_ok (rest := [.int 0, .ref (ad 115)]) K hP hS hC ok_L_17 rfl ⟨by show fr + 1 ≤ 12; omega, by show 8 + (7 + 11) + lo ≤ 476; omega⟩ rfl hl.1 (Nat.le_of_ble_eq_true rfl) ⟨by show 0 + mc ≤ 2; omega, by show 0 + ms ≤ 20; omega⟩ dL_buy_9 (fun H locs hP hS => ?_)
  refine lv_i2l hx hb dL_buy_12 rfl ?_
  refine w_out (rest := []) K hP hS dL_buy_13 (fun H locs hP hS => ?_)
  refine lv_goto (tgt := 29) hx hb dL_buy_14 (by decide) ?_
  refine lv_iconst (v := 0) hx hb dL_buy_29 (by decide) ?_
  exact fj_reti (N := 116) (ad := ad) (u := (G, r.toInt64)) hx hb hr hlocks rfl hP hS (by show 0 + mc ≤ 2; omega) (by show 0 + ms ≤ 20; omega) dL_buy_30 ⟨rfl, rfl⟩

set_option maxHeartbeats 4000000 in
set_option maxRecDepth 100000 in
theorem w_L_buy_IOOBE (l : Launch) (Z : fx_Z) (ad : Nat → Nat) (hinj : fx_inj 116 ad) (g : St) (o : Int64) (a0 : Int32) (a1 : Int32) (a2 : Int32) (a3 : Int32) {fr lo mc ms : Nat} (hC : fx_C l Z yX3_buy cX3_buy 7 (some .int) fr lo mc ms 115 ad (cF ad Z.2.1) g [.ref (ad 0), .int a0, .int a1, .int a2, .int a3] (fun _ _ => False) (fun E9 => E9 = "java/lang/IndexOutOfBoundsException")) (hR : fr ≤ 11 ∧ lo ≤ 440 ∧ mc ≤ 2 ∧ ms ≤ 20) : fw_C l Z yL_buy cL_buy 7 [(0, 14, 17, 13), (0, 14, 21, 15), (0, 14, 25, 21)] ad (g, o) [.ref (ad 0), .int a0, .int a1, .int a2, .int a3, .ref (ad 115)] 1 (g, o) := by
  intro sz
  refine va_MetW (cc := cL_buy) (maxL := 7) (ret := some .int) (hh := [(0, 14, 17, 13), (0, 14, 21, 15), (0, 14, 25, 21)]) (by decide) rfl ?_
  intro p e s m args below meth c s₁ B hml hv
  obtain ⟨rfl, hsz, hP, hE, hSt⟩ := hv
  subst hsz
  have hx := B.exec
  have hb := B.bytes
  have hr := B.returns
  have hown : s.vm.findClass RL = some m.cls := findClass_of_methodNamed B.named
  have hlocks := B.notSynchronized
  have hT : ∀ w ∈ fx_ws, w.before ([.ref (ad 0), .int a0, .int a1, .int a2, .int a3, .ref (ad 115)] : List Value).toArray s = true := fun w hw => atoms_spec (ws := fw_l yL_buy cL_buy 7 [(0, 14, 17, 13), (0, 14, 21, 15), (0, 14, 25, 21)]) B.pre w (List.mem_cons_of_mem _ hw)
  have htab : c.exceptionTable.toList = tableOf [(0, 14, 17, 13), (0, 14, 21, 15), (0, 14, 25, 21)] := vx_table (x := yL_rate) B (atoms_spec (ws := fw_l yL_buy cL_buy 7 [(0, 14, 17, 13), (0, 14, 21, 15), (0, 14, 25, 21)]) B.pre _ List.mem_cons_self)
  have K : w_K p l s m ([.ref (ad 0), .int a0, .int a1, .int a2, .int a3, .ref (ad 115)] : List Value).toArray c cL_buy 7 Z ad := ⟨hx, hb, hml, hown, hT, hE, hSt, hinj⟩
  have hS : va_S (fx_A 116 ad s.heap.size) s.heap s.heap [] := va_S.rf
  have hl := lv_entry ([.ref (ad 0), .int a0, .int a1, .int a2, .int a3, .ref (ad 115)]) (n := 7) (Nat.le_of_ble_eq_true rfl)
  rw [lg_entry_eq]
  generalize (lg_sl ([.ref (ad 0), .int a0, .int a1, .int a2, .int a3, .ref (ad 115)]) ++ List.replicate (7 - (lg_sl ([.ref (ad 0), .int a0, .int a1, .int a2, .int a3, .ref (ad 115)])).length) Slot.unset).toArray = ls at hl ⊢
  have hl : lv_has ls 7 [(0, .ref (ad 0)), (1, .int a0), (2, .int a1), (3, .int a2), (4, .int a3), (5, .ref (ad 115))] := hl
  refine lv_aload hx hb dL_buy_0 (lv_at hl 5 rfl) ?_
  refine lv_iconst (v := 0) hx hb dL_buy_2 (by decide) ?_
  refine lv_aload_n hx hb dL_buy_3 rfl (lv_at hl 0 rfl) ?_
  refine lv_iload_n hx hb dL_buy_4 rfl (lv_at hl 1 rfl) ?_
  refine lv_iload_n hx hb dL_buy_5 rfl (lv_at hl 2 rfl) ?_
  refine lv_iload_n hx hb dL_buy_6 rfl (lv_at hl 3 rfl) ?_
  refine lv_iload hx hb dL_buy_7 (lv_at hl 4 rfl) ?_
  refine w_x (rest := [.int 0, .ref (ad 115)]) K hP hS hC ok_L_17 rfl ⟨by show fr + 1 ≤ 12; omega, by show 8 + (7 + 11) + lo ≤ 476; omega⟩ rfl hl.1 (Nat.le_of_ble_eq_true rfl) ⟨by show 0 + mc ≤ 2; omega, by show 0 + ms ≤ 20; omega⟩ dL_buy_9 [] ⟨0, 14, 17, 13⟩ [⟨0, 14, 21, 15⟩, ⟨0, 14, 25, 21⟩] htab (fun z hz => absurd hz (List.not_mem_nil)) (by decide) (by decide) (hT _ (fx_w 169 (by decide +kernel) rfl)) (List.mem_of_getElem? (i := 0) rfl) (fun q9 H locs hP hS => ?_)
  refine lv_astore (lv' := [(6, .ref q9), (0, .ref (ad 0)), (1, .int a0), (2, .int a1), (3, .int a2), (4, .int a3), (5, .ref (ad 115))]) hx hb dL_buy_17 hl (by decide) rfl (fun ls hl => ?_)
  refine lv_iconst (v := 1) hx hb dL_buy_19 (by decide) ?_
  exact fj_reti (N := 116) (ad := ad) (u := (g, o)) hx hb hr hlocks rfl hP hS (by show 0 + mc ≤ 2; omega) (by show 0 + ms ≤ 20; omega) dL_buy_20 ⟨rfl, rfl⟩

set_option maxHeartbeats 4000000 in
set_option maxRecDepth 100000 in
theorem w_L_buy_IAE (l : Launch) (Z : fx_Z) (ad : Nat → Nat) (hinj : fx_inj 116 ad) (g : St) (o : Int64) (a0 : Int32) (a1 : Int32) (a2 : Int32) (a3 : Int32) {fr lo mc ms : Nat} (hC : fx_C l Z yX3_buy cX3_buy 7 (some .int) fr lo mc ms 115 ad (cF ad Z.2.1) g [.ref (ad 0), .int a0, .int a1, .int a2, .int a3] (fun _ _ => False) (fun E9 => E9 = "java/lang/IllegalArgumentException")) (hR : fr ≤ 11 ∧ lo ≤ 440 ∧ mc ≤ 2 ∧ ms ≤ 20) : fw_C l Z yL_buy cL_buy 7 [(0, 14, 17, 13), (0, 14, 21, 15), (0, 14, 25, 21)] ad (g, o) [.ref (ad 0), .int a0, .int a1, .int a2, .int a3, .ref (ad 115)] 2 (g, o) := by
  intro sz
  refine va_MetW (cc := cL_buy) (maxL := 7) (ret := some .int) (hh := [(0, 14, 17, 13), (0, 14, 21, 15), (0, 14, 25, 21)]) (by decide) rfl ?_
  intro p e s m args below meth c s₁ B hml hv
  obtain ⟨rfl, hsz, hP, hE, hSt⟩ := hv
  subst hsz
  have hx := B.exec
  have hb := B.bytes
  have hr := B.returns
  have hown : s.vm.findClass RL = some m.cls := findClass_of_methodNamed B.named
  have hlocks := B.notSynchronized
  have hT : ∀ w ∈ fx_ws, w.before ([.ref (ad 0), .int a0, .int a1, .int a2, .int a3, .ref (ad 115)] : List Value).toArray s = true := fun w hw => atoms_spec (ws := fw_l yL_buy cL_buy 7 [(0, 14, 17, 13), (0, 14, 21, 15), (0, 14, 25, 21)]) B.pre w (List.mem_cons_of_mem _ hw)
  have htab : c.exceptionTable.toList = tableOf [(0, 14, 17, 13), (0, 14, 21, 15), (0, 14, 25, 21)] := vx_table (x := yL_rate) B (atoms_spec (ws := fw_l yL_buy cL_buy 7 [(0, 14, 17, 13), (0, 14, 21, 15), (0, 14, 25, 21)]) B.pre _ List.mem_cons_self)
  have K : w_K p l s m ([.ref (ad 0), .int a0, .int a1, .int a2, .int a3, .ref (ad 115)] : List Value).toArray c cL_buy 7 Z ad := ⟨hx, hb, hml, hown, hT, hE, hSt, hinj⟩
  have hS : va_S (fx_A 116 ad s.heap.size) s.heap s.heap [] := va_S.rf
  have hl := lv_entry ([.ref (ad 0), .int a0, .int a1, .int a2, .int a3, .ref (ad 115)]) (n := 7) (Nat.le_of_ble_eq_true rfl)
  rw [lg_entry_eq]
  generalize (lg_sl ([.ref (ad 0), .int a0, .int a1, .int a2, .int a3, .ref (ad 115)]) ++ List.replicate (7 - (lg_sl ([.ref (ad 0), .int a0, .int a1, .int a2, .int a3, .ref (ad 115)])).length) Slot.unset).toArray = ls at hl ⊢
  have hl : lv_has ls 7 [(0, .ref (ad 0)), (1, .int a0), (2, .int a1), (3, .int a2), (4, .int a3), (5, .ref (ad 115))] := hl
  refine lv_aload hx hb dL_buy_0 (lv_at hl 5 rfl) ?_
  refine lv_iconst (v := 0) hx hb dL_buy_2 (by decide) ?_
  refine lv_aload_n hx hb dL_buy_3 rfl (lv_at hl 0 rfl) ?_
  refine lv_iload_n hx hb dL_buy_4 rfl (lv_at hl 1 rfl) ?_
  refine lv_iload_n hx hb dL_buy_5 rfl (lv_at hl 2 rfl) ?_
  refine lv_iload_n hx hb dL_buy_6 rfl (lv_at hl 3 rfl) ?_
  refine lv_iload hx hb dL_buy_7 (lv_at hl 4 rfl) ?_
  have hpass : ∀ z ∈ ([⟨0, 14, 17, 13⟩] : List ExceptionTableEntry), covers z 9 = false ∨ (z.catchType ≠ 0 ∧ ∃ nm : String, (Cond.classLink RL z.catchType nm).before ([.ref (ad 0), .int a0, .int a1, .int a2, .int a3, .ref (ad 115)] : List Value).toArray s = true ∧ va_Nc "java/lang/IllegalArgumentException" nm s) := by
    intro z hz
    simp only [List.mem_cons, List.not_mem_nil, or_false] at hz
    rcases hz with rfl
    · exact Or.inr ⟨by decide, "java/lang/IndexOutOfBoundsException", hT _ (fx_w 169 (by decide +kernel) rfl), hE.2.2.2.1⟩
  refine w_x (rest := [.int 0, .ref (ad 115)]) K hP hS hC ok_L_17 rfl ⟨by show fr + 1 ≤ 12; omega, by show 8 + (7 + 11) + lo ≤ 476; omega⟩ rfl hl.1 (Nat.le_of_ble_eq_true rfl) ⟨by show 0 + mc ≤ 2; omega, by show 0 + ms ≤ 20; omega⟩ dL_buy_9 [⟨0, 14, 17, 13⟩] ⟨0, 14, 21, 15⟩ [⟨0, 14, 25, 21⟩] htab hpass (by decide) (by decide) (hT _ (fx_w 170 (by decide +kernel) rfl)) (List.mem_of_getElem? (i := 1) rfl) (fun q9 H locs hP hS => ?_)
  refine lv_astore (lv' := [(6, .ref q9), (0, .ref (ad 0)), (1, .int a0), (2, .int a1), (3, .int a2), (4, .int a3), (5, .ref (ad 115))]) hx hb dL_buy_21 hl (by decide) rfl (fun ls hl => ?_)
  refine lv_iconst (v := 2) hx hb dL_buy_23 (by decide) ?_
  exact fj_reti (N := 116) (ad := ad) (u := (g, o)) hx hb hr hlocks rfl hP hS (by show 0 + mc ≤ 2; omega) (by show 0 + ms ≤ 20; omega) dL_buy_24 ⟨rfl, rfl⟩

set_option maxHeartbeats 4000000 in
set_option maxRecDepth 100000 in
theorem w_L_buy_ISE (l : Launch) (Z : fx_Z) (ad : Nat → Nat) (hinj : fx_inj 116 ad) (g : St) (o : Int64) (a0 : Int32) (a1 : Int32) (a2 : Int32) (a3 : Int32) {fr lo mc ms : Nat} (hC : fx_C l Z yX3_buy cX3_buy 7 (some .int) fr lo mc ms 115 ad (cF ad Z.2.1) g [.ref (ad 0), .int a0, .int a1, .int a2, .int a3] (fun _ _ => False) (fun E9 => E9 = "java/lang/IllegalStateException")) (hR : fr ≤ 11 ∧ lo ≤ 440 ∧ mc ≤ 2 ∧ ms ≤ 20) : fw_C l Z yL_buy cL_buy 7 [(0, 14, 17, 13), (0, 14, 21, 15), (0, 14, 25, 21)] ad (g, o) [.ref (ad 0), .int a0, .int a1, .int a2, .int a3, .ref (ad 115)] 3 (g, o) := by
  intro sz
  refine va_MetW (cc := cL_buy) (maxL := 7) (ret := some .int) (hh := [(0, 14, 17, 13), (0, 14, 21, 15), (0, 14, 25, 21)]) (by decide) rfl ?_
  intro p e s m args below meth c s₁ B hml hv
  obtain ⟨rfl, hsz, hP, hE, hSt⟩ := hv
  subst hsz
  have hx := B.exec
  have hb := B.bytes
  have hr := B.returns
  have hown : s.vm.findClass RL = some m.cls := findClass_of_methodNamed B.named
  have hlocks := B.notSynchronized
  have hT : ∀ w ∈ fx_ws, w.before ([.ref (ad 0), .int a0, .int a1, .int a2, .int a3, .ref (ad 115)] : List Value).toArray s = true := fun w hw => atoms_spec (ws := fw_l yL_buy cL_buy 7 [(0, 14, 17, 13), (0, 14, 21, 15), (0, 14, 25, 21)]) B.pre w (List.mem_cons_of_mem _ hw)
  have htab : c.exceptionTable.toList = tableOf [(0, 14, 17, 13), (0, 14, 21, 15), (0, 14, 25, 21)] := vx_table (x := yL_rate) B (atoms_spec (ws := fw_l yL_buy cL_buy 7 [(0, 14, 17, 13), (0, 14, 21, 15), (0, 14, 25, 21)]) B.pre _ List.mem_cons_self)
  have K : w_K p l s m ([.ref (ad 0), .int a0, .int a1, .int a2, .int a3, .ref (ad 115)] : List Value).toArray c cL_buy 7 Z ad := ⟨hx, hb, hml, hown, hT, hE, hSt, hinj⟩
  have hS : va_S (fx_A 116 ad s.heap.size) s.heap s.heap [] := va_S.rf
  have hl := lv_entry ([.ref (ad 0), .int a0, .int a1, .int a2, .int a3, .ref (ad 115)]) (n := 7) (Nat.le_of_ble_eq_true rfl)
  rw [lg_entry_eq]
  generalize (lg_sl ([.ref (ad 0), .int a0, .int a1, .int a2, .int a3, .ref (ad 115)]) ++ List.replicate (7 - (lg_sl ([.ref (ad 0), .int a0, .int a1, .int a2, .int a3, .ref (ad 115)])).length) Slot.unset).toArray = ls at hl ⊢
  have hl : lv_has ls 7 [(0, .ref (ad 0)), (1, .int a0), (2, .int a1), (3, .int a2), (4, .int a3), (5, .ref (ad 115))] := hl
  refine lv_aload hx hb dL_buy_0 (lv_at hl 5 rfl) ?_
  refine lv_iconst (v := 0) hx hb dL_buy_2 (by decide) ?_
  refine lv_aload_n hx hb dL_buy_3 rfl (lv_at hl 0 rfl) ?_
  refine lv_iload_n hx hb dL_buy_4 rfl (lv_at hl 1 rfl) ?_
  refine lv_iload_n hx hb dL_buy_5 rfl (lv_at hl 2 rfl) ?_
  refine lv_iload_n hx hb dL_buy_6 rfl (lv_at hl 3 rfl) ?_
  refine lv_iload hx hb dL_buy_7 (lv_at hl 4 rfl) ?_
  have hpass : ∀ z ∈ ([⟨0, 14, 17, 13⟩, ⟨0, 14, 21, 15⟩] : List ExceptionTableEntry), covers z 9 = false ∨ (z.catchType ≠ 0 ∧ ∃ nm : String, (Cond.classLink RL z.catchType nm).before ([.ref (ad 0), .int a0, .int a1, .int a2, .int a3, .ref (ad 115)] : List Value).toArray s = true ∧ va_Nc "java/lang/IllegalStateException" nm s) := by
    intro z hz
    simp only [List.mem_cons, List.not_mem_nil, or_false] at hz
    rcases hz with rfl | rfl
    · exact Or.inr ⟨by decide, "java/lang/IndexOutOfBoundsException", hT _ (fx_w 169 (by decide +kernel) rfl), hE.2.2.2.2.1⟩
    · exact Or.inr ⟨by decide, "java/lang/IllegalArgumentException", hT _ (fx_w 170 (by decide +kernel) rfl), hE.2.2.2.2.2⟩
  refine w_x (rest := [.int 0, .ref (ad 115)]) K hP hS hC ok_L_17 rfl ⟨by show fr + 1 ≤ 12; omega, by show 8 + (7 + 11) + lo ≤ 476; omega⟩ rfl hl.1 (Nat.le_of_ble_eq_true rfl) ⟨by show 0 + mc ≤ 2; omega, by show 0 + ms ≤ 20; omega⟩ dL_buy_9 [⟨0, 14, 17, 13⟩, ⟨0, 14, 21, 15⟩] ⟨0, 14, 25, 21⟩ [] htab hpass (by decide) (by decide) (hT _ (fx_w 266 (by decide +kernel) rfl)) (List.mem_of_getElem? (i := 2) rfl) (fun q9 H locs hP hS => ?_)
  refine lv_astore (lv' := [(6, .ref q9), (0, .ref (ad 0)), (1, .int a0), (2, .int a1), (3, .int a2), (4, .int a3), (5, .ref (ad 115))]) hx hb dL_buy_25 hl (by decide) rfl (fun ls hl => ?_)
  refine lv_iconst (v := 3) hx hb dL_buy_27 (by decide) ?_
  exact fj_reti (N := 116) (ad := ad) (u := (g, o)) hx hb hr hlocks rfl hP hS (by show 0 + mc ≤ 2; omega) (by show 0 + ms ≤ 20; omega) dL_buy_28 ⟨rfl, rfl⟩

set_option maxHeartbeats 4000000 in
set_option maxRecDepth 100000 in
theorem w_L_giveBack_ok (l : Launch) (Z : fx_Z) (ad : Nat → Nat) (hinj : fx_inj 116 ad) (g G : St) (o : Int64) (a0 : Int32) (r : Int32) {fr lo mc ms : Nat} (hC : fx_C l Z yX3_giveBack cX3_giveBack 3 (some .int) fr lo mc ms 115 ad (cF ad Z.2.1) g [.ref (ad 0), .int a0] (pI r G) (fun _ => False)) (hR : fr ≤ 11 ∧ lo ≤ 440 ∧ mc ≤ 2 ∧ ms ≤ 20) : fw_C l Z yL_giveBack cL_giveBack 4 [(0, 9, 12, 13), (0, 9, 15, 21)] ad (g, o) [.ref (ad 0), .int a0, .ref (ad 115)] 0 (G, r.toInt64) := by
  intro sz
  refine va_MetW (cc := cL_giveBack) (maxL := 4) (ret := some .int) (hh := [(0, 9, 12, 13), (0, 9, 15, 21)]) (by decide) rfl ?_
  intro p e s m args below meth c s₁ B hml hv
  obtain ⟨rfl, hsz, hP, hE, hSt⟩ := hv
  subst hsz
  have hx := B.exec
  have hb := B.bytes
  have hr := B.returns
  have hown : s.vm.findClass RL = some m.cls := findClass_of_methodNamed B.named
  have hlocks := B.notSynchronized
  have hT : ∀ w ∈ fx_ws, w.before ([.ref (ad 0), .int a0, .ref (ad 115)] : List Value).toArray s = true := fun w hw => atoms_spec (ws := fw_l yL_giveBack cL_giveBack 4 [(0, 9, 12, 13), (0, 9, 15, 21)]) B.pre w (List.mem_cons_of_mem _ hw)
  have htab : c.exceptionTable.toList = tableOf [(0, 9, 12, 13), (0, 9, 15, 21)] := vx_table (x := yL_rate) B (atoms_spec (ws := fw_l yL_giveBack cL_giveBack 4 [(0, 9, 12, 13), (0, 9, 15, 21)]) B.pre _ List.mem_cons_self)
  have K : w_K p l s m ([.ref (ad 0), .int a0, .ref (ad 115)] : List Value).toArray c cL_giveBack 4 Z ad := ⟨hx, hb, hml, hown, hT, hE, hSt, hinj⟩
  have hS : va_S (fx_A 116 ad s.heap.size) s.heap s.heap [] := va_S.rf
  have hl := lv_entry ([.ref (ad 0), .int a0, .ref (ad 115)]) (n := 4) (Nat.le_of_ble_eq_true rfl)
  rw [lg_entry_eq]
  generalize (lg_sl ([.ref (ad 0), .int a0, .ref (ad 115)]) ++ List.replicate (4 - (lg_sl ([.ref (ad 0), .int a0, .ref (ad 115)])).length) Slot.unset).toArray = ls at hl ⊢
  have hl : lv_has ls 4 [(0, .ref (ad 0)), (1, .int a0), (2, .ref (ad 115))] := hl
  refine lv_aload_n hx hb dL_giveBack_0 rfl (lv_at hl 2 rfl) ?_
  refine lv_iconst (v := 0) hx hb dL_giveBack_1 (by decide) ?_
  refine lv_aload_n hx hb dL_giveBack_2 rfl (lv_at hl 0 rfl) ?_
  refine lv_iload_n hx hb dL_giveBack_3 rfl (lv_at hl 1 rfl) ?_
  refine w_ok (rest := [.int 0, .ref (ad 115)]) K hP hS hC ok_L_23 rfl ⟨by show fr + 1 ≤ 12; omega, by show 8 + (3 + 11) + lo ≤ 476; omega⟩ rfl hl.1 (Nat.le_of_ble_eq_true rfl) ⟨by show 0 + mc ≤ 2; omega, by show 0 + ms ≤ 20; omega⟩ dL_giveBack_4 (fun H locs hP hS => ?_)
  refine lv_i2l hx hb dL_giveBack_7 rfl ?_
  refine w_out (rest := []) K hP hS dL_giveBack_8 (fun H locs hP hS => ?_)
  refine lv_goto (tgt := 18) hx hb dL_giveBack_9 (by decide) ?_
  refine lv_iconst (v := 0) hx hb dL_giveBack_18 (by decide) ?_
  exact fj_reti (N := 116) (ad := ad) (u := (G, r.toInt64)) hx hb hr hlocks rfl hP hS (by show 0 + mc ≤ 2; omega) (by show 0 + ms ≤ 20; omega) dL_giveBack_19 ⟨rfl, rfl⟩

set_option maxHeartbeats 4000000 in
set_option maxRecDepth 100000 in
theorem w_L_giveBack_IOOBE (l : Launch) (Z : fx_Z) (ad : Nat → Nat) (hinj : fx_inj 116 ad) (g : St) (o : Int64) (a0 : Int32) {fr lo mc ms : Nat} (hC : fx_C l Z yX3_giveBack cX3_giveBack 3 (some .int) fr lo mc ms 115 ad (cF ad Z.2.1) g [.ref (ad 0), .int a0] (fun _ _ => False) (fun E9 => E9 = "java/lang/IndexOutOfBoundsException")) (hR : fr ≤ 11 ∧ lo ≤ 440 ∧ mc ≤ 2 ∧ ms ≤ 20) : fw_C l Z yL_giveBack cL_giveBack 4 [(0, 9, 12, 13), (0, 9, 15, 21)] ad (g, o) [.ref (ad 0), .int a0, .ref (ad 115)] 1 (g, o) := by
  intro sz
  refine va_MetW (cc := cL_giveBack) (maxL := 4) (ret := some .int) (hh := [(0, 9, 12, 13), (0, 9, 15, 21)]) (by decide) rfl ?_
  intro p e s m args below meth c s₁ B hml hv
  obtain ⟨rfl, hsz, hP, hE, hSt⟩ := hv
  subst hsz
  have hx := B.exec
  have hb := B.bytes
  have hr := B.returns
  have hown : s.vm.findClass RL = some m.cls := findClass_of_methodNamed B.named
  have hlocks := B.notSynchronized
  have hT : ∀ w ∈ fx_ws, w.before ([.ref (ad 0), .int a0, .ref (ad 115)] : List Value).toArray s = true := fun w hw => atoms_spec (ws := fw_l yL_giveBack cL_giveBack 4 [(0, 9, 12, 13), (0, 9, 15, 21)]) B.pre w (List.mem_cons_of_mem _ hw)
  have htab : c.exceptionTable.toList = tableOf [(0, 9, 12, 13), (0, 9, 15, 21)] := vx_table (x := yL_rate) B (atoms_spec (ws := fw_l yL_giveBack cL_giveBack 4 [(0, 9, 12, 13), (0, 9, 15, 21)]) B.pre _ List.mem_cons_self)
  have K : w_K p l s m ([.ref (ad 0), .int a0, .ref (ad 115)] : List Value).toArray c cL_giveBack 4 Z ad := ⟨hx, hb, hml, hown, hT, hE, hSt, hinj⟩
  have hS : va_S (fx_A 116 ad s.heap.size) s.heap s.heap [] := va_S.rf
  have hl := lv_entry ([.ref (ad 0), .int a0, .ref (ad 115)]) (n := 4) (Nat.le_of_ble_eq_true rfl)
  rw [lg_entry_eq]
  generalize (lg_sl ([.ref (ad 0), .int a0, .ref (ad 115)]) ++ List.replicate (4 - (lg_sl ([.ref (ad 0), .int a0, .ref (ad 115)])).length) Slot.unset).toArray = ls at hl ⊢
  have hl : lv_has ls 4 [(0, .ref (ad 0)), (1, .int a0), (2, .ref (ad 115))] := hl
  refine lv_aload_n hx hb dL_giveBack_0 rfl (lv_at hl 2 rfl) ?_
  refine lv_iconst (v := 0) hx hb dL_giveBack_1 (by decide) ?_
  refine lv_aload_n hx hb dL_giveBack_2 rfl (lv_at hl 0 rfl) ?_
  refine lv_iload_n hx hb dL_giveBack_3 rfl (lv_at hl 1 rfl) ?_
  refine w_x (rest := [.int 0, .ref (ad 115)]) K hP hS hC ok_L_23 rfl ⟨by show fr + 1 ≤ 12; omega, by show 8 + (3 + 11) + lo ≤ 476; omega⟩ rfl hl.1 (Nat.le_of_ble_eq_true rfl) ⟨by show 0 + mc ≤ 2; omega, by show 0 + ms ≤ 20; omega⟩ dL_giveBack_4 [] ⟨0, 9, 12, 13⟩ [⟨0, 9, 15, 21⟩] htab (fun z hz => absurd hz (List.not_mem_nil)) (by decide) (by decide) (hT _ (fx_w 169 (by decide +kernel) rfl)) (List.mem_of_getElem? (i := 0) rfl) (fun q9 H locs hP hS => ?_)
  refine lv_astore_n (lv' := [(3, .ref q9), (0, .ref (ad 0)), (1, .int a0), (2, .ref (ad 115))]) hx hb dL_giveBack_12 rfl hl (by decide) rfl (fun ls hl => ?_)
  refine lv_iconst (v := 1) hx hb dL_giveBack_13 (by decide) ?_
  exact fj_reti (N := 116) (ad := ad) (u := (g, o)) hx hb hr hlocks rfl hP hS (by show 0 + mc ≤ 2; omega) (by show 0 + ms ≤ 20; omega) dL_giveBack_14 ⟨rfl, rfl⟩

set_option maxHeartbeats 4000000 in
set_option maxRecDepth 100000 in
theorem w_L_giveBack_ISE (l : Launch) (Z : fx_Z) (ad : Nat → Nat) (hinj : fx_inj 116 ad) (g : St) (o : Int64) (a0 : Int32) {fr lo mc ms : Nat} (hC : fx_C l Z yX3_giveBack cX3_giveBack 3 (some .int) fr lo mc ms 115 ad (cF ad Z.2.1) g [.ref (ad 0), .int a0] (fun _ _ => False) (fun E9 => E9 = "java/lang/IllegalStateException")) (hR : fr ≤ 11 ∧ lo ≤ 440 ∧ mc ≤ 2 ∧ ms ≤ 20) : fw_C l Z yL_giveBack cL_giveBack 4 [(0, 9, 12, 13), (0, 9, 15, 21)] ad (g, o) [.ref (ad 0), .int a0, .ref (ad 115)] 2 (g, o) := by
  intro sz
  refine va_MetW (cc := cL_giveBack) (maxL := 4) (ret := some .int) (hh := [(0, 9, 12, 13), (0, 9, 15, 21)]) (by decide) rfl ?_
  intro p e s m args below meth c s₁ B hml hv
  obtain ⟨rfl, hsz, hP, hE, hSt⟩ := hv
  subst hsz
  have hx := B.exec
  have hb := B.bytes
  have hr := B.returns
  have hown : s.vm.findClass RL = some m.cls := findClass_of_methodNamed B.named
  have hlocks := B.notSynchronized
  have hT : ∀ w ∈ fx_ws, w.before ([.ref (ad 0), .int a0, .ref (ad 115)] : List Value).toArray s = true := fun w hw => atoms_spec (ws := fw_l yL_giveBack cL_giveBack 4 [(0, 9, 12, 13), (0, 9, 15, 21)]) B.pre w (List.mem_cons_of_mem _ hw)
  have htab : c.exceptionTable.toList = tableOf [(0, 9, 12, 13), (0, 9, 15, 21)] := vx_table (x := yL_rate) B (atoms_spec (ws := fw_l yL_giveBack cL_giveBack 4 [(0, 9, 12, 13), (0, 9, 15, 21)]) B.pre _ List.mem_cons_self)
  have K : w_K p l s m ([.ref (ad 0), .int a0, .ref (ad 115)] : List Value).toArray c cL_giveBack 4 Z ad := ⟨hx, hb, hml, hown, hT, hE, hSt, hinj⟩
  have hS : va_S (fx_A 116 ad s.heap.size) s.heap s.heap [] := va_S.rf
  have hl := lv_entry ([.ref (ad 0), .int a0, .ref (ad 115)]) (n := 4) (Nat.le_of_ble_eq_true rfl)
  rw [lg_entry_eq]
  generalize (lg_sl ([.ref (ad 0), .int a0, .ref (ad 115)]) ++ List.replicate (4 - (lg_sl ([.ref (ad 0), .int a0, .ref (ad 115)])).length) Slot.unset).toArray = ls at hl ⊢
  have hl : lv_has ls 4 [(0, .ref (ad 0)), (1, .int a0), (2, .ref (ad 115))] := hl
  refine lv_aload_n hx hb dL_giveBack_0 rfl (lv_at hl 2 rfl) ?_
  refine lv_iconst (v := 0) hx hb dL_giveBack_1 (by decide) ?_
  refine lv_aload_n hx hb dL_giveBack_2 rfl (lv_at hl 0 rfl) ?_
  refine lv_iload_n hx hb dL_giveBack_3 rfl (lv_at hl 1 rfl) ?_
  have hpass : ∀ z ∈ ([⟨0, 9, 12, 13⟩] : List ExceptionTableEntry), covers z 4 = false ∨ (z.catchType ≠ 0 ∧ ∃ nm : String, (Cond.classLink RL z.catchType nm).before ([.ref (ad 0), .int a0, .ref (ad 115)] : List Value).toArray s = true ∧ va_Nc "java/lang/IllegalStateException" nm s) := by
    intro z hz
    simp only [List.mem_cons, List.not_mem_nil, or_false] at hz
    rcases hz with rfl
    · exact Or.inr ⟨by decide, "java/lang/IndexOutOfBoundsException", hT _ (fx_w 169 (by decide +kernel) rfl), hE.2.2.2.2.1⟩
  refine w_x (rest := [.int 0, .ref (ad 115)]) K hP hS hC ok_L_23 rfl ⟨by show fr + 1 ≤ 12; omega, by show 8 + (3 + 11) + lo ≤ 476; omega⟩ rfl hl.1 (Nat.le_of_ble_eq_true rfl) ⟨by show 0 + mc ≤ 2; omega, by show 0 + ms ≤ 20; omega⟩ dL_giveBack_4 [⟨0, 9, 12, 13⟩] ⟨0, 9, 15, 21⟩ [] htab hpass (by decide) (by decide) (hT _ (fx_w 266 (by decide +kernel) rfl)) (List.mem_of_getElem? (i := 2) rfl) (fun q9 H locs hP hS => ?_)
  refine lv_astore_n (lv' := [(3, .ref q9), (0, .ref (ad 0)), (1, .int a0), (2, .ref (ad 115))]) hx hb dL_giveBack_15 rfl hl (by decide) rfl (fun ls hl => ?_)
  refine lv_iconst (v := 2) hx hb dL_giveBack_16 (by decide) ?_
  exact fj_reti (N := 116) (ad := ad) (u := (g, o)) hx hb hr hlocks rfl hP hS (by show 0 + mc ≤ 2; omega) (by show 0 + ms ≤ 20; omega) dL_giveBack_17 ⟨rfl, rfl⟩

set_option maxHeartbeats 4000000 in
set_option maxRecDepth 100000 in
theorem w_L_ferry_ok (l : Launch) (Z : fx_Z) (ad : Nat → Nat) (hinj : fx_inj 116 ad) (g G : St) (o : Int64) (a0 : Int32) (a1 : Int32) (r : Int32) {fr lo mc ms : Nat} (hC : fx_C l Z yX3_ferry cX3_ferry 4 (some .int) fr lo mc ms 115 ad (cF ad Z.2.1) g [.ref (ad 0), .int a0, .int a1] (pI r G) (fun _ => False)) (hR : fr ≤ 11 ∧ lo ≤ 440 ∧ mc ≤ 2 ∧ ms ≤ 20) : fw_C l Z yL_ferry cL_ferry 5 [(0, 10, 13, 15), (0, 10, 17, 21)] ad (g, o) [.ref (ad 0), .int a0, .int a1, .ref (ad 115)] 0 (G, r.toInt64) := by
  intro sz
  refine va_MetW (cc := cL_ferry) (maxL := 5) (ret := some .int) (hh := [(0, 10, 13, 15), (0, 10, 17, 21)]) (by decide) rfl ?_
  intro p e s m args below meth c s₁ B hml hv
  obtain ⟨rfl, hsz, hP, hE, hSt⟩ := hv
  subst hsz
  have hx := B.exec
  have hb := B.bytes
  have hr := B.returns
  have hown : s.vm.findClass RL = some m.cls := findClass_of_methodNamed B.named
  have hlocks := B.notSynchronized
  have hT : ∀ w ∈ fx_ws, w.before ([.ref (ad 0), .int a0, .int a1, .ref (ad 115)] : List Value).toArray s = true := fun w hw => atoms_spec (ws := fw_l yL_ferry cL_ferry 5 [(0, 10, 13, 15), (0, 10, 17, 21)]) B.pre w (List.mem_cons_of_mem _ hw)
  have htab : c.exceptionTable.toList = tableOf [(0, 10, 13, 15), (0, 10, 17, 21)] := vx_table (x := yL_rate) B (atoms_spec (ws := fw_l yL_ferry cL_ferry 5 [(0, 10, 13, 15), (0, 10, 17, 21)]) B.pre _ List.mem_cons_self)
  have K : w_K p l s m ([.ref (ad 0), .int a0, .int a1, .ref (ad 115)] : List Value).toArray c cL_ferry 5 Z ad := ⟨hx, hb, hml, hown, hT, hE, hSt, hinj⟩
  have hS : va_S (fx_A 116 ad s.heap.size) s.heap s.heap [] := va_S.rf
  have hl := lv_entry ([.ref (ad 0), .int a0, .int a1, .ref (ad 115)]) (n := 5) (Nat.le_of_ble_eq_true rfl)
  rw [lg_entry_eq]
  generalize (lg_sl ([.ref (ad 0), .int a0, .int a1, .ref (ad 115)]) ++ List.replicate (5 - (lg_sl ([.ref (ad 0), .int a0, .int a1, .ref (ad 115)])).length) Slot.unset).toArray = ls at hl ⊢
  have hl : lv_has ls 5 [(0, .ref (ad 0)), (1, .int a0), (2, .int a1), (3, .ref (ad 115))] := hl
  refine lv_aload_n hx hb dL_ferry_0 rfl (lv_at hl 3 rfl) ?_
  refine lv_iconst (v := 0) hx hb dL_ferry_1 (by decide) ?_
  refine lv_aload_n hx hb dL_ferry_2 rfl (lv_at hl 0 rfl) ?_
  refine lv_iload_n hx hb dL_ferry_3 rfl (lv_at hl 1 rfl) ?_
  refine lv_iload_n hx hb dL_ferry_4 rfl (lv_at hl 2 rfl) ?_
  refine w_ok (rest := [.int 0, .ref (ad 115)]) K hP hS hC ok_L_27 rfl ⟨by show fr + 1 ≤ 12; omega, by show 8 + (4 + 11) + lo ≤ 476; omega⟩ rfl hl.1 (Nat.le_of_ble_eq_true rfl) ⟨by show 0 + mc ≤ 2; omega, by show 0 + ms ≤ 20; omega⟩ dL_ferry_5 (fun H locs hP hS => ?_)
  refine lv_i2l hx hb dL_ferry_8 rfl ?_
  refine w_out (rest := []) K hP hS dL_ferry_9 (fun H locs hP hS => ?_)
  refine lv_goto (tgt := 21) hx hb dL_ferry_10 (by decide) ?_
  refine lv_iconst (v := 0) hx hb dL_ferry_21 (by decide) ?_
  exact fj_reti (N := 116) (ad := ad) (u := (G, r.toInt64)) hx hb hr hlocks rfl hP hS (by show 0 + mc ≤ 2; omega) (by show 0 + ms ≤ 20; omega) dL_ferry_22 ⟨rfl, rfl⟩

set_option maxHeartbeats 4000000 in
set_option maxRecDepth 100000 in
theorem w_L_ferry_IAE (l : Launch) (Z : fx_Z) (ad : Nat → Nat) (hinj : fx_inj 116 ad) (g : St) (o : Int64) (a0 : Int32) (a1 : Int32) {fr lo mc ms : Nat} (hC : fx_C l Z yX3_ferry cX3_ferry 4 (some .int) fr lo mc ms 115 ad (cF ad Z.2.1) g [.ref (ad 0), .int a0, .int a1] (fun _ _ => False) (fun E9 => E9 = "java/lang/IllegalArgumentException")) (hR : fr ≤ 11 ∧ lo ≤ 440 ∧ mc ≤ 2 ∧ ms ≤ 20) : fw_C l Z yL_ferry cL_ferry 5 [(0, 10, 13, 15), (0, 10, 17, 21)] ad (g, o) [.ref (ad 0), .int a0, .int a1, .ref (ad 115)] 1 (g, o) := by
  intro sz
  refine va_MetW (cc := cL_ferry) (maxL := 5) (ret := some .int) (hh := [(0, 10, 13, 15), (0, 10, 17, 21)]) (by decide) rfl ?_
  intro p e s m args below meth c s₁ B hml hv
  obtain ⟨rfl, hsz, hP, hE, hSt⟩ := hv
  subst hsz
  have hx := B.exec
  have hb := B.bytes
  have hr := B.returns
  have hown : s.vm.findClass RL = some m.cls := findClass_of_methodNamed B.named
  have hlocks := B.notSynchronized
  have hT : ∀ w ∈ fx_ws, w.before ([.ref (ad 0), .int a0, .int a1, .ref (ad 115)] : List Value).toArray s = true := fun w hw => atoms_spec (ws := fw_l yL_ferry cL_ferry 5 [(0, 10, 13, 15), (0, 10, 17, 21)]) B.pre w (List.mem_cons_of_mem _ hw)
  have htab : c.exceptionTable.toList = tableOf [(0, 10, 13, 15), (0, 10, 17, 21)] := vx_table (x := yL_rate) B (atoms_spec (ws := fw_l yL_ferry cL_ferry 5 [(0, 10, 13, 15), (0, 10, 17, 21)]) B.pre _ List.mem_cons_self)
  have K : w_K p l s m ([.ref (ad 0), .int a0, .int a1, .ref (ad 115)] : List Value).toArray c cL_ferry 5 Z ad := ⟨hx, hb, hml, hown, hT, hE, hSt, hinj⟩
  have hS : va_S (fx_A 116 ad s.heap.size) s.heap s.heap [] := va_S.rf
  have hl := lv_entry ([.ref (ad 0), .int a0, .int a1, .ref (ad 115)]) (n := 5) (Nat.le_of_ble_eq_true rfl)
  rw [lg_entry_eq]
  generalize (lg_sl ([.ref (ad 0), .int a0, .int a1, .ref (ad 115)]) ++ List.replicate (5 - (lg_sl ([.ref (ad 0), .int a0, .int a1, .ref (ad 115)])).length) Slot.unset).toArray = ls at hl ⊢
  have hl : lv_has ls 5 [(0, .ref (ad 0)), (1, .int a0), (2, .int a1), (3, .ref (ad 115))] := hl
  refine lv_aload_n hx hb dL_ferry_0 rfl (lv_at hl 3 rfl) ?_
  refine lv_iconst (v := 0) hx hb dL_ferry_1 (by decide) ?_
  refine lv_aload_n hx hb dL_ferry_2 rfl (lv_at hl 0 rfl) ?_
  refine lv_iload_n hx hb dL_ferry_3 rfl (lv_at hl 1 rfl) ?_
  refine lv_iload_n hx hb dL_ferry_4 rfl (lv_at hl 2 rfl) ?_
  refine w_x (rest := [.int 0, .ref (ad 115)]) K hP hS hC ok_L_27 rfl ⟨by show fr + 1 ≤ 12; omega, by show 8 + (4 + 11) + lo ≤ 476; omega⟩ rfl hl.1 (Nat.le_of_ble_eq_true rfl) ⟨by show 0 + mc ≤ 2; omega, by show 0 + ms ≤ 20; omega⟩ dL_ferry_5 [] ⟨0, 10, 13, 15⟩ [⟨0, 10, 17, 21⟩] htab (fun z hz => absurd hz (List.not_mem_nil)) (by decide) (by decide) (hT _ (fx_w 170 (by decide +kernel) rfl)) (List.mem_of_getElem? (i := 1) rfl) (fun q9 H locs hP hS => ?_)
  refine lv_astore (lv' := [(4, .ref q9), (0, .ref (ad 0)), (1, .int a0), (2, .int a1), (3, .ref (ad 115))]) hx hb dL_ferry_13 hl (by decide) rfl (fun ls hl => ?_)
  refine lv_iconst (v := 1) hx hb dL_ferry_15 (by decide) ?_
  exact fj_reti (N := 116) (ad := ad) (u := (g, o)) hx hb hr hlocks rfl hP hS (by show 0 + mc ≤ 2; omega) (by show 0 + ms ≤ 20; omega) dL_ferry_16 ⟨rfl, rfl⟩

set_option maxHeartbeats 4000000 in
set_option maxRecDepth 100000 in
theorem w_L_ferry_ISE (l : Launch) (Z : fx_Z) (ad : Nat → Nat) (hinj : fx_inj 116 ad) (g : St) (o : Int64) (a0 : Int32) (a1 : Int32) {fr lo mc ms : Nat} (hC : fx_C l Z yX3_ferry cX3_ferry 4 (some .int) fr lo mc ms 115 ad (cF ad Z.2.1) g [.ref (ad 0), .int a0, .int a1] (fun _ _ => False) (fun E9 => E9 = "java/lang/IllegalStateException")) (hR : fr ≤ 11 ∧ lo ≤ 440 ∧ mc ≤ 2 ∧ ms ≤ 20) : fw_C l Z yL_ferry cL_ferry 5 [(0, 10, 13, 15), (0, 10, 17, 21)] ad (g, o) [.ref (ad 0), .int a0, .int a1, .ref (ad 115)] 2 (g, o) := by
  intro sz
  refine va_MetW (cc := cL_ferry) (maxL := 5) (ret := some .int) (hh := [(0, 10, 13, 15), (0, 10, 17, 21)]) (by decide) rfl ?_
  intro p e s m args below meth c s₁ B hml hv
  obtain ⟨rfl, hsz, hP, hE, hSt⟩ := hv
  subst hsz
  have hx := B.exec
  have hb := B.bytes
  have hr := B.returns
  have hown : s.vm.findClass RL = some m.cls := findClass_of_methodNamed B.named
  have hlocks := B.notSynchronized
  have hT : ∀ w ∈ fx_ws, w.before ([.ref (ad 0), .int a0, .int a1, .ref (ad 115)] : List Value).toArray s = true := fun w hw => atoms_spec (ws := fw_l yL_ferry cL_ferry 5 [(0, 10, 13, 15), (0, 10, 17, 21)]) B.pre w (List.mem_cons_of_mem _ hw)
  have htab : c.exceptionTable.toList = tableOf [(0, 10, 13, 15), (0, 10, 17, 21)] := vx_table (x := yL_rate) B (atoms_spec (ws := fw_l yL_ferry cL_ferry 5 [(0, 10, 13, 15), (0, 10, 17, 21)]) B.pre _ List.mem_cons_self)
  have K : w_K p l s m ([.ref (ad 0), .int a0, .int a1, .ref (ad 115)] : List Value).toArray c cL_ferry 5 Z ad := ⟨hx, hb, hml, hown, hT, hE, hSt, hinj⟩
  have hS : va_S (fx_A 116 ad s.heap.size) s.heap s.heap [] := va_S.rf
  have hl := lv_entry ([.ref (ad 0), .int a0, .int a1, .ref (ad 115)]) (n := 5) (Nat.le_of_ble_eq_true rfl)
  rw [lg_entry_eq]
  generalize (lg_sl ([.ref (ad 0), .int a0, .int a1, .ref (ad 115)]) ++ List.replicate (5 - (lg_sl ([.ref (ad 0), .int a0, .int a1, .ref (ad 115)])).length) Slot.unset).toArray = ls at hl ⊢
  have hl : lv_has ls 5 [(0, .ref (ad 0)), (1, .int a0), (2, .int a1), (3, .ref (ad 115))] := hl
  refine lv_aload_n hx hb dL_ferry_0 rfl (lv_at hl 3 rfl) ?_
  refine lv_iconst (v := 0) hx hb dL_ferry_1 (by decide) ?_
  refine lv_aload_n hx hb dL_ferry_2 rfl (lv_at hl 0 rfl) ?_
  refine lv_iload_n hx hb dL_ferry_3 rfl (lv_at hl 1 rfl) ?_
  refine lv_iload_n hx hb dL_ferry_4 rfl (lv_at hl 2 rfl) ?_
  have hpass : ∀ z ∈ ([⟨0, 10, 13, 15⟩] : List ExceptionTableEntry), covers z 5 = false ∨ (z.catchType ≠ 0 ∧ ∃ nm : String, (Cond.classLink RL z.catchType nm).before ([.ref (ad 0), .int a0, .int a1, .ref (ad 115)] : List Value).toArray s = true ∧ va_Nc "java/lang/IllegalStateException" nm s) := by
    intro z hz
    simp only [List.mem_cons, List.not_mem_nil, or_false] at hz
    rcases hz with rfl
    · exact Or.inr ⟨by decide, "java/lang/IllegalArgumentException", hT _ (fx_w 170 (by decide +kernel) rfl), hE.2.2.2.2.2⟩
  refine w_x (rest := [.int 0, .ref (ad 115)]) K hP hS hC ok_L_27 rfl ⟨by show fr + 1 ≤ 12; omega, by show 8 + (4 + 11) + lo ≤ 476; omega⟩ rfl hl.1 (Nat.le_of_ble_eq_true rfl) ⟨by show 0 + mc ≤ 2; omega, by show 0 + ms ≤ 20; omega⟩ dL_ferry_5 [⟨0, 10, 13, 15⟩] ⟨0, 10, 17, 21⟩ [] htab hpass (by decide) (by decide) (hT _ (fx_w 266 (by decide +kernel) rfl)) (List.mem_of_getElem? (i := 2) rfl) (fun q9 H locs hP hS => ?_)
  refine lv_astore (lv' := [(4, .ref q9), (0, .ref (ad 0)), (1, .int a0), (2, .int a1), (3, .ref (ad 115))]) hx hb dL_ferry_17 hl (by decide) rfl (fun ls hl => ?_)
  refine lv_iconst (v := 2) hx hb dL_ferry_19 (by decide) ?_
  exact fj_reti (N := 116) (ad := ad) (u := (g, o)) hx hb hr hlocks rfl hP hS (by show 0 + mc ≤ 2; omega) (by show 0 + ms ≤ 20; omega) dL_ferry_20 ⟨rfl, rfl⟩

set_option maxHeartbeats 4000000 in
set_option maxRecDepth 100000 in
theorem w_L_seat_ok (l : Launch) (Z : fx_Z) (ad : Nat → Nat) (hinj : fx_inj 116 ad) (g G : St) (o : Int64) (a0 : Int32) (a1 : Int32) (r : Int32) {fr lo mc ms : Nat} (hC : fx_C l Z yX3_seat cX3_seat 5 (some .int) fr lo mc ms 115 ad (cF ad Z.2.1) g [.ref (ad 0), .int a0, .int a1] (pI r G) (fun _ => False)) (hR : fr ≤ 11 ∧ lo ≤ 440 ∧ mc ≤ 2 ∧ ms ≤ 20) : fw_C l Z yL_seat cL_seat 5 [(0, 10, 13, 13), (0, 10, 17, 21)] ad (g, o) [.ref (ad 0), .int a0, .int a1, .ref (ad 115)] 0 (G, r.toInt64) := by
  intro sz
  refine va_MetW (cc := cL_seat) (maxL := 5) (ret := some .int) (hh := [(0, 10, 13, 13), (0, 10, 17, 21)]) (by decide) rfl ?_
  intro p e s m args below meth c s₁ B hml hv
  obtain ⟨rfl, hsz, hP, hE, hSt⟩ := hv
  subst hsz
  have hx := B.exec
  have hb := B.bytes
  have hr := B.returns
  have hown : s.vm.findClass RL = some m.cls := findClass_of_methodNamed B.named
  have hlocks := B.notSynchronized
  have hT : ∀ w ∈ fx_ws, w.before ([.ref (ad 0), .int a0, .int a1, .ref (ad 115)] : List Value).toArray s = true := fun w hw => atoms_spec (ws := fw_l yL_seat cL_seat 5 [(0, 10, 13, 13), (0, 10, 17, 21)]) B.pre w (List.mem_cons_of_mem _ hw)
  have htab : c.exceptionTable.toList = tableOf [(0, 10, 13, 13), (0, 10, 17, 21)] := vx_table (x := yL_rate) B (atoms_spec (ws := fw_l yL_seat cL_seat 5 [(0, 10, 13, 13), (0, 10, 17, 21)]) B.pre _ List.mem_cons_self)
  have K : w_K p l s m ([.ref (ad 0), .int a0, .int a1, .ref (ad 115)] : List Value).toArray c cL_seat 5 Z ad := ⟨hx, hb, hml, hown, hT, hE, hSt, hinj⟩
  have hS : va_S (fx_A 116 ad s.heap.size) s.heap s.heap [] := va_S.rf
  have hl := lv_entry ([.ref (ad 0), .int a0, .int a1, .ref (ad 115)]) (n := 5) (Nat.le_of_ble_eq_true rfl)
  rw [lg_entry_eq]
  generalize (lg_sl ([.ref (ad 0), .int a0, .int a1, .ref (ad 115)]) ++ List.replicate (5 - (lg_sl ([.ref (ad 0), .int a0, .int a1, .ref (ad 115)])).length) Slot.unset).toArray = ls at hl ⊢
  have hl : lv_has ls 5 [(0, .ref (ad 0)), (1, .int a0), (2, .int a1), (3, .ref (ad 115))] := hl
  refine lv_aload_n hx hb dL_seat_0 rfl (lv_at hl 3 rfl) ?_
  refine lv_iconst (v := 0) hx hb dL_seat_1 (by decide) ?_
  refine lv_aload_n hx hb dL_seat_2 rfl (lv_at hl 0 rfl) ?_
  refine lv_iload_n hx hb dL_seat_3 rfl (lv_at hl 1 rfl) ?_
  refine lv_iload_n hx hb dL_seat_4 rfl (lv_at hl 2 rfl) ?_
  refine w_ok (rest := [.int 0, .ref (ad 115)]) K hP hS hC ok_L_30 rfl ⟨by show fr + 1 ≤ 12; omega, by show 8 + (5 + 11) + lo ≤ 476; omega⟩ rfl hl.1 (Nat.le_of_ble_eq_true rfl) ⟨by show 0 + mc ≤ 2; omega, by show 0 + ms ≤ 20; omega⟩ dL_seat_5 (fun H locs hP hS => ?_)
  refine lv_i2l hx hb dL_seat_8 rfl ?_
  refine w_out (rest := []) K hP hS dL_seat_9 (fun H locs hP hS => ?_)
  refine lv_goto (tgt := 21) hx hb dL_seat_10 (by decide) ?_
  refine lv_iconst (v := 0) hx hb dL_seat_21 (by decide) ?_
  exact fj_reti (N := 116) (ad := ad) (u := (G, r.toInt64)) hx hb hr hlocks rfl hP hS (by show 0 + mc ≤ 2; omega) (by show 0 + ms ≤ 20; omega) dL_seat_22 ⟨rfl, rfl⟩

set_option maxHeartbeats 4000000 in
set_option maxRecDepth 100000 in
theorem w_L_seat_IOOBE (l : Launch) (Z : fx_Z) (ad : Nat → Nat) (hinj : fx_inj 116 ad) (g : St) (o : Int64) (a0 : Int32) (a1 : Int32) {fr lo mc ms : Nat} (hC : fx_C l Z yX3_seat cX3_seat 5 (some .int) fr lo mc ms 115 ad (cF ad Z.2.1) g [.ref (ad 0), .int a0, .int a1] (fun _ _ => False) (fun E9 => E9 = "java/lang/IndexOutOfBoundsException")) (hR : fr ≤ 11 ∧ lo ≤ 440 ∧ mc ≤ 2 ∧ ms ≤ 20) : fw_C l Z yL_seat cL_seat 5 [(0, 10, 13, 13), (0, 10, 17, 21)] ad (g, o) [.ref (ad 0), .int a0, .int a1, .ref (ad 115)] 1 (g, o) := by
  intro sz
  refine va_MetW (cc := cL_seat) (maxL := 5) (ret := some .int) (hh := [(0, 10, 13, 13), (0, 10, 17, 21)]) (by decide) rfl ?_
  intro p e s m args below meth c s₁ B hml hv
  obtain ⟨rfl, hsz, hP, hE, hSt⟩ := hv
  subst hsz
  have hx := B.exec
  have hb := B.bytes
  have hr := B.returns
  have hown : s.vm.findClass RL = some m.cls := findClass_of_methodNamed B.named
  have hlocks := B.notSynchronized
  have hT : ∀ w ∈ fx_ws, w.before ([.ref (ad 0), .int a0, .int a1, .ref (ad 115)] : List Value).toArray s = true := fun w hw => atoms_spec (ws := fw_l yL_seat cL_seat 5 [(0, 10, 13, 13), (0, 10, 17, 21)]) B.pre w (List.mem_cons_of_mem _ hw)
  have htab : c.exceptionTable.toList = tableOf [(0, 10, 13, 13), (0, 10, 17, 21)] := vx_table (x := yL_rate) B (atoms_spec (ws := fw_l yL_seat cL_seat 5 [(0, 10, 13, 13), (0, 10, 17, 21)]) B.pre _ List.mem_cons_self)
  have K : w_K p l s m ([.ref (ad 0), .int a0, .int a1, .ref (ad 115)] : List Value).toArray c cL_seat 5 Z ad := ⟨hx, hb, hml, hown, hT, hE, hSt, hinj⟩
  have hS : va_S (fx_A 116 ad s.heap.size) s.heap s.heap [] := va_S.rf
  have hl := lv_entry ([.ref (ad 0), .int a0, .int a1, .ref (ad 115)]) (n := 5) (Nat.le_of_ble_eq_true rfl)
  rw [lg_entry_eq]
  generalize (lg_sl ([.ref (ad 0), .int a0, .int a1, .ref (ad 115)]) ++ List.replicate (5 - (lg_sl ([.ref (ad 0), .int a0, .int a1, .ref (ad 115)])).length) Slot.unset).toArray = ls at hl ⊢
  have hl : lv_has ls 5 [(0, .ref (ad 0)), (1, .int a0), (2, .int a1), (3, .ref (ad 115))] := hl
  refine lv_aload_n hx hb dL_seat_0 rfl (lv_at hl 3 rfl) ?_
  refine lv_iconst (v := 0) hx hb dL_seat_1 (by decide) ?_
  refine lv_aload_n hx hb dL_seat_2 rfl (lv_at hl 0 rfl) ?_
  refine lv_iload_n hx hb dL_seat_3 rfl (lv_at hl 1 rfl) ?_
  refine lv_iload_n hx hb dL_seat_4 rfl (lv_at hl 2 rfl) ?_
  refine w_x (rest := [.int 0, .ref (ad 115)]) K hP hS hC ok_L_30 rfl ⟨by show fr + 1 ≤ 12; omega, by show 8 + (5 + 11) + lo ≤ 476; omega⟩ rfl hl.1 (Nat.le_of_ble_eq_true rfl) ⟨by show 0 + mc ≤ 2; omega, by show 0 + ms ≤ 20; omega⟩ dL_seat_5 [] ⟨0, 10, 13, 13⟩ [⟨0, 10, 17, 21⟩] htab (fun z hz => absurd hz (List.not_mem_nil)) (by decide) (by decide) (hT _ (fx_w 169 (by decide +kernel) rfl)) (List.mem_of_getElem? (i := 0) rfl) (fun q9 H locs hP hS => ?_)
  refine lv_astore (lv' := [(4, .ref q9), (0, .ref (ad 0)), (1, .int a0), (2, .int a1), (3, .ref (ad 115))]) hx hb dL_seat_13 hl (by decide) rfl (fun ls hl => ?_)
  refine lv_iconst (v := 1) hx hb dL_seat_15 (by decide) ?_
  exact fj_reti (N := 116) (ad := ad) (u := (g, o)) hx hb hr hlocks rfl hP hS (by show 0 + mc ≤ 2; omega) (by show 0 + ms ≤ 20; omega) dL_seat_16 ⟨rfl, rfl⟩

set_option maxHeartbeats 4000000 in
set_option maxRecDepth 100000 in
theorem w_L_seat_ISE (l : Launch) (Z : fx_Z) (ad : Nat → Nat) (hinj : fx_inj 116 ad) (g : St) (o : Int64) (a0 : Int32) (a1 : Int32) {fr lo mc ms : Nat} (hC : fx_C l Z yX3_seat cX3_seat 5 (some .int) fr lo mc ms 115 ad (cF ad Z.2.1) g [.ref (ad 0), .int a0, .int a1] (fun _ _ => False) (fun E9 => E9 = "java/lang/IllegalStateException")) (hR : fr ≤ 11 ∧ lo ≤ 440 ∧ mc ≤ 2 ∧ ms ≤ 20) : fw_C l Z yL_seat cL_seat 5 [(0, 10, 13, 13), (0, 10, 17, 21)] ad (g, o) [.ref (ad 0), .int a0, .int a1, .ref (ad 115)] 2 (g, o) := by
  intro sz
  refine va_MetW (cc := cL_seat) (maxL := 5) (ret := some .int) (hh := [(0, 10, 13, 13), (0, 10, 17, 21)]) (by decide) rfl ?_
  intro p e s m args below meth c s₁ B hml hv
  obtain ⟨rfl, hsz, hP, hE, hSt⟩ := hv
  subst hsz
  have hx := B.exec
  have hb := B.bytes
  have hr := B.returns
  have hown : s.vm.findClass RL = some m.cls := findClass_of_methodNamed B.named
  have hlocks := B.notSynchronized
  have hT : ∀ w ∈ fx_ws, w.before ([.ref (ad 0), .int a0, .int a1, .ref (ad 115)] : List Value).toArray s = true := fun w hw => atoms_spec (ws := fw_l yL_seat cL_seat 5 [(0, 10, 13, 13), (0, 10, 17, 21)]) B.pre w (List.mem_cons_of_mem _ hw)
  have htab : c.exceptionTable.toList = tableOf [(0, 10, 13, 13), (0, 10, 17, 21)] := vx_table (x := yL_rate) B (atoms_spec (ws := fw_l yL_seat cL_seat 5 [(0, 10, 13, 13), (0, 10, 17, 21)]) B.pre _ List.mem_cons_self)
  have K : w_K p l s m ([.ref (ad 0), .int a0, .int a1, .ref (ad 115)] : List Value).toArray c cL_seat 5 Z ad := ⟨hx, hb, hml, hown, hT, hE, hSt, hinj⟩
  have hS : va_S (fx_A 116 ad s.heap.size) s.heap s.heap [] := va_S.rf
  have hl := lv_entry ([.ref (ad 0), .int a0, .int a1, .ref (ad 115)]) (n := 5) (Nat.le_of_ble_eq_true rfl)
  rw [lg_entry_eq]
  generalize (lg_sl ([.ref (ad 0), .int a0, .int a1, .ref (ad 115)]) ++ List.replicate (5 - (lg_sl ([.ref (ad 0), .int a0, .int a1, .ref (ad 115)])).length) Slot.unset).toArray = ls at hl ⊢
  have hl : lv_has ls 5 [(0, .ref (ad 0)), (1, .int a0), (2, .int a1), (3, .ref (ad 115))] := hl
  refine lv_aload_n hx hb dL_seat_0 rfl (lv_at hl 3 rfl) ?_
  refine lv_iconst (v := 0) hx hb dL_seat_1 (by decide) ?_
  refine lv_aload_n hx hb dL_seat_2 rfl (lv_at hl 0 rfl) ?_
  refine lv_iload_n hx hb dL_seat_3 rfl (lv_at hl 1 rfl) ?_
  refine lv_iload_n hx hb dL_seat_4 rfl (lv_at hl 2 rfl) ?_
  have hpass : ∀ z ∈ ([⟨0, 10, 13, 13⟩] : List ExceptionTableEntry), covers z 5 = false ∨ (z.catchType ≠ 0 ∧ ∃ nm : String, (Cond.classLink RL z.catchType nm).before ([.ref (ad 0), .int a0, .int a1, .ref (ad 115)] : List Value).toArray s = true ∧ va_Nc "java/lang/IllegalStateException" nm s) := by
    intro z hz
    simp only [List.mem_cons, List.not_mem_nil, or_false] at hz
    rcases hz with rfl
    · exact Or.inr ⟨by decide, "java/lang/IndexOutOfBoundsException", hT _ (fx_w 169 (by decide +kernel) rfl), hE.2.2.2.2.1⟩
  refine w_x (rest := [.int 0, .ref (ad 115)]) K hP hS hC ok_L_30 rfl ⟨by show fr + 1 ≤ 12; omega, by show 8 + (5 + 11) + lo ≤ 476; omega⟩ rfl hl.1 (Nat.le_of_ble_eq_true rfl) ⟨by show 0 + mc ≤ 2; omega, by show 0 + ms ≤ 20; omega⟩ dL_seat_5 [⟨0, 10, 13, 13⟩] ⟨0, 10, 17, 21⟩ [] htab hpass (by decide) (by decide) (hT _ (fx_w 266 (by decide +kernel) rfl)) (List.mem_of_getElem? (i := 2) rfl) (fun q9 H locs hP hS => ?_)
  refine lv_astore (lv' := [(4, .ref q9), (0, .ref (ad 0)), (1, .int a0), (2, .int a1), (3, .ref (ad 115))]) hx hb dL_seat_17 hl (by decide) rfl (fun ls hl => ?_)
  refine lv_iconst (v := 2) hx hb dL_seat_19 (by decide) ?_
  exact fj_reti (N := 116) (ad := ad) (u := (g, o)) hx hb hr hlocks rfl hP hS (by show 0 + mc ≤ 2; omega) (by show 0 + ms ≤ 20; omega) dL_seat_20 ⟨rfl, rfl⟩

set_option maxHeartbeats 4000000 in
set_option maxRecDepth 100000 in
theorem w_L_leaveSeat_ok (l : Launch) (Z : fx_Z) (ad : Nat → Nat) (hinj : fx_inj 116 ad) (g G : St) (o : Int64) (a0 : Int32) (a1 : Int32) (r : Int32) {fr lo mc ms : Nat} (hC : fx_C l Z yX3_leaveSeat cX3_leaveSeat 4 (some .int) fr lo mc ms 115 ad (cF ad Z.2.1) g [.ref (ad 0), .int a0, .int a1] (pI r G) (fun _ => False)) (hR : fr ≤ 11 ∧ lo ≤ 440 ∧ mc ≤ 2 ∧ ms ≤ 20) : fw_C l Z yL_leaveSeat cL_leaveSeat 5 [(0, 10, 13, 13), (0, 10, 17, 21)] ad (g, o) [.ref (ad 0), .int a0, .int a1, .ref (ad 115)] 0 (G, r.toInt64) := by
  intro sz
  refine va_MetW (cc := cL_leaveSeat) (maxL := 5) (ret := some .int) (hh := [(0, 10, 13, 13), (0, 10, 17, 21)]) (by decide) rfl ?_
  intro p e s m args below meth c s₁ B hml hv
  obtain ⟨rfl, hsz, hP, hE, hSt⟩ := hv
  subst hsz
  have hx := B.exec
  have hb := B.bytes
  have hr := B.returns
  have hown : s.vm.findClass RL = some m.cls := findClass_of_methodNamed B.named
  have hlocks := B.notSynchronized
  have hT : ∀ w ∈ fx_ws, w.before ([.ref (ad 0), .int a0, .int a1, .ref (ad 115)] : List Value).toArray s = true := fun w hw => atoms_spec (ws := fw_l yL_leaveSeat cL_leaveSeat 5 [(0, 10, 13, 13), (0, 10, 17, 21)]) B.pre w (List.mem_cons_of_mem _ hw)
  have htab : c.exceptionTable.toList = tableOf [(0, 10, 13, 13), (0, 10, 17, 21)] := vx_table (x := yL_rate) B (atoms_spec (ws := fw_l yL_leaveSeat cL_leaveSeat 5 [(0, 10, 13, 13), (0, 10, 17, 21)]) B.pre _ List.mem_cons_self)
  have K : w_K p l s m ([.ref (ad 0), .int a0, .int a1, .ref (ad 115)] : List Value).toArray c cL_leaveSeat 5 Z ad := ⟨hx, hb, hml, hown, hT, hE, hSt, hinj⟩
  have hS : va_S (fx_A 116 ad s.heap.size) s.heap s.heap [] := va_S.rf
  have hl := lv_entry ([.ref (ad 0), .int a0, .int a1, .ref (ad 115)]) (n := 5) (Nat.le_of_ble_eq_true rfl)
  rw [lg_entry_eq]
  generalize (lg_sl ([.ref (ad 0), .int a0, .int a1, .ref (ad 115)]) ++ List.replicate (5 - (lg_sl ([.ref (ad 0), .int a0, .int a1, .ref (ad 115)])).length) Slot.unset).toArray = ls at hl ⊢
  have hl : lv_has ls 5 [(0, .ref (ad 0)), (1, .int a0), (2, .int a1), (3, .ref (ad 115))] := hl
  refine lv_aload_n hx hb dL_leaveSeat_0 rfl (lv_at hl 3 rfl) ?_
  refine lv_iconst (v := 0) hx hb dL_leaveSeat_1 (by decide) ?_
  refine lv_aload_n hx hb dL_leaveSeat_2 rfl (lv_at hl 0 rfl) ?_
  refine lv_iload_n hx hb dL_leaveSeat_3 rfl (lv_at hl 1 rfl) ?_
  refine lv_iload_n hx hb dL_leaveSeat_4 rfl (lv_at hl 2 rfl) ?_
  refine w_ok (rest := [.int 0, .ref (ad 115)]) K hP hS hC ok_L_33 rfl ⟨by show fr + 1 ≤ 12; omega, by show 8 + (4 + 11) + lo ≤ 476; omega⟩ rfl hl.1 (Nat.le_of_ble_eq_true rfl) ⟨by show 0 + mc ≤ 2; omega, by show 0 + ms ≤ 20; omega⟩ dL_leaveSeat_5 (fun H locs hP hS => ?_)
  refine lv_i2l hx hb dL_leaveSeat_8 rfl ?_
  refine w_out (rest := []) K hP hS dL_leaveSeat_9 (fun H locs hP hS => ?_)
  refine lv_goto (tgt := 21) hx hb dL_leaveSeat_10 (by decide) ?_
  refine lv_iconst (v := 0) hx hb dL_leaveSeat_21 (by decide) ?_
  exact fj_reti (N := 116) (ad := ad) (u := (G, r.toInt64)) hx hb hr hlocks rfl hP hS (by show 0 + mc ≤ 2; omega) (by show 0 + ms ≤ 20; omega) dL_leaveSeat_22 ⟨rfl, rfl⟩

set_option maxHeartbeats 4000000 in
set_option maxRecDepth 100000 in
theorem w_L_leaveSeat_IOOBE (l : Launch) (Z : fx_Z) (ad : Nat → Nat) (hinj : fx_inj 116 ad) (g : St) (o : Int64) (a0 : Int32) (a1 : Int32) {fr lo mc ms : Nat} (hC : fx_C l Z yX3_leaveSeat cX3_leaveSeat 4 (some .int) fr lo mc ms 115 ad (cF ad Z.2.1) g [.ref (ad 0), .int a0, .int a1] (fun _ _ => False) (fun E9 => E9 = "java/lang/IndexOutOfBoundsException")) (hR : fr ≤ 11 ∧ lo ≤ 440 ∧ mc ≤ 2 ∧ ms ≤ 20) : fw_C l Z yL_leaveSeat cL_leaveSeat 5 [(0, 10, 13, 13), (0, 10, 17, 21)] ad (g, o) [.ref (ad 0), .int a0, .int a1, .ref (ad 115)] 1 (g, o) := by
  intro sz
  refine va_MetW (cc := cL_leaveSeat) (maxL := 5) (ret := some .int) (hh := [(0, 10, 13, 13), (0, 10, 17, 21)]) (by decide) rfl ?_
  intro p e s m args below meth c s₁ B hml hv
  obtain ⟨rfl, hsz, hP, hE, hSt⟩ := hv
  subst hsz
  have hx := B.exec
  have hb := B.bytes
  have hr := B.returns
  have hown : s.vm.findClass RL = some m.cls := findClass_of_methodNamed B.named
  have hlocks := B.notSynchronized
  have hT : ∀ w ∈ fx_ws, w.before ([.ref (ad 0), .int a0, .int a1, .ref (ad 115)] : List Value).toArray s = true := fun w hw => atoms_spec (ws := fw_l yL_leaveSeat cL_leaveSeat 5 [(0, 10, 13, 13), (0, 10, 17, 21)]) B.pre w (List.mem_cons_of_mem _ hw)
  have htab : c.exceptionTable.toList = tableOf [(0, 10, 13, 13), (0, 10, 17, 21)] := vx_table (x := yL_rate) B (atoms_spec (ws := fw_l yL_leaveSeat cL_leaveSeat 5 [(0, 10, 13, 13), (0, 10, 17, 21)]) B.pre _ List.mem_cons_self)
  have K : w_K p l s m ([.ref (ad 0), .int a0, .int a1, .ref (ad 115)] : List Value).toArray c cL_leaveSeat 5 Z ad := ⟨hx, hb, hml, hown, hT, hE, hSt, hinj⟩
  have hS : va_S (fx_A 116 ad s.heap.size) s.heap s.heap [] := va_S.rf
  have hl := lv_entry ([.ref (ad 0), .int a0, .int a1, .ref (ad 115)]) (n := 5) (Nat.le_of_ble_eq_true rfl)
  rw [lg_entry_eq]
  generalize (lg_sl ([.ref (ad 0), .int a0, .int a1, .ref (ad 115)]) ++ List.replicate (5 - (lg_sl ([.ref (ad 0), .int a0, .int a1, .ref (ad 115)])).length) Slot.unset).toArray = ls at hl ⊢
  have hl : lv_has ls 5 [(0, .ref (ad 0)), (1, .int a0), (2, .int a1), (3, .ref (ad 115))] := hl
  refine lv_aload_n hx hb dL_leaveSeat_0 rfl (lv_at hl 3 rfl) ?_
  refine lv_iconst (v := 0) hx hb dL_leaveSeat_1 (by decide) ?_
  refine lv_aload_n hx hb dL_leaveSeat_2 rfl (lv_at hl 0 rfl) ?_
  refine lv_iload_n hx hb dL_leaveSeat_3 rfl (lv_at hl 1 rfl) ?_
  refine lv_iload_n hx hb dL_leaveSeat_4 rfl (lv_at hl 2 rfl) ?_
  refine w_x (rest := [.int 0, .ref (ad 115)]) K hP hS hC ok_L_33 rfl ⟨by show fr + 1 ≤ 12; omega, by show 8 + (4 + 11) + lo ≤ 476; omega⟩ rfl hl.1 (Nat.le_of_ble_eq_true rfl) ⟨by show 0 + mc ≤ 2; omega, by show 0 + ms ≤ 20; omega⟩ dL_leaveSeat_5 [] ⟨0, 10, 13, 13⟩ [⟨0, 10, 17, 21⟩] htab (fun z hz => absurd hz (List.not_mem_nil)) (by decide) (by decide) (hT _ (fx_w 169 (by decide +kernel) rfl)) (List.mem_of_getElem? (i := 0) rfl) (fun q9 H locs hP hS => ?_)
  refine lv_astore (lv' := [(4, .ref q9), (0, .ref (ad 0)), (1, .int a0), (2, .int a1), (3, .ref (ad 115))]) hx hb dL_leaveSeat_13 hl (by decide) rfl (fun ls hl => ?_)
  refine lv_iconst (v := 1) hx hb dL_leaveSeat_15 (by decide) ?_
  exact fj_reti (N := 116) (ad := ad) (u := (g, o)) hx hb hr hlocks rfl hP hS (by show 0 + mc ≤ 2; omega) (by show 0 + ms ≤ 20; omega) dL_leaveSeat_16 ⟨rfl, rfl⟩

set_option maxHeartbeats 4000000 in
set_option maxRecDepth 100000 in
theorem w_L_leaveSeat_ISE (l : Launch) (Z : fx_Z) (ad : Nat → Nat) (hinj : fx_inj 116 ad) (g : St) (o : Int64) (a0 : Int32) (a1 : Int32) {fr lo mc ms : Nat} (hC : fx_C l Z yX3_leaveSeat cX3_leaveSeat 4 (some .int) fr lo mc ms 115 ad (cF ad Z.2.1) g [.ref (ad 0), .int a0, .int a1] (fun _ _ => False) (fun E9 => E9 = "java/lang/IllegalStateException")) (hR : fr ≤ 11 ∧ lo ≤ 440 ∧ mc ≤ 2 ∧ ms ≤ 20) : fw_C l Z yL_leaveSeat cL_leaveSeat 5 [(0, 10, 13, 13), (0, 10, 17, 21)] ad (g, o) [.ref (ad 0), .int a0, .int a1, .ref (ad 115)] 2 (g, o) := by
  intro sz
  refine va_MetW (cc := cL_leaveSeat) (maxL := 5) (ret := some .int) (hh := [(0, 10, 13, 13), (0, 10, 17, 21)]) (by decide) rfl ?_
  intro p e s m args below meth c s₁ B hml hv
  obtain ⟨rfl, hsz, hP, hE, hSt⟩ := hv
  subst hsz
  have hx := B.exec
  have hb := B.bytes
  have hr := B.returns
  have hown : s.vm.findClass RL = some m.cls := findClass_of_methodNamed B.named
  have hlocks := B.notSynchronized
  have hT : ∀ w ∈ fx_ws, w.before ([.ref (ad 0), .int a0, .int a1, .ref (ad 115)] : List Value).toArray s = true := fun w hw => atoms_spec (ws := fw_l yL_leaveSeat cL_leaveSeat 5 [(0, 10, 13, 13), (0, 10, 17, 21)]) B.pre w (List.mem_cons_of_mem _ hw)
  have htab : c.exceptionTable.toList = tableOf [(0, 10, 13, 13), (0, 10, 17, 21)] := vx_table (x := yL_rate) B (atoms_spec (ws := fw_l yL_leaveSeat cL_leaveSeat 5 [(0, 10, 13, 13), (0, 10, 17, 21)]) B.pre _ List.mem_cons_self)
  have K : w_K p l s m ([.ref (ad 0), .int a0, .int a1, .ref (ad 115)] : List Value).toArray c cL_leaveSeat 5 Z ad := ⟨hx, hb, hml, hown, hT, hE, hSt, hinj⟩
  have hS : va_S (fx_A 116 ad s.heap.size) s.heap s.heap [] := va_S.rf
  have hl := lv_entry ([.ref (ad 0), .int a0, .int a1, .ref (ad 115)]) (n := 5) (Nat.le_of_ble_eq_true rfl)
  rw [lg_entry_eq]
  generalize (lg_sl ([.ref (ad 0), .int a0, .int a1, .ref (ad 115)]) ++ List.replicate (5 - (lg_sl ([.ref (ad 0), .int a0, .int a1, .ref (ad 115)])).length) Slot.unset).toArray = ls at hl ⊢
  have hl : lv_has ls 5 [(0, .ref (ad 0)), (1, .int a0), (2, .int a1), (3, .ref (ad 115))] := hl
  refine lv_aload_n hx hb dL_leaveSeat_0 rfl (lv_at hl 3 rfl) ?_
  refine lv_iconst (v := 0) hx hb dL_leaveSeat_1 (by decide) ?_
  refine lv_aload_n hx hb dL_leaveSeat_2 rfl (lv_at hl 0 rfl) ?_
  refine lv_iload_n hx hb dL_leaveSeat_3 rfl (lv_at hl 1 rfl) ?_
  refine lv_iload_n hx hb dL_leaveSeat_4 rfl (lv_at hl 2 rfl) ?_
  have hpass : ∀ z ∈ ([⟨0, 10, 13, 13⟩] : List ExceptionTableEntry), covers z 5 = false ∨ (z.catchType ≠ 0 ∧ ∃ nm : String, (Cond.classLink RL z.catchType nm).before ([.ref (ad 0), .int a0, .int a1, .ref (ad 115)] : List Value).toArray s = true ∧ va_Nc "java/lang/IllegalStateException" nm s) := by
    intro z hz
    simp only [List.mem_cons, List.not_mem_nil, or_false] at hz
    rcases hz with rfl
    · exact Or.inr ⟨by decide, "java/lang/IndexOutOfBoundsException", hT _ (fx_w 169 (by decide +kernel) rfl), hE.2.2.2.2.1⟩
  refine w_x (rest := [.int 0, .ref (ad 115)]) K hP hS hC ok_L_33 rfl ⟨by show fr + 1 ≤ 12; omega, by show 8 + (4 + 11) + lo ≤ 476; omega⟩ rfl hl.1 (Nat.le_of_ble_eq_true rfl) ⟨by show 0 + mc ≤ 2; omega, by show 0 + ms ≤ 20; omega⟩ dL_leaveSeat_5 [⟨0, 10, 13, 13⟩] ⟨0, 10, 17, 21⟩ [] htab hpass (by decide) (by decide) (hT _ (fx_w 266 (by decide +kernel) rfl)) (List.mem_of_getElem? (i := 2) rfl) (fun q9 H locs hP hS => ?_)
  refine lv_astore (lv' := [(4, .ref q9), (0, .ref (ad 0)), (1, .int a0), (2, .int a1), (3, .ref (ad 115))]) hx hb dL_leaveSeat_17 hl (by decide) rfl (fun ls hl => ?_)
  refine lv_iconst (v := 2) hx hb dL_leaveSeat_19 (by decide) ?_
  exact fj_reti (N := 116) (ad := ad) (u := (g, o)) hx hb hr hlocks rfl hP hS (by show 0 + mc ≤ 2; omega) (by show 0 + ms ≤ 20; omega) dL_leaveSeat_20 ⟨rfl, rfl⟩

set_option maxHeartbeats 4000000 in
set_option maxRecDepth 100000 in
theorem w_L_aboard_ok (l : Launch) (Z : fx_Z) (ad : Nat → Nat) (hinj : fx_inj 116 ad) (g G : St) (o : Int64) (a0 : Int32) (a1 : Int32) (r : Int32) {fr lo mc ms : Nat} (hC : fx_C l Z yX3_aboard cX3_aboard 5 (some .int) fr lo mc ms 115 ad (cF ad Z.2.1) g [.ref (ad 0), .int a0, .int a1] (pI r G) (fun _ => False)) (hR : fr ≤ 11 ∧ lo ≤ 440 ∧ mc ≤ 2 ∧ ms ≤ 20) : fw_C l Z yL_aboard cL_aboard 5 [(0, 10, 13, 13), (0, 10, 17, 21)] ad (g, o) [.ref (ad 0), .int a0, .int a1, .ref (ad 115)] 0 (G, r.toInt64) := by
  intro sz
  refine va_MetW (cc := cL_aboard) (maxL := 5) (ret := some .int) (hh := [(0, 10, 13, 13), (0, 10, 17, 21)]) (by decide) rfl ?_
  intro p e s m args below meth c s₁ B hml hv
  obtain ⟨rfl, hsz, hP, hE, hSt⟩ := hv
  subst hsz
  have hx := B.exec
  have hb := B.bytes
  have hr := B.returns
  have hown : s.vm.findClass RL = some m.cls := findClass_of_methodNamed B.named
  have hlocks := B.notSynchronized
  have hT : ∀ w ∈ fx_ws, w.before ([.ref (ad 0), .int a0, .int a1, .ref (ad 115)] : List Value).toArray s = true := fun w hw => atoms_spec (ws := fw_l yL_aboard cL_aboard 5 [(0, 10, 13, 13), (0, 10, 17, 21)]) B.pre w (List.mem_cons_of_mem _ hw)
  have htab : c.exceptionTable.toList = tableOf [(0, 10, 13, 13), (0, 10, 17, 21)] := vx_table (x := yL_rate) B (atoms_spec (ws := fw_l yL_aboard cL_aboard 5 [(0, 10, 13, 13), (0, 10, 17, 21)]) B.pre _ List.mem_cons_self)
  have K : w_K p l s m ([.ref (ad 0), .int a0, .int a1, .ref (ad 115)] : List Value).toArray c cL_aboard 5 Z ad := ⟨hx, hb, hml, hown, hT, hE, hSt, hinj⟩
  have hS : va_S (fx_A 116 ad s.heap.size) s.heap s.heap [] := va_S.rf
  have hl := lv_entry ([.ref (ad 0), .int a0, .int a1, .ref (ad 115)]) (n := 5) (Nat.le_of_ble_eq_true rfl)
  rw [lg_entry_eq]
  generalize (lg_sl ([.ref (ad 0), .int a0, .int a1, .ref (ad 115)]) ++ List.replicate (5 - (lg_sl ([.ref (ad 0), .int a0, .int a1, .ref (ad 115)])).length) Slot.unset).toArray = ls at hl ⊢
  have hl : lv_has ls 5 [(0, .ref (ad 0)), (1, .int a0), (2, .int a1), (3, .ref (ad 115))] := hl
  refine lv_aload_n hx hb dL_aboard_0 rfl (lv_at hl 3 rfl) ?_
  refine lv_iconst (v := 0) hx hb dL_aboard_1 (by decide) ?_
  refine lv_aload_n hx hb dL_aboard_2 rfl (lv_at hl 0 rfl) ?_
  refine lv_iload_n hx hb dL_aboard_3 rfl (lv_at hl 1 rfl) ?_
  refine lv_iload_n hx hb dL_aboard_4 rfl (lv_at hl 2 rfl) ?_
  refine w_ok (rest := [.int 0, .ref (ad 115)]) K hP hS hC ok_L_36 rfl ⟨by show fr + 1 ≤ 12; omega, by show 8 + (5 + 11) + lo ≤ 476; omega⟩ rfl hl.1 (Nat.le_of_ble_eq_true rfl) ⟨by show 0 + mc ≤ 2; omega, by show 0 + ms ≤ 20; omega⟩ dL_aboard_5 (fun H locs hP hS => ?_)
  refine lv_i2l hx hb dL_aboard_8 rfl ?_
  refine w_out (rest := []) K hP hS dL_aboard_9 (fun H locs hP hS => ?_)
  refine lv_goto (tgt := 21) hx hb dL_aboard_10 (by decide) ?_
  refine lv_iconst (v := 0) hx hb dL_aboard_21 (by decide) ?_
  exact fj_reti (N := 116) (ad := ad) (u := (G, r.toInt64)) hx hb hr hlocks rfl hP hS (by show 0 + mc ≤ 2; omega) (by show 0 + ms ≤ 20; omega) dL_aboard_22 ⟨rfl, rfl⟩

set_option maxHeartbeats 4000000 in
set_option maxRecDepth 100000 in
theorem w_L_aboard_IOOBE (l : Launch) (Z : fx_Z) (ad : Nat → Nat) (hinj : fx_inj 116 ad) (g : St) (o : Int64) (a0 : Int32) (a1 : Int32) {fr lo mc ms : Nat} (hC : fx_C l Z yX3_aboard cX3_aboard 5 (some .int) fr lo mc ms 115 ad (cF ad Z.2.1) g [.ref (ad 0), .int a0, .int a1] (fun _ _ => False) (fun E9 => E9 = "java/lang/IndexOutOfBoundsException")) (hR : fr ≤ 11 ∧ lo ≤ 440 ∧ mc ≤ 2 ∧ ms ≤ 20) : fw_C l Z yL_aboard cL_aboard 5 [(0, 10, 13, 13), (0, 10, 17, 21)] ad (g, o) [.ref (ad 0), .int a0, .int a1, .ref (ad 115)] 1 (g, o) := by
  intro sz
  refine va_MetW (cc := cL_aboard) (maxL := 5) (ret := some .int) (hh := [(0, 10, 13, 13), (0, 10, 17, 21)]) (by decide) rfl ?_
  intro p e s m args below meth c s₁ B hml hv
  obtain ⟨rfl, hsz, hP, hE, hSt⟩ := hv
  subst hsz
  have hx := B.exec
  have hb := B.bytes
  have hr := B.returns
  have hown : s.vm.findClass RL = some m.cls := findClass_of_methodNamed B.named
  have hlocks := B.notSynchronized
  have hT : ∀ w ∈ fx_ws, w.before ([.ref (ad 0), .int a0, .int a1, .ref (ad 115)] : List Value).toArray s = true := fun w hw => atoms_spec (ws := fw_l yL_aboard cL_aboard 5 [(0, 10, 13, 13), (0, 10, 17, 21)]) B.pre w (List.mem_cons_of_mem _ hw)
  have htab : c.exceptionTable.toList = tableOf [(0, 10, 13, 13), (0, 10, 17, 21)] := vx_table (x := yL_rate) B (atoms_spec (ws := fw_l yL_aboard cL_aboard 5 [(0, 10, 13, 13), (0, 10, 17, 21)]) B.pre _ List.mem_cons_self)
  have K : w_K p l s m ([.ref (ad 0), .int a0, .int a1, .ref (ad 115)] : List Value).toArray c cL_aboard 5 Z ad := ⟨hx, hb, hml, hown, hT, hE, hSt, hinj⟩
  have hS : va_S (fx_A 116 ad s.heap.size) s.heap s.heap [] := va_S.rf
  have hl := lv_entry ([.ref (ad 0), .int a0, .int a1, .ref (ad 115)]) (n := 5) (Nat.le_of_ble_eq_true rfl)
  rw [lg_entry_eq]
  generalize (lg_sl ([.ref (ad 0), .int a0, .int a1, .ref (ad 115)]) ++ List.replicate (5 - (lg_sl ([.ref (ad 0), .int a0, .int a1, .ref (ad 115)])).length) Slot.unset).toArray = ls at hl ⊢
  have hl : lv_has ls 5 [(0, .ref (ad 0)), (1, .int a0), (2, .int a1), (3, .ref (ad 115))] := hl
  refine lv_aload_n hx hb dL_aboard_0 rfl (lv_at hl 3 rfl) ?_
  refine lv_iconst (v := 0) hx hb dL_aboard_1 (by decide) ?_
  refine lv_aload_n hx hb dL_aboard_2 rfl (lv_at hl 0 rfl) ?_
  refine lv_iload_n hx hb dL_aboard_3 rfl (lv_at hl 1 rfl) ?_
  refine lv_iload_n hx hb dL_aboard_4 rfl (lv_at hl 2 rfl) ?_
  refine w_x (rest := [.int 0, .ref (ad 115)]) K hP hS hC ok_L_36 rfl ⟨by show fr + 1 ≤ 12; omega, by show 8 + (5 + 11) + lo ≤ 476; omega⟩ rfl hl.1 (Nat.le_of_ble_eq_true rfl) ⟨by show 0 + mc ≤ 2; omega, by show 0 + ms ≤ 20; omega⟩ dL_aboard_5 [] ⟨0, 10, 13, 13⟩ [⟨0, 10, 17, 21⟩] htab (fun z hz => absurd hz (List.not_mem_nil)) (by decide) (by decide) (hT _ (fx_w 169 (by decide +kernel) rfl)) (List.mem_of_getElem? (i := 0) rfl) (fun q9 H locs hP hS => ?_)
  refine lv_astore (lv' := [(4, .ref q9), (0, .ref (ad 0)), (1, .int a0), (2, .int a1), (3, .ref (ad 115))]) hx hb dL_aboard_13 hl (by decide) rfl (fun ls hl => ?_)
  refine lv_iconst (v := 1) hx hb dL_aboard_15 (by decide) ?_
  exact fj_reti (N := 116) (ad := ad) (u := (g, o)) hx hb hr hlocks rfl hP hS (by show 0 + mc ≤ 2; omega) (by show 0 + ms ≤ 20; omega) dL_aboard_16 ⟨rfl, rfl⟩

set_option maxHeartbeats 4000000 in
set_option maxRecDepth 100000 in
theorem w_L_aboard_ISE (l : Launch) (Z : fx_Z) (ad : Nat → Nat) (hinj : fx_inj 116 ad) (g : St) (o : Int64) (a0 : Int32) (a1 : Int32) {fr lo mc ms : Nat} (hC : fx_C l Z yX3_aboard cX3_aboard 5 (some .int) fr lo mc ms 115 ad (cF ad Z.2.1) g [.ref (ad 0), .int a0, .int a1] (fun _ _ => False) (fun E9 => E9 = "java/lang/IllegalStateException")) (hR : fr ≤ 11 ∧ lo ≤ 440 ∧ mc ≤ 2 ∧ ms ≤ 20) : fw_C l Z yL_aboard cL_aboard 5 [(0, 10, 13, 13), (0, 10, 17, 21)] ad (g, o) [.ref (ad 0), .int a0, .int a1, .ref (ad 115)] 2 (g, o) := by
  intro sz
  refine va_MetW (cc := cL_aboard) (maxL := 5) (ret := some .int) (hh := [(0, 10, 13, 13), (0, 10, 17, 21)]) (by decide) rfl ?_
  intro p e s m args below meth c s₁ B hml hv
  obtain ⟨rfl, hsz, hP, hE, hSt⟩ := hv
  subst hsz
  have hx := B.exec
  have hb := B.bytes
  have hr := B.returns
  have hown : s.vm.findClass RL = some m.cls := findClass_of_methodNamed B.named
  have hlocks := B.notSynchronized
  have hT : ∀ w ∈ fx_ws, w.before ([.ref (ad 0), .int a0, .int a1, .ref (ad 115)] : List Value).toArray s = true := fun w hw => atoms_spec (ws := fw_l yL_aboard cL_aboard 5 [(0, 10, 13, 13), (0, 10, 17, 21)]) B.pre w (List.mem_cons_of_mem _ hw)
  have htab : c.exceptionTable.toList = tableOf [(0, 10, 13, 13), (0, 10, 17, 21)] := vx_table (x := yL_rate) B (atoms_spec (ws := fw_l yL_aboard cL_aboard 5 [(0, 10, 13, 13), (0, 10, 17, 21)]) B.pre _ List.mem_cons_self)
  have K : w_K p l s m ([.ref (ad 0), .int a0, .int a1, .ref (ad 115)] : List Value).toArray c cL_aboard 5 Z ad := ⟨hx, hb, hml, hown, hT, hE, hSt, hinj⟩
  have hS : va_S (fx_A 116 ad s.heap.size) s.heap s.heap [] := va_S.rf
  have hl := lv_entry ([.ref (ad 0), .int a0, .int a1, .ref (ad 115)]) (n := 5) (Nat.le_of_ble_eq_true rfl)
  rw [lg_entry_eq]
  generalize (lg_sl ([.ref (ad 0), .int a0, .int a1, .ref (ad 115)]) ++ List.replicate (5 - (lg_sl ([.ref (ad 0), .int a0, .int a1, .ref (ad 115)])).length) Slot.unset).toArray = ls at hl ⊢
  have hl : lv_has ls 5 [(0, .ref (ad 0)), (1, .int a0), (2, .int a1), (3, .ref (ad 115))] := hl
  refine lv_aload_n hx hb dL_aboard_0 rfl (lv_at hl 3 rfl) ?_
  refine lv_iconst (v := 0) hx hb dL_aboard_1 (by decide) ?_
  refine lv_aload_n hx hb dL_aboard_2 rfl (lv_at hl 0 rfl) ?_
  refine lv_iload_n hx hb dL_aboard_3 rfl (lv_at hl 1 rfl) ?_
  refine lv_iload_n hx hb dL_aboard_4 rfl (lv_at hl 2 rfl) ?_
  have hpass : ∀ z ∈ ([⟨0, 10, 13, 13⟩] : List ExceptionTableEntry), covers z 5 = false ∨ (z.catchType ≠ 0 ∧ ∃ nm : String, (Cond.classLink RL z.catchType nm).before ([.ref (ad 0), .int a0, .int a1, .ref (ad 115)] : List Value).toArray s = true ∧ va_Nc "java/lang/IllegalStateException" nm s) := by
    intro z hz
    simp only [List.mem_cons, List.not_mem_nil, or_false] at hz
    rcases hz with rfl
    · exact Or.inr ⟨by decide, "java/lang/IndexOutOfBoundsException", hT _ (fx_w 169 (by decide +kernel) rfl), hE.2.2.2.2.1⟩
  refine w_x (rest := [.int 0, .ref (ad 115)]) K hP hS hC ok_L_36 rfl ⟨by show fr + 1 ≤ 12; omega, by show 8 + (5 + 11) + lo ≤ 476; omega⟩ rfl hl.1 (Nat.le_of_ble_eq_true rfl) ⟨by show 0 + mc ≤ 2; omega, by show 0 + ms ≤ 20; omega⟩ dL_aboard_5 [⟨0, 10, 13, 13⟩] ⟨0, 10, 17, 21⟩ [] htab hpass (by decide) (by decide) (hT _ (fx_w 266 (by decide +kernel) rfl)) (List.mem_of_getElem? (i := 2) rfl) (fun q9 H locs hP hS => ?_)
  refine lv_astore (lv' := [(4, .ref q9), (0, .ref (ad 0)), (1, .int a0), (2, .int a1), (3, .ref (ad 115))]) hx hb dL_aboard_17 hl (by decide) rfl (fun ls hl => ?_)
  refine lv_iconst (v := 2) hx hb dL_aboard_19 (by decide) ?_
  exact fj_reti (N := 116) (ad := ad) (u := (g, o)) hx hb hr hlocks rfl hP hS (by show 0 + mc ≤ 2; omega) (by show 0 + ms ≤ 20; omega) dL_aboard_20 ⟨rfl, rfl⟩

set_option maxHeartbeats 4000000 in
set_option maxRecDepth 100000 in
theorem w_L_stamp_ok (l : Launch) (Z : fx_Z) (ad : Nat → Nat) (hinj : fx_inj 116 ad) (g G : St) (o : Int64) (a0 : Int32) (a1 : Int32) (r : Int32) {fr lo mc ms : Nat} (hC : fx_C l Z yX3_stamp cX3_stamp 5 (some .int) fr lo mc ms 115 ad (cF ad Z.2.1) g [.ref (ad 0), .int a0, .int a1] (pI r G) (fun _ => False)) (hR : fr ≤ 11 ∧ lo ≤ 440 ∧ mc ≤ 2 ∧ ms ≤ 20) : fw_C l Z yL_stamp cL_stamp 5 [(0, 10, 13, 13), (0, 10, 17, 21)] ad (g, o) [.ref (ad 0), .int a0, .int a1, .ref (ad 115)] 0 (G, r.toInt64) := by
  intro sz
  refine va_MetW (cc := cL_stamp) (maxL := 5) (ret := some .int) (hh := [(0, 10, 13, 13), (0, 10, 17, 21)]) (by decide) rfl ?_
  intro p e s m args below meth c s₁ B hml hv
  obtain ⟨rfl, hsz, hP, hE, hSt⟩ := hv
  subst hsz
  have hx := B.exec
  have hb := B.bytes
  have hr := B.returns
  have hown : s.vm.findClass RL = some m.cls := findClass_of_methodNamed B.named
  have hlocks := B.notSynchronized
  have hT : ∀ w ∈ fx_ws, w.before ([.ref (ad 0), .int a0, .int a1, .ref (ad 115)] : List Value).toArray s = true := fun w hw => atoms_spec (ws := fw_l yL_stamp cL_stamp 5 [(0, 10, 13, 13), (0, 10, 17, 21)]) B.pre w (List.mem_cons_of_mem _ hw)
  have htab : c.exceptionTable.toList = tableOf [(0, 10, 13, 13), (0, 10, 17, 21)] := vx_table (x := yL_rate) B (atoms_spec (ws := fw_l yL_stamp cL_stamp 5 [(0, 10, 13, 13), (0, 10, 17, 21)]) B.pre _ List.mem_cons_self)
  have K : w_K p l s m ([.ref (ad 0), .int a0, .int a1, .ref (ad 115)] : List Value).toArray c cL_stamp 5 Z ad := ⟨hx, hb, hml, hown, hT, hE, hSt, hinj⟩
  have hS : va_S (fx_A 116 ad s.heap.size) s.heap s.heap [] := va_S.rf
  have hl := lv_entry ([.ref (ad 0), .int a0, .int a1, .ref (ad 115)]) (n := 5) (Nat.le_of_ble_eq_true rfl)
  rw [lg_entry_eq]
  generalize (lg_sl ([.ref (ad 0), .int a0, .int a1, .ref (ad 115)]) ++ List.replicate (5 - (lg_sl ([.ref (ad 0), .int a0, .int a1, .ref (ad 115)])).length) Slot.unset).toArray = ls at hl ⊢
  have hl : lv_has ls 5 [(0, .ref (ad 0)), (1, .int a0), (2, .int a1), (3, .ref (ad 115))] := hl
  refine lv_aload_n hx hb dL_stamp_0 rfl (lv_at hl 3 rfl) ?_
  refine lv_iconst (v := 0) hx hb dL_stamp_1 (by decide) ?_
  refine lv_aload_n hx hb dL_stamp_2 rfl (lv_at hl 0 rfl) ?_
  refine lv_iload_n hx hb dL_stamp_3 rfl (lv_at hl 1 rfl) ?_
  refine lv_iload_n hx hb dL_stamp_4 rfl (lv_at hl 2 rfl) ?_
  refine w_ok (rest := [.int 0, .ref (ad 115)]) K hP hS hC ok_L_39 rfl ⟨by show fr + 1 ≤ 12; omega, by show 8 + (5 + 11) + lo ≤ 476; omega⟩ rfl hl.1 (Nat.le_of_ble_eq_true rfl) ⟨by show 0 + mc ≤ 2; omega, by show 0 + ms ≤ 20; omega⟩ dL_stamp_5 (fun H locs hP hS => ?_)
  refine lv_i2l hx hb dL_stamp_8 rfl ?_
  refine w_out (rest := []) K hP hS dL_stamp_9 (fun H locs hP hS => ?_)
  refine lv_goto (tgt := 21) hx hb dL_stamp_10 (by decide) ?_
  refine lv_iconst (v := 0) hx hb dL_stamp_21 (by decide) ?_
  exact fj_reti (N := 116) (ad := ad) (u := (G, r.toInt64)) hx hb hr hlocks rfl hP hS (by show 0 + mc ≤ 2; omega) (by show 0 + ms ≤ 20; omega) dL_stamp_22 ⟨rfl, rfl⟩

set_option maxHeartbeats 4000000 in
set_option maxRecDepth 100000 in
theorem w_L_stamp_IOOBE (l : Launch) (Z : fx_Z) (ad : Nat → Nat) (hinj : fx_inj 116 ad) (g : St) (o : Int64) (a0 : Int32) (a1 : Int32) {fr lo mc ms : Nat} (hC : fx_C l Z yX3_stamp cX3_stamp 5 (some .int) fr lo mc ms 115 ad (cF ad Z.2.1) g [.ref (ad 0), .int a0, .int a1] (fun _ _ => False) (fun E9 => E9 = "java/lang/IndexOutOfBoundsException")) (hR : fr ≤ 11 ∧ lo ≤ 440 ∧ mc ≤ 2 ∧ ms ≤ 20) : fw_C l Z yL_stamp cL_stamp 5 [(0, 10, 13, 13), (0, 10, 17, 21)] ad (g, o) [.ref (ad 0), .int a0, .int a1, .ref (ad 115)] 1 (g, o) := by
  intro sz
  refine va_MetW (cc := cL_stamp) (maxL := 5) (ret := some .int) (hh := [(0, 10, 13, 13), (0, 10, 17, 21)]) (by decide) rfl ?_
  intro p e s m args below meth c s₁ B hml hv
  obtain ⟨rfl, hsz, hP, hE, hSt⟩ := hv
  subst hsz
  have hx := B.exec
  have hb := B.bytes
  have hr := B.returns
  have hown : s.vm.findClass RL = some m.cls := findClass_of_methodNamed B.named
  have hlocks := B.notSynchronized
  have hT : ∀ w ∈ fx_ws, w.before ([.ref (ad 0), .int a0, .int a1, .ref (ad 115)] : List Value).toArray s = true := fun w hw => atoms_spec (ws := fw_l yL_stamp cL_stamp 5 [(0, 10, 13, 13), (0, 10, 17, 21)]) B.pre w (List.mem_cons_of_mem _ hw)
  have htab : c.exceptionTable.toList = tableOf [(0, 10, 13, 13), (0, 10, 17, 21)] := vx_table (x := yL_rate) B (atoms_spec (ws := fw_l yL_stamp cL_stamp 5 [(0, 10, 13, 13), (0, 10, 17, 21)]) B.pre _ List.mem_cons_self)
  have K : w_K p l s m ([.ref (ad 0), .int a0, .int a1, .ref (ad 115)] : List Value).toArray c cL_stamp 5 Z ad := ⟨hx, hb, hml, hown, hT, hE, hSt, hinj⟩
  have hS : va_S (fx_A 116 ad s.heap.size) s.heap s.heap [] := va_S.rf
  have hl := lv_entry ([.ref (ad 0), .int a0, .int a1, .ref (ad 115)]) (n := 5) (Nat.le_of_ble_eq_true rfl)
  rw [lg_entry_eq]
  generalize (lg_sl ([.ref (ad 0), .int a0, .int a1, .ref (ad 115)]) ++ List.replicate (5 - (lg_sl ([.ref (ad 0), .int a0, .int a1, .ref (ad 115)])).length) Slot.unset).toArray = ls at hl ⊢
  have hl : lv_has ls 5 [(0, .ref (ad 0)), (1, .int a0), (2, .int a1), (3, .ref (ad 115))] := hl
  refine lv_aload_n hx hb dL_stamp_0 rfl (lv_at hl 3 rfl) ?_
  refine lv_iconst (v := 0) hx hb dL_stamp_1 (by decide) ?_
  refine lv_aload_n hx hb dL_stamp_2 rfl (lv_at hl 0 rfl) ?_
  refine lv_iload_n hx hb dL_stamp_3 rfl (lv_at hl 1 rfl) ?_
  refine lv_iload_n hx hb dL_stamp_4 rfl (lv_at hl 2 rfl) ?_
  refine w_x (rest := [.int 0, .ref (ad 115)]) K hP hS hC ok_L_39 rfl ⟨by show fr + 1 ≤ 12; omega, by show 8 + (5 + 11) + lo ≤ 476; omega⟩ rfl hl.1 (Nat.le_of_ble_eq_true rfl) ⟨by show 0 + mc ≤ 2; omega, by show 0 + ms ≤ 20; omega⟩ dL_stamp_5 [] ⟨0, 10, 13, 13⟩ [⟨0, 10, 17, 21⟩] htab (fun z hz => absurd hz (List.not_mem_nil)) (by decide) (by decide) (hT _ (fx_w 169 (by decide +kernel) rfl)) (List.mem_of_getElem? (i := 0) rfl) (fun q9 H locs hP hS => ?_)
  refine lv_astore (lv' := [(4, .ref q9), (0, .ref (ad 0)), (1, .int a0), (2, .int a1), (3, .ref (ad 115))]) hx hb dL_stamp_13 hl (by decide) rfl (fun ls hl => ?_)
  refine lv_iconst (v := 1) hx hb dL_stamp_15 (by decide) ?_
  exact fj_reti (N := 116) (ad := ad) (u := (g, o)) hx hb hr hlocks rfl hP hS (by show 0 + mc ≤ 2; omega) (by show 0 + ms ≤ 20; omega) dL_stamp_16 ⟨rfl, rfl⟩

set_option maxHeartbeats 4000000 in
set_option maxRecDepth 100000 in
theorem w_L_stamp_ISE (l : Launch) (Z : fx_Z) (ad : Nat → Nat) (hinj : fx_inj 116 ad) (g : St) (o : Int64) (a0 : Int32) (a1 : Int32) {fr lo mc ms : Nat} (hC : fx_C l Z yX3_stamp cX3_stamp 5 (some .int) fr lo mc ms 115 ad (cF ad Z.2.1) g [.ref (ad 0), .int a0, .int a1] (fun _ _ => False) (fun E9 => E9 = "java/lang/IllegalStateException")) (hR : fr ≤ 11 ∧ lo ≤ 440 ∧ mc ≤ 2 ∧ ms ≤ 20) : fw_C l Z yL_stamp cL_stamp 5 [(0, 10, 13, 13), (0, 10, 17, 21)] ad (g, o) [.ref (ad 0), .int a0, .int a1, .ref (ad 115)] 2 (g, o) := by
  intro sz
  refine va_MetW (cc := cL_stamp) (maxL := 5) (ret := some .int) (hh := [(0, 10, 13, 13), (0, 10, 17, 21)]) (by decide) rfl ?_
  intro p e s m args below meth c s₁ B hml hv
  obtain ⟨rfl, hsz, hP, hE, hSt⟩ := hv
  subst hsz
  have hx := B.exec
  have hb := B.bytes
  have hr := B.returns
  have hown : s.vm.findClass RL = some m.cls := findClass_of_methodNamed B.named
  have hlocks := B.notSynchronized
  have hT : ∀ w ∈ fx_ws, w.before ([.ref (ad 0), .int a0, .int a1, .ref (ad 115)] : List Value).toArray s = true := fun w hw => atoms_spec (ws := fw_l yL_stamp cL_stamp 5 [(0, 10, 13, 13), (0, 10, 17, 21)]) B.pre w (List.mem_cons_of_mem _ hw)
  have htab : c.exceptionTable.toList = tableOf [(0, 10, 13, 13), (0, 10, 17, 21)] := vx_table (x := yL_rate) B (atoms_spec (ws := fw_l yL_stamp cL_stamp 5 [(0, 10, 13, 13), (0, 10, 17, 21)]) B.pre _ List.mem_cons_self)
  have K : w_K p l s m ([.ref (ad 0), .int a0, .int a1, .ref (ad 115)] : List Value).toArray c cL_stamp 5 Z ad := ⟨hx, hb, hml, hown, hT, hE, hSt, hinj⟩
  have hS : va_S (fx_A 116 ad s.heap.size) s.heap s.heap [] := va_S.rf
  have hl := lv_entry ([.ref (ad 0), .int a0, .int a1, .ref (ad 115)]) (n := 5) (Nat.le_of_ble_eq_true rfl)
  rw [lg_entry_eq]
  generalize (lg_sl ([.ref (ad 0), .int a0, .int a1, .ref (ad 115)]) ++ List.replicate (5 - (lg_sl ([.ref (ad 0), .int a0, .int a1, .ref (ad 115)])).length) Slot.unset).toArray = ls at hl ⊢
  have hl : lv_has ls 5 [(0, .ref (ad 0)), (1, .int a0), (2, .int a1), (3, .ref (ad 115))] := hl
  refine lv_aload_n hx hb dL_stamp_0 rfl (lv_at hl 3 rfl) ?_
  refine lv_iconst (v := 0) hx hb dL_stamp_1 (by decide) ?_
  refine lv_aload_n hx hb dL_stamp_2 rfl (lv_at hl 0 rfl) ?_
  refine lv_iload_n hx hb dL_stamp_3 rfl (lv_at hl 1 rfl) ?_
  refine lv_iload_n hx hb dL_stamp_4 rfl (lv_at hl 2 rfl) ?_
  have hpass : ∀ z ∈ ([⟨0, 10, 13, 13⟩] : List ExceptionTableEntry), covers z 5 = false ∨ (z.catchType ≠ 0 ∧ ∃ nm : String, (Cond.classLink RL z.catchType nm).before ([.ref (ad 0), .int a0, .int a1, .ref (ad 115)] : List Value).toArray s = true ∧ va_Nc "java/lang/IllegalStateException" nm s) := by
    intro z hz
    simp only [List.mem_cons, List.not_mem_nil, or_false] at hz
    rcases hz with rfl
    · exact Or.inr ⟨by decide, "java/lang/IndexOutOfBoundsException", hT _ (fx_w 169 (by decide +kernel) rfl), hE.2.2.2.2.1⟩
  refine w_x (rest := [.int 0, .ref (ad 115)]) K hP hS hC ok_L_39 rfl ⟨by show fr + 1 ≤ 12; omega, by show 8 + (5 + 11) + lo ≤ 476; omega⟩ rfl hl.1 (Nat.le_of_ble_eq_true rfl) ⟨by show 0 + mc ≤ 2; omega, by show 0 + ms ≤ 20; omega⟩ dL_stamp_5 [⟨0, 10, 13, 13⟩] ⟨0, 10, 17, 21⟩ [] htab hpass (by decide) (by decide) (hT _ (fx_w 266 (by decide +kernel) rfl)) (List.mem_of_getElem? (i := 2) rfl) (fun q9 H locs hP hS => ?_)
  refine lv_astore (lv' := [(4, .ref q9), (0, .ref (ad 0)), (1, .int a0), (2, .int a1), (3, .ref (ad 115))]) hx hb dL_stamp_17 hl (by decide) rfl (fun ls hl => ?_)
  refine lv_iconst (v := 2) hx hb dL_stamp_19 (by decide) ?_
  exact fj_reti (N := 116) (ad := ad) (u := (g, o)) hx hb hr hlocks rfl hP hS (by show 0 + mc ≤ 2; omega) (by show 0 + ms ≤ 20; omega) dL_stamp_20 ⟨rfl, rfl⟩

set_option maxHeartbeats 4000000 in
set_option maxRecDepth 100000 in
theorem w_L_check_ok (l : Launch) (Z : fx_Z) (ad : Nat → Nat) (hinj : fx_inj 116 ad) (g G : St) (o : Int64) (a0 : Int32) (a1 : Int32) (r : Int32) {fr lo mc ms : Nat} (hC : fx_C l Z yX3_check cX3_check 4 (some .int) fr lo mc ms 115 ad (cF ad Z.2.1) g [.ref (ad 0), .int a0, .int a1] (pI r G) (fun _ => False)) (hR : fr ≤ 11 ∧ lo ≤ 440 ∧ mc ≤ 2 ∧ ms ≤ 20) : fw_C l Z yL_check cL_check 5 [(0, 10, 13, 13), (0, 10, 17, 21)] ad (g, o) [.ref (ad 0), .int a0, .int a1, .ref (ad 115)] 0 (G, r.toInt64) := by
  intro sz
  refine va_MetW (cc := cL_check) (maxL := 5) (ret := some .int) (hh := [(0, 10, 13, 13), (0, 10, 17, 21)]) (by decide) rfl ?_
  intro p e s m args below meth c s₁ B hml hv
  obtain ⟨rfl, hsz, hP, hE, hSt⟩ := hv
  subst hsz
  have hx := B.exec
  have hb := B.bytes
  have hr := B.returns
  have hown : s.vm.findClass RL = some m.cls := findClass_of_methodNamed B.named
  have hlocks := B.notSynchronized
  have hT : ∀ w ∈ fx_ws, w.before ([.ref (ad 0), .int a0, .int a1, .ref (ad 115)] : List Value).toArray s = true := fun w hw => atoms_spec (ws := fw_l yL_check cL_check 5 [(0, 10, 13, 13), (0, 10, 17, 21)]) B.pre w (List.mem_cons_of_mem _ hw)
  have htab : c.exceptionTable.toList = tableOf [(0, 10, 13, 13), (0, 10, 17, 21)] := vx_table (x := yL_rate) B (atoms_spec (ws := fw_l yL_check cL_check 5 [(0, 10, 13, 13), (0, 10, 17, 21)]) B.pre _ List.mem_cons_self)
  have K : w_K p l s m ([.ref (ad 0), .int a0, .int a1, .ref (ad 115)] : List Value).toArray c cL_check 5 Z ad := ⟨hx, hb, hml, hown, hT, hE, hSt, hinj⟩
  have hS : va_S (fx_A 116 ad s.heap.size) s.heap s.heap [] := va_S.rf
  have hl := lv_entry ([.ref (ad 0), .int a0, .int a1, .ref (ad 115)]) (n := 5) (Nat.le_of_ble_eq_true rfl)
  rw [lg_entry_eq]
  generalize (lg_sl ([.ref (ad 0), .int a0, .int a1, .ref (ad 115)]) ++ List.replicate (5 - (lg_sl ([.ref (ad 0), .int a0, .int a1, .ref (ad 115)])).length) Slot.unset).toArray = ls at hl ⊢
  have hl : lv_has ls 5 [(0, .ref (ad 0)), (1, .int a0), (2, .int a1), (3, .ref (ad 115))] := hl
  refine lv_aload_n hx hb dL_check_0 rfl (lv_at hl 3 rfl) ?_
  refine lv_iconst (v := 0) hx hb dL_check_1 (by decide) ?_
  refine lv_aload_n hx hb dL_check_2 rfl (lv_at hl 0 rfl) ?_
  refine lv_iload_n hx hb dL_check_3 rfl (lv_at hl 1 rfl) ?_
  refine lv_iload_n hx hb dL_check_4 rfl (lv_at hl 2 rfl) ?_
  refine w_ok (rest := [.int 0, .ref (ad 115)]) K hP hS hC ok_L_42 rfl ⟨by show fr + 1 ≤ 12; omega, by show 8 + (4 + 11) + lo ≤ 476; omega⟩ rfl hl.1 (Nat.le_of_ble_eq_true rfl) ⟨by show 0 + mc ≤ 2; omega, by show 0 + ms ≤ 20; omega⟩ dL_check_5 (fun H locs hP hS => ?_)
  refine lv_i2l hx hb dL_check_8 rfl ?_
  refine w_out (rest := []) K hP hS dL_check_9 (fun H locs hP hS => ?_)
  refine lv_goto (tgt := 21) hx hb dL_check_10 (by decide) ?_
  refine lv_iconst (v := 0) hx hb dL_check_21 (by decide) ?_
  exact fj_reti (N := 116) (ad := ad) (u := (G, r.toInt64)) hx hb hr hlocks rfl hP hS (by show 0 + mc ≤ 2; omega) (by show 0 + ms ≤ 20; omega) dL_check_22 ⟨rfl, rfl⟩

set_option maxHeartbeats 4000000 in
set_option maxRecDepth 100000 in
theorem w_L_check_IOOBE (l : Launch) (Z : fx_Z) (ad : Nat → Nat) (hinj : fx_inj 116 ad) (g : St) (o : Int64) (a0 : Int32) (a1 : Int32) {fr lo mc ms : Nat} (hC : fx_C l Z yX3_check cX3_check 4 (some .int) fr lo mc ms 115 ad (cF ad Z.2.1) g [.ref (ad 0), .int a0, .int a1] (fun _ _ => False) (fun E9 => E9 = "java/lang/IndexOutOfBoundsException")) (hR : fr ≤ 11 ∧ lo ≤ 440 ∧ mc ≤ 2 ∧ ms ≤ 20) : fw_C l Z yL_check cL_check 5 [(0, 10, 13, 13), (0, 10, 17, 21)] ad (g, o) [.ref (ad 0), .int a0, .int a1, .ref (ad 115)] 1 (g, o) := by
  intro sz
  refine va_MetW (cc := cL_check) (maxL := 5) (ret := some .int) (hh := [(0, 10, 13, 13), (0, 10, 17, 21)]) (by decide) rfl ?_
  intro p e s m args below meth c s₁ B hml hv
  obtain ⟨rfl, hsz, hP, hE, hSt⟩ := hv
  subst hsz
  have hx := B.exec
  have hb := B.bytes
  have hr := B.returns
  have hown : s.vm.findClass RL = some m.cls := findClass_of_methodNamed B.named
  have hlocks := B.notSynchronized
  have hT : ∀ w ∈ fx_ws, w.before ([.ref (ad 0), .int a0, .int a1, .ref (ad 115)] : List Value).toArray s = true := fun w hw => atoms_spec (ws := fw_l yL_check cL_check 5 [(0, 10, 13, 13), (0, 10, 17, 21)]) B.pre w (List.mem_cons_of_mem _ hw)
  have htab : c.exceptionTable.toList = tableOf [(0, 10, 13, 13), (0, 10, 17, 21)] := vx_table (x := yL_rate) B (atoms_spec (ws := fw_l yL_check cL_check 5 [(0, 10, 13, 13), (0, 10, 17, 21)]) B.pre _ List.mem_cons_self)
  have K : w_K p l s m ([.ref (ad 0), .int a0, .int a1, .ref (ad 115)] : List Value).toArray c cL_check 5 Z ad := ⟨hx, hb, hml, hown, hT, hE, hSt, hinj⟩
  have hS : va_S (fx_A 116 ad s.heap.size) s.heap s.heap [] := va_S.rf
  have hl := lv_entry ([.ref (ad 0), .int a0, .int a1, .ref (ad 115)]) (n := 5) (Nat.le_of_ble_eq_true rfl)
  rw [lg_entry_eq]
  generalize (lg_sl ([.ref (ad 0), .int a0, .int a1, .ref (ad 115)]) ++ List.replicate (5 - (lg_sl ([.ref (ad 0), .int a0, .int a1, .ref (ad 115)])).length) Slot.unset).toArray = ls at hl ⊢
  have hl : lv_has ls 5 [(0, .ref (ad 0)), (1, .int a0), (2, .int a1), (3, .ref (ad 115))] := hl
  refine lv_aload_n hx hb dL_check_0 rfl (lv_at hl 3 rfl) ?_
  refine lv_iconst (v := 0) hx hb dL_check_1 (by decide) ?_
  refine lv_aload_n hx hb dL_check_2 rfl (lv_at hl 0 rfl) ?_
  refine lv_iload_n hx hb dL_check_3 rfl (lv_at hl 1 rfl) ?_
  refine lv_iload_n hx hb dL_check_4 rfl (lv_at hl 2 rfl) ?_
  refine w_x (rest := [.int 0, .ref (ad 115)]) K hP hS hC ok_L_42 rfl ⟨by show fr + 1 ≤ 12; omega, by show 8 + (4 + 11) + lo ≤ 476; omega⟩ rfl hl.1 (Nat.le_of_ble_eq_true rfl) ⟨by show 0 + mc ≤ 2; omega, by show 0 + ms ≤ 20; omega⟩ dL_check_5 [] ⟨0, 10, 13, 13⟩ [⟨0, 10, 17, 21⟩] htab (fun z hz => absurd hz (List.not_mem_nil)) (by decide) (by decide) (hT _ (fx_w 169 (by decide +kernel) rfl)) (List.mem_of_getElem? (i := 0) rfl) (fun q9 H locs hP hS => ?_)
  refine lv_astore (lv' := [(4, .ref q9), (0, .ref (ad 0)), (1, .int a0), (2, .int a1), (3, .ref (ad 115))]) hx hb dL_check_13 hl (by decide) rfl (fun ls hl => ?_)
  refine lv_iconst (v := 1) hx hb dL_check_15 (by decide) ?_
  exact fj_reti (N := 116) (ad := ad) (u := (g, o)) hx hb hr hlocks rfl hP hS (by show 0 + mc ≤ 2; omega) (by show 0 + ms ≤ 20; omega) dL_check_16 ⟨rfl, rfl⟩

set_option maxHeartbeats 4000000 in
set_option maxRecDepth 100000 in
theorem w_L_check_ISE (l : Launch) (Z : fx_Z) (ad : Nat → Nat) (hinj : fx_inj 116 ad) (g : St) (o : Int64) (a0 : Int32) (a1 : Int32) {fr lo mc ms : Nat} (hC : fx_C l Z yX3_check cX3_check 4 (some .int) fr lo mc ms 115 ad (cF ad Z.2.1) g [.ref (ad 0), .int a0, .int a1] (fun _ _ => False) (fun E9 => E9 = "java/lang/IllegalStateException")) (hR : fr ≤ 11 ∧ lo ≤ 440 ∧ mc ≤ 2 ∧ ms ≤ 20) : fw_C l Z yL_check cL_check 5 [(0, 10, 13, 13), (0, 10, 17, 21)] ad (g, o) [.ref (ad 0), .int a0, .int a1, .ref (ad 115)] 2 (g, o) := by
  intro sz
  refine va_MetW (cc := cL_check) (maxL := 5) (ret := some .int) (hh := [(0, 10, 13, 13), (0, 10, 17, 21)]) (by decide) rfl ?_
  intro p e s m args below meth c s₁ B hml hv
  obtain ⟨rfl, hsz, hP, hE, hSt⟩ := hv
  subst hsz
  have hx := B.exec
  have hb := B.bytes
  have hr := B.returns
  have hown : s.vm.findClass RL = some m.cls := findClass_of_methodNamed B.named
  have hlocks := B.notSynchronized
  have hT : ∀ w ∈ fx_ws, w.before ([.ref (ad 0), .int a0, .int a1, .ref (ad 115)] : List Value).toArray s = true := fun w hw => atoms_spec (ws := fw_l yL_check cL_check 5 [(0, 10, 13, 13), (0, 10, 17, 21)]) B.pre w (List.mem_cons_of_mem _ hw)
  have htab : c.exceptionTable.toList = tableOf [(0, 10, 13, 13), (0, 10, 17, 21)] := vx_table (x := yL_rate) B (atoms_spec (ws := fw_l yL_check cL_check 5 [(0, 10, 13, 13), (0, 10, 17, 21)]) B.pre _ List.mem_cons_self)
  have K : w_K p l s m ([.ref (ad 0), .int a0, .int a1, .ref (ad 115)] : List Value).toArray c cL_check 5 Z ad := ⟨hx, hb, hml, hown, hT, hE, hSt, hinj⟩
  have hS : va_S (fx_A 116 ad s.heap.size) s.heap s.heap [] := va_S.rf
  have hl := lv_entry ([.ref (ad 0), .int a0, .int a1, .ref (ad 115)]) (n := 5) (Nat.le_of_ble_eq_true rfl)
  rw [lg_entry_eq]
  generalize (lg_sl ([.ref (ad 0), .int a0, .int a1, .ref (ad 115)]) ++ List.replicate (5 - (lg_sl ([.ref (ad 0), .int a0, .int a1, .ref (ad 115)])).length) Slot.unset).toArray = ls at hl ⊢
  have hl : lv_has ls 5 [(0, .ref (ad 0)), (1, .int a0), (2, .int a1), (3, .ref (ad 115))] := hl
  refine lv_aload_n hx hb dL_check_0 rfl (lv_at hl 3 rfl) ?_
  refine lv_iconst (v := 0) hx hb dL_check_1 (by decide) ?_
  refine lv_aload_n hx hb dL_check_2 rfl (lv_at hl 0 rfl) ?_
  refine lv_iload_n hx hb dL_check_3 rfl (lv_at hl 1 rfl) ?_
  refine lv_iload_n hx hb dL_check_4 rfl (lv_at hl 2 rfl) ?_
  have hpass : ∀ z ∈ ([⟨0, 10, 13, 13⟩] : List ExceptionTableEntry), covers z 5 = false ∨ (z.catchType ≠ 0 ∧ ∃ nm : String, (Cond.classLink RL z.catchType nm).before ([.ref (ad 0), .int a0, .int a1, .ref (ad 115)] : List Value).toArray s = true ∧ va_Nc "java/lang/IllegalStateException" nm s) := by
    intro z hz
    simp only [List.mem_cons, List.not_mem_nil, or_false] at hz
    rcases hz with rfl
    · exact Or.inr ⟨by decide, "java/lang/IndexOutOfBoundsException", hT _ (fx_w 169 (by decide +kernel) rfl), hE.2.2.2.2.1⟩
  refine w_x (rest := [.int 0, .ref (ad 115)]) K hP hS hC ok_L_42 rfl ⟨by show fr + 1 ≤ 12; omega, by show 8 + (4 + 11) + lo ≤ 476; omega⟩ rfl hl.1 (Nat.le_of_ble_eq_true rfl) ⟨by show 0 + mc ≤ 2; omega, by show 0 + ms ≤ 20; omega⟩ dL_check_5 [⟨0, 10, 13, 13⟩] ⟨0, 10, 17, 21⟩ [] htab hpass (by decide) (by decide) (hT _ (fx_w 266 (by decide +kernel) rfl)) (List.mem_of_getElem? (i := 2) rfl) (fun q9 H locs hP hS => ?_)
  refine lv_astore (lv' := [(4, .ref q9), (0, .ref (ad 0)), (1, .int a0), (2, .int a1), (3, .ref (ad 115))]) hx hb dL_check_17 hl (by decide) rfl (fun ls hl => ?_)
  refine lv_iconst (v := 2) hx hb dL_check_19 (by decide) ?_
  exact fj_reti (N := 116) (ad := ad) (u := (g, o)) hx hb hr hlocks rfl hP hS (by show 0 + mc ≤ 2; omega) (by show 0 + ms ≤ 20; omega) dL_check_20 ⟨rfl, rfl⟩

set_option maxHeartbeats 4000000 in
set_option maxRecDepth 100000 in
theorem w_L_comeBack_ok (l : Launch) (Z : fx_Z) (ad : Nat → Nat) (hinj : fx_inj 116 ad) (g G : St) (o : Int64) (a0 : Int32) (r : Int32) {fr lo mc ms : Nat} (hC : fx_C l Z yX3_comeBack cX3_comeBack 3 (some .int) fr lo mc ms 115 ad (cF ad Z.2.1) g [.ref (ad 0), .int a0] (pI r G) (fun _ => False)) (hR : fr ≤ 11 ∧ lo ≤ 440 ∧ mc ≤ 2 ∧ ms ≤ 20) : fw_C l Z yL_comeBack cL_comeBack 4 [(0, 9, 12, 13), (0, 9, 15, 21)] ad (g, o) [.ref (ad 0), .int a0, .ref (ad 115)] 0 (G, r.toInt64) := by
  intro sz
  refine va_MetW (cc := cL_comeBack) (maxL := 4) (ret := some .int) (hh := [(0, 9, 12, 13), (0, 9, 15, 21)]) (by decide) rfl ?_
  intro p e s m args below meth c s₁ B hml hv
  obtain ⟨rfl, hsz, hP, hE, hSt⟩ := hv
  subst hsz
  have hx := B.exec
  have hb := B.bytes
  have hr := B.returns
  have hown : s.vm.findClass RL = some m.cls := findClass_of_methodNamed B.named
  have hlocks := B.notSynchronized
  have hT : ∀ w ∈ fx_ws, w.before ([.ref (ad 0), .int a0, .ref (ad 115)] : List Value).toArray s = true := fun w hw => atoms_spec (ws := fw_l yL_comeBack cL_comeBack 4 [(0, 9, 12, 13), (0, 9, 15, 21)]) B.pre w (List.mem_cons_of_mem _ hw)
  have htab : c.exceptionTable.toList = tableOf [(0, 9, 12, 13), (0, 9, 15, 21)] := vx_table (x := yL_rate) B (atoms_spec (ws := fw_l yL_comeBack cL_comeBack 4 [(0, 9, 12, 13), (0, 9, 15, 21)]) B.pre _ List.mem_cons_self)
  have K : w_K p l s m ([.ref (ad 0), .int a0, .ref (ad 115)] : List Value).toArray c cL_comeBack 4 Z ad := ⟨hx, hb, hml, hown, hT, hE, hSt, hinj⟩
  have hS : va_S (fx_A 116 ad s.heap.size) s.heap s.heap [] := va_S.rf
  have hl := lv_entry ([.ref (ad 0), .int a0, .ref (ad 115)]) (n := 4) (Nat.le_of_ble_eq_true rfl)
  rw [lg_entry_eq]
  generalize (lg_sl ([.ref (ad 0), .int a0, .ref (ad 115)]) ++ List.replicate (4 - (lg_sl ([.ref (ad 0), .int a0, .ref (ad 115)])).length) Slot.unset).toArray = ls at hl ⊢
  have hl : lv_has ls 4 [(0, .ref (ad 0)), (1, .int a0), (2, .ref (ad 115))] := hl
  refine lv_aload_n hx hb dL_comeBack_0 rfl (lv_at hl 2 rfl) ?_
  refine lv_iconst (v := 0) hx hb dL_comeBack_1 (by decide) ?_
  refine lv_aload_n hx hb dL_comeBack_2 rfl (lv_at hl 0 rfl) ?_
  refine lv_iload_n hx hb dL_comeBack_3 rfl (lv_at hl 1 rfl) ?_
  refine w_ok (rest := [.int 0, .ref (ad 115)]) K hP hS hC ok_L_46 rfl ⟨by show fr + 1 ≤ 12; omega, by show 8 + (3 + 11) + lo ≤ 476; omega⟩ rfl hl.1 (Nat.le_of_ble_eq_true rfl) ⟨by show 0 + mc ≤ 2; omega, by show 0 + ms ≤ 20; omega⟩ dL_comeBack_4 (fun H locs hP hS => ?_)
  refine lv_i2l hx hb dL_comeBack_7 rfl ?_
  refine w_out (rest := []) K hP hS dL_comeBack_8 (fun H locs hP hS => ?_)
  refine lv_goto (tgt := 18) hx hb dL_comeBack_9 (by decide) ?_
  refine lv_iconst (v := 0) hx hb dL_comeBack_18 (by decide) ?_
  exact fj_reti (N := 116) (ad := ad) (u := (G, r.toInt64)) hx hb hr hlocks rfl hP hS (by show 0 + mc ≤ 2; omega) (by show 0 + ms ≤ 20; omega) dL_comeBack_19 ⟨rfl, rfl⟩

set_option maxHeartbeats 4000000 in
set_option maxRecDepth 100000 in
theorem w_L_comeBack_IOOBE (l : Launch) (Z : fx_Z) (ad : Nat → Nat) (hinj : fx_inj 116 ad) (g : St) (o : Int64) (a0 : Int32) {fr lo mc ms : Nat} (hC : fx_C l Z yX3_comeBack cX3_comeBack 3 (some .int) fr lo mc ms 115 ad (cF ad Z.2.1) g [.ref (ad 0), .int a0] (fun _ _ => False) (fun E9 => E9 = "java/lang/IndexOutOfBoundsException")) (hR : fr ≤ 11 ∧ lo ≤ 440 ∧ mc ≤ 2 ∧ ms ≤ 20) : fw_C l Z yL_comeBack cL_comeBack 4 [(0, 9, 12, 13), (0, 9, 15, 21)] ad (g, o) [.ref (ad 0), .int a0, .ref (ad 115)] 1 (g, o) := by
  intro sz
  refine va_MetW (cc := cL_comeBack) (maxL := 4) (ret := some .int) (hh := [(0, 9, 12, 13), (0, 9, 15, 21)]) (by decide) rfl ?_
  intro p e s m args below meth c s₁ B hml hv
  obtain ⟨rfl, hsz, hP, hE, hSt⟩ := hv
  subst hsz
  have hx := B.exec
  have hb := B.bytes
  have hr := B.returns
  have hown : s.vm.findClass RL = some m.cls := findClass_of_methodNamed B.named
  have hlocks := B.notSynchronized
  have hT : ∀ w ∈ fx_ws, w.before ([.ref (ad 0), .int a0, .ref (ad 115)] : List Value).toArray s = true := fun w hw => atoms_spec (ws := fw_l yL_comeBack cL_comeBack 4 [(0, 9, 12, 13), (0, 9, 15, 21)]) B.pre w (List.mem_cons_of_mem _ hw)
  have htab : c.exceptionTable.toList = tableOf [(0, 9, 12, 13), (0, 9, 15, 21)] := vx_table (x := yL_rate) B (atoms_spec (ws := fw_l yL_comeBack cL_comeBack 4 [(0, 9, 12, 13), (0, 9, 15, 21)]) B.pre _ List.mem_cons_self)
  have K : w_K p l s m ([.ref (ad 0), .int a0, .ref (ad 115)] : List Value).toArray c cL_comeBack 4 Z ad := ⟨hx, hb, hml, hown, hT, hE, hSt, hinj⟩
  have hS : va_S (fx_A 116 ad s.heap.size) s.heap s.heap [] := va_S.rf
  have hl := lv_entry ([.ref (ad 0), .int a0, .ref (ad 115)]) (n := 4) (Nat.le_of_ble_eq_true rfl)
  rw [lg_entry_eq]
  generalize (lg_sl ([.ref (ad 0), .int a0, .ref (ad 115)]) ++ List.replicate (4 - (lg_sl ([.ref (ad 0), .int a0, .ref (ad 115)])).length) Slot.unset).toArray = ls at hl ⊢
  have hl : lv_has ls 4 [(0, .ref (ad 0)), (1, .int a0), (2, .ref (ad 115))] := hl
  refine lv_aload_n hx hb dL_comeBack_0 rfl (lv_at hl 2 rfl) ?_
  refine lv_iconst (v := 0) hx hb dL_comeBack_1 (by decide) ?_
  refine lv_aload_n hx hb dL_comeBack_2 rfl (lv_at hl 0 rfl) ?_
  refine lv_iload_n hx hb dL_comeBack_3 rfl (lv_at hl 1 rfl) ?_
  refine w_x (rest := [.int 0, .ref (ad 115)]) K hP hS hC ok_L_46 rfl ⟨by show fr + 1 ≤ 12; omega, by show 8 + (3 + 11) + lo ≤ 476; omega⟩ rfl hl.1 (Nat.le_of_ble_eq_true rfl) ⟨by show 0 + mc ≤ 2; omega, by show 0 + ms ≤ 20; omega⟩ dL_comeBack_4 [] ⟨0, 9, 12, 13⟩ [⟨0, 9, 15, 21⟩] htab (fun z hz => absurd hz (List.not_mem_nil)) (by decide) (by decide) (hT _ (fx_w 169 (by decide +kernel) rfl)) (List.mem_of_getElem? (i := 0) rfl) (fun q9 H locs hP hS => ?_)
  refine lv_astore_n (lv' := [(3, .ref q9), (0, .ref (ad 0)), (1, .int a0), (2, .ref (ad 115))]) hx hb dL_comeBack_12 rfl hl (by decide) rfl (fun ls hl => ?_)
  refine lv_iconst (v := 1) hx hb dL_comeBack_13 (by decide) ?_
  exact fj_reti (N := 116) (ad := ad) (u := (g, o)) hx hb hr hlocks rfl hP hS (by show 0 + mc ≤ 2; omega) (by show 0 + ms ≤ 20; omega) dL_comeBack_14 ⟨rfl, rfl⟩

set_option maxHeartbeats 4000000 in
set_option maxRecDepth 100000 in
theorem w_L_comeBack_ISE (l : Launch) (Z : fx_Z) (ad : Nat → Nat) (hinj : fx_inj 116 ad) (g : St) (o : Int64) (a0 : Int32) {fr lo mc ms : Nat} (hC : fx_C l Z yX3_comeBack cX3_comeBack 3 (some .int) fr lo mc ms 115 ad (cF ad Z.2.1) g [.ref (ad 0), .int a0] (fun _ _ => False) (fun E9 => E9 = "java/lang/IllegalStateException")) (hR : fr ≤ 11 ∧ lo ≤ 440 ∧ mc ≤ 2 ∧ ms ≤ 20) : fw_C l Z yL_comeBack cL_comeBack 4 [(0, 9, 12, 13), (0, 9, 15, 21)] ad (g, o) [.ref (ad 0), .int a0, .ref (ad 115)] 2 (g, o) := by
  intro sz
  refine va_MetW (cc := cL_comeBack) (maxL := 4) (ret := some .int) (hh := [(0, 9, 12, 13), (0, 9, 15, 21)]) (by decide) rfl ?_
  intro p e s m args below meth c s₁ B hml hv
  obtain ⟨rfl, hsz, hP, hE, hSt⟩ := hv
  subst hsz
  have hx := B.exec
  have hb := B.bytes
  have hr := B.returns
  have hown : s.vm.findClass RL = some m.cls := findClass_of_methodNamed B.named
  have hlocks := B.notSynchronized
  have hT : ∀ w ∈ fx_ws, w.before ([.ref (ad 0), .int a0, .ref (ad 115)] : List Value).toArray s = true := fun w hw => atoms_spec (ws := fw_l yL_comeBack cL_comeBack 4 [(0, 9, 12, 13), (0, 9, 15, 21)]) B.pre w (List.mem_cons_of_mem _ hw)
  have htab : c.exceptionTable.toList = tableOf [(0, 9, 12, 13), (0, 9, 15, 21)] := vx_table (x := yL_rate) B (atoms_spec (ws := fw_l yL_comeBack cL_comeBack 4 [(0, 9, 12, 13), (0, 9, 15, 21)]) B.pre _ List.mem_cons_self)
  have K : w_K p l s m ([.ref (ad 0), .int a0, .ref (ad 115)] : List Value).toArray c cL_comeBack 4 Z ad := ⟨hx, hb, hml, hown, hT, hE, hSt, hinj⟩
  have hS : va_S (fx_A 116 ad s.heap.size) s.heap s.heap [] := va_S.rf
  have hl := lv_entry ([.ref (ad 0), .int a0, .ref (ad 115)]) (n := 4) (Nat.le_of_ble_eq_true rfl)
  rw [lg_entry_eq]
  generalize (lg_sl ([.ref (ad 0), .int a0, .ref (ad 115)]) ++ List.replicate (4 - (lg_sl ([.ref (ad 0), .int a0, .ref (ad 115)])).length) Slot.unset).toArray = ls at hl ⊢
  have hl : lv_has ls 4 [(0, .ref (ad 0)), (1, .int a0), (2, .ref (ad 115))] := hl
  refine lv_aload_n hx hb dL_comeBack_0 rfl (lv_at hl 2 rfl) ?_
  refine lv_iconst (v := 0) hx hb dL_comeBack_1 (by decide) ?_
  refine lv_aload_n hx hb dL_comeBack_2 rfl (lv_at hl 0 rfl) ?_
  refine lv_iload_n hx hb dL_comeBack_3 rfl (lv_at hl 1 rfl) ?_
  have hpass : ∀ z ∈ ([⟨0, 9, 12, 13⟩] : List ExceptionTableEntry), covers z 4 = false ∨ (z.catchType ≠ 0 ∧ ∃ nm : String, (Cond.classLink RL z.catchType nm).before ([.ref (ad 0), .int a0, .ref (ad 115)] : List Value).toArray s = true ∧ va_Nc "java/lang/IllegalStateException" nm s) := by
    intro z hz
    simp only [List.mem_cons, List.not_mem_nil, or_false] at hz
    rcases hz with rfl
    · exact Or.inr ⟨by decide, "java/lang/IndexOutOfBoundsException", hT _ (fx_w 169 (by decide +kernel) rfl), hE.2.2.2.2.1⟩
  refine w_x (rest := [.int 0, .ref (ad 115)]) K hP hS hC ok_L_46 rfl ⟨by show fr + 1 ≤ 12; omega, by show 8 + (3 + 11) + lo ≤ 476; omega⟩ rfl hl.1 (Nat.le_of_ble_eq_true rfl) ⟨by show 0 + mc ≤ 2; omega, by show 0 + ms ≤ 20; omega⟩ dL_comeBack_4 [⟨0, 9, 12, 13⟩] ⟨0, 9, 15, 21⟩ [] htab hpass (by decide) (by decide) (hT _ (fx_w 266 (by decide +kernel) rfl)) (List.mem_of_getElem? (i := 2) rfl) (fun q9 H locs hP hS => ?_)
  refine lv_astore_n (lv' := [(3, .ref q9), (0, .ref (ad 0)), (1, .int a0), (2, .ref (ad 115))]) hx hb dL_comeBack_15 rfl hl (by decide) rfl (fun ls hl => ?_)
  refine lv_iconst (v := 2) hx hb dL_comeBack_16 (by decide) ?_
  exact fj_reti (N := 116) (ad := ad) (u := (g, o)) hx hb hr hlocks rfl hP hS (by show 0 + mc ≤ 2; omega) (by show 0 + ms ≤ 20; omega) dL_comeBack_17 ⟨rfl, rfl⟩

set_option maxHeartbeats 4000000 in
set_option maxRecDepth 100000 in
theorem w_L_pass_ok (l : Launch) (Z : fx_Z) (ad : Nat → Nat) (hinj : fx_inj 116 ad) (g G : St) (o : Int64) (a0 : Int32) (r : Int32) {fr lo mc ms : Nat} (hC : fx_C l Z yX3_pass cX3_pass 3 (some .int) fr lo mc ms 115 ad (cF ad Z.2.1) g [.ref (ad 0), .int a0] (pI r G) (fun _ => False)) (hR : fr ≤ 11 ∧ lo ≤ 440 ∧ mc ≤ 2 ∧ ms ≤ 20) : fw_C l Z yL_pass cL_pass 4 [(0, 9, 12, 15), (0, 9, 15, 21)] ad (g, o) [.ref (ad 0), .int a0, .ref (ad 115)] 0 (G, r.toInt64) := by
  intro sz
  refine va_MetW (cc := cL_pass) (maxL := 4) (ret := some .int) (hh := [(0, 9, 12, 15), (0, 9, 15, 21)]) (by decide) rfl ?_
  intro p e s m args below meth c s₁ B hml hv
  obtain ⟨rfl, hsz, hP, hE, hSt⟩ := hv
  subst hsz
  have hx := B.exec
  have hb := B.bytes
  have hr := B.returns
  have hown : s.vm.findClass RL = some m.cls := findClass_of_methodNamed B.named
  have hlocks := B.notSynchronized
  have hT : ∀ w ∈ fx_ws, w.before ([.ref (ad 0), .int a0, .ref (ad 115)] : List Value).toArray s = true := fun w hw => atoms_spec (ws := fw_l yL_pass cL_pass 4 [(0, 9, 12, 15), (0, 9, 15, 21)]) B.pre w (List.mem_cons_of_mem _ hw)
  have htab : c.exceptionTable.toList = tableOf [(0, 9, 12, 15), (0, 9, 15, 21)] := vx_table (x := yL_rate) B (atoms_spec (ws := fw_l yL_pass cL_pass 4 [(0, 9, 12, 15), (0, 9, 15, 21)]) B.pre _ List.mem_cons_self)
  have K : w_K p l s m ([.ref (ad 0), .int a0, .ref (ad 115)] : List Value).toArray c cL_pass 4 Z ad := ⟨hx, hb, hml, hown, hT, hE, hSt, hinj⟩
  have hS : va_S (fx_A 116 ad s.heap.size) s.heap s.heap [] := va_S.rf
  have hl := lv_entry ([.ref (ad 0), .int a0, .ref (ad 115)]) (n := 4) (Nat.le_of_ble_eq_true rfl)
  rw [lg_entry_eq]
  generalize (lg_sl ([.ref (ad 0), .int a0, .ref (ad 115)]) ++ List.replicate (4 - (lg_sl ([.ref (ad 0), .int a0, .ref (ad 115)])).length) Slot.unset).toArray = ls at hl ⊢
  have hl : lv_has ls 4 [(0, .ref (ad 0)), (1, .int a0), (2, .ref (ad 115))] := hl
  refine lv_aload_n hx hb dL_pass_0 rfl (lv_at hl 2 rfl) ?_
  refine lv_iconst (v := 0) hx hb dL_pass_1 (by decide) ?_
  refine lv_aload_n hx hb dL_pass_2 rfl (lv_at hl 0 rfl) ?_
  refine lv_iload_n hx hb dL_pass_3 rfl (lv_at hl 1 rfl) ?_
  refine w_ok (rest := [.int 0, .ref (ad 115)]) K hP hS hC ok_L_49 rfl ⟨by show fr + 1 ≤ 12; omega, by show 8 + (3 + 11) + lo ≤ 476; omega⟩ rfl hl.1 (Nat.le_of_ble_eq_true rfl) ⟨by show 0 + mc ≤ 2; omega, by show 0 + ms ≤ 20; omega⟩ dL_pass_4 (fun H locs hP hS => ?_)
  refine lv_i2l hx hb dL_pass_7 rfl ?_
  refine w_out (rest := []) K hP hS dL_pass_8 (fun H locs hP hS => ?_)
  refine lv_goto (tgt := 18) hx hb dL_pass_9 (by decide) ?_
  refine lv_iconst (v := 0) hx hb dL_pass_18 (by decide) ?_
  exact fj_reti (N := 116) (ad := ad) (u := (G, r.toInt64)) hx hb hr hlocks rfl hP hS (by show 0 + mc ≤ 2; omega) (by show 0 + ms ≤ 20; omega) dL_pass_19 ⟨rfl, rfl⟩

set_option maxHeartbeats 4000000 in
set_option maxRecDepth 100000 in
theorem w_L_pass_IAE (l : Launch) (Z : fx_Z) (ad : Nat → Nat) (hinj : fx_inj 116 ad) (g : St) (o : Int64) (a0 : Int32) {fr lo mc ms : Nat} (hC : fx_C l Z yX3_pass cX3_pass 3 (some .int) fr lo mc ms 115 ad (cF ad Z.2.1) g [.ref (ad 0), .int a0] (fun _ _ => False) (fun E9 => E9 = "java/lang/IllegalArgumentException")) (hR : fr ≤ 11 ∧ lo ≤ 440 ∧ mc ≤ 2 ∧ ms ≤ 20) : fw_C l Z yL_pass cL_pass 4 [(0, 9, 12, 15), (0, 9, 15, 21)] ad (g, o) [.ref (ad 0), .int a0, .ref (ad 115)] 1 (g, o) := by
  intro sz
  refine va_MetW (cc := cL_pass) (maxL := 4) (ret := some .int) (hh := [(0, 9, 12, 15), (0, 9, 15, 21)]) (by decide) rfl ?_
  intro p e s m args below meth c s₁ B hml hv
  obtain ⟨rfl, hsz, hP, hE, hSt⟩ := hv
  subst hsz
  have hx := B.exec
  have hb := B.bytes
  have hr := B.returns
  have hown : s.vm.findClass RL = some m.cls := findClass_of_methodNamed B.named
  have hlocks := B.notSynchronized
  have hT : ∀ w ∈ fx_ws, w.before ([.ref (ad 0), .int a0, .ref (ad 115)] : List Value).toArray s = true := fun w hw => atoms_spec (ws := fw_l yL_pass cL_pass 4 [(0, 9, 12, 15), (0, 9, 15, 21)]) B.pre w (List.mem_cons_of_mem _ hw)
  have htab : c.exceptionTable.toList = tableOf [(0, 9, 12, 15), (0, 9, 15, 21)] := vx_table (x := yL_rate) B (atoms_spec (ws := fw_l yL_pass cL_pass 4 [(0, 9, 12, 15), (0, 9, 15, 21)]) B.pre _ List.mem_cons_self)
  have K : w_K p l s m ([.ref (ad 0), .int a0, .ref (ad 115)] : List Value).toArray c cL_pass 4 Z ad := ⟨hx, hb, hml, hown, hT, hE, hSt, hinj⟩
  have hS : va_S (fx_A 116 ad s.heap.size) s.heap s.heap [] := va_S.rf
  have hl := lv_entry ([.ref (ad 0), .int a0, .ref (ad 115)]) (n := 4) (Nat.le_of_ble_eq_true rfl)
  rw [lg_entry_eq]
  generalize (lg_sl ([.ref (ad 0), .int a0, .ref (ad 115)]) ++ List.replicate (4 - (lg_sl ([.ref (ad 0), .int a0, .ref (ad 115)])).length) Slot.unset).toArray = ls at hl ⊢
  have hl : lv_has ls 4 [(0, .ref (ad 0)), (1, .int a0), (2, .ref (ad 115))] := hl
  refine lv_aload_n hx hb dL_pass_0 rfl (lv_at hl 2 rfl) ?_
  refine lv_iconst (v := 0) hx hb dL_pass_1 (by decide) ?_
  refine lv_aload_n hx hb dL_pass_2 rfl (lv_at hl 0 rfl) ?_
  refine lv_iload_n hx hb dL_pass_3 rfl (lv_at hl 1 rfl) ?_
  refine w_x (rest := [.int 0, .ref (ad 115)]) K hP hS hC ok_L_49 rfl ⟨by show fr + 1 ≤ 12; omega, by show 8 + (3 + 11) + lo ≤ 476; omega⟩ rfl hl.1 (Nat.le_of_ble_eq_true rfl) ⟨by show 0 + mc ≤ 2; omega, by show 0 + ms ≤ 20; omega⟩ dL_pass_4 [] ⟨0, 9, 12, 15⟩ [⟨0, 9, 15, 21⟩] htab (fun z hz => absurd hz (List.not_mem_nil)) (by decide) (by decide) (hT _ (fx_w 170 (by decide +kernel) rfl)) (List.mem_of_getElem? (i := 1) rfl) (fun q9 H locs hP hS => ?_)
  refine lv_astore_n (lv' := [(3, .ref q9), (0, .ref (ad 0)), (1, .int a0), (2, .ref (ad 115))]) hx hb dL_pass_12 rfl hl (by decide) rfl (fun ls hl => ?_)
  refine lv_iconst (v := 1) hx hb dL_pass_13 (by decide) ?_
  exact fj_reti (N := 116) (ad := ad) (u := (g, o)) hx hb hr hlocks rfl hP hS (by show 0 + mc ≤ 2; omega) (by show 0 + ms ≤ 20; omega) dL_pass_14 ⟨rfl, rfl⟩

set_option maxHeartbeats 4000000 in
set_option maxRecDepth 100000 in
theorem w_L_pass_ISE (l : Launch) (Z : fx_Z) (ad : Nat → Nat) (hinj : fx_inj 116 ad) (g : St) (o : Int64) (a0 : Int32) {fr lo mc ms : Nat} (hC : fx_C l Z yX3_pass cX3_pass 3 (some .int) fr lo mc ms 115 ad (cF ad Z.2.1) g [.ref (ad 0), .int a0] (fun _ _ => False) (fun E9 => E9 = "java/lang/IllegalStateException")) (hR : fr ≤ 11 ∧ lo ≤ 440 ∧ mc ≤ 2 ∧ ms ≤ 20) : fw_C l Z yL_pass cL_pass 4 [(0, 9, 12, 15), (0, 9, 15, 21)] ad (g, o) [.ref (ad 0), .int a0, .ref (ad 115)] 2 (g, o) := by
  intro sz
  refine va_MetW (cc := cL_pass) (maxL := 4) (ret := some .int) (hh := [(0, 9, 12, 15), (0, 9, 15, 21)]) (by decide) rfl ?_
  intro p e s m args below meth c s₁ B hml hv
  obtain ⟨rfl, hsz, hP, hE, hSt⟩ := hv
  subst hsz
  have hx := B.exec
  have hb := B.bytes
  have hr := B.returns
  have hown : s.vm.findClass RL = some m.cls := findClass_of_methodNamed B.named
  have hlocks := B.notSynchronized
  have hT : ∀ w ∈ fx_ws, w.before ([.ref (ad 0), .int a0, .ref (ad 115)] : List Value).toArray s = true := fun w hw => atoms_spec (ws := fw_l yL_pass cL_pass 4 [(0, 9, 12, 15), (0, 9, 15, 21)]) B.pre w (List.mem_cons_of_mem _ hw)
  have htab : c.exceptionTable.toList = tableOf [(0, 9, 12, 15), (0, 9, 15, 21)] := vx_table (x := yL_rate) B (atoms_spec (ws := fw_l yL_pass cL_pass 4 [(0, 9, 12, 15), (0, 9, 15, 21)]) B.pre _ List.mem_cons_self)
  have K : w_K p l s m ([.ref (ad 0), .int a0, .ref (ad 115)] : List Value).toArray c cL_pass 4 Z ad := ⟨hx, hb, hml, hown, hT, hE, hSt, hinj⟩
  have hS : va_S (fx_A 116 ad s.heap.size) s.heap s.heap [] := va_S.rf
  have hl := lv_entry ([.ref (ad 0), .int a0, .ref (ad 115)]) (n := 4) (Nat.le_of_ble_eq_true rfl)
  rw [lg_entry_eq]
  generalize (lg_sl ([.ref (ad 0), .int a0, .ref (ad 115)]) ++ List.replicate (4 - (lg_sl ([.ref (ad 0), .int a0, .ref (ad 115)])).length) Slot.unset).toArray = ls at hl ⊢
  have hl : lv_has ls 4 [(0, .ref (ad 0)), (1, .int a0), (2, .ref (ad 115))] := hl
  refine lv_aload_n hx hb dL_pass_0 rfl (lv_at hl 2 rfl) ?_
  refine lv_iconst (v := 0) hx hb dL_pass_1 (by decide) ?_
  refine lv_aload_n hx hb dL_pass_2 rfl (lv_at hl 0 rfl) ?_
  refine lv_iload_n hx hb dL_pass_3 rfl (lv_at hl 1 rfl) ?_
  have hpass : ∀ z ∈ ([⟨0, 9, 12, 15⟩] : List ExceptionTableEntry), covers z 4 = false ∨ (z.catchType ≠ 0 ∧ ∃ nm : String, (Cond.classLink RL z.catchType nm).before ([.ref (ad 0), .int a0, .ref (ad 115)] : List Value).toArray s = true ∧ va_Nc "java/lang/IllegalStateException" nm s) := by
    intro z hz
    simp only [List.mem_cons, List.not_mem_nil, or_false] at hz
    rcases hz with rfl
    · exact Or.inr ⟨by decide, "java/lang/IllegalArgumentException", hT _ (fx_w 170 (by decide +kernel) rfl), hE.2.2.2.2.2⟩
  refine w_x (rest := [.int 0, .ref (ad 115)]) K hP hS hC ok_L_49 rfl ⟨by show fr + 1 ≤ 12; omega, by show 8 + (3 + 11) + lo ≤ 476; omega⟩ rfl hl.1 (Nat.le_of_ble_eq_true rfl) ⟨by show 0 + mc ≤ 2; omega, by show 0 + ms ≤ 20; omega⟩ dL_pass_4 [⟨0, 9, 12, 15⟩] ⟨0, 9, 15, 21⟩ [] htab hpass (by decide) (by decide) (hT _ (fx_w 266 (by decide +kernel) rfl)) (List.mem_of_getElem? (i := 2) rfl) (fun q9 H locs hP hS => ?_)
  refine lv_astore_n (lv' := [(3, .ref q9), (0, .ref (ad 0)), (1, .int a0), (2, .ref (ad 115))]) hx hb dL_pass_15 rfl hl (by decide) rfl (fun ls hl => ?_)
  refine lv_iconst (v := 2) hx hb dL_pass_16 (by decide) ?_
  exact fj_reti (N := 116) (ad := ad) (u := (g, o)) hx hb hr hlocks rfl hP hS (by show 0 + mc ≤ 2; omega) (by show 0 + ms ≤ 20; omega) dL_pass_17 ⟨rfl, rfl⟩

set_option maxHeartbeats 4000000 in
set_option maxRecDepth 100000 in
theorem w_L_ofReceipt_ok (l : Launch) (Z : fx_Z) (ad : Nat → Nat) (hinj : fx_inj 116 ad) (g G : St) (o : Int64) (a0 : Int32) (a1 : Int32) (r : Int32) {fr lo mc ms : Nat} (hC : fx_C l Z yX3_ofReceipt cX3_ofReceipt 4 (some .int) fr lo mc ms 115 ad (cF ad Z.2.1) g [.ref (ad 0), .int a0, .int a1] (pI r G) (fun _ => False)) (hR : fr ≤ 11 ∧ lo ≤ 440 ∧ mc ≤ 2 ∧ ms ≤ 20) : fw_C l Z yL_ofReceipt cL_ofReceipt 5 [(0, 10, 13, 13), (0, 10, 17, 15)] ad (g, o) [.ref (ad 0), .int a0, .int a1, .ref (ad 115)] 0 (G, r.toInt64) := by
  intro sz
  refine va_MetW (cc := cL_ofReceipt) (maxL := 5) (ret := some .int) (hh := [(0, 10, 13, 13), (0, 10, 17, 15)]) (by decide) rfl ?_
  intro p e s m args below meth c s₁ B hml hv
  obtain ⟨rfl, hsz, hP, hE, hSt⟩ := hv
  subst hsz
  have hx := B.exec
  have hb := B.bytes
  have hr := B.returns
  have hown : s.vm.findClass RL = some m.cls := findClass_of_methodNamed B.named
  have hlocks := B.notSynchronized
  have hT : ∀ w ∈ fx_ws, w.before ([.ref (ad 0), .int a0, .int a1, .ref (ad 115)] : List Value).toArray s = true := fun w hw => atoms_spec (ws := fw_l yL_ofReceipt cL_ofReceipt 5 [(0, 10, 13, 13), (0, 10, 17, 15)]) B.pre w (List.mem_cons_of_mem _ hw)
  have htab : c.exceptionTable.toList = tableOf [(0, 10, 13, 13), (0, 10, 17, 15)] := vx_table (x := yL_rate) B (atoms_spec (ws := fw_l yL_ofReceipt cL_ofReceipt 5 [(0, 10, 13, 13), (0, 10, 17, 15)]) B.pre _ List.mem_cons_self)
  have K : w_K p l s m ([.ref (ad 0), .int a0, .int a1, .ref (ad 115)] : List Value).toArray c cL_ofReceipt 5 Z ad := ⟨hx, hb, hml, hown, hT, hE, hSt, hinj⟩
  have hS : va_S (fx_A 116 ad s.heap.size) s.heap s.heap [] := va_S.rf
  have hl := lv_entry ([.ref (ad 0), .int a0, .int a1, .ref (ad 115)]) (n := 5) (Nat.le_of_ble_eq_true rfl)
  rw [lg_entry_eq]
  generalize (lg_sl ([.ref (ad 0), .int a0, .int a1, .ref (ad 115)]) ++ List.replicate (5 - (lg_sl ([.ref (ad 0), .int a0, .int a1, .ref (ad 115)])).length) Slot.unset).toArray = ls at hl ⊢
  have hl : lv_has ls 5 [(0, .ref (ad 0)), (1, .int a0), (2, .int a1), (3, .ref (ad 115))] := hl
  refine lv_aload_n hx hb dL_ofReceipt_0 rfl (lv_at hl 3 rfl) ?_
  refine lv_iconst (v := 0) hx hb dL_ofReceipt_1 (by decide) ?_
  refine lv_aload_n hx hb dL_ofReceipt_2 rfl (lv_at hl 0 rfl) ?_
  refine lv_iload_n hx hb dL_ofReceipt_3 rfl (lv_at hl 1 rfl) ?_
  refine lv_iload_n hx hb dL_ofReceipt_4 rfl (lv_at hl 2 rfl) ?_
  refine w_ok (rest := [.int 0, .ref (ad 115)]) K hP hS hC ok_L_52 rfl ⟨by show fr + 1 ≤ 12; omega, by show 8 + (4 + 11) + lo ≤ 476; omega⟩ rfl hl.1 (Nat.le_of_ble_eq_true rfl) ⟨by show 0 + mc ≤ 2; omega, by show 0 + ms ≤ 20; omega⟩ dL_ofReceipt_5 (fun H locs hP hS => ?_)
  refine lv_i2l hx hb dL_ofReceipt_8 rfl ?_
  refine w_out (rest := []) K hP hS dL_ofReceipt_9 (fun H locs hP hS => ?_)
  refine lv_goto (tgt := 21) hx hb dL_ofReceipt_10 (by decide) ?_
  refine lv_iconst (v := 0) hx hb dL_ofReceipt_21 (by decide) ?_
  exact fj_reti (N := 116) (ad := ad) (u := (G, r.toInt64)) hx hb hr hlocks rfl hP hS (by show 0 + mc ≤ 2; omega) (by show 0 + ms ≤ 20; omega) dL_ofReceipt_22 ⟨rfl, rfl⟩

set_option maxHeartbeats 4000000 in
set_option maxRecDepth 100000 in
theorem w_L_ofReceipt_IOOBE (l : Launch) (Z : fx_Z) (ad : Nat → Nat) (hinj : fx_inj 116 ad) (g : St) (o : Int64) (a0 : Int32) (a1 : Int32) {fr lo mc ms : Nat} (hC : fx_C l Z yX3_ofReceipt cX3_ofReceipt 4 (some .int) fr lo mc ms 115 ad (cF ad Z.2.1) g [.ref (ad 0), .int a0, .int a1] (fun _ _ => False) (fun E9 => E9 = "java/lang/IndexOutOfBoundsException")) (hR : fr ≤ 11 ∧ lo ≤ 440 ∧ mc ≤ 2 ∧ ms ≤ 20) : fw_C l Z yL_ofReceipt cL_ofReceipt 5 [(0, 10, 13, 13), (0, 10, 17, 15)] ad (g, o) [.ref (ad 0), .int a0, .int a1, .ref (ad 115)] 1 (g, o) := by
  intro sz
  refine va_MetW (cc := cL_ofReceipt) (maxL := 5) (ret := some .int) (hh := [(0, 10, 13, 13), (0, 10, 17, 15)]) (by decide) rfl ?_
  intro p e s m args below meth c s₁ B hml hv
  obtain ⟨rfl, hsz, hP, hE, hSt⟩ := hv
  subst hsz
  have hx := B.exec
  have hb := B.bytes
  have hr := B.returns
  have hown : s.vm.findClass RL = some m.cls := findClass_of_methodNamed B.named
  have hlocks := B.notSynchronized
  have hT : ∀ w ∈ fx_ws, w.before ([.ref (ad 0), .int a0, .int a1, .ref (ad 115)] : List Value).toArray s = true := fun w hw => atoms_spec (ws := fw_l yL_ofReceipt cL_ofReceipt 5 [(0, 10, 13, 13), (0, 10, 17, 15)]) B.pre w (List.mem_cons_of_mem _ hw)
  have htab : c.exceptionTable.toList = tableOf [(0, 10, 13, 13), (0, 10, 17, 15)] := vx_table (x := yL_rate) B (atoms_spec (ws := fw_l yL_ofReceipt cL_ofReceipt 5 [(0, 10, 13, 13), (0, 10, 17, 15)]) B.pre _ List.mem_cons_self)
  have K : w_K p l s m ([.ref (ad 0), .int a0, .int a1, .ref (ad 115)] : List Value).toArray c cL_ofReceipt 5 Z ad := ⟨hx, hb, hml, hown, hT, hE, hSt, hinj⟩
  have hS : va_S (fx_A 116 ad s.heap.size) s.heap s.heap [] := va_S.rf
  have hl := lv_entry ([.ref (ad 0), .int a0, .int a1, .ref (ad 115)]) (n := 5) (Nat.le_of_ble_eq_true rfl)
  rw [lg_entry_eq]
  generalize (lg_sl ([.ref (ad 0), .int a0, .int a1, .ref (ad 115)]) ++ List.replicate (5 - (lg_sl ([.ref (ad 0), .int a0, .int a1, .ref (ad 115)])).length) Slot.unset).toArray = ls at hl ⊢
  have hl : lv_has ls 5 [(0, .ref (ad 0)), (1, .int a0), (2, .int a1), (3, .ref (ad 115))] := hl
  refine lv_aload_n hx hb dL_ofReceipt_0 rfl (lv_at hl 3 rfl) ?_
  refine lv_iconst (v := 0) hx hb dL_ofReceipt_1 (by decide) ?_
  refine lv_aload_n hx hb dL_ofReceipt_2 rfl (lv_at hl 0 rfl) ?_
  refine lv_iload_n hx hb dL_ofReceipt_3 rfl (lv_at hl 1 rfl) ?_
  refine lv_iload_n hx hb dL_ofReceipt_4 rfl (lv_at hl 2 rfl) ?_
  refine w_x (rest := [.int 0, .ref (ad 115)]) K hP hS hC ok_L_52 rfl ⟨by show fr + 1 ≤ 12; omega, by show 8 + (4 + 11) + lo ≤ 476; omega⟩ rfl hl.1 (Nat.le_of_ble_eq_true rfl) ⟨by show 0 + mc ≤ 2; omega, by show 0 + ms ≤ 20; omega⟩ dL_ofReceipt_5 [] ⟨0, 10, 13, 13⟩ [⟨0, 10, 17, 15⟩] htab (fun z hz => absurd hz (List.not_mem_nil)) (by decide) (by decide) (hT _ (fx_w 169 (by decide +kernel) rfl)) (List.mem_of_getElem? (i := 0) rfl) (fun q9 H locs hP hS => ?_)
  refine lv_astore (lv' := [(4, .ref q9), (0, .ref (ad 0)), (1, .int a0), (2, .int a1), (3, .ref (ad 115))]) hx hb dL_ofReceipt_13 hl (by decide) rfl (fun ls hl => ?_)
  refine lv_iconst (v := 1) hx hb dL_ofReceipt_15 (by decide) ?_
  exact fj_reti (N := 116) (ad := ad) (u := (g, o)) hx hb hr hlocks rfl hP hS (by show 0 + mc ≤ 2; omega) (by show 0 + ms ≤ 20; omega) dL_ofReceipt_16 ⟨rfl, rfl⟩

set_option maxHeartbeats 4000000 in
set_option maxRecDepth 100000 in
theorem w_L_ofReceipt_IAE (l : Launch) (Z : fx_Z) (ad : Nat → Nat) (hinj : fx_inj 116 ad) (g : St) (o : Int64) (a0 : Int32) (a1 : Int32) {fr lo mc ms : Nat} (hC : fx_C l Z yX3_ofReceipt cX3_ofReceipt 4 (some .int) fr lo mc ms 115 ad (cF ad Z.2.1) g [.ref (ad 0), .int a0, .int a1] (fun _ _ => False) (fun E9 => E9 = "java/lang/IllegalArgumentException")) (hR : fr ≤ 11 ∧ lo ≤ 440 ∧ mc ≤ 2 ∧ ms ≤ 20) : fw_C l Z yL_ofReceipt cL_ofReceipt 5 [(0, 10, 13, 13), (0, 10, 17, 15)] ad (g, o) [.ref (ad 0), .int a0, .int a1, .ref (ad 115)] 2 (g, o) := by
  intro sz
  refine va_MetW (cc := cL_ofReceipt) (maxL := 5) (ret := some .int) (hh := [(0, 10, 13, 13), (0, 10, 17, 15)]) (by decide) rfl ?_
  intro p e s m args below meth c s₁ B hml hv
  obtain ⟨rfl, hsz, hP, hE, hSt⟩ := hv
  subst hsz
  have hx := B.exec
  have hb := B.bytes
  have hr := B.returns
  have hown : s.vm.findClass RL = some m.cls := findClass_of_methodNamed B.named
  have hlocks := B.notSynchronized
  have hT : ∀ w ∈ fx_ws, w.before ([.ref (ad 0), .int a0, .int a1, .ref (ad 115)] : List Value).toArray s = true := fun w hw => atoms_spec (ws := fw_l yL_ofReceipt cL_ofReceipt 5 [(0, 10, 13, 13), (0, 10, 17, 15)]) B.pre w (List.mem_cons_of_mem _ hw)
  have htab : c.exceptionTable.toList = tableOf [(0, 10, 13, 13), (0, 10, 17, 15)] := vx_table (x := yL_rate) B (atoms_spec (ws := fw_l yL_ofReceipt cL_ofReceipt 5 [(0, 10, 13, 13), (0, 10, 17, 15)]) B.pre _ List.mem_cons_self)
  have K : w_K p l s m ([.ref (ad 0), .int a0, .int a1, .ref (ad 115)] : List Value).toArray c cL_ofReceipt 5 Z ad := ⟨hx, hb, hml, hown, hT, hE, hSt, hinj⟩
  have hS : va_S (fx_A 116 ad s.heap.size) s.heap s.heap [] := va_S.rf
  have hl := lv_entry ([.ref (ad 0), .int a0, .int a1, .ref (ad 115)]) (n := 5) (Nat.le_of_ble_eq_true rfl)
  rw [lg_entry_eq]
  generalize (lg_sl ([.ref (ad 0), .int a0, .int a1, .ref (ad 115)]) ++ List.replicate (5 - (lg_sl ([.ref (ad 0), .int a0, .int a1, .ref (ad 115)])).length) Slot.unset).toArray = ls at hl ⊢
  have hl : lv_has ls 5 [(0, .ref (ad 0)), (1, .int a0), (2, .int a1), (3, .ref (ad 115))] := hl
  refine lv_aload_n hx hb dL_ofReceipt_0 rfl (lv_at hl 3 rfl) ?_
  refine lv_iconst (v := 0) hx hb dL_ofReceipt_1 (by decide) ?_
  refine lv_aload_n hx hb dL_ofReceipt_2 rfl (lv_at hl 0 rfl) ?_
  refine lv_iload_n hx hb dL_ofReceipt_3 rfl (lv_at hl 1 rfl) ?_
  refine lv_iload_n hx hb dL_ofReceipt_4 rfl (lv_at hl 2 rfl) ?_
  have hpass : ∀ z ∈ ([⟨0, 10, 13, 13⟩] : List ExceptionTableEntry), covers z 5 = false ∨ (z.catchType ≠ 0 ∧ ∃ nm : String, (Cond.classLink RL z.catchType nm).before ([.ref (ad 0), .int a0, .int a1, .ref (ad 115)] : List Value).toArray s = true ∧ va_Nc "java/lang/IllegalArgumentException" nm s) := by
    intro z hz
    simp only [List.mem_cons, List.not_mem_nil, or_false] at hz
    rcases hz with rfl
    · exact Or.inr ⟨by decide, "java/lang/IndexOutOfBoundsException", hT _ (fx_w 169 (by decide +kernel) rfl), hE.2.2.2.1⟩
  refine w_x (rest := [.int 0, .ref (ad 115)]) K hP hS hC ok_L_52 rfl ⟨by show fr + 1 ≤ 12; omega, by show 8 + (4 + 11) + lo ≤ 476; omega⟩ rfl hl.1 (Nat.le_of_ble_eq_true rfl) ⟨by show 0 + mc ≤ 2; omega, by show 0 + ms ≤ 20; omega⟩ dL_ofReceipt_5 [⟨0, 10, 13, 13⟩] ⟨0, 10, 17, 15⟩ [] htab hpass (by decide) (by decide) (hT _ (fx_w 170 (by decide +kernel) rfl)) (List.mem_of_getElem? (i := 1) rfl) (fun q9 H locs hP hS => ?_)
  refine lv_astore (lv' := [(4, .ref q9), (0, .ref (ad 0)), (1, .int a0), (2, .int a1), (3, .ref (ad 115))]) hx hb dL_ofReceipt_17 hl (by decide) rfl (fun ls hl => ?_)
  refine lv_iconst (v := 2) hx hb dL_ofReceipt_19 (by decide) ?_
  exact fj_reti (N := 116) (ad := ad) (u := (g, o)) hx hb hr hlocks rfl hP hS (by show 0 + mc ≤ 2; omega) (by show 0 + ms ≤ 20; omega) dL_ofReceipt_20 ⟨rfl, rfl⟩

set_option maxHeartbeats 4000000 in
set_option maxRecDepth 100000 in
theorem w_L_code_ok (l : Launch) (Z : fx_Z) (ad : Nat → Nat) (hinj : fx_inj 116 ad) (g G : St) (o : Int64) (a0 : Int32) (a1 : Int32) (r : Int32) {fr lo mc ms : Nat} (hC : fx_C l Z yX3_code cX3_code 5 (some .char) fr lo mc ms 115 ad (cF ad Z.2.1) g [.ref (ad 0), .int a0, .int a1] (pI r G) (fun _ => False)) (hR : fr ≤ 11 ∧ lo ≤ 440 ∧ mc ≤ 2 ∧ ms ≤ 20) : fw_C l Z yL_code cL_code 5 [(0, 10, 13, 13)] ad (g, o) [.ref (ad 0), .int a0, .int a1, .ref (ad 115)] 0 (G, r.toInt64) := by
  intro sz
  refine va_MetW (cc := cL_code) (maxL := 5) (ret := some .int) (hh := [(0, 10, 13, 13)]) (by decide) rfl ?_
  intro p e s m args below meth c s₁ B hml hv
  obtain ⟨rfl, hsz, hP, hE, hSt⟩ := hv
  subst hsz
  have hx := B.exec
  have hb := B.bytes
  have hr := B.returns
  have hown : s.vm.findClass RL = some m.cls := findClass_of_methodNamed B.named
  have hlocks := B.notSynchronized
  have hT : ∀ w ∈ fx_ws, w.before ([.ref (ad 0), .int a0, .int a1, .ref (ad 115)] : List Value).toArray s = true := fun w hw => atoms_spec (ws := fw_l yL_code cL_code 5 [(0, 10, 13, 13)]) B.pre w (List.mem_cons_of_mem _ hw)
  have htab : c.exceptionTable.toList = tableOf [(0, 10, 13, 13)] := vx_table (x := yL_rate) B (atoms_spec (ws := fw_l yL_code cL_code 5 [(0, 10, 13, 13)]) B.pre _ List.mem_cons_self)
  have K : w_K p l s m ([.ref (ad 0), .int a0, .int a1, .ref (ad 115)] : List Value).toArray c cL_code 5 Z ad := ⟨hx, hb, hml, hown, hT, hE, hSt, hinj⟩
  have hS : va_S (fx_A 116 ad s.heap.size) s.heap s.heap [] := va_S.rf
  have hl := lv_entry ([.ref (ad 0), .int a0, .int a1, .ref (ad 115)]) (n := 5) (Nat.le_of_ble_eq_true rfl)
  rw [lg_entry_eq]
  generalize (lg_sl ([.ref (ad 0), .int a0, .int a1, .ref (ad 115)]) ++ List.replicate (5 - (lg_sl ([.ref (ad 0), .int a0, .int a1, .ref (ad 115)])).length) Slot.unset).toArray = ls at hl ⊢
  have hl : lv_has ls 5 [(0, .ref (ad 0)), (1, .int a0), (2, .int a1), (3, .ref (ad 115))] := hl
  refine lv_aload_n hx hb dL_code_0 rfl (lv_at hl 3 rfl) ?_
  refine lv_iconst (v := 0) hx hb dL_code_1 (by decide) ?_
  refine lv_aload_n hx hb dL_code_2 rfl (lv_at hl 0 rfl) ?_
  refine lv_iload_n hx hb dL_code_3 rfl (lv_at hl 1 rfl) ?_
  refine lv_iload_n hx hb dL_code_4 rfl (lv_at hl 2 rfl) ?_
  refine w_ok (rest := [.int 0, .ref (ad 115)]) K hP hS hC ok_L_55 rfl ⟨by show fr + 1 ≤ 12; omega, by show 8 + (5 + 11) + lo ≤ 476; omega⟩ rfl hl.1 (Nat.le_of_ble_eq_true rfl) ⟨by show 0 + mc ≤ 2; omega, by show 0 + ms ≤ 20; omega⟩ dL_code_5 (fun H locs hP hS => ?_)
  refine lv_i2l hx hb dL_code_8 rfl ?_
  refine w_out (rest := []) K hP hS dL_code_9 (fun H locs hP hS => ?_)
  refine lv_goto (tgt := 17) hx hb dL_code_10 (by decide) ?_
  refine lv_iconst (v := 0) hx hb dL_code_17 (by decide) ?_
  exact fj_reti (N := 116) (ad := ad) (u := (G, r.toInt64)) hx hb hr hlocks rfl hP hS (by show 0 + mc ≤ 2; omega) (by show 0 + ms ≤ 20; omega) dL_code_18 ⟨rfl, rfl⟩

set_option maxHeartbeats 4000000 in
set_option maxRecDepth 100000 in
theorem w_L_code_IOOBE (l : Launch) (Z : fx_Z) (ad : Nat → Nat) (hinj : fx_inj 116 ad) (g : St) (o : Int64) (a0 : Int32) (a1 : Int32) {fr lo mc ms : Nat} (hC : fx_C l Z yX3_code cX3_code 5 (some .char) fr lo mc ms 115 ad (cF ad Z.2.1) g [.ref (ad 0), .int a0, .int a1] (fun _ _ => False) (fun E9 => E9 = "java/lang/IndexOutOfBoundsException")) (hR : fr ≤ 11 ∧ lo ≤ 440 ∧ mc ≤ 2 ∧ ms ≤ 20) : fw_C l Z yL_code cL_code 5 [(0, 10, 13, 13)] ad (g, o) [.ref (ad 0), .int a0, .int a1, .ref (ad 115)] 1 (g, o) := by
  intro sz
  refine va_MetW (cc := cL_code) (maxL := 5) (ret := some .int) (hh := [(0, 10, 13, 13)]) (by decide) rfl ?_
  intro p e s m args below meth c s₁ B hml hv
  obtain ⟨rfl, hsz, hP, hE, hSt⟩ := hv
  subst hsz
  have hx := B.exec
  have hb := B.bytes
  have hr := B.returns
  have hown : s.vm.findClass RL = some m.cls := findClass_of_methodNamed B.named
  have hlocks := B.notSynchronized
  have hT : ∀ w ∈ fx_ws, w.before ([.ref (ad 0), .int a0, .int a1, .ref (ad 115)] : List Value).toArray s = true := fun w hw => atoms_spec (ws := fw_l yL_code cL_code 5 [(0, 10, 13, 13)]) B.pre w (List.mem_cons_of_mem _ hw)
  have htab : c.exceptionTable.toList = tableOf [(0, 10, 13, 13)] := vx_table (x := yL_rate) B (atoms_spec (ws := fw_l yL_code cL_code 5 [(0, 10, 13, 13)]) B.pre _ List.mem_cons_self)
  have K : w_K p l s m ([.ref (ad 0), .int a0, .int a1, .ref (ad 115)] : List Value).toArray c cL_code 5 Z ad := ⟨hx, hb, hml, hown, hT, hE, hSt, hinj⟩
  have hS : va_S (fx_A 116 ad s.heap.size) s.heap s.heap [] := va_S.rf
  have hl := lv_entry ([.ref (ad 0), .int a0, .int a1, .ref (ad 115)]) (n := 5) (Nat.le_of_ble_eq_true rfl)
  rw [lg_entry_eq]
  generalize (lg_sl ([.ref (ad 0), .int a0, .int a1, .ref (ad 115)]) ++ List.replicate (5 - (lg_sl ([.ref (ad 0), .int a0, .int a1, .ref (ad 115)])).length) Slot.unset).toArray = ls at hl ⊢
  have hl : lv_has ls 5 [(0, .ref (ad 0)), (1, .int a0), (2, .int a1), (3, .ref (ad 115))] := hl
  refine lv_aload_n hx hb dL_code_0 rfl (lv_at hl 3 rfl) ?_
  refine lv_iconst (v := 0) hx hb dL_code_1 (by decide) ?_
  refine lv_aload_n hx hb dL_code_2 rfl (lv_at hl 0 rfl) ?_
  refine lv_iload_n hx hb dL_code_3 rfl (lv_at hl 1 rfl) ?_
  refine lv_iload_n hx hb dL_code_4 rfl (lv_at hl 2 rfl) ?_
  refine w_x (rest := [.int 0, .ref (ad 115)]) K hP hS hC ok_L_55 rfl ⟨by show fr + 1 ≤ 12; omega, by show 8 + (5 + 11) + lo ≤ 476; omega⟩ rfl hl.1 (Nat.le_of_ble_eq_true rfl) ⟨by show 0 + mc ≤ 2; omega, by show 0 + ms ≤ 20; omega⟩ dL_code_5 [] ⟨0, 10, 13, 13⟩ [] htab (fun z hz => absurd hz (List.not_mem_nil)) (by decide) (by decide) (hT _ (fx_w 169 (by decide +kernel) rfl)) (List.mem_of_getElem? (i := 0) rfl) (fun q9 H locs hP hS => ?_)
  refine lv_astore (lv' := [(4, .ref q9), (0, .ref (ad 0)), (1, .int a0), (2, .int a1), (3, .ref (ad 115))]) hx hb dL_code_13 hl (by decide) rfl (fun ls hl => ?_)
  refine lv_iconst (v := 1) hx hb dL_code_15 (by decide) ?_
  exact fj_reti (N := 116) (ad := ad) (u := (g, o)) hx hb hr hlocks rfl hP hS (by show 0 + mc ≤ 2; omega) (by show 0 + ms ≤ 20; omega) dL_code_16 ⟨rfl, rfl⟩

set_option maxHeartbeats 4000000 in
set_option maxRecDepth 100000 in
theorem w_L_ofTraveller_ok (l : Launch) (Z : fx_Z) (ad : Nat → Nat) (hinj : fx_inj 116 ad) (g G : St) (o : Int64) (a0 : Int32) (a1 : Int32) (r : Int32) {fr lo mc ms : Nat} (hC : fx_C l Z yX3_ofTraveller cX3_ofTraveller 4 (some .int) fr lo mc ms 115 ad (cF ad Z.2.1) g [.ref (ad 0), .int a0, .int a1] (pI r G) (fun _ => False)) (hR : fr ≤ 11 ∧ lo ≤ 440 ∧ mc ≤ 2 ∧ ms ≤ 20) : fw_C l Z yL_ofTraveller cL_ofTraveller 5 [(0, 10, 13, 13), (0, 10, 17, 15)] ad (g, o) [.ref (ad 0), .int a0, .int a1, .ref (ad 115)] 0 (G, r.toInt64) := by
  intro sz
  refine va_MetW (cc := cL_ofTraveller) (maxL := 5) (ret := some .int) (hh := [(0, 10, 13, 13), (0, 10, 17, 15)]) (by decide) rfl ?_
  intro p e s m args below meth c s₁ B hml hv
  obtain ⟨rfl, hsz, hP, hE, hSt⟩ := hv
  subst hsz
  have hx := B.exec
  have hb := B.bytes
  have hr := B.returns
  have hown : s.vm.findClass RL = some m.cls := findClass_of_methodNamed B.named
  have hlocks := B.notSynchronized
  have hT : ∀ w ∈ fx_ws, w.before ([.ref (ad 0), .int a0, .int a1, .ref (ad 115)] : List Value).toArray s = true := fun w hw => atoms_spec (ws := fw_l yL_ofTraveller cL_ofTraveller 5 [(0, 10, 13, 13), (0, 10, 17, 15)]) B.pre w (List.mem_cons_of_mem _ hw)
  have htab : c.exceptionTable.toList = tableOf [(0, 10, 13, 13), (0, 10, 17, 15)] := vx_table (x := yL_rate) B (atoms_spec (ws := fw_l yL_ofTraveller cL_ofTraveller 5 [(0, 10, 13, 13), (0, 10, 17, 15)]) B.pre _ List.mem_cons_self)
  have K : w_K p l s m ([.ref (ad 0), .int a0, .int a1, .ref (ad 115)] : List Value).toArray c cL_ofTraveller 5 Z ad := ⟨hx, hb, hml, hown, hT, hE, hSt, hinj⟩
  have hS : va_S (fx_A 116 ad s.heap.size) s.heap s.heap [] := va_S.rf
  have hl := lv_entry ([.ref (ad 0), .int a0, .int a1, .ref (ad 115)]) (n := 5) (Nat.le_of_ble_eq_true rfl)
  rw [lg_entry_eq]
  generalize (lg_sl ([.ref (ad 0), .int a0, .int a1, .ref (ad 115)]) ++ List.replicate (5 - (lg_sl ([.ref (ad 0), .int a0, .int a1, .ref (ad 115)])).length) Slot.unset).toArray = ls at hl ⊢
  have hl : lv_has ls 5 [(0, .ref (ad 0)), (1, .int a0), (2, .int a1), (3, .ref (ad 115))] := hl
  refine lv_aload_n hx hb dL_ofTraveller_0 rfl (lv_at hl 3 rfl) ?_
  refine lv_iconst (v := 0) hx hb dL_ofTraveller_1 (by decide) ?_
  refine lv_aload_n hx hb dL_ofTraveller_2 rfl (lv_at hl 0 rfl) ?_
  refine lv_iload_n hx hb dL_ofTraveller_3 rfl (lv_at hl 1 rfl) ?_
  refine lv_iload_n hx hb dL_ofTraveller_4 rfl (lv_at hl 2 rfl) ?_
  refine w_ok (rest := [.int 0, .ref (ad 115)]) K hP hS hC ok_L_59 rfl ⟨by show fr + 1 ≤ 12; omega, by show 8 + (4 + 11) + lo ≤ 476; omega⟩ rfl hl.1 (Nat.le_of_ble_eq_true rfl) ⟨by show 0 + mc ≤ 2; omega, by show 0 + ms ≤ 20; omega⟩ dL_ofTraveller_5 (fun H locs hP hS => ?_)
  refine lv_i2l hx hb dL_ofTraveller_8 rfl ?_
  refine w_out (rest := []) K hP hS dL_ofTraveller_9 (fun H locs hP hS => ?_)
  refine lv_goto (tgt := 21) hx hb dL_ofTraveller_10 (by decide) ?_
  refine lv_iconst (v := 0) hx hb dL_ofTraveller_21 (by decide) ?_
  exact fj_reti (N := 116) (ad := ad) (u := (G, r.toInt64)) hx hb hr hlocks rfl hP hS (by show 0 + mc ≤ 2; omega) (by show 0 + ms ≤ 20; omega) dL_ofTraveller_22 ⟨rfl, rfl⟩

set_option maxHeartbeats 4000000 in
set_option maxRecDepth 100000 in
theorem w_L_ofTraveller_IOOBE (l : Launch) (Z : fx_Z) (ad : Nat → Nat) (hinj : fx_inj 116 ad) (g : St) (o : Int64) (a0 : Int32) (a1 : Int32) {fr lo mc ms : Nat} (hC : fx_C l Z yX3_ofTraveller cX3_ofTraveller 4 (some .int) fr lo mc ms 115 ad (cF ad Z.2.1) g [.ref (ad 0), .int a0, .int a1] (fun _ _ => False) (fun E9 => E9 = "java/lang/IndexOutOfBoundsException")) (hR : fr ≤ 11 ∧ lo ≤ 440 ∧ mc ≤ 2 ∧ ms ≤ 20) : fw_C l Z yL_ofTraveller cL_ofTraveller 5 [(0, 10, 13, 13), (0, 10, 17, 15)] ad (g, o) [.ref (ad 0), .int a0, .int a1, .ref (ad 115)] 1 (g, o) := by
  intro sz
  refine va_MetW (cc := cL_ofTraveller) (maxL := 5) (ret := some .int) (hh := [(0, 10, 13, 13), (0, 10, 17, 15)]) (by decide) rfl ?_
  intro p e s m args below meth c s₁ B hml hv
  obtain ⟨rfl, hsz, hP, hE, hSt⟩ := hv
  subst hsz
  have hx := B.exec
  have hb := B.bytes
  have hr := B.returns
  have hown : s.vm.findClass RL = some m.cls := findClass_of_methodNamed B.named
  have hlocks := B.notSynchronized
  have hT : ∀ w ∈ fx_ws, w.before ([.ref (ad 0), .int a0, .int a1, .ref (ad 115)] : List Value).toArray s = true := fun w hw => atoms_spec (ws := fw_l yL_ofTraveller cL_ofTraveller 5 [(0, 10, 13, 13), (0, 10, 17, 15)]) B.pre w (List.mem_cons_of_mem _ hw)
  have htab : c.exceptionTable.toList = tableOf [(0, 10, 13, 13), (0, 10, 17, 15)] := vx_table (x := yL_rate) B (atoms_spec (ws := fw_l yL_ofTraveller cL_ofTraveller 5 [(0, 10, 13, 13), (0, 10, 17, 15)]) B.pre _ List.mem_cons_self)
  have K : w_K p l s m ([.ref (ad 0), .int a0, .int a1, .ref (ad 115)] : List Value).toArray c cL_ofTraveller 5 Z ad := ⟨hx, hb, hml, hown, hT, hE, hSt, hinj⟩
  have hS : va_S (fx_A 116 ad s.heap.size) s.heap s.heap [] := va_S.rf
  have hl := lv_entry ([.ref (ad 0), .int a0, .int a1, .ref (ad 115)]) (n := 5) (Nat.le_of_ble_eq_true rfl)
  rw [lg_entry_eq]
  generalize (lg_sl ([.ref (ad 0), .int a0, .int a1, .ref (ad 115)]) ++ List.replicate (5 - (lg_sl ([.ref (ad 0), .int a0, .int a1, .ref (ad 115)])).length) Slot.unset).toArray = ls at hl ⊢
  have hl : lv_has ls 5 [(0, .ref (ad 0)), (1, .int a0), (2, .int a1), (3, .ref (ad 115))] := hl
  refine lv_aload_n hx hb dL_ofTraveller_0 rfl (lv_at hl 3 rfl) ?_
  refine lv_iconst (v := 0) hx hb dL_ofTraveller_1 (by decide) ?_
  refine lv_aload_n hx hb dL_ofTraveller_2 rfl (lv_at hl 0 rfl) ?_
  refine lv_iload_n hx hb dL_ofTraveller_3 rfl (lv_at hl 1 rfl) ?_
  refine lv_iload_n hx hb dL_ofTraveller_4 rfl (lv_at hl 2 rfl) ?_
  refine w_x (rest := [.int 0, .ref (ad 115)]) K hP hS hC ok_L_59 rfl ⟨by show fr + 1 ≤ 12; omega, by show 8 + (4 + 11) + lo ≤ 476; omega⟩ rfl hl.1 (Nat.le_of_ble_eq_true rfl) ⟨by show 0 + mc ≤ 2; omega, by show 0 + ms ≤ 20; omega⟩ dL_ofTraveller_5 [] ⟨0, 10, 13, 13⟩ [⟨0, 10, 17, 15⟩] htab (fun z hz => absurd hz (List.not_mem_nil)) (by decide) (by decide) (hT _ (fx_w 169 (by decide +kernel) rfl)) (List.mem_of_getElem? (i := 0) rfl) (fun q9 H locs hP hS => ?_)
  refine lv_astore (lv' := [(4, .ref q9), (0, .ref (ad 0)), (1, .int a0), (2, .int a1), (3, .ref (ad 115))]) hx hb dL_ofTraveller_13 hl (by decide) rfl (fun ls hl => ?_)
  refine lv_iconst (v := 1) hx hb dL_ofTraveller_15 (by decide) ?_
  exact fj_reti (N := 116) (ad := ad) (u := (g, o)) hx hb hr hlocks rfl hP hS (by show 0 + mc ≤ 2; omega) (by show 0 + ms ≤ 20; omega) dL_ofTraveller_16 ⟨rfl, rfl⟩

set_option maxHeartbeats 4000000 in
set_option maxRecDepth 100000 in
theorem w_L_ofTraveller_IAE (l : Launch) (Z : fx_Z) (ad : Nat → Nat) (hinj : fx_inj 116 ad) (g : St) (o : Int64) (a0 : Int32) (a1 : Int32) {fr lo mc ms : Nat} (hC : fx_C l Z yX3_ofTraveller cX3_ofTraveller 4 (some .int) fr lo mc ms 115 ad (cF ad Z.2.1) g [.ref (ad 0), .int a0, .int a1] (fun _ _ => False) (fun E9 => E9 = "java/lang/IllegalArgumentException")) (hR : fr ≤ 11 ∧ lo ≤ 440 ∧ mc ≤ 2 ∧ ms ≤ 20) : fw_C l Z yL_ofTraveller cL_ofTraveller 5 [(0, 10, 13, 13), (0, 10, 17, 15)] ad (g, o) [.ref (ad 0), .int a0, .int a1, .ref (ad 115)] 2 (g, o) := by
  intro sz
  refine va_MetW (cc := cL_ofTraveller) (maxL := 5) (ret := some .int) (hh := [(0, 10, 13, 13), (0, 10, 17, 15)]) (by decide) rfl ?_
  intro p e s m args below meth c s₁ B hml hv
  obtain ⟨rfl, hsz, hP, hE, hSt⟩ := hv
  subst hsz
  have hx := B.exec
  have hb := B.bytes
  have hr := B.returns
  have hown : s.vm.findClass RL = some m.cls := findClass_of_methodNamed B.named
  have hlocks := B.notSynchronized
  have hT : ∀ w ∈ fx_ws, w.before ([.ref (ad 0), .int a0, .int a1, .ref (ad 115)] : List Value).toArray s = true := fun w hw => atoms_spec (ws := fw_l yL_ofTraveller cL_ofTraveller 5 [(0, 10, 13, 13), (0, 10, 17, 15)]) B.pre w (List.mem_cons_of_mem _ hw)
  have htab : c.exceptionTable.toList = tableOf [(0, 10, 13, 13), (0, 10, 17, 15)] := vx_table (x := yL_rate) B (atoms_spec (ws := fw_l yL_ofTraveller cL_ofTraveller 5 [(0, 10, 13, 13), (0, 10, 17, 15)]) B.pre _ List.mem_cons_self)
  have K : w_K p l s m ([.ref (ad 0), .int a0, .int a1, .ref (ad 115)] : List Value).toArray c cL_ofTraveller 5 Z ad := ⟨hx, hb, hml, hown, hT, hE, hSt, hinj⟩
  have hS : va_S (fx_A 116 ad s.heap.size) s.heap s.heap [] := va_S.rf
  have hl := lv_entry ([.ref (ad 0), .int a0, .int a1, .ref (ad 115)]) (n := 5) (Nat.le_of_ble_eq_true rfl)
  rw [lg_entry_eq]
  generalize (lg_sl ([.ref (ad 0), .int a0, .int a1, .ref (ad 115)]) ++ List.replicate (5 - (lg_sl ([.ref (ad 0), .int a0, .int a1, .ref (ad 115)])).length) Slot.unset).toArray = ls at hl ⊢
  have hl : lv_has ls 5 [(0, .ref (ad 0)), (1, .int a0), (2, .int a1), (3, .ref (ad 115))] := hl
  refine lv_aload_n hx hb dL_ofTraveller_0 rfl (lv_at hl 3 rfl) ?_
  refine lv_iconst (v := 0) hx hb dL_ofTraveller_1 (by decide) ?_
  refine lv_aload_n hx hb dL_ofTraveller_2 rfl (lv_at hl 0 rfl) ?_
  refine lv_iload_n hx hb dL_ofTraveller_3 rfl (lv_at hl 1 rfl) ?_
  refine lv_iload_n hx hb dL_ofTraveller_4 rfl (lv_at hl 2 rfl) ?_
  have hpass : ∀ z ∈ ([⟨0, 10, 13, 13⟩] : List ExceptionTableEntry), covers z 5 = false ∨ (z.catchType ≠ 0 ∧ ∃ nm : String, (Cond.classLink RL z.catchType nm).before ([.ref (ad 0), .int a0, .int a1, .ref (ad 115)] : List Value).toArray s = true ∧ va_Nc "java/lang/IllegalArgumentException" nm s) := by
    intro z hz
    simp only [List.mem_cons, List.not_mem_nil, or_false] at hz
    rcases hz with rfl
    · exact Or.inr ⟨by decide, "java/lang/IndexOutOfBoundsException", hT _ (fx_w 169 (by decide +kernel) rfl), hE.2.2.2.1⟩
  refine w_x (rest := [.int 0, .ref (ad 115)]) K hP hS hC ok_L_59 rfl ⟨by show fr + 1 ≤ 12; omega, by show 8 + (4 + 11) + lo ≤ 476; omega⟩ rfl hl.1 (Nat.le_of_ble_eq_true rfl) ⟨by show 0 + mc ≤ 2; omega, by show 0 + ms ≤ 20; omega⟩ dL_ofTraveller_5 [⟨0, 10, 13, 13⟩] ⟨0, 10, 17, 15⟩ [] htab hpass (by decide) (by decide) (hT _ (fx_w 170 (by decide +kernel) rfl)) (List.mem_of_getElem? (i := 1) rfl) (fun q9 H locs hP hS => ?_)
  refine lv_astore (lv' := [(4, .ref q9), (0, .ref (ad 0)), (1, .int a0), (2, .int a1), (3, .ref (ad 115))]) hx hb dL_ofTraveller_17 hl (by decide) rfl (fun ls hl => ?_)
  refine lv_iconst (v := 2) hx hb dL_ofTraveller_19 (by decide) ?_
  exact fj_reti (N := 116) (ad := ad) (u := (g, o)) hx hb hr hlocks rfl hP hS (by show 0 + mc ≤ 2; omega) (by show 0 + ms ≤ 20; omega) dL_ofTraveller_20 ⟨rfl, rfl⟩

set_option maxHeartbeats 4000000 in
set_option maxRecDepth 100000 in
theorem w_L_refundsAnew_ok (l : Launch) (Z : fx_Z) (ad : Nat → Nat) (hinj : fx_inj 116 ad) (g G : St) (o : Int64) (a0 : Int32) (r : Int32) {fr lo mc ms : Nat} (hC : fx_C l Z yX3_refundsAnew cX3_refundsAnew 4 (some .int) fr lo mc ms 115 ad (cF ad Z.2.1) g [.ref (ad 0), .int a0] (pI r G) (fun _ => False)) (hR : fr ≤ 11 ∧ lo ≤ 440 ∧ mc ≤ 2 ∧ ms ≤ 20) : fw_C l Z yL_refundsAnew cL_refundsAnew 4 [(0, 9, 12, 13)] ad (g, o) [.ref (ad 0), .int a0, .ref (ad 115)] 0 (G, r.toInt64) := by
  intro sz
  refine va_MetW (cc := cL_refundsAnew) (maxL := 4) (ret := some .int) (hh := [(0, 9, 12, 13)]) (by decide) rfl ?_
  intro p e s m args below meth c s₁ B hml hv
  obtain ⟨rfl, hsz, hP, hE, hSt⟩ := hv
  subst hsz
  have hx := B.exec
  have hb := B.bytes
  have hr := B.returns
  have hown : s.vm.findClass RL = some m.cls := findClass_of_methodNamed B.named
  have hlocks := B.notSynchronized
  have hT : ∀ w ∈ fx_ws, w.before ([.ref (ad 0), .int a0, .ref (ad 115)] : List Value).toArray s = true := fun w hw => atoms_spec (ws := fw_l yL_refundsAnew cL_refundsAnew 4 [(0, 9, 12, 13)]) B.pre w (List.mem_cons_of_mem _ hw)
  have htab : c.exceptionTable.toList = tableOf [(0, 9, 12, 13)] := vx_table (x := yL_rate) B (atoms_spec (ws := fw_l yL_refundsAnew cL_refundsAnew 4 [(0, 9, 12, 13)]) B.pre _ List.mem_cons_self)
  have K : w_K p l s m ([.ref (ad 0), .int a0, .ref (ad 115)] : List Value).toArray c cL_refundsAnew 4 Z ad := ⟨hx, hb, hml, hown, hT, hE, hSt, hinj⟩
  have hS : va_S (fx_A 116 ad s.heap.size) s.heap s.heap [] := va_S.rf
  have hl := lv_entry ([.ref (ad 0), .int a0, .ref (ad 115)]) (n := 4) (Nat.le_of_ble_eq_true rfl)
  rw [lg_entry_eq]
  generalize (lg_sl ([.ref (ad 0), .int a0, .ref (ad 115)]) ++ List.replicate (4 - (lg_sl ([.ref (ad 0), .int a0, .ref (ad 115)])).length) Slot.unset).toArray = ls at hl ⊢
  have hl : lv_has ls 4 [(0, .ref (ad 0)), (1, .int a0), (2, .ref (ad 115))] := hl
  refine lv_aload_n hx hb dL_refundsAnew_0 rfl (lv_at hl 2 rfl) ?_
  refine lv_iconst (v := 0) hx hb dL_refundsAnew_1 (by decide) ?_
  refine lv_aload_n hx hb dL_refundsAnew_2 rfl (lv_at hl 0 rfl) ?_
  refine lv_iload_n hx hb dL_refundsAnew_3 rfl (lv_at hl 1 rfl) ?_
  refine w_ok (rest := [.int 0, .ref (ad 115)]) K hP hS hC ok_L_62 rfl ⟨by show fr + 1 ≤ 12; omega, by show 8 + (4 + 11) + lo ≤ 476; omega⟩ rfl hl.1 (Nat.le_of_ble_eq_true rfl) ⟨by show 0 + mc ≤ 2; omega, by show 0 + ms ≤ 20; omega⟩ dL_refundsAnew_4 (fun H locs hP hS => ?_)
  refine lv_i2l hx hb dL_refundsAnew_7 rfl ?_
  refine w_out (rest := []) K hP hS dL_refundsAnew_8 (fun H locs hP hS => ?_)
  refine lv_goto (tgt := 15) hx hb dL_refundsAnew_9 (by decide) ?_
  refine lv_iconst (v := 0) hx hb dL_refundsAnew_15 (by decide) ?_
  exact fj_reti (N := 116) (ad := ad) (u := (G, r.toInt64)) hx hb hr hlocks rfl hP hS (by show 0 + mc ≤ 2; omega) (by show 0 + ms ≤ 20; omega) dL_refundsAnew_16 ⟨rfl, rfl⟩

set_option maxHeartbeats 4000000 in
set_option maxRecDepth 100000 in
theorem w_L_refundsAnew_IOOBE (l : Launch) (Z : fx_Z) (ad : Nat → Nat) (hinj : fx_inj 116 ad) (g : St) (o : Int64) (a0 : Int32) {fr lo mc ms : Nat} (hC : fx_C l Z yX3_refundsAnew cX3_refundsAnew 4 (some .int) fr lo mc ms 115 ad (cF ad Z.2.1) g [.ref (ad 0), .int a0] (fun _ _ => False) (fun E9 => E9 = "java/lang/IndexOutOfBoundsException")) (hR : fr ≤ 11 ∧ lo ≤ 440 ∧ mc ≤ 2 ∧ ms ≤ 20) : fw_C l Z yL_refundsAnew cL_refundsAnew 4 [(0, 9, 12, 13)] ad (g, o) [.ref (ad 0), .int a0, .ref (ad 115)] 1 (g, o) := by
  intro sz
  refine va_MetW (cc := cL_refundsAnew) (maxL := 4) (ret := some .int) (hh := [(0, 9, 12, 13)]) (by decide) rfl ?_
  intro p e s m args below meth c s₁ B hml hv
  obtain ⟨rfl, hsz, hP, hE, hSt⟩ := hv
  subst hsz
  have hx := B.exec
  have hb := B.bytes
  have hr := B.returns
  have hown : s.vm.findClass RL = some m.cls := findClass_of_methodNamed B.named
  have hlocks := B.notSynchronized
  have hT : ∀ w ∈ fx_ws, w.before ([.ref (ad 0), .int a0, .ref (ad 115)] : List Value).toArray s = true := fun w hw => atoms_spec (ws := fw_l yL_refundsAnew cL_refundsAnew 4 [(0, 9, 12, 13)]) B.pre w (List.mem_cons_of_mem _ hw)
  have htab : c.exceptionTable.toList = tableOf [(0, 9, 12, 13)] := vx_table (x := yL_rate) B (atoms_spec (ws := fw_l yL_refundsAnew cL_refundsAnew 4 [(0, 9, 12, 13)]) B.pre _ List.mem_cons_self)
  have K : w_K p l s m ([.ref (ad 0), .int a0, .ref (ad 115)] : List Value).toArray c cL_refundsAnew 4 Z ad := ⟨hx, hb, hml, hown, hT, hE, hSt, hinj⟩
  have hS : va_S (fx_A 116 ad s.heap.size) s.heap s.heap [] := va_S.rf
  have hl := lv_entry ([.ref (ad 0), .int a0, .ref (ad 115)]) (n := 4) (Nat.le_of_ble_eq_true rfl)
  rw [lg_entry_eq]
  generalize (lg_sl ([.ref (ad 0), .int a0, .ref (ad 115)]) ++ List.replicate (4 - (lg_sl ([.ref (ad 0), .int a0, .ref (ad 115)])).length) Slot.unset).toArray = ls at hl ⊢
  have hl : lv_has ls 4 [(0, .ref (ad 0)), (1, .int a0), (2, .ref (ad 115))] := hl
  refine lv_aload_n hx hb dL_refundsAnew_0 rfl (lv_at hl 2 rfl) ?_
  refine lv_iconst (v := 0) hx hb dL_refundsAnew_1 (by decide) ?_
  refine lv_aload_n hx hb dL_refundsAnew_2 rfl (lv_at hl 0 rfl) ?_
  refine lv_iload_n hx hb dL_refundsAnew_3 rfl (lv_at hl 1 rfl) ?_
  refine w_x (rest := [.int 0, .ref (ad 115)]) K hP hS hC ok_L_62 rfl ⟨by show fr + 1 ≤ 12; omega, by show 8 + (4 + 11) + lo ≤ 476; omega⟩ rfl hl.1 (Nat.le_of_ble_eq_true rfl) ⟨by show 0 + mc ≤ 2; omega, by show 0 + ms ≤ 20; omega⟩ dL_refundsAnew_4 [] ⟨0, 9, 12, 13⟩ [] htab (fun z hz => absurd hz (List.not_mem_nil)) (by decide) (by decide) (hT _ (fx_w 169 (by decide +kernel) rfl)) (List.mem_of_getElem? (i := 0) rfl) (fun q9 H locs hP hS => ?_)
  refine lv_astore_n (lv' := [(3, .ref q9), (0, .ref (ad 0)), (1, .int a0), (2, .ref (ad 115))]) hx hb dL_refundsAnew_12 rfl hl (by decide) rfl (fun ls hl => ?_)
  refine lv_iconst (v := 1) hx hb dL_refundsAnew_13 (by decide) ?_
  exact fj_reti (N := 116) (ad := ad) (u := (g, o)) hx hb hr hlocks rfl hP hS (by show 0 + mc ≤ 2; omega) (by show 0 + ms ≤ 20; omega) dL_refundsAnew_14 ⟨rfl, rfl⟩

set_option maxHeartbeats 4000000 in
set_option maxRecDepth 100000 in
theorem w_L_debt_ok (l : Launch) (Z : fx_Z) (ad : Nat → Nat) (hinj : fx_inj 116 ad) (g G : St) (o : Int64) (a0 : Int32) (r : Int32) {fr lo mc ms : Nat} (hC : fx_C l Z yX3_debt cX3_debt 5 (some .int) fr lo mc ms 115 ad (cF ad Z.2.1) g [.ref (ad 0), .int a0] (pI r G) (fun _ => False)) (hR : fr ≤ 11 ∧ lo ≤ 440 ∧ mc ≤ 2 ∧ ms ≤ 20) : fw_C l Z yL_debt cL_debt 4 [(0, 9, 12, 13)] ad (g, o) [.ref (ad 0), .int a0, .ref (ad 115)] 0 (G, r.toInt64) := by
  intro sz
  refine va_MetW (cc := cL_debt) (maxL := 4) (ret := some .int) (hh := [(0, 9, 12, 13)]) (by decide) rfl ?_
  intro p e s m args below meth c s₁ B hml hv
  obtain ⟨rfl, hsz, hP, hE, hSt⟩ := hv
  subst hsz
  have hx := B.exec
  have hb := B.bytes
  have hr := B.returns
  have hown : s.vm.findClass RL = some m.cls := findClass_of_methodNamed B.named
  have hlocks := B.notSynchronized
  have hT : ∀ w ∈ fx_ws, w.before ([.ref (ad 0), .int a0, .ref (ad 115)] : List Value).toArray s = true := fun w hw => atoms_spec (ws := fw_l yL_debt cL_debt 4 [(0, 9, 12, 13)]) B.pre w (List.mem_cons_of_mem _ hw)
  have htab : c.exceptionTable.toList = tableOf [(0, 9, 12, 13)] := vx_table (x := yL_rate) B (atoms_spec (ws := fw_l yL_debt cL_debt 4 [(0, 9, 12, 13)]) B.pre _ List.mem_cons_self)
  have K : w_K p l s m ([.ref (ad 0), .int a0, .ref (ad 115)] : List Value).toArray c cL_debt 4 Z ad := ⟨hx, hb, hml, hown, hT, hE, hSt, hinj⟩
  have hS : va_S (fx_A 116 ad s.heap.size) s.heap s.heap [] := va_S.rf
  have hl := lv_entry ([.ref (ad 0), .int a0, .ref (ad 115)]) (n := 4) (Nat.le_of_ble_eq_true rfl)
  rw [lg_entry_eq]
  generalize (lg_sl ([.ref (ad 0), .int a0, .ref (ad 115)]) ++ List.replicate (4 - (lg_sl ([.ref (ad 0), .int a0, .ref (ad 115)])).length) Slot.unset).toArray = ls at hl ⊢
  have hl : lv_has ls 4 [(0, .ref (ad 0)), (1, .int a0), (2, .ref (ad 115))] := hl
  refine lv_aload_n hx hb dL_debt_0 rfl (lv_at hl 2 rfl) ?_
  refine lv_iconst (v := 0) hx hb dL_debt_1 (by decide) ?_
  refine lv_aload_n hx hb dL_debt_2 rfl (lv_at hl 0 rfl) ?_
  refine lv_iload_n hx hb dL_debt_3 rfl (lv_at hl 1 rfl) ?_
  refine w_ok (rest := [.int 0, .ref (ad 115)]) K hP hS hC ok_L_65 rfl ⟨by show fr + 1 ≤ 12; omega, by show 8 + (5 + 11) + lo ≤ 476; omega⟩ rfl hl.1 (Nat.le_of_ble_eq_true rfl) ⟨by show 0 + mc ≤ 2; omega, by show 0 + ms ≤ 20; omega⟩ dL_debt_4 (fun H locs hP hS => ?_)
  refine lv_i2l hx hb dL_debt_7 rfl ?_
  refine w_out (rest := []) K hP hS dL_debt_8 (fun H locs hP hS => ?_)
  refine lv_goto (tgt := 15) hx hb dL_debt_9 (by decide) ?_
  refine lv_iconst (v := 0) hx hb dL_debt_15 (by decide) ?_
  exact fj_reti (N := 116) (ad := ad) (u := (G, r.toInt64)) hx hb hr hlocks rfl hP hS (by show 0 + mc ≤ 2; omega) (by show 0 + ms ≤ 20; omega) dL_debt_16 ⟨rfl, rfl⟩

set_option maxHeartbeats 4000000 in
set_option maxRecDepth 100000 in
theorem w_L_debt_IOOBE (l : Launch) (Z : fx_Z) (ad : Nat → Nat) (hinj : fx_inj 116 ad) (g : St) (o : Int64) (a0 : Int32) {fr lo mc ms : Nat} (hC : fx_C l Z yX3_debt cX3_debt 5 (some .int) fr lo mc ms 115 ad (cF ad Z.2.1) g [.ref (ad 0), .int a0] (fun _ _ => False) (fun E9 => E9 = "java/lang/IndexOutOfBoundsException")) (hR : fr ≤ 11 ∧ lo ≤ 440 ∧ mc ≤ 2 ∧ ms ≤ 20) : fw_C l Z yL_debt cL_debt 4 [(0, 9, 12, 13)] ad (g, o) [.ref (ad 0), .int a0, .ref (ad 115)] 1 (g, o) := by
  intro sz
  refine va_MetW (cc := cL_debt) (maxL := 4) (ret := some .int) (hh := [(0, 9, 12, 13)]) (by decide) rfl ?_
  intro p e s m args below meth c s₁ B hml hv
  obtain ⟨rfl, hsz, hP, hE, hSt⟩ := hv
  subst hsz
  have hx := B.exec
  have hb := B.bytes
  have hr := B.returns
  have hown : s.vm.findClass RL = some m.cls := findClass_of_methodNamed B.named
  have hlocks := B.notSynchronized
  have hT : ∀ w ∈ fx_ws, w.before ([.ref (ad 0), .int a0, .ref (ad 115)] : List Value).toArray s = true := fun w hw => atoms_spec (ws := fw_l yL_debt cL_debt 4 [(0, 9, 12, 13)]) B.pre w (List.mem_cons_of_mem _ hw)
  have htab : c.exceptionTable.toList = tableOf [(0, 9, 12, 13)] := vx_table (x := yL_rate) B (atoms_spec (ws := fw_l yL_debt cL_debt 4 [(0, 9, 12, 13)]) B.pre _ List.mem_cons_self)
  have K : w_K p l s m ([.ref (ad 0), .int a0, .ref (ad 115)] : List Value).toArray c cL_debt 4 Z ad := ⟨hx, hb, hml, hown, hT, hE, hSt, hinj⟩
  have hS : va_S (fx_A 116 ad s.heap.size) s.heap s.heap [] := va_S.rf
  have hl := lv_entry ([.ref (ad 0), .int a0, .ref (ad 115)]) (n := 4) (Nat.le_of_ble_eq_true rfl)
  rw [lg_entry_eq]
  generalize (lg_sl ([.ref (ad 0), .int a0, .ref (ad 115)]) ++ List.replicate (4 - (lg_sl ([.ref (ad 0), .int a0, .ref (ad 115)])).length) Slot.unset).toArray = ls at hl ⊢
  have hl : lv_has ls 4 [(0, .ref (ad 0)), (1, .int a0), (2, .ref (ad 115))] := hl
  refine lv_aload_n hx hb dL_debt_0 rfl (lv_at hl 2 rfl) ?_
  refine lv_iconst (v := 0) hx hb dL_debt_1 (by decide) ?_
  refine lv_aload_n hx hb dL_debt_2 rfl (lv_at hl 0 rfl) ?_
  refine lv_iload_n hx hb dL_debt_3 rfl (lv_at hl 1 rfl) ?_
  refine w_x (rest := [.int 0, .ref (ad 115)]) K hP hS hC ok_L_65 rfl ⟨by show fr + 1 ≤ 12; omega, by show 8 + (5 + 11) + lo ≤ 476; omega⟩ rfl hl.1 (Nat.le_of_ble_eq_true rfl) ⟨by show 0 + mc ≤ 2; omega, by show 0 + ms ≤ 20; omega⟩ dL_debt_4 [] ⟨0, 9, 12, 13⟩ [] htab (fun z hz => absurd hz (List.not_mem_nil)) (by decide) (by decide) (hT _ (fx_w 169 (by decide +kernel) rfl)) (List.mem_of_getElem? (i := 0) rfl) (fun q9 H locs hP hS => ?_)
  refine lv_astore_n (lv' := [(3, .ref q9), (0, .ref (ad 0)), (1, .int a0), (2, .ref (ad 115))]) hx hb dL_debt_12 rfl hl (by decide) rfl (fun ls hl => ?_)
  refine lv_iconst (v := 1) hx hb dL_debt_13 (by decide) ?_
  exact fj_reti (N := 116) (ad := ad) (u := (g, o)) hx hb hr hlocks rfl hP hS (by show 0 + mc ≤ 2; omega) (by show 0 + ms ≤ 20; omega) dL_debt_14 ⟨rfl, rfl⟩
