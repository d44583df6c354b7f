/-! ===== the class: what its loops do; its API but code ===== -/
theorem sw_out {w : Int32} (h : bad w 4) : w.toInt < 0 ∨ 3 < w.toInt := by
  by_cases q : w.toInt < 0
  · exact Or.inl q
  · by_cases q2 : 3 < w.toInt
    · exact Or.inr q2
    · obtain ⟨j, hj, rfl⟩ := vp_in_of (x := w) (n := 4) (vp_in_iff.mpr ⟨by omega, by omega⟩) (by decide)
      exact absurd rfl (h j hj)
def mnR (u : St) (x : Int32) (n : Nat) : Int32 := if x < its0 (u 5 n) then x else its0 (u 5 n)
def payOne (u : St) (x : Int32) (n t : Nat) : St := u2 (u2 (u2 u 7 n 2) 9 n (mnR u x n)) 20 t (u 20 t + mnR u x n)
def cPy (g : St) (t f : Nat) : Nat → St × Int32
  | 0 => (g, 500)
  | n + 1 => if stF (cPy g t f n).1 t f n then (payOne (cPy g t f n).1 (cPy g t f n).2 n t, (cPy g t f n).2 - mnR (cPy g t f n).1 (cPy g t f n).2 n) else cPy g t f n
theorem cPy_0 (g : St) (t f : Nat) : (cPy g t f 0).1 = g := rfl
theorem cPy_t {g : St} {t f n : Nat} (c : stF (cPy g t f n).1 t f n) : cPy g t f (n + 1) = (payOne (cPy g t f n).1 (cPy g t f n).2 n t, (cPy g t f n).2 - mnR (cPy g t f n).1 (cPy g t f n).2 n) := if_pos c
theorem cPy_f {g : St} {t f n : Nat} (c : ¬ stF (cPy g t f n).1 t f n) : cPy g t f (n + 1) = cPy g t f n := if_neg c
theorem cPy_k {g : St} {t f n k : Nat} (hk : k ≠ 7 ∧ k ≠ 9 ∧ k ≠ 20) : (cPy g t f n).1 k = g k := by
  induction n with
  | zero => rfl
  | succ n ih =>
    by_cases c : stF (cPy g t f n).1 t f n
    · rw [cPy_t c]
      show payOne _ _ _ _ k = g k
      unfold payOne
      rw [u2_ne _ _ _ hk.2.2, u2_ne _ _ _ hk.2.1, u2_ne _ _ _ hk.1, ih]
    · rw [cPy_f c, ih]
def wstOne (u : St) (n : Nat) : St := u2 (u2 (u2 u 10 n (u 10 n + 1)) 7 n (if u 10 n + 1 < 2 then 0 else 3)) 8 n (-1)
def cWs (g : St) (t f : Nat) : Nat → St
  | 0 => g
  | n + 1 => if stF (cWs g t f n) t f n then wstOne (cWs g t f n) n else cWs g t f n
theorem cWs_0 (g : St) (t f : Nat) : cWs g t f 0 = g := rfl
theorem cWs_t {g : St} {t f n : Nat} (c : stF (cWs g t f n) t f n) : cWs g t f (n + 1) = wstOne (cWs g t f n) n := if_pos c
theorem cWs_f {g : St} {t f n : Nat} (c : ¬ stF (cWs g t f n) t f n) : cWs g t f (n + 1) = cWs g t f n := if_neg c
theorem cWs_k {g : St} {t f n k : Nat} (hk : k ≠ 7 ∧ k ≠ 8 ∧ k ≠ 10) : cWs g t f n k = g k := by
  induction n with
  | zero => rfl
  | succ n ih =>
    by_cases c : stF (cWs g t f n) t f n
    · rw [cWs_t c, wstOne, u2_ne _ _ _ hk.2.1, u2_ne _ _ _ hk.1, u2_ne _ _ _ hk.2.2, ih]
    · rw [cWs_f c, ih]
def slOne (u : St) (f rc n : Nat) : St := if u (30 + f) n = 2 then (cPy (u2 (u2 (u2 u (30 + f) n 3) 16 n 1) 17 n (u 17 n + 1)) n f rc).1 else if u (30 + f) n = 1 then cWs (u2 u 18 n (u 18 n + 1)) n f rc else u
def cSl (g : St) (f rc : Nat) : Nat → St
  | 0 => g
  | n + 1 => slOne (cSl g f rc n) f rc n
theorem cSl_0 (g : St) (f rc : Nat) : cSl g f rc 0 = g := rfl
theorem cSl_2 {g : St} {f rc n : Nat} (c : cSl g f rc n (30 + f) n = 2) : cSl g f rc (n + 1) = (cPy (u2 (u2 (u2 (cSl g f rc n) (30 + f) n 3) 16 n 1) 17 n (cSl g f rc n 17 n + 1)) n f rc).1 := if_pos c
theorem cSl_1 {g : St} {f rc n : Nat} (c : ¬ cSl g f rc n (30 + f) n = 2) (c1 : cSl g f rc n (30 + f) n = 1) : cSl g f rc (n + 1) = cWs (u2 (cSl g f rc n) 18 n (cSl g f rc n 18 n + 1)) n f rc := by
  show slOne _ _ _ _ = _
  rw [slOne, if_neg c, if_pos c1]
theorem cSl_n {g : St} {f rc n : Nat} (c : ¬ cSl g f rc n (30 + f) n = 2) (c1 : ¬ cSl g f rc n (30 + f) n = 1) : cSl g f rc (n + 1) = cSl g f rc n := by
  show slOne _ _ _ _ = _
  rw [slOne, if_neg c, if_neg c1]
theorem cSl_k {g : St} {f rc n k : Nat} (hk : k < 7 ∨ (10 < k ∧ k < 16) ∨ k = 19) : cSl g f rc n k = g k := by
  induction n with
  | zero => rfl
  | succ n ih =>
    by_cases c : cSl g f rc n (30 + f) n = 2
    · rw [cSl_2 c, cPy_k ⟨by omega, by omega, by omega⟩, u2_ne _ _ _ (by omega), u2_ne _ _ _ (by omega), u2_ne _ _ _ (by omega), ih]
    · by_cases c1 : cSl g f rc n (30 + f) n = 1
      · rw [cSl_1 c c1, cWs_k ⟨by omega, by omega, by omega⟩, u2_ne _ _ _ (by omega), ih]
      · rw [cSl_n c c1, ih]
def cSa (g : St) (rc : Nat) : Nat → St
  | 0 => g
  | n + 1 => if cSa g rc n 11 n = cSa g rc n 0 2 then cSl (cSa g rc n) n rc 10 else cSa g rc n
theorem cSa_0 (g : St) (rc : Nat) : cSa g rc 0 = g := rfl
theorem cSa_t {g : St} {rc n : Nat} (c : cSa g rc n 11 n = cSa g rc n 0 2) : cSa g rc (n + 1) = cSl (cSa g rc n) n rc 10 := if_pos c
theorem cSa_f {g : St} {rc n : Nat} (c : ¬ cSa g rc n 11 n = cSa g rc n 0 2) : cSa g rc (n + 1) = cSa g rc n := if_neg c
theorem cSa_k {g : St} {rc n k : Nat} (hk : k < 7 ∨ (10 < k ∧ k < 16) ∨ k = 19) : cSa g rc n k = g k := by
  induction n with
  | zero => rfl
  | succ n ih =>
    by_cases c : cSa g rc n 11 n = cSa g rc n 0 2
    · rw [cSa_t c, cSl_k hk, ih]
    · rw [cSa_f c, ih]
def cPs (g : St) (rc fc : Nat) : Nat → St
  | 0 => g
  | n + 1 => cSa (u2 (cPs g rc fc n) 0 2 (cPs g rc fc n 0 2 + 1)) rc fc
theorem cPs_0 (g : St) (rc fc : Nat) : cPs g rc fc 0 = g := rfl
theorem cPs_0k {g : St} {rc fc n i : Nat} (hi : i ≠ 2) : cPs g rc fc n 0 i = g 0 i := by
  induction n with
  | zero => rfl
  | succ n ih =>
    show cSa _ _ _ 0 i = _
    rw [cSa_k (by omega), u2_off _ _ (by omega), ih]
def m500 (x : Int32) : Int32 := if 500 < x then 500 else x
def rfS (g : St) (t f : Nat) : Nat → Int32
  | 0 => 0
  | n + 1 => rfS g t f n + (if g 3 n = nI t ∧ g 8 n = nI f then its0 (g 5 n) else 0)
def rfA (g : St) (t rc : Nat) : Nat → Int32
  | 0 => 0
  | n + 1 => rfA g t rc n + (if g (30 + n) t = 3 then m500 (rfS g t n rc) else 0)
theorem ok_X3_247 : fx_ok RX3 247 RX3 yX3_isStampedFor cX3_isStampedFor 4 (some .boolean) 3 := ⟨fx_w 381 (by decide +kernel) rfl, fx_w 378 (by decide +kernel) rfl, fx_w 380 (by decide +kernel) rfl, fx_w 14 (by decide +kernel) rfl, fx_w 37 (by decide +kernel) rfl, by decide +kernel⟩
theorem ok_X3_163 : fx_ok RX3 163 RX3 yX3_takeStampOff cX3_takeStampOff 3 none 2 := ⟨fx_w 385 (by decide +kernel) rfl, fx_w 382 (by decide +kernel) rfl, fx_w 384 (by decide +kernel) rfl, fx_w 15 (by decide +kernel) rfl, fx_w 37 (by decide +kernel) rfl, by decide +kernel⟩
theorem ok_X3_261 : fx_ok RX3 261 RX3 yX3_refundOfTax cX3_refundOfTax 2 (some .int) 1 := ⟨fx_w 451 (by decide +kernel) rfl, fx_w 448 (by decide +kernel) rfl, fx_w 450 (by decide +kernel) rfl, fx_w 21 (by decide +kernel) rfl, fx_w 37 (by decide +kernel) rfl, by decide +kernel⟩
theorem ok_X3_258 : fx_ok RX3 258 RX3 yX3_wasteStamped cX3_wasteStamped 5 none 2 := ⟨fx_w 458 (by decide +kernel) rfl, fx_w 455 (by decide +kernel) rfl, fx_w 457 (by decide +kernel) rfl, fx_w 22 (by decide +kernel) rfl, fx_w 37 (by decide +kernel) rfl, by decide +kernel⟩
theorem ok_X3_254 : fx_ok RX3 254 RX3 yX3_payStamped cX3_payStamped 6 none 2 := ⟨fx_w 447 (by decide +kernel) rfl, fx_w 444 (by decide +kernel) rfl, fx_w 446 (by decide +kernel) rfl, fx_w 20 (by decide +kernel) rfl, fx_w 37 (by decide +kernel) rfl, by decide +kernel⟩
theorem ok_X3_251 : fx_ok RX3 251 RX3 yX3_sail cX3_sail 4 none 1 := ⟨fx_w 443 (by decide +kernel) rfl, fx_w 440 (by decide +kernel) rfl, fx_w 442 (by decide +kernel) rfl, fx_w 19 (by decide +kernel) rfl, fx_w 37 (by decide +kernel) rfl, by decide +kernel⟩
theorem ok_X3_183 : fx_ok RX3 183 RX3 yX3_sailAllOfNow cX3_sailAllOfNow 2 none 0 := ⟨fx_w 439 (by decide +kernel) rfl, fx_w 436 (by decide +kernel) rfl, fx_w 438 (by decide +kernel) rfl, fx_w 18 (by decide +kernel) rfl, fx_w 37 (by decide +kernel) rfl, by decide +kernel⟩
theorem ok_X3_224 : fx_ok RX3 224 RX3 yX3_refundsOfSailing cX3_refundsOfSailing 6 (some .int) 2 := ⟨fx_w 672 (by decide +kernel) rfl, fx_w 669 (by decide +kernel) rfl, fx_w 671 (by decide +kernel) rfl, fx_w 24 (by decide +kernel) rfl, fx_w 37 (by decide +kernel) rfl, by decide +kernel⟩
theorem ok_X3_44 : fx_ok RX3 44 RX3 yX3_requireKind cX3_requireKind 2 none 1 := ⟨fx_w 178 (by decide +kernel) rfl, fx_w 175 (by decide +kernel) rfl, fx_w 177 (by decide +kernel) rfl, fx_w 0 (by decide +kernel) rfl, fx_w 37 (by decide +kernel) rfl, by decide +kernel⟩
theorem ok_X3_55 : fx_ok RX3 55 RX3 yX3_requireShop cX3_requireShop 2 none 1 := ⟨fx_w 274 (by decide +kernel) rfl, fx_w 271 (by decide +kernel) rfl, fx_w 273 (by decide +kernel) rfl, fx_w 2 (by decide +kernel) rfl, fx_w 37 (by decide +kernel) rfl, by decide +kernel⟩
theorem ok_X3_58 : fx_ok RX3 58 RX3 yX3_travellerNumbered cX3_travellerNumbered 2 (some (.object "Ferrytax$Traveller")) 1 := ⟨fx_w 279 (by decide +kernel) rfl, fx_w 276 (by decide +kernel) rfl, fx_w 278 (by decide +kernel) rfl, fx_w 3 (by decide +kernel) rfl, fx_w 37 (by decide +kernel) rfl, by decide +kernel⟩
theorem ok_X3_64 : fx_ok RX3 64 RX3 yX3_requireOnIsland cX3_requireOnIsland 2 none 1 := ⟨fx_w 289 (by decide +kernel) rfl, fx_w 286 (by decide +kernel) rfl, fx_w 288 (by decide +kernel) rfl, fx_w 5 (by decide +kernel) rfl, fx_w 37 (by decide +kernel) rfl, by decide +kernel⟩
theorem ok_X3_94 : fx_ok RX3 94 RX3 yX3_receiptNumbered cX3_receiptNumbered 2 (some (.object "Ferrytax$Receipt")) 1 := ⟨fx_w 317 (by decide +kernel) rfl, fx_w 314 (by decide +kernel) rfl, fx_w 316 (by decide +kernel) rfl, fx_w 6 (by decide +kernel) rfl, fx_w 37 (by decide +kernel) rfl, by decide +kernel⟩
theorem ok_X3_98 : fx_ok RX3 98 RX3 yX3_requireOpen cX3_requireOpen 2 none 1 := ⟨fx_w 322 (by decide +kernel) rfl, fx_w 319 (by decide +kernel) rfl, fx_w 321 (by decide +kernel) rfl, fx_w 7 (by decide +kernel) rfl, fx_w 37 (by decide +kernel) rfl, by decide +kernel⟩
theorem ok_X3_116 : fx_ok RX3 116 RX3 yX3_ferryNumbered cX3_ferryNumbered 2 (some (.object "Ferrytax$Ferry")) 1 := ⟨fx_w 345 (by decide +kernel) rfl, fx_w 342 (by decide +kernel) rfl, fx_w 344 (by decide +kernel) rfl, fx_w 8 (by decide +kernel) rfl, fx_w 37 (by decide +kernel) rfl, by decide +kernel⟩
theorem ok_X3_129 : fx_ok RX3 129 RX3 yX3_seatsLeft cX3_seatsLeft 2 (some .int) 1 := ⟨fx_w 356 (by decide +kernel) rfl, fx_w 353 (by decide +kernel) rfl, fx_w 355 (by decide +kernel) rfl, fx_w 10 (by decide +kernel) rfl, fx_w 37 (by decide +kernel) rfl, by decide +kernel⟩
theorem ok_X3_138 : fx_ok RX3 138 RX3 yX3_requireSeat cX3_requireSeat 3 none 2 := ⟨fx_w 372 (by decide +kernel) rfl, fx_w 369 (by decide +kernel) rfl, fx_w 371 (by decide +kernel) rfl, fx_w 12 (by decide +kernel) rfl, fx_w 37 (by decide +kernel) rfl, by decide +kernel⟩
theorem ok_X3_142 : fx_ok RX3 142 RX3 yX3_reopenStamped cX3_reopenStamped 5 (some .int) 2 := ⟨fx_w 377 (by decide +kernel) rfl, fx_w 374 (by decide +kernel) rfl, fx_w 376 (by decide +kernel) rfl, fx_w 13 (by decide +kernel) rfl, fx_w 37 (by decide +kernel) rfl, by decide +kernel⟩
theorem ok_X3_146 : fx_ok RX3 146 RX3 yX3_requireWithin cX3_requireWithin 3 none 2 := ⟨fx_w 396 (by decide +kernel) rfl, fx_w 393 (by decide +kernel) rfl, fx_w 395 (by decide +kernel) rfl, fx_w 16 (by decide +kernel) rfl, fx_w 37 (by decide +kernel) rfl, by decide +kernel⟩
theorem ok_X3_149 : fx_ok RX3 149 RX3 yX3_isAboardSomewhere cX3_isAboardSomewhere 3 (some .boolean) 1 := ⟨fx_w 401 (by decide +kernel) rfl, fx_w 398 (by decide +kernel) rfl, fx_w 400 (by decide +kernel) rfl, fx_w 17 (by decide +kernel) rfl, fx_w 37 (by decide +kernel) rfl, by decide +kernel⟩
set_option maxHeartbeats 4000000 in
set_option maxRecDepth 100000 in
theorem c_X3_reopenStamped (l : Launch) (hfl : l.stackTraces = false) (Z : fx_Z) (ad : Nat → Nat) (hinj : fx_inj 115 ad) (g : St) (rc : Nat) (t : Nat) (f : Nat) (hrc : g 0 0 = nI rc) (hr6 : rc ≤ 60) : fx_C l Z yX3_reopenStamped cX3_reopenStamped 5 (some .int) 1 23 0 0 115 ad (cF ad Z.2.1) g [.ref (ad 0), .int (nI t), .int (nI f)] (pI (nI (nRo g t f rc)) (cRo g t f rc)) (fun _ => False) := by
  intro sz
  refine vx_ofW (cc := cX3_reopenStamped) (maxL := 5) (ret := (some .int)) (by decide) rfl ?_
  intro p e s m args below meth c s₁ B hml hout hv
  obtain ⟨rfl, hsz, hP, hE, hSt⟩ := hv
  subst hsz
  have hx := B.exec
  have hb := B.bytes
  have hr := B.returns
  have hown : s.vm.findClass RX3 = some m.cls := findClass_of_methodNamed B.named
  have hlocks := B.notSynchronized
  have K : c_K p l s m ([.ref (ad 0), .int (nI t), .int (nI f)] : List Value).toArray c cX3_reopenStamped 5 Z ad := ⟨hx, hb, hml, hown, fun w hw => atoms_spec (ws := fx_l yX3_reopenStamped cX3_reopenStamped 5 (some .int)) B.pre w (List.mem_cons_of_mem _ hw), hE, hSt, hinj, hfl⟩
  have hS : va_S (fx_A 115 ad s.heap.size) s.heap s.heap [] := va_S.rf
  have hl := lv_entry ([.ref (ad 0), .int (nI t), .int (nI f)]) (n := 5) (Nat.le_of_ble_eq_true rfl)
  rw [lg_entry_eq]
  generalize (lg_sl ([.ref (ad 0), .int (nI t), .int (nI f)]) ++ List.replicate (5 - (lg_sl ([.ref (ad 0), .int (nI t), .int (nI f)])).length) Slot.unset).toArray = ls at hl ⊢
  have hl : lv_has ls 5 [(0, .ref (ad 0)), (1, .int (nI t)), (2, .int (nI f))] := hl
  refine lv_iconst (v := 0) hx hb dX3_reopenStamped_0 (by decide) ?_
  refine lv_istore_n (lv' := [(3, .int 0), (0, .ref (ad 0)), (1, .int (nI t)), (2, .int (nI f))]) hx hb dX3_reopenStamped_1 rfl hl (by decide) rfl (fun ls hl => ?_)
  refine lv_iconst (v := 0) hx hb dX3_reopenStamped_2 (by decide) ?_
  refine lv_istore (lv' := [(4, .int 0), (3, .int 0), (0, .ref (ad 0)), (1, .int (nI t)), (2, .int (nI f))]) hx hb dX3_reopenStamped_3 hl (by decide) rfl (fun ls hl => ?_)
  rw [← cRo_0 g t f] at hP
  have hloop5 : ∀ (d : Nat) (r : Nat) (k : Nat), r + d = rc → k = nRo g t f r → ∀ (H : Heap) (locs : List Loc), va_P Z.1 vwCl (iw 115 (cF ad Z.2.1 (cRo g t f r))) H → va_S (fx_A 115 ad s.heap.size) s.heap H locs → ∀ ls : Array Slot, lv_has ls 5 [(0, .ref (ad 0)), (1, .int (nI t)), (2, .int (nI f)), (3, .int (nI k)), (4, .int (nI r))] → W p l e (headSpec (fx_l yX3_reopenStamped cX3_reopenStamped 5 (some .int)) { frames := 1, cells := 0, slots := 0, locals := 23 }).room s m ([.ref (ad 0), .int (nI t), .int (nI f)] : List Value).toArray below meth c H locs 0 0 (vx_MQ below (fx_post Z 115 ad (cF ad Z.2.1) (pI (nI (nRo g t f rc)) (cRo g t f rc)) s.heap.size) (fx_px Z 115 ad (cF ad Z.2.1 g) (fun _ => False) s.heap.size) ([.ref (ad 0), .int (nI t), .int (nI f)] : List Value).toArray s 0 0 (fx_A 115 ad s.heap.size)) (F0 m 5 ls []) := by
    intro d
    induction d with
    | zero =>
      intro r k hd hk H locs hP hS ls hl
      have hrc9 : cRo g t f r 0 0 = nI rc := by rw [cRo_k (by decide) (by decide)]; exact hrc
      refine lv_iload hx hb dX3_reopenStamped_5 (lv_at hl 4 rfl) ?_
      refine lv_aload_n hx hb dX3_reopenStamped_7 rfl (lv_at hl 0 rfl) ?_
      refine cg_receiptCount K hP dX3_reopenStamped_8 ?_
      rw [hrc9]
      refine lv_icmp_ge (tgt := 51) hx hb dX3_reopenStamped_11 (by decide) (fun _ => ?_) (fun c1 => absurd (nI_le (by omega) (by omega)) c1)
      refine lv_iload_n hx hb dX3_reopenStamped_51 rfl (lv_at hl 3 rfl) ?_
      exact fx_reti hx hb hr hlocks hP hS (Nat.le_of_ble_eq_true rfl) (Nat.le_of_ble_eq_true rfl) dX3_reopenStamped_52 ⟨(by rw [hk, show r = rc by omega]), (by rw [show r = rc by omega])⟩
    | succ d ih5 =>
      intro r k hd hk H locs hP hS ls hl
      have hrc9 : cRo g t f r 0 0 = nI rc := by rw [cRo_k (by decide) (by decide)]; exact hrc
      refine lv_iload hx hb dX3_reopenStamped_5 (lv_at hl 4 rfl) ?_
      refine lv_aload_n hx hb dX3_reopenStamped_7 rfl (lv_at hl 0 rfl) ?_
      refine cg_receiptCount K hP dX3_reopenStamped_8 ?_
      rw [hrc9]
      refine lv_icmp_ge (tgt := 51) hx hb dX3_reopenStamped_11 (by decide) (fun c2 => absurd c2 (nI_ge (by omega) (by omega))) (fun _ => ?_)
      refine lv_aload_n hx hb dX3_reopenStamped_14 rfl (lv_at hl 0 rfl) ?_
      refine lv_aload_n hx hb dX3_reopenStamped_15 rfl (lv_at hl 0 rfl) ?_
      refine cg_receipts K hP dX3_reopenStamped_16 ?_
      refine lv_iload hx hb dX3_reopenStamped_19 (lv_at hl 4 rfl) ?_
      refine c_aldR K hP (by omega) dX3_reopenStamped_21 ?_
      refine lv_iload_n hx hb dX3_reopenStamped_22 rfl (lv_at hl 1 rfl) ?_
      refine lv_iload_n hx hb dX3_reopenStamped_23 rfl (lv_at hl 2 rfl) ?_
      refine c_callb (rest := []) K hP hS (c_X3_isStampedFor l hfl Z ad hinj (cRo g t f r) r t f (by omega)) ok_X3_247 rfl ⟨Nat.le_of_ble_eq_true rfl, Nat.le_of_ble_eq_true rfl⟩ rfl hl.1 (Nat.le_of_ble_eq_true rfl) ⟨Nat.le_of_ble_eq_true rfl, Nat.le_of_ble_eq_true rfl⟩ dX3_reopenStamped_24 (fun c3 H locs hP hS => ?_) (fun c3 H locs hP hS => ?_)
      · refine lv_if_eq (tgt := 45) hx hb dX3_reopenStamped_27 (by decide) (fun c4 => absurd c4 (by decide)) (fun _ => ?_)
        refine lv_aload_n hx hb dX3_reopenStamped_30 rfl (lv_at hl 0 rfl) ?_
        refine lv_aload_n hx hb dX3_reopenStamped_31 rfl (lv_at hl 0 rfl) ?_
        refine cg_receipts K hP dX3_reopenStamped_32 ?_
        refine lv_iload hx hb dX3_reopenStamped_35 (lv_at hl 4 rfl) ?_
        refine c_aldR K hP (by omega) dX3_reopenStamped_37 ?_
        refine lv_iconst (v := 0) hx hb dX3_reopenStamped_38 (by decide) ?_
        refine c_callv (rest := []) K hP hS (c_X3_takeStampOff l hfl Z ad hinj (cRo g t f r) r 0 (by omega)) ok_X3_163 rfl ⟨Nat.le_of_ble_eq_true rfl, Nat.le_of_ble_eq_true rfl⟩ rfl hl.1 (Nat.le_of_ble_eq_true rfl) ⟨Nat.le_of_ble_eq_true rfl, Nat.le_of_ble_eq_true rfl⟩ dX3_reopenStamped_39 (fun H locs hP hS => ?_)
        obtain ⟨h5, e5⟩ : ∃ z : St, z = (u2 (u2 (cRo g t f r) 7 r 0) 8 r (-1)) := ⟨_, rfl⟩
        rw [← e5] at hP
        refine lv_iinc (v := nI (k + 1)) (lv' := [(3, .int (nI (k + 1))), (0, .ref (ad 0)), (1, .int (nI t)), (2, .int (nI f)), (4, .int (nI r))]) hx hb dX3_reopenStamped_42 hl (k := 3) rfl (nI_1 _) (by decide) rfl (fun ls hl => ?_)
        refine lv_iinc (v := nI (r + 1)) (lv' := [(4, .int (nI (r + 1))), (3, .int (nI (k + 1))), (0, .ref (ad 0)), (1, .int (nI t)), (2, .int (nI f))]) hx hb dX3_reopenStamped_45 hl (k := 4) rfl (nI_1 _) (by decide) rfl (fun ls hl => ?_)
        refine lv_goto (tgt := 5) hx hb dX3_reopenStamped_48 (by decide) ?_
        rw [show h5 = cRo g t f (r + 1) from by rw [e5]; exact cRo_s c3.1 c3.2.1 c3.2.2] at hP
        exact ih5 (r + 1) (k + 1) (by omega) (by rw [nRo_t c3.1 c3.2.1 c3.2.2, hk]) H locs hP hS ls (lv_sub hl [2, 3, 4, 1, 0] rfl)
      · refine lv_if_eq (tgt := 45) hx hb dX3_reopenStamped_27 (by decide) (fun _ => ?_) (fun c6 => absurd (by decide) c6)
        refine lv_iinc (v := nI (r + 1)) (lv' := [(4, .int (nI (r + 1))), (0, .ref (ad 0)), (1, .int (nI t)), (2, .int (nI f)), (3, .int (nI k))]) hx hb dX3_reopenStamped_45 hl (k := 4) rfl (nI_1 _) (by decide) rfl (fun ls hl => ?_)
        refine lv_goto (tgt := 5) hx hb dX3_reopenStamped_48 (by decide) ?_
        rw [show cRo g t f r = cRo g t f (r + 1) from cRo_n c3] at hP
        exact ih5 (r + 1) k (by omega) (by rw [nRo_f c3, hk]) H locs hP hS ls (lv_sub hl [1, 2, 3, 4, 0] rfl)
  exact hloop5 rc 0 0 (by omega) rfl s.heap [] hP hS ls (lv_sub hl [2, 3, 4, 1, 0] rfl)

set_option maxHeartbeats 4000000 in
set_option maxRecDepth 100000 in
theorem c_X3_payStamped (l : Launch) (hfl : l.stackTraces = false) (Z : fx_Z) (ad : Nat → Nat) (hinj : fx_inj 115 ad) (g : St) (rc : Nat) (t : Nat) (f : Nat) (ht9 : t < 10) (hrc : g 0 0 = nI rc) (hr6 : rc ≤ 60) : fx_C l Z yX3_payStamped cX3_payStamped 6 none 1 40 0 0 115 ad (cF ad Z.2.1) g [.ref (ad 0), .int (nI t), .int (nI f)] (pV ((cPy g t f rc).1)) (fun _ => False) := by
  intro sz
  refine vx_ofW (cc := cX3_payStamped) (maxL := 6) (ret := none) (by decide) rfl ?_
  intro p e s m args below meth c s₁ B hml hout hv
  obtain ⟨rfl, hsz, hP, hE, hSt⟩ := hv
  subst hsz
  have hx := B.exec
  have hb := B.bytes
  have hr := B.returns
  have hown : s.vm.findClass RX3 = some m.cls := findClass_of_methodNamed B.named
  have hlocks := B.notSynchronized
  have K : c_K p l s m ([.ref (ad 0), .int (nI t), .int (nI f)] : List Value).toArray c cX3_payStamped 6 Z ad := ⟨hx, hb, hml, hown, fun w hw => atoms_spec (ws := fx_l yX3_payStamped cX3_payStamped 6 none) B.pre w (List.mem_cons_of_mem _ hw), hE, hSt, hinj, hfl⟩
  have hS : va_S (fx_A 115 ad s.heap.size) s.heap s.heap [] := va_S.rf
  have hl := lv_entry ([.ref (ad 0), .int (nI t), .int (nI f)]) (n := 6) (Nat.le_of_ble_eq_true rfl)
  rw [lg_entry_eq]
  generalize (lg_sl ([.ref (ad 0), .int (nI t), .int (nI f)]) ++ List.replicate (6 - (lg_sl ([.ref (ad 0), .int (nI t), .int (nI f)])).length) Slot.unset).toArray = ls at hl ⊢
  have hl : lv_has ls 6 [(0, .ref (ad 0)), (1, .int (nI t)), (2, .int (nI f))] := hl
  refine lv_sipush (v := 500) hx hb dX3_payStamped_0 (by decide) ?_
  refine lv_istore_n (lv' := [(3, .int 500), (0, .ref (ad 0)), (1, .int (nI t)), (2, .int (nI f))]) hx hb dX3_payStamped_3 rfl hl (by decide) rfl (fun ls hl => ?_)
  refine lv_iconst (v := 0) hx hb dX3_payStamped_4 (by decide) ?_
  refine lv_istore (lv' := [(4, .int 0), (3, .int 500), (0, .ref (ad 0)), (1, .int (nI t)), (2, .int (nI f))]) hx hb dX3_payStamped_5 hl (by decide) rfl (fun ls hl => ?_)
  rw [← cPy_0 g t f] at hP
  have hloop7 : ∀ (d : Nat) (r : Nat) (x : Int32), r + d = rc → x = (cPy g t f r).2 → ∀ (H : Heap) (locs : List Loc), va_P Z.1 vwCl (iw 115 (cF ad Z.2.1 ((cPy g t f r).1))) H → va_S (fx_A 115 ad s.heap.size) s.heap H locs → ∀ ls : Array Slot, lv_has ls 6 [(0, .ref (ad 0)), (1, .int (nI t)), (2, .int (nI f)), (3, .int x), (4, .int (nI r))] → W p l e (headSpec (fx_l yX3_payStamped cX3_payStamped 6 none) { frames := 1, cells := 0, slots := 0, locals := 40 }).room s m ([.ref (ad 0), .int (nI t), .int (nI f)] : List Value).toArray below meth c H locs 0 0 (vx_MQ below (fx_post Z 115 ad (cF ad Z.2.1) (pV ((cPy g t f rc).1)) s.heap.size) (fx_px Z 115 ad (cF ad Z.2.1 g) (fun _ => False) s.heap.size) ([.ref (ad 0), .int (nI t), .int (nI f)] : List Value).toArray s 0 0 (fx_A 115 ad s.heap.size)) (F0 m 7 ls []) := by
    intro d
    induction d with
    | zero =>
      intro r x hd hx2 H locs hP hS ls hl
      have hrc9 : (cPy g t f r).1 0 0 = nI rc := by rw [cPy_k (by decide)]; exact hrc
      refine lv_iload hx hb dX3_payStamped_7 (lv_at hl 4 rfl) ?_
      refine lv_aload_n hx hb dX3_payStamped_9 rfl (lv_at hl 0 rfl) ?_
      refine cg_receiptCount K hP dX3_payStamped_10 ?_
      rw [hrc9]
      refine lv_icmp_ge (tgt := 93) hx hb dX3_payStamped_13 (by decide) (fun _ => ?_) (fun c1 => absurd (nI_le (by omega) (by omega)) c1)
      exact fx_retv hx hb hr hlocks hP hS (Nat.le_of_ble_eq_true rfl) (Nat.le_of_ble_eq_true rfl) dX3_payStamped_93 ⟨rfl, (by rw [show r = rc by omega])⟩
    | succ d ih7 =>
      intro r x hd hx2 H locs hP hS ls hl
      have hrc9 : (cPy g t f r).1 0 0 = nI rc := by rw [cPy_k (by decide)]; exact hrc
      refine lv_iload hx hb dX3_payStamped_7 (lv_at hl 4 rfl) ?_
      refine lv_aload_n hx hb dX3_payStamped_9 rfl (lv_at hl 0 rfl) ?_
      refine cg_receiptCount K hP dX3_payStamped_10 ?_
      rw [hrc9]
      refine lv_icmp_ge (tgt := 93) hx hb dX3_payStamped_13 (by decide) (fun c2 => absurd c2 (nI_ge (by omega) (by omega))) (fun _ => ?_)
      refine lv_aload_n hx hb dX3_payStamped_16 rfl (lv_at hl 0 rfl) ?_
      refine cg_receipts K hP dX3_payStamped_17 ?_
      refine lv_iload hx hb dX3_payStamped_20 (lv_at hl 4 rfl) ?_
      refine c_aldR K hP (by omega) dX3_payStamped_22 ?_
      refine lv_astore (lv' := [(5, .ref (ad (5 + r))), (0, .ref (ad 0)), (1, .int (nI t)), (2, .int (nI f)), (3, .int x), (4, .int (nI r))]) hx hb dX3_payStamped_23 hl (by decide) rfl (fun ls hl => ?_)
      refine lv_aload_n hx hb dX3_payStamped_25 rfl (lv_at hl 1 rfl) ?_
      refine lv_aload hx hb dX3_payStamped_26 (lv_at hl 0 rfl) ?_
      refine lv_iload_n hx hb dX3_payStamped_28 rfl (lv_at hl 2 rfl) ?_
      refine lv_iload_n hx hb dX3_payStamped_29 rfl (lv_at hl 3 rfl) ?_
      refine c_callb (rest := []) K hP hS (c_X3_isStampedFor l hfl Z ad hinj ((cPy g t f r).1) r t f (by omega)) ok_X3_247 rfl ⟨Nat.le_of_ble_eq_true rfl, Nat.le_of_ble_eq_true rfl⟩ rfl hl.1 (Nat.le_of_ble_eq_true rfl) ⟨Nat.le_of_ble_eq_true rfl, Nat.le_of_ble_eq_true rfl⟩ dX3_payStamped_30 (fun c3 H locs hP hS => ?_) (fun c3 H locs hP hS => ?_)
      · refine lv_if_eq (tgt := 87) hx hb dX3_payStamped_33 (by decide) (fun c4 => absurd c4 (by decide)) (fun _ => ?_)
        refine lv_aload hx hb dX3_payStamped_36 (lv_at hl 0 rfl) ?_
        refine lv_iconst (v := 2) hx hb dX3_payStamped_38 (by decide) ?_
        refine cpR_state K hP hS (by omega) dX3_payStamped_39 (fun h5 H locs e5 hP hS => ?_)
        refine lv_aload hx hb dX3_payStamped_42 (lv_at hl 0 rfl) ?_
        refine lv_aload_n hx hb dX3_payStamped_44 rfl (lv_at hl 1 rfl) ?_
        refine lv_aload hx hb dX3_payStamped_45 (lv_at hl 0 rfl) ?_
        refine cgR_tax K hP (by omega) dX3_payStamped_47 ?_
        rw [show h5 5 r = ((cPy g t f r).1) 5 r from by rw [e5, u2_off _ _ (by omega)]]
        refine c_calli (rest := [.ref (ad (5 + r))]) K hP hS (c_X3_refundOfTax l hfl Z ad hinj h5 (((cPy g t f r).1) 5 r)) ok_X3_261 rfl ⟨Nat.le_of_ble_eq_true rfl, Nat.le_of_ble_eq_true rfl⟩ rfl hl.1 (Nat.le_of_ble_eq_true rfl) ⟨Nat.le_of_ble_eq_true rfl, Nat.le_of_ble_eq_true rfl⟩ dX3_payStamped_50 (fun H locs hP hS => ?_)
        refine lv_topi (fun v6 e6 => ?_)
        refine lv_iload_n hx hb dX3_payStamped_53 rfl (lv_at hl 4 rfl) ?_
        refine c_min (rest := [.ref (ad (5 + r))]) K hl.1 (Nat.le_of_ble_eq_true rfl) (Nat.le_of_ble_eq_true rfl) (Nat.le_of_ble_eq_true rfl) (Nat.le_of_ble_eq_true rfl) dX3_payStamped_54 ?_
        refine lv_topi (fun v7 e7 => ?_)
        refine cpR_refund K hP hS (by omega) dX3_payStamped_57 (fun h8 H locs e8 hP hS => ?_)
        refine lv_iload_n hx hb dX3_payStamped_60 rfl (lv_at hl 4 rfl) ?_
        refine lv_aload hx hb dX3_payStamped_61 (lv_at hl 0 rfl) ?_
        refine cgR_refund K hP (by omega) dX3_payStamped_63 ?_
        rw [show h8 9 r = v7 from by rw [e8, u2_self]]
        refine lv_isub hx hb dX3_payStamped_66 ?_
        refine lv_topi (fun v9 e9 => ?_)
        refine lv_istore_n (lv' := [(3, .int v9), (5, .ref (ad (5 + r))), (0, .ref (ad 0)), (1, .int (nI t)), (2, .int (nI f)), (4, .int (nI r))]) hx hb dX3_payStamped_67 rfl hl (by decide) rfl (fun ls hl => ?_)
        refine lv_aload_n hx hb dX3_payStamped_68 rfl (lv_at hl 2 rfl) ?_
        refine cg_travellers K hP dX3_payStamped_69 ?_
        refine lv_iload_n hx hb dX3_payStamped_72 rfl (lv_at hl 3 rfl) ?_
        refine c_aldT K hP (by omega) dX3_payStamped_73 ?_
        refine lv_dup hx hb dX3_payStamped_74 rfl ?_
        refine cgT_refunds K hP (by omega) dX3_payStamped_75 ?_
        rw [show h8 20 t = ((cPy g t f r).1) 20 t from by rw [e8, u2_off _ _ (by omega), e5, u2_off _ _ (by omega)]]
        refine lv_aload hx hb dX3_payStamped_78 (lv_at hl 1 rfl) ?_
        refine cgR_refund K hP (by omega) dX3_payStamped_80 ?_
        rw [show h8 9 r = v7 from by rw [e8, u2_self]]
        refine lv_iadd hx hb dX3_payStamped_83 ?_
        refine lv_topi (fun v10 e10 => ?_)
        refine cpT_refunds K hP hS (by omega) dX3_payStamped_84 (fun h11 H locs e11 hP hS => ?_)
        refine lv_iinc (v := nI (r + 1)) (lv' := [(4, .int (nI (r + 1))), (3, .int v9), (5, .ref (ad (5 + r))), (0, .ref (ad 0)), (1, .int (nI t)), (2, .int (nI f))]) hx hb dX3_payStamped_87 hl (k := 5) rfl (nI_1 _) (by decide) rfl (fun ls hl => ?_)
        refine lv_goto (tgt := 7) hx hb dX3_payStamped_90 (by decide) ?_
        rw [show h11 = (cPy g t f (r + 1)).1 from by rw [cPy_t c3]; simp only [payOne, mnR, e5, e6, e7, e8, e9, e10, e11, hx2]] at hP
        exact ih7 (r + 1) v9 (by omega) (by rw [cPy_t c3]; simp only [payOne, mnR, e5, e6, e7, e8, e9, e10, e11, hx2]) H locs hP hS ls (lv_sub hl [3, 4, 5, 1, 0] rfl)
      · refine lv_if_eq (tgt := 87) hx hb dX3_payStamped_33 (by decide) (fun _ => ?_) (fun c12 => absurd (by decide) c12)
        refine lv_iinc (v := nI (r + 1)) (lv' := [(4, .int (nI (r + 1))), (5, .ref (ad (5 + r))), (0, .ref (ad 0)), (1, .int (nI t)), (2, .int (nI f)), (3, .int x)]) hx hb dX3_payStamped_87 hl (k := 5) rfl (nI_1 _) (by decide) rfl (fun ls hl => ?_)
        refine lv_goto (tgt := 7) hx hb dX3_payStamped_90 (by decide) ?_
        rw [show (cPy g t f r).1 = (cPy g t f (r + 1)).1 from by rw [cPy_f c3]] at hP
        exact ih7 (r + 1) x (by omega) (by rw [cPy_f c3, hx2]) H locs hP hS ls (lv_sub hl [2, 3, 4, 5, 0] rfl)
  exact hloop7 rc 0 500 (by omega) rfl s.heap [] hP hS ls (lv_sub hl [2, 3, 4, 1, 0] rfl)

set_option maxHeartbeats 4000000 in
set_option maxRecDepth 100000 in
theorem c_X3_wasteStamped (l : Launch) (hfl : l.stackTraces = false) (Z : fx_Z) (ad : Nat → Nat) (hinj : fx_inj 115 ad) (g : St) (rc : Nat) (t : Nat) (f : Nat) (hrc : g 0 0 = nI rc) (hr6 : rc ≤ 60) : fx_C l Z yX3_wasteStamped cX3_wasteStamped 5 none 1 23 0 0 115 ad (cF ad Z.2.1) g [.ref (ad 0), .int (nI t), .int (nI f)] (pV (cWs g t f rc)) (fun _ => False) := by
  intro sz
  refine vx_ofW (cc := cX3_wasteStamped) (maxL := 5) (ret := none) (by decide) rfl ?_
  intro p e s m args below meth c s₁ B hml hout hv
  obtain ⟨rfl, hsz, hP, hE, hSt⟩ := hv
  subst hsz
  have hx := B.exec
  have hb := B.bytes
  have hr := B.returns
  have hown : s.vm.findClass RX3 = some m.cls := findClass_of_methodNamed B.named
  have hlocks := B.notSynchronized
  have K : c_K p l s m ([.ref (ad 0), .int (nI t), .int (nI f)] : List Value).toArray c cX3_wasteStamped 5 Z ad := ⟨hx, hb, hml, hown, fun w hw => atoms_spec (ws := fx_l yX3_wasteStamped cX3_wasteStamped 5 none) B.pre w (List.mem_cons_of_mem _ hw), hE, hSt, hinj, hfl⟩
  have hS : va_S (fx_A 115 ad s.heap.size) s.heap s.heap [] := va_S.rf
  have hl := lv_entry ([.ref (ad 0), .int (nI t), .int (nI f)]) (n := 5) (Nat.le_of_ble_eq_true rfl)
  rw [lg_entry_eq]
  generalize (lg_sl ([.ref (ad 0), .int (nI t), .int (nI f)]) ++ List.replicate (5 - (lg_sl ([.ref (ad 0), .int (nI t), .int (nI f)])).length) Slot.unset).toArray = ls at hl ⊢
  have hl : lv_has ls 5 [(0, .ref (ad 0)), (1, .int (nI t)), (2, .int (nI f))] := hl
  refine lv_iconst (v := 0) hx hb dX3_wasteStamped_0 (by decide) ?_
  refine lv_istore_n (lv' := [(3, .int 0), (0, .ref (ad 0)), (1, .int (nI t)), (2, .int (nI f))]) hx hb dX3_wasteStamped_1 rfl hl (by decide) rfl (fun ls hl => ?_)
  rw [← cWs_0 g t f] at hP
  have hloop2 : ∀ (d : Nat) (r : Nat), r + d = rc → ∀ (H : Heap) (locs : List Loc), va_P Z.1 vwCl (iw 115 (cF ad Z.2.1 (cWs g t f r))) H → va_S (fx_A 115 ad s.heap.size) s.heap H locs → ∀ ls : Array Slot, lv_has ls 5 [(0, .ref (ad 0)), (1, .int (nI t)), (2, .int (nI f)), (3, .int (nI r))] → W p l e (headSpec (fx_l yX3_wasteStamped cX3_wasteStamped 5 none) { frames := 1, cells := 0, slots := 0, locals := 23 }).room s m ([.ref (ad 0), .int (nI t), .int (nI f)] : List Value).toArray below meth c H locs 0 0 (vx_MQ below (fx_post Z 115 ad (cF ad Z.2.1) (pV (cWs g t f rc)) s.heap.size) (fx_px Z 115 ad (cF ad Z.2.1 g) (fun _ => False) s.heap.size) ([.ref (ad 0), .int (nI t), .int (nI f)] : List Value).toArray s 0 0 (fx_A 115 ad s.heap.size)) (F0 m 2 ls []) := by
    intro d
    induction d with
    | zero =>
      intro r hd H locs hP hS ls hl
      have hrc9 : cWs g t f r 0 0 = nI rc := by rw [cWs_k (by decide)]; exact hrc
      refine lv_iload_n hx hb dX3_wasteStamped_2 rfl (lv_at hl 3 rfl) ?_
      refine lv_aload_n hx hb dX3_wasteStamped_3 rfl (lv_at hl 0 rfl) ?_
      refine cg_receiptCount K hP dX3_wasteStamped_4 ?_
      rw [hrc9]
      refine lv_icmp_ge (tgt := 66) hx hb dX3_wasteStamped_7 (by decide) (fun _ => ?_) (fun c1 => absurd (nI_le (by omega) (by omega)) c1)
      exact fx_retv hx hb hr hlocks hP hS (Nat.le_of_ble_eq_true rfl) (Nat.le_of_ble_eq_true rfl) dX3_wasteStamped_66 ⟨rfl, (by rw [show r = rc by omega])⟩
    | succ d ih2 =>
      intro r hd H locs hP hS ls hl
      have hrc9 : cWs g t f r 0 0 = nI rc := by rw [cWs_k (by decide)]; exact hrc
      refine lv_iload_n hx hb dX3_wasteStamped_2 rfl (lv_at hl 3 rfl) ?_
      refine lv_aload_n hx hb dX3_wasteStamped_3 rfl (lv_at hl 0 rfl) ?_
      refine cg_receiptCount K hP dX3_wasteStamped_4 ?_
      rw [hrc9]
      refine lv_icmp_ge (tgt := 66) hx hb dX3_wasteStamped_7 (by decide) (fun c2 => absurd c2 (nI_ge (by omega) (by omega))) (fun _ => ?_)
      refine lv_aload_n hx hb dX3_wasteStamped_10 rfl (lv_at hl 0 rfl) ?_
      refine cg_receipts K hP dX3_wasteStamped_11 ?_
      refine lv_iload_n hx hb dX3_wasteStamped_14 rfl (lv_at hl 3 rfl) ?_
      refine c_aldR K hP (by omega) dX3_wasteStamped_15 ?_
      refine lv_astore (lv' := [(4, .ref (ad (5 + r))), (0, .ref (ad 0)), (1, .int (nI t)), (2, .int (nI f)), (3, .int (nI r))]) hx hb dX3_wasteStamped_16 hl (by decide) rfl (fun ls hl => ?_)
      refine lv_aload_n hx hb dX3_wasteStamped_18 rfl (lv_at hl 1 rfl) ?_
      refine lv_aload hx hb dX3_wasteStamped_19 (lv_at hl 0 rfl) ?_
      refine lv_iload_n hx hb dX3_wasteStamped_21 rfl (lv_at hl 2 rfl) ?_
      refine lv_iload_n hx hb dX3_wasteStamped_22 rfl (lv_at hl 3 rfl) ?_
      refine c_callb (rest := []) K hP hS (c_X3_isStampedFor l hfl Z ad hinj (cWs g t f r) r t f (by omega)) ok_X3_247 rfl ⟨Nat.le_of_ble_eq_true rfl, Nat.le_of_ble_eq_true rfl⟩ rfl hl.1 (Nat.le_of_ble_eq_true rfl) ⟨Nat.le_of_ble_eq_true rfl, Nat.le_of_ble_eq_true rfl⟩ dX3_wasteStamped_23 (fun c3 H locs hP hS => ?_) (fun c3 H locs hP hS => ?_)
      · refine lv_if_eq (tgt := 60) hx hb dX3_wasteStamped_26 (by decide) (fun c4 => absurd c4 (by decide)) (fun _ => ?_)
        refine lv_aload hx hb dX3_wasteStamped_29 (lv_at hl 0 rfl) ?_
        refine lv_dup hx hb dX3_wasteStamped_31 rfl ?_
        refine cgR_wastedStamps K hP (by omega) dX3_wasteStamped_32 ?_
        refine lv_iconst (v := 1) hx hb dX3_wasteStamped_35 (by decide) ?_
        refine lv_iadd hx hb dX3_wasteStamped_36 ?_
        refine lv_topi (fun v5 e5 => ?_)
        refine cpR_wastedStamps K hP hS (by omega) dX3_wasteStamped_37 (fun h6 H locs e6 hP hS => ?_)
        refine lv_aload_n hx hb dX3_wasteStamped_40 rfl (lv_at hl 1 rfl) ?_
        refine lv_aload hx hb dX3_wasteStamped_41 (lv_at hl 0 rfl) ?_
        refine lv_aload hx hb dX3_wasteStamped_43 (lv_at hl 0 rfl) ?_
        refine cgR_wastedStamps K hP (by omega) dX3_wasteStamped_45 ?_
        rw [show h6 10 r = v5 from by rw [e6, u2_self]]
        refine lv_iconst (v := 2) hx hb dX3_wasteStamped_48 (by decide) ?_
        refine lv_icmp_lt (tgt := 56) hx hb dX3_wasteStamped_49 (by decide) (fun c7 => ?_) (fun c7 => ?_)
        · refine lv_iconst (v := 0) hx hb dX3_wasteStamped_56 (by decide) ?_
          rw [show (0 : Int32) = (if cWs g t f r 10 r + 1 < 2 then 0 else 3) from by subst e5; simp [c7]]
          refine c_callv (rest := []) K hP hS (c_X3_takeStampOff l hfl Z ad hinj h6 r (if cWs g t f r 10 r + 1 < 2 then 0 else 3) (by omega)) ok_X3_163 rfl ⟨Nat.le_of_ble_eq_true rfl, Nat.le_of_ble_eq_true rfl⟩ rfl hl.1 (Nat.le_of_ble_eq_true rfl) ⟨Nat.le_of_ble_eq_true rfl, Nat.le_of_ble_eq_true rfl⟩ dX3_wasteStamped_57 (fun H locs hP hS => ?_)
          obtain ⟨h8, e8⟩ : ∃ z : St, z = (u2 (u2 h6 7 r (if cWs g t f r 10 r + 1 < 2 then 0 else 3)) 8 r (-1)) := ⟨_, rfl⟩
          rw [← e8] at hP
          refine lv_iinc (v := nI (r + 1)) (lv' := [(3, .int (nI (r + 1))), (4, .ref (ad (5 + r))), (0, .ref (ad 0)), (1, .int (nI t)), (2, .int (nI f))]) hx hb dX3_wasteStamped_60 hl (k := 4) rfl (nI_1 _) (by decide) rfl (fun ls hl => ?_)
          refine lv_goto (tgt := 2) hx hb dX3_wasteStamped_63 (by decide) ?_
          rw [show h8 = cWs g t f (r + 1) from by rw [cWs_t c3]; simp only [wstOne, e5, e6, e8]] at hP
          exact ih2 (r + 1) (by omega) H locs hP hS ls (lv_sub hl [2, 3, 4, 0] rfl)
        · refine lv_iconst (v := 3) hx hb dX3_wasteStamped_52 (by decide) ?_
          refine lv_goto (tgt := 57) hx hb dX3_wasteStamped_53 (by decide) ?_
          rw [show (3 : Int32) = (if cWs g t f r 10 r + 1 < 2 then 0 else 3) from by subst e5; simp [c7]]
          refine c_callv (rest := []) K hP hS (c_X3_takeStampOff l hfl Z ad hinj h6 r (if cWs g t f r 10 r + 1 < 2 then 0 else 3) (by omega)) ok_X3_163 rfl ⟨Nat.le_of_ble_eq_true rfl, Nat.le_of_ble_eq_true rfl⟩ rfl hl.1 (Nat.le_of_ble_eq_true rfl) ⟨Nat.le_of_ble_eq_true rfl, Nat.le_of_ble_eq_true rfl⟩ dX3_wasteStamped_57 (fun H locs hP hS => ?_)
          obtain ⟨h9, e9⟩ : ∃ z : St, z = (u2 (u2 h6 7 r (if cWs g t f r 10 r + 1 < 2 then 0 else 3)) 8 r (-1)) := ⟨_, rfl⟩
          rw [← e9] at hP
          refine lv_iinc (v := nI (r + 1)) (lv' := [(3, .int (nI (r + 1))), (4, .ref (ad (5 + r))), (0, .ref (ad 0)), (1, .int (nI t)), (2, .int (nI f))]) hx hb dX3_wasteStamped_60 hl (k := 4) rfl (nI_1 _) (by decide) rfl (fun ls hl => ?_)
          refine lv_goto (tgt := 2) hx hb dX3_wasteStamped_63 (by decide) ?_
          rw [show h9 = cWs g t f (r + 1) from by rw [cWs_t c3]; simp only [wstOne, e5, e6, e9]] at hP
          exact ih2 (r + 1) (by omega) H locs hP hS ls (lv_sub hl [2, 3, 4, 0] rfl)
      · refine lv_if_eq (tgt := 60) hx hb dX3_wasteStamped_26 (by decide) (fun _ => ?_) (fun c10 => absurd (by decide) c10)
        refine lv_iinc (v := nI (r + 1)) (lv' := [(3, .int (nI (r + 1))), (4, .ref (ad (5 + r))), (0, .ref (ad 0)), (1, .int (nI t)), (2, .int (nI f))]) hx hb dX3_wasteStamped_60 hl (k := 4) rfl (nI_1 _) (by decide) rfl (fun ls hl => ?_)
        refine lv_goto (tgt := 2) hx hb dX3_wasteStamped_63 (by decide) ?_
        rw [show cWs g t f r = cWs g t f (r + 1) from by rw [cWs_f c3]] at hP
        exact ih2 (r + 1) (by omega) H locs hP hS ls (lv_sub hl [2, 3, 4, 0] rfl)
  exact hloop2 rc 0 (by omega) s.heap [] hP hS ls (lv_sub hl [1, 2, 3, 0] rfl)

set_option maxHeartbeats 4000000 in
set_option maxRecDepth 100000 in
theorem c_X3_sail (l : Launch) (hfl : l.stackTraces = false) (Z : fx_Z) (ad : Nat → Nat) (hinj : fx_inj 115 ad) (g : St) (rc : Nat) (f : Nat) (hf : f < 20) (hrc : g 0 0 = nI rc) (hr6 : rc ≤ 60) : fx_C l Z yX3_sail cX3_sail 4 none 2 65 0 0 115 ad (cF ad Z.2.1) g [.ref (ad 0), .int (nI f)] (pV (cSl g f rc 10)) (fun _ => False) := by
  intro sz
  refine vx_ofW (cc := cX3_sail) (maxL := 4) (ret := none) (by decide) rfl ?_
  intro p e s m args below meth c s₁ B hml hout hv
  obtain ⟨rfl, hsz, hP, hE, hSt⟩ := hv
  subst hsz
  have hx := B.exec
  have hb := B.bytes
  have hr := B.returns
  have hown : s.vm.findClass RX3 = some m.cls := findClass_of_methodNamed B.named
  have hlocks := B.notSynchronized
  have K : c_K p l s m ([.ref (ad 0), .int (nI f)] : List Value).toArray c cX3_sail 4 Z ad := ⟨hx, hb, hml, hown, fun w hw => atoms_spec (ws := fx_l yX3_sail cX3_sail 4 none) B.pre w (List.mem_cons_of_mem _ hw), hE, hSt, hinj, hfl⟩
  have hS : va_S (fx_A 115 ad s.heap.size) s.heap s.heap [] := va_S.rf
  have hl := lv_entry ([.ref (ad 0), .int (nI f)]) (n := 4) (Nat.le_of_ble_eq_true rfl)
  rw [lg_entry_eq]
  generalize (lg_sl ([.ref (ad 0), .int (nI f)]) ++ List.replicate (4 - (lg_sl ([.ref (ad 0), .int (nI f)])).length) Slot.unset).toArray = ls at hl ⊢
  have hl : lv_has ls 4 [(0, .ref (ad 0)), (1, .int (nI f))] := hl
  refine lv_aload_n hx hb dX3_sail_0 rfl (lv_at hl 0 rfl) ?_
  refine cg_ferries K hP dX3_sail_1 ?_
  refine lv_iload_n hx hb dX3_sail_4 rfl (lv_at hl 1 rfl) ?_
  refine c_aldF K hP (by omega) dX3_sail_5 ?_
  refine cgF_places K hP (by omega) dX3_sail_6 ?_
  refine lv_astore_n (lv' := [(2, .ref (ad (85 + f))), (0, .ref (ad 0)), (1, .int (nI f))]) hx hb dX3_sail_9 rfl hl (by decide) rfl (fun ls hl => ?_)
  refine lv_iconst (v := 0) hx hb dX3_sail_10 (by decide) ?_
  refine lv_istore_n (lv' := [(3, .int 0), (2, .ref (ad (85 + f))), (0, .ref (ad 0)), (1, .int (nI f))]) hx hb dX3_sail_11 rfl hl (by decide) rfl (fun ls hl => ?_)
  rw [← cSl_0 g f rc] at hP
  have hloop12 : ∀ (d : Nat) (t : Nat), t + d = 10 → ∀ (H : Heap) (locs : List Loc), va_P Z.1 vwCl (iw 115 (cF ad Z.2.1 (cSl g f rc t))) H → va_S (fx_A 115 ad s.heap.size) s.heap H locs → ∀ ls : Array Slot, lv_has ls 4 [(0, .ref (ad 0)), (1, .int (nI f)), (2, .ref (ad (85 + f))), (3, .int (nI t))] → W p l e (headSpec (fx_l yX3_sail cX3_sail 4 none) { frames := 2, cells := 0, slots := 0, locals := 65 }).room s m ([.ref (ad 0), .int (nI f)] : List Value).toArray below meth c H locs 0 0 (vx_MQ below (fx_post Z 115 ad (cF ad Z.2.1) (pV (cSl g f rc 10)) s.heap.size) (fx_px Z 115 ad (cF ad Z.2.1 g) (fun _ => False) s.heap.size) ([.ref (ad 0), .int (nI f)] : List Value).toArray s 0 0 (fx_A 115 ad s.heap.size)) (F0 m 12 ls []) := by
    intro d
    induction d with
    | zero =>
      intro t hd H locs hP hS ls hl
      have hrc9 : cSl g f rc t 0 0 = nI rc := by rw [cSl_k (by decide)]; exact hrc
      refine lv_iload_n hx hb dX3_sail_12 rfl (lv_at hl 3 rfl) ?_
      refine lv_bipush (v := 10) hx hb dX3_sail_13 (by decide) ?_
      refine lv_icmp_ge (tgt := 97) hx hb dX3_sail_15 (by decide) (fun _ => ?_) (fun c1 => absurd (nI_le (a := 10) (by omega) (by omega)) c1)
      exact fx_retv hx hb hr hlocks hP hS (Nat.le_of_ble_eq_true rfl) (Nat.le_of_ble_eq_true rfl) dX3_sail_97 ⟨rfl, (by rw [show t = 10 by omega])⟩
    | succ d ih12 =>
      intro t hd H locs hP hS ls hl
      have hrc9 : cSl g f rc t 0 0 = nI rc := by rw [cSl_k (by decide)]; exact hrc
      refine lv_iload_n hx hb dX3_sail_12 rfl (lv_at hl 3 rfl) ?_
      refine lv_bipush (v := 10) hx hb dX3_sail_13 (by decide) ?_
      refine lv_icmp_ge (tgt := 97) hx hb dX3_sail_15 (by decide) (fun c2 => absurd c2 (nI_ge (b := 10) (by omega) (by omega))) (fun _ => ?_)
      refine lv_aload_n hx hb dX3_sail_18 rfl (lv_at hl 2 rfl) ?_
      refine lv_iload_n hx hb dX3_sail_19 rfl (lv_at hl 3 rfl) ?_
      refine c_aldP K hP (by omega) (by omega) dX3_sail_20 ?_
      refine lv_iconst (v := 2) hx hb dX3_sail_21 (by decide) ?_
      refine lv_icmp_ne (tgt := 63) hx hb dX3_sail_22 (by decide) (fun c3 => ?_) (fun c3 => ?_)
      · refine lv_aload_n hx hb dX3_sail_63 rfl (lv_at hl 2 rfl) ?_
        refine lv_iload_n hx hb dX3_sail_64 rfl (lv_at hl 3 rfl) ?_
        refine c_aldP K hP (by omega) (by omega) dX3_sail_65 ?_
        refine lv_iconst (v := 1) hx hb dX3_sail_66 (by decide) ?_
        refine lv_icmp_ne (tgt := 91) hx hb dX3_sail_67 (by decide) (fun c4 => ?_) (fun c4 => ?_)
        · refine lv_iinc (v := nI (t + 1)) (lv' := [(3, .int (nI (t + 1))), (0, .ref (ad 0)), (1, .int (nI f)), (2, .ref (ad (85 + f)))]) hx hb dX3_sail_91 hl (k := 3) rfl (nI_1 _) (by decide) rfl (fun ls hl => ?_)
          refine lv_goto (tgt := 12) hx hb dX3_sail_94 (by decide) ?_
          rw [show cSl g f rc t = cSl g f rc (t + 1) from by rw [cSl_n c3 c4]] at hP
          exact ih12 (t + 1) (by omega) H locs hP hS ls (lv_sub hl [1, 2, 3, 0] rfl)
        · refine lv_aload_n hx hb dX3_sail_70 rfl (lv_at hl 0 rfl) ?_
          refine cg_travellers K hP dX3_sail_71 ?_
          refine lv_iload_n hx hb dX3_sail_74 rfl (lv_at hl 3 rfl) ?_
          refine c_aldT K hP (by omega) dX3_sail_75 ?_
          refine lv_dup hx hb dX3_sail_76 rfl ?_
          refine cgT_missed K hP (by omega) dX3_sail_77 ?_
          refine lv_iconst (v := 1) hx hb dX3_sail_80 (by decide) ?_
          refine lv_iadd hx hb dX3_sail_81 ?_
          refine lv_topi (fun v5 e5 => ?_)
          refine cpT_missed K hP hS (by omega) dX3_sail_82 (fun h6 H locs e6 hP hS => ?_)
          refine lv_aload_n hx hb dX3_sail_85 rfl (lv_at hl 0 rfl) ?_
          refine lv_iload_n hx hb dX3_sail_86 rfl (lv_at hl 3 rfl) ?_
          refine lv_iload_n hx hb dX3_sail_87 rfl (lv_at hl 1 rfl) ?_
          refine c_callv (rest := []) K hP hS (c_X3_wasteStamped l hfl Z ad hinj h6 rc t f (by rw [e6, u2_off _ _ (by omega)]; exact hrc9) hr6) ok_X3_258 rfl ⟨Nat.le_of_ble_eq_true rfl, Nat.le_of_ble_eq_true rfl⟩ rfl hl.1 (Nat.le_of_ble_eq_true rfl) ⟨Nat.le_of_ble_eq_true rfl, Nat.le_of_ble_eq_true rfl⟩ dX3_sail_88 (fun H locs hP hS => ?_)
          obtain ⟨h7, e7⟩ : ∃ z : St, z = (cWs h6 t f rc) := ⟨_, rfl⟩
          rw [← e7] at hP
          refine lv_iinc (v := nI (t + 1)) (lv' := [(3, .int (nI (t + 1))), (0, .ref (ad 0)), (1, .int (nI f)), (2, .ref (ad (85 + f)))]) hx hb dX3_sail_91 hl (k := 3) rfl (nI_1 _) (by decide) rfl (fun ls hl => ?_)
          refine lv_goto (tgt := 12) hx hb dX3_sail_94 (by decide) ?_
          rw [show h7 = cSl g f rc (t + 1) from by rw [cSl_1 c3 c4]; simp only [e5, e6, e7]] at hP
          exact ih12 (t + 1) (by omega) H locs hP hS ls (lv_sub hl [1, 2, 3, 0] rfl)
      · refine lv_aload_n hx hb dX3_sail_25 rfl (lv_at hl 2 rfl) ?_
        refine lv_iload_n hx hb dX3_sail_26 rfl (lv_at hl 3 rfl) ?_
        refine lv_iconst (v := 3) hx hb dX3_sail_27 (by decide) ?_
        refine c_astP K hP hS (by omega) (by omega) dX3_sail_28 (fun h8 H locs e8 hP hS => ?_)
        refine lv_aload_n hx hb dX3_sail_29 rfl (lv_at hl 0 rfl) ?_
        refine cg_travellers K hP dX3_sail_30 ?_
        refine lv_iload_n hx hb dX3_sail_33 rfl (lv_at hl 3 rfl) ?_
        refine c_aldT K hP (by omega) dX3_sail_34 ?_
        refine lv_iconst (v := 1) hx hb dX3_sail_35 (by decide) ?_
        refine cpT_left K hP hS (by omega) rfl rfl dX3_sail_36 (fun h9 H locs e9 hP hS => ?_)
        refine lv_aload_n hx hb dX3_sail_39 rfl (lv_at hl 0 rfl) ?_
        refine cg_travellers K hP dX3_sail_40 ?_
        refine lv_iload_n hx hb dX3_sail_43 rfl (lv_at hl 3 rfl) ?_
        refine c_aldT K hP (by omega) dX3_sail_44 ?_
        refine lv_dup hx hb dX3_sail_45 rfl ?_
        refine cgT_timesLeft K hP (by omega) dX3_sail_46 ?_
        rw [show h9 17 t = (cSl g f rc t) 17 t from by rw [e9, u2_off _ _ (by omega), e8, u2_off _ _ (by omega)]]
        refine lv_iconst (v := 1) hx hb dX3_sail_49 (by decide) ?_
        refine lv_iadd hx hb dX3_sail_50 ?_
        refine lv_topi (fun v10 e10 => ?_)
        refine cpT_timesLeft K hP hS (by omega) dX3_sail_51 (fun h11 H locs e11 hP hS => ?_)
        refine lv_aload_n hx hb dX3_sail_54 rfl (lv_at hl 0 rfl) ?_
        refine lv_iload_n hx hb dX3_sail_55 rfl (lv_at hl 3 rfl) ?_
        refine lv_iload_n hx hb dX3_sail_56 rfl (lv_at hl 1 rfl) ?_
        refine c_callv (rest := []) K hP hS (c_X3_payStamped l hfl Z ad hinj h11 rc t f (by omega) (by rw [e11, u2_off _ _ (by omega), e9, u2_off _ _ (by omega), e8, u2_off _ _ (by omega)]; exact hrc9) hr6) ok_X3_254 rfl ⟨Nat.le_of_ble_eq_true rfl, Nat.le_of_ble_eq_true rfl⟩ rfl hl.1 (Nat.le_of_ble_eq_true rfl) ⟨Nat.le_of_ble_eq_true rfl, Nat.le_of_ble_eq_true rfl⟩ dX3_sail_57 (fun H locs hP hS => ?_)
        obtain ⟨h12, e12⟩ : ∃ z : St, z = (cPy h11 t f rc).1 := ⟨_, rfl⟩
        rw [← e12] at hP
        refine lv_goto (tgt := 91) hx hb dX3_sail_60 (by decide) ?_
        refine lv_iinc (v := nI (t + 1)) (lv' := [(3, .int (nI (t + 1))), (0, .ref (ad 0)), (1, .int (nI f)), (2, .ref (ad (85 + f)))]) hx hb dX3_sail_91 hl (k := 3) rfl (nI_1 _) (by decide) rfl (fun ls hl => ?_)
        refine lv_goto (tgt := 12) hx hb dX3_sail_94 (by decide) ?_
        rw [show h12 = cSl g f rc (t + 1) from by rw [cSl_2 c3]; simp only [e8, e9, e10, e11, e12]] at hP
        exact ih12 (t + 1) (by omega) H locs hP hS ls (lv_sub hl [1, 2, 3, 0] rfl)
  exact hloop12 10 0 (by omega) s.heap [] hP hS ls (lv_sub hl [2, 3, 1, 0] rfl)

set_option maxHeartbeats 4000000 in
set_option maxRecDepth 100000 in
theorem c_X3_sailAllOfNow (l : Launch) (hfl : l.stackTraces = false) (Z : fx_Z) (ad : Nat → Nat) (hinj : fx_inj 115 ad) (g : St) (rc : Nat) (fc : Nat) (hrc : g 0 0 = nI rc) (hr6 : rc ≤ 60) (hfc : g 0 1 = nI fc) (hf2 : fc ≤ 20) : fx_C l Z yX3_sailAllOfNow cX3_sailAllOfNow 2 none 3 88 0 0 115 ad (cF ad Z.2.1) g [.ref (ad 0)] (pV (cSa g rc fc)) (fun _ => False) := by
  intro sz
  refine vx_ofW (cc := cX3_sailAllOfNow) (maxL := 2) (ret := none) (by decide) rfl ?_
  intro p e s m args below meth c s₁ B hml hout hv
  obtain ⟨rfl, hsz, hP, hE, hSt⟩ := hv
  subst hsz
  have hx := B.exec
  have hb := B.bytes
  have hr := B.returns
  have hown : s.vm.findClass RX3 = some m.cls := findClass_of_methodNamed B.named
  have hlocks := B.notSynchronized
  have K : c_K p l s m ([.ref (ad 0)] : List Value).toArray c cX3_sailAllOfNow 2 Z ad := ⟨hx, hb, hml, hown, fun w hw => atoms_spec (ws := fx_l yX3_sailAllOfNow cX3_sailAllOfNow 2 none) B.pre w (List.mem_cons_of_mem _ hw), hE, hSt, hinj, hfl⟩
  have hS : va_S (fx_A 115 ad s.heap.size) s.heap s.heap [] := va_S.rf
  have hl := lv_entry ([.ref (ad 0)]) (n := 2) (Nat.le_of_ble_eq_true rfl)
  rw [lg_entry_eq]
  generalize (lg_sl ([.ref (ad 0)]) ++ List.replicate (2 - (lg_sl ([.ref (ad 0)])).length) Slot.unset).toArray = ls at hl ⊢
  have hl : lv_has ls 2 [(0, .ref (ad 0))] := hl
  refine lv_iconst (v := 0) hx hb dX3_sailAllOfNow_0 (by decide) ?_
  refine lv_istore_n (lv' := [(1, .int 0), (0, .ref (ad 0))]) hx hb dX3_sailAllOfNow_1 rfl hl (by decide) rfl (fun ls hl => ?_)
  rw [← cSa_0 g rc] at hP
  have hloop2 : ∀ (d : Nat) (f : Nat), f + d = fc → ∀ (H : Heap) (locs : List Loc), va_P Z.1 vwCl (iw 115 (cF ad Z.2.1 (cSa g rc f))) H → va_S (fx_A 115 ad s.heap.size) s.heap H locs → ∀ ls : Array Slot, lv_has ls 2 [(0, .ref (ad 0)), (1, .int (nI f))] → W p l e (headSpec (fx_l yX3_sailAllOfNow cX3_sailAllOfNow 2 none) { frames := 3, cells := 0, slots := 0, locals := 88 }).room s m ([.ref (ad 0)] : List Value).toArray below meth c H locs 0 0 (vx_MQ below (fx_post Z 115 ad (cF ad Z.2.1) (pV (cSa g rc fc)) s.heap.size) (fx_px Z 115 ad (cF ad Z.2.1 g) (fun _ => False) s.heap.size) ([.ref (ad 0)] : List Value).toArray s 0 0 (fx_A 115 ad s.heap.size)) (F0 m 2 ls []) := by
    intro d
    induction d with
    | zero =>
      intro f hd H locs hP hS ls hl
      have hfc9 : cSa g rc f 0 1 = nI fc := by rw [cSa_k (by decide)]; exact hfc
      have hrc9 : cSa g rc f 0 0 = nI rc := by rw [cSa_k (by decide)]; exact hrc
      refine lv_iload_n hx hb dX3_sailAllOfNow_2 rfl (lv_at hl 1 rfl) ?_
      refine lv_aload_n hx hb dX3_sailAllOfNow_3 rfl (lv_at hl 0 rfl) ?_
      refine cg_ferryCount K hP dX3_sailAllOfNow_4 ?_
      rw [hfc9]
      refine lv_icmp_ge (tgt := 37) hx hb dX3_sailAllOfNow_7 (by decide) (fun _ => ?_) (fun c1 => absurd (nI_le (by omega) (by omega)) c1)
      exact fx_retv hx hb hr hlocks hP hS (Nat.le_of_ble_eq_true rfl) (Nat.le_of_ble_eq_true rfl) dX3_sailAllOfNow_37 ⟨rfl, (by rw [show f = fc by omega])⟩
    | succ d ih2 =>
      intro f hd H locs hP hS ls hl
      have hfc9 : cSa g rc f 0 1 = nI fc := by rw [cSa_k (by decide)]; exact hfc
      have hrc9 : cSa g rc f 0 0 = nI rc := by rw [cSa_k (by decide)]; exact hrc
      refine lv_iload_n hx hb dX3_sailAllOfNow_2 rfl (lv_at hl 1 rfl) ?_
      refine lv_aload_n hx hb dX3_sailAllOfNow_3 rfl (lv_at hl 0 rfl) ?_
      refine cg_ferryCount K hP dX3_sailAllOfNow_4 ?_
      rw [hfc9]
      refine lv_icmp_ge (tgt := 37) hx hb dX3_sailAllOfNow_7 (by decide) (fun c2 => absurd c2 (nI_ge (by omega) (by omega))) (fun _ => ?_)
      refine lv_aload_n hx hb dX3_sailAllOfNow_10 rfl (lv_at hl 0 rfl) ?_
      refine cg_ferries K hP dX3_sailAllOfNow_11 ?_
      refine lv_iload_n hx hb dX3_sailAllOfNow_14 rfl (lv_at hl 1 rfl) ?_
      refine c_aldF K hP (by omega) dX3_sailAllOfNow_15 ?_
      refine cgF_sailsAt K hP (by omega) dX3_sailAllOfNow_16 ?_
      refine lv_aload_n hx hb dX3_sailAllOfNow_19 rfl (lv_at hl 0 rfl) ?_
      refine cg_now K hP dX3_sailAllOfNow_20 ?_
      refine lv_icmp_ne (tgt := 31) hx hb dX3_sailAllOfNow_23 (by decide) (fun c3 => ?_) (fun c3 => ?_)
      · refine lv_iinc (v := nI (f + 1)) (lv' := [(1, .int (nI (f + 1))), (0, .ref (ad 0))]) hx hb dX3_sailAllOfNow_31 hl (k := 1) rfl (nI_1 _) (by decide) rfl (fun ls hl => ?_)
        refine lv_goto (tgt := 2) hx hb dX3_sailAllOfNow_34 (by decide) ?_
        rw [show cSa g rc f = cSa g rc (f + 1) from by rw [cSa_f c3]] at hP
        exact ih2 (f + 1) (by omega) H locs hP hS ls (lv_sub hl [1, 0] rfl)
      · refine lv_aload_n hx hb dX3_sailAllOfNow_26 rfl (lv_at hl 0 rfl) ?_
        refine lv_iload_n hx hb dX3_sailAllOfNow_27 rfl (lv_at hl 1 rfl) ?_
        refine c_callv (rest := []) K hP hS (c_X3_sail l hfl Z ad hinj (cSa g rc f) rc f (by omega) hrc9 hr6) ok_X3_251 rfl ⟨Nat.le_of_ble_eq_true rfl, Nat.le_of_ble_eq_true rfl⟩ rfl hl.1 (Nat.le_of_ble_eq_true rfl) ⟨Nat.le_of_ble_eq_true rfl, Nat.le_of_ble_eq_true rfl⟩ dX3_sailAllOfNow_28 (fun H locs hP hS => ?_)
        obtain ⟨h4, e4⟩ : ∃ z : St, z = (cSl (cSa g rc f) f rc 10) := ⟨_, rfl⟩
        rw [← e4] at hP
        refine lv_iinc (v := nI (f + 1)) (lv' := [(1, .int (nI (f + 1))), (0, .ref (ad 0))]) hx hb dX3_sailAllOfNow_31 hl (k := 1) rfl (nI_1 _) (by decide) rfl (fun ls hl => ?_)
        refine lv_goto (tgt := 2) hx hb dX3_sailAllOfNow_34 (by decide) ?_
        rw [show h4 = cSa g rc (f + 1) from by rw [cSa_t c3]; simp only [e4]] at hP
        exact ih2 (f + 1) (by omega) H locs hP hS ls (lv_sub hl [1, 0] rfl)
  exact hloop2 fc 0 (by omega) s.heap [] hP hS ls (lv_sub hl [1, 0] rfl)

set_option maxHeartbeats 4000000 in
set_option maxRecDepth 100000 in
theorem c_X3_pass_ok (l : Launch) (hfl : l.stackTraces = false) (Z : fx_Z) (ad : Nat → Nat) (hinj : fx_inj 115 ad) (g : St) (rc : Nat) (fc : Nat) (n : Nat) (hn1 : ¬ nI n < 1) (hn2 : nI n ≤ 100) (hn3 : n ≤ 100) (hsum : nI n ≤ 10000 - g 0 2) (hrc : g 0 0 = nI rc) (hr6 : rc ≤ 60) (hfc : g 0 1 = nI fc) (hf2 : fc ≤ 20) : fx_C l Z yX3_pass cX3_pass 3 (some .int) 4 109 0 0 115 ad (cF ad Z.2.1) g [.ref (ad 0), .int (nI n)] (pI (cPs g rc fc n 0 2) (cPs g rc fc n)) (fun _ => False) := by
  intro sz
  refine vx_ofW (cc := cX3_pass) (maxL := 3) (ret := (some .int)) (by decide) rfl ?_
  intro p e s m args below meth c s₁ B hml hout hv
  obtain ⟨rfl, hsz, hP, hE, hSt⟩ := hv
  subst hsz
  have hx := B.exec
  have hb := B.bytes
  have hr := B.returns
  have hown : s.vm.findClass RX3 = some m.cls := findClass_of_methodNamed B.named
  have hlocks := B.notSynchronized
  have K : c_K p l s m ([.ref (ad 0), .int (nI n)] : List Value).toArray c cX3_pass 3 Z ad := ⟨hx, hb, hml, hown, fun w hw => atoms_spec (ws := fx_l yX3_pass cX3_pass 3 (some .int)) B.pre w (List.mem_cons_of_mem _ hw), hE, hSt, hinj, hfl⟩
  have hS : va_S (fx_A 115 ad s.heap.size) s.heap s.heap [] := va_S.rf
  have hl := lv_entry ([.ref (ad 0), .int (nI n)]) (n := 3) (Nat.le_of_ble_eq_true rfl)
  rw [lg_entry_eq]
  generalize (lg_sl ([.ref (ad 0), .int (nI n)]) ++ List.replicate (3 - (lg_sl ([.ref (ad 0), .int (nI n)])).length) Slot.unset).toArray = ls at hl ⊢
  have hl : lv_has ls 3 [(0, .ref (ad 0)), (1, .int (nI n))] := hl
  refine lv_iload_n hx hb dX3_pass_0 rfl (lv_at hl 1 rfl) ?_
  refine lv_iconst (v := 1) hx hb dX3_pass_1 (by decide) ?_
  refine lv_icmp_lt (tgt := 11) hx hb dX3_pass_2 (by decide) (fun c1 => absurd c1 hn1) (fun _ => ?_)
  refine lv_iload_n hx hb dX3_pass_5 rfl (lv_at hl 1 rfl) ?_
  refine lv_bipush (v := 100) hx hb dX3_pass_6 (by decide) ?_
  refine lv_icmp_le (tgt := 21) hx hb dX3_pass_8 (by decide) (fun _ => ?_) (fun c2 => absurd hn2 c2)
  refine lv_iload_n hx hb dX3_pass_21 rfl (lv_at hl 1 rfl) ?_
  refine lv_sipush (v := 10000) hx hb dX3_pass_22 (by decide) ?_
  refine lv_aload_n hx hb dX3_pass_25 rfl (lv_at hl 0 rfl) ?_
  refine cg_now K hP dX3_pass_26 ?_
  refine lv_isub hx hb dX3_pass_29 ?_
  refine lv_topi (fun v3 e3 => ?_)
  refine lv_icmp_le (tgt := 43) hx hb dX3_pass_30 (by decide) (fun _ => ?_) (fun c4 => absurd (by rw [e3]; exact hsum) c4)
  refine lv_iconst (v := 0) hx hb dX3_pass_43 (by decide) ?_
  refine lv_istore_n (lv' := [(2, .int 0), (0, .ref (ad 0)), (1, .int (nI n))]) hx hb dX3_pass_44 rfl hl (by decide) rfl (fun ls hl => ?_)
  rw [← cPs_0 g rc fc] at hP
  have hloop45 : ∀ (d : Nat) (k : Nat), k + d = n → ∀ (H : Heap) (locs : List Loc), va_P Z.1 vwCl (iw 115 (cF ad Z.2.1 (cPs g rc fc k))) H → va_S (fx_A 115 ad s.heap.size) s.heap H locs → ∀ ls : Array Slot, lv_has ls 3 [(0, .ref (ad 0)), (1, .int (nI n)), (2, .int (nI k))] → W p l e (headSpec (fx_l yX3_pass cX3_pass 3 (some .int)) { frames := 4, cells := 0, slots := 0, locals := 109 }).room s m ([.ref (ad 0), .int (nI n)] : List Value).toArray below meth c H locs 0 0 (vx_MQ below (fx_post Z 115 ad (cF ad Z.2.1) (pI (cPs g rc fc n 0 2) (cPs g rc fc n)) s.heap.size) (fx_px Z 115 ad (cF ad Z.2.1 g) (fun _ => False) s.heap.size) ([.ref (ad 0), .int (nI n)] : List Value).toArray s 0 0 (fx_A 115 ad s.heap.size)) (F0 m 45 ls []) := by
    intro d
    induction d with
    | zero =>
      intro k hd H locs hP hS ls hl
      have hfc9 : cPs g rc fc k 0 1 = nI fc := by rw [cPs_0k (by decide)]; exact hfc
      have hrc9 : cPs g rc fc k 0 0 = nI rc := by rw [cPs_0k (by decide)]; exact hrc
      refine lv_iload_n hx hb dX3_pass_45 rfl (lv_at hl 2 rfl) ?_
      refine lv_iload_n hx hb dX3_pass_46 rfl (lv_at hl 1 rfl) ?_
      refine lv_icmp_ge (tgt := 70) hx hb dX3_pass_47 (by decide) (fun _ => ?_) (fun c5 => absurd (nI_le (by omega) (by omega)) c5)
      refine lv_aload_n hx hb dX3_pass_70 rfl (lv_at hl 0 rfl) ?_
      refine cg_now K hP dX3_pass_71 ?_
      exact fx_reti hx hb hr hlocks hP hS (Nat.le_of_ble_eq_true rfl) (Nat.le_of_ble_eq_true rfl) dX3_pass_74 ⟨(by rw [show k = n by omega]), (by rw [show k = n by omega])⟩
    | succ d ih45 =>
      intro k hd H locs hP hS ls hl
      have hfc9 : cPs g rc fc k 0 1 = nI fc := by rw [cPs_0k (by decide)]; exact hfc
      have hrc9 : cPs g rc fc k 0 0 = nI rc := by rw [cPs_0k (by decide)]; exact hrc
      refine lv_iload_n hx hb dX3_pass_45 rfl (lv_at hl 2 rfl) ?_
      refine lv_iload_n hx hb dX3_pass_46 rfl (lv_at hl 1 rfl) ?_
      refine lv_icmp_ge (tgt := 70) hx hb dX3_pass_47 (by decide) (fun c6 => absurd c6 (nI_ge (by omega) (by omega))) (fun _ => ?_)
      refine lv_aload_n hx hb dX3_pass_50 rfl (lv_at hl 0 rfl) ?_
      refine lv_dup hx hb dX3_pass_51 rfl ?_
      refine cg_now K hP dX3_pass_52 ?_
      refine lv_iconst (v := 1) hx hb dX3_pass_55 (by decide) ?_
      refine lv_iadd hx hb dX3_pass_56 ?_
      refine lv_topi (fun v7 e7 => ?_)
      refine cp_now K hP hS dX3_pass_57 (fun h8 H locs e8 hP hS => ?_)
      refine lv_aload_n hx hb dX3_pass_60 rfl (lv_at hl 0 rfl) ?_
      refine c_callv (rest := []) K hP hS (c_X3_sailAllOfNow l hfl Z ad hinj h8 rc fc (by rw [e8, u2_off _ _ (by omega)]; exact hrc9) hr6 (by rw [e8, u2_off _ _ (by omega)]; exact hfc9) hf2) ok_X3_183 rfl ⟨Nat.le_of_ble_eq_true rfl, Nat.le_of_ble_eq_true rfl⟩ rfl hl.1 (Nat.le_of_ble_eq_true rfl) ⟨Nat.le_of_ble_eq_true rfl, Nat.le_of_ble_eq_true rfl⟩ dX3_pass_61 (fun H locs hP hS => ?_)
      obtain ⟨h9, e9⟩ : ∃ z : St, z = (cSa h8 rc fc) := ⟨_, rfl⟩
      rw [← e9] at hP
      refine lv_iinc (v := nI (k + 1)) (lv' := [(2, .int (nI (k + 1))), (0, .ref (ad 0)), (1, .int (nI n))]) hx hb dX3_pass_64 hl (k := 2) rfl (nI_1 _) (by decide) rfl (fun ls hl => ?_)
      refine lv_goto (tgt := 45) hx hb dX3_pass_67 (by decide) ?_
      rw [show h9 = cPs g rc fc (k + 1) from by simp only [e7, e8, e9]; rfl] at hP
      exact ih45 (k + 1) (by omega) H locs hP hS ls (lv_sub hl [1, 2, 0] rfl)
  exact hloop45 n 0 (by omega) s.heap [] hP hS ls (lv_sub hl [1, 2, 0] rfl)

set_option maxHeartbeats 4000000 in
set_option maxRecDepth 100000 in
theorem c_X3_pass_x1 (l : Launch) (hfl : l.stackTraces = false) (Z : fx_Z) (ad : Nat → Nat) (hinj : fx_inj 115 ad) (g : St) (a : Int32) (ha : a < 1 ∨ ¬ a ≤ 100) : fx_C l Z yX3_pass cX3_pass 3 (some .int) 6 82 1 6 115 ad (cF ad Z.2.1) g [.ref (ad 0), .int a] (fun _ _ => False) (fun E => E = "java/lang/IllegalArgumentException") := by
  intro sz
  refine vx_ofW (cc := cX3_pass) (maxL := 3) (ret := (some .int)) (by decide) rfl ?_
  intro p e s m args below meth c s₁ B hml hout hv
  obtain ⟨rfl, hsz, hP, hE, hSt⟩ := hv
  subst hsz
  have hx := B.exec
  have hb := B.bytes
  have hr := B.returns
  have hown : s.vm.findClass RX3 = some m.cls := findClass_of_methodNamed B.named
  have hlocks := B.notSynchronized
  have K : c_K p l s m ([.ref (ad 0), .int a] : List Value).toArray c cX3_pass 3 Z ad := ⟨hx, hb, hml, hown, fun w hw => atoms_spec (ws := fx_l yX3_pass cX3_pass 3 (some .int)) B.pre w (List.mem_cons_of_mem _ hw), hE, hSt, hinj, hfl⟩
  have hS : va_S (fx_A 115 ad s.heap.size) s.heap s.heap [] := va_S.rf
  have hl := lv_entry ([.ref (ad 0), .int a]) (n := 3) (Nat.le_of_ble_eq_true rfl)
  rw [lg_entry_eq]
  generalize (lg_sl ([.ref (ad 0), .int a]) ++ List.replicate (3 - (lg_sl ([.ref (ad 0), .int a])).length) Slot.unset).toArray = ls at hl ⊢
  have hl : lv_has ls 3 [(0, .ref (ad 0)), (1, .int a)] := hl
  refine lv_iload_n hx hb dX3_pass_0 rfl (lv_at hl 1 rfl) ?_
  refine lv_iconst (v := 1) hx hb dX3_pass_1 (by decide) ?_
  refine lv_icmp_lt (tgt := 11) hx hb dX3_pass_2 (by decide) (fun c1 => ?_) (fun c1 => ?_)
  · exact c_throw (text := "the hours are out of range") K hlocks hout hP hS hl.1 xw_IAE xi_IAE (by decide) xa_IAE (by decide) dX3_pass_11 dX3_pass_14 dX3_pass_15 dX3_pass_17 dX3_pass_20 (Nat.le_of_ble_eq_true rfl) (Nat.le_of_ble_eq_true rfl) (Nat.le_of_ble_eq_true rfl) (Nat.le_of_ble_eq_true rfl) (Nat.le_of_ble_eq_true rfl) (Nat.le_of_ble_eq_true rfl) rfl
  · refine lv_iload_n hx hb dX3_pass_5 rfl (lv_at hl 1 rfl) ?_
    refine lv_bipush (v := 100) hx hb dX3_pass_6 (by decide) ?_
    refine lv_icmp_le (tgt := 21) hx hb dX3_pass_8 (by decide) (fun c2 => ?_) (fun c2 => ?_)
    · exact absurd ha (by simp only [not_or, Classical.not_not]; exact ⟨c1, c2⟩)
    · exact c_throw (text := "the hours are out of range") K hlocks hout hP hS hl.1 xw_IAE xi_IAE (by decide) xa_IAE (by decide) dX3_pass_11 dX3_pass_14 dX3_pass_15 dX3_pass_17 dX3_pass_20 (Nat.le_of_ble_eq_true rfl) (Nat.le_of_ble_eq_true rfl) (Nat.le_of_ble_eq_true rfl) (Nat.le_of_ble_eq_true rfl) (Nat.le_of_ble_eq_true rfl) (Nat.le_of_ble_eq_true rfl) rfl

set_option maxHeartbeats 4000000 in
set_option maxRecDepth 100000 in
theorem c_X3_pass_x2 (l : Launch) (hfl : l.stackTraces = false) (Z : fx_Z) (ad : Nat → Nat) (hinj : fx_inj 115 ad) (g : St) (a : Int32) (hn1 : ¬ a < 1) (hn2 : a ≤ 100) (hsum : ¬ a ≤ 10000 - g 0 2) : fx_C l Z yX3_pass cX3_pass 3 (some .int) 6 82 1 6 115 ad (cF ad Z.2.1) g [.ref (ad 0), .int a] (fun _ _ => False) (fun E => E = "java/lang/IllegalStateException") := by
  intro sz
  refine vx_ofW (cc := cX3_pass) (maxL := 3) (ret := (some .int)) (by decide) rfl ?_
  intro p e s m args below meth c s₁ B hml hout hv
  obtain ⟨rfl, hsz, hP, hE, hSt⟩ := hv
  subst hsz
  have hx := B.exec
  have hb := B.bytes
  have hr := B.returns
  have hown : s.vm.findClass RX3 = some m.cls := findClass_of_methodNamed B.named
  have hlocks := B.notSynchronized
  have K : c_K p l s m ([.ref (ad 0), .int a] : List Value).toArray c cX3_pass 3 Z ad := ⟨hx, hb, hml, hown, fun w hw => atoms_spec (ws := fx_l yX3_pass cX3_pass 3 (some .int)) B.pre w (List.mem_cons_of_mem _ hw), hE, hSt, hinj, hfl⟩
  have hS : va_S (fx_A 115 ad s.heap.size) s.heap s.heap [] := va_S.rf
  have hl := lv_entry ([.ref (ad 0), .int a]) (n := 3) (Nat.le_of_ble_eq_true rfl)
  rw [lg_entry_eq]
  generalize (lg_sl ([.ref (ad 0), .int a]) ++ List.replicate (3 - (lg_sl ([.ref (ad 0), .int a])).length) Slot.unset).toArray = ls at hl ⊢
  have hl : lv_has ls 3 [(0, .ref (ad 0)), (1, .int a)] := hl
  refine lv_iload_n hx hb dX3_pass_0 rfl (lv_at hl 1 rfl) ?_
  refine lv_iconst (v := 1) hx hb dX3_pass_1 (by decide) ?_
  refine lv_icmp_lt (tgt := 11) hx hb dX3_pass_2 (by decide) (fun c1 => absurd c1 hn1) (fun _ => ?_)
  refine lv_iload_n hx hb dX3_pass_5 rfl (lv_at hl 1 rfl) ?_
  refine lv_bipush (v := 100) hx hb dX3_pass_6 (by decide) ?_
  refine lv_icmp_le (tgt := 21) hx hb dX3_pass_8 (by decide) (fun _ => ?_) (fun c2 => absurd hn2 c2)
  refine lv_iload_n hx hb dX3_pass_21 rfl (lv_at hl 1 rfl) ?_
  refine lv_sipush (v := 10000) hx hb dX3_pass_22 (by decide) ?_
  refine lv_aload_n hx hb dX3_pass_25 rfl (lv_at hl 0 rfl) ?_
  refine cg_now K hP dX3_pass_26 ?_
  refine lv_isub hx hb dX3_pass_29 ?_
  refine lv_topi (fun v3 e3 => ?_)
  refine lv_icmp_le (tgt := 43) hx hb dX3_pass_30 (by decide) (fun c4 => absurd c4 (by rw [e3]; exact hsum)) (fun _ => ?_)
  exact c_throw (text := "the hour would be above the last one") K hlocks hout hP hS hl.1 xw_ISE xi_ISE (by decide) xa_ISE (by decide) dX3_pass_33 dX3_pass_36 dX3_pass_37 dX3_pass_39 dX3_pass_42 (Nat.le_of_ble_eq_true rfl) (Nat.le_of_ble_eq_true rfl) (Nat.le_of_ble_eq_true rfl) (Nat.le_of_ble_eq_true rfl) (Nat.le_of_ble_eq_true rfl) (Nat.le_of_ble_eq_true rfl) rfl

set_option maxHeartbeats 4000000 in
set_option maxRecDepth 100000 in
theorem c_X3_refundsOfSailing (l : Launch) (hfl : l.stackTraces = false) (Z : fx_Z) (ad : Nat → Nat) (hinj : fx_inj 115 ad) (g : St) (rc : Nat) (t : Nat) (f : Nat) (hrc : g 0 0 = nI rc) (hr6 : rc ≤ 60) : fx_C l Z yX3_refundsOfSailing cX3_refundsOfSailing 6 (some .int) 1 40 0 0 115 ad (cF ad Z.2.1) g [.ref (ad 0), .int (nI t), .int (nI f)] (pI (m500 (rfS g t f rc)) g) (fun _ => False) := by
  intro sz
  refine vx_ofW (cc := cX3_refundsOfSailing) (maxL := 6) (ret := (some .int)) (by decide) rfl ?_
  intro p e s m args below meth c s₁ B hml hout hv
  obtain ⟨rfl, hsz, hP, hE, hSt⟩ := hv
  subst hsz
  have hx := B.exec
  have hb := B.bytes
  have hr := B.returns
  have hown : s.vm.findClass RX3 = some m.cls := findClass_of_methodNamed B.named
  have hlocks := B.notSynchronized
  have K : c_K p l s m ([.ref (ad 0), .int (nI t), .int (nI f)] : List Value).toArray c cX3_refundsOfSailing 6 Z ad := ⟨hx, hb, hml, hown, fun w hw => atoms_spec (ws := fx_l yX3_refundsOfSailing cX3_refundsOfSailing 6 (some .int)) B.pre w (List.mem_cons_of_mem _ hw), hE, hSt, hinj, hfl⟩
  have hS : va_S (fx_A 115 ad s.heap.size) s.heap s.heap [] := va_S.rf
  have hl := lv_entry ([.ref (ad 0), .int (nI t), .int (nI f)]) (n := 6) (Nat.le_of_ble_eq_true rfl)
  rw [lg_entry_eq]
  generalize (lg_sl ([.ref (ad 0), .int (nI t), .int (nI f)]) ++ List.replicate (6 - (lg_sl ([.ref (ad 0), .int (nI t), .int (nI f)])).length) Slot.unset).toArray = ls at hl ⊢
  have hl : lv_has ls 6 [(0, .ref (ad 0)), (1, .int (nI t)), (2, .int (nI f))] := hl
  refine lv_iconst (v := 0) hx hb dX3_refundsOfSailing_0 (by decide) ?_
  refine lv_istore_n (lv' := [(3, .int 0), (0, .ref (ad 0)), (1, .int (nI t)), (2, .int (nI f))]) hx hb dX3_refundsOfSailing_1 rfl hl (by decide) rfl (fun ls hl => ?_)
  refine lv_iconst (v := 0) hx hb dX3_refundsOfSailing_2 (by decide) ?_
  refine lv_istore (lv' := [(4, .int 0), (3, .int 0), (0, .ref (ad 0)), (1, .int (nI t)), (2, .int (nI f))]) hx hb dX3_refundsOfSailing_3 hl (by decide) rfl (fun ls hl => ?_)
  have hloop5 : ∀ (d : Nat) (r : Nat) (x : Int32), r + d = rc → x = rfS g t f r → ∀ (H : Heap) (locs : List Loc), va_P Z.1 vwCl (iw 115 (cF ad Z.2.1 g)) H → va_S (fx_A 115 ad s.heap.size) s.heap H locs → ∀ ls : Array Slot, lv_has ls 6 [(0, .ref (ad 0)), (1, .int (nI t)), (2, .int (nI f)), (3, .int x), (4, .int (nI r))] → W p l e (headSpec (fx_l yX3_refundsOfSailing cX3_refundsOfSailing 6 (some .int)) { frames := 1, cells := 0, slots := 0, locals := 40 }).room s m ([.ref (ad 0), .int (nI t), .int (nI f)] : List Value).toArray below meth c H locs 0 0 (vx_MQ below (fx_post Z 115 ad (cF ad Z.2.1) (pI (m500 (rfS g t f rc)) g) s.heap.size) (fx_px Z 115 ad (cF ad Z.2.1 g) (fun _ => False) s.heap.size) ([.ref (ad 0), .int (nI t), .int (nI f)] : List Value).toArray s 0 0 (fx_A 115 ad s.heap.size)) (F0 m 5 ls []) := by
    intro d
    induction d with
    | zero =>
      intro r x hd hx2 H locs hP hS ls hl
      refine lv_iload hx hb dX3_refundsOfSailing_5 (lv_at hl 4 rfl) ?_
      refine lv_aload_n hx hb dX3_refundsOfSailing_7 rfl (lv_at hl 0 rfl) ?_
      refine cg_receiptCount K hP dX3_refundsOfSailing_8 ?_
      rw [hrc]
      refine lv_icmp_ge (tgt := 59) hx hb dX3_refundsOfSailing_11 (by decide) (fun _ => ?_) (fun c1 => absurd (nI_le (by omega) (by omega)) c1)
      refine lv_iload_n hx hb dX3_refundsOfSailing_59 rfl (lv_at hl 3 rfl) ?_
      refine lv_sipush (v := 500) hx hb dX3_refundsOfSailing_60 (by decide) ?_
      refine c_min (rest := []) K hl.1 (Nat.le_of_ble_eq_true rfl) (Nat.le_of_ble_eq_true rfl) (Nat.le_of_ble_eq_true rfl) (Nat.le_of_ble_eq_true rfl) dX3_refundsOfSailing_63 ?_
      refine lv_topi (fun v2 e2 => ?_)
      exact fx_reti hx hb hr hlocks hP hS (Nat.le_of_ble_eq_true rfl) (Nat.le_of_ble_eq_true rfl) dX3_refundsOfSailing_66 ⟨by rw [e2, hx2, show r = rc by omega]; rfl, rfl⟩
    | succ d ih5 =>
      intro r x hd hx2 H locs hP hS ls hl
      refine lv_iload hx hb dX3_refundsOfSailing_5 (lv_at hl 4 rfl) ?_
      refine lv_aload_n hx hb dX3_refundsOfSailing_7 rfl (lv_at hl 0 rfl) ?_
      refine cg_receiptCount K hP dX3_refundsOfSailing_8 ?_
      rw [hrc]
      refine lv_icmp_ge (tgt := 59) hx hb dX3_refundsOfSailing_11 (by decide) (fun c3 => absurd c3 (nI_ge (by omega) (by omega))) (fun _ => ?_)
      refine lv_aload_n hx hb dX3_refundsOfSailing_14 rfl (lv_at hl 0 rfl) ?_
      refine cg_receipts K hP dX3_refundsOfSailing_15 ?_
      refine lv_iload hx hb dX3_refundsOfSailing_18 (lv_at hl 4 rfl) ?_
      refine c_aldR K hP (by omega) dX3_refundsOfSailing_20 ?_
      refine lv_astore (lv' := [(5, .ref (ad (5 + r))), (0, .ref (ad 0)), (1, .int (nI t)), (2, .int (nI f)), (3, .int x), (4, .int (nI r))]) hx hb dX3_refundsOfSailing_21 hl (by decide) rfl (fun ls hl => ?_)
      refine lv_aload hx hb dX3_refundsOfSailing_23 (lv_at hl 0 rfl) ?_
      refine cgR_traveller K hP (by omega) dX3_refundsOfSailing_25 ?_
      refine lv_iload_n hx hb dX3_refundsOfSailing_28 rfl (lv_at hl 2 rfl) ?_
      refine lv_icmp_ne (tgt := 53) hx hb dX3_refundsOfSailing_29 (by decide) (fun c4 => ?_) (fun c4 => ?_)
      · refine lv_iinc (v := nI (r + 1)) (lv' := [(4, .int (nI (r + 1))), (5, .ref (ad (5 + r))), (0, .ref (ad 0)), (1, .int (nI t)), (2, .int (nI f)), (3, .int x)]) hx hb dX3_refundsOfSailing_53 hl (k := 5) rfl (nI_1 _) (by decide) rfl (fun ls hl => ?_)
        refine lv_goto (tgt := 5) hx hb dX3_refundsOfSailing_56 (by decide) ?_
        exact ih5 (r + 1) x (by omega) (by rw [hx2]; simp [rfS, c4]) H locs hP hS ls (lv_sub hl [2, 3, 4, 5, 0] rfl)
      · refine lv_aload hx hb dX3_refundsOfSailing_32 (lv_at hl 0 rfl) ?_
        refine cgR_stampedFor K hP (by omega) dX3_refundsOfSailing_34 ?_
        refine lv_iload_n hx hb dX3_refundsOfSailing_37 rfl (lv_at hl 3 rfl) ?_
        refine lv_icmp_ne (tgt := 53) hx hb dX3_refundsOfSailing_38 (by decide) (fun c5 => ?_) (fun c5 => ?_)
        · refine lv_iinc (v := nI (r + 1)) (lv' := [(4, .int (nI (r + 1))), (5, .ref (ad (5 + r))), (0, .ref (ad 0)), (1, .int (nI t)), (2, .int (nI f)), (3, .int x)]) hx hb dX3_refundsOfSailing_53 hl (k := 5) rfl (nI_1 _) (by decide) rfl (fun ls hl => ?_)
          refine lv_goto (tgt := 5) hx hb dX3_refundsOfSailing_56 (by decide) ?_
          exact ih5 (r + 1) x (by omega) (by rw [hx2]; simp [rfS, c4, c5]) H locs hP hS ls (lv_sub hl [2, 3, 4, 5, 0] rfl)
        · refine lv_iload_n hx hb dX3_refundsOfSailing_41 rfl (lv_at hl 4 rfl) ?_
          refine lv_aload_n hx hb dX3_refundsOfSailing_42 rfl (lv_at hl 1 rfl) ?_
          refine lv_aload hx hb dX3_refundsOfSailing_43 (lv_at hl 0 rfl) ?_
          refine cgR_tax K hP (by omega) dX3_refundsOfSailing_45 ?_
          refine c_calli (rest := [.int x]) K hP hS (c_X3_refundOfTax l hfl Z ad hinj g (g 5 r)) ok_X3_261 rfl ⟨Nat.le_of_ble_eq_true rfl, Nat.le_of_ble_eq_true rfl⟩ rfl hl.1 (Nat.le_of_ble_eq_true rfl) ⟨Nat.le_of_ble_eq_true rfl, Nat.le_of_ble_eq_true rfl⟩ dX3_refundsOfSailing_48 (fun H locs hP hS => ?_)
          refine lv_topi (fun v6 e6 => ?_)
          refine lv_iadd hx hb dX3_refundsOfSailing_51 ?_
          refine lv_topi (fun v7 e7 => ?_)
          refine lv_istore_n (lv' := [(3, .int v7), (5, .ref (ad (5 + r))), (0, .ref (ad 0)), (1, .int (nI t)), (2, .int (nI f)), (4, .int (nI r))]) hx hb dX3_refundsOfSailing_52 rfl hl (by decide) rfl (fun ls hl => ?_)
          refine lv_iinc (v := nI (r + 1)) (lv' := [(4, .int (nI (r + 1))), (3, .int v7), (5, .ref (ad (5 + r))), (0, .ref (ad 0)), (1, .int (nI t)), (2, .int (nI f))]) hx hb dX3_refundsOfSailing_53 hl (k := 5) rfl (nI_1 _) (by decide) rfl (fun ls hl => ?_)
          refine lv_goto (tgt := 5) hx hb dX3_refundsOfSailing_56 (by decide) ?_
          exact ih5 (r + 1) v7 (by omega) (by rw [e7, hx2]; simp [rfS, c4, c5, e6]) H locs hP hS ls (lv_sub hl [3, 4, 5, 1, 0] rfl)
  exact hloop5 rc 0 0 (by omega) rfl s.heap [] hP hS ls (lv_sub hl [2, 3, 4, 1, 0] rfl)

set_option maxHeartbeats 4000000 in
set_option maxRecDepth 100000 in
theorem c_X3_refundsAnew_ok (l : Launch) (hfl : l.stackTraces = false) (Z : fx_Z) (ad : Nat → Nat) (hinj : fx_inj 115 ad) (g : St) (rc : Nat) (fc : Nat) (t : Nat) (ht9 : t < 10) (hrc : g 0 0 = nI rc) (hr6 : rc ≤ 60) (hfc : g 0 1 = nI fc) (hf2 : fc ≤ 20) : fx_C l Z yX3_refundsAnew cX3_refundsAnew 4 (some .int) 2 65 0 0 115 ad (cF ad Z.2.1) g [.ref (ad 0), .int (nI t)] (pI (rfA g t rc fc) g) (fun _ => False) := by
  intro sz
  refine vx_ofW (cc := cX3_refundsAnew) (maxL := 4) (ret := (some .int)) (by decide) rfl ?_
  intro p e s m args below meth c s₁ B hml hout hv
  obtain ⟨rfl, hsz, hP, hE, hSt⟩ := hv
  subst hsz
  have hx := B.exec
  have hb := B.bytes
  have hr := B.returns
  have hown : s.vm.findClass RX3 = some m.cls := findClass_of_methodNamed B.named
  have hlocks := B.notSynchronized
  have K : c_K p l s m ([.ref (ad 0), .int (nI t)] : List Value).toArray c cX3_refundsAnew 4 Z ad := ⟨hx, hb, hml, hown, fun w hw => atoms_spec (ws := fx_l yX3_refundsAnew cX3_refundsAnew 4 (some .int)) B.pre w (List.mem_cons_of_mem _ hw), hE, hSt, hinj, hfl⟩
  have hS : va_S (fx_A 115 ad s.heap.size) s.heap s.heap [] := va_S.rf
  have hl := lv_entry ([.ref (ad 0), .int (nI t)]) (n := 4) (Nat.le_of_ble_eq_true rfl)
  rw [lg_entry_eq]
  generalize (lg_sl ([.ref (ad 0), .int (nI t)]) ++ List.replicate (4 - (lg_sl ([.ref (ad 0), .int (nI t)])).length) Slot.unset).toArray = ls at hl ⊢
  have hl : lv_has ls 4 [(0, .ref (ad 0)), (1, .int (nI t))] := hl
  refine lv_aload_n hx hb dX3_refundsAnew_0 rfl (lv_at hl 0 rfl) ?_
  refine lv_iload_n hx hb dX3_refundsAnew_1 rfl (lv_at hl 1 rfl) ?_
  refine c_callv (rest := []) K hP hS (c_X3_requireTraveller_ok l hfl Z ad hinj g t (by assumption)) ok_X3_135 rfl ⟨Nat.le_of_ble_eq_true rfl, Nat.le_of_ble_eq_true rfl⟩ rfl hl.1 (Nat.le_of_ble_eq_true rfl) ⟨Nat.le_of_ble_eq_true rfl, Nat.le_of_ble_eq_true rfl⟩ dX3_refundsAnew_2 (fun H locs hP hS => ?_)
  refine lv_iconst (v := 0) hx hb dX3_refundsAnew_5 (by decide) ?_
  refine lv_istore_n (lv' := [(2, .int 0), (0, .ref (ad 0)), (1, .int (nI t))]) hx hb dX3_refundsAnew_6 rfl hl (by decide) rfl (fun ls hl => ?_)
  refine lv_iconst (v := 0) hx hb dX3_refundsAnew_7 (by decide) ?_
  refine lv_istore_n (lv' := [(3, .int 0), (2, .int 0), (0, .ref (ad 0)), (1, .int (nI t))]) hx hb dX3_refundsAnew_8 rfl hl (by decide) rfl (fun ls hl => ?_)
  have hloop9 : ∀ (d : Nat) (f : Nat) (x : Int32), f + d = fc → x = rfA g t rc f → ∀ (H : Heap) (locs : List Loc), va_P Z.1 vwCl (iw 115 (cF ad Z.2.1 g)) H → va_S (fx_A 115 ad s.heap.size) s.heap H locs → ∀ ls : Array Slot, lv_has ls 4 [(0, .ref (ad 0)), (1, .int (nI t)), (2, .int x), (3, .int (nI f))] → W p l e (headSpec (fx_l yX3_refundsAnew cX3_refundsAnew 4 (some .int)) { frames := 2, cells := 0, slots := 0, locals := 65 }).room s m ([.ref (ad 0), .int (nI t)] : List Value).toArray below meth c H locs 0 0 (vx_MQ below (fx_post Z 115 ad (cF ad Z.2.1) (pI (rfA g t rc fc) g) s.heap.size) (fx_px Z 115 ad (cF ad Z.2.1 g) (fun _ => False) s.heap.size) ([.ref (ad 0), .int (nI t)] : List Value).toArray s 0 0 (fx_A 115 ad s.heap.size)) (F0 m 9 ls []) := by
    intro d
    induction d with
    | zero =>
      intro f x hd hx2 H locs hP hS ls hl
      refine lv_iload_n hx hb dX3_refundsAnew_9 rfl (lv_at hl 3 rfl) ?_
      refine lv_aload_n hx hb dX3_refundsAnew_10 rfl (lv_at hl 0 rfl) ?_
      refine cg_ferryCount K hP dX3_refundsAnew_11 ?_
      rw [hfc]
      refine lv_icmp_ge (tgt := 47) hx hb dX3_refundsAnew_14 (by decide) (fun _ => ?_) (fun c1 => absurd (nI_le (by omega) (by omega)) c1)
      refine lv_iload_n hx hb dX3_refundsAnew_47 rfl (lv_at hl 2 rfl) ?_
      exact fx_reti hx hb hr hlocks hP hS (Nat.le_of_ble_eq_true rfl) (Nat.le_of_ble_eq_true rfl) dX3_refundsAnew_48 ⟨(by rw [hx2, show f = fc by omega]), rfl⟩
    | succ d ih9 =>
      intro f x hd hx2 H locs hP hS ls hl
      refine lv_iload_n hx hb dX3_refundsAnew_9 rfl (lv_at hl 3 rfl) ?_
      refine lv_aload_n hx hb dX3_refundsAnew_10 rfl (lv_at hl 0 rfl) ?_
      refine cg_ferryCount K hP dX3_refundsAnew_11 ?_
      rw [hfc]
      refine lv_icmp_ge (tgt := 47) hx hb dX3_refundsAnew_14 (by decide) (fun c2 => absurd c2 (nI_ge (by omega) (by omega))) (fun _ => ?_)
      refine lv_aload_n hx hb dX3_refundsAnew_17 rfl (lv_at hl 0 rfl) ?_
      refine cg_ferries K hP dX3_refundsAnew_18 ?_
      refine lv_iload_n hx hb dX3_refundsAnew_21 rfl (lv_at hl 3 rfl) ?_
      refine c_aldF K hP (by omega) dX3_refundsAnew_22 ?_
      refine cgF_places K hP (by omega) dX3_refundsAnew_23 ?_
      refine lv_iload_n hx hb dX3_refundsAnew_26 rfl (lv_at hl 1 rfl) ?_
      refine c_aldP K hP (by omega) (by omega) dX3_refundsAnew_27 ?_
      refine lv_iconst (v := 3) hx hb dX3_refundsAnew_28 (by decide) ?_
      refine lv_icmp_ne (tgt := 41) hx hb dX3_refundsAnew_29 (by decide) (fun c3 => ?_) (fun c3 => ?_)
      · refine lv_iinc (v := nI (f + 1)) (lv' := [(3, .int (nI (f + 1))), (0, .ref (ad 0)), (1, .int (nI t)), (2, .int x)]) hx hb dX3_refundsAnew_41 hl (k := 3) rfl (nI_1 _) (by decide) rfl (fun ls hl => ?_)
        refine lv_goto (tgt := 9) hx hb dX3_refundsAnew_44 (by decide) ?_
        exact ih9 (f + 1) x (by omega) (by rw [hx2]; simp [rfA, c3]) H locs hP hS ls (lv_sub hl [1, 2, 3, 0] rfl)
      · refine lv_iload_n hx hb dX3_refundsAnew_32 rfl (lv_at hl 2 rfl) ?_
        refine lv_aload_n hx hb dX3_refundsAnew_33 rfl (lv_at hl 0 rfl) ?_
        refine lv_iload_n hx hb dX3_refundsAnew_34 rfl (lv_at hl 1 rfl) ?_
        refine lv_iload_n hx hb dX3_refundsAnew_35 rfl (lv_at hl 3 rfl) ?_
        refine c_calli (rest := [.int x]) K hP hS (c_X3_refundsOfSailing l hfl Z ad hinj g rc t f (by assumption) (by assumption)) ok_X3_224 rfl ⟨Nat.le_of_ble_eq_true rfl, Nat.le_of_ble_eq_true rfl⟩ rfl hl.1 (Nat.le_of_ble_eq_true rfl) ⟨Nat.le_of_ble_eq_true rfl, Nat.le_of_ble_eq_true rfl⟩ dX3_refundsAnew_36 (fun H locs hP hS => ?_)
        refine lv_topi (fun v4 e4 => ?_)
        refine lv_iadd hx hb dX3_refundsAnew_39 ?_
        refine lv_topi (fun v5 e5 => ?_)
        refine lv_istore_n (lv' := [(2, .int v5), (0, .ref (ad 0)), (1, .int (nI t)), (3, .int (nI f))]) hx hb dX3_refundsAnew_40 rfl hl (by decide) rfl (fun ls hl => ?_)
        refine lv_iinc (v := nI (f + 1)) (lv' := [(3, .int (nI (f + 1))), (2, .int v5), (0, .ref (ad 0)), (1, .int (nI t))]) hx hb dX3_refundsAnew_41 hl (k := 3) rfl (nI_1 _) (by decide) rfl (fun ls hl => ?_)
        refine lv_goto (tgt := 9) hx hb dX3_refundsAnew_44 (by decide) ?_
        exact ih9 (f + 1) v5 (by omega) (by rw [e5, hx2]; simp [rfA, c3, e4]) H locs hP hS ls (lv_sub hl [2, 3, 1, 0] rfl)
  exact hloop9 fc 0 0 (by omega) rfl H locs hP hS ls (lv_sub hl [2, 3, 1, 0] rfl)

set_option maxHeartbeats 4000000 in
set_option maxRecDepth 100000 in
theorem c_X3_refundsAnew_x (l : Launch) (hfl : l.stackTraces = false) (Z : fx_Z) (ad : Nat → Nat) (hinj : fx_inj 115 ad) (g : St) (t : Int32) (ht9 : bad t 10) : fx_C l Z yX3_refundsAnew cX3_refundsAnew 4 (some .int) 7 103 1 6 115 ad (cF ad Z.2.1) g [.ref (ad 0), .int t] (fun _ _ => False) (fun E => E = "java/lang/IndexOutOfBoundsException") := by
  intro sz
  refine vx_ofW (cc := cX3_refundsAnew) (maxL := 4) (ret := (some .int)) (by decide) rfl ?_
  intro p e s m args below meth c s₁ B hml hout hv
  obtain ⟨rfl, hsz, hP, hE, hSt⟩ := hv
  subst hsz
  have hx := B.exec
  have hb := B.bytes
  have hr := B.returns
  have hown : s.vm.findClass RX3 = some m.cls := findClass_of_methodNamed B.named
  have hlocks := B.notSynchronized
  have K : c_K p l s m ([.ref (ad 0), .int t] : List Value).toArray c cX3_refundsAnew 4 Z ad := ⟨hx, hb, hml, hown, fun w hw => atoms_spec (ws := fx_l yX3_refundsAnew cX3_refundsAnew 4 (some .int)) B.pre w (List.mem_cons_of_mem _ hw), hE, hSt, hinj, hfl⟩
  have hS : va_S (fx_A 115 ad s.heap.size) s.heap s.heap [] := va_S.rf
  have hl := lv_entry ([.ref (ad 0), .int t]) (n := 4) (Nat.le_of_ble_eq_true rfl)
  rw [lg_entry_eq]
  generalize (lg_sl ([.ref (ad 0), .int t]) ++ List.replicate (4 - (lg_sl ([.ref (ad 0), .int t])).length) Slot.unset).toArray = ls at hl ⊢
  have hl : lv_has ls 4 [(0, .ref (ad 0)), (1, .int t)] := hl
  refine lv_aload_n hx hb dX3_refundsAnew_0 rfl (lv_at hl 0 rfl) ?_
  refine lv_iload_n hx hb dX3_refundsAnew_1 rfl (lv_at hl 1 rfl) ?_
  exact c_callx (rest := []) K hlocks hout hP hS (c_X3_requireTraveller_x l hfl Z ad hinj g t (by assumption)) ok_X3_135 rfl ⟨Nat.le_of_ble_eq_true rfl, Nat.le_of_ble_eq_true rfl⟩ rfl hl.1 (Nat.le_of_ble_eq_true rfl) ⟨Nat.le_of_ble_eq_true rfl, Nat.le_of_ble_eq_true rfl⟩ dX3_refundsAnew_2 (Nat.le_of_ble_eq_true rfl) (Nat.le_of_ble_eq_true rfl) (fun E hE => hE)

set_option maxHeartbeats 4000000 in
set_option maxRecDepth 100000 in
theorem c_X3_isAboardSomewhere_f (l : Launch) (hfl : l.stackTraces = false) (Z : fx_Z) (ad : Nat → Nat) (hinj : fx_inj 115 ad) (g : St) (fc : Nat) (t : Nat) (ht9 : t < 10) (hfc : g 0 1 = nI fc) (hf2 : fc ≤ 20) (hall : ∀ f, f < fc → ¬ g (30 + f) t = 2) : fx_C l Z yX3_isAboardSomewhere cX3_isAboardSomewhere 3 (some .boolean) 0 0 0 0 115 ad (cF ad Z.2.1) g [.ref (ad 0), .int (nI t)] (pI 0 g) (fun _ => False) := by
  intro sz
  refine vx_ofW (cc := cX3_isAboardSomewhere) (maxL := 3) (ret := (some .boolean)) (by decide) rfl ?_
  intro p e s m args below meth c s₁ B hml hout hv
  obtain ⟨rfl, hsz, hP, hE, hSt⟩ := hv
  subst hsz
  have hx := B.exec
  have hb := B.bytes
  have hr := B.returns
  have hown : s.vm.findClass RX3 = some m.cls := findClass_of_methodNamed B.named
  have hlocks := B.notSynchronized
  have K : c_K p l s m ([.ref (ad 0), .int (nI t)] : List Value).toArray c cX3_isAboardSomewhere 3 Z ad := ⟨hx, hb, hml, hown, fun w hw => atoms_spec (ws := fx_l yX3_isAboardSomewhere cX3_isAboardSomewhere 3 (some .boolean)) B.pre w (List.mem_cons_of_mem _ hw), hE, hSt, hinj, hfl⟩
  have hS : va_S (fx_A 115 ad s.heap.size) s.heap s.heap [] := va_S.rf
  have hl := lv_entry ([.ref (ad 0), .int (nI t)]) (n := 3) (Nat.le_of_ble_eq_true rfl)
  rw [lg_entry_eq]
  generalize (lg_sl ([.ref (ad 0), .int (nI t)]) ++ List.replicate (3 - (lg_sl ([.ref (ad 0), .int (nI t)])).length) Slot.unset).toArray = ls at hl ⊢
  have hl : lv_has ls 3 [(0, .ref (ad 0)), (1, .int (nI t))] := hl
  refine lv_iconst (v := 0) hx hb dX3_isAboardSomewhere_0 (by decide) ?_
  refine lv_istore_n (lv' := [(2, .int 0), (0, .ref (ad 0)), (1, .int (nI t))]) hx hb dX3_isAboardSomewhere_1 rfl hl (by decide) rfl (fun ls hl => ?_)
  have hloop2 : ∀ (d : Nat) (f : Nat), f + d = fc → ∀ (H : Heap) (locs : List Loc), va_P Z.1 vwCl (iw 115 (cF ad Z.2.1 g)) H → va_S (fx_A 115 ad s.heap.size) s.heap H locs → ∀ ls : Array Slot, lv_has ls 3 [(0, .ref (ad 0)), (1, .int (nI t)), (2, .int (nI f))] → W p l e (headSpec (fx_l yX3_isAboardSomewhere cX3_isAboardSomewhere 3 (some .boolean)) { frames := 0, cells := 0, slots := 0, locals := 0 }).room s m ([.ref (ad 0), .int (nI t)] : List Value).toArray below meth c H locs 0 0 (vx_MQ below (fx_post Z 115 ad (cF ad Z.2.1) (pI 0 g) s.heap.size) (fx_px Z 115 ad (cF ad Z.2.1 g) (fun _ => False) s.heap.size) ([.ref (ad 0), .int (nI t)] : List Value).toArray s 0 0 (fx_A 115 ad s.heap.size)) (F0 m 2 ls []) := by
    intro d
    induction d with
    | zero =>
      intro f hd H locs hP hS ls hl
      refine lv_iload_n hx hb dX3_isAboardSomewhere_2 rfl (lv_at hl 2 rfl) ?_
      refine lv_aload_n hx hb dX3_isAboardSomewhere_3 rfl (lv_at hl 0 rfl) ?_
      refine cg_ferryCount K hP dX3_isAboardSomewhere_4 ?_
      rw [hfc]
      refine lv_icmp_ge (tgt := 33) hx hb dX3_isAboardSomewhere_7 (by decide) (fun _ => ?_) (fun c1 => absurd (nI_le (by omega) (by omega)) c1)
      refine lv_iconst (v := 0) hx hb dX3_isAboardSomewhere_33 (by decide) ?_
      exact fx_retz hx hb hr hlocks rfl hP hS (Nat.le_of_ble_eq_true rfl) (Nat.le_of_ble_eq_true rfl) dX3_isAboardSomewhere_34 ⟨rfl, rfl⟩
    | succ d ih2 =>
      intro f hd H locs hP hS ls hl
      refine lv_iload_n hx hb dX3_isAboardSomewhere_2 rfl (lv_at hl 2 rfl) ?_
      refine lv_aload_n hx hb dX3_isAboardSomewhere_3 rfl (lv_at hl 0 rfl) ?_
      refine cg_ferryCount K hP dX3_isAboardSomewhere_4 ?_
      rw [hfc]
      refine lv_icmp_ge (tgt := 33) hx hb dX3_isAboardSomewhere_7 (by decide) (fun c2 => absurd c2 (nI_ge (by omega) (by omega))) (fun _ => ?_)
      refine lv_aload_n hx hb dX3_isAboardSomewhere_10 rfl (lv_at hl 0 rfl) ?_
      refine cg_ferries K hP dX3_isAboardSomewhere_11 ?_
      refine lv_iload_n hx hb dX3_isAboardSomewhere_14 rfl (lv_at hl 2 rfl) ?_
      refine c_aldF K hP (by omega) dX3_isAboardSomewhere_15 ?_
      refine cgF_places K hP (by omega) dX3_isAboardSomewhere_16 ?_
      refine lv_iload_n hx hb dX3_isAboardSomewhere_19 rfl (lv_at hl 1 rfl) ?_
      refine c_aldP K hP (by omega) (by omega) dX3_isAboardSomewhere_20 ?_
      refine lv_iconst (v := 2) hx hb dX3_isAboardSomewhere_21 (by decide) ?_
      refine lv_icmp_ne (tgt := 27) hx hb dX3_isAboardSomewhere_22 (by decide) (fun _ => ?_) (fun c3 => absurd c3 (hall f (by omega)))
      refine lv_iinc (v := nI (f + 1)) (lv' := [(2, .int (nI (f + 1))), (0, .ref (ad 0)), (1, .int (nI t))]) hx hb dX3_isAboardSomewhere_27 hl (k := 2) rfl (nI_1 _) (by decide) rfl (fun ls hl => ?_)
      refine lv_goto (tgt := 2) hx hb dX3_isAboardSomewhere_30 (by decide) ?_
      exact ih2 (f + 1) (by omega) H locs hP hS ls (lv_sub hl [1, 2, 0] rfl)
  exact hloop2 fc 0 (by omega) s.heap [] hP hS ls (lv_sub hl [1, 2, 0] rfl)

set_option maxHeartbeats 4000000 in
set_option maxRecDepth 100000 in
theorem c_X3_isAboardSomewhere_t (l : Launch) (hfl : l.stackTraces = false) (Z : fx_Z) (ad : Nat → Nat) (hinj : fx_inj 115 ad) (g : St) (fc : Nat) (f0 : Nat) (t : Nat) (ht9 : t < 10) (hfc : g 0 1 = nI fc) (hf2 : fc ≤ 20) (hf0 : f0 < fc) (hw : g (30 + f0) t = 2) : fx_C l Z yX3_isAboardSomewhere cX3_isAboardSomewhere 3 (some .boolean) 0 0 0 0 115 ad (cF ad Z.2.1) g [.ref (ad 0), .int (nI t)] (pI 1 g) (fun _ => False) := by
  intro sz
  refine vx_ofW (cc := cX3_isAboardSomewhere) (maxL := 3) (ret := (some .boolean)) (by decide) rfl ?_
  intro p e s m args below meth c s₁ B hml hout hv
  obtain ⟨rfl, hsz, hP, hE, hSt⟩ := hv
  subst hsz
  have hx := B.exec
  have hb := B.bytes
  have hr := B.returns
  have hown : s.vm.findClass RX3 = some m.cls := findClass_of_methodNamed B.named
  have hlocks := B.notSynchronized
  have K : c_K p l s m ([.ref (ad 0), .int (nI t)] : List Value).toArray c cX3_isAboardSomewhere 3 Z ad := ⟨hx, hb, hml, hown, fun w hw => atoms_spec (ws := fx_l yX3_isAboardSomewhere cX3_isAboardSomewhere 3 (some .boolean)) B.pre w (List.mem_cons_of_mem _ hw), hE, hSt, hinj, hfl⟩
  have hS : va_S (fx_A 115 ad s.heap.size) s.heap s.heap [] := va_S.rf
  have hl := lv_entry ([.ref (ad 0), .int (nI t)]) (n := 3) (Nat.le_of_ble_eq_true rfl)
  rw [lg_entry_eq]
  generalize (lg_sl ([.ref (ad 0), .int (nI t)]) ++ List.replicate (3 - (lg_sl ([.ref (ad 0), .int (nI t)])).length) Slot.unset).toArray = ls at hl ⊢
  have hl : lv_has ls 3 [(0, .ref (ad 0)), (1, .int (nI t))] := hl
  refine lv_iconst (v := 0) hx hb dX3_isAboardSomewhere_0 (by decide) ?_
  refine lv_istore_n (lv' := [(2, .int 0), (0, .ref (ad 0)), (1, .int (nI t))]) hx hb dX3_isAboardSomewhere_1 rfl hl (by decide) rfl (fun ls hl => ?_)
  have hloop2 : ∀ (d : Nat) (f : Nat), f + d = fc → f ≤ f0 → ∀ (H : Heap) (locs : List Loc), va_P Z.1 vwCl (iw 115 (cF ad Z.2.1 g)) H → va_S (fx_A 115 ad s.heap.size) s.heap H locs → ∀ ls : Array Slot, lv_has ls 3 [(0, .ref (ad 0)), (1, .int (nI t)), (2, .int (nI f))] → W p l e (headSpec (fx_l yX3_isAboardSomewhere cX3_isAboardSomewhere 3 (some .boolean)) { frames := 0, cells := 0, slots := 0, locals := 0 }).room s m ([.ref (ad 0), .int (nI t)] : List Value).toArray below meth c H locs 0 0 (vx_MQ below (fx_post Z 115 ad (cF ad Z.2.1) (pI 1 g) s.heap.size) (fx_px Z 115 ad (cF ad Z.2.1 g) (fun _ => False) s.heap.size) ([.ref (ad 0), .int (nI t)] : List Value).toArray s 0 0 (fx_A 115 ad s.heap.size)) (F0 m 2 ls []) := by
    intro d
    induction d with
    | zero =>
      intro f hd hle H locs hP hS ls hl
      exact absurd hle (by omega)
    | succ d ih2 =>
      intro f hd hle H locs hP hS ls hl
      refine lv_iload_n hx hb dX3_isAboardSomewhere_2 rfl (lv_at hl 2 rfl) ?_
      refine lv_aload_n hx hb dX3_isAboardSomewhere_3 rfl (lv_at hl 0 rfl) ?_
      refine cg_ferryCount K hP dX3_isAboardSomewhere_4 ?_
      rw [hfc]
      refine lv_icmp_ge (tgt := 33) hx hb dX3_isAboardSomewhere_7 (by decide) (fun c1 => absurd c1 (nI_ge (by omega) (by omega))) (fun _ => ?_)
      refine lv_aload_n hx hb dX3_isAboardSomewhere_10 rfl (lv_at hl 0 rfl) ?_
      refine cg_ferries K hP dX3_isAboardSomewhere_11 ?_
      refine lv_iload_n hx hb dX3_isAboardSomewhere_14 rfl (lv_at hl 2 rfl) ?_
      refine c_aldF K hP (by omega) dX3_isAboardSomewhere_15 ?_
      refine cgF_places K hP (by omega) dX3_isAboardSomewhere_16 ?_
      refine lv_iload_n hx hb dX3_isAboardSomewhere_19 rfl (lv_at hl 1 rfl) ?_
      refine c_aldP K hP (by omega) (by omega) dX3_isAboardSomewhere_20 ?_
      refine lv_iconst (v := 2) hx hb dX3_isAboardSomewhere_21 (by decide) ?_
      refine lv_icmp_ne (tgt := 27) hx hb dX3_isAboardSomewhere_22 (by decide) (fun c2 => ?_) (fun c2 => ?_)
      · refine lv_iinc (v := nI (f + 1)) (lv' := [(2, .int (nI (f + 1))), (0, .ref (ad 0)), (1, .int (nI t))]) hx hb dX3_isAboardSomewhere_27 hl (k := 2) rfl (nI_1 _) (by decide) rfl (fun ls hl => ?_)
        refine lv_goto (tgt := 2) hx hb dX3_isAboardSomewhere_30 (by decide) ?_
        exact ih2 (f + 1) (by omega) (by rcases Nat.lt_or_eq_of_le hle with q | q; (· omega); (· subst q; exact absurd hw c2)) H locs hP hS ls (lv_sub hl [1, 2, 0] rfl)
      · refine lv_iconst (v := 1) hx hb dX3_isAboardSomewhere_25 (by decide) ?_
        exact fx_retz hx hb hr hlocks rfl hP hS (Nat.le_of_ble_eq_true rfl) (Nat.le_of_ble_eq_true rfl) dX3_isAboardSomewhere_26 ⟨rfl, rfl⟩
  exact hloop2 fc 0 (by omega) (by omega) s.heap [] hP hS ls (lv_sub hl [1, 2, 0] rfl)

set_option maxHeartbeats 4000000 in
set_option maxRecDepth 100000 in
theorem c_X3_rate_ok (l : Launch) (hfl : l.stackTraces = false) (Z : fx_Z) (ad : Nat → Nat) (hinj : fx_inj 115 ad) (g : St) (k : Nat) (q : Int32) (hk : k < 4) (h0 : ¬ q < 0) (h5 : q ≤ 50) : fx_C l Z yX3_rate cX3_rate 4 (some .int) 1 21 0 0 115 ad (cF ad Z.2.1) g [.ref (ad 0), .int (nI k), .int q] (pI (g 1 k) (u2 g 1 k q)) (fun _ => False) := by
  intro sz
  refine vx_ofW (cc := cX3_rate) (maxL := 4) (ret := (some .int)) (by decide) rfl ?_
  intro p e s m args below meth c s₁ B hml hout hv
  obtain ⟨rfl, hsz, hP, hE, hSt⟩ := hv
  subst hsz
  have hx := B.exec
  have hb := B.bytes
  have hr := B.returns
  have hown : s.vm.findClass RX3 = some m.cls := findClass_of_methodNamed B.named
  have hlocks := B.notSynchronized
  have K : c_K p l s m ([.ref (ad 0), .int (nI k), .int q] : List Value).toArray c cX3_rate 4 Z ad := ⟨hx, hb, hml, hown, fun w hw => atoms_spec (ws := fx_l yX3_rate cX3_rate 4 (some .int)) B.pre w (List.mem_cons_of_mem _ hw), hE, hSt, hinj, hfl⟩
  have hS : va_S (fx_A 115 ad s.heap.size) s.heap s.heap [] := va_S.rf
  have hl := lv_entry ([.ref (ad 0), .int (nI k), .int q]) (n := 4) (Nat.le_of_ble_eq_true rfl)
  rw [lg_entry_eq]
  generalize (lg_sl ([.ref (ad 0), .int (nI k), .int q]) ++ List.replicate (4 - (lg_sl ([.ref (ad 0), .int (nI k), .int q])).length) Slot.unset).toArray = ls at hl ⊢
  have hl : lv_has ls 4 [(0, .ref (ad 0)), (1, .int (nI k)), (2, .int q)] := hl
  refine lv_aload_n hx hb dX3_rate_0 rfl (lv_at hl 0 rfl) ?_
  refine lv_iload_n hx hb dX3_rate_1 rfl (lv_at hl 1 rfl) ?_
  refine c_callv (rest := []) K hP hS (c_X3_requireKind_ok l hfl Z ad hinj g k (by assumption)) ok_X3_44 rfl ⟨Nat.le_of_ble_eq_true rfl, Nat.le_of_ble_eq_true rfl⟩ rfl hl.1 (Nat.le_of_ble_eq_true rfl) ⟨Nat.le_of_ble_eq_true rfl, Nat.le_of_ble_eq_true rfl⟩ dX3_rate_2 (fun H locs hP hS => ?_)
  refine lv_iload_n hx hb dX3_rate_5 rfl (lv_at hl 2 rfl) ?_
  refine lv_if_lt (tgt := 15) hx hb dX3_rate_6 (by decide) (fun c1 => absurd c1 h0) (fun _ => ?_)
  refine lv_iload_n hx hb dX3_rate_9 rfl (lv_at hl 2 rfl) ?_
  refine lv_bipush (v := 50) hx hb dX3_rate_10 (by decide) ?_
  refine lv_icmp_le (tgt := 25) hx hb dX3_rate_12 (by decide) (fun _ => ?_) (fun c2 => absurd h5 c2)
  refine lv_aload_n hx hb dX3_rate_25 rfl (lv_at hl 0 rfl) ?_
  refine cg_rates K hP dX3_rate_26 ?_
  refine lv_iload_n hx hb dX3_rate_29 rfl (lv_at hl 1 rfl) ?_
  refine c_ald1 K hP (by omega) dX3_rate_30 ?_
  refine lv_istore_n (lv' := [(3, .int (g 1 k)), (0, .ref (ad 0)), (1, .int (nI k)), (2, .int q)]) hx hb dX3_rate_31 rfl hl (by decide) rfl (fun ls hl => ?_)
  refine lv_aload_n hx hb dX3_rate_32 rfl (lv_at hl 1 rfl) ?_
  refine cg_rates K hP dX3_rate_33 ?_
  refine lv_iload_n hx hb dX3_rate_36 rfl (lv_at hl 2 rfl) ?_
  refine lv_iload_n hx hb dX3_rate_37 rfl (lv_at hl 3 rfl) ?_
  refine c_ast1 K hP hS (by omega) dX3_rate_38 (fun h3 H locs e3 hP hS => ?_)
  refine lv_iload_n hx hb dX3_rate_39 rfl (lv_at hl 0 rfl) ?_
  exact fx_reti hx hb hr hlocks hP hS (Nat.le_of_ble_eq_true rfl) (Nat.le_of_ble_eq_true rfl) dX3_rate_40 ⟨rfl, by simp only [e3]⟩

set_option maxHeartbeats 4000000 in
set_option maxRecDepth 100000 in
theorem c_X3_rate_x1 (l : Launch) (hfl : l.stackTraces = false) (Z : fx_Z) (ad : Nat → Nat) (hinj : fx_inj 115 ad) (g : St) (k : Int32) (q : Int32) (hk : bad k 4) : fx_C l Z yX3_rate cX3_rate 4 (some .int) 7 103 1 6 115 ad (cF ad Z.2.1) g [.ref (ad 0), .int k, .int q] (fun _ _ => False) (fun E => E = "java/lang/IndexOutOfBoundsException") := by
  intro sz
  refine vx_ofW (cc := cX3_rate) (maxL := 4) (ret := (some .int)) (by decide) rfl ?_
  intro p e s m args below meth c s₁ B hml hout hv
  obtain ⟨rfl, hsz, hP, hE, hSt⟩ := hv
  subst hsz
  have hx := B.exec
  have hb := B.bytes
  have hr := B.returns
  have hown : s.vm.findClass RX3 = some m.cls := findClass_of_methodNamed B.named
  have hlocks := B.notSynchronized
  have K : c_K p l s m ([.ref (ad 0), .int k, .int q] : List Value).toArray c cX3_rate 4 Z ad := ⟨hx, hb, hml, hown, fun w hw => atoms_spec (ws := fx_l yX3_rate cX3_rate 4 (some .int)) B.pre w (List.mem_cons_of_mem _ hw), hE, hSt, hinj, hfl⟩
  have hS : va_S (fx_A 115 ad s.heap.size) s.heap s.heap [] := va_S.rf
  have hl := lv_entry ([.ref (ad 0), .int k, .int q]) (n := 4) (Nat.le_of_ble_eq_true rfl)
  rw [lg_entry_eq]
  generalize (lg_sl ([.ref (ad 0), .int k, .int q]) ++ List.replicate (4 - (lg_sl ([.ref (ad 0), .int k, .int q])).length) Slot.unset).toArray = ls at hl ⊢
  have hl : lv_has ls 4 [(0, .ref (ad 0)), (1, .int k), (2, .int q)] := hl
  refine lv_aload_n hx hb dX3_rate_0 rfl (lv_at hl 0 rfl) ?_
  refine lv_iload_n hx hb dX3_rate_1 rfl (lv_at hl 1 rfl) ?_
  exact c_callx (rest := []) K hlocks hout hP hS (c_X3_requireKind_x l hfl Z ad hinj g k (by assumption)) ok_X3_44 rfl ⟨Nat.le_of_ble_eq_true rfl, Nat.le_of_ble_eq_true rfl⟩ rfl hl.1 (Nat.le_of_ble_eq_true rfl) ⟨Nat.le_of_ble_eq_true rfl, Nat.le_of_ble_eq_true rfl⟩ dX3_rate_2 (Nat.le_of_ble_eq_true rfl) (Nat.le_of_ble_eq_true rfl) (fun E hE => hE)

set_option maxHeartbeats 4000000 in
set_option maxRecDepth 100000 in
theorem c_X3_rate_x2 (l : Launch) (hfl : l.stackTraces = false) (Z : fx_Z) (ad : Nat → Nat) (hinj : fx_inj 115 ad) (g : St) (k : Nat) (q : Int32) (hk : k < 4) (hq : q < 0 ∨ ¬ q ≤ 50) : fx_C l Z yX3_rate cX3_rate 4 (some .int) 6 82 1 6 115 ad (cF ad Z.2.1) g [.ref (ad 0), .int (nI k), .int q] (fun _ _ => False) (fun E => E = "java/lang/IllegalArgumentException") := by
  intro sz
  refine vx_ofW (cc := cX3_rate) (maxL := 4) (ret := (some .int)) (by decide) rfl ?_
  intro p e s m args below meth c s₁ B hml hout hv
  obtain ⟨rfl, hsz, hP, hE, hSt⟩ := hv
  subst hsz
  have hx := B.exec
  have hb := B.bytes
  have hr := B.returns
  have hown : s.vm.findClass RX3 = some m.cls := findClass_of_methodNamed B.named
  have hlocks := B.notSynchronized
  have K : c_K p l s m ([.ref (ad 0), .int (nI k), .int q] : List Value).toArray c cX3_rate 4 Z ad := ⟨hx, hb, hml, hown, fun w hw => atoms_spec (ws := fx_l yX3_rate cX3_rate 4 (some .int)) B.pre w (List.mem_cons_of_mem _ hw), hE, hSt, hinj, hfl⟩
  have hS : va_S (fx_A 115 ad s.heap.size) s.heap s.heap [] := va_S.rf
  have hl := lv_entry ([.ref (ad 0), .int (nI k), .int q]) (n := 4) (Nat.le_of_ble_eq_true rfl)
  rw [lg_entry_eq]
  generalize (lg_sl ([.ref (ad 0), .int (nI k), .int q]) ++ List.replicate (4 - (lg_sl ([.ref (ad 0), .int (nI k), .int q])).length) Slot.unset).toArray = ls at hl ⊢
  have hl : lv_has ls 4 [(0, .ref (ad 0)), (1, .int (nI k)), (2, .int q)] := hl
  refine lv_aload_n hx hb dX3_rate_0 rfl (lv_at hl 0 rfl) ?_
  refine lv_iload_n hx hb dX3_rate_1 rfl (lv_at hl 1 rfl) ?_
  refine c_callv (rest := []) K hP hS (c_X3_requireKind_ok l hfl Z ad hinj g k (by assumption)) ok_X3_44 rfl ⟨Nat.le_of_ble_eq_true rfl, Nat.le_of_ble_eq_true rfl⟩ rfl hl.1 (Nat.le_of_ble_eq_true rfl) ⟨Nat.le_of_ble_eq_true rfl, Nat.le_of_ble_eq_true rfl⟩ dX3_rate_2 (fun H locs hP hS => ?_)
  refine lv_iload_n hx hb dX3_rate_5 rfl (lv_at hl 2 rfl) ?_
  refine lv_if_lt (tgt := 15) hx hb dX3_rate_6 (by decide) (fun c1 => ?_) (fun c1 => ?_)
  · exact c_throw (text := "the rate is out of range") K hlocks hout hP hS hl.1 xw_IAE xi_IAE (by decide) xa_IAE (by decide) dX3_rate_15 dX3_rate_18 dX3_rate_19 dX3_rate_21 dX3_rate_24 (Nat.le_of_ble_eq_true rfl) (Nat.le_of_ble_eq_true rfl) (Nat.le_of_ble_eq_true rfl) (Nat.le_of_ble_eq_true rfl) (Nat.le_of_ble_eq_true rfl) (Nat.le_of_ble_eq_true rfl) rfl
  · refine lv_iload_n hx hb dX3_rate_9 rfl (lv_at hl 2 rfl) ?_
    refine lv_bipush (v := 50) hx hb dX3_rate_10 (by decide) ?_
    refine lv_icmp_le (tgt := 25) hx hb dX3_rate_12 (by decide) (fun c2 => ?_) (fun c2 => ?_)
    · exact absurd hq (by simp only [not_or, Classical.not_not]; exact ⟨c1, c2⟩)
    · exact c_throw (text := "the rate is out of range") K hlocks hout hP hS hl.1 xw_IAE xi_IAE (by decide) xa_IAE (by decide) dX3_rate_15 dX3_rate_18 dX3_rate_19 dX3_rate_21 dX3_rate_24 (Nat.le_of_ble_eq_true rfl) (Nat.le_of_ble_eq_true rfl) (Nat.le_of_ble_eq_true rfl) (Nat.le_of_ble_eq_true rfl) (Nat.le_of_ble_eq_true rfl) (Nat.le_of_ble_eq_true rfl) rfl

set_option maxHeartbeats 4000000 in
set_option maxRecDepth 100000 in
theorem c_X3_buy_ok (l : Launch) (hfl : l.stackTraces = false) (Z : fx_Z) (ad : Nat → Nat) (hinj : fx_inj 115 ad) (g : St) (rc : Nat) (a : Nat) (b : Nat) (k : Nat) (d : Int32) (ha : a < 5) (hb5 : b < 10) (hk : k < 4) (hd1 : ¬ d < 1) (hd2 : d ≤ 10000) (hg : g 16 b = 0) (hrc : g 0 0 = nI rc) (hr6 : rc < 60) : fx_C l Z yX3_buy cX3_buy 7 (some .int) 2 42 0 0 115 ad (cF ad Z.2.1) g [.ref (ad 0), .int (nI a), .int (nI b), .int (nI k), .int d] (pI (nI rc) (u2 (u2 (u2 (u2 (u2 (u2 (u2 (u2 g 2 rc (nI a)) 3 rc (nI b)) 4 rc d) 5 rc ((d * (g 1 k)) / 100)) 6 rc (g 0 2)) 7 rc 0) 8 rc (-1)) 0 0 (nI (rc + 1)))) (fun _ => False) := by
  intro sz
  refine vx_ofW (cc := cX3_buy) (maxL := 7) (ret := (some .int)) (by decide) rfl ?_
  intro p e s m args below meth c s₁ B hml hout hv
  obtain ⟨rfl, hsz, hP, hE, hSt⟩ := hv
  subst hsz
  have hx := B.exec
  have hb := B.bytes
  have hr := B.returns
  have hown : s.vm.findClass RX3 = some m.cls := findClass_of_methodNamed B.named
  have hlocks := B.notSynchronized
  have K : c_K p l s m ([.ref (ad 0), .int (nI a), .int (nI b), .int (nI k), .int d] : List Value).toArray c cX3_buy 7 Z ad := ⟨hx, hb, hml, hown, fun w hw => atoms_spec (ws := fx_l yX3_buy cX3_buy 7 (some .int)) B.pre w (List.mem_cons_of_mem _ hw), hE, hSt, hinj, hfl⟩
  have hS : va_S (fx_A 115 ad s.heap.size) s.heap s.heap [] := va_S.rf
  have hl := lv_entry ([.ref (ad 0), .int (nI a), .int (nI b), .int (nI k), .int d]) (n := 7) (Nat.le_of_ble_eq_true rfl)
  rw [lg_entry_eq]
  generalize (lg_sl ([.ref (ad 0), .int (nI a), .int (nI b), .int (nI k), .int d]) ++ List.replicate (7 - (lg_sl ([.ref (ad 0), .int (nI a), .int (nI b), .int (nI k), .int d])).length) Slot.unset).toArray = ls at hl ⊢
  have hl : lv_has ls 7 [(0, .ref (ad 0)), (1, .int (nI a)), (2, .int (nI b)), (3, .int (nI k)), (4, .int d)] := hl
  refine lv_aload_n hx hb dX3_buy_0 rfl (lv_at hl 0 rfl) ?_
  refine lv_iload_n hx hb dX3_buy_1 rfl (lv_at hl 1 rfl) ?_
  refine c_callv (rest := []) K hP hS (c_X3_requireShop_ok l hfl Z ad hinj g a (by assumption)) ok_X3_55 rfl ⟨Nat.le_of_ble_eq_true rfl, Nat.le_of_ble_eq_true rfl⟩ rfl hl.1 (Nat.le_of_ble_eq_true rfl) ⟨Nat.le_of_ble_eq_true rfl, Nat.le_of_ble_eq_true rfl⟩ dX3_buy_2 (fun H locs hP hS => ?_)
  refine lv_aload_n hx hb dX3_buy_5 rfl (lv_at hl 0 rfl) ?_
  refine lv_iload_n hx hb dX3_buy_6 rfl (lv_at hl 2 rfl) ?_
  refine c_callr (rest := []) K hP hS (c_X3_travellerNumbered_ok l hfl Z ad hinj g b (by assumption)) ok_X3_58 rfl ⟨Nat.le_of_ble_eq_true rfl, Nat.le_of_ble_eq_true rfl⟩ rfl hl.1 (Nat.le_of_ble_eq_true rfl) ⟨Nat.le_of_ble_eq_true rfl, Nat.le_of_ble_eq_true rfl⟩ dX3_buy_7 (fun H locs hP hS => ?_)
  refine lv_astore (lv' := [(5, .ref (ad (105 + b))), (0, .ref (ad 0)), (1, .int (nI a)), (2, .int (nI b)), (3, .int (nI k)), (4, .int d)]) hx hb dX3_buy_10 hl (by decide) rfl (fun ls hl => ?_)
  refine lv_aload_n hx hb dX3_buy_12 rfl (lv_at hl 1 rfl) ?_
  refine lv_iload_n hx hb dX3_buy_13 rfl (lv_at hl 4 rfl) ?_
  refine c_callv (rest := []) K hP hS (c_X3_requireKind_ok l hfl Z ad hinj g k (by assumption)) ok_X3_44 rfl ⟨Nat.le_of_ble_eq_true rfl, Nat.le_of_ble_eq_true rfl⟩ rfl hl.1 (Nat.le_of_ble_eq_true rfl) ⟨Nat.le_of_ble_eq_true rfl, Nat.le_of_ble_eq_true rfl⟩ dX3_buy_14 (fun H locs hP hS => ?_)
  refine lv_iload hx hb dX3_buy_17 (lv_at hl 5 rfl) ?_
  refine lv_iconst (v := 1) hx hb dX3_buy_19 (by decide) ?_
  refine lv_icmp_lt (tgt := 31) hx hb dX3_buy_20 (by decide) (fun c1 => absurd c1 hd1) (fun _ => ?_)
  refine lv_iload hx hb dX3_buy_23 (lv_at hl 5 rfl) ?_
  refine lv_sipush (v := 10000) hx hb dX3_buy_25 (by decide) ?_
  refine lv_icmp_le (tgt := 41) hx hb dX3_buy_28 (by decide) (fun _ => ?_) (fun c2 => absurd hd2 c2)
  refine lv_aload_n hx hb dX3_buy_41 rfl (lv_at hl 1 rfl) ?_
  refine lv_aload hx hb dX3_buy_42 (lv_at hl 0 rfl) ?_
  refine c_callv (rest := []) K hP hS (c_X3_requireOnIsland_ok l hfl Z ad hinj g b (by assumption) (by assumption)) ok_X3_64 rfl ⟨Nat.le_of_ble_eq_true rfl, Nat.le_of_ble_eq_true rfl⟩ rfl hl.1 (Nat.le_of_ble_eq_true rfl) ⟨Nat.le_of_ble_eq_true rfl, Nat.le_of_ble_eq_true rfl⟩ dX3_buy_44 (fun H locs hP hS => ?_)
  refine lv_aload_n hx hb dX3_buy_47 rfl (lv_at hl 1 rfl) ?_
  refine cg_receiptCount K hP dX3_buy_48 ?_
  rw [hrc]
  refine lv_bipush (v := 60) hx hb dX3_buy_51 (by decide) ?_
  refine lv_icmp_lt (tgt := 66) hx hb dX3_buy_53 (by decide) (fun _ => ?_) (fun c3 => absurd (nI_ltM (n := 60) rfl hr6 (by decide)) c3)
  refine lv_aload_n hx hb dX3_buy_66 rfl (lv_at hl 1 rfl) ?_
  refine cg_receipts K hP dX3_buy_67 ?_
  refine lv_aload_n hx hb dX3_buy_70 rfl (lv_at hl 1 rfl) ?_
  refine cg_receiptCount K hP dX3_buy_71 ?_
  rw [hrc]
  refine c_aldR K hP (by omega) dX3_buy_74 ?_
  refine lv_astore (lv' := [(6, .ref (ad (5 + rc))), (5, .ref (ad (105 + b))), (0, .ref (ad 0)), (1, .int (nI a)), (2, .int (nI b)), (3, .int (nI k)), (4, .int d)]) hx hb dX3_buy_75 hl (by decide) rfl (fun ls hl => ?_)
  refine lv_aload hx hb dX3_buy_77 (lv_at hl 0 rfl) ?_
  refine lv_iload_n hx hb dX3_buy_79 rfl (lv_at hl 3 rfl) ?_
  refine cpR_shop K hP hS (by omega) dX3_buy_80 (fun h4 H locs e4 hP hS => ?_)
  refine lv_aload hx hb dX3_buy_83 (lv_at hl 0 rfl) ?_
  refine lv_iload_n hx hb dX3_buy_85 rfl (lv_at hl 4 rfl) ?_
  refine cpR_traveller K hP hS (by omega) dX3_buy_86 (fun h5 H locs e5 hP hS => ?_)
  refine lv_aload hx hb dX3_buy_89 (lv_at hl 0 rfl) ?_
  refine lv_iload hx hb dX3_buy_91 (lv_at hl 6 rfl) ?_
  refine cpR_price K hP hS (by omega) dX3_buy_93 (fun h6 H locs e6 hP hS => ?_)
  refine lv_aload hx hb dX3_buy_96 (lv_at hl 0 rfl) ?_
  refine lv_iload hx hb dX3_buy_98 (lv_at hl 6 rfl) ?_
  refine lv_aload_n hx hb dX3_buy_100 rfl (lv_at hl 2 rfl) ?_
  refine cg_rates K hP dX3_buy_101 ?_
  refine lv_iload_n hx hb dX3_buy_104 rfl (lv_at hl 5 rfl) ?_
  refine c_ald1 K hP (by omega) dX3_buy_105 ?_
  rw [show h6 1 k = g 1 k from by rw [e6, u2_off _ _ (by omega), e5, u2_off _ _ (by omega), e4, u2_off _ _ (by omega)]]
  refine lv_imul hx hb dX3_buy_106 ?_
  refine lv_topi (fun v7 e7 => ?_)
  refine lv_bipush (v := 100) hx hb dX3_buy_107 (by decide) ?_
  refine lv_idiv hx hb dX3_buy_109 (by decide) ?_
  refine lv_topi (fun v8 e8 => ?_)
  refine cpR_tax K hP hS (by omega) dX3_buy_110 (fun h9 H locs e9 hP hS => ?_)
  refine lv_aload hx hb dX3_buy_113 (lv_at hl 0 rfl) ?_
  refine lv_aload_n hx hb dX3_buy_115 rfl (lv_at hl 2 rfl) ?_
  refine cg_now K hP dX3_buy_116 ?_
  rw [show h9 0 2 = g 0 2 from by rw [e9, u2_off _ _ (by omega), e6, u2_off _ _ (by omega), e5, u2_off _ _ (by omega), e4, u2_off _ _ (by omega)]]
  refine cpR_boughtAt K hP hS (by omega) dX3_buy_119 (fun h10 H locs e10 hP hS => ?_)
  refine lv_aload hx hb dX3_buy_122 (lv_at hl 0 rfl) ?_
  refine lv_iconst (v := 0) hx hb dX3_buy_124 (by decide) ?_
  refine cpR_state K hP hS (by omega) dX3_buy_125 (fun h11 H locs e11 hP hS => ?_)
  refine lv_aload hx hb dX3_buy_128 (lv_at hl 0 rfl) ?_
  refine lv_iconst (v := (-1)) hx hb dX3_buy_130 (by decide) ?_
  refine cpR_stampedFor K hP hS (by omega) dX3_buy_131 (fun h12 H locs e12 hP hS => ?_)
  refine lv_aload_n hx hb dX3_buy_134 rfl (lv_at hl 2 rfl) ?_
  refine lv_dup hx hb dX3_buy_135 rfl ?_
  refine cg_receiptCount K hP dX3_buy_136 ?_
  rw [show h12 0 0 = g 0 0 from by rw [e12, u2_off _ _ (by omega), e11, u2_off _ _ (by omega), e10, u2_off _ _ (by omega), e9, u2_off _ _ (by omega), e6, u2_off _ _ (by omega), e5, u2_off _ _ (by omega), e4, u2_off _ _ (by omega)]]
  rw [hrc]
  refine lv_iconst (v := 1) hx hb dX3_buy_139 (by decide) ?_
  refine lv_iadd hx hb dX3_buy_140 ?_
  rw [show ((nI rc) + 1 : Int32) = nI (rc + 1) from nI_1 rc]
  refine cp_receiptCount K hP hS dX3_buy_141 (fun h13 H locs e13 hP hS => ?_)
  refine lv_aload_n hx hb dX3_buy_144 rfl (lv_at hl 2 rfl) ?_
  refine cg_receiptCount K hP dX3_buy_145 ?_
  rw [show h13 0 0 = nI (rc + 1) from by rw [e13, u2_self]]
  refine lv_iconst (v := 1) hx hb dX3_buy_148 (by decide) ?_
  refine lv_isub hx hb dX3_buy_149 ?_
  rw [show ((nI (rc + 1)) - 1 : Int32) = nI rc from nI_pred rc]
  exact fx_reti hx hb hr hlocks hP hS (Nat.le_of_ble_eq_true rfl) (Nat.le_of_ble_eq_true rfl) dX3_buy_150 ⟨rfl, by simp only [e4, e5, e6, e7, e8, e9, e10, e11, e12, e13]⟩

set_option maxHeartbeats 4000000 in
set_option maxRecDepth 100000 in
theorem c_X3_buy_x1a (l : Launch) (hfl : l.stackTraces = false) (Z : fx_Z) (ad : Nat → Nat) (hinj : fx_inj 115 ad) (g : St) (a : Int32) (b : Int32) (k : Int32) (d : Int32) (ha : bad a 5) : fx_C l Z yX3_buy cX3_buy 7 (some .int) 7 103 1 6 115 ad (cF ad Z.2.1) g [.ref (ad 0), .int a, .int b, .int k, .int d] (fun _ _ => False) (fun E => E = "java/lang/IndexOutOfBoundsException") := by
  intro sz
  refine vx_ofW (cc := cX3_buy) (maxL := 7) (ret := (some .int)) (by decide) rfl ?_
  intro p e s m args below meth c s₁ B hml hout hv
  obtain ⟨rfl, hsz, hP, hE, hSt⟩ := hv
  subst hsz
  have hx := B.exec
  have hb := B.bytes
  have hr := B.returns
  have hown : s.vm.findClass RX3 = some m.cls := findClass_of_methodNamed B.named
  have hlocks := B.notSynchronized
  have K : c_K p l s m ([.ref (ad 0), .int a, .int b, .int k, .int d] : List Value).toArray c cX3_buy 7 Z ad := ⟨hx, hb, hml, hown, fun w hw => atoms_spec (ws := fx_l yX3_buy cX3_buy 7 (some .int)) B.pre w (List.mem_cons_of_mem _ hw), hE, hSt, hinj, hfl⟩
  have hS : va_S (fx_A 115 ad s.heap.size) s.heap s.heap [] := va_S.rf
  have hl := lv_entry ([.ref (ad 0), .int a, .int b, .int k, .int d]) (n := 7) (Nat.le_of_ble_eq_true rfl)
  rw [lg_entry_eq]
  generalize (lg_sl ([.ref (ad 0), .int a, .int b, .int k, .int d]) ++ List.replicate (7 - (lg_sl ([.ref (ad 0), .int a, .int b, .int k, .int d])).length) Slot.unset).toArray = ls at hl ⊢
  have hl : lv_has ls 7 [(0, .ref (ad 0)), (1, .int a), (2, .int b), (3, .int k), (4, .int d)] := hl
  refine lv_aload_n hx hb dX3_buy_0 rfl (lv_at hl 0 rfl) ?_
  refine lv_iload_n hx hb dX3_buy_1 rfl (lv_at hl 1 rfl) ?_
  exact c_callx (rest := []) K hlocks hout hP hS (c_X3_requireShop_x l hfl Z ad hinj g a (by assumption)) ok_X3_55 rfl ⟨Nat.le_of_ble_eq_true rfl, Nat.le_of_ble_eq_true rfl⟩ rfl hl.1 (Nat.le_of_ble_eq_true rfl) ⟨Nat.le_of_ble_eq_true rfl, Nat.le_of_ble_eq_true rfl⟩ dX3_buy_2 (Nat.le_of_ble_eq_true rfl) (Nat.le_of_ble_eq_true rfl) (fun E hE => hE)

set_option maxHeartbeats 4000000 in
set_option maxRecDepth 100000 in
theorem c_X3_buy_x1b (l : Launch) (hfl : l.stackTraces = false) (Z : fx_Z) (ad : Nat → Nat) (hinj : fx_inj 115 ad) (g : St) (a : Nat) (b : Int32) (k : Int32) (d : Int32) (ha : a < 5) (hb5 : bad b 10) : fx_C l Z yX3_buy cX3_buy 7 (some .int) 8 124 1 6 115 ad (cF ad Z.2.1) g [.ref (ad 0), .int (nI a), .int b, .int k, .int d] (fun _ _ => False) (fun E => E = "java/lang/IndexOutOfBoundsException") := by
  intro sz
  refine vx_ofW (cc := cX3_buy) (maxL := 7) (ret := (some .int)) (by decide) rfl ?_
  intro p e s m args below meth c s₁ B hml hout hv
  obtain ⟨rfl, hsz, hP, hE, hSt⟩ := hv
  subst hsz
  have hx := B.exec
  have hb := B.bytes
  have hr := B.returns
  have hown : s.vm.findClass RX3 = some m.cls := findClass_of_methodNamed B.named
  have hlocks := B.notSynchronized
  have K : c_K p l s m ([.ref (ad 0), .int (nI a), .int b, .int k, .int d] : List Value).toArray c cX3_buy 7 Z ad := ⟨hx, hb, hml, hown, fun w hw => atoms_spec (ws := fx_l yX3_buy cX3_buy 7 (some .int)) B.pre w (List.mem_cons_of_mem _ hw), hE, hSt, hinj, hfl⟩
  have hS : va_S (fx_A 115 ad s.heap.size) s.heap s.heap [] := va_S.rf
  have hl := lv_entry ([.ref (ad 0), .int (nI a), .int b, .int k, .int d]) (n := 7) (Nat.le_of_ble_eq_true rfl)
  rw [lg_entry_eq]
  generalize (lg_sl ([.ref (ad 0), .int (nI a), .int b, .int k, .int d]) ++ List.replicate (7 - (lg_sl ([.ref (ad 0), .int (nI a), .int b, .int k, .int d])).length) Slot.unset).toArray = ls at hl ⊢
  have hl : lv_has ls 7 [(0, .ref (ad 0)), (1, .int (nI a)), (2, .int b), (3, .int k), (4, .int d)] := hl
  refine lv_aload_n hx hb dX3_buy_0 rfl (lv_at hl 0 rfl) ?_
  refine lv_iload_n hx hb dX3_buy_1 rfl (lv_at hl 1 rfl) ?_
  refine c_callv (rest := []) K hP hS (c_X3_requireShop_ok l hfl Z ad hinj g a (by assumption)) ok_X3_55 rfl ⟨Nat.le_of_ble_eq_true rfl, Nat.le_of_ble_eq_true rfl⟩ rfl hl.1 (Nat.le_of_ble_eq_true rfl) ⟨Nat.le_of_ble_eq_true rfl, Nat.le_of_ble_eq_true rfl⟩ dX3_buy_2 (fun H locs hP hS => ?_)
  refine lv_aload_n hx hb dX3_buy_5 rfl (lv_at hl 0 rfl) ?_
  refine lv_iload_n hx hb dX3_buy_6 rfl (lv_at hl 2 rfl) ?_
  exact c_callx (rest := []) K hlocks hout hP hS (c_X3_travellerNumbered_x l hfl Z ad hinj g b (by assumption)) ok_X3_58 rfl ⟨Nat.le_of_ble_eq_true rfl, Nat.le_of_ble_eq_true rfl⟩ rfl hl.1 (Nat.le_of_ble_eq_true rfl) ⟨Nat.le_of_ble_eq_true rfl, Nat.le_of_ble_eq_true rfl⟩ dX3_buy_7 (Nat.le_of_ble_eq_true rfl) (Nat.le_of_ble_eq_true rfl) (fun E hE => hE)

set_option maxHeartbeats 4000000 in
set_option maxRecDepth 100000 in
theorem c_X3_buy_x1c (l : Launch) (hfl : l.stackTraces = false) (Z : fx_Z) (ad : Nat → Nat) (hinj : fx_inj 115 ad) (g : St) (a : Nat) (b : Nat) (k : Int32) (d : Int32) (ha : a < 5) (hb5 : b < 10) (hk : bad k 4) : fx_C l Z yX3_buy cX3_buy 7 (some .int) 7 103 1 6 115 ad (cF ad Z.2.1) g [.ref (ad 0), .int (nI a), .int (nI b), .int k, .int d] (fun _ _ => False) (fun E => E = "java/lang/IndexOutOfBoundsException") := by
  intro sz
  refine vx_ofW (cc := cX3_buy) (maxL := 7) (ret := (some .int)) (by decide) rfl ?_
  intro p e s m args below meth c s₁ B hml hout hv
  obtain ⟨rfl, hsz, hP, hE, hSt⟩ := hv
  subst hsz
  have hx := B.exec
  have hb := B.bytes
  have hr := B.returns
  have hown : s.vm.findClass RX3 = some m.cls := findClass_of_methodNamed B.named
  have hlocks := B.notSynchronized
  have K : c_K p l s m ([.ref (ad 0), .int (nI a), .int (nI b), .int k, .int d] : List Value).toArray c cX3_buy 7 Z ad := ⟨hx, hb, hml, hown, fun w hw => atoms_spec (ws := fx_l yX3_buy cX3_buy 7 (some .int)) B.pre w (List.mem_cons_of_mem _ hw), hE, hSt, hinj, hfl⟩
  have hS : va_S (fx_A 115 ad s.heap.size) s.heap s.heap [] := va_S.rf
  have hl := lv_entry ([.ref (ad 0), .int (nI a), .int (nI b), .int k, .int d]) (n := 7) (Nat.le_of_ble_eq_true rfl)
  rw [lg_entry_eq]
  generalize (lg_sl ([.ref (ad 0), .int (nI a), .int (nI b), .int k, .int d]) ++ List.replicate (7 - (lg_sl ([.ref (ad 0), .int (nI a), .int (nI b), .int k, .int d])).length) Slot.unset).toArray = ls at hl ⊢
  have hl : lv_has ls 7 [(0, .ref (ad 0)), (1, .int (nI a)), (2, .int (nI b)), (3, .int k), (4, .int d)] := hl
  refine lv_aload_n hx hb dX3_buy_0 rfl (lv_at hl 0 rfl) ?_
  refine lv_iload_n hx hb dX3_buy_1 rfl (lv_at hl 1 rfl) ?_
  refine c_callv (rest := []) K hP hS (c_X3_requireShop_ok l hfl Z ad hinj g a (by assumption)) ok_X3_55 rfl ⟨Nat.le_of_ble_eq_true rfl, Nat.le_of_ble_eq_true rfl⟩ rfl hl.1 (Nat.le_of_ble_eq_true rfl) ⟨Nat.le_of_ble_eq_true rfl, Nat.le_of_ble_eq_true rfl⟩ dX3_buy_2 (fun H locs hP hS => ?_)
  refine lv_aload_n hx hb dX3_buy_5 rfl (lv_at hl 0 rfl) ?_
  refine lv_iload_n hx hb dX3_buy_6 rfl (lv_at hl 2 rfl) ?_
  refine c_callr (rest := []) K hP hS (c_X3_travellerNumbered_ok l hfl Z ad hinj g b (by assumption)) ok_X3_58 rfl ⟨Nat.le_of_ble_eq_true rfl, Nat.le_of_ble_eq_true rfl⟩ rfl hl.1 (Nat.le_of_ble_eq_true rfl) ⟨Nat.le_of_ble_eq_true rfl, Nat.le_of_ble_eq_true rfl⟩ dX3_buy_7 (fun H locs hP hS => ?_)
  refine lv_astore (lv' := [(5, .ref (ad (105 + b))), (0, .ref (ad 0)), (1, .int (nI a)), (2, .int (nI b)), (3, .int k), (4, .int d)]) hx hb dX3_buy_10 hl (by decide) rfl (fun ls hl => ?_)
  refine lv_aload_n hx hb dX3_buy_12 rfl (lv_at hl 1 rfl) ?_
  refine lv_iload_n hx hb dX3_buy_13 rfl (lv_at hl 4 rfl) ?_
  exact c_callx (rest := []) K hlocks hout hP hS (c_X3_requireKind_x l hfl Z ad hinj g k (by assumption)) ok_X3_44 rfl ⟨Nat.le_of_ble_eq_true rfl, Nat.le_of_ble_eq_true rfl⟩ rfl hl.1 (Nat.le_of_ble_eq_true rfl) ⟨Nat.le_of_ble_eq_true rfl, Nat.le_of_ble_eq_true rfl⟩ dX3_buy_14 (Nat.le_of_ble_eq_true rfl) (Nat.le_of_ble_eq_true rfl) (fun E hE => hE)

set_option maxHeartbeats 4000000 in
set_option maxRecDepth 100000 in
theorem c_X3_buy_x2 (l : Launch) (hfl : l.stackTraces = false) (Z : fx_Z) (ad : Nat → Nat) (hinj : fx_inj 115 ad) (g : St) (a : Nat) (b : Nat) (k : Nat) (d : Int32) (ha : a < 5) (hb5 : b < 10) (hk : k < 4) (hd1 : d < 1 ∨ ¬ d ≤ 10000) : fx_C l Z yX3_buy cX3_buy 7 (some .int) 6 82 1 6 115 ad (cF ad Z.2.1) g [.ref (ad 0), .int (nI a), .int (nI b), .int (nI k), .int d] (fun _ _ => False) (fun E => E = "java/lang/IllegalArgumentException") := by
  intro sz
  refine vx_ofW (cc := cX3_buy) (maxL := 7) (ret := (some .int)) (by decide) rfl ?_
  intro p e s m args below meth c s₁ B hml hout hv
  obtain ⟨rfl, hsz, hP, hE, hSt⟩ := hv
  subst hsz
  have hx := B.exec
  have hb := B.bytes
  have hr := B.returns
  have hown : s.vm.findClass RX3 = some m.cls := findClass_of_methodNamed B.named
  have hlocks := B.notSynchronized
  have K : c_K p l s m ([.ref (ad 0), .int (nI a), .int (nI b), .int (nI k), .int d] : List Value).toArray c cX3_buy 7 Z ad := ⟨hx, hb, hml, hown, fun w hw => atoms_spec (ws := fx_l yX3_buy cX3_buy 7 (some .int)) B.pre w (List.mem_cons_of_mem _ hw), hE, hSt, hinj, hfl⟩
  have hS : va_S (fx_A 115 ad s.heap.size) s.heap s.heap [] := va_S.rf
  have hl := lv_entry ([.ref (ad 0), .int (nI a), .int (nI b), .int (nI k), .int d]) (n := 7) (Nat.le_of_ble_eq_true rfl)
  rw [lg_entry_eq]
  generalize (lg_sl ([.ref (ad 0), .int (nI a), .int (nI b), .int (nI k), .int d]) ++ List.replicate (7 - (lg_sl ([.ref (ad 0), .int (nI a), .int (nI b), .int (nI k), .int d])).length) Slot.unset).toArray = ls at hl ⊢
  have hl : lv_has ls 7 [(0, .ref (ad 0)), (1, .int (nI a)), (2, .int (nI b)), (3, .int (nI k)), (4, .int d)] := hl
  refine lv_aload_n hx hb dX3_buy_0 rfl (lv_at hl 0 rfl) ?_
  refine lv_iload_n hx hb dX3_buy_1 rfl (lv_at hl 1 rfl) ?_
  refine c_callv (rest := []) K hP hS (c_X3_requireShop_ok l hfl Z ad hinj g a (by assumption)) ok_X3_55 rfl ⟨Nat.le_of_ble_eq_true rfl, Nat.le_of_ble_eq_true rfl⟩ rfl hl.1 (Nat.le_of_ble_eq_true rfl) ⟨Nat.le_of_ble_eq_true rfl, Nat.le_of_ble_eq_true rfl⟩ dX3_buy_2 (fun H locs hP hS => ?_)
  refine lv_aload_n hx hb dX3_buy_5 rfl (lv_at hl 0 rfl) ?_
  refine lv_iload_n hx hb dX3_buy_6 rfl (lv_at hl 2 rfl) ?_
  refine c_callr (rest := []) K hP hS (c_X3_travellerNumbered_ok l hfl Z ad hinj g b (by assumption)) ok_X3_58 rfl ⟨Nat.le_of_ble_eq_true rfl, Nat.le_of_ble_eq_true rfl⟩ rfl hl.1 (Nat.le_of_ble_eq_true rfl) ⟨Nat.le_of_ble_eq_true rfl, Nat.le_of_ble_eq_true rfl⟩ dX3_buy_7 (fun H locs hP hS => ?_)
  refine lv_astore (lv' := [(5, .ref (ad (105 + b))), (0, .ref (ad 0)), (1, .int (nI a)), (2, .int (nI b)), (3, .int (nI k)), (4, .int d)]) hx hb dX3_buy_10 hl (by decide) rfl (fun ls hl => ?_)
  refine lv_aload_n hx hb dX3_buy_12 rfl (lv_at hl 1 rfl) ?_
  refine lv_iload_n hx hb dX3_buy_13 rfl (lv_at hl 4 rfl) ?_
  refine c_callv (rest := []) K hP hS (c_X3_requireKind_ok l hfl Z ad hinj g k (by assumption)) ok_X3_44 rfl ⟨Nat.le_of_ble_eq_true rfl, Nat.le_of_ble_eq_true rfl⟩ rfl hl.1 (Nat.le_of_ble_eq_true rfl) ⟨Nat.le_of_ble_eq_true rfl, Nat.le_of_ble_eq_true rfl⟩ dX3_buy_14 (fun H locs hP hS => ?_)
  refine lv_iload hx hb dX3_buy_17 (lv_at hl 5 rfl) ?_
  refine lv_iconst (v := 1) hx hb dX3_buy_19 (by decide) ?_
  refine lv_icmp_lt (tgt := 31) hx hb dX3_buy_20 (by decide) (fun c1 => ?_) (fun c1 => ?_)
  · exact c_throw (text := "the price is out of range") K hlocks hout hP hS hl.1 xw_IAE xi_IAE (by decide) xa_IAE (by decide) dX3_buy_31 dX3_buy_34 dX3_buy_35 dX3_buy_37 dX3_buy_40 (Nat.le_of_ble_eq_true rfl) (Nat.le_of_ble_eq_true rfl) (Nat.le_of_ble_eq_true rfl) (Nat.le_of_ble_eq_true rfl) (Nat.le_of_ble_eq_true rfl) (Nat.le_of_ble_eq_true rfl) rfl
  · refine lv_iload hx hb dX3_buy_23 (lv_at hl 5 rfl) ?_
    refine lv_sipush (v := 10000) hx hb dX3_buy_25 (by decide) ?_
    refine lv_icmp_le (tgt := 41) hx hb dX3_buy_28 (by decide) (fun c2 => ?_) (fun c2 => ?_)
    · exact absurd hd1 (by simp only [not_or, Classical.not_not]; exact ⟨c1, c2⟩)
    · exact c_throw (text := "the price is out of range") K hlocks hout hP hS hl.1 xw_IAE xi_IAE (by decide) xa_IAE (by decide) dX3_buy_31 dX3_buy_34 dX3_buy_35 dX3_buy_37 dX3_buy_40 (Nat.le_of_ble_eq_true rfl) (Nat.le_of_ble_eq_true rfl) (Nat.le_of_ble_eq_true rfl) (Nat.le_of_ble_eq_true rfl) (Nat.le_of_ble_eq_true rfl) (Nat.le_of_ble_eq_true rfl) rfl

set_option maxHeartbeats 4000000 in
set_option maxRecDepth 100000 in
theorem c_X3_buy_x3a (l : Launch) (hfl : l.stackTraces = false) (Z : fx_Z) (ad : Nat → Nat) (hinj : fx_inj 115 ad) (g : St) (a : Nat) (b : Nat) (k : Nat) (d : Int32) (ha : a < 5) (hb5 : b < 10) (hk : k < 4) (hd1 : ¬ d < 1) (hd2 : d ≤ 10000) (hg : ¬ g 16 b = 0) : fx_C l Z yX3_buy cX3_buy 7 (some .int) 7 103 1 6 115 ad (cF ad Z.2.1) g [.ref (ad 0), .int (nI a), .int (nI b), .int (nI k), .int d] (fun _ _ => False) (fun E => E = "java/lang/IllegalStateException") := by
  intro sz
  refine vx_ofW (cc := cX3_buy) (maxL := 7) (ret := (some .int)) (by decide) rfl ?_
  intro p e s m args below meth c s₁ B hml hout hv
  obtain ⟨rfl, hsz, hP, hE, hSt⟩ := hv
  subst hsz
  have hx := B.exec
  have hb := B.bytes
  have hr := B.returns
  have hown : s.vm.findClass RX3 = some m.cls := findClass_of_methodNamed B.named
  have hlocks := B.notSynchronized
  have K : c_K p l s m ([.ref (ad 0), .int (nI a), .int (nI b), .int (nI k), .int d] : List Value).toArray c cX3_buy 7 Z ad := ⟨hx, hb, hml, hown, fun w hw => atoms_spec (ws := fx_l yX3_buy cX3_buy 7 (some .int)) B.pre w (List.mem_cons_of_mem _ hw), hE, hSt, hinj, hfl⟩
  have hS : va_S (fx_A 115 ad s.heap.size) s.heap s.heap [] := va_S.rf
  have hl := lv_entry ([.ref (ad 0), .int (nI a), .int (nI b), .int (nI k), .int d]) (n := 7) (Nat.le_of_ble_eq_true rfl)
  rw [lg_entry_eq]
  generalize (lg_sl ([.ref (ad 0), .int (nI a), .int (nI b), .int (nI k), .int d]) ++ List.replicate (7 - (lg_sl ([.ref (ad 0), .int (nI a), .int (nI b), .int (nI k), .int d])).length) Slot.unset).toArray = ls at hl ⊢
  have hl : lv_has ls 7 [(0, .ref (ad 0)), (1, .int (nI a)), (2, .int (nI b)), (3, .int (nI k)), (4, .int d)] := hl
  refine lv_aload_n hx hb dX3_buy_0 rfl (lv_at hl 0 rfl) ?_
  refine lv_iload_n hx hb dX3_buy_1 rfl (lv_at hl 1 rfl) ?_
  refine c_callv (rest := []) K hP hS (c_X3_requireShop_ok l hfl Z ad hinj g a (by assumption)) ok_X3_55 rfl ⟨Nat.le_of_ble_eq_true rfl, Nat.le_of_ble_eq_true rfl⟩ rfl hl.1 (Nat.le_of_ble_eq_true rfl) ⟨Nat.le_of_ble_eq_true rfl, Nat.le_of_ble_eq_true rfl⟩ dX3_buy_2 (fun H locs hP hS => ?_)
  refine lv_aload_n hx hb dX3_buy_5 rfl (lv_at hl 0 rfl) ?_
  refine lv_iload_n hx hb dX3_buy_6 rfl (lv_at hl 2 rfl) ?_
  refine c_callr (rest := []) K hP hS (c_X3_travellerNumbered_ok l hfl Z ad hinj g b (by assumption)) ok_X3_58 rfl ⟨Nat.le_of_ble_eq_true rfl, Nat.le_of_ble_eq_true rfl⟩ rfl hl.1 (Nat.le_of_ble_eq_true rfl) ⟨Nat.le_of_ble_eq_true rfl, Nat.le_of_ble_eq_true rfl⟩ dX3_buy_7 (fun H locs hP hS => ?_)
  refine lv_astore (lv' := [(5, .ref (ad (105 + b))), (0, .ref (ad 0)), (1, .int (nI a)), (2, .int (nI b)), (3, .int (nI k)), (4, .int d)]) hx hb dX3_buy_10 hl (by decide) rfl (fun ls hl => ?_)
  refine lv_aload_n hx hb dX3_buy_12 rfl (lv_at hl 1 rfl) ?_
  refine lv_iload_n hx hb dX3_buy_13 rfl (lv_at hl 4 rfl) ?_
  refine c_callv (rest := []) K hP hS (c_X3_requireKind_ok l hfl Z ad hinj g k (by assumption)) ok_X3_44 rfl ⟨Nat.le_of_ble_eq_true rfl, Nat.le_of_ble_eq_true rfl⟩ rfl hl.1 (Nat.le_of_ble_eq_true rfl) ⟨Nat.le_of_ble_eq_true rfl, Nat.le_of_ble_eq_true rfl⟩ dX3_buy_14 (fun H locs hP hS => ?_)
  refine lv_iload hx hb dX3_buy_17 (lv_at hl 5 rfl) ?_
  refine lv_iconst (v := 1) hx hb dX3_buy_19 (by decide) ?_
  refine lv_icmp_lt (tgt := 31) hx hb dX3_buy_20 (by decide) (fun c1 => absurd c1 hd1) (fun _ => ?_)
  refine lv_iload hx hb dX3_buy_23 (lv_at hl 5 rfl) ?_
  refine lv_sipush (v := 10000) hx hb dX3_buy_25 (by decide) ?_
  refine lv_icmp_le (tgt := 41) hx hb dX3_buy_28 (by decide) (fun _ => ?_) (fun c2 => absurd hd2 c2)
  refine lv_aload_n hx hb dX3_buy_41 rfl (lv_at hl 1 rfl) ?_
  refine lv_aload hx hb dX3_buy_42 (lv_at hl 0 rfl) ?_
  exact c_callx (rest := []) K hlocks hout hP hS (c_X3_requireOnIsland_x l hfl Z ad hinj g b (by assumption) (by assumption)) ok_X3_64 rfl ⟨Nat.le_of_ble_eq_true rfl, Nat.le_of_ble_eq_true rfl⟩ rfl hl.1 (Nat.le_of_ble_eq_true rfl) ⟨Nat.le_of_ble_eq_true rfl, Nat.le_of_ble_eq_true rfl⟩ dX3_buy_44 (Nat.le_of_ble_eq_true rfl) (Nat.le_of_ble_eq_true rfl) (fun E hE => hE)

set_option maxHeartbeats 4000000 in
set_option maxRecDepth 100000 in
theorem c_X3_buy_x3b (l : Launch) (hfl : l.stackTraces = false) (Z : fx_Z) (ad : Nat → Nat) (hinj : fx_inj 115 ad) (g : St) (a : Nat) (b : Nat) (k : Nat) (d : Int32) (ha : a < 5) (hb5 : b < 10) (hk : k < 4) (hd1 : ¬ d < 1) (hd2 : d ≤ 10000) (hg : g 16 b = 0) (hrc : g 0 0 = 60) : fx_C l Z yX3_buy cX3_buy 7 (some .int) 6 82 1 6 115 ad (cF ad Z.2.1) g [.ref (ad 0), .int (nI a), .int (nI b), .int (nI k), .int d] (fun _ _ => False) (fun E => E = "java/lang/IllegalStateException") := by
  intro sz
  refine vx_ofW (cc := cX3_buy) (maxL := 7) (ret := (some .int)) (by decide) rfl ?_
  intro p e s m args below meth c s₁ B hml hout hv
  obtain ⟨rfl, hsz, hP, hE, hSt⟩ := hv
  subst hsz
  have hx := B.exec
  have hb := B.bytes
  have hr := B.returns
  have hown : s.vm.findClass RX3 = some m.cls := findClass_of_methodNamed B.named
  have hlocks := B.notSynchronized
  have K : c_K p l s m ([.ref (ad 0), .int (nI a), .int (nI b), .int (nI k), .int d] : List Value).toArray c cX3_buy 7 Z ad := ⟨hx, hb, hml, hown, fun w hw => atoms_spec (ws := fx_l yX3_buy cX3_buy 7 (some .int)) B.pre w (List.mem_cons_of_mem _ hw), hE, hSt, hinj, hfl⟩
  have hS : va_S (fx_A 115 ad s.heap.size) s.heap s.heap [] := va_S.rf
  have hl := lv_entry ([.ref (ad 0), .int (nI a), .int (nI b), .int (nI k), .int d]) (n := 7) (Nat.le_of_ble_eq_true rfl)
  rw [lg_entry_eq]
  generalize (lg_sl ([.ref (ad 0), .int (nI a), .int (nI b), .int (nI k), .int d]) ++ List.replicate (7 - (lg_sl ([.ref (ad 0), .int (nI a), .int (nI b), .int (nI k), .int d])).length) Slot.unset).toArray = ls at hl ⊢
  have hl : lv_has ls 7 [(0, .ref (ad 0)), (1, .int (nI a)), (2, .int (nI b)), (3, .int (nI k)), (4, .int d)] := hl
  refine lv_aload_n hx hb dX3_buy_0 rfl (lv_at hl 0 rfl) ?_
  refine lv_iload_n hx hb dX3_buy_1 rfl (lv_at hl 1 rfl) ?_
  refine c_callv (rest := []) K hP hS (c_X3_requireShop_ok l hfl Z ad hinj g a (by assumption)) ok_X3_55 rfl ⟨Nat.le_of_ble_eq_true rfl, Nat.le_of_ble_eq_true rfl⟩ rfl hl.1 (Nat.le_of_ble_eq_true rfl) ⟨Nat.le_of_ble_eq_true rfl, Nat.le_of_ble_eq_true rfl⟩ dX3_buy_2 (fun H locs hP hS => ?_)
  refine lv_aload_n hx hb dX3_buy_5 rfl (lv_at hl 0 rfl) ?_
  refine lv_iload_n hx hb dX3_buy_6 rfl (lv_at hl 2 rfl) ?_
  refine c_callr (rest := []) K hP hS (c_X3_travellerNumbered_ok l hfl Z ad hinj g b (by assumption)) ok_X3_58 rfl ⟨Nat.le_of_ble_eq_true rfl, Nat.le_of_ble_eq_true rfl⟩ rfl hl.1 (Nat.le_of_ble_eq_true rfl) ⟨Nat.le_of_ble_eq_true rfl, Nat.le_of_ble_eq_true rfl⟩ dX3_buy_7 (fun H locs hP hS => ?_)
  refine lv_astore (lv' := [(5, .ref (ad (105 + b))), (0, .ref (ad 0)), (1, .int (nI a)), (2, .int (nI b)), (3, .int (nI k)), (4, .int d)]) hx hb dX3_buy_10 hl (by decide) rfl (fun ls hl => ?_)
  refine lv_aload_n hx hb dX3_buy_12 rfl (lv_at hl 1 rfl) ?_
  refine lv_iload_n hx hb dX3_buy_13 rfl (lv_at hl 4 rfl) ?_
  refine c_callv (rest := []) K hP hS (c_X3_requireKind_ok l hfl Z ad hinj g k (by assumption)) ok_X3_44 rfl ⟨Nat.le_of_ble_eq_true rfl, Nat.le_of_ble_eq_true rfl⟩ rfl hl.1 (Nat.le_of_ble_eq_true rfl) ⟨Nat.le_of_ble_eq_true rfl, Nat.le_of_ble_eq_true rfl⟩ dX3_buy_14 (fun H locs hP hS => ?_)
  refine lv_iload hx hb dX3_buy_17 (lv_at hl 5 rfl) ?_
  refine lv_iconst (v := 1) hx hb dX3_buy_19 (by decide) ?_
  refine lv_icmp_lt (tgt := 31) hx hb dX3_buy_20 (by decide) (fun c1 => absurd c1 hd1) (fun _ => ?_)
  refine lv_iload hx hb dX3_buy_23 (lv_at hl 5 rfl) ?_
  refine lv_sipush (v := 10000) hx hb dX3_buy_25 (by decide) ?_
  refine lv_icmp_le (tgt := 41) hx hb dX3_buy_28 (by decide) (fun _ => ?_) (fun c2 => absurd hd2 c2)
  refine lv_aload_n hx hb dX3_buy_41 rfl (lv_at hl 1 rfl) ?_
  refine lv_aload hx hb dX3_buy_42 (lv_at hl 0 rfl) ?_
  refine c_callv (rest := []) K hP hS (c_X3_requireOnIsland_ok l hfl Z ad hinj g b (by assumption) (by assumption)) ok_X3_64 rfl ⟨Nat.le_of_ble_eq_true rfl, Nat.le_of_ble_eq_true rfl⟩ rfl hl.1 (Nat.le_of_ble_eq_true rfl) ⟨Nat.le_of_ble_eq_true rfl, Nat.le_of_ble_eq_true rfl⟩ dX3_buy_44 (fun H locs hP hS => ?_)
  refine lv_aload_n hx hb dX3_buy_47 rfl (lv_at hl 1 rfl) ?_
  refine cg_receiptCount K hP dX3_buy_48 ?_
  rw [hrc]
  refine lv_bipush (v := 60) hx hb dX3_buy_51 (by decide) ?_
  refine lv_icmp_lt (tgt := 66) hx hb dX3_buy_53 (by decide) (fun c3 => absurd c3 (by decide)) (fun _ => ?_)
  exact c_throw (text := "there are as many receipts as there may be") K hlocks hout hP hS hl.1 xw_ISE xi_ISE (by decide) xa_ISE (by decide) dX3_buy_56 dX3_buy_59 dX3_buy_60 dX3_buy_62 dX3_buy_65 (Nat.le_of_ble_eq_true rfl) (Nat.le_of_ble_eq_true rfl) (Nat.le_of_ble_eq_true rfl) (Nat.le_of_ble_eq_true rfl) (Nat.le_of_ble_eq_true rfl) (Nat.le_of_ble_eq_true rfl) rfl

set_option maxHeartbeats 4000000 in
set_option maxRecDepth 100000 in
theorem c_X3_giveBack_ok (l : Launch) (hfl : l.stackTraces = false) (Z : fx_Z) (ad : Nat → Nat) (hinj : fx_inj 115 ad) (g : St) (rc : Nat) (t : Nat) (i : Nat) (hi : i < rc) (hrc : g 0 0 = nI rc) (hr6 : rc ≤ 60) (ht : g 3 i = nI t) (ht9 : t < 10) (h7 : g 7 i = 0) (hh : g 0 2 - g 6 i ≤ 240) (hg : g 16 t = 0) : fx_C l Z yX3_giveBack cX3_giveBack 3 (some .int) 2 42 0 0 115 ad (cF ad Z.2.1) g [.ref (ad 0), .int (nI i)] (pI ((g 4 i) + (g 5 i)) (u2 g 7 i 4)) (fun _ => False) := by
  intro sz
  refine vx_ofW (cc := cX3_giveBack) (maxL := 3) (ret := (some .int)) (by decide) rfl ?_
  intro p e s m args below meth c s₁ B hml hout hv
  obtain ⟨rfl, hsz, hP, hE, hSt⟩ := hv
  subst hsz
  have hx := B.exec
  have hb := B.bytes
  have hr := B.returns
  have hown : s.vm.findClass RX3 = some m.cls := findClass_of_methodNamed B.named
  have hlocks := B.notSynchronized
  have K : c_K p l s m ([.ref (ad 0), .int (nI i)] : List Value).toArray c cX3_giveBack 3 Z ad := ⟨hx, hb, hml, hown, fun w hw => atoms_spec (ws := fx_l yX3_giveBack cX3_giveBack 3 (some .int)) B.pre w (List.mem_cons_of_mem _ hw), hE, hSt, hinj, hfl⟩
  have hS : va_S (fx_A 115 ad s.heap.size) s.heap s.heap [] := va_S.rf
  have hl := lv_entry ([.ref (ad 0), .int (nI i)]) (n := 3) (Nat.le_of_ble_eq_true rfl)
  rw [lg_entry_eq]
  generalize (lg_sl ([.ref (ad 0), .int (nI i)]) ++ List.replicate (3 - (lg_sl ([.ref (ad 0), .int (nI i)])).length) Slot.unset).toArray = ls at hl ⊢
  have hl : lv_has ls 3 [(0, .ref (ad 0)), (1, .int (nI i))] := hl
  refine lv_aload_n hx hb dX3_giveBack_0 rfl (lv_at hl 0 rfl) ?_
  refine lv_iload_n hx hb dX3_giveBack_1 rfl (lv_at hl 1 rfl) ?_
  refine c_callr (rest := []) K hP hS (c_X3_receiptNumbered_ok l hfl Z ad hinj g rc i (by assumption) (by assumption) (by assumption)) ok_X3_94 rfl ⟨Nat.le_of_ble_eq_true rfl, Nat.le_of_ble_eq_true rfl⟩ rfl hl.1 (Nat.le_of_ble_eq_true rfl) ⟨Nat.le_of_ble_eq_true rfl, Nat.le_of_ble_eq_true rfl⟩ dX3_giveBack_2 (fun H locs hP hS => ?_)
  refine lv_astore_n (lv' := [(2, .ref (ad (5 + i))), (0, .ref (ad 0)), (1, .int (nI i))]) hx hb dX3_giveBack_5 rfl hl (by decide) rfl (fun ls hl => ?_)
  refine lv_aload_n hx hb dX3_giveBack_6 rfl (lv_at hl 1 rfl) ?_
  refine lv_aload_n hx hb dX3_giveBack_7 rfl (lv_at hl 0 rfl) ?_
  refine c_callv (rest := []) K hP hS (c_X3_requireOpen_ok l hfl Z ad hinj g i (by omega) (by assumption)) ok_X3_98 rfl ⟨Nat.le_of_ble_eq_true rfl, Nat.le_of_ble_eq_true rfl⟩ rfl hl.1 (Nat.le_of_ble_eq_true rfl) ⟨Nat.le_of_ble_eq_true rfl, Nat.le_of_ble_eq_true rfl⟩ dX3_giveBack_8 (fun H locs hP hS => ?_)
  refine lv_aload_n hx hb dX3_giveBack_11 rfl (lv_at hl 1 rfl) ?_
  refine cg_now K hP dX3_giveBack_12 ?_
  refine lv_aload_n hx hb dX3_giveBack_15 rfl (lv_at hl 0 rfl) ?_
  refine cgR_boughtAt K hP (by omega) dX3_giveBack_16 ?_
  refine lv_isub hx hb dX3_giveBack_19 ?_
  refine lv_topi (fun v1 e1 => ?_)
  refine lv_sipush (v := 240) hx hb dX3_giveBack_20 (by decide) ?_
  refine lv_icmp_le (tgt := 36) hx hb dX3_giveBack_23 (by decide) (fun _ => ?_) (fun c2 => absurd (by rw [e1]; exact hh) c2)
  refine lv_aload_n hx hb dX3_giveBack_36 rfl (lv_at hl 1 rfl) ?_
  refine lv_aload_n hx hb dX3_giveBack_37 rfl (lv_at hl 1 rfl) ?_
  refine lv_aload_n hx hb dX3_giveBack_38 rfl (lv_at hl 0 rfl) ?_
  refine cgR_traveller K hP (by omega) dX3_giveBack_39 ?_
  rw [ht]
  refine c_callr (rest := [.ref (ad 0)]) K hP hS (c_X3_travellerNumbered_ok l hfl Z ad hinj g t (by assumption)) ok_X3_58 rfl ⟨Nat.le_of_ble_eq_true rfl, Nat.le_of_ble_eq_true rfl⟩ rfl hl.1 (Nat.le_of_ble_eq_true rfl) ⟨Nat.le_of_ble_eq_true rfl, Nat.le_of_ble_eq_true rfl⟩ dX3_giveBack_42 (fun H locs hP hS => ?_)
  refine c_callv (rest := []) K hP hS (c_X3_requireOnIsland_ok l hfl Z ad hinj g t (by assumption) (by assumption)) ok_X3_64 rfl ⟨Nat.le_of_ble_eq_true rfl, Nat.le_of_ble_eq_true rfl⟩ rfl hl.1 (Nat.le_of_ble_eq_true rfl) ⟨Nat.le_of_ble_eq_true rfl, Nat.le_of_ble_eq_true rfl⟩ dX3_giveBack_45 (fun H locs hP hS => ?_)
  refine lv_aload_n hx hb dX3_giveBack_48 rfl (lv_at hl 0 rfl) ?_
  refine lv_iconst (v := 4) hx hb dX3_giveBack_49 (by decide) ?_
  refine cpR_state K hP hS (by omega) dX3_giveBack_50 (fun h3 H locs e3 hP hS => ?_)
  refine lv_aload_n hx hb dX3_giveBack_53 rfl (lv_at hl 0 rfl) ?_
  refine cgR_price K hP (by omega) dX3_giveBack_54 ?_
  rw [show h3 4 i = g 4 i from by rw [e3, u2_off _ _ (by omega)]]
  refine lv_aload_n hx hb dX3_giveBack_57 rfl (lv_at hl 0 rfl) ?_
  refine cgR_tax K hP (by omega) dX3_giveBack_58 ?_
  rw [show h3 5 i = g 5 i from by rw [e3, u2_off _ _ (by omega)]]
  refine lv_iadd hx hb dX3_giveBack_61 ?_
  refine lv_topi (fun v4 e4 => ?_)
  exact fx_reti hx hb hr hlocks hP hS (Nat.le_of_ble_eq_true rfl) (Nat.le_of_ble_eq_true rfl) dX3_giveBack_62 ⟨by simp only [e1, e3, e4], by simp only [e1, e3, e4]⟩

set_option maxHeartbeats 4000000 in
set_option maxRecDepth 100000 in
theorem c_X3_giveBack_x1 (l : Launch) (hfl : l.stackTraces = false) (Z : fx_Z) (ad : Nat → Nat) (hinj : fx_inj 115 ad) (g : St) (rc : Nat) (r : Int32) (hrc : g 0 0 = nI rc) (hr6 : rc ≤ 60) (hbr : bad r rc) : fx_C l Z yX3_giveBack cX3_giveBack 3 (some .int) 7 103 1 6 115 ad (cF ad Z.2.1) g [.ref (ad 0), .int r] (fun _ _ => False) (fun E => E = "java/lang/IndexOutOfBoundsException") := by
  intro sz
  refine vx_ofW (cc := cX3_giveBack) (maxL := 3) (ret := (some .int)) (by decide) rfl ?_
  intro p e s m args below meth c s₁ B hml hout hv
  obtain ⟨rfl, hsz, hP, hE, hSt⟩ := hv
  subst hsz
  have hx := B.exec
  have hb := B.bytes
  have hr := B.returns
  have hown : s.vm.findClass RX3 = some m.cls := findClass_of_methodNamed B.named
  have hlocks := B.notSynchronized
  have K : c_K p l s m ([.ref (ad 0), .int r] : List Value).toArray c cX3_giveBack 3 Z ad := ⟨hx, hb, hml, hown, fun w hw => atoms_spec (ws := fx_l yX3_giveBack cX3_giveBack 3 (some .int)) B.pre w (List.mem_cons_of_mem _ hw), hE, hSt, hinj, hfl⟩
  have hS : va_S (fx_A 115 ad s.heap.size) s.heap s.heap [] := va_S.rf
  have hl := lv_entry ([.ref (ad 0), .int r]) (n := 3) (Nat.le_of_ble_eq_true rfl)
  rw [lg_entry_eq]
  generalize (lg_sl ([.ref (ad 0), .int r]) ++ List.replicate (3 - (lg_sl ([.ref (ad 0), .int r])).length) Slot.unset).toArray = ls at hl ⊢
  have hl : lv_has ls 3 [(0, .ref (ad 0)), (1, .int r)] := hl
  refine lv_aload_n hx hb dX3_giveBack_0 rfl (lv_at hl 0 rfl) ?_
  refine lv_iload_n hx hb dX3_giveBack_1 rfl (lv_at hl 1 rfl) ?_
  exact c_callx (rest := []) K hlocks hout hP hS (c_X3_receiptNumbered_x l hfl Z ad hinj g rc r (by assumption) (by assumption) (by assumption)) ok_X3_94 rfl ⟨Nat.le_of_ble_eq_true rfl, Nat.le_of_ble_eq_true rfl⟩ rfl hl.1 (Nat.le_of_ble_eq_true rfl) ⟨Nat.le_of_ble_eq_true rfl, Nat.le_of_ble_eq_true rfl⟩ dX3_giveBack_2 (Nat.le_of_ble_eq_true rfl) (Nat.le_of_ble_eq_true rfl) (fun E hE => hE)

set_option maxHeartbeats 4000000 in
set_option maxRecDepth 100000 in
theorem c_X3_giveBack_x2a (l : Launch) (hfl : l.stackTraces = false) (Z : fx_Z) (ad : Nat → Nat) (hinj : fx_inj 115 ad) (g : St) (rc : Nat) (i : Nat) (hi : i < rc) (hrc : g 0 0 = nI rc) (hr6 : rc ≤ 60) (h7 : ¬ g 7 i = 0) : fx_C l Z yX3_giveBack cX3_giveBack 3 (some .int) 7 103 1 6 115 ad (cF ad Z.2.1) g [.ref (ad 0), .int (nI i)] (fun _ _ => False) (fun E => E = "java/lang/IllegalStateException") := by
  intro sz
  refine vx_ofW (cc := cX3_giveBack) (maxL := 3) (ret := (some .int)) (by decide) rfl ?_
  intro p e s m args below meth c s₁ B hml hout hv
  obtain ⟨rfl, hsz, hP, hE, hSt⟩ := hv
  subst hsz
  have hx := B.exec
  have hb := B.bytes
  have hr := B.returns
  have hown : s.vm.findClass RX3 = some m.cls := findClass_of_methodNamed B.named
  have hlocks := B.notSynchronized
  have K : c_K p l s m ([.ref (ad 0), .int (nI i)] : List Value).toArray c cX3_giveBack 3 Z ad := ⟨hx, hb, hml, hown, fun w hw => atoms_spec (ws := fx_l yX3_giveBack cX3_giveBack 3 (some .int)) B.pre w (List.mem_cons_of_mem _ hw), hE, hSt, hinj, hfl⟩
  have hS : va_S (fx_A 115 ad s.heap.size) s.heap s.heap [] := va_S.rf
  have hl := lv_entry ([.ref (ad 0), .int (nI i)]) (n := 3) (Nat.le_of_ble_eq_true rfl)
  rw [lg_entry_eq]
  generalize (lg_sl ([.ref (ad 0), .int (nI i)]) ++ List.replicate (3 - (lg_sl ([.ref (ad 0), .int (nI i)])).length) Slot.unset).toArray = ls at hl ⊢
  have hl : lv_has ls 3 [(0, .ref (ad 0)), (1, .int (nI i))] := hl
  refine lv_aload_n hx hb dX3_giveBack_0 rfl (lv_at hl 0 rfl) ?_
  refine lv_iload_n hx hb dX3_giveBack_1 rfl (lv_at hl 1 rfl) ?_
  refine c_callr (rest := []) K hP hS (c_X3_receiptNumbered_ok l hfl Z ad hinj g rc i (by assumption) (by assumption) (by assumption)) ok_X3_94 rfl ⟨Nat.le_of_ble_eq_true rfl, Nat.le_of_ble_eq_true rfl⟩ rfl hl.1 (Nat.le_of_ble_eq_true rfl) ⟨Nat.le_of_ble_eq_true rfl, Nat.le_of_ble_eq_true rfl⟩ dX3_giveBack_2 (fun H locs hP hS => ?_)
  refine lv_astore_n (lv' := [(2, .ref (ad (5 + i))), (0, .ref (ad 0)), (1, .int (nI i))]) hx hb dX3_giveBack_5 rfl hl (by decide) rfl (fun ls hl => ?_)
  refine lv_aload_n hx hb dX3_giveBack_6 rfl (lv_at hl 1 rfl) ?_
  refine lv_aload_n hx hb dX3_giveBack_7 rfl (lv_at hl 0 rfl) ?_
  exact c_callx (rest := []) K hlocks hout hP hS (c_X3_requireOpen_x l hfl Z ad hinj g i (by omega) (by assumption)) ok_X3_98 rfl ⟨Nat.le_of_ble_eq_true rfl, Nat.le_of_ble_eq_true rfl⟩ rfl hl.1 (Nat.le_of_ble_eq_true rfl) ⟨Nat.le_of_ble_eq_true rfl, Nat.le_of_ble_eq_true rfl⟩ dX3_giveBack_8 (Nat.le_of_ble_eq_true rfl) (Nat.le_of_ble_eq_true rfl) (fun E hE => hE)

set_option maxHeartbeats 4000000 in
set_option maxRecDepth 100000 in
theorem c_X3_giveBack_x2b (l : Launch) (hfl : l.stackTraces = false) (Z : fx_Z) (ad : Nat → Nat) (hinj : fx_inj 115 ad) (g : St) (rc : Nat) (i : Nat) (hi : i < rc) (hrc : g 0 0 = nI rc) (hr6 : rc ≤ 60) (h7 : g 7 i = 0) (hh : ¬ g 0 2 - g 6 i ≤ 240) : fx_C l Z yX3_giveBack cX3_giveBack 3 (some .int) 6 82 1 6 115 ad (cF ad Z.2.1) g [.ref (ad 0), .int (nI i)] (fun _ _ => False) (fun E => E = "java/lang/IllegalStateException") := by
  intro sz
  refine vx_ofW (cc := cX3_giveBack) (maxL := 3) (ret := (some .int)) (by decide) rfl ?_
  intro p e s m args below meth c s₁ B hml hout hv
  obtain ⟨rfl, hsz, hP, hE, hSt⟩ := hv
  subst hsz
  have hx := B.exec
  have hb := B.bytes
  have hr := B.returns
  have hown : s.vm.findClass RX3 = some m.cls := findClass_of_methodNamed B.named
  have hlocks := B.notSynchronized
  have K : c_K p l s m ([.ref (ad 0), .int (nI i)] : List Value).toArray c cX3_giveBack 3 Z ad := ⟨hx, hb, hml, hown, fun w hw => atoms_spec (ws := fx_l yX3_giveBack cX3_giveBack 3 (some .int)) B.pre w (List.mem_cons_of_mem _ hw), hE, hSt, hinj, hfl⟩
  have hS : va_S (fx_A 115 ad s.heap.size) s.heap s.heap [] := va_S.rf
  have hl := lv_entry ([.ref (ad 0), .int (nI i)]) (n := 3) (Nat.le_of_ble_eq_true rfl)
  rw [lg_entry_eq]
  generalize (lg_sl ([.ref (ad 0), .int (nI i)]) ++ List.replicate (3 - (lg_sl ([.ref (ad 0), .int (nI i)])).length) Slot.unset).toArray = ls at hl ⊢
  have hl : lv_has ls 3 [(0, .ref (ad 0)), (1, .int (nI i))] := hl
  refine lv_aload_n hx hb dX3_giveBack_0 rfl (lv_at hl 0 rfl) ?_
  refine lv_iload_n hx hb dX3_giveBack_1 rfl (lv_at hl 1 rfl) ?_
  refine c_callr (rest := []) K hP hS (c_X3_receiptNumbered_ok l hfl Z ad hinj g rc i (by assumption) (by assumption) (by assumption)) ok_X3_94 rfl ⟨Nat.le_of_ble_eq_true rfl, Nat.le_of_ble_eq_true rfl⟩ rfl hl.1 (Nat.le_of_ble_eq_true rfl) ⟨Nat.le_of_ble_eq_true rfl, Nat.le_of_ble_eq_true rfl⟩ dX3_giveBack_2 (fun H locs hP hS => ?_)
  refine lv_astore_n (lv' := [(2, .ref (ad (5 + i))), (0, .ref (ad 0)), (1, .int (nI i))]) hx hb dX3_giveBack_5 rfl hl (by decide) rfl (fun ls hl => ?_)
  refine lv_aload_n hx hb dX3_giveBack_6 rfl (lv_at hl 1 rfl) ?_
  refine lv_aload_n hx hb dX3_giveBack_7 rfl (lv_at hl 0 rfl) ?_
  refine c_callv (rest := []) K hP hS (c_X3_requireOpen_ok l hfl Z ad hinj g i (by omega) (by assumption)) ok_X3_98 rfl ⟨Nat.le_of_ble_eq_true rfl, Nat.le_of_ble_eq_true rfl⟩ rfl hl.1 (Nat.le_of_ble_eq_true rfl) ⟨Nat.le_of_ble_eq_true rfl, Nat.le_of_ble_eq_true rfl⟩ dX3_giveBack_8 (fun H locs hP hS => ?_)
  refine lv_aload_n hx hb dX3_giveBack_11 rfl (lv_at hl 1 rfl) ?_
  refine cg_now K hP dX3_giveBack_12 ?_
  refine lv_aload_n hx hb dX3_giveBack_15 rfl (lv_at hl 0 rfl) ?_
  refine cgR_boughtAt K hP (by omega) dX3_giveBack_16 ?_
  refine lv_isub hx hb dX3_giveBack_19 ?_
  refine lv_topi (fun v1 e1 => ?_)
  refine lv_sipush (v := 240) hx hb dX3_giveBack_20 (by decide) ?_
  refine lv_icmp_le (tgt := 36) hx hb dX3_giveBack_23 (by decide) (fun c2 => absurd c2 (by rw [e1]; exact hh)) (fun _ => ?_)
  exact c_throw (text := "it is too late to give the goods back") K hlocks hout hP hS hl.1 xw_ISE xi_ISE (by decide) xa_ISE (by decide) dX3_giveBack_26 dX3_giveBack_29 dX3_giveBack_30 dX3_giveBack_32 dX3_giveBack_35 (Nat.le_of_ble_eq_true rfl) (Nat.le_of_ble_eq_true rfl) (Nat.le_of_ble_eq_true rfl) (Nat.le_of_ble_eq_true rfl) (Nat.le_of_ble_eq_true rfl) (Nat.le_of_ble_eq_true rfl) rfl

set_option maxHeartbeats 4000000 in
set_option maxRecDepth 100000 in
theorem c_X3_giveBack_x2c (l : Launch) (hfl : l.stackTraces = false) (Z : fx_Z) (ad : Nat → Nat) (hinj : fx_inj 115 ad) (g : St) (rc : Nat) (t : Nat) (i : Nat) (hi : i < rc) (hrc : g 0 0 = nI rc) (hr6 : rc ≤ 60) (ht : g 3 i = nI t) (ht9 : t < 10) (h7 : g 7 i = 0) (hh : g 0 2 - g 6 i ≤ 240) (hg : ¬ g 16 t = 0) : fx_C l Z yX3_giveBack cX3_giveBack 3 (some .int) 7 103 1 6 115 ad (cF ad Z.2.1) g [.ref (ad 0), .int (nI i)] (fun _ _ => False) (fun E => E = "java/lang/IllegalStateException") := by
  intro sz
  refine vx_ofW (cc := cX3_giveBack) (maxL := 3) (ret := (some .int)) (by decide) rfl ?_
  intro p e s m args below meth c s₁ B hml hout hv
  obtain ⟨rfl, hsz, hP, hE, hSt⟩ := hv
  subst hsz
  have hx := B.exec
  have hb := B.bytes
  have hr := B.returns
  have hown : s.vm.findClass RX3 = some m.cls := findClass_of_methodNamed B.named
  have hlocks := B.notSynchronized
  have K : c_K p l s m ([.ref (ad 0), .int (nI i)] : List Value).toArray c cX3_giveBack 3 Z ad := ⟨hx, hb, hml, hown, fun w hw => atoms_spec (ws := fx_l yX3_giveBack cX3_giveBack 3 (some .int)) B.pre w (List.mem_cons_of_mem _ hw), hE, hSt, hinj, hfl⟩
  have hS : va_S (fx_A 115 ad s.heap.size) s.heap s.heap [] := va_S.rf
  have hl := lv_entry ([.ref (ad 0), .int (nI i)]) (n := 3) (Nat.le_of_ble_eq_true rfl)
  rw [lg_entry_eq]
  generalize (lg_sl ([.ref (ad 0), .int (nI i)]) ++ List.replicate (3 - (lg_sl ([.ref (ad 0), .int (nI i)])).length) Slot.unset).toArray = ls at hl ⊢
  have hl : lv_has ls 3 [(0, .ref (ad 0)), (1, .int (nI i))] := hl
  refine lv_aload_n hx hb dX3_giveBack_0 rfl (lv_at hl 0 rfl) ?_
  refine lv_iload_n hx hb dX3_giveBack_1 rfl (lv_at hl 1 rfl) ?_
  refine c_callr (rest := []) K hP hS (c_X3_receiptNumbered_ok l hfl Z ad hinj g rc i (by assumption) (by assumption) (by assumption)) ok_X3_94 rfl ⟨Nat.le_of_ble_eq_true rfl, Nat.le_of_ble_eq_true rfl⟩ rfl hl.1 (Nat.le_of_ble_eq_true rfl) ⟨Nat.le_of_ble_eq_true rfl, Nat.le_of_ble_eq_true rfl⟩ dX3_giveBack_2 (fun H locs hP hS => ?_)
  refine lv_astore_n (lv' := [(2, .ref (ad (5 + i))), (0, .ref (ad 0)), (1, .int (nI i))]) hx hb dX3_giveBack_5 rfl hl (by decide) rfl (fun ls hl => ?_)
  refine lv_aload_n hx hb dX3_giveBack_6 rfl (lv_at hl 1 rfl) ?_
  refine lv_aload_n hx hb dX3_giveBack_7 rfl (lv_at hl 0 rfl) ?_
  refine c_callv (rest := []) K hP hS (c_X3_requireOpen_ok l hfl Z ad hinj g i (by omega) (by assumption)) ok_X3_98 rfl ⟨Nat.le_of_ble_eq_true rfl, Nat.le_of_ble_eq_true rfl⟩ rfl hl.1 (Nat.le_of_ble_eq_true rfl) ⟨Nat.le_of_ble_eq_true rfl, Nat.le_of_ble_eq_true rfl⟩ dX3_giveBack_8 (fun H locs hP hS => ?_)
  refine lv_aload_n hx hb dX3_giveBack_11 rfl (lv_at hl 1 rfl) ?_
  refine cg_now K hP dX3_giveBack_12 ?_
  refine lv_aload_n hx hb dX3_giveBack_15 rfl (lv_at hl 0 rfl) ?_
  refine cgR_boughtAt K hP (by omega) dX3_giveBack_16 ?_
  refine lv_isub hx hb dX3_giveBack_19 ?_
  refine lv_topi (fun v1 e1 => ?_)
  refine lv_sipush (v := 240) hx hb dX3_giveBack_20 (by decide) ?_
  refine lv_icmp_le (tgt := 36) hx hb dX3_giveBack_23 (by decide) (fun _ => ?_) (fun c2 => absurd (by rw [e1]; exact hh) c2)
  refine lv_aload_n hx hb dX3_giveBack_36 rfl (lv_at hl 1 rfl) ?_
  refine lv_aload_n hx hb dX3_giveBack_37 rfl (lv_at hl 1 rfl) ?_
  refine lv_aload_n hx hb dX3_giveBack_38 rfl (lv_at hl 0 rfl) ?_
  refine cgR_traveller K hP (by omega) dX3_giveBack_39 ?_
  rw [ht]
  refine c_callr (rest := [.ref (ad 0)]) K hP hS (c_X3_travellerNumbered_ok l hfl Z ad hinj g t (by assumption)) ok_X3_58 rfl ⟨Nat.le_of_ble_eq_true rfl, Nat.le_of_ble_eq_true rfl⟩ rfl hl.1 (Nat.le_of_ble_eq_true rfl) ⟨Nat.le_of_ble_eq_true rfl, Nat.le_of_ble_eq_true rfl⟩ dX3_giveBack_42 (fun H locs hP hS => ?_)
  exact c_callx (rest := []) K hlocks hout hP hS (c_X3_requireOnIsland_x l hfl Z ad hinj g t (by assumption) (by assumption)) ok_X3_64 rfl ⟨Nat.le_of_ble_eq_true rfl, Nat.le_of_ble_eq_true rfl⟩ rfl hl.1 (Nat.le_of_ble_eq_true rfl) ⟨Nat.le_of_ble_eq_true rfl, Nat.le_of_ble_eq_true rfl⟩ dX3_giveBack_45 (Nat.le_of_ble_eq_true rfl) (Nat.le_of_ble_eq_true rfl) (fun E hE => hE)

set_option maxHeartbeats 4000000 in
set_option maxRecDepth 100000 in
theorem c_X3_ferry_ok (l : Launch) (hfl : l.stackTraces = false) (Z : fx_Z) (ad : Nat → Nat) (hinj : fx_inj 115 ad) (g : St) (fc : Nat) (a : Int32) (b : Int32) (h1 : ¬ a ≤ g 0 2) (h2 : a ≤ 10000) (h3 : ¬ b < 1) (h4 : b ≤ 10) (hfc : g 0 1 = nI fc) (hf2 : fc < 20) : fx_C l Z yX3_ferry cX3_ferry 4 (some .int) 0 0 0 0 115 ad (cF ad Z.2.1) g [.ref (ad 0), .int a, .int b] (pI (nI fc) (u2 (u2 (u2 g 11 fc a) 12 fc b) 0 1 (nI (fc + 1)))) (fun _ => False) := by
  intro sz
  refine vx_ofW (cc := cX3_ferry) (maxL := 4) (ret := (some .int)) (by decide) rfl ?_
  intro p e s m args below meth c s₁ B hml hout hv
  obtain ⟨rfl, hsz, hP, hE, hSt⟩ := hv
  subst hsz
  have hx := B.exec
  have hb := B.bytes
  have hr := B.returns
  have hown : s.vm.findClass RX3 = some m.cls := findClass_of_methodNamed B.named
  have hlocks := B.notSynchronized
  have K : c_K p l s m ([.ref (ad 0), .int a, .int b] : List Value).toArray c cX3_ferry 4 Z ad := ⟨hx, hb, hml, hown, fun w hw => atoms_spec (ws := fx_l yX3_ferry cX3_ferry 4 (some .int)) B.pre w (List.mem_cons_of_mem _ hw), hE, hSt, hinj, hfl⟩
  have hS : va_S (fx_A 115 ad s.heap.size) s.heap s.heap [] := va_S.rf
  have hl := lv_entry ([.ref (ad 0), .int a, .int b]) (n := 4) (Nat.le_of_ble_eq_true rfl)
  rw [lg_entry_eq]
  generalize (lg_sl ([.ref (ad 0), .int a, .int b]) ++ List.replicate (4 - (lg_sl ([.ref (ad 0), .int a, .int b])).length) Slot.unset).toArray = ls at hl ⊢
  have hl : lv_has ls 4 [(0, .ref (ad 0)), (1, .int a), (2, .int b)] := hl
  refine lv_iload_n hx hb dX3_ferry_0 rfl (lv_at hl 1 rfl) ?_
  refine lv_aload_n hx hb dX3_ferry_1 rfl (lv_at hl 0 rfl) ?_
  refine cg_now K hP dX3_ferry_2 ?_
  refine lv_icmp_le (tgt := 15) hx hb dX3_ferry_5 (by decide) (fun c1 => absurd c1 h1) (fun _ => ?_)
  refine lv_iload_n hx hb dX3_ferry_8 rfl (lv_at hl 1 rfl) ?_
  refine lv_sipush (v := 10000) hx hb dX3_ferry_9 (by decide) ?_
  refine lv_icmp_le (tgt := 25) hx hb dX3_ferry_12 (by decide) (fun _ => ?_) (fun c2 => absurd h2 c2)
  refine lv_iload_n hx hb dX3_ferry_25 rfl (lv_at hl 2 rfl) ?_
  refine lv_iconst (v := 1) hx hb dX3_ferry_26 (by decide) ?_
  refine lv_icmp_lt (tgt := 36) hx hb dX3_ferry_27 (by decide) (fun c3 => absurd c3 h3) (fun _ => ?_)
  refine lv_iload_n hx hb dX3_ferry_30 rfl (lv_at hl 2 rfl) ?_
  refine lv_bipush (v := 10) hx hb dX3_ferry_31 (by decide) ?_
  refine lv_icmp_le (tgt := 46) hx hb dX3_ferry_33 (by decide) (fun _ => ?_) (fun c4 => absurd h4 c4)
  refine lv_aload_n hx hb dX3_ferry_46 rfl (lv_at hl 0 rfl) ?_
  refine cg_ferryCount K hP dX3_ferry_47 ?_
  rw [hfc]
  refine lv_bipush (v := 20) hx hb dX3_ferry_50 (by decide) ?_
  refine lv_icmp_lt (tgt := 65) hx hb dX3_ferry_52 (by decide) (fun _ => ?_) (fun c5 => absurd (nI_ltM (n := 20) rfl hf2 (by decide)) c5)
  refine lv_aload_n hx hb dX3_ferry_65 rfl (lv_at hl 0 rfl) ?_
  refine cg_ferries K hP dX3_ferry_66 ?_
  refine lv_aload_n hx hb dX3_ferry_69 rfl (lv_at hl 0 rfl) ?_
  refine cg_ferryCount K hP dX3_ferry_70 ?_
  rw [hfc]
  refine c_aldF K hP (by omega) dX3_ferry_73 ?_
  refine lv_astore_n (lv' := [(3, .ref (ad (65 + fc))), (0, .ref (ad 0)), (1, .int a), (2, .int b)]) hx hb dX3_ferry_74 rfl hl (by decide) rfl (fun ls hl => ?_)
  refine lv_aload_n hx hb dX3_ferry_75 rfl (lv_at hl 0 rfl) ?_
  refine lv_iload_n hx hb dX3_ferry_76 rfl (lv_at hl 2 rfl) ?_
  refine cpF_sailsAt K hP hS (by omega) dX3_ferry_77 (fun h6 H locs e6 hP hS => ?_)
  refine lv_aload_n hx hb dX3_ferry_80 rfl (lv_at hl 0 rfl) ?_
  refine lv_iload_n hx hb dX3_ferry_81 rfl (lv_at hl 3 rfl) ?_
  refine cpF_seats K hP hS (by omega) dX3_ferry_82 (fun h7 H locs e7 hP hS => ?_)
  refine lv_aload_n hx hb dX3_ferry_85 rfl (lv_at hl 1 rfl) ?_
  refine lv_dup hx hb dX3_ferry_86 rfl ?_
  refine cg_ferryCount K hP dX3_ferry_87 ?_
  rw [show h7 0 1 = g 0 1 from by rw [e7, u2_off _ _ (by omega), e6, u2_off _ _ (by omega)]]
  rw [hfc]
  refine lv_iconst (v := 1) hx hb dX3_ferry_90 (by decide) ?_
  refine lv_iadd hx hb dX3_ferry_91 ?_
  rw [show ((nI fc) + 1 : Int32) = nI (fc + 1) from nI_1 fc]
  refine cp_ferryCount K hP hS dX3_ferry_92 (fun h8 H locs e8 hP hS => ?_)
  refine lv_aload_n hx hb dX3_ferry_95 rfl (lv_at hl 1 rfl) ?_
  refine cg_ferryCount K hP dX3_ferry_96 ?_
  rw [show h8 0 1 = nI (fc + 1) from by rw [e8, u2_self]]
  refine lv_iconst (v := 1) hx hb dX3_ferry_99 (by decide) ?_
  refine lv_isub hx hb dX3_ferry_100 ?_
  rw [show ((nI (fc + 1)) - 1 : Int32) = nI fc from nI_pred fc]
  exact fx_reti hx hb hr hlocks hP hS (Nat.le_of_ble_eq_true rfl) (Nat.le_of_ble_eq_true rfl) dX3_ferry_101 ⟨rfl, by simp only [e6, e7, e8]⟩

set_option maxHeartbeats 4000000 in
set_option maxRecDepth 100000 in
theorem c_X3_ferry_x1a (l : Launch) (hfl : l.stackTraces = false) (Z : fx_Z) (ad : Nat → Nat) (hinj : fx_inj 115 ad) (g : St) (a : Int32) (b : Int32) (h1 : a ≤ g 0 2 ∨ ¬ a ≤ 10000) : fx_C l Z yX3_ferry cX3_ferry 4 (some .int) 6 82 1 6 115 ad (cF ad Z.2.1) g [.ref (ad 0), .int a, .int b] (fun _ _ => False) (fun E => E = "java/lang/IllegalArgumentException") := by
  intro sz
  refine vx_ofW (cc := cX3_ferry) (maxL := 4) (ret := (some .int)) (by decide) rfl ?_
  intro p e s m args below meth c s₁ B hml hout hv
  obtain ⟨rfl, hsz, hP, hE, hSt⟩ := hv
  subst hsz
  have hx := B.exec
  have hb := B.bytes
  have hr := B.returns
  have hown : s.vm.findClass RX3 = some m.cls := findClass_of_methodNamed B.named
  have hlocks := B.notSynchronized
  have K : c_K p l s m ([.ref (ad 0), .int a, .int b] : List Value).toArray c cX3_ferry 4 Z ad := ⟨hx, hb, hml, hown, fun w hw => atoms_spec (ws := fx_l yX3_ferry cX3_ferry 4 (some .int)) B.pre w (List.mem_cons_of_mem _ hw), hE, hSt, hinj, hfl⟩
  have hS : va_S (fx_A 115 ad s.heap.size) s.heap s.heap [] := va_S.rf
  have hl := lv_entry ([.ref (ad 0), .int a, .int b]) (n := 4) (Nat.le_of_ble_eq_true rfl)
  rw [lg_entry_eq]
  generalize (lg_sl ([.ref (ad 0), .int a, .int b]) ++ List.replicate (4 - (lg_sl ([.ref (ad 0), .int a, .int b])).length) Slot.unset).toArray = ls at hl ⊢
  have hl : lv_has ls 4 [(0, .ref (ad 0)), (1, .int a), (2, .int b)] := hl
  refine lv_iload_n hx hb dX3_ferry_0 rfl (lv_at hl 1 rfl) ?_
  refine lv_aload_n hx hb dX3_ferry_1 rfl (lv_at hl 0 rfl) ?_
  refine cg_now K hP dX3_ferry_2 ?_
  refine lv_icmp_le (tgt := 15) hx hb dX3_ferry_5 (by decide) (fun c1 => ?_) (fun c1 => ?_)
  · exact c_throw (text := "the hour is out of range") K hlocks hout hP hS hl.1 xw_IAE xi_IAE (by decide) xa_IAE (by decide) dX3_ferry_15 dX3_ferry_18 dX3_ferry_19 dX3_ferry_21 dX3_ferry_24 (Nat.le_of_ble_eq_true rfl) (Nat.le_of_ble_eq_true rfl) (Nat.le_of_ble_eq_true rfl) (Nat.le_of_ble_eq_true rfl) (Nat.le_of_ble_eq_true rfl) (Nat.le_of_ble_eq_true rfl) rfl
  · refine lv_iload_n hx hb dX3_ferry_8 rfl (lv_at hl 1 rfl) ?_
    refine lv_sipush (v := 10000) hx hb dX3_ferry_9 (by decide) ?_
    refine lv_icmp_le (tgt := 25) hx hb dX3_ferry_12 (by decide) (fun c2 => ?_) (fun c2 => ?_)
    · exact absurd h1 (by simp only [not_or, Classical.not_not]; exact ⟨c1, c2⟩)
    · exact c_throw (text := "the hour is out of range") K hlocks hout hP hS hl.1 xw_IAE xi_IAE (by decide) xa_IAE (by decide) dX3_ferry_15 dX3_ferry_18 dX3_ferry_19 dX3_ferry_21 dX3_ferry_24 (Nat.le_of_ble_eq_true rfl) (Nat.le_of_ble_eq_true rfl) (Nat.le_of_ble_eq_true rfl) (Nat.le_of_ble_eq_true rfl) (Nat.le_of_ble_eq_true rfl) (Nat.le_of_ble_eq_true rfl) rfl

set_option maxHeartbeats 4000000 in
set_option maxRecDepth 100000 in
theorem c_X3_ferry_x1b (l : Launch) (hfl : l.stackTraces = false) (Z : fx_Z) (ad : Nat → Nat) (hinj : fx_inj 115 ad) (g : St) (a : Int32) (b : Int32) (h1 : ¬ a ≤ g 0 2) (h2 : a ≤ 10000) (h3 : b < 1 ∨ ¬ b ≤ 10) : fx_C l Z yX3_ferry cX3_ferry 4 (some .int) 6 82 1 6 115 ad (cF ad Z.2.1) g [.ref (ad 0), .int a, .int b] (fun _ _ => False) (fun E => E = "java/lang/IllegalArgumentException") := by
  intro sz
  refine vx_ofW (cc := cX3_ferry) (maxL := 4) (ret := (some .int)) (by decide) rfl ?_
  intro p e s m args below meth c s₁ B hml hout hv
  obtain ⟨rfl, hsz, hP, hE, hSt⟩ := hv
  subst hsz
  have hx := B.exec
  have hb := B.bytes
  have hr := B.returns
  have hown : s.vm.findClass RX3 = some m.cls := findClass_of_methodNamed B.named
  have hlocks := B.notSynchronized
  have K : c_K p l s m ([.ref (ad 0), .int a, .int b] : List Value).toArray c cX3_ferry 4 Z ad := ⟨hx, hb, hml, hown, fun w hw => atoms_spec (ws := fx_l yX3_ferry cX3_ferry 4 (some .int)) B.pre w (List.mem_cons_of_mem _ hw), hE, hSt, hinj, hfl⟩
  have hS : va_S (fx_A 115 ad s.heap.size) s.heap s.heap [] := va_S.rf
  have hl := lv_entry ([.ref (ad 0), .int a, .int b]) (n := 4) (Nat.le_of_ble_eq_true rfl)
  rw [lg_entry_eq]
  generalize (lg_sl ([.ref (ad 0), .int a, .int b]) ++ List.replicate (4 - (lg_sl ([.ref (ad 0), .int a, .int b])).length) Slot.unset).toArray = ls at hl ⊢
  have hl : lv_has ls 4 [(0, .ref (ad 0)), (1, .int a), (2, .int b)] := hl
  refine lv_iload_n hx hb dX3_ferry_0 rfl (lv_at hl 1 rfl) ?_
  refine lv_aload_n hx hb dX3_ferry_1 rfl (lv_at hl 0 rfl) ?_
  refine cg_now K hP dX3_ferry_2 ?_
  refine lv_icmp_le (tgt := 15) hx hb dX3_ferry_5 (by decide) (fun c1 => absurd c1 h1) (fun _ => ?_)
  refine lv_iload_n hx hb dX3_ferry_8 rfl (lv_at hl 1 rfl) ?_
  refine lv_sipush (v := 10000) hx hb dX3_ferry_9 (by decide) ?_
  refine lv_icmp_le (tgt := 25) hx hb dX3_ferry_12 (by decide) (fun _ => ?_) (fun c2 => absurd h2 c2)
  refine lv_iload_n hx hb dX3_ferry_25 rfl (lv_at hl 2 rfl) ?_
  refine lv_iconst (v := 1) hx hb dX3_ferry_26 (by decide) ?_
  refine lv_icmp_lt (tgt := 36) hx hb dX3_ferry_27 (by decide) (fun c3 => ?_) (fun c3 => ?_)
  · exact c_throw (text := "the seats are out of range") K hlocks hout hP hS hl.1 xw_IAE xi_IAE (by decide) xa_IAE (by decide) dX3_ferry_36 dX3_ferry_39 dX3_ferry_40 dX3_ferry_42 dX3_ferry_45 (Nat.le_of_ble_eq_true rfl) (Nat.le_of_ble_eq_true rfl) (Nat.le_of_ble_eq_true rfl) (Nat.le_of_ble_eq_true rfl) (Nat.le_of_ble_eq_true rfl) (Nat.le_of_ble_eq_true rfl) rfl
  · refine lv_iload_n hx hb dX3_ferry_30 rfl (lv_at hl 2 rfl) ?_
    refine lv_bipush (v := 10) hx hb dX3_ferry_31 (by decide) ?_
    refine lv_icmp_le (tgt := 46) hx hb dX3_ferry_33 (by decide) (fun c4 => ?_) (fun c4 => ?_)
    · exact absurd h3 (by simp only [not_or, Classical.not_not]; exact ⟨c3, c4⟩)
    · exact c_throw (text := "the seats are out of range") K hlocks hout hP hS hl.1 xw_IAE xi_IAE (by decide) xa_IAE (by decide) dX3_ferry_36 dX3_ferry_39 dX3_ferry_40 dX3_ferry_42 dX3_ferry_45 (Nat.le_of_ble_eq_true rfl) (Nat.le_of_ble_eq_true rfl) (Nat.le_of_ble_eq_true rfl) (Nat.le_of_ble_eq_true rfl) (Nat.le_of_ble_eq_true rfl) (Nat.le_of_ble_eq_true rfl) rfl

set_option maxHeartbeats 4000000 in
set_option maxRecDepth 100000 in
theorem c_X3_ferry_x2 (l : Launch) (hfl : l.stackTraces = false) (Z : fx_Z) (ad : Nat → Nat) (hinj : fx_inj 115 ad) (g : St) (a : Int32) (b : Int32) (h1 : ¬ a ≤ g 0 2) (h2 : a ≤ 10000) (h3 : ¬ b < 1) (h4 : b ≤ 10) (hfc : g 0 1 = 20) : fx_C l Z yX3_ferry cX3_ferry 4 (some .int) 6 82 1 6 115 ad (cF ad Z.2.1) g [.ref (ad 0), .int a, .int b] (fun _ _ => False) (fun E => E = "java/lang/IllegalStateException") := by
  intro sz
  refine vx_ofW (cc := cX3_ferry) (maxL := 4) (ret := (some .int)) (by decide) rfl ?_
  intro p e s m args below meth c s₁ B hml hout hv
  obtain ⟨rfl, hsz, hP, hE, hSt⟩ := hv
  subst hsz
  have hx := B.exec
  have hb := B.bytes
  have hr := B.returns
  have hown : s.vm.findClass RX3 = some m.cls := findClass_of_methodNamed B.named
  have hlocks := B.notSynchronized
  have K : c_K p l s m ([.ref (ad 0), .int a, .int b] : List Value).toArray c cX3_ferry 4 Z ad := ⟨hx, hb, hml, hown, fun w hw => atoms_spec (ws := fx_l yX3_ferry cX3_ferry 4 (some .int)) B.pre w (List.mem_cons_of_mem _ hw), hE, hSt, hinj, hfl⟩
  have hS : va_S (fx_A 115 ad s.heap.size) s.heap s.heap [] := va_S.rf
  have hl := lv_entry ([.ref (ad 0), .int a, .int b]) (n := 4) (Nat.le_of_ble_eq_true rfl)
  rw [lg_entry_eq]
  generalize (lg_sl ([.ref (ad 0), .int a, .int b]) ++ List.replicate (4 - (lg_sl ([.ref (ad 0), .int a, .int b])).length) Slot.unset).toArray = ls at hl ⊢
  have hl : lv_has ls 4 [(0, .ref (ad 0)), (1, .int a), (2, .int b)] := hl
  refine lv_iload_n hx hb dX3_ferry_0 rfl (lv_at hl 1 rfl) ?_
  refine lv_aload_n hx hb dX3_ferry_1 rfl (lv_at hl 0 rfl) ?_
  refine cg_now K hP dX3_ferry_2 ?_
  refine lv_icmp_le (tgt := 15) hx hb dX3_ferry_5 (by decide) (fun c1 => absurd c1 h1) (fun _ => ?_)
  refine lv_iload_n hx hb dX3_ferry_8 rfl (lv_at hl 1 rfl) ?_
  refine lv_sipush (v := 10000) hx hb dX3_ferry_9 (by decide) ?_
  refine lv_icmp_le (tgt := 25) hx hb dX3_ferry_12 (by decide) (fun _ => ?_) (fun c2 => absurd h2 c2)
  refine lv_iload_n hx hb dX3_ferry_25 rfl (lv_at hl 2 rfl) ?_
  refine lv_iconst (v := 1) hx hb dX3_ferry_26 (by decide) ?_
  refine lv_icmp_lt (tgt := 36) hx hb dX3_ferry_27 (by decide) (fun c3 => absurd c3 h3) (fun _ => ?_)
  refine lv_iload_n hx hb dX3_ferry_30 rfl (lv_at hl 2 rfl) ?_
  refine lv_bipush (v := 10) hx hb dX3_ferry_31 (by decide) ?_
  refine lv_icmp_le (tgt := 46) hx hb dX3_ferry_33 (by decide) (fun _ => ?_) (fun c4 => absurd h4 c4)
  refine lv_aload_n hx hb dX3_ferry_46 rfl (lv_at hl 0 rfl) ?_
  refine cg_ferryCount K hP dX3_ferry_47 ?_
  rw [hfc]
  refine lv_bipush (v := 20) hx hb dX3_ferry_50 (by decide) ?_
  refine lv_icmp_lt (tgt := 65) hx hb dX3_ferry_52 (by decide) (fun c5 => absurd c5 (by decide)) (fun _ => ?_)
  exact c_throw (text := "there are as many ferries as there may be") K hlocks hout hP hS hl.1 xw_ISE xi_ISE (by decide) xa_ISE (by decide) dX3_ferry_55 dX3_ferry_58 dX3_ferry_59 dX3_ferry_61 dX3_ferry_64 (Nat.le_of_ble_eq_true rfl) (Nat.le_of_ble_eq_true rfl) (Nat.le_of_ble_eq_true rfl) (Nat.le_of_ble_eq_true rfl) (Nat.le_of_ble_eq_true rfl) (Nat.le_of_ble_eq_true rfl) rfl

set_option maxHeartbeats 4000000 in
set_option maxRecDepth 100000 in
theorem c_X3_seat_ok (l : Launch) (hfl : l.stackTraces = false) (Z : fx_Z) (ad : Nat → Nat) (hinj : fx_inj 115 ad) (g : St) (fc : Nat) (t : Nat) (f : Nat) (ht9 : t < 10) (hff : f < fc) (hfc : g 0 1 = nI fc) (hf2 : fc ≤ 20) (hns : g 0 2 < g 11 f) (hgo : g 16 t = 0) (hp : g (30 + f) t = 0) (hsl : 1 ≤ (g 12 f - (10 - nI (pwN g f 0 10)))) : fx_C l Z yX3_seat cX3_seat 5 (some .int) 2 45 0 0 115 ad (cF ad Z.2.1) g [.ref (ad 0), .int (nI t), .int (nI f)] (pI ((u2 g (30 + f) t 1) 12 f - (10 - nI (pwN (u2 g (30 + f) t 1) f 0 10))) (u2 g (30 + f) t 1)) (fun _ => False) := by
  intro sz
  refine vx_ofW (cc := cX3_seat) (maxL := 5) (ret := (some .int)) (by decide) rfl ?_
  intro p e s m args below meth c s₁ B hml hout hv
  obtain ⟨rfl, hsz, hP, hE, hSt⟩ := hv
  subst hsz
  have hx := B.exec
  have hb := B.bytes
  have hr := B.returns
  have hown : s.vm.findClass RX3 = some m.cls := findClass_of_methodNamed B.named
  have hlocks := B.notSynchronized
  have K : c_K p l s m ([.ref (ad 0), .int (nI t), .int (nI f)] : List Value).toArray c cX3_seat 5 Z ad := ⟨hx, hb, hml, hown, fun w hw => atoms_spec (ws := fx_l yX3_seat cX3_seat 5 (some .int)) B.pre w (List.mem_cons_of_mem _ hw), hE, hSt, hinj, hfl⟩
  have hS : va_S (fx_A 115 ad s.heap.size) s.heap s.heap [] := va_S.rf
  have hl := lv_entry ([.ref (ad 0), .int (nI t), .int (nI f)]) (n := 5) (Nat.le_of_ble_eq_true rfl)
  rw [lg_entry_eq]
  generalize (lg_sl ([.ref (ad 0), .int (nI t), .int (nI f)]) ++ List.replicate (5 - (lg_sl ([.ref (ad 0), .int (nI t), .int (nI f)])).length) Slot.unset).toArray = ls at hl ⊢
  have hl : lv_has ls 5 [(0, .ref (ad 0)), (1, .int (nI t)), (2, .int (nI f))] := hl
  refine lv_aload_n hx hb dX3_seat_0 rfl (lv_at hl 0 rfl) ?_
  refine lv_iload_n hx hb dX3_seat_1 rfl (lv_at hl 1 rfl) ?_
  refine c_callr (rest := []) K hP hS (c_X3_travellerNumbered_ok l hfl Z ad hinj g t (by assumption)) ok_X3_58 rfl ⟨Nat.le_of_ble_eq_true rfl, Nat.le_of_ble_eq_true rfl⟩ rfl hl.1 (Nat.le_of_ble_eq_true rfl) ⟨Nat.le_of_ble_eq_true rfl, Nat.le_of_ble_eq_true rfl⟩ dX3_seat_2 (fun H locs hP hS => ?_)
  refine lv_astore_n (lv' := [(3, .ref (ad (105 + t))), (0, .ref (ad 0)), (1, .int (nI t)), (2, .int (nI f))]) hx hb dX3_seat_5 rfl hl (by decide) rfl (fun ls hl => ?_)
  refine lv_aload_n hx hb dX3_seat_6 rfl (lv_at hl 1 rfl) ?_
  refine lv_iload_n hx hb dX3_seat_7 rfl (lv_at hl 3 rfl) ?_
  refine c_callr (rest := []) K hP hS (c_X3_ferryNumbered_ok l hfl Z ad hinj g fc f (by assumption) (by assumption) (by assumption)) ok_X3_116 rfl ⟨Nat.le_of_ble_eq_true rfl, Nat.le_of_ble_eq_true rfl⟩ rfl hl.1 (Nat.le_of_ble_eq_true rfl) ⟨Nat.le_of_ble_eq_true rfl, Nat.le_of_ble_eq_true rfl⟩ dX3_seat_8 (fun H locs hP hS => ?_)
  refine lv_astore (lv' := [(4, .ref (ad (65 + f))), (3, .ref (ad (105 + t))), (0, .ref (ad 0)), (1, .int (nI t)), (2, .int (nI f))]) hx hb dX3_seat_11 hl (by decide) rfl (fun ls hl => ?_)
  refine lv_aload_n hx hb dX3_seat_13 rfl (lv_at hl 2 rfl) ?_
  refine lv_aload hx hb dX3_seat_14 (lv_at hl 0 rfl) ?_
  refine c_callv (rest := []) K hP hS (c_X3_requireNotSailed_ok l hfl Z ad hinj g f (by omega) (by assumption)) ok_X3_120 rfl ⟨Nat.le_of_ble_eq_true rfl, Nat.le_of_ble_eq_true rfl⟩ rfl hl.1 (Nat.le_of_ble_eq_true rfl) ⟨Nat.le_of_ble_eq_true rfl, Nat.le_of_ble_eq_true rfl⟩ dX3_seat_16 (fun H locs hP hS => ?_)
  refine lv_aload_n hx hb dX3_seat_19 rfl (lv_at hl 2 rfl) ?_
  refine lv_aload_n hx hb dX3_seat_20 rfl (lv_at hl 1 rfl) ?_
  refine c_callv (rest := []) K hP hS (c_X3_requireOnIsland_ok l hfl Z ad hinj g t (by assumption) (by assumption)) ok_X3_64 rfl ⟨Nat.le_of_ble_eq_true rfl, Nat.le_of_ble_eq_true rfl⟩ rfl hl.1 (Nat.le_of_ble_eq_true rfl) ⟨Nat.le_of_ble_eq_true rfl, Nat.le_of_ble_eq_true rfl⟩ dX3_seat_21 (fun H locs hP hS => ?_)
  refine lv_aload hx hb dX3_seat_24 (lv_at hl 0 rfl) ?_
  refine cgF_places K hP (by omega) dX3_seat_26 ?_
  refine lv_iload_n hx hb dX3_seat_29 rfl (lv_at hl 3 rfl) ?_
  refine c_aldP K hP (by omega) (by omega) dX3_seat_30 ?_
  refine lv_if_eq (tgt := 44) hx hb dX3_seat_31 (by decide) (fun _ => ?_) (fun c1 => absurd hp c1)
  refine lv_aload_n hx hb dX3_seat_44 rfl (lv_at hl 2 rfl) ?_
  refine lv_aload hx hb dX3_seat_45 (lv_at hl 0 rfl) ?_
  refine c_calli (rest := []) K hP hS (c_X3_seatsLeft l hfl Z ad hinj g f (by omega)) ok_X3_129 rfl ⟨Nat.le_of_ble_eq_true rfl, Nat.le_of_ble_eq_true rfl⟩ rfl hl.1 (Nat.le_of_ble_eq_true rfl) ⟨Nat.le_of_ble_eq_true rfl, Nat.le_of_ble_eq_true rfl⟩ dX3_seat_47 (fun H locs hP hS => ?_)
  refine lv_topi (fun v2 e2 => ?_)
  refine lv_iconst (v := 1) hx hb dX3_seat_50 (by decide) ?_
  refine lv_icmp_ge (tgt := 64) hx hb dX3_seat_51 (by decide) (fun _ => ?_) (fun c3 => absurd (by rw [e2]; exact hsl) c3)
  refine lv_aload hx hb dX3_seat_64 (lv_at hl 0 rfl) ?_
  refine cgF_places K hP (by omega) dX3_seat_66 ?_
  refine lv_iload_n hx hb dX3_seat_69 rfl (lv_at hl 3 rfl) ?_
  refine lv_iconst (v := 1) hx hb dX3_seat_70 (by decide) ?_
  refine c_astP K hP hS (by omega) (by omega) dX3_seat_71 (fun h4 H locs e4 hP hS => ?_)
  refine lv_aload_n hx hb dX3_seat_72 rfl (lv_at hl 2 rfl) ?_
  refine lv_aload hx hb dX3_seat_73 (lv_at hl 0 rfl) ?_
  refine c_calli (rest := []) K hP hS (c_X3_seatsLeft l hfl Z ad hinj h4 f (by omega)) ok_X3_129 rfl ⟨Nat.le_of_ble_eq_true rfl, Nat.le_of_ble_eq_true rfl⟩ rfl hl.1 (Nat.le_of_ble_eq_true rfl) ⟨Nat.le_of_ble_eq_true rfl, Nat.le_of_ble_eq_true rfl⟩ dX3_seat_75 (fun H locs hP hS => ?_)
  refine lv_topi (fun v5 e5 => ?_)
  exact fx_reti hx hb hr hlocks hP hS (Nat.le_of_ble_eq_true rfl) (Nat.le_of_ble_eq_true rfl) dX3_seat_78 ⟨by simp only [e2, e4, e5], by simp only [e2, e4, e5]⟩

set_option maxHeartbeats 4000000 in
set_option maxRecDepth 100000 in
theorem c_X3_seat_x1a (l : Launch) (hfl : l.stackTraces = false) (Z : fx_Z) (ad : Nat → Nat) (hinj : fx_inj 115 ad) (g : St) (t : Int32) (f : Int32) (ht9 : bad t 10) : fx_C l Z yX3_seat cX3_seat 5 (some .int) 8 124 1 6 115 ad (cF ad Z.2.1) g [.ref (ad 0), .int t, .int f] (fun _ _ => False) (fun E => E = "java/lang/IndexOutOfBoundsException") := by
  intro sz
  refine vx_ofW (cc := cX3_seat) (maxL := 5) (ret := (some .int)) (by decide) rfl ?_
  intro p e s m args below meth c s₁ B hml hout hv
  obtain ⟨rfl, hsz, hP, hE, hSt⟩ := hv
  subst hsz
  have hx := B.exec
  have hb := B.bytes
  have hr := B.returns
  have hown : s.vm.findClass RX3 = some m.cls := findClass_of_methodNamed B.named
  have hlocks := B.notSynchronized
  have K : c_K p l s m ([.ref (ad 0), .int t, .int f] : List Value).toArray c cX3_seat 5 Z ad := ⟨hx, hb, hml, hown, fun w hw => atoms_spec (ws := fx_l yX3_seat cX3_seat 5 (some .int)) B.pre w (List.mem_cons_of_mem _ hw), hE, hSt, hinj, hfl⟩
  have hS : va_S (fx_A 115 ad s.heap.size) s.heap s.heap [] := va_S.rf
  have hl := lv_entry ([.ref (ad 0), .int t, .int f]) (n := 5) (Nat.le_of_ble_eq_true rfl)
  rw [lg_entry_eq]
  generalize (lg_sl ([.ref (ad 0), .int t, .int f]) ++ List.replicate (5 - (lg_sl ([.ref (ad 0), .int t, .int f])).length) Slot.unset).toArray = ls at hl ⊢
  have hl : lv_has ls 5 [(0, .ref (ad 0)), (1, .int t), (2, .int f)] := hl
  refine lv_aload_n hx hb dX3_seat_0 rfl (lv_at hl 0 rfl) ?_
  refine lv_iload_n hx hb dX3_seat_1 rfl (lv_at hl 1 rfl) ?_
  exact c_callx (rest := []) K hlocks hout hP hS (c_X3_travellerNumbered_x l hfl Z ad hinj g t (by assumption)) ok_X3_58 rfl ⟨Nat.le_of_ble_eq_true rfl, Nat.le_of_ble_eq_true rfl⟩ rfl hl.1 (Nat.le_of_ble_eq_true rfl) ⟨Nat.le_of_ble_eq_true rfl, Nat.le_of_ble_eq_true rfl⟩ dX3_seat_2 (Nat.le_of_ble_eq_true rfl) (Nat.le_of_ble_eq_true rfl) (fun E hE => hE)

set_option maxHeartbeats 4000000 in
set_option maxRecDepth 100000 in
theorem c_X3_seat_x1b (l : Launch) (hfl : l.stackTraces = false) (Z : fx_Z) (ad : Nat → Nat) (hinj : fx_inj 115 ad) (g : St) (fc : Nat) (t : Nat) (f : Int32) (ht9 : t < 10) (hfc : g 0 1 = nI fc) (hf2 : fc ≤ 20) (hff : bad f fc) : fx_C l Z yX3_seat cX3_seat 5 (some .int) 7 103 1 6 115 ad (cF ad Z.2.1) g [.ref (ad 0), .int (nI t), .int f] (fun _ _ => False) (fun E => E = "java/lang/IndexOutOfBoundsException") := by
  intro sz
  refine vx_ofW (cc := cX3_seat) (maxL := 5) (ret := (some .int)) (by decide) rfl ?_
  intro p e s m args below meth c s₁ B hml hout hv
  obtain ⟨rfl, hsz, hP, hE, hSt⟩ := hv
  subst hsz
  have hx := B.exec
  have hb := B.bytes
  have hr := B.returns
  have hown : s.vm.findClass RX3 = some m.cls := findClass_of_methodNamed B.named
  have hlocks := B.notSynchronized
  have K : c_K p l s m ([.ref (ad 0), .int (nI t), .int f] : List Value).toArray c cX3_seat 5 Z ad := ⟨hx, hb, hml, hown, fun w hw => atoms_spec (ws := fx_l yX3_seat cX3_seat 5 (some .int)) B.pre w (List.mem_cons_of_mem _ hw), hE, hSt, hinj, hfl⟩
  have hS : va_S (fx_A 115 ad s.heap.size) s.heap s.heap [] := va_S.rf
  have hl := lv_entry ([.ref (ad 0), .int (nI t), .int f]) (n := 5) (Nat.le_of_ble_eq_true rfl)
  rw [lg_entry_eq]
  generalize (lg_sl ([.ref (ad 0), .int (nI t), .int f]) ++ List.replicate (5 - (lg_sl ([.ref (ad 0), .int (nI t), .int f])).length) Slot.unset).toArray = ls at hl ⊢
  have hl : lv_has ls 5 [(0, .ref (ad 0)), (1, .int (nI t)), (2, .int f)] := hl
  refine lv_aload_n hx hb dX3_seat_0 rfl (lv_at hl 0 rfl) ?_
  refine lv_iload_n hx hb dX3_seat_1 rfl (lv_at hl 1 rfl) ?_
  refine c_callr (rest := []) K hP hS (c_X3_travellerNumbered_ok l hfl Z ad hinj g t (by assumption)) ok_X3_58 rfl ⟨Nat.le_of_ble_eq_true rfl, Nat.le_of_ble_eq_true rfl⟩ rfl hl.1 (Nat.le_of_ble_eq_true rfl) ⟨Nat.le_of_ble_eq_true rfl, Nat.le_of_ble_eq_true rfl⟩ dX3_seat_2 (fun H locs hP hS => ?_)
  refine lv_astore_n (lv' := [(3, .ref (ad (105 + t))), (0, .ref (ad 0)), (1, .int (nI t)), (2, .int f)]) hx hb dX3_seat_5 rfl hl (by decide) rfl (fun ls hl => ?_)
  refine lv_aload_n hx hb dX3_seat_6 rfl (lv_at hl 1 rfl) ?_
  refine lv_iload_n hx hb dX3_seat_7 rfl (lv_at hl 3 rfl) ?_
  exact c_callx (rest := []) K hlocks hout hP hS (c_X3_ferryNumbered_x l hfl Z ad hinj g fc f (by assumption) (by assumption) (by assumption)) ok_X3_116 rfl ⟨Nat.le_of_ble_eq_true rfl, Nat.le_of_ble_eq_true rfl⟩ rfl hl.1 (Nat.le_of_ble_eq_true rfl) ⟨Nat.le_of_ble_eq_true rfl, Nat.le_of_ble_eq_true rfl⟩ dX3_seat_8 (Nat.le_of_ble_eq_true rfl) (Nat.le_of_ble_eq_true rfl) (fun E hE => hE)

set_option maxHeartbeats 4000000 in
set_option maxRecDepth 100000 in
theorem c_X3_seat_x2a (l : Launch) (hfl : l.stackTraces = false) (Z : fx_Z) (ad : Nat → Nat) (hinj : fx_inj 115 ad) (g : St) (fc : Nat) (t : Nat) (f : Nat) (ht9 : t < 10) (hff : f < fc) (hfc : g 0 1 = nI fc) (hf2 : fc ≤ 20) (hns : ¬ g 0 2 < g 11 f) : fx_C l Z yX3_seat cX3_seat 5 (some .int) 7 103 1 6 115 ad (cF ad Z.2.1) g [.ref (ad 0), .int (nI t), .int (nI f)] (fun _ _ => False) (fun E => E = "java/lang/IllegalStateException") := by
  intro sz
  refine vx_ofW (cc := cX3_seat) (maxL := 5) (ret := (some .int)) (by decide) rfl ?_
  intro p e s m args below meth c s₁ B hml hout hv
  obtain ⟨rfl, hsz, hP, hE, hSt⟩ := hv
  subst hsz
  have hx := B.exec
  have hb := B.bytes
  have hr := B.returns
  have hown : s.vm.findClass RX3 = some m.cls := findClass_of_methodNamed B.named
  have hlocks := B.notSynchronized
  have K : c_K p l s m ([.ref (ad 0), .int (nI t), .int (nI f)] : List Value).toArray c cX3_seat 5 Z ad := ⟨hx, hb, hml, hown, fun w hw => atoms_spec (ws := fx_l yX3_seat cX3_seat 5 (some .int)) B.pre w (List.mem_cons_of_mem _ hw), hE, hSt, hinj, hfl⟩
  have hS : va_S (fx_A 115 ad s.heap.size) s.heap s.heap [] := va_S.rf
  have hl := lv_entry ([.ref (ad 0), .int (nI t), .int (nI f)]) (n := 5) (Nat.le_of_ble_eq_true rfl)
  rw [lg_entry_eq]
  generalize (lg_sl ([.ref (ad 0), .int (nI t), .int (nI f)]) ++ List.replicate (5 - (lg_sl ([.ref (ad 0), .int (nI t), .int (nI f)])).length) Slot.unset).toArray = ls at hl ⊢
  have hl : lv_has ls 5 [(0, .ref (ad 0)), (1, .int (nI t)), (2, .int (nI f))] := hl
  refine lv_aload_n hx hb dX3_seat_0 rfl (lv_at hl 0 rfl) ?_
  refine lv_iload_n hx hb dX3_seat_1 rfl (lv_at hl 1 rfl) ?_
  refine c_callr (rest := []) K hP hS (c_X3_travellerNumbered_ok l hfl Z ad hinj g t (by assumption)) ok_X3_58 rfl ⟨Nat.le_of_ble_eq_true rfl, Nat.le_of_ble_eq_true rfl⟩ rfl hl.1 (Nat.le_of_ble_eq_true rfl) ⟨Nat.le_of_ble_eq_true rfl, Nat.le_of_ble_eq_true rfl⟩ dX3_seat_2 (fun H locs hP hS => ?_)
  refine lv_astore_n (lv' := [(3, .ref (ad (105 + t))), (0, .ref (ad 0)), (1, .int (nI t)), (2, .int (nI f))]) hx hb dX3_seat_5 rfl hl (by decide) rfl (fun ls hl => ?_)
  refine lv_aload_n hx hb dX3_seat_6 rfl (lv_at hl 1 rfl) ?_
  refine lv_iload_n hx hb dX3_seat_7 rfl (lv_at hl 3 rfl) ?_
  refine c_callr (rest := []) K hP hS (c_X3_ferryNumbered_ok l hfl Z ad hinj g fc f (by assumption) (by assumption) (by assumption)) ok_X3_116 rfl ⟨Nat.le_of_ble_eq_true rfl, Nat.le_of_ble_eq_true rfl⟩ rfl hl.1 (Nat.le_of_ble_eq_true rfl) ⟨Nat.le_of_ble_eq_true rfl, Nat.le_of_ble_eq_true rfl⟩ dX3_seat_8 (fun H locs hP hS => ?_)
  refine lv_astore (lv' := [(4, .ref (ad (65 + f))), (3, .ref (ad (105 + t))), (0, .ref (ad 0)), (1, .int (nI t)), (2, .int (nI f))]) hx hb dX3_seat_11 hl (by decide) rfl (fun ls hl => ?_)
  refine lv_aload_n hx hb dX3_seat_13 rfl (lv_at hl 2 rfl) ?_
  refine lv_aload hx hb dX3_seat_14 (lv_at hl 0 rfl) ?_
  exact c_callx (rest := []) K hlocks hout hP hS (c_X3_requireNotSailed_x l hfl Z ad hinj g f (by omega) (by assumption)) ok_X3_120 rfl ⟨Nat.le_of_ble_eq_true rfl, Nat.le_of_ble_eq_true rfl⟩ rfl hl.1 (Nat.le_of_ble_eq_true rfl) ⟨Nat.le_of_ble_eq_true rfl, Nat.le_of_ble_eq_true rfl⟩ dX3_seat_16 (Nat.le_of_ble_eq_true rfl) (Nat.le_of_ble_eq_true rfl) (fun E hE => hE)

set_option maxHeartbeats 4000000 in
set_option maxRecDepth 100000 in
theorem c_X3_seat_x2b (l : Launch) (hfl : l.stackTraces = false) (Z : fx_Z) (ad : Nat → Nat) (hinj : fx_inj 115 ad) (g : St) (fc : Nat) (t : Nat) (f : Nat) (ht9 : t < 10) (hff : f < fc) (hfc : g 0 1 = nI fc) (hf2 : fc ≤ 20) (hns : g 0 2 < g 11 f) (hgo : ¬ g 16 t = 0) : fx_C l Z yX3_seat cX3_seat 5 (some .int) 7 103 1 6 115 ad (cF ad Z.2.1) g [.ref (ad 0), .int (nI t), .int (nI f)] (fun _ _ => False) (fun E => E = "java/lang/IllegalStateException") := by
  intro sz
  refine vx_ofW (cc := cX3_seat) (maxL := 5) (ret := (some .int)) (by decide) rfl ?_
  intro p e s m args below meth c s₁ B hml hout hv
  obtain ⟨rfl, hsz, hP, hE, hSt⟩ := hv
  subst hsz
  have hx := B.exec
  have hb := B.bytes
  have hr := B.returns
  have hown : s.vm.findClass RX3 = some m.cls := findClass_of_methodNamed B.named
  have hlocks := B.notSynchronized
  have K : c_K p l s m ([.ref (ad 0), .int (nI t), .int (nI f)] : List Value).toArray c cX3_seat 5 Z ad := ⟨hx, hb, hml, hown, fun w hw => atoms_spec (ws := fx_l yX3_seat cX3_seat 5 (some .int)) B.pre w (List.mem_cons_of_mem _ hw), hE, hSt, hinj, hfl⟩
  have hS : va_S (fx_A 115 ad s.heap.size) s.heap s.heap [] := va_S.rf
  have hl := lv_entry ([.ref (ad 0), .int (nI t), .int (nI f)]) (n := 5) (Nat.le_of_ble_eq_true rfl)
  rw [lg_entry_eq]
  generalize (lg_sl ([.ref (ad 0), .int (nI t), .int (nI f)]) ++ List.replicate (5 - (lg_sl ([.ref (ad 0), .int (nI t), .int (nI f)])).length) Slot.unset).toArray = ls at hl ⊢
  have hl : lv_has ls 5 [(0, .ref (ad 0)), (1, .int (nI t)), (2, .int (nI f))] := hl
  refine lv_aload_n hx hb dX3_seat_0 rfl (lv_at hl 0 rfl) ?_
  refine lv_iload_n hx hb dX3_seat_1 rfl (lv_at hl 1 rfl) ?_
  refine c_callr (rest := []) K hP hS (c_X3_travellerNumbered_ok l hfl Z ad hinj g t (by assumption)) ok_X3_58 rfl ⟨Nat.le_of_ble_eq_true rfl, Nat.le_of_ble_eq_true rfl⟩ rfl hl.1 (Nat.le_of_ble_eq_true rfl) ⟨Nat.le_of_ble_eq_true rfl, Nat.le_of_ble_eq_true rfl⟩ dX3_seat_2 (fun H locs hP hS => ?_)
  refine lv_astore_n (lv' := [(3, .ref (ad (105 + t))), (0, .ref (ad 0)), (1, .int (nI t)), (2, .int (nI f))]) hx hb dX3_seat_5 rfl hl (by decide) rfl (fun ls hl => ?_)
  refine lv_aload_n hx hb dX3_seat_6 rfl (lv_at hl 1 rfl) ?_
  refine lv_iload_n hx hb dX3_seat_7 rfl (lv_at hl 3 rfl) ?_
  refine c_callr (rest := []) K hP hS (c_X3_ferryNumbered_ok l hfl Z ad hinj g fc f (by assumption) (by assumption) (by assumption)) ok_X3_116 rfl ⟨Nat.le_of_ble_eq_true rfl, Nat.le_of_ble_eq_true rfl⟩ rfl hl.1 (Nat.le_of_ble_eq_true rfl) ⟨Nat.le_of_ble_eq_true rfl, Nat.le_of_ble_eq_true rfl⟩ dX3_seat_8 (fun H locs hP hS => ?_)
  refine lv_astore (lv' := [(4, .ref (ad (65 + f))), (3, .ref (ad (105 + t))), (0, .ref (ad 0)), (1, .int (nI t)), (2, .int (nI f))]) hx hb dX3_seat_11 hl (by decide) rfl (fun ls hl => ?_)
  refine lv_aload_n hx hb dX3_seat_13 rfl (lv_at hl 2 rfl) ?_
  refine lv_aload hx hb dX3_seat_14 (lv_at hl 0 rfl) ?_
  refine c_callv (rest := []) K hP hS (c_X3_requireNotSailed_ok l hfl Z ad hinj g f (by omega) (by assumption)) ok_X3_120 rfl ⟨Nat.le_of_ble_eq_true rfl, Nat.le_of_ble_eq_true rfl⟩ rfl hl.1 (Nat.le_of_ble_eq_true rfl) ⟨Nat.le_of_ble_eq_true rfl, Nat.le_of_ble_eq_true rfl⟩ dX3_seat_16 (fun H locs hP hS => ?_)
  refine lv_aload_n hx hb dX3_seat_19 rfl (lv_at hl 2 rfl) ?_
  refine lv_aload_n hx hb dX3_seat_20 rfl (lv_at hl 1 rfl) ?_
  exact c_callx (rest := []) K hlocks hout hP hS (c_X3_requireOnIsland_x l hfl Z ad hinj g t (by assumption) (by assumption)) ok_X3_64 rfl ⟨Nat.le_of_ble_eq_true rfl, Nat.le_of_ble_eq_true rfl⟩ rfl hl.1 (Nat.le_of_ble_eq_true rfl) ⟨Nat.le_of_ble_eq_true rfl, Nat.le_of_ble_eq_true rfl⟩ dX3_seat_21 (Nat.le_of_ble_eq_true rfl) (Nat.le_of_ble_eq_true rfl) (fun E hE => hE)

set_option maxHeartbeats 4000000 in
set_option maxRecDepth 100000 in
theorem c_X3_seat_x2c (l : Launch) (hfl : l.stackTraces = false) (Z : fx_Z) (ad : Nat → Nat) (hinj : fx_inj 115 ad) (g : St) (fc : Nat) (t : Nat) (f : Nat) (ht9 : t < 10) (hff : f < fc) (hfc : g 0 1 = nI fc) (hf2 : fc ≤ 20) (hns : g 0 2 < g 11 f) (hgo : g 16 t = 0) (hp : ¬ g (30 + f) t = 0) : fx_C l Z yX3_seat cX3_seat 5 (some .int) 6 82 1 6 115 ad (cF ad Z.2.1) g [.ref (ad 0), .int (nI t), .int (nI f)] (fun _ _ => False) (fun E => E = "java/lang/IllegalStateException") := by
  intro sz
  refine vx_ofW (cc := cX3_seat) (maxL := 5) (ret := (some .int)) (by decide) rfl ?_
  intro p e s m args below meth c s₁ B hml hout hv
  obtain ⟨rfl, hsz, hP, hE, hSt⟩ := hv
  subst hsz
  have hx := B.exec
  have hb := B.bytes
  have hr := B.returns
  have hown : s.vm.findClass RX3 = some m.cls := findClass_of_methodNamed B.named
  have hlocks := B.notSynchronized
  have K : c_K p l s m ([.ref (ad 0), .int (nI t), .int (nI f)] : List Value).toArray c cX3_seat 5 Z ad := ⟨hx, hb, hml, hown, fun w hw => atoms_spec (ws := fx_l yX3_seat cX3_seat 5 (some .int)) B.pre w (List.mem_cons_of_mem _ hw), hE, hSt, hinj, hfl⟩
  have hS : va_S (fx_A 115 ad s.heap.size) s.heap s.heap [] := va_S.rf
  have hl := lv_entry ([.ref (ad 0), .int (nI t), .int (nI f)]) (n := 5) (Nat.le_of_ble_eq_true rfl)
  rw [lg_entry_eq]
  generalize (lg_sl ([.ref (ad 0), .int (nI t), .int (nI f)]) ++ List.replicate (5 - (lg_sl ([.ref (ad 0), .int (nI t), .int (nI f)])).length) Slot.unset).toArray = ls at hl ⊢
  have hl : lv_has ls 5 [(0, .ref (ad 0)), (1, .int (nI t)), (2, .int (nI f))] := hl
  refine lv_aload_n hx hb dX3_seat_0 rfl (lv_at hl 0 rfl) ?_
  refine lv_iload_n hx hb dX3_seat_1 rfl (lv_at hl 1 rfl) ?_
  refine c_callr (rest := []) K hP hS (c_X3_travellerNumbered_ok l hfl Z ad hinj g t (by assumption)) ok_X3_58 rfl ⟨Nat.le_of_ble_eq_true rfl, Nat.le_of_ble_eq_true rfl⟩ rfl hl.1 (Nat.le_of_ble_eq_true rfl) ⟨Nat.le_of_ble_eq_true rfl, Nat.le_of_ble_eq_true rfl⟩ dX3_seat_2 (fun H locs hP hS => ?_)
  refine lv_astore_n (lv' := [(3, .ref (ad (105 + t))), (0, .ref (ad 0)), (1, .int (nI t)), (2, .int (nI f))]) hx hb dX3_seat_5 rfl hl (by decide) rfl (fun ls hl => ?_)
  refine lv_aload_n hx hb dX3_seat_6 rfl (lv_at hl 1 rfl) ?_
  refine lv_iload_n hx hb dX3_seat_7 rfl (lv_at hl 3 rfl) ?_
  refine c_callr (rest := []) K hP hS (c_X3_ferryNumbered_ok l hfl Z ad hinj g fc f (by assumption) (by assumption) (by assumption)) ok_X3_116 rfl ⟨Nat.le_of_ble_eq_true rfl, Nat.le_of_ble_eq_true rfl⟩ rfl hl.1 (Nat.le_of_ble_eq_true rfl) ⟨Nat.le_of_ble_eq_true rfl, Nat.le_of_ble_eq_true rfl⟩ dX3_seat_8 (fun H locs hP hS => ?_)
  refine lv_astore (lv' := [(4, .ref (ad (65 + f))), (3, .ref (ad (105 + t))), (0, .ref (ad 0)), (1, .int (nI t)), (2, .int (nI f))]) hx hb dX3_seat_11 hl (by decide) rfl (fun ls hl => ?_)
  refine lv_aload_n hx hb dX3_seat_13 rfl (lv_at hl 2 rfl) ?_
  refine lv_aload hx hb dX3_seat_14 (lv_at hl 0 rfl) ?_
  refine c_callv (rest := []) K hP hS (c_X3_requireNotSailed_ok l hfl Z ad hinj g f (by omega) (by assumption)) ok_X3_120 rfl ⟨Nat.le_of_ble_eq_true rfl, Nat.le_of_ble_eq_true rfl⟩ rfl hl.1 (Nat.le_of_ble_eq_true rfl) ⟨Nat.le_of_ble_eq_true rfl, Nat.le_of_ble_eq_true rfl⟩ dX3_seat_16 (fun H locs hP hS => ?_)
  refine lv_aload_n hx hb dX3_seat_19 rfl (lv_at hl 2 rfl) ?_
  refine lv_aload_n hx hb dX3_seat_20 rfl (lv_at hl 1 rfl) ?_
  refine c_callv (rest := []) K hP hS (c_X3_requireOnIsland_ok l hfl Z ad hinj g t (by assumption) (by assumption)) ok_X3_64 rfl ⟨Nat.le_of_ble_eq_true rfl, Nat.le_of_ble_eq_true rfl⟩ rfl hl.1 (Nat.le_of_ble_eq_true rfl) ⟨Nat.le_of_ble_eq_true rfl, Nat.le_of_ble_eq_true rfl⟩ dX3_seat_21 (fun H locs hP hS => ?_)
  refine lv_aload hx hb dX3_seat_24 (lv_at hl 0 rfl) ?_
  refine cgF_places K hP (by omega) dX3_seat_26 ?_
  refine lv_iload_n hx hb dX3_seat_29 rfl (lv_at hl 3 rfl) ?_
  refine c_aldP K hP (by omega) (by omega) dX3_seat_30 ?_
  refine lv_if_eq (tgt := 44) hx hb dX3_seat_31 (by decide) (fun c1 => absurd c1 hp) (fun _ => ?_)
  exact c_throw (text := "the traveller has a seat there") K hlocks hout hP hS hl.1 xw_ISE xi_ISE (by decide) xa_ISE (by decide) dX3_seat_34 dX3_seat_37 dX3_seat_38 dX3_seat_40 dX3_seat_43 (Nat.le_of_ble_eq_true rfl) (Nat.le_of_ble_eq_true rfl) (Nat.le_of_ble_eq_true rfl) (Nat.le_of_ble_eq_true rfl) (Nat.le_of_ble_eq_true rfl) (Nat.le_of_ble_eq_true rfl) rfl

set_option maxHeartbeats 4000000 in
set_option maxRecDepth 100000 in
theorem c_X3_seat_x2d (l : Launch) (hfl : l.stackTraces = false) (Z : fx_Z) (ad : Nat → Nat) (hinj : fx_inj 115 ad) (g : St) (fc : Nat) (t : Nat) (f : Nat) (ht9 : t < 10) (hff : f < fc) (hfc : g 0 1 = nI fc) (hf2 : fc ≤ 20) (hns : g 0 2 < g 11 f) (hgo : g 16 t = 0) (hp : g (30 + f) t = 0) (hsl : ¬ 1 ≤ (g 12 f - (10 - nI (pwN g f 0 10)))) : fx_C l Z yX3_seat cX3_seat 5 (some .int) 6 82 1 6 115 ad (cF ad Z.2.1) g [.ref (ad 0), .int (nI t), .int (nI f)] (fun _ _ => False) (fun E => E = "java/lang/IllegalStateException") := by
  intro sz
  refine vx_ofW (cc := cX3_seat) (maxL := 5) (ret := (some .int)) (by decide) rfl ?_
  intro p e s m args below meth c s₁ B hml hout hv
  obtain ⟨rfl, hsz, hP, hE, hSt⟩ := hv
  subst hsz
  have hx := B.exec
  have hb := B.bytes
  have hr := B.returns
  have hown : s.vm.findClass RX3 = some m.cls := findClass_of_methodNamed B.named
  have hlocks := B.notSynchronized
  have K : c_K p l s m ([.ref (ad 0), .int (nI t), .int (nI f)] : List Value).toArray c cX3_seat 5 Z ad := ⟨hx, hb, hml, hown, fun w hw => atoms_spec (ws := fx_l yX3_seat cX3_seat 5 (some .int)) B.pre w (List.mem_cons_of_mem _ hw), hE, hSt, hinj, hfl⟩
  have hS : va_S (fx_A 115 ad s.heap.size) s.heap s.heap [] := va_S.rf
  have hl := lv_entry ([.ref (ad 0), .int (nI t), .int (nI f)]) (n := 5) (Nat.le_of_ble_eq_true rfl)
  rw [lg_entry_eq]
  generalize (lg_sl ([.ref (ad 0), .int (nI t), .int (nI f)]) ++ List.replicate (5 - (lg_sl ([.ref (ad 0), .int (nI t), .int (nI f)])).length) Slot.unset).toArray = ls at hl ⊢
  have hl : lv_has ls 5 [(0, .ref (ad 0)), (1, .int (nI t)), (2, .int (nI f))] := hl
  refine lv_aload_n hx hb dX3_seat_0 rfl (lv_at hl 0 rfl) ?_
  refine lv_iload_n hx hb dX3_seat_1 rfl (lv_at hl 1 rfl) ?_
  refine c_callr (rest := []) K hP hS (c_X3_travellerNumbered_ok l hfl Z ad hinj g t (by assumption)) ok_X3_58 rfl ⟨Nat.le_of_ble_eq_true rfl, Nat.le_of_ble_eq_true rfl⟩ rfl hl.1 (Nat.le_of_ble_eq_true rfl) ⟨Nat.le_of_ble_eq_true rfl, Nat.le_of_ble_eq_true rfl⟩ dX3_seat_2 (fun H locs hP hS => ?_)
  refine lv_astore_n (lv' := [(3, .ref (ad (105 + t))), (0, .ref (ad 0)), (1, .int (nI t)), (2, .int (nI f))]) hx hb dX3_seat_5 rfl hl (by decide) rfl (fun ls hl => ?_)
  refine lv_aload_n hx hb dX3_seat_6 rfl (lv_at hl 1 rfl) ?_
  refine lv_iload_n hx hb dX3_seat_7 rfl (lv_at hl 3 rfl) ?_
  refine c_callr (rest := []) K hP hS (c_X3_ferryNumbered_ok l hfl Z ad hinj g fc f (by assumption) (by assumption) (by assumption)) ok_X3_116 rfl ⟨Nat.le_of_ble_eq_true rfl, Nat.le_of_ble_eq_true rfl⟩ rfl hl.1 (Nat.le_of_ble_eq_true rfl) ⟨Nat.le_of_ble_eq_true rfl, Nat.le_of_ble_eq_true rfl⟩ dX3_seat_8 (fun H locs hP hS => ?_)
  refine lv_astore (lv' := [(4, .ref (ad (65 + f))), (3, .ref (ad (105 + t))), (0, .ref (ad 0)), (1, .int (nI t)), (2, .int (nI f))]) hx hb dX3_seat_11 hl (by decide) rfl (fun ls hl => ?_)
  refine lv_aload_n hx hb dX3_seat_13 rfl (lv_at hl 2 rfl) ?_
  refine lv_aload hx hb dX3_seat_14 (lv_at hl 0 rfl) ?_
  refine c_callv (rest := []) K hP hS (c_X3_requireNotSailed_ok l hfl Z ad hinj g f (by omega) (by assumption)) ok_X3_120 rfl ⟨Nat.le_of_ble_eq_true rfl, Nat.le_of_ble_eq_true rfl⟩ rfl hl.1 (Nat.le_of_ble_eq_true rfl) ⟨Nat.le_of_ble_eq_true rfl, Nat.le_of_ble_eq_true rfl⟩ dX3_seat_16 (fun H locs hP hS => ?_)
  refine lv_aload_n hx hb dX3_seat_19 rfl (lv_at hl 2 rfl) ?_
  refine lv_aload_n hx hb dX3_seat_20 rfl (lv_at hl 1 rfl) ?_
  refine c_callv (rest := []) K hP hS (c_X3_requireOnIsland_ok l hfl Z ad hinj g t (by assumption) (by assumption)) ok_X3_64 rfl ⟨Nat.le_of_ble_eq_true rfl, Nat.le_of_ble_eq_true rfl⟩ rfl hl.1 (Nat.le_of_ble_eq_true rfl) ⟨Nat.le_of_ble_eq_true rfl, Nat.le_of_ble_eq_true rfl⟩ dX3_seat_21 (fun H locs hP hS => ?_)
  refine lv_aload hx hb dX3_seat_24 (lv_at hl 0 rfl) ?_
  refine cgF_places K hP (by omega) dX3_seat_26 ?_
  refine lv_iload_n hx hb dX3_seat_29 rfl (lv_at hl 3 rfl) ?_
  refine c_aldP K hP (by omega) (by omega) dX3_seat_30 ?_
  refine lv_if_eq (tgt := 44) hx hb dX3_seat_31 (by decide) (fun _ => ?_) (fun c1 => absurd hp c1)
  refine lv_aload_n hx hb dX3_seat_44 rfl (lv_at hl 2 rfl) ?_
  refine lv_aload hx hb dX3_seat_45 (lv_at hl 0 rfl) ?_
  refine c_calli (rest := []) K hP hS (c_X3_seatsLeft l hfl Z ad hinj g f (by omega)) ok_X3_129 rfl ⟨Nat.le_of_ble_eq_true rfl, Nat.le_of_ble_eq_true rfl⟩ rfl hl.1 (Nat.le_of_ble_eq_true rfl) ⟨Nat.le_of_ble_eq_true rfl, Nat.le_of_ble_eq_true rfl⟩ dX3_seat_47 (fun H locs hP hS => ?_)
  refine lv_topi (fun v2 e2 => ?_)
  refine lv_iconst (v := 1) hx hb dX3_seat_50 (by decide) ?_
  refine lv_icmp_ge (tgt := 64) hx hb dX3_seat_51 (by decide) (fun c3 => absurd c3 (by rw [e2]; exact hsl)) (fun _ => ?_)
  exact c_throw (text := "no seat is left") K hlocks hout hP hS hl.1 xw_ISE xi_ISE (by decide) xa_ISE (by decide) dX3_seat_54 dX3_seat_57 dX3_seat_58 dX3_seat_60 dX3_seat_63 (Nat.le_of_ble_eq_true rfl) (Nat.le_of_ble_eq_true rfl) (Nat.le_of_ble_eq_true rfl) (Nat.le_of_ble_eq_true rfl) (Nat.le_of_ble_eq_true rfl) (Nat.le_of_ble_eq_true rfl) rfl

set_option maxHeartbeats 4000000 in
set_option maxRecDepth 100000 in
theorem c_X3_leaveSeat_ok (l : Launch) (hfl : l.stackTraces = false) (Z : fx_Z) (ad : Nat → Nat) (hinj : fx_inj 115 ad) (g : St) (fc : Nat) (rc : Nat) (t : Nat) (f : Nat) (ht9 : t < 10) (hff : f < fc) (hfc : g 0 1 = nI fc) (hf2 : fc ≤ 20) (hrc : g 0 0 = nI rc) (hr6 : rc ≤ 60) (hns : g 0 2 < g 11 f) (hp : ¬ g (30 + f) t = 0) : fx_C l Z yX3_leaveSeat cX3_leaveSeat 4 (some .int) 2 47 0 0 115 ad (cF ad Z.2.1) g [.ref (ad 0), .int (nI t), .int (nI f)] (pI (nI (nRo (u2 g (30 + f) t 0) t f rc)) (cRo (u2 g (30 + f) t 0) t f rc)) (fun _ => False) := by
  intro sz
  refine vx_ofW (cc := cX3_leaveSeat) (maxL := 4) (ret := (some .int)) (by decide) rfl ?_
  intro p e s m args below meth c s₁ B hml hout hv
  obtain ⟨rfl, hsz, hP, hE, hSt⟩ := hv
  subst hsz
  have hx := B.exec
  have hb := B.bytes
  have hr := B.returns
  have hown : s.vm.findClass RX3 = some m.cls := findClass_of_methodNamed B.named
  have hlocks := B.notSynchronized
  have K : c_K p l s m ([.ref (ad 0), .int (nI t), .int (nI f)] : List Value).toArray c cX3_leaveSeat 4 Z ad := ⟨hx, hb, hml, hown, fun w hw => atoms_spec (ws := fx_l yX3_leaveSeat cX3_leaveSeat 4 (some .int)) B.pre w (List.mem_cons_of_mem _ hw), hE, hSt, hinj, hfl⟩
  have hS : va_S (fx_A 115 ad s.heap.size) s.heap s.heap [] := va_S.rf
  have hl := lv_entry ([.ref (ad 0), .int (nI t), .int (nI f)]) (n := 4) (Nat.le_of_ble_eq_true rfl)
  rw [lg_entry_eq]
  generalize (lg_sl ([.ref (ad 0), .int (nI t), .int (nI f)]) ++ List.replicate (4 - (lg_sl ([.ref (ad 0), .int (nI t), .int (nI f)])).length) Slot.unset).toArray = ls at hl ⊢
  have hl : lv_has ls 4 [(0, .ref (ad 0)), (1, .int (nI t)), (2, .int (nI f))] := hl
  refine lv_aload_n hx hb dX3_leaveSeat_0 rfl (lv_at hl 0 rfl) ?_
  refine lv_iload_n hx hb dX3_leaveSeat_1 rfl (lv_at hl 1 rfl) ?_
  refine c_callv (rest := []) K hP hS (c_X3_requireTraveller_ok l hfl Z ad hinj g t (by assumption)) ok_X3_135 rfl ⟨Nat.le_of_ble_eq_true rfl, Nat.le_of_ble_eq_true rfl⟩ rfl hl.1 (Nat.le_of_ble_eq_true rfl) ⟨Nat.le_of_ble_eq_true rfl, Nat.le_of_ble_eq_true rfl⟩ dX3_leaveSeat_2 (fun H locs hP hS => ?_)
  refine lv_aload_n hx hb dX3_leaveSeat_5 rfl (lv_at hl 0 rfl) ?_
  refine lv_iload_n hx hb dX3_leaveSeat_6 rfl (lv_at hl 2 rfl) ?_
  refine c_callr (rest := []) K hP hS (c_X3_ferryNumbered_ok l hfl Z ad hinj g fc f (by assumption) (by assumption) (by assumption)) ok_X3_116 rfl ⟨Nat.le_of_ble_eq_true rfl, Nat.le_of_ble_eq_true rfl⟩ rfl hl.1 (Nat.le_of_ble_eq_true rfl) ⟨Nat.le_of_ble_eq_true rfl, Nat.le_of_ble_eq_true rfl⟩ dX3_leaveSeat_7 (fun H locs hP hS => ?_)
  refine lv_astore_n (lv' := [(3, .ref (ad (65 + f))), (0, .ref (ad 0)), (1, .int (nI t)), (2, .int (nI f))]) hx hb dX3_leaveSeat_10 rfl hl (by decide) rfl (fun ls hl => ?_)
  refine lv_aload_n hx hb dX3_leaveSeat_11 rfl (lv_at hl 1 rfl) ?_
  refine lv_aload_n hx hb dX3_leaveSeat_12 rfl (lv_at hl 0 rfl) ?_
  refine c_callv (rest := []) K hP hS (c_X3_requireNotSailed_ok l hfl Z ad hinj g f (by omega) (by assumption)) ok_X3_120 rfl ⟨Nat.le_of_ble_eq_true rfl, Nat.le_of_ble_eq_true rfl⟩ rfl hl.1 (Nat.le_of_ble_eq_true rfl) ⟨Nat.le_of_ble_eq_true rfl, Nat.le_of_ble_eq_true rfl⟩ dX3_leaveSeat_13 (fun H locs hP hS => ?_)
  refine lv_aload_n hx hb dX3_leaveSeat_16 rfl (lv_at hl 1 rfl) ?_
  refine lv_aload_n hx hb dX3_leaveSeat_17 rfl (lv_at hl 0 rfl) ?_
  refine lv_iload_n hx hb dX3_leaveSeat_18 rfl (lv_at hl 2 rfl) ?_
  refine c_callv (rest := []) K hP hS (c_X3_requireSeat_ok l hfl Z ad hinj g f t (by omega) (by omega) (by assumption)) ok_X3_138 rfl ⟨Nat.le_of_ble_eq_true rfl, Nat.le_of_ble_eq_true rfl⟩ rfl hl.1 (Nat.le_of_ble_eq_true rfl) ⟨Nat.le_of_ble_eq_true rfl, Nat.le_of_ble_eq_true rfl⟩ dX3_leaveSeat_19 (fun H locs hP hS => ?_)
  refine lv_aload_n hx hb dX3_leaveSeat_22 rfl (lv_at hl 0 rfl) ?_
  refine cgF_places K hP (by omega) dX3_leaveSeat_23 ?_
  refine lv_iload_n hx hb dX3_leaveSeat_26 rfl (lv_at hl 2 rfl) ?_
  refine lv_iconst (v := 0) hx hb dX3_leaveSeat_27 (by decide) ?_
  refine c_astP K hP hS (by omega) (by omega) dX3_leaveSeat_28 (fun h1 H locs e1 hP hS => ?_)
  refine lv_aload_n hx hb dX3_leaveSeat_29 rfl (lv_at hl 1 rfl) ?_
  refine lv_iload_n hx hb dX3_leaveSeat_30 rfl (lv_at hl 2 rfl) ?_
  refine lv_iload_n hx hb dX3_leaveSeat_31 rfl (lv_at hl 3 rfl) ?_
  refine c_calli (rest := []) K hP hS (c_X3_reopenStamped l hfl Z ad hinj h1 rc t f (by rw [e1, u2_off _ _ (by omega)]; exact hrc) hr6) ok_X3_142 rfl ⟨Nat.le_of_ble_eq_true rfl, Nat.le_of_ble_eq_true rfl⟩ rfl hl.1 (Nat.le_of_ble_eq_true rfl) ⟨Nat.le_of_ble_eq_true rfl, Nat.le_of_ble_eq_true rfl⟩ dX3_leaveSeat_32 (fun H locs hP hS => ?_)
  obtain ⟨h2, e2⟩ : ∃ z : St, z = (cRo h1 t f rc) := ⟨_, rfl⟩
  rw [← e2] at hP
  exact fx_reti hx hb hr hlocks hP hS (Nat.le_of_ble_eq_true rfl) (Nat.le_of_ble_eq_true rfl) dX3_leaveSeat_35 ⟨by simp only [e1, e2], by simp only [e1, e2]⟩

set_option maxHeartbeats 4000000 in
set_option maxRecDepth 100000 in
theorem c_X3_leaveSeat_x1a (l : Launch) (hfl : l.stackTraces = false) (Z : fx_Z) (ad : Nat → Nat) (hinj : fx_inj 115 ad) (g : St) (t : Int32) (f : Int32) (ht9 : bad t 10) : fx_C l Z yX3_leaveSeat cX3_leaveSeat 4 (some .int) 7 103 1 6 115 ad (cF ad Z.2.1) g [.ref (ad 0), .int t, .int f] (fun _ _ => False) (fun E => E = "java/lang/IndexOutOfBoundsException") := by
  intro sz
  refine vx_ofW (cc := cX3_leaveSeat) (maxL := 4) (ret := (some .int)) (by decide) rfl ?_
  intro p e s m args below meth c s₁ B hml hout hv
  obtain ⟨rfl, hsz, hP, hE, hSt⟩ := hv
  subst hsz
  have hx := B.exec
  have hb := B.bytes
  have hr := B.returns
  have hown : s.vm.findClass RX3 = some m.cls := findClass_of_methodNamed B.named
  have hlocks := B.notSynchronized
  have K : c_K p l s m ([.ref (ad 0), .int t, .int f] : List Value).toArray c cX3_leaveSeat 4 Z ad := ⟨hx, hb, hml, hown, fun w hw => atoms_spec (ws := fx_l yX3_leaveSeat cX3_leaveSeat 4 (some .int)) B.pre w (List.mem_cons_of_mem _ hw), hE, hSt, hinj, hfl⟩
  have hS : va_S (fx_A 115 ad s.heap.size) s.heap s.heap [] := va_S.rf
  have hl := lv_entry ([.ref (ad 0), .int t, .int f]) (n := 4) (Nat.le_of_ble_eq_true rfl)
  rw [lg_entry_eq]
  generalize (lg_sl ([.ref (ad 0), .int t, .int f]) ++ List.replicate (4 - (lg_sl ([.ref (ad 0), .int t, .int f])).length) Slot.unset).toArray = ls at hl ⊢
  have hl : lv_has ls 4 [(0, .ref (ad 0)), (1, .int t), (2, .int f)] := hl
  refine lv_aload_n hx hb dX3_leaveSeat_0 rfl (lv_at hl 0 rfl) ?_
  refine lv_iload_n hx hb dX3_leaveSeat_1 rfl (lv_at hl 1 rfl) ?_
  exact c_callx (rest := []) K hlocks hout hP hS (c_X3_requireTraveller_x l hfl Z ad hinj g t (by assumption)) ok_X3_135 rfl ⟨Nat.le_of_ble_eq_true rfl, Nat.le_of_ble_eq_true rfl⟩ rfl hl.1 (Nat.le_of_ble_eq_true rfl) ⟨Nat.le_of_ble_eq_true rfl, Nat.le_of_ble_eq_true rfl⟩ dX3_leaveSeat_2 (Nat.le_of_ble_eq_true rfl) (Nat.le_of_ble_eq_true rfl) (fun E hE => hE)

set_option maxHeartbeats 4000000 in
set_option maxRecDepth 100000 in
theorem c_X3_leaveSeat_x1b (l : Launch) (hfl : l.stackTraces = false) (Z : fx_Z) (ad : Nat → Nat) (hinj : fx_inj 115 ad) (g : St) (fc : Nat) (t : Nat) (f : Int32) (ht9 : t < 10) (hfc : g 0 1 = nI fc) (hf2 : fc ≤ 20) (hff : bad f fc) : fx_C l Z yX3_leaveSeat cX3_leaveSeat 4 (some .int) 7 103 1 6 115 ad (cF ad Z.2.1) g [.ref (ad 0), .int (nI t), .int f] (fun _ _ => False) (fun E => E = "java/lang/IndexOutOfBoundsException") := by
  intro sz
  refine vx_ofW (cc := cX3_leaveSeat) (maxL := 4) (ret := (some .int)) (by decide) rfl ?_
  intro p e s m args below meth c s₁ B hml hout hv
  obtain ⟨rfl, hsz, hP, hE, hSt⟩ := hv
  subst hsz
  have hx := B.exec
  have hb := B.bytes
  have hr := B.returns
  have hown : s.vm.findClass RX3 = some m.cls := findClass_of_methodNamed B.named
  have hlocks := B.notSynchronized
  have K : c_K p l s m ([.ref (ad 0), .int (nI t), .int f] : List Value).toArray c cX3_leaveSeat 4 Z ad := ⟨hx, hb, hml, hown, fun w hw => atoms_spec (ws := fx_l yX3_leaveSeat cX3_leaveSeat 4 (some .int)) B.pre w (List.mem_cons_of_mem _ hw), hE, hSt, hinj, hfl⟩
  have hS : va_S (fx_A 115 ad s.heap.size) s.heap s.heap [] := va_S.rf
  have hl := lv_entry ([.ref (ad 0), .int (nI t), .int f]) (n := 4) (Nat.le_of_ble_eq_true rfl)
  rw [lg_entry_eq]
  generalize (lg_sl ([.ref (ad 0), .int (nI t), .int f]) ++ List.replicate (4 - (lg_sl ([.ref (ad 0), .int (nI t), .int f])).length) Slot.unset).toArray = ls at hl ⊢
  have hl : lv_has ls 4 [(0, .ref (ad 0)), (1, .int (nI t)), (2, .int f)] := hl
  refine lv_aload_n hx hb dX3_leaveSeat_0 rfl (lv_at hl 0 rfl) ?_
  refine lv_iload_n hx hb dX3_leaveSeat_1 rfl (lv_at hl 1 rfl) ?_
  refine c_callv (rest := []) K hP hS (c_X3_requireTraveller_ok l hfl Z ad hinj g t (by assumption)) ok_X3_135 rfl ⟨Nat.le_of_ble_eq_true rfl, Nat.le_of_ble_eq_true rfl⟩ rfl hl.1 (Nat.le_of_ble_eq_true rfl) ⟨Nat.le_of_ble_eq_true rfl, Nat.le_of_ble_eq_true rfl⟩ dX3_leaveSeat_2 (fun H locs hP hS => ?_)
  refine lv_aload_n hx hb dX3_leaveSeat_5 rfl (lv_at hl 0 rfl) ?_
  refine lv_iload_n hx hb dX3_leaveSeat_6 rfl (lv_at hl 2 rfl) ?_
  exact c_callx (rest := []) K hlocks hout hP hS (c_X3_ferryNumbered_x l hfl Z ad hinj g fc f (by assumption) (by assumption) (by assumption)) ok_X3_116 rfl ⟨Nat.le_of_ble_eq_true rfl, Nat.le_of_ble_eq_true rfl⟩ rfl hl.1 (Nat.le_of_ble_eq_true rfl) ⟨Nat.le_of_ble_eq_true rfl, Nat.le_of_ble_eq_true rfl⟩ dX3_leaveSeat_7 (Nat.le_of_ble_eq_true rfl) (Nat.le_of_ble_eq_true rfl) (fun E hE => hE)

set_option maxHeartbeats 4000000 in
set_option maxRecDepth 100000 in
theorem c_X3_leaveSeat_x2a (l : Launch) (hfl : l.stackTraces = false) (Z : fx_Z) (ad : Nat → Nat) (hinj : fx_inj 115 ad) (g : St) (fc : Nat) (t : Nat) (f : Nat) (ht9 : t < 10) (hff : f < fc) (hfc : g 0 1 = nI fc) (hf2 : fc ≤ 20) (hns : ¬ g 0 2 < g 11 f) : fx_C l Z yX3_leaveSeat cX3_leaveSeat 4 (some .int) 7 103 1 6 115 ad (cF ad Z.2.1) g [.ref (ad 0), .int (nI t), .int (nI f)] (fun _ _ => False) (fun E => E = "java/lang/IllegalStateException") := by
  intro sz
  refine vx_ofW (cc := cX3_leaveSeat) (maxL := 4) (ret := (some .int)) (by decide) rfl ?_
  intro p e s m args below meth c s₁ B hml hout hv
  obtain ⟨rfl, hsz, hP, hE, hSt⟩ := hv
  subst hsz
  have hx := B.exec
  have hb := B.bytes
  have hr := B.returns
  have hown : s.vm.findClass RX3 = some m.cls := findClass_of_methodNamed B.named
  have hlocks := B.notSynchronized
  have K : c_K p l s m ([.ref (ad 0), .int (nI t), .int (nI f)] : List Value).toArray c cX3_leaveSeat 4 Z ad := ⟨hx, hb, hml, hown, fun w hw => atoms_spec (ws := fx_l yX3_leaveSeat cX3_leaveSeat 4 (some .int)) B.pre w (List.mem_cons_of_mem _ hw), hE, hSt, hinj, hfl⟩
  have hS : va_S (fx_A 115 ad s.heap.size) s.heap s.heap [] := va_S.rf
  have hl := lv_entry ([.ref (ad 0), .int (nI t), .int (nI f)]) (n := 4) (Nat.le_of_ble_eq_true rfl)
  rw [lg_entry_eq]
  generalize (lg_sl ([.ref (ad 0), .int (nI t), .int (nI f)]) ++ List.replicate (4 - (lg_sl ([.ref (ad 0), .int (nI t), .int (nI f)])).length) Slot.unset).toArray = ls at hl ⊢
  have hl : lv_has ls 4 [(0, .ref (ad 0)), (1, .int (nI t)), (2, .int (nI f))] := hl
  refine lv_aload_n hx hb dX3_leaveSeat_0 rfl (lv_at hl 0 rfl) ?_
  refine lv_iload_n hx hb dX3_leaveSeat_1 rfl (lv_at hl 1 rfl) ?_
  refine c_callv (rest := []) K hP hS (c_X3_requireTraveller_ok l hfl Z ad hinj g t (by assumption)) ok_X3_135 rfl ⟨Nat.le_of_ble_eq_true rfl, Nat.le_of_ble_eq_true rfl⟩ rfl hl.1 (Nat.le_of_ble_eq_true rfl) ⟨Nat.le_of_ble_eq_true rfl, Nat.le_of_ble_eq_true rfl⟩ dX3_leaveSeat_2 (fun H locs hP hS => ?_)
  refine lv_aload_n hx hb dX3_leaveSeat_5 rfl (lv_at hl 0 rfl) ?_
  refine lv_iload_n hx hb dX3_leaveSeat_6 rfl (lv_at hl 2 rfl) ?_
  refine c_callr (rest := []) K hP hS (c_X3_ferryNumbered_ok l hfl Z ad hinj g fc f (by assumption) (by assumption) (by assumption)) ok_X3_116 rfl ⟨Nat.le_of_ble_eq_true rfl, Nat.le_of_ble_eq_true rfl⟩ rfl hl.1 (Nat.le_of_ble_eq_true rfl) ⟨Nat.le_of_ble_eq_true rfl, Nat.le_of_ble_eq_true rfl⟩ dX3_leaveSeat_7 (fun H locs hP hS => ?_)
  refine lv_astore_n (lv' := [(3, .ref (ad (65 + f))), (0, .ref (ad 0)), (1, .int (nI t)), (2, .int (nI f))]) hx hb dX3_leaveSeat_10 rfl hl (by decide) rfl (fun ls hl => ?_)
  refine lv_aload_n hx hb dX3_leaveSeat_11 rfl (lv_at hl 1 rfl) ?_
  refine lv_aload_n hx hb dX3_leaveSeat_12 rfl (lv_at hl 0 rfl) ?_
  exact c_callx (rest := []) K hlocks hout hP hS (c_X3_requireNotSailed_x l hfl Z ad hinj g f (by omega) (by assumption)) ok_X3_120 rfl ⟨Nat.le_of_ble_eq_true rfl, Nat.le_of_ble_eq_true rfl⟩ rfl hl.1 (Nat.le_of_ble_eq_true rfl) ⟨Nat.le_of_ble_eq_true rfl, Nat.le_of_ble_eq_true rfl⟩ dX3_leaveSeat_13 (Nat.le_of_ble_eq_true rfl) (Nat.le_of_ble_eq_true rfl) (fun E hE => hE)

set_option maxHeartbeats 4000000 in
set_option maxRecDepth 100000 in
theorem c_X3_leaveSeat_x2b (l : Launch) (hfl : l.stackTraces = false) (Z : fx_Z) (ad : Nat → Nat) (hinj : fx_inj 115 ad) (g : St) (fc : Nat) (t : Nat) (f : Nat) (ht9 : t < 10) (hff : f < fc) (hfc : g 0 1 = nI fc) (hf2 : fc ≤ 20) (hns : g 0 2 < g 11 f) (hp : g (30 + f) t = 0) : fx_C l Z yX3_leaveSeat cX3_leaveSeat 4 (some .int) 7 104 1 6 115 ad (cF ad Z.2.1) g [.ref (ad 0), .int (nI t), .int (nI f)] (fun _ _ => False) (fun E => E = "java/lang/IllegalStateException") := by
  intro sz
  refine vx_ofW (cc := cX3_leaveSeat) (maxL := 4) (ret := (some .int)) (by decide) rfl ?_
  intro p e s m args below meth c s₁ B hml hout hv
  obtain ⟨rfl, hsz, hP, hE, hSt⟩ := hv
  subst hsz
  have hx := B.exec
  have hb := B.bytes
  have hr := B.returns
  have hown : s.vm.findClass RX3 = some m.cls := findClass_of_methodNamed B.named
  have hlocks := B.notSynchronized
  have K : c_K p l s m ([.ref (ad 0), .int (nI t), .int (nI f)] : List Value).toArray c cX3_leaveSeat 4 Z ad := ⟨hx, hb, hml, hown, fun w hw => atoms_spec (ws := fx_l yX3_leaveSeat cX3_leaveSeat 4 (some .int)) B.pre w (List.mem_cons_of_mem _ hw), hE, hSt, hinj, hfl⟩
  have hS : va_S (fx_A 115 ad s.heap.size) s.heap s.heap [] := va_S.rf
  have hl := lv_entry ([.ref (ad 0), .int (nI t), .int (nI f)]) (n := 4) (Nat.le_of_ble_eq_true rfl)
  rw [lg_entry_eq]
  generalize (lg_sl ([.ref (ad 0), .int (nI t), .int (nI f)]) ++ List.replicate (4 - (lg_sl ([.ref (ad 0), .int (nI t), .int (nI f)])).length) Slot.unset).toArray = ls at hl ⊢
  have hl : lv_has ls 4 [(0, .ref (ad 0)), (1, .int (nI t)), (2, .int (nI f))] := hl
  refine lv_aload_n hx hb dX3_leaveSeat_0 rfl (lv_at hl 0 rfl) ?_
  refine lv_iload_n hx hb dX3_leaveSeat_1 rfl (lv_at hl 1 rfl) ?_
  refine c_callv (rest := []) K hP hS (c_X3_requireTraveller_ok l hfl Z ad hinj g t (by assumption)) ok_X3_135 rfl ⟨Nat.le_of_ble_eq_true rfl, Nat.le_of_ble_eq_true rfl⟩ rfl hl.1 (Nat.le_of_ble_eq_true rfl) ⟨Nat.le_of_ble_eq_true rfl, Nat.le_of_ble_eq_true rfl⟩ dX3_leaveSeat_2 (fun H locs hP hS => ?_)
  refine lv_aload_n hx hb dX3_leaveSeat_5 rfl (lv_at hl 0 rfl) ?_
  refine lv_iload_n hx hb dX3_leaveSeat_6 rfl (lv_at hl 2 rfl) ?_
  refine c_callr (rest := []) K hP hS (c_X3_ferryNumbered_ok l hfl Z ad hinj g fc f (by assumption) (by assumption) (by assumption)) ok_X3_116 rfl ⟨Nat.le_of_ble_eq_true rfl, Nat.le_of_ble_eq_true rfl⟩ rfl hl.1 (Nat.le_of_ble_eq_true rfl) ⟨Nat.le_of_ble_eq_true rfl, Nat.le_of_ble_eq_true rfl⟩ dX3_leaveSeat_7 (fun H locs hP hS => ?_)
  refine lv_astore_n (lv' := [(3, .ref (ad (65 + f))), (0, .ref (ad 0)), (1, .int (nI t)), (2, .int (nI f))]) hx hb dX3_leaveSeat_10 rfl hl (by decide) rfl (fun ls hl => ?_)
  refine lv_aload_n hx hb dX3_leaveSeat_11 rfl (lv_at hl 1 rfl) ?_
  refine lv_aload_n hx hb dX3_leaveSeat_12 rfl (lv_at hl 0 rfl) ?_
  refine c_callv (rest := []) K hP hS (c_X3_requireNotSailed_ok l hfl Z ad hinj g f (by omega) (by assumption)) ok_X3_120 rfl ⟨Nat.le_of_ble_eq_true rfl, Nat.le_of_ble_eq_true rfl⟩ rfl hl.1 (Nat.le_of_ble_eq_true rfl) ⟨Nat.le_of_ble_eq_true rfl, Nat.le_of_ble_eq_true rfl⟩ dX3_leaveSeat_13 (fun H locs hP hS => ?_)
  refine lv_aload_n hx hb dX3_leaveSeat_16 rfl (lv_at hl 1 rfl) ?_
  refine lv_aload_n hx hb dX3_leaveSeat_17 rfl (lv_at hl 0 rfl) ?_
  refine lv_iload_n hx hb dX3_leaveSeat_18 rfl (lv_at hl 2 rfl) ?_
  exact c_callx (rest := []) K hlocks hout hP hS (c_X3_requireSeat_x l hfl Z ad hinj g f t (by omega) (by omega) (by assumption)) ok_X3_138 rfl ⟨Nat.le_of_ble_eq_true rfl, Nat.le_of_ble_eq_true rfl⟩ rfl hl.1 (Nat.le_of_ble_eq_true rfl) ⟨Nat.le_of_ble_eq_true rfl, Nat.le_of_ble_eq_true rfl⟩ dX3_leaveSeat_19 (Nat.le_of_ble_eq_true rfl) (Nat.le_of_ble_eq_true rfl) (fun E hE => hE)

set_option maxHeartbeats 4000000 in
set_option maxRecDepth 100000 in
theorem c_X3_aboard_ok (l : Launch) (hfl : l.stackTraces = false) (Z : fx_Z) (ad : Nat → Nat) (hinj : fx_inj 115 ad) (g : St) (fc : Nat) (t : Nat) (f : Nat) (ht9 : t < 10) (hff : f < fc) (hfc : g 0 1 = nI fc) (hf2 : fc ≤ 20) (hp : ¬ g (30 + f) t = 0) (hgo : g 16 t = 0) (hns : g 0 2 < g 11 f) (hw : g 11 f - 3 ≤ g 0 2) (hall : ∀ f, f < fc → ¬ g (30 + f) t = 2) : fx_C l Z yX3_aboard cX3_aboard 5 (some .int) 2 43 0 0 115 ad (cF ad Z.2.1) g [.ref (ad 0), .int (nI t), .int (nI f)] (pI (nI (pwN (u2 g (30 + f) t 2) f 2 10)) (u2 g (30 + f) t 2)) (fun _ => False) := by
  intro sz
  refine vx_ofW (cc := cX3_aboard) (maxL := 5) (ret := (some .int)) (by decide) rfl ?_
  intro p e s m args below meth c s₁ B hml hout hv
  obtain ⟨rfl, hsz, hP, hE, hSt⟩ := hv
  subst hsz
  have hx := B.exec
  have hb := B.bytes
  have hr := B.returns
  have hown : s.vm.findClass RX3 = some m.cls := findClass_of_methodNamed B.named
  have hlocks := B.notSynchronized
  have K : c_K p l s m ([.ref (ad 0), .int (nI t), .int (nI f)] : List Value).toArray c cX3_aboard 5 Z ad := ⟨hx, hb, hml, hown, fun w hw => atoms_spec (ws := fx_l yX3_aboard cX3_aboard 5 (some .int)) B.pre w (List.mem_cons_of_mem _ hw), hE, hSt, hinj, hfl⟩
  have hS : va_S (fx_A 115 ad s.heap.size) s.heap s.heap [] := va_S.rf
  have hl := lv_entry ([.ref (ad 0), .int (nI t), .int (nI f)]) (n := 5) (Nat.le_of_ble_eq_true rfl)
  rw [lg_entry_eq]
  generalize (lg_sl ([.ref (ad 0), .int (nI t), .int (nI f)]) ++ List.replicate (5 - (lg_sl ([.ref (ad 0), .int (nI t), .int (nI f)])).length) Slot.unset).toArray = ls at hl ⊢
  have hl : lv_has ls 5 [(0, .ref (ad 0)), (1, .int (nI t)), (2, .int (nI f))] := hl
  refine lv_aload_n hx hb dX3_aboard_0 rfl (lv_at hl 0 rfl) ?_
  refine lv_iload_n hx hb dX3_aboard_1 rfl (lv_at hl 1 rfl) ?_
  refine c_callr (rest := []) K hP hS (c_X3_travellerNumbered_ok l hfl Z ad hinj g t (by assumption)) ok_X3_58 rfl ⟨Nat.le_of_ble_eq_true rfl, Nat.le_of_ble_eq_true rfl⟩ rfl hl.1 (Nat.le_of_ble_eq_true rfl) ⟨Nat.le_of_ble_eq_true rfl, Nat.le_of_ble_eq_true rfl⟩ dX3_aboard_2 (fun H locs hP hS => ?_)
  refine lv_astore_n (lv' := [(3, .ref (ad (105 + t))), (0, .ref (ad 0)), (1, .int (nI t)), (2, .int (nI f))]) hx hb dX3_aboard_5 rfl hl (by decide) rfl (fun ls hl => ?_)
  refine lv_aload_n hx hb dX3_aboard_6 rfl (lv_at hl 1 rfl) ?_
  refine lv_iload_n hx hb dX3_aboard_7 rfl (lv_at hl 3 rfl) ?_
  refine c_callr (rest := []) K hP hS (c_X3_ferryNumbered_ok l hfl Z ad hinj g fc f (by assumption) (by assumption) (by assumption)) ok_X3_116 rfl ⟨Nat.le_of_ble_eq_true rfl, Nat.le_of_ble_eq_true rfl⟩ rfl hl.1 (Nat.le_of_ble_eq_true rfl) ⟨Nat.le_of_ble_eq_true rfl, Nat.le_of_ble_eq_true rfl⟩ dX3_aboard_8 (fun H locs hP hS => ?_)
  refine lv_astore (lv' := [(4, .ref (ad (65 + f))), (3, .ref (ad (105 + t))), (0, .ref (ad 0)), (1, .int (nI t)), (2, .int (nI f))]) hx hb dX3_aboard_11 hl (by decide) rfl (fun ls hl => ?_)
  refine lv_aload_n hx hb dX3_aboard_13 rfl (lv_at hl 2 rfl) ?_
  refine lv_aload hx hb dX3_aboard_14 (lv_at hl 0 rfl) ?_
  refine lv_iload_n hx hb dX3_aboard_16 rfl (lv_at hl 3 rfl) ?_
  refine c_callv (rest := []) K hP hS (c_X3_requireSeat_ok l hfl Z ad hinj g f t (by omega) (by omega) (by assumption)) ok_X3_138 rfl ⟨Nat.le_of_ble_eq_true rfl, Nat.le_of_ble_eq_true rfl⟩ rfl hl.1 (Nat.le_of_ble_eq_true rfl) ⟨Nat.le_of_ble_eq_true rfl, Nat.le_of_ble_eq_true rfl⟩ dX3_aboard_17 (fun H locs hP hS => ?_)
  refine lv_aload_n hx hb dX3_aboard_20 rfl (lv_at hl 2 rfl) ?_
  refine lv_aload_n hx hb dX3_aboard_21 rfl (lv_at hl 1 rfl) ?_
  refine c_callv (rest := []) K hP hS (c_X3_requireOnIsland_ok l hfl Z ad hinj g t (by assumption) (by assumption)) ok_X3_64 rfl ⟨Nat.le_of_ble_eq_true rfl, Nat.le_of_ble_eq_true rfl⟩ rfl hl.1 (Nat.le_of_ble_eq_true rfl) ⟨Nat.le_of_ble_eq_true rfl, Nat.le_of_ble_eq_true rfl⟩ dX3_aboard_22 (fun H locs hP hS => ?_)
  refine lv_aload_n hx hb dX3_aboard_25 rfl (lv_at hl 2 rfl) ?_
  refine lv_aload hx hb dX3_aboard_26 (lv_at hl 0 rfl) ?_
  refine lv_iconst (v := 3) hx hb dX3_aboard_28 (by decide) ?_
  refine c_callv (rest := []) K hP hS (c_X3_requireWithin_ok l hfl Z ad hinj g f 3 (by omega) (by assumption) (by assumption)) ok_X3_146 rfl ⟨Nat.le_of_ble_eq_true rfl, Nat.le_of_ble_eq_true rfl⟩ rfl hl.1 (Nat.le_of_ble_eq_true rfl) ⟨Nat.le_of_ble_eq_true rfl, Nat.le_of_ble_eq_true rfl⟩ dX3_aboard_29 (fun H locs hP hS => ?_)
  refine lv_aload_n hx hb dX3_aboard_32 rfl (lv_at hl 2 rfl) ?_
  refine lv_iload_n hx hb dX3_aboard_33 rfl (lv_at hl 3 rfl) ?_
  refine c_calli (rest := []) K hP hS (c_X3_isAboardSomewhere_f l hfl Z ad hinj g fc t (by assumption) (by assumption) (by assumption) (by assumption)) ok_X3_149 rfl ⟨Nat.le_of_ble_eq_true rfl, Nat.le_of_ble_eq_true rfl⟩ rfl hl.1 (Nat.le_of_ble_eq_true rfl) ⟨Nat.le_of_ble_eq_true rfl, Nat.le_of_ble_eq_true rfl⟩ dX3_aboard_34 (fun H locs hP hS => ?_)
  refine lv_if_eq (tgt := 50) hx hb dX3_aboard_37 (by decide) (fun _ => ?_) (fun c1 => absurd (by decide) c1)
  refine lv_aload hx hb dX3_aboard_50 (lv_at hl 0 rfl) ?_
  refine cgF_places K hP (by omega) dX3_aboard_52 ?_
  refine lv_iload_n hx hb dX3_aboard_55 rfl (lv_at hl 3 rfl) ?_
  refine lv_iconst (v := 2) hx hb dX3_aboard_56 (by decide) ?_
  refine c_astP K hP hS (by omega) (by omega) dX3_aboard_57 (fun h2 H locs e2 hP hS => ?_)
  refine lv_aload_n hx hb dX3_aboard_58 rfl (lv_at hl 2 rfl) ?_
  refine lv_aload hx hb dX3_aboard_59 (lv_at hl 0 rfl) ?_
  refine lv_iconst (v := 2) hx hb dX3_aboard_61 (by decide) ?_
  refine c_calli (rest := []) K hP hS (c_X3_placesWith l hfl Z ad hinj h2 f 2 (by omega)) ok_X3_155 rfl ⟨Nat.le_of_ble_eq_true rfl, Nat.le_of_ble_eq_true rfl⟩ rfl hl.1 (Nat.le_of_ble_eq_true rfl) ⟨Nat.le_of_ble_eq_true rfl, Nat.le_of_ble_eq_true rfl⟩ dX3_aboard_62 (fun H locs hP hS => ?_)
  exact fx_reti hx hb hr hlocks hP hS (Nat.le_of_ble_eq_true rfl) (Nat.le_of_ble_eq_true rfl) dX3_aboard_65 ⟨by simp only [e2], by simp only [e2]⟩

set_option maxHeartbeats 4000000 in
set_option maxRecDepth 100000 in
theorem c_X3_aboard_x1a (l : Launch) (hfl : l.stackTraces = false) (Z : fx_Z) (ad : Nat → Nat) (hinj : fx_inj 115 ad) (g : St) (t : Int32) (f : Int32) (ht9 : bad t 10) : fx_C l Z yX3_aboard cX3_aboard 5 (some .int) 8 124 1 6 115 ad (cF ad Z.2.1) g [.ref (ad 0), .int t, .int f] (fun _ _ => False) (fun E => E = "java/lang/IndexOutOfBoundsException") := by
  intro sz
  refine vx_ofW (cc := cX3_aboard) (maxL := 5) (ret := (some .int)) (by decide) rfl ?_
  intro p e s m args below meth c s₁ B hml hout hv
  obtain ⟨rfl, hsz, hP, hE, hSt⟩ := hv
  subst hsz
  have hx := B.exec
  have hb := B.bytes
  have hr := B.returns
  have hown : s.vm.findClass RX3 = some m.cls := findClass_of_methodNamed B.named
  have hlocks := B.notSynchronized
  have K : c_K p l s m ([.ref (ad 0), .int t, .int f] : List Value).toArray c cX3_aboard 5 Z ad := ⟨hx, hb, hml, hown, fun w hw => atoms_spec (ws := fx_l yX3_aboard cX3_aboard 5 (some .int)) B.pre w (List.mem_cons_of_mem _ hw), hE, hSt, hinj, hfl⟩
  have hS : va_S (fx_A 115 ad s.heap.size) s.heap s.heap [] := va_S.rf
  have hl := lv_entry ([.ref (ad 0), .int t, .int f]) (n := 5) (Nat.le_of_ble_eq_true rfl)
  rw [lg_entry_eq]
  generalize (lg_sl ([.ref (ad 0), .int t, .int f]) ++ List.replicate (5 - (lg_sl ([.ref (ad 0), .int t, .int f])).length) Slot.unset).toArray = ls at hl ⊢
  have hl : lv_has ls 5 [(0, .ref (ad 0)), (1, .int t), (2, .int f)] := hl
  refine lv_aload_n hx hb dX3_aboard_0 rfl (lv_at hl 0 rfl) ?_
  refine lv_iload_n hx hb dX3_aboard_1 rfl (lv_at hl 1 rfl) ?_
  exact c_callx (rest := []) K hlocks hout hP hS (c_X3_travellerNumbered_x l hfl Z ad hinj g t (by assumption)) ok_X3_58 rfl ⟨Nat.le_of_ble_eq_true rfl, Nat.le_of_ble_eq_true rfl⟩ rfl hl.1 (Nat.le_of_ble_eq_true rfl) ⟨Nat.le_of_ble_eq_true rfl, Nat.le_of_ble_eq_true rfl⟩ dX3_aboard_2 (Nat.le_of_ble_eq_true rfl) (Nat.le_of_ble_eq_true rfl) (fun E hE => hE)

set_option maxHeartbeats 4000000 in
set_option maxRecDepth 100000 in
theorem c_X3_aboard_x1b (l : Launch) (hfl : l.stackTraces = false) (Z : fx_Z) (ad : Nat → Nat) (hinj : fx_inj 115 ad) (g : St) (fc : Nat) (t : Nat) (f : Int32) (ht9 : t < 10) (hfc : g 0 1 = nI fc) (hf2 : fc ≤ 20) (hff : bad f fc) : fx_C l Z yX3_aboard cX3_aboard 5 (some .int) 7 103 1 6 115 ad (cF ad Z.2.1) g [.ref (ad 0), .int (nI t), .int f] (fun _ _ => False) (fun E => E = "java/lang/IndexOutOfBoundsException") := by
  intro sz
  refine vx_ofW (cc := cX3_aboard) (maxL := 5) (ret := (some .int)) (by decide) rfl ?_
  intro p e s m args below meth c s₁ B hml hout hv
  obtain ⟨rfl, hsz, hP, hE, hSt⟩ := hv
  subst hsz
  have hx := B.exec
  have hb := B.bytes
  have hr := B.returns
  have hown : s.vm.findClass RX3 = some m.cls := findClass_of_methodNamed B.named
  have hlocks := B.notSynchronized
  have K : c_K p l s m ([.ref (ad 0), .int (nI t), .int f] : List Value).toArray c cX3_aboard 5 Z ad := ⟨hx, hb, hml, hown, fun w hw => atoms_spec (ws := fx_l yX3_aboard cX3_aboard 5 (some .int)) B.pre w (List.mem_cons_of_mem _ hw), hE, hSt, hinj, hfl⟩
  have hS : va_S (fx_A 115 ad s.heap.size) s.heap s.heap [] := va_S.rf
  have hl := lv_entry ([.ref (ad 0), .int (nI t), .int f]) (n := 5) (Nat.le_of_ble_eq_true rfl)
  rw [lg_entry_eq]
  generalize (lg_sl ([.ref (ad 0), .int (nI t), .int f]) ++ List.replicate (5 - (lg_sl ([.ref (ad 0), .int (nI t), .int f])).length) Slot.unset).toArray = ls at hl ⊢
  have hl : lv_has ls 5 [(0, .ref (ad 0)), (1, .int (nI t)), (2, .int f)] := hl
  refine lv_aload_n hx hb dX3_aboard_0 rfl (lv_at hl 0 rfl) ?_
  refine lv_iload_n hx hb dX3_aboard_1 rfl (lv_at hl 1 rfl) ?_
  refine c_callr (rest := []) K hP hS (c_X3_travellerNumbered_ok l hfl Z ad hinj g t (by assumption)) ok_X3_58 rfl ⟨Nat.le_of_ble_eq_true rfl, Nat.le_of_ble_eq_true rfl⟩ rfl hl.1 (Nat.le_of_ble_eq_true rfl) ⟨Nat.le_of_ble_eq_true rfl, Nat.le_of_ble_eq_true rfl⟩ dX3_aboard_2 (fun H locs hP hS => ?_)
  refine lv_astore_n (lv' := [(3, .ref (ad (105 + t))), (0, .ref (ad 0)), (1, .int (nI t)), (2, .int f)]) hx hb dX3_aboard_5 rfl hl (by decide) rfl (fun ls hl => ?_)
  refine lv_aload_n hx hb dX3_aboard_6 rfl (lv_at hl 1 rfl) ?_
  refine lv_iload_n hx hb dX3_aboard_7 rfl (lv_at hl 3 rfl) ?_
  exact c_callx (rest := []) K hlocks hout hP hS (c_X3_ferryNumbered_x l hfl Z ad hinj g fc f (by assumption) (by assumption) (by assumption)) ok_X3_116 rfl ⟨Nat.le_of_ble_eq_true rfl, Nat.le_of_ble_eq_true rfl⟩ rfl hl.1 (Nat.le_of_ble_eq_true rfl) ⟨Nat.le_of_ble_eq_true rfl, Nat.le_of_ble_eq_true rfl⟩ dX3_aboard_8 (Nat.le_of_ble_eq_true rfl) (Nat.le_of_ble_eq_true rfl) (fun E hE => hE)

set_option maxHeartbeats 4000000 in
set_option maxRecDepth 100000 in
theorem c_X3_aboard_x2a (l : Launch) (hfl : l.stackTraces = false) (Z : fx_Z) (ad : Nat → Nat) (hinj : fx_inj 115 ad) (g : St) (fc : Nat) (t : Nat) (f : Nat) (ht9 : t < 10) (hff : f < fc) (hfc : g 0 1 = nI fc) (hf2 : fc ≤ 20) (hp : g (30 + f) t = 0) : fx_C l Z yX3_aboard cX3_aboard 5 (some .int) 7 104 1 6 115 ad (cF ad Z.2.1) g [.ref (ad 0), .int (nI t), .int (nI f)] (fun _ _ => False) (fun E => E = "java/lang/IllegalStateException") := by
  intro sz
  refine vx_ofW (cc := cX3_aboard) (maxL := 5) (ret := (some .int)) (by decide) rfl ?_
  intro p e s m args below meth c s₁ B hml hout hv
  obtain ⟨rfl, hsz, hP, hE, hSt⟩ := hv
  subst hsz
  have hx := B.exec
  have hb := B.bytes
  have hr := B.returns
  have hown : s.vm.findClass RX3 = some m.cls := findClass_of_methodNamed B.named
  have hlocks := B.notSynchronized
  have K : c_K p l s m ([.ref (ad 0), .int (nI t), .int (nI f)] : List Value).toArray c cX3_aboard 5 Z ad := ⟨hx, hb, hml, hown, fun w hw => atoms_spec (ws := fx_l yX3_aboard cX3_aboard 5 (some .int)) B.pre w (List.mem_cons_of_mem _ hw), hE, hSt, hinj, hfl⟩
  have hS : va_S (fx_A 115 ad s.heap.size) s.heap s.heap [] := va_S.rf
  have hl := lv_entry ([.ref (ad 0), .int (nI t), .int (nI f)]) (n := 5) (Nat.le_of_ble_eq_true rfl)
  rw [lg_entry_eq]
  generalize (lg_sl ([.ref (ad 0), .int (nI t), .int (nI f)]) ++ List.replicate (5 - (lg_sl ([.ref (ad 0), .int (nI t), .int (nI f)])).length) Slot.unset).toArray = ls at hl ⊢
  have hl : lv_has ls 5 [(0, .ref (ad 0)), (1, .int (nI t)), (2, .int (nI f))] := hl
  refine lv_aload_n hx hb dX3_aboard_0 rfl (lv_at hl 0 rfl) ?_
  refine lv_iload_n hx hb dX3_aboard_1 rfl (lv_at hl 1 rfl) ?_
  refine c_callr (rest := []) K hP hS (c_X3_travellerNumbered_ok l hfl Z ad hinj g t (by assumption)) ok_X3_58 rfl ⟨Nat.le_of_ble_eq_true rfl, Nat.le_of_ble_eq_true rfl⟩ rfl hl.1 (Nat.le_of_ble_eq_true rfl) ⟨Nat.le_of_ble_eq_true rfl, Nat.le_of_ble_eq_true rfl⟩ dX3_aboard_2 (fun H locs hP hS => ?_)
  refine lv_astore_n (lv' := [(3, .ref (ad (105 + t))), (0, .ref (ad 0)), (1, .int (nI t)), (2, .int (nI f))]) hx hb dX3_aboard_5 rfl hl (by decide) rfl (fun ls hl => ?_)
  refine lv_aload_n hx hb dX3_aboard_6 rfl (lv_at hl 1 rfl) ?_
  refine lv_iload_n hx hb dX3_aboard_7 rfl (lv_at hl 3 rfl) ?_
  refine c_callr (rest := []) K hP hS (c_X3_ferryNumbered_ok l hfl Z ad hinj g fc f (by assumption) (by assumption) (by assumption)) ok_X3_116 rfl ⟨Nat.le_of_ble_eq_true rfl, Nat.le_of_ble_eq_true rfl⟩ rfl hl.1 (Nat.le_of_ble_eq_true rfl) ⟨Nat.le_of_ble_eq_true rfl, Nat.le_of_ble_eq_true rfl⟩ dX3_aboard_8 (fun H locs hP hS => ?_)
  refine lv_astore (lv' := [(4, .ref (ad (65 + f))), (3, .ref (ad (105 + t))), (0, .ref (ad 0)), (1, .int (nI t)), (2, .int (nI f))]) hx hb dX3_aboard_11 hl (by decide) rfl (fun ls hl => ?_)
  refine lv_aload_n hx hb dX3_aboard_13 rfl (lv_at hl 2 rfl) ?_
  refine lv_aload hx hb dX3_aboard_14 (lv_at hl 0 rfl) ?_
  refine lv_iload_n hx hb dX3_aboard_16 rfl (lv_at hl 3 rfl) ?_
  exact c_callx (rest := []) K hlocks hout hP hS (c_X3_requireSeat_x l hfl Z ad hinj g f t (by omega) (by omega) (by assumption)) ok_X3_138 rfl ⟨Nat.le_of_ble_eq_true rfl, Nat.le_of_ble_eq_true rfl⟩ rfl hl.1 (Nat.le_of_ble_eq_true rfl) ⟨Nat.le_of_ble_eq_true rfl, Nat.le_of_ble_eq_true rfl⟩ dX3_aboard_17 (Nat.le_of_ble_eq_true rfl) (Nat.le_of_ble_eq_true rfl) (fun E hE => hE)

set_option maxHeartbeats 4000000 in
set_option maxRecDepth 100000 in
theorem c_X3_aboard_x2b (l : Launch) (hfl : l.stackTraces = false) (Z : fx_Z) (ad : Nat → Nat) (hinj : fx_inj 115 ad) (g : St) (fc : Nat) (t : Nat) (f : Nat) (ht9 : t < 10) (hff : f < fc) (hfc : g 0 1 = nI fc) (hf2 : fc ≤ 20) (hp : ¬ g (30 + f) t = 0) (hgo : ¬ g 16 t = 0) : fx_C l Z yX3_aboard cX3_aboard 5 (some .int) 7 103 1 6 115 ad (cF ad Z.2.1) g [.ref (ad 0), .int (nI t), .int (nI f)] (fun _ _ => False) (fun E => E = "java/lang/IllegalStateException") := by
  intro sz
  refine vx_ofW (cc := cX3_aboard) (maxL := 5) (ret := (some .int)) (by decide) rfl ?_
  intro p e s m args below meth c s₁ B hml hout hv
  obtain ⟨rfl, hsz, hP, hE, hSt⟩ := hv
  subst hsz
  have hx := B.exec
  have hb := B.bytes
  have hr := B.returns
  have hown : s.vm.findClass RX3 = some m.cls := findClass_of_methodNamed B.named
  have hlocks := B.notSynchronized
  have K : c_K p l s m ([.ref (ad 0), .int (nI t), .int (nI f)] : List Value).toArray c cX3_aboard 5 Z ad := ⟨hx, hb, hml, hown, fun w hw => atoms_spec (ws := fx_l yX3_aboard cX3_aboard 5 (some .int)) B.pre w (List.mem_cons_of_mem _ hw), hE, hSt, hinj, hfl⟩
  have hS : va_S (fx_A 115 ad s.heap.size) s.heap s.heap [] := va_S.rf
  have hl := lv_entry ([.ref (ad 0), .int (nI t), .int (nI f)]) (n := 5) (Nat.le_of_ble_eq_true rfl)
  rw [lg_entry_eq]
  generalize (lg_sl ([.ref (ad 0), .int (nI t), .int (nI f)]) ++ List.replicate (5 - (lg_sl ([.ref (ad 0), .int (nI t), .int (nI f)])).length) Slot.unset).toArray = ls at hl ⊢
  have hl : lv_has ls 5 [(0, .ref (ad 0)), (1, .int (nI t)), (2, .int (nI f))] := hl
  refine lv_aload_n hx hb dX3_aboard_0 rfl (lv_at hl 0 rfl) ?_
  refine lv_iload_n hx hb dX3_aboard_1 rfl (lv_at hl 1 rfl) ?_
  refine c_callr (rest := []) K hP hS (c_X3_travellerNumbered_ok l hfl Z ad hinj g t (by assumption)) ok_X3_58 rfl ⟨Nat.le_of_ble_eq_true rfl, Nat.le_of_ble_eq_true rfl⟩ rfl hl.1 (Nat.le_of_ble_eq_true rfl) ⟨Nat.le_of_ble_eq_true rfl, Nat.le_of_ble_eq_true rfl⟩ dX3_aboard_2 (fun H locs hP hS => ?_)
  refine lv_astore_n (lv' := [(3, .ref (ad (105 + t))), (0, .ref (ad 0)), (1, .int (nI t)), (2, .int (nI f))]) hx hb dX3_aboard_5 rfl hl (by decide) rfl (fun ls hl => ?_)
  refine lv_aload_n hx hb dX3_aboard_6 rfl (lv_at hl 1 rfl) ?_
  refine lv_iload_n hx hb dX3_aboard_7 rfl (lv_at hl 3 rfl) ?_
  refine c_callr (rest := []) K hP hS (c_X3_ferryNumbered_ok l hfl Z ad hinj g fc f (by assumption) (by assumption) (by assumption)) ok_X3_116 rfl ⟨Nat.le_of_ble_eq_true rfl, Nat.le_of_ble_eq_true rfl⟩ rfl hl.1 (Nat.le_of_ble_eq_true rfl) ⟨Nat.le_of_ble_eq_true rfl, Nat.le_of_ble_eq_true rfl⟩ dX3_aboard_8 (fun H locs hP hS => ?_)
  refine lv_astore (lv' := [(4, .ref (ad (65 + f))), (3, .ref (ad (105 + t))), (0, .ref (ad 0)), (1, .int (nI t)), (2, .int (nI f))]) hx hb dX3_aboard_11 hl (by decide) rfl (fun ls hl => ?_)
  refine lv_aload_n hx hb dX3_aboard_13 rfl (lv_at hl 2 rfl) ?_
  refine lv_aload hx hb dX3_aboard_14 (lv_at hl 0 rfl) ?_
  refine lv_iload_n hx hb dX3_aboard_16 rfl (lv_at hl 3 rfl) ?_
  refine c_callv (rest := []) K hP hS (c_X3_requireSeat_ok l hfl Z ad hinj g f t (by omega) (by omega) (by assumption)) ok_X3_138 rfl ⟨Nat.le_of_ble_eq_true rfl, Nat.le_of_ble_eq_true rfl⟩ rfl hl.1 (Nat.le_of_ble_eq_true rfl) ⟨Nat.le_of_ble_eq_true rfl, Nat.le_of_ble_eq_true rfl⟩ dX3_aboard_17 (fun H locs hP hS => ?_)
  refine lv_aload_n hx hb dX3_aboard_20 rfl (lv_at hl 2 rfl) ?_
  refine lv_aload_n hx hb dX3_aboard_21 rfl (lv_at hl 1 rfl) ?_
  exact c_callx (rest := []) K hlocks hout hP hS (c_X3_requireOnIsland_x l hfl Z ad hinj g t (by assumption) (by assumption)) ok_X3_64 rfl ⟨Nat.le_of_ble_eq_true rfl, Nat.le_of_ble_eq_true rfl⟩ rfl hl.1 (Nat.le_of_ble_eq_true rfl) ⟨Nat.le_of_ble_eq_true rfl, Nat.le_of_ble_eq_true rfl⟩ dX3_aboard_22 (Nat.le_of_ble_eq_true rfl) (Nat.le_of_ble_eq_true rfl) (fun E hE => hE)

set_option maxHeartbeats 4000000 in
set_option maxRecDepth 100000 in
theorem c_X3_aboard_x2c (l : Launch) (hfl : l.stackTraces = false) (Z : fx_Z) (ad : Nat → Nat) (hinj : fx_inj 115 ad) (g : St) (fc : Nat) (t : Nat) (f : Nat) (ht9 : t < 10) (hff : f < fc) (hfc : g 0 1 = nI fc) (hf2 : fc ≤ 20) (hp : ¬ g (30 + f) t = 0) (hgo : g 16 t = 0) (hns : ¬ g 0 2 < g 11 f) : fx_C l Z yX3_aboard cX3_aboard 5 (some .int) 8 125 1 6 115 ad (cF ad Z.2.1) g [.ref (ad 0), .int (nI t), .int (nI f)] (fun _ _ => False) (fun E => E = "java/lang/IllegalStateException") := by
  intro sz
  refine vx_ofW (cc := cX3_aboard) (maxL := 5) (ret := (some .int)) (by decide) rfl ?_
  intro p e s m args below meth c s₁ B hml hout hv
  obtain ⟨rfl, hsz, hP, hE, hSt⟩ := hv
  subst hsz
  have hx := B.exec
  have hb := B.bytes
  have hr := B.returns
  have hown : s.vm.findClass RX3 = some m.cls := findClass_of_methodNamed B.named
  have hlocks := B.notSynchronized
  have K : c_K p l s m ([.ref (ad 0), .int (nI t), .int (nI f)] : List Value).toArray c cX3_aboard 5 Z ad := ⟨hx, hb, hml, hown, fun w hw => atoms_spec (ws := fx_l yX3_aboard cX3_aboard 5 (some .int)) B.pre w (List.mem_cons_of_mem _ hw), hE, hSt, hinj, hfl⟩
  have hS : va_S (fx_A 115 ad s.heap.size) s.heap s.heap [] := va_S.rf
  have hl := lv_entry ([.ref (ad 0), .int (nI t), .int (nI f)]) (n := 5) (Nat.le_of_ble_eq_true rfl)
  rw [lg_entry_eq]
  generalize (lg_sl ([.ref (ad 0), .int (nI t), .int (nI f)]) ++ List.replicate (5 - (lg_sl ([.ref (ad 0), .int (nI t), .int (nI f)])).length) Slot.unset).toArray = ls at hl ⊢
  have hl : lv_has ls 5 [(0, .ref (ad 0)), (1, .int (nI t)), (2, .int (nI f))] := hl
  refine lv_aload_n hx hb dX3_aboard_0 rfl (lv_at hl 0 rfl) ?_
  refine lv_iload_n hx hb dX3_aboard_1 rfl (lv_at hl 1 rfl) ?_
  refine c_callr (rest := []) K hP hS (c_X3_travellerNumbered_ok l hfl Z ad hinj g t (by assumption)) ok_X3_58 rfl ⟨Nat.le_of_ble_eq_true rfl, Nat.le_of_ble_eq_true rfl⟩ rfl hl.1 (Nat.le_of_ble_eq_true rfl) ⟨Nat.le_of_ble_eq_true rfl, Nat.le_of_ble_eq_true rfl⟩ dX3_aboard_2 (fun H locs hP hS => ?_)
  refine lv_astore_n (lv' := [(3, .ref (ad (105 + t))), (0, .ref (ad 0)), (1, .int (nI t)), (2, .int (nI f))]) hx hb dX3_aboard_5 rfl hl (by decide) rfl (fun ls hl => ?_)
  refine lv_aload_n hx hb dX3_aboard_6 rfl (lv_at hl 1 rfl) ?_
  refine lv_iload_n hx hb dX3_aboard_7 rfl (lv_at hl 3 rfl) ?_
  refine c_callr (rest := []) K hP hS (c_X3_ferryNumbered_ok l hfl Z ad hinj g fc f (by assumption) (by assumption) (by assumption)) ok_X3_116 rfl ⟨Nat.le_of_ble_eq_true rfl, Nat.le_of_ble_eq_true rfl⟩ rfl hl.1 (Nat.le_of_ble_eq_true rfl) ⟨Nat.le_of_ble_eq_true rfl, Nat.le_of_ble_eq_true rfl⟩ dX3_aboard_8 (fun H locs hP hS => ?_)
  refine lv_astore (lv' := [(4, .ref (ad (65 + f))), (3, .ref (ad (105 + t))), (0, .ref (ad 0)), (1, .int (nI t)), (2, .int (nI f))]) hx hb dX3_aboard_11 hl (by decide) rfl (fun ls hl => ?_)
  refine lv_aload_n hx hb dX3_aboard_13 rfl (lv_at hl 2 rfl) ?_
  refine lv_aload hx hb dX3_aboard_14 (lv_at hl 0 rfl) ?_
  refine lv_iload_n hx hb dX3_aboard_16 rfl (lv_at hl 3 rfl) ?_
  refine c_callv (rest := []) K hP hS (c_X3_requireSeat_ok l hfl Z ad hinj g f t (by omega) (by omega) (by assumption)) ok_X3_138 rfl ⟨Nat.le_of_ble_eq_true rfl, Nat.le_of_ble_eq_true rfl⟩ rfl hl.1 (Nat.le_of_ble_eq_true rfl) ⟨Nat.le_of_ble_eq_true rfl, Nat.le_of_ble_eq_true rfl⟩ dX3_aboard_17 (fun H locs hP hS => ?_)
  refine lv_aload_n hx hb dX3_aboard_20 rfl (lv_at hl 2 rfl) ?_
  refine lv_aload_n hx hb dX3_aboard_21 rfl (lv_at hl 1 rfl) ?_
  refine c_callv (rest := []) K hP hS (c_X3_requireOnIsland_ok l hfl Z ad hinj g t (by assumption) (by assumption)) ok_X3_64 rfl ⟨Nat.le_of_ble_eq_true rfl, Nat.le_of_ble_eq_true rfl⟩ rfl hl.1 (Nat.le_of_ble_eq_true rfl) ⟨Nat.le_of_ble_eq_true rfl, Nat.le_of_ble_eq_true rfl⟩ dX3_aboard_22 (fun H locs hP hS => ?_)
  refine lv_aload_n hx hb dX3_aboard_25 rfl (lv_at hl 2 rfl) ?_
  refine lv_aload hx hb dX3_aboard_26 (lv_at hl 0 rfl) ?_
  refine lv_iconst (v := 3) hx hb dX3_aboard_28 (by decide) ?_
  exact c_callx (rest := []) K hlocks hout hP hS (c_X3_requireWithin_x1 l hfl Z ad hinj g f 3 (by omega) (by assumption)) ok_X3_146 rfl ⟨Nat.le_of_ble_eq_true rfl, Nat.le_of_ble_eq_true rfl⟩ rfl hl.1 (Nat.le_of_ble_eq_true rfl) ⟨Nat.le_of_ble_eq_true rfl, Nat.le_of_ble_eq_true rfl⟩ dX3_aboard_29 (Nat.le_of_ble_eq_true rfl) (Nat.le_of_ble_eq_true rfl) (fun E hE => hE)

set_option maxHeartbeats 4000000 in
set_option maxRecDepth 100000 in
theorem c_X3_aboard_x2d (l : Launch) (hfl : l.stackTraces = false) (Z : fx_Z) (ad : Nat → Nat) (hinj : fx_inj 115 ad) (g : St) (fc : Nat) (t : Nat) (f : Nat) (ht9 : t < 10) (hff : f < fc) (hfc : g 0 1 = nI fc) (hf2 : fc ≤ 20) (hp : ¬ g (30 + f) t = 0) (hgo : g 16 t = 0) (hns : g 0 2 < g 11 f) (hw : ¬ g 11 f - 3 ≤ g 0 2) : fx_C l Z yX3_aboard cX3_aboard 5 (some .int) 7 104 1 6 115 ad (cF ad Z.2.1) g [.ref (ad 0), .int (nI t), .int (nI f)] (fun _ _ => False) (fun E => E = "java/lang/IllegalStateException") := by
  intro sz
  refine vx_ofW (cc := cX3_aboard) (maxL := 5) (ret := (some .int)) (by decide) rfl ?_
  intro p e s m args below meth c s₁ B hml hout hv
  obtain ⟨rfl, hsz, hP, hE, hSt⟩ := hv
  subst hsz
  have hx := B.exec
  have hb := B.bytes
  have hr := B.returns
  have hown : s.vm.findClass RX3 = some m.cls := findClass_of_methodNamed B.named
  have hlocks := B.notSynchronized
  have K : c_K p l s m ([.ref (ad 0), .int (nI t), .int (nI f)] : List Value).toArray c cX3_aboard 5 Z ad := ⟨hx, hb, hml, hown, fun w hw => atoms_spec (ws := fx_l yX3_aboard cX3_aboard 5 (some .int)) B.pre w (List.mem_cons_of_mem _ hw), hE, hSt, hinj, hfl⟩
  have hS : va_S (fx_A 115 ad s.heap.size) s.heap s.heap [] := va_S.rf
  have hl := lv_entry ([.ref (ad 0), .int (nI t), .int (nI f)]) (n := 5) (Nat.le_of_ble_eq_true rfl)
  rw [lg_entry_eq]
  generalize (lg_sl ([.ref (ad 0), .int (nI t), .int (nI f)]) ++ List.replicate (5 - (lg_sl ([.ref (ad 0), .int (nI t), .int (nI f)])).length) Slot.unset).toArray = ls at hl ⊢
  have hl : lv_has ls 5 [(0, .ref (ad 0)), (1, .int (nI t)), (2, .int (nI f))] := hl
  refine lv_aload_n hx hb dX3_aboard_0 rfl (lv_at hl 0 rfl) ?_
  refine lv_iload_n hx hb dX3_aboard_1 rfl (lv_at hl 1 rfl) ?_
  refine c_callr (rest := []) K hP hS (c_X3_travellerNumbered_ok l hfl Z ad hinj g t (by assumption)) ok_X3_58 rfl ⟨Nat.le_of_ble_eq_true rfl, Nat.le_of_ble_eq_true rfl⟩ rfl hl.1 (Nat.le_of_ble_eq_true rfl) ⟨Nat.le_of_ble_eq_true rfl, Nat.le_of_ble_eq_true rfl⟩ dX3_aboard_2 (fun H locs hP hS => ?_)
  refine lv_astore_n (lv' := [(3, .ref (ad (105 + t))), (0, .ref (ad 0)), (1, .int (nI t)), (2, .int (nI f))]) hx hb dX3_aboard_5 rfl hl (by decide) rfl (fun ls hl => ?_)
  refine lv_aload_n hx hb dX3_aboard_6 rfl (lv_at hl 1 rfl) ?_
  refine lv_iload_n hx hb dX3_aboard_7 rfl (lv_at hl 3 rfl) ?_
  refine c_callr (rest := []) K hP hS (c_X3_ferryNumbered_ok l hfl Z ad hinj g fc f (by assumption) (by assumption) (by assumption)) ok_X3_116 rfl ⟨Nat.le_of_ble_eq_true rfl, Nat.le_of_ble_eq_true rfl⟩ rfl hl.1 (Nat.le_of_ble_eq_true rfl) ⟨Nat.le_of_ble_eq_true rfl, Nat.le_of_ble_eq_true rfl⟩ dX3_aboard_8 (fun H locs hP hS => ?_)
  refine lv_astore (lv' := [(4, .ref (ad (65 + f))), (3, .ref (ad (105 + t))), (0, .ref (ad 0)), (1, .int (nI t)), (2, .int (nI f))]) hx hb dX3_aboard_11 hl (by decide) rfl (fun ls hl => ?_)
  refine lv_aload_n hx hb dX3_aboard_13 rfl (lv_at hl 2 rfl) ?_
  refine lv_aload hx hb dX3_aboard_14 (lv_at hl 0 rfl) ?_
  refine lv_iload_n hx hb dX3_aboard_16 rfl (lv_at hl 3 rfl) ?_
  refine c_callv (rest := []) K hP hS (c_X3_requireSeat_ok l hfl Z ad hinj g f t (by omega) (by omega) (by assumption)) ok_X3_138 rfl ⟨Nat.le_of_ble_eq_true rfl, Nat.le_of_ble_eq_true rfl⟩ rfl hl.1 (Nat.le_of_ble_eq_true rfl) ⟨Nat.le_of_ble_eq_true rfl, Nat.le_of_ble_eq_true rfl⟩ dX3_aboard_17 (fun H locs hP hS => ?_)
  refine lv_aload_n hx hb dX3_aboard_20 rfl (lv_at hl 2 rfl) ?_
  refine lv_aload_n hx hb dX3_aboard_21 rfl (lv_at hl 1 rfl) ?_
  refine c_callv (rest := []) K hP hS (c_X3_requireOnIsland_ok l hfl Z ad hinj g t (by assumption) (by assumption)) ok_X3_64 rfl ⟨Nat.le_of_ble_eq_true rfl, Nat.le_of_ble_eq_true rfl⟩ rfl hl.1 (Nat.le_of_ble_eq_true rfl) ⟨Nat.le_of_ble_eq_true rfl, Nat.le_of_ble_eq_true rfl⟩ dX3_aboard_22 (fun H locs hP hS => ?_)
  refine lv_aload_n hx hb dX3_aboard_25 rfl (lv_at hl 2 rfl) ?_
  refine lv_aload hx hb dX3_aboard_26 (lv_at hl 0 rfl) ?_
  refine lv_iconst (v := 3) hx hb dX3_aboard_28 (by decide) ?_
  exact c_callx (rest := []) K hlocks hout hP hS (c_X3_requireWithin_x2 l hfl Z ad hinj g f 3 (by omega) (by assumption) (by assumption)) ok_X3_146 rfl ⟨Nat.le_of_ble_eq_true rfl, Nat.le_of_ble_eq_true rfl⟩ rfl hl.1 (Nat.le_of_ble_eq_true rfl) ⟨Nat.le_of_ble_eq_true rfl, Nat.le_of_ble_eq_true rfl⟩ dX3_aboard_29 (Nat.le_of_ble_eq_true rfl) (Nat.le_of_ble_eq_true rfl) (fun E hE => hE)

set_option maxHeartbeats 4000000 in
set_option maxRecDepth 100000 in
theorem c_X3_aboard_x2e (l : Launch) (hfl : l.stackTraces = false) (Z : fx_Z) (ad : Nat → Nat) (hinj : fx_inj 115 ad) (g : St) (fc : Nat) (f0 : Nat) (t : Nat) (f : Nat) (ht9 : t < 10) (hff : f < fc) (hfc : g 0 1 = nI fc) (hf2 : fc ≤ 20) (hp : ¬ g (30 + f) t = 0) (hgo : g 16 t = 0) (hns : g 0 2 < g 11 f) (hw : g 11 f - 3 ≤ g 0 2) (hf0 : f0 < fc) (hab : g (30 + f0) t = 2) : fx_C l Z yX3_aboard cX3_aboard 5 (some .int) 6 82 1 6 115 ad (cF ad Z.2.1) g [.ref (ad 0), .int (nI t), .int (nI f)] (fun _ _ => False) (fun E => E = "java/lang/IllegalStateException") := by
  intro sz
  refine vx_ofW (cc := cX3_aboard) (maxL := 5) (ret := (some .int)) (by decide) rfl ?_
  intro p e s m args below meth c s₁ B hml hout hv
  obtain ⟨rfl, hsz, hP, hE, hSt⟩ := hv
  subst hsz
  have hx := B.exec
  have hb := B.bytes
  have hr := B.returns
  have hown : s.vm.findClass RX3 = some m.cls := findClass_of_methodNamed B.named
  have hlocks := B.notSynchronized
  have K : c_K p l s m ([.ref (ad 0), .int (nI t), .int (nI f)] : List Value).toArray c cX3_aboard 5 Z ad := ⟨hx, hb, hml, hown, fun w hw => atoms_spec (ws := fx_l yX3_aboard cX3_aboard 5 (some .int)) B.pre w (List.mem_cons_of_mem _ hw), hE, hSt, hinj, hfl⟩
  have hS : va_S (fx_A 115 ad s.heap.size) s.heap s.heap [] := va_S.rf
  have hl := lv_entry ([.ref (ad 0), .int (nI t), .int (nI f)]) (n := 5) (Nat.le_of_ble_eq_true rfl)
  rw [lg_entry_eq]
  generalize (lg_sl ([.ref (ad 0), .int (nI t), .int (nI f)]) ++ List.replicate (5 - (lg_sl ([.ref (ad 0), .int (nI t), .int (nI f)])).length) Slot.unset).toArray = ls at hl ⊢
  have hl : lv_has ls 5 [(0, .ref (ad 0)), (1, .int (nI t)), (2, .int (nI f))] := hl
  refine lv_aload_n hx hb dX3_aboard_0 rfl (lv_at hl 0 rfl) ?_
  refine lv_iload_n hx hb dX3_aboard_1 rfl (lv_at hl 1 rfl) ?_
  refine c_callr (rest := []) K hP hS (c_X3_travellerNumbered_ok l hfl Z ad hinj g t (by assumption)) ok_X3_58 rfl ⟨Nat.le_of_ble_eq_true rfl, Nat.le_of_ble_eq_true rfl⟩ rfl hl.1 (Nat.le_of_ble_eq_true rfl) ⟨Nat.le_of_ble_eq_true rfl, Nat.le_of_ble_eq_true rfl⟩ dX3_aboard_2 (fun H locs hP hS => ?_)
  refine lv_astore_n (lv' := [(3, .ref (ad (105 + t))), (0, .ref (ad 0)), (1, .int (nI t)), (2, .int (nI f))]) hx hb dX3_aboard_5 rfl hl (by decide) rfl (fun ls hl => ?_)
  refine lv_aload_n hx hb dX3_aboard_6 rfl (lv_at hl 1 rfl) ?_
  refine lv_iload_n hx hb dX3_aboard_7 rfl (lv_at hl 3 rfl) ?_
  refine c_callr (rest := []) K hP hS (c_X3_ferryNumbered_ok l hfl Z ad hinj g fc f (by assumption) (by assumption) (by assumption)) ok_X3_116 rfl ⟨Nat.le_of_ble_eq_true rfl, Nat.le_of_ble_eq_true rfl⟩ rfl hl.1 (Nat.le_of_ble_eq_true rfl) ⟨Nat.le_of_ble_eq_true rfl, Nat.le_of_ble_eq_true rfl⟩ dX3_aboard_8 (fun H locs hP hS => ?_)
  refine lv_astore (lv' := [(4, .ref (ad (65 + f))), (3, .ref (ad (105 + t))), (0, .ref (ad 0)), (1, .int (nI t)), (2, .int (nI f))]) hx hb dX3_aboard_11 hl (by decide) rfl (fun ls hl => ?_)
  refine lv_aload_n hx hb dX3_aboard_13 rfl (lv_at hl 2 rfl) ?_
  refine lv_aload hx hb dX3_aboard_14 (lv_at hl 0 rfl) ?_
  refine lv_iload_n hx hb dX3_aboard_16 rfl (lv_at hl 3 rfl) ?_
  refine c_callv (rest := []) K hP hS (c_X3_requireSeat_ok l hfl Z ad hinj g f t (by omega) (by omega) (by assumption)) ok_X3_138 rfl ⟨Nat.le_of_ble_eq_true rfl, Nat.le_of_ble_eq_true rfl⟩ rfl hl.1 (Nat.le_of_ble_eq_true rfl) ⟨Nat.le_of_ble_eq_true rfl, Nat.le_of_ble_eq_true rfl⟩ dX3_aboard_17 (fun H locs hP hS => ?_)
  refine lv_aload_n hx hb dX3_aboard_20 rfl (lv_at hl 2 rfl) ?_
  refine lv_aload_n hx hb dX3_aboard_21 rfl (lv_at hl 1 rfl) ?_
  refine c_callv (rest := []) K hP hS (c_X3_requireOnIsland_ok l hfl Z ad hinj g t (by assumption) (by assumption)) ok_X3_64 rfl ⟨Nat.le_of_ble_eq_true rfl, Nat.le_of_ble_eq_true rfl⟩ rfl hl.1 (Nat.le_of_ble_eq_true rfl) ⟨Nat.le_of_ble_eq_true rfl, Nat.le_of_ble_eq_true rfl⟩ dX3_aboard_22 (fun H locs hP hS => ?_)
  refine lv_aload_n hx hb dX3_aboard_25 rfl (lv_at hl 2 rfl) ?_
  refine lv_aload hx hb dX3_aboard_26 (lv_at hl 0 rfl) ?_
  refine lv_iconst (v := 3) hx hb dX3_aboard_28 (by decide) ?_
  refine c_callv (rest := []) K hP hS (c_X3_requireWithin_ok l hfl Z ad hinj g f 3 (by omega) (by assumption) (by assumption)) ok_X3_146 rfl ⟨Nat.le_of_ble_eq_true rfl, Nat.le_of_ble_eq_true rfl⟩ rfl hl.1 (Nat.le_of_ble_eq_true rfl) ⟨Nat.le_of_ble_eq_true rfl, Nat.le_of_ble_eq_true rfl⟩ dX3_aboard_29 (fun H locs hP hS => ?_)
  refine lv_aload_n hx hb dX3_aboard_32 rfl (lv_at hl 2 rfl) ?_
  refine lv_iload_n hx hb dX3_aboard_33 rfl (lv_at hl 3 rfl) ?_
  refine c_calli (rest := []) K hP hS (c_X3_isAboardSomewhere_t l hfl Z ad hinj g fc f0 t (by assumption) (by assumption) (by assumption) (by assumption) (by assumption)) ok_X3_149 rfl ⟨Nat.le_of_ble_eq_true rfl, Nat.le_of_ble_eq_true rfl⟩ rfl hl.1 (Nat.le_of_ble_eq_true rfl) ⟨Nat.le_of_ble_eq_true rfl, Nat.le_of_ble_eq_true rfl⟩ dX3_aboard_34 (fun H locs hP hS => ?_)
  refine lv_if_eq (tgt := 50) hx hb dX3_aboard_37 (by decide) (fun c1 => absurd c1 (by decide)) (fun _ => ?_)
  exact c_throw (text := "the traveller is aboard of a ferry") K hlocks hout hP hS hl.1 xw_ISE xi_ISE (by decide) xa_ISE (by decide) dX3_aboard_40 dX3_aboard_43 dX3_aboard_44 dX3_aboard_46 dX3_aboard_49 (Nat.le_of_ble_eq_true rfl) (Nat.le_of_ble_eq_true rfl) (Nat.le_of_ble_eq_true rfl) (Nat.le_of_ble_eq_true rfl) (Nat.le_of_ble_eq_true rfl) (Nat.le_of_ble_eq_true rfl) rfl

set_option maxHeartbeats 4000000 in
set_option maxRecDepth 100000 in
theorem c_X3_stamp_ok (l : Launch) (hfl : l.stackTraces = false) (Z : fx_Z) (ad : Nat → Nat) (hinj : fx_inj 115 ad) (g : St) (rc : Nat) (fc : Nat) (t : Nat) (i : Nat) (f : Nat) (hi : i < rc) (hrc : g 0 0 = nI rc) (hr6 : rc ≤ 60) (hff : f < fc) (hfc : g 0 1 = nI fc) (hf2 : fc ≤ 20) (ht : g 3 i = nI t) (ht9 : t < 10) (h7 : g 7 i = 0) (h4 : 50 ≤ g 4 i) (hp : ¬ g (30 + f) t = 0) (hns : g 0 2 < g 11 f) (hw : g 11 f - 12 ≤ g 0 2) : fx_C l Z yX3_stamp cX3_stamp 5 (some .int) 2 43 0 0 115 ad (cF ad Z.2.1) g [.ref (ad 0), .int (nI i), .int (nI f)] (pI (g 5 i) (u2 (u2 g 7 i 1) 8 i (nI f))) (fun _ => False) := by
  intro sz
  refine vx_ofW (cc := cX3_stamp) (maxL := 5) (ret := (some .int)) (by decide) rfl ?_
  intro p e s m args below meth c s₁ B hml hout hv
  obtain ⟨rfl, hsz, hP, hE, hSt⟩ := hv
  subst hsz
  have hx := B.exec
  have hb := B.bytes
  have hr := B.returns
  have hown : s.vm.findClass RX3 = some m.cls := findClass_of_methodNamed B.named
  have hlocks := B.notSynchronized
  have K : c_K p l s m ([.ref (ad 0), .int (nI i), .int (nI f)] : List Value).toArray c cX3_stamp 5 Z ad := ⟨hx, hb, hml, hown, fun w hw => atoms_spec (ws := fx_l yX3_stamp cX3_stamp 5 (some .int)) B.pre w (List.mem_cons_of_mem _ hw), hE, hSt, hinj, hfl⟩
  have hS : va_S (fx_A 115 ad s.heap.size) s.heap s.heap [] := va_S.rf
  have hl := lv_entry ([.ref (ad 0), .int (nI i), .int (nI f)]) (n := 5) (Nat.le_of_ble_eq_true rfl)
  rw [lg_entry_eq]
  generalize (lg_sl ([.ref (ad 0), .int (nI i), .int (nI f)]) ++ List.replicate (5 - (lg_sl ([.ref (ad 0), .int (nI i), .int (nI f)])).length) Slot.unset).toArray = ls at hl ⊢
  have hl : lv_has ls 5 [(0, .ref (ad 0)), (1, .int (nI i)), (2, .int (nI f))] := hl
  refine lv_aload_n hx hb dX3_stamp_0 rfl (lv_at hl 0 rfl) ?_
  refine lv_iload_n hx hb dX3_stamp_1 rfl (lv_at hl 1 rfl) ?_
  refine c_callr (rest := []) K hP hS (c_X3_receiptNumbered_ok l hfl Z ad hinj g rc i (by assumption) (by assumption) (by assumption)) ok_X3_94 rfl ⟨Nat.le_of_ble_eq_true rfl, Nat.le_of_ble_eq_true rfl⟩ rfl hl.1 (Nat.le_of_ble_eq_true rfl) ⟨Nat.le_of_ble_eq_true rfl, Nat.le_of_ble_eq_true rfl⟩ dX3_stamp_2 (fun H locs hP hS => ?_)
  refine lv_astore_n (lv' := [(3, .ref (ad (5 + i))), (0, .ref (ad 0)), (1, .int (nI i)), (2, .int (nI f))]) hx hb dX3_stamp_5 rfl hl (by decide) rfl (fun ls hl => ?_)
  refine lv_aload_n hx hb dX3_stamp_6 rfl (lv_at hl 1 rfl) ?_
  refine lv_iload_n hx hb dX3_stamp_7 rfl (lv_at hl 3 rfl) ?_
  refine c_callr (rest := []) K hP hS (c_X3_ferryNumbered_ok l hfl Z ad hinj g fc f (by assumption) (by assumption) (by assumption)) ok_X3_116 rfl ⟨Nat.le_of_ble_eq_true rfl, Nat.le_of_ble_eq_true rfl⟩ rfl hl.1 (Nat.le_of_ble_eq_true rfl) ⟨Nat.le_of_ble_eq_true rfl, Nat.le_of_ble_eq_true rfl⟩ dX3_stamp_8 (fun H locs hP hS => ?_)
  refine lv_astore (lv' := [(4, .ref (ad (65 + f))), (3, .ref (ad (5 + i))), (0, .ref (ad 0)), (1, .int (nI i)), (2, .int (nI f))]) hx hb dX3_stamp_11 hl (by decide) rfl (fun ls hl => ?_)
  refine lv_aload_n hx hb dX3_stamp_13 rfl (lv_at hl 2 rfl) ?_
  refine lv_aload_n hx hb dX3_stamp_14 rfl (lv_at hl 1 rfl) ?_
  refine c_callv (rest := []) K hP hS (c_X3_requireOpen_ok l hfl Z ad hinj g i (by omega) (by assumption)) ok_X3_98 rfl ⟨Nat.le_of_ble_eq_true rfl, Nat.le_of_ble_eq_true rfl⟩ rfl hl.1 (Nat.le_of_ble_eq_true rfl) ⟨Nat.le_of_ble_eq_true rfl, Nat.le_of_ble_eq_true rfl⟩ dX3_stamp_15 (fun H locs hP hS => ?_)
  refine lv_aload_n hx hb dX3_stamp_18 rfl (lv_at hl 1 rfl) ?_
  refine cgR_price K hP (by omega) dX3_stamp_19 ?_
  refine lv_bipush (v := 50) hx hb dX3_stamp_22 (by decide) ?_
  refine lv_icmp_ge (tgt := 37) hx hb dX3_stamp_24 (by decide) (fun _ => ?_) (fun c1 => absurd h4 c1)
  refine lv_aload_n hx hb dX3_stamp_37 rfl (lv_at hl 2 rfl) ?_
  refine lv_aload hx hb dX3_stamp_38 (lv_at hl 0 rfl) ?_
  refine lv_aload_n hx hb dX3_stamp_40 rfl (lv_at hl 1 rfl) ?_
  refine cgR_traveller K hP (by omega) dX3_stamp_41 ?_
  rw [ht]
  refine c_callv (rest := []) K hP hS (c_X3_requireSeat_ok l hfl Z ad hinj g f t (by omega) (by omega) (by assumption)) ok_X3_138 rfl ⟨Nat.le_of_ble_eq_true rfl, Nat.le_of_ble_eq_true rfl⟩ rfl hl.1 (Nat.le_of_ble_eq_true rfl) ⟨Nat.le_of_ble_eq_true rfl, Nat.le_of_ble_eq_true rfl⟩ dX3_stamp_44 (fun H locs hP hS => ?_)
  refine lv_aload_n hx hb dX3_stamp_47 rfl (lv_at hl 2 rfl) ?_
  refine lv_aload hx hb dX3_stamp_48 (lv_at hl 0 rfl) ?_
  refine lv_bipush (v := 12) hx hb dX3_stamp_50 (by decide) ?_
  refine c_callv (rest := []) K hP hS (c_X3_requireWithin_ok l hfl Z ad hinj g f 12 (by omega) (by assumption) (by assumption)) ok_X3_146 rfl ⟨Nat.le_of_ble_eq_true rfl, Nat.le_of_ble_eq_true rfl⟩ rfl hl.1 (Nat.le_of_ble_eq_true rfl) ⟨Nat.le_of_ble_eq_true rfl, Nat.le_of_ble_eq_true rfl⟩ dX3_stamp_52 (fun H locs hP hS => ?_)
  refine lv_aload_n hx hb dX3_stamp_55 rfl (lv_at hl 1 rfl) ?_
  refine lv_iconst (v := 1) hx hb dX3_stamp_56 (by decide) ?_
  refine cpR_state K hP hS (by omega) dX3_stamp_57 (fun h2 H locs e2 hP hS => ?_)
  refine lv_aload_n hx hb dX3_stamp_60 rfl (lv_at hl 1 rfl) ?_
  refine lv_iload_n hx hb dX3_stamp_61 rfl (lv_at hl 4 rfl) ?_
  refine cpR_stampedFor K hP hS (by omega) dX3_stamp_62 (fun h3 H locs e3 hP hS => ?_)
  refine lv_aload_n hx hb dX3_stamp_65 rfl (lv_at hl 1 rfl) ?_
  refine cgR_tax K hP (by omega) dX3_stamp_66 ?_
  rw [show h3 5 i = g 5 i from by rw [e3, u2_off _ _ (by omega), e2, u2_off _ _ (by omega)]]
  exact fx_reti hx hb hr hlocks hP hS (Nat.le_of_ble_eq_true rfl) (Nat.le_of_ble_eq_true rfl) dX3_stamp_69 ⟨rfl, by simp only [e2, e3]⟩

set_option maxHeartbeats 4000000 in
set_option maxRecDepth 100000 in
theorem c_X3_stamp_x1a (l : Launch) (hfl : l.stackTraces = false) (Z : fx_Z) (ad : Nat → Nat) (hinj : fx_inj 115 ad) (g : St) (rc : Nat) (r : Int32) (f : Int32) (hrc : g 0 0 = nI rc) (hr6 : rc ≤ 60) (hbr : bad r rc) : fx_C l Z yX3_stamp cX3_stamp 5 (some .int) 7 103 1 6 115 ad (cF ad Z.2.1) g [.ref (ad 0), .int r, .int f] (fun _ _ => False) (fun E => E = "java/lang/IndexOutOfBoundsException") := by
  intro sz
  refine vx_ofW (cc := cX3_stamp) (maxL := 5) (ret := (some .int)) (by decide) rfl ?_
  intro p e s m args below meth c s₁ B hml hout hv
  obtain ⟨rfl, hsz, hP, hE, hSt⟩ := hv
  subst hsz
  have hx := B.exec
  have hb := B.bytes
  have hr := B.returns
  have hown : s.vm.findClass RX3 = some m.cls := findClass_of_methodNamed B.named
  have hlocks := B.notSynchronized
  have K : c_K p l s m ([.ref (ad 0), .int r, .int f] : List Value).toArray c cX3_stamp 5 Z ad := ⟨hx, hb, hml, hown, fun w hw => atoms_spec (ws := fx_l yX3_stamp cX3_stamp 5 (some .int)) B.pre w (List.mem_cons_of_mem _ hw), hE, hSt, hinj, hfl⟩
  have hS : va_S (fx_A 115 ad s.heap.size) s.heap s.heap [] := va_S.rf
  have hl := lv_entry ([.ref (ad 0), .int r, .int f]) (n := 5) (Nat.le_of_ble_eq_true rfl)
  rw [lg_entry_eq]
  generalize (lg_sl ([.ref (ad 0), .int r, .int f]) ++ List.replicate (5 - (lg_sl ([.ref (ad 0), .int r, .int f])).length) Slot.unset).toArray = ls at hl ⊢
  have hl : lv_has ls 5 [(0, .ref (ad 0)), (1, .int r), (2, .int f)] := hl
  refine lv_aload_n hx hb dX3_stamp_0 rfl (lv_at hl 0 rfl) ?_
  refine lv_iload_n hx hb dX3_stamp_1 rfl (lv_at hl 1 rfl) ?_
  exact c_callx (rest := []) K hlocks hout hP hS (c_X3_receiptNumbered_x l hfl Z ad hinj g rc r (by assumption) (by assumption) (by assumption)) ok_X3_94 rfl ⟨Nat.le_of_ble_eq_true rfl, Nat.le_of_ble_eq_true rfl⟩ rfl hl.1 (Nat.le_of_ble_eq_true rfl) ⟨Nat.le_of_ble_eq_true rfl, Nat.le_of_ble_eq_true rfl⟩ dX3_stamp_2 (Nat.le_of_ble_eq_true rfl) (Nat.le_of_ble_eq_true rfl) (fun E hE => hE)

set_option maxHeartbeats 4000000 in
set_option maxRecDepth 100000 in
theorem c_X3_stamp_x1b (l : Launch) (hfl : l.stackTraces = false) (Z : fx_Z) (ad : Nat → Nat) (hinj : fx_inj 115 ad) (g : St) (rc : Nat) (fc : Nat) (i : Nat) (f : Int32) (hi : i < rc) (hrc : g 0 0 = nI rc) (hr6 : rc ≤ 60) (hfc : g 0 1 = nI fc) (hf2 : fc ≤ 20) (hff : bad f fc) : fx_C l Z yX3_stamp cX3_stamp 5 (some .int) 7 103 1 6 115 ad (cF ad Z.2.1) g [.ref (ad 0), .int (nI i), .int f] (fun _ _ => False) (fun E => E = "java/lang/IndexOutOfBoundsException") := by
  intro sz
  refine vx_ofW (cc := cX3_stamp) (maxL := 5) (ret := (some .int)) (by decide) rfl ?_
  intro p e s m args below meth c s₁ B hml hout hv
  obtain ⟨rfl, hsz, hP, hE, hSt⟩ := hv
  subst hsz
  have hx := B.exec
  have hb := B.bytes
  have hr := B.returns
  have hown : s.vm.findClass RX3 = some m.cls := findClass_of_methodNamed B.named
  have hlocks := B.notSynchronized
  have K : c_K p l s m ([.ref (ad 0), .int (nI i), .int f] : List Value).toArray c cX3_stamp 5 Z ad := ⟨hx, hb, hml, hown, fun w hw => atoms_spec (ws := fx_l yX3_stamp cX3_stamp 5 (some .int)) B.pre w (List.mem_cons_of_mem _ hw), hE, hSt, hinj, hfl⟩
  have hS : va_S (fx_A 115 ad s.heap.size) s.heap s.heap [] := va_S.rf
  have hl := lv_entry ([.ref (ad 0), .int (nI i), .int f]) (n := 5) (Nat.le_of_ble_eq_true rfl)
  rw [lg_entry_eq]
  generalize (lg_sl ([.ref (ad 0), .int (nI i), .int f]) ++ List.replicate (5 - (lg_sl ([.ref (ad 0), .int (nI i), .int f])).length) Slot.unset).toArray = ls at hl ⊢
  have hl : lv_has ls 5 [(0, .ref (ad 0)), (1, .int (nI i)), (2, .int f)] := hl
  refine lv_aload_n hx hb dX3_stamp_0 rfl (lv_at hl 0 rfl) ?_
  refine lv_iload_n hx hb dX3_stamp_1 rfl (lv_at hl 1 rfl) ?_
  refine c_callr (rest := []) K hP hS (c_X3_receiptNumbered_ok l hfl Z ad hinj g rc i (by assumption) (by assumption) (by assumption)) ok_X3_94 rfl ⟨Nat.le_of_ble_eq_true rfl, Nat.le_of_ble_eq_true rfl⟩ rfl hl.1 (Nat.le_of_ble_eq_true rfl) ⟨Nat.le_of_ble_eq_true rfl, Nat.le_of_ble_eq_true rfl⟩ dX3_stamp_2 (fun H locs hP hS => ?_)
  refine lv_astore_n (lv' := [(3, .ref (ad (5 + i))), (0, .ref (ad 0)), (1, .int (nI i)), (2, .int f)]) hx hb dX3_stamp_5 rfl hl (by decide) rfl (fun ls hl => ?_)
  refine lv_aload_n hx hb dX3_stamp_6 rfl (lv_at hl 1 rfl) ?_
  refine lv_iload_n hx hb dX3_stamp_7 rfl (lv_at hl 3 rfl) ?_
  exact c_callx (rest := []) K hlocks hout hP hS (c_X3_ferryNumbered_x l hfl Z ad hinj g fc f (by assumption) (by assumption) (by assumption)) ok_X3_116 rfl ⟨Nat.le_of_ble_eq_true rfl, Nat.le_of_ble_eq_true rfl⟩ rfl hl.1 (Nat.le_of_ble_eq_true rfl) ⟨Nat.le_of_ble_eq_true rfl, Nat.le_of_ble_eq_true rfl⟩ dX3_stamp_8 (Nat.le_of_ble_eq_true rfl) (Nat.le_of_ble_eq_true rfl) (fun E hE => hE)

set_option maxHeartbeats 4000000 in
set_option maxRecDepth 100000 in
theorem c_X3_stamp_x2a (l : Launch) (hfl : l.stackTraces = false) (Z : fx_Z) (ad : Nat → Nat) (hinj : fx_inj 115 ad) (g : St) (rc : Nat) (fc : Nat) (i : Nat) (f : Nat) (hi : i < rc) (hrc : g 0 0 = nI rc) (hr6 : rc ≤ 60) (hff : f < fc) (hfc : g 0 1 = nI fc) (hf2 : fc ≤ 20) (h7 : ¬ g 7 i = 0) : fx_C l Z yX3_stamp cX3_stamp 5 (some .int) 7 103 1 6 115 ad (cF ad Z.2.1) g [.ref (ad 0), .int (nI i), .int (nI f)] (fun _ _ => False) (fun E => E = "java/lang/IllegalStateException") := by
  intro sz
  refine vx_ofW (cc := cX3_stamp) (maxL := 5) (ret := (some .int)) (by decide) rfl ?_
  intro p e s m args below meth c s₁ B hml hout hv
  obtain ⟨rfl, hsz, hP, hE, hSt⟩ := hv
  subst hsz
  have hx := B.exec
  have hb := B.bytes
  have hr := B.returns
  have hown : s.vm.findClass RX3 = some m.cls := findClass_of_methodNamed B.named
  have hlocks := B.notSynchronized
  have K : c_K p l s m ([.ref (ad 0), .int (nI i), .int (nI f)] : List Value).toArray c cX3_stamp 5 Z ad := ⟨hx, hb, hml, hown, fun w hw => atoms_spec (ws := fx_l yX3_stamp cX3_stamp 5 (some .int)) B.pre w (List.mem_cons_of_mem _ hw), hE, hSt, hinj, hfl⟩
  have hS : va_S (fx_A 115 ad s.heap.size) s.heap s.heap [] := va_S.rf
  have hl := lv_entry ([.ref (ad 0), .int (nI i), .int (nI f)]) (n := 5) (Nat.le_of_ble_eq_true rfl)
  rw [lg_entry_eq]
  generalize (lg_sl ([.ref (ad 0), .int (nI i), .int (nI f)]) ++ List.replicate (5 - (lg_sl ([.ref (ad 0), .int (nI i), .int (nI f)])).length) Slot.unset).toArray = ls at hl ⊢
  have hl : lv_has ls 5 [(0, .ref (ad 0)), (1, .int (nI i)), (2, .int (nI f))] := hl
  refine lv_aload_n hx hb dX3_stamp_0 rfl (lv_at hl 0 rfl) ?_
  refine lv_iload_n hx hb dX3_stamp_1 rfl (lv_at hl 1 rfl) ?_
  refine c_callr (rest := []) K hP hS (c_X3_receiptNumbered_ok l hfl Z ad hinj g rc i (by assumption) (by assumption) (by assumption)) ok_X3_94 rfl ⟨Nat.le_of_ble_eq_true rfl, Nat.le_of_ble_eq_true rfl⟩ rfl hl.1 (Nat.le_of_ble_eq_true rfl) ⟨Nat.le_of_ble_eq_true rfl, Nat.le_of_ble_eq_true rfl⟩ dX3_stamp_2 (fun H locs hP hS => ?_)
  refine lv_astore_n (lv' := [(3, .ref (ad (5 + i))), (0, .ref (ad 0)), (1, .int (nI i)), (2, .int (nI f))]) hx hb dX3_stamp_5 rfl hl (by decide) rfl (fun ls hl => ?_)
  refine lv_aload_n hx hb dX3_stamp_6 rfl (lv_at hl 1 rfl) ?_
  refine lv_iload_n hx hb dX3_stamp_7 rfl (lv_at hl 3 rfl) ?_
  refine c_callr (rest := []) K hP hS (c_X3_ferryNumbered_ok l hfl Z ad hinj g fc f (by assumption) (by assumption) (by assumption)) ok_X3_116 rfl ⟨Nat.le_of_ble_eq_true rfl, Nat.le_of_ble_eq_true rfl⟩ rfl hl.1 (Nat.le_of_ble_eq_true rfl) ⟨Nat.le_of_ble_eq_true rfl, Nat.le_of_ble_eq_true rfl⟩ dX3_stamp_8 (fun H locs hP hS => ?_)
  refine lv_astore (lv' := [(4, .ref (ad (65 + f))), (3, .ref (ad (5 + i))), (0, .ref (ad 0)), (1, .int (nI i)), (2, .int (nI f))]) hx hb dX3_stamp_11 hl (by decide) rfl (fun ls hl => ?_)
  refine lv_aload_n hx hb dX3_stamp_13 rfl (lv_at hl 2 rfl) ?_
  refine lv_aload_n hx hb dX3_stamp_14 rfl (lv_at hl 1 rfl) ?_
  exact c_callx (rest := []) K hlocks hout hP hS (c_X3_requireOpen_x l hfl Z ad hinj g i (by omega) (by assumption)) ok_X3_98 rfl ⟨Nat.le_of_ble_eq_true rfl, Nat.le_of_ble_eq_true rfl⟩ rfl hl.1 (Nat.le_of_ble_eq_true rfl) ⟨Nat.le_of_ble_eq_true rfl, Nat.le_of_ble_eq_true rfl⟩ dX3_stamp_15 (Nat.le_of_ble_eq_true rfl) (Nat.le_of_ble_eq_true rfl) (fun E hE => hE)

set_option maxHeartbeats 4000000 in
set_option maxRecDepth 100000 in
theorem c_X3_stamp_x2b (l : Launch) (hfl : l.stackTraces = false) (Z : fx_Z) (ad : Nat → Nat) (hinj : fx_inj 115 ad) (g : St) (rc : Nat) (fc : Nat) (i : Nat) (f : Nat) (hi : i < rc) (hrc : g 0 0 = nI rc) (hr6 : rc ≤ 60) (hff : f < fc) (hfc : g 0 1 = nI fc) (hf2 : fc ≤ 20) (h7 : g 7 i = 0) (h4 : ¬ 50 ≤ g 4 i) : fx_C l Z yX3_stamp cX3_stamp 5 (some .int) 6 82 1 6 115 ad (cF ad Z.2.1) g [.ref (ad 0), .int (nI i), .int (nI f)] (fun _ _ => False) (fun E => E = "java/lang/IllegalStateException") := by
  intro sz
  refine vx_ofW (cc := cX3_stamp) (maxL := 5) (ret := (some .int)) (by decide) rfl ?_
  intro p e s m args below meth c s₁ B hml hout hv
  obtain ⟨rfl, hsz, hP, hE, hSt⟩ := hv
  subst hsz
  have hx := B.exec
  have hb := B.bytes
  have hr := B.returns
  have hown : s.vm.findClass RX3 = some m.cls := findClass_of_methodNamed B.named
  have hlocks := B.notSynchronized
  have K : c_K p l s m ([.ref (ad 0), .int (nI i), .int (nI f)] : List Value).toArray c cX3_stamp 5 Z ad := ⟨hx, hb, hml, hown, fun w hw => atoms_spec (ws := fx_l yX3_stamp cX3_stamp 5 (some .int)) B.pre w (List.mem_cons_of_mem _ hw), hE, hSt, hinj, hfl⟩
  have hS : va_S (fx_A 115 ad s.heap.size) s.heap s.heap [] := va_S.rf
  have hl := lv_entry ([.ref (ad 0), .int (nI i), .int (nI f)]) (n := 5) (Nat.le_of_ble_eq_true rfl)
  rw [lg_entry_eq]
  generalize (lg_sl ([.ref (ad 0), .int (nI i), .int (nI f)]) ++ List.replicate (5 - (lg_sl ([.ref (ad 0), .int (nI i), .int (nI f)])).length) Slot.unset).toArray = ls at hl ⊢
  have hl : lv_has ls 5 [(0, .ref (ad 0)), (1, .int (nI i)), (2, .int (nI f))] := hl
  refine lv_aload_n hx hb dX3_stamp_0 rfl (lv_at hl 0 rfl) ?_
  refine lv_iload_n hx hb dX3_stamp_1 rfl (lv_at hl 1 rfl) ?_
  refine c_callr (rest := []) K hP hS (c_X3_receiptNumbered_ok l hfl Z ad hinj g rc i (by assumption) (by assumption) (by assumption)) ok_X3_94 rfl ⟨Nat.le_of_ble_eq_true rfl, Nat.le_of_ble_eq_true rfl⟩ rfl hl.1 (Nat.le_of_ble_eq_true rfl) ⟨Nat.le_of_ble_eq_true rfl, Nat.le_of_ble_eq_true rfl⟩ dX3_stamp_2 (fun H locs hP hS => ?_)
  refine lv_astore_n (lv' := [(3, .ref (ad (5 + i))), (0, .ref (ad 0)), (1, .int (nI i)), (2, .int (nI f))]) hx hb dX3_stamp_5 rfl hl (by decide) rfl (fun ls hl => ?_)
  refine lv_aload_n hx hb dX3_stamp_6 rfl (lv_at hl 1 rfl) ?_
  refine lv_iload_n hx hb dX3_stamp_7 rfl (lv_at hl 3 rfl) ?_
  refine c_callr (rest := []) K hP hS (c_X3_ferryNumbered_ok l hfl Z ad hinj g fc f (by assumption) (by assumption) (by assumption)) ok_X3_116 rfl ⟨Nat.le_of_ble_eq_true rfl, Nat.le_of_ble_eq_true rfl⟩ rfl hl.1 (Nat.le_of_ble_eq_true rfl) ⟨Nat.le_of_ble_eq_true rfl, Nat.le_of_ble_eq_true rfl⟩ dX3_stamp_8 (fun H locs hP hS => ?_)
  refine lv_astore (lv' := [(4, .ref (ad (65 + f))), (3, .ref (ad (5 + i))), (0, .ref (ad 0)), (1, .int (nI i)), (2, .int (nI f))]) hx hb dX3_stamp_11 hl (by decide) rfl (fun ls hl => ?_)
  refine lv_aload_n hx hb dX3_stamp_13 rfl (lv_at hl 2 rfl) ?_
  refine lv_aload_n hx hb dX3_stamp_14 rfl (lv_at hl 1 rfl) ?_
  refine c_callv (rest := []) K hP hS (c_X3_requireOpen_ok l hfl Z ad hinj g i (by omega) (by assumption)) ok_X3_98 rfl ⟨Nat.le_of_ble_eq_true rfl, Nat.le_of_ble_eq_true rfl⟩ rfl hl.1 (Nat.le_of_ble_eq_true rfl) ⟨Nat.le_of_ble_eq_true rfl, Nat.le_of_ble_eq_true rfl⟩ dX3_stamp_15 (fun H locs hP hS => ?_)
  refine lv_aload_n hx hb dX3_stamp_18 rfl (lv_at hl 1 rfl) ?_
  refine cgR_price K hP (by omega) dX3_stamp_19 ?_
  refine lv_bipush (v := 50) hx hb dX3_stamp_22 (by decide) ?_
  refine lv_icmp_ge (tgt := 37) hx hb dX3_stamp_24 (by decide) (fun c1 => absurd c1 h4) (fun _ => ?_)
  exact c_throw (text := "the price is too low for a stamp") K hlocks hout hP hS hl.1 xw_ISE xi_ISE (by decide) xa_ISE (by decide) dX3_stamp_27 dX3_stamp_30 dX3_stamp_31 dX3_stamp_33 dX3_stamp_36 (Nat.le_of_ble_eq_true rfl) (Nat.le_of_ble_eq_true rfl) (Nat.le_of_ble_eq_true rfl) (Nat.le_of_ble_eq_true rfl) (Nat.le_of_ble_eq_true rfl) (Nat.le_of_ble_eq_true rfl) rfl

set_option maxHeartbeats 4000000 in
set_option maxRecDepth 100000 in
theorem c_X3_stamp_x2c (l : Launch) (hfl : l.stackTraces = false) (Z : fx_Z) (ad : Nat → Nat) (hinj : fx_inj 115 ad) (g : St) (rc : Nat) (fc : Nat) (t : Nat) (i : Nat) (f : Nat) (hi : i < rc) (hrc : g 0 0 = nI rc) (hr6 : rc ≤ 60) (hff : f < fc) (hfc : g 0 1 = nI fc) (hf2 : fc ≤ 20) (ht : g 3 i = nI t) (ht9 : t < 10) (h7 : g 7 i = 0) (h4 : 50 ≤ g 4 i) (hp : g (30 + f) t = 0) : fx_C l Z yX3_stamp cX3_stamp 5 (some .int) 7 104 1 6 115 ad (cF ad Z.2.1) g [.ref (ad 0), .int (nI i), .int (nI f)] (fun _ _ => False) (fun E => E = "java/lang/IllegalStateException") := by
  intro sz
  refine vx_ofW (cc := cX3_stamp) (maxL := 5) (ret := (some .int)) (by decide) rfl ?_
  intro p e s m args below meth c s₁ B hml hout hv
  obtain ⟨rfl, hsz, hP, hE, hSt⟩ := hv
  subst hsz
  have hx := B.exec
  have hb := B.bytes
  have hr := B.returns
  have hown : s.vm.findClass RX3 = some m.cls := findClass_of_methodNamed B.named
  have hlocks := B.notSynchronized
  have K : c_K p l s m ([.ref (ad 0), .int (nI i), .int (nI f)] : List Value).toArray c cX3_stamp 5 Z ad := ⟨hx, hb, hml, hown, fun w hw => atoms_spec (ws := fx_l yX3_stamp cX3_stamp 5 (some .int)) B.pre w (List.mem_cons_of_mem _ hw), hE, hSt, hinj, hfl⟩
  have hS : va_S (fx_A 115 ad s.heap.size) s.heap s.heap [] := va_S.rf
  have hl := lv_entry ([.ref (ad 0), .int (nI i), .int (nI f)]) (n := 5) (Nat.le_of_ble_eq_true rfl)
  rw [lg_entry_eq]
  generalize (lg_sl ([.ref (ad 0), .int (nI i), .int (nI f)]) ++ List.replicate (5 - (lg_sl ([.ref (ad 0), .int (nI i), .int (nI f)])).length) Slot.unset).toArray = ls at hl ⊢
  have hl : lv_has ls 5 [(0, .ref (ad 0)), (1, .int (nI i)), (2, .int (nI f))] := hl
  refine lv_aload_n hx hb dX3_stamp_0 rfl (lv_at hl 0 rfl) ?_
  refine lv_iload_n hx hb dX3_stamp_1 rfl (lv_at hl 1 rfl) ?_
  refine c_callr (rest := []) K hP hS (c_X3_receiptNumbered_ok l hfl Z ad hinj g rc i (by assumption) (by assumption) (by assumption)) ok_X3_94 rfl ⟨Nat.le_of_ble_eq_true rfl, Nat.le_of_ble_eq_true rfl⟩ rfl hl.1 (Nat.le_of_ble_eq_true rfl) ⟨Nat.le_of_ble_eq_true rfl, Nat.le_of_ble_eq_true rfl⟩ dX3_stamp_2 (fun H locs hP hS => ?_)
  refine lv_astore_n (lv' := [(3, .ref (ad (5 + i))), (0, .ref (ad 0)), (1, .int (nI i)), (2, .int (nI f))]) hx hb dX3_stamp_5 rfl hl (by decide) rfl (fun ls hl => ?_)
  refine lv_aload_n hx hb dX3_stamp_6 rfl (lv_at hl 1 rfl) ?_
  refine lv_iload_n hx hb dX3_stamp_7 rfl (lv_at hl 3 rfl) ?_
  refine c_callr (rest := []) K hP hS (c_X3_ferryNumbered_ok l hfl Z ad hinj g fc f (by assumption) (by assumption) (by assumption)) ok_X3_116 rfl ⟨Nat.le_of_ble_eq_true rfl, Nat.le_of_ble_eq_true rfl⟩ rfl hl.1 (Nat.le_of_ble_eq_true rfl) ⟨Nat.le_of_ble_eq_true rfl, Nat.le_of_ble_eq_true rfl⟩ dX3_stamp_8 (fun H locs hP hS => ?_)
  refine lv_astore (lv' := [(4, .ref (ad (65 + f))), (3, .ref (ad (5 + i))), (0, .ref (ad 0)), (1, .int (nI i)), (2, .int (nI f))]) hx hb dX3_stamp_11 hl (by decide) rfl (fun ls hl => ?_)
  refine lv_aload_n hx hb dX3_stamp_13 rfl (lv_at hl 2 rfl) ?_
  refine lv_aload_n hx hb dX3_stamp_14 rfl (lv_at hl 1 rfl) ?_
  refine c_callv (rest := []) K hP hS (c_X3_requireOpen_ok l hfl Z ad hinj g i (by omega) (by assumption)) ok_X3_98 rfl ⟨Nat.le_of_ble_eq_true rfl, Nat.le_of_ble_eq_true rfl⟩ rfl hl.1 (Nat.le_of_ble_eq_true rfl) ⟨Nat.le_of_ble_eq_true rfl, Nat.le_of_ble_eq_true rfl⟩ dX3_stamp_15 (fun H locs hP hS => ?_)
  refine lv_aload_n hx hb dX3_stamp_18 rfl (lv_at hl 1 rfl) ?_
  refine cgR_price K hP (by omega) dX3_stamp_19 ?_
  refine lv_bipush (v := 50) hx hb dX3_stamp_22 (by decide) ?_
  refine lv_icmp_ge (tgt := 37) hx hb dX3_stamp_24 (by decide) (fun _ => ?_) (fun c1 => absurd h4 c1)
  refine lv_aload_n hx hb dX3_stamp_37 rfl (lv_at hl 2 rfl) ?_
  refine lv_aload hx hb dX3_stamp_38 (lv_at hl 0 rfl) ?_
  refine lv_aload_n hx hb dX3_stamp_40 rfl (lv_at hl 1 rfl) ?_
  refine cgR_traveller K hP (by omega) dX3_stamp_41 ?_
  rw [ht]
  exact c_callx (rest := []) K hlocks hout hP hS (c_X3_requireSeat_x l hfl Z ad hinj g f t (by omega) (by omega) (by assumption)) ok_X3_138 rfl ⟨Nat.le_of_ble_eq_true rfl, Nat.le_of_ble_eq_true rfl⟩ rfl hl.1 (Nat.le_of_ble_eq_true rfl) ⟨Nat.le_of_ble_eq_true rfl, Nat.le_of_ble_eq_true rfl⟩ dX3_stamp_44 (Nat.le_of_ble_eq_true rfl) (Nat.le_of_ble_eq_true rfl) (fun E hE => hE)

set_option maxHeartbeats 4000000 in
set_option maxRecDepth 100000 in
theorem c_X3_stamp_x2d (l : Launch) (hfl : l.stackTraces = false) (Z : fx_Z) (ad : Nat → Nat) (hinj : fx_inj 115 ad) (g : St) (rc : Nat) (fc : Nat) (t : Nat) (i : Nat) (f : Nat) (hi : i < rc) (hrc : g 0 0 = nI rc) (hr6 : rc ≤ 60) (hff : f < fc) (hfc : g 0 1 = nI fc) (hf2 : fc ≤ 20) (ht : g 3 i = nI t) (ht9 : t < 10) (h7 : g 7 i = 0) (h4 : 50 ≤ g 4 i) (hp : ¬ g (30 + f) t = 0) (hns : ¬ g 0 2 < g 11 f) : fx_C l Z yX3_stamp cX3_stamp 5 (some .int) 8 125 1 6 115 ad (cF ad Z.2.1) g [.ref (ad 0), .int (nI i), .int (nI f)] (fun _ _ => False) (fun E => E = "java/lang/IllegalStateException") := by
  intro sz
  refine vx_ofW (cc := cX3_stamp) (maxL := 5) (ret := (some .int)) (by decide) rfl ?_
  intro p e s m args below meth c s₁ B hml hout hv
  obtain ⟨rfl, hsz, hP, hE, hSt⟩ := hv
  subst hsz
  have hx := B.exec
  have hb := B.bytes
  have hr := B.returns
  have hown : s.vm.findClass RX3 = some m.cls := findClass_of_methodNamed B.named
  have hlocks := B.notSynchronized
  have K : c_K p l s m ([.ref (ad 0), .int (nI i), .int (nI f)] : List Value).toArray c cX3_stamp 5 Z ad := ⟨hx, hb, hml, hown, fun w hw => atoms_spec (ws := fx_l yX3_stamp cX3_stamp 5 (some .int)) B.pre w (List.mem_cons_of_mem _ hw), hE, hSt, hinj, hfl⟩
  have hS : va_S (fx_A 115 ad s.heap.size) s.heap s.heap [] := va_S.rf
  have hl := lv_entry ([.ref (ad 0), .int (nI i), .int (nI f)]) (n := 5) (Nat.le_of_ble_eq_true rfl)
  rw [lg_entry_eq]
  generalize (lg_sl ([.ref (ad 0), .int (nI i), .int (nI f)]) ++ List.replicate (5 - (lg_sl ([.ref (ad 0), .int (nI i), .int (nI f)])).length) Slot.unset).toArray = ls at hl ⊢
  have hl : lv_has ls 5 [(0, .ref (ad 0)), (1, .int (nI i)), (2, .int (nI f))] := hl
  refine lv_aload_n hx hb dX3_stamp_0 rfl (lv_at hl 0 rfl) ?_
  refine lv_iload_n hx hb dX3_stamp_1 rfl (lv_at hl 1 rfl) ?_
  refine c_callr (rest := []) K hP hS (c_X3_receiptNumbered_ok l hfl Z ad hinj g rc i (by assumption) (by assumption) (by assumption)) ok_X3_94 rfl ⟨Nat.le_of_ble_eq_true rfl, Nat.le_of_ble_eq_true rfl⟩ rfl hl.1 (Nat.le_of_ble_eq_true rfl) ⟨Nat.le_of_ble_eq_true rfl, Nat.le_of_ble_eq_true rfl⟩ dX3_stamp_2 (fun H locs hP hS => ?_)
  refine lv_astore_n (lv' := [(3, .ref (ad (5 + i))), (0, .ref (ad 0)), (1, .int (nI i)), (2, .int (nI f))]) hx hb dX3_stamp_5 rfl hl (by decide) rfl (fun ls hl => ?_)
  refine lv_aload_n hx hb dX3_stamp_6 rfl (lv_at hl 1 rfl) ?_
  refine lv_iload_n hx hb dX3_stamp_7 rfl (lv_at hl 3 rfl) ?_
  refine c_callr (rest := []) K hP hS (c_X3_ferryNumbered_ok l hfl Z ad hinj g fc f (by assumption) (by assumption) (by assumption)) ok_X3_116 rfl ⟨Nat.le_of_ble_eq_true rfl, Nat.le_of_ble_eq_true rfl⟩ rfl hl.1 (Nat.le_of_ble_eq_true rfl) ⟨Nat.le_of_ble_eq_true rfl, Nat.le_of_ble_eq_true rfl⟩ dX3_stamp_8 (fun H locs hP hS => ?_)
  refine lv_astore (lv' := [(4, .ref (ad (65 + f))), (3, .ref (ad (5 + i))), (0, .ref (ad 0)), (1, .int (nI i)), (2, .int (nI f))]) hx hb dX3_stamp_11 hl (by decide) rfl (fun ls hl => ?_)
  refine lv_aload_n hx hb dX3_stamp_13 rfl (lv_at hl 2 rfl) ?_
  refine lv_aload_n hx hb dX3_stamp_14 rfl (lv_at hl 1 rfl) ?_
  refine c_callv (rest := []) K hP hS (c_X3_requireOpen_ok l hfl Z ad hinj g i (by omega) (by assumption)) ok_X3_98 rfl ⟨Nat.le_of_ble_eq_true rfl, Nat.le_of_ble_eq_true rfl⟩ rfl hl.1 (Nat.le_of_ble_eq_true rfl) ⟨Nat.le_of_ble_eq_true rfl, Nat.le_of_ble_eq_true rfl⟩ dX3_stamp_15 (fun H locs hP hS => ?_)
  refine lv_aload_n hx hb dX3_stamp_18 rfl (lv_at hl 1 rfl) ?_
  refine cgR_price K hP (by omega) dX3_stamp_19 ?_
  refine lv_bipush (v := 50) hx hb dX3_stamp_22 (by decide) ?_
  refine lv_icmp_ge (tgt := 37) hx hb dX3_stamp_24 (by decide) (fun _ => ?_) (fun c1 => absurd h4 c1)
  refine lv_aload_n hx hb dX3_stamp_37 rfl (lv_at hl 2 rfl) ?_
  refine lv_aload hx hb dX3_stamp_38 (lv_at hl 0 rfl) ?_
  refine lv_aload_n hx hb dX3_stamp_40 rfl (lv_at hl 1 rfl) ?_
  refine cgR_traveller K hP (by omega) dX3_stamp_41 ?_
  rw [ht]
  refine c_callv (rest := []) K hP hS (c_X3_requireSeat_ok l hfl Z ad hinj g f t (by omega) (by omega) (by assumption)) ok_X3_138 rfl ⟨Nat.le_of_ble_eq_true rfl, Nat.le_of_ble_eq_true rfl⟩ rfl hl.1 (Nat.le_of_ble_eq_true rfl) ⟨Nat.le_of_ble_eq_true rfl, Nat.le_of_ble_eq_true rfl⟩ dX3_stamp_44 (fun H locs hP hS => ?_)
  refine lv_aload_n hx hb dX3_stamp_47 rfl (lv_at hl 2 rfl) ?_
  refine lv_aload hx hb dX3_stamp_48 (lv_at hl 0 rfl) ?_
  refine lv_bipush (v := 12) hx hb dX3_stamp_50 (by decide) ?_
  exact c_callx (rest := []) K hlocks hout hP hS (c_X3_requireWithin_x1 l hfl Z ad hinj g f 12 (by omega) (by assumption)) ok_X3_146 rfl ⟨Nat.le_of_ble_eq_true rfl, Nat.le_of_ble_eq_true rfl⟩ rfl hl.1 (Nat.le_of_ble_eq_true rfl) ⟨Nat.le_of_ble_eq_true rfl, Nat.le_of_ble_eq_true rfl⟩ dX3_stamp_52 (Nat.le_of_ble_eq_true rfl) (Nat.le_of_ble_eq_true rfl) (fun E hE => hE)

set_option maxHeartbeats 4000000 in
set_option maxRecDepth 100000 in
theorem c_X3_stamp_x2e (l : Launch) (hfl : l.stackTraces = false) (Z : fx_Z) (ad : Nat → Nat) (hinj : fx_inj 115 ad) (g : St) (rc : Nat) (fc : Nat) (t : Nat) (i : Nat) (f : Nat) (hi : i < rc) (hrc : g 0 0 = nI rc) (hr6 : rc ≤ 60) (hff : f < fc) (hfc : g 0 1 = nI fc) (hf2 : fc ≤ 20) (ht : g 3 i = nI t) (ht9 : t < 10) (h7 : g 7 i = 0) (h4 : 50 ≤ g 4 i) (hp : ¬ g (30 + f) t = 0) (hns : g 0 2 < g 11 f) (hw : ¬ g 11 f - 12 ≤ g 0 2) : fx_C l Z yX3_stamp cX3_stamp 5 (some .int) 7 104 1 6 115 ad (cF ad Z.2.1) g [.ref (ad 0), .int (nI i), .int (nI f)] (fun _ _ => False) (fun E => E = "java/lang/IllegalStateException") := by
  intro sz
  refine vx_ofW (cc := cX3_stamp) (maxL := 5) (ret := (some .int)) (by decide) rfl ?_
  intro p e s m args below meth c s₁ B hml hout hv
  obtain ⟨rfl, hsz, hP, hE, hSt⟩ := hv
  subst hsz
  have hx := B.exec
  have hb := B.bytes
  have hr := B.returns
  have hown : s.vm.findClass RX3 = some m.cls := findClass_of_methodNamed B.named
  have hlocks := B.notSynchronized
  have K : c_K p l s m ([.ref (ad 0), .int (nI i), .int (nI f)] : List Value).toArray c cX3_stamp 5 Z ad := ⟨hx, hb, hml, hown, fun w hw => atoms_spec (ws := fx_l yX3_stamp cX3_stamp 5 (some .int)) B.pre w (List.mem_cons_of_mem _ hw), hE, hSt, hinj, hfl⟩
  have hS : va_S (fx_A 115 ad s.heap.size) s.heap s.heap [] := va_S.rf
  have hl := lv_entry ([.ref (ad 0), .int (nI i), .int (nI f)]) (n := 5) (Nat.le_of_ble_eq_true rfl)
  rw [lg_entry_eq]
  generalize (lg_sl ([.ref (ad 0), .int (nI i), .int (nI f)]) ++ List.replicate (5 - (lg_sl ([.ref (ad 0), .int (nI i), .int (nI f)])).length) Slot.unset).toArray = ls at hl ⊢
  have hl : lv_has ls 5 [(0, .ref (ad 0)), (1, .int (nI i)), (2, .int (nI f))] := hl
  refine lv_aload_n hx hb dX3_stamp_0 rfl (lv_at hl 0 rfl) ?_
  refine lv_iload_n hx hb dX3_stamp_1 rfl (lv_at hl 1 rfl) ?_
  refine c_callr (rest := []) K hP hS (c_X3_receiptNumbered_ok l hfl Z ad hinj g rc i (by assumption) (by assumption) (by assumption)) ok_X3_94 rfl ⟨Nat.le_of_ble_eq_true rfl, Nat.le_of_ble_eq_true rfl⟩ rfl hl.1 (Nat.le_of_ble_eq_true rfl) ⟨Nat.le_of_ble_eq_true rfl, Nat.le_of_ble_eq_true rfl⟩ dX3_stamp_2 (fun H locs hP hS => ?_)
  refine lv_astore_n (lv' := [(3, .ref (ad (5 + i))), (0, .ref (ad 0)), (1, .int (nI i)), (2, .int (nI f))]) hx hb dX3_stamp_5 rfl hl (by decide) rfl (fun ls hl => ?_)
  refine lv_aload_n hx hb dX3_stamp_6 rfl (lv_at hl 1 rfl) ?_
  refine lv_iload_n hx hb dX3_stamp_7 rfl (lv_at hl 3 rfl) ?_
  refine c_callr (rest := []) K hP hS (c_X3_ferryNumbered_ok l hfl Z ad hinj g fc f (by assumption) (by assumption) (by assumption)) ok_X3_116 rfl ⟨Nat.le_of_ble_eq_true rfl, Nat.le_of_ble_eq_true rfl⟩ rfl hl.1 (Nat.le_of_ble_eq_true rfl) ⟨Nat.le_of_ble_eq_true rfl, Nat.le_of_ble_eq_true rfl⟩ dX3_stamp_8 (fun H locs hP hS => ?_)
  refine lv_astore (lv' := [(4, .ref (ad (65 + f))), (3, .ref (ad (5 + i))), (0, .ref (ad 0)), (1, .int (nI i)), (2, .int (nI f))]) hx hb dX3_stamp_11 hl (by decide) rfl (fun ls hl => ?_)
  refine lv_aload_n hx hb dX3_stamp_13 rfl (lv_at hl 2 rfl) ?_
  refine lv_aload_n hx hb dX3_stamp_14 rfl (lv_at hl 1 rfl) ?_
  refine c_callv (rest := []) K hP hS (c_X3_requireOpen_ok l hfl Z ad hinj g i (by omega) (by assumption)) ok_X3_98 rfl ⟨Nat.le_of_ble_eq_true rfl, Nat.le_of_ble_eq_true rfl⟩ rfl hl.1 (Nat.le_of_ble_eq_true rfl) ⟨Nat.le_of_ble_eq_true rfl, Nat.le_of_ble_eq_true rfl⟩ dX3_stamp_15 (fun H locs hP hS => ?_)
  refine lv_aload_n hx hb dX3_stamp_18 rfl (lv_at hl 1 rfl) ?_
  refine cgR_price K hP (by omega) dX3_stamp_19 ?_
  refine lv_bipush (v := 50) hx hb dX3_stamp_22 (by decide) ?_
  refine lv_icmp_ge (tgt := 37) hx hb dX3_stamp_24 (by decide) (fun _ => ?_) (fun c1 => absurd h4 c1)
  refine lv_aload_n hx hb dX3_stamp_37 rfl (lv_at hl 2 rfl) ?_
  refine lv_aload hx hb dX3_stamp_38 (lv_at hl 0 rfl) ?_
  refine lv_aload_n hx hb dX3_stamp_40 rfl (lv_at hl 1 rfl) ?_
  refine cgR_traveller K hP (by omega) dX3_stamp_41 ?_
  rw [ht]
  refine c_callv (rest := []) K hP hS (c_X3_requireSeat_ok l hfl Z ad hinj g f t (by omega) (by omega) (by assumption)) ok_X3_138 rfl ⟨Nat.le_of_ble_eq_true rfl, Nat.le_of_ble_eq_true rfl⟩ rfl hl.1 (Nat.le_of_ble_eq_true rfl) ⟨Nat.le_of_ble_eq_true rfl, Nat.le_of_ble_eq_true rfl⟩ dX3_stamp_44 (fun H locs hP hS => ?_)
  refine lv_aload_n hx hb dX3_stamp_47 rfl (lv_at hl 2 rfl) ?_
  refine lv_aload hx hb dX3_stamp_48 (lv_at hl 0 rfl) ?_
  refine lv_bipush (v := 12) hx hb dX3_stamp_50 (by decide) ?_
  exact c_callx (rest := []) K hlocks hout hP hS (c_X3_requireWithin_x2 l hfl Z ad hinj g f 12 (by omega) (by assumption) (by assumption)) ok_X3_146 rfl ⟨Nat.le_of_ble_eq_true rfl, Nat.le_of_ble_eq_true rfl⟩ rfl hl.1 (Nat.le_of_ble_eq_true rfl) ⟨Nat.le_of_ble_eq_true rfl, Nat.le_of_ble_eq_true rfl⟩ dX3_stamp_52 (Nat.le_of_ble_eq_true rfl) (Nat.le_of_ble_eq_true rfl) (fun E hE => hE)

set_option maxHeartbeats 4000000 in
set_option maxRecDepth 100000 in
theorem c_X3_check_okt (l : Launch) (hfl : l.stackTraces = false) (Z : fx_Z) (ad : Nat → Nat) (hinj : fx_inj 115 ad) (g : St) (rc : Nat) (i : Nat) (b : Int32) (hi : i < rc) (hrc : g 0 0 = nI rc) (hr6 : rc ≤ 60) (h7 : g 7 i = 1) (hb1 : ¬ b = 0) : fx_C l Z yX3_check cX3_check 4 (some .int) 1 21 0 0 115 ad (cF ad Z.2.1) g [.ref (ad 0), .int (nI i), .int b] (pI (g 7 i) g) (fun _ => False) := by
  intro sz
  refine vx_ofW (cc := cX3_check) (maxL := 4) (ret := (some .int)) (by decide) rfl ?_
  intro p e s m args below meth c s₁ B hml hout hv
  obtain ⟨rfl, hsz, hP, hE, hSt⟩ := hv
  subst hsz
  have hx := B.exec
  have hb := B.bytes
  have hr := B.returns
  have hown : s.vm.findClass RX3 = some m.cls := findClass_of_methodNamed B.named
  have hlocks := B.notSynchronized
  have K : c_K p l s m ([.ref (ad 0), .int (nI i), .int b] : List Value).toArray c cX3_check 4 Z ad := ⟨hx, hb, hml, hown, fun w hw => atoms_spec (ws := fx_l yX3_check cX3_check 4 (some .int)) B.pre w (List.mem_cons_of_mem _ hw), hE, hSt, hinj, hfl⟩
  have hS : va_S (fx_A 115 ad s.heap.size) s.heap s.heap [] := va_S.rf
  have hl := lv_entry ([.ref (ad 0), .int (nI i), .int b]) (n := 4) (Nat.le_of_ble_eq_true rfl)
  rw [lg_entry_eq]
  generalize (lg_sl ([.ref (ad 0), .int (nI i), .int b]) ++ List.replicate (4 - (lg_sl ([.ref (ad 0), .int (nI i), .int b])).length) Slot.unset).toArray = ls at hl ⊢
  have hl : lv_has ls 4 [(0, .ref (ad 0)), (1, .int (nI i)), (2, .int b)] := hl
  refine lv_aload_n hx hb dX3_check_0 rfl (lv_at hl 0 rfl) ?_
  refine lv_iload_n hx hb dX3_check_1 rfl (lv_at hl 1 rfl) ?_
  refine c_callr (rest := []) K hP hS (c_X3_receiptNumbered_ok l hfl Z ad hinj g rc i (by assumption) (by assumption) (by assumption)) ok_X3_94 rfl ⟨Nat.le_of_ble_eq_true rfl, Nat.le_of_ble_eq_true rfl⟩ rfl hl.1 (Nat.le_of_ble_eq_true rfl) ⟨Nat.le_of_ble_eq_true rfl, Nat.le_of_ble_eq_true rfl⟩ dX3_check_2 (fun H locs hP hS => ?_)
  refine lv_astore_n (lv' := [(3, .ref (ad (5 + i))), (0, .ref (ad 0)), (1, .int (nI i)), (2, .int b)]) hx hb dX3_check_5 rfl hl (by decide) rfl (fun ls hl => ?_)
  refine lv_aload_n hx hb dX3_check_6 rfl (lv_at hl 0 rfl) ?_
  refine cgR_state K hP (by omega) dX3_check_7 ?_
  refine lv_iconst (v := 1) hx hb dX3_check_10 (by decide) ?_
  refine lv_icmp_eq (tgt := 24) hx hb dX3_check_11 (by decide) (fun _ => ?_) (fun c1 => absurd h7 c1)
  refine lv_iload_n hx hb dX3_check_24 rfl (lv_at hl 3 rfl) ?_
  refine lv_if_ne (tgt := 52) hx hb dX3_check_25 (by decide) (fun _ => ?_) (fun c2 => absurd c2 hb1)
  refine lv_aload_n hx hb dX3_check_52 rfl (lv_at hl 0 rfl) ?_
  refine cgR_state K hP (by omega) dX3_check_53 ?_
  exact fx_reti hx hb hr hlocks hP hS (Nat.le_of_ble_eq_true rfl) (Nat.le_of_ble_eq_true rfl) dX3_check_56 ⟨rfl, rfl⟩

set_option maxHeartbeats 4000000 in
set_option maxRecDepth 100000 in
theorem c_X3_check_okf (l : Launch) (hfl : l.stackTraces = false) (Z : fx_Z) (ad : Nat → Nat) (hinj : fx_inj 115 ad) (g : St) (rc : Nat) (t : Nat) (i : Nat) (b : Int32) (hi : i < rc) (hrc : g 0 0 = nI rc) (hr6 : rc ≤ 60) (ht : g 3 i = nI t) (ht9 : t < 10) (h7 : g 7 i = 1) (hb1 : b = 0) : fx_C l Z yX3_check cX3_check 4 (some .int) 2 42 0 0 115 ad (cF ad Z.2.1) g [.ref (ad 0), .int (nI i), .int b] (pI 3 (u2 (u2 (u2 g 7 i 3) 8 i (-1)) 19 t (g 19 t + 50))) (fun _ => False) := by
  intro sz
  refine vx_ofW (cc := cX3_check) (maxL := 4) (ret := (some .int)) (by decide) rfl ?_
  intro p e s m args below meth c s₁ B hml hout hv
  obtain ⟨rfl, hsz, hP, hE, hSt⟩ := hv
  subst hsz
  have hx := B.exec
  have hb := B.bytes
  have hr := B.returns
  have hown : s.vm.findClass RX3 = some m.cls := findClass_of_methodNamed B.named
  have hlocks := B.notSynchronized
  have K : c_K p l s m ([.ref (ad 0), .int (nI i), .int b] : List Value).toArray c cX3_check 4 Z ad := ⟨hx, hb, hml, hown, fun w hw => atoms_spec (ws := fx_l yX3_check cX3_check 4 (some .int)) B.pre w (List.mem_cons_of_mem _ hw), hE, hSt, hinj, hfl⟩
  have hS : va_S (fx_A 115 ad s.heap.size) s.heap s.heap [] := va_S.rf
  have hl := lv_entry ([.ref (ad 0), .int (nI i), .int b]) (n := 4) (Nat.le_of_ble_eq_true rfl)
  rw [lg_entry_eq]
  generalize (lg_sl ([.ref (ad 0), .int (nI i), .int b]) ++ List.replicate (4 - (lg_sl ([.ref (ad 0), .int (nI i), .int b])).length) Slot.unset).toArray = ls at hl ⊢
  have hl : lv_has ls 4 [(0, .ref (ad 0)), (1, .int (nI i)), (2, .int b)] := hl
  refine lv_aload_n hx hb dX3_check_0 rfl (lv_at hl 0 rfl) ?_
  refine lv_iload_n hx hb dX3_check_1 rfl (lv_at hl 1 rfl) ?_
  refine c_callr (rest := []) K hP hS (c_X3_receiptNumbered_ok l hfl Z ad hinj g rc i (by assumption) (by assumption) (by assumption)) ok_X3_94 rfl ⟨Nat.le_of_ble_eq_true rfl, Nat.le_of_ble_eq_true rfl⟩ rfl hl.1 (Nat.le_of_ble_eq_true rfl) ⟨Nat.le_of_ble_eq_true rfl, Nat.le_of_ble_eq_true rfl⟩ dX3_check_2 (fun H locs hP hS => ?_)
  refine lv_astore_n (lv' := [(3, .ref (ad (5 + i))), (0, .ref (ad 0)), (1, .int (nI i)), (2, .int b)]) hx hb dX3_check_5 rfl hl (by decide) rfl (fun ls hl => ?_)
  refine lv_aload_n hx hb dX3_check_6 rfl (lv_at hl 0 rfl) ?_
  refine cgR_state K hP (by omega) dX3_check_7 ?_
  refine lv_iconst (v := 1) hx hb dX3_check_10 (by decide) ?_
  refine lv_icmp_eq (tgt := 24) hx hb dX3_check_11 (by decide) (fun _ => ?_) (fun c1 => absurd h7 c1)
  refine lv_iload_n hx hb dX3_check_24 rfl (lv_at hl 3 rfl) ?_
  refine lv_if_ne (tgt := 52) hx hb dX3_check_25 (by decide) (fun c2 => absurd hb1 c2) (fun _ => ?_)
  refine lv_aload_n hx hb dX3_check_28 rfl (lv_at hl 1 rfl) ?_
  refine lv_aload_n hx hb dX3_check_29 rfl (lv_at hl 0 rfl) ?_
  refine lv_iconst (v := 3) hx hb dX3_check_30 (by decide) ?_
  refine c_callv (rest := []) K hP hS (c_X3_takeStampOff l hfl Z ad hinj g i 3 (by omega)) ok_X3_163 rfl ⟨Nat.le_of_ble_eq_true rfl, Nat.le_of_ble_eq_true rfl⟩ rfl hl.1 (Nat.le_of_ble_eq_true rfl) ⟨Nat.le_of_ble_eq_true rfl, Nat.le_of_ble_eq_true rfl⟩ dX3_check_31 (fun H locs hP hS => ?_)
  obtain ⟨h3, e3⟩ : ∃ z : St, z = (u2 (u2 g 7 i 3) 8 i (-1)) := ⟨_, rfl⟩
  rw [← e3] at hP
  refine lv_aload_n hx hb dX3_check_34 rfl (lv_at hl 1 rfl) ?_
  refine lv_aload_n hx hb dX3_check_35 rfl (lv_at hl 0 rfl) ?_
  refine cgR_traveller K hP (by omega) dX3_check_36 ?_
  rw [show h3 3 i = nI t from by rw [e3, u2_off _ _ (by omega), u2_off _ _ (by omega)]; exact ht]
  refine c_callr (rest := []) K hP hS (c_X3_travellerNumbered_ok l hfl Z ad hinj h3 t (by assumption)) ok_X3_58 rfl ⟨Nat.le_of_ble_eq_true rfl, Nat.le_of_ble_eq_true rfl⟩ rfl hl.1 (Nat.le_of_ble_eq_true rfl) ⟨Nat.le_of_ble_eq_true rfl, Nat.le_of_ble_eq_true rfl⟩ dX3_check_39 (fun H locs hP hS => ?_)
  refine lv_dup hx hb dX3_check_42 rfl ?_
  refine cgT_fines K hP (by omega) dX3_check_43 ?_
  rw [show h3 19 t = g 19 t from by rw [e3, u2_off _ _ (by omega), u2_off _ _ (by omega)]]
  refine lv_bipush (v := 50) hx hb dX3_check_46 (by decide) ?_
  refine lv_iadd hx hb dX3_check_48 ?_
  refine lv_topi (fun v4 e4 => ?_)
  refine cpT_fines K hP hS (by omega) dX3_check_49 (fun h5 H locs e5 hP hS => ?_)
  refine lv_aload_n hx hb dX3_check_52 rfl (lv_at hl 0 rfl) ?_
  refine cgR_state K hP (by omega) dX3_check_53 ?_
  rw [show h5 7 i = h3 7 i from by rw [e5, u2_off _ _ (by omega)]]
  rw [show h3 7 i = 3 from by rw [e3, u2_off _ _ (by omega), u2_self]]
  exact fx_reti hx hb hr hlocks hP hS (Nat.le_of_ble_eq_true rfl) (Nat.le_of_ble_eq_true rfl) dX3_check_56 ⟨rfl, by simp only [e3, e4, e5]⟩

set_option maxHeartbeats 4000000 in
set_option maxRecDepth 100000 in
theorem c_X3_check_x1 (l : Launch) (hfl : l.stackTraces = false) (Z : fx_Z) (ad : Nat → Nat) (hinj : fx_inj 115 ad) (g : St) (rc : Nat) (r : Int32) (b : Int32) (hrc : g 0 0 = nI rc) (hr6 : rc ≤ 60) (hbr : bad r rc) : fx_C l Z yX3_check cX3_check 4 (some .int) 7 103 1 6 115 ad (cF ad Z.2.1) g [.ref (ad 0), .int r, .int b] (fun _ _ => False) (fun E => E = "java/lang/IndexOutOfBoundsException") := by
  intro sz
  refine vx_ofW (cc := cX3_check) (maxL := 4) (ret := (some .int)) (by decide) rfl ?_
  intro p e s m args below meth c s₁ B hml hout hv
  obtain ⟨rfl, hsz, hP, hE, hSt⟩ := hv
  subst hsz
  have hx := B.exec
  have hb := B.bytes
  have hr := B.returns
  have hown : s.vm.findClass RX3 = some m.cls := findClass_of_methodNamed B.named
  have hlocks := B.notSynchronized
  have K : c_K p l s m ([.ref (ad 0), .int r, .int b] : List Value).toArray c cX3_check 4 Z ad := ⟨hx, hb, hml, hown, fun w hw => atoms_spec (ws := fx_l yX3_check cX3_check 4 (some .int)) B.pre w (List.mem_cons_of_mem _ hw), hE, hSt, hinj, hfl⟩
  have hS : va_S (fx_A 115 ad s.heap.size) s.heap s.heap [] := va_S.rf
  have hl := lv_entry ([.ref (ad 0), .int r, .int b]) (n := 4) (Nat.le_of_ble_eq_true rfl)
  rw [lg_entry_eq]
  generalize (lg_sl ([.ref (ad 0), .int r, .int b]) ++ List.replicate (4 - (lg_sl ([.ref (ad 0), .int r, .int b])).length) Slot.unset).toArray = ls at hl ⊢
  have hl : lv_has ls 4 [(0, .ref (ad 0)), (1, .int r), (2, .int b)] := hl
  refine lv_aload_n hx hb dX3_check_0 rfl (lv_at hl 0 rfl) ?_
  refine lv_iload_n hx hb dX3_check_1 rfl (lv_at hl 1 rfl) ?_
  exact c_callx (rest := []) K hlocks hout hP hS (c_X3_receiptNumbered_x l hfl Z ad hinj g rc r (by assumption) (by assumption) (by assumption)) ok_X3_94 rfl ⟨Nat.le_of_ble_eq_true rfl, Nat.le_of_ble_eq_true rfl⟩ rfl hl.1 (Nat.le_of_ble_eq_true rfl) ⟨Nat.le_of_ble_eq_true rfl, Nat.le_of_ble_eq_true rfl⟩ dX3_check_2 (Nat.le_of_ble_eq_true rfl) (Nat.le_of_ble_eq_true rfl) (fun E hE => hE)

set_option maxHeartbeats 4000000 in
set_option maxRecDepth 100000 in
theorem c_X3_check_x2 (l : Launch) (hfl : l.stackTraces = false) (Z : fx_Z) (ad : Nat → Nat) (hinj : fx_inj 115 ad) (g : St) (rc : Nat) (i : Nat) (b : Int32) (hi : i < rc) (hrc : g 0 0 = nI rc) (hr6 : rc ≤ 60) (h7 : ¬ g 7 i = 1) : fx_C l Z yX3_check cX3_check 4 (some .int) 6 82 1 6 115 ad (cF ad Z.2.1) g [.ref (ad 0), .int (nI i), .int b] (fun _ _ => False) (fun E => E = "java/lang/IllegalStateException") := by
  intro sz
  refine vx_ofW (cc := cX3_check) (maxL := 4) (ret := (some .int)) (by decide) rfl ?_
  intro p e s m args below meth c s₁ B hml hout hv
  obtain ⟨rfl, hsz, hP, hE, hSt⟩ := hv
  subst hsz
  have hx := B.exec
  have hb := B.bytes
  have hr := B.returns
  have hown : s.vm.findClass RX3 = some m.cls := findClass_of_methodNamed B.named
  have hlocks := B.notSynchronized
  have K : c_K p l s m ([.ref (ad 0), .int (nI i), .int b] : List Value).toArray c cX3_check 4 Z ad := ⟨hx, hb, hml, hown, fun w hw => atoms_spec (ws := fx_l yX3_check cX3_check 4 (some .int)) B.pre w (List.mem_cons_of_mem _ hw), hE, hSt, hinj, hfl⟩
  have hS : va_S (fx_A 115 ad s.heap.size) s.heap s.heap [] := va_S.rf
  have hl := lv_entry ([.ref (ad 0), .int (nI i), .int b]) (n := 4) (Nat.le_of_ble_eq_true rfl)
  rw [lg_entry_eq]
  generalize (lg_sl ([.ref (ad 0), .int (nI i), .int b]) ++ List.replicate (4 - (lg_sl ([.ref (ad 0), .int (nI i), .int b])).length) Slot.unset).toArray = ls at hl ⊢
  have hl : lv_has ls 4 [(0, .ref (ad 0)), (1, .int (nI i)), (2, .int b)] := hl
  refine lv_aload_n hx hb dX3_check_0 rfl (lv_at hl 0 rfl) ?_
  refine lv_iload_n hx hb dX3_check_1 rfl (lv_at hl 1 rfl) ?_
  refine c_callr (rest := []) K hP hS (c_X3_receiptNumbered_ok l hfl Z ad hinj g rc i (by assumption) (by assumption) (by assumption)) ok_X3_94 rfl ⟨Nat.le_of_ble_eq_true rfl, Nat.le_of_ble_eq_true rfl⟩ rfl hl.1 (Nat.le_of_ble_eq_true rfl) ⟨Nat.le_of_ble_eq_true rfl, Nat.le_of_ble_eq_true rfl⟩ dX3_check_2 (fun H locs hP hS => ?_)
  refine lv_astore_n (lv' := [(3, .ref (ad (5 + i))), (0, .ref (ad 0)), (1, .int (nI i)), (2, .int b)]) hx hb dX3_check_5 rfl hl (by decide) rfl (fun ls hl => ?_)
  refine lv_aload_n hx hb dX3_check_6 rfl (lv_at hl 0 rfl) ?_
  refine cgR_state K hP (by omega) dX3_check_7 ?_
  refine lv_iconst (v := 1) hx hb dX3_check_10 (by decide) ?_
  refine lv_icmp_eq (tgt := 24) hx hb dX3_check_11 (by decide) (fun c1 => absurd c1 h7) (fun _ => ?_)
  exact c_throw (text := "the receipt is not STAMPED") K hlocks hout hP hS hl.1 xw_ISE xi_ISE (by decide) xa_ISE (by decide) dX3_check_14 dX3_check_17 dX3_check_18 dX3_check_20 dX3_check_23 (Nat.le_of_ble_eq_true rfl) (Nat.le_of_ble_eq_true rfl) (Nat.le_of_ble_eq_true rfl) (Nat.le_of_ble_eq_true rfl) (Nat.le_of_ble_eq_true rfl) (Nat.le_of_ble_eq_true rfl) rfl

set_option maxHeartbeats 4000000 in
set_option maxRecDepth 100000 in
theorem c_X3_comeBack_ok (l : Launch) (hfl : l.stackTraces = false) (Z : fx_Z) (ad : Nat → Nat) (hinj : fx_inj 115 ad) (g : St) (t : Nat) (ht9 : t < 10) (hg : ¬ g 16 t = 0) : fx_C l Z yX3_comeBack cX3_comeBack 3 (some .int) 2 42 0 0 115 ad (cF ad Z.2.1) g [.ref (ad 0), .int (nI t)] (pI (g 17 t) (u2 g 16 t 0)) (fun _ => False) := by
  intro sz
  refine vx_ofW (cc := cX3_comeBack) (maxL := 3) (ret := (some .int)) (by decide) rfl ?_
  intro p e s m args below meth c s₁ B hml hout hv
  obtain ⟨rfl, hsz, hP, hE, hSt⟩ := hv
  subst hsz
  have hx := B.exec
  have hb := B.bytes
  have hr := B.returns
  have hown : s.vm.findClass RX3 = some m.cls := findClass_of_methodNamed B.named
  have hlocks := B.notSynchronized
  have K : c_K p l s m ([.ref (ad 0), .int (nI t)] : List Value).toArray c cX3_comeBack 3 Z ad := ⟨hx, hb, hml, hown, fun w hw => atoms_spec (ws := fx_l yX3_comeBack cX3_comeBack 3 (some .int)) B.pre w (List.mem_cons_of_mem _ hw), hE, hSt, hinj, hfl⟩
  have hS : va_S (fx_A 115 ad s.heap.size) s.heap s.heap [] := va_S.rf
  have hl := lv_entry ([.ref (ad 0), .int (nI t)]) (n := 3) (Nat.le_of_ble_eq_true rfl)
  rw [lg_entry_eq]
  generalize (lg_sl ([.ref (ad 0), .int (nI t)]) ++ List.replicate (3 - (lg_sl ([.ref (ad 0), .int (nI t)])).length) Slot.unset).toArray = ls at hl ⊢
  have hl : lv_has ls 3 [(0, .ref (ad 0)), (1, .int (nI t))] := hl
  refine lv_aload_n hx hb dX3_comeBack_0 rfl (lv_at hl 0 rfl) ?_
  refine lv_iload_n hx hb dX3_comeBack_1 rfl (lv_at hl 1 rfl) ?_
  refine c_callr (rest := []) K hP hS (c_X3_travellerNumbered_ok l hfl Z ad hinj g t (by assumption)) ok_X3_58 rfl ⟨Nat.le_of_ble_eq_true rfl, Nat.le_of_ble_eq_true rfl⟩ rfl hl.1 (Nat.le_of_ble_eq_true rfl) ⟨Nat.le_of_ble_eq_true rfl, Nat.le_of_ble_eq_true rfl⟩ dX3_comeBack_2 (fun H locs hP hS => ?_)
  refine lv_astore_n (lv' := [(2, .ref (ad (105 + t))), (0, .ref (ad 0)), (1, .int (nI t))]) hx hb dX3_comeBack_5 rfl hl (by decide) rfl (fun ls hl => ?_)
  refine lv_aload_n hx hb dX3_comeBack_6 rfl (lv_at hl 0 rfl) ?_
  refine cgT_left K hP (by omega) dX3_comeBack_7 ?_
  refine lv_if_ne (tgt := 23) hx hb dX3_comeBack_10 (by decide) (fun _ => ?_) (fun c1 => absurd c1 hg)
  refine lv_aload_n hx hb dX3_comeBack_23 rfl (lv_at hl 0 rfl) ?_
  refine lv_iconst (v := 0) hx hb dX3_comeBack_24 (by decide) ?_
  refine cpT_left K hP hS (by omega) rfl rfl dX3_comeBack_25 (fun h2 H locs e2 hP hS => ?_)
  refine lv_aload_n hx hb dX3_comeBack_28 rfl (lv_at hl 0 rfl) ?_
  refine cgT_timesLeft K hP (by omega) dX3_comeBack_29 ?_
  rw [show h2 17 t = g 17 t from by rw [e2, u2_off _ _ (by omega)]]
  exact fx_reti hx hb hr hlocks hP hS (Nat.le_of_ble_eq_true rfl) (Nat.le_of_ble_eq_true rfl) dX3_comeBack_32 ⟨rfl, by simp only [e2]⟩

set_option maxHeartbeats 4000000 in
set_option maxRecDepth 100000 in
theorem c_X3_comeBack_x1 (l : Launch) (hfl : l.stackTraces = false) (Z : fx_Z) (ad : Nat → Nat) (hinj : fx_inj 115 ad) (g : St) (t : Int32) (ht9 : bad t 10) : fx_C l Z yX3_comeBack cX3_comeBack 3 (some .int) 8 124 1 6 115 ad (cF ad Z.2.1) g [.ref (ad 0), .int t] (fun _ _ => False) (fun E => E = "java/lang/IndexOutOfBoundsException") := by
  intro sz
  refine vx_ofW (cc := cX3_comeBack) (maxL := 3) (ret := (some .int)) (by decide) rfl ?_
  intro p e s m args below meth c s₁ B hml hout hv
  obtain ⟨rfl, hsz, hP, hE, hSt⟩ := hv
  subst hsz
  have hx := B.exec
  have hb := B.bytes
  have hr := B.returns
  have hown : s.vm.findClass RX3 = some m.cls := findClass_of_methodNamed B.named
  have hlocks := B.notSynchronized
  have K : c_K p l s m ([.ref (ad 0), .int t] : List Value).toArray c cX3_comeBack 3 Z ad := ⟨hx, hb, hml, hown, fun w hw => atoms_spec (ws := fx_l yX3_comeBack cX3_comeBack 3 (some .int)) B.pre w (List.mem_cons_of_mem _ hw), hE, hSt, hinj, hfl⟩
  have hS : va_S (fx_A 115 ad s.heap.size) s.heap s.heap [] := va_S.rf
  have hl := lv_entry ([.ref (ad 0), .int t]) (n := 3) (Nat.le_of_ble_eq_true rfl)
  rw [lg_entry_eq]
  generalize (lg_sl ([.ref (ad 0), .int t]) ++ List.replicate (3 - (lg_sl ([.ref (ad 0), .int t])).length) Slot.unset).toArray = ls at hl ⊢
  have hl : lv_has ls 3 [(0, .ref (ad 0)), (1, .int t)] := hl
  refine lv_aload_n hx hb dX3_comeBack_0 rfl (lv_at hl 0 rfl) ?_
  refine lv_iload_n hx hb dX3_comeBack_1 rfl (lv_at hl 1 rfl) ?_
  exact c_callx (rest := []) K hlocks hout hP hS (c_X3_travellerNumbered_x l hfl Z ad hinj g t (by assumption)) ok_X3_58 rfl ⟨Nat.le_of_ble_eq_true rfl, Nat.le_of_ble_eq_true rfl⟩ rfl hl.1 (Nat.le_of_ble_eq_true rfl) ⟨Nat.le_of_ble_eq_true rfl, Nat.le_of_ble_eq_true rfl⟩ dX3_comeBack_2 (Nat.le_of_ble_eq_true rfl) (Nat.le_of_ble_eq_true rfl) (fun E hE => hE)

set_option maxHeartbeats 4000000 in
set_option maxRecDepth 100000 in
theorem c_X3_comeBack_x2 (l : Launch) (hfl : l.stackTraces = false) (Z : fx_Z) (ad : Nat → Nat) (hinj : fx_inj 115 ad) (g : St) (t : Nat) (ht9 : t < 10) (hg : g 16 t = 0) : fx_C l Z yX3_comeBack cX3_comeBack 3 (some .int) 6 82 1 6 115 ad (cF ad Z.2.1) g [.ref (ad 0), .int (nI t)] (fun _ _ => False) (fun E => E = "java/lang/IllegalStateException") := by
  intro sz
  refine vx_ofW (cc := cX3_comeBack) (maxL := 3) (ret := (some .int)) (by decide) rfl ?_
  intro p e s m args below meth c s₁ B hml hout hv
  obtain ⟨rfl, hsz, hP, hE, hSt⟩ := hv
  subst hsz
  have hx := B.exec
  have hb := B.bytes
  have hr := B.returns
  have hown : s.vm.findClass RX3 = some m.cls := findClass_of_methodNamed B.named
  have hlocks := B.notSynchronized
  have K : c_K p l s m ([.ref (ad 0), .int (nI t)] : List Value).toArray c cX3_comeBack 3 Z ad := ⟨hx, hb, hml, hown, fun w hw => atoms_spec (ws := fx_l yX3_comeBack cX3_comeBack 3 (some .int)) B.pre w (List.mem_cons_of_mem _ hw), hE, hSt, hinj, hfl⟩
  have hS : va_S (fx_A 115 ad s.heap.size) s.heap s.heap [] := va_S.rf
  have hl := lv_entry ([.ref (ad 0), .int (nI t)]) (n := 3) (Nat.le_of_ble_eq_true rfl)
  rw [lg_entry_eq]
  generalize (lg_sl ([.ref (ad 0), .int (nI t)]) ++ List.replicate (3 - (lg_sl ([.ref (ad 0), .int (nI t)])).length) Slot.unset).toArray = ls at hl ⊢
  have hl : lv_has ls 3 [(0, .ref (ad 0)), (1, .int (nI t))] := hl
  refine lv_aload_n hx hb dX3_comeBack_0 rfl (lv_at hl 0 rfl) ?_
  refine lv_iload_n hx hb dX3_comeBack_1 rfl (lv_at hl 1 rfl) ?_
  refine c_callr (rest := []) K hP hS (c_X3_travellerNumbered_ok l hfl Z ad hinj g t (by assumption)) ok_X3_58 rfl ⟨Nat.le_of_ble_eq_true rfl, Nat.le_of_ble_eq_true rfl⟩ rfl hl.1 (Nat.le_of_ble_eq_true rfl) ⟨Nat.le_of_ble_eq_true rfl, Nat.le_of_ble_eq_true rfl⟩ dX3_comeBack_2 (fun H locs hP hS => ?_)
  refine lv_astore_n (lv' := [(2, .ref (ad (105 + t))), (0, .ref (ad 0)), (1, .int (nI t))]) hx hb dX3_comeBack_5 rfl hl (by decide) rfl (fun ls hl => ?_)
  refine lv_aload_n hx hb dX3_comeBack_6 rfl (lv_at hl 0 rfl) ?_
  refine cgT_left K hP (by omega) dX3_comeBack_7 ?_
  refine lv_if_ne (tgt := 23) hx hb dX3_comeBack_10 (by decide) (fun c1 => absurd hg c1) (fun _ => ?_)
  exact c_throw (text := "the traveller has not left") K hlocks hout hP hS hl.1 xw_ISE xi_ISE (by decide) xa_ISE (by decide) dX3_comeBack_13 dX3_comeBack_16 dX3_comeBack_17 dX3_comeBack_19 dX3_comeBack_22 (Nat.le_of_ble_eq_true rfl) (Nat.le_of_ble_eq_true rfl) (Nat.le_of_ble_eq_true rfl) (Nat.le_of_ble_eq_true rfl) (Nat.le_of_ble_eq_true rfl) (Nat.le_of_ble_eq_true rfl) rfl

set_option maxHeartbeats 4000000 in
set_option maxRecDepth 100000 in
theorem c_X3_ofReceipt_0 (l : Launch) (hfl : l.stackTraces = false) (Z : fx_Z) (ad : Nat → Nat) (hinj : fx_inj 115 ad) (g : St) (rc : Nat) (i : Nat) (hi : i < rc) (hrc : g 0 0 = nI rc) (hr6 : rc ≤ 60) : fx_C l Z yX3_ofReceipt cX3_ofReceipt 4 (some .int) 1 21 0 0 115 ad (cF ad Z.2.1) g [.ref (ad 0), .int (nI i), .int 0] (pI (g 7 i) g) (fun _ => False) := by
  intro sz
  refine vx_ofW (cc := cX3_ofReceipt) (maxL := 4) (ret := (some .int)) (by decide) rfl ?_
  intro p e s m args below meth c s₁ B hml hout hv
  obtain ⟨rfl, hsz, hP, hE, hSt⟩ := hv
  subst hsz
  have hx := B.exec
  have hb := B.bytes
  have hr := B.returns
  have hown : s.vm.findClass RX3 = some m.cls := findClass_of_methodNamed B.named
  have hlocks := B.notSynchronized
  have K : c_K p l s m ([.ref (ad 0), .int (nI i), .int 0] : List Value).toArray c cX3_ofReceipt 4 Z ad := ⟨hx, hb, hml, hown, fun w hw => atoms_spec (ws := fx_l yX3_ofReceipt cX3_ofReceipt 4 (some .int)) B.pre w (List.mem_cons_of_mem _ hw), hE, hSt, hinj, hfl⟩
  have hS : va_S (fx_A 115 ad s.heap.size) s.heap s.heap [] := va_S.rf
  have hl := lv_entry ([.ref (ad 0), .int (nI i), .int 0]) (n := 4) (Nat.le_of_ble_eq_true rfl)
  rw [lg_entry_eq]
  generalize (lg_sl ([.ref (ad 0), .int (nI i), .int 0]) ++ List.replicate (4 - (lg_sl ([.ref (ad 0), .int (nI i), .int 0])).length) Slot.unset).toArray = ls at hl ⊢
  have hl : lv_has ls 4 [(0, .ref (ad 0)), (1, .int (nI i)), (2, .int 0)] := hl
  refine lv_aload_n hx hb dX3_ofReceipt_0 rfl (lv_at hl 0 rfl) ?_
  refine lv_iload_n hx hb dX3_ofReceipt_1 rfl (lv_at hl 1 rfl) ?_
  refine c_callr (rest := []) K hP hS (c_X3_receiptNumbered_ok l hfl Z ad hinj g rc i (by assumption) (by assumption) (by assumption)) ok_X3_94 rfl ⟨Nat.le_of_ble_eq_true rfl, Nat.le_of_ble_eq_true rfl⟩ rfl hl.1 (Nat.le_of_ble_eq_true rfl) ⟨Nat.le_of_ble_eq_true rfl, Nat.le_of_ble_eq_true rfl⟩ dX3_ofReceipt_2 (fun H locs hP hS => ?_)
  refine lv_astore_n (lv' := [(3, .ref (ad (5 + i))), (0, .ref (ad 0)), (1, .int (nI i)), (2, .int 0)]) hx hb dX3_ofReceipt_5 rfl hl (by decide) rfl (fun ls hl => ?_)
  refine lv_iload_n hx hb dX3_ofReceipt_6 rfl (lv_at hl 3 rfl) ?_
  refine lv_tableIn (off := 29) (tgt := 36) hx hb dX3_ofReceipt_7 (by decide) (by decide) (by decide) (by decide) ?_
  refine lv_aload_n hx hb dX3_ofReceipt_36 rfl (lv_at hl 0 rfl) ?_
  refine cgR_state K hP (by omega) dX3_ofReceipt_37 ?_
  exact fx_reti hx hb hr hlocks hP hS (Nat.le_of_ble_eq_true rfl) (Nat.le_of_ble_eq_true rfl) dX3_ofReceipt_40 ⟨rfl, rfl⟩

set_option maxHeartbeats 4000000 in
set_option maxRecDepth 100000 in
theorem c_X3_ofTraveller_0 (l : Launch) (hfl : l.stackTraces = false) (Z : fx_Z) (ad : Nat → Nat) (hinj : fx_inj 115 ad) (g : St) (t : Nat) (ht9 : t < 10) : fx_C l Z yX3_ofTraveller cX3_ofTraveller 4 (some .int) 2 42 0 0 115 ad (cF ad Z.2.1) g [.ref (ad 0), .int (nI t), .int 0] (pI (g 20 t) g) (fun _ => False) := by
  intro sz
  refine vx_ofW (cc := cX3_ofTraveller) (maxL := 4) (ret := (some .int)) (by decide) rfl ?_
  intro p e s m args below meth c s₁ B hml hout hv
  obtain ⟨rfl, hsz, hP, hE, hSt⟩ := hv
  subst hsz
  have hx := B.exec
  have hb := B.bytes
  have hr := B.returns
  have hown : s.vm.findClass RX3 = some m.cls := findClass_of_methodNamed B.named
  have hlocks := B.notSynchronized
  have K : c_K p l s m ([.ref (ad 0), .int (nI t), .int 0] : List Value).toArray c cX3_ofTraveller 4 Z ad := ⟨hx, hb, hml, hown, fun w hw => atoms_spec (ws := fx_l yX3_ofTraveller cX3_ofTraveller 4 (some .int)) B.pre w (List.mem_cons_of_mem _ hw), hE, hSt, hinj, hfl⟩
  have hS : va_S (fx_A 115 ad s.heap.size) s.heap s.heap [] := va_S.rf
  have hl := lv_entry ([.ref (ad 0), .int (nI t), .int 0]) (n := 4) (Nat.le_of_ble_eq_true rfl)
  rw [lg_entry_eq]
  generalize (lg_sl ([.ref (ad 0), .int (nI t), .int 0]) ++ List.replicate (4 - (lg_sl ([.ref (ad 0), .int (nI t), .int 0])).length) Slot.unset).toArray = ls at hl ⊢
  have hl : lv_has ls 4 [(0, .ref (ad 0)), (1, .int (nI t)), (2, .int 0)] := hl
  refine lv_aload_n hx hb dX3_ofTraveller_0 rfl (lv_at hl 0 rfl) ?_
  refine lv_iload_n hx hb dX3_ofTraveller_1 rfl (lv_at hl 1 rfl) ?_
  refine c_callr (rest := []) K hP hS (c_X3_travellerNumbered_ok l hfl Z ad hinj g t (by assumption)) ok_X3_58 rfl ⟨Nat.le_of_ble_eq_true rfl, Nat.le_of_ble_eq_true rfl⟩ rfl hl.1 (Nat.le_of_ble_eq_true rfl) ⟨Nat.le_of_ble_eq_true rfl, Nat.le_of_ble_eq_true rfl⟩ dX3_ofTraveller_2 (fun H locs hP hS => ?_)
  refine lv_astore_n (lv' := [(3, .ref (ad (105 + t))), (0, .ref (ad 0)), (1, .int (nI t)), (2, .int 0)]) hx hb dX3_ofTraveller_5 rfl hl (by decide) rfl (fun ls hl => ?_)
  refine lv_iload_n hx hb dX3_ofTraveller_6 rfl (lv_at hl 3 rfl) ?_
  refine lv_tableIn (off := 29) (tgt := 36) hx hb dX3_ofTraveller_7 (by decide) (by decide) (by decide) (by decide) ?_
  refine lv_aload_n hx hb dX3_ofTraveller_36 rfl (lv_at hl 0 rfl) ?_
  refine cgT_refunds K hP (by omega) dX3_ofTraveller_37 ?_
  exact fx_reti hx hb hr hlocks hP hS (Nat.le_of_ble_eq_true rfl) (Nat.le_of_ble_eq_true rfl) dX3_ofTraveller_40 ⟨rfl, rfl⟩

set_option maxHeartbeats 4000000 in
set_option maxRecDepth 100000 in
theorem c_X3_ofReceipt_1 (l : Launch) (hfl : l.stackTraces = false) (Z : fx_Z) (ad : Nat → Nat) (hinj : fx_inj 115 ad) (g : St) (rc : Nat) (i : Nat) (hi : i < rc) (hrc : g 0 0 = nI rc) (hr6 : rc ≤ 60) : fx_C l Z yX3_ofReceipt cX3_ofReceipt 4 (some .int) 1 21 0 0 115 ad (cF ad Z.2.1) g [.ref (ad 0), .int (nI i), .int 1] (pI (g 5 i) g) (fun _ => False) := by
  intro sz
  refine vx_ofW (cc := cX3_ofReceipt) (maxL := 4) (ret := (some .int)) (by decide) rfl ?_
  intro p e s m args below meth c s₁ B hml hout hv
  obtain ⟨rfl, hsz, hP, hE, hSt⟩ := hv
  subst hsz
  have hx := B.exec
  have hb := B.bytes
  have hr := B.returns
  have hown : s.vm.findClass RX3 = some m.cls := findClass_of_methodNamed B.named
  have hlocks := B.notSynchronized
  have K : c_K p l s m ([.ref (ad 0), .int (nI i), .int 1] : List Value).toArray c cX3_ofReceipt 4 Z ad := ⟨hx, hb, hml, hown, fun w hw => atoms_spec (ws := fx_l yX3_ofReceipt cX3_ofReceipt 4 (some .int)) B.pre w (List.mem_cons_of_mem _ hw), hE, hSt, hinj, hfl⟩
  have hS : va_S (fx_A 115 ad s.heap.size) s.heap s.heap [] := va_S.rf
  have hl := lv_entry ([.ref (ad 0), .int (nI i), .int 1]) (n := 4) (Nat.le_of_ble_eq_true rfl)
  rw [lg_entry_eq]
  generalize (lg_sl ([.ref (ad 0), .int (nI i), .int 1]) ++ List.replicate (4 - (lg_sl ([.ref (ad 0), .int (nI i), .int 1])).length) Slot.unset).toArray = ls at hl ⊢
  have hl : lv_has ls 4 [(0, .ref (ad 0)), (1, .int (nI i)), (2, .int 1)] := hl
  refine lv_aload_n hx hb dX3_ofReceipt_0 rfl (lv_at hl 0 rfl) ?_
  refine lv_iload_n hx hb dX3_ofReceipt_1 rfl (lv_at hl 1 rfl) ?_
  refine c_callr (rest := []) K hP hS (c_X3_receiptNumbered_ok l hfl Z ad hinj g rc i (by assumption) (by assumption) (by assumption)) ok_X3_94 rfl ⟨Nat.le_of_ble_eq_true rfl, Nat.le_of_ble_eq_true rfl⟩ rfl hl.1 (Nat.le_of_ble_eq_true rfl) ⟨Nat.le_of_ble_eq_true rfl, Nat.le_of_ble_eq_true rfl⟩ dX3_ofReceipt_2 (fun H locs hP hS => ?_)
  refine lv_astore_n (lv' := [(3, .ref (ad (5 + i))), (0, .ref (ad 0)), (1, .int (nI i)), (2, .int 1)]) hx hb dX3_ofReceipt_5 rfl hl (by decide) rfl (fun ls hl => ?_)
  refine lv_iload_n hx hb dX3_ofReceipt_6 rfl (lv_at hl 3 rfl) ?_
  refine lv_tableIn (off := 34) (tgt := 41) hx hb dX3_ofReceipt_7 (by decide) (by decide) (by decide) (by decide) ?_
  refine lv_aload_n hx hb dX3_ofReceipt_41 rfl (lv_at hl 0 rfl) ?_
  refine cgR_tax K hP (by omega) dX3_ofReceipt_42 ?_
  exact fx_reti hx hb hr hlocks hP hS (Nat.le_of_ble_eq_true rfl) (Nat.le_of_ble_eq_true rfl) dX3_ofReceipt_45 ⟨rfl, rfl⟩

set_option maxHeartbeats 4000000 in
set_option maxRecDepth 100000 in
theorem c_X3_ofTraveller_1 (l : Launch) (hfl : l.stackTraces = false) (Z : fx_Z) (ad : Nat → Nat) (hinj : fx_inj 115 ad) (g : St) (t : Nat) (ht9 : t < 10) : fx_C l Z yX3_ofTraveller cX3_ofTraveller 4 (some .int) 2 42 0 0 115 ad (cF ad Z.2.1) g [.ref (ad 0), .int (nI t), .int 1] (pI (g 19 t) g) (fun _ => False) := by
  intro sz
  refine vx_ofW (cc := cX3_ofTraveller) (maxL := 4) (ret := (some .int)) (by decide) rfl ?_
  intro p e s m args below meth c s₁ B hml hout hv
  obtain ⟨rfl, hsz, hP, hE, hSt⟩ := hv
  subst hsz
  have hx := B.exec
  have hb := B.bytes
  have hr := B.returns
  have hown : s.vm.findClass RX3 = some m.cls := findClass_of_methodNamed B.named
  have hlocks := B.notSynchronized
  have K : c_K p l s m ([.ref (ad 0), .int (nI t), .int 1] : List Value).toArray c cX3_ofTraveller 4 Z ad := ⟨hx, hb, hml, hown, fun w hw => atoms_spec (ws := fx_l yX3_ofTraveller cX3_ofTraveller 4 (some .int)) B.pre w (List.mem_cons_of_mem _ hw), hE, hSt, hinj, hfl⟩
  have hS : va_S (fx_A 115 ad s.heap.size) s.heap s.heap [] := va_S.rf
  have hl := lv_entry ([.ref (ad 0), .int (nI t), .int 1]) (n := 4) (Nat.le_of_ble_eq_true rfl)
  rw [lg_entry_eq]
  generalize (lg_sl ([.ref (ad 0), .int (nI t), .int 1]) ++ List.replicate (4 - (lg_sl ([.ref (ad 0), .int (nI t), .int 1])).length) Slot.unset).toArray = ls at hl ⊢
  have hl : lv_has ls 4 [(0, .ref (ad 0)), (1, .int (nI t)), (2, .int 1)] := hl
  refine lv_aload_n hx hb dX3_ofTraveller_0 rfl (lv_at hl 0 rfl) ?_
  refine lv_iload_n hx hb dX3_ofTraveller_1 rfl (lv_at hl 1 rfl) ?_
  refine c_callr (rest := []) K hP hS (c_X3_travellerNumbered_ok l hfl Z ad hinj g t (by assumption)) ok_X3_58 rfl ⟨Nat.le_of_ble_eq_true rfl, Nat.le_of_ble_eq_true rfl⟩ rfl hl.1 (Nat.le_of_ble_eq_true rfl) ⟨Nat.le_of_ble_eq_true rfl, Nat.le_of_ble_eq_true rfl⟩ dX3_ofTraveller_2 (fun H locs hP hS => ?_)
  refine lv_astore_n (lv' := [(3, .ref (ad (105 + t))), (0, .ref (ad 0)), (1, .int (nI t)), (2, .int 1)]) hx hb dX3_ofTraveller_5 rfl hl (by decide) rfl (fun ls hl => ?_)
  refine lv_iload_n hx hb dX3_ofTraveller_6 rfl (lv_at hl 3 rfl) ?_
  refine lv_tableIn (off := 34) (tgt := 41) hx hb dX3_ofTraveller_7 (by decide) (by decide) (by decide) (by decide) ?_
  refine lv_aload_n hx hb dX3_ofTraveller_41 rfl (lv_at hl 0 rfl) ?_
  refine cgT_fines K hP (by omega) dX3_ofTraveller_42 ?_
  exact fx_reti hx hb hr hlocks hP hS (Nat.le_of_ble_eq_true rfl) (Nat.le_of_ble_eq_true rfl) dX3_ofTraveller_45 ⟨rfl, rfl⟩

set_option maxHeartbeats 4000000 in
set_option maxRecDepth 100000 in
theorem c_X3_ofReceipt_2 (l : Launch) (hfl : l.stackTraces = false) (Z : fx_Z) (ad : Nat → Nat) (hinj : fx_inj 115 ad) (g : St) (rc : Nat) (i : Nat) (hi : i < rc) (hrc : g 0 0 = nI rc) (hr6 : rc ≤ 60) : fx_C l Z yX3_ofReceipt cX3_ofReceipt 4 (some .int) 1 21 0 0 115 ad (cF ad Z.2.1) g [.ref (ad 0), .int (nI i), .int 2] (pI (g 9 i) g) (fun _ => False) := by
  intro sz
  refine vx_ofW (cc := cX3_ofReceipt) (maxL := 4) (ret := (some .int)) (by decide) rfl ?_
  intro p e s m args below meth c s₁ B hml hout hv
  obtain ⟨rfl, hsz, hP, hE, hSt⟩ := hv
  subst hsz
  have hx := B.exec
  have hb := B.bytes
  have hr := B.returns
  have hown : s.vm.findClass RX3 = some m.cls := findClass_of_methodNamed B.named
  have hlocks := B.notSynchronized
  have K : c_K p l s m ([.ref (ad 0), .int (nI i), .int 2] : List Value).toArray c cX3_ofReceipt 4 Z ad := ⟨hx, hb, hml, hown, fun w hw => atoms_spec (ws := fx_l yX3_ofReceipt cX3_ofReceipt 4 (some .int)) B.pre w (List.mem_cons_of_mem _ hw), hE, hSt, hinj, hfl⟩
  have hS : va_S (fx_A 115 ad s.heap.size) s.heap s.heap [] := va_S.rf
  have hl := lv_entry ([.ref (ad 0), .int (nI i), .int 2]) (n := 4) (Nat.le_of_ble_eq_true rfl)
  rw [lg_entry_eq]
  generalize (lg_sl ([.ref (ad 0), .int (nI i), .int 2]) ++ List.replicate (4 - (lg_sl ([.ref (ad 0), .int (nI i), .int 2])).length) Slot.unset).toArray = ls at hl ⊢
  have hl : lv_has ls 4 [(0, .ref (ad 0)), (1, .int (nI i)), (2, .int 2)] := hl
  refine lv_aload_n hx hb dX3_ofReceipt_0 rfl (lv_at hl 0 rfl) ?_
  refine lv_iload_n hx hb dX3_ofReceipt_1 rfl (lv_at hl 1 rfl) ?_
  refine c_callr (rest := []) K hP hS (c_X3_receiptNumbered_ok l hfl Z ad hinj g rc i (by assumption) (by assumption) (by assumption)) ok_X3_94 rfl ⟨Nat.le_of_ble_eq_true rfl, Nat.le_of_ble_eq_true rfl⟩ rfl hl.1 (Nat.le_of_ble_eq_true rfl) ⟨Nat.le_of_ble_eq_true rfl, Nat.le_of_ble_eq_true rfl⟩ dX3_ofReceipt_2 (fun H locs hP hS => ?_)
  refine lv_astore_n (lv' := [(3, .ref (ad (5 + i))), (0, .ref (ad 0)), (1, .int (nI i)), (2, .int 2)]) hx hb dX3_ofReceipt_5 rfl hl (by decide) rfl (fun ls hl => ?_)
  refine lv_iload_n hx hb dX3_ofReceipt_6 rfl (lv_at hl 3 rfl) ?_
  refine lv_tableIn (off := 39) (tgt := 46) hx hb dX3_ofReceipt_7 (by decide) (by decide) (by decide) (by decide) ?_
  refine lv_aload_n hx hb dX3_ofReceipt_46 rfl (lv_at hl 0 rfl) ?_
  refine cgR_refund K hP (by omega) dX3_ofReceipt_47 ?_
  exact fx_reti hx hb hr hlocks hP hS (Nat.le_of_ble_eq_true rfl) (Nat.le_of_ble_eq_true rfl) dX3_ofReceipt_50 ⟨rfl, rfl⟩

set_option maxHeartbeats 4000000 in
set_option maxRecDepth 100000 in
theorem c_X3_ofTraveller_2 (l : Launch) (hfl : l.stackTraces = false) (Z : fx_Z) (ad : Nat → Nat) (hinj : fx_inj 115 ad) (g : St) (t : Nat) (ht9 : t < 10) : fx_C l Z yX3_ofTraveller cX3_ofTraveller 4 (some .int) 2 42 0 0 115 ad (cF ad Z.2.1) g [.ref (ad 0), .int (nI t), .int 2] (pI (g 18 t) g) (fun _ => False) := by
  intro sz
  refine vx_ofW (cc := cX3_ofTraveller) (maxL := 4) (ret := (some .int)) (by decide) rfl ?_
  intro p e s m args below meth c s₁ B hml hout hv
  obtain ⟨rfl, hsz, hP, hE, hSt⟩ := hv
  subst hsz
  have hx := B.exec
  have hb := B.bytes
  have hr := B.returns
  have hown : s.vm.findClass RX3 = some m.cls := findClass_of_methodNamed B.named
  have hlocks := B.notSynchronized
  have K : c_K p l s m ([.ref (ad 0), .int (nI t), .int 2] : List Value).toArray c cX3_ofTraveller 4 Z ad := ⟨hx, hb, hml, hown, fun w hw => atoms_spec (ws := fx_l yX3_ofTraveller cX3_ofTraveller 4 (some .int)) B.pre w (List.mem_cons_of_mem _ hw), hE, hSt, hinj, hfl⟩
  have hS : va_S (fx_A 115 ad s.heap.size) s.heap s.heap [] := va_S.rf
  have hl := lv_entry ([.ref (ad 0), .int (nI t), .int 2]) (n := 4) (Nat.le_of_ble_eq_true rfl)
  rw [lg_entry_eq]
  generalize (lg_sl ([.ref (ad 0), .int (nI t), .int 2]) ++ List.replicate (4 - (lg_sl ([.ref (ad 0), .int (nI t), .int 2])).length) Slot.unset).toArray = ls at hl ⊢
  have hl : lv_has ls 4 [(0, .ref (ad 0)), (1, .int (nI t)), (2, .int 2)] := hl
  refine lv_aload_n hx hb dX3_ofTraveller_0 rfl (lv_at hl 0 rfl) ?_
  refine lv_iload_n hx hb dX3_ofTraveller_1 rfl (lv_at hl 1 rfl) ?_
  refine c_callr (rest := []) K hP hS (c_X3_travellerNumbered_ok l hfl Z ad hinj g t (by assumption)) ok_X3_58 rfl ⟨Nat.le_of_ble_eq_true rfl, Nat.le_of_ble_eq_true rfl⟩ rfl hl.1 (Nat.le_of_ble_eq_true rfl) ⟨Nat.le_of_ble_eq_true rfl, Nat.le_of_ble_eq_true rfl⟩ dX3_ofTraveller_2 (fun H locs hP hS => ?_)
  refine lv_astore_n (lv' := [(3, .ref (ad (105 + t))), (0, .ref (ad 0)), (1, .int (nI t)), (2, .int 2)]) hx hb dX3_ofTraveller_5 rfl hl (by decide) rfl (fun ls hl => ?_)
  refine lv_iload_n hx hb dX3_ofTraveller_6 rfl (lv_at hl 3 rfl) ?_
  refine lv_tableIn (off := 39) (tgt := 46) hx hb dX3_ofTraveller_7 (by decide) (by decide) (by decide) (by decide) ?_
  refine lv_aload_n hx hb dX3_ofTraveller_46 rfl (lv_at hl 0 rfl) ?_
  refine cgT_missed K hP (by omega) dX3_ofTraveller_47 ?_
  exact fx_reti hx hb hr hlocks hP hS (Nat.le_of_ble_eq_true rfl) (Nat.le_of_ble_eq_true rfl) dX3_ofTraveller_50 ⟨rfl, rfl⟩

set_option maxHeartbeats 4000000 in
set_option maxRecDepth 100000 in
theorem c_X3_ofReceipt_3 (l : Launch) (hfl : l.stackTraces = false) (Z : fx_Z) (ad : Nat → Nat) (hinj : fx_inj 115 ad) (g : St) (rc : Nat) (i : Nat) (hi : i < rc) (hrc : g 0 0 = nI rc) (hr6 : rc ≤ 60) : fx_C l Z yX3_ofReceipt cX3_ofReceipt 4 (some .int) 1 21 0 0 115 ad (cF ad Z.2.1) g [.ref (ad 0), .int (nI i), .int 3] (pI (g 8 i) g) (fun _ => False) := by
  intro sz
  refine vx_ofW (cc := cX3_ofReceipt) (maxL := 4) (ret := (some .int)) (by decide) rfl ?_
  intro p e s m args below meth c s₁ B hml hout hv
  obtain ⟨rfl, hsz, hP, hE, hSt⟩ := hv
  subst hsz
  have hx := B.exec
  have hb := B.bytes
  have hr := B.returns
  have hown : s.vm.findClass RX3 = some m.cls := findClass_of_methodNamed B.named
  have hlocks := B.notSynchronized
  have K : c_K p l s m ([.ref (ad 0), .int (nI i), .int 3] : List Value).toArray c cX3_ofReceipt 4 Z ad := ⟨hx, hb, hml, hown, fun w hw => atoms_spec (ws := fx_l yX3_ofReceipt cX3_ofReceipt 4 (some .int)) B.pre w (List.mem_cons_of_mem _ hw), hE, hSt, hinj, hfl⟩
  have hS : va_S (fx_A 115 ad s.heap.size) s.heap s.heap [] := va_S.rf
  have hl := lv_entry ([.ref (ad 0), .int (nI i), .int 3]) (n := 4) (Nat.le_of_ble_eq_true rfl)
  rw [lg_entry_eq]
  generalize (lg_sl ([.ref (ad 0), .int (nI i), .int 3]) ++ List.replicate (4 - (lg_sl ([.ref (ad 0), .int (nI i), .int 3])).length) Slot.unset).toArray = ls at hl ⊢
  have hl : lv_has ls 4 [(0, .ref (ad 0)), (1, .int (nI i)), (2, .int 3)] := hl
  refine lv_aload_n hx hb dX3_ofReceipt_0 rfl (lv_at hl 0 rfl) ?_
  refine lv_iload_n hx hb dX3_ofReceipt_1 rfl (lv_at hl 1 rfl) ?_
  refine c_callr (rest := []) K hP hS (c_X3_receiptNumbered_ok l hfl Z ad hinj g rc i (by assumption) (by assumption) (by assumption)) ok_X3_94 rfl ⟨Nat.le_of_ble_eq_true rfl, Nat.le_of_ble_eq_true rfl⟩ rfl hl.1 (Nat.le_of_ble_eq_true rfl) ⟨Nat.le_of_ble_eq_true rfl, Nat.le_of_ble_eq_true rfl⟩ dX3_ofReceipt_2 (fun H locs hP hS => ?_)
  refine lv_astore_n (lv' := [(3, .ref (ad (5 + i))), (0, .ref (ad 0)), (1, .int (nI i)), (2, .int 3)]) hx hb dX3_ofReceipt_5 rfl hl (by decide) rfl (fun ls hl => ?_)
  refine lv_iload_n hx hb dX3_ofReceipt_6 rfl (lv_at hl 3 rfl) ?_
  refine lv_tableIn (off := 44) (tgt := 51) hx hb dX3_ofReceipt_7 (by decide) (by decide) (by decide) (by decide) ?_
  refine lv_aload_n hx hb dX3_ofReceipt_51 rfl (lv_at hl 0 rfl) ?_
  refine cgR_stampedFor K hP (by omega) dX3_ofReceipt_52 ?_
  exact fx_reti hx hb hr hlocks hP hS (Nat.le_of_ble_eq_true rfl) (Nat.le_of_ble_eq_true rfl) dX3_ofReceipt_55 ⟨rfl, rfl⟩

set_option maxHeartbeats 4000000 in
set_option maxRecDepth 100000 in
theorem c_X3_ofTraveller_3 (l : Launch) (hfl : l.stackTraces = false) (Z : fx_Z) (ad : Nat → Nat) (hinj : fx_inj 115 ad) (g : St) (t : Nat) (ht9 : t < 10) : fx_C l Z yX3_ofTraveller cX3_ofTraveller 4 (some .int) 2 42 0 0 115 ad (cF ad Z.2.1) g [.ref (ad 0), .int (nI t), .int 3] (pI (if g 16 t = 0 then 0 else 1) g) (fun _ => False) := by
  intro sz
  refine vx_ofW (cc := cX3_ofTraveller) (maxL := 4) (ret := (some .int)) (by decide) rfl ?_
  intro p e s m args below meth c s₁ B hml hout hv
  obtain ⟨rfl, hsz, hP, hE, hSt⟩ := hv
  subst hsz
  have hx := B.exec
  have hb := B.bytes
  have hr := B.returns
  have hown : s.vm.findClass RX3 = some m.cls := findClass_of_methodNamed B.named
  have hlocks := B.notSynchronized
  have K : c_K p l s m ([.ref (ad 0), .int (nI t), .int 3] : List Value).toArray c cX3_ofTraveller 4 Z ad := ⟨hx, hb, hml, hown, fun w hw => atoms_spec (ws := fx_l yX3_ofTraveller cX3_ofTraveller 4 (some .int)) B.pre w (List.mem_cons_of_mem _ hw), hE, hSt, hinj, hfl⟩
  have hS : va_S (fx_A 115 ad s.heap.size) s.heap s.heap [] := va_S.rf
  have hl := lv_entry ([.ref (ad 0), .int (nI t), .int 3]) (n := 4) (Nat.le_of_ble_eq_true rfl)
  rw [lg_entry_eq]
  generalize (lg_sl ([.ref (ad 0), .int (nI t), .int 3]) ++ List.replicate (4 - (lg_sl ([.ref (ad 0), .int (nI t), .int 3])).length) Slot.unset).toArray = ls at hl ⊢
  have hl : lv_has ls 4 [(0, .ref (ad 0)), (1, .int (nI t)), (2, .int 3)] := hl
  refine lv_aload_n hx hb dX3_ofTraveller_0 rfl (lv_at hl 0 rfl) ?_
  refine lv_iload_n hx hb dX3_ofTraveller_1 rfl (lv_at hl 1 rfl) ?_
  refine c_callr (rest := []) K hP hS (c_X3_travellerNumbered_ok l hfl Z ad hinj g t (by assumption)) ok_X3_58 rfl ⟨Nat.le_of_ble_eq_true rfl, Nat.le_of_ble_eq_true rfl⟩ rfl hl.1 (Nat.le_of_ble_eq_true rfl) ⟨Nat.le_of_ble_eq_true rfl, Nat.le_of_ble_eq_true rfl⟩ dX3_ofTraveller_2 (fun H locs hP hS => ?_)
  refine lv_astore_n (lv' := [(3, .ref (ad (105 + t))), (0, .ref (ad 0)), (1, .int (nI t)), (2, .int 3)]) hx hb dX3_ofTraveller_5 rfl hl (by decide) rfl (fun ls hl => ?_)
  refine lv_iload_n hx hb dX3_ofTraveller_6 rfl (lv_at hl 3 rfl) ?_
  refine lv_tableIn (off := 44) (tgt := 51) hx hb dX3_ofTraveller_7 (by decide) (by decide) (by decide) (by decide) ?_
  refine lv_aload_n hx hb dX3_ofTraveller_51 rfl (lv_at hl 0 rfl) ?_
  refine cgT_left K hP (by omega) dX3_ofTraveller_52 ?_
  refine lv_if_eq (tgt := 62) hx hb dX3_ofTraveller_55 (by decide) (fun c1 => ?_) (fun c1 => ?_)
  · refine lv_iconst (v := 0) hx hb dX3_ofTraveller_62 (by decide) ?_
    exact fx_reti hx hb hr hlocks hP hS (Nat.le_of_ble_eq_true rfl) (Nat.le_of_ble_eq_true rfl) dX3_ofTraveller_63 ⟨by simp [c1], rfl⟩
  · refine lv_iconst (v := 1) hx hb dX3_ofTraveller_58 (by decide) ?_
    refine lv_goto (tgt := 63) hx hb dX3_ofTraveller_59 (by decide) ?_
    exact fx_reti hx hb hr hlocks hP hS (Nat.le_of_ble_eq_true rfl) (Nat.le_of_ble_eq_true rfl) dX3_ofTraveller_63 ⟨by simp [c1], rfl⟩

set_option maxHeartbeats 4000000 in
set_option maxRecDepth 100000 in
theorem c_X3_ofReceipt_x1 (l : Launch) (hfl : l.stackTraces = false) (Z : fx_Z) (ad : Nat → Nat) (hinj : fx_inj 115 ad) (g : St) (rc : Nat) (r : Int32) (w : Int32) (hrc : g 0 0 = nI rc) (hr6 : rc ≤ 60) (hbr : bad r rc) : fx_C l Z yX3_ofReceipt cX3_ofReceipt 4 (some .int) 7 103 1 6 115 ad (cF ad Z.2.1) g [.ref (ad 0), .int r, .int w] (fun _ _ => False) (fun E => E = "java/lang/IndexOutOfBoundsException") := by
  intro sz
  refine vx_ofW (cc := cX3_ofReceipt) (maxL := 4) (ret := (some .int)) (by decide) rfl ?_
  intro p e s m args below meth c s₁ B hml hout hv
  obtain ⟨rfl, hsz, hP, hE, hSt⟩ := hv
  subst hsz
  have hx := B.exec
  have hb := B.bytes
  have hr := B.returns
  have hown : s.vm.findClass RX3 = some m.cls := findClass_of_methodNamed B.named
  have hlocks := B.notSynchronized
  have K : c_K p l s m ([.ref (ad 0), .int r, .int w] : List Value).toArray c cX3_ofReceipt 4 Z ad := ⟨hx, hb, hml, hown, fun w hw => atoms_spec (ws := fx_l yX3_ofReceipt cX3_ofReceipt 4 (some .int)) B.pre w (List.mem_cons_of_mem _ hw), hE, hSt, hinj, hfl⟩
  have hS : va_S (fx_A 115 ad s.heap.size) s.heap s.heap [] := va_S.rf
  have hl := lv_entry ([.ref (ad 0), .int r, .int w]) (n := 4) (Nat.le_of_ble_eq_true rfl)
  rw [lg_entry_eq]
  generalize (lg_sl ([.ref (ad 0), .int r, .int w]) ++ List.replicate (4 - (lg_sl ([.ref (ad 0), .int r, .int w])).length) Slot.unset).toArray = ls at hl ⊢
  have hl : lv_has ls 4 [(0, .ref (ad 0)), (1, .int r), (2, .int w)] := hl
  refine lv_aload_n hx hb dX3_ofReceipt_0 rfl (lv_at hl 0 rfl) ?_
  refine lv_iload_n hx hb dX3_ofReceipt_1 rfl (lv_at hl 1 rfl) ?_
  exact c_callx (rest := []) K hlocks hout hP hS (c_X3_receiptNumbered_x l hfl Z ad hinj g rc r (by assumption) (by assumption) (by assumption)) ok_X3_94 rfl ⟨Nat.le_of_ble_eq_true rfl, Nat.le_of_ble_eq_true rfl⟩ rfl hl.1 (Nat.le_of_ble_eq_true rfl) ⟨Nat.le_of_ble_eq_true rfl, Nat.le_of_ble_eq_true rfl⟩ dX3_ofReceipt_2 (Nat.le_of_ble_eq_true rfl) (Nat.le_of_ble_eq_true rfl) (fun E hE => hE)

set_option maxHeartbeats 4000000 in
set_option maxRecDepth 100000 in
theorem c_X3_ofReceipt_x2 (l : Launch) (hfl : l.stackTraces = false) (Z : fx_Z) (ad : Nat → Nat) (hinj : fx_inj 115 ad) (g : St) (rc : Nat) (i : Nat) (w : Int32) (hi : i < rc) (hrc : g 0 0 = nI rc) (hr6 : rc ≤ 60) (hw : bad w 4) : fx_C l Z yX3_ofReceipt cX3_ofReceipt 4 (some .int) 6 82 1 6 115 ad (cF ad Z.2.1) g [.ref (ad 0), .int (nI i), .int w] (fun _ _ => False) (fun E => E = "java/lang/IllegalArgumentException") := by
  intro sz
  refine vx_ofW (cc := cX3_ofReceipt) (maxL := 4) (ret := (some .int)) (by decide) rfl ?_
  intro p e s m args below meth c s₁ B hml hout hv
  obtain ⟨rfl, hsz, hP, hE, hSt⟩ := hv
  subst hsz
  have hx := B.exec
  have hb := B.bytes
  have hr := B.returns
  have hown : s.vm.findClass RX3 = some m.cls := findClass_of_methodNamed B.named
  have hlocks := B.notSynchronized
  have K : c_K p l s m ([.ref (ad 0), .int (nI i), .int w] : List Value).toArray c cX3_ofReceipt 4 Z ad := ⟨hx, hb, hml, hown, fun w hw => atoms_spec (ws := fx_l yX3_ofReceipt cX3_ofReceipt 4 (some .int)) B.pre w (List.mem_cons_of_mem _ hw), hE, hSt, hinj, hfl⟩
  have hS : va_S (fx_A 115 ad s.heap.size) s.heap s.heap [] := va_S.rf
  have hl := lv_entry ([.ref (ad 0), .int (nI i), .int w]) (n := 4) (Nat.le_of_ble_eq_true rfl)
  rw [lg_entry_eq]
  generalize (lg_sl ([.ref (ad 0), .int (nI i), .int w]) ++ List.replicate (4 - (lg_sl ([.ref (ad 0), .int (nI i), .int w])).length) Slot.unset).toArray = ls at hl ⊢
  have hl : lv_has ls 4 [(0, .ref (ad 0)), (1, .int (nI i)), (2, .int w)] := hl
  refine lv_aload_n hx hb dX3_ofReceipt_0 rfl (lv_at hl 0 rfl) ?_
  refine lv_iload_n hx hb dX3_ofReceipt_1 rfl (lv_at hl 1 rfl) ?_
  refine c_callr (rest := []) K hP hS (c_X3_receiptNumbered_ok l hfl Z ad hinj g rc i (by assumption) (by assumption) (by assumption)) ok_X3_94 rfl ⟨Nat.le_of_ble_eq_true rfl, Nat.le_of_ble_eq_true rfl⟩ rfl hl.1 (Nat.le_of_ble_eq_true rfl) ⟨Nat.le_of_ble_eq_true rfl, Nat.le_of_ble_eq_true rfl⟩ dX3_ofReceipt_2 (fun H locs hP hS => ?_)
  refine lv_astore_n (lv' := [(3, .ref (ad (5 + i))), (0, .ref (ad 0)), (1, .int (nI i)), (2, .int w)]) hx hb dX3_ofReceipt_5 rfl hl (by decide) rfl (fun ls hl => ?_)
  refine lv_iload_n hx hb dX3_ofReceipt_6 rfl (lv_at hl 3 rfl) ?_
  refine lv_tableOut (tgt := 56) hx hb dX3_ofReceipt_7 (sw_out hw) (by decide) ?_
  exact c_throw (text := "what is out of range") K hlocks hout hP hS hl.1 xw_IAE xi_IAE (by decide) xa_IAE (by decide) dX3_ofReceipt_56 dX3_ofReceipt_59 dX3_ofReceipt_60 dX3_ofReceipt_62 dX3_ofReceipt_65 (Nat.le_of_ble_eq_true rfl) (Nat.le_of_ble_eq_true rfl) (Nat.le_of_ble_eq_true rfl) (Nat.le_of_ble_eq_true rfl) (Nat.le_of_ble_eq_true rfl) (Nat.le_of_ble_eq_true rfl) rfl

set_option maxHeartbeats 4000000 in
set_option maxRecDepth 100000 in
theorem c_X3_ofTraveller_x1 (l : Launch) (hfl : l.stackTraces = false) (Z : fx_Z) (ad : Nat → Nat) (hinj : fx_inj 115 ad) (g : St) (t : Int32) (w : Int32) (ht9 : bad t 10) : fx_C l Z yX3_ofTraveller cX3_ofTraveller 4 (some .int) 8 124 1 6 115 ad (cF ad Z.2.1) g [.ref (ad 0), .int t, .int w] (fun _ _ => False) (fun E => E = "java/lang/IndexOutOfBoundsException") := by
  intro sz
  refine vx_ofW (cc := cX3_ofTraveller) (maxL := 4) (ret := (some .int)) (by decide) rfl ?_
  intro p e s m args below meth c s₁ B hml hout hv
  obtain ⟨rfl, hsz, hP, hE, hSt⟩ := hv
  subst hsz
  have hx := B.exec
  have hb := B.bytes
  have hr := B.returns
  have hown : s.vm.findClass RX3 = some m.cls := findClass_of_methodNamed B.named
  have hlocks := B.notSynchronized
  have K : c_K p l s m ([.ref (ad 0), .int t, .int w] : List Value).toArray c cX3_ofTraveller 4 Z ad := ⟨hx, hb, hml, hown, fun w hw => atoms_spec (ws := fx_l yX3_ofTraveller cX3_ofTraveller 4 (some .int)) B.pre w (List.mem_cons_of_mem _ hw), hE, hSt, hinj, hfl⟩
  have hS : va_S (fx_A 115 ad s.heap.size) s.heap s.heap [] := va_S.rf
  have hl := lv_entry ([.ref (ad 0), .int t, .int w]) (n := 4) (Nat.le_of_ble_eq_true rfl)
  rw [lg_entry_eq]
  generalize (lg_sl ([.ref (ad 0), .int t, .int w]) ++ List.replicate (4 - (lg_sl ([.ref (ad 0), .int t, .int w])).length) Slot.unset).toArray = ls at hl ⊢
  have hl : lv_has ls 4 [(0, .ref (ad 0)), (1, .int t), (2, .int w)] := hl
  refine lv_aload_n hx hb dX3_ofTraveller_0 rfl (lv_at hl 0 rfl) ?_
  refine lv_iload_n hx hb dX3_ofTraveller_1 rfl (lv_at hl 1 rfl) ?_
  exact c_callx (rest := []) K hlocks hout hP hS (c_X3_travellerNumbered_x l hfl Z ad hinj g t (by assumption)) ok_X3_58 rfl ⟨Nat.le_of_ble_eq_true rfl, Nat.le_of_ble_eq_true rfl⟩ rfl hl.1 (Nat.le_of_ble_eq_true rfl) ⟨Nat.le_of_ble_eq_true rfl, Nat.le_of_ble_eq_true rfl⟩ dX3_ofTraveller_2 (Nat.le_of_ble_eq_true rfl) (Nat.le_of_ble_eq_true rfl) (fun E hE => hE)

set_option maxHeartbeats 4000000 in
set_option maxRecDepth 100000 in
theorem c_X3_ofTraveller_x2 (l : Launch) (hfl : l.stackTraces = false) (Z : fx_Z) (ad : Nat → Nat) (hinj : fx_inj 115 ad) (g : St) (t : Nat) (w : Int32) (ht9 : t < 10) (hw : bad w 4) : fx_C l Z yX3_ofTraveller cX3_ofTraveller 4 (some .int) 6 82 1 6 115 ad (cF ad Z.2.1) g [.ref (ad 0), .int (nI t), .int w] (fun _ _ => False) (fun E => E = "java/lang/IllegalArgumentException") := by
  intro sz
  refine vx_ofW (cc := cX3_ofTraveller) (maxL := 4) (ret := (some .int)) (by decide) rfl ?_
  intro p e s m args below meth c s₁ B hml hout hv
  obtain ⟨rfl, hsz, hP, hE, hSt⟩ := hv
  subst hsz
  have hx := B.exec
  have hb := B.bytes
  have hr := B.returns
  have hown : s.vm.findClass RX3 = some m.cls := findClass_of_methodNamed B.named
  have hlocks := B.notSynchronized
  have K : c_K p l s m ([.ref (ad 0), .int (nI t), .int w] : List Value).toArray c cX3_ofTraveller 4 Z ad := ⟨hx, hb, hml, hown, fun w hw => atoms_spec (ws := fx_l yX3_ofTraveller cX3_ofTraveller 4 (some .int)) B.pre w (List.mem_cons_of_mem _ hw), hE, hSt, hinj, hfl⟩
  have hS : va_S (fx_A 115 ad s.heap.size) s.heap s.heap [] := va_S.rf
  have hl := lv_entry ([.ref (ad 0), .int (nI t), .int w]) (n := 4) (Nat.le_of_ble_eq_true rfl)
  rw [lg_entry_eq]
  generalize (lg_sl ([.ref (ad 0), .int (nI t), .int w]) ++ List.replicate (4 - (lg_sl ([.ref (ad 0), .int (nI t), .int w])).length) Slot.unset).toArray = ls at hl ⊢
  have hl : lv_has ls 4 [(0, .ref (ad 0)), (1, .int (nI t)), (2, .int w)] := hl
  refine lv_aload_n hx hb dX3_ofTraveller_0 rfl (lv_at hl 0 rfl) ?_
  refine lv_iload_n hx hb dX3_ofTraveller_1 rfl (lv_at hl 1 rfl) ?_
  refine c_callr (rest := []) K hP hS (c_X3_travellerNumbered_ok l hfl Z ad hinj g t (by assumption)) ok_X3_58 rfl ⟨Nat.le_of_ble_eq_true rfl, Nat.le_of_ble_eq_true rfl⟩ rfl hl.1 (Nat.le_of_ble_eq_true rfl) ⟨Nat.le_of_ble_eq_true rfl, Nat.le_of_ble_eq_true rfl⟩ dX3_ofTraveller_2 (fun H locs hP hS => ?_)
  refine lv_astore_n (lv' := [(3, .ref (ad (105 + t))), (0, .ref (ad 0)), (1, .int (nI t)), (2, .int w)]) hx hb dX3_ofTraveller_5 rfl hl (by decide) rfl (fun ls hl => ?_)
  refine lv_iload_n hx hb dX3_ofTraveller_6 rfl (lv_at hl 3 rfl) ?_
  refine lv_tableOut (tgt := 64) hx hb dX3_ofTraveller_7 (sw_out hw) (by decide) ?_
  exact c_throw (text := "what is out of range") K hlocks hout hP hS hl.1 xw_IAE xi_IAE (by decide) xa_IAE (by decide) dX3_ofTraveller_64 dX3_ofTraveller_67 dX3_ofTraveller_68 dX3_ofTraveller_70 dX3_ofTraveller_73 (Nat.le_of_ble_eq_true rfl) (Nat.le_of_ble_eq_true rfl) (Nat.le_of_ble_eq_true rfl) (Nat.le_of_ble_eq_true rfl) (Nat.le_of_ble_eq_true rfl) (Nat.le_of_ble_eq_true rfl) rfl

set_option maxHeartbeats 4000000 in
set_option maxRecDepth 100000 in
theorem c_X3_debt_ok (l : Launch) (hfl : l.stackTraces = false) (Z : fx_Z) (ad : Nat → Nat) (hinj : fx_inj 115 ad) (g : St) (rc : Nat) (a : Nat) (ha : a < 5) (hrc : g 0 0 = nI rc) (hr6 : rc ≤ 60) : fx_C l Z yX3_debt cX3_debt 5 (some .int) 1 21 0 0 115 ad (cF ad Z.2.1) g [.ref (ad 0), .int (nI a)] (pI (dbt g a rc) g) (fun _ => False) := by
  intro sz
  refine vx_ofW (cc := cX3_debt) (maxL := 5) (ret := (some .int)) (by decide) rfl ?_
  intro p e s m args below meth c s₁ B hml hout hv
  obtain ⟨rfl, hsz, hP, hE, hSt⟩ := hv
  subst hsz
  have hx := B.exec
  have hb := B.bytes
  have hr := B.returns
  have hown : s.vm.findClass RX3 = some m.cls := findClass_of_methodNamed B.named
  have hlocks := B.notSynchronized
  have K : c_K p l s m ([.ref (ad 0), .int (nI a)] : List Value).toArray c cX3_debt 5 Z ad := ⟨hx, hb, hml, hown, fun w hw => atoms_spec (ws := fx_l yX3_debt cX3_debt 5 (some .int)) B.pre w (List.mem_cons_of_mem _ hw), hE, hSt, hinj, hfl⟩
  have hS : va_S (fx_A 115 ad s.heap.size) s.heap s.heap [] := va_S.rf
  have hl := lv_entry ([.ref (ad 0), .int (nI a)]) (n := 5) (Nat.le_of_ble_eq_true rfl)
  rw [lg_entry_eq]
  generalize (lg_sl ([.ref (ad 0), .int (nI a)]) ++ List.replicate (5 - (lg_sl ([.ref (ad 0), .int (nI a)])).length) Slot.unset).toArray = ls at hl ⊢
  have hl : lv_has ls 5 [(0, .ref (ad 0)), (1, .int (nI a))] := hl
  refine lv_aload_n hx hb dX3_debt_0 rfl (lv_at hl 0 rfl) ?_
  refine lv_iload_n hx hb dX3_debt_1 rfl (lv_at hl 1 rfl) ?_
  refine c_callv (rest := []) K hP hS (c_X3_requireShop_ok l hfl Z ad hinj g a (by assumption)) ok_X3_55 rfl ⟨Nat.le_of_ble_eq_true rfl, Nat.le_of_ble_eq_true rfl⟩ rfl hl.1 (Nat.le_of_ble_eq_true rfl) ⟨Nat.le_of_ble_eq_true rfl, Nat.le_of_ble_eq_true rfl⟩ dX3_debt_2 (fun H locs hP hS => ?_)
  refine lv_iconst (v := 0) hx hb dX3_debt_5 (by decide) ?_
  refine lv_istore_n (lv' := [(2, .int 0), (0, .ref (ad 0)), (1, .int (nI a))]) hx hb dX3_debt_6 rfl hl (by decide) rfl (fun ls hl => ?_)
  refine lv_iconst (v := 0) hx hb dX3_debt_7 (by decide) ?_
  refine lv_istore_n (lv' := [(3, .int 0), (2, .int 0), (0, .ref (ad 0)), (1, .int (nI a))]) hx hb dX3_debt_8 rfl hl (by decide) rfl (fun ls hl => ?_)
  have hloop9 : ∀ (d : Nat) (r : Nat) (x : Int32), r + d = rc → x = dbt g a r → ∀ (H : Heap) (locs : List Loc), va_P Z.1 vwCl (iw 115 (cF ad Z.2.1 g)) H → va_S (fx_A 115 ad s.heap.size) s.heap H locs → ∀ ls : Array Slot, lv_has ls 5 [(0, .ref (ad 0)), (1, .int (nI a)), (2, .int x), (3, .int (nI r))] → W p l e (headSpec (fx_l yX3_debt cX3_debt 5 (some .int)) { frames := 1, cells := 0, slots := 0, locals := 21 }).room s m ([.ref (ad 0), .int (nI a)] : List Value).toArray below meth c H locs 0 0 (vx_MQ below (fx_post Z 115 ad (cF ad Z.2.1) (pI (dbt g a rc) g) s.heap.size) (fx_px Z 115 ad (cF ad Z.2.1 g) (fun _ => False) s.heap.size) ([.ref (ad 0), .int (nI a)] : List Value).toArray s 0 0 (fx_A 115 ad s.heap.size)) (F0 m 9 ls []) := by
    intro d
    induction d with
    | zero =>
      intro r x hd hx2 H locs hP hS ls hl
      refine lv_iload_n hx hb dX3_debt_9 rfl (lv_at hl 3 rfl) ?_
      refine lv_aload_n hx hb dX3_debt_10 rfl (lv_at hl 0 rfl) ?_
      refine cg_receiptCount K hP dX3_debt_11 ?_
      rw [hrc]
      refine lv_icmp_ge (tgt := 57) hx hb dX3_debt_14 (by decide) (fun _ => ?_) (fun c1 => absurd (nI_le (by omega) (by omega)) c1)
      refine lv_iload_n hx hb dX3_debt_57 rfl (lv_at hl 2 rfl) ?_
      exact fx_reti hx hb hr hlocks hP hS (Nat.le_of_ble_eq_true rfl) (Nat.le_of_ble_eq_true rfl) dX3_debt_58 ⟨(by rw [hx2, show r = rc by omega]), rfl⟩
    | succ d ih9 =>
      intro r x hd hx2 H locs hP hS ls hl
      refine lv_iload_n hx hb dX3_debt_9 rfl (lv_at hl 3 rfl) ?_
      refine lv_aload_n hx hb dX3_debt_10 rfl (lv_at hl 0 rfl) ?_
      refine cg_receiptCount K hP dX3_debt_11 ?_
      rw [hrc]
      refine lv_icmp_ge (tgt := 57) hx hb dX3_debt_14 (by decide) (fun c2 => absurd c2 (nI_ge (by omega) (by omega))) (fun _ => ?_)
      refine lv_aload_n hx hb dX3_debt_17 rfl (lv_at hl 0 rfl) ?_
      refine cg_receipts K hP dX3_debt_18 ?_
      refine lv_iload_n hx hb dX3_debt_21 rfl (lv_at hl 3 rfl) ?_
      refine c_aldR K hP (by omega) dX3_debt_22 ?_
      refine lv_astore (lv' := [(4, .ref (ad (5 + r))), (0, .ref (ad 0)), (1, .int (nI a)), (2, .int x), (3, .int (nI r))]) hx hb dX3_debt_23 hl (by decide) rfl (fun ls hl => ?_)
      refine lv_aload hx hb dX3_debt_25 (lv_at hl 0 rfl) ?_
      refine cgR_shop K hP (by omega) dX3_debt_27 ?_
      refine lv_iload_n hx hb dX3_debt_30 rfl (lv_at hl 2 rfl) ?_
      refine lv_icmp_ne (tgt := 51) hx hb dX3_debt_31 (by decide) (fun c3 => ?_) (fun c3 => ?_)
      · refine lv_iinc (v := nI (r + 1)) (lv' := [(3, .int (nI (r + 1))), (4, .ref (ad (5 + r))), (0, .ref (ad 0)), (1, .int (nI a)), (2, .int x)]) hx hb dX3_debt_51 hl (k := 4) rfl (nI_1 _) (by decide) rfl (fun ls hl => ?_)
        refine lv_goto (tgt := 9) hx hb dX3_debt_54 (by decide) ?_
        exact ih9 (r + 1) x (by omega) (by rw [hx2]; simp [dbt, c3]) H locs hP hS ls (lv_sub hl [2, 3, 4, 0] rfl)
      · refine lv_aload hx hb dX3_debt_34 (lv_at hl 0 rfl) ?_
        refine cgR_state K hP (by omega) dX3_debt_36 ?_
        refine lv_iconst (v := 4) hx hb dX3_debt_39 (by decide) ?_
        refine lv_icmp_eq (tgt := 51) hx hb dX3_debt_40 (by decide) (fun c4 => ?_) (fun c4 => ?_)
        · refine lv_iinc (v := nI (r + 1)) (lv' := [(3, .int (nI (r + 1))), (4, .ref (ad (5 + r))), (0, .ref (ad 0)), (1, .int (nI a)), (2, .int x)]) hx hb dX3_debt_51 hl (k := 4) rfl (nI_1 _) (by decide) rfl (fun ls hl => ?_)
          refine lv_goto (tgt := 9) hx hb dX3_debt_54 (by decide) ?_
          exact ih9 (r + 1) x (by omega) (by rw [hx2]; simp [dbt, c3, c4]) H locs hP hS ls (lv_sub hl [2, 3, 4, 0] rfl)
        · refine lv_iload_n hx hb dX3_debt_43 rfl (lv_at hl 3 rfl) ?_
          refine lv_aload hx hb dX3_debt_44 (lv_at hl 0 rfl) ?_
          refine cgR_tax K hP (by omega) dX3_debt_46 ?_
          refine lv_iadd hx hb dX3_debt_49 ?_
          refine lv_topi (fun v5 e5 => ?_)
          refine lv_istore_n (lv' := [(2, .int v5), (4, .ref (ad (5 + r))), (0, .ref (ad 0)), (1, .int (nI a)), (3, .int (nI r))]) hx hb dX3_debt_50 rfl hl (by decide) rfl (fun ls hl => ?_)
          refine lv_iinc (v := nI (r + 1)) (lv' := [(3, .int (nI (r + 1))), (2, .int v5), (4, .ref (ad (5 + r))), (0, .ref (ad 0)), (1, .int (nI a))]) hx hb dX3_debt_51 hl (k := 4) rfl (nI_1 _) (by decide) rfl (fun ls hl => ?_)
          refine lv_goto (tgt := 9) hx hb dX3_debt_54 (by decide) ?_
          exact ih9 (r + 1) v5 (by omega) (by rw [e5, hx2]; simp [dbt, c3, c4]) H locs hP hS ls (lv_sub hl [3, 4, 1, 0] rfl)
  exact hloop9 rc 0 0 (by omega) rfl H locs hP hS ls (lv_sub hl [2, 3, 1, 0] rfl)

set_option maxHeartbeats 4000000 in
set_option maxRecDepth 100000 in
theorem c_X3_debt_x1 (l : Launch) (hfl : l.stackTraces = false) (Z : fx_Z) (ad : Nat → Nat) (hinj : fx_inj 115 ad) (g : St) (a : Int32) (ha : bad a 5) : fx_C l Z yX3_debt cX3_debt 5 (some .int) 7 103 1 6 115 ad (cF ad Z.2.1) g [.ref (ad 0), .int a] (fun _ _ => False) (fun E => E = "java/lang/IndexOutOfBoundsException") := by
  intro sz
  refine vx_ofW (cc := cX3_debt) (maxL := 5) (ret := (some .int)) (by decide) rfl ?_
  intro p e s m args below meth c s₁ B hml hout hv
  obtain ⟨rfl, hsz, hP, hE, hSt⟩ := hv
  subst hsz
  have hx := B.exec
  have hb := B.bytes
  have hr := B.returns
  have hown : s.vm.findClass RX3 = some m.cls := findClass_of_methodNamed B.named
  have hlocks := B.notSynchronized
  have K : c_K p l s m ([.ref (ad 0), .int a] : List Value).toArray c cX3_debt 5 Z ad := ⟨hx, hb, hml, hown, fun w hw => atoms_spec (ws := fx_l yX3_debt cX3_debt 5 (some .int)) B.pre w (List.mem_cons_of_mem _ hw), hE, hSt, hinj, hfl⟩
  have hS : va_S (fx_A 115 ad s.heap.size) s.heap s.heap [] := va_S.rf
  have hl := lv_entry ([.ref (ad 0), .int a]) (n := 5) (Nat.le_of_ble_eq_true rfl)
  rw [lg_entry_eq]
  generalize (lg_sl ([.ref (ad 0), .int a]) ++ List.replicate (5 - (lg_sl ([.ref (ad 0), .int a])).length) Slot.unset).toArray = ls at hl ⊢
  have hl : lv_has ls 5 [(0, .ref (ad 0)), (1, .int a)] := hl
  refine lv_aload_n hx hb dX3_debt_0 rfl (lv_at hl 0 rfl) ?_
  refine lv_iload_n hx hb dX3_debt_1 rfl (lv_at hl 1 rfl) ?_
  exact c_callx (rest := []) K hlocks hout hP hS (c_X3_requireShop_x l hfl Z ad hinj g a (by assumption)) ok_X3_55 rfl ⟨Nat.le_of_ble_eq_true rfl, Nat.le_of_ble_eq_true rfl⟩ rfl hl.1 (Nat.le_of_ble_eq_true rfl) ⟨Nat.le_of_ble_eq_true rfl, Nat.le_of_ble_eq_true rfl⟩ dX3_debt_2 (Nat.le_of_ble_eq_true rfl) (Nat.le_of_ble_eq_true rfl) (fun E hE => hE)

