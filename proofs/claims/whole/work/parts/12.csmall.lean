/-! ===== calls within the class ===== -/
def pR (a : Nat) (G : St) : Option Value → St → Prop := fun v u => v = some (.ref a) ∧ u = G
section FXK2
variable {p : Program} {l : Launch} {e : Env} {R : Room} {s : State} {m : MethodId} {args : Array Value} {below : List Frame} {meth : Method} {c : Code} {H : Heap} {locs : List Loc} {cells slots : Nat} {Q : State → Prop}
variable {Z : fx_Z} {ad : Nat → Nat} {cc : ByteArray} {pc nL : Nat} {ls : Array Slot} {rest : List Value} {g : St}
variable {fr lo maxL n idx : Nat} {y : MethodName} {bytes : ByteArray} {ret : Option FieldType} {As st0 : List Value}
theorem c_calli {r : Int32} {G : St} (K : c_K p l s m args c cc nL Z ad) (hP : va_P Z.1 vwCl (iw 115 (cF ad Z.2.1 g)) H) (hS : va_S (fx_A 115 ad s.heap.size) s.heap H locs)
    (hM : fx_C l Z y bytes maxL ret fr lo 0 0 115 ad (cF ad Z.2.1) g (.ref (ad 0) :: As) (pI r G) (fun _ => False)) (hok : fx_ok RX3 idx RX3 y bytes maxL ret n) (hst0 : st0 = As.reverse ++ .ref (ad 0) :: rest)
    (hroom : fr + 1 ≤ R.frames ∧ 8 + (maxL + 11) + lo ≤ R.locals) (hn : As.length = n) (hsize : ls.size = nL) (hrest : (rest.map fun v => v.category).sum ≤ 8) (hcap : cells + 0 ≤ R.cells ∧ slots + 0 ≤ R.slots) (hdg : decode cc pc = .ok (.invokevirtual idx, 3))
    (kk : ∀ (H1 : Heap) (locs1 : List Loc), va_P Z.1 vwCl (iw 115 (cF ad Z.2.1 G)) H1 → va_S (fx_A 115 ad s.heap.size) s.heap H1 locs1 → W p l e R s m args below meth c H1 locs1 cells slots Q (F0 m (pc + 3) ls (.int r :: rest))) :
    W p l e R s m args below meth c H locs cells slots Q (F0 m pc ls st0) := by
  have hrecv := c_recv K hP
  obtain ⟨hx, hb, hml, hown, hT, hE, hSt, hinj, -⟩ := K
  refine fx_callV hx hb hml hown hT hE hSt (fun k hk => c_A hk) c_A2 hP hS hM hok hrecv hst0 hroom hn hsize hrest hcap hdg (fun _ _ _ _ _ hf => hf.elim) (fun v u H1 locs1 hp hP1 hS1 _ _ => ?_)
  obtain ⟨rfl, rfl⟩ := hp
  exact kk H1 locs1 hP1 hS1
theorem c_callr {a : Nat} {G : St} (K : c_K p l s m args c cc nL Z ad) (hP : va_P Z.1 vwCl (iw 115 (cF ad Z.2.1 g)) H) (hS : va_S (fx_A 115 ad s.heap.size) s.heap H locs)
    (hM : fx_C l Z y bytes maxL ret fr lo 0 0 115 ad (cF ad Z.2.1) g (.ref (ad 0) :: As) (pR a G) (fun _ => False)) (hok : fx_ok RX3 idx RX3 y bytes maxL ret n) (hst0 : st0 = As.reverse ++ .ref (ad 0) :: rest)
    (hroom : fr + 1 ≤ R.frames ∧ 8 + (maxL + 11) + lo ≤ R.locals) (hn : As.length = n) (hsize : ls.size = nL) (hrest : (rest.map fun v => v.category).sum ≤ 8) (hcap : cells + 0 ≤ R.cells ∧ slots + 0 ≤ R.slots) (hdg : decode cc pc = .ok (.invokevirtual idx, 3))
    (kk : ∀ (H1 : Heap) (locs1 : List Loc), va_P Z.1 vwCl (iw 115 (cF ad Z.2.1 G)) H1 → va_S (fx_A 115 ad s.heap.size) s.heap H1 locs1 → W p l e R s m args below meth c H1 locs1 cells slots Q (F0 m (pc + 3) ls (.ref a :: rest))) :
    W p l e R s m args below meth c H locs cells slots Q (F0 m pc ls st0) := by
  have hrecv := c_recv K hP
  obtain ⟨hx, hb, hml, hown, hT, hE, hSt, hinj, -⟩ := K
  refine fx_callV hx hb hml hown hT hE hSt (fun k hk => c_A hk) c_A2 hP hS hM hok hrecv hst0 hroom hn hsize hrest hcap hdg (fun _ _ _ _ _ hf => hf.elim) (fun v u H1 locs1 hp hP1 hS1 _ _ => ?_)
  obtain ⟨rfl, rfl⟩ := hp
  exact kk H1 locs1 hP1 hS1
theorem c_callv {G : St} (K : c_K p l s m args c cc nL Z ad) (hP : va_P Z.1 vwCl (iw 115 (cF ad Z.2.1 g)) H) (hS : va_S (fx_A 115 ad s.heap.size) s.heap H locs)
    (hM : fx_C l Z y bytes maxL ret fr lo 0 0 115 ad (cF ad Z.2.1) g (.ref (ad 0) :: As) (pV G) (fun _ => False)) (hok : fx_ok RX3 idx RX3 y bytes maxL ret n) (hst0 : st0 = As.reverse ++ .ref (ad 0) :: rest)
    (hroom : fr + 1 ≤ R.frames ∧ 8 + (maxL + 11) + lo ≤ R.locals) (hn : As.length = n) (hsize : ls.size = nL) (hrest : (rest.map fun v => v.category).sum ≤ 8) (hcap : cells + 0 ≤ R.cells ∧ slots + 0 ≤ R.slots) (hdg : decode cc pc = .ok (.invokevirtual idx, 3))
    (kk : ∀ (H1 : Heap) (locs1 : List Loc), va_P Z.1 vwCl (iw 115 (cF ad Z.2.1 G)) H1 → va_S (fx_A 115 ad s.heap.size) s.heap H1 locs1 → W p l e R s m args below meth c H1 locs1 cells slots Q (F0 m (pc + 3) ls (rest))) :
    W p l e R s m args below meth c H locs cells slots Q (F0 m pc ls st0) := by
  have hrecv := c_recv K hP
  obtain ⟨hx, hb, hml, hown, hT, hE, hSt, hinj, -⟩ := K
  refine fx_callV hx hb hml hown hT hE hSt (fun k hk => c_A hk) c_A2 hP hS hM hok hrecv hst0 hroom hn hsize hrest hcap hdg (fun _ _ _ _ _ hf => hf.elim) (fun v u H1 locs1 hp hP1 hS1 _ _ => ?_)
  obtain ⟨rfl, rfl⟩ := hp
  exact kk H1 locs1 hP1 hS1
theorem c_callb {B : Prop} [Decidable B] {G : St} (K : c_K p l s m args c cc nL Z ad) (hP : va_P Z.1 vwCl (iw 115 (cF ad Z.2.1 g)) H) (hS : va_S (fx_A 115 ad s.heap.size) s.heap H locs)
    (hM : fx_C l Z y bytes maxL ret fr lo 0 0 115 ad (cF ad Z.2.1) g (.ref (ad 0) :: As) (pI (if B then 1 else 0) G) (fun _ => False)) (hok : fx_ok RX3 idx RX3 y bytes maxL ret n) (hst0 : st0 = As.reverse ++ .ref (ad 0) :: rest)
    (hroom : fr + 1 ≤ R.frames ∧ 8 + (maxL + 11) + lo ≤ R.locals) (hn : As.length = n) (hsize : ls.size = nL) (hrest : (rest.map fun v => v.category).sum ≤ 8) (hcap : cells + 0 ≤ R.cells ∧ slots + 0 ≤ R.slots) (hdg : decode cc pc = .ok (.invokevirtual idx, 3)) 
    (kt : B → ∀ (H1 : Heap) (locs1 : List Loc), va_P Z.1 vwCl (iw 115 (cF ad Z.2.1 G)) H1 → va_S (fx_A 115 ad s.heap.size) s.heap H1 locs1 → W p l e R s m args below meth c H1 locs1 cells slots Q (F0 m (pc + 3) ls (.int 1 :: rest)))
    (kf : ¬ B → ∀ (H1 : Heap) (locs1 : List Loc), va_P Z.1 vwCl (iw 115 (cF ad Z.2.1 G)) H1 → va_S (fx_A 115 ad s.heap.size) s.heap H1 locs1 → W p l e R s m args below meth c H1 locs1 cells slots Q (F0 m (pc + 3) ls (.int 0 :: rest))) :
    W p l e R s m args below meth c H locs cells slots Q (F0 m pc ls st0) := by
  refine c_calli K hP hS hM hok hst0 hroom hn hsize hrest hcap hdg (fun H1 locs1 hP1 hS1 => ?_)
  by_cases hB : B
  · rw [if_pos hB]; exact kt hB H1 locs1 hP1 hS1
  · rw [if_neg hB]; exact kf hB H1 locs1 hP1 hS1
theorem c_callt {B : Prop} [Decidable B] {G : St} (K : c_K p l s m args c cc nL Z ad) (hP : va_P Z.1 vwCl (iw 115 (cF ad Z.2.1 g)) H) (hS : va_S (fx_A 115 ad s.heap.size) s.heap H locs)
    (hM : fx_C l Z y bytes maxL ret fr lo 0 0 115 ad (cF ad Z.2.1) g (.ref (ad 0) :: As) (pI (if B then 1 else 0) G) (fun _ => False)) (hok : fx_ok RX3 idx RX3 y bytes maxL ret n) (hst0 : st0 = As.reverse ++ .ref (ad 0) :: rest)
    (hroom : fr + 1 ≤ R.frames ∧ 8 + (maxL + 11) + lo ≤ R.locals) (hn : As.length = n) (hsize : ls.size = nL) (hrest : (rest.map fun v => v.category).sum ≤ 8) (hcap : cells + 0 ≤ R.cells ∧ slots + 0 ≤ R.slots) (hdg : decode cc pc = .ok (.invokevirtual idx, 3)) (hB : B) 
    (kt : ∀ (H1 : Heap) (locs1 : List Loc), va_P Z.1 vwCl (iw 115 (cF ad Z.2.1 G)) H1 → va_S (fx_A 115 ad s.heap.size) s.heap H1 locs1 → W p l e R s m args below meth c H1 locs1 cells slots Q (F0 m (pc + 3) ls (.int 1 :: rest))) :
    W p l e R s m args below meth c H locs cells slots Q (F0 m pc ls st0) := by
  exact c_callb K hP hS hM hok hst0 hroom hn hsize hrest hcap hdg (fun _ => kt) (fun h => absurd hB h)
theorem c_callf {B : Prop} [Decidable B] {G : St} (K : c_K p l s m args c cc nL Z ad) (hP : va_P Z.1 vwCl (iw 115 (cF ad Z.2.1 g)) H) (hS : va_S (fx_A 115 ad s.heap.size) s.heap H locs)
    (hM : fx_C l Z y bytes maxL ret fr lo 0 0 115 ad (cF ad Z.2.1) g (.ref (ad 0) :: As) (pI (if B then 1 else 0) G) (fun _ => False)) (hok : fx_ok RX3 idx RX3 y bytes maxL ret n) (hst0 : st0 = As.reverse ++ .ref (ad 0) :: rest)
    (hroom : fr + 1 ≤ R.frames ∧ 8 + (maxL + 11) + lo ≤ R.locals) (hn : As.length = n) (hsize : ls.size = nL) (hrest : (rest.map fun v => v.category).sum ≤ 8) (hcap : cells + 0 ≤ R.cells ∧ slots + 0 ≤ R.slots) (hdg : decode cc pc = .ok (.invokevirtual idx, 3)) (hB : ¬ B) 
    (kf : ∀ (H1 : Heap) (locs1 : List Loc), va_P Z.1 vwCl (iw 115 (cF ad Z.2.1 G)) H1 → va_S (fx_A 115 ad s.heap.size) s.heap H1 locs1 → W p l e R s m args below meth c H1 locs1 cells slots Q (F0 m (pc + 3) ls (.int 0 :: rest))) :
    W p l e R s m args below meth c H locs cells slots Q (F0 m pc ls st0) := by
  exact c_callb K hP hS hM hok hst0 hroom hn hsize hrest hcap hdg (fun h => absurd h hB) (fun _ => kf)
/-- a callee that throws: it goes on to the caller -/
theorem c_callx {mc ms : Nat} {Qc : Array Value → State → Outcome → State → Prop} {px px0 : String → Prop} (K : c_K p l s m args c cc nL Z ad) (hlocks : meth.locks = false) (hout : ∀ x ∈ c.exceptionTable.toList, False) (hP : va_P Z.1 vwCl (iw 115 (cF ad Z.2.1 g)) H) (hS : va_S (fx_A 115 ad s.heap.size) s.heap H locs)
    (hM : fx_C l Z y bytes maxL ret fr lo 1 6 115 ad (cF ad Z.2.1) g (.ref (ad 0) :: As) (fun _ _ => False) px) (hok : fx_ok RX3 idx RX3 y bytes maxL ret n) (hst0 : st0 = As.reverse ++ .ref (ad 0) :: rest)
    (hroom : fr + 1 ≤ R.frames ∧ 8 + (maxL + 11) + lo ≤ R.locals) (hn : As.length = n) (hsize : ls.size = nL) (hrest : (rest.map fun v => v.category).sum ≤ 8) (hcap : cells + 1 ≤ R.cells ∧ slots + 6 ≤ R.slots) (hdg : decode cc pc = .ok (.invokevirtual idx, 3)) (hc : cells + 1 ≤ mc) (hs : slots + 6 ≤ ms) (hpx : ∀ E, px E → px0 E) :
    W p l e R s m args below meth c H locs cells slots (vx_MQ below Qc (fx_px Z 115 ad (cF ad Z.2.1 g) px0 s.heap.size) args s mc ms (fx_A 115 ad s.heap.size)) (F0 m pc ls st0) := by
  have hrecv := c_recv K hP
  obtain ⟨hx, hb, hml, hown, hT, hE, hSt, hinj, -⟩ := K
  refine fx_callV hx hb hml hown hT hE hSt (fun k hk => c_A hk) c_A2 hP hS hM hok hrecv hst0 hroom hn hsize hrest hcap hdg (fun E ce q9 H1 locs1 hp hP1 hS1 _ _ h1 h2 h3 => ?_) (fun v u H1 locs1 hp _ _ _ _ => hp.elim)
  exact fx_out hout hlocks hP1 hS1 hc hs h1 h2 h3 (hpx E hp)
/-- Math.min -/
theorem c_min {a b : Int32} (K : c_K p l s m args c cc nL Z ad) (hsize : ls.size = nL) (h1 : 1 ≤ R.frames) (h2 : (rest.map fun v => v.category).sum + 13 ≤ R.locals) (hc : cells ≤ R.cells) (hs : slots ≤ R.slots) (hdg : decode cc pc = .ok (.invokestatic 265, 3))
    (kk : W p l e R s m args below meth c H locs cells slots Q (F0 m (pc + 3) ls (.int (if b < a then b else a) :: rest))) : W p l e R s m args below meth c H locs cells slots Q (F0 m pc ls (.int b :: .int a :: rest)) := by
  obtain ⟨hx, hb, hml, hown, hT, -⟩ := K
  exact va_mmin hx hb (by rw [hml, hsize]) (own := RX3) (index := 265) hown (hT _ (fx_w 452 (by decide +kernel) rfl)) (hT _ (fx_w 453 (by decide +kernel) rfl)) (hT _ (fx_w 48 (by decide +kernel) rfl)) (hT _ (fx_w 454 (by decide +kernel) rfl)) h1 h2 hc hs hdg kk
end FXK2
theorem bad_lt {x : Int32} {n : Nat} (hn : n ≤ 2 ^ 31) (h : x < 0) : bad x n := fun j hj e => by
  rw [e] at h
  exact nI_pos (by omega) h
theorem bad_ge {x M : Int32} {n : Nat} (hM : M = nI n) (hn : n < 2 ^ 31) (h : M ≤ x) : bad x n := fun j hj e => by
  rw [e, hM] at h
  exact nI_ge hj hn h
theorem nI_ltM {j n : Nat} {M : Int32} (hM : M = nI n) (h : j < n) (hn : n < 2 ^ 31) : nI j < M := by
  rw [hM]
  exact nI_lt h hn
theorem not_bad {x M : Int32} {n : Nat} (hM : M = nI n) (hn : n < 2 ^ 31) (h1 : ¬ x < 0) (h2 : x < M) : ¬ bad x n := fun hb => by
  obtain ⟨j, hj, rfl⟩ := nI_of h1
  have h3 : ¬ M ≤ nI j := fun q => absurd h2 (Int32.not_lt.mpr q)
  rw [hM] at h3
  exact hb j (Nat.lt_of_not_le fun q => h3 (nI_le q hj)) rfl
def pwN (g : St) (f : Nat) (x : Int32) : Nat → Nat
  | 0 => 0
  | n + 1 => pwN g f x n + (if g (30 + f) n = x then 1 else 0)
theorem ok_X3_135 : fx_ok RX3 135 RX3 yX3_requireTraveller cX3_requireTraveller 2 none 1 := ⟨fx_w 283 (by decide +kernel) rfl, fx_w 280 (by decide +kernel) rfl, fx_w 282 (by decide +kernel) rfl, fx_w 4 (by decide +kernel) rfl, fx_w 37 (by decide +kernel) rfl, by decide +kernel⟩
theorem ok_X3_120 : fx_ok RX3 120 RX3 yX3_requireNotSailed cX3_requireNotSailed 2 none 1 := ⟨fx_w 350 (by decide +kernel) rfl, fx_w 347 (by decide +kernel) rfl, fx_w 349 (by decide +kernel) rfl, fx_w 9 (by decide +kernel) rfl, fx_w 37 (by decide +kernel) rfl, by decide +kernel⟩
theorem ok_X3_155 : fx_ok RX3 155 RX3 yX3_placesWith cX3_placesWith 5 (some .int) 2 := ⟨fx_w 360 (by decide +kernel) rfl, fx_w 357 (by decide +kernel) rfl, fx_w 359 (by decide +kernel) rfl, fx_w 11 (by decide +kernel) rfl, fx_w 37 (by decide +kernel) rfl, by decide +kernel⟩
set_option maxHeartbeats 4000000 in
set_option maxRecDepth 100000 in
theorem c_X3_requireShop_ok (l : Launch) (hfl : l.stackTraces = false) (Z : fx_Z) (ad : Nat → Nat) (hinj : fx_inj 115 ad) (g : St) (x : Nat) (hx9 : x < 5) : fx_C l Z yX3_requireShop cX3_requireShop 2 none 0 0 0 0 115 ad (cF ad Z.2.1) g [.ref (ad 0), .int (nI x)] (pV g) (fun _ => False) := by
  intro sz
  refine vx_ofW (cc := cX3_requireShop) (maxL := 2) (ret := none) (by decide) rfl ?_
  intro p e s m args below meth c s₁ B hml hout hv
  obtain ⟨rfl, hsz, hP, hE, hSt⟩ := hv
  subst hsz
  have hx := B.exec
  have hb := B.bytes
  have hr := B.returns
  have hown : s.vm.findClass RX3 = some m.cls := findClass_of_methodNamed B.named
  have hlocks := B.notSynchronized
  have K : c_K p l s m ([.ref (ad 0), .int (nI x)] : List Value).toArray c cX3_requireShop 2 Z ad := ⟨hx, hb, hml, hown, fun w hw => atoms_spec (ws := fx_l yX3_requireShop cX3_requireShop 2 none) B.pre w (List.mem_cons_of_mem _ hw), hE, hSt, hinj, hfl⟩
  have hS : va_S (fx_A 115 ad s.heap.size) s.heap s.heap [] := va_S.rf
  have hl := lv_entry ([.ref (ad 0), .int (nI x)]) (n := 2) (Nat.le_of_ble_eq_true rfl)
  rw [lg_entry_eq]
  generalize (lg_sl ([.ref (ad 0), .int (nI x)]) ++ List.replicate (2 - (lg_sl ([.ref (ad 0), .int (nI x)])).length) Slot.unset).toArray = ls at hl ⊢
  have hl : lv_has ls 2 [(0, .ref (ad 0)), (1, .int (nI x))] := hl
  refine lv_iload_n hx hb dX3_requireShop_0 rfl (lv_at hl 1 rfl) ?_
  refine lv_if_lt (tgt := 9) hx hb dX3_requireShop_1 (by decide) (fun c1 => absurd c1 (nI_pos (by omega))) (fun _ => ?_)
  refine lv_iload_n hx hb dX3_requireShop_4 rfl (lv_at hl 1 rfl) ?_
  refine lv_iconst (v := 5) hx hb dX3_requireShop_5 (by decide) ?_
  refine lv_icmp_lt (tgt := 19) hx hb dX3_requireShop_6 (by decide) (fun _ => ?_) (fun c2 => absurd (nI_ltM (n := 5) rfl hx9 (by decide)) c2)
  exact fx_retv hx hb hr hlocks hP hS (Nat.le_of_ble_eq_true rfl) (Nat.le_of_ble_eq_true rfl) dX3_requireShop_19 ⟨rfl, rfl⟩

set_option maxHeartbeats 4000000 in
set_option maxRecDepth 100000 in
theorem c_X3_requireShop_x (l : Launch) (hfl : l.stackTraces = false) (Z : fx_Z) (ad : Nat → Nat) (hinj : fx_inj 115 ad) (g : St) (x : Int32) (hx9 : bad x 5) : fx_C l Z yX3_requireShop cX3_requireShop 2 none 6 82 1 6 115 ad (cF ad Z.2.1) g [.ref (ad 0), .int x] (fun _ _ => False) (fun E => E = "java/lang/IndexOutOfBoundsException") := by
  intro sz
  refine vx_ofW (cc := cX3_requireShop) (maxL := 2) (ret := none) (by decide) rfl ?_
  intro p e s m args below meth c s₁ B hml hout hv
  obtain ⟨rfl, hsz, hP, hE, hSt⟩ := hv
  subst hsz
  have hx := B.exec
  have hb := B.bytes
  have hr := B.returns
  have hown : s.vm.findClass RX3 = some m.cls := findClass_of_methodNamed B.named
  have hlocks := B.notSynchronized
  have K : c_K p l s m ([.ref (ad 0), .int x] : List Value).toArray c cX3_requireShop 2 Z ad := ⟨hx, hb, hml, hown, fun w hw => atoms_spec (ws := fx_l yX3_requireShop cX3_requireShop 2 none) B.pre w (List.mem_cons_of_mem _ hw), hE, hSt, hinj, hfl⟩
  have hS : va_S (fx_A 115 ad s.heap.size) s.heap s.heap [] := va_S.rf
  have hl := lv_entry ([.ref (ad 0), .int x]) (n := 2) (Nat.le_of_ble_eq_true rfl)
  rw [lg_entry_eq]
  generalize (lg_sl ([.ref (ad 0), .int x]) ++ List.replicate (2 - (lg_sl ([.ref (ad 0), .int x])).length) Slot.unset).toArray = ls at hl ⊢
  have hl : lv_has ls 2 [(0, .ref (ad 0)), (1, .int x)] := hl
  refine lv_iload_n hx hb dX3_requireShop_0 rfl (lv_at hl 1 rfl) ?_
  refine lv_if_lt (tgt := 9) hx hb dX3_requireShop_1 (by decide) (fun c1 => ?_) (fun c1 => ?_)
  · exact c_throw (text := "there is no such shop") K hlocks hout hP hS hl.1 xw_IOOBE xi_IOOBE (by decide) xa_IOOBE (by decide) dX3_requireShop_9 dX3_requireShop_12 dX3_requireShop_13 dX3_requireShop_15 dX3_requireShop_18 (Nat.le_of_ble_eq_true rfl) (Nat.le_of_ble_eq_true rfl) (Nat.le_of_ble_eq_true rfl) (Nat.le_of_ble_eq_true rfl) (Nat.le_of_ble_eq_true rfl) (Nat.le_of_ble_eq_true rfl) rfl
  · refine lv_iload_n hx hb dX3_requireShop_4 rfl (lv_at hl 1 rfl) ?_
    refine lv_iconst (v := 5) hx hb dX3_requireShop_5 (by decide) ?_
    refine lv_icmp_lt (tgt := 19) hx hb dX3_requireShop_6 (by decide) (fun c2 => ?_) (fun c2 => ?_)
    · exact absurd hx9 (not_bad (n := 5) rfl (by decide) c1 c2)
    · exact c_throw (text := "there is no such shop") K hlocks hout hP hS hl.1 xw_IOOBE xi_IOOBE (by decide) xa_IOOBE (by decide) dX3_requireShop_9 dX3_requireShop_12 dX3_requireShop_13 dX3_requireShop_15 dX3_requireShop_18 (Nat.le_of_ble_eq_true rfl) (Nat.le_of_ble_eq_true rfl) (Nat.le_of_ble_eq_true rfl) (Nat.le_of_ble_eq_true rfl) (Nat.le_of_ble_eq_true rfl) (Nat.le_of_ble_eq_true rfl) rfl

set_option maxHeartbeats 4000000 in
set_option maxRecDepth 100000 in
theorem c_X3_requireKind_ok (l : Launch) (hfl : l.stackTraces = false) (Z : fx_Z) (ad : Nat → Nat) (hinj : fx_inj 115 ad) (g : St) (x : Nat) (hx9 : x < 4) : fx_C l Z yX3_requireKind cX3_requireKind 2 none 0 0 0 0 115 ad (cF ad Z.2.1) g [.ref (ad 0), .int (nI x)] (pV g) (fun _ => False) := by
  intro sz
  refine vx_ofW (cc := cX3_requireKind) (maxL := 2) (ret := none) (by decide) rfl ?_
  intro p e s m args below meth c s₁ B hml hout hv
  obtain ⟨rfl, hsz, hP, hE, hSt⟩ := hv
  subst hsz
  have hx := B.exec
  have hb := B.bytes
  have hr := B.returns
  have hown : s.vm.findClass RX3 = some m.cls := findClass_of_methodNamed B.named
  have hlocks := B.notSynchronized
  have K : c_K p l s m ([.ref (ad 0), .int (nI x)] : List Value).toArray c cX3_requireKind 2 Z ad := ⟨hx, hb, hml, hown, fun w hw => atoms_spec (ws := fx_l yX3_requireKind cX3_requireKind 2 none) B.pre w (List.mem_cons_of_mem _ hw), hE, hSt, hinj, hfl⟩
  have hS : va_S (fx_A 115 ad s.heap.size) s.heap s.heap [] := va_S.rf
  have hl := lv_entry ([.ref (ad 0), .int (nI x)]) (n := 2) (Nat.le_of_ble_eq_true rfl)
  rw [lg_entry_eq]
  generalize (lg_sl ([.ref (ad 0), .int (nI x)]) ++ List.replicate (2 - (lg_sl ([.ref (ad 0), .int (nI x)])).length) Slot.unset).toArray = ls at hl ⊢
  have hl : lv_has ls 2 [(0, .ref (ad 0)), (1, .int (nI x))] := hl
  refine lv_iload_n hx hb dX3_requireKind_0 rfl (lv_at hl 1 rfl) ?_
  refine lv_if_lt (tgt := 9) hx hb dX3_requireKind_1 (by decide) (fun c1 => absurd c1 (nI_pos (by omega))) (fun _ => ?_)
  refine lv_iload_n hx hb dX3_requireKind_4 rfl (lv_at hl 1 rfl) ?_
  refine lv_iconst (v := 4) hx hb dX3_requireKind_5 (by decide) ?_
  refine lv_icmp_lt (tgt := 19) hx hb dX3_requireKind_6 (by decide) (fun _ => ?_) (fun c2 => absurd (nI_ltM (n := 4) rfl hx9 (by decide)) c2)
  exact fx_retv hx hb hr hlocks hP hS (Nat.le_of_ble_eq_true rfl) (Nat.le_of_ble_eq_true rfl) dX3_requireKind_19 ⟨rfl, rfl⟩

set_option maxHeartbeats 4000000 in
set_option maxRecDepth 100000 in
theorem c_X3_requireKind_x (l : Launch) (hfl : l.stackTraces = false) (Z : fx_Z) (ad : Nat → Nat) (hinj : fx_inj 115 ad) (g : St) (x : Int32) (hx9 : bad x 4) : fx_C l Z yX3_requireKind cX3_requireKind 2 none 6 82 1 6 115 ad (cF ad Z.2.1) g [.ref (ad 0), .int x] (fun _ _ => False) (fun E => E = "java/lang/IndexOutOfBoundsException") := by
  intro sz
  refine vx_ofW (cc := cX3_requireKind) (maxL := 2) (ret := none) (by decide) rfl ?_
  intro p e s m args below meth c s₁ B hml hout hv
  obtain ⟨rfl, hsz, hP, hE, hSt⟩ := hv
  subst hsz
  have hx := B.exec
  have hb := B.bytes
  have hr := B.returns
  have hown : s.vm.findClass RX3 = some m.cls := findClass_of_methodNamed B.named
  have hlocks := B.notSynchronized
  have K : c_K p l s m ([.ref (ad 0), .int x] : List Value).toArray c cX3_requireKind 2 Z ad := ⟨hx, hb, hml, hown, fun w hw => atoms_spec (ws := fx_l yX3_requireKind cX3_requireKind 2 none) B.pre w (List.mem_cons_of_mem _ hw), hE, hSt, hinj, hfl⟩
  have hS : va_S (fx_A 115 ad s.heap.size) s.heap s.heap [] := va_S.rf
  have hl := lv_entry ([.ref (ad 0), .int x]) (n := 2) (Nat.le_of_ble_eq_true rfl)
  rw [lg_entry_eq]
  generalize (lg_sl ([.ref (ad 0), .int x]) ++ List.replicate (2 - (lg_sl ([.ref (ad 0), .int x])).length) Slot.unset).toArray = ls at hl ⊢
  have hl : lv_has ls 2 [(0, .ref (ad 0)), (1, .int x)] := hl
  refine lv_iload_n hx hb dX3_requireKind_0 rfl (lv_at hl 1 rfl) ?_
  refine lv_if_lt (tgt := 9) hx hb dX3_requireKind_1 (by decide) (fun c1 => ?_) (fun c1 => ?_)
  · exact c_throw (text := "there is no such kind") K hlocks hout hP hS hl.1 xw_IOOBE xi_IOOBE (by decide) xa_IOOBE (by decide) dX3_requireKind_9 dX3_requireKind_12 dX3_requireKind_13 dX3_requireKind_15 dX3_requireKind_18 (Nat.le_of_ble_eq_true rfl) (Nat.le_of_ble_eq_true rfl) (Nat.le_of_ble_eq_true rfl) (Nat.le_of_ble_eq_true rfl) (Nat.le_of_ble_eq_true rfl) (Nat.le_of_ble_eq_true rfl) rfl
  · refine lv_iload_n hx hb dX3_requireKind_4 rfl (lv_at hl 1 rfl) ?_
    refine lv_iconst (v := 4) hx hb dX3_requireKind_5 (by decide) ?_
    refine lv_icmp_lt (tgt := 19) hx hb dX3_requireKind_6 (by decide) (fun c2 => ?_) (fun c2 => ?_)
    · exact absurd hx9 (not_bad (n := 4) rfl (by decide) c1 c2)
    · exact c_throw (text := "there is no such kind") K hlocks hout hP hS hl.1 xw_IOOBE xi_IOOBE (by decide) xa_IOOBE (by decide) dX3_requireKind_9 dX3_requireKind_12 dX3_requireKind_13 dX3_requireKind_15 dX3_requireKind_18 (Nat.le_of_ble_eq_true rfl) (Nat.le_of_ble_eq_true rfl) (Nat.le_of_ble_eq_true rfl) (Nat.le_of_ble_eq_true rfl) (Nat.le_of_ble_eq_true rfl) (Nat.le_of_ble_eq_true rfl) rfl

set_option maxHeartbeats 4000000 in
set_option maxRecDepth 100000 in
theorem c_X3_requireTraveller_ok (l : Launch) (hfl : l.stackTraces = false) (Z : fx_Z) (ad : Nat → Nat) (hinj : fx_inj 115 ad) (g : St) (x : Nat) (hx9 : x < 10) : fx_C l Z yX3_requireTraveller cX3_requireTraveller 2 none 0 0 0 0 115 ad (cF ad Z.2.1) g [.ref (ad 0), .int (nI x)] (pV g) (fun _ => False) := by
  intro sz
  refine vx_ofW (cc := cX3_requireTraveller) (maxL := 2) (ret := none) (by decide) rfl ?_
  intro p e s m args below meth c s₁ B hml hout hv
  obtain ⟨rfl, hsz, hP, hE, hSt⟩ := hv
  subst hsz
  have hx := B.exec
  have hb := B.bytes
  have hr := B.returns
  have hown : s.vm.findClass RX3 = some m.cls := findClass_of_methodNamed B.named
  have hlocks := B.notSynchronized
  have K : c_K p l s m ([.ref (ad 0), .int (nI x)] : List Value).toArray c cX3_requireTraveller 2 Z ad := ⟨hx, hb, hml, hown, fun w hw => atoms_spec (ws := fx_l yX3_requireTraveller cX3_requireTraveller 2 none) B.pre w (List.mem_cons_of_mem _ hw), hE, hSt, hinj, hfl⟩
  have hS : va_S (fx_A 115 ad s.heap.size) s.heap s.heap [] := va_S.rf
  have hl := lv_entry ([.ref (ad 0), .int (nI x)]) (n := 2) (Nat.le_of_ble_eq_true rfl)
  rw [lg_entry_eq]
  generalize (lg_sl ([.ref (ad 0), .int (nI x)]) ++ List.replicate (2 - (lg_sl ([.ref (ad 0), .int (nI x)])).length) Slot.unset).toArray = ls at hl ⊢
  have hl : lv_has ls 2 [(0, .ref (ad 0)), (1, .int (nI x))] := hl
  refine lv_iload_n hx hb dX3_requireTraveller_0 rfl (lv_at hl 1 rfl) ?_
  refine lv_if_lt (tgt := 10) hx hb dX3_requireTraveller_1 (by decide) (fun c1 => absurd c1 (nI_pos (by omega))) (fun _ => ?_)
  refine lv_iload_n hx hb dX3_requireTraveller_4 rfl (lv_at hl 1 rfl) ?_
  refine lv_bipush (v := 10) hx hb dX3_requireTraveller_5 (by decide) ?_
  refine lv_icmp_lt (tgt := 20) hx hb dX3_requireTraveller_7 (by decide) (fun _ => ?_) (fun c2 => absurd (nI_ltM (n := 10) rfl hx9 (by decide)) c2)
  exact fx_retv hx hb hr hlocks hP hS (Nat.le_of_ble_eq_true rfl) (Nat.le_of_ble_eq_true rfl) dX3_requireTraveller_20 ⟨rfl, rfl⟩

set_option maxHeartbeats 4000000 in
set_option maxRecDepth 100000 in
theorem c_X3_requireTraveller_x (l : Launch) (hfl : l.stackTraces = false) (Z : fx_Z) (ad : Nat → Nat) (hinj : fx_inj 115 ad) (g : St) (x : Int32) (hx9 : bad x 10) : fx_C l Z yX3_requireTraveller cX3_requireTraveller 2 none 6 82 1 6 115 ad (cF ad Z.2.1) g [.ref (ad 0), .int x] (fun _ _ => False) (fun E => E = "java/lang/IndexOutOfBoundsException") := by
  intro sz
  refine vx_ofW (cc := cX3_requireTraveller) (maxL := 2) (ret := none) (by decide) rfl ?_
  intro p e s m args below meth c s₁ B hml hout hv
  obtain ⟨rfl, hsz, hP, hE, hSt⟩ := hv
  subst hsz
  have hx := B.exec
  have hb := B.bytes
  have hr := B.returns
  have hown : s.vm.findClass RX3 = some m.cls := findClass_of_methodNamed B.named
  have hlocks := B.notSynchronized
  have K : c_K p l s m ([.ref (ad 0), .int x] : List Value).toArray c cX3_requireTraveller 2 Z ad := ⟨hx, hb, hml, hown, fun w hw => atoms_spec (ws := fx_l yX3_requireTraveller cX3_requireTraveller 2 none) B.pre w (List.mem_cons_of_mem _ hw), hE, hSt, hinj, hfl⟩
  have hS : va_S (fx_A 115 ad s.heap.size) s.heap s.heap [] := va_S.rf
  have hl := lv_entry ([.ref (ad 0), .int x]) (n := 2) (Nat.le_of_ble_eq_true rfl)
  rw [lg_entry_eq]
  generalize (lg_sl ([.ref (ad 0), .int x]) ++ List.replicate (2 - (lg_sl ([.ref (ad 0), .int x])).length) Slot.unset).toArray = ls at hl ⊢
  have hl : lv_has ls 2 [(0, .ref (ad 0)), (1, .int x)] := hl
  refine lv_iload_n hx hb dX3_requireTraveller_0 rfl (lv_at hl 1 rfl) ?_
  refine lv_if_lt (tgt := 10) hx hb dX3_requireTraveller_1 (by decide) (fun c1 => ?_) (fun c1 => ?_)
  · exact c_throw (text := "there is no such traveller") K hlocks hout hP hS hl.1 xw_IOOBE xi_IOOBE (by decide) xa_IOOBE (by decide) dX3_requireTraveller_10 dX3_requireTraveller_13 dX3_requireTraveller_14 dX3_requireTraveller_16 dX3_requireTraveller_19 (Nat.le_of_ble_eq_true rfl) (Nat.le_of_ble_eq_true rfl) (Nat.le_of_ble_eq_true rfl) (Nat.le_of_ble_eq_true rfl) (Nat.le_of_ble_eq_true rfl) (Nat.le_of_ble_eq_true rfl) rfl
  · refine lv_iload_n hx hb dX3_requireTraveller_4 rfl (lv_at hl 1 rfl) ?_
    refine lv_bipush (v := 10) hx hb dX3_requireTraveller_5 (by decide) ?_
    refine lv_icmp_lt (tgt := 20) hx hb dX3_requireTraveller_7 (by decide) (fun c2 => ?_) (fun c2 => ?_)
    · exact absurd hx9 (not_bad (n := 10) rfl (by decide) c1 c2)
    · exact c_throw (text := "there is no such traveller") K hlocks hout hP hS hl.1 xw_IOOBE xi_IOOBE (by decide) xa_IOOBE (by decide) dX3_requireTraveller_10 dX3_requireTraveller_13 dX3_requireTraveller_14 dX3_requireTraveller_16 dX3_requireTraveller_19 (Nat.le_of_ble_eq_true rfl) (Nat.le_of_ble_eq_true rfl) (Nat.le_of_ble_eq_true rfl) (Nat.le_of_ble_eq_true rfl) (Nat.le_of_ble_eq_true rfl) (Nat.le_of_ble_eq_true rfl) rfl

set_option maxHeartbeats 4000000 in
set_option maxRecDepth 100000 in
theorem c_X3_travellerNumbered_ok (l : Launch) (hfl : l.stackTraces = false) (Z : fx_Z) (ad : Nat → Nat) (hinj : fx_inj 115 ad) (g : St) (t : Nat) (ht9 : t < 10) : fx_C l Z yX3_travellerNumbered cX3_travellerNumbered 2 (some (.object "Ferrytax$Traveller")) 1 21 0 0 115 ad (cF ad Z.2.1) g [.ref (ad 0), .int (nI t)] (pR (ad (105 + t)) g) (fun _ => False) := by
  intro sz
  refine vx_ofW (cc := cX3_travellerNumbered) (maxL := 2) (ret := (some (.object "Ferrytax$Traveller"))) (by decide) rfl ?_
  intro p e s m args below meth c s₁ B hml hout hv
  obtain ⟨rfl, hsz, hP, hE, hSt⟩ := hv
  subst hsz
  have hx := B.exec
  have hb := B.bytes
  have hr := B.returns
  have hown : s.vm.findClass RX3 = some m.cls := findClass_of_methodNamed B.named
  have hlocks := B.notSynchronized
  have K : c_K p l s m ([.ref (ad 0), .int (nI t)] : List Value).toArray c cX3_travellerNumbered 2 Z ad := ⟨hx, hb, hml, hown, fun w hw => atoms_spec (ws := fx_l yX3_travellerNumbered cX3_travellerNumbered 2 (some (.object "Ferrytax$Traveller"))) B.pre w (List.mem_cons_of_mem _ hw), hE, hSt, hinj, hfl⟩
  have hS : va_S (fx_A 115 ad s.heap.size) s.heap s.heap [] := va_S.rf
  have hl := lv_entry ([.ref (ad 0), .int (nI t)]) (n := 2) (Nat.le_of_ble_eq_true rfl)
  rw [lg_entry_eq]
  generalize (lg_sl ([.ref (ad 0), .int (nI t)]) ++ List.replicate (2 - (lg_sl ([.ref (ad 0), .int (nI t)])).length) Slot.unset).toArray = ls at hl ⊢
  have hl : lv_has ls 2 [(0, .ref (ad 0)), (1, .int (nI t))] := hl
  refine lv_aload_n hx hb dX3_travellerNumbered_0 rfl (lv_at hl 0 rfl) ?_
  refine lv_iload_n hx hb dX3_travellerNumbered_1 rfl (lv_at hl 1 rfl) ?_
  refine c_callv (rest := []) K hP hS (c_X3_requireTraveller_ok l hfl Z ad hinj g t (by assumption)) ok_X3_135 rfl ⟨Nat.le_of_ble_eq_true rfl, Nat.le_of_ble_eq_true rfl⟩ rfl hl.1 (Nat.le_of_ble_eq_true rfl) ⟨Nat.le_of_ble_eq_true rfl, Nat.le_of_ble_eq_true rfl⟩ dX3_travellerNumbered_2 (fun H locs hP hS => ?_)
  refine lv_aload_n hx hb dX3_travellerNumbered_5 rfl (lv_at hl 0 rfl) ?_
  refine cg_travellers K hP dX3_travellerNumbered_6 ?_
  refine lv_iload_n hx hb dX3_travellerNumbered_9 rfl (lv_at hl 1 rfl) ?_
  refine c_aldT K hP (by omega) dX3_travellerNumbered_10 ?_
  exact fx_reta hx hb hr (Or.inl ⟨_, rfl⟩) hlocks hP hS (Nat.le_of_ble_eq_true rfl) (Nat.le_of_ble_eq_true rfl) dX3_travellerNumbered_11 ⟨rfl, rfl⟩

set_option maxHeartbeats 4000000 in
set_option maxRecDepth 100000 in
theorem c_X3_travellerNumbered_x (l : Launch) (hfl : l.stackTraces = false) (Z : fx_Z) (ad : Nat → Nat) (hinj : fx_inj 115 ad) (g : St) (t : Int32) (ht9 : bad t 10) : fx_C l Z yX3_travellerNumbered cX3_travellerNumbered 2 (some (.object "Ferrytax$Traveller")) 7 103 1 6 115 ad (cF ad Z.2.1) g [.ref (ad 0), .int t] (fun _ _ => False) (fun E => E = "java/lang/IndexOutOfBoundsException") := by
  intro sz
  refine vx_ofW (cc := cX3_travellerNumbered) (maxL := 2) (ret := (some (.object "Ferrytax$Traveller"))) (by decide) rfl ?_
  intro p e s m args below meth c s₁ B hml hout hv
  obtain ⟨rfl, hsz, hP, hE, hSt⟩ := hv
  subst hsz
  have hx := B.exec
  have hb := B.bytes
  have hr := B.returns
  have hown : s.vm.findClass RX3 = some m.cls := findClass_of_methodNamed B.named
  have hlocks := B.notSynchronized
  have K : c_K p l s m ([.ref (ad 0), .int t] : List Value).toArray c cX3_travellerNumbered 2 Z ad := ⟨hx, hb, hml, hown, fun w hw => atoms_spec (ws := fx_l yX3_travellerNumbered cX3_travellerNumbered 2 (some (.object "Ferrytax$Traveller"))) B.pre w (List.mem_cons_of_mem _ hw), hE, hSt, hinj, hfl⟩
  have hS : va_S (fx_A 115 ad s.heap.size) s.heap s.heap [] := va_S.rf
  have hl := lv_entry ([.ref (ad 0), .int t]) (n := 2) (Nat.le_of_ble_eq_true rfl)
  rw [lg_entry_eq]
  generalize (lg_sl ([.ref (ad 0), .int t]) ++ List.replicate (2 - (lg_sl ([.ref (ad 0), .int t])).length) Slot.unset).toArray = ls at hl ⊢
  have hl : lv_has ls 2 [(0, .ref (ad 0)), (1, .int t)] := hl
  refine lv_aload_n hx hb dX3_travellerNumbered_0 rfl (lv_at hl 0 rfl) ?_
  refine lv_iload_n hx hb dX3_travellerNumbered_1 rfl (lv_at hl 1 rfl) ?_
  exact c_callx (rest := []) K hlocks hout hP hS (c_X3_requireTraveller_x l hfl Z ad hinj g t (by assumption)) ok_X3_135 rfl ⟨Nat.le_of_ble_eq_true rfl, Nat.le_of_ble_eq_true rfl⟩ rfl hl.1 (Nat.le_of_ble_eq_true rfl) ⟨Nat.le_of_ble_eq_true rfl, Nat.le_of_ble_eq_true rfl⟩ dX3_travellerNumbered_2 (Nat.le_of_ble_eq_true rfl) (Nat.le_of_ble_eq_true rfl) (fun E hE => hE)

set_option maxHeartbeats 4000000 in
set_option maxRecDepth 100000 in
theorem c_X3_receiptNumbered_ok (l : Launch) (hfl : l.stackTraces = false) (Z : fx_Z) (ad : Nat → Nat) (hinj : fx_inj 115 ad) (g : St) (rc : Nat) (i : Nat) (hi : i < rc) (hcn : g 0 0 = nI rc) (hcl : rc ≤ 60) : fx_C l Z yX3_receiptNumbered cX3_receiptNumbered 2 (some (.object "Ferrytax$Receipt")) 0 0 0 0 115 ad (cF ad Z.2.1) g [.ref (ad 0), .int (nI i)] (pR (ad (5 + i)) g) (fun _ => False) := by
  intro sz
  refine vx_ofW (cc := cX3_receiptNumbered) (maxL := 2) (ret := (some (.object "Ferrytax$Receipt"))) (by decide) rfl ?_
  intro p e s m args below meth c s₁ B hml hout hv
  obtain ⟨rfl, hsz, hP, hE, hSt⟩ := hv
  subst hsz
  have hx := B.exec
  have hb := B.bytes
  have hr := B.returns
  have hown : s.vm.findClass RX3 = some m.cls := findClass_of_methodNamed B.named
  have hlocks := B.notSynchronized
  have K : c_K p l s m ([.ref (ad 0), .int (nI i)] : List Value).toArray c cX3_receiptNumbered 2 Z ad := ⟨hx, hb, hml, hown, fun w hw => atoms_spec (ws := fx_l yX3_receiptNumbered cX3_receiptNumbered 2 (some (.object "Ferrytax$Receipt"))) B.pre w (List.mem_cons_of_mem _ hw), hE, hSt, hinj, hfl⟩
  have hS : va_S (fx_A 115 ad s.heap.size) s.heap s.heap [] := va_S.rf
  have hl := lv_entry ([.ref (ad 0), .int (nI i)]) (n := 2) (Nat.le_of_ble_eq_true rfl)
  rw [lg_entry_eq]
  generalize (lg_sl ([.ref (ad 0), .int (nI i)]) ++ List.replicate (2 - (lg_sl ([.ref (ad 0), .int (nI i)])).length) Slot.unset).toArray = ls at hl ⊢
  have hl : lv_has ls 2 [(0, .ref (ad 0)), (1, .int (nI i))] := hl
  refine lv_iload_n hx hb dX3_receiptNumbered_0 rfl (lv_at hl 1 rfl) ?_
  refine lv_if_lt (tgt := 12) hx hb dX3_receiptNumbered_1 (by decide) (fun c1 => absurd c1 (nI_pos (by omega))) (fun _ => ?_)
  refine lv_iload_n hx hb dX3_receiptNumbered_4 rfl (lv_at hl 1 rfl) ?_
  refine lv_aload_n hx hb dX3_receiptNumbered_5 rfl (lv_at hl 0 rfl) ?_
  refine cg_receiptCount K hP dX3_receiptNumbered_6 ?_
  rw [hcn]
  refine lv_icmp_lt (tgt := 22) hx hb dX3_receiptNumbered_9 (by decide) (fun _ => ?_) (fun c2 => absurd (nI_lt (by omega) (by omega)) c2)
  refine lv_aload_n hx hb dX3_receiptNumbered_22 rfl (lv_at hl 0 rfl) ?_
  refine cg_receipts K hP dX3_receiptNumbered_23 ?_
  refine lv_iload_n hx hb dX3_receiptNumbered_26 rfl (lv_at hl 1 rfl) ?_
  refine c_aldR K hP (by omega) dX3_receiptNumbered_27 ?_
  exact fx_reta hx hb hr (Or.inl ⟨_, rfl⟩) hlocks hP hS (Nat.le_of_ble_eq_true rfl) (Nat.le_of_ble_eq_true rfl) dX3_receiptNumbered_28 ⟨rfl, rfl⟩

set_option maxHeartbeats 4000000 in
set_option maxRecDepth 100000 in
theorem c_X3_receiptNumbered_x (l : Launch) (hfl : l.stackTraces = false) (Z : fx_Z) (ad : Nat → Nat) (hinj : fx_inj 115 ad) (g : St) (rc : Nat) (i : Int32) (hcn : g 0 0 = nI rc) (hcl : rc ≤ 60) (hbi : bad i rc) : fx_C l Z yX3_receiptNumbered cX3_receiptNumbered 2 (some (.object "Ferrytax$Receipt")) 6 82 1 6 115 ad (cF ad Z.2.1) g [.ref (ad 0), .int i] (fun _ _ => False) (fun E => E = "java/lang/IndexOutOfBoundsException") := by
  intro sz
  refine vx_ofW (cc := cX3_receiptNumbered) (maxL := 2) (ret := (some (.object "Ferrytax$Receipt"))) (by decide) rfl ?_
  intro p e s m args below meth c s₁ B hml hout hv
  obtain ⟨rfl, hsz, hP, hE, hSt⟩ := hv
  subst hsz
  have hx := B.exec
  have hb := B.bytes
  have hr := B.returns
  have hown : s.vm.findClass RX3 = some m.cls := findClass_of_methodNamed B.named
  have hlocks := B.notSynchronized
  have K : c_K p l s m ([.ref (ad 0), .int i] : List Value).toArray c cX3_receiptNumbered 2 Z ad := ⟨hx, hb, hml, hown, fun w hw => atoms_spec (ws := fx_l yX3_receiptNumbered cX3_receiptNumbered 2 (some (.object "Ferrytax$Receipt"))) B.pre w (List.mem_cons_of_mem _ hw), hE, hSt, hinj, hfl⟩
  have hS : va_S (fx_A 115 ad s.heap.size) s.heap s.heap [] := va_S.rf
  have hl := lv_entry ([.ref (ad 0), .int i]) (n := 2) (Nat.le_of_ble_eq_true rfl)
  rw [lg_entry_eq]
  generalize (lg_sl ([.ref (ad 0), .int i]) ++ List.replicate (2 - (lg_sl ([.ref (ad 0), .int i])).length) Slot.unset).toArray = ls at hl ⊢
  have hl : lv_has ls 2 [(0, .ref (ad 0)), (1, .int i)] := hl
  refine lv_iload_n hx hb dX3_receiptNumbered_0 rfl (lv_at hl 1 rfl) ?_
  refine lv_if_lt (tgt := 12) hx hb dX3_receiptNumbered_1 (by decide) (fun c1 => ?_) (fun c1 => ?_)
  · exact c_throw (text := "there is no such receipt") K hlocks hout hP hS hl.1 xw_IOOBE xi_IOOBE (by decide) xa_IOOBE (by decide) dX3_receiptNumbered_12 dX3_receiptNumbered_15 dX3_receiptNumbered_16 dX3_receiptNumbered_18 dX3_receiptNumbered_21 (Nat.le_of_ble_eq_true rfl) (Nat.le_of_ble_eq_true rfl) (Nat.le_of_ble_eq_true rfl) (Nat.le_of_ble_eq_true rfl) (Nat.le_of_ble_eq_true rfl) (Nat.le_of_ble_eq_true rfl) rfl
  · refine lv_iload_n hx hb dX3_receiptNumbered_4 rfl (lv_at hl 1 rfl) ?_
    refine lv_aload_n hx hb dX3_receiptNumbered_5 rfl (lv_at hl 0 rfl) ?_
    refine cg_receiptCount K hP dX3_receiptNumbered_6 ?_
    rw [hcn]
    refine lv_icmp_lt (tgt := 22) hx hb dX3_receiptNumbered_9 (by decide) (fun c2 => ?_) (fun c2 => ?_)
    · exact absurd hbi (not_bad rfl (by omega) c1 c2)
    · exact c_throw (text := "there is no such receipt") K hlocks hout hP hS hl.1 xw_IOOBE xi_IOOBE (by decide) xa_IOOBE (by decide) dX3_receiptNumbered_12 dX3_receiptNumbered_15 dX3_receiptNumbered_16 dX3_receiptNumbered_18 dX3_receiptNumbered_21 (Nat.le_of_ble_eq_true rfl) (Nat.le_of_ble_eq_true rfl) (Nat.le_of_ble_eq_true rfl) (Nat.le_of_ble_eq_true rfl) (Nat.le_of_ble_eq_true rfl) (Nat.le_of_ble_eq_true rfl) rfl

set_option maxHeartbeats 4000000 in
set_option maxRecDepth 100000 in
theorem c_X3_ferryNumbered_ok (l : Launch) (hfl : l.stackTraces = false) (Z : fx_Z) (ad : Nat → Nat) (hinj : fx_inj 115 ad) (g : St) (fc : Nat) (i : Nat) (hi : i < fc) (hcn : g 0 1 = nI fc) (hcl : fc ≤ 20) : fx_C l Z yX3_ferryNumbered cX3_ferryNumbered 2 (some (.object "Ferrytax$Ferry")) 0 0 0 0 115 ad (cF ad Z.2.1) g [.ref (ad 0), .int (nI i)] (pR (ad (65 + i)) g) (fun _ => False) := by
  intro sz
  refine vx_ofW (cc := cX3_ferryNumbered) (maxL := 2) (ret := (some (.object "Ferrytax$Ferry"))) (by decide) rfl ?_
  intro p e s m args below meth c s₁ B hml hout hv
  obtain ⟨rfl, hsz, hP, hE, hSt⟩ := hv
  subst hsz
  have hx := B.exec
  have hb := B.bytes
  have hr := B.returns
  have hown : s.vm.findClass RX3 = some m.cls := findClass_of_methodNamed B.named
  have hlocks := B.notSynchronized
  have K : c_K p l s m ([.ref (ad 0), .int (nI i)] : List Value).toArray c cX3_ferryNumbered 2 Z ad := ⟨hx, hb, hml, hown, fun w hw => atoms_spec (ws := fx_l yX3_ferryNumbered cX3_ferryNumbered 2 (some (.object "Ferrytax$Ferry"))) B.pre w (List.mem_cons_of_mem _ hw), hE, hSt, hinj, hfl⟩
  have hS : va_S (fx_A 115 ad s.heap.size) s.heap s.heap [] := va_S.rf
  have hl := lv_entry ([.ref (ad 0), .int (nI i)]) (n := 2) (Nat.le_of_ble_eq_true rfl)
  rw [lg_entry_eq]
  generalize (lg_sl ([.ref (ad 0), .int (nI i)]) ++ List.replicate (2 - (lg_sl ([.ref (ad 0), .int (nI i)])).length) Slot.unset).toArray = ls at hl ⊢
  have hl : lv_has ls 2 [(0, .ref (ad 0)), (1, .int (nI i))] := hl
  refine lv_iload_n hx hb dX3_ferryNumbered_0 rfl (lv_at hl 1 rfl) ?_
  refine lv_if_lt (tgt := 12) hx hb dX3_ferryNumbered_1 (by decide) (fun c1 => absurd c1 (nI_pos (by omega))) (fun _ => ?_)
  refine lv_iload_n hx hb dX3_ferryNumbered_4 rfl (lv_at hl 1 rfl) ?_
  refine lv_aload_n hx hb dX3_ferryNumbered_5 rfl (lv_at hl 0 rfl) ?_
  refine cg_ferryCount K hP dX3_ferryNumbered_6 ?_
  rw [hcn]
  refine lv_icmp_lt (tgt := 22) hx hb dX3_ferryNumbered_9 (by decide) (fun _ => ?_) (fun c2 => absurd (nI_lt (by omega) (by omega)) c2)
  refine lv_aload_n hx hb dX3_ferryNumbered_22 rfl (lv_at hl 0 rfl) ?_
  refine cg_ferries K hP dX3_ferryNumbered_23 ?_
  refine lv_iload_n hx hb dX3_ferryNumbered_26 rfl (lv_at hl 1 rfl) ?_
  refine c_aldF K hP (by omega) dX3_ferryNumbered_27 ?_
  exact fx_reta hx hb hr (Or.inl ⟨_, rfl⟩) hlocks hP hS (Nat.le_of_ble_eq_true rfl) (Nat.le_of_ble_eq_true rfl) dX3_ferryNumbered_28 ⟨rfl, rfl⟩

set_option maxHeartbeats 4000000 in
set_option maxRecDepth 100000 in
theorem c_X3_ferryNumbered_x (l : Launch) (hfl : l.stackTraces = false) (Z : fx_Z) (ad : Nat → Nat) (hinj : fx_inj 115 ad) (g : St) (fc : Nat) (i : Int32) (hcn : g 0 1 = nI fc) (hcl : fc ≤ 20) (hbi : bad i fc) : fx_C l Z yX3_ferryNumbered cX3_ferryNumbered 2 (some (.object "Ferrytax$Ferry")) 6 82 1 6 115 ad (cF ad Z.2.1) g [.ref (ad 0), .int i] (fun _ _ => False) (fun E => E = "java/lang/IndexOutOfBoundsException") := by
  intro sz
  refine vx_ofW (cc := cX3_ferryNumbered) (maxL := 2) (ret := (some (.object "Ferrytax$Ferry"))) (by decide) rfl ?_
  intro p e s m args below meth c s₁ B hml hout hv
  obtain ⟨rfl, hsz, hP, hE, hSt⟩ := hv
  subst hsz
  have hx := B.exec
  have hb := B.bytes
  have hr := B.returns
  have hown : s.vm.findClass RX3 = some m.cls := findClass_of_methodNamed B.named
  have hlocks := B.notSynchronized
  have K : c_K p l s m ([.ref (ad 0), .int i] : List Value).toArray c cX3_ferryNumbered 2 Z ad := ⟨hx, hb, hml, hown, fun w hw => atoms_spec (ws := fx_l yX3_ferryNumbered cX3_ferryNumbered 2 (some (.object "Ferrytax$Ferry"))) B.pre w (List.mem_cons_of_mem _ hw), hE, hSt, hinj, hfl⟩
  have hS : va_S (fx_A 115 ad s.heap.size) s.heap s.heap [] := va_S.rf
  have hl := lv_entry ([.ref (ad 0), .int i]) (n := 2) (Nat.le_of_ble_eq_true rfl)
  rw [lg_entry_eq]
  generalize (lg_sl ([.ref (ad 0), .int i]) ++ List.replicate (2 - (lg_sl ([.ref (ad 0), .int i])).length) Slot.unset).toArray = ls at hl ⊢
  have hl : lv_has ls 2 [(0, .ref (ad 0)), (1, .int i)] := hl
  refine lv_iload_n hx hb dX3_ferryNumbered_0 rfl (lv_at hl 1 rfl) ?_
  refine lv_if_lt (tgt := 12) hx hb dX3_ferryNumbered_1 (by decide) (fun c1 => ?_) (fun c1 => ?_)
  · exact c_throw (text := "there is no such ferry") K hlocks hout hP hS hl.1 xw_IOOBE xi_IOOBE (by decide) xa_IOOBE (by decide) dX3_ferryNumbered_12 dX3_ferryNumbered_15 dX3_ferryNumbered_16 dX3_ferryNumbered_18 dX3_ferryNumbered_21 (Nat.le_of_ble_eq_true rfl) (Nat.le_of_ble_eq_true rfl) (Nat.le_of_ble_eq_true rfl) (Nat.le_of_ble_eq_true rfl) (Nat.le_of_ble_eq_true rfl) (Nat.le_of_ble_eq_true rfl) rfl
  · refine lv_iload_n hx hb dX3_ferryNumbered_4 rfl (lv_at hl 1 rfl) ?_
    refine lv_aload_n hx hb dX3_ferryNumbered_5 rfl (lv_at hl 0 rfl) ?_
    refine cg_ferryCount K hP dX3_ferryNumbered_6 ?_
    rw [hcn]
    refine lv_icmp_lt (tgt := 22) hx hb dX3_ferryNumbered_9 (by decide) (fun c2 => ?_) (fun c2 => ?_)
    · exact absurd hbi (not_bad rfl (by omega) c1 c2)
    · exact c_throw (text := "there is no such ferry") K hlocks hout hP hS hl.1 xw_IOOBE xi_IOOBE (by decide) xa_IOOBE (by decide) dX3_ferryNumbered_12 dX3_ferryNumbered_15 dX3_ferryNumbered_16 dX3_ferryNumbered_18 dX3_ferryNumbered_21 (Nat.le_of_ble_eq_true rfl) (Nat.le_of_ble_eq_true rfl) (Nat.le_of_ble_eq_true rfl) (Nat.le_of_ble_eq_true rfl) (Nat.le_of_ble_eq_true rfl) (Nat.le_of_ble_eq_true rfl) rfl

set_option maxHeartbeats 4000000 in
set_option maxRecDepth 100000 in
theorem c_X3_requireOnIsland_ok (l : Launch) (hfl : l.stackTraces = false) (Z : fx_Z) (ad : Nat → Nat) (hinj : fx_inj 115 ad) (g : St) (t : Nat) (ht9 : t < 10) (hg : g 16 t = 0) : fx_C l Z yX3_requireOnIsland cX3_requireOnIsland 2 none 0 0 0 0 115 ad (cF ad Z.2.1) g [.ref (ad 0), .ref (ad (105 + t))] (pV g) (fun _ => False) := by
  intro sz
  refine vx_ofW (cc := cX3_requireOnIsland) (maxL := 2) (ret := none) (by decide) rfl ?_
  intro p e s m args below meth c s₁ B hml hout hv
  obtain ⟨rfl, hsz, hP, hE, hSt⟩ := hv
  subst hsz
  have hx := B.exec
  have hb := B.bytes
  have hr := B.returns
  have hown : s.vm.findClass RX3 = some m.cls := findClass_of_methodNamed B.named
  have hlocks := B.notSynchronized
  have K : c_K p l s m ([.ref (ad 0), .ref (ad (105 + t))] : List Value).toArray c cX3_requireOnIsland 2 Z ad := ⟨hx, hb, hml, hown, fun w hw => atoms_spec (ws := fx_l yX3_requireOnIsland cX3_requireOnIsland 2 none) B.pre w (List.mem_cons_of_mem _ hw), hE, hSt, hinj, hfl⟩
  have hS : va_S (fx_A 115 ad s.heap.size) s.heap s.heap [] := va_S.rf
  have hl := lv_entry ([.ref (ad 0), .ref (ad (105 + t))]) (n := 2) (Nat.le_of_ble_eq_true rfl)
  rw [lg_entry_eq]
  generalize (lg_sl ([.ref (ad 0), .ref (ad (105 + t))]) ++ List.replicate (2 - (lg_sl ([.ref (ad 0), .ref (ad (105 + t))])).length) Slot.unset).toArray = ls at hl ⊢
  have hl : lv_has ls 2 [(0, .ref (ad 0)), (1, .ref (ad (105 + t)))] := hl
  refine lv_aload_n hx hb dX3_requireOnIsland_0 rfl (lv_at hl 1 rfl) ?_
  refine cgT_left K hP (by omega) dX3_requireOnIsland_1 ?_
  refine lv_if_eq (tgt := 17) hx hb dX3_requireOnIsland_4 (by decide) (fun _ => ?_) (fun c1 => absurd hg c1)
  exact fx_retv hx hb hr hlocks hP hS (Nat.le_of_ble_eq_true rfl) (Nat.le_of_ble_eq_true rfl) dX3_requireOnIsland_17 ⟨rfl, rfl⟩

set_option maxHeartbeats 4000000 in
set_option maxRecDepth 100000 in
theorem c_X3_requireOnIsland_x (l : Launch) (hfl : l.stackTraces = false) (Z : fx_Z) (ad : Nat → Nat) (hinj : fx_inj 115 ad) (g : St) (t : Nat) (ht9 : t < 10) (hg : ¬ g 16 t = 0) : fx_C l Z yX3_requireOnIsland cX3_requireOnIsland 2 none 6 82 1 6 115 ad (cF ad Z.2.1) g [.ref (ad 0), .ref (ad (105 + t))] (fun _ _ => False) (fun E => E = "java/lang/IllegalStateException") := by
  intro sz
  refine vx_ofW (cc := cX3_requireOnIsland) (maxL := 2) (ret := none) (by decide) rfl ?_
  intro p e s m args below meth c s₁ B hml hout hv
  obtain ⟨rfl, hsz, hP, hE, hSt⟩ := hv
  subst hsz
  have hx := B.exec
  have hb := B.bytes
  have hr := B.returns
  have hown : s.vm.findClass RX3 = some m.cls := findClass_of_methodNamed B.named
  have hlocks := B.notSynchronized
  have K : c_K p l s m ([.ref (ad 0), .ref (ad (105 + t))] : List Value).toArray c cX3_requireOnIsland 2 Z ad := ⟨hx, hb, hml, hown, fun w hw => atoms_spec (ws := fx_l yX3_requireOnIsland cX3_requireOnIsland 2 none) B.pre w (List.mem_cons_of_mem _ hw), hE, hSt, hinj, hfl⟩
  have hS : va_S (fx_A 115 ad s.heap.size) s.heap s.heap [] := va_S.rf
  have hl := lv_entry ([.ref (ad 0), .ref (ad (105 + t))]) (n := 2) (Nat.le_of_ble_eq_true rfl)
  rw [lg_entry_eq]
  generalize (lg_sl ([.ref (ad 0), .ref (ad (105 + t))]) ++ List.replicate (2 - (lg_sl ([.ref (ad 0), .ref (ad (105 + t))])).length) Slot.unset).toArray = ls at hl ⊢
  have hl : lv_has ls 2 [(0, .ref (ad 0)), (1, .ref (ad (105 + t)))] := hl
  refine lv_aload_n hx hb dX3_requireOnIsland_0 rfl (lv_at hl 1 rfl) ?_
  refine cgT_left K hP (by omega) dX3_requireOnIsland_1 ?_
  refine lv_if_eq (tgt := 17) hx hb dX3_requireOnIsland_4 (by decide) (fun c1 => absurd c1 hg) (fun _ => ?_)
  exact c_throw (text := "the traveller has left") K hlocks hout hP hS hl.1 xw_ISE xi_ISE (by decide) xa_ISE (by decide) dX3_requireOnIsland_7 dX3_requireOnIsland_10 dX3_requireOnIsland_11 dX3_requireOnIsland_13 dX3_requireOnIsland_16 (Nat.le_of_ble_eq_true rfl) (Nat.le_of_ble_eq_true rfl) (Nat.le_of_ble_eq_true rfl) (Nat.le_of_ble_eq_true rfl) (Nat.le_of_ble_eq_true rfl) (Nat.le_of_ble_eq_true rfl) rfl

set_option maxHeartbeats 4000000 in
set_option maxRecDepth 100000 in
theorem c_X3_requireOpen_ok (l : Launch) (hfl : l.stackTraces = false) (Z : fx_Z) (ad : Nat → Nat) (hinj : fx_inj 115 ad) (g : St) (i : Nat) (hi : i < 60) (h7 : g 7 i = 0) : fx_C l Z yX3_requireOpen cX3_requireOpen 2 none 0 0 0 0 115 ad (cF ad Z.2.1) g [.ref (ad 0), .ref (ad (5 + i))] (pV g) (fun _ => False) := by
  intro sz
  refine vx_ofW (cc := cX3_requireOpen) (maxL := 2) (ret := none) (by decide) rfl ?_
  intro p e s m args below meth c s₁ B hml hout hv
  obtain ⟨rfl, hsz, hP, hE, hSt⟩ := hv
  subst hsz
  have hx := B.exec
  have hb := B.bytes
  have hr := B.returns
  have hown : s.vm.findClass RX3 = some m.cls := findClass_of_methodNamed B.named
  have hlocks := B.notSynchronized
  have K : c_K p l s m ([.ref (ad 0), .ref (ad (5 + i))] : List Value).toArray c cX3_requireOpen 2 Z ad := ⟨hx, hb, hml, hown, fun w hw => atoms_spec (ws := fx_l yX3_requireOpen cX3_requireOpen 2 none) B.pre w (List.mem_cons_of_mem _ hw), hE, hSt, hinj, hfl⟩
  have hS : va_S (fx_A 115 ad s.heap.size) s.heap s.heap [] := va_S.rf
  have hl := lv_entry ([.ref (ad 0), .ref (ad (5 + i))]) (n := 2) (Nat.le_of_ble_eq_true rfl)
  rw [lg_entry_eq]
  generalize (lg_sl ([.ref (ad 0), .ref (ad (5 + i))]) ++ List.replicate (2 - (lg_sl ([.ref (ad 0), .ref (ad (5 + i))])).length) Slot.unset).toArray = ls at hl ⊢
  have hl : lv_has ls 2 [(0, .ref (ad 0)), (1, .ref (ad (5 + i)))] := hl
  refine lv_aload_n hx hb dX3_requireOpen_0 rfl (lv_at hl 1 rfl) ?_
  refine cgR_state K hP (by omega) dX3_requireOpen_1 ?_
  refine lv_if_eq (tgt := 17) hx hb dX3_requireOpen_4 (by decide) (fun _ => ?_) (fun c1 => absurd h7 c1)
  exact fx_retv hx hb hr hlocks hP hS (Nat.le_of_ble_eq_true rfl) (Nat.le_of_ble_eq_true rfl) dX3_requireOpen_17 ⟨rfl, rfl⟩

set_option maxHeartbeats 4000000 in
set_option maxRecDepth 100000 in
theorem c_X3_requireOpen_x (l : Launch) (hfl : l.stackTraces = false) (Z : fx_Z) (ad : Nat → Nat) (hinj : fx_inj 115 ad) (g : St) (i : Nat) (hi : i < 60) (h7 : ¬ g 7 i = 0) : fx_C l Z yX3_requireOpen cX3_requireOpen 2 none 6 82 1 6 115 ad (cF ad Z.2.1) g [.ref (ad 0), .ref (ad (5 + i))] (fun _ _ => False) (fun E => E = "java/lang/IllegalStateException") := by
  intro sz
  refine vx_ofW (cc := cX3_requireOpen) (maxL := 2) (ret := none) (by decide) rfl ?_
  intro p e s m args below meth c s₁ B hml hout hv
  obtain ⟨rfl, hsz, hP, hE, hSt⟩ := hv
  subst hsz
  have hx := B.exec
  have hb := B.bytes
  have hr := B.returns
  have hown : s.vm.findClass RX3 = some m.cls := findClass_of_methodNamed B.named
  have hlocks := B.notSynchronized
  have K : c_K p l s m ([.ref (ad 0), .ref (ad (5 + i))] : List Value).toArray c cX3_requireOpen 2 Z ad := ⟨hx, hb, hml, hown, fun w hw => atoms_spec (ws := fx_l yX3_requireOpen cX3_requireOpen 2 none) B.pre w (List.mem_cons_of_mem _ hw), hE, hSt, hinj, hfl⟩
  have hS : va_S (fx_A 115 ad s.heap.size) s.heap s.heap [] := va_S.rf
  have hl := lv_entry ([.ref (ad 0), .ref (ad (5 + i))]) (n := 2) (Nat.le_of_ble_eq_true rfl)
  rw [lg_entry_eq]
  generalize (lg_sl ([.ref (ad 0), .ref (ad (5 + i))]) ++ List.replicate (2 - (lg_sl ([.ref (ad 0), .ref (ad (5 + i))])).length) Slot.unset).toArray = ls at hl ⊢
  have hl : lv_has ls 2 [(0, .ref (ad 0)), (1, .ref (ad (5 + i)))] := hl
  refine lv_aload_n hx hb dX3_requireOpen_0 rfl (lv_at hl 1 rfl) ?_
  refine cgR_state K hP (by omega) dX3_requireOpen_1 ?_
  refine lv_if_eq (tgt := 17) hx hb dX3_requireOpen_4 (by decide) (fun c1 => absurd c1 h7) (fun _ => ?_)
  exact c_throw (text := "the receipt is not OPEN") K hlocks hout hP hS hl.1 xw_ISE xi_ISE (by decide) xa_ISE (by decide) dX3_requireOpen_7 dX3_requireOpen_10 dX3_requireOpen_11 dX3_requireOpen_13 dX3_requireOpen_16 (Nat.le_of_ble_eq_true rfl) (Nat.le_of_ble_eq_true rfl) (Nat.le_of_ble_eq_true rfl) (Nat.le_of_ble_eq_true rfl) (Nat.le_of_ble_eq_true rfl) (Nat.le_of_ble_eq_true rfl) rfl

set_option maxHeartbeats 4000000 in
set_option maxRecDepth 100000 in
theorem c_X3_requireNotSailed_ok (l : Launch) (hfl : l.stackTraces = false) (Z : fx_Z) (ad : Nat → Nat) (hinj : fx_inj 115 ad) (g : St) (f : Nat) (hf : f < 20) (hns : g 0 2 < g 11 f) : fx_C l Z yX3_requireNotSailed cX3_requireNotSailed 2 none 0 0 0 0 115 ad (cF ad Z.2.1) g [.ref (ad 0), .ref (ad (65 + f))] (pV g) (fun _ => False) := by
  intro sz
  refine vx_ofW (cc := cX3_requireNotSailed) (maxL := 2) (ret := none) (by decide) rfl ?_
  intro p e s m args below meth c s₁ B hml hout hv
  obtain ⟨rfl, hsz, hP, hE, hSt⟩ := hv
  subst hsz
  have hx := B.exec
  have hb := B.bytes
  have hr := B.returns
  have hown : s.vm.findClass RX3 = some m.cls := findClass_of_methodNamed B.named
  have hlocks := B.notSynchronized
  have K : c_K p l s m ([.ref (ad 0), .ref (ad (65 + f))] : List Value).toArray c cX3_requireNotSailed 2 Z ad := ⟨hx, hb, hml, hown, fun w hw => atoms_spec (ws := fx_l yX3_requireNotSailed cX3_requireNotSailed 2 none) B.pre w (List.mem_cons_of_mem _ hw), hE, hSt, hinj, hfl⟩
  have hS : va_S (fx_A 115 ad s.heap.size) s.heap s.heap [] := va_S.rf
  have hl := lv_entry ([.ref (ad 0), .ref (ad (65 + f))]) (n := 2) (Nat.le_of_ble_eq_true rfl)
  rw [lg_entry_eq]
  generalize (lg_sl ([.ref (ad 0), .ref (ad (65 + f))]) ++ List.replicate (2 - (lg_sl ([.ref (ad 0), .ref (ad (65 + f))])).length) Slot.unset).toArray = ls at hl ⊢
  have hl : lv_has ls 2 [(0, .ref (ad 0)), (1, .ref (ad (65 + f)))] := hl
  refine lv_aload_n hx hb dX3_requireNotSailed_0 rfl (lv_at hl 0 rfl) ?_
  refine cg_now K hP dX3_requireNotSailed_1 ?_
  refine lv_aload_n hx hb dX3_requireNotSailed_4 rfl (lv_at hl 1 rfl) ?_
  refine cgF_sailsAt K hP (by omega) dX3_requireNotSailed_5 ?_
  refine lv_icmp_lt (tgt := 21) hx hb dX3_requireNotSailed_8 (by decide) (fun _ => ?_) (fun c1 => absurd hns c1)
  exact fx_retv hx hb hr hlocks hP hS (Nat.le_of_ble_eq_true rfl) (Nat.le_of_ble_eq_true rfl) dX3_requireNotSailed_21 ⟨rfl, rfl⟩

set_option maxHeartbeats 4000000 in
set_option maxRecDepth 100000 in
theorem c_X3_requireNotSailed_x (l : Launch) (hfl : l.stackTraces = false) (Z : fx_Z) (ad : Nat → Nat) (hinj : fx_inj 115 ad) (g : St) (f : Nat) (hf : f < 20) (hns : ¬ g 0 2 < g 11 f) : fx_C l Z yX3_requireNotSailed cX3_requireNotSailed 2 none 6 82 1 6 115 ad (cF ad Z.2.1) g [.ref (ad 0), .ref (ad (65 + f))] (fun _ _ => False) (fun E => E = "java/lang/IllegalStateException") := by
  intro sz
  refine vx_ofW (cc := cX3_requireNotSailed) (maxL := 2) (ret := none) (by decide) rfl ?_
  intro p e s m args below meth c s₁ B hml hout hv
  obtain ⟨rfl, hsz, hP, hE, hSt⟩ := hv
  subst hsz
  have hx := B.exec
  have hb := B.bytes
  have hr := B.returns
  have hown : s.vm.findClass RX3 = some m.cls := findClass_of_methodNamed B.named
  have hlocks := B.notSynchronized
  have K : c_K p l s m ([.ref (ad 0), .ref (ad (65 + f))] : List Value).toArray c cX3_requireNotSailed 2 Z ad := ⟨hx, hb, hml, hown, fun w hw => atoms_spec (ws := fx_l yX3_requireNotSailed cX3_requireNotSailed 2 none) B.pre w (List.mem_cons_of_mem _ hw), hE, hSt, hinj, hfl⟩
  have hS : va_S (fx_A 115 ad s.heap.size) s.heap s.heap [] := va_S.rf
  have hl := lv_entry ([.ref (ad 0), .ref (ad (65 + f))]) (n := 2) (Nat.le_of_ble_eq_true rfl)
  rw [lg_entry_eq]
  generalize (lg_sl ([.ref (ad 0), .ref (ad (65 + f))]) ++ List.replicate (2 - (lg_sl ([.ref (ad 0), .ref (ad (65 + f))])).length) Slot.unset).toArray = ls at hl ⊢
  have hl : lv_has ls 2 [(0, .ref (ad 0)), (1, .ref (ad (65 + f)))] := hl
  refine lv_aload_n hx hb dX3_requireNotSailed_0 rfl (lv_at hl 0 rfl) ?_
  refine cg_now K hP dX3_requireNotSailed_1 ?_
  refine lv_aload_n hx hb dX3_requireNotSailed_4 rfl (lv_at hl 1 rfl) ?_
  refine cgF_sailsAt K hP (by omega) dX3_requireNotSailed_5 ?_
  refine lv_icmp_lt (tgt := 21) hx hb dX3_requireNotSailed_8 (by decide) (fun c1 => absurd c1 hns) (fun _ => ?_)
  exact c_throw (text := "the ferry has sailed") K hlocks hout hP hS hl.1 xw_ISE xi_ISE (by decide) xa_ISE (by decide) dX3_requireNotSailed_11 dX3_requireNotSailed_14 dX3_requireNotSailed_15 dX3_requireNotSailed_17 dX3_requireNotSailed_20 (Nat.le_of_ble_eq_true rfl) (Nat.le_of_ble_eq_true rfl) (Nat.le_of_ble_eq_true rfl) (Nat.le_of_ble_eq_true rfl) (Nat.le_of_ble_eq_true rfl) (Nat.le_of_ble_eq_true rfl) rfl

set_option maxHeartbeats 4000000 in
set_option maxRecDepth 100000 in
theorem c_X3_requireSeat_ok (l : Launch) (hfl : l.stackTraces = false) (Z : fx_Z) (ad : Nat → Nat) (hinj : fx_inj 115 ad) (g : St) (f : Nat) (t : Nat) (hf : f < 20) (ht9 : t < 10) (hs : ¬ g (30 + f) t = 0) : fx_C l Z yX3_requireSeat cX3_requireSeat 3 none 0 0 0 0 115 ad (cF ad Z.2.1) g [.ref (ad 0), .ref (ad (65 + f)), .int (nI t)] (pV g) (fun _ => False) := by
  intro sz
  refine vx_ofW (cc := cX3_requireSeat) (maxL := 3) (ret := none) (by decide) rfl ?_
  intro p e s m args below meth c s₁ B hml hout hv
  obtain ⟨rfl, hsz, hP, hE, hSt⟩ := hv
  subst hsz
  have hx := B.exec
  have hb := B.bytes
  have hr := B.returns
  have hown : s.vm.findClass RX3 = some m.cls := findClass_of_methodNamed B.named
  have hlocks := B.notSynchronized
  have K : c_K p l s m ([.ref (ad 0), .ref (ad (65 + f)), .int (nI t)] : List Value).toArray c cX3_requireSeat 3 Z ad := ⟨hx, hb, hml, hown, fun w hw => atoms_spec (ws := fx_l yX3_requireSeat cX3_requireSeat 3 none) B.pre w (List.mem_cons_of_mem _ hw), hE, hSt, hinj, hfl⟩
  have hS : va_S (fx_A 115 ad s.heap.size) s.heap s.heap [] := va_S.rf
  have hl := lv_entry ([.ref (ad 0), .ref (ad (65 + f)), .int (nI t)]) (n := 3) (Nat.le_of_ble_eq_true rfl)
  rw [lg_entry_eq]
  generalize (lg_sl ([.ref (ad 0), .ref (ad (65 + f)), .int (nI t)]) ++ List.replicate (3 - (lg_sl ([.ref (ad 0), .ref (ad (65 + f)), .int (nI t)])).length) Slot.unset).toArray = ls at hl ⊢
  have hl : lv_has ls 3 [(0, .ref (ad 0)), (1, .ref (ad (65 + f))), (2, .int (nI t))] := hl
  refine lv_aload_n hx hb dX3_requireSeat_0 rfl (lv_at hl 1 rfl) ?_
  refine cgF_places K hP (by omega) dX3_requireSeat_1 ?_
  refine lv_iload_n hx hb dX3_requireSeat_4 rfl (lv_at hl 2 rfl) ?_
  refine c_aldP K hP (by omega) (by omega) dX3_requireSeat_5 ?_
  refine lv_if_ne (tgt := 19) hx hb dX3_requireSeat_6 (by decide) (fun _ => ?_) (fun c1 => absurd c1 hs)
  exact fx_retv hx hb hr hlocks hP hS (Nat.le_of_ble_eq_true rfl) (Nat.le_of_ble_eq_true rfl) dX3_requireSeat_19 ⟨rfl, rfl⟩

set_option maxHeartbeats 4000000 in
set_option maxRecDepth 100000 in
theorem c_X3_requireSeat_x (l : Launch) (hfl : l.stackTraces = false) (Z : fx_Z) (ad : Nat → Nat) (hinj : fx_inj 115 ad) (g : St) (f : Nat) (t : Nat) (hf : f < 20) (ht9 : t < 10) (hs : g (30 + f) t = 0) : fx_C l Z yX3_requireSeat cX3_requireSeat 3 none 6 82 1 6 115 ad (cF ad Z.2.1) g [.ref (ad 0), .ref (ad (65 + f)), .int (nI t)] (fun _ _ => False) (fun E => E = "java/lang/IllegalStateException") := by
  intro sz
  refine vx_ofW (cc := cX3_requireSeat) (maxL := 3) (ret := none) (by decide) rfl ?_
  intro p e s m args below meth c s₁ B hml hout hv
  obtain ⟨rfl, hsz, hP, hE, hSt⟩ := hv
  subst hsz
  have hx := B.exec
  have hb := B.bytes
  have hr := B.returns
  have hown : s.vm.findClass RX3 = some m.cls := findClass_of_methodNamed B.named
  have hlocks := B.notSynchronized
  have K : c_K p l s m ([.ref (ad 0), .ref (ad (65 + f)), .int (nI t)] : List Value).toArray c cX3_requireSeat 3 Z ad := ⟨hx, hb, hml, hown, fun w hw => atoms_spec (ws := fx_l yX3_requireSeat cX3_requireSeat 3 none) B.pre w (List.mem_cons_of_mem _ hw), hE, hSt, hinj, hfl⟩
  have hS : va_S (fx_A 115 ad s.heap.size) s.heap s.heap [] := va_S.rf
  have hl := lv_entry ([.ref (ad 0), .ref (ad (65 + f)), .int (nI t)]) (n := 3) (Nat.le_of_ble_eq_true rfl)
  rw [lg_entry_eq]
  generalize (lg_sl ([.ref (ad 0), .ref (ad (65 + f)), .int (nI t)]) ++ List.replicate (3 - (lg_sl ([.ref (ad 0), .ref (ad (65 + f)), .int (nI t)])).length) Slot.unset).toArray = ls at hl ⊢
  have hl : lv_has ls 3 [(0, .ref (ad 0)), (1, .ref (ad (65 + f))), (2, .int (nI t))] := hl
  refine lv_aload_n hx hb dX3_requireSeat_0 rfl (lv_at hl 1 rfl) ?_
  refine cgF_places K hP (by omega) dX3_requireSeat_1 ?_
  refine lv_iload_n hx hb dX3_requireSeat_4 rfl (lv_at hl 2 rfl) ?_
  refine c_aldP K hP (by omega) (by omega) dX3_requireSeat_5 ?_
  refine lv_if_ne (tgt := 19) hx hb dX3_requireSeat_6 (by decide) (fun c1 => absurd hs c1) (fun _ => ?_)
  exact c_throw (text := "the traveller has no seat there") K hlocks hout hP hS hl.1 xw_ISE xi_ISE (by decide) xa_ISE (by decide) dX3_requireSeat_9 dX3_requireSeat_12 dX3_requireSeat_13 dX3_requireSeat_15 dX3_requireSeat_18 (Nat.le_of_ble_eq_true rfl) (Nat.le_of_ble_eq_true rfl) (Nat.le_of_ble_eq_true rfl) (Nat.le_of_ble_eq_true rfl) (Nat.le_of_ble_eq_true rfl) (Nat.le_of_ble_eq_true rfl) rfl

set_option maxHeartbeats 4000000 in
set_option maxRecDepth 100000 in
theorem c_X3_requireWithin_ok (l : Launch) (hfl : l.stackTraces = false) (Z : fx_Z) (ad : Nat → Nat) (hinj : fx_inj 115 ad) (g : St) (f : Nat) (n : Int32) (hf : f < 20) (hns : g 0 2 < g 11 f) (hw : g 11 f - n ≤ g 0 2) : fx_C l Z yX3_requireWithin cX3_requireWithin 3 none 1 21 0 0 115 ad (cF ad Z.2.1) g [.ref (ad 0), .ref (ad (65 + f)), .int n] (pV g) (fun _ => False) := by
  intro sz
  refine vx_ofW (cc := cX3_requireWithin) (maxL := 3) (ret := none) (by decide) rfl ?_
  intro p e s m args below meth c s₁ B hml hout hv
  obtain ⟨rfl, hsz, hP, hE, hSt⟩ := hv
  subst hsz
  have hx := B.exec
  have hb := B.bytes
  have hr := B.returns
  have hown : s.vm.findClass RX3 = some m.cls := findClass_of_methodNamed B.named
  have hlocks := B.notSynchronized
  have K : c_K p l s m ([.ref (ad 0), .ref (ad (65 + f)), .int n] : List Value).toArray c cX3_requireWithin 3 Z ad := ⟨hx, hb, hml, hown, fun w hw => atoms_spec (ws := fx_l yX3_requireWithin cX3_requireWithin 3 none) B.pre w (List.mem_cons_of_mem _ hw), hE, hSt, hinj, hfl⟩
  have hS : va_S (fx_A 115 ad s.heap.size) s.heap s.heap [] := va_S.rf
  have hl := lv_entry ([.ref (ad 0), .ref (ad (65 + f)), .int n]) (n := 3) (Nat.le_of_ble_eq_true rfl)
  rw [lg_entry_eq]
  generalize (lg_sl ([.ref (ad 0), .ref (ad (65 + f)), .int n]) ++ List.replicate (3 - (lg_sl ([.ref (ad 0), .ref (ad (65 + f)), .int n])).length) Slot.unset).toArray = ls at hl ⊢
  have hl : lv_has ls 3 [(0, .ref (ad 0)), (1, .ref (ad (65 + f))), (2, .int n)] := hl
  refine lv_aload_n hx hb dX3_requireWithin_0 rfl (lv_at hl 0 rfl) ?_
  refine lv_aload_n hx hb dX3_requireWithin_1 rfl (lv_at hl 1 rfl) ?_
  refine c_callv (rest := []) K hP hS (c_X3_requireNotSailed_ok l hfl Z ad hinj g f (by omega) (by assumption)) ok_X3_120 rfl ⟨Nat.le_of_ble_eq_true rfl, Nat.le_of_ble_eq_true rfl⟩ rfl hl.1 (Nat.le_of_ble_eq_true rfl) ⟨Nat.le_of_ble_eq_true rfl, Nat.le_of_ble_eq_true rfl⟩ dX3_requireWithin_2 (fun H locs hP hS => ?_)
  refine lv_aload_n hx hb dX3_requireWithin_5 rfl (lv_at hl 0 rfl) ?_
  refine cg_now K hP dX3_requireWithin_6 ?_
  refine lv_aload_n hx hb dX3_requireWithin_9 rfl (lv_at hl 1 rfl) ?_
  refine cgF_sailsAt K hP (by omega) dX3_requireWithin_10 ?_
  refine lv_iload_n hx hb dX3_requireWithin_13 rfl (lv_at hl 2 rfl) ?_
  refine lv_isub hx hb dX3_requireWithin_14 ?_
  refine lv_topi (fun v1 e1 => ?_)
  refine lv_icmp_ge (tgt := 28) hx hb dX3_requireWithin_15 (by decide) (fun _ => ?_) (fun c2 => absurd (by rw [e1]; exact hw) c2)
  exact fx_retv hx hb hr hlocks hP hS (Nat.le_of_ble_eq_true rfl) (Nat.le_of_ble_eq_true rfl) dX3_requireWithin_28 ⟨rfl, rfl⟩

set_option maxHeartbeats 4000000 in
set_option maxRecDepth 100000 in
theorem c_X3_requireWithin_x1 (l : Launch) (hfl : l.stackTraces = false) (Z : fx_Z) (ad : Nat → Nat) (hinj : fx_inj 115 ad) (g : St) (f : Nat) (n : Int32) (hf : f < 20) (hns : ¬ g 0 2 < g 11 f) : fx_C l Z yX3_requireWithin cX3_requireWithin 3 none 7 103 1 6 115 ad (cF ad Z.2.1) g [.ref (ad 0), .ref (ad (65 + f)), .int n] (fun _ _ => False) (fun E => E = "java/lang/IllegalStateException") := by
  intro sz
  refine vx_ofW (cc := cX3_requireWithin) (maxL := 3) (ret := none) (by decide) rfl ?_
  intro p e s m args below meth c s₁ B hml hout hv
  obtain ⟨rfl, hsz, hP, hE, hSt⟩ := hv
  subst hsz
  have hx := B.exec
  have hb := B.bytes
  have hr := B.returns
  have hown : s.vm.findClass RX3 = some m.cls := findClass_of_methodNamed B.named
  have hlocks := B.notSynchronized
  have K : c_K p l s m ([.ref (ad 0), .ref (ad (65 + f)), .int n] : List Value).toArray c cX3_requireWithin 3 Z ad := ⟨hx, hb, hml, hown, fun w hw => atoms_spec (ws := fx_l yX3_requireWithin cX3_requireWithin 3 none) B.pre w (List.mem_cons_of_mem _ hw), hE, hSt, hinj, hfl⟩
  have hS : va_S (fx_A 115 ad s.heap.size) s.heap s.heap [] := va_S.rf
  have hl := lv_entry ([.ref (ad 0), .ref (ad (65 + f)), .int n]) (n := 3) (Nat.le_of_ble_eq_true rfl)
  rw [lg_entry_eq]
  generalize (lg_sl ([.ref (ad 0), .ref (ad (65 + f)), .int n]) ++ List.replicate (3 - (lg_sl ([.ref (ad 0), .ref (ad (65 + f)), .int n])).length) Slot.unset).toArray = ls at hl ⊢
  have hl : lv_has ls 3 [(0, .ref (ad 0)), (1, .ref (ad (65 + f))), (2, .int n)] := hl
  refine lv_aload_n hx hb dX3_requireWithin_0 rfl (lv_at hl 0 rfl) ?_
  refine lv_aload_n hx hb dX3_requireWithin_1 rfl (lv_at hl 1 rfl) ?_
  exact c_callx (rest := []) K hlocks hout hP hS (c_X3_requireNotSailed_x l hfl Z ad hinj g f (by omega) (by assumption)) ok_X3_120 rfl ⟨Nat.le_of_ble_eq_true rfl, Nat.le_of_ble_eq_true rfl⟩ rfl hl.1 (Nat.le_of_ble_eq_true rfl) ⟨Nat.le_of_ble_eq_true rfl, Nat.le_of_ble_eq_true rfl⟩ dX3_requireWithin_2 (Nat.le_of_ble_eq_true rfl) (Nat.le_of_ble_eq_true rfl) (fun E hE => hE)

set_option maxHeartbeats 4000000 in
set_option maxRecDepth 100000 in
theorem c_X3_requireWithin_x2 (l : Launch) (hfl : l.stackTraces = false) (Z : fx_Z) (ad : Nat → Nat) (hinj : fx_inj 115 ad) (g : St) (f : Nat) (n : Int32) (hf : f < 20) (hns : g 0 2 < g 11 f) (hw : ¬ g 11 f - n ≤ g 0 2) : fx_C l Z yX3_requireWithin cX3_requireWithin 3 none 6 82 1 6 115 ad (cF ad Z.2.1) g [.ref (ad 0), .ref (ad (65 + f)), .int n] (fun _ _ => False) (fun E => E = "java/lang/IllegalStateException") := by
  intro sz
  refine vx_ofW (cc := cX3_requireWithin) (maxL := 3) (ret := none) (by decide) rfl ?_
  intro p e s m args below meth c s₁ B hml hout hv
  obtain ⟨rfl, hsz, hP, hE, hSt⟩ := hv
  subst hsz
  have hx := B.exec
  have hb := B.bytes
  have hr := B.returns
  have hown : s.vm.findClass RX3 = some m.cls := findClass_of_methodNamed B.named
  have hlocks := B.notSynchronized
  have K : c_K p l s m ([.ref (ad 0), .ref (ad (65 + f)), .int n] : List Value).toArray c cX3_requireWithin 3 Z ad := ⟨hx, hb, hml, hown, fun w hw => atoms_spec (ws := fx_l yX3_requireWithin cX3_requireWithin 3 none) B.pre w (List.mem_cons_of_mem _ hw), hE, hSt, hinj, hfl⟩
  have hS : va_S (fx_A 115 ad s.heap.size) s.heap s.heap [] := va_S.rf
  have hl := lv_entry ([.ref (ad 0), .ref (ad (65 + f)), .int n]) (n := 3) (Nat.le_of_ble_eq_true rfl)
  rw [lg_entry_eq]
  generalize (lg_sl ([.ref (ad 0), .ref (ad (65 + f)), .int n]) ++ List.replicate (3 - (lg_sl ([.ref (ad 0), .ref (ad (65 + f)), .int n])).length) Slot.unset).toArray = ls at hl ⊢
  have hl : lv_has ls 3 [(0, .ref (ad 0)), (1, .ref (ad (65 + f))), (2, .int n)] := hl
  refine lv_aload_n hx hb dX3_requireWithin_0 rfl (lv_at hl 0 rfl) ?_
  refine lv_aload_n hx hb dX3_requireWithin_1 rfl (lv_at hl 1 rfl) ?_
  refine c_callv (rest := []) K hP hS (c_X3_requireNotSailed_ok l hfl Z ad hinj g f (by omega) (by assumption)) ok_X3_120 rfl ⟨Nat.le_of_ble_eq_true rfl, Nat.le_of_ble_eq_true rfl⟩ rfl hl.1 (Nat.le_of_ble_eq_true rfl) ⟨Nat.le_of_ble_eq_true rfl, Nat.le_of_ble_eq_true rfl⟩ dX3_requireWithin_2 (fun H locs hP hS => ?_)
  refine lv_aload_n hx hb dX3_requireWithin_5 rfl (lv_at hl 0 rfl) ?_
  refine cg_now K hP dX3_requireWithin_6 ?_
  refine lv_aload_n hx hb dX3_requireWithin_9 rfl (lv_at hl 1 rfl) ?_
  refine cgF_sailsAt K hP (by omega) dX3_requireWithin_10 ?_
  refine lv_iload_n hx hb dX3_requireWithin_13 rfl (lv_at hl 2 rfl) ?_
  refine lv_isub hx hb dX3_requireWithin_14 ?_
  refine lv_topi (fun v1 e1 => ?_)
  refine lv_icmp_ge (tgt := 28) hx hb dX3_requireWithin_15 (by decide) (fun c2 => absurd c2 (by rw [e1]; exact hw)) (fun _ => ?_)
  exact c_throw (text := "it is too early") K hlocks hout hP hS hl.1 xw_ISE xi_ISE (by decide) xa_ISE (by decide) dX3_requireWithin_18 dX3_requireWithin_21 dX3_requireWithin_22 dX3_requireWithin_24 dX3_requireWithin_27 (Nat.le_of_ble_eq_true rfl) (Nat.le_of_ble_eq_true rfl) (Nat.le_of_ble_eq_true rfl) (Nat.le_of_ble_eq_true rfl) (Nat.le_of_ble_eq_true rfl) (Nat.le_of_ble_eq_true rfl) rfl

set_option maxHeartbeats 4000000 in
set_option maxRecDepth 100000 in
theorem c_X3_placesWith (l : Launch) (hfl : l.stackTraces = false) (Z : fx_Z) (ad : Nat → Nat) (hinj : fx_inj 115 ad) (g : St) (f : Nat) (x : Int32) (hf : f < 20) : fx_C l Z yX3_placesWith cX3_placesWith 5 (some .int) 0 0 0 0 115 ad (cF ad Z.2.1) g [.ref (ad 0), .ref (ad (65 + f)), .int x] (pI (nI (pwN g f x 10)) g) (fun _ => False) := by
  intro sz
  refine vx_ofW (cc := cX3_placesWith) (maxL := 5) (ret := (some .int)) (by decide) rfl ?_
  intro p e s m args below meth c s₁ B hml hout hv
  obtain ⟨rfl, hsz, hP, hE, hSt⟩ := hv
  subst hsz
  have hx := B.exec
  have hb := B.bytes
  have hr := B.returns
  have hown : s.vm.findClass RX3 = some m.cls := findClass_of_methodNamed B.named
  have hlocks := B.notSynchronized
  have K : c_K p l s m ([.ref (ad 0), .ref (ad (65 + f)), .int x] : List Value).toArray c cX3_placesWith 5 Z ad := ⟨hx, hb, hml, hown, fun w hw => atoms_spec (ws := fx_l yX3_placesWith cX3_placesWith 5 (some .int)) B.pre w (List.mem_cons_of_mem _ hw), hE, hSt, hinj, hfl⟩
  have hS : va_S (fx_A 115 ad s.heap.size) s.heap s.heap [] := va_S.rf
  have hl := lv_entry ([.ref (ad 0), .ref (ad (65 + f)), .int x]) (n := 5) (Nat.le_of_ble_eq_true rfl)
  rw [lg_entry_eq]
  generalize (lg_sl ([.ref (ad 0), .ref (ad (65 + f)), .int x]) ++ List.replicate (5 - (lg_sl ([.ref (ad 0), .ref (ad (65 + f)), .int x])).length) Slot.unset).toArray = ls at hl ⊢
  have hl : lv_has ls 5 [(0, .ref (ad 0)), (1, .ref (ad (65 + f))), (2, .int x)] := hl
  refine lv_iconst (v := 0) hx hb dX3_placesWith_0 (by decide) ?_
  refine lv_istore_n (lv' := [(3, .int 0), (0, .ref (ad 0)), (1, .ref (ad (65 + f))), (2, .int x)]) hx hb dX3_placesWith_1 rfl hl (by decide) rfl (fun ls hl => ?_)
  refine lv_iconst (v := 0) hx hb dX3_placesWith_2 (by decide) ?_
  refine lv_istore (lv' := [(4, .int 0), (3, .int 0), (0, .ref (ad 0)), (1, .ref (ad (65 + f))), (2, .int x)]) hx hb dX3_placesWith_3 hl (by decide) rfl (fun ls hl => ?_)
  have hloop5 : ∀ (d : Nat) (t : Nat) (k : Nat), t + d = 10 → k = pwN g f x t → ∀ (H : Heap) (locs : List Loc), va_P Z.1 vwCl (iw 115 (cF ad Z.2.1 g)) H → va_S (fx_A 115 ad s.heap.size) s.heap H locs → ∀ ls : Array Slot, lv_has ls 5 [(0, .ref (ad 0)), (1, .ref (ad (65 + f))), (2, .int x), (3, .int (nI k)), (4, .int (nI t))] → W p l e (headSpec (fx_l yX3_placesWith cX3_placesWith 5 (some .int)) { frames := 0, cells := 0, slots := 0, locals := 0 }).room s m ([.ref (ad 0), .ref (ad (65 + f)), .int x] : List Value).toArray below meth c H locs 0 0 (vx_MQ below (fx_post Z 115 ad (cF ad Z.2.1) (pI (nI (pwN g f x 10)) g) s.heap.size) (fx_px Z 115 ad (cF ad Z.2.1 g) (fun _ => False) s.heap.size) ([.ref (ad 0), .ref (ad (65 + f)), .int x] : List Value).toArray s 0 0 (fx_A 115 ad s.heap.size)) (F0 m 5 ls []) := by
    intro d
    induction d with
    | zero =>
      intro t k hd hk H locs hP hS ls hl
      refine lv_iload hx hb dX3_placesWith_5 (lv_at hl 4 rfl) ?_
      refine lv_bipush (v := 10) hx hb dX3_placesWith_7 (by decide) ?_
      refine lv_icmp_ge (tgt := 32) hx hb dX3_placesWith_9 (by decide) (fun _ => ?_) (fun c1 => absurd (nI_le (a := 10) (by omega) (by omega)) c1)
      refine lv_iload_n hx hb dX3_placesWith_32 rfl (lv_at hl 3 rfl) ?_
      exact fx_reti hx hb hr hlocks hP hS (Nat.le_of_ble_eq_true rfl) (Nat.le_of_ble_eq_true rfl) dX3_placesWith_33 ⟨(by rw [hk, show t = 10 by omega]), rfl⟩
    | succ d ih5 =>
      intro t k hd hk H locs hP hS ls hl
      refine lv_iload hx hb dX3_placesWith_5 (lv_at hl 4 rfl) ?_
      refine lv_bipush (v := 10) hx hb dX3_placesWith_7 (by decide) ?_
      refine lv_icmp_ge (tgt := 32) hx hb dX3_placesWith_9 (by decide) (fun c2 => absurd c2 (nI_ge (b := 10) (by omega) (by omega))) (fun _ => ?_)
      refine lv_aload_n hx hb dX3_placesWith_12 rfl (lv_at hl 1 rfl) ?_
      refine cgF_places K hP (by omega) dX3_placesWith_13 ?_
      refine lv_iload hx hb dX3_placesWith_16 (lv_at hl 4 rfl) ?_
      refine c_aldP K hP (by omega) (by omega) dX3_placesWith_18 ?_
      refine lv_iload_n hx hb dX3_placesWith_19 rfl (lv_at hl 2 rfl) ?_
      refine lv_icmp_ne (tgt := 26) hx hb dX3_placesWith_20 (by decide) (fun c3 => ?_) (fun c3 => ?_)
      · refine lv_iinc (v := nI (t + 1)) (lv' := [(4, .int (nI (t + 1))), (0, .ref (ad 0)), (1, .ref (ad (65 + f))), (2, .int x), (3, .int (nI k))]) hx hb dX3_placesWith_26 hl (k := 4) rfl (nI_1 _) (by decide) rfl (fun ls hl => ?_)
        refine lv_goto (tgt := 5) hx hb dX3_placesWith_29 (by decide) ?_
        exact ih5 (t + 1) k (by omega) (by rw [hk]; simp [pwN, c3]) H locs hP hS ls (lv_sub hl [1, 2, 3, 4, 0] rfl)
      · refine lv_iinc (v := nI (k + 1)) (lv' := [(3, .int (nI (k + 1))), (0, .ref (ad 0)), (1, .ref (ad (65 + f))), (2, .int x), (4, .int (nI t))]) hx hb dX3_placesWith_23 hl (k := 3) rfl (nI_1 _) (by decide) rfl (fun ls hl => ?_)
        refine lv_iinc (v := nI (t + 1)) (lv' := [(4, .int (nI (t + 1))), (3, .int (nI (k + 1))), (0, .ref (ad 0)), (1, .ref (ad (65 + f))), (2, .int x)]) hx hb dX3_placesWith_26 hl (k := 4) rfl (nI_1 _) (by decide) rfl (fun ls hl => ?_)
        refine lv_goto (tgt := 5) hx hb dX3_placesWith_29 (by decide) ?_
        exact ih5 (t + 1) (k + 1) (by omega) (by rw [hk]; simp [pwN, c3]) H locs hP hS ls (lv_sub hl [2, 3, 4, 1, 0] rfl)
  exact hloop5 10 0 0 (by omega) rfl s.heap [] hP hS ls (lv_sub hl [2, 3, 4, 1, 0] rfl)

set_option maxHeartbeats 4000000 in
set_option maxRecDepth 100000 in
theorem c_X3_seatsLeft (l : Launch) (hfl : l.stackTraces = false) (Z : fx_Z) (ad : Nat → Nat) (hinj : fx_inj 115 ad) (g : St) (f : Nat) (hf : f < 20) : fx_C l Z yX3_seatsLeft cX3_seatsLeft 2 (some .int) 1 24 0 0 115 ad (cF ad Z.2.1) g [.ref (ad 0), .ref (ad (65 + f))] (pI (g 12 f - (10 - nI (pwN g f 0 10))) g) (fun _ => False) := by
  intro sz
  refine vx_ofW (cc := cX3_seatsLeft) (maxL := 2) (ret := (some .int)) (by decide) rfl ?_
  intro p e s m args below meth c s₁ B hml hout hv
  obtain ⟨rfl, hsz, hP, hE, hSt⟩ := hv
  subst hsz
  have hx := B.exec
  have hb := B.bytes
  have hr := B.returns
  have hown : s.vm.findClass RX3 = some m.cls := findClass_of_methodNamed B.named
  have hlocks := B.notSynchronized
  have K : c_K p l s m ([.ref (ad 0), .ref (ad (65 + f))] : List Value).toArray c cX3_seatsLeft 2 Z ad := ⟨hx, hb, hml, hown, fun w hw => atoms_spec (ws := fx_l yX3_seatsLeft cX3_seatsLeft 2 (some .int)) B.pre w (List.mem_cons_of_mem _ hw), hE, hSt, hinj, hfl⟩
  have hS : va_S (fx_A 115 ad s.heap.size) s.heap s.heap [] := va_S.rf
  have hl := lv_entry ([.ref (ad 0), .ref (ad (65 + f))]) (n := 2) (Nat.le_of_ble_eq_true rfl)
  rw [lg_entry_eq]
  generalize (lg_sl ([.ref (ad 0), .ref (ad (65 + f))]) ++ List.replicate (2 - (lg_sl ([.ref (ad 0), .ref (ad (65 + f))])).length) Slot.unset).toArray = ls at hl ⊢
  have hl : lv_has ls 2 [(0, .ref (ad 0)), (1, .ref (ad (65 + f)))] := hl
  refine lv_aload_n hx hb dX3_seatsLeft_0 rfl (lv_at hl 1 rfl) ?_
  refine cgF_seats K hP (by omega) dX3_seatsLeft_1 ?_
  refine lv_bipush (v := 10) hx hb dX3_seatsLeft_4 (by decide) ?_
  refine lv_aload_n hx hb dX3_seatsLeft_6 rfl (lv_at hl 0 rfl) ?_
  refine lv_aload_n hx hb dX3_seatsLeft_7 rfl (lv_at hl 1 rfl) ?_
  refine lv_iconst (v := 0) hx hb dX3_seatsLeft_8 (by decide) ?_
  refine c_calli (rest := [.int 10, .int (g 12 f)]) K hP hS (c_X3_placesWith l hfl Z ad hinj g f 0 (by omega)) ok_X3_155 rfl ⟨Nat.le_of_ble_eq_true rfl, Nat.le_of_ble_eq_true rfl⟩ rfl hl.1 (Nat.le_of_ble_eq_true rfl) ⟨Nat.le_of_ble_eq_true rfl, Nat.le_of_ble_eq_true rfl⟩ dX3_seatsLeft_9 (fun H locs hP hS => ?_)
  refine lv_isub hx hb dX3_seatsLeft_12 ?_
  refine lv_topi (fun v1 e1 => ?_)
  refine lv_isub hx hb dX3_seatsLeft_13 ?_
  refine lv_topi (fun v2 e2 => ?_)
  exact fx_reti hx hb hr hlocks hP hS (Nat.le_of_ble_eq_true rfl) (Nat.le_of_ble_eq_true rfl) dX3_seatsLeft_14 ⟨by simp only [e1, e2], rfl⟩

set_option maxHeartbeats 4000000 in
set_option maxRecDepth 100000 in
theorem c_X3_isStampedFor (l : Launch) (hfl : l.stackTraces = false) (Z : fx_Z) (ad : Nat → Nat) (hinj : fx_inj 115 ad) (g : St) (i : Nat) (t : Nat) (f : Nat) (hi : i < 60) : fx_C l Z yX3_isStampedFor cX3_isStampedFor 4 (some .boolean) 0 0 0 0 115 ad (cF ad Z.2.1) g [.ref (ad 0), .ref (ad (5 + i)), .int (nI t), .int (nI f)] (pI (if stF g t f i then 1 else 0) g) (fun _ => False) := by
  intro sz
  refine vx_ofW (cc := cX3_isStampedFor) (maxL := 4) (ret := (some .boolean)) (by decide) rfl ?_
  intro p e s m args below meth c s₁ B hml hout hv
  obtain ⟨rfl, hsz, hP, hE, hSt⟩ := hv
  subst hsz
  have hx := B.exec
  have hb := B.bytes
  have hr := B.returns
  have hown : s.vm.findClass RX3 = some m.cls := findClass_of_methodNamed B.named
  have hlocks := B.notSynchronized
  have K : c_K p l s m ([.ref (ad 0), .ref (ad (5 + i)), .int (nI t), .int (nI f)] : List Value).toArray c cX3_isStampedFor 4 Z ad := ⟨hx, hb, hml, hown, fun w hw => atoms_spec (ws := fx_l yX3_isStampedFor cX3_isStampedFor 4 (some .boolean)) B.pre w (List.mem_cons_of_mem _ hw), hE, hSt, hinj, hfl⟩
  have hS : va_S (fx_A 115 ad s.heap.size) s.heap s.heap [] := va_S.rf
  have hl := lv_entry ([.ref (ad 0), .ref (ad (5 + i)), .int (nI t), .int (nI f)]) (n := 4) (Nat.le_of_ble_eq_true rfl)
  rw [lg_entry_eq]
  generalize (lg_sl ([.ref (ad 0), .ref (ad (5 + i)), .int (nI t), .int (nI f)]) ++ List.replicate (4 - (lg_sl ([.ref (ad 0), .ref (ad (5 + i)), .int (nI t), .int (nI f)])).length) Slot.unset).toArray = ls at hl ⊢
  have hl : lv_has ls 4 [(0, .ref (ad 0)), (1, .ref (ad (5 + i))), (2, .int (nI t)), (3, .int (nI f))] := hl
  refine lv_aload_n hx hb dX3_isStampedFor_0 rfl (lv_at hl 1 rfl) ?_
  refine cgR_state K hP (by omega) dX3_isStampedFor_1 ?_
  refine lv_iconst (v := 1) hx hb dX3_isStampedFor_4 (by decide) ?_
  refine lv_icmp_ne (tgt := 28) hx hb dX3_isStampedFor_5 (by decide) (fun c1 => ?_) (fun c1 => ?_)
  · refine lv_iconst (v := 0) hx hb dX3_isStampedFor_28 (by decide) ?_
    exact fx_retz hx hb hr hlocks rfl hP hS (Nat.le_of_ble_eq_true rfl) (Nat.le_of_ble_eq_true rfl) dX3_isStampedFor_29 ⟨by simp [stF, c1], rfl⟩
  · refine lv_aload_n hx hb dX3_isStampedFor_8 rfl (lv_at hl 1 rfl) ?_
    refine cgR_traveller K hP (by omega) dX3_isStampedFor_9 ?_
    refine lv_iload_n hx hb dX3_isStampedFor_12 rfl (lv_at hl 2 rfl) ?_
    refine lv_icmp_ne (tgt := 28) hx hb dX3_isStampedFor_13 (by decide) (fun c2 => ?_) (fun c2 => ?_)
    · refine lv_iconst (v := 0) hx hb dX3_isStampedFor_28 (by decide) ?_
      exact fx_retz hx hb hr hlocks rfl hP hS (Nat.le_of_ble_eq_true rfl) (Nat.le_of_ble_eq_true rfl) dX3_isStampedFor_29 ⟨by simp [stF, c1, c2], rfl⟩
    · refine lv_aload_n hx hb dX3_isStampedFor_16 rfl (lv_at hl 1 rfl) ?_
      refine cgR_stampedFor K hP (by omega) dX3_isStampedFor_17 ?_
      refine lv_iload_n hx hb dX3_isStampedFor_20 rfl (lv_at hl 3 rfl) ?_
      refine lv_icmp_ne (tgt := 28) hx hb dX3_isStampedFor_21 (by decide) (fun c3 => ?_) (fun c3 => ?_)
      · refine lv_iconst (v := 0) hx hb dX3_isStampedFor_28 (by decide) ?_
        exact fx_retz hx hb hr hlocks rfl hP hS (Nat.le_of_ble_eq_true rfl) (Nat.le_of_ble_eq_true rfl) dX3_isStampedFor_29 ⟨by simp [stF, c1, c2, c3], rfl⟩
      · refine lv_iconst (v := 1) hx hb dX3_isStampedFor_24 (by decide) ?_
        refine lv_goto (tgt := 29) hx hb dX3_isStampedFor_25 (by decide) ?_
        exact fx_retz hx hb hr hlocks rfl hP hS (Nat.le_of_ble_eq_true rfl) (Nat.le_of_ble_eq_true rfl) dX3_isStampedFor_29 ⟨by simp [stF, c1, c2, c3], rfl⟩

set_option maxHeartbeats 4000000 in
set_option maxRecDepth 100000 in
theorem c_X3_takeStampOff (l : Launch) (hfl : l.stackTraces = false) (Z : fx_Z) (ad : Nat → Nat) (hinj : fx_inj 115 ad) (g : St) (i : Nat) (x : Int32) (hi : i < 60) : fx_C l Z yX3_takeStampOff cX3_takeStampOff 3 none 0 0 0 0 115 ad (cF ad Z.2.1) g [.ref (ad 0), .ref (ad (5 + i)), .int x] (pV (u2 (u2 g 7 i x) 8 i (-1))) (fun _ => False) := by
  intro sz
  refine vx_ofW (cc := cX3_takeStampOff) (maxL := 3) (ret := none) (by decide) rfl ?_
  intro p e s m args below meth c s₁ B hml hout hv
  obtain ⟨rfl, hsz, hP, hE, hSt⟩ := hv
  subst hsz
  have hx := B.exec
  have hb := B.bytes
  have hr := B.returns
  have hown : s.vm.findClass RX3 = some m.cls := findClass_of_methodNamed B.named
  have hlocks := B.notSynchronized
  have K : c_K p l s m ([.ref (ad 0), .ref (ad (5 + i)), .int x] : List Value).toArray c cX3_takeStampOff 3 Z ad := ⟨hx, hb, hml, hown, fun w hw => atoms_spec (ws := fx_l yX3_takeStampOff cX3_takeStampOff 3 none) B.pre w (List.mem_cons_of_mem _ hw), hE, hSt, hinj, hfl⟩
  have hS : va_S (fx_A 115 ad s.heap.size) s.heap s.heap [] := va_S.rf
  have hl := lv_entry ([.ref (ad 0), .ref (ad (5 + i)), .int x]) (n := 3) (Nat.le_of_ble_eq_true rfl)
  rw [lg_entry_eq]
  generalize (lg_sl ([.ref (ad 0), .ref (ad (5 + i)), .int x]) ++ List.replicate (3 - (lg_sl ([.ref (ad 0), .ref (ad (5 + i)), .int x])).length) Slot.unset).toArray = ls at hl ⊢
  have hl : lv_has ls 3 [(0, .ref (ad 0)), (1, .ref (ad (5 + i))), (2, .int x)] := hl
  refine lv_aload_n hx hb dX3_takeStampOff_0 rfl (lv_at hl 1 rfl) ?_
  refine lv_iload_n hx hb dX3_takeStampOff_1 rfl (lv_at hl 2 rfl) ?_
  refine cpR_state K hP hS (by omega) dX3_takeStampOff_2 (fun h1 H locs e1 hP hS => ?_)
  refine lv_aload_n hx hb dX3_takeStampOff_5 rfl (lv_at hl 1 rfl) ?_
  refine lv_iconst (v := (-1)) hx hb dX3_takeStampOff_6 (by decide) ?_
  refine cpR_stampedFor K hP hS (by omega) dX3_takeStampOff_7 (fun h2 H locs e2 hP hS => ?_)
  exact fx_retv hx hb hr hlocks hP hS (Nat.le_of_ble_eq_true rfl) (Nat.le_of_ble_eq_true rfl) dX3_takeStampOff_10 ⟨rfl, by simp only [e1, e2]⟩

set_option maxHeartbeats 4000000 in
set_option maxRecDepth 100000 in
theorem c_X3_refundOfTax (l : Launch) (hfl : l.stackTraces = false) (Z : fx_Z) (ad : Nat → Nat) (hinj : fx_inj 115 ad) (g : St) (x : Int32) : fx_C l Z yX3_refundOfTax cX3_refundOfTax 2 (some .int) 0 0 0 0 115 ad (cF ad Z.2.1) g [.ref (ad 0), .int x] (pI (its0 x) g) (fun _ => False) := by
  intro sz
  refine vx_ofW (cc := cX3_refundOfTax) (maxL := 2) (ret := (some .int)) (by decide) rfl ?_
  intro p e s m args below meth c s₁ B hml hout hv
  obtain ⟨rfl, hsz, hP, hE, hSt⟩ := hv
  subst hsz
  have hx := B.exec
  have hb := B.bytes
  have hr := B.returns
  have hown : s.vm.findClass RX3 = some m.cls := findClass_of_methodNamed B.named
  have hlocks := B.notSynchronized
  have K : c_K p l s m ([.ref (ad 0), .int x] : List Value).toArray c cX3_refundOfTax 2 Z ad := ⟨hx, hb, hml, hown, fun w hw => atoms_spec (ws := fx_l yX3_refundOfTax cX3_refundOfTax 2 (some .int)) B.pre w (List.mem_cons_of_mem _ hw), hE, hSt, hinj, hfl⟩
  have hS : va_S (fx_A 115 ad s.heap.size) s.heap s.heap [] := va_S.rf
  have hl := lv_entry ([.ref (ad 0), .int x]) (n := 2) (Nat.le_of_ble_eq_true rfl)
  rw [lg_entry_eq]
  generalize (lg_sl ([.ref (ad 0), .int x]) ++ List.replicate (2 - (lg_sl ([.ref (ad 0), .int x])).length) Slot.unset).toArray = ls at hl ⊢
  have hl : lv_has ls 2 [(0, .ref (ad 0)), (1, .int x)] := hl
  refine lv_iload_n hx hb dX3_refundOfTax_0 rfl (lv_at hl 1 rfl) ?_
  refine lv_iload_n hx hb dX3_refundOfTax_1 rfl (lv_at hl 1 rfl) ?_
  refine lv_bipush (v := 9) hx hb dX3_refundOfTax_2 (by decide) ?_
  refine lv_iadd hx hb dX3_refundOfTax_4 ?_
  refine lv_topi (fun v1 e1 => ?_)
  refine lv_bipush (v := 10) hx hb dX3_refundOfTax_5 (by decide) ?_
  refine lv_idiv hx hb dX3_refundOfTax_7 (by decide) ?_
  refine lv_topi (fun v2 e2 => ?_)
  refine lv_isub hx hb dX3_refundOfTax_8 ?_
  refine lv_topi (fun v3 e3 => ?_)
  exact fx_reti hx hb hr hlocks hP hS (Nat.le_of_ble_eq_true rfl) (Nat.le_of_ble_eq_true rfl) dX3_refundOfTax_9 ⟨by simp only [e1, e2, e3]; rfl, rfl⟩

