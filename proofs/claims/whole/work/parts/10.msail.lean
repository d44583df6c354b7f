/-! ===== the model: sailings, hours, codes ===== -/
def cT1 (h : St) (f n : Nat) : St := fun k i => if i < n then (if k = 21 then 0 else if h 15 i = nI f then (if k = 16 then 1 else if k = 17 then h 17 i + 1 else if k = 15 then -1 else h k i) else if k = 18 then h 18 i + (if mS h f i then 1 else 0) else h k i) else h k i
def mL (h : St) (f : Nat) : Nat → Int32
  | 0 => 0
  | n + 1 => if h 15 n = nI f then mL h f n ||| (1 <<< (nI n &&& 31)) else mL h f n
theorem mL_t {h : St} {f n : Nat} (c : h 15 n = nI f) : mL h f n ||| (1 <<< (nI n &&& 31)) = mL h f (n + 1) := by simp [mL, c]
theorem mL_f {h : St} {f n : Nat} (c : ¬ h 15 n = nI f) : mL h f (n + 1) = mL h f n := by simp [mL, c]
theorem cT1_0 (h : St) (f : Nat) : cT1 h f 0 = h := by
  funext k i
  simp [cT1]
theorem cT1_at (h : St) (f n k : Nat) : cT1 h f n k n = h k n := by simp [cT1]
theorem cT1_k {h : St} {f n k : Nat} (hk : k < 15 ∨ k = 19 ∨ k = 20) : cT1 h f n k = h k := by
  funext i
  unfold cT1
  split
  · rw [if_neg (by omega)]
    split
    · rw [if_neg (by omega), if_neg (by omega), if_neg (by omega)]
    · rw [if_neg (by omega)]
  · rfl
theorem cT1_step {h g : St} {f n : Nat} (h1 : ∀ k i, i ≠ n → g k i = cT1 h f n k i) (h2 : ∀ k, g k n = (if k = 21 then 0 else if h 15 n = nI f then (if k = 16 then 1 else if k = 17 then h 17 n + 1 else if k = 15 then -1 else h k n) else if k = 18 then h 18 n + (if mS h f n then 1 else 0) else h k n)) : g = cT1 h f (n + 1) := by
  funext k i
  by_cases hi : i = n
  · subst hi
    rw [h2 k]
    simp [cT1]
  · rw [h1 k i hi]
    unfold cT1
    by_cases hl : i < n
    · rw [if_pos hl, if_pos (show i < n + 1 by omega)]
    · rw [if_neg hl, if_neg (show ¬ i < n + 1 by omega)]
theorem cT1_a {h : St} {f n : Nat} (c : cT1 h f n 15 n = nI f) : u2 (u2 (u2 (u2 (cT1 h f n) 21 n 0) 16 n 1) 17 n (cT1 h f n 17 n + 1)) 15 n (-1) = cT1 h f (n + 1) := by
  rw [cT1_at] at c
  refine cT1_step (fun k i hi => by simp [u2_at, hi]) (fun k => ?_)
  simp only [u2_at, cT1_at, c, and_true, if_true]
  by_cases k15 : k = 15
  · subst k15; simp
  · by_cases k17 : k = 17
    · subst k17; simp
    · by_cases k16 : k = 16
      · subst k16; simp
      · by_cases k21 : k = 21
        · subst k21; simp
        · simp [k15, k16, k17, k21]
theorem cT1_b1 {h : St} {f n : Nat} (c : ¬ cT1 h f n 15 n = nI f) (hs : mS h f n) : u2 (u2 (cT1 h f n) 21 n 0) 18 n (cT1 h f n 18 n + 1) = cT1 h f (n + 1) := by
  rw [cT1_at] at c
  refine cT1_step (fun k i hi => by simp [u2_at, hi]) (fun k => ?_)
  simp only [u2_at, cT1_at, c, and_true, if_false, if_pos hs]
  by_cases k18 : k = 18
  · subst k18; simp
  · by_cases k21 : k = 21
    · subst k21; simp
    · simp [k18, k21]
theorem cT1_b0 {h : St} {f n : Nat} (c : ¬ cT1 h f n 15 n = nI f) (hs : ¬ mS h f n) : u2 (u2 (cT1 h f n) 21 n 0) 18 n (cT1 h f n 18 n + 0) = cT1 h f (n + 1) := by
  rw [cT1_at] at c
  refine cT1_step (fun k i hi => by simp [u2_at, hi]) (fun k => ?_)
  simp only [u2_at, cT1_at, c, and_true, if_false, if_neg hs]
  by_cases k18 : k = 18
  · subst k18; simp
  · by_cases k21 : k = 21
    · subst k21; simp
    · simp [k18, k21]
def mT2 (g : St) (f : Nat) (x : Int32) : Nat → St
  | 0 => g
  | n + 1 => if mT2 g f x n 7 n = 1 ∧ mT2 g f x n 8 n = nI f then (if (x >>> (mT2 g f x n 3 n &&& 31)) &&& 1 = 1 then payS (mT2 g f x n) n (mT2 g f x n 3 n).toNatClampNeg else failS (mT2 g f x n) n) else mT2 g f x n
theorem payS_k {h : St} {i t k : Nat} (hk : k < 7 ∨ (10 < k ∧ k < 20)) : payS h i t k = h k := by
  unfold payS
  rw [u2_ne _ _ _ (by omega), u2_ne _ _ _ (by omega), u2_ne _ _ _ (by omega), u2_ne _ _ _ (by omega)]
theorem failS_k {h : St} {i k : Nat} (hk : k < 7 ∨ (10 < k ∧ k < 20)) : failS h i k = h k := by
  unfold failS
  rw [u2_ne _ _ _ (by omega), u2_ne _ _ _ (by omega), u2_ne _ _ _ (by omega)]
theorem mT2_k {g : St} {f n k : Nat} {x : Int32} (hk : k < 7 ∨ (10 < k ∧ k < 20)) : mT2 g f x n k = g k := by
  induction n with
  | zero => rfl
  | succ n ih =>
    unfold mT2
    split
    · split
      · rw [payS_k hk, ih]
      · rw [failS_k hk, ih]
    · exact ih
theorem mT2_p {g : St} {f n t : Nat} {x : Int32} (c7 : mT2 g f x n 7 n = 1) (c8 : mT2 g f x n 8 n = nI f) (h3 : mT2 g f x n 3 n = nI t) (ht : t < 10) (cb : (x >>> (nI t &&& 31)) &&& 1 = 1) : payS (mT2 g f x n) n t = mT2 g f x (n + 1) := by
  show _ = if _ then _ else _
  rw [if_pos ⟨c7, c8⟩, h3, if_pos cb, nI_clamp (by omega)]
theorem mT2_f {g : St} {f n t : Nat} {x : Int32} (c7 : mT2 g f x n 7 n = 1) (c8 : mT2 g f x n 8 n = nI f) (h3 : mT2 g f x n 3 n = nI t) (ht : t < 10) (cb : ¬ (x >>> (nI t &&& 31)) &&& 1 = 1) : failS (mT2 g f x n) n = mT2 g f x (n + 1) := by
  show _ = if _ then _ else _
  rw [if_pos ⟨c7, c8⟩, h3, if_neg cb]
theorem mT2_n {g : St} {f n : Nat} {x : Int32} (c : ¬ (mT2 g f x n 7 n = 1 ∧ mT2 g f x n 8 n = nI f)) : mT2 g f x n = mT2 g f x (n + 1) := by
  show _ = if _ then _ else _
  rw [if_neg c]
def mSail (h : St) (f rc : Nat) : St := u2 (u2 (mT2 (cT1 h f 10) f (mL h f 10) rc) 14 f 1) 13 f 0
theorem mSail_k {h : St} {f rc k : Nat} (hk : k < 7 ∨ k = 11 ∨ k = 12 ∨ k = 19) : mSail h f rc k = h k := by
  unfold mSail
  rw [u2_ne _ _ _ (by omega), u2_ne _ _ _ (by omega), mT2_k (by omega), cT1_k (by omega)]
def mPf (u : St) (rc : Nat) : Nat → St
  | 0 => u
  | f + 1 => if mPf u rc f 14 f = 0 ∧ mPf u rc f 11 f = mPf u rc f 0 2 then mSail (mPf u rc f) f rc else mPf u rc f
theorem mPf_k {u : St} {rc f k : Nat} (hk : k < 7 ∨ k = 11 ∨ k = 12 ∨ k = 19) : mPf u rc f k = u k := by
  induction f with
  | zero => rfl
  | succ f ih =>
    unfold mPf
    split
    · rw [mSail_k hk, ih]
    · exact ih
theorem mPf_s {u : St} {rc f : Nat} (c1 : mPf u rc f 14 f = 0) (c2 : mPf u rc f 11 f = mPf u rc f 0 2) : mSail (mPf u rc f) f rc = mPf u rc (f + 1) := by
  show _ = if _ then _ else _
  rw [if_pos ⟨c1, c2⟩]
theorem mPf_n {u : St} {rc f : Nat} (c : ¬ (mPf u rc f 14 f = 0 ∧ mPf u rc f 11 f = mPf u rc f 0 2)) : mPf u rc f = mPf u rc (f + 1) := by
  show _ = if _ then _ else _
  rw [if_neg c]
def mPass (g : St) (fc rc : Nat) : Nat → St
  | 0 => g
  | k + 1 => mPf (u2 (mPass g fc rc k) 0 2 (mPass g fc rc k 0 2 + 1)) rc fc
theorem mPass_k {g : St} {fc rc n k : Nat} (h0 : k ≠ 0) (hk : k < 7 ∨ k = 11 ∨ k = 12 ∨ k = 19) : mPass g fc rc n k = g k := by
  induction n with
  | zero => rfl
  | succ n ih =>
    show mPf _ _ _ k = g k
    rw [mPf_k hk, u2_ne _ _ _ h0, ih]
theorem mPass_0 {g : St} {fc rc n i : Nat} (hi : i ≠ 2) : mPass g fc rc n 0 i = g 0 i := by
  induction n with
  | zero => rfl
  | succ n ih =>
    show mPf _ _ _ 0 i = g 0 i
    rw [mPf_k (by omega), u2_off _ _ (by omega), ih]
theorem in100 {n : Nat} (h1 : 1 ≤ n) (h2 : n ≤ 100) : (1 : Int32) ≤ nI n ∧ nI n ≤ 100 := ⟨nI_le (a := 1) h1 (by omega), nI_le (b := 100) h2 (by omega)⟩
def dgN (n : Nat) : Nat := if n < 10 then 1 else if n < 100 then 2 else if n < 1000 then 3 else if n < 10000 then 4 else 5
theorem dgN_le (n : Nat) : dgN n ≤ 5 := by unfold dgN; split <;> (try split) <;> (try split) <;> (try split) <;> omega
theorem dg_lt {n k : Nat} {M : Int32} (hM : M = nI k) (hk : k < 2 ^ 31) (hn : n < 2 ^ 31) (c : ¬ M ≤ nI n) : n < k := Nat.lt_of_not_le fun q => c (by rw [hM]; exact nI_le q hn)
theorem dg_ge {n k : Nat} {M : Int32} (hM : M = nI k) (hk : k < 2 ^ 31) (hn : n < 2 ^ 31) (c : M ≤ nI n) : k ≤ n := (nI_leI hk hn).mp (by rw [← hM]; exact c)
theorem dgN_1 {n : Nat} (hn : n < 2 ^ 31) (c1 : ¬ 10 ≤ nI n) : (some (Value.int 1) : Option Value) = some (.int (nI (dgN n))) := by
  have h1 := dg_lt (k := 10) rfl (by decide) hn c1
  rw [show dgN n = 1 by unfold dgN; rw [if_pos h1]]; rfl
theorem dgN_2 {n : Nat} (hn : n < 2 ^ 31) (c1 : 10 ≤ nI n) (c2 : ¬ 100 ≤ nI n) : (some (Value.int 2) : Option Value) = some (.int (nI (dgN n))) := by
  have h1 := dg_ge (k := 10) rfl (by decide) hn c1
  have h2 := dg_lt (k := 100) rfl (by decide) hn c2
  rw [show dgN n = 2 by unfold dgN; rw [if_neg (by omega), if_pos h2]]; rfl
theorem dgN_3 {n : Nat} (hn : n < 2 ^ 31) (c1 : 10 ≤ nI n) (c2 : 100 ≤ nI n) (c3 : ¬ 1000 ≤ nI n) : (some (Value.int 3) : Option Value) = some (.int (nI (dgN n))) := by
  have h1 := dg_ge (k := 100) rfl (by decide) hn c2
  have h2 := dg_lt (k := 1000) rfl (by decide) hn c3
  rw [show dgN n = 3 by unfold dgN; rw [if_neg (by omega), if_neg (by omega), if_pos h2]]; rfl
theorem dgN_4 {n : Nat} (hn : n < 2 ^ 31) (c1 : 10 ≤ nI n) (c2 : 100 ≤ nI n) (c3 : 1000 ≤ nI n) (c4 : ¬ 10000 ≤ nI n) : (some (Value.int 4) : Option Value) = some (.int (nI (dgN n))) := by
  have h1 := dg_ge (k := 1000) rfl (by decide) hn c3
  have h2 := dg_lt (k := 10000) rfl (by decide) hn c4
  rw [show dgN n = 4 by unfold dgN; rw [if_neg (by omega), if_neg (by omega), if_neg (by omega), if_pos h2]]; rfl
theorem dgN_5 {n : Nat} (hn : n < 2 ^ 31) (c1 : 10 ≤ nI n) (c2 : 100 ≤ nI n) (c3 : 1000 ≤ nI n) (c4 : 10000 ≤ nI n) : (some (Value.int 5) : Option Value) = some (.int (nI (dgN n))) := by
  have h1 := dg_ge (k := 10000) rfl (by decide) hn c4
  rw [show dgN n = 5 by unfold dgN; rw [if_neg (by omega), if_neg (by omega), if_neg (by omega), if_neg (by omega)]]; rfl
theorem dv_s {n j : Nat} (hn : n < 2 ^ 31) : nI (n / 10 ^ j) / 10 = nI (n / 10 ^ (j + 1)) := by
  rw [show (10 : Int32) = nI 10 from rfl, pk_div (Nat.lt_of_le_of_lt (Nat.div_le_self _ _) hn) (by decide) (by decide), Nat.div_div_eq_div_mul, Nat.pow_succ]
theorem dv_r {n j : Nat} (hn : n < 2 ^ 31) : nI (n / 10 ^ j) - nI (n / 10 ^ j) / 10 * 10 = nI (n / 10 ^ j % 10) := by
  rw [show (10 : Int32) = nI 10 from rfl]
  exact pk_rem (Nat.lt_of_le_of_lt (Nat.div_le_self _ _) hn) (by decide) (by decide)
theorem i2c_n {q : Nat} (hq : q < 65536) : ((nI q).toUInt32 % 65536).toInt32 = nI q := by
  rw [pk_char, pk_tn (by omega), Nat.mod_eq_of_lt hq]
theorem ok_X4_112 : fx_ok RX4 112 RX4 yX4_fails cX4_fails 2 none 1 := ⟨fx_w 845 (by decide +kernel) rfl, fx_w 842 (by decide +kernel) rfl, fx_w 844 (by decide +kernel) rfl, fx_w 33 (by decide +kernel) rfl, fx_w 41 (by decide +kernel) rfl, by decide +kernel⟩
theorem ok_X4_108 : fx_ok RX4 108 RX4 yX4_pays cX4_pays 4 none 1 := ⟨fx_w 841 (by decide +kernel) rfl, fx_w 838 (by decide +kernel) rfl, fx_w 840 (by decide +kernel) rfl, fx_w 32 (by decide +kernel) rfl, fx_w 41 (by decide +kernel) rfl, by decide +kernel⟩
theorem ok_X4_115 : fx_ok RX4 115 RX4 yX4_sails cX4_sails 4 none 1 := ⟨fx_w 837 (by decide +kernel) rfl, fx_w 834 (by decide +kernel) rfl, fx_w 836 (by decide +kernel) rfl, fx_w 31 (by decide +kernel) rfl, fx_w 41 (by decide +kernel) rfl, by decide +kernel⟩
theorem ok_X4_118 : fx_ok RX4 118 RX4 yX4_digits cX4_digits 2 (some .int) 1 := ⟨fx_w 857 (by decide +kernel) rfl, fx_w 854 (by decide +kernel) rfl, fx_w 856 (by decide +kernel) rfl, fx_w 34 (by decide +kernel) rfl, fx_w 41 (by decide +kernel) rfl, by decide +kernel⟩
theorem ok_X4_121 : fx_ok RX4 121 RX4 yX4_digit cX4_digit 5 (some .char) 2 := ⟨fx_w 861 (by decide +kernel) rfl, fx_w 858 (by decide +kernel) rfl, fx_w 860 (by decide +kernel) rfl, fx_w 35 (by decide +kernel) rfl, fx_w 41 (by decide +kernel) rfl, by decide +kernel⟩
set_option maxHeartbeats 4000000 in
set_option maxRecDepth 100000 in
theorem c_X4_sails (l : Launch) (Z : fx_Z) (am : Nat → Nat) (hinj : fx_inj 22 am) (h : St) (rc : Nat) (f : Nat) (hf : f < 20) (hrc : h 0 0 = nI rc) (hr6 : rc ≤ 60) (H3 : ∀ i, i < rc → ∃ t, t < 10 ∧ h 3 i = nI t) : fx_C l Z yX4_sails cX4_sails 4 none 1 23 0 0 22 am (mF am (Z.2.1 0)) h [.ref (am 0), .int (nI f)] (pV (mSail h f rc)) (fun _ => False) := by
  intro sz
  refine vx_ofW (cc := cX4_sails) (maxL := 4) (ret := none) (by decide) rfl ?_
  intro p e s m args below meth c s₁ B hml hout hv
  obtain ⟨rfl, hsz, hP, hE, hSt⟩ := hv
  subst hsz
  have hx := B.exec
  have hb := B.bytes
  have hr := B.returns
  have hown : s.vm.findClass RX4 = some m.cls := findClass_of_methodNamed B.named
  have hlocks := B.notSynchronized
  have K : m_K p s m ([.ref (am 0), .int (nI f)] : List Value).toArray c cX4_sails 4 Z am := ⟨hx, hb, hml, hown, fun w hw => atoms_spec (ws := fx_l yX4_sails cX4_sails 4 none) B.pre w (List.mem_cons_of_mem _ hw), hE, hSt, hinj⟩
  have hS : va_S (fx_A 22 am s.heap.size) s.heap s.heap [] := va_S.rf
  have hl := lv_entry ([.ref (am 0), .int (nI f)]) (n := 4) (Nat.le_of_ble_eq_true rfl)
  rw [lg_entry_eq]
  generalize (lg_sl ([.ref (am 0), .int (nI f)]) ++ List.replicate (4 - (lg_sl ([.ref (am 0), .int (nI f)])).length) Slot.unset).toArray = ls at hl ⊢
  have hl : lv_has ls 4 [(0, .ref (am 0)), (1, .int (nI f))] := hl
  refine lv_iconst (v := 0) hx hb dX4_sails_0 (by decide) ?_
  refine lv_istore_n (lv' := [(2, .int 0), (0, .ref (am 0)), (1, .int (nI f))]) hx hb dX4_sails_1 rfl hl (by decide) rfl (fun ls hl => ?_)
  refine lv_iconst (v := 0) hx hb dX4_sails_2 (by decide) ?_
  refine lv_istore_n (lv' := [(3, .int 0), (2, .int 0), (0, .ref (am 0)), (1, .int (nI f))]) hx hb dX4_sails_3 rfl hl (by decide) rfl (fun ls hl => ?_)
  rw [← cT1_0 h f] at hP
  have hloop4 : ∀ (d : Nat) (t : Nat) (x : Int32), t + d = 10 → x = mL h f t → ∀ (H : Heap) (locs : List Loc), va_P Z.1 vwCl (iw 22 (mF am (Z.2.1 0) (cT1 h f t))) H → va_S (fx_A 22 am s.heap.size) s.heap H locs → ∀ ls : Array Slot, lv_has ls 4 [(0, .ref (am 0)), (1, .int (nI f)), (2, .int x), (3, .int (nI t))] → W p l e (headSpec (fx_l yX4_sails cX4_sails 4 none) { frames := 1, cells := 0, slots := 0, locals := 23 }).room s m ([.ref (am 0), .int (nI f)] : List Value).toArray below meth c H locs 0 0 (vx_MQ below (fx_post Z 22 am (mF am (Z.2.1 0)) (pV (mSail h f rc)) s.heap.size) (fx_px Z 22 am (mF am (Z.2.1 0) h) (fun _ => False) s.heap.size) ([.ref (am 0), .int (nI f)] : List Value).toArray s 0 0 (fx_A 22 am s.heap.size)) (F0 m 4 ls []) := by
    intro d
    induction d with
    | zero =>
      intro t x hd hx2 H locs hP hS ls hl
      refine lv_iload_n hx hb dX4_sails_4 rfl (lv_at hl 3 rfl) ?_
      refine lv_bipush (v := 10) hx hb dX4_sails_5 (by decide) ?_
      refine lv_icmp_ge (tgt := 89) hx hb dX4_sails_7 (by decide) (fun _ => ?_) (fun c1 => absurd (nI_le (a := 10) (by omega) (by omega)) c1)
      have ht10 : t = 10 := by omega
      subst ht10
      refine lv_iconst (v := 0) hx hb dX4_sails_89 (by decide) ?_
      refine lv_istore_n (lv' := [(3, .int 0), (0, .ref (am 0)), (1, .int (nI f)), (2, .int x)]) hx hb dX4_sails_90 rfl hl (by decide) rfl (fun ls hl => ?_)
      have hloop91 : ∀ (d : Nat) (r : Nat), r + d = rc → ∀ (H : Heap) (locs : List Loc), va_P Z.1 vwCl (iw 22 (mF am (Z.2.1 0) (mT2 (cT1 h f 10) f x r))) H → va_S (fx_A 22 am s.heap.size) s.heap H locs → ∀ ls : Array Slot, lv_has ls 4 [(0, .ref (am 0)), (1, .int (nI f)), (2, .int x), (3, .int (nI r))] → W p l e (headSpec (fx_l yX4_sails cX4_sails 4 none) { frames := 1, cells := 0, slots := 0, locals := 23 }).room s m ([.ref (am 0), .int (nI f)] : List Value).toArray below meth c H locs 0 0 (vx_MQ below (fx_post Z 22 am (mF am (Z.2.1 0)) (pV (mSail h f rc)) s.heap.size) (fx_px Z 22 am (mF am (Z.2.1 0) h) (fun _ => False) s.heap.size) ([.ref (am 0), .int (nI f)] : List Value).toArray s 0 0 (fx_A 22 am s.heap.size)) (F0 m 91 ls []) := by
        intro d
        induction d with
        | zero =>
          intro r hd H locs hP hS ls hl
          have hrc9 : mT2 (cT1 h f 10) f x r 0 0 = nI rc := by rw [mT2_k (by decide), cT1_k (by decide)]; exact hrc
          refine lv_iload_n hx hb dX4_sails_91 rfl (lv_at hl 3 rfl) ?_
          refine lv_aload_n hx hb dX4_sails_92 rfl (lv_at hl 0 rfl) ?_
          refine mg_receipts K hP dX4_sails_93 ?_
          rw [hrc9]
          refine lv_icmp_ge (tgt := 152) hx hb dX4_sails_96 (by decide) (fun _ => ?_) (fun c2 => absurd (nI_le (by omega) (by omega)) c2)
          refine lv_aload_n hx hb dX4_sails_152 rfl (lv_at hl 0 rfl) ?_
          refine mg_fg K hP dX4_sails_153 ?_
          refine lv_iload_n hx hb dX4_sails_156 rfl (lv_at hl 1 rfl) ?_
          refine lv_iconst (v := 1) hx hb dX4_sails_157 (by decide) ?_
          refine mr_ast K hP hS (by decide) (by decide) (n := 20) rfl (by omega) (by decide) dX4_sails_158 (fun h3 H locs e3 hP hS => ?_)
          refine lv_aload_n hx hb dX4_sails_159 rfl (lv_at hl 0 rfl) ?_
          refine mg_fw K hP dX4_sails_160 ?_
          refine lv_iload_n hx hb dX4_sails_163 rfl (lv_at hl 1 rfl) ?_
          refine lv_iconst (v := 0) hx hb dX4_sails_164 (by decide) ?_
          refine mr_ast K hP hS (by decide) (by decide) (n := 20) rfl (by omega) (by decide) dX4_sails_165 (fun h4 H locs e4 hP hS => ?_)
          exact fx_retv hx hb hr hlocks hP hS (Nat.le_of_ble_eq_true rfl) (Nat.le_of_ble_eq_true rfl) dX4_sails_166 ⟨rfl, by simp only [e3, e4]; rw [show r = rc by omega, hx2]; rfl⟩
        | succ d ih91 =>
          intro r hd H locs hP hS ls hl
          have hrc9 : mT2 (cT1 h f 10) f x r 0 0 = nI rc := by rw [mT2_k (by decide), cT1_k (by decide)]; exact hrc
          refine lv_iload_n hx hb dX4_sails_91 rfl (lv_at hl 3 rfl) ?_
          refine lv_aload_n hx hb dX4_sails_92 rfl (lv_at hl 0 rfl) ?_
          refine mg_receipts K hP dX4_sails_93 ?_
          rw [hrc9]
          obtain ⟨t9, ht9, h39⟩ := H3 r (by omega)
          have h3r : mT2 (cT1 h f 10) f x r 3 r = nI t9 := by rw [mT2_k (by decide), cT1_k (by decide)]; exact h39
          refine lv_icmp_ge (tgt := 152) hx hb dX4_sails_96 (by decide) (fun c5 => absurd c5 (nI_ge (by omega) (by omega))) (fun _ => ?_)
          refine lv_aload_n hx hb dX4_sails_99 rfl (lv_at hl 0 rfl) ?_
          refine mg_rk K hP dX4_sails_100 ?_
          refine lv_iload_n hx hb dX4_sails_103 rfl (lv_at hl 3 rfl) ?_
          refine mr_ald K hP (by decide) (by decide) (n := 60) rfl (by omega) (by decide) dX4_sails_104 ?_
          refine lv_iconst (v := 1) hx hb dX4_sails_105 (by decide) ?_
          refine lv_icmp_ne (tgt := 146) hx hb dX4_sails_106 (by decide) (fun c6 => ?_) (fun c6 => ?_)
          · refine lv_iinc (v := nI (r + 1)) (lv' := [(3, .int (nI (r + 1))), (0, .ref (am 0)), (1, .int (nI f)), (2, .int x)]) hx hb dX4_sails_146 hl (k := 3) rfl (nI_1 _) (by decide) rfl (fun ls hl => ?_)
            refine lv_goto (tgt := 91) hx hb dX4_sails_149 (by decide) ?_
            rw [show mT2 (cT1 h f 10) f x r = mT2 (cT1 h f 10) f x (r + 1) from mT2_n (by simp [c6])] at hP
            exact ih91 (r + 1) (by omega) H locs hP hS ls (lv_sub hl [1, 2, 3, 0] rfl)
          · refine lv_aload_n hx hb dX4_sails_109 rfl (lv_at hl 0 rfl) ?_
            refine mg_rf K hP dX4_sails_110 ?_
            refine lv_iload_n hx hb dX4_sails_113 rfl (lv_at hl 3 rfl) ?_
            refine mr_ald K hP (by decide) (by decide) (n := 60) rfl (by omega) (by decide) dX4_sails_114 ?_
            refine lv_iload_n hx hb dX4_sails_115 rfl (lv_at hl 1 rfl) ?_
            refine lv_icmp_ne (tgt := 146) hx hb dX4_sails_116 (by decide) (fun c7 => ?_) (fun c7 => ?_)
            · refine lv_iinc (v := nI (r + 1)) (lv' := [(3, .int (nI (r + 1))), (0, .ref (am 0)), (1, .int (nI f)), (2, .int x)]) hx hb dX4_sails_146 hl (k := 3) rfl (nI_1 _) (by decide) rfl (fun ls hl => ?_)
              refine lv_goto (tgt := 91) hx hb dX4_sails_149 (by decide) ?_
              rw [show mT2 (cT1 h f 10) f x r = mT2 (cT1 h f 10) f x (r + 1) from mT2_n (by simp [c6, c7])] at hP
              exact ih91 (r + 1) (by omega) H locs hP hS ls (lv_sub hl [1, 2, 3, 0] rfl)
            · refine lv_iload_n hx hb dX4_sails_119 rfl (lv_at hl 2 rfl) ?_
              refine lv_aload_n hx hb dX4_sails_120 rfl (lv_at hl 0 rfl) ?_
              refine mg_rt K hP dX4_sails_121 ?_
              refine lv_iload_n hx hb dX4_sails_124 rfl (lv_at hl 3 rfl) ?_
              refine mr_ald K hP (by decide) (by decide) (n := 60) rfl (by omega) (by decide) dX4_sails_125 ?_
              rw [h3r]
              refine lv_ishr hx hb dX4_sails_126 ?_
              refine lv_topi (fun v8 e8 => ?_)
              refine lv_iconst (v := 1) hx hb dX4_sails_127 (by decide) ?_
              refine lv_iand hx hb dX4_sails_128 ?_
              refine lv_topi (fun v9 e9 => ?_)
              refine lv_iconst (v := 1) hx hb dX4_sails_129 (by decide) ?_
              refine lv_icmp_ne (tgt := 141) hx hb dX4_sails_130 (by decide) (fun c10 => ?_) (fun c10 => ?_)
              · refine lv_aload_n hx hb dX4_sails_141 rfl (lv_at hl 0 rfl) ?_
                refine lv_iload_n hx hb dX4_sails_142 rfl (lv_at hl 3 rfl) ?_
                refine m_callv (rest := []) K hP hS (c_X4_fails l Z am hinj (mT2 (cT1 h f 10) f x r) r (by omega)) ok_X4_112 rfl ⟨Nat.le_of_ble_eq_true rfl, Nat.le_of_ble_eq_true rfl⟩ rfl hl.1 (Nat.le_of_ble_eq_true rfl) ⟨Nat.le_of_ble_eq_true rfl, Nat.le_of_ble_eq_true rfl⟩ dX4_sails_143 (fun H locs hP hS => ?_)
                obtain ⟨h11, e11⟩ : ∃ z : St, z = (failS (mT2 (cT1 h f 10) f x r) r) := ⟨_, rfl⟩
                rw [← e11] at hP
                refine lv_iinc (v := nI (r + 1)) (lv' := [(3, .int (nI (r + 1))), (0, .ref (am 0)), (1, .int (nI f)), (2, .int x)]) hx hb dX4_sails_146 hl (k := 3) rfl (nI_1 _) (by decide) rfl (fun ls hl => ?_)
                refine lv_goto (tgt := 91) hx hb dX4_sails_149 (by decide) ?_
                rw [show h11 = mT2 (cT1 h f 10) f x (r + 1) from by simp only [e11]; exact mT2_f c6 c7 h3r ht9 (by simp only [e8, e9] at c10; exact c10)] at hP
                exact ih91 (r + 1) (by omega) H locs hP hS ls (lv_sub hl [1, 2, 3, 0] rfl)
              · refine lv_aload_n hx hb dX4_sails_133 rfl (lv_at hl 0 rfl) ?_
                refine lv_iload_n hx hb dX4_sails_134 rfl (lv_at hl 3 rfl) ?_
                refine m_callv (rest := []) K hP hS (c_X4_pays l Z am hinj (mT2 (cT1 h f 10) f x r) t9 r (by omega) h3r ht9) ok_X4_108 rfl ⟨Nat.le_of_ble_eq_true rfl, Nat.le_of_ble_eq_true rfl⟩ rfl hl.1 (Nat.le_of_ble_eq_true rfl) ⟨Nat.le_of_ble_eq_true rfl, Nat.le_of_ble_eq_true rfl⟩ dX4_sails_135 (fun H locs hP hS => ?_)
                obtain ⟨h12, e12⟩ : ∃ z : St, z = (payS (mT2 (cT1 h f 10) f x r) r t9) := ⟨_, rfl⟩
                rw [← e12] at hP
                refine lv_goto (tgt := 146) hx hb dX4_sails_138 (by decide) ?_
                refine lv_iinc (v := nI (r + 1)) (lv' := [(3, .int (nI (r + 1))), (0, .ref (am 0)), (1, .int (nI f)), (2, .int x)]) hx hb dX4_sails_146 hl (k := 3) rfl (nI_1 _) (by decide) rfl (fun ls hl => ?_)
                refine lv_goto (tgt := 91) hx hb dX4_sails_149 (by decide) ?_
                rw [show h12 = mT2 (cT1 h f 10) f x (r + 1) from by simp only [e12]; exact mT2_p c6 c7 h3r ht9 (by simp only [e8, e9] at c10; exact c10)] at hP
                exact ih91 (r + 1) (by omega) H locs hP hS ls (lv_sub hl [1, 2, 3, 0] rfl)
      exact hloop91 rc 0 (by omega) H locs hP hS ls (lv_sub hl [1, 2, 3, 0] rfl)
    | succ d ih4 =>
      intro t x hd hx2 H locs hP hS ls hl
      refine lv_iload_n hx hb dX4_sails_4 rfl (lv_at hl 3 rfl) ?_
      refine lv_bipush (v := 10) hx hb dX4_sails_5 (by decide) ?_
      refine lv_icmp_ge (tgt := 89) hx hb dX4_sails_7 (by decide) (fun c13 => absurd c13 (nI_ge (b := 10) (by omega) (by omega))) (fun _ => ?_)
      refine lv_aload_n hx hb dX4_sails_10 rfl (lv_at hl 0 rfl) ?_
      refine mg_given K hP dX4_sails_11 ?_
      refine lv_iload_n hx hb dX4_sails_14 rfl (lv_at hl 3 rfl) ?_
      refine lv_iconst (v := 0) hx hb dX4_sails_15 (by decide) ?_
      refine mr_ast K hP hS (by decide) (by decide) (n := 10) rfl (by omega) (by decide) dX4_sails_16 (fun h14 H locs e14 hP hS => ?_)
      refine lv_aload_n hx hb dX4_sails_17 rfl (lv_at hl 0 rfl) ?_
      refine mg_ab K hP dX4_sails_18 ?_
      refine lv_iload_n hx hb dX4_sails_21 rfl (lv_at hl 3 rfl) ?_
      refine mr_ald K hP (by decide) (by decide) (n := 10) rfl (by omega) (by decide) dX4_sails_22 ?_
      rw [show h14 15 t = (cT1 h f t) 15 t from by rw [e14, u2_off _ _ (by omega)]]
      refine lv_iload_n hx hb dX4_sails_23 rfl (lv_at hl 1 rfl) ?_
      refine lv_icmp_ne (tgt := 60) hx hb dX4_sails_24 (by decide) (fun c15 => ?_) (fun c15 => ?_)
      · refine lv_aload_n hx hb dX4_sails_60 rfl (lv_at hl 0 rfl) ?_
        refine mg_missed K hP dX4_sails_61 ?_
        refine lv_iload_n hx hb dX4_sails_64 rfl (lv_at hl 3 rfl) ?_
        refine lv_dup2_11 hx hb dX4_sails_65 rfl rfl ?_
        refine mr_ald K hP (by decide) (by decide) (n := 10) rfl (by omega) (by decide) dX4_sails_66 ?_
        rw [show h14 18 t = (cT1 h f t) 18 t from by rw [e14, u2_off _ _ (by omega)]]
        refine lv_aload_n hx hb dX4_sails_67 rfl (lv_at hl 0 rfl) ?_
        refine lv_iload_n hx hb dX4_sails_68 rfl (lv_at hl 3 rfl) ?_
        refine lv_iload_n hx hb dX4_sails_69 rfl (lv_at hl 1 rfl) ?_
        refine m_callb (rest := [.int ((cT1 h f t) 18 t), .int (nI t), .ref (am 18)]) K hP hS (c_X4_hasSeat l Z am hinj h14 t f (by omega)) ok_X4_97 rfl ⟨Nat.le_of_ble_eq_true rfl, Nat.le_of_ble_eq_true rfl⟩ rfl hl.1 (Nat.le_of_ble_eq_true rfl) ⟨Nat.le_of_ble_eq_true rfl, Nat.le_of_ble_eq_true rfl⟩ dX4_sails_70 (fun c16 H locs hP hS => ?_) (fun c16 H locs hP hS => ?_)
        · refine lv_if_eq (tgt := 80) hx hb dX4_sails_73 (by decide) (fun c17 => absurd c17 (by decide)) (fun _ => ?_)
          refine lv_iconst (v := 1) hx hb dX4_sails_76 (by decide) ?_
          refine lv_goto (tgt := 81) hx hb dX4_sails_77 (by decide) ?_
          refine lv_iadd hx hb dX4_sails_81 ?_
          refine lv_topi (fun v18 e18 => ?_)
          refine mr_ast K hP hS (by decide) (by decide) (n := 10) rfl (by omega) (by decide) dX4_sails_82 (fun h19 H locs e19 hP hS => ?_)
          refine lv_iinc (v := nI (t + 1)) (lv' := [(3, .int (nI (t + 1))), (0, .ref (am 0)), (1, .int (nI f)), (2, .int x)]) hx hb dX4_sails_83 hl (k := 3) rfl (nI_1 _) (by decide) rfl (fun ls hl => ?_)
          refine lv_goto (tgt := 4) hx hb dX4_sails_86 (by decide) ?_
          have hmS : mS h f t := by rw [e14] at c16; simpa [mS, u2_at, cT1] using c16
          rw [show h19 = cT1 h f (t + 1) from by simp only [e14, e18, e19]; exact cT1_b1 c15 hmS] at hP
          exact ih4 (t + 1) x (by omega) (by rw [hx2]; exact (mL_f (by rw [← cT1_at h f t 15]; exact c15)).symm) H locs hP hS ls (lv_sub hl [1, 2, 3, 0] rfl)
        · refine lv_if_eq (tgt := 80) hx hb dX4_sails_73 (by decide) (fun _ => ?_) (fun c20 => absurd (by decide) c20)
          refine lv_iconst (v := 0) hx hb dX4_sails_80 (by decide) ?_
          refine lv_iadd hx hb dX4_sails_81 ?_
          refine lv_topi (fun v21 e21 => ?_)
          refine mr_ast K hP hS (by decide) (by decide) (n := 10) rfl (by omega) (by decide) dX4_sails_82 (fun h22 H locs e22 hP hS => ?_)
          refine lv_iinc (v := nI (t + 1)) (lv' := [(3, .int (nI (t + 1))), (0, .ref (am 0)), (1, .int (nI f)), (2, .int x)]) hx hb dX4_sails_83 hl (k := 3) rfl (nI_1 _) (by decide) rfl (fun ls hl => ?_)
          refine lv_goto (tgt := 4) hx hb dX4_sails_86 (by decide) ?_
          have hmS : ¬ mS h f t := by rw [e14] at c16; simpa [mS, u2_at, cT1] using c16
          rw [show h22 = cT1 h f (t + 1) from by simp only [e14, e21, e22]; exact cT1_b0 c15 hmS] at hP
          exact ih4 (t + 1) x (by omega) (by rw [hx2]; exact (mL_f (by rw [← cT1_at h f t 15]; exact c15)).symm) H locs hP hS ls (lv_sub hl [1, 2, 3, 0] rfl)
      · refine lv_iload_n hx hb dX4_sails_27 rfl (lv_at hl 2 rfl) ?_
        refine lv_iconst (v := 1) hx hb dX4_sails_28 (by decide) ?_
        refine lv_iload_n hx hb dX4_sails_29 rfl (lv_at hl 3 rfl) ?_
        refine lv_ishl hx hb dX4_sails_30 ?_
        refine lv_topi (fun v23 e23 => ?_)
        refine lv_ior hx hb dX4_sails_31 ?_
        refine lv_topi (fun v24 e24 => ?_)
        refine lv_istore_n (lv' := [(2, .int v24), (0, .ref (am 0)), (1, .int (nI f)), (3, .int (nI t))]) hx hb dX4_sails_32 rfl hl (by decide) rfl (fun ls hl => ?_)
        refine lv_aload_n hx hb dX4_sails_33 rfl (lv_at hl 1 rfl) ?_
        refine mg_gone K hP dX4_sails_34 ?_
        refine lv_iload_n hx hb dX4_sails_37 rfl (lv_at hl 3 rfl) ?_
        refine lv_iconst (v := 1) hx hb dX4_sails_38 (by decide) ?_
        refine mr_ast K hP hS (by decide) (by decide) (n := 10) rfl (by omega) (by decide) dX4_sails_39 (fun h25 H locs e25 hP hS => ?_)
        refine lv_aload_n hx hb dX4_sails_40 rfl (lv_at hl 1 rfl) ?_
        refine mg_often K hP dX4_sails_41 ?_
        refine lv_iload_n hx hb dX4_sails_44 rfl (lv_at hl 3 rfl) ?_
        refine lv_dup2_11 hx hb dX4_sails_45 rfl rfl ?_
        refine mr_ald K hP (by decide) (by decide) (n := 10) rfl (by omega) (by decide) dX4_sails_46 ?_
        rw [show h25 17 t = (cT1 h f t) 17 t from by rw [e25, u2_off _ _ (by omega), e14, u2_off _ _ (by omega)]]
        refine lv_iconst (v := 1) hx hb dX4_sails_47 (by decide) ?_
        refine lv_iadd hx hb dX4_sails_48 ?_
        refine lv_topi (fun v26 e26 => ?_)
        refine mr_ast K hP hS (by decide) (by decide) (n := 10) rfl (by omega) (by decide) dX4_sails_49 (fun h27 H locs e27 hP hS => ?_)
        refine lv_aload_n hx hb dX4_sails_50 rfl (lv_at hl 1 rfl) ?_
        refine mg_ab K hP dX4_sails_51 ?_
        refine lv_iload_n hx hb dX4_sails_54 rfl (lv_at hl 3 rfl) ?_
        refine lv_iconst (v := (-1)) hx hb dX4_sails_55 (by decide) ?_
        refine mr_ast K hP hS (by decide) (by decide) (n := 10) rfl (by omega) (by decide) dX4_sails_56 (fun h28 H locs e28 hP hS => ?_)
        refine lv_goto (tgt := 83) hx hb dX4_sails_57 (by decide) ?_
        refine lv_iinc (v := nI (t + 1)) (lv' := [(3, .int (nI (t + 1))), (2, .int v24), (0, .ref (am 0)), (1, .int (nI f))]) hx hb dX4_sails_83 hl (k := 3) rfl (nI_1 _) (by decide) rfl (fun ls hl => ?_)
        refine lv_goto (tgt := 4) hx hb dX4_sails_86 (by decide) ?_
        rw [show h28 = cT1 h f (t + 1) from by simp only [e14, e23, e24, e25, e26, e27, e28]; exact cT1_a c15] at hP
        exact ih4 (t + 1) v24 (by omega) (by simp only [e23, e24, e26]; rw [hx2]; exact mL_t (by rw [← cT1_at h f t 15]; exact c15)) H locs hP hS ls (lv_sub hl [2, 3, 1, 0] rfl)
  exact hloop4 10 0 0 (by omega) rfl s.heap [] hP hS ls (lv_sub hl [2, 3, 1, 0] rfl)

set_option maxHeartbeats 4000000 in
set_option maxRecDepth 100000 in
theorem c_X4_pass_0 (l : Launch) (Z : fx_Z) (am : Nat → Nat) (hinj : fx_inj 22 am) (h : St) (rc : Nat) (fc : Nat) (n : Nat) (hn1 : 1 ≤ n) (hn2 : n ≤ 100) (hsum : h 0 2 + nI n ≤ 10000) (hrc : h 0 0 = nI rc) (hr6 : rc ≤ 60) (hfc : h 0 1 = nI fc) (hf2 : fc ≤ 20) (H3 : ∀ i, i < rc → ∃ t, t < 10 ∧ h 3 i = nI t) : fx_C l Z yX4_pass cX4_pass 4 (some .int) 2 46 0 0 22 am (mF am (Z.2.1 0)) h [.ref (am 0), .int (nI n)] (pI (mPass (u2 h 0 3 0) fc rc n 0 2) (mPass (u2 h 0 3 0) fc rc n)) (fun _ => False) := by
  intro sz
  refine vx_ofW (cc := cX4_pass) (maxL := 4) (ret := (some .int)) (by decide) rfl ?_
  intro p e s m args below meth c s₁ B hml hout hv
  obtain ⟨rfl, hsz, hP, hE, hSt⟩ := hv
  subst hsz
  have hx := B.exec
  have hb := B.bytes
  have hr := B.returns
  have hown : s.vm.findClass RX4 = some m.cls := findClass_of_methodNamed B.named
  have hlocks := B.notSynchronized
  have K : m_K p s m ([.ref (am 0), .int (nI n)] : List Value).toArray c cX4_pass 4 Z am := ⟨hx, hb, hml, hown, fun w hw => atoms_spec (ws := fx_l yX4_pass cX4_pass 4 (some .int)) B.pre w (List.mem_cons_of_mem _ hw), hE, hSt, hinj⟩
  have hS : va_S (fx_A 22 am s.heap.size) s.heap s.heap [] := va_S.rf
  have hl := lv_entry ([.ref (am 0), .int (nI n)]) (n := 4) (Nat.le_of_ble_eq_true rfl)
  rw [lg_entry_eq]
  generalize (lg_sl ([.ref (am 0), .int (nI n)]) ++ List.replicate (4 - (lg_sl ([.ref (am 0), .int (nI n)])).length) Slot.unset).toArray = ls at hl ⊢
  have hl : lv_has ls 4 [(0, .ref (am 0)), (1, .int (nI n))] := hl
  refine lv_aload_n hx hb dX4_pass_0 rfl (lv_at hl 0 rfl) ?_
  refine lv_aload_n hx hb dX4_pass_1 rfl (lv_at hl 0 rfl) ?_
  refine lv_iload_n hx hb dX4_pass_2 rfl (lv_at hl 1 rfl) ?_
  refine lv_iconst (v := 1) hx hb dX4_pass_3 (by decide) ?_
  refine lv_bipush (v := 100) hx hb dX4_pass_4 (by decide) ?_
  refine m_callt (rest := [.ref (am 0)]) K hP hS (c_X4_in l Z am hinj h (nI n) 1 100) ok_X4_80 rfl ⟨Nat.le_of_ble_eq_true rfl, Nat.le_of_ble_eq_true rfl⟩ rfl hl.1 (Nat.le_of_ble_eq_true rfl) ⟨Nat.le_of_ble_eq_true rfl, Nat.le_of_ble_eq_true rfl⟩ dX4_pass_6 (in100 hn1 hn2) (fun H locs hP hS => ?_)
  refine lv_if_ne (tgt := 16) hx hb dX4_pass_9 (by decide) (fun _ => ?_) (fun c1 => absurd c1 (by decide))
  refine lv_aload_n hx hb dX4_pass_16 rfl (lv_at hl 0 rfl) ?_
  refine mg_hour K hP dX4_pass_17 ?_
  refine lv_iload_n hx hb dX4_pass_20 rfl (lv_at hl 1 rfl) ?_
  refine lv_iadd hx hb dX4_pass_21 ?_
  refine lv_topi (fun v2 e2 => ?_)
  refine lv_sipush (v := 10000) hx hb dX4_pass_22 (by decide) ?_
  refine lv_icmp_le (tgt := 32) hx hb dX4_pass_25 (by decide) (fun _ => ?_) (fun c3 => absurd (by rw [e2]; exact hsum) c3)
  refine lv_iconst (v := 0) hx hb dX4_pass_32 (by decide) ?_
  refine m_callf (rest := []) K hP hS (c_X4_holds l Z am hinj h 0) ok_X4_87 rfl ⟨Nat.le_of_ble_eq_true rfl, Nat.le_of_ble_eq_true rfl⟩ rfl hl.1 (Nat.le_of_ble_eq_true rfl) ⟨Nat.le_of_ble_eq_true rfl, Nat.le_of_ble_eq_true rfl⟩ dX4_pass_33 (by decide) (fun H locs hP hS => ?_)
  obtain ⟨h4, e4⟩ : ∃ z : St, z = (u2 h 0 3 0) := ⟨_, rfl⟩
  rw [← e4] at hP
  refine lv_if_eq (tgt := 41) hx hb dX4_pass_36 (by decide) (fun _ => ?_) (fun c5 => absurd (by decide) c5)
  refine lv_iconst (v := 0) hx hb dX4_pass_41 (by decide) ?_
  refine lv_istore_n (lv' := [(2, .int 0), (0, .ref (am 0)), (1, .int (nI n))]) hx hb dX4_pass_42 rfl hl (by decide) rfl (fun ls hl => ?_)
  obtain ⟨g0, eg0⟩ : ∃ z : St, z = u2 h 0 3 0 := ⟨_, rfl⟩
  rw [show h4 = g0 from by rw [eg0]; simp only [e4]] at hP
  have hloop43 : ∀ (d : Nat) (k : Nat), k + d = n → ∀ (H : Heap) (locs : List Loc), va_P Z.1 vwCl (iw 22 (mF am (Z.2.1 0) (mPass g0 fc rc k))) H → va_S (fx_A 22 am s.heap.size) s.heap H locs → ∀ ls : Array Slot, lv_has ls 4 [(0, .ref (am 0)), (1, .int (nI n)), (2, .int (nI k))] → W p l e (headSpec (fx_l yX4_pass cX4_pass 4 (some .int)) { frames := 2, cells := 0, slots := 0, locals := 46 }).room s m ([.ref (am 0), .int (nI n)] : List Value).toArray below meth c H locs 0 0 (vx_MQ below (fx_post Z 22 am (mF am (Z.2.1 0)) (pI (mPass (u2 h 0 3 0) fc rc n 0 2) (mPass (u2 h 0 3 0) fc rc n)) s.heap.size) (fx_px Z 22 am (mF am (Z.2.1 0) h) (fun _ => False) s.heap.size) ([.ref (am 0), .int (nI n)] : List Value).toArray s 0 0 (fx_A 22 am s.heap.size)) (F0 m 43 ls []) := by
    intro d
    induction d with
    | zero =>
      intro k hd H locs hP hS ls hl
      refine lv_iload_n hx hb dX4_pass_43 rfl (lv_at hl 2 rfl) ?_
      refine lv_iload_n hx hb dX4_pass_44 rfl (lv_at hl 1 rfl) ?_
      refine lv_icmp_ge (tgt := 107) hx hb dX4_pass_45 (by decide) (fun _ => ?_) (fun c6 => absurd (nI_le (by omega) (by omega)) c6)
      refine lv_aload_n hx hb dX4_pass_107 rfl (lv_at hl 0 rfl) ?_
      refine mg_hour K hP dX4_pass_108 ?_
      exact fx_reti hx hb hr hlocks hP hS (Nat.le_of_ble_eq_true rfl) (Nat.le_of_ble_eq_true rfl) dX4_pass_111 ⟨(by rw [show k = n by omega, eg0]), (by rw [show k = n by omega, eg0])⟩
    | succ d ih43 =>
      intro k hd H locs hP hS ls hl
      refine lv_iload_n hx hb dX4_pass_43 rfl (lv_at hl 2 rfl) ?_
      refine lv_iload_n hx hb dX4_pass_44 rfl (lv_at hl 1 rfl) ?_
      refine lv_icmp_ge (tgt := 107) hx hb dX4_pass_45 (by decide) (fun c7 => absurd c7 (nI_ge (by omega) (by omega))) (fun _ => ?_)
      refine lv_aload_n hx hb dX4_pass_48 rfl (lv_at hl 0 rfl) ?_
      refine lv_dup hx hb dX4_pass_49 rfl ?_
      refine mg_hour K hP dX4_pass_50 ?_
      refine lv_iconst (v := 1) hx hb dX4_pass_53 (by decide) ?_
      refine lv_iadd hx hb dX4_pass_54 ?_
      refine lv_topi (fun v8 e8 => ?_)
      refine mp_hour K hP hS dX4_pass_55 (fun h9 H locs e9 hP hS => ?_)
      refine lv_iconst (v := 0) hx hb dX4_pass_58 (by decide) ?_
      refine lv_istore_n (lv' := [(3, .int 0), (0, .ref (am 0)), (1, .int (nI n)), (2, .int (nI k))]) hx hb dX4_pass_59 rfl hl (by decide) rfl (fun ls hl => ?_)
      have hloop60 : ∀ (d : Nat) (f : Nat), f + d = fc → ∀ (H : Heap) (locs : List Loc), va_P Z.1 vwCl (iw 22 (mF am (Z.2.1 0) (mPf h9 rc f))) H → va_S (fx_A 22 am s.heap.size) s.heap H locs → ∀ ls : Array Slot, lv_has ls 4 [(0, .ref (am 0)), (1, .int (nI n)), (2, .int (nI k)), (3, .int (nI f))] → W p l e (headSpec (fx_l yX4_pass cX4_pass 4 (some .int)) { frames := 2, cells := 0, slots := 0, locals := 46 }).room s m ([.ref (am 0), .int (nI n)] : List Value).toArray below meth c H locs 0 0 (vx_MQ below (fx_post Z 22 am (mF am (Z.2.1 0)) (pI (mPass (u2 h 0 3 0) fc rc n 0 2) (mPass (u2 h 0 3 0) fc rc n)) s.heap.size) (fx_px Z 22 am (mF am (Z.2.1 0) h) (fun _ => False) s.heap.size) ([.ref (am 0), .int (nI n)] : List Value).toArray s 0 0 (fx_A 22 am s.heap.size)) (F0 m 60 ls []) := by
        intro d
        induction d with
        | zero =>
          intro f hd2 H locs hP hS ls hl
          have hfc9 : mPf h9 rc f 0 1 = nI fc := by rw [mPf_k (by decide), e9, u2_off _ _ (by omega), mPass_0 (by decide), eg0, u2_off _ _ (by omega)]; exact hfc
          have hrc9 : mPf h9 rc f 0 0 = nI rc := by rw [mPf_k (by decide), e9, u2_off _ _ (by omega), mPass_0 (by decide), eg0, u2_off _ _ (by omega)]; exact hrc
          have H39 : ∀ i, i < rc → ∃ t, t < 10 ∧ mPf h9 rc f 3 i = nI t := fun i hi => by rw [mPf_k (by decide), e9, u2_off _ _ (by omega), mPass_k (by decide) (by decide), eg0, u2_off _ _ (by omega)]; exact H3 i hi
          refine lv_iload_n hx hb dX4_pass_60 rfl (lv_at hl 3 rfl) ?_
          refine lv_aload_n hx hb dX4_pass_61 rfl (lv_at hl 0 rfl) ?_
          refine mg_ferries K hP dX4_pass_62 ?_
          rw [hfc9]
          refine lv_icmp_ge (tgt := 101) hx hb dX4_pass_65 (by decide) (fun _ => ?_) (fun c10 => absurd (nI_le (by omega) (by omega)) c10)
          refine lv_iinc (v := nI (k + 1)) (lv' := [(2, .int (nI (k + 1))), (0, .ref (am 0)), (1, .int (nI n)), (3, .int (nI f))]) hx hb dX4_pass_101 hl (k := 2) rfl (nI_1 _) (by decide) rfl (fun ls hl => ?_)
          refine lv_goto (tgt := 43) hx hb dX4_pass_104 (by decide) ?_
          rw [show mPf h9 rc f = mPass g0 fc rc (k + 1) from by rw [show f = fc by omega, e9, e8]; rfl] at hP
          exact ih43 (k + 1) (by omega) H locs hP hS ls (lv_sub hl [1, 2, 0] rfl)
        | succ d ih60 =>
          intro f hd2 H locs hP hS ls hl
          have hfc9 : mPf h9 rc f 0 1 = nI fc := by rw [mPf_k (by decide), e9, u2_off _ _ (by omega), mPass_0 (by decide), eg0, u2_off _ _ (by omega)]; exact hfc
          have hrc9 : mPf h9 rc f 0 0 = nI rc := by rw [mPf_k (by decide), e9, u2_off _ _ (by omega), mPass_0 (by decide), eg0, u2_off _ _ (by omega)]; exact hrc
          have H39 : ∀ i, i < rc → ∃ t, t < 10 ∧ mPf h9 rc f 3 i = nI t := fun i hi => by rw [mPf_k (by decide), e9, u2_off _ _ (by omega), mPass_k (by decide) (by decide), eg0, u2_off _ _ (by omega)]; exact H3 i hi
          refine lv_iload_n hx hb dX4_pass_60 rfl (lv_at hl 3 rfl) ?_
          refine lv_aload_n hx hb dX4_pass_61 rfl (lv_at hl 0 rfl) ?_
          refine mg_ferries K hP dX4_pass_62 ?_
          rw [hfc9]
          refine lv_icmp_ge (tgt := 101) hx hb dX4_pass_65 (by decide) (fun c11 => absurd c11 (nI_ge (by omega) (by omega))) (fun _ => ?_)
          refine lv_aload_n hx hb dX4_pass_68 rfl (lv_at hl 0 rfl) ?_
          refine mg_fg K hP dX4_pass_69 ?_
          refine lv_iload_n hx hb dX4_pass_72 rfl (lv_at hl 3 rfl) ?_
          refine mr_ald K hP (by decide) (by decide) (n := 20) rfl (by omega) (by decide) dX4_pass_73 ?_
          refine lv_if_ne (tgt := 95) hx hb dX4_pass_74 (by decide) (fun c12 => ?_) (fun c12 => ?_)
          · refine lv_iinc (v := nI (f + 1)) (lv' := [(3, .int (nI (f + 1))), (0, .ref (am 0)), (1, .int (nI n)), (2, .int (nI k))]) hx hb dX4_pass_95 hl (k := 3) rfl (nI_1 _) (by decide) rfl (fun ls hl => ?_)
            refine lv_goto (tgt := 60) hx hb dX4_pass_98 (by decide) ?_
            rw [show mPf h9 rc f = mPf h9 rc (f + 1) from mPf_n (by simp [c12])] at hP
            exact ih60 (f + 1) (by omega) H locs hP hS ls (lv_sub hl [1, 2, 3, 0] rfl)
          · refine lv_aload_n hx hb dX4_pass_77 rfl (lv_at hl 0 rfl) ?_
            refine mg_fh K hP dX4_pass_78 ?_
            refine lv_iload_n hx hb dX4_pass_81 rfl (lv_at hl 3 rfl) ?_
            refine mr_ald K hP (by decide) (by decide) (n := 20) rfl (by omega) (by decide) dX4_pass_82 ?_
            refine lv_aload_n hx hb dX4_pass_83 rfl (lv_at hl 0 rfl) ?_
            refine mg_hour K hP dX4_pass_84 ?_
            refine lv_icmp_ne (tgt := 95) hx hb dX4_pass_87 (by decide) (fun c13 => ?_) (fun c13 => ?_)
            · refine lv_iinc (v := nI (f + 1)) (lv' := [(3, .int (nI (f + 1))), (0, .ref (am 0)), (1, .int (nI n)), (2, .int (nI k))]) hx hb dX4_pass_95 hl (k := 3) rfl (nI_1 _) (by decide) rfl (fun ls hl => ?_)
              refine lv_goto (tgt := 60) hx hb dX4_pass_98 (by decide) ?_
              rw [show mPf h9 rc f = mPf h9 rc (f + 1) from mPf_n (by simp [c12, c13])] at hP
              exact ih60 (f + 1) (by omega) H locs hP hS ls (lv_sub hl [1, 2, 3, 0] rfl)
            · refine lv_aload_n hx hb dX4_pass_90 rfl (lv_at hl 0 rfl) ?_
              refine lv_iload_n hx hb dX4_pass_91 rfl (lv_at hl 3 rfl) ?_
              refine m_callv (rest := []) K hP hS (c_X4_sails l Z am hinj (mPf h9 rc f) rc f (by omega) hrc9 hr6 H39) ok_X4_115 rfl ⟨Nat.le_of_ble_eq_true rfl, Nat.le_of_ble_eq_true rfl⟩ rfl hl.1 (Nat.le_of_ble_eq_true rfl) ⟨Nat.le_of_ble_eq_true rfl, Nat.le_of_ble_eq_true rfl⟩ dX4_pass_92 (fun H locs hP hS => ?_)
              obtain ⟨h14, e14⟩ : ∃ z : St, z = (mSail (mPf h9 rc f) f rc) := ⟨_, rfl⟩
              rw [← e14] at hP
              refine lv_iinc (v := nI (f + 1)) (lv' := [(3, .int (nI (f + 1))), (0, .ref (am 0)), (1, .int (nI n)), (2, .int (nI k))]) hx hb dX4_pass_95 hl (k := 3) rfl (nI_1 _) (by decide) rfl (fun ls hl => ?_)
              refine lv_goto (tgt := 60) hx hb dX4_pass_98 (by decide) ?_
              rw [show h14 = mPf h9 rc (f + 1) from by simp only [e14]; exact mPf_s c12 c13] at hP
              exact ih60 (f + 1) (by omega) H locs hP hS ls (lv_sub hl [1, 2, 3, 0] rfl)
      exact hloop60 fc 0 (by omega) H locs hP hS ls (lv_sub hl [1, 2, 3, 0] rfl)
  exact hloop43 n 0 (by omega) H locs hP hS ls (lv_sub hl [1, 2, 0] rfl)

set_option maxHeartbeats 4000000 in
set_option maxRecDepth 100000 in
theorem c_X4_pass_1 (l : Launch) (Z : fx_Z) (am : Nat → Nat) (hinj : fx_inj 22 am) (h : St) (a : Int32) (ha : ¬ (1 ≤ a ∧ a ≤ 100)) : fx_C l Z yX4_pass cX4_pass 4 (some .int) 1 23 0 0 22 am (mF am (Z.2.1 0)) h [.ref (am 0), .int a] (pI (-1) (u2 h 0 3 1)) (fun _ => False) := by
  intro sz
  refine vx_ofW (cc := cX4_pass) (maxL := 4) (ret := (some .int)) (by decide) rfl ?_
  intro p e s m args below meth c s₁ B hml hout hv
  obtain ⟨rfl, hsz, hP, hE, hSt⟩ := hv
  subst hsz
  have hx := B.exec
  have hb := B.bytes
  have hr := B.returns
  have hown : s.vm.findClass RX4 = some m.cls := findClass_of_methodNamed B.named
  have hlocks := B.notSynchronized
  have K : m_K p s m ([.ref (am 0), .int a] : List Value).toArray c cX4_pass 4 Z am := ⟨hx, hb, hml, hown, fun w hw => atoms_spec (ws := fx_l yX4_pass cX4_pass 4 (some .int)) B.pre w (List.mem_cons_of_mem _ hw), hE, hSt, hinj⟩
  have hS : va_S (fx_A 22 am s.heap.size) s.heap s.heap [] := va_S.rf
  have hl := lv_entry ([.ref (am 0), .int a]) (n := 4) (Nat.le_of_ble_eq_true rfl)
  rw [lg_entry_eq]
  generalize (lg_sl ([.ref (am 0), .int a]) ++ List.replicate (4 - (lg_sl ([.ref (am 0), .int a])).length) Slot.unset).toArray = ls at hl ⊢
  have hl : lv_has ls 4 [(0, .ref (am 0)), (1, .int a)] := hl
  refine lv_aload_n hx hb dX4_pass_0 rfl (lv_at hl 0 rfl) ?_
  refine lv_aload_n hx hb dX4_pass_1 rfl (lv_at hl 0 rfl) ?_
  refine lv_iload_n hx hb dX4_pass_2 rfl (lv_at hl 1 rfl) ?_
  refine lv_iconst (v := 1) hx hb dX4_pass_3 (by decide) ?_
  refine lv_bipush (v := 100) hx hb dX4_pass_4 (by decide) ?_
  refine m_callf (rest := [.ref (am 0)]) K hP hS (c_X4_in l Z am hinj h a 1 100) ok_X4_80 rfl ⟨Nat.le_of_ble_eq_true rfl, Nat.le_of_ble_eq_true rfl⟩ rfl hl.1 (Nat.le_of_ble_eq_true rfl) ⟨Nat.le_of_ble_eq_true rfl, Nat.le_of_ble_eq_true rfl⟩ dX4_pass_6 ha (fun H locs hP hS => ?_)
  refine lv_if_ne (tgt := 16) hx hb dX4_pass_9 (by decide) (fun c1 => absurd (by decide) c1) (fun _ => ?_)
  refine lv_iconst (v := 1) hx hb dX4_pass_12 (by decide) ?_
  refine lv_goto (tgt := 33) hx hb dX4_pass_13 (by decide) ?_
  refine m_callt (rest := []) K hP hS (c_X4_holds l Z am hinj h 1) ok_X4_87 rfl ⟨Nat.le_of_ble_eq_true rfl, Nat.le_of_ble_eq_true rfl⟩ rfl hl.1 (Nat.le_of_ble_eq_true rfl) ⟨Nat.le_of_ble_eq_true rfl, Nat.le_of_ble_eq_true rfl⟩ dX4_pass_33 (by decide) (fun H locs hP hS => ?_)
  obtain ⟨h2, e2⟩ : ∃ z : St, z = (u2 h 0 3 1) := ⟨_, rfl⟩
  rw [← e2] at hP
  refine lv_if_eq (tgt := 41) hx hb dX4_pass_36 (by decide) (fun c3 => absurd c3 (by decide)) (fun _ => ?_)
  refine lv_iconst (v := (-1)) hx hb dX4_pass_39 (by decide) ?_
  exact fx_reti hx hb hr hlocks hP hS (Nat.le_of_ble_eq_true rfl) (Nat.le_of_ble_eq_true rfl) dX4_pass_40 ⟨rfl, e2⟩

set_option maxHeartbeats 4000000 in
set_option maxRecDepth 100000 in
theorem c_X4_pass_2 (l : Launch) (Z : fx_Z) (am : Nat → Nat) (hinj : fx_inj 22 am) (h : St) (n : Nat) (hn1 : 1 ≤ n) (hn2 : n ≤ 100) (hsum : ¬ h 0 2 + nI n ≤ 10000) : fx_C l Z yX4_pass cX4_pass 4 (some .int) 1 23 0 0 22 am (mF am (Z.2.1 0)) h [.ref (am 0), .int (nI n)] (pI (-1) (u2 h 0 3 2)) (fun _ => False) := by
  intro sz
  refine vx_ofW (cc := cX4_pass) (maxL := 4) (ret := (some .int)) (by decide) rfl ?_
  intro p e s m args below meth c s₁ B hml hout hv
  obtain ⟨rfl, hsz, hP, hE, hSt⟩ := hv
  subst hsz
  have hx := B.exec
  have hb := B.bytes
  have hr := B.returns
  have hown : s.vm.findClass RX4 = some m.cls := findClass_of_methodNamed B.named
  have hlocks := B.notSynchronized
  have K : m_K p s m ([.ref (am 0), .int (nI n)] : List Value).toArray c cX4_pass 4 Z am := ⟨hx, hb, hml, hown, fun w hw => atoms_spec (ws := fx_l yX4_pass cX4_pass 4 (some .int)) B.pre w (List.mem_cons_of_mem _ hw), hE, hSt, hinj⟩
  have hS : va_S (fx_A 22 am s.heap.size) s.heap s.heap [] := va_S.rf
  have hl := lv_entry ([.ref (am 0), .int (nI n)]) (n := 4) (Nat.le_of_ble_eq_true rfl)
  rw [lg_entry_eq]
  generalize (lg_sl ([.ref (am 0), .int (nI n)]) ++ List.replicate (4 - (lg_sl ([.ref (am 0), .int (nI n)])).length) Slot.unset).toArray = ls at hl ⊢
  have hl : lv_has ls 4 [(0, .ref (am 0)), (1, .int (nI n))] := hl
  refine lv_aload_n hx hb dX4_pass_0 rfl (lv_at hl 0 rfl) ?_
  refine lv_aload_n hx hb dX4_pass_1 rfl (lv_at hl 0 rfl) ?_
  refine lv_iload_n hx hb dX4_pass_2 rfl (lv_at hl 1 rfl) ?_
  refine lv_iconst (v := 1) hx hb dX4_pass_3 (by decide) ?_
  refine lv_bipush (v := 100) hx hb dX4_pass_4 (by decide) ?_
  refine m_callt (rest := [.ref (am 0)]) K hP hS (c_X4_in l Z am hinj h (nI n) 1 100) ok_X4_80 rfl ⟨Nat.le_of_ble_eq_true rfl, Nat.le_of_ble_eq_true rfl⟩ rfl hl.1 (Nat.le_of_ble_eq_true rfl) ⟨Nat.le_of_ble_eq_true rfl, Nat.le_of_ble_eq_true rfl⟩ dX4_pass_6 (in100 hn1 hn2) (fun H locs hP hS => ?_)
  refine lv_if_ne (tgt := 16) hx hb dX4_pass_9 (by decide) (fun _ => ?_) (fun c1 => absurd c1 (by decide))
  refine lv_aload_n hx hb dX4_pass_16 rfl (lv_at hl 0 rfl) ?_
  refine mg_hour K hP dX4_pass_17 ?_
  refine lv_iload_n hx hb dX4_pass_20 rfl (lv_at hl 1 rfl) ?_
  refine lv_iadd hx hb dX4_pass_21 ?_
  refine lv_topi (fun v2 e2 => ?_)
  refine lv_sipush (v := 10000) hx hb dX4_pass_22 (by decide) ?_
  refine lv_icmp_le (tgt := 32) hx hb dX4_pass_25 (by decide) (fun c3 => absurd c3 (by rw [e2]; exact hsum)) (fun _ => ?_)
  refine lv_iconst (v := 2) hx hb dX4_pass_28 (by decide) ?_
  refine lv_goto (tgt := 33) hx hb dX4_pass_29 (by decide) ?_
  refine m_callt (rest := []) K hP hS (c_X4_holds l Z am hinj h 2) ok_X4_87 rfl ⟨Nat.le_of_ble_eq_true rfl, Nat.le_of_ble_eq_true rfl⟩ rfl hl.1 (Nat.le_of_ble_eq_true rfl) ⟨Nat.le_of_ble_eq_true rfl, Nat.le_of_ble_eq_true rfl⟩ dX4_pass_33 (by decide) (fun H locs hP hS => ?_)
  obtain ⟨h4, e4⟩ : ∃ z : St, z = (u2 h 0 3 2) := ⟨_, rfl⟩
  rw [← e4] at hP
  refine lv_if_eq (tgt := 41) hx hb dX4_pass_36 (by decide) (fun c5 => absurd c5 (by decide)) (fun _ => ?_)
  refine lv_iconst (v := (-1)) hx hb dX4_pass_39 (by decide) ?_
  exact fx_reti hx hb hr hlocks hP hS (Nat.le_of_ble_eq_true rfl) (Nat.le_of_ble_eq_true rfl) dX4_pass_40 ⟨rfl, e4⟩

set_option maxHeartbeats 4000000 in
set_option maxRecDepth 100000 in
theorem c_X4_digits (l : Launch) (Z : fx_Z) (am : Nat → Nat) (hinj : fx_inj 22 am) (h : St) (n : Nat) (hn : n < 2 ^ 31) : fx_C l Z yX4_digits cX4_digits 2 (some .int) 0 0 0 0 22 am (mF am (Z.2.1 0)) h [.ref (am 0), .int (nI n)] (pI (nI (dgN n)) h) (fun _ => False) := by
  intro sz
  refine vx_ofW (cc := cX4_digits) (maxL := 2) (ret := (some .int)) (by decide) rfl ?_
  intro p e s m args below meth c s₁ B hml hout hv
  obtain ⟨rfl, hsz, hP, hE, hSt⟩ := hv
  subst hsz
  have hx := B.exec
  have hb := B.bytes
  have hr := B.returns
  have hown : s.vm.findClass RX4 = some m.cls := findClass_of_methodNamed B.named
  have hlocks := B.notSynchronized
  have K : m_K p s m ([.ref (am 0), .int (nI n)] : List Value).toArray c cX4_digits 2 Z am := ⟨hx, hb, hml, hown, fun w hw => atoms_spec (ws := fx_l yX4_digits cX4_digits 2 (some .int)) B.pre w (List.mem_cons_of_mem _ hw), hE, hSt, hinj⟩
  have hS : va_S (fx_A 22 am s.heap.size) s.heap s.heap [] := va_S.rf
  have hl := lv_entry ([.ref (am 0), .int (nI n)]) (n := 2) (Nat.le_of_ble_eq_true rfl)
  rw [lg_entry_eq]
  generalize (lg_sl ([.ref (am 0), .int (nI n)]) ++ List.replicate (2 - (lg_sl ([.ref (am 0), .int (nI n)])).length) Slot.unset).toArray = ls at hl ⊢
  have hl : lv_has ls 2 [(0, .ref (am 0)), (1, .int (nI n))] := hl
  refine lv_iload_n hx hb dX4_digits_0 rfl (lv_at hl 1 rfl) ?_
  refine lv_bipush (v := 10) hx hb dX4_digits_1 (by decide) ?_
  refine lv_icmp_ge (tgt := 10) hx hb dX4_digits_3 (by decide) (fun c1 => ?_) (fun c1 => ?_)
  · refine lv_iload_n hx hb dX4_digits_10 rfl (lv_at hl 1 rfl) ?_
    refine lv_bipush (v := 100) hx hb dX4_digits_11 (by decide) ?_
    refine lv_icmp_ge (tgt := 20) hx hb dX4_digits_13 (by decide) (fun c2 => ?_) (fun c2 => ?_)
    · refine lv_iload_n hx hb dX4_digits_20 rfl (lv_at hl 1 rfl) ?_
      refine lv_sipush (v := 1000) hx hb dX4_digits_21 (by decide) ?_
      refine lv_icmp_ge (tgt := 31) hx hb dX4_digits_24 (by decide) (fun c3 => ?_) (fun c3 => ?_)
      · refine lv_iload_n hx hb dX4_digits_31 rfl (lv_at hl 1 rfl) ?_
        refine lv_sipush (v := 10000) hx hb dX4_digits_32 (by decide) ?_
        refine lv_icmp_ge (tgt := 42) hx hb dX4_digits_35 (by decide) (fun c4 => ?_) (fun c4 => ?_)
        · refine lv_iconst (v := 5) hx hb dX4_digits_42 (by decide) ?_
          exact fx_reti hx hb hr hlocks hP hS (Nat.le_of_ble_eq_true rfl) (Nat.le_of_ble_eq_true rfl) dX4_digits_43 ⟨dgN_5 hn c1 c2 c3 c4, rfl⟩
        · refine lv_iconst (v := 4) hx hb dX4_digits_38 (by decide) ?_
          refine lv_goto (tgt := 43) hx hb dX4_digits_39 (by decide) ?_
          exact fx_reti hx hb hr hlocks hP hS (Nat.le_of_ble_eq_true rfl) (Nat.le_of_ble_eq_true rfl) dX4_digits_43 ⟨dgN_4 hn c1 c2 c3 c4, rfl⟩
      · refine lv_iconst (v := 3) hx hb dX4_digits_27 (by decide) ?_
        refine lv_goto (tgt := 43) hx hb dX4_digits_28 (by decide) ?_
        exact fx_reti hx hb hr hlocks hP hS (Nat.le_of_ble_eq_true rfl) (Nat.le_of_ble_eq_true rfl) dX4_digits_43 ⟨dgN_3 hn c1 c2 c3, rfl⟩
    · refine lv_iconst (v := 2) hx hb dX4_digits_16 (by decide) ?_
      refine lv_goto (tgt := 43) hx hb dX4_digits_17 (by decide) ?_
      exact fx_reti hx hb hr hlocks hP hS (Nat.le_of_ble_eq_true rfl) (Nat.le_of_ble_eq_true rfl) dX4_digits_43 ⟨dgN_2 hn c1 c2, rfl⟩
  · refine lv_iconst (v := 1) hx hb dX4_digits_6 (by decide) ?_
    refine lv_goto (tgt := 43) hx hb dX4_digits_7 (by decide) ?_
    exact fx_reti hx hb hr hlocks hP hS (Nat.le_of_ble_eq_true rfl) (Nat.le_of_ble_eq_true rfl) dX4_digits_43 ⟨dgN_1 hn c1, rfl⟩

set_option maxHeartbeats 4000000 in
set_option maxRecDepth 100000 in
theorem c_X4_digit (l : Launch) (Z : fx_Z) (am : Nat → Nat) (hinj : fx_inj 22 am) (h : St) (n : Nat) (k : Nat) (hn : n < 2 ^ 31) (hk : k < 2 ^ 31) : fx_C l Z yX4_digit cX4_digit 5 (some .char) 0 0 0 0 22 am (mF am (Z.2.1 0)) h [.ref (am 0), .int (nI n), .int (nI k)] (pI (nI (48 + n / 10 ^ k % 10)) h) (fun _ => False) := by
  intro sz
  refine vx_ofW (cc := cX4_digit) (maxL := 5) (ret := (some .char)) (by decide) rfl ?_
  intro p e s m args below meth c s₁ B hml hout hv
  obtain ⟨rfl, hsz, hP, hE, hSt⟩ := hv
  subst hsz
  have hx := B.exec
  have hb := B.bytes
  have hr := B.returns
  have hown : s.vm.findClass RX4 = some m.cls := findClass_of_methodNamed B.named
  have hlocks := B.notSynchronized
  have K : m_K p s m ([.ref (am 0), .int (nI n), .int (nI k)] : List Value).toArray c cX4_digit 5 Z am := ⟨hx, hb, hml, hown, fun w hw => atoms_spec (ws := fx_l yX4_digit cX4_digit 5 (some .char)) B.pre w (List.mem_cons_of_mem _ hw), hE, hSt, hinj⟩
  have hS : va_S (fx_A 22 am s.heap.size) s.heap s.heap [] := va_S.rf
  have hl := lv_entry ([.ref (am 0), .int (nI n), .int (nI k)]) (n := 5) (Nat.le_of_ble_eq_true rfl)
  rw [lg_entry_eq]
  generalize (lg_sl ([.ref (am 0), .int (nI n), .int (nI k)]) ++ List.replicate (5 - (lg_sl ([.ref (am 0), .int (nI n), .int (nI k)])).length) Slot.unset).toArray = ls at hl ⊢
  have hl : lv_has ls 5 [(0, .ref (am 0)), (1, .int (nI n)), (2, .int (nI k))] := hl
  refine lv_iload_n hx hb dX4_digit_0 rfl (lv_at hl 1 rfl) ?_
  refine lv_istore_n (lv' := [(3, .int (nI n)), (0, .ref (am 0)), (1, .int (nI n)), (2, .int (nI k))]) hx hb dX4_digit_1 rfl hl (by decide) rfl (fun ls hl => ?_)
  refine lv_iconst (v := 0) hx hb dX4_digit_2 (by decide) ?_
  refine lv_istore (lv' := [(4, .int 0), (3, .int (nI n)), (0, .ref (am 0)), (1, .int (nI n)), (2, .int (nI k))]) hx hb dX4_digit_3 hl (by decide) rfl (fun ls hl => ?_)
  have hl : lv_has ls 5 [(4, .int 0), (3, .int (nI (n / 10 ^ 0))), (0, .ref (am 0)), (1, .int (nI n)), (2, .int (nI k))] := by rw [show n / 10 ^ 0 = n by simp]; exact hl
  have hloop5 : ∀ (d : Nat) (j : Nat), j + d = k → ∀ (H : Heap) (locs : List Loc), va_P Z.1 vwCl (iw 22 (mF am (Z.2.1 0) h)) H → va_S (fx_A 22 am s.heap.size) s.heap H locs → ∀ ls : Array Slot, lv_has ls 5 [(0, .ref (am 0)), (1, .int (nI n)), (2, .int (nI k)), (3, .int (nI (n / 10 ^ j))), (4, .int (nI j))] → W p l e (headSpec (fx_l yX4_digit cX4_digit 5 (some .char)) { frames := 0, cells := 0, slots := 0, locals := 0 }).room s m ([.ref (am 0), .int (nI n), .int (nI k)] : List Value).toArray below meth c H locs 0 0 (vx_MQ below (fx_post Z 22 am (mF am (Z.2.1 0)) (pI (nI (48 + n / 10 ^ k % 10)) h) s.heap.size) (fx_px Z 22 am (mF am (Z.2.1 0) h) (fun _ => False) s.heap.size) ([.ref (am 0), .int (nI n), .int (nI k)] : List Value).toArray s 0 0 (fx_A 22 am s.heap.size)) (F0 m 5 ls []) := by
    intro d
    induction d with
    | zero =>
      intro j hd H locs hP hS ls hl
      refine lv_iload hx hb dX4_digit_5 (lv_at hl 4 rfl) ?_
      refine lv_iload_n hx hb dX4_digit_7 rfl (lv_at hl 2 rfl) ?_
      refine lv_icmp_ge (tgt := 22) hx hb dX4_digit_8 (by decide) (fun _ => ?_) (fun c1 => absurd (nI_le (by omega) (by omega)) c1)
      refine lv_bipush (v := 48) hx hb dX4_digit_22 (by decide) ?_
      refine lv_iload_n hx hb dX4_digit_24 rfl (lv_at hl 3 rfl) ?_
      refine lv_bipush (v := 10) hx hb dX4_digit_25 (by decide) ?_
      refine lv_irem hx hb dX4_digit_27 (by decide) ?_
      rw [show (nI (n / 10 ^ j)) - (nI (n / 10 ^ j)) / 10 * 10 = nI (n / 10 ^ j % 10) from dv_r hn]
      refine lv_iadd hx hb dX4_digit_28 ?_
      rw [show (48 + (nI (n / 10 ^ j % 10)) : Int32) = nI (48 + n / 10 ^ j % 10) from nI_add 48 _]
      refine lv_i2c (v := nI (48 + n / 10 ^ j % 10)) hx hb dX4_digit_29 (i2c_n (by omega)) ?_
      exact fx_retz hx hb hr hlocks (pk_charN (by omega)).1 hP hS (Nat.le_of_ble_eq_true rfl) (Nat.le_of_ble_eq_true rfl) dX4_digit_30 ⟨(by rw [show j = k by omega]), rfl⟩
    | succ d ih5 =>
      intro j hd H locs hP hS ls hl
      refine lv_iload hx hb dX4_digit_5 (lv_at hl 4 rfl) ?_
      refine lv_iload_n hx hb dX4_digit_7 rfl (lv_at hl 2 rfl) ?_
      refine lv_icmp_ge (tgt := 22) hx hb dX4_digit_8 (by decide) (fun c2 => absurd c2 (nI_ge (by omega) (by omega))) (fun _ => ?_)
      refine lv_iload_n hx hb dX4_digit_11 rfl (lv_at hl 3 rfl) ?_
      refine lv_bipush (v := 10) hx hb dX4_digit_12 (by decide) ?_
      refine lv_idiv hx hb dX4_digit_14 (by decide) ?_
      rw [show ((nI (n / 10 ^ j)) / 10 : Int32) = nI (n / 10 ^ (j + 1)) from dv_s hn]
      refine lv_istore_n (lv' := [(3, .int (nI (n / 10 ^ (j + 1)))), (0, .ref (am 0)), (1, .int (nI n)), (2, .int (nI k)), (4, .int (nI j))]) hx hb dX4_digit_15 rfl hl (by decide) rfl (fun ls hl => ?_)
      refine lv_iinc (v := nI (j + 1)) (lv' := [(4, .int (nI (j + 1))), (3, .int (nI (n / 10 ^ (j + 1)))), (0, .ref (am 0)), (1, .int (nI n)), (2, .int (nI k))]) hx hb dX4_digit_16 hl (k := 4) rfl (nI_1 _) (by decide) rfl (fun ls hl => ?_)
      refine lv_goto (tgt := 5) hx hb dX4_digit_19 (by decide) ?_
      exact ih5 (j + 1) (by omega) H locs hP hS ls (lv_sub hl [2, 3, 4, 1, 0] rfl)
  exact hloop5 k 0 (by omega) s.heap [] hP hS ls (lv_sub hl [2, 3, 4, 1, 0] rfl)

set_option maxHeartbeats 4000000 in
set_option maxRecDepth 100000 in
theorem c_X4_code_A (l : Launch) (Z : fx_Z) (am : Nat → Nat) (hinj : fx_inj 22 am) (h : St) (rc : Nat) (i : Nat) (hi : i < rc) (hrc : h 0 0 = nI rc) (hr6 : rc ≤ 60) : fx_C l Z yX4_code cX4_code 5 (some .char) 2 44 0 0 22 am (mF am (Z.2.1 0)) h [.ref (am 0), .int (nI i), .int 0] (pI 82 (u2 h 0 3 0)) (fun _ => False) := by
  intro sz
  refine vx_ofW (cc := cX4_code) (maxL := 5) (ret := (some .char)) (by decide) rfl ?_
  intro p e s m args below meth c s₁ B hml hout hv
  obtain ⟨rfl, hsz, hP, hE, hSt⟩ := hv
  subst hsz
  have hx := B.exec
  have hb := B.bytes
  have hr := B.returns
  have hown : s.vm.findClass RX4 = some m.cls := findClass_of_methodNamed B.named
  have hlocks := B.notSynchronized
  have K : m_K p s m ([.ref (am 0), .int (nI i), .int 0] : List Value).toArray c cX4_code 5 Z am := ⟨hx, hb, hml, hown, fun w hw => atoms_spec (ws := fx_l yX4_code cX4_code 5 (some .char)) B.pre w (List.mem_cons_of_mem _ hw), hE, hSt, hinj⟩
  have hS : va_S (fx_A 22 am s.heap.size) s.heap s.heap [] := va_S.rf
  have hl := lv_entry ([.ref (am 0), .int (nI i), .int 0]) (n := 5) (Nat.le_of_ble_eq_true rfl)
  rw [lg_entry_eq]
  generalize (lg_sl ([.ref (am 0), .int (nI i), .int 0]) ++ List.replicate (5 - (lg_sl ([.ref (am 0), .int (nI i), .int 0])).length) Slot.unset).toArray = ls at hl ⊢
  have hl : lv_has ls 5 [(0, .ref (am 0)), (1, .int (nI i)), (2, .int 0)] := hl
  refine lv_aload_n hx hb dX4_code_0 rfl (lv_at hl 0 rfl) ?_
  refine lv_aload_n hx hb dX4_code_1 rfl (lv_at hl 0 rfl) ?_
  refine lv_iload_n hx hb dX4_code_2 rfl (lv_at hl 1 rfl) ?_
  refine m_callt (rest := [.ref (am 0)]) K hP hS (c_X4_isReceipt l Z am hinj h (nI i)) ok_X4_94 rfl ⟨Nat.le_of_ble_eq_true rfl, Nat.le_of_ble_eq_true rfl⟩ rfl hl.1 (Nat.le_of_ble_eq_true rfl) ⟨Nat.le_of_ble_eq_true rfl, Nat.le_of_ble_eq_true rfl⟩ dX4_code_3 (isR_t hrc hr6 hi) (fun H locs hP hS => ?_)
  refine lv_if_eq (tgt := 17) hx hb dX4_code_6 (by decide) (fun c1 => absurd c1 (by decide)) (fun _ => ?_)
  refine lv_iload_n hx hb dX4_code_9 rfl (lv_at hl 2 rfl) ?_
  refine lv_if_lt (tgt := 17) hx hb dX4_code_10 (by decide) (fun c2 => absurd c2 (by decide)) (fun _ => ?_)
  refine lv_iconst (v := 0) hx hb dX4_code_13 (by decide) ?_
  refine lv_goto (tgt := 18) hx hb dX4_code_14 (by decide) ?_
  refine m_callf (rest := []) K hP hS (c_X4_holds l Z am hinj h 0) ok_X4_87 rfl ⟨Nat.le_of_ble_eq_true rfl, Nat.le_of_ble_eq_true rfl⟩ rfl hl.1 (Nat.le_of_ble_eq_true rfl) ⟨Nat.le_of_ble_eq_true rfl, Nat.le_of_ble_eq_true rfl⟩ dX4_code_18 (by decide) (fun H locs hP hS => ?_)
  obtain ⟨h3, e3⟩ : ∃ z : St, z = (u2 h 0 3 0) := ⟨_, rfl⟩
  rw [← e3] at hP
  refine lv_if_eq (tgt := 26) hx hb dX4_code_21 (by decide) (fun _ => ?_) (fun c4 => absurd (by decide) c4)
  refine lv_aload_n hx hb dX4_code_26 rfl (lv_at hl 0 rfl) ?_
  refine lv_iload_n hx hb dX4_code_27 rfl (lv_at hl 1 rfl) ?_
  refine m_calli (rest := []) K hP hS (c_X4_digits l Z am hinj h3 i (by omega)) ok_X4_118 rfl ⟨Nat.le_of_ble_eq_true rfl, Nat.le_of_ble_eq_true rfl⟩ rfl hl.1 (Nat.le_of_ble_eq_true rfl) ⟨Nat.le_of_ble_eq_true rfl, Nat.le_of_ble_eq_true rfl⟩ dX4_code_28 (fun H locs hP hS => ?_)
  refine lv_istore_n (lv' := [(3, .int (nI (dgN i))), (0, .ref (am 0)), (1, .int (nI i)), (2, .int 0)]) hx hb dX4_code_31 rfl hl (by decide) rfl (fun ls hl => ?_)
  refine lv_iload_n hx hb dX4_code_32 rfl (lv_at hl 3 rfl) ?_
  refine lv_if_eq (tgt := 43) hx hb dX4_code_33 (by decide) (fun _ => ?_) (fun c5 => absurd (by decide) c5)
  refine lv_iload_n hx hb dX4_code_43 rfl (lv_at hl 3 rfl) ?_
  refine lv_if_ne (tgt := 52) hx hb dX4_code_44 (by decide) (fun c6 => absurd (by decide) c6) (fun _ => ?_)
  refine lv_bipush (v := 82) hx hb dX4_code_47 (by decide) ?_
  refine lv_goto (tgt := 54) hx hb dX4_code_49 (by decide) ?_
  exact fx_retz hx hb hr hlocks rfl hP hS (Nat.le_of_ble_eq_true rfl) (Nat.le_of_ble_eq_true rfl) dX4_code_54 ⟨rfl, by simp only [e3]⟩

set_option maxHeartbeats 4000000 in
set_option maxRecDepth 100000 in
theorem c_X4_code_B (l : Launch) (Z : fx_Z) (am : Nat → Nat) (hinj : fx_inj 22 am) (h : St) (rc : Nat) (i : Nat) (q : Nat) (hi : i < rc) (hrc : h 0 0 = nI rc) (hr6 : rc ≤ 60) (hq : q = dgN i + 1) (hq2 : q < 2 ^ 31) : fx_C l Z yX4_code cX4_code 5 (some .char) 2 44 0 0 22 am (mF am (Z.2.1 0)) h [.ref (am 0), .int (nI i), .int (nI q)] (pI 45 (u2 h 0 3 0)) (fun _ => False) := by
  intro sz
  refine vx_ofW (cc := cX4_code) (maxL := 5) (ret := (some .char)) (by decide) rfl ?_
  intro p e s m args below meth c s₁ B hml hout hv
  obtain ⟨rfl, hsz, hP, hE, hSt⟩ := hv
  subst hsz
  have hx := B.exec
  have hb := B.bytes
  have hr := B.returns
  have hown : s.vm.findClass RX4 = some m.cls := findClass_of_methodNamed B.named
  have hlocks := B.notSynchronized
  have K : m_K p s m ([.ref (am 0), .int (nI i), .int (nI q)] : List Value).toArray c cX4_code 5 Z am := ⟨hx, hb, hml, hown, fun w hw => atoms_spec (ws := fx_l yX4_code cX4_code 5 (some .char)) B.pre w (List.mem_cons_of_mem _ hw), hE, hSt, hinj⟩
  have hS : va_S (fx_A 22 am s.heap.size) s.heap s.heap [] := va_S.rf
  have hl := lv_entry ([.ref (am 0), .int (nI i), .int (nI q)]) (n := 5) (Nat.le_of_ble_eq_true rfl)
  rw [lg_entry_eq]
  generalize (lg_sl ([.ref (am 0), .int (nI i), .int (nI q)]) ++ List.replicate (5 - (lg_sl ([.ref (am 0), .int (nI i), .int (nI q)])).length) Slot.unset).toArray = ls at hl ⊢
  have hl : lv_has ls 5 [(0, .ref (am 0)), (1, .int (nI i)), (2, .int (nI q))] := hl
  refine lv_aload_n hx hb dX4_code_0 rfl (lv_at hl 0 rfl) ?_
  refine lv_aload_n hx hb dX4_code_1 rfl (lv_at hl 0 rfl) ?_
  refine lv_iload_n hx hb dX4_code_2 rfl (lv_at hl 1 rfl) ?_
  refine m_callt (rest := [.ref (am 0)]) K hP hS (c_X4_isReceipt l Z am hinj h (nI i)) ok_X4_94 rfl ⟨Nat.le_of_ble_eq_true rfl, Nat.le_of_ble_eq_true rfl⟩ rfl hl.1 (Nat.le_of_ble_eq_true rfl) ⟨Nat.le_of_ble_eq_true rfl, Nat.le_of_ble_eq_true rfl⟩ dX4_code_3 (isR_t hrc hr6 hi) (fun H locs hP hS => ?_)
  refine lv_if_eq (tgt := 17) hx hb dX4_code_6 (by decide) (fun c1 => absurd c1 (by decide)) (fun _ => ?_)
  refine lv_iload_n hx hb dX4_code_9 rfl (lv_at hl 2 rfl) ?_
  refine lv_if_lt (tgt := 17) hx hb dX4_code_10 (by decide) (fun c2 => absurd c2 (nI_pos (by omega))) (fun _ => ?_)
  refine lv_iconst (v := 0) hx hb dX4_code_13 (by decide) ?_
  refine lv_goto (tgt := 18) hx hb dX4_code_14 (by decide) ?_
  refine m_callf (rest := []) K hP hS (c_X4_holds l Z am hinj h 0) ok_X4_87 rfl ⟨Nat.le_of_ble_eq_true rfl, Nat.le_of_ble_eq_true rfl⟩ rfl hl.1 (Nat.le_of_ble_eq_true rfl) ⟨Nat.le_of_ble_eq_true rfl, Nat.le_of_ble_eq_true rfl⟩ dX4_code_18 (by decide) (fun H locs hP hS => ?_)
  obtain ⟨h3, e3⟩ : ∃ z : St, z = (u2 h 0 3 0) := ⟨_, rfl⟩
  rw [← e3] at hP
  refine lv_if_eq (tgt := 26) hx hb dX4_code_21 (by decide) (fun _ => ?_) (fun c4 => absurd (by decide) c4)
  refine lv_aload_n hx hb dX4_code_26 rfl (lv_at hl 0 rfl) ?_
  refine lv_iload_n hx hb dX4_code_27 rfl (lv_at hl 1 rfl) ?_
  refine m_calli (rest := []) K hP hS (c_X4_digits l Z am hinj h3 i (by omega)) ok_X4_118 rfl ⟨Nat.le_of_ble_eq_true rfl, Nat.le_of_ble_eq_true rfl⟩ rfl hl.1 (Nat.le_of_ble_eq_true rfl) ⟨Nat.le_of_ble_eq_true rfl, Nat.le_of_ble_eq_true rfl⟩ dX4_code_28 (fun H locs hP hS => ?_)
  refine lv_istore_n (lv' := [(3, .int (nI (dgN i))), (0, .ref (am 0)), (1, .int (nI i)), (2, .int (nI q))]) hx hb dX4_code_31 rfl hl (by decide) rfl (fun ls hl => ?_)
  refine lv_iload_n hx hb dX4_code_32 rfl (lv_at hl 3 rfl) ?_
  refine lv_if_eq (tgt := 43) hx hb dX4_code_33 (by decide) (fun c5 => absurd c5 (nI_ne0 (by omega) (by omega))) (fun _ => ?_)
  refine lv_iload_n hx hb dX4_code_36 rfl (lv_at hl 3 rfl) ?_
  refine lv_iload_n hx hb dX4_code_37 rfl (lv_at hl 0 rfl) ?_
  refine lv_iconst (v := 1) hx hb dX4_code_38 (by decide) ?_
  refine lv_iadd hx hb dX4_code_39 ?_
  rw [show ((nI (dgN i)) + 1 : Int32) = nI (dgN i + 1) from nI_1 _]
  refine lv_icmp_ne (tgt := 55) hx hb dX4_code_40 (by decide) (fun c6 => absurd (by rw [hq]) c6) (fun _ => ?_)
  refine lv_iload_n hx hb dX4_code_43 rfl (lv_at hl 3 rfl) ?_
  refine lv_if_ne (tgt := 52) hx hb dX4_code_44 (by decide) (fun _ => ?_) (fun c7 => absurd c7 (nI_ne0 (by omega) (by omega)))
  refine lv_bipush (v := 45) hx hb dX4_code_52 (by decide) ?_
  exact fx_retz hx hb hr hlocks rfl hP hS (Nat.le_of_ble_eq_true rfl) (Nat.le_of_ble_eq_true rfl) dX4_code_54 ⟨rfl, by simp only [e3]⟩

set_option maxHeartbeats 4000000 in
set_option maxRecDepth 100000 in
theorem c_X4_code_C (l : Launch) (Z : fx_Z) (am : Nat → Nat) (hinj : fx_inj 22 am) (h : St) (rc : Nat) (i : Nat) (q : Nat) (hi : i < rc) (hrc : h 0 0 = nI rc) (hr6 : rc ≤ 60) (hq0 : 0 < q) (hq : q ≤ dgN i) (hd5 : dgN i ≤ 5) : fx_C l Z yX4_code cX4_code 5 (some .char) 2 44 0 0 22 am (mF am (Z.2.1 0)) h [.ref (am 0), .int (nI i), .int (nI q)] (pI (nI (48 + i / 10 ^ (dgN i - q) % 10)) (u2 h 0 3 0)) (fun _ => False) := by
  intro sz
  refine vx_ofW (cc := cX4_code) (maxL := 5) (ret := (some .char)) (by decide) rfl ?_
  intro p e s m args below meth c s₁ B hml hout hv
  obtain ⟨rfl, hsz, hP, hE, hSt⟩ := hv
  subst hsz
  have hx := B.exec
  have hb := B.bytes
  have hr := B.returns
  have hown : s.vm.findClass RX4 = some m.cls := findClass_of_methodNamed B.named
  have hlocks := B.notSynchronized
  have K : m_K p s m ([.ref (am 0), .int (nI i), .int (nI q)] : List Value).toArray c cX4_code 5 Z am := ⟨hx, hb, hml, hown, fun w hw => atoms_spec (ws := fx_l yX4_code cX4_code 5 (some .char)) B.pre w (List.mem_cons_of_mem _ hw), hE, hSt, hinj⟩
  have hS : va_S (fx_A 22 am s.heap.size) s.heap s.heap [] := va_S.rf
  have hl := lv_entry ([.ref (am 0), .int (nI i), .int (nI q)]) (n := 5) (Nat.le_of_ble_eq_true rfl)
  rw [lg_entry_eq]
  generalize (lg_sl ([.ref (am 0), .int (nI i), .int (nI q)]) ++ List.replicate (5 - (lg_sl ([.ref (am 0), .int (nI i), .int (nI q)])).length) Slot.unset).toArray = ls at hl ⊢
  have hl : lv_has ls 5 [(0, .ref (am 0)), (1, .int (nI i)), (2, .int (nI q))] := hl
  refine lv_aload_n hx hb dX4_code_0 rfl (lv_at hl 0 rfl) ?_
  refine lv_aload_n hx hb dX4_code_1 rfl (lv_at hl 0 rfl) ?_
  refine lv_iload_n hx hb dX4_code_2 rfl (lv_at hl 1 rfl) ?_
  refine m_callt (rest := [.ref (am 0)]) K hP hS (c_X4_isReceipt l Z am hinj h (nI i)) ok_X4_94 rfl ⟨Nat.le_of_ble_eq_true rfl, Nat.le_of_ble_eq_true rfl⟩ rfl hl.1 (Nat.le_of_ble_eq_true rfl) ⟨Nat.le_of_ble_eq_true rfl, Nat.le_of_ble_eq_true rfl⟩ dX4_code_3 (isR_t hrc hr6 hi) (fun H locs hP hS => ?_)
  refine lv_if_eq (tgt := 17) hx hb dX4_code_6 (by decide) (fun c1 => absurd c1 (by decide)) (fun _ => ?_)
  refine lv_iload_n hx hb dX4_code_9 rfl (lv_at hl 2 rfl) ?_
  refine lv_if_lt (tgt := 17) hx hb dX4_code_10 (by decide) (fun c2 => absurd c2 (nI_pos (by omega))) (fun _ => ?_)
  refine lv_iconst (v := 0) hx hb dX4_code_13 (by decide) ?_
  refine lv_goto (tgt := 18) hx hb dX4_code_14 (by decide) ?_
  refine m_callf (rest := []) K hP hS (c_X4_holds l Z am hinj h 0) ok_X4_87 rfl ⟨Nat.le_of_ble_eq_true rfl, Nat.le_of_ble_eq_true rfl⟩ rfl hl.1 (Nat.le_of_ble_eq_true rfl) ⟨Nat.le_of_ble_eq_true rfl, Nat.le_of_ble_eq_true rfl⟩ dX4_code_18 (by decide) (fun H locs hP hS => ?_)
  obtain ⟨h3, e3⟩ : ∃ z : St, z = (u2 h 0 3 0) := ⟨_, rfl⟩
  rw [← e3] at hP
  refine lv_if_eq (tgt := 26) hx hb dX4_code_21 (by decide) (fun _ => ?_) (fun c4 => absurd (by decide) c4)
  refine lv_aload_n hx hb dX4_code_26 rfl (lv_at hl 0 rfl) ?_
  refine lv_iload_n hx hb dX4_code_27 rfl (lv_at hl 1 rfl) ?_
  refine m_calli (rest := []) K hP hS (c_X4_digits l Z am hinj h3 i (by omega)) ok_X4_118 rfl ⟨Nat.le_of_ble_eq_true rfl, Nat.le_of_ble_eq_true rfl⟩ rfl hl.1 (Nat.le_of_ble_eq_true rfl) ⟨Nat.le_of_ble_eq_true rfl, Nat.le_of_ble_eq_true rfl⟩ dX4_code_28 (fun H locs hP hS => ?_)
  refine lv_istore_n (lv' := [(3, .int (nI (dgN i))), (0, .ref (am 0)), (1, .int (nI i)), (2, .int (nI q))]) hx hb dX4_code_31 rfl hl (by decide) rfl (fun ls hl => ?_)
  refine lv_iload_n hx hb dX4_code_32 rfl (lv_at hl 3 rfl) ?_
  refine lv_if_eq (tgt := 43) hx hb dX4_code_33 (by decide) (fun c5 => absurd c5 (nI_ne0 (by omega) (by omega))) (fun _ => ?_)
  refine lv_iload_n hx hb dX4_code_36 rfl (lv_at hl 3 rfl) ?_
  refine lv_iload_n hx hb dX4_code_37 rfl (lv_at hl 0 rfl) ?_
  refine lv_iconst (v := 1) hx hb dX4_code_38 (by decide) ?_
  refine lv_iadd hx hb dX4_code_39 ?_
  rw [show ((nI (dgN i)) + 1 : Int32) = nI (dgN i + 1) from nI_1 _]
  refine lv_icmp_ne (tgt := 55) hx hb dX4_code_40 (by decide) (fun _ => ?_) (fun c6 => absurd c6 (fun z => absurd ((nI_eq (by omega) (by omega)).mp z) (by omega)))
  refine lv_iload_n hx hb dX4_code_55 rfl (lv_at hl 3 rfl) ?_
  refine lv_iload_n hx hb dX4_code_56 rfl (lv_at hl 0 rfl) ?_
  refine lv_icmp_gt (tgt := 69) hx hb dX4_code_57 (by decide) (fun c7 => absurd c7 (fun z => absurd ((nI_ltI (by omega) (by omega)).mp z) (by omega))) (fun _ => ?_)
  refine lv_aload_n hx hb dX4_code_60 rfl (lv_at hl 1 rfl) ?_
  refine lv_iload_n hx hb dX4_code_61 rfl (lv_at hl 2 rfl) ?_
  refine lv_iload_n hx hb dX4_code_62 rfl (lv_at hl 0 rfl) ?_
  refine lv_iload_n hx hb dX4_code_63 rfl (lv_at hl 3 rfl) ?_
  refine lv_isub hx hb dX4_code_64 ?_
  rw [show ((nI (dgN i)) - (nI q) : Int32) = nI (dgN i - q) from pk_sub (by omega)]
  refine m_calli (rest := []) K hP hS (c_X4_digit l Z am hinj h3 i (dgN i - q) (by omega) (by omega)) ok_X4_121 rfl ⟨Nat.le_of_ble_eq_true rfl, Nat.le_of_ble_eq_true rfl⟩ rfl hl.1 (Nat.le_of_ble_eq_true rfl) ⟨Nat.le_of_ble_eq_true rfl, Nat.le_of_ble_eq_true rfl⟩ dX4_code_65 (fun H locs hP hS => ?_)
  exact fx_retz hx hb hr hlocks (pk_charN (by omega)).1 hP hS (Nat.le_of_ble_eq_true rfl) (Nat.le_of_ble_eq_true rfl) dX4_code_68 ⟨rfl, by simp only [e3]⟩

set_option maxHeartbeats 4000000 in
set_option maxRecDepth 100000 in
theorem c_X4_code_D (l : Launch) (Z : fx_Z) (am : Nat → Nat) (hinj : fx_inj 22 am) (h : St) (rc : Nat) (tx : Nat) (i : Nat) (q : Nat) (hi : i < rc) (hrc : h 0 0 = nI rc) (hr6 : rc ≤ 60) (hx5 : h 5 i = nI tx) (htx : tx < 2 ^ 31) (hd5 : dgN i ≤ 5) (hd6 : dgN tx ≤ 5) (hq : dgN i + 2 ≤ q) (hq2 : q < 2 ^ 31) (hk : q - dgN i - 2 < dgN tx) : fx_C l Z yX4_code cX4_code 5 (some .char) 2 44 0 0 22 am (mF am (Z.2.1 0)) h [.ref (am 0), .int (nI i), .int (nI q)] (pI (nI (48 + tx / 10 ^ (q - dgN i - 2) % 10)) (u2 h 0 3 0)) (fun _ => False) := by
  intro sz
  refine vx_ofW (cc := cX4_code) (maxL := 5) (ret := (some .char)) (by decide) rfl ?_
  intro p e s m args below meth c s₁ B hml hout hv
  obtain ⟨rfl, hsz, hP, hE, hSt⟩ := hv
  subst hsz
  have hx := B.exec
  have hb := B.bytes
  have hr := B.returns
  have hown : s.vm.findClass RX4 = some m.cls := findClass_of_methodNamed B.named
  have hlocks := B.notSynchronized
  have K : m_K p s m ([.ref (am 0), .int (nI i), .int (nI q)] : List Value).toArray c cX4_code 5 Z am := ⟨hx, hb, hml, hown, fun w hw => atoms_spec (ws := fx_l yX4_code cX4_code 5 (some .char)) B.pre w (List.mem_cons_of_mem _ hw), hE, hSt, hinj⟩
  have hS : va_S (fx_A 22 am s.heap.size) s.heap s.heap [] := va_S.rf
  have hl := lv_entry ([.ref (am 0), .int (nI i), .int (nI q)]) (n := 5) (Nat.le_of_ble_eq_true rfl)
  rw [lg_entry_eq]
  generalize (lg_sl ([.ref (am 0), .int (nI i), .int (nI q)]) ++ List.replicate (5 - (lg_sl ([.ref (am 0), .int (nI i), .int (nI q)])).length) Slot.unset).toArray = ls at hl ⊢
  have hl : lv_has ls 5 [(0, .ref (am 0)), (1, .int (nI i)), (2, .int (nI q))] := hl
  refine lv_aload_n hx hb dX4_code_0 rfl (lv_at hl 0 rfl) ?_
  refine lv_aload_n hx hb dX4_code_1 rfl (lv_at hl 0 rfl) ?_
  refine lv_iload_n hx hb dX4_code_2 rfl (lv_at hl 1 rfl) ?_
  refine m_callt (rest := [.ref (am 0)]) K hP hS (c_X4_isReceipt l Z am hinj h (nI i)) ok_X4_94 rfl ⟨Nat.le_of_ble_eq_true rfl, Nat.le_of_ble_eq_true rfl⟩ rfl hl.1 (Nat.le_of_ble_eq_true rfl) ⟨Nat.le_of_ble_eq_true rfl, Nat.le_of_ble_eq_true rfl⟩ dX4_code_3 (isR_t hrc hr6 hi) (fun H locs hP hS => ?_)
  refine lv_if_eq (tgt := 17) hx hb dX4_code_6 (by decide) (fun c1 => absurd c1 (by decide)) (fun _ => ?_)
  refine lv_iload_n hx hb dX4_code_9 rfl (lv_at hl 2 rfl) ?_
  refine lv_if_lt (tgt := 17) hx hb dX4_code_10 (by decide) (fun c2 => absurd c2 (nI_pos (by omega))) (fun _ => ?_)
  refine lv_iconst (v := 0) hx hb dX4_code_13 (by decide) ?_
  refine lv_goto (tgt := 18) hx hb dX4_code_14 (by decide) ?_
  refine m_callf (rest := []) K hP hS (c_X4_holds l Z am hinj h 0) ok_X4_87 rfl ⟨Nat.le_of_ble_eq_true rfl, Nat.le_of_ble_eq_true rfl⟩ rfl hl.1 (Nat.le_of_ble_eq_true rfl) ⟨Nat.le_of_ble_eq_true rfl, Nat.le_of_ble_eq_true rfl⟩ dX4_code_18 (by decide) (fun H locs hP hS => ?_)
  obtain ⟨h3, e3⟩ : ∃ z : St, z = (u2 h 0 3 0) := ⟨_, rfl⟩
  rw [← e3] at hP
  refine lv_if_eq (tgt := 26) hx hb dX4_code_21 (by decide) (fun _ => ?_) (fun c4 => absurd (by decide) c4)
  refine lv_aload_n hx hb dX4_code_26 rfl (lv_at hl 0 rfl) ?_
  refine lv_iload_n hx hb dX4_code_27 rfl (lv_at hl 1 rfl) ?_
  refine m_calli (rest := []) K hP hS (c_X4_digits l Z am hinj h3 i (by omega)) ok_X4_118 rfl ⟨Nat.le_of_ble_eq_true rfl, Nat.le_of_ble_eq_true rfl⟩ rfl hl.1 (Nat.le_of_ble_eq_true rfl) ⟨Nat.le_of_ble_eq_true rfl, Nat.le_of_ble_eq_true rfl⟩ dX4_code_28 (fun H locs hP hS => ?_)
  refine lv_istore_n (lv' := [(3, .int (nI (dgN i))), (0, .ref (am 0)), (1, .int (nI i)), (2, .int (nI q))]) hx hb dX4_code_31 rfl hl (by decide) rfl (fun ls hl => ?_)
  refine lv_iload_n hx hb dX4_code_32 rfl (lv_at hl 3 rfl) ?_
  refine lv_if_eq (tgt := 43) hx hb dX4_code_33 (by decide) (fun c5 => absurd c5 (nI_ne0 (by omega) (by omega))) (fun _ => ?_)
  refine lv_iload_n hx hb dX4_code_36 rfl (lv_at hl 3 rfl) ?_
  refine lv_iload_n hx hb dX4_code_37 rfl (lv_at hl 0 rfl) ?_
  refine lv_iconst (v := 1) hx hb dX4_code_38 (by decide) ?_
  refine lv_iadd hx hb dX4_code_39 ?_
  rw [show ((nI (dgN i)) + 1 : Int32) = nI (dgN i + 1) from nI_1 _]
  refine lv_icmp_ne (tgt := 55) hx hb dX4_code_40 (by decide) (fun _ => ?_) (fun c6 => absurd c6 (fun z => absurd ((nI_eq (by omega) (by omega)).mp z) (by omega)))
  refine lv_iload_n hx hb dX4_code_55 rfl (lv_at hl 3 rfl) ?_
  refine lv_iload_n hx hb dX4_code_56 rfl (lv_at hl 0 rfl) ?_
  refine lv_icmp_gt (tgt := 69) hx hb dX4_code_57 (by decide) (fun _ => ?_) (fun c7 => absurd (nI_lt (by omega) (by omega)) c7)
  refine lv_iload_n hx hb dX4_code_69 rfl (lv_at hl 3 rfl) ?_
  refine lv_iload_n hx hb dX4_code_70 rfl (lv_at hl 0 rfl) ?_
  refine lv_isub hx hb dX4_code_71 ?_
  rw [show ((nI q) - (nI (dgN i)) : Int32) = nI (q - dgN i) from pk_sub (by omega)]
  refine lv_iconst (v := 2) hx hb dX4_code_72 (by decide) ?_
  refine lv_isub hx hb dX4_code_73 ?_
  rw [show ((nI (q - dgN i)) - 2 : Int32) = nI (q - dgN i - 2) from pk_sub (b := 2) (by omega)]
  refine lv_istore (lv' := [(4, .int (nI (q - dgN i - 2))), (3, .int (nI (dgN i))), (0, .ref (am 0)), (1, .int (nI i)), (2, .int (nI q))]) hx hb dX4_code_74 hl (by decide) rfl (fun ls hl => ?_)
  refine lv_iload hx hb dX4_code_76 (lv_at hl 0 rfl) ?_
  refine lv_aload_n hx hb dX4_code_78 rfl (lv_at hl 2 rfl) ?_
  refine lv_aload_n hx hb dX4_code_79 rfl (lv_at hl 2 rfl) ?_
  refine mg_rx K hP dX4_code_80 ?_
  refine lv_iload_n hx hb dX4_code_83 rfl (lv_at hl 3 rfl) ?_
  refine mr_ald K hP (by decide) (by decide) (n := 60) rfl (by omega) (by decide) dX4_code_84 ?_
  rw [show h3 5 i = h 5 i from by rw [e3, u2_off _ _ (by omega)]]
  rw [hx5]
  refine m_calli (rest := [.int (nI (q - dgN i - 2))]) K hP hS (c_X4_digits l Z am hinj h3 tx (by omega)) ok_X4_118 rfl ⟨Nat.le_of_ble_eq_true rfl, Nat.le_of_ble_eq_true rfl⟩ rfl hl.1 (Nat.le_of_ble_eq_true rfl) ⟨Nat.le_of_ble_eq_true rfl, Nat.le_of_ble_eq_true rfl⟩ dX4_code_85 (fun H locs hP hS => ?_)
  refine lv_icmp_ge (tgt := 106) hx hb dX4_code_88 (by decide) (fun c8 => absurd c8 (nI_ge (by omega) (by omega))) (fun _ => ?_)
  refine lv_aload_n hx hb dX4_code_91 rfl (lv_at hl 2 rfl) ?_
  refine lv_aload_n hx hb dX4_code_92 rfl (lv_at hl 2 rfl) ?_
  refine mg_rx K hP dX4_code_93 ?_
  refine lv_iload_n hx hb dX4_code_96 rfl (lv_at hl 3 rfl) ?_
  refine mr_ald K hP (by decide) (by decide) (n := 60) rfl (by omega) (by decide) dX4_code_97 ?_
  rw [show h3 5 i = h 5 i from by rw [e3, u2_off _ _ (by omega)]]
  rw [hx5]
  refine lv_iload hx hb dX4_code_98 (lv_at hl 0 rfl) ?_
  refine m_calli (rest := []) K hP hS (c_X4_digit l Z am hinj h3 tx (q - dgN i - 2) (by omega) (by omega)) ok_X4_121 rfl ⟨Nat.le_of_ble_eq_true rfl, Nat.le_of_ble_eq_true rfl⟩ rfl hl.1 (Nat.le_of_ble_eq_true rfl) ⟨Nat.le_of_ble_eq_true rfl, Nat.le_of_ble_eq_true rfl⟩ dX4_code_100 (fun H locs hP hS => ?_)
  refine lv_goto (tgt := 107) hx hb dX4_code_103 (by decide) ?_
  exact fx_retz hx hb hr hlocks (pk_charN (by omega)).1 hP hS (Nat.le_of_ble_eq_true rfl) (Nat.le_of_ble_eq_true rfl) dX4_code_107 ⟨rfl, by simp only [e3]⟩

set_option maxHeartbeats 4000000 in
set_option maxRecDepth 100000 in
theorem c_X4_code_E (l : Launch) (Z : fx_Z) (am : Nat → Nat) (hinj : fx_inj 22 am) (h : St) (rc : Nat) (tx : Nat) (i : Nat) (q : Nat) (hi : i < rc) (hrc : h 0 0 = nI rc) (hr6 : rc ≤ 60) (hx5 : h 5 i = nI tx) (htx : tx < 2 ^ 31) (hd5 : dgN i ≤ 5) (hd6 : dgN tx ≤ 5) (hq : dgN i + 2 ≤ q) (hq2 : q < 2 ^ 31) (hk : ¬ q - dgN i - 2 < dgN tx) : fx_C l Z yX4_code cX4_code 5 (some .char) 2 44 0 0 22 am (mF am (Z.2.1 0)) h [.ref (am 0), .int (nI i), .int (nI q)] (pI 0 (u2 h 0 3 0)) (fun _ => False) := by
  intro sz
  refine vx_ofW (cc := cX4_code) (maxL := 5) (ret := (some .char)) (by decide) rfl ?_
  intro p e s m args below meth c s₁ B hml hout hv
  obtain ⟨rfl, hsz, hP, hE, hSt⟩ := hv
  subst hsz
  have hx := B.exec
  have hb := B.bytes
  have hr := B.returns
  have hown : s.vm.findClass RX4 = some m.cls := findClass_of_methodNamed B.named
  have hlocks := B.notSynchronized
  have K : m_K p s m ([.ref (am 0), .int (nI i), .int (nI q)] : List Value).toArray c cX4_code 5 Z am := ⟨hx, hb, hml, hown, fun w hw => atoms_spec (ws := fx_l yX4_code cX4_code 5 (some .char)) B.pre w (List.mem_cons_of_mem _ hw), hE, hSt, hinj⟩
  have hS : va_S (fx_A 22 am s.heap.size) s.heap s.heap [] := va_S.rf
  have hl := lv_entry ([.ref (am 0), .int (nI i), .int (nI q)]) (n := 5) (Nat.le_of_ble_eq_true rfl)
  rw [lg_entry_eq]
  generalize (lg_sl ([.ref (am 0), .int (nI i), .int (nI q)]) ++ List.replicate (5 - (lg_sl ([.ref (am 0), .int (nI i), .int (nI q)])).length) Slot.unset).toArray = ls at hl ⊢
  have hl : lv_has ls 5 [(0, .ref (am 0)), (1, .int (nI i)), (2, .int (nI q))] := hl
  refine lv_aload_n hx hb dX4_code_0 rfl (lv_at hl 0 rfl) ?_
  refine lv_aload_n hx hb dX4_code_1 rfl (lv_at hl 0 rfl) ?_
  refine lv_iload_n hx hb dX4_code_2 rfl (lv_at hl 1 rfl) ?_
  refine m_callt (rest := [.ref (am 0)]) K hP hS (c_X4_isReceipt l Z am hinj h (nI i)) ok_X4_94 rfl ⟨Nat.le_of_ble_eq_true rfl, Nat.le_of_ble_eq_true rfl⟩ rfl hl.1 (Nat.le_of_ble_eq_true rfl) ⟨Nat.le_of_ble_eq_true rfl, Nat.le_of_ble_eq_true rfl⟩ dX4_code_3 (isR_t hrc hr6 hi) (fun H locs hP hS => ?_)
  refine lv_if_eq (tgt := 17) hx hb dX4_code_6 (by decide) (fun c1 => absurd c1 (by decide)) (fun _ => ?_)
  refine lv_iload_n hx hb dX4_code_9 rfl (lv_at hl 2 rfl) ?_
  refine lv_if_lt (tgt := 17) hx hb dX4_code_10 (by decide) (fun c2 => absurd c2 (nI_pos (by omega))) (fun _ => ?_)
  refine lv_iconst (v := 0) hx hb dX4_code_13 (by decide) ?_
  refine lv_goto (tgt := 18) hx hb dX4_code_14 (by decide) ?_
  refine m_callf (rest := []) K hP hS (c_X4_holds l Z am hinj h 0) ok_X4_87 rfl ⟨Nat.le_of_ble_eq_true rfl, Nat.le_of_ble_eq_true rfl⟩ rfl hl.1 (Nat.le_of_ble_eq_true rfl) ⟨Nat.le_of_ble_eq_true rfl, Nat.le_of_ble_eq_true rfl⟩ dX4_code_18 (by decide) (fun H locs hP hS => ?_)
  obtain ⟨h3, e3⟩ : ∃ z : St, z = (u2 h 0 3 0) := ⟨_, rfl⟩
  rw [← e3] at hP
  refine lv_if_eq (tgt := 26) hx hb dX4_code_21 (by decide) (fun _ => ?_) (fun c4 => absurd (by decide) c4)
  refine lv_aload_n hx hb dX4_code_26 rfl (lv_at hl 0 rfl) ?_
  refine lv_iload_n hx hb dX4_code_27 rfl (lv_at hl 1 rfl) ?_
  refine m_calli (rest := []) K hP hS (c_X4_digits l Z am hinj h3 i (by omega)) ok_X4_118 rfl ⟨Nat.le_of_ble_eq_true rfl, Nat.le_of_ble_eq_true rfl⟩ rfl hl.1 (Nat.le_of_ble_eq_true rfl) ⟨Nat.le_of_ble_eq_true rfl, Nat.le_of_ble_eq_true rfl⟩ dX4_code_28 (fun H locs hP hS => ?_)
  refine lv_istore_n (lv' := [(3, .int (nI (dgN i))), (0, .ref (am 0)), (1, .int (nI i)), (2, .int (nI q))]) hx hb dX4_code_31 rfl hl (by decide) rfl (fun ls hl => ?_)
  refine lv_iload_n hx hb dX4_code_32 rfl (lv_at hl 3 rfl) ?_
  refine lv_if_eq (tgt := 43) hx hb dX4_code_33 (by decide) (fun c5 => absurd c5 (nI_ne0 (by omega) (by omega))) (fun _ => ?_)
  refine lv_iload_n hx hb dX4_code_36 rfl (lv_at hl 3 rfl) ?_
  refine lv_iload_n hx hb dX4_code_37 rfl (lv_at hl 0 rfl) ?_
  refine lv_iconst (v := 1) hx hb dX4_code_38 (by decide) ?_
  refine lv_iadd hx hb dX4_code_39 ?_
  rw [show ((nI (dgN i)) + 1 : Int32) = nI (dgN i + 1) from nI_1 _]
  refine lv_icmp_ne (tgt := 55) hx hb dX4_code_40 (by decide) (fun _ => ?_) (fun c6 => absurd c6 (fun z => absurd ((nI_eq (by omega) (by omega)).mp z) (by omega)))
  refine lv_iload_n hx hb dX4_code_55 rfl (lv_at hl 3 rfl) ?_
  refine lv_iload_n hx hb dX4_code_56 rfl (lv_at hl 0 rfl) ?_
  refine lv_icmp_gt (tgt := 69) hx hb dX4_code_57 (by decide) (fun _ => ?_) (fun c7 => absurd (nI_lt (by omega) (by omega)) c7)
  refine lv_iload_n hx hb dX4_code_69 rfl (lv_at hl 3 rfl) ?_
  refine lv_iload_n hx hb dX4_code_70 rfl (lv_at hl 0 rfl) ?_
  refine lv_isub hx hb dX4_code_71 ?_
  rw [show ((nI q) - (nI (dgN i)) : Int32) = nI (q - dgN i) from pk_sub (by omega)]
  refine lv_iconst (v := 2) hx hb dX4_code_72 (by decide) ?_
  refine lv_isub hx hb dX4_code_73 ?_
  rw [show ((nI (q - dgN i)) - 2 : Int32) = nI (q - dgN i - 2) from pk_sub (b := 2) (by omega)]
  refine lv_istore (lv' := [(4, .int (nI (q - dgN i - 2))), (3, .int (nI (dgN i))), (0, .ref (am 0)), (1, .int (nI i)), (2, .int (nI q))]) hx hb dX4_code_74 hl (by decide) rfl (fun ls hl => ?_)
  refine lv_iload hx hb dX4_code_76 (lv_at hl 0 rfl) ?_
  refine lv_aload_n hx hb dX4_code_78 rfl (lv_at hl 2 rfl) ?_
  refine lv_aload_n hx hb dX4_code_79 rfl (lv_at hl 2 rfl) ?_
  refine mg_rx K hP dX4_code_80 ?_
  refine lv_iload_n hx hb dX4_code_83 rfl (lv_at hl 3 rfl) ?_
  refine mr_ald K hP (by decide) (by decide) (n := 60) rfl (by omega) (by decide) dX4_code_84 ?_
  rw [show h3 5 i = h 5 i from by rw [e3, u2_off _ _ (by omega)]]
  rw [hx5]
  refine m_calli (rest := [.int (nI (q - dgN i - 2))]) K hP hS (c_X4_digits l Z am hinj h3 tx (by omega)) ok_X4_118 rfl ⟨Nat.le_of_ble_eq_true rfl, Nat.le_of_ble_eq_true rfl⟩ rfl hl.1 (Nat.le_of_ble_eq_true rfl) ⟨Nat.le_of_ble_eq_true rfl, Nat.le_of_ble_eq_true rfl⟩ dX4_code_85 (fun H locs hP hS => ?_)
  refine lv_icmp_ge (tgt := 106) hx hb dX4_code_88 (by decide) (fun _ => ?_) (fun c8 => absurd (nI_le (by omega) (by omega)) c8)
  refine lv_iconst (v := 0) hx hb dX4_code_106 (by decide) ?_
  exact fx_retz hx hb hr hlocks rfl hP hS (Nat.le_of_ble_eq_true rfl) (Nat.le_of_ble_eq_true rfl) dX4_code_107 ⟨rfl, by simp only [e3]⟩

set_option maxHeartbeats 4000000 in
set_option maxRecDepth 100000 in
theorem c_X4_code_1 (l : Launch) (Z : fx_Z) (am : Nat → Nat) (hinj : fx_inj 22 am) (h : St) (rc : Nat) (r : Int32) (q : Int32) (hrc : h 0 0 = nI rc) (hr6 : rc ≤ 60) (hbad : bad r rc ∨ q < 0) : fx_C l Z yX4_code cX4_code 5 (some .char) 2 44 0 0 22 am (mF am (Z.2.1 0)) h [.ref (am 0), .int r, .int q] (pI 0 (u2 h 0 3 1)) (fun _ => False) := by
  intro sz
  refine vx_ofW (cc := cX4_code) (maxL := 5) (ret := (some .char)) (by decide) rfl ?_
  intro p e s m args below meth c s₁ B hml hout hv
  obtain ⟨rfl, hsz, hP, hE, hSt⟩ := hv
  subst hsz
  have hx := B.exec
  have hb := B.bytes
  have hr := B.returns
  have hown : s.vm.findClass RX4 = some m.cls := findClass_of_methodNamed B.named
  have hlocks := B.notSynchronized
  have K : m_K p s m ([.ref (am 0), .int r, .int q] : List Value).toArray c cX4_code 5 Z am := ⟨hx, hb, hml, hown, fun w hw => atoms_spec (ws := fx_l yX4_code cX4_code 5 (some .char)) B.pre w (List.mem_cons_of_mem _ hw), hE, hSt, hinj⟩
  have hS : va_S (fx_A 22 am s.heap.size) s.heap s.heap [] := va_S.rf
  have hl := lv_entry ([.ref (am 0), .int r, .int q]) (n := 5) (Nat.le_of_ble_eq_true rfl)
  rw [lg_entry_eq]
  generalize (lg_sl ([.ref (am 0), .int r, .int q]) ++ List.replicate (5 - (lg_sl ([.ref (am 0), .int r, .int q])).length) Slot.unset).toArray = ls at hl ⊢
  have hl : lv_has ls 5 [(0, .ref (am 0)), (1, .int r), (2, .int q)] := hl
  refine lv_aload_n hx hb dX4_code_0 rfl (lv_at hl 0 rfl) ?_
  refine lv_aload_n hx hb dX4_code_1 rfl (lv_at hl 0 rfl) ?_
  refine lv_iload_n hx hb dX4_code_2 rfl (lv_at hl 1 rfl) ?_
  refine m_callb (rest := [.ref (am 0)]) K hP hS (c_X4_isReceipt l Z am hinj h r) ok_X4_94 rfl ⟨Nat.le_of_ble_eq_true rfl, Nat.le_of_ble_eq_true rfl⟩ rfl hl.1 (Nat.le_of_ble_eq_true rfl) ⟨Nat.le_of_ble_eq_true rfl, Nat.le_of_ble_eq_true rfl⟩ dX4_code_3 (fun c1 H locs hP hS => ?_) (fun c1 H locs hP hS => ?_)
  · refine lv_if_eq (tgt := 17) hx hb dX4_code_6 (by decide) (fun c2 => absurd c2 (by decide)) (fun _ => ?_)
    refine lv_iload_n hx hb dX4_code_9 rfl (lv_at hl 2 rfl) ?_
    refine lv_if_lt (tgt := 17) hx hb dX4_code_10 (by decide) (fun c3 => ?_) (fun c3 => ?_)
    · refine lv_iconst (v := 1) hx hb dX4_code_17 (by decide) ?_
      refine m_callt (rest := []) K hP hS (c_X4_holds l Z am hinj h 1) ok_X4_87 rfl ⟨Nat.le_of_ble_eq_true rfl, Nat.le_of_ble_eq_true rfl⟩ rfl hl.1 (Nat.le_of_ble_eq_true rfl) ⟨Nat.le_of_ble_eq_true rfl, Nat.le_of_ble_eq_true rfl⟩ dX4_code_18 (by decide) (fun H locs hP hS => ?_)
      obtain ⟨h4, e4⟩ : ∃ z : St, z = (u2 h 0 3 1) := ⟨_, rfl⟩
      rw [← e4] at hP
      refine lv_if_eq (tgt := 26) hx hb dX4_code_21 (by decide) (fun c5 => absurd c5 (by decide)) (fun _ => ?_)
      refine lv_iconst (v := 0) hx hb dX4_code_24 (by decide) ?_
      exact fx_retz hx hb hr hlocks rfl hP hS (Nat.le_of_ble_eq_true rfl) (Nat.le_of_ble_eq_true rfl) dX4_code_25 ⟨rfl, e4⟩
    · exact absurd hbad (by rintro (z | z); exact isR_f hrc hr6 z c1; exact c3 z)
  · refine lv_if_eq (tgt := 17) hx hb dX4_code_6 (by decide) (fun _ => ?_) (fun c6 => absurd (by decide) c6)
    refine lv_iconst (v := 1) hx hb dX4_code_17 (by decide) ?_
    refine m_callt (rest := []) K hP hS (c_X4_holds l Z am hinj h 1) ok_X4_87 rfl ⟨Nat.le_of_ble_eq_true rfl, Nat.le_of_ble_eq_true rfl⟩ rfl hl.1 (Nat.le_of_ble_eq_true rfl) ⟨Nat.le_of_ble_eq_true rfl, Nat.le_of_ble_eq_true rfl⟩ dX4_code_18 (by decide) (fun H locs hP hS => ?_)
    obtain ⟨h7, e7⟩ : ∃ z : St, z = (u2 h 0 3 1) := ⟨_, rfl⟩
    rw [← e7] at hP
    refine lv_if_eq (tgt := 26) hx hb dX4_code_21 (by decide) (fun c8 => absurd c8 (by decide)) (fun _ => ?_)
    refine lv_iconst (v := 0) hx hb dX4_code_24 (by decide) ?_
    exact fx_retz hx hb hr hlocks rfl hP hS (Nat.le_of_ble_eq_true rfl) (Nat.le_of_ble_eq_true rfl) dX4_code_25 ⟨rfl, e7⟩

