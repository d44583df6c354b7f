/-! ===== both sides held together: bits, small numbers (the first rows on bits began as rows of kit/laws) ===== -/
def bt (x : Int32) (i : Nat) : Bool := x.toBitVec.getLsbD i
theorem b_ext {x y : Int32} (h : ∀ i, i < 32 → bt x i = bt y i) : x = y := Int32.toBitVec_inj.mp (BitVec.eq_of_getLsbD_eq (fun i hi => h i hi))
theorem b_or (x y : Int32) (i : Nat) : bt (x ||| y) i = (bt x i || bt y i) := by unfold bt; rw [Int32.toBitVec_or, BitVec.getLsbD_or]
theorem b_and (x y : Int32) (i : Nat) : bt (x &&& y) i = (bt x i && bt y i) := by unfold bt; rw [Int32.toBitVec_and, BitVec.getLsbD_and]
theorem b_xor (x y : Int32) (i : Nat) : bt (x ^^^ y) i = (bt x i ^^ bt y i) := by unfold bt; rw [Int32.toBitVec_xor, BitVec.getLsbD_xor]
theorem b_m1 : ∀ i, i < 32 → bt (-1) i = true := by decide +kernel
theorem b_0 (i : Nat) : bt 0 i = false := BitVec.getLsbD_zero
theorem b_1 : ∀ i, i < 32 → bt 1 i = decide (i = 0) := by decide +kernel
theorem s_l : ∀ n, n < 32 → ((nI n &&& 31).toBitVec.smod 32).toNat = n := by decide +kernel
theorem b_shl (n : Nat) (hn : n < 32) (x : Int32) {i : Nat} (hi : i < 32) : bt (x <<< (nI n &&& 31)) i = (decide (n ≤ i) && bt x (i - n)) := by
  unfold bt
  rw [Int32.toBitVec_shiftLeft]
  show (x.toBitVec <<< ((nI n &&& 31).toBitVec.smod 32).toNat).getLsbD i = _
  rw [s_l n hn, BitVec.getLsbD_shiftLeft]
  rcases Nat.lt_or_ge i n with h | h
  · simp [h, Nat.not_le.mpr h]
  · simp [hi, h, Nat.not_lt.mpr h]
theorem b_sshr (n : Nat) (hn : n < 32) (x : Int32) {i : Nat} (hi : i < 32) : bt (x >>> (nI n &&& 31)) i = if n + i < 32 then bt x (n + i) else bt x 31 := by
  unfold bt
  rw [Int32.toBitVec_shiftRight]
  show (x.toBitVec.sshiftRight ((nI n &&& 31).toBitVec.smod 32).toNat).getLsbD i = _
  rw [s_l n hn, BitVec.getLsbD_sshiftRight, BitVec.msb_eq_getLsbD_last]
  simp [hi]
theorem bit_iff {x : Int32} {t : Nat} (ht : t < 32) : ((x >>> (nI t &&& 31)) &&& 1 = 1) ↔ bt x t = true := by
  have h0 : bt (x >>> (nI t &&& 31)) 0 = bt x t := by
    rw [b_sshr t ht x (by decide), Nat.add_zero, if_pos ht]
  constructor
  · intro h
    have h1 : bt ((x >>> (nI t &&& 31)) &&& 1) 0 = bt 1 0 := by rw [h]
    rw [b_and, b_1 0 (by decide), h0] at h1
    simpa using h1
  · intro h
    refine b_ext (fun i hi => ?_)
    rw [b_and, b_1 i hi]
    by_cases i0 : i = 0
    · subst i0; rw [h0, h]; rfl
    · simp [i0]
theorem b_one {t i : Nat} (ht : t < 32) (hi : i < 32) : bt (1 <<< (nI t &&& 31)) i = decide (i = t) := by
  rw [b_shl t ht 1 hi, b_1 (i - t) (by omega)]
  by_cases h : t ≤ i <;> by_cases e : i = t <;> simp [h, e] <;> omega
theorem bit_on {x : Int32} {t i : Nat} (ht : t < 32) (hi : i < 32) : bt (x ||| (1 <<< (nI t &&& 31))) i = (bt x i || decide (i = t)) := by rw [b_or, b_one ht hi]
theorem bit_off {x : Int32} {t i : Nat} (ht : t < 32) (hi : i < 32) : bt (x &&& ((1 <<< (nI t &&& 31)) ^^^ (-1))) i = (bt x i && !decide (i = t)) := by
  rw [b_and, b_xor, b_one ht hi, b_m1 i hi]
  simp
theorem mS_iff {h : St} {f t : Nat} (ht : t < 32) : mS h f t ↔ bt (h 13 f) t = true := bit_iff ht
theorem mL_iff {h : St} {f n t : Nat} (hn : n ≤ 31) (ht : t < 32) : bt (mL h f n) t = true ↔ (t < n ∧ h 15 t = nI f) := by
  induction n with
  | zero =>
    show bt 0 t = true ↔ _
    rw [b_0]
    simp
  | succ n ih =>
    by_cases c : h 15 n = nI f
    · rw [← mL_t c, bit_on (by omega) ht, Bool.or_eq_true, ih (by omega), decide_eq_true_iff]
      constructor
      · rintro (⟨h1, h2⟩ | rfl)
        · exact ⟨by omega, h2⟩
        · exact ⟨by omega, c⟩
      · rintro ⟨h1, h2⟩
        by_cases e : t = n
        · exact Or.inr e
        · exact Or.inl ⟨by omega, h2⟩
    · rw [mL_f c, ih (by omega)]
      constructor
      · rintro ⟨h1, h2⟩; exact ⟨by omega, h2⟩
      · rintro ⟨h1, h2⟩
        refine ⟨?_, h2⟩
        have : t ≠ n := fun e => c (by rw [← e]; exact h2)
        omega
/-! numbers -/
theorem nI_m1 {n : Nat} (hn : n < 2 ^ 31) : nI n ≠ -1 := fun h => by
  have h1 := nI_pos' hn
  rw [h] at h1
  exact absurd h1 (by decide)
theorem nI_inj {a b : Nat} (ha : a < 2 ^ 31) (hb : b < 2 ^ 31) (h : nI a = nI b) : a = b := (nI_eq ha hb).mp h
theorem ixc (x : Int32) (n : Nat) : (∃ j, j < n ∧ x = nI j) ∨ bad x n := by
  by_cases h : ∃ j, j < n ∧ x = nI j
  · exact Or.inl h
  · exact Or.inr fun j hj e => h ⟨j, hj, e⟩
def itsN (x : Nat) : Nat := x - (x + 9) / 10
theorem its0_n {x : Nat} (hx : x ≤ 5000) : its0 (nI x) = nI (itsN x) := by
  unfold its0 itsN
  rw [show (9 : Int32) = nI 9 from rfl, nI_add, show (10 : Int32) = nI 10 from rfl, pk_div (by omega) (by decide) (by decide), pk_sub (by omega)]
theorem itsN_le {x : Nat} (hx : x ≤ 5000) : itsN x ≤ 4500 := by unfold itsN; omega
/-- what is paid of a tax, v being paid already in that sailing -/
def amt (x v : Int32) : Int32 := if 500 < v + its0 x then 500 - v else its0 x
theorem amt_n {x w : Nat} (hx : x ≤ 5000) (hw : w ≤ 500) : amt (nI x) (nI w) = nI (min 500 (w + itsN x) - w) := by
  have h1 := itsN_le hx
  unfold amt
  rw [its0_n hx, nI_add, show (500 : Int32) = nI 500 from rfl]
  have k : nI 500 < nI (w + itsN x) ↔ 500 < w + itsN x := nI_ltI (by omega) (by omega)
  by_cases c : 500 < w + itsN x
  · rw [if_pos (k.mpr c), pk_sub hw, Nat.min_eq_left (by omega)]
  · rw [if_neg (fun q => c (k.mp q)), Nat.min_eq_right (by omega)]
    congr 1
    omega
theorem amt_room {x w : Nat} (hx : x ≤ 5000) (hw : w ≤ 500) : (if 500 - nI w < its0 (nI x) then 500 - nI w else its0 (nI x)) = amt (nI x) (nI w) := by
  have h1 := itsN_le hx
  unfold amt
  rw [its0_n hx, nI_add, show (500 : Int32) = nI 500 from rfl, pk_sub hw]
  have k : nI 500 < nI (w + itsN x) ↔ 500 < w + itsN x := nI_ltI (by omega) (by omega)
  have k2 : nI (500 - w) < nI (itsN x) ↔ 500 - w < itsN x := nI_ltI (by omega) (by omega)
  by_cases c : 500 < w + itsN x
  · rw [if_pos (k.mpr c), if_pos (k2.mpr (by omega))]
  · rw [if_neg (fun q => c (k.mp q)), if_neg (fun q => absurd (k2.mp q) (by omega))]
/-- a receipt's traveller, its tax -/
def trv (g : St) (i : Nat) : Nat := (g 3 i).toNatClampNeg
def txv (g : St) (i : Nat) : Nat := (g 5 i).toNatClampNeg
/-- rows hold travellers and taxes in their bounds -/
def okT (g : St) : Prop := (∀ i, ∃ t, t < 10 ∧ g 3 i = nI t) ∧ ∀ i, ∃ x, x ≤ 5000 ∧ g 5 i = nI x
theorem okT_t {g : St} (h : okT g) (i : Nat) : trv g i < 10 ∧ g 3 i = nI (trv g i) := by
  obtain ⟨t, h1, h2⟩ := h.1 i
  unfold trv
  rw [h2, nI_clamp (by omega)]
  exact ⟨h1, rfl⟩
theorem okT_x {g : St} (h : okT g) (i : Nat) : txv g i ≤ 5000 ∧ g 5 i = nI (txv g i) := by
  obtain ⟨t, h1, h2⟩ := h.2 i
  unfold txv
  rw [h2, nI_clamp (by omega)]
  exact ⟨h1, rfl⟩
theorem trv_iff {g : St} (h : okT g) {i t : Nat} (ht : t < 10) : g 3 i = nI t ↔ trv g i = t := by
  obtain ⟨h1, h2⟩ := okT_t h i
  constructor
  · intro e; rw [h2] at e; exact nI_inj (by omega) (by omega) e
  · intro e; rw [h2, e]
/-- stamped for a ferry -/
abbrev sF (g : St) (f i : Nat) : Prop := g 7 i = 1 ∧ g 8 i = nI f
theorem stF_iff {g : St} (h : okT g) {f i t : Nat} (ht : t < 10) : stF g t f i ↔ (sF g f i ∧ trv g i = t) := by
  show (g 7 i = 1 ∧ g 8 i = nI f ∧ g 3 i = nI t) ↔ _
  rw [trv_iff h ht]
  exact ⟨fun ⟨a, b, c⟩ => ⟨⟨a, b⟩, c⟩, fun ⟨⟨a, b⟩, c⟩ => ⟨a, b, c⟩⟩
/-- paid to a traveller in a sailing, for the first receipts -/
def gv (g : St) (t f : Nat) : Nat → Int32
  | 0 => 0
  | n + 1 => gv g t f n + (if sF g f n ∧ trv g n = t then amt (g 5 n) (gv g t f n) else 0)
def sumN (g : St) (t f : Nat) : Nat → Nat
  | 0 => 0
  | n + 1 => sumN g t f n + (if sF g f n ∧ trv g n = t then itsN (txv g n) else 0)
theorem gv_sum {g : St} (h : okT g) {t f n : Nat} : gv g t f n = nI (min 500 (sumN g t f n)) := by
  induction n with
  | zero => rfl
  | succ n ih =>
    obtain ⟨h1, h2⟩ := okT_x h n
    unfold gv sumN
    by_cases c : sF g f n ∧ trv g n = t
    · rw [if_pos c, if_pos c, ih, h2, amt_n h1 (by omega), nI_add]
      congr 1
      omega
    · rw [if_neg c, if_neg c, ih, Nat.add_zero, Int32.add_zero]
theorem gv_t {g : St} {t f n : Nat} (c : sF g f n ∧ trv g n = t) : gv g t f (n + 1) = gv g t f n + amt (g 5 n) (gv g t f n) := by
  show gv g t f n + _ = _
  rw [if_pos c]
theorem gv_f {g : St} {t f n : Nat} (c : ¬ (sF g f n ∧ trv g n = t)) : gv g t f (n + 1) = gv g t f n := by
  show gv g t f n + _ = _
  rw [if_neg c, Int32.add_zero]
theorem gv_amt {g : St} (h : okT g) {t f n : Nat} : (if 500 - gv g t f n < its0 (g 5 n) then 500 - gv g t f n else its0 (g 5 n)) = amt (g 5 n) (gv g t f n) := by
  obtain ⟨h1, h2⟩ := okT_x h n
  rw [gv_sum h, h2]
  exact amt_room h1 (by omega)
theorem gv_cong {g u : St} {t f n : Nat} (h : ∀ j, j < n → ((sF u f j ∧ trv u j = t) ↔ (sF g f j ∧ trv g j = t))) (h5 : ∀ j, j < n → u 5 j = g 5 j) : gv u t f n = gv g t f n := by
  induction n with
  | zero => rfl
  | succ n ih =>
    have e := ih (fun j hj => h j (by omega)) (fun j hj => h5 j (by omega))
    by_cases c : sF g f n ∧ trv g n = t
    · rw [gv_t c, gv_t ((h n (by omega)).mpr c), e, h5 n (by omega)]
    · rw [gv_f c, gv_f (fun q => c ((h n (by omega)).mp q)), e]
