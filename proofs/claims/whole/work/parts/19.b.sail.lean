/-! ===== both sides held together: what a sailing does, in one row a kind ===== -/
theorem cPy_at {g : St} (h : okT g) {t f : Nat} (ht : t < 10) (n : Nat) : (cPy g t f n).2 = 500 - gv g t f n ∧ ∀ k i, (cPy g t f n).1 k i = if k = 7 ∧ i < n ∧ sF g f i ∧ trv g i = t then 2 else if k = 9 ∧ i < n ∧ sF g f i ∧ trv g i = t then amt (g 5 i) (gv g t f i) else if k = 20 ∧ i = t then g 20 t + gv g t f n else g k i := by
  induction n with
  | zero =>
    refine ⟨(by decide : (500 : Int32) = 500 - 0), fun k i => ?_⟩
    show g k i = _
    rw [if_neg (by omega), if_neg (by omega)]
    by_cases c : k = 20 ∧ i = t
    · rw [if_pos c, c.1, c.2]; exact (Int32.add_zero _).symm
    · rw [if_neg c]
  | succ n ih =>
    obtain ⟨i1, i2⟩ := ih
    have e7 : (cPy g t f n).1 7 n = g 7 n := by rw [i2, if_neg (by omega), if_neg (by omega), if_neg (by omega)]
    have e8 : (cPy g t f n).1 8 n = g 8 n := by rw [i2, if_neg (by omega), if_neg (by omega), if_neg (by omega)]
    have e3 : (cPy g t f n).1 3 n = g 3 n := by rw [i2, if_neg (by omega), if_neg (by omega), if_neg (by omega)]
    have e5 : (cPy g t f n).1 5 n = g 5 n := by rw [i2, if_neg (by omega), if_neg (by omega), if_neg (by omega)]
    have e20 : (cPy g t f n).1 20 t = g 20 t + gv g t f n := by rw [i2, if_neg (by omega), if_neg (by omega), if_pos ⟨rfl, rfl⟩]
    have hst : stF (cPy g t f n).1 t f n ↔ (sF g f n ∧ trv g n = t) := by
      rw [← stF_iff h ht]
      show (_ = _ ∧ _ = _ ∧ _ = _) ↔ (_ = _ ∧ _ = _ ∧ _ = _)
      rw [e7, e8, e3]
    by_cases c : sF g f n ∧ trv g n = t
    · have em : mnR (cPy g t f n).1 (cPy g t f n).2 n = amt (g 5 n) (gv g t f n) := by
        unfold mnR
        rw [e5, i1]
        exact gv_amt h
      rw [cPy_t (hst.mpr c), gv_t c]
      refine ⟨?_, fun k i => ?_⟩
      · show (cPy g t f n).2 - mnR _ _ _ = _
        rw [em, i1, Int32.sub_eq_add_neg, Int32.sub_eq_add_neg, Int32.sub_eq_add_neg, Int32.neg_add, Int32.sub_eq_add_neg, Int32.add_assoc]
      · show payOne _ _ _ _ k i = _
        unfold payOne
        rw [em, e20, u2_at, u2_at, u2_at, i2 k i]
        have hlt : i ≠ n → (i < n + 1 ↔ i < n) := fun q => by omega
        by_cases k20 : k = 20
        · subst k20
          by_cases it : i = t
          · simp [it, Int32.add_assoc]
          · simp [it]
        · by_cases hi : i = n
          · subst hi
            by_cases k9 : k = 9
            · subst k9; simp [c]
            · by_cases k7 : k = 7
              · subst k7; simp [c]
              · simp [k20, k9, k7]
          · simp [k20, hi, hlt hi]
    · rw [cPy_f (fun q => c (hst.mp q)), gv_f c]
      refine ⟨i1, fun k i => ?_⟩
      rw [i2 k i]
      by_cases hi : i = n
      · subst hi
        simp [c]
      · simp [show i < n + 1 ↔ i < n by omega]
theorem cWs_at {g : St} (h : okT g) {t f : Nat} (ht : t < 10) (n : Nat) : ∀ k i, cWs g t f n k i = if i < n ∧ sF g f i ∧ trv g i = t then (if k = 10 then g 10 i + 1 else if k = 7 then (if g 10 i + 1 < 2 then 0 else 3) else if k = 8 then -1 else g k i) else g k i := by
  induction n with
  | zero =>
    intro k i
    rw [if_neg (by omega)]
    rfl
  | succ n i2 =>
    have e7 : cWs g t f n 7 n = g 7 n := by rw [i2, if_neg (by omega)]
    have e8 : cWs g t f n 8 n = g 8 n := by rw [i2, if_neg (by omega)]
    have e3 : cWs g t f n 3 n = g 3 n := by rw [i2, if_neg (by omega)]
    have e10 : cWs g t f n 10 n = g 10 n := by rw [i2, if_neg (by omega)]
    have hst : stF (cWs g t f n) t f n ↔ (sF g f n ∧ trv g n = t) := by
      rw [← stF_iff h ht]
      show (_ = _ ∧ _ = _ ∧ _ = _) ↔ (_ = _ ∧ _ = _ ∧ _ = _)
      rw [e7, e8, e3]
    intro k i
    by_cases c : sF g f n ∧ trv g n = t
    · rw [cWs_t (hst.mpr c)]
      unfold wstOne
      rw [e10, u2_at, u2_at, u2_at, i2 k i]
      by_cases hi : i = n
      · subst hi
        by_cases k8 : k = 8
        · subst k8; simp [c]
        · by_cases k7 : k = 7
          · subst k7; simp [c]
          · by_cases k10 : k = 10
            · subst k10; simp [c]
            · simp [k8, k7, k10]
      · simp [hi, show i < n + 1 ↔ i < n by omega]
    · rw [cWs_f (fun q => c (hst.mp q)), i2 k i]
      by_cases hi : i = n
      · subst hi
        simp [c]
      · simp [show i < n + 1 ↔ i < n by omega]
/-- the class's sailing, seen at the first n travellers -/
abbrev slR (g : St) (f rc i : Nat) : Prop := i < rc ∧ sF g f i
def slQ (g : St) (f rc n : Nat) (u : St) : Prop :=
  (∀ k i, k ≠ 7 → k ≠ 8 → k ≠ 9 → k ≠ 10 → k ≠ 16 → k ≠ 17 → k ≠ 18 → k ≠ 20 → k ≠ 30 + f → u k i = g k i) ∧
  (∀ i, u 7 i = if slR g f rc i ∧ trv g i < n then (if g (30 + f) (trv g i) = 2 then 2 else if g (30 + f) (trv g i) = 1 then (if g 10 i + 1 < 2 then 0 else 3) else g 7 i) else g 7 i) ∧
  (∀ i, u 8 i = if slR g f rc i ∧ trv g i < n ∧ g (30 + f) (trv g i) = 1 then -1 else g 8 i) ∧
  (∀ i, u 9 i = if slR g f rc i ∧ trv g i < n ∧ g (30 + f) (trv g i) = 2 then amt (g 5 i) (gv g (trv g i) f i) else g 9 i) ∧
  (∀ i, u 10 i = if slR g f rc i ∧ trv g i < n ∧ g (30 + f) (trv g i) = 1 then g 10 i + 1 else g 10 i) ∧
  (∀ i, u 16 i = if i < n ∧ g (30 + f) i = 2 then 1 else g 16 i) ∧
  (∀ i, u 17 i = if i < n ∧ g (30 + f) i = 2 then g 17 i + 1 else g 17 i) ∧
  (∀ i, u 18 i = if i < n ∧ g (30 + f) i = 1 then g 18 i + 1 else g 18 i) ∧
  (∀ i, u 20 i = if i < n ∧ g (30 + f) i = 2 then g 20 i + gv g i f rc else g 20 i) ∧
  (∀ i, u (30 + f) i = if i < n ∧ g (30 + f) i = 2 then 3 else g (30 + f) i)
theorem slQ_0 (g : St) (f rc : Nat) : slQ g f rc 0 g := by
  refine ⟨fun k i _ _ _ _ _ _ _ _ _ => rfl, ?_, ?_, ?_, ?_, ?_, ?_, ?_, ?_, ?_⟩ <;> intro i <;> rw [if_neg (by omega)]
theorem slQ_s {g u : St} (h : okT g) {f rc n : Nat} (hn : n < 10) (H : slQ g f rc n u) : slQ g f rc (n + 1) (slOne u f rc n) := by
  obtain ⟨a, a7, a8, a9, a10, a16, a17, a18, a20, aP⟩ := H
  have ePn : u (30 + f) n = g (30 + f) n := by rw [aP, if_neg (by omega)]
  have e3 : ∀ i, u 3 i = g 3 i := fun i => a 3 i (by omega) (by omega) (by omega) (by omega) (by omega) (by omega) (by omega) (by omega) (by omega)
  have e5 : ∀ i, u 5 i = g 5 i := fun i => a 5 i (by omega) (by omega) (by omega) (by omega) (by omega) (by omega) (by omega) (by omega) (by omega)
  have e17 : u 17 n = g 17 n := by rw [a17, if_neg (by omega)]
  have e18 : u 18 n = g 18 n := by rw [a18, if_neg (by omega)]
  have e20 : u 20 n = g 20 n := by rw [a20, if_neg (by omega)]
  have tlt : ∀ j : Nat, j ≠ n → (j < n + 1 ↔ j < n) := fun j q => by omega
  unfold slOne
  by_cases c2 : g (30 + f) n = 2
  · rw [if_pos (by rw [ePn]; exact c2)]
    generalize hw : u2 (u2 (u2 u (30 + f) n 3) 16 n 1) 17 n (u 17 n + 1) = w
    have wk : ∀ k i, k ≠ 30 + f → k ≠ 16 → k ≠ 17 → w k i = u k i := fun k i h1 h2 h3 => by rw [← hw, u2_off _ _ (by omega), u2_off _ _ (by omega), u2_off _ _ (by omega)]
    have wT : okT w := ⟨fun i => by rw [wk 3 i (by omega) (by omega) (by omega), e3]; exact h.1 i, fun i => by rw [wk 5 i (by omega) (by omega) (by omega), e5]; exact h.2 i⟩
    have wv : ∀ i, trv w i = trv g i := fun i => by unfold trv; rw [wk 3 i (by omega) (by omega) (by omega), e3]
    have key : ∀ i, (sF w f i ∧ trv w i = n) ↔ (sF g f i ∧ trv g i = n) := fun i => by
      rw [wv]
      show ((w 7 i = 1 ∧ w 8 i = nI f) ∧ _) ↔ _
      rw [wk 7 i (by omega) (by omega) (by omega), wk 8 i (by omega) (by omega) (by omega)]
      constructor
      · rintro ⟨q1, q2⟩
        rw [a7, if_neg (by omega), a8, if_neg (by omega)] at q1
        exact ⟨q1, q2⟩
      · rintro ⟨q1, q2⟩
        rw [a7, if_neg (by omega), a8, if_neg (by omega)]
        exact ⟨q1, q2⟩
    have w5 : ∀ i, w 5 i = g 5 i := fun i => by rw [wk 5 i (by omega) (by omega) (by omega), e5]
    have wg : ∀ m, gv w n f m = gv g n f m := fun m => gv_cong (fun j _ => key j) (fun j _ => w5 j)
    have w16 : ∀ i, w 16 i = if i = n then 1 else u 16 i := fun i => by
      rw [← hw, u2_off _ _ (by omega), u2_at, u2_off _ _ (by omega)]
      by_cases e : i = n <;> simp [e]
    have w17 : ∀ i, w 17 i = if i = n then g 17 n + 1 else u 17 i := fun i => by
      rw [← hw, u2_at, u2_off _ _ (by omega), u2_off _ _ (by omega), e17]
      by_cases e : i = n <;> simp [e]
    have wP : ∀ i, w (30 + f) i = if i = n then 3 else u (30 + f) i := fun i => by
      rw [← hw, u2_off _ _ (by omega), u2_off _ _ (by omega), u2_at]
      by_cases e : i = n <;> simp [e]
    have w20 : w 20 n = g 20 n := by rw [wk 20 n (by omega) (by omega) (by omega), e20]
    have F := (cPy_at wT (f := f) hn rc).2
    simp only [key, wg, w5, w20] at F
    have Fo : ∀ k i, k ≠ 7 → k ≠ 9 → k ≠ 20 → (cPy w n f rc).1 k i = w k i := fun k i h1 h2 h3 => by rw [F, if_neg (fun q => h1 q.1), if_neg (fun q => h2 q.1), if_neg (fun q => h3 q.1)]
    refine ⟨fun k i h1 h2 h3 h4 h5 h6 h7 h8 h9 => ?_, fun i => ?_, fun i => ?_, fun i => ?_, fun i => ?_, fun i => ?_, fun i => ?_, fun i => ?_, fun i => ?_, fun i => ?_⟩
    · rw [F, if_neg (by omega), if_neg (by omega), if_neg (by omega), wk k i h9 h5 h6]
      exact a k i h1 h2 h3 h4 h5 h6 h7 h8 h9
    · rw [F, wk 7 i (by omega) (by omega) (by omega), a7]
      by_cases e : trv g i = n
      · simp [e, c2, and_assoc]
      · simp [e, tlt _ e]
    · rw [F, wk 8 i (by omega) (by omega) (by omega), a8]
      by_cases e : trv g i = n
      · simp [e, c2]
      · simp [tlt _ e]
    · rw [F, wk 9 i (by omega) (by omega) (by omega), a9]
      by_cases e : trv g i = n
      · simp [e, c2, and_assoc]
      · simp [e, tlt _ e]
    · rw [F, wk 10 i (by omega) (by omega) (by omega), a10]
      by_cases e : trv g i = n
      · simp [e, c2]
      · simp [tlt _ e]
    · rw [Fo 16 i (by omega) (by omega) (by omega), w16, a16]
      by_cases e : i = n
      · simp [e, c2]
      · simp [e, tlt _ e]
    · rw [Fo 17 i (by omega) (by omega) (by omega), w17, a17]
      by_cases e : i = n
      · simp [e, c2]
      · simp [e, tlt _ e]
    · rw [F, wk 18 i (by omega) (by omega) (by omega), a18]
      by_cases e : i = n
      · simp [e, c2]
      · simp [tlt _ e]
    · rw [F, wk 20 i (by omega) (by omega) (by omega), a20]
      by_cases e : i = n
      · simp [e, c2]
      · simp [e, tlt _ e]
    · rw [Fo (30 + f) i (by omega) (by omega) (by omega), wP, aP]
      by_cases e : i = n
      · simp [e, c2]
      · simp [e, tlt _ e]
  · rw [if_neg (by rw [ePn]; exact c2)]
    by_cases c1 : g (30 + f) n = 1
    · rw [if_pos (by rw [ePn]; exact c1)]
      generalize hw : u2 u 18 n (u 18 n + 1) = w
      have wk : ∀ k i, k ≠ 18 → w k i = u k i := fun k i h1 => by rw [← hw, u2_off _ _ (by omega)]
      have wT : okT w := ⟨fun i => by rw [wk 3 i (by omega), e3]; exact h.1 i, fun i => by rw [wk 5 i (by omega), e5]; exact h.2 i⟩
      have wv : ∀ i, trv w i = trv g i := fun i => by unfold trv; rw [wk 3 i (by omega), e3]
      have key : ∀ i, (sF w f i ∧ trv w i = n) ↔ (sF g f i ∧ trv g i = n) := fun i => by
        rw [wv]
        show ((w 7 i = 1 ∧ w 8 i = nI f) ∧ _) ↔ _
        rw [wk 7 i (by omega), wk 8 i (by omega)]
        constructor
        · rintro ⟨q1, q2⟩
          rw [a7, if_neg (by omega), a8, if_neg (by omega)] at q1
          exact ⟨q1, q2⟩
        · rintro ⟨q1, q2⟩
          rw [a7, if_neg (by omega), a8, if_neg (by omega)]
          exact ⟨q1, q2⟩
      have w18 : ∀ i, w 18 i = if i = n then g 18 n + 1 else u 18 i := fun i => by
        rw [← hw, u2_at, e18]
        by_cases e : i = n <;> simp [e]
      have F := cWs_at wT (f := f) hn rc
      simp only [key] at F
      have Fo : ∀ k i, k ≠ 7 → k ≠ 8 → k ≠ 10 → cWs w n f rc k i = w k i := fun k i h1 h2 h3 => by rw [F, if_neg h3, if_neg h1, if_neg h2, ite_self]
      refine ⟨fun k i h1 h2 h3 h4 h5 h6 h7 h8 h9 => ?_, fun i => ?_, fun i => ?_, fun i => ?_, fun i => ?_, fun i => ?_, fun i => ?_, fun i => ?_, fun i => ?_, fun i => ?_⟩
      · rw [F, if_neg h4, if_neg h1, if_neg h2, ite_self, wk k i h7]
        exact a k i h1 h2 h3 h4 h5 h6 h7 h8 h9
      · rw [F, wk 7 i (by omega), wk 10 i (by omega), a7, a10]
        by_cases e : trv g i = n
        · simp [e, c1, and_assoc]
        · simp [e, tlt _ e]
      · rw [F, wk 8 i (by omega), a8]
        by_cases e : trv g i = n
        · simp [e, c1, and_assoc]
        · simp [e, tlt _ e]
      · rw [F, wk 9 i (by omega), a9]
        by_cases e : trv g i = n
        · simp [e, c1]
        · simp [e, tlt _ e]
      · rw [F, wk 10 i (by omega), a10]
        by_cases e : trv g i = n
        · simp [e, c1, and_assoc]
        · simp [e, tlt _ e]
      · rw [F, wk 16 i (by omega), a16]
        by_cases e : i = n
        · simp [e, c1]
        · simp [tlt _ e]
      · rw [F, wk 17 i (by omega), a17]
        by_cases e : i = n
        · simp [e, c1]
        · simp [tlt _ e]
      · rw [Fo 18 i (by omega) (by omega) (by omega), w18, a18]
        by_cases e : i = n
        · simp [e, c1]
        · simp [e, tlt _ e]
      · rw [F, wk 20 i (by omega), a20]
        by_cases e : i = n
        · simp [e, c1]
        · simp [tlt _ e]
      · rw [Fo (30 + f) i (by omega) (by omega) (by omega), wk (30 + f) i (by omega), aP]
        by_cases e : i = n
        · simp [e, c1]
        · simp [tlt _ e]
    · rw [if_neg (by rw [ePn]; exact c1)]
      refine ⟨a, fun i => ?_, fun i => ?_, fun i => ?_, fun i => ?_, fun i => ?_, fun i => ?_, fun i => ?_, fun i => ?_, fun i => ?_⟩
      · rw [a7]
        by_cases e : trv g i = n
        · simp [e, c1, c2]
        · simp [tlt _ e]
      · rw [a8]
        by_cases e : trv g i = n
        · simp [e, c1]
        · simp [tlt _ e]
      · rw [a9]
        by_cases e : trv g i = n
        · simp [e, c2]
        · simp [tlt _ e]
      · rw [a10]
        by_cases e : trv g i = n
        · simp [e, c1]
        · simp [tlt _ e]
      · rw [a16]
        by_cases e : i = n
        · simp [e, c2]
        · simp [tlt _ e]
      · rw [a17]
        by_cases e : i = n
        · simp [e, c2]
        · simp [tlt _ e]
      · rw [a18]
        by_cases e : i = n
        · simp [e, c1]
        · simp [tlt _ e]
      · rw [a20]
        by_cases e : i = n
        · simp [e, c2]
        · simp [tlt _ e]
      · rw [aP]
        by_cases e : i = n
        · simp [e, c2]
        · simp [tlt _ e]
theorem slQ_n {g : St} (h : okT g) {f rc : Nat} : ∀ n, n ≤ 10 → slQ g f rc n (cSl g f rc n) := by
  intro n
  induction n with
  | zero => exact fun _ => slQ_0 g f rc
  | succ n ih => exact fun hn => slQ_s h (by omega) (ih (by omega))
/-- the model's sailing, seen at the first n receipts -/
def mQ (h : St) (f n : Nat) (u : St) : Prop :=
  (∀ k i, k ≠ 7 → k ≠ 8 → k ≠ 9 → k ≠ 10 → k ≠ 20 → k ≠ 21 → u k i = cT1 h f 10 k i) ∧
  (∀ i, u 7 i = if slR h f n i then (if h 15 (trv h i) = nI f then 2 else if h 10 i + 1 = 2 then 3 else 0) else h 7 i) ∧
  (∀ i, u 8 i = if slR h f n i ∧ ¬ h 15 (trv h i) = nI f then -1 else h 8 i) ∧
  (∀ i, u 9 i = if slR h f n i ∧ h 15 (trv h i) = nI f then amt (h 5 i) (gv h (trv h i) f i) else h 9 i) ∧
  (∀ i, u 10 i = if slR h f n i ∧ ¬ h 15 (trv h i) = nI f then h 10 i + 1 else h 10 i) ∧
  (∀ i, u 20 i = if i < 10 ∧ h 15 i = nI f then h 20 i + gv h i f n else h 20 i) ∧
  (∀ i, i < 10 → u 21 i = if h 15 i = nI f then gv h i f n else 0)
theorem mQ_0 (h : St) (f : Nat) : mQ h f 0 (cT1 h f 10) := by
  have e : ∀ {k i : Nat}, k < 15 ∨ k = 19 ∨ k = 20 → cT1 h f 10 k i = h k i := fun hk => by rw [cT1_k hk]
  refine ⟨fun k i _ _ _ _ _ _ => rfl, fun i => ?_, fun i => ?_, fun i => ?_, fun i => ?_, fun i => ?_, fun i hi => ?_⟩
  · rw [e (by omega), if_neg (by omega)]
  · rw [e (by omega), if_neg (by omega)]
  · rw [e (by omega), if_neg (by omega)]
  · rw [e (by omega), if_neg (by omega)]
  · rw [e (by omega)]
    by_cases c : i < 10 ∧ h 15 i = nI f
    · rw [if_pos c]; exact (Int32.add_zero _).symm
    · rw [if_neg c]
  · show cT1 h f 10 21 i = _
    unfold cT1
    rw [if_pos hi, if_pos rfl]
    by_cases c : h 15 i = nI f
    · rw [if_pos c]; rfl
    · rw [if_neg c]
theorem mQ_s {h : St} (hT : okT h) {f n : Nat} (H : mQ h f n (mT2 (cT1 h f 10) f (mL h f 10) n)) : mQ h f (n + 1) (mT2 (cT1 h f 10) f (mL h f 10) (n + 1)) := by
  generalize hu : mT2 (cT1 h f 10) f (mL h f 10) n = u at H
  obtain ⟨a, a7, a8, a9, a10, a20, a21⟩ := H
  have e : ∀ {k i : Nat}, k < 15 ∨ k = 19 ∨ k = 20 → cT1 h f 10 k i = h k i := fun hk => by rw [cT1_k hk]
  have e3 : u 3 n = h 3 n := by rw [a 3 n (by omega) (by omega) (by omega) (by omega) (by omega) (by omega), e (by omega)]
  have e5 : u 5 n = h 5 n := by rw [a 5 n (by omega) (by omega) (by omega) (by omega) (by omega) (by omega), e (by omega)]
  have e7 : u 7 n = h 7 n := by rw [a7, if_neg (by omega)]
  have e8 : u 8 n = h 8 n := by rw [a8, if_neg (by omega)]
  have e10 : u 10 n = h 10 n := by rw [a10, if_neg (by omega)]
  obtain ⟨ht, h3⟩ := okT_t hT n
  have tlt : ∀ j : Nat, j ≠ n → (slR h f (n + 1) j ↔ slR h f n j) := fun j q => ⟨fun w => ⟨by omega, w.2⟩, fun w => ⟨by omega, w.2⟩⟩
  have sl0 : ¬ slR h f n n := fun w => absurd w.1 (Nat.lt_irrefl n)
  have sl1 : slR h f (n + 1) n ↔ sF h f n := ⟨fun w => w.2, fun w => ⟨by omega, w⟩⟩
  have hbit : ((mL h f 10 >>> (nI (trv h n) &&& 31)) &&& 1 = 1) ↔ h 15 (trv h n) = nI f := by
    rw [bit_iff (by omega), mL_iff (by omega) (by omega)]
    exact ⟨fun q => q.2, fun q => ⟨ht, q⟩⟩
  by_cases c : sF h f n
  · have c7 : mT2 (cT1 h f 10) f (mL h f 10) n 7 n = 1 := by rw [hu, e7]; exact c.1
    have c8 : mT2 (cT1 h f 10) f (mL h f 10) n 8 n = nI f := by rw [hu, e8]; exact c.2
    have c3 : mT2 (cT1 h f 10) f (mL h f 10) n 3 n = nI (trv h n) := by rw [hu, e3]; exact h3
    by_cases cb : h 15 (trv h n) = nI f
    · rw [← mT2_p c7 c8 c3 ht (hbit.mpr cb), hu]
      have eA : itsV u n (trv h n) = amt (h 5 n) (gv h (trv h n) f n) := by
        unfold itsV amt
        rw [a21 _ ht, if_pos cb, e5]
      have e20 : u 20 (trv h n) = h 20 (trv h n) + gv h (trv h n) f n := by rw [a20, if_pos ⟨ht, cb⟩]
      have e21 : u 21 (trv h n) = gv h (trv h n) f n := by rw [a21 _ ht, if_pos cb]
      have gs : ∀ i, gv h i f (n + 1) = if i = trv h n then gv h i f n + amt (h 5 n) (gv h i f n) else gv h i f n := fun i => by
        by_cases q : i = trv h n
        · rw [if_pos q, gv_t ⟨c, q.symm⟩]
        · rw [if_neg q, gv_f (fun q2 => q q2.2.symm)]
      unfold payS
      rw [eA, e20, e21]
      generalize hA : amt (h 5 n) (gv h (trv h n) f n) = A
      refine ⟨fun k i h1 h2 h3 h4 h5 h6 => ?_, fun i => ?_, fun i => ?_, fun i => ?_, fun i => ?_, fun i => ?_, fun i hi => ?_⟩
      · rw [u2_off _ _ (by omega), u2_off _ _ (by omega), u2_off _ _ (by omega), u2_off _ _ (by omega)]
        exact a k i h1 h2 h3 h4 h5 h6
      · rw [u2_at, u2_off _ _ (by omega), u2_off _ _ (by omega), u2_off _ _ (by omega), a7]
        by_cases q : i = n
        · subst q; simp [sl0, sl1, c, cb]
        · simp [q, tlt _ q]
      · rw [u2_off _ _ (by omega), u2_off _ _ (by omega), u2_off _ _ (by omega), u2_off _ _ (by omega), a8]
        by_cases q : i = n
        · subst q; simp [sl0, sl1, c, cb]
        · simp [tlt _ q]
      · rw [u2_off _ _ (by omega), u2_at, u2_off _ _ (by omega), u2_off _ _ (by omega), a9]
        by_cases q : i = n
        · subst q; simp [sl0, sl1, c, cb, hA]
        · simp [q, tlt _ q]
      · rw [u2_off _ _ (by omega), u2_off _ _ (by omega), u2_off _ _ (by omega), u2_off _ _ (by omega), a10]
        by_cases q : i = n
        · subst q; simp [sl0, sl1, c, cb]
        · simp [tlt _ q]
      · rw [u2_off _ _ (by omega), u2_off _ _ (by omega), u2_at, u2_off _ _ (by omega), a20, gs]
        by_cases q : i = trv h n
        · subst q; simp [ht, cb, hA, Int32.add_assoc]
        · simp [q]
      · rw [u2_off _ _ (by omega), u2_off _ _ (by omega), u2_off _ _ (by omega), u2_at, a21 i hi, gs]
        by_cases q : i = trv h n
        · subst q; simp [cb, hA]
        · simp [q]
    · rw [← mT2_f c7 c8 c3 ht (fun q => cb (hbit.mp q)), hu]
      have gs : ∀ i, h 15 i = nI f → gv h i f (n + 1) = gv h i f n := fun i q => gv_f (fun q2 => cb (by rw [q2.2]; exact q))
      unfold failS
      rw [e10]
      refine ⟨fun k i h1 h2 h3 h4 h5 h6 => ?_, fun i => ?_, fun i => ?_, fun i => ?_, fun i => ?_, fun i => ?_, fun i hi => ?_⟩
      · rw [u2_off _ _ (by omega), u2_off _ _ (by omega), u2_off _ _ (by omega)]
        exact a k i h1 h2 h3 h4 h5 h6
      · rw [u2_off _ _ (by omega), u2_at, u2_off _ _ (by omega), a7]
        by_cases q : i = n
        · subst q; simp [sl0, sl1, c, cb]
        · simp [q, tlt _ q]
      · rw [u2_at, u2_off _ _ (by omega), u2_off _ _ (by omega), a8]
        by_cases q : i = n
        · subst q; simp [sl0, sl1, c, cb]
        · simp [q, tlt _ q]
      · rw [u2_off _ _ (by omega), u2_off _ _ (by omega), u2_off _ _ (by omega), a9]
        by_cases q : i = n
        · subst q; simp [sl0, sl1, c, cb]
        · simp [tlt _ q]
      · rw [u2_off _ _ (by omega), u2_off _ _ (by omega), u2_at, a10]
        by_cases q : i = n
        · subst q; simp [sl0, sl1, c, cb]
        · simp [q, tlt _ q]
      · rw [u2_off _ _ (by omega), u2_off _ _ (by omega), u2_off _ _ (by omega), a20]
        by_cases q : h 15 i = nI f
        · rw [gs i q]
        · simp [q]
      · rw [u2_off _ _ (by omega), u2_off _ _ (by omega), u2_off _ _ (by omega), a21 i hi]
        by_cases q : h 15 i = nI f
        · rw [gs i q]
        · simp [q]
  · have c9 : ¬ (mT2 (cT1 h f 10) f (mL h f 10) n 7 n = 1 ∧ mT2 (cT1 h f 10) f (mL h f 10) n 8 n = nI f) := by
      rw [hu, e7, e8]
      exact c
    rw [← mT2_n c9, hu]
    have gs : ∀ i, gv h i f (n + 1) = gv h i f n := fun i => gv_f (fun q2 => c q2.1)
    refine ⟨a, fun i => ?_, fun i => ?_, fun i => ?_, fun i => ?_, fun i => ?_, fun i hi => ?_⟩
    · rw [a7]
      by_cases q : i = n
      · subst q; simp [sl0, sl1, c]
      · simp [tlt _ q]
    · rw [a8]
      by_cases q : i = n
      · subst q; simp [sl0, sl1, c]
      · simp [tlt _ q]
    · rw [a9]
      by_cases q : i = n
      · subst q; simp [sl0, sl1, c]
      · simp [tlt _ q]
    · rw [a10]
      by_cases q : i = n
      · subst q; simp [sl0, sl1, c]
      · simp [tlt _ q]
    · rw [a20, gs]
    · rw [a21 i hi, gs]
theorem mQ_n {h : St} (hT : okT h) {f : Nat} : ∀ n, mQ h f n (mT2 (cT1 h f 10) f (mL h f 10) n) := by
  intro n
  induction n with
  | zero => exact mQ_0 h f
  | succ n ih => exact mQ_s hT ih
