/-! ===== both sides held together: what stays true, and a sailing ===== -/
/-- both sides have the same in the kinds that both have -/
def rE (g h : St) : Prop := ∀ k, ((1 ≤ k ∧ k ≤ 12) ∨ (16 ≤ k ∧ k ≤ 20)) → g k = h k
/-- counts and the hour -/
def rC (g h : St) (rc fc hr : Nat) : Prop := g 0 0 = nI rc ∧ h 0 0 = nI rc ∧ rc ≤ 60 ∧ g 0 1 = nI fc ∧ h 0 1 = nI fc ∧ fc ≤ 20 ∧ g 0 2 = nI hr ∧ h 0 2 = nI hr ∧ hr ≤ 10000
def rB (g : St) : Prop := okT g ∧ (∀ k, ∃ q, q ≤ 50 ∧ g 1 k = nI q) ∧ ∀ t, g 16 t = 0 ∨ g 16 t = 1
/-- a traveller's place at a ferry, held against the model's bits -/
def rP (g h : St) (f t : Nat) : Prop :=
  (h 14 f = 0 → (g (30 + f) t = 0 ∨ g (30 + f) t = 1 ∨ g (30 + f) t = 2) ∧ (bt (h 13 f) t = true ↔ g (30 + f) t ≠ 0)) ∧
  (h 14 f = 1 → g (30 + f) t = 0 ∨ g (30 + f) t = 1 ∨ g (30 + f) t = 3) ∧ (h 15 t = nI f ↔ g (30 + f) t = 2)
def rF (g h : St) (fc : Nat) : Prop := ∀ f, f < fc →
  (∃ s, s ≤ 10 ∧ g 12 f = nI s ∧ 10 ≤ s + pwN g f 0 10) ∧ (∃ a, 1 ≤ a ∧ a ≤ 10000 ∧ g 11 f = nI a) ∧ (h 14 f = 0 ∨ h 14 f = 1) ∧ ∀ t, t < 10 → rP g h f t
def rN (g h : St) (fc : Nat) : Prop := ∀ f, fc ≤ f → f < 20 → h 13 f = 0 ∧ h 14 f = 0 ∧ ∀ t, g (30 + f) t = 0
def rA (h : St) (fc : Nat) : Prop := ∀ t, t < 10 → h 15 t = -1 ∨ ∃ f, f < fc ∧ h 15 t = nI f
/-- a receipt's state and stamp -/
def rO (g h : St) (fc i : Nat) : Prop :=
  (g 7 i = 0 ∧ g 8 i = -1 ∧ (g 10 i = 0 ∨ g 10 i = 1)) ∨
  (g 7 i = 1 ∧ (g 10 i = 0 ∨ g 10 i = 1) ∧ ∃ f, f < fc ∧ g 8 i = nI f ∧ h 14 f = 0 ∧ g (30 + f) (trv g i) ≠ 0) ∨
  (g 7 i = 2 ∧ ∃ f, f < fc ∧ g 8 i = nI f ∧ h 14 f = 1) ∨
  ((g 7 i = 3 ∨ g 7 i = 4) ∧ g 8 i = -1)
def rR (g h : St) (rc fc : Nat) : Prop := (∀ i, rc ≤ i → g 7 i = 0 ∧ g 10 i = 0) ∧ ∀ i, i < rc → rO g h fc i
def rS (g : St) (rc fc : Nat) : Prop := ∀ t, t < 10 → g 20 t = rfA g t rc fc
/-- which ferries have sailed: in this hour those below j -/
def rT (g h : St) (fc hr j : Nat) : Prop := ∀ f, f < fc → ∀ a, a ≤ 10000 → g 11 f = nI a → (h 14 f = 1 ↔ (a < hr ∨ (a = hr ∧ f < j)))
def RC (g h : St) (rc fc hr : Nat) : Prop := rE g h ∧ rC g h rc fc hr ∧ rB g ∧ rF g h fc ∧ rN g h fc ∧ rA h fc ∧ rR g h rc fc ∧ rS g rc fc
def Rel (g h : St) : Prop := ∃ rc fc hr, RC g h rc fc hr ∧ rT g h fc hr fc
theorem i32_arc (a b c : Int32) : a + b + c = a + c + b := by rw [Int32.add_assoc, Int32.add_comm b c, ← Int32.add_assoc]
theorem pw_eq {g G : St} {f f' : Nat} {x : Int32} {n : Nat} (h : ∀ t, t < n → (G (30 + f') t = x ↔ g (30 + f) t = x)) : pwN G f' x n = pwN g f x n := by
  induction n with
  | zero => rfl
  | succ n ih =>
    unfold pwN
    rw [ih (fun t ht => h t (by omega))]
    by_cases c : g (30 + f) n = x
    · rw [if_pos c, if_pos ((h n (by omega)).mpr c)]
    · rw [if_neg c, if_neg (fun q => c ((h n (by omega)).mp q))]
theorem sumN_le {g : St} (h : okT g) {t f n : Nat} : sumN g t f n ≤ 4500 * n := by
  induction n with
  | zero => exact Nat.zero_le _
  | succ n ih =>
    unfold sumN
    have := itsN_le (okT_x h n).1
    split <;> omega
theorem m500_n {S : Nat} (h : S < 2 ^ 31) : m500 (nI S) = nI (min 500 S) := by
  unfold m500
  have k : (500 : Int32) < nI S ↔ 500 < S := nI_ltI (a := 500) (by omega) h
  by_cases c : 500 < S
  · rw [if_pos (k.mpr c), Nat.min_eq_left (by omega)]; rfl
  · rw [if_neg (fun q => c (k.mp q)), Nat.min_eq_right (by omega)]
theorem okT_E {g h : St} (E : rE g h) (hT : okT g) : okT h := by
  refine ⟨fun i => ?_, fun i => ?_⟩
  · rw [← E 3 (by omega)]; exact hT.1 i
  · rw [← E 5 (by omega)]; exact hT.2 i
theorem trv_E {g h : St} (E : rE g h) (i : Nat) : trv h i = trv g i := by unfold trv; rw [E 3 (by omega)]
theorem gv_E {g h : St} (E : rE g h) (t f n : Nat) : gv h t f n = gv g t f n := gv_cong (fun j _ => by
  rw [trv_E E]
  show ((h 7 j = 1 ∧ h 8 j = nI f) ∧ _) ↔ _
  rw [← E 7 (by omega), ← E 8 (by omega)]) (fun j _ => by rw [E 5 (by omega)])
set_option maxHeartbeats 4000000 in
theorem rel_sail {g h : St} {rc fc hr f : Nat} (R : RC g h rc fc hr) (hf : f < fc) (h0 : h 14 f = 0) : RC (cSl g f rc 10) (mSail h f rc) rc fc hr ∧ (∀ k, k < 7 ∨ k = 11 ∨ k = 12 → cSl g f rc 10 k = g k) ∧ (∀ j, mSail h f rc 14 j = if j = f then 1 else h 14 j) := by
  obtain ⟨E, C, B, F, N, A, RR, S⟩ := R
  obtain ⟨hT, hQ, h16⟩ := B
  obtain ⟨c1, c2, c3, c4, c5, c6, c7, c8, c9⟩ := C
  have q := slQ_n hT (f := f) (rc := rc) 10 (by omega)
  generalize hG : cSl g f rc 10 = G at q
  obtain ⟨a, a7, a8, a9, a10, a16, a17, a18, a20, aP⟩ := q
  have qm := mQ_n (okT_E E hT) (f := f) rc
  unfold mSail
  generalize hU : mT2 (cT1 h f 10) f (mL h f 10) rc = U at qm
  obtain ⟨b, b7, b8, b9, b10, b20, b21⟩ := qm
  have fF := F f hf
  obtain ⟨-, -, -, fP⟩ := fF
  have pl : ∀ t, t < 10 → g (30 + f) t = 0 ∨ g (30 + f) t = 1 ∨ g (30 + f) t = 2 := fun t ht => ((fP t ht).1 h0).1
  have pb : ∀ t, t < 10 → (bt (h 13 f) t = true ↔ g (30 + f) t ≠ 0) := fun t ht => ((fP t ht).1 h0).2
  have p2 : ∀ t, t < 10 → (h 15 t = nI f ↔ g (30 + f) t = 2) := fun t ht => (fP t ht).2.2
  have tr9 : ∀ i, trv g i < 10 := fun i => (okT_t hT i).1
  have row : ∀ i, slR g f rc i → g (30 + f) (trv g i) = 1 ∨ g (30 + f) (trv g i) = 2 := by
    rintro i ⟨hi, e7, e8⟩
    rcases RR.2 i hi with ⟨o7, -⟩ | ⟨-, -, f2, hf2, o8, -, o9⟩ | ⟨o7, -⟩ | ⟨o7 | o7, -⟩
    · rw [e7] at o7; exact absurd o7 (by decide)
    · have : f2 = f := nI_inj (by omega) (by omega) (o8.symm.trans e8)
      subst this
      rcases pl _ (tr9 i) with w | w | w
      · exact absurd w o9
      · exact Or.inl w
      · exact Or.inr w
    · rw [e7] at o7; exact absurd o7 (by decide)
    · rw [e7] at o7; exact absurd o7 (by decide)
    · rw [e7] at o7; exact absurd o7 (by decide)
  have w10 : ∀ i, slR g f rc i → g 10 i = 0 ∨ g 10 i = 1 := by
    rintro i ⟨hi, e7, e8⟩
    rcases RR.2 i hi with ⟨o7, -⟩ | ⟨-, o10, -⟩ | ⟨o7, -⟩ | ⟨o7 | o7, -⟩
    · rw [e7] at o7; exact absurd o7 (by decide)
    · exact o10
    · rw [e7] at o7; exact absurd o7 (by decide)
    · rw [e7] at o7; exact absurd o7 (by decide)
    · rw [e7] at o7; exact absurd o7 (by decide)
  -- the model's values by the class's
  have sE : ∀ i, slR h f rc i ↔ slR g f rc i := fun i => by
    show (_ ∧ h 7 i = 1 ∧ h 8 i = nI f) ↔ (_ ∧ g 7 i = 1 ∧ g 8 i = nI f)
    rw [E 7 (by omega), E 8 (by omega)]
  have tE := trv_E E
  have hE : ∀ k i, ((1 ≤ k ∧ k ≤ 12) ∨ (16 ≤ k ∧ k ≤ 20)) → h k i = g k i := fun k i hk => by rw [E k hk]
  have M14 : ∀ j, u2 (u2 U 14 f 1) 13 f 0 14 j = if j = f then 1 else h 14 j := fun j => by
    rw [u2_off _ _ (by omega), u2_at]
    by_cases e : j = f
    · simp [e]
    · rw [if_neg (fun w => e w.2), if_neg e, b 14 j (by omega) (by omega) (by omega) (by omega) (by omega) (by omega), cT1_k (by omega)]
  have M13 : ∀ j, u2 (u2 U 14 f 1) 13 f 0 13 j = if j = f then 0 else h 13 j := fun j => by
    rw [u2_at]
    by_cases e : j = f
    · simp [e]
    · rw [if_neg (fun w => e w.2), if_neg e, u2_off _ _ (by omega), b 13 j (by omega) (by omega) (by omega) (by omega) (by omega) (by omega), cT1_k (by omega)]
  have Mk : ∀ k i, k ≠ 13 → k ≠ 14 → u2 (u2 U 14 f 1) 13 f 0 k i = U k i := fun k i h1 h2 => by
    rw [u2_off _ _ (by omega), u2_off _ _ (by omega)]
  generalize hM : u2 (u2 U 14 f 1) 13 f 0 = M at M14 M13 Mk
  have M15 : ∀ t, t < 10 → M 15 t = if h 15 t = nI f then -1 else h 15 t := fun t ht => by
    rw [Mk 15 t (by omega) (by omega), b 15 t (by omega) (by omega) (by omega) (by omega) (by omega) (by omega)]
    unfold cT1
    simp [ht]
  have M0 : ∀ i, M 0 i = h 0 i := fun i => by
    rw [Mk 0 i (by omega) (by omega), b 0 i (by omega) (by omega) (by omega) (by omega) (by omega) (by omega), cT1_k (by omega)]
  have G0 : ∀ k i, k < 7 ∨ k = 11 ∨ k = 12 → G k i = g k i := fun k i hk => a k i (by omega) (by omega) (by omega) (by omega) (by omega) (by omega) (by omega) (by omega) (by omega)
  have GP : ∀ f2 t, f2 ≠ f → G (30 + f2) t = g (30 + f2) t := fun f2 t hn => a _ t (by omega) (by omega) (by omega) (by omega) (by omega) (by omega) (by omega) (by omega) (by omega)
  have GPf : ∀ t, t < 10 → G (30 + f) t = if g (30 + f) t = 2 then 3 else g (30 + f) t := fun t ht => by
    rw [aP]
    simp [ht]
  have vG : ∀ i, trv G i = trv g i := fun i => by unfold trv; rw [G0 3 i (by omega)]
  refine ⟨⟨?_, ?_, ?_, ?_, ?_, ?_, ?_, ?_⟩, fun k hk => funext fun i => G0 k i hk, M14⟩
  · -- the same in both
    intro k hk
    funext i
    have hk2 : k = 7 ∨ k = 8 ∨ k = 9 ∨ k = 10 ∨ k = 16 ∨ k = 17 ∨ k = 18 ∨ k = 20 ∨ ((1 ≤ k ∧ k ≤ 6) ∨ k = 11 ∨ k = 12 ∨ k = 19) := by omega
    rcases hk2 with rfl | rfl | rfl | rfl | rfl | rfl | rfl | rfl | hk2
    · rw [a7, Mk 7 i (by omega) (by omega), b7]
      simp only [sE, tE]
      rw [hE 7 i (by omega), hE 10 i (by omega)]
      by_cases c : slR g f rc i
      · rw [if_pos ⟨c, tr9 i⟩, if_pos c]
        rcases row i c with w | w
        · have n2 : ¬ h 15 (trv g i) = nI f := fun q => by rw [p2 _ (tr9 i), w] at q; exact absurd q (by decide)
          rw [if_neg (by rw [w]; decide), if_pos w]
          simp only [n2, if_false]
          rcases w10 i c with v | v <;> rw [v] <;> decide
        · rw [if_pos w, if_pos ((p2 _ (tr9 i)).mpr w)]
      · rw [if_neg (fun q => c q.1), if_neg c]
    · rw [a8, Mk 8 i (by omega) (by omega), b8]
      simp only [sE, tE]
      rw [hE 8 i (by omega)]
      by_cases c : slR g f rc i
      · rcases row i c with w | w
        · rw [if_pos ⟨c, tr9 i, w⟩, if_pos ⟨c, fun q => by rw [p2 _ (tr9 i), w] at q; exact absurd q (by decide)⟩]
        · rw [if_neg (fun q => absurd q.2.2 (by rw [w]; decide)), if_neg (fun q => q.2 ((p2 _ (tr9 i)).mpr w))]
      · rw [if_neg (fun q => c q.1), if_neg (fun q => c q.1)]
    · rw [a9, Mk 9 i (by omega) (by omega), b9]
      simp only [sE, tE]
      rw [hE 9 i (by omega), hE 5 i (by omega), gv_E E]
      by_cases c : slR g f rc i
      · rcases row i c with w | w
        · rw [if_neg (fun q => absurd q.2.2 (by rw [w]; decide)), if_neg (fun q => by have := q.2; rw [p2 _ (tr9 i), w] at this; exact absurd this (by decide))]
        · rw [if_pos ⟨c, tr9 i, w⟩, if_pos ⟨c, (p2 _ (tr9 i)).mpr w⟩]
      · rw [if_neg (fun q => c q.1), if_neg (fun q => c q.1)]
    · rw [a10, Mk 10 i (by omega) (by omega), b10]
      simp only [sE, tE]
      rw [hE 10 i (by omega)]
      by_cases c : slR g f rc i
      · rcases row i c with w | w
        · rw [if_pos ⟨c, tr9 i, w⟩, if_pos ⟨c, fun q => by rw [p2 _ (tr9 i), w] at q; exact absurd q (by decide)⟩]
        · rw [if_neg (fun q => absurd q.2.2 (by rw [w]; decide)), if_neg (fun q => q.2 ((p2 _ (tr9 i)).mpr w))]
      · rw [if_neg (fun q => c q.1), if_neg (fun q => c q.1)]
    · rw [a16, Mk 16 i (by omega) (by omega), b 16 i (by omega) (by omega) (by omega) (by omega) (by omega) (by omega)]
      unfold cT1
      by_cases hi : i < 10
      · simp [hi, p2 i hi, hE 16 i (by omega)]
      · simp [hi, hE 16 i (by omega)]
    · rw [a17, Mk 17 i (by omega) (by omega), b 17 i (by omega) (by omega) (by omega) (by omega) (by omega) (by omega)]
      unfold cT1
      by_cases hi : i < 10
      · simp [hi, p2 i hi, hE 17 i (by omega)]
      · simp [hi, hE 17 i (by omega)]
    · rw [a18, Mk 18 i (by omega) (by omega), b 18 i (by omega) (by omega) (by omega) (by omega) (by omega) (by omega)]
      unfold cT1
      by_cases hi : i < 10
      · have hs : mS h f i ↔ g (30 + f) i ≠ 0 := (mS_iff (by omega)).trans (pb i hi)
        rcases pl i hi with w | w | w
        · have n2 : ¬ h 15 i = nI f := fun q => by rw [p2 i hi, w] at q; exact absurd q (by decide)
          have ns : ¬ mS h f i := fun q => (hs.mp q) w
          simp [hi, n2, ns, w, hE 18 i (by omega)]
        · have n2 : ¬ h 15 i = nI f := fun q => by rw [p2 i hi, w] at q; exact absurd q (by decide)
          have ns : mS h f i := hs.mpr (by rw [w]; decide)
          simp [hi, n2, ns, w, hE 18 i (by omega)]
        · have n2 : h 15 i = nI f := (p2 i hi).mpr w
          simp [hi, n2, w, hE 18 i (by omega)]
      · simp [hi, hE 18 i (by omega)]
    · rw [a20, Mk 20 i (by omega) (by omega), b20, hE 20 i (by omega), gv_E E]
      by_cases hi : i < 10
      · simp [hi, p2 i hi]
      · simp [hi]
    · rw [a k i (by omega) (by omega) (by omega) (by omega) (by omega) (by omega) (by omega) (by omega) (by omega), Mk k i (by omega) (by omega), b k i (by omega) (by omega) (by omega) (by omega) (by omega) (by omega), cT1_k (by omega), hE k i (by omega)]
  · exact ⟨by rw [G0 0 0 (by omega)]; exact c1, by rw [M0]; exact c2, c3, by rw [G0 0 1 (by omega)]; exact c4, by rw [M0]; exact c5, c6, by rw [G0 0 2 (by omega)]; exact c7, by rw [M0]; exact c8, c9⟩
  · refine ⟨⟨fun i => by rw [G0 3 i (by omega)]; exact hT.1 i, fun i => by rw [G0 5 i (by omega)]; exact hT.2 i⟩, fun k => by rw [G0 1 k (by omega)]; exact hQ k, fun t => ?_⟩
    rw [a16]
    split
    · exact Or.inr rfl
    · exact h16 t
  · intro f2 hf2
    obtain ⟨⟨s, s1, s2, s3⟩, ⟨x, x1, x2, x3⟩, z, pp⟩ := F f2 hf2
    refine ⟨⟨s, s1, by rw [G0 12 f2 (by omega)]; exact s2, ?_⟩, ⟨x, x1, x2, by rw [G0 11 f2 (by omega)]; exact x3⟩, ?_, ?_⟩
    · rw [pw_eq (g := g) (f := f2) (fun t ht => ?_)]
      · exact s3
      · by_cases e : f2 = f
        · subst e
          rw [GPf t ht]
          rcases pl t ht with w | w | w <;> rw [w] <;> decide
        · rw [GP f2 t e]
    · rw [M14]
      split
      · exact Or.inr rfl
      · exact z
    · intro t ht
      by_cases e : f2 = f
      · subst e
        refine ⟨fun w => ?_, fun _ => ?_, ?_⟩
        · rw [M14, if_pos rfl] at w; exact absurd w (by decide)
        · rw [GPf t ht]
          rcases pl t ht with w | w | w <;> rw [w] <;> decide
        · rw [M15 t ht, GPf t ht]
          refine ⟨fun w => ?_, fun w => ?_⟩
          · by_cases v : h 15 t = nI f2
            · rw [if_pos v] at w; exact absurd w.symm (nI_m1 (by omega))
            · rw [if_neg v] at w; exact absurd w v
          · rcases pl t ht with v | v | v <;> rw [v] at w <;> exact absurd w (by decide)
      · obtain ⟨pp1, pp2, pp3⟩ := pp t ht
        refine ⟨fun w => ?_, fun w => ?_, ?_⟩
        · rw [M14, if_neg e] at w
          rw [GP f2 t e, M13, if_neg e]
          exact pp1 w
        · rw [M14, if_neg e] at w
          rw [GP f2 t e]
          exact pp2 w
        · rw [M15 t ht, GP f2 t e, ← pp3]
          by_cases v : h 15 t = nI f
          · rw [if_pos v, v]
            exact ⟨fun w => absurd w.symm (nI_m1 (by omega)), fun w => absurd (nI_inj (by omega) (by omega) w).symm e⟩
          · rw [if_neg v]
  · intro f2 h1 h2
    obtain ⟨n1, n2, n3⟩ := N f2 h1 h2
    have e : f2 ≠ f := by omega
    exact ⟨by rw [M13, if_neg e]; exact n1, by rw [M14, if_neg e]; exact n2, fun t => by rw [GP f2 t e]; exact n3 t⟩
  · intro t ht
    rw [M15 t ht]
    split
    · exact Or.inl rfl
    · exact A t ht
  · refine ⟨fun i hi => ?_, fun i hi => ?_⟩
    · have ns : ¬ slR g f rc i := fun w => absurd w.1 (by omega)
      rw [a7, if_neg (fun w => ns w.1), a10, if_neg (fun w => ns w.1)]
      exact RR.1 i hi
    · unfold rO
      rw [vG]
      by_cases c : slR g f rc i
      · rcases row i c with w | w
        · have v7 : G 7 i = if g 10 i + 1 < 2 then 0 else 3 := by rw [a7, if_pos ⟨c, tr9 i⟩, if_neg (by rw [w]; decide), if_pos w]
          have v8 : G 8 i = -1 := by rw [a8, if_pos ⟨c, tr9 i, w⟩]
          have v10 : G 10 i = g 10 i + 1 := by rw [a10, if_pos ⟨c, tr9 i, w⟩]
          rcases w10 i c with v | v
          · exact Or.inl ⟨by rw [v7, v]; decide, v8, Or.inr (by rw [v10, v]; decide)⟩
          · exact Or.inr (Or.inr (Or.inr ⟨Or.inl (by rw [v7, v]; decide), v8⟩))
        · have v7 : G 7 i = 2 := by rw [a7, if_pos ⟨c, tr9 i⟩, if_pos w]
          have v8 : G 8 i = g 8 i := by rw [a8, if_neg (fun q => absurd q.2.2 (by rw [w]; decide))]
          exact Or.inr (Or.inr (Or.inl ⟨v7, f, hf, by rw [v8]; exact c.2.2, by rw [M14, if_pos rfl]⟩))
      · have v7 : G 7 i = g 7 i := by rw [a7, if_neg (fun w => c w.1)]
        have v8 : G 8 i = g 8 i := by rw [a8, if_neg (fun w => c w.1)]
        have v10 : G 10 i = g 10 i := by rw [a10, if_neg (fun w => c w.1)]
        rw [v7, v8, v10]
        rcases RR.2 i hi with o | ⟨o7, o10, f2, hf2, o8, o14, oP⟩ | ⟨o7, f2, hf2, o8, o14⟩ | o
        · exact Or.inl o
        · have e : f2 ≠ f := fun e => c ⟨hi, o7, by rw [← e]; exact o8⟩
          exact Or.inr (Or.inl ⟨o7, o10, f2, hf2, o8, by rw [M14, if_neg e]; exact o14, by rw [GP f2 _ e]; exact oP⟩)
        · refine Or.inr (Or.inr (Or.inl ⟨o7, f2, hf2, o8, ?_⟩))
          rw [M14]
          split
          · rfl
          · exact o14
        · exact Or.inr (Or.inr (Or.inr o))
  · intro t ht
    have S1 : ∀ f2, f2 < 20 → f2 ≠ f → ∀ n, rfS G t f2 n = rfS g t f2 n := by
      intro f2 h20 e n
      induction n with
      | zero => rfl
      | succ n ih =>
        unfold rfS
        rw [ih, G0 3 n (by omega), G0 5 n (by omega)]
        have k8 : G 8 n = nI f2 ↔ g 8 n = nI f2 := by
          rw [a8]
          by_cases v : slR g f rc n ∧ trv g n < 10 ∧ g (30 + f) (trv g n) = 1
          · rw [if_pos v, v.1.2.2]
            exact ⟨fun w => absurd w.symm (nI_m1 (by omega)), fun w => absurd (nI_inj (by omega) (by omega) w).symm e⟩
          · rw [if_neg v]
        simp only [k8]
    have S2 : g (30 + f) t = 2 → ∀ n, n ≤ rc → rfS G t f n = nI (sumN g t f n) := by
      intro w n
      induction n with
      | zero => exact fun _ => rfl
      | succ n ih =>
        intro hn
        unfold rfS sumN
        have k8 : (G 3 n = nI t ∧ G 8 n = nI f) ↔ (sF g f n ∧ trv g n = t) := by
          rw [G0 3 n (by omega), trv_iff hT ht, a8]
          constructor
          · rintro ⟨v1, v2⟩
            have v3 : g 8 n = nI f := by
              by_cases v : slR g f rc n ∧ trv g n < 10 ∧ g (30 + f) (trv g n) = 1
              · exact v.1.2.2
              · rw [if_neg v] at v2; exact v2
            refine ⟨⟨?_, v3⟩, v1⟩
            rcases RR.2 n (by omega) with ⟨-, o8, -⟩ | ⟨o7, -⟩ | ⟨-, f2, hf2, o8, o14⟩ | ⟨-, o8⟩
            · rw [v3] at o8; exact absurd o8 (nI_m1 (by omega))
            · exact o7
            · have : f2 = f := nI_inj (by omega) (by omega) (o8.symm.trans v3)
              rw [this, h0] at o14
              exact absurd o14 (by decide)
            · rw [v3] at o8; exact absurd o8 (nI_m1 (by omega))
          · rintro ⟨v1, v2⟩
            refine ⟨v2, ?_⟩
            rw [if_neg (fun v => absurd v.2.2 (by rw [v2, w]; decide))]
            exact v1.2
        rw [ih (by omega), G0 5 n (by omega), (okT_x hT n).2, its0_n (okT_x hT n).1]
        by_cases v : sF g f n ∧ trv g n = t
        · rw [if_pos v, if_pos (k8.mpr v), nI_add]
        · rw [if_neg v, if_neg (fun q => v (k8.mp q)), Int32.add_zero, Nat.add_zero]
    have S3 : ∀ n, n ≤ fc → rfA G t rc n = rfA g t rc n + (if f < n ∧ g (30 + f) t = 2 then gv g t f rc else 0) := by
      intro n
      induction n with
      | zero => intro _; rw [if_neg (by omega)]; rfl
      | succ n ih =>
        intro hn
        show rfA G t rc n + _ = rfA g t rc n + _ + _
        rw [ih (by omega)]
        by_cases e : n = f
        · subst e
          rw [if_neg (by omega : ¬ (n < n ∧ _)), GPf t ht, Int32.add_zero]
          have e3 : ¬ g (30 + n) t = 3 := fun v => by rcases pl t ht with w | w | w <;> rw [w] at v <;> exact absurd v (by decide)
          rw [if_neg e3, Int32.add_zero]
          by_cases w : g (30 + n) t = 2
          · rw [if_pos w, if_pos rfl, if_pos ⟨by omega, w⟩, S2 w rc (Nat.le_refl _), m500_n (by have := sumN_le hT (t := t) (f := n) (n := rc); omega), gv_sum hT]
          · rw [if_neg w, if_neg e3, if_neg (fun q => w q.2)]
        · rw [GP n t e, S1 n (by omega) e]
          have k2 : (f < n + 1 ∧ g (30 + f) t = 2) ↔ (f < n ∧ g (30 + f) t = 2) := ⟨fun q => ⟨by omega, q.2⟩, fun q => ⟨by omega, q.2⟩⟩
          simp only [k2]
          exact i32_arc _ _ _
    rw [a20, S3 fc (Nat.le_refl _), S t ht]
    by_cases w : g (30 + f) t = 2
    · rw [if_pos ⟨ht, w⟩, if_pos ⟨hf, w⟩]
    · rw [if_neg (fun q => w q.2), if_neg (fun q => w q.2), Int32.add_zero]
