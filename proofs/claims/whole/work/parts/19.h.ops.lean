/-! ===== the commands: class and model answer alike ===== -/
theorem inj5 {ad : Nat → Nat} (h : fx_inj 116 ad) : fx_inj 115 ad := fun i j hi hj e => h i j (by omega) (by omega) e
theorem rng {x a b : Int32} (h : ¬ (a ≤ x ∧ x ≤ b)) : x < a ∨ ¬ x ≤ b := by
  by_cases c : x ≤ b
  · exact Or.inl (Int32.not_le.mp fun q => h ⟨q, c⟩)
  · exact Or.inr c
theorem nlt {x a : Int32} (h : a ≤ x) : ¬ x < a := Int32.not_lt.mpr h
theorem le_of_n {x a : Int32} (h : ¬ x < a) : a ≤ x := Int32.not_lt.mp h
/-- has it sailed? by the hour, and by the model's mark -/
theorem sld_iff {g h : St} {rc fc hr f : Nat} (R : RC g h rc fc hr) (T : rT g h fc hr fc) (hf : f < fc) : (g 0 2 < g 11 f ↔ h 14 f = 0) ∧ (¬ g 0 2 < g 11 f ↔ h 14 f = 1) ∧ ∃ a, 1 ≤ a ∧ a ≤ 10000 ∧ g 11 f = nI a := by
  obtain ⟨-, ⟨-, -, -, -, -, -, c7, c8, c9⟩, -, F, -⟩ := R
  obtain ⟨-, ⟨a, a1, a2, a3⟩, z, -⟩ := F f hf
  have t := T f hf a a2 a3
  have k : g 0 2 < g 11 f ↔ hr < a := by rw [c7, a3, nI_ltI (by omega) (by omega)]
  refine ⟨?_, ?_, a, a1, a2, a3⟩
  · rw [k]
    constructor
    · intro q
      rcases z with z | z
      · exact z
      · have := t.mp z; omega
    · intro q
      rw [q] at t
      have : ¬ (a < hr ∨ (a = hr ∧ f < fc)) := fun w => absurd (t.mpr w) (by decide)
      omega
  · rw [k, t]
    omega
theorem g16_1 {g : St} {t : Nat} (B : rB g) (h : ¬ g 16 t = 0) : g 16 t = 1 := by
  rcases B.2.2 t with w | w
  · exact absurd w h
  · exact w
theorem pw_len {g : St} {f n : Nat} {x : Int32} : pwN g f x n ≤ n := by
  induction n with
  | zero => exact Nat.le_refl _
  | succ n ih => unfold pwN; split <;> omega
theorem ml_pw {g h : St} {f n : Nat} (hp : ∀ t, t < n → (mS h f t ↔ g (30 + f) t ≠ 0)) : ml h f n = h 12 f - nI (n - pwN g f 0 n) := by
  induction n with
  | zero => show h 12 f = h 12 f - 0; rw [Int32.sub_zero]
  | succ n ih =>
    have k := hp n (by omega)
    have l := pw_len (g := g) (f := f) (n := n) (x := 0)
    unfold ml pwN
    rw [ih (fun t ht => hp t (by omega))]
    by_cases c : g (30 + f) n = 0
    · rw [if_neg (fun q => (k.mp q) c), if_pos c, Int32.sub_zero, show n + 1 - (pwN g f 0 n + 1) = n - pwN g f 0 n by omega]
    · rw [if_pos (k.mpr c), if_neg c, show n + 1 - (pwN g f 0 n + 0) = n - pwN g f 0 n + 1 by omega, ← nI_1, Int32.sub_eq_add_neg, Int32.sub_eq_add_neg, Int32.sub_eq_add_neg, Int32.neg_add, Int32.sub_eq_add_neg, Int32.add_assoc]
/-- seats left -/
theorem seats_eq {g h : St} {rc fc hr f : Nat} (R : RC g h rc fc hr) (hf : f < fc) (h14 : h 14 f = 0) : g 12 f - (10 - nI (pwN g f 0 10)) = ml h f 10 ∧ ∃ s, s ≤ 10 ∧ g 12 f = nI s ∧ 10 ≤ s + pwN g f 0 10 ∧ ml h f 10 = nI (s + pwN g f 0 10 - 10) := by
  obtain ⟨E, -, -, F, -⟩ := R
  obtain ⟨⟨s, s1, s2, s3⟩, -, -, p⟩ := F f hf
  have l := pw_len (g := g) (f := f) (n := 10) (x := 0)
  have e : 10 - nI (pwN g f 0 10) = nI (10 - pwN g f 0 10) := pk_sub (a := 10) l
  have m := ml_pw (g := g) (h := h) (f := f) (n := 10) (fun t ht => (mS_iff (by omega)).trans ((p t ht).1 h14).2)
  refine ⟨?_, s, s1, s2, s3, ?_⟩
  · rw [e, m, E 12 (by omega)]
  · rw [m, ← E 12 (by omega), s2, pk_sub (by omega)]
    congr 1
    omega
theorem ab_eq {g h : St} {rc fc hr f : Nat} (R : RC g h rc fc hr) (hf : f < fc) : ∀ n, n ≤ 10 → cAb h f n = nI (pwN g f 2 n) := by
  obtain ⟨-, -, -, F, -⟩ := R
  obtain ⟨-, -, -, p⟩ := F f hf
  intro n
  induction n with
  | zero => exact fun _ => rfl
  | succ n ih =>
    intro hn
    unfold cAb pwN
    rw [ih (by omega)]
    have k := (p n (by omega)).2.2
    by_cases c : g (30 + f) n = 2
    · rw [if_pos (k.mpr c), if_pos c, nI_1]
    · rw [if_neg (fun q => c (k.mp q)), if_neg c, Int32.add_zero, Nat.add_zero]
theorem dbt_E {g h : St} (E : rE g h) (a n : Nat) : dbt g a n = dbt h a n := by
  induction n with
  | zero => rfl
  | succ n ih =>
    unfold dbt
    rw [ih]
    have e2 := E 2 (by omega)
    have e7 := E 7 (by omega)
    have e5 := E 5 (by omega)
    simp only [e2, e7, e5]
/-- one command's end: it returned -/
theorem op_ok {l : Launch} {Z : fx_Z} {ad am : Nat → Nat} {Rl : St → St → Prop} {yw : MethodName} {cw : ByteArray} {nw : Nat} {hh : List (Nat × Nat × Nat × Nat)} {ym : MethodName} {cm : ByteArray} {nm : Nat} {rm : Option FieldType} {As : List Value} {g h G H : St} {o : Int64} {r r1 : Int32} {fr lo : Nat}
    (hw : fw_C l Z yw cw nw hh ad (g, o) (.ref (ad 0) :: (As ++ [.ref (ad 115)])) 0 (G, r1.toInt64)) (hm : fx_C l Z ym cm nm rm fr lo 0 0 22 am (mF am (Z.2.1 0)) h (.ref (am 0) :: As) (pI r H) (fun _ => False)) (hfr : fr ≤ 11 ∧ lo ≤ 440) (hr : r1 = r) (h3 : H 0 3 = 0) (hR : Rl G H) :
    ∃ (code r : Int32) (u2 : WS) (h2 : St) (fr lo : Nat), fr ≤ 11 ∧ lo ≤ 440 ∧ fw_C l Z yw cw nw hh ad (g, o) (.ref (ad 0) :: (As ++ [.ref (ad 115)])) code u2 ∧ fx_C l Z ym cm nm rm fr lo 0 0 22 am (mF am (Z.2.1 0)) h (.ref (am 0) :: As) (pI r h2) (fun _ => False) ∧ h2 0 3 = code ∧ (code = 0 → u2.2 = r.toInt64) ∧ Rl u2.1 h2 :=
  ⟨0, r, (G, r1.toInt64), H, fr, lo, hfr.1, hfr.2, hw, hm, h3, fun _ => by rw [hr], hR⟩
/-- one command's end: it threw -/
theorem op_x {l : Launch} {Z : fx_Z} {ad am : Nat → Nat} {yw : MethodName} {cw : ByteArray} {nw : Nat} {hh : List (Nat × Nat × Nat × Nat)} {ym : MethodName} {cm : ByteArray} {nm : Nat} {rm : Option FieldType} {As : List Value} {g h : St} {o : Int64} {r code : Int32} {fr lo : Nat} (hR : Rel g h) (hc : code ≠ 0)
    (hw : fw_C l Z yw cw nw hh ad (g, o) (.ref (ad 0) :: (As ++ [.ref (ad 115)])) code (g, o)) (hm : fx_C l Z ym cm nm rm fr lo 0 0 22 am (mF am (Z.2.1 0)) h (.ref (am 0) :: As) (pI r (u2 h 0 3 code)) (fun _ => False)) (hfr : fr ≤ 11 ∧ lo ≤ 440) :
    ∃ (code r : Int32) (u2 : WS) (h2 : St) (fr lo : Nat), fr ≤ 11 ∧ lo ≤ 440 ∧ fw_C l Z yw cw nw hh ad (g, o) (.ref (ad 0) :: (As ++ [.ref (ad 115)])) code u2 ∧ fx_C l Z ym cm nm rm fr lo 0 0 22 am (mF am (Z.2.1 0)) h (.ref (am 0) :: As) (pI r h2) (fun _ => False) ∧ h2 0 3 = code ∧ (code = 0 → u2.2 = r.toInt64) ∧ Rel u2.1 h2 :=
  ⟨code, r, (g, o), u2 h 0 3 code, fr, lo, hfr.1, hfr.2, hw, hm, u2_self _ _ _ _, fun q => absurd q hc, Rel_thrown hR⟩
theorem w_d : ∀ {fr lo mc ms : Nat}, decide (fr ≤ 11 ∧ lo ≤ 440 ∧ mc ≤ 2 ∧ ms ≤ 20) = true → fr ≤ 11 ∧ lo ≤ 440 ∧ mc ≤ 2 ∧ ms ≤ 20 := fun h => of_decide_eq_true h
theorem op_rate {l : Launch} (hfl : l.stackTraces = false) {Z : fx_Z} {ad am : Nat → Nat} (hA : fx_inj 116 ad) (hM : fx_inj 22 am) (a0 a1 : Int32) : op_OK l Z ad am Rel yL_rate cL_rate 5 [(0, 10, 13, 13), (0, 10, 17, 15)] yX4_rate cX4_rate 4 (some .int) [.int a0, .int a1] := by
  intro g h o hR
  have hA5 := inj5 hA
  have hR0 := hR
  obtain ⟨rc, fc, hr, R, T⟩ := hR
  have E := R.1
  rcases ixc a0 4 with ⟨k, hk, rfl⟩ | hb
  · by_cases hp : 0 ≤ a1 ∧ a1 ≤ 50
    · refine op_ok (w_L_rate_ok l Z ad hA g _ o _ _ _ (c_X3_rate_ok l hfl Z ad hA5 g k a1 hk (nlt hp.1) hp.2) (w_d rfl)) (c_X4_rate_0 l Z am hM h k a1 hk hp) (by decide) (by rw [E 1 (by omega)]) (by rw [u2_off _ _ (by omega), u2_self]) ?_
      obtain ⟨q, hq, rfl⟩ := nI_of2 (M := 50) (n := 50) rfl (nlt hp.1) hp.2
      exact ⟨rc, fc, hr, rel_rate (rel_thrown R) hq, rT_same (rT_thrown T) (fun f => by rw [u2_ne _ _ _ (by omega)]) (fun f => by rw [u2_ne _ _ _ (by omega)])⟩
    · exact op_x hR0 (by decide) (w_L_rate_IAE l Z ad hA g o _ _ (c_X3_rate_x2 l hfl Z ad hA5 g k a1 hk (rng hp)) (w_d rfl)) (c_X4_rate_2 l Z am hM h k a1 hk hp) (by decide)
  · exact op_x hR0 (by decide) (w_L_rate_IOOBE l Z ad hA g o _ _ (c_X3_rate_x1 l hfl Z ad hA5 g a0 a1 hb) (w_d rfl)) (c_X4_rate_1 l Z am hM h a0 a1 hb) (by decide)
