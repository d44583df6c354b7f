/-! ===== the law's environment: texts, statics ===== -/
theorem env_T {s : State} {args : Array Value} {n : String} {f : Nat → Nat} {A : Nat → Prop} (hl : (Cond.laysStatic "java/lang/Integer" n "[B").before args s = true) (hini : (Cond.initialized "java/lang/Integer").before args s = true)
    (harr : (Cond.arrayOf (.static "java/lang/Integer" n "[B") .byte).before args s = true) (hlen : (Cond.eq (.length (.static "java/lang/Integer" n "[B")) (.int 100)).before args s = true)
    (hel : ∀ j : Nat, j < 100 → (Cond.eq (.elem (.static "java/lang/Integer" n "[B") (.int (Int32.ofNat j))) (.int (nI (f j)))).before args s = true) (hA : ∀ a : Nat, a < s.heap.size → ¬ A a) : fx_T n f A s s.heap := by
  obtain ⟨y, h1, h2⟩ := Cond.eq_one hlen
  cases h2
  obtain ⟨t, h3, h4⟩ := va_Tof (N := 100) (f := fun j => .int (nI (f j))) (by decide) harr h1 (fun j hj => by
    obtain ⟨y, g1, g2⟩ := Cond.eq_one (hel j hj)
    cases g2
    exact g1) hA
  exact ⟨t, va_Zof hl hini h3 hA, h4⟩
set_option maxRecDepth 100000 in
theorem env_all {s : State} {b : Nat} (hT : ∀ w ∈ lw_tbl, w.before #[Value.ref b] s = true) (hg : (Jvm.Cond.and given_1 narrow_1).before #[Value.ref b] s = true) : ∃ Z : fx_Z, fx_E Z s ∧ fx_S (lA s) s s.heap := by
  have hs := flat_of_before _ hg
  obtain ⟨D, cy, hK⟩ := env_K hT
  have hA : ∀ a : Nat, a < s.heap.size → ¬ lA s a := fun a h q => absurd h (Nat.not_lt.mpr q)
  have hex : ∀ q ∈ fx_tx, (Cond.exactly (Term.string RX3 q.1) "java/lang/String").before #[Value.ref b] s = true := by
    intro q hq
    simp only [fx_tx, List.mem_cons, List.not_mem_nil, or_false] at hq
    rcases hq with rfl | rfl | rfl | rfl | rfl | rfl | rfl | rfl | rfl | rfl | rfl | rfl | rfl | rfl | rfl | rfl | rfl | rfl | rfl | rfl | rfl | rfl | rfl | rfl | rfl | rfl | rfl <;> exact hs _ (by decide +kernel)
  have hst : ∀ q ∈ fx_tx, Cond.stringRef RX3 q.1 q.2 ∈ lw_tbl := by decide +kernel
  have hsa : ∀ k : Nat, ∃ a : Nat, ∀ q ∈ fx_tx, q.1 = k → vk_R RX3 q.1 q.2 a s := by
    intro k
    by_cases h : ∃ q ∈ fx_tx, q.1 = k
    · obtain ⟨q, hq, rfl⟩ := h
      obtain ⟨a, c, cell, k9, h1, -⟩ := Cond.exactly_spec (hex q hq)
      refine ⟨a, fun q2 hq2 e2 => ?_⟩
      refine vk_R.of (A := #[Value.ref b]) (hT _ (hst q2 hq2)) ?_
      rw [e2]
      exact h1
    · exact ⟨0, fun q hq e2 => absurd ⟨q, hq, e2⟩ h⟩
  obtain ⟨sa, hsa⟩ := Classical.axiomOfChoice hsa
  refine ⟨(D, cy, sa), ⟨hK sa, fun q hq => hsa q.1 q hq rfl, env_w hT, va_Nc.of (hs (Cond.not (.castable "java/lang/IllegalArgumentException" "java/lang/IndexOutOfBoundsException")) (by decide +kernel)), va_Nc.of (hs (Cond.not (.castable "java/lang/IllegalStateException" "java/lang/IndexOutOfBoundsException")) (by decide +kernel)), va_Nc.of (hs (Cond.not (.castable "java/lang/IllegalStateException" "java/lang/IllegalArgumentException")) (by decide +kernel))⟩, ?_⟩
  refine ⟨vx_Zqof (hT (.laysStatic "java/lang/Throwable" "UNASSIGNED_STACK" "[Ljava/lang/StackTraceElement;") (List.mem_of_getElem? (i := 206) (by decide +kernel))) (hT _ (List.mem_of_getElem? (i := 42) (by decide +kernel))) (hs _ (by decide +kernel)) hA, vx_Zqof (hT (.laysStatic "java/lang/Throwable" "SUPPRESSED_SENTINEL" "Ljava/util/List;") (List.mem_of_getElem? (i := 208) (by decide +kernel))) (hT _ (List.mem_of_getElem? (i := 42) (by decide +kernel))) (hs _ (by decide +kernel)) hA, ?_, va_Zqof (hT (.laysStatic "jdk/internal/util/Preconditions" "SIOOBE_FORMATTER" "Ljava/util/function/BiFunction;") (List.mem_of_getElem? (i := 573) (by decide +kernel))) (hT _ (List.mem_of_getElem? (i := 57) (by decide +kernel))) (hs _ (by decide +kernel)) hA, env_T (hT (.laysStatic "java/lang/Integer" "DigitOnes" "[B") (List.mem_of_getElem? (i := 612) (by decide +kernel))) (hT _ (List.mem_of_getElem? (i := 58) (by decide +kernel))) (hs _ (by decide +kernel)) (hs _ (by decide +kernel)) (fun j hj => hs _ ?_) hA, env_T (hT (.laysStatic "java/lang/Integer" "DigitTens" "[B") (List.mem_of_getElem? (i := 614) (by decide +kernel))) (hT _ (List.mem_of_getElem? (i := 58) (by decide +kernel))) (hs _ (by decide +kernel)) (hs _ (by decide +kernel)) (fun j hj => hs _ ?_) hA⟩
  · obtain ⟨y, h1, h2⟩ := Cond.eq_one (hs (Cond.eq (.static "java/lang/String" "COMPACT_STRINGS" "Z") (.int 1)) (by decide +kernel))
    cases h2
    exact va_Zof (hT (.laysStatic "java/lang/String" "COMPACT_STRINGS" "Z") (List.mem_of_getElem? (i := 485) (by decide +kernel))) (hT _ (List.mem_of_getElem? (i := 51) (by decide +kernel))) h1 hA
  · have key : ∀ j, j < 100 → Cond.eq (.elem (.static "java/lang/Integer" "DigitOnes" "[B") (.int (Int32.ofNat j))) (.int (nI (48 + j % 10))) ∈ Jvm.Free.XT.flat (Jvm.Cond.and given_1 narrow_1) := by decide +kernel
    exact key j hj
  · have key : ∀ j, j < 100 → Cond.eq (.elem (.static "java/lang/Integer" "DigitTens" "[B") (.int (Int32.ofNat j))) (.int (nI (48 + j / 10))) ∈ Jvm.Free.XT.flat (Jvm.Cond.and given_1 narrow_1) := by decide +kernel
    exact key j hj
