/-! ===== the law's environment: texts, statics ===== -/
theorem env_T {s : State} {args : Array Value} {n : String} {f : Nat → Nat} {A : Nat → Prop} (hl : (Cond.laysStatic "java/lang/Integer" n "[B").before args s = true) (hini : (Cond.initialized "java/lang/Integer").before args s = true)
    (harr : (Cond.arrayOf (.static "java/lang/Integer" n "[B") .byte).before args s = true) (hlen : (Cond.eq (.length (.static "java/lang/Integer" n "[B")) (.int 100)).before args s = true)
    (hel : ∀ j : Nat, j < 100 → (Cond.eq (.elem (.static "java/lang/Integer" n "[B") (.int (Int32.ofNat j))) (.int (nI (f j)))).before args s = true) (hA : ∀ a : Nat, a < s.heap.size → ¬ A a) : fx_T n f A s s.heap := by
  obtain ⟨y, h1, h2⟩ := Cond.eq_one hlen
  cases h2
  obtain ⟨t, h3, h4⟩ := va_Tof (N := 100) (f := fun j => .int (nI (f j))) (by decide) harr h1 (fun j hj => by
    obtain ⟨y, g1, g2⟩ := Cond.eq_one (hel j hj)
    cases g2
    exact g1) hA
  exact ⟨t, va_Zof hl hini h3 hA, h4⟩
theorem env_st : ∀ q ∈ fx_tx, Cond.stringRef RX3 q.1 q.2 ∈ lw_tbl := by
  intro q hq
  simp only [fx_tx, List.mem_cons, List.not_mem_nil, or_false] at hq
  rcases hq with rfl | rfl | rfl | rfl | rfl | rfl | rfl | rfl | rfl | rfl | rfl | rfl | rfl | rfl | rfl | rfl | rfl | rfl | rfl | rfl | rfl | rfl | rfl | rfl | rfl | rfl | rfl
  · exact (List.mem_of_getElem? (i := 220) (by decide +kernel))
  · exact (List.mem_of_getElem? (i := 256) (by decide +kernel))
  · exact (List.mem_of_getElem? (i := 275) (by decide +kernel))
  · exact (List.mem_of_getElem? (i := 284) (by decide +kernel))
  · exact (List.mem_of_getElem? (i := 285) (by decide +kernel))
  · exact (List.mem_of_getElem? (i := 299) (by decide +kernel))
  · exact (List.mem_of_getElem? (i := 306) (by decide +kernel))
  · exact (List.mem_of_getElem? (i := 318) (by decide +kernel))
  · exact (List.mem_of_getElem? (i := 323) (by decide +kernel))
  · exact (List.mem_of_getElem? (i := 324) (by decide +kernel))
  · exact (List.mem_of_getElem? (i := 332) (by decide +kernel))
  · exact (List.mem_of_getElem? (i := 333) (by decide +kernel))
  · exact (List.mem_of_getElem? (i := 334) (by decide +kernel))
  · exact (List.mem_of_getElem? (i := 346) (by decide +kernel))
  · exact (List.mem_of_getElem? (i := 351) (by decide +kernel))
  · exact (List.mem_of_getElem? (i := 352) (by decide +kernel))
  · exact (List.mem_of_getElem? (i := 361) (by decide +kernel))
  · exact (List.mem_of_getElem? (i := 373) (by decide +kernel))
  · exact (List.mem_of_getElem? (i := 397) (by decide +kernel))
  · exact (List.mem_of_getElem? (i := 402) (by decide +kernel))
  · exact (List.mem_of_getElem? (i := 410) (by decide +kernel))
  · exact (List.mem_of_getElem? (i := 418) (by decide +kernel))
  · exact (List.mem_of_getElem? (i := 426) (by decide +kernel))
  · exact (List.mem_of_getElem? (i := 434) (by decide +kernel))
  · exact (List.mem_of_getElem? (i := 435) (by decide +kernel))
  · exact (List.mem_of_getElem? (i := 466) (by decide +kernel))
  · exact (List.mem_of_getElem? (i := 474) (by decide +kernel))
theorem env_ex : ∀ q ∈ fx_tx, Cond.exactly (Term.string RX3 q.1) "java/lang/String" ∈ flatC (Jvm.Cond.and given_1 narrow_1) := by
  intro q hq
  simp only [fx_tx, List.mem_cons, List.not_mem_nil, or_false] at hq
  rcases hq with rfl | rfl | rfl | rfl | rfl | rfl | rfl | rfl | rfl | rfl | rfl | rfl | rfl | rfl | rfl | rfl | rfl | rfl | rfl | rfl | rfl | rfl | rfl | rfl | rfl | rfl | rfl
  · exact (List.mem_of_getElem? (i := 271) (by decide +kernel))
  · exact (List.mem_of_getElem? (i := 296) (by decide +kernel))
  · exact (List.mem_of_getElem? (i := 324) (by decide +kernel))
  · exact (List.mem_of_getElem? (i := 349) (by decide +kernel))
  · exact (List.mem_of_getElem? (i := 379) (by decide +kernel))
  · exact (List.mem_of_getElem? (i := 408) (by decide +kernel))
  · exact (List.mem_of_getElem? (i := 434) (by decide +kernel))
  · exact (List.mem_of_getElem? (i := 480) (by decide +kernel))
  · exact (List.mem_of_getElem? (i := 508) (by decide +kernel))
  · exact (List.mem_of_getElem? (i := 535) (by decide +kernel))
  · exact (List.mem_of_getElem? (i := 576) (by decide +kernel))
  · exact (List.mem_of_getElem? (i := 604) (by decide +kernel))
  · exact (List.mem_of_getElem? (i := 634) (by decide +kernel))
  · exact (List.mem_of_getElem? (i := 679) (by decide +kernel))
  · exact (List.mem_of_getElem? (i := 705) (by decide +kernel))
  · exact (List.mem_of_getElem? (i := 729) (by decide +kernel))
  · exact (List.mem_of_getElem? (i := 763) (by decide +kernel))
  · exact (List.mem_of_getElem? (i := 782) (by decide +kernel))
  · exact (List.mem_of_getElem? (i := 817) (by decide +kernel))
  · exact (List.mem_of_getElem? (i := 836) (by decide +kernel))
  · exact (List.mem_of_getElem? (i := 874) (by decide +kernel))
  · exact (List.mem_of_getElem? (i := 910) (by decide +kernel))
  · exact (List.mem_of_getElem? (i := 940) (by decide +kernel))
  · exact (List.mem_of_getElem? (i := 970) (by decide +kernel))
  · exact (List.mem_of_getElem? (i := 1000) (by decide +kernel))
  · exact (List.mem_of_getElem? (i := 1040) (by decide +kernel))
  · exact (List.mem_of_getElem? (i := 1064) (by decide +kernel))
theorem env_d1 : ∀ j, j < 100 → (flatC (Jvm.Cond.and given_1 narrow_1))[14 + j]? = some (Cond.eq (.elem (.static "java/lang/Integer" "DigitOnes" "[B") (.int (Int32.ofNat j))) (.int (nI (48 + j % 10)))) := by decide +kernel
theorem env_d2 : ∀ j, j < 100 → (flatC (Jvm.Cond.and given_1 narrow_1))[117 + j]? = some (Cond.eq (.elem (.static "java/lang/Integer" "DigitTens" "[B") (.int (Int32.ofNat j))) (.int (nI (48 + j / 10)))) := by decide +kernel
theorem env_all {s : State} {b : Nat} (hT : ∀ w ∈ lw_tbl, w.before #[Value.ref b] s = true) (hg : (Jvm.Cond.and given_1 narrow_1).before #[Value.ref b] s = true) : ∃ Z : fx_Z, fx_E Z s ∧ fx_S (lA s) s s.heap := by
  have hs := flat_of_before _ hg
  obtain ⟨D, cy, hK⟩ := env_K hT
  have hA : ∀ a : Nat, a < s.heap.size → ¬ lA s a := fun a h q => absurd h (Nat.not_lt.mpr q)
  have hsa : ∀ k : Nat, ∃ a : Nat, ∀ q ∈ fx_tx, q.1 = k → vk_R RX3 q.1 q.2 a s := by
    intro k
    by_cases h : ∃ q ∈ fx_tx, q.1 = k
    · obtain ⟨q, hq, rfl⟩ := h
      obtain ⟨a, c, cell, k9, h1, -⟩ := Cond.exactly_spec (hs _ (env_ex q hq))
      refine ⟨a, fun q2 hq2 e2 => ?_⟩
      refine vk_R.of (A := #[Value.ref b]) (hT _ (env_st q2 hq2)) ?_
      rw [e2]
      exact h1
    · exact ⟨0, fun q hq e2 => absurd ⟨q, hq, e2⟩ h⟩
  obtain ⟨sa, hsa⟩ := Classical.axiomOfChoice hsa
  refine ⟨(D, cy, sa), ⟨hK sa, fun q hq => hsa q.1 q hq rfl, env_w hT, va_Nc.of (hs (Cond.not (.castable "java/lang/IllegalArgumentException" "java/lang/IndexOutOfBoundsException")) (List.mem_of_getElem? (i := 222) (by decide +kernel))), va_Nc.of (hs (Cond.not (.castable "java/lang/IllegalStateException" "java/lang/IndexOutOfBoundsException")) (List.mem_of_getElem? (i := 223) (by decide +kernel))), va_Nc.of (hs (Cond.not (.castable "java/lang/IllegalStateException" "java/lang/IllegalArgumentException")) (List.mem_of_getElem? (i := 231) (by decide +kernel)))⟩, ?_⟩
  refine ⟨vx_Zqof (hT (.laysStatic "java/lang/Throwable" "UNASSIGNED_STACK" "[Ljava/lang/StackTraceElement;") (List.mem_of_getElem? (i := 206) (by decide +kernel))) (hT _ (List.mem_of_getElem? (i := 42) (by decide +kernel))) (hs _ (List.mem_of_getElem? (i := 4) (by decide +kernel))) hA, vx_Zqof (hT (.laysStatic "java/lang/Throwable" "SUPPRESSED_SENTINEL" "Ljava/util/List;") (List.mem_of_getElem? (i := 208) (by decide +kernel))) (hT _ (List.mem_of_getElem? (i := 42) (by decide +kernel))) (hs _ (List.mem_of_getElem? (i := 5) (by decide +kernel))) hA, ?_, va_Zqof (hT (.laysStatic "jdk/internal/util/Preconditions" "SIOOBE_FORMATTER" "Ljava/util/function/BiFunction;") (List.mem_of_getElem? (i := 573) (by decide +kernel))) (hT _ (List.mem_of_getElem? (i := 57) (by decide +kernel))) (hs _ (List.mem_of_getElem? (i := 7) (by decide +kernel))) hA, env_T (hT (.laysStatic "java/lang/Integer" "DigitOnes" "[B") (List.mem_of_getElem? (i := 612) (by decide +kernel))) (hT _ (List.mem_of_getElem? (i := 58) (by decide +kernel))) (hs _ (List.mem_of_getElem? (i := 12) (by decide +kernel))) (hs _ (List.mem_of_getElem? (i := 13) (by decide +kernel))) (fun j hj => hs _ (List.mem_of_getElem? (env_d1 j hj))) hA, env_T (hT (.laysStatic "java/lang/Integer" "DigitTens" "[B") (List.mem_of_getElem? (i := 614) (by decide +kernel))) (hT _ (List.mem_of_getElem? (i := 58) (by decide +kernel))) (hs _ (List.mem_of_getElem? (i := 115) (by decide +kernel))) (hs _ (List.mem_of_getElem? (i := 116) (by decide +kernel))) (fun j hj => hs _ (List.mem_of_getElem? (env_d2 j hj))) hA⟩
  obtain ⟨y, h1, h2⟩ := Cond.eq_one (hs (Cond.eq (.static "java/lang/String" "COMPACT_STRINGS" "Z") (.int 1)) (List.mem_of_getElem? (i := 6) (by decide +kernel)))
  cases h2
  exact va_Zof (hT (.laysStatic "java/lang/String" "COMPACT_STRINGS" "Z") (List.mem_of_getElem? (i := 485) (by decide +kernel))) (hT _ (List.mem_of_getElem? (i := 51) (by decide +kernel))) h1 hA
