/-! the law's words, out of the tables: three selects of private methods above StringBuilder beside them -/
theorem x_sel_priv {C : String} {y z : MethodName} {s : State} {args : Array Value} {n : Nat} (hy : y.cls ≠ "java/lang/invoke/MethodHandle" ∧ y.cls ≠ "java/lang/invoke/VarHandle") (hins : (Cond.instantiable C n).before args s = true) (hpriv : (Cond.privateMethod y).before args s = true) (hinst : (Cond.instanceMethod y).before args s = true) (hz : z.cls = y.cls) (hsel : (Cond.selects C z z).before args s = true) : (Cond.selects C y y).before args s = true := by
  obtain ⟨c, k, hc, -⟩ := Cond.instantiable_spec hins
  obtain ⟨mk, methM, hnamed, hmethM, -, -⟩ := Cond.instanceMethod_spec hinst
  have hfound : s.methodFound? y.cls y.name y.desc = some mk := State.methodFound?_of_named hnamed hy
  have hs : selectMethod {} s.vm c mk = .method mk := selectMethod_private hmethM (Cond.privateMethod_at hpriv mk methM hnamed hmethM)
  obtain ⟨c2, r2, m2, q1, q2, q3, q4, kP, hkP, hkPi⟩ := Cond.selects_spec hsel
  have h3 := findClass_of_methodNamed q3
  rw [hz] at h3
  have hcls : mk.cls = m2.cls := Option.some.inj ((findClass_of_methodNamed hnamed).symm.trans h3)
  rw [← hcls] at hkP
  simp only [Cond.before, Cond.holds, Cond.value, hc, hfound, hnamed, hs, hkP]
  simp
  exact hkPi
def x_sel3 : List Cond := [.selects RJ4 yJ5_ensureCapacityInternal_d00df yJ5_ensureCapacityInternal_d00df, .selects RJ4 yJ5_newCapacity_0f7a4 yJ5_newCapacity_0f7a4, .selects RJ4 yJ5_inflate_da8c8 yJ5_inflate_da8c8]
def x_tbl : List Cond := x_sel3 ++ lw_tbl
theorem x_tbl_ok {s : State} {args : Array Value} (hts : ∀ w ∈ lw_tbl, w.before args s = true) : ∀ w ∈ x_tbl, w.before args s = true := by
  have h0 : (Cond.instantiable RJ4 4).before args s = true := hts _ (by decide +kernel)
  have h1 : (Cond.selects RJ4 yJ5_isLatin1_aae02 yJ5_isLatin1_aae02).before args s = true := hts _ (by decide +kernel)
  intro w hw
  rcases List.mem_append.mp hw with hw | hw
  · unfold x_sel3 at hw
    simp only [List.mem_cons, List.not_mem_nil, or_false] at hw
    rcases hw with rfl | rfl | rfl
    · exact x_sel_priv (z := yJ5_isLatin1_aae02) (by decide) h0 (hts _ (by decide +kernel)) (hts _ (by decide +kernel)) rfl h1
    · exact x_sel_priv (z := yJ5_isLatin1_aae02) (by decide) h0 (hts _ (by decide +kernel)) (hts _ (by decide +kernel)) rfl h1
    · exact x_sel_priv (z := yJ5_isLatin1_aae02) (by decide) h0 (hts _ (by decide +kernel)) (hts _ (by decide +kernel)) rfl h1
  · exact hts w hw
theorem wsL_law0_r1_in : ∀ w ∈ wsL_law0_r1, w ∈ lw_tbl := by decide +kernel
theorem wsL_law0_r2_in : ∀ w ∈ wsL_law0_r2, w ∈ lw_tbl := by decide +kernel
theorem wsL_law0_r3_in : ∀ w ∈ wsL_law0_r3, w ∈ lw_tbl := by decide +kernel
theorem wsL_law0_r4_in : ∀ w ∈ wsL_law0_r4, w ∈ lw_tbl := by decide +kernel
theorem wsL_law0_r5_in : ∀ w ∈ wsL_law0_r5, w ∈ lw_tbl := by decide +kernel
theorem wsL_law0_r6_in : ∀ w ∈ wsL_law0_r6, w ∈ lw_tbl := by decide +kernel
theorem wsL_law0_r7_in : ∀ w ∈ wsL_law0_r7, w ∈ lw_tbl := by decide +kernel
theorem wsL_law0_r8_in : ∀ w ∈ wsL_law0_r8, w ∈ lw_tbl := by decide +kernel
theorem wsL_law0_r9_in : ∀ w ∈ wsL_law0_r9, w ∈ lw_tbl := by decide +kernel
theorem wsL_law0_r10_in : ∀ w ∈ wsL_law0_r10, w ∈ lw_tbl := by decide +kernel
theorem wsL_law0_r11_in : ∀ w ∈ wsL_law0_r11, w ∈ lw_tbl := by decide +kernel
theorem wsL_law0_r12_in : ∀ w ∈ wsL_law0_r12, w ∈ lw_tbl := by decide +kernel
theorem wsL_law0_r13_in : ∀ w ∈ wsL_law0_r13, w ∈ lw_tbl := by decide +kernel
theorem wsL_law0_r14_in : ∀ w ∈ wsL_law0_r14, w ∈ lw_tbl := by decide +kernel
theorem wsL_law0_r15_in : ∀ w ∈ wsL_law0_r15, w ∈ lw_tbl := by decide +kernel
theorem wsL_law0_r16_in : ∀ w ∈ wsL_law0_r16, w ∈ lw_tbl := by decide +kernel
theorem wsL_law0_r17_in : ∀ w ∈ wsL_law0_r17, w ∈ lw_tbl := by decide +kernel
theorem wsL_law0_r18_in : ∀ w ∈ wsL_law0_r18, w ∈ lw_tbl := by decide +kernel
theorem wsL_law0_r19_in : ∀ w ∈ wsL_law0_r19, w ∈ lw_tbl := by decide +kernel
theorem wsL_law0_r20_in : ∀ w ∈ wsL_law0_r20, w ∈ lw_tbl := by decide +kernel
theorem wsL_law0_r21_in : ∀ w ∈ wsL_law0_r21, w ∈ lw_tbl := by decide +kernel
theorem wsL_law0_r22_in : ∀ w ∈ wsL_law0_r22, w ∈ lw_tbl := by decide +kernel
theorem wsL_law0_r23_in : ∀ w ∈ wsL_law0_r23, w ∈ lw_tbl := by decide +kernel
theorem wsL_law0_r24_in : ∀ w ∈ wsL_law0_r24, w ∈ lw_tbl := by decide +kernel
theorem wsL_law0_r25_in : ∀ w ∈ wsL_law0_r25, w ∈ lw_tbl := by decide +kernel
theorem wsL_law0_r26_in : ∀ w ∈ wsL_law0_r26, w ∈ lw_tbl := by decide +kernel
theorem wsL_law0_r27_in : ∀ w ∈ wsL_law0_r27, w ∈ lw_tbl := by decide +kernel
theorem wsL_law0_r28_in : ∀ w ∈ wsL_law0_r28, w ∈ lw_tbl := by decide +kernel
theorem wsL_law0_r29_in : ∀ w ∈ wsL_law0_r29, w ∈ lw_tbl := by decide +kernel
theorem wsL_law0_r30_in : ∀ w ∈ wsL_law0_r30, w ∈ lw_tbl := by decide +kernel
theorem wsL_law0_r31_in : ∀ w ∈ wsL_law0_r31, w ∈ lw_tbl := by decide +kernel
theorem wsL_law0_r32_in : ∀ w ∈ wsL_law0_r32, w ∈ lw_tbl := by decide +kernel
theorem wsL_law0_r33_in : ∀ w ∈ wsL_law0_r33, w ∈ lw_tbl := by decide +kernel
theorem wsL_law0_r34_in : ∀ w ∈ wsL_law0_r34, w ∈ lw_tbl := by decide +kernel
theorem wsL_law0_r35_in : ∀ w ∈ wsL_law0_r35, w ∈ lw_tbl := by decide +kernel
theorem wsL_law0_r36_in : ∀ w ∈ wsL_law0_r36, w ∈ lw_tbl := by decide +kernel
theorem wsL_law0_r37_in : ∀ w ∈ wsL_law0_r37, w ∈ lw_tbl := by decide +kernel
theorem wsL_law0_r38_in : ∀ w ∈ wsL_law0_r38, w ∈ lw_tbl := by decide +kernel
theorem wsL_law0_r39_in : ∀ w ∈ wsL_law0_r39, w ∈ lw_tbl := by decide +kernel
theorem wsL_law0_r40_in : ∀ w ∈ wsL_law0_r40, w ∈ lw_tbl := by decide +kernel
theorem wsL_law0_r41_in : ∀ w ∈ wsL_law0_r41, w ∈ lw_tbl := by decide +kernel
theorem wsL_law0_r42_in : ∀ w ∈ wsL_law0_r42, w ∈ lw_tbl := by decide +kernel
theorem wsL_law0_r43_in : ∀ w ∈ wsL_law0_r43, w ∈ x_tbl := by decide +kernel
theorem wsL_law0_r44_in : ∀ w ∈ wsL_law0_r44, w ∈ lw_tbl := by decide +kernel
theorem wsL_law0_r45_in : ∀ w ∈ wsL_law0_r45, w ∈ lw_tbl := by decide +kernel
theorem wsL_law0_r46_in : ∀ w ∈ wsL_law0_r46, w ∈ x_tbl := by decide +kernel
theorem wsL_law0_r47_in : ∀ w ∈ wsL_law0_r47, w ∈ lw_tbl := by decide +kernel
theorem wsL_law0_r48_in : ∀ w ∈ wsL_law0_r48, w ∈ lw_tbl := by decide +kernel
theorem wsL_law0_r49_in : ∀ w ∈ wsL_law0_r49, w ∈ lw_tbl := by decide +kernel
theorem wsL_law0_r50_in : ∀ w ∈ wsL_law0_r50, w ∈ lw_tbl := by decide +kernel
theorem wsL_law0_r51_in : ∀ w ∈ wsL_law0_r51, w ∈ lw_tbl := by decide +kernel
theorem wsL_law0_r52_in : ∀ w ∈ wsL_law0_r52, w ∈ lw_tbl := by decide +kernel
theorem wsL_law0_r53_in : ∀ w ∈ wsL_law0_r53, w ∈ lw_tbl := by decide +kernel
theorem wsL_law0_r54_in : ∀ w ∈ wsL_law0_r54, w ∈ lw_tbl := by decide +kernel
theorem wsL_law0_r55_in : ∀ w ∈ wsL_law0_r55, w ∈ lw_tbl := by decide +kernel
theorem wsL_law0_r56_in : ∀ w ∈ wsL_law0_r56, w ∈ lw_tbl := by decide +kernel
theorem wsL_law0_r57_in : ∀ w ∈ wsL_law0_r57, w ∈ lw_tbl := by decide +kernel
theorem wsL_law0_r58_in : ∀ w ∈ wsL_law0_r58, w ∈ lw_tbl := by decide +kernel
theorem wsL_law0_r59_in : ∀ w ∈ wsL_law0_r59, w ∈ lw_tbl := by decide +kernel
theorem wsX60_inT : ∀ w ∈ wsX60, w ∈ lw_tbl := by decide +kernel
theorem wsX70_inT : ∀ w ∈ wsX70, w ∈ lw_tbl := by decide +kernel
theorem wsX30_inT : ∀ w ∈ wsX30, w ∈ lw_tbl := by decide +kernel
theorem wsX40_inT : ∀ w ∈ wsX40, w ∈ lw_tbl := by decide +kernel
theorem wsJ40_inT : ∀ w ∈ wsJ40, w ∈ lw_tbl := by decide +kernel
theorem wsX20_inT : ∀ w ∈ wsX20, w ∈ lw_tbl := by decide +kernel
theorem wsX50_inT : ∀ w ∈ wsX50, w ∈ lw_tbl := by decide +kernel
theorem wsJx7c7330_inT : ∀ w ∈ wsJx7c7330, w ∈ lw_tbl := by decide +kernel
theorem wsJx000600_inT : ∀ w ∈ wsJx000600, w ∈ lw_tbl := by decide +kernel
theorem wsJ00_inT : ∀ w ∈ wsJ00, w ∈ lw_tbl := by decide +kernel
set_option maxRecDepth 20000 in
theorem wsL_law_in0 : ∀ w ∈ wsL_law0, w ∈ x_tbl := List.forall_mem_append.mpr ⟨List.forall_mem_append.mpr ⟨List.forall_mem_append.mpr ⟨List.forall_mem_append.mpr ⟨List.forall_mem_append.mpr ⟨List.forall_mem_append.mpr ⟨List.forall_mem_append.mpr ⟨List.forall_mem_append.mpr ⟨List.forall_mem_append.mpr ⟨List.forall_mem_append.mpr ⟨List.forall_mem_append.mpr ⟨List.forall_mem_append.mpr ⟨(fun w h => List.mem_append_right _ (wsL_law0_r1_in w h)), List.forall_mem_append.mpr ⟨(fun w h => List.mem_append_right _ (wsL_law0_r2_in w h)), List.forall_mem_append.mpr ⟨(fun w h => List.mem_append_right _ (wsL_law0_r3_in w h)), List.forall_mem_append.mpr ⟨(fun w h => List.mem_append_right _ (wsL_law0_r4_in w h)), List.forall_mem_append.mpr ⟨(fun w h => List.mem_append_right _ (wsL_law0_r5_in w h)), List.forall_mem_append.mpr ⟨(fun w h => List.mem_append_right _ (wsL_law0_r6_in w h)), List.forall_mem_append.mpr ⟨(fun w h => List.mem_append_right _ (wsL_law0_r7_in w h)), List.forall_mem_append.mpr ⟨(fun w h => List.mem_append_right _ (wsL_law0_r8_in w h)), List.forall_mem_append.mpr ⟨(fun w h => List.mem_append_right _ (wsL_law0_r9_in w h)), List.forall_mem_append.mpr ⟨(fun w h => List.mem_append_right _ (wsL_law0_r10_in w h)), List.forall_mem_append.mpr ⟨(fun w h => List.mem_append_right _ (wsL_law0_r11_in w h)), List.forall_mem_append.mpr ⟨(fun w h => List.mem_append_right _ (wsL_law0_r12_in w h)), List.forall_mem_append.mpr ⟨(fun w h => List.mem_append_right _ (wsL_law0_r13_in w h)), List.forall_mem_append.mpr ⟨(fun w h => List.mem_append_right _ (wsL_law0_r14_in w h)), List.forall_mem_append.mpr ⟨(fun w h => List.mem_append_right _ (wsL_law0_r15_in w h)), List.forall_mem_append.mpr ⟨(fun w h => List.mem_append_right _ (wsL_law0_r16_in w h)), List.forall_mem_append.mpr ⟨(fun w h => List.mem_append_right _ (wsL_law0_r17_in w h)), List.forall_mem_append.mpr ⟨(fun w h => List.mem_append_right _ (wsL_law0_r18_in w h)), List.forall_mem_append.mpr ⟨(fun w h => List.mem_append_right _ (wsL_law0_r19_in w h)), List.forall_mem_append.mpr ⟨(fun w h => List.mem_append_right _ (wsL_law0_r20_in w h)), List.forall_mem_append.mpr ⟨(fun w h => List.mem_append_right _ (wsL_law0_r21_in w h)), List.forall_mem_append.mpr ⟨(fun w h => List.mem_append_right _ (wsL_law0_r22_in w h)), List.forall_mem_append.mpr ⟨(fun w h => List.mem_append_right _ (wsL_law0_r23_in w h)), List.forall_mem_append.mpr ⟨(fun w h => List.mem_append_right _ (wsL_law0_r24_in w h)), List.forall_mem_append.mpr ⟨(fun w h => List.mem_append_right _ (wsL_law0_r25_in w h)), List.forall_mem_append.mpr ⟨(fun w h => List.mem_append_right _ (wsL_law0_r26_in w h)), List.forall_mem_append.mpr ⟨(fun w h => List.mem_append_right _ (wsL_law0_r27_in w h)), List.forall_mem_append.mpr ⟨(fun w h => List.mem_append_right _ (wsL_law0_r28_in w h)), List.forall_mem_append.mpr ⟨(fun w h => List.mem_append_right _ (wsL_law0_r29_in w h)), List.forall_mem_append.mpr ⟨(fun w h => List.mem_append_right _ (wsL_law0_r30_in w h)), List.forall_mem_append.mpr ⟨(fun w h => List.mem_append_right _ (wsL_law0_r31_in w h)), List.forall_mem_append.mpr ⟨(fun w h => List.mem_append_right _ (wsL_law0_r32_in w h)), List.forall_mem_append.mpr ⟨(fun w h => List.mem_append_right _ (wsL_law0_r33_in w h)), List.forall_mem_append.mpr ⟨(fun w h => List.mem_append_right _ (wsL_law0_r34_in w h)), List.forall_mem_append.mpr ⟨(fun w h => List.mem_append_right _ (wsL_law0_r35_in w h)), List.forall_mem_append.mpr ⟨(fun w h => List.mem_append_right _ (wsL_law0_r36_in w h)), List.forall_mem_append.mpr ⟨(fun w h => List.mem_append_right _ (wsL_law0_r37_in w h)), List.forall_mem_append.mpr ⟨(fun w h => List.mem_append_right _ (wsL_law0_r38_in w h)), List.forall_mem_append.mpr ⟨(fun w h => List.mem_append_right _ (wsL_law0_r39_in w h)), List.forall_mem_append.mpr ⟨(fun w h => List.mem_append_right _ (wsL_law0_r40_in w h)), List.forall_mem_append.mpr ⟨(fun w h => List.mem_append_right _ (wsL_law0_r41_in w h)), List.forall_mem_append.mpr ⟨(fun w h => List.mem_append_right _ (wsL_law0_r42_in w h)), List.forall_mem_append.mpr ⟨wsL_law0_r43_in, List.forall_mem_append.mpr ⟨(fun w h => List.mem_append_right _ (wsL_law0_r44_in w h)), List.forall_mem_append.mpr ⟨(fun w h => List.mem_append_right _ (wsL_law0_r45_in w h)), List.forall_mem_append.mpr ⟨wsL_law0_r46_in, List.forall_mem_append.mpr ⟨(fun w h => List.mem_append_right _ (wsL_law0_r47_in w h)), List.forall_mem_append.mpr ⟨(fun w h => List.mem_append_right _ (wsL_law0_r48_in w h)), List.forall_mem_append.mpr ⟨(fun w h => List.mem_append_right _ (wsL_law0_r49_in w h)), List.forall_mem_append.mpr ⟨(fun w h => List.mem_append_right _ (wsL_law0_r50_in w h)), List.forall_mem_append.mpr ⟨(fun w h => List.mem_append_right _ (wsL_law0_r51_in w h)), List.forall_mem_append.mpr ⟨(fun w h => List.mem_append_right _ (wsL_law0_r52_in w h)), List.forall_mem_append.mpr ⟨(fun w h => List.mem_append_right _ (wsL_law0_r53_in w h)), List.forall_mem_append.mpr ⟨(fun w h => List.mem_append_right _ (wsL_law0_r54_in w h)), List.forall_mem_append.mpr ⟨(fun w h => List.mem_append_right _ (wsL_law0_r55_in w h)), List.forall_mem_append.mpr ⟨(fun w h => List.mem_append_right _ (wsL_law0_r56_in w h)), List.forall_mem_append.mpr ⟨(fun w h => List.mem_append_right _ (wsL_law0_r57_in w h)), List.forall_mem_append.mpr ⟨(fun w h => List.mem_append_right _ (wsL_law0_r58_in w h)), (fun w h => List.mem_append_right _ (wsL_law0_r59_in w h))⟩⟩⟩⟩⟩⟩⟩⟩⟩⟩⟩⟩⟩⟩⟩⟩⟩⟩⟩⟩⟩⟩⟩⟩⟩⟩⟩⟩⟩⟩⟩⟩⟩⟩⟩⟩⟩⟩⟩⟩⟩⟩⟩⟩⟩⟩⟩⟩⟩⟩⟩⟩⟩⟩⟩⟩⟩⟩, (fun w h => List.mem_append_right _ (wsX60_inT w h))⟩, (fun w h => List.mem_append_right _ (wsX70_inT w h))⟩, (fun w h => List.mem_append_right _ (wsX30_inT w h))⟩, (fun w h => List.mem_append_right _ (wsX40_inT w h))⟩, (fun w h => List.mem_append_right _ (wsJ40_inT w h))⟩, (fun w h => List.mem_append_right _ (wsX20_inT w h))⟩, (fun w h => List.mem_append_right _ (wsX50_inT w h))⟩, (fun w h => List.mem_append_right _ (wsJx7c7330_inT w h))⟩, (fun w h => List.mem_append_right _ (wsJx000600_inT w h))⟩, (fun w h => List.mem_append_right _ (wsJ00_inT w h))⟩, fun _ h => absurd h List.not_mem_nil⟩
theorem wsL_law_x0 : ∀ w ∈ (vx_atM "java/lang/ArrayIndexOutOfBoundsException" ["java/lang/IndexOutOfBoundsException", "java/lang/RuntimeException", "java/lang/Exception"]).filter goodWord, w ∈ lw_tbl := by decide +kernel
theorem wsL_law_x1 : ∀ w ∈ (vx_atS RX6 103 "java/lang/IndexOutOfBoundsException" ["java/lang/RuntimeException", "java/lang/Exception"]).filter goodWord, w ∈ lw_tbl := by decide +kernel
theorem wsL_law_x2 : ∀ w ∈ (vx_atS RX6 110 "java/lang/IllegalArgumentException" ["java/lang/RuntimeException", "java/lang/Exception"]).filter goodWord, w ∈ lw_tbl := by decide +kernel
theorem wsL_law_x3 : ∀ w ∈ (vx_atS RX6 115 "java/lang/IllegalStateException" ["java/lang/RuntimeException", "java/lang/Exception"]).filter goodWord, w ∈ lw_tbl := by decide +kernel
theorem wsL_law_x4 : ∀ w ∈ (vx_atS RX6 120 "java/lang/UnsupportedOperationException" ["java/lang/RuntimeException", "java/lang/Exception"]).filter goodWord, w ∈ lw_tbl := by decide +kernel
theorem wsL_law_x5 : ∀ w ∈ nx_at.filter goodWord, w ∈ lw_tbl := by decide +kernel
theorem wsL_law_x6 : ∀ w ∈ (vx_atS RX6 294 "java/lang/ArithmeticException" ["java/lang/RuntimeException", "java/lang/Exception"]).filter goodWord, w ∈ lw_tbl := by decide +kernel
theorem wsL_law_x7 : ∀ w ∈ (vx_atM "java/lang/ArithmeticException" ["java/lang/RuntimeException", "java/lang/Exception"]).filter goodWord, w ∈ lw_tbl := by decide +kernel
theorem wsL_law_in : ∀ w ∈ wsL_law, w ∈ x_tbl := fun w h => (List.mem_append.mp h).elim (fun h => (List.mem_append.mp h).elim (fun h => (List.mem_append.mp h).elim (fun h => (List.mem_append.mp h).elim (fun h => (List.mem_append.mp h).elim (fun h => (List.mem_append.mp h).elim (fun h => (List.mem_append.mp h).elim (fun h => (List.mem_append.mp h).elim (fun h => wsL_law_in0 w h) (fun h => List.mem_append_right _ (wsL_law_x0 w h))) (fun h => List.mem_append_right _ (wsL_law_x1 w h))) (fun h => List.mem_append_right _ (wsL_law_x2 w h))) (fun h => List.mem_append_right _ (wsL_law_x3 w h))) (fun h => List.mem_append_right _ (wsL_law_x4 w h))) (fun h => List.mem_append_right _ (wsL_law_x5 w h))) (fun h => List.mem_append_right _ (wsL_law_x6 w h))) (fun h => List.mem_append_right _ (wsL_law_x7 w h))
