/-! the law's words, out of the tables: three selects of private methods above StringBuilder beside them -/
theorem x_sel_priv {C : String} {y z : MethodName} {s : State} {args : Array Value} {n : Nat} (hy : y.cls ≠ "java/lang/invoke/MethodHandle" ∧ y.cls ≠ "java/lang/invoke/VarHandle") (hins : (Cond.instantiable C n).before args s = true) (hpriv : (Cond.privateMethod y).before args s = true) (hinst : (Cond.instanceMethod y).before args s = true) (hz : z.cls = y.cls) (hsel : (Cond.selects C z z).before args s = true) : (Cond.selects C y y).before args s = true := by
  obtain ⟨c, k, hc, -⟩ := Cond.instantiable_spec hins
  obtain ⟨mk, methM, hnamed, hmethM, -, -⟩ := Cond.instanceMethod_spec hinst
  have hfound : s.methodFound? y.cls y.name y.desc = some mk := State.methodFound?_of_named hnamed hy
  have hs : selectMethod {} s.vm c mk = .method mk := selectMethod_private hmethM (Cond.privateMethod_at hpriv mk methM hnamed hmethM)
  obtain ⟨c2, r2, m2, q1, q2, q3, q4, kP, hkP, hkPi⟩ := Cond.selects_spec hsel
  have h3 := findClass_of_methodNamed q3
  rw [hz] at h3
  have hcls : mk.cls = m2.cls := Option.some.inj ((findClass_of_methodNamed hnamed).symm.trans h3)
  rw [← hcls] at hkP
  simp only [Cond.before, Cond.holds, Cond.value, hc, hfound, hnamed, hs, hkP]
  simp
  exact hkPi
def x_sel3 : List Cond := [.selects RJ4 yJ5_ensureCapacityInternal_d00df yJ5_ensureCapacityInternal_d00df, .selects RJ4 yJ5_newCapacity_0f7a4 yJ5_newCapacity_0f7a4, .selects RJ4 yJ5_inflate_da8c8 yJ5_inflate_da8c8]
def x_tbl : List Cond := x_sel3 ++ lw_tbl
theorem x_tbl_ok {s : State} {args : Array Value} (hts : ∀ w ∈ lw_tbl, w.before args s = true) : ∀ w ∈ x_tbl, w.before args s = true := by
  have h0 : (Cond.instantiable RJ4 4).before args s = true := hts _ (by decide +kernel)
  have h1 : (Cond.selects RJ4 yJ5_isLatin1_aae02 yJ5_isLatin1_aae02).before args s = true := hts _ (by decide +kernel)
  intro w hw
  rcases List.mem_append.mp hw with hw | hw
  · unfold x_sel3 at hw
    simp only [List.mem_cons, List.not_mem_nil, or_false] at hw
    rcases hw with rfl | rfl | rfl
    · exact x_sel_priv (z := yJ5_isLatin1_aae02) (by decide) h0 (hts _ (by decide +kernel)) (hts _ (by decide +kernel)) rfl h1
    · exact x_sel_priv (z := yJ5_isLatin1_aae02) (by decide) h0 (hts _ (by decide +kernel)) (hts _ (by decide +kernel)) rfl h1
    · exact x_sel_priv (z := yJ5_isLatin1_aae02) (by decide) h0 (hts _ (by decide +kernel)) (hts _ (by decide +kernel)) rfl h1
  · exact hts w hw
