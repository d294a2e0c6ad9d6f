theorem s_n1 {c : Cond} (h : c ∈ flatC narrow_1_1) : c ∈ flatC (Cond.and given_1 narrow_1) := by
  have e : flatC (Cond.and given_1 narrow_1) = flatC given_1 ++ ((flatC narrow_1_1 ++ flatC narrow_1_2) ++ (flatC narrow_1_3 ++ (flatC narrow_1_4 ++ flatC narrow_1_5))) := rfl
  rw [e]
  exact List.mem_append_right _ (List.mem_append_left _ (List.mem_append_left _ h))
theorem s_DOg : ((flatC narrow_1_1).drop 12).take 100 = (List.range 100).map fun j => Cond.eq (.elem (.static "java/lang/Integer" "DigitOnes" "[B") (.int (Int32.ofNat j))) (.int (xDO j)) := by decide +kernel
section S4
variable {args : Array Value} {s : State} {A : Nat → Prop}
theorem s_DO (hts : ∀ w ∈ lw_tbl, w.before args s = true) (h : (Cond.and given_1 narrow_1).before args s = true) (hA : ∀ a : Nat, a < s.heap.size → ¬ A a) : ∃ t, va_Z "java/lang/Integer" "DigitOnes" "[B" (.ref t) A s s.heap ∧ va_T .byte t 100 (fun j => .int (xDO j)) A s s.heap := by
  have hs := flat_of_before _ h
  have hc : ∀ j, j < 100 → Cond.eq (.elem (.static "java/lang/Integer" "DigitOnes" "[B") (.int (Int32.ofNat j))) (.int (xDO j)) ∈ flatC (Cond.and given_1 narrow_1) := fun j hj => s_n1 (List.mem_of_mem_drop (List.mem_of_mem_take (by rw [s_DOg]; exact List.mem_map.mpr ⟨j, List.mem_range.mpr hj, rfl⟩)))
  obtain ⟨t, ht, hT⟩ := va_Tof (tm := .static "java/lang/Integer" "DigitOnes" "[B") (ty := .byte) (N := 100) (f := fun j => .int (xDO j)) (A := A) (by decide) (hs _ (by decide +kernel)) (va_eqt (hs (.eq (.length (.static "java/lang/Integer" "DigitOnes" "[B")) (.int 100)) (by decide +kernel))) (fun j hj => va_eqt (hs _ (hc j hj))) hA
  exact ⟨t, va_Zref (hts _ (by decide +kernel)) (hts _ (by decide +kernel)) ht hA, hT⟩
end S4
