theorem s_dif : ∀ i, i < 10 → ∀ j, j < 10 → xFL.getD i 0 = xFL.getD j 0 → (∀ k, k < xFL.getD i 0 → (xFB.getD i []).getD k 0 = (xFB.getD j []).getD k 0) → i = j := by decide
theorem s_ST {args : Array Value} {s : State} {A : Nat → Prop} (h : (Cond.and given_1 narrow_1).before args s = true) (hA : ∀ a : Nat, a < s.heap.size → ¬ A a) : ∃ adK adV : Nat → Nat, vk_S 10 xFL xFB adK adV A s s.heap ∧ ∀ i : Nat, i < 10 → (Term.string RX1 (s_fk i)).eval args s none [] s = some (.ref (adK i)) := by
  have hs := flat_of_before _ h
  have h0 : ∀ i : Nat, ∃ q : Nat × Nat, i < 10 → (Term.string RX1 (s_fk i)).eval args s none [] s = some (.ref q.1) ∧ va_O "java/lang/String" q.1 A s s.heap ∧ va_OF "java/lang/String" "coder" "B" (.int 0) q.1 A s s.heap ∧ va_OF "java/lang/String" "value" "[B" (.ref q.2) q.1 A s s.heap ∧ va_T .byte q.2 (xFL.getD i 0) (fun j => .int ((xFB.getD i []).getD j 0)) A s s.heap := by
    intro i
    by_cases hi : i < 10
    · obtain ⟨f1, f2, f3, f4⟩ := s_f4 i hi
      obtain ⟨a, c, cA, kA, q1, q2, q3, q4, q5, q6, -⟩ := Cond.exactly_spec (hs _ f1)
      have hl : ∀ i, i < 10 → xFL.getD i 0 < 2 ^ 31 := by decide
      obtain ⟨t, ht, hT⟩ := va_Tof (f := fun j => .int ((xFB.getD i []).getD j 0)) (A := A) (hl i hi) (hs _ f3) (va_eqt (hs _ f4)) (fun j hj => va_eqt (hs _ (s_f5 i hi j hj))) hA
      exact ⟨(a, t), fun _ => ⟨q1, ⟨cA, q3, q5, by rw [q6]; exact q2, hA a (Array.getElem?_eq_some_iff.mp q3).1⟩, vk_OFof q1 (va_eqt (hs _ f2)) hA, vk_OFof q1 ht hA, hT⟩⟩
    · exact ⟨(0, 0), fun h => absurd h hi⟩
  obtain ⟨ad, had⟩ := Classical.axiomOfChoice h0
  refine ⟨fun i => (ad i).1, fun i => (ad i).2, ⟨fun i hi => (had i hi).2, fun i j hi hj e => ?_⟩, fun i hi => (had i hi).1⟩
  have e : (ad i).1 = (ad j).1 := e
  have hi2 := (had i hi).2.2.2
  have hj2 := (had j hj).2.2.2
  rw [e] at hi2
  have ev := va_OF_uq hi2.1 hj2.1
  have ev : (ad i).2 = (ad j).2 := by injection ev
  have ti := hi2.2
  have tj := hj2.2
  rw [ev] at ti
  obtain ⟨ci, p1, p2, p3, p4, p5, p6, p7⟩ := ti
  obtain ⟨cj, r1, r2, r3, r4, r5, r6, r7⟩ := tj
  rw [p1] at r1
  cases r1
  have eN : xFL.getD i 0 = xFL.getD j 0 := by
    have hl : ∀ i, i < 10 → xFL.getD i 0 < 2 ^ 31 := by decide
    exact (nI_eq (hl i hi) (hl j hj)).mp (p5.symm.trans r5)
  refine s_dif i hi j hj eN fun k hk => ?_
  have a1 := p6 k hk
  have a2 := r6 k (by rw [← eN]; exact hk)
  rw [a1] at a2
  injection a2 with a2
  injection a2
