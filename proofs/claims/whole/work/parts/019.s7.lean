theorem s_Kn {args : Array Value} {s : State} (hts : ∀ w ∈ lw_tbl, w.before args s = true) : ∃ (dC : Nat → ClassId) (dI : Nat → Nat → Nat), ∀ (k : Nat) (q : vw_C), vwCl[k]? = some q → u_Kn s q.1 q.2.1 q.2.2 (dC k) (dI k) := by
  have hw : ∀ q ∈ vwCl, ∀ w ∈ u_ws q.1 q.2.1 q.2.2, w ∈ lw_tbl := by
    intro q hq
    simp only [List.mem_cons, List.not_mem_nil, or_false] at hq
    rcases hq with rfl | rfl | rfl | rfl | rfl | rfl | rfl | rfl | rfl | rfl
    all_goals decide +kernel
  refine s_K (x_tbl_ok hts) (fun q hq w h => List.mem_append_right _ (hw q hq w h)) ?_
  intro q hq
  simp only [List.mem_cons, List.not_mem_nil, or_false] at hq
  rcases hq with rfl | rfl | rfl | rfl | rfl | rfl | rfl | rfl | rfl | rfl
  · exact ⟨4, hts _ (by decide +kernel)⟩
  · exact ⟨4, hts _ (by decide +kernel)⟩
  · exact ⟨6, hts _ (by decide +kernel)⟩
  · exact ⟨6, hts _ (by decide +kernel)⟩
  · exact ⟨7, hts _ (by decide +kernel)⟩
  · exact ⟨14, hts _ (by decide +kernel)⟩
  · exact ⟨3, hts _ (by decide +kernel)⟩
  · exact ⟨4, hts _ (by decide +kernel)⟩
  · exact ⟨11, hts _ (by decide +kernel)⟩
  · exact ⟨21, hts _ (by decide +kernel)⟩
