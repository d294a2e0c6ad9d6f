theorem s_Tx {args : Array Value} {s : State} (hts : ∀ w ∈ lw_tbl, w.before args s = true) : ∀ q ∈ xTx, ∃ sa, vk_R q.1 q.2.1 q.2.2 sa s := by
  have hc : ∀ q ∈ xTx, Cond.stringRef q.1 q.2.1 q.2.2 ∈ lw_tbl := by decide +kernel
  intro q hq
  have h1 := hts _ (hc q hq)
  have hcur : ∃ cur, s.vm.findClass q.1 = some cur := by
    have h2 := h1
    simp only [Cond.before, Cond.holds, Cond.value] at h2
    cases hf : s.vm.findClass q.1 with
    | none => simp [hf] at h2
    | some cur => exact ⟨cur, rfl⟩
  obtain ⟨cur, hcur⟩ := hcur
  obtain ⟨-, -, -, sa, -, -, -, -, -, hev⟩ := Cond.stringRef_spec hcur h1
  exact ⟨sa, vk_R.of h1 hev⟩
