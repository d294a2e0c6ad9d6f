/-! the start: words that no step changes -/
section S1
variable {args : Array Value} {s : State}
theorem s_Nw (hts : ∀ w ∈ lw_tbl, w.before args s = true) : ∀ w ∈ xNw, va_Nw w s := by
  have hc : ∀ w ∈ xNw, w ∈ lw_tbl := by decide +kernel
  exact fun w hw => va_Nw.of (xNw_tab w hw) (hts w (hc w hw))
theorem s_cN (hts : ∀ w ∈ lw_tbl, w.before args s = true) : ∀ w ∈ cNs, va_Nw w s := by
  have hc : ∀ w ∈ cNs, w ∈ lw_tbl := by decide +kernel
  have ht : ∀ w ∈ cNs, w.onTables = true := by decide
  exact fun w hw => va_Nw.of (ht w hw) (hts w (hc w hw))
theorem s_AO (hts : ∀ w ∈ lw_tbl, w.before args s = true) : va_AO RX2 s ∧ va_AO RX5 s ∧ va_AO RX3 s := ⟨va_AO.of (hts _ (by decide +kernel)), va_AO.of (hts _ (by decide +kernel)), va_AO.of (hts _ (by decide +kernel))⟩
end S1
