theorem s_Nc {args : Array Value} {s : State} (h : (Cond.and given_1 narrow_1).before args s = true) : ∀ q ∈ xNc, va_Nc q.1 q.2 s := by
  have hs := flat_of_before _ h
  have hc : ∀ q ∈ xNc, Cond.not (.castable q.1 q.2) ∈ flatC (Cond.and given_1 narrow_1) := by decide +kernel
  exact fun q hq => va_Nc.of (hs _ (hc q hq))
