theorem s_self {s : State} : s.setDrawn s.drawn = s := rfl
theorem s_hfl {l : Launch} (hflags : l.flags = flags0) : l.stackTraces = false := by
  unfold Launch.stackTraces
  rw [hflags]
  decide
