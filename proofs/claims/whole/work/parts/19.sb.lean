theorem va_OF_uq {o n d : String} {v v' : Value} {t : Nat} {A A' : Nat → Prop} {U : State} {H : Heap} (h1 : va_OF o n d v t A U H) (h2 : va_OF o n d v' t A' U H) : v = v' := by
  obtain ⟨cf, k, i, f, cell, a1, a2, a3, a4, a5, -⟩ := h1
  obtain ⟨cf', k', i', f', cell', b1, b2, b3, b4, b5, -⟩ := h2
  rw [a1] at b1
  cases b1
  rw [a3] at b3
  cases b3
  exact Option.some.inj (a5.symm.trans b5)
theorem s_fm {args : Array Value} {s : State} (h : (Cond.and given_1 narrow_1).before args s = true) : ∀ i, i < 10 → (Cond.eq (.field (.static RX1 (s_nm i) s_cd) RX1 "form" "Ljava/lang/String;") (.string RX1 (s_fk i))).before args s = true := by
  have hs := flat_of_before _ h
  have h1 : ∀ i, i < 10 → Cond.eq (.field (.static RX1 (s_nm i) s_cd) RX1 "form" "Ljava/lang/String;") (.string RX1 (s_fk i)) ∈ flatC (Cond.and given_1 narrow_1) := by decide +kernel
  exact fun i hi => hs _ (h1 i hi)
theorem s_f4_0 : Cond.exactly (.string RX1 (s_fk 0)) "java/lang/String" ∈ flatC (Cond.and given_1 narrow_1) ∧ Cond.eq (.field (.string RX1 (s_fk 0)) "java/lang/String" "coder" "B") (.int 0) ∈ flatC (Cond.and given_1 narrow_1) ∧ Cond.arrayOf (.field (.string RX1 (s_fk 0)) "java/lang/String" "value" "[B") .byte ∈ flatC (Cond.and given_1 narrow_1) ∧ Cond.eq (.length (.field (.string RX1 (s_fk 0)) "java/lang/String" "value" "[B")) (.int (Int32.ofNat (xFL.getD 0 0))) ∈ flatC (Cond.and given_1 narrow_1) := by decide +kernel
