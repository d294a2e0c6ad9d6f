/-! pure: the model doing the nine commands, first half -/
def om (o : Nat × Nat × hS) : Int32 := if o.1 = 0 then nI o.2.1 else mI
def mR (M M' : xM) (o : Nat × Nat × hS) : Prop := (o.1 = 0 → ∃ g', M' = mG M 10 g' ∧ dH g' o.2.2 (aW o.2.2)) ∧ (o.1 ≠ 0 → M' = sI M 9 9 (nI o.1))
theorem mR_no {M : xM} {t v : Nat} {s : hS} (h : t ≠ 0) : mR M (sI M 9 9 (nI t)) (t, v, s) := ⟨fun z => absurd z h, fun _ => rfl⟩
theorem mR_yes {M : xM} {v : Nat} {s : hS} {g' : Nat → Int32} (d : dH g' s (aW s)) : mR M (mG M 10 g') (0, v, s) := ⟨fun _ => ⟨g', rfl, d⟩, fun z => absurd rfl z⟩
theorem m_throw {M : xM} {t : Int32} : f_X7_throwing t M = some (mI, sI M 9 9 t) := rfl
theorem m_bind2 {α β : Type} (o : Option (α × β)) : (o.bind fun q => some (q.1, q.2)) = o := by cases o <;> rfl
section MO
variable {M : xM} {s : hS} {a : Nat → Nat}
theorem m_here (d : dH (M.1 10) s a) (hn : s.1 0 ≤ 12) {x : Nat} (hx : x < s.1 0) : f_X7_isHere (nI x) M = some (nI 1) := by
  unfold f_X7_isHere
  simp (disch := omega) only [↓reduceIte, pi_0, pi_1, pi_2, pi_3, pi_4, pi_5, pi_6, pi_7, pi_8, pi_9, pi_10, pi_11, pi_12, pi_13, pi_20, pi_27, pi_30, pi_60, pi_99, pi_115, pi_123, pi_135, pi_136, pi_137, pi_138, pi_139, pi_158, pi_159, pi_1113, m_neg, nI_add, pk_mul, pi_sub, mI_dec, pi_cl, pi_leT, pi_leF, pi_ltT, pi_ltF, pi_eqT, pi_eqF, mI_n, m_in159, Option.bind_some, f_X7_personAt, f_X7_windowAt, mG_i, mG_g, mG_s, pk_us, pk_un, m_l0, m_in, d.n]
  simp (disch := omega) only [↓reduceIte, pi_0, pi_1, pi_2, pi_3, pi_4, pi_5, pi_6, pi_7, pi_8, pi_9, pi_10, pi_11, pi_12, pi_13, pi_20, pi_27, pi_30, pi_60, pi_99, pi_115, pi_123, pi_135, pi_136, pi_137, pi_138, pi_139, pi_158, pi_159, pi_1113, m_neg, nI_add, pk_mul, pi_sub, mI_dec, pi_cl, pi_leT, pi_leF, pi_ltT, pi_ltF, pi_eqT, pi_eqF, mI_n, m_in159, Option.bind_some, f_X7_personAt, f_X7_windowAt, mG_i, mG_g, mG_s, pk_us, pk_un, and_self, or_true]
theorem m_herent (d : dH (M.1 10) s a) (hn : s.1 0 ≤ 12) {b : Int32} (hx : ∀ i, i < s.1 0 → b ≠ nI i) : f_X7_isHere b M = some (nI 0) := by
  unfold f_X7_isHere
  simp (disch := omega) only [↓reduceIte, pi_0, pi_1, pi_2, pi_3, pi_4, pi_5, pi_6, pi_7, pi_8, pi_9, pi_10, pi_11, pi_12, pi_13, pi_20, pi_27, pi_30, pi_60, pi_99, pi_115, pi_123, pi_135, pi_136, pi_137, pi_138, pi_139, pi_158, pi_159, pi_1113, m_neg, nI_add, pk_mul, pi_sub, mI_dec, pi_cl, pi_leT, pi_leF, pi_ltT, pi_ltF, pi_eqT, pi_eqF, mI_n, m_in159, Option.bind_some, f_X7_personAt, f_X7_windowAt, mG_i, mG_g, mG_s, pk_us, pk_un, m_l0, m_in, d.n]
  have e : ¬ (nI 0 ≤ b ∧ b ≤ nI (s.1 0) - nI 1) := fun z => by
    rcases pk_ix b (n := s.1 0) (by omega) with h | h | ⟨j, hj, e⟩
    · exact absurd z.1 (Int32.not_le.mpr h)
    · by_cases g : s.1 0 = 0
      · rw [g] at z h
        have := z.2
        rw [Int32.le_iff_toInt_le] at h this
        have e1 : (nI 0 - nI 1).toInt = -1 := by decide
        have e2 : (nI 0).toInt = 0 := by decide
        omega
      · have := z.2
        rw [pi_sub (by omega)] at this
        rw [Int32.le_iff_toInt_le] at h this
        rw [nI_toInt (by omega)] at h this
        omega
    · exact hx j hj e
  rw [if_neg e]
  simp (disch := omega) only [↓reduceIte, pi_0, pi_1, pi_2, pi_3, pi_4, pi_5, pi_6, pi_7, pi_8, pi_9, pi_10, pi_11, pi_12, pi_13, pi_20, pi_27, pi_30, pi_60, pi_99, pi_115, pi_123, pi_135, pi_136, pi_137, pi_138, pi_139, pi_158, pi_159, pi_1113, m_neg, nI_add, pk_mul, pi_sub, mI_dec, pi_cl, pi_leT, pi_leF, pi_ltT, pi_ltF, pi_eqT, pi_eqF, mI_n, m_in159, Option.bind_some, f_X7_personAt, f_X7_windowAt, mG_i, mG_g, mG_s, pk_us, pk_un, true_or]
theorem m_win {w : Nat} (hw : w < 3) : f_X7_isWindow (nI w) M = some (nI 1) := by
  unfold f_X7_isWindow
  simp (disch := omega) only [↓reduceIte, pi_0, pi_1, pi_2, pi_3, pi_4, pi_5, pi_6, pi_7, pi_8, pi_9, pi_10, pi_11, pi_12, pi_13, pi_20, pi_27, pi_30, pi_60, pi_99, pi_115, pi_123, pi_135, pi_136, pi_137, pi_138, pi_139, pi_158, pi_159, pi_1113, m_neg, nI_add, pk_mul, pi_sub, mI_dec, pi_cl, pi_leT, pi_leF, pi_ltT, pi_ltF, pi_eqT, pi_eqF, mI_n, m_in159, Option.bind_some, f_X7_personAt, f_X7_windowAt, mG_i, mG_g, mG_s, pk_us, pk_un, m_l0, m_l2, m_in, and_self, or_true]
theorem m_winnt {b : Int32} (hx : ∀ i, i < 3 → b ≠ nI i) : f_X7_isWindow b M = some (nI 0) := by
  unfold f_X7_isWindow
  simp (disch := omega) only [↓reduceIte, pi_0, pi_1, pi_2, pi_3, pi_4, pi_5, pi_6, pi_7, pi_8, pi_9, pi_10, pi_11, pi_12, pi_13, pi_20, pi_27, pi_30, pi_60, pi_99, pi_115, pi_123, pi_135, pi_136, pi_137, pi_138, pi_139, pi_158, pi_159, pi_1113, m_neg, nI_add, pk_mul, pi_sub, mI_dec, pi_cl, pi_leT, pi_leF, pi_ltT, pi_ltF, pi_eqT, pi_eqF, mI_n, m_in159, Option.bind_some, f_X7_personAt, f_X7_windowAt, mG_i, mG_g, mG_s, pk_us, pk_un, m_l0, m_l2, m_in]
  have e : ¬ (nI 0 ≤ b ∧ b ≤ nI 2) := fun z => by
    rcases pk_ix b (n := 3) (by omega) with h | h | ⟨j, hj, e⟩
    · exact absurd z.1 (Int32.not_le.mpr h)
    · have := z.2
      rw [Int32.le_iff_toInt_le] at h this
      rw [nI_toInt (by omega)] at h this
      omega
    · exact hx j hj e
  rw [if_neg e]
  simp (disch := omega) only [↓reduceIte, pi_0, pi_1, pi_2, pi_3, pi_4, pi_5, pi_6, pi_7, pi_8, pi_9, pi_10, pi_11, pi_12, pi_13, pi_20, pi_27, pi_30, pi_60, pi_99, pi_115, pi_123, pi_135, pi_136, pi_137, pi_138, pi_139, pi_158, pi_159, pi_1113, m_neg, nI_add, pk_mul, pi_sub, mI_dec, pi_cl, pi_leT, pi_leF, pi_ltT, pi_ltF, pi_eqT, pi_eqF, mI_n, m_in159, Option.bind_some, f_X7_personAt, f_X7_windowAt, mG_i, mG_g, mG_s, pk_us, pk_un, true_or]
theorem m_rng {b : Int32} {lo hi : Nat} (hh : hi < 2 ^ 31) (hl : lo ≤ hi) : f_X7_in b.toInt64 (nI lo).toInt64 (nI hi).toInt64 M = some (if lo ≤ ix b ∧ ix b ≤ hi then nI 1 else nI 0) := by
  rw [m_in]
  have := ix_rng (a := b) hh hl
  by_cases g : lo ≤ ix b ∧ ix b ≤ hi
  · rw [if_pos g, if_pos]
    refine ⟨Int32.not_lt.mp fun z => ?_, Int32.not_lt.mp fun z => ?_⟩
    · exact this.mp (.inl z) g
    · exact this.mp (.inr z) g
  · rw [if_neg g, if_neg]
    intro z
    rcases this.mpr g with y | y
    · exact absurd z.1 (Int32.not_le.mpr y)
    · exact absurd z.2 (Int32.not_le.mpr y)
theorem m_atw (d : dH (M.1 10) s (aW s)) (hn : s.1 0 ≤ 12) {x : Nat} (hx : x < s.1 0) : f_X7_isAtWindow (nI x) M = some (if aW s x = 0 then nI 0 else nI 1) := by
  have e := d.at_ hx
  have := aW_le (s := s) (i := x)
  unfold f_X7_isAtWindow
  by_cases g : aW s x = 0
  · rw [g] at e
    simp (disch := omega) only [↓reduceIte, pi_0, pi_1, pi_2, pi_3, pi_4, pi_5, pi_6, pi_7, pi_8, pi_9, pi_10, pi_11, pi_12, pi_13, pi_20, pi_27, pi_30, pi_60, pi_99, pi_115, pi_123, pi_135, pi_136, pi_137, pi_138, pi_139, pi_158, pi_159, pi_1113, m_neg, nI_add, pk_mul, pi_sub, mI_dec, pi_cl, pi_leT, pi_leF, pi_ltT, pi_ltF, pi_eqT, pi_eqF, mI_n, m_in159, Option.bind_some, f_X7_personAt, f_X7_windowAt, mG_i, mG_g, mG_s, pk_us, pk_un, m_mI, e, eI_z, if_pos g]
  · rw [eI_p (by omega)] at e
    simp (disch := omega) only [↓reduceIte, pi_0, pi_1, pi_2, pi_3, pi_4, pi_5, pi_6, pi_7, pi_8, pi_9, pi_10, pi_11, pi_12, pi_13, pi_20, pi_27, pi_30, pi_60, pi_99, pi_115, pi_123, pi_135, pi_136, pi_137, pi_138, pi_139, pi_158, pi_159, pi_1113, m_neg, nI_add, pk_mul, pi_sub, mI_dec, pi_cl, pi_leT, pi_leF, pi_ltT, pi_ltF, pi_eqT, pi_eqF, mI_n, m_in159, Option.bind_some, f_X7_personAt, f_X7_windowAt, mG_i, mG_g, mG_s, pk_us, pk_un, m_mI, e, if_neg g]
theorem m_manyL (d : dH (M.1 10) s a) (b : aB s) : ∀ (m k c n : Nat), k + m = 3 → m < n → f_X7_openMany_L4 M n (nI c) (nI k) = some (nI (c + pc (fun w => decide (0 < hW s w 0)) k m))
  | 0, k, c, n, e, hn => by
    obtain ⟨n, rfl⟩ : ∃ n', n = n' + 1 := ⟨n - 1, by omega⟩
    rw [f_X7_openMany_L4.eq_2]
    simp (disch := omega) only [↓reduceIte, pi_0, pi_1, pi_2, pi_3, pi_4, pi_5, pi_6, pi_7, pi_8, pi_9, pi_10, pi_11, pi_12, pi_13, pi_20, pi_27, pi_30, pi_60, pi_99, pi_115, pi_123, pi_135, pi_136, pi_137, pi_138, pi_139, pi_158, pi_159, pi_1113, m_neg, nI_add, pk_mul, pi_sub, mI_dec, pi_cl, pi_leT, pi_leF, pi_ltT, pi_ltF, pi_eqT, pi_eqF, mI_n, m_in159, Option.bind_some, f_X7_personAt, f_X7_windowAt, mG_i, mG_g, mG_s, pk_us, pk_un]
    rfl
  | m + 1, k, c, n, e, hn => by
    obtain ⟨n, rfl⟩ : ∃ n', n = n' + 1 := ⟨n - 1, by omega⟩
    rw [f_X7_openMany_L4.eq_2, m_isOpen d b (by omega)]
    unfold pc
    by_cases g : 0 < hW s k 0
    · simp (disch := omega) only [↓reduceIte, pi_0, pi_1, pi_2, pi_3, pi_4, pi_5, pi_6, pi_7, pi_8, pi_9, pi_10, pi_11, pi_12, pi_13, pi_20, pi_27, pi_30, pi_60, pi_99, pi_115, pi_123, pi_135, pi_136, pi_137, pi_138, pi_139, pi_158, pi_159, pi_1113, m_neg, nI_add, pk_mul, pi_sub, mI_dec, pi_cl, pi_leT, pi_leF, pi_ltT, pi_ltF, pi_eqT, pi_eqF, mI_n, m_in159, Option.bind_some, f_X7_personAt, f_X7_windowAt, mG_i, mG_g, mG_s, pk_us, pk_un, if_pos g]
      rw [m_manyL d b m (k + 1) (c + 1) n (by omega) (by omega), if_pos (decide_eq_true g), Nat.add_assoc]
    · simp (disch := omega) only [↓reduceIte, pi_0, pi_1, pi_2, pi_3, pi_4, pi_5, pi_6, pi_7, pi_8, pi_9, pi_10, pi_11, pi_12, pi_13, pi_20, pi_27, pi_30, pi_60, pi_99, pi_115, pi_123, pi_135, pi_136, pi_137, pi_138, pi_139, pi_158, pi_159, pi_1113, m_neg, nI_add, pk_mul, pi_sub, mI_dec, pi_cl, pi_leT, pi_leF, pi_ltT, pi_ltF, pi_eqT, pi_eqF, mI_n, m_in159, Option.bind_some, f_X7_personAt, f_X7_windowAt, mG_i, mG_g, mG_s, pk_us, pk_un, if_neg g]
      rw [m_manyL d b m (k + 1) (c + 0) n (by omega) (by omega), if_neg (by simp [g]), Nat.add_assoc]
theorem m_many (d : dH (M.1 10) s a) (b : aB s) : f_X7_openMany M = some (nI (aOpens s)) := by
  unfold f_X7_openMany aOpens
  have := m_manyL d b 3 0 0 xF (by omega) (by rw [xF_2000]; omega)
  rw [Nat.zero_add] at this
  exact this
theorem m_sitsL (d : dH (M.1 10) s a) (hn : s.1 0 ≤ 12) (hF : aF s) : ∀ (m k c n : Nat), k + m = s.1 0 → m < n → f_X7_sitting_L4 M n (nI c) (nI k) = some (nI (c + pc (fun i => decide (hC s i 6 ≠ 0)) k m))
  | 0, k, c, n, e, hm => by
    obtain ⟨n, rfl⟩ : ∃ n', n = n' + 1 := ⟨n - 1, by omega⟩
    rw [f_X7_sitting_L4.eq_2]
    simp (disch := omega) only [↓reduceIte, pi_0, pi_1, pi_2, pi_3, pi_4, pi_5, pi_6, pi_7, pi_8, pi_9, pi_10, pi_11, pi_12, pi_13, pi_20, pi_27, pi_30, pi_60, pi_99, pi_115, pi_123, pi_135, pi_136, pi_137, pi_138, pi_139, pi_158, pi_159, pi_1113, m_neg, nI_add, pk_mul, pi_sub, mI_dec, pi_cl, pi_leT, pi_leF, pi_ltT, pi_ltF, pi_eqT, pi_eqF, mI_n, m_in159, Option.bind_some, f_X7_personAt, f_X7_windowAt, mG_i, mG_g, mG_s, pk_us, pk_un, d.n]
    rfl
  | m + 1, k, c, n, e, hm => by
    obtain ⟨n, rfl⟩ : ∃ n', n = n' + 1 := ⟨n - 1, by omega⟩
    have e6 := d.p6 (i := k) (by omega)
    have f6 := (hF k (by omega)).2
    rw [f_X7_sitting_L4.eq_2]
    simp (disch := omega) only [↓reduceIte, pi_0, pi_1, pi_2, pi_3, pi_4, pi_5, pi_6, pi_7, pi_8, pi_9, pi_10, pi_11, pi_12, pi_13, pi_20, pi_27, pi_30, pi_60, pi_99, pi_115, pi_123, pi_135, pi_136, pi_137, pi_138, pi_139, pi_158, pi_159, pi_1113, m_neg, nI_add, pk_mul, pi_sub, mI_dec, pi_cl, pi_leT, pi_leF, pi_ltT, pi_ltF, pi_eqT, pi_eqF, mI_n, m_in159, Option.bind_some, f_X7_personAt, f_X7_windowAt, mG_i, mG_g, mG_s, pk_us, pk_un, d.n, e6]
    unfold pc
    rw [m_sitsL d hn hF m (k + 1) _ n (by omega) (by omega)]
    by_cases g : hC s k 6 = 0
    · rw [if_neg (by simp [g]), g]
      rw [Nat.add_assoc]
    · rw [if_pos (decide_eq_true g), show hC s k 6 = 1 by omega, Nat.add_assoc]
theorem m_sits (d : dH (M.1 10) s a) (hn : s.1 0 ≤ 12) (hF : aF s) : f_X7_sitting M = some (nI (aSits s)) := by
  unfold f_X7_sitting aSits
  have := m_sitsL d hn hF (s.1 0) 0 0 xF (by omega) (by rw [xF_2000]; omega)
  rw [Nat.zero_add] at this
  exact this
theorem mo_open {a o p : Int32} (d : dH (M.1 10) s (aW s)) (b : aB s) : ∃ M', f_X7_openIt a o p M = some (om (oOpen (ix a) (ix o) (ix p) s), M') ∧ mR M M' (oOpen (ix a) (ix o) (ix p) s) := by
  unfold oOpen f_X7_openIt
  by_cases g : ix a < 3
  · have ea := ix_eq (a := a) (by omega)
    rw [if_pos g]
    generalize ix a = w at g ea ⊢
    subst ea
    have e0 := (b.2.2.2.1 w g).1
    rw [m_win g]
    simp (disch := omega) only [↓reduceIte, pi_0, pi_1, pi_2, pi_3, pi_4, pi_5, pi_6, pi_7, pi_8, pi_9, pi_10, pi_11, pi_12, pi_13, pi_20, pi_27, pi_30, pi_60, pi_99, pi_115, pi_123, pi_135, pi_136, pi_137, pi_138, pi_139, pi_158, pi_159, pi_1113, m_neg, nI_add, pk_mul, pi_sub, mI_dec, pi_cl, pi_leT, pi_leF, pi_ltT, pi_ltF, pi_eqT, pi_eqF, mI_n, m_in159, Option.bind_some, f_X7_personAt, f_X7_windowAt, mG_i, mG_g, mG_s, pk_us, pk_un, m_l1, m_l99, m_l9, m_rng, m_throw]
    by_cases g2 : 1 ≤ ix o ∧ ix o ≤ 99
    · rw [if_pos g2]
      simp (disch := omega) only [↓reduceIte, pi_0, pi_1, pi_2, pi_3, pi_4, pi_5, pi_6, pi_7, pi_8, pi_9, pi_10, pi_11, pi_12, pi_13, pi_20, pi_27, pi_30, pi_60, pi_99, pi_115, pi_123, pi_135, pi_136, pi_137, pi_138, pi_139, pi_158, pi_159, pi_1113, m_neg, nI_add, pk_mul, pi_sub, mI_dec, pi_cl, pi_leT, pi_leF, pi_ltT, pi_ltF, pi_eqT, pi_eqF, mI_n, m_in159, Option.bind_some, f_X7_personAt, f_X7_windowAt, mG_i, mG_g, mG_s, pk_us, pk_un]
      by_cases g3 : 1 ≤ ix p ∧ ix p ≤ 9
      · rw [if_pos g3, if_pos (show (1 ≤ ix o ∧ ix o ≤ 99) ∧ (1 ≤ ix p ∧ ix p ≤ 9) from ⟨g2, g3⟩)]
        have eo := ix_eq (a := o) (by omega)
        have ep := ix_eq (a := p) (by omega)
        generalize ix o = x at g2 eo ⊢
        subst eo
        generalize ix p = y at g3 ep ⊢
        subst ep
        rw [m_isOpen d b g]
        by_cases g4 : hW s w 0 = 0
        · rw [if_pos g4, if_neg (show ¬ 0 < hW s w 0 by omega)]
          have d1 := d.uW01 b.1 (w := w) (o := x) (p := y) g
          have b1 : aB (aOpen w x y s) := aB_uW (aB_uW b (by omega) (by omega) (by omega) (by omega)) (by omega) (by omega) (by omega) (by omega)
          simp (disch := omega) only [↓x_let_e, ↓reduceIte, pi_0, pi_1, pi_2, pi_3, pi_4, pi_5, pi_6, pi_7, pi_8, pi_9, pi_10, pi_11, pi_12, pi_13, pi_20, pi_27, pi_30, pi_60, pi_99, pi_115, pi_123, pi_135, pi_136, pi_137, pi_138, pi_139, pi_158, pi_159, pi_1113, m_neg, nI_add, pk_mul, pi_sub, mI_dec, pi_cl, pi_leT, pi_leF, pi_ltT, pi_ltF, pi_eqT, pi_eqF, mI_n, m_in159, Option.bind_some, f_X7_personAt, f_X7_windowAt, mG_i, mG_g, mG_s, pk_us, pk_un]
          rw [m_many (M := mG M 10 (upd (upd (M.1 10) (12 + 5 * w) (nI x)) (12 + 5 * w + 1) (nI y))) (by rw [mG_s]; exact d1) b1]
          exact ⟨_, rfl, mR_yes (d1.ca fun i _ => aW_cg fun v hv => by
            have : wo (aOpen w x y s) v = wo s v := by
              show hW (uW (uW s w 0 x) w 1 y) v 2 = _
              rw [uW_f (by decide), uW_f (by decide)]
            rw [this])⟩
        · rw [if_neg g4, if_pos (show 0 < hW s w 0 by omega)]
          simp (disch := omega) only [↓reduceIte, pi_0, pi_1, pi_2, pi_3, pi_4, pi_5, pi_6, pi_7, pi_8, pi_9, pi_10, pi_11, pi_12, pi_13, pi_20, pi_27, pi_30, pi_60, pi_99, pi_115, pi_123, pi_135, pi_136, pi_137, pi_138, pi_139, pi_158, pi_159, pi_1113, m_neg, nI_add, pk_mul, pi_sub, mI_dec, pi_cl, pi_leT, pi_leF, pi_ltT, pi_ltF, pi_eqT, pi_eqF, mI_n, m_in159, Option.bind_some, f_X7_personAt, f_X7_windowAt, mG_i, mG_g, mG_s, pk_us, pk_un]
          exact ⟨_, rfl, mR_no (by decide)⟩
      · rw [if_neg g3, if_neg (show ¬ ((1 ≤ ix o ∧ ix o ≤ 99) ∧ (1 ≤ ix p ∧ ix p ≤ 9)) from fun z => g3 z.2)]
        simp (disch := omega) only [↓reduceIte, pi_0, pi_1, pi_2, pi_3, pi_4, pi_5, pi_6, pi_7, pi_8, pi_9, pi_10, pi_11, pi_12, pi_13, pi_20, pi_27, pi_30, pi_60, pi_99, pi_115, pi_123, pi_135, pi_136, pi_137, pi_138, pi_139, pi_158, pi_159, pi_1113, m_neg, nI_add, pk_mul, pi_sub, mI_dec, pi_cl, pi_leT, pi_leF, pi_ltT, pi_ltF, pi_eqT, pi_eqF, mI_n, m_in159, Option.bind_some, f_X7_personAt, f_X7_windowAt, mG_i, mG_g, mG_s, pk_us, pk_un]
        exact ⟨_, rfl, mR_no (by decide)⟩
    · rw [if_neg g2, if_neg (show ¬ ((1 ≤ ix o ∧ ix o ≤ 99) ∧ (1 ≤ ix p ∧ ix p ≤ 9)) from fun z => g2 z.1)]
      simp (disch := omega) only [↓reduceIte, pi_0, pi_1, pi_2, pi_3, pi_4, pi_5, pi_6, pi_7, pi_8, pi_9, pi_10, pi_11, pi_12, pi_13, pi_20, pi_27, pi_30, pi_60, pi_99, pi_115, pi_123, pi_135, pi_136, pi_137, pi_138, pi_139, pi_158, pi_159, pi_1113, m_neg, nI_add, pk_mul, pi_sub, mI_dec, pi_cl, pi_leT, pi_leF, pi_ltT, pi_ltF, pi_eqT, pi_eqF, mI_n, m_in159, Option.bind_some, f_X7_personAt, f_X7_windowAt, mG_i, mG_g, mG_s, pk_us, pk_un]
      exact ⟨_, rfl, mR_no (by decide)⟩
  · rw [if_neg g, m_winnt (ix_no (by decide) g)]
    simp (disch := omega) only [↓reduceIte, pi_0, pi_1, pi_2, pi_3, pi_4, pi_5, pi_6, pi_7, pi_8, pi_9, pi_10, pi_11, pi_12, pi_13, pi_20, pi_27, pi_30, pi_60, pi_99, pi_115, pi_123, pi_135, pi_136, pi_137, pi_138, pi_139, pi_158, pi_159, pi_1113, m_neg, nI_add, pk_mul, pi_sub, mI_dec, pi_cl, pi_leT, pi_leF, pi_ltT, pi_ltF, pi_eqT, pi_eqF, mI_n, m_in159, Option.bind_some, f_X7_personAt, f_X7_windowAt, mG_i, mG_g, mG_s, pk_us, pk_un, m_throw]
    exact ⟨_, rfl, mR_no (by decide)⟩
theorem mo_close {a : Int32} (d : dH (M.1 10) s (aW s)) (b : aB s) (k : aK s) : ∃ M', f_X7_closeIt a M = some (om (oClose (ix a) s), M') ∧ mR M M' (oClose (ix a) s) := by
  unfold oClose f_X7_closeIt
  by_cases g : ix a < 3
  · have ea := ix_eq (a := a) (by omega)
    rw [if_pos g]
    generalize ix a = w at g ea ⊢
    subst ea
    rw [m_win g, Option.bind_some, m_isOpen d b g]
    by_cases g4 : hW s w 0 = 0
    · rw [if_pos g4, if_neg (show ¬ 0 < hW s w 0 by omega)]
      simp (disch := omega) only [↓reduceIte, pi_0, pi_1, pi_2, pi_3, pi_4, pi_5, pi_6, pi_7, pi_8, pi_9, pi_10, pi_11, pi_12, pi_13, pi_20, pi_27, pi_30, pi_60, pi_99, pi_115, pi_123, pi_135, pi_136, pi_137, pi_138, pi_139, pi_158, pi_159, pi_1113, m_neg, nI_add, pk_mul, pi_sub, mI_dec, pi_cl, pi_leT, pi_leF, pi_ltT, pi_ltF, pi_eqT, pi_eqF, mI_n, m_in159, Option.bind_some, f_X7_personAt, f_X7_windowAt, mG_i, mG_g, mG_s, pk_us, pk_un, m_throw]
      exact ⟨_, rfl, mR_no (by decide)⟩
    · rw [if_neg g4, if_pos (show 0 < hW s w 0 by omega)]
      obtain ⟨g', h1, h2⟩ := m_closes d b k g
      simp (disch := omega) only [↓reduceIte, pi_0, pi_1, pi_2, pi_3, pi_4, pi_5, pi_6, pi_7, pi_8, pi_9, pi_10, pi_11, pi_12, pi_13, pi_20, pi_27, pi_30, pi_60, pi_99, pi_115, pi_123, pi_135, pi_136, pi_137, pi_138, pi_139, pi_158, pi_159, pi_1113, m_neg, nI_add, pk_mul, pi_sub, mI_dec, pi_cl, pi_leT, pi_leF, pi_ltT, pi_ltF, pi_eqT, pi_eqF, mI_n, m_in159, Option.bind_some, f_X7_personAt, f_X7_windowAt, mG_i, mG_g, mG_s, pk_us, pk_un, h1]
      rw [m_many (M := mG M 10 g') (by rw [mG_s]; exact h2) (aB_shut b k g)]
      exact ⟨_, rfl, mR_yes h2⟩
  · rw [if_neg g, m_winnt (ix_no (by decide) g)]
    simp (disch := omega) only [↓reduceIte, pi_0, pi_1, pi_2, pi_3, pi_4, pi_5, pi_6, pi_7, pi_8, pi_9, pi_10, pi_11, pi_12, pi_13, pi_20, pi_27, pi_30, pi_60, pi_99, pi_115, pi_123, pi_135, pi_136, pi_137, pi_138, pi_139, pi_158, pi_159, pi_1113, m_neg, nI_add, pk_mul, pi_sub, mI_dec, pi_cl, pi_leT, pi_leF, pi_ltT, pi_ltF, pi_eqT, pi_eqF, mI_n, m_in159, Option.bind_some, f_X7_personAt, f_X7_windowAt, mG_i, mG_g, mG_s, pk_us, pk_un, m_throw]
    exact ⟨_, rfl, mR_no (by decide)⟩
theorem mo_sit {a : Int32} (d : dH (M.1 10) s (aW s)) (b : aB s) (hF : aF s) (h4 : aSits s ≤ 4) : ∃ M', f_X7_sitIt a M = some (om (oSit (ix a) s), M') ∧ mR M M' (oSit (ix a) s) := by
  have hn := b.1
  unfold oSit f_X7_sitIt
  by_cases g : ix a < s.1 0
  · have ea := ix_eq (a := a) (by omega)
    rw [if_pos g]
    generalize ix a = x at g ea ⊢
    subst ea
    have e6 := d.p6 g
    have f6 := (hF x (by omega)).2
    rw [m_here d hn g, Option.bind_some, m_atw d hn g]
    by_cases g1 : aW s x = 0
    · rw [if_pos g1]
      simp (disch := omega) only [↓reduceIte, pi_0, pi_1, pi_2, pi_3, pi_4, pi_5, pi_6, pi_7, pi_8, pi_9, pi_10, pi_11, pi_12, pi_13, pi_20, pi_27, pi_30, pi_60, pi_99, pi_115, pi_123, pi_135, pi_136, pi_137, pi_138, pi_139, pi_158, pi_159, pi_1113, m_neg, nI_add, pk_mul, pi_sub, mI_dec, pi_cl, pi_leT, pi_leF, pi_ltT, pi_ltF, pi_eqT, pi_eqF, mI_n, m_in159, Option.bind_some, f_X7_personAt, f_X7_windowAt, mG_i, mG_g, mG_s, pk_us, pk_un, e6, m_throw]
      by_cases g2 : hC s x 6 = 0
      · rw [if_pos (show aW s x = 0 ∧ hC s x 6 = 0 from ⟨g1, g2⟩)]
        simp (disch := omega) only [↓reduceIte, pi_0, pi_1, pi_2, pi_3, pi_4, pi_5, pi_6, pi_7, pi_8, pi_9, pi_10, pi_11, pi_12, pi_13, pi_20, pi_27, pi_30, pi_60, pi_99, pi_115, pi_123, pi_135, pi_136, pi_137, pi_138, pi_139, pi_158, pi_159, pi_1113, m_neg, nI_add, pk_mul, pi_sub, mI_dec, pi_cl, pi_leT, pi_leF, pi_ltT, pi_ltF, pi_eqT, pi_eqF, mI_n, m_in159, Option.bind_some, f_X7_personAt, f_X7_windowAt, mG_i, mG_g, mG_s, pk_us, pk_un, m_sits d hn hF, g2]
        by_cases g3 : aSits s < 4
        · rw [if_pos g3]
          have d1 := d.uC hn (i := x) (f := 6) (v := 1) g (by decide)
          simp (disch := omega) only [↓x_let_e, ↓reduceIte, pi_0, pi_1, pi_2, pi_3, pi_4, pi_5, pi_6, pi_7, pi_8, pi_9, pi_10, pi_11, pi_12, pi_13, pi_20, pi_27, pi_30, pi_60, pi_99, pi_115, pi_123, pi_135, pi_136, pi_137, pi_138, pi_139, pi_158, pi_159, pi_1113, m_neg, nI_add, pk_mul, pi_sub, mI_dec, pi_cl, pi_leT, pi_leF, pi_ltT, pi_ltF, pi_eqT, pi_eqF, mI_n, m_in159, Option.bind_some, f_X7_personAt, f_X7_windowAt, mG_i, mG_g, mG_s, pk_us, pk_un]
          rw [m_sits (s := uC s x 6 1) (M := mG M 10 (upd (M.1 10) (27 + 8 * x + 4) (nI 1))) (by rw [mG_s]; exact d1) hn (aF_uC hF (by omega))]
          exact ⟨_, rfl, mR_yes (d1.ca fun i _ => aW_cg fun v hv => Iff.rfl)⟩
        · rw [if_neg g3]
          simp (disch := omega) only [↓reduceIte, pi_0, pi_1, pi_2, pi_3, pi_4, pi_5, pi_6, pi_7, pi_8, pi_9, pi_10, pi_11, pi_12, pi_13, pi_20, pi_27, pi_30, pi_60, pi_99, pi_115, pi_123, pi_135, pi_136, pi_137, pi_138, pi_139, pi_158, pi_159, pi_1113, m_neg, nI_add, pk_mul, pi_sub, mI_dec, pi_cl, pi_leT, pi_leF, pi_ltT, pi_ltF, pi_eqT, pi_eqF, mI_n, m_in159, Option.bind_some, f_X7_personAt, f_X7_windowAt, mG_i, mG_g, mG_s, pk_us, pk_un]
          exact ⟨_, rfl, mR_no (by decide)⟩
      · rw [if_neg (show ¬ (aW s x = 0 ∧ hC s x 6 = 0) from fun z => g2 z.2)]
        simp (disch := omega) only [↓reduceIte, pi_0, pi_1, pi_2, pi_3, pi_4, pi_5, pi_6, pi_7, pi_8, pi_9, pi_10, pi_11, pi_12, pi_13, pi_20, pi_27, pi_30, pi_60, pi_99, pi_115, pi_123, pi_135, pi_136, pi_137, pi_138, pi_139, pi_158, pi_159, pi_1113, m_neg, nI_add, pk_mul, pi_sub, mI_dec, pi_cl, pi_leT, pi_leF, pi_ltT, pi_ltF, pi_eqT, pi_eqF, mI_n, m_in159, Option.bind_some, f_X7_personAt, f_X7_windowAt, mG_i, mG_g, mG_s, pk_us, pk_un]
        exact ⟨_, rfl, mR_no (by decide)⟩
    · rw [if_neg g1, if_neg (show ¬ (aW s x = 0 ∧ hC s x 6 = 0) from fun z => g1 z.1)]
      simp (disch := omega) only [↓reduceIte, pi_0, pi_1, pi_2, pi_3, pi_4, pi_5, pi_6, pi_7, pi_8, pi_9, pi_10, pi_11, pi_12, pi_13, pi_20, pi_27, pi_30, pi_60, pi_99, pi_115, pi_123, pi_135, pi_136, pi_137, pi_138, pi_139, pi_158, pi_159, pi_1113, m_neg, nI_add, pk_mul, pi_sub, mI_dec, pi_cl, pi_leT, pi_leF, pi_ltT, pi_ltF, pi_eqT, pi_eqF, mI_n, m_in159, Option.bind_some, f_X7_personAt, f_X7_windowAt, mG_i, mG_g, mG_s, pk_us, pk_un, m_throw]
      exact ⟨_, rfl, mR_no (by decide)⟩
  · rw [if_neg g, m_herent d hn (ix_no (by omega) g)]
    simp (disch := omega) only [↓reduceIte, pi_0, pi_1, pi_2, pi_3, pi_4, pi_5, pi_6, pi_7, pi_8, pi_9, pi_10, pi_11, pi_12, pi_13, pi_20, pi_27, pi_30, pi_60, pi_99, pi_115, pi_123, pi_135, pi_136, pi_137, pi_138, pi_139, pi_158, pi_159, pi_1113, m_neg, nI_add, pk_mul, pi_sub, mI_dec, pi_cl, pi_leT, pi_leF, pi_ltT, pi_ltF, pi_eqT, pi_eqF, mI_n, m_in159, Option.bind_some, f_X7_personAt, f_X7_windowAt, mG_i, mG_g, mG_s, pk_us, pk_un, m_throw]
    exact ⟨_, rfl, mR_no (by decide)⟩
theorem mo_stand {a : Int32} (d : dH (M.1 10) s (aW s)) (b : aB s) (hF : aF s) : ∃ M', f_X7_standIt a M = some (om (oStand (ix a) s), M') ∧ mR M M' (oStand (ix a) s) := by
  have hn := b.1
  unfold oStand f_X7_standIt
  by_cases g : ix a < s.1 0
  · have ea := ix_eq (a := a) (by omega)
    rw [if_pos g]
    generalize ix a = x at g ea ⊢
    subst ea
    have e6 := d.p6 g
    have f6 := (hF x (by omega)).2
    rw [m_here d hn g]
    simp (disch := omega) only [↓reduceIte, pi_0, pi_1, pi_2, pi_3, pi_4, pi_5, pi_6, pi_7, pi_8, pi_9, pi_10, pi_11, pi_12, pi_13, pi_20, pi_27, pi_30, pi_60, pi_99, pi_115, pi_123, pi_135, pi_136, pi_137, pi_138, pi_139, pi_158, pi_159, pi_1113, m_neg, nI_add, pk_mul, pi_sub, mI_dec, pi_cl, pi_leT, pi_leF, pi_ltT, pi_ltF, pi_eqT, pi_eqF, mI_n, m_in159, Option.bind_some, f_X7_personAt, f_X7_windowAt, mG_i, mG_g, mG_s, pk_us, pk_un, e6, m_throw]
    by_cases g2 : hC s x 6 = 0
    · rw [if_pos g2]
      simp (disch := omega) only [↓reduceIte, pi_0, pi_1, pi_2, pi_3, pi_4, pi_5, pi_6, pi_7, pi_8, pi_9, pi_10, pi_11, pi_12, pi_13, pi_20, pi_27, pi_30, pi_60, pi_99, pi_115, pi_123, pi_135, pi_136, pi_137, pi_138, pi_139, pi_158, pi_159, pi_1113, m_neg, nI_add, pk_mul, pi_sub, mI_dec, pi_cl, pi_leT, pi_leF, pi_ltT, pi_ltF, pi_eqT, pi_eqF, mI_n, m_in159, Option.bind_some, f_X7_personAt, f_X7_windowAt, mG_i, mG_g, mG_s, pk_us, pk_un]
      exact ⟨_, rfl, mR_no (by decide)⟩
    · rw [if_neg g2]
      have d1 := d.uC hn (i := x) (f := 6) (v := 0) g (by decide)
      simp (disch := omega) only [↓x_let_e, ↓reduceIte, pi_0, pi_1, pi_2, pi_3, pi_4, pi_5, pi_6, pi_7, pi_8, pi_9, pi_10, pi_11, pi_12, pi_13, pi_20, pi_27, pi_30, pi_60, pi_99, pi_115, pi_123, pi_135, pi_136, pi_137, pi_138, pi_139, pi_158, pi_159, pi_1113, m_neg, nI_add, pk_mul, pi_sub, mI_dec, pi_cl, pi_leT, pi_leF, pi_ltT, pi_ltF, pi_eqT, pi_eqF, mI_n, m_in159, Option.bind_some, f_X7_personAt, f_X7_windowAt, mG_i, mG_g, mG_s, pk_us, pk_un]
      rw [m_sits (s := uC s x 6 0) (M := mG M 10 (upd (M.1 10) (27 + 8 * x + 4) (nI 0))) (by rw [mG_s]; exact d1) hn (aF_uC hF (by omega))]
      exact ⟨_, rfl, mR_yes (d1.ca fun i _ => aW_cg fun v hv => Iff.rfl)⟩
  · rw [if_neg g, m_herent d hn (ix_no (by omega) g)]
    simp (disch := omega) only [↓reduceIte, pi_0, pi_1, pi_2, pi_3, pi_4, pi_5, pi_6, pi_7, pi_8, pi_9, pi_10, pi_11, pi_12, pi_13, pi_20, pi_27, pi_30, pi_60, pi_99, pi_115, pi_123, pi_135, pi_136, pi_137, pi_138, pi_139, pi_158, pi_159, pi_1113, m_neg, nI_add, pk_mul, pi_sub, mI_dec, pi_cl, pi_leT, pi_leF, pi_ltT, pi_ltF, pi_eqT, pi_eqF, mI_n, m_in159, Option.bind_some, f_X7_personAt, f_X7_windowAt, mG_i, mG_g, mG_s, pk_us, pk_un, m_throw]
    exact ⟨_, rfl, mR_no (by decide)⟩
theorem mo_remove {a : Int32} (d : dH (M.1 10) s (aW s)) (b : aB s) (k : aK s) : ∃ M', f_X7_removeIt a M = some (om (oRemove (ix a) s), M') ∧ mR M M' (oRemove (ix a) s) := by
  have hn := b.1
  unfold oRemove f_X7_removeIt
  by_cases g : ix a < s.1 0
  · have ea := ix_eq (a := a) (by omega)
    rw [if_pos g]
    generalize ix a = x at g ea ⊢
    subst ea
    rw [m_here d hn g]
    obtain ⟨g', h1, h2⟩ := m_goes d b k g
    have e4 : g' 4 = nI (s.1 4) := by
      have := h2.sc (j := 4) (by decide)
      rw [aLeave_n (by decide) (by decide)] at this
      exact this
    have e0 : g' 0 = nI (s.1 0 - 1) := by
      have := h2.n
      rw [aLeave_0] at this
      exact this
    have d1 := h2.uS (aB_leave b g).1 (j := 4) (v := s.1 4 + 1) (by decide) (by decide) (by decide) (by decide)
    simp (disch := omega) only [↓reduceIte, pi_0, pi_1, pi_2, pi_3, pi_4, pi_5, pi_6, pi_7, pi_8, pi_9, pi_10, pi_11, pi_12, pi_13, pi_20, pi_27, pi_30, pi_60, pi_99, pi_115, pi_123, pi_135, pi_136, pi_137, pi_138, pi_139, pi_158, pi_159, pi_1113, m_neg, nI_add, pk_mul, pi_sub, mI_dec, pi_cl, pi_leT, pi_leF, pi_ltT, pi_ltF, pi_eqT, pi_eqF, mI_n, m_in159, Option.bind_some, f_X7_personAt, f_X7_windowAt, mG_i, mG_g, mG_s, pk_us, pk_un, h1]
    simp (disch := omega) only [↓x_let_e, ↓reduceIte, pi_0, pi_1, pi_2, pi_3, pi_4, pi_5, pi_6, pi_7, pi_8, pi_9, pi_10, pi_11, pi_12, pi_13, pi_20, pi_27, pi_30, pi_60, pi_99, pi_115, pi_123, pi_135, pi_136, pi_137, pi_138, pi_139, pi_158, pi_159, pi_1113, m_neg, nI_add, pk_mul, pi_sub, mI_dec, pi_cl, pi_leT, pi_leF, pi_ltT, pi_ltF, pi_eqT, pi_eqF, mI_n, m_in159, Option.bind_some, f_X7_personAt, f_X7_windowAt, mG_i, mG_g, mG_s, pk_us, pk_un, e4, e0]
    rw [aLeave_u0 (by decide) (by decide)]
    exact ⟨_, rfl, mR_yes (d1.ca fun i _ => aW_cg fun v hv => Iff.rfl)⟩
  · rw [if_neg g, m_herent d hn (ix_no (by omega) g)]
    simp (disch := omega) only [↓reduceIte, pi_0, pi_1, pi_2, pi_3, pi_4, pi_5, pi_6, pi_7, pi_8, pi_9, pi_10, pi_11, pi_12, pi_13, pi_20, pi_27, pi_30, pi_60, pi_99, pi_115, pi_123, pi_135, pi_136, pi_137, pi_138, pi_139, pi_158, pi_159, pi_1113, m_neg, nI_add, pk_mul, pi_sub, mI_dec, pi_cl, pi_leT, pi_leF, pi_ltT, pi_ltF, pi_eqT, pi_eqF, mI_n, m_in159, Option.bind_some, f_X7_personAt, f_X7_windowAt, mG_i, mG_g, mG_s, pk_us, pk_un, m_throw]
    exact ⟨_, rfl, mR_no (by decide)⟩
end MO
