/-! pure: the model: the whole minute, minutes -/
theorem va_up_cm {α : Type} (f : Nat → α) {i j : Nat} {x y : α} (h : i ≠ j) : va_up (va_up f i x) j y = va_up (va_up f j y) i x := funext fun k => by
  by_cases a : k = j
  · rw [a, va_up_self, va_up_ne _ _ (Ne.symm h), va_up_self]
  · rw [va_up_ne _ _ a]
    by_cases b : k = i
    · rw [b, va_up_self, va_up_self]
    · rw [va_up_ne _ _ b, va_up_ne _ _ b, va_up_ne _ _ a]
theorem aOutQ_u0 {s : hS} {c j v : Nat} (h7 : j ≠ 7) : aOutQ c (u0 s j v) = u0 (aOutQ c s) j v := by
  unfold aOutQ
  rw [u0_n (Ne.symm h7), show hQ (u0 s j v) = hQ s from rfl]
  split
  · next p _ =>
    unfold aTake aShift u0
    dsimp only
    have e := va_up_ne s.1 v (Ne.symm h7)
    simp only [e, va_up_cm _ h7]
  · rfl
theorem aOutW_u0 {s : hS} {c j v : Nat} : aOutW c (u0 s j v) = u0 (aOutW c s) j v := by
  unfold aOutW
  rw [show hW (u0 s j v) = hW s from rfl]
  split <;> rfl
theorem aLeave_u0 {s : hS} {c j v : Nat} (h0 : j ≠ 0) (h7 : j ≠ 7) : aLeave c (u0 s j v) = u0 (aLeave c s) j v := by
  unfold aLeave
  rw [aOutQ_u0 h7, aOutW_u0]
  generalize aOutW c (aOutQ c s) = t
  have e : aDrop c (u0 t j v) = u0 (aDrop c t) j v := by
    unfold aDrop u0
    dsimp only
    rw [va_up_ne _ _ (Ne.symm h0), va_up_cm _ h0]
  rw [e]
  generalize aDrop c t = r
  unfold aRen aRenW aRenQ u0
  dsimp only
  have e := va_up_ne r.1 v (Ne.symm h7)
  simp only [e]
theorem aF_waitL : ∀ (m p : Nat) (s : hS), aM s → aF s → p + m = s.1 7 → aF (aWaitL m p s)
  | 0, p, s, i, h, e => h
  | m + 1, p, s, i, h, e => by
    have ok := aWaitS_ok i.1 (p := p) (by omega)
    have n := aN_waitS (p := p) i.2 i.1 (by omega)
    unfold aWaitL
    refine aF_waitL m _ _ ⟨ok.1, n⟩ (aF_waitS h i.1 (by omega)) ?_
    rcases ok.2.2 with z | z
    · have h := ok.2.1
      rw [if_pos z, if_pos z] at h
      omega
    · have h := ok.2.1
      rw [if_neg (by omega), if_neg (by omega)] at h
      omega
theorem m_waitL : ∀ (m p n : Nat) (M : xM) (s : hS), dH (M.1 10) s (aW s) → aM s → aF s → p + m = s.1 7 → m < n → ∃ g', f_X7_passes_L20 n (nI p) M = f_X7_passes_L75 xF (nI 0) (mG M 10 g') ∧ dH g' (aWaitL m p s) (aW (aWaitL m p s))
  | 0, p, n, M, s, d, i, hF, e, hn => by
    obtain ⟨n, rfl⟩ : ∃ n', n = n' + 1 := ⟨n - 1, by omega⟩
    have hq := i.1.1.2.1
    rw [f_X7_passes_L20.eq_2]
    simp (disch := omega) only [↓reduceIte, pi_0, pi_1, pi_2, pi_3, pi_4, pi_5, pi_6, pi_7, pi_8, pi_9, pi_10, pi_11, pi_12, pi_13, pi_20, pi_27, pi_30, pi_60, pi_99, pi_115, pi_123, pi_135, pi_136, pi_137, pi_138, pi_139, pi_158, pi_159, pi_1113, m_neg, nI_add, pk_mul, pi_sub, mI_dec, pi_cl, pi_leT, pi_leF, pi_ltT, pi_ltF, pi_eqT, pi_eqF, mI_n, m_in159, Option.bind_some, f_X7_personAt, f_X7_windowAt, mG_i, mG_g, mG_s, pk_us, pk_un, d.qn]
    exact ⟨M.1 10, by rw [mG_id], d⟩
  | m + 1, p, n, M, s, d, i, hF, e, hn => by
    obtain ⟨n, rfl⟩ : ∃ n', n = n' + 1 := ⟨n - 1, by omega⟩
    have hq := i.1.1.2.1
    have h12 := i.1.1.1
    have eq := d.q (k := p) (by omega)
    have hc := i.1.2.1.1.1 p (by omega)
    have ok := aWaitS_ok i.1 (p := p) (by omega)
    have n1 := aN_waitS (p := p) i.2 i.1 (by omega)
    have F1 := aF_waitS (p := p) hF i.1 (by omega)
    obtain ⟨g1, h1, d1⟩ := m_waits (p := p) d i.1.1 hF hc (i.1.2.2 _ hc)
    have k1 := aK_waitY (p := p) i.1.2.1
    have b1 := aB_waitY (p := p) i.1.1 (by omega) (i.1.2.2 _ hc)
    have ny : (aWaitY p s).1 0 = s.1 0 := aWaitY_n (by decide)
    have ey : ∀ j, aW (aWaitY p s) j = aW s j := fun j => aW_cg fun v hv => by unfold wo; rw [aWaitY_W]
    rw [f_X7_passes_L20.eq_2]
    simp (disch := omega) only [pi_0, pi_1, pi_2, pi_3, pi_4, pi_5, pi_6, pi_7, pi_8, pi_9, pi_10, pi_11, pi_12, pi_13, pi_20, pi_27, pi_30, pi_60, pi_99, pi_115, pi_123, pi_135, pi_136, pi_137, pi_138, pi_139, pi_158, pi_159, pi_1113, m_neg, nI_add, pk_mul, pi_sub, mI_dec, pi_cl, pi_leT, pi_leF, pi_ltT, pi_ltF, pi_eqT, pi_eqF, mI_n, m_in159, ↓reduceIte, d.qn, eq, h1, Option.bind_some]
    unfold aWaitL
    by_cases z : hC (aWaitY p s) (hQ s p) 2 < 3
    · rw [if_pos z]
      simp (disch := omega) only [nI_add, pk_mul, pi_sub, mI_dec, pi_cl, pi_leT, pi_leF, pi_ltT, pi_ltF, pi_eqT, pi_eqF, mI_n, m_in159, ↓reduceIte]
      have es : aWaitS p s = (p + 1, aWaitY p s) := by unfold aWaitS; exact if_pos z
      rw [es] at ok n1 F1 ⊢
      obtain ⟨g2, h2, d2⟩ := m_waitL m (p + 1) n (mG M 10 g1) (aWaitY p s) (by rw [mG_s]; exact d1.ca fun j _ => ey j) ⟨ok.1, n1⟩ F1 (by rw [aWaitY_n (by decide)]; omega) (by omega)
      rw [mG_g] at h2
      exact ⟨g2, h2, d2⟩
    · rw [if_neg z]
      simp (disch := omega) only [nI_add, pk_mul, pi_sub, mI_dec, pi_cl, pi_leT, pi_leF, pi_ltT, pi_ltF, pi_eqT, pi_eqF, mI_n, m_in159, ↓reduceIte]
      have es : aWaitS p s = (p, aWaitG (hQ s p) (aWaitY p s)) := by unfold aWaitS; exact if_neg z
      rw [es] at ok n1 F1 ⊢
      obtain ⟨g2, h2, d2⟩ := m_goes (M := mG M 10 g1) (c := hQ s p) (by rw [mG_s]; exact d1.ca fun j _ => ey j) b1 k1 (by rw [ny]; exact hc)
      have bl := aB_leave (c := hQ s p) b1 (by rw [ny]; exact hc)
      have d3 := d2.uS bl.1 (j := 5) (v := (aWaitY p s).1 5 + 1) (by decide) (by decide) (by decide) (by decide)
      rw [← aLeave_u0 (by decide) (by decide)] at d3
      have e5 : g2 5 = nI ((aWaitY p s).1 5) := by
        have := d2.sc (j := 5) (by decide)
        rw [aLeave_n (by decide) (by decide)] at this
        exact this
      rw [h2, Option.bind_some]
      simp (disch := omega) only [↓x_let_e, ↓reduceIte, pi_0, pi_1, pi_2, pi_3, pi_4, pi_5, pi_6, pi_7, pi_8, pi_9, pi_10, pi_11, pi_12, pi_13, pi_20, pi_27, pi_30, pi_60, pi_99, pi_115, pi_123, pi_135, pi_136, pi_137, pi_138, pi_139, pi_158, pi_159, pi_1113, m_neg, nI_add, pk_mul, pi_sub, mI_dec, pi_cl, pi_leT, pi_leF, pi_ltT, pi_ltF, pi_eqT, pi_eqF, mI_n, m_in159, Option.bind_some, f_X7_personAt, f_X7_windowAt, mG_i, mG_g, mG_s, pk_us, pk_un, e5]
      have o2 := ok.2.1
      rw [if_pos rfl, if_pos rfl] at o2
      obtain ⟨g4, h4, d4⟩ := m_waitL m p n (mG M 10 (upd g2 5 (nI ((aWaitY p s).1 5 + 1)))) (aWaitG (hQ s p) (aWaitY p s)) (by
        rw [mG_s]
        refine dH.ca (s := aWaitG (hQ s p) (aWaitY p s)) d3 fun j _ => ?_
        unfold aWaitG
        rw [aLeave_u0 (by decide) (by decide)]
        exact aW_cg fun v hv => Iff.rfl) ⟨ok.1, n1⟩ F1 (by have o2 : (aWaitG (hQ s p) (aWaitY p s)).1 7 + p = s.1 7 + p + 0 - 1 := o2; omega) (by omega)
      rw [mG_g] at h4
      exact ⟨g4, h4, d4⟩
theorem aF_workW {s : hS} {w : Nat} (h : aF s) (i : aM s) (hw : w < 3) : aF (aWorkW w s) := by
  unfold aWorkW
  split
  · exact aF_work h i.1.1 i.1.2.1 hw
  · exact h
theorem aG_minute {s : hS} (i : aG s) : aG (aMinute s) := by
  refine ⟨aM_minute i.1, ?_⟩
  have i0 := aM_workW (w := 0) i.1 (by decide)
  have i1 := aM_workW (w := 1) i0 (by decide)
  have F : aF (aTurns s) := aF_workW (w := 2) (aF_workW (w := 1) (aF_workW (w := 0) i.2 i.1 (by decide)) i0 (by decide)) i1 (by decide)
  have F2 : aF (aWait (aTurns s)) := aF_waitL ((aTurns s).1 7) 0 (aTurns s) (aM_turns i.1) F (Nat.zero_add _)
  exact aF_C (s := aFills (aWait (aTurns s))) (aF_fillW (w := 2) (aF_fillW (w := 1) (aF_fillW (w := 0) F2))) rfl
set_option maxRecDepth 100000 in
theorem m_passes {M : xM} {s : hS} (d : dH (M.1 10) s (aW s)) (i : aG s) : ∃ g', f_X7_passes M = some (mG M 10 g') ∧ dH g' (aMinute s) (aW (aMinute s)) := by
  obtain ⟨i, hF⟩ := i
  obtain ⟨N, hN⟩ : ∃ N, xF = N + 1 + 1 + 1 + 1 := ⟨1996, rfl⟩
  unfold f_X7_passes
  rw [hN, pi_0]
  obtain ⟨g1, h1, d1⟩ := m_windowTurns (w := 0) d i (by decide)
  have i1 := aM_workW (w := 0) i (by decide)
  have F1 := aF_workW (w := 0) hF i (by decide)
  obtain ⟨g2, h2, d2⟩ := m_windowTurns (M := mG M 10 g1) (w := 1) (by rw [mG_s]; exact d1) i1 (by decide)
  have i2 := aM_workW (w := 1) i1 (by decide)
  have F2 := aF_workW (w := 1) F1 i1 (by decide)
  rw [mG_g] at h2
  obtain ⟨g3, h3, d3⟩ := m_windowTurns (M := mG M 10 g2) (w := 2) (by rw [mG_s]; exact d2) i2 (by decide)
  have i3 := aM_workW (w := 2) i2 (by decide)
  have F3 := aF_workW (w := 2) F2 i2 (by decide)
  rw [mG_g] at h3
  rw [f_X7_passes_L2.eq_2]
  simp (disch := omega) only [pi_0, pi_1, pi_2, pi_3, pi_4, pi_5, pi_6, pi_7, pi_8, pi_9, pi_10, pi_11, pi_12, pi_13, pi_20, pi_27, pi_30, pi_60, pi_99, pi_115, pi_123, pi_135, pi_136, pi_137, pi_138, pi_139, pi_158, pi_159, pi_1113, m_neg, nI_add, pk_mul, pi_sub, mI_dec, pi_cl, pi_leT, pi_leF, pi_ltT, pi_ltF, pi_eqT, pi_eqF, mI_n, m_in159, ↓reduceIte]
  rw [h1, Option.bind_some, f_X7_passes_L2.eq_2]
  simp (disch := omega) only [pi_0, pi_1, pi_2, pi_3, pi_4, pi_5, pi_6, pi_7, pi_8, pi_9, pi_10, pi_11, pi_12, pi_13, pi_20, pi_27, pi_30, pi_60, pi_99, pi_115, pi_123, pi_135, pi_136, pi_137, pi_138, pi_139, pi_158, pi_159, pi_1113, m_neg, nI_add, pk_mul, pi_sub, mI_dec, pi_cl, pi_leT, pi_leF, pi_ltT, pi_ltF, pi_eqT, pi_eqF, mI_n, m_in159, ↓reduceIte]
  rw [h2, Option.bind_some, f_X7_passes_L2.eq_2]
  simp (disch := omega) only [pi_0, pi_1, pi_2, pi_3, pi_4, pi_5, pi_6, pi_7, pi_8, pi_9, pi_10, pi_11, pi_12, pi_13, pi_20, pi_27, pi_30, pi_60, pi_99, pi_115, pi_123, pi_135, pi_136, pi_137, pi_138, pi_139, pi_158, pi_159, pi_1113, m_neg, nI_add, pk_mul, pi_sub, mI_dec, pi_cl, pi_leT, pi_leF, pi_ltT, pi_ltF, pi_eqT, pi_eqF, mI_n, m_in159, ↓reduceIte]
  rw [h3, Option.bind_some, f_X7_passes_L2.eq_2]
  simp (disch := omega) only [pi_0, pi_1, pi_2, pi_3, pi_4, pi_5, pi_6, pi_7, pi_8, pi_9, pi_10, pi_11, pi_12, pi_13, pi_20, pi_27, pi_30, pi_60, pi_99, pi_115, pi_123, pi_135, pi_136, pi_137, pi_138, pi_139, pi_158, pi_159, pi_1113, m_neg, nI_add, pk_mul, pi_sub, mI_dec, pi_cl, pi_leT, pi_leF, pi_ltT, pi_ltF, pi_eqT, pi_eqF, mI_n, m_in159, ↓reduceIte]
  obtain ⟨g4, h4, d4⟩ := m_waitL ((aTurns s).1 7) 0 xF (mG M 10 g3) (aTurns s) (by rw [mG_s]; exact d3) i3 F3 (by omega) (by rw [xF_2000]; have := i3.1.1.2.1; exact Nat.lt_of_le_of_lt this (by omega))
  have iw := aM_waitL ((aTurns s).1 7) 0 (aTurns s) i3 (Nat.zero_add _)
  have Fw := aF_waitL ((aTurns s).1 7) 0 (aTurns s) i3 F3 (Nat.zero_add _)
  rw [mG_g] at h4
  obtain ⟨g5, h5, d5⟩ := m_fills (M := mG M 10 g4) (s := aWait (aTurns s)) (by rw [mG_s]; exact d4) iw Fw N
  rw [mG_g] at h5
  show ∃ g', f_X7_passes_L20 xF (nI 0) (mG M 10 g3) = some (mG M 10 g') ∧ _
  rw [h4, hN, h5]
  exact ⟨g5, rfl, d5⟩
