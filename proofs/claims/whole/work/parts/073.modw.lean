/-! pure: the model: a customer's turn -/
theorem x_let_e {α β : Type} (a : α) (f : α → β) : x_let a f = f a := rfl
theorem m_dec00 : ¬ nI 0 < nI 0 - nI 1 := by decide
theorem m_dec0 {a : Nat} {q : Decidable (nI 0 < nI a - nI 1)} (ha : a < 2 ^ 31) : (@ite _ (nI 0 < nI a - nI 1) q (nI a - nI 1) (nI 0)) = nI (a - 1) := by
  by_cases g : a = 0
  · subst g
    exact if_neg m_dec00
  · have e := pi_sub (a := a) (b := 1) (by omega)
    by_cases g2 : 0 < a - 1
    · rw [if_pos (by rw [e]; exact nI_lt g2 (by omega)), e]
    · rw [if_neg (by rw [e]; exact nI_nlt (by omega) (by omega)), show a - 1 = 0 by omega]
theorem m_dec1 {a : Nat} {q : Decidable (nI 0 < nI a)} (ha : a < 2 ^ 31) : (@ite _ (nI 0 < nI a) q (nI a) (nI 0)) = nI a := by
  by_cases g2 : 0 < a
  · rw [if_pos (nI_lt g2 (by omega))]
  · rw [if_neg (nI_nlt (by omega) (by omega)), show a = 0 by omega]
theorem m_waits {M : xM} {s : hS} {a : Nat → Nat} {p : Nat} (d : dH (M.1 10) s a) (b : aB s) (hF : aF s) (hc : hQ s p < s.1 0) (h2 : hC s (hQ s p) 2 ≤ 2) : ∃ g', f_X7_waitsOn (nI (hQ s p)) M = some (if hC (aWaitY p s) (hQ s p) 2 < 3 then nI 0 else nI 1, mG M 10 g') ∧ dH g' (aWaitY p s) a := by
  have hn := b.1
  unfold aWaitY
  generalize hQ s p = c at hc h2 ⊢
  obtain ⟨b1, b2, b3⟩ := b.2.2.2.2 c (by omega)
  have hF6 := (hF c (by omega)).2
  have e1 := d.p1 hc
  have e2 := d.p2 hc
  have e3 := d.p3 hc
  have e4 := d.p6 hc
  have e6 := d.p4 hc
  have e66 : M.1 10 6 = nI (s.1 6) := d.sc (j := 6) (by decide)
  have d1 := d.uC hn (f := 4) (v := hC s c 4 + 1) hc (by decide)
  unfold f_X7_waitsOn aTurn
  rw [f_X7_personAt, Option.bind_some, pi_27, pi_8, pk_mul, nI_add]
  simp (disch := omega) only [pi_0, pi_1, pi_2, pi_3, pi_4, pi_5, pi_6, pi_7, pi_8, pi_9, pi_10, pi_11, pi_12, pi_13, pi_20, pi_27, pi_30, pi_60, pi_99, pi_115, pi_123, pi_135, pi_136, pi_137, pi_138, pi_139, pi_158, pi_159, pi_1113, m_neg, nI_add, pi_cl, m_in159, ↓reduceIte]
  by_cases z : hC s c 6 = 0
  · rw [if_pos z, aTurnS_e]
    have d2 := d1.uC hn (f := 3) (v := hC s c 3 - 1) hc (by decide)
    have d3 := d2.uC hn (f := 1) (v := hC s c 1 - 1) hc (by decide)
    by_cases y : hC s c 1 - 1 = 0
    · rw [if_pos y]
      dsimp only
      rw [if_neg (show ¬ (1 : Nat) = 0 by decide)]
      have d4 := (d3.uC hn (f := 2) (v := hC s c 2 + 1) hc (by decide)).uS hn (j := 6) (v := s.1 6 + 1) (by decide) (by decide) (by decide) (by decide)
      ((try simp (disch := omega) only [↓reduceIte, pi_0, pi_1, pi_2, pi_3, pi_4, pi_5, pi_6, pi_7, pi_8, pi_9, pi_10, pi_11, pi_12, pi_13, pi_20, pi_27, pi_30, pi_60, pi_99, pi_115, pi_123, pi_135, pi_136, pi_137, pi_138, pi_139, pi_158, pi_159, pi_1113, m_neg, nI_add, pk_mul, pi_sub, mI_dec, pi_cl, pi_leT, pi_leF, pi_ltT, pi_ltF, pi_eqT, pi_eqF, mI_n, m_in159, Option.bind_some, f_X7_personAt, f_X7_windowAt, mG_i, mG_g, mG_s, pk_us, pk_un, e1, e2, e3, e4, e6, e66, z, m_dec0, m_dec1, y]); repeat (rw [x_let_e]; try simp (disch := omega) only [↓reduceIte, pi_0, pi_1, pi_2, pi_3, pi_4, pi_5, pi_6, pi_7, pi_8, pi_9, pi_10, pi_11, pi_12, pi_13, pi_20, pi_27, pi_30, pi_60, pi_99, pi_115, pi_123, pi_135, pi_136, pi_137, pi_138, pi_139, pi_158, pi_159, pi_1113, m_neg, nI_add, pk_mul, pi_sub, mI_dec, pi_cl, pi_leT, pi_leF, pi_ltT, pi_ltF, pi_eqT, pi_eqF, mI_n, m_in159, Option.bind_some, f_X7_personAt, f_X7_windowAt, mG_i, mG_g, mG_s, pk_us, pk_un, e1, e2, e3, e4, e6, e66, z, m_dec0, m_dec1, y]))
      have eY : hC (u0 (uC (uC (uC (aTurn0 c s) c 3 (hC s c 3 - 1)) c 1 0) c 2 (hC s c 2 + 1)) 6 (s.1 6 + 1)) c 2 = hC s c 2 + 1 := uC_s (s := uC (uC (aTurn0 c s) c 3 (hC s c 3 - 1)) c 1 0)
      have e6' : (uC (uC (uC (aTurn0 c s) c 3 (hC s c 3 - 1)) c 1 0) c 2 (hC s c 2 + 1)).1 6 = s.1 6 := rfl
      rw [e6', eY]
      rw [y] at d4
      by_cases x : hC s c 2 + 1 < 3
      · simp (disch := omega) only [↓x_let_e, ↓reduceIte, pi_0, pi_1, pi_2, pi_3, pi_4, pi_5, pi_6, pi_7, pi_8, pi_9, pi_10, pi_11, pi_12, pi_13, pi_20, pi_27, pi_30, pi_60, pi_99, pi_115, pi_123, pi_135, pi_136, pi_137, pi_138, pi_139, pi_158, pi_159, pi_1113, m_neg, nI_add, pk_mul, pi_sub, mI_dec, pi_cl, pi_leT, pi_leF, pi_ltT, pi_ltF, pi_eqT, pi_eqF, mI_n, m_in159, Option.bind_some, f_X7_personAt, f_X7_windowAt, mG_i, mG_g, mG_s, pk_us, pk_un, if_pos x]
        exact ⟨_, rfl, d4⟩
      · simp (disch := omega) only [↓x_let_e, ↓reduceIte, pi_0, pi_1, pi_2, pi_3, pi_4, pi_5, pi_6, pi_7, pi_8, pi_9, pi_10, pi_11, pi_12, pi_13, pi_20, pi_27, pi_30, pi_60, pi_99, pi_115, pi_123, pi_135, pi_136, pi_137, pi_138, pi_139, pi_158, pi_159, pi_1113, m_neg, nI_add, pk_mul, pi_sub, mI_dec, pi_cl, pi_leT, pi_leF, pi_ltT, pi_ltF, pi_eqT, pi_eqF, mI_n, m_in159, Option.bind_some, f_X7_personAt, f_X7_windowAt, mG_i, mG_g, mG_s, pk_us, pk_un, if_neg x]
        exact ⟨_, rfl, d4⟩
    · rw [if_neg y]
      dsimp only
      rw [if_pos (show (0 : Nat) = 0 from rfl)]
      have eY : hC (uC (uC (aTurn0 c s) c 3 (hC s c 3 - 1)) c 1 (hC s c 1 - 1)) c 2 = hC s c 2 := by rw [uC_f (by decide), uC_f (by decide)]; exact uC_f (by decide)
      rw [eY, if_pos (by omega)]
      ((try simp (disch := omega) only [↓reduceIte, pi_0, pi_1, pi_2, pi_3, pi_4, pi_5, pi_6, pi_7, pi_8, pi_9, pi_10, pi_11, pi_12, pi_13, pi_20, pi_27, pi_30, pi_60, pi_99, pi_115, pi_123, pi_135, pi_136, pi_137, pi_138, pi_139, pi_158, pi_159, pi_1113, m_neg, nI_add, pk_mul, pi_sub, mI_dec, pi_cl, pi_leT, pi_leF, pi_ltT, pi_ltF, pi_eqT, pi_eqF, mI_n, m_in159, Option.bind_some, f_X7_personAt, f_X7_windowAt, mG_i, mG_g, mG_s, pk_us, pk_un, e1, e2, e3, e4, e6, e66, z, m_dec0, m_dec1]); repeat (rw [x_let_e]; try simp (disch := omega) only [↓reduceIte, pi_0, pi_1, pi_2, pi_3, pi_4, pi_5, pi_6, pi_7, pi_8, pi_9, pi_10, pi_11, pi_12, pi_13, pi_20, pi_27, pi_30, pi_60, pi_99, pi_115, pi_123, pi_135, pi_136, pi_137, pi_138, pi_139, pi_158, pi_159, pi_1113, m_neg, nI_add, pk_mul, pi_sub, mI_dec, pi_cl, pi_leT, pi_leF, pi_ltT, pi_ltF, pi_eqT, pi_eqF, mI_n, m_in159, Option.bind_some, f_X7_personAt, f_X7_windowAt, mG_i, mG_g, mG_s, pk_us, pk_un, e1, e2, e3, e4, e6, e66, z, m_dec0, m_dec1]))
      exact ⟨_, rfl, d3⟩
  · have z1 : hC s c 6 = 1 := by omega
    rw [if_neg z]
    dsimp only
    rw [if_pos (show (0 : Nat) = 0 from rfl)]
    unfold aTurnU
    rw [show hC (aTurn0 c s) c 3 = hC s c 3 from uC_f (by decide)]
    by_cases y : 6 ≤ hC s c 3 + 1
    · rw [if_pos y]
      have d3 := (d1.uC hn (f := 3) (v := 6) hc (by decide)).uC hn (f := 6) (v := 0) hc (by decide)
      have eY : hC (uC (uC (aTurn0 c s) c 3 6) c 6 0) c 2 = hC s c 2 := by rw [uC_f (by decide), uC_f (by decide)]; exact uC_f (by decide)
      rw [eY, if_pos (by omega)]
      ((try simp (disch := omega) only [↓reduceIte, pi_0, pi_1, pi_2, pi_3, pi_4, pi_5, pi_6, pi_7, pi_8, pi_9, pi_10, pi_11, pi_12, pi_13, pi_20, pi_27, pi_30, pi_60, pi_99, pi_115, pi_123, pi_135, pi_136, pi_137, pi_138, pi_139, pi_158, pi_159, pi_1113, m_neg, nI_add, pk_mul, pi_sub, mI_dec, pi_cl, pi_leT, pi_leF, pi_ltT, pi_ltF, pi_eqT, pi_eqF, mI_n, m_in159, Option.bind_some, f_X7_personAt, f_X7_windowAt, mG_i, mG_g, mG_s, pk_us, pk_un, e1, e2, e3, e4, e6, e66, z1]); repeat (rw [x_let_e]; try simp (disch := omega) only [↓reduceIte, pi_0, pi_1, pi_2, pi_3, pi_4, pi_5, pi_6, pi_7, pi_8, pi_9, pi_10, pi_11, pi_12, pi_13, pi_20, pi_27, pi_30, pi_60, pi_99, pi_115, pi_123, pi_135, pi_136, pi_137, pi_138, pi_139, pi_158, pi_159, pi_1113, m_neg, nI_add, pk_mul, pi_sub, mI_dec, pi_cl, pi_leT, pi_leF, pi_ltT, pi_ltF, pi_eqT, pi_eqF, mI_n, m_in159, Option.bind_some, f_X7_personAt, f_X7_windowAt, mG_i, mG_g, mG_s, pk_us, pk_un, e1, e2, e3, e4, e6, e66, z1]))
      exact ⟨_, rfl, d3⟩
    · rw [if_neg y]
      have d3 := (d1.uC hn (f := 3) (v := hC s c 3 + 1) hc (by decide)).uC hn (f := 6) (v := 1) hc (by decide)
      have eY : hC (uC (uC (aTurn0 c s) c 3 (hC s c 3 + 1)) c 6 1) c 2 = hC s c 2 := by rw [uC_f (by decide), uC_f (by decide)]; exact uC_f (by decide)
      rw [eY, if_pos (by omega)]
      ((try simp (disch := omega) only [↓reduceIte, pi_0, pi_1, pi_2, pi_3, pi_4, pi_5, pi_6, pi_7, pi_8, pi_9, pi_10, pi_11, pi_12, pi_13, pi_20, pi_27, pi_30, pi_60, pi_99, pi_115, pi_123, pi_135, pi_136, pi_137, pi_138, pi_139, pi_158, pi_159, pi_1113, m_neg, nI_add, pk_mul, pi_sub, mI_dec, pi_cl, pi_leT, pi_leF, pi_ltT, pi_ltF, pi_eqT, pi_eqF, mI_n, m_in159, Option.bind_some, f_X7_personAt, f_X7_windowAt, mG_i, mG_g, mG_s, pk_us, pk_un, e1, e2, e3, e4, e6, e66, z1]); repeat (rw [x_let_e]; try simp (disch := omega) only [↓reduceIte, pi_0, pi_1, pi_2, pi_3, pi_4, pi_5, pi_6, pi_7, pi_8, pi_9, pi_10, pi_11, pi_12, pi_13, pi_20, pi_27, pi_30, pi_60, pi_99, pi_115, pi_123, pi_135, pi_136, pi_137, pi_138, pi_139, pi_158, pi_159, pi_1113, m_neg, nI_add, pk_mul, pi_sub, mI_dec, pi_cl, pi_leT, pi_leF, pi_ltT, pi_ltF, pi_eqT, pi_eqF, mI_n, m_in159, Option.bind_some, f_X7_personAt, f_X7_windowAt, mG_i, mG_g, mG_s, pk_us, pk_un, e1, e2, e3, e4, e6, e66, z1]))
      exact ⟨_, rfl, d3⟩
