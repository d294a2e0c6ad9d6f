/-! pure: the model: taking, the fills -/
theorem m_takesL {M : xM} {s : hS} {w : Nat} (d : dH (M.1 10) s (aW s)) (i : aM s) (hF : aF s) (hw : w < 3) (ho : 0 < hW s w 0) (h0 : wo s w = 0) : ∀ (m k n : Nat), k + m = s.1 7 → m < n → pf (fun k => decide (hC s (hQ s k) 5 ≠ 0)) k m = pf (fun k => decide (hC s (hQ s k) 5 ≠ 0)) 0 (s.1 7) → ∃ g', f_X7_takes_L7 (nI w) (nI (12 + 5 * w)) M n (nI k) = some (mG M 10 g') ∧ dH g' (aFill w s) (aW (aFill w s))
  | 0, k, n, e, hn, hp => by
    obtain ⟨n, rfl⟩ : ∃ n', n = n' + 1 := ⟨n - 1, by omega⟩
    have hq := i.1.1.2.1
    unfold f_X7_takes_L7
    simp (disch := omega) only [↓x_let_e, ↓reduceIte, pi_0, pi_1, pi_2, pi_3, pi_4, pi_5, pi_6, pi_7, pi_8, pi_9, pi_10, pi_11, pi_12, pi_13, pi_20, pi_27, pi_30, pi_60, pi_99, pi_115, pi_123, pi_135, pi_136, pi_137, pi_138, pi_139, pi_158, pi_159, pi_1113, m_neg, nI_add, pk_mul, pi_sub, mI_dec, pi_cl, pi_leT, pi_leF, pi_ltT, pi_ltF, pi_eqT, pi_eqF, mI_n, m_in159, Option.bind_some, f_X7_personAt, f_X7_windowAt, mG_i, mG_g, mG_s, pk_us, pk_un, d.qn]
    have : aFill w s = s := by
      unfold aFill
      rw [← hp]
      rfl
    rw [this]
    exact ⟨M.1 10, by rw [mG_id], d⟩
  | m + 1, k, n, e, hn, hp => by
    obtain ⟨n, rfl⟩ : ∃ n', n = n' + 1 := ⟨n - 1, by omega⟩
    have hq := i.1.1.2.1
    have h12 := i.1.1.1
    have eq := d.q (k := k) (by omega)
    have hk := i.1.2.1.1.1 k (by omega)
    have e5 := d.p5 hk
    have f5 := (hF (hQ s k) (by omega)).1
    unfold f_X7_takes_L7
    simp (disch := omega) only [↓x_let_e, ↓reduceIte, pi_0, pi_1, pi_2, pi_3, pi_4, pi_5, pi_6, pi_7, pi_8, pi_9, pi_10, pi_11, pi_12, pi_13, pi_20, pi_27, pi_30, pi_60, pi_99, pi_115, pi_123, pi_135, pi_136, pi_137, pi_138, pi_139, pi_158, pi_159, pi_1113, m_neg, nI_add, pk_mul, pi_sub, mI_dec, pi_cl, pi_leT, pi_leF, pi_ltT, pi_ltF, pi_eqT, pi_eqF, mI_n, m_in159, Option.bind_some, f_X7_personAt, f_X7_windowAt, mG_i, mG_g, mG_s, pk_us, pk_un, d.qn, eq, e5]
    by_cases z : hC s (hQ s k) 5 = 0
    · simp (disch := omega) only [↓x_let_e, ↓reduceIte, pi_0, pi_1, pi_2, pi_3, pi_4, pi_5, pi_6, pi_7, pi_8, pi_9, pi_10, pi_11, pi_12, pi_13, pi_20, pi_27, pi_30, pi_60, pi_99, pi_115, pi_123, pi_135, pi_136, pi_137, pi_138, pi_139, pi_158, pi_159, pi_1113, m_neg, nI_add, pk_mul, pi_sub, mI_dec, pi_cl, pi_leT, pi_leF, pi_ltT, pi_ltF, pi_eqT, pi_eqF, mI_n, m_in159, Option.bind_some, f_X7_personAt, f_X7_windowAt, mG_i, mG_g, mG_s, pk_us, pk_un, z]
      refine m_takesL d i hF hw ho h0 m (k + 1) n (by omega) (by omega) ?_
      rw [← hp, show pf (fun k => decide (hC s (hQ s k) 5 ≠ 0)) k (m + 1) = if decide (hC s (hQ s k) 5 ≠ 0) = true then some k else pf (fun k => decide (hC s (hQ s k) 5 ≠ 0)) (k + 1) m from rfl, if_neg (by simp [z])]
    · have z1 : hC s (hQ s k) 5 = 1 := by omega
      simp (disch := omega) only [↓x_let_e, ↓reduceIte, pi_0, pi_1, pi_2, pi_3, pi_4, pi_5, pi_6, pi_7, pi_8, pi_9, pi_10, pi_11, pi_12, pi_13, pi_20, pi_27, pi_30, pi_60, pi_99, pi_115, pi_123, pi_135, pi_136, pi_137, pi_138, pi_139, pi_158, pi_159, pi_1113, m_neg, nI_add, pk_mul, pi_sub, mI_dec, pi_cl, pi_leT, pi_leF, pi_ltT, pi_ltF, pi_eqT, pi_eqF, mI_n, m_in159, Option.bind_some, f_X7_personAt, f_X7_windowAt, mG_i, mG_g, mG_s, pk_us, pk_un, z1]
      rw [m_leaves d.qn (by omega) hq]
      have hpk : pf (fun k => decide (hC s (hQ s k) 5 ≠ 0)) 0 (s.1 7) = some k := by
        rw [← hp]
        exact if_pos (decide_eq_true z)
      have ef : aFill w s = aFillAt w k s := by unfold aFill; rw [hpk]
      have iM := aM_fill i hw ho h0
      rw [ef] at iM ⊢
      have d1 := dH_take d i.1.1 (p := k) (by omega)
      have n1 : (aTake k s).1 0 = s.1 0 := aTake_n (by decide)
      have e1 := d1.w1 hw (show hW (aTake k s) w 0 ≠ 0 from by have : hW (aTake k s) w 0 = hW s w 0 := rfl; omega)
      have d2 := ((d1.uC (by rw [n1]; exact h12) (i := hQ s k) (f := 6) (v := 0) (by rw [n1]; exact hk) (by decide)).uA (by show (aTake k s).1 0 ≤ 12; rw [n1]; exact h12) (i := hQ s k) (v := w + 1) (by show _ < (aTake k s).1 0; rw [n1]; exact hk)).uW23 (by show (aTake k s).1 0 ≤ 12; rw [n1]; exact h12) (w := w) (o := hQ s k + 1) (p := hW s w 1) hw
      simp (disch := omega) only [↓x_let_e, ↓reduceIte, pi_0, pi_1, pi_2, pi_3, pi_4, pi_5, pi_6, pi_7, pi_8, pi_9, pi_10, pi_11, pi_12, pi_13, pi_20, pi_27, pi_30, pi_60, pi_99, pi_115, pi_123, pi_135, pi_136, pi_137, pi_138, pi_139, pi_158, pi_159, pi_1113, m_neg, nI_add, pk_mul, pi_sub, mI_dec, pi_cl, pi_leT, pi_leF, pi_ltT, pi_ltF, pi_eqT, pi_eqF, mI_n, m_in159, Option.bind_some, f_X7_personAt, f_X7_windowAt, mG_i, mG_g, mG_s, pk_us, pk_un, e1]
      refine ⟨_, rfl, ?_⟩
      have n' : (aFillAt w k s).1 0 = s.1 0 := aTake_n (by decide)
      refine dH.ca (s := aFillAt w k s) (a := va_up (aW s) (hQ s k) (w + 1)) d2 fun j hj => ?_
      rw [n'] at hj
      have Ww : wo (aFillAt w k s) w = hQ s k + 1 := by
        show hW (uW (uW (uC s (hQ s k) 6 0) w 2 (hQ s k + 1)) w 3 (hW s w 1)) w 2 = _
        rw [uW_f (by decide), uW_s]
      by_cases e2 : j = hQ s k
      · rw [e2, va_up_self]
        exact aW_s iM.1.2.1 hw Ww
      · rw [va_up_ne _ _ e2]
        refine aW_cg fun v hv => ?_
        by_cases e3 : v = w
        · rw [e3, Ww, h0]
          omega
        · have : wo (aFillAt w k s) v = wo s v := by
            show hW (uW (uW (uC s (hQ s k) 6 0) w 2 (hQ s k + 1)) w 3 (hW s w 1)) v 2 = _
            rw [uW_w e3, uW_w e3]
            rfl
          rw [this]
theorem m_takes {M : xM} {s : hS} {w : Nat} (d : dH (M.1 10) s (aW s)) (i : aM s) (hF : aF s) (hw : w < 3) (ho : 0 < hW s w 0) (h0 : wo s w = 0) : ∃ g', f_X7_takes (nI w) M = some (mG M 10 g') ∧ dH g' (aFill w s) (aW (aFill w s)) := by
  unfold f_X7_takes
  rw [f_X7_windowAt, Option.bind_some, pi_12, pi_5, pk_mul, nI_add, pi_0]
  exact m_takesL d i hF hw ho h0 (s.1 7) 0 xF (by omega) (by rw [xF_2000]; have := i.1.1.2.1; omega) rfl
theorem m_fillW {M : xM} {s : hS} {w : Nat} (d : dH (M.1 10) s (aW s)) (i : aM s) (hF : aF s) (hw : w < 3) (n : Nat) : ∃ g', f_X7_passes_L75 (n + 1) (nI w) M = f_X7_passes_L75 n (nI (w + 1)) (mG M 10 g') ∧ dH g' (aFillW w s) (aW (aFillW w s)) := by
  have b2 := (i.1.1.2.2.2.1 w hw).2.2.1
  have e2 := d.w2 hw
  rw [f_X7_passes_L75.eq_2]
  rw [m_isOpen d i.1.1 hw]
  unfold aFillW
  by_cases ho : 0 < hW s w 0
  · rw [if_pos ho]
    by_cases h0 : wo s w = 0
    · have h0' : hW s w 2 = 0 := h0
      rw [if_pos (show 0 < hW s w 0 ∧ wo s w = 0 from ⟨ho, h0⟩)]
      obtain ⟨g', h1, h2⟩ := m_takes d i hF hw ho h0
      simp (disch := omega) only [↓x_let_e, ↓reduceIte, pi_0, pi_1, pi_2, pi_3, pi_4, pi_5, pi_6, pi_7, pi_8, pi_9, pi_10, pi_11, pi_12, pi_13, pi_20, pi_27, pi_30, pi_60, pi_99, pi_115, pi_123, pi_135, pi_136, pi_137, pi_138, pi_139, pi_158, pi_159, pi_1113, m_neg, nI_add, pk_mul, pi_sub, mI_dec, pi_cl, pi_leT, pi_leF, pi_ltT, pi_ltF, pi_eqT, pi_eqF, mI_n, m_in159, Option.bind_some, f_X7_personAt, f_X7_windowAt, mG_i, mG_g, mG_s, pk_us, pk_un, m_mI, e2, h0', eI_z, h1]
      exact ⟨g', rfl, h2⟩
    · rw [if_neg (show ¬ (0 < hW s w 0 ∧ wo s w = 0) from fun z => h0 z.2)]
      have h0' : hW s w 2 ≠ 0 := h0
      rw [eI_p (by omega)] at e2
      simp (disch := omega) only [↓x_let_e, ↓reduceIte, pi_0, pi_1, pi_2, pi_3, pi_4, pi_5, pi_6, pi_7, pi_8, pi_9, pi_10, pi_11, pi_12, pi_13, pi_20, pi_27, pi_30, pi_60, pi_99, pi_115, pi_123, pi_135, pi_136, pi_137, pi_138, pi_139, pi_158, pi_159, pi_1113, m_neg, nI_add, pk_mul, pi_sub, mI_dec, pi_cl, pi_leT, pi_leF, pi_ltT, pi_ltF, pi_eqT, pi_eqF, mI_n, m_in159, Option.bind_some, f_X7_personAt, f_X7_windowAt, mG_i, mG_g, mG_s, pk_us, pk_un, m_mI, e2]
      exact ⟨M.1 10, by rw [mG_id], d⟩
  · rw [if_neg ho, if_neg (show ¬ (0 < hW s w 0 ∧ wo s w = 0) from fun z => ho z.1)]
    simp (disch := omega) only [↓x_let_e, ↓reduceIte, pi_0, pi_1, pi_2, pi_3, pi_4, pi_5, pi_6, pi_7, pi_8, pi_9, pi_10, pi_11, pi_12, pi_13, pi_20, pi_27, pi_30, pi_60, pi_99, pi_115, pi_123, pi_135, pi_136, pi_137, pi_138, pi_139, pi_158, pi_159, pi_1113, m_neg, nI_add, pk_mul, pi_sub, mI_dec, pi_cl, pi_leT, pi_leF, pi_ltT, pi_ltF, pi_eqT, pi_eqF, mI_n, m_in159, Option.bind_some, f_X7_personAt, f_X7_windowAt, mG_i, mG_g, mG_s, pk_us, pk_un]
    exact ⟨M.1 10, by rw [mG_id], d⟩
theorem aF_fillW {s : hS} {w : Nat} (h : aF s) : aF (aFillW w s) := by
  unfold aFillW
  split
  · exact aF_fill h
  · exact h
theorem m_fills {M : xM} {s : hS} (d : dH (M.1 10) s (aW s)) (i : aM s) (hF : aF s) (n : Nat) : ∃ g', f_X7_passes_L75 (n + 1 + 1 + 1 + 1) (nI 0) M = some (mG M 10 g') ∧ dH g' (u0 (aFills s) 1 ((aFills s).1 1 + 1)) (aW (u0 (aFills s) 1 ((aFills s).1 1 + 1))) := by
  obtain ⟨g1, h1, d1⟩ := m_fillW (w := 0) d i hF (by decide) (n + 1 + 1 + 1)
  have i1 := aM_fillW (w := 0) i (by decide)
  have F1 := aF_fillW (w := 0) hF
  obtain ⟨g2, h2, d2⟩ := m_fillW (M := mG M 10 g1) (w := 1) (by rw [mG_s]; exact d1) i1 F1 (by decide) (n + 1 + 1)
  have i2 := aM_fillW (w := 1) i1 (by decide)
  have F2 := aF_fillW (w := 1) F1
  rw [mG_g] at h2
  obtain ⟨g3, h3, d3⟩ := m_fillW (M := mG M 10 g2) (w := 2) (by rw [mG_s]; exact d2) i2 F2 (by decide) (n + 1)
  have i3 := aM_fillW (w := 2) i2 (by decide)
  rw [mG_g] at h3
  have e1 : g3 1 = nI ((aFillW 2 (aFillW 1 (aFillW 0 s))).1 1) := d3.sc (j := 1) (by decide)
  rw [h1, h2, h3, f_X7_passes_L75.eq_2]
  simp (disch := omega) only [↓x_let_e, ↓reduceIte, pi_0, pi_1, pi_2, pi_3, pi_4, pi_5, pi_6, pi_7, pi_8, pi_9, pi_10, pi_11, pi_12, pi_13, pi_20, pi_27, pi_30, pi_60, pi_99, pi_115, pi_123, pi_135, pi_136, pi_137, pi_138, pi_139, pi_158, pi_159, pi_1113, m_neg, nI_add, pk_mul, pi_sub, mI_dec, pi_cl, pi_leT, pi_leF, pi_ltT, pi_ltF, pi_eqT, pi_eqF, mI_n, m_in159, Option.bind_some, f_X7_personAt, f_X7_windowAt, mG_i, mG_g, mG_s, pk_us, pk_un, e1]
  have d4 := d3.uS i3.1.1.1 (j := 1) (v := (aFillW 2 (aFillW 1 (aFillW 0 s))).1 1 + 1) (by decide) (by decide) (by decide) (by decide)
  exact ⟨_, rfl, d4.ca fun j _ => aW_cg fun v hv => Iff.rfl⟩
