/-! pure: flags are 0 or 1; the model: a window's turn, a customer's turn -/
def aF (s : hS) : Prop := ∀ i, i < 12 → hC s i 5 ≤ 1 ∧ hC s i 6 ≤ 1
theorem aF_C {s t : hS} (h : aF s) (e : hC t = hC s) : aF t := fun i hi => by rw [e]; exact h i hi
theorem aF_uC {s : hS} {i f v : Nat} (h : aF s) (hv : f = 5 ∨ f = 6 → v ≤ 1) : aF (uC s i f v) := fun j hj => by
  have hh := h j hj
  refine ⟨?_, ?_⟩
  · show up2 s.2.2.2.1 i f v j 5 ≤ 1
    unfold up2
    split
    · exact hv (by omega)
    · exact hh.1
  · show up2 s.2.2.2.1 i f v j 6 ≤ 1
    unfold up2
    split
    · exact hv (by omega)
    · exact hh.2
theorem aF_leave {s : hS} {c : Nat} (h : aF s) (b : aB s) (hc : c < s.1 0) : aF (aLeave c s) := fun i hi => by
  have e : ∀ f, hC (aLeave c s) i f = hC s (pm c (s.1 0) i) f := fun f => by
    show (aOutW c (aOutQ c s)).2.2.2.1 (pm c ((aOutW c (aOutQ c s)).1 0) i) f = _
    rw [aOutW_1, aOutQ_n (by decide)]
    show hC (aOutW c (aOutQ c s)) _ f = _
    rw [aOutW_C, aOutQ_C]
  rw [e, e]
  exact h _ (pm_lt hc b.1 hi)
theorem aF_shut {s : hS} {w : Nat} (h : aF s) : aF (aShut w s) := aF_C h aShut_C
theorem aF_tick {s : hS} {w : Nat} (h : aF s) : aF (aTick w s) := aF_C h aTick_C
theorem aF_work {s : hS} {w : Nat} (h : aF s) (b : aB s) (k : aK s) (hw : w < 3) : aF (aWork w s) := by
  have k3 : hW s w 2 ≤ s.1 0 := k.1.2.2.1 w hw
  unfold aWork
  split
  · exact aF_tick h
  · have b1 : aB (uW s w 3 (hW s w 3 - 1)) := aB_uW b (by omega) (by omega) (by omega) (by have := (b.2.2.2.1 w hw).2.2.2; omega)
    split
    · exact aF_tick (aF_leave (aF_C (s := s) h aServe_C) (aB_serve b1) (by rw [aServe_n (by decide) (by decide)]; show _ < s.1 0; omega))
    · exact aF_tick (s := uW s w 3 (hW s w 3 - 1)) h
theorem aF_turn {s : hS} {c : Nat} (h : aF s) : aF (aTurn c s).2 := by
  have h0 : aF (aTurn0 c s) := aF_uC h (by omega)
  have hs : aF (aTurnS c (aTurn0 c s)) := aF_uC (aF_uC h0 (by omega)) (by omega)
  unfold aTurn aTurnU
  split
  · split
    · exact aF_uC hs (by omega)
    · exact hs
  · split
    · exact aF_uC (aF_uC h0 (by omega)) (by omega)
    · exact aF_uC (aF_uC h0 (by omega)) (by omega)
theorem aF_waitY {s : hS} {p : Nat} (h : aF s) : aF (aWaitY p s) := aF_C (aF_turn h) aWaitY_C
theorem aF_waitS {s : hS} {p : Nat} (h : aF s) (i : aI s) (hp : p < s.1 7) : aF (aWaitS p s).2 := by
  have hc := i.2.1.1.1 p hp
  have b1 := aB_waitY (p := p) i.1 (by have := i.1.1; omega) (i.2.2 _ hc)
  unfold aWaitS
  split
  · exact aF_waitY h
  · exact aF_leave (s := u0 (aWaitY p s) 5 ((aWaitY p s).1 5 + 1)) (aF_waitY h) (aB_u0 b1 (by omega)) (by rw [u0_n (by decide), aWaitY_n (by decide)]; exact hc)
theorem aF_fill {s : hS} {w : Nat} (h : aF s) : aF (aFill w s) := by
  unfold aFill
  split
  · next p _ => exact aF_uC (i := hQ s p) h (by omega)
  · exact h
/-- what the model's proofs ask of a hall -/
def aG (s : hS) : Prop := aM s ∧ aF s
theorem m_isOpen {M : xM} {s : hS} {a : Nat → Nat} {w : Nat} (d : dH (M.1 10) s a) (b : aB s) (hw : w < 3) : f_X7_isOpen (nI w) M = some (if 0 < hW s w 0 then nI 1 else nI 0) := by
  have e0 := d.w0 hw
  have := (b.2.2.2.1 w hw).1
  unfold f_X7_isOpen
  by_cases g : 0 < hW s w 0
  · simp (disch := omega) only [x_let, ↓reduceIte, pi_0, pi_1, pi_2, pi_3, pi_4, pi_5, pi_6, pi_7, pi_8, pi_9, pi_10, pi_11, pi_12, pi_13, pi_20, pi_27, pi_30, pi_60, pi_99, pi_115, pi_123, pi_135, pi_136, pi_137, pi_138, pi_139, pi_158, pi_159, pi_1113, m_neg, nI_add, pk_mul, pi_sub, mI_dec, pi_cl, pi_leT, pi_leF, pi_ltT, pi_ltF, pi_eqT, pi_eqF, mI_n, m_in159, Option.bind_some, f_X7_personAt, f_X7_windowAt, mG_i, mG_g, mG_s, pk_us, pk_un, e0, if_pos g]
  · simp (disch := omega) only [x_let, ↓reduceIte, pi_0, pi_1, pi_2, pi_3, pi_4, pi_5, pi_6, pi_7, pi_8, pi_9, pi_10, pi_11, pi_12, pi_13, pi_20, pi_27, pi_30, pi_60, pi_99, pi_115, pi_123, pi_135, pi_136, pi_137, pi_138, pi_139, pi_158, pi_159, pi_1113, m_neg, nI_add, pk_mul, pi_sub, mI_dec, pi_cl, pi_leT, pi_leF, pi_ltT, pi_ltF, pi_eqT, pi_eqF, mI_n, m_in159, Option.bind_some, f_X7_personAt, f_X7_windowAt, mG_i, mG_g, mG_s, pk_us, pk_un, e0, if_neg g]
theorem m_tick {M : xM} {s : hS} {w : Nat} (d : dH (M.1 10) s (aW s)) (b : aB s) (k : aK s) (hw : w < 3) (ho : 0 < hW s w 0) : ∃ g', (x_let (sI M 10 (12 + 5 * w) (nI (hW s w 0) - (1 : Int32))) fun M10 => (if (M10.1 10 (12 + 5 * w)) = 0 then (f_X7_closes (nI w) M10).bind fun q14 => some q14 else some M10)) = some (mG M 10 g') ∧ dH g' (aTick w s) (aW (aTick w s)) := by
  have hn := b.1
  have hb := (b.2.2.2.1 w hw).1
  have d1 := d.uW0 hn (w := w) (v := hW s w 0 - 1) hw (by omega)
  simp (disch := omega) only [x_let, ↓reduceIte, pi_0, pi_1, pi_2, pi_3, pi_4, pi_5, pi_6, pi_7, pi_8, pi_9, pi_10, pi_11, pi_12, pi_13, pi_20, pi_27, pi_30, pi_60, pi_99, pi_115, pi_123, pi_135, pi_136, pi_137, pi_138, pi_139, pi_158, pi_159, pi_1113, m_neg, nI_add, pk_mul, pi_sub, mI_dec, pi_cl, pi_leT, pi_leF, pi_ltT, pi_ltF, pi_eqT, pi_eqF, mI_n, m_in159, Option.bind_some, f_X7_personAt, f_X7_windowAt, mG_i, mG_g, mG_s, pk_us, pk_un]
  rw [aTick_e]
  by_cases g : hW s w 0 - 1 = 0
  · simp (disch := omega) only [x_let, ↓reduceIte, pi_0, pi_1, pi_2, pi_3, pi_4, pi_5, pi_6, pi_7, pi_8, pi_9, pi_10, pi_11, pi_12, pi_13, pi_20, pi_27, pi_30, pi_60, pi_99, pi_115, pi_123, pi_135, pi_136, pi_137, pi_138, pi_139, pi_158, pi_159, pi_1113, m_neg, nI_add, pk_mul, pi_sub, mI_dec, pi_cl, pi_leT, pi_leF, pi_ltT, pi_ltF, pi_eqT, pi_eqF, mI_n, m_in159, Option.bind_some, f_X7_personAt, f_X7_windowAt, mG_i, mG_g, mG_s, pk_us, pk_un, if_pos g]
    obtain ⟨g', h1, h2⟩ := m_closesX (M := mG M 10 (upd (M.1 10) (12 + 5 * w) (nI (hW s w 0 - 1)))) (by rw [mG_s]; exact d1) b k hw
    rw [mG_g] at h1
    rw [h1]
    exact ⟨g', rfl, h2⟩
  · simp (disch := omega) only [x_let, ↓reduceIte, pi_0, pi_1, pi_2, pi_3, pi_4, pi_5, pi_6, pi_7, pi_8, pi_9, pi_10, pi_11, pi_12, pi_13, pi_20, pi_27, pi_30, pi_60, pi_99, pi_115, pi_123, pi_135, pi_136, pi_137, pi_138, pi_139, pi_158, pi_159, pi_1113, m_neg, nI_add, pk_mul, pi_sub, mI_dec, pi_cl, pi_leT, pi_leF, pi_ltT, pi_ltF, pi_eqT, pi_eqF, mI_n, m_in159, Option.bind_some, f_X7_personAt, f_X7_windowAt, mG_i, mG_g, mG_s, pk_us, pk_un, if_neg g]
    refine ⟨_, rfl, d1.ca fun i hi => aW_cg fun v hv => ?_⟩
    rw [show wo (uW s w 0 (hW s w 0 - 1)) v = wo s v from uW_f (by decide)]
theorem m_windowTurns {M : xM} {s : hS} {w : Nat} (d : dH (M.1 10) s (aW s)) (i : aM s) (hw : w < 3) : ∃ g', f_X7_windowTurns (nI w) M = some (mG M 10 g') ∧ dH g' (aWorkW w s) (aW (aWorkW w s)) := by
  obtain ⟨⟨b, k, k10⟩, n⟩ := i
  have hn := b.1
  obtain ⟨b0, b1, b2, b3⟩ := b.2.2.2.1 w hw
  have e0 := d.w0 hw
  have e2 := d.w2 hw
  unfold f_X7_windowTurns aWorkW
  rw [f_X7_windowAt, Option.bind_some, m_isOpen d b hw, Option.bind_some]
  by_cases ho : 0 < hW s w 0
  · rw [if_pos ho, if_pos ho]
    have tk := m_tick d b k hw ho
    simp (disch := omega) only [pi_0, pi_1, pi_2, pi_3, pi_4, pi_5, pi_6, pi_7, pi_8, pi_9, pi_10, pi_11, pi_12, pi_13, pi_20, pi_27, pi_30, pi_60, pi_99, pi_115, pi_123, pi_135, pi_136, pi_137, pi_138, pi_139, pi_158, pi_159, pi_1113, m_neg, nI_add, pk_mul, pi_sub, mI_dec, pi_cl, pi_leT, pi_leF, pi_ltT, pi_ltF, pi_eqT, pi_eqF, mI_n, m_in159, ↓reduceIte, e0] at tk ⊢
    unfold aWork
    by_cases g : hW s w 2 = 0
    · rw [if_pos g]
      simp (disch := omega) only [e2, g, eI_z, m_mI, ↓reduceIte]
      exact tk
    · rw [if_neg g]
      have e3 := d.w3 hw g
      have n3 := (n w hw).2 g
      have k3 : hW s w 2 ≤ s.1 0 := k.1.2.2.1 w hw
      obtain ⟨c, hc⟩ : ∃ c, hW s w 2 = c + 1 := ⟨hW s w 2 - 1, by omega⟩
      rw [hc, eI_s] at e2
      have d1 := d.uW3 hn (w := w) (v := hW s w 3 - 1) hw
      have bb : aB (uW s w 3 (hW s w 3 - 1)) := aB_uW b (by omega) (by omega) (by omega) (by omega)
      have ks := aK_uW3 (w := w) (x := hW s w 3 - 1) k
      have ea : ∀ i, aW (uW s w 3 (hW s w 3 - 1)) i = aW s i := fun i => aW_cg fun v hv => by rw [show wo (uW s w 3 (hW s w 3 - 1)) v = wo s v from uW_f (by decide)]
      have d1 := d1.ca fun i _ => ea i
      simp (disch := omega) only [x_let, ↓reduceIte, pi_0, pi_1, pi_2, pi_3, pi_4, pi_5, pi_6, pi_7, pi_8, pi_9, pi_10, pi_11, pi_12, pi_13, pi_20, pi_27, pi_30, pi_60, pi_99, pi_115, pi_123, pi_135, pi_136, pi_137, pi_138, pi_139, pi_158, pi_159, pi_1113, m_neg, nI_add, pk_mul, pi_sub, mI_dec, pi_cl, pi_leT, pi_leF, pi_ltT, pi_ltF, pi_eqT, pi_eqF, mI_n, m_in159, Option.bind_some, f_X7_personAt, f_X7_windowAt, mG_i, mG_g, mG_s, pk_us, pk_un, e2, e3]
      by_cases g2 : hW s w 3 - 1 = 0
      · rw [if_pos g2]
        simp (disch := omega) only [x_let, ↓reduceIte, pi_0, pi_1, pi_2, pi_3, pi_4, pi_5, pi_6, pi_7, pi_8, pi_9, pi_10, pi_11, pi_12, pi_13, pi_20, pi_27, pi_30, pi_60, pi_99, pi_115, pi_123, pi_135, pi_136, pi_137, pi_138, pi_139, pi_158, pi_159, pi_1113, m_neg, nI_add, pk_mul, pi_sub, mI_dec, pi_cl, pi_leT, pi_leF, pi_ltT, pi_ltF, pi_eqT, pi_eqF, mI_n, m_in159, Option.bind_some, f_X7_personAt, f_X7_windowAt, mG_i, mG_g, mG_s, pk_us, pk_un, e2, hc]
        rw [show c + 1 - 1 = c from rfl]
        obtain ⟨g1, h1, h2⟩ := m_remembers (M := mG M 10 (upd (M.1 10) (12 + 5 * w + 3) (nI (hW s w 3 - 1)))) (c := c) (w := w) (by rw [mG_s]; exact d1) bb (by show c < s.1 0; omega)
        rw [h1, Option.bind_some]
        simp (disch := omega) only [x_let, ↓reduceIte, pi_0, pi_1, pi_2, pi_3, pi_4, pi_5, pi_6, pi_7, pi_8, pi_9, pi_10, pi_11, pi_12, pi_13, pi_20, pi_27, pi_30, pi_60, pi_99, pi_115, pi_123, pi_135, pi_136, pi_137, pi_138, pi_139, pi_158, pi_159, pi_1113, m_neg, nI_add, pk_mul, pi_sub, mI_dec, pi_cl, pi_leT, pi_leF, pi_ltT, pi_ltF, pi_eqT, pi_eqF, mI_n, m_in159, Option.bind_some, f_X7_personAt, f_X7_windowAt, mG_i, mG_g, mG_s, pk_us, pk_un]
        have h3 := h2.w2 hw
        rw [aServe_W, uW_f (by decide), hc, eI_s] at h3
        simp (disch := omega) only [x_let, ↓reduceIte, pi_0, pi_1, pi_2, pi_3, pi_4, pi_5, pi_6, pi_7, pi_8, pi_9, pi_10, pi_11, pi_12, pi_13, pi_20, pi_27, pi_30, pi_60, pi_99, pi_115, pi_123, pi_135, pi_136, pi_137, pi_138, pi_139, pi_158, pi_159, pi_1113, m_neg, nI_add, pk_mul, pi_sub, mI_dec, pi_cl, pi_leT, pi_leF, pi_ltT, pi_ltF, pi_eqT, pi_eqF, mI_n, m_in159, Option.bind_some, f_X7_personAt, f_X7_windowAt, mG_i, mG_g, mG_s, pk_us, pk_un, h3]
        have sn : (aServe c (uW s w 3 (hW s w 3 - 1))).1 0 = s.1 0 := aServe_n (by decide) (by decide)
        have s7 : (aServe c (uW s w 3 (hW s w 3 - 1))).1 7 = s.1 7 := aServe_n (by decide) (by decide)
        have d2 := h2.uX (by rw [sn]; exact hn) (by rw [s7]; exact b.2.1) (k := 12 + 5 * w + 4) (v := g1 (12 + 5 * w + 4) + nI 1) (by omega)
        have ea2 : ∀ i, aW (aServe c (uW s w 3 (hW s w 3 - 1))) i = aW (uW s w 3 (hW s w 3 - 1)) i := fun i => aW_cg fun v hv => by unfold wo; rw [aServe_W]
        obtain ⟨g3, h4, h5⟩ := m_goes (M := mG M 10 (upd g1 (12 + 5 * w + 4) (g1 (12 + 5 * w + 4) + nI 1))) (c := c) (by rw [mG_s]; exact d2.ca fun i _ => ea2 i) (aB_serve bb) (aK_serve ks) (by rw [sn]; omega)
        rw [h4, Option.bind_some]
        have bl := aB_leave (c := c) (aB_serve bb) (by rw [sn]; omega)
        have kl := aK_leave (c := c) (aK_serve ks) (by rw [sn]; omega)
        have e00 : hW (aLeave c (aServe c (uW s w 3 (hW s w 3 - 1)))) w 0 = hW s w 0 := by rw [aLeave_w (by decide), aServe_W, uW_f (by decide)]
        obtain ⟨g4, h6, h7⟩ := m_tick (M := mG M 10 g3) (w := w) (by rw [mG_s]; exact h5) bl kl hw (by rw [e00]; exact ho)
        have e01 := h5.w0 hw
        rw [e00] at e01 h6
        simp (disch := omega) only [x_let, ↓reduceIte, pi_0, pi_1, pi_2, pi_3, pi_4, pi_5, pi_6, pi_7, pi_8, pi_9, pi_10, pi_11, pi_12, pi_13, pi_20, pi_27, pi_30, pi_60, pi_99, pi_115, pi_123, pi_135, pi_136, pi_137, pi_138, pi_139, pi_158, pi_159, pi_1113, m_neg, nI_add, pk_mul, pi_sub, mI_dec, pi_cl, pi_leT, pi_leF, pi_ltT, pi_ltF, pi_eqT, pi_eqF, mI_n, m_in159, Option.bind_some, f_X7_personAt, f_X7_windowAt, mG_i, mG_g, mG_s, pk_us, pk_un, e01] at h6 ⊢
        rw [h6]
        exact ⟨g4, rfl, h7⟩
      · rw [if_neg g2]
        simp (disch := omega) only [x_let, ↓reduceIte, pi_0, pi_1, pi_2, pi_3, pi_4, pi_5, pi_6, pi_7, pi_8, pi_9, pi_10, pi_11, pi_12, pi_13, pi_20, pi_27, pi_30, pi_60, pi_99, pi_115, pi_123, pi_135, pi_136, pi_137, pi_138, pi_139, pi_158, pi_159, pi_1113, m_neg, nI_add, pk_mul, pi_sub, mI_dec, pi_cl, pi_leT, pi_leF, pi_ltT, pi_ltF, pi_eqT, pi_eqF, mI_n, m_in159, Option.bind_some, f_X7_personAt, f_X7_windowAt, mG_i, mG_g, mG_s, pk_us, pk_un]
        obtain ⟨g4, h6, h7⟩ := m_tick (M := mG M 10 (upd (M.1 10) (12 + 5 * w + 3) (nI (hW s w 3 - 1)))) (w := w) (by rw [mG_s]; exact d1) bb ks hw (by rw [uW_f (by decide)]; exact ho)
        rw [uW_f (by decide)] at h6
        simp (disch := omega) only [x_let, ↓reduceIte, pi_0, pi_1, pi_2, pi_3, pi_4, pi_5, pi_6, pi_7, pi_8, pi_9, pi_10, pi_11, pi_12, pi_13, pi_20, pi_27, pi_30, pi_60, pi_99, pi_115, pi_123, pi_135, pi_136, pi_137, pi_138, pi_139, pi_158, pi_159, pi_1113, m_neg, nI_add, pk_mul, pi_sub, mI_dec, pi_cl, pi_leT, pi_leF, pi_ltT, pi_ltF, pi_eqT, pi_eqF, mI_n, m_in159, Option.bind_some, f_X7_personAt, f_X7_windowAt, mG_i, mG_g, mG_s, pk_us, pk_un, e0] at h6 ⊢
        rw [h6]
        exact ⟨g4, rfl, h7⟩
  · rw [if_neg ho, if_neg ho]
    simp (disch := omega) only [pi_0, pi_1, pi_2, pi_3, pi_4, pi_5, pi_6, pi_7, pi_8, pi_9, pi_10, pi_11, pi_12, pi_13, pi_20, pi_27, pi_30, pi_60, pi_99, pi_115, pi_123, pi_135, pi_136, pi_137, pi_138, pi_139, pi_158, pi_159, pi_1113, m_neg, ↓reduceIte]
    exact ⟨M.1 10, by rw [mG_id], d⟩
