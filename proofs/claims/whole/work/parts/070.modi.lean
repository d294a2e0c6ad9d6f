/-! pure: the model: shutting a window -/
def mBk (c k q : Nat) (g : Nat → Int32) : Nat → Int32 := fun x => if x = 27 + 8 * c + 7 then mI else if x = 9 then nI (q + 1) else if x = 123 then nI c else if 123 < x ∧ x ≤ 123 + k then g (x - 1) else g x
theorem m_back {c q : Nat} (hc : c < 12) (hq : q < 12) : ∀ (k n : Nat) (M : xM), M.1 10 9 = nI q → k ≤ q → k < n → f_X7_goesBack_L8 (nI c) n (nI k) M = some (mG M 10 (mBk c k q (M.1 10)))
  | 0, n, M, e9, hk, hn => by
    obtain ⟨n, rfl⟩ : ∃ n', n = n' + 1 := ⟨n - 1, by omega⟩
    unfold f_X7_goesBack_L8
    simp (disch := omega) only [x_let, ↓reduceIte, pi_0, pi_1, pi_2, pi_3, pi_4, pi_5, pi_6, pi_7, pi_8, pi_9, pi_10, pi_11, pi_12, pi_13, pi_20, pi_27, pi_30, pi_60, pi_99, pi_115, pi_123, pi_135, pi_136, pi_137, pi_138, pi_139, pi_158, pi_159, pi_1113, m_neg, nI_add, pk_mul, pi_sub, mI_dec, pi_cl, pi_leT, pi_leF, pi_ltT, pi_ltF, pi_eqT, pi_eqF, mI_n, m_in159, Option.bind_some, f_X7_personAt, f_X7_windowAt, mG_i, mG_g, mG_s, pk_us, pk_un, e9]
    congr 2
    funext x
    simp only [mBk, upd]
    (repeat' split) <;> first | rfl | (exfalso; omega) | exact congrArg _ (by omega)
  | k + 1, n, M, e9, hk, hn => by
    obtain ⟨n, rfl⟩ : ∃ n', n = n' + 1 := ⟨n - 1, by omega⟩
    unfold f_X7_goesBack_L8
    simp (disch := omega) only [x_let, ↓reduceIte, pi_0, pi_1, pi_2, pi_3, pi_4, pi_5, pi_6, pi_7, pi_8, pi_9, pi_10, pi_11, pi_12, pi_13, pi_20, pi_27, pi_30, pi_60, pi_99, pi_115, pi_123, pi_135, pi_136, pi_137, pi_138, pi_139, pi_158, pi_159, pi_1113, m_neg, nI_add, pk_mul, pi_sub, mI_dec, pi_cl, pi_leT, pi_leF, pi_ltT, pi_ltF, pi_eqT, pi_eqF, mI_n, m_in159, Option.bind_some, f_X7_personAt, f_X7_windowAt, mG_i, mG_g, mG_s, pk_us, pk_un]
    rw [show k + 1 - 1 = k from rfl, m_back hc hq k n _ (by simp (disch := omega) only [x_let, ↓reduceIte, pi_0, pi_1, pi_2, pi_3, pi_4, pi_5, pi_6, pi_7, pi_8, pi_9, pi_10, pi_11, pi_12, pi_13, pi_20, pi_27, pi_30, pi_60, pi_99, pi_115, pi_123, pi_135, pi_136, pi_137, pi_138, pi_139, pi_158, pi_159, pi_1113, m_neg, nI_add, pk_mul, pi_sub, mI_dec, pi_cl, pi_leT, pi_leF, pi_ltT, pi_ltF, pi_eqT, pi_eqF, mI_n, m_in159, Option.bind_some, f_X7_personAt, f_X7_windowAt, mG_i, mG_g, mG_s, pk_us, pk_un, e9]) (by omega) (by omega)]
    simp (disch := omega) only [x_let, ↓reduceIte, pi_0, pi_1, pi_2, pi_3, pi_4, pi_5, pi_6, pi_7, pi_8, pi_9, pi_10, pi_11, pi_12, pi_13, pi_20, pi_27, pi_30, pi_60, pi_99, pi_115, pi_123, pi_135, pi_136, pi_137, pi_138, pi_139, pi_158, pi_159, pi_1113, m_neg, nI_add, pk_mul, pi_sub, mI_dec, pi_cl, pi_leT, pi_leF, pi_ltT, pi_ltF, pi_eqT, pi_eqF, mI_n, m_in159, Option.bind_some, f_X7_personAt, f_X7_windowAt, mG_i, mG_g, mG_s, pk_us, pk_un]
    congr 2
    funext x
    simp only [mBk, upd]
    (repeat' split) <;> first | rfl | (exfalso; omega) | exact congrArg _ (by omega)
theorem dH_front {g : Nat → Int32} {s : hS} {a : Nat → Nat} {c : Nat} (d : dH g s a) (b : aB s) (hc : c < s.1 0) (hq : s.1 7 < 12) : dH (mBk c (s.1 7) (s.1 7) g) (aFront c s) (va_up a c 0) := by
  have hn := b.1
  have n' : (aFront c s).1 0 = s.1 0 := aFront_0 (by decide)
  have q' : (aFront c s).1 7 = s.1 7 + 1 := aFront_7
  have ot : ∀ x, x ≠ 9 → x ≠ 27 + 8 * c + 7 → x < 123 ∨ 135 ≤ x → mBk c (s.1 7) (s.1 7) g x = g x := fun x h0 h1 h2 => by
    unfold mBk
    rw [if_neg h1, if_neg h0, if_neg (by omega), if_neg (by omega)]
  refine ⟨fun j hj => ?_, ?_, fun w hw => ?_, fun i hi f hf => ?_, fun i hi => ?_, fun k h1 h2 => ?_, fun k hk => ?_, fun r hr => ?_⟩
  · by_cases e : j = 7
    · subst e
      rw [q', show dix 7 = 9 from rfl]
      unfold mBk
      rw [if_neg (by omega), if_pos rfl]
    · have hx := dix_le hj
      rw [aFront_0 e, ot _ (fun z => e (dix_inj hj (b := 7) (by decide) z)) (by omega) (by omega)]
      exact d.sc hj
  · show mBk c (s.1 7) (s.1 7) g 10 = nI (if (aFront c s).1 3 < 6 then (aFront c s).1 3 else 6)
    rw [ot 10 (by omega) (by omega) (by omega), aFront_0 (by decide)]
    exact d.k10
  · rw [ot _ (by omega) (by omega) (by omega), ot _ (by omega) (by omega) (by omega), ot _ (by omega) (by omega) (by omega), ot _ (by omega) (by omega) (by omega)]
    exact d.2.2.1 w hw
  · rw [n'] at hi
    have := mf_le f
    rw [ot _ (by omega) (by omega) (by omega)]
    exact d.p hi hf
  · rw [n'] at hi
    by_cases e : i = c
    · subst e
      rw [va_up_self]
      unfold mBk
      rw [if_pos rfl]
      rfl
    · rw [ot _ (by omega) (by omega) (by omega), va_up_ne _ _ e]
      exact d.at_ hi
  · rw [n'] at h1
    rw [ot _ (by omega) (by omega) (by omega)]
    exact d.z h1 h2
  · rw [q'] at hk
    unfold mBk
    rw [if_neg (by omega), if_neg (by omega)]
    cases k with
    | zero => rw [if_pos (by omega)]; rfl
    | succ k =>
      rw [if_neg (by omega), if_pos (by omega), aFront_qs (by omega), show 123 + (k + 1) - 1 = 123 + k by omega]
      exact d.q (by omega)
  · rw [ot _ (by omega) (by omega) (by omega), ot _ (by omega) (by omega) (by omega)]
    exact d.2.2.2.2.2.2.2 r hr
theorem aW_shut {s : hS} {w i : Nat} (k : aK s) (hw : w < 3) : aW (aShut w s) i = if wo s w = i + 1 then 0 else aW s i := by
  by_cases g : wo s w = i + 1
  · rw [if_pos g]
    refine aW_0 fun v hv => ?_
    by_cases e : v = w
    · rw [e, aShut_w2]; omega
    · rw [aShut_v2 e]
      intro z
      exact e (k.1.2.2.2.1 v w hv hw (by omega) (z.trans g.symm))
  · rw [if_neg g]
    refine aW_cg fun v hv => ?_
    by_cases e : v = w
    · subst e
      rw [aShut_w2]
      exact ⟨fun z => by omega, fun z => absurd z g⟩
    · rw [aShut_v2 e]
theorem uW_self {s : hS} {w f v : Nat} (h : hW s w f = v) : uW s w f v = s := by
  unfold uW
  have : up2 s.2.2.1 w f v = s.2.2.1 := funext fun i => funext fun j => by
    unfold up2
    by_cases z : i = w ∧ j = f
    · rw [if_pos z, z.1, z.2]; exact h.symm
    · rw [if_neg z]
  rw [this]
/-- the window w shuts; its opening time may just have been counted down -/
theorem m_closesX {M : xM} {s : hS} {w x : Nat} (d : dH (M.1 10) (uW s w 0 x) (aW s)) (b : aB s) (k : aK s) (hw : w < 3) : ∃ g', f_X7_closes (nI w) M = some (mG M 10 g') ∧ dH g' (aShut w s) (aW (aShut w s)) := by
  have hn := b.1
  have hq := b.2.1
  have e2 := d.w2 hw
  rw [uW_f (by decide)] at e2
  have d1 := d.uWc hn hw (x := nI 0) (y := nI 0)
  rw [uW_twice] at d1
  have e9 : M.1 10 9 = nI (s.1 7) := d.qn
  unfold f_X7_closes
  simp (disch := omega) only [x_let, ↓reduceIte, pi_0, pi_1, pi_2, pi_3, pi_4, pi_5, pi_6, pi_7, pi_8, pi_9, pi_10, pi_11, pi_12, pi_13, pi_20, pi_27, pi_30, pi_60, pi_99, pi_115, pi_123, pi_135, pi_136, pi_137, pi_138, pi_139, pi_158, pi_159, pi_1113, m_neg, nI_add, pk_mul, pi_sub, mI_dec, pi_cl, pi_leT, pi_leF, pi_ltT, pi_ltF, pi_eqT, pi_eqF, mI_n, m_in159, Option.bind_some, f_X7_personAt, f_X7_windowAt, mG_i, mG_g, mG_s, pk_us, pk_un, m_mI]
  by_cases g : wo s w = 0
  · have g' : hW s w 2 = 0 := g
    simp (disch := omega) only [x_let, ↓reduceIte, pi_0, pi_1, pi_2, pi_3, pi_4, pi_5, pi_6, pi_7, pi_8, pi_9, pi_10, pi_11, pi_12, pi_13, pi_20, pi_27, pi_30, pi_60, pi_99, pi_115, pi_123, pi_135, pi_136, pi_137, pi_138, pi_139, pi_158, pi_159, pi_1113, m_neg, nI_add, pk_mul, pi_sub, mI_dec, pi_cl, pi_leT, pi_leF, pi_ltT, pi_ltF, pi_eqT, pi_eqF, mI_n, m_in159, Option.bind_some, f_X7_personAt, f_X7_windowAt, mG_i, mG_g, mG_s, pk_us, pk_un, e2, g', eI_z]
    refine ⟨_, rfl, ?_⟩
    rw [aShut_a g]
    rw [uW_self (s := uW s w 0 0) (w := w) (f := 2) (v := 0) (by rw [uW_f (by decide)]; exact g')] at d1
    refine d1.ca fun i hi => aW_cg fun v hv => ?_
    rw [show wo (uW s w 0 0) v = wo s v from uW_f (by decide)]
  · obtain ⟨c, hc⟩ : ∃ c, wo s w = c + 1 := ⟨wo s w - 1, by omega⟩
    have hc' : hW s w 2 = c + 1 := hc
    have k3 := k.1.2.2.1 w hw
    have q12 := aK_q12 k b hw g
    rw [hc', eI_s] at e2
    simp (disch := omega) only [x_let, ↓reduceIte, pi_0, pi_1, pi_2, pi_3, pi_4, pi_5, pi_6, pi_7, pi_8, pi_9, pi_10, pi_11, pi_12, pi_13, pi_20, pi_27, pi_30, pi_60, pi_99, pi_115, pi_123, pi_135, pi_136, pi_137, pi_138, pi_139, pi_158, pi_159, pi_1113, m_neg, nI_add, pk_mul, pi_sub, mI_dec, pi_cl, pi_leT, pi_leF, pi_ltT, pi_ltF, pi_eqT, pi_eqF, mI_n, m_in159, Option.bind_some, f_X7_personAt, f_X7_windowAt, mG_i, mG_g, mG_s, pk_us, pk_un, e2]
    unfold f_X7_goesBack
    simp (disch := omega) only [x_let, ↓reduceIte, pi_0, pi_1, pi_2, pi_3, pi_4, pi_5, pi_6, pi_7, pi_8, pi_9, pi_10, pi_11, pi_12, pi_13, pi_20, pi_27, pi_30, pi_60, pi_99, pi_115, pi_123, pi_135, pi_136, pi_137, pi_138, pi_139, pi_158, pi_159, pi_1113, m_neg, nI_add, pk_mul, pi_sub, mI_dec, pi_cl, pi_leT, pi_leF, pi_ltT, pi_ltF, pi_eqT, pi_eqF, mI_n, m_in159, Option.bind_some, f_X7_personAt, f_X7_windowAt, mG_i, mG_g, mG_s, pk_us, pk_un, e9]
    rw [m_back (c := c) (q := s.1 7) (by omega) q12 (s.1 7) xF _ (by simp (disch := omega) only [x_let, ↓reduceIte, pi_0, pi_1, pi_2, pi_3, pi_4, pi_5, pi_6, pi_7, pi_8, pi_9, pi_10, pi_11, pi_12, pi_13, pi_20, pi_27, pi_30, pi_60, pi_99, pi_115, pi_123, pi_135, pi_136, pi_137, pi_138, pi_139, pi_158, pi_159, pi_1113, m_neg, nI_add, pk_mul, pi_sub, mI_dec, pi_cl, pi_leT, pi_leF, pi_ltT, pi_ltF, pi_eqT, pi_eqF, mI_n, m_in159, Option.bind_some, f_X7_personAt, f_X7_windowAt, mG_i, mG_g, mG_s, pk_us, pk_un, e9]) (Nat.le_refl _) (by rw [xF_2000]; omega)]
    simp (disch := omega) only [x_let, ↓reduceIte, pi_0, pi_1, pi_2, pi_3, pi_4, pi_5, pi_6, pi_7, pi_8, pi_9, pi_10, pi_11, pi_12, pi_13, pi_20, pi_27, pi_30, pi_60, pi_99, pi_115, pi_123, pi_135, pi_136, pi_137, pi_138, pi_139, pi_158, pi_159, pi_1113, m_neg, nI_add, pk_mul, pi_sub, mI_dec, pi_cl, pi_leT, pi_leF, pi_ltT, pi_ltF, pi_eqT, pi_eqF, mI_n, m_in159, Option.bind_some, f_X7_personAt, f_X7_windowAt, mG_i, mG_g, mG_s, pk_us, pk_un]
    refine ⟨_, rfl, ?_⟩
    have d2 := dH_front (c := c) d1 (aB_uW (aB_uW b (by omega) (by omega) (by omega) (by omega)) (by omega) (by omega) (by omega) (by omega)) (by show c < s.1 0; omega) q12
    rw [aShut_b hc]
    refine dH.ca (s := aFront c (uW (uW s w 0 0) w 2 0)) d2 fun i hi => ?_
    rw [← aShut_b hc, aW_shut k hw, hc]
    by_cases e : i = c
    · rw [e, va_up_self, if_pos rfl]
    · rw [va_up_ne _ _ e, if_neg (by omega)]
theorem m_closes {M : xM} {s : hS} {w : Nat} (d : dH (M.1 10) s (aW s)) (b : aB s) (k : aK s) (hw : w < 3) : ∃ g', f_X7_closes (nI w) M = some (mG M 10 g') ∧ dH g' (aShut w s) (aW (aShut w s)) := m_closesX (x := hW s w 0) (by rw [uW_self rfl]; exact d) b k hw
