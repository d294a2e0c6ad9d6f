/-! pure: the model: one goes -/
theorem m_placeL {M : xM} {c q : Nat} {Q : Nat → Nat} (e9 : M.1 10 9 = nI q) (hq : q ≤ 12) (hc : c < 2 ^ 31) (hQ_ : ∀ k, k < q → M.1 10 (123 + k) = nI (Q k)) (hb : ∀ k, k < q → Q k < 2 ^ 31) : ∀ (m k n : Nat), k + m = q → m < n → f_X7_placeOf_L2 (nI c) M n (nI k) = some (oI (pf (fun k => decide (Q k = c)) k m))
  | 0, k, n, e, hn => by
    obtain ⟨n, rfl⟩ : ∃ n', n = n' + 1 := ⟨n - 1, by omega⟩
    unfold f_X7_placeOf_L2
    simp (disch := omega) only [x_let, ↓reduceIte, pi_0, pi_1, pi_2, pi_3, pi_4, pi_5, pi_6, pi_7, pi_8, pi_9, pi_10, pi_11, pi_12, pi_13, pi_20, pi_27, pi_30, pi_60, pi_99, pi_115, pi_123, pi_135, pi_136, pi_137, pi_138, pi_139, pi_158, pi_159, pi_1113, m_neg, nI_add, pk_mul, pi_sub, mI_dec, pi_cl, pi_leT, pi_leF, pi_ltT, pi_ltF, pi_eqT, pi_eqF, mI_n, m_in159, Option.bind_some, f_X7_personAt, f_X7_windowAt, mG_i, mG_g, mG_s, pk_us, pk_un, e9]
    rfl
  | m + 1, k, n, e, hn => by
    obtain ⟨n, rfl⟩ : ∃ n', n = n' + 1 := ⟨n - 1, by omega⟩
    have hk := hb k (by omega)
    unfold f_X7_placeOf_L2 pf
    simp (disch := omega) only [x_let, ↓reduceIte, pi_0, pi_1, pi_2, pi_3, pi_4, pi_5, pi_6, pi_7, pi_8, pi_9, pi_10, pi_11, pi_12, pi_13, pi_20, pi_27, pi_30, pi_60, pi_99, pi_115, pi_123, pi_135, pi_136, pi_137, pi_138, pi_139, pi_158, pi_159, pi_1113, m_neg, nI_add, pk_mul, pi_sub, mI_dec, pi_cl, pi_leT, pi_leF, pi_ltT, pi_ltF, pi_eqT, pi_eqF, mI_n, m_in159, Option.bind_some, f_X7_personAt, f_X7_windowAt, mG_i, mG_g, mG_s, pk_us, pk_un, e9, hQ_]
    by_cases g : Q k = c
    · simp (disch := omega) only [x_let, ↓reduceIte, pi_0, pi_1, pi_2, pi_3, pi_4, pi_5, pi_6, pi_7, pi_8, pi_9, pi_10, pi_11, pi_12, pi_13, pi_20, pi_27, pi_30, pi_60, pi_99, pi_115, pi_123, pi_135, pi_136, pi_137, pi_138, pi_139, pi_158, pi_159, pi_1113, m_neg, nI_add, pk_mul, pi_sub, mI_dec, pi_cl, pi_leT, pi_leF, pi_ltT, pi_ltF, pi_eqT, pi_eqF, mI_n, m_in159, Option.bind_some, f_X7_personAt, f_X7_windowAt, mG_i, mG_g, mG_s, pk_us, pk_un, g]
      rfl
    · simp (disch := omega) only [x_let, ↓reduceIte, pi_0, pi_1, pi_2, pi_3, pi_4, pi_5, pi_6, pi_7, pi_8, pi_9, pi_10, pi_11, pi_12, pi_13, pi_20, pi_27, pi_30, pi_60, pi_99, pi_115, pi_123, pi_135, pi_136, pi_137, pi_138, pi_139, pi_158, pi_159, pi_1113, m_neg, nI_add, pk_mul, pi_sub, mI_dec, pi_cl, pi_leT, pi_leF, pi_ltT, pi_ltF, pi_eqT, pi_eqF, mI_n, m_in159, Option.bind_some, f_X7_personAt, f_X7_windowAt, mG_i, mG_g, mG_s, pk_us, pk_un]
      rw [m_placeL e9 hq hc hQ_ hb m (k + 1) n (by omega) (by omega), show (if decide (Q k = c) = true then some k else pf (fun k => decide (Q k = c)) (k + 1) m) = pf (fun k => decide (Q k = c)) (k + 1) m from if_neg (by simp [g])]
theorem m_place {M : xM} {c q : Nat} {Q : Nat → Nat} (e9 : M.1 10 9 = nI q) (hq : q ≤ 12) (hc : c < 2 ^ 31) (hQ_ : ∀ k, k < q → M.1 10 (123 + k) = nI (Q k)) (hb : ∀ k, k < q → Q k < 2 ^ 31) : f_X7_placeOf (nI c) M = some (oI (pf (fun k => decide (Q k = c)) 0 q)) := by
  unfold f_X7_placeOf
  exact m_placeL e9 hq hc hQ_ hb q 0 xF (by omega) (by rw [xF_2000]; omega)
theorem m_go4 : ∀ (m k n n0 : Nat) (M : xM), M.1 10 0 = nI n0 → 0 < n0 → n0 ≤ 12 → k + m = 123 → 115 ≤ k → m < n → f_X7_goes_L185 n (nI k) M = some (mG M 10 (fun x => if x = 0 then nI (n0 - 1) else if k ≤ x ∧ x < 123 then nI 0 else M.1 10 x))
  | 0, k, n, n0, M, e, h1, h2, h3, h4, hn => by
    obtain ⟨n, rfl⟩ : ∃ n', n = n' + 1 := ⟨n - 1, by omega⟩
    unfold f_X7_goes_L185
    simp (disch := omega) only [x_let, ↓reduceIte, pi_0, pi_1, pi_2, pi_3, pi_4, pi_5, pi_6, pi_7, pi_8, pi_9, pi_10, pi_11, pi_12, pi_13, pi_20, pi_27, pi_30, pi_60, pi_99, pi_115, pi_123, pi_135, pi_136, pi_137, pi_138, pi_139, pi_158, pi_159, pi_1113, m_neg, nI_add, pk_mul, pi_sub, mI_dec, pi_cl, pi_leT, pi_leF, pi_ltT, pi_ltF, pi_eqT, pi_eqF, mI_n, m_in159, Option.bind_some, f_X7_personAt, f_X7_windowAt, mG_i, mG_g, mG_s, pk_us, pk_un, e]
    congr 2
    funext x
    simp only [upd]
    (repeat' split) <;> first | rfl | (exfalso; omega) | exact congrArg _ (by omega)
  | m + 1, k, n, n0, M, e, h1, h2, h3, h4, hn => by
    obtain ⟨n, rfl⟩ : ∃ n', n = n' + 1 := ⟨n - 1, by omega⟩
    unfold f_X7_goes_L185
    simp (disch := omega) only [x_let, ↓reduceIte, pi_0, pi_1, pi_2, pi_3, pi_4, pi_5, pi_6, pi_7, pi_8, pi_9, pi_10, pi_11, pi_12, pi_13, pi_20, pi_27, pi_30, pi_60, pi_99, pi_115, pi_123, pi_135, pi_136, pi_137, pi_138, pi_139, pi_158, pi_159, pi_1113, m_neg, nI_add, pk_mul, pi_sub, mI_dec, pi_cl, pi_leT, pi_leF, pi_ltT, pi_ltF, pi_eqT, pi_eqF, mI_n, m_in159, Option.bind_some, f_X7_personAt, f_X7_windowAt, mG_i, mG_g, mG_s, pk_us, pk_un]
    rw [m_go4 m (k + 1) n n0 _ (by simp (disch := omega) only [x_let, ↓reduceIte, pi_0, pi_1, pi_2, pi_3, pi_4, pi_5, pi_6, pi_7, pi_8, pi_9, pi_10, pi_11, pi_12, pi_13, pi_20, pi_27, pi_30, pi_60, pi_99, pi_115, pi_123, pi_135, pi_136, pi_137, pi_138, pi_139, pi_158, pi_159, pi_1113, m_neg, nI_add, pk_mul, pi_sub, mI_dec, pi_cl, pi_leT, pi_leF, pi_ltT, pi_ltF, pi_eqT, pi_eqF, mI_n, m_in159, Option.bind_some, f_X7_personAt, f_X7_windowAt, mG_i, mG_g, mG_s, pk_us, pk_un, e]) h1 h2 (by omega) (by omega) (by omega)]
    simp (disch := omega) only [x_let, ↓reduceIte, pi_0, pi_1, pi_2, pi_3, pi_4, pi_5, pi_6, pi_7, pi_8, pi_9, pi_10, pi_11, pi_12, pi_13, pi_20, pi_27, pi_30, pi_60, pi_99, pi_115, pi_123, pi_135, pi_136, pi_137, pi_138, pi_139, pi_158, pi_159, pi_1113, m_neg, nI_add, pk_mul, pi_sub, mI_dec, pi_cl, pi_leT, pi_leF, pi_ltT, pi_ltF, pi_eqT, pi_eqF, mI_n, m_in159, Option.bind_some, f_X7_personAt, f_X7_windowAt, mG_i, mG_g, mG_s, pk_us, pk_un]
    congr 2
    funext x
    simp only [upd]
    (repeat' split) <;> first | rfl | (exfalso; omega) | exact congrArg _ (by omega)
def mSh (k n0 : Nat) (g : Nat → Int32) : Nat → Int32 := fun x => if x = 0 then nI (n0 - 1) else if 115 ≤ x ∧ x < 123 then nI 0 else if k ≤ x ∧ x < 115 then g (x + 8) else g x
theorem m_go3 : ∀ (m k n n0 : Nat) (M : xM), M.1 10 0 = nI n0 → 0 < n0 → n0 ≤ 12 → k + m = 115 → 27 ≤ k → m < n → f_X7_goes_L155 n (nI k) M = some (mG M 10 (mSh k n0 (M.1 10)))
  | 0, k, n, n0, M, e, h1, h2, h3, h4, hn => by
    obtain ⟨n, rfl⟩ : ∃ n', n = n' + 1 := ⟨n - 1, by omega⟩
    unfold f_X7_goes_L155
    simp (disch := omega) only [x_let, ↓reduceIte, pi_0, pi_1, pi_2, pi_3, pi_4, pi_5, pi_6, pi_7, pi_8, pi_9, pi_10, pi_11, pi_12, pi_13, pi_20, pi_27, pi_30, pi_60, pi_99, pi_115, pi_123, pi_135, pi_136, pi_137, pi_138, pi_139, pi_158, pi_159, pi_1113, m_neg, nI_add, pk_mul, pi_sub, mI_dec, pi_cl, pi_leT, pi_leF, pi_ltT, pi_ltF, pi_eqT, pi_eqF, mI_n, m_in159, Option.bind_some, f_X7_personAt, f_X7_windowAt, mG_i, mG_g, mG_s, pk_us, pk_un]
    rw [m_go4 8 115 xF n0 M e h1 h2 (by omega) (by omega) (by rw [xF_2000]; omega)]
    congr 2
    funext x
    simp only [mSh]
    (repeat' split) <;> first | rfl | (exfalso; omega) | exact congrArg _ (by omega)
  | m + 1, k, n, n0, M, e, h1, h2, h3, h4, hn => by
    obtain ⟨n, rfl⟩ : ∃ n', n = n' + 1 := ⟨n - 1, by omega⟩
    unfold f_X7_goes_L155
    simp (disch := omega) only [x_let, ↓reduceIte, pi_0, pi_1, pi_2, pi_3, pi_4, pi_5, pi_6, pi_7, pi_8, pi_9, pi_10, pi_11, pi_12, pi_13, pi_20, pi_27, pi_30, pi_60, pi_99, pi_115, pi_123, pi_135, pi_136, pi_137, pi_138, pi_139, pi_158, pi_159, pi_1113, m_neg, nI_add, pk_mul, pi_sub, mI_dec, pi_cl, pi_leT, pi_leF, pi_ltT, pi_ltF, pi_eqT, pi_eqF, mI_n, m_in159, Option.bind_some, f_X7_personAt, f_X7_windowAt, mG_i, mG_g, mG_s, pk_us, pk_un]
    rw [m_go3 m (k + 1) n n0 _ (by simp (disch := omega) only [x_let, ↓reduceIte, pi_0, pi_1, pi_2, pi_3, pi_4, pi_5, pi_6, pi_7, pi_8, pi_9, pi_10, pi_11, pi_12, pi_13, pi_20, pi_27, pi_30, pi_60, pi_99, pi_115, pi_123, pi_135, pi_136, pi_137, pi_138, pi_139, pi_158, pi_159, pi_1113, m_neg, nI_add, pk_mul, pi_sub, mI_dec, pi_cl, pi_leT, pi_leF, pi_ltT, pi_ltF, pi_eqT, pi_eqF, mI_n, m_in159, Option.bind_some, f_X7_personAt, f_X7_windowAt, mG_i, mG_g, mG_s, pk_us, pk_un, e]) h1 h2 (by omega) (by omega) (by omega)]
    simp (disch := omega) only [x_let, ↓reduceIte, pi_0, pi_1, pi_2, pi_3, pi_4, pi_5, pi_6, pi_7, pi_8, pi_9, pi_10, pi_11, pi_12, pi_13, pi_20, pi_27, pi_30, pi_60, pi_99, pi_115, pi_123, pi_135, pi_136, pi_137, pi_138, pi_139, pi_158, pi_159, pi_1113, m_neg, nI_add, pk_mul, pi_sub, mI_dec, pi_cl, pi_leT, pi_leF, pi_ltT, pi_ltF, pi_eqT, pi_eqF, mI_n, m_in159, Option.bind_some, f_X7_personAt, f_X7_windowAt, mG_i, mG_g, mG_s, pk_us, pk_un]
    congr 2
    funext x
    simp only [mSh, upd]
    (repeat' split) <;> first | rfl | (exfalso; omega) | exact congrArg _ (by omega)
theorem m_rnW {c x : Nat} (hc : c < 2 ^ 30) (hx : x < 2 ^ 30) (h : x ≠ c + 1) : (eI x ≤ nI c → eI x - nI 0 = eI (dn (c + 1) x)) ∧ (¬ eI x ≤ nI c → eI x - nI 1 = eI (dn (c + 1) x)) := by
  have z : ∀ y : Int32, y - nI 0 = y := fun y => by rw [← pi_0]; exact Int32.sub_zero y
  by_cases g : x = 0
  · subst g
    refine ⟨fun _ => by rw [z]; rfl, fun k => absurd (show eI 0 ≤ nI c from ?_) k⟩
    rw [Int32.le_iff_toInt_le, nI_toInt (by omega)]
    have : (eI 0).toInt = -1 := by decide
    omega
  · rw [eI_p (by omega)]
    refine ⟨fun k => ?_, fun k => ?_⟩
    · rw [pi_le (by omega) (by omega)] at k
      rw [z]
      unfold dn
      rw [if_neg (by omega), eI_p (by omega)]
    · rw [pi_le (by omega) (by omega)] at k
      unfold dn
      rw [if_pos (by omega), eI_p (by omega), pi_sub (by omega)]
def mRW (c : Nat) (W : Nat → Nat) (g : Nat → Int32) : Nat → Int32 := fun x => if x = 14 then eI (dn (c + 1) (W 0)) else if x = 19 then eI (dn (c + 1) (W 1)) else if x = 24 then eI (dn (c + 1) (W 2)) else g x
theorem m_go2s {c w : Nat} {W : Nat → Nat} (hc : c < 12) {M : xM} {n : Nat} (hw : w < 3) (e : M.1 10 (12 + 5 * w + 2) = eI (W w)) (hW_ : W w ≠ c + 1) (hb : W w ≤ 12) : f_X7_goes_L105 (nI c) (n + 1) (nI w) M = f_X7_goes_L105 (nI c) n (nI (w + 1)) (mG M 10 (upd (M.1 10) (12 + 5 * w + 2) (eI (dn (c + 1) (W w))))) := by
  have h := m_rnW (c := c) (x := W w) (by omega) (by omega) hW_
  rw [f_X7_goes_L105]
  simp (disch := omega) only [x_let, ↓reduceIte, pi_0, pi_1, pi_2, pi_3, pi_4, pi_5, pi_6, pi_7, pi_8, pi_9, pi_10, pi_11, pi_12, pi_13, pi_20, pi_27, pi_30, pi_60, pi_99, pi_115, pi_123, pi_135, pi_136, pi_137, pi_138, pi_139, pi_158, pi_159, pi_1113, m_neg, nI_add, pk_mul, pi_sub, mI_dec, pi_cl, pi_leT, pi_leF, pi_ltT, pi_ltF, pi_eqT, pi_eqF, mI_n, m_in159, Option.bind_some, f_X7_personAt, f_X7_windowAt, mG_i, mG_g, mG_s, pk_us, pk_un, e]
  by_cases k : eI (W w) ≤ nI c
  · rw [if_pos k, h.1 k]
  · rw [if_neg k, h.2 k]
theorem m_go2 {c n0 : Nat} {W : Nat → Nat} (hc : c < 12) {M : xM} (e0 : M.1 10 0 = nI n0) (h0 : 0 < n0) (h1 : n0 ≤ 12) (e : ∀ w, w < 3 → M.1 10 (12 + 5 * w + 2) = eI (W w)) (hW_ : ∀ w, w < 3 → W w ≠ c + 1) (hb : ∀ w, w < 3 → W w ≤ 12) : f_X7_goes_L105 (nI c) xF (nI 0) M = some (mG M 10 (mSh (27 + 8 * c) n0 (mRW c W (M.1 10)))) := by
  have e14 := e 0 (by decide)
  have e19 := e 1 (by decide)
  have e24 := e 2 (by decide)
  show f_X7_goes_L105 (nI c) (1996 + 1 + 1 + 1 + 1) (nI 0) M = _
  rw [m_go2s hc (by decide) e14 (hW_ 0 (by decide)) (hb 0 (by decide))]
  rw [m_go2s hc (W := W) (by decide) (by simp (disch := omega) only [x_let, ↓reduceIte, pi_0, pi_1, pi_2, pi_3, pi_4, pi_5, pi_6, pi_7, pi_8, pi_9, pi_10, pi_11, pi_12, pi_13, pi_20, pi_27, pi_30, pi_60, pi_99, pi_115, pi_123, pi_135, pi_136, pi_137, pi_138, pi_139, pi_158, pi_159, pi_1113, m_neg, nI_add, pk_mul, pi_sub, mI_dec, pi_cl, pi_leT, pi_leF, pi_ltT, pi_ltF, pi_eqT, pi_eqF, mI_n, m_in159, Option.bind_some, f_X7_personAt, f_X7_windowAt, mG_i, mG_g, mG_s, pk_us, pk_un]; exact e19) (hW_ 1 (by decide)) (hb 1 (by decide))]
  rw [m_go2s hc (W := W) (by decide) (by simp (disch := omega) only [x_let, ↓reduceIte, pi_0, pi_1, pi_2, pi_3, pi_4, pi_5, pi_6, pi_7, pi_8, pi_9, pi_10, pi_11, pi_12, pi_13, pi_20, pi_27, pi_30, pi_60, pi_99, pi_115, pi_123, pi_135, pi_136, pi_137, pi_138, pi_139, pi_158, pi_159, pi_1113, m_neg, nI_add, pk_mul, pi_sub, mI_dec, pi_cl, pi_leT, pi_leF, pi_ltT, pi_ltF, pi_eqT, pi_eqF, mI_n, m_in159, Option.bind_some, f_X7_personAt, f_X7_windowAt, mG_i, mG_g, mG_s, pk_us, pk_un]; exact e24) (hW_ 2 (by decide)) (hb 2 (by decide))]
  rw [f_X7_goes_L105]
  simp (disch := omega) only [x_let, ↓reduceIte, pi_0, pi_1, pi_2, pi_3, pi_4, pi_5, pi_6, pi_7, pi_8, pi_9, pi_10, pi_11, pi_12, pi_13, pi_20, pi_27, pi_30, pi_60, pi_99, pi_115, pi_123, pi_135, pi_136, pi_137, pi_138, pi_139, pi_158, pi_159, pi_1113, m_neg, nI_add, pk_mul, pi_sub, mI_dec, pi_cl, pi_leT, pi_leF, pi_ltT, pi_ltF, pi_eqT, pi_eqF, mI_n, m_in159, Option.bind_some, f_X7_personAt, f_X7_windowAt, mG_i, mG_g, mG_s, pk_us, pk_un]
  rw [m_go3 (115 - (27 + 8 * c)) (27 + 8 * c) xF n0 _ (by simp (disch := omega) only [x_let, ↓reduceIte, pi_0, pi_1, pi_2, pi_3, pi_4, pi_5, pi_6, pi_7, pi_8, pi_9, pi_10, pi_11, pi_12, pi_13, pi_20, pi_27, pi_30, pi_60, pi_99, pi_115, pi_123, pi_135, pi_136, pi_137, pi_138, pi_139, pi_158, pi_159, pi_1113, m_neg, nI_add, pk_mul, pi_sub, mI_dec, pi_cl, pi_leT, pi_leF, pi_ltT, pi_ltF, pi_eqT, pi_eqF, mI_n, m_in159, Option.bind_some, f_X7_personAt, f_X7_windowAt, mG_i, mG_g, mG_s, pk_us, pk_un, e0]) h0 h1 (by omega) (by omega) (by rw [xF_2000]; omega)]
  simp (disch := omega) only [x_let, ↓reduceIte, pi_0, pi_1, pi_2, pi_3, pi_4, pi_5, pi_6, pi_7, pi_8, pi_9, pi_10, pi_11, pi_12, pi_13, pi_20, pi_27, pi_30, pi_60, pi_99, pi_115, pi_123, pi_135, pi_136, pi_137, pi_138, pi_139, pi_158, pi_159, pi_1113, m_neg, nI_add, pk_mul, pi_sub, mI_dec, pi_cl, pi_leT, pi_leF, pi_ltT, pi_ltF, pi_eqT, pi_eqF, mI_n, m_in159, Option.bind_some, f_X7_personAt, f_X7_windowAt, mG_i, mG_g, mG_s, pk_us, pk_un]
  congr 2
  congr 1
  funext x
  simp only [mRW, upd]
  (repeat' split) <;> first | rfl | (exfalso; omega) | exact congrArg _ (by omega)
def mRQ (c k q : Nat) (Q : Nat → Nat) (g : Nat → Int32) : Nat → Int32 := fun x => if 123 + k ≤ x ∧ x < 123 + q then nI (dn c (Q (x - 123))) else g x
theorem m_go1 {c n0 q : Nat} {W Q : Nat → Nat} (hc : c < 12) (h0 : 0 < n0) (h1 : n0 ≤ 12) (hW_ : ∀ w, w < 3 → W w ≠ c + 1) (hb : ∀ w, w < 3 → W w ≤ 12) (hq : q ≤ 12) (hQb : ∀ k, k < q → Q k < 12) : ∀ (m k n : Nat) (M : xM), k + m = q → m < n → M.1 10 0 = nI n0 → M.1 10 9 = nI q → (∀ w, w < 3 → M.1 10 (12 + 5 * w + 2) = eI (W w)) → (∀ j, k ≤ j → j < q → M.1 10 (123 + j) = nI (Q j)) → f_X7_goes_L56 (nI c) n (nI k) M = some (mG M 10 (mSh (27 + 8 * c) n0 (mRW c W (mRQ c k q Q (M.1 10)))))
  | 0, k, n, M, e, hn, e0, e9, eW, eQ => by
    obtain ⟨n, rfl⟩ : ∃ n', n = n' + 1 := ⟨n - 1, by omega⟩
    rw [f_X7_goes_L56]
    simp (disch := omega) only [x_let, ↓reduceIte, pi_0, pi_1, pi_2, pi_3, pi_4, pi_5, pi_6, pi_7, pi_8, pi_9, pi_10, pi_11, pi_12, pi_13, pi_20, pi_27, pi_30, pi_60, pi_99, pi_115, pi_123, pi_135, pi_136, pi_137, pi_138, pi_139, pi_158, pi_159, pi_1113, m_neg, nI_add, pk_mul, pi_sub, mI_dec, pi_cl, pi_leT, pi_leF, pi_ltT, pi_ltF, pi_eqT, pi_eqF, mI_n, m_in159, Option.bind_some, f_X7_personAt, f_X7_windowAt, mG_i, mG_g, mG_s, pk_us, pk_un, e9]
    rw [m_go2 hc e0 h0 h1 eW hW_ hb]
    congr 4
    funext x
    simp only [mRQ]
    (repeat' split) <;> first | rfl | (exfalso; omega) | exact congrArg _ (by omega)
  | m + 1, k, n, M, e, hn, e0, e9, eW, eQ => by
    obtain ⟨n, rfl⟩ : ∃ n', n = n' + 1 := ⟨n - 1, by omega⟩
    have ek := eQ k (by omega) (by omega)
    have bk := hQb k (by omega)
    rw [f_X7_goes_L56]
    simp (disch := omega) only [x_let, ↓reduceIte, pi_0, pi_1, pi_2, pi_3, pi_4, pi_5, pi_6, pi_7, pi_8, pi_9, pi_10, pi_11, pi_12, pi_13, pi_20, pi_27, pi_30, pi_60, pi_99, pi_115, pi_123, pi_135, pi_136, pi_137, pi_138, pi_139, pi_158, pi_159, pi_1113, m_neg, nI_add, pk_mul, pi_sub, mI_dec, pi_cl, pi_leT, pi_leF, pi_ltT, pi_ltF, pi_eqT, pi_eqF, mI_n, m_in159, Option.bind_some, f_X7_personAt, f_X7_windowAt, mG_i, mG_g, mG_s, pk_us, pk_un, e9, ek]
    have go := fun (v : Nat) (hv : v = dn c (Q k)) => m_go1 hc h0 h1 hW_ hb hq hQb m (k + 1) n (mG M 10 (upd (M.1 10) (123 + k) (nI v))) (by omega) (by omega) (by simp (disch := omega) only [x_let, ↓reduceIte, pi_0, pi_1, pi_2, pi_3, pi_4, pi_5, pi_6, pi_7, pi_8, pi_9, pi_10, pi_11, pi_12, pi_13, pi_20, pi_27, pi_30, pi_60, pi_99, pi_115, pi_123, pi_135, pi_136, pi_137, pi_138, pi_139, pi_158, pi_159, pi_1113, m_neg, nI_add, pk_mul, pi_sub, mI_dec, pi_cl, pi_leT, pi_leF, pi_ltT, pi_ltF, pi_eqT, pi_eqF, mI_n, m_in159, Option.bind_some, f_X7_personAt, f_X7_windowAt, mG_i, mG_g, mG_s, pk_us, pk_un, e0]) (by simp (disch := omega) only [x_let, ↓reduceIte, pi_0, pi_1, pi_2, pi_3, pi_4, pi_5, pi_6, pi_7, pi_8, pi_9, pi_10, pi_11, pi_12, pi_13, pi_20, pi_27, pi_30, pi_60, pi_99, pi_115, pi_123, pi_135, pi_136, pi_137, pi_138, pi_139, pi_158, pi_159, pi_1113, m_neg, nI_add, pk_mul, pi_sub, mI_dec, pi_cl, pi_leT, pi_leF, pi_ltT, pi_ltF, pi_eqT, pi_eqF, mI_n, m_in159, Option.bind_some, f_X7_personAt, f_X7_windowAt, mG_i, mG_g, mG_s, pk_us, pk_un, e9]) (fun w hw => by simp (disch := omega) only [x_let, ↓reduceIte, pi_0, pi_1, pi_2, pi_3, pi_4, pi_5, pi_6, pi_7, pi_8, pi_9, pi_10, pi_11, pi_12, pi_13, pi_20, pi_27, pi_30, pi_60, pi_99, pi_115, pi_123, pi_135, pi_136, pi_137, pi_138, pi_139, pi_158, pi_159, pi_1113, m_neg, nI_add, pk_mul, pi_sub, mI_dec, pi_cl, pi_leT, pi_leF, pi_ltT, pi_ltF, pi_eqT, pi_eqF, mI_n, m_in159, Option.bind_some, f_X7_personAt, f_X7_windowAt, mG_i, mG_g, mG_s, pk_us, pk_un]; exact eW w hw) (fun j h1 h2 => by simp (disch := omega) only [x_let, ↓reduceIte, pi_0, pi_1, pi_2, pi_3, pi_4, pi_5, pi_6, pi_7, pi_8, pi_9, pi_10, pi_11, pi_12, pi_13, pi_20, pi_27, pi_30, pi_60, pi_99, pi_115, pi_123, pi_135, pi_136, pi_137, pi_138, pi_139, pi_158, pi_159, pi_1113, m_neg, nI_add, pk_mul, pi_sub, mI_dec, pi_cl, pi_leT, pi_leF, pi_ltT, pi_ltF, pi_eqT, pi_eqF, mI_n, m_in159, Option.bind_some, f_X7_personAt, f_X7_windowAt, mG_i, mG_g, mG_s, pk_us, pk_un]; exact eQ j (by omega) h2)
    have fin : ∀ v : Nat, v = dn c (Q k) → mRQ c (k + 1) q Q (upd (M.1 10) (123 + k) (nI v)) = mRQ c k q Q (M.1 10) := fun v hv => funext fun x => by
      simp only [mRQ, upd]
      by_cases g : x = 123 + k
      · rw [if_neg (by omega), if_pos g, if_pos (by omega), hv, show x - 123 = k by omega]
      · by_cases g2 : 123 + (k + 1) ≤ x ∧ x < 123 + q
        · rw [if_pos g2, if_pos (by omega)]
        · rw [if_neg g2, if_neg g, if_neg (by omega)]
    by_cases g : Q k ≤ c
    · simp (disch := omega) only [x_let, ↓reduceIte, pi_0, pi_1, pi_2, pi_3, pi_4, pi_5, pi_6, pi_7, pi_8, pi_9, pi_10, pi_11, pi_12, pi_13, pi_20, pi_27, pi_30, pi_60, pi_99, pi_115, pi_123, pi_135, pi_136, pi_137, pi_138, pi_139, pi_158, pi_159, pi_1113, m_neg, nI_add, pk_mul, pi_sub, mI_dec, pi_cl, pi_leT, pi_leF, pi_ltT, pi_ltF, pi_eqT, pi_eqF, mI_n, m_in159, Option.bind_some, f_X7_personAt, f_X7_windowAt, mG_i, mG_g, mG_s, pk_us, pk_un]
      rw [show Q k - 0 = Q k from rfl]
      have hv : Q k = dn c (Q k) := by unfold dn; rw [if_neg (by omega)]
      rw [go (Q k) hv, mG_s, mG_g, fin _ hv]
    · simp (disch := omega) only [x_let, ↓reduceIte, pi_0, pi_1, pi_2, pi_3, pi_4, pi_5, pi_6, pi_7, pi_8, pi_9, pi_10, pi_11, pi_12, pi_13, pi_20, pi_27, pi_30, pi_60, pi_99, pi_115, pi_123, pi_135, pi_136, pi_137, pi_138, pi_139, pi_158, pi_159, pi_1113, m_neg, nI_add, pk_mul, pi_sub, mI_dec, pi_cl, pi_leT, pi_leF, pi_ltT, pi_ltF, pi_eqT, pi_eqF, mI_n, m_in159, Option.bind_some, f_X7_personAt, f_X7_windowAt, mG_i, mG_g, mG_s, pk_us, pk_un]
      have hv : Q k - 1 = dn c (Q k) := by unfold dn; rw [if_pos (by omega)]
      rw [go (Q k - 1) hv, mG_s, mG_g, fin _ hv]
