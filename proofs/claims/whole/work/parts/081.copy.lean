/-! pure: the class's hall copied -/
/-- only some cells of row c anew -/
def cC (c : Nat) (M M' : xM) : Prop := (∀ d, d ≠ c → M'.1 d = M.1 d) ∧ M'.2 = M.2
theorem c_cust {a b : Nat} {M : xM} (hab : a ≠ b) (h5 : M.1 b 5 = 0 ∨ M.1 b 5 = 1) (h6 : M.1 b 6 = 0 ∨ M.1 b 6 = 1) : ∃ M', f_X2_copyFrom a b M = some M' ∧ cC a M M' ∧ ∀ f, f < 7 → M'.1 a f = M.1 b f := by
  unfold f_X2_copyFrom
  simp only [x_let_e]
  have e : ∀ (X : xM) (k : Nat) (v : Int32), (sI X a k v).1 b = X.1 b := fun X k v => sI_c (Ne.symm hab)
  simp only [e]
  rw [if_pos h5, if_pos h6]
  refine ⟨_, rfl, ⟨fun d hd => ?_, rfl⟩, fun f hf => ?_⟩
  · rw [sI_c hd, sI_c hd, sI_c hd, sI_c hd, sI_c hd, sI_c hd, sI_c hd]
  · obtain rfl | rfl | rfl | rfl | rfl | rfl | rfl : f = 0 ∨ f = 1 ∨ f = 2 ∨ f = 3 ∨ f = 4 ∨ f = 5 ∨ f = 6 := by omega
    · rw [sI_k (by decide), sI_k (by decide), sI_k (by decide), sI_k (by decide), sI_k (by decide), sI_k (by decide), sI_s]
    · rw [sI_k (by decide), sI_k (by decide), sI_k (by decide), sI_k (by decide), sI_k (by decide), sI_s]
    · rw [sI_k (by decide), sI_k (by decide), sI_k (by decide), sI_k (by decide), sI_s]
    · rw [sI_k (by decide), sI_k (by decide), sI_k (by decide), sI_s]
    · rw [sI_k (by decide), sI_k (by decide), sI_s]
    · rw [sI_k (by decide), sI_s]
    · rw [sI_s]
theorem c_wind {a b : Nat} {M : xM} (hab : a ≠ b) : ∃ M', f_X5_copyFrom a b M = some M' ∧ cC a M M' ∧ ∀ f, f < 4 → M'.1 a f = M.1 b f := by
  unfold f_X5_copyFrom
  simp only [x_let_e]
  have e : ∀ (X : xM) (k : Nat) (v : Int32), (sI X a k v).1 b = X.1 b := fun X k v => sI_c (Ne.symm hab)
  simp only [e]
  refine ⟨_, rfl, ⟨fun d hd => ?_, rfl⟩, fun f hf => ?_⟩
  · rw [sI_c hd, sI_c hd, sI_c hd, sI_c hd]
  · obtain rfl | rfl | rfl | rfl : f = 0 ∨ f = 1 ∨ f = 2 ∨ f = 3 := by omega
    · rw [sI_k (by decide), sI_k (by decide), sI_k (by decide), sI_s]
    · rw [sI_k (by decide), sI_k (by decide), sI_s]
    · rw [sI_k (by decide), sI_s]
    · rw [sI_s]
section CPY
variable {h o : Nat} {M0 : xM} {s : hS}
/-- copied so far: a customers and queue places, w windows, l served -/
def cQ (h : Nat) (M0 M : xM) (s : hS) (a w l : Nat) : Prop := M.2 = M0.2 ∧ (∀ c, (c < h ∨ h + 21 ≤ c) → M.1 c = M0.1 c) ∧
  (∀ i, i < a → ∀ f, f < 7 → M.1 (M0.2.1 (h + 1) i) f = nI (hC s i f)) ∧ (∀ i, i < a → M.1 (h + 2) i = nI (hQ s i)) ∧
  (∀ v, v < w → M.1 (h + 3 + 15 + v) 0 = nI (hW s v 0) ∧ M.1 (h + 3 + 15 + v) 1 = nI (hW s v 1) ∧ M.1 (h + 3 + 15 + v) 2 = eI (hW s v 2) ∧ M.1 (h + 3 + 15 + v) 3 = nI (hW s v 3)) ∧
  (∀ r, r < l → M.1 (h + 4) r = nI (hL s r 0) ∧ M.1 (h + 5) r = nI (hL s r 1))
theorem hall_apart {h o : Nat} (kh : xkd h = 5) (ko : xkd o = 5) (ne : h ≠ o) {r q : Nat} (hr : r < 21) (hq : q < 21) : h + r ≠ o + q := by
  obtain ⟨a1, a2, a3⟩ := x5_is kh
  obtain ⟨b1, b2, b3⟩ := x5_is ko
  omega
theorem c_cpy3 (r : cR o M0 s) (kh : xkd h = 5) (ne : h ≠ o) (V : cV h M0) : ∀ (m k n : Nat) (M : xM), k + m = 6 → m < n → cQ h M0 M s 12 3 k → ∃ M', f_X3_copyFrom_L71 h o n (nI k) M = some M' ∧ cR h M' s ∧ cF h M0 M' := by
  have ko := r.kd
  have out : ∀ q, q < 21 → o + q < h ∨ h + 21 ≤ o + q := fun q hq => by
    obtain ⟨a1, a2, a3⟩ := x5_is kh
    obtain ⟨b1, b2, b3⟩ := x5_is ko
    omega
  intro m
  induction m with
  | zero =>
    intro k n M e hn ⟨q1, q2, q3, q4, q5, q6⟩
    obtain ⟨n, rfl⟩ : ∃ n', n = n' + 1 := ⟨n - 1, by omega⟩
    have k6 : k = 6 := by omega
    subst k6
    have eo : M.1 o = M0.1 o := q2 o (out 0 (by decide))
    rw [f_X3_copyFrom_L71.eq_2, if_pos (show (6 : Int32) ≤ nI 6 by decide)]
    simp only [x_let_e]
    have e' : ∀ (X : xM) (k : Nat) (v : Int32), (sI X h k v).1 o = X.1 o := fun X k v => sI_c (Ne.symm ne)
    simp only [e', eo]
    have F : ∀ (X : xM) (k : Nat) (v : Int32), cF h X (sI X h k v) := fun X k v => cF_I (Nat.le_refl _) (by omega)
    have lo : ∀ (X : xM) (k : Nat) (v : Int32) (c : Nat), c ≠ h → (sI X h k v).1 c = X.1 c := fun X k v c hc => sI_c hc
    refine ⟨_, rfl, ⟨⟨kh, ?_, ?_⟩, fun j hj => ?_, fun x hx => ?_, fun w hw => ?_, fun i hi f hf => ?_, fun x hx => ?_, r.2.2.2.2.2.2⟩, ?_⟩
    · intro i hi
      have := V.2.1 i hi
      rw [← q1] at this
      exact this
    · intro i j hi hj ee
      refine V.2.2 i j hi hj ?_
      have e1 : ∀ x, M.2.1 (h + 1) x = M0.2.1 (h + 1) x := fun x => by rw [q1]
      rw [← e1, ← e1]
      exact ee
    · have sc := r.sc hj
      obtain rfl | rfl | rfl | rfl | rfl | rfl | rfl | rfl | rfl : j = 0 ∨ j = 1 ∨ j = 2 ∨ j = 3 ∨ j = 4 ∨ j = 5 ∨ j = 6 ∨ j = 7 ∨ j = 8 := by omega
      all_goals (simp (disch := decide) only [hix, List.getD_cons_zero, List.getD_cons_succ] at sc ⊢; simp (disch := decide) only [sI_s, sI_k]; exact sc)
    · rw [lo _ _ _ _ (by omega), lo _ _ _ _ (by omega), lo _ _ _ _ (by omega), lo _ _ _ _ (by omega), lo _ _ _ _ (by omega), lo _ _ _ _ (by omega), lo _ _ _ _ (by omega), lo _ _ _ _ (by omega), lo _ _ _ _ (by omega)]
      exact q4 x hx
    · rw [lo _ _ _ _ (by omega), lo _ _ _ _ (by omega), lo _ _ _ _ (by omega), lo _ _ _ _ (by omega), lo _ _ _ _ (by omega), lo _ _ _ _ (by omega), lo _ _ _ _ (by omega), lo _ _ _ _ (by omega), lo _ _ _ _ (by omega)]
      exact q5 w hw
    · obtain ⟨d, hd, ed⟩ := V.2.1 i hi
      have e1 : M.2.1 (h + 1) i = M0.2.1 (h + 1) i := by rw [q1]
      show (sI _ _ _ _).1 (M.2.1 (h + 1) i) f = _
      rw [e1, lo _ _ _ _ (by omega), lo _ _ _ _ (by omega), lo _ _ _ _ (by omega), lo _ _ _ _ (by omega), lo _ _ _ _ (by omega), lo _ _ _ _ (by omega), lo _ _ _ _ (by omega), lo _ _ _ _ (by omega), lo _ _ _ _ (by omega)]
      exact q3 i hi f hf
    · rw [lo _ _ _ (h + 4) (by omega), lo _ _ _ (h + 4) (by omega), lo _ _ _ (h + 4) (by omega), lo _ _ _ (h + 4) (by omega), lo _ _ _ (h + 4) (by omega), lo _ _ _ (h + 4) (by omega), lo _ _ _ (h + 4) (by omega), lo _ _ _ (h + 4) (by omega), lo _ _ _ (h + 4) (by omega)]
      rw [lo _ _ _ (h + 5) (by omega), lo _ _ _ (h + 5) (by omega), lo _ _ _ (h + 5) (by omega), lo _ _ _ (h + 5) (by omega), lo _ _ _ (h + 5) (by omega), lo _ _ _ (h + 5) (by omega), lo _ _ _ (h + 5) (by omega), lo _ _ _ (h + 5) (by omega), lo _ _ _ (h + 5) (by omega)]
      exact q6 x hx
    · refine cF.tr (M' := M) ⟨fun c hc => ⟨q2 c hc, by rw [q1]⟩, by rw [q1]⟩ ?_
      exact (F _ _ _).tr ((F _ _ _).tr ((F _ _ _).tr ((F _ _ _).tr ((F _ _ _).tr ((F _ _ _).tr ((F _ _ _).tr ((F _ _ _).tr (F _ _ _))))))))
  | succ m ih =>
    intro k n M e hn ⟨q1, q2, q3, q4, q5, q6⟩
    obtain ⟨n, rfl⟩ : ∃ n', n = n' + 1 := ⟨n - 1, by omega⟩
    have e4 : M.1 (o + 4) = M0.1 (o + 4) := q2 _ (out 4 (by decide))
    have e5 : M.1 (o + 5) = M0.1 (o + 5) := q2 _ (out 5 (by decide))
    have n4 := hall_apart ko kh (Ne.symm ne) (r := 5) (q := 4) (by decide) (by decide)
    have l0 := r.l0 (k := k) (by omega)
    have l1 := r.l1 (k := k) (by omega)
    rw [f_X3_copyFrom_L71.eq_2]
    simp (disch := omega) only [↓x_let_e, ↓reduceIte, pi_0, pi_1, pi_2, pi_3, pi_4, pi_5, pi_6, pi_7, pi_8, pi_9, pi_10, pi_11, pi_12, pi_13, pi_20, pi_27, pi_30, pi_60, pi_99, pi_115, pi_123, pi_135, pi_136, pi_137, pi_138, pi_139, pi_158, pi_159, pi_1113, m_neg, nI_add, pi_sub, mI_dec, pi_cl, pi_leT, pi_leF, pi_ltT, pi_ltF, pi_eqT, pi_eqF, mI_n, m_in12, m_in3, m_in6, Option.bind_some, e4, l0, sI_c, e5, l1]
    refine ih (k + 1) n _ (by omega) (by omega) ⟨q1, fun c hc => ?_, fun i hi f hf => ?_, fun i hi => ?_, fun v hv => ?_, fun x hx => ?_⟩
    · rw [sI_c (by omega), sI_c (by omega)]; exact q2 c hc
    · obtain ⟨d, hd, ed⟩ := V.2.1 i hi
      rw [sI_c (by omega), sI_c (by omega)]; exact q3 i hi f hf
    · rw [sI_c (by omega), sI_c (by omega)]; exact q4 i hi
    · rw [sI_c (by omega), sI_c (by omega)]; exact q5 v hv
    · rw [sI_c (c' := h + 4) (by omega)]
      by_cases g : x = k
      · subst g
        rw [sI_s, sI_s]; exact ⟨rfl, rfl⟩
      · rw [sI_k g, sI_k g, sI_c (by omega)]; exact q6 x (by omega)
theorem c_cpy2 (r : cR o M0 s) (kh : xkd h = 5) (ne : h ≠ o) (V : cV h M0) : ∀ (m k n : Nat) (M : xM), k + m = 3 → m < n → cQ h M0 M s 12 k 0 → ∃ M', f_X3_copyFrom_L43 h o n (nI k) M = some M' ∧ cR h M' s ∧ cF h M0 M' := by
  have ko := r.kd
  have out : ∀ q, q < 21 → o + q < h ∨ h + 21 ≤ o + q := fun q hq => by
    obtain ⟨a1, a2, a3⟩ := x5_is kh
    obtain ⟨b1, b2, b3⟩ := x5_is ko
    omega
  intro m
  induction m with
  | zero =>
    intro k n M e hn Q
    obtain ⟨n, rfl⟩ : ∃ n', n = n' + 1 := ⟨n - 1, by omega⟩
    have k6 : k = 3 := by omega
    subst k6
    rw [f_X3_copyFrom_L43.eq_2, if_pos (show (3 : Int32) ≤ nI 3 by decide)]
    exact c_cpy3 r kh ne V 6 0 xF M (by omega) (by rw [xF_2000]; omega) Q
  | succ m ih =>
    intro k n M e hn ⟨q1, q2, q3, q4, q5, q6⟩
    obtain ⟨n, rfl⟩ : ∃ n', n = n' + 1 := ⟨n - 1, by omega⟩
    have hk : k < 3 := by omega
    have kw := eq_true (pk_w kh hk)
    have kv := eq_true (pk_w ko hk)
    have nw : h + 3 + 15 + k ≠ o + 3 + 15 + k := by
      have := hall_apart kh ko ne (r := 18 + k) (q := 18 + k) (by omega) (by omega)
      omega
    obtain ⟨M1, h1, ⟨f1, f2⟩, h3⟩ := c_wind (M := M) nw
    have eo : M.1 (o + 3 + 15 + k) = M0.1 (o + 3 + 15 + k) := q2 _ (by
      have := out (18 + k) (by omega)
      omega)
    rw [f_X3_copyFrom_L43.eq_2]
    simp (disch := omega) only [↓x_let_e, ↓reduceIte, pi_0, pi_1, pi_2, pi_3, pi_4, pi_5, pi_6, pi_7, pi_8, pi_9, pi_10, pi_11, pi_12, pi_13, pi_20, pi_27, pi_30, pi_60, pi_99, pi_115, pi_123, pi_135, pi_136, pi_137, pi_138, pi_139, pi_158, pi_159, pi_1113, m_neg, nI_add, pi_sub, mI_dec, pi_cl, pi_leT, pi_leF, pi_ltT, pi_ltF, pi_eqT, pi_eqF, mI_n, m_in12, m_in3, m_in6, Option.bind_some, kw, kv, h1]
    refine ih (k + 1) n _ (by omega) (by omega) ⟨f2.trans q1, fun c hc => ?_, fun i hi f hf => ?_, fun i hi => ?_, fun v hv => ?_, fun x hx => absurd hx (Nat.not_lt_zero _)⟩
    · rw [f1 c (by omega)]; exact q2 c hc
    · obtain ⟨d, hd, ed⟩ := V.2.1 i hi
      rw [f1 _ (by omega)]; exact q3 i hi f hf
    · rw [f1 _ (by omega)]; exact q4 i hi
    · by_cases g : v = k
      · subst g
        rw [h3 0 (by decide), h3 1 (by decide), h3 2 (by decide), h3 3 (by decide), eo]
        exact ⟨r.w0 hk, r.w1 hk, r.w2 hk, r.w3 hk⟩
      · rw [f1 _ (by omega)]; exact q5 v (by omega)
theorem c_cpy1 (r : cR o M0 s) (kh : xkd h = 5) (ne : h ≠ o) (V : cV h M0) : ∀ (m k n : Nat) (M : xM), k + m = 12 → m < n → cQ h M0 M s k 0 0 → ∃ M', f_X3_copyFrom_L2 h o n (nI k) M = some M' ∧ cR h M' s ∧ cF h M0 M' := by
  have ko := r.kd
  have out : ∀ q, q < 21 → o + q < h ∨ h + 21 ≤ o + q := fun q hq => by
    obtain ⟨a1, a2, a3⟩ := x5_is kh
    obtain ⟨b1, b2, b3⟩ := x5_is ko
    omega
  intro m
  induction m with
  | zero =>
    intro k n M e hn Q
    obtain ⟨n, rfl⟩ : ∃ n', n = n' + 1 := ⟨n - 1, by omega⟩
    have k6 : k = 12 := by omega
    subst k6
    rw [f_X3_copyFrom_L2.eq_2, if_pos (show (12 : Int32) ≤ nI 12 by decide)]
    exact c_cpy2 r kh ne V 3 0 xF M (by omega) (by rw [xF_2000]; omega) Q
  | succ m ih =>
    intro k n M e hn ⟨q1, q2, q3, q4, q5, q6⟩
    obtain ⟨n, rfl⟩ : ∃ n', n = n' + 1 := ⟨n - 1, by omega⟩
    have hk : k < 12 := by omega
    obtain ⟨d, hd, ed⟩ := V.2.1 k hk
    obtain ⟨d', hd', ed'⟩ := r.cc hk
    have e1 : ∀ c x, M.2.1 c x = M0.2.1 c x := fun c x => by rw [q1]
    have kc : (xkd (M0.2.1 (h + 1) k) = 4) = True := eq_true (by rw [ed]; exact pk_c kh hd)
    have kd : (xkd (M0.2.1 (o + 1) k) = 4) = True := eq_true (r.ck hk)
    have nw : M0.2.1 (h + 1) k ≠ M0.2.1 (o + 1) k := by
      have := hall_apart kh ko ne (r := 6 + d) (q := 6 + d') (by omega) (by omega)
      omega
    have eo : M.1 (M0.2.1 (o + 1) k) = M0.1 (M0.2.1 (o + 1) k) := q2 _ (by
      have := out (6 + d') (by omega)
      omega)
    have b5 := r.b5 hk
    have b6 := r.b6 hk
    have fl : ∀ x : Nat, x ≤ 1 → nI x = 0 ∨ nI x = 1 := fun x hx => by
      obtain rfl | rfl : x = 0 ∨ x = 1 := by omega
      · exact .inl rfl
      · exact .inr rfl
    obtain ⟨M1, h1, ⟨f1, f2⟩, h3⟩ := c_cust (M := M) nw (by rw [eo, r.c hk (by decide)]; exact fl _ b5) (by rw [eo, r.c hk (by decide)]; exact fl _ b6)
    have e2 : M1.1 (o + 2) = M0.1 (o + 2) := by
      have := out 2 (by omega)
      rw [f1 _ (by omega)]
      exact q2 _ this
    have rq := r.q hk
    rw [f_X3_copyFrom_L2.eq_2]
    simp (disch := omega) only [↓x_let_e, ↓reduceIte, pi_0, pi_1, pi_2, pi_3, pi_4, pi_5, pi_6, pi_7, pi_8, pi_9, pi_10, pi_11, pi_12, pi_13, pi_20, pi_27, pi_30, pi_60, pi_99, pi_115, pi_123, pi_135, pi_136, pi_137, pi_138, pi_139, pi_158, pi_159, pi_1113, m_neg, nI_add, pi_sub, mI_dec, pi_cl, pi_leT, pi_leF, pi_ltT, pi_ltF, pi_eqT, pi_eqF, mI_n, m_in12, m_in3, m_in6, Option.bind_some, e1, kc, kd, h1, e2, rq]
    refine ih (k + 1) n _ (by omega) (by omega) ⟨f2.trans q1, fun c hc => ?_, fun i hi f hf => ?_, fun i hi => ?_, fun v hv => absurd hv (Nat.not_lt_zero _), fun x hx => absurd hx (Nat.not_lt_zero _)⟩
    · rw [sI_c (by omega), f1 c (by omega)]; exact q2 c hc
    · by_cases g : i = k
      · subst g
        rw [sI_c (by omega), h3 f hf, eo]
        exact r.c hk hf
      · obtain ⟨d2, hd2, ed2⟩ := V.2.1 i (by omega)
        rw [sI_c (by omega), f1 _ (fun z => g (V.2.2 i k (by omega) hk z))]
        exact q3 i (by omega) f hf
    · by_cases g : i = k
      · subst g
        rw [sI_s]
      · rw [sI_k g, f1 _ (by omega)]; exact q4 i (by omega)
theorem c_copy (r : cR o M0 s) (ne : h ≠ o) (V : cV h M0) : ∃ M', f_X3_copyFrom h o M0 = some M' ∧ cR h M' s ∧ cF h M0 M' := by
  unfold f_X3_copyFrom
  exact c_cpy1 r V.1 ne V 12 0 xF M0 (by omega) (by rw [xF_2000]; omega) ⟨rfl, fun _ _ => rfl, fun i hi => absurd hi (Nat.not_lt_zero _), fun i hi => absurd hi (Nat.not_lt_zero _), fun i hi => absurd hi (Nat.not_lt_zero _), fun i hi => absurd hi (Nat.not_lt_zero _)⟩
end CPY
