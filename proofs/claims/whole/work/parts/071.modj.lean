/-! pure: the model: a window's turn -/
def mRs (k : Nat) (g : Nat → Int32) : Nat → Int32 := fun x => if 139 ≤ x ∧ x ≤ k then g (x - 4) else g x
theorem m_remL {v2 v3 : Int32} : ∀ (m k n : Nat) (M : xM), k = 138 + m → m ≤ 20 → m < n → f_X7_remembers_L10 v2 v3 n (nI k) M = f_X7_remembers_L10 v2 v3 (n - m) (nI 138) (mG M 10 (mRs k (M.1 10)))
  | 0, k, n, M, hk, hm, hn => by
    have : mRs k (M.1 10) = M.1 10 := funext fun x => if_neg (by omega)
    rw [this, mG_id, hk]
    rfl
  | m + 1, k, n, M, hk, hm, hn => by
    obtain ⟨n, rfl⟩ : ∃ n', n = n' + 1 := ⟨n - 1, by omega⟩
    rw [f_X7_remembers_L10.eq_2]
    simp (disch := omega) only [x_let, ↓reduceIte, pi_0, pi_1, pi_2, pi_3, pi_4, pi_5, pi_6, pi_7, pi_8, pi_9, pi_10, pi_11, pi_12, pi_13, pi_20, pi_27, pi_30, pi_60, pi_99, pi_115, pi_123, pi_135, pi_136, pi_137, pi_138, pi_139, pi_158, pi_159, pi_1113, m_neg, nI_add, pk_mul, pi_sub, mI_dec, pi_cl, pi_leT, pi_leF, pi_ltT, pi_ltF, pi_eqT, pi_eqF, mI_n, m_in159, Option.bind_some, f_X7_personAt, f_X7_windowAt, mG_i, mG_g, mG_s, pk_us, pk_un]
    rw [m_remL m (k - 1) n _ (by omega) (by omega) (by omega), show n + 1 - (m + 1) = n - m by omega]
    simp (disch := omega) only [x_let, ↓reduceIte, pi_0, pi_1, pi_2, pi_3, pi_4, pi_5, pi_6, pi_7, pi_8, pi_9, pi_10, pi_11, pi_12, pi_13, pi_20, pi_27, pi_30, pi_60, pi_99, pi_115, pi_123, pi_135, pi_136, pi_137, pi_138, pi_139, pi_158, pi_159, pi_1113, m_neg, nI_add, pk_mul, pi_sub, mI_dec, pi_cl, pi_leT, pi_leF, pi_ltT, pi_ltF, pi_eqT, pi_eqF, mI_n, m_in159, Option.bind_some, f_X7_personAt, f_X7_windowAt, mG_i, mG_g, mG_s, pk_us, pk_un]
    congr 2
    funext x
    simp only [mRs, upd]
    (repeat' split) <;> first | rfl | (exfalso; omega) | (exact congrArg _ (by omega)) | (subst_vars; exact congrArg _ (by omega))
theorem dH_serve {g : Nat → Int32} {s : hS} {a : Nat → Nat} {c v : Nat} {wv : Int32} (d : dH g s a) (b : aB s) (hc : c < s.1 0) (hv : v = (aServe c s).1 8) : dH (upd (upd (upd (upd (upd (upd (upd (mRs 158 g) 135 (nI (hC s c 0))) 136 (nI (hC s c 4))) 137 (nI (hC s c 2))) 138 wv) 10 (nI (if s.1 3 + 1 < 6 then s.1 3 + 1 else 6))) 11 (nI v)) 3 (nI (s.1 3 + 1))) (aServe c s) a := by
  have hn := b.1
  have hq := b.2.1
  have ek : ∀ x, x < 139 → mRs 158 g x = g x := fun x hx => if_neg (by omega)
  have low : ∀ x, x < 135 → x ≠ 3 → x ≠ 10 → x ≠ 11 → upd (upd (upd (upd (upd (upd (upd (mRs 158 (g)) 135 (nI (hC s c 0))) 136 (nI (hC s c 4))) 137 (nI (hC s c 2))) 138 wv) 10 (nI (if s.1 3 + 1 < 6 then s.1 3 + 1 else 6))) 11 (nI v)) 3 (nI (s.1 3 + 1)) x = g x := fun x h1 h2 h3 h4 => by
    simp (disch := omega) only [pk_un]
    exact ek x (by omega)
  have s3 : (aServe c s).1 3 = s.1 3 + 1 := by unfold aServe aCalm; split <;> rfl
  refine ⟨fun j hj => ?_, ?_, fun v' hv' => ?_, fun i hi f hf => ?_, fun i hi => ?_, fun k h1 h2 => ?_, fun k hk => ?_, fun r hr => ?_⟩
  · by_cases j3 : j = 3
    · subst j3
      rw [s3, show dix 3 = 3 from rfl, pk_us]
    · by_cases j8 : j = 8
      · subst j8
        rw [← hv, show dix 8 = 11 from rfl, pk_un (by omega), pk_us]
      · have hx := dix_le hj
        rw [low _ (by omega) (fun z => j3 (dix_inj hj (b := 3) (by decide) z)) hx.2 (fun z => j8 (dix_inj hj (b := 8) (by decide) z)), aServe_n j3 j8]
        exact d.sc hj
  · show upd _ _ _ 10 = nI (if (aServe c s).1 3 < 6 then (aServe c s).1 3 else 6)
    rw [s3]
    simp (disch := omega) only [pk_un, pk_us]
  · rw [aServe_W, low _ (by omega) (by omega) (by omega) (by omega), low _ (by omega) (by omega) (by omega) (by omega), low _ (by omega) (by omega) (by omega) (by omega), low _ (by omega) (by omega) (by omega) (by omega)]
    exact d.2.2.1 v' hv'
  · rw [aServe_n (by decide) (by decide)] at hi
    have := mf_le f
    rw [aServe_C, low _ (by omega) (by omega) (by omega) (by omega)]
    exact d.p hi hf
  · rw [aServe_n (by decide) (by decide)] at hi
    rw [low _ (by omega) (by omega) (by omega) (by omega)]
    exact d.at_ hi
  · rw [aServe_n (by decide) (by decide)] at h1
    rw [low _ (by omega) (by omega) (by omega) (by omega)]
    exact d.z h1 h2
  · rw [aServe_n (by decide) (by decide)] at hk
    rw [aServe_Q, low _ (by omega) (by omega) (by omega) (by omega)]
    exact d.q hk
  · have eL0 : hL (aServe c s) r 0 = if r = 0 then hC s c 0 else hL s (r - 1) 0 := by
      have : hL (aServe c s) r 0 = up2 (up2 (fun r f => if 1 ≤ r ∧ r ≤ 5 ∧ f ≤ 1 then s.2.2.2.2 (r - 1) f else s.2.2.2.2 r f) 0 0 (hC s c 0)) 0 1 (hC s c 4) r 0 := by unfold aServe aCalm; split <;> rfl
      rw [this]
      simp only [up2]
      by_cases r0 : r = 0
      · rw [if_neg (by omega), if_pos ⟨r0, trivial⟩, if_pos r0]
      · rw [if_neg (by omega), if_neg (by omega), if_pos (by omega), if_neg r0]
    have eL1 : hL (aServe c s) r 1 = if r = 0 then hC s c 4 else hL s (r - 1) 1 := by
      have : hL (aServe c s) r 1 = up2 (up2 (fun r f => if 1 ≤ r ∧ r ≤ 5 ∧ f ≤ 1 then s.2.2.2.2 (r - 1) f else s.2.2.2.2 r f) 0 0 (hC s c 0)) 0 1 (hC s c 4) r 1 := by unfold aServe aCalm; split <;> rfl
      rw [this]
      simp only [up2]
      by_cases r0 : r = 0
      · rw [if_pos ⟨r0, trivial⟩, if_pos r0]
      · rw [if_neg (by omega), if_neg (by omega), if_pos (by omega), if_neg r0]
    rw [eL0, eL1]
    by_cases r0 : r = 0
    · subst r0
      rw [if_pos rfl, if_pos rfl]
      refine ⟨?_, ?_⟩
      · simp (disch := omega) only [pk_un, pk_us]
      · simp (disch := omega) only [pk_un, pk_us]
    · rw [if_neg r0, if_neg r0]
      have l0 := d.l0 (r := r - 1) (by omega)
      have l1 := d.l1 (r := r - 1) (by omega)
      refine ⟨?_, ?_⟩
      · simp (disch := omega) only [pk_un, pk_us]
        unfold mRs
        rw [if_pos (by omega), show 135 + 4 * r - 4 = 135 + 4 * (r - 1) by omega]
        exact l0
      · simp (disch := omega) only [pk_un, pk_us]
        unfold mRs
        rw [if_pos (by omega), show 135 + 4 * r + 1 - 4 = 135 + 4 * (r - 1) + 1 by omega]
        exact l1
theorem aServe_8 {s : hS} {c : Nat} : (aServe c s).1 8 = if hC s c 2 = 0 then s.1 8 + 1 else s.1 8 := by
  unfold aServe aCalm
  rw [show hC (u0 (uL (uL (aSh 5 s) 0 0 (hC s c 0)) 0 1 (hC s c 4)) 3 (s.1 3 + 1)) c 2 = hC s c 2 from rfl]
  split <;> rfl
theorem m_min6 {z q : Nat} (hz : z = (if q < 6 then q else 6)) : (if nI (z + 1) < nI 6 then nI (z + 1) else nI 6) = nI (if q + 1 < 6 then q + 1 else 6) := by
  by_cases g1 : q < 6
  · rw [if_pos g1] at hz
    subst hz
    by_cases g2 : z + 1 < 6
    · rw [if_pos (nI_lt g2 (by omega)), if_pos g2]
    · rw [if_neg (nI_nlt (by omega) (by omega)), if_neg g2]
  · rw [if_neg g1] at hz
    subst hz
    rw [if_neg (nI_nlt (by omega) (by omega)), if_neg (by omega)]
theorem m_remT {M : xM} {s : hS} {a : Nat → Nat} {c w n : Nat} {g : Nat → Int32} (d : dH g s a) (b : aB s) (hc : c < s.1 0) (hM : M.1 10 = mRs 158 g) : ∃ g', f_X7_remembers_L10 (nI w) (nI (27 + 8 * c)) (n + 1) (nI 138) M = some (mG M 10 g') ∧ dH g' (aServe c s) a := by
  have hn := b.1
  have b2 := (b.2.2.2.2 c (by omega)).2.1
  have e0 := d.p0 hc
  have e6 := d.p4 hc
  have e2 := d.p2 hc
  have e10 := d.k10
  have e11 : g 11 = nI (s.1 8) := d.sc (j := 8) (by decide)
  have e3 : g 3 = nI (s.1 3) := d.sc (j := 3) (by decide)
  have ek : ∀ x, x < 139 → mRs 158 g x = g x := fun x hx => if_neg (by omega)
  have s8 := aServe_8 (s := s) (c := c)
  rw [f_X7_remembers_L10.eq_2]
  by_cases z : hC s c 2 = 0
  · rw [if_pos z] at s8
    have f1 := dH_serve (wv := nI w) d b hc s8.symm
    rw [z] at e2 f1
    simp (disch := omega) only [x_let, ↓reduceIte, pi_0, pi_1, pi_2, pi_3, pi_4, pi_5, pi_6, pi_7, pi_8, pi_9, pi_10, pi_11, pi_12, pi_13, pi_20, pi_27, pi_30, pi_60, pi_99, pi_115, pi_123, pi_135, pi_136, pi_137, pi_138, pi_139, pi_158, pi_159, pi_1113, m_neg, nI_add, pk_mul, pi_sub, mI_dec, pi_cl, pi_leT, pi_leF, pi_ltT, pi_ltF, pi_eqT, pi_eqF, mI_n, m_in159, Option.bind_some, f_X7_personAt, f_X7_windowAt, mG_i, mG_g, mG_s, pk_us, pk_un, hM, ek, e0, e6, e2, e10, e11, e3, m_min6 rfl]
    exact ⟨_, rfl, f1⟩
  · rw [if_neg z] at s8
    have f1 := dH_serve (wv := nI w) d b hc s8.symm
    simp (disch := omega) only [x_let, ↓reduceIte, pi_0, pi_1, pi_2, pi_3, pi_4, pi_5, pi_6, pi_7, pi_8, pi_9, pi_10, pi_11, pi_12, pi_13, pi_20, pi_27, pi_30, pi_60, pi_99, pi_115, pi_123, pi_135, pi_136, pi_137, pi_138, pi_139, pi_158, pi_159, pi_1113, m_neg, nI_add, pk_mul, pi_sub, mI_dec, pi_cl, pi_leT, pi_leF, pi_ltT, pi_ltF, pi_eqT, pi_eqF, mI_n, m_in159, Option.bind_some, f_X7_personAt, f_X7_windowAt, mG_i, mG_g, mG_s, pk_us, pk_un, hM, ek, e0, e6, e2, e10, e11, e3, m_min6 rfl]
    exact ⟨_, rfl, f1⟩
theorem m_remembers {M : xM} {s : hS} {a : Nat → Nat} {c w : Nat} (d : dH (M.1 10) s a) (b : aB s) (hc : c < s.1 0) : ∃ g', f_X7_remembers (nI c) (nI w) M = some (mG M 10 g') ∧ dH g' (aServe c s) a := by
  unfold f_X7_remembers
  rw [f_X7_personAt, Option.bind_some, pi_27, pi_8, pk_mul, nI_add, pi_158, m_remL 20 158 xF M rfl (Nat.le_refl _) (by rw [xF_2000]; omega)]
  obtain ⟨n, hn⟩ : ∃ n, xF - 20 = n + 1 := ⟨1979, rfl⟩
  rw [hn]
  obtain ⟨g', h1, h2⟩ := m_remT (M := mG M 10 (mRs 158 (M.1 10))) (w := w) (n := n) d b hc mG_s
  rw [mG_g] at h1
  exact ⟨g', h1, h2⟩
