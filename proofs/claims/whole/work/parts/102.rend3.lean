/-! pure: the windows rendered -/
theorem nDg_1 {v : Nat} (h : v < 10) : nDg v = 1 := if_pos h
theorem cW_cg {M : xM} {w w' : wT} (b : cW M w) (h : w.1 = w'.1) (h2 : ∀ j, j < w.1 → w.2 j = w'.2 j) : cW M w' := by
  obtain ⟨b1, b2, b3, b4, b5, b6⟩ := b
  refine ⟨b1, by rw [← h]; exact b2, fun j hj => ?_, b4, by rw [← h]; exact b5, b6⟩
  rw [← h2 j (by omega)]
  exact b3 j (by omega)
theorem wN_1 {v : Nat} {w : wT} (h : v < 10) : (wN v w).1 = (wS (48 + v) w).1 ∧ ∀ j, j < (wN v w).1 → (wN v w).2 j = (wS (48 + v) w).2 j := by
  refine ⟨congrArg (w.1 + ·) (nDg_1 h), fun j hj => ?_⟩
  have hj : j < w.1 + nDg v := hj
  show (if w.1 ≤ j then 48 + v / 10 ^ (w.1 + nDg v - 1 - j) % 10 else w.2 j) = va_up w.2 w.1 (48 + v) j
  rw [nDg_1 h] at hj ⊢
  by_cases z : j = w.1
  · rw [z, if_pos (Nat.le_refl _), va_up_self, Nat.add_sub_cancel, Nat.sub_self, Nat.pow_zero, Nat.div_one, Nat.mod_eq_of_lt h]
  · rw [if_neg (by omega), va_up_ne _ _ z]
/-- a window written -/
def wW (s : hS) (i : Nat) (w : wT) : wT := if 0 < hW s i 0 then (if hW s i 2 = 0 then wS 45 w else wN (hW s i 3) (wS 47 (wN (hC s (hW s i 2 - 1) 0) w))) else wS 120 w
def wV (s : hS) (i : Nat) (w : wT) : wT := wW s i (wS 58 (wS (48 + i) w))
theorem wW_le {s : hS} {i : Nat} {w : wT} (h : hW s i 3 < 10 ^ 8) (h2 : hC s (hW s i 2 - 1) 0 < 10 ^ 8) : (wW s i w).1 ≤ w.1 + 17 := by
  have := (nDg_sp h).2.2.2
  have := (nDg_sp h2).2.2.2
  unfold wW wN wS
  split
  · split
    · dsimp only; omega
    · dsimp only; omega
  · dsimp only; omega
def wR (s : hS) : Nat → Nat → wT → wT
  | 0, _, w => w
  | m + 1, k, w => wR s m (k + 1) (wV s k (if k = 0 then w else wS 32 w))
section RW
variable {M : xM} {s : hS} {u : Nat} {H : Nat → hS} {sf : Nat} {sn : hS} {w : wT}
theorem c_W (g : gC M s u H sf sn) (b : cW M w) (rn : aRn s) {i : Nat} (hi : i < 3) (hL : w.1 + 17 ≤ 142) : ∃ M', f_X6_writeWindow (M.2.1 0 0 + 3 + 15 + i) M = some M' ∧ cW M' (wW s i w) ∧ sBF 6 M M' := by
  have r := g.r
  have hb := rn.1.2.2.2.1 i hi
  have h12 := rn.1.1
  have x5 := x5_is g.k0
  have w0 := r.w0 hi
  have w2 := r.w2 hi
  have w3 := r.w3 hi
  unfold f_X6_writeWindow f_X5_isOpen wW
  rw [w0, w2]
  by_cases z : 0 < hW s i 0
  · rw [if_neg (show ¬ nI (hW s i 0) ≤ 0 from nI_ge (a := 0) z (by omega)), Option.bind_some, if_neg (show ¬ (1 : Int32) = 0 by decide), if_pos z]
    by_cases y : hW s i 2 = 0
    · obtain ⟨M1, e1, b1, f1⟩ := c_S b (ch := 45) (by decide) (by omega)
      have e1 : f_J4_append_cf468 6 (45 : Int32) M = some M1 := e1
      rw [y, if_pos (show eI 0 = (-1 : Int32) from rfl), e1, Option.bind_some, if_pos rfl]
      exact ⟨M1, rfl, b1, f1⟩
    · have ho : hW s i 2 - 1 < s.1 0 := by have := rn.2.1.1.2.2.1 i hi; unfold wo at this; omega
      have ht := rn.2.2.2 _ ho
      have hn : hW s i 3 < 10 ^ 8 := by omega
      have d1 := (nDg_sp ht).2.2.2
      have d2 := (nDg_sp hn).2.2.2
      have ck := r.ck (i := hW s i 2 - 1) (by omega)
      have c0 : M.1 (M.2.1 (M.2.1 0 0 + 1) (hW s i 2 - 1)) 0 = nI (hC s (hW s i 2 - 1) 0) := r.c (by omega) (by decide)
      obtain ⟨M1, e1, b1, f1⟩ := c_N b ht (by omega)
      have l1 : (wN (hC s (hW s i 2 - 1) 0) w).1 = w.1 + nDg (hC s (hW s i 2 - 1) 0) := rfl
      obtain ⟨M2, e2, b2, f2⟩ := c_S b1 (ch := 47) (by decide) (by omega)
      have e2 : f_J4_append_cf468 6 (47 : Int32) M1 = some M2 := e2
      have l2 : (wS 47 (wN (hC s (hW s i 2 - 1) 0) w)).1 = w.1 + nDg (hC s (hW s i 2 - 1) 0) + 1 := rfl
      obtain ⟨M3, e3, b3, f3⟩ := c_N b2 hn (by omega)
      have w32 : M2.1 (M.2.1 0 0 + 3 + 15 + i) 3 = nI (hW s i 3) := by
        rw [(f2.1 _ (by omega) (by omega)).1, (f1.1 _ (by omega) (by omega)).1]
        exact w3
      rw [eI_p (by omega), if_neg (pi_ne1 (by omega)), if_neg y, if_pos g.k0, if_pos (pi_in12 (by omega)), pi_cl (by omega), if_pos ck, c0, e1, Option.bind_some, e2, Option.bind_some, w32, e3, Option.bind_some]
      exact ⟨M3, rfl, b3, f1.tr (f2.tr f3)⟩
  · obtain ⟨M1, e1, b1, f1⟩ := c_S b (ch := 120) (by decide) (by omega)
    have e1 : f_J4_append_cf468 6 (120 : Int32) M = some M1 := e1
    rw [if_pos (show nI (hW s i 0) ≤ 0 from nI_le (b := 0) (by omega) (by omega)), Option.bind_some, if_pos (show (0 : Int32) = 0 from rfl), e1, Option.bind_some, if_neg z]
    exact ⟨M1, rfl, b1, f1⟩
theorem c_D (b : cW M w) {i : Nat} (hi : i < 3) (hL : w.1 + 1 ≤ 142) : ∃ M', f_J4_append_bf812 6 (nI i) M = some M' ∧ cW M' (wS (48 + i) w) ∧ sBF 6 M M' := by
  obtain ⟨M1, e1, b1, f1⟩ := c_N b (v := i) (by omega) (by rw [nDg_1 (by omega)]; exact hL)
  have c := wN_1 (v := i) (w := w) (by omega)
  exact ⟨M1, e1, cW_cg b1 c.1 c.2, f1⟩
theorem wV_le (rn : aRn s) {i : Nat} (hi : i < 3) : (wV s i w).1 ≤ w.1 + 19 := by
  have hb := rn.1.2.2.2.1 i hi
  unfold wV
  by_cases y : hW s i 2 = 0
  · unfold wW
    rw [if_pos y]
    split
    · show w.1 + 1 + 1 + 1 ≤ w.1 + 19
      omega
    · show w.1 + 1 + 1 + 1 ≤ w.1 + 19
      omega
  · have ho : hW s i 2 - 1 < s.1 0 := by have := rn.2.1.1.2.2.1 i hi; unfold wo at this; omega
    have := wW_le (w := wS 58 (wS (48 + i) w)) (show hW s i 3 < 10 ^ 8 by omega) (rn.2.2.2 _ ho)
    have : (wS 58 (wS (48 + i) w)).1 = w.1 + 1 + 1 := rfl
    omega
theorem c_rw (rn : aRn s) : ∀ (m k n : Nat) (M : xM) (w : wT), gC M s u H sf sn → cW M w → k + m = 3 → m < n → w.1 ≤ 20 * k → ∃ M', f_X6_renderWindows_L10 n (nI k) M = some (nI (wR s m k w).1, M') ∧ cW M' (wR s m k w) ∧ sBF 6 M M'
  | 0, k, n, M, w, g, b, h, hn, hw => by
    obtain ⟨n, rfl⟩ : ∃ n', n = n' + 1 := ⟨n - 1, by omega⟩
    have : k = 3 := by omega
    subst this
    rw [f_X6_renderWindows_L10.eq_2, if_pos (show (3 : Int32) ≤ nI 3 by decide), c_len b, Option.bind_some]
    exact ⟨M, rfl, b, sBF.rf⟩
  | m + 1, k, n, M, w, g, b, h, hn, hw => by
    obtain ⟨n, rfl⟩ : ∃ n', n = n' + 1 := ⟨n - 1, by omega⟩
    have hk : k < 3 := by omega
    rw [f_X6_renderWindows_L10.eq_2, if_neg (show ¬ (3 : Int32) ≤ nI k from nI_ge (b := 3) (by omega) (by omega)), pi_1, nI_add]
    unfold wR
    by_cases z : k = 0
    · subst z
      obtain ⟨M1, e1, b1, f1⟩ := c_D b (i := 0) (by omega) (by omega)
      have l1 : (wS (48 + 0) w).1 = w.1 + 1 := rfl
      obtain ⟨M2, e2, b2, f2⟩ := c_S b1 (ch := 58) (by decide) (by omega)
      have e2 : f_J4_append_cf468 6 (58 : Int32) M1 = some M2 := e2
      have l2 : (wS 58 (wS (48 + 0) w)).1 = w.1 + 1 + 1 := rfl
      have g2 := gC_sB (by decide) (by decide) (gC_sB (by decide) (by decide) g f1) f2
      obtain ⟨M3, e3, b3, f3⟩ := c_W g2 b2 rn (i := 0) (by decide) (by omega)
      have lw := wV_le (w := w) rn (i := 0) (by decide)
      obtain ⟨M4, e4, b4, f4⟩ := c_rw rn m (0 + 1) n M3 (wV s 0 w) (gC_sB (by decide) (by decide) g2 f3) b3 (by omega) (by omega) (by omega)
      rw [if_pos (show nI 0 ≤ 0 by decide), if_pos rfl, e1, Option.bind_some, e2, Option.bind_some, if_pos g2.k0, if_pos (show x_in (nI 0) 3 = true by decide), pi_cl (by decide), if_pos (g2.r.wk (by decide)), e3, Option.bind_some]
      exact ⟨M4, e4, b4, f1.tr (f2.tr (f3.tr f4))⟩
    · obtain ⟨M0, e0, b0, f0⟩ := c_S b (ch := 32) (by decide) (by omega)
      have e0 : f_J4_append_cf468 6 (32 : Int32) M = some M0 := e0
      have l0 : (wS 32 w).1 = w.1 + 1 := rfl
      obtain ⟨M1, e1, b1, f1⟩ := c_D b0 (i := k) (by omega) (by omega)
      have l1 : (wS (48 + k) (wS 32 w)).1 = w.1 + 1 + 1 := rfl
      obtain ⟨M2, e2, b2, f2⟩ := c_S b1 (ch := 58) (by decide) (by omega)
      have e2 : f_J4_append_cf468 6 (58 : Int32) M1 = some M2 := e2
      have l2 : (wS 58 (wS (48 + k) (wS 32 w))).1 = w.1 + 1 + 1 + 1 := rfl
      have g2 := gC_sB (by decide) (by decide) (gC_sB (by decide) (by decide) (gC_sB (by decide) (by decide) g f0) f1) f2
      obtain ⟨M3, e3, b3, f3⟩ := c_W g2 b2 rn (i := k) hk (by omega)
      have lw := wV_le (w := wS 32 w) rn (i := k) hk
      obtain ⟨M4, e4, b4, f4⟩ := c_rw rn m (k + 1) n M3 (wV s k (wS 32 w)) (gC_sB (by decide) (by decide) g2 f3) b3 (by omega) (by omega) (by omega)
      rw [if_neg (show ¬ nI k ≤ 0 from nI_ge (a := 0) (by omega) (by omega)), if_neg z, e0, Option.bind_some, e1, Option.bind_some, e2, Option.bind_some, if_pos g2.k0, if_pos (pi_in3 hk), pi_cl (by omega), if_pos (g2.r.wk hk), e3, Option.bind_some]
      exact ⟨M4, e4, b4, f0.tr (f1.tr (f2.tr (f3.tr f4)))⟩
theorem m_pa {c : Nat} : f_X7_personAt (nI c) M = some (nI (27 + 8 * c)) := by
  unfold f_X7_personAt
  rw [show (27 : Int32) = nI 27 from rfl, show (8 : Int32) = nI 8 from rfl, pk_mul, nI_add]
theorem m_wa {c : Nat} : f_X7_windowAt (nI c) M = some (nI (12 + 5 * c)) := by
  unfold f_X7_windowAt
  rw [show (12 : Int32) = nI 12 from rfl, show (5 : Int32) = nI 5 from rfl, pk_mul, nI_add]
theorem m_W (d : dH (M.1 10) s (aW s)) (b : mW M w) (rn : aRn s) {i : Nat} (hi : i < 3) (hL : w.1 + 19 ≤ 142) (K : xM → Option (Int32 × xM)) : ∃ M', ((f_X7_sign ((48 : Int32) + nI i) M).bind fun q7 => (f_X7_sign (58 : Int32) q7).bind fun q9 => (f_X7_windowAt (nI i) q9).bind fun q11 => if x_in (q11 + (2 : Int32)) 159 = true then (f_X7_isOpen (nI i) q9).bind fun q14 => (if q14 = 0 then (f_X7_sign (120 : Int32) q9).bind fun q32 => K q32 else (if (q9.1 10 (q11 + (2 : Int32)).toNatClampNeg) = (-1 : Int32) then (f_X7_sign (45 : Int32) q9).bind fun q30 => K q30 else (f_X7_personAt (q9.1 10 (q11 + (2 : Int32)).toNatClampNeg) q9).bind fun q18 => if x_in q18 159 = true then (f_X7_writesNumber (q9.1 10 q18.toNatClampNeg) q9).bind fun q21 => (f_X7_sign (47 : Int32) q21).bind fun q23 => (f_X7_windowAt (nI i) q23).bind fun q25 => if x_in (q25 + (3 : Int32)) 159 = true then (f_X7_writesNumber (q23.1 10 (q25 + (3 : Int32)).toNatClampNeg) q23).bind fun q28 => K q28 else none else none)) else none) = K M' ∧ mW M' (wV s i w) ∧ mWF M M' := by
  have hb := rn.1.2.2.2.1 i hi
  have h12 := rn.1.1
  obtain ⟨M1, e1, b1, f1⟩ := m_S b (ch := 48 + i) (by omega)
  have l1 : (wS (48 + i) w).1 = w.1 + 1 := rfl
  obtain ⟨M2, e2, b2, f2⟩ := m_S b1 (ch := 58) (by omega)
  have e2 : f_X7_sign (58 : Int32) M1 = some M2 := e2
  have l2 : (wS 58 (wS (48 + i) w)).1 = w.1 + 1 + 1 := rfl
  have d2 := dH_mWF (dH_mWF d f1) f2
  have w2 := d2.w2 hi
  unfold wV wW
  rw [show (48 : Int32) = nI 48 from rfl, nI_add, e1, Option.bind_some, e2, Option.bind_some, m_wa, Option.bind_some, show (2 : Int32) = nI 2 from rfl, nI_add, if_pos (pi_in159 (by omega)), m_isOpen d2 rn.1 hi, Option.bind_some, pi_cl (by omega), w2]
  by_cases z : 0 < hW s i 0
  · rw [if_pos z, if_neg (show ¬ nI 1 = 0 by decide), if_pos z]
    by_cases y : hW s i 2 = 0
    · obtain ⟨M3, e3, b3, f3⟩ := m_S b2 (ch := 45) (by omega)
      have e3 : f_X7_sign (45 : Int32) M2 = some M3 := e3
      rw [y, if_pos (show eI 0 = (-1 : Int32) from rfl), e3, Option.bind_some, if_pos rfl]
      exact ⟨M3, rfl, b3, f1.tr (f2.tr f3)⟩
    · have ho : hW s i 2 - 1 < s.1 0 := by have := rn.2.1.1.2.2.1 i hi; unfold wo at this; omega
      have ht := rn.2.2.2 _ ho
      have hn : hW s i 3 < 10 ^ 8 := by omega
      have q1 := (nDg_sp ht).2.2.2
      have q2 := (nDg_sp hn).2.2.2
      have p0 := d2.p0 ho
      obtain ⟨M3, e3, b3, f3⟩ := m_N b2 ht (by omega)
      have l3 : (wN (hC s (hW s i 2 - 1) 0) (wS 58 (wS (48 + i) w))).1 = w.1 + 1 + 1 + nDg (hC s (hW s i 2 - 1) 0) := rfl
      obtain ⟨M4, e4, b4, f4⟩ := m_S b3 (ch := 47) (by omega)
      have e4 : f_X7_sign (47 : Int32) M3 = some M4 := e4
      have l4 : (wS 47 (wN (hC s (hW s i 2 - 1) 0) (wS 58 (wS (48 + i) w)))).1 = w.1 + 1 + 1 + nDg (hC s (hW s i 2 - 1) 0) + 1 := rfl
      have w3 := (dH_mWF (dH_mWF d2 f3) f4).w3 hi y
      obtain ⟨M5, e5, b5, f5⟩ := m_N b4 hn (by omega)
      rw [eI_p (by omega), if_neg (pi_ne1 (by omega)), if_neg y, m_pa, Option.bind_some, if_pos (pi_in159 (by omega)), pi_cl (by omega), p0, e3, Option.bind_some, e4, Option.bind_some, m_wa, Option.bind_some, show (3 : Int32) = nI 3 from rfl, nI_add, if_pos (pi_in159 (by omega)), pi_cl (by omega), w3, e5, Option.bind_some]
      exact ⟨M5, rfl, b5, f1.tr (f2.tr (f3.tr (f4.tr f5)))⟩
  · obtain ⟨M3, e3, b3, f3⟩ := m_S b2 (ch := 120) (by omega)
    have e3 : f_X7_sign (120 : Int32) M2 = some M3 := e3
    rw [if_neg z, if_pos (show nI 0 = 0 from rfl), e3, Option.bind_some, if_neg z]
    exact ⟨M3, rfl, b3, f1.tr (f2.tr f3)⟩
theorem m_rw (rn : aRn s) : ∀ (m k n : Nat) (M : xM) (w : wT), dH (M.1 10) s (aW s) → mW M w → k + m = 3 → m < n → w.1 ≤ 20 * k → ∃ M', f_X7_renderWindows_L12 n (nI k) M = some (nI (wR s m k w).1, M') ∧ mW M' (wR s m k w) ∧ mWF M M'
  | 0, k, n, M, w, d, b, h, hn, hw => by
    obtain ⟨n, rfl⟩ : ∃ n', n = n' + 1 := ⟨n - 1, by omega⟩
    have : k = 3 := by omega
    subst this
    rw [f_X7_renderWindows_L12.eq_2, if_pos (show (3 : Int32) ≤ nI 3 by decide), b.1]
    exact ⟨M, rfl, b, mWF.rf⟩
  | m + 1, k, n, M, w, d, b, h, hn, hw => by
    obtain ⟨n, rfl⟩ : ∃ n', n = n' + 1 := ⟨n - 1, by omega⟩
    have hk : k < 3 := by omega
    rw [f_X7_renderWindows_L12.eq_2, if_neg (show ¬ (3 : Int32) ≤ nI k from nI_ge (b := 3) (by omega) (by omega)), show nI k + 1 = nI (k + 1) from nI_1 k]
    unfold wR
    by_cases z : k = 0
    · subst z
      obtain ⟨M3, e3, b3, f3⟩ := m_W d b rn (i := 0) (by decide) (by omega) (fun q => f_X7_renderWindows_L12 n (nI (0 + 1)) q)
      have lw := wV_le (w := w) rn (i := 0) (by decide)
      obtain ⟨M4, e4, b4, f4⟩ := m_rw rn m (0 + 1) n M3 (wV s 0 w) (dH_mWF d f3) b3 (by omega) (by omega) (by omega)
      rw [if_pos (show nI 0 ≤ 0 by decide), if_pos rfl]
      exact ⟨M4, e3.trans e4, b4, f3.tr f4⟩
    · obtain ⟨M0, e0, b0, f0⟩ := m_S b (ch := 32) (by omega)
      have e0 : f_X7_sign (32 : Int32) M = some M0 := e0
      have l0 : (wS 32 w).1 = w.1 + 1 := rfl
      obtain ⟨M3, e3, b3, f3⟩ := m_W (dH_mWF d f0) b0 rn (i := k) hk (by omega) (fun q => f_X7_renderWindows_L12 n (nI (k + 1)) q)
      have lw := wV_le (w := wS 32 w) rn (i := k) hk
      obtain ⟨M4, e4, b4, f4⟩ := m_rw rn m (k + 1) n M3 (wV s k (wS 32 w)) (dH_mWF (dH_mWF d f0) f3) b3 (by omega) (by omega) (by omega)
      rw [if_neg (show ¬ nI k ≤ 0 from nI_ge (a := 0) (by omega) (by omega)), if_neg z, e0, Option.bind_some]
      exact ⟨M4, e3.trans e4, b4, f0.tr (f3.tr f4)⟩
end RW
theorem lc_45 {B : Nat} {M : xM} {sc : Nat → Int32} {L : Nat} {I : Int32} (g : gR B M) (hB : B < 10 ^ 8) : ∃ M', f_law_c45 sc L I M = some M' ∧ gR (B + 400) M' := by
  obtain ⟨s, u, H, sf, sn, ef, fl, Ln, t, O, o, c0, g0, x0, v, vh, vs⟩ := id g
  have rn := aRn_of v hB
  obtain ⟨M1, e1, b1, f1⟩ := c_set0 x0.1.2.2.2
  have c1 := gC_sB (by decide) (by decide) c0 f1
  obtain ⟨M2, e2, b2, f2⟩ := c_rw rn 3 0 4 M1 (0, o) c1 b1 rfl (by decide) (Nat.zero_le _)
  have e2 : f_X6_renderWindows_L10 4 (0 : Int32) M1 = _ := e2
  have d2 : dH (M2.1 10) s (aW s) := by
    rw [(f2.1 10 (by decide) (by decide)).1, (f1.1 10 (by decide) (by decide)).1]
    exact g0.1
  obtain ⟨M3, e3, b3, f3⟩ := m_rw rn 3 0 xF (sI (sI M2 9 9 (0 : Int32)) 9 13 (0 : Int32)) (0, o) (d_0 d2) mW_0 rfl (by rw [xF_2000]; omega) (Nat.zero_le _)
  have e3 : f_X7_renderWindows_L12 xF (0 : Int32) (sI (sI M2 9 9 (0 : Int32)) 9 13 (0 : Int32)) = _ := e3
  unfold f_law_c45 f_X6_renderWindows f_X7_renderWindows
  rw [e1, Option.bind_some, e2, Option.bind_some, x_let_e, x_let_e, e3, Option.bind_some, if_pos rfl]
  exact ⟨M3, rfl, gR_le (gR_W g (f1.tr f2) b2 (mWF_2 f3) b3) (by omega)⟩
