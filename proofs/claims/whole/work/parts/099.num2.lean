/-! pure: a number appended on both sides -/
/-- a text: how many signs, which -/
abbrev wT : Type := Nat × (Nat → Nat)
def wS (ch : Nat) (w : wT) : wT := (w.1 + 1, va_up w.2 w.1 ch)
def wN (v : Nat) (w : wT) : wT := (w.1 + nDg v, fun j => if w.1 ≤ j then 48 + v / 10 ^ (w.1 + nDg v - 1 - j) % 10 else w.2 j)
def cW (M : xM) (w : wT) : Prop := sB 6 M w.1 w.2
def mW (M : xM) (w : wT) : Prop := M.1 9 13 = nI w.1 ∧ ∀ j, j < w.1 → M.1 16 j = nI (w.2 j)
/-- nothing but the model's line is anew -/
def mWF (M M' : xM) : Prop := M'.2 = M.2 ∧ (∀ c, c ≠ 9 → c ≠ 16 → M'.1 c = M.1 c) ∧ (∀ k, k ≠ 13 → M'.1 9 k = M.1 9 k)
theorem mWF.rf {M : xM} : mWF M M := ⟨rfl, fun _ _ _ => rfl, fun _ _ => rfl⟩
theorem mWF.tr {M M' M'' : xM} (a : mWF M M') (b : mWF M' M'') : mWF M M'' := ⟨b.1.trans a.1, fun c h h2 => (b.2.1 c h h2).trans (a.2.1 c h h2), fun k h => (b.2.2 k h).trans (a.2.2 k h)⟩
section WR
variable {M : xM} {w : wT}
theorem c_S (b : cW M w) {ch : Nat} (hch : ch < 128) (hL : w.1 < 142) : ∃ M', f_J4_append_cf468 6 (nI ch) M = some M' ∧ cW M' (wS ch w) ∧ sBF 6 M M' := c_appc b hch hL
theorem c_N (b : cW M w) {v : Nat} (hv : v < 10 ^ 8) (hL : w.1 + nDg v ≤ 142) : ∃ M', f_J4_append_bf812 6 (nI v) M = some M' ∧ cW M' (wN v w) ∧ sBF 6 M M' := by
  obtain ⟨d1, d2, d3, d4⟩ := nDg_sp hv
  obtain ⟨M1, e1, b', hc, f1⟩ := c_ens b (m := w.1 + nDg v) (by omega) (by omega)
  obtain ⟨b1, b2, b3, b4, b5, b6⟩ := id b'
  have es : f_J6_stringSize_0f7a4 (nI v) M = some (nI (nDg v)) := by
    unfold f_J6_stringSize_0f7a4
    rw [if_neg (show ¬ nI v < 0 from nI_nlt (b := 0) (by omega) (by omega))]
    exact c_ss hv 7 1 xF rfl (by rw [xF_2000]; omega)
  unfold f_J4_append_bf812 f_J5_append_c97b9
  rw [es, Option.bind_some, b.2.1, nI_add, e1, Option.bind_some]
  unfold f_J5_isLatin1_aae02 f_J6_getChars_ba4f3
  rw [b1, if_neg (show ¬ (1 : Int32) = 0 by decide), if_pos (show nI 0 = 0 from rfl), Option.bind_some, if_neg (show ¬ (1 : Int32) = 0 by decide), if_pos (show (0 : Int32) ≤ nI v from nI_le (a := 0) (by omega) (by omega)), if_pos (show (0 : Int32) = 0 from rfl)]
  have h142 : M1.2.1 7 1 ≤ 142 := by
    have b4 : M1.2.1 7 1 = 16 ∨ M1.2.1 7 1 = 34 ∨ M1.2.1 7 1 = 70 ∨ M1.2.1 7 1 = 142 := b4
    omega
  have hc : w.1 + nDg v ≤ M1.2.1 7 1 := hc
  obtain ⟨g, g1, g2, g3⟩ := c_gc (a := 7) (nDg v) v (w.1 + nDg v) xF M1 (by rw [xF_2000]; omega) d3 (by omega) hc h142 hv d1 d2
  have g1 : f_J6_getChars_ba4f3_L22 (6 + 1) 0 xF (-nI v) (nI (w.1 + nDg v)) M1 = _ := g1
  rw [g1, Option.bind_some, x_let_e, Option.bind_some]
  rw [Nat.add_sub_cancel] at g2 g3
  refine ⟨_, rfl, ⟨?_, ?_, fun j hj => ?_, b4, hc, fun j hj => ?_⟩, f1.tr (sBF_G.tr (sBF_I (.inl rfl)))⟩
  · rw [sI_k (by decide)]
    show va_up M1.1 7 g 6 1 = _
    rw [va_up_ne _ _ (by decide)]; exact b1
  · rw [sI_s]; rfl
  · rw [sI_c (by decide)]
    show va_up M1.1 7 g 7 j = _ ∧ _
    rw [va_up_self]
    have hj : j < w.1 + nDg v := hj
    show g j = nI (if w.1 ≤ j then 48 + v / 10 ^ (w.1 + nDg v - 1 - j) % 10 else w.2 j) ∧ (if w.1 ≤ j then 48 + v / 10 ^ (w.1 + nDg v - 1 - j) % 10 else w.2 j) < 128
    by_cases z : w.1 ≤ j
    · rw [if_pos z]
      exact ⟨g2 j z hj, by have := Nat.mod_lt (v / 10 ^ (w.1 + nDg v - 1 - j)) (show 0 < 10 by decide); omega⟩
    · rw [if_neg z, g3 j (by omega)]
      exact b3 j (by omega)
  · rw [sI_c (by decide)]
    show vp_nar .byte (va_up M1.1 7 g 7 j) = va_up M1.1 7 g 7 j
    rw [va_up_self]
    have hj : j < M1.2.1 7 1 := hj
    by_cases z : w.1 ≤ j ∧ j < w.1 + nDg v
    · rw [g2 j z.1 z.2]
      exact nar_b _ (by have := Nat.mod_lt (v / 10 ^ (w.1 + nDg v - 1 - j)) (show 0 < 10 by decide); omega)
    · rw [g3 j (by omega)]
      exact b6 j hj
theorem m_S (b : mW M w) {ch : Nat} (hL : w.1 < 160) : ∃ M', f_X7_sign (nI ch) M = some M' ∧ mW M' (wS ch w) ∧ mWF M M' := by
  unfold f_X7_sign
  rw [b.1, if_pos (pi_in hL (by decide)), x_let_e, pi_cl (by omega), sI_c (by decide), b.1, x_let_e, pi_1, nI_add]
  refine ⟨_, rfl, ⟨sI_s, fun j hj => ?_⟩, rfl, fun c h1 h2 => by rw [sI_c h1, sI_c h2], fun k hk => by rw [sI_k hk, sI_c (by decide)]⟩
  rw [sI_c (by decide)]
  show _ = nI (va_up w.2 w.1 ch j)
  have hj : j < w.1 + 1 := hj
  by_cases z : j = w.1
  · rw [z, sI_s, va_up_self]
  · rw [sI_k z, va_up_ne _ _ z]
    exact b.2 j (by omega)
theorem m_N1 {v : Nat} (hv : v < 10 ^ 8) : ∀ (k n : Nat) (M : xM) (w : wT), k < 9 → k + 1 < n → mW M w → w.1 + k < 160 → ∃ M', f_X7_writesNumber_L18 (nI v) n (nI (10 ^ k)) M = some M' ∧ mW M' (w.1 + k + 1, fun j => if w.1 ≤ j then 48 + v / 10 ^ (w.1 + k - j) % 10 else w.2 j) ∧ mWF M M'
  | 0, n, M, w, hk, hn, b, hL => by
    obtain ⟨n, rfl⟩ : ∃ n', n = n' + 2 := ⟨n - 2, by omega⟩
    obtain ⟨M1, e1, b1, f1⟩ := m_S b (ch := 48 + v % 10) (by omega)
    rw [f_X7_writesNumber_L18.eq_2, if_neg (show ¬ nI (10 ^ 0) ≤ 0 by decide), if_pos (show ¬ nI (10 ^ 0) = 0 by decide), show (10 : Int32) = nI 10 from rfl, show (48 : Int32) = nI 48 from rfl, pk_div (by omega) (by decide) (by decide), Nat.pow_zero, Nat.div_one, pk_rem (by omega) (by decide) (by decide), nI_add, e1, Option.bind_some, f_X7_writesNumber_L18.eq_2, if_pos (show nI 1 / nI 10 ≤ 0 by decide)]
    refine ⟨M1, rfl, ⟨b1.1, fun j hj => ?_⟩, f1⟩
    rw [b1.2 j hj]
    have hj : j < w.1 + 1 := hj
    show nI (va_up w.2 w.1 (48 + v % 10) j) = nI (if w.1 ≤ j then 48 + v / 10 ^ (w.1 + 0 - j) % 10 else w.2 j)
    by_cases z : j = w.1
    · rw [z, va_up_self, if_pos (Nat.le_refl _), Nat.add_zero, Nat.sub_self, Nat.pow_zero, Nat.div_one]
    · rw [va_up_ne _ _ z, if_neg (by omega)]
  | k + 1, n, M, w, hk, hn, b, hL => by
    obtain ⟨n, rfl⟩ : ∃ n', n = n' + 1 := ⟨n - 1, by omega⟩
    obtain ⟨M1, e1, b1, f1⟩ := m_S b (ch := 48 + v / 10 ^ (k + 1) % 10) (by omega)
    have hp : 10 ^ (k + 1) ≤ 10 ^ 8 := Nat.pow_le_pow_right (by decide) (by omega)
    have hp0 : 0 < 10 ^ (k + 1) := Nat.pow_pos (by decide)
    have hd : v / 10 ^ (k + 1) ≤ v := Nat.div_le_self _ _
    obtain ⟨M2, e2, b2, f2⟩ := m_N1 hv k n M1 (wS (48 + v / 10 ^ (k + 1) % 10) w) (by omega) (by omega) b1 (by show w.1 + 1 + k < 160; omega)
    rw [f_X7_writesNumber_L18.eq_2, if_neg (show ¬ nI (10 ^ (k + 1)) ≤ 0 from nI_ge (a := 0) (by omega) (by omega)), if_pos (show ¬ nI (10 ^ (k + 1)) = 0 from fun x => by have := (nI_eq (b := 0) (by omega) (by omega)).mp x; omega), show (10 : Int32) = nI 10 from rfl, show (48 : Int32) = nI 48 from rfl, pk_div (by omega) (by omega) (by omega), pk_rem (by omega) (by decide) (by decide), nI_add, e1, Option.bind_some, pk_div (by omega) (by decide) (by decide), show 10 ^ (k + 1) / 10 = 10 ^ k by rw [Nat.pow_succ, Nat.mul_div_cancel _ (by decide)]]
    refine ⟨M2, e2, ⟨b2.1.trans (congrArg nI (show w.1 + 1 + k + 1 = w.1 + (k + 1) + 1 by omega)), fun j hj => ?_⟩, f1.tr f2⟩
    have hj : j < w.1 + (k + 1) + 1 := hj
    rw [b2.2 j (show j < w.1 + 1 + k + 1 by omega)]
    show nI (if w.1 + 1 ≤ j then 48 + v / 10 ^ (w.1 + 1 + k - j) % 10 else va_up w.2 w.1 (48 + v / 10 ^ (k + 1) % 10) j) = nI (if w.1 ≤ j then 48 + v / 10 ^ (w.1 + (k + 1) - j) % 10 else w.2 j)
    by_cases z : w.1 + 1 ≤ j
    · rw [if_pos z, if_pos (by omega), show w.1 + 1 + k - j = w.1 + (k + 1) - j by omega]
    · rw [if_neg z]
      by_cases y : j = w.1
      · rw [y, va_up_self, if_pos (Nat.le_refl _), Nat.add_sub_cancel_left]
      · rw [va_up_ne _ _ y, if_neg (by omega)]
theorem m_N2 {v : Nat} (hv : v < 10 ^ 8) : ∀ (m i n : Nat), i + 1 + m = 8 → m < n → f_X7_writesNumber_L2 (nI v) M n (nI (10 ^ i)) = f_X7_writesNumber_L18 (nI v) xF (nI (10 ^ (nDf m (i + 1) (10 ^ (i + 1)) v - 1))) M
  | 0, i, n, h, hn => by
    obtain ⟨n, rfl⟩ : ∃ n', n = n' + 1 := ⟨n - 1, by omega⟩
    have : i = 7 := by omega
    subst this
    rw [f_X7_writesNumber_L2.eq_2, if_pos (show ¬ nI (10 ^ 7) = 0 by decide), show (9 : Int32) = nI 9 from rfl, pk_div (by omega) (by decide) (by decide), if_pos (nI_le (show v / 10 ^ 7 ≤ 9 by omega) (by omega))]
    rfl
  | m + 1, i, n, h, hn => by
    obtain ⟨n, rfl⟩ : ∃ n', n = n' + 1 := ⟨n - 1, by omega⟩
    have hp : 10 ^ i ≤ 10 ^ 7 := Nat.pow_le_pow_right (by decide) (by omega)
    have hp0 : 0 < 10 ^ i := Nat.pow_pos (by decide)
    have hd : v / 10 ^ i ≤ v := Nat.div_le_self _ _
    have e10 : 10 ^ (i + 1) = 10 * 10 ^ i := by rw [Nat.pow_succ, Nat.mul_comm]
    rw [f_X7_writesNumber_L2.eq_2, if_pos (show ¬ nI (10 ^ i) = 0 from fun x => by have := (nI_eq (b := 0) (by omega) (by omega)).mp x; omega), show (9 : Int32) = nI 9 from rfl, pk_div (by omega) (by omega) (by omega)]
    unfold nDf
    by_cases z : v < 10 ^ (i + 1)
    · have z2 : v / 10 ^ i < 10 := (Nat.div_lt_iff_lt_mul hp0).mpr (by omega)
      rw [if_pos (nI_le (by omega) (by omega)), if_pos z, Nat.add_sub_cancel]
    · have z2 : 10 ≤ v / 10 ^ i := (Nat.le_div_iff_mul_le hp0).mpr (by omega)
      rw [if_neg (nI_ge (by omega) (by omega)), if_neg z, show (10 : Int32) = nI 10 from rfl, pk_mul, ← Nat.pow_succ, show 10 * 10 ^ (i + 1) = 10 ^ (i + 1 + 1) by rw [Nat.pow_succ 10 (i + 1), Nat.mul_comm]]
      exact m_N2 hv m (i + 1) n (by omega) (by omega)
theorem m_N (b : mW M w) {v : Nat} (hv : v < 10 ^ 8) (hL : w.1 + nDg v ≤ 142) : ∃ M', f_X7_writesNumber (nI v) M = some M' ∧ mW M' (wN v w) ∧ mWF M M' := by
  obtain ⟨d1, d2, d3, d4⟩ := nDg_sp hv
  unfold f_X7_writesNumber
  have e1 : f_X7_writesNumber_L2 (nI v) M xF (1 : Int32) = f_X7_writesNumber_L18 (nI v) xF (nI (10 ^ (nDg v - 1))) M := m_N2 hv 7 0 xF rfl (by rw [xF_2000]; omega)
  rw [e1]
  obtain ⟨M1, e2, b1, f1⟩ := m_N1 hv (nDg v - 1) xF M w (by omega) (by rw [xF_2000]; omega) b (by omega)
  refine ⟨M1, e2, ⟨b1.1.trans (congrArg nI (show w.1 + (nDg v - 1) + 1 = w.1 + nDg v by omega)), fun j hj => ?_⟩, f1⟩
  have hj : j < w.1 + nDg v := hj
  rw [b1.2 j (show j < w.1 + (nDg v - 1) + 1 by omega)]
  show nI (if w.1 ≤ j then 48 + v / 10 ^ (w.1 + (nDg v - 1) - j) % 10 else w.2 j) = nI (if w.1 ≤ j then 48 + v / 10 ^ (w.1 + nDg v - 1 - j) % 10 else w.2 j)
  rw [show w.1 + (nDg v - 1) - j = w.1 + nDg v - 1 - j by omega]
end WR
