/-! pure: numbers written -/
theorem ng_toInt {a : Nat} (h : a < 2 ^ 31) : (-nI a : Int32).toInt = -(a : Int) := by
  rw [Int32.toInt_neg, nI_toInt h]
  exact Int.bmod_eq_of_le (by omega) (by omega)
theorem ng_le {a b : Nat} (ha : a < 2 ^ 31) (hb : b < 2 ^ 31) : ((-nI a : Int32) ≤ -nI b) ↔ (b ≤ a) := by
  rw [Int32.le_iff_toInt_le, ng_toInt ha, ng_toInt hb]
  exact ⟨fun h => by omega, fun h => by omega⟩
theorem ng_lt {a b : Nat} (ha : a < 2 ^ 31) (hb : b < 2 ^ 31) : ((-nI a : Int32) < -nI b) ↔ (b < a) := by
  rw [Int32.lt_iff_toInt_lt, ng_toInt ha, ng_toInt hb]
  exact ⟨fun h => by omega, fun h => by omega⟩
theorem ng_div {a : Nat} (h : a < 2 ^ 31) : (-nI a : Int32) / nI 100 = -nI (a / 100) := by
  apply Int32.toInt_inj.mp
  rw [Int32.toInt_div, ng_toInt h, ng_toInt (by omega), nI_toInt (by omega), Int.neg_tdiv, show ((a : Int).tdiv ((100 : Nat) : Int)) = ((a / 100 : Nat) : Int) from rfl]
  exact Int.bmod_eq_of_le (by omega) (by omega)
theorem ng_mul {a b : Nat} : (-nI a : Int32) * nI b = -nI (a * b) := by rw [Int32.neg_mul, pk_mul]
theorem ng_mul' {a b : Nat} : nI a * (-nI b : Int32) = -nI (a * b) := by rw [Int32.mul_neg, pk_mul]
theorem ng_sub {a b : Nat} (h : a ≤ b) : (-nI a : Int32) - -nI b = nI (b - a) := by
  rw [Int32.sub_neg, Int32.add_comm, ← Int32.sub_eq_add_neg, pi_sub h]
/-- digits of v, from i on -/
def nDf : Nat → Nat → Nat → Nat → Nat
  | 0, i, _, _ => i
  | m + 1, i, p, v => if v < p then i else nDf m (i + 1) (10 * p) v
def nDg (v : Nat) : Nat := nDf 7 1 10 v
theorem nDf_sp {v : Nat} (hv : v < 10 ^ 8) : ∀ (m i : Nat), i + m = 8 → 1 ≤ i → (i ≠ 1 → 10 ^ (i - 1) ≤ v) → v < 10 ^ nDf m i (10 ^ i) v ∧ (nDf m i (10 ^ i) v ≠ 1 → 10 ^ (nDf m i (10 ^ i) v - 1) ≤ v) ∧ 1 ≤ nDf m i (10 ^ i) v ∧ nDf m i (10 ^ i) v ≤ 8
  | 0, i, h, h1, h2 => by
    have : i = 8 := by omega
    subst this
    exact ⟨hv, h2, Nat.le_of_ble_eq_true rfl, Nat.le_refl 8⟩
  | m + 1, i, h, h1, h2 => by
    unfold nDf
    by_cases z : v < 10 ^ i
    · rw [if_pos z]
      exact ⟨z, h2, h1, by omega⟩
    · rw [if_neg z, show 10 * 10 ^ i = 10 ^ (i + 1) by rw [Nat.pow_succ, Nat.mul_comm]]
      exact nDf_sp hv m (i + 1) (by omega) (by omega) (fun _ => by rw [Nat.add_sub_cancel]; omega)
theorem nDg_sp {v : Nat} (hv : v < 10 ^ 8) : v < 10 ^ nDg v ∧ (nDg v ≠ 1 → 10 ^ (nDg v - 1) ≤ v) ∧ 1 ≤ nDg v ∧ nDg v ≤ 8 := nDf_sp hv 7 1 rfl (by decide) (fun h => absurd rfl h)
theorem c_ss {M : xM} {v : Nat} (hv : v < 10 ^ 8) : ∀ (m i n : Nat), i + m = 8 → m < n → f_J6_stringSize_0f7a4_L16 (-nI v) (0 : Int32) M n (-nI (10 ^ i)) (nI i) = some (nI (nDf m i (10 ^ i) v))
  | 0, i, n, h, hn => by
    obtain ⟨n, rfl⟩ : ∃ n', n = n' + 1 := ⟨n - 1, by omega⟩
    have : i = 8 := by omega
    subst this
    rw [f_J6_stringSize_0f7a4_L16.eq_2, show (10 : Int32) = nI 10 from rfl, if_neg (nI_ge (by omega) (by omega)), if_neg (fun x => by have := (ng_le (by omega) (by decide)).mp x; omega)]
    rfl
  | m + 1, i, n, h, hn => by
    obtain ⟨n, rfl⟩ : ∃ n', n = n' + 1 := ⟨n - 1, by omega⟩
    have hp : 10 ^ i ≤ 10 ^ 7 := Nat.pow_le_pow_right (by decide) (by omega)
    rw [f_J6_stringSize_0f7a4_L16.eq_2, show (10 : Int32) = nI 10 from rfl, if_neg (nI_ge (by omega) (by omega))]
    unfold nDf
    by_cases z : v < 10 ^ i
    · rw [if_neg (fun x => by have := (ng_le (by omega) (by omega)).mp x; omega), if_pos z, pi_0, nI_add]
      rfl
    · rw [if_pos ((ng_le (by omega) (by omega)).mpr (by omega)), if_neg z, ng_mul', pi_1, nI_add, show 10 * 10 ^ i = 10 ^ (i + 1) by rw [Nat.pow_succ, Nat.mul_comm]]
      exact c_ss hv m (i + 1) n (by omega) (by omega)
theorem dg_2 {v p : Nat} : v / 100 / 10 ^ p = v / 10 ^ (p + 2) := by
  rw [Nat.div_div_eq_div_mul, Nat.pow_add, Nat.mul_comm]
theorem mG_21 {M : xM} {c : Nat} {g : Nat → Int32} : (mG M c g).2.1 = M.2.1 := rfl
theorem c_gc {a : Nat} : ∀ (d v e n : Nat) (M : xM), d < n → 1 ≤ d → d ≤ e → e ≤ M.2.1 a 1 → M.2.1 a 1 ≤ 142 → v < 10 ^ 8 → v < 10 ^ d → (d ≠ 1 → 10 ^ (d - 1) ≤ v) → ∃ g, f_J6_getChars_ba4f3_L22 a (0 : Int32) n (-nI v) (nI e) M = some (nI (e - d), mG M a g) ∧ (∀ j, e - d ≤ j → j < e → g j = nI (48 + v / 10 ^ (e - 1 - j) % 10)) ∧ (∀ j, (j < e - d ∨ e ≤ j) → g j = M.1 a j)
  | 0, v, e, n, M, hn, h1, _, _, _, _, _, _ => by omega
  | 1, v, e, n, M, hn, h1, he, hc, hc2, hv, h2, h3 => by
    obtain ⟨n, rfl⟩ : ∃ n', n = n' + 1 := ⟨n - 1, by omega⟩
    have h9 : v < 10 := h2
    have q1 : x_in (nI v) 100 = true := pi_in (by omega) (by decide)
    have q2 : x_in (nI (e - 1)) (M.2.1 a 1) = true := pi_in (by omega) (by omega)
    rw [f_J6_getChars_ba4f3_L22.eq_2, show (-100 : Int32) = -nI 100 from rfl, show (-9 : Int32) = -nI 9 from rfl, Int32.neg_neg, if_pos ((ng_lt (by decide) (by omega)).mpr (by omega)), if_pos q1, pi_m1 (by omega), if_pos q2, x_let_e, if_pos ((ng_le (by decide) (by omega)).mpr (by omega)), if_pos (show (0 : Int32) = 0 from rfl), pi_cl (by omega), pi_cl (by omega), mG_i]
    refine ⟨_, rfl, fun j j1 j2 => ?_, fun j hj => ?_⟩
    · have : j = e - 1 := by omega
      subst this
      rw [pk_us, Nat.sub_self, Nat.pow_zero, Nat.div_one]
      exact nar_b _ (by omega)
    · rw [pk_un (by omega)]
  | 2, v, e, n, M, hn, h1, he, hc, hc2, hv, h2, h3 => by
    obtain ⟨n, rfl⟩ : ∃ n', n = n' + 1 := ⟨n - 1, by omega⟩
    have h9 : v < 100 := h2
    have h10 : 10 ≤ v := h3 (by decide)
    have q1 : x_in (nI v) 100 = true := pi_in (by omega) (by decide)
    have q2 : x_in (nI (e - 1)) (M.2.1 a 1) = true := pi_in (by omega) (by omega)
    have q3 : x_in (nI (e - 1 - 1)) (M.2.1 a 1) = true := pi_in (by omega) (by omega)
    rw [f_J6_getChars_ba4f3_L22.eq_2, show (-100 : Int32) = -nI 100 from rfl, show (-9 : Int32) = -nI 9 from rfl, Int32.neg_neg, if_pos ((ng_lt (by decide) (by omega)).mpr (by omega)), if_pos q1, pi_m1 (by omega), if_pos q2, x_let_e, if_neg (fun x => by have := (ng_le (by decide) (by omega)).mp x; omega), if_pos q1, pi_m1 (by omega), sI_2, if_pos q3, x_let_e, if_pos (show (0 : Int32) = 0 from rfl), pi_cl (by omega), pi_cl (by omega), pi_cl (by omega), mG_i, mG_i, mG_g, mG_s]
    refine ⟨_, rfl, fun j j1 j2 => ?_, fun j hj => ?_⟩
    · by_cases y : j = e - 1
      · subst y
        rw [pk_un (by omega), pk_us, Nat.sub_self, Nat.pow_zero, Nat.div_one]
        exact nar_b _ (by omega)
      · have : j = e - 1 - 1 := by omega
        subst this
        rw [pk_us, show e - 1 - (e - 1 - 1) = 1 by omega, Nat.pow_one, Nat.mod_eq_of_lt (show v / 10 < 10 by omega)]
        exact nar_b _ (by omega)
    · rw [pk_un (by omega), pk_un (by omega)]
  | d + 3, v, e, n, M, hn, h1, he, hc, hc2, hv, h2, h3 => by
    obtain ⟨n, rfl⟩ : ∃ n', n = n' + 1 := ⟨n - 1, by omega⟩
    have h3' : 10 ^ (d + 2) ≤ v := h3 (by omega)
    have pp : 0 < 10 ^ d := Nat.pow_pos (by decide)
    have e1 : 10 ^ (d + 2) = 100 * 10 ^ d := by rw [Nat.pow_add, Nat.mul_comm]
    have e2 : 10 ^ (d + 1) = 10 * 10 ^ d := by rw [Nat.pow_succ, Nat.mul_comm]
    have e3 : 10 ^ (d + 3) = 1000 * 10 ^ d := by rw [Nat.pow_add, Nat.mul_comm]
    rw [e1] at h3'
    rw [e3] at h2
    have h100 : 100 ≤ v := by omega
    have q1 : x_in (nI (v % 100)) 100 = true := pi_in (by omega) (by decide)
    have q2 : x_in (nI (e - 1)) (M.2.1 a 1) = true := pi_in (by omega) (by omega)
    have q3 : x_in (nI (e - 1 - 1)) (M.2.1 a 1) = true := pi_in (by omega) (by omega)
    have er : v - v / 100 * 100 = v % 100 := by omega
    rw [f_J6_getChars_ba4f3_L22.eq_2, show (-100 : Int32) = -nI 100 from rfl, show (100 : Int32) = nI 100 from rfl, if_neg (fun x => by have := (ng_lt (by decide) (by omega)).mp x; omega), ng_div (by omega), ng_mul, ng_sub (by omega), er, if_pos q1, pi_m1 (by omega), if_pos q2, x_let_e, if_pos q1, pi_m1 (by omega), sI_2, if_pos q3, x_let_e, pi_cl (by omega), pi_cl (by omega), pi_cl (by omega), mG_i, mG_i, mG_g, mG_s]
    obtain ⟨g, f1, f2, f3⟩ := c_gc (d + 1) (v / 100) (e - 1 - 1) n (mG M a (upd (upd (M.1 a) (e - 1) (vp_nar .byte (xDO (v % 100)))) (e - 1 - 1) (vp_nar .byte (xDT (v % 100))))) (by omega) (by omega) (by omega) (by rw [mG_21]; omega) hc2 (by omega) (by rw [e2]; omega) (fun _ => by rw [Nat.add_sub_cancel]; omega)
    rw [mG_g] at f1
    refine ⟨g, by rw [f1, show e - 1 - 1 - (d + 1) = e - (d + 3) by omega], fun j j1 j2 => ?_, fun j hj => ?_⟩
    · by_cases y : j = e - 1
      · subst y
        rw [f3 _ (by omega), mG_s, pk_un (by omega), pk_us, Nat.sub_self, Nat.pow_zero, Nat.div_one]
        refine (nar_b _ (by omega)).trans ?_
        exact congrArg nI (by omega)
      · by_cases y2 : j = e - 1 - 1
        · subst y2
          rw [f3 _ (by omega), mG_s, pk_us, show e - 1 - (e - 1 - 1) = 1 by omega, Nat.pow_one]
          refine (nar_b _ (by omega)).trans ?_
          exact congrArg nI (by omega)
        · rw [f2 j (by omega) (by omega), dg_2, show e - 1 - 1 - 1 - j + 2 = e - 1 - j by omega]
    · rw [f3 j (by omega), mG_s, pk_un (by omega), pk_un (by omega)]
