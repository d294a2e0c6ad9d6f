/-! pure: what the class's hall reads -/
section CRD
variable {h : Nat} {M : xM} {s : hS}
theorem xF_2000 : xF = 2000 := rfl
theorem c_has (r : cR h M s) {i : Nat} (hn : s.1 0 ≤ 12) (hi : i < s.1 0) : f_X3_hasCustomer h (nI i) M = some 1 := by
  unfold f_X3_hasCustomer
  rw [if_neg (nI_pos (by omega)), r.n, if_neg (nI_ge hi (by omega))]
theorem c_hasnt (r : cR h M s) {a : Int32} (hn : s.1 0 ≤ 12) (ha : ∀ i, i < s.1 0 → a ≠ nI i) : f_X3_hasCustomer h a M = some 0 := by
  unfold f_X3_hasCustomer
  by_cases h0 : a < 0
  · rw [if_pos h0]
  · rw [if_neg h0, r.n]
    by_cases h1 : nI (s.1 0) ≤ a
    · rw [if_pos h1]
    · exfalso
      rcases pk_ix a (n := s.1 0) (by omega) with h2 | h2 | ⟨j, hj, e⟩
      · exact h0 h2
      · exact h1 h2
      · exact ha j hj e
theorem c_win {w : Nat} (hw : w < 3) : f_X3_hasWindow (nI w) M = some 1 := by
  unfold f_X3_hasWindow
  rw [if_neg (nI_pos (by omega)), if_neg (show ¬ (3 : Int32) ≤ nI w from nI_ge hw (by decide))]
theorem c_winnt {a : Int32} (ha : ∀ i, i < 3 → a ≠ nI i) : f_X3_hasWindow a M = some 0 := by
  unfold f_X3_hasWindow
  by_cases h0 : a < 0
  · rw [if_pos h0]
  · rw [if_neg h0]
    by_cases h1 : (3 : Int32) ≤ a
    · rw [if_pos h1]
    · exfalso
      rcases pk_ix a (n := 3) (by decide) with h2 | h2 | ⟨j, hj, e⟩
      · exact h0 h2
      · exact h1 h2
      · exact ha j hj e
theorem c_posL (r : cR h M s) {c : Nat} (hq : s.1 7 ≤ 12) (hc : c < 2 ^ 31) (hb : ∀ k, k < s.1 7 → hQ s k < 2 ^ 31) : ∀ (m k n : Nat), k + m = s.1 7 → m < n → f_X3_positionOf_L2 h (nI c) M n (nI k) = some (oI (pf (fun k => decide (hQ s k = c)) k m))
  | 0, k, n, e, hn => by
    obtain ⟨n, rfl⟩ : ∃ n', n = n' + 1 := ⟨n - 1, by omega⟩
    unfold f_X3_positionOf_L2
    rw [r.qn, if_pos (nI_le (by omega) (by omega))]
    rfl
  | m + 1, k, n, e, hn => by
    obtain ⟨n, rfl⟩ : ∃ n', n = n' + 1 := ⟨n - 1, by omega⟩
    unfold f_X3_positionOf_L2
    rw [r.qn, if_neg (nI_ge (by omega) (by omega)), if_pos (pi_in12 (by omega)), pi_cl (by omega), r.q (by omega), pi_add1]
    unfold pf
    by_cases g : hQ s k = c
    · rw [if_pos (by rw [g]), if_pos (decide_eq_true g)]
      rfl
    · rw [if_neg (fun z => g ((nI_eq (hb k (by omega)) hc).mp z)), if_neg (by simp [g])]
      exact c_posL r hq hc hb m (k + 1) n (by omega) (by omega)
theorem c_pos (r : cR h M s) {c : Nat} (hq : s.1 7 ≤ 12) (hc : c < 2 ^ 31) (hb : ∀ k, k < s.1 7 → hQ s k < 2 ^ 31) : f_X3_positionOf h (nI c) M = some (oI (pf (fun k => decide (hQ s k = c)) 0 (s.1 7))) := by
  unfold f_X3_positionOf
  exact c_posL r hq hc hb (s.1 7) 0 xF (by omega) (by rw [xF_2000]; omega)
theorem c_wofL (r : cR h M s) {c : Nat} (hc : c < 2 ^ 30) (hb : ∀ w, w < 3 → hW s w 2 < 2 ^ 31) : ∀ (m k n : Nat), k + m = 3 → m < n → f_X3_windowOf_L2 h (nI c) M n (nI k) = some (oI (pf (fun w => decide (hW s w 2 = c + 1)) k m))
  | 0, k, n, e, hn => by
    obtain ⟨n, rfl⟩ : ∃ n', n = n' + 1 := ⟨n - 1, by omega⟩
    unfold f_X3_windowOf_L2
    rw [if_pos (show (3 : Int32) ≤ nI k from nI_le (a := 3) (by omega) (by omega))]
    rfl
  | m + 1, k, n, e, hn => by
    obtain ⟨n, rfl⟩ : ∃ n', n = n' + 1 := ⟨n - 1, by omega⟩
    unfold f_X3_windowOf_L2
    rw [if_neg (show ¬ (3 : Int32) ≤ nI k from nI_ge (b := 3) (by omega) (by omega)), if_pos (pi_in3 (by omega)), pi_cl (by omega), if_pos (r.wk (by omega)), r.w2 (by omega), pi_add1]
    unfold pf
    by_cases g : hW s k 2 = c + 1
    · rw [if_pos (by rw [g, eI_s]), if_pos (decide_eq_true g)]
      rfl
    · rw [if_neg (fun z => g (by rw [eI_eq (hb k (by omega)) (by omega)] at z; exact z)), if_neg (by simp [g])]
      exact c_wofL r hc hb m (k + 1) n (by omega) (by omega)
theorem c_wof (r : cR h M s) {c : Nat} (hc : c < 2 ^ 30) (hb : ∀ w, w < 3 → hW s w 2 < 2 ^ 31) : f_X3_windowOf h (nI c) M = some (oI (pf (fun w => decide (hW s w 2 = c + 1)) 0 3)) := by
  unfold f_X3_windowOf
  exact c_wofL r hc hb 3 0 xF (by omega) (by rw [xF_2000]; omega)
theorem c_tixL (r : cR h M s) {t : Nat} (hn0 : s.1 0 ≤ 12) (ht : t < 2 ^ 31) (hb : ∀ i, i < s.1 0 → hC s i 0 < 2 ^ 31) : ∀ (m k n : Nat), k + m = s.1 0 → m < n → f_X3_customerWithTicket_L2 h (nI t) M n (nI k) = some (oI (pf (fun i => decide (hC s i 0 = t)) k m))
  | 0, k, n, e, hn => by
    obtain ⟨n, rfl⟩ : ∃ n', n = n' + 1 := ⟨n - 1, by omega⟩
    unfold f_X3_customerWithTicket_L2
    rw [r.n, if_pos (nI_le (by omega) (by omega))]
    rfl
  | m + 1, k, n, e, hn => by
    obtain ⟨n, rfl⟩ : ∃ n', n = n' + 1 := ⟨n - 1, by omega⟩
    unfold f_X3_customerWithTicket_L2
    rw [r.n, if_neg (nI_ge (by omega) (by omega)), if_pos (pi_in12 (by omega)), pi_cl (by omega), if_pos (r.ck (by omega)), r.c (by omega) (by decide), pi_add1]
    unfold pf
    by_cases g : hC s k 0 = t
    · rw [if_pos (by rw [g]), if_pos (decide_eq_true g)]
      rfl
    · rw [if_neg (fun z => g ((nI_eq (hb k (by omega)) ht).mp z)), if_neg (by simp [g])]
      exact c_tixL r hn0 ht hb m (k + 1) n (by omega) (by omega)
theorem c_tix (r : cR h M s) {t : Nat} (hn0 : s.1 0 ≤ 12) (ht : t < 2 ^ 31) (hb : ∀ i, i < s.1 0 → hC s i 0 < 2 ^ 31) : f_X3_customerWithTicket h (nI t) M = some (oI (pf (fun i => decide (hC s i 0 = t)) 0 (s.1 0))) := by
  unfold f_X3_customerWithTicket
  exact c_tixL r hn0 ht hb (s.1 0) 0 xF (by omega) (by rw [xF_2000]; omega)
theorem c_isOpen {c o : Nat} (e : M.1 c 0 = nI o) (ho : o < 2 ^ 31) : f_X5_isOpen c M = some (if 0 < o then 1 else 0) := by
  unfold f_X5_isOpen
  rw [e]
  by_cases g : 0 < o
  · rw [if_neg (nI_nle g ho), if_pos g]
  · rw [if_pos (show nI o ≤ (0 : Int32) from nI_le (b := 0) (by omega) (by omega)), if_neg g]
theorem c_openL (r : cR h M s) (hb : ∀ w, w < 3 → hW s w 0 < 2 ^ 31) : ∀ (m k a n : Nat), k + m = 3 → m < n → f_X3_countOpenWindows_L4 h M n (nI a) (nI k) = some (nI (a + pc (fun w => decide (0 < hW s w 0)) k m))
  | 0, k, a, n, e, hn => by
    obtain ⟨n, rfl⟩ : ∃ n', n = n' + 1 := ⟨n - 1, by omega⟩
    unfold f_X3_countOpenWindows_L4
    rw [if_pos (show (3 : Int32) ≤ nI k from nI_le (a := 3) (by omega) (by omega))]
    rfl
  | m + 1, k, a, n, e, hn => by
    obtain ⟨n, rfl⟩ : ∃ n', n = n' + 1 := ⟨n - 1, by omega⟩
    unfold f_X3_countOpenWindows_L4
    rw [if_neg (show ¬ (3 : Int32) ≤ nI k from nI_ge (b := 3) (by omega) (by omega)), if_pos (pi_in3 (by omega)), pi_cl (by omega), if_pos (r.wk (by omega)), c_isOpen (r.w0 (by omega)) (hb k (by omega)), Option.bind_some, pi_add1, pi_add1]
    unfold pc
    by_cases g : 0 < hW s k 0
    · rw [if_pos g, if_neg (by decide), if_pos (decide_eq_true g), c_openL r hb m (k + 1) (a + 1) n (by omega) (by omega), Nat.add_assoc]
    · rw [if_neg g, if_pos rfl, if_neg (by simp [g]), c_openL r hb m (k + 1) a n (by omega) (by omega), Nat.zero_add]
theorem c_open (r : cR h M s) (hb : ∀ w, w < 3 → hW s w 0 < 2 ^ 31) : f_X3_countOpenWindows h M = some (nI (pc (fun w => decide (0 < hW s w 0)) 0 3)) := by
  unfold f_X3_countOpenWindows
  have := c_openL r hb 3 0 0 xF (by omega) (by rw [xF_2000]; omega)
  rw [Nat.zero_add] at this
  exact this
theorem c_sitL (r : cR h M s) (hn0 : s.1 0 ≤ 12) : ∀ (m k a n : Nat), k + m = s.1 0 → m < n → f_X3_countSitting_L4 h M n (nI a) (nI k) = some (nI (a + pc (fun i => decide (hC s i 6 = 1)) k m))
  | 0, k, a, n, e, hn => by
    obtain ⟨n, rfl⟩ : ∃ n', n = n' + 1 := ⟨n - 1, by omega⟩
    unfold f_X3_countSitting_L4
    rw [r.n, if_pos (nI_le (by omega) (by omega))]
    rfl
  | m + 1, k, a, n, e, hn => by
    obtain ⟨n, rfl⟩ : ∃ n', n = n' + 1 := ⟨n - 1, by omega⟩
    unfold f_X3_countSitting_L4
    have b := r.b6 (i := k) (by omega)
    rw [r.n, if_neg (nI_ge (by omega) (by omega)), if_pos (pi_in12 (by omega)), pi_cl (by omega), if_pos (r.ck (by omega)), r.c (by omega) (by decide), pi_add1, pi_add1]
    unfold pc
    by_cases g : hC s k 6 = 1
    · rw [if_neg (by rw [g]; decide), if_pos (decide_eq_true g), c_sitL r hn0 m (k + 1) (a + 1) n (by omega) (by omega), Nat.add_assoc]
    · rw [if_pos (by rw [show hC s k 6 = 0 by omega]; rfl), if_neg (by simp [g]), c_sitL r hn0 m (k + 1) a n (by omega) (by omega), Nat.zero_add]
theorem c_sit (r : cR h M s) (hn0 : s.1 0 ≤ 12) : f_X3_countSitting h M = some (nI (pc (fun i => decide (hC s i 6 = 1)) 0 (s.1 0))) := by
  unfold f_X3_countSitting
  have := c_sitL r hn0 (s.1 0) 0 0 xF (by omega) (by rw [xF_2000]; omega)
  rw [Nat.zero_add] at this
  exact this
end CRD
