/-! pure: the class's minute, its passing -/
section CW6
variable {h : Nat}
theorem c_fillL {M : xM} {s : hS} {w : Nat} (r : cR h M s) (b : aB s) (hw : w < 3) (h5 : ∀ i, i < 12 → hC s i 5 < 2 ^ 31) : ∀ (m k n : Nat), k + m = s.1 7 → m < n → ∃ M', f_X3_fill_L2 h (h + 3 + 15 + w) M n (nI k) = some M' ∧ cR h M' (match pf (fun k => decide (hC s (hQ s k) 5 ≠ 0)) k m with | some p => aFillAt w p s | none => s) ∧ cF h M M'
  | 0, k, n, e, hn => by
    obtain ⟨n, rfl⟩ : ∃ n', n = n' + 1 := ⟨n - 1, by omega⟩
    have h7 := b.2.1
    unfold f_X3_fill_L2
    rw [r.qn, if_pos (nI_le (by omega) (by omega))]
    exact ⟨M, rfl, r, cF.rf⟩
  | m + 1, k, n, e, hn => by
    obtain ⟨n, rfl⟩ : ∃ n', n = n' + 1 := ⟨n - 1, by omega⟩
    have h7 := b.2.1
    have hc := b.2.2.1 k (by omega)
    have h5c := h5 _ hc
    have b1 := (b.2.2.2.1 w hw).2.1
    unfold f_X3_fill_L2 pf
    simp only [x_let]
    rw [r.qn, if_neg (nI_ge (by omega) (by omega)), if_pos (pi_in12 (by omega)), pi_cl (by omega), r.q (by omega), if_pos (pi_in12 hc), pi_cl (by omega), if_pos (r.ck hc), r.c hc (by decide), pi_add1]
    obtain ⟨d, hd, ed⟩ := r.cc hc
    by_cases g : hC s (hQ s k) 5 = 0
    · rw [if_pos (by rw [pi_z (by omega)]; exact g)]
      obtain ⟨M', h1, h2, h3⟩ := c_fillL r b hw h5 m (k + 1) n (by omega) (by omega)
      rw [h1]
      rw [show (if decide (hC s (hQ s k) 5 ≠ 0) = true then some k else pf (fun k => decide (hC s (hQ s k) 5 ≠ 0)) (k + 1) m) = pf (fun k => decide (hC s (hQ s k) 5 ≠ 0)) (k + 1) m from if_neg (by simp [g])]
      exact ⟨M', rfl, h2, h3⟩
    · rw [if_neg (by rw [pi_z (by omega)]; exact g)]
      rw [show (if decide (hC s (hQ s k) 5 ≠ 0) = true then some k else pf (fun k => decide (hC s (hQ s k) 5 ≠ 0)) (k + 1) m) = some k from if_pos (decide_eq_true g)]
      have r1 := r.uC (i := hQ s k) (f := 6) (v := 0) hc (by omega)
      have f1 : cF h M (sI M (M.2.1 (h + 1) (hQ s k)) 6 (nI 0)) := cF_I (by omega) (by omega)
      rw [pi_0]
      generalize sI M (M.2.1 (h + 1) (hQ s k)) 6 (nI 0) = M1 at r1 f1 ⊢
      rw [r1.q (by omega), if_pos (pi_in12 (by omega)), show hQ (uC s (hQ s k) 6 0) k = hQ s k from rfl]
      have r2 := r1.uWe (w := w) (v := hQ s k + 1) hw
      rw [eI_s] at r2
      have f2 : cF h M1 (sI M1 (h + 3 + 15 + w) 2 (nI (hQ s k))) := cF_I (by omega) (by omega)
      show ∃ M', ((f_X3_takeFromQueue h (nI k) (sI (sI M1 (h + 3 + 15 + w) 2 (nI (hQ s k))) (h + 3 + 15 + w) 3 ((sI M1 (h + 3 + 15 + w) 2 (nI (hQ s k))).1 (h + 3 + 15 + w) 1))).bind fun q13 => some q13) = some M' ∧ _
      generalize sI M1 (h + 3 + 15 + w) 2 (nI (hQ s k)) = M2 at r2 f2 ⊢
      rw [r2.w1 hw, uW_f (by decide), show hW (uC s (hQ s k) 6 0) w 1 = hW s w 1 from rfl]
      have r3 := r2.uWn (w := w) (f := 3) (v := hW s w 1) hw (by decide)
      obtain ⟨M4, g1, g2, g3⟩ := c_take (p := k) r3 (by show k < s.1 7; omega) h7
      rw [g1]
      exact ⟨M4, rfl, g2, (f1.tr f2).tr ((cF_I (by omega) (by omega)).tr g3)⟩
theorem c_fill {M : xM} {s : hS} {w : Nat} (r : cR h M s) (b : aB s) (hw : w < 3) : ∃ M', f_X3_fill h (h + 3 + 15 + w) M = some M' ∧ cR h M' (aFill w s) ∧ cF h M M' := by
  unfold f_X3_fill
  exact c_fillL r b hw (fun i hi => by have := r.b5 hi; omega) (s.1 7) 0 xF (by omega) (by rw [xF_2000]; have := b.2.1; omega)
theorem c_fillsL : ∀ (m w n : Nat) (M : xM) (s : hS), cR h M s → aM s → w + m = 3 → m < n → ∃ M' s', f_X3_passMinute_L41 h n (nI w) M = some M' ∧ cR h M' (u0 s' 1 (s'.1 1 + 1)) ∧ cF h M M' ∧ s' = (if m = 3 then aFillW 2 (aFillW 1 (aFillW 0 s)) else if m = 2 then aFillW 2 (aFillW 1 s) else if m = 1 then aFillW 2 s else s)
  | 0, w, n, M, s, r, i, e, hn => by
    obtain ⟨n, rfl⟩ : ∃ n', n = n' + 1 := ⟨n - 1, by omega⟩
    unfold f_X3_passMinute_L41
    simp only [x_let]
    rw [if_pos (show (3 : Int32) ≤ nI w from nI_le (a := 3) (by omega) (by omega))]
    have e1 := r.sc (j := 1) (by decide)
    rw [show hix 1 = 7 from rfl] at e1
    rw [e1, pi_add1]
    exact ⟨_, s, rfl, r.u0 (j := 1) (by decide), cF_I (by omega) (by omega), rfl⟩
  | m + 1, w, n, M, s, r, i, e, hn => by
    obtain ⟨n, rfl⟩ : ∃ n', n = n' + 1 := ⟨n - 1, by omega⟩
    have hw : w < 3 := by omega
    have step : ∀ t : hS, t = aFillW w s → (if m = 3 then aFillW 2 (aFillW 1 (aFillW 0 t)) else if m = 2 then aFillW 2 (aFillW 1 t) else if m = 1 then aFillW 2 t else t) = (if m + 1 = 3 then aFillW 2 (aFillW 1 (aFillW 0 s)) else if m + 1 = 2 then aFillW 2 (aFillW 1 s) else if m + 1 = 1 then aFillW 2 s else s) := fun t ht => by
      obtain rfl | rfl | rfl : m = 0 ∨ m = 1 ∨ m = 2 := by omega
      · obtain rfl : w = 2 := by omega
        simp [ht]
      · obtain rfl : w = 1 := by omega
        simp [ht]
      · obtain rfl : w = 0 := by omega
        simp [ht]
    have b0 := (i.1.1.2.2.2.1 w hw).1
    have b2 := (i.1.1.2.2.2.1 w hw).2.2.1
    unfold f_X3_passMinute_L41
    rw [if_neg (show ¬ (3 : Int32) ≤ nI w from nI_ge (b := 3) hw (by omega)), if_pos (pi_in3 hw), pi_cl (by omega), if_pos (r.wk hw), c_isOpen (r.w0 hw) (by omega), Option.bind_some, r.w2 hw, pi_add1]
    by_cases g : 0 < hW s w 0
    · rw [if_pos g, if_neg (by decide)]
      by_cases g2 : hW s w 2 = 0
      · rw [if_pos (pi_in3 hw), if_pos (r.wk hw), if_pos (by rw [eI_n (by omega)]; exact g2), if_pos (pi_in3 hw), if_pos (r.wk hw)]
        obtain ⟨M1, h1, r1, f1⟩ := c_fill r i.1.1 hw
        rw [h1, Option.bind_some]
        have et : aFillW w s = aFill w s := if_pos ⟨g, g2⟩
        obtain ⟨M', s', k1, k2, k3, k4⟩ := c_fillsL m (w + 1) n M1 _ r1 (aM_fill i hw g g2) (by omega) (by omega)
        rw [step _ et.symm] at k4
        exact ⟨M', s', k1, k2, f1.tr k3, k4⟩
      · rw [if_pos (pi_in3 hw), if_pos (r.wk hw), if_neg (by rw [eI_n (by omega)]; exact g2)]
        have et : aFillW w s = s := if_neg (fun z => g2 z.2)
        obtain ⟨M', s', k1, k2, k3, k4⟩ := c_fillsL m (w + 1) n M s r i (by omega) (by omega)
        rw [step _ et.symm] at k4
        exact ⟨M', s', k1, k2, k3, k4⟩
    · rw [if_neg g, if_pos rfl]
      have et : aFillW w s = s := if_neg (fun z => g z.1)
      obtain ⟨M', s', k1, k2, k3, k4⟩ := c_fillsL m (w + 1) n M s r i (by omega) (by omega)
      rw [step _ et.symm] at k4
      exact ⟨M', s', k1, k2, k3, k4⟩
theorem c_turnsL : ∀ (m w n : Nat) (M : xM) (s : hS), cR h M s → aM s → w + m = 3 → m < n → ∃ M' s', f_X3_passMinute_L2 h n (nI w) M = some M' ∧ cR h M' (u0 (aFills (aWait s')) 1 ((aFills (aWait s')).1 1 + 1)) ∧ cF h M M' ∧ s' = (if m = 3 then aWorkW 2 (aWorkW 1 (aWorkW 0 s)) else if m = 2 then aWorkW 2 (aWorkW 1 s) else if m = 1 then aWorkW 2 s else s)
  | 0, w, n, M, s, r, i, e, hn => by
    obtain ⟨n, rfl⟩ : ∃ n', n = n' + 1 := ⟨n - 1, by omega⟩
    unfold f_X3_passMinute_L2
    rw [if_pos (show (3 : Int32) ≤ nI w from nI_le (a := 3) (by omega) (by omega))]
    obtain ⟨M1, h1, r1, f1, i1⟩ := c_wait r i.1
    rw [h1, Option.bind_some]
    obtain ⟨M', s', k1, k2, k3, k4⟩ := c_fillsL 3 0 xF M1 _ r1 (aM_wait i) (by omega) (by rw [xF_2000]; omega)
    rw [if_pos rfl] at k4
    subst k4
    exact ⟨M', s, k1, k2, f1.tr k3, rfl⟩
  | m + 1, w, n, M, s, r, i, e, hn => by
    obtain ⟨n, rfl⟩ : ∃ n', n = n' + 1 := ⟨n - 1, by omega⟩
    have hw : w < 3 := by omega
    have step : ∀ t : hS, t = aWorkW w s → (if m = 3 then aWorkW 2 (aWorkW 1 (aWorkW 0 t)) else if m = 2 then aWorkW 2 (aWorkW 1 t) else if m = 1 then aWorkW 2 t else t) = (if m + 1 = 3 then aWorkW 2 (aWorkW 1 (aWorkW 0 s)) else if m + 1 = 2 then aWorkW 2 (aWorkW 1 s) else if m + 1 = 1 then aWorkW 2 s else s) := fun t ht => by
      obtain rfl | rfl | rfl : m = 0 ∨ m = 1 ∨ m = 2 := by omega
      · obtain rfl : w = 2 := by omega
        simp [ht]
      · obtain rfl : w = 1 := by omega
        simp [ht]
      · obtain rfl : w = 0 := by omega
        simp [ht]
    have b0 := (i.1.1.2.2.2.1 w hw).1
    unfold f_X3_passMinute_L2
    rw [if_neg (show ¬ (3 : Int32) ≤ nI w from nI_ge (b := 3) hw (by omega)), if_pos (pi_in3 hw), pi_cl (by omega), if_pos (r.wk hw), c_isOpen (r.w0 hw) (by omega), Option.bind_some, pi_add1]
    by_cases g : 0 < hW s w 0
    · rw [if_pos g, if_neg (by decide), if_pos (pi_in3 hw), if_pos (r.wk hw)]
      obtain ⟨M1, h1, r1, f1⟩ := c_work r i.1.1 hw g (fun z => aK_q12 i.1.2.1 i.1.1 hw z) (fun z => (i.2 w hw).2 z) (i.1.2.1.1.2.2.1 w hw)
      rw [h1, Option.bind_some]
      have et : aWorkW w s = aWork w s := if_pos g
      obtain ⟨M', s', k1, k2, k3, k4⟩ := c_turnsL m (w + 1) n M1 _ r1 (aM_work i hw g) (by omega) (by omega)
      rw [step _ et.symm] at k4
      exact ⟨M', s', k1, k2, f1.tr k3, k4⟩
    · rw [if_neg g, if_pos rfl]
      have et : aWorkW w s = s := if_neg g
      obtain ⟨M', s', k1, k2, k3, k4⟩ := c_turnsL m (w + 1) n M s r i (by omega) (by omega)
      rw [step _ et.symm] at k4
      exact ⟨M', s', k1, k2, k3, k4⟩
theorem c_minute {M : xM} {s : hS} (r : cR h M s) (i : aM s) : ∃ M', f_X3_passMinute h M = some M' ∧ cR h M' (aMinute s) ∧ cF h M M' := by
  unfold f_X3_passMinute
  obtain ⟨M', s', k1, k2, k3, k4⟩ := c_turnsL 3 0 xF M s r i (by omega) (by rw [xF_2000]; omega)
  rw [if_pos rfl] at k4
  subst k4
  exact ⟨M', k1, k2, k3⟩
def aPassL : Nat → hS → hS
  | 0, s => s
  | m + 1, s => aPassL m (aMinute s)
theorem aM_passL : ∀ (m : Nat) (s : hS), aM s → aM (aPassL m s)
  | 0, _, i => i
  | m + 1, s, i => aM_passL m _ (aM_minute i)
theorem c_passL {q d : Nat} (hq : q ≤ 20) : ∀ (m v n : Nat) (M : xM) (s : hS), cR h M s → aM s → v + m = q → m < n → ∃ M', f_X3_pass_L21 h (nI q) (nI d) n (nI v) M = some (nI ((aPassL m s).1 3) - nI d, M') ∧ cR h M' (aPassL m s) ∧ cF h M M'
  | 0, v, n, M, s, r, i, e, hn => by
    obtain ⟨n, rfl⟩ : ∃ n', n = n' + 1 := ⟨n - 1, by omega⟩
    unfold f_X3_pass_L21
    have e3 := r.sc (j := 3) (by decide)
    rw [show hix 3 = 9 from rfl] at e3
    rw [if_pos (nI_le (by omega) (by omega)), e3]
    exact ⟨M, rfl, r, cF.rf⟩
  | m + 1, v, n, M, s, r, i, e, hn => by
    obtain ⟨n, rfl⟩ : ∃ n', n = n' + 1 := ⟨n - 1, by omega⟩
    unfold f_X3_pass_L21
    obtain ⟨M1, h1, r1, f1⟩ := c_minute r i
    rw [if_neg (nI_ge (by omega) (by omega)), h1, Option.bind_some, pi_add1]
    obtain ⟨M', k1, k2, k3⟩ := c_passL hq m (v + 1) n M1 _ r1 (aM_minute i) (by omega) (by omega)
    exact ⟨M', k1, k2, f1.tr k3⟩
theorem c_pass {M : xM} {s : hS} {q : Nat} (r : cR h M s) (i : aM s) (h1 : 1 ≤ q) (h2 : q ≤ 20) : ∃ M', f_X3_pass h (nI q) M = some (nI ((aPassL q s).1 3) - nI (s.1 3), M') ∧ cR h M' (aPassL q s) ∧ cF h M M' := by
  unfold f_X3_pass
  have e3 := r.sc (j := 3) (by decide)
  rw [show hix 3 = 9 from rfl] at e3
  rw [if_neg (show ¬ nI q < (1 : Int32) from nI_nlt (b := 1) h1 (by omega)), if_pos (show nI q ≤ (20 : Int32) from nI_le (b := 20) h2 (by omega)), e3]
  exact c_passL h2 q 0 xF M s r i (by omega) (by rw [xF_2000]; omega)
theorem c_passnt {M : xM} {a : Int32} (ha : ¬ ((1 : Int32) ≤ a ∧ a ≤ (20 : Int32))) : f_X3_pass h a M = some ((-2 : Int32), M) := by
  unfold f_X3_pass
  by_cases g : a < (1 : Int32)
  · rw [if_pos g]
  · rw [if_neg g, if_neg]
    exact fun z => ha ⟨Int32.not_lt.mp g, z⟩
end CW6
