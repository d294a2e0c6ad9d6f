/-! pure: the class's commands -/
def aArrive (p : Nat) (s : hS) : hS := uC (uC (uC (uC (uC (uC (uC (u0 s 2 (s.1 2 + 1)) (s.1 0) 0 (s.1 2 + 1)) (s.1 0) 1 p) (s.1 0) 2 0) (s.1 0) 3 0) (s.1 0) 4 0) (s.1 0) 5 0) (s.1 0) 6 0
theorem aArrive_n {s : hS} {p j : Nat} (h : j ≠ 2) : (aArrive p s).1 j = s.1 j := by
  show va_up s.1 2 (s.1 2 + 1) j = _
  exact va_up_ne _ _ h
def aAdmit (p : Nat) (s : hS) : hS := u0 (u0 (uQ (aArrive p s) (s.1 7) (s.1 0)) 7 (s.1 7 + 1)) 0 (s.1 0 + 1)
def aOpens (s : hS) : Nat := pc (fun w => decide (0 < hW s w 0)) 0 3
def aSits (s : hS) : Nat := pc (fun i => decide (hC s i 6 ≠ 0)) 0 (s.1 0)
section COP
variable {h : Nat}
theorem pi_rng {a : Int32} {lo hi : Nat} (hh : hi < 2 ^ 31) (h1 : ¬ a < nI lo) (h2 : ¬ nI hi < a) (hl : lo ≤ hi) : ∃ n, a = nI n ∧ lo ≤ n ∧ n ≤ hi := by
  have e1 : lo ≤ a.toInt := by
    rw [Int32.lt_iff_toInt_lt, nI_toInt (by omega)] at h1
    omega
  have e2 : a.toInt ≤ hi := by
    rw [Int32.lt_iff_toInt_lt, nI_toInt hh] at h2
    omega
  refine ⟨a.toInt.toNat, ?_, by omega, by omega⟩
  apply Int32.toInt.inj
  rw [nI_toInt (by omega)]
  omega
theorem c_arrive {M : xM} {s : hS} {p : Nat} (r : cR h M s) (hn : s.1 0 < 12) : ∃ M', x_let (sI M h 8 ((M.1 h 8) + (1 : Int32))) (fun M5 => f_X2_arrive (M5.2.1 (h + 1) (s.1 0)) (M5.1 h 8) (nI p) M5) = some M' ∧ cR h M' (aArrive p s) ∧ cF h M M' := by
  simp only [x_let]
  have e8 := r.sc (j := 2) (by decide)
  rw [show hix 2 = 8 from rfl] at e8
  rw [e8, pi_add1, sI_s]
  have r0 := r.u0 (j := 2) (v := s.1 2 + 1) (by decide)
  rw [show hix 2 = 8 from rfl] at r0
  have f0 : cF h M (sI M h 8 (nI (s.1 2 + 1))) := cF_I (by omega) (by omega)
  generalize sI M h 8 (nI (s.1 2 + 1)) = M0 at r0 f0 ⊢
  obtain ⟨d, hd, ed⟩ := r0.cc hn
  unfold f_X2_arrive
  simp only [x_let]
  have r1 := r0.uC (i := s.1 0) (f := 0) (v := s.1 2 + 1) hn (by omega)
  have r2 := r1.uC (i := s.1 0) (f := 1) (v := p) hn (by omega)
  have r3 := r2.uC (i := s.1 0) (f := 2) (v := 0) hn (by omega)
  have r4 := r3.uC (i := s.1 0) (f := 3) (v := 0) hn (by omega)
  have r5 := r4.uC (i := s.1 0) (f := 4) (v := 0) hn (by omega)
  have r6 := r5.uC (i := s.1 0) (f := 5) (v := 0) hn (by omega)
  have r7 := r6.uC (i := s.1 0) (f := 6) (v := 0) hn (by omega)
  have g : ∀ (X : xM) (k : Nat) (v : Int32), cF h X (sI X (M0.2.1 (h + 1) (s.1 0)) k v) := fun X k v => cF_I (by omega) (by omega)
  exact ⟨_, rfl, r7, f0.tr ((g _ _ _).tr ((g _ _ _).tr ((g _ _ _).tr ((g _ _ _).tr ((g _ _ _).tr ((g _ _ _).tr (g _ _ _)))))))⟩
theorem c_admit {M : xM} {s : hS} {p : Nat} (r : cR h M s) (hn : s.1 0 < 12) (hq : s.1 7 < 12) (h1 : 1 ≤ p) (h2 : p ≤ 30) : ∃ M', f_X3_admit h (nI p) M = some (nI (s.1 0), M') ∧ cR h M' (aAdmit p s) ∧ cF h M M' := by
  unfold f_X3_admit
  rw [if_neg (show ¬ nI p < (1 : Int32) from nI_nlt (b := 1) h1 (by omega)), if_pos (show nI p ≤ (30 : Int32) from nI_le (b := 30) h2 (by omega)), r.n, if_neg (show ¬ (12 : Int32) ≤ nI (s.1 0) from nI_ge (b := 12) hn (by omega)), r.qn, if_pos (show nI (s.1 7) < (12 : Int32) from nI_lt (b := 12) hq (by omega))]
  obtain ⟨M1, g1, r1, f1⟩ := c_arrive (p := p) r hn
  simp only [x_let] at g1 ⊢
  have e0 : (sI M h 8 (M.1 h 8 + 1)).1 h 1 = nI (s.1 0) := by rw [sI_k (by decide)]; exact r.n
  rw [e0, if_pos (pi_in12 hn), pi_cl (by omega), if_pos (show xkd ((sI M h 8 (M.1 h 8 + 1)).2.1 (h + 1) (s.1 0)) = 4 from r.ck hn), g1, Option.bind_some, r1.n, r1.qn, aArrive_n (by decide), if_pos (pi_in12 hq), pi_cl (by omega), aArrive_n (by decide)]
  have r2 := r1.uQ (k := s.1 7) (v := s.1 0)
  have f2 : cF h M1 (sI M1 (h + 2) (s.1 7) (nI (s.1 0))) := cF_I (by omega) (by omega)
  generalize sI M1 (h + 2) (s.1 7) (nI (s.1 0)) = M2 at r2 f2 ⊢
  rw [r2.qn, show (uQ (aArrive p s) (s.1 7) (s.1 0)).1 7 = s.1 7 from aArrive_n (s := s) (p := p) (j := 7) (by decide), pi_add1]
  have r3 := r2.u0 (j := 7) (v := s.1 7 + 1) (by decide)
  have f3 : cF h M2 (sI M2 h 3 (nI (s.1 7 + 1))) := cF_I (by omega) (by omega)
  rw [show hix 7 = 3 from rfl] at r3
  generalize sI M2 h 3 (nI (s.1 7 + 1)) = M3 at r3 f3 ⊢
  rw [r3.n, u0_n (by decide), show (uQ (aArrive p s) (s.1 7) (s.1 0)).1 0 = s.1 0 from aArrive_n (s := s) (p := p) (j := 0) (by decide), pi_add1]
  have r4 := r3.u0 (j := 0) (v := s.1 0 + 1) (by decide)
  rw [show hix 0 = 1 from rfl] at r4
  rw [sI_s, pi_sub1 (by omega), Nat.add_sub_cancel]
  exact ⟨_, rfl, r4, (f1.tr f2).tr (f3.tr (cF_I (by omega) (by omega)))⟩
theorem c_admit2 {M : xM} {a : Int32} (h1 : a < (1 : Int32) ∨ (30 : Int32) < a) : f_X3_admit h a M = some (-2, M) := by
  unfold f_X3_admit
  by_cases g : a < (1 : Int32)
  · rw [if_pos g]
  · rw [if_neg g, if_neg (Int32.not_le.mpr (h1.resolve_left g))]
theorem c_admit3 {M : xM} {s : hS} {a : Int32} (r : cR h M s) (h1 : ¬ (a < (1 : Int32) ∨ (30 : Int32) < a)) (hn : s.1 0 = 12) : f_X3_admit h a M = some (-3, M) := by
  unfold f_X3_admit
  rw [if_neg (fun z => h1 (.inl z)), if_pos (Int32.not_lt.mp fun z => h1 (.inr z)), r.n, hn, if_pos (by decide)]
def aOpen (w o p : Nat) (s : hS) : hS := uW (uW s w 0 o) w 1 p
theorem c_opens {M : xM} {s : hS} (r : cR h M s) (b : aB s) : f_X3_countOpenWindows h M = some (nI (aOpens s)) := c_open r b.o31
theorem c_openw {M : xM} {s : hS} {w o p : Nat} (r : cR h M s) (b : aB s) (hw : w < 3) (h1 : 1 ≤ o) (h2 : o ≤ 99) (h3 : 1 ≤ p) (h4 : p ≤ 9) (h5 : hW s w 0 = 0) : ∃ M', f_X3_open h (nI w) (nI o) (nI p) M = some (nI (aOpens (aOpen w o p s)), M') ∧ cR h M' (aOpen w o p s) ∧ cF h M M' := by
  unfold f_X3_open
  rw [c_win hw, Option.bind_some, if_neg (by decide), if_neg (show ¬ nI o < (1 : Int32) from nI_nlt (b := 1) h1 (by omega)), if_neg (show ¬ (99 : Int32) < nI o from nI_nlt (a := 99) h2 (by omega)), if_neg (show ¬ nI p < (1 : Int32) from nI_nlt (b := 1) h3 (by omega)), if_pos (show nI p ≤ (9 : Int32) from nI_le (b := 9) h4 (by omega)), if_pos (pi_in3 hw), pi_cl (by omega), if_pos (r.wk hw), c_isOpen (r.w0 hw) (by omega), Option.bind_some, h5, if_pos (by decide), if_pos (pi_in3 hw), if_pos (r.wk hw)]
  simp only [x_let]
  rw [if_pos (pi_in3 hw), if_pos (r.wk hw)]
  have r1 := (r.uWn (w := w) (f := 0) (v := o) hw (by decide)).uWn (w := w) (f := 1) (v := p) hw (by decide)
  have b1 : aB (aOpen w o p s) := aB_uW (aB_uW b (by omega) (by omega) (by omega) (by omega)) (by omega) (by omega) (by omega) (by omega)
  rw [c_opens r1 b1]
  exact ⟨_, rfl, r1, (cF_I (by omega) (by omega)).tr (cF_I (by omega) (by omega))⟩
theorem c_open1 {M : xM} {a o p : Int32} (ha : ∀ i, i < 3 → a ≠ nI i) : f_X3_open h a o p M = some (-1, M) := by
  unfold f_X3_open
  rw [c_winnt ha, Option.bind_some, if_pos rfl]
theorem c_open2 {M : xM} {w : Nat} {o p : Int32} (hw : w < 3) (ho : (o < 1 ∨ (99 : Int32) < o) ∨ (p < 1 ∨ (9 : Int32) < p)) : f_X3_open h (nI w) o p M = some (-2, M) := by
  unfold f_X3_open
  rw [c_win hw, Option.bind_some, if_neg (by decide)]
  by_cases g1 : o < 1
  · rw [if_pos g1]
  · rw [if_neg g1]
    by_cases g2 : (99 : Int32) < o
    · rw [if_pos g2]
    · rw [if_neg g2]
      by_cases g3 : p < 1
      · rw [if_pos g3]
      · rw [if_neg g3]
        by_cases g4 : (9 : Int32) < p
        · rw [if_neg (Int32.not_le.mpr g4)]
        · exact absurd ho (by simp [g1, g2, g3, g4])
theorem c_open3 {M : xM} {s : hS} {w : Nat} {o p : Int32} (r : cR h M s) (b : aB s) (hw : w < 3) (ho : ¬ ((o < 1 ∨ (99 : Int32) < o) ∨ (p < 1 ∨ (9 : Int32) < p))) (h5 : hW s w 0 ≠ 0) : f_X3_open h (nI w) o p M = some (-3, M) := by
  have := b.o31 w hw
  unfold f_X3_open
  rw [c_win hw, Option.bind_some, if_neg (by decide), if_neg (fun z => ho (.inl (.inl z))), if_neg (fun z => ho (.inl (.inr z))), if_neg (fun z => ho (.inr (.inl z))), if_pos (Int32.not_lt.mp fun z => ho (.inr (.inr z))), if_pos (pi_in3 hw), pi_cl (by omega), if_pos (r.wk hw), c_isOpen (r.w0 hw) this, Option.bind_some, if_pos (show 0 < hW s w 0 by omega), if_neg (by decide)]
theorem c_close {M : xM} {s : hS} {w : Nat} (r : cR h M s) (b : aB s) (k : aK s) (hw : w < 3) (h5 : hW s w 0 ≠ 0) : ∃ M', f_X3_close h (nI w) M = some (nI (aOpens (aShut w s)), M') ∧ cR h M' (aShut w s) ∧ cF h M M' := by
  unfold f_X3_close
  rw [c_win hw, Option.bind_some, if_neg (by decide), if_pos (pi_in3 hw), pi_cl (by omega), if_pos (r.wk hw), c_isOpen (r.w0 hw) (b.o31 w hw), Option.bind_some, if_pos (show 0 < hW s w 0 by omega), if_neg (by decide), if_pos (pi_in3 hw), if_pos (r.wk hw)]
  obtain ⟨M', h1, h2, h3⟩ := c_shut r hw (b.w31 w hw) (fun z => aK_q12 k b hw z)
  rw [h1, Option.bind_some, c_opens h2 (aB_shut b k hw)]
  exact ⟨M', rfl, h2, h3⟩
theorem c_close1 {M : xM} {a : Int32} (ha : ∀ i, i < 3 → a ≠ nI i) : f_X3_close h a M = some (-1, M) := by
  unfold f_X3_close
  rw [c_winnt ha, Option.bind_some, if_pos rfl]
theorem c_close3 {M : xM} {s : hS} {w : Nat} (r : cR h M s) (hw : w < 3) (h5 : hW s w 0 = 0) : f_X3_close h (nI w) M = some (-3, M) := by
  unfold f_X3_close
  rw [c_win hw, Option.bind_some, if_neg (by decide), if_pos (pi_in3 hw), pi_cl (by omega), if_pos (r.wk hw), c_isOpen (r.w0 hw) (by omega), Option.bind_some, h5, if_pos (by decide)]
theorem c_lowL {M : xM} {s : hS} (r : cR h M s) (hn : s.1 0 ≤ 12) : ∀ (m k n : Nat), k + m = s.1 0 → m < n → (∀ i, pf (fun i => decide (hC s i 5 = 0)) k m = some i → ∃ M', f_X3_callLowestTicket_L2 h M n (nI k) = some (nI (hC s i 0), M') ∧ cR h M' (uC s i 5 1) ∧ cF h M M') ∧ (pf (fun i => decide (hC s i 5 = 0)) k m = none → f_X3_callLowestTicket_L2 h M n (nI k) = some (-5, M))
  | 0, k, n, e, hm => by
    obtain ⟨n, rfl⟩ : ∃ n', n = n' + 1 := ⟨n - 1, by omega⟩
    unfold f_X3_callLowestTicket_L2
    rw [r.n, if_pos (nI_le (by omega) (by omega))]
    exact ⟨fun i hi => (by cases hi), fun _ => rfl⟩
  | m + 1, k, n, e, hm => by
    obtain ⟨n, rfl⟩ : ∃ n', n = n' + 1 := ⟨n - 1, by omega⟩
    have hk : k < 12 := by omega
    have b5 := r.b5 hk
    unfold f_X3_callLowestTicket_L2 pf
    rw [r.n, if_neg (nI_ge (by omega) (by omega)), if_pos (pi_in12 hk), pi_cl (by omega), if_pos (r.ck hk), r.c hk (by decide), pi_add1]
    by_cases g : hC s k 5 = 0
    · rw [show (if decide (hC s k 5 = 0) = true then some k else pf (fun i => decide (hC s i 5 = 0)) (k + 1) m) = some k from if_pos (decide_eq_true g), if_pos (show nI (hC s k 5) = 0 by rw [g]; rfl), if_pos (pi_in12 hk), if_pos (r.ck hk)]
      simp only [x_let]
      have r1 := r.uC (i := k) (f := 5) (v := 1) hk (by omega)
      obtain ⟨d, hd, ed⟩ := r.cc hk
      have f1 : cF h M (sI M (M.2.1 (h + 1) k) 5 (nI 1)) := cF_I (by omega) (by omega)
      rw [pi_1]
      generalize sI M (M.2.1 (h + 1) k) 5 (nI 1) = M1 at r1 f1 ⊢
      rw [if_pos (pi_in12 hk), if_pos (r1.ck hk), r1.c hk (by decide), uC_f (by decide)]
      refine ⟨fun i hi => ?_, fun hi => (by cases hi)⟩
      cases hi
      exact ⟨M1, rfl, r1, f1⟩
    · rw [show (if decide (hC s k 5 = 0) = true then some k else pf (fun i => decide (hC s i 5 = 0)) (k + 1) m) = pf (fun i => decide (hC s i 5 = 0)) (k + 1) m from if_neg (by simp [g]), if_neg (show ¬ nI (hC s k 5) = 0 by rw [pi_z (by omega)]; exact g)]
      exact c_lowL r hn m (k + 1) n (by omega) (by omega)
theorem c_low {M : xM} {s : hS} (r : cR h M s) (hn : s.1 0 ≤ 12) : (∀ i, pf (fun i => decide (hC s i 5 = 0)) 0 (s.1 0) = some i → ∃ M', f_X3_callLowestTicket h M = some (nI (hC s i 0), M') ∧ cR h M' (uC s i 5 1) ∧ cF h M M') ∧ (pf (fun i => decide (hC s i 5 = 0)) 0 (s.1 0) = none → f_X3_callLowestTicket h M = some (-5, M)) := by
  unfold f_X3_callLowestTicket
  exact c_lowL r hn (s.1 0) 0 xF (by omega) (by rw [xF_2000]; omega)
theorem c_sitsL {M : xM} {s : hS} (r : cR h M s) (hn : s.1 0 ≤ 12) : ∀ (m k a n : Nat), k + m = s.1 0 → m < n → f_X3_countSitting_L4 h M n (nI a) (nI k) = some (nI (a + pc (fun i => decide (hC s i 6 ≠ 0)) k m))
  | 0, k, a, n, e, hm => by
    obtain ⟨n, rfl⟩ : ∃ n', n = n' + 1 := ⟨n - 1, by omega⟩
    unfold f_X3_countSitting_L4
    rw [r.n, if_pos (nI_le (by omega) (by omega))]
    rfl
  | m + 1, k, a, n, e, hm => by
    obtain ⟨n, rfl⟩ : ∃ n', n = n' + 1 := ⟨n - 1, by omega⟩
    have hk : k < 12 := by omega
    have b6 := r.b6 hk
    unfold f_X3_countSitting_L4 pc
    rw [r.n, if_neg (nI_ge (by omega) (by omega)), if_pos (pi_in12 hk), pi_cl (by omega), if_pos (r.ck hk), r.c hk (by decide), pi_add1, pi_add1]
    by_cases g : hC s k 6 = 0
    · rw [if_pos (by rw [pi_z (by omega)]; exact g), c_sitsL r hn m (k + 1) a n (by omega) (by omega), if_neg (by simp [g]), Nat.zero_add]
    · rw [if_neg (by rw [pi_z (by omega)]; exact g), c_sitsL r hn m (k + 1) (a + 1) n (by omega) (by omega), if_pos (decide_eq_true g), Nat.add_assoc]
theorem c_sits {M : xM} {s : hS} (r : cR h M s) (hn : s.1 0 ≤ 12) : f_X3_countSitting h M = some (nI (aSits s)) := by
  unfold f_X3_countSitting aSits
  have := c_sitsL r hn (s.1 0) 0 0 xF (by omega) (by rw [xF_2000]; omega)
  rw [Nat.zero_add] at this
  exact this
end COP
