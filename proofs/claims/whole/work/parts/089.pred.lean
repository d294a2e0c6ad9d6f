/-! pure: predictions -/
def aTix (t : Nat) (s : hS) : Option Nat := pf (fun i => decide (hC s i 0 = t)) 0 (s.1 0)
theorem aWaitS_6 {s : hS} {p : Nat} : s.1 6 ≤ (aWaitS p s).2.1 6 := by
  have y : s.1 6 ≤ (aWaitY p s).1 6 := by
    unfold aWaitY
    split
    · rw [aTurn_1]; exact Nat.le_refl _
    · rw [u0_s, aTurn_1]; exact Nat.le_succ _
  unfold aWaitS
  split
  · exact y
  · show _ ≤ (aLeave _ (u0 _ 5 _)).1 6
    rw [aLeave_n (by decide) (by decide), u0_n (by decide)]
    exact y
theorem aWaitL_6 : ∀ (m p : Nat) (s : hS), s.1 6 ≤ (aWaitL m p s).1 6
  | 0, _, _ => Nat.le_refl _
  | m + 1, p, s => by
    unfold aWaitL
    exact Nat.le_trans aWaitS_6 (aWaitL_6 m _ _)
theorem aWork_6 {s : hS} {w : Nat} : (aWork w s).1 6 = s.1 6 := by
  unfold aWork
  split
  · rw [aTick_n (by decide)]
  · split
    · rw [aTick_n (by decide), aLeave_n (by decide) (by decide), aServe_n (by decide) (by decide)]; rfl
    · rw [aTick_n (by decide)]; rfl
theorem aWorkW_6 {s : hS} {w : Nat} : (aWorkW w s).1 6 = s.1 6 := by
  unfold aWorkW
  split
  · exact aWork_6
  · rfl
theorem aMinute_6 {s : hS} : s.1 6 ≤ (aMinute s).1 6 := by
  have e : (aTurns s).1 6 = s.1 6 := by
    unfold aTurns
    rw [aWorkW_6, aWorkW_6, aWorkW_6]
  have h := aWaitL_6 ((aTurns s).1 7) 0 (aTurns s)
  unfold aMinute aFills aWait
  rw [u0_n (by decide), aFillW_n (by decide), aFillW_n (by decide), aFillW_n (by decide)]
  rw [e] at h
  exact h
theorem aPassL_6 : ∀ (m : Nat) (s : hS), s.1 6 ≤ (aPassL m s).1 6
  | 0, _ => Nat.le_refl _
  | m + 1, s => Nat.le_trans aMinute_6 (aPassL_6 m _)
theorem aTix_self {s : hS} (k : aK s) {x : Nat} (hx : x < s.1 0) : aTix (hC s x 0) s = some x := by
  refine pf_is (p := fun i => decide (hC s i 0 = hC s x 0)) (by omega) (by omega) (decide_eq_true rfl) (fun i _ hi => decide_eq_false fun e => ?_)
  have := k.2.1.1 i x hi hx
  omega
theorem aTix_lt {t : Nat} {s : hS} {i : Nat} (h : aTix t s = some i) : i < s.1 0 := by
  have := (pf_some h).2.1
  omega
theorem tix31 {B : Nat} {s : hS} (v : aV B s) (hB : B < 2 ^ 30) : ∀ i, i < s.1 0 → hC s i 0 < 2 ^ 31 := fun i hi => by
  have a := (v.1.1.1.2.1.2.1.2 i hi).2
  have b := v.2.2.1 2 (by decide)
  omega
def aUntil (t : Nat) : Nat → Nat → hS → Option Nat
  | r, n, s => match aTix t s with
    | none => none
    | some i => if aW s i = 0 then (match r with
      | 0 => none
      | r + 1 => aUntil t r (n + 1) (aMinute s)) else some n
section PD
variable {M : xM} {s : hS} {u : Nat} {H : Nat → hS} {sf : Nat} {sn : hS}
theorem c_predL {q : Nat} (hq : q ≤ 60) : ∀ (m j n : Nat) (M : xM) (t : hS), gC M s u H sf sn → cR (M.2.1 0 1) M t → aM t → j + m = q → m < n → ∃ M', f_X6_predict_L13 (nI q) n (nI j) M = some M' ∧ gC M' s u H sf sn ∧ cR (M.2.1 0 1) M' (aPassL m t) ∧ M'.2.1 0 = M.2.1 0 ∧ gK M M'
  | 0, j, n, M, t, g, r, i, e, hn => by
    obtain ⟨n, rfl⟩ : ∃ n', n = n' + 1 := ⟨n - 1, by omega⟩
    rw [f_X6_predict_L13.eq_2, if_pos (nI_le (by omega) (by omega))]
    exact ⟨M, rfl, g, r, rfl, gK.rf⟩
  | m + 1, j, n, M, t, g, r, i, e, hn => by
    obtain ⟨n, rfl⟩ : ∃ n', n = n' + 1 := ⟨n - 1, by omega⟩
    have ge : 22 ≤ M.2.1 0 1 := g.ge (i := 1) (by decide)
    obtain ⟨M1, h1, r1, f1⟩ := c_minute r i
    have p1 : M1.2.1 0 = M.2.1 0 := (f1.1 0 (by omega)).2
    rw [f_X6_predict_L13.eq_2, if_neg (nI_ge (by omega) (by omega)), if_pos g.k1, h1, Option.bind_some, pi_add1]
    obtain ⟨M2, h2, g2, r2, p2, k2⟩ := c_predL hq m (j + 1) n M1 (aMinute t) (gC_trial g f1 r1.1) (by rw [p1]; exact r1) (aM_minute i) (by omega) (by omega)
    rw [p1] at r2
    exact ⟨M2, h2, g2, r2, p2.trans p1, (gK_F ge f1).tr k2⟩
theorem c_pred (g : gC M s u H sf sn) (i : aM s) {q : Nat} (hq : q ≤ 60) : ∃ M', f_X6_predict (nI q) M = some M' ∧ gC M' s u H sf sn ∧ cR (M.2.1 0 1) M' (aPassL q s) ∧ M'.2.1 0 = M.2.1 0 ∧ gK M M' := by
  have ge : 22 ≤ M.2.1 0 1 := g.ge (i := 1) (by decide)
  obtain ⟨M1, h1, g1, r1, f1, p1⟩ := w_copy g
  unfold f_X6_predict
  rw [if_pos g.k1, if_pos g.k0, h1, Option.bind_some]
  obtain ⟨M2, h2, g2, r2, p2, k2⟩ := c_predL hq q 0 xF M1 s g1 (by rw [p1]; exact r1) i (by omega) (by rw [xF_2000]; omega)
  rw [p1] at r2
  exact ⟨M2, h2, g2, r2, p2.trans p1, (gK_F ge f1).tr k2⟩
theorem c_reqp {a : Int32} : f_X6_requirePredictable a M = some (if ix a ≤ 60 then .inl () else .inr "java/lang/IllegalArgumentException") := by
  unfold f_X6_requirePredictable
  by_cases z : a < 0
  · rw [if_pos z, if_neg (by rw [ix_lt0 z]; omega)]
  · rw [if_neg z]
    obtain ⟨x, hx, ea⟩ := nI_of z
    subst ea
    rw [ix_nI hx]
    by_cases h : x ≤ 60
    · rw [if_pos (show nI x ≤ (60 : Int32) from nI_le (b := 60) h (by decide)), if_pos h]
    · rw [if_neg (show ¬ nI x ≤ (60 : Int32) from nI_ge (a := 60) (by omega) hx), if_neg h]
/- the model thinks -/
theorem m_think : ∀ (m k n : Nat) (M : xM), k + m = 159 → m < n → f_X7_thinks_L2 n (nI k) M = some (mG M 12 (fun x => if k ≤ x ∧ x < 159 then M.1 10 x else M.1 12 x))
  | 0, k, n, M, e, hn => by
    obtain ⟨n, rfl⟩ : ∃ n', n = n' + 1 := ⟨n - 1, by omega⟩
    rw [f_X7_thinks_L2.eq_2]
    simp (disch := omega) only [↓reduceIte, pi_0, pi_1, pi_2, pi_3, pi_4, pi_5, pi_6, pi_7, pi_8, pi_9, pi_10, pi_11, pi_12, pi_13, pi_20, pi_27, pi_30, pi_60, pi_99, pi_115, pi_123, pi_135, pi_136, pi_137, pi_138, pi_139, pi_158, pi_159, pi_1113, m_neg, nI_add, pk_mul, pi_sub, mI_dec, pi_cl, pi_leT, pi_leF, pi_ltT, pi_ltF, pi_eqT, pi_eqF, mI_n, m_in159, Option.bind_some, f_X7_personAt, f_X7_windowAt, mG_i, mG_g, mG_s, pk_us, pk_un]
    have : (fun x => if k ≤ x ∧ x < 159 then M.1 10 x else M.1 12 x) = M.1 12 := funext fun x => if_neg (by omega)
    rw [this, mG_id]
  | m + 1, k, n, M, e, hn => by
    obtain ⟨n, rfl⟩ : ∃ n', n = n' + 1 := ⟨n - 1, by omega⟩
    rw [f_X7_thinks_L2.eq_2]
    simp (disch := omega) only [↓x_let_e, ↓reduceIte, pi_0, pi_1, pi_2, pi_3, pi_4, pi_5, pi_6, pi_7, pi_8, pi_9, pi_10, pi_11, pi_12, pi_13, pi_20, pi_27, pi_30, pi_60, pi_99, pi_115, pi_123, pi_135, pi_136, pi_137, pi_138, pi_139, pi_158, pi_159, pi_1113, m_neg, nI_add, pk_mul, pi_sub, mI_dec, pi_cl, pi_leT, pi_leF, pi_ltT, pi_ltF, pi_eqT, pi_eqF, mI_n, m_in159, Option.bind_some, f_X7_personAt, f_X7_windowAt, mG_i, mG_g, mG_s, pk_us, pk_un]
    rw [m_think m (k + 1) n _ (by omega) (by omega)]
    simp (disch := omega) only [↓x_let_e, ↓reduceIte, pi_0, pi_1, pi_2, pi_3, pi_4, pi_5, pi_6, pi_7, pi_8, pi_9, pi_10, pi_11, pi_12, pi_13, pi_20, pi_27, pi_30, pi_60, pi_99, pi_115, pi_123, pi_135, pi_136, pi_137, pi_138, pi_139, pi_158, pi_159, pi_1113, m_neg, nI_add, pk_mul, pi_sub, mI_dec, pi_cl, pi_leT, pi_leF, pi_ltT, pi_ltF, pi_eqT, pi_eqF, mI_n, m_in159, Option.bind_some, f_X7_personAt, f_X7_windowAt, mG_i, mG_g, mG_s, pk_us, pk_un, mG_n]
    congr 2
    funext x
    simp only [upd]
    (repeat' split) <;> first | rfl | (exfalso; omega) | (exact congrArg _ (by omega))
theorem m_nomore : ∀ (m k n : Nat) (M : xM), k + m = 159 → m < n → f_X7_thinksNoMore_L2 n (nI k) M = some (mG M 10 (fun x => if k ≤ x ∧ x < 159 then M.1 12 x else M.1 10 x))
  | 0, k, n, M, e, hn => by
    obtain ⟨n, rfl⟩ : ∃ n', n = n' + 1 := ⟨n - 1, by omega⟩
    rw [f_X7_thinksNoMore_L2.eq_2]
    simp (disch := omega) only [↓reduceIte, pi_0, pi_1, pi_2, pi_3, pi_4, pi_5, pi_6, pi_7, pi_8, pi_9, pi_10, pi_11, pi_12, pi_13, pi_20, pi_27, pi_30, pi_60, pi_99, pi_115, pi_123, pi_135, pi_136, pi_137, pi_138, pi_139, pi_158, pi_159, pi_1113, m_neg, nI_add, pk_mul, pi_sub, mI_dec, pi_cl, pi_leT, pi_leF, pi_ltT, pi_ltF, pi_eqT, pi_eqF, mI_n, m_in159, Option.bind_some, f_X7_personAt, f_X7_windowAt, mG_i, mG_g, mG_s, pk_us, pk_un]
    have : (fun x => if k ≤ x ∧ x < 159 then M.1 12 x else M.1 10 x) = M.1 10 := funext fun x => if_neg (by omega)
    rw [this, mG_id]
  | m + 1, k, n, M, e, hn => by
    obtain ⟨n, rfl⟩ : ∃ n', n = n' + 1 := ⟨n - 1, by omega⟩
    rw [f_X7_thinksNoMore_L2.eq_2]
    simp (disch := omega) only [↓x_let_e, ↓reduceIte, pi_0, pi_1, pi_2, pi_3, pi_4, pi_5, pi_6, pi_7, pi_8, pi_9, pi_10, pi_11, pi_12, pi_13, pi_20, pi_27, pi_30, pi_60, pi_99, pi_115, pi_123, pi_135, pi_136, pi_137, pi_138, pi_139, pi_158, pi_159, pi_1113, m_neg, nI_add, pk_mul, pi_sub, mI_dec, pi_cl, pi_leT, pi_leF, pi_ltT, pi_ltF, pi_eqT, pi_eqF, mI_n, m_in159, Option.bind_some, f_X7_personAt, f_X7_windowAt, mG_i, mG_g, mG_s, pk_us, pk_un]
    rw [m_nomore m (k + 1) n _ (by omega) (by omega)]
    simp (disch := omega) only [↓x_let_e, ↓reduceIte, pi_0, pi_1, pi_2, pi_3, pi_4, pi_5, pi_6, pi_7, pi_8, pi_9, pi_10, pi_11, pi_12, pi_13, pi_20, pi_27, pi_30, pi_60, pi_99, pi_115, pi_123, pi_135, pi_136, pi_137, pi_138, pi_139, pi_158, pi_159, pi_1113, m_neg, nI_add, pk_mul, pi_sub, mI_dec, pi_cl, pi_leT, pi_leF, pi_ltT, pi_ltF, pi_eqT, pi_eqF, mI_n, m_in159, Option.bind_some, f_X7_personAt, f_X7_windowAt, mG_i, mG_g, mG_s, pk_us, pk_un, mG_n]
    congr 2
    funext x
    simp only [upd]
    (repeat' split) <;> first | rfl | (exfalso; omega) | (exact congrArg _ (by omega))
/-- back from thinking: the row as it was, where it matters -/
theorem m_nm {g : Nat → Int32} : ∃ g', f_X7_thinksNoMore (mG M 10 g) = some (mG M 10 g') ∧ ∀ k, k < 159 → g' k = M.1 12 k := by
  unfold f_X7_thinksNoMore
  rw [pi_0, m_nomore 159 0 xF _ (by omega) (by rw [xF_2000]; omega), mG_g, mG_s, mG_n (by decide)]
  exact ⟨_, rfl, fun k hk => if_pos ⟨Nat.zero_le _, hk⟩⟩
/-- the thinking's start -/
def pIn (M : xM) : xM := mG (sI M 9 9 (nI 0)) 12 (fun x => if 0 ≤ x ∧ x < 159 then M.1 10 x else M.1 12 x)
theorem m_th : f_X7_thinks (sI M 9 9 (nI 0)) = some (pIn M) := by
  unfold f_X7_thinks pIn
  rw [pi_0, m_think 159 0 xF _ (by omega) (by rw [xF_2000]; omega), sI_c (by decide), sI_c (by decide)]
theorem pIn_10 : (pIn M).1 10 = M.1 10 := by unfold pIn; rw [mG_n (by decide), sI_c (by decide)]
theorem pIn_12 {k : Nat} (hk : k < 159) : (pIn M).1 12 k = M.1 10 k := by unfold pIn; rw [mG_s]; exact if_pos ⟨Nat.zero_le _, hk⟩
theorem pIn_ok {g' : Nat → Int32} (g : gM M s u H sf sn) (b : aB s) (h : ∀ k, k < 159 → g' k = (pIn M).1 12 k) : gM (mG (pIn M) 10 g') s u H sf sn ∧ gL M (mG (pIn M) 10 g') ∧ (mG (pIn M) 10 g').1 9 9 = nI 0 := by
  refine ⟨⟨?_, fun i hi => ?_, fun h => ?_, ?_, g.2.2.2.2.1, ?_, g.2.2.2.2.2.2⟩, ?_, ?_⟩
  · rw [mG_s]
    exact dH_ext g.1 b.1 b.2.1 fun k hk => (h k hk).trans (pIn_12 hk)
  · rw [mG_n (by decide)]
    unfold pIn
    rw [mG_n (by decide), sI_c (by decide)]
    exact g.2.1 i hi
  · rw [mG_n (by decide)]
    unfold pIn
    rw [mG_n (by decide), sI_c (by decide)]
    exact g.2.2.1 h
  · rw [mG_n (by decide)]
    unfold pIn
    rw [mG_n (by decide), sI_k (by decide)]
    exact g.2.2.2.1
  · rw [mG_n (by decide)]
    unfold pIn
    rw [mG_n (by decide), sI_k (by decide)]
    exact g.2.2.2.2.2.1
  · exact (gL_9 (by omega)).tr ((gL_G (by omega)).tr (gL_G (by omega)))
  · rw [mG_n (by decide)]
    unfold pIn
    rw [mG_n (by decide), sI_s]
theorem m_withL {t : Nat} (d : dH (M.1 10) s (aW s)) (hn : s.1 0 ≤ 12) (ht : t < 2 ^ 31) (h31 : ∀ i, i < s.1 0 → hC s i 0 < 2 ^ 31) : ∀ (m k n : Nat), k + m = s.1 0 → m < n → f_X7_withNumber_L2 (nI t) M n (nI k) = some (oI (pf (fun i => decide (hC s i 0 = t)) k m))
  | 0, k, n, e, hm => by
    obtain ⟨n, rfl⟩ : ∃ n', n = n' + 1 := ⟨n - 1, by omega⟩
    rw [f_X7_withNumber_L2.eq_2]
    simp (disch := omega) only [↓reduceIte, pi_0, pi_1, pi_2, pi_3, pi_4, pi_5, pi_6, pi_7, pi_8, pi_9, pi_10, pi_11, pi_12, pi_13, pi_20, pi_27, pi_30, pi_60, pi_99, pi_115, pi_123, pi_135, pi_136, pi_137, pi_138, pi_139, pi_158, pi_159, pi_1113, m_neg, nI_add, pk_mul, pi_sub, mI_dec, pi_cl, pi_leT, pi_leF, pi_ltT, pi_ltF, pi_eqT, pi_eqF, mI_n, m_in159, Option.bind_some, f_X7_personAt, f_X7_windowAt, mG_i, mG_g, mG_s, pk_us, pk_un, d.n]
    rfl
  | m + 1, k, n, e, hm => by
    obtain ⟨n, rfl⟩ : ∃ n', n = n' + 1 := ⟨n - 1, by omega⟩
    have e0 := d.p0 (i := k) (by omega)
    have hk := h31 k (by omega)
    rw [f_X7_withNumber_L2.eq_2]
    unfold pf
    simp (disch := omega) only [↓reduceIte, pi_0, pi_1, pi_2, pi_3, pi_4, pi_5, pi_6, pi_7, pi_8, pi_9, pi_10, pi_11, pi_12, pi_13, pi_20, pi_27, pi_30, pi_60, pi_99, pi_115, pi_123, pi_135, pi_136, pi_137, pi_138, pi_139, pi_158, pi_159, pi_1113, m_neg, nI_add, pk_mul, pi_sub, mI_dec, pi_cl, pi_leT, pi_leF, pi_ltT, pi_ltF, pi_eqT, pi_eqF, mI_n, m_in159, Option.bind_some, f_X7_personAt, f_X7_windowAt, mG_i, mG_g, mG_s, pk_us, pk_un, d.n, e0]
    by_cases g : hC s k 0 = t
    · rw [if_pos (by rw [g]), if_pos (decide_eq_true g)]
      rfl
    · rw [if_neg (fun z => g ((nI_eq hk ht).mp z)), m_withL d hn ht h31 m (k + 1) n (by omega) (by omega), if_neg (by simp [g])]
theorem m_with {t : Nat} (d : dH (M.1 10) s (aW s)) (hn : s.1 0 ≤ 12) (ht : t < 2 ^ 31) (h31 : ∀ i, i < s.1 0 → hC s i 0 < 2 ^ 31) : f_X7_withNumber (nI t) M = some (oI (aTix t s)) := by
  unfold f_X7_withNumber
  exact m_withL d hn ht h31 (s.1 0) 0 xF (by omega) (by rw [xF_2000]; omega)
end PD
