/-! pure: the model's whole memory, its changes -/
theorem m_in1272 {n : Nat} (h : n < 1272) : (x_in (nI n) 1272 = true) = True := eq_true (pi_in h (by decide))
theorem dH_ext {g g' : Nat → Int32} {s : hS} {a : Nat → Nat} (d : dH g s a) (n12 : s.1 0 ≤ 12) (q12 : s.1 7 ≤ 12) (h : ∀ k, k < 159 → g' k = g k) : dH g' s a := d.cg n12 q12 (fun _ _ _ _ => rfl) rfl rfl rfl (fun _ _ _ _ => rfl) (fun _ _ => rfl) (fun _ _ => rfl) rfl (fun k hk => h k (by omega))
def gM (M : xM) (s : hS) (u : Nat) (H : Nat → hS) (sf : Nat) (sn : hS) : Prop :=
  dH (M.1 10) s (aW s) ∧ (∀ i, i < u → dH (fun k => M.1 14 (159 * i + k)) (H i) (aW (H i))) ∧ (sf ≠ 0 → dH (M.1 13) sn (aW sn)) ∧ M.1 9 6 = nI u ∧ u ≤ 8 ∧ M.1 9 4 = nI sf ∧ sf ≤ 1
/-- what the model's changes leave alone -/
def gL (M M' : xM) : Prop := M'.2 = M.2 ∧ (∀ c, c ≠ 9 → c ≠ 10 → c ≠ 11 → c ≠ 12 → c ≠ 14 → M'.1 c = M.1 c) ∧ (∀ k, k ≠ 6 → k ≠ 9 → M'.1 9 k = M.1 9 k)
theorem gL.rf {M : xM} : gL M M := ⟨rfl, fun _ _ _ _ _ _ => rfl, fun _ _ _ => rfl⟩
theorem gL.tr {M M' M'' : xM} (a : gL M M') (b : gL M' M'') : gL M M'' := ⟨b.1.trans a.1, fun c h1 h2 h3 h4 h5 => (b.2.1 c h1 h2 h3 h4 h5).trans (a.2.1 c h1 h2 h3 h4 h5), fun k h1 h2 => (b.2.2 k h1 h2).trans (a.2.2 k h1 h2)⟩
theorem gL_G {M : xM} {c : Nat} {g : Nat → Int32} (h : c = 10 ∨ c = 11 ∨ c = 12 ∨ c = 14) : gL M (mG M c g) := ⟨rfl, fun d h1 h2 h3 h4 h5 => mG_n (by omega), fun k h1 h2 => by rw [mG_n (by omega)]⟩
theorem gL_9 {M : xM} {k : Nat} {v : Int32} (h : k = 6 ∨ k = 9) : gL M (sI M 9 k v) := ⟨rfl, fun d h1 h2 h3 h4 h5 => sI_c h1, fun k' h1 h2 => sI_k (by omega)⟩
theorem m_startL : ∀ (m k n : Nat) (M : xM), k + m = 159 → m < n → f_X7_starts_L7 n (nI k) M = some (mG M 11 (fun x => if k ≤ x ∧ x < 159 then M.1 10 x else M.1 11 x))
  | 0, k, n, M, e, hn => by
    obtain ⟨n, rfl⟩ : ∃ n', n = n' + 1 := ⟨n - 1, by omega⟩
    rw [f_X7_starts_L7.eq_2]
    simp (disch := omega) only [↓reduceIte, pi_0, pi_1, pi_2, pi_3, pi_4, pi_5, pi_6, pi_7, pi_8, pi_9, pi_10, pi_11, pi_12, pi_13, pi_20, pi_27, pi_30, pi_60, pi_99, pi_115, pi_123, pi_135, pi_136, pi_137, pi_138, pi_139, pi_158, pi_159, pi_1113, m_neg, nI_add, pk_mul, pi_sub, mI_dec, pi_cl, pi_leT, pi_leF, pi_ltT, pi_ltF, pi_eqT, pi_eqF, mI_n, m_in159, Option.bind_some, f_X7_personAt, f_X7_windowAt, mG_i, mG_g, mG_s, pk_us, pk_un]
    have : (fun x => if k ≤ x ∧ x < 159 then M.1 10 x else M.1 11 x) = M.1 11 := funext fun x => if_neg (by omega)
    rw [this, mG_id]
  | m + 1, k, n, M, e, hn => by
    obtain ⟨n, rfl⟩ : ∃ n', n = n' + 1 := ⟨n - 1, by omega⟩
    rw [f_X7_starts_L7.eq_2]
    simp (disch := omega) only [↓x_let_e, ↓reduceIte, pi_0, pi_1, pi_2, pi_3, pi_4, pi_5, pi_6, pi_7, pi_8, pi_9, pi_10, pi_11, pi_12, pi_13, pi_20, pi_27, pi_30, pi_60, pi_99, pi_115, pi_123, pi_135, pi_136, pi_137, pi_138, pi_139, pi_158, pi_159, pi_1113, m_neg, nI_add, pk_mul, pi_sub, mI_dec, pi_cl, pi_leT, pi_leF, pi_ltT, pi_ltF, pi_eqT, pi_eqF, mI_n, m_in159, Option.bind_some, f_X7_personAt, f_X7_windowAt, mG_i, mG_g, mG_s, pk_us, pk_un]
    rw [m_startL m (k + 1) n _ (by omega) (by omega)]
    simp (disch := omega) only [↓x_let_e, ↓reduceIte, pi_0, pi_1, pi_2, pi_3, pi_4, pi_5, pi_6, pi_7, pi_8, pi_9, pi_10, pi_11, pi_12, pi_13, pi_20, pi_27, pi_30, pi_60, pi_99, pi_115, pi_123, pi_135, pi_136, pi_137, pi_138, pi_139, pi_158, pi_159, pi_1113, m_neg, nI_add, pk_mul, pi_sub, mI_dec, pi_cl, pi_leT, pi_leF, pi_ltT, pi_ltF, pi_eqT, pi_eqF, mI_n, m_in159, Option.bind_some, f_X7_personAt, f_X7_windowAt, mG_i, mG_g, mG_s, pk_us, pk_un, mG_n]
    congr 2
    funext x
    simp only [upd]
    (repeat' split) <;> first | rfl | (exfalso; omega) | (exact congrArg _ (by omega))
theorem m_starts {M : xM} : f_X7_starts M = some (mG (sI M 9 9 (nI 0)) 11 (fun x => if x < 159 then M.1 10 x else M.1 11 x)) := by
  unfold f_X7_starts
  rw [x_let_e, pi_0, m_startL 159 0 xF _ (by omega) (by rw [xF_2000]; omega), sI_c (by decide), sI_c (by decide)]
  congr 2
  funext x
  by_cases g : x < 159
  · rw [if_pos ⟨Nat.zero_le _, g⟩, if_pos g]
  · rw [if_neg (fun z => g z.2), if_neg g]
theorem m_chgA {v : Int32} {u : Nat} (hu : u < 8) : ∀ (m k n : Nat) (M : xM), M.1 9 6 = nI u → k + m = 159 → m < n → f_X7_changed_L61 v n (nI k) M = some (v, sI (mG M 14 (fun x => if 159 * u + k ≤ x ∧ x < 159 * u + 159 then M.1 11 (x - 159 * u) else M.1 14 x)) 9 6 (nI (u + 1)))
  | 0, k, n, M, e6, e, hn => by
    obtain ⟨n, rfl⟩ : ∃ n', n = n' + 1 := ⟨n - 1, by omega⟩
    rw [f_X7_changed_L61.eq_2]
    simp (disch := omega) only [pi_0, pi_1, pi_2, pi_3, pi_4, pi_5, pi_6, pi_7, pi_8, pi_9, pi_10, pi_11, pi_12, pi_13, pi_20, pi_27, pi_30, pi_60, pi_99, pi_115, pi_123, pi_135, pi_136, pi_137, pi_138, pi_139, pi_158, pi_159, pi_1113, m_neg, pi_leT, ↓reduceIte, x_let_e, e6, nI_add]
    have : (fun x => if 159 * u + k ≤ x ∧ x < 159 * u + 159 then M.1 11 (x - 159 * u) else M.1 14 x) = M.1 14 := funext fun x => if_neg (by omega)
    rw [this, mG_id]
  | m + 1, k, n, M, e6, e, hn => by
    obtain ⟨n, rfl⟩ : ∃ n', n = n' + 1 := ⟨n - 1, by omega⟩
    rw [f_X7_changed_L61.eq_2]
    simp (disch := omega) only [↓x_let_e, ↓reduceIte, pi_0, pi_1, pi_2, pi_3, pi_4, pi_5, pi_6, pi_7, pi_8, pi_9, pi_10, pi_11, pi_12, pi_13, pi_20, pi_27, pi_30, pi_60, pi_99, pi_115, pi_123, pi_135, pi_136, pi_137, pi_138, pi_139, pi_158, pi_159, pi_1113, m_neg, nI_add, pk_mul, pi_sub, mI_dec, pi_cl, pi_leT, pi_leF, pi_ltT, pi_ltF, pi_eqT, pi_eqF, mI_n, m_in159, Option.bind_some, f_X7_personAt, f_X7_windowAt, mG_i, mG_g, mG_s, pk_us, pk_un, e6, m_in1272]
    rw [m_chgA hu m (k + 1) n _ (by simp (disch := omega) only [mG_n, e6]) (by omega) (by omega)]
    simp (disch := omega) only [mG_g, mG_s, mG_n]
    congr 4
    funext x
    simp only [upd]
    (repeat' split) <;> first | rfl | (exfalso; omega) | (exact congrArg _ (by omega))
set_option maxRecDepth 100000 in
theorem m_chgB {v : Int32} : ∀ (m k n : Nat) (M : xM), M.1 9 6 = nI 8 → k + m = 1113 → m < n → f_X7_changed_L20 v n (nI k) M = f_X7_changed_L61 v xF (nI 0) (sI (mG M 14 (fun x => if k ≤ x ∧ x < 1113 then M.1 14 (x + 159) else M.1 14 x)) 9 6 (nI 7)) := by
  intro m
  induction m with
  | zero =>
    intro k n M e6 e hn
    obtain ⟨n, rfl⟩ : ∃ n', n = n' + 1 := ⟨n - 1, by omega⟩
    have : (fun x => if k ≤ x ∧ x < 1113 then M.1 14 (x + 159) else M.1 14 x) = M.1 14 := funext fun x => if_neg (by omega)
    rw [this, mG_id, f_X7_changed_L20.eq_2, if_pos (show (1113 : Int32) ≤ nI k from nI_le (a := 1113) (by omega) (by omega)), x_let_e, e6, pi_1, pi_sub (by decide), pi_0]
  | succ m ih =>
    intro k n M e6 e hn
    obtain ⟨n, rfl⟩ : ∃ n', n = n' + 1 := ⟨n - 1, by omega⟩
    rw [f_X7_changed_L20.eq_2, if_neg (show ¬ (1113 : Int32) ≤ nI k from nI_ge (b := 1113) (by omega) (by decide)), pi_159, nI_add, if_pos (pi_in (by omega) (by decide)), if_pos (pi_in (by omega) (by decide)), pi_cl (by omega), pi_cl (by omega), x_let_e, pi_add1, mG_i]
    rw [ih (k + 1) n _ (by simp (disch := omega) only [mG_n, e6]) (by omega) (by omega), mG_g, mG_s]
    have : (fun x => if k + 1 ≤ x ∧ x < 1113 then upd (M.1 14) k (M.1 14 (k + 159)) (x + 159) else upd (M.1 14) k (M.1 14 (k + 159)) x) = (fun x => if k ≤ x ∧ x < 1113 then M.1 14 (x + 159) else M.1 14 x) := funext fun x => by
      simp only [upd]
      (repeat' split) <;> first | rfl | (exfalso; omega) | (exact congrArg _ (by omega))
    rw [this]
section GMW
variable {M : xM} {s t : hS} {u : Nat} {H : Nat → hS} {sf : Nat} {sn : hS}
/-- the bounds of all halls that are held -/
def aBs (u : Nat) (H : Nat → hS) (sf : Nat) (sn : hS) : Prop := (∀ i, i < u → aB (H i)) ∧ (sf ≠ 0 → aB sn)
theorem m_changed (g : gM M t u H sf sn) (bb : aBs u H sf sn) (bs : aB s) (d : dH (M.1 11) s (aW s)) (h0 : M.1 9 9 = nI 0) (v : Int32) : ∃ M', f_X7_changed v M = some (v, M') ∧ gM M' t (uPush u) (hPush u H s) sf sn ∧ gL M M' ∧ M'.1 9 9 = nI 0 := by
  obtain ⟨g1, g2, g3, g4, g5, g6, g7⟩ := g
  unfold f_X7_changed
  rw [h0, if_pos (by decide)]
  by_cases e : u = 8
  · subst e
    rw [if_pos (by rw [g4]; rfl), pi_0, m_chgB 1113 0 xF M g4 (by omega) (by rw [xF_2000]; omega)]
    rw [m_chgA (u := 7) (by decide) 159 0 xF _ sI_s (by omega) (by rw [xF_2000]; omega)]
    refine ⟨_, rfl, ⟨?_, fun i hi => ?_, fun h => ?_, ?_, by decide, ?_, g7⟩, ?_, ?_⟩
    · rw [sI_c (by decide), mG_n (by decide), sI_c (by decide), mG_n (by decide)]; exact g1
    · rw [sI_c (by decide), mG_s, sI_c (by decide), sI_c (by decide), mG_s, mG_n (by decide)]
      unfold hPush
      rw [if_pos rfl]
      by_cases e7 : i = 7
      · rw [if_pos e7]
        refine dH_ext d bs.1 bs.2.1 fun k hk => ?_
        rw [if_pos (by omega)]
        exact congrArg (M.1 11) (by omega)
      · rw [if_neg e7]
        have hi8 : i < 8 := hi
        have b := bb.1 (i + 1) (by omega)
        refine dH_ext (g2 (i + 1) (by omega)) b.1 b.2.1 fun k hk => ?_
        rw [if_neg (by omega), if_pos (by omega)]
        exact congrArg (M.1 14) (by omega)
    · rw [sI_c (by decide), mG_n (by decide), sI_c (by decide), mG_n (by decide)]; exact g3 h
    · rw [sI_s]; rfl
    · rw [sI_k (by decide), mG_n (by decide), sI_k (by decide), mG_n (by decide)]; exact g6
    · exact (gL_G (by omega)).tr ((gL_9 (by omega)).tr ((gL_G (by omega)).tr (gL_9 (by omega))))
    · rw [sI_k (by decide), mG_n (by decide), sI_k (by decide), mG_n (by decide)]; exact h0
  · rw [if_neg (by rw [g4, show (8 : Int32) = nI 8 from rfl, nI_eq (by omega) (by decide)]; exact e), pi_0, m_chgA (u := u) (by omega) 159 0 xF M g4 (by omega) (by rw [xF_2000]; omega)]
    unfold uPush hPush
    rw [if_neg e, if_neg e]
    refine ⟨_, rfl, ⟨?_, fun i hi => ?_, fun h => ?_, ?_, by omega, ?_, g7⟩, ?_, ?_⟩
    · rw [sI_c (by decide), mG_n (by decide)]; exact g1
    · rw [sI_c (by decide), mG_s]
      by_cases e7 : i = u
      · rw [e7, va_up_self]
        refine dH_ext d bs.1 bs.2.1 fun k hk => ?_
        rw [if_pos (by omega)]
        exact congrArg (M.1 11) (by omega)
      · rw [va_up_ne _ _ e7]
        have b := bb.1 i (by omega)
        refine dH_ext (g2 i (by omega)) b.1 b.2.1 fun k hk => ?_
        rw [if_neg (by omega)]
    · rw [sI_c (by decide), mG_n (by decide)]; exact g3 h
    · rw [sI_s]
    · rw [sI_k (by decide), mG_n (by decide)]; exact g6
    · exact (gL_G (by omega)).tr (gL_9 (by omega))
    · rw [sI_k (by decide), mG_n (by decide)]; exact h0
theorem gM_L (g : gM M s u H sf sn) {M' : xM} (h10 : M'.1 10 = M.1 10) (h14 : M'.1 14 = M.1 14) (h13 : M'.1 13 = M.1 13) (h6 : M'.1 9 6 = M.1 9 6) (h4 : M'.1 9 4 = M.1 9 4) : gM M' s u H sf sn := by
  unfold gM
  rw [h10, h14, h13, h6, h4]
  exact g
/-- a change of the model's -/
theorem w_model {OP : xM → Option (Int32 × xM)} {o : Nat × Nat × hS} (g : gM M s u H sf sn) (bb : aBs u H sf sn) (bs : aB s) (hop : ∀ X, dH (X.1 10) s (aW s) → ∃ X', OP X = some (om o, X') ∧ mR X X' o) (ho : o.1 < 2 ^ 31) :
    ∃ M', ((f_X7_starts M).bind fun q1 => (OP q1).bind fun q3 => (f_X7_changed q3.1 q3.2).bind fun q5 => some (q5.1, q5.2)) = some (om o, M') ∧ gL M M' ∧ M'.1 9 9 = nI o.1 ∧ (o.1 = 0 → gM M' o.2.2 (uPush u) (hPush u H s) sf sn) ∧ (o.1 ≠ 0 → gM M' s u H sf sn) := by
  obtain ⟨g1, g2, g3, g4, g5, g6, g7⟩ := id g
  rw [m_starts, Option.bind_some]
  have l1 : gL M (mG (sI M 9 9 (nI 0)) 11 (fun x => if x < 159 then M.1 10 x else M.1 11 x)) := (gL_9 (by omega)).tr (gL_G (by omega))
  have a9 : (mG (sI M 9 9 (nI 0)) 11 (fun x => if x < 159 then M.1 10 x else M.1 11 x)).1 9 9 = nI 0 := by rw [mG_n (by decide), sI_s]
  have a10 : (mG (sI M 9 9 (nI 0)) 11 (fun x => if x < 159 then M.1 10 x else M.1 11 x)).1 10 = M.1 10 := by rw [mG_n (by decide), sI_c (by decide)]
  have a11 : dH ((mG (sI M 9 9 (nI 0)) 11 (fun x => if x < 159 then M.1 10 x else M.1 11 x)).1 11) s (aW s) := by
    rw [mG_s]
    exact dH_ext g1 bs.1 bs.2.1 fun k hk => if_pos hk
  have gg : gM (mG (sI M 9 9 (nI 0)) 11 (fun x => if x < 159 then M.1 10 x else M.1 11 x)) s u H sf sn := gM_L g a10 (by rw [mG_n (by decide), sI_c (by decide)]) (by rw [mG_n (by decide), sI_c (by decide)]) (by rw [mG_n (by decide), sI_k (by decide)]) (by rw [mG_n (by decide), sI_k (by decide)])
  generalize mG (sI M 9 9 (nI 0)) 11 (fun x => if x < 159 then M.1 10 x else M.1 11 x) = M1 at l1 a9 a10 a11 gg ⊢
  obtain ⟨X', h1, r1, r2⟩ := hop M1 (by rw [a10]; exact g1)
  rw [h1, Option.bind_some, m_bind2]
  by_cases z : o.1 = 0
  · obtain ⟨g', e', d'⟩ := r1 z
    subst e'
    obtain ⟨M', k1, k2, k3, k4⟩ := m_changed (M := mG M1 10 g') (t := o.2.2) ⟨by rw [mG_s]; exact d', fun i hi => by rw [mG_n (by decide)]; exact gg.2.1 i hi, fun h => by rw [mG_n (by decide)]; exact gg.2.2.1 h, by rw [mG_n (by decide)]; exact gg.2.2.2.1, g5, by rw [mG_n (by decide)]; exact gg.2.2.2.2.2.1, g7⟩ bb bs (by rw [mG_n (by decide)]; exact a11) (by rw [mG_n (by decide)]; exact a9) (om o)
    exact ⟨M', k1, (l1.tr (gL_G (by omega))).tr k3, by rw [z]; exact k4, fun _ => k2, fun h => absurd z h⟩
  · have e' := r2 z
    subst e'
    unfold f_X7_changed
    rw [sI_s, if_neg (nI_nle (by omega) ho)]
    refine ⟨_, rfl, l1.tr (gL_9 (by omega)), sI_s, fun h => absurd h z, fun _ => gM_L gg (sI_c (by decide)) (sI_c (by decide)) (sI_c (by decide)) (sI_k (by decide)) (sI_k (by decide))⟩
end GMW
