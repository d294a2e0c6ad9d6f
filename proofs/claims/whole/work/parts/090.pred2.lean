/-! pure: the law over the predictions -/
def qSg (m : Nat) (s : hS) : Nat × Nat × hS := if m ≤ 60 then (0, (aPassL m s).1 6 - s.1 6, s) else (1, 0, s)
def qPa (x m : Nat) (s : hS) : Nat × Nat × hS := if x < s.1 0 then (if m ≤ 60 then (match aTix (hC s x 0) (aPassL m s) with | some i => (0, hC (aPassL m s) i 1, s) | none => (3, 0, s)) else (2, 0, s)) else (1, 0, s)
def qMi (x : Nat) (s : hS) : Nat × Nat × hS := if x < s.1 0 then (match aUntil (hC s x 0) 60 0 s with | some m => (0, m, s) | none => (2, 0, s)) else (1, 0, s)
theorem qSg_le {m : Nat} {s : hS} : (qSg m s).1 < 2 ^ 31 := by unfold qSg; (repeat' split) <;> (dsimp only; omega)
theorem qPa_le {x m : Nat} {s : hS} : (qPa x m s).1 < 2 ^ 31 := by unfold qPa; (repeat' split) <;> (dsimp only; omega)
theorem qMi_le {x : Nat} {s : hS} : (qMi x s).1 < 2 ^ 31 := by unfold qMi; (repeat' split) <;> (dsimp only; omega)
theorem lw_p {B : Nat} {M M1 M2 : xM} {s : hS} {u : Nat} {H : Nat → hS} {sf : Nat} {sn : hS} {ef fl L : Nat} {t : Nat → Nat} {O : Nat} {o : Nat → Nat} (x0 : gT M ef fl L t O o) (v : aV B s) (vh : ∀ i, i < u → aV B (H i)) (vs : sf ≠ 0 → aV B sn) (c1 : gC M1 s u H sf sn) (k : gK2 M M1) (g2 : gM M2 s u H sf sn) (l : gL M1 M2) : gR (B + 400) M2 := ⟨s, u, H, sf, sn, ef, fl, L, t, O, o, gC_L c1 l, g2, gT_L (gT_K x0 k) l, aV_le v (by omega), fun i hi => aV_le (vh i hi) (by omega), fun h => aV_le (vs h) (by omega)⟩
section PE
variable {M : xM} {s : hS} {u : Nat} {H : Nat → hS} {sf : Nat} {sn : hS}
theorem gK.k2 {M' : xM} (k : gK M M') : gK2 M M' := ⟨k.1, k.2.2⟩
theorem gK2.rf : gK2 M M := ⟨fun _ _ _ => ⟨rfl, rfl⟩, fun _ _ _ => rfl⟩
/-- the present hall behind a prediction -/
theorem gC.pr (g : gC M s u H sf sn) {M' : xM} (g' : gC M' s u H sf sn) (p : M'.2.1 0 = M.2.1 0) : cR (M.2.1 0 0) M' s := by
  have := g'.r
  rw [p] at this
  exact this
theorem cp_sighsWithin (g : gC M s u H sf sn) (i : aM s) {a : Int32} : ∃ M', f_L_sighsWithin a M = some (nI (qSg (ix a) s).1, M') ∧ gC M' s u H sf sn ∧ gK2 M M' ∧ ((qSg (ix a) s).1 = 0 → M'.2.2.1 = (nI (qSg (ix a) s).2.1).toInt64) := by
  unfold f_L_sighsWithin f_X6_sighsWithin qSg
  rw [c_reqp]
  by_cases h : ix a ≤ 60
  · have ea := ix_eq (a := a) (by omega)
    rw [if_pos h, if_pos h]
    generalize ix a = x at h ea ⊢
    subst ea
    obtain ⟨M1, h1, g1, r1, p1, k1⟩ := c_pred g i h
    rw [Option.bind_some, x_case_l, h1, Option.bind_some, if_pos g1.k1, if_pos g1.k0, p1]
    have e1 : M1.1 (M.2.1 0 1) 13 = nI ((aPassL x s).1 6) := r1.sc (j := 6) (by decide)
    have e0 : M1.1 (M.2.1 0 0) 13 = nI (s.1 6) := (g.pr g1 p1).sc (j := 6) (by decide)
    rw [e1, e0, pi_sub (aPassL_6 x s)]
    exact ⟨sJ M1 (nI ((aPassL x s).1 6 - s.1 6)).toInt64, rfl, g1, k1.k2, fun _ => rfl⟩
  · rw [if_neg h, if_neg h]
    exact ⟨M, rfl, g, gK2.rf, fun z => absurd z (show ¬ (1 : Nat) = 0 by decide)⟩
theorem mp_sgL {q v : Nat} (hq : q ≤ 60) : ∀ (m j n : Nat) (M : xM) (g : Nat → Int32) (t : hS), dH g t (aW t) → aG t → j + m = q → m < n → ∃ g', f_X7_sighsWithin_L37 (nI q) (nI v) n (nI j) (mG M 10 g) = some (nI ((aPassL m t).1 6) - nI v, mG M 10 g') ∧ ∀ k, k < 159 → g' k = M.1 12 k
  | 0, j, n, M, g, t, d, i, e, hn => by
    obtain ⟨n, rfl⟩ : ∃ n', n = n' + 1 := ⟨n - 1, by omega⟩
    have e6 : g 6 = nI (t.1 6) := d.sc (j := 6) (by decide)
    obtain ⟨g', h1, h2⟩ := m_nm (M := M) (g := g)
    rw [f_X7_sighsWithin_L37.eq_2, if_pos (nI_le (by omega) (by omega)), if_pos (by decide), h1, Option.bind_some, mG_s, pi_6, pi_cl (by decide), e6]
    exact ⟨g', rfl, h2⟩
  | m + 1, j, n, M, g, t, d, i, e, hn => by
    obtain ⟨n, rfl⟩ : ∃ n', n = n' + 1 := ⟨n - 1, by omega⟩
    obtain ⟨g1, h1, d1⟩ := m_passes (M := mG M 10 g) (by rw [mG_s]; exact d) i
    rw [f_X7_sighsWithin_L37.eq_2, if_neg (nI_ge (by omega) (by omega)), h1, Option.bind_some, mG_g, pi_add1]
    exact mp_sgL hq m (j + 1) n M g1 (aMinute t) d1 (aG_minute i) (by omega) (by omega)
theorem mp_sighsWithin (g : gM M s u H sf sn) (i : aG s) {a : Int32} : ∃ M', f_X7_sighsWithin a M = some (om (qSg (ix a) s), M') ∧ gM M' s u H sf sn ∧ gL M M' ∧ M'.1 9 9 = nI (qSg (ix a) s).1 := by
  unfold f_X7_sighsWithin qSg
  rw [x_let_e, pi_0, m_l0, m_l60, m_rng (by decide) (by decide), Option.bind_some]
  by_cases h : ix a ≤ 60
  · have ea := ix_eq (a := a) (by omega)
    rw [if_pos (show 0 ≤ ix a ∧ ix a ≤ 60 from ⟨Nat.zero_le _, h⟩), if_neg (show ¬ nI 1 = nI 0 by decide), if_pos h, m_th, Option.bind_some, if_pos (by decide)]
    generalize ix a = x at h ea ⊢
    subst ea
    have e6 : (pIn M).1 10 6 = nI (s.1 6) := by rw [pIn_10]; exact g.1.sc (j := 6) (by decide)
    rw [pi_6, pi_cl (by decide), e6]
    obtain ⟨g', h1, h2⟩ := mp_sgL (v := s.1 6) h x 0 xF (pIn M) (M.1 10) s g.1 i (by omega) (by rw [xF_2000]; omega)
    have e1 : mG (pIn M) 10 (M.1 10) = pIn M := by rw [← pIn_10, mG_id]
    rw [e1] at h1
    rw [h1, pi_sub (aPassL_6 x s)]
    obtain ⟨a1, a2, a3⟩ := pIn_ok g i.1.1.1 h2
    exact ⟨_, rfl, a1, a2, a3⟩
  · rw [if_neg (show ¬ (0 ≤ ix a ∧ ix a ≤ 60) from fun z => h z.2), if_pos rfl, if_neg h, pi_1, m_throw]
    exact ⟨_, rfl, gM_L g (by rw [sI_c (by decide), sI_c (by decide)]) (by rw [sI_c (by decide), sI_c (by decide)]) (by rw [sI_c (by decide), sI_c (by decide)]) (by rw [sI_k (by decide), sI_k (by decide)]) (by rw [sI_k (by decide), sI_k (by decide)]), (gL_9 (by omega)).tr (gL_9 (by omega)), sI_s⟩
theorem cp_patienceAfter {B : Nat} (g : gC M s u H sf sn) (v : aV B s) (hB : 13 ≤ B) (hB2 : B < 2 ^ 29) {a c : Int32} : ∃ M', f_L_patienceAfter a c M = some (nI (qPa (ix a) (ix c) s).1, M') ∧ gC M' s u H sf sn ∧ gK2 M M' ∧ ((qPa (ix a) (ix c) s).1 = 0 → M'.2.2.1 = (nI (qPa (ix a) (ix c) s).2.1).toInt64) := by
  have hn := v.1.1.1.1.1
  unfold f_L_patienceAfter f_X6_patienceAfter qPa
  rw [c_req g hn]
  by_cases h : ix a < s.1 0
  · have ea := ix_eq (a := a) (by omega)
    rw [if_pos h, if_pos h, Option.bind_some, x_case_l, c_reqp]
    by_cases h2 : ix c ≤ 60
    · have ec := ix_eq (a := c) (by omega)
      rw [if_pos h2, if_pos h2, Option.bind_some, x_case_l]
      generalize ix a = x at h ea ⊢
      subst ea
      generalize ix c = y at h2 ec ⊢
      subst ec
      obtain ⟨M1, h1, g1, r1, p1, k1⟩ := c_pred g v.1.1 h2
      have r0 := g.pr g1 p1
      have v2 := aV_le (aV_pass y v hB) (show B + 16 * y ≤ B + 960 by omega)
      have t31 := tix31 v2 (by omega)
      have tx := tix31 v (by omega) x h
      rw [h1, Option.bind_some, if_pos g1.k1, if_pos g1.k0, if_pos (pi_in12 (by omega)), p1, pi_cl (by omega), if_pos (r0.ck (by omega)), r0.c (by omega) (by decide), c_tix r1 v2.1.1.1.1.1 tx t31, Option.bind_some]
      have hx : pf (fun i => decide (hC (aPassL y s) i 0 = hC s x 0)) 0 ((aPassL y s).1 0) = aTix (hC s x 0) (aPassL y s) := rfl
      rw [hx]
      cases e : aTix (hC s x 0) (aPassL y s) with
      | none => exact ⟨M1, rfl, g1, k1.k2, fun z => absurd z (show ¬ (3 : Nat) = 0 by decide)⟩
      | some i =>
        have hi := aTix_lt e
        have n2 := v2.1.1.1.1.1
        rw [oI_s, if_neg (pi_ne1 (by omega)), if_pos (pi_in12 (by omega)), pi_cl (by omega), if_pos (r1.ck (by omega)), r1.c (by omega) (by decide)]
        rw [if_pos (show xkd (M.2.1 0 1) = 5 from g.k1)]
        exact ⟨sJ M1 (nI (hC (aPassL y s) i 1)).toInt64, rfl, g1, k1.k2, fun _ => rfl⟩
    · rw [if_neg h2, if_neg h2]
      exact ⟨M, rfl, g, gK2.rf, fun z => absurd z (show ¬ (2 : Nat) = 0 by decide)⟩
  · rw [if_neg h, if_neg h]
    exact ⟨M, rfl, g, gK2.rf, fun z => absurd z (show ¬ (1 : Nat) = 0 by decide)⟩
theorem mp_paL {q T : Nat} (hq : q ≤ 60) (hT : T < 2 ^ 31) : ∀ (m j n : Nat) (M : xM) (g : Nat → Int32) (t : hS) (B : Nat), dH g t (aW t) → aV B t → 13 ≤ B → B + 16 * m < 2 ^ 30 → j + m = q → m < n → ∃ M', f_X7_patienceAfter_L54 (nI q) (nI T) n (nI j) (mG M 10 g) = some (match aTix T (aPassL m t) with | some i => nI (hC (aPassL m t) i 1) | none => mI, M') ∧ ∃ g', (∀ k, k < 159 → g' k = M.1 12 k) ∧ M' = (match aTix T (aPassL m t) with | some _ => mG M 10 g' | none => sI (mG M 10 g') 9 9 (nI 3))
  | 0, j, n, M, g, t, B, d, v, hB, hB2, e, hn => by
    obtain ⟨n, rfl⟩ : ∃ n', n = n' + 1 := ⟨n - 1, by omega⟩
    have h12 := v.1.1.1.1.1
    obtain ⟨g', h1, h2⟩ := m_nm (M := M) (g := g)
    have d1 : dH ((mG M 10 g).1 10) t (aW t) := by rw [mG_s]; exact d
    rw [f_X7_patienceAfter_L54.eq_2, if_pos (nI_le (by omega) (by omega)), m_with d1 h12 hT (tix31 v (by omega)), Option.bind_some]
    show ∃ M', _ = some (match aTix T t with | some i => nI (hC t i 1) | none => mI, M') ∧ _
    cases e : aTix T t with
    | none =>
      rw [oI_n, if_pos rfl, h1, Option.bind_some, if_pos rfl, pi_3, m_throw]
      refine ⟨_, rfl, g', h2, ?_⟩
      show _ = (match aTix T t with | some _ => mG M 10 g' | none => sI (mG M 10 g') 9 9 (nI 3))
      rw [e]
    | some i =>
      have hi := aTix_lt e
      have e1 := d1.p1 hi
      rw [oI_s]
      simp (disch := omega) only [pi_0, pi_1, pi_2, pi_3, pi_4, pi_5, pi_6, pi_7, pi_8, pi_9, pi_10, pi_11, pi_12, pi_13, pi_20, pi_27, pi_30, pi_60, pi_99, pi_115, pi_123, pi_135, pi_136, pi_137, pi_138, pi_139, pi_158, pi_159, pi_1113, m_neg, nI_add, pk_mul, pi_sub, mI_dec, pi_cl, pi_leT, pi_leF, pi_ltT, pi_ltF, pi_eqT, pi_eqF, mI_n, m_in159, ↓reduceIte, Option.bind_some, f_X7_personAt, h1, e1]
      refine ⟨_, rfl, g', h2, ?_⟩
      show _ = (match aTix T t with | some _ => mG M 10 g' | none => sI (mG M 10 g') 9 9 (nI 3))
      rw [e]
  | m + 1, j, n, M, g, t, B, d, v, hB, hB2, e, hn => by
    obtain ⟨n, rfl⟩ : ∃ n', n = n' + 1 := ⟨n - 1, by omega⟩
    obtain ⟨g1, h1, d1⟩ := m_passes (M := mG M 10 g) (by rw [mG_s]; exact d) v.1
    rw [f_X7_patienceAfter_L54.eq_2, if_neg (nI_ge (by omega) (by omega)), h1, Option.bind_some, mG_g, pi_add1]
    exact mp_paL hq hT m (j + 1) n M g1 (aMinute t) (B + 16) d1 (aV_minute v hB) (by omega) (by omega) (by omega) (by omega)
theorem mp_no (g : gM M s u H sf sn) (t : Nat) : gM (sI (sI M 9 9 (nI 0)) 9 9 (nI t)) s u H sf sn ∧ gL M (sI (sI M 9 9 (nI 0)) 9 9 (nI t)) ∧ (sI (sI M 9 9 (nI 0)) 9 9 (nI t)).1 9 9 = nI t := ⟨gM_L g (by rw [sI_c (by decide), sI_c (by decide)]) (by rw [sI_c (by decide), sI_c (by decide)]) (by rw [sI_c (by decide), sI_c (by decide)]) (by rw [sI_k (by decide), sI_k (by decide)]) (by rw [sI_k (by decide), sI_k (by decide)]), (gL_9 (by omega)).tr (gL_9 (by omega)), sI_s⟩
theorem mp_after {M' : xM} (g : gM M' s u H sf sn) (l : gL M M') (t : Nat) : gM (sI M' 9 9 (nI t)) s u H sf sn ∧ gL M (sI M' 9 9 (nI t)) ∧ (sI M' 9 9 (nI t)).1 9 9 = nI t := ⟨gM_L g (sI_c (by decide)) (sI_c (by decide)) (sI_c (by decide)) (sI_k (by decide)) (sI_k (by decide)), l.tr (gL_9 (by omega)), sI_s⟩
theorem mp_patienceAfter {B : Nat} (g : gM M s u H sf sn) (v : aV B s) (hB : 13 ≤ B) (hB2 : B < 2 ^ 29) {a c : Int32} : ∃ M', f_X7_patienceAfter a c M = some (om (qPa (ix a) (ix c) s), M') ∧ gM M' s u H sf sn ∧ gL M M' ∧ M'.1 9 9 = nI (qPa (ix a) (ix c) s).1 := by
  have d1 := d9 g.1
  have hn := v.1.1.1.1.1
  unfold f_X7_patienceAfter qPa
  rw [x_let_e, pi_0]
  by_cases h : ix a < s.1 0
  · have ea := ix_eq (a := a) (by omega)
    rw [if_pos h]
    generalize ix a = x at h ea ⊢
    subst ea
    have tx := tix31 v (by omega) x h
    rw [m_here d1 hn h, Option.bind_some, if_neg (show ¬ nI 1 = nI 0 by decide), m_l0, m_l60, m_rng (by decide) (by decide), Option.bind_some]
    by_cases h2 : ix c ≤ 60
    · have ec := ix_eq (a := c) (by omega)
      rw [if_pos (show 0 ≤ ix c ∧ ix c ≤ 60 from ⟨Nat.zero_le _, h2⟩), if_neg (show ¬ nI 1 = nI 0 by decide), if_pos h2, m_th, Option.bind_some]
      generalize ix c = y at h2 ec ⊢
      subst ec
      have e0 : (pIn M).1 10 (27 + 8 * x) = nI (hC s x 0) := by rw [pIn_10]; exact g.1.p0 h
      rw [f_X7_personAt, Option.bind_some, pi_27, pi_8, pk_mul, nI_add, if_pos (pi_in159 (by omega)), pi_cl (by omega), e0]
      obtain ⟨M', h1, g', h2', h3⟩ := mp_paL h2 tx y 0 xF (pIn M) (M.1 10) s B g.1 v hB (by omega) (by omega) (by rw [xF_2000]; omega)
      have e1 : mG (pIn M) 10 (M.1 10) = pIn M := by rw [← pIn_10, mG_id]
      rw [e1] at h1
      rw [h1]
      obtain ⟨a1, a2, a3⟩ := pIn_ok g v.1.1.1.1 h2'
      cases e : aTix (hC s x 0) (aPassL y s) with
      | none =>
        rw [e] at h3
        subst h3
        exact ⟨_, rfl, mp_after a1 a2 3⟩
      | some i =>
        rw [e] at h3
        subst h3
        exact ⟨_, rfl, a1, a2, a3⟩
    · rw [if_neg (show ¬ (0 ≤ ix c ∧ ix c ≤ 60) from fun z => h2 z.2), if_pos rfl, if_neg h2, pi_2, m_throw]
      exact ⟨_, rfl, mp_no g 2⟩
  · rw [if_neg h, m_herent d1 hn (ix_no (by omega) h), Option.bind_some, if_pos rfl, pi_1, m_throw]
    exact ⟨_, rfl, mp_no g 1⟩
end PE
