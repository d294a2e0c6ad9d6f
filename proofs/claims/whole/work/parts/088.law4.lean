/-! pure: undo, save, restore -/
/-- what the model leaves alone, save and restore too -/
def gL2 (M M' : xM) : Prop := M'.2 = M.2 ∧ (∀ c, (c < 9 ∨ 14 < c) → M'.1 c = M.1 c) ∧ (∀ k, k ≠ 4 → k ≠ 6 → k ≠ 9 → M'.1 9 k = M.1 9 k)
theorem gL2.tr {M M' M'' : xM} (a : gL2 M M') (b : gL2 M' M'') : gL2 M M'' := ⟨b.1.trans a.1, fun c h => (b.2.1 c h).trans (a.2.1 c h), fun k h1 h2 h3 => (b.2.2 k h1 h2 h3).trans (a.2.2 k h1 h2 h3)⟩
theorem gL2_G {M : xM} {c : Nat} {g : Nat → Int32} (h1 : 9 < c) (h2 : c < 15) : gL2 M (mG M c g) := ⟨rfl, fun d h => mG_n (by omega), fun k _ _ _ => by rw [mG_n (by omega)]⟩
theorem gL2_9 {M : xM} {k : Nat} {v : Int32} (h : k = 4 ∨ k = 6 ∨ k = 9) : gL2 M (sI M 9 k v) := ⟨rfl, fun d h => sI_c (by omega), fun k' h1 h2 h3 => sI_k (by omega)⟩
section G2
variable {M M' : xM} {ef fl L : Nat} {t : Nat → Nat} {O : Nat} {o : Nat → Nat} {s : hS} {u : Nat} {H : Nat → hS} {sf : Nat} {sn : hS}
theorem gT_L2 (g : gT M ef fl L t O o) (l : gL2 M M') : gT M' ef fl L t O o := by
  obtain ⟨⟨a1, a2, a3, a4⟩, ⟨b1, b2, b3, b4, b5, b6, b7, b8⟩, r⟩ := g
  have e := l.2.1
  have p : ∀ c, M'.2.1 c = M.2.1 c := fun c => by rw [l.1]
  refine ⟨⟨?_, ?_, sB_same a3 (e 4 (by decide)) (e 5 (by decide)) (p 5), sB_same a4 (e 6 (by decide)) (e 7 (by decide)) (p 7)⟩, ⟨?_, ?_, ?_, ?_, ?_, ?_, ?_, ?_⟩, r⟩
  · rw [e 0 (by decide)]; exact a1
  · rw [e 0 (by decide)]; exact a2
  · rw [l.2.2 7 (by decide) (by decide) (by decide)]; exact b1
  · rw [l.2.2 8 (by decide) (by decide) (by decide)]; exact b2
  · rw [l.2.2 11 (by decide) (by decide) (by decide)]; exact b3
  · rw [e 15 (by decide)]; exact b4
  · rw [l.2.2 13 (by decide) (by decide) (by decide)]; exact b5
  · rw [e 16 (by decide)]; exact b6
  · rw [e 17 (by decide)]; exact b7
  · rw [e 18 (by decide)]; exact b8
theorem gC_L2 (g : gC M s u H sf sn) (l : gL2 M M') : gC M' s u H sf sn := by
  have e0 : M'.1 0 = M.1 0 := l.2.1 0 (by decide)
  have p : ∀ c, M'.2.1 c = M.2.1 c := fun c => by rw [l.1]
  have hp : ∀ i, gP M' i = gP M i := fun i => by unfold gP; rw [p, p]
  have sm : ∀ i, i < 11 → ∀ c, gP M i ≤ c → c < gP M i + 21 → M'.1 c = M.1 c ∧ M'.2.1 c = M.2.1 c := fun i hi c h1 h2 => by
    have := g.ge hi
    exact ⟨l.2.1 c (by omega), p c⟩
  refine ⟨fun i hi => ?_, fun i j hi hj e => ?_, ?_, fun i hi => ?_, fun h => ?_, ?_, g.2.2.2.2.2.2.1, ?_, g.2.2.2.2.2.2.2.2⟩
  · rw [hp]; exact cV_same (sm i hi) (g.1 i hi)
  · rw [hp, hp] at e; exact g.2.1 i j hi hj e
  · rw [hp]; exact cR_same (sm 0 (by decide)) g.2.2.1
  · rw [hp]; exact cR_same (sm (3 + i) (by have := g.2.2.2.2.2.2.1; omega)) (g.2.2.2.1 i hi)
  · rw [hp]; exact cR_same (sm 2 (by decide)) (g.2.2.2.2.1 h)
  · rw [e0]; exact g.2.2.2.2.2.1
  · rw [e0]; exact g.2.2.2.2.2.2.2.1
def qUndo (u : Nat) (s : hS) : Nat × Nat × hS := if u = 0 then (1, 0, s) else (0, u - 1, s)
def sgu (v i : Nat) : Nat := if i = 0 then 3 + v else if i = 3 + v then 0 else i
theorem c_undo (g : gC M s u H sf sn) : ∃ M', f_L_undo M = some (nI (qUndo u s).1, M') ∧ gK2 M M' ∧ ((qUndo u s).1 = 0 → M'.2.2.1 = (nI (qUndo u s).2.1).toInt64) ∧ (u ≠ 0 → gC M' (H (u - 1)) (u - 1) H sf sn) ∧ (u = 0 → M' = M) := by
  have e5 := g.2.2.2.2.2.1
  have h8 := g.2.2.2.2.2.2.1
  unfold f_L_undo f_X6_undo qUndo
  rw [e5]
  by_cases z : u = 0
  · rw [if_pos (by rw [z]; rfl), if_pos z]
    exact ⟨M, rfl, ⟨fun _ _ _ => ⟨rfl, rfl⟩, fun _ _ _ => rfl⟩, fun h => absurd h (show ¬ (1 : Nat) = 0 by decide), fun h => absurd z h, fun _ => rfl⟩
  · obtain ⟨v, rfl⟩ : ∃ v, u = v + 1 := ⟨u - 1, by omega⟩
    have kh := g.kh (i := v) (by omega)
    rw [if_neg (by rw [pi_z (by omega)]; omega), if_neg z, pi_sub1 (by omega), Nat.add_sub_cancel]
    simp only [x_let_e]
    rw [sI_s, if_pos (pi_in (by omega) (by decide)), pi_cl (by omega)]
    rw [if_pos (show xkd ((sI M 0 5 (nI v)).2.1 0 0) = 5 from g.k0), if_pos (show xkd ((sI M 0 5 (nI v)).2.1 1 v) = 5 from kh)]
    have e6 : (sP (sI M 0 5 (nI v)) 0 0 ((sI M 0 5 (nI v)).2.1 1 v)).1 0 5 = nI v := (show (sI M 0 5 (nI v)).1 0 5 = nI v from sI_s)
    rw [e6, if_pos (pi_in (by omega) (by decide)), pi_cl (by omega)]
    have P : ∀ c k, (sP (sP (sI M 0 5 (nI v)) 0 0 ((sI M 0 5 (nI v)).2.1 1 v)) 1 v ((sI M 0 5 (nI v)).2.1 0 0)).2.1 c k = if c = 0 ∧ k = 0 then M.2.1 1 v else if c = 1 ∧ k = v then M.2.1 0 0 else M.2.1 c k := fun c k => by
      rw [sP_at, sP_at]
      show (if c = 1 ∧ k = v then M.2.1 0 0 else if c = 0 ∧ k = 0 then M.2.1 1 v else M.2.1 c k) = _
      (repeat' split) <;> first | rfl | (exfalso; omega)
    have I1 : (sP (sP (sI M 0 5 (nI v)) 0 0 ((sI M 0 5 (nI v)).2.1 1 v)) 1 v ((sI M 0 5 (nI v)).2.1 0 0)).1 = (sI M 0 5 (nI v)).1 := rfl
    generalize sP (sP (sI M 0 5 (nI v)) 0 0 ((sI M 0 5 (nI v)).2.1 1 v)) 1 v ((sI M 0 5 (nI v)).2.1 0 0) = M1 at P I1 ⊢
    have e7 : M1.1 0 5 = nI v := by rw [I1, sI_s]
    rw [e7]
    have hp : ∀ i, i < 11 → gP M1 i = gP M (sgu v i) := fun i hi => by
      unfold gP sgu
      rw [P, P]
      (repeat' split) <;> first | rfl | (exfalso; omega) | exact congrArg (M.2.1 1) (by omega) | exact congrArg (M.2.1 0) (by omega)
    have hm : ∀ c, 22 ≤ c → M1.1 c = M.1 c ∧ M1.2.1 c = M.2.1 c := fun c hc => ⟨by rw [I1, sI_c (by omega)], funext fun k => by rw [P, if_neg (by omega), if_neg (by omega)]⟩
    obtain ⟨p1, p2, p3⟩ := gC_perm g (M' := M1) (sgu v) (fun i hi => by unfold sgu; (repeat' split) <;> omega) (fun i j hi hj z => by
      unfold sgu at z
      revert z
      (repeat' split) <;> omega) hp hm
    refine ⟨sJ M1 (nI v).toInt64, rfl, ⟨fun c h1 h2 => ⟨?_, ?_⟩, fun k _ h => ?_⟩, fun _ => rfl, fun _ => ?_, fun h => absurd h z⟩
    · show M1.1 c = _
      rw [I1, sI_c (by omega)]
    · show M1.2.1 c = _
      exact funext fun k => by rw [P, if_neg (by omega), if_neg (by omega)]
    · show M1.1 0 k = _
      rw [I1, sI_k h]
    · show gC M1 (H v) v H sf sn
      refine ⟨p1, p2, ?_, fun i hi => ?_, fun h => ?_, e7, by omega, ?_, g.2.2.2.2.2.2.2.2⟩
      · refine p3 0 _ (by decide) ?_
        have : sgu v 0 = 3 + v := rfl
        rw [this]
        exact g.2.2.2.1 v (by omega)
      · refine p3 (3 + i) _ (by omega) ?_
        have : sgu v (3 + i) = 3 + i := by unfold sgu; (repeat' split) <;> omega
        rw [this]
        exact g.2.2.2.1 i (by omega)
      · refine p3 2 _ (by decide) ?_
        have : sgu v 2 = 2 := by unfold sgu; (repeat' split) <;> omega
        rw [this]
        exact g.2.2.2.2.1 h
      · rw [I1, sI_k (by decide)]; exact g.2.2.2.2.2.2.2.1
theorem m_undoL {v : Nat} (hv : v < 8) : ∀ (m k n : Nat) (M : xM), M.1 9 6 = nI v → k + m = 159 → m < n → f_X7_undo_L30 n (nI k) M = some (nI v, mG M 10 (fun x => if k ≤ x ∧ x < 159 then M.1 14 (159 * v + x) else M.1 10 x))
  | 0, k, n, M, e6, e, hn => by
    obtain ⟨n, rfl⟩ : ∃ n', n = n' + 1 := ⟨n - 1, by omega⟩
    rw [f_X7_undo_L30.eq_2]
    simp (disch := omega) only [pi_0, pi_1, pi_2, pi_3, pi_4, pi_5, pi_6, pi_7, pi_8, pi_9, pi_10, pi_11, pi_12, pi_13, pi_20, pi_27, pi_30, pi_60, pi_99, pi_115, pi_123, pi_135, pi_136, pi_137, pi_138, pi_139, pi_158, pi_159, pi_1113, m_neg, pi_leT, ↓reduceIte, e6]
    have : (fun x => if k ≤ x ∧ x < 159 then M.1 14 (159 * v + x) else M.1 10 x) = M.1 10 := funext fun x => if_neg (by omega)
    rw [this, mG_id]
  | m + 1, k, n, M, e6, e, hn => by
    obtain ⟨n, rfl⟩ : ∃ n', n = n' + 1 := ⟨n - 1, by omega⟩
    rw [f_X7_undo_L30.eq_2]
    simp (disch := omega) only [↓x_let_e, ↓reduceIte, pi_0, pi_1, pi_2, pi_3, pi_4, pi_5, pi_6, pi_7, pi_8, pi_9, pi_10, pi_11, pi_12, pi_13, pi_20, pi_27, pi_30, pi_60, pi_99, pi_115, pi_123, pi_135, pi_136, pi_137, pi_138, pi_139, pi_158, pi_159, pi_1113, m_neg, nI_add, pk_mul, pi_sub, mI_dec, pi_cl, pi_leT, pi_leF, pi_ltT, pi_ltF, pi_eqT, pi_eqF, mI_n, m_in159, Option.bind_some, f_X7_personAt, f_X7_windowAt, mG_i, mG_g, mG_s, pk_us, pk_un, e6, m_in1272]
    rw [m_undoL hv m (k + 1) n _ (by simp (disch := omega) only [mG_n, e6]) (by omega) (by omega)]
    simp (disch := omega) only [mG_g, mG_s, mG_n]
    congr 3
    funext x
    simp only [upd]
    (repeat' split) <;> first | rfl | (exfalso; omega) | (exact congrArg _ (by omega))
theorem m_saveL : ∀ (m k n : Nat) (M : xM) (c : Nat), M.1 10 0 = nI c → k + m = 159 → m < n → f_X7_save_L7 n (nI k) M = some (nI c, sI (mG M 13 (fun x => if k ≤ x ∧ x < 159 then M.1 10 x else M.1 13 x)) 9 4 (nI 1))
  | 0, k, n, M, c, e0, e, hn => by
    obtain ⟨n, rfl⟩ : ∃ n', n = n' + 1 := ⟨n - 1, by omega⟩
    rw [f_X7_save_L7.eq_2]
    simp (disch := omega) only [pi_0, pi_1, pi_2, pi_3, pi_4, pi_5, pi_6, pi_7, pi_8, pi_9, pi_10, pi_11, pi_12, pi_13, pi_20, pi_27, pi_30, pi_60, pi_99, pi_115, pi_123, pi_135, pi_136, pi_137, pi_138, pi_139, pi_158, pi_159, pi_1113, m_neg, pi_leT, ↓reduceIte, x_let_e, m_in159, pi_cl]
    have : (fun x => if k ≤ x ∧ x < 159 then M.1 10 x else M.1 13 x) = M.1 13 := funext fun x => if_neg (by omega)
    rw [this, mG_id, sI_c (by decide), e0]
  | m + 1, k, n, M, c, e0, e, hn => by
    obtain ⟨n, rfl⟩ : ∃ n', n = n' + 1 := ⟨n - 1, by omega⟩
    rw [f_X7_save_L7.eq_2]
    simp (disch := omega) only [↓x_let_e, ↓reduceIte, pi_0, pi_1, pi_2, pi_3, pi_4, pi_5, pi_6, pi_7, pi_8, pi_9, pi_10, pi_11, pi_12, pi_13, pi_20, pi_27, pi_30, pi_60, pi_99, pi_115, pi_123, pi_135, pi_136, pi_137, pi_138, pi_139, pi_158, pi_159, pi_1113, m_neg, nI_add, pk_mul, pi_sub, mI_dec, pi_cl, pi_leT, pi_leF, pi_ltT, pi_ltF, pi_eqT, pi_eqF, mI_n, m_in159, Option.bind_some, f_X7_personAt, f_X7_windowAt, mG_i, mG_g, mG_s, pk_us, pk_un]
    rw [m_saveL m (k + 1) n _ c (by simp (disch := omega) only [mG_n, e0]) (by omega) (by omega)]
    simp (disch := omega) only [mG_g, mG_s, mG_n]
    congr 4
    funext x
    simp only [upd]
    (repeat' split) <;> first | rfl | (exfalso; omega) | (exact congrArg _ (by omega))
theorem m_restL : ∀ (m k n : Nat) (M : xM) (c : Nat), M.1 13 0 = nI c → (k = 0 ∨ M.1 10 0 = nI c) → k + m = 159 → m < n → f_X7_restore_L20 n (nI k) M = some (nI c, sI (mG M 10 (fun x => if k ≤ x ∧ x < 159 then M.1 13 x else M.1 10 x)) 9 6 (nI 0))
  | 0, k, n, M, c, e0, e1, e, hn => by
    obtain ⟨n, rfl⟩ : ∃ n', n = n' + 1 := ⟨n - 1, by omega⟩
    rw [f_X7_restore_L20.eq_2]
    simp (disch := omega) only [pi_0, pi_1, pi_2, pi_3, pi_4, pi_5, pi_6, pi_7, pi_8, pi_9, pi_10, pi_11, pi_12, pi_13, pi_20, pi_27, pi_30, pi_60, pi_99, pi_115, pi_123, pi_135, pi_136, pi_137, pi_138, pi_139, pi_158, pi_159, pi_1113, m_neg, pi_leT, ↓reduceIte, x_let_e, m_in159, pi_cl]
    have : (fun x => if k ≤ x ∧ x < 159 then M.1 13 x else M.1 10 x) = M.1 10 := funext fun x => if_neg (by omega)
    rw [this, mG_id, sI_c (by decide), e1.resolve_left (by omega)]
  | m + 1, k, n, M, c, e0, e1, e, hn => by
    obtain ⟨n, rfl⟩ : ∃ n', n = n' + 1 := ⟨n - 1, by omega⟩
    rw [f_X7_restore_L20.eq_2]
    simp (disch := omega) only [↓x_let_e, ↓reduceIte, pi_0, pi_1, pi_2, pi_3, pi_4, pi_5, pi_6, pi_7, pi_8, pi_9, pi_10, pi_11, pi_12, pi_13, pi_20, pi_27, pi_30, pi_60, pi_99, pi_115, pi_123, pi_135, pi_136, pi_137, pi_138, pi_139, pi_158, pi_159, pi_1113, m_neg, nI_add, pk_mul, pi_sub, mI_dec, pi_cl, pi_leT, pi_leF, pi_ltT, pi_ltF, pi_eqT, pi_eqF, mI_n, m_in159, Option.bind_some, f_X7_personAt, f_X7_windowAt, mG_i, mG_g, mG_s, pk_us, pk_un]
    rw [m_restL m (k + 1) n _ c (by simp (disch := omega) only [mG_n, e0]) (.inr (by
      rw [mG_s]
      by_cases z : k = 0
      · subst z; rw [pk_us]; exact e0
      · rw [pk_un (by omega)]; exact e1.resolve_left z)) (by omega) (by omega)]
    simp (disch := omega) only [mG_g, mG_s, mG_n]
    congr 4
    funext x
    simp only [upd]
    (repeat' split) <;> first | rfl | (exfalso; omega) | (exact congrArg _ (by omega))
end G2
theorem lc_51 {B : Nat} {M : xM} {sc : Nat → Int32} {L : Nat} {I : Int32} (g : gR B M) : ∃ M', f_law_c51 sc L I M = some M' ∧ gR (B + 400) M' := by
  obtain ⟨s, u, H, sf, sn, ef, fl, Ln, t, O, o, c0, g0, x0, v, vh, vs⟩ := g
  obtain ⟨M1, h1, k1, j1, c1, c2⟩ := c_undo c0
  have g1 := gM_K g0 k1
  have x1 := gT_K x0 k1
  have h8 := c0.2.2.2.2.2.2.1
  have e6 : M1.1 9 6 = nI u := g1.2.2.2.1
  unfold f_law_c51
  rw [h1, Option.bind_some]
  unfold f_X7_undo
  rw [x_let_e, pi_0, sI_k (by decide), e6]
  unfold qUndo at h1 j1 ⊢
  by_cases z : u = 0
  · rw [if_pos (by rw [z]), if_pos z, pi_1, m_throw, Option.bind_some]
    have e := c2 z
    subst e
    refine ⟨_, rfl, ?_⟩
    exact gR_le (gR_N ⟨s, u, H, sf, sn, ef, fl, Ln, t, O, o, c0, g0, x0, v, vh, vs⟩ (gN_9.tr gN_9)) (by omega)
  · rw [if_neg z] at j1 ⊢
    obtain ⟨w, rfl⟩ : ∃ w, u = w + 1 := ⟨u - 1, by omega⟩
    have j1 := j1 rfl
    have c1 := c1 z
    rw [Nat.add_sub_cancel] at j1 c1 ⊢
    rw [if_neg (by rw [nI_eq (by omega) (by decide)]; omega), pi_1, pi_sub (by omega), Nat.add_sub_cancel, x_let_e]
    rw [m_undoL (v := w) (by omega) 159 0 xF _ sI_s (by omega) (by rw [xF_2000]; omega), Option.bind_some]
    have l2 : gL2 M1 (mG (sI (sI M1 9 9 (nI 0)) 9 6 (nI w)) 10 (fun x => if 0 ≤ x ∧ x < 159 then (sI (sI M1 9 9 (nI 0)) 9 6 (nI w)).1 14 (159 * w + x) else (sI (sI M1 9 9 (nI 0)) 9 6 (nI w)).1 10 x)) := ((gL2_9 (by omega)).tr (gL2_9 (by omega))).tr (gL2_G (by decide) (by decide))
    have e14 : (sI (sI M1 9 9 (nI 0)) 9 6 (nI w)).1 14 = M1.1 14 := by rw [sI_c (by decide), sI_c (by decide)]
    have e13 : (sI (sI M1 9 9 (nI 0)) 9 6 (nI w)).1 13 = M1.1 13 := by rw [sI_c (by decide), sI_c (by decide)]
    rw [e14] at l2 ⊢
    have bw := (vh w (by omega)).1.1.1.1
    refine ⟨_, ?_, H w, w, H, sf, sn, ef, fl, Ln, t, O, o, gC_L2 c1 l2, ⟨?_, fun i hi => ?_, fun h => ?_, ?_, by omega, ?_, g1.2.2.2.2.2.2⟩, gT_L2 x1 l2, aV_le (vh w (by omega)) (by omega), fun i hi => aV_le (vh i (by omega)) (by omega), fun h => aV_le (vs h) (by omega)⟩
    · have := lw_cmp (M2 := mG (sI (sI M1 9 9 (nI 0)) 9 6 (nI w)) 10 (fun x => if 0 ≤ x ∧ x < 159 then M1.1 14 (159 * w + x) else (sI (sI M1 9 9 (nI 0)) 9 6 (nI w)).1 10 x)) (o := (0, w, s)) (by rw [mG_n (by decide), sI_k (by decide), sI_s]) (show (0 : Nat) < 2 ^ 31 by decide) (fun _ => j1)
      exact this
    · rw [mG_s]
      exact dH_ext (g1.2.1 w (by omega)) bw.1 bw.2.1 fun k hk => if_pos ⟨Nat.zero_le _, hk⟩
    · rw [mG_n (by decide), e14]; exact g1.2.1 i (by omega)
    · rw [mG_n (by decide), e13]; exact g1.2.2.1 h
    · rw [mG_n (by decide), sI_s]
    · rw [mG_n (by decide), sI_k (by decide), sI_k (by decide)]; exact g1.2.2.2.2.2.1
theorem lc_52 {B : Nat} {M : xM} {sc : Nat → Int32} {L : Nat} {I : Int32} (g : gR B M) : ∃ M', f_law_c52 sc L I M = some M' ∧ gR (B + 400) M' := by
  obtain ⟨s, u, H, sf, sn, ef, fl, Ln, t, O, o, c0, g0, x0, v, vh, vs⟩ := g
  have b := v.1.1.1.1
  have h8 := c0.2.2.2.2.2.2.1
  have ge2 : 22 ≤ M.2.1 0 2 := c0.ge (i := 2) (by decide)
  obtain ⟨M1, h1, r1, f1⟩ := c_copy c0.r (h := M.2.1 0 2) (fun e => by have := c0.2.1 2 0 (by decide) (by decide) e; cases this) (c0.1 2 (by decide))
  have e00 := f1.1 0 (by omega)
  have e01 := f1.1 1 (by omega)
  unfold f_law_c52 f_X6_save
  have k1 : xkd ((sI M1 0 3 (nI 1)).2.1 0 0) = 5 := by rw [sI_2, e00.2]; exact c0.k0
  have n1 : (sI M1 0 3 (nI 1)).1 (M.2.1 0 0) 1 = nI (s.1 0) := by
    have ge0 : 22 ≤ M.2.1 0 0 := c0.ge (i := 0) (by decide)
    rw [sI_c (by omega)]
    have := (cR_same (cF_same c0.k2 c0.k0 (fun e => by have := c0.2.1 0 2 (by decide) (by decide) e; cases this) f1) c0.r).n
    exact this
  rw [if_pos c0.k2, if_pos c0.k0, h1, Option.bind_some, x_let_e, pi_1, if_pos k1, Option.bind_some, sI_2, e00.2, n1]
  have hp : ∀ i, gP (sI M1 0 3 (nI 1)) i = gP M i := fun i => by unfold gP; rw [sI_2, e00.2, e01.2]
  have sm : ∀ i, i < 11 → i ≠ 2 → ∀ c, gP M i ≤ c → c < gP M i + 21 → (sI M1 0 3 (nI 1)).1 c = M.1 c ∧ (sI M1 0 3 (nI 1)).2.1 c = M.2.1 c := fun i hi h2 c a1 a2 => by
    have := c0.ge hi
    rw [sI_c (by omega), sI_2]
    exact cF_same c0.k2 (c0.k hi) (fun e => h2 (c0.2.1 i 2 hi (by decide) e)) f1 c a1 a2
  have sm2 : ∀ c, gP M 2 ≤ c → c < gP M 2 + 21 → (sI M1 0 3 (nI 1)).1 c = M1.1 c ∧ (sI M1 0 3 (nI 1)).2.1 c = M1.2.1 c := fun c a1 a2 => by
    have := c0.ge (i := 2) (by decide)
    rw [sI_c (by omega), sI_2]
    exact ⟨rfl, rfl⟩
  have kk : gK2 M (sI M1 0 3 (nI 1)) := ⟨fun c a1 a2 => by rw [sI_c (by omega), sI_2]; exact f1.1 c (by omega), fun k a1 a2 => by rw [sI_k a1, e00.1]⟩
  have c1 : gC (sI M1 0 3 (nI 1)) s u H 1 s := by
    refine ⟨fun i hi => ?_, fun i j hi hj e => ?_, ?_, fun i hi => ?_, fun _ => ?_, ?_, h8, sI_s, Nat.le_refl _⟩
    · rw [hp]
      by_cases h2 : i = 2
      · subst h2; exact cV_same sm2 r1.1
      · exact cV_same (sm i hi h2) (c0.1 i hi)
    · rw [hp, hp] at e; exact c0.2.1 i j hi hj e
    · rw [hp]; exact cR_same (sm 0 (by decide) (by decide)) c0.2.2.1
    · rw [hp]; exact cR_same (sm (3 + i) (by omega) (by omega)) (c0.2.2.2.1 i hi)
    · rw [hp]; exact cR_same sm2 r1
    · rw [sI_k (by decide), e00.1]; exact c0.2.2.2.2.2.1
  generalize sI M1 0 3 (nI 1) = M2 at kk c1
  have g1 := gM_K g0 kk
  have x1 := gT_K x0 kk
  unfold f_X7_save
  have e0 : (sI M2 9 9 (nI 0)).1 10 0 = nI (s.1 0) := by rw [sI_c (by decide)]; exact g1.1.n
  rw [x_let_e, pi_0, m_saveL 159 0 xF _ (s.1 0) e0 (by omega) (by rw [xF_2000]; omega), Option.bind_some]
  have l2 : gL2 M2 (sI (mG (sI M2 9 9 (nI 0)) 13 (fun x => if 0 ≤ x ∧ x < 159 then (sI M2 9 9 (nI 0)).1 10 x else (sI M2 9 9 (nI 0)).1 13 x)) 9 4 (nI 1)) := ((gL2_9 (by omega)).tr (gL2_G (by decide) (by decide))).tr (gL2_9 (by omega))
  refine ⟨_, if_pos rfl, s, u, H, 1, s, ef, fl, Ln, t, O, o, gC_L2 c1 l2, ⟨?_, fun i hi => ?_, fun _ => ?_, ?_, h8, ?_, Nat.le_refl _⟩, gT_L2 x1 l2, aV_le v (by omega), fun i hi => aV_le (vh i hi) (by omega), fun _ => aV_le v (by omega)⟩
  · rw [sI_c (by decide), mG_n (by decide), sI_c (by decide)]; exact g1.1
  · rw [sI_c (by decide), mG_n (by decide), sI_c (by decide)]; exact g1.2.1 i hi
  · rw [sI_c (by decide), mG_s]
    refine dH_ext g1.1 b.1 b.2.1 fun k hk => ?_
    rw [if_pos ⟨Nat.zero_le _, hk⟩, sI_c (by decide)]
  · rw [sI_k (by decide), mG_n (by decide), sI_k (by decide)]; exact g1.2.2.2.1
  · rw [sI_s]
def qRest (f : Nat) (s : hS) : Nat × Nat × hS := if f = 0 then (1, 0, s) else (0, s.1 0, s)
theorem lc_53 {B : Nat} {M : xM} {sc : Nat → Int32} {L : Nat} {I : Int32} (g : gR B M) : ∃ M', f_law_c53 sc L I M = some M' ∧ gR (B + 400) M' := by
  obtain ⟨s, u, H, sf, sn, ef, fl, Ln, t, O, o, c0, g0, x0, v, vh, vs⟩ := g
  have e3 := c0.2.2.2.2.2.2.2.1
  have h1f := c0.2.2.2.2.2.2.2.2
  unfold f_law_c53 f_L_restore f_X6_restore
  rw [e3]
  by_cases z : sf = 0
  · have e4 : M.1 9 4 = nI sf := g0.2.2.2.2.2.1
    rw [if_pos (by rw [z]; rfl)]
    show ∃ M', (f_X7_restore M).bind _ = some M' ∧ _
    unfold f_X7_restore
    rw [x_let_e, pi_0, sI_k (by decide), e4, if_pos (by rw [z]), pi_1, m_throw, Option.bind_some, Option.bind_some]
    refine ⟨_, rfl, ?_⟩
    exact gR_le (gR_N ⟨s, u, H, sf, sn, ef, fl, Ln, t, O, o, c0, g0, x0, v, vh, vs⟩ (gN_9.tr gN_9)) (by omega)
  · have rn := c0.2.2.2.2.1 z
    have bn := (vs z).1.1.1.1
    have ge0 : 22 ≤ M.2.1 0 0 := c0.ge (i := 0) (by decide)
    obtain ⟨M1, h1, r1, f1⟩ := c_copy rn (h := M.2.1 0 0) (fun e => by have := c0.2.1 0 2 (by decide) (by decide) e; cases this) (c0.1 0 (by decide))
    have e00 := f1.1 0 (by omega)
    have e01 := f1.1 1 (by omega)
    have h1 : f_X3_copyFrom (M.2.1 0 0) (M.2.1 0 2) M = some M1 := h1
    have k1 : xkd ((sI M1 0 5 (nI 0)).2.1 0 0) = 5 := by rw [sI_2, e00.2]; exact c0.k0
    have n1 : (sI M1 0 5 (nI 0)).1 (M.2.1 0 0) 1 = nI (sn.1 0) := by
      rw [sI_c (by omega)]
      exact r1.n
    rw [if_neg (by rw [pi_z (by omega)]; exact z), if_pos c0.k0, if_pos c0.k2, h1, Option.bind_some, x_let_e, pi_0, if_pos k1, sI_2, e00.2, n1, Option.bind_some]
    have hp : ∀ i, gP (sI M1 0 5 (nI 0)) i = gP M i := fun i => by unfold gP; rw [sI_2, e00.2, e01.2]
    have sm : ∀ i, i < 11 → i ≠ 0 → ∀ c, gP M i ≤ c → c < gP M i + 21 → (sI M1 0 5 (nI 0)).1 c = M.1 c ∧ (sI M1 0 5 (nI 0)).2.1 c = M.2.1 c := fun i hi h2 c a1 a2 => by
      have := c0.ge hi
      rw [sI_c (by omega), sI_2]
      exact cF_same c0.k0 (c0.k hi) (fun e => h2 (c0.2.1 i 0 hi (by decide) e)) f1 c a1 a2
    have sm2 : ∀ c, gP M 0 ≤ c → c < gP M 0 + 21 → (sI M1 0 5 (nI 0)).1 c = M1.1 c ∧ (sI M1 0 5 (nI 0)).2.1 c = M1.2.1 c := fun c a1 a2 => by
      have := c0.ge (i := 0) (by decide)
      rw [sI_c (by omega), sI_2]
      exact ⟨rfl, rfl⟩
    have kk : gK2 M (sI M1 0 5 (nI 0)) := ⟨fun c a1 a2 => by rw [sI_c (by omega), sI_2]; exact f1.1 c (by omega), fun k a1 a2 => by rw [sI_k a2, e00.1]⟩
    have c1 : gC (sI M1 0 5 (nI 0)) sn 0 H sf sn := by
      refine ⟨fun i hi => ?_, fun i j hi hj e => ?_, ?_, fun i hi => absurd hi (Nat.not_lt_zero _), fun _ => ?_, sI_s, Nat.zero_le _, ?_, h1f⟩
      · rw [hp]
        by_cases h2 : i = 0
        · subst h2; exact cV_same sm2 r1.1
        · exact cV_same (sm i hi h2) (c0.1 i hi)
      · rw [hp, hp] at e; exact c0.2.1 i j hi hj e
      · rw [hp]; exact cR_same sm2 r1
      · rw [hp]; exact cR_same (sm 2 (by decide) (by decide)) rn
      · rw [sI_k (by decide), e00.1]; exact e3
    generalize sI M1 0 5 (nI 0) = M2 at kk c1
    have c2 : gC (sJ M2 (nI (sn.1 0)).toInt64) sn 0 H sf sn := c1
    have kk2 : gK2 M (sJ M2 (nI (sn.1 0)).toInt64) := kk
    have jj : (sJ M2 (nI (sn.1 0)).toInt64).2.2.1 = (nI (sn.1 0)).toInt64 := rfl
    show ∃ M', (f_X7_restore (sJ M2 (nI (sn.1 0)).toInt64)).bind _ = some M' ∧ _
    generalize sJ M2 (nI (sn.1 0)).toInt64 = M3 at c2 kk2 jj ⊢
    have g1 := gM_K g0 kk2
    have x1 := gT_K x0 kk2
    have dn := g1.2.2.1 z
    have e4 : M3.1 9 4 = nI sf := g1.2.2.2.2.2.1
    unfold f_X7_restore
    have e0 : (sI M3 9 9 (nI 0)).1 13 0 = nI (sn.1 0) := by rw [sI_c (by decide)]; exact dn.n
    rw [x_let_e, pi_0, sI_k (by decide), e4, if_neg (by rw [nI_eq (by omega) (by decide)]; exact z), m_restL 159 0 xF _ (sn.1 0) e0 (.inl rfl) (by omega) (by rw [xF_2000]; omega), Option.bind_some]
    have l2 : gL2 M3 (sI (mG (sI M3 9 9 (nI 0)) 10 (fun x => if 0 ≤ x ∧ x < 159 then (sI M3 9 9 (nI 0)).1 13 x else (sI M3 9 9 (nI 0)).1 10 x)) 9 6 (nI 0)) := ((gL2_9 (by omega)).tr (gL2_G (by decide) (by decide))).tr (gL2_9 (by omega))
    refine ⟨_, ?_, sn, 0, H, sf, sn, ef, fl, Ln, t, O, o, gC_L2 c2 l2, ⟨?_, fun i hi => absurd hi (Nat.not_lt_zero _), fun _ => ?_, ?_, Nat.zero_le _, ?_, h1f⟩, gT_L2 x1 l2, aV_le (vs z) (by omega), fun i hi => absurd hi (Nat.not_lt_zero _), fun h => aV_le (vs h) (by omega)⟩
    · have := lw_cmp (M2 := sI (mG (sI M3 9 9 (nI 0)) 10 (fun x => if 0 ≤ x ∧ x < 159 then (sI M3 9 9 (nI 0)).1 13 x else (sI M3 9 9 (nI 0)).1 10 x)) 9 6 (nI 0)) (o := (0, sn.1 0, s)) (by rw [sI_k (by decide), mG_n (by decide), sI_s]) (show (0 : Nat) < 2 ^ 31 by decide) (fun _ => jj)
      exact this
    · rw [sI_c (by decide), mG_s]
      refine dH_ext dn bn.1 bn.2.1 fun k hk => ?_
      rw [if_pos ⟨Nat.zero_le _, hk⟩, sI_c (by decide)]
    · rw [sI_c (by decide), mG_n (by decide), sI_c (by decide)]; exact dn
    · rw [sI_s]
    · rw [sI_k (by decide), mG_n (by decide), sI_k (by decide)]; exact e4
