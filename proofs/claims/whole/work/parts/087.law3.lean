/-! pure: the plain questions, second -/
section QS2
variable {M : xM} {s : hS} {u : Nat} {H : Nat → hS} {sf : Nat} {sn : hS}
def qPos (x : Nat) (s : hS) : Nat × Nat × hS := if x < s.1 0 then (match aPos s x with | some p => (0, p, s) | none => (2, 0, s)) else (1, 0, s)
def qWin (x : Nat) (s : hS) : Nat × Nat × hS := if x < s.1 0 then (if aW s x = 0 then (2, 0, s) else (0, aW s x - 1, s)) else (1, 0, s)
def qAtP (x : Nat) (s : hS) : Nat × Nat × hS := if x < s.1 7 then (0, hQ s x, s) else (1, 0, s)
def qOpT (x : Nat) (s : hS) : Nat × Nat × hS := if x < 3 then (0, hW s x 0, s) else (1, 0, s)
def qPac (x : Nat) (s : hS) : Nat × Nat × hS := if x < 3 then (if hW s x 0 = 0 then (2, 0, s) else (0, hW s x 1, s)) else (1, 0, s)
def qBus (f x : Nat) (s : hS) : Nat × Nat × hS := if x < 3 then (if wo s x = 0 then (2, 0, s) else (0, (if f = 2 then wo s x - 1 else hW s x 3), s)) else (1, 0, s)
def qSrv (f x : Nat) (s : hS) : Nat × Nat × hS := if x < (if s.1 3 < 6 then s.1 3 else 6) then (0, hL s x f, s) else (1, 0, s)
def qErr (e : Nat) (s : hS) : Nat × Nat × hS := if e = 0 then (1, 0, s) else (0, e - 1, s)
theorem qPos_le {x : Nat} {s : hS} : (qPos x s).1 < 2 ^ 31 := by unfold qPos; (repeat' split) <;> (dsimp only; omega)
theorem qWin_le {x : Nat} {s : hS} : (qWin x s).1 < 2 ^ 31 := by unfold qWin; (repeat' split) <;> (dsimp only; omega)
theorem qAtP_le {x : Nat} {s : hS} : (qAtP x s).1 < 2 ^ 31 := by unfold qAtP; (repeat' split) <;> (dsimp only; omega)
theorem qOpT_le {x : Nat} {s : hS} : (qOpT x s).1 < 2 ^ 31 := by unfold qOpT; (repeat' split) <;> (dsimp only; omega)
theorem qPac_le {x : Nat} {s : hS} : (qPac x s).1 < 2 ^ 31 := by unfold qPac; (repeat' split) <;> (dsimp only; omega)
theorem qBus_le {f x : Nat} {s : hS} : (qBus f x s).1 < 2 ^ 31 := by unfold qBus; split; split; (all_goals (dsimp only; omega))
theorem qSrv_le {f x : Nat} {s : hS} : (qSrv f x s).1 < 2 ^ 31 := by unfold qSrv; generalize (if s.1 3 < 6 then s.1 3 else 6) = q; split <;> (dsimp only; omega)
theorem qErr_le {e : Nat} {s : hS} : (qErr e s).1 < 2 ^ 31 := by unfold qErr; (repeat' split) <;> (dsimp only; omega)
theorem d9 (d : dH (M.1 10) s (aW s)) : dH ((sI M 9 9 (nI 0)).1 10) s (aW s) := by rw [sI_c (by decide)]; exact d
/- position -/
theorem cq_position (g : gC M s u H sf sn) (b : aB s) {a : Int32} : f_L_position a M = some (nI (qPos (ix a) s).1, ql (qPos (ix a) s) M) := by
  have r := g.r
  have hn := b.1
  unfold f_L_position f_X6_position qPos
  rw [c_req g hn]
  by_cases h : ix a < s.1 0
  · have ea := ix_eq (a := a) (by omega)
    rw [if_pos h, if_pos h]
    generalize ix a = x at h ea ⊢
    subst ea
    simp only [Option.bind_some, x_case_l, g.k0T, ↓reduceIte]
    rw [c_pos r b.2.1 (by omega) b.q31, Option.bind_some]
    cases hp : aPos s x with
    | none =>
      have hp' : pf (fun k => decide (hQ s k = x)) 0 (s.1 7) = none := hp
      rw [hp']
      rfl
    | some p =>
      have hp' : pf (fun k => decide (hQ s k = x)) 0 (s.1 7) = some p := hp
      have := (aPos_lt hp).1
      have := b.2.1
      rw [hp', oI_s, if_neg (pi_ne1 (by omega))]
      rfl
  · rw [if_neg h, if_neg h]
    rfl
theorem mq_position (d : dH (M.1 10) s (aW s)) (b : aB s) (k : aK s) {a : Int32} : ∃ M', f_X7_position a M = some (om (qPos (ix a) s), M') ∧ mq M M' (qPos (ix a) s) := by
  have d1 := d9 d
  have hn := b.1
  have hq := b.2.1
  unfold f_X7_position qPos
  rw [x_let_e, pi_0]
  by_cases h : ix a < s.1 0
  · have ea := ix_eq (a := a) (by omega)
    rw [if_pos h]
    generalize ix a = x at h ea ⊢
    subst ea
    have wx := aPos_aW k h
    rw [m_here d1 hn h, Option.bind_some, if_neg (show ¬ nI 1 = nI 0 by decide), m_atw d1 hn h, Option.bind_some, m_place d1.qn hq (by omega) (fun k hk => d1.q hk) b.q31]
    cases hp : aPos s x with
    | none =>
      rw [hp] at wx
      have : aW s x ≠ 0 := fun z => by obtain ⟨p, h⟩ := wx.mp z; cases h
      rw [if_neg this, if_neg (show ¬ nI 1 = nI 0 by decide), pi_2, m_throw]
      exact ⟨_, rfl, mq_t⟩
    | some p =>
      have hx0 : aW s x = 0 := wx.mpr ⟨p, hp⟩
      have hp' : pf (fun k => decide (hQ s k = x)) 0 (s.1 7) = some p := hp
      rw [if_pos hx0, if_pos rfl, hp', oI_s]
      exact ⟨_, rfl, mq_0⟩
  · rw [if_neg h, m_herent d1 hn (ix_no (by omega) h), Option.bind_some, if_pos rfl, pi_1, m_throw]
    exact ⟨_, rfl, mq_t⟩
theorem lc_17 {B : Nat} {M : xM} {sc : Nat → Int32} {L : Nat} {I : Int32} (g : gR B M) (hB : 13 ≤ B) (hB2 : B < 2 ^ 29) (h1 : x_in (I + 1) L = true) : ∃ M', f_law_c17 sc L I M = some M' ∧ gR (B + 400) M' := by
  obtain ⟨s, u, H, sf, sn, ef, fl, Ln, t, O, o, c0, g0, x0, v, vh, vs⟩ := id g
  unfold f_law_c17
  rw [if_pos h1]
  rw [cq_position c0 v.1.1.1.1, Option.bind_some]
  rw [if_pos h1]
  obtain ⟨M2, m1, m2⟩ := mq_position (M := ql (qPos (ix (sc (I + 1).toNatClampNeg)) s) M) (by rw [ql_1]; exact g0.1) v.1.1.1.1 v.1.1.1.2.1 (a := sc (I + 1).toNatClampNeg)
  rw [m1, Option.bind_some]
  obtain ⟨e1, e2⟩ := lw_q (o := qPos (ix (sc (I + 1).toNatClampNeg)) s) g qPos_le m2
  exact ⟨M2, e1, gR_le e2 (by omega)⟩

/- windowOfCustomer -/
theorem cq_windowOfCustomer (g : gC M s u H sf sn) (b : aB s) {a : Int32} : f_L_windowOfCustomer a M = some (nI (qWin (ix a) s).1, ql (qWin (ix a) s) M) := by
  have r := g.r
  have hn := b.1
  unfold f_L_windowOfCustomer f_X6_windowOfCustomer qWin
  rw [c_req g hn]
  by_cases h : ix a < s.1 0
  · have ea := ix_eq (a := a) (by omega)
    rw [if_pos h, if_pos h]
    generalize ix a = x at h ea ⊢
    subst ea
    simp only [Option.bind_some, x_case_l, g.k0T, ↓reduceIte]
    rw [c_wof r (by omega) b.w31, Option.bind_some]
    unfold aW
    have ee : pf (fun w => decide (hW s w 2 = x + 1)) 0 3 = pf (fun w => decide (wo s w = x + 1)) 0 3 := rfl
    rw [ee]
    cases hp : pf (fun w => decide (wo s w = x + 1)) 0 3 with
    | none => rfl
    | some w =>
      have := (pf_some hp).2.1
      rw [oI_s, if_neg (pi_ne1 (by omega))]
      rfl
  · rw [if_neg h, if_neg h]
    rfl
theorem mq_windowOfCustomer (d : dH (M.1 10) s (aW s)) (b : aB s) {a : Int32} : ∃ M', f_X7_windowOfCustomer a M = some (om (qWin (ix a) s), M') ∧ mq M M' (qWin (ix a) s) := by
  have d1 := d9 d
  have hn := b.1
  unfold f_X7_windowOfCustomer qWin
  rw [x_let_e, pi_0]
  by_cases h : ix a < s.1 0
  · have ea := ix_eq (a := a) (by omega)
    rw [if_pos h]
    generalize ix a = x at h ea ⊢
    subst ea
    have e7 := d1.at_ h
    rw [m_here d1 hn h, Option.bind_some, if_neg (show ¬ nI 1 = nI 0 by decide), m_atw d1 hn h, Option.bind_some]
    by_cases z : aW s x = 0
    · rw [if_pos z, if_pos rfl, if_pos z, pi_2, m_throw]
      exact ⟨_, rfl, mq_t⟩
    · rw [if_neg z, if_neg (show ¬ nI 1 = nI 0 by decide), if_neg z]
      rw [eI_p (by omega)] at e7
      simp (disch := omega) only [pi_0, pi_1, pi_2, pi_3, pi_4, pi_5, pi_6, pi_7, pi_8, pi_9, pi_10, pi_11, pi_12, pi_13, pi_20, pi_27, pi_30, pi_60, pi_99, pi_115, pi_123, pi_135, pi_136, pi_137, pi_138, pi_139, pi_158, pi_159, pi_1113, m_neg, nI_add, pk_mul, pi_sub, mI_dec, pi_cl, pi_leT, pi_leF, pi_ltT, pi_ltF, pi_eqT, pi_eqF, mI_n, m_in159, ↓reduceIte, Option.bind_some, f_X7_personAt, e7]
      exact ⟨_, rfl, mq_0⟩
  · rw [if_neg h, m_herent d1 hn (ix_no (by omega) h), Option.bind_some, if_pos rfl, pi_1, m_throw]
    exact ⟨_, rfl, mq_t⟩
theorem lc_18 {B : Nat} {M : xM} {sc : Nat → Int32} {L : Nat} {I : Int32} (g : gR B M) (hB : 13 ≤ B) (hB2 : B < 2 ^ 29) (h1 : x_in (I + 1) L = true) : ∃ M', f_law_c18 sc L I M = some M' ∧ gR (B + 400) M' := by
  obtain ⟨s, u, H, sf, sn, ef, fl, Ln, t, O, o, c0, g0, x0, v, vh, vs⟩ := id g
  unfold f_law_c18
  rw [if_pos h1]
  rw [cq_windowOfCustomer c0 v.1.1.1.1, Option.bind_some]
  rw [if_pos h1]
  obtain ⟨M2, m1, m2⟩ := mq_windowOfCustomer (M := ql (qWin (ix (sc (I + 1).toNatClampNeg)) s) M) (by rw [ql_1]; exact g0.1) v.1.1.1.1 (a := sc (I + 1).toNatClampNeg)
  rw [m1, Option.bind_some]
  obtain ⟨e1, e2⟩ := lw_q (o := qWin (ix (sc (I + 1).toNatClampNeg)) s) g qWin_le m2
  exact ⟨M2, e1, gR_le e2 (by omega)⟩

/- customerAtPosition -/
theorem ix_lt0 {a : Int32} (h : a < 0) : ix a = 2 ^ 31 := if_pos h
theorem cq_customerAtPosition (g : gC M s u H sf sn) (b : aB s) {a : Int32} : f_L_customerAtPosition a M = some (nI (qAtP (ix a) s).1, ql (qAtP (ix a) s) M) := by
  have r := g.r
  have hq := b.2.1
  unfold f_L_customerAtPosition f_X6_customerAtPosition qAtP
  by_cases z : a < 0
  · rw [if_pos z, if_neg (by rw [ix_lt0 z]; omega)]
    rfl
  · rw [if_neg z, if_pos g.k0]
    have rq := r.qn
    rw [rq]
    obtain ⟨x, hx, ea⟩ := nI_of z
    subst ea
    rw [ix_nI hx]
    by_cases h : x < s.1 7
    · rw [if_pos (nI_lt h (by omega)), if_pos h]
      simp (disch := omega) only [Option.bind_some, x_case_l, g.k0T, ↓reduceIte, m_in12, pi_cl, r.q]
      rfl
    · rw [if_neg (nI_nlt (by omega) hx), if_neg h]
      rfl
/-- a number between 0 and q - 1 -/
theorem m_upto {a : Int32} {q : Nat} (hq : q < 2 ^ 31) : f_X7_in a.toInt64 (nI 0).toInt64 (nI q - nI 1).toInt64 M = some (if ix a < q then nI 1 else nI 0) := by
  rw [m_in]
  by_cases g : ix a < q
  · have ea := ix_eq (a := a) (by omega)
    rw [if_pos g, pi_sub (by omega), if_pos]
    generalize ix a = x at g ea
    subst ea
    exact ⟨nI_le (by omega) (by omega), nI_le (by omega) (by omega)⟩
  · rw [if_neg g, if_neg]
    intro z
    by_cases z0 : a < 0
    · exact absurd z.1 (Int32.not_le.mpr z0)
    · obtain ⟨x, hx, ea⟩ := nI_of z0
      subst ea
      rw [ix_nI hx] at g
      by_cases q0 : q = 0
      · subst q0
        have := z.2
        rw [Int32.le_iff_toInt_le, nI_toInt hx] at this
        have e1 : (nI 0 - nI 1).toInt = -1 := by decide
        omega
      · have := z.2
        rw [pi_sub (by omega)] at this
        exact nI_ge (by omega) (by omega) this
theorem mq_customerAtPosition (d : dH (M.1 10) s (aW s)) (b : aB s) {a : Int32} : ∃ M', f_X7_customerAtPosition a M = some (om (qAtP (ix a) s), M') ∧ mq M M' (qAtP (ix a) s) := by
  have d1 := d9 d
  have hq := b.2.1
  unfold f_X7_customerAtPosition qAtP
  rw [x_let_e, pi_0, m_l0, pi_1, pi_9, pi_cl (by decide), d1.qn, if_pos (by decide), m_upto (by omega), Option.bind_some]
  by_cases h : ix a < s.1 7
  · have ea := ix_eq (a := a) (by omega)
    rw [if_pos h, if_pos h, if_neg (show ¬ nI 1 = nI 0 by decide)]
    generalize ix a = x at h ea ⊢
    subst ea
    rw [pi_123, nI_add, if_pos (pi_in159 (by omega)), pi_cl (by omega), d1.q h]
    exact ⟨_, rfl, mq_0⟩
  · rw [if_neg h, if_neg h, if_pos rfl, m_throw]
    exact ⟨_, rfl, mq_t⟩
theorem lc_19 {B : Nat} {M : xM} {sc : Nat → Int32} {L : Nat} {I : Int32} (g : gR B M) (hB : 13 ≤ B) (hB2 : B < 2 ^ 29) (h1 : x_in (I + 1) L = true) : ∃ M', f_law_c19 sc L I M = some M' ∧ gR (B + 400) M' := by
  obtain ⟨s, u, H, sf, sn, ef, fl, Ln, t, O, o, c0, g0, x0, v, vh, vs⟩ := id g
  unfold f_law_c19
  rw [if_pos h1]
  rw [cq_customerAtPosition c0 v.1.1.1.1, Option.bind_some]
  rw [if_pos h1]
  obtain ⟨M2, m1, m2⟩ := mq_customerAtPosition (M := ql (qAtP (ix (sc (I + 1).toNatClampNeg)) s) M) (by rw [ql_1]; exact g0.1) v.1.1.1.1 (a := sc (I + 1).toNatClampNeg)
  rw [m1, Option.bind_some]
  obtain ⟨e1, e2⟩ := lw_q (o := qAtP (ix (sc (I + 1).toNatClampNeg)) s) g qAtP_le m2
  exact ⟨M2, e1, gR_le e2 (by omega)⟩

/- openingTimeLeft -/
theorem cq_openingTimeLeft (g : gC M s u H sf sn) {a : Int32} : f_L_openingTimeLeft a M = some (nI (qOpT (ix a) s).1, ql (qOpT (ix a) s) M) := by
  have r := g.r
  unfold f_L_openingTimeLeft f_X6_openingTimeLeft qOpT
  rw [c_reqw]
  by_cases h : ix a < 3
  · have ea := ix_eq (a := a) (by omega)
    rw [if_pos h, if_pos h]
    generalize ix a = x at h ea ⊢
    subst ea
    simp (disch := omega) only [Option.bind_some, x_case_l, g.k0T, ↓reduceIte, m_in3, pi_cl, r.wkT, r.w0]
    rfl
  · rw [if_neg h, if_neg h]
    rfl
theorem mq_openingTimeLeft (d : dH (M.1 10) s (aW s)) {a : Int32} : ∃ M', f_X7_openingTimeLeft a M = some (om (qOpT (ix a) s), M') ∧ mq M M' (qOpT (ix a) s) := by
  have d1 := d9 d
  unfold f_X7_openingTimeLeft qOpT
  rw [x_let_e, pi_0]
  by_cases h : ix a < 3
  · have ea := ix_eq (a := a) (by omega)
    rw [if_pos h]
    generalize ix a = x at h ea ⊢
    subst ea
    rw [m_win h]
    simp (disch := omega) only [pi_0, pi_1, pi_2, pi_3, pi_4, pi_5, pi_6, pi_7, pi_8, pi_9, pi_10, pi_11, pi_12, pi_13, pi_20, pi_27, pi_30, pi_60, pi_99, pi_115, pi_123, pi_135, pi_136, pi_137, pi_138, pi_139, pi_158, pi_159, pi_1113, m_neg, nI_add, pk_mul, pi_sub, mI_dec, pi_cl, pi_leT, pi_leF, pi_ltT, pi_ltF, pi_eqT, pi_eqF, mI_n, m_in159, ↓reduceIte, Option.bind_some, f_X7_windowAt, d1.w0]
    exact ⟨_, rfl, mq_0⟩
  · rw [if_neg h, m_winnt (ix_no (by decide) h), Option.bind_some, if_pos rfl, pi_1, m_throw]
    exact ⟨_, rfl, mq_t⟩
theorem lc_21 {B : Nat} {M : xM} {sc : Nat → Int32} {L : Nat} {I : Int32} (g : gR B M) (hB : 13 ≤ B) (hB2 : B < 2 ^ 29) (h1 : x_in (I + 1) L = true) : ∃ M', f_law_c21 sc L I M = some M' ∧ gR (B + 400) M' := by
  obtain ⟨s, u, H, sf, sn, ef, fl, Ln, t, O, o, c0, g0, x0, v, vh, vs⟩ := id g
  unfold f_law_c21
  rw [if_pos h1]
  rw [cq_openingTimeLeft c0, Option.bind_some]
  rw [if_pos h1]
  obtain ⟨M2, m1, m2⟩ := mq_openingTimeLeft (M := ql (qOpT (ix (sc (I + 1).toNatClampNeg)) s) M) (by rw [ql_1]; exact g0.1) (a := sc (I + 1).toNatClampNeg)
  rw [m1, Option.bind_some]
  obtain ⟨e1, e2⟩ := lw_q (o := qOpT (ix (sc (I + 1).toNatClampNeg)) s) g qOpT_le m2
  exact ⟨M2, e1, gR_le e2 (by omega)⟩

/- pace -/
theorem cq_pace (g : gC M s u H sf sn) (b : aB s) {a : Int32} : f_L_pace a M = some (nI (qPac (ix a) s).1, ql (qPac (ix a) s) M) := by
  have r := g.r
  unfold f_L_pace f_X6_pace qPac
  rw [c_reqw]
  by_cases h : ix a < 3
  · have ea := ix_eq (a := a) (by omega)
    rw [if_pos h, if_pos h]
    generalize ix a = x at h ea ⊢
    subst ea
    simp (disch := omega) only [Option.bind_some, x_case_l, g.k0T, ↓reduceIte, m_in3, pi_cl, r.wkT]
    rw [c_isOpen (r.w0 h) (b.o31 x h), Option.bind_some]
    by_cases z : hW s x 0 = 0
    · rw [if_neg (show ¬ 0 < hW s x 0 by omega), if_pos z]
      rfl
    · rw [if_pos (show 0 < hW s x 0 by omega), if_neg z]
      simp (disch := omega) only [r.w1]
      rfl
  · rw [if_neg h, if_neg h]
    rfl
theorem mq_pace (d : dH (M.1 10) s (aW s)) (b : aB s) {a : Int32} : ∃ M', f_X7_pace a M = some (om (qPac (ix a) s), M') ∧ mq M M' (qPac (ix a) s) := by
  have d1 := d9 d
  unfold f_X7_pace qPac
  rw [x_let_e, pi_0]
  by_cases h : ix a < 3
  · have ea := ix_eq (a := a) (by omega)
    rw [if_pos h]
    generalize ix a = x at h ea ⊢
    subst ea
    rw [m_win h, Option.bind_some, if_neg (show ¬ nI 1 = nI 0 by decide), m_isOpen d1 b h, Option.bind_some]
    by_cases z : hW s x 0 = 0
    · rw [if_neg (show ¬ 0 < hW s x 0 by omega), if_pos rfl, if_pos z, pi_2, m_throw]
      exact ⟨_, rfl, mq_t⟩
    · rw [if_pos (show 0 < hW s x 0 by omega), if_neg (show ¬ nI 1 = nI 0 by decide), if_neg z]
      have e1 := d1.w1 h z
      simp (disch := omega) only [pi_0, pi_1, pi_2, pi_3, pi_4, pi_5, pi_6, pi_7, pi_8, pi_9, pi_10, pi_11, pi_12, pi_13, pi_20, pi_27, pi_30, pi_60, pi_99, pi_115, pi_123, pi_135, pi_136, pi_137, pi_138, pi_139, pi_158, pi_159, pi_1113, m_neg, nI_add, pk_mul, pi_sub, mI_dec, pi_cl, pi_leT, pi_leF, pi_ltT, pi_ltF, pi_eqT, pi_eqF, mI_n, m_in159, ↓reduceIte, Option.bind_some, f_X7_windowAt, e1]
      exact ⟨_, rfl, mq_0⟩
  · rw [if_neg h, m_winnt (ix_no (by decide) h), Option.bind_some, if_pos rfl, pi_1, m_throw]
    exact ⟨_, rfl, mq_t⟩
theorem lc_22 {B : Nat} {M : xM} {sc : Nat → Int32} {L : Nat} {I : Int32} (g : gR B M) (hB : 13 ≤ B) (hB2 : B < 2 ^ 29) (h1 : x_in (I + 1) L = true) : ∃ M', f_law_c22 sc L I M = some M' ∧ gR (B + 400) M' := by
  obtain ⟨s, u, H, sf, sn, ef, fl, Ln, t, O, o, c0, g0, x0, v, vh, vs⟩ := id g
  unfold f_law_c22
  rw [if_pos h1]
  rw [cq_pace c0 v.1.1.1.1, Option.bind_some]
  rw [if_pos h1]
  obtain ⟨M2, m1, m2⟩ := mq_pace (M := ql (qPac (ix (sc (I + 1).toNatClampNeg)) s) M) (by rw [ql_1]; exact g0.1) v.1.1.1.1 (a := sc (I + 1).toNatClampNeg)
  rw [m1, Option.bind_some]
  obtain ⟨e1, e2⟩ := lw_q (o := qPac (ix (sc (I + 1).toNatClampNeg)) s) g qPac_le m2
  exact ⟨M2, e1, gR_le e2 (by omega)⟩

/- customerAtWindow, serviceTimeLeft -/
theorem c_reqs (g : gC M s u H sf sn) (b : aB s) {x : Nat} (h : x < 3) : f_X6_requireSomebodyAt (nI x) M = some (if wo s x = 0 then .inr "java/util/NoSuchElementException" else .inl ()) := by
  have r := g.r
  have := b.w31 x h
  unfold f_X6_requireSomebodyAt
  simp (disch := omega) only [g.k0T, ↓reduceIte, m_in3, pi_cl, r.wkT, r.w2, eI_n]
  by_cases z : hW s x 2 = 0
  · rw [if_pos z, if_pos z]
  · rw [if_neg z, if_neg z]
theorem m_busy (d : dH (M.1 10) s (aW s)) (b : aB s) {a : Int32} {f : Nat} (hf : f = 2 ∨ f = 3) : ∃ M', f_X7_busy a (nI f) M = some (om (qBus f (ix a) s), M') ∧ mq M M' (qBus f (ix a) s) := by
  have d1 := d9 d
  unfold f_X7_busy qBus
  rw [x_let_e, pi_0]
  by_cases h : ix a < 3
  · have ea := ix_eq (a := a) (by omega)
    rw [if_pos h]
    generalize ix a = x at h ea ⊢
    subst ea
    have w31 := b.w31 x h
    have e2 := d1.w2 h
    rw [m_win h]
    by_cases z : wo s x = 0
    · have z' : hW s x 2 = 0 := z
      rw [if_pos z]
      simp (disch := omega) only [pi_0, pi_1, pi_2, pi_3, pi_4, pi_5, pi_6, pi_7, pi_8, pi_9, pi_10, pi_11, pi_12, pi_13, pi_20, pi_27, pi_30, pi_60, pi_99, pi_115, pi_123, pi_135, pi_136, pi_137, pi_138, pi_139, pi_158, pi_159, pi_1113, m_neg, nI_add, pk_mul, pi_sub, mI_dec, pi_cl, pi_leT, pi_leF, pi_ltT, pi_ltF, pi_eqT, pi_eqF, mI_n, m_in159, ↓reduceIte, Option.bind_some, f_X7_windowAt, e2, z', eI_z, m_mI, m_throw]
      exact ⟨_, rfl, mq_t⟩
    · have z' : hW s x 2 ≠ 0 := z
      rw [if_neg z]
      have e3 := d1.w3 h z
      have e2' := e2
      rw [eI_p (by omega)] at e2
      rcases hf with rfl | rfl
      · simp (disch := omega) only [pi_0, pi_1, pi_2, pi_3, pi_4, pi_5, pi_6, pi_7, pi_8, pi_9, pi_10, pi_11, pi_12, pi_13, pi_20, pi_27, pi_30, pi_60, pi_99, pi_115, pi_123, pi_135, pi_136, pi_137, pi_138, pi_139, pi_158, pi_159, pi_1113, m_neg, nI_add, pk_mul, pi_sub, mI_dec, pi_cl, pi_leT, pi_leF, pi_ltT, pi_ltF, pi_eqT, pi_eqF, mI_n, m_in159, ↓reduceIte, Option.bind_some, f_X7_windowAt, e2, m_mI]
        exact ⟨_, rfl, mq_0⟩
      · simp (disch := omega) only [pi_0, pi_1, pi_2, pi_3, pi_4, pi_5, pi_6, pi_7, pi_8, pi_9, pi_10, pi_11, pi_12, pi_13, pi_20, pi_27, pi_30, pi_60, pi_99, pi_115, pi_123, pi_135, pi_136, pi_137, pi_138, pi_139, pi_158, pi_159, pi_1113, m_neg, nI_add, pk_mul, pi_sub, mI_dec, pi_cl, pi_leT, pi_leF, pi_ltT, pi_ltF, pi_eqT, pi_eqF, mI_n, m_in159, ↓reduceIte, Option.bind_some, f_X7_windowAt, e2, e3, m_mI]
        exact ⟨_, rfl, mq_0⟩
  · rw [if_neg h, m_winnt (ix_no (by decide) h), Option.bind_some, if_pos rfl, pi_1, m_throw]
    exact ⟨_, rfl, mq_t⟩
theorem cq_customerAtWindow (g : gC M s u H sf sn) (b : aB s) {a : Int32} : f_L_customerAtWindow a M = some (nI (qBus 2 (ix a) s).1, ql (qBus 2 (ix a) s) M) := by
  have r := g.r
  unfold f_L_customerAtWindow f_X6_customerAtWindow qBus
  rw [c_reqw]
  by_cases h : ix a < 3
  · have ea := ix_eq (a := a) (by omega)
    rw [if_pos h, if_pos h]
    generalize ix a = x at h ea ⊢
    subst ea
    simp only [Option.bind_some, x_case_l]
    rw [c_reqs g b h]
    by_cases z : wo s x = 0
    · rw [if_pos z, if_pos z]
      rfl
    · rw [if_neg z, if_neg z]
      simp (disch := omega) only [Option.bind_some, x_case_l, g.k0T, ↓reduceIte, m_in3, pi_cl, r.wkT]
      rw [r.w2 h, eI_p (show 0 < hW s x 2 by have z : hW s x 2 ≠ 0 := z; omega)]
      rfl
  · rw [if_neg h, if_neg h]
    rfl
theorem mq_customerAtWindow (d : dH (M.1 10) s (aW s)) (b : aB s) {a : Int32} : ∃ M', f_X7_customerAtWindow a M = some (om (qBus 2 (ix a) s), M') ∧ mq M M' (qBus 2 (ix a) s) := by
  unfold f_X7_customerAtWindow
  rw [m_bind2]
  exact m_busy d b (f := 2) (.inl rfl)
theorem lc_23 {B : Nat} {M : xM} {sc : Nat → Int32} {L : Nat} {I : Int32} (g : gR B M) (hB : 13 ≤ B) (hB2 : B < 2 ^ 29) (h1 : x_in (I + 1) L = true) : ∃ M', f_law_c23 sc L I M = some M' ∧ gR (B + 400) M' := by
  obtain ⟨s, u, H, sf, sn, ef, fl, Ln, t, O, o, c0, g0, x0, v, vh, vs⟩ := id g
  unfold f_law_c23
  rw [if_pos h1]
  rw [cq_customerAtWindow c0 v.1.1.1.1, Option.bind_some]
  rw [if_pos h1]
  obtain ⟨M2, m1, m2⟩ := mq_customerAtWindow (M := ql (qBus 2 (ix (sc (I + 1).toNatClampNeg)) s) M) (by rw [ql_1]; exact g0.1) v.1.1.1.1 (a := sc (I + 1).toNatClampNeg)
  rw [m1, Option.bind_some]
  obtain ⟨e1, e2⟩ := lw_q (o := qBus 2 (ix (sc (I + 1).toNatClampNeg)) s) g qBus_le m2
  exact ⟨M2, e1, gR_le e2 (by omega)⟩
theorem cq_serviceTimeLeft (g : gC M s u H sf sn) (b : aB s) {a : Int32} : f_L_serviceTimeLeft a M = some (nI (qBus 3 (ix a) s).1, ql (qBus 3 (ix a) s) M) := by
  have r := g.r
  unfold f_L_serviceTimeLeft f_X6_serviceTimeLeft qBus
  rw [c_reqw]
  by_cases h : ix a < 3
  · have ea := ix_eq (a := a) (by omega)
    rw [if_pos h, if_pos h]
    generalize ix a = x at h ea ⊢
    subst ea
    simp only [Option.bind_some, x_case_l]
    rw [c_reqs g b h]
    by_cases z : wo s x = 0
    · rw [if_pos z, if_pos z]
      rfl
    · rw [if_neg z, if_neg z]
      simp (disch := omega) only [Option.bind_some, x_case_l, g.k0T, ↓reduceIte, m_in3, pi_cl, r.wkT]
      rw [r.w3 h]
      rfl
  · rw [if_neg h, if_neg h]
    rfl
theorem mq_serviceTimeLeft (d : dH (M.1 10) s (aW s)) (b : aB s) {a : Int32} : ∃ M', f_X7_serviceTimeLeft a M = some (om (qBus 3 (ix a) s), M') ∧ mq M M' (qBus 3 (ix a) s) := by
  unfold f_X7_serviceTimeLeft
  rw [m_bind2]
  exact m_busy d b (f := 3) (.inr rfl)
theorem lc_24 {B : Nat} {M : xM} {sc : Nat → Int32} {L : Nat} {I : Int32} (g : gR B M) (hB : 13 ≤ B) (hB2 : B < 2 ^ 29) (h1 : x_in (I + 1) L = true) : ∃ M', f_law_c24 sc L I M = some M' ∧ gR (B + 400) M' := by
  obtain ⟨s, u, H, sf, sn, ef, fl, Ln, t, O, o, c0, g0, x0, v, vh, vs⟩ := id g
  unfold f_law_c24
  rw [if_pos h1]
  rw [cq_serviceTimeLeft c0 v.1.1.1.1, Option.bind_some]
  rw [if_pos h1]
  obtain ⟨M2, m1, m2⟩ := mq_serviceTimeLeft (M := ql (qBus 3 (ix (sc (I + 1).toNatClampNeg)) s) M) (by rw [ql_1]; exact g0.1) v.1.1.1.1 (a := sc (I + 1).toNatClampNeg)
  rw [m1, Option.bind_some]
  obtain ⟨e1, e2⟩ := lw_q (o := qBus 3 (ix (sc (I + 1).toNatClampNeg)) s) g qBus_le m2
  exact ⟨M2, e1, gR_le e2 (by omega)⟩

/- servedTicket, servedWaitingTime -/
theorem min6 {q : Nat} (hq : q < 2 ^ 31) : (if (6 : Int32) < nI q then (6 : Int32) else nI q) = nI (if q < 6 then q else 6) := by
  by_cases g : 6 < q
  · rw [if_pos (show (6 : Int32) < nI q from nI_lt (a := 6) g hq), if_neg (by omega)]
    rfl
  · rw [if_neg (show ¬ (6 : Int32) < nI q from nI_nlt (a := 6) (by omega) (by decide))]
    by_cases h : q < 6
    · rw [if_pos h]
    · rw [if_neg h, show q = 6 by omega]
theorem c_reqm (g : gC M s u H sf sn) (hU : s.1 3 < 2 ^ 31) {a : Int32} : f_X6_requireRemembered a M = some (if ix a < (if s.1 3 < 6 then s.1 3 else 6) then .inl () else .inr "java/util/NoSuchElementException") := by
  have e3 : M.1 (M.2.1 0 0) 9 = nI (s.1 3) := g.r.sc (j := 3) (by decide)
  unfold f_X6_requireRemembered
  rw [e3, min6 hU]
  have hm : (if s.1 3 < 6 then s.1 3 else 6) ≤ 6 := by split <;> omega
  generalize (if s.1 3 < 6 then s.1 3 else 6) = q at hm
  by_cases z : a < 0
  · rw [if_pos z, if_neg (by rw [ix_lt0 z]; omega)]
  · rw [if_neg z, if_pos g.k0]
    obtain ⟨x, hx, ea⟩ := nI_of z
    subst ea
    rw [ix_nI hx]
    by_cases h : x < q
    · rw [if_pos h, if_pos (nI_lt h (by omega))]
    · rw [if_neg h, if_neg (nI_nlt (by omega) hx)]
theorem cq_servedTicket (g : gC M s u H sf sn) (hU : s.1 3 < 2 ^ 31) {a : Int32} : f_L_servedTicket a M = some (nI (qSrv 0 (ix a) s).1, ql (qSrv 0 (ix a) s) M) := by
  have r := g.r
  unfold f_L_servedTicket f_X6_servedTicket qSrv
  rw [c_reqm g hU]
  have hm : (if s.1 3 < 6 then s.1 3 else 6) ≤ 6 := by split <;> omega
  generalize (if s.1 3 < 6 then s.1 3 else 6) = q at hm
  by_cases h : ix a < q
  · have ea := ix_eq (a := a) (by omega)
    rw [if_pos h, if_pos h]
    generalize ix a = x at h ea ⊢
    subst ea
    simp (disch := omega) only [Option.bind_some, x_case_l, g.k0T, ↓reduceIte, m_in6, pi_cl, r.l0]
    rfl
  · rw [if_neg h, if_neg h]
    rfl
theorem mq_servedTicket (d : dH (M.1 10) s (aW s)) {a : Int32} : ∃ M', f_X7_servedTicket a M = some (om (qSrv 0 (ix a) s), M') ∧ mq M M' (qSrv 0 (ix a) s) := by
  have d1 := d9 d
  have e10 := d1.k10
  unfold f_X7_servedTicket qSrv
  have hm : (if s.1 3 < 6 then s.1 3 else 6) ≤ 6 := by split <;> omega
  generalize (if s.1 3 < 6 then s.1 3 else 6) = q at hm e10 ⊢
  rw [x_let_e, pi_0, m_l0, pi_1, pi_10, pi_cl (by decide), e10, if_pos (by decide), m_upto (by omega), Option.bind_some]
  by_cases h : ix a < q
  · have ea := ix_eq (a := a) (by omega)
    rw [if_pos h, if_pos h, if_neg (show ¬ nI 1 = nI 0 by decide)]
    generalize ix a = x at h ea ⊢
    subst ea
    simp (disch := omega) only [pi_0, pi_1, pi_2, pi_3, pi_4, pi_5, pi_6, pi_7, pi_8, pi_9, pi_10, pi_11, pi_12, pi_13, pi_20, pi_27, pi_30, pi_60, pi_99, pi_115, pi_123, pi_135, pi_136, pi_137, pi_138, pi_139, pi_158, pi_159, pi_1113, m_neg, nI_add, pk_mul, pi_sub, mI_dec, pi_cl, pi_leT, pi_leF, pi_ltT, pi_ltF, pi_eqT, pi_eqF, mI_n, m_in159, ↓reduceIte, d1.l0]
    exact ⟨_, rfl, mq_0⟩
  · rw [if_neg h, if_neg h, if_pos rfl, m_throw]
    exact ⟨_, rfl, mq_t⟩
theorem lc_32 {B : Nat} {M : xM} {sc : Nat → Int32} {L : Nat} {I : Int32} (g : gR B M) (hB : 13 ≤ B) (hB2 : B < 2 ^ 29) (h1 : x_in (I + 1) L = true) : ∃ M', f_law_c32 sc L I M = some M' ∧ gR (B + 400) M' := by
  obtain ⟨s, u, H, sf, sn, ef, fl, Ln, t, O, o, c0, g0, x0, v, vh, vs⟩ := id g
  unfold f_law_c32
  rw [if_pos h1]
  rw [cq_servedTicket c0 (by have := v.2.2.1 3 (by decide); omega), Option.bind_some]
  rw [if_pos h1]
  obtain ⟨M2, m1, m2⟩ := mq_servedTicket (M := ql (qSrv 0 (ix (sc (I + 1).toNatClampNeg)) s) M) (by rw [ql_1]; exact g0.1) (a := sc (I + 1).toNatClampNeg)
  rw [m1, Option.bind_some]
  obtain ⟨e1, e2⟩ := lw_q (o := qSrv 0 (ix (sc (I + 1).toNatClampNeg)) s) g qSrv_le m2
  exact ⟨M2, e1, gR_le e2 (by omega)⟩
theorem cq_servedWaitingTime (g : gC M s u H sf sn) (hU : s.1 3 < 2 ^ 31) {a : Int32} : f_L_servedWaitingTime a M = some (nI (qSrv 1 (ix a) s).1, ql (qSrv 1 (ix a) s) M) := by
  have r := g.r
  unfold f_L_servedWaitingTime f_X6_servedWaitingTime qSrv
  rw [c_reqm g hU]
  have hm : (if s.1 3 < 6 then s.1 3 else 6) ≤ 6 := by split <;> omega
  generalize (if s.1 3 < 6 then s.1 3 else 6) = q at hm
  by_cases h : ix a < q
  · have ea := ix_eq (a := a) (by omega)
    rw [if_pos h, if_pos h]
    generalize ix a = x at h ea ⊢
    subst ea
    simp (disch := omega) only [Option.bind_some, x_case_l, g.k0T, ↓reduceIte, m_in6, pi_cl, r.l1]
    rfl
  · rw [if_neg h, if_neg h]
    rfl
theorem mq_servedWaitingTime (d : dH (M.1 10) s (aW s)) {a : Int32} : ∃ M', f_X7_servedWaitingTime a M = some (om (qSrv 1 (ix a) s), M') ∧ mq M M' (qSrv 1 (ix a) s) := by
  have d1 := d9 d
  have e10 := d1.k10
  unfold f_X7_servedWaitingTime qSrv
  have hm : (if s.1 3 < 6 then s.1 3 else 6) ≤ 6 := by split <;> omega
  generalize (if s.1 3 < 6 then s.1 3 else 6) = q at hm e10 ⊢
  rw [x_let_e, pi_0, m_l0, pi_1, pi_10, pi_cl (by decide), e10, if_pos (by decide), m_upto (by omega), Option.bind_some]
  by_cases h : ix a < q
  · have ea := ix_eq (a := a) (by omega)
    rw [if_pos h, if_pos h, if_neg (show ¬ nI 1 = nI 0 by decide)]
    generalize ix a = x at h ea ⊢
    subst ea
    simp (disch := omega) only [pi_0, pi_1, pi_2, pi_3, pi_4, pi_5, pi_6, pi_7, pi_8, pi_9, pi_10, pi_11, pi_12, pi_13, pi_20, pi_27, pi_30, pi_60, pi_99, pi_115, pi_123, pi_135, pi_136, pi_137, pi_138, pi_139, pi_158, pi_159, pi_1113, m_neg, nI_add, pk_mul, pi_sub, mI_dec, pi_cl, pi_leT, pi_leF, pi_ltT, pi_ltF, pi_eqT, pi_eqF, mI_n, m_in159, ↓reduceIte, d1.l1]
    exact ⟨_, rfl, mq_0⟩
  · rw [if_neg h, if_neg h, if_pos rfl, m_throw]
    exact ⟨_, rfl, mq_t⟩
theorem lc_33 {B : Nat} {M : xM} {sc : Nat → Int32} {L : Nat} {I : Int32} (g : gR B M) (hB : 13 ≤ B) (hB2 : B < 2 ^ 29) (h1 : x_in (I + 1) L = true) : ∃ M', f_law_c33 sc L I M = some M' ∧ gR (B + 400) M' := by
  obtain ⟨s, u, H, sf, sn, ef, fl, Ln, t, O, o, c0, g0, x0, v, vh, vs⟩ := id g
  unfold f_law_c33
  rw [if_pos h1]
  rw [cq_servedWaitingTime c0 (by have := v.2.2.1 3 (by decide); omega), Option.bind_some]
  rw [if_pos h1]
  obtain ⟨M2, m1, m2⟩ := mq_servedWaitingTime (M := ql (qSrv 1 (ix (sc (I + 1).toNatClampNeg)) s) M) (by rw [ql_1]; exact g0.1) (a := sc (I + 1).toNatClampNeg)
  rw [m1, Option.bind_some]
  obtain ⟨e1, e2⟩ := lw_q (o := qSrv 1 (ix (sc (I + 1).toNatClampNeg)) s) g qSrv_le m2
  exact ⟨M2, e1, gR_le e2 (by omega)⟩
theorem lc_9 {B : Nat} {M : xM} {sc : Nat → Int32} {L : Nat} {I : Int32} (g : gR B M) : ∃ M', f_law_c9 sc L I M = some M' ∧ gR (B + 400) M' := by
  obtain ⟨s, u, H, sf, sn, ef, fl, Ln, t, O, o, c0, g0, x0, v, vh, vs⟩ := id g
  have e1 : M.1 (M.2.1 0 0) 1 = nI (s.1 0) := c0.r.sc (j := 0) (by decide)
  have e2 : M.1 10 0 = nI (s.1 0) := g0.1.sc (j := 0) (by decide)
  have e3 : (sI M 9 9 (nI 0)).1 10 0 = nI (s.1 0) := by rw [sI_c (by decide)]; exact e2
  unfold f_law_c9 f_X6_customerCount f_X7_customerCount
  simp (disch := omega) only [pi_0, pi_1, pi_2, pi_3, pi_4, pi_5, pi_6, pi_7, pi_8, pi_9, pi_10, pi_11, pi_12, pi_13, pi_20, pi_27, pi_30, pi_60, pi_99, pi_115, pi_123, pi_135, pi_136, pi_137, pi_138, pi_139, pi_158, pi_159, pi_1113, m_neg, nI_add, pk_mul, pi_sub, mI_dec, pi_cl, pi_leT, pi_leF, pi_ltT, pi_ltF, pi_eqT, pi_eqF, mI_n, m_in159, ↓x_let_e, ↓reduceIte, Option.bind_some, c0.k0T, e1, e3]
  exact ⟨_, rfl, gR_le (gR_N g gN_9) (by omega)⟩
theorem lc_20 {B : Nat} {M : xM} {sc : Nat → Int32} {L : Nat} {I : Int32} (g : gR B M) : ∃ M', f_law_c20 sc L I M = some M' ∧ gR (B + 400) M' := by
  obtain ⟨s, u, H, sf, sn, ef, fl, Ln, t, O, o, c0, g0, x0, v, vh, vs⟩ := id g
  have e1 : M.1 (M.2.1 0 0) 3 = nI (s.1 7) := c0.r.sc (j := 7) (by decide)
  have e2 : M.1 10 9 = nI (s.1 7) := g0.1.sc (j := 7) (by decide)
  have e3 : (sI M 9 9 (nI 0)).1 10 9 = nI (s.1 7) := by rw [sI_c (by decide)]; exact e2
  unfold f_law_c20 f_X6_queueLength f_X7_queueLength
  simp (disch := omega) only [pi_0, pi_1, pi_2, pi_3, pi_4, pi_5, pi_6, pi_7, pi_8, pi_9, pi_10, pi_11, pi_12, pi_13, pi_20, pi_27, pi_30, pi_60, pi_99, pi_115, pi_123, pi_135, pi_136, pi_137, pi_138, pi_139, pi_158, pi_159, pi_1113, m_neg, nI_add, pk_mul, pi_sub, mI_dec, pi_cl, pi_leT, pi_leF, pi_ltT, pi_ltF, pi_eqT, pi_eqF, mI_n, m_in159, ↓x_let_e, ↓reduceIte, Option.bind_some, c0.k0T, e1, e3]
  exact ⟨_, rfl, gR_le (gR_N g gN_9) (by omega)⟩
theorem lc_36 {B : Nat} {M : xM} {sc : Nat → Int32} {L : Nat} {I : Int32} (g : gR B M) : ∃ M', f_law_c36 sc L I M = some M' ∧ gR (B + 400) M' := by
  obtain ⟨s, u, H, sf, sn, ef, fl, Ln, t, O, o, c0, g0, x0, v, vh, vs⟩ := id g
  have e1 : M.1 (M.2.1 0 0) 7 = nI (s.1 1) := c0.r.sc (j := 1) (by decide)
  have e2 : M.1 10 1 = nI (s.1 1) := g0.1.sc (j := 1) (by decide)
  have e3 : (sI M 9 9 (nI 0)).1 10 1 = nI (s.1 1) := by rw [sI_c (by decide)]; exact e2
  unfold f_law_c36 f_X6_minute f_X7_minute f_X7_total
  simp (disch := omega) only [pi_0, pi_1, pi_2, pi_3, pi_4, pi_5, pi_6, pi_7, pi_8, pi_9, pi_10, pi_11, pi_12, pi_13, pi_20, pi_27, pi_30, pi_60, pi_99, pi_115, pi_123, pi_135, pi_136, pi_137, pi_138, pi_139, pi_158, pi_159, pi_1113, m_neg, nI_add, pk_mul, pi_sub, mI_dec, pi_cl, pi_leT, pi_leF, pi_ltT, pi_ltF, pi_eqT, pi_eqF, mI_n, m_in159, ↓x_let_e, ↓reduceIte, Option.bind_some, c0.k0T, e1, e3]
  exact ⟨_, rfl, gR_le (gR_N g gN_9) (by omega)⟩
theorem lc_37 {B : Nat} {M : xM} {sc : Nat → Int32} {L : Nat} {I : Int32} (g : gR B M) : ∃ M', f_law_c37 sc L I M = some M' ∧ gR (B + 400) M' := by
  obtain ⟨s, u, H, sf, sn, ef, fl, Ln, t, O, o, c0, g0, x0, v, vh, vs⟩ := id g
  have e1 : M.1 (M.2.1 0 0) 8 = nI (s.1 2) := c0.r.sc (j := 2) (by decide)
  have e2 : M.1 10 2 = nI (s.1 2) := g0.1.sc (j := 2) (by decide)
  have e3 : (sI M 9 9 (nI 0)).1 10 2 = nI (s.1 2) := by rw [sI_c (by decide)]; exact e2
  unfold f_law_c37 f_X6_addedTotal f_X7_addedTotal f_X7_total
  simp (disch := omega) only [pi_0, pi_1, pi_2, pi_3, pi_4, pi_5, pi_6, pi_7, pi_8, pi_9, pi_10, pi_11, pi_12, pi_13, pi_20, pi_27, pi_30, pi_60, pi_99, pi_115, pi_123, pi_135, pi_136, pi_137, pi_138, pi_139, pi_158, pi_159, pi_1113, m_neg, nI_add, pk_mul, pi_sub, mI_dec, pi_cl, pi_leT, pi_leF, pi_ltT, pi_ltF, pi_eqT, pi_eqF, mI_n, m_in159, ↓x_let_e, ↓reduceIte, Option.bind_some, c0.k0T, e1, e3]
  exact ⟨_, rfl, gR_le (gR_N g gN_9) (by omega)⟩
theorem lc_38 {B : Nat} {M : xM} {sc : Nat → Int32} {L : Nat} {I : Int32} (g : gR B M) : ∃ M', f_law_c38 sc L I M = some M' ∧ gR (B + 400) M' := by
  obtain ⟨s, u, H, sf, sn, ef, fl, Ln, t, O, o, c0, g0, x0, v, vh, vs⟩ := id g
  have e1 : M.1 (M.2.1 0 0) 9 = nI (s.1 3) := c0.r.sc (j := 3) (by decide)
  have e2 : M.1 10 3 = nI (s.1 3) := g0.1.sc (j := 3) (by decide)
  have e3 : (sI M 9 9 (nI 0)).1 10 3 = nI (s.1 3) := by rw [sI_c (by decide)]; exact e2
  unfold f_law_c38 f_X6_servedTotal f_X7_servedTotal f_X7_total
  simp (disch := omega) only [pi_0, pi_1, pi_2, pi_3, pi_4, pi_5, pi_6, pi_7, pi_8, pi_9, pi_10, pi_11, pi_12, pi_13, pi_20, pi_27, pi_30, pi_60, pi_99, pi_115, pi_123, pi_135, pi_136, pi_137, pi_138, pi_139, pi_158, pi_159, pi_1113, m_neg, nI_add, pk_mul, pi_sub, mI_dec, pi_cl, pi_leT, pi_leF, pi_ltT, pi_ltF, pi_eqT, pi_eqF, mI_n, m_in159, ↓x_let_e, ↓reduceIte, Option.bind_some, c0.k0T, e1, e3]
  exact ⟨_, rfl, gR_le (gR_N g gN_9) (by omega)⟩
theorem lc_39 {B : Nat} {M : xM} {sc : Nat → Int32} {L : Nat} {I : Int32} (g : gR B M) : ∃ M', f_law_c39 sc L I M = some M' ∧ gR (B + 400) M' := by
  obtain ⟨s, u, H, sf, sn, ef, fl, Ln, t, O, o, c0, g0, x0, v, vh, vs⟩ := id g
  have e1 : M.1 (M.2.1 0 0) 11 = nI (s.1 5) := c0.r.sc (j := 5) (by decide)
  have e2 : M.1 10 5 = nI (s.1 5) := g0.1.sc (j := 5) (by decide)
  have e3 : (sI M 9 9 (nI 0)).1 10 5 = nI (s.1 5) := by rw [sI_c (by decide)]; exact e2
  unfold f_law_c39 f_X6_walkedOutTotal f_X7_walkedOutTotal f_X7_total
  simp (disch := omega) only [pi_0, pi_1, pi_2, pi_3, pi_4, pi_5, pi_6, pi_7, pi_8, pi_9, pi_10, pi_11, pi_12, pi_13, pi_20, pi_27, pi_30, pi_60, pi_99, pi_115, pi_123, pi_135, pi_136, pi_137, pi_138, pi_139, pi_158, pi_159, pi_1113, m_neg, nI_add, pk_mul, pi_sub, mI_dec, pi_cl, pi_leT, pi_leF, pi_ltT, pi_ltF, pi_eqT, pi_eqF, mI_n, m_in159, ↓x_let_e, ↓reduceIte, Option.bind_some, c0.k0T, e1, e3]
  exact ⟨_, rfl, gR_le (gR_N g gN_9) (by omega)⟩
theorem lc_40 {B : Nat} {M : xM} {sc : Nat → Int32} {L : Nat} {I : Int32} (g : gR B M) : ∃ M', f_law_c40 sc L I M = some M' ∧ gR (B + 400) M' := by
  obtain ⟨s, u, H, sf, sn, ef, fl, Ln, t, O, o, c0, g0, x0, v, vh, vs⟩ := id g
  have e1 : M.1 (M.2.1 0 0) 13 = nI (s.1 6) := c0.r.sc (j := 6) (by decide)
  have e2 : M.1 10 6 = nI (s.1 6) := g0.1.sc (j := 6) (by decide)
  have e3 : (sI M 9 9 (nI 0)).1 10 6 = nI (s.1 6) := by rw [sI_c (by decide)]; exact e2
  unfold f_law_c40 f_X6_sighTotal f_X7_sighTotal f_X7_total
  simp (disch := omega) only [pi_0, pi_1, pi_2, pi_3, pi_4, pi_5, pi_6, pi_7, pi_8, pi_9, pi_10, pi_11, pi_12, pi_13, pi_20, pi_27, pi_30, pi_60, pi_99, pi_115, pi_123, pi_135, pi_136, pi_137, pi_138, pi_139, pi_158, pi_159, pi_1113, m_neg, nI_add, pk_mul, pi_sub, mI_dec, pi_cl, pi_leT, pi_leF, pi_ltT, pi_ltF, pi_eqT, pi_eqF, mI_n, m_in159, ↓x_let_e, ↓reduceIte, Option.bind_some, c0.k0T, e1, e3]
  exact ⟨_, rfl, gR_le (gR_N g gN_9) (by omega)⟩
theorem cq_errorPosition {e : Nat} (h : M.1 0 7 = eI e) (he : e ≤ 100) : f_L_errorPosition M = some (nI (qErr e s).1, ql (qErr e s) M) := by
  unfold f_L_errorPosition f_X6_errorPosition qErr
  rw [h]
  by_cases z : e = 0
  · rw [if_pos (by rw [eI_n (by omega)]; exact z), if_pos z]
    rfl
  · rw [if_neg (by rw [eI_n (by omega)]; exact z), if_neg z, eI_p (by omega)]
    rfl
theorem mq_errorPosition {e : Nat} (h : M.1 9 7 = eI e) (he : e ≤ 100) : ∃ M', f_X7_errorPosition M = some (om (qErr e s), M') ∧ mq M M' (qErr e s) := by
  unfold f_X7_errorPosition qErr
  rw [x_let_e, pi_0, sI_k (by decide), h]
  by_cases z : e = 0
  · rw [if_pos (by rw [eI_n (by omega)]; exact z), if_pos z, pi_1, m_throw]
    exact ⟨_, rfl, mq_t⟩
  · rw [if_neg (by rw [eI_n (by omega)]; exact z), if_neg z, eI_p (by omega)]
    exact ⟨_, rfl, mq_0⟩
theorem lc_49 {B : Nat} {M : xM} {sc : Nat → Int32} {L : Nat} {I : Int32} (g : gR B M) (hB : 13 ≤ B) (hB2 : B < 2 ^ 29) : ∃ M', f_law_c49 sc L I M = some M' ∧ gR (B + 400) M' := by
  obtain ⟨s, u, H, sf, sn, ef, fl, Ln, t, O, o, c0, g0, x0, v, vh, vs⟩ := id g
  unfold f_law_c49
  rw [cq_errorPosition (s := s) x0.1.1 x0.2.2.2.2.1, Option.bind_some]
  obtain ⟨M2, m1, m2⟩ := mq_errorPosition (s := s) (M := ql (qErr ef s) M) (by rw [ql_1]; exact x0.2.1.1) x0.2.2.2.2.1
  rw [m1, Option.bind_some]
  obtain ⟨e1, e2⟩ := lw_q (o := qErr ef s) g qErr_le m2
  exact ⟨M2, e1, gR_le e2 (by omega)⟩
theorem cq_failedCommand {e : Nat} (h : M.1 0 8 = eI e) (he : e ≤ 100) : f_L_failedCommand M = some (nI (qErr e s).1, ql (qErr e s) M) := by
  unfold f_L_failedCommand f_X6_failedCommand qErr
  rw [h]
  by_cases z : e = 0
  · rw [if_pos (by rw [eI_n (by omega)]; exact z), if_pos z]
    rfl
  · rw [if_neg (by rw [eI_n (by omega)]; exact z), if_neg z, eI_p (by omega)]
    rfl
theorem mq_failedCommand {e : Nat} (h : M.1 9 8 = eI e) (he : e ≤ 100) : ∃ M', f_X7_failedCommand M = some (om (qErr e s), M') ∧ mq M M' (qErr e s) := by
  unfold f_X7_failedCommand qErr
  rw [x_let_e, pi_0, sI_k (by decide), h]
  by_cases z : e = 0
  · rw [if_pos (by rw [eI_n (by omega)]; exact z), if_pos z, pi_1, m_throw]
    exact ⟨_, rfl, mq_t⟩
  · rw [if_neg (by rw [eI_n (by omega)]; exact z), if_neg z, eI_p (by omega)]
    exact ⟨_, rfl, mq_0⟩
theorem lc_50 {B : Nat} {M : xM} {sc : Nat → Int32} {L : Nat} {I : Int32} (g : gR B M) (hB : 13 ≤ B) (hB2 : B < 2 ^ 29) : ∃ M', f_law_c50 sc L I M = some M' ∧ gR (B + 400) M' := by
  obtain ⟨s, u, H, sf, sn, ef, fl, Ln, t, O, o, c0, g0, x0, v, vh, vs⟩ := id g
  unfold f_law_c50
  rw [cq_failedCommand (s := s) x0.1.2.1 x0.2.2.2.2.2.1, Option.bind_some]
  obtain ⟨M2, m1, m2⟩ := mq_failedCommand (s := s) (M := ql (qErr fl s) M) (by rw [ql_1]; exact x0.2.1.2.1) x0.2.2.2.2.2.1
  rw [m1, Option.bind_some]
  obtain ⟨e1, e2⟩ := lw_q (o := qErr fl s) g qErr_le m2
  exact ⟨M2, e1, gR_le e2 (by omega)⟩
end QS2
