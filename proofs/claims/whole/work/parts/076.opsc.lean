/-! pure: the nine commands in numbers, and the class's hall doing them -/
theorem m_in12 {n : Nat} (h : n < 12) : (x_in (nI n) 12 = true) = True := eq_true (pi_in12 h)
theorem m_in3 {n : Nat} (h : n < 3) : (x_in (nI n) 3 = true) = True := eq_true (pi_in3 h)
theorem m_in6 {n : Nat} (h : n < 6) : (x_in (nI n) 6 = true) = True := eq_true (pi_in6 h)
/-- an argument as a number; what is below 0 is too big -/
def ix (a : Int32) : Nat := if a < 0 then 2 ^ 31 else a.toNatClampNeg
theorem ix_nI {k : Nat} (h : k < 2 ^ 31) : ix (nI k) = k := by
  unfold ix
  rw [if_neg (nI_pos h), nI_clamp h]
theorem ix_eq {a : Int32} (h : ix a < 2 ^ 31) : a = nI (ix a) := by
  unfold ix at h ⊢
  by_cases g : a < 0
  · rw [if_pos g] at h; omega
  · rw [if_neg g]
    obtain ⟨j, hj, e⟩ := nI_of g
    rw [e, nI_clamp hj]
theorem ix_no {a : Int32} {n : Nat} (hn : n ≤ 2 ^ 31) (h : ¬ ix a < n) : ∀ i, i < n → a ≠ nI i := fun i hi e => h (by rw [e, ix_nI (by omega)]; exact hi)
theorem ix_rng {a : Int32} {lo hi : Nat} (hh : hi < 2 ^ 31) (hl : lo ≤ hi) : (a < nI lo ∨ nI hi < a) ↔ ¬ (lo ≤ ix a ∧ ix a ≤ hi) := by
  constructor
  · intro h z
    rw [ix_eq (a := a) (by omega)] at h
    rcases h with h | h
    · exact nI_nlt z.1 (by omega) h
    · exact nI_nlt z.2 (by omega) h
  · intro h
    by_cases g1 : a < nI lo
    · exact .inl g1
    · by_cases g2 : nI hi < a
      · exact .inr g2
      · obtain ⟨n, e, h1, h2⟩ := pi_rng hh g1 g2 hl
        rw [e, ix_nI (by omega)] at h
        exact absurd ⟨h1, h2⟩ h
def oAdd (x : Nat) (s : hS) : Nat × Nat × hS := if 1 ≤ x ∧ x ≤ 30 then (if s.1 0 = 12 then (2, 0, s) else (0, s.1 0, aAdmit x s)) else (1, 0, s)
def oOpen (w o p : Nat) (s : hS) : Nat × Nat × hS := if w < 3 then (if (1 ≤ o ∧ o ≤ 99) ∧ (1 ≤ p ∧ p ≤ 9) then (if hW s w 0 = 0 then (0, aOpens (aOpen w o p s), aOpen w o p s) else (3, 0, s)) else (2, 0, s)) else (1, 0, s)
def oClose (w : Nat) (s : hS) : Nat × Nat × hS := if w < 3 then (if hW s w 0 = 0 then (2, 0, s) else (0, aOpens (aShut w s), aShut w s)) else (1, 0, s)
def oCall (s : hS) : Nat × Nat × hS := match pf (fun i => decide (hC s i 5 = 0)) 0 (s.1 0) with
  | some i => (0, hC s i 0, uC s i 5 1)
  | none => (1, 0, s)
def aPos (s : hS) (c : Nat) : Option Nat := pf (fun k => decide (hQ s k = c)) 0 (s.1 7)
def aXch (x y p q : Nat) (s : hS) : hS := uQ (uQ (uC s (if p < q then x else y) 1 (hC s (if p < q then x else y) 1 - 2)) p y) q x
def oSwap (x y : Nat) (s : hS) : Nat × Nat × hS := if x < s.1 0 ∧ y < s.1 0 then (if x = y then (2, 0, s) else match aPos s x, aPos s y with
  | some p, some q => if hC s (if p < q then x else y) 1 < 2 then (4, 0, s) else (0, (if q ≤ p then p - q else q - p), aXch x y p q s)
  | _, _ => (3, 0, s)) else (1, 0, s)
def oSit (x : Nat) (s : hS) : Nat × Nat × hS := if x < s.1 0 then (if aW s x = 0 ∧ hC s x 6 = 0 then (if aSits s < 4 then (0, aSits (uC s x 6 1), uC s x 6 1) else (3, 0, s)) else (2, 0, s)) else (1, 0, s)
def oStand (x : Nat) (s : hS) : Nat × Nat × hS := if x < s.1 0 then (if hC s x 6 = 0 then (2, 0, s) else (0, aSits (uC s x 6 0), uC s x 6 0)) else (1, 0, s)
def oRemove (x : Nat) (s : hS) : Nat × Nat × hS := if x < s.1 0 then (0, s.1 0 - 1, aLeave x (u0 s 4 (s.1 4 + 1))) else (1, 0, s)
def oAdv (x : Nat) (s : hS) : Nat × Nat × hS := if 1 ≤ x ∧ x ≤ 20 then (0, (aPassL x s).1 3 - s.1 3, aPassL x s) else (1, 0, s)
/-- the class's answer: the value, or the refusal's number -/
def oc (l : List Int32) (o : Nat × Nat × hS) : Int32 := if o.1 = 0 then nI o.2.1 else l.getD (o.1 - 1) 0
theorem aServe_3 {s : hS} {c : Nat} : (aServe c s).1 3 = s.1 3 + 1 := by unfold aServe aCalm; split <;> rfl
theorem aShut_n {s : hS} {w j : Nat} (h : j ≠ 7) : (aShut w s).1 j = s.1 j := by
  unfold aShut
  split
  · rfl
  · exact aFront_0 (s := uW s w 0 0) (c := hW s w 2 - 1) h
theorem aTick_n {s : hS} {w j : Nat} (h : j ≠ 7) : (aTick w s).1 j = s.1 j := by
  rw [aTick_e]
  split
  · exact aShut_n h
  · rfl
theorem aWork_3 {s : hS} {w : Nat} : s.1 3 ≤ (aWork w s).1 3 := by
  unfold aWork
  split
  · rw [aTick_n (by decide)]; exact Nat.le_refl _
  · split
    · rw [aTick_n (by decide), aLeave_n (by decide) (by decide), aServe_3]; show s.1 3 ≤ s.1 3 + 1; omega
    · rw [aTick_n (by decide)]; exact Nat.le_refl _
theorem aWorkW_3 {s : hS} {w : Nat} : s.1 3 ≤ (aWorkW w s).1 3 := by
  unfold aWorkW
  split
  · exact aWork_3
  · exact Nat.le_refl _
theorem aWaitS_3 {s : hS} {p : Nat} : (aWaitS p s).2.1 3 = s.1 3 := by
  unfold aWaitS
  split
  · exact aWaitY_n (by decide)
  · show (aLeave _ (u0 _ 5 _)).1 3 = _
    rw [aLeave_n (by decide) (by decide), u0_n (by decide), aWaitY_n (by decide)]
theorem aWaitL_3 : ∀ (m p : Nat) (s : hS), (aWaitL m p s).1 3 = s.1 3
  | 0, _, _ => rfl
  | m + 1, p, s => by
    unfold aWaitL
    rw [aWaitL_3 m, aWaitS_3]
theorem aFillW_n {s : hS} {w j : Nat} (h : j ≠ 7) : (aFillW w s).1 j = s.1 j := by
  unfold aFillW aFill
  split
  · split
    · exact aTake_n h
    · rfl
  · rfl
theorem aMinute_3 {s : hS} : s.1 3 ≤ (aMinute s).1 3 := by
  have e : (aMinute s).1 3 = (aTurns s).1 3 := by
    unfold aMinute aFills aWait
    rw [u0_n (by decide), aFillW_n (by decide), aFillW_n (by decide), aFillW_n (by decide), aWaitL_3]
  rw [e]
  unfold aTurns
  exact Nat.le_trans aWorkW_3 (Nat.le_trans aWorkW_3 aWorkW_3)
theorem aPassL_3 : ∀ (m : Nat) (s : hS), s.1 3 ≤ (aPassL m s).1 3
  | 0, _ => Nat.le_refl _
  | m + 1, s => Nat.le_trans aMinute_3 (aPassL_3 m _)
section COP2
variable {h : Nat} {M : xM} {s : hS}
theorem cR.ckT (r : cR h M s) {i : Nat} (hi : i < 12) : (xkd (M.2.1 (h + 1) i) = 4) = True := eq_true (r.ck hi)
theorem cR.wkT (r : cR h M s) {w : Nat} (hw : w < 3) : (xkd (h + 3 + 15 + w) = 7) = True := eq_true (r.wk hw)
theorem o_add {a : Int32} (r : cR h M s) (b : aB s) (k : aK s) : ∃ M', f_X3_admit h a M = some (oc [-2, -3] (oAdd (ix a) s), M') ∧ cR h M' (oAdd (ix a) s).2.2 ∧ cF h M M' := by
  have hn := b.1
  have k7 : s.1 0 = s.1 7 + aOcc s := k.1.2.2.2.2.2.2
  unfold oAdd
  by_cases g : 1 ≤ ix a ∧ ix a ≤ 30
  · rw [if_pos g]
    by_cases g2 : s.1 0 = 12
    · rw [if_pos g2]
      exact ⟨M, c_admit3 r (fun z => (ix_rng (lo := 1) (hi := 30) (by decide) (by decide)).mp z g) g2, r, cF.rf⟩
    · rw [if_neg g2]
      have e := ix_eq (a := a) (by omega)
      have := c_admit (p := ix a) r (by omega) (by omega) g.1 g.2
      rw [← e] at this
      exact this
  · rw [if_neg g]
    exact ⟨M, c_admit2 ((ix_rng (lo := 1) (hi := 30) (by decide) (by decide)).mpr g), r, cF.rf⟩
theorem o_open {a o p : Int32} (r : cR h M s) (b : aB s) : ∃ M', f_X3_open h a o p M = some (oc [-1, -2, -3] (oOpen (ix a) (ix o) (ix p) s), M') ∧ cR h M' (oOpen (ix a) (ix o) (ix p) s).2.2 ∧ cF h M M' := by
  unfold oOpen
  by_cases g : ix a < 3
  · rw [if_pos g]
    have ea := ix_eq (a := a) (by omega)
    by_cases g2 : (1 ≤ ix o ∧ ix o ≤ 99) ∧ (1 ≤ ix p ∧ ix p ≤ 9)
    · rw [if_pos g2]
      have eo := ix_eq (a := o) (by omega)
      have ep := ix_eq (a := p) (by omega)
      by_cases g3 : hW s (ix a) 0 = 0
      · rw [if_pos g3]
        have := c_openw (w := ix a) (o := ix o) (p := ix p) r b g g2.1.1 g2.1.2 g2.2.1 g2.2.2 g3
        rw [← ea, ← eo, ← ep] at this
        exact this
      · rw [if_neg g3]
        have := c_open3 (h := h) (o := o) (p := p) r b g (fun z => z.elim (fun z => (ix_rng (lo := 1) (hi := 99) (by decide) (by decide)).mp z g2.1) (fun z => (ix_rng (lo := 1) (hi := 9) (by decide) (by decide)).mp z g2.2)) g3
        rw [← ea] at this
        exact ⟨M, this, r, cF.rf⟩
    · rw [if_neg g2]
      have := c_open2 (h := h) (M := M) (o := o) (p := p) g (by
        by_cases z : 1 ≤ ix o ∧ ix o ≤ 99
        · exact .inr ((ix_rng (lo := 1) (hi := 9) (by decide) (by decide)).mpr fun z2 => g2 ⟨z, z2⟩)
        · exact .inl ((ix_rng (lo := 1) (hi := 99) (by decide) (by decide)).mpr z))
      rw [← ea] at this
      exact ⟨M, this, r, cF.rf⟩
  · rw [if_neg g]
    exact ⟨M, c_open1 (ix_no (by decide) g), r, cF.rf⟩
theorem o_close {a : Int32} (r : cR h M s) (b : aB s) (k : aK s) : ∃ M', f_X3_close h a M = some (oc [-1, -3] (oClose (ix a) s), M') ∧ cR h M' (oClose (ix a) s).2.2 ∧ cF h M M' := by
  unfold oClose
  by_cases g : ix a < 3
  · rw [if_pos g]
    have ea := ix_eq (a := a) (by omega)
    by_cases g3 : hW s (ix a) 0 = 0
    · rw [if_pos g3]
      have := c_close3 r g g3
      rw [← ea] at this
      exact ⟨M, this, r, cF.rf⟩
    · rw [if_neg g3]
      have := c_close r b k g g3
      rw [← ea] at this
      exact this
  · rw [if_neg g]
    exact ⟨M, c_close1 (ix_no (by decide) g), r, cF.rf⟩
theorem o_call (r : cR h M s) (b : aB s) : ∃ M', f_X3_callLowestTicket h M = some (oc [-5] (oCall s), M') ∧ cR h M' (oCall s).2.2 ∧ cF h M M' := by
  obtain ⟨h1, h2⟩ := c_low r b.1
  unfold oCall
  cases e : pf (fun i => decide (hC s i 5 = 0)) 0 (s.1 0) with
  | none => exact ⟨M, h2 e, r, cF.rf⟩
  | some i => exact h1 i e
theorem o_adv {a : Int32} (r : cR h M s) (i : aM s) : ∃ M', f_X3_pass h a M = some (oc [-2] (oAdv (ix a) s), M') ∧ cR h M' (oAdv (ix a) s).2.2 ∧ cF h M M' := by
  unfold oAdv
  by_cases g : 1 ≤ ix a ∧ ix a ≤ 20
  · rw [if_pos g]
    have ea := ix_eq (a := a) (by omega)
    have := c_pass (q := ix a) r i g.1 g.2
    rw [← ea, pi_sub (aPassL_3 (ix a) s)] at this
    exact this
  · rw [if_neg g]
    exact ⟨M, c_passnt (fun z => g (by
      have := (ix_rng (a := a) (lo := 1) (hi := 20) (by decide) (by decide))
      by_cases w : 1 ≤ ix a ∧ ix a ≤ 20
      · exact w
      · exact absurd (this.mpr w) (fun y => y.elim (fun y => absurd z.1 (Int32.not_le.mpr y)) (fun y => absurd z.2 (Int32.not_le.mpr y))))), r, cF.rf⟩
theorem o_remove {a : Int32} (r : cR h M s) (b : aB s) : ∃ M', f_X3_dismiss h a M = some (oc [-1] (oRemove (ix a) s), M') ∧ cR h M' (oRemove (ix a) s).2.2 ∧ cF h M M' := by
  have hn := b.1
  unfold oRemove f_X3_dismiss
  by_cases g : ix a < s.1 0
  · have ea := ix_eq (a := a) (by omega)
    have e4 := r.sc (j := 4) (by decide)
    rw [show hix 4 = 12 from rfl] at e4
    rw [if_pos g]
    generalize ix a = x at g ea ⊢
    subst ea
    rw [c_has r hn g, Option.bind_some, if_neg (by decide), x_let_e, e4, pi_add1]
    have r1 := r.u0 (j := 4) (v := s.1 4 + 1) (by decide)
    obtain ⟨M', h1, h2, h3⟩ := c_leave (c := x) r1 (aB_u0 b (by omega)) (by rw [u0_n (by decide)]; exact g)
    rw [show hix 4 = 12 from rfl] at h1
    rw [h1]
    refine ⟨M', ?_, h2, (cF_I (by omega) (by omega)).tr h3⟩
    rw [Option.bind_some, h2.n, aLeave_0, u0_n (by decide)]
    rfl
  · rw [if_neg g, c_hasnt r hn (ix_no (by omega) g), Option.bind_some, if_pos rfl]
    exact ⟨M, rfl, r, cF.rf⟩
theorem aW_wof (k : aK s) {c : Nat} : (pf (fun w => decide (hW s w 2 = c + 1)) 0 3 = none ↔ aW s c = 0) := by
  unfold aW
  show pf (fun w => decide (wo s w = c + 1)) 0 3 = none ↔ _
  cases pf (fun w => decide (wo s w = c + 1)) 0 3 <;> simp
theorem o_sit {a : Int32} (r : cR h M s) (b : aB s) (k : aK s) : ∃ M', f_X3_seat h a M = some (oc [-1, -3, -4] (oSit (ix a) s), M') ∧ cR h M' (oSit (ix a) s).2.2 ∧ cF h M M' := by
  have hn := b.1
  unfold oSit f_X3_seat
  by_cases g : ix a < s.1 0
  · have ea := ix_eq (a := a) (by omega)
    rw [if_pos g]
    generalize ix a = x at g ea ⊢
    subst ea
    have hx : x < 12 := by omega
    have b6 := r.b6 hx
    have wle : ∀ j, pf (fun w => decide (hW s w 2 = x + 1)) 0 3 = some j → j < 3 := fun j hj => (pf_some hj).2.1
    rw [c_has r hn g, Option.bind_some, if_neg (by decide), c_wof r (by omega) b.w31, Option.bind_some]
    have ew := aW_wof k (c := x)
    cases hp : pf (fun w => decide (hW s w 2 = x + 1)) 0 3 with
    | some w =>
      rw [hp] at ew
      have hw := wle w hp
      rw [if_neg (show ¬ (aW s x = 0 ∧ hC s x 6 = 0) from fun z => by have := ew.mpr z.1; cases this), oI_s, if_neg (pi_ne1 (by omega))]
      exact ⟨M, rfl, r, cF.rf⟩
    | none =>
      have ew0 := ew.mp hp
      rw [oI_n, if_pos rfl]
      simp (disch := omega) only [↓x_let_e, ↓reduceIte, pi_0, pi_1, pi_2, pi_3, pi_4, pi_5, pi_6, pi_7, pi_8, pi_9, pi_10, pi_11, pi_12, pi_13, pi_20, pi_27, pi_30, pi_60, pi_99, pi_115, pi_123, pi_135, pi_136, pi_137, pi_138, pi_139, pi_158, pi_159, pi_1113, m_neg, nI_add, pi_sub, mI_dec, pi_cl, pi_leT, pi_leF, pi_ltT, pi_ltF, pi_eqT, pi_eqF, mI_n, m_in12, m_in3, m_in6, Option.bind_some, r.ckT, r.c]
      by_cases g6 : hC s x 6 = 0
      · rw [if_pos (show aW s x = 0 ∧ hC s x 6 = 0 from ⟨ew0, g6⟩)]
        simp (disch := omega) only [↓x_let_e, ↓reduceIte, pi_0, pi_1, pi_2, pi_3, pi_4, pi_5, pi_6, pi_7, pi_8, pi_9, pi_10, pi_11, pi_12, pi_13, pi_20, pi_27, pi_30, pi_60, pi_99, pi_115, pi_123, pi_135, pi_136, pi_137, pi_138, pi_139, pi_158, pi_159, pi_1113, m_neg, nI_add, pi_sub, mI_dec, pi_cl, pi_leT, pi_leF, pi_ltT, pi_ltF, pi_eqT, pi_eqF, mI_n, m_in12, m_in3, m_in6, Option.bind_some, g6, c_sits r hn]
        by_cases g4 : aSits s < 4
        · rw [if_pos g4]
          simp (disch := omega) only [↓x_let_e, ↓reduceIte, pi_0, pi_1, pi_2, pi_3, pi_4, pi_5, pi_6, pi_7, pi_8, pi_9, pi_10, pi_11, pi_12, pi_13, pi_20, pi_27, pi_30, pi_60, pi_99, pi_115, pi_123, pi_135, pi_136, pi_137, pi_138, pi_139, pi_158, pi_159, pi_1113, m_neg, nI_add, pi_sub, mI_dec, pi_cl, pi_leT, pi_leF, pi_ltT, pi_ltF, pi_eqT, pi_eqF, mI_n, m_in12, m_in3, m_in6, Option.bind_some]
          have r1 := r.uC (i := x) (f := 6) (v := 1) hx (by omega)
          obtain ⟨d, hd, ed⟩ := r.cc hx
          rw [c_sits r1 hn, Option.bind_some]
          exact ⟨_, rfl, r1, cF_I (by omega) (by omega)⟩
        · rw [if_neg g4]
          have : aSits s ≤ 12 := Nat.le_trans (pc_le _ _ _) hn
          simp (disch := omega) only [↓x_let_e, ↓reduceIte, pi_0, pi_1, pi_2, pi_3, pi_4, pi_5, pi_6, pi_7, pi_8, pi_9, pi_10, pi_11, pi_12, pi_13, pi_20, pi_27, pi_30, pi_60, pi_99, pi_115, pi_123, pi_135, pi_136, pi_137, pi_138, pi_139, pi_158, pi_159, pi_1113, m_neg, nI_add, pi_sub, mI_dec, pi_cl, pi_leT, pi_leF, pi_ltT, pi_ltF, pi_eqT, pi_eqF, mI_n, m_in12, m_in3, m_in6, Option.bind_some]
          exact ⟨M, rfl, r, cF.rf⟩
      · rw [if_neg (show ¬ (aW s x = 0 ∧ hC s x 6 = 0) from fun z => g6 z.2)]
        simp (disch := omega) only [↓x_let_e, ↓reduceIte, pi_0, pi_1, pi_2, pi_3, pi_4, pi_5, pi_6, pi_7, pi_8, pi_9, pi_10, pi_11, pi_12, pi_13, pi_20, pi_27, pi_30, pi_60, pi_99, pi_115, pi_123, pi_135, pi_136, pi_137, pi_138, pi_139, pi_158, pi_159, pi_1113, m_neg, nI_add, pi_sub, mI_dec, pi_cl, pi_leT, pi_leF, pi_ltT, pi_ltF, pi_eqT, pi_eqF, mI_n, m_in12, m_in3, m_in6, Option.bind_some]
        exact ⟨M, rfl, r, cF.rf⟩
  · rw [if_neg g, c_hasnt r hn (ix_no (by omega) g), Option.bind_some, if_pos rfl]
    exact ⟨M, rfl, r, cF.rf⟩
theorem o_stand {a : Int32} (r : cR h M s) (b : aB s) : ∃ M', f_X3_unseat h a M = some (oc [-1, -3] (oStand (ix a) s), M') ∧ cR h M' (oStand (ix a) s).2.2 ∧ cF h M M' := by
  have hn := b.1
  unfold oStand f_X3_unseat
  by_cases g : ix a < s.1 0
  · have ea := ix_eq (a := a) (by omega)
    rw [if_pos g]
    generalize ix a = x at g ea ⊢
    subst ea
    have hx : x < 12 := by omega
    have b6 := r.b6 hx
    rw [c_has r hn g, Option.bind_some, if_neg (by decide)]
    simp (disch := omega) only [↓x_let_e, ↓reduceIte, pi_0, pi_1, pi_2, pi_3, pi_4, pi_5, pi_6, pi_7, pi_8, pi_9, pi_10, pi_11, pi_12, pi_13, pi_20, pi_27, pi_30, pi_60, pi_99, pi_115, pi_123, pi_135, pi_136, pi_137, pi_138, pi_139, pi_158, pi_159, pi_1113, m_neg, nI_add, pi_sub, mI_dec, pi_cl, pi_leT, pi_leF, pi_ltT, pi_ltF, pi_eqT, pi_eqF, mI_n, m_in12, m_in3, m_in6, Option.bind_some, r.ckT, r.c]
    by_cases g6 : hC s x 6 = 0
    · rw [if_pos g6]
      simp (disch := omega) only [↓x_let_e, ↓reduceIte, pi_0, pi_1, pi_2, pi_3, pi_4, pi_5, pi_6, pi_7, pi_8, pi_9, pi_10, pi_11, pi_12, pi_13, pi_20, pi_27, pi_30, pi_60, pi_99, pi_115, pi_123, pi_135, pi_136, pi_137, pi_138, pi_139, pi_158, pi_159, pi_1113, m_neg, nI_add, pi_sub, mI_dec, pi_cl, pi_leT, pi_leF, pi_ltT, pi_ltF, pi_eqT, pi_eqF, mI_n, m_in12, m_in3, m_in6, Option.bind_some]
      exact ⟨M, rfl, r, cF.rf⟩
    · rw [if_neg g6]
      simp (disch := omega) only [↓x_let_e, ↓reduceIte, pi_0, pi_1, pi_2, pi_3, pi_4, pi_5, pi_6, pi_7, pi_8, pi_9, pi_10, pi_11, pi_12, pi_13, pi_20, pi_27, pi_30, pi_60, pi_99, pi_115, pi_123, pi_135, pi_136, pi_137, pi_138, pi_139, pi_158, pi_159, pi_1113, m_neg, nI_add, pi_sub, mI_dec, pi_cl, pi_leT, pi_leF, pi_ltT, pi_ltF, pi_eqT, pi_eqF, mI_n, m_in12, m_in3, m_in6, Option.bind_some]
      have r1 := r.uC (i := x) (f := 6) (v := 0) hx (by omega)
      obtain ⟨d, hd, ed⟩ := r.cc hx
      rw [c_sits r1 hn, Option.bind_some]
      exact ⟨_, rfl, r1, cF_I (by omega) (by omega)⟩
  · rw [if_neg g, c_hasnt r hn (ix_no (by omega) g), Option.bind_some, if_pos rfl]
    exact ⟨M, rfl, r, cF.rf⟩
theorem m_abs {a b : Nat} (ha : a < 2 ^ 30) (hb : b < 2 ^ 30) : (if 0 ≤ nI a - nI b then nI a - nI b else 0 - (nI a - nI b)) = nI (if b ≤ a then a - b else b - a) := by
  by_cases g : b ≤ a
  · rw [if_pos g, pi_sub g, if_pos (nI_pos' (by omega))]
  · rw [if_neg g, if_neg]
    · rw [← pi_sub (a := b) (b := a) (by omega)]
      apply Int32.toBitVec_inj.mp
      simp only [Int32.toBitVec_sub]
      show 0 - ((nI a).toBitVec - (nI b).toBitVec) = _
      generalize (nI a).toBitVec = u
      generalize (nI b).toBitVec = v
      bv_omega
    · exact Int32.not_le.mpr (pk_sneg hb (by omega))
theorem aPos_lt {x p : Nat} (hp : aPos s x = some p) : p < s.1 7 ∧ hQ s p = x := by
  obtain ⟨-, h1, h2, -⟩ := pf_some hp
  exact ⟨by omega, of_decide_eq_true h2⟩
theorem o_swap {a c : Int32} (r : cR h M s) (b : aB s) : ∃ M', f_X3_exchange h a c M = some (oc [-1, -2, -3, -4] (oSwap (ix a) (ix c) s), M') ∧ cR h M' (oSwap (ix a) (ix c) s).2.2 ∧ cF h M M' := by
  have hn := b.1
  have hq := b.2.1
  unfold oSwap f_X3_exchange
  by_cases g : ix a < s.1 0
  · have ea := ix_eq (a := a) (by omega)
    by_cases g' : ix c < s.1 0
    · have ec := ix_eq (a := c) (by omega)
      rw [if_pos (show ix a < s.1 0 ∧ ix c < s.1 0 from ⟨g, g'⟩)]
      generalize ix a = x at g ea ⊢
      subst ea
      generalize ix c = y at g' ec ⊢
      subst ec
      have hx : x < 12 := by omega
      have hy : y < 12 := by omega
      rw [c_has r hn g, Option.bind_some, if_neg (by decide), c_has r hn g', Option.bind_some, if_neg (by decide)]
      by_cases e : x = y
      · rw [if_pos e, if_pos (by rw [e])]
        exact ⟨M, rfl, r, cF.rf⟩
      · rw [if_neg e, if_neg (fun z => e ((nI_eq (by omega) (by omega)).mp z)), c_pos r hq (by omega) b.q31, Option.bind_some, c_pos r hq (by omega) b.q31, Option.bind_some]
        cases hp : aPos s x with
        | none =>
          have hp' : pf (fun k => decide (hQ s k = x)) 0 (s.1 7) = none := hp
          rw [hp', oI_n, if_pos rfl]
          exact ⟨M, rfl, r, cF.rf⟩
        | some p =>
          obtain ⟨p1, p2⟩ := aPos_lt hp
          have hp' : pf (fun k => decide (hQ s k = x)) 0 (s.1 7) = some p := hp
          rw [hp', oI_s, if_neg (pi_ne1 (by omega))]
          cases hq' : aPos s y with
          | none =>
            have hq2 : pf (fun k => decide (hQ s k = y)) 0 (s.1 7) = none := hq'
            rw [hq2, oI_n, if_pos rfl]
            exact ⟨M, rfl, r, cF.rf⟩
          | some q =>
            obtain ⟨q1, q2⟩ := aPos_lt hq'
            have hq2 : pf (fun k => decide (hQ s k = y)) 0 (s.1 7) = some q := hq'
            rw [hq2]
            have pq : p ≠ q := fun z => e (by rw [← p2, z]; exact q2)
            rw [oI_s, if_neg (pi_ne1 (by omega)), m_abs (by omega) (by omega)]
            dsimp only
            unfold aXch
            by_cases l : p < q
            · have hb := (b.2.2.2.2 x hx).1
              rw [if_pos l]
              simp (disch := omega) only [↓x_let_e, ↓reduceIte, pi_0, pi_1, pi_2, pi_3, pi_4, pi_5, pi_6, pi_7, pi_8, pi_9, pi_10, pi_11, pi_12, pi_13, pi_20, pi_27, pi_30, pi_60, pi_99, pi_115, pi_123, pi_135, pi_136, pi_137, pi_138, pi_139, pi_158, pi_159, pi_1113, m_neg, nI_add, pi_sub, mI_dec, pi_cl, pi_leT, pi_leF, pi_ltT, pi_ltF, pi_eqT, pi_eqF, mI_n, m_in12, m_in3, m_in6, Option.bind_some, r.ckT, r.c]
              by_cases g2 : hC s x 1 < 2
              · rw [if_pos g2]
                simp (disch := omega) only [↓x_let_e, ↓reduceIte, pi_0, pi_1, pi_2, pi_3, pi_4, pi_5, pi_6, pi_7, pi_8, pi_9, pi_10, pi_11, pi_12, pi_13, pi_20, pi_27, pi_30, pi_60, pi_99, pi_115, pi_123, pi_135, pi_136, pi_137, pi_138, pi_139, pi_158, pi_159, pi_1113, m_neg, nI_add, pi_sub, mI_dec, pi_cl, pi_leT, pi_leF, pi_ltT, pi_ltF, pi_eqT, pi_eqF, mI_n, m_in12, m_in3, m_in6, Option.bind_some]
                exact ⟨M, rfl, r, cF.rf⟩
              · rw [if_neg g2]
                simp (disch := omega) only [↓x_let_e, ↓reduceIte, pi_0, pi_1, pi_2, pi_3, pi_4, pi_5, pi_6, pi_7, pi_8, pi_9, pi_10, pi_11, pi_12, pi_13, pi_20, pi_27, pi_30, pi_60, pi_99, pi_115, pi_123, pi_135, pi_136, pi_137, pi_138, pi_139, pi_158, pi_159, pi_1113, m_neg, nI_add, pi_sub, mI_dec, pi_cl, pi_leT, pi_leF, pi_ltT, pi_ltF, pi_eqT, pi_eqF, mI_n, m_in12, m_in3, m_in6, Option.bind_some]
                have r1 := ((r.uC (i := x) (f := 1) (v := hC s x 1 - 2) hx (by omega)).uQ (k := p) (v := y)).uQ (k := q) (v := x)
                obtain ⟨d, hd, ed⟩ := r.cc hx
                exact ⟨_, rfl, r1, (cF_I (by omega) (by omega)).tr ((cF_I (by omega) (by omega)).tr (cF_I (by omega) (by omega)))⟩
            · have hb := (b.2.2.2.2 y hy).1
              rw [if_neg l]
              simp (disch := omega) only [↓x_let_e, ↓reduceIte, pi_0, pi_1, pi_2, pi_3, pi_4, pi_5, pi_6, pi_7, pi_8, pi_9, pi_10, pi_11, pi_12, pi_13, pi_20, pi_27, pi_30, pi_60, pi_99, pi_115, pi_123, pi_135, pi_136, pi_137, pi_138, pi_139, pi_158, pi_159, pi_1113, m_neg, nI_add, pi_sub, mI_dec, pi_cl, pi_leT, pi_leF, pi_ltT, pi_ltF, pi_eqT, pi_eqF, mI_n, m_in12, m_in3, m_in6, Option.bind_some, r.ckT, r.c]
              by_cases g2 : hC s y 1 < 2
              · rw [if_pos g2]
                simp (disch := omega) only [↓x_let_e, ↓reduceIte, pi_0, pi_1, pi_2, pi_3, pi_4, pi_5, pi_6, pi_7, pi_8, pi_9, pi_10, pi_11, pi_12, pi_13, pi_20, pi_27, pi_30, pi_60, pi_99, pi_115, pi_123, pi_135, pi_136, pi_137, pi_138, pi_139, pi_158, pi_159, pi_1113, m_neg, nI_add, pi_sub, mI_dec, pi_cl, pi_leT, pi_leF, pi_ltT, pi_ltF, pi_eqT, pi_eqF, mI_n, m_in12, m_in3, m_in6, Option.bind_some]
                exact ⟨M, rfl, r, cF.rf⟩
              · rw [if_neg g2]
                simp (disch := omega) only [↓x_let_e, ↓reduceIte, pi_0, pi_1, pi_2, pi_3, pi_4, pi_5, pi_6, pi_7, pi_8, pi_9, pi_10, pi_11, pi_12, pi_13, pi_20, pi_27, pi_30, pi_60, pi_99, pi_115, pi_123, pi_135, pi_136, pi_137, pi_138, pi_139, pi_158, pi_159, pi_1113, m_neg, nI_add, pi_sub, mI_dec, pi_cl, pi_leT, pi_leF, pi_ltT, pi_ltF, pi_eqT, pi_eqF, mI_n, m_in12, m_in3, m_in6, Option.bind_some]
                have r1 := ((r.uC (i := y) (f := 1) (v := hC s y 1 - 2) hy (by omega)).uQ (k := p) (v := y)).uQ (k := q) (v := x)
                obtain ⟨d, hd, ed⟩ := r.cc hy
                exact ⟨_, rfl, r1, (cF_I (by omega) (by omega)).tr ((cF_I (by omega) (by omega)).tr (cF_I (by omega) (by omega)))⟩
    · rw [if_neg (show ¬ (ix a < s.1 0 ∧ ix c < s.1 0) from fun z => g' z.2)]
      have ea' := ea
      generalize ix a = x at g ea ⊢
      subst ea
      rw [c_has r hn g, Option.bind_some, if_neg (by decide), c_hasnt r hn (ix_no (by omega) g'), Option.bind_some, if_pos rfl]
      exact ⟨M, rfl, r, cF.rf⟩
  · rw [if_neg (show ¬ (ix a < s.1 0 ∧ ix c < s.1 0) from fun z => g z.1), c_hasnt r hn (ix_no (by omega) g), Option.bind_some, if_pos rfl]
    exact ⟨M, rfl, r, cF.rf⟩
end COP2
