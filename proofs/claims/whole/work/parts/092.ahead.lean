/-! pure: called ahead, two ways -/
theorem pc_add {p q : Nat → Bool} {x : Nat} (h : ∀ i, i ≠ x → q i = p i) (hp : p x = false) (hq : q x = true) : ∀ r k, k ≤ x → x < k + r → pc q k r = pc p k r + 1
  | 0, k, h1, h2 => by omega
  | r + 1, k, h1, h2 => by
    show (if q k then 1 else 0) + pc q (k + 1) r = (if p k then 1 else 0) + pc p (k + 1) r + 1
    by_cases e : k = x
    · have : pc q (k + 1) r = pc p (k + 1) r := pc_cong fun i a b => h i (by omega)
      rw [this, e, hp, hq, if_pos rfl, if_neg (by decide)]
      omega
    · rw [h k e, pc_add h hp hq r (k + 1) (by omega) (by omega)]
      omega
def cld (s : hS) (k : Nat) : Bool := decide (hC s (hQ s k) 5 ≠ 0)
/-- how many called are ahead of x -/
def aAh (s : hS) (x : Nat) : Nat := match aPos s x with
  | some p => pc (cld s) 0 p
  | none => 0
def bef (s : hS) (o : Option Nat) (i : Nat) : Bool := (match aPos s i, o with
  | some p', some p => decide (p' < p)
  | _, _ => false) && decide (hC s i 5 ≠ 0)
theorem aPos_q {s : hS} (k : aK s) {j : Nat} (hj : j < s.1 7) : aPos s (hQ s j) = some j := pf_is (p := fun k => decide (hQ s k = hQ s j)) (by omega) (by omega) (decide_eq_true rfl) (fun i _ hi => decide_eq_false fun z => by
  have := k.1.2.1 i j (by omega) hj z
  omega)
theorem cld_t {s : hS} {k : Nat} (h : hC s (hQ s k) 5 ≠ 0) : cld s k = true := decide_eq_true h
theorem cld_f {s : hS} {k : Nat} (h : hC s (hQ s k) 5 = 0) : cld s k = false := decide_eq_false (fun z => z h)
theorem pc_s {p : Nat → Bool} {k r : Nat} : pc p k (r + 1) = (if p k then 1 else 0) + pc p (k + 1) r := rfl
theorem bef_1 {s : hS} {o : Option Nat} {i : Nat} (h : aPos s i = none) : bef s o i = false := by
  unfold bef
  rw [h]
  rfl
theorem bef_2 {s : hS} {i : Nat} : bef s none i = false := by
  unfold bef
  cases aPos s i <;> rfl
theorem bef_3 {s : hS} {p p' i : Nat} (h : aPos s i = some p') : bef s (some p) i = (decide (p' < p) && decide (hC s i 5 ≠ 0)) := by
  unfold bef
  rw [h]
theorem bef_pc {s : hS} (k : aK s) : ∀ p, p ≤ s.1 7 → pc (bef s (some p)) 0 (s.1 0) = pc (cld s) 0 p
  | 0, hp => by
    have : ∀ i, bef s (some 0) i = false := fun i => by
      unfold bef
      cases aPos s i <;> simp
    have z : ∀ r k, pc (bef s (some 0)) k r = 0 := fun r => by
      induction r with
      | zero => intro k; rfl
      | succ r ih =>
        intro k
        show (if bef s (some 0) k then 1 else 0) + pc _ (k + 1) r = 0
        rw [this, ih, if_neg (by decide)]
    rw [z]
    rfl
  | p + 1, hp => by
    have ih := bef_pc k p (by omega)
    have hx := k.1.1 p (by omega)
    have px := aPos_q k (j := p) (by omega)
    rw [pc_end, Nat.zero_add, ← ih]
    have oth : ∀ i, i ≠ hQ s p → bef s (some (p + 1)) i = bef s (some p) i := fun i hi => by
      unfold bef
      cases e : aPos s i with
      | none => rfl
      | some j =>
        have hj := aPos_lt e
        have : j ≠ p := fun z => hi (by rw [← hj.2, z])
        have e2 : decide (j < p + 1) = decide (j < p) := decide_eq_decide.mpr (by omega)
        show (decide (j < p + 1) && _) = (decide (j < p) && _)
        rw [e2]
    have bp : bef s (some p) (hQ s p) = false := by
      unfold bef
      rw [px]
      show (decide (p < p) && _) = false
      rw [decide_eq_false (by omega), Bool.false_and]
    by_cases g : hC s (hQ s p) 5 = 0
    · rw [cld_f g, if_neg (by decide), Nat.add_zero]
      refine pc_cong fun i _ _ => ?_
      by_cases e : i = hQ s p
      · rw [e, bp]
        unfold bef
        rw [g]
        simp
      · exact oth i e
    · rw [cld_t g, if_pos rfl]
      refine pc_add oth bp ?_ _ 0 (by omega) (by omega)
      unfold bef
      rw [px]
      show (decide (p < p + 1) && _) = true
      rw [decide_eq_true (by omega), decide_eq_true g]
      rfl
theorem bef_none {s : hS} : ∀ r k, pc (bef s none) k r = 0
  | 0, _ => rfl
  | r + 1, k => by
    have : bef s none k = false := by
      unfold bef
      cases aPos s k <;> simp
    show (if bef s none k then 1 else 0) + pc _ (k + 1) r = 0
    rw [this, bef_none r (k + 1), if_neg (by decide)]
theorem bef_ah {s : hS} (k : aK s) (x : Nat) : pc (bef s (aPos s x)) 0 (s.1 0) = aAh s x := by
  unfold aAh
  cases e : aPos s x with
  | none => exact bef_none _ _
  | some p => exact bef_pc k p (by have := (aPos_lt e).1; omega)
section AH
variable {M : xM} {s : hS} {u : Nat} {H : Nat → hS} {sf : Nat} {sn : hS}
theorem ca_L (g : gC M s u H sf sn) (b : aB s) (kk : aK s) {x p : Nat} (hx : x < 12) (hp : p < s.1 7) (ep : hQ s p = x) : ∀ (m k c n : Nat), k + m = p → m < n → f_X6_calledAhead_L23 (nI x) M n (nI c) (nI k) = some (.inl (nI (c + pc (cld s) k m)))
  | 0, k, c, n, e, hn => by
    obtain ⟨n, rfl⟩ : ∃ n', n = n' + 1 := ⟨n - 1, by omega⟩
    have r := g.r
    have hq := b.2.1
    have k0 := g.k0T
    have ek : k = p := by omega
    subst ek
    rw [f_X6_calledAhead_L23.eq_2]
    simp (disch := omega) only [k0, ↓reduceIte, r.qn, pi_leF, m_in12, pi_cl, r.q, pi_eqT]
    rfl
  | m + 1, k, c, n, e, hn => by
    obtain ⟨n, rfl⟩ : ∃ n', n = n' + 1 := ⟨n - 1, by omega⟩
    have r := g.r
    have hq := b.2.1
    have k0 := g.k0T
    have hk := b.2.2.1 k (by omega)
    have ne : hQ s k ≠ x := fun z => by
      have := kk.1.2.1 k p (by omega) hp (z.trans ep.symm)
      omega
    have b5 := r.b5 hk
    rw [f_X6_calledAhead_L23.eq_2]
    simp (disch := omega) only [k0, ↓reduceIte, r.qn, pi_leF, m_in12, pi_cl, r.q, pi_eqF, r.ckT, r.c, pi_add1]
    rw [pc_s]
    by_cases z : hC s (hQ s k) 5 = 0
    · rw [if_pos (by rw [z]; rfl), ca_L g b kk hx hp ep m (k + 1) c n (by omega) (by omega), cld_f z, if_neg (by decide), Nat.zero_add]
    · rw [if_neg (by rw [pi_z (by omega)]; exact z), ca_L g b kk hx hp ep m (k + 1) (c + 1) n (by omega) (by omega), cld_t z, if_pos rfl, Nat.add_assoc]
def qAh (x : Nat) (s : hS) : Nat × Nat × hS := if x < s.1 0 then (0, aAh s x, s) else (1, 0, s)
theorem qAh_le {x : Nat} {s : hS} : (qAh x s).1 < 2 ^ 31 := by unfold qAh; split <;> (dsimp only; omega)
theorem ca_in (g : gC M s u H sf sn) (b : aB s) (k : aK s) {x : Nat} (h : x < s.1 0) : f_X6_calledAhead (nI x) M = some (.inl (nI (aAh s x))) := by
  have r := g.r
  have hn := b.1
  have hq := b.2.1
  unfold f_X6_calledAhead
  have e1 : f_X6_requireCustomer (nI x) M = some (.inl ()) := by
    rw [c_req g hn, ix_nI (by omega), if_pos h]
  rw [e1, Option.bind_some, x_case_l, if_pos g.k0, c_wof r (by omega) b.w31, Option.bind_some]
  have ew := aW_wof k (c := x)
  have wx := aPos_aW k h
  unfold aAh
  cases hp : aPos s x with
  | none =>
    rw [hp] at wx
    have z : aW s x ≠ 0 := fun z => by obtain ⟨p, h⟩ := wx.mp z; cases h
    cases e2 : pf (fun w => decide (hW s w 2 = x + 1)) 0 3 with
    | none => exact absurd (ew.mp e2) z
    | some w =>
      have := (pf_some e2).2.1
      rw [oI_s, if_neg (pi_ne1 (by omega))]
      rfl
  | some p =>
    have hx0 : aW s x = 0 := wx.mpr ⟨p, hp⟩
    obtain ⟨p1, p2⟩ := aPos_lt hp
    rw [ew.mpr hx0, oI_n, if_pos rfl, pi_0, ca_L g b k (by omega) p1 p2 p 0 0 xF (by omega) (by rw [xF_2000]; omega), Nat.zero_add]
theorem cb_L (g : gC M s u H sf sn) (b : aB s) (k : aK s) (o : Option Nat) (ho : ∀ p, o = some p → p < 12) : ∀ (m j c n : Nat), j + m = s.1 0 → m < n → f_X6_calledAheadByPositions_L19 (oI o) M n (nI c) (nI j) = some (.inl (nI (c + pc (bef s o) j m)))
  | 0, j, c, n, e, hn => by
    obtain ⟨n, rfl⟩ : ∃ n', n = n' + 1 := ⟨n - 1, by omega⟩
    have r := g.r
    have h12 := b.1
    have k0 := g.k0T
    rw [f_X6_calledAheadByPositions_L19.eq_2]
    simp (disch := omega) only [k0, ↓reduceIte, r.n, pi_leT]
    rfl
  | m + 1, j, c, n, e, hn => by
    obtain ⟨n, rfl⟩ : ∃ n', n = n' + 1 := ⟨n - 1, by omega⟩
    have r := g.r
    have h12 := b.1
    have hq := b.2.1
    have k0 := g.k0T
    have b5 := r.b5 (i := j) (by omega)
    have ih := fun c => cb_L g b k o ho m (j + 1) c n (by omega) (by omega)
    rw [f_X6_calledAheadByPositions_L19.eq_2]
    simp (disch := omega) only [k0, ↓reduceIte, r.n, pi_leF]
    rw [c_pos r hq (by omega) b.q31, Option.bind_some]
    have hx : pf (fun k => decide (hQ s k = j)) 0 (s.1 7) = aPos s j := rfl
    rw [hx]
    rw [pc_s]
    cases e1 : aPos s j with
    | none =>
      rw [oI_n, if_pos rfl, pi_add1, ih, bef_1 e1, if_neg (by decide), Nat.zero_add]
    | some p' =>
      have hp' := (aPos_lt e1).1
      rw [oI_s, if_neg (pi_ne1 (by omega))]
      cases o with
      | none =>
        have lt : (oI none : Int32) ≤ nI p' := by
          rw [oI_n, Int32.le_iff_toInt_le, nI_toInt (by omega)]
          have : (-1 : Int32).toInt = -1 := by decide
          omega
        rw [if_pos lt, pi_add1, ih, bef_2, if_neg (by decide), Nat.zero_add]
      | some p =>
        have hp := ho p rfl
        rw [oI_s] at ih ⊢
        rw [bef_3 e1]
        by_cases l : p ≤ p'
        · rw [if_pos (nI_le l (by omega)), pi_add1, ih, decide_eq_false (show ¬ p' < p by omega), Bool.false_and, if_neg (by decide), Nat.zero_add]
        · rw [if_neg (nI_ge (by omega) (by omega)), decide_eq_true (show p' < p by omega), Bool.true_and]
          simp (disch := omega) only [m_in12, pi_cl, r.ckT, r.c, ↓reduceIte, pi_add1]
          by_cases z : hC s j 5 = 0
          · rw [if_pos (by rw [z]; rfl), ih, decide_eq_false (show ¬ hC s j 5 ≠ 0 from fun y => y z), if_neg (by decide), Nat.zero_add]
          · rw [if_neg (by rw [pi_z (by omega)]; exact z), ih, decide_eq_true (show hC s j 5 ≠ 0 from z), if_pos rfl, Nat.add_assoc]
theorem cb_in (g : gC M s u H sf sn) (b : aB s) (k : aK s) {x : Nat} (h : x < s.1 0) : f_X6_calledAheadByPositions (nI x) M = some (.inl (nI (aAh s x))) := by
  have r := g.r
  have hn := b.1
  have hq := b.2.1
  unfold f_X6_calledAheadByPositions
  have e1 : f_X6_requireCustomer (nI x) M = some (.inl ()) := by
    rw [c_req g hn, ix_nI (by omega), if_pos h]
  rw [e1, Option.bind_some, x_case_l, if_pos g.k0, c_pos r hq (by omega) b.q31, Option.bind_some]
  have := cb_L g b k (aPos s x) (fun p hp => by have := (aPos_lt hp).1; omega) (s.1 0) 0 0 xF (by omega) (by rw [xF_2000]; omega)
  rw [bef_ah k, Nat.zero_add] at this
  exact this
theorem cq_calledAhead (g : gC M s u H sf sn) (b : aB s) (k : aK s) {a : Int32} : f_L_calledAhead a M = some (nI (qAh (ix a) s).1, ql (qAh (ix a) s) M) := by
  have hn := b.1
  unfold f_L_calledAhead qAh
  by_cases h : ix a < s.1 0
  · have ea := ix_eq (a := a) (by omega)
    rw [if_pos h]
    generalize ix a = x at h ea ⊢
    subst ea
    rw [ca_in g b k h]
    rfl
  · rw [if_neg h]
    unfold f_X6_calledAhead
    rw [c_req g hn, if_neg h]
    rfl
theorem cq_calledAheadByPositions (g : gC M s u H sf sn) (b : aB s) (k : aK s) {a : Int32} : f_L_calledAheadByPositions a M = some (nI (qAh (ix a) s).1, ql (qAh (ix a) s) M) := by
  have hn := b.1
  unfold f_L_calledAheadByPositions qAh
  by_cases h : ix a < s.1 0
  · have ea := ix_eq (a := a) (by omega)
    rw [if_pos h]
    generalize ix a = x at h ea ⊢
    subst ea
    rw [cb_in g b k h]
    rfl
  · rw [if_neg h]
    unfold f_X6_calledAheadByPositions
    rw [c_req g hn, if_neg h]
    rfl
theorem ma_L (d : dH (M.1 10) s (aW s)) (b : aB s) (kk : aK s) (hF : aF s) {x p : Nat} (hx : x < 12) (hpx : aPos s x = some p) : ∀ (m k c n : Nat), k + m = p → m < n → f_X7_calledAhead_L23 (nI x) M n (nI c) (nI k) = some (nI (c + pc (cld s) k m), M)
  | 0, k, c, n, e, hn => by
    obtain ⟨n, rfl⟩ : ∃ n', n = n' + 1 := ⟨n - 1, by omega⟩
    have hq := b.2.1
    have hp := (aPos_lt hpx).1
    have hp' : pf (fun k => decide (hQ s k = x)) 0 (s.1 7) = some p := hpx
    rw [f_X7_calledAhead_L23.eq_2, m_place d.qn hq (by omega) (fun k hk => d.q hk) b.q31, hp', oI_s, Option.bind_some, if_pos (nI_le (by omega) (by omega))]
    rfl
  | m + 1, k, c, n, e, hn => by
    obtain ⟨n, rfl⟩ : ∃ n', n = n' + 1 := ⟨n - 1, by omega⟩
    have hq := b.2.1
    have h12 := b.1
    have hp := (aPos_lt hpx).1
    have hp' : pf (fun k => decide (hQ s k = x)) 0 (s.1 7) = some p := hpx
    have hk := kk.1.1 k (by omega)
    have eq := d.q (k := k) (by omega)
    have e5 := d.p5 hk
    have f5 := (hF (hQ s k) (by omega)).1
    rw [f_X7_calledAhead_L23.eq_2, m_place d.qn hq (by omega) (fun k hk => d.q hk) b.q31, hp', oI_s, Option.bind_some]
    simp (disch := omega) only [↓reduceIte, pi_0, pi_1, pi_2, pi_3, pi_4, pi_5, pi_6, pi_7, pi_8, pi_9, pi_10, pi_11, pi_12, pi_13, pi_20, pi_27, pi_30, pi_60, pi_99, pi_115, pi_123, pi_135, pi_136, pi_137, pi_138, pi_139, pi_158, pi_159, pi_1113, m_neg, nI_add, pk_mul, pi_sub, mI_dec, pi_cl, pi_leT, pi_leF, pi_ltT, pi_ltF, pi_eqT, pi_eqF, mI_n, m_in159, Option.bind_some, f_X7_personAt, f_X7_windowAt, mG_i, mG_g, mG_s, pk_us, pk_un, eq, e5]
    rw [ma_L d b kk hF hx hpx m (k + 1) _ n (by omega) (by omega), pc_s]
    by_cases z : hC s (hQ s k) 5 = 0
    · rw [cld_f z, if_neg (by decide), z, Nat.add_assoc]
    · rw [cld_t z, if_pos rfl, show hC s (hQ s k) 5 = 1 by omega, Nat.add_assoc]
theorem mq_calledAhead (d : dH (M.1 10) s (aW s)) (b : aB s) (k : aK s) (hF : aF s) {a : Int32} : ∃ M', f_X7_calledAhead a M = some (om (qAh (ix a) s), M') ∧ mq M M' (qAh (ix a) s) := by
  have d1 := d9 d
  have hn := b.1
  have hq := b.2.1
  unfold f_X7_calledAhead qAh
  rw [x_let_e, pi_0]
  by_cases h : ix a < s.1 0
  · have ea := ix_eq (a := a) (by omega)
    rw [if_pos h]
    generalize ix a = x at h ea ⊢
    subst ea
    rw [m_here d1 hn h, Option.bind_some, if_neg (show ¬ nI 1 = nI 0 by decide)]
    unfold aAh
    cases hp : aPos s x with
    | none =>
      have hp' : pf (fun k => decide (hQ s k = x)) 0 (s.1 7) = none := hp
      obtain ⟨N, hN⟩ : ∃ N, xF = N + 1 := ⟨1999, rfl⟩
      rw [hN, f_X7_calledAhead_L23.eq_2, m_place d1.qn hq (by omega) (fun k hk => d1.q hk) b.q31, hp', oI_n, Option.bind_some, if_pos (by decide)]
      exact ⟨_, rfl, mq_0⟩
    | some p =>
      have := (aPos_lt hp).1
      rw [ma_L d1 b k hF (by omega) hp p 0 0 xF (by omega) (by rw [xF_2000]; omega), Nat.zero_add]
      exact ⟨_, rfl, mq_0⟩
  · rw [if_neg h, m_herent d1 hn (ix_no (by omega) h), Option.bind_some, if_pos rfl, pi_1, m_throw]
    exact ⟨_, rfl, mq_t⟩
theorem mq_calledAheadByPositions (d : dH (M.1 10) s (aW s)) (b : aB s) (k : aK s) (hF : aF s) {a : Int32} : ∃ M', f_X7_calledAheadByPositions a M = some (om (qAh (ix a) s), M') ∧ mq M M' (qAh (ix a) s) := by
  unfold f_X7_calledAheadByPositions
  rw [m_bind2]
  exact mq_calledAhead d b k hF
theorem lc_25 {B : Nat} {M : xM} {sc : Nat → Int32} {L : Nat} {I : Int32} (g : gR B M) (hB : 13 ≤ B) (hB2 : B < 2 ^ 29) (h1 : x_in (I + 1) L = true) : ∃ M', f_law_c25 sc L I M = some M' ∧ gR (B + 400) M' := by
  obtain ⟨s, u, H, sf, sn, ef, fl, Ln, t, O, o, c0, g0, x0, v, vh, vs⟩ := id g
  unfold f_law_c25
  rw [if_pos h1]
  rw [cq_calledAhead c0 v.1.1.1.1 v.1.1.1.2.1, Option.bind_some]
  rw [if_pos h1]
  obtain ⟨M2, m1, m2⟩ := mq_calledAhead (M := ql (qAh (ix (sc (I + 1).toNatClampNeg)) s) M) (by rw [ql_1]; exact g0.1) v.1.1.1.1 v.1.1.1.2.1 v.1.2 (a := sc (I + 1).toNatClampNeg)
  rw [m1, Option.bind_some]
  obtain ⟨e1, e2⟩ := lw_q (o := qAh (ix (sc (I + 1).toNatClampNeg)) s) g qAh_le m2
  exact ⟨M2, e1, gR_le e2 (by omega)⟩
theorem lc_26 {B : Nat} {M : xM} {sc : Nat → Int32} {L : Nat} {I : Int32} (g : gR B M) (hB : 13 ≤ B) (hB2 : B < 2 ^ 29) (h1 : x_in (I + 1) L = true) : ∃ M', f_law_c26 sc L I M = some M' ∧ gR (B + 400) M' := by
  obtain ⟨s, u, H, sf, sn, ef, fl, Ln, t, O, o, c0, g0, x0, v, vh, vs⟩ := id g
  unfold f_law_c26
  rw [if_pos h1]
  rw [cq_calledAheadByPositions c0 v.1.1.1.1 v.1.1.1.2.1, Option.bind_some]
  rw [if_pos h1]
  obtain ⟨M2, m1, m2⟩ := mq_calledAheadByPositions (M := ql (qAh (ix (sc (I + 1).toNatClampNeg)) s) M) (by rw [ql_1]; exact g0.1) v.1.1.1.1 v.1.1.1.2.1 v.1.2 (a := sc (I + 1).toNatClampNeg)
  rw [m1, Option.bind_some]
  obtain ⟨e1, e2⟩ := lw_q (o := qAh (ix (sc (I + 1).toNatClampNeg)) s) g qAh_le m2
  exact ⟨M2, e1, gR_le e2 (by omega)⟩
end AH
