/-! pure: the plain questions -/
/-- nothing but the model's 'thrown' is anew -/
def gN (M M' : xM) : Prop := M'.2 = M.2 ∧ (∀ c, c ≠ 9 → M'.1 c = M.1 c) ∧ (∀ k, k ≠ 9 → M'.1 9 k = M.1 9 k)
theorem gN_9 {M : xM} {v : Int32} : gN M (sI M 9 9 v) := ⟨rfl, fun c h => sI_c h, fun k h => sI_k h⟩
theorem gN.tr {M M' M'' : xM} (a : gN M M') (b : gN M' M'') : gN M M'' := ⟨b.1.trans a.1, fun c h => (b.2.1 c h).trans (a.2.1 c h), fun k h => (b.2.2 k h).trans (a.2.2 k h)⟩
theorem gN.l {M M' : xM} (a : gN M M') : gL M M' := ⟨a.1, fun c h _ _ _ _ => a.2.1 c h, fun k _ h => a.2.2 k h⟩
theorem gR_N {B : Nat} {M M' : xM} (g : gR B M) (n : gN M M') : gR B M' := by
  obtain ⟨s, u, H, sf, sn, ef, fl, L, t, O, o, a, b, c, d, e, f⟩ := g
  exact ⟨s, u, H, sf, sn, ef, fl, L, t, O, o, gC_L a n.l, gM_L b (n.2.1 10 (by decide)) (n.2.1 14 (by decide)) (n.2.1 13 (by decide)) (n.2.2 6 (by decide)) (n.2.2 4 (by decide)), gT_L c n.l, d, e, f⟩
/-- a question's answer on the model's side -/
def mq (M M' : xM) (o : Nat × Nat × hS) : Prop := gN M M' ∧ M'.1 9 9 = nI o.1
theorem mq_0 {M : xM} {v : Nat} {s : hS} : mq M (sI M 9 9 (nI 0)) (0, v, s) := ⟨gN_9, sI_s⟩
theorem mq_t {M : xM} {t v : Nat} {s : hS} : mq M (sI (sI M 9 9 (nI 0)) 9 9 (nI t)) (t, v, s) := ⟨gN_9.tr gN_9, sI_s⟩
/-- a question's answer on the class's side -/
def ql (o : Nat × Nat × hS) (M : xM) : xM := if o.1 = 0 then sJ M (nI o.2.1).toInt64 else M
theorem ql_1 {o : Nat × Nat × hS} {M : xM} : (ql o M).1 = M.1 := by unfold ql; split <;> rfl
theorem ql_21 {o : Nat × Nat × hS} {M : xM} : (ql o M).2.1 = M.2.1 := by unfold ql; split <;> rfl
theorem ql_J {o : Nat × Nat × hS} {M : xM} (h : o.1 = 0) : (ql o M).2.2.1 = (nI o.2.1).toInt64 := by unfold ql; rw [if_pos h]; rfl
theorem gR_q {B : Nat} {o : Nat × Nat × hS} {M : xM} (g : gR B M) : gR B (ql o M) := by
  unfold ql
  split
  · exact g
  · exact g
/-- the law over a question -/
theorem lw_q {B : Nat} {o : Nat × Nat × hS} {M M2 : xM} (g : gR B M) (ho : o.1 < 2 ^ 31) (m : mq (ql o M) M2 o) : ((f_X7_thrown M2).bind fun q7 => (if q7 = nI o.1 then (if nI o.1 = 0 then (if (lg_cmp M2.2.2.1 (om o).toInt64) = 0 then some M2 else none) else some M2) else none)) = some M2 ∧ gR B M2 := ⟨lw_cmp m.2 ho (fun z => by rw [m.1.1]; exact ql_J z), gR_N (gR_q g) m.1⟩
section QS
variable {M : xM} {s : hS} {u : Nat} {H : Nat → hS} {sf : Nat} {sn : hS}
theorem gC.k0T (g : gC M s u H sf sn) : (xkd (M.2.1 0 0) = 5) = True := eq_true g.k0
theorem x_case_l {α β : Type} {r : α} {f : α → Option β} {g : String → Option β} : x_case (.inl r) f g = f r := rfl
theorem x_case_r {α β : Type} {e : String} {f : α → Option β} {g : String → Option β} : x_case (.inr e) f g = g e := rfl
theorem c_req (g : gC M s u H sf sn) (hn : s.1 0 ≤ 12) {a : Int32} : f_X6_requireCustomer a M = some (if ix a < s.1 0 then .inl () else .inr "java/lang/IndexOutOfBoundsException") := by
  unfold f_X6_requireCustomer
  rw [if_pos g.k0]
  by_cases h : ix a < s.1 0
  · have ea := ix_eq (a := a) (by omega)
    rw [if_pos h]
    generalize ix a = x at h ea ⊢
    subst ea
    rw [c_has g.r hn h]
    rfl
  · rw [if_neg h, c_hasnt g.r hn (ix_no (by omega) h)]
    rfl
theorem c_reqw {a : Int32} : f_X6_requireWindow a M = some (if ix a < 3 then .inl () else .inr "java/lang/IndexOutOfBoundsException") := by
  unfold f_X6_requireWindow
  by_cases h : ix a < 3
  · have ea := ix_eq (a := a) (by omega)
    rw [if_pos h]
    generalize ix a = x at h ea ⊢
    subst ea
    rw [c_win h]
    rfl
  · rw [if_neg h, c_winnt (ix_no (by omega) h)]
    rfl
def qFld (f x : Nat) (s : hS) : Nat × Nat × hS := if x < s.1 0 then (0, hC s x f, s) else (1, 0, s)
theorem qFld_le {f x : Nat} {s : hS} : (qFld f x s).1 < 2 ^ 31 := by unfold qFld; split <;> (dsimp only; omega)
theorem m_of (d : dH (M.1 10) s (aW s)) (hn : s.1 0 ≤ 12) {a : Int32} {f : Nat} (hf : f < 7) : ∃ M', f_X7_of a (nI (mf f)) M = some (om (qFld f (ix a) s), M') ∧ mq M M' (qFld f (ix a) s) := by
  have d1 : dH ((sI M 9 9 (nI 0)).1 10) s (aW s) := by rw [sI_c (by decide)]; exact d
  have hm := mf_le f
  unfold f_X7_of qFld
  rw [x_let_e, pi_0]
  by_cases h : ix a < s.1 0
  · have ea := ix_eq (a := a) (by omega)
    rw [if_pos h]
    generalize ix a = x at h ea ⊢
    subst ea
    rw [m_here d1 hn h]
    simp (disch := omega) only [pi_0, pi_1, pi_2, pi_3, pi_4, pi_5, pi_6, pi_7, pi_8, pi_9, pi_10, pi_11, pi_12, pi_13, pi_20, pi_27, pi_30, pi_60, pi_99, pi_115, pi_123, pi_135, pi_136, pi_137, pi_138, pi_139, pi_158, pi_159, pi_1113, m_neg, nI_add, pk_mul, pi_sub, mI_dec, pi_cl, pi_leT, pi_leF, pi_ltT, pi_ltF, pi_eqT, pi_eqF, mI_n, m_in159, ↓reduceIte, Option.bind_some, f_X7_personAt, d1.p h hf]
    exact ⟨_, rfl, mq_0⟩
  · rw [if_neg h, m_herent d1 hn (ix_no (by omega) h)]
    simp (disch := omega) only [pi_0, pi_1, pi_2, pi_3, pi_4, pi_5, pi_6, pi_7, pi_8, pi_9, pi_10, pi_11, pi_12, pi_13, pi_20, pi_27, pi_30, pi_60, pi_99, pi_115, pi_123, pi_135, pi_136, pi_137, pi_138, pi_139, pi_158, pi_159, pi_1113, m_neg, nI_add, pk_mul, pi_sub, mI_dec, pi_cl, pi_leT, pi_leF, pi_ltT, pi_ltF, pi_eqT, pi_eqF, mI_n, m_in159, ↓reduceIte, Option.bind_some, m_throw]
    exact ⟨_, rfl, mq_t⟩
theorem cq_ticket (g : gC M s u H sf sn) (hn : s.1 0 ≤ 12) {a : Int32} : f_L_ticket a M = some (nI (qFld 0 (ix a) s).1, ql (qFld 0 (ix a) s) M) := by
  have r := g.r
  unfold f_L_ticket f_X6_ticket qFld
  rw [c_req g hn]
  by_cases h : ix a < s.1 0
  · have ea := ix_eq (a := a) (by omega)
    rw [if_pos h, if_pos h]
    generalize ix a = x at h ea ⊢
    subst ea
    simp (disch := omega) only [Option.bind_some, x_case_l, g.k0T, m_in12, pi_cl, r.ckT, ↓reduceIte, r.c]
    rfl
  · rw [if_neg h, if_neg h]
    rfl
theorem mq_ticket (d : dH (M.1 10) s (aW s)) (hn : s.1 0 ≤ 12) {a : Int32} : ∃ M', f_X7_ticket a M = some (om (qFld 0 (ix a) s), M') ∧ mq M M' (qFld 0 (ix a) s) := by
  unfold f_X7_ticket
  rw [m_bind2]
  exact m_of d hn (f := 0) (by decide)
theorem lc_10 {B : Nat} {M : xM} {sc : Nat → Int32} {L : Nat} {I : Int32} (g : gR B M) (hB : 13 ≤ B) (hB2 : B < 2 ^ 29) (h1 : x_in (I + 1) L = true) : ∃ M', f_law_c10 sc L I M = some M' ∧ gR (B + 400) M' := by
  obtain ⟨s, u, H, sf, sn, ef, fl, Ln, t, O, o, c0, g0, x0, v, vh, vs⟩ := id g
  unfold f_law_c10
  rw [if_pos h1]
  rw [cq_ticket c0 v.1.1.1.1.1, Option.bind_some]
  rw [if_pos h1]
  obtain ⟨M2, m1, m2⟩ := mq_ticket (M := ql (qFld 0 (ix (sc (I + 1).toNatClampNeg)) s) M) (by rw [ql_1]; exact g0.1) v.1.1.1.1.1 (a := sc (I + 1).toNatClampNeg)
  rw [m1, Option.bind_some]
  obtain ⟨e1, e2⟩ := lw_q (o := qFld 0 (ix (sc (I + 1).toNatClampNeg)) s) g qFld_le m2
  exact ⟨M2, e1, gR_le e2 (by omega)⟩
theorem cq_patience (g : gC M s u H sf sn) (hn : s.1 0 ≤ 12) {a : Int32} : f_L_patience a M = some (nI (qFld 1 (ix a) s).1, ql (qFld 1 (ix a) s) M) := by
  have r := g.r
  unfold f_L_patience f_X6_patience qFld
  rw [c_req g hn]
  by_cases h : ix a < s.1 0
  · have ea := ix_eq (a := a) (by omega)
    rw [if_pos h, if_pos h]
    generalize ix a = x at h ea ⊢
    subst ea
    simp (disch := omega) only [Option.bind_some, x_case_l, g.k0T, m_in12, pi_cl, r.ckT, ↓reduceIte, r.c]
    rfl
  · rw [if_neg h, if_neg h]
    rfl
theorem mq_patience (d : dH (M.1 10) s (aW s)) (hn : s.1 0 ≤ 12) {a : Int32} : ∃ M', f_X7_patience a M = some (om (qFld 1 (ix a) s), M') ∧ mq M M' (qFld 1 (ix a) s) := by
  unfold f_X7_patience
  rw [m_bind2]
  exact m_of d hn (f := 1) (by decide)
theorem lc_11 {B : Nat} {M : xM} {sc : Nat → Int32} {L : Nat} {I : Int32} (g : gR B M) (hB : 13 ≤ B) (hB2 : B < 2 ^ 29) (h1 : x_in (I + 1) L = true) : ∃ M', f_law_c11 sc L I M = some M' ∧ gR (B + 400) M' := by
  obtain ⟨s, u, H, sf, sn, ef, fl, Ln, t, O, o, c0, g0, x0, v, vh, vs⟩ := id g
  unfold f_law_c11
  rw [if_pos h1]
  rw [cq_patience c0 v.1.1.1.1.1, Option.bind_some]
  rw [if_pos h1]
  obtain ⟨M2, m1, m2⟩ := mq_patience (M := ql (qFld 1 (ix (sc (I + 1).toNatClampNeg)) s) M) (by rw [ql_1]; exact g0.1) v.1.1.1.1.1 (a := sc (I + 1).toNatClampNeg)
  rw [m1, Option.bind_some]
  obtain ⟨e1, e2⟩ := lw_q (o := qFld 1 (ix (sc (I + 1).toNatClampNeg)) s) g qFld_le m2
  exact ⟨M2, e1, gR_le e2 (by omega)⟩
theorem cq_sighs (g : gC M s u H sf sn) (hn : s.1 0 ≤ 12) {a : Int32} : f_L_sighs a M = some (nI (qFld 2 (ix a) s).1, ql (qFld 2 (ix a) s) M) := by
  have r := g.r
  unfold f_L_sighs f_X6_sighs qFld
  rw [c_req g hn]
  by_cases h : ix a < s.1 0
  · have ea := ix_eq (a := a) (by omega)
    rw [if_pos h, if_pos h]
    generalize ix a = x at h ea ⊢
    subst ea
    simp (disch := omega) only [Option.bind_some, x_case_l, g.k0T, m_in12, pi_cl, r.ckT, ↓reduceIte, r.c]
    rfl
  · rw [if_neg h, if_neg h]
    rfl
theorem mq_sighs (d : dH (M.1 10) s (aW s)) (hn : s.1 0 ≤ 12) {a : Int32} : ∃ M', f_X7_sighs a M = some (om (qFld 2 (ix a) s), M') ∧ mq M M' (qFld 2 (ix a) s) := by
  unfold f_X7_sighs
  rw [m_bind2]
  exact m_of d hn (f := 2) (by decide)
theorem lc_12 {B : Nat} {M : xM} {sc : Nat → Int32} {L : Nat} {I : Int32} (g : gR B M) (hB : 13 ≤ B) (hB2 : B < 2 ^ 29) (h1 : x_in (I + 1) L = true) : ∃ M', f_law_c12 sc L I M = some M' ∧ gR (B + 400) M' := by
  obtain ⟨s, u, H, sf, sn, ef, fl, Ln, t, O, o, c0, g0, x0, v, vh, vs⟩ := id g
  unfold f_law_c12
  rw [if_pos h1]
  rw [cq_sighs c0 v.1.1.1.1.1, Option.bind_some]
  rw [if_pos h1]
  obtain ⟨M2, m1, m2⟩ := mq_sighs (M := ql (qFld 2 (ix (sc (I + 1).toNatClampNeg)) s) M) (by rw [ql_1]; exact g0.1) v.1.1.1.1.1 (a := sc (I + 1).toNatClampNeg)
  rw [m1, Option.bind_some]
  obtain ⟨e1, e2⟩ := lw_q (o := qFld 2 (ix (sc (I + 1).toNatClampNeg)) s) g qFld_le m2
  exact ⟨M2, e1, gR_le e2 (by omega)⟩
theorem cq_ache (g : gC M s u H sf sn) (hn : s.1 0 ≤ 12) {a : Int32} : f_L_ache a M = some (nI (qFld 3 (ix a) s).1, ql (qFld 3 (ix a) s) M) := by
  have r := g.r
  unfold f_L_ache f_X6_ache qFld
  rw [c_req g hn]
  by_cases h : ix a < s.1 0
  · have ea := ix_eq (a := a) (by omega)
    rw [if_pos h, if_pos h]
    generalize ix a = x at h ea ⊢
    subst ea
    simp (disch := omega) only [Option.bind_some, x_case_l, g.k0T, m_in12, pi_cl, r.ckT, ↓reduceIte, r.c]
    rfl
  · rw [if_neg h, if_neg h]
    rfl
theorem mq_ache (d : dH (M.1 10) s (aW s)) (hn : s.1 0 ≤ 12) {a : Int32} : ∃ M', f_X7_ache a M = some (om (qFld 3 (ix a) s), M') ∧ mq M M' (qFld 3 (ix a) s) := by
  unfold f_X7_ache
  rw [m_bind2]
  exact m_of d hn (f := 3) (by decide)
theorem lc_13 {B : Nat} {M : xM} {sc : Nat → Int32} {L : Nat} {I : Int32} (g : gR B M) (hB : 13 ≤ B) (hB2 : B < 2 ^ 29) (h1 : x_in (I + 1) L = true) : ∃ M', f_law_c13 sc L I M = some M' ∧ gR (B + 400) M' := by
  obtain ⟨s, u, H, sf, sn, ef, fl, Ln, t, O, o, c0, g0, x0, v, vh, vs⟩ := id g
  unfold f_law_c13
  rw [if_pos h1]
  rw [cq_ache c0 v.1.1.1.1.1, Option.bind_some]
  rw [if_pos h1]
  obtain ⟨M2, m1, m2⟩ := mq_ache (M := ql (qFld 3 (ix (sc (I + 1).toNatClampNeg)) s) M) (by rw [ql_1]; exact g0.1) v.1.1.1.1.1 (a := sc (I + 1).toNatClampNeg)
  rw [m1, Option.bind_some]
  obtain ⟨e1, e2⟩ := lw_q (o := qFld 3 (ix (sc (I + 1).toNatClampNeg)) s) g qFld_le m2
  exact ⟨M2, e1, gR_le e2 (by omega)⟩
theorem cq_waitingTime (g : gC M s u H sf sn) (hn : s.1 0 ≤ 12) {a : Int32} : f_L_waitingTime a M = some (nI (qFld 4 (ix a) s).1, ql (qFld 4 (ix a) s) M) := by
  have r := g.r
  unfold f_L_waitingTime f_X6_waitingTime qFld
  rw [c_req g hn]
  by_cases h : ix a < s.1 0
  · have ea := ix_eq (a := a) (by omega)
    rw [if_pos h, if_pos h]
    generalize ix a = x at h ea ⊢
    subst ea
    simp (disch := omega) only [Option.bind_some, x_case_l, g.k0T, m_in12, pi_cl, r.ckT, ↓reduceIte, r.c]
    rfl
  · rw [if_neg h, if_neg h]
    rfl
theorem mq_waitingTime (d : dH (M.1 10) s (aW s)) (hn : s.1 0 ≤ 12) {a : Int32} : ∃ M', f_X7_waitingTime a M = some (om (qFld 4 (ix a) s), M') ∧ mq M M' (qFld 4 (ix a) s) := by
  unfold f_X7_waitingTime
  rw [m_bind2]
  exact m_of d hn (f := 4) (by decide)
theorem lc_14 {B : Nat} {M : xM} {sc : Nat → Int32} {L : Nat} {I : Int32} (g : gR B M) (hB : 13 ≤ B) (hB2 : B < 2 ^ 29) (h1 : x_in (I + 1) L = true) : ∃ M', f_law_c14 sc L I M = some M' ∧ gR (B + 400) M' := by
  obtain ⟨s, u, H, sf, sn, ef, fl, Ln, t, O, o, c0, g0, x0, v, vh, vs⟩ := id g
  unfold f_law_c14
  rw [if_pos h1]
  rw [cq_waitingTime c0 v.1.1.1.1.1, Option.bind_some]
  rw [if_pos h1]
  obtain ⟨M2, m1, m2⟩ := mq_waitingTime (M := ql (qFld 4 (ix (sc (I + 1).toNatClampNeg)) s) M) (by rw [ql_1]; exact g0.1) v.1.1.1.1.1 (a := sc (I + 1).toNatClampNeg)
  rw [m1, Option.bind_some]
  obtain ⟨e1, e2⟩ := lw_q (o := qFld 4 (ix (sc (I + 1).toNatClampNeg)) s) g qFld_le m2
  exact ⟨M2, e1, gR_le e2 (by omega)⟩
theorem cq_isCalled (g : gC M s u H sf sn) (hn : s.1 0 ≤ 12) {a : Int32} : f_L_isCalled a M = some (nI (qFld 5 (ix a) s).1, ql (qFld 5 (ix a) s) M) := by
  have r := g.r
  unfold f_L_isCalled f_X6_isCalled qFld
  rw [c_req g hn]
  by_cases h : ix a < s.1 0
  · have ea := ix_eq (a := a) (by omega)
    rw [if_pos h, if_pos h]
    generalize ix a = x at h ea ⊢
    subst ea
    have b5 := r.b5 (i := x) (by omega)
    have b6 := r.b6 (i := x) (by omega)
    simp (disch := omega) only [Option.bind_some, x_case_l, g.k0T, m_in12, pi_cl, r.ckT, ↓reduceIte, r.c]
    obtain z | z : hC s x 5 = 0 ∨ hC s x 5 = 1 := by omega
    · rw [z]; rfl
    · rw [z]; rfl
  · rw [if_neg h, if_neg h]
    rfl
theorem mq_isCalled (d : dH (M.1 10) s (aW s)) (hn : s.1 0 ≤ 12) (hF : aF s) {a : Int32} : ∃ M', f_X7_isCalled a M = some (if (qFld 5 (ix a) s).1 = 0 then nI (qFld 5 (ix a) s).2.1 else 0, M') ∧ mq M M' (qFld 5 (ix a) s) := by
  unfold f_X7_isCalled
  obtain ⟨M', h1, h2⟩ := m_of d hn (a := a) (f := 5) (by decide)
  have h1 : f_X7_of a (nI 5) M = some (om (qFld 5 (ix a) s), M') := h1
  refine ⟨M', ?_, h2⟩
  rw [show (f_X7_of a 5 M) = _ from h1, Option.bind_some]
  unfold qFld om
  by_cases h : ix a < s.1 0
  · have hh := hF (ix a) (by omega)
    rw [if_pos h, if_pos rfl, if_pos rfl]
    obtain z | z : hC s (ix a) 5 = 0 ∨ hC s (ix a) 5 = 1 := by omega
    · rw [z]; rfl
    · rw [z]; rfl
  · rw [if_neg h]
    rfl
theorem lc_15 {B : Nat} {M : xM} {sc : Nat → Int32} {L : Nat} {I : Int32} (g : gR B M) (hB : 13 ≤ B) (hB2 : B < 2 ^ 29) (h1 : x_in (I + 1) L = true) : ∃ M', f_law_c15 sc L I M = some M' ∧ gR (B + 400) M' := by
  obtain ⟨s, u, H, sf, sn, ef, fl, Ln, t, O, o, c0, g0, x0, v, vh, vs⟩ := id g
  unfold f_law_c15
  rw [if_pos h1, cq_isCalled c0 v.1.1.1.1.1, Option.bind_some, if_pos h1]
  obtain ⟨M2, m1, m2⟩ := mq_isCalled (M := ql (qFld 5 (ix (sc (I + 1).toNatClampNeg)) s) M) (by rw [ql_1]; exact g0.1) v.1.1.1.1.1 v.1.2 (a := sc (I + 1).toNatClampNeg)
  rw [m1, Option.bind_some]
  refine ⟨M2, ?_, gR_le (gR_N (gR_q g) m2.1) (by omega)⟩
  have e9 := m2.2
  have eJ : (qFld 5 (ix (sc (I + 1).toNatClampNeg)) s).1 = 0 → M2.2.2.1 = (nI (qFld 5 (ix (sc (I + 1).toNatClampNeg)) s).2.1).toInt64 := fun z => by rw [m2.1.1]; exact ql_J z
  have hF := v.1.2
  have hn := v.1.1.1.1.1
  unfold f_X7_thrown
  rw [Option.bind_some, if_pos e9]
  unfold qFld at eJ ⊢
  by_cases h : ix (sc (I + 1).toNatClampNeg) < s.1 0
  · have hh := hF (ix (sc (I + 1).toNatClampNeg)) (by omega)
    rw [if_pos h] at eJ ⊢
    rw [if_pos (show nI 0 = 0 from rfl), if_pos (show (0 : Nat) = 0 from rfl)]
    have eJ := eJ rfl
    dsimp only at eJ ⊢
    obtain z | z : hC s (ix (sc (I + 1).toNatClampNeg)) 5 = 0 ∨ hC s (ix (sc (I + 1).toNatClampNeg)) 5 = 1 := by omega
    · rw [z] at eJ ⊢
      rw [if_pos (show nI 0 = 0 from rfl), eJ]
      rfl
    · rw [z] at eJ ⊢
      rw [if_neg (show ¬ nI 1 = 0 by decide), eJ]
      rfl
  · rw [if_neg h, if_neg (show ¬ nI 1 = 0 by decide)]
theorem cq_isSitting (g : gC M s u H sf sn) (hn : s.1 0 ≤ 12) {a : Int32} : f_L_isSitting a M = some (nI (qFld 6 (ix a) s).1, ql (qFld 6 (ix a) s) M) := by
  have r := g.r
  unfold f_L_isSitting f_X6_isSitting qFld
  rw [c_req g hn]
  by_cases h : ix a < s.1 0
  · have ea := ix_eq (a := a) (by omega)
    rw [if_pos h, if_pos h]
    generalize ix a = x at h ea ⊢
    subst ea
    have b5 := r.b5 (i := x) (by omega)
    have b6 := r.b6 (i := x) (by omega)
    simp (disch := omega) only [Option.bind_some, x_case_l, g.k0T, m_in12, pi_cl, r.ckT, ↓reduceIte, r.c]
    obtain z | z : hC s x 6 = 0 ∨ hC s x 6 = 1 := by omega
    · rw [z]; rfl
    · rw [z]; rfl
  · rw [if_neg h, if_neg h]
    rfl
theorem mq_isSitting (d : dH (M.1 10) s (aW s)) (hn : s.1 0 ≤ 12) (hF : aF s) {a : Int32} : ∃ M', f_X7_isSitting a M = some (if (qFld 6 (ix a) s).1 = 0 then nI (qFld 6 (ix a) s).2.1 else 0, M') ∧ mq M M' (qFld 6 (ix a) s) := by
  unfold f_X7_isSitting
  obtain ⟨M', h1, h2⟩ := m_of d hn (a := a) (f := 6) (by decide)
  have h1 : f_X7_of a (nI 4) M = some (om (qFld 6 (ix a) s), M') := h1
  refine ⟨M', ?_, h2⟩
  rw [show (f_X7_of a 4 M) = _ from h1, Option.bind_some]
  unfold qFld om
  by_cases h : ix a < s.1 0
  · have hh := hF (ix a) (by omega)
    rw [if_pos h, if_pos rfl, if_pos rfl]
    obtain z | z : hC s (ix a) 6 = 0 ∨ hC s (ix a) 6 = 1 := by omega
    · rw [z]; rfl
    · rw [z]; rfl
  · rw [if_neg h]
    rfl
theorem lc_16 {B : Nat} {M : xM} {sc : Nat → Int32} {L : Nat} {I : Int32} (g : gR B M) (hB : 13 ≤ B) (hB2 : B < 2 ^ 29) (h1 : x_in (I + 1) L = true) : ∃ M', f_law_c16 sc L I M = some M' ∧ gR (B + 400) M' := by
  obtain ⟨s, u, H, sf, sn, ef, fl, Ln, t, O, o, c0, g0, x0, v, vh, vs⟩ := id g
  unfold f_law_c16
  rw [if_pos h1, cq_isSitting c0 v.1.1.1.1.1, Option.bind_some, if_pos h1]
  obtain ⟨M2, m1, m2⟩ := mq_isSitting (M := ql (qFld 6 (ix (sc (I + 1).toNatClampNeg)) s) M) (by rw [ql_1]; exact g0.1) v.1.1.1.1.1 v.1.2 (a := sc (I + 1).toNatClampNeg)
  rw [m1, Option.bind_some]
  refine ⟨M2, ?_, gR_le (gR_N (gR_q g) m2.1) (by omega)⟩
  have e9 := m2.2
  have eJ : (qFld 6 (ix (sc (I + 1).toNatClampNeg)) s).1 = 0 → M2.2.2.1 = (nI (qFld 6 (ix (sc (I + 1).toNatClampNeg)) s).2.1).toInt64 := fun z => by rw [m2.1.1]; exact ql_J z
  have hF := v.1.2
  have hn := v.1.1.1.1.1
  unfold f_X7_thrown
  rw [Option.bind_some, if_pos e9]
  unfold qFld at eJ ⊢
  by_cases h : ix (sc (I + 1).toNatClampNeg) < s.1 0
  · have hh := hF (ix (sc (I + 1).toNatClampNeg)) (by omega)
    rw [if_pos h] at eJ ⊢
    rw [if_pos (show nI 0 = 0 from rfl), if_pos (show (0 : Nat) = 0 from rfl)]
    have eJ := eJ rfl
    dsimp only at eJ ⊢
    obtain z | z : hC s (ix (sc (I + 1).toNatClampNeg)) 6 = 0 ∨ hC s (ix (sc (I + 1).toNatClampNeg)) 6 = 1 := by omega
    · rw [z] at eJ ⊢
      rw [if_pos (show nI 0 = 0 from rfl), eJ]
      rfl
    · rw [z] at eJ ⊢
      rw [if_neg (show ¬ nI 1 = 0 by decide), eJ]
      rfl
  · rw [if_neg h, if_neg (show ¬ nI 1 = 0 by decide)]
end QS
