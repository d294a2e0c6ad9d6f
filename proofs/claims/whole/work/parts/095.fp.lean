/-! pure: doubles -/
/-- what is asked of the doubles: no quotient of two numbers is NaN, nor its widening; compared with itself it is equal -/
def fpOK : Prop := (∀ a b : Int32, b ≠ 0 → x_n64 (FP.ddiv (FP.i2d a) (FP.i2d b)) = true) ∧ (∀ a b : Int32, b ≠ 0 → x_n32 (FP.fdiv (FP.i2f a) (FP.i2f b)) = true ∧ x_n64 (FP.f2d (FP.fdiv (FP.i2f a) (FP.i2f b))) = true ∧ Op.cmpValue (FP.dcmp (FP.f2d (FP.fdiv (FP.i2f a) (FP.i2f b))) (FP.f2d (FP.fdiv (FP.i2f a) (FP.i2f b)))) .l = 0)
theorem lw_dd {d : UInt64} {M : xM} : (if (Op.cmpValue (FP.dcmp d d) .l) = 0 then some M else (if (Op.cmpValue (FP.dcmp d d) .l) = 0 then none else (if (Op.cmpValue (FP.dcmp d d) .l) = 0 then none else some M))) = some M := by
  by_cases h : (Op.cmpValue (FP.dcmp d d) .l) = 0
  · rw [if_pos h]
  · rw [if_neg h, if_neg h, if_neg h]
/-- the patience of customers k, k+1, .., m of them -/
def pSm (s : hS) : Nat → Nat → Nat
  | 0, _ => 0
  | m + 1, k => hC s k 1 + pSm s m (k + 1)
section FS
variable {M : xM} {s : hS} {u : Nat} {H : Nat → hS} {sf : Nat} {sn : hS}
theorem c_mean (hfp : fpOK) (g : gC M s u H sf sn) (hn : s.1 0 ≤ 12) (h0 : s.1 0 ≠ 0) : ∀ (m j c n : Nat), j + m = s.1 0 → m < n → f_X6_meanPatience_L25 M n (nI c) (nI j) = some (.inl (FP.ddiv (FP.i2d (nI (c + pSm s m j))) (FP.i2d (nI (s.1 0)))))
  | 0, j, c, n, e, hm => by
    obtain ⟨n, rfl⟩ : ∃ n', n = n' + 1 := ⟨n - 1, by omega⟩
    have z : nI (s.1 0) ≠ 0 := fun x => h0 ((nI_eq (b := 0) (by omega) (by omega)).mp x)
    rw [f_X6_meanPatience_L25.eq_2, if_pos g.k0, g.r.n, if_pos (nI_le (by omega) (by omega)), if_pos g.k0, if_pos (hfp.1 _ _ z)]
    rfl
  | m + 1, j, c, n, e, hm => by
    obtain ⟨n, rfl⟩ : ∃ n', n = n' + 1 := ⟨n - 1, by omega⟩
    have r := g.r
    have hj : j < 12 := by omega
    rw [f_X6_meanPatience_L25.eq_2, if_pos g.k0, g.r.n, if_neg (nI_ge (by omega) (by omega)), if_pos g.k0]
    simp (disch := omega) only [m_in12, pi_cl, r.ckT, r.c, pi_1, nI_add, ↓reduceIte]
    rw [c_mean hfp g hn h0 m (j + 1) _ n (by omega) (by omega), Nat.add_assoc]
    rfl
theorem m_mean (hfp : fpOK) (d : dH (M.1 10) s (aW s)) (hn : s.1 0 ≤ 12) (h0 : s.1 0 ≠ 0) : ∀ (m j c n : Nat), j + m = s.1 0 → m < n → f_X7_meanPatience_L26 M n (nI c) (nI j) = some (FP.ddiv (FP.i2d (nI (c + pSm s m j))) (FP.i2d (nI (s.1 0))), M)
  | 0, j, c, n, e, hm => by
    obtain ⟨n, rfl⟩ : ∃ n', n = n' + 1 := ⟨n - 1, by omega⟩
    have z : nI (s.1 0) ≠ 0 := fun x => h0 ((nI_eq (b := 0) (by omega) (by omega)).mp x)
    rw [f_X7_meanPatience_L26.eq_2, pi_0, pi_cl (by decide), d.n, if_pos (by decide), if_pos (nI_le (by omega) (by omega)), if_pos (by decide), if_pos (hfp.1 _ _ z)]
    rfl
  | m + 1, j, c, n, e, hm => by
    obtain ⟨n, rfl⟩ : ∃ n', n = n' + 1 := ⟨n - 1, by omega⟩
    have hj : j < s.1 0 := by omega
    have p := d.p1 hj
    rw [f_X7_meanPatience_L26.eq_2]
    simp (disch := omega) only [↓reduceIte, pi_0, pi_1, pi_2, pi_3, pi_4, pi_5, pi_6, pi_7, pi_8, pi_9, pi_10, pi_11, pi_12, pi_13, pi_20, pi_27, pi_30, pi_60, pi_99, pi_115, pi_123, pi_135, pi_136, pi_137, pi_138, pi_139, pi_158, pi_159, pi_1113, m_neg, nI_add, pk_mul, pi_sub, mI_dec, pi_cl, pi_leT, pi_leF, pi_ltT, pi_ltF, pi_eqT, pi_eqF, mI_n, m_in159, Option.bind_some, f_X7_personAt, f_X7_windowAt, mG_i, mG_g, mG_s, pk_us, pk_un, d.n, p]
    rw [m_mean hfp d hn h0 m (j + 1) _ n (by omega) (by omega), Nat.add_assoc]
    rfl
end FS
theorem lc_41 {B : Nat} {M : xM} {sc : Nat → Int32} {L : Nat} {I : Int32} (hfp : fpOK) (g : gR B M) : ∃ M', f_law_c41 sc L I M = some M' ∧ gR (B + 400) M' := by
  obtain ⟨s, u, H, sf, sn, ef, fl, Ln, t, O, o, c0, g0, x0, v, vh, vs⟩ := id g
  have hn : s.1 0 ≤ 12 := v.1.1.1.1.1
  unfold f_law_c41 f_L_meanPatience f_X6_meanPatience f_X7_meanPatience
  rw [if_pos c0.k0, c0.r.n]
  by_cases h : s.1 0 = 0
  · rw [h, if_pos (show nI 0 = 0 from rfl), Option.bind_some, x_case_r, if_pos rfl, Option.bind_some, x_let_e, pi_0, pi_cl (by decide), (d9 g0.1).n, if_pos (by decide), h, if_pos rfl, m_throw, Option.bind_some, Option.bind_some]
    unfold f_X7_thrown
    rw [Option.bind_some, sI_s]
    exact ⟨_, (if_pos rfl).trans (if_neg (show ¬ (1 : Int32) = 0 by decide)), gR_le (gR_N g (gN_9.tr gN_9)) (by omega)⟩
  · have z : nI (s.1 0) ≠ 0 := fun x => h ((nI_eq (b := 0) (by omega) (by omega)).mp x)
    rw [if_neg z, pi_0, c_mean hfp c0 hn h (s.1 0) 0 0 xF (by omega) (by rw [xF_2000]; omega), Option.bind_some, x_case_l, x_let_e, Option.bind_some, x_let_e]
    have d1 : dH ((sI (sD M (FP.ddiv (FP.i2d (nI (0 + pSm s (s.1 0) 0))) (FP.i2d (nI (s.1 0))))) 9 9 (nI 0)).1 10) s (aW s) := d9 g0.1
    rw [pi_cl (by decide), d1.n, if_pos (by decide), if_neg (show ¬ nI (s.1 0) = nI 0 from z), m_mean hfp d1 hn h (s.1 0) 0 0 xF (by omega) (by rw [xF_2000]; omega), Option.bind_some]
    unfold f_X7_thrown
    rw [Option.bind_some, sI_s, if_pos rfl, if_pos rfl]
    have g1 : gR B (sD M (FP.ddiv (FP.i2d (nI (0 + pSm s (s.1 0) 0))) (FP.i2d (nI (s.1 0))))) := g
    exact ⟨_, lw_dd, gR_le (gR_N g1 gN_9) (by omega)⟩
theorem lc_42 {B : Nat} {M : xM} {sc : Nat → Int32} {L : Nat} {I : Int32} (hfp : fpOK) (g : gR B M) (hB2 : B < 2 ^ 29) : ∃ M', f_law_c42 sc L I M = some M' ∧ gR (B + 400) M' := by
  obtain ⟨s, u, H, sf, sn, ef, fl, Ln, t, O, o, c0, g0, x0, v, vh, vs⟩ := id g
  have hb := v.2.2.1 3 (by decide)
  have e9 : M.1 (M.2.1 0 0) 9 = nI (s.1 3) := c0.r.sc (j := 3) (by decide)
  have e10 : M.1 (M.2.1 0 0) 10 = nI (s.1 8) := c0.r.sc (j := 8) (by decide)
  unfold f_law_c42 f_L_calmShare f_X6_calmShare f_X7_calmShare
  rw [if_pos c0.k0, e9, e10]
  by_cases h : s.1 3 = 0
  · rw [h, if_pos (show nI 0 = 0 from rfl), Option.bind_some, x_case_r, if_pos rfl, Option.bind_some, x_let_e]
    have e3 : (sI M 9 9 (0 : Int32)).1 10 3 = nI (s.1 3) := (d9 g0.1).sc (j := 3) (by decide)
    rw [show (3 : Int32).toNatClampNeg = 3 from rfl, e3, if_pos (by decide), h, if_pos (show nI 0 = 0 from rfl), m_throw, Option.bind_some, Option.bind_some]
    unfold f_X7_thrown
    rw [Option.bind_some, sI_s]
    exact ⟨_, (if_pos rfl).trans (if_neg (show ¬ (1 : Int32) = 0 by decide)), gR_le (gR_N g (gN_9.tr gN_9)) (by omega)⟩
  · have z : nI (s.1 3) ≠ 0 := fun x => h ((nI_eq (b := 0) (by omega) (by omega)).mp x)
    have nn := hfp.2 (nI (s.1 8)) (nI (s.1 3)) z
    have n1 := nn.1
    rw [if_neg z, if_pos c0.k0, if_pos c0.k0, if_pos (n1), Option.bind_some, x_case_l, if_pos (nn.2.1), x_let_e, Option.bind_some, x_let_e]
    generalize hF : FP.fdiv (FP.i2f (nI (s.1 8))) (FP.i2f (nI (s.1 3))) = F at nn ⊢
    have e3 : (sI (sD M (FP.f2d F)) 9 9 (0 : Int32)).1 10 3 = nI (s.1 3) := (d9 g0.1).sc (j := 3) (by decide)
    have e11 : (sI (sD M (FP.f2d F)) 9 9 (0 : Int32)).1 10 11 = nI (s.1 8) := (d9 g0.1).sc (j := 8) (by decide)
    rw [show (3 : Int32).toNatClampNeg = 3 from rfl, show (11 : Int32).toNatClampNeg = 11 from rfl, e3, e11, if_pos (by decide), if_neg z, if_pos (by decide), if_pos (by decide), if_pos (n1), Option.bind_some, hF]
    unfold f_X7_thrown
    rw [Option.bind_some, sI_s, if_pos rfl, if_pos rfl, if_pos (nn.2.1)]
    have g1 : gR B (sD M (FP.f2d F)) := g
    exact ⟨_, if_pos (nn.2.2), gR_le (gR_N g1 gN_9) (by omega)⟩
