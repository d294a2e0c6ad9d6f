/-! pure: the model doing the nine commands, second half -/
section MO2
variable {M : xM} {s : hS} {a : Nat → Nat}
theorem dH_admit {g : Nat → Int32} {p : Nat} (d : dH g s (aW s)) (b : aB s) (k : aK s) (hn : s.1 0 < 12) : dH (upd (upd (upd (upd (upd (upd (upd g 2 (nI (s.1 2 + 1))) (27 + 8 * s.1 0) (nI (s.1 2 + 1))) (27 + 8 * s.1 0 + 1) (nI p)) (27 + 8 * s.1 0 + 7) mI) (123 + s.1 7) (nI (s.1 0))) 9 (nI (s.1 7 + 1))) 0 (nI (s.1 0 + 1))) (aAdmit p s) (aW (aAdmit p s)) := by
  have k7 : s.1 0 = s.1 7 + aOcc s := k.1.2.2.2.2.2.2
  have n' : (aAdmit p s).1 0 = s.1 0 + 1 := u0_s
  have q' : (aAdmit p s).1 7 = s.1 7 + 1 := by
    unfold aAdmit
    rw [u0_n (by decide), u0_s]
  have o' : ∀ j, j ≠ 0 → j ≠ 7 → j ≠ 2 → (aAdmit p s).1 j = s.1 j := fun j h0 h7 h2 => by
    unfold aAdmit
    rw [u0_n h0, u0_n h7]
    show (aArrive p s).1 j = s.1 j
    exact aArrive_n (s := s) (p := p) h2
  have c' : (aAdmit p s).1 2 = s.1 2 + 1 := by
    unfold aAdmit
    rw [u0_n (by decide), u0_n (by decide)]
    show va_up s.1 2 (s.1 2 + 1) 2 = _
    rw [va_up_self]
  have W' : hW (aAdmit p s) = hW s := rfl
  have C0 : ∀ i f, i ≠ s.1 0 → hC (aAdmit p s) i f = hC s i f := fun i f hi => by
    show hC (aArrive p s) i f = _
    unfold aArrive
    rw [uC_i hi, uC_i hi, uC_i hi, uC_i hi, uC_i hi, uC_i hi, uC_i hi]
    rfl
  have C1 : ∀ f, f < 7 → hC (aAdmit p s) (s.1 0) f = if f = 0 then s.1 2 + 1 else if f = 1 then p else 0 := fun f hf => by
    show hC (aArrive p s) (s.1 0) f = _
    unfold aArrive
    obtain rfl | rfl | rfl | rfl | rfl | rfl | rfl : f = 0 ∨ f = 1 ∨ f = 2 ∨ f = 3 ∨ f = 4 ∨ f = 5 ∨ f = 6 := by omega
    · rw [uC_f (by decide), uC_f (by decide), uC_f (by decide), uC_f (by decide), uC_f (by decide), uC_f (by decide), uC_s]; rfl
    · rw [uC_f (by decide), uC_f (by decide), uC_f (by decide), uC_f (by decide), uC_f (by decide), uC_s]; rfl
    · rw [uC_f (by decide), uC_f (by decide), uC_f (by decide), uC_f (by decide), uC_s]; rfl
    · rw [uC_f (by decide), uC_f (by decide), uC_f (by decide), uC_s]; rfl
    · rw [uC_f (by decide), uC_f (by decide), uC_s]; rfl
    · rw [uC_f (by decide), uC_s]; rfl
    · rw [uC_s]; rfl
  have Q' : ∀ x, hQ (aAdmit p s) x = if x = s.1 7 then s.1 0 else hQ s x := fun x => rfl
  have L' : hL (aAdmit p s) = hL s := rfl
  refine ⟨fun j hj => ?_, ?_, fun w hw => ?_, fun i hi f hf => ?_, fun i hi => ?_, fun x h1 h2 => ?_, fun x hx => ?_, fun r hr => ?_⟩
  · have hx := dix_le hj
    by_cases j0 : j = 0
    · subst j0
      rw [n', show dix 0 = 0 from rfl, pk_us]
    · by_cases j7 : j = 7
      · subst j7
        rw [q', show dix 7 = 9 from rfl]
        simp (disch := omega) only [pk_un, pk_us]
      · by_cases j2 : j = 2
        · subst j2
          rw [c', show dix 2 = 2 from rfl]
          simp (disch := omega) only [pk_un, pk_us]
        · have x0 : dix j ≠ 0 := fun z => j0 (dix_inj hj (b := 0) (by decide) z)
          have x7 : dix j ≠ 9 := fun z => j7 (dix_inj hj (b := 7) (by decide) z)
          have x2 : dix j ≠ 2 := fun z => j2 (dix_inj hj (b := 2) (by decide) z)
          rw [o' j j0 j7 j2]
          simp (disch := omega) only [pk_un]
          exact d.sc hj
  · show upd _ _ _ 10 = nI (if (aAdmit p s).1 3 < 6 then (aAdmit p s).1 3 else 6)
    rw [o' 3 (by decide) (by decide) (by decide)]
    simp (disch := omega) only [pk_un]
    exact d.k10
  · rw [W']
    simp (disch := omega) only [pk_un]
    exact d.2.2.1 w hw
  · rw [n'] at hi
    have hm := mf_le f
    by_cases e : i = s.1 0
    · subst e
      rw [C1 f hf]
      by_cases f0 : f = 0
      · subst f0
        rw [if_pos rfl, show mf 0 = 0 from rfl]
        simp (disch := omega) only [Nat.add_zero, pk_un, pk_us]
      · rw [if_neg f0]
        by_cases f1 : f = 1
        · subst f1
          rw [if_pos rfl, show mf 1 = 1 from rfl]
          simp (disch := omega) only [pk_un, pk_us]
        · rw [if_neg f1]
          have m0 : mf f ≠ 0 := fun z => f0 (mf_inj hf (b := 0) (by decide) z)
          have m1 : mf f ≠ 1 := fun z => f1 (mf_inj hf (b := 1) (by decide) z)
          simp (disch := omega) only [pk_un]
          exact d.z (by omega) (by omega)
    · rw [C0 i f e]
      simp (disch := omega) only [pk_un]
      exact d.p (by omega) hf
  · rw [n'] at hi
    by_cases e : i = s.1 0
    · subst e
      have : aW (aAdmit p s) (s.1 0) = 0 := aW_0 fun w hw => by
        rw [show wo (aAdmit p s) w = wo s w by unfold wo; rw [W']]
        have := k.1.2.2.1 w hw
        omega
      rw [this]
      simp (disch := omega) only [pk_un, pk_us]
      rfl
    · simp (disch := omega) only [pk_un]
      rw [show aW (aAdmit p s) i = aW s i from aW_cg fun v hv => by rw [show wo (aAdmit p s) v = wo s v by unfold wo; rw [W']]]
      exact d.at_ (by omega)
  · rw [n'] at h1
    simp (disch := omega) only [pk_un]
    exact d.z (by omega) h2
  · rw [q'] at hx
    rw [Q']
    by_cases e : x = s.1 7
    · subst e
      rw [if_pos rfl]
      simp (disch := omega) only [pk_un, pk_us]
    · rw [if_neg e]
      simp (disch := omega) only [pk_un]
      exact d.q (by omega)
  · rw [L']
    have := b.2.1
    simp (disch := omega) only [pk_un]
    exact d.2.2.2.2.2.2.2 r hr
theorem mo_add {a : Int32} (d : dH (M.1 10) s (aW s)) (b : aB s) (k : aK s) : ∃ M', f_X7_addIt a M = some (om (oAdd (ix a) s), M') ∧ mR M M' (oAdd (ix a) s) := by
  have hn := b.1
  have k7 : s.1 0 = s.1 7 + aOcc s := k.1.2.2.2.2.2.2
  have e2 : M.1 10 2 = nI (s.1 2) := d.sc (j := 2) (by decide)
  unfold oAdd f_X7_addIt
  by_cases g : 1 ≤ ix a ∧ ix a ≤ 30
  · rw [if_pos g]
    have ea := ix_eq (a := a) (by omega)
    by_cases g2 : s.1 0 = 12
    · rw [if_pos g2]
      simp (disch := omega) only [↓reduceIte, pi_0, pi_1, pi_2, pi_3, pi_4, pi_5, pi_6, pi_7, pi_8, pi_9, pi_10, pi_11, pi_12, pi_13, pi_20, pi_27, pi_30, pi_60, pi_99, pi_115, pi_123, pi_135, pi_136, pi_137, pi_138, pi_139, pi_158, pi_159, pi_1113, m_neg, nI_add, pk_mul, pi_sub, mI_dec, pi_cl, pi_leT, pi_leF, pi_ltT, pi_ltF, pi_eqT, pi_eqF, mI_n, m_in159, Option.bind_some, f_X7_personAt, f_X7_windowAt, mG_i, mG_g, mG_s, pk_us, pk_un, m_l1, m_l30, m_rng, m_throw, if_pos g, d.n]
      exact ⟨_, rfl, mR_no (by decide)⟩
    · rw [if_neg g2]
      have d1 := dH_admit (p := ix a) d b k (by omega)
      generalize hx : ix a = x at g ea d1 ⊢
      simp (disch := omega) only [↓reduceIte, pi_0, pi_1, pi_2, pi_3, pi_4, pi_5, pi_6, pi_7, pi_8, pi_9, pi_10, pi_11, pi_12, pi_13, pi_20, pi_27, pi_30, pi_60, pi_99, pi_115, pi_123, pi_135, pi_136, pi_137, pi_138, pi_139, pi_158, pi_159, pi_1113, m_neg, nI_add, pk_mul, pi_sub, mI_dec, pi_cl, pi_leT, pi_leF, pi_ltT, pi_ltF, pi_eqT, pi_eqF, mI_n, m_in159, Option.bind_some, f_X7_personAt, f_X7_windowAt, mG_i, mG_g, mG_s, pk_us, pk_un, m_l1, m_l30, m_rng, m_throw, hx, if_pos g, d.n]
      simp (disch := omega) only [↓x_let_e, ↓reduceIte, pi_0, pi_1, pi_2, pi_3, pi_4, pi_5, pi_6, pi_7, pi_8, pi_9, pi_10, pi_11, pi_12, pi_13, pi_20, pi_27, pi_30, pi_60, pi_99, pi_115, pi_123, pi_135, pi_136, pi_137, pi_138, pi_139, pi_158, pi_159, pi_1113, m_neg, nI_add, pk_mul, pi_sub, mI_dec, pi_cl, pi_leT, pi_leF, pi_ltT, pi_ltF, pi_eqT, pi_eqF, mI_n, m_in159, Option.bind_some, f_X7_personAt, f_X7_windowAt, mG_i, mG_g, mG_s, pk_us, pk_un, m_mI, d.n, d.qn, e2, ea]
      exact ⟨_, rfl, mR_yes d1⟩
  · rw [if_neg g]
    simp (disch := omega) only [↓reduceIte, pi_0, pi_1, pi_2, pi_3, pi_4, pi_5, pi_6, pi_7, pi_8, pi_9, pi_10, pi_11, pi_12, pi_13, pi_20, pi_27, pi_30, pi_60, pi_99, pi_115, pi_123, pi_135, pi_136, pi_137, pi_138, pi_139, pi_158, pi_159, pi_1113, m_neg, nI_add, pk_mul, pi_sub, mI_dec, pi_cl, pi_leT, pi_leF, pi_ltT, pi_ltF, pi_eqT, pi_eqF, mI_n, m_in159, Option.bind_some, f_X7_personAt, f_X7_windowAt, mG_i, mG_g, mG_s, pk_us, pk_un, m_l1, m_l30, m_rng, m_throw, if_neg g]
    exact ⟨_, rfl, mR_no (by decide)⟩
theorem m_callF (d : dH (M.1 10) s (aW s)) (hn : s.1 0 ≤ 12) (k : aK s) (hU : s.1 2 < 2 ^ 30) {i : Nat} (hi : i < s.1 0) : ∀ (m j n : Nat), j + m = s.1 0 → i < j → m < n → f_X7_callIt_L4 M n (nI i) (nI j) = some (nI (hC s i 0), mG M 10 (upd (M.1 10) (27 + 8 * i + 5) (nI 1)))
  | 0, j, n, e, hj, hm => by
    obtain ⟨n, rfl⟩ : ∃ n', n = n' + 1 := ⟨n - 1, by omega⟩
    have e0 := d.p0 hi
    rw [f_X7_callIt_L4.eq_2]
    simp (disch := omega) only [↓reduceIte, pi_0, pi_1, pi_2, pi_3, pi_4, pi_5, pi_6, pi_7, pi_8, pi_9, pi_10, pi_11, pi_12, pi_13, pi_20, pi_27, pi_30, pi_60, pi_99, pi_115, pi_123, pi_135, pi_136, pi_137, pi_138, pi_139, pi_158, pi_159, pi_1113, m_neg, nI_add, pk_mul, pi_sub, mI_dec, pi_cl, pi_leT, pi_leF, pi_ltT, pi_ltF, pi_eqT, pi_eqF, mI_n, m_in159, Option.bind_some, f_X7_personAt, f_X7_windowAt, mG_i, mG_g, mG_s, pk_us, pk_un, m_mI, d.n]
    simp (disch := omega) only [↓x_let_e, ↓reduceIte, pi_0, pi_1, pi_2, pi_3, pi_4, pi_5, pi_6, pi_7, pi_8, pi_9, pi_10, pi_11, pi_12, pi_13, pi_20, pi_27, pi_30, pi_60, pi_99, pi_115, pi_123, pi_135, pi_136, pi_137, pi_138, pi_139, pi_158, pi_159, pi_1113, m_neg, nI_add, pk_mul, pi_sub, mI_dec, pi_cl, pi_leT, pi_leF, pi_ltT, pi_ltF, pi_eqT, pi_eqF, mI_n, m_in159, Option.bind_some, f_X7_personAt, f_X7_windowAt, mG_i, mG_g, mG_s, pk_us, pk_un, e0]
  | m + 1, j, n, e, hj, hm => by
    obtain ⟨n, rfl⟩ : ∃ n', n = n' + 1 := ⟨n - 1, by omega⟩
    have e0 := d.p0 hi
    have f0 := d.p0 (i := j) (by omega)
    have hl := k.2.1.1 i j hj (by omega)
    have h9 := (k.2.1.2 j (by omega)).2
    have ih := m_callF d hn k hU hi m (j + 1) n (by omega) (by omega) (by omega)
    rw [f_X7_callIt_L4.eq_2]
    simp (disch := omega) only [↓reduceIte, pi_0, pi_1, pi_2, pi_3, pi_4, pi_5, pi_6, pi_7, pi_8, pi_9, pi_10, pi_11, pi_12, pi_13, pi_20, pi_27, pi_30, pi_60, pi_99, pi_115, pi_123, pi_135, pi_136, pi_137, pi_138, pi_139, pi_158, pi_159, pi_1113, m_neg, nI_add, pk_mul, pi_sub, mI_dec, pi_cl, pi_leT, pi_leF, pi_ltT, pi_ltF, pi_eqT, pi_eqF, mI_n, m_in159, Option.bind_some, f_X7_personAt, f_X7_windowAt, mG_i, mG_g, mG_s, pk_us, pk_un, m_mI, d.n, e0, f0, ih]
    have g5 := d.p5 (i := j) (by omega)
    simp only [ite_self]
theorem mo_call (d : dH (M.1 10) s (aW s)) (b : aB s) (k : aK s) (hF : aF s) (hU : s.1 2 < 2 ^ 30) : ∃ M', f_X7_callIt M = some (om (oCall s), M') ∧ mR M M' (oCall s) := by
  have hn := b.1
  have L : ∀ (m j n : Nat), j + m = s.1 0 → m < n → (∀ i, pf (fun i => decide (hC s i 5 = 0)) j m = some i → f_X7_callIt_L4 M n mI (nI j) = some (nI (hC s i 0), mG M 10 (upd (M.1 10) (27 + 8 * i + 5) (nI 1)))) ∧ (pf (fun i => decide (hC s i 5 = 0)) j m = none → f_X7_callIt_L4 M n mI (nI j) = some (mI, sI M 9 9 (nI 1))) := by
    intro m
    induction m with
    | zero =>
      intro j n e hm
      obtain ⟨n, rfl⟩ : ∃ n', n = n' + 1 := ⟨n - 1, by omega⟩
      rw [f_X7_callIt_L4.eq_2]
      refine ⟨fun i hi => (by cases hi), fun _ => ?_⟩
      simp (disch := omega) only [↓reduceIte, pi_0, pi_1, pi_2, pi_3, pi_4, pi_5, pi_6, pi_7, pi_8, pi_9, pi_10, pi_11, pi_12, pi_13, pi_20, pi_27, pi_30, pi_60, pi_99, pi_115, pi_123, pi_135, pi_136, pi_137, pi_138, pi_139, pi_158, pi_159, pi_1113, m_neg, nI_add, pk_mul, pi_sub, mI_dec, pi_cl, pi_leT, pi_leF, pi_ltT, pi_ltF, pi_eqT, pi_eqF, mI_n, m_in159, Option.bind_some, f_X7_personAt, f_X7_windowAt, mG_i, mG_g, mG_s, pk_us, pk_un, m_mI, d.n, m_throw]
    | succ m ih =>
      intro j n e hm
      obtain ⟨n, rfl⟩ : ∃ n', n = n' + 1 := ⟨n - 1, by omega⟩
      have e5 := d.p5 (i := j) (by omega)
      have f5 := (hF j (by omega)).1
      have step : pf (fun i => decide (hC s i 5 = 0)) j (m + 1) = if decide (hC s j 5 = 0) = true then some j else pf (fun i => decide (hC s i 5 = 0)) (j + 1) m := rfl
      rw [f_X7_callIt_L4.eq_2, step]
      by_cases g : hC s j 5 = 0
      · rw [if_pos (decide_eq_true g)]
        have go := m_callF d hn k hU (i := j) (by omega) m (j + 1) n (by omega) (by omega) (by omega)
        simp (disch := omega) only [↓reduceIte, pi_0, pi_1, pi_2, pi_3, pi_4, pi_5, pi_6, pi_7, pi_8, pi_9, pi_10, pi_11, pi_12, pi_13, pi_20, pi_27, pi_30, pi_60, pi_99, pi_115, pi_123, pi_135, pi_136, pi_137, pi_138, pi_139, pi_158, pi_159, pi_1113, m_neg, nI_add, pk_mul, pi_sub, mI_dec, pi_cl, pi_leT, pi_leF, pi_ltT, pi_ltF, pi_eqT, pi_eqF, mI_n, m_in159, Option.bind_some, f_X7_personAt, f_X7_windowAt, mG_i, mG_g, mG_s, pk_us, pk_un, m_mI, d.n, e5, g, go]
        refine ⟨fun i hi => ?_, fun hi => (by cases hi)⟩
        cases hi
        rfl
      · rw [if_neg (show ¬ decide (hC s j 5 = 0) = true by simp [g])]
        obtain ⟨i1, i2⟩ := ih (j + 1) n (by omega) (by omega)
        simp (disch := omega) only [↓reduceIte, pi_0, pi_1, pi_2, pi_3, pi_4, pi_5, pi_6, pi_7, pi_8, pi_9, pi_10, pi_11, pi_12, pi_13, pi_20, pi_27, pi_30, pi_60, pi_99, pi_115, pi_123, pi_135, pi_136, pi_137, pi_138, pi_139, pi_158, pi_159, pi_1113, m_neg, nI_add, pk_mul, pi_sub, mI_dec, pi_cl, pi_leT, pi_leF, pi_ltT, pi_ltF, pi_eqT, pi_eqF, mI_n, m_in159, Option.bind_some, f_X7_personAt, f_X7_windowAt, mG_i, mG_g, mG_s, pk_us, pk_un, m_mI, d.n, e5]
        exact ⟨i1, i2⟩
  obtain ⟨l1, l2⟩ := L (s.1 0) 0 xF (by omega) (by rw [xF_2000]; omega)
  unfold oCall f_X7_callIt
  rw [m_mI, pi_0]
  cases e : pf (fun i => decide (hC s i 5 = 0)) 0 (s.1 0) with
  | none => exact ⟨_, l2 e, mR_no (by decide)⟩
  | some i =>
    obtain ⟨-, h1, -, -⟩ := pf_some e
    have d1 := d.uC hn (i := i) (f := 5) (v := 1) (by omega) (by decide)
    exact ⟨_, l1 i e, mR_yes (d1.ca fun j _ => aW_cg fun v hv => Iff.rfl)⟩
end MO2
section MO3
variable {M : xM} {s : hS}
theorem aPos_aW (k : aK s) {x : Nat} (hx : x < s.1 0) : (aW s x = 0 ↔ ∃ p, aPos s x = some p) := by
  constructor
  · intro h
    rcases k.1.2.2.2.2.2.1 x hx with ⟨p, hp, e⟩ | ⟨w, hw, e⟩
    · exact ⟨p, pf_is (by omega) (by omega) (decide_eq_true e) (fun i _ hi => decide_eq_false fun z => by
        have := k.1.2.1 i p (by omega) hp (z.trans e.symm)
        omega)⟩
    · exact absurd e (aW_n h w hw)
  · rintro ⟨p, hp⟩
    obtain ⟨h1, h2⟩ := aPos_lt hp
    refine aW_0 fun w hw => ?_
    have := k.1.2.2.2.2.1 p w h1 hw
    rw [h2] at this
    exact this
theorem dH.uQ {g : Nat → Int32} {a : Nat → Nat} (d : dH g s a) (n12 : s.1 0 ≤ 12) (q12 : s.1 7 ≤ 12) {k v : Nat} (hk : k < 12) : dH (upd g (123 + k) (nI v)) (uQ s k v) a := by
  refine ⟨fun j hj => ?_, ?_, fun w hw => ?_, fun i' hi' f' hf' => ?_, fun i' hi' => ?_, fun x h1 h2 => ?_, fun x hx => ?_, fun r hr => ?_⟩
  · rw [pk_un (by have := (dix_le hj).1; omega)]; exact d.sc hj
  · show upd g _ _ 10 = _
    rw [pk_un (by omega)]; exact d.k10
  · rw [pk_un (by omega), pk_un (by omega), pk_un (by omega), pk_un (by omega)]; exact d.2.2.1 w hw
  · have hi' : i' < s.1 0 := hi'
    have hm' := mf_le f'
    rw [pk_un (by omega)]; exact d.p hi' hf'
  · have hi' : i' < s.1 0 := hi'
    rw [pk_un (by omega)]; exact d.at_ hi'
  · rw [pk_un (by omega)]; exact d.z h1 h2
  · have hx : x < s.1 7 := hx
    show _ = nI (va_up s.2.1 k v x)
    by_cases e : x = k
    · subst e
      rw [pk_us, va_up_self]
    · rw [pk_un (by omega), va_up_ne _ _ e]; exact d.q hx
  · rw [pk_un (by omega), pk_un (by omega)]; exact d.2.2.2.2.2.2.2 r hr
theorem m_absL {a b : Nat} {D : Decidable (nI 0 ≤ nI a - nI b)} (hb : b < 2 ^ 30) (h : a < b) : @ite Int32 (nI 0 ≤ nI a - nI b) D (nI a - nI b) (nI 0 - (nI a - nI b)) = nI (b - a) := by
  have n : ¬ nI 0 ≤ nI a - nI b := Int32.not_le.mpr (pk_sneg hb h)
  have := m_abs (a := a) (b := b) (by omega) hb
  rw [if_neg (show ¬ (0 : Int32) ≤ nI a - nI b from n), if_neg (show ¬ b ≤ a by omega)] at this
  rw [if_neg n]
  exact this
theorem mo_swap {a c : Int32} (d : dH (M.1 10) s (aW s)) (b : aB s) (k : aK s) : ∃ M', f_X7_swapIt a c M = some (om (oSwap (ix a) (ix c) s), M') ∧ mR M M' (oSwap (ix a) (ix c) s) := by
  have hn := b.1
  have hq := b.2.1
  unfold oSwap f_X7_swapIt
  by_cases g : ix a < s.1 0
  · have ea := ix_eq (a := a) (by omega)
    by_cases g' : ix c < s.1 0
    · have ec := ix_eq (a := c) (by omega)
      rw [if_pos (show ix a < s.1 0 ∧ ix c < s.1 0 from ⟨g, g'⟩)]
      generalize ix a = x at g ea ⊢
      subst ea
      generalize ix c = y at g' ec ⊢
      subst ec
      have hx : x < 12 := by omega
      have hy : y < 12 := by omega
      rw [m_here d hn g, m_here d hn g']
      simp (disch := omega) only [↓reduceIte, pi_0, pi_1, pi_2, pi_3, pi_4, pi_5, pi_6, pi_7, pi_8, pi_9, pi_10, pi_11, pi_12, pi_13, pi_20, pi_27, pi_30, pi_60, pi_99, pi_115, pi_123, pi_135, pi_136, pi_137, pi_138, pi_139, pi_158, pi_159, pi_1113, m_neg, nI_add, pk_mul, pi_sub, mI_dec, pi_cl, pi_leT, pi_leF, pi_ltT, pi_ltF, pi_eqT, pi_eqF, mI_n, m_in159, Option.bind_some, f_X7_personAt, f_X7_windowAt, mG_i, mG_g, mG_s, pk_us, pk_un, m_throw]
      by_cases e : x = y
      · rw [if_pos e]
        simp (disch := omega) only [↓reduceIte, pi_0, pi_1, pi_2, pi_3, pi_4, pi_5, pi_6, pi_7, pi_8, pi_9, pi_10, pi_11, pi_12, pi_13, pi_20, pi_27, pi_30, pi_60, pi_99, pi_115, pi_123, pi_135, pi_136, pi_137, pi_138, pi_139, pi_158, pi_159, pi_1113, m_neg, nI_add, pk_mul, pi_sub, mI_dec, pi_cl, pi_leT, pi_leF, pi_ltT, pi_ltF, pi_eqT, pi_eqF, mI_n, m_in159, Option.bind_some, f_X7_personAt, f_X7_windowAt, mG_i, mG_g, mG_s, pk_us, pk_un]
        exact ⟨_, rfl, mR_no (by decide)⟩
      · rw [if_neg e]
        simp (disch := omega) only [↓reduceIte, pi_0, pi_1, pi_2, pi_3, pi_4, pi_5, pi_6, pi_7, pi_8, pi_9, pi_10, pi_11, pi_12, pi_13, pi_20, pi_27, pi_30, pi_60, pi_99, pi_115, pi_123, pi_135, pi_136, pi_137, pi_138, pi_139, pi_158, pi_159, pi_1113, m_neg, nI_add, pk_mul, pi_sub, mI_dec, pi_cl, pi_leT, pi_leF, pi_ltT, pi_ltF, pi_eqT, pi_eqF, mI_n, m_in159, Option.bind_some, f_X7_personAt, f_X7_windowAt, mG_i, mG_g, mG_s, pk_us, pk_un, m_atw d hn g, m_atw d hn g']
        have wx := aPos_aW k g
        have wy := aPos_aW k g'
        cases hp : aPos s x with
        | none =>
          rw [hp] at wx
          have : aW s x ≠ 0 := fun z => by obtain ⟨p, h⟩ := wx.mp z; cases h
          simp (disch := omega) only [↓reduceIte, pi_0, pi_1, pi_2, pi_3, pi_4, pi_5, pi_6, pi_7, pi_8, pi_9, pi_10, pi_11, pi_12, pi_13, pi_20, pi_27, pi_30, pi_60, pi_99, pi_115, pi_123, pi_135, pi_136, pi_137, pi_138, pi_139, pi_158, pi_159, pi_1113, m_neg, nI_add, pk_mul, pi_sub, mI_dec, pi_cl, pi_leT, pi_leF, pi_ltT, pi_ltF, pi_eqT, pi_eqF, mI_n, m_in159, Option.bind_some, f_X7_personAt, f_X7_windowAt, mG_i, mG_g, mG_s, pk_us, pk_un, if_neg this]
          exact ⟨_, rfl, mR_no (by decide)⟩
        | some p =>
          obtain ⟨p1, p2⟩ := aPos_lt hp
          have hx0 : aW s x = 0 := wx.mpr ⟨p, hp⟩
          have hp' : pf (fun k => decide (hQ s k = x)) 0 (s.1 7) = some p := hp
          simp (disch := omega) only [↓reduceIte, pi_0, pi_1, pi_2, pi_3, pi_4, pi_5, pi_6, pi_7, pi_8, pi_9, pi_10, pi_11, pi_12, pi_13, pi_20, pi_27, pi_30, pi_60, pi_99, pi_115, pi_123, pi_135, pi_136, pi_137, pi_138, pi_139, pi_158, pi_159, pi_1113, m_neg, nI_add, pk_mul, pi_sub, mI_dec, pi_cl, pi_leT, pi_leF, pi_ltT, pi_ltF, pi_eqT, pi_eqF, mI_n, m_in159, Option.bind_some, f_X7_personAt, f_X7_windowAt, mG_i, mG_g, mG_s, pk_us, pk_un, if_pos hx0]
          cases hq' : aPos s y with
          | none =>
            rw [hq'] at wy
            have : aW s y ≠ 0 := fun z => by obtain ⟨p, h⟩ := wy.mp z; cases h
            simp (disch := omega) only [↓reduceIte, pi_0, pi_1, pi_2, pi_3, pi_4, pi_5, pi_6, pi_7, pi_8, pi_9, pi_10, pi_11, pi_12, pi_13, pi_20, pi_27, pi_30, pi_60, pi_99, pi_115, pi_123, pi_135, pi_136, pi_137, pi_138, pi_139, pi_158, pi_159, pi_1113, m_neg, nI_add, pk_mul, pi_sub, mI_dec, pi_cl, pi_leT, pi_leF, pi_ltT, pi_ltF, pi_eqT, pi_eqF, mI_n, m_in159, Option.bind_some, f_X7_personAt, f_X7_windowAt, mG_i, mG_g, mG_s, pk_us, pk_un, if_neg this]
            exact ⟨_, rfl, mR_no (by decide)⟩
          | some q =>
            obtain ⟨q1, q2⟩ := aPos_lt hq'
            have hy0 : aW s y = 0 := wy.mpr ⟨q, hq'⟩
            have hq2 : pf (fun k => decide (hQ s k = y)) 0 (s.1 7) = some q := hq'
            have pq : p ≠ q := fun z => e (by rw [← p2, z]; exact q2)
            simp (disch := omega) only [↓reduceIte, pi_0, pi_1, pi_2, pi_3, pi_4, pi_5, pi_6, pi_7, pi_8, pi_9, pi_10, pi_11, pi_12, pi_13, pi_20, pi_27, pi_30, pi_60, pi_99, pi_115, pi_123, pi_135, pi_136, pi_137, pi_138, pi_139, pi_158, pi_159, pi_1113, m_neg, nI_add, pk_mul, pi_sub, mI_dec, pi_cl, pi_leT, pi_leF, pi_ltT, pi_ltF, pi_eqT, pi_eqF, mI_n, m_in159, Option.bind_some, f_X7_personAt, f_X7_windowAt, mG_i, mG_g, mG_s, pk_us, pk_un, if_pos hy0]
            rw [m_place d.qn hq (by omega) (fun k hk => d.q hk) b.q31, m_place d.qn hq (by omega) (fun k hk => d.q hk) b.q31, hp', hq2, oI_s, oI_s]
            simp (disch := omega) only [↓reduceIte, pi_0, pi_1, pi_2, pi_3, pi_4, pi_5, pi_6, pi_7, pi_8, pi_9, pi_10, pi_11, pi_12, pi_13, pi_20, pi_27, pi_30, pi_60, pi_99, pi_115, pi_123, pi_135, pi_136, pi_137, pi_138, pi_139, pi_158, pi_159, pi_1113, m_neg, nI_add, pk_mul, pi_sub, mI_dec, pi_cl, pi_leT, pi_leF, pi_ltT, pi_ltF, pi_eqT, pi_eqF, mI_n, m_in159, Option.bind_some, f_X7_personAt, f_X7_windowAt, mG_i, mG_g, mG_s, pk_us, pk_un]
            have aq : ∀ z, aW (uQ (uQ (uC s z 1 (hC s z 1 - 2)) p y) q x) = aW s := fun z => funext fun i => aW_cg fun v hv => Iff.rfl
            unfold aXch
            by_cases l : p < q
            · have hb := (b.2.2.2.2 x hx).1
              have e1 := d.p1 g
              rw [if_pos l, if_neg (show ¬ q ≤ p by omega)]
              simp (disch := omega) only [↓reduceIte, pi_0, pi_1, pi_2, pi_3, pi_4, pi_5, pi_6, pi_7, pi_8, pi_9, pi_10, pi_11, pi_12, pi_13, pi_20, pi_27, pi_30, pi_60, pi_99, pi_115, pi_123, pi_135, pi_136, pi_137, pi_138, pi_139, pi_158, pi_159, pi_1113, m_neg, nI_add, pk_mul, pi_sub, mI_dec, pi_cl, pi_leT, pi_leF, pi_ltT, pi_ltF, pi_eqT, pi_eqF, mI_n, m_in159, Option.bind_some, f_X7_personAt, f_X7_windowAt, mG_i, mG_g, mG_s, pk_us, pk_un, e1]
              by_cases g2 : hC s x 1 < 2
              · rw [if_pos g2]
                simp (disch := omega) only [↓reduceIte, pi_0, pi_1, pi_2, pi_3, pi_4, pi_5, pi_6, pi_7, pi_8, pi_9, pi_10, pi_11, pi_12, pi_13, pi_20, pi_27, pi_30, pi_60, pi_99, pi_115, pi_123, pi_135, pi_136, pi_137, pi_138, pi_139, pi_158, pi_159, pi_1113, m_neg, nI_add, pk_mul, pi_sub, mI_dec, pi_cl, pi_leT, pi_leF, pi_ltT, pi_ltF, pi_eqT, pi_eqF, mI_n, m_in159, Option.bind_some, f_X7_personAt, f_X7_windowAt, mG_i, mG_g, mG_s, pk_us, pk_un]
                exact ⟨_, rfl, mR_no (by decide)⟩
              · rw [if_neg g2]
                have d1 := ((d.uC hn (i := x) (f := 1) (v := hC s x 1 - 2) g (by decide)).uQ hn hq (k := p) (v := y) (by omega)).uQ hn hq (k := q) (v := x) (by omega)
                simp (disch := omega) only [↓x_let_e, ↓reduceIte, pi_0, pi_1, pi_2, pi_3, pi_4, pi_5, pi_6, pi_7, pi_8, pi_9, pi_10, pi_11, pi_12, pi_13, pi_20, pi_27, pi_30, pi_60, pi_99, pi_115, pi_123, pi_135, pi_136, pi_137, pi_138, pi_139, pi_158, pi_159, pi_1113, m_neg, nI_add, pk_mul, pi_sub, mI_dec, pi_cl, pi_leT, pi_leF, pi_ltT, pi_ltF, pi_eqT, pi_eqF, mI_n, m_in159, Option.bind_some, f_X7_personAt, f_X7_windowAt, mG_i, mG_g, mG_s, pk_us, pk_un]
                exact ⟨_, congrArg (fun z => some (z, mG M 10 (upd (upd (upd (M.1 10) (27 + 8 * x + 1) (nI (hC s x 1 - 2))) (123 + p) (nI y)) (123 + q) (nI x)))) (m_absL (D := Int32.decLe 0 (nI p - nI q)) (by omega) l), mR_yes (by rw [aq]; exact d1)⟩
            · have hb := (b.2.2.2.2 y hy).1
              have e1 := d.p1 g'
              rw [if_neg l, if_pos (show q ≤ p by omega)]
              simp (disch := omega) only [↓reduceIte, pi_0, pi_1, pi_2, pi_3, pi_4, pi_5, pi_6, pi_7, pi_8, pi_9, pi_10, pi_11, pi_12, pi_13, pi_20, pi_27, pi_30, pi_60, pi_99, pi_115, pi_123, pi_135, pi_136, pi_137, pi_138, pi_139, pi_158, pi_159, pi_1113, m_neg, nI_add, pk_mul, pi_sub, mI_dec, pi_cl, pi_leT, pi_leF, pi_ltT, pi_ltF, pi_eqT, pi_eqF, mI_n, m_in159, Option.bind_some, f_X7_personAt, f_X7_windowAt, mG_i, mG_g, mG_s, pk_us, pk_un, e1]
              by_cases g2 : hC s y 1 < 2
              · rw [if_pos g2]
                simp (disch := omega) only [↓reduceIte, pi_0, pi_1, pi_2, pi_3, pi_4, pi_5, pi_6, pi_7, pi_8, pi_9, pi_10, pi_11, pi_12, pi_13, pi_20, pi_27, pi_30, pi_60, pi_99, pi_115, pi_123, pi_135, pi_136, pi_137, pi_138, pi_139, pi_158, pi_159, pi_1113, m_neg, nI_add, pk_mul, pi_sub, mI_dec, pi_cl, pi_leT, pi_leF, pi_ltT, pi_ltF, pi_eqT, pi_eqF, mI_n, m_in159, Option.bind_some, f_X7_personAt, f_X7_windowAt, mG_i, mG_g, mG_s, pk_us, pk_un]
                exact ⟨_, rfl, mR_no (by decide)⟩
              · rw [if_neg g2]
                have d1 := ((d.uC hn (i := y) (f := 1) (v := hC s y 1 - 2) g' (by decide)).uQ hn hq (k := p) (v := y) (by omega)).uQ hn hq (k := q) (v := x) (by omega)
                simp (disch := omega) only [↓x_let_e, ↓reduceIte, pi_0, pi_1, pi_2, pi_3, pi_4, pi_5, pi_6, pi_7, pi_8, pi_9, pi_10, pi_11, pi_12, pi_13, pi_20, pi_27, pi_30, pi_60, pi_99, pi_115, pi_123, pi_135, pi_136, pi_137, pi_138, pi_139, pi_158, pi_159, pi_1113, m_neg, nI_add, pk_mul, pi_sub, mI_dec, pi_cl, pi_leT, pi_leF, pi_ltT, pi_ltF, pi_eqT, pi_eqF, mI_n, m_in159, Option.bind_some, f_X7_personAt, f_X7_windowAt, mG_i, mG_g, mG_s, pk_us, pk_un]
                exact ⟨_, rfl, mR_yes (by rw [aq]; exact d1)⟩
    · rw [if_neg (show ¬ (ix a < s.1 0 ∧ ix c < s.1 0) from fun z => g' z.2)]
      generalize ix a = x at g ea ⊢
      subst ea
      rw [m_here d hn g, m_herent d hn (ix_no (by omega) g')]
      simp (disch := omega) only [↓reduceIte, pi_0, pi_1, pi_2, pi_3, pi_4, pi_5, pi_6, pi_7, pi_8, pi_9, pi_10, pi_11, pi_12, pi_13, pi_20, pi_27, pi_30, pi_60, pi_99, pi_115, pi_123, pi_135, pi_136, pi_137, pi_138, pi_139, pi_158, pi_159, pi_1113, m_neg, nI_add, pk_mul, pi_sub, mI_dec, pi_cl, pi_leT, pi_leF, pi_ltT, pi_ltF, pi_eqT, pi_eqF, mI_n, m_in159, Option.bind_some, f_X7_personAt, f_X7_windowAt, mG_i, mG_g, mG_s, pk_us, pk_un, m_throw]
      exact ⟨_, rfl, mR_no (by decide)⟩
  · rw [if_neg (show ¬ (ix a < s.1 0 ∧ ix c < s.1 0) from fun z => g z.1), m_herent d hn (ix_no (by omega) g)]
    simp (disch := omega) only [↓reduceIte, pi_0, pi_1, pi_2, pi_3, pi_4, pi_5, pi_6, pi_7, pi_8, pi_9, pi_10, pi_11, pi_12, pi_13, pi_20, pi_27, pi_30, pi_60, pi_99, pi_115, pi_123, pi_135, pi_136, pi_137, pi_138, pi_139, pi_158, pi_159, pi_1113, m_neg, nI_add, pk_mul, pi_sub, mI_dec, pi_cl, pi_leT, pi_leF, pi_ltT, pi_ltF, pi_eqT, pi_eqF, mI_n, m_in159, Option.bind_some, f_X7_personAt, f_X7_windowAt, mG_i, mG_g, mG_s, pk_us, pk_un, m_throw]
    exact ⟨_, rfl, mR_no (by decide)⟩
theorem m_advL {q v : Nat} (hq : q ≤ 20) : ∀ (m j n : Nat) (M : xM) (s : hS), dH (M.1 10) s (aW s) → aG s → j + m = q → m < n → ∃ g', f_X7_advanceIt_L27 (nI q) (nI v) n (nI j) M = some (nI ((aPassL m s).1 3) - nI v, mG M 10 g') ∧ dH g' (aPassL m s) (aW (aPassL m s))
  | 0, j, n, M, s, d, i, e, hn => by
    obtain ⟨n, rfl⟩ : ∃ n', n = n' + 1 := ⟨n - 1, by omega⟩
    have e3 : M.1 10 3 = nI (s.1 3) := d.sc (j := 3) (by decide)
    rw [f_X7_advanceIt_L27.eq_2]
    simp (disch := omega) only [pi_0, pi_1, pi_2, pi_3, pi_4, pi_5, pi_6, pi_7, pi_8, pi_9, pi_10, pi_11, pi_12, pi_13, pi_20, pi_27, pi_30, pi_60, pi_99, pi_115, pi_123, pi_135, pi_136, pi_137, pi_138, pi_139, pi_158, pi_159, pi_1113, m_neg, pi_leT, ↓reduceIte, m_in159, pi_cl, e3]
    exact ⟨M.1 10, by rw [mG_id]; rfl, d⟩
  | m + 1, j, n, M, s, d, i, e, hn => by
    obtain ⟨n, rfl⟩ : ∃ n', n = n' + 1 := ⟨n - 1, by omega⟩
    obtain ⟨g1, h1, d1⟩ := m_passes d i
    rw [f_X7_advanceIt_L27.eq_2]
    simp (disch := omega) only [↓reduceIte, pi_0, pi_1, pi_2, pi_3, pi_4, pi_5, pi_6, pi_7, pi_8, pi_9, pi_10, pi_11, pi_12, pi_13, pi_20, pi_27, pi_30, pi_60, pi_99, pi_115, pi_123, pi_135, pi_136, pi_137, pi_138, pi_139, pi_158, pi_159, pi_1113, m_neg, nI_add, pk_mul, pi_sub, mI_dec, pi_cl, pi_leT, pi_leF, pi_ltT, pi_ltF, pi_eqT, pi_eqF, mI_n, m_in159, Option.bind_some, f_X7_personAt, f_X7_windowAt, mG_i, mG_g, mG_s, pk_us, pk_un, h1]
    obtain ⟨g2, h2, d2⟩ := m_advL hq m (j + 1) n (mG M 10 g1) (aMinute s) (by rw [mG_s]; exact d1) (aG_minute i) (by omega) (by omega)
    rw [mG_g] at h2
    exact ⟨g2, h2, d2⟩
theorem mo_adv {a : Int32} (d : dH (M.1 10) s (aW s)) (i : aG s) : ∃ M', f_X7_advanceIt a M = some (om (oAdv (ix a) s), M') ∧ mR M M' (oAdv (ix a) s) := by
  have e3 : M.1 10 3 = nI (s.1 3) := d.sc (j := 3) (by decide)
  unfold oAdv f_X7_advanceIt
  by_cases g : 1 ≤ ix a ∧ ix a ≤ 20
  · rw [if_pos g]
    have ea := ix_eq (a := a) (by omega)
    obtain ⟨g1, h1, d1⟩ := m_advL (q := ix a) (v := s.1 3) g.2 (ix a) 0 xF M s d i (by omega) (by rw [xF_2000]; omega)
    rw [← ea, pi_sub (aPassL_3 (ix a) s)] at h1
    simp (disch := omega) only [↓reduceIte, pi_0, pi_1, pi_2, pi_3, pi_4, pi_5, pi_6, pi_7, pi_8, pi_9, pi_10, pi_11, pi_12, pi_13, pi_20, pi_27, pi_30, pi_60, pi_99, pi_115, pi_123, pi_135, pi_136, pi_137, pi_138, pi_139, pi_158, pi_159, pi_1113, m_neg, nI_add, pk_mul, pi_sub, mI_dec, pi_cl, pi_leT, pi_leF, pi_ltT, pi_ltF, pi_eqT, pi_eqF, mI_n, m_in159, Option.bind_some, f_X7_personAt, f_X7_windowAt, mG_i, mG_g, mG_s, pk_us, pk_un, m_l1, m_l20, m_rng, if_pos g, e3, h1]
    exact ⟨_, rfl, mR_yes d1⟩
  · rw [if_neg g]
    simp (disch := omega) only [↓reduceIte, pi_0, pi_1, pi_2, pi_3, pi_4, pi_5, pi_6, pi_7, pi_8, pi_9, pi_10, pi_11, pi_12, pi_13, pi_20, pi_27, pi_30, pi_60, pi_99, pi_115, pi_123, pi_135, pi_136, pi_137, pi_138, pi_139, pi_158, pi_159, pi_1113, m_neg, nI_add, pk_mul, pi_sub, mI_dec, pi_cl, pi_leT, pi_leF, pi_ltT, pi_ltF, pi_eqT, pi_eqF, mI_n, m_in159, Option.bind_some, f_X7_personAt, f_X7_windowAt, mG_i, mG_g, mG_s, pk_us, pk_un, m_l1, m_l20, m_rng, m_throw, if_neg g]
    exact ⟨_, rfl, mR_no (by decide)⟩
end MO3
