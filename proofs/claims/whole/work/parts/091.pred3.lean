/-! pure: minutesUntilWindow; the law over the predictions -/
section PF
variable {M : xM} {s : hS} {u : Nat} {H : Nat → hS} {sf : Nat} {sn : hS}
theorem aUntil_none {t r n : Nat} {s : hS} (h : aTix t s = none) : aUntil t r n s = none := by
  unfold aUntil
  rw [h]
theorem aUntil_at {t r n i : Nat} {s : hS} (h : aTix t s = some i) (z : aW s i ≠ 0) : aUntil t r n s = some n := by
  unfold aUntil
  rw [h]
  exact if_neg z
theorem aUntil_s {t r n i : Nat} {s : hS} (h : aTix t s = some i) (z : aW s i = 0) : aUntil t (r + 1) n s = aUntil t r (n + 1) (aMinute s) := by
  rw [aUntil]
  rw [h]
  exact if_pos z
theorem aUntil_0 {t n i : Nat} {s : hS} (h : aTix t s = some i) (z : aW s i = 0) : aUntil t 0 n s = none := by
  unfold aUntil
  rw [h]
  exact if_pos z
theorem cp_unL {T : Nat} (hT : T < 2 ^ 31) : ∀ (r j n : Nat) (M : xM) (t : hS) (B : Nat), gC M s u H sf sn → cR (M.2.1 0 1) M t → aV B t → 13 ≤ B → B + 16 * r < 2 ^ 30 → j + r = 60 → r + 1 < n → ∃ M', f_X6_predictMinutesUntilWindow_L26 (nI T) n (nI j) M = some (oI (aUntil T r j t), M') ∧ gC M' s u H sf sn ∧ gK M M' := by
  intro r
  induction r with
  | zero =>
    intro j n M t B g rr v hB hB2 e hn
    obtain ⟨n, rfl⟩ : ∃ n', n = n' + 1 + 1 := ⟨n - 2, by omega⟩
    have h12 := v.1.1.1.1.1
    rw [f_X6_predictMinutesUntilWindow_L26.eq_2, if_neg (show ¬ (60 : Int32) < nI j from nI_nlt (a := 60) (by omega) (by decide)), if_pos g.k1, c_tix rr h12 hT (tix31 v (by omega)), Option.bind_some]
    have hx : pf (fun i => decide (hC t i 0 = T)) 0 (t.1 0) = aTix T t := rfl
    rw [hx]
    cases e1 : aTix T t with
    | none =>
      rw [oI_n, if_pos rfl, aUntil_none e1]
      exact ⟨M, rfl, g, gK.rf⟩
    | some i =>
      have hi := aTix_lt e1
      rw [oI_s, if_neg (pi_ne1 (by omega)), if_pos g.k1, c_wof rr (by omega) v.1.1.1.1.w31, Option.bind_some]
      have ew := aW_wof (s := t) v.1.1.1.2.1 (c := i)
      cases e2 : pf (fun w => decide (hW t w 2 = i + 1)) 0 3 with
      | some w =>
        rw [e2] at ew
        have := (pf_some e2).2.1
        rw [oI_s, if_neg (pi_ne1 (by omega)), aUntil_at e1 (fun z => by have := ew.mpr z; cases this)]
        exact ⟨M, rfl, g, gK.rf⟩
      | none =>
        have z := ew.mp e2
        have ge : 22 ≤ M.2.1 0 1 := g.ge (i := 1) (by decide)
        obtain ⟨M1, h1, r1, f1⟩ := c_minute rr v.1.1
        have p1 : M1.2.1 0 = M.2.1 0 := (f1.1 0 (by omega)).2
        rw [oI_n, if_pos rfl, if_pos g.k1, h1, Option.bind_some, pi_add1, f_X6_predictMinutesUntilWindow_L26.eq_2, if_pos (show (60 : Int32) < nI (j + 1) from nI_lt (a := 60) (by omega) (by omega)), aUntil_0 e1 z]
        exact ⟨M1, rfl, gC_trial g f1 r1.1, gK_F ge f1⟩
  | succ r ih =>
    intro j n M t B g rr v hB hB2 e hn
    obtain ⟨n, rfl⟩ : ∃ n', n = n' + 1 := ⟨n - 1, by omega⟩
    have h12 := v.1.1.1.1.1
    rw [f_X6_predictMinutesUntilWindow_L26.eq_2, if_neg (show ¬ (60 : Int32) < nI j from nI_nlt (a := 60) (by omega) (by decide)), if_pos g.k1, c_tix rr h12 hT (tix31 v (by omega)), Option.bind_some]
    have hx : pf (fun i => decide (hC t i 0 = T)) 0 (t.1 0) = aTix T t := rfl
    rw [hx]
    cases e1 : aTix T t with
    | none =>
      rw [oI_n, if_pos rfl, aUntil_none e1]
      exact ⟨M, rfl, g, gK.rf⟩
    | some i =>
      have hi := aTix_lt e1
      rw [oI_s, if_neg (pi_ne1 (by omega)), if_pos g.k1, c_wof rr (by omega) v.1.1.1.1.w31, Option.bind_some]
      have ew := aW_wof (s := t) v.1.1.1.2.1 (c := i)
      cases e2 : pf (fun w => decide (hW t w 2 = i + 1)) 0 3 with
      | some w =>
        rw [e2] at ew
        have := (pf_some e2).2.1
        rw [oI_s, if_neg (pi_ne1 (by omega)), aUntil_at e1 (fun z => by have := ew.mpr z; cases this)]
        exact ⟨M, rfl, g, gK.rf⟩
      | none =>
        have z := ew.mp e2
        have ge : 22 ≤ M.2.1 0 1 := g.ge (i := 1) (by decide)
        obtain ⟨M1, h1, r1, f1⟩ := c_minute rr v.1.1
        have p1 : M1.2.1 0 = M.2.1 0 := (f1.1 0 (by omega)).2
        rw [oI_n, if_pos rfl, if_pos g.k1, h1, Option.bind_some, pi_add1, aUntil_s e1 z]
        obtain ⟨M2, h2, g2, k2⟩ := ih (j + 1) n M1 (aMinute t) (B + 16) (gC_trial g f1 r1.1) (by rw [p1]; exact r1) (aV_minute v hB) (by omega) (by omega) (by omega) (by omega)
        exact ⟨M2, h2, g2, (gK_F ge f1).tr k2⟩
theorem aUntil_le {T : Nat} : ∀ (r n : Nat) (t : hS) (m : Nat), aUntil T r n t = some m → m ≤ n + r := by
  intro r
  induction r with
  | zero =>
    intro n t m h
    cases e1 : aTix T t with
    | none => rw [aUntil_none e1] at h; cases h
    | some i =>
      by_cases z : aW t i = 0
      · rw [aUntil_0 e1 z] at h; cases h
      · rw [aUntil_at e1 z] at h; cases h; omega
  | succ r ih =>
    intro n t m h
    cases e1 : aTix T t with
    | none => rw [aUntil_none e1] at h; cases h
    | some i =>
      by_cases z : aW t i = 0
      · rw [aUntil_s e1 z] at h
        have := ih _ _ _ h
        omega
      · rw [aUntil_at e1 z] at h; cases h; omega
theorem cp_minutesUntilWindow {B : Nat} (g : gC M s u H sf sn) (v : aV B s) (hB : 13 ≤ B) (hB2 : B < 2 ^ 29) {a : Int32} : ∃ M', f_L_minutesUntilWindow a M = some (nI (qMi (ix a) s).1, M') ∧ gC M' s u H sf sn ∧ gK2 M M' ∧ ((qMi (ix a) s).1 = 0 → M'.2.2.1 = (nI (qMi (ix a) s).2.1).toInt64) := by
  have hn := v.1.1.1.1.1
  unfold f_L_minutesUntilWindow f_X6_minutesUntilWindow qMi
  rw [c_req g hn]
  by_cases h : ix a < s.1 0
  · have ea := ix_eq (a := a) (by omega)
    rw [if_pos h, if_pos h, Option.bind_some, x_case_l]
    generalize ix a = x at h ea ⊢
    subst ea
    have tx := tix31 v (by omega) x h
    have ge : 22 ≤ M.2.1 0 1 := g.ge (i := 1) (by decide)
    obtain ⟨M1, h1, g1, r1, f1, p1⟩ := w_copy g
    unfold f_X6_predictMinutesUntilWindow
    rw [if_pos g.k0, if_pos (pi_in12 (by omega)), pi_cl (by omega), if_pos (g.r.ck (by omega)), if_pos g.k1, if_pos g.k0, h1, Option.bind_some, g.r.c (by omega) (by decide)]
    obtain ⟨M2, h2, g2, k2⟩ := cp_unL tx 60 0 xF M1 s B g1 (by rw [p1]; exact r1) v hB (by omega) (by omega) (by rw [xF_2000]; omega)
    rw [pi_0, h2, Option.bind_some]
    cases e : aUntil (hC s x 0) 60 0 s with
    | none => exact ⟨M2, rfl, g2, ((gK_F ge f1).tr k2).k2, fun z => absurd z (show ¬ (2 : Nat) = 0 by decide)⟩
    | some m =>
      have hm := aUntil_le _ _ _ _ e
      rw [oI_s, if_neg (pi_ne1 (by omega))]
      exact ⟨sJ M2 (nI m).toInt64, rfl, g2, ((gK_F ge f1).tr k2).k2, fun _ => rfl⟩
  · rw [if_neg h, if_neg h]
    exact ⟨M, rfl, g, gK2.rf, fun z => absurd z (show ¬ (1 : Nat) = 0 by decide)⟩
def jV (t : hS) (j : Nat) (o : Option Nat) : Int32 := match o with
  | some i => if aW t i = 0 then mI else nI j
  | none => mI
def jM (t : hS) (X : xM) (o : Option Nat) : xM := match o with
  | some i => if aW t i = 0 then sI X 9 9 (nI 2) else X
  | none => sI X 9 9 (nI 2)
/-- the end of the model's thinking about a window -/
theorem mp_J {g : Nat → Int32} {t : hS} {j : Nat} (d : dH g t (aW t)) (h12 : t.1 0 ≤ 12) (o : Option Nat) (ho : ∀ i, o = some i → i < t.1 0) : ∃ M', f_X7_minutesUntilWindow_J74 (oI o) (nI j) (mG M 10 g) = some (jV t j o, M') ∧ ∃ g', (∀ k, k < 159 → g' k = M.1 12 k) ∧ M' = jM t (mG M 10 g') o := by
  obtain ⟨g', h1, h2⟩ := m_nm (M := M) (g := g)
  have d1 : dH ((mG M 10 g).1 10) t (aW t) := by rw [mG_s]; exact d
  have j91 : f_X7_minutesUntilWindow_J91 (nI j) (mG M 10 g) = some (mI, sI (mG M 10 g') 9 9 (nI 2)) := by
    unfold f_X7_minutesUntilWindow_J91
    rw [h1, Option.bind_some, if_pos rfl, pi_2, m_throw]
    rfl
  unfold f_X7_minutesUntilWindow_J74
  cases o with
  | none =>
    rw [oI_n, if_pos rfl, j91]
    exact ⟨_, rfl, g', h2, rfl⟩
  | some i =>
    have hi := ho i rfl
    rw [oI_s, if_neg (pi_ne1 (by omega)), m_atw d1 h12 hi, Option.bind_some]
    by_cases z : aW t i = 0
    · rw [if_pos z, if_pos (show nI 0 = 0 from rfl), j91]
      refine ⟨_, ?_, g', h2, rfl⟩
      show _ = some (if aW t i = 0 then mI else nI j, if aW t i = 0 then sI (mG M 10 g') 9 9 (nI 2) else mG M 10 g')
      rw [if_pos z, if_pos z]
    · rw [if_neg z, if_neg (show ¬ nI 1 = 0 by decide), h1, Option.bind_some, if_neg (by decide)]
      refine ⟨_, ?_, g', h2, rfl⟩
      show _ = some (if aW t i = 0 then mI else nI j, if aW t i = 0 then sI (mG M 10 g') 9 9 (nI 2) else mG M 10 g')
      rw [if_neg z, if_neg z]
theorem mp_unL {T : Nat} (hT : T < 2 ^ 31) : ∀ (r j n : Nat) (g : Nat → Int32) (t : hS) (B : Nat), dH g t (aW t) → aV B t → 13 ≤ B → B + 16 * r < 2 ^ 30 → j + r = 60 → r < n → ∃ M', f_X7_minutesUntilWindow_L38 (nI T) n (oI (aTix T t)) (nI j) (mG M 10 g) = some (match aUntil T r j t with | some m => nI m | none => mI, M') ∧ ∃ g', (∀ k, k < 159 → g' k = M.1 12 k) ∧ M' = (match aUntil T r j t with | some _ => mG M 10 g' | none => sI (mG M 10 g') 9 9 (nI 2)) := by
  intro r
  induction r with
  | zero =>
    intro j n g t B d v hB hB2 e hn
    obtain ⟨n, rfl⟩ : ∃ n', n = n' + 1 := ⟨n - 1, by omega⟩
    have h12 := v.1.1.1.1.1
    have d1 : dH ((mG M 10 g).1 10) t (aW t) := by rw [mG_s]; exact d
    obtain ⟨M', J1, J2⟩ := mp_J (M := M) (j := j) d h12 (aTix T t) (fun i hi => aTix_lt hi)
    rw [f_X7_minutesUntilWindow_L38.eq_2, J1]
    cases e1 : aTix T t with
    | none =>
      rw [oI_n, if_pos rfl, aUntil_none e1]
      rw [e1] at J2
      exact ⟨M', rfl, J2⟩
    | some i =>
      have hi := aTix_lt e1
      rw [e1] at J2
      rw [oI_s, if_neg (pi_ne1 (by omega)), m_atw d1 h12 hi, Option.bind_some, if_pos (show (60 : Int32) ≤ nI j from nI_le (a := 60) (by omega) (by omega)), ite_self]
      obtain ⟨g', a1, a2⟩ := J2
      by_cases z : aW t i = 0
      · rw [aUntil_0 e1 z]
        have a2 : M' = (if aW t i = 0 then sI (mG M 10 g') 9 9 (nI 2) else mG M 10 g') := a2
        rw [if_pos z] at a2
        refine ⟨M', ?_, g', a1, a2⟩
        show some ((if aW t i = 0 then mI else nI j), M') = _
        rw [if_pos z]
      · rw [aUntil_at e1 z]
        have a2 : M' = (if aW t i = 0 then sI (mG M 10 g') 9 9 (nI 2) else mG M 10 g') := a2
        rw [if_neg z] at a2
        refine ⟨M', ?_, g', a1, a2⟩
        show some ((if aW t i = 0 then mI else nI j), M') = _
        rw [if_neg z]
  | succ r ih =>
    intro j n g t B d v hB hB2 e hn
    obtain ⟨n, rfl⟩ : ∃ n', n = n' + 1 := ⟨n - 1, by omega⟩
    have h12 := v.1.1.1.1.1
    have d1 : dH ((mG M 10 g).1 10) t (aW t) := by rw [mG_s]; exact d
    obtain ⟨M', J1, J2⟩ := mp_J (M := M) (j := j) d h12 (aTix T t) (fun i hi => aTix_lt hi)
    rw [f_X7_minutesUntilWindow_L38.eq_2, J1]
    cases e1 : aTix T t with
    | none =>
      rw [oI_n, if_pos rfl, aUntil_none e1]
      rw [e1] at J2
      exact ⟨M', rfl, J2⟩
    | some i =>
      have hi := aTix_lt e1
      rw [e1] at J2
      rw [oI_s, if_neg (pi_ne1 (by omega)), m_atw d1 h12 hi, Option.bind_some, if_neg (show ¬ (60 : Int32) ≤ nI j from nI_ge (b := 60) (by omega) (by decide))]
      by_cases z : aW t i = 0
      · rw [if_pos z, if_pos (show nI 0 = 0 from rfl), aUntil_s e1 z]
        obtain ⟨g1, h1, d2⟩ := m_passes (M := mG M 10 g) d1 v.1
        have v2 := aV_minute v hB
        rw [h1, Option.bind_some, mG_g, m_with (M := mG M 10 g1) (by rw [mG_s]; exact d2) v2.1.1.1.1.1 hT (tix31 v2 (by omega)), Option.bind_some, pi_add1]
        exact ih (j + 1) n g1 (aMinute t) (B + 16) d2 v2 (by omega) (by omega) (by omega) (by omega)
      · rw [if_neg z, if_neg (show ¬ nI 1 = 0 by decide), aUntil_at e1 z]
        obtain ⟨g', a1, a2⟩ := J2
        have a2 : M' = (if aW t i = 0 then sI (mG M 10 g') 9 9 (nI 2) else mG M 10 g') := a2
        rw [if_neg z] at a2
        refine ⟨M', ?_, g', a1, a2⟩
        show some ((if aW t i = 0 then mI else nI j), M') = _
        rw [if_neg z]
theorem mp_minutesUntilWindow {B : Nat} (g : gM M s u H sf sn) (v : aV B s) (hB : 13 ≤ B) (hB2 : B < 2 ^ 29) {a : Int32} : ∃ M', f_X7_minutesUntilWindow a M = some (om (qMi (ix a) s), M') ∧ gM M' s u H sf sn ∧ gL M M' ∧ M'.1 9 9 = nI (qMi (ix a) s).1 := by
  have d1 := d9 g.1
  have hn := v.1.1.1.1.1
  unfold f_X7_minutesUntilWindow qMi
  rw [x_let_e, pi_0]
  by_cases h : ix a < s.1 0
  · have ea := ix_eq (a := a) (by omega)
    rw [if_pos h]
    generalize ix a = x at h ea ⊢
    subst ea
    have tx := tix31 v (by omega) x h
    have e0 : (pIn M).1 10 (27 + 8 * x) = nI (hC s x 0) := by rw [pIn_10]; exact g.1.p0 h
    rw [m_here d1 hn h, Option.bind_some, if_neg (show ¬ nI 1 = nI 0 by decide), m_th, Option.bind_some, f_X7_personAt, Option.bind_some, pi_27, pi_8, pk_mul, nI_add, if_pos (pi_in159 (by omega)), pi_cl (by omega), e0]
    obtain ⟨M', h1, g', h2', h3⟩ := mp_unL (M := pIn M) tx 60 0 xF (M.1 10) s B g.1 v hB (by omega) (by omega) (by rw [xF_2000]; omega)
    have e1 : mG (pIn M) 10 (M.1 10) = pIn M := by rw [← pIn_10, mG_id]
    rw [e1, aTix_self v.1.1.1.2.1 h, oI_s] at h1
    rw [h1]
    obtain ⟨a1, a2, a3⟩ := pIn_ok g v.1.1.1.1 h2'
    cases e : aUntil (hC s x 0) 60 0 s with
    | none =>
      rw [e] at h3
      subst h3
      exact ⟨_, rfl, mp_after a1 a2 2⟩
    | some i =>
      rw [e] at h3
      subst h3
      exact ⟨_, rfl, a1, a2, a3⟩
  · rw [if_neg h, m_herent d1 hn (ix_no (by omega) h), Option.bind_some, if_pos rfl, pi_1, m_throw]
    exact ⟨_, rfl, mp_no g 1⟩
end PF
theorem lc_29 {B : Nat} {M : xM} {sc : Nat → Int32} {L : Nat} {I : Int32} (g : gR B M) (hB : 13 ≤ B) (hB2 : B < 2 ^ 29) (h1 : x_in (I + 1) L = true) : ∃ M', f_law_c29 sc L I M = some M' ∧ gR (B + 400) M' := by
  obtain ⟨s, u, H, sf, sn, ef, fl, Ln, t, O, o, c0, g0, x0, v, vh, vs⟩ := g
  unfold f_law_c29
  obtain ⟨M1, a1, a2, a3, a4⟩ := cp_minutesUntilWindow (a := sc (I + 1).toNatClampNeg) c0 v hB hB2
  rw [if_pos h1, a1, Option.bind_some, if_pos h1]
  obtain ⟨M2, b1, b2, b3, b4⟩ := mp_minutesUntilWindow (a := sc (I + 1).toNatClampNeg) (gM_K g0 a3) v hB hB2
  rw [b1, Option.bind_some]
  exact ⟨M2, lw_cmp b4 qMi_le (fun z => by rw [b3.1]; exact a4 z), lw_p x0 v vh vs a2 a3 b2 b3⟩
theorem lc_30 {B : Nat} {M : xM} {sc : Nat → Int32} {L : Nat} {I : Int32} (g : gR B M) (hB : 13 ≤ B) (hB2 : B < 2 ^ 29) (h1 : x_in (I + 1) L = true) (h2 : x_in (I + 2) L = true) : ∃ M', f_law_c30 sc L I M = some M' ∧ gR (B + 400) M' := by
  obtain ⟨s, u, H, sf, sn, ef, fl, Ln, t, O, o, c0, g0, x0, v, vh, vs⟩ := g
  unfold f_law_c30
  obtain ⟨M1, a1, a2, a3, a4⟩ := cp_patienceAfter (a := sc (I + 1).toNatClampNeg) (c := sc (I + 2).toNatClampNeg) c0 v hB hB2
  rw [if_pos h1, if_pos h2, a1, Option.bind_some, if_pos h1, if_pos h2]
  obtain ⟨M2, b1, b2, b3, b4⟩ := mp_patienceAfter (a := sc (I + 1).toNatClampNeg) (c := sc (I + 2).toNatClampNeg) (gM_K g0 a3) v hB hB2
  rw [b1, Option.bind_some]
  exact ⟨M2, lw_cmp b4 qPa_le (fun z => by rw [b3.1]; exact a4 z), lw_p x0 v vh vs a2 a3 b2 b3⟩
theorem lc_31 {B : Nat} {M : xM} {sc : Nat → Int32} {L : Nat} {I : Int32} (g : gR B M) (h1 : x_in (I + 1) L = true) : ∃ M', f_law_c31 sc L I M = some M' ∧ gR (B + 400) M' := by
  obtain ⟨s, u, H, sf, sn, ef, fl, Ln, t, O, o, c0, g0, x0, v, vh, vs⟩ := g
  unfold f_law_c31
  obtain ⟨M1, a1, a2, a3, a4⟩ := cp_sighsWithin (a := sc (I + 1).toNatClampNeg) c0 v.1.1
  rw [if_pos h1, a1, Option.bind_some, if_pos h1]
  obtain ⟨M2, b1, b2, b3, b4⟩ := mp_sighsWithin (a := sc (I + 1).toNatClampNeg) (gM_K g0 a3) v.1
  rw [b1, Option.bind_some]
  exact ⟨M2, lw_cmp b4 qSg_le (fun z => by rw [b3.1]; exact a4 z), lw_p x0 v vh vs a2 a3 b2 b3⟩
