/-! pure: the queue rendered -/
/-- what rendering asks of a hall -/
def aRn (s : hS) : Prop := aB s ∧ aK s ∧ aF s ∧ ∀ i, i < s.1 0 → hC s i 0 < 10 ^ 8
theorem aRn_of {B : Nat} {s : hS} (v : aV B s) (hB : B < 10 ^ 8) : aRn s := ⟨v.1.1.1.1, v.1.1.1.2.1, v.1.2, fun i hi => by
  have a := (v.1.1.1.2.1.2.1.2 i hi).2
  have b := v.2.2.1 2 (by decide)
  omega⟩
def wP (s : hS) (c : Nat) (w : wT) : wT := if hC s c 5 = 0 then (if hC s c 6 = 0 then wN (hC s c 0) w else wS 95 (wN (hC s c 0) w)) else (if hC s c 6 = 0 then wS 33 (wN (hC s c 0) w) else wS 95 (wS 33 (wN (hC s c 0) w)))
theorem wP_le {s : hS} {c : Nat} {w : wT} (h : hC s c 0 < 10 ^ 8) : (wP s c w).1 ≤ w.1 + 10 := by
  have := (nDg_sp h).2.2.2
  unfold wP wS wN
  split <;> split <;> (dsimp only; omega)
def wQ (s : hS) : Nat → Nat → wT → wT
  | 0, _, w => w
  | m + 1, k, w => wQ s m (k + 1) (wP s (hQ s k) (if k = 0 then w else wS 32 w))
section RD
variable {M : xM} {s : hS} {u : Nat} {H : Nat → hS} {sf : Nat} {sn : hS} {w : wT}
theorem c_P (g : gC M s u H sf sn) (b : cW M w) (ab : aB s) {c : Nat} (hc : c < 12) (ht : hC s c 0 < 10 ^ 8) (hL : w.1 + 10 ≤ 142) : ∃ M', f_X6_writeQueued (M.2.1 (M.2.1 0 0 + 1) c) M = some M' ∧ cW M' (wP s c w) ∧ sBF 6 M M' := by
  have r := g.r
  obtain ⟨d, hd, ea⟩ := r.cc hc
  obtain ⟨x1, x2, x3⟩ := x5_is g.k0
  have f0 : M.1 (M.2.1 (M.2.1 0 0 + 1) c) 0 = nI (hC s c 0) := r.c hc (by decide)
  have f5 : M.1 (M.2.1 (M.2.1 0 0 + 1) c) 5 = nI (hC s c 5) := r.c hc (by decide)
  have f6 : M.1 (M.2.1 (M.2.1 0 0 + 1) c) 6 = nI (hC s c 6) := r.c hc (by decide)
  have l5 := r.b5 hc
  have l6 := r.b6 hc
  have n8 := (nDg_sp ht).2.2.2
  generalize M.2.1 (M.2.1 0 0 + 1) c = a at *
  have ha : a ≠ 6 ∧ a ≠ 6 + 1 := by omega
  unfold f_X6_writeQueued wP
  obtain ⟨M1, e1, b1, g1⟩ := c_N b ht (by omega)
  have h5 : M1.1 a 5 = nI (hC s c 5) := by rw [(g1.1 a ha.1 ha.2).1]; exact f5
  have h6 : M1.1 a 6 = nI (hC s c 6) := by rw [(g1.1 a ha.1 ha.2).1]; exact f6
  have hw1 : (wN (hC s c 0) w).1 = w.1 + nDg (hC s c 0) := rfl
  rw [f0, e1, Option.bind_some, h5, h6]
  by_cases z5 : hC s c 5 = 0
  · rw [if_pos (show nI (hC s c 5) = 0 by rw [z5]; rfl), if_pos z5]
    by_cases z6 : hC s c 6 = 0
    · rw [if_pos (show nI (hC s c 6) = 0 by rw [z6]; rfl), if_pos z6]
      exact ⟨M1, rfl, b1, g1⟩
    · obtain ⟨M2, e2, b2, g2⟩ := c_S b1 (ch := 95) (by decide) (by omega)
      have e2 : f_J4_append_cf468 6 (95 : Int32) M1 = some M2 := e2
      rw [if_neg (show ¬ nI (hC s c 6) = 0 from fun x => z6 ((nI_eq (b := 0) (by omega) (by omega)).mp x)), if_neg z6, e2, Option.bind_some]
      exact ⟨M2, rfl, b2, g1.tr g2⟩
  · obtain ⟨M2, e2, b2, g2⟩ := c_S b1 (ch := 33) (by decide) (by omega)
    have e2 : f_J4_append_cf468 6 (33 : Int32) M1 = some M2 := e2
    have h62 : M2.1 a 6 = nI (hC s c 6) := by rw [(g2.1 a ha.1 ha.2).1]; exact h6
    have hw2 : (wS 33 (wN (hC s c 0) w)).1 = w.1 + nDg (hC s c 0) + 1 := rfl
    rw [if_neg (show ¬ nI (hC s c 5) = 0 from fun x => z5 ((nI_eq (b := 0) (by omega) (by omega)).mp x)), if_neg z5, e2, Option.bind_some, h62]
    by_cases z6 : hC s c 6 = 0
    · rw [if_pos (show nI (hC s c 6) = 0 by rw [z6]; rfl), if_pos z6]
      exact ⟨M2, rfl, b2, g1.tr g2⟩
    · obtain ⟨M3, e3, b3, g3⟩ := c_S b2 (ch := 95) (by decide) (by omega)
      have e3 : f_J4_append_cf468 6 (95 : Int32) M2 = some M3 := e3
      rw [if_neg (show ¬ nI (hC s c 6) = 0 from fun x => z6 ((nI_eq (b := 0) (by omega) (by omega)).mp x)), if_neg z6, e3, Option.bind_some]
      exact ⟨M3, rfl, b3, g1.tr (g2.tr g3)⟩
theorem c_rq (rn : aRn s) : ∀ (m k n : Nat) (M : xM) (w : wT), gC M s u H sf sn → cW M w → k + m = s.1 7 → m < n → w.1 ≤ 11 * k → ∃ M', f_X6_renderQueue_L10 n (nI k) M = some (nI (wQ s m k w).1, M') ∧ cW M' (wQ s m k w) ∧ sBF 6 M M'
  | 0, k, n, M, w, g, b, h, hn, hw => by
    obtain ⟨n, rfl⟩ : ∃ n', n = n' + 1 := ⟨n - 1, by omega⟩
    have hq := rn.1.2.1
    rw [f_X6_renderQueue_L10.eq_2, if_pos g.k0, g.r.qn, if_pos (nI_le (by omega) (by omega)), c_len b, Option.bind_some]
    exact ⟨M, rfl, b, sBF.rf⟩
  | m + 1, k, n, M, w, g, b, h, hn, hw => by
    obtain ⟨n, rfl⟩ : ∃ n', n = n' + 1 := ⟨n - 1, by omega⟩
    have hq := rn.1.2.1
    have h12 := rn.1.1
    have qk := rn.2.1.1.1 k (by omega)
    have ht := rn.2.2.2 _ qk
    rw [f_X6_renderQueue_L10.eq_2, if_pos g.k0, g.r.qn, if_neg (nI_ge (by omega) (by omega)), pi_1, nI_add]
    unfold wQ
    by_cases z : k = 0
    · subst z
      have eq0 : M.1 (M.2.1 0 0 + 2) 0 = nI (hQ s 0) := g.r.q (by decide)
      have ck := g.r.ck (i := hQ s 0) (by omega)
      rw [if_pos (show nI 0 ≤ 0 by decide), if_pos g.k0, if_pos g.k0, if_pos (show x_in (nI 0) 12 = true by decide), pi_cl (by decide), eq0, if_pos (pi_in12 (by omega)), pi_cl (by omega), if_pos ck, if_pos rfl]
      obtain ⟨M1, e1, b1, g1⟩ := c_P g b rn.1 (c := hQ s 0) (by omega) ht (by omega)
      rw [e1, Option.bind_some]
      have lw := wP_le (w := w) ht
      obtain ⟨M2, e2, b2, g2⟩ := c_rq rn m 1 n M1 (wP s (hQ s 0) w) (gC_sB (by decide) (by decide) g g1) b1 (by omega) (by omega) (by omega)
      exact ⟨M2, e2, b2, g1.tr g2⟩
    · rw [if_neg (show ¬ nI k ≤ 0 from nI_ge (a := 0) (by omega) (by omega)), if_neg z]
      obtain ⟨M0, e0, b0, g0⟩ := c_S b (ch := 32) (by decide) (by omega)
      have e0 : f_J4_append_cf468 6 (32 : Int32) M = some M0 := e0
      have gg := gC_sB (by decide) (by decide) g g0
      have eqk : M0.1 (M0.2.1 0 0 + 2) k = nI (hQ s k) := gg.r.q (by omega)
      have ck := gg.r.ck (i := hQ s k) (by omega)
      have hw0 : (wS 32 w).1 = w.1 + 1 := rfl
      rw [e0, Option.bind_some, if_pos gg.k0, if_pos gg.k0, if_pos (pi_in12 (by omega)), pi_cl (by omega), eqk, if_pos (pi_in12 (by omega)), pi_cl (by omega), if_pos ck]
      obtain ⟨M1, e1, b1, g1⟩ := c_P gg b0 rn.1 (c := hQ s k) (by omega) ht (by omega)
      rw [e1, Option.bind_some]
      have lw := wP_le (w := wS 32 w) ht
      obtain ⟨M2, e2, b2, g2⟩ := c_rq rn m (k + 1) n M1 (wP s (hQ s k) (wS 32 w)) (gC_sB (by decide) (by decide) gg g1) b1 (by omega) (by omega) (by omega)
      exact ⟨M2, e2, b2, g0.tr (g1.tr g2)⟩
theorem dH_mWF {M' : xM} (d : dH (M.1 10) s (aW s)) (f : mWF M M') : dH (M'.1 10) s (aW s) := by rw [f.2.1 10 (by decide) (by decide)]; exact d
theorem m_P (d : dH (M.1 10) s (aW s)) (b : mW M w) (h12 : s.1 0 ≤ 12) (af : aF s) {c : Nat} (hc : c < s.1 0) (ht : hC s c 0 < 10 ^ 8) (hL : w.1 + 10 ≤ 142) {q8 : Int32} (hq : q8 = nI (27 + 8 * c)) (K : xM → Option (Int32 × xM)) : ∃ M', (if x_in q8 159 = true then (f_X7_writesNumber (M.1 10 q8.toNatClampNeg) M).bind fun q12 => if x_in (q8 + (5 : Int32)) 159 = true then (if (q12.1 10 (q8 + (5 : Int32)).toNatClampNeg) = (1 : Int32) then (f_X7_sign (33 : Int32) q12).bind fun q20 => if x_in (q8 + (4 : Int32)) 159 = true then (if (q20.1 10 (q8 + (4 : Int32)).toNatClampNeg) = (1 : Int32) then (f_X7_sign (95 : Int32) q20).bind fun q24 => K q24 else K q20) else none else if x_in (q8 + (4 : Int32)) 159 = true then (if (q12.1 10 (q8 + (4 : Int32)).toNatClampNeg) = (1 : Int32) then (f_X7_sign (95 : Int32) q12).bind fun q18 => K q18 else K q12) else none) else none else none) = K M' ∧ mW M' (wP s c w) ∧ mWF M M' := by
  subst hq
  obtain ⟨l5, l6⟩ := af c (by omega)
  have n8 := (nDg_sp ht).2.2.2
  have f0 := d.p0 hc
  have hw1 : (wN (hC s c 0) w).1 = w.1 + nDg (hC s c 0) := rfl
  obtain ⟨M1, e1, b1, g1⟩ := m_N b ht (by omega)
  have d1 := dH_mWF d g1
  have f5 := d1.p5 hc
  have f6 := d1.p6 hc
  unfold wP
  rw [show (5 : Int32) = nI 5 from rfl, show (4 : Int32) = nI 4 from rfl, nI_add, nI_add, if_pos (pi_in159 (by omega)), pi_cl (by omega), f0, e1, Option.bind_some, if_pos (pi_in159 (by omega)), pi_cl (by omega), pi_cl (by omega), f5, f6, if_pos (pi_in159 (by omega))]
  by_cases z5 : hC s c 5 = 0
  · rw [if_neg (show ¬ nI (hC s c 5) = 1 by rw [z5]; decide), if_pos z5]
    by_cases z6 : hC s c 6 = 0
    · rw [if_neg (show ¬ nI (hC s c 6) = 1 by rw [z6]; decide), if_pos z6]
      exact ⟨M1, rfl, b1, g1⟩
    · obtain ⟨M2, e2, b2, g2⟩ := m_S b1 (ch := 95) (by omega)
      have e2 : f_X7_sign (95 : Int32) M1 = some M2 := e2
      rw [if_pos (show nI (hC s c 6) = 1 by rw [show hC s c 6 = 1 by omega]; rfl), if_neg z6, e2, Option.bind_some]
      exact ⟨M2, rfl, b2, g1.tr g2⟩
  · obtain ⟨M2, e2, b2, g2⟩ := m_S b1 (ch := 33) (by omega)
    have e2 : f_X7_sign (33 : Int32) M1 = some M2 := e2
    have f62 := (dH_mWF d1 g2).p6 hc
    have hw2 : (wS 33 (wN (hC s c 0) w)).1 = w.1 + nDg (hC s c 0) + 1 := rfl
    rw [if_pos (show nI (hC s c 5) = 1 by rw [show hC s c 5 = 1 by omega]; rfl), if_neg z5, e2, Option.bind_some, if_pos (pi_in159 (by omega)), f62]
    by_cases z6 : hC s c 6 = 0
    · rw [if_neg (show ¬ nI (hC s c 6) = 1 by rw [z6]; decide), if_pos z6]
      exact ⟨M2, rfl, b2, g1.tr g2⟩
    · obtain ⟨M3, e3, b3, g3⟩ := m_S b2 (ch := 95) (by omega)
      have e3 : f_X7_sign (95 : Int32) M2 = some M3 := e3
      rw [if_pos (show nI (hC s c 6) = 1 by rw [show hC s c 6 = 1 by omega]; rfl), if_neg z6, e3, Option.bind_some]
      exact ⟨M3, rfl, b3, g1.tr (g2.tr g3)⟩
theorem m_rq (rn : aRn s) : ∀ (m k n : Nat) (M : xM) (w : wT), dH (M.1 10) s (aW s) → mW M w → k + m = s.1 7 → m < n → w.1 ≤ 11 * k → ∃ M', f_X7_renderQueue_L12 n (nI k) M = some (nI (wQ s m k w).1, M') ∧ mW M' (wQ s m k w) ∧ mWF M M'
  | 0, k, n, M, w, d, b, h, hn, hw => by
    obtain ⟨n, rfl⟩ : ∃ n', n = n' + 1 := ⟨n - 1, by omega⟩
    have hq := rn.1.2.1
    rw [f_X7_renderQueue_L12.eq_2, show (9 : Int32).toNatClampNeg = 9 from rfl, d.qn, if_pos (show x_in 9 159 = true by decide), if_pos (nI_le (by omega) (by omega)), b.1]
    exact ⟨M, rfl, b, mWF.rf⟩
  | m + 1, k, n, M, w, d, b, h, hn, hw => by
    obtain ⟨n, rfl⟩ : ∃ n', n = n' + 1 := ⟨n - 1, by omega⟩
    have hq := rn.1.2.1
    have h12 := rn.1.1
    have qk := rn.2.1.1.1 k (by omega)
    have ht := rn.2.2.2 _ qk
    have eq := d.q (k := k) (by omega)
    have pa : f_X7_personAt (nI (hQ s k)) M = some (nI (27 + 8 * hQ s k)) := by
      unfold f_X7_personAt
      rw [show (27 : Int32) = nI 27 from rfl, show (8 : Int32) = nI 8 from rfl, pk_mul, nI_add]
    rw [f_X7_renderQueue_L12.eq_2, show (9 : Int32).toNatClampNeg = 9 from rfl, d.qn, if_pos (show x_in 9 159 = true by decide), if_neg (nI_ge (by omega) (by omega)), show (123 : Int32) = nI 123 from rfl, nI_add, if_pos (pi_in159 (by omega)), pi_cl (by omega), eq, pa, Option.bind_some, show nI k + 1 = nI (k + 1) from nI_1 k]
    unfold wQ
    by_cases z : k = 0
    · subst z
      rw [if_pos (show nI 0 ≤ 0 by decide), if_pos rfl]
      obtain ⟨M1, e1, b1, g1⟩ := m_P d b h12 rn.2.2.1 qk ht (by omega) rfl (fun q => f_X7_renderQueue_L12 n (nI (0 + 1)) q)
      have lw := wP_le (w := w) ht
      obtain ⟨M2, e2, b2, g2⟩ := m_rq rn m (0 + 1) n M1 (wP s (hQ s 0) w) (dH_mWF d g1) b1 (by omega) (by omega) (by omega)
      exact ⟨M2, e1.trans e2, b2, g1.tr g2⟩
    · rw [if_neg (show ¬ nI k ≤ 0 from nI_ge (a := 0) (by omega) (by omega)), if_neg z]
      obtain ⟨M0, e0, b0, g0⟩ := m_S b (ch := 32) (by omega)
      have e0 : f_X7_sign (32 : Int32) M = some M0 := e0
      have hw0 : (wS 32 w).1 = w.1 + 1 := rfl
      rw [e0, Option.bind_some]
      obtain ⟨M1, e1, b1, g1⟩ := m_P (dH_mWF d g0) b0 h12 rn.2.2.1 qk ht (by omega) rfl (fun q => f_X7_renderQueue_L12 n (nI (k + 1)) q)
      have lw := wP_le (w := wS 32 w) ht
      obtain ⟨M2, e2, b2, g2⟩ := m_rq rn m (k + 1) n M1 (wP s (hQ s k) (wS 32 w)) (dH_mWF (dH_mWF d g0) g1) b1 (by omega) (by omega) (by omega)
      exact ⟨M2, e1.trans e2, b2, g0.tr (g1.tr g2)⟩
end RD
