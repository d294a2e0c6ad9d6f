/-! pure: the minute -/
def aWaitY (p : Nat) (s : hS) : hS := if (aTurn (hQ s p) s).1 = 0 then (aTurn (hQ s p) s).2 else u0 (aTurn (hQ s p) s).2 6 ((aTurn (hQ s p) s).2.1 6 + 1)
def aWaitG (c : Nat) (s : hS) : hS := aLeave c (u0 s 5 (s.1 5 + 1))
def aWaitS (p : Nat) (s : hS) : Nat × hS := if hC (aWaitY p s) (hQ s p) 2 < 3 then (p + 1, aWaitY p s) else (p, aWaitG (hQ s p) (aWaitY p s))
def aWaitL : Nat → Nat → hS → hS
  | 0, _, s => s
  | m + 1, p, s => aWaitL m (aWaitS p s).1 (aWaitS p s).2
def aWait (s : hS) : hS := aWaitL (s.1 7) 0 s
def aI (s : hS) : Prop := aB s ∧ aK s ∧ aK10 s
theorem aK_u0 {s : hS} {j v : Nat} (k : aK s) (h0 : j ≠ 0) (h2 : j ≠ 2) (h7 : j ≠ 7) : aK (u0 s j v) := aK_cg k (va_up_ne _ _ (Ne.symm h0)) (Nat.le_of_eq (va_up_ne _ _ (Ne.symm h2)).symm) (va_up_ne _ _ (Ne.symm h7)) (fun _ _ => rfl) (fun _ _ => rfl) (fun _ _ => ⟨rfl, id, id⟩) k.2.2.2
theorem u0_n {s : hS} {j v i : Nat} (h : i ≠ j) : (u0 s j v).1 i = s.1 i := va_up_ne _ _ h
theorem u0_s {s : hS} {j v : Nat} : (u0 s j v).1 j = v := va_up_self s.1 j v
theorem aWaitY_C {s : hS} {p : Nat} : hC (aWaitY p s) = hC (aTurn (hQ s p) s).2 := by unfold aWaitY; split <;> rfl
theorem aWaitY_n {s : hS} {p j : Nat} (h : j ≠ 6) : (aWaitY p s).1 j = s.1 j := by
  unfold aWaitY
  split
  · rw [aTurn_1]
  · rw [u0_n h, aTurn_1]
theorem aWaitY_Q {s : hS} {p : Nat} : hQ (aWaitY p s) = hQ s := by
  unfold aWaitY
  split
  · rw [aTurn_Q]
  · show hQ (aTurn (hQ s p) s).2 = _
    rw [aTurn_Q]
theorem aWaitY_W {s : hS} {p : Nat} : hW (aWaitY p s) = hW s := by
  unfold aWaitY
  split
  · rw [aTurn_W]
  · show hW (aTurn (hQ s p) s).2 = _
    rw [aTurn_W]
theorem aK_waitY {s : hS} {p : Nat} (k : aK s) : aK (aWaitY p s) := by
  unfold aWaitY
  split
  · exact aK_turn k
  · exact aK_u0 (aK_turn k) (by decide) (by decide) (by decide)
theorem aB_waitY {s : hS} {p : Nat} (b : aB s) (hc : hQ s p < 12) (h2 : hC s (hQ s p) 2 ≤ 2) : aB (aWaitY p s) := by
  unfold aWaitY
  split
  · exact aB_turn b hc h2
  · exact aB_u0 (aB_turn b hc h2) (by omega)
/-- one customer's step keeps it all, and the queue behind stays as long -/
theorem aWaitS_ok {s : hS} {p : Nat} (i : aI s) (hp : p < s.1 7) : aI (aWaitS p s).2 ∧ (aWaitS p s).2.1 7 + (aWaitS p s).1 = s.1 7 + p + (if (aWaitS p s).1 = p then 0 else 1) - (if (aWaitS p s).1 = p then 1 else 0) ∧ ((aWaitS p s).1 = p ∨ (aWaitS p s).1 = p + 1) := by
  obtain ⟨b, k, k10⟩ := i
  have hcn := k.1.1 p hp
  have h12 := b.1
  have h2 := k10 _ hcn
  have by_ := aB_waitY (p := p) b (by omega) h2
  have ky := aK_waitY (p := p) k
  have oth : ∀ j, j ≠ hQ s p → hC (aWaitY p s) j 2 = hC s j 2 := fun j hj => by rw [aWaitY_C]; exact aTurn_C (.inl hj)
  unfold aWaitS
  split
  · next g =>
    refine ⟨⟨by_, ky, fun j hj => ?_⟩, ?_, .inr rfl⟩
    · show hC (aWaitY p s) j 2 ≤ 2
      have hj : j < (aWaitY p s).1 0 := hj
      rw [aWaitY_n (by decide)] at hj
      by_cases e : j = hQ s p
      · rw [e]; omega
      · rw [oth j e]; exact k10 j hj
    · show (aWaitY p s).1 7 + (p + 1) = s.1 7 + p + (if p + 1 = p then 0 else 1) - (if p + 1 = p then 1 else 0)
      rw [aWaitY_n (by decide), if_neg (by omega), if_neg (by omega)]
      omega
  · next g =>
    have ku : aK (u0 (aWaitY p s) 5 ((aWaitY p s).1 5 + 1)) := aK_u0 ky (by decide) (by decide) (by decide)
    have hn : (u0 (aWaitY p s) 5 ((aWaitY p s).1 5 + 1)).1 0 = s.1 0 := by rw [u0_n (by decide), aWaitY_n (by decide)]
    have h7 : (u0 (aWaitY p s) 5 ((aWaitY p s).1 5 + 1)).1 7 = s.1 7 := by rw [u0_n (by decide), aWaitY_n (by decide)]
    refine ⟨⟨aB_leave (aB_u0 by_ (by omega)) (by rw [hn]; exact hcn), aK_leave ku (by rw [hn]; exact hcn), aS_leave fun j hj hne => ?_⟩, ?_, .inl rfl⟩
    · rw [hn] at hj
      show hC (aWaitY p s) j 2 ≤ 2
      rw [oth j hne]
      exact k10 j hj
    · show (aWaitG (hQ s p) (aWaitY p s)).1 7 + p = s.1 7 + p + (if p = p then 0 else 1) - (if p = p then 1 else 0)
      rw [if_pos rfl, if_pos rfl]
      unfold aWaitG
      rcases aLeave_Q ku (c := hQ s p) (by rw [hn]; exact hcn) with ⟨r, hr, -, e, -⟩ | ⟨w, hw, e, -⟩
      · rw [e, h7]; omega
      · exfalso
        have e : hW (aWaitY p s) w 2 = hQ s p + 1 := e
        rw [aWaitY_W] at e
        exact k.1.2.2.2.2.1 p w hp hw e
section CW5
variable {h : Nat}
theorem c_waitL {q : Nat} (hq : q ≤ 12) : ∀ (m p v n : Nat) (M : xM) (s : hS), cR h M s → aI s → p + m = s.1 7 → v + m = q → m < n → ∃ M', f_X3_waitInQueue_L9 h (nI q) n (nI p) (nI v) M = some M' ∧ cR h M' (aWaitL m p s) ∧ cF h M M' ∧ aI (aWaitL m p s)
  | 0, p, v, n, M, s, r, i, e, e2, hn => by
    obtain ⟨n, rfl⟩ : ∃ n', n = n' + 1 := ⟨n - 1, by omega⟩
    unfold f_X3_waitInQueue_L9
    rw [if_pos (nI_le (by omega) (by omega))]
    exact ⟨M, rfl, r, cF.rf, i⟩
  | m + 1, p, v, n, M, s, r, i, e, e2, hn => by
    obtain ⟨n, rfl⟩ : ∃ n', n = n' + 1 := ⟨n - 1, by omega⟩
    have hp : p < s.1 7 := by omega
    have ok := aWaitS_ok i hp
    obtain ⟨b, k, k10⟩ := i
    have h7 := b.2.1
    have hcn := k.1.1 p hp
    have h12 := b.1
    have h2 := k10 _ hcn
    unfold f_X3_waitInQueue_L9
    simp only [x_let]
    rw [if_neg (nI_ge (by omega) (by omega)), if_pos (pi_in12 (by omega)), pi_cl (by omega), r.q (by omega), if_pos (pi_in12 (by omega)), pi_cl (by omega), if_pos (r.ck (by omega)), pi_add1, pi_add1]
    obtain ⟨M1, h1, r1, f1, k1⟩ := c_turn (c := hQ s p) r b (by omega)
    have b1 := aB_turn (c := hQ s p) b (by omega) h2
    rw [h1, Option.bind_some, k1]
    have y1 := aTurn_y (s := s) (c := hQ s p)
    have c2 := aTurn_C2 (s := s) (c := hQ s p)
    have ecell : M.2.1 (h + 1) (hQ s p) = M1.2.1 (h + 1) (hQ s p) := by rw [k1]
    have leaveE : ∀ M2 : xM, cR h M2 (aWaitY p s) → M2.2.1 = M1.2.1 → cF h M M2 → aB (aWaitY p s) → ¬ hC (aWaitY p s) (hQ s p) 2 < 3 → ∃ M', ((f_X3_leave h (nI (hQ s p)) (sI M2 h 11 ((M2.1 h 11) + (1 : Int32)))).bind fun q13 => f_X3_waitInQueue_L9 h (nI q) n (nI p) (nI (v + 1)) q13) = some M' ∧ cR h M' (aWaitL (m + 1) p s) ∧ cF h M M' ∧ aI (aWaitL (m + 1) p s) := fun M2 r2 e3 f2 b2 g => by
      have e5 := r2.sc (j := 5) (by decide)
      rw [show hix 5 = 11 from rfl] at e5
      rw [e5, pi_add1]
      obtain ⟨M3, g1, r3, f3⟩ := c_leave (c := hQ s p) (r2.u0 (j := 5) (v := (aWaitY p s).1 5 + 1) (by decide)) (aB_u0 b2 (by omega)) (by rw [u0_n (by decide), aWaitY_n (by decide)]; exact hcn)
      have g1 : f_X3_leave h (nI (hQ s p)) (sI M2 h 11 (nI ((aWaitY p s).1 5 + 1))) = some M3 := g1
      rw [g1, Option.bind_some]
      have es : aWaitS p s = (p, aWaitG (hQ s p) (aWaitY p s)) := by unfold aWaitS; exact if_neg g
      rw [es] at ok
      obtain ⟨i3, o2, -⟩ := ok
      rw [if_pos rfl, if_pos rfl] at o2
      obtain ⟨M4, j1, j2, j3, j4⟩ := c_waitL hq m p (v + 1) n M3 _ r3 i3 (by have o2 : (aWaitG (hQ s p) (aWaitY p s)).1 7 + p = s.1 7 + p + 0 - 1 := o2; show p + m = (aWaitG (hQ s p) (aWaitY p s)).1 7; omega) (by omega) (by omega)
      unfold aWaitL
      rw [es]
      exact ⟨M4, j1, j2, (f2.tr (cF_I (by omega) (by omega))).tr (f3.tr j3), j4⟩
    have stayE : ∀ M2 : xM, cR h M2 (aWaitY p s) → cF h M M2 → hC (aWaitY p s) (hQ s p) 2 < 3 → ∃ M', f_X3_waitInQueue_L9 h (nI q) n (nI (p + 1)) (nI (v + 1)) M2 = some M' ∧ cR h M' (aWaitL (m + 1) p s) ∧ cF h M M' ∧ aI (aWaitL (m + 1) p s) := fun M2 r2 f2 g => by
      have es : aWaitS p s = (p + 1, aWaitY p s) := by unfold aWaitS; exact if_pos g
      rw [es] at ok
      obtain ⟨M4, j1, j2, j3, j4⟩ := c_waitL hq m (p + 1) (v + 1) n M2 _ r2 ok.1 (by show p + 1 + m = (aWaitY p s).1 7; rw [aWaitY_n (by decide)]; omega) (by omega) (by omega)
      unfold aWaitL
      rw [es]
      exact ⟨M4, j1, j2, f2.tr j3, j4⟩
    have by_ := aB_waitY (p := p) b (by omega) h2
    by_cases g : (aTurn (hQ s p) s).1 = 0
    · have ey : aWaitY p s = (aTurn (hQ s p) s).2 := by unfold aWaitY; exact if_pos g
      rw [if_pos (by show nI (aTurn (hQ s p) s).1 = 0; rw [g]; rfl), if_pos (pi_in12 (by omega)), if_pos (by have := r.ck (i := hQ s p) (by omega); exact this), ecell, r1.c (by omega) (by decide)]
      rw [← ey] at r1
      by_cases g2 : hC (aWaitY p s) (hQ s p) 2 < 3
      · rw [← ey, if_pos (show nI (hC (aWaitY p s) (hQ s p) 2) < (3 : Int32) from nI_lt (b := 3) g2 (by omega))]
        exact stayE M1 r1 f1 g2
      · rw [← ey, if_neg (show ¬ nI (hC (aWaitY p s) (hQ s p) 2) < (3 : Int32) from nI_nlt (b := 3) (by omega) (by rw [ey, c2]; omega))]
        exact leaveE M1 r1 rfl f1 by_ g2
    · have ey : aWaitY p s = u0 (aTurn (hQ s p) s).2 6 ((aTurn (hQ s p) s).2.1 6 + 1) := by unfold aWaitY; exact if_neg g
      rw [if_neg (show ¬ nI (aTurn (hQ s p) s).1 = 0 by rw [pi_z (by omega)]; exact g)]
      have e6 := r1.sc (j := 6) (by decide)
      rw [show hix 6 = 13 from rfl] at e6
      have r2 := r1.u0 (j := 6) (v := (aTurn (hQ s p) s).2.1 6 + 1) (by decide)
      have f2 : cF h M (sI M1 h 13 (nI ((aTurn (hQ s p) s).2.1 6 + 1))) := f1.tr (cF_I (by omega) (by omega))
      rw [← ey] at r2
      rw [show hix 6 = 13 from rfl] at r2
      rw [e6, pi_add1]
      have k2 : (sI M1 h 13 (nI ((aTurn (hQ s p) s).2.1 6 + 1))).2.1 = M1.2.1 := rfl
      generalize sI M1 h 13 (nI ((aTurn (hQ s p) s).2.1 6 + 1)) = M2 at r2 f2 k2 ⊢
      rw [if_pos (pi_in12 (by omega)), if_pos (r2.ck (by omega)), r2.c (by omega) (by decide)]
      by_cases g2 : hC (aWaitY p s) (hQ s p) 2 < 3
      · rw [if_pos (show nI (hC (aWaitY p s) (hQ s p) 2) < (3 : Int32) from nI_lt (b := 3) g2 (by omega))]
        exact stayE M2 r2 f2 g2
      · rw [if_neg (show ¬ nI (hC (aWaitY p s) (hQ s p) 2) < (3 : Int32) from nI_nlt (b := 3) (by omega) (by rw [aWaitY_C, c2]; omega))]
        exact leaveE M2 r2 k2 f2 by_ g2
theorem c_wait {M : xM} {s : hS} (r : cR h M s) (i : aI s) : ∃ M', f_X3_waitInQueue h M = some M' ∧ cR h M' (aWait s) ∧ cF h M M' ∧ aI (aWait s) := by
  unfold f_X3_waitInQueue
  rw [r.qn]
  exact c_waitL i.1.2.1 (s.1 7) 0 0 xF M s r i (by omega) (by omega) (by rw [xF_2000]; have := i.1.2.1; omega)
end CW5
