/-! pure: what the class's hall changes, serving and shutting -/
theorem pi_z {n : Nat} (h : n < 2 ^ 31) : (nI n = 0) = (n = 0) := pi_eq (b := 0) h (by decide)
def aSh (p : Nat) (s : hS) : hS := (s.1, s.2.1, s.2.2.1, s.2.2.2.1, (fun r f => if 1 ≤ r ∧ r ≤ p ∧ f ≤ 1 then s.2.2.2.2 (r - 1) f else s.2.2.2.2 r f))
def aCalm (c : Nat) (s : hS) : hS := if hC s c 2 = 0 then u0 s 8 (s.1 8 + 1) else s
def aServe (c : Nat) (s : hS) : hS := aCalm c (u0 (uL (uL (aSh 5 s) 0 0 (hC s c 0)) 0 1 (hC s c 4)) 3 (s.1 3 + 1))
theorem aSh_0 {s : hS} : aSh 0 s = s := by
  unfold aSh
  have : (fun r f => if 1 ≤ r ∧ r ≤ 0 ∧ f ≤ 1 then s.2.2.2.2 (r - 1) f else s.2.2.2.2 r f) = s.2.2.2.2 := funext fun r => funext fun f => if_neg (by omega)
  rw [this]
theorem aSh_step {s : hS} {p : Nat} : aSh p (uL (uL s (p + 1) 0 (hL s p 0)) (p + 1) 1 (hL s p 1)) = aSh (p + 1) s := by
  unfold aSh uL
  refine congrArg (fun z => (s.1, s.2.1, s.2.2.1, s.2.2.2.1, z)) (funext fun r => funext fun f => ?_)
  show (if 1 ≤ r ∧ r ≤ p ∧ f ≤ 1 then up2 (up2 s.2.2.2.2 (p + 1) 0 (s.2.2.2.2 p 0)) (p + 1) 1 (s.2.2.2.2 p 1) (r - 1) f else up2 (up2 s.2.2.2.2 (p + 1) 0 (s.2.2.2.2 p 0)) (p + 1) 1 (s.2.2.2.2 p 1) r f) = if 1 ≤ r ∧ r ≤ p + 1 ∧ f ≤ 1 then s.2.2.2.2 (r - 1) f else s.2.2.2.2 r f
  unfold up2
  by_cases g : 1 ≤ r ∧ r ≤ p ∧ f ≤ 1
  · rw [if_pos g, if_neg (by omega), if_neg (by omega), if_pos (by omega)]
  · rw [if_neg g]
    by_cases g2 : r = p + 1
    · subst g2
      by_cases f0 : f = 0
      · subst f0
        rw [if_neg (by omega), if_pos ⟨rfl, rfl⟩, if_pos (by omega)]
        rfl
      · by_cases f1 : f = 1
        · subst f1
          rw [if_pos ⟨rfl, rfl⟩, if_pos (by omega)]
          rfl
        · rw [if_neg (by omega), if_neg (by omega), if_neg (by omega)]
    · rw [if_neg (by omega), if_neg (by omega), if_neg (by omega)]
section CW3
variable {h : Nat}
theorem c_serveL {c : Nat} (hc : c < 12) : ∀ (p n : Nat) (M : xM) (s : hS), cR h M s → hC s c 2 < 2 ^ 31 → p < 6 → p < n → ∃ M', f_X3_recordServed_L2 h (M.2.1 (h + 1) c) n (nI p) M = some M' ∧ cR h M' (aCalm c (u0 (uL (uL (aSh p s) 0 0 (hC s c 0)) 0 1 (hC s c 4)) 3 (s.1 3 + 1))) ∧ cF h M M'
  | 0, n, M, s, r, hs, hp, hn => by
    obtain ⟨n, rfl⟩ : ∃ n', n = n' + 1 := ⟨n - 1, by omega⟩
    obtain ⟨d, hd, ed⟩ := r.cc hc
    unfold f_X3_recordServed_L2
    simp only [x_let]
    rw [if_pos (show nI 0 ≤ (0 : Int32) by decide), if_pos (show x_in 0 6 = true by decide), if_pos (show x_in 0 6 = true by decide)]
    rw [r.c hc (by decide), pi_cl0]
    have r1 := r.uL0 (k := 0) (v := hC s c 0)
    rw [show M.2.1 (h + 1) c = (sI M (h + 4) 0 (nI (hC s c 0))).2.1 (h + 1) c from rfl, r1.c hc (by decide)]
    have r2 := r1.uL1 (k := 0) (v := hC s c 4)
    have r3 := r2.u0 (j := 3) (v := s.1 3 + 1) (by decide)
    have e9 := r2.sc (j := 3) (by decide)
    rw [show hix 3 = 9 from rfl] at e9 r3
    rw [show hC (uL s 0 0 (hC s c 0)) c 4 = hC s c 4 from rfl, e9, pi_add1]
    have e2 := r3.c (f := 2) hc (by decide)
    have ee : (uL (uL s 0 0 (hC s c 0)) 0 1 (hC s c 4)).1 3 = s.1 3 := rfl
    rw [ee]
    have e2 : (sI (sI (sI M (h + 4) 0 (nI (hC s c 0))) (h + 5) 0 (nI (hC s c 4))) h 9 (nI (s.1 3 + 1))).1 ((sI M (h + 4) 0 (nI (hC s c 0))).2.1 (h + 1) c) 2 = nI (hC s c 2) := e2
    rw [e2, aSh_0]
    have f3 : cF h M (sI (sI (sI M (h + 4) 0 (nI (hC s c 0))) (h + 5) 0 (nI (hC s c 4))) h 9 (nI (s.1 3 + 1))) := ((cF_I (by omega) (by omega)).tr (cF_I (by omega) (by omega))).tr (cF_I (by omega) (by omega))
    unfold aCalm
    rw [show hC (u0 (uL (uL s 0 0 (hC s c 0)) 0 1 (hC s c 4)) 3 (s.1 3 + 1)) c 2 = hC s c 2 from rfl]
    by_cases g : hC s c 2 = 0
    · rw [if_pos (by rw [pi_z hs]; exact g), if_pos g]
      have e10 := r3.sc (j := 8) (by decide)
      rw [show hix 8 = 10 from rfl] at e10
      rw [e10, pi_add1]
      exact ⟨_, rfl, r3.u0 (j := 8) (by decide), f3.tr (cF_I (by omega) (by omega))⟩
    · rw [if_neg (by rw [pi_z hs]; exact g), if_neg g]
      exact ⟨_, rfl, r3, f3⟩
  | p + 1, n, M, s, r, hs, hp, hn => by
    obtain ⟨n, rfl⟩ : ∃ n', n = n' + 1 := ⟨n - 1, by omega⟩
    unfold f_X3_recordServed_L2
    simp only [x_let]
    rw [if_neg (show ¬ nI (p + 1) ≤ (0 : Int32) from nI_nle (by omega) (by omega)), pi_sub1 (by omega), pi_m1 (by omega), show p + 1 - 1 = p from rfl, if_pos (pi_in6 (by omega)), if_pos (pi_in6 (by omega)), if_pos (pi_in6 (by omega)), if_pos (pi_in6 (by omega)), pi_cl (by omega), pi_cl (by omega)]
    rw [r.l0 (by omega)]
    have r1 := r.uL0 (k := p + 1) (v := hL s p 0)
    rw [r1.l1 (by omega), show hL (uL s (p + 1) 0 (hL s p 0)) p 1 = hL s p 1 from if_neg (by omega)]
    have r2 := r1.uL1 (k := p + 1) (v := hL s p 1)
    obtain ⟨M', h1, h2, h3⟩ := c_serveL hc p n _ _ r2 hs (by omega) (by omega)
    refine ⟨M', h1, ?_, ((cF_I (by omega) (by omega)).tr (cF_I (by omega) (by omega))).tr h3⟩
    rw [aSh_step] at h2
    exact h2
theorem c_serve {M : xM} {s : hS} {c : Nat} (r : cR h M s) (hc : c < 12) (hs : hC s c 2 < 2 ^ 31) : ∃ M', f_X3_recordServed h (M.2.1 (h + 1) c) M = some M' ∧ cR h M' (aServe c s) ∧ cF h M M' := by
  unfold f_X3_recordServed
  exact c_serveL hc 5 xF M s r hs (by decide) (by rw [xF_2000]; omega)
def aShut (w : Nat) (s : hS) : hS := if hW s w 2 = 0 then uW s w 0 0 else uW (aFront (hW s w 2 - 1) (uW s w 0 0)) w 2 0
theorem c_shut {M : xM} {s : hS} {w : Nat} (r : cR h M s) (hw : w < 3) (hv : hW s w 2 < 2 ^ 31) (hq : hW s w 2 ≠ 0 → s.1 7 < 12) : ∃ M', f_X3_shut h (h + 3 + 15 + w) M = some M' ∧ cR h M' (aShut w s) ∧ cF h M M' := by
  unfold f_X3_shut aShut
  simp only [x_let]
  have r1 := r.uWn (w := w) (f := 0) (v := 0) hw (by decide)
  rw [pi_0, r1.w2 hw, show hW (uW s w 0 0) w 2 = hW s w 2 from if_neg (by omega)]
  by_cases g : hW s w 2 = 0
  · rw [if_pos (by rw [eI_n hv]; exact g), if_pos g]
    exact ⟨_, rfl, r1, cF_I (by omega) (by omega)⟩
  · rw [if_neg (by rw [eI_n hv]; exact g), if_neg g]
    obtain ⟨c, hc⟩ : ∃ c, hW s w 2 = c + 1 := ⟨hW s w 2 - 1, by omega⟩
    rw [hc, eI_s]
    obtain ⟨M', h1, h2, h3⟩ := c_front (c := c) r1 (hq g)
    rw [h1]
    refine ⟨_, rfl, ?_, ((cF_I (by omega) (by omega)).tr h3).tr (cF_I (by omega) (by omega))⟩
    have := h2.uWe (w := w) (v := 0) hw
    rw [eI_0] at this
    exact this
def aTick (w : Nat) (s : hS) : hS := if hW s w 0 - 1 = 0 then aShut w (uW s w 0 (hW s w 0 - 1)) else uW s w 0 (hW s w 0 - 1)
def aWork (w : Nat) (s : hS) : hS := if hW s w 2 = 0 then aTick w s else if hW s w 3 - 1 = 0 then aTick w (aLeave (hW s w 2 - 1) (aServe (hW s w 2 - 1) (uW s w 3 (hW s w 3 - 1)))) else aTick w (uW s w 3 (hW s w 3 - 1))
theorem c_tick {M : xM} {s : hS} {w : Nat} (r : cR h M s) (b : aB s) (hw : w < 3) (ho : 0 < hW s w 0) (hq : hW s w 2 ≠ 0 → s.1 7 < 12) : ∃ M', (x_let (sI M (h + 3 + 15 + w) 0 ((M.1 (h + 3 + 15 + w) 0) - (1 : Int32))) fun M2 => (if (M2.1 (h + 3 + 15 + w) 0) = 0 then (f_X3_shut h (h + 3 + 15 + w) M2).bind fun q5 => some q5 else some M2)) = some M' ∧ cR h M' (aTick w s) ∧ cF h M M' := by
  simp only [x_let]
  have bo := (b.2.2.2.1 w hw).1
  rw [r.w0 hw, pi_sub1 ho, sI_s]
  have r1 := r.uWn (w := w) (f := 0) (v := hW s w 0 - 1) hw (by decide)
  unfold aTick
  by_cases g : hW s w 0 - 1 = 0
  · rw [if_pos (by rw [pi_z (by omega)]; exact g), if_pos g]
    obtain ⟨M', h1, h2, h3⟩ := c_shut (w := w) r1 hw (by
      show up2 s.2.2.1 w 0 _ w 2 < _
      unfold up2
      rw [if_neg (by omega)]
      exact b.w31 w hw) (fun z => hq (by
      have e : hW (uW s w 0 (hW s w 0 - 1)) w 2 = hW s w 2 := if_neg (by omega)
      rw [e] at z
      exact z))
    rw [h1]
    exact ⟨_, rfl, h2, (cF_I (by omega) (by omega)).tr h3⟩
  · rw [if_neg (by rw [pi_z (by omega)]; exact g), if_neg g]
    exact ⟨_, rfl, r1, cF_I (by omega) (by omega)⟩
end CW3
