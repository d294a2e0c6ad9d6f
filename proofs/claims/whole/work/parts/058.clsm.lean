/-! pure: the class's minute -/
theorem aServe_W {s : hS} {c : Nat} : hW (aServe c s) = hW s := by unfold aServe aCalm; split <;> rfl
theorem aServe_Q {s : hS} {c : Nat} : hQ (aServe c s) = hQ s := by unfold aServe aCalm; split <;> rfl
theorem aServe_C {s : hS} {c : Nat} : hC (aServe c s) = hC s := by unfold aServe aCalm; split <;> rfl
theorem aServe_n {s : hS} {c j : Nat} (h3 : j ≠ 3) (h8 : j ≠ 8) : (aServe c s).1 j = s.1 j := by
  unfold aServe aCalm
  split
  · show va_up (va_up s.1 3 (s.1 3 + 1)) 8 _ j = s.1 j
    rw [va_up_ne _ _ h8, va_up_ne _ _ h3]
  · show va_up s.1 3 (s.1 3 + 1) j = s.1 j
    rw [va_up_ne _ _ h3]
theorem aB_serve {s : hS} {c : Nat} (b : aB s) : aB (aServe c s) := by
  unfold aB
  rw [aServe_n (by decide) (by decide), aServe_n (by decide) (by decide), aServe_W, aServe_Q, aServe_C]
  exact b
theorem aOutQ_W {s : hS} {c : Nat} : hW (aOutQ c s) = hW s := by unfold aOutQ; split <;> rfl
theorem aOutW_w {s : hS} {c w f : Nat} (hf : f ≠ 2) : hW (aOutW c s) w f = hW s w f := by
  unfold aOutW
  split
  · exact if_neg (fun z => hf z.2)
  · rfl
theorem aLeave_w {s : hS} {c w f : Nat} (hf : f ≠ 2) : hW (aLeave c s) w f = hW s w f := by
  unfold aLeave
  rw [aRen_w hf, show hW (aDrop c (aOutW c (aOutQ c s))) w f = hW (aOutW c (aOutQ c s)) w f from rfl, aOutW_w hf, aOutQ_W]
theorem uW_s {s : hS} {w f v : Nat} : hW (uW s w f v) w f = v := if_pos ⟨rfl, rfl⟩
theorem uW_f {s : hS} {w f v w' f' : Nat} (h : f' ≠ f) : hW (uW s w f v) w' f' = hW s w' f' := if_neg (fun z => h z.2)
theorem uW_w {s : hS} {w f v w' f' : Nat} (h : w' ≠ w) : hW (uW s w f v) w' f' = hW s w' f' := if_neg (fun z => h z.1)
theorem uC_s {s : hS} {i f v : Nat} : hC (uC s i f v) i f = v := if_pos ⟨rfl, rfl⟩
theorem uC_f {s : hS} {i f v i' f' : Nat} (h : f' ≠ f) : hC (uC s i f v) i' f' = hC s i' f' := if_neg (fun z => h z.2)
theorem uC_i {s : hS} {i f v i' f' : Nat} (h : i' ≠ i) : hC (uC s i f v) i' f' = hC s i' f' := if_neg (fun z => h z.1)
def aTurn0 (c : Nat) (s : hS) : hS := uC s c 4 (hC s c 4 + 1)
def aTurnS (c : Nat) (s : hS) : hS := uC (uC s c 3 (hC s c 3 - 1)) c 1 (hC s c 1 - 1)
def aTurnU (c : Nat) (s : hS) : hS := if 6 ≤ hC s c 3 + 1 then uC (uC s c 3 6) c 6 0 else uC (uC s c 3 (hC s c 3 + 1)) c 6 1
def aTurn (c : Nat) (s : hS) : Nat × hS := if hC s c 6 = 0 then (if hC s c 1 - 1 = 0 then (1, uC (aTurnS c (aTurn0 c s)) c 2 (hC s c 2 + 1)) else (0, aTurnS c (aTurn0 c s))) else (0, aTurnU c (aTurn0 c s))
theorem aTurnS_e {s : hS} {c : Nat} : aTurnS c (aTurn0 c s) = uC (uC (aTurn0 c s) c 3 (hC s c 3 - 1)) c 1 (hC s c 1 - 1) := by
  unfold aTurnS
  rw [show hC (aTurn0 c s) c 3 = hC s c 3 from uC_f (by decide), show hC (aTurn0 c s) c 1 = hC s c 1 from uC_f (by decide)]
section CW4
variable {h : Nat}
theorem c_work {M : xM} {s : hS} {w : Nat} (r : cR h M s) (b : aB s) (hw : w < 3) (ho : 0 < hW s w 0) (hq : hW s w 2 ≠ 0 → s.1 7 < 12) (hn : hW s w 2 ≠ 0 → 0 < hW s w 3) (hc : hW s w 2 ≤ s.1 0) : ∃ M', f_X3_work h (h + 3 + 15 + w) M = some M' ∧ cR h M' (aWork w s) ∧ cF h M M' := by
  have hn12 := b.1
  have b3 := (b.2.2.2.1 w hw).2.2.2
  unfold f_X3_work aWork
  rw [r.w2 hw]
  by_cases g : hW s w 2 = 0
  · rw [if_pos (by rw [eI_n (by omega)]; exact g), if_pos g]
    exact c_tick r b hw ho hq
  · rw [if_neg (by rw [eI_n (by omega)]; exact g), if_neg g]
    have r1 := r.uWn (w := w) (f := 3) (v := hW s w 3 - 1) hw (by decide)
    have b1 : aB (uW s w 3 (hW s w 3 - 1)) := aB_uW b (by omega) (by omega) (by omega) (by omega)
    simp only [x_let]
    rw [r.w3 hw, pi_sub1 (hn g), sI_s]
    by_cases g1 : hW s w 3 - 1 = 0
    · rw [if_pos (by rw [pi_z (by omega)]; exact g1), if_pos g1]
      obtain ⟨c, ec⟩ : ∃ c, hW s w 2 = c + 1 := ⟨hW s w 2 - 1, by omega⟩
      rw [r1.w2 hw, uW_f (by decide), ec, eI_s, show c + 1 - 1 = c from rfl, if_pos (pi_in12 (by omega)), pi_cl (by omega), if_pos (r1.ck (by omega))]
      obtain ⟨M2, h1, h2, h3⟩ := c_serve (c := c) r1 (by omega) (by
        have := (b1.2.2.2.2 c (by omega)).2.1
        omega)
      rw [h1, Option.bind_some, h2.w2 hw, aServe_W, uW_f (by decide), ec, eI_s]
      obtain ⟨M3, g1, g2, g3⟩ := c_leave (c := c) h2 (aB_serve b1) (by rw [aServe_n (by decide) (by decide)]; show c < s.1 0; omega)
      rw [g1, Option.bind_some]
      have e0 : hW (aLeave c (aServe c (uW s w 3 (hW s w 3 - 1)))) w 0 = hW s w 0 := by rw [aLeave_w (by decide), aServe_W, uW_f (by decide)]
      obtain ⟨M4, k1, k2, k3⟩ := c_tick (w := w) g2 (aB_leave (aB_serve b1) (by rw [aServe_n (by decide) (by decide)]; show c < s.1 0; omega)) hw (by rw [e0]; exact ho) (fun _ => by
        have := aLeave_7 (s := aServe c (uW s w 3 (hW s w 3 - 1))) (c := c)
        rw [aServe_n (by decide) (by decide)] at this
        exact Nat.lt_of_le_of_lt this (hq g))
      simp only [x_let] at k1
      rw [k1]
      exact ⟨_, rfl, k2, ((cF_I (by omega) (by omega)).tr h3).tr (g3.tr k3)⟩
    · rw [if_neg (by rw [pi_z (by omega)]; exact g1), if_neg g1]
      obtain ⟨M4, k1, k2, k3⟩ := c_tick (w := w) r1 b1 hw (by rw [uW_f (by decide)]; exact ho) (fun _ => hq g)
      simp only [x_let] at k1
      rw [k1]
      exact ⟨_, rfl, k2, (cF_I (by omega) (by omega)).tr k3⟩
theorem pi_lt0 {a : Nat} (ha : a < 2 ^ 31) : ¬ nI a < (0 : Int32) := nI_pos ha
theorem pi_dec0 {a : Nat} (ha : a < 2 ^ 31) : (if (nI a - (1 : Int32)) < (0 : Int32) then (0 : Int32) else (nI a - (1 : Int32))) = nI (a - 1) := by
  by_cases g : a = 0
  · subst g
    rfl
  · rw [pi_sub1 (by omega), if_neg (nI_pos (by omega))]
theorem c_turn {M : xM} {s : hS} {c : Nat} (r : cR h M s) (b : aB s) (hc : c < 12) : ∃ M', f_X2_sighsInMinute (M.2.1 (h + 1) c) M = some (nI (aTurn c s).1, M') ∧ cR h M' (aTurn c s).2 ∧ cF h M M' ∧ M'.2.1 = M.2.1 := by
  obtain ⟨b1, b2, b3⟩ := b.2.2.2.2 c hc
  obtain ⟨d, hd, ed⟩ := r.cc hc
  have b6 := r.b6 hc
  unfold f_X2_sighsInMinute aTurn
  simp only [x_let]
  rw [r.c hc (by decide), pi_add1]
  have r1 := r.uC (i := c) (f := 4) (v := hC s c 4 + 1) hc (by omega)
  have f1 : cF h M (sI M (M.2.1 (h + 1) c) 4 (nI (hC s c 4 + 1))) := cF_I (by omega) (by omega)
  have k1 : (sI M (M.2.1 (h + 1) c) 4 (nI (hC s c 4 + 1))).2.1 = M.2.1 := rfl
  generalize hM1 : sI M (M.2.1 (h + 1) c) 4 (nI (hC s c 4 + 1)) = M1 at r1 f1 k1 ⊢
  rw [← k1]
  rw [← k1] at ed
  rw [r1.c hc (by decide), r1.c hc (by decide), uC_f (by decide), uC_f (by decide)]
  by_cases g : hC s c 6 = 0
  · rw [if_pos (by rw [pi_z (by omega)]; exact g), if_pos g, pi_dec0 (by omega), aTurnS_e]
    have r2 := r1.uC (i := c) (f := 3) (v := hC s c 3 - 1) hc (by omega)
    have f2 : cF h M1 (sI M1 (M1.2.1 (h + 1) c) 3 (nI (hC s c 3 - 1))) := cF_I (by omega) (by omega)
    have k2 : (sI M1 (M1.2.1 (h + 1) c) 3 (nI (hC s c 3 - 1))).2.1 = M1.2.1 := rfl
    generalize hM2 : sI M1 (M1.2.1 (h + 1) c) 3 (nI (hC s c 3 - 1)) = M2 at r2 f2 k2 ⊢
    rw [← k2]
    rw [← k2] at ed
    rw [r2.c hc (by decide), uC_f (by decide), uC_f (by decide), pi_dec0 (by omega)]
    have r3 := r2.uC (i := c) (f := 1) (v := hC s c 1 - 1) hc (by omega)
    have f3 : cF h M2 (sI M2 (M2.2.1 (h + 1) c) 1 (nI (hC s c 1 - 1))) := cF_I (by omega) (by omega)
    have k3 : (sI M2 (M2.2.1 (h + 1) c) 1 (nI (hC s c 1 - 1))).2.1 = M2.2.1 := rfl
    generalize hM3 : sI M2 (M2.2.1 (h + 1) c) 1 (nI (hC s c 1 - 1)) = M3 at r3 f3 k3 ⊢
    rw [← k3]
    rw [← k3] at ed
    rw [r3.c hc (by decide), r3.c hc (by decide), uC_s, uC_f (by decide), uC_f (by decide), uC_f (by decide)]
    by_cases g2 : hC s c 1 - 1 = 0
    · rw [if_pos (show nI (hC s c 1 - 1) ≤ (0 : Int32) by rw [g2]; decide), if_pos g2, pi_add1]
      exact ⟨_, rfl, r3.uC (f := 2) hc (by omega), f1.tr (f2.tr (f3.tr (cF_I (by omega) (by omega)))), rfl⟩
    · rw [if_neg (nI_nle (by omega) (by omega)), if_neg g2]
      exact ⟨_, rfl, r3, f1.tr (f2.tr f3), rfl⟩
  · rw [if_neg (by rw [pi_z (by omega)]; exact g), if_neg g, pi_add1]
    unfold aTurnU
    rw [show hC (aTurn0 c s) c 3 = hC s c 3 from uC_f (by decide)]
    by_cases g3 : 6 ≤ hC s c 3 + 1
    · rw [if_pos g3]
      have e6 : (if (6 : Int32) < nI (hC s c 3 + 1) then (6 : Int32) else nI (hC s c 3 + 1)) = nI 6 := by
        by_cases z : 6 < hC s c 3 + 1
        · rw [if_pos (show (6 : Int32) < nI (hC s c 3 + 1) from nI_lt (a := 6) z (by omega))]; rfl
        · rw [if_neg (show ¬ (6 : Int32) < nI (hC s c 3 + 1) from nI_nlt (a := 6) (by omega) (by omega)), show hC s c 3 + 1 = 6 by omega]
      rw [e6]
      have r2 := r1.uC (i := c) (f := 3) (v := 6) hc (by omega)
      have f2 : cF h M1 (sI M1 (M1.2.1 (h + 1) c) 3 (nI 6)) := cF_I (by omega) (by omega)
      have k2 : (sI M1 (M1.2.1 (h + 1) c) 3 (nI 6)).2.1 = M1.2.1 := rfl
      generalize hM2 : sI M1 (M1.2.1 (h + 1) c) 3 (nI 6) = M2 at r2 f2 k2 ⊢
      rw [← k2]
      rw [← k2] at ed
      rw [r2.c hc (by decide), uC_s, if_pos (by decide)]
      exact ⟨_, rfl, r2.uC (f := 6) (v := 0) hc (by omega), f1.tr (f2.tr (cF_I (by omega) (by omega))), rfl⟩
    · rw [if_neg g3]
      rw [if_neg (show ¬ (6 : Int32) < nI (hC s c 3 + 1) from nI_nlt (a := 6) (by omega) (by omega))]
      have r2 := r1.uC (i := c) (f := 3) (v := hC s c 3 + 1) hc (by omega)
      have f2 : cF h M1 (sI M1 (M1.2.1 (h + 1) c) 3 (nI (hC s c 3 + 1))) := cF_I (by omega) (by omega)
      have k2 : (sI M1 (M1.2.1 (h + 1) c) 3 (nI (hC s c 3 + 1))).2.1 = M1.2.1 := rfl
      generalize hM2 : sI M1 (M1.2.1 (h + 1) c) 3 (nI (hC s c 3 + 1)) = M2 at r2 f2 k2 ⊢
      rw [← k2]
      rw [← k2] at ed
      rw [r2.c hc (by decide), uC_s, if_neg (show ¬ (6 : Int32) ≤ nI (hC s c 3 + 1) from nI_ge (b := 6) (by omega) (by omega))]
      exact ⟨_, rfl, r2.uC (f := 6) (v := 1) hc (by omega), f1.tr (f2.tr (cF_I (by omega) (by omega))), rfl⟩
end CW4
