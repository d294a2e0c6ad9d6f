/-! pure: what the class's hall changes, second half -/
def aB (s : hS) : Prop := s.1 0 ≤ 12 ∧ s.1 7 ≤ 12 ∧ (∀ k, k < 12 → hQ s k < 12) ∧ (∀ w, w < 3 → hW s w 0 ≤ 99 ∧ hW s w 1 ≤ 9 ∧ hW s w 2 ≤ 12 ∧ hW s w 3 ≤ 9) ∧ (∀ i, i < 12 → hC s i 1 ≤ 30 ∧ hC s i 2 ≤ 3 ∧ hC s i 3 ≤ 6)
theorem aB.q31 {s : hS} (b : aB s) : ∀ k, k < s.1 7 → hQ s k < 2 ^ 31 := fun k hk => by
  have := b.2.2.1 k (by have := b.2.1; omega)
  omega
theorem aB.w31 {s : hS} (b : aB s) : ∀ w, w < 3 → hW s w 2 < 2 ^ 31 := fun w hw => by
  have := (b.2.2.2.1 w hw).2.2.1
  omega
theorem aB.o31 {s : hS} (b : aB s) : ∀ w, w < 3 → hW s w 0 < 2 ^ 31 := fun w hw => by
  have := (b.2.2.2.1 w hw).1
  omega
theorem aB_u0 {s : hS} {j v : Nat} (b : aB s) (h0 : j = 0 ∨ j = 7 → v ≤ 12) : aB (u0 s j v) := by
  refine ⟨?_, ?_, b.2.2.1, b.2.2.2.1, b.2.2.2.2⟩
  · show va_up s.1 j v 0 ≤ 12
    by_cases e : 0 = j
    · rw [← e, va_up_self]; exact h0 (.inl e.symm)
    · rw [va_up_ne _ _ e]; exact b.1
  · show va_up s.1 j v 7 ≤ 12
    by_cases e : 7 = j
    · rw [← e, va_up_self]; exact h0 (.inr e.symm)
    · rw [va_up_ne _ _ e]; exact b.2.1
theorem aB_uQ {s : hS} {k v : Nat} (b : aB s) (hv : v < 12) : aB (uQ s k v) := by
  refine ⟨b.1, b.2.1, fun k' hk => ?_, b.2.2.2.1, b.2.2.2.2⟩
  show va_up s.2.1 k v k' < 12
  by_cases e : k' = k
  · rw [e, va_up_self]; exact hv
  · rw [va_up_ne _ _ e]; exact b.2.2.1 k' hk
theorem aB_uW {s : hS} {w f v : Nat} (b : aB s) (h0 : f = 0 → v ≤ 99) (h1 : f = 1 → v ≤ 9) (h2 : f = 2 → v ≤ 12) (h3 : f = 3 → v ≤ 9) : aB (uW s w f v) := by
  refine ⟨b.1, b.2.1, b.2.2.1, fun w' hw => ?_, b.2.2.2.2⟩
  obtain ⟨a0, a1, a2, a3⟩ := b.2.2.2.1 w' hw
  show up2 s.2.2.1 w f v w' 0 ≤ 99 ∧ up2 s.2.2.1 w f v w' 1 ≤ 9 ∧ up2 s.2.2.1 w f v w' 2 ≤ 12 ∧ up2 s.2.2.1 w f v w' 3 ≤ 9
  unfold up2
  refine ⟨?_, ?_, ?_, ?_⟩ <;> split
  · exact h0 (by omega)
  · exact a0
  · exact h1 (by omega)
  · exact a1
  · exact h2 (by omega)
  · exact a2
  · exact h3 (by omega)
  · exact a3
theorem aB_uC {s : hS} {i f v : Nat} (b : aB s) (h1 : f = 1 → v ≤ 30) (h2 : f = 2 → v ≤ 3) (h3 : f = 3 → v ≤ 6) : aB (uC s i f v) := by
  refine ⟨b.1, b.2.1, b.2.2.1, b.2.2.2.1, fun i' hi => ?_⟩
  obtain ⟨a1, a2, a3⟩ := b.2.2.2.2 i' hi
  show up2 s.2.2.2.1 i f v i' 1 ≤ 30 ∧ up2 s.2.2.2.1 i f v i' 2 ≤ 3 ∧ up2 s.2.2.2.1 i f v i' 3 ≤ 6
  unfold up2
  refine ⟨?_, ?_, ?_⟩ <;> split
  · exact h1 (by omega)
  · exact a1
  · exact h2 (by omega)
  · exact a2
  · exact h3 (by omega)
  · exact a3
theorem aB_take {s : hS} {p : Nat} (b : aB s) : aB (aTake p s) := by
  refine ⟨?_, ?_, fun k hk => ?_, b.2.2.2.1, b.2.2.2.2⟩
  · show va_up s.1 7 (s.1 7 - 1) 0 ≤ 12
    rw [va_up_ne _ _ (by decide)]
    exact b.1
  · show va_up s.1 7 (s.1 7 - 1) 7 ≤ 12
    rw [va_up_self]
    have := b.2.1
    omega
  · show (if p ≤ k ∧ k + 1 < s.1 7 then s.2.1 (k + 1) else s.2.1 k) < 12
    have := b.2.1
    split
    · exact b.2.2.1 (k + 1) (by omega)
    · exact b.2.2.1 k hk
theorem aB_outQ {s : hS} {c : Nat} (b : aB s) : aB (aOutQ c s) := by
  unfold aOutQ
  split
  · exact aB_take b
  · exact b
theorem aB_outW {s : hS} {c : Nat} (b : aB s) : aB (aOutW c s) := by
  unfold aOutW
  split
  · exact aB_uW b (by omega) (by omega) (by omega) (by omega)
  · exact b
theorem aB_drop {s : hS} {c : Nat} (b : aB s) (hc : c < s.1 0) : aB (aDrop c s) := by
  refine ⟨?_, ?_, b.2.2.1, b.2.2.2.1, fun i hi => ?_⟩
  · show va_up s.1 0 (s.1 0 - 1) 0 ≤ 12
    rw [va_up_self]
    have := b.1
    omega
  · show va_up s.1 0 (s.1 0 - 1) 7 ≤ 12
    rw [va_up_ne _ _ (by decide)]
    exact b.2.1
  · exact b.2.2.2.2 _ (pm_lt hc b.1 hi)
theorem aRen_q {s : hS} {c k : Nat} : hQ (aRen c s) k = if k < s.1 7 ∧ c < hQ s k then hQ s k - 1 else hQ s k := by
  have e : hQ (aRen c s) k = if 0 ≤ k ∧ k < s.1 7 ∧ c < s.2.1 k then s.2.1 k - 1 else s.2.1 k := rfl
  rw [e]
  by_cases g : k < s.1 7 ∧ c < s.2.1 k
  · rw [if_pos ⟨Nat.zero_le _, g⟩, if_pos g]
  · rw [if_neg (fun z => g z.2), if_neg g]
theorem aRen_w {s : hS} {c w f : Nat} (hf : f ≠ 2) : hW (aRen c s) w f = hW s w f := by
  have e : hW (aRen c s) w f = if 0 ≤ w ∧ w < 3 ∧ f = 2 ∧ c + 1 < s.2.2.1 w 2 then s.2.2.1 w 2 - 1 else s.2.2.1 w f := rfl
  rw [e, if_neg (fun z => hf z.2.2.1)]
theorem aRen_w2 {s : hS} {c w : Nat} : hW (aRen c s) w 2 = if w < 3 ∧ c + 1 < hW s w 2 then hW s w 2 - 1 else hW s w 2 := by
  have e : hW (aRen c s) w 2 = if 0 ≤ w ∧ w < 3 ∧ 2 = 2 ∧ c + 1 < s.2.2.1 w 2 then s.2.2.1 w 2 - 1 else s.2.2.1 w 2 := rfl
  rw [e]
  by_cases g : w < 3 ∧ c + 1 < s.2.2.1 w 2
  · rw [if_pos ⟨Nat.zero_le _, g.1, rfl, g.2⟩, if_pos g]
  · rw [if_neg (fun z => g ⟨z.2.1, z.2.2.2⟩), if_neg g]
theorem aB_ren {s : hS} {c : Nat} (b : aB s) : aB (aRen c s) := by
  refine ⟨b.1, b.2.1, fun k hk => ?_, fun w hw => ?_, b.2.2.2.2⟩
  · rw [aRen_q]
    have := b.2.2.1 k hk
    split <;> omega
  · obtain ⟨a0, a1, a2, a3⟩ := b.2.2.2.1 w hw
    rw [aRen_w (by decide), aRen_w (by decide), aRen_w2, aRen_w (by decide)]
    refine ⟨a0, a1, ?_, a3⟩
    split <;> omega
theorem aOutQ_0 {s : hS} {c : Nat} : (aOutQ c s).1 0 = s.1 0 := by
  unfold aOutQ
  split
  · next p _ =>
    show va_up s.1 7 (s.1 7 - 1) 0 = s.1 0
    exact va_up_ne _ _ (by decide)
  · rfl
theorem aOutW_1 {s : hS} {c : Nat} : (aOutW c s).1 = s.1 := by
  unfold aOutW
  split <;> rfl
theorem aB_leave {s : hS} {c : Nat} (b : aB s) (hc : c < s.1 0) : aB (aLeave c s) := aB_ren (aB_drop (aB_outW (aB_outQ b)) (by rw [aOutW_1, aOutQ_0]; exact hc))
theorem aLeave_7 {s : hS} {c : Nat} : (aLeave c s).1 7 ≤ s.1 7 := by
  show va_up (aOutW c (aOutQ c s)).1 0 ((aOutW c (aOutQ c s)).1 0 - 1) 7 ≤ _
  rw [va_up_ne _ _ (by decide), aOutW_1]
  unfold aOutQ
  split
  · show va_up s.1 7 (s.1 7 - 1) 7 ≤ _
    rw [va_up_self]; omega
  · exact Nat.le_refl _
theorem oI_n : oI none = -1 := rfl
theorem oI_s (j : Nat) : oI (some j) = nI j := rfl
section CW2
variable {h : Nat}
theorem c_leaveT {M : xM} {s : hS} {c : Nat} (r : cR h M s) (b : aB s) (hc : c < s.1 0) : ∃ M', f_X3_leave_L50 h (nI c) (M.2.1 (h + 1) c) xF (nI (c + 1)) M = some M' ∧ cR h M' (aRen c (aDrop c s)) ∧ cF h M M' := by
  have hn := b.1
  rw [c_dropL (n0 := s.1 0) hn (by omega) (s.1 0 - (c + 1)) (c + 1) xF M r.n (fun x hx => r.ck hx) (by omega) (by omega) (by rw [xF_2000]; omega)]
  have bd := aB_drop b hc
  obtain ⟨M', h1, h2, h3⟩ := c_ren (c := c) (by omega) (c_drop r hc hn) bd.w31 bd.q31 bd.2.1
  exact ⟨M', h1, h2, cF_drop.tr h3⟩
theorem c_leaveW {M : xM} {s : hS} {c : Nat} (r : cR h M s) (b : aB s) (hc : c < s.1 0) : ∃ M', ((f_X3_windowOf h (nI c) M).bind fun q4 => (if q4 = (-1 : Int32) then if x_in (nI c) 12 = true then if xkd (M.2.1 (h + 1) (nI c).toNatClampNeg) = 4 then f_X3_leave_L50 h (nI c) (M.2.1 (h + 1) (nI c).toNatClampNeg) xF ((nI c) + (1 : Int32)) M else none else none else if x_in q4 3 = true then if xkd (h + 3 + 15 + q4.toNatClampNeg) = 7 then x_let (sI M (h + 3 + 15 + q4.toNatClampNeg) 2 (-1 : Int32)) fun M24 => if x_in (nI c) 12 = true then if xkd (M24.2.1 (h + 1) (nI c).toNatClampNeg) = 4 then f_X3_leave_L50 h (nI c) (M24.2.1 (h + 1) (nI c).toNatClampNeg) xF ((nI c) + (1 : Int32)) M24 else none else none else none else none)) = some M' ∧ cR h M' (aRen c (aDrop c (aOutW c s))) ∧ cF h M M' := by
  have hn := b.1
  have hc12 : c < 12 := by omega
  rw [c_wof r (by omega) b.w31, Option.bind_some, pi_cl (by omega), pi_add1, if_pos (pi_in12 hc12), if_pos (r.ck hc12)]
  cases hp : pf (fun w => decide (hW s w 2 = c + 1)) 0 3 with
  | none =>
    have e : aOutW c s = s := by unfold aOutW; rw [hp]
    rw [e, oI_n, if_pos rfl]
    exact c_leaveT r b hc
  | some w =>
    have e : aOutW c s = uW s w 2 0 := by unfold aOutW; rw [hp]
    have hw : w < 3 := (pf_some hp).2.1
    rw [e, oI_s, if_neg (pi_ne1 (by omega)), if_pos (pi_in3 hw), pi_cl (by omega), if_pos (r.wk hw)]
    simp only [x_let]
    have r1 := r.uWe (w := w) (v := 0) hw
    rw [eI_0] at r1
    rw [if_pos (pi_in12 hc12), if_pos (r1.ck hc12)]
    obtain ⟨M', h1, h2, h3⟩ := c_leaveT r1 (aB_uW b (by omega) (by omega) (by omega) (by omega)) hc
    exact ⟨M', h1, h2, (cF_I (by omega) (by omega)).tr h3⟩
theorem c_leave {M : xM} {s : hS} {c : Nat} (r : cR h M s) (b : aB s) (hc : c < s.1 0) : ∃ M', f_X3_leave h (nI c) M = some M' ∧ cR h M' (aLeave c s) ∧ cF h M M' := by
  have hn := b.1
  have hq := b.2.1
  unfold f_X3_leave aLeave
  rw [c_pos r b.2.1 (by omega) b.q31, Option.bind_some]
  cases hp : pf (fun k => decide (hQ s k = c)) 0 (s.1 7) with
  | none =>
    have e : aOutQ c s = s := by unfold aOutQ; rw [hp]
    rw [e, oI_n, if_pos rfl]
    exact c_leaveW r b hc
  | some p =>
    have e : aOutQ c s = aTake p s := by unfold aOutQ; rw [hp]
    have hpp := pf_some hp
    rw [e, oI_s, if_neg (pi_ne1 (by omega))]
    obtain ⟨M1, h1, h2, h3⟩ := c_take r (p := p) (by omega) hq
    rw [h1, Option.bind_some]
    obtain ⟨M', g1, g2, g3⟩ := c_leaveW h2 (aB_take b) (c := c) (by
      show c < va_up s.1 7 (s.1 7 - 1) 0
      rw [va_up_ne _ _ (by decide)]
      exact hc)
    exact ⟨M', g1, g2, h3.tr g3⟩
end CW2
