/-! pure: the law over runScript -/
section RS
theorem c_setg {h : Nat} {M : xM} {L : Nat} {t : Nat → Nat} (b : sB h M L t) : ∃ M', f_J4_setLength_d00df h (0 : Int32) M = some M' ∧ sB h M' 0 t ∧ sBF h M M' := by
  obtain ⟨M1, e1, b', hc, f1⟩ := c_ens b (m := 0) (by omega) (by omega)
  obtain ⟨b1, b2, b3, b4, b5, b6⟩ := id b'
  have e1 : f_J5_ensureCapacityInternal_d00df h (0 : Int32) M = some M1 := e1
  have hL : L ≤ 142 := by omega
  unfold f_J4_setLength_d00df f_J5_setLength_d00df
  rw [if_pos (show (0 : Int32) ≤ 0 by decide), e1, Option.bind_some, b2, if_pos (show (0 : Int32) ≤ nI L from nI_le (a := 0) (by omega) (by omega))]
  have fin : ∀ M3 : xM, (M3.1 h 1 = nI 0) → M3.1 (h + 1) = M1.1 (h + 1) → M3.2.1 (h + 1) = M1.2.1 (h + 1) → sB h (sI M3 h 3 (0 : Int32)) 0 t := fun M3 q1 q2 q3 => by
    refine ⟨?_, ?_, fun j hj => absurd hj (Nat.not_lt_zero j), ?_, Nat.zero_le _, fun j hj => ?_⟩
    · rw [sI_k (by decide)]; exact q1
    · rw [sI_s]; rfl
    · show M3.2.1 (h + 1) 1 = 16 ∨ M3.2.1 (h + 1) 1 = 34 ∨ M3.2.1 (h + 1) 1 = 70 ∨ M3.2.1 (h + 1) 1 = 142
      rw [q3]; exact b4
    · have hj : j < M3.2.1 (h + 1) 1 := hj
      rw [q3] at hj
      rw [sI_c (by omega), q2]
      exact b6 j hj
  by_cases z : L = 0
  · rw [if_pos (show nI L ≤ (0 : Int32) by rw [z]; decide), x_let_e, Option.bind_some]
    exact ⟨_, rfl, fin M1 b1 rfl rfl, f1.tr (sBF_I (.inl rfl))⟩
  · rw [if_neg (show ¬ nI L ≤ (0 : Int32) from nI_ge (a := 0) (by omega) (by omega)), x_let_e, x_let_e, Option.bind_some]
    exact ⟨_, rfl, fin _ (by rw [sI_k (by decide)]; exact b1) (sI_c (by omega)) rfl, f1.tr ((sBF_I (.inl rfl)).tr (sBF_I (.inl rfl)))⟩
/-- what the model's reading leaves alone -/
def mZ (M N : xM) : Prop := N.2 = M.2 ∧ (∀ c, c ≠ 9 → c ≠ 11 → c ≠ 19 → N.1 c = M.1 c) ∧ (∀ k, k ≠ 9 → k ≠ 11 → k ≠ 17 → k ≠ 18 → k ≠ 19 → k ≠ 20 → N.1 9 k = M.1 9 k) ∧ N.1 9 11 = nI 0 ∧ N.1 9 9 = nI 0 ∧ (∀ x, x < 159 → N.1 11 x = M.1 10 x)
theorem m_pre {M : xM} {L : Nat} {t : Nat → Nat} {n : Nat} (hn : n = 31) (h11 : M.1 9 11 = nI L) (h15 : ∀ j, j < L → M.1 15 j = nI (t j) ∧ t j < 128) (h17 : ∀ j, j < 48 → M.1 17 j = nI (tLet.getD j 0)) (h18 : ∀ j, j < 10 → M.1 18 j = nI (tBeg.getD j 0)) (hL : L ≤ 60) : ∃ N7 N', f_X7_runScript M = f_X7_runScript_L34 (N' + 1) (0 : Int32) N7 ∧ mZ M N7 ∧ ((sC t L n 0).2 = none → N7.1 9 20 = nI 0 ∧ N7.1 9 17 = nI (0 + (sC t L n 0).1.length) ∧ ∀ i, i < (sC t L n 0).1.length → mCq N7 t L (4 * (0 + i)) ((sC t L n 0).1.getD i 0)) ∧ (∀ e, (sC t L n 0).2 = some e → N7.1 9 20 = nI 1 ∧ N7.1 9 18 = nI e) := by
  unfold f_X7_runScript
  rw [m_starts, Option.bind_some, x_let_e, x_let_e, x_let_e, x_let_e, x_let_e, pi_0]
  have e19 : (mG (sI M 9 9 (nI 0)) 11 (fun x => if x < 159 then M.1 10 x else M.1 11 x)).1 9 11 = nI L := by
    rw [mG_n (by decide), sI_k (by decide)]; exact h11
  rw [e19]
  have A : ∀ c, c ≠ 9 → c ≠ 11 → (sI (sI (sI (sI (sI (mG (sI M 9 9 (nI 0)) 11 (fun x => if x < 159 then M.1 10 x else M.1 11 x)) 9 19 (nI L)) 9 11 (nI 0)) 9 18 (nI 0)) 9 17 (nI 0)) 9 20 (nI 0)).1 c = M.1 c := fun c h1 h2 => by
    rw [sI_c h1, sI_c h1, sI_c h1, sI_c h1, sI_c h1, mG_n h2, sI_c h1]
  have A11 : (sI (sI (sI (sI (sI (mG (sI M 9 9 (nI 0)) 11 (fun x => if x < 159 then M.1 10 x else M.1 11 x)) 9 19 (nI L)) 9 11 (nI 0)) 9 18 (nI 0)) 9 17 (nI 0)) 9 20 (nI 0)).1 11 = fun x => if x < 159 then M.1 10 x else M.1 11 x := by
    rw [sI_c (by decide), sI_c (by decide), sI_c (by decide), sI_c (by decide), sI_c (by decide), mG_s]
  have A2 : (sI (sI (sI (sI (sI (mG (sI M 9 9 (nI 0)) 11 (fun x => if x < 159 then M.1 10 x else M.1 11 x)) 9 19 (nI L)) 9 11 (nI 0)) 9 18 (nI 0)) 9 17 (nI 0)) 9 20 (nI 0)).2 = M.2 := rfl
  have A9 : ∀ k, k ≠ 9 → k ≠ 11 → k ≠ 17 → k ≠ 18 → k ≠ 19 → k ≠ 20 → (sI (sI (sI (sI (sI (mG (sI M 9 9 (nI 0)) 11 (fun x => if x < 159 then M.1 10 x else M.1 11 x)) 9 19 (nI L)) 9 11 (nI 0)) 9 18 (nI 0)) 9 17 (nI 0)) 9 20 (nI 0)).1 9 k = M.1 9 k := fun k h1 h2 h3 h4 h5 h6 => by
    rw [sI_k h6, sI_k h3, sI_k h4, sI_k h2, sI_k h5, mG_n (by decide), sI_k h1]
  have B20 : (sI (sI (sI (sI (sI (mG (sI M 9 9 (nI 0)) 11 (fun x => if x < 159 then M.1 10 x else M.1 11 x)) 9 19 (nI L)) 9 11 (nI 0)) 9 18 (nI 0)) 9 17 (nI 0)) 9 20 (nI 0)).1 9 20 = nI 0 := sI_s
  have B17 : (sI (sI (sI (sI (sI (mG (sI M 9 9 (nI 0)) 11 (fun x => if x < 159 then M.1 10 x else M.1 11 x)) 9 19 (nI L)) 9 11 (nI 0)) 9 18 (nI 0)) 9 17 (nI 0)) 9 20 (nI 0)).1 9 17 = nI 0 := by rw [sI_k (by decide), sI_s]
  have B18 : (sI (sI (sI (sI (sI (mG (sI M 9 9 (nI 0)) 11 (fun x => if x < 159 then M.1 10 x else M.1 11 x)) 9 19 (nI L)) 9 11 (nI 0)) 9 18 (nI 0)) 9 17 (nI 0)) 9 20 (nI 0)).1 9 18 = nI 0 := by rw [sI_k (by decide), sI_k (by decide), sI_s]
  have B11 : (sI (sI (sI (sI (sI (mG (sI M 9 9 (nI 0)) 11 (fun x => if x < 159 then M.1 10 x else M.1 11 x)) 9 19 (nI L)) 9 11 (nI 0)) 9 18 (nI 0)) 9 17 (nI 0)) 9 20 (nI 0)).1 9 11 = nI 0 := by rw [sI_k (by decide), sI_k (by decide), sI_k (by decide), sI_s]
  have B19 : (sI (sI (sI (sI (sI (mG (sI M 9 9 (nI 0)) 11 (fun x => if x < 159 then M.1 10 x else M.1 11 x)) 9 19 (nI L)) 9 11 (nI 0)) 9 18 (nI 0)) 9 17 (nI 0)) 9 20 (nI 0)).1 9 19 = nI L := by rw [sI_k (by decide), sI_k (by decide), sI_k (by decide), sI_k (by decide), sI_s]
  have B9 : (sI (sI (sI (sI (sI (mG (sI M 9 9 (nI 0)) 11 (fun x => if x < 159 then M.1 10 x else M.1 11 x)) 9 19 (nI L)) 9 11 (nI 0)) 9 18 (nI 0)) 9 17 (nI 0)) 9 20 (nI 0)).1 9 9 = nI 0 := by rw [sI_k (by decide), sI_k (by decide), sI_k (by decide), sI_k (by decide), sI_k (by decide), mG_n (by decide), sI_s]
  generalize sI (sI (sI (sI (sI (mG (sI M 9 9 (nI 0)) 11 (fun x => if x < 159 then M.1 10 x else M.1 11 x)) 9 19 (nI L)) 9 11 (nI 0)) 9 18 (nI 0)) 9 17 (nI 0)) 9 20 (nI 0) = N6 at *
  have m : mT N6 t L := ⟨B19, by rw [A 15 (by decide) (by decide)]; exact h15, by rw [A 17 (by decide) (by decide)]; exact h17, by rw [A 18 (by decide) (by decide)]; exact h18, hL⟩
  obtain ⟨N7, N', e, c, x1, x2⟩ := m_lp n 0 0 xF N6 0 m ⟨B18, B20⟩ B17 (Nat.zero_le _) (by omega) (Nat.le_refl _) (by rw [xF_2000]; omega)
  refine ⟨N7, N', e, ⟨?_, fun c' h1 h2 h3 => ?_, fun k h1 h2 h3 h4 h5 h6 => ?_, ?_, ?_, fun x hx => ?_⟩, x1, x2⟩
  · rw [c.1, A2]
  · rw [c.2.1 c' h1 h3, A c' h1 h2]
  · rw [c.2.2.1 k h3 h4 h6, A9 k h1 h2 h3 h4 h5 h6]
  · rw [c.2.2.1 11 (by decide) (by decide) (by decide)]; exact B11
  · rw [c.2.2.1 9 (by decide) (by decide) (by decide)]; exact B9
  · rw [c.2.1 11 (by decide) (by decide), A11]
    exact if_pos hx
end RS
