/-! pure: the law over rendering -/
section RE
variable {M M1 M2 : xM} {s : hS} {u : Nat} {H : Nat → hS} {sf : Nat} {sn : hS} {w : wT} {L : Nat} {t : Nat → Nat}
theorem c_set0 (b : sB 6 M L t) : ∃ M', f_J4_setLength_d00df 6 (0 : Int32) M = some M' ∧ cW M' (0, t) ∧ sBF 6 M M' := by
  obtain ⟨M1, e1, b', hc, f1⟩ := c_ens b (m := 0) (by omega) (by omega)
  obtain ⟨b1, b2, b3, b4, b5, b6⟩ := id b'
  have e1 : f_J5_ensureCapacityInternal_d00df 6 (0 : Int32) M = some M1 := e1
  have hL : L ≤ 142 := by omega
  unfold f_J4_setLength_d00df f_J5_setLength_d00df
  rw [if_pos (show (0 : Int32) ≤ 0 by decide), e1, Option.bind_some, b2, if_pos (show (0 : Int32) ≤ nI L from nI_le (a := 0) (by omega) (by omega))]
  have fin : ∀ M3 : xM, (M3.1 6 1 = nI 0) → M3.1 7 = M1.1 7 → M3.2.1 7 = M1.2.1 7 → cW (sI M3 6 3 (0 : Int32)) (0, t) := fun M3 q1 q2 q3 => by
    refine ⟨?_, ?_, fun j hj => absurd hj (Nat.not_lt_zero j), ?_, Nat.zero_le _, fun j hj => ?_⟩
    · rw [sI_k (by decide)]; exact q1
    · rw [sI_s]; rfl
    · show M3.2.1 7 1 = 16 ∨ M3.2.1 7 1 = 34 ∨ M3.2.1 7 1 = 70 ∨ M3.2.1 7 1 = 142
      rw [q3]; exact b4
    · have hj : j < M3.2.1 7 1 := hj
      rw [q3] at hj
      rw [sI_c (by decide)]
      show vp_nar .byte (M3.1 7 j) = M3.1 7 j
      rw [q2]
      exact b6 j hj
  by_cases z : L = 0
  · rw [if_pos (show nI L ≤ (0 : Int32) by rw [z]; decide), x_let_e, Option.bind_some]
    exact ⟨_, rfl, fin M1 b1 rfl rfl, f1.tr (sBF_I (.inl rfl))⟩
  · rw [if_neg (show ¬ nI L ≤ (0 : Int32) from nI_ge (a := 0) (by omega) (by omega)), x_let_e, x_let_e, Option.bind_some]
    exact ⟨_, rfl, fin _ (by rw [sI_k (by decide)]; exact b1) (sI_c (by decide)) rfl, f1.tr ((sBF_I (.inl rfl)).tr (sBF_I (.inl rfl)))⟩
/-- the model's line and 'thrown' are anew -/
def mWF2 (M M' : xM) : Prop := M'.2 = M.2 ∧ (∀ c, c ≠ 9 → c ≠ 16 → M'.1 c = M.1 c) ∧ (∀ k, k ≠ 13 → k ≠ 9 → M'.1 9 k = M.1 9 k)
theorem gR_W {B : Nat} (g : gR B M) (f1 : sBF 6 M M1) (cw : cW M1 w) (f2 : mWF2 M1 M2) (mw : mW M2 w) : gR B M2 := by
  obtain ⟨s, u, H, sf, sn, ef, fl, Ln, t, O, o, c0, g0, x0, v, vh, vs⟩ := g
  obtain ⟨⟨a1, a2, a3, a4⟩, ⟨b1, b2, b3, b4, b5, b6, b7, b8⟩, hLn, ht, hef, hfl, hO⟩ := x0
  have k1 : ∀ c, c ≠ 6 → c ≠ 7 → c ≠ 9 → c ≠ 16 → M2.1 c = M.1 c := fun c h1 h2 h3 h4 => (f2.2.1 c h3 h4).trans (f1.1 c h1 h2).1
  have k2 : ∀ c, c ≠ 6 → c ≠ 7 → M2.2.1 c = M.2.1 c := fun c h1 h2 => by rw [f2.1]; exact (f1.1 c h1 h2).2
  have k9 : ∀ k, k ≠ 13 → k ≠ 9 → M2.1 9 k = M.1 9 k := fun k h1 h2 => by rw [f2.2.2 k h1 h2, (f1.1 9 (by decide) (by decide)).1]
  have hw : w.1 ≤ 142 := by
    obtain ⟨q1, q2, q3, q4, q5, q6⟩ := cw
    omega
  have cw2 : sB 6 M2 w.1 w.2 := sB_same cw (f2.2.1 6 (by decide) (by decide)) (f2.2.1 7 (by decide) (by decide)) (by rw [f2.1])
  refine ⟨s, u, H, sf, sn, ef, fl, Ln, t, w.1, w.2, ?_, ?_, ⟨⟨?_, ?_, ?_, cw2⟩, ⟨?_, ?_, ?_, fun j hj => ?_, mw.1, mw.2, ?_, ?_⟩, hLn, ht, hef, hfl, hw⟩, v, vh, vs⟩
  · exact gC_y c0 (k1 0 (by decide) (by decide) (by decide) (by decide)) (fun c hc => k2 c (by omega) (by omega)) (fun c hc => k1 c (by omega) (by omega) (by omega) (by omega))
  · exact gM_L g0 (k1 10 (by decide) (by decide) (by decide) (by decide)) (k1 14 (by decide) (by decide) (by decide) (by decide)) (k1 13 (by decide) (by decide) (by decide) (by decide)) (k9 6 (by decide) (by decide)) (k9 4 (by decide) (by decide))
  · rw [k1 0 (by decide) (by decide) (by decide) (by decide)]; exact a1
  · rw [k1 0 (by decide) (by decide) (by decide) (by decide)]; exact a2
  · exact sB_same a3 (k1 4 (by decide) (by decide) (by decide) (by decide)) (k1 5 (by decide) (by decide) (by decide) (by decide)) (k2 5 (by decide) (by decide))
  · rw [k9 7 (by decide) (by decide)]; exact b1
  · rw [k9 8 (by decide) (by decide)]; exact b2
  · rw [k9 11 (by decide) (by decide)]; exact b3
  · rw [k1 15 (by decide) (by decide) (by decide) (by decide)]; exact b4 j hj
  · rw [k1 17 (by decide) (by decide) (by decide) (by decide)]; exact b7
  · rw [k1 18 (by decide) (by decide) (by decide) (by decide)]; exact b8
theorem mWF_2 (f : mWF (sI (sI M 9 9 (0 : Int32)) 9 13 (0 : Int32)) M1) : mWF2 M M1 := ⟨f.1, fun c h1 h2 => by rw [f.2.1 c h1 h2, sI_c h1, sI_c h1], fun k h1 h2 => by rw [f.2.2 k h1, sI_k h1, sI_k h2]⟩
theorem mW_0 {t : Nat → Nat} : mW (sI (sI M 9 9 (0 : Int32)) 9 13 (0 : Int32)) (0, t) := ⟨sI_s, fun j hj => absurd hj (Nat.not_lt_zero j)⟩
theorem d_0 (d : dH (M.1 10) s (aW s)) : dH ((sI (sI M 9 9 (0 : Int32)) 9 13 (0 : Int32)).1 10) s (aW s) := by
  rw [sI_c (by decide), sI_c (by decide)]
  exact d
end RE
theorem lc_44 {B : Nat} {M : xM} {sc : Nat → Int32} {L : Nat} {I : Int32} (g : gR B M) (hB : B < 10 ^ 8) : ∃ M', f_law_c44 sc L I M = some M' ∧ gR (B + 400) M' := by
  obtain ⟨s, u, H, sf, sn, ef, fl, Ln, t, O, o, c0, g0, x0, v, vh, vs⟩ := id g
  have rn := aRn_of v hB
  obtain ⟨M1, e1, b1, f1⟩ := c_set0 x0.1.2.2.2
  have c1 := gC_sB (by decide) (by decide) c0 f1
  obtain ⟨M2, e2, b2, f2⟩ := c_rq rn (s.1 7) 0 13 M1 (0, o) c1 b1 (by omega) (by have := rn.1.2.1; omega) (Nat.zero_le _)
  have e2 : f_X6_renderQueue_L10 13 (0 : Int32) M1 = _ := e2
  have d2 : dH (M2.1 10) s (aW s) := by
    rw [(f2.1 10 (by decide) (by decide)).1, (f1.1 10 (by decide) (by decide)).1]
    exact g0.1
  obtain ⟨M3, e3, b3, f3⟩ := m_rq rn (s.1 7) 0 xF (sI (sI M2 9 9 (0 : Int32)) 9 13 (0 : Int32)) (0, o) (d_0 d2) mW_0 (by omega) (by rw [xF_2000]; have := rn.1.2.1; omega) (Nat.zero_le _)
  have e3 : f_X7_renderQueue_L12 xF (0 : Int32) (sI (sI M2 9 9 (0 : Int32)) 9 13 (0 : Int32)) = _ := e3
  unfold f_law_c44 f_X6_renderQueue f_X7_renderQueue
  rw [e1, Option.bind_some, e2, Option.bind_some, x_let_e, x_let_e, e3, Option.bind_some, if_pos rfl]
  exact ⟨M3, rfl, gR_le (gR_W g (f1.tr f2) b2 (mWF_2 f3) b3) (by omega)⟩
theorem lc_46 {B : Nat} {M : xM} {sc : Nat → Int32} {L : Nat} {I : Int32} (g : gR B M) (h1 : x_in (I + 1) L = true) : ∃ M', f_law_c46 sc L I M = some M' ∧ gR (B + 400) M' := by
  obtain ⟨s, u, H, sf, sn, ef, fl, Ln, t, O, o, c0, g0, x0, v, vh, vs⟩ := id g
  unfold f_law_c46
  simp only [if_pos h1]
  generalize sc (I + 1).toNatClampNeg = a
  obtain ⟨⟨a1, a2, a3, a4⟩, ⟨b1, b2, b3, b4, b5, b6, b7, b8⟩, hLn, ht, hef, hfl, hO⟩ := id x0
  unfold f_L_outputAt f_X6_outputAt f_X7_outputAt
  by_cases h : ix a < O
  · have ea := ix_eq (a := a) (by omega)
    generalize ix a = x at h ea
    subst ea
    have hx := a4.2.2.1 x h
    have cap : O ≤ M.2.1 7 1 ∧ M.2.1 7 1 ≤ 142 := by
      obtain ⟨q1, q2, q3, q4, q5, q6⟩ := a4
      have q4 : M.2.1 7 1 = 16 ∨ M.2.1 7 1 = 34 ∨ M.2.1 7 1 = 70 ∨ M.2.1 7 1 = 142 := q4
      have q5 : O ≤ M.2.1 7 1 := q5
      omega
    have hx1 : M.1 7 x = nI (o x) := hx.1
    have hx2 := hx.2
    have ch : ((nI (o x)).toUInt32 % 65536).toInt32 = nI (o x) := by
      rw [pk_char, pk_tn (by omega), Nat.mod_eq_of_lt (by omega)]
    have an : nI (o x) &&& (255 : Int32) = nI (o x) := by
      rw [pk_andN (by omega) 8 (by decide), Nat.mod_eq_of_lt (by omega)]
    have nr : vp_nar .char (nI (o x)) = nI (o x) := by
      unfold vp_nar
      rw [(pk_charN (q := o x) (by omega)).1]
    have cA : f_J4_charAt_5068e 6 (nI x) M = some (nI (o x)) := by
      unfold f_J4_charAt_5068e f_J5_charAt_5068e f_J0_checkIndex_df160 f_J3_checkIndex_8e157
      rw [a4.1, show Int32.ofNat (M.2.1 (6 + 1) 1) = nI (M.2.1 7 1) from rfl, sh_r, a4.2.1, if_neg (show ¬ nI (M.2.1 7 1) < nI O from nI_nlt cap.1 (by omega)), if_neg (show ¬ nI x < 0 from nI_nlt (b := 0) (by omega) (by omega)), if_pos (nI_lt h (by omega)), Option.bind_some, Option.bind_some, if_pos (show nI 0 = 0 from rfl), if_pos (show x_in (nI x) (M.2.1 (6 + 1) 1) = true from pi_in (N := M.2.1 7 1) (by omega) (by omega)), pi_cl (by omega), show M.1 (6 + 1) x = nI (o x) from hx1, an, ch, if_pos nr, Option.bind_some, if_pos nr]
    rw [if_neg (show ¬ nI x < 0 from nI_nlt (b := 0) (by omega) (by omega)), c_len a4, Option.bind_some, if_pos (nI_lt h (by omega)), cA, Option.bind_some, if_pos nr, Option.bind_some, x_case_l, x_let_e, Option.bind_some, x_let_e]
    have n13 : (sI (sJ M (nI (o x)).toInt64) 9 9 (0 : Int32)).1 9 13 = nI O := by
      rw [sI_k (by decide)]
      exact b5
    have n16 : (sI (sJ M (nI (o x)).toInt64) 9 9 (0 : Int32)).1 16 x = nI (o x) := by
      rw [sI_c (by decide)]
      exact b6 x h
    rw [n13, show (0 : Int64) = (nI 0).toInt64 from rfl, show nI O - 1 = nI (O - 1) from pi_sub1 (by omega), m_in' (by omega) (by omega) (by omega), Option.bind_some, if_pos (show 0 ≤ x ∧ x ≤ O - 1 by omega), if_neg (show ¬ nI 1 = 0 by decide), if_pos (pi_in (by omega) (by omega)), pi_cl (by omega), n16, ch, if_pos nr, Option.bind_some]
    have g1 : gR B (sJ M (nI (o x)).toInt64) := g
    exact ⟨_, lw_any (a := 0) sI_s (fun _ => rfl), gR_le (gR_N g1 gN_9) (by omega)⟩
  · have hn := ix_no (by omega) h
    have e1 : (if a < 0 then some (Sum.inr (α := Int32) "java/lang/IndexOutOfBoundsException") else (f_J4_length_8abf5 6 M).bind fun q2 => (if a < q2 then (f_J4_charAt_5068e 6 a M).bind fun q5 => if vp_nar .char q5 = q5 then some (.inl q5) else none else some (.inr "java/lang/IndexOutOfBoundsException"))) = some (.inr "java/lang/IndexOutOfBoundsException") := by
      by_cases z : a < 0
      · rw [if_pos z]
      · obtain ⟨j, hj, rfl⟩ := nI_of z
        have : ¬ j < O := fun y => hn j y rfl
        rw [if_neg z, c_len a4, Option.bind_some, if_neg (nI_nlt (by omega) hj)]
    rw [e1, Option.bind_some, x_case_r, if_pos rfl, Option.bind_some, x_let_e]
    have n13 : (sI M 9 9 (0 : Int32)).1 9 13 = nI O := by
      rw [sI_k (by decide)]
      exact b5
    have e2 : f_X7_in a.toInt64 (0 : Int64) ((nI O - 1).toInt64) (sI M 9 9 (0 : Int32)) = some (nI 0) := by
      rw [show (0 : Int64) = (0 : Int32).toInt64 from rfl, m_in]
      refine congrArg some (if_neg fun z => ?_)
      by_cases y : a < 0
      · exact Int32.not_lt.mpr z.1 y
      · obtain ⟨j, hj, rfl⟩ := nI_of y
        by_cases o0 : O = 0
        · rw [o0] at z
          have z2 := z.2
          rw [Int32.le_iff_toInt_le, nI_toInt hj, show (nI 0 - 1 : Int32).toInt = -1 from by decide] at z2
          omega
        · rw [pi_sub1 (by omega)] at z
          have z2 := (nI_leI hj (by omega)).mp z.2
          exact hn j (by omega) rfl
    rw [n13, e2, Option.bind_some, if_pos (show nI 0 = 0 from rfl), m_throw, Option.bind_some]
    dsimp only
    rw [if_pos (show vp_nar .char ((mI.toUInt32 % 65536).toInt32) = ((mI.toUInt32 % 65536).toInt32) by decide +kernel), Option.bind_some]
    exact ⟨_, lw_any sI_s (fun h => absurd h (show ¬ (1 : Int32) = 0 by decide)), gR_le (gR_N g (gN_9.tr gN_9)) (by omega)⟩
