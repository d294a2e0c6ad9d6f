/-! pure: typing -/
theorem lw_any {M2 : xM} {a b : Int32} (h9 : M2.1 9 9 = a) (hj : a = 0 → M2.2.2.1 = b.toInt64) : ((f_X7_thrown M2).bind fun q7 => (if q7 = a then (if a = 0 then (if (lg_cmp M2.2.2.1 b.toInt64) = 0 then some M2 else none) else some M2) else none)) = some M2 := by
  unfold f_X7_thrown
  rw [Option.bind_some, if_pos h9]
  by_cases z : a = 0
  · rw [if_pos z, hj z, lg_same, if_pos rfl]
  · rw [if_neg z]
section TY
variable {M M' : xM} {s : hS} {u : Nat} {H : Nat → hS} {sf : Nat} {sn : hS}
theorem gC_y (g : gC M s u H sf sn) (e0 : M'.1 0 = M.1 0) (p : ∀ c, c = 0 ∨ c = 1 ∨ 22 ≤ c → M'.2.1 c = M.2.1 c) (hc : ∀ c, 22 ≤ c → M'.1 c = M.1 c) : gC M' s u H sf sn := by
  have hp : ∀ i, gP M' i = gP M i := fun i => by unfold gP; rw [p 0 (by omega), p 1 (by omega)]
  have sm : ∀ i, i < 11 → ∀ c, gP M i ≤ c → c < gP M i + 21 → M'.1 c = M.1 c ∧ M'.2.1 c = M.2.1 c := fun i hi c h1 h2 => by
    have := g.ge hi
    exact ⟨hc c (by omega), p c (by omega)⟩
  refine ⟨fun i hi => ?_, fun i j hi hj e => ?_, ?_, fun i hi => ?_, fun h => ?_, ?_, g.2.2.2.2.2.2.1, ?_, g.2.2.2.2.2.2.2.2⟩
  · rw [hp]; exact cV_same (sm i hi) (g.1 i hi)
  · rw [hp, hp] at e; exact g.2.1 i j hi hj e
  · rw [hp]; exact cR_same (sm 0 (by decide)) g.2.2.1
  · rw [hp]; exact cR_same (sm (3 + i) (by have := g.2.2.2.2.2.2.1; omega)) (g.2.2.2.1 i hi)
  · rw [hp]; exact cR_same (sm 2 (by decide)) (g.2.2.2.2.1 h)
  · rw [e0]; exact g.2.2.2.2.2.1
  · rw [e0]; exact g.2.2.2.2.2.2.2.1
theorem gC_sB {h : Nat} (hh : 2 ≤ h) (h22 : h < 21) (g : gC M s u H sf sn) (f : sBF h M M') : gC M' s u H sf sn :=
  gC_y g (f.1 0 (by omega) (by omega)).1 (fun c hc => (f.1 c (by omega) (by omega)).2) (fun c hc => (f.1 c (by omega) (by omega)).1)
end TY
theorem m_in' {M : xM} {a lo hi : Nat} (ha : a < 2 ^ 31) (hl : lo < 2 ^ 31) (hh : hi < 2 ^ 31) : f_X7_in (nI a).toInt64 (nI lo).toInt64 (nI hi).toInt64 M = some (if lo ≤ a ∧ a ≤ hi then nI 1 else nI 0) := by
  rw [m_in]
  by_cases z : lo ≤ a ∧ a ≤ hi
  · rw [if_pos z, if_pos ⟨nI_le z.1 ha, nI_le z.2 hh⟩]
  · rw [if_neg z, if_neg (fun x => z ⟨(nI_leI hl ha).mp x.1, (nI_leI ha hh).mp x.2⟩)]
theorem lc_47 {B : Nat} {M : xM} {sc : Nat → Int32} {L : Nat} {I : Int32} (g : gR B M) (h1 : x_in (I + 1) L = true) : ∃ M', f_law_c47 sc L I M = some M' ∧ gR (B + 400) M' := by
  obtain ⟨s, u, H, sf, sn, ef, fl, Ln, t, O, o, c0, g0, x0, v, vh, vs⟩ := id g
  unfold f_law_c47
  simp only [if_pos h1, pk_char]
  have hq : (sc (I + 1).toNatClampNeg).toBitVec.toNat % 65536 < 65536 := Nat.mod_lt _ (by decide)
  generalize (sc (I + 1).toNatClampNeg).toBitVec.toNat % 65536 = q at hq ⊢
  obtain ⟨⟨a1, a2, a3, a4⟩, ⟨b1, b2, b3, b4, b5, b6, b7, b8⟩, hLn, ht, r⟩ := id x0
  unfold f_L_type f_X6_type f_X7_type
  rw [show (32 : Int32) = nI 32 from rfl, show (126 : Int32) = nI 126 from rfl, show (32 : Int64) = (nI 32).toInt64 from by decide, show (126 : Int64) = (nI 126).toInt64 from by decide, show (60 : Int32) = nI 60 from rfl]
  by_cases z : 32 ≤ q ∧ q ≤ 126
  · rw [if_neg (nI_nlt (by omega) (by omega)), if_pos (nI_le z.2 (by omega)), c_len a3, Option.bind_some]
    by_cases w : Ln < 60
    · rw [if_pos (nI_lt w (by omega))]
      obtain ⟨M1, e1, k1, f1⟩ := c_appc a3 (ch := q) (by omega) (by omega)
      rw [e1, Option.bind_some, c_len k1, Option.bind_some, Option.bind_some, x_case_l]
      dsimp only
      rw [x_let_e, Option.bind_some, x_let_e, m_in' (by omega) (by omega) (by omega), Option.bind_some, if_pos z, if_neg (by decide)]
      have n9 : (sI (sJ M1 (nI (Ln + 1)).toInt64) 9 9 (0 : Int32)).1 9 11 = nI Ln := by
        rw [sI_k (by decide)]
        show M1.1 9 11 = _
        rw [(f1.1 9 (by decide) (by decide)).1]
        exact b3
      rw [n9, if_neg (fun x => by have := (nI_eq (by omega) (by omega)).mp x; omega), if_pos (pi_in w (by decide)), x_let_e, pi_cl (by omega), sI_c (by decide), n9, x_let_e, Option.bind_some, sI_s, pi_1, nI_add]
      have f2 : ∀ c, c ≠ 4 → c ≠ 5 → c ≠ 9 → c ≠ 15 → (sI (sI (sI (sJ M1 (nI (Ln + 1)).toInt64) 9 9 (0 : Int32)) 15 Ln (nI q)) 9 11 (nI (Ln + 1))).1 c = M.1 c := fun c c1 c2 c3 c4 => by
        rw [sI_c c3, sI_c c4, sI_c c3]
        exact (f1.1 c c1 c2).1
      have f3 : ∀ c, c ≠ 4 → c ≠ 5 → (sI (sI (sI (sJ M1 (nI (Ln + 1)).toInt64) 9 9 (0 : Int32)) 15 Ln (nI q)) 9 11 (nI (Ln + 1))).2.1 c = M.2.1 c := fun c c1 c2 => (f1.1 c c1 c2).2
      have f9 : ∀ k, k ≠ 9 → k ≠ 11 → (sI (sI (sI (sJ M1 (nI (Ln + 1)).toInt64) 9 9 (0 : Int32)) 15 Ln (nI q)) 9 11 (nI (Ln + 1))).1 9 k = M.1 9 k := fun k k1 k2 => by
        rw [sI_k k2, sI_c (by decide), sI_k k1]
        show M1.1 9 k = _
        rw [(f1.1 9 (by decide) (by decide)).1]
      refine ⟨_, lw_any (a := 0) (by rw [sI_k (by decide), sI_c (by decide), sI_s]) (fun _ => rfl), s, u, H, sf, sn, ef, fl, Ln + 1, va_up t Ln q, O, o, ?_, ?_, ⟨⟨?_, ?_, ?_, ?_⟩, ⟨?_, ?_, ?_, fun j hj => ?_, ?_, ?_, ?_, ?_⟩, by omega, fun j hj => ?_, r⟩, aV_le v (by omega), fun i hi => aV_le (vh i hi) (by omega), fun h => aV_le (vs h) (by omega)⟩
      · exact gC_y c0 (f2 0 (by decide) (by decide) (by decide) (by decide)) (fun c hc => f3 c (by omega) (by omega)) (fun c hc => f2 c (by omega) (by omega) (by omega) (by omega))
      · exact gM_L g0 (f2 10 (by decide) (by decide) (by decide) (by decide)) (f2 14 (by decide) (by decide) (by decide) (by decide)) (f2 13 (by decide) (by decide) (by decide) (by decide)) (f9 6 (by decide) (by decide)) (f9 4 (by decide) (by decide))
      · rw [f2 0 (by decide) (by decide) (by decide) (by decide)]; exact a1
      · rw [f2 0 (by decide) (by decide) (by decide) (by decide)]; exact a2
      · exact sB_same k1 (by rw [sI_c (by decide), sI_c (by decide), sI_c (by decide)]; rfl) (by rw [sI_c (by decide), sI_c (by decide), sI_c (by decide)]; rfl) rfl
      · exact sB_same a4 (f2 6 (by decide) (by decide) (by decide) (by decide)) (f2 7 (by decide) (by decide) (by decide) (by decide)) (f3 7 (by decide) (by decide))
      · rw [f9 7 (by decide) (by decide)]; exact b1
      · rw [f9 8 (by decide) (by decide)]; exact b2
      · rw [sI_s]
      · rw [sI_c (by decide)]
        by_cases y : j = Ln
        · rw [y, sI_s, va_up_self]
        · rw [sI_k y, sI_c (by decide), va_up_ne _ _ y]
          show M1.1 15 j = _
          rw [(f1.1 15 (by decide) (by decide)).1]
          exact b4 j (by omega)
      · rw [f9 13 (by decide) (by decide)]; exact b5
      · rw [f2 16 (by decide) (by decide) (by decide) (by decide)]; exact b6
      · rw [f2 17 (by decide) (by decide) (by decide) (by decide)]; exact b7
      · rw [f2 18 (by decide) (by decide) (by decide) (by decide)]; exact b8
      · by_cases y : j = Ln
        · rw [y, va_up_self]; exact z
        · rw [va_up_ne _ _ y]; exact ht j (by omega)
    · have e60 : Ln = 60 := by omega
      subst e60
      rw [if_neg (nI_nlt (by omega) (by omega)), Option.bind_some, x_case_r]
      dsimp only
      rw [if_neg (show ¬ "java/lang/IllegalStateException" = "java/lang/IllegalArgumentException" by decide), if_pos (show "java/lang/IllegalStateException" = "java/lang/IllegalStateException" from rfl), Option.bind_some, x_let_e, m_in' (by omega) (by omega) (by omega), Option.bind_some, if_pos z, if_neg (by decide)]
      have n9 : (sI M 9 9 (0 : Int32)).1 9 11 = nI 60 := by
        rw [sI_k (by decide)]
        exact b3
      rw [n9, if_pos rfl, m_throw, Option.bind_some, Option.bind_some]
      exact ⟨_, lw_any sI_s (fun h => absurd h (show ¬ (2 : Int32) = 0 by decide)), gR_le (gR_N g (gN_9.tr gN_9)) (by omega)⟩
  · have e1 : (if nI q < nI 32 then some (Sum.inr (α := Int32) "java/lang/IllegalArgumentException", M) else (if nI q ≤ nI 126 then (f_J4_length_8abf5 4 M).bind fun q3 => (if q3 < nI 60 then (f_J4_append_cf468 4 (nI q) M).bind fun q6 => (f_J4_length_8abf5 4 q6).bind fun q8 => some (.inl q8, q6) else some (.inr "java/lang/IllegalStateException", M)) else some (.inr "java/lang/IllegalArgumentException", M))) = some (.inr "java/lang/IllegalArgumentException", M) := by
      by_cases y : q < 32
      · rw [if_pos (nI_lt y (by omega))]
      · rw [if_neg (nI_nlt (by omega) (by omega)), if_neg (nI_ge (by omega) (by omega))]
    rw [e1, Option.bind_some, x_case_r]
    dsimp only
    rw [if_pos (show "java/lang/IllegalArgumentException" = "java/lang/IllegalArgumentException" from rfl), Option.bind_some, x_let_e, m_in' (by omega) (by omega) (by omega), Option.bind_some, if_neg z, if_pos (show nI 0 = 0 from rfl), m_throw, Option.bind_some, Option.bind_some]
    exact ⟨_, lw_any sI_s (fun h => absurd h (show ¬ (1 : Int32) = 0 by decide)), gR_le (gR_N g (gN_9.tr gN_9)) (by omega)⟩
