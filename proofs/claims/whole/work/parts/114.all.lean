/-! pure: the law, all cases and the loop -/
theorem lc_case {B : Nat} {M : xM} {sc : Nat → Int32} {L : Nat} {I k : Int32} (hfp : fpOK) (g : gR B M) (hB : 13 ≤ B) (hB2 : B < 10 ^ 8) (h1 : x_in (I + 1) L = true) (h2 : x_in (I + 2) L = true) (h3 : x_in (I + 3) L = true) : ∃ M', f_law_case sc L k I M = some M' ∧ gR (B + 24400) M' := by
  unfold f_law_case
  by_cases z : k = 0
  · rw [if_pos z]
    obtain ⟨M', e, r⟩ := lc_0 (sc := sc) (L := L) (I := I) g (by omega) (by omega) h1
    exact ⟨M', e, gR_le r (by omega)⟩
  rw [if_neg z]
  clear z
  by_cases z : k = 1
  · rw [if_pos z]
    obtain ⟨M', e, r⟩ := lc_1 (sc := sc) (L := L) (I := I) g (by omega) (by omega) h1 h2 h3
    exact ⟨M', e, gR_le r (by omega)⟩
  rw [if_neg z]
  clear z
  by_cases z : k = 2
  · rw [if_pos z]
    obtain ⟨M', e, r⟩ := lc_2 (sc := sc) (L := L) (I := I) g (by omega) (by omega) h1
    exact ⟨M', e, gR_le r (by omega)⟩
  rw [if_neg z]
  clear z
  by_cases z : k = 3
  · rw [if_pos z]
    obtain ⟨M', e, r⟩ := lc_3 (sc := sc) (L := L) (I := I) g (by omega) (by omega)
    exact ⟨M', e, gR_le r (by omega)⟩
  rw [if_neg z]
  clear z
  by_cases z : k = 4
  · rw [if_pos z]
    obtain ⟨M', e, r⟩ := lc_4 (sc := sc) (L := L) (I := I) g (by omega) (by omega) h1 h2
    exact ⟨M', e, gR_le r (by omega)⟩
  rw [if_neg z]
  clear z
  by_cases z : k = 5
  · rw [if_pos z]
    obtain ⟨M', e, r⟩ := lc_5 (sc := sc) (L := L) (I := I) g (by omega) (by omega) h1
    exact ⟨M', e, gR_le r (by omega)⟩
  rw [if_neg z]
  clear z
  by_cases z : k = 6
  · rw [if_pos z]
    obtain ⟨M', e, r⟩ := lc_6 (sc := sc) (L := L) (I := I) g (by omega) (by omega) h1
    exact ⟨M', e, gR_le r (by omega)⟩
  rw [if_neg z]
  clear z
  by_cases z : k = 7
  · rw [if_pos z]
    obtain ⟨M', e, r⟩ := lc_7 (sc := sc) (L := L) (I := I) g (by omega) (by omega) h1
    exact ⟨M', e, gR_le r (by omega)⟩
  rw [if_neg z]
  clear z
  by_cases z : k = 8
  · rw [if_pos z]
    obtain ⟨M', e, r⟩ := lc_8 (sc := sc) (L := L) (I := I) g (by omega) (by omega) h1
    exact ⟨M', e, gR_le r (by omega)⟩
  rw [if_neg z]
  clear z
  by_cases z : k = 9
  · rw [if_pos z]
    obtain ⟨M', e, r⟩ := lc_9 (sc := sc) (L := L) (I := I) g
    exact ⟨M', e, gR_le r (by omega)⟩
  rw [if_neg z]
  clear z
  by_cases z : k = 10
  · rw [if_pos z]
    obtain ⟨M', e, r⟩ := lc_10 (sc := sc) (L := L) (I := I) g (by omega) (by omega) h1
    exact ⟨M', e, gR_le r (by omega)⟩
  rw [if_neg z]
  clear z
  by_cases z : k = 11
  · rw [if_pos z]
    obtain ⟨M', e, r⟩ := lc_11 (sc := sc) (L := L) (I := I) g (by omega) (by omega) h1
    exact ⟨M', e, gR_le r (by omega)⟩
  rw [if_neg z]
  clear z
  by_cases z : k = 12
  · rw [if_pos z]
    obtain ⟨M', e, r⟩ := lc_12 (sc := sc) (L := L) (I := I) g (by omega) (by omega) h1
    exact ⟨M', e, gR_le r (by omega)⟩
  rw [if_neg z]
  clear z
  by_cases z : k = 13
  · rw [if_pos z]
    obtain ⟨M', e, r⟩ := lc_13 (sc := sc) (L := L) (I := I) g (by omega) (by omega) h1
    exact ⟨M', e, gR_le r (by omega)⟩
  rw [if_neg z]
  clear z
  by_cases z : k = 14
  · rw [if_pos z]
    obtain ⟨M', e, r⟩ := lc_14 (sc := sc) (L := L) (I := I) g (by omega) (by omega) h1
    exact ⟨M', e, gR_le r (by omega)⟩
  rw [if_neg z]
  clear z
  by_cases z : k = 15
  · rw [if_pos z]
    obtain ⟨M', e, r⟩ := lc_15 (sc := sc) (L := L) (I := I) g (by omega) (by omega) h1
    exact ⟨M', e, gR_le r (by omega)⟩
  rw [if_neg z]
  clear z
  by_cases z : k = 16
  · rw [if_pos z]
    obtain ⟨M', e, r⟩ := lc_16 (sc := sc) (L := L) (I := I) g (by omega) (by omega) h1
    exact ⟨M', e, gR_le r (by omega)⟩
  rw [if_neg z]
  clear z
  by_cases z : k = 17
  · rw [if_pos z]
    obtain ⟨M', e, r⟩ := lc_17 (sc := sc) (L := L) (I := I) g (by omega) (by omega) h1
    exact ⟨M', e, gR_le r (by omega)⟩
  rw [if_neg z]
  clear z
  by_cases z : k = 18
  · rw [if_pos z]
    obtain ⟨M', e, r⟩ := lc_18 (sc := sc) (L := L) (I := I) g (by omega) (by omega) h1
    exact ⟨M', e, gR_le r (by omega)⟩
  rw [if_neg z]
  clear z
  by_cases z : k = 19
  · rw [if_pos z]
    obtain ⟨M', e, r⟩ := lc_19 (sc := sc) (L := L) (I := I) g (by omega) (by omega) h1
    exact ⟨M', e, gR_le r (by omega)⟩
  rw [if_neg z]
  clear z
  by_cases z : k = 20
  · rw [if_pos z]
    obtain ⟨M', e, r⟩ := lc_20 (sc := sc) (L := L) (I := I) g
    exact ⟨M', e, gR_le r (by omega)⟩
  rw [if_neg z]
  clear z
  by_cases z : k = 21
  · rw [if_pos z]
    obtain ⟨M', e, r⟩ := lc_21 (sc := sc) (L := L) (I := I) g (by omega) (by omega) h1
    exact ⟨M', e, gR_le r (by omega)⟩
  rw [if_neg z]
  clear z
  by_cases z : k = 22
  · rw [if_pos z]
    obtain ⟨M', e, r⟩ := lc_22 (sc := sc) (L := L) (I := I) g (by omega) (by omega) h1
    exact ⟨M', e, gR_le r (by omega)⟩
  rw [if_neg z]
  clear z
  by_cases z : k = 23
  · rw [if_pos z]
    obtain ⟨M', e, r⟩ := lc_23 (sc := sc) (L := L) (I := I) g (by omega) (by omega) h1
    exact ⟨M', e, gR_le r (by omega)⟩
  rw [if_neg z]
  clear z
  by_cases z : k = 24
  · rw [if_pos z]
    obtain ⟨M', e, r⟩ := lc_24 (sc := sc) (L := L) (I := I) g (by omega) (by omega) h1
    exact ⟨M', e, gR_le r (by omega)⟩
  rw [if_neg z]
  clear z
  by_cases z : k = 25
  · rw [if_pos z]
    obtain ⟨M', e, r⟩ := lc_25 (sc := sc) (L := L) (I := I) g (by omega) (by omega) h1
    exact ⟨M', e, gR_le r (by omega)⟩
  rw [if_neg z]
  clear z
  by_cases z : k = 26
  · rw [if_pos z]
    obtain ⟨M', e, r⟩ := lc_26 (sc := sc) (L := L) (I := I) g (by omega) (by omega) h1
    exact ⟨M', e, gR_le r (by omega)⟩
  rw [if_neg z]
  clear z
  by_cases z : k = 27
  · rw [if_pos z]
    obtain ⟨M', e, r⟩ := lc_27 (sc := sc) (L := L) (I := I) g (by omega)
    exact ⟨M', e, gR_le r (by omega)⟩
  rw [if_neg z]
  clear z
  by_cases z : k = 28
  · rw [if_pos z]
    obtain ⟨M', e, r⟩ := lc_28 (sc := sc) (L := L) (I := I) g (by omega)
    exact ⟨M', e, gR_le r (by omega)⟩
  rw [if_neg z]
  clear z
  by_cases z : k = 29
  · rw [if_pos z]
    obtain ⟨M', e, r⟩ := lc_29 (sc := sc) (L := L) (I := I) g (by omega) (by omega) h1
    exact ⟨M', e, gR_le r (by omega)⟩
  rw [if_neg z]
  clear z
  by_cases z : k = 30
  · rw [if_pos z]
    obtain ⟨M', e, r⟩ := lc_30 (sc := sc) (L := L) (I := I) g (by omega) (by omega) h1 h2
    exact ⟨M', e, gR_le r (by omega)⟩
  rw [if_neg z]
  clear z
  by_cases z : k = 31
  · rw [if_pos z]
    obtain ⟨M', e, r⟩ := lc_31 (sc := sc) (L := L) (I := I) g h1
    exact ⟨M', e, gR_le r (by omega)⟩
  rw [if_neg z]
  clear z
  by_cases z : k = 32
  · rw [if_pos z]
    obtain ⟨M', e, r⟩ := lc_32 (sc := sc) (L := L) (I := I) g (by omega) (by omega) h1
    exact ⟨M', e, gR_le r (by omega)⟩
  rw [if_neg z]
  clear z
  by_cases z : k = 33
  · rw [if_pos z]
    obtain ⟨M', e, r⟩ := lc_33 (sc := sc) (L := L) (I := I) g (by omega) (by omega) h1
    exact ⟨M', e, gR_le r (by omega)⟩
  rw [if_neg z]
  clear z
  by_cases z : k = 34
  · rw [if_pos z]
    obtain ⟨M', e, r⟩ := lc_34 (sc := sc) (L := L) (I := I) g (by omega) h1
    exact ⟨M', e, gR_le r (by omega)⟩
  rw [if_neg z]
  clear z
  by_cases z : k = 35
  · rw [if_pos z]
    obtain ⟨M', e, r⟩ := lc_35 (sc := sc) (L := L) (I := I) g (by omega) h1
    exact ⟨M', e, gR_le r (by omega)⟩
  rw [if_neg z]
  clear z
  by_cases z : k = 36
  · rw [if_pos z]
    obtain ⟨M', e, r⟩ := lc_36 (sc := sc) (L := L) (I := I) g
    exact ⟨M', e, gR_le r (by omega)⟩
  rw [if_neg z]
  clear z
  by_cases z : k = 37
  · rw [if_pos z]
    obtain ⟨M', e, r⟩ := lc_37 (sc := sc) (L := L) (I := I) g
    exact ⟨M', e, gR_le r (by omega)⟩
  rw [if_neg z]
  clear z
  by_cases z : k = 38
  · rw [if_pos z]
    obtain ⟨M', e, r⟩ := lc_38 (sc := sc) (L := L) (I := I) g
    exact ⟨M', e, gR_le r (by omega)⟩
  rw [if_neg z]
  clear z
  by_cases z : k = 39
  · rw [if_pos z]
    obtain ⟨M', e, r⟩ := lc_39 (sc := sc) (L := L) (I := I) g
    exact ⟨M', e, gR_le r (by omega)⟩
  rw [if_neg z]
  clear z
  by_cases z : k = 40
  · rw [if_pos z]
    obtain ⟨M', e, r⟩ := lc_40 (sc := sc) (L := L) (I := I) g
    exact ⟨M', e, gR_le r (by omega)⟩
  rw [if_neg z]
  clear z
  by_cases z : k = 41
  · rw [if_pos z]
    obtain ⟨M', e, r⟩ := lc_41 (sc := sc) (L := L) (I := I) hfp g
    exact ⟨M', e, gR_le r (by omega)⟩
  rw [if_neg z]
  clear z
  by_cases z : k = 42
  · rw [if_pos z]
    obtain ⟨M', e, r⟩ := lc_42 (sc := sc) (L := L) (I := I) hfp g (by omega)
    exact ⟨M', e, gR_le r (by omega)⟩
  rw [if_neg z]
  clear z
  by_cases z : k = 43
  · rw [if_pos z]
    obtain ⟨M', e, r⟩ := lc_43 (sc := sc) (L := L) (I := I) g (by omega)
    exact ⟨M', e, gR_le r (by omega)⟩
  rw [if_neg z]
  clear z
  by_cases z : k = 44
  · rw [if_pos z]
    obtain ⟨M', e, r⟩ := lc_44 (sc := sc) (L := L) (I := I) g (by omega)
    exact ⟨M', e, gR_le r (by omega)⟩
  rw [if_neg z]
  clear z
  by_cases z : k = 45
  · rw [if_pos z]
    obtain ⟨M', e, r⟩ := lc_45 (sc := sc) (L := L) (I := I) g (by omega)
    exact ⟨M', e, gR_le r (by omega)⟩
  rw [if_neg z]
  clear z
  by_cases z : k = 46
  · rw [if_pos z]
    obtain ⟨M', e, r⟩ := lc_46 (sc := sc) (L := L) (I := I) g h1
    exact ⟨M', e, gR_le r (by omega)⟩
  rw [if_neg z]
  clear z
  by_cases z : k = 47
  · rw [if_pos z]
    obtain ⟨M', e, r⟩ := lc_47 (sc := sc) (L := L) (I := I) g h1
    exact ⟨M', e, gR_le r (by omega)⟩
  rw [if_neg z]
  clear z
  by_cases z : k = 48
  · rw [if_pos z]
    obtain ⟨M', e, r⟩ := lc_48 (sc := sc) (L := L) (I := I) g (by omega) (by omega)
    exact ⟨M', e, gR_le r (by omega)⟩
  rw [if_neg z]
  clear z
  by_cases z : k = 49
  · rw [if_pos z]
    obtain ⟨M', e, r⟩ := lc_49 (sc := sc) (L := L) (I := I) g (by omega) (by omega)
    exact ⟨M', e, gR_le r (by omega)⟩
  rw [if_neg z]
  clear z
  by_cases z : k = 50
  · rw [if_pos z]
    obtain ⟨M', e, r⟩ := lc_50 (sc := sc) (L := L) (I := I) g (by omega) (by omega)
    exact ⟨M', e, gR_le r (by omega)⟩
  rw [if_neg z]
  clear z
  by_cases z : k = 51
  · rw [if_pos z]
    obtain ⟨M', e, r⟩ := lc_51 (sc := sc) (L := L) (I := I) g
    exact ⟨M', e, gR_le r (by omega)⟩
  rw [if_neg z]
  clear z
  by_cases z : k = 52
  · rw [if_pos z]
    obtain ⟨M', e, r⟩ := lc_52 (sc := sc) (L := L) (I := I) g
    exact ⟨M', e, gR_le r (by omega)⟩
  rw [if_neg z]
  clear z
  by_cases z : k = 53
  · rw [if_pos z]
    obtain ⟨M', e, r⟩ := lc_53 (sc := sc) (L := L) (I := I) g
    exact ⟨M', e, gR_le r (by omega)⟩
  rw [if_neg z]
  clear z
  exact ⟨M, rfl, gR_le g (by omega)⟩
theorem lw_loop {sc : Nat → Int32} {L : Nat} (hfp : fpOK) (hL : L ≤ 2048) : ∀ (n k B : Nat) (M : xM), gR B M → 13 ≤ B → B + 24400 * n < 10 ^ 8 → L < 4 * (k + n) → 1 ≤ n → 4 * k ≤ 2048 → ∃ out, f_law_L sc L n (nI (4 * k)) M = some out
  | 0, k, B, M, g, hB, hB2, hk, hn, h2 => by omega
  | n + 1, k, B, M, g, hB, hB2, hk, hn, h2 => by
    rw [f_law_L.eq_2, show Int32.ofNat L = nI L from rfl, show (4 : Int32) = nI 4 from rfl]
    by_cases z : L < 4 * k + 4
    · refine ⟨M, if_pos ?_⟩
      by_cases y : 4 ≤ L
      · rw [pi_sub y]
        exact nI_lt (by omega) (by omega)
      · exact Int32.lt_of_lt_of_le (pk_sneg (by omega) (by omega)) (nI_le (a := 0) (Nat.zero_le _) (by omega))
    · rw [if_neg (by rw [pi_sub (by omega)]; exact nI_nlt (by omega) (by omega)), if_pos (pi_in (by omega) (by omega))]
      obtain ⟨M1, e1, g1⟩ := lc_case (sc := sc) (L := L) (I := nI (4 * k)) (k := (sc (nI (4 * k)).toNatClampNeg) &&& (63 : Int32)) hfp g hB (by omega) (by rw [show nI (4 * k) + (1 : Int32) = nI (4 * k + 1) from nI_1 _]; exact pi_in (by omega) (by omega)) (by rw [show nI (4 * k) + (2 : Int32) = nI (4 * k + 2) from nI_add _ 2]; exact pi_in (by omega) (by omega)) (by rw [show nI (4 * k) + (3 : Int32) = nI (4 * k + 3) from nI_add _ 3]; exact pi_in (by omega) (by omega))
      rw [e1, Option.bind_some, nI_add, show 4 * k + 4 = 4 * (k + 1) by omega]
      exact lw_loop hfp hL n (k + 1) (B + 24400) M1 g1 (by omega) (by omega) (by omega) (by omega) (by omega)
theorem lw_all {sc : Nat → Int32} {L : Nat} (hfp : fpOK) (hL : L ≤ 2048) {M : xM} (g : gR 13 M) : ∃ out, f_law_L sc L 513 (0 : Int32) M = some out := lw_loop hfp hL 513 0 13 M g (Nat.le_refl _) (by omega) (by omega) (by omega) (by omega)
