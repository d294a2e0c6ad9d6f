/-! pure: the first memory -/
def s0 : hS := (fun _ => 0, fun _ => 0, fun _ _ => 0, fun _ _ => 0, fun _ _ => 0)
theorem s0_V : aV 13 s0 := by
  refine ⟨⟨⟨⟨⟨?_, ?_, ?_, ?_, ?_⟩, ⟨⟨?_, ?_, ?_, ?_, ?_, ?_, ?_⟩, ⟨?_, ?_⟩, ?_, ?_⟩, ?_⟩, ?_⟩, ?_⟩, ⟨?_, ?_⟩, ?_, ?_⟩
  · exact Nat.zero_le _
  · exact Nat.zero_le _
  · exact fun k hk => Nat.lt_of_lt_of_le (Nat.zero_lt_succ _) (Nat.le_refl 12)
  · exact fun w hw => ⟨Nat.zero_le _, Nat.zero_le _, Nat.zero_le _, Nat.zero_le _⟩
  · exact fun i hi => ⟨Nat.zero_le _, Nat.zero_le _, Nat.zero_le _⟩
  · exact fun k hk => absurd hk (Nat.not_lt_zero k)
  · exact fun j k hj _ _ => absurd hj (Nat.not_lt_zero j)
  · exact fun w _ => Nat.zero_le _
  · exact fun v w _ _ h => absurd rfl h
  · exact fun k w hk => absurd hk (Nat.not_lt_zero k)
  · exact fun i hi => absurd hi (Nat.not_lt_zero i)
  · rfl
  · exact fun i j _ hj => absurd hj (Nat.not_lt_zero j)
  · exact fun i hi => absurd hi (Nat.not_lt_zero i)
  · exact fun w _ h => absurd rfl h
  · exact fun w _ _ => rfl
  · exact fun i hi => absurd hi (Nat.not_lt_zero i)
  · exact fun w _ => ⟨fun h => absurd rfl h, fun h => absurd rfl h⟩
  · exact fun i hi => ⟨Nat.zero_le _, Nat.zero_le _⟩
  · rfl
  · decide
  · exact fun j hj => Nat.zero_le _
  · exact fun i hi => Nat.zero_le _
theorem M0_gP {i : Nat} (hi : i < 11) : gP M0 i = 22 + 21 * i := by
  unfold gP
  by_cases z : i < 3
  · rw [if_pos z]
    have : i = 0 ∨ i = 1 ∨ i = 2 := by omega
    rcases this with rfl | rfl | rfl <;> rfl
  · rw [if_neg z]
    show 85 + 21 * (i - 3) = 22 + 21 * i
    omega
theorem M0_V {j : Nat} (hj : j < 11) : cV (22 + 21 * j) M0 := by
  refine ⟨?_, fun i hi => ⟨i, hi, M0_cust⟩, fun i k hi hk e => ?_⟩
  · unfold xkd
    rw [if_neg (by omega), if_pos (by omega), show (22 + 21 * j - 22) % 21 = 0 by omega]
    rfl
  · rw [M0_cust, M0_cust] at e
    omega
theorem M0_R {j : Nat} (hj : j < 11) : cR (22 + 21 * j) M0 s0 := by
  refine ⟨M0_V hj, fun i hi => ?_, fun k hk => ?_, fun w hw => ?_, fun i hi f hf => ?_, fun r hr => ?_, fun i hi => ⟨Nat.zero_le _, Nat.zero_le _⟩⟩
  · rw [show M0.1 (22 + 21 * j) = fun _ => 0 from M0_hall0 (r := 0) (by decide)]
    rfl
  · rw [show M0.1 (22 + 21 * j + 2) = fun _ => 0 from M0_hall0 (r := 2) (by decide)]
    rfl
  · rw [show 22 + 21 * j + 3 + 15 + w = 22 + 21 * j + (18 + w) by omega, M0_hall (by omega), M0_hall (by omega), M0_hall (by omega), M0_hall (by omega)]
    rw [if_neg (by omega), if_neg (by omega), if_pos (by omega), if_neg (by omega)]
    exact ⟨rfl, rfl, rfl, rfl⟩
  · rw [M0_cust, Nat.add_assoc, M0_hall0 (show 6 + i < 18 by omega)]
    rfl
  · rw [show M0.1 (22 + 21 * j + 4) = fun _ => 0 from M0_hall0 (r := 4) (by decide), show M0.1 (22 + 21 * j + 5) = fun _ => 0 from M0_hall0 (r := 5) (by decide)]
    exact ⟨rfl, rfl⟩
theorem M0_C : gC M0 s0 0 (fun _ => s0) 0 s0 := by
  refine ⟨fun i hi => by rw [M0_gP hi]; exact M0_V hi, fun i j hi hj e => by rw [M0_gP hi, M0_gP hj] at e; omega, ?_, fun i hi => absurd hi (Nat.not_lt_zero i), fun h => absurd rfl h, rfl, Nat.zero_le _, rfl, Nat.zero_le _⟩
  rw [M0_gP (by decide)]
  exact M0_R (j := 0) (by decide)
def g0_ : Nat → Int32 := upd (upd (upd (fun _ => 0) 14 (-1)) 19 (-1)) 24 (-1)
theorem g0_z {k : Nat} (h1 : k ≠ 14) (h2 : k ≠ 19) (h3 : k ≠ 24) : g0_ k = nI 0 := by
  unfold g0_
  rw [pk_un h3, pk_un h2, pk_un h1]
  rfl
theorem M0_d : dH (M0.1 10) s0 (aW s0) := by
  have e : M0.1 10 = g0_ := funext fun k => rfl
  rw [e]
  refine ⟨fun j hj => ?_, ?_, fun w hw => ?_, fun i hi => absurd hi (Nat.not_lt_zero i), fun i hi => absurd hi (Nat.not_lt_zero i), fun k h1 h2 => ?_, fun k hk => absurd hk (Nat.not_lt_zero k), fun r hr => ?_⟩
  · have h : dix j ≠ 14 ∧ dix j ≠ 19 ∧ dix j ≠ 24 := by
      have : ∀ j, j < 9 → dix j ≠ 14 ∧ dix j ≠ 19 ∧ dix j ≠ 24 := by decide
      exact this j hj
    exact g0_z h.1 h.2.1 h.2.2
  · exact g0_z (by decide) (by decide) (by decide)
  · refine ⟨g0_z (by omega) (by omega) (by omega), fun h => absurd rfl h, ?_, fun h => absurd rfl h⟩
    have : w = 0 ∨ w = 1 ∨ w = 2 := by omega
    rcases this with rfl | rfl | rfl <;> rfl
  · have h1 : 27 + 8 * 0 ≤ k := h1
    exact g0_z (by omega) (by omega) (by omega)
  · exact ⟨g0_z (by omega) (by omega) (by omega), g0_z (by omega) (by omega) (by omega)⟩
theorem M0_M : gM M0 s0 0 (fun _ => s0) 0 s0 := ⟨M0_d, fun i hi => absurd hi (Nat.not_lt_zero i), fun h => absurd rfl h, rfl, Nat.zero_le _, rfl, Nat.zero_le _⟩
theorem M0_B {h : Nat} (hh : h = 4 ∨ h = 6) : sB h M0 0 (fun _ => 0) := by
  rcases hh with rfl | rfl
  · exact ⟨rfl, rfl, fun j hj => absurd hj (Nat.not_lt_zero j), .inl rfl, Nat.zero_le _, fun j _ => nar_b 0 (by decide)⟩
  · exact ⟨rfl, rfl, fun j hj => absurd hj (Nat.not_lt_zero j), .inl rfl, Nat.zero_le _, fun j _ => nar_b 0 (by decide)⟩
theorem M0_let : ∀ j, j < 48 → xv_tab LX7_init_q8 48 j = nI (tLet.getD j 0) := by decide +kernel
theorem M0_beg : ∀ j, j < 10 → xv_tab LX7_init_q9 10 j = nI (tBeg.getD j 0) := by decide +kernel
theorem M0_T : gT M0 0 0 0 (fun _ => 0) 0 (fun _ => 0) := ⟨⟨rfl, rfl, M0_B (.inl rfl), M0_B (.inr rfl)⟩, ⟨rfl, rfl, rfl, fun j hj => absurd hj (Nat.not_lt_zero j), rfl, fun j hj => absurd hj (Nat.not_lt_zero j), M0_let, M0_beg⟩, Nat.zero_le _, fun j hj => absurd hj (Nat.not_lt_zero j), Nat.zero_le _, Nat.zero_le _, Nat.zero_le _⟩
theorem M0_gR : gR 13 M0 := ⟨s0, 0, fun _ => s0, 0, s0, 0, 0, 0, fun _ => 0, 0, fun _ => 0, M0_C, M0_M, M0_T, s0_V, fun i hi => absurd hi (Nat.not_lt_zero i), fun h => absurd rfl h⟩
/-- the law's pure loop always ends well -/
theorem law_ok {sc : Nat → Int32} {L : Nat} (hfp : fpOK) (hL : L ≤ 2048) : ∃ out, f_law_L sc L 513 (0 : Int32) M0 = some out := lw_all hfp hL M0_gR
