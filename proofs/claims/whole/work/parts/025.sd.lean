/-! the start: all of it -/
theorem s_start {args : Array Value} {s : State} (hts : ∀ w ∈ lw_tbl, w.before args s = true) (h : (Cond.and given_1 narrow_1).before args s = true) : ∃ G : xG, xbs G = s.heap.size ∧ xK G s ∧ cX G s := by
  have hA : ∀ a : Nat, a < s.heap.size → ¬ (fun q : Nat => s.heap.size ≤ q) a := fun a h => Nat.not_le.mpr h
  obtain ⟨dC, dI, hKn⟩ := s_Kn hts
  obtain ⟨c0, a0, b0⟩ := s_arrI (hts _ (by decide +kernel))
  obtain ⟨c1, a1, b1⟩ := s_arrB (hts _ (by decide +kernel))
  obtain ⟨c2, a2, b2⟩ := s_arrC (hts _ (by decide +kernel))
  obtain ⟨c3, a3, b3⟩ := s_arrO (C := RX2) (hts _ (by decide +kernel))
  obtain ⟨c4, a4, b4⟩ := s_arrO (C := RX3) (hts _ (by decide +kernel))
  obtain ⟨c5, a5, b5⟩ := s_arrO (C := RX5) (hts _ (by decide +kernel))
  obtain ⟨c6, a6, b6⟩ := s_arrL (hts _ (by decide +kernel))
  obtain ⟨c7, a7, b7⟩ := s_arrD (hts _ (by decide +kernel))
  obtain ⟨tDO, z1, z2⟩ := s_DO hts h hA
  obtain ⟨tDT, z3, z4⟩ := s_DT hts h hA
  obtain ⟨tSM, z5, z6⟩ := s_SM hts h hA
  obtain ⟨cm, tCM, z7, z8, z9⟩ := s_CM hts h hA
  obtain ⟨tx, tb, z10, z11⟩ := s_ST h hA
  have zf := s_fm h
  have zc := s_CS hts h hA
  obtain ⟨zu1, zu2⟩ := s_US hts h hA
  have cmE : ∀ i, i < 10 → (if i = 10 then tDO else if i = 11 then tDT else if i = 12 then tCM else if i = 13 then tSM else cm i) = cm i := fun i hi => by
    rw [if_neg (by omega), if_neg (by omega), if_neg (by omega), if_neg (by omega)]
  refine ⟨(dC, dI, (fun k => ([c0, c1, c2, c3, c4, c5, c6, c7] : List ClassId).getD k 0), s.heap.size, (fun _ => 0), tx, tb, fun i => if i = 10 then tDO else if i = 11 then tDT else if i = 12 then tCM else if i = 13 then tSM else cm i), rfl, ⟨⟨hKn, fun k q hq => ?_⟩, Nat.le_refl _, zu1, zu2, s_Nw hts, s_Tx hts, s_Nc h, zc, ⟨z1, z2⟩, ⟨z3, z4⟩, s_SF hts h hA, ⟨z8, ?_⟩, ⟨z5, z6⟩, fun i hi => ?_, z10⟩, s_AO hts, zc, Nat.le_refl _, s_cN hts⟩
  · match k, hq with
    | 0, hq => cases hq; exact ⟨a0, b0⟩
    | 1, hq => cases hq; exact ⟨a1, b1⟩
    | 2, hq => cases hq; exact ⟨a2, b2⟩
    | 3, hq => cases hq; exact ⟨a3, b3⟩
    | 4, hq => cases hq; exact ⟨a4, b4⟩
    | 5, hq => cases hq; exact ⟨a5, b5⟩
    | 6, hq => cases hq; exact ⟨a6, b6⟩
    | 7, hq => cases hq; exact ⟨a7, b7⟩
    | k + 8, hq => simp at hq
  · obtain ⟨cell, q1, q2, q3, q4, q5, q6, q7⟩ := z9
    exact ⟨cell, q1, q2, q3, q4, q5, (fun j hj => by rw [q6 j hj]; exact congrArg (fun z => some (Value.ref z)) (cmE j hj).symm), q7⟩
  · show va_O RX1 (if i = 10 then tDO else if i = 11 then tDT else if i = 12 then tCM else if i = 13 then tSM else cm i) _ s s.heap ∧ va_OF "java/lang/Enum" "ordinal" "I" (.int (Int32.ofNat i)) (if i = 10 then tDO else if i = 11 then tDT else if i = 12 then tCM else if i = 13 then tSM else cm i) _ s s.heap ∧ va_OF RX1 "form" "Ljava/lang/String;" (.ref (tx i)) (if i = 10 then tDO else if i = 11 then tDT else if i = 12 then tCM else if i = 13 then tSM else cm i) _ s s.heap
    rw [cmE i hi]
    exact ⟨(z7 i hi).2.1, (z7 i hi).2.2, vk_OFof (z7 i hi).1 (x_eqr (zf i hi) (z11 i hi)) hA⟩
