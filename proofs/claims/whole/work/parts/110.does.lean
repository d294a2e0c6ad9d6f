/-! pure: a script's command carried out on both sides -/
def oD (b : Nat) (a1 a2 a3 : Int32) (s : hS) : Nat × Nat × hS := if b = 0 then oAdd (ix a1) s else if b = 1 then oOpen (ix a1) (ix a2) (ix a3) s else if b = 2 then oClose (ix a1) s else if b = 3 then oSwap (ix a1) (ix a2) s else if b = 4 then oSit (ix a1) s else if b = 5 then oStand (ix a1) s else if b = 6 then oRemove (ix a1) s else if b = 7 then oCall s else oAdv (ix a1) s
/-- how many numbers a word has -/
def nAr (b : Nat) : Nat := [1, 3, 1, 2, 1, 1, 1, 0, 1].getD b 0
theorem oD_V {B : Nat} {s : hS} (v : aV B s) (hB : 13 ≤ B) (hB2 : B < 2 ^ 29) {b : Nat} (hb : b < 9) (a1 a2 a3 : Int32) : aV (B + 400) (oD b a1 a2 a3 s).2.2 ∧ (oD b a1 a2 a3 s).2.1 < 2 ^ 30 ∧ (oD b a1 a2 a3 s).1 ≤ 4 := by
  have h : b = 0 ∨ b = 1 ∨ b = 2 ∨ b = 3 ∨ b = 4 ∨ b = 5 ∨ b = 6 ∨ b = 7 ∨ b = 8 := by omega
  rcases h with rfl | rfl | rfl | rfl | rfl | rfl | rfl | rfl | rfl
  · have av := aV_add v hB (ix a1)
    have le := oAdd_le (s := s) (a1 := a1)
    show aV (B + 400) (oAdd (ix a1) s).2.2 ∧ (oAdd (ix a1) s).2.1 < 2 ^ 30 ∧ (oAdd (ix a1) s).1 ≤ 4
    exact ⟨av.1, by omega, by omega⟩
  · have av := aV_open v hB (ix a1) (ix a2) (ix a3)
    have le := oOpen_le (s := s) (a1 := a1) (a2 := a2) (a3 := a3)
    show aV (B + 400) (oOpen (ix a1) (ix a2) (ix a3) s).2.2 ∧ (oOpen (ix a1) (ix a2) (ix a3) s).2.1 < 2 ^ 30 ∧ (oOpen (ix a1) (ix a2) (ix a3) s).1 ≤ 4
    exact ⟨av.1, by omega, by omega⟩
  · have av := aV_close v hB (ix a1)
    have le := oClose_le (s := s) (a1 := a1)
    show aV (B + 400) (oClose (ix a1) s).2.2 ∧ (oClose (ix a1) s).2.1 < 2 ^ 30 ∧ (oClose (ix a1) s).1 ≤ 4
    exact ⟨av.1, by omega, by omega⟩
  · have av := aV_swap v hB (ix a1) (ix a2)
    have le := oSwap_le (s := s) (a1 := a1) (a2 := a2)
    show aV (B + 400) (oSwap (ix a1) (ix a2) s).2.2 ∧ (oSwap (ix a1) (ix a2) s).2.1 < 2 ^ 30 ∧ (oSwap (ix a1) (ix a2) s).1 ≤ 4
    exact ⟨av.1, by omega, by omega⟩
  · have av := aV_sit v hB (ix a1)
    have le := oSit_le (s := s) (a1 := a1)
    show aV (B + 400) (oSit (ix a1) s).2.2 ∧ (oSit (ix a1) s).2.1 < 2 ^ 30 ∧ (oSit (ix a1) s).1 ≤ 4
    exact ⟨av.1, by omega, by omega⟩
  · have av := aV_stand v hB (ix a1)
    have le := oStand_le (s := s) (a1 := a1)
    show aV (B + 400) (oStand (ix a1) s).2.2 ∧ (oStand (ix a1) s).2.1 < 2 ^ 30 ∧ (oStand (ix a1) s).1 ≤ 4
    exact ⟨av.1, by omega, by omega⟩
  · have av := aV_remove v hB (ix a1)
    have le := oRemove_le (s := s) (a1 := a1)
    show aV (B + 400) (oRemove (ix a1) s).2.2 ∧ (oRemove (ix a1) s).2.1 < 2 ^ 30 ∧ (oRemove (ix a1) s).1 ≤ 4
    exact ⟨av.1, by omega, by omega⟩
  · have av := aV_call v
    have le := oCall_le (s := s) 
    show aV (B + 400) (oCall s).2.2 ∧ (oCall s).2.1 < 2 ^ 30 ∧ (oCall s).1 ≤ 4
    exact ⟨av.1, by omega, by omega⟩
  · have av := aV_adv v hB (ix a1)
    have le := oAdv_le (s := s) (a1 := a1)
    show aV (B + 400) (oAdv (ix a1) s).2.2 ∧ (oAdv (ix a1) s).2.1 < 2 ^ 30 ∧ (oAdv (ix a1) s).1 ≤ 4
    exact ⟨av.1, by omega, by omega⟩
theorem oc_sg {l : List Int32} {o : Nat × Nat × hS} (hv : o.2.1 < 2 ^ 30) (ho : o.1 ≤ l.length) (hl : ∀ i, i < l.length → l.getD i 0 < 0) : (0 ≤ oc l o) ↔ o.1 = 0 := by
  unfold oc
  by_cases z : o.1 = 0
  · rw [if_pos z]
    exact ⟨fun _ => z, fun _ => nI_le (a := 0) (by omega) (by omega)⟩
  · rw [if_neg z]
    exact ⟨fun h => absurd h (Int32.not_le.mpr (hl (o.1 - 1) (by omega))), fun h => absurd h z⟩
section DO
variable {M : xM} {s : hS}
/-- the class performs command c -/
theorem c_perf {B : Nat} (v : aV B s) (hB : 13 ≤ B) (hB2 : B < 2 ^ 29) (k1 : xkd (M.2.1 0 1) = 5) (r : cR (M.2.1 0 1) M s) {c : Nat} (hc : c < 10) {l : List Nat} (hl : if c = 9 then l = [1] else ∀ k, k < l.length → M.1 3 k = nI (l.getD k 0)) (hn : l.length = nAr (wd c)) : ∃ x M', f_X6_perform c M = some (x, M') ∧ cR (M.2.1 0 1) M' (oD (wd c) (nI (l.getD 0 0)) (nI (l.getD 1 0)) (nI (l.getD 2 0)) s).2.2 ∧ cF (M.2.1 0 1) M M' ∧ (0 ≤ x ↔ (oD (wd c) (nI (l.getD 0 0)) (nI (l.getD 1 0)) (nI (l.getD 2 0)) s).1 = 0) := by
  obtain ⟨⟨im, hF⟩, x1, hu⟩ := id v
  have b := im.1.1
  have k := im.1.2.1
  have V := oD_V v hB hB2 (wd_lt c hc) (nI (l.getD 0 0)) (nI (l.getD 1 0)) (nI (l.getD 2 0))
  unfold f_X6_perform
  rw [if_pos (show x_in (0 : Int32) 3 = true by decide), if_pos (show x_in (1 : Int32) 3 = true by decide), if_pos (show x_in (2 : Int32) 3 = true by decide), show (0 : Int32).toNatClampNeg = 0 from rfl, show (1 : Int32).toNatClampNeg = 1 from rfl, show (2 : Int32).toNatClampNeg = 2 from rfl]
  have h : c = 0 ∨ c = 1 ∨ c = 2 ∨ c = 3 ∨ c = 4 ∨ c = 5 ∨ c = 6 ∨ c = 7 ∨ c = 8 ∨ c = 9 := by omega
  rcases h with rfl | rfl | rfl | rfl | rfl | rfl | rfl | rfl | rfl | rfl
  · change aV (B + 400) (oAdd (ix (nI (l.getD 0 0))) s).2.2 ∧ (oAdd (ix (nI (l.getD 0 0))) s).2.1 < 2 ^ 30 ∧ (oAdd (ix (nI (l.getD 0 0))) s).1 ≤ 4 at V
    have le := oAdd_le (s := s) (a1 := nI (l.getD 0 0))
    change l.length = 1 at hn
    rw [if_neg (show ¬ (0 : Nat) = 9 by decide)] at hl
    obtain ⟨M', e1, e2, e3⟩ := o_add r b k (a := nI (l.getD 0 0))
    refine ⟨_, M', ?_, e2, e3, oc_sg (l := [-2, -3]) V.2.1 (show (oAdd (ix (nI (l.getD 0 0))) s).1 ≤ 2 by omega) (by decide)⟩
    rw [if_pos (show x_in (Int32.ofNat 0) 10 = true by decide), if_pos (show Int32.ofNat ((Int32.ofNat 0).toNatClampNeg + 1) = 1 by decide), if_pos k1]
    rw [hl 0 (by omega)]
    rw [e1, m_bind2]
    rfl
  · change aV (B + 400) (oOpen (ix (nI (l.getD 0 0))) (ix (nI (l.getD 1 0))) (ix (nI (l.getD 2 0))) s).2.2 ∧ (oOpen (ix (nI (l.getD 0 0))) (ix (nI (l.getD 1 0))) (ix (nI (l.getD 2 0))) s).2.1 < 2 ^ 30 ∧ (oOpen (ix (nI (l.getD 0 0))) (ix (nI (l.getD 1 0))) (ix (nI (l.getD 2 0))) s).1 ≤ 4 at V
    have le := oOpen_le (s := s) (a1 := nI (l.getD 0 0)) (a2 := nI (l.getD 1 0)) (a3 := nI (l.getD 2 0))
    change l.length = 3 at hn
    rw [if_neg (show ¬ (1 : Nat) = 9 by decide)] at hl
    obtain ⟨M', e1, e2, e3⟩ := o_open r b (a := nI (l.getD 0 0)) (o := nI (l.getD 1 0)) (p := nI (l.getD 2 0))
    refine ⟨_, M', ?_, e2, e3, oc_sg (l := [-1, -2, -3]) V.2.1 (show (oOpen (ix (nI (l.getD 0 0))) (ix (nI (l.getD 1 0))) (ix (nI (l.getD 2 0))) s).1 ≤ 3 by omega) (by decide)⟩
    rw [if_pos (show x_in (Int32.ofNat 1) 10 = true by decide), if_neg (show ¬ Int32.ofNat ((Int32.ofNat 1).toNatClampNeg + 1) = 1 by decide), if_pos (show Int32.ofNat ((Int32.ofNat 1).toNatClampNeg + 1) = 2 by decide), if_pos k1]
    rw [hl 0 (by omega)]
    rw [hl 1 (by omega)]
    rw [hl 2 (by omega)]
    rw [e1, m_bind2]
    rfl
  · change aV (B + 400) (oClose (ix (nI (l.getD 0 0))) s).2.2 ∧ (oClose (ix (nI (l.getD 0 0))) s).2.1 < 2 ^ 30 ∧ (oClose (ix (nI (l.getD 0 0))) s).1 ≤ 4 at V
    have le := oClose_le (s := s) (a1 := nI (l.getD 0 0))
    change l.length = 1 at hn
    rw [if_neg (show ¬ (2 : Nat) = 9 by decide)] at hl
    obtain ⟨M', e1, e2, e3⟩ := o_close r b k (a := nI (l.getD 0 0))
    refine ⟨_, M', ?_, e2, e3, oc_sg (l := [-1, -3]) V.2.1 (show (oClose (ix (nI (l.getD 0 0))) s).1 ≤ 2 by omega) (by decide)⟩
    rw [if_pos (show x_in (Int32.ofNat 2) 10 = true by decide), if_neg (show ¬ Int32.ofNat ((Int32.ofNat 2).toNatClampNeg + 1) = 1 by decide), if_neg (show ¬ Int32.ofNat ((Int32.ofNat 2).toNatClampNeg + 1) = 2 by decide), if_pos (show Int32.ofNat ((Int32.ofNat 2).toNatClampNeg + 1) = 3 by decide), if_pos k1]
    rw [hl 0 (by omega)]
    rw [e1, m_bind2]
    rfl
  · change aV (B + 400) (oCall s).2.2 ∧ (oCall s).2.1 < 2 ^ 30 ∧ (oCall s).1 ≤ 4 at V
    have le := oCall_le (s := s)
    change l.length = 0 at hn
    rw [if_neg (show ¬ (3 : Nat) = 9 by decide)] at hl
    obtain ⟨M', e1, e2, e3⟩ := o_call r b
    refine ⟨_, M', ?_, e2, e3, oc_sg (l := [-5]) V.2.1 (show (oCall s).1 ≤ 1 by omega) (by decide)⟩
    rw [if_pos (show x_in (Int32.ofNat 3) 10 = true by decide), if_neg (show ¬ Int32.ofNat ((Int32.ofNat 3).toNatClampNeg + 1) = 1 by decide), if_neg (show ¬ Int32.ofNat ((Int32.ofNat 3).toNatClampNeg + 1) = 2 by decide), if_neg (show ¬ Int32.ofNat ((Int32.ofNat 3).toNatClampNeg + 1) = 3 by decide), if_pos (show Int32.ofNat ((Int32.ofNat 3).toNatClampNeg + 1) = 4 by decide), if_pos k1]
    rw [e1, m_bind2]
    rfl
  · change aV (B + 400) (oSwap (ix (nI (l.getD 0 0))) (ix (nI (l.getD 1 0))) s).2.2 ∧ (oSwap (ix (nI (l.getD 0 0))) (ix (nI (l.getD 1 0))) s).2.1 < 2 ^ 30 ∧ (oSwap (ix (nI (l.getD 0 0))) (ix (nI (l.getD 1 0))) s).1 ≤ 4 at V
    have le := oSwap_le (s := s) (a1 := nI (l.getD 0 0)) (a2 := nI (l.getD 1 0))
    change l.length = 2 at hn
    rw [if_neg (show ¬ (4 : Nat) = 9 by decide)] at hl
    obtain ⟨M', e1, e2, e3⟩ := o_swap r b (a := nI (l.getD 0 0)) (c := nI (l.getD 1 0))
    refine ⟨_, M', ?_, e2, e3, oc_sg (l := [-1, -2, -3, -4]) V.2.1 (show (oSwap (ix (nI (l.getD 0 0))) (ix (nI (l.getD 1 0))) s).1 ≤ 4 by omega) (by decide)⟩
    rw [if_pos (show x_in (Int32.ofNat 4) 10 = true by decide), if_neg (show ¬ Int32.ofNat ((Int32.ofNat 4).toNatClampNeg + 1) = 1 by decide), if_neg (show ¬ Int32.ofNat ((Int32.ofNat 4).toNatClampNeg + 1) = 2 by decide), if_neg (show ¬ Int32.ofNat ((Int32.ofNat 4).toNatClampNeg + 1) = 3 by decide), if_neg (show ¬ Int32.ofNat ((Int32.ofNat 4).toNatClampNeg + 1) = 4 by decide), if_pos (show Int32.ofNat ((Int32.ofNat 4).toNatClampNeg + 1) = 5 by decide), if_pos k1]
    rw [hl 0 (by omega)]
    rw [hl 1 (by omega)]
    rw [e1, m_bind2]
    rfl
  · change aV (B + 400) (oSit (ix (nI (l.getD 0 0))) s).2.2 ∧ (oSit (ix (nI (l.getD 0 0))) s).2.1 < 2 ^ 30 ∧ (oSit (ix (nI (l.getD 0 0))) s).1 ≤ 4 at V
    have le := oSit_le (s := s) (a1 := nI (l.getD 0 0))
    change l.length = 1 at hn
    rw [if_neg (show ¬ (5 : Nat) = 9 by decide)] at hl
    obtain ⟨M', e1, e2, e3⟩ := o_sit r b k (a := nI (l.getD 0 0))
    refine ⟨_, M', ?_, e2, e3, oc_sg (l := [-1, -3, -4]) V.2.1 (show (oSit (ix (nI (l.getD 0 0))) s).1 ≤ 3 by omega) (by decide)⟩
    rw [if_pos (show x_in (Int32.ofNat 5) 10 = true by decide), if_neg (show ¬ Int32.ofNat ((Int32.ofNat 5).toNatClampNeg + 1) = 1 by decide), if_neg (show ¬ Int32.ofNat ((Int32.ofNat 5).toNatClampNeg + 1) = 2 by decide), if_neg (show ¬ Int32.ofNat ((Int32.ofNat 5).toNatClampNeg + 1) = 3 by decide), if_neg (show ¬ Int32.ofNat ((Int32.ofNat 5).toNatClampNeg + 1) = 4 by decide), if_neg (show ¬ Int32.ofNat ((Int32.ofNat 5).toNatClampNeg + 1) = 5 by decide), if_pos (show Int32.ofNat ((Int32.ofNat 5).toNatClampNeg + 1) = 6 by decide), if_pos k1]
    rw [hl 0 (by omega)]
    rw [e1, m_bind2]
    rfl
  · change aV (B + 400) (oStand (ix (nI (l.getD 0 0))) s).2.2 ∧ (oStand (ix (nI (l.getD 0 0))) s).2.1 < 2 ^ 30 ∧ (oStand (ix (nI (l.getD 0 0))) s).1 ≤ 4 at V
    have le := oStand_le (s := s) (a1 := nI (l.getD 0 0))
    change l.length = 1 at hn
    rw [if_neg (show ¬ (6 : Nat) = 9 by decide)] at hl
    obtain ⟨M', e1, e2, e3⟩ := o_stand r b (a := nI (l.getD 0 0))
    refine ⟨_, M', ?_, e2, e3, oc_sg (l := [-1, -3]) V.2.1 (show (oStand (ix (nI (l.getD 0 0))) s).1 ≤ 2 by omega) (by decide)⟩
    rw [if_pos (show x_in (Int32.ofNat 6) 10 = true by decide), if_neg (show ¬ Int32.ofNat ((Int32.ofNat 6).toNatClampNeg + 1) = 1 by decide), if_neg (show ¬ Int32.ofNat ((Int32.ofNat 6).toNatClampNeg + 1) = 2 by decide), if_neg (show ¬ Int32.ofNat ((Int32.ofNat 6).toNatClampNeg + 1) = 3 by decide), if_neg (show ¬ Int32.ofNat ((Int32.ofNat 6).toNatClampNeg + 1) = 4 by decide), if_neg (show ¬ Int32.ofNat ((Int32.ofNat 6).toNatClampNeg + 1) = 5 by decide), if_neg (show ¬ Int32.ofNat ((Int32.ofNat 6).toNatClampNeg + 1) = 6 by decide), if_pos (show Int32.ofNat ((Int32.ofNat 6).toNatClampNeg + 1) = 7 by decide), if_pos k1]
    rw [hl 0 (by omega)]
    rw [e1, m_bind2]
    rfl
  · change aV (B + 400) (oRemove (ix (nI (l.getD 0 0))) s).2.2 ∧ (oRemove (ix (nI (l.getD 0 0))) s).2.1 < 2 ^ 30 ∧ (oRemove (ix (nI (l.getD 0 0))) s).1 ≤ 4 at V
    have le := oRemove_le (s := s) (a1 := nI (l.getD 0 0))
    change l.length = 1 at hn
    rw [if_neg (show ¬ (7 : Nat) = 9 by decide)] at hl
    obtain ⟨M', e1, e2, e3⟩ := o_remove r b (a := nI (l.getD 0 0))
    refine ⟨_, M', ?_, e2, e3, oc_sg (l := [-1]) V.2.1 (show (oRemove (ix (nI (l.getD 0 0))) s).1 ≤ 1 by omega) (by decide)⟩
    rw [if_pos (show x_in (Int32.ofNat 7) 10 = true by decide), if_neg (show ¬ Int32.ofNat ((Int32.ofNat 7).toNatClampNeg + 1) = 1 by decide), if_neg (show ¬ Int32.ofNat ((Int32.ofNat 7).toNatClampNeg + 1) = 2 by decide), if_neg (show ¬ Int32.ofNat ((Int32.ofNat 7).toNatClampNeg + 1) = 3 by decide), if_neg (show ¬ Int32.ofNat ((Int32.ofNat 7).toNatClampNeg + 1) = 4 by decide), if_neg (show ¬ Int32.ofNat ((Int32.ofNat 7).toNatClampNeg + 1) = 5 by decide), if_neg (show ¬ Int32.ofNat ((Int32.ofNat 7).toNatClampNeg + 1) = 6 by decide), if_neg (show ¬ Int32.ofNat ((Int32.ofNat 7).toNatClampNeg + 1) = 7 by decide), if_pos (show Int32.ofNat ((Int32.ofNat 7).toNatClampNeg + 1) = 8 by decide), if_pos k1]
    rw [hl 0 (by omega)]
    rw [e1, m_bind2]
    rfl
  · change aV (B + 400) (oAdv (ix (nI (l.getD 0 0))) s).2.2 ∧ (oAdv (ix (nI (l.getD 0 0))) s).2.1 < 2 ^ 30 ∧ (oAdv (ix (nI (l.getD 0 0))) s).1 ≤ 4 at V
    have le := oAdv_le (s := s) (a1 := nI (l.getD 0 0))
    change l.length = 1 at hn
    rw [if_neg (show ¬ (8 : Nat) = 9 by decide)] at hl
    obtain ⟨M', e1, e2, e3⟩ := o_adv r im (a := nI (l.getD 0 0))
    refine ⟨_, M', ?_, e2, e3, oc_sg (l := [-2]) V.2.1 (show (oAdv (ix (nI (l.getD 0 0))) s).1 ≤ 1 by omega) (by decide)⟩
    rw [if_pos (show x_in (Int32.ofNat 8) 10 = true by decide), if_neg (show ¬ Int32.ofNat ((Int32.ofNat 8).toNatClampNeg + 1) = 1 by decide), if_neg (show ¬ Int32.ofNat ((Int32.ofNat 8).toNatClampNeg + 1) = 2 by decide), if_neg (show ¬ Int32.ofNat ((Int32.ofNat 8).toNatClampNeg + 1) = 3 by decide), if_neg (show ¬ Int32.ofNat ((Int32.ofNat 8).toNatClampNeg + 1) = 4 by decide), if_neg (show ¬ Int32.ofNat ((Int32.ofNat 8).toNatClampNeg + 1) = 5 by decide), if_neg (show ¬ Int32.ofNat ((Int32.ofNat 8).toNatClampNeg + 1) = 6 by decide), if_neg (show ¬ Int32.ofNat ((Int32.ofNat 8).toNatClampNeg + 1) = 7 by decide), if_neg (show ¬ Int32.ofNat ((Int32.ofNat 8).toNatClampNeg + 1) = 8 by decide), if_pos (show Int32.ofNat ((Int32.ofNat 8).toNatClampNeg + 1) = 9 by decide), if_pos k1]
    rw [hl 0 (by omega)]
    rw [e1, m_bind2]
    rfl
  · change aV (B + 400) (oAdv (ix (nI (l.getD 0 0))) s).2.2 ∧ (oAdv (ix (nI (l.getD 0 0))) s).2.1 < 2 ^ 30 ∧ (oAdv (ix (nI (l.getD 0 0))) s).1 ≤ 4 at V
    have le := oAdv_le (s := s) (a1 := nI (l.getD 0 0))
    change l.length = 1 at hn
    rw [if_pos rfl] at hl
    obtain ⟨M', e1, e2, e3⟩ := o_adv r im (a := nI (l.getD 0 0))
    refine ⟨_, M', ?_, e2, e3, oc_sg (l := [-2]) V.2.1 (show (oAdv (ix (nI (l.getD 0 0))) s).1 ≤ 1 by omega) (by decide)⟩
    rw [if_pos (show x_in (Int32.ofNat 9) 10 = true by decide), if_neg (show ¬ Int32.ofNat ((Int32.ofNat 9).toNatClampNeg + 1) = 1 by decide), if_neg (show ¬ Int32.ofNat ((Int32.ofNat 9).toNatClampNeg + 1) = 2 by decide), if_neg (show ¬ Int32.ofNat ((Int32.ofNat 9).toNatClampNeg + 1) = 3 by decide), if_neg (show ¬ Int32.ofNat ((Int32.ofNat 9).toNatClampNeg + 1) = 4 by decide), if_neg (show ¬ Int32.ofNat ((Int32.ofNat 9).toNatClampNeg + 1) = 5 by decide), if_neg (show ¬ Int32.ofNat ((Int32.ofNat 9).toNatClampNeg + 1) = 6 by decide), if_neg (show ¬ Int32.ofNat ((Int32.ofNat 9).toNatClampNeg + 1) = 7 by decide), if_neg (show ¬ Int32.ofNat ((Int32.ofNat 9).toNatClampNeg + 1) = 8 by decide), if_neg (show ¬ Int32.ofNat ((Int32.ofNat 9).toNatClampNeg + 1) = 9 by decide), if_pos (show Int32.ofNat ((Int32.ofNat 9).toNatClampNeg + 1) = 10 by decide), if_pos k1]
    rw [show f_X3_pass (M.2.1 0 1) (1 : Int32) M = f_X3_pass (M.2.1 0 1) (nI (l.getD 0 0)) M by rw [hl]; rfl]
    rw [e1, m_bind2]
    rfl
/-- the model does the command at v -/
theorem m_does {B : Nat} (vv : aV B s) (hB2 : B < 2 ^ 29) (d : dH (M.1 10) s (aW s)) {v b : Nat} (hb : b < 9) (hv : v + 3 < 244) {l : List Nat} (hc : mCs M v b l) (hn : l.length = nAr b) : ∃ M', f_X7_does (nI v) M = some M' ∧ mR M M' (oD b (nI (l.getD 0 0)) (nI (l.getD 1 0)) (nI (l.getD 2 0)) s) := by
  obtain ⟨⟨im, hF⟩, x1, hu⟩ := id vv
  have bb := im.1.1
  have k := im.1.2.1
  have h4 := x1.2
  have hU : s.1 2 < 2 ^ 30 := by have := hu.1 2 (by decide); omega
  obtain ⟨c0, cl⟩ := hc
  have x0 : x_in (nI v) 244 = true := pi_in (by omega) (by decide)
  have x1 : x_in (nI (v + 1)) 244 = true := pi_in (by omega) (by decide)
  have x2 : x_in (nI (v + 2)) 244 = true := pi_in (by omega) (by decide)
  have x3 : x_in (nI (v + 3)) 244 = true := pi_in (by omega) (by decide)
  unfold f_X7_does
  rw [show nI v + (1 : Int32) = nI (v + 1) from nI_1 v, show nI v + (2 : Int32) = nI (v + 2) from nI_add v 2, show nI v + (3 : Int32) = nI (v + 3) from nI_add v 3, if_pos x1, if_pos x2, if_pos x0, pi_cl (show v < 2 ^ 31 by omega), pi_cl (show v + 1 < 2 ^ 31 by omega), pi_cl (show v + 2 < 2 ^ 31 by omega), pi_cl (show v + 3 < 2 ^ 31 by omega), c0]
  have h : b = 0 ∨ b = 1 ∨ b = 2 ∨ b = 3 ∨ b = 4 ∨ b = 5 ∨ b = 6 ∨ b = 7 ∨ b = 8 := by omega
  rcases h with rfl | rfl | rfl | rfl | rfl | rfl | rfl | rfl | rfl
  · change l.length = 1 at hn
    obtain ⟨M', e1, e2⟩ := mo_add d bb k (a := nI (l.getD 0 0))
    rw [if_pos (show nI 0 = (0 : Int32) from rfl), show M.1 19 (v + 1) = nI (l.getD 0 0) from cl 0 (by omega), e1, Option.bind_some]
    exact ⟨M', rfl, e2⟩
  · change l.length = 3 at hn
    obtain ⟨M', e1, e2⟩ := mo_open d bb (a := nI (l.getD 0 0)) (o := nI (l.getD 1 0)) (p := nI (l.getD 2 0))
    rw [if_neg (show ¬ nI 1 = (0 : Int32) by decide), if_pos (show nI 1 = (1 : Int32) from rfl), if_pos x3, show M.1 19 (v + 1) = nI (l.getD 0 0) from cl 0 (by omega), show M.1 19 (v + 2) = nI (l.getD 1 0) from cl 1 (by omega), show M.1 19 (v + 3) = nI (l.getD 2 0) from cl 2 (by omega), e1, Option.bind_some]
    exact ⟨M', rfl, e2⟩
  · change l.length = 1 at hn
    obtain ⟨M', e1, e2⟩ := mo_close d bb k (a := nI (l.getD 0 0))
    rw [if_neg (show ¬ nI 2 = (0 : Int32) by decide), if_neg (show ¬ nI 2 = (1 : Int32) by decide), if_pos (show nI 2 = (2 : Int32) from rfl), show M.1 19 (v + 1) = nI (l.getD 0 0) from cl 0 (by omega), e1, Option.bind_some]
    exact ⟨M', rfl, e2⟩
  · change l.length = 2 at hn
    obtain ⟨M', e1, e2⟩ := mo_swap d bb k (a := nI (l.getD 0 0)) (c := nI (l.getD 1 0))
    rw [if_neg (show ¬ nI 3 = (0 : Int32) by decide), if_neg (show ¬ nI 3 = (1 : Int32) by decide), if_neg (show ¬ nI 3 = (2 : Int32) by decide), if_pos (show nI 3 = (3 : Int32) from rfl), show M.1 19 (v + 1) = nI (l.getD 0 0) from cl 0 (by omega), show M.1 19 (v + 2) = nI (l.getD 1 0) from cl 1 (by omega), e1, Option.bind_some]
    exact ⟨M', rfl, e2⟩
  · change l.length = 1 at hn
    obtain ⟨M', e1, e2⟩ := mo_sit d bb hF h4 (a := nI (l.getD 0 0))
    rw [if_neg (show ¬ nI 4 = (0 : Int32) by decide), if_neg (show ¬ nI 4 = (1 : Int32) by decide), if_neg (show ¬ nI 4 = (2 : Int32) by decide), if_neg (show ¬ nI 4 = (3 : Int32) by decide), if_pos (show nI 4 = (4 : Int32) from rfl), show M.1 19 (v + 1) = nI (l.getD 0 0) from cl 0 (by omega), e1, Option.bind_some]
    exact ⟨M', rfl, e2⟩
  · change l.length = 1 at hn
    obtain ⟨M', e1, e2⟩ := mo_stand d bb hF (a := nI (l.getD 0 0))
    rw [if_neg (show ¬ nI 5 = (0 : Int32) by decide), if_neg (show ¬ nI 5 = (1 : Int32) by decide), if_neg (show ¬ nI 5 = (2 : Int32) by decide), if_neg (show ¬ nI 5 = (3 : Int32) by decide), if_neg (show ¬ nI 5 = (4 : Int32) by decide), if_pos (show nI 5 = (5 : Int32) from rfl), show M.1 19 (v + 1) = nI (l.getD 0 0) from cl 0 (by omega), e1, Option.bind_some]
    exact ⟨M', rfl, e2⟩
  · change l.length = 1 at hn
    obtain ⟨M', e1, e2⟩ := mo_remove d bb k (a := nI (l.getD 0 0))
    rw [if_neg (show ¬ nI 6 = (0 : Int32) by decide), if_neg (show ¬ nI 6 = (1 : Int32) by decide), if_neg (show ¬ nI 6 = (2 : Int32) by decide), if_neg (show ¬ nI 6 = (3 : Int32) by decide), if_neg (show ¬ nI 6 = (4 : Int32) by decide), if_neg (show ¬ nI 6 = (5 : Int32) by decide), if_pos (show nI 6 = (6 : Int32) from rfl), show M.1 19 (v + 1) = nI (l.getD 0 0) from cl 0 (by omega), e1, Option.bind_some]
    exact ⟨M', rfl, e2⟩
  · change l.length = 0 at hn
    obtain ⟨M', e1, e2⟩ := mo_call d bb k hF hU
    rw [if_neg (show ¬ nI 7 = (0 : Int32) by decide), if_neg (show ¬ nI 7 = (1 : Int32) by decide), if_neg (show ¬ nI 7 = (2 : Int32) by decide), if_neg (show ¬ nI 7 = (3 : Int32) by decide), if_neg (show ¬ nI 7 = (4 : Int32) by decide), if_neg (show ¬ nI 7 = (5 : Int32) by decide), if_neg (show ¬ nI 7 = (6 : Int32) by decide), if_pos (show nI 7 = (7 : Int32) from rfl), e1, Option.bind_some]
    exact ⟨M', rfl, e2⟩
  · change l.length = 1 at hn
    obtain ⟨M', e1, e2⟩ := mo_adv d ⟨im, hF⟩ (a := nI (l.getD 0 0))
    rw [if_neg (show ¬ nI 8 = (0 : Int32) by decide), if_neg (show ¬ nI 8 = (1 : Int32) by decide), if_neg (show ¬ nI 8 = (2 : Int32) by decide), if_neg (show ¬ nI 8 = (3 : Int32) by decide), if_neg (show ¬ nI 8 = (4 : Int32) by decide), if_neg (show ¬ nI 8 = (5 : Int32) by decide), if_neg (show ¬ nI 8 = (6 : Int32) by decide), if_neg (show ¬ nI 8 = (7 : Int32) by decide), show M.1 19 (v + 1) = nI (l.getD 0 0) from cl 0 (by omega), e1, Option.bind_some]
    exact ⟨M', rfl, e2⟩
end DO
