/-! pure: what a form reads, without memory -/
def tWd (i : Nat) : List Nat := [[97, 100, 100, 32], [111, 112, 101, 110, 32], [99, 108, 111, 115, 101, 32], [115, 119, 97, 112, 32], [115, 105, 116, 32], [115, 116, 97, 110, 100, 32], [114, 101, 109, 111, 118, 101, 32], [99, 97, 108, 108], [97, 100, 118, 97, 110, 99, 101]].getD i []
def wd (c : Nat) : Nat := [0, 1, 2, 7, 3, 4, 5, 6, 8, 8].getD c 0
def tRs (c : Nat) : List Nat := [[35], [37, 32, 35, 32, 37], [37], [], [35, 32, 35], [35], [35], [35], [32, 35], []].getD c []
theorem fm_spl : ∀ c, c < 10 → tFm c = tWd (wd c) ++ tRs c := by decide
theorem wd_lt : ∀ c, c < 10 → wd c < 9 := by decide
theorem wd_on : ∀ i, i < 9 → ∃ c, c < 10 ∧ wd c = i := by decide
theorem wd_1 : ∀ c, c < 10 → ∀ d, d < 10 → wd c = wd d → wd c ≠ 8 → c = d := by decide
theorem wd_8 : ∀ c, c < 10 → wd c = 8 → c = 8 ∨ c = 9 := by decide
theorem wd_ch : ∀ i, i < 9 → ∀ a, a ∈ tWd i → ¬ (a = 35 ∨ a = 37) := by decide
theorem wd_df : ∀ i, i < 9 → ∀ j, j < 9 → i ≠ j → ∃ k, k < 8 ∧ k < (tWd i).length ∧ k < (tWd j).length ∧ (tWd i).getD k 0 ≠ (tWd j).getD k 0 := by decide
theorem wd_ne : ∀ i, i < 9 → 1 ≤ (tWd i).length ∧ (tWd i).length ≤ 7 := by decide
/-- letters of w that stand at q -/
def lk (t : Nat → Nat) (L : Nat) : List Nat → Nat → Nat
  | [], _ => 0
  | a :: r, q => if q < L ∧ t q = a then lk t L r (q + 1) + 1 else 0
section PC
variable {t : Nat → Nat} {L : Nat}
theorem lk_le : ∀ (w : List Nat) (q : Nat), lk t L w q ≤ w.length
  | [], q => Nat.le_refl _
  | a :: r, q => by
    unfold lk
    split
    · exact Nat.succ_le_succ (lk_le r (q + 1))
    · exact Nat.zero_le _
theorem lk_L : ∀ (w : List Nat) (q : Nat), q ≤ L → q + lk t L w q ≤ L
  | [], q, h => h
  | a :: r, q, h => by
    unfold lk
    split
    · rename_i z
      have := lk_L r (q + 1) z.1
      omega
    · exact h
theorem lk_at : ∀ (w : List Nat) (q k : Nat), k < lk t L w q → t (q + k) = w.getD k 0
  | [], q, k, h => absurd h (Nat.not_lt_zero k)
  | a :: r, q, k, h => by
    unfold lk at h
    split at h
    · rename_i z
      cases k with
      | zero => exact z.2
      | succ k =>
        have := lk_at r (q + 1) k (by omega)
        rw [show q + 1 + k = q + (k + 1) by omega] at this
        exact this
    · exact absurd h (Nat.not_lt_zero k)
theorem lk_un {i j q : Nat} (hi : i < 9) (hj : j < 9) (h : i ≠ j) (e : lk t L (tWd i) q = (tWd i).length) : lk t L (tWd j) q < (tWd j).length ∧ lk t L (tWd j) q < (tWd i).length := by
  obtain ⟨k, k0, k1, k2, k3⟩ := wd_df i hi j hj h
  have : ¬ k < lk t L (tWd j) q := fun z => by
    have a := lk_at (tWd j) q k z
    have b := lk_at (t := t) (L := L) (tWd i) q k (by omega)
    exact k3 (b.symm.trans a)
  omega
theorem pF_app : ∀ (w r : List Nat) (q f : Nat) (ns : Nat → Int32), (∀ a, a ∈ w → ¬ (a = 35 ∨ a = 37)) → pF t L (w ++ r) q f ns = if lk t L w q = w.length then pF t L r (q + w.length) f ns else (false, q + lk t L w q, ns)
  | [], r, q, f, ns, h => by
    show pF t L r q f ns = if (0 : Nat) = 0 then pF t L r q f ns else (false, q, ns)
    rw [if_pos rfl]
  | a :: w, r, q, f, ns, h => by
    show pF t L (a :: (w ++ r)) q f ns = _
    rw [pF.eq_2, lk.eq_2, if_neg (h a List.mem_cons_self)]
    by_cases z : q < L ∧ t q = a
    · rw [if_pos z, if_pos z, pF_app w r (q + 1) f ns (fun b hb => h b (List.mem_cons_of_mem a hb))]
      by_cases y : lk t L w (q + 1) = w.length
      · rw [if_pos y, if_pos (show lk t L w (q + 1) + 1 = (a :: w).length by rw [y]; rfl), show q + 1 + w.length = q + (a :: w).length by rw [List.length_cons]; omega]
      · rw [if_neg y, if_neg (show ¬ lk t L w (q + 1) + 1 = (a :: w).length by rw [List.length_cons]; omega), show q + 1 + lk t L w (q + 1) = q + (lk t L w (q + 1) + 1) by omega]
    · rw [if_neg z, if_neg z, if_neg (show ¬ 0 = (a :: w).length by rw [List.length_cons]; omega)]
      rfl
theorem pC_w {c q : Nat} {ns : Nat → Int32} (hc : c < 10) : pC t L c q ns = if lk t L (tWd (wd c)) q = (tWd (wd c)).length then pF t L (tRs c) (q + (tWd (wd c)).length) 0 ns else (false, q + lk t L (tWd (wd c)) q, ns) := by
  unfold pC
  rw [fm_spl c hc]
  exact pF_app _ _ _ _ _ (wd_ch _ (wd_lt c hc))
theorem pF_ns : ∀ (l : List Nat) (q f f' : Nat) (ns ns' : Nat → Int32), (pF t L l q f ns).1 = (pF t L l q f' ns').1 ∧ (pF t L l q f ns).2.1 = (pF t L l q f' ns').2.1
  | [], q, f, f', ns, ns' => ⟨rfl, rfl⟩
  | a :: r, q, f, f', ns, ns' => by
    unfold pF
    split
    · split
      · exact pF_ns r _ _ _ _ _
      · exact ⟨rfl, rfl⟩
    · split
      · exact pF_ns r _ _ _ _ _
      · exact ⟨rfl, rfl⟩
def z0 : Nat → Int32 := fun _ => 0
def ok (t : Nat → Nat) (L c q : Nat) : Bool := (pC t L c q z0).1
def rr (t : Nat → Nat) (L c q : Nat) : Nat := (pC t L c q z0).2.1
theorem pC_ok {c q : Nat} {ns : Nat → Int32} : (pC t L c q ns).1 = ok t L c q ∧ (pC t L c q ns).2.1 = rr t L c q := pF_ns _ _ _ _ _ _
theorem pA_some {q c0 : Nat} (h0 : ok t L c0 q = true) : ∀ (k c m : Nat) (ns : Nat → Int32), c ≤ c0 → c0 < c + k → (∀ c', c ≤ c' → c' < c0 → ok t L c' q = false) → ∃ ns', (pA t L q k c m ns).1 = some (c0, rr t L c0 q, (pC t L c0 q ns').2.2)
  | 0, c, m, ns, h1, h2, h3 => by omega
  | k + 1, c, m, ns, h1, h2, h3 => by
    unfold pA
    by_cases e : c = c0
    · subst e
      rw [if_pos (by rw [pC_ok.1]; exact h0), pC_ok.2]
      exact ⟨ns, rfl⟩
    · rw [if_neg (by rw [pC_ok.1, h3 c (Nat.le_refl _) (by omega)]; decide)]
      exact pA_some h0 k (c + 1) _ _ (by omega) (by omega) (fun c' a b => h3 c' (by omega) b)
theorem pA_none {q : Nat} : ∀ (k c m : Nat) (ns : Nat → Int32), (∀ c', c ≤ c' → c' < c + k → ok t L c' q = false) → (pA t L q k c m ns).1 = none ∧ m ≤ (pA t L q k c m ns).2 ∧ (∀ c', c ≤ c' → c' < c + k → rr t L c' q ≤ (pA t L q k c m ns).2) ∧ ((pA t L q k c m ns).2 = m ∨ ∃ c', c ≤ c' ∧ c' < c + k ∧ (pA t L q k c m ns).2 = rr t L c' q)
  | 0, c, m, ns, h => ⟨rfl, Nat.le_refl _, fun c' a b => by omega, .inl rfl⟩
  | k + 1, c, m, ns, h => by
    unfold pA
    rw [if_neg (by rw [pC_ok.1, h c (Nat.le_refl _) (by omega)]; decide), pC_ok.2]
    obtain ⟨h1, h2, h3, h4⟩ := pA_none k (c + 1) (if m < rr t L c q then rr t L c q else m) (pC t L c q ns).2.2 (fun c' a b => h c' (by omega) (by omega))
    generalize pA t L q k (c + 1) (if m < rr t L c q then rr t L c q else m) (pC t L c q ns).2.2 = R at h1 h2 h3 h4
    refine ⟨h1, ?_, fun c' a b => ?_, ?_⟩
    · split at h2 <;> omega
    · by_cases e : c' = c
      · subst e
        split at h2 <;> omega
      · exact h3 c' (by omega) (by omega)
    · rcases h4 with e | ⟨c', a, b, e⟩
      · by_cases y : m < rr t L c q
        · rw [if_pos y] at e
          exact .inr ⟨c, Nat.le_refl _, by omega, e⟩
        · rw [if_neg y] at e
          exact .inl e
      · exact .inr ⟨c', by omega, by omega, e⟩
/-- no word is whole: all stop at the greatest likeness -/
theorem pA_bad {q b : Nat} (hb : b < 9) (hm : ∀ i, i < 9 → lk t L (tWd i) q ≤ lk t L (tWd b) q) (hn : lk t L (tWd b) q < (tWd b).length) (hx : ∀ i, i < 9 → lk t L (tWd i) q ≠ (tWd i).length) {ns : Nat → Int32} : pA t L q 10 0 q ns = (none, q + lk t L (tWd b) q) := by
  have e : ∀ c, c < 10 → pC t L c q z0 = (false, q + lk t L (tWd (wd c)) q, z0) := fun c hc => by rw [pC_w hc, if_neg (hx _ (wd_lt c hc))]
  obtain ⟨h1, h2, h3, h4⟩ := pA_none (t := t) (L := L) (q := q) 10 0 q ns (fun c _ hc => by unfold ok; rw [e c (by omega)])
  refine Prod.ext h1 ?_
  show (pA t L q 10 0 q ns).2 = q + lk t L (tWd b) q
  obtain ⟨c, hc, ec⟩ := wd_on b hb
  have a := h3 c (Nat.zero_le _) (by omega)
  unfold rr at a
  rw [e c hc, ec] at a
  have a : q + lk t L (tWd b) q ≤ (pA t L q 10 0 q ns).2 := a
  rcases h4 with z | ⟨c', x1, x2, z⟩
  · omega
  · unfold rr at z
    rw [e c' (by omega)] at z
    have z : (pA t L q 10 0 q ns).2 = q + lk t L (tWd (wd c')) q := z
    have := hm _ (wd_lt c' (by omega))
    omega
theorem pF_ge : ∀ (l : List Nat) (q f : Nat) (ns : Nat → Int32), q ≤ (pF t L l q f ns).2.1
  | [], q, f, ns => Nat.le_refl _
  | a :: r, q, f, ns => by
    unfold pF
    split
    · split
      · rename_i d
        have h1 := (nV_2 (m := if a = 35 then 2 else 1) d).2.1
        have h2 := pF_ge r (nV (if a = 35 then 2 else 1) t L q).2 (f + 1) (upd ns f (nI (nV (if a = 35 then 2 else 1) t L q).1))
        omega
      · exact Nat.le_refl _
    · split
      · have := pF_ge r (q + 1) f ns
        omega
      · exact Nat.le_refl _
/-- one word is whole, not the last: its form alone counts -/
theorem pA_one {q c : Nat} (hc : c < 10) (hw : wd c ≠ 8) (hl : lk t L (tWd (wd c)) q = (tWd (wd c)).length) {ns : Nat → Int32} : ((ok t L c q = true ∧ ∃ ns', (pA t L q 10 0 q ns).1 = some (c, rr t L c q, (pC t L c q ns').2.2)) ∨ (ok t L c q = false ∧ pA t L q 10 0 q ns = (none, rr t L c q))) ∧ q + (tWd (wd c)).length ≤ rr t L c q := by
  have e : ∀ d, d < 10 → d ≠ c → pC t L d q z0 = (false, q + lk t L (tWd (wd d)) q, z0) ∧ lk t L (tWd (wd d)) q < (tWd (wd c)).length := fun d hd hdc => by
    have u := lk_un (wd_lt c hc) (wd_lt d hd) (fun z => hdc (wd_1 c hc d hd z hw).symm) hl
    rw [pC_w hd, if_neg (by omega)]
    exact ⟨rfl, u.2⟩
  have ge : q + (tWd (wd c)).length ≤ rr t L c q := by
    unfold rr
    rw [pC_w hc, if_pos hl]
    exact pF_ge _ _ _ _
  refine ⟨?_, ge⟩
  have nk : ∀ d, d < 10 → d ≠ c → ok t L d q = false := fun d hd hdc => by unfold ok; rw [(e d hd hdc).1]
  by_cases z : ok t L c q = true
  · exact .inl ⟨z, pA_some z 10 0 q ns (Nat.zero_le _) (by omega) (fun d _ hd => nk d (by omega) (by omega))⟩
  · have z : ok t L c q = false := by cases h : ok t L c q with | true => exact absurd h z | false => rfl
    refine .inr ⟨z, ?_⟩
    obtain ⟨h1, h2, h3, h4⟩ := pA_none (t := t) (L := L) (q := q) 10 0 q ns (fun d _ hd => if y : d = c then y ▸ z else nk d (by omega) y)
    refine Prod.ext h1 ?_
    show (pA t L q 10 0 q ns).2 = rr t L c q
    have a := h3 c (Nat.zero_le _) (by omega)
    have o1 : ∀ d, d < 10 → d ≠ c → rr t L d q < q + (tWd (wd c)).length := fun d hd hdc => by
      unfold rr
      rw [(e d hd hdc).1]
      have := (e d hd hdc).2
      show q + lk t L (tWd (wd d)) q < _
      omega
    have ln := (wd_ne _ (wd_lt c hc)).1
    rcases h4 with y | ⟨d, x1, x2, y⟩
    · omega
    · by_cases w : d = c
      · rw [y, w]
      · have := o1 d (by omega) w
        omega
/-- the last word is whole: forms 8 and 9 count -/
theorem pA_two {q : Nat} (hl : lk t L (tWd 8) q = (tWd 8).length) {ns : Nat → Int32} : (ok t L 8 q = true ∧ ∃ ns', (pA t L q 10 0 q ns).1 = some (8, rr t L 8 q, (pC t L 8 q ns').2.2)) ∨ (ok t L 8 q = false ∧ ok t L 9 q = true ∧ ∃ ns', (pA t L q 10 0 q ns).1 = some (9, rr t L 9 q, (pC t L 9 q ns').2.2)) ∨ (ok t L 8 q = false ∧ ok t L 9 q = false ∧ pA t L q 10 0 q ns = (none, rr t L 8 q)) := by
  have e : ∀ d, d < 8 → pC t L d q z0 = (false, q + lk t L (tWd (wd d)) q, z0) ∧ lk t L (tWd (wd d)) q < (tWd 8).length := fun d hd => by
    have w8 : wd d ≠ 8 := fun z => by have := wd_8 d (by omega) z; omega
    have u := lk_un (i := 8) (by decide) (wd_lt d (by omega)) (fun z => w8 z.symm) hl
    rw [pC_w (by omega), if_neg (by omega)]
    exact ⟨rfl, u.2⟩
  have nk : ∀ d, d < 8 → ok t L d q = false := fun d hd => by unfold ok; rw [(e d hd).1]
  have g8 : q + (tWd 8).length ≤ rr t L 8 q := by
    unfold rr
    rw [pC_w (by decide), show wd 8 = 8 from rfl, if_pos hl]
    exact pF_ge _ _ _ _
  have g9 : rr t L 9 q = q + (tWd 8).length := by
    unfold rr
    rw [pC_w (by decide), show wd 9 = 8 from rfl, if_pos hl]
    rfl
  by_cases z : ok t L 8 q = true
  · exact .inl ⟨z, pA_some z 10 0 q ns (Nat.zero_le _) (by omega) (fun d _ hd => nk d hd)⟩
  · have z : ok t L 8 q = false := by cases h : ok t L 8 q with | true => exact absurd h z | false => rfl
    by_cases y : ok t L 9 q = true
    · exact .inr (.inl ⟨z, y, pA_some y 10 0 q ns (Nat.zero_le _) (by omega) (fun d _ hd => if w : d = 8 then w ▸ z else nk d (by omega))⟩)
    · have y : ok t L 9 q = false := by cases h : ok t L 9 q with | true => exact absurd h y | false => rfl
      refine .inr (.inr ⟨z, y, ?_⟩)
      obtain ⟨h1, h2, h3, h4⟩ := pA_none (t := t) (L := L) (q := q) 10 0 q ns (fun d _ hd => if w : d = 8 then w ▸ z else if v : d = 9 then v ▸ y else nk d (by omega))
      refine Prod.ext h1 ?_
      show (pA t L q 10 0 q ns).2 = rr t L 8 q
      have a := h3 8 (Nat.zero_le _) (by omega)
      have o1 : ∀ d, d < 8 → rr t L d q < q + (tWd 8).length := fun d hd => by
        unfold rr
        rw [(e d hd).1]
        have := (e d hd).2
        show q + lk t L (tWd (wd d)) q < _
        omega
      have ln := (wd_ne 8 (by decide)).1
      rcases h4 with w | ⟨d, x1, x2, w⟩
      · omega
      · by_cases v : d = 8
        · rw [w, v]
        · by_cases v2 : d = 9
          · rw [v2, g9] at w
            omega
          · have := o1 d (by omega)
            omega
end PC
