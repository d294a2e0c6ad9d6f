/-! pure: the model's reader of scripts -/
/-- the script as the model holds it while reading -/
def mT (M : xM) (t : Nat → Nat) (L : Nat) : Prop := M.1 9 19 = nI L ∧ (∀ j, j < L → M.1 15 j = nI (t j) ∧ t j < 128) ∧ (∀ j, j < 48 → M.1 17 j = nI (tLet.getD j 0)) ∧ (∀ j, j < 10 → M.1 18 j = nI (tBeg.getD j 0)) ∧ L ≤ 60
def rM (M : xM) (q w : Nat) : Prop := M.1 9 18 = nI q ∧ M.1 9 20 = nI w
def rF (M M' : xM) : Prop := M'.2 = M.2 ∧ (∀ c, c ≠ 9 → M'.1 c = M.1 c) ∧ (∀ k, k ≠ 18 → k ≠ 20 → M'.1 9 k = M.1 9 k)
theorem rF.rf {M : xM} : rF M M := ⟨rfl, fun _ _ => rfl, fun _ _ _ => rfl⟩
theorem rF.tr {M M' M'' : xM} (a : rF M M') (b : rF M' M'') : rF M M'' := ⟨b.1.trans a.1, fun c h => (b.2.1 c h).trans (a.2.1 c h), fun k h h2 => (b.2.2 k h h2).trans (a.2.2 k h h2)⟩
theorem rF_18 {M : xM} {v : Int32} : rF M (sI M 9 18 v) := ⟨rfl, fun c h => sI_c h, fun k h _ => sI_k h⟩
theorem rF_20 {M : xM} {v : Int32} : rF M (sI M 9 20 v) := ⟨rfl, fun c h => sI_c h, fun k _ h => sI_k h⟩
theorem mT.f {M M' : xM} {t : Nat → Nat} {L : Nat} (m : mT M t L) (f : rF M M') : mT M' t L := by
  obtain ⟨a, b, c, d, e⟩ := m
  refine ⟨?_, ?_, ?_, ?_, e⟩
  · rw [f.2.2 19 (by decide) (by decide)]; exact a
  · rw [f.2.1 15 (by decide)]; exact b
  · rw [f.2.1 17 (by decide)]; exact c
  · rw [f.2.1 18 (by decide)]; exact d
section MR
variable {M : xM} {t : Nat → Nat} {L q w : Nat}
theorem m_hr (m : mT M t L) (r : rM M q w) (hq : q ≤ L) : f_X7_here M = some (if q < L then nI (t q) else -1) := by
  have h60 := m.2.2.2.2
  unfold f_X7_here
  rw [m.1, r.1]
  by_cases z : q < L
  · rw [if_neg (nI_ge z (by omega)), if_pos (pi_in (by omega) (by omega)), pi_cl (by omega), (m.2.1 q z).1, if_pos z]
  · rw [if_pos (nI_le (by omega) (by omega)), if_neg z]
theorem m_hd (m : mT M t L) (hq : q ≤ L) {M' : xM} : f_X7_in (if q < L then nI (t q) else (-1 : Int32)).toInt64 (48 : Int64) (57 : Int64) M' = some (if dgA t L q = true then nI 1 else nI 0) := by
  rw [show (48 : Int64) = (nI 48).toInt64 from by decide, show (57 : Int64) = (nI 57).toInt64 from by decide]
  by_cases z : q < L
  · have tq := (m.2.1 q z).2
    rw [if_pos z, m_in' (by omega) (by omega) (by omega)]
    by_cases y : 48 ≤ t q ∧ t q ≤ 57
    · rw [if_pos y, if_pos (dgA_i.mpr ⟨z, y⟩)]
    · rw [if_neg y, if_neg (fun x => y (dgA_i.mp x).2)]
  · rw [if_neg z, m_in, if_neg (by decide), if_neg (fun x => z (dgA_i.mp x).1)]
theorem pz1 : (nI 1 = (0 : Int32)) = False := eq_false (by decide)
theorem pz0 : (nI 0 = (0 : Int32)) = True := eq_true rfl
theorem m_dg1 (m : mT M t L) (r : rM M q 0) (hd : dgA t L q = true) : ∃ M', f_X7_digit M = some (nI (t q - 48), M') ∧ rM M' (q + 1) 0 ∧ rF M M' := by
  have d := dgA_i.mp hd
  have f1 : rF M (sI M 9 20 (nI 0)) := rF_20
  have r1 : rM (sI M 9 20 (nI 0)) q 0 := ⟨by rw [sI_k (by decide)]; exact r.1, sI_s⟩
  have s48 : nI (t q) - (48 : Int32) = nI (t q - 48) := pi_sub (b := 48) d.2.1
  unfold f_X7_digit
  rw [r.2, if_pos (show nI 0 = 0 from rfl), m_hr m r (by omega), Option.bind_some, m_hd m (by omega), Option.bind_some, if_pos hd, if_neg (show ¬ nI 1 = 0 by decide), x_let_e, pi_0, r1.2, if_pos rfl, m_hr (m.f f1) r1 (by omega), Option.bind_some, if_pos rfl, x_let_e, if_pos d.1, s48, r1.1, pi_1, nI_add]
  exact ⟨_, rfl, ⟨sI_s, by rw [sI_k (by decide)]; exact r1.2⟩, f1.tr rF_18⟩
theorem m_dg0 (m : mT M t L) (r : rM M q w) (hq : q ≤ L) (hw : w = 0 ∨ w = 1) (hd : ¬ (w = 0 ∧ dgA t L q = true)) : ∃ M', f_X7_digit M = some (nI 0, M') ∧ rM M' q 1 ∧ rF M M' := by
  have f1 : rF M (sI M 9 20 (nI 1)) := rF_20
  have r1 : rM (sI M 9 20 (nI 1)) q 1 := ⟨by rw [sI_k (by decide)]; exact r.1, sI_s⟩
  have ne1 : ¬ nI 1 = (0 : Int32) := by decide
  unfold f_X7_digit
  by_cases z : w = 0
  · subst z
    rw [r.2, if_pos (show nI 0 = 0 from rfl), m_hr m r hq, Option.bind_some, m_hd m hq, Option.bind_some, if_neg (fun x => hd ⟨rfl, x⟩), if_pos (show nI 0 = 0 from rfl), x_let_e, pi_1, r1.2, if_neg ne1, if_neg ne1, x_let_e, r1.1, pi_0, nI_add]
    exact ⟨_, rfl, ⟨sI_s, by rw [sI_k (by decide)]; exact r1.2⟩, f1.tr rF_18⟩
  · have z : w = 1 := by omega
    subst z
    rw [r.2, if_neg ne1, x_let_e, pi_1, r1.2, if_neg ne1, if_neg ne1, x_let_e, r1.1, pi_0, nI_add]
    exact ⟨_, rfl, ⟨sI_s, by rw [sI_k (by decide)]; exact r1.2⟩, f1.tr rF_18⟩
/-- a digit, a number, a sign: where the reader stands after it -/
def sD_ (t : Nat → Nat) (L : Nat) (k : Nat) (w q : Nat) : Nat × Nat := if w = 0 ∧ dgA t L q = true then (0, (nV k t L q).2) else (1, q)
def sE_ (t : Nat → Nat) (L : Nat) (a : Nat) (w q : Nat) : Nat × Nat := if w = 0 ∧ q < L ∧ t q = a then (0, q + 1) else (1, q)
theorem nV_1 : nV 1 t L q = (t q - 48, q + 1) := if_neg (fun z => absurd z.1 (by decide))
theorem sD_le {k : Nat} (hq : q ≤ L) : (sD_ t L k w q).2 ≤ L ∧ ((sD_ t L k w q).1 = 0 ∨ (sD_ t L k w q).1 = 1) := by
  unfold sD_
  split
  · rename_i z
    exact ⟨(nV_2 z.2).1, .inl rfl⟩
  · exact ⟨hq, .inr rfl⟩
theorem sE_le {a : Nat} (hq : q ≤ L) : (sE_ t L a w q).2 ≤ L ∧ ((sE_ t L a w q).1 = 0 ∨ (sE_ t L a w q).1 = 1) := by
  unfold sE_
  split
  · rename_i z
    exact ⟨z.2.1, .inl rfl⟩
  · exact ⟨hq, .inr rfl⟩
theorem m_dig (m : mT M t L) (r : rM M q w) (hq : q ≤ L) (hw : w = 0 ∨ w = 1) : ∃ M' v, f_X7_digit M = some (nI v, M') ∧ rM M' (sD_ t L 1 w q).2 (sD_ t L 1 w q).1 ∧ rF M M' ∧ ((sD_ t L 1 w q).1 = 0 → v = (nV 1 t L q).1) := by
  unfold sD_
  by_cases z : w = 0 ∧ dgA t L q = true
  · obtain ⟨rfl, d⟩ := z
    obtain ⟨M', e, r', f⟩ := m_dg1 m r d
    rw [if_pos ⟨rfl, d⟩, nV_1]
    exact ⟨M', _, e, r', f, fun _ => rfl⟩
  · obtain ⟨M', e, r', f⟩ := m_dg0 m r hq hw z
    rw [if_neg z]
    exact ⟨M', 0, e, r', f, fun x => absurd x (show ¬ (1 : Nat) = 0 by decide)⟩
theorem m_num (m : mT M t L) (r : rM M q w) (hq : q ≤ L) (hw : w = 0 ∨ w = 1) : ∃ M' v, f_X7_number M = some (nI v, M') ∧ rM M' (sD_ t L 2 w q).2 (sD_ t L 2 w q).1 ∧ rF M M' ∧ ((sD_ t L 2 w q).1 = 0 → v = (nV 2 t L q).1) := by
  unfold sD_ f_X7_number
  by_cases z : w = 0 ∧ dgA t L q = true
  · obtain ⟨rfl, d⟩ := z
    have d' := dgA_i.mp d
    obtain ⟨M1, e1, r1, f1⟩ := m_dg1 m r d
    have m1 := m.f f1
    rw [if_pos ⟨rfl, d⟩, e1, Option.bind_some, r1.2, if_pos (show nI 0 = 0 from rfl), m_hr m1 r1 (by omega), Option.bind_some, m_hd m1 (by omega), Option.bind_some]
    by_cases y : dgA t L (q + 1) = true
    · obtain ⟨M2, e2, r2, f2⟩ := m_dg1 m1 r1 y
      have e : nV 2 t L q = (10 * (t q - 48) + (t (q + 1) - 48), q + 2) := if_pos ⟨rfl, y⟩
      rw [if_pos y, if_neg (show ¬ nI 1 = 0 by decide), e2, Option.bind_some, show (10 : Int32) = nI 10 from rfl, pk_mul, nI_add, e]
      exact ⟨M2, _, rfl, r2, f1.tr f2, fun _ => rfl⟩
    · have e : nV 2 t L q = (t q - 48, q + 1) := if_neg (fun z => y z.2)
      rw [if_neg y, if_pos (show nI 0 = 0 from rfl), e]
      exact ⟨M1, _, rfl, r1, f1, fun _ => rfl⟩
  · obtain ⟨M1, e1, r1, f1⟩ := m_dg0 m r hq hw z
    rw [if_neg z, e1, Option.bind_some, r1.2, if_neg (show ¬ nI 1 = 0 by decide)]
    exact ⟨M1, 0, rfl, r1, f1, fun x => absurd x (show ¬ (1 : Nat) = 0 by decide)⟩
theorem m_exp (m : mT M t L) (r : rM M q w) (hq : q ≤ L) (hw : w = 0 ∨ w = 1) {a : Nat} (ha : a < 128) : ∃ M', f_X7_expects (nI a) M = some M' ∧ rM M' (sE_ t L a w q).2 (sE_ t L a w q).1 ∧ rF M M' := by
  have ne1 : ¬ nI 1 = (0 : Int32) := by decide
  have f0 : rF M (sI M 9 20 (nI 0)) := rF_20
  have f1 : rF M (sI M 9 20 (nI 1)) := rF_20
  have r0 : rM (sI M 9 20 (nI 0)) q 0 := ⟨by rw [sI_k (by decide)]; exact r.1, sI_s⟩
  have r1 : rM (sI M 9 20 (nI 1)) q 1 := ⟨by rw [sI_k (by decide)]; exact r.1, sI_s⟩
  unfold f_X7_expects sE_
  by_cases z : w = 0
  · subst z
    rw [r.2, if_pos (show nI 0 = 0 from rfl), m_hr m r hq, Option.bind_some]
    by_cases y : q < L ∧ t q = a
    · rw [if_pos y.1, if_pos (show nI (t q) = nI a by rw [y.2]), x_let_e, pi_0, r0.2, if_pos rfl, x_let_e, r0.1, pi_1, nI_add, if_pos ⟨rfl, y⟩]
      exact ⟨_, rfl, ⟨sI_s, by rw [sI_k (by decide)]; exact r0.2⟩, f0.tr rF_18⟩
    · have ne : ¬ (if q < L then nI (t q) else (-1 : Int32)) = nI a := by
        by_cases x : q < L
        · rw [if_pos x]
          have tq := (m.2.1 q x).2
          exact fun h => y ⟨x, (nI_eq (by omega) (by omega)).mp h⟩
        · rw [if_neg x]
          exact fun h => pi_ne1 (a := a) (by omega) h.symm
      rw [if_neg ne, x_let_e, pi_1, r1.2, if_neg ne1, x_let_e, r1.1, pi_0, nI_add, if_neg (fun x => y x.2)]
      exact ⟨_, rfl, ⟨sI_s, by rw [sI_k (by decide)]; exact r1.2⟩, f1.tr rF_18⟩
  · have z1 : w = 1 := by omega
    subst z1
    rw [r.2, if_neg ne1, x_let_e, pi_1, r1.2, if_neg ne1, x_let_e, r1.1, pi_0, nI_add, if_neg (fun x => absurd x.1 (by decide))]
    exact ⟨_, rfl, ⟨sI_s, by rw [sI_k (by decide)]; exact r1.2⟩, f1.tr rF_18⟩
theorem wd_tab : ∀ k, k < 9 → tBeg.getD (k + 1) 0 = tBeg.getD k 0 + (tWd k).length ∧ tBeg.getD k 0 + (tWd k).length ≤ 48 ∧ ∀ n, n < 7 → n < (tWd k).length → tLet.getD (tBeg.getD k 0 + n) 0 = (tWd k).getD n 0 ∧ (tWd k).getD n 0 < 128 := by decide
theorem m_lk1 (m : mT M t L) (r : rM M q w) (hq : q ≤ L) {k : Nat} (hk : k < 9) : ∀ (l : List Nat) (n N : Nat), (tWd k).drop n = l → l.length < N → n + l.length = (tWd k).length → f_X7_likeness_L18 (nI k) (nI (tWd k).length) M N (nI n) = some (nI (n + lk t L l (q + n)))
  | [], n, N, h, hN, hl => by
    obtain ⟨N, rfl⟩ : ∃ n', N = n' + 1 := ⟨N - 1, by omega⟩
    have w7 := (wd_ne k hk).2
    have hl : n + 0 = (tWd k).length := hl
    rw [f_X7_likeness_L18.eq_2, if_pos (nI_le (by omega) (by omega))]
    rfl
  | a :: l, n, N, h, hN, hl => by
    obtain ⟨N, rfl⟩ : ∃ n', N = n' + 1 := ⟨N - 1, by omega⟩
    obtain ⟨h1, h2, h3⟩ := dr_1 _ _ _ _ h
    have w7 := (wd_ne k hk).2
    have h60 := m.2.2.2.2
    obtain ⟨t1, t2, t3⟩ := wd_tab k hk
    obtain ⟨t4, t5⟩ := t3 n (by omega) h1
    have hl : n + (l.length + 1) = (tWd k).length := hl
    have hN : l.length + 1 < N + 1 := hN
    rw [f_X7_likeness_L18.eq_2, if_neg (nI_ge h1 (by omega)), m.1, r.1, nI_add, lk.eq_2]
    by_cases z : q + n < L
    · have tq := m.2.1 (q + n) z
      rw [if_neg (nI_ge z (by omega)), if_pos (pi_in (by omega) (by decide)), if_pos (pi_in (by omega) (by decide)), pi_cl (by omega), pi_cl (by omega), m.2.2.2.1 k (by omega), nI_add, if_pos (pi_in (by omega) (by decide)), pi_cl (by omega), tq.1, m.2.2.1 _ (by omega), t4, h2, pi_1, nI_add]
      rw [h2] at t5
      by_cases y : t (q + n) = a
      · rw [if_pos (by rw [y]), if_pos ⟨z, y⟩, m_lk1 m r hq hk l (n + 1) N h3 (by omega) (by omega), show q + (n + 1) = q + n + 1 by omega, show n + 1 + lk t L l (q + n + 1) = n + (lk t L l (q + n + 1) + 1) by omega]
      · rw [if_neg (fun x => y ((nI_eq (by omega) (by omega)).mp x)), if_neg (fun x => y x.2)]
        rfl
    · rw [if_pos (nI_le (by omega) (by omega)), if_neg (fun x => z x.1)]
      rfl
theorem m_lk (m : mT M t L) (r : rM M q w) (hq : q ≤ L) {k : Nat} (hk : k < 9) : f_X7_likeness (nI k) M = some (nI (lk t L (tWd k) q)) := by
  obtain ⟨t1, t2, t3⟩ := wd_tab k hk
  have w7 := (wd_ne k hk).2
  unfold f_X7_likeness
  rw [pi_1, nI_add, if_pos (pi_in (by omega) (by decide)), if_pos (pi_in (by omega) (by decide)), pi_cl (by omega), pi_cl (by omega), m.2.2.2.1 _ (by omega), m.2.2.2.1 _ (by omega), t1, pi_sub (by omega), Nat.add_sub_cancel_left, pi_0, m_lk1 m r hq hk (tWd k) 0 xF rfl (by rw [xF_2000]; omega) (by omega), Nat.zero_add]
  rfl
/-- the first word of greatest likeness -/
def bst (t : Nat → Nat) (L q : Nat) : Nat → Nat → Nat → Nat
  | 0, _, b => b
  | m + 1, k, b => bst t L q m (k + 1) (if lk t L (tWd k) q ≤ lk t L (tWd b) q then b else k)
theorem bst_sp : ∀ (m k b : Nat), k + m = 9 → b < 9 → (∀ i, i < k → lk t L (tWd i) q ≤ lk t L (tWd b) q) → bst t L q m k b < 9 ∧ ∀ i, i < 9 → lk t L (tWd i) q ≤ lk t L (tWd (bst t L q m k b)) q
  | 0, k, b, h, hb, hi => ⟨hb, fun i h9 => hi i (by omega)⟩
  | m + 1, k, b, h, hb, hi => by
    unfold bst
    by_cases z : lk t L (tWd k) q ≤ lk t L (tWd b) q
    · rw [if_pos z]
      refine bst_sp m (k + 1) b (by omega) hb fun i h1 => ?_
      by_cases e : i = k
      · rw [e]; exact z
      · exact hi i (by omega)
    · rw [if_neg z]
      refine bst_sp m (k + 1) k (by omega) (by omega) fun i h1 => ?_
      by_cases e : i = k
      · rw [e]; exact Nat.le_refl _
      · have := hi i (by omega)
        omega
theorem m_bst (m : mT M t L) (r : rM M q w) (hq : q ≤ L) {v1 : Int32} : ∀ (k i b n : Nat), i + k = 9 → b < 9 → k < n → ∃ N, f_X7_readCommand_L11 v1 M n (nI b) (nI i) = f_X7_readCommand_L11 v1 M (N + 1) (nI (bst t L q k i b)) (nI 9)
  | 0, i, b, n, h, hb, hn => by
    obtain ⟨n, rfl⟩ : ∃ n', n = n' + 1 := ⟨n - 1, by omega⟩
    have : i = 9 := by omega
    subst this
    exact ⟨n, rfl⟩
  | k + 1, i, b, n, h, hb, hn => by
    obtain ⟨n, rfl⟩ : ∃ n', n = n' + 1 := ⟨n - 1, by omega⟩
    have l1 := lk_le (t := t) (L := L) (tWd i) q
    have l2 := lk_le (t := t) (L := L) (tWd b) q
    have w1 := (wd_ne i (by omega)).2
    have w2 := (wd_ne b hb).2
    rw [f_X7_readCommand_L11.eq_2, if_neg (show ¬ (9 : Int32) ≤ nI i from nI_ge (b := 9) (by omega) (by omega)), m_lk m r hq (by omega), Option.bind_some, m_lk m r hq hb, Option.bind_some, show nI i + 1 = nI (i + 1) from nI_1 i]
    unfold bst
    by_cases z : lk t L (tWd i) q ≤ lk t L (tWd b) q
    · rw [if_pos (nI_le z (by omega)), if_pos z]
      exact m_bst m r hq k (i + 1) b n (by omega) hb (by omega)
    · rw [if_neg (nI_ge (by omega) (by omega)), if_neg z]
      exact m_bst m r hq k (i + 1) i n (by omega) (by omega) (by omega)
end MR
