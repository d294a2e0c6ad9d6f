/-! pure: the whole script read by class and model -/
section LP
variable {t : Nat → Nat} {L : Nat}
theorem mK_le : ∀ (l : List Nat) (s : Nat × Nat), s.2 ≤ L → (mK t L l s).2 ≤ L
  | [], s, h => h
  | a :: r, s, h => by
    rw [mK.eq_2]
    refine mK_le r _ ?_
    split
    · exact (sD_le h).1
    · split
      · exact (sD_le h).1
      · exact (sE_le h).1
theorem mRd_le {q : Nat} (hq : q ≤ L) : (mRd t L q).2 ≤ L := by
  have hL := lk_L (t := t) (L := L) (tWd (mBs t L q)) q hq
  have hl := lk_le (t := t) (L := L) (tWd (mBs t L q)) q
  unfold mRd
  split
  · exact hL
  · have h : q + (tWd (mBs t L q)).length ≤ L := by omega
    unfold mAr
    split
    · split
      · exact (sD_le (by omega)).1
      · exact h
    · exact mK_le _ _ h
def gG (t : Nat → Nat) (L q : Nat) : Prop := (mRd t L q).1 = 0 ∧ (L ≤ (mRd t L q).2 ∨ t (mRd t L q).2 = 59)
/-- where the commands start, and where the form is wrong -/
def sC (t : Nat → Nat) (L : Nat) : Nat → Nat → List Nat × Option Nat
  | 0, _ => ([], none)
  | n + 1, q => if (mRd t L q).1 = 0 ∧ (L ≤ (mRd t L q).2 ∨ t (mRd t L q).2 = 59) then (if L ≤ (mRd t L q).2 then ([q], none) else (q :: (sC t L n ((mRd t L q).2 + 1)).1, (sC t L n ((mRd t L q).2 + 1)).2)) else ([], some (mRd t L q).2)
theorem pG_bad {q : Nat} {ns : Nat → Int32} (h : ¬ gG t L q) : pA t L q 10 0 q ns = (none, (mRd t L q).2) := by
  rcases p_G (t := t) (L := L) (q := q) (ns := ns) with ⟨a, b, c⟩ | ⟨c, q', ns', a, b, d, e, f⟩
  · exact Prod.ext a b.symm
  · exact absurd ⟨by rw [d], by rw [d]; exact e⟩ h
theorem pG_good {q : Nat} {ns : Nat → Int32} (h : gG t L q) : q < (mRd t L q).2 ∧ ∃ c ns', (pA t L q 10 0 q ns).1 = some (c, (mRd t L q).2, ns') ∧ c < 10 ∧ mBs t L q = wd c ∧ (if c = 9 then mAl t L (wd c) (q + (tWd (wd c)).length) = [1] else ∀ k, k < (mAl t L (wd c) (q + (tWd (wd c)).length)).length → ns' k = nI ((mAl t L (wd c) (q + (tWd (wd c)).length)).getD k 0)) := by
  rcases p_G (t := t) (L := L) (q := q) (ns := ns) with ⟨a, b, c⟩ | ⟨c, q', ns', a, b, d, e, f, g, k⟩
  · exfalso
    have h1 := h.1
    rcases c with c | ⟨c1, c2, c3⟩
    · omega
    · rcases h.2 with x | x
      · omega
      · exact c3 x
  · rw [d]
    exact ⟨g, c, ns', a, b, f, k⟩
theorem c_at0 {M : xM} (b : sB 4 M L t) (hL : L ≤ 60) {q : Nat} (hq : q ≤ L) : ∃ M' q' ns', f_X4_commandAt (nI q) M = some ((pA t L q 10 0 q (M.1 3)).1.map (fun x => x.1), M') ∧ pM M M' q' ns' ∧ (∀ x, (pA t L q 10 0 q (M.1 3)).1 = some x → q' = x.2.1 ∧ ns' = x.2.2 ∧ x.1 < 10 ∧ x.2.1 ≤ L) ∧ ((pA t L q 10 0 q (M.1 3)).1 = none → q' = (pA t L q 10 0 q (M.1 3)).2 ∧ q' ≤ L) := by
  unfold f_X4_commandAt
  rw [pi_0]
  exact c_cmd hL hq 10 0 q xF M rfl b (by rw [xF_2000]; omega) hq
/-- a good start read by the class -/
theorem c_good {M : xM} (b : sB 4 M L t) (hL : L ≤ 60) {q : Nat} (hq : q ≤ L) (h : gG t L q) : ∃ M' c ns', f_X4_commandAt (nI q) M = some (some c, M') ∧ pM M M' (mRd t L q).2 ns' ∧ c < 10 ∧ (mRd t L q).2 ≤ L ∧ q < (mRd t L q).2 ∧ mBs t L q = wd c ∧ (if c = 9 then mAl t L (wd c) (q + (tWd (wd c)).length) = [1] else ∀ k, k < (mAl t L (wd c) (q + (tWd (wd c)).length)).length → ns' k = nI ((mAl t L (wd c) (q + (tWd (wd c)).length)).getD k 0)) := by
  obtain ⟨M', q', ns1, e, p, g, n⟩ := c_at0 b hL hq
  obtain ⟨lt, c, ns', a1, a2, a3, a4⟩ := pG_good (ns := M.1 3) h
  obtain ⟨g1, g2, g3, g4⟩ := g _ a1
  rw [a1] at e
  subst g1 g2
  exact ⟨M', c, _, e, p, a2, g4, lt, a3, a4⟩
theorem c_badq {M : xM} (b : sB 4 M L t) (hL : L ≤ 60) {q : Nat} (hq : q ≤ L) (h : ¬ gG t L q) : ∃ M' ns', f_X4_commandAt (nI q) M = some (none, M') ∧ pM M M' (mRd t L q).2 ns' ∧ (mRd t L q).2 ≤ L := by
  obtain ⟨M', q', ns1, e, p, g, n⟩ := c_at0 b hL hq
  have a := pG_bad (ns := M.1 3) h
  rw [a] at e n
  obtain ⟨n1, n2⟩ := n rfl
  subst n1
  exact ⟨M', ns1, e, p, n2⟩
theorem c_cnt (hL : L ≤ 60) : ∀ (n q k N : Nat) (M : xM), sB 4 M L t → q ≤ L → L - q < 2 * n → 1 ≤ k → 2 * (k - 1) ≤ q → n < N → ∃ M' qq ns', f_X4_countCommands_L4 N (nI q) (nI k) M = some (if (sC t L n q).2 = none then nI (k - 1 + (sC t L n q).1.length) else (-1 : Int32), M') ∧ pM M M' qq ns' ∧ (∀ e, (sC t L n q).2 = some e → qq = e ∧ e ≤ L) ∧ 2 * (k - 1 + (sC t L n q).1.length) ≤ L + 2
  | 0, q, k, N, M, b, hq, hn, hk, hk2, hN => by omega
  | n + 1, q, k, N, M, b, hq, hn, hk, hk2, hN => by
    obtain ⟨N, rfl⟩ : ∃ n', N = n' + 1 := ⟨N - 1, by omega⟩
    rw [f_X4_countCommands_L4.eq_2, show (60 : Int32) = nI 60 from rfl, if_neg (nI_nlt (by omega) (by omega))]
    unfold sC
    by_cases z : gG t L q
    · have z' := z
      unfold gG at z'
      obtain ⟨M1, c, ns1, e1, p1, hc, h1, h2, h3, h4⟩ := c_good b hL hq z
      rw [if_pos z', e1, Option.bind_some]
      show ∃ M' qq ns', (if c < 10 then (f_J4_length_8abf5 4 M1).bind fun q7 => (if (M1.1 2 2) < q7 then f_X4_countCommands_L4 N ((M1.1 2 2) + (1 : Int32)) (nI k + 1) M1 else some (nI k, M1)) else none) = _ ∧ _
      rw [if_pos hc, c_len (p1.sb b), Option.bind_some, p1.2.2.1, pi_1, nI_add, nI_add]
      by_cases y : L ≤ (mRd t L q).2
      · rw [if_neg (nI_nlt y (by omega)), if_pos y]
        refine ⟨M1, _, ns1, ?_, p1, fun e he => absurd he (by intro x; cases x), ?_⟩
        · rw [if_pos rfl]
          exact congrArg (fun x => some (nI x, M1)) (show k = k - 1 + 1 by omega)
        · show 2 * (k - 1 + 1) ≤ L + 2
          omega
      · rw [if_pos (nI_lt (by omega) (by omega)), if_neg y]
        obtain ⟨M2, qq, ns2, e2, p2, g2, g3⟩ := c_cnt hL n ((mRd t L q).2 + 1) (k + 1) N M1 (p1.sb b) (by omega) (by omega) (by omega) (by omega) (by omega)
        refine ⟨M2, qq, ns2, ?_, p1.tr p2, g2, ?_⟩
        · rw [e2]
          exact congrArg (fun x => some (if (sC t L n ((mRd t L q).2 + 1)).2 = none then nI x else (-1 : Int32), M2)) (by rw [List.length_cons]; omega)
        · rw [List.length_cons]
          omega
    · have z' := z
      unfold gG at z'
      obtain ⟨M1, ns1, e1, p1, h1⟩ := c_badq b hL hq z
      rw [if_neg z', e1, Option.bind_some]
      refine ⟨M1, _, ns1, ?_, p1, fun e he => ?_, ?_⟩
      · rw [if_neg (show ¬ some (mRd t L q).2 = none by intro x; cases x)]
        rfl
      · injection he with he
        rw [← he]
        exact ⟨rfl, h1⟩
      · show 2 * (k - 1 + 0) ≤ L + 2
        omega
theorem mAl_le {b q : Nat} (hb : b < 9) : (mAl t L b q).length ≤ 3 := by
  have h : b = 8 ∨ b = 0 ∨ b = 1 ∨ b = 2 ∨ b = 3 ∨ b = 4 ∨ b = 5 ∨ b = 6 ∨ b = 7 := by omega
  rcases h with rfl | rfl | rfl | rfl | rfl | rfl | rfl | rfl | rfl
  · unfold mAl
    rw [if_pos rfl]
    split
    · show 1 ≤ 3; omega
    · show 1 ≤ 3; omega
  · show 1 ≤ 3; omega
  · show 3 ≤ 3; omega
  · show 1 ≤ 3; omega
  · show 2 ≤ 3; omega
  · show 1 ≤ 3; omega
  · show 1 ≤ 3; omega
  · show 1 ≤ 3; omega
  · show 0 ≤ 3; omega
/-- the command that starts at q stands at v -/
def mCq (M : xM) (t : Nat → Nat) (L v q : Nat) : Prop := mCs M v (mBs t L q) (mAl t L (mBs t L q) (q + (tWd (mBs t L q)).length))
theorem mCq.c {M M' : xM} {v v' q : Nat} (h : mCq M t L v q) (hv : v + 4 ≤ v') (f : rC M M' v') : mCq M' t L v q := by
  have l3 := mAl_le (t := t) (L := L) (q := q + (tWd (mBs t L q)).length) (mBs_sp (t := t) (L := L) (q := q)).1
  refine ⟨?_, fun k hk => ?_⟩
  · rw [f.2.2.2 v (by omega)]; exact h.1
  · rw [f.2.2.2 _ (by omega)]; exact h.2 k hk
theorem rC.le {M M' : xM} {v v' : Nat} (a : rC M M' v') (h : v ≤ v') : rC M M' v := ⟨a.1, a.2.1, a.2.2.1, fun k hk => a.2.2.2 k (by omega)⟩
theorem m_lp : ∀ (n q ct N : Nat) (M : xM) (w : Nat), mT M t L → rM M q w → M.1 9 17 = nI ct → q ≤ L → L - q < 2 * n → 2 * ct ≤ q → n < N → ∃ M' N', f_X7_runScript_L34 N (1 : Int32) M = f_X7_runScript_L34 (N' + 1) (0 : Int32) M' ∧ rC M M' (4 * ct) ∧ ((sC t L n q).2 = none → M'.1 9 20 = nI 0 ∧ M'.1 9 17 = nI (ct + (sC t L n q).1.length) ∧ ∀ i, i < (sC t L n q).1.length → mCq M' t L (4 * (ct + i)) ((sC t L n q).1.getD i 0)) ∧ (∀ e, (sC t L n q).2 = some e → M'.1 9 20 = nI 1 ∧ M'.1 9 18 = nI e)
  | 0, q, ct, N, M, w, m, r, hct, hq, hn, hk2, hN => by omega
  | n + 1, q, ct, N, M, w, m, r, hct, hq, hn, hk2, hN => by
    obtain ⟨N, rfl⟩ : ∃ n', N = n' + 2 := ⟨N - 2, by omega⟩
    have h60 := m.2.2.2.2
    obtain ⟨M1, e1, c1, r1, s1⟩ := m_rc m r hq hct (by omega)
    have m1 := m.c c1
    have ne1 : ¬ nI 1 = (0 : Int32) := by decide
    rw [f_X7_runScript_L34.eq_2, if_neg (show ¬ (1 : Int32) = 0 by decide), e1, Option.bind_some, r1.2, m1.1, r1.1]
    unfold sC
    by_cases w0 : (mRd t L q).1 = 0
    · obtain ⟨k17, kc⟩ := s1 w0
      have r1 : rM M1 (mRd t L q).2 0 := by rw [← w0]; exact r1
      rw [w0, if_pos (show nI 0 = (0 : Int32) from rfl)]
      by_cases y : L ≤ (mRd t L q).2
      · have bd : (mRd t L q).2 < 2 ^ 31 := by
          have := mRd_le (t := t) hq
          omega
        rw [if_pos (nI_le y bd), if_pos (show (0 : Int32) = 0 from rfl), if_pos (show (0 : Nat) = 0 ∧ (L ≤ (mRd t L q).2 ∨ t (mRd t L q).2 = 59) from ⟨rfl, .inl y⟩), if_pos y]
        refine ⟨M1, N, rfl, c1, fun _ => ⟨r1.2, k17, fun i hi => ?_⟩, fun e he => absurd he (by intro x; cases x)⟩
        have hi : i < 1 := hi
        have : i = 0 := by omega
        subst this
        exact kc
      · rw [if_neg (nI_ge (by omega) (by omega)), if_neg (show ¬ (1 : Int32) = 0 by decide), show (59 : Int32) = nI 59 from rfl]
        obtain ⟨M2, e2, r2, f2⟩ := m_exp m1 r1 (by omega) (.inl rfl) (a := 59) (by decide)
        rw [e2, Option.bind_some, r2.2]
        by_cases x : t (mRd t L q).2 = 59
        · have es : sE_ t L 59 0 (mRd t L q).2 = (0, (mRd t L q).2 + 1) := if_pos ⟨rfl, by omega, x⟩
          rw [es] at r2 ⊢
          have r2 : rM M2 ((mRd t L q).2 + 1) 0 := r2
          have lt := (pG_good (ns := z0) (show gG t L q from ⟨w0, .inr x⟩)).1
          rw [if_pos (show nI 0 = (0 : Int32) from rfl), if_pos (show (0 : Nat) = 0 ∧ (L ≤ (mRd t L q).2 ∨ t (mRd t L q).2 = 59) from ⟨rfl, .inr x⟩), if_neg y]
          have k17' : M2.1 9 17 = nI (ct + 1) := by rw [f2.2.2 17 (by decide) (by decide)]; exact k17
          obtain ⟨M3, N3, e3, c3, g3, b3⟩ := m_lp n ((mRd t L q).2 + 1) (ct + 1) (N + 1) M2 0 (m1.f f2) r2 k17' (by omega) (by omega) (by omega) (by omega)
          refine ⟨M3, N3, e3, c1.tr ((f2.c).tr (c3.le (by omega))), fun h => ?_, b3⟩
          obtain ⟨g1, g2, g4⟩ := g3 h
          refine ⟨g1, by rw [g2, List.length_cons]; exact congrArg nI (by omega), fun i hi => ?_⟩
          rw [List.length_cons] at hi
          cases i with
          | zero =>
            have kc : mCq M1 t L (4 * ct) q := kc
            exact mCq.c (v' := 4 * (ct + 1)) kc (by omega) ((f2.c).tr c3)
          | succ i =>
            have := g4 i (by omega)
            rw [show ct + 1 + i = ct + (i + 1) by omega] at this
            exact this
        · have es : sE_ t L 59 0 (mRd t L q).2 = (1, (mRd t L q).2) := if_neg (fun v => x v.2.2)
          rw [es] at r2 ⊢
          rw [if_neg ne1, if_neg (show ¬ ((0 : Nat) = 0 ∧ (L ≤ (mRd t L q).2 ∨ t (mRd t L q).2 = 59)) by omega)]
          refine ⟨M2, N, rfl, c1.tr f2.c, fun h => absurd h (by intro x; cases x), fun e he => ?_⟩
          injection he with he
          rw [← he]
          exact ⟨r2.2, r2.1⟩
    · have w1 : (mRd t L q).1 = 1 := by
        rcases p_G (t := t) (L := L) (q := q) (ns := z0) with ⟨_, _, a | a⟩ | ⟨c, q', ns', _, _, d, _⟩
        · exact a
        · exact absurd a.1 w0
        · exact absurd (by rw [d]) w0
      rw [w1, if_neg ne1, if_pos (show (0 : Int32) = 0 from rfl), if_neg (show ¬ ((1 : Nat) = 0 ∧ (L ≤ (mRd t L q).2 ∨ t (mRd t L q).2 = 59)) by omega)]
      refine ⟨M1, N, rfl, c1, fun h => absurd h (by intro x; cases x), fun e he => ?_⟩
      injection he with he
      rw [← he]
      rw [w1] at r1
      exact ⟨r1.2, r1.1⟩
end LP
