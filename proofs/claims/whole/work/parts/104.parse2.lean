/-! pure: the class's reader of scripts, forms and commands -/
theorem dr_1 : ∀ (l : List Nat) (j a : Nat) (r : List Nat), l.drop j = a :: r → j < l.length ∧ l.getD j 0 = a ∧ l.drop (j + 1) = r
  | [], j, a, r, h => by
    rw [List.drop_nil] at h
    exact absurd h (by intro x; cases x)
  | b :: l, 0, a, r, h => by
    have h : b :: l = a :: r := h
    injection h with h1 h2
    exact ⟨Nat.succ_pos _, h1, h2⟩
  | b :: l, j + 1, a, r, h => by
    obtain ⟨h1, h2, h3⟩ := dr_1 l j a r h
    exact ⟨Nat.succ_lt_succ h1, h2, h3⟩
theorem dr_0 {l : List Nat} {j : Nat} (h : l.drop j = []) : l.length ≤ j := List.drop_eq_nil_iff.mp h
theorem ga_lt {c j : Nat} (h : c < 10) (hj : j < (tFm c).length) : (tFm c).getD j 0 < 128 := by
  have : ∀ c, c < 10 → ∀ j, j < 10 → (tFm c).getD j 0 < 128 := by decide
  exact this c h j (by have := (fm_lt c h).1; omega)
section PB
variable {L : Nat} {t : Nat → Nat}
theorem c_num0 {M : xM} (b : sB 4 M L t) {q f m : Nat} (hL : L ≤ 60) (hq : M.1 2 2 = nI q) (hq2 : q ≤ L) (hf : f < 3) (hd : ¬ dgA t L q = true) : f_X4_readNumber (nI f) (nI m) M = some (nI 0, M) := by
  unfold f_X4_readNumber
  rw [if_neg (show ¬ (3 : Int32) ≤ nI f from nI_ge (b := 3) (by omega) (by omega)), c_dg b hL hq hq2, Option.bind_some, if_neg hd, if_pos (show nI 0 = 0 from rfl)]
  rfl
theorem c_sgn {M : xM} (b : sB 4 M L t) {q a : Nat} (hL : L ≤ 60) (hq : M.1 2 2 = nI q) (hq2 : q ≤ L) (ha : a < 128) : f_X4_readSign (nI a) M = some (if q < L ∧ t q = a then (nI 1, sI M 2 2 (nI (q + 1))) else (nI 0, M)) := by
  unfold f_X4_readSign
  rw [c_len b, Option.bind_some, hq]
  by_cases z : q < L
  · have tq := (b.2.2.1 q z).2
    rw [if_neg (nI_ge z (by omega)), c_at b z, Option.bind_some, x_let_e, pi_1, nI_add]
    by_cases y : t q = a
    · rw [if_pos (by rw [y]), if_pos ⟨z, y⟩]
    · rw [if_neg (fun x => y ((nI_eq (by omega) (by omega)).mp x)), if_neg (fun x => y x.2)]
      rfl
  · rw [if_pos (nI_le (by omega) (by omega)), if_neg (fun x => z x.1)]
    rfl
theorem c_mat {c : Nat} (hc : c < 10) (hL : L ≤ 60) : ∀ (r : List Nat) (j f q n : Nat) (M : xM), (tFm c).drop j = r → f + fmN r ≤ 3 → sB 4 M L t → M.1 2 2 = nI q → q ≤ L → r.length < n → j + r.length ≤ 10 → ∃ M', f_X4_matches_L10 c n (nI f) (nI j) M = some (if (pF t L r q f (M.1 3)).1 = true then nI 1 else nI 0, M') ∧ pM M M' (pF t L r q f (M.1 3)).2.1 (pF t L r q f (M.1 3)).2.2 ∧ q ≤ (pF t L r q f (M.1 3)).2.1 ∧ (pF t L r q f (M.1 3)).2.1 ≤ L
  | [], j, f, q, n, M, hr, hf, b, hq, hq2, hn, hj => by
    obtain ⟨n, rfl⟩ : ∃ n', n = n' + 1 := ⟨n - 1, by omega⟩
    have l10 := (fm_lt c hc).1
    have hj : j ≤ 10 := hj
    refine ⟨M, ?_, ⟨rfl, fun _ _ _ => rfl, hq, rfl⟩, Nat.le_refl _, hq2⟩
    rw [f_X4_matches_L10.eq_2, fM_len hc, Option.bind_some, if_pos (nI_le (dr_0 hr) (by omega)), c_len b, Option.bind_some, hq]
    show _ = some (if decide (L ≤ q ∨ t q = 59) = true then nI 1 else nI 0, M)
    by_cases z : q < L
    · have tq := (b.2.2.1 q z).2
      rw [if_neg (nI_ge z (by omega)), c_at b z, Option.bind_some, show (59 : Int32) = nI 59 from rfl]
      by_cases y : t q = 59
      · rw [if_pos (by rw [y]), if_pos (decide_eq_true (.inr y))]
        rfl
      · rw [if_neg (fun x => y ((nI_eq (by omega) (by omega)).mp x)), if_neg (by rw [decide_eq_false (by omega)]; decide)]
        rfl
    · rw [if_pos (nI_le (by omega) (by omega)), if_pos (decide_eq_true (.inl (by omega)))]
      rfl
  | a :: r, j, f, q, n, M, hr, hf, b, hq, hq2, hn, hj => by
    obtain ⟨n, rfl⟩ : ∃ n', n = n' + 1 := ⟨n - 1, by omega⟩
    obtain ⟨h1, h2, h3⟩ := dr_1 _ _ _ _ hr
    have l10 := (fm_lt c hc).1
    have ha := ga_lt hc h1
    rw [h2] at ha
    have hn : r.length + 1 < n + 1 := hn
    have hj : j + (r.length + 1) ≤ 10 := hj
    have hf : f + ((if a = 35 ∨ a = 37 then 1 else 0) + fmN r) ≤ 3 := hf
    rw [f_X4_matches_L10.eq_2, fM_len hc, Option.bind_some, if_neg (nI_ge h1 (by omega)), fM_at hc h1, h2, Option.bind_some, pi_1, nI_add, nI_add, show (35 : Int32) = nI 35 from rfl, show (37 : Int32) = nI 37 from rfl, show (2 : Int32) = nI 2 from rfl]
    have e35 : ∀ k, k = 35 ∨ k = 37 → (nI a = nI k ↔ a = k) := fun k hk => nI_eq (by omega) (by omega)
    have i35 := e35 35 (.inl rfl)
    have i37 := e35 37 (.inr rfl)
    unfold pF
    by_cases z : a = 35
    · have za : a = 35 ∨ a = 37 := .inl z
      rw [if_pos za] at hf
      rw [if_pos (i35.mpr z), if_pos (i35.mpr z)]
      simp only [if_pos za, if_pos z]
      by_cases d : dgA t L q = true
      · obtain ⟨M1, e1, p1⟩ := c_num b hL hq hq2 (f := f) (m := 2) (by omega) (.inr rfl) d
        have n2 := nV_2 (m := 2) d
        obtain ⟨M2, e2, p2, g1, g2⟩ := c_mat hc hL r (j + 1) (f + 1) (nV 2 t L q).2 n M1 h3 (by omega) (p1.sb b) p1.2.2.1 n2.1 (by omega) (by omega)
        rw [p1.2.2.2] at e2 p2 g1 g2
        rw [e1, Option.bind_some, if_neg (show ¬ nI 1 = 0 by decide), e2]
        simp only [if_pos d]
        exact ⟨M2, rfl, p1.tr p2, by omega, g2⟩
      · rw [c_num0 b hL hq hq2 (by omega) d, Option.bind_some, if_pos (show nI 0 = 0 from rfl)]
        simp only [if_neg d]
        exact ⟨M, rfl, ⟨rfl, fun _ _ _ => rfl, hq, rfl⟩, Nat.le_refl _, hq2⟩
    · rw [if_neg (fun x => z (i35.mp x))]
      by_cases y : a = 37
      · have za : a = 35 ∨ a = 37 := .inr y
        rw [if_pos za] at hf
        rw [if_pos (i37.mpr y), if_neg (fun x => z (i35.mp x))]
        simp only [if_pos za, if_neg z]
        by_cases d : dgA t L q = true
        · obtain ⟨M1, e1, p1⟩ := c_num b hL hq hq2 (f := f) (m := 1) (by omega) (.inl rfl) d
          have n2 := nV_2 (m := 1) d
          obtain ⟨M2, e2, p2, g1, g2⟩ := c_mat hc hL r (j + 1) (f + 1) (nV 1 t L q).2 n M1 h3 (by omega) (p1.sb b) p1.2.2.1 n2.1 (by omega) (by omega)
          rw [p1.2.2.2] at e2 p2 g1 g2
          rw [e1, Option.bind_some, if_neg (show ¬ nI 1 = 0 by decide), e2]
          simp only [if_pos d]
          exact ⟨M2, rfl, p1.tr p2, by omega, g2⟩
        · rw [c_num0 b hL hq hq2 (by omega) d, Option.bind_some, if_pos (show nI 0 = 0 from rfl)]
          simp only [if_neg d]
          exact ⟨M, rfl, ⟨rfl, fun _ _ _ => rfl, hq, rfl⟩, Nat.le_refl _, hq2⟩
      · have za : ¬ (a = 35 ∨ a = 37) := by omega
        rw [if_neg za] at hf
        rw [if_neg (fun x => y (i37.mp x)), c_sgn b hL hq hq2 ha, Option.bind_some]
        simp only [if_neg za]
        by_cases d : q < L ∧ t q = a
        · obtain ⟨M2, e2, p2, g1, g2⟩ := c_mat hc hL r (j + 1) f (q + 1) n (sI M 2 2 (nI (q + 1))) h3 (by omega) (rd_2.sb b) sI_s (by omega) (by omega) (by omega)
          have e3 : (sI M 2 2 (nI (q + 1))).1 3 = M.1 3 := sI_c (by decide)
          rw [e3] at e2 p2 g1 g2
          simp only [if_pos d]
          rw [if_neg (show ¬ nI 1 = 0 by decide), e2]
          exact ⟨M2, rfl, pM.tr rd_2 p2, by omega, g2⟩
        · simp only [if_neg d]
          rw [if_pos (show nI 0 = 0 from rfl)]
          exact ⟨M, rfl, ⟨rfl, fun _ _ _ => rfl, hq, rfl⟩, Nat.le_refl _, hq2⟩
/-- form c at q -/
def pC (t : Nat → Nat) (L : Nat) (c q : Nat) (ns : Nat → Int32) : Bool × Nat × (Nat → Int32) := pF t L (tFm c) q 0 ns
theorem c_mtc {c : Nat} (hc : c < 10) (hL : L ≤ 60) {q : Nat} {M : xM} (b : sB 4 M L t) (hq2 : q ≤ L) : ∃ M', f_X4_matches c (nI q) M = some (if (pC t L c q (M.1 3)).1 = true then nI 1 else nI 0, M') ∧ pM M M' (pC t L c q (M.1 3)).2.1 (pC t L c q (M.1 3)).2.2 ∧ q ≤ (pC t L c q (M.1 3)).2.1 ∧ (pC t L c q (M.1 3)).2.1 ≤ L := by
  unfold f_X4_matches pC
  have r := rd_2 (M := M) (q := q)
  have l10 := (fm_lt c hc).1
  obtain ⟨M', e, p, g1, g2⟩ := c_mat hc hL (tFm c) 0 0 q xF (sI M 2 2 (nI q)) rfl (by rw [Nat.zero_add]; exact fmN_le c hc) (r.sb b) sI_s hq2 (by rw [xF_2000]; omega) (by omega)
  rw [r.2.2.2] at e p g1 g2
  rw [x_let_e, pi_0, e]
  exact ⟨M', rfl, r.tr p, g1, g2⟩
/-- the first form that fits, or how far all reach -/
def pA (t : Nat → Nat) (L q : Nat) : Nat → Nat → Nat → (Nat → Int32) → Option (Nat × Nat × (Nat → Int32)) × Nat
  | 0, _, m, _ => (none, m)
  | k + 1, c, m, ns => if (pC t L c q ns).1 = true then (some (c, (pC t L c q ns).2.1, (pC t L c q ns).2.2), 0) else pA t L q k (c + 1) (if m < (pC t L c q ns).2.1 then (pC t L c q ns).2.1 else m) (pC t L c q ns).2.2
theorem c_cmd (hL : L ≤ 60) {q : Nat} (hq : q ≤ L) : ∀ (k c m n : Nat) (M : xM), c + k = 10 → sB 4 M L t → k < n → m ≤ L → ∃ M' q' ns', f_X4_commandAt_L13 (nI q) (10 : Int32) n (nI m) (nI c) M = some ((pA t L q k c m (M.1 3)).1.map (fun x => x.1), M') ∧ pM M M' q' ns' ∧ (∀ x, (pA t L q k c m (M.1 3)).1 = some x → q' = x.2.1 ∧ ns' = x.2.2 ∧ x.1 < 10 ∧ x.2.1 ≤ L) ∧ ((pA t L q k c m (M.1 3)).1 = none → q' = (pA t L q k c m (M.1 3)).2 ∧ q' ≤ L)
  | 0, c, m, n, M, h, b, hn, hm => by
    obtain ⟨n, rfl⟩ : ∃ n', n = n' + 1 := ⟨n - 1, by omega⟩
    have : c = 10 := by omega
    subst this
    rw [f_X4_commandAt_L13.eq_2, if_pos (show (10 : Int32) ≤ nI 10 by decide), x_let_e]
    exact ⟨_, m, M.1 3, rfl, rd_2, fun x hx => absurd hx (by intro y; cases y), fun _ => ⟨rfl, hm⟩⟩
  | k + 1, c, m, n, M, h, b, hn, hm => by
    obtain ⟨n, rfl⟩ : ∃ n', n = n' + 1 := ⟨n - 1, by omega⟩
    have hc : c < 10 := by omega
    obtain ⟨M1, e1, p1, g1, g2⟩ := c_mtc hc hL b hq
    rw [f_X4_commandAt_L13.eq_2, if_neg (show ¬ (10 : Int32) ≤ nI c from nI_ge (b := 10) hc (by omega)), if_pos (pi_in (by omega) (by omega)), pi_cl (by omega), e1, Option.bind_some]
    unfold pA
    by_cases z : (pC t L c q (M.1 3)).1 = true
    · simp only [if_pos z]
      rw [if_neg (show ¬ nI 1 = 0 by decide)]
      refine ⟨M1, _, _, rfl, p1, fun x hx => ?_, fun hx => absurd hx (by intro y; cases y)⟩
      injection hx with hx
      rw [← hx]
      exact ⟨rfl, rfl, hc, g2⟩
    · simp only [if_neg z]
      rw [if_pos (show nI 0 = 0 from rfl), p1.2.2.1, pi_1, nI_add]
      have e : (if nI m < nI (pC t L c q (M.1 3)).2.1 then nI (pC t L c q (M.1 3)).2.1 else nI m) = nI (if m < (pC t L c q (M.1 3)).2.1 then (pC t L c q (M.1 3)).2.1 else m) := by
        by_cases y : m < (pC t L c q (M.1 3)).2.1
        · rw [if_pos y, if_pos (nI_lt y (by omega))]
        · rw [if_neg y, if_neg (nI_nlt (by omega) (by omega))]
      rw [e]
      obtain ⟨M2, q2, ns2, e2, p2, f2, f3⟩ := c_cmd hL hq k (c + 1) (if m < (pC t L c q (M.1 3)).2.1 then (pC t L c q (M.1 3)).2.1 else m) n M1 (by omega) (p1.sb b) (by omega) (by split <;> omega)
      rw [p1.2.2.2] at e2 f2 f3
      exact ⟨M2, q2, ns2, e2, p1.tr p2, f2, f3⟩
end PB
