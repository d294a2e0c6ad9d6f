/-! pure: a script run on both sides -/
section RU
variable {t : Nat → Nat} {L : Nat}
def aL (t : Nat → Nat) (L q : Nat) : List Nat := mAl t L (mBs t L q) (q + (tWd (mBs t L q)).length)
def oQ (t : Nat → Nat) (L q : Nat) (s : hS) : Nat × Nat × hS := oD (mBs t L q) (nI ((aL t L q).getD 0 0)) (nI ((aL t L q).getD 1 0)) (nI ((aL t L q).getD 2 0)) s
/-- how many succeed, and the hall after them -/
def aR (t : Nat → Nat) (L : Nat) : List Nat → hS → Nat × hS
  | [], s => (0, s)
  | q :: r, s => if (oQ t L q s).1 = 0 then ((aR t L r (oQ t L q s).2.2).1 + 1, (aR t L r (oQ t L q s).2.2).2) else (0, s)
theorem aR_le : ∀ (l : List Nat) (s : hS), (aR t L l s).1 ≤ l.length
  | [], s => Nat.le_refl _
  | q :: r, s => by
    unfold aR
    rw [List.length_cons]
    split
    · have := aR_le r (oQ t L q s).2.2
      dsimp only
      omega
    · exact Nat.zero_le _
theorem aL_n {q : Nat} : (aL t L q).length = nAr (mBs t L q) := by
  have b9 := (mBs_sp (t := t) (L := L) (q := q)).1
  unfold aL
  generalize mBs t L q = b at b9 ⊢
  generalize q + (tWd b).length = x
  have h : b = 8 ∨ b = 0 ∨ b = 1 ∨ b = 2 ∨ b = 3 ∨ b = 4 ∨ b = 5 ∨ b = 6 ∨ b = 7 := by omega
  rcases h with rfl | rfl | rfl | rfl | rfl | rfl | rfl | rfl | rfl
  · unfold mAl
    rw [if_pos rfl]
    split <;> rfl
  · rfl
  · rfl
  · rfl
  · rfl
  · rfl
  · rfl
  · rfl
  · rfl
theorem aR_V : ∀ (l : List Nat) (B : Nat) (s : hS), aV B s → 13 ≤ B → B + 400 * l.length < 2 ^ 29 → aV (B + 400 * l.length) (aR t L l s).2
  | [], B, s, v, hB, hB2 => v
  | q :: r, B, s, v, hB, hB2 => by
    rw [List.length_cons] at hB2 ⊢
    unfold aR
    have V := (oD_V v hB (by omega) (mBs_sp (t := t) (L := L) (q := q)).1 (nI ((aL t L q).getD 0 0)) (nI ((aL t L q).getD 1 0)) (nI ((aL t L q).getD 2 0))).1
    split
    · have := aR_V r (B + 400) (oQ t L q s).2.2 V (by omega) (by omega)
      rw [show B + 400 * (r.length + 1) = B + 400 + 400 * r.length by omega]
      exact this
    · exact aV_le v (by omega)
/-- the class's reader and trial aside nothing is anew -/
def cT (M M' : xM) : Prop := (∀ c, 4 ≤ c → c < 22 → M'.1 c = M.1 c ∧ M'.2.1 c = M.2.1 c) ∧ M'.1 0 = M.1 0 ∧ M'.2.1 0 = M.2.1 0
theorem cT.rf {M : xM} : cT M M := ⟨fun _ _ _ => ⟨rfl, rfl⟩, rfl, rfl⟩
theorem cT.tr {M M' M'' : xM} (a : cT M M') (b : cT M' M'') : cT M M'' := ⟨fun c h h2 => ⟨(b.1 c h h2).1.trans (a.1 c h h2).1, (b.1 c h h2).2.trans (a.1 c h h2).2⟩, b.2.1.trans a.2.1, b.2.2.trans a.2.2⟩
theorem pM_ct {M M' : xM} {q : Nat} {ns : Nat → Int32} (a : pM M M' q ns) : cT M M' := ⟨fun c h h2 => ⟨a.2.1 c (by omega) (by omega), by rw [a.1]⟩, a.2.1 0 (by decide) (by decide), by rw [a.1]⟩
theorem cF_ct {M M' : xM} {h : Nat} (hh : 22 ≤ h) (a : cF h M M') : cT M M' := ⟨fun c _ h2 => a.1 c (by omega), (a.1 0 (by omega)).1, (a.1 0 (by omega)).2⟩
theorem cT.sb {M M' : xM} (a : cT M M') (b : sB 4 M L t) : sB 4 M' L t := sB_same b (a.1 4 (by decide) (by decide)).1 (a.1 5 (by decide) (by decide)).1 (a.1 5 (by decide) (by decide)).2
theorem gC_pM {M M' : xM} {s : hS} {u : Nat} {H : Nat → hS} {sf : Nat} {sn : hS} {q : Nat} {ns : Nat → Int32} (g : gC M s u H sf sn) (a : pM M M' q ns) : gC M' s u H sf sn := gC_x g (a.2.1 0 (by decide) (by decide)) (by rw [a.1]) (fun c hc => a.2.1 c (by omega) (by omega))
theorem c_try {s : hS} {u : Nat} {H : Nat → hS} {sf : Nat} {sn : hS} (hL : L ≤ 60) {T : Nat} (hT : T < 100) : ∀ (n q i N B : Nat) (M : xM) (si : hS), gC M s u H sf sn → cR (M.2.1 0 1) M si → sB 4 M L t → aV B si → 13 ≤ B → B + 400 * n < 2 ^ 29 → q ≤ L → L - q < 2 * n → (sC t L n q).2 = none → T = i + (sC t L n q).1.length → n < N → ∃ M', f_X6_tryCommands_L4 (nI T) N (nI q) (nI i) M = some (if (aR t L (sC t L n q).1 si).1 = (sC t L n q).1.length then (-1 : Int32) else nI (i + (aR t L (sC t L n q).1 si).1), M') ∧ gC M' s u H sf sn ∧ ((aR t L (sC t L n q).1 si).1 = (sC t L n q).1.length → cR (M'.2.1 0 1) M' (aR t L (sC t L n q).1 si).2) ∧ cT M M'
  | 0, q, i, N, B, M, si, g, r, b, v, hB, hB2, hq, hn, h, e, hN => by omega
  | n + 1, q, i, N, B, M, si, g, r, b, v, hB, hB2, hq, hn, h, e, hN => by
    obtain ⟨N, rfl⟩ : ∃ n', N = n' + 2 := ⟨N - 2, by omega⟩
    by_cases z : gG t L q
    · have z' := z
      unfold gG at z'
      obtain ⟨M1, c, ns1, e1, p1, hc, h1, h2, h3, h4⟩ := c_good b hL hq z
      have g1 := gC_pM g p1
      have ge : 22 ≤ M.2.1 0 1 := g.ge (i := 1) (by decide)
      have e01 : M1.2.1 0 1 = M.2.1 0 1 := by rw [p1.1]
      have r1 : cR (M1.2.1 0 1) M1 si := by
        rw [e01]
        exact cR_same (fun c h1 h2 => ⟨p1.2.1 c (by omega) (by omega), by rw [p1.1]⟩) r
      have hl : if c = 9 then aL t L q = [1] else ∀ k, k < (aL t L q).length → M1.1 3 k = nI ((aL t L q).getD k 0) := by
        unfold aL
        rw [h3, p1.2.2.2]
        exact h4
      obtain ⟨x, M2, e2, r2, f2, s2⟩ := c_perf v hB (by omega) g1.k1 r1 hc hl (by rw [aL_n, h3])
      rw [← h3] at r2 s2
      have s2 : 0 ≤ x ↔ (oQ t L q si).1 = 0 := s2
      have r2 : cR (M1.2.1 0 1) M2 (oQ t L q si).2.2 := r2
      have ge1 : 22 ≤ M1.2.1 0 1 := by rw [e01]; exact ge
      have g2 : gC M2 s u H sf sn := gC_trial g1 f2 r2.1
      have t2 : cT M M2 := (pM_ct p1).tr (cF_ct ge1 f2)
      have e02 : M2.2.1 0 1 = M1.2.1 0 1 := by rw [(f2.1 0 (by omega)).2]
      have q2 : M2.1 2 2 = nI (mRd t L q).2 := by rw [(f2.1 2 (by omega)).1]; exact p1.2.2.1
      have el : (sC t L (n + 1) q) = (if L ≤ (mRd t L q).2 then ([q], none) else (q :: (sC t L n ((mRd t L q).2 + 1)).1, (sC t L n ((mRd t L q).2 + 1)).2)) := by
        show (if (mRd t L q).1 = 0 ∧ (L ≤ (mRd t L q).2 ∨ t (mRd t L q).2 = 59) then _ else _) = _
        rw [if_pos z']
      rw [el] at h e ⊢
      have len1 : i < T := by
        split at e
        · have e : T = i + 1 := e
          omega
        · rw [List.length_cons] at e
          omega
      rw [f_X6_tryCommands_L4.eq_2, if_neg (nI_ge len1 (by omega)), e1, Option.bind_some]
      show ∃ M', (if c < 10 then (f_X6_perform c M1).bind fun q7 => (if 0 ≤ q7.1 then f_X6_tryCommands_L4 (nI T) (N + 1) ((q7.2.1 2 2) + (1 : Int32)) (nI i + 1) q7.2 else some (nI i, q7.2)) else none) = _ ∧ _
      rw [if_pos hc, e2, Option.bind_some, q2, show nI (mRd t L q).2 + (1 : Int32) = nI ((mRd t L q).2 + 1) from nI_1 _, show nI i + (1 : Int32) = nI (i + 1) from nI_1 _]
      have V := (oD_V v hB (by omega) (mBs_sp (t := t) (L := L) (q := q)).1 (nI ((aL t L q).getD 0 0)) (nI ((aL t L q).getD 1 0)) (nI ((aL t L q).getD 2 0))).1
      have V : aV (B + 400) (oQ t L q si).2.2 := V
      by_cases y : (oQ t L q si).1 = 0
      · rw [if_pos (s2.mpr y)]
        by_cases w : L ≤ (mRd t L q).2
        · rw [if_pos w] at h e ⊢
          have e : T = i + 1 := e
          have ea : aR t L [q] si = (1, (oQ t L q si).2.2) := by
            show (if (oQ t L q si).1 = 0 then _ else _) = _
            rw [if_pos y]
            rfl
          rw [f_X6_tryCommands_L4.eq_2, e, if_pos (nI_le (Nat.le_refl _) (by omega))]
          refine ⟨M2, ?_, g2, fun _ => ?_, t2⟩
          · show some ((-1 : Int32), M2) = some (if (aR t L [q] si).1 = 1 then _ else _, M2)
            rw [ea, if_pos rfl]
          · show cR _ M2 (aR t L [q] si).2
            rw [ea, e02]
            exact r2
        · rw [if_neg w] at h e ⊢
          rw [List.length_cons] at e
          obtain ⟨M3, e3, g3, r3, t3⟩ := c_try hL hT n ((mRd t L q).2 + 1) (i + 1) (N + 1) (B + 400) M2 (oQ t L q si).2.2 g2 (by rw [e02]; exact r2) (t2.sb b) V (by omega) (by omega) (by omega) (by omega) h (by omega) (by omega)
          have ea : aR t L (q :: (sC t L n ((mRd t L q).2 + 1)).1) si = ((aR t L (sC t L n ((mRd t L q).2 + 1)).1 (oQ t L q si).2.2).1 + 1, (aR t L (sC t L n ((mRd t L q).2 + 1)).1 (oQ t L q si).2.2).2) := by
            show (if (oQ t L q si).1 = 0 then _ else _) = _
            rw [if_pos y]
          refine ⟨M3, ?_, g3, fun hh => ?_, t2.tr t3⟩
          · rw [e3]
            dsimp only
            rw [ea, List.length_cons]
            dsimp only
            by_cases x : (aR t L (sC t L n ((mRd t L q).2 + 1)).1 (oQ t L q si).2.2).1 = (sC t L n ((mRd t L q).2 + 1)).1.length
            · rw [if_pos x, if_pos (by omega)]
            · rw [if_neg x, if_neg (by omega)]
              exact congrArg (fun x => some (nI x, M3)) (by omega)
          · dsimp only at hh ⊢
            rw [ea, List.length_cons] at hh
            rw [ea]
            exact r3 (by dsimp only at hh; omega)
      · rw [if_neg (fun x => y (s2.mp x))]
        refine ⟨M2, ?_, g2, fun hh => ?_, t2⟩
        · split
          · show some (nI i, M2) = some (if (aR t L [q] si).1 = 1 then _ else nI (i + (aR t L [q] si).1), M2)
            have ea : aR t L [q] si = (0, si) := if_neg y
            rw [ea, if_neg (show ¬ (0 : Nat) = 1 by decide)]
            rfl
          · dsimp only
            have ea : aR t L (q :: (sC t L n ((mRd t L q).2 + 1)).1) si = (0, si) := if_neg y
            rw [ea, List.length_cons, if_neg (by dsimp only; omega)]
            rfl
        · exfalso
          split at hh
          · have ea : aR t L [q] si = (0, si) := if_neg y
            have hh : (aR t L [q] si).1 = 1 := hh
            rw [ea] at hh
            exact absurd hh (show ¬ (0 : Nat) = 1 by decide)
          · dsimp only at hh
            have ea : aR t L (q :: (sC t L n ((mRd t L q).2 + 1)).1) si = (0, si) := if_neg y
            rw [ea, List.length_cons] at hh
            dsimp only at hh
            omega
    · exfalso
      unfold gG at z
      have h : (if (mRd t L q).1 = 0 ∧ (L ≤ (mRd t L q).2 ∨ t (mRd t L q).2 = 59) then (if L ≤ (mRd t L q).2 then ([q], none) else (q :: (sC t L n ((mRd t L q).2 + 1)).1, (sC t L n ((mRd t L q).2 + 1)).2)) else (([] : List Nat), some (mRd t L q).2)).2 = none := h
      rw [if_neg z] at h
      exact absurd h (by intro x; cases x)
/-- the model's row and 'thrown' aside nothing is anew -/
def mY (M M' : xM) : Prop := M'.2 = M.2 ∧ (∀ c, c ≠ 9 → c ≠ 10 → M'.1 c = M.1 c) ∧ (∀ k, k ≠ 9 → M'.1 9 k = M.1 9 k)
theorem mY.rf {M : xM} : mY M M := ⟨rfl, fun _ _ _ => rfl, fun _ _ => rfl⟩
theorem mY.tr {M M' M'' : xM} (a : mY M M') (b : mY M' M'') : mY M M'' := ⟨b.1.trans a.1, fun c h h2 => (b.2.1 c h h2).trans (a.2.1 c h h2), fun k h => (b.2.2 k h).trans (a.2.2 k h)⟩
theorem m_try {T : Nat} (hT : T < 60) : ∀ (ls : List Nat) (i N B : Nat) (M : xM) (si : hS), dH (M.1 10) si (aW si) → M.1 9 9 = nI 0 → M.1 9 17 = nI T → T = i + ls.length → (∀ j, j < ls.length → mCq M t L (4 * (i + j)) (ls.getD j 0)) → aV B si → 13 ≤ B → B + 400 * ls.length < 2 ^ 29 → ls.length < N → ∃ M', f_X7_runScript_L115 N (nI i) M = (if (aR t L ls si).1 = ls.length then ((f_X7_changed (nI T) M').bind fun q16 => some (q16.1, q16.2)) else f_X7_runScript_L139 (nI (i + (aR t L ls si).1)) xF (0 : Int32) M') ∧ mY M M' ∧ ((aR t L ls si).1 = ls.length → dH (M'.1 10) (aR t L ls si).2 (aW (aR t L ls si).2) ∧ M'.1 9 9 = nI 0)
  | [], i, N, B, M, si, d, h9, h17, e, hc, v, hB, hB2, hN => by
    obtain ⟨N, rfl⟩ : ∃ n', N = n' + 1 := ⟨N - 1, by omega⟩
    have e : T = i := e
    rw [f_X7_runScript_L115.eq_2, h17, e, if_pos (nI_le (Nat.le_refl _) (by omega))]
    exact ⟨M, (if_pos rfl).symm, mY.rf, fun _ => ⟨d, h9⟩⟩
  | q :: r, i, N, B, M, si, d, h9, h17, e, hc, v, hB, hB2, hN => by
    rw [List.length_cons] at e hc hB2 hN
    obtain ⟨N, rfl⟩ : ∃ n', N = n' + 1 := ⟨N - 1, by omega⟩
    have c0 : mCs M (4 * i) (mBs t L q) (aL t L q) := hc 0 (by omega)
    obtain ⟨M1, e1, m1, m2⟩ := m_does v (by omega) d (mBs_sp (t := t) (L := L) (q := q)).1 (by omega) c0 aL_n
    have m1 : (oQ t L q si).1 = 0 → ∃ g', M1 = mG M 10 g' ∧ dH g' (oQ t L q si).2.2 (aW (oQ t L q si).2.2) := m1
    have m2 : (oQ t L q si).1 ≠ 0 → M1 = sI M 9 9 (nI (oQ t L q si).1) := m2
    have V := oD_V v hB (by omega) (mBs_sp (t := t) (L := L) (q := q)).1 (nI ((aL t L q).getD 0 0)) (nI ((aL t L q).getD 1 0)) (nI ((aL t L q).getD 2 0))
    have V1 : aV (B + 400) (oQ t L q si).2.2 := V.1
    have V3 : (oQ t L q si).1 ≤ 4 := V.2.2
    rw [f_X7_runScript_L115.eq_2, h17, if_neg (nI_ge (by omega) (by omega)), show (4 : Int32) = nI 4 from rfl, pk_mul, e1, Option.bind_some, show nI i + (1 : Int32) = nI (i + 1) from nI_1 _, List.length_cons]
    by_cases y : (oQ t L q si).1 = 0
    · obtain ⟨g', e', d'⟩ := m1 y
      subst e'
      have f : mY M (mG M 10 g') := ⟨rfl, fun c _ h2 => mG_n h2, fun k _ => by rw [mG_n (by decide)]⟩
      have ea : aR t L (q :: r) si = ((aR t L r (oQ t L q si).2.2).1 + 1, (aR t L r (oQ t L q si).2.2).2) := if_pos y
      have h9' : (mG M 10 g').1 9 9 = nI 0 := by rw [mG_n (by decide)]; exact h9
      rw [h9', if_pos (show nI 0 ≤ (0 : Int32) by decide), ea]
      obtain ⟨M2, e2, f2, g2⟩ := m_try hT r (i + 1) N (B + 400) (mG M 10 g') (oQ t L q si).2.2 (by rw [mG_s]; exact d') h9' (by rw [mG_n (by decide)]; exact h17) (by omega) (fun j hj => by
        have c := hc (j + 1) (by omega)
        rw [show i + 1 + j = i + (j + 1) by omega]
        have n19 : (mG M 10 g').1 19 = M.1 19 := mG_n (by decide)
        exact ⟨by rw [n19]; exact c.1, fun k hk => by rw [n19]; exact c.2 k hk⟩) V1 (by omega) (by omega) (by omega)
      refine ⟨M2, ?_, f.tr f2, fun hh => g2 (by dsimp only at hh; omega)⟩
      rw [e2]
      dsimp only
      by_cases x : (aR t L r (oQ t L q si).2.2).1 = r.length
      · rw [if_pos x, if_pos (by omega)]
      · rw [if_neg x, if_neg (by omega), show i + 1 + (aR t L r (oQ t L q si).2.2).1 = i + ((aR t L r (oQ t L q si).2.2).1 + 1) by omega]
    · have e' := m2 y
      subst e'
      have ea : aR t L (q :: r) si = (0, si) := if_neg y
      rw [ea, sI_s, if_neg (nI_nle (by omega) (by omega))]
      exact ⟨_, (if_neg (show ¬ (0 : Nat) = r.length + 1 by omega)).symm, ⟨rfl, fun c h1 _ => sI_c h1, fun k hk => sI_k hk⟩, fun hh => by dsimp only at hh; omega⟩
theorem m_rst {v : Int32} : ∀ (m k n : Nat) (M : xM), k + m = 159 → m < n → f_X7_runScript_L139 v n (nI k) M = some (mI, sI (sI (mG M 10 (fun x => if k ≤ x ∧ x < 159 then M.1 11 x else M.1 10 x)) 9 8 v) 9 9 (nI 2))
  | 0, k, n, M, e, hn => by
    obtain ⟨n, rfl⟩ : ∃ n', n = n' + 1 := ⟨n - 1, by omega⟩
    have : k = 159 := by omega
    subst this
    have : (fun x => if 159 ≤ x ∧ x < 159 then M.1 11 x else M.1 10 x) = M.1 10 := funext fun x => if_neg (by omega)
    rw [this, mG_id, f_X7_runScript_L139.eq_2, if_pos (show (159 : Int32) ≤ nI 159 by decide), x_let_e, m_throw, Option.bind_some]
    rfl
  | m + 1, k, n, M, e, hn => by
    obtain ⟨n, rfl⟩ : ∃ n', n = n' + 1 := ⟨n - 1, by omega⟩
    rw [f_X7_runScript_L139.eq_2, if_neg (show ¬ (159 : Int32) ≤ nI k from nI_ge (b := 159) (by omega) (by omega)), if_pos (show x_in (nI k) 159 = true from pi_in159 (by omega)), if_pos (show x_in (nI k) 159 = true from pi_in159 (by omega)), x_let_e, pi_cl (by omega), show nI k + (1 : Int32) = nI (k + 1) from nI_1 k, m_rst m (k + 1) n _ (by omega) (by omega), show sI M 10 k (M.1 11 k) = mG M 10 (upd (M.1 10) k (M.1 11 k)) from rfl, mG_g, mG_s, mG_n (show (11 : Nat) ≠ 10 by decide)]
    congr 5
    funext x
    simp only [upd]
    (repeat' split) <;> first | rfl | (exfalso; omega) | (exact congrArg _ (by omega))
end RU
