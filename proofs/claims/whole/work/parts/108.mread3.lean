/-! pure: one command, read by class and model -/
section MV
variable {t : Nat → Nat} {L : Nat}
def mBs (t : Nat → Nat) (L q : Nat) : Nat := bst t L q 8 1 0
def mRd (t : Nat → Nat) (L q : Nat) : Nat × Nat := if lk t L (tWd (mBs t L q)) q < (tWd (mBs t L q)).length then (1, q + lk t L (tWd (mBs t L q)) q) else mAr t L (mBs t L q) (q + (tWd (mBs t L q)).length)
theorem mBs_sp {q : Nat} : mBs t L q < 9 ∧ ∀ i, i < 9 → lk t L (tWd i) q ≤ lk t L (tWd (mBs t L q)) q := bst_sp 8 1 0 rfl (by decide) (fun i hi => by
  have : i = 0 := by omega
  subst this
  exact Nat.le_refl _)
theorem m_rc {M : xM} {q w ct : Nat} (m : mT M t L) (r : rM M q w) (hq : q ≤ L) (hct : M.1 9 17 = nI ct) (hv : 4 * ct + 3 < 244) : ∃ M', f_X7_readCommand M = some M' ∧ rC M M' (4 * ct) ∧ rM M' (mRd t L q).2 (mRd t L q).1 ∧ ((mRd t L q).1 = 0 → M'.1 9 17 = nI (ct + 1) ∧ mCs M' (4 * ct) (mBs t L q) (mAl t L (mBs t L q) (q + (tWd (mBs t L q)).length))) := by
  have h60 := m.2.2.2.2
  obtain ⟨N, eN⟩ := m_bst m r hq (v1 := nI (4 * ct)) 8 1 0 xF rfl (by decide) (by rw [xF_2000]; omega)
  obtain ⟨b9, bm⟩ := mBs_sp (t := t) (L := L) (q := q)
  have e0 : f_X7_readCommand M = f_X7_readCommand_L11 (nI (4 * ct)) M (N + 1) (nI (mBs t L q)) (nI 9) := by
    unfold f_X7_readCommand
    rw [hct, show (4 : Int32) = nI 4 from rfl, pk_mul]
    exact eN
  have hl := lk_le (t := t) (L := L) (tWd (mBs t L q)) q
  have hL := lk_L (t := t) (L := L) (tWd (mBs t L q)) q hq
  have kb := m_lk m r hq b9
  unfold mRd
  generalize mBs t L q = b at *
  obtain ⟨t1, t2, t3⟩ := wd_tab b b9
  have w7 := (wd_ne b b9).2
  have g1 : (sI M 9 18 (nI (q + lk t L (tWd b) q))).1 18 (b + 1) = nI (tBeg.getD b 0 + (tWd b).length) := by
    rw [sI_c (by decide), m.2.2.2.1 _ (by omega), t1]
  have g2 : (sI M 9 18 (nI (q + lk t L (tWd b) q))).1 18 b = nI (tBeg.getD b 0) := by
    rw [sI_c (by decide), m.2.2.2.1 _ (by omega)]
  rw [e0, f_X7_readCommand_L11.eq_2, if_pos (show (9 : Int32) ≤ nI 9 by decide), kb, Option.bind_some, x_let_e, r.1, nI_add, show nI b + (1 : Int32) = nI (b + 1) from nI_1 b, if_pos (show x_in (nI (b + 1)) 10 = true from pi_in (by omega) (by decide)), if_pos (show x_in (nI b) 10 = true from pi_in (by omega) (by decide)), pi_cl (show b + 1 < 2 ^ 31 by omega), pi_cl (show b < 2 ^ 31 by omega), g1, g2, pi_sub (by omega), Nat.add_sub_cancel_left]
  have f0 : rF M (sI M 9 18 (nI (q + lk t L (tWd b) q))) := rF_18
  by_cases z : lk t L (tWd b) q < (tWd b).length
  · rw [if_neg (nI_ge z (by omega)), if_pos z, x_let_e, pi_1]
    have e1 : (sI (sI M 9 18 (nI (q + lk t L (tWd b) q))) 9 20 (nI 1)).1 9 20 = nI 1 := sI_s
    rw [e1, if_neg (show ¬ nI 1 = 0 by decide)]
    exact ⟨_, rfl, (rF.c (f0.tr rF_20)), ⟨by rw [sI_k (by decide), sI_s], sI_s⟩, fun h => absurd h (show ¬ (1 : Nat) = 0 by decide)⟩
  · have el : lk t L (tWd b) q = (tWd b).length := by omega
    rw [if_pos (nI_le (by omega) (by omega)), if_neg z, x_let_e, pi_0, el]
    rw [el] at f0
    have e1 : (sI (sI M 9 18 (nI (q + (tWd b).length))) 9 20 (nI 0)).1 9 20 = nI 0 := sI_s
    have f1 : rF M (sI (sI M 9 18 (nI (q + (tWd b).length))) 9 20 (nI 0)) := f0.tr rF_20
    have r1 : rM (sI (sI M 9 18 (nI (q + (tWd b).length))) 9 20 (nI 0)) (q + (tWd b).length) 0 := ⟨by rw [sI_k (by decide), sI_s], sI_s⟩
    have h17 : (sI (sI M 9 18 (nI (q + (tWd b).length))) 9 20 (nI 0)).1 9 17 = nI ct := by rw [f1.2.2 17 (by decide) (by decide)]; exact hct
    rw [e1, if_pos (show nI 0 = nI 0 from rfl), if_pos (show x_in (nI (4 * ct)) 244 = true from pi_in (by omega) (by decide)), x_let_e, if_pos (show x_in (nI (4 * ct) + (1 : Int32)) 244 = true by rw [show nI (4 * ct) + (1 : Int32) = nI (4 * ct + 1) from nI_1 _]; exact pi_in (by omega) (by decide)), x_let_e, x_let_e]
    have c1 : rC M (sI (sI (sI (sI M 9 18 (nI (q + (tWd b).length))) 9 20 (nI 0)) 19 (nI (4 * ct)).toNatClampNeg (nI b)) 19 (nI (4 * ct) + (1 : Int32)).toNatClampNeg (1 : Int32)) (4 * ct) := by
      rw [show nI (4 * ct) + (1 : Int32) = nI (4 * ct + 1) from nI_1 _, pi_cl (by omega), pi_cl (by omega)]
      exact f1.c.tr ((rC_19 (by omega)).tr (rC_19 (by omega)))
    have i1 : (sI (sI (sI (sI M 9 18 (nI (q + (tWd b).length))) 9 20 (nI 0)) 19 (nI (4 * ct)).toNatClampNeg (nI b)) 19 (nI (4 * ct) + (1 : Int32)).toNatClampNeg (1 : Int32)).1 19 (4 * ct) = nI b := by
      rw [show nI (4 * ct) + (1 : Int32) = nI (4 * ct + 1) from nI_1 _, pi_cl (by omega), pi_cl (by omega), sI_k (by omega), sI_s]
    have i2 : (sI (sI (sI (sI M 9 18 (nI (q + (tWd b).length))) 9 20 (nI 0)) 19 (nI (4 * ct)).toNatClampNeg (nI b)) 19 (nI (4 * ct) + (1 : Int32)).toNatClampNeg (1 : Int32)).1 19 (4 * ct + 1) = nI 1 := by
      rw [show nI (4 * ct) + (1 : Int32) = nI (4 * ct + 1) from nI_1 _, pi_cl (by omega), pi_cl (by omega), sI_s]
      rfl
    have i3 : (sI (sI (sI (sI M 9 18 (nI (q + (tWd b).length))) 9 20 (nI 0)) 19 (nI (4 * ct)).toNatClampNeg (nI b)) 19 (nI (4 * ct) + (1 : Int32)).toNatClampNeg (1 : Int32)).1 9 17 = nI ct := by
      rw [sI_c (by decide), sI_c (by decide)]; exact h17
    have r2 := rM_19 (k := (nI (4 * ct) + (1 : Int32)).toNatClampNeg) (x := (1 : Int32)) (rM_19 (k := (nI (4 * ct)).toNatClampNeg) (x := nI b) r1)
    generalize sI (sI (sI (sI M 9 18 (nI (q + (tWd b).length))) 9 20 (nI 0)) 19 (nI (4 * ct)).toNatClampNeg (nI b)) 19 (nI (4 * ct) + (1 : Int32)).toNatClampNeg (1 : Int32) = M2 at c1 i1 i2 i3 r2 ⊢
    have e17 : M2.1 9 17 + (1 : Int32) = nI (ct + 1) := by rw [i3]; exact nI_1 ct
    rw [e17]
    have c2 : rC M (sI M2 9 17 (nI (ct + 1))) (4 * ct) := c1.tr rC_17
    obtain ⟨M3, e3, c3, h3, r3, s3⟩ := m_ar (M := sI M2 9 17 (nI (ct + 1))) (v := 4 * ct) (b := b) (q := q + (tWd b).length) (ct := ct) (m.c c2) ⟨by rw [sI_k (by decide)]; exact r2.1, by rw [sI_k (by decide)]; exact r2.2⟩ (by omega) b9 hv (by rw [sI_c (by decide)]; exact i1) (by rw [sI_c (by decide)]; exact i2)
    exact ⟨M3, e3, c2.tr c3, r3, fun h => ⟨by rw [h3, sI_s], s3 h⟩⟩
theorem mK_1 : ∀ (l : List Nat) (q : Nat), mK t L l (1, q) = (1, q)
  | [], q => rfl
  | a :: r, q => by
    unfold mK
    have e1 : ∀ k, sD_ t L k 1 q = (1, q) := fun k => if_neg (fun x => absurd x.1 (by decide))
    have e2 : sE_ t L a 1 q = (1, q) := if_neg (fun x => absurd x.1 (by decide))
    dsimp only
    rw [e1, e1, e2]
    split
    · exact mK_1 r q
    · split
      · exact mK_1 r q
      · exact mK_1 r q
theorem pF_mK : ∀ (l : List Nat) (q f : Nat) (ns : Nat → Int32), (pF t L l q f ns).2.1 = (mK t L l (0, q)).2 ∧ ((pF t L l q f ns).1 = true ↔ (mK t L l (0, q)).1 = 0 ∧ (L ≤ (mK t L l (0, q)).2 ∨ t (mK t L l (0, q)).2 = 59))
  | [], q, f, ns => ⟨rfl, ⟨fun h => ⟨rfl, of_decide_eq_true h⟩, fun h => decide_eq_true h.2⟩⟩
  | a :: r, q, f, ns => by
    rw [pF.eq_2, mK.eq_2]
    dsimp only
    have bad : ∀ q ns, ((false, q, ns) : Bool × Nat × (Nat → Int32)).2.1 = (mK t L r (1, q)).2 ∧ (((false, q, ns) : Bool × Nat × (Nat → Int32)).1 = true ↔ (mK t L r (1, q)).1 = 0 ∧ (L ≤ (mK t L r (1, q)).2 ∨ t (mK t L r (1, q)).2 = 59)) := fun q ns => by
      rw [mK_1]
      exact ⟨rfl, ⟨fun h => absurd h Bool.false_ne_true, fun h => absurd h.1 (show ¬ (1 : Nat) = 0 by decide)⟩⟩
    by_cases z : a = 35
    · rw [if_pos (show a = 35 ∨ a = 37 from .inl z), if_pos z, if_pos z]
      by_cases d : dgA t L q = true
      · rw [if_pos d, show sD_ t L 2 0 q = (0, (nV 2 t L q).2) from if_pos ⟨rfl, d⟩]
        exact pF_mK r _ _ _
      · rw [if_neg d, show sD_ t L 2 0 q = (1, q) from if_neg (fun x => d x.2)]
        exact bad q ns
    · rw [if_neg z, if_neg z]
      by_cases y : a = 37
      · rw [if_pos (show a = 35 ∨ a = 37 from .inr y), if_pos y]
        by_cases d : dgA t L q = true
        · rw [if_pos d, show sD_ t L 1 0 q = (0, (nV 1 t L q).2) from if_pos ⟨rfl, d⟩]
          exact pF_mK r _ _ _
        · rw [if_neg d, show sD_ t L 1 0 q = (1, q) from if_neg (fun x => d x.2)]
          exact bad q ns
      · rw [if_neg (show ¬ (a = 35 ∨ a = 37) by omega), if_neg y]
        by_cases d : q < L ∧ t q = a
        · rw [if_pos d, show sE_ t L a 0 q = (0, q + 1) from if_pos ⟨rfl, d⟩]
          exact pF_mK r _ _ _
        · rw [if_neg d, show sE_ t L a 0 q = (1, q) from if_neg (fun x => d x.2)]
          exact bad q ns
theorem pF_vl : ∀ (l : List Nat) (q f : Nat) (ns : Nat → Int32), (pF t L l q f ns).1 = true → (∀ k, k < (vl t L l q).length → (pF t L l q f ns).2.2 (f + k) = nI ((vl t L l q).getD k 0)) ∧ ∀ k, k < f → (pF t L l q f ns).2.2 k = ns k
  | [], q, f, ns, h => ⟨fun k hk => absurd hk (Nat.not_lt_zero k), fun _ _ => rfl⟩
  | a :: r, q, f, ns, h => by
    rw [pF.eq_2] at h ⊢
    rw [vl.eq_2]
    by_cases z : a = 35 ∨ a = 37
    · rw [if_pos z] at h ⊢
      rw [if_pos z]
      by_cases d : dgA t L q = true
      · rw [if_pos d] at h ⊢
        obtain ⟨h1, h2⟩ := pF_vl r _ _ _ h
        refine ⟨fun k hk => ?_, fun k hk => ?_⟩
        · cases k with
          | zero =>
            exact (h2 f (by omega)).trans pk_us
          | succ k =>
            have hk : k + 1 < (vl t L r (nV (if a = 35 then 2 else 1) t L q).2).length + 1 := hk
            have := h1 k (by omega)
            rw [show f + 1 + k = f + (k + 1) by omega] at this
            exact this
        · rw [h2 k (by omega), pk_un (by omega)]
      · rw [if_neg d] at h
        exact absurd h Bool.false_ne_true
    · rw [if_neg z] at h ⊢
      rw [if_neg z]
      by_cases d : q < L ∧ t q = a
      · rw [if_pos d] at h ⊢
        exact pF_vl r _ _ _ h
      · rw [if_neg d] at h
        exact absurd h Bool.false_ne_true
theorem ar_c {c q : Nat} (hc : c < 8) : mAr t L (wd c) q = mK t L (tRs c) (0, q) ∧ mAl t L (wd c) q = vl t L (tRs c) q := by
  have h : c = 0 ∨ c = 1 ∨ c = 2 ∨ c = 3 ∨ c = 4 ∨ c = 5 ∨ c = 6 ∨ c = 7 := by omega
  rcases h with rfl | rfl | rfl | rfl | rfl | rfl | rfl | rfl <;> exact ⟨rfl, rfl⟩
/-- what a command read gives on both sides -/
def pG (t : Nat → Nat) (L q : Nat) (ns : Nat → Int32) : Prop :=
  ((pA t L q 10 0 q ns).1 = none ∧ (mRd t L q).2 = (pA t L q 10 0 q ns).2 ∧ ((mRd t L q).1 = 1 ∨ ((mRd t L q).1 = 0 ∧ (mRd t L q).2 < L ∧ t (mRd t L q).2 ≠ 59))) ∨
  ∃ c q' ns', (pA t L q 10 0 q ns).1 = some (c, q', ns') ∧ c < 10 ∧ mRd t L q = (0, q') ∧ (L ≤ q' ∨ t q' = 59) ∧ mBs t L q = wd c ∧ q < q' ∧ (if c = 9 then mAl t L (wd c) (q + (tWd (wd c)).length) = [1] else ∀ k, k < (mAl t L (wd c) (q + (tWd (wd c)).length)).length → ns' k = nI ((mAl t L (wd c) (q + (tWd (wd c)).length)).getD k 0))
theorem p_G {q : Nat} {ns : Nat → Int32} : pG t L q ns := by
  obtain ⟨b9, bm⟩ := mBs_sp (t := t) (L := L) (q := q)
  have hl := lk_le (t := t) (L := L) (tWd (mBs t L q)) q
  have w1 := (wd_ne _ b9).1
  unfold pG mRd
  by_cases z : lk t L (tWd (mBs t L q)) q < (tWd (mBs t L q)).length
  · rw [if_pos z]
    have e := pA_bad b9 bm z (fun i hi e => by
      by_cases y : i = mBs t L q
      · rw [y] at e; omega
      · have := (lk_un hi b9 y e).2
        have := bm i hi
        omega) (ns := ns)
    rw [e]
    exact .inl ⟨rfl, rfl, .inl rfl⟩
  · rw [if_neg z]
    have el : lk t L (tWd (mBs t L q)) q = (tWd (mBs t L q)).length := by omega
    by_cases y : mBs t L q = 8
    · rw [y] at el w1 ⊢
      have ea : mAr t L 8 (q + (tWd 8).length) = if q + (tWd 8).length < L ∧ t (q + (tWd 8).length) = 32 then sD_ t L 2 0 (q + (tWd 8).length + 1) else (0, q + (tWd 8).length) := rfl
      have eL : mAl t L 8 (q + (tWd 8).length) = if q + (tWd 8).length < L ∧ t (q + (tWd 8).length) = 32 then [(nV 2 t L (q + (tWd 8).length + 1)).1] else [1] := rfl
      have p8 : ∀ ns, pC t L 8 q ns = pF t L [32, 35] (q + (tWd 8).length) 0 ns := fun ns => by
        rw [pC_w (by decide), show wd 8 = 8 from rfl, if_pos el]
        rfl
      have p9 : ∀ ns, pC t L 9 q ns = pF t L [] (q + (tWd 8).length) 0 ns := fun ns => by
        rw [pC_w (by decide), show wd 9 = 8 from rfl, if_pos el]
        rfl
      have k8 := pF_mK (t := t) (L := L) [32, 35] (q + (tWd 8).length) 0 z0
      have k9 := pF_mK (t := t) (L := L) [] (q + (tWd 8).length) 0 z0
      rw [← p8] at k8
      rw [← p9] at k9
      have k8 : rr t L 8 q = (mK t L [32, 35] (0, q + (tWd 8).length)).2 ∧ (ok t L 8 q = true ↔ (mK t L [32, 35] (0, q + (tWd 8).length)).1 = 0 ∧ (L ≤ (mK t L [32, 35] (0, q + (tWd 8).length)).2 ∨ t (mK t L [32, 35] (0, q + (tWd 8).length)).2 = 59)) := k8
      have k9 : rr t L 9 q = q + (tWd 8).length ∧ (ok t L 9 q = true ↔ (0 : Nat) = 0 ∧ (L ≤ q + (tWd 8).length ∨ t (q + (tWd 8).length) = 59)) := k9
      have em : mK t L [32, 35] (0, q + (tWd 8).length) = if q + (tWd 8).length < L ∧ t (q + (tWd 8).length) = 32 then sD_ t L 2 0 (q + (tWd 8).length + 1) else (1, q + (tWd 8).length) := by
        show sD_ t L 2 (sE_ t L 32 0 (q + (tWd 8).length)).1 (sE_ t L 32 0 (q + (tWd 8).length)).2 = _
        by_cases x : q + (tWd 8).length < L ∧ t (q + (tWd 8).length) = 32
        · rw [if_pos x, show sE_ t L 32 0 (q + (tWd 8).length) = (0, q + (tWd 8).length + 1) from if_pos ⟨rfl, x⟩]
        · rw [if_neg x, show sE_ t L 32 0 (q + (tWd 8).length) = (1, q + (tWd 8).length) from if_neg (fun v => x v.2)]
          exact if_neg (fun v => absurd v.1 (show ¬ (1 : Nat) = 0 by decide))
      rcases pA_two el (ns := ns) with ⟨o8, ns', e⟩ | ⟨o8, o9, ns', e⟩ | ⟨o8, o9, e⟩
      · refine .inr ⟨8, rr t L 8 q, _, e, by decide, ?_, ?_, rfl, ?_, ?_⟩
        all_goals obtain ⟨q1, q2⟩ := k8.2.mp o8
        all_goals rw [em] at q1 q2
        all_goals have k81 := k8.1
        all_goals rw [em] at k81
        all_goals by_cases x : q + (tWd 8).length < L ∧ t (q + (tWd 8).length) = 32
        all_goals first | (rw [if_neg x] at q1; exact absurd q1 (show ¬ (1 : Nat) = 0 by decide)) | skip
        all_goals rw [if_pos x] at q1 q2 k81
        · rw [ea, if_pos x, k81]
          exact Prod.ext q1 rfl
        · rw [k81]; exact q2
        · have s := sD_s q1
          have n2 := (nV_2 (m := 2) s.2.1).2.1
          rw [k81, s.2.2]
          omega
        · rw [if_neg (show ¬ (8 : Nat) = 9 by decide)]
          have ok8 : (pF t L [32, 35] (q + (tWd 8).length) 0 ns').1 = true := by
            rw [← p8, pC_ok.1]; exact o8
          have v := (pF_vl _ _ _ _ ok8).1
          intro k hk
          have v := v k (by
            rw [show mAl t L (wd 8) (q + (tWd (wd 8)).length) = mAl t L 8 (q + (tWd 8).length) from rfl, eL, if_pos x] at hk
            exact hk)
          rw [Nat.zero_add] at v
          rw [p8, v, show mAl t L (wd 8) (q + (tWd (wd 8)).length) = mAl t L 8 (q + (tWd 8).length) from rfl, eL, if_pos x]
          rfl
      · have h9 := (k9.2.mp o9).2
        have x : ¬ (q + (tWd 8).length < L ∧ t (q + (tWd 8).length) = 32) := by omega
        refine .inr ⟨9, rr t L 9 q, _, e, by decide, ?_, ?_, rfl, ?_, ?_⟩
        · rw [ea, if_neg x, k9.1]
        · rw [k9.1]; exact h9
        · rw [k9.1]; omega
        · rw [if_pos rfl, show mAl t L (wd 9) (q + (tWd (wd 9)).length) = mAl t L 8 (q + (tWd 8).length) from rfl, eL, if_neg x]
      · have n9 : q + (tWd 8).length < L ∧ t (q + (tWd 8).length) ≠ 59 := by
          have : ¬ (L ≤ q + (tWd 8).length ∨ t (q + (tWd 8).length) = 59) := fun h => by
            have := k9.2.mpr ⟨rfl, h⟩
            rw [o9] at this
            exact absurd this (by decide)
          omega
        rw [e, ea, k8.1, em]
        by_cases x : q + (tWd 8).length < L ∧ t (q + (tWd 8).length) = 32
        · rw [if_pos x, if_pos x]
          refine .inl ⟨rfl, rfl, ?_⟩
          have n8 : ¬ ((sD_ t L 2 0 (q + (tWd 8).length + 1)).1 = 0 ∧ (L ≤ (sD_ t L 2 0 (q + (tWd 8).length + 1)).2 ∨ t (sD_ t L 2 0 (q + (tWd 8).length + 1)).2 = 59)) := fun h => by
            have k := k8.2
            rw [em, if_pos x] at k
            have := k.mpr h
            rw [o8] at this
            exact absurd this (by decide)
          have s01 := (sD_le (t := t) (L := L) (w := 0) (k := 2) (q := q + (tWd 8).length + 1) (by omega)).2
          by_cases v : (sD_ t L 2 0 (q + (tWd 8).length + 1)).1 = 0
          · refine .inr ⟨v, ?_, ?_⟩
            · omega
            · exact fun h => n8 ⟨v, .inr h⟩
          · exact .inl (by omega)
        · rw [if_neg x, if_neg x]
          exact .inl ⟨rfl, rfl, .inr ⟨rfl, n9.1, n9.2⟩⟩
    · obtain ⟨c, hc, ec⟩ := wd_on _ b9
      have c8 : c < 8 := by
        have h1 : c ≠ 8 := fun h => y (by rw [← ec, h]; rfl)
        have h2 : c ≠ 9 := fun h => y (by rw [← ec, h]; rfl)
        omega
      rw [← ec] at el y w1 ⊢
      obtain ⟨ea, eL⟩ := ar_c (t := t) (L := L) (q := q + (tWd (wd c)).length) c8
      have pc : ∀ ns, pC t L c q ns = pF t L (tRs c) (q + (tWd (wd c)).length) 0 ns := fun ns => by
        rw [pC_w hc, if_pos el]
      have k := pF_mK (t := t) (L := L) (tRs c) (q + (tWd (wd c)).length) 0 z0
      rw [← pc, ← ea] at k
      have k : rr t L c q = (mAr t L (wd c) (q + (tWd (wd c)).length)).2 ∧ (ok t L c q = true ↔ (mAr t L (wd c) (q + (tWd (wd c)).length)).1 = 0 ∧ (L ≤ (mAr t L (wd c) (q + (tWd (wd c)).length)).2 ∨ t (mAr t L (wd c) (q + (tWd (wd c)).length)).2 = 59)) := k
      obtain ⟨hh, ge⟩ := pA_one hc y el (ns := ns)
      rcases hh with ⟨o, ns', e⟩ | ⟨o, e⟩
      · obtain ⟨q1, q2⟩ := k.2.mp o
        refine .inr ⟨c, rr t L c q, _, e, hc, ?_, ?_, rfl, by omega, ?_⟩
        · rw [k.1]; exact Prod.ext q1 rfl
        · rw [k.1]; exact q2
        · rw [if_neg (by omega)]
          have okc : (pF t L (tRs c) (q + (tWd (wd c)).length) 0 ns').1 = true := by
            rw [← pc, pC_ok.1]; exact o
          have v := (pF_vl _ _ _ _ okc).1
          rw [eL]
          intro j hj
          have v := v j hj
          rw [Nat.zero_add] at v
          rw [pc]
          exact v
      · rw [e, k.1]
        refine .inl ⟨rfl, rfl, ?_⟩
        have n8 : ¬ ((mAr t L (wd c) (q + (tWd (wd c)).length)).1 = 0 ∧ (L ≤ (mAr t L (wd c) (q + (tWd (wd c)).length)).2 ∨ t (mAr t L (wd c) (q + (tWd (wd c)).length)).2 = 59)) := fun h => by
          have := k.2.mpr h
          rw [o] at this
          exact absurd this (by decide)
        have s01 : ∀ (l : List Nat) (s : Nat × Nat), (s.1 = 0 ∨ s.1 = 1) → ((mK t L l s).1 = 0 ∨ (mK t L l s).1 = 1) := fun l => by
          induction l with
          | nil => exact fun s h => h
          | cons a r ih =>
            intro s h
            rw [mK.eq_2]
            refine ih _ ?_
            unfold sD_ sE_
            split
            · split
              · exact .inl rfl
              · exact .inr rfl
            · split
              · split
                · exact .inl rfl
                · exact .inr rfl
              · split
                · exact .inl rfl
                · exact .inr rfl
        have s := s01 (tRs c) (0, q + (tWd (wd c)).length) (.inl rfl)
        rw [← ea] at s
        by_cases v : (mAr t L (wd c) (q + (tWd (wd c)).length)).1 = 0
        · refine .inr ⟨v, ?_, ?_⟩
          · omega
          · exact fun h => n8 ⟨v, .inr h⟩
        · exact .inl (by omega)
end MV
