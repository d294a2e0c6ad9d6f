/-! pure: what the nine commands keep: counts and bounds -/
theorem pc_mono {p q : Nat → Bool} : ∀ (r k : Nat), (∀ i, k ≤ i → i < k + r → p i = true → q i = true) → pc p k r ≤ pc q k r
  | 0, _, _ => Nat.le_refl _
  | r + 1, k, h => by
    have ih := pc_mono r (k + 1) (fun i h1 h2 => h i (by omega) (by omega))
    unfold pc
    by_cases g : p k = true
    · rw [if_pos g, if_pos (h k (Nat.le_refl _) (by omega) g)]; omega
    · rw [if_neg g]; omega
theorem pc_shift {p : Nat → Bool} : ∀ (r k : Nat), pc (fun i => p (i + 1)) k r = pc p (k + 1) r
  | 0, _ => rfl
  | r + 1, k => by
    unfold pc
    rw [pc_shift r (k + 1)]
theorem pc_sk {p : Nat → Bool} {c : Nat} : ∀ (r k : Nat), pc (fun i => p (sk c i)) k r ≤ pc p k (r + 1)
  | 0, k => Nat.zero_le _
  | r + 1, k => by
    by_cases g : c ≤ k
    · have e : pc (fun i => p (sk c i)) k (r + 1) = pc (fun i => p (i + 1)) k (r + 1) := pc_cong fun i h1 h2 => by
        unfold sk
        rw [if_pos (by omega)]
      rw [e, pc_shift]
      show _ ≤ (if p k then 1 else 0) + pc p (k + 1) (r + 1)
      omega
    · show (if p (sk c k) then 1 else 0) + pc (fun i => p (sk c i)) (k + 1) r ≤ (if p k then 1 else 0) + pc p (k + 1) (r + 1)
      have := pc_sk (p := p) (c := c) r (k + 1)
      rw [show sk c k = k by unfold sk; rw [if_neg g]]
      omega
theorem pc_end {p : Nat → Bool} : ∀ (r k : Nat), pc p k (r + 1) = pc p k r + (if p (k + r) then 1 else 0)
  | 0, k => by
    show (if p k then 1 else 0) + 0 = 0 + _
    rw [Nat.add_zero, Nat.zero_add, Nat.add_zero]
  | r + 1, k => by
    show (if p k then 1 else 0) + pc p (k + 1) (r + 1) = (if p k then 1 else 0) + pc p (k + 1) r + _
    rw [pc_end r (k + 1), show k + 1 + r = k + (r + 1) by omega, Nat.add_assoc]
theorem pc_one {p q : Nat → Bool} {x : Nat} (h : ∀ i, i ≠ x → q i = p i) : ∀ (r k : Nat), pc q k r ≤ pc p k r + 1
  | 0, _ => Nat.zero_le _
  | r + 1, k => by
    show (if q k then 1 else 0) + pc q (k + 1) r ≤ (if p k then 1 else 0) + pc p (k + 1) r + 1
    by_cases e : k = x
    · have : pc q (k + 1) r = pc p (k + 1) r := pc_cong fun i h1 h2 => h i (by omega)
      rw [this]
      split <;> split <;> omega
    · rw [h k e]
      have := pc_one h r (k + 1)
      omega
/-- the sums: all that came are here, served, removed or gone; at most four sit -/
def aX (s : hS) : Prop := s.1 2 = s.1 0 + s.1 3 + s.1 4 + s.1 5 ∧ aSits s ≤ 4
theorem aSits_C {s t : hS} (h0 : t.1 0 = s.1 0) (hC_ : ∀ i, i < s.1 0 → hC t i 6 ≠ 0 → hC s i 6 ≠ 0) : aSits t ≤ aSits s := by
  unfold aSits
  rw [h0]
  exact pc_mono _ _ fun i _ hi h => decide_eq_true (hC_ i (by omega) (of_decide_eq_true h))
theorem aSits_leave {s : hS} {c : Nat} (hc : c < s.1 0) : aSits (aLeave c s) ≤ aSits s := by
  unfold aSits
  rw [aLeave_0]
  have e : pc (fun i => decide (hC (aLeave c s) i 6 ≠ 0)) 0 (s.1 0 - 1) = pc (fun i => (fun j => decide (hC s j 6 ≠ 0)) (sk c i)) 0 (s.1 0 - 1) := pc_cong fun i _ hi => by rw [aLeave_C (by omega)]
  rw [e]
  have := pc_sk (p := fun j => decide (hC s j 6 ≠ 0)) (c := c) (s.1 0 - 1) 0
  rw [show s.1 0 - 1 + 1 = s.1 0 by omega] at this
  exact this
theorem aX_tick {s : hS} {w : Nat} (h : aX s) : aX (aTick w s) := by
  refine ⟨?_, Nat.le_trans (aSits_C aTick_0 fun i _ => by rw [aTick_C]; exact id) h.2⟩
  rw [aTick_n (by decide), aTick_n (by decide), aTick_n (by decide), aTick_n (by decide), aTick_n (by decide)]
  exact h.1
theorem aX_work {s : hS} {w : Nat} (h : aX s) (k : aK s) (hw : w < 3) : aX (aWork w s) := by
  have k3 : hW s w 2 ≤ s.1 0 := k.1.2.2.1 w hw
  unfold aWork
  split
  · exact aX_tick h
  · split
    · refine aX_tick ⟨?_, ?_⟩
      · rw [aLeave_0, aLeave_n (by decide) (by decide), aLeave_n (by decide) (by decide), aLeave_n (by decide) (by decide), aLeave_n (by decide) (by decide), aServe_3, aServe_n (by decide) (by decide), aServe_n (by decide) (by decide), aServe_n (by decide) (by decide), aServe_n (by decide) (by decide)]
        have := h.1
        show s.1 2 = s.1 0 - 1 + (s.1 3 + 1) + s.1 4 + s.1 5
        omega
      · refine Nat.le_trans (aSits_leave (by rw [aServe_n (by decide) (by decide)]; show _ < s.1 0; omega)) (Nat.le_trans (aSits_C (s := s) ?_ fun i _ => ?_) h.2)
        · rw [aServe_n (by decide) (by decide)]; rfl
        · rw [aServe_C]; exact id
    · exact aX_tick h
theorem aX_waitY {s : hS} {p : Nat} (h : aX s) : aX (aWaitY p s) := by
  refine ⟨?_, Nat.le_trans (aSits_C (aWaitY_n (by decide)) fun i _ hi => ?_) h.2⟩
  · rw [aWaitY_n (by decide), aWaitY_n (by decide), aWaitY_n (by decide), aWaitY_n (by decide), aWaitY_n (by decide)]; exact h.1
  · rw [aWaitY_C] at hi
    intro z
    apply hi
    by_cases e : i = hQ s p
    · rw [e] at z ⊢; exact aTurn_C6 z
    · rw [aTurn_C (.inl e)]; exact z
theorem aX_waitS {s : hS} {p : Nat} (h : aX s) (k : aK s) (hp : p < s.1 7) : aX (aWaitS p s).2 := by
  have hc := k.1.1 p hp
  have y := aX_waitY (p := p) h
  unfold aWaitS
  split
  · exact y
  · have n0 : (u0 (aWaitY p s) 5 ((aWaitY p s).1 5 + 1)).1 0 = s.1 0 := by rw [u0_n (by decide), aWaitY_n (by decide)]
    refine ⟨?_, Nat.le_trans (aSits_leave (by rw [n0]; exact hc)) (Nat.le_trans (aSits_C (s := aWaitY p s) (u0_n (by decide)) fun i _ => id) y.2)⟩
    show (aLeave _ _).1 2 = (aLeave _ _).1 0 + (aLeave _ _).1 3 + (aLeave _ _).1 4 + (aLeave _ _).1 5
    rw [aLeave_0, aLeave_n (by decide) (by decide), aLeave_n (by decide) (by decide), aLeave_n (by decide) (by decide), aLeave_n (by decide) (by decide), u0_s, u0_n (by decide), u0_n (by decide), u0_n (by decide), u0_n (by decide)]
    have e0 : (aWaitY p s).1 0 = s.1 0 := aWaitY_n (by decide)
    have := y.1
    omega
theorem aX_waitL : ∀ (m p : Nat) (s : hS), aX s → aM s → p + m = s.1 7 → aX (aWaitL m p s)
  | 0, _, _, h, _, _ => h
  | m + 1, p, s, h, i, e => by
    have ok := aWaitS_ok i.1 (p := p) (by omega)
    have n := aN_waitS (p := p) i.2 i.1 (by omega)
    unfold aWaitL
    refine aX_waitL m _ _ (aX_waitS h i.1.2.1 (by omega)) ⟨ok.1, n⟩ ?_
    rcases ok.2.2 with z | z
    · have h := ok.2.1
      rw [if_pos z, if_pos z] at h
      omega
    · have h := ok.2.1
      rw [if_neg (by omega), if_neg (by omega)] at h
      omega
theorem aFillW_C {s : hS} {w i f : Nat} (h : f ≠ 6) : hC (aFillW w s) i f = hC s i f := by
  unfold aFillW aFill
  split
  · split
    · next p _ =>
      show hC (uC s (hQ s p) 6 0) i f = _
      exact uC_f h
    · rfl
  · rfl
theorem aX_fillW {s : hS} {w : Nat} (h : aX s) : aX (aFillW w s) := by
  refine ⟨?_, Nat.le_trans (aSits_C (aFillW_n (by decide)) fun i _ => ?_) h.2⟩
  · rw [aFillW_n (by decide), aFillW_n (by decide), aFillW_n (by decide), aFillW_n (by decide), aFillW_n (by decide)]; exact h.1
  · unfold aFillW aFill
    split
    · split
      · next p _ =>
        show hC (uC s (hQ s p) 6 0) i 6 ≠ 0 → _
        by_cases e : i = hQ s p
        · rw [e, uC_s]; exact fun z => absurd rfl z
        · rw [uC_i e]; exact id
      · exact id
    · exact id
theorem aX_workW {s : hS} {w : Nat} (h : aX s) (k : aK s) (hw : w < 3) : aX (aWorkW w s) := by
  unfold aWorkW
  split
  · exact aX_work h k hw
  · exact h
theorem aSits_u0 {s : hS} {j v : Nat} (h : j ≠ 0) : aSits (u0 s j v) = aSits s := by
  unfold aSits
  rw [u0_n (Ne.symm h)]
  rfl
theorem aX_minute {s : hS} (h : aX s) (i : aM s) : aX (aMinute s) := by
  have i0 := aM_workW (w := 0) i (by decide)
  have i1 := aM_workW (w := 1) i0 (by decide)
  have x3 : aX (aTurns s) := aX_workW (w := 2) (aX_workW (w := 1) (aX_workW (w := 0) h i.1.2.1 (by decide)) i0.1.2.1 (by decide)) i1.1.2.1 (by decide)
  have x4 : aX (aWait (aTurns s)) := aX_waitL ((aTurns s).1 7) 0 (aTurns s) x3 (aM_turns i) (Nat.zero_add _)
  have x5 : aX (aFills (aWait (aTurns s))) := aX_fillW (w := 2) (aX_fillW (w := 1) (aX_fillW (w := 0) x4))
  unfold aMinute
  generalize aFills (aWait (aTurns s)) = t at x5 ⊢
  refine ⟨?_, by rw [aSits_u0 (by decide)]; exact x5.2⟩
  rw [u0_n (by decide), u0_n (by decide), u0_n (by decide), u0_n (by decide), u0_n (by decide)]
  exact x5.1
/-- no number passes B -/
def aU (B : Nat) (s : hS) : Prop := (∀ j, j < 9 → s.1 j ≤ B) ∧ (∀ i, i < 12 → hC s i 4 ≤ B)
theorem aU_le {B C : Nat} {s : hS} (h : aU B s) (hc : B ≤ C) : aU C s := ⟨fun j hj => Nat.le_trans (h.1 j hj) hc, fun i hi => Nat.le_trans (h.2 i hi) hc⟩
theorem aU_cg {B : Nat} {s t : hS} (h : aU B s) (h1 : ∀ j, j < 9 → t.1 j ≤ s.1 j) (h2 : hC t = hC s) : aU B t := ⟨fun j hj => Nat.le_trans (h1 j hj) (h.1 j hj), fun i hi => by rw [h2]; exact h.2 i hi⟩
theorem aU_u0 {B : Nat} {s : hS} {j v : Nat} (h : aU B s) (hv : v ≤ B) : aU B (u0 s j v) := ⟨fun i hi => by
  by_cases e : i = j
  · rw [e, u0_s]; exact hv
  · rw [u0_n e]; exact h.1 i hi, h.2⟩
theorem aU_uC {B : Nat} {s : hS} {i f v : Nat} (h : aU B s) (hv : f = 4 → v ≤ B) : aU B (uC s i f v) := ⟨h.1, fun j hj => by
  show up2 s.2.2.2.1 i f v j 4 ≤ B
  unfold up2
  split
  · next e => exact hv e.2.symm
  · exact h.2 j hj⟩
theorem aU_leave {B : Nat} {s : hS} {c : Nat} (h : aU B s) (b : aB s) (hc : c < s.1 0) : aU B (aLeave c s) := by
  refine ⟨fun j hj => ?_, fun i hi => ?_⟩
  · by_cases e0 : j = 0
    · rw [e0, aLeave_0]; have := h.1 0 (by decide); omega
    · by_cases e7 : j = 7
      · rw [e7]; exact Nat.le_trans aLeave_7 (h.1 7 (by decide))
      · rw [aLeave_n e0 e7]; exact h.1 j hj
  · have e : hC (aLeave c s) i 4 = hC s (pm c (s.1 0) i) 4 := by
      show (aOutW c (aOutQ c s)).2.2.2.1 (pm c ((aOutW c (aOutQ c s)).1 0) i) 4 = _
      rw [aOutW_1, aOutQ_n (by decide)]
      show hC (aOutW c (aOutQ c s)) _ 4 = _
      rw [aOutW_C, aOutQ_C]
    rw [e]
    exact h.2 _ (pm_lt hc b.1 hi)
theorem aU_shut {B : Nat} {s : hS} {w : Nat} (h : aU B s) (h12 : s.1 7 + 1 ≤ B) : aU B (aShut w s) := by
  refine ⟨fun j hj => ?_, fun i hi => by rw [aShut_C]; exact h.2 i hi⟩
  by_cases e : j = 7
  · subst e
    unfold aShut
    split
    · exact h.1 7 hj
    · show (aFront (hW s w 2 - 1) (uW s w 0 0)).1 7 ≤ B
      rw [aFront_7]
      exact h12
  · rw [aShut_n e]; exact h.1 j hj
theorem aU_tick {B : Nat} {s : hS} {w : Nat} (h : aU B s) (h12 : s.1 7 + 1 ≤ B) : aU B (aTick w s) := by
  rw [aTick_e]
  split
  · exact aU_shut h h12
  · exact ⟨h.1, h.2⟩
theorem aU_work {B : Nat} {s : hS} {w : Nat} (h : aU B s) (b : aB s) (k : aK s) (hw : w < 3) (hB : 13 ≤ B) : aU (B + 1) (aWork w s) := by
  have h7 := b.2.1
  have k3 : hW s w 2 ≤ s.1 0 := k.1.2.2.1 w hw
  have h' := aU_le h (Nat.le_succ B)
  unfold aWork
  split
  · exact aU_tick h' (by omega)
  · have b1 : aB (uW s w 3 (hW s w 3 - 1)) := aB_uW b (by omega) (by omega) (by omega) (by have := (b.2.2.2.1 w hw).2.2.2; omega)
    split
    · have e0 : (aServe (hW s w 2 - 1) (uW s w 3 (hW s w 3 - 1))).1 0 = s.1 0 := aServe_n (by decide) (by decide)
      have e7 : (aServe (hW s w 2 - 1) (uW s w 3 (hW s w 3 - 1))).1 7 = s.1 7 := aServe_n (by decide) (by decide)
      have e8 := aServe_8 (s := uW s w 3 (hW s w 3 - 1)) (c := hW s w 2 - 1)
      refine aU_tick (aU_leave ⟨fun j hj => ?_, fun i hi => ?_⟩ (aB_serve b1) (by rw [e0]; omega)) ?_
      · by_cases j3 : j = 3
        · rw [j3, aServe_3]; have := h.1 3 (by decide); show s.1 3 + 1 ≤ B + 1; omega
        · by_cases j8 : j = 8
          · rw [j8, e8]; have := h.1 8 (by decide); split; exact Nat.succ_le_succ this; exact Nat.le_succ_of_le this
          · rw [aServe_n j3 j8]; exact h'.1 j hj
      · rw [aServe_C]; exact h'.2 i hi
      · have := aLeave_7 (s := aServe (hW s w 2 - 1) (uW s w 3 (hW s w 3 - 1))) (c := hW s w 2 - 1)
        omega
    · exact aU_tick (s := uW s w 3 _) ⟨h'.1, h'.2⟩ (by show s.1 7 + 1 ≤ B + 1; omega)
theorem aTurn_C4 {s : hS} {c : Nat} : hC (aTurn c s).2 c 4 = hC s c 4 + 1 := by
  have e0 : hC (aTurn0 c s) c 4 = hC s c 4 + 1 := uC_s
  unfold aTurn aTurnS aTurnU
  split
  · split
    · show hC (uC _ c 2 _) c 4 = _
      rw [uC_f (by decide), uC_f (by decide), uC_f (by decide), e0]
    · show hC (uC _ c 1 _) c 4 = _
      rw [uC_f (by decide), uC_f (by decide), e0]
  · split
    · show hC (uC _ c 6 _) c 4 = _
      rw [uC_f (by decide), uC_f (by decide), e0]
    · show hC (uC _ c 6 _) c 4 = _
      rw [uC_f (by decide), uC_f (by decide), e0]
theorem aU_waitY {B : Nat} {s : hS} {p : Nat} (h : aU B s) : aU (B + 1) (aWaitY p s) := by
  refine ⟨fun j hj => ?_, fun i hi => ?_⟩
  · by_cases e : j = 6
    · subst e
      have := h.1 6 (by decide)
      unfold aWaitY
      split
      · rw [aTurn_1]; omega
      · rw [u0_s, aTurn_1]; omega
    · rw [aWaitY_n e]; have := h.1 j hj; omega
  · have := h.2 i hi
    rw [aWaitY_C]
    by_cases e : i = hQ s p
    · rw [e, aTurn_C4, ← e]; omega
    · rw [aTurn_C (.inl e)]; omega
theorem aU_waitS {B : Nat} {s : hS} {p : Nat} (h : aU B s) (i : aI s) (hp : p < s.1 7) : aU (B + 1) (aWaitS p s).2 := by
  have hc := i.2.1.1.1 p hp
  have b1 := aB_waitY (p := p) i.1 (by have := i.1.1; omega) (i.2.2 _ hc)
  have y := aU_waitY (p := p) h
  unfold aWaitS
  split
  · exact y
  · refine aU_leave (s := u0 (aWaitY p s) 5 ((aWaitY p s).1 5 + 1)) (aU_u0 y ?_) (aB_u0 b1 (by omega)) (by rw [u0_n (by decide), aWaitY_n (by decide)]; exact hc)
    rw [aWaitY_n (by decide)]
    have := h.1 5 (by decide)
    omega
theorem aU_waitL {B : Nat} : ∀ (m p : Nat) (s : hS), aU B s → aM s → p + m = s.1 7 → aU (B + m) (aWaitL m p s)
  | 0, _, _, h, _, _ => h
  | m + 1, p, s, h, i, e => by
    have ok := aWaitS_ok i.1 (p := p) (by omega)
    have n := aN_waitS (p := p) i.2 i.1 (by omega)
    unfold aWaitL
    have := aU_waitL (B := B + 1) m (aWaitS p s).1 (aWaitS p s).2 (aU_waitS h i.1 (p := p) (by omega)) ⟨ok.1, n⟩ (by
      rcases ok.2.2 with z | z
      · have h := ok.2.1
        rw [if_pos z, if_pos z] at h
        omega
      · have h := ok.2.1
        rw [if_neg (by omega), if_neg (by omega)] at h
        omega)
    exact aU_le this (by omega)
theorem aU_fillW {B : Nat} {s : hS} {w : Nat} (h : aU B s) : aU B (aFillW w s) := by
  refine ⟨fun j hj => ?_, fun i hi => by rw [aFillW_C (by decide)]; exact h.2 i hi⟩
  by_cases e : j = 7
  · subst e
    have := h.1 7 hj
    unfold aFillW aFill
    split
    · split
      · rw [show (aFillAt w _ s).1 7 = s.1 7 - 1 from aTake_7]; omega
      · exact this
    · exact this
  · rw [aFillW_n e]; exact h.1 j hj
theorem aU_workW {B : Nat} {s : hS} {w : Nat} (h : aU B s) (b : aB s) (k : aK s) (hw : w < 3) (hB : 13 ≤ B) : aU (B + 1) (aWorkW w s) := by
  unfold aWorkW
  split
  · exact aU_work h b k hw hB
  · exact aU_le h (by omega)
theorem le_15 {B q : Nat} (h : q ≤ 12) : B + 1 + 1 + 1 + q ≤ B + 15 := by omega
theorem le_14 {B : Nat} (h : 13 ≤ B) : 13 ≤ B + 1 + 1 := by omega
theorem le_13 {B : Nat} (h : 13 ≤ B) : 13 ≤ B + 1 := by omega
theorem aU_min1 {B : Nat} {t : hS} (x5 : aU (B + 15) t) : aU (B + 16) (u0 t 1 (t.1 1 + 1)) := aU_u0 (aU_le x5 (by omega)) (by have := x5.1 1 (by decide); omega)
theorem aU_minute {B : Nat} {s : hS} (h : aU B s) (i : aM s) (hB : 13 ≤ B) : aU (B + 16) (aMinute s) := by
  have i0 := aM_workW (w := 0) i (by decide)
  have i1 := aM_workW (w := 1) i0 (by decide)
  have i2 := aM_turns i
  have x1 := aU_workW (w := 0) h i.1.1 i.1.2.1 (by decide) hB
  have x2 := aU_workW (w := 1) x1 i0.1.1 i0.1.2.1 (by decide) (le_13 hB)
  have x3 : aU (B + 1 + 1 + 1) (aTurns s) := aU_workW (w := 2) x2 i1.1.1 i1.1.2.1 (by decide) (le_14 hB)
  have x4 := aU_le (aU_waitL ((aTurns s).1 7) 0 (aTurns s) x3 i2 (Nat.zero_add _)) (le_15 (B := B) i2.1.1.2.1)
  have x5 : aU (B + 15) (aFills (aWait (aTurns s))) := aU_fillW (w := 2) (aU_fillW (w := 1) (aU_fillW (w := 0) x4))
  exact aU_min1 x5
