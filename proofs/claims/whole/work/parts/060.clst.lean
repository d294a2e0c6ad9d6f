/-! pure: shutting, filling, taking turns keep it -/
theorem upd2_twice {f : Nat → Nat → Nat} {a b x y : Nat} : up2 (up2 f a b x) a b y = up2 f a b y := funext fun i => funext fun j => by
  unfold up2
  by_cases g : i = a ∧ j = b
  · rw [if_pos g, if_pos g]
  · rw [if_neg g, if_neg g, if_neg g]
theorem uW_twice {s : hS} {w f x y : Nat} : uW (uW s w f x) w f y = uW s w f y := by
  unfold uW
  rw [upd2_twice]
theorem aShut_over {s : hS} {w x : Nat} : aShut w (uW s w 0 x) = aShut w s := by
  unfold aShut
  rw [uW_f (by decide), uW_twice]
theorem aTick_e {s : hS} {w : Nat} : aTick w s = if hW s w 0 - 1 = 0 then aShut w s else uW s w 0 (hW s w 0 - 1) := by
  unfold aTick
  rw [aShut_over]
theorem aFront_0 {s : hS} {c j : Nat} (h : j ≠ 7) : (aFront c s).1 j = s.1 j := va_up_ne _ _ h
theorem aFront_7 {s : hS} {c : Nat} : (aFront c s).1 7 = s.1 7 + 1 := va_up_self s.1 7 (s.1 7 + 1)
theorem aFront_q0 {s : hS} {c : Nat} : hQ (aFront c s) 0 = c := rfl
theorem aFront_qs {s : hS} {c k : Nat} (hk : k < s.1 7) : hQ (aFront c s) (k + 1) = hQ s k := by
  have e : hQ (aFront c s) (k + 1) = if k + 1 = 0 then c else if k + 1 ≤ s.1 7 then s.2.1 (k + 1 - 1) else s.2.1 (k + 1) := rfl
  rw [e, if_neg (by omega), if_pos (by omega)]
  rfl
theorem aShut_a {s : hS} {w : Nat} (h : wo s w = 0) : aShut w s = uW s w 0 0 := by unfold aShut; exact if_pos h
theorem aShut_b {s : hS} {w c : Nat} (h : wo s w = c + 1) : aShut w s = uW (aFront c (uW s w 0 0)) w 2 0 := by
  unfold aShut
  rw [if_neg (by have h : hW s w 2 = c + 1 := h; omega), show hW s w 2 = c + 1 from h]
  rfl
theorem aK_shut {s : hS} {w : Nat} (k : aK s) (hw : w < 3) : aK (aShut w s) := by
  by_cases g : wo s w = 0
  · rw [aShut_a g]
    refine aK_cg k rfl (Nat.le_refl _) rfl (fun _ _ => rfl) (fun v hv => uW_f (by decide)) (fun i hi => ⟨rfl, id, id⟩) (fun v hv h0 => ?_)
    rw [show wo (uW s w 0 0) v = wo s v from uW_f (by decide)]
    by_cases e : v = w
    · rw [e]; exact g
    · rw [uW_w e] at h0
      exact k.2.2.2 v hv h0
  · obtain ⟨c, hc⟩ : ∃ c, wo s w = c + 1 := ⟨wo s w - 1, by omega⟩
    rw [aShut_b hc]
    obtain ⟨⟨k1, k2, k3, k4, k5, k6, k7⟩, ⟨k8, k9⟩, k11, k12⟩ := k
    have hcn : c < s.1 0 := by have := k3 w hw; omega
    have n' : (uW (aFront c (uW s w 0 0)) w 2 0).1 0 = s.1 0 := aFront_0 (s := uW s w 0 0) (c := c) (j := 0) (by decide)
    have m' : (uW (aFront c (uW s w 0 0)) w 2 0).1 2 = s.1 2 := aFront_0 (s := uW s w 0 0) (c := c) (j := 2) (by decide)
    have q' : (uW (aFront c (uW s w 0 0)) w 2 0).1 7 = s.1 7 + 1 := aFront_7 (s := uW s w 0 0) (c := c)
    have Q0 : hQ (uW (aFront c (uW s w 0 0)) w 2 0) 0 = c := rfl
    have Qs : ∀ j, j < s.1 7 → hQ (uW (aFront c (uW s w 0 0)) w 2 0) (j + 1) = hQ s j := fun j hj => aFront_qs (s := uW s w 0 0) (c := c) hj
    have W' : ∀ v, v ≠ w → wo (uW (aFront c (uW s w 0 0)) w 2 0) v = wo s v := fun v hv => by
      show hW (uW (aFront c (uW s w 0 0)) w 2 0) v 2 = _
      rw [uW_w hv]
      show hW (uW s w 0 0) v 2 = _
      rw [uW_w hv]
    have Ww : wo (uW (aFront c (uW s w 0 0)) w 2 0) w = 0 := uW_s
    have hne : ∀ j, j < s.1 7 → hQ s j ≠ c := fun j hj z => k5 j w hj hw (by rw [z]; exact hc)
    have hnw : ∀ v, v < 3 → v ≠ w → wo s v ≠ c + 1 := fun v hv hn z => hn (k4 v w hv hw (by omega) (z.trans hc.symm))
    refine ⟨⟨fun j hj => ?_, fun i j hi hj e => ?_, fun v hv => ?_, fun u v hu hv h0 e => ?_, fun j v hj hv => ?_, fun i hi => ?_, ?_⟩, ⟨fun i j hij hj => ?_, fun i hi => ?_⟩, fun v hv h0 => ?_, fun v hv h0 => ?_⟩
    · rw [q'] at hj
      rw [n']
      cases j with
      | zero => rw [Q0]; exact hcn
      | succ j => rw [Qs j (by omega)]; exact k1 j (by omega)
    · rw [q'] at hi hj
      cases i with
      | zero =>
        cases j with
        | zero => rfl
        | succ j =>
          rw [Q0, Qs j (by omega)] at e
          exact absurd e.symm (hne j (by omega))
      | succ i =>
        cases j with
        | zero =>
          rw [Q0, Qs i (by omega)] at e
          exact absurd e (hne i (by omega))
        | succ j =>
          rw [Qs i (by omega), Qs j (by omega)] at e
          rw [k2 i j (by omega) (by omega) e]
    · rw [n']
      by_cases e : v = w
      · rw [e, Ww]; omega
      · rw [W' v e]; exact k3 v hv
    · by_cases e1 : u = w
      · rw [e1, Ww] at h0; exact absurd rfl h0
      · by_cases e2 : v = w
        · rw [W' u e1] at h0
          rw [e2, Ww, W' u e1] at e
          exact absurd e h0
        · rw [W' u e1] at h0
          rw [W' u e1, W' v e2] at e
          exact k4 u v hu hv h0 e
    · rw [q'] at hj
      by_cases e : v = w
      · rw [e, Ww]; omega
      · rw [W' v e]
        cases j with
        | zero => rw [Q0]; exact hnw v hv e
        | succ j => rw [Qs j (by omega)]; exact k5 j v (by omega) hv
    · rw [n'] at hi
      rcases k6 i hi with ⟨j, hj, e⟩ | ⟨v, hv, e⟩
      · exact .inl ⟨j + 1, by rw [q']; omega, by rw [Qs j hj]; exact e⟩
      · by_cases e2 : v = w
        · rw [e2, hc] at e
          exact .inl ⟨0, by rw [q']; omega, by rw [Q0]; omega⟩
        · exact .inr ⟨v, hv, by rw [W' v e2]; exact e⟩
    · have := aOcc_out (s := s) (t := uW (aFront c (uW s w 0 0)) w 2 0) hw g Ww (fun v hv hn => by rw [W' v hn])
      have k7 : s.1 0 = s.1 7 + aOcc s := k7
      show (uW (aFront c (uW s w 0 0)) w 2 0).1 0 = (uW (aFront c (uW s w 0 0)) w 2 0).1 7 + aOcc (uW (aFront c (uW s w 0 0)) w 2 0)
      rw [n', q']
      omega
    · rw [n'] at hj
      exact k8 i j hij hj
    · rw [n'] at hi
      rw [m']
      exact k9 i hi
    · by_cases e : v = w
      · rw [e, Ww] at h0; exact absurd rfl h0
      · rw [W' v e] at h0 ⊢
        exact k11 v hv h0
    · by_cases e : v = w
      · rw [e]; exact Ww
      · have e1 : hW (uW (aFront c (uW s w 0 0)) w 2 0) v 0 = hW s v 0 := by
          rw [uW_w e]
          show hW (uW s w 0 0) v 0 = _
          rw [uW_w e]
        rw [e1] at h0
        rw [W' v e]
        exact k12 v hv h0
theorem aK_tick {s : hS} {w : Nat} (k : aK s) (hw : w < 3) : aK (aTick w s) := by
  rw [aTick_e]
  split
  · exact aK_shut k hw
  · next g =>
    refine aK_cg k rfl (Nat.le_refl _) rfl (fun _ _ => rfl) (fun v hv => uW_f (by decide)) (fun i hi => ⟨rfl, id, id⟩) (fun v hv h0 => ?_)
    rw [show wo (uW s w 0 (hW s w 0 - 1)) v = wo s v from uW_f (by decide)]
    by_cases e : v = w
    · rw [e, uW_s] at h0; exact absurd h0 g
    · rw [uW_w e] at h0
      exact k.2.2.2 v hv h0
theorem aK_serve {s : hS} {c : Nat} (k : aK s) : aK (aServe c s) := aK_cg k (aServe_n (by decide) (by decide)) (Nat.le_of_eq (aServe_n (by decide) (by decide)).symm) (aServe_n (by decide) (by decide)) (fun _ _ => by rw [aServe_Q]) (fun w hw => by show hW _ w 2 = hW s w 2; rw [aServe_W]) (fun i hi => by rw [aServe_C]; exact ⟨rfl, id, id⟩) (fun w hw h0 => by
  rw [aServe_W] at h0
  show hW _ w 2 = 0
  rw [aServe_W]
  exact k.2.2.2 w hw h0)
theorem aK_uW3 {s : hS} {w x : Nat} (k : aK s) : aK (uW s w 3 x) := aK_cg k rfl (Nat.le_refl _) rfl (fun _ _ => rfl) (fun v hv => uW_f (by decide)) (fun i hi => ⟨rfl, id, id⟩) (fun v hv h0 => by
  rw [uW_f (by decide)] at h0
  show hW _ v 2 = 0
  rw [uW_f (by decide)]
  exact k.2.2.2 v hv h0)
theorem aK_work {s : hS} {w : Nat} (k : aK s) (hw : w < 3) : aK (aWork w s) := by
  have h3 := k.1.2.2.1 w hw
  have h3 : hW s w 2 ≤ s.1 0 := h3
  unfold aWork
  split
  · exact aK_tick k hw
  · split
    · exact aK_tick (aK_leave (aK_serve (aK_uW3 k)) (by rw [aServe_n (by decide) (by decide)]; show hW s w 2 - 1 < s.1 0; omega)) hw
    · exact aK_tick (aK_uW3 k) hw
theorem aTurn_C {s : hS} {c i f : Nat} (h : i ≠ c ∨ (f ≠ 1 ∧ f ≠ 2 ∧ f ≠ 3 ∧ f ≠ 4 ∧ f ≠ 6)) : hC (aTurn c s).2 i f = hC s i f := by
  have e : ∀ (t : hS) (g v : Nat), (g = 1 ∨ g = 2 ∨ g = 3 ∨ g = 4 ∨ g = 6) → hC (uC t c g v) i f = hC t i f := fun t g v hg => if_neg (by omega)
  unfold aTurn aTurnS aTurnU aTurn0
  split
  · split
    · show hC (uC _ c 2 _) i f = _
      rw [e _ _ _ (by omega), e _ _ _ (by omega), e _ _ _ (by omega), e _ _ _ (by omega)]
    · show hC (uC _ c 1 _) i f = _
      rw [e _ _ _ (by omega), e _ _ _ (by omega), e _ _ _ (by omega)]
  · split
    · show hC (uC _ c 6 _) i f = _
      rw [e _ _ _ (by omega), e _ _ _ (by omega), e _ _ _ (by omega)]
    · show hC (uC _ c 6 _) i f = _
      rw [e _ _ _ (by omega), e _ _ _ (by omega), e _ _ _ (by omega)]
theorem aTurn_1 {s : hS} {c : Nat} : (aTurn c s).2.1 = s.1 := by unfold aTurn aTurnS aTurnU aTurn0; split <;> split <;> rfl
theorem aTurn_Q {s : hS} {c : Nat} : hQ (aTurn c s).2 = hQ s := by unfold aTurn aTurnS aTurnU aTurn0; split <;> split <;> rfl
theorem aTurn_W {s : hS} {c : Nat} : hW (aTurn c s).2 = hW s := by unfold aTurn aTurnS aTurnU aTurn0; split <;> split <;> rfl
theorem aTurn_L {s : hS} {c : Nat} : hL (aTurn c s).2 = hL s := by unfold aTurn aTurnS aTurnU aTurn0; split <;> split <;> rfl
theorem aTurn_C6 {s : hS} {c : Nat} (h : hC s c 6 = 0) : hC (aTurn c s).2 c 6 = 0 := by
  unfold aTurn aTurnS aTurnU aTurn0
  rw [if_pos h]
  split
  · show hC (uC _ c 2 _) c 6 = _
    rw [uC_f (by decide), uC_f (by decide), uC_f (by decide), uC_f (by decide)]; exact h
  · show hC (uC _ c 1 _) c 6 = _
    rw [uC_f (by decide), uC_f (by decide), uC_f (by decide)]; exact h
theorem aTurn_C2 {s : hS} {c : Nat} : hC (aTurn c s).2 c 2 = hC s c 2 + (aTurn c s).1 := by
  unfold aTurn aTurnS aTurnU aTurn0
  split
  · split
    · show hC (uC _ c 2 _) c 2 = _
      rw [uC_s]
    · show hC (uC _ c 1 _) c 2 = _
      rw [uC_f (by decide), uC_f (by decide), uC_f (by decide)]
      rfl
  · split
    · show hC (uC _ c 6 _) c 2 = _
      rw [uC_f (by decide), uC_f (by decide), uC_f (by decide)]
      rfl
    · show hC (uC _ c 6 _) c 2 = _
      rw [uC_f (by decide), uC_f (by decide), uC_f (by decide)]
      rfl
theorem aTurn_y {s : hS} {c : Nat} : (aTurn c s).1 ≤ 1 := by unfold aTurn; split <;> (try split) <;> simp
theorem aK_turn {s : hS} {c : Nat} (k : aK s) : aK (aTurn c s).2 := aK_cg k (by rw [aTurn_1]) (by rw [aTurn_1]; exact Nat.le_refl _) (by rw [aTurn_1]) (fun _ _ => by rw [aTurn_Q]) (fun w hw => by show hW _ w 2 = hW s w 2; rw [aTurn_W]) (fun i hi => by
  refine ⟨aTurn_C (by omega), fun h => by rw [aTurn_C (by omega)]; exact h, fun h => ?_⟩
  by_cases e : i = c
  · rw [e] at h ⊢; exact aTurn_C6 h
  · exact (aTurn_C (.inl e)).trans h) (fun w hw h0 => by
  rw [aTurn_W] at h0
  show hW _ w 2 = 0
  rw [aTurn_W]
  exact k.2.2.2 w hw h0)
theorem aB_turn {s : hS} {c : Nat} (b : aB s) (hc : c < 12) (h2 : hC s c 2 ≤ 2) : aB (aTurn c s).2 := by
  obtain ⟨b1, b2, b3⟩ := b.2.2.2.2 c hc
  have b0 : aB (aTurn0 c s) := aB_uC b (by omega) (by omega) (by omega)
  have e3 : hC (aTurn0 c s) c 3 = hC s c 3 := uC_f (by decide)
  have e1 : hC (aTurn0 c s) c 1 = hC s c 1 := uC_f (by decide)
  have bs : aB (aTurnS c (aTurn0 c s)) := by
    unfold aTurnS
    rw [e3, e1]
    exact aB_uC (aB_uC b0 (by omega) (by omega) (by omega)) (by omega) (by omega) (by omega)
  unfold aTurn
  split
  · split
    · exact aB_uC bs (by omega) (by omega) (by omega)
    · exact bs
  · unfold aTurnU
    rw [e3]
    split
    · exact aB_uC (aB_uC b0 (by omega) (by omega) (by omega)) (by omega) (by omega) (by omega)
    · exact aB_uC (aB_uC b0 (by omega) (by omega) (by omega)) (by omega) (by omega) (by omega)
