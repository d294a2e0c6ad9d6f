/-! pure: filling a window; the whole minute -/
def aFillAt (w p : Nat) (s : hS) : hS := aTake p (uW (uW (uC s (hQ s p) 6 0) w 2 (hQ s p + 1)) w 3 (hW s w 1))
def aFill (w : Nat) (s : hS) : hS := match pf (fun k => decide (hC s (hQ s k) 5 ≠ 0)) 0 (s.1 7) with
  | some p => aFillAt w p s
  | none => s
def aN (s : hS) : Prop := ∀ w, w < 3 → (hW s w 0 ≠ 0 → 1 ≤ hW s w 1) ∧ (wo s w ≠ 0 → 1 ≤ hW s w 3)
def aM (s : hS) : Prop := aI s ∧ aN s
theorem aN_cg {s t : hS} (n : aN s) (h : ∀ w, w < 3 → (hW t w 0 ≠ 0 → hW s w 0 ≠ 0) ∧ hW t w 1 = hW s w 1 ∧ (wo t w ≠ 0 → wo s w ≠ 0) ∧ hW t w 3 = hW s w 3) : aN t := fun w hw => by
  obtain ⟨a, b, c, d⟩ := h w hw
  rw [b, d]
  exact ⟨fun z => (n w hw).1 (a z), fun z => (n w hw).2 (c z)⟩
theorem aN_leave {s : hS} {c : Nat} (n : aN s) (k : aK s) (hc : c < s.1 0) : aN (aLeave c s) := aN_cg n fun w hw => by
  rw [aLeave_w (by decide), aLeave_w (by decide), aLeave_w (by decide), aLeave_W2 k hc hw]
  refine ⟨id, rfl, fun z => ?_, rfl⟩
  by_cases g : wo s w = c + 1
  · omega
  · rw [if_neg g] at z
    exact fun z2 => z ((dn_0 g).mpr z2)
theorem aN_W {s t : hS} (n : aN s) (h : hW t = hW s) : aN t := aN_cg n fun w hw => by rw [show wo t w = wo s w by unfold wo; rw [h], h]; exact ⟨id, rfl, id, rfl⟩
theorem aN_waitS {s : hS} {p : Nat} (n : aN s) (i : aI s) (hp : p < s.1 7) : aN (aWaitS p s).2 := by
  have ky := aK_waitY (p := p) i.2.1
  have ny : aN (aWaitY p s) := aN_W n aWaitY_W
  unfold aWaitS
  split
  · exact ny
  · exact aN_leave (s := u0 (aWaitY p s) 5 ((aWaitY p s).1 5 + 1)) ny (aK_u0 ky (by decide) (by decide) (by decide)) (by rw [u0_n (by decide), aWaitY_n (by decide)]; exact i.2.1.1.1 p hp)
theorem aM_waitL : ∀ (m p : Nat) (s : hS), aM s → p + m = s.1 7 → aM (aWaitL m p s)
  | 0, p, s, i, e => i
  | m + 1, p, s, i, e => by
    have ok := aWaitS_ok i.1 (p := p) (by omega)
    have n := aN_waitS (p := p) i.2 i.1 (by omega)
    unfold aWaitL
    refine aM_waitL m _ _ ⟨ok.1, n⟩ ?_
    rcases ok.2.2 with z | z
    · have h := ok.2.1
      rw [if_pos z, if_pos z] at h
      omega
    · have h := ok.2.1
      rw [if_neg (by omega), if_neg (by omega)] at h
      omega
theorem aM_wait {s : hS} (i : aM s) : aM (aWait s) := aM_waitL _ _ _ i (by omega)
theorem aB_front {s : hS} {c : Nat} (b : aB s) (hc : c < 12) (hq : s.1 7 < 12) : aB (aFront c s) := by
  refine ⟨?_, ?_, fun k hk => ?_, b.2.2.2.1, b.2.2.2.2⟩
  · rw [aFront_0 (by decide)]; exact b.1
  · rw [aFront_7]; omega
  · have e : hQ (aFront c s) k = if k = 0 then c else if k ≤ s.1 7 then s.2.1 (k - 1) else s.2.1 k := rfl
    rw [e]
    split
    · exact hc
    · split
      · exact b.2.2.1 (k - 1) (by omega)
      · exact b.2.2.1 k hk
theorem aK_q12 {s : hS} {w : Nat} (k : aK s) (b : aB s) (hw : w < 3) (h : wo s w ≠ 0) : s.1 7 < 12 := by
  have := k.1.2.2.2.2.2.2
  have e : s.1 0 = s.1 7 + aOcc s := this
  have := aOcc_1 hw h
  have := b.1
  omega
theorem aB_shut {s : hS} {w : Nat} (b : aB s) (k : aK s) (hw : w < 3) : aB (aShut w s) := by
  by_cases g : wo s w = 0
  · rw [aShut_a g]
    exact aB_uW b (by omega) (by omega) (by omega) (by omega)
  · obtain ⟨c, hc⟩ : ∃ c, wo s w = c + 1 := ⟨wo s w - 1, by omega⟩
    rw [aShut_b hc]
    have := (b.2.2.2.1 w hw).2.2.1
    have hc : hW s w 2 = c + 1 := hc
    exact aB_uW (aB_front (aB_uW b (by omega) (by omega) (by omega) (by omega)) (by omega) (by have := aK_q12 k b hw g; exact this)) (by omega) (by omega) (by omega) (by omega)
theorem aB_tick {s : hS} {w : Nat} (b : aB s) (k : aK s) (hw : w < 3) : aB (aTick w s) := by
  have := (b.2.2.2.1 w hw).1
  rw [aTick_e]
  split
  · exact aB_shut b k hw
  · exact aB_uW b (by omega) (by omega) (by omega) (by omega)
theorem aShut_C {s : hS} {w : Nat} : hC (aShut w s) = hC s := by unfold aShut; split <;> rfl
theorem aShut_0 {s : hS} {w : Nat} : (aShut w s).1 0 = s.1 0 := by
  unfold aShut
  split
  · rfl
  · exact aFront_0 (s := uW s w 0 0) (c := hW s w 2 - 1) (j := 0) (by decide)
theorem aTick_C {s : hS} {w : Nat} : hC (aTick w s) = hC s := by
  rw [aTick_e]
  split
  · exact aShut_C
  · rfl
theorem aTick_0 {s : hS} {w : Nat} : (aTick w s).1 0 = s.1 0 := by
  rw [aTick_e]
  split
  · exact aShut_0
  · rfl
theorem aS_tick {s : hS} {w : Nat} (h : aK10 s) : aK10 (aTick w s) := fun i hi => by
  rw [aTick_0] at hi
  rw [aTick_C]
  exact h i hi
theorem aShut_W0 {s : hS} {w v f : Nat} (hf : f ≠ 2) (h0 : v ≠ w ∨ f ≠ 0) : hW (aShut w s) v f = hW s v f := by
  unfold aShut
  split
  · exact if_neg (by omega)
  · rw [uW_f hf]
    show hW (uW s w 0 0) v f = _
    exact if_neg (by omega)
theorem aShut_w0 {s : hS} {w : Nat} : hW (aShut w s) w 0 = 0 := by
  unfold aShut
  split
  · exact uW_s
  · rw [uW_f (by decide)]
    exact uW_s
theorem aShut_w2 {s : hS} {w : Nat} : wo (aShut w s) w = 0 := by
  by_cases g : wo s w = 0
  · rw [aShut_a g]
    show hW _ w 2 = 0
    rw [uW_f (by decide)]
    exact g
  · unfold aShut
    rw [if_neg g]
    exact uW_s
theorem aShut_v2 {s : hS} {w v : Nat} (h : v ≠ w) : wo (aShut w s) v = wo s v := by
  unfold aShut
  split
  · exact uW_w h
  · show hW (uW _ w 2 0) v 2 = _
    rw [uW_w h]
    exact uW_w h
/-- all but the window itself, whose customer may just have got its end -/
def aNx (w : Nat) (s : hS) : Prop := (∀ v, v < 3 → v ≠ w → (hW s v 0 ≠ 0 → 1 ≤ hW s v 1) ∧ (wo s v ≠ 0 → 1 ≤ hW s v 3)) ∧ (hW s w 0 ≠ 0 → 1 ≤ hW s w 1)
theorem aN_shut {s : hS} {w : Nat} (n : aNx w s) : aN (aShut w s) := fun v hv => by
  by_cases e : v = w
  · subst e
    exact ⟨fun z => absurd aShut_w0 z, fun z => absurd aShut_w2 z⟩
  · rw [aShut_W0 (by decide) (.inl e), aShut_W0 (by decide) (.inl e), aShut_W0 (by decide) (.inl e), aShut_v2 e]
    exact n.1 v hv e
theorem aN_x {s : hS} {w : Nat} (n : aN s) (hw : w < 3) : aNx w s := ⟨fun v hv _ => n v hv, (n w hw).1⟩
theorem aN_tick {s : hS} {w : Nat} (n : aNx w s) (h : wo s w ≠ 0 → 1 ≤ hW s w 3) (ho : hW s w 0 ≠ 0) : aN (aTick w s) := by
  rw [aTick_e]
  split
  · exact aN_shut n
  · intro v hv
    by_cases e : v = w
    · subst e
      rw [show hW (uW s v 0 (hW s v 0 - 1)) v 1 = hW s v 1 from uW_f (by decide), show hW (uW s v 0 (hW s v 0 - 1)) v 3 = hW s v 3 from uW_f (by decide), show wo (uW s v 0 (hW s v 0 - 1)) v = wo s v from uW_f (by decide)]
      exact ⟨fun _ => n.2 ho, h⟩
    · rw [uW_w e, uW_w e, uW_w e, show wo (uW s w 0 _) v = wo s v from uW_w e]
      exact n.1 v hv e
theorem aM_work {s : hS} {w : Nat} (i : aM s) (hw : w < 3) (ho : 0 < hW s w 0) : aM (aWork w s) := by
  obtain ⟨⟨b, k, k10⟩, n⟩ := i
  have h3 : hW s w 2 ≤ s.1 0 := k.1.2.2.1 w hw
  have b3 := (b.2.2.2.1 w hw).2.2.2
  refine ⟨⟨?_, aK_work k hw, ?_⟩, ?_⟩
  · unfold aWork
    split
    · exact aB_tick b k hw
    · have b1 : aB (uW s w 3 (hW s w 3 - 1)) := aB_uW b (by omega) (by omega) (by omega) (by omega)
      split
      · have hc : hW s w 2 - 1 < (aServe (hW s w 2 - 1) (uW s w 3 (hW s w 3 - 1))).1 0 := by rw [aServe_n (by decide) (by decide)]; show _ < s.1 0; omega
        exact aB_tick (aB_leave (aB_serve b1) hc) (aK_leave (aK_serve (aK_uW3 k)) hc) hw
      · exact aB_tick b1 (aK_uW3 k) hw
  · unfold aWork
    split
    · exact aS_tick k10
    · split
      · refine aS_tick (aS_leave fun i hi hne => ?_)
        rw [aServe_n (by decide) (by decide)] at hi
        rw [aServe_C]
        exact k10 i hi
      · exact aS_tick (s := uW s w 3 (hW s w 3 - 1)) k10
  · unfold aWork
    split
    · next g => exact aN_tick (aN_x n hw) (fun z => absurd g z) (by omega)
    · split
      · have hc : hW s w 2 - 1 < (aServe (hW s w 2 - 1) (uW s w 3 (hW s w 3 - 1))).1 0 := by rw [aServe_n (by decide) (by decide)]; show _ < s.1 0; omega
        have kk := aK_serve (c := hW s w 2 - 1) (aK_uW3 (w := w) (x := hW s w 3 - 1) k)
        have e2 : wo (aLeave (hW s w 2 - 1) (aServe (hW s w 2 - 1) (uW s w 3 (hW s w 3 - 1)))) w = 0 := by
          rw [aLeave_W2 kk hc hw, if_pos]
          show hW (aServe _ _) w 2 = _
          rw [aServe_W, uW_f (by decide)]
          omega
        have eW : ∀ v f, f ≠ 2 → hW (aLeave (hW s w 2 - 1) (aServe (hW s w 2 - 1) (uW s w 3 (hW s w 3 - 1)))) v f = hW (uW s w 3 (hW s w 3 - 1)) v f := fun v f hf => by rw [aLeave_w hf, aServe_W]
        refine aN_tick ⟨fun v hv hne => ?_, ?_⟩ (fun z => absurd e2 z) ?_
        · rw [eW v 0 (by decide), eW v 1 (by decide), eW v 3 (by decide), uW_w hne, uW_w hne, uW_w hne, aLeave_W2 kk hc hv]
          refine ⟨(n v hv).1, fun z => (n v hv).2 fun z2 => z ?_⟩
          rw [show wo (aServe (hW s w 2 - 1) (uW s w 3 (hW s w 3 - 1))) v = 0 from by
            show hW (aServe _ _) v 2 = 0
            rw [aServe_W, uW_f (by decide)]; exact z2]
          split <;> rfl
        · rw [eW w 0 (by decide), eW w 1 (by decide), uW_f (by decide), uW_f (by decide)]
          exact (n w hw).1
        · rw [eW w 0 (by decide), uW_f (by decide)]
          omega
      · next g1 g2 =>
        refine aN_tick ⟨fun v hv hne => ?_, ?_⟩ (fun z => ?_) ?_
        · rw [uW_w hne, uW_w hne, uW_w hne, show wo (uW s w 3 _) v = wo s v from uW_w hne]
          exact n v hv
        · rw [uW_f (by decide), uW_f (by decide)]
          exact (n w hw).1
        · rw [uW_s]
          omega
        · rw [uW_f (by decide)]
          omega
theorem aM_fill {s : hS} {w : Nat} (i : aM s) (hw : w < 3) (ho : 0 < hW s w 0) (h0 : wo s w = 0) : aM (aFill w s) := by
  unfold aFill
  cases hp : pf (fun k => decide (hC s (hQ s k) 5 ≠ 0)) 0 (s.1 7) with
  | none => exact i
  | some p =>
    obtain ⟨-, hp1, hp2, -⟩ := pf_some hp
    have hp1 : p < s.1 7 := by omega
    have hp2 : hC s (hQ s p) 5 ≠ 0 := of_decide_eq_true hp2
    obtain ⟨⟨b, k, k10⟩, n⟩ := i
    obtain ⟨b1, b2, b3, b4⟩ := b.2.2.2.1 w hw
    obtain ⟨⟨k1, k2, k3, k4, k5, k6, k7⟩, ⟨k8, k9⟩, k11, k12⟩ := k
    have hc := k1 p hp1
    have hn := b.1
    have b5 : aB (uW (uW (uC s (hQ s p) 6 0) w 2 (hQ s p + 1)) w 3 (hW s w 1)) := aB_uW (aB_uW (aB_uC b (by omega) (by omega) (by omega)) (by omega) (by omega) (by omega) (by omega)) (by omega) (by omega) (by omega) (by omega)
    have n' : (aFillAt w p s).1 0 = s.1 0 := aTake_n (by decide)
    have m' : (aFillAt w p s).1 2 = s.1 2 := aTake_n (by decide)
    have q' : (aFillAt w p s).1 7 = s.1 7 - 1 := aTake_7
    have Q' : ∀ k, k < s.1 7 - 1 → hQ (aFillAt w p s) k = hQ s (sk p k) := fun k hk => aTake_Q (s := uW (uW (uC s (hQ s p) 6 0) w 2 (hQ s p + 1)) w 3 (hW s w 1)) hk
    have W' : ∀ v, v ≠ w → ∀ f, hW (aFillAt w p s) v f = hW s v f := fun v hv f => by
      show hW (uW (uW (uC s (hQ s p) 6 0) w 2 (hQ s p + 1)) w 3 (hW s w 1)) v f = _
      rw [uW_w hv, uW_w hv]
      rfl
    have Ww : wo (aFillAt w p s) w = hQ s p + 1 := by
      show hW (uW (uW (uC s (hQ s p) 6 0) w 2 (hQ s p + 1)) w 3 (hW s w 1)) w 2 = _
      rw [uW_f (by decide), uW_s]
    have W3 : hW (aFillAt w p s) w 3 = hW s w 1 := uW_s (s := uW (uC s (hQ s p) 6 0) w 2 (hQ s p + 1))
    have W0 : ∀ f, f ≠ 2 → f ≠ 3 → hW (aFillAt w p s) w f = hW s w f := fun f h2 h3 => by
      show hW (uW (uW (uC s (hQ s p) 6 0) w 2 (hQ s p + 1)) w 3 (hW s w 1)) w f = _
      rw [uW_f h3, uW_f h2]
      rfl
    have C' : ∀ i f, (i ≠ hQ s p ∨ f ≠ 6) → hC (aFillAt w p s) i f = hC s i f := fun i f h => if_neg (by omega)
    have Cc : hC (aFillAt w p s) (hQ s p) 6 = 0 := uC_s (s := s)
    have ck : hC s (hQ s p) 5 ≠ 0 := hp2
    refine ⟨⟨aB_take b5, ⟨⟨fun j hj => ?_, fun i j hi hj e => ?_, fun v hv => ?_, fun u v hu hv h1 e => ?_, fun j v hj hv => ?_, fun i hi => ?_, ?_⟩, ⟨fun i j hij hj => ?_, fun i hi => ?_⟩, fun v hv h1 => ?_, fun v hv h1 => ?_⟩, fun i hi => ?_⟩, fun v hv => ?_⟩
    · have hj : j < (aFillAt w p s).1 7 := hj
      show hQ (aFillAt w p s) j < (aFillAt w p s).1 0
      rw [q'] at hj
      rw [n', Q' j hj]
      exact k1 _ (sk_lt hj)
    · have hi : i < (aFillAt w p s).1 7 := hi
      have hj : j < (aFillAt w p s).1 7 := hj
      have e : hQ (aFillAt w p s) i = hQ (aFillAt w p s) j := e
      rw [q'] at hi hj
      rw [Q' i hi, Q' j hj] at e
      exact sk_inj (k2 _ _ (sk_lt hi) (sk_lt hj) e)
    · show wo (aFillAt w p s) v ≤ (aFillAt w p s).1 0
      rw [n']
      by_cases e : v = w
      · rw [e, Ww]; omega
      · show hW _ v 2 ≤ _
        rw [W' v e]; exact k3 v hv
    · have h1 : hW (aFillAt w p s) u 2 ≠ 0 := h1
      have e : hW (aFillAt w p s) u 2 = hW (aFillAt w p s) v 2 := e
      have Ww : hW (aFillAt w p s) w 2 = hQ s p + 1 := Ww
      by_cases e1 : u = w
      · by_cases e2 : v = w
        · rw [e1, e2]
        · rw [e1, Ww, W' v e2] at e
          exact absurd e.symm (k5 p v hp1 hv)
      · by_cases e2 : v = w
        · rw [e2, Ww, W' u e1] at e
          exact absurd e (k5 p u hp1 hu)
        · rw [W' u e1] at h1
          rw [W' u e1, W' v e2] at e
          exact k4 u v hu hv h1 e
    · have hj : j < (aFillAt w p s).1 7 := hj
      show wo (aFillAt w p s) v ≠ hQ (aFillAt w p s) j + 1
      rw [q'] at hj
      rw [Q' j hj]
      by_cases e : v = w
      · rw [e, Ww]
        intro z
        exact sk_ne (k2 _ _ (sk_lt hj) hp1 (by omega))
      · show hW _ v 2 ≠ _
        rw [W' v e]; exact k5 _ v (sk_lt hj) hv
    · have hi : i < (aFillAt w p s).1 0 := hi
      show (∃ k, k < (aFillAt w p s).1 7 ∧ hQ (aFillAt w p s) k = i) ∨ (∃ v, v < 3 ∧ wo (aFillAt w p s) v = i + 1)
      rw [n'] at hi
      rcases k6 i hi with ⟨j, hj, e⟩ | ⟨v, hv, e⟩
      · by_cases e2 : j = p
        · exact .inr ⟨w, hw, by rw [Ww, ← e, e2]⟩
        · exact .inl ⟨dn p j, by rw [q']; exact dn_lt e2 hp1 hj, by rw [Q' _ (dn_lt e2 hp1 hj), sk_dn e2]; exact e⟩
      · have e3 : v ≠ w := fun z => by rw [z, h0] at e; omega
        exact .inr ⟨v, hv, by show hW _ v 2 = _; rw [W' v e3]; exact e⟩
    · have := aOcc_out (s := aFillAt w p s) (t := s) hw (by rw [Ww]; omega) h0 (fun v hv hne => by show hW _ v 2 = 0 ↔ _; rw [W' v hne])
      have k7 : s.1 0 = s.1 7 + aOcc s := k7
      show (aFillAt w p s).1 0 = (aFillAt w p s).1 7 + aOcc (aFillAt w p s)
      rw [n', q']
      omega
    · have hj : j < (aFillAt w p s).1 0 := hj
      show hC (aFillAt w p s) i 0 < hC (aFillAt w p s) j 0
      rw [n'] at hj
      rw [C' i 0 (by omega), C' j 0 (by omega)]
      exact k8 i j hij hj
    · have hi : i < (aFillAt w p s).1 0 := hi
      show 1 ≤ hC (aFillAt w p s) i 0 ∧ hC (aFillAt w p s) i 0 ≤ (aFillAt w p s).1 2
      rw [n'] at hi
      rw [m', C' i 0 (by omega)]
      exact k9 i hi
    · have h1 : wo (aFillAt w p s) v ≠ 0 := h1
      show hC (aFillAt w p s) (wo (aFillAt w p s) v - 1) 6 = 0 ∧ hC (aFillAt w p s) (wo (aFillAt w p s) v - 1) 5 ≠ 0
      by_cases e : v = w
      · rw [e, Ww, show hQ s p + 1 - 1 = hQ s p from rfl, C' _ 5 (by omega)]
        exact ⟨Cc, ck⟩
      · have ev : wo (aFillAt w p s) v = wo s v := W' v e 2
        rw [ev] at h1 ⊢
        have k5 := k5 p v hp1 hv
        rw [C' _ 6 (by omega), C' _ 5 (by omega)]
        exact k11 v hv h1
    · have h1 : hW (aFillAt w p s) v 0 = 0 := h1
      show hW (aFillAt w p s) v 2 = 0
      by_cases e : v = w
      · rw [e, W0 0 (by decide) (by decide)] at h1
        omega
      · rw [W' v e] at h1 ⊢
        exact k12 v hv h1
    · have hi : i < (aFillAt w p s).1 0 := hi
      show hC (aFillAt w p s) i 2 ≤ 2
      rw [n'] at hi
      rw [C' i 2 (by omega)]
      exact k10 i hi
    · show (hW (aFillAt w p s) v 0 ≠ 0 → 1 ≤ hW (aFillAt w p s) v 1) ∧ (wo (aFillAt w p s) v ≠ 0 → 1 ≤ hW (aFillAt w p s) v 3)
      by_cases e : v = w
      · rw [e, W3, W0 0 (by decide) (by decide), W0 1 (by decide) (by decide)]
        exact ⟨(n w hw).1, fun _ => (n w hw).1 (by omega)⟩
      · rw [W' v e, W' v e, W' v e, show wo (aFillAt w p s) v = wo s v from W' v e 2]
        exact n v hv
def aWorkW (w : Nat) (s : hS) : hS := if 0 < hW s w 0 then aWork w s else s
def aFillW (w : Nat) (s : hS) : hS := if 0 < hW s w 0 ∧ wo s w = 0 then aFill w s else s
def aTurns (s : hS) : hS := aWorkW 2 (aWorkW 1 (aWorkW 0 s))
def aFills (s : hS) : hS := aFillW 2 (aFillW 1 (aFillW 0 s))
def aMinute (s : hS) : hS := u0 (aFills (aWait (aTurns s))) 1 ((aFills (aWait (aTurns s))).1 1 + 1)
theorem aM_workW {s : hS} {w : Nat} (i : aM s) (hw : w < 3) : aM (aWorkW w s) := by
  unfold aWorkW
  split
  · next g => exact aM_work i hw g
  · exact i
theorem aM_fillW {s : hS} {w : Nat} (i : aM s) (hw : w < 3) : aM (aFillW w s) := by
  unfold aFillW
  split
  · next g => exact aM_fill i hw g.1 g.2
  · exact i
theorem aM_turns {s : hS} (i : aM s) : aM (aTurns s) := aM_workW (aM_workW (aM_workW i (by decide)) (by decide)) (by decide)
theorem aM_fills {s : hS} (i : aM s) : aM (aFills s) := aM_fillW (aM_fillW (aM_fillW i (by decide)) (by decide)) (by decide)
theorem aM_u0 {s : hS} {j v : Nat} (i : aM s) (h0 : j ≠ 0) (h2 : j ≠ 2) (h7 : j ≠ 7) : aM (u0 s j v) := ⟨⟨aB_u0 i.1.1 (by omega), aK_u0 i.1.2.1 h0 h2 h7, fun i' hi => i.1.2.2 i' (by rw [u0_n (Ne.symm h0)] at hi; exact hi)⟩, i.2⟩
theorem aM_minute {s : hS} (i : aM s) : aM (aMinute s) := aM_u0 (aM_fills (aM_wait (aM_turns i))) (by decide) (by decide) (by decide)
