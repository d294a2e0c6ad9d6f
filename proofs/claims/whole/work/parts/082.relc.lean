/-! pure: the class's whole memory -/
theorem cV_same {h : Nat} {M M' : xM} (h2 : ∀ c, h ≤ c → c < h + 21 → M'.1 c = M.1 c ∧ M'.2.1 c = M.2.1 c) (v : cV h M) : cV h M' := by
  have e : M'.2.1 (h + 1) = M.2.1 (h + 1) := (h2 _ (by omega) (by omega)).2
  refine ⟨v.1, fun i hi => ?_, fun i j hi hj z => ?_⟩
  · rw [e]; exact v.2.1 i hi
  · rw [e] at z; exact v.2.2 i j hi hj z
theorem cR_same {h : Nat} {M M' : xM} {s : hS} (h2 : ∀ c, h ≤ c → c < h + 21 → M'.1 c = M.1 c ∧ M'.2.1 c = M.2.1 c) (r : cR h M s) : cR h M' s := by
  have e := fun c a b => (h2 c a b).1
  have e1 : M'.2.1 (h + 1) = M.2.1 (h + 1) := (h2 _ (by omega) (by omega)).2
  refine ⟨cV_same h2 r.1, fun j hj => ?_, fun k hk => ?_, fun w hw => ?_, fun i hi f hf => ?_, fun k hk => ?_, r.2.2.2.2.2.2⟩
  · rw [e h (by omega) (by omega)]; exact r.sc hj
  · rw [e (h + 2) (by omega) (by omega)]; exact r.q hk
  · rw [e (h + 3 + 15 + w) (by omega) (by omega)]; exact r.2.2.2.1 w hw
  · obtain ⟨d, hd, ed⟩ := r.cc hi
    rw [e1, e _ (by omega) (by omega)]; exact r.c hi hf
  · rw [e (h + 4) (by omega) (by omega), e (h + 5) (by omega) (by omega)]; exact r.2.2.2.2.2.1 k hk
theorem cF_same {h o : Nat} {M M' : xM} (kh : xkd h = 5) (ko : xkd o = 5) (ne : o ≠ h) (f : cF h M M') : ∀ c, o ≤ c → c < o + 21 → M'.1 c = M.1 c ∧ M'.2.1 c = M.2.1 c := fun c h1 h2 => f.1 c (by
  obtain ⟨a1, a2, a3⟩ := x5_is kh
  obtain ⟨b1, b2, b3⟩ := x5_is ko
  omega)
/-- the eleven halls: the present one, the trial, the snapshot, the eight of the past -/
def gP (M : xM) (i : Nat) : Nat := if i < 3 then M.2.1 0 i else M.2.1 1 (i - 3)
def gC (M : xM) (s : hS) (u : Nat) (H : Nat → hS) (sf : Nat) (sn : hS) : Prop :=
  (∀ i, i < 11 → cV (gP M i) M) ∧ (∀ i j, i < 11 → j < 11 → gP M i = gP M j → i = j) ∧ cR (gP M 0) M s ∧ (∀ i, i < u → cR (gP M (3 + i)) M (H i)) ∧ (sf ≠ 0 → cR (gP M 2) M sn) ∧ M.1 0 5 = nI u ∧ u ≤ 8 ∧ M.1 0 3 = nI sf ∧ sf ≤ 1
section GC
variable {M : xM} {s : hS} {u : Nat} {H : Nat → hS} {sf : Nat} {sn : hS}
theorem gC.k (g : gC M s u H sf sn) {i : Nat} (hi : i < 11) : xkd (gP M i) = 5 := (g.1 i hi).1
theorem gC.ge (g : gC M s u H sf sn) {i : Nat} (hi : i < 11) : 22 ≤ gP M i := (x5_is (g.k hi)).1
theorem gC.r (g : gC M s u H sf sn) : cR (M.2.1 0 0) M s := g.2.2.1
theorem gC.k0 (g : gC M s u H sf sn) : xkd (M.2.1 0 0) = 5 := g.k (i := 0) (by decide)
theorem gC.k1 (g : gC M s u H sf sn) : xkd (M.2.1 0 1) = 5 := g.k (i := 1) (by decide)
theorem gC.k2 (g : gC M s u H sf sn) : xkd (M.2.1 0 2) = 5 := g.k (i := 2) (by decide)
theorem gC.kh (g : gC M s u H sf sn) {i : Nat} (hi : i < 8) : xkd (M.2.1 1 i) = 5 := by
  have := g.k (i := 3 + i) (by omega)
  unfold gP at this
  rw [if_neg (by omega), show 3 + i - 3 = i by omega] at this
  exact this
/-- the halls in another order, nothing else of them changed -/
theorem gC_perm (g : gC M s u H sf sn) {M' : xM} (σ : Nat → Nat) (hσ : ∀ i, i < 11 → σ i < 11) (hi : ∀ i j, i < 11 → j < 11 → σ i = σ j → i = j) (hp : ∀ i, i < 11 → gP M' i = gP M (σ i)) (hm : ∀ c, 22 ≤ c → M'.1 c = M.1 c ∧ M'.2.1 c = M.2.1 c) : (∀ i, i < 11 → cV (gP M' i) M') ∧ (∀ i j, i < 11 → j < 11 → gP M' i = gP M' j → i = j) ∧ (∀ i t, i < 11 → cR (gP M (σ i)) M t → cR (gP M' i) M' t) := by
  refine ⟨fun i h => ?_, fun i j h1 h2 e => ?_, fun i t h r => ?_⟩
  · rw [hp i h]
    have := g.ge (hσ i h)
    exact cV_same (fun c a b => hm c (by omega)) (g.1 _ (hσ i h))
  · rw [hp i h1, hp j h2] at e
    exact hi i j h1 h2 (g.2.1 _ _ (hσ i h1) (hσ j h2) e)
  · rw [hp i h]
    have := g.ge (hσ i h)
    exact cR_same (fun c a b => hm c (by omega)) r
/-- the trial hall anew -/
theorem gC_trial (g : gC M s u H sf sn) {M' : xM} (f : cF (M.2.1 0 1) M M') (v : cV (M.2.1 0 1) M') : gC M' s u H sf sn := by
  have ge := g.ge (i := 1) (by decide)
  have ge : 22 ≤ M.2.1 0 1 := ge
  have e0 := f.1 0 (by omega)
  have e1 := f.1 1 (by omega)
  have hp : ∀ i, gP M' i = gP M i := fun i => by unfold gP; rw [e0.2, e1.2]
  have oth : ∀ i, i < 11 → i ≠ 1 → ∀ c, gP M i ≤ c → c < gP M i + 21 → M'.1 c = M.1 c ∧ M'.2.1 c = M.2.1 c := fun i hi h1 => cF_same g.k1 (g.k hi) (fun e => h1 (g.2.1 i 1 hi (by decide) e)) f
  refine ⟨fun i hi => ?_, fun i j hi hj e => ?_, ?_, fun i hi => ?_, fun h => ?_, ?_, g.2.2.2.2.2.2.1, ?_, g.2.2.2.2.2.2.2.2⟩
  · rw [hp]
    by_cases h1 : i = 1
    · subst h1; exact v
    · exact cV_same (oth i hi h1) (g.1 i hi)
  · rw [hp, hp] at e; exact g.2.1 i j hi hj e
  · rw [hp]; exact cR_same (oth 0 (by decide) (by decide)) g.2.2.1
  · rw [hp]; exact cR_same (oth (3 + i) (by have := g.2.2.2.2.2.2.1; omega) (by omega)) (g.2.2.2.1 i hi)
  · rw [hp]; exact cR_same (oth 2 (by decide) (by decide)) (g.2.2.2.2.1 h)
  · rw [e0.1]; exact g.2.2.2.2.2.1
  · rw [e0.1]; exact g.2.2.2.2.2.2.2.1
/-- what the class's changes leave alone -/
def gK (M M' : xM) : Prop := (∀ c, 2 ≤ c → c < 22 → M'.1 c = M.1 c ∧ M'.2.1 c = M.2.1 c) ∧ M'.2.2 = M.2.2 ∧ (∀ k, k ≠ 3 → k ≠ 5 → M'.1 0 k = M.1 0 k)
theorem gK.rf : gK M M := ⟨fun _ _ _ => ⟨rfl, rfl⟩, rfl, fun _ _ _ => rfl⟩
theorem gK.tr {M' M'' : xM} (a : gK M M') (b : gK M' M'') : gK M M'' := ⟨fun c h1 h2 => ⟨(b.1 c h1 h2).1.trans (a.1 c h1 h2).1, (b.1 c h1 h2).2.trans (a.1 c h1 h2).2⟩, b.2.1.trans a.2.1, fun k h3 h => (b.2.2 k h3 h).trans (a.2.2 k h3 h)⟩
theorem gK_F {h : Nat} {M' : xM} (hh : 22 ≤ h) (f : cF h M M') : gK M M' := ⟨fun c _ h2 => f.1 c (by omega), f.2, fun k _ _ => by rw [(f.1 0 (by omega)).1]⟩
def hPush (u : Nat) (H : Nat → hS) (s : hS) : Nat → hS := if u = 8 then (fun i => if i = 7 then s else H (i + 1)) else va_up H u s
def uPush (u : Nat) : Nat := if u = 8 then 8 else u + 1
theorem c_forget (g : gC M s 8 H sf sn) : ∃ M', f_X6_forgetOldestChange M = some M' ∧ (∀ c, c ≠ 1 → M'.2.1 c = M.2.1 c) ∧ (∀ i, i < 8 → M'.2.1 1 i = M.2.1 1 (if i = 7 then 0 else i + 1)) ∧ M'.1 = (sI M 0 5 (nI 7)).1 ∧ M'.2.2 = M.2.2 := by
  have L : ∀ (m k n : Nat) (X : xM), k + m = 8 → 1 ≤ k → m < n → X.1 = M.1 → X.2.2 = M.2.2 → (∀ c, c ≠ 1 → X.2.1 c = M.2.1 c) → (∀ i, i < 8 → X.2.1 1 i = M.2.1 1 (if i + 1 < k then i + 1 else i)) → ∃ M', f_X6_forgetOldestChange_L9 (M.2.1 1 0) n (nI k) X = some M' ∧ (∀ c, c ≠ 1 → M'.2.1 c = M.2.1 c) ∧ (∀ i, i < 8 → M'.2.1 1 i = M.2.1 1 (if i = 7 then 0 else i + 1)) ∧ M'.1 = (sI M 0 5 (nI 7)).1 ∧ M'.2.2 = M.2.2 := by
    intro m
    induction m with
    | zero =>
      intro k n X e h1 hn x1 x2 x3 x4
      obtain ⟨n, rfl⟩ : ∃ n', n = n' + 1 := ⟨n - 1, by omega⟩
      have k8 : k = 8 := by omega
      subst k8
      rw [f_X6_forgetOldestChange_L9.eq_2]
      rw [if_pos (show (8 : Int32) ≤ nI 8 by decide)]
      try rw [if_pos (show x_in 7 8 = true by decide)]
      simp only [x_let_e]
      refine ⟨_, rfl, fun c hc => ?_, fun i hi => ?_, ?_, x2⟩
      · show va_up X.2.1 1 _ c = _
        rw [va_up_ne _ _ hc]; exact x3 c hc
      · show va_up X.2.1 1 (va_up (X.2.1 1) 7 (M.2.1 1 0)) 1 i = _
        rw [va_up_self]
        by_cases e7 : i = 7
        · subst e7
          rw [va_up_self, if_pos rfl]
        · rw [va_up_ne _ _ e7, if_neg e7, x4 i hi, if_pos (by omega)]
      · show va_up X.1 0 (upd (X.1 0) 5 7) = va_up M.1 0 (upd (M.1 0) 5 (nI 7))
        rw [x1]; rfl
    | succ m ih =>
      intro k n X e h1 hn x1 x2 x3 x4
      obtain ⟨n, rfl⟩ : ∃ n', n = n' + 1 := ⟨n - 1, by omega⟩
      have kk : X.2.1 1 k = M.2.1 1 k := by rw [x4 k (by omega), if_neg (by omega)]
      rw [f_X6_forgetOldestChange_L9.eq_2]
      rw [if_neg (show ¬ (8 : Int32) ≤ nI k from nI_ge (b := 8) (by omega) (by decide))]
      rw [if_pos (show x_in (nI k) 8 = true from pi_in (by omega) (by decide)), pi_sub1 (by omega), pi_cl (by omega)]
      try rw [if_pos (show x_in (nI (k - 1)) 8 = true from pi_in (by omega) (by decide))]
      rw [pi_cl (by omega), kk]
      try rw [if_pos (g.kh (i := k) (by omega))]
      try rw [if_pos (show x_in (nI (k - 1)) 8 = true from pi_in (by omega) (by decide))]
      rw [x_let_e, pi_add1]
      refine ih (k + 1) n _ (by omega) (by omega) (by omega) x1 x2 (fun c hc => ?_) (fun i hi => ?_)
      · show va_up X.2.1 1 _ c = _
        rw [va_up_ne _ _ hc]; exact x3 c hc
      · show va_up X.2.1 1 (va_up (X.2.1 1) (k - 1) (M.2.1 1 k)) 1 i = _
        rw [va_up_self]
        by_cases e1 : i = k - 1
        · subst e1
          rw [va_up_self, if_pos (by omega), show k - 1 + 1 = k by omega]
        · rw [va_up_ne _ _ e1, x4 i hi]
          by_cases e2 : i + 1 < k
          · rw [if_pos e2, if_pos (by omega)]
          · rw [if_neg e2, if_neg (by omega)]
  unfold f_X6_forgetOldestChange
  rw [if_pos (by decide), pi_cl0, if_pos (g.kh (i := 0) (by decide))]
  exact L 7 1 xF M (by omega) (by omega) (by rw [xF_2000]; omega) rfl rfl (fun _ _ => rfl) (fun i _ => by rw [if_neg (by omega)])
end GC
