/-! pure: the class's changes, whole -/
section GW
variable {M : xM} {s : hS} {u : Nat} {H : Nat → hS} {sf : Nat} {sn : hS}
theorem m_in8 {n : Nat} (h : n < 8) : (x_in (nI n) 8 = true) = True := eq_true (pi_in h (by decide))
/-- the commit's end, with room in the past -/
def w_tail (a1 : Int32) (M : xM) : Option ((Int32 ⊕ String) × xM) := if x_in (M.1 0 5) 8 = true then if xkd (M.2.1 1 (M.1 0 5).toNatClampNeg) = 5 then if xkd (M.2.1 0 0) = 5 then if x_in (M.1 0 5) 8 = true then x_let (sP M 1 (M.1 0 5).toNatClampNeg (M.2.1 0 0)) fun M10 => x_let (sI M10 0 5 ((M10.1 0 5) + (1 : Int32))) fun M12 => if xkd (M12.2.1 0 1) = 5 then x_let (sP M12 0 0 (M12.2.1 0 1)) fun M15 => x_let (sP M15 0 1 (M.2.1 1 (M.1 0 5).toNatClampNeg)) fun M17 => some (.inl a1, M17) else none else none else none else none else none
def sgm (u i : Nat) : Nat := if i = 0 then 1 else if i = 1 then 3 + u else if i = 3 + u then 0 else i
theorem c_tail (g : gC M s u H sf sn) (hu : u < 8) {t : hS} (r : cR (M.2.1 0 1) M t) (a1 : Int32) : ∃ M', w_tail a1 M = some (.inl a1, M') ∧ gC M' t (u + 1) (va_up H u s) sf sn ∧ gK M M' := by
  have e5 := g.2.2.2.2.2.1
  have k0 := g.k0
  have k1 := g.k1
  have kh := g.kh hu
  unfold w_tail
  rw [e5, if_pos (pi_in hu (by decide)), pi_cl (by omega), if_pos kh, if_pos k0, if_pos (pi_in hu (by decide))]
  simp only [x_let_e]
  have e1 : (sI (sP M 1 u (M.2.1 0 0)) 0 5 ((sP M 1 u (M.2.1 0 0)).1 0 5 + 1)).2.1 0 1 = M.2.1 0 1 := by
    show va_up M.2.1 1 (va_up (M.2.1 1) u (M.2.1 0 0)) 0 1 = _
    rw [va_up_ne _ _ (by decide)]
  rw [e1, if_pos k1]
  have e6 : (sP M 1 u (M.2.1 0 0)).1 0 5 = nI u := e5
  rw [e6, pi_add1]
  have P : ∀ c k, (sP (sP (sI (sP M 1 u (M.2.1 0 0)) 0 5 (nI (u + 1))) 0 0 (M.2.1 0 1)) 0 1 (M.2.1 1 u)).2.1 c k = if c = 0 then (if k = 1 then M.2.1 1 u else if k = 0 then M.2.1 0 1 else M.2.1 0 k) else if c = 1 ∧ k = u then M.2.1 0 0 else M.2.1 c k := fun c k => by
    rw [sP_at]
    by_cases c0 : c = 0
    · subst c0
      rw [if_pos rfl]
      by_cases k1 : k = 1
      · rw [if_pos ⟨rfl, k1⟩, if_pos k1]
      · rw [if_neg (fun z => k1 z.2), if_neg k1, sP_at]
        by_cases k0 : k = 0
        · rw [if_pos ⟨rfl, k0⟩, if_pos k0]
        · rw [if_neg (fun z => k0 z.2), if_neg k0]
          show (sP M 1 u (M.2.1 0 0)).2.1 0 k = _
          rw [sP_at, if_neg (by omega)]
    · rw [if_neg (fun z => c0 z.1), if_neg c0, sP_at, if_neg (fun z => c0 z.1)]
      show (sP M 1 u (M.2.1 0 0)).2.1 c k = _
      rw [sP_at]
  have I : (sP (sP (sI (sP M 1 u (M.2.1 0 0)) 0 5 (nI (u + 1))) 0 0 (M.2.1 0 1)) 0 1 (M.2.1 1 u)).1 = (sI M 0 5 (nI (u + 1))).1 := rfl
  have I2 : (sP (sP (sI (sP M 1 u (M.2.1 0 0)) 0 5 (nI (u + 1))) 0 0 (M.2.1 0 1)) 0 1 (M.2.1 1 u)).2.2 = M.2.2 := rfl
  generalize sP (sP (sI (sP M 1 u (M.2.1 0 0)) 0 5 (nI (u + 1))) 0 0 (M.2.1 0 1)) 0 1 (M.2.1 1 u) = M' at P I I2 ⊢
  have hp : ∀ i, i < 11 → gP M' i = gP M (sgm u i) := fun i hi => by
    unfold gP sgm
    rw [P, P]
    (repeat' split) <;> first | rfl | (exfalso; omega) | exact congrArg (M.2.1 1) (by omega) | exact congrArg (M.2.1 0) (by omega)
  have hm : ∀ c, 22 ≤ c → M'.1 c = M.1 c ∧ M'.2.1 c = M.2.1 c := fun c hc => ⟨by rw [I, sI_c (by omega)], funext fun k => by rw [P, if_neg (by omega), if_neg (by omega)]⟩
  obtain ⟨p1, p2, p3⟩ := gC_perm g (M' := M') (sgm u) (fun i hi => by unfold sgm; (repeat' split) <;> omega) (fun i j hi hj z => by
    unfold sgm at z
    revert z
    (repeat' split) <;> omega) hp hm
  refine ⟨M', rfl, ⟨p1, p2, ?_, fun i hi => ?_, fun h => ?_, ?_, hu, ?_, g.2.2.2.2.2.2.2.2⟩, fun c h1 h2 => ⟨by rw [I, sI_c (by omega)], funext fun k => by rw [P, if_neg (by omega), if_neg (by omega)]⟩, I2, fun k _ h => by rw [I, sI_k h]⟩
  · exact p3 0 t (by decide) r
  · by_cases e : i = u
    · subst e
      rw [va_up_self]
      refine p3 (3 + i) s (by omega) ?_
      have : sgm i (3 + i) = 0 := by unfold sgm; (repeat' split) <;> omega
      rw [this]
      exact g.2.2.1
    · rw [va_up_ne _ _ e]
      refine p3 (3 + i) (H i) (by omega) ?_
      have : sgm u (3 + i) = 3 + i := by unfold sgm; (repeat' split) <;> omega
      rw [this]
      exact g.2.2.2.1 i (by omega)
  · refine p3 2 sn (by decide) ?_
    have : sgm u 2 = 2 := by unfold sgm; (repeat' split) <;> omega
    rw [this]
    exact g.2.2.2.2.1 h
  · rw [I, sI_s]
  · rw [I, sI_k (by decide)]; exact g.2.2.2.2.2.2.2.1
def sg8 (i : Nat) : Nat := if i < 3 then i else if i = 10 then 3 else i + 1
theorem c_forget2 (g : gC M s 8 H sf sn) {t : hS} (r : cR (M.2.1 0 1) M t) : ∃ M', f_X6_forgetOldestChange M = some M' ∧ gC M' s 7 (fun i => H (i + 1)) sf sn ∧ gK M M' ∧ cR (M'.2.1 0 1) M' t := by
  obtain ⟨M', h1, h2, h3, h4, h5⟩ := c_forget g
  have hp : ∀ i, i < 11 → gP M' i = gP M (sg8 i) := fun i hi => by
    unfold gP sg8
    by_cases i3 : i < 3
    · rw [if_pos i3, if_pos i3, h2 0 (by decide), if_pos i3]
    · rw [if_neg i3, if_neg i3, h3 (i - 3) (by omega)]
      by_cases i10 : i = 10
      · subst i10; rfl
      · rw [if_neg (by omega), if_neg i10, if_neg (by omega), show i + 1 - 3 = i - 3 + 1 by omega]
  have hm : ∀ c, 22 ≤ c → M'.1 c = M.1 c ∧ M'.2.1 c = M.2.1 c := fun c hc => ⟨by rw [h4, sI_c (by omega)], h2 c (by omega)⟩
  obtain ⟨p1, p2, p3⟩ := gC_perm g (M' := M') sg8 (fun i hi => by unfold sg8; (repeat' split) <;> omega) (fun i j hi hj z => by
    unfold sg8 at z
    revert z
    (repeat' split) <;> omega) hp hm
  refine ⟨M', h1, ⟨p1, p2, p3 0 s (by decide) g.2.2.1, fun i hi => ?_, fun h => p3 2 sn (by decide) (g.2.2.2.2.1 h), ?_, by decide, ?_, g.2.2.2.2.2.2.2.2⟩, ⟨fun c h1 h2' => ⟨by rw [h4, sI_c (by omega)], h2 c (by omega)⟩, h5, fun k _ h => by rw [h4, sI_k h]⟩, p3 1 t (by decide) r⟩
  · refine p3 (3 + i) _ (by omega) ?_
    have : sg8 (3 + i) = 3 + (i + 1) := by unfold sg8; (repeat' split) <;> omega
    rw [this]
    exact g.2.2.2.1 (i + 1) (by omega)
  · rw [h4, sI_s]
  · rw [h4, sI_k (by decide)]; exact g.2.2.2.2.2.2.2.1
/-- the refusal's exception -/
def exN (c : Int32) : String := if c = -5 then "java/util/NoSuchElementException" else if c = -4 then "java/lang/UnsupportedOperationException" else if c = -3 then "java/lang/IllegalStateException" else if c = -2 then "java/lang/IllegalArgumentException" else "java/lang/IndexOutOfBoundsException"
theorem c_commitN {c : Int32} (h : c = -1 ∨ c = -2 ∨ c = -3 ∨ c = -4 ∨ c = -5) : f_X6_commit c M = some (.inr (exN c), M) := by
  unfold f_X6_commit f_X6_throwIfRefused
  rcases h with rfl | rfl | rfl | rfl | rfl <;> rfl
theorem nI_neg {v : Nat} (hv : v < 2 ^ 31) : nI v ≠ -5 ∧ nI v ≠ -4 ∧ nI v ≠ -3 ∧ nI v ≠ -2 ∧ nI v ≠ -1 := by
  have h : ∀ c : Int32, c.toInt < 0 → nI v ≠ c := fun c hc e => by
    have := nI_toInt hv
    rw [e] at this
    omega
  exact ⟨h _ (by decide), h _ (by decide), h _ (by decide), h _ (by decide), h _ (by decide)⟩
theorem c_commitY (g : gC M s u H sf sn) {t : hS} (r : cR (M.2.1 0 1) M t) {v : Nat} (hv : v < 2 ^ 31) : ∃ M', f_X6_commit (nI v) M = some (.inl (nI v), M') ∧ gC M' t (uPush u) (hPush u H s) sf sn ∧ gK M M' := by
  obtain ⟨n1, n2, n3, n4, n5⟩ := nI_neg hv
  unfold f_X6_commit f_X6_throwIfRefused
  rw [if_neg n1, if_neg n2, if_neg n3, if_neg n4, if_neg n5, Option.bind_some]
  show ∃ M', (if M.1 0 5 = 8 then _ else w_tail (nI v) M) = _ ∧ _
  have h8 := g.2.2.2.2.2.2.1
  have e5 := g.2.2.2.2.2.1
  by_cases e : u = 8
  · subst e
    rw [if_pos (by rw [e5]; rfl)]
    obtain ⟨M1, h1, h2, h3, h4⟩ := c_forget2 g r
    rw [h1, Option.bind_some]
    obtain ⟨M2, k1, k2, k3⟩ := c_tail h2 (by decide) h4 (nI v)
    refine ⟨M2, k1, ?_, h3.tr k3⟩
    have : va_up (fun i => H (i + 1)) 7 s = hPush 8 H s := funext fun i => by
      unfold hPush
      rw [if_pos rfl]
      rfl
    rw [this] at k2
    exact k2
  · rw [if_neg (by rw [e5, show (8 : Int32) = nI 8 from rfl, nI_eq (by omega) (by decide)]; exact e)]
    obtain ⟨M2, k1, k2, k3⟩ := c_tail g (by omega) r (nI v)
    refine ⟨M2, k1, ?_, k3⟩
    unfold uPush hPush
    rw [if_neg e, if_neg e]
    exact k2
/-- a change tried in the trial hall -/
def w_body (OP : Nat → xM → Option (Int32 × xM)) (M : xM) : Option ((Int32 ⊕ String) × xM) := if xkd (M.2.1 0 1) = 5 then if xkd (M.2.1 0 0) = 5 then (f_X3_copyFrom (M.2.1 0 1) (M.2.1 0 0) M).bind fun q3 => if xkd (q3.2.1 0 1) = 5 then (OP (q3.2.1 0 1) q3).bind fun q6 => (f_X6_commit q6.1 q6.2).bind fun q8 => x_case q8.1 (fun r10 => (fun (M12 : xM) => some (.inl r10, M12)) q8.2) (fun E11 => (fun (M12 : xM) => some (.inr E11, M12)) q8.2) else none else none else none
theorem w_copy (g : gC M s u H sf sn) : ∃ M', f_X3_copyFrom (M.2.1 0 1) (M.2.1 0 0) M = some M' ∧ gC M' s u H sf sn ∧ cR (M.2.1 0 1) M' s ∧ cF (M.2.1 0 1) M M' ∧ M'.2.1 0 = M.2.1 0 := by
  obtain ⟨M', h1, h2, h3⟩ := c_copy g.r (h := M.2.1 0 1) (fun e => by have := g.2.1 1 0 (by decide) (by decide) e; cases this) (g.1 1 (by decide))
  have ge : 22 ≤ M.2.1 0 1 := g.ge (i := 1) (by decide)
  exact ⟨M', h1, gC_trial g h3 h2.1, h2, h3, (h3.1 0 (by omega)).2⟩
theorem w_change {OP : Nat → xM → Option (Int32 × xM)} {o : Nat × Nat × hS} {l : List Int32} (g : gC M s u H sf sn) (hop : ∀ h X, cR h X s → ∃ X', OP h X = some (oc l o, X') ∧ cR h X' o.2.2 ∧ cF h X X') (hv : o.2.1 < 2 ^ 31) (hl : ∀ i, i < l.length → l.getD i 0 = -1 ∨ l.getD i 0 = -2 ∨ l.getD i 0 = -3 ∨ l.getD i 0 = -4 ∨ l.getD i 0 = -5) (ho : o.1 ≤ l.length) :
    ∃ M', w_body OP M = some (if o.1 = 0 then .inl (nI o.2.1) else .inr (exN (oc l o)), M') ∧ gK M M' ∧ (o.1 = 0 → gC M' o.2.2 (uPush u) (hPush u H s) sf sn) ∧ (o.1 ≠ 0 → gC M' s u H sf sn) := by
  have ge : 22 ≤ M.2.1 0 1 := g.ge (i := 1) (by decide)
  obtain ⟨M1, h1, g1, r1, f1, p1⟩ := w_copy g
  obtain ⟨M2, h2, r2, f2⟩ := hop _ _ r1
  unfold w_body
  have k1 : xkd (M1.2.1 0 1) = 5 := g1.k1
  rw [if_pos g.k1, if_pos g.k0, h1, Option.bind_some, if_pos k1, p1, h2, Option.bind_some]
  have e1 : M1.2.1 0 1 = M.2.1 0 1 := by rw [p1]
  have g2 : gC M2 s u H sf sn := gC_trial g1 (by rw [e1]; exact f2) (by rw [e1]; exact r2.1)
  have kk : gK M M2 := (gK_F ge f1).tr (gK_F ge f2)
  by_cases z : o.1 = 0
  · rw [if_pos z]
    have eo : oc l o = nI o.2.1 := if_pos z
    have e2 : M2.2.1 0 1 = M.2.1 0 1 := by rw [(f2.1 0 (by omega)).2, p1]
    obtain ⟨M3, h3, g3, k3⟩ := c_commitY g2 (t := o.2.2) (by rw [e2]; exact r2) hv
    rw [eo, h3]
    exact ⟨M3, rfl, kk.tr k3, fun _ => g3, fun h => absurd z h⟩
  · rw [if_neg z]
    have eo : oc l o = l.getD (o.1 - 1) 0 := if_neg z
    have := hl (o.1 - 1) (by omega)
    rw [← eo] at this
    rw [c_commitN this]
    exact ⟨M2, rfl, kk, fun h => absurd h z, fun _ => g2⟩
end GW
