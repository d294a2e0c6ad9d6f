/-! pure: a hall of the class in numbers -/
/-- scalars (0 customers, 1 minute, 2 came, 3 served, 4 removed, 5 walked out, 6 sighs, 7 in the queue, 8 calm), queue, windows (0 open, 1 pace, 2 who, one up, 3 needs), customers (0 ticket, 1 patience, 2 sighs, 3 ache, 4 waited, 5 called, 6 sits), served (0 ticket, 1 waited) -/
abbrev hS : Type := (Nat → Nat) × (Nat → Nat) × (Nat → Nat → Nat) × (Nat → Nat → Nat) × (Nat → Nat → Nat)
abbrev hQ (s : hS) : Nat → Nat := s.2.1
abbrev hW (s : hS) : Nat → Nat → Nat := s.2.2.1
abbrev hC (s : hS) : Nat → Nat → Nat := s.2.2.2.1
abbrev hL (s : hS) : Nat → Nat → Nat := s.2.2.2.2
def up2 (f : Nat → Nat → Nat) (a b v : Nat) : Nat → Nat → Nat := fun i j => if i = a ∧ j = b then v else f i j
def u0 (s : hS) (k v : Nat) : hS := (va_up s.1 k v, s.2)
def uQ (s : hS) (k v : Nat) : hS := (s.1, va_up s.2.1 k v, s.2.2)
def uW (s : hS) (w f v : Nat) : hS := (s.1, s.2.1, up2 s.2.2.1 w f v, s.2.2.2)
def uC (s : hS) (i f v : Nat) : hS := (s.1, s.2.1, s.2.2.1, up2 s.2.2.2.1 i f v, s.2.2.2.2)
def uL (s : hS) (r f v : Nat) : hS := (s.1, s.2.1, s.2.2.1, s.2.2.2.1, up2 s.2.2.2.2 r f v)
def hix (j : Nat) : Nat := [1, 7, 8, 9, 12, 11, 13, 3, 10].getD j 0
theorem hix_inj {a b : Nat} (ha : a < 9) (hb : b < 9) (h : hix a = hix b) : a = b := by
  have : ∀ a, a < 9 → ∀ b, b < 9 → hix a = hix b → a = b := by decide
  exact this a ha b hb h
theorem pk_c {h d : Nat} (kh : xkd h = 5) (hd : d < 12) : xkd (h + 6 + d) = 4 := by
  have e : ∀ d, d < 12 → xk21.getD (6 + d) 0 = 4 := by decide
  rw [Nat.add_assoc, x5_pt kh (by omega)]
  exact e d hd
theorem pk_w {h w : Nat} (kh : xkd h = 5) (hw : w < 3) : xkd (h + 3 + 15 + w) = 7 := by
  have e : ∀ d, d < 3 → xk21.getD (3 + 15 + d) 0 = 7 := by decide
  rw [Nat.add_assoc, Nat.add_assoc, show 3 + (15 + w) = 3 + 15 + w from (Nat.add_assoc 3 15 w).symm, x5_pt kh (by omega)]
  exact e w hw
/-- the hall at code h holds s -/
def cV (h : Nat) (M : xM) : Prop := xkd h = 5 ∧ (∀ i, i < 12 → ∃ d, d < 12 ∧ M.2.1 (h + 1) i = h + 6 + d) ∧ (∀ i j, i < 12 → j < 12 → M.2.1 (h + 1) i = M.2.1 (h + 1) j → i = j)
def cN (h : Nat) (M : xM) (s : hS) : Prop :=
  (∀ j, j < 9 → M.1 h (hix j) = nI (s.1 j)) ∧ (∀ k, k < 12 → M.1 (h + 2) k = nI (hQ s k)) ∧
  (∀ w, w < 3 → M.1 (h + 3 + 15 + w) 0 = nI (hW s w 0) ∧ M.1 (h + 3 + 15 + w) 1 = nI (hW s w 1) ∧ M.1 (h + 3 + 15 + w) 2 = eI (hW s w 2) ∧ M.1 (h + 3 + 15 + w) 3 = nI (hW s w 3)) ∧
  (∀ i, i < 12 → ∀ f, f < 7 → M.1 (M.2.1 (h + 1) i) f = nI (hC s i f)) ∧ (∀ r, r < 6 → M.1 (h + 4) r = nI (hL s r 0) ∧ M.1 (h + 5) r = nI (hL s r 1)) ∧
  (∀ i, i < 12 → hC s i 5 ≤ 1 ∧ hC s i 6 ≤ 1)
def cR (h : Nat) (M : xM) (s : hS) : Prop := cV h M ∧ cN h M s
/-- nothing but the hall at h has changed -/
def cF (h : Nat) (M M' : xM) : Prop := (∀ c, (c < h ∨ h + 21 ≤ c) → M'.1 c = M.1 c ∧ M'.2.1 c = M.2.1 c) ∧ M'.2.2 = M.2.2
theorem cF.rf {h : Nat} {M : xM} : cF h M M := ⟨fun _ _ => ⟨rfl, rfl⟩, rfl⟩
theorem cF.tr {h : Nat} {M M' M'' : xM} (a : cF h M M') (b : cF h M' M'') : cF h M M'' := ⟨fun c hc => ⟨(b.1 c hc).1.trans (a.1 c hc).1, (b.1 c hc).2.trans (a.1 c hc).2⟩, b.2.trans a.2⟩
theorem cF_I {h c k : Nat} {M : xM} {v : Int32} (h1 : h ≤ c) (h2 : c < h + 21) : cF h M (sI M c k v) := ⟨fun c' hc => ⟨sI_c (by omega), rfl⟩, rfl⟩
theorem cF_P {h k v : Nat} {M : xM} : cF h M (sP M (h + 1) k v) := ⟨fun c' hc => ⟨rfl, sP_c (by omega)⟩, rfl⟩
section CU
variable {h : Nat} {M : xM} {s : hS}
theorem cR.kd (r : cR h M s) : xkd h = 5 := r.1.1
theorem cR.cc (r : cR h M s) {i : Nat} (hi : i < 12) : ∃ d, d < 12 ∧ M.2.1 (h + 1) i = h + 6 + d := r.1.2.1 i hi
theorem cR.ck (r : cR h M s) {i : Nat} (hi : i < 12) : xkd (M.2.1 (h + 1) i) = 4 := by
  obtain ⟨d, hd, e⟩ := r.cc hi
  rw [e]
  exact pk_c r.kd hd
theorem cR.wk (r : cR h M s) {w : Nat} (hw : w < 3) : xkd (h + 3 + 15 + w) = 7 := pk_w r.kd hw
theorem cR.n (r : cR h M s) : M.1 h 1 = nI (s.1 0) := r.2.1 0 (by decide)
theorem cR.qn (r : cR h M s) : M.1 h 3 = nI (s.1 7) := r.2.1 7 (by decide)
theorem cR.sc (r : cR h M s) {j : Nat} (hj : j < 9) : M.1 h (hix j) = nI (s.1 j) := r.2.1 j hj
theorem cR.q (r : cR h M s) {k : Nat} (hk : k < 12) : M.1 (h + 2) k = nI (hQ s k) := r.2.2.1 k hk
theorem cR.w0 (r : cR h M s) {w : Nat} (hw : w < 3) : M.1 (h + 3 + 15 + w) 0 = nI (hW s w 0) := (r.2.2.2.1 w hw).1
theorem cR.w1 (r : cR h M s) {w : Nat} (hw : w < 3) : M.1 (h + 3 + 15 + w) 1 = nI (hW s w 1) := (r.2.2.2.1 w hw).2.1
theorem cR.w2 (r : cR h M s) {w : Nat} (hw : w < 3) : M.1 (h + 3 + 15 + w) 2 = eI (hW s w 2) := (r.2.2.2.1 w hw).2.2.1
theorem cR.w3 (r : cR h M s) {w : Nat} (hw : w < 3) : M.1 (h + 3 + 15 + w) 3 = nI (hW s w 3) := (r.2.2.2.1 w hw).2.2.2
theorem cR.c (r : cR h M s) {i f : Nat} (hi : i < 12) (hf : f < 7) : M.1 (M.2.1 (h + 1) i) f = nI (hC s i f) := r.2.2.2.2.1 i hi f hf
theorem cR.l0 (r : cR h M s) {k : Nat} (hk : k < 6) : M.1 (h + 4) k = nI (hL s k 0) := (r.2.2.2.2.2.1 k hk).1
theorem cR.l1 (r : cR h M s) {k : Nat} (hk : k < 6) : M.1 (h + 5) k = nI (hL s k 1) := (r.2.2.2.2.2.1 k hk).2
theorem cR.b5 (r : cR h M s) {i : Nat} (hi : i < 12) : hC s i 5 ≤ 1 := (r.2.2.2.2.2.2 i hi).1
theorem cR.b6 (r : cR h M s) {i : Nat} (hi : i < 12) : hC s i 6 ≤ 1 := (r.2.2.2.2.2.2 i hi).2
theorem cR.u0 (r : cR h M s) {j v : Nat} (hj : j < 9) : cR h (sI M h (hix j) (nI v)) (u0 s j v) := by
  refine ⟨⟨r.1.1, r.1.2.1, r.1.2.2⟩, fun j' hj' => ?_, fun k hk => ?_, fun w hw => ?_, fun i hi f hf => ?_, fun k hk => ?_, r.2.2.2.2.2.2⟩
  · rw [sI_at]
    show _ = nI (va_up s.1 j v j')
    by_cases e : j' = j
    · rw [e, if_pos ⟨rfl, rfl⟩, va_up_self]
    · rw [if_neg (fun z => e (hix_inj hj' hj z.2)), va_up_ne _ _ e]
      exact r.sc hj'
  · rw [sI_c (by omega)]; exact r.q hk
  · rw [sI_c (by omega)]; exact r.2.2.2.1 w hw
  · obtain ⟨d, hd, e⟩ := r.cc hi
    rw [sI_2, sI_c (by omega)]; exact r.c hi hf
  · rw [sI_c (by omega), sI_c (by omega)]; exact r.2.2.2.2.2.1 k hk
theorem cR.uQ (r : cR h M s) {k v : Nat} : cR h (sI M (h + 2) k (nI v)) (uQ s k v) := by
  refine ⟨⟨r.1.1, r.1.2.1, r.1.2.2⟩, fun j' hj' => ?_, fun k' hk => ?_, fun w hw => ?_, fun i hi f hf => ?_, fun k hk => ?_, r.2.2.2.2.2.2⟩
  · rw [sI_c (by omega)]; exact r.sc hj'
  · rw [sI_at]
    show _ = nI (va_up s.2.1 k v k')
    by_cases e : k' = k
    · rw [e, if_pos ⟨rfl, rfl⟩, va_up_self]
    · rw [if_neg (fun z => e z.2), va_up_ne _ _ e]
      exact r.q hk
  · rw [sI_c (by omega)]; exact r.2.2.2.1 w hw
  · obtain ⟨d, hd, e⟩ := r.cc hi
    rw [sI_2, sI_c (by omega)]; exact r.c hi hf
  · rw [sI_c (by omega), sI_c (by omega)]; exact r.2.2.2.2.2.1 k hk
theorem cR.uWn (r : cR h M s) {w f v : Nat} (hw : w < 3) (hf : f ≠ 2) : cR h (sI M (h + 3 + 15 + w) f (nI v)) (uW s w f v) := by
  refine ⟨⟨r.1.1, r.1.2.1, r.1.2.2⟩, fun j' hj' => ?_, fun k' hk => ?_, fun w' hw' => ?_, fun i hi f hf => ?_, fun k hk => ?_, r.2.2.2.2.2.2⟩
  · rw [sI_c (by omega)]; exact r.sc hj'
  · rw [sI_c (by omega)]; exact r.q hk
  · obtain ⟨a0, a1, a2, a3⟩ := r.2.2.2.1 w' hw'
    rw [sI_at, sI_at, sI_at, sI_at]
    show _ = nI (up2 s.2.2.1 w f v w' 0) ∧ _ = nI (up2 s.2.2.1 w f v w' 1) ∧ _ = eI (up2 s.2.2.1 w f v w' 2) ∧ _ = nI (up2 s.2.2.1 w f v w' 3)
    unfold up2
    by_cases e : w' = w
    · subst e
      simp only [true_and]
      refine ⟨?_, ?_, ?_, ?_⟩
      · by_cases g : 0 = f
        · rw [if_pos g, if_pos g]
        · rw [if_neg g, if_neg g]; exact a0
      · by_cases g : 1 = f
        · rw [if_pos g, if_pos g]
        · rw [if_neg g, if_neg g]; exact a1
      · rw [if_neg (fun z => hf z.symm), if_neg (fun z => hf z.symm)]; exact a2
      · by_cases g : 3 = f
        · rw [if_pos g, if_pos g]
        · rw [if_neg g, if_neg g]; exact a3
    · have e1 : ∀ x : Nat, ¬ (h + 3 + 15 + w' = h + 3 + 15 + w ∧ x = f) := fun x z => e (by omega)
      have e2 : ∀ x : Nat, ¬ (w' = w ∧ x = f) := fun x z => e z.1
      rw [if_neg (e1 0), if_neg (e1 1), if_neg (e1 2), if_neg (e1 3), if_neg (e2 0), if_neg (e2 1), if_neg (e2 2), if_neg (e2 3)]
      exact ⟨a0, a1, a2, a3⟩
  · obtain ⟨d, hd, e⟩ := r.cc hi
    rw [sI_2, sI_c (by omega)]; exact r.c hi hf
  · rw [sI_c (by omega), sI_c (by omega)]; exact r.2.2.2.2.2.1 k hk
theorem cR.uWe (r : cR h M s) {w v : Nat} (hw : w < 3) : cR h (sI M (h + 3 + 15 + w) 2 (eI v)) (uW s w 2 v) := by
  refine ⟨⟨r.1.1, r.1.2.1, r.1.2.2⟩, fun j' hj' => ?_, fun k' hk => ?_, fun w' hw' => ?_, fun i hi f hf => ?_, fun k hk => ?_, r.2.2.2.2.2.2⟩
  · rw [sI_c (by omega)]; exact r.sc hj'
  · rw [sI_c (by omega)]; exact r.q hk
  · obtain ⟨a0, a1, a2, a3⟩ := r.2.2.2.1 w' hw'
    rw [sI_at, sI_at, sI_at, sI_at]
    show _ = nI (up2 s.2.2.1 w 2 v w' 0) ∧ _ = nI (up2 s.2.2.1 w 2 v w' 1) ∧ _ = eI (up2 s.2.2.1 w 2 v w' 2) ∧ _ = nI (up2 s.2.2.1 w 2 v w' 3)
    unfold up2
    have n0 : ∀ (a : Prop), ¬ (a ∧ (0 : Nat) = 2) := fun a z => absurd z.2 (by decide)
    have n1 : ∀ (a : Prop), ¬ (a ∧ (1 : Nat) = 2) := fun a z => absurd z.2 (by decide)
    have n3 : ∀ (a : Prop), ¬ (a ∧ (3 : Nat) = 2) := fun a z => absurd z.2 (by decide)
    rw [if_neg (n0 _), if_neg (n1 _), if_neg (n3 _), if_neg (n0 _), if_neg (n1 _), if_neg (n3 _)]
    refine ⟨a0, a1, ?_, a3⟩
    by_cases e : w' = w
    · rw [if_pos ⟨by rw [e], rfl⟩, if_pos ⟨e, rfl⟩]
    · rw [if_neg (fun z => e (by omega)), if_neg (fun z => e z.1)]
      exact a2
  · obtain ⟨d, hd, e⟩ := r.cc hi
    rw [sI_2, sI_c (by omega)]; exact r.c hi hf
  · rw [sI_c (by omega), sI_c (by omega)]; exact r.2.2.2.2.2.1 k hk
theorem cR.uC (r : cR h M s) {i f v : Nat} (hi : i < 12) (hb : f = 5 ∨ f = 6 → v ≤ 1) : cR h (sI M (M.2.1 (h + 1) i) f (nI v)) (uC s i f v) := by
  obtain ⟨d, hd, e⟩ := r.cc hi
  refine ⟨⟨r.1.1, r.1.2.1, r.1.2.2⟩, fun j' hj' => ?_, fun k' hk => ?_, fun w' hw' => ?_, fun i' hi' f' hf' => ?_, fun k hk => ?_, fun i' hi' => ?_⟩
  · rw [sI_c (by omega)]; exact r.sc hj'
  · rw [sI_c (by omega)]; exact r.q hk
  · rw [sI_c (by omega)]; exact r.2.2.2.1 w' hw'
  · rw [sI_2, sI_at]
    show _ = nI (up2 s.2.2.2.1 i f v i' f')
    unfold up2
    by_cases g : i' = i ∧ f' = f
    · rw [if_pos ⟨by rw [g.1], g.2⟩, if_pos g]
    · rw [if_neg (fun z => g ⟨r.1.2.2 i' i hi' hi z.1, z.2⟩), if_neg g]
      exact r.c hi' hf'
  · rw [sI_c (by omega), sI_c (by omega)]; exact r.2.2.2.2.2.1 k hk
  · show up2 s.2.2.2.1 i f v i' 5 ≤ 1 ∧ up2 s.2.2.2.1 i f v i' 6 ≤ 1
    unfold up2
    refine ⟨?_, ?_⟩
    · by_cases g : i' = i ∧ 5 = f
      · rw [if_pos g]; exact hb (.inl g.2.symm)
      · rw [if_neg g]; exact r.b5 hi'
    · by_cases g : i' = i ∧ 6 = f
      · rw [if_pos g]; exact hb (.inr g.2.symm)
      · rw [if_neg g]; exact r.b6 hi'
theorem cR.uL0 (r : cR h M s) {k v : Nat} : cR h (sI M (h + 4) k (nI v)) (uL s k 0 v) := by
  refine ⟨⟨r.1.1, r.1.2.1, r.1.2.2⟩, fun j' hj' => ?_, fun k' hk => ?_, fun w' hw' => ?_, fun i hi f hf => ?_, fun k' hk => ?_, r.2.2.2.2.2.2⟩
  · rw [sI_c (by omega)]; exact r.sc hj'
  · rw [sI_c (by omega)]; exact r.q hk
  · rw [sI_c (by omega)]; exact r.2.2.2.1 w' hw'
  · obtain ⟨d, hd, e⟩ := r.cc hi
    rw [sI_2, sI_c (by omega)]; exact r.c hi hf
  · rw [sI_at, sI_c (by omega)]
    show _ = nI (up2 s.2.2.2.2 k 0 v k' 0) ∧ _ = nI (up2 s.2.2.2.2 k 0 v k' 1)
    unfold up2
    rw [if_neg (show ¬ (k' = k ∧ 1 = 0) from fun z => absurd z.2 (by decide))]
    refine ⟨?_, r.l1 hk⟩
    by_cases e : k' = k
    · rw [if_pos ⟨rfl, e⟩, if_pos ⟨e, rfl⟩]
    · rw [if_neg (fun z => e z.2), if_neg (fun z => e z.1)]; exact r.l0 hk
theorem cR.uL1 (r : cR h M s) {k v : Nat} : cR h (sI M (h + 5) k (nI v)) (uL s k 1 v) := by
  refine ⟨⟨r.1.1, r.1.2.1, r.1.2.2⟩, fun j' hj' => ?_, fun k' hk => ?_, fun w' hw' => ?_, fun i hi f hf => ?_, fun k' hk => ?_, r.2.2.2.2.2.2⟩
  · rw [sI_c (by omega)]; exact r.sc hj'
  · rw [sI_c (by omega)]; exact r.q hk
  · rw [sI_c (by omega)]; exact r.2.2.2.1 w' hw'
  · obtain ⟨d, hd, e⟩ := r.cc hi
    rw [sI_2, sI_c (by omega)]; exact r.c hi hf
  · rw [sI_c (c' := h + 4) (by omega), sI_at]
    show _ = nI (up2 s.2.2.2.2 k 1 v k' 0) ∧ _ = nI (up2 s.2.2.2.2 k 1 v k' 1)
    unfold up2
    rw [if_neg (show ¬ (k' = k ∧ 0 = 1) from fun z => absurd z.2 (by decide))]
    refine ⟨r.l0 hk, ?_⟩
    by_cases e : k' = k
    · rw [if_pos ⟨rfl, e⟩, if_pos ⟨e, rfl⟩]
    · rw [if_neg (fun z => e z.2), if_neg (fun z => e z.1)]; exact r.l1 hk
end CU
