/-! pure: small things -/
theorem pi_in {n N : Nat} (h : n < N) (hN : N < 2 ^ 31) : x_in (nI n) N = true := decide_eq_true (nI_in h hN)
theorem pi_in12 {n : Nat} (h : n < 12) : x_in (nI n) 12 = true := pi_in h (by decide)
theorem pi_in3 {n : Nat} (h : n < 3) : x_in (nI n) 3 = true := pi_in h (by decide)
theorem pi_in6 {n : Nat} (h : n < 6) : x_in (nI n) 6 = true := pi_in h (by decide)
theorem pi_in159 {n : Nat} (h : n < 159) : x_in (nI n) 159 = true := pi_in h (by decide)
theorem pi_cl {n : Nat} (h : n < 2 ^ 31) : (nI n).toNatClampNeg = n := nI_clamp h
theorem pi_cl0 : (0 : Int32).toNatClampNeg = 0 := rfl
theorem pi_le {a b : Nat} (ha : a < 2 ^ 31) (hb : b < 2 ^ 31) : (nI a ≤ nI b) = (a ≤ b) := propext (nI_leI ha hb)
theorem pi_lt {a b : Nat} (ha : a < 2 ^ 31) (hb : b < 2 ^ 31) : (nI a < nI b) = (a < b) := propext (nI_ltI ha hb)
theorem pi_eq {a b : Nat} (ha : a < 2 ^ 31) (hb : b < 2 ^ 31) : (nI a = nI b) = (a = b) := propext (nI_eq ha hb)
theorem pi_ne1 {a : Nat} (ha : a < 2 ^ 31) : ¬ nI a = (-1 : Int32) := fun h => by
  have h1 := congrArg Int32.toInt h
  rw [nI_toInt ha] at h1
  have : (-1 : Int32).toInt = -1 := by decide
  rw [this] at h1
  omega
theorem pi_sub1 {a : Nat} (h : 0 < a) : nI a - (1 : Int32) = nI (a - 1) := by
  obtain ⟨b, rfl⟩ : ∃ b, a = b + 1 := ⟨a - 1, by omega⟩
  exact nI_pred b
theorem pi_add1 (a : Nat) : nI a + (1 : Int32) = nI (a + 1) := nI_1 a
theorem pi_m1 {a : Nat} (h : 0 < a) : nI a + (-1) = nI (a - 1) := by
  obtain ⟨b, rfl⟩ : ∃ b, a = b + 1 := ⟨a - 1, by omega⟩
  exact pk_m1 b
theorem pi_0 : (0 : Int32) = nI 0 := rfl
theorem pi_1 : (1 : Int32) = nI 1 := rfl
theorem pi_2 : (2 : Int32) = nI 2 := rfl
theorem pi_3 : (3 : Int32) = nI 3 := rfl
theorem pi_4 : (4 : Int32) = nI 4 := rfl
theorem pi_5 : (5 : Int32) = nI 5 := rfl
theorem pi_6 : (6 : Int32) = nI 6 := rfl
theorem pi_9 : (9 : Int32) = nI 9 := rfl
theorem pi_12 : (12 : Int32) = nI 12 := rfl
theorem pi_30 : (30 : Int32) = nI 30 := rfl
theorem pi_99 : (99 : Int32) = nI 99 := rfl
/-- a place or none, one up -/
def eI (x : Nat) : Int32 := if x = 0 then -1 else nI (x - 1)
theorem eI_0 : eI 0 = -1 := rfl
theorem eI_s (x : Nat) : eI (x + 1) = nI x := rfl
theorem eI_eq {x c : Nat} (hx : x < 2 ^ 31) (hc : c < 2 ^ 31) : (eI x = nI c) = (x = c + 1) := by
  unfold eI
  apply propext
  by_cases h : x = 0
  · rw [if_pos h]
    exact ⟨fun e => absurd e.symm (pi_ne1 hc), fun e => by omega⟩
  · rw [if_neg h, pi_eq (by omega) hc]
    omega
theorem eI_n {x : Nat} (hx : x < 2 ^ 31) : (eI x = (-1 : Int32)) = (x = 0) := by
  unfold eI
  apply propext
  by_cases h : x = 0
  · rw [if_pos h]
    exact ⟨fun _ => h, fun _ => rfl⟩
  · rw [if_neg h]
    exact ⟨fun e => absurd e (pi_ne1 (by omega)), fun e => absurd e h⟩
/-- the first place from k on, r places far, with p -/
def pf (p : Nat → Bool) : Nat → Nat → Option Nat
  | _, 0 => none
  | k, r + 1 => if p k then some k else pf p (k + 1) r
theorem pf_some {p : Nat → Bool} : ∀ {r k j : Nat}, pf p k r = some j → k ≤ j ∧ j < k + r ∧ p j = true ∧ ∀ i, k ≤ i → i < j → p i = false
  | 0, _, _, h => by cases h
  | r + 1, k, j, h => by
    unfold pf at h
    by_cases hk : p k = true
    · rw [if_pos hk] at h
      cases h
      exact ⟨Nat.le_refl _, by omega, hk, fun i h1 h2 => by omega⟩
    · rw [if_neg hk] at h
      obtain ⟨h1, h2, h3, h4⟩ := pf_some h
      refine ⟨by omega, by omega, h3, fun i h5 h6 => ?_⟩
      by_cases e : i = k
      · rw [e]; exact Bool.not_eq_true _ ▸ hk
      · exact h4 i (by omega) h6
theorem pf_none {p : Nat → Bool} : ∀ {r k : Nat}, pf p k r = none → ∀ i, k ≤ i → i < k + r → p i = false
  | 0, _, _, i, h1, h2 => by omega
  | r + 1, k, h, i, h1, h2 => by
    unfold pf at h
    by_cases hk : p k = true
    · rw [if_pos hk] at h
      cases h
    · rw [if_neg hk] at h
      by_cases e : i = k
      · rw [e]; exact Bool.not_eq_true _ ▸ hk
      · exact pf_none h i (by omega) (by omega)
theorem pf_is {p : Nat → Bool} {r k j : Nat} (h1 : k ≤ j) (h2 : j < k + r) (h3 : p j = true) (h4 : ∀ i, k ≤ i → i < j → p i = false) : pf p k r = some j := by
  cases h : pf p k r with
  | none => rw [pf_none h j h1 h2] at h3; cases h3
  | some j' =>
    obtain ⟨g1, g2, g3, g4⟩ := pf_some h
    rcases Nat.lt_trichotomy j j' with e | e | e
    · rw [g4 j h1 e] at h3; cases h3
    · rw [e]
    · rw [h4 j' g1 e] at g3; cases g3
theorem pf_no {p : Nat → Bool} {r k : Nat} (h : ∀ i, k ≤ i → i < k + r → p i = false) : pf p k r = none := by
  cases e : pf p k r with
  | none => rfl
  | some j =>
    obtain ⟨g1, g2, g3, -⟩ := pf_some e
    rw [h j g1 g2] at g3
    cases g3
theorem pf_cong {p q : Nat → Bool} : ∀ {r k : Nat}, (∀ i, k ≤ i → i < k + r → p i = q i) → pf p k r = pf q k r
  | 0, _, _ => rfl
  | r + 1, k, h => by
    unfold pf
    rw [h k (Nat.le_refl _) (by omega), pf_cong (fun i h1 h2 => h i (by omega) (by omega))]
/-- none is -1 -/
def oI : Option Nat → Int32
  | none => -1
  | some j => nI j
/-- how many from k on, r places far, with p -/
def pc (p : Nat → Bool) : Nat → Nat → Nat
  | _, 0 => 0
  | k, r + 1 => (if p k then 1 else 0) + pc p (k + 1) r
theorem pc_le (p : Nat → Bool) : ∀ (r k : Nat), pc p k r ≤ r
  | 0, _ => Nat.le_refl _
  | r + 1, k => by
    unfold pc
    have := pc_le p r (k + 1)
    split <;> omega
theorem pc_cong {p q : Nat → Bool} : ∀ {r k : Nat}, (∀ i, k ≤ i → i < k + r → p i = q i) → pc p k r = pc q k r
  | 0, _, _ => rfl
  | r + 1, k, h => by
    unfold pc
    rw [h k (Nat.le_refl _) (by omega), pc_cong (fun i h1 h2 => h i (by omega) (by omega))]
/-- stores read back -/
theorem sI_c {M : xM} {c k : Nat} {v : Int32} {c' : Nat} (h : c' ≠ c) : (sI M c k v).1 c' = M.1 c' := if_neg h
theorem sI_k {M : xM} {c k : Nat} {v : Int32} {k' : Nat} (h : k' ≠ k) : (sI M c k v).1 c k' = M.1 c k' := by
  show va_up M.1 c (upd (M.1 c) k v) c k' = M.1 c k'
  rw [va_up_self]
  exact pk_un h
theorem sI_s {M : xM} {c k : Nat} {v : Int32} : (sI M c k v).1 c k = v := by
  show va_up M.1 c (upd (M.1 c) k v) c k = v
  rw [va_up_self]
  exact pk_us
theorem sI_at {M : xM} {c k : Nat} {v : Int32} {c' k' : Nat} : (sI M c k v).1 c' k' = if c' = c ∧ k' = k then v else M.1 c' k' := by
  by_cases h : c' = c
  · subst h
    by_cases h2 : k' = k
    · subst h2
      rw [sI_s, if_pos ⟨rfl, rfl⟩]
    · rw [sI_k h2, if_neg (fun z => h2 z.2)]
  · rw [sI_c h, if_neg (fun z => h z.1)]
theorem sI_2 {M : xM} {c k : Nat} {v : Int32} : (sI M c k v).2 = M.2 := rfl
theorem sP_1 {M : xM} {c k v : Nat} : (sP M c k v).1 = M.1 := rfl
theorem sP_3 {M : xM} {c k v : Nat} : (sP M c k v).2.2 = M.2.2 := rfl
theorem sP_at {M : xM} {c k v : Nat} {c' k' : Nat} : (sP M c k v).2.1 c' k' = if c' = c ∧ k' = k then v else M.2.1 c' k' := by
  show va_up M.2.1 c (va_up (M.2.1 c) k v) c' k' = _
  by_cases h : c' = c
  · subst h
    rw [va_up_self]
    by_cases h2 : k' = k
    · subst h2
      rw [va_up_self, if_pos ⟨rfl, rfl⟩]
    · rw [va_up_ne _ _ h2, if_neg (fun z => h2 z.2)]
  · rw [va_up_ne _ _ h, if_neg (fun z => h z.1)]
theorem sP_c {M : xM} {c k v : Nat} {c' : Nat} (h : c' ≠ c) : (sP M c k v).2.1 c' = M.2.1 c' := va_up_ne _ _ h
