/-! pure: inversions, two ways -/
/-- inversions among T a, T (a+1), .., m of them, by the one in front -/
def ivL (T : Nat → Nat) : Nat → Nat → Nat
  | 0, _ => 0
  | m + 1, a => pc (fun b => decide (T b < T a)) (a + 1) m + ivL T m (a + 1)
/-- inversions among the first e, by the one behind -/
def iv2 (T : Nat → Nat) : Nat → Nat
  | 0 => 0
  | e + 1 => iv2 T e + pc (fun a => decide (T e < T a)) 0 e
theorem ivL_end (T : Nat → Nat) : ∀ (m a : Nat), ivL T (m + 1) a = ivL T m a + pc (fun x => decide (T (a + m) < T x)) a m
  | 0, a => rfl
  | m + 1, a => by
    show pc (fun b => decide (T b < T a)) (a + 1) (m + 1) + ivL T (m + 1) (a + 1) = pc (fun b => decide (T b < T a)) (a + 1) m + ivL T m (a + 1) + ((if decide (T (a + (m + 1)) < T a) = true then 1 else 0) + pc (fun x => decide (T (a + (m + 1)) < T x)) (a + 1) m)
    rw [ivL_end T m (a + 1), pc_end, show a + 1 + m = a + (m + 1) by omega]
    omega
theorem iv_same (T : Nat → Nat) : ∀ e, ivL T e 0 = iv2 T e
  | 0 => rfl
  | e + 1 => by
    rw [ivL_end, iv_same T e, Nat.zero_add]
    rfl
theorem iv2_cong {T S : Nat → Nat} : ∀ e, (∀ i, i < e → T i = S i) → iv2 T e = iv2 S e
  | 0, _ => rfl
  | e + 1, h => by
    show iv2 T e + pc (fun a => decide (T e < T a)) 0 e = iv2 S e + pc (fun a => decide (S e < S a)) 0 e
    rw [iv2_cong e (fun i hi => h i (by omega)), pc_cong (q := fun a => decide (S e < S a)) (fun i _ hi => by rw [h e (by omega), h i (by omega)])]
theorem pc_zero {p : Nat → Bool} : ∀ (r k : Nat), (∀ i, k ≤ i → i < k + r → p i = false) → pc p k r = 0
  | 0, _, _ => rfl
  | r + 1, k, h => by
    rw [pc_s, h k (by omega) (by omega), pc_zero r (k + 1) (fun i a b => h i (by omega) (by omega))]
    rfl
/-- the state of one bubbling, i signs on -/
def bJ (T A : Nat → Nat) (i c : Nat) : Prop := (∀ j, i ≤ j → A j = T j) ∧ (∀ a, a < i - 1 → A a ≤ A (i - 1)) ∧ iv2 T i = c + iv2 A (i - 1) ∧ (∀ y, pc (fun a => decide (y < A a)) 0 i = pc (fun a => decide (y < T a)) 0 i)
theorem bJ_1 (T : Nat → Nat) : bJ T T 1 0 := ⟨fun _ _ => rfl, fun a h => by omega, rfl, fun _ => rfl⟩
theorem bJ_no {T A : Nat → Nat} {i c : Nat} (h : bJ T A i c) (hi : 1 ≤ i) (le : A (i - 1) ≤ A i) : bJ T A (i + 1) c := by
  obtain ⟨h1, h2, h3, h4⟩ := h
  have mx : ∀ a, a < i → A a ≤ A i := fun a ha => by
    by_cases e : a = i - 1
    · rw [e]; exact le
    · exact Nat.le_trans (h2 a (by omega)) le
  obtain ⟨j, rfl⟩ : ∃ j, i = j + 1 := ⟨i - 1, by omega⟩
  have ti := h1 (j + 1) (Nat.le_refl _)
  have z1 : pc (fun a => decide (T (j + 1) < T a)) 0 (j + 1) = 0 := by
    rw [← h4, ← ti]
    exact pc_zero _ _ fun a _ ha => decide_eq_false (by have := mx a (by omega); omega)
  refine ⟨fun x hx => h1 x (by omega), fun a ha => mx a (by omega), ?_, fun y => ?_⟩
  · show iv2 T (j + 1) + pc (fun a => decide (T (j + 1) < T a)) 0 (j + 1) = c + (iv2 A j + pc (fun a => decide (A j < A a)) 0 j)
    rw [z1, pc_zero (p := fun a => decide (A j < A a)) _ _ fun a _ ha => decide_eq_false (by have := h2 a (by omega); have e : j + 1 - 1 = j := rfl; rw [e] at this; omega)]
    exact h3
  · rw [pc_end (p := fun a => decide (y < A a)) (j + 1) 0, pc_end (p := fun a => decide (y < T a)) (j + 1) 0, h4 y, Nat.zero_add, ti]
theorem bJ_yes {T A : Nat → Nat} {i c : Nat} (h : bJ T A i c) (hi : 1 ≤ i) (lt : A i < A (i - 1)) : bJ T (va_up (va_up A (i - 1) (A i)) i (A (i - 1))) (i + 1) (c + 1) := by
  obtain ⟨h1, h2, h3, h4⟩ := h
  obtain ⟨j, rfl⟩ : ∃ j, i = j + 1 := ⟨i - 1, by omega⟩
  rw [show j + 1 - 1 = j from rfl] at *
  have ti := h1 (j + 1) (Nat.le_refl _)
  have B0 : ∀ x, x < j → va_up (va_up A j (A (j + 1))) (j + 1) (A j) x = A x := fun x hx => by rw [va_up_ne _ _ (by omega), va_up_ne _ _ (by omega)]
  have B1 : va_up (va_up A j (A (j + 1))) (j + 1) (A j) j = A (j + 1) := by rw [va_up_ne _ _ (by omega), va_up_self]
  have B2 : va_up (va_up A j (A (j + 1))) (j + 1) (A j) (j + 1) = A j := va_up_self _ _ _
  have B3 : ∀ x, j + 1 < x → va_up (va_up A j (A (j + 1))) (j + 1) (A j) x = A x := fun x hx => by rw [va_up_ne _ _ (by omega), va_up_ne _ _ (by omega)]
  generalize va_up (va_up A j (A (j + 1))) (j + 1) (A j) = B at B0 B1 B2 B3 ⊢
  have pe : ∀ y, pc (fun a => decide (y < B a)) 0 j = pc (fun a => decide (y < A a)) 0 j := fun y => pc_cong fun a _ ha => by rw [B0 a (by omega)]
  refine ⟨fun x hx => by rw [B3 x (by omega)]; exact h1 x (by omega), fun a ha => ?_, ?_, fun y => ?_⟩
  · rw [show j + 1 + 1 - 1 = j + 1 from rfl] at ha ⊢
    rw [B2]
    by_cases e : a = j
    · rw [e, B1]; omega
    · rw [B0 a (by omega)]; exact h2 a (by omega)
  · have e1 : iv2 B j = iv2 A j := iv2_cong _ (fun i hi => B0 i hi)
    show iv2 T (j + 1) + pc (fun a => decide (T (j + 1) < T a)) 0 (j + 1) = c + 1 + (iv2 B j + pc (fun a => decide (B j < B a)) 0 j)
    rw [e1, B1, pe, h3, ← h4, ← ti, pc_end, Nat.zero_add, if_pos (decide_eq_true lt)]
    omega
  · rw [pc_end, pc_end, pc_end, pc_end, pe y, Nat.zero_add, Nat.zero_add, B1, B2, ← ti]
    have := h4 y
    rw [pc_end, pc_end, Nat.zero_add] at this
    omega
def tkt (s : hS) (k : Nat) : Nat := hC s (hQ s k) 0
section IV
variable {M : xM} {s : hS} {u : Nat} {H : Nat → hS} {sf : Nat} {sn : hS}
theorem c_tkt (g : gC M s u H sf sn) (b : aB s) {k : Nat} (hk : k < 12) : f_X3_ticketAt (M.2.1 0 0) (nI k) M = some (nI (tkt s k)) := by
  have r := g.r
  have hq := b.2.2.1 k hk
  unfold f_X3_ticketAt
  simp (disch := omega) only [m_in12, pi_cl, r.q, r.ckT, r.c, ↓reduceIte]
  rfl
theorem ci_1 (g : gC M s u H sf sn) (b : aB s) (ht : ∀ k, k < s.1 7 → tkt s k < 2 ^ 31) {a : Nat} (ha : a < s.1 7) (kx : Int32 → Option Int32) : ∀ (m j c n : Nat), j + m = s.1 7 → m < n → f_X6_inversions_L19 (nI a) M kx n (nI c) (nI j) = kx (nI (c + pc (fun b => decide (tkt s b < tkt s a)) j m))
  | 0, j, c, n, e, hn => by
    obtain ⟨n, rfl⟩ : ∃ n', n = n' + 1 := ⟨n - 1, by omega⟩
    have hq := b.2.1
    rw [f_X6_inversions_L19.eq_2, if_pos g.k0, g.r.qn, if_pos (nI_le (by omega) (by omega))]
    rfl
  | m + 1, j, c, n, e, hn => by
    obtain ⟨n, rfl⟩ : ∃ n', n = n' + 1 := ⟨n - 1, by omega⟩
    have hq := b.2.1
    have t1 := ht a ha
    have t2 := ht j (by omega)
    rw [f_X6_inversions_L19.eq_2, if_pos g.k0, g.r.qn, if_neg (nI_ge (by omega) (by omega)), if_pos g.k0, c_tkt g b (by omega), Option.bind_some, if_pos g.k0, c_tkt g b (by omega), Option.bind_some, pi_add1, pi_add1, pc_s]
    by_cases z : tkt s a ≤ tkt s j
    · rw [if_pos (nI_le z t2), ci_1 g b ht ha kx m (j + 1) c n (by omega) (by omega), if_neg (by simp; omega), Nat.zero_add]
    · rw [if_neg (nI_ge (by omega) t1), ci_1 g b ht ha kx m (j + 1) (c + 1) n (by omega) (by omega), if_pos (decide_eq_true (by omega)), Nat.add_assoc]
theorem ci_2 (g : gC M s u H sf sn) (b : aB s) (ht : ∀ k, k < s.1 7 → tkt s k < 2 ^ 31) : ∀ (m a c n : Nat), a + m = s.1 7 → m < n → f_X6_inversions_L4 M n (nI c) (nI a) = some (nI (c + ivL (tkt s) m a))
  | 0, a, c, n, e, hn => by
    obtain ⟨n, rfl⟩ : ∃ n', n = n' + 1 := ⟨n - 1, by omega⟩
    have hq := b.2.1
    rw [f_X6_inversions_L4.eq_2, if_pos g.k0, g.r.qn, if_pos (nI_le (by omega) (by omega))]
    rfl
  | m + 1, a, c, n, e, hn => by
    obtain ⟨n, rfl⟩ : ∃ n', n = n' + 1 := ⟨n - 1, by omega⟩
    have hq := b.2.1
    rw [f_X6_inversions_L4.eq_2, if_pos g.k0, g.r.qn, if_neg (nI_ge (by omega) (by omega)), pi_add1, ci_1 g b ht (by omega) _ m (a + 1) c xF (by omega) (by rw [xF_2000]; omega), ci_2 g b ht m (a + 1) _ n (by omega) (by omega), Nat.add_assoc]
    rfl
theorem c_inv (g : gC M s u H sf sn) (b : aB s) (ht : ∀ k, k < s.1 7 → tkt s k < 2 ^ 31) : f_X6_inversions M = some (nI (iv2 (tkt s) (s.1 7))) := by
  unfold f_X6_inversions
  rw [pi_0, ci_2 g b ht (s.1 7) 0 0 xF (by omega) (by rw [xF_2000]; have := b.2.1; omega), Nat.zero_add, iv_same]
theorem mi_1 (d : dH (M.1 10) s (aW s)) (b : aB s) (k : aK s) (ht : ∀ k, k < s.1 7 → tkt s k < 2 ^ 31) {a : Nat} (ha : a < s.1 7) (kx : Int32 → Option (Int32 × xM)) : ∀ (m j c n : Nat), j + m = s.1 7 → m < n → f_X7_inversions_L24 (nI a) M kx n (nI c) (nI j) = kx (nI (c + pc (fun b => decide (tkt s b < tkt s a)) j m))
  | 0, j, c, n, e, hn => by
    obtain ⟨n, rfl⟩ : ∃ n', n = n' + 1 := ⟨n - 1, by omega⟩
    have hq := b.2.1
    rw [f_X7_inversions_L24.eq_2]
    simp (disch := omega) only [↓reduceIte, pi_0, pi_1, pi_2, pi_3, pi_4, pi_5, pi_6, pi_7, pi_8, pi_9, pi_10, pi_11, pi_12, pi_13, pi_20, pi_27, pi_30, pi_60, pi_99, pi_115, pi_123, pi_135, pi_136, pi_137, pi_138, pi_139, pi_158, pi_159, pi_1113, m_neg, nI_add, pk_mul, pi_sub, mI_dec, pi_cl, pi_leT, pi_leF, pi_ltT, pi_ltF, pi_eqT, pi_eqF, mI_n, m_in159, Option.bind_some, f_X7_personAt, f_X7_windowAt, mG_i, mG_g, mG_s, pk_us, pk_un, d.qn]
    rfl
  | m + 1, j, c, n, e, hn => by
    obtain ⟨n, rfl⟩ : ∃ n', n = n' + 1 := ⟨n - 1, by omega⟩
    have hq := b.2.1
    have h12 := b.1
    have t1 := ht a ha
    have t2 := ht j (by omega)
    have q1 := k.1.1 a ha
    have q2 := k.1.1 j (by omega)
    have e1 := d.q ha
    have e2 := d.q (k := j) (by omega)
    have f1 : M.1 10 (27 + 8 * hQ s a) = nI (tkt s a) := d.p0 q1
    have f2 : M.1 10 (27 + 8 * hQ s j) = nI (tkt s j) := d.p0 q2
    rw [f_X7_inversions_L24.eq_2]
    simp (disch := omega) only [↓reduceIte, pi_0, pi_1, pi_2, pi_3, pi_4, pi_5, pi_6, pi_7, pi_8, pi_9, pi_10, pi_11, pi_12, pi_13, pi_20, pi_27, pi_30, pi_60, pi_99, pi_115, pi_123, pi_135, pi_136, pi_137, pi_138, pi_139, pi_158, pi_159, pi_1113, m_neg, nI_add, pk_mul, pi_sub, mI_dec, pi_cl, pi_leT, pi_leF, pi_ltT, pi_ltF, pi_eqT, pi_eqF, mI_n, m_in159, Option.bind_some, f_X7_personAt, f_X7_windowAt, mG_i, mG_g, mG_s, pk_us, pk_un, d.qn, e1, e2, f1, f2]
    rw [pc_s]
    by_cases z : tkt s a ≤ tkt s j
    · rw [if_pos (nI_le z t2), mi_1 d b k ht ha kx m (j + 1) (c + 0) n (by omega) (by omega), if_neg (by simp; omega), Nat.zero_add, Nat.add_zero]
    · rw [if_neg (nI_ge (by omega) t1), mi_1 d b k ht ha kx m (j + 1) (c + 1) n (by omega) (by omega), if_pos (decide_eq_true (by omega)), Nat.add_assoc]
theorem mi_2 (d : dH (M.1 10) s (aW s)) (b : aB s) (k : aK s) (ht : ∀ k, k < s.1 7 → tkt s k < 2 ^ 31) : ∀ (m a c n : Nat), a + m = s.1 7 → m < n → f_X7_inversions_L9 M n (nI c) (nI a) = some (nI (c + ivL (tkt s) m a), M)
  | 0, a, c, n, e, hn => by
    obtain ⟨n, rfl⟩ : ∃ n', n = n' + 1 := ⟨n - 1, by omega⟩
    have hq := b.2.1
    rw [f_X7_inversions_L9.eq_2, pi_9, pi_cl (by decide), d.qn, if_pos (by decide), if_pos (nI_le (by omega) (by omega))]
    rfl
  | m + 1, a, c, n, e, hn => by
    obtain ⟨n, rfl⟩ : ∃ n', n = n' + 1 := ⟨n - 1, by omega⟩
    have hq := b.2.1
    rw [f_X7_inversions_L9.eq_2, pi_9, pi_cl (by decide), d.qn, if_pos (by decide), if_neg (nI_ge (by omega) (by omega)), pi_add1, mi_1 d b k ht (by omega) _ m (a + 1) c xF (by omega) (by rw [xF_2000]; omega), mi_2 d b k ht m (a + 1) _ n (by omega) (by omega), Nat.add_assoc]
    rfl
theorem m_inv (d : dH (M.1 10) s (aW s)) (b : aB s) (k : aK s) (ht : ∀ k, k < s.1 7 → tkt s k < 2 ^ 31) : f_X7_inversions M = some (nI (iv2 (tkt s) (s.1 7)), sI M 9 9 (nI 0)) := by
  unfold f_X7_inversions
  rw [x_let_e, pi_0, mi_2 (d9 d) b k ht (s.1 7) 0 0 xF (by omega) (by rw [xF_2000]; have := b.2.1; omega), Nat.zero_add, iv_same]
theorem tkt31 {B : Nat} (v : aV B s) (hB : B < 2 ^ 30) : ∀ k, k < s.1 7 → tkt s k < 2 ^ 31 := fun k hk => tix31 v hB _ (v.1.1.1.2.1.1.1 k hk)
/-- one bubbling -/
theorem cb_1 {e : Nat} (he : e ≤ 12) (T : Nat → Nat) : ∀ (m i c n : Nat) (A : Nat → Nat) (M : xM), i + m = e → 1 ≤ i → m < n → (∀ k, k < e → M.1 8 k = nI (A k)) → (∀ k, k < e → A k < 2 ^ 31) → bJ T A i c → ∃ c' A' g, f_X6_bubbleUp_L4 (nI e) n (nI c) (nI i) M = some (nI c', mG M 8 g) ∧ bJ T A' e c' ∧ (∀ k, k < e → g k = nI (A' k)) ∧ (∀ k, k < e → A' k < 2 ^ 31) ∧ (∀ k, e ≤ k → g k = M.1 8 k)
  | 0, i, c, n, A, M, h, hi, hn, hA, h31, J => by
    obtain ⟨n, rfl⟩ : ∃ n', n = n' + 1 := ⟨n - 1, by omega⟩
    have : i = e := by omega
    subst this
    rw [f_X6_bubbleUp_L4.eq_2, if_pos (nI_le (by omega) (by omega))]
    exact ⟨c, A, M.1 8, by rw [mG_id], J, hA, h31, fun _ _ => rfl⟩
  | m + 1, i, c, n, A, M, h, hi, hn, hA, h31, J => by
    obtain ⟨n, rfl⟩ : ∃ n', n = n' + 1 := ⟨n - 1, by omega⟩
    have a1 := hA (i - 1) (by omega)
    have a2 := hA i (by omega)
    have b1 := h31 (i - 1) (by omega)
    have b2 := h31 i (by omega)
    rw [f_X6_bubbleUp_L4.eq_2]
    simp (disch := omega) only [↓x_let_e, ↓reduceIte, pi_0, pi_1, pi_2, pi_3, pi_4, pi_5, pi_6, pi_7, pi_8, pi_9, pi_10, pi_11, pi_12, pi_13, pi_20, pi_27, pi_30, pi_60, pi_99, pi_115, pi_123, pi_135, pi_136, pi_137, pi_138, pi_139, pi_158, pi_159, pi_1113, m_neg, nI_add, pi_sub, mI_dec, pi_cl, pi_leT, pi_leF, pi_ltT, pi_ltF, pi_eqT, pi_eqF, mI_n, m_in12, m_in3, m_in6, Option.bind_some, a1, a2]
    by_cases z : A (i - 1) ≤ A i
    · simp (disch := omega) only [pi_leT, ↓reduceIte]
      exact cb_1 he T m (i + 1) c n A M (by omega) (by omega) (by omega) hA h31 (bJ_no J hi z)
    · simp (disch := omega) only [pi_leF, ↓reduceIte, mG_i, mG_g, mG_s]
      have J' := bJ_yes J hi (show A i < A (i - 1) by omega)
      have hA' : ∀ k, k < e → upd (upd (M.1 8) (i - 1) (nI (A i))) i (nI (A (i - 1))) k = nI (va_up (va_up A (i - 1) (A i)) i (A (i - 1)) k) := fun k hk => by
        by_cases e1 : k = i
        · rw [e1, pk_us, va_up_self]
        · rw [pk_un e1, va_up_ne _ _ e1]
          by_cases e2 : k = i - 1
          · rw [e2, pk_us, va_up_self]
          · rw [pk_un e2, va_up_ne _ _ e2]; exact hA k hk
      have h31' : ∀ k, k < e → va_up (va_up A (i - 1) (A i)) i (A (i - 1)) k < 2 ^ 31 := fun k hk => by
        by_cases e1 : k = i
        · rw [e1, va_up_self]; exact b1
        · rw [va_up_ne _ _ e1]
          by_cases e2 : k = i - 1
          · rw [e2, va_up_self]; exact b2
          · rw [va_up_ne _ _ e2]; exact h31 k hk
      obtain ⟨c', A', g, f1, f2, f3, f4, f5⟩ := cb_1 he T m (i + 1) (c + 1) n _ (mG M 8 (upd (upd (M.1 8) (i - 1) (nI (A i))) i (nI (A (i - 1))))) (by omega) (by omega) (by omega) (by rw [mG_s]; exact hA') h31' J'
      rw [mG_g] at f1
      refine ⟨c', A', g, f1, f2, f3, f4, fun k hk => ?_⟩
      rw [f5 k hk, mG_s, pk_un (by omega), pk_un (by omega)]
theorem cb_2 : ∀ (e c n : Nat) (T : Nat → Nat) (M : xM), e ≤ 12 → e < n → (∀ k, k < e → M.1 8 k = nI (T k)) → (∀ k, k < e → T k < 2 ^ 31) → ∃ g, f_X6_inversionsByBubbleSort_L43 n (nI c) (nI e) M = some (nI (c + iv2 T e), mG M 8 g)
  | 0, c, n, T, M, he, hn, hT, h31 => by
    obtain ⟨n, rfl⟩ : ∃ n', n = n' + 1 := ⟨n - 1, by omega⟩
    rw [f_X6_inversionsByBubbleSort_L43.eq_2, if_pos (show nI 0 ≤ (1 : Int32) by decide)]
    exact ⟨M.1 8, by rw [mG_id]; rfl⟩
  | e + 1, c, n, T, M, he, hn, hT, h31 => by
    obtain ⟨n, rfl⟩ : ∃ n', n = n' + 1 := ⟨n - 1, by omega⟩
    rw [f_X6_inversionsByBubbleSort_L43.eq_2]
    by_cases z : e = 0
    · subst z
      rw [if_pos (show nI (0 + 1) ≤ (1 : Int32) by decide)]
      exact ⟨M.1 8, by rw [mG_id]; rfl⟩
    · rw [if_neg (show ¬ nI (e + 1) ≤ (1 : Int32) from nI_ge (a := 1) (by omega) (by omega))]
      unfold f_X6_bubbleUp
      rw [pi_0, pi_1]
      obtain ⟨c', A', g, f1, f2, f3, f4, f5⟩ := cb_1 he T e 1 0 xF T M (by omega) (by omega) (by rw [xF_2000]; omega) hT h31 (bJ_1 T)
      have J3 := f2.2.2.1
      rw [show e + 1 - 1 = e from rfl] at J3
      have em : (nI (e + 1)) + (-nI 1) = nI e := pk_m1 e
      rw [f1, Option.bind_some, nI_add, em]
      obtain ⟨g2, h2⟩ := cb_2 e (c + c') n A' (mG M 8 g) (by omega) (by omega) (fun k hk => by rw [mG_s]; exact f3 k (by omega)) (fun k hk => f4 k (by omega))
      rw [mG_g] at h2
      refine ⟨g2, ?_⟩
      rw [h2, J3, Nat.add_assoc]
theorem gC_x (g : gC M s u H sf sn) {M' : xM} (e0 : M'.1 0 = M.1 0) (p : M'.2.1 = M.2.1) (hc : ∀ c, 22 ≤ c → M'.1 c = M.1 c) : gC M' s u H sf sn := by
  have hp : ∀ i, gP M' i = gP M i := fun i => by unfold gP; rw [p]
  have sm : ∀ i, i < 11 → ∀ c, gP M i ≤ c → c < gP M i + 21 → M'.1 c = M.1 c ∧ M'.2.1 c = M.2.1 c := fun i hi c h1 h2 => by
    have := g.ge hi
    exact ⟨hc c (by omega), by rw [p]⟩
  refine ⟨fun i hi => ?_, fun i j hi hj e => ?_, ?_, fun i hi => ?_, fun h => ?_, ?_, g.2.2.2.2.2.2.1, ?_, g.2.2.2.2.2.2.2.2⟩
  · rw [hp]; exact cV_same (sm i hi) (g.1 i hi)
  · rw [hp, hp] at e; exact g.2.1 i j hi hj e
  · rw [hp]; exact cR_same (sm 0 (by decide)) g.2.2.1
  · rw [hp]; exact cR_same (sm (3 + i) (by have := g.2.2.2.2.2.2.1; omega)) (g.2.2.2.1 i hi)
  · rw [hp]; exact cR_same (sm 2 (by decide)) (g.2.2.2.2.1 h)
  · rw [e0]; exact g.2.2.2.2.2.1
  · rw [e0]; exact g.2.2.2.2.2.2.2.1
theorem gC_8 {h : Nat → Int32} (g : gC M s u H sf sn) : gC (mG M 8 h) s u H sf sn := gC_x g (mG_n (by decide)) rfl (fun c hc => mG_n (by omega))
theorem gR_8 {B : Nat} {h : Nat → Int32} (g : gR B M) : gR B (mG M 8 h) := by
  obtain ⟨s, u, H, sf, sn, ef, fl, L, t, O, o, a, b, c, d, e, f⟩ := g
  refine ⟨s, u, H, sf, sn, ef, fl, L, t, O, o, gC_8 a, gM_L b (mG_n (by decide)) (mG_n (by decide)) (mG_n (by decide)) (by rw [mG_n (by decide)]) (by rw [mG_n (by decide)]), ?_, d, e, f⟩
  obtain ⟨⟨a1, a2, a3, a4⟩, b, r⟩ := c
  refine ⟨⟨?_, ?_, sB_same a3 (mG_n (by decide)) (mG_n (by decide)) rfl, sB_same a4 (mG_n (by decide)) (mG_n (by decide)) rfl⟩, ?_, r⟩
  · rw [mG_n (by decide)]; exact a1
  · rw [mG_n (by decide)]; exact a2
  · rw [mG_n (c := 8) (d := 9) (by decide), mG_n (c := 8) (d := 15) (by decide), mG_n (c := 8) (d := 16) (by decide), mG_n (c := 8) (d := 17) (by decide), mG_n (c := 8) (d := 18) (by decide)]
    exact b
theorem cb_0 (b : aB s) (ht : ∀ k, k < s.1 7 → tkt s k < 2 ^ 31) : ∀ (m k n : Nat) (M : xM), gC M s u H sf sn → k + m = s.1 7 → m < n → (∀ j, j < k → M.1 8 j = nI (tkt s j)) → ∃ g, f_X6_inversionsByBubbleSort_L2 n (nI k) M = some (nI (iv2 (tkt s) (s.1 7)), mG M 8 g)
  | 0, k, n, M, g, e, hn, hA => by
    obtain ⟨n, rfl⟩ : ∃ n', n = n' + 1 := ⟨n - 1, by omega⟩
    have hq := b.2.1
    rw [f_X6_inversionsByBubbleSort_L2.eq_2, if_pos g.k0, g.r.qn, if_pos (nI_le (by omega) (by omega)), if_pos g.k0, pi_0]
    obtain ⟨g2, h2⟩ := cb_2 (s.1 7) 0 xF (tkt s) M hq (by rw [xF_2000]; omega) (fun j hj => hA j (by omega)) ht
    rw [Nat.zero_add] at h2
    exact ⟨g2, h2⟩
  | m + 1, k, n, M, g, e, hn, hA => by
    obtain ⟨n, rfl⟩ : ∃ n', n = n' + 1 := ⟨n - 1, by omega⟩
    have hq := b.2.1
    rw [f_X6_inversionsByBubbleSort_L2.eq_2, if_pos g.k0, g.r.qn, if_neg (nI_ge (by omega) (by omega)), if_pos g.k0, c_tkt g b (by omega), Option.bind_some, if_pos (pi_in12 (by omega)), x_let_e, pi_cl (by omega), pi_add1, mG_i]
    obtain ⟨g2, h2⟩ := cb_0 b ht m (k + 1) n (mG M 8 (upd (M.1 8) k (nI (tkt s k)))) (gC_8 g) (by omega) (by omega) (fun j hj => by
      rw [mG_s]
      by_cases e1 : j = k
      · rw [e1, pk_us]
      · rw [pk_un e1]; exact hA j (by omega))
    rw [mG_g] at h2
    exact ⟨g2, h2⟩
theorem c_bub (g : gC M s u H sf sn) (b : aB s) (ht : ∀ k, k < s.1 7 → tkt s k < 2 ^ 31) : ∃ h, f_X6_inversionsByBubbleSort M = some (nI (iv2 (tkt s) (s.1 7)), mG M 8 h) := by
  unfold f_X6_inversionsByBubbleSort
  rw [pi_0]
  exact cb_0 b ht (s.1 7) 0 xF M g (by omega) (by rw [xF_2000]; have := b.2.1; omega) (fun j hj => absurd hj (Nat.not_lt_zero _))
theorem cc_L (g : gC M s u H sf sn) (b : aB s) (k : aK s) (x : aX s) (ht : ∀ k, k < s.1 7 → tkt s k < 2 ^ 31) : ∀ (m j n : Nat), j + m = s.1 0 → m < n → ∃ h, f_X6_isConsistent_L2 M n (nI j) = some (.inl 1, mG M 8 h)
  | 0, j, n, e, hn => by
    obtain ⟨n, rfl⟩ : ∃ n', n = n' + 1 := ⟨n - 1, by omega⟩
    have hn := b.1
    obtain ⟨h, hb⟩ := c_bub g b ht
    have g2 := gC_8 (h := h) g
    have r2 := g2.r
    have s0 := r2.sc (j := 0) (by decide)
    have s2 := r2.sc (j := 2) (by decide)
    have s3 := r2.sc (j := 3) (by decide)
    have s4 := r2.sc (j := 4) (by decide)
    have s5 := r2.sc (j := 5) (by decide)
    rw [show hix 0 = 1 from rfl] at s0
    rw [show hix 2 = 8 from rfl] at s2
    rw [show hix 3 = 9 from rfl] at s3
    rw [show hix 4 = 12 from rfl] at s4
    rw [show hix 5 = 11 from rfl] at s5
    rw [f_X6_isConsistent_L2.eq_2, if_pos g.k0, g.r.n, if_pos (nI_le (by omega) (by omega)), c_inv g b ht, Option.bind_some, hb, Option.bind_some, if_pos rfl, if_pos g2.k0, if_pos g2.k0, if_pos g2.k0, if_pos g2.k0, if_pos g2.k0, s0, s2, s3, s4, s5, nI_add, nI_add, nI_add, if_pos (by rw [x.1])]
    exact ⟨h, rfl⟩
  | m + 1, j, n, e, hn => by
    obtain ⟨n, rfl⟩ : ∃ n', n = n' + 1 := ⟨n - 1, by omega⟩
    have hn := b.1
    have hq := b.2.1
    have hj : j < s.1 0 := by omega
    have wx := aPos_aW k hj
    have ew := aW_wof k (c := j)
    obtain ⟨h, ih⟩ := cc_L g b k x ht m (j + 1) n (by omega) (by omega)
    rw [f_X6_isConsistent_L2.eq_2, if_pos g.k0, g.r.n, if_neg (nI_ge (by omega) (by omega)), if_pos g.k0, c_pos g.r hq (by omega) b.q31, Option.bind_some]
    have hx : pf (fun k => decide (hQ s k = j)) 0 (s.1 7) = aPos s j := rfl
    rw [hx, c_wof g.r (by omega) b.w31, ca_in g b k hj, cb_in g b k hj]
    cases hp : aPos s j with
    | none =>
      rw [hp] at wx
      have z : aW s j ≠ 0 := fun z => by obtain ⟨p, h⟩ := wx.mp z; cases h
      cases e2 : pf (fun w => decide (hW s w 2 = j + 1)) 0 3 with
      | none => exact absurd (ew.mp e2) z
      | some w =>
        have := (pf_some e2).2.1
        rw [oI_n, if_pos rfl, if_pos g.k0, Option.bind_some, oI_s, if_neg (pi_ne1 (by omega)), if_neg (by decide), Option.bind_some, x_case_l, Option.bind_some, x_case_l, if_pos rfl, pi_add1]
        exact ⟨h, ih⟩
    | some p =>
      have hx0 : aW s j = 0 := wx.mpr ⟨p, hp⟩
      have := (aPos_lt hp).1
      rw [ew.mpr hx0, oI_s, if_neg (pi_ne1 (by omega)), if_pos g.k0, Option.bind_some, oI_n, if_pos rfl, if_neg (by decide), Option.bind_some, x_case_l, Option.bind_some, x_case_l, if_pos rfl, pi_add1]
      exact ⟨h, ih⟩
end IV
theorem lc_27 {B : Nat} {M : xM} {sc : Nat → Int32} {L : Nat} {I : Int32} (g : gR B M) (hB2 : B < 2 ^ 29) : ∃ M', f_law_c27 sc L I M = some M' ∧ gR (B + 400) M' := by
  obtain ⟨s, u, H, sf, sn, ef, fl, Ln, t, O, o, c0, g0, x0, v, vh, vs⟩ := id g
  have ht := tkt31 v (by omega)
  unfold f_law_c27
  rw [c_inv c0 v.1.1.1.1 ht, Option.bind_some, m_inv g0.1 v.1.1.1.1 v.1.1.1.2.1 ht, Option.bind_some, if_pos rfl]
  exact ⟨_, rfl, gR_le (gR_N g gN_9) (by omega)⟩
theorem lc_28 {B : Nat} {M : xM} {sc : Nat → Int32} {L : Nat} {I : Int32} (g : gR B M) (hB2 : B < 2 ^ 29) : ∃ M', f_law_c28 sc L I M = some M' ∧ gR (B + 400) M' := by
  obtain ⟨s, u, H, sf, sn, ef, fl, Ln, t, O, o, c0, g0, x0, v, vh, vs⟩ := id g
  have ht := tkt31 v (by omega)
  obtain ⟨h, hb⟩ := c_bub c0 v.1.1.1.1 ht
  unfold f_law_c28 f_X7_inversionsByBubbleSort
  rw [hb, Option.bind_some, m_bind2, m_inv (M := mG M 8 h) (by rw [mG_n (by decide)]; exact g0.1) v.1.1.1.1 v.1.1.1.2.1 ht, Option.bind_some, if_pos rfl]
  exact ⟨_, rfl, gR_le (gR_N (gR_8 g) gN_9) (by omega)⟩
theorem lc_43 {B : Nat} {M : xM} {sc : Nat → Int32} {L : Nat} {I : Int32} (g : gR B M) (hB2 : B < 2 ^ 29) : ∃ M', f_law_c43 sc L I M = some M' ∧ gR (B + 400) M' := by
  obtain ⟨s, u, H, sf, sn, ef, fl, Ln, t, O, o, c0, g0, x0, v, vh, vs⟩ := id g
  have ht := tkt31 v (by omega)
  obtain ⟨h, hb⟩ := cc_L c0 v.1.1.1.1 v.1.1.1.2.1 v.2.1 ht (s.1 0) 0 xF (by omega) (by rw [xF_2000]; have := v.1.1.1.1.1; omega)
  have hb : f_X6_isConsistent M = some (.inl 1, mG M 8 h) := hb
  unfold f_law_c43 f_X7_isConsistent
  rw [hb, Option.bind_some, x_case_l]
  show ∃ M', ((x_let (sI (mG M 8 h) 9 9 (0 : Int32)) fun M1 => some ((1 : Int32), M1)).bind fun q6 => if (1 : Int32) = q6.1 then some q6.2 else none) = some M' ∧ _
  rw [x_let_e, Option.bind_some, if_pos rfl]
  exact ⟨_, rfl, gR_le (gR_N (gR_8 g) gN_9) (by omega)⟩
