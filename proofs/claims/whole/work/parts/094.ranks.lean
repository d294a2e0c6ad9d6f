/-! pure: ranks -/
theorem pk_onto : ∀ (n : Nat) (f : Nat → Nat), (∀ i, i < n → f i < n) → (∀ i j, i < n → j < n → f i = f j → i = j) → ∀ y, y < n → ∃ i, i < n ∧ f i = y
  | 0, f, h1, h2, y, hy => absurd hy (Nat.not_lt_zero y)
  | n + 1, f, h1, h2, y, hy => by
    by_cases ea : y = f n
    · exact ⟨n, by omega, ea.symm⟩
    · have an := h1 n (by omega)
      have ih := pk_onto n (fun i => if f i = n then f n else f i) (fun i hi => by
        show (if f i = n then f n else f i) < n
        by_cases z : f i = n
        · rw [if_pos z]
          have : f n ≠ n := fun w => by have := h2 i n (by omega) (by omega) (z.trans w.symm); omega
          omega
        · rw [if_neg z]
          have := h1 i (by omega)
          omega) (fun i j hi hj e => by
        have e : (if f i = n then f n else f i) = (if f j = n then f n else f j) := e
        by_cases z : f i = n
        · rw [if_pos z] at e
          by_cases w : f j = n
          · exact h2 i j (by omega) (by omega) (z.trans w.symm)
          · rw [if_neg w] at e
            have := h2 n j (by omega) (by omega) e
            omega
        · rw [if_neg z] at e
          by_cases w : f j = n
          · rw [if_pos w] at e
            have := h2 i n (by omega) (by omega) e
            omega
          · rw [if_neg w] at e
            exact h2 i j (by omega) (by omega) e)
      by_cases yn : y = n
      · subst yn
        obtain ⟨i, hi, e⟩ := ih (f y) (by omega)
        have e : (if f i = y then f y else f i) = f y := e
        by_cases z : f i = y
        · exact ⟨i, by omega, z⟩
        · rw [if_neg z] at e
          have := h2 i y (by omega) (by omega) e
          omega
      · obtain ⟨i, hi, e⟩ := ih y (by omega)
        have e : (if f i = n then f n else f i) = y := e
        by_cases z : f i = n
        · rw [if_pos z] at e
          exact absurd e.symm ea
        · rw [if_neg z] at e
          exact ⟨i, by omega, e⟩
theorem pc_lt {p q : Nat → Bool} {x r k : Nat} (h : ∀ i, p i = true → q i = true) (hp : p x = false) (hq : q x = true) (h1 : k ≤ x) (h2 : x < k + r) : pc p k r + 1 ≤ pc q k r := by
  have a := pc_add (p := p) (q := fun i => p i || decide (i = x)) (x := x) (fun i hi => by
    show (p i || decide (i = x)) = p i
    rw [decide_eq_false hi, Bool.or_false]) hp (by
    show (p x || decide (x = x)) = true
    rw [decide_eq_true rfl, Bool.or_true]) r k h1 h2
  have b := pc_mono (p := fun i => p i || decide (i = x)) (q := q) r k (fun i _ _ hi => by
    rcases (Bool.or_eq_true _ _).mp hi with e | e
    · exact h i e
    · rw [of_decide_eq_true e]; exact hq)
  omega
/-- j comes before i -/
def kb (P S : Nat → Nat) (i j : Nat) : Bool := decide (P i < P j ∨ P i = P j ∧ (S j < S i ∨ S i = S j ∧ j < i))
def rk (P S : Nat → Nat) (n i : Nat) : Nat := pc (kb P S i) 0 n
theorem kb_i {P S : Nat → Nat} {i : Nat} : kb P S i i = false := decide_eq_false (by omega)
theorem kb_or {P S : Nat → Nat} {i j : Nat} (h : i ≠ j) : kb P S i j = true ∨ kb P S j i = true := by
  by_cases z : P i < P j ∨ P i = P j ∧ (S j < S i ∨ S i = S j ∧ j < i)
  · exact .inl (decide_eq_true z)
  · exact .inr (decide_eq_true (by omega))
theorem kb_tr {P S : Nat → Nat} {i j k : Nat} (h : kb P S i j = true) (h2 : kb P S j k = true) : kb P S i k = true := by
  have a := of_decide_eq_true h
  have b := of_decide_eq_true h2
  exact decide_eq_true (by omega)
theorem rk_lt {P S : Nat → Nat} {n i : Nat} (hi : i < n) : rk P S n i < n := by
  have := pc_lt (p := kb P S i) (q := fun _ => true) (x := i) (r := n) (k := 0) (fun _ _ => rfl) kb_i rfl (by omega) (by omega)
  have := pc_le (fun _ => true) n 0
  unfold rk
  omega
theorem rk_b {P S : Nat → Nat} {n i j : Nat} (hj : j < n) (h : kb P S i j = true) : rk P S n j < rk P S n i := by
  have := pc_lt (p := kb P S j) (q := kb P S i) (x := j) (r := n) (k := 0) (fun k hk => kb_tr h hk) kb_i h (by omega) (by omega)
  unfold rk
  omega
theorem rk_inj {P S : Nat → Nat} {n i j : Nat} (hi : i < n) (hj : j < n) (e : rk P S n i = rk P S n j) : i = j := by
  refine Classical.byContradiction fun h => ?_
  rcases kb_or (P := P) (S := S) h with z | z
  · have := rk_b hj z; omega
  · have := rk_b hi z; omega
theorem rk_ex {P S : Nat → Nat} {n r : Nat} (h : r < n) : ∃ i, i < n ∧ rk P S n i = r := pk_onto n (rk P S n) (fun i hi => rk_lt hi) (fun i j hi hj e => rk_inj hi hj e) r h
theorem rk_cong {P S P' S' : Nat → Nat} {n i : Nat} (hi : i < n) (h : ∀ k, k < n → P k = P' k ∧ S k = S' k) : rk P S n i = rk P' S' n i := by
  refine pc_cong fun k _ hk => ?_
  show decide _ = decide _
  rw [(h i hi).1, (h i hi).2, (h k (by omega)).1, (h k (by omega)).2]
theorem pi_sub0 {a b : Nat} (ha : a < 2 ^ 30) (hb : b < 2 ^ 30) : (nI a - nI b = nI 0) = (a = b) := by
  refine propext ⟨fun h => ?_, fun h => by rw [h, pi_sub (Nat.le_refl _), Nat.sub_self]⟩
  by_cases z : b ≤ a
  · rw [pi_sub z] at h
    have := (nI_eq (by omega) (by omega)).mp h
    omega
  · have n : ¬ nI 0 ≤ nI a - nI b := Int32.not_le.mpr (pk_sneg hb (by omega))
    rw [h] at n
    exact absurd (nI_le (Nat.le_refl 0) (by omega)) n
theorem pi_subp {a b : Nat} (ha : a < 2 ^ 30) (hb : b < 2 ^ 30) : (nI 0 < nI a - nI b) = (b < a) := by
  refine propext ⟨fun h => ?_, fun h => ?_⟩
  · by_cases z : b < a
    · exact z
    · exfalso
      by_cases e : a = b
      · subst e
        rw [pi_sub (Nat.le_refl _), Nat.sub_self] at h
        exact absurd h (nI_nlt (Nat.le_refl 0) (by omega))
      · have n : nI a - nI b < nI 0 := pk_sneg hb (by omega)
        exact Int32.lt_irrefl (Int32.lt_trans h n)
  · rw [pi_sub (by omega)]
    exact nI_lt (by omega) (by omega)
def bfo (P S : Nat → Nat) (i j : Nat) : Nat := if P i = P j then (if S j ≤ S i then 0 else 1) else (if P i ≤ P j then 0 else 1)
/-- who has rank a -/
def qRk (P S : Nat → Nat) (a : Nat) (s : hS) : Nat × Nat × hS := if a < s.1 0 then (0, (pf (fun i => decide (rk P S (s.1 0) i = a)) 0 (s.1 0)).getD 0, s) else (1, 0, s)
theorem qRk_le {P S : Nat → Nat} {a : Nat} {s : hS} : (qRk P S a s).1 < 2 ^ 31 := by unfold qRk; split <;> (dsimp only; omega)
theorem qRk_1 {P S : Nat → Nat} {a i : Nat} {s : hS} (ha : a < s.1 0) (hi : i < s.1 0) (e : rk P S (s.1 0) i = a) : qRk P S a s = (0, i, s) := by
  unfold qRk
  rw [if_pos ha, pf_is (p := fun i => decide (rk P S (s.1 0) i = a)) (j := i) (by omega) (by omega) (decide_eq_true e) (fun k _ hk => decide_eq_false (fun z => by have := rk_inj (by omega) hi (z.trans e.symm); omega))]
  rfl
section RK
variable {M : xM} {s : hS} {u : Nat} {H : Nat → hS} {sf : Nat} {sn : hS}
theorem c_rank_ (g : gC M s u H sf sn) (hn : s.1 0 ≤ 12) {a : Int32} : f_X6_requireRank a M = some (if ix a < s.1 0 then .inl () else .inr "java/util/NoSuchElementException") := by
  unfold f_X6_requireRank
  rw [if_pos g.k0]
  by_cases h : ix a < s.1 0
  · have ea := ix_eq (a := a) (by omega)
    rw [if_pos h]
    generalize ix a = x at h ea ⊢
    subst ea
    rw [c_has g.r hn h]
    rfl
  · rw [if_neg h, c_hasnt g.r hn (ix_no (by omega) h)]
    rfl
theorem cbf_Sighs {h : Nat} (r : cR h M s) (hu : ∀ k, k < 12 → hC s k 2 < 2 ^ 30 ∧ hC s k 1 < 2 ^ 30 ∧ hC s k 5 ≤ 1) {i j : Nat} (hi : i < 12) (hj : j < 12) : f_X2_sighsBefore (M.2.1 (h + 1) i) (M.2.1 (h + 1) j) M = some (nI (bfo (fun k => hC s k 2) (fun k => hC s k 1) i j)) := by
  obtain ⟨i1, i2, i3⟩ := hu i hi
  obtain ⟨j1, j2, j3⟩ := hu j hj
  have p1 : M.1 (M.2.1 (h + 1) i) 2 = nI (hC s i 2) := r.c hi (by decide)
  have p2 : M.1 (M.2.1 (h + 1) j) 2 = nI (hC s j 2) := r.c hj (by decide)
  have s1 : M.1 (M.2.1 (h + 1) i) 1 = nI (hC s i 1) := r.c hi (by decide)
  have s2 : M.1 (M.2.1 (h + 1) j) 1 = nI (hC s j 1) := r.c hj (by decide)
  unfold f_X2_sighsBefore bfo
  dsimp only
  rw [p1, p2, s1, s2]
  by_cases z : hC s i 2 = hC s j 2
  · rw [if_pos z, if_pos (by rw [z])]
    by_cases w : hC s j 1 ≤ hC s i 1
    · rw [if_pos w, if_pos (nI_le w (by omega))]; rfl
    · rw [if_neg w, if_neg (nI_ge (by omega) (by omega))]; rfl
  · rw [if_neg z, if_neg (fun x => z ((nI_eq (by omega) (by omega)).mp x))]
    by_cases w : hC s i 2 ≤ hC s j 2
    · rw [if_pos w, if_pos (nI_le w (by omega))]; rfl
    · rw [if_neg w, if_neg (nI_ge (by omega) (by omega))]; rfl
theorem crk_Sighs {h : Nat} (r : cR h M s) (hn : s.1 0 ≤ 12) (hu : ∀ k, k < 12 → hC s k 2 < 2 ^ 30 ∧ hC s k 1 < 2 ^ 30 ∧ hC s k 5 ≤ 1) {i : Nat} (hi : i < 12) : ∀ (m j c n : Nat), j + m = s.1 0 → m < n → f_X3_rankBySighs_L4 h (nI i) M n (nI c) (nI j) = some (nI (c + pc (kb (fun k => hC s k 2) (fun k => hC s k 1) i) j m))
  | 0, j, c, n, e, hm => by
    obtain ⟨n, rfl⟩ : ∃ n', n = n' + 1 := ⟨n - 1, by omega⟩
    rw [f_X3_rankBySighs_L4.eq_2, r.n, if_pos (nI_le (by omega) (by omega))]
    rfl
  | m + 1, j, c, n, e, hm => by
    obtain ⟨n, rfl⟩ : ∃ n', n = n' + 1 := ⟨n - 1, by omega⟩
    have hj : j < 12 := by omega
    have b1 := cbf_Sighs r hu hi hj
    have b2 := cbf_Sighs r hu hj hi
    have k1 := r.ckT hi
    have k2 := r.ckT hj
    rw [f_X3_rankBySighs_L4.eq_2, r.n, if_neg (nI_ge (by omega) (by omega)), pi_1, nI_add, nI_add]
    simp (disch := omega) only [m_in12, pi_cl, k1, k2, ↓reduceIte, b1, b2, Option.bind_some]
    rw [pc_s]
    by_cases z : bfo (fun k => hC s k 2) (fun k => hC s k 1) i j = 0
    · rw [if_pos (show nI (bfo (fun k => hC s k 2) (fun k => hC s k 1) i j) = 0 by rw [z]; rfl)]
      by_cases w : bfo (fun k => hC s k 2) (fun k => hC s k 1) j i = 0
      · rw [if_pos (show nI (bfo (fun k => hC s k 2) (fun k => hC s k 1) j i) = 0 by rw [w]; rfl), if_neg (show ¬ nI 1 = 0 by decide)]
        by_cases y : i ≤ j
        · rw [if_pos (nI_le y (by omega)), crk_Sighs r hn hu hi m (j + 1) c n (by omega) (by omega), if_neg (by rw [show kb (fun k => hC s k 2) (fun k => hC s k 1) i j = false from decide_eq_false (by unfold bfo at z w; dsimp only at z w ⊢; split at z <;> split at z <;> split at w <;> split at w <;> omega)]; decide), Nat.zero_add]
        · rw [if_neg (nI_ge (by omega) (by omega)), crk_Sighs r hn hu hi m (j + 1) (c + 1) n (by omega) (by omega), if_pos (show kb (fun k => hC s k 2) (fun k => hC s k 1) i j = true from decide_eq_true (by unfold bfo at z w; dsimp only at z w ⊢; split at z <;> split at z <;> split at w <;> split at w <;> omega)), Nat.add_assoc]
      · rw [if_neg (show ¬ nI (bfo (fun k => hC s k 2) (fun k => hC s k 1) j i) = 0 from fun x => w ((nI_eq (b := 0) (by unfold bfo; split <;> split <;> omega) (by omega)).mp x)), crk_Sighs r hn hu hi m (j + 1) (c + 1) n (by omega) (by omega), if_pos (show kb (fun k => hC s k 2) (fun k => hC s k 1) i j = true from decide_eq_true (by unfold bfo at z w; dsimp only at z w ⊢; split at z <;> split at z <;> split at w <;> split at w <;> omega)), Nat.add_assoc]
    · rw [if_neg (show ¬ nI (bfo (fun k => hC s k 2) (fun k => hC s k 1) i j) = 0 from fun x => z ((nI_eq (b := 0) (by unfold bfo; split <;> split <;> omega) (by omega)).mp x))]
      have w : bfo (fun k => hC s k 2) (fun k => hC s k 1) j i = 0 := by unfold bfo at z ⊢; dsimp only at z ⊢; split at z <;> split at z <;> split <;> split <;> omega
      rw [if_pos (show nI (bfo (fun k => hC s k 2) (fun k => hC s k 1) j i) = 0 by rw [w]; rfl), crk_Sighs r hn hu hi m (j + 1) c n (by omega) (by omega), if_neg (by rw [show kb (fun k => hC s k 2) (fun k => hC s k 1) i j = false from decide_eq_false (by unfold bfo at z w; dsimp only at z w ⊢; split at z <;> split at z <;> split at w <;> split at w <;> omega)]; decide), Nat.zero_add]
theorem cwho_Sighs (g : gC M s u H sf sn) (hn : s.1 0 ≤ 12) (hu : ∀ k, k < 12 → hC s k 2 < 2 ^ 30 ∧ hC s k 1 < 2 ^ 30 ∧ hC s k 5 ≤ 1) {a i0 : Nat} (ha : a < 12) (hi0 : i0 < s.1 0) (e0 : rk (fun k => hC s k 2) (fun k => hC s k 1) (s.1 0) i0 = a) : ∀ (m j l n : Nat), j + m = s.1 0 → m < n → f_X6_customerBySighs_L9 (nI a) M n (nI l) (nI j) = some (.inl (nI (if j ≤ i0 then i0 else l)))
  | 0, j, l, n, e, hm => by
    obtain ⟨n, rfl⟩ : ∃ n', n = n' + 1 := ⟨n - 1, by omega⟩
    rw [f_X6_customerBySighs_L9.eq_2, if_pos g.k0, g.r.n, if_pos (nI_le (by omega) (by omega)), if_neg (by omega)]
  | m + 1, j, l, n, e, hm => by
    obtain ⟨n, rfl⟩ : ∃ n', n = n' + 1 := ⟨n - 1, by omega⟩
    have hr : f_X3_rankBySighs (M.2.1 0 0) (nI j) M = some (nI (rk (fun k => hC s k 2) (fun k => hC s k 1) (s.1 0) j)) := by
      unfold f_X3_rankBySighs
      rw [pi_0, crk_Sighs g.r hn hu (by omega) (s.1 0) 0 0 xF (by omega) (by rw [xF_2000]; omega), Nat.zero_add]
      rfl
    have hk := rk_lt (P := (fun k => hC s k 2)) (S := (fun k => hC s k 1)) (n := s.1 0) (i := j) (by omega)
    rw [f_X6_customerBySighs_L9.eq_2, if_pos g.k0, g.r.n, if_neg (nI_ge (by omega) (by omega)), if_pos g.k0, hr, Option.bind_some, pi_1, nI_add]
    by_cases z : rk (fun k => hC s k 2) (fun k => hC s k 1) (s.1 0) j = a
    · have ej : j = i0 := rk_inj (by omega) hi0 (z.trans e0.symm)
      rw [if_pos (show nI (rk (fun k => hC s k 2) (fun k => hC s k 1) (s.1 0) j) = nI a by rw [z]), cwho_Sighs g hn hu ha hi0 e0 m (j + 1) j n (by omega) (by omega), if_neg (by omega), if_pos (by omega), ej]
    · have ej : j ≠ i0 := fun x => z (by rw [x]; exact e0)
      rw [if_neg (fun x => z ((nI_eq (by omega) (by omega)).mp x)), cwho_Sighs g hn hu ha hi0 e0 m (j + 1) l n (by omega) (by omega)]
      by_cases w : j ≤ i0
      · rw [if_pos w, if_pos (show j + 1 ≤ i0 by omega)]
      · rw [if_neg w, if_neg (show ¬ j + 1 ≤ i0 by omega)]
theorem cq_Sighs (g : gC M s u H sf sn) (hn : s.1 0 ≤ 12) (hu : ∀ k, k < 12 → hC s k 2 < 2 ^ 30 ∧ hC s k 1 < 2 ^ 30 ∧ hC s k 5 ≤ 1) {a : Int32} : f_L_customerBySighs a M = some (nI (qRk (fun k => hC s k 2) (fun k => hC s k 1) (ix a) s).1, ql (qRk (fun k => hC s k 2) (fun k => hC s k 1) (ix a) s) M) := by
  unfold f_L_customerBySighs f_X6_customerBySighs
  rw [c_rank_ g hn]
  by_cases h : ix a < s.1 0
  · have ea := ix_eq (a := a) (by omega)
    rw [if_pos h]
    generalize ix a = x at h ea ⊢
    subst ea
    obtain ⟨i0, h0, e0⟩ := rk_ex (P := (fun k => hC s k 2)) (S := (fun k => hC s k 1)) h
    rw [Option.bind_some, x_case_l, pi_0, cwho_Sighs g hn hu (by omega) h0 e0 (s.1 0) 0 0 xF (by omega) (by rw [xF_2000]; omega), if_pos (by omega), qRk_1 h h0 e0]
    rfl
  · unfold qRk
    rw [if_neg h, if_neg h]
    rfl
theorem mrk_Sighs (d : dH (M.1 10) s (aW s)) (hn : s.1 0 ≤ 12) (hu : ∀ k, k < 12 → hC s k 2 < 2 ^ 30 ∧ hC s k 1 < 2 ^ 30 ∧ hC s k 5 ≤ 1) {i : Nat} (hi : i < s.1 0) {a : Int32} (kx : Int32 → Option (Int32 × xM)) : ∀ (m j c n : Nat), j + m = s.1 0 → m < n → f_X7_customerBySighs_L22 a (nI i) M kx n (nI c) (nI j) = kx (nI (c + pc (kb (fun k => hC s k 2) (fun k => hC s k 1) i) j m))
  | 0, j, c, n, e, hm => by
    obtain ⟨n, rfl⟩ : ∃ n', n = n' + 1 := ⟨n - 1, by omega⟩
    rw [f_X7_customerBySighs_L22.eq_2]
    simp (disch := omega) only [↓reduceIte, pi_0, pi_1, pi_2, pi_3, pi_4, pi_5, pi_6, pi_7, pi_8, pi_9, pi_10, pi_11, pi_12, pi_13, pi_20, pi_27, pi_30, pi_60, pi_99, pi_115, pi_123, pi_135, pi_136, pi_137, pi_138, pi_139, pi_158, pi_159, pi_1113, m_neg, nI_add, pk_mul, pi_sub, mI_dec, pi_cl, pi_leT, pi_leF, pi_ltT, pi_ltF, pi_eqT, pi_eqF, mI_n, m_in159, Option.bind_some, f_X7_personAt, f_X7_windowAt, mG_i, mG_g, mG_s, pk_us, pk_un, d.n]
    rfl
  | m + 1, j, c, n, e, hm => by
    obtain ⟨n, rfl⟩ : ∃ n', n = n' + 1 := ⟨n - 1, by omega⟩
    obtain ⟨i1, i2, i3⟩ := hu i (by omega)
    obtain ⟨j1, j2, j3⟩ := hu j (by omega)
    have hj : j < s.1 0 := by omega
    have p1 := d.p2 hi
    have p2 := d.p2 hj
    have s1 := d.p1 hi
    have s2 := d.p1 hj
    rw [f_X7_customerBySighs_L22.eq_2]
    simp (disch := omega) only [↓reduceIte, pi_0, pi_1, pi_2, pi_3, pi_4, pi_5, pi_6, pi_7, pi_8, pi_9, pi_10, pi_11, pi_12, pi_13, pi_20, pi_27, pi_30, pi_60, pi_99, pi_115, pi_123, pi_135, pi_136, pi_137, pi_138, pi_139, pi_158, pi_159, pi_1113, m_neg, nI_add, pk_mul, mI_dec, pi_cl, pi_leT, pi_leF, mI_n, m_in159, Option.bind_some, f_X7_personAt, d.n, p1, p2, s1, s2, pi_sub0, pi_subp]
    rw [pc_s]
    have T := mrk_Sighs d hn hu hi (a := a) kx m (j + 1) (c + 1) n (by omega) (by omega)
    have F := mrk_Sighs d hn hu hi (a := a) kx m (j + 1) (c + 0) n (by omega) (by omega)
    rw [Nat.add_assoc] at T F
    by_cases z : hC s j 2 = hC s i 2
    · rw [if_pos z]
      by_cases w : hC s j 1 < hC s i 1
      · rw [if_pos w, T, if_pos (show kb (fun k => hC s k 2) (fun k => hC s k 1) i j = true from decide_eq_true (by dsimp only; omega))]
      · rw [if_neg w]
        by_cases y : hC s i 1 = hC s j 1
        · rw [if_pos y]
          by_cases x : i ≤ j
          · rw [if_pos (nI_le x (by omega)), F, if_neg (by rw [show kb (fun k => hC s k 2) (fun k => hC s k 1) i j = false from decide_eq_false (by dsimp only; omega)]; decide)]
          · rw [if_neg (nI_ge (by omega) (by omega)), T, if_pos (show kb (fun k => hC s k 2) (fun k => hC s k 1) i j = true from decide_eq_true (by dsimp only; omega))]
        · rw [if_neg y, F, if_neg (by rw [show kb (fun k => hC s k 2) (fun k => hC s k 1) i j = false from decide_eq_false (by dsimp only; omega)]; decide)]
    · rw [if_neg z]
      by_cases w : hC s i 2 < hC s j 2
      · rw [if_pos w, T, if_pos (show kb (fun k => hC s k 2) (fun k => hC s k 1) i j = true from decide_eq_true (by dsimp only; omega))]
      · rw [if_neg w, if_neg z, F, if_neg (by rw [show kb (fun k => hC s k 2) (fun k => hC s k 1) i j = false from decide_eq_false (by dsimp only; omega)]; decide)]
theorem mwho_Sighs (d : dH (M.1 10) s (aW s)) (hn : s.1 0 ≤ 12) (hu : ∀ k, k < 12 → hC s k 2 < 2 ^ 30 ∧ hC s k 1 < 2 ^ 30 ∧ hC s k 5 ≤ 1) {a : Int32} : ∀ (m i n : Nat), i + m = s.1 0 → m < n → f_X7_customerBySighs_L7 a M n (nI i) = match pf (fun i => decide (nI (rk (fun k => hC s k 2) (fun k => hC s k 1) (s.1 0) i) = a)) i m with | some x => some (nI x, M) | none => some (mI, sI M 9 9 (nI 1))
  | 0, i, n, e, hm => by
    obtain ⟨n, rfl⟩ : ∃ n', n = n' + 1 := ⟨n - 1, by omega⟩
    rw [f_X7_customerBySighs_L7.eq_2]
    simp (disch := omega) only [↓reduceIte, pi_0, pi_1, pi_2, pi_3, pi_4, pi_5, pi_6, pi_7, pi_8, pi_9, pi_10, pi_11, pi_12, pi_13, pi_20, pi_27, pi_30, pi_60, pi_99, pi_115, pi_123, pi_135, pi_136, pi_137, pi_138, pi_139, pi_158, pi_159, pi_1113, m_neg, nI_add, pk_mul, pi_sub, mI_dec, pi_cl, pi_leT, pi_leF, pi_ltT, pi_ltF, pi_eqT, pi_eqF, mI_n, m_in159, Option.bind_some, f_X7_personAt, f_X7_windowAt, mG_i, mG_g, mG_s, pk_us, pk_un, d.n, m_throw]
    rfl
  | m + 1, i, n, e, hm => by
    obtain ⟨n, rfl⟩ : ∃ n', n = n' + 1 := ⟨n - 1, by omega⟩
    rw [f_X7_customerBySighs_L7.eq_2, pi_0, pi_cl (by decide), d.n, if_pos (by decide), if_neg (nI_ge (by omega) (by omega)), mrk_Sighs d hn hu (by omega) _ (s.1 0) 0 0 xF (by omega) (by rw [xF_2000]; omega), Nat.zero_add, pi_1, nI_add]
    show (if nI (rk (fun k => hC s k 2) (fun k => hC s k 1) (s.1 0) i) = a then some (nI i, M) else f_X7_customerBySighs_L7 a M n (nI (i + 1))) = match (if decide (nI (rk (fun k => hC s k 2) (fun k => hC s k 1) (s.1 0) i) = a) = true then some i else pf (fun i => decide (nI (rk (fun k => hC s k 2) (fun k => hC s k 1) (s.1 0) i) = a)) (i + 1) m) with | some x => some (nI x, M) | none => some (mI, sI M 9 9 (nI 1))
    by_cases z : nI (rk (fun k => hC s k 2) (fun k => hC s k 1) (s.1 0) i) = a
    · rw [if_pos z, if_pos (decide_eq_true z)]
    · rw [if_neg z, if_neg (by rw [decide_eq_false z]; decide), mwho_Sighs d hn hu m (i + 1) n (by omega) (by omega)]
theorem mq_Sighs (d : dH (M.1 10) s (aW s)) (hn : s.1 0 ≤ 12) (hu : ∀ k, k < 12 → hC s k 2 < 2 ^ 30 ∧ hC s k 1 < 2 ^ 30 ∧ hC s k 5 ≤ 1) {a : Int32} : ∃ M', f_X7_customerBySighs a M = some (om (qRk (fun k => hC s k 2) (fun k => hC s k 1) (ix a) s), M') ∧ mq M M' (qRk (fun k => hC s k 2) (fun k => hC s k 1) (ix a) s) := by
  have d1 : dH ((sI M 9 9 (nI 0)).1 10) s (aW s) := by rw [sI_c (by decide)]; exact d
  unfold f_X7_customerBySighs
  rw [x_let_e, pi_0, mwho_Sighs d1 hn hu (s.1 0) 0 xF (by omega) (by rw [xF_2000]; omega)]
  by_cases h : ix a < s.1 0
  · have ea := ix_eq (a := a) (by omega)
    generalize ix a = x at h ea ⊢
    subst ea
    obtain ⟨i0, h0, e0⟩ := rk_ex (P := (fun k => hC s k 2)) (S := (fun k => hC s k 1)) h
    rw [pf_is (j := i0) (by omega) (by omega) (decide_eq_true (by rw [e0])) (fun k _ hk => decide_eq_false (fun z => by
      have l := rk_lt (P := (fun k => hC s k 2)) (S := (fun k => hC s k 1)) (n := s.1 0) (i := k) (by omega)
      have z := (nI_eq (by omega) (by omega)).mp z
      have := rk_inj (by omega) h0 (z.trans e0.symm)
      omega)), qRk_1 h h0 e0]
    exact ⟨_, rfl, mq_0⟩
  · unfold qRk
    rw [if_neg h, pf_no fun k _ hk => decide_eq_false (fun z => ix_no (by omega) h _ (rk_lt (P := (fun k => hC s k 2)) (S := (fun k => hC s k 1)) (n := s.1 0) (i := k) (by omega)) z.symm)]
    exact ⟨_, rfl, mq_t⟩
theorem rku_Sighs {B : Nat} (v : aV B s) (hB2 : B < 2 ^ 29) : ∀ k, k < 12 → hC s k 2 < 2 ^ 30 ∧ hC s k 1 < 2 ^ 30 ∧ hC s k 5 ≤ 1 := fun k hk => by
  have a := v.1.1.1.1.2.2.2.2 k hk
  have b := v.2.2.2 k hk
  have c := (v.1.2 k hk).1
  exact ⟨by omega, by omega, c⟩
theorem lc_34 {B : Nat} {M : xM} {sc : Nat → Int32} {L : Nat} {I : Int32} (g : gR B M) (hB2 : B < 2 ^ 29) (h1 : x_in (I + 1) L = true) : ∃ M', f_law_c34 sc L I M = some M' ∧ gR (B + 400) M' := by
  obtain ⟨s, u, H, sf, sn, ef, fl, Ln, t, O, o, c0, g0, x0, v, vh, vs⟩ := id g
  have hu := rku_Sighs v hB2
  unfold f_law_c34
  rw [if_pos h1]
  rw [cq_Sighs c0 v.1.1.1.1.1 hu, Option.bind_some]
  rw [if_pos h1]
  obtain ⟨M2, m1, m2⟩ := mq_Sighs (M := ql (qRk (fun k => hC s k 2) (fun k => hC s k 1) (ix (sc (I + 1).toNatClampNeg)) s) M) (by rw [ql_1]; exact g0.1) v.1.1.1.1.1 hu (a := sc (I + 1).toNatClampNeg)
  rw [m1, Option.bind_some]
  obtain ⟨e1, e2⟩ := lw_q (o := qRk (fun k => hC s k 2) (fun k => hC s k 1) (ix (sc (I + 1).toNatClampNeg)) s) g qRk_le m2
  exact ⟨M2, e1, gR_le e2 (by omega)⟩
theorem cbf_Waits {h : Nat} (r : cR h M s) (hu : ∀ k, k < 12 → hC s k 4 < 2 ^ 30 ∧ hC s k 5 < 2 ^ 30 ∧ hC s k 5 ≤ 1) {i j : Nat} (hi : i < 12) (hj : j < 12) : f_X2_waitsBefore (M.2.1 (h + 1) i) (M.2.1 (h + 1) j) M = some (nI (bfo (fun k => hC s k 4) (fun k => hC s k 5) i j)) := by
  obtain ⟨i1, i2, i3⟩ := hu i hi
  obtain ⟨j1, j2, j3⟩ := hu j hj
  have p1 : M.1 (M.2.1 (h + 1) i) 4 = nI (hC s i 4) := r.c hi (by decide)
  have p2 : M.1 (M.2.1 (h + 1) j) 4 = nI (hC s j 4) := r.c hj (by decide)
  have s1 : M.1 (M.2.1 (h + 1) i) 5 = nI (hC s i 5) := r.c hi (by decide)
  have s2 : M.1 (M.2.1 (h + 1) j) 5 = nI (hC s j 5) := r.c hj (by decide)
  unfold f_X2_waitsBefore bfo
  dsimp only
  rw [p1, p2, s1, s2]
  by_cases z : hC s i 4 = hC s j 4
  · rw [if_pos z, if_pos (by rw [z])]
    by_cases w : hC s i 5 = 0
    · rw [if_pos (show nI (hC s i 5) = 0 by rw [w]; rfl)]
      by_cases y : hC s j 5 = 0
      · rw [if_pos (show nI (hC s j 5) = 0 by rw [y]; rfl), if_pos (show hC s j 5 ≤ hC s i 5 by omega)]; rfl
      · rw [if_neg (show ¬ nI (hC s j 5) = 0 from fun x => y ((nI_eq (b := 0) (by omega) (by omega)).mp x)), if_neg (show ¬ hC s j 5 ≤ hC s i 5 by omega)]; rfl
    · rw [if_neg (show ¬ nI (hC s i 5) = 0 from fun x => w ((nI_eq (b := 0) (by omega) (by omega)).mp x)), if_pos (show hC s j 5 ≤ hC s i 5 by omega)]; rfl
  · rw [if_neg z, if_neg (fun x => z ((nI_eq (by omega) (by omega)).mp x))]
    by_cases w : hC s i 4 ≤ hC s j 4
    · rw [if_pos w, if_pos (nI_le w (by omega))]; rfl
    · rw [if_neg w, if_neg (nI_ge (by omega) (by omega))]; rfl
theorem crk_Waits {h : Nat} (r : cR h M s) (hn : s.1 0 ≤ 12) (hu : ∀ k, k < 12 → hC s k 4 < 2 ^ 30 ∧ hC s k 5 < 2 ^ 30 ∧ hC s k 5 ≤ 1) {i : Nat} (hi : i < 12) : ∀ (m j c n : Nat), j + m = s.1 0 → m < n → f_X3_rankByWaitingTime_L4 h (nI i) M n (nI c) (nI j) = some (nI (c + pc (kb (fun k => hC s k 4) (fun k => hC s k 5) i) j m))
  | 0, j, c, n, e, hm => by
    obtain ⟨n, rfl⟩ : ∃ n', n = n' + 1 := ⟨n - 1, by omega⟩
    rw [f_X3_rankByWaitingTime_L4.eq_2, r.n, if_pos (nI_le (by omega) (by omega))]
    rfl
  | m + 1, j, c, n, e, hm => by
    obtain ⟨n, rfl⟩ : ∃ n', n = n' + 1 := ⟨n - 1, by omega⟩
    have hj : j < 12 := by omega
    have b1 := cbf_Waits r hu hi hj
    have b2 := cbf_Waits r hu hj hi
    have k1 := r.ckT hi
    have k2 := r.ckT hj
    rw [f_X3_rankByWaitingTime_L4.eq_2, r.n, if_neg (nI_ge (by omega) (by omega)), pi_1, nI_add, nI_add]
    simp (disch := omega) only [m_in12, pi_cl, k1, k2, ↓reduceIte, b1, b2, Option.bind_some]
    rw [pc_s]
    by_cases z : bfo (fun k => hC s k 4) (fun k => hC s k 5) i j = 0
    · rw [if_pos (show nI (bfo (fun k => hC s k 4) (fun k => hC s k 5) i j) = 0 by rw [z]; rfl)]
      by_cases w : bfo (fun k => hC s k 4) (fun k => hC s k 5) j i = 0
      · rw [if_pos (show nI (bfo (fun k => hC s k 4) (fun k => hC s k 5) j i) = 0 by rw [w]; rfl), if_neg (show ¬ nI 1 = 0 by decide)]
        by_cases y : i ≤ j
        · rw [if_pos (nI_le y (by omega)), crk_Waits r hn hu hi m (j + 1) c n (by omega) (by omega), if_neg (by rw [show kb (fun k => hC s k 4) (fun k => hC s k 5) i j = false from decide_eq_false (by unfold bfo at z w; dsimp only at z w ⊢; split at z <;> split at z <;> split at w <;> split at w <;> omega)]; decide), Nat.zero_add]
        · rw [if_neg (nI_ge (by omega) (by omega)), crk_Waits r hn hu hi m (j + 1) (c + 1) n (by omega) (by omega), if_pos (show kb (fun k => hC s k 4) (fun k => hC s k 5) i j = true from decide_eq_true (by unfold bfo at z w; dsimp only at z w ⊢; split at z <;> split at z <;> split at w <;> split at w <;> omega)), Nat.add_assoc]
      · rw [if_neg (show ¬ nI (bfo (fun k => hC s k 4) (fun k => hC s k 5) j i) = 0 from fun x => w ((nI_eq (b := 0) (by unfold bfo; split <;> split <;> omega) (by omega)).mp x)), crk_Waits r hn hu hi m (j + 1) (c + 1) n (by omega) (by omega), if_pos (show kb (fun k => hC s k 4) (fun k => hC s k 5) i j = true from decide_eq_true (by unfold bfo at z w; dsimp only at z w ⊢; split at z <;> split at z <;> split at w <;> split at w <;> omega)), Nat.add_assoc]
    · rw [if_neg (show ¬ nI (bfo (fun k => hC s k 4) (fun k => hC s k 5) i j) = 0 from fun x => z ((nI_eq (b := 0) (by unfold bfo; split <;> split <;> omega) (by omega)).mp x))]
      have w : bfo (fun k => hC s k 4) (fun k => hC s k 5) j i = 0 := by unfold bfo at z ⊢; dsimp only at z ⊢; split at z <;> split at z <;> split <;> split <;> omega
      rw [if_pos (show nI (bfo (fun k => hC s k 4) (fun k => hC s k 5) j i) = 0 by rw [w]; rfl), crk_Waits r hn hu hi m (j + 1) c n (by omega) (by omega), if_neg (by rw [show kb (fun k => hC s k 4) (fun k => hC s k 5) i j = false from decide_eq_false (by unfold bfo at z w; dsimp only at z w ⊢; split at z <;> split at z <;> split at w <;> split at w <;> omega)]; decide), Nat.zero_add]
theorem cwho_Waits (g : gC M s u H sf sn) (hn : s.1 0 ≤ 12) (hu : ∀ k, k < 12 → hC s k 4 < 2 ^ 30 ∧ hC s k 5 < 2 ^ 30 ∧ hC s k 5 ≤ 1) {a i0 : Nat} (ha : a < 12) (hi0 : i0 < s.1 0) (e0 : rk (fun k => hC s k 4) (fun k => hC s k 5) (s.1 0) i0 = a) : ∀ (m j l n : Nat), j + m = s.1 0 → m < n → f_X6_customerByWaitingTime_L9 (nI a) M n (nI l) (nI j) = some (.inl (nI (if j ≤ i0 then i0 else l)))
  | 0, j, l, n, e, hm => by
    obtain ⟨n, rfl⟩ : ∃ n', n = n' + 1 := ⟨n - 1, by omega⟩
    rw [f_X6_customerByWaitingTime_L9.eq_2, if_pos g.k0, g.r.n, if_pos (nI_le (by omega) (by omega)), if_neg (by omega)]
  | m + 1, j, l, n, e, hm => by
    obtain ⟨n, rfl⟩ : ∃ n', n = n' + 1 := ⟨n - 1, by omega⟩
    have hr : f_X3_rankByWaitingTime (M.2.1 0 0) (nI j) M = some (nI (rk (fun k => hC s k 4) (fun k => hC s k 5) (s.1 0) j)) := by
      unfold f_X3_rankByWaitingTime
      rw [pi_0, crk_Waits g.r hn hu (by omega) (s.1 0) 0 0 xF (by omega) (by rw [xF_2000]; omega), Nat.zero_add]
      rfl
    have hk := rk_lt (P := (fun k => hC s k 4)) (S := (fun k => hC s k 5)) (n := s.1 0) (i := j) (by omega)
    rw [f_X6_customerByWaitingTime_L9.eq_2, if_pos g.k0, g.r.n, if_neg (nI_ge (by omega) (by omega)), if_pos g.k0, hr, Option.bind_some, pi_1, nI_add]
    by_cases z : rk (fun k => hC s k 4) (fun k => hC s k 5) (s.1 0) j = a
    · have ej : j = i0 := rk_inj (by omega) hi0 (z.trans e0.symm)
      rw [if_pos (show nI (rk (fun k => hC s k 4) (fun k => hC s k 5) (s.1 0) j) = nI a by rw [z]), cwho_Waits g hn hu ha hi0 e0 m (j + 1) j n (by omega) (by omega), if_neg (by omega), if_pos (by omega), ej]
    · have ej : j ≠ i0 := fun x => z (by rw [x]; exact e0)
      rw [if_neg (fun x => z ((nI_eq (by omega) (by omega)).mp x)), cwho_Waits g hn hu ha hi0 e0 m (j + 1) l n (by omega) (by omega)]
      by_cases w : j ≤ i0
      · rw [if_pos w, if_pos (show j + 1 ≤ i0 by omega)]
      · rw [if_neg w, if_neg (show ¬ j + 1 ≤ i0 by omega)]
theorem cq_Waits (g : gC M s u H sf sn) (hn : s.1 0 ≤ 12) (hu : ∀ k, k < 12 → hC s k 4 < 2 ^ 30 ∧ hC s k 5 < 2 ^ 30 ∧ hC s k 5 ≤ 1) {a : Int32} : f_L_customerByWaitingTime a M = some (nI (qRk (fun k => hC s k 4) (fun k => hC s k 5) (ix a) s).1, ql (qRk (fun k => hC s k 4) (fun k => hC s k 5) (ix a) s) M) := by
  unfold f_L_customerByWaitingTime f_X6_customerByWaitingTime
  rw [c_rank_ g hn]
  by_cases h : ix a < s.1 0
  · have ea := ix_eq (a := a) (by omega)
    rw [if_pos h]
    generalize ix a = x at h ea ⊢
    subst ea
    obtain ⟨i0, h0, e0⟩ := rk_ex (P := (fun k => hC s k 4)) (S := (fun k => hC s k 5)) h
    rw [Option.bind_some, x_case_l, pi_0, cwho_Waits g hn hu (by omega) h0 e0 (s.1 0) 0 0 xF (by omega) (by rw [xF_2000]; omega), if_pos (by omega), qRk_1 h h0 e0]
    rfl
  · unfold qRk
    rw [if_neg h, if_neg h]
    rfl
theorem mrk_Waits (d : dH (M.1 10) s (aW s)) (hn : s.1 0 ≤ 12) (hu : ∀ k, k < 12 → hC s k 4 < 2 ^ 30 ∧ hC s k 5 < 2 ^ 30 ∧ hC s k 5 ≤ 1) {i : Nat} (hi : i < s.1 0) {a : Int32} (kx : Int32 → Option (Int32 × xM)) : ∀ (m j c n : Nat), j + m = s.1 0 → m < n → f_X7_customerByWaitingTime_L22 a (nI i) M kx n (nI c) (nI j) = kx (nI (c + pc (kb (fun k => hC s k 4) (fun k => hC s k 5) i) j m))
  | 0, j, c, n, e, hm => by
    obtain ⟨n, rfl⟩ : ∃ n', n = n' + 1 := ⟨n - 1, by omega⟩
    rw [f_X7_customerByWaitingTime_L22.eq_2]
    simp (disch := omega) only [↓reduceIte, pi_0, pi_1, pi_2, pi_3, pi_4, pi_5, pi_6, pi_7, pi_8, pi_9, pi_10, pi_11, pi_12, pi_13, pi_20, pi_27, pi_30, pi_60, pi_99, pi_115, pi_123, pi_135, pi_136, pi_137, pi_138, pi_139, pi_158, pi_159, pi_1113, m_neg, nI_add, pk_mul, pi_sub, mI_dec, pi_cl, pi_leT, pi_leF, pi_ltT, pi_ltF, pi_eqT, pi_eqF, mI_n, m_in159, Option.bind_some, f_X7_personAt, f_X7_windowAt, mG_i, mG_g, mG_s, pk_us, pk_un, d.n]
    rfl
  | m + 1, j, c, n, e, hm => by
    obtain ⟨n, rfl⟩ : ∃ n', n = n' + 1 := ⟨n - 1, by omega⟩
    obtain ⟨i1, i2, i3⟩ := hu i (by omega)
    obtain ⟨j1, j2, j3⟩ := hu j (by omega)
    have hj : j < s.1 0 := by omega
    have p1 := d.p4 hi
    have p2 := d.p4 hj
    have s1 := d.p5 hi
    have s2 := d.p5 hj
    rw [f_X7_customerByWaitingTime_L22.eq_2]
    simp (disch := omega) only [↓reduceIte, pi_0, pi_1, pi_2, pi_3, pi_4, pi_5, pi_6, pi_7, pi_8, pi_9, pi_10, pi_11, pi_12, pi_13, pi_20, pi_27, pi_30, pi_60, pi_99, pi_115, pi_123, pi_135, pi_136, pi_137, pi_138, pi_139, pi_158, pi_159, pi_1113, m_neg, nI_add, pk_mul, mI_dec, pi_cl, pi_leT, pi_leF, mI_n, m_in159, Option.bind_some, f_X7_personAt, d.n, p1, p2, s1, s2, pi_sub0, pi_subp]
    rw [pc_s]
    have T := mrk_Waits d hn hu hi (a := a) kx m (j + 1) (c + 1) n (by omega) (by omega)
    have F := mrk_Waits d hn hu hi (a := a) kx m (j + 1) (c + 0) n (by omega) (by omega)
    rw [Nat.add_assoc] at T F
    by_cases z : hC s j 4 = hC s i 4
    · rw [if_pos z]
      by_cases w : hC s j 5 < hC s i 5
      · rw [if_pos w, T, if_pos (show kb (fun k => hC s k 4) (fun k => hC s k 5) i j = true from decide_eq_true (by dsimp only; omega))]
      · rw [if_neg w]
        by_cases y : hC s i 5 = hC s j 5
        · rw [if_pos y]
          by_cases x : i ≤ j
          · rw [if_pos (nI_le x (by omega)), F, if_neg (by rw [show kb (fun k => hC s k 4) (fun k => hC s k 5) i j = false from decide_eq_false (by dsimp only; omega)]; decide)]
          · rw [if_neg (nI_ge (by omega) (by omega)), T, if_pos (show kb (fun k => hC s k 4) (fun k => hC s k 5) i j = true from decide_eq_true (by dsimp only; omega))]
        · rw [if_neg y, F, if_neg (by rw [show kb (fun k => hC s k 4) (fun k => hC s k 5) i j = false from decide_eq_false (by dsimp only; omega)]; decide)]
    · rw [if_neg z]
      by_cases w : hC s i 4 < hC s j 4
      · rw [if_pos w, T, if_pos (show kb (fun k => hC s k 4) (fun k => hC s k 5) i j = true from decide_eq_true (by dsimp only; omega))]
      · rw [if_neg w, if_neg z, F, if_neg (by rw [show kb (fun k => hC s k 4) (fun k => hC s k 5) i j = false from decide_eq_false (by dsimp only; omega)]; decide)]
theorem mwho_Waits (d : dH (M.1 10) s (aW s)) (hn : s.1 0 ≤ 12) (hu : ∀ k, k < 12 → hC s k 4 < 2 ^ 30 ∧ hC s k 5 < 2 ^ 30 ∧ hC s k 5 ≤ 1) {a : Int32} : ∀ (m i n : Nat), i + m = s.1 0 → m < n → f_X7_customerByWaitingTime_L7 a M n (nI i) = match pf (fun i => decide (nI (rk (fun k => hC s k 4) (fun k => hC s k 5) (s.1 0) i) = a)) i m with | some x => some (nI x, M) | none => some (mI, sI M 9 9 (nI 1))
  | 0, i, n, e, hm => by
    obtain ⟨n, rfl⟩ : ∃ n', n = n' + 1 := ⟨n - 1, by omega⟩
    rw [f_X7_customerByWaitingTime_L7.eq_2]
    simp (disch := omega) only [↓reduceIte, pi_0, pi_1, pi_2, pi_3, pi_4, pi_5, pi_6, pi_7, pi_8, pi_9, pi_10, pi_11, pi_12, pi_13, pi_20, pi_27, pi_30, pi_60, pi_99, pi_115, pi_123, pi_135, pi_136, pi_137, pi_138, pi_139, pi_158, pi_159, pi_1113, m_neg, nI_add, pk_mul, pi_sub, mI_dec, pi_cl, pi_leT, pi_leF, pi_ltT, pi_ltF, pi_eqT, pi_eqF, mI_n, m_in159, Option.bind_some, f_X7_personAt, f_X7_windowAt, mG_i, mG_g, mG_s, pk_us, pk_un, d.n, m_throw]
    rfl
  | m + 1, i, n, e, hm => by
    obtain ⟨n, rfl⟩ : ∃ n', n = n' + 1 := ⟨n - 1, by omega⟩
    rw [f_X7_customerByWaitingTime_L7.eq_2, pi_0, pi_cl (by decide), d.n, if_pos (by decide), if_neg (nI_ge (by omega) (by omega)), mrk_Waits d hn hu (by omega) _ (s.1 0) 0 0 xF (by omega) (by rw [xF_2000]; omega), Nat.zero_add, pi_1, nI_add]
    show (if nI (rk (fun k => hC s k 4) (fun k => hC s k 5) (s.1 0) i) = a then some (nI i, M) else f_X7_customerByWaitingTime_L7 a M n (nI (i + 1))) = match (if decide (nI (rk (fun k => hC s k 4) (fun k => hC s k 5) (s.1 0) i) = a) = true then some i else pf (fun i => decide (nI (rk (fun k => hC s k 4) (fun k => hC s k 5) (s.1 0) i) = a)) (i + 1) m) with | some x => some (nI x, M) | none => some (mI, sI M 9 9 (nI 1))
    by_cases z : nI (rk (fun k => hC s k 4) (fun k => hC s k 5) (s.1 0) i) = a
    · rw [if_pos z, if_pos (decide_eq_true z)]
    · rw [if_neg z, if_neg (by rw [decide_eq_false z]; decide), mwho_Waits d hn hu m (i + 1) n (by omega) (by omega)]
theorem mq_Waits (d : dH (M.1 10) s (aW s)) (hn : s.1 0 ≤ 12) (hu : ∀ k, k < 12 → hC s k 4 < 2 ^ 30 ∧ hC s k 5 < 2 ^ 30 ∧ hC s k 5 ≤ 1) {a : Int32} : ∃ M', f_X7_customerByWaitingTime a M = some (om (qRk (fun k => hC s k 4) (fun k => hC s k 5) (ix a) s), M') ∧ mq M M' (qRk (fun k => hC s k 4) (fun k => hC s k 5) (ix a) s) := by
  have d1 : dH ((sI M 9 9 (nI 0)).1 10) s (aW s) := by rw [sI_c (by decide)]; exact d
  unfold f_X7_customerByWaitingTime
  rw [x_let_e, pi_0, mwho_Waits d1 hn hu (s.1 0) 0 xF (by omega) (by rw [xF_2000]; omega)]
  by_cases h : ix a < s.1 0
  · have ea := ix_eq (a := a) (by omega)
    generalize ix a = x at h ea ⊢
    subst ea
    obtain ⟨i0, h0, e0⟩ := rk_ex (P := (fun k => hC s k 4)) (S := (fun k => hC s k 5)) h
    rw [pf_is (j := i0) (by omega) (by omega) (decide_eq_true (by rw [e0])) (fun k _ hk => decide_eq_false (fun z => by
      have l := rk_lt (P := (fun k => hC s k 4)) (S := (fun k => hC s k 5)) (n := s.1 0) (i := k) (by omega)
      have z := (nI_eq (by omega) (by omega)).mp z
      have := rk_inj (by omega) h0 (z.trans e0.symm)
      omega)), qRk_1 h h0 e0]
    exact ⟨_, rfl, mq_0⟩
  · unfold qRk
    rw [if_neg h, pf_no fun k _ hk => decide_eq_false (fun z => ix_no (by omega) h _ (rk_lt (P := (fun k => hC s k 4)) (S := (fun k => hC s k 5)) (n := s.1 0) (i := k) (by omega)) z.symm)]
    exact ⟨_, rfl, mq_t⟩
theorem rku_Waits {B : Nat} (v : aV B s) (hB2 : B < 2 ^ 29) : ∀ k, k < 12 → hC s k 4 < 2 ^ 30 ∧ hC s k 5 < 2 ^ 30 ∧ hC s k 5 ≤ 1 := fun k hk => by
  have a := v.1.1.1.1.2.2.2.2 k hk
  have b := v.2.2.2 k hk
  have c := (v.1.2 k hk).1
  exact ⟨by omega, by omega, c⟩
theorem lc_35 {B : Nat} {M : xM} {sc : Nat → Int32} {L : Nat} {I : Int32} (g : gR B M) (hB2 : B < 2 ^ 29) (h1 : x_in (I + 1) L = true) : ∃ M', f_law_c35 sc L I M = some M' ∧ gR (B + 400) M' := by
  obtain ⟨s, u, H, sf, sn, ef, fl, Ln, t, O, o, c0, g0, x0, v, vh, vs⟩ := id g
  have hu := rku_Waits v hB2
  unfold f_law_c35
  rw [if_pos h1]
  rw [cq_Waits c0 v.1.1.1.1.1 hu, Option.bind_some]
  rw [if_pos h1]
  obtain ⟨M2, m1, m2⟩ := mq_Waits (M := ql (qRk (fun k => hC s k 4) (fun k => hC s k 5) (ix (sc (I + 1).toNatClampNeg)) s) M) (by rw [ql_1]; exact g0.1) v.1.1.1.1.1 hu (a := sc (I + 1).toNatClampNeg)
  rw [m1, Option.bind_some]
  obtain ⟨e1, e2⟩ := lw_q (o := qRk (fun k => hC s k 4) (fun k => hC s k 5) (ix (sc (I + 1).toNatClampNeg)) s) g qRk_le m2
  exact ⟨M2, e1, gR_le e2 (by omega)⟩
end RK
