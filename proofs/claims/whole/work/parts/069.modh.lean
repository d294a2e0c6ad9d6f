/-! pure: the model: one goes, whole -/
/-- at which window a customer is (one up; 0: in the queue) -/
def aW (s : hS) (i : Nat) : Nat := match pf (fun w => decide (wo s w = i + 1)) 0 3 with
  | some w => w + 1
  | none => 0
theorem aW_0 {s : hS} {i : Nat} (h : ∀ w, w < 3 → wo s w ≠ i + 1) : aW s i = 0 := by
  unfold aW
  rw [pf_no fun w _ hw => decide_eq_false (h w (by omega))]
theorem aW_s {s : hS} {i w : Nat} (k : aK s) (hw : w < 3) (h : wo s w = i + 1) : aW s i = w + 1 := by
  unfold aW
  rw [pf_is (p := fun w => decide (wo s w = i + 1)) (j := w) (by omega) (by omega) (decide_eq_true h) (fun v _ hv => decide_eq_false fun z => by
    have := k.1.2.2.2.1 v w (by omega) hw (by omega) (z.trans h.symm)
    omega)]
theorem aW_n {s : hS} {i : Nat} (h : aW s i = 0) : ∀ w, w < 3 → wo s w ≠ i + 1 := by
  unfold aW at h
  cases e : pf (fun w => decide (wo s w = i + 1)) 0 3 with
  | none => exact fun w hw => of_decide_eq_false (pf_none e w (by omega) (by omega))
  | some w => rw [e] at h; cases h
theorem aW_w {s : hS} {i w : Nat} (h : aW s i = w + 1) : w < 3 ∧ wo s w = i + 1 := by
  unfold aW at h
  cases e : pf (fun w => decide (wo s w = i + 1)) 0 3 with
  | none => rw [e] at h; cases h
  | some v =>
    rw [e] at h
    obtain ⟨h1, h2, h3, h4⟩ := pf_some e
    have h : v + 1 = w + 1 := h
    have : v = w := by omega
    subst this
    exact ⟨by omega, of_decide_eq_true h3⟩
theorem aW_le {s : hS} {i : Nat} : aW s i ≤ 3 := by
  cases h : aW s i with
  | zero => omega
  | succ w => have := (aW_w h).1; omega
theorem aW_cg {s t : hS} {i j : Nat} (h : ∀ w, w < 3 → (wo s w = i + 1 ↔ wo t w = j + 1)) : aW s i = aW t j := by
  unfold aW
  rw [pf_cong (q := fun w => decide (wo t w = j + 1)) fun w _ hw => decide_eq_decide.mpr (h w (by omega))]
theorem dH.ca {g : Nat → Int32} {s : hS} {a a' : Nat → Nat} (d : dH g s a) (h : ∀ i, i < s.1 0 → a' i = a i) : dH g s a' := ⟨d.1, d.2.1, d.2.2.1, d.2.2.2.1, fun i hi => by rw [h i hi]; exact d.at_ hi, d.2.2.2.2.2⟩
theorem dH_take {g : Nat → Int32} {s : hS} {a : Nat → Nat} {p : Nat} (d : dH g s a) (b : aB s) (hp : p < s.1 7) : dH (mLv p (s.1 7) g) (aTake p s) a := by
  have hq := b.2.1
  have hn := b.1
  have n' : (aTake p s).1 0 = s.1 0 := aTake_n (by decide)
  have q' : (aTake p s).1 7 = s.1 7 - 1 := aTake_7
  have ot : ∀ x, x ≠ 9 → x < 123 ∨ 135 ≤ x → mLv p (s.1 7) g x = g x := fun x h1 h2 => by
    unfold mLv
    rw [if_neg (by omega), if_neg h1, if_neg (by omega)]
  refine ⟨fun j hj => ?_, ?_, fun w hw => ?_, fun i hi f hf => ?_, fun i hi => ?_, fun k h1 h2 => ?_, fun k hk => ?_, fun r hr => ?_⟩
  · by_cases e : j = 7
    · subst e
      rw [q']
      unfold mLv
      rw [show dix 7 = 9 from rfl, if_neg (by omega), if_pos rfl]
    · rw [aTake_n e, ot _ (fun z => e (dix_inj hj (b := 7) (by decide) z)) (.inl (by have := (dix_le hj).1; omega))]
      exact d.sc hj
  · show mLv p (s.1 7) g 10 = nI (if (aTake p s).1 3 < 6 then (aTake p s).1 3 else 6)
    rw [ot 10 (by omega) (by omega), aTake_n (by decide)]
    exact d.k10
  · rw [ot _ (by omega) (by omega), ot _ (by omega) (by omega), ot _ (by omega) (by omega), ot _ (by omega) (by omega)]
    exact d.2.2.1 w hw
  · rw [n'] at hi
    have := mf_le f
    rw [ot _ (by omega) (by omega)]
    exact d.p hi hf
  · rw [n'] at hi
    rw [ot _ (by omega) (by omega)]
    exact d.at_ hi
  · rw [n'] at h1
    rw [ot _ (by omega) (by omega)]
    exact d.z h1 h2
  · rw [q'] at hk
    rw [aTake_Q hk]
    unfold mLv sk
    by_cases e : p ≤ k
    · rw [if_neg (by omega), if_neg (by omega), if_pos (by omega), if_pos e]
      exact d.q (k := k + 1) (by omega)
    · rw [if_neg (by omega), if_neg (by omega), if_neg (by omega), if_neg e]
      exact d.q (by omega)
  · rw [ot _ (by omega) (by omega), ot _ (by omega) (by omega)]
    exact d.2.2.2.2.2.2.2 r hr
theorem dH_tail {g : Nat → Int32} {s : hS} {a : Nat → Nat} {c : Nat} (d : dH g s a) (b : aB s) (k : aGone c s) (hc : c < s.1 0) : dH (mSh (27 + 8 * c) (s.1 0) (mRW c (wo s) (mRQ c 0 (s.1 7) (hQ s) g))) (aRen c (aDrop c s)) (fun i => a (sk c i)) := by
  have hq := b.2.1
  have hn := b.1
  have n' : (aRen c (aDrop c s)).1 0 = s.1 0 - 1 := aDrop_0 (c := c)
  have o' : ∀ j, j ≠ 0 → (aRen c (aDrop c s)).1 j = s.1 j := fun j hj => aDrop_n (c := c) hj
  have Q' : ∀ k, k < s.1 7 → hQ (aRen c (aDrop c s)) k = dn c (hQ s k) := fun k hk => aRen_Q (s := aDrop c s) (by rw [aDrop_n (by decide)]; exact hk)
  have W' : ∀ w, w < 3 → hW (aRen c (aDrop c s)) w 2 = dn (c + 1) (wo s w) := fun w hw => aRen_W (s := aDrop c s) hw
  have V' : ∀ w f, f ≠ 2 → hW (aRen c (aDrop c s)) w f = hW s w f := fun w f hf => aRen_w (s := aDrop c s) hf
  have C' : ∀ i f, i < s.1 0 - 1 → hC (aRen c (aDrop c s)) i f = hC s (sk c i) f := fun i f hi => aDrop_C hi
  have low : ∀ x, x ≠ 0 → x < 27 → x ≠ 14 → x ≠ 19 → x ≠ 24 → mSh (27 + 8 * c) (s.1 0) (mRW c (wo s) (mRQ c 0 (s.1 7) (hQ s) g)) x = g x := fun x h0 h1 h2 h3 h4 => by
    simp only [mSh, mRW, mRQ]
    rw [if_neg h0, if_neg (by omega), if_neg (by omega), if_neg h2, if_neg h3, if_neg h4, if_neg (by omega)]
  have mid : ∀ i f, i < s.1 0 - 1 → f < 8 → mSh (27 + 8 * c) (s.1 0) (mRW c (wo s) (mRQ c 0 (s.1 7) (hQ s) g)) (27 + 8 * i + f) = g (27 + 8 * sk c i + f) := fun i f hi hf => by
    simp only [mSh, mRW, mRQ]
    unfold sk
    by_cases e : c ≤ i
    · rw [if_neg (by omega), if_neg (by omega), if_pos (by omega), if_neg (by omega), if_neg (by omega), if_neg (by omega), if_neg (by omega), if_pos e]
      congr 1
      omega
    · rw [if_neg (by omega), if_neg (by omega), if_neg (by omega), if_neg (by omega), if_neg (by omega), if_neg (by omega), if_neg (by omega), if_neg e]
  refine ⟨fun j hj => ?_, ?_, fun w hw => ?_, fun i hi f hf => ?_, fun i hi => ?_, fun k h1 h2 => ?_, fun k hk => ?_, fun r hr => ?_⟩
  · by_cases e : j = 0
    · subst e
      rw [n']
      rfl
    · have hx := dix_le hj
      have h0 : dix j ≠ 0 := fun z => e (dix_inj hj (b := 0) (by decide) z)
      rw [o' j e, low _ h0 (by omega) (by omega) (by omega) (by omega)]
      exact d.sc hj
  · show mSh (27 + 8 * c) (s.1 0) (mRW c (wo s) (mRQ c 0 (s.1 7) (hQ s) g)) 10 = nI (if (aRen c (aDrop c s)).1 3 < 6 then (aRen c (aDrop c s)).1 3 else 6)
    rw [low 10 (by omega) (by omega) (by omega) (by omega) (by omega), o' 3 (by decide)]
    exact d.k10
  · rw [V' w 0 (by decide), V' w 1 (by decide), V' w 3 (by decide), low _ (by omega) (by omega) (by omega) (by omega) (by omega), low _ (by omega) (by omega) (by omega) (by omega) (by omega), low (12 + 5 * w + 3) (by omega) (by omega) (by omega) (by omega) (by omega)]
    refine ⟨d.w0 hw, d.w1 hw, ?_, fun z => d.w3 hw fun z2 => z ?_⟩
    · rw [W' w hw]
      simp only [mSh, mRW, mRQ]
      rw [if_neg (by omega), if_neg (by omega), if_neg (by omega)]
      obtain rfl | rfl | rfl : w = 0 ∨ w = 1 ∨ w = 2 := by omega
      · rfl
      · rfl
      · rfl
    · rw [W' w hw, show wo s w = 0 from z2]
      rfl
  · rw [n'] at hi
    have := mf_le f
    rw [C' i f hi, mid i (mf f) hi (by omega)]
    exact d.p (sk_lt hi) hf
  · rw [n'] at hi
    rw [mid i 7 hi (by omega)]
    exact d.at_ (sk_lt hi)
  · rw [n'] at h1
    simp only [mSh, mRW, mRQ]
    rw [if_neg (by omega)]
    by_cases e : 115 ≤ k ∧ k < 123
    · rw [if_pos e]
    · rw [if_neg e, if_pos (by omega), if_neg (by omega), if_neg (by omega), if_neg (by omega), if_neg (by omega)]
      exact d.z (by omega) (by omega)
  · rw [o' 7 (by decide)] at hk
    rw [Q' k hk]
    simp only [mSh, mRW, mRQ]
    rw [if_neg (by omega), if_neg (by omega), if_neg (by omega), if_neg (by omega), if_neg (by omega), if_neg (by omega), if_pos (by omega), show 123 + k - 123 = k by omega]
  · simp only [mSh, mRW, mRQ]
    rw [if_neg (by omega), if_neg (by omega), if_neg (by omega), if_neg (by omega), if_neg (by omega), if_neg (by omega), if_neg (by omega)]
    rw [if_neg (by omega), if_neg (by omega), if_neg (by omega), if_neg (by omega), if_neg (by omega), if_neg (by omega), if_neg (by omega)]
    exact d.2.2.2.2.2.2.2 r hr
theorem aW_leave {s : hS} {c i : Nat} (k : aK s) (hc : c < s.1 0) : aW (aLeave c s) i = aW s (sk c i) := aW_cg fun w hw => by
  rw [aLeave_W2 k hc hw]
  unfold dn sk
  (repeat' split) <;> omega
set_option maxRecDepth 100000 in
theorem m_goes {M : xM} {s : hS} {c : Nat} (d : dH (M.1 10) s (aW s)) (b : aB s) (k : aK s) (hc : c < s.1 0) : ∃ g', f_X7_goes (nI c) M = some (mG M 10 g') ∧ dH g' (aLeave c s) (aW (aLeave c s)) := by
  have hn := b.1
  have hq := b.2.1
  have gone := aK_gone k hc
  have at_ := d.at_ hc
  have kk := k
  obtain ⟨⟨k1, k2, k3, k4, k5, k6, k7⟩, -⟩ := k
  unfold f_X7_goes aLeave
  rcases aK_in kk hc with ⟨p, hp, e1, e⟩ | ⟨w, hw, e1, e⟩
  · have ea : aW s c = 0 := aW_0 fun w hw => by
      have := k5 p w hp hw
      rw [e1] at this
      exact this
    rw [e] at gone ⊢
    rw [ea] at at_
    simp (disch := omega) only [x_let, ↓reduceIte, pi_0, pi_1, pi_2, pi_3, pi_4, pi_5, pi_6, pi_7, pi_8, pi_9, pi_10, pi_11, pi_12, pi_13, pi_20, pi_27, pi_30, pi_60, pi_99, pi_115, pi_123, pi_135, pi_136, pi_137, pi_138, pi_139, pi_158, pi_159, pi_1113, m_neg, nI_add, pk_mul, pi_sub, mI_dec, pi_cl, pi_leT, pi_leF, pi_ltT, pi_ltF, pi_eqT, pi_eqF, mI_n, m_in159, Option.bind_some, f_X7_personAt, f_X7_windowAt, mG_i, mG_g, mG_s, pk_us, pk_un, at_, eI_z]
    have hpf : pf (fun k => decide (hQ s k = c)) 0 (s.1 7) = some p := pf_is (by omega) (by omega) (decide_eq_true e1) (fun i _ hi => decide_eq_false (fun z => by
      have := k2 i p (by omega) hp (z.trans e1.symm)
      omega))
    rw [m_place d.qn hq (by omega) (fun k hk => d.q hk) b.q31, hpf, oI_s]
    simp only [Option.bind_some]
    rw [m_leaves d.qn hp hq]
    have d1 := dH_take d b hp
    have b1 := aB_take (p := p) b
    have n1 : (aTake p s).1 0 = s.1 0 := aTake_n (by decide)
    simp only [Option.bind_some]
    rw [m_go1 (c := c) (n0 := s.1 0) (q := (aTake p s).1 7) (W := wo (aTake p s)) (Q := hQ (aTake p s)) (by omega) (by omega) hn (fun w hw => gone.2.2.2.2.2.2.2.2 w hw) (fun w hw => (b1.2.2.2.1 w hw).2.2.1) b1.2.1 (fun k hk => b1.2.2.1 k (by have := b1.2.1; omega)) _ 0 xF _ (Nat.zero_add _) (by rw [xF_2000]; have := b1.2.1; omega) (by rw [mG_s, ← n1]; exact d1.n) (by rw [mG_s]; exact d1.qn) (fun w hw => by rw [mG_s]; exact d1.w2 hw) (fun j _ hj => by rw [mG_s]; exact d1.q hj)]
    rw [mG_g]
    refine ⟨_, rfl, ?_⟩
    have t := dH_tail (c := c) d1 b1 gone (by rw [n1]; exact hc)
    rw [mG_s, ← n1]
    refine t.ca fun i hi => ?_
    have := aW_leave (i := i) kk hc
    unfold aLeave at this
    rw [e] at this
    exact this
  · have ea : aW s c = w + 1 := aW_s kk hw e1
    rw [e] at gone ⊢
    rw [ea, eI_s] at at_
    simp (disch := omega) only [x_let, ↓reduceIte, pi_0, pi_1, pi_2, pi_3, pi_4, pi_5, pi_6, pi_7, pi_8, pi_9, pi_10, pi_11, pi_12, pi_13, pi_20, pi_27, pi_30, pi_60, pi_99, pi_115, pi_123, pi_135, pi_136, pi_137, pi_138, pi_139, pi_158, pi_159, pi_1113, m_neg, nI_add, pk_mul, pi_sub, mI_dec, pi_cl, pi_leT, pi_leF, pi_ltT, pi_ltF, pi_eqT, pi_eqF, mI_n, m_in159, Option.bind_some, f_X7_personAt, f_X7_windowAt, mG_i, mG_g, mG_s, pk_us, pk_un, at_, m_mI]
    have d1 := d.uWo hn (w := w) (y := nI 0) hw
    have b1 : aB (uW s w 2 0) := aB_uW b (by omega) (by omega) (by omega) (by omega)
    rw [m_go1 (c := c) (n0 := s.1 0) (q := s.1 7) (W := wo (uW s w 2 0)) (Q := hQ s) (by omega) (by omega) hn (fun w hw => gone.2.2.2.2.2.2.2.2 w hw) (fun w hw => (b1.2.2.2.1 w hw).2.2.1) hq (fun k hk => b.2.2.1 k (by omega)) _ 0 xF _ (Nat.zero_add _) (by rw [xF_2000]; omega) (by rw [mG_s]; exact d1.n) (by rw [mG_s]; exact d1.qn) (fun w hw => by rw [mG_s]; exact d1.w2 hw) (fun j _ hj => by rw [mG_s]; exact d1.q hj)]
    rw [mG_g]
    refine ⟨_, rfl, ?_⟩
    have t := dH_tail (c := c) d1 b1 gone hc
    rw [mG_s]
    refine t.ca fun i hi => ?_
    have := aW_leave (i := i) kk hc
    unfold aLeave at this
    rw [e] at this
    exact this
