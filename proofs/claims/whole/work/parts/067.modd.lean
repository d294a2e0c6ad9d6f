/-! pure: the model's row holds the hall: one cell anew -/
section DU
variable {g : Nat → Int32} {s : hS} {a : Nat → Nat}
theorem dH.wg {g' : Nat → Int32} {s' : hS} (d : dH g s a) (n12 : s.1 0 ≤ 12) (hg : ∀ x, (x < 12 ∨ 27 ≤ x) → g' x = g x) (hs : s'.1 = s.1) (hC_ : hC s' = hC s) (hQ_ : hQ s' = hQ s) (hL_ : hL s' = hL s) (hw : dW g' s') : dH g' s' a := by
  refine ⟨fun j hj => ?_, ?_, hw, fun i hi f hf => ?_, fun i hi => ?_, fun k h1 h2 => ?_, fun k hk => ?_, fun r hr => ?_⟩
  · rw [hs, hg _ (.inl (by have := (dix_le hj).1; omega))]; exact d.sc hj
  · show g' 10 = nI (if s'.1 3 < 6 then s'.1 3 else 6)
    rw [hs, hg 10 (by omega)]; exact d.k10
  · rw [hs] at hi
    rw [hg _ (by omega), hC_]; exact d.p hi hf
  · rw [hs] at hi
    rw [hg _ (by omega)]; exact d.at_ hi
  · rw [hs] at h1
    rw [hg _ (by omega)]; exact d.z h1 h2
  · rw [hs] at hk
    rw [hg _ (by omega), hQ_]; exact d.q hk
  · rw [hg _ (by omega), hg _ (by omega), hL_]; exact d.2.2.2.2.2.2.2 r hr
theorem dH.uW1 (d : dH g s a) (n12 : s.1 0 ≤ 12) {w v : Nat} (hw : w < 3) : dH (upd g (12 + 5 * w + 1) (nI v)) (uW s w 1 v) a := by
  refine d.wg n12 (fun x hx => pk_un (by omega)) rfl rfl rfl rfl (fun v' hv => ?_)
  by_cases e : v' = w
  · subst e
    rw [pk_un (by omega), pk_us, pk_un (by omega), pk_un (by omega), uW_s, uW_f (by decide), uW_f (by decide), uW_f (by decide)]
    exact ⟨d.w0 hw, fun _ => rfl, d.w2 hw, d.w3 hw⟩
  · rw [pk_un (by omega), pk_un (by omega), pk_un (by omega), pk_un (by omega), uW_w e, uW_w e, uW_w e, uW_w e]
    exact d.2.2.1 v' hv
theorem dH.uW3 (d : dH g s a) (n12 : s.1 0 ≤ 12) {w v : Nat} (hw : w < 3) : dH (upd g (12 + 5 * w + 3) (nI v)) (uW s w 3 v) a := by
  refine d.wg n12 (fun x hx => pk_un (by omega)) rfl rfl rfl rfl (fun v' hv => ?_)
  by_cases e : v' = w
  · subst e
    rw [pk_un (by omega), pk_un (by omega), pk_un (by omega), pk_us, uW_s, uW_f (by decide), uW_f (by decide), uW_f (by decide)]
    exact ⟨d.w0 hw, d.w1 hw, d.w2 hw, fun _ => rfl⟩
  · rw [pk_un (by omega), pk_un (by omega), pk_un (by omega), pk_un (by omega), uW_w e, uW_w e, uW_w e, uW_w e]
    exact d.2.2.1 v' hv
theorem dH.uW0 (d : dH g s a) (n12 : s.1 0 ≤ 12) {w v : Nat} (hw : w < 3) (h : v ≠ 0 → hW s w 0 ≠ 0) : dH (upd g (12 + 5 * w) (nI v)) (uW s w 0 v) a := by
  refine d.wg n12 (fun x hx => pk_un (by omega)) rfl rfl rfl rfl (fun v' hv => ?_)
  by_cases e : v' = w
  · subst e
    rw [pk_us, pk_un (by omega), pk_un (by omega), pk_un (by omega), uW_s, uW_f (by decide), uW_f (by decide), uW_f (by decide)]
    exact ⟨rfl, fun z => d.w1 hw (h z), d.w2 hw, d.w3 hw⟩
  · rw [pk_un (by omega), pk_un (by omega), pk_un (by omega), pk_un (by omega), uW_w e, uW_w e, uW_w e, uW_w e]
    exact d.2.2.1 v' hv
theorem dH.uW01 (d : dH g s a) (n12 : s.1 0 ≤ 12) {w o p : Nat} (hw : w < 3) : dH (upd (upd g (12 + 5 * w) (nI o)) (12 + 5 * w + 1) (nI p)) (uW (uW s w 0 o) w 1 p) a := by
  refine d.wg n12 (fun x hx => by rw [pk_un (by omega), pk_un (by omega)]) rfl rfl rfl rfl (fun v' hv => ?_)
  by_cases e : v' = w
  · subst e
    rw [pk_un (by omega), pk_us, pk_us, pk_un (by omega), pk_un (by omega), pk_un (by omega), pk_un (by omega), uW_f (by decide), uW_s, uW_s, uW_f (by decide), uW_f (by decide), uW_f (by decide), uW_f (by decide)]
    exact ⟨rfl, fun _ => rfl, d.w2 hw, d.w3 hw⟩
  · rw [pk_un (by omega), pk_un (by omega), pk_un (by omega), pk_un (by omega), pk_un (by omega), pk_un (by omega), pk_un (by omega), pk_un (by omega), uW_w e, uW_w e, uW_w e, uW_w e, uW_w e, uW_w e, uW_w e, uW_w e]
    exact d.2.2.1 v' hv
theorem dH.uW23 (d : dH g s a) (n12 : s.1 0 ≤ 12) {w o p : Nat} (hw : w < 3) : dH (upd (upd g (12 + 5 * w + 2) (eI o)) (12 + 5 * w + 3) (nI p)) (uW (uW s w 2 o) w 3 p) a := by
  refine d.wg n12 (fun x hx => by rw [pk_un (by omega), pk_un (by omega)]) rfl rfl rfl rfl (fun v' hv => ?_)
  by_cases e : v' = w
  · subst e
    rw [pk_un (by omega), pk_un (by omega), pk_un (by omega), pk_un (by omega), pk_un (by omega), pk_us, pk_us, uW_f (by decide), uW_f (by decide), uW_f (by decide), uW_f (by decide), uW_f (by decide), uW_s, uW_s]
    exact ⟨d.w0 hw, d.w1 hw, rfl, fun _ => rfl⟩
  · rw [pk_un (by omega), pk_un (by omega), pk_un (by omega), pk_un (by omega), pk_un (by omega), pk_un (by omega), pk_un (by omega), pk_un (by omega), uW_w e, uW_w e, uW_w e, uW_w e, uW_w e, uW_w e, uW_w e, uW_w e]
    exact d.2.2.1 v' hv
/-- the window closed: all its cells -/
theorem dH.uWc (d : dH g s a) (n12 : s.1 0 ≤ 12) {w : Nat} (hw : w < 3) {x y : Int32} : dH (upd (upd (upd (upd g (12 + 5 * w) (nI 0)) (12 + 5 * w + 1) x) (12 + 5 * w + 2) mI) (12 + 5 * w + 3) y) (uW (uW s w 0 0) w 2 0) a := by
  refine d.wg n12 (fun x hx => by rw [pk_un (by omega), pk_un (by omega), pk_un (by omega), pk_un (by omega)]) rfl rfl rfl rfl (fun v' hv => ?_)
  by_cases e : v' = w
  · subst e
    rw [uW_f (by decide), uW_s, uW_s]
    refine ⟨?_, fun z => absurd rfl z, ?_, fun z => absurd rfl z⟩
    · simp (disch := omega) only [pk_un, pk_us]
    · simp (disch := omega) only [pk_un, pk_us]
      rfl
  · rw [uW_w e, uW_w e, uW_w e, uW_w e, uW_w e, uW_w e, uW_w e, uW_w e]
    simp (disch := omega) only [pk_un, pk_us]
    exact d.2.2.1 v' hv
/-- the window's customer goes: who and needs -/
theorem dH.uWo (d : dH g s a) (n12 : s.1 0 ≤ 12) {w : Nat} (hw : w < 3) {y : Int32} : dH (upd (upd g (12 + 5 * w + 2) mI) (12 + 5 * w + 3) y) (uW s w 2 0) a := by
  refine d.wg n12 (fun x hx => by rw [pk_un (by omega), pk_un (by omega)]) rfl rfl rfl rfl (fun v' hv => ?_)
  by_cases e : v' = w
  · subst e
    rw [uW_f (by decide), uW_f (by decide), uW_s]
    refine ⟨?_, fun z => ?_, ?_, fun z => absurd rfl z⟩
    · simp (disch := omega) only [pk_un, pk_us]; exact d.w0 hw
    · simp (disch := omega) only [pk_un, pk_us]; exact d.w1 hw z
    · simp (disch := omega) only [pk_un, pk_us]
      rfl
  · rw [uW_w e, uW_w e, uW_w e, uW_w e]
    simp (disch := omega) only [pk_un, pk_us]
    exact d.2.2.1 v' hv
theorem dH.uC (d : dH g s a) (n12 : s.1 0 ≤ 12) {i f v : Nat} (hi : i < s.1 0) (hf : f < 7) : dH (upd g (27 + 8 * i + mf f) (nI v)) (uC s i f v) a := by
  have hm := mf_le f
  refine ⟨fun j hj => ?_, ?_, fun w hw => ?_, fun i' hi' f' hf' => ?_, fun i' hi' => ?_, fun k h1 h2 => ?_, fun k hk => ?_, fun r hr => ?_⟩
  · rw [pk_un (by have := (dix_le hj).1; omega)]; exact d.sc hj
  · show upd g _ _ 10 = _
    rw [pk_un (by omega)]; exact d.k10
  · rw [pk_un (by omega), pk_un (by omega), pk_un (by omega), pk_un (by omega)]; exact d.2.2.1 w hw
  · have hi' : i' < s.1 0 := hi'
    have hm' := mf_le f'
    by_cases e : i' = i
    · subst e
      by_cases e2 : f' = f
      · subst e2
        rw [pk_us, uC_s]
      · rw [pk_un (fun z => e2 (mf_inj hf' hf (by omega))), uC_f e2]; exact d.p hi' hf'
    · rw [pk_un (by omega), uC_i e]; exact d.p hi' hf'
  · have hi' : i' < s.1 0 := hi'
    rw [pk_un (by omega)]; exact d.at_ hi'
  · have h1 : 27 + 8 * s.1 0 ≤ k := h1
    rw [pk_un (by omega)]; exact d.z h1 h2
  · rw [pk_un (by omega)]; exact d.q hk
  · rw [pk_un (by omega), pk_un (by omega)]; exact d.2.2.2.2.2.2.2 r hr
theorem dH.uA (d : dH g s a) (n12 : s.1 0 ≤ 12) {i v : Nat} (hi : i < s.1 0) : dH (upd g (27 + 8 * i + 7) (eI v)) s (va_up a i v) := by
  refine ⟨fun j hj => ?_, ?_, fun w hw => ?_, fun i' hi' f' hf' => ?_, fun i' hi' => ?_, fun k h1 h2 => ?_, fun k hk => ?_, fun r hr => ?_⟩
  · rw [pk_un (by have := (dix_le hj).1; omega)]; exact d.sc hj
  · show upd g _ _ 10 = _
    rw [pk_un (by omega)]; exact d.k10
  · rw [pk_un (by omega), pk_un (by omega), pk_un (by omega), pk_un (by omega)]; exact d.2.2.1 w hw
  · have hm' := mf_le f'
    rw [pk_un (by omega)]; exact d.p hi' hf'
  · by_cases e : i' = i
    · subst e
      rw [pk_us, va_up_self]
    · rw [pk_un (by omega), va_up_ne _ _ e]; exact d.at_ hi'
  · rw [pk_un (by omega)]; exact d.z h1 h2
  · rw [pk_un (by omega)]; exact d.q hk
  · rw [pk_un (by omega), pk_un (by omega)]; exact d.2.2.2.2.2.2.2 r hr
theorem dH.uS (d : dH g s a) (n12 : s.1 0 ≤ 12) {j v : Nat} (hj : j < 9) (h0 : j ≠ 0) (h3 : j ≠ 3) (h7 : j ≠ 7) : dH (upd g (dix j) (nI v)) (u0 s j v) a := by
  have hx := dix_le hj
  refine ⟨fun j' hj' => ?_, ?_, fun w hw => ?_, fun i' hi' f' hf' => ?_, fun i' hi' => ?_, fun k h1 h2 => ?_, fun k hk => ?_, fun r hr => ?_⟩
  · by_cases e : j' = j
    · subst e
      rw [pk_us, u0_s]
    · rw [pk_un (fun z => e (dix_inj hj' hj z)), u0_n e]; exact d.sc hj'
  · show upd g _ _ 10 = nI (if (u0 s j v).1 3 < 6 then (u0 s j v).1 3 else 6)
    rw [pk_un (by omega), u0_n (Ne.symm h3)]; exact d.k10
  · rw [pk_un (by omega), pk_un (by omega), pk_un (by omega), pk_un (by omega)]; exact d.2.2.1 w hw
  · rw [u0_n (Ne.symm h0)] at hi'
    rw [pk_un (by omega)]; exact d.p hi' hf'
  · rw [u0_n (Ne.symm h0)] at hi'
    rw [pk_un (by omega)]; exact d.at_ hi'
  · rw [u0_n (Ne.symm h0)] at h1
    rw [pk_un (by omega)]; exact d.z h1 h2
  · rw [u0_n (Ne.symm h7)] at hk
    rw [pk_un (by omega)]; exact d.q hk
  · rw [pk_un (by omega), pk_un (by omega)]; exact d.2.2.2.2.2.2.2 r hr
/-- a cell that says nothing of the hall -/
theorem dH.uX (d : dH g s a) (n12 : s.1 0 ≤ 12) (q12 : s.1 7 ≤ 12) {k : Nat} {v : Int32} (hk : k = 7 ∨ k = 8 ∨ k = 16 ∨ k = 21 ∨ k = 26 ∨ (135 ≤ k ∧ 2 ≤ (k - 135) % 4)) : dH (upd g k v) s a := d.cg n12 q12 (fun _ _ _ _ => rfl) rfl rfl rfl (fun _ _ _ _ => rfl) (fun _ _ => rfl) (fun _ _ => rfl) rfl (fun x hx => pk_un (by omega))
end DU
