/-! pure: the nine commands keep everything -/
def aV (B : Nat) (s : hS) : Prop := aG s ∧ aX s ∧ aU B s
theorem aV_le {B C : Nat} {s : hS} (h : aV B s) (hc : B ≤ C) : aV C s := ⟨h.1, h.2.1, aU_le h.2.2 hc⟩
theorem aV_minute {B : Nat} {s : hS} (h : aV B s) (hB : 13 ≤ B) : aV (B + 16) (aMinute s) := ⟨aG_minute h.1, aX_minute h.2.1 h.1.1, aU_minute h.2.2 h.1.1 hB⟩
theorem aV_pass : ∀ (m : Nat) {B : Nat} {s : hS}, aV B s → 13 ≤ B → aV (B + 16 * m) (aPassL m s)
  | 0, _, _, h, _ => h
  | m + 1, B, s, h, hB => by
    have := aV_pass m (aV_minute h hB) (by omega)
    rw [show B + 16 * (m + 1) = B + 16 + 16 * m by omega]
    exact this
theorem aM_admit {s : hS} {p : Nat} (i : aM s) (hn : s.1 0 < 12) (h1 : 1 ≤ p) (h2 : p ≤ 30) : aM (aAdmit p s) := by
  obtain ⟨⟨b, k, k10⟩, nn⟩ := i
  have hq : s.1 7 ≤ s.1 0 := by
    have k7 : s.1 0 = s.1 7 + aOcc s := k.1.2.2.2.2.2.2
    omega
  have n' : (aAdmit p s).1 0 = s.1 0 + 1 := u0_s
  have q' : (aAdmit p s).1 7 = s.1 7 + 1 := by
    unfold aAdmit
    rw [u0_n (by decide), u0_s]
  have c' : (aAdmit p s).1 2 = s.1 2 + 1 := by
    unfold aAdmit
    rw [u0_n (by decide), u0_n (by decide)]
    show va_up s.1 2 (s.1 2 + 1) 2 = _
    rw [va_up_self]
  have W' : hW (aAdmit p s) = hW s := rfl
  have Q' : ∀ x, hQ (aAdmit p s) x = if x = s.1 7 then s.1 0 else hQ s x := fun x => rfl
  have C0 : ∀ i f, i ≠ s.1 0 → hC (aAdmit p s) i f = hC s i f := fun i f hi => by
    show hC (aArrive p s) i f = _
    unfold aArrive
    rw [uC_i hi, uC_i hi, uC_i hi, uC_i hi, uC_i hi, uC_i hi, uC_i hi]
    rfl
  have C1 : ∀ f, f < 7 → hC (aAdmit p s) (s.1 0) f = if f = 0 then s.1 2 + 1 else if f = 1 then p else 0 := fun f hf => by
    show hC (aArrive p s) (s.1 0) f = _
    unfold aArrive
    obtain rfl | rfl | rfl | rfl | rfl | rfl | rfl : f = 0 ∨ f = 1 ∨ f = 2 ∨ f = 3 ∨ f = 4 ∨ f = 5 ∨ f = 6 := by omega
    · rw [uC_f (by decide), uC_f (by decide), uC_f (by decide), uC_f (by decide), uC_f (by decide), uC_f (by decide), uC_s]; rfl
    · rw [uC_f (by decide), uC_f (by decide), uC_f (by decide), uC_f (by decide), uC_f (by decide), uC_s]; rfl
    · rw [uC_f (by decide), uC_f (by decide), uC_f (by decide), uC_f (by decide), uC_s]; rfl
    · rw [uC_f (by decide), uC_f (by decide), uC_f (by decide), uC_s]; rfl
    · rw [uC_f (by decide), uC_f (by decide), uC_s]; rfl
    · rw [uC_f (by decide), uC_s]; rfl
    · rw [uC_s]; rfl
  have wo' : ∀ w, wo (aAdmit p s) w = wo s w := fun w => by unfold wo; rw [W']
  generalize aAdmit p s = t at n' q' c' W' Q' C0 C1 wo' ⊢
  obtain ⟨⟨k1, k2, k3, k4, k5, k6, k7⟩, ⟨k8, k9⟩, k11, k12⟩ := k
  have Qo : ∀ x, x < s.1 7 → hQ t x = hQ s x := fun x hx => by rw [Q', if_neg (by omega)]
  have Qn : hQ t (s.1 7) = s.1 0 := by rw [Q', if_pos rfl]
  refine ⟨⟨⟨by omega, by omega, fun x hx => ?_, by rw [W']; exact b.2.2.2.1, fun i hi => ?_⟩, ⟨⟨fun x hx => ?_, fun x y hx hy e => ?_, fun w hw => ?_, fun v w hv hw h0 e => ?_, fun x w hx hw => ?_, fun i hi => ?_, ?_⟩, ⟨fun i j hij hj => ?_, fun i hi => ?_⟩, fun w hw h0 => ?_, fun w hw h0 => ?_⟩, fun i hi => ?_⟩, fun w hw => ?_⟩
  · rw [Q']
    split
    · omega
    · exact b.2.2.1 x hx
  · by_cases e : i = s.1 0
    · rw [e, C1 1 (by decide), C1 2 (by decide), C1 3 (by decide)]
      exact ⟨h2, Nat.zero_le 3, Nat.zero_le 6⟩
    · rw [C0 i 1 e, C0 i 2 e, C0 i 3 e]; exact b.2.2.2.2 i hi
  · rw [q'] at hx
    rw [n']
    by_cases e : x = s.1 7
    · rw [e, Qn]; omega
    · rw [Qo x (by omega)]
      have := k1 x (by omega)
      omega
  · rw [q'] at hx hy
    by_cases e1 : x = s.1 7
    · by_cases e2 : y = s.1 7
      · rw [e1, e2]
      · rw [e1, Qn, Qo y (by omega)] at e
        have := k1 y (by omega)
        omega
    · by_cases e2 : y = s.1 7
      · rw [e2, Qn, Qo x (by omega)] at e
        have := k1 x (by omega)
        omega
      · rw [Qo x (by omega), Qo y (by omega)] at e
        exact k2 x y (by omega) (by omega) e
  · rw [wo', n']
    have := k3 w hw
    omega
  · rw [wo'] at h0
    rw [wo', wo'] at e
    exact k4 v w hv hw h0 e
  · rw [q'] at hx
    rw [wo']
    by_cases e : x = s.1 7
    · rw [e, Qn]
      have := k3 w hw
      omega
    · rw [Qo x (by omega)]
      exact k5 x w (by omega) hw
  · rw [n'] at hi
    by_cases e : i = s.1 0
    · exact .inl ⟨s.1 7, by omega, by rw [Qn, e]⟩
    · rcases k6 i (by omega) with ⟨x, hx, e2⟩ | ⟨w, hw, e2⟩
      · exact .inl ⟨x, by omega, by rw [Qo x hx]; exact e2⟩
      · exact .inr ⟨w, hw, by rw [wo']; exact e2⟩
  · have k7 : s.1 0 = s.1 7 + aOcc s := k7
    show t.1 0 = t.1 7 + aOcc t
    rw [n', q', aOcc_eq (t := s) (fun w hw => by rw [wo'])]
    omega
  · rw [n'] at hj
    have h9 := fun i hi => (k9 i hi).2
    by_cases e : j = s.1 0
    · have hi : i < s.1 0 := by omega
      rw [e, C1 0 (by decide), C0 i 0 (by omega)]
      have := h9 i hi
      show _ < s.1 2 + 1
      omega
    · rw [C0 i 0 (by omega), C0 j 0 e]
      exact k8 i j hij (by omega)
  · rw [n'] at hi
    rw [c']
    by_cases e : i = s.1 0
    · rw [e, C1 0 (by decide)]
      exact ⟨Nat.le_add_left _ _, Nat.le_refl _⟩
    · rw [C0 i 0 e]
      have := k9 i (by omega)
      omega
  · rw [wo'] at h0 ⊢
    have h3 := k3 w hw
    rw [C0 _ 6 (by omega), C0 _ 5 (by omega)]
    exact k11 w hw h0
  · rw [W'] at h0
    rw [wo']
    exact k12 w hw h0
  · rw [n'] at hi
    by_cases e : i = s.1 0
    · rw [e, C1 2 (by decide)]; exact Nat.zero_le 2
    · rw [C0 i 2 e]; exact k10 i (by omega)
  · rw [W', wo']
    exact nn w hw
theorem aF_admit {s : hS} {p : Nat} (h : aF s) : aF (aAdmit p s) := by
  have : aF (aArrive p s) := aF_uC (aF_uC (aF_uC (aF_uC (aF_uC (aF_uC (aF_uC (s := u0 s 2 (s.1 2 + 1)) h (by omega)) (by omega)) (by omega)) (by omega)) (by omega)) (by omega)) (by omega)
  exact this
theorem aV_add {B : Nat} {s : hS} (h : aV B s) (hB : 13 ≤ B) (x : Nat) : aV (B + 400) (oAdd x s).2.2 ∧ (oAdd x s).2.1 ≤ B := by
  obtain ⟨⟨i, hF⟩, x1, u⟩ := h
  have hn := i.1.1.1
  unfold oAdd
  split
  · next g =>
    split
    · exact ⟨aV_le ⟨⟨i, hF⟩, x1, u⟩ (by omega), Nat.zero_le _⟩
    · next g2 =>
      have n' : (aAdmit x s).1 0 = s.1 0 + 1 := u0_s
      have o' : ∀ j, j ≠ 0 → j ≠ 7 → j ≠ 2 → (aAdmit x s).1 j = s.1 j := fun j h0 h7 h2 => by
        unfold aAdmit
        rw [u0_n h0, u0_n h7]
        show (aArrive x s).1 j = s.1 j
        exact aArrive_n (s := s) (p := x) h2
      have c' : (aAdmit x s).1 2 = s.1 2 + 1 := by
        unfold aAdmit
        rw [u0_n (by decide), u0_n (by decide)]
        show va_up s.1 2 (s.1 2 + 1) 2 = _
        rw [va_up_self]
      have q' : (aAdmit x s).1 7 = s.1 7 + 1 := by
        unfold aAdmit
        rw [u0_n (by decide), u0_s]
      have C0 : ∀ i f, i ≠ s.1 0 → hC (aAdmit x s) i f = hC s i f := fun i f hi => by
        show hC (aArrive x s) i f = _
        unfold aArrive
        rw [uC_i hi, uC_i hi, uC_i hi, uC_i hi, uC_i hi, uC_i hi, uC_i hi]
        rfl
      have C6 : hC (aAdmit x s) (s.1 0) 6 = 0 := by
        show hC (aArrive x s) (s.1 0) 6 = _
        unfold aArrive
        rw [uC_s]
      have C4 : hC (aAdmit x s) (s.1 0) 4 = 0 := by
        show hC (aArrive x s) (s.1 0) 4 = _
        unfold aArrive
        rw [uC_f (by decide), uC_f (by decide), uC_s]
      refine ⟨⟨⟨aM_admit i (by omega) g.1 g.2, aF_admit hF⟩, ⟨?_, ?_⟩, fun j hj => ?_, fun j hj => ?_⟩, by show s.1 0 ≤ B; omega⟩
      · show (aAdmit x s).1 2 = (aAdmit x s).1 0 + (aAdmit x s).1 3 + (aAdmit x s).1 4 + (aAdmit x s).1 5
        rw [n', c', o' 3 (by decide) (by decide) (by decide), o' 4 (by decide) (by decide) (by decide), o' 5 (by decide) (by decide) (by decide)]
        have := x1.1
        omega
      · show aSits (aAdmit x s) ≤ 4
        have : aSits (aAdmit x s) = aSits s := by
          unfold aSits
          rw [n', pc_end, Nat.zero_add, if_neg (by simp [C6]), Nat.add_zero]
          exact pc_cong fun i _ hi => by rw [C0 i 6 (by omega)]
        rw [this]; exact x1.2
      · show (aAdmit x s).1 j ≤ B + 400
        have := u.1 j hj
        by_cases j0 : j = 0
        · subst j0; rw [n']; omega
        · by_cases j7 : j = 7
          · subst j7; rw [q']; omega
          · by_cases j2 : j = 2
            · subst j2; rw [c']; omega
            · rw [o' j j0 j7 j2]; omega
      · show hC (aAdmit x s) j 4 ≤ B + 400
        by_cases e : j = s.1 0
        · rw [e, C4]; omega
        · rw [C0 j 4 e]; have := u.2 j hj; omega
  · exact ⟨aV_le ⟨⟨i, hF⟩, x1, u⟩ (by omega), Nat.zero_le _⟩
theorem aOpens_le {s : hS} : aOpens s ≤ 3 := pc_le _ _ _
theorem aV_open {B : Nat} {s : hS} (h : aV B s) (hB : 13 ≤ B) (w o p : Nat) : aV (B + 400) (oOpen w o p s).2.2 ∧ (oOpen w o p s).2.1 ≤ B := by
  obtain ⟨⟨⟨⟨b, k, k10⟩, n⟩, hF⟩, x1, u⟩ := h
  have h0 : aV B s := ⟨⟨⟨⟨b, k, k10⟩, n⟩, hF⟩, x1, u⟩
  have ow := aOpens_le (s := aOpen w o p s)
  unfold oOpen
  split
  · next g =>
    split
    · next g2 =>
      split
      · next g3 =>
        have b1 : aB (aOpen w o p s) := aB_uW (aB_uW b (by omega) (by omega) (by omega) (by omega)) (by omega) (by omega) (by omega) (by omega)
        have W2 : ∀ v, wo (aOpen w o p s) v = wo s v := fun v => by
          show hW (uW (uW s w 0 o) w 1 p) v 2 = _
          rw [uW_f (by decide), uW_f (by decide)]
        have W3 : ∀ v, hW (aOpen w o p s) v 3 = hW s v 3 := fun v => by
          show hW (uW (uW s w 0 o) w 1 p) v 3 = _
          rw [uW_f (by decide), uW_f (by decide)]
        refine ⟨⟨⟨⟨⟨b1, aK_cg k rfl (Nat.le_refl _) rfl (fun _ _ => rfl) (fun v _ => W2 v) (fun i hi => ⟨rfl, id, id⟩) (fun v hv z => ?_), k10⟩, fun v hv => ?_⟩, hF⟩, x1, aU_le (s := aOpen w o p s) ⟨u.1, u.2⟩ (by omega)⟩, by show aOpens _ ≤ B; omega⟩
        · have z : hW (aOpen w o p s) v 0 = 0 := z
          rw [W2]
          by_cases e : v = w
          · subst e
            have : hW (aOpen v o p s) v 0 = o := by
              show hW (uW (uW s v 0 o) v 1 p) v 0 = _
              rw [uW_f (by decide), uW_s]
            omega
          · have : hW (aOpen w o p s) v 0 = hW s v 0 := by
              show hW (uW (uW s w 0 o) w 1 p) v 0 = _
              rw [uW_w e, uW_w e]
            rw [this] at z
            exact k.2.2.2 v hv z
        · show (hW (aOpen w o p s) v 0 ≠ 0 → 1 ≤ hW (aOpen w o p s) v 1) ∧ (wo (aOpen w o p s) v ≠ 0 → 1 ≤ hW (aOpen w o p s) v 3)
          rw [W2, W3]
          refine ⟨fun z => ?_, (n v hv).2⟩
          by_cases e : v = w
          · subst e
            have : hW (aOpen v o p s) v 1 = p := uW_s
            omega
          · have e0 : hW (aOpen w o p s) v 0 = hW s v 0 := by
              show hW (uW (uW s w 0 o) w 1 p) v 0 = _
              rw [uW_w e, uW_w e]
            have e1 : hW (aOpen w o p s) v 1 = hW s v 1 := by
              show hW (uW (uW s w 0 o) w 1 p) v 1 = _
              rw [uW_w e, uW_w e]
            rw [e0] at z
            rw [e1]
            exact (n v hv).1 z
      · exact ⟨aV_le h0 (by omega), Nat.zero_le _⟩
    · exact ⟨aV_le h0 (by omega), Nat.zero_le _⟩
  · exact ⟨aV_le h0 (by omega), Nat.zero_le _⟩
theorem aV_close {B : Nat} {s : hS} (h : aV B s) (hB : 13 ≤ B) (w : Nat) : aV (B + 400) (oClose w s).2.2 ∧ (oClose w s).2.1 ≤ B := by
  obtain ⟨⟨⟨⟨b, k, k10⟩, n⟩, hF⟩, x1, u⟩ := h
  have h0 : aV B s := ⟨⟨⟨⟨b, k, k10⟩, n⟩, hF⟩, x1, u⟩
  have ow := aOpens_le (s := aShut w s)
  have h7 := b.2.1
  unfold oClose
  split
  · next g =>
    split
    · exact ⟨aV_le h0 (by omega), Nat.zero_le _⟩
    · refine ⟨⟨⟨⟨⟨aB_shut b k g, aK_shut k g, fun i hi => ?_⟩, aN_shut (aN_x n g)⟩, aF_shut hF⟩, ⟨?_, ?_⟩, aU_le (aU_shut (aU_le u (Nat.le_refl _)) (by omega)) (by omega)⟩, by show aOpens _ ≤ B; omega⟩
      · rw [aShut_0] at hi
        rw [aShut_C]; exact k10 i hi
      · rw [aShut_n (by decide), aShut_n (by decide), aShut_n (by decide), aShut_n (by decide), aShut_n (by decide)]
        exact x1.1
      · exact Nat.le_trans (aSits_C aShut_0 fun i _ => by rw [aShut_C]; exact id) x1.2
  · exact ⟨aV_le h0 (by omega), Nat.zero_le _⟩
/-- one field of one customer anew, nothing of the rest -/
theorem aV_uC {B : Nat} {s : hS} {i f v : Nat} (h : aV B s) (hf : f = 1 ∨ f = 5 ∨ f = 6) (h1 : f = 1 → v ≤ 30) (h5 : f = 5 → v = 1) (h6 : f = 6 → v ≤ 1) (hi : i < s.1 0) (hw : f = 6 → v = 1 → aW s i = 0 ∧ aSits s < 4 ∧ hC s i 6 = 0) : aV B (uC s i f v) := by
  obtain ⟨⟨⟨⟨b, k, k10⟩, n⟩, hF⟩, x1, u⟩ := h
  have hn := b.1
  have C : ∀ j g, ¬ (j = i ∧ g = f) → hC (uC s i f v) j g = hC s j g := fun j g hj => if_neg hj
  have Ci : hC (uC s i f v) i f = v := uC_s
  refine ⟨⟨⟨⟨aB_uC b h1 (by omega) (by omega), ?_, fun j hj => by rw [C j 2 (by omega)]; exact k10 j hj⟩, n⟩, aF_uC hF (by omega)⟩, ⟨x1.1, ?_⟩, aU_uC u (by omega)⟩
  · by_cases z : f = 6 ∧ v = 1
    · obtain ⟨w0, -, -⟩ := hw z.1 z.2
      obtain ⟨ka, ⟨k8, k9⟩, k11, k12⟩ := k
      refine ⟨ka, ⟨fun a c hac hc => by rw [C a 0 (by omega), C c 0 (by omega)]; exact k8 a c hac hc, fun a ha => by rw [C a 0 (by omega)]; exact k9 a ha⟩, fun w hw h0 => ?_, k12⟩
      have hne : wo s w - 1 ≠ i := fun e => aW_n w0 w hw (by
        have h0 : wo s w ≠ 0 := h0
        omega)
      show hC (uC s i f v) (wo s w - 1) 6 = 0 ∧ hC (uC s i f v) (wo s w - 1) 5 ≠ 0
      rw [C _ 6 (by omega), C _ 5 (by omega)]
      exact k11 w hw h0
    · refine aK_cg k rfl (Nat.le_refl _) rfl (fun _ _ => rfl) (fun _ _ => rfl) (fun j hj => ⟨C j 0 (by omega), fun g => ?_, fun g => ?_⟩) k.2.2.2
      · by_cases e : j = i ∧ 5 = f
        · rw [e.1, e.2, Ci]; have := h5 e.2.symm; omega
        · rw [C j 5 e]; exact g
      · by_cases e : j = i ∧ 6 = f
        · have := h6 e.2.symm
          rw [e.1, e.2, Ci]; omega
        · rw [C j 6 e]; exact g
  · by_cases z : f = 6 ∧ v = 1
    · obtain ⟨-, w1, -⟩ := hw z.1 z.2
      have := pc_one (p := fun j => decide (hC s j 6 ≠ 0)) (q := fun j => decide (hC (uC s i f v) j 6 ≠ 0)) (x := i) (fun j hj => by rw [C j 6 (by omega)]) (s.1 0) 0
      have e : aSits (uC s i f v) ≤ aSits s + 1 := this
      omega
    · refine Nat.le_trans (aSits_C (s := s) rfl fun j _ g => ?_) x1.2
      by_cases e : j = i ∧ 6 = f
      · have := h6 e.2.symm
        rw [e.1, e.2, Ci] at g
        omega
      · rw [C j 6 e] at g; exact g
theorem aV_call {B : Nat} {s : hS} (h : aV B s) : aV (B + 400) (oCall s).2.2 ∧ (oCall s).2.1 ≤ B := by
  unfold oCall
  cases e : pf (fun i => decide (hC s i 5 = 0)) 0 (s.1 0) with
  | none => exact ⟨aV_le h (by omega), Nat.zero_le _⟩
  | some i =>
    obtain ⟨-, h1, -, -⟩ := pf_some e
    refine ⟨aV_le (aV_uC (f := 5) (v := 1) h (by omega) (by omega) (by omega) (by omega) (show i < s.1 0 by omega) (by omega)) (by omega), ?_⟩
    have := (h.1.1.1.2.1.2.1.2 i (by omega)).2
    exact Nat.le_trans this (h.2.2.1 2 (by decide))
theorem aSits_12 {s : hS} (b : aB s) : aSits s ≤ 12 := Nat.le_trans (pc_le _ _ _) b.1
theorem aV_sit {B : Nat} {s : hS} (h : aV B s) (hB : 13 ≤ B) (x : Nat) : aV (B + 400) (oSit x s).2.2 ∧ (oSit x s).2.1 ≤ B := by
  unfold oSit
  split
  · next g =>
    split
    · next g2 =>
      split
      · next g3 =>
        have v := aV_uC (f := 6) (v := 1) h (by omega) (by omega) (by omega) (by omega) g (fun _ _ => ⟨g2.1, g3, g2.2⟩)
        exact ⟨aV_le v (by omega), Nat.le_trans (aSits_12 v.1.1.1.1) (by omega)⟩
      · exact ⟨aV_le h (by omega), Nat.zero_le _⟩
    · exact ⟨aV_le h (by omega), Nat.zero_le _⟩
  · exact ⟨aV_le h (by omega), Nat.zero_le _⟩
theorem aV_stand {B : Nat} {s : hS} (h : aV B s) (hB : 13 ≤ B) (x : Nat) : aV (B + 400) (oStand x s).2.2 ∧ (oStand x s).2.1 ≤ B := by
  unfold oStand
  split
  · next g =>
    split
    · exact ⟨aV_le h (by omega), Nat.zero_le _⟩
    · have v := aV_uC (f := 6) (v := 0) h (by omega) (by omega) (by omega) (by omega) g (by omega)
      exact ⟨aV_le v (by omega), Nat.le_trans (aSits_12 v.1.1.1.1) (by omega)⟩
  · exact ⟨aV_le h (by omega), Nat.zero_le _⟩
theorem aV_remove {B : Nat} {s : hS} (h : aV B s) (hB : 13 ≤ B) (x : Nat) : aV (B + 400) (oRemove x s).2.2 ∧ (oRemove x s).2.1 ≤ B := by
  obtain ⟨⟨⟨⟨b, k, k10⟩, n⟩, hF⟩, x1, u⟩ := h
  have hn := b.1
  unfold oRemove
  split
  · next g =>
    have b1 : aB (u0 s 4 (s.1 4 + 1)) := aB_u0 b (by omega)
    have k1 : aK (u0 s 4 (s.1 4 + 1)) := aK_u0 k (by decide) (by decide) (by decide)
    have u1 : aU (B + 1) (u0 s 4 (s.1 4 + 1)) := aU_u0 (aU_le u (by omega)) (by have := u.1 4 (by decide); omega)
    refine ⟨⟨⟨⟨⟨aB_leave b1 g, aK_leave k1 g, aS_leave (s := u0 s 4 (s.1 4 + 1)) fun i hi _ => k10 i hi⟩, aN_leave (s := u0 s 4 (s.1 4 + 1)) n k1 g⟩, aF_leave (s := u0 s 4 (s.1 4 + 1)) hF b1 g⟩, ⟨?_, ?_⟩, aU_le (aU_leave u1 b1 g) (by omega)⟩, by show s.1 0 - 1 ≤ B; omega⟩
    · show (aLeave x (u0 s 4 (s.1 4 + 1))).1 2 = (aLeave x (u0 s 4 (s.1 4 + 1))).1 0 + (aLeave x (u0 s 4 (s.1 4 + 1))).1 3 + (aLeave x (u0 s 4 (s.1 4 + 1))).1 4 + (aLeave x (u0 s 4 (s.1 4 + 1))).1 5
      rw [aLeave_0, aLeave_n (by decide) (by decide), aLeave_n (by decide) (by decide), aLeave_n (by decide) (by decide), aLeave_n (by decide) (by decide), u0_s, u0_n (by decide), u0_n (by decide), u0_n (by decide), u0_n (by decide)]
      have := x1.1
      omega
    · exact Nat.le_trans (aSits_leave (s := u0 s 4 (s.1 4 + 1)) g) (by rw [aSits_u0 (by decide)]; exact x1.2)
  · exact ⟨aV_le ⟨⟨⟨⟨b, k, k10⟩, n⟩, hF⟩, x1, u⟩ (by omega), Nat.zero_le _⟩
theorem aV_adv {B : Nat} {s : hS} (h : aV B s) (hB : 13 ≤ B) (x : Nat) : aV (B + 400) (oAdv x s).2.2 ∧ (oAdv x s).2.1 ≤ B + 400 := by
  unfold oAdv
  split
  · next g =>
    have v := aV_le (aV_pass x h hB) (show B + 16 * x ≤ B + 400 by omega)
    exact ⟨v, Nat.le_trans (Nat.sub_le _ _) (v.2.2.1 3 (by decide))⟩
  · exact ⟨aV_le h (by omega), Nat.zero_le _⟩
theorem aV_xch {B : Nat} {s : hS} {x y p q : Nat} (h : aV B s) (hx : x < s.1 0) (hy : y < s.1 0) (hp : p < s.1 7) (hq : q < s.1 7) (ep : hQ s p = x) (eq : hQ s q = y) (xy : x ≠ y) : aV B (uQ (uQ s p y) q x) := by
  obtain ⟨⟨⟨⟨b, k, k10⟩, n⟩, hF⟩, x1, u⟩ := h
  obtain ⟨⟨k1, k2, k3, k4, k5, k6, k7⟩, k89, k11, k12⟩ := k
  have hn := b.1
  have pq : p ≠ q := fun z => xy (by rw [← ep, z]; exact eq)
  have Q' : ∀ j, hQ (uQ (uQ s p y) q x) j = if j = q then x else if j = p then y else hQ s j := fun j => by
    show va_up (va_up s.2.1 p y) q x j = _
    by_cases e1 : j = q
    · rw [e1, va_up_self, if_pos rfl]
    · rw [va_up_ne _ _ e1, if_neg e1]
      by_cases e2 : j = p
      · rw [e2, va_up_self, if_pos rfl]
      · rw [va_up_ne _ _ e2, if_neg e2]
  /- the other place of the two -/
  have hs : ∀ j, ∃ i, hQ (uQ (uQ s p y) q x) j = hQ s i ∧ (j < s.1 7 → i < s.1 7) ∧ (i = if j = q then p else if j = p then q else j) := fun j => by
    refine ⟨if j = q then p else if j = p then q else j, ?_, fun hj => ?_, rfl⟩
    · rw [Q']
      by_cases e1 : j = q
      · rw [if_pos e1, if_pos e1, ep]
      · rw [if_neg e1, if_neg e1]
        by_cases e2 : j = p
        · rw [if_pos e2, if_pos e2, eq]
        · rw [if_neg e2, if_neg e2]
    · split
      · exact hp
      · split
        · exact hq
        · exact hj
  refine ⟨⟨⟨⟨aB_uQ (aB_uQ b (by omega)) (by omega), ⟨⟨fun j hj => ?_, fun i j hi hj e => ?_, k3, k4, fun j w hj hw => ?_, fun i hi => ?_, k7⟩, k89, k11, k12⟩, k10⟩, n⟩, hF⟩, x1, u⟩
  · obtain ⟨i, e, hi, -⟩ := hs j
    rw [e]
    exact k1 i (hi hj)
  · obtain ⟨i', e1, hi', f1⟩ := hs i
    obtain ⟨j', e2, hj', f2⟩ := hs j
    rw [e1, e2] at e
    have := k2 i' j' (hi' hi) (hj' hj) e
    rw [f1, f2] at this
    revert this
    (repeat' split) <;> omega
  · obtain ⟨i, e, hi, -⟩ := hs j
    rw [e]
    exact k5 i w (hi hj) hw
  · rcases k6 i hi with ⟨j, hj, e⟩ | z
    · refine .inl ⟨if j = q then p else if j = p then q else j, ?_, ?_⟩
      · show _ < s.1 7
        split
        · exact hp
        · split
          · exact hq
          · exact hj
      · rw [Q']
        by_cases e1 : j = q
        · rw [if_pos e1, if_neg pq, if_pos rfl, ← e, e1, eq]
        · rw [if_neg e1]
          by_cases e2 : j = p
          · rw [if_pos e2, if_pos rfl, ← e, e2, ep]
          · rw [if_neg e2, if_neg e1, if_neg e2]; exact e
    · exact .inr z
theorem aV_swap {B : Nat} {s : hS} (h : aV B s) (hB : 13 ≤ B) (x y : Nat) : aV (B + 400) (oSwap x y s).2.2 ∧ (oSwap x y s).2.1 ≤ B := by
  have no : aV (B + 400) s ∧ 0 ≤ B := ⟨aV_le h (by omega), Nat.zero_le _⟩
  have hq := h.1.1.1.1.2.1
  unfold oSwap
  by_cases g : x < s.1 0 ∧ y < s.1 0
  · rw [if_pos g]
    by_cases g2 : x = y
    · rw [if_pos g2]; exact no
    · rw [if_neg g2]
      cases hp : aPos s x with
      | none => exact no
      | some p =>
        cases hq' : aPos s y with
        | none => exact no
        | some q =>
          obtain ⟨p1, p2⟩ := aPos_lt hp
          obtain ⟨q1, q2⟩ := aPos_lt hq'
          dsimp only
          have hz : (if p < q then x else y) < s.1 0 := by split <;> omega
          unfold aXch
          generalize (if p < q then x else y) = z at hz ⊢
          by_cases g3 : hC s z 1 < 2
          · rw [if_pos g3]; exact no
          · rw [if_neg g3]
            have bz := (h.1.1.1.1.2.2.2.2 z (by have := h.1.1.1.1.1; omega)).1
            have v1 := aV_uC (f := 1) (v := hC s z 1 - 2) h (by omega) (by omega) (by omega) (by omega) hz (by omega)
            refine ⟨aV_le (aV_xch v1 g.1 g.2 p1 q1 p2 q2 g2) (show B ≤ B + 400 by omega), ?_⟩
            show (if q ≤ p then p - q else q - p) ≤ B
            split <;> omega
  · rw [if_neg g]; exact no
