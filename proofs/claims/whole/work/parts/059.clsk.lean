/-! pure: what always holds of a hall, and that leaving keeps it -/
abbrev wo (s : hS) (w : Nat) : Nat := hW s w 2
def aOcc (s : hS) : Nat := (if wo s 0 = 0 then 0 else 1) + (if wo s 1 = 0 then 0 else 1) + (if wo s 2 = 0 then 0 else 1)
def aK1 (s : hS) : Prop := ∀ k, k < s.1 7 → hQ s k < s.1 0
def aK2 (s : hS) : Prop := ∀ j k, j < s.1 7 → k < s.1 7 → hQ s j = hQ s k → j = k
def aK3 (s : hS) : Prop := ∀ w, w < 3 → wo s w ≤ s.1 0
def aK4 (s : hS) : Prop := ∀ v w, v < 3 → w < 3 → wo s v ≠ 0 → wo s v = wo s w → v = w
def aK5 (s : hS) : Prop := ∀ k w, k < s.1 7 → w < 3 → wo s w ≠ hQ s k + 1
def aK6 (s : hS) : Prop := ∀ i, i < s.1 0 → (∃ k, k < s.1 7 ∧ hQ s k = i) ∨ (∃ w, w < 3 ∧ wo s w = i + 1)
def aK7 (s : hS) : Prop := s.1 0 = s.1 7 + aOcc s
def aK8 (s : hS) : Prop := ∀ i j, i < j → j < s.1 0 → hC s i 0 < hC s j 0
def aK9 (s : hS) : Prop := ∀ i, i < s.1 0 → 1 ≤ hC s i 0 ∧ hC s i 0 ≤ s.1 2
def aK10 (s : hS) : Prop := ∀ i, i < s.1 0 → hC s i 2 ≤ 2
def aK11 (s : hS) : Prop := ∀ w, w < 3 → wo s w ≠ 0 → hC s (wo s w - 1) 6 = 0 ∧ hC s (wo s w - 1) 5 ≠ 0
def aK12 (s : hS) : Prop := ∀ w, w < 3 → hW s w 0 = 0 → wo s w = 0
def aK (s : hS) : Prop := (aK1 s ∧ aK2 s ∧ aK3 s ∧ aK4 s ∧ aK5 s ∧ aK6 s ∧ aK7 s) ∧ (aK8 s ∧ aK9 s) ∧ aK11 s ∧ aK12 s
def dn (c x : Nat) : Nat := if c < x then x - 1 else x
def sk (p k : Nat) : Nat := if p ≤ k then k + 1 else k
theorem dn_inj {c x y : Nat} (hx : x ≠ c) (hy : y ≠ c) (h : dn c x = dn c y) : x = y := by unfold dn at h; split at h <;> split at h <;> omega
theorem dn_lt {c x n : Nat} (hx : x ≠ c) (hc : c < n) (h : x < n) : dn c x < n - 1 := by unfold dn; split <;> omega
theorem sk_lt {p k n : Nat} (h : k < n - 1) : sk p k < n := by unfold sk; split <;> omega
theorem sk_ne {p k : Nat} : sk p k ≠ p := by unfold sk; split <;> omega
theorem sk_inj {p j k : Nat} (h : sk p j = sk p k) : j = k := by unfold sk at h; split at h <;> split at h <;> omega
theorem dn_sk {c i : Nat} : dn c (sk c i) = i := by unfold dn sk; split <;> split <;> omega
theorem sk_dn {c i : Nat} (h : i ≠ c) : sk c (dn c i) = i := by unfold dn sk; split <;> split <;> omega
theorem aOcc_le (s : hS) : aOcc s ≤ 3 := by unfold aOcc; split <;> split <;> split <;> omega
theorem aOcc_1 {s : hS} {w : Nat} (hw : w < 3) (h : wo s w ≠ 0) : 1 ≤ aOcc s := by
  unfold aOcc
  obtain rfl | rfl | rfl : w = 0 ∨ w = 1 ∨ w = 2 := by omega
  · rw [if_neg h]; omega
  · rw [if_neg h]; omega
  · rw [if_neg h]; omega
theorem aOcc_eq {s t : hS} (h : ∀ w, w < 3 → (wo s w = 0 ↔ wo t w = 0)) : aOcc s = aOcc t := by
  have e : ∀ w, w < 3 → (if wo s w = 0 then 0 else 1) = (if wo t w = 0 then 0 else 1) := fun w hw => by
    by_cases g : wo s w = 0
    · rw [if_pos g, if_pos ((h w hw).mp g)]
    · rw [if_neg g, if_neg (fun z => g ((h w hw).mpr z))]
  unfold aOcc
  rw [e 0 (by decide), e 1 (by decide), e 2 (by decide)]
theorem aOcc_out {s t : hS} {v : Nat} (hv : v < 3) (h0 : wo s v ≠ 0) (h1 : wo t v = 0) (h : ∀ w, w < 3 → w ≠ v → (wo s w = 0 ↔ wo t w = 0)) : aOcc s = aOcc t + 1 := by
  have e : ∀ w, w < 3 → w ≠ v → (if wo s w = 0 then 0 else 1) = (if wo t w = 0 then 0 else 1) := fun w hw hn => by
    by_cases g : wo s w = 0
    · rw [if_pos g, if_pos ((h w hw hn).mp g)]
    · rw [if_neg g, if_neg (fun z => g ((h w hw hn).mpr z))]
  unfold aOcc
  obtain rfl | rfl | rfl : v = 0 ∨ v = 1 ∨ v = 2 := by omega
  · rw [e 1 (by decide) (by decide), e 2 (by decide) (by decide), if_neg h0, if_pos h1]; omega
  · rw [e 0 (by decide) (by decide), e 2 (by decide) (by decide), if_neg h0, if_pos h1]; omega
  · rw [e 0 (by decide) (by decide), e 1 (by decide) (by decide), if_neg h0, if_pos h1]
/-- the hall when c is in neither place -/
def aGone (c : Nat) (s : hS) : Prop := aK1 s ∧ aK2 s ∧ aK3 s ∧ aK4 s ∧ aK5 s ∧ (∀ i, i < s.1 0 → i ≠ c → (∃ k, k < s.1 7 ∧ hQ s k = i) ∨ (∃ w, w < 3 ∧ wo s w = i + 1)) ∧ s.1 0 = s.1 7 + aOcc s + 1 ∧ (∀ k, k < s.1 7 → hQ s k ≠ c) ∧ (∀ w, w < 3 → wo s w ≠ c + 1)
theorem aTake_Q {s : hS} {p k : Nat} (hk : k < s.1 7 - 1) : hQ (aTake p s) k = hQ s (sk p k) := by
  have e : hQ (aTake p s) k = if p ≤ k ∧ k + 1 < s.1 7 then s.2.1 (k + 1) else s.2.1 k := rfl
  rw [e]
  unfold sk
  by_cases g : p ≤ k
  · rw [if_pos ⟨g, by omega⟩, if_pos g]
  · rw [if_neg (fun z => g z.1), if_neg g]
theorem aTake_7 {s : hS} {p : Nat} : (aTake p s).1 7 = s.1 7 - 1 := va_up_self s.1 7 (s.1 7 - 1)
theorem aTake_n {s : hS} {p j : Nat} (h : j ≠ 7) : (aTake p s).1 j = s.1 j := va_up_ne _ _ h
theorem aDrop_0 {s : hS} {c : Nat} : (aDrop c s).1 0 = s.1 0 - 1 := va_up_self s.1 0 (s.1 0 - 1)
theorem aDrop_n {s : hS} {c j : Nat} (h : j ≠ 0) : (aDrop c s).1 j = s.1 j := va_up_ne _ _ h
theorem aDrop_C {s : hS} {c i f : Nat} (hi : i < s.1 0 - 1) : hC (aDrop c s) i f = hC s (sk c i) f := by
  show s.2.2.2.1 (pm c (s.1 0) i) f = s.2.2.2.1 (sk c i) f
  unfold pm sk
  by_cases g : c ≤ i
  · rw [if_pos ⟨g, by omega⟩, if_pos g]
  · rw [if_neg (fun z => g z.1), if_neg (by omega), if_neg g]
theorem aRen_Q {s : hS} {c k : Nat} (hk : k < s.1 7) : hQ (aRen c s) k = dn c (hQ s k) := by
  rw [aRen_q]
  unfold dn
  by_cases g : c < hQ s k
  · rw [if_pos ⟨hk, g⟩, if_pos g]
  · rw [if_neg (fun z => g z.2), if_neg g]
theorem aRen_W {s : hS} {c w : Nat} (hw : w < 3) : wo (aRen c s) w = dn (c + 1) (wo s w) := by
  show hW (aRen c s) w 2 = _
  rw [aRen_w2]
  unfold dn
  by_cases g : c + 1 < hW s w 2
  · rw [if_pos ⟨hw, g⟩, if_pos g]
  · rw [if_neg (fun z => g z.2), if_neg g]
theorem dn_0 {c x : Nat} (h : x ≠ c + 1) : (dn (c + 1) x = 0 ↔ x = 0) := by unfold dn; split <;> omega
theorem aGone_done {s : hS} {c : Nat} (g : aGone c s) (hc : c < s.1 0) : (aK1 (aRen c (aDrop c s)) ∧ aK2 (aRen c (aDrop c s)) ∧ aK3 (aRen c (aDrop c s)) ∧ aK4 (aRen c (aDrop c s)) ∧ aK5 (aRen c (aDrop c s)) ∧ aK6 (aRen c (aDrop c s)) ∧ aK7 (aRen c (aDrop c s))) := by
  obtain ⟨g1, g2, g3, g4, g5, g6, g7, g8, g9⟩ := g
  have n' : (aRen c (aDrop c s)).1 0 = s.1 0 - 1 := aDrop_0 (c := c)
  have q' : (aRen c (aDrop c s)).1 7 = s.1 7 := aDrop_n (c := c) (j := 7) (by decide)
  have Q' : ∀ k, k < s.1 7 → hQ (aRen c (aDrop c s)) k = dn c (hQ s k) := fun k hk => aRen_Q (s := aDrop c s) (by rw [aDrop_n (by decide)]; exact hk)
  have W' : ∀ w, w < 3 → wo (aRen c (aDrop c s)) w = dn (c + 1) (wo s w) := fun w hw => aRen_W (s := aDrop c s) hw
  have hz : ∀ w, w < 3 → (wo (aRen c (aDrop c s)) w = 0 ↔ wo s w = 0) := fun w hw => by
    rw [W' w hw]
    exact dn_0 (g9 w hw)
  refine ⟨fun k hk => ?_, fun j k hj hk e => ?_, fun w hw => ?_, fun v w hv hw h0 e => ?_, fun k w hk hw e => ?_, fun i hi => ?_, ?_⟩
  · rw [q'] at hk
    rw [n', Q' k hk]
    exact dn_lt (g8 k hk) hc (g1 k hk)
  · rw [q'] at hj hk
    rw [Q' j hj, Q' k hk] at e
    exact g2 j k hj hk (dn_inj (g8 j hj) (g8 k hk) e)
  · rw [n', W' w hw]
    have := g3 w hw
    have := g9 w hw
    unfold dn
    split <;> omega
  · rw [W' v hv, W' w hw] at e
    exact g4 v w hv hw (fun z => h0 ((hz v hv).mpr z)) (dn_inj (g9 v hv) (g9 w hw) e)
  · rw [q'] at hk
    rw [W' w hw, Q' k hk] at e
    have h1 := g5 k w hk hw
    have h2 := g8 k hk
    have h3 := g9 w hw
    unfold dn at e
    split at e <;> split at e <;> omega
  · rw [n'] at hi
    have := g6 (sk c i) (sk_lt hi) sk_ne
    rcases this with ⟨k, hk, e⟩ | ⟨w, hw, e⟩
    · refine .inl ⟨k, by rw [q']; exact hk, ?_⟩
      rw [Q' k hk, e, dn_sk]
    · refine .inr ⟨w, hw, ?_⟩
      rw [W' w hw, e]
      unfold dn sk
      split <;> split <;> omega
  · show (aRen c (aDrop c s)).1 0 = _ + _
    rw [n', q', aOcc_eq hz]
    omega
/-- where c stands -/
theorem aK_in {s : hS} {c : Nat} (k : aK s) (hc : c < s.1 0) : (∃ p, p < s.1 7 ∧ hQ s p = c ∧ aOutW c (aOutQ c s) = aTake p s) ∨ (∃ w, w < 3 ∧ wo s w = c + 1 ∧ aOutW c (aOutQ c s) = uW s w 2 0) := by
  obtain ⟨⟨k1, k2, k3, k4, k5, k6, k7⟩, -⟩ := k
  cases hp : pf (fun k => decide (hQ s k = c)) 0 (s.1 7) with
  | some p =>
    have e : aOutQ c s = aTake p s := by unfold aOutQ; rw [hp]
    obtain ⟨-, a2, a3, -⟩ := pf_some hp
    have a3 : hQ s p = c := of_decide_eq_true a3
    refine .inl ⟨p, by omega, a3, ?_⟩
    rw [e]
    have : pf (fun w => decide (hW (aTake p s) w 2 = c + 1)) 0 3 = none := pf_no fun w _ hw => decide_eq_false (by
      have := k5 p w (by omega) (by omega)
      rw [a3] at this
      exact this)
    unfold aOutW
    rw [this]
  | none =>
    have e : aOutQ c s = s := by unfold aOutQ; rw [hp]
    rw [e]
    rcases k6 c hc with ⟨k, hk, e2⟩ | ⟨w, hw, e2⟩
    · have := pf_none hp k (by omega) (by omega)
      exact absurd e2 (of_decide_eq_false this)
    · refine .inr ⟨w, hw, e2, ?_⟩
      have : pf (fun w => decide (hW s w 2 = c + 1)) 0 3 = some w := pf_is (by omega) (by omega) (decide_eq_true e2) (fun i _ hi => decide_eq_false (fun e3 => by
        have := k4 i w (by omega) hw (by show hW s i 2 ≠ 0; omega) (by show hW s i 2 = hW s w 2; rw [e3]; exact e2.symm)
        omega))
      unfold aOutW
      rw [this]
theorem aK_gone {s : hS} {c : Nat} (k : aK s) (hc : c < s.1 0) : aGone c (aOutW c (aOutQ c s)) := by
  have h := aK_in k hc
  obtain ⟨⟨k1, k2, k3, k4, k5, k6, k7⟩, -⟩ := k
  rcases h with ⟨p, hp, e1, e⟩ | ⟨v, hv, e1, e⟩
  · rw [e]
    have n' : (aTake p s).1 0 = s.1 0 := aTake_n (by decide)
    have q' : (aTake p s).1 7 = s.1 7 - 1 := aTake_7
    have Q' : ∀ k, k < s.1 7 - 1 → hQ (aTake p s) k = hQ s (sk p k) := fun k hk => aTake_Q hk
    have o' : aOcc (aTake p s) = aOcc s := rfl
    refine ⟨fun k hk => ?_, fun j k hj hk e => ?_, fun w hw => ?_, k4, fun k w hk hw => ?_, fun i hi hn => ?_, ?_, fun k hk => ?_, fun w hw => ?_⟩
    · rw [q'] at hk
      rw [n', Q' k hk]
      exact k1 _ (sk_lt hk)
    · rw [q'] at hj hk
      rw [Q' j hj, Q' k hk] at e
      exact sk_inj (k2 _ _ (sk_lt hj) (sk_lt hk) e)
    · rw [n']; exact k3 w hw
    · rw [q'] at hk
      rw [Q' k hk]
      exact k5 _ w (sk_lt hk) hw
    · rw [n'] at hi
      rcases k6 i hi with ⟨k, hk, e2⟩ | ⟨w, hw, e2⟩
      · have hkp : k ≠ p := fun z => hn (by rw [← e2, z, e1])
        refine .inl ⟨dn p k, by rw [q']; exact dn_lt hkp hp hk, ?_⟩
        rw [Q' _ (dn_lt hkp hp hk), sk_dn hkp]
        exact e2
      · exact .inr ⟨w, hw, e2⟩
    · have k7 : s.1 0 = s.1 7 + aOcc s := k7
      rw [n', q', o']
      omega
    · rw [q'] at hk
      rw [Q' k hk]
      exact fun z => sk_ne (k2 _ _ (sk_lt hk) hp (z.trans e1.symm))
    · have := k5 p w hp hw
      rw [e1] at this
      exact this
  · rw [e]
    have W' : ∀ w, w ≠ v → wo (uW s v 2 0) w = wo s w := fun w hw => uW_w hw
    have Wv : wo (uW s v 2 0) v = 0 := uW_s
    refine ⟨k1, k2, fun w hw => ?_, fun u w hu hw h0 e => ?_, fun k w hk hw => ?_, fun i hi hn => ?_, ?_, fun k hk z => ?_, fun w hw => ?_⟩
    · by_cases g : w = v
      · rw [g, Wv]; omega
      · rw [W' w g]; exact k3 w hw
    · by_cases g : u = v
      · rw [g, Wv] at h0; exact absurd rfl h0
      · by_cases g2 : w = v
        · rw [W' u g] at h0
          rw [g2, Wv, W' u g] at e
          exact absurd e h0
        · rw [W' u g] at h0
          rw [W' u g, W' w g2] at e
          exact k4 u w hu hw h0 e
    · by_cases g : w = v
      · rw [g, Wv]; omega
      · rw [W' w g]; exact k5 k w hk hw
    · rcases k6 i hi with ⟨k, hk, e2⟩ | ⟨w, hw, e2⟩
      · exact .inl ⟨k, hk, e2⟩
      · by_cases g : w = v
        · rw [g, e1] at e2
          exact absurd (by omega) hn
        · exact .inr ⟨w, hw, by rw [W' w g]; exact e2⟩
    · have k7 : s.1 0 = s.1 7 + aOcc s := k7
      have := aOcc_out (s := s) (t := uW s v 2 0) hv (by rw [e1]; omega) Wv (fun w hw hn => by rw [W' w hn])
      show s.1 0 = s.1 7 + aOcc (uW s v 2 0) + 1
      omega
    · have := k5 k v hk hv
      rw [e1] at this
      have z : hQ s k = c := z
      omega
    · by_cases g : w = v
      · rw [g, Wv]; omega
      · rw [W' w g]
        exact fun z => g (k4 w v hw hv (by omega) (z.trans e1.symm))
theorem aOutQ_n {s : hS} {c j : Nat} (h : j ≠ 7) : (aOutQ c s).1 j = s.1 j := by
  unfold aOutQ
  split
  · exact aTake_n h
  · rfl
theorem aOutQ_C {s : hS} {c : Nat} : hC (aOutQ c s) = hC s := by unfold aOutQ; split <;> rfl
theorem aOutW_C {s : hS} {c : Nat} : hC (aOutW c s) = hC s := by unfold aOutW; split <;> rfl
theorem aOutQ_L {s : hS} {c : Nat} : hL (aOutQ c s) = hL s := by unfold aOutQ; split <;> rfl
theorem aOutW_L {s : hS} {c : Nat} : hL (aOutW c s) = hL s := by unfold aOutW; split <;> rfl
theorem aLeave_L {s : hS} {c : Nat} : hL (aLeave c s) = hL s := by
  show hL (aOutW c (aOutQ c s)) = _
  rw [aOutW_L, aOutQ_L]
theorem aLeave_0 {s : hS} {c : Nat} : (aLeave c s).1 0 = s.1 0 - 1 := by
  show (aDrop c (aOutW c (aOutQ c s))).1 0 = _
  rw [aDrop_0, aOutW_1, aOutQ_n (by decide)]
theorem aLeave_n {s : hS} {c j : Nat} (h0 : j ≠ 0) (h7 : j ≠ 7) : (aLeave c s).1 j = s.1 j := by
  show (aDrop c (aOutW c (aOutQ c s))).1 j = _
  rw [aDrop_n h0, aOutW_1, aOutQ_n h7]
theorem aLeave_C {s : hS} {c i f : Nat} (hi : i < s.1 0 - 1) : hC (aLeave c s) i f = hC s (sk c i) f := by
  show hC (aDrop c (aOutW c (aOutQ c s))) i f = _
  rw [aDrop_C (by rw [aOutW_1, aOutQ_n (by decide)]; exact hi), aOutW_C, aOutQ_C]
theorem aLeave_W2 {s : hS} {c w : Nat} (k : aK s) (hc : c < s.1 0) (hw : w < 3) : wo (aLeave c s) w = if wo s w = c + 1 then 0 else dn (c + 1) (wo s w) := by
  show wo (aRen c (aDrop c (aOutW c (aOutQ c s)))) w = _
  rw [aRen_W hw]
  show dn (c + 1) (wo (aOutW c (aOutQ c s)) w) = _
  rcases aK_in k hc with ⟨p, hp, e1, e⟩ | ⟨v, hv, e1, e⟩
  · rw [e]
    have := k.1.2.2.2.2.1 p w hp hw
    rw [e1] at this
    rw [if_neg this]
    rfl
  · rw [e]
    by_cases g : w = v
    · rw [g, if_pos e1, show wo (uW s v 2 0) v = 0 from uW_s]
      rfl
    · rw [show wo (uW s v 2 0) w = wo s w from uW_w g, if_neg]
      exact fun z => g (k.1.2.2.2.1 w v hw hv (by omega) (z.trans e1.symm))
theorem aLeave_Q {s : hS} {c : Nat} (k : aK s) (hc : c < s.1 0) : (∃ p, p < s.1 7 ∧ hQ s p = c ∧ (aLeave c s).1 7 = s.1 7 - 1 ∧ ∀ j, j < s.1 7 - 1 → hQ (aLeave c s) j = dn c (hQ s (sk p j))) ∨ (∃ w, w < 3 ∧ wo s w = c + 1 ∧ (aLeave c s).1 7 = s.1 7 ∧ ∀ j, j < s.1 7 → hQ (aLeave c s) j = dn c (hQ s j)) := by
  have h7 : (aLeave c s).1 7 = (aOutW c (aOutQ c s)).1 7 := aDrop_n (c := c) (j := 7) (by decide)
  have hQQ : ∀ j, j < (aOutW c (aOutQ c s)).1 7 → hQ (aLeave c s) j = dn c (hQ (aOutW c (aOutQ c s)) j) := fun j hj => aRen_Q (s := aDrop c (aOutW c (aOutQ c s))) (by rw [aDrop_n (by decide)]; exact hj)
  rcases aK_in k hc with ⟨p, hp, e1, e⟩ | ⟨v, hv, e1, e⟩
  · rw [e] at h7 hQQ
    rw [aTake_7] at h7 hQQ
    exact .inl ⟨p, hp, e1, h7, fun j hj => by rw [hQQ j hj, aTake_Q hj]⟩
  · rw [e] at h7 hQQ
    exact .inr ⟨v, hv, e1, h7, fun j hj => hQQ j hj⟩
theorem sk_mono {c i j : Nat} (h : i < j) : sk c i < sk c j := by unfold sk; split <;> split <;> omega
theorem aK_leave {s : hS} {c : Nat} (k : aK s) (hc : c < s.1 0) : aK (aLeave c s) := by
  have g := aK_gone k hc
  have n' : (aLeave c s).1 0 = s.1 0 - 1 := aLeave_0
  have W' := fun w (hw : w < 3) => aLeave_W2 (c := c) k hc hw
  obtain ⟨⟨k1, k2, k3, k4, k5, k6, k7⟩, ⟨k8, k9⟩, k11, k12⟩ := k
  refine ⟨aGone_done g (by rw [aOutW_1, aOutQ_n (by decide)]; exact hc), ⟨fun i j hij hj => ?_, fun i hi => ?_⟩, fun w hw h0 => ?_, fun w hw h0 => ?_⟩
  · rw [n'] at hj
    rw [aLeave_C (by omega), aLeave_C hj]
    exact k8 _ _ (sk_mono hij) (sk_lt hj)
  · rw [n'] at hi
    rw [aLeave_C hi, aLeave_n (by decide) (by decide)]
    exact k9 _ (sk_lt hi)
  · rw [W' w hw] at h0
    rw [W' w hw]
    have h3 := k3 w hw
    by_cases g1 : wo s w = c + 1
    · rw [if_pos g1] at h0
      exact absurd rfl h0
    · rw [if_neg g1] at h0
      rw [if_neg g1]
      have h0 : wo s w ≠ 0 := fun z => h0 ((dn_0 g1).mpr z)
      obtain ⟨x, hx⟩ : ∃ x, wo s w = x + 1 := ⟨wo s w - 1, by omega⟩
      have e : dn (c + 1) (x + 1) - 1 = dn c x := by unfold dn; split <;> split <;> omega
      rw [hx] at g1 h3
      have hl : dn c x < s.1 0 - 1 := dn_lt (by omega) hc (by omega)
      rw [hx, e, aLeave_C hl, aLeave_C hl, sk_dn (by omega)]
      have := k11 w hw h0
      rw [hx] at this
      exact this
  · rw [aLeave_w (by decide)] at h0
    rw [W' w hw, k12 w hw h0]
    split
    · rfl
    · rfl
theorem aS_leave {s : hS} {c : Nat} (h : ∀ i, i < s.1 0 → i ≠ c → hC s i 2 ≤ 2) : aK10 (aLeave c s) := fun i hi => by
  rw [aLeave_0] at hi
  rw [aLeave_C hi]
  exact h _ (sk_lt hi) sk_ne
theorem aK_cg {s t : hS} (k : aK s) (e0 : t.1 0 = s.1 0) (e2 : s.1 2 ≤ t.1 2) (e7 : t.1 7 = s.1 7) (eQ : ∀ k, k < s.1 7 → hQ t k = hQ s k) (eW : ∀ w, w < 3 → wo t w = wo s w)
    (eC : ∀ i, i < s.1 0 → hC t i 0 = hC s i 0 ∧ (hC s i 5 ≠ 0 → hC t i 5 ≠ 0) ∧ (hC s i 6 = 0 → hC t i 6 = 0)) (h12 : aK12 t) : aK t := by
  obtain ⟨⟨k1, k2, k3, k4, k5, k6, k7⟩, ⟨k8, k9⟩, k11, k12⟩ := k
  refine ⟨⟨fun k hk => ?_, fun j k hj hk e => ?_, fun w hw => ?_, fun v w hv hw h0 e => ?_, fun k w hk hw => ?_, fun i hi => ?_, ?_⟩, ⟨fun i j hij hj => ?_, fun i hi => ?_⟩, fun w hw h0 => ?_, h12⟩
  · rw [e7] at hk
    rw [e0, eQ k hk]; exact k1 k hk
  · rw [e7] at hj hk
    rw [eQ j hj, eQ k hk] at e
    exact k2 j k hj hk e
  · rw [e0, eW w hw]; exact k3 w hw
  · rw [eW v hv] at h0
    rw [eW v hv, eW w hw] at e
    exact k4 v w hv hw h0 e
  · rw [e7] at hk
    rw [eQ k hk, eW w hw]; exact k5 k w hk hw
  · rw [e0] at hi
    rcases k6 i hi with ⟨k, hk, e⟩ | ⟨w, hw, e⟩
    · exact .inl ⟨k, by rw [e7]; exact hk, by rw [eQ k hk]; exact e⟩
    · exact .inr ⟨w, hw, by rw [eW w hw]; exact e⟩
  · show t.1 0 = t.1 7 + aOcc t
    rw [e0, e7, aOcc_eq (t := s) (fun w hw => by rw [eW w hw])]
    exact k7
  · rw [e0] at hj
    rw [(eC i (by omega)).1, (eC j hj).1]; exact k8 i j hij hj
  · rw [e0] at hi
    rw [(eC i hi).1]
    have := k9 i hi
    omega
  · rw [eW w hw] at h0 ⊢
    have h3 := k3 w hw
    obtain ⟨a, b, d⟩ := eC (wo s w - 1) (by omega)
    obtain ⟨x, y⟩ := k11 w hw h0
    exact ⟨d x, b y⟩
