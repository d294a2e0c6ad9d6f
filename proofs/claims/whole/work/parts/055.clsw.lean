/-! pure: what the class's hall changes, first half: the queue, the leaving -/
def aShift (p : Nat) (s : hS) : hS := (s.1, (fun x => if p ≤ x ∧ x + 1 < s.1 7 then s.2.1 (x + 1) else s.2.1 x), s.2.2)
def aTake (p : Nat) (s : hS) : hS := u0 (aShift p s) 7 (s.1 7 - 1)
def aFr (c k : Nat) (s : hS) : hS := (s.1, (fun x => if x = 0 then c else if x ≤ k then s.2.1 (x - 1) else s.2.1 x), s.2.2)
def aFront (c : Nat) (s : hS) : hS := u0 (aFr c (s.1 7) s) 7 (s.1 7 + 1)
def aRenQ (c k : Nat) (s : hS) : hS := (s.1, (fun x => if k ≤ x ∧ x < s.1 7 ∧ c < s.2.1 x then s.2.1 x - 1 else s.2.1 x), s.2.2)
def aRenW (c k : Nat) (s : hS) : hS := (s.1, s.2.1, (fun w f => if k ≤ w ∧ w < 3 ∧ f = 2 ∧ c + 1 < s.2.2.1 w 2 then s.2.2.1 w 2 - 1 else s.2.2.1 w f), s.2.2.2)
def aRen (c : Nat) (s : hS) : hS := aRenW c 0 (aRenQ c 0 s)
def pm (c n i : Nat) : Nat := if c ≤ i ∧ i + 1 < n then i + 1 else if i = n - 1 then c else i
def aDrop (c : Nat) (s : hS) : hS := (va_up s.1 0 (s.1 0 - 1), s.2.1, s.2.2.1, (fun i f => s.2.2.2.1 (pm c (s.1 0) i) f), s.2.2.2.2)
def aOutQ (c : Nat) (s : hS) : hS := match pf (fun k => decide (hQ s k = c)) 0 (s.1 7) with
  | some p => aTake p s
  | none => s
def aOutW (c : Nat) (s : hS) : hS := match pf (fun w => decide (hW s w 2 = c + 1)) 0 3 with
  | some w => uW s w 2 0
  | none => s
def aLeave (c : Nat) (s : hS) : hS := aRen c (aDrop c (aOutW c (aOutQ c s)))
section CWR
variable {h : Nat}
theorem aShift_end {s : hS} {p : Nat} (hp : s.1 7 ≤ p + 1) : aShift p s = s := by
  unfold aShift
  have : (fun x => if p ≤ x ∧ x + 1 < s.1 7 then s.2.1 (x + 1) else s.2.1 x) = s.2.1 := funext fun x => if_neg (by omega)
  rw [this]
theorem aShift_step {s : hS} {k : Nat} (hk : 0 < k) (hl : k < s.1 7) : aShift k (uQ s (k - 1) (hQ s k)) = aShift (k - 1) s := by
  unfold aShift uQ
  refine congrArg (fun z => (s.1, z, s.2.2)) (funext fun x => ?_)
  show (if k ≤ x ∧ x + 1 < s.1 7 then va_up s.2.1 (k - 1) (s.2.1 k) (x + 1) else va_up s.2.1 (k - 1) (s.2.1 k) x) = _
  by_cases e : x = k - 1
  · subst e
    rw [if_neg (by omega), va_up_self, if_pos (by omega), show k - 1 + 1 = k by omega]
  · by_cases g2 : k ≤ x
    · rw [va_up_ne _ _ e, va_up_ne _ _ (show x + 1 ≠ k - 1 by omega)]
      by_cases g : k - 1 ≤ x ∧ x + 1 < s.1 7
      · rw [if_pos g, if_pos (by omega)]
      · rw [if_neg g, if_neg (by omega)]
    · rw [if_neg (by omega), va_up_ne _ _ e, if_neg (by omega)]
theorem c_takeL : ∀ (m k n : Nat) (M : xM) (s : hS), cR h M s → k + m = s.1 7 → 0 < k → s.1 7 ≤ 12 → m < n → ∃ M', f_X3_takeFromQueue_L4 h n (nI k) M = some M' ∧ cR h M' (u0 (aShift (k - 1) s) 7 (s.1 7 - 1)) ∧ cF h M M'
  | 0, k, n, M, s, r, e, hk, hq, hn => by
    obtain ⟨n, rfl⟩ : ∃ n', n = n' + 1 := ⟨n - 1, by omega⟩
    unfold f_X3_takeFromQueue_L4
    rw [r.qn, if_pos (nI_le (by omega) (by omega)), pi_sub1 (by omega)]
    refine ⟨_, rfl, ?_, cF_I (by omega) (by omega)⟩
    have := aShift_end (s := s) (p := k - 1) (by omega)
    rw [this]
    exact r.u0 (j := 7) (by decide)
  | m + 1, k, n, M, s, r, e, hk, hq, hn => by
    obtain ⟨n, rfl⟩ : ∃ n', n = n' + 1 := ⟨n - 1, by omega⟩
    unfold f_X3_takeFromQueue_L4
    rw [r.qn, if_neg (nI_ge (by omega) (by omega)), if_pos (pi_in12 (by omega)), pi_sub1 hk, if_pos (pi_in12 (by omega)), pi_cl (by omega), pi_cl (by omega), r.q (by omega), pi_add1]
    have r1 := r.uQ (k := k - 1) (v := hQ s k)
    obtain ⟨M', h1, h2, h3⟩ := c_takeL m (k + 1) n _ _ r1 (by show k + 1 + m = s.1 7; omega) (by omega) hq (by omega)
    refine ⟨M', h1, ?_, (cF_I (by omega) (by omega)).tr h3⟩
    rw [show k + 1 - 1 = k from rfl, aShift_step hk (by omega)] at h2
    exact h2
theorem c_take {M : xM} {s : hS} {p : Nat} (r : cR h M s) (hp : p < s.1 7) (hq : s.1 7 ≤ 12) : ∃ M', f_X3_takeFromQueue h (nI p) M = some M' ∧ cR h M' (aTake p s) ∧ cF h M M' := by
  unfold f_X3_takeFromQueue
  rw [pi_add1]
  exact c_takeL (s.1 7 - (p + 1)) (p + 1) xF M s r (by omega) (by omega) hq (by rw [xF_2000]; omega)
theorem aFr_step {s : hS} {c k : Nat} : aFr c k (uQ s (k + 1) (hQ s k)) = aFr c (k + 1) s := by
  unfold aFr uQ
  refine congrArg (fun z => (s.1, z, s.2.2)) (funext fun x => ?_)
  show (if x = 0 then c else if x ≤ k then va_up s.2.1 (k + 1) (s.2.1 k) (x - 1) else va_up s.2.1 (k + 1) (s.2.1 k) x) = if x = 0 then c else if x ≤ k + 1 then s.2.1 (x - 1) else s.2.1 x
  by_cases e : x = 0
  · rw [if_pos e, if_pos e]
  · rw [if_neg e, if_neg e]
    by_cases g : x = k + 1
    · subst g
      rw [if_neg (by omega), va_up_self, if_pos (by omega)]
      rfl
    · by_cases g2 : x ≤ k
      · rw [if_pos g2, va_up_ne _ _ (show x - 1 ≠ k + 1 by omega), if_pos (by omega)]
      · rw [if_neg g2, va_up_ne _ _ g, if_neg (by omega)]
theorem aFr_0 {s : hS} {c : Nat} : aFr c 0 s = uQ s 0 c := by
  unfold aFr uQ
  refine congrArg (fun z => (s.1, z, s.2.2)) (funext fun x => ?_)
  show (if x = 0 then c else if x ≤ 0 then s.2.1 (x - 1) else s.2.1 x) = va_up s.2.1 0 c x
  by_cases e : x = 0
  · rw [if_pos e, e, va_up_self]
  · rw [if_neg e, if_neg (by omega), va_up_ne _ _ e]
theorem c_frontL {c : Nat} : ∀ (k n : Nat) (M : xM) (s : hS), cR h M s → k < 12 → k < n → ∃ M', f_X3_queueInFront_L15 h (nI c) n (nI k) M = some M' ∧ cR h M' (u0 (aFr c k s) 7 (s.1 7 + 1)) ∧ cF h M M'
  | 0, n, M, s, r, hk, hn => by
    obtain ⟨n, rfl⟩ : ∃ n', n = n' + 1 := ⟨n - 1, by omega⟩
    unfold f_X3_queueInFront_L15
    rw [if_pos (show nI 0 ≤ (0 : Int32) by decide), if_pos (show x_in 0 12 = true by decide)]
    have r1 := r.uQ (k := 0) (v := c)
    refine ⟨_, rfl, ?_, (cF_I (M := M) (c := h + 2) (k := 0) (v := nI c) (by omega) (by omega)).tr (cF_I (by omega) (by omega))⟩
    rw [aFr_0, pi_cl0, r1.qn, pi_add1]
    exact r1.u0 (j := 7) (by decide)
  | k + 1, n, M, s, r, hk, hn => by
    obtain ⟨n, rfl⟩ : ∃ n', n = n' + 1 := ⟨n - 1, by omega⟩
    unfold f_X3_queueInFront_L15
    rw [if_neg (show ¬ nI (k + 1) ≤ (0 : Int32) from nI_nle (by omega) (by omega)), pi_sub1 (by omega), pi_m1 (by omega), if_pos (pi_in12 (by omega)), if_pos (pi_in12 (by omega)), pi_cl (by omega), pi_cl (by omega), show k + 1 - 1 = k from rfl, r.q (by omega)]
    have r1 := r.uQ (k := k + 1) (v := hQ s k)
    obtain ⟨M', h1, h2, h3⟩ := c_frontL k n _ _ r1 (by omega) (by omega)
    refine ⟨M', h1, ?_, (cF_I (by omega) (by omega)).tr h3⟩
    rw [aFr_step] at h2
    exact h2
theorem c_front {M : xM} {s : hS} {c : Nat} (r : cR h M s) (hq : s.1 7 < 12) : ∃ M', f_X3_queueInFront h (nI c) M = some M' ∧ cR h M' (aFront c s) ∧ cF h M M' := by
  unfold f_X3_queueInFront
  rw [r.qn, if_pos (show nI (s.1 7) < (12 : Int32) from nI_lt hq (by decide))]
  exact c_frontL (s.1 7) xF M s r hq (by rw [xF_2000]; omega)
theorem aRenQ_end {s : hS} {c k : Nat} (hk : s.1 7 ≤ k) : aRenQ c k s = s := by
  unfold aRenQ
  have : (fun x => if k ≤ x ∧ x < s.1 7 ∧ c < s.2.1 x then s.2.1 x - 1 else s.2.1 x) = s.2.1 := funext fun x => if_neg (by omega)
  rw [this]
theorem aRenQ_skip {s : hS} {c k : Nat} (hk : hQ s k ≤ c) : aRenQ c (k + 1) s = aRenQ c k s := by
  unfold aRenQ
  refine congrArg (fun z => (s.1, z, s.2.2)) (funext fun x => ?_)
  have hk : s.2.1 k ≤ c := hk
  by_cases e : x = k
  · subst e
    rw [if_neg (by omega), if_neg (by omega)]
  · by_cases g : k ≤ x ∧ x < s.1 7 ∧ c < s.2.1 x
    · rw [if_pos g, if_pos (by omega)]
    · rw [if_neg g, if_neg (by omega)]
theorem aRenQ_step {s : hS} {c k : Nat} (hk : c < hQ s k) (hl : k < s.1 7) : aRenQ c (k + 1) (uQ s k (hQ s k - 1)) = aRenQ c k s := by
  unfold aRenQ uQ
  refine congrArg (fun z => (s.1, z, s.2.2)) (funext fun x => ?_)
  have hk : c < s.2.1 k := hk
  show (if k + 1 ≤ x ∧ x < s.1 7 ∧ c < va_up s.2.1 k (s.2.1 k - 1) x then va_up s.2.1 k (s.2.1 k - 1) x - 1 else va_up s.2.1 k (s.2.1 k - 1) x) = _
  by_cases e : x = k
  · subst e
    rw [if_neg (by omega), va_up_self, if_pos ⟨Nat.le_refl _, hl, hk⟩]
  · rw [va_up_ne _ _ e]
    by_cases g : k ≤ x ∧ x < s.1 7 ∧ c < s.2.1 x
    · rw [if_pos g, if_pos (by omega)]
    · rw [if_neg g, if_neg (by omega)]
theorem aRenW_end {s : hS} {c k : Nat} (hk : 3 ≤ k) : aRenW c k s = s := by
  unfold aRenW
  have : (fun w f => if k ≤ w ∧ w < 3 ∧ f = 2 ∧ c + 1 < s.2.2.1 w 2 then s.2.2.1 w 2 - 1 else s.2.2.1 w f) = s.2.2.1 := funext fun w => funext fun f => if_neg (by omega)
  rw [this]
theorem aRenW_skip {s : hS} {c k : Nat} (hk : hW s k 2 ≤ c + 1) : aRenW c (k + 1) s = aRenW c k s := by
  unfold aRenW
  refine congrArg (fun z => (s.1, s.2.1, z, s.2.2.2)) (funext fun w => funext fun f => ?_)
  have hk : s.2.2.1 k 2 ≤ c + 1 := hk
  by_cases e : w = k
  · subst e
    rw [if_neg (by omega), if_neg (by omega)]
  · by_cases g : k ≤ w ∧ w < 3 ∧ f = 2 ∧ c + 1 < s.2.2.1 w 2
    · rw [if_pos g, if_pos (by omega)]
    · rw [if_neg g, if_neg (by omega)]
theorem aRenW_step {s : hS} {c k : Nat} (hk : c + 1 < hW s k 2) (hl : k < 3) : aRenW c (k + 1) (uW s k 2 (hW s k 2 - 1)) = aRenW c k s := by
  unfold aRenW uW
  refine congrArg (fun z => (s.1, s.2.1, z, s.2.2.2)) (funext fun w => funext fun f => ?_)
  have hk : c + 1 < s.2.2.1 k 2 := hk
  show (if k + 1 ≤ w ∧ w < 3 ∧ f = 2 ∧ c + 1 < up2 s.2.2.1 k 2 (s.2.2.1 k 2 - 1) w 2 then up2 s.2.2.1 k 2 (s.2.2.1 k 2 - 1) w 2 - 1 else up2 s.2.2.1 k 2 (s.2.2.1 k 2 - 1) w f) = _
  unfold up2
  by_cases e : w = k
  · subst e
    rw [if_neg (by omega)]
    by_cases g : f = 2
    · subst g
      rw [if_pos ⟨rfl, rfl⟩, if_pos ⟨Nat.le_refl _, hl, rfl, hk⟩]
    · rw [if_neg (fun z => g z.2), if_neg (fun z => g z.2.2.1)]
  · rw [if_neg (show ¬ (w = k ∧ 2 = 2) from fun z => e z.1), if_neg (show ¬ (w = k ∧ f = 2) from fun z => e z.1)]
    by_cases g : k ≤ w ∧ w < 3 ∧ f = 2 ∧ c + 1 < s.2.2.1 w 2
    · rw [if_pos g, if_pos (by omega)]
    · rw [if_neg g, if_neg (by omega)]
theorem c_renWL {c : Nat} (hc : c < 2 ^ 30) : ∀ (m k n : Nat) (M : xM) (s : hS), cR h M s → (∀ w, w < 3 → hW s w 2 < 2 ^ 31) → k + m = 3 → m < n → ∃ M', f_X3_renumberAfter_L38 h (nI c) n (nI k) M = some M' ∧ cR h M' (aRenW c k s) ∧ cF h M M'
  | 0, k, n, M, s, r, hb, e, hn => by
    obtain ⟨n, rfl⟩ : ∃ n', n = n' + 1 := ⟨n - 1, by omega⟩
    unfold f_X3_renumberAfter_L38
    rw [if_pos (show (3 : Int32) ≤ nI k from nI_le (a := 3) (by omega) (by omega)), aRenW_end (by omega)]
    exact ⟨M, rfl, r, cF.rf⟩
  | m + 1, k, n, M, s, r, hb, e, hn => by
    obtain ⟨n, rfl⟩ : ∃ n', n = n' + 1 := ⟨n - 1, by omega⟩
    unfold f_X3_renumberAfter_L38
    have hk : k < 3 := by omega
    have b := hb k hk
    rw [if_neg (show ¬ (3 : Int32) ≤ nI k from nI_ge (b := 3) (by omega) (by omega)), if_pos (pi_in3 hk), pi_cl (by omega), if_pos (r.wk hk), r.w2 hk, pi_add1]
    by_cases g : hW s k 2 ≤ c + 1
    · rw [if_pos (show eI (hW s k 2) ≤ nI c by
        unfold eI
        by_cases z : hW s k 2 = 0
        · rw [if_pos z]
          rw [Int32.le_iff_toInt_le, nI_toInt (by omega)]
          have : (-1 : Int32).toInt = -1 := by decide
          omega
        · rw [if_neg z]
          exact nI_le (by omega) (by omega))]
      obtain ⟨M', h1, h2, h3⟩ := c_renWL hc m (k + 1) n M s r hb (by omega) (by omega)
      rw [aRenW_skip g] at h2
      exact ⟨M', h1, h2, h3⟩
    · obtain ⟨x, hx⟩ : ∃ x, hW s k 2 = x + 2 := ⟨hW s k 2 - 2, by omega⟩
      rw [hx] at b
      rw [hx, if_neg (show ¬ eI (x + 2) ≤ nI c by rw [eI_s]; exact nI_ge (by omega) (by omega)), if_pos (pi_in3 hk), if_pos (r.wk hk), eI_s, pi_sub1 (by omega), show x + 1 - 1 = x from rfl]
      have r1 := r.uWe (w := k) (v := x + 1) hk
      rw [eI_s] at r1
      obtain ⟨M', h1, h2, h3⟩ := c_renWL hc m (k + 1) n _ _ r1 (fun w hw => by
        show up2 s.2.2.1 k 2 (x + 1) w 2 < 2 ^ 31
        unfold up2
        split
        · omega
        · exact hb w hw) (by omega) (by omega)
      refine ⟨M', h1, ?_, (cF_I (by omega) (by omega)).tr h3⟩
      have := aRenW_step (s := s) (c := c) (k := k) (by omega) hk
      rw [hx] at this
      rw [← this]
      exact h2
theorem c_renL {c : Nat} (hc : c < 2 ^ 30) : ∀ (m k n : Nat) (M : xM) (s : hS), cR h M s → (∀ w, w < 3 → hW s w 2 < 2 ^ 31) → (∀ k, k < s.1 7 → hQ s k < 2 ^ 31) → s.1 7 ≤ 12 → k + m = s.1 7 → m < n → ∃ M', f_X3_renumberAfter_L2 h (nI c) n (nI k) M = some M' ∧ cR h M' (aRenW c 0 (aRenQ c k s)) ∧ cF h M M'
  | 0, k, n, M, s, r, hb, hb2, hq, e, hn => by
    obtain ⟨n, rfl⟩ : ∃ n', n = n' + 1 := ⟨n - 1, by omega⟩
    unfold f_X3_renumberAfter_L2
    rw [r.qn, if_pos (nI_le (by omega) (by omega)), aRenQ_end (by omega)]
    exact c_renWL hc 3 0 xF M s r hb (by omega) (by rw [xF_2000]; omega)
  | m + 1, k, n, M, s, r, hb, hb2, hq, e, hn => by
    obtain ⟨n, rfl⟩ : ∃ n', n = n' + 1 := ⟨n - 1, by omega⟩
    unfold f_X3_renumberAfter_L2
    have b := hb2 k (by omega)
    rw [r.qn, if_neg (nI_ge (by omega) (by omega)), if_pos (pi_in12 (by omega)), pi_cl (by omega), r.q (by omega), pi_add1]
    by_cases g : hQ s k ≤ c
    · rw [if_pos (nI_le g (by omega))]
      obtain ⟨M', h1, h2, h3⟩ := c_renL hc m (k + 1) n M s r hb hb2 hq (by omega) (by omega)
      rw [aRenQ_skip g] at h2
      exact ⟨M', h1, h2, h3⟩
    · rw [if_neg (nI_ge (by omega) b), if_pos (pi_in12 (by omega)), if_pos (pi_in12 (by omega)), pi_sub1 (by omega)]
      have r1 := r.uQ (k := k) (v := hQ s k - 1)
      obtain ⟨M', h1, h2, h3⟩ := c_renL hc m (k + 1) n _ _ r1 hb (fun k' hk' => by
        show va_up s.2.1 k (hQ s k - 1) k' < 2 ^ 31
        by_cases e : k' = k
        · rw [e, va_up_self]; omega
        · rw [va_up_ne _ _ e]; exact hb2 k' hk') hq (by show k + 1 + m = s.1 7; omega) (by omega)
      refine ⟨M', h1, ?_, (cF_I (by omega) (by omega)).tr h3⟩
      rw [aRenQ_step (by omega) (by omega)] at h2
      exact h2
theorem c_ren {M : xM} {s : hS} {c : Nat} (hc : c < 2 ^ 30) (r : cR h M s) (hb : ∀ w, w < 3 → hW s w 2 < 2 ^ 31) (hb2 : ∀ k, k < s.1 7 → hQ s k < 2 ^ 31) (hq : s.1 7 ≤ 12) : ∃ M', f_X3_renumberAfter h (nI c) M = some M' ∧ cR h M' (aRen c s) ∧ cF h M M' := by
  unfold f_X3_renumberAfter
  exact c_renL hc (s.1 7) 0 xF M s r hb hb2 hq (by omega) (by rw [xF_2000]; omega)
/-- the customers' places in a row of their own -/
def sPg (M : xM) (h : Nat) (g : Nat → Nat) : xM := (M.1, va_up M.2.1 (h + 1) g, M.2.2)
theorem c_dropL {c gone : Nat} {n0 : Nat} (hn0 : n0 ≤ 12) (h0 : 0 < n0) : ∀ (m k n : Nat) (M : xM), M.1 h 1 = nI n0 → (∀ x, x < 12 → xkd (M.2.1 (h + 1) x) = 4) → k + m = n0 → 0 < k → m < n →
    f_X3_leave_L50 h (nI c) gone n (nI k) M = f_X3_renumberAfter h (nI c) (sI (sPg M h (fun x => if x = n0 - 1 then gone else if k - 1 ≤ x ∧ x + 1 < n0 then M.2.1 (h + 1) (x + 1) else M.2.1 (h + 1) x)) h 1 (nI (n0 - 1)))
  | 0, k, n, M, e1, hk4, e, hk, hn => by
    obtain ⟨n, rfl⟩ : ∃ n', n = n' + 1 := ⟨n - 1, by omega⟩
    unfold f_X3_leave_L50
    rw [e1, if_pos (nI_le (by omega) (by omega)), pi_sub1 (by omega)]
    simp only [x_let]
    rw [sI_s, if_pos (pi_in12 (by omega)), pi_cl (by omega), show ∀ o : Option xM, (o.bind fun q15 => some q15) = o from fun o => by cases o <;> rfl]
    congr 1
    show (va_up M.1 h (upd (M.1 h) 1 (nI (n0 - 1))), va_up M.2.1 (h + 1) (va_up (M.2.1 (h + 1)) (n0 - 1) gone), M.2.2) = (va_up M.1 h (upd (M.1 h) 1 (nI (n0 - 1))), va_up M.2.1 (h + 1) (fun x => if x = n0 - 1 then gone else if k - 1 ≤ x ∧ x + 1 < n0 then M.2.1 (h + 1) (x + 1) else M.2.1 (h + 1) x), M.2.2)
    have : va_up (M.2.1 (h + 1)) (n0 - 1) gone = (fun x => if x = n0 - 1 then gone else if k - 1 ≤ x ∧ x + 1 < n0 then M.2.1 (h + 1) (x + 1) else M.2.1 (h + 1) x) := funext fun x => by
      by_cases g : x = n0 - 1
      · rw [g, va_up_self, if_pos rfl]
      · rw [va_up_ne _ _ g, if_neg g, if_neg (by omega)]
    rw [this]
  | m + 1, k, n, M, e1, hk4, e, hk, hn => by
    obtain ⟨n, rfl⟩ : ∃ n', n = n' + 1 := ⟨n - 1, by omega⟩
    unfold f_X3_leave_L50
    rw [e1, if_neg (nI_ge (by omega) (by omega)), if_pos (pi_in12 (by omega)), pi_cl (by omega), if_pos (hk4 k (by omega)), pi_sub1 hk, if_pos (pi_in12 (by omega)), pi_cl (by omega), pi_add1]
    simp only [x_let]
    rw [c_dropL hn0 h0 m (k + 1) n (sP M (h + 1) (k - 1) (M.2.1 (h + 1) k)) e1 (fun x hx => by
      rw [sP_at]
      split
      · exact hk4 k (by omega)
      · exact hk4 x hx) (by omega) (by omega) (by omega)]
    congr 2
    show (M.1, va_up (va_up M.2.1 (h + 1) (va_up (M.2.1 (h + 1)) (k - 1) (M.2.1 (h + 1) k))) (h + 1) _, M.2.2) = (M.1, va_up M.2.1 (h + 1) _, M.2.2)
    rw [bx_uu]
    have : (fun x => if x = n0 - 1 then gone else if k + 1 - 1 ≤ x ∧ x + 1 < n0 then (sP M (h + 1) (k - 1) (M.2.1 (h + 1) k)).2.1 (h + 1) (x + 1) else (sP M (h + 1) (k - 1) (M.2.1 (h + 1) k)).2.1 (h + 1) x) = (fun x => if x = n0 - 1 then gone else if k - 1 ≤ x ∧ x + 1 < n0 then M.2.1 (h + 1) (x + 1) else M.2.1 (h + 1) x) := funext fun x => by
      rw [sP_at, sP_at]
      by_cases g : x = n0 - 1
      · rw [if_pos g, if_pos g]
      · rw [if_neg g, if_neg g]
        by_cases g1 : x = k - 1
        · subst g1
          rw [if_neg (by omega), if_pos ⟨rfl, rfl⟩, if_pos (by omega), show k - 1 + 1 = k by omega]
        · rw [if_neg (show ¬ (h + 1 = h + 1 ∧ x = k - 1) by omega)]
          by_cases g2 : k - 1 ≤ x ∧ x + 1 < n0
          · rw [if_pos g2, if_pos (by omega), if_neg (by omega)]
          · rw [if_neg g2, if_neg (by omega)]
    rw [this]
theorem pm_lt {c n i : Nat} (hc : c < n) (hn : n ≤ 12) (hi : i < 12) : pm c n i < 12 := by unfold pm; split <;> (try split) <;> omega
theorem pm_inj {c n i j : Nat} (hc : c < n) (h : pm c n i = pm c n j) : i = j := by
  unfold pm at h
  by_cases a : c ≤ i ∧ i + 1 < n
  · rw [if_pos a] at h
    by_cases b : c ≤ j ∧ j + 1 < n
    · rw [if_pos b] at h; omega
    · rw [if_neg b] at h
      by_cases b2 : j = n - 1
      · rw [if_pos b2] at h; omega
      · rw [if_neg b2] at h; omega
  · rw [if_neg a] at h
    by_cases a2 : i = n - 1
    · rw [if_pos a2] at h
      by_cases b : c ≤ j ∧ j + 1 < n
      · rw [if_pos b] at h; omega
      · rw [if_neg b] at h
        by_cases b2 : j = n - 1
        · omega
        · rw [if_neg b2] at h; omega
    · rw [if_neg a2] at h
      by_cases b : c ≤ j ∧ j + 1 < n
      · rw [if_pos b] at h; omega
      · rw [if_neg b] at h
        by_cases b2 : j = n - 1
        · rw [if_pos b2] at h; omega
        · rw [if_neg b2] at h; omega
/-- the customers' row shifted: the hall without c -/
theorem c_drop {M : xM} {s : hS} {c : Nat} (r : cR h M s) (hc : c < s.1 0) (hn : s.1 0 ≤ 12) : cR h (sI (sPg M h (fun x => if x = s.1 0 - 1 then M.2.1 (h + 1) c else if c + 1 - 1 ≤ x ∧ x + 1 < s.1 0 then M.2.1 (h + 1) (x + 1) else M.2.1 (h + 1) x)) h 1 (nI (s.1 0 - 1))) (aDrop c s) := by
  have hg : ∀ x, (sI (sPg M h (fun x => if x = s.1 0 - 1 then M.2.1 (h + 1) c else if c + 1 - 1 ≤ x ∧ x + 1 < s.1 0 then M.2.1 (h + 1) (x + 1) else M.2.1 (h + 1) x)) h 1 (nI (s.1 0 - 1))).2.1 (h + 1) x = M.2.1 (h + 1) (pm c (s.1 0) x) := fun x => by
    show va_up M.2.1 (h + 1) _ (h + 1) x = _
    rw [va_up_self]
    unfold pm
    by_cases a : x = s.1 0 - 1
    · rw [if_pos a, if_neg (by omega), if_pos a]
    · rw [if_neg a]
      by_cases b : c ≤ x ∧ x + 1 < s.1 0
      · rw [if_pos (by omega), if_pos b]
      · rw [if_neg (by omega), if_neg b, if_neg a]
  have h1 : ∀ c' k', (sI (sPg M h (fun x => if x = s.1 0 - 1 then M.2.1 (h + 1) c else if c + 1 - 1 ≤ x ∧ x + 1 < s.1 0 then M.2.1 (h + 1) (x + 1) else M.2.1 (h + 1) x)) h 1 (nI (s.1 0 - 1))).1 c' k' = if c' = h ∧ k' = 1 then nI (s.1 0 - 1) else M.1 c' k' := fun c' k' => sI_at
  have n0 : ∀ (a b : Nat), a ≠ h → ¬ (a = h ∧ b = 1) := fun a b z z2 => z z2.1
  refine ⟨⟨r.1.1, fun i hi => ?_, fun i j hi hj e => ?_⟩, fun j hj => ?_, fun k hk => ?_, fun w hw => ?_, fun i hi f hf => ?_, fun k hk => ?_, fun i hi => ?_⟩
  · rw [hg]
    exact r.1.2.1 _ (pm_lt hc hn hi)
  · rw [hg, hg] at e
    exact pm_inj hc (r.1.2.2 _ _ (pm_lt hc hn hi) (pm_lt hc hn hj) e)
  · rw [h1]
    show _ = nI (va_up s.1 0 (s.1 0 - 1) j)
    by_cases e : j = 0
    · subst e
      rw [if_pos ⟨rfl, rfl⟩, va_up_self]
    · rw [if_neg (fun z => e (hix_inj (b := 0) hj (by decide) z.2)), va_up_ne _ _ e]
      exact r.sc hj
  · rw [h1, if_neg (n0 _ _ (by omega))]; exact r.q hk
  · rw [h1, h1, h1, h1, if_neg (n0 _ _ (by omega)), if_neg (n0 _ _ (by omega)), if_neg (n0 _ _ (by omega)), if_neg (n0 _ _ (by omega))]; exact r.2.2.2.1 w hw
  · rw [hg, h1]
    obtain ⟨d, hd, e⟩ := r.cc (pm_lt hc hn hi)
    rw [if_neg (n0 _ _ (by omega))]
    exact r.c (pm_lt hc hn hi) hf
  · rw [h1, h1, if_neg (n0 _ _ (by omega)), if_neg (n0 _ _ (by omega))]; exact r.2.2.2.2.2.1 k hk
  · exact ⟨r.b5 (pm_lt hc hn hi), r.b6 (pm_lt hc hn hi)⟩
theorem cF_drop {M : xM} {g : Nat → Nat} {v : Int32} : cF h M (sI (sPg M h g) h 1 v) := ⟨fun c hc => ⟨sI_c (by omega), va_up_ne _ _ (by omega)⟩, rfl⟩
end CWR
