/-! pure: rows for walking the model's functions -/
def mI : Int32 := -1
theorem m_neg : (-(nI 1) : Int32) = mI := rfl
theorem m_mI : (-1 : Int32) = mI := rfl
theorem mI_n {a : Nat} (h : a < 2 ^ 31) : (nI a = mI) = False := eq_false (pi_ne1 h)
theorem mI_e {x : Nat} (h : x < 2 ^ 31) : (eI x = mI) = (x = 0) := eI_n h
theorem mI_dec {k : Nat} (h : 0 < k) : nI k + mI = nI (k - 1) := pi_m1 h
theorem eI_z : eI 0 = mI := rfl
theorem eI_p {x : Nat} (h : 0 < x) : eI x = nI (x - 1) := if_neg (by omega)
theorem pi_7 : (7 : Int32) = nI 7 := rfl
theorem pi_8 : (8 : Int32) = nI 8 := rfl
theorem pi_10 : (10 : Int32) = nI 10 := rfl
theorem pi_11 : (11 : Int32) = nI 11 := rfl
theorem pi_13 : (13 : Int32) = nI 13 := rfl
theorem pi_20 : (20 : Int32) = nI 20 := rfl
theorem pi_27 : (27 : Int32) = nI 27 := rfl
theorem pi_60 : (60 : Int32) = nI 60 := rfl
theorem pi_115 : (115 : Int32) = nI 115 := rfl
theorem pi_123 : (123 : Int32) = nI 123 := rfl
theorem pi_135 : (135 : Int32) = nI 135 := rfl
theorem pi_136 : (136 : Int32) = nI 136 := rfl
theorem pi_137 : (137 : Int32) = nI 137 := rfl
theorem pi_138 : (138 : Int32) = nI 138 := rfl
theorem pi_139 : (139 : Int32) = nI 139 := rfl
theorem pi_158 : (158 : Int32) = nI 158 := rfl
theorem pi_159 : (159 : Int32) = nI 159 := rfl
theorem pi_1113 : (1113 : Int32) = nI 1113 := rfl
theorem pi_sub {a b : Nat} (h : b ≤ a) : nI a - nI b = nI (a - b) := pk_sub h
theorem m_in (a lo hi : Int32) (M : xM) : f_X7_in a.toInt64 lo.toInt64 hi.toInt64 M = some (if lo ≤ a ∧ a ≤ hi then nI 1 else nI 0) := by
  unfold f_X7_in
  have e1 : (lg_cmp a.toInt64 lo.toInt64 < 0) ↔ a < lo := by
    rw [lg_cmp_lt, Int64.lt_iff_toInt_lt, Int32.toInt_toInt64, Int32.toInt_toInt64, Int32.lt_iff_toInt_lt]
  have e2 : (0 < lg_cmp a.toInt64 hi.toInt64) ↔ hi < a := by
    rw [lg_cmp_gt, Int64.lt_iff_toInt_lt, Int32.toInt_toInt64, Int32.toInt_toInt64, Int32.lt_iff_toInt_lt]
  by_cases g : a < lo
  · rw [if_pos (e1.mpr g), if_neg (fun z => absurd z.1 (Int32.not_le.mpr g))]
    rfl
  · rw [if_neg (fun z => g (e1.mp z))]
    by_cases g2 : hi < a
    · rw [if_pos (e2.mpr g2), if_neg (fun z => absurd z.2 (Int32.not_le.mpr g2))]
      rfl
    · rw [if_neg (fun z => g2 (e2.mp z)), if_pos ⟨Int32.not_lt.mp g, Int32.not_lt.mp g2⟩]
      rfl
theorem m_l0 : (0 : Int64) = (nI 0).toInt64 := by decide
theorem m_l1 : (1 : Int64) = (nI 1).toInt64 := by decide
theorem m_l2 : (2 : Int64) = (nI 2).toInt64 := by decide
theorem m_l9 : (9 : Int64) = (nI 9).toInt64 := by decide
theorem m_l20 : (20 : Int64) = (nI 20).toInt64 := by decide
theorem m_l30 : (30 : Int64) = (nI 30).toInt64 := by decide
theorem m_l60 : (60 : Int64) = (nI 60).toInt64 := by decide
theorem m_l99 : (99 : Int64) = (nI 99).toInt64 := by decide
theorem m_l32 : (32 : Int64) = (nI 32).toInt64 := by decide
theorem m_l126 : (126 : Int64) = (nI 126).toInt64 := by decide
theorem m_l48 : (48 : Int64) = (nI 48).toInt64 := by decide
theorem m_l57 : (57 : Int64) = (nI 57).toInt64 := by decide
theorem m_10 : (nI 1 = nI 0) = False := by decide
theorem m_00 : (nI 0 = nI 0) = True := by decide
/-- a row of the model's own: its cells, the rest as it was -/
def mG (M : xM) (c : Nat) (g : Nat → Int32) : xM := (va_up M.1 c g, M.2)
theorem mG_s {M : xM} {c : Nat} {g : Nat → Int32} : (mG M c g).1 c = g := va_up_self M.1 c g
theorem mG_n {M : xM} {c d : Nat} {g : Nat → Int32} (h : d ≠ c) : (mG M c g).1 d = M.1 d := va_up_ne _ _ h
theorem mG_2 {M : xM} {c : Nat} {g : Nat → Int32} : (mG M c g).2 = M.2 := rfl
theorem mG_g {M : xM} {c : Nat} {g f : Nat → Int32} : mG (mG M c g) c f = mG M c f := by
  show (va_up (va_up M.1 c g) c f, M.2) = (va_up M.1 c f, M.2)
  rw [bx_uu]
theorem mG_i {M : xM} {c k : Nat} {v : Int32} : sI M c k v = mG M c (upd (M.1 c) k v) := rfl
theorem mG_id {M : xM} {c : Nat} : mG M c (M.1 c) = M := by
  have : va_up M.1 c (M.1 c) = M.1 := funext fun j => by
    by_cases e : j = c
    · rw [e, va_up_self]
    · rw [va_up_ne _ _ e]
  show (va_up M.1 c (M.1 c), M.2) = M
  rw [this]
theorem mG_ug {M : xM} {c k : Nat} {v : Int32} {g : Nat → Int32} : sI (mG M c g) c k v = mG M c (upd g k v) := by
  rw [mG_i, mG_g, mG_s]
/-- the person's fields: where the model has them -/
def mf (f : Nat) : Nat := [0, 1, 2, 3, 6, 5, 4].getD f 0
theorem mf_le (f : Nat) : mf f ≤ 6 := by
  rcases Nat.lt_or_ge f 7 with h | h
  · have : ∀ f, f < 7 → mf f ≤ 6 := by decide
    exact this f h
  · have : mf f = 0 := by
      unfold mf
      rw [List.getD_eq_getElem?_getD, List.getElem?_eq_none (by simpa using h)]
      rfl
    omega
theorem mf_inj {a b : Nat} (ha : a < 7) (hb : b < 7) (h : mf a = mf b) : a = b := by
  have : ∀ a, a < 7 → ∀ b, b < 7 → mf a = mf b → a = b := by decide
  exact this a ha b hb h
def dix (j : Nat) : Nat := [0, 1, 2, 3, 4, 5, 6, 9, 11].getD j 0
theorem dix_inj {a b : Nat} (ha : a < 9) (hb : b < 9) (h : dix a = dix b) : a = b := by
  have : ∀ a, a < 9 → ∀ b, b < 9 → dix a = dix b → a = b := by decide
  exact this a ha b hb h
theorem dix_le {j : Nat} (h : j < 9) : dix j ≤ 11 ∧ dix j ≠ 10 := by
  have : ∀ j, j < 9 → dix j ≤ 11 ∧ dix j ≠ 10 := by decide
  exact this j h
def dS (g : Nat → Int32) (s : hS) : Prop := ∀ j, j < 9 → g (dix j) = nI (s.1 j)
def dT (g : Nat → Int32) (s : hS) : Prop := g 10 = nI (if s.1 3 < 6 then s.1 3 else 6)
def dW (g : Nat → Int32) (s : hS) : Prop := ∀ w, w < 3 → g (12 + 5 * w) = nI (hW s w 0) ∧ (hW s w 0 ≠ 0 → g (12 + 5 * w + 1) = nI (hW s w 1)) ∧ g (12 + 5 * w + 2) = eI (hW s w 2) ∧ (hW s w 2 ≠ 0 → g (12 + 5 * w + 3) = nI (hW s w 3))
def dP (g : Nat → Int32) (s : hS) (n : Nat) : Prop := ∀ i, i < n → ∀ f, f < 7 → g (27 + 8 * i + mf f) = nI (hC s i f)
def dA (g : Nat → Int32) (a : Nat → Nat) (n : Nat) : Prop := ∀ i, i < n → g (27 + 8 * i + 7) = eI (a i)
def dZ (g : Nat → Int32) (n : Nat) : Prop := ∀ k, 27 + 8 * n ≤ k → k < 123 → g k = nI 0
def dQ (g : Nat → Int32) (s : hS) (q : Nat) : Prop := ∀ k, k < q → g (123 + k) = nI (hQ s k)
def dL (g : Nat → Int32) (s : hS) : Prop := ∀ r, r < 6 → g (135 + 4 * r) = nI (hL s r 0) ∧ g (135 + 4 * r + 1) = nI (hL s r 1)
/-- the row g holds the hall s, its customers at the windows a (one up, 0 in the queue) -/
def dH (g : Nat → Int32) (s : hS) (a : Nat → Nat) : Prop := dS g s ∧ dT g s ∧ dW g s ∧ dP g s (s.1 0) ∧ dA g a (s.1 0) ∧ dZ g (s.1 0) ∧ dQ g s (s.1 7) ∧ dL g s
section DH
variable {g : Nat → Int32} {s : hS} {a : Nat → Nat}
theorem dH.sc (d : dH g s a) {j : Nat} (h : j < 9) : g (dix j) = nI (s.1 j) := d.1 j h
theorem dH.n (d : dH g s a) : g 0 = nI (s.1 0) := d.1 0 (by decide)
theorem dH.qn (d : dH g s a) : g 9 = nI (s.1 7) := d.1 7 (by decide)
theorem dH.w0 (d : dH g s a) {w : Nat} (h : w < 3) : g (12 + 5 * w) = nI (hW s w 0) := (d.2.2.1 w h).1
theorem dH.w1 (d : dH g s a) {w : Nat} (h : w < 3) (h0 : hW s w 0 ≠ 0) : g (12 + 5 * w + 1) = nI (hW s w 1) := (d.2.2.1 w h).2.1 h0
theorem dH.w2 (d : dH g s a) {w : Nat} (h : w < 3) : g (12 + 5 * w + 2) = eI (hW s w 2) := (d.2.2.1 w h).2.2.1
theorem dH.w3 (d : dH g s a) {w : Nat} (h : w < 3) (h0 : hW s w 2 ≠ 0) : g (12 + 5 * w + 3) = nI (hW s w 3) := (d.2.2.1 w h).2.2.2 h0
theorem dH.p (d : dH g s a) {i f : Nat} (h : i < s.1 0) (hf : f < 7) : g (27 + 8 * i + mf f) = nI (hC s i f) := d.2.2.2.1 i h f hf
theorem dH.p0 (d : dH g s a) {i : Nat} (h : i < s.1 0) : g (27 + 8 * i) = nI (hC s i 0) := d.p h (f := 0) (by decide)
theorem dH.p1 (d : dH g s a) {i : Nat} (h : i < s.1 0) : g (27 + 8 * i + 1) = nI (hC s i 1) := d.p h (f := 1) (by decide)
theorem dH.p2 (d : dH g s a) {i : Nat} (h : i < s.1 0) : g (27 + 8 * i + 2) = nI (hC s i 2) := d.p h (f := 2) (by decide)
theorem dH.p3 (d : dH g s a) {i : Nat} (h : i < s.1 0) : g (27 + 8 * i + 3) = nI (hC s i 3) := d.p h (f := 3) (by decide)
theorem dH.p4 (d : dH g s a) {i : Nat} (h : i < s.1 0) : g (27 + 8 * i + 6) = nI (hC s i 4) := d.p h (f := 4) (by decide)
theorem dH.p5 (d : dH g s a) {i : Nat} (h : i < s.1 0) : g (27 + 8 * i + 5) = nI (hC s i 5) := d.p h (f := 5) (by decide)
theorem dH.p6 (d : dH g s a) {i : Nat} (h : i < s.1 0) : g (27 + 8 * i + 4) = nI (hC s i 6) := d.p h (f := 6) (by decide)
theorem dH.at_ (d : dH g s a) {i : Nat} (h : i < s.1 0) : g (27 + 8 * i + 7) = eI (a i) := d.2.2.2.2.1 i h
theorem dH.z (d : dH g s a) {k : Nat} (h1 : 27 + 8 * s.1 0 ≤ k) (h2 : k < 123) : g k = nI 0 := d.2.2.2.2.2.1 k h1 h2
theorem dH.q (d : dH g s a) {k : Nat} (h : k < s.1 7) : g (123 + k) = nI (hQ s k) := d.2.2.2.2.2.2.1 k h
theorem dH.l0 (d : dH g s a) {r : Nat} (h : r < 6) : g (135 + 4 * r) = nI (hL s r 0) := (d.2.2.2.2.2.2.2 r h).1
theorem dH.l1 (d : dH g s a) {r : Nat} (h : r < 6) : g (135 + 4 * r + 1) = nI (hL s r 1) := (d.2.2.2.2.2.2.2 r h).2
theorem dH.k10 (d : dH g s a) : g 10 = nI (if s.1 3 < 6 then s.1 3 else 6) := d.2.1
/-- the same cells where it matters -/
theorem dH.cg {g' : Nat → Int32} {s' : hS} {a' : Nat → Nat} (d : dH g s a) (n12 : s.1 0 ≤ 12) (q12 : s.1 7 ≤ 12)
    (hs : ∀ j, j < 9 → j ≠ 0 → j ≠ 7 → s'.1 j = s.1 j) (h0 : s'.1 0 = s.1 0) (h7 : s'.1 7 = s.1 7)
    (hW_ : hW s' = hW s) (hC_ : ∀ i, i < s.1 0 → ∀ f, f < 7 → hC s' i f = hC s i f) (ha : ∀ i, i < s.1 0 → a' i = a i) (hQ_ : ∀ k, k < s.1 7 → hQ s' k = hQ s k) (hL_ : hL s' = hL s)
    (hg : ∀ k, (k < 7 ∨ k = 9 ∨ k = 10 ∨ k = 11 ∨ (12 ≤ k ∧ k < 27 ∧ (k - 12) % 5 ≠ 4) ∨ (27 ≤ k ∧ k < 123) ∨ (123 ≤ k ∧ k < 123 + s.1 7) ∨ (135 ≤ k ∧ k < 159 ∧ (k - 135) % 4 < 2)) → g' k = g k) : dH g' s' a' := by
  have hss : ∀ j, j < 9 → s'.1 j = s.1 j := fun j hj => by
    by_cases e0 : j = 0
    · rw [e0]; exact h0
    · by_cases e7 : j = 7
      · rw [e7]; exact h7
      · exact hs j hj e0 e7
  refine ⟨fun j hj => ?_, ?_, fun w hw => ?_, fun i hi f hf => ?_, fun i hi => ?_, fun k h1 h2 => ?_, fun k hk => ?_, fun r hr => ?_⟩
  · rw [hss j hj, hg (dix j)]
    · exact d.sc hj
    · have : ∀ j, j < 9 → dix j < 7 ∨ dix j = 9 ∨ dix j = 11 := by decide
      have := this j hj
      omega
  · show g' 10 = nI (if s'.1 3 < 6 then s'.1 3 else 6)
    rw [hss 3 (by decide), hg 10 (by omega)]
    exact d.k10
  · rw [hW_, hg _ (by omega), hg _ (by omega), hg _ (by omega), hg _ (by omega)]
    exact d.2.2.1 w hw
  · rw [h0] at hi
    have := mf_le f
    rw [hg _ (by omega), hC_ i hi f hf]
    exact d.p hi hf
  · rw [h0] at hi
    rw [hg _ (by omega), ha i hi]
    exact d.at_ hi
  · rw [h0] at h1
    rw [hg _ (by omega)]
    exact d.z h1 h2
  · rw [h7] at hk
    rw [hg _ (by omega), hQ_ k hk]
    exact d.q hk
  · rw [hL_, hg _ (by omega), hg _ (by omega)]
    exact d.2.2.2.2.2.2.2 r hr
end DH
