/-! pure: the class's reader of scripts -/
def tFm (c : Nat) : List Nat := [[97, 100, 100, 32, 35], [111, 112, 101, 110, 32, 37, 32, 35, 32, 37], [99, 108, 111, 115, 101, 32, 37], [99, 97, 108, 108], [115, 119, 97, 112, 32, 35, 32, 35], [115, 105, 116, 32, 35], [115, 116, 97, 110, 100, 32, 35], [114, 101, 109, 111, 118, 101, 32, 35], [97, 100, 118, 97, 110, 99, 101, 32, 35], [97, 100, 118, 97, 110, 99, 101]].getD c []
def M00 : xM := (fun _ _ => 0, fun _ _ => 0, 0, 0)
theorem fm_len : ∀ c, c < 10 → f_J0_length_8abf5 c M00 = some (nI (tFm c).length) := by decide +kernel
theorem fm_at : ∀ c, c < 10 → ∀ j, j < (tFm c).length → f_J0_charAt_5068e c (nI j) M00 = some (nI ((tFm c).getD j 0)) := by decide +kernel
theorem fm_lt : ∀ c, c < 10 → (tFm c).length ≤ 10 ∧ (tFm c).all (fun a => decide (a < 128)) = true := by decide
theorem fM_len {M : xM} {c : Nat} (h : c < 10) : f_J0_length_8abf5 c M = some (nI (tFm c).length) := fm_len c h
theorem fM_at {M : xM} {c j : Nat} (h : c < 10) (hj : j < (tFm c).length) : f_J0_charAt_5068e c (nI j) M = some (nI ((tFm c).getD j 0)) := fm_at c h j hj
theorem c_at {h : Nat} {M : xM} {L : Nat} {t : Nat → Nat} (b : sB h M L t) {x : Nat} (hx : x < L) : f_J4_charAt_5068e h (nI x) M = some (nI (t x)) := by
  obtain ⟨b1, b2, b3, b4, b5, b6⟩ := b
  obtain ⟨x1, x2⟩ := b3 x hx
  generalize hc : M.2.1 (h + 1) 1 = cap at b4 b5 b6
  have ch : ((nI (t x)).toUInt32 % 65536).toInt32 = nI (t x) := by
    rw [pk_char, pk_tn (by omega), Nat.mod_eq_of_lt (by omega)]
  have an : nI (t x) &&& (255 : Int32) = nI (t x) := by
    rw [pk_andN (by omega) 8 (by decide), Nat.mod_eq_of_lt (by omega)]
  have nr : vp_nar .char (nI (t x)) = nI (t x) := by
    unfold vp_nar
    rw [(pk_charN (q := t x) (by omega)).1]
  unfold f_J4_charAt_5068e f_J5_charAt_5068e f_J0_checkIndex_df160 f_J3_checkIndex_8e157
  rw [b1, hc, show Int32.ofNat cap = nI cap from rfl, sh_r, b2, if_neg (show ¬ nI cap < nI L from nI_nlt b5 (by omega)), if_neg (show ¬ nI x < 0 from nI_nlt (b := 0) (by omega) (by omega)), if_pos (nI_lt hx (by omega)), Option.bind_some, Option.bind_some, if_pos (show nI 0 = 0 from rfl), if_pos (show x_in (nI x) cap = true from pi_in (by omega) (by omega)), pi_cl (by omega), x1, an, ch, if_pos nr, Option.bind_some, if_pos nr]
/-- a digit stands at q -/
def dgA (t : Nat → Nat) (L q : Nat) : Bool := decide (q < L ∧ 48 ≤ t q ∧ t q ≤ 57)
theorem dgA_i {t : Nat → Nat} {L q : Nat} : dgA t L q = true ↔ (q < L ∧ 48 ≤ t q ∧ t q ≤ 57) := decide_eq_true_iff
/-- the number read at q, and where it ends -/
def nV (m : Nat) (t : Nat → Nat) (L q : Nat) : Nat × Nat := if m = 2 ∧ dgA t L (q + 1) = true then (10 * (t q - 48) + (t (q + 1) - 48), q + 2) else (t q - 48, q + 1)
def pF (t : Nat → Nat) (L : Nat) : List Nat → Nat → Nat → (Nat → Int32) → Bool × Nat × (Nat → Int32)
  | [], q, _, ns => (decide (L ≤ q ∨ t q = 59), q, ns)
  | a :: r, q, f, ns => if a = 35 ∨ a = 37 then (if dgA t L q = true then pF t L r (nV (if a = 35 then 2 else 1) t L q).2 (f + 1) (upd ns f (nI (nV (if a = 35 then 2 else 1) t L q).1)) else (false, q, ns)) else (if q < L ∧ t q = a then pF t L r (q + 1) f ns else (false, q, ns))
/-- nothing but the reader's place and numbers is anew -/
def pM (M M' : xM) (q : Nat) (ns : Nat → Int32) : Prop := M'.2 = M.2 ∧ (∀ c, c ≠ 2 → c ≠ 3 → M'.1 c = M.1 c) ∧ M'.1 2 2 = nI q ∧ M'.1 3 = ns
theorem pM.tr {M M' M'' : xM} {q q' : Nat} {ns ns' : Nat → Int32} (a : pM M M' q ns) (b : pM M' M'' q' ns') : pM M M'' q' ns' := ⟨b.1.trans a.1, fun c h h2 => (b.2.1 c h h2).trans (a.2.1 c h h2), b.2.2⟩
theorem pM.sb {M M' : xM} {q : Nat} {ns : Nat → Int32} {L : Nat} {t : Nat → Nat} (a : pM M M' q ns) (b : sB 4 M L t) : sB 4 M' L t := sB_same b (a.2.1 4 (by decide) (by decide)) (a.2.1 5 (by decide) (by decide)) (by rw [a.1])
/-- how many numbers a form has -/
def fmN : List Nat → Nat
  | [] => 0
  | a :: r => (if a = 35 ∨ a = 37 then 1 else 0) + fmN r
theorem fmN_le : ∀ c, c < 10 → fmN (tFm c) ≤ 3 := by decide
section PA
variable {L : Nat} {t : Nat → Nat}
theorem nV_2 {m q : Nat} (h : dgA t L q = true) : (nV m t L q).2 ≤ L ∧ q < (nV m t L q).2 ∧ (nV m t L q).1 < 100 := by
  have h := dgA_i.mp h
  unfold nV
  split
  · rename_i z
    have z2 := dgA_i.mp z.2
    dsimp only
    omega
  · dsimp only; omega
theorem c_dg {M : xM} (b : sB 4 M L t) {q : Nat} (hL : L ≤ 60) (hq : M.1 2 2 = nI q) (hq2 : q ≤ L) : f_X4_isDigitAhead M = some (if dgA t L q = true then nI 1 else nI 0) := by
  unfold f_X4_isDigitAhead
  rw [c_len b, Option.bind_some, hq]
  by_cases z : q < L
  · have tq := (b.2.2.1 q z).2
    rw [if_neg (nI_ge z (by omega)), c_at b z, Option.bind_some, show (48 : Int32) = nI 48 from rfl]
    by_cases y : t q < 48
    · rw [if_pos (nI_lt y (by omega)), if_neg (show ¬ dgA t L q = true by rw [dgA_i]; omega)]
      rfl
    · rw [if_neg (nI_nlt (by omega) (by omega)), Option.bind_some, show (57 : Int32) = nI 57 from rfl]
      by_cases x : 57 < t q
      · rw [if_pos (nI_lt x (by omega)), if_neg (show ¬ dgA t L q = true by rw [dgA_i]; omega)]
        rfl
      · rw [if_neg (nI_nlt (by omega) (by omega)), if_pos (show dgA t L q = true by rw [dgA_i]; omega)]
        rfl
  · rw [if_pos (nI_le (by omega) (by omega)), if_neg (show ¬ dgA t L q = true by rw [dgA_i]; omega)]
    rfl
theorem rd_1 {M : xM} {f q v : Nat} (hf : f < 3) (hq : M.1 2 2 = nI q) : pM M (sI M 3 (nI f).toNatClampNeg (nI v)) q (upd (M.1 3) f (nI v)) := by
  rw [pi_cl (by omega)]
  exact ⟨rfl, fun c h1 h2 => sI_c h2, by rw [sI_c (by decide)]; exact hq, by rw [mG_i, mG_s]⟩
theorem rd_2 {M : xM} {q : Nat} : pM M (sI M 2 2 (nI q)) q (M.1 3) := ⟨rfl, fun c h1 h2 => sI_c h1, sI_s, sI_c (by decide)⟩
theorem c_num {M : xM} (b : sB 4 M L t) {q f m : Nat} (hL : L ≤ 60) (hq : M.1 2 2 = nI q) (hq2 : q ≤ L) (hf : f < 3) (hm : m = 1 ∨ m = 2) (hd : dgA t L q = true) : ∃ M', f_X4_readNumber (nI f) (nI m) M = some (nI 1, M') ∧ pM M M' (nV m t L q).2 (upd (M.1 3) f (nI (nV m t L q).1)) := by
  have hd' := dgA_i.mp hd
  have x3 : x_in (nI f) 3 = true := pi_in3 hf
  have s48 : nI (t q) - (48 : Int32) = nI (t q - 48) := pi_sub (b := 48) (by omega)
  have p1 : pM M (sI M 2 2 (nI (q + 1))) (q + 1) (M.1 3) := rd_2
  have b1 := p1.sb b
  unfold f_X4_readNumber
  rw [if_neg (show ¬ (3 : Int32) ≤ nI f from nI_ge (b := 3) (by omega) (by omega)), c_dg b hL hq hq2, Option.bind_some, if_pos hd, if_neg (show ¬ nI 1 = 0 by decide)]
  obtain ⟨N, hN⟩ : ∃ N, xF = N + 3 := ⟨1997, xF_2000⟩
  rw [hN, f_X4_readNumber_L19.eq_2, if_neg (show ¬ nI m ≤ 0 from nI_ge (a := 0) (by omega) (by omega)), c_dg b hL hq hq2, Option.bind_some, if_pos hd, if_neg (show ¬ nI 1 = 0 by decide), hq, c_at b hd'.1, Option.bind_some, x_let_e, pi_1, pi_0, nI_add, s48, show (10 : Int32) = nI 10 from rfl, pk_mul, nI_add, nI_add, f_X4_readNumber_L19.eq_2]
  rcases hm with rfl | rfl
  · rw [if_pos (show nI 1 ≤ nI (0 + 1) by decide), if_pos x3, x_let_e]
    have e : nV 1 t L q = (t q - 48, q + 1) := if_neg (fun z => absurd z.1 (by decide))
    rw [e]
    have z : nI (0 * 10 + (t q - 48)) = nI (t q - 48) := by rw [Nat.zero_mul, Nat.zero_add]
    rw [z]
    exact ⟨_, rfl, p1.tr (p1.2.2.2 ▸ rd_1 hf p1.2.2.1)⟩
  · rw [if_neg (show ¬ nI 2 ≤ nI (0 + 1) by decide), c_dg b1 hL p1.2.2.1 (by omega), Option.bind_some]
    by_cases y : dgA t L (q + 1) = true
    · have y' := dgA_i.mp y
      have e : nV 2 t L q = (10 * (t q - 48) + (t (q + 1) - 48), q + 2) := if_pos ⟨rfl, y⟩
      have s48' : nI (t (q + 1)) - nI 48 = nI (t (q + 1) - 48) := pi_sub (by omega)
      have p2 : pM (sI M 2 2 (nI (q + 1))) (sI (sI M 2 2 (nI (q + 1))) 2 2 (nI (q + 1 + 1))) (q + 1 + 1) ((sI M 2 2 (nI (q + 1))).1 3) := rd_2
      rw [if_pos y, if_neg (show ¬ nI 1 = 0 by decide), p1.2.2.1, c_at b1 y'.1, Option.bind_some, x_let_e, show (48 : Int32) = nI 48 from rfl, s48', show (10 : Int32) = nI 10 from rfl, pk_mul, pi_1, nI_add, nI_add, nI_add, f_X4_readNumber_L19.eq_2, if_pos (show nI 2 ≤ nI (0 + 1 + 1) by decide), if_pos x3, x_let_e, e]
      have z : nI ((0 * 10 + (t q - 48)) * 10 + (t (q + 1) - 48)) = nI (10 * (t q - 48) + (t (q + 1) - 48)) := congrArg nI (by omega)
      rw [z]
      have p12 := p1.tr p2
      have e3 := p12.2.2.2
      rw [p1.2.2.2] at e3
      exact ⟨_, rfl, p12.tr (by have r := rd_1 (v := 10 * (t q - 48) + (t (q + 1) - 48)) hf p2.2.2.1; rw [e3] at r; exact r)⟩
    · have e : nV 2 t L q = (t q - 48, q + 1) := if_neg (fun z => y z.2)
      rw [if_neg y, if_pos (show nI 0 = 0 from rfl), if_pos x3, x_let_e, e]
      have z : nI (0 * 10 + (t q - 48)) = nI (t q - 48) := by rw [Nat.zero_mul, Nat.zero_add]
      rw [z]
      exact ⟨_, rfl, p1.tr (p1.2.2.2 ▸ rd_1 hf p1.2.2.1)⟩
end PA
