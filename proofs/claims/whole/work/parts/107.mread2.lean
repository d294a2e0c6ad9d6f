/-! pure: the model reads a command -/
/-- as rF, the commands from place v on and their count aside -/
def rC (M M' : xM) (v : Nat) : Prop := M'.2 = M.2 ∧ (∀ c, c ≠ 9 → c ≠ 19 → M'.1 c = M.1 c) ∧ (∀ k, k ≠ 17 → k ≠ 18 → k ≠ 20 → M'.1 9 k = M.1 9 k) ∧ (∀ k, k < v → M'.1 19 k = M.1 19 k)
theorem rC.tr {M M' M'' : xM} {v : Nat} (a : rC M M' v) (b : rC M' M'' v) : rC M M'' v := ⟨b.1.trans a.1, fun c h h2 => (b.2.1 c h h2).trans (a.2.1 c h h2), fun k h h2 h3 => (b.2.2.1 k h h2 h3).trans (a.2.2.1 k h h2 h3), fun k h => (b.2.2.2 k h).trans (a.2.2.2 k h)⟩
theorem rF.c {M M' : xM} {v : Nat} (a : rF M M') : rC M M' v := ⟨a.1, fun c h _ => a.2.1 c h, fun k _ h2 h3 => a.2.2 k h2 h3, fun k _ => by rw [a.2.1 19 (by decide)]⟩
theorem rC_19 {M : xM} {v k : Nat} {x : Int32} (h : v ≤ k) : rC M (sI M 19 k x) v := ⟨rfl, fun c _ h2 => sI_c h2, fun k _ _ _ => by rw [sI_c (by decide)], fun j hj => sI_k (by omega)⟩
theorem rC_17 {M : xM} {v : Nat} {x : Int32} : rC M (sI M 9 17 x) v := ⟨rfl, fun c h _ => sI_c h, fun k h _ _ => sI_k h, fun j _ => by rw [sI_c (by decide)]⟩
theorem mT.c {M M' : xM} {t : Nat → Nat} {L v : Nat} (m : mT M t L) (f : rC M M' v) : mT M' t L := by
  obtain ⟨a, b, c, d, e⟩ := m
  refine ⟨?_, ?_, ?_, ?_, e⟩
  · rw [f.2.2.1 19 (by decide) (by decide) (by decide)]; exact a
  · rw [f.2.1 15 (by decide) (by decide)]; exact b
  · rw [f.2.1 17 (by decide) (by decide)]; exact c
  · rw [f.2.1 18 (by decide) (by decide)]; exact d
theorem rM_19 {M : xM} {q w k : Nat} {x : Int32} (r : rM M q w) : rM (sI M 19 k x) q w := ⟨by rw [sI_c (by decide)]; exact r.1, by rw [sI_c (by decide)]; exact r.2⟩
/-- where the reader stands after a list of things to read -/
def mK (t : Nat → Nat) (L : Nat) : List Nat → Nat × Nat → Nat × Nat
  | [], s => s
  | a :: r, s => mK t L r (if a = 35 then sD_ t L 2 s.1 s.2 else if a = 37 then sD_ t L 1 s.1 s.2 else sE_ t L a s.1 s.2)
/-- the numbers read -/
def vl (t : Nat → Nat) (L : Nat) : List Nat → Nat → List Nat
  | [], _ => []
  | a :: r, q => if a = 35 ∨ a = 37 then (nV (if a = 35 then 2 else 1) t L q).1 :: vl t L r (nV (if a = 35 then 2 else 1) t L q).2 else vl t L r (q + 1)
section MS
variable {t : Nat → Nat} {L : Nat}
theorem sD_s {k w q : Nat} (h : (sD_ t L k w q).1 = 0) : w = 0 ∧ dgA t L q = true ∧ (sD_ t L k w q).2 = (nV k t L q).2 := by
  unfold sD_ at h ⊢
  by_cases z : w = 0 ∧ dgA t L q = true
  · rw [if_pos z]; exact ⟨z.1, z.2, rfl⟩
  · rw [if_neg z] at h; exact absurd h (show ¬ (1 : Nat) = 0 by decide)
theorem sE_s {a w q : Nat} (h : (sE_ t L a w q).1 = 0) : w = 0 ∧ (q < L ∧ t q = a) ∧ (sE_ t L a w q).2 = q + 1 := by
  unfold sE_ at h ⊢
  by_cases z : w = 0 ∧ q < L ∧ t q = a
  · rw [if_pos z]; exact ⟨z.1, z.2, rfl⟩
  · rw [if_neg z] at h; exact absurd h (show ¬ (1 : Nat) = 0 by decide)
/-- what the model does with the word b, its letters read -/
def mAr (t : Nat → Nat) (L b q : Nat) : Nat × Nat := if b = 8 then (if q < L ∧ t q = 32 then sD_ t L 2 0 (q + 1) else (0, q)) else mK t L (([[35], [37, 32, 35, 32, 37], [37], [35, 32, 35], [35], [35], [35], []] : List (List Nat)).getD b []) (0, q)
def mAl (t : Nat → Nat) (L b q : Nat) : List Nat := if b = 8 then (if q < L ∧ t q = 32 then [(nV 2 t L (q + 1)).1] else [1]) else vl t L (([[35], [37, 32, 35, 32, 37], [37], [35, 32, 35], [35], [35], [35], []] : List (List Nat)).getD b []) q
/-- the words' arguments stand in the commands -/
def mCs (M : xM) (v b : Nat) (l : List Nat) : Prop := M.1 19 v = nI b ∧ ∀ k, k < l.length → M.1 19 (v + 1 + k) = nI (l.getD k 0)
theorem mCs_1 {M : xM} {v b x : Nat} (h : M.1 19 v = nI b) (h1 : M.1 19 (v + 1) = nI x) : mCs M v b [x] := ⟨h, fun k hk => by
  have hk : k < 1 := hk
  have : k = 0 := by omega
  subst this
  exact h1⟩
theorem m_ar {M : xM} {v b q ct : Nat} (m : mT M t L) (r : rM M q 0) (hq : q ≤ L) (hb : b < 9) (hv : v + 3 < 244) (h0 : M.1 19 v = nI b) (h1 : M.1 19 (v + 1) = nI 1) : ∃ M', (if nI b = (1 : Int32) then f_X7_readCommand_J130 (nI v) (nI b) M else (if nI b = (2 : Int32) then f_X7_readCommand_J130 (nI v) (nI b) M else (if (7 : Int32) ≤ nI b then f_X7_readCommand_J163 (nI v) (nI b) M else (f_X7_number M).bind fun q56 => if x_in (nI v + (1 : Int32)) 244 = true then x_let (sI q56.2 19 (nI v + (1 : Int32)).toNatClampNeg q56.1) fun M59 => f_X7_readCommand_J163 (nI v) (nI b) M59 else none))) = some M' ∧ rC M M' v ∧ M'.1 9 17 = M.1 9 17 ∧ rM M' (mAr t L b q).2 (mAr t L b q).1 ∧ ((mAr t L b q).1 = 0 → mCs M' v b (mAl t L b q)) := by
  have x1 : x_in (nI (v + 1)) 244 = true := pi_in (by omega) (by decide)
  have x2 : x_in (nI (v + 2)) 244 = true := pi_in (by omega) (by decide)
  have x3 : x_in (nI (v + 3)) 244 = true := pi_in (by omega) (by decide)
  have hz : (0 : Nat) = 0 ∨ (0 : Nat) = 1 := .inl rfl
  unfold f_X7_readCommand_J130 f_X7_readCommand_J163 f_X7_readCommand_J173 f_X7_readCommand_J191 f_X7_readCommand_J214 f_X7_readCommand_J251
  rw [show nI v + (1 : Int32) = nI (v + 1) from nI_1 v, show nI v + (2 : Int32) = nI (v + 2) from nI_add v 2, show nI v + (3 : Int32) = nI (v + 3) from nI_add v 3, pi_cl (show v + 1 < 2 ^ 31 by omega), pi_cl (show v + 2 < 2 ^ 31 by omega), pi_cl (show v + 3 < 2 ^ 31 by omega)]
  simp only [if_pos x1, if_pos x2, if_pos x3]
  -- words with one number
  have one : (b = 0 ∨ b = 4 ∨ b = 5 ∨ b = 6) → mAr t L b q = sD_ t L 2 0 q ∧ mAl t L b q = [(nV 2 t L q).1] := fun h => by
    rcases h with rfl | rfl | rfl | rfl <;> exact ⟨rfl, rfl⟩
  have h9 : b = 1 ∨ b = 2 ∨ b = 3 ∨ b = 7 ∨ b = 8 ∨ (b = 0 ∨ b = 4 ∨ b = 5 ∨ b = 6) := by omega
  rcases h9 with rfl | rfl | rfl | rfl | rfl | h
  · -- open
    have ea : mAr t L 1 q = sD_ t L 1 (sE_ t L 32 (sD_ t L 2 (sE_ t L 32 (sD_ t L 1 0 q).1 (sD_ t L 1 0 q).2).1 (sE_ t L 32 (sD_ t L 1 0 q).1 (sD_ t L 1 0 q).2).2).1 (sD_ t L 2 (sE_ t L 32 (sD_ t L 1 0 q).1 (sD_ t L 1 0 q).2).1 (sE_ t L 32 (sD_ t L 1 0 q).1 (sD_ t L 1 0 q).2).2).2).1 (sE_ t L 32 (sD_ t L 2 (sE_ t L 32 (sD_ t L 1 0 q).1 (sD_ t L 1 0 q).2).1 (sE_ t L 32 (sD_ t L 1 0 q).1 (sD_ t L 1 0 q).2).2).1 (sD_ t L 2 (sE_ t L 32 (sD_ t L 1 0 q).1 (sD_ t L 1 0 q).2).1 (sE_ t L 32 (sD_ t L 1 0 q).1 (sD_ t L 1 0 q).2).2).2).2 := rfl
    have el : mAl t L 1 q = [(nV 1 t L q).1, (nV 2 t L ((nV 1 t L q).2 + 1)).1, (nV 1 t L ((nV 2 t L ((nV 1 t L q).2 + 1)).2 + 1)).1] := rfl
    rw [ea, el]
    simp only [if_pos (show nI 1 = (1 : Int32) from rfl), if_neg (show ¬ nI 1 = (8 : Int32) by decide), show (32 : Int32) = nI 32 from rfl]
    obtain ⟨M1, a1, e1, r1, f1, v1⟩ := m_dig m r hq hz
    have l1 := sD_le (t := t) (w := 0) (k := 1) hq
    have c1 : rC M (sI M1 19 (v + 1) (nI a1)) v := (rF.c f1).tr (rC_19 (by omega))
    have s1 := sD_s (t := t) (L := L) (k := 1) (w := 0) (q := q)
    generalize sD_ t L 1 0 q = s at *
    obtain ⟨M2, e2, r2, f2⟩ := m_exp (m.c c1) (rM_19 r1) l1.1 l1.2 (a := 32) (by decide)
    have l2 := sE_le (t := t) (w := s.1) (a := 32) l1.1
    have s2 := sE_s (t := t) (L := L) (a := 32) (w := s.1) (q := s.2)
    generalize sE_ t L 32 s.1 s.2 = s' at *
    have c2 := c1.tr (rF.c f2)
    obtain ⟨M3, a3, e3, r3, f3, v3⟩ := m_num (m.c c2) r2 l2.1 l2.2
    have l3 := sD_le (t := t) (w := s'.1) (k := 2) l2.1
    have s3 := sD_s (t := t) (L := L) (k := 2) (w := s'.1) (q := s'.2)
    generalize sD_ t L 2 s'.1 s'.2 = s'' at *
    have c3 : rC M (sI M3 19 (v + 2) (nI a3)) v := c2.tr ((rF.c f3).tr (rC_19 (by omega)))
    obtain ⟨M4, e4, r4, f4⟩ := m_exp (m.c c3) (rM_19 r3) l3.1 l3.2 (a := 32) (by decide)
    have l4 := sE_le (t := t) (w := s''.1) (a := 32) l3.1
    have s4 := sE_s (t := t) (L := L) (a := 32) (w := s''.1) (q := s''.2)
    generalize sE_ t L 32 s''.1 s''.2 = u at *
    have c4 := c3.tr (rF.c f4)
    obtain ⟨M5, a5, e5, r5, f5, v5⟩ := m_dig (m.c c4) r4 l4.1 l4.2
    have s5 := sD_s (t := t) (L := L) (k := 1) (w := u.1) (q := u.2)
    have c5 : rC M (sI M5 19 (v + 3) (nI a5)) v := c4.tr ((rF.c f5).tr (rC_19 (by omega)))
    rw [e1, Option.bind_some, x_let_e, e2, Option.bind_some, e3, Option.bind_some, x_let_e, e4, Option.bind_some, e5, Option.bind_some, x_let_e]
    have w5 : ∀ j, j ≠ v + 3 → (sI M5 19 (v + 3) (nI a5)).1 19 j = M4.1 19 j := fun j hj => by rw [sI_k hj, f5.2.1 19 (by decide)]
    have w4 : ∀ j, M4.1 19 j = (sI M3 19 (v + 2) (nI a3)).1 19 j := fun j => by rw [f4.2.1 19 (by decide)]
    have w3 : ∀ j, j ≠ v + 2 → (sI M3 19 (v + 2) (nI a3)).1 19 j = M2.1 19 j := fun j hj => by rw [sI_k hj, f3.2.1 19 (by decide)]
    have w2 : ∀ j, M2.1 19 j = (sI M1 19 (v + 1) (nI a1)).1 19 j := fun j => by rw [f2.2.1 19 (by decide)]
    have w1 : ∀ j, j ≠ v + 1 → (sI M1 19 (v + 1) (nI a1)).1 19 j = M.1 19 j := fun j hj => by rw [sI_k hj, f1.2.1 19 (by decide)]
    refine ⟨_, rfl, c5, ?_, rM_19 r5, fun hw => ?_⟩
    · rw [sI_c (by decide), f5.2.2 17 (by decide) (by decide), f4.2.2 17 (by decide) (by decide), sI_c (by decide), f3.2.2 17 (by decide) (by decide), f2.2.2 17 (by decide) (by decide), sI_c (by decide), f1.2.2 17 (by decide) (by decide)]
    · obtain ⟨y5, d5, p5⟩ := s5 hw
      obtain ⟨y4, d4, p4⟩ := s4 y5
      obtain ⟨y3, d3, p3⟩ := s3 y4
      obtain ⟨y2, d2, p2⟩ := s2 y3
      obtain ⟨y1, d1, p1⟩ := s1 y2
      have v1 := v1 y2
      have v3 := v3 y4
      have v5 := v5 hw
      refine ⟨?_, fun k hk => ?_⟩
      · rw [w5 v (by omega), w4, w3 v (by omega), w2, w1 v (by omega)]; exact h0
      · have hk : k < 3 := hk
        have k3 : k = 0 ∨ k = 1 ∨ k = 2 := by omega
        rcases k3 with rfl | rfl | rfl
        · rw [w5 _ (by omega), w4, w3 _ (by omega), w2]
          refine sI_s.trans ?_
          rw [v1]; rfl
        · rw [w5 _ (by omega), w4]
          refine sI_s.trans ?_
          rw [v3, p2, p1]; rfl
        · refine sI_s.trans ?_
          rw [v5, p4, p3, p2, p1]; rfl
  · -- close
    have ea : mAr t L 2 q = sD_ t L 1 0 q := rfl
    have el : mAl t L 2 q = [(nV 1 t L q).1] := rfl
    rw [ea, el]
    simp only [if_neg (show ¬ nI 2 = (1 : Int32) by decide), if_pos (show nI 2 = (2 : Int32) from rfl), if_neg (show ¬ nI 2 = (3 : Int32) by decide), if_neg (show ¬ nI 2 = (8 : Int32) by decide)]
    obtain ⟨M1, a1, e1, r1, f1, v1⟩ := m_dig m r hq hz
    rw [e1, Option.bind_some, x_let_e]
    refine ⟨_, rfl, (rF.c f1).tr (rC_19 (by omega)), ?_, rM_19 r1, fun hw => mCs_1 ?_ ?_⟩
    · rw [sI_c (by decide), f1.2.2 17 (by decide) (by decide)]
    · rw [sI_k (by omega), f1.2.1 19 (by decide)]; exact h0
    · rw [sI_s, v1 hw]
  · -- swap
    have ea : mAr t L 3 q = sD_ t L 2 (sE_ t L 32 (sD_ t L 2 0 q).1 (sD_ t L 2 0 q).2).1 (sE_ t L 32 (sD_ t L 2 0 q).1 (sD_ t L 2 0 q).2).2 := rfl
    have el : mAl t L 3 q = [(nV 2 t L q).1, (nV 2 t L ((nV 2 t L q).2 + 1)).1] := rfl
    rw [ea, el]
    simp only [if_neg (show ¬ nI 3 = (1 : Int32) by decide), if_neg (show ¬ nI 3 = (2 : Int32) by decide), if_neg (show ¬ (7 : Int32) ≤ nI 3 by decide), if_pos (show nI 3 = (3 : Int32) from rfl), if_neg (show ¬ nI 3 = (8 : Int32) by decide), show (32 : Int32) = nI 32 from rfl]
    obtain ⟨M1, a1, e1, r1, f1, v1⟩ := m_num m r hq hz
    have l1 := sD_le (t := t) (w := 0) (k := 2) hq
    have c1 : rC M (sI M1 19 (v + 1) (nI a1)) v := (rF.c f1).tr (rC_19 (by omega))
    have s1 := sD_s (t := t) (L := L) (k := 2) (w := 0) (q := q)
    generalize sD_ t L 2 0 q = s at *
    obtain ⟨M2, e2, r2, f2⟩ := m_exp (m.c c1) (rM_19 r1) l1.1 l1.2 (a := 32) (by decide)
    have l2 := sE_le (t := t) (w := s.1) (a := 32) l1.1
    have s2 := sE_s (t := t) (L := L) (a := 32) (w := s.1) (q := s.2)
    generalize sE_ t L 32 s.1 s.2 = s' at *
    have c2 := c1.tr (rF.c f2)
    obtain ⟨M3, a3, e3, r3, f3, v3⟩ := m_num (m.c c2) r2 l2.1 l2.2
    have s3 := sD_s (t := t) (L := L) (k := 2) (w := s'.1) (q := s'.2)
    have c3 : rC M (sI M3 19 (v + 2) (nI a3)) v := c2.tr ((rF.c f3).tr (rC_19 (by omega)))
    rw [e1, Option.bind_some, x_let_e, e2, Option.bind_some, e3, Option.bind_some, x_let_e]
    have w3 : ∀ j, j ≠ v + 2 → (sI M3 19 (v + 2) (nI a3)).1 19 j = M2.1 19 j := fun j hj => by rw [sI_k hj, f3.2.1 19 (by decide)]
    have w2 : ∀ j, M2.1 19 j = (sI M1 19 (v + 1) (nI a1)).1 19 j := fun j => by rw [f2.2.1 19 (by decide)]
    have w1 : ∀ j, j ≠ v + 1 → (sI M1 19 (v + 1) (nI a1)).1 19 j = M.1 19 j := fun j hj => by rw [sI_k hj, f1.2.1 19 (by decide)]
    refine ⟨_, rfl, c3, ?_, rM_19 r3, fun hw => ?_⟩
    · rw [sI_c (by decide), f3.2.2 17 (by decide) (by decide), f2.2.2 17 (by decide) (by decide), sI_c (by decide), f1.2.2 17 (by decide) (by decide)]
    · obtain ⟨y3, d3, p3⟩ := s3 hw
      obtain ⟨y2, d2, p2⟩ := s2 y3
      obtain ⟨y1, d1, p1⟩ := s1 y2
      have v1 := v1 y2
      have v3 := v3 hw
      refine ⟨?_, fun k hk => ?_⟩
      · rw [w3 v (by omega), w2, w1 v (by omega)]; exact h0
      · have hk : k < 2 := hk
        have k3 : k = 0 ∨ k = 1 := by omega
        rcases k3 with rfl | rfl
        · rw [w3 _ (by omega), w2]
          refine sI_s.trans ?_
          rw [v1]; rfl
        · refine sI_s.trans ?_
          rw [v3, p2, p1]; rfl
  · -- call
    have ea : mAr t L 7 q = (0, q) := rfl
    have el : mAl t L 7 q = [] := rfl
    rw [ea, el]
    simp only [if_neg (show ¬ nI 7 = (1 : Int32) by decide), if_neg (show ¬ nI 7 = (2 : Int32) by decide), if_pos (show (7 : Int32) ≤ nI 7 by decide), if_neg (show ¬ nI 7 = (3 : Int32) by decide), if_neg (show ¬ nI 7 = (8 : Int32) by decide)]
    exact ⟨M, rfl, rF.rf.c, rfl, r, fun _ => ⟨h0, fun k hk => absurd hk (Nat.not_lt_zero k)⟩⟩
  · -- advance
    have ea : mAr t L 8 q = if q < L ∧ t q = 32 then sD_ t L 2 0 (q + 1) else (0, q) := rfl
    have el : mAl t L 8 q = if q < L ∧ t q = 32 then [(nV 2 t L (q + 1)).1] else [1] := rfl
    rw [ea, el]
    simp only [if_neg (show ¬ nI 8 = (1 : Int32) by decide), if_neg (show ¬ nI 8 = (2 : Int32) by decide), if_pos (show (7 : Int32) ≤ nI 8 by decide), if_neg (show ¬ nI 8 = (3 : Int32) by decide), if_pos (show nI 8 = (8 : Int32) from rfl)]
    rw [m_hr m r hq, Option.bind_some]
    by_cases z : q < L ∧ t q = 32
    · have f0 : rF M (sI M 9 18 (nI (q + 1))) := rF_18
      have r0 : rM (sI M 9 18 (nI (q + 1))) (q + 1) 0 := ⟨sI_s, by rw [sI_k (by decide)]; exact r.2⟩
      obtain ⟨M1, a1, e1, r1, f1, v1⟩ := m_num (m.f f0) r0 (by omega) hz
      rw [if_pos z.1, if_pos (show nI (t q) = (32 : Int32) by rw [z.2]; rfl), x_let_e, r.1, show nI q + (1 : Int32) = nI (q + 1) from nI_1 q, e1, Option.bind_some, x_let_e, if_pos z, if_pos z]
      refine ⟨_, rfl, (rF.c f0).tr ((rF.c f1).tr (rC_19 (by omega))), ?_, rM_19 r1, fun hw => mCs_1 ?_ ?_⟩
      · rw [sI_c (by decide), f1.2.2 17 (by decide) (by decide), f0.2.2 17 (by decide) (by decide)]
      · rw [sI_k (by omega), f1.2.1 19 (by decide), f0.2.1 19 (by decide)]; exact h0
      · rw [sI_s, v1 hw]
    · have ne : ¬ (if q < L then nI (t q) else (-1 : Int32)) = (32 : Int32) := by
        by_cases x : q < L
        · rw [if_pos x]
          have tq := (m.2.1 q x).2
          exact fun h => z ⟨x, (nI_eq (b := 32) (by omega) (by omega)).mp h⟩
        · rw [if_neg x]
          decide
      rw [if_neg ne, if_neg z, if_neg z]
      exact ⟨M, rfl, rF.rf.c, rfl, r, fun _ => mCs_1 h0 h1⟩
  · -- one number
    obtain ⟨ea, el⟩ := one h
    rw [ea, el]
    have n1 : ¬ nI b = (1 : Int32) := by rcases h with rfl | rfl | rfl | rfl <;> decide
    have n2 : ¬ nI b = (2 : Int32) := by rcases h with rfl | rfl | rfl | rfl <;> decide
    have n3 : ¬ nI b = (3 : Int32) := by rcases h with rfl | rfl | rfl | rfl <;> decide
    have n7 : ¬ (7 : Int32) ≤ nI b := by rcases h with rfl | rfl | rfl | rfl <;> decide
    have n8 : ¬ nI b = (8 : Int32) := by rcases h with rfl | rfl | rfl | rfl <;> decide
    simp only [if_neg n1, if_neg n2, if_neg n3, if_neg n7, if_neg n8]
    obtain ⟨M1, a1, e1, r1, f1, v1⟩ := m_num m r hq hz
    rw [e1, Option.bind_some, x_let_e]
    refine ⟨_, rfl, (rF.c f1).tr (rC_19 (by omega)), ?_, rM_19 r1, fun hw => mCs_1 ?_ ?_⟩
    · rw [sI_c (by decide), f1.2.2 17 (by decide) (by decide)]
    · rw [sI_k (by omega), f1.2.1 19 (by decide)]; exact h0
    · rw [sI_s, v1 hw]
end MS
