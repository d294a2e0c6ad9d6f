/-! the first world: from what the constructors made to the codes -/
theorem hallW_len {G : xG} {h0 : Nat} {u : (Nat → Nat) × (Nat → Option Nat) × (Nat → Option Nat)} : (hallW G h0 u).length = 21 := rfl
def fw_nest (f : Nat → va_W) (t : va_W) : Nat → Nat → va_W
  | _, 0 => t
  | i, n + 1 => f i ++ fw_nest f t (i + 1) n
theorem fw_nest_at {f : Nat → va_W} {t : va_W} (hf : ∀ i, (f i).length = 21) : ∀ (n i j r : Nat), j < n → r < 21 → (fw_nest f t i n)[21 * j + r]? = (f (i + j))[r]?
  | 0, i, j, r, hj, hr => absurd hj (by omega)
  | n + 1, i, 0, r, hj, hr => by
    show (f i ++ _)[21 * 0 + r]? = _
    rw [List.getElem?_append_left (by rw [hf]; omega), Nat.mul_zero, Nat.zero_add]
    rfl
  | n + 1, i, j + 1, r, hj, hr => by
    show (f i ++ fw_nest f t (i + 1) n)[21 * (j + 1) + r]? = _
    rw [List.getElem?_append_right (by rw [hf]; omega), hf, show 21 * (j + 1) + r - 21 = 21 * j + r by omega, fw_nest_at hf n (i + 1) j r (by omega) hr, show i + 1 + j = i + (j + 1) by omega]
theorem fw_nest_tl {f : Nat → va_W} {t : va_W} (hf : ∀ i, (f i).length = 21) : ∀ (n i k : Nat), (fw_nest f t i n)[21 * n + k]? = t[k]?
  | 0, i, k => by
    rw [Nat.mul_zero, Nat.zero_add]
    rfl
  | n + 1, i, k => by
    show (f i ++ fw_nest f t (i + 1) n)[21 * (n + 1) + k]? = _
    rw [List.getElem?_append_right (by rw [hf]; omega), hf, show 21 * (n + 1) + k - 21 = 21 * n + k by omega, fw_nest_tl hf n (i + 1) k]
def M0 : xM := (fun c k => if c = 0 ∨ c = 9 then (if k = 7 ∨ k = 8 then -1 else 0) else if c = 10 then upd (upd (upd (fun _ => 0) 14 (-1)) 19 (-1)) 24 (-1) k else if c = 17 then xv_tab LX7_init_q8 48 k else if c = 18 then xv_tab LX7_init_q9 10 k else if 22 ≤ c ∧ 18 ≤ (c - 22) % 21 ∧ k = 2 then -1 else 0,
  fun c i => if c = 0 then ([22, 43, 64] : List Nat).getD i 0 else if c = 1 then 85 + 21 * i else if c = 5 ∨ c = 7 then (if i = 1 then 16 else 0) else if 22 ≤ c ∧ (c - 22) % 21 = 1 then c + 5 + i else 0, 0, 0)
def adW (q6 : Nat) (u6 : x6U) (q7 : Nat) (u7 : Nat → Nat) (q8 q9 : Nat) : Nat → Nat := fun c => if c < 22 then ([q6, u6.1, u6.2.2.1 0, u6.2.2.1 3, u6.2.2.1 1, u6.2.2.1 2, u6.2.2.1 4, u6.2.2.1 5, u6.2.2.1 6, q7, u7 1, u7 2, u7 3, u7 4, u7 5, u7 6, u7 7, u7 8, u7 9, u7 10, q8, q9] : List Nat).getD c 0 else if (c - 22) % 21 = 0 then (u6.2.1 ((c - 22) / 21)).1 else (u6.2.1 ((c - 22) / 21)).2.1 ((c - 22) % 21)
def G1 (G : xG) (ad : Nat → Nat) : xG := (G.1, G.2.1, G.2.2.1, G.2.2.2.1, ad, G.2.2.2.2.2)
def fw_tl (G : xG) (q6 : Nat) (u6 : x6U) (q7 : Nat) (u7 : Nat → Nat) (q8 q9 : Nat) : va_W := [((u6.2.2.1 0), .inr (6, [.ref ((u6.2.2.1 1)), .ref ((u6.2.2.1 3)), .int 0])), ((u6.2.2.1 1), .inr (1, [.ref ((u6.2.2.1 2)), .int 0, .int 0, .int 0])), ((u6.2.2.1 2), .inl (xcy G 1, 16, .inl fun _ => 0)), ((u6.2.2.1 3), .inl (xcy G 0, 3, .inl fun _ => 0)), ((u6.2.2.1 4), .inr (1, [.ref (u6.2.2.1 5), .int 0, .int 0, .int 0])), ((u6.2.2.1 5), .inl (xcy G 1, 16, .inl fun _ => 0)), ((u6.2.2.1 6), .inl (xcy G 0, 12, .inl fun _ => 0))] ++ (x7W G q7 u7 ++ [(q8, .inl (xcy G 6, 1, .inr (.inl fun _ => 0))), (q9, .inl (xcy G 7, 1, .inr (.inr (.inr (.inl fun _ => 0)))))])
theorem lwW_nest {G : xG} {q6 : Nat} {u6 : x6U} {q7 : Nat} {u7 : Nat → Nat} {q8 q9 : Nat} : lwW G q6 u6 q7 u7 q8 q9 = (q6, .inr (8, [.ref (u6.2.1 0).1, .ref (u6.2.1 1).1, .ref (u6.2.1 2).1, .int 0, .ref u6.1, .int 0, .ref (u6.2.2.1 0), .int (-1), .int (-1), .ref (u6.2.2.1 4), .ref (u6.2.2.1 6)])) :: (u6.1, .inl (xcy G 4, 8, .inr (.inr (.inr (.inr (u6.2.2.2)))))) :: fw_nest (fun j => hallW G (u6.2.1 j).1 (u6.2.1 j).2) (fw_tl G q6 u6 q7 u7 q8 q9) 0 11 := by
  unfold lwW x6W fw_tl
  simp only [fw_nest, List.append_assoc, List.cons_append, List.nil_append, Nat.zero_add]
section FW
variable {G : xG} {q6 : Nat} {u6 : x6U} {q7 : Nat} {u7 : Nat → Nat} {q8 q9 : Nat}
theorem fw_hall {j r : Nat} (hj : j < 11) (hr : r < 21) : (lwW G q6 u6 q7 u7 q8 q9)[2 + (21 * j + r)]? = (hallW G (u6.2.1 j).1 (u6.2.1 j).2)[r]? := by
  rw [lwW_nest, show 2 + (21 * j + r) = (21 * j + r) + 1 + 1 by omega, List.getElem?_cons_succ, List.getElem?_cons_succ, fw_nest_at (fun _ => hallW_len) 11 0 j r hj hr, Nat.zero_add]
theorem fw_tail {k : Nat} : (lwW G q6 u6 q7 u7 q8 q9)[233 + k]? = (fw_tl G q6 u6 q7 u7 q8 q9)[k]? := by
  rw [lwW_nest, show 233 + k = (21 * 11 + k) + 1 + 1 by omega, List.getElem?_cons_succ, List.getElem?_cons_succ, fw_nest_tl (fun _ => hallW_len)]
end FW
theorem arrV_ext {cI : ClassId} {N : Nat} {f g : Nat → Value} (h : ∀ j, j < N → f j = g j) : arrV cI N f = arrV cI N g := by
  unfold arrV
  have : (Array.ofFn (n := N) fun j => f j.val) = Array.ofFn (n := N) fun j => g j.val := congrArg _ (funext fun j => h j.val j.isLt)
  rw [this]
theorem fw_kd {j : Nat} (hj : j < 11) : xkd (22 + 21 * j) = 5 := by
  unfold xkd
  rw [if_neg (by omega), if_pos (by omega), show (22 + 21 * j - 22) % 21 = 0 by omega]
  rfl
theorem M0_hall {j r k : Nat} (hr : r < 21) : M0.1 (22 + 21 * j + r) k = if 18 ≤ r ∧ k = 2 then -1 else 0 := by
  show (if 22 + 21 * j + r = 0 ∨ 22 + 21 * j + r = 9 then (if k = 7 ∨ k = 8 then (-1 : Int32) else 0) else if 22 + 21 * j + r = 10 then _ else if 22 + 21 * j + r = 17 then _ else if 22 + 21 * j + r = 18 then _ else if 22 ≤ 22 + 21 * j + r ∧ 18 ≤ (22 + 21 * j + r - 22) % 21 ∧ k = 2 then -1 else 0) = _
  rw [if_neg (by omega), if_neg (by omega), if_neg (by omega), if_neg (by omega), show (22 + 21 * j + r - 22) % 21 = r by omega]
  by_cases g : 18 ≤ r ∧ k = 2
  · rw [if_pos ⟨by omega, g⟩, if_pos g]
  · rw [if_neg (fun z => g z.2), if_neg g]
theorem M0_hall0 {j r : Nat} (hr : r < 18) : M0.1 (22 + 21 * j + r) = fun _ => 0 := funext fun k => by rw [M0_hall (by omega), if_neg (by omega)]
theorem M0_cust {j i : Nat} : M0.2.1 (22 + 21 * j + 1) i = 22 + 21 * j + 6 + i := by
  show (if 22 + 21 * j + 1 = 0 then ([22, 43, 64] : List Nat).getD i 0 else if 22 + 21 * j + 1 = 1 then 85 + 21 * i else if 22 + 21 * j + 1 = 5 ∨ 22 + 21 * j + 1 = 7 then (if i = 1 then 16 else 0) else if 22 ≤ 22 + 21 * j + 1 ∧ (22 + 21 * j + 1 - 22) % 21 = 1 then 22 + 21 * j + 1 + 5 + i else 0) = _
  rw [if_neg (by omega), if_neg (by omega), if_neg (by omega), if_pos (by omega)]
section FW2
variable {G : xG} {q6 : Nat} {u6 : x6U} {q7 : Nat} {u7 : Nat → Nat} {q8 q9 : Nat} {H : Heap} {ta : Nat × Nat}
theorem ad_hall (hu : x6P u6) {j r : Nat} (hj : j < 11) (hr : r < 21) : xad (G1 G (adW q6 u6 q7 u7 q8 q9)) (22 + 21 * j + r) = (u6.2.1 j).2.1 r := by
  show adW q6 u6 q7 u7 q8 q9 (22 + 21 * j + r) = _
  unfold adW
  rw [if_neg (by omega), show (22 + 21 * j + r - 22) % 21 = r by omega, show (22 + 21 * j + r - 22) / 21 = j by omega]
  by_cases g : r = 0
  · rw [if_pos g, g]
    exact (hu.1 j hj).1.symm
  · rw [if_neg g]
theorem fw_a (hu : x6P u6) {j r : Nat} (hj : j < 11) (hr : r < 21) : xA (G1 G (adW q6 u6 q7 u7 q8 q9)) ta (22 + 21 * j + r) = (u6.2.1 j).2.1 r := by
  unfold xA
  rw [if_neg (by omega), if_neg (by omega)]
  exact ad_hall hu hj hr
theorem fw_at_hall (hP : va_P (xgD G) vwCl (lwW G q6 u6 q7 u7 q8 q9) H) (hu : x6P u6) {j r : Nat} (hj : j < 11) (hr : r < 21) : va_at (xgD G) vwCl (xA (G1 G (adW q6 u6 q7 u7 q8 q9)) ta (22 + 21 * j + r), xcM (G1 G (adW q6 u6 q7 u7 q8 q9)) ta M0 (22 + 21 * j + r)) H := by
  have hk := fw_kd hj
  have hp := hP (2 + (21 * j + r))
  rw [fw_hall hj hr] at hp
  rw [fw_a hu hj hr]
  have h00 := (hu.1 j hj).1
  have hkr := x5_pt hk hr
  have hln := x5_ln (M := M0) hk hr
  have ad := fun (r' : Nat) (hr' : r' < 21) => ad_hall (G := G) (q6 := q6) (q7 := q7) (u7 := u7) (q8 := q8) (q9 := q9) hu hj hr'
  by_cases r0 : r = 0
  · subst r0
    have h1 := hp _ (rfl : (hallW G (u6.2.1 j).1 (u6.2.1 j).2)[0]? = some _)
    rw [show 22 + 21 * j + 0 = 22 + 21 * j from rfl, xc5 hk, ad 1 (by omega), ad 2 (by omega), ad 3 (by omega), ad 4 (by omega), ad 5 (by omega), show M0.1 (22 + 21 * j) = fun _ => 0 from M0_hall0 (r := 0) (by omega), h00]
    exact h1
  by_cases r1 : r = 1
  · subst r1
    have h1 := hp _ (rfl : (hallW G (u6.2.1 j).1 (u6.2.1 j).2)[1]? = some _)
    rw [xc23 hkr, hln]
    have h2 : H[(u6.2.1 j).2.1 1]? = some (vp_cell (xcy G 3) (12, .inr (.inr (.inr (.inr (u6.2.1 j).2.2.1))))) := h1
    show H[(u6.2.1 j).2.1 1]? = some (vp_cell (xcy G 3) (12, .inr (.inr (.inr (.inr fun i => some (xad (G1 G (adW q6 u6 q7 u7 q8 q9)) (M0.2.1 (22 + 21 * j + 1) i)))))))
    rw [h2, vp_cell_q, vp_cell_q, arrV_ext fun i hi => ?_]
    rw [(hu.1 j hj).2.1 i hi, M0_cust, Nat.add_assoc (22 + 21 * j) 6 i, ad (6 + i) (by omega)]
  by_cases r2 : r = 2
  · subst r2
    have h1 := hp _ (rfl : (hallW G (u6.2.1 j).1 (u6.2.1 j).2)[2]? = some _)
    rw [xc20 hkr, hln, M0_hall0 (by omega)]
    exact h1
  by_cases r3 : r = 3
  · subst r3
    have h1 := hp _ (rfl : (hallW G (u6.2.1 j).1 (u6.2.1 j).2)[3]? = some _)
    rw [xc25 hkr, hln]
    have h2 : H[(u6.2.1 j).2.1 3]? = some (vp_cell (xcy G 5) (3, .inr (.inr (.inr (.inr (u6.2.1 j).2.2.2))))) := h1
    show H[(u6.2.1 j).2.1 3]? = some (vp_cell (xcy G 5) (3, .inr (.inr (.inr (.inr fun i => some (xad (G1 G (adW q6 u6 q7 u7 q8 q9)) (22 + 21 * j + 3 + 15 + i)))))))
    rw [h2, vp_cell_q, vp_cell_q, arrV_ext fun i hi => ?_]
    rw [(hu.1 j hj).2.2 i hi, show 22 + 21 * j + 3 + 15 + i = 22 + 21 * j + (18 + i) by omega, ad (18 + i) (by omega)]
  by_cases r4 : r = 4
  · subst r4
    have h1 := hp _ (rfl : (hallW G (u6.2.1 j).1 (u6.2.1 j).2)[4]? = some _)
    rw [xc20 hkr, hln, M0_hall0 (by omega)]
    exact h1
  by_cases r5 : r = 5
  · subst r5
    have h1 := hp _ (rfl : (hallW G (u6.2.1 j).1 (u6.2.1 j).2)[5]? = some _)
    rw [xc20 hkr, hln, M0_hall0 (by omega)]
    exact h1
  by_cases r6 : r < 18
  · have e : (hallW G (u6.2.1 j).1 (u6.2.1 j).2)[r]? = some ((u6.2.1 j).2.1 r, .inr (4, [.int 0, .int 0, .int 0, .int 0, .int 0, .int 0, .int 0])) := by
      rcases (show r = 6 ∨ r = 7 ∨ r = 8 ∨ r = 9 ∨ r = 10 ∨ r = 11 ∨ r = 12 ∨ r = 13 ∨ r = 14 ∨ r = 15 ∨ r = 16 ∨ r = 17 by omega) with rfl | rfl | rfl | rfl | rfl | rfl | rfl | rfl | rfl | rfl | rfl | rfl <;> rfl
    have h1 := hp _ e
    have hk4 : xkd (22 + 21 * j + r) = 4 := by
      rw [hkr]
      rcases (show r = 6 ∨ r = 7 ∨ r = 8 ∨ r = 9 ∨ r = 10 ∨ r = 11 ∨ r = 12 ∨ r = 13 ∨ r = 14 ∨ r = 15 ∨ r = 16 ∨ r = 17 by omega) with rfl | rfl | rfl | rfl | rfl | rfl | rfl | rfl | rfl | rfl | rfl | rfl <;> rfl
    rw [xc4 hk4, M0_hall0 r6]
    exact h1
  · have e : (hallW G (u6.2.1 j).1 (u6.2.1 j).2)[r]? = some ((u6.2.1 j).2.1 r, .inr (7, [.int 0, .int 0, .int (-1), .int 0])) := by
      rcases (show r = 18 ∨ r = 19 ∨ r = 20 by omega) with rfl | rfl | rfl <;> rfl
    have h1 := hp _ e
    have hk7 : xkd (22 + 21 * j + r) = 7 := by
      rw [hkr]
      rcases (show r = 18 ∨ r = 19 ∨ r = 20 by omega) with rfl | rfl | rfl <;> rfl
    rw [xc7 hk7, M0_hall hr, M0_hall hr, M0_hall hr, M0_hall hr, if_neg (by omega), if_neg (by omega), if_pos (by omega), if_neg (by omega)]
    exact h1
end FW2
section FW3
variable {G : xG} {q6 : Nat} {u6 : x6U} {q7 : Nat} {u7 : Nat → Nat} {q8 q9 : Nat} {H : Heap}
/-- where a code stands in the made world -/
def fw_pos (c : Nat) : Nat := if c < 22 then ([0, 1, 233, 236, 234, 235, 237, 238, 239, 240, 241, 242, 243, 244, 245, 246, 247, 248, 249, 250, 251, 252] : List Nat).getD c 0 else c - 20
theorem fw_pos_inj {a b : Nat} (ha : a < 253) (hb : b < 253) (h : fw_pos a = fw_pos b) : a = b := by
  have k : ∀ a, a < 22 → fw_pos a = 0 ∨ fw_pos a = 1 ∨ 233 ≤ fw_pos a := by decide
  have k2 : ∀ a, a < 22 → ∀ b, b < 22 → fw_pos a = fw_pos b → a = b := by decide
  have k3 : ∀ a, 22 ≤ a → fw_pos a = a - 20 := fun a h => if_neg (by omega)
  by_cases h1 : a < 22
  · by_cases h2 : b < 22
    · exact k2 a h1 b h2 h
    · rw [k3 b (by omega)] at h
      rcases k a h1 with z | z | z <;> omega
  · rw [k3 a (by omega)] at h
    by_cases h2 : b < 22
    · rcases k b h2 with z | z | z <;> omega
    · rw [k3 b (by omega)] at h
      omega
theorem fw_low (hP : va_P (xgD G) vwCl (lwW G q6 u6 q7 u7 q8 q9) H) (hu : x6P u6) : ∀ c, c < 22 → (∃ e, (lwW G q6 u6 q7 u7 q8 q9)[fw_pos c]? = some (xA (G1 G (adW q6 u6 q7 u7 q8 q9)) (u6.2.2.1 2, u6.2.2.1 5) c, e)) ∧ va_at (xgD G) vwCl (xA (G1 G (adW q6 u6 q7 u7 q8 q9)) (u6.2.2.1 2, u6.2.2.1 5) c, xcM (G1 G (adW q6 u6 q7 u7 q8 q9)) (u6.2.2.1 2, u6.2.2.1 5) M0 c) H := by
  have tl := fun (k : Nat) (x : Nat × va_E) (h : (fw_tl G q6 u6 q7 u7 q8 q9)[k]? = some x) => hP (233 + k) x (by rw [fw_tail]; exact h)
  have tx := fun (k : Nat) (x : Nat × va_E) (h : (fw_tl G q6 u6 q7 u7 q8 q9)[k]? = some x) => (show (lwW G q6 u6 q7 u7 q8 q9)[233 + k]? = some x by rw [fw_tail]; exact h)
  have h0 : ∀ (j : Nat), j < 3 → (u6.2.1 j).1 = xad (G1 G (adW q6 u6 q7 u7 q8 q9)) (22 + 21 * j + 0) := fun j hj => by rw [ad_hall hu (by omega) (by omega)]; exact (hu.1 j (by omega)).1.symm
  intro c hc
  rcases (show c = 0 ∨ c = 1 ∨ c = 2 ∨ c = 3 ∨ c = 4 ∨ c = 5 ∨ c = 6 ∨ c = 7 ∨ c = 8 ∨ c = 9 ∨ c = 10 ∨ c = 11 ∨ c = 12 ∨ c = 13 ∨ c = 14 ∨ c = 15 ∨ c = 16 ∨ c = 17 ∨ c = 18 ∨ c = 19 ∨ c = 20 ∨ c = 21 by omega) with rfl | rfl | rfl | rfl | rfl | rfl | rfl | rfl | rfl | rfl | rfl | rfl | rfl | rfl | rfl | rfl | rfl | rfl | rfl | rfl | rfl | rfl
  · refine ⟨⟨_, rfl⟩, ?_⟩
    have h1 := hP 0 _ rfl
    rw [xc8 xkd_0]
    have e0 := h0 0 (by omega)
    have e1 := h0 1 (by omega)
    have e2 := h0 2 (by omega)
    rw [e0, e1, e2] at h1
    exact h1
  · refine ⟨⟨_, rfl⟩, ?_⟩
    have h1 := hP 1 _ rfl
    rw [xc24 xkd_1]
    have h2 : H[u6.1]? = some (vp_cell (xcy G 4) (8, .inr (.inr (.inr (.inr u6.2.2.2))))) := h1
    show H[u6.1]? = some (vp_cell (xcy G 4) (8, .inr (.inr (.inr (.inr fun i => some (xad (G1 G (adW q6 u6 q7 u7 q8 q9)) (85 + 21 * i)))))))
    rw [h2, vp_cell_q, vp_cell_q, arrV_ext fun i hi => ?_]
    rw [hu.2 i hi, show 85 + 21 * i = 22 + 21 * (3 + i) + 0 by omega, ad_hall hu (by omega) (by omega), (hu.1 (3 + i) (by omega)).1]
  · exact ⟨⟨_, tx 0 _ rfl⟩, by have h1 := tl 0 _ rfl; rw [xc6 xkd_2]; exact h1⟩
  · exact ⟨⟨_, tx 3 _ rfl⟩, by have h1 := tl 3 _ rfl; rw [xc20 xkd_3]; exact h1⟩
  · exact ⟨⟨_, tx 1 _ rfl⟩, by have h1 := tl 1 _ rfl; rw [xc1 xkd_4]; exact h1⟩
  · exact ⟨⟨_, tx 2 _ rfl⟩, by have h1 := tl 2 _ rfl; rw [xc21 (show xkd 5 = 21 by decide)]; exact h1⟩
  · exact ⟨⟨_, tx 4 _ rfl⟩, by have h1 := tl 4 _ rfl; rw [xc1 xkd_6]; exact h1⟩
  · exact ⟨⟨_, tx 5 _ rfl⟩, by have h1 := tl 5 _ rfl; rw [xc21 (show xkd 7 = 21 by decide)]; exact h1⟩
  · exact ⟨⟨_, tx 6 _ rfl⟩, by have h1 := tl 6 _ rfl; rw [xc20 xkd_8]; exact h1⟩
  · exact ⟨⟨_, tx 7 _ rfl⟩, by have h1 := tl 7 _ rfl; rw [xc9 xkd_9]; exact h1⟩
  · exact ⟨⟨_, tx 8 _ rfl⟩, by have h1 := tl 8 _ rfl; rw [xc20 xkd_10]; exact h1⟩
  · exact ⟨⟨_, tx 9 _ rfl⟩, by have h1 := tl 9 _ rfl; rw [xc20 xkd_11]; exact h1⟩
  · exact ⟨⟨_, tx 10 _ rfl⟩, by have h1 := tl 10 _ rfl; rw [xc20 xkd_12]; exact h1⟩
  · exact ⟨⟨_, tx 11 _ rfl⟩, by have h1 := tl 11 _ rfl; rw [xc20 xkd_13]; exact h1⟩
  · exact ⟨⟨_, tx 12 _ rfl⟩, by have h1 := tl 12 _ rfl; rw [xc20 xkd_14]; exact h1⟩
  · exact ⟨⟨_, tx 13 _ rfl⟩, by have h1 := tl 13 _ rfl; rw [xc20 xkd_15]; exact h1⟩
  · exact ⟨⟨_, tx 14 _ rfl⟩, by have h1 := tl 14 _ rfl; rw [xc20 xkd_16]; exact h1⟩
  · exact ⟨⟨_, tx 15 _ rfl⟩, by have h1 := tl 15 _ rfl; rw [xc22 xkd_17]; exact h1⟩
  · exact ⟨⟨_, tx 16 _ rfl⟩, by have h1 := tl 16 _ rfl; rw [xc20 xkd_18]; exact h1⟩
  · exact ⟨⟨_, tx 17 _ rfl⟩, by have h1 := tl 17 _ rfl; rw [xc20 xkd_19]; exact h1⟩
  · refine ⟨⟨_, tx 18 _ rfl⟩, ?_⟩
    have h1 := tl 18 _ rfl
    rw [xc26 xkd_20]
    have e : (fun i : Nat => if i = 0 then M0.2.2.1 else (0 : Int64)) = fun _ => 0 := funext fun i => by split <;> rfl
    rw [e]
    exact h1
  · refine ⟨⟨_, tx 19 _ rfl⟩, ?_⟩
    have h1 := tl 19 _ rfl
    rw [xc27 xkd_21]
    have e : (fun i : Nat => if i = 0 then M0.2.2.2 else (0 : UInt64)) = fun _ => 0 := funext fun i => by split <;> rfl
    rw [e]
    exact h1
theorem first_world {A : Nat → Prop} (hP : va_P (xgD G) vwCl (lwW G q6 u6 q7 u7 q8 q9) H) (hD : va_D A (lwW G q6 u6 q7 u7 q8 q9)) (hu : x6P u6) (hA : ∀ q, A q → xAs G q) (hz : xbs G ≤ H.size) : xH (G1 G (adW q6 u6 q7 u7 q8 q9)) (u6.2.2.1 2, u6.2.2.1 5) M0 H := by
  have at_ : ∀ c, c < 253 → (∃ e, (lwW G q6 u6 q7 u7 q8 q9)[fw_pos c]? = some (xA (G1 G (adW q6 u6 q7 u7 q8 q9)) (u6.2.2.1 2, u6.2.2.1 5) c, e)) ∧ va_at (xgD G) vwCl (xA (G1 G (adW q6 u6 q7 u7 q8 q9)) (u6.2.2.1 2, u6.2.2.1 5) c, xcM (G1 G (adW q6 u6 q7 u7 q8 q9)) (u6.2.2.1 2, u6.2.2.1 5) M0 c) H := fun c hc => by
    by_cases h : c < 22
    · exact fw_low hP hu c h
    · obtain ⟨j, r, hj, hr, rfl⟩ : ∃ j r, j < 11 ∧ r < 21 ∧ c = 22 + 21 * j + r := ⟨(c - 22) / 21, (c - 22) % 21, by omega, Nat.mod_lt _ (by omega), by omega⟩
      refine ⟨?_, fw_at_hall hP hu hj hr⟩
      rw [fw_a hu hj hr, show fw_pos (22 + 21 * j + r) = 2 + (21 * j + r) from (if_neg (by omega)).trans (by omega), fw_hall hj hr]
      have hl : r < (hallW G (u6.2.1 j).1 (u6.2.1 j).2).length := hr
      have h00 := (hu.1 j hj).1
      rcases (show r = 0 ∨ r = 1 ∨ r = 2 ∨ r = 3 ∨ r = 4 ∨ r = 5 ∨ r = 6 ∨ r = 7 ∨ r = 8 ∨ r = 9 ∨ r = 10 ∨ r = 11 ∨ r = 12 ∨ r = 13 ∨ r = 14 ∨ r = 15 ∨ r = 16 ∨ r = 17 ∨ r = 18 ∨ r = 19 ∨ r = 20 by omega) with rfl | rfl | rfl | rfl | rfl | rfl | rfl | rfl | rfl | rfl | rfl | rfl | rfl | rfl | rfl | rfl | rfl | rfl | rfl | rfl | rfl
      · exact ⟨_, by rw [h00]; rfl⟩
      all_goals exact ⟨_, rfl⟩
  have ix : ∀ (c : Nat) (x : Nat × va_E), (xwl (G1 G (adW q6 u6 q7 u7 q8 q9)) (u6.2.2.1 2, u6.2.2.1 5) M0)[c]? = some x → c < 253 ∧ x = (xA (G1 G (adW q6 u6 q7 u7 q8 q9)) (u6.2.2.1 2, u6.2.2.1 5) c, xcM (G1 G (adW q6 u6 q7 u7 q8 q9)) (u6.2.2.1 2, u6.2.2.1 5) M0 c) := fun c x hx => by
    have hc : c < 253 := by
      have := (List.getElem?_eq_some_iff.mp hx).1
      rw [xwl_len] at this
      exact this
    rw [xwl_at _ _ _ hc] at hx
    exact ⟨hc, (Option.some.inj hx).symm⟩
  refine ⟨fun c x hx => ?_, ⟨fun i j x y hx hy he => ?_, fun c x hx => ?_⟩, hz⟩
  · obtain ⟨hc, rfl⟩ := ix c x hx
    exact (at_ c hc).2
  · obtain ⟨hi, rfl⟩ := ix i x hx
    obtain ⟨hj, rfl⟩ := ix j y hy
    obtain ⟨⟨e1, h1⟩, -⟩ := at_ i hi
    obtain ⟨⟨e2, h2⟩, -⟩ := at_ j hj
    exact fw_pos_inj hi hj (hD.1 _ _ _ _ h1 h2 he)
  · obtain ⟨hc, rfl⟩ := ix c x hx
    obtain ⟨⟨e, h⟩, -⟩ := at_ c hc
    exact hA _ (hD.2 _ (_, e) h)
end FW3
