/-! pure: the whole memory; the law over the nine changes -/
/-- a StringBuilder at h: L signs t -/
def sB (h : Nat) (M : xM) (L : Nat) (t : Nat → Nat) : Prop := M.1 h 1 = nI 0 ∧ M.1 h 3 = nI L ∧ (∀ j, j < L → M.1 (h + 1) j = nI (t j) ∧ t j < 128) ∧ (M.2.1 (h + 1) 1 = 16 ∨ M.2.1 (h + 1) 1 = 34 ∨ M.2.1 (h + 1) 1 = 70 ∨ M.2.1 (h + 1) 1 = 142) ∧ L ≤ M.2.1 (h + 1) 1 ∧ (∀ j, j < M.2.1 (h + 1) 1 → vp_nar .byte (M.1 (h + 1) j) = M.1 (h + 1) j)
def tLet : List Nat := [97, 100, 100, 32, 111, 112, 101, 110, 32, 99, 108, 111, 115, 101, 32, 115, 119, 97, 112, 32, 115, 105, 116, 32, 115, 116, 97, 110, 100, 32, 114, 101, 109, 111, 118, 101, 32, 99, 97, 108, 108, 97, 100, 118, 97, 110, 99, 101]
def tBeg : List Nat := [0, 4, 9, 15, 20, 24, 30, 37, 41, 48]
/-- the texts and what was last wrong: the same on both sides -/
def gT (M : xM) (ef fl L : Nat) (t : Nat → Nat) (O : Nat) (o : Nat → Nat) : Prop :=
  (M.1 0 7 = eI ef ∧ M.1 0 8 = eI fl ∧ sB 4 M L t ∧ sB 6 M O o) ∧ (M.1 9 7 = eI ef ∧ M.1 9 8 = eI fl ∧ M.1 9 11 = nI L ∧ (∀ j, j < L → M.1 15 j = nI (t j)) ∧ M.1 9 13 = nI O ∧ (∀ j, j < O → M.1 16 j = nI (o j)) ∧ (∀ j, j < 48 → M.1 17 j = nI (tLet.getD j 0)) ∧ (∀ j, j < 10 → M.1 18 j = nI (tBeg.getD j 0))) ∧ L ≤ 60 ∧ (∀ j, j < L → 32 ≤ t j ∧ t j ≤ 126) ∧ ef ≤ 100 ∧ fl ≤ 100 ∧ O ≤ 142
/-- all of it -/
def gR (B : Nat) (M : xM) : Prop := ∃ (s : hS) (u : Nat) (H : Nat → hS) (sf : Nat) (sn : hS) (ef fl L : Nat) (t : Nat → Nat) (O : Nat) (o : Nat → Nat), gC M s u H sf sn ∧ gM M s u H sf sn ∧ gT M ef fl L t O o ∧ aV B s ∧ (∀ i, i < u → aV B (H i)) ∧ (sf ≠ 0 → aV B sn)
theorem gR_le {B C : Nat} {M : xM} (h : gR B M) (hc : B ≤ C) : gR C M := by
  obtain ⟨s, u, H, sf, sn, ef, fl, L, t, O, o, a, b, c, d, e, f⟩ := h
  exact ⟨s, u, H, sf, sn, ef, fl, L, t, O, o, a, b, c, aV_le d hc, fun i hi => aV_le (e i hi) hc, fun h => aV_le (f h) hc⟩
/-- as gK, the law's own cells aside -/
def gK2 (M M' : xM) : Prop := (∀ c, 2 ≤ c → c < 22 → M'.1 c = M.1 c ∧ M'.2.1 c = M.2.1 c) ∧ (∀ k, k ≠ 3 → k ≠ 5 → M'.1 0 k = M.1 0 k)
theorem sB_same {h : Nat} {M M' : xM} {L : Nat} {t : Nat → Nat} (b : sB h M L t) (e0 : M'.1 h = M.1 h) (e1 : M'.1 (h + 1) = M.1 (h + 1)) (e2 : M'.2.1 (h + 1) = M.2.1 (h + 1)) : sB h M' L t := by
  unfold sB
  rw [e0, e1, e2]
  exact b
section GT
variable {M M' : xM} {ef fl L : Nat} {t : Nat → Nat} {O : Nat} {o : Nat → Nat} {s : hS} {u : Nat} {H : Nat → hS} {sf : Nat} {sn : hS}
theorem gT_K (g : gT M ef fl L t O o) (k : gK2 M M') : gT M' ef fl L t O o := by
  obtain ⟨⟨a1, a2, a3, a4⟩, ⟨b1, b2, b3, b4, b5, b6, b7, b8⟩, r⟩ := g
  have e := fun c h1 h2 => (k.1 c h1 h2).1
  have p := fun c h1 h2 => (k.1 c h1 h2).2
  refine ⟨⟨?_, ?_, sB_same a3 (e 4 (by decide) (by decide)) (e 5 (by decide) (by decide)) (p 5 (by decide) (by decide)), sB_same a4 (e 6 (by decide) (by decide)) (e 7 (by decide) (by decide)) (p 7 (by decide) (by decide))⟩, ?_, r⟩
  · rw [k.2 7 (by decide) (by decide)]; exact a1
  · rw [k.2 8 (by decide) (by decide)]; exact a2
  · rw [e 9 (by decide) (by decide), e 15 (by decide) (by decide), e 16 (by decide) (by decide), e 17 (by decide) (by decide), e 18 (by decide) (by decide)]
    exact ⟨b1, b2, b3, b4, b5, b6, b7, b8⟩
theorem gT_L (g : gT M ef fl L t O o) (l : gL M M') : gT M' ef fl L t O o := by
  obtain ⟨⟨a1, a2, a3, a4⟩, ⟨b1, b2, b3, b4, b5, b6, b7, b8⟩, r⟩ := g
  have e := fun c h1 h2 h3 h4 h5 => l.2.1 c h1 h2 h3 h4 h5
  have p : ∀ c, M'.2.1 c = M.2.1 c := fun c => by rw [l.1]
  refine ⟨⟨?_, ?_, sB_same a3 (e 4 (by decide) (by decide) (by decide) (by decide) (by decide)) (e 5 (by decide) (by decide) (by decide) (by decide) (by decide)) (p 5), sB_same a4 (e 6 (by decide) (by decide) (by decide) (by decide) (by decide)) (e 7 (by decide) (by decide) (by decide) (by decide) (by decide)) (p 7)⟩, ⟨?_, ?_, ?_, ?_, ?_, ?_, ?_, ?_⟩, r⟩
  · rw [e 0 (by decide) (by decide) (by decide) (by decide) (by decide)]; exact a1
  · rw [e 0 (by decide) (by decide) (by decide) (by decide) (by decide)]; exact a2
  · rw [l.2.2 7 (by decide) (by decide)]; exact b1
  · rw [l.2.2 8 (by decide) (by decide)]; exact b2
  · rw [l.2.2 11 (by decide) (by decide)]; exact b3
  · rw [e 15 (by decide) (by decide) (by decide) (by decide) (by decide)]; exact b4
  · rw [l.2.2 13 (by decide) (by decide)]; exact b5
  · rw [e 16 (by decide) (by decide) (by decide) (by decide) (by decide)]; exact b6
  · rw [e 17 (by decide) (by decide) (by decide) (by decide) (by decide)]; exact b7
  · rw [e 18 (by decide) (by decide) (by decide) (by decide) (by decide)]; exact b8
theorem gM_K (g : gM M s u H sf sn) (k : gK2 M M') : gM M' s u H sf sn := gM_L g (k.1 10 (by decide) (by decide)).1 (k.1 14 (by decide) (by decide)).1 (k.1 13 (by decide) (by decide)).1 (by rw [(k.1 9 (by decide) (by decide)).1]) (by rw [(k.1 9 (by decide) (by decide)).1])
theorem gC_L (g : gC M s u H sf sn) (l : gL M M') : gC M' s u H sf sn := by
  have e0 : M'.1 0 = M.1 0 := l.2.1 0 (by decide) (by decide) (by decide) (by decide) (by decide)
  have p : ∀ c, M'.2.1 c = M.2.1 c := fun c => by rw [l.1]
  have hp : ∀ i, gP M' i = gP M i := fun i => by unfold gP; rw [p, p]
  have sm : ∀ i, i < 11 → ∀ c, gP M i ≤ c → c < gP M i + 21 → M'.1 c = M.1 c ∧ M'.2.1 c = M.2.1 c := fun i hi c h1 h2 => by
    have := g.ge hi
    exact ⟨l.2.1 c (by omega) (by omega) (by omega) (by omega) (by omega), p c⟩
  refine ⟨fun i hi => ?_, fun i j hi hj e => ?_, ?_, fun i hi => ?_, fun h => ?_, ?_, g.2.2.2.2.2.2.1, ?_, g.2.2.2.2.2.2.2.2⟩
  · rw [hp]; exact cV_same (sm i hi) (g.1 i hi)
  · rw [hp, hp] at e; exact g.2.1 i j hi hj e
  · rw [hp]; exact cR_same (sm 0 (by decide)) g.2.2.1
  · rw [hp]; exact cR_same (sm (3 + i) (by have := g.2.2.2.2.2.2.1; omega)) (g.2.2.2.1 i hi)
  · rw [hp]; exact cR_same (sm 2 (by decide)) (g.2.2.2.2.1 h)
  · rw [e0]; exact g.2.2.2.2.2.1
  · rw [e0]; exact g.2.2.2.2.2.2.2.1
/-- a change on both sides -/
theorem lw_chg {B : Nat} {o' : Nat × Nat × hS} {M2 : xM} (c0 : gC M s u H sf sn) (g : gM M s u H sf sn) (x : gT M ef fl L t O o) (v : aV B s) (vh : ∀ i, i < u → aV B (H i)) (vs : sf ≠ 0 → aV B sn) (v' : aV (B + 400) o'.2.2) (k : gK2 M M') (c1 : (o'.1 = 0 → gC M' o'.2.2 (uPush u) (hPush u H s) sf sn) ∧ (o'.1 ≠ 0 → gC M' s u H sf sn)) (l : gL M' M2) (m : (o'.1 = 0 → gM M2 o'.2.2 (uPush u) (hPush u H s) sf sn) ∧ (o'.1 ≠ 0 → gM M2 s u H sf sn)) : gR (B + 400) M2 := by
  by_cases z : o'.1 = 0
  · refine ⟨o'.2.2, uPush u, hPush u H s, sf, sn, ef, fl, L, t, O, o, gC_L (c1.1 z) l, m.1 z, gT_L (gT_K x k) l, v', fun i hi => ?_, fun h => aV_le (vs h) (by omega)⟩
    have h8 := c0.2.2.2.2.2.2.1
    unfold hPush
    unfold uPush at hi
    by_cases e : u = 8
    · rw [if_pos e]
      rw [if_pos e] at hi
      by_cases e7 : i = 7
      · rw [if_pos e7]; exact aV_le v (by omega)
      · rw [if_neg e7]; exact aV_le (vh (i + 1) (by omega)) (by omega)
    · rw [if_neg e]
      rw [if_neg e] at hi
      by_cases e7 : i = u
      · rw [e7, va_up_self]; exact aV_le v (by omega)
      · rw [va_up_ne _ _ e7]; exact aV_le (vh i (by omega)) (by omega)
  · exact ⟨s, u, H, sf, sn, ef, fl, L, t, O, o, gC_L (c1.2 z) l, m.2 z, gT_L (gT_K x k) l, aV_le v (by omega), fun i hi => aV_le (vh i hi) (by omega), fun h => aV_le (vs h) (by omega)⟩
end GT
theorem lg_same (x : Int64) : lg_cmp x x = 0 := (lg_cmp_eq x x).mpr rfl
/-- the law's comparison, when both sides say the same -/
theorem lw_cmp {M2 : xM} {o : Nat × Nat × hS} (h9 : M2.1 9 9 = nI o.1) (ho : o.1 < 2 ^ 31) (hj : o.1 = 0 → M2.2.2.1 = (nI o.2.1).toInt64) : ((f_X7_thrown M2).bind fun q7 => (if q7 = nI o.1 then (if nI o.1 = 0 then (if (lg_cmp M2.2.2.1 (om o).toInt64) = 0 then some M2 else none) else some M2) else none)) = some M2 := by
  unfold f_X7_thrown
  rw [Option.bind_some, if_pos h9]
  by_cases z : o.1 = 0
  · rw [if_pos (by rw [z]; rfl), hj z, show om o = nI o.2.1 from if_pos z, lg_same, if_pos rfl]
  · rw [if_neg (show ¬ nI o.1 = 0 by rw [pi_z ho]; exact z)]
theorem bU (u : Nat) {B : Nat} {H : Nat → hS} {sf : Nat} {sn : hS} (vh : ∀ i, i < u → aV B (H i)) (vs : sf ≠ 0 → aV B sn) : aBs u H sf sn := ⟨fun i hi => (vh i hi).1.1.1.1, fun h => (vs h).1.1.1.1⟩
theorem oAdd_le {s : hS} {a1 : Int32} : (oAdd (ix a1) s).1 ≤ 2 := by
  unfold oAdd
  (repeat' split) <;> (dsimp only; omega)
theorem ll_addCustomer {B : Nat} {M : xM} {s : hS} {u : Nat} {H : Nat → hS} {sf : Nat} {sn : hS} {a1 : Int32} (g : gC M s u H sf sn) (v : aV B s) (hB : 13 ≤ B) (hB2 : B < 2 ^ 29) : ∃ M', f_L_addCustomer a1 M = some (nI (oAdd (ix a1) s).1, M') ∧ gK2 M M' ∧ ((oAdd (ix a1) s).1 = 0 → M'.2.2.1 = (nI (oAdd (ix a1) s).2.1).toInt64) ∧ ((oAdd (ix a1) s).1 = 0 → gC M' (oAdd (ix a1) s).2.2 (uPush u) (hPush u H s) sf sn) ∧ ((oAdd (ix a1) s).1 ≠ 0 → gC M' s u H sf sn) := by
  have av := aV_add v hB (ix a1)
  obtain ⟨⟨i, hF⟩, x1, hu⟩ := id v
  have b := i.1.1
  have k := i.1.2.1
  have le := oAdd_le (s := s) (a1 := a1)
  obtain ⟨M1, h1, k1, c1, c2⟩ := w_change (OP := fun h X => f_X3_admit h a1 X) (o := oAdd (ix a1) s) (l := [-2, -3]) g (fun h X r => o_add r b k) (by omega) (by decide) le
  have h1 : f_X6_addCustomer a1 M = some (if (oAdd (ix a1) s).1 = 0 then .inl (nI (oAdd (ix a1) s).2.1) else .inr (exN (oc [-2, -3] (oAdd (ix a1) s))), M1) := h1
  unfold f_L_addCustomer
  rw [h1, Option.bind_some]
  generalize oAdd (ix a1) s = r at le c1 c2 ⊢
  by_cases z : r.1 = 0
  · rw [if_pos z, z]
    exact ⟨sJ M1 (nI r.2.1).toInt64, rfl, ⟨k1.1, k1.2.2⟩, fun _ => rfl, fun _ => c1 z, fun h => absurd rfl h⟩
  · rw [if_neg z]
    refine ⟨M1, ?_, ⟨k1.1, k1.2.2⟩, fun h => absurd h z, c1, c2⟩
    unfold oc
    rw [if_neg z]
    rcases (show r.1 = 1 ∨ r.1 = 2 by omega) with e | e
    · rw [e]; rfl
    · rw [e]; rfl
theorem lc_0 {B : Nat} {M : xM} {sc : Nat → Int32} {L : Nat} {I : Int32} (g : gR B M) (hB : 13 ≤ B) (hB2 : B < 2 ^ 29) (h1 : x_in (I + 1) L = true) : ∃ M', f_law_c0 sc L I M = some M' ∧ gR (B + 400) M' := by
  obtain ⟨s, u, H, sf, sn, ef, fl, Ln, t, O, o, c0, g0, x0, v, vh, vs⟩ := g
  obtain ⟨⟨im, hF⟩, x1, hu⟩ := id v
  have b := im.1.1
  have k := im.1.2.1
  have h4 := x1.2
  have hU : s.1 2 < 2 ^ 30 := by have := hu.1 2 (by decide); omega
  have i := im
  unfold f_law_c0
  rw [if_pos h1]
  obtain ⟨M1, a1, a2, a3, a4, a5⟩ := ll_addCustomer (a1 := sc (I + 1).toNatClampNeg) c0 v hB hB2
  have av := aV_add v hB (ix (sc (I + 1).toNatClampNeg))
  rw [a1, Option.bind_some]
  rw [if_pos h1]
  obtain ⟨M2, m1, m2, m3, m4, m5⟩ := w_model (OP := f_X7_addIt (sc (I + 1).toNatClampNeg)) (o := oAdd (ix (sc (I + 1).toNatClampNeg)) s) (gM_K g0 a2) (bU u vh vs) b (fun X d => mo_add d b k) (by have := oAdd_le (s := s) (a1 := sc (I + 1).toNatClampNeg); omega)
  have m1 : f_X7_addCustomer (sc (I + 1).toNatClampNeg) M1 = some (om (oAdd (ix (sc (I + 1).toNatClampNeg)) s), M2) := m1
  rw [m1, Option.bind_some]
  refine ⟨M2, lw_cmp m3 (by have := oAdd_le (s := s) (a1 := sc (I + 1).toNatClampNeg); omega) (fun z => ?_), lw_chg c0 g0 x0 v vh vs av.1 a2 ⟨a4, a5⟩ m2 ⟨m4, m5⟩⟩
  rw [m2.1]
  exact a3 z
theorem oOpen_le {s : hS} {a1 a2 a3 : Int32} : (oOpen (ix a1) (ix a2) (ix a3) s).1 ≤ 3 := by
  unfold oOpen
  (repeat' split) <;> (dsimp only; omega)
theorem ll_openWindow {B : Nat} {M : xM} {s : hS} {u : Nat} {H : Nat → hS} {sf : Nat} {sn : hS} {a1 a2 a3 : Int32} (g : gC M s u H sf sn) (v : aV B s) (hB : 13 ≤ B) (hB2 : B < 2 ^ 29) : ∃ M', f_L_openWindow a1 a2 a3 M = some (nI (oOpen (ix a1) (ix a2) (ix a3) s).1, M') ∧ gK2 M M' ∧ ((oOpen (ix a1) (ix a2) (ix a3) s).1 = 0 → M'.2.2.1 = (nI (oOpen (ix a1) (ix a2) (ix a3) s).2.1).toInt64) ∧ ((oOpen (ix a1) (ix a2) (ix a3) s).1 = 0 → gC M' (oOpen (ix a1) (ix a2) (ix a3) s).2.2 (uPush u) (hPush u H s) sf sn) ∧ ((oOpen (ix a1) (ix a2) (ix a3) s).1 ≠ 0 → gC M' s u H sf sn) := by
  have av := aV_open v hB (ix a1) (ix a2) (ix a3)
  obtain ⟨⟨i, hF⟩, x1, hu⟩ := id v
  have b := i.1.1
  have k := i.1.2.1
  have le := oOpen_le (s := s) (a1 := a1) (a2 := a2) (a3 := a3)
  obtain ⟨M1, h1, k1, c1, c2⟩ := w_change (OP := fun h X => f_X3_open h a1 a2 a3 X) (o := oOpen (ix a1) (ix a2) (ix a3) s) (l := [-1, -2, -3]) g (fun h X r => o_open r b) (by omega) (by decide) le
  have h1 : f_X6_openWindow a1 a2 a3 M = some (if (oOpen (ix a1) (ix a2) (ix a3) s).1 = 0 then .inl (nI (oOpen (ix a1) (ix a2) (ix a3) s).2.1) else .inr (exN (oc [-1, -2, -3] (oOpen (ix a1) (ix a2) (ix a3) s))), M1) := h1
  unfold f_L_openWindow
  rw [h1, Option.bind_some]
  generalize oOpen (ix a1) (ix a2) (ix a3) s = r at le c1 c2 ⊢
  by_cases z : r.1 = 0
  · rw [if_pos z, z]
    exact ⟨sJ M1 (nI r.2.1).toInt64, rfl, ⟨k1.1, k1.2.2⟩, fun _ => rfl, fun _ => c1 z, fun h => absurd rfl h⟩
  · rw [if_neg z]
    refine ⟨M1, ?_, ⟨k1.1, k1.2.2⟩, fun h => absurd h z, c1, c2⟩
    unfold oc
    rw [if_neg z]
    rcases (show r.1 = 1 ∨ r.1 = 2 ∨ r.1 = 3 by omega) with e | e | e
    · rw [e]; rfl
    · rw [e]; rfl
    · rw [e]; rfl
theorem lc_1 {B : Nat} {M : xM} {sc : Nat → Int32} {L : Nat} {I : Int32} (g : gR B M) (hB : 13 ≤ B) (hB2 : B < 2 ^ 29) (h1 : x_in (I + 1) L = true) (h2 : x_in (I + 2) L = true) (h3 : x_in (I + 3) L = true) : ∃ M', f_law_c1 sc L I M = some M' ∧ gR (B + 400) M' := by
  obtain ⟨s, u, H, sf, sn, ef, fl, Ln, t, O, o, c0, g0, x0, v, vh, vs⟩ := g
  obtain ⟨⟨im, hF⟩, x1, hu⟩ := id v
  have b := im.1.1
  have k := im.1.2.1
  have h4 := x1.2
  have hU : s.1 2 < 2 ^ 30 := by have := hu.1 2 (by decide); omega
  have i := im
  unfold f_law_c1
  rw [if_pos h1, if_pos h2, if_pos h3]
  obtain ⟨M1, a1, a2, a3, a4, a5⟩ := ll_openWindow (a1 := sc (I + 1).toNatClampNeg) (a2 := sc (I + 2).toNatClampNeg) (a3 := sc (I + 3).toNatClampNeg) c0 v hB hB2
  have av := aV_open v hB (ix (sc (I + 1).toNatClampNeg)) (ix (sc (I + 2).toNatClampNeg)) (ix (sc (I + 3).toNatClampNeg))
  rw [a1, Option.bind_some]
  rw [if_pos h1, if_pos h2, if_pos h3]
  obtain ⟨M2, m1, m2, m3, m4, m5⟩ := w_model (OP := f_X7_openIt (sc (I + 1).toNatClampNeg) (sc (I + 2).toNatClampNeg) (sc (I + 3).toNatClampNeg)) (o := oOpen (ix (sc (I + 1).toNatClampNeg)) (ix (sc (I + 2).toNatClampNeg)) (ix (sc (I + 3).toNatClampNeg)) s) (gM_K g0 a2) (bU u vh vs) b (fun X d => mo_open d b) (by have := oOpen_le (s := s) (a1 := sc (I + 1).toNatClampNeg) (a2 := sc (I + 2).toNatClampNeg) (a3 := sc (I + 3).toNatClampNeg); omega)
  have m1 : f_X7_openWindow (sc (I + 1).toNatClampNeg) (sc (I + 2).toNatClampNeg) (sc (I + 3).toNatClampNeg) M1 = some (om (oOpen (ix (sc (I + 1).toNatClampNeg)) (ix (sc (I + 2).toNatClampNeg)) (ix (sc (I + 3).toNatClampNeg)) s), M2) := m1
  rw [m1, Option.bind_some]
  refine ⟨M2, lw_cmp m3 (by have := oOpen_le (s := s) (a1 := sc (I + 1).toNatClampNeg) (a2 := sc (I + 2).toNatClampNeg) (a3 := sc (I + 3).toNatClampNeg); omega) (fun z => ?_), lw_chg c0 g0 x0 v vh vs av.1 a2 ⟨a4, a5⟩ m2 ⟨m4, m5⟩⟩
  rw [m2.1]
  exact a3 z
theorem oClose_le {s : hS} {a1 : Int32} : (oClose (ix a1) s).1 ≤ 2 := by
  unfold oClose
  (repeat' split) <;> (dsimp only; omega)
theorem ll_closeWindow {B : Nat} {M : xM} {s : hS} {u : Nat} {H : Nat → hS} {sf : Nat} {sn : hS} {a1 : Int32} (g : gC M s u H sf sn) (v : aV B s) (hB : 13 ≤ B) (hB2 : B < 2 ^ 29) : ∃ M', f_L_closeWindow a1 M = some (nI (oClose (ix a1) s).1, M') ∧ gK2 M M' ∧ ((oClose (ix a1) s).1 = 0 → M'.2.2.1 = (nI (oClose (ix a1) s).2.1).toInt64) ∧ ((oClose (ix a1) s).1 = 0 → gC M' (oClose (ix a1) s).2.2 (uPush u) (hPush u H s) sf sn) ∧ ((oClose (ix a1) s).1 ≠ 0 → gC M' s u H sf sn) := by
  have av := aV_close v hB (ix a1)
  obtain ⟨⟨i, hF⟩, x1, hu⟩ := id v
  have b := i.1.1
  have k := i.1.2.1
  have le := oClose_le (s := s) (a1 := a1)
  obtain ⟨M1, h1, k1, c1, c2⟩ := w_change (OP := fun h X => f_X3_close h a1 X) (o := oClose (ix a1) s) (l := [-1, -3]) g (fun h X r => o_close r b k) (by omega) (by decide) le
  have h1 : f_X6_closeWindow a1 M = some (if (oClose (ix a1) s).1 = 0 then .inl (nI (oClose (ix a1) s).2.1) else .inr (exN (oc [-1, -3] (oClose (ix a1) s))), M1) := h1
  unfold f_L_closeWindow
  rw [h1, Option.bind_some]
  generalize oClose (ix a1) s = r at le c1 c2 ⊢
  by_cases z : r.1 = 0
  · rw [if_pos z, z]
    exact ⟨sJ M1 (nI r.2.1).toInt64, rfl, ⟨k1.1, k1.2.2⟩, fun _ => rfl, fun _ => c1 z, fun h => absurd rfl h⟩
  · rw [if_neg z]
    refine ⟨M1, ?_, ⟨k1.1, k1.2.2⟩, fun h => absurd h z, c1, c2⟩
    unfold oc
    rw [if_neg z]
    rcases (show r.1 = 1 ∨ r.1 = 2 by omega) with e | e
    · rw [e]; rfl
    · rw [e]; rfl
theorem lc_2 {B : Nat} {M : xM} {sc : Nat → Int32} {L : Nat} {I : Int32} (g : gR B M) (hB : 13 ≤ B) (hB2 : B < 2 ^ 29) (h1 : x_in (I + 1) L = true) : ∃ M', f_law_c2 sc L I M = some M' ∧ gR (B + 400) M' := by
  obtain ⟨s, u, H, sf, sn, ef, fl, Ln, t, O, o, c0, g0, x0, v, vh, vs⟩ := g
  obtain ⟨⟨im, hF⟩, x1, hu⟩ := id v
  have b := im.1.1
  have k := im.1.2.1
  have h4 := x1.2
  have hU : s.1 2 < 2 ^ 30 := by have := hu.1 2 (by decide); omega
  have i := im
  unfold f_law_c2
  rw [if_pos h1]
  obtain ⟨M1, a1, a2, a3, a4, a5⟩ := ll_closeWindow (a1 := sc (I + 1).toNatClampNeg) c0 v hB hB2
  have av := aV_close v hB (ix (sc (I + 1).toNatClampNeg))
  rw [a1, Option.bind_some]
  rw [if_pos h1]
  obtain ⟨M2, m1, m2, m3, m4, m5⟩ := w_model (OP := f_X7_closeIt (sc (I + 1).toNatClampNeg)) (o := oClose (ix (sc (I + 1).toNatClampNeg)) s) (gM_K g0 a2) (bU u vh vs) b (fun X d => mo_close d b k) (by have := oClose_le (s := s) (a1 := sc (I + 1).toNatClampNeg); omega)
  have m1 : f_X7_closeWindow (sc (I + 1).toNatClampNeg) M1 = some (om (oClose (ix (sc (I + 1).toNatClampNeg)) s), M2) := m1
  rw [m1, Option.bind_some]
  refine ⟨M2, lw_cmp m3 (by have := oClose_le (s := s) (a1 := sc (I + 1).toNatClampNeg); omega) (fun z => ?_), lw_chg c0 g0 x0 v vh vs av.1 a2 ⟨a4, a5⟩ m2 ⟨m4, m5⟩⟩
  rw [m2.1]
  exact a3 z
theorem oCall_le {s : hS} : (oCall s).1 ≤ 1 := by
  unfold oCall
  (repeat' split) <;> (dsimp only; omega)
theorem ll_callNext {B : Nat} {M : xM} {s : hS} {u : Nat} {H : Nat → hS} {sf : Nat} {sn : hS} (g : gC M s u H sf sn) (v : aV B s) (hB : 13 ≤ B) (hB2 : B < 2 ^ 29) : ∃ M', f_L_callNext  M = some (nI (oCall s).1, M') ∧ gK2 M M' ∧ ((oCall s).1 = 0 → M'.2.2.1 = (nI (oCall s).2.1).toInt64) ∧ ((oCall s).1 = 0 → gC M' (oCall s).2.2 (uPush u) (hPush u H s) sf sn) ∧ ((oCall s).1 ≠ 0 → gC M' s u H sf sn) := by
  have av := aV_call v
  obtain ⟨⟨i, hF⟩, x1, hu⟩ := id v
  have b := i.1.1
  have k := i.1.2.1
  have le := oCall_le (s := s)
  obtain ⟨M1, h1, k1, c1, c2⟩ := w_change (OP := fun h X => f_X3_callLowestTicket h X) (o := oCall s) (l := [-5]) g (fun h X r => o_call r b) (by omega) (by decide) le
  have h1 : f_X6_callNext  M = some (if (oCall s).1 = 0 then .inl (nI (oCall s).2.1) else .inr (exN (oc [-5] (oCall s))), M1) := h1
  unfold f_L_callNext
  rw [h1, Option.bind_some]
  generalize oCall s = r at le c1 c2 ⊢
  by_cases z : r.1 = 0
  · rw [if_pos z, z]
    exact ⟨sJ M1 (nI r.2.1).toInt64, rfl, ⟨k1.1, k1.2.2⟩, fun _ => rfl, fun _ => c1 z, fun h => absurd rfl h⟩
  · rw [if_neg z]
    refine ⟨M1, ?_, ⟨k1.1, k1.2.2⟩, fun h => absurd h z, c1, c2⟩
    unfold oc
    rw [if_neg z]
    have e : r.1 = 1 := by omega
    rw [e]
    rfl
theorem lc_3 {B : Nat} {M : xM} {sc : Nat → Int32} {L : Nat} {I : Int32} (g : gR B M) (hB : 13 ≤ B) (hB2 : B < 2 ^ 29) : ∃ M', f_law_c3 sc L I M = some M' ∧ gR (B + 400) M' := by
  obtain ⟨s, u, H, sf, sn, ef, fl, Ln, t, O, o, c0, g0, x0, v, vh, vs⟩ := g
  obtain ⟨⟨im, hF⟩, x1, hu⟩ := id v
  have b := im.1.1
  have k := im.1.2.1
  have h4 := x1.2
  have hU : s.1 2 < 2 ^ 30 := by have := hu.1 2 (by decide); omega
  have i := im
  unfold f_law_c3
  obtain ⟨M1, a1, a2, a3, a4, a5⟩ := ll_callNext  c0 v hB hB2
  have av := aV_call v
  rw [a1, Option.bind_some]
  obtain ⟨M2, m1, m2, m3, m4, m5⟩ := w_model (OP := f_X7_callIt) (o := oCall s) (gM_K g0 a2) (bU u vh vs) b (fun X d => mo_call d b k hF hU) (by have := oCall_le (s := s); omega)
  have m1 : f_X7_callNext M1 = some (om (oCall s), M2) := m1
  rw [m1, Option.bind_some]
  refine ⟨M2, lw_cmp m3 (by have := oCall_le (s := s); omega) (fun z => ?_), lw_chg c0 g0 x0 v vh vs av.1 a2 ⟨a4, a5⟩ m2 ⟨m4, m5⟩⟩
  rw [m2.1]
  exact a3 z
theorem oSwap_le {s : hS} {a1 a2 : Int32} : (oSwap (ix a1) (ix a2) s).1 ≤ 4 := by
  unfold oSwap
  (repeat' split) <;> (dsimp only; omega)
theorem ll_swap {B : Nat} {M : xM} {s : hS} {u : Nat} {H : Nat → hS} {sf : Nat} {sn : hS} {a1 a2 : Int32} (g : gC M s u H sf sn) (v : aV B s) (hB : 13 ≤ B) (hB2 : B < 2 ^ 29) : ∃ M', f_L_swap a1 a2 M = some (nI (oSwap (ix a1) (ix a2) s).1, M') ∧ gK2 M M' ∧ ((oSwap (ix a1) (ix a2) s).1 = 0 → M'.2.2.1 = (nI (oSwap (ix a1) (ix a2) s).2.1).toInt64) ∧ ((oSwap (ix a1) (ix a2) s).1 = 0 → gC M' (oSwap (ix a1) (ix a2) s).2.2 (uPush u) (hPush u H s) sf sn) ∧ ((oSwap (ix a1) (ix a2) s).1 ≠ 0 → gC M' s u H sf sn) := by
  have av := aV_swap v hB (ix a1) (ix a2)
  obtain ⟨⟨i, hF⟩, x1, hu⟩ := id v
  have b := i.1.1
  have k := i.1.2.1
  have le := oSwap_le (s := s) (a1 := a1) (a2 := a2)
  obtain ⟨M1, h1, k1, c1, c2⟩ := w_change (OP := fun h X => f_X3_exchange h a1 a2 X) (o := oSwap (ix a1) (ix a2) s) (l := [-1, -2, -3, -4]) g (fun h X r => o_swap r b) (by omega) (by decide) le
  have h1 : f_X6_swap a1 a2 M = some (if (oSwap (ix a1) (ix a2) s).1 = 0 then .inl (nI (oSwap (ix a1) (ix a2) s).2.1) else .inr (exN (oc [-1, -2, -3, -4] (oSwap (ix a1) (ix a2) s))), M1) := h1
  unfold f_L_swap
  rw [h1, Option.bind_some]
  generalize oSwap (ix a1) (ix a2) s = r at le c1 c2 ⊢
  by_cases z : r.1 = 0
  · rw [if_pos z, z]
    exact ⟨sJ M1 (nI r.2.1).toInt64, rfl, ⟨k1.1, k1.2.2⟩, fun _ => rfl, fun _ => c1 z, fun h => absurd rfl h⟩
  · rw [if_neg z]
    refine ⟨M1, ?_, ⟨k1.1, k1.2.2⟩, fun h => absurd h z, c1, c2⟩
    unfold oc
    rw [if_neg z]
    rcases (show r.1 = 1 ∨ r.1 = 2 ∨ r.1 = 3 ∨ r.1 = 4 by omega) with e | e | e | e
    · rw [e]; rfl
    · rw [e]; rfl
    · rw [e]; rfl
    · rw [e]; rfl
theorem lc_4 {B : Nat} {M : xM} {sc : Nat → Int32} {L : Nat} {I : Int32} (g : gR B M) (hB : 13 ≤ B) (hB2 : B < 2 ^ 29) (h1 : x_in (I + 1) L = true) (h2 : x_in (I + 2) L = true) : ∃ M', f_law_c4 sc L I M = some M' ∧ gR (B + 400) M' := by
  obtain ⟨s, u, H, sf, sn, ef, fl, Ln, t, O, o, c0, g0, x0, v, vh, vs⟩ := g
  obtain ⟨⟨im, hF⟩, x1, hu⟩ := id v
  have b := im.1.1
  have k := im.1.2.1
  have h4 := x1.2
  have hU : s.1 2 < 2 ^ 30 := by have := hu.1 2 (by decide); omega
  have i := im
  unfold f_law_c4
  rw [if_pos h1, if_pos h2]
  obtain ⟨M1, a1, a2, a3, a4, a5⟩ := ll_swap (a1 := sc (I + 1).toNatClampNeg) (a2 := sc (I + 2).toNatClampNeg) c0 v hB hB2
  have av := aV_swap v hB (ix (sc (I + 1).toNatClampNeg)) (ix (sc (I + 2).toNatClampNeg))
  rw [a1, Option.bind_some]
  rw [if_pos h1, if_pos h2]
  obtain ⟨M2, m1, m2, m3, m4, m5⟩ := w_model (OP := f_X7_swapIt (sc (I + 1).toNatClampNeg) (sc (I + 2).toNatClampNeg)) (o := oSwap (ix (sc (I + 1).toNatClampNeg)) (ix (sc (I + 2).toNatClampNeg)) s) (gM_K g0 a2) (bU u vh vs) b (fun X d => mo_swap d b k) (by have := oSwap_le (s := s) (a1 := sc (I + 1).toNatClampNeg) (a2 := sc (I + 2).toNatClampNeg); omega)
  have m1 : f_X7_swap (sc (I + 1).toNatClampNeg) (sc (I + 2).toNatClampNeg) M1 = some (om (oSwap (ix (sc (I + 1).toNatClampNeg)) (ix (sc (I + 2).toNatClampNeg)) s), M2) := m1
  rw [m1, Option.bind_some]
  refine ⟨M2, lw_cmp m3 (by have := oSwap_le (s := s) (a1 := sc (I + 1).toNatClampNeg) (a2 := sc (I + 2).toNatClampNeg); omega) (fun z => ?_), lw_chg c0 g0 x0 v vh vs av.1 a2 ⟨a4, a5⟩ m2 ⟨m4, m5⟩⟩
  rw [m2.1]
  exact a3 z
theorem oSit_le {s : hS} {a1 : Int32} : (oSit (ix a1) s).1 ≤ 3 := by
  unfold oSit
  (repeat' split) <;> (dsimp only; omega)
theorem ll_sit {B : Nat} {M : xM} {s : hS} {u : Nat} {H : Nat → hS} {sf : Nat} {sn : hS} {a1 : Int32} (g : gC M s u H sf sn) (v : aV B s) (hB : 13 ≤ B) (hB2 : B < 2 ^ 29) : ∃ M', f_L_sit a1 M = some (nI (oSit (ix a1) s).1, M') ∧ gK2 M M' ∧ ((oSit (ix a1) s).1 = 0 → M'.2.2.1 = (nI (oSit (ix a1) s).2.1).toInt64) ∧ ((oSit (ix a1) s).1 = 0 → gC M' (oSit (ix a1) s).2.2 (uPush u) (hPush u H s) sf sn) ∧ ((oSit (ix a1) s).1 ≠ 0 → gC M' s u H sf sn) := by
  have av := aV_sit v hB (ix a1)
  obtain ⟨⟨i, hF⟩, x1, hu⟩ := id v
  have b := i.1.1
  have k := i.1.2.1
  have le := oSit_le (s := s) (a1 := a1)
  obtain ⟨M1, h1, k1, c1, c2⟩ := w_change (OP := fun h X => f_X3_seat h a1 X) (o := oSit (ix a1) s) (l := [-1, -3, -4]) g (fun h X r => o_sit r b k) (by omega) (by decide) le
  have h1 : f_X6_sit a1 M = some (if (oSit (ix a1) s).1 = 0 then .inl (nI (oSit (ix a1) s).2.1) else .inr (exN (oc [-1, -3, -4] (oSit (ix a1) s))), M1) := h1
  unfold f_L_sit
  rw [h1, Option.bind_some]
  generalize oSit (ix a1) s = r at le c1 c2 ⊢
  by_cases z : r.1 = 0
  · rw [if_pos z, z]
    exact ⟨sJ M1 (nI r.2.1).toInt64, rfl, ⟨k1.1, k1.2.2⟩, fun _ => rfl, fun _ => c1 z, fun h => absurd rfl h⟩
  · rw [if_neg z]
    refine ⟨M1, ?_, ⟨k1.1, k1.2.2⟩, fun h => absurd h z, c1, c2⟩
    unfold oc
    rw [if_neg z]
    rcases (show r.1 = 1 ∨ r.1 = 2 ∨ r.1 = 3 by omega) with e | e | e
    · rw [e]; rfl
    · rw [e]; rfl
    · rw [e]; rfl
theorem lc_5 {B : Nat} {M : xM} {sc : Nat → Int32} {L : Nat} {I : Int32} (g : gR B M) (hB : 13 ≤ B) (hB2 : B < 2 ^ 29) (h1 : x_in (I + 1) L = true) : ∃ M', f_law_c5 sc L I M = some M' ∧ gR (B + 400) M' := by
  obtain ⟨s, u, H, sf, sn, ef, fl, Ln, t, O, o, c0, g0, x0, v, vh, vs⟩ := g
  obtain ⟨⟨im, hF⟩, x1, hu⟩ := id v
  have b := im.1.1
  have k := im.1.2.1
  have h4 := x1.2
  have hU : s.1 2 < 2 ^ 30 := by have := hu.1 2 (by decide); omega
  have i := im
  unfold f_law_c5
  rw [if_pos h1]
  obtain ⟨M1, a1, a2, a3, a4, a5⟩ := ll_sit (a1 := sc (I + 1).toNatClampNeg) c0 v hB hB2
  have av := aV_sit v hB (ix (sc (I + 1).toNatClampNeg))
  rw [a1, Option.bind_some]
  rw [if_pos h1]
  obtain ⟨M2, m1, m2, m3, m4, m5⟩ := w_model (OP := f_X7_sitIt (sc (I + 1).toNatClampNeg)) (o := oSit (ix (sc (I + 1).toNatClampNeg)) s) (gM_K g0 a2) (bU u vh vs) b (fun X d => mo_sit d b hF h4) (by have := oSit_le (s := s) (a1 := sc (I + 1).toNatClampNeg); omega)
  have m1 : f_X7_sit (sc (I + 1).toNatClampNeg) M1 = some (om (oSit (ix (sc (I + 1).toNatClampNeg)) s), M2) := m1
  rw [m1, Option.bind_some]
  refine ⟨M2, lw_cmp m3 (by have := oSit_le (s := s) (a1 := sc (I + 1).toNatClampNeg); omega) (fun z => ?_), lw_chg c0 g0 x0 v vh vs av.1 a2 ⟨a4, a5⟩ m2 ⟨m4, m5⟩⟩
  rw [m2.1]
  exact a3 z
theorem oStand_le {s : hS} {a1 : Int32} : (oStand (ix a1) s).1 ≤ 2 := by
  unfold oStand
  (repeat' split) <;> (dsimp only; omega)
theorem ll_standUp {B : Nat} {M : xM} {s : hS} {u : Nat} {H : Nat → hS} {sf : Nat} {sn : hS} {a1 : Int32} (g : gC M s u H sf sn) (v : aV B s) (hB : 13 ≤ B) (hB2 : B < 2 ^ 29) : ∃ M', f_L_standUp a1 M = some (nI (oStand (ix a1) s).1, M') ∧ gK2 M M' ∧ ((oStand (ix a1) s).1 = 0 → M'.2.2.1 = (nI (oStand (ix a1) s).2.1).toInt64) ∧ ((oStand (ix a1) s).1 = 0 → gC M' (oStand (ix a1) s).2.2 (uPush u) (hPush u H s) sf sn) ∧ ((oStand (ix a1) s).1 ≠ 0 → gC M' s u H sf sn) := by
  have av := aV_stand v hB (ix a1)
  obtain ⟨⟨i, hF⟩, x1, hu⟩ := id v
  have b := i.1.1
  have k := i.1.2.1
  have le := oStand_le (s := s) (a1 := a1)
  obtain ⟨M1, h1, k1, c1, c2⟩ := w_change (OP := fun h X => f_X3_unseat h a1 X) (o := oStand (ix a1) s) (l := [-1, -3]) g (fun h X r => o_stand r b) (by omega) (by decide) le
  have h1 : f_X6_standUp a1 M = some (if (oStand (ix a1) s).1 = 0 then .inl (nI (oStand (ix a1) s).2.1) else .inr (exN (oc [-1, -3] (oStand (ix a1) s))), M1) := h1
  unfold f_L_standUp
  rw [h1, Option.bind_some]
  generalize oStand (ix a1) s = r at le c1 c2 ⊢
  by_cases z : r.1 = 0
  · rw [if_pos z, z]
    exact ⟨sJ M1 (nI r.2.1).toInt64, rfl, ⟨k1.1, k1.2.2⟩, fun _ => rfl, fun _ => c1 z, fun h => absurd rfl h⟩
  · rw [if_neg z]
    refine ⟨M1, ?_, ⟨k1.1, k1.2.2⟩, fun h => absurd h z, c1, c2⟩
    unfold oc
    rw [if_neg z]
    rcases (show r.1 = 1 ∨ r.1 = 2 by omega) with e | e
    · rw [e]; rfl
    · rw [e]; rfl
theorem lc_6 {B : Nat} {M : xM} {sc : Nat → Int32} {L : Nat} {I : Int32} (g : gR B M) (hB : 13 ≤ B) (hB2 : B < 2 ^ 29) (h1 : x_in (I + 1) L = true) : ∃ M', f_law_c6 sc L I M = some M' ∧ gR (B + 400) M' := by
  obtain ⟨s, u, H, sf, sn, ef, fl, Ln, t, O, o, c0, g0, x0, v, vh, vs⟩ := g
  obtain ⟨⟨im, hF⟩, x1, hu⟩ := id v
  have b := im.1.1
  have k := im.1.2.1
  have h4 := x1.2
  have hU : s.1 2 < 2 ^ 30 := by have := hu.1 2 (by decide); omega
  have i := im
  unfold f_law_c6
  rw [if_pos h1]
  obtain ⟨M1, a1, a2, a3, a4, a5⟩ := ll_standUp (a1 := sc (I + 1).toNatClampNeg) c0 v hB hB2
  have av := aV_stand v hB (ix (sc (I + 1).toNatClampNeg))
  rw [a1, Option.bind_some]
  rw [if_pos h1]
  obtain ⟨M2, m1, m2, m3, m4, m5⟩ := w_model (OP := f_X7_standIt (sc (I + 1).toNatClampNeg)) (o := oStand (ix (sc (I + 1).toNatClampNeg)) s) (gM_K g0 a2) (bU u vh vs) b (fun X d => mo_stand d b hF) (by have := oStand_le (s := s) (a1 := sc (I + 1).toNatClampNeg); omega)
  have m1 : f_X7_standUp (sc (I + 1).toNatClampNeg) M1 = some (om (oStand (ix (sc (I + 1).toNatClampNeg)) s), M2) := m1
  rw [m1, Option.bind_some]
  refine ⟨M2, lw_cmp m3 (by have := oStand_le (s := s) (a1 := sc (I + 1).toNatClampNeg); omega) (fun z => ?_), lw_chg c0 g0 x0 v vh vs av.1 a2 ⟨a4, a5⟩ m2 ⟨m4, m5⟩⟩
  rw [m2.1]
  exact a3 z
theorem oRemove_le {s : hS} {a1 : Int32} : (oRemove (ix a1) s).1 ≤ 1 := by
  unfold oRemove
  (repeat' split) <;> (dsimp only; omega)
theorem ll_remove {B : Nat} {M : xM} {s : hS} {u : Nat} {H : Nat → hS} {sf : Nat} {sn : hS} {a1 : Int32} (g : gC M s u H sf sn) (v : aV B s) (hB : 13 ≤ B) (hB2 : B < 2 ^ 29) : ∃ M', f_L_remove a1 M = some (nI (oRemove (ix a1) s).1, M') ∧ gK2 M M' ∧ ((oRemove (ix a1) s).1 = 0 → M'.2.2.1 = (nI (oRemove (ix a1) s).2.1).toInt64) ∧ ((oRemove (ix a1) s).1 = 0 → gC M' (oRemove (ix a1) s).2.2 (uPush u) (hPush u H s) sf sn) ∧ ((oRemove (ix a1) s).1 ≠ 0 → gC M' s u H sf sn) := by
  have av := aV_remove v hB (ix a1)
  obtain ⟨⟨i, hF⟩, x1, hu⟩ := id v
  have b := i.1.1
  have k := i.1.2.1
  have le := oRemove_le (s := s) (a1 := a1)
  obtain ⟨M1, h1, k1, c1, c2⟩ := w_change (OP := fun h X => f_X3_dismiss h a1 X) (o := oRemove (ix a1) s) (l := [-1]) g (fun h X r => o_remove r b) (by omega) (by decide) le
  have h1 : f_X6_remove a1 M = some (if (oRemove (ix a1) s).1 = 0 then .inl (nI (oRemove (ix a1) s).2.1) else .inr (exN (oc [-1] (oRemove (ix a1) s))), M1) := h1
  unfold f_L_remove
  rw [h1, Option.bind_some]
  generalize oRemove (ix a1) s = r at le c1 c2 ⊢
  by_cases z : r.1 = 0
  · rw [if_pos z, z]
    exact ⟨sJ M1 (nI r.2.1).toInt64, rfl, ⟨k1.1, k1.2.2⟩, fun _ => rfl, fun _ => c1 z, fun h => absurd rfl h⟩
  · rw [if_neg z]
    refine ⟨M1, ?_, ⟨k1.1, k1.2.2⟩, fun h => absurd h z, c1, c2⟩
    unfold oc
    rw [if_neg z]
    have e : r.1 = 1 := by omega
    rw [e]
    rfl
theorem lc_7 {B : Nat} {M : xM} {sc : Nat → Int32} {L : Nat} {I : Int32} (g : gR B M) (hB : 13 ≤ B) (hB2 : B < 2 ^ 29) (h1 : x_in (I + 1) L = true) : ∃ M', f_law_c7 sc L I M = some M' ∧ gR (B + 400) M' := by
  obtain ⟨s, u, H, sf, sn, ef, fl, Ln, t, O, o, c0, g0, x0, v, vh, vs⟩ := g
  obtain ⟨⟨im, hF⟩, x1, hu⟩ := id v
  have b := im.1.1
  have k := im.1.2.1
  have h4 := x1.2
  have hU : s.1 2 < 2 ^ 30 := by have := hu.1 2 (by decide); omega
  have i := im
  unfold f_law_c7
  rw [if_pos h1]
  obtain ⟨M1, a1, a2, a3, a4, a5⟩ := ll_remove (a1 := sc (I + 1).toNatClampNeg) c0 v hB hB2
  have av := aV_remove v hB (ix (sc (I + 1).toNatClampNeg))
  rw [a1, Option.bind_some]
  rw [if_pos h1]
  obtain ⟨M2, m1, m2, m3, m4, m5⟩ := w_model (OP := f_X7_removeIt (sc (I + 1).toNatClampNeg)) (o := oRemove (ix (sc (I + 1).toNatClampNeg)) s) (gM_K g0 a2) (bU u vh vs) b (fun X d => mo_remove d b k) (by have := oRemove_le (s := s) (a1 := sc (I + 1).toNatClampNeg); omega)
  have m1 : f_X7_remove (sc (I + 1).toNatClampNeg) M1 = some (om (oRemove (ix (sc (I + 1).toNatClampNeg)) s), M2) := m1
  rw [m1, Option.bind_some]
  refine ⟨M2, lw_cmp m3 (by have := oRemove_le (s := s) (a1 := sc (I + 1).toNatClampNeg); omega) (fun z => ?_), lw_chg c0 g0 x0 v vh vs av.1 a2 ⟨a4, a5⟩ m2 ⟨m4, m5⟩⟩
  rw [m2.1]
  exact a3 z
theorem oAdv_le {s : hS} {a1 : Int32} : (oAdv (ix a1) s).1 ≤ 1 := by
  unfold oAdv
  (repeat' split) <;> (dsimp only; omega)
theorem ll_advance {B : Nat} {M : xM} {s : hS} {u : Nat} {H : Nat → hS} {sf : Nat} {sn : hS} {a1 : Int32} (g : gC M s u H sf sn) (v : aV B s) (hB : 13 ≤ B) (hB2 : B < 2 ^ 29) : ∃ M', f_L_advance a1 M = some (nI (oAdv (ix a1) s).1, M') ∧ gK2 M M' ∧ ((oAdv (ix a1) s).1 = 0 → M'.2.2.1 = (nI (oAdv (ix a1) s).2.1).toInt64) ∧ ((oAdv (ix a1) s).1 = 0 → gC M' (oAdv (ix a1) s).2.2 (uPush u) (hPush u H s) sf sn) ∧ ((oAdv (ix a1) s).1 ≠ 0 → gC M' s u H sf sn) := by
  have av := aV_adv v hB (ix a1)
  obtain ⟨⟨i, hF⟩, x1, hu⟩ := id v
  have b := i.1.1
  have k := i.1.2.1
  have le := oAdv_le (s := s) (a1 := a1)
  obtain ⟨M1, h1, k1, c1, c2⟩ := w_change (OP := fun h X => f_X3_pass h a1 X) (o := oAdv (ix a1) s) (l := [-2]) g (fun h X r => o_adv r i) (by omega) (by decide) le
  have h1 : f_X6_advance a1 M = some (if (oAdv (ix a1) s).1 = 0 then .inl (nI (oAdv (ix a1) s).2.1) else .inr (exN (oc [-2] (oAdv (ix a1) s))), M1) := h1
  unfold f_L_advance
  rw [h1, Option.bind_some]
  generalize oAdv (ix a1) s = r at le c1 c2 ⊢
  by_cases z : r.1 = 0
  · rw [if_pos z, z]
    exact ⟨sJ M1 (nI r.2.1).toInt64, rfl, ⟨k1.1, k1.2.2⟩, fun _ => rfl, fun _ => c1 z, fun h => absurd rfl h⟩
  · rw [if_neg z]
    refine ⟨M1, ?_, ⟨k1.1, k1.2.2⟩, fun h => absurd h z, c1, c2⟩
    unfold oc
    rw [if_neg z]
    have e : r.1 = 1 := by omega
    rw [e]
    rfl
theorem lc_8 {B : Nat} {M : xM} {sc : Nat → Int32} {L : Nat} {I : Int32} (g : gR B M) (hB : 13 ≤ B) (hB2 : B < 2 ^ 29) (h1 : x_in (I + 1) L = true) : ∃ M', f_law_c8 sc L I M = some M' ∧ gR (B + 400) M' := by
  obtain ⟨s, u, H, sf, sn, ef, fl, Ln, t, O, o, c0, g0, x0, v, vh, vs⟩ := g
  obtain ⟨⟨im, hF⟩, x1, hu⟩ := id v
  have b := im.1.1
  have k := im.1.2.1
  have h4 := x1.2
  have hU : s.1 2 < 2 ^ 30 := by have := hu.1 2 (by decide); omega
  have i := im
  unfold f_law_c8
  rw [if_pos h1]
  obtain ⟨M1, a1, a2, a3, a4, a5⟩ := ll_advance (a1 := sc (I + 1).toNatClampNeg) c0 v hB hB2
  have av := aV_adv v hB (ix (sc (I + 1).toNatClampNeg))
  rw [a1, Option.bind_some]
  rw [if_pos h1]
  obtain ⟨M2, m1, m2, m3, m4, m5⟩ := w_model (OP := f_X7_advanceIt (sc (I + 1).toNatClampNeg)) (o := oAdv (ix (sc (I + 1).toNatClampNeg)) s) (gM_K g0 a2) (bU u vh vs) b (fun X d => mo_adv d ⟨i, hF⟩) (by have := oAdv_le (s := s) (a1 := sc (I + 1).toNatClampNeg); omega)
  have m1 : f_X7_advance (sc (I + 1).toNatClampNeg) M1 = some (om (oAdv (ix (sc (I + 1).toNatClampNeg)) s), M2) := m1
  rw [m1, Option.bind_some]
  refine ⟨M2, lw_cmp m3 (by have := oAdv_le (s := s) (a1 := sc (I + 1).toNatClampNeg); omega) (fun z => ?_), lw_chg c0 g0 x0 v vh vs av.1 a2 ⟨a4, a5⟩ m2 ⟨m4, m5⟩⟩
  rw [m2.1]
  exact a3 z
