theorem xK_G1 {G : xG} {ad : Nat → Nat} {U : State} (h : xK G U) : xK (G1 G ad) U := h
set_option maxHeartbeats 4000000 in
set_option maxRecDepth 100000 in
theorem ws_of {p : Program} {e : Env} {s : State} {m : MethodId} {below : List Frame} {meth : Method} {c : Code} (l : Launch) (hflags : l.flags = flags0) (hfl : l.stackTraces = false) {b L : Nat} {xs : Nat → Int32} (hL : L ≤ 2048) (C0 : lw_At p s m meth c b L xs) (hts : ∀ w ∈ wsL_law, w.before #[Value.ref b] (s.setDrawn s.drawn) = true)
    {G : xG} (hG : xbs G = s.heap.size) (hK : xK G (s.setDrawn s.drawn)) (hX : cX G (s.setDrawn s.drawn)) {out : xM} (hf : f_law_L xs L 513 0 M0 = some out) :
    W p l e room_1 s m #[Value.ref b] below meth c s.heap [] 0 0 (lw_Z below #[Value.ref b] s) (entryFrame m ([Value.ref b] : List Value).toArray 9) := by
  obtain ⟨hx, hb, hr, hml, hown, hts0, hXs, hbl, hlocks, hgv⟩ := id C0
  have hd0 := Drawn.sameBut.refl s.drawn lw_cs
  refine W.base ?_
  have hl := lv_entry ([.ref b]) (n := 9) (Nat.le_of_ble_eq_true rfl)
  rw [lg_entry_eq]
  generalize (lg_sl ([.ref b]) ++ List.replicate (9 - (lg_sl ([.ref b])).length) Slot.unset).toArray = ls at hl ⊢
  have hl : lv_has ls 9 [(0, .ref b)] := hl
  have hAx : ∀ q, xAs G q → xAs G q := fun _ h => h
  have CF : CallFix p m c cL_law 9 (s.setDrawn s.drawn) #[Value.ref b] wsL_law RL := ⟨hx, hb, hml, hown, hts⟩
  have C : cwC G p (s.setDrawn s.drawn) m #[Value.ref b] meth c cL_law 9 wsL_law RL (xAs G) := ⟨CF, hK.1, fun q h => by
    show xbs G ≤ q
    rw [hG]
    exact h, Or.inl rfl⟩
  refine law_entry (b := b) C hX hAx (fun q6 u6 q7 u7 q8 q9 hu => ?_) s.heap [] ls (fun k q h => by simp at h) ⟨fun i j p q h => by simp at h, fun k q h => by simp at h⟩ va_S.rf hl
  intro H locs ls h1 h2 h3 h4
  have hz : xbs G ≤ H.size := by
    rw [hG]
    exact h3.1
  have hw := first_world h1 h2 hu hAx hz
  have C1 : xC (G1 G (adW q6 u6 q7 u7 q8 q9)) p (s.setDrawn s.drawn) m #[Value.ref b] c cL_law 9 wsL_law RL := ⟨CF, xK_G1 hK⟩
  have X1 : xLw (G1 G (adW q6 u6 q7 u7 q8 q9)) (s.setDrawn s.drawn) b L xs := ⟨hXs, hbl, by show b < xbs G; rw [hG]; exact hbl⟩
  have kend : ∀ (i : Int32) (ta : Nat × Nat) (k1 n1 : Nat), k1 ≤ 603072 → n1 ≤ 7166058 → xW (G1 G (adW q6 u6 q7 u7 q8 q9)) p l e room_1 (s.setDrawn s.drawn) m #[Value.ref b] below meth c 9 (lw_Z below #[Value.ref b] s) k1 n1 ta out 2758 [(0, .ref b), (1, .ref (xad (G1 G (adW q6 u6 q7 u7 q8 q9)) 0)), (2, .ref (xad (G1 G (adW q6 u6 q7 u7 q8 q9)) 9)), (3, .ref (xad (G1 G (adW q6 u6 q7 u7 q8 q9)) 20)), (4, .ref (xad (G1 G (adW q6 u6 q7 u7 q8 q9)) 21)), (5, .int i)] [] := fun i ta k1 n1 hk hn => by
    refine x_iconst (v := 1) C1 dL_law_2758 (by decide) ?_
    intro H locs ls g1 g2 g3
    refine va_forget (fun q hq => by
      have := g2.2.2 q hq
      have : xbs G ≤ q.base := this
      rw [hG] at this
      exact this) ?_
    refine W.widen (k := 603072) (n := 7166058) hk hn ?_
    exact lw_ret hd0 hx hb hr hlocks dL_law_2759
  have hlv : lv_has ls 9 [(0, .ref b), (1, .ref (xad (G1 G (adW q6 u6 q7 u7 q8 q9)) 0)), (2, .ref (xad (G1 G (adW q6 u6 q7 u7 q8 q9)) 9)), (3, .ref (xad (G1 G (adW q6 u6 q7 u7 q8 q9)) 20)), (4, .ref (xad (G1 G (adW q6 u6 q7 u7 q8 q9)) 21)), (5, .int 0)] := lv_sub h4 [5, 4, 3, 2, 1, 0] rfl
  exact t_law_L C1 hfl X1 kend 513 0 M0 (u6.2.2.1 2, u6.2.2.1 5) 253 4170 (by omega) (by omega) hf H locs ls hw h3 hlv
