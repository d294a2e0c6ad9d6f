/-! pure: the law over runScript, put together -/
section RT
theorem gC_w {M M' : xM} {s : hS} {u : Nat} {H : Nat → hS} {sf : Nat} {sn : hS} (g : gC M s u H sf sn) (e3 : M'.1 0 3 = M.1 0 3) (e5 : M'.1 0 5 = M.1 0 5) (p : ∀ c, c = 0 ∨ c = 1 ∨ 22 ≤ c → M'.2.1 c = M.2.1 c) (hc : ∀ c, 22 ≤ c → M'.1 c = M.1 c) : gC M' s u H sf sn := by
  have hp : ∀ i, gP M' i = gP M i := fun i => by unfold gP; rw [p 0 (by omega), p 1 (by omega)]
  have sm : ∀ i, i < 11 → ∀ c, gP M i ≤ c → c < gP M i + 21 → M'.1 c = M.1 c ∧ M'.2.1 c = M.2.1 c := fun i hi c h1 h2 => by
    have := g.ge hi
    exact ⟨hc c (by omega), p c (by omega)⟩
  refine ⟨fun i hi => ?_, fun i j hi hj e => ?_, ?_, fun i hi => ?_, fun h => ?_, ?_, g.2.2.2.2.2.2.1, ?_, g.2.2.2.2.2.2.2.2⟩
  · rw [hp]; exact cV_same (sm i hi) (g.1 i hi)
  · rw [hp, hp] at e; exact g.2.1 i j hi hj e
  · rw [hp]; exact cR_same (sm 0 (by decide)) g.2.2.1
  · rw [hp]; exact cR_same (sm (3 + i) (by have := g.2.2.2.2.2.2.1; omega)) (g.2.2.2.1 i hi)
  · rw [hp]; exact cR_same (sm 2 (by decide)) (g.2.2.2.2.1 h)
  · rw [e5]; exact g.2.2.2.2.2.1
  · rw [e3]; exact g.2.2.2.2.2.2.2.1
theorem gR_fin {B : Nat} {C F : xM} {s : hS} {u : Nat} {H : Nat → hS} {sf : Nat} {sn : hS} {ef fl : Nat} {t : Nat → Nat} {O : Nat} {o : Nat → Nat} (gc : gC C s u H sf sn) (gm : gM F s u H sf sn) (f2 : F.2 = C.2) (fc : ∀ c, c ≠ 9 → c ≠ 10 → c ≠ 11 → c ≠ 12 → c ≠ 14 → c ≠ 19 → F.1 c = C.1 c) (a1 : C.1 0 7 = eI ef) (a2 : C.1 0 8 = eI fl) (b4 : sB 4 C 0 t) (b6 : sB 6 C O o) (k7 : F.1 9 7 = eI ef) (k8 : F.1 9 8 = eI fl) (k11 : F.1 9 11 = nI 0) (k13 : F.1 9 13 = nI O) (k16 : ∀ j, j < O → C.1 16 j = nI (o j)) (k17 : ∀ j, j < 48 → C.1 17 j = nI (tLet.getD j 0)) (k18 : ∀ j, j < 10 → C.1 18 j = nI (tBeg.getD j 0)) (hef : ef ≤ 100) (hfl : fl ≤ 100) (hO : O ≤ 142) (v : aV B s) (vh : ∀ i, i < u → aV B (H i)) (vs : sf ≠ 0 → aV B sn) : gR B F := by
  have c := fun c h1 h2 h3 h4 h5 h6 => fc c h1 h2 h3 h4 h5 h6
  refine ⟨s, u, H, sf, sn, ef, fl, 0, t, O, o, ?_, gm, ⟨⟨?_, ?_, ?_, ?_⟩, ⟨k7, k8, k11, fun j hj => absurd hj (Nat.not_lt_zero j), k13, ?_, ?_, ?_⟩, Nat.zero_le _, fun j hj => absurd hj (Nat.not_lt_zero j), hef, hfl, hO⟩, v, vh, vs⟩
  · exact gC_y gc (c 0 (by decide) (by decide) (by decide) (by decide) (by decide) (by decide)) (fun c _ => by rw [f2]) (fun d hd => c d (by omega) (by omega) (by omega) (by omega) (by omega) (by omega))
  · rw [c 0 (by decide) (by decide) (by decide) (by decide) (by decide) (by decide)]; exact a1
  · rw [c 0 (by decide) (by decide) (by decide) (by decide) (by decide) (by decide)]; exact a2
  · exact sB_same b4 (c 4 (by decide) (by decide) (by decide) (by decide) (by decide) (by decide)) (c 5 (by decide) (by decide) (by decide) (by decide) (by decide) (by decide)) (by rw [f2])
  · exact sB_same b6 (c 6 (by decide) (by decide) (by decide) (by decide) (by decide) (by decide)) (c 7 (by decide) (by decide) (by decide) (by decide) (by decide) (by decide)) (by rw [f2])
  · rw [c 16 (by decide) (by decide) (by decide) (by decide) (by decide) (by decide)]; exact k16
  · rw [c 17 (by decide) (by decide) (by decide) (by decide) (by decide) (by decide)]; exact k17
  · rw [c 18 (by decide) (by decide) (by decide) (by decide) (by decide) (by decide)]; exact k18
/-- cells 6 to 21 are as they were -/
def cS6 (M C : xM) : Prop := ∀ c, 6 ≤ c → c < 22 → C.1 c = M.1 c ∧ C.2.1 c = M.2.1 c
theorem cS6.tr {M C D : xM} (a : cS6 M C) (b : cS6 C D) : cS6 M D := fun c h1 h2 => ⟨(b c h1 h2).1.trans (a c h1 h2).1, (b c h1 h2).2.trans (a c h1 h2).2⟩
theorem vh_push {B : Nat} {s : hS} {u : Nat} {H : Nat → hS} (h8 : u ≤ 8) (v : aV B s) (vh : ∀ i, i < u → aV B (H i)) : ∀ i, i < uPush u → aV B (hPush u H s i) := fun i hi => by
  unfold hPush
  unfold uPush at hi
  by_cases e : u = 8
  · rw [if_pos e]
    rw [if_pos e] at hi
    by_cases e7 : i = 7
    · rw [if_pos e7]; exact v
    · rw [if_neg e7]; exact vh (i + 1) (by omega)
  · rw [if_neg e]
    rw [if_neg e] at hi
    by_cases e7 : i = u
    · rw [e7, va_up_self]; exact v
    · rw [va_up_ne _ _ e7]; exact vh i (by omega)
theorem lc_48n {n : Nat} (hn31 : n = 31) {B : Nat} {M : xM} {sc : Nat → Int32} {L : Nat} {I : Int32} (g : gR B M) (hB : 13 ≤ B) (hB2 : B < 2 ^ 28) : ∃ M', f_law_c48 sc L I M = some M' ∧ gR (B + 24400) M' := by
  obtain ⟨s, u, H, sf, sn, ef, fl, Ln, t, O, o, c0, g0, x0, v, vh, vs⟩ := id g
  obtain ⟨⟨a1, a2, a3, a4⟩, ⟨b1, b2, b3, b4, b5, b6, b7, b8⟩, hLn, ht, hef, hfl, hO⟩ := id x0
  have h8 := c0.2.2.2.2.2.2.1
  have ab : aB s := v.1.1.1.1
  obtain ⟨M1, qq, ns1, e1, p1, ee, le⟩ := c_cnt hLn n 0 1 xF M a3 (Nat.zero_le _) (by omega) (by decide) (Nat.le_refl _) (by rw [xF_2000]; omega)
  have e1 : f_X4_countCommands_L4 xF (0 : Int32) (1 : Int32) M = some (if (sC t Ln n 0).2 = none then nI (0 + (sC t Ln n 0).1.length) else (-1 : Int32), M1) := e1
  have le : 2 * (0 + (sC t Ln n 0).1.length) ≤ Ln + 2 := le
  have q1 : cS6 M M1 := fun c h1 h2 => ⟨p1.2.1 c (by omega) (by omega), by rw [p1.1]⟩
  -- the model, from any memory that has the texts
  have mod : ∀ C : xM, cS6 M C → ∃ N7 N', f_X7_runScript C = f_X7_runScript_L34 (N' + 1) (0 : Int32) N7 ∧ mZ C N7 ∧ ((sC t Ln n 0).2 = none → N7.1 9 20 = nI 0 ∧ N7.1 9 17 = nI (0 + (sC t Ln n 0).1.length) ∧ ∀ i, i < (sC t Ln n 0).1.length → mCq N7 t Ln (4 * (0 + i)) ((sC t Ln n 0).1.getD i 0)) ∧ (∀ e, (sC t Ln n 0).2 = some e → N7.1 9 20 = nI 1 ∧ N7.1 9 18 = nI e) := fun C q => m_pre hn31 (by rw [(q 9 (by decide) (by decide)).1]; exact b3) (fun j hj => by rw [(q 15 (by decide) (by decide)).1]; exact ⟨b4 j hj, by have := ht j hj; omega⟩) (by rw [(q 17 (by decide) (by decide)).1]; exact b7) (by rw [(q 18 (by decide) (by decide)).1]; exact b8) hLn
  have six : ∀ C : xM, cS6 M C → sB 6 C O o := fun C q => sB_same a4 (q 6 (by decide) (by decide)).1 (q 7 (by decide) (by decide)).1 (q 7 (by decide) (by decide)).2
  have gmq : ∀ C : xM, cS6 M C → gM C s u H sf sn := fun C q => gM_L g0 (q 10 (by decide) (by decide)).1 (q 14 (by decide) (by decide)).1 (q 13 (by decide) (by decide)).1 (by rw [(q 9 (by decide) (by decide)).1]) (by rw [(q 9 (by decide) (by decide)).1])
  have vL := aV_le v (show B ≤ B + 24400 by omega)
  have vhL : ∀ i, i < u → aV (B + 24400) (H i) := fun i hi => aV_le (vh i hi) (by omega)
  have vsL : sf ≠ 0 → aV (B + 24400) sn := fun h => aV_le (vs h) (by omega)
  unfold f_law_c48 f_L_runScript f_X6_runScript f_X4_countCommands
  rw [e1, Option.bind_some]
  cases hs : (sC t Ln n 0).2 with
  | some e =>
    obtain ⟨eq, el⟩ := ee e hs
    subst eq
    rw [hs] at mod
    rw [if_neg (show ¬ some qq = none by intro x; cases x), if_pos (show (-1 : Int32) = -1 from rfl), x_let_e, p1.2.2.1]
    have bb : sB 4 (sI M1 0 7 (nI qq)) Ln t := sB_same (p1.sb a3) (sI_c (by decide)) (sI_c (by decide)) rfl
    obtain ⟨M2, e2, k2, f2⟩ := c_setg bb
    rw [e2, Option.bind_some, Option.bind_some, x_case_r]
    dsimp only
    rw [if_pos (show "java/lang/IllegalArgumentException" = "java/lang/IllegalArgumentException" from rfl), Option.bind_some]
    have q2 : cS6 M M2 := q1.tr fun c h1 h2 => ⟨by rw [(f2.1 c (by omega) (by omega)).1, sI_c (by omega)], (f2.1 c (by omega) (by omega)).2⟩
    obtain ⟨N7, N', e7, z7, y7, w7⟩ := mod M2 q2
    obtain ⟨w20, w18⟩ := w7 qq rfl
    dsimp only
    rw [e7, f_X7_runScript_L34.eq_2, if_pos (show (0 : Int32) = 0 from rfl), w20, if_neg (show ¬ nI 1 = (0 : Int32) by decide), x_let_e, w18, m_throw, Option.bind_some, Option.bind_some]
    refine ⟨_, lw_any sI_s (fun h => absurd h (show ¬ (1 : Int32) = 0 by decide)), ?_⟩
    have m0 : M2.1 0 = (sI M1 0 7 (nI qq)).1 0 := (f2.1 0 (by decide) (by decide)).1
    refine gR_fin (C := M2) (s := s) (u := u) (H := H) (sf := sf) (sn := sn) (ef := qq + 1) (fl := fl) (t := t) (O := O) (o := o) ?_ ?_ z7.1 (fun c h1 h2 h3 h4 h5 h6 => ?_) ?_ ?_ k2 (six M2 q2) ?_ ?_ ?_ ?_ ?_ ?_ ?_ (by omega) hfl hO vL vhL vsL
    · refine gC_w (gC_pM c0 p1) ?_ ?_ (fun c hc => ?_) (fun c hc => ?_)
      · rw [m0, sI_k (by decide)]
      · rw [m0, sI_k (by decide)]
      · exact (f2.1 c (by omega) (by omega)).2
      · rw [(f2.1 c (by omega) (by omega)).1, sI_c (by omega)]
    · refine gM_L (gmq M2 q2) ?_ ?_ ?_ ?_ ?_
      · rw [sI_c (by decide), sI_c (by decide)]; exact z7.2.1 10 (by decide) (by decide) (by decide)
      · rw [sI_c (by decide), sI_c (by decide)]; exact z7.2.1 14 (by decide) (by decide) (by decide)
      · rw [sI_c (by decide), sI_c (by decide)]; exact z7.2.1 13 (by decide) (by decide) (by decide)
      · rw [sI_k (by decide), sI_k (by decide)]; exact z7.2.2.1 6 (by decide) (by decide) (by decide) (by decide) (by decide) (by decide)
      · rw [sI_k (by decide), sI_k (by decide)]; exact z7.2.2.1 4 (by decide) (by decide) (by decide) (by decide) (by decide) (by decide)
    · rw [sI_c h1, sI_c h1]; exact z7.2.1 c h1 h3 h6
    · rw [m0, sI_s]; rfl
    · rw [m0, sI_k (by decide), p1.2.1 0 (by decide) (by decide)]; exact a2
    · rw [sI_k (by decide), sI_s]; rfl
    · rw [sI_k (by decide), sI_k (by decide), z7.2.2.1 8 (by decide) (by decide) (by decide) (by decide) (by decide) (by decide), (q2 9 (by decide) (by decide)).1]; exact b2
    · rw [sI_k (by decide), sI_k (by decide)]; exact z7.2.2.2.1
    · rw [sI_k (by decide), sI_k (by decide), z7.2.2.1 13 (by decide) (by decide) (by decide) (by decide) (by decide) (by decide), (q2 9 (by decide) (by decide)).1]; exact b5
    · rw [(q2 16 (by decide) (by decide)).1]; exact b6
    · rw [(q2 17 (by decide) (by decide)).1]; exact b7
    · rw [(q2 18 (by decide) (by decide)).1]; exact b8
  | none =>
    rw [hs] at mod
    rw [if_pos rfl]
    have hT : (sC t Ln n 0).1.length ≤ 31 := by omega
    have g1 := gC_pM c0 p1
    have ge1 : 22 ≤ M1.2.1 0 1 := g1.ge (i := 1) (by decide)
    obtain ⟨M2, e2, g2, r2, f2, t2⟩ := w_copy g1
    have e02 : M2.2.1 0 1 = M1.2.1 0 1 := by rw [t2]
    have q2 : cS6 M M2 := q1.tr fun c h1 h2 => f2.1 c (by omega)
    have b42 : sB 4 M2 Ln t := sB_same (p1.sb a3) (f2.1 4 (by omega)).1 (f2.1 5 (by omega)).1 (f2.1 5 (by omega)).2
    obtain ⟨M3, e3, g3, r3, t3⟩ := c_try hLn (T := 0 + (sC t Ln n 0).1.length) (by omega) n 0 0 xF B M2 s g2 (by rw [e02]; exact r2) b42 v hB (by omega) (Nat.zero_le _) (by omega) hs rfl (by rw [xF_2000]; omega)
    have e3 : f_X6_tryCommands_L4 (nI (0 + (sC t Ln n 0).1.length)) xF (0 : Int32) (0 : Int32) M2 = _ := e3
    obtain ⟨M4, e4, k4, f4⟩ := c_setg (t3.sb b42)
    have g4 : gC M4 s u H sf sn := gC_sB (by decide) (by decide) g3 f4
    have t36 : cS6 M2 M3 := fun c h1 h2 => t3.1 c (by omega) h2
    have t46 : cS6 M3 M4 := fun c h1 h2 => f4.1 c (by omega) (by omega)
    have q4 : cS6 M M4 := q2.tr (t36.tr t46)
    have z0 : M4.1 0 = M.1 0 := by rw [(f4.1 0 (by decide) (by decide)).1, t3.2.1, (f2.1 0 (by omega)).1, p1.2.1 0 (by decide) (by decide)]
    unfold f_X6_tryCommands
    rw [if_neg (show ¬ nI (0 + (sC t Ln n 0).1.length) = (-1 : Int32) from pi_ne1 (by omega)), if_pos g1.k1, if_pos g1.k0, e2, Option.bind_some, e3, Option.bind_some, e4, Option.bind_some]
    have V := aR_V (t := t) (L := Ln) (sC t Ln n 0).1 B s v hB (by omega)
    by_cases x : (aR t Ln (sC t Ln n 0).1 s).1 = (sC t Ln n 0).1.length
    · rw [if_pos x, if_pos (show (-1 : Int32) = -1 from rfl)]
      have e04 : M4.2.1 0 1 = M3.2.1 0 1 := by rw [(f4.1 0 (by decide) (by decide)).2]
      have ge3 : 22 ≤ M3.2.1 0 1 := g3.ge (i := 1) (by decide)
      have r4 : cR (M4.2.1 0 1) M4 (aR t Ln (sC t Ln n 0).1 s).2 := by
        rw [e04]
        exact cR_same (fun c h1 h2 => f4.1 c (by omega) (by omega)) (r3 x)
      obtain ⟨M5, e5, g5, k5⟩ := c_commitY g4 r4 (v := 0 + (sC t Ln n 0).1.length) (by omega)
      rw [e5, Option.bind_some, x_case_l]
      dsimp only
      rw [Option.bind_some, x_case_l]
      dsimp only
      rw [x_let_e, Option.bind_some]
      have q5 : cS6 M (sJ M5 (nI (0 + (sC t Ln n 0).1.length)).toInt64) := q4.tr fun c h1 h2 => k5.1 c (by omega) h2
      obtain ⟨N7, N', e7, z7, y7, w7⟩ := mod _ q5
      obtain ⟨y20, y17, yc⟩ := y7 rfl
      dsimp only
      have d10 : dH (N7.1 10) s (aW s) := by
        rw [z7.2.1 10 (by decide) (by decide) (by decide), (q5 10 (by decide) (by decide)).1]
        exact g0.1
      obtain ⟨N8, e8, m8, r8⟩ := m_try (T := 0 + (sC t Ln n 0).1.length) (by omega) (sC t Ln n 0).1 0 xF B N7 s d10 z7.2.2.2.2.1 y17 rfl yc v hB (by omega) (by rw [xF_2000]; omega)
      have e8 : f_X7_runScript_L115 xF (0 : Int32) N7 = _ := e8
      rw [e7, f_X7_runScript_L34.eq_2, if_pos (show (0 : Int32) = 0 from rfl), y20, if_pos (show nI 0 = (0 : Int32) from rfl), e8, if_pos x]
      obtain ⟨d8, h98⟩ := r8 x
      have k9 : ∀ k, k ≠ 9 → k ≠ 11 → k ≠ 17 → k ≠ 18 → k ≠ 19 → k ≠ 20 → N8.1 9 k = M.1 9 k := fun k h1 h2 h3 h4 h5 h6 => by
        rw [m8.2.2 k h1, z7.2.2.1 k h1 h2 h3 h4 h5 h6, (q5 9 (by decide) (by decide)).1]
      have kc : ∀ c, c ≠ 9 → c ≠ 10 → c ≠ 11 → c ≠ 19 → N8.1 c = (sJ M5 (nI (0 + (sC t Ln n 0).1.length)).toInt64).1 c := fun c h1 h2 h3 h4 => by
        rw [m8.2.1 c h1 h2, z7.2.1 c h1 h3 h4]
      have gm8 : gM N8 (aR t Ln (sC t Ln n 0).1 s).2 u H sf sn := by
        obtain ⟨j1, j2, j3, j4, j5, j6, j7⟩ := g0
        have n14 : N8.1 14 = M.1 14 := by rw [kc 14 (by decide) (by decide) (by decide) (by decide), (q5 14 (by decide) (by decide)).1]
        have n13 : N8.1 13 = M.1 13 := by rw [kc 13 (by decide) (by decide) (by decide) (by decide), (q5 13 (by decide) (by decide)).1]
        refine ⟨d8, ?_, ?_, ?_, j5, ?_, j7⟩
        · rw [n14]; exact j2
        · rw [n13]; exact j3
        · rw [k9 6 (by decide) (by decide) (by decide) (by decide) (by decide) (by decide)]; exact j4
        · rw [k9 4 (by decide) (by decide) (by decide) (by decide) (by decide) (by decide)]; exact j6
      have d11 : dH (N8.1 11) s (aW s) := by
        rw [m8.2.1 11 (by decide) (by decide)]
        refine dH_ext g0.1 ab.1 ab.2.1 fun k hk => ?_
        rw [z7.2.2.2.2.2 k hk, (q5 10 (by decide) (by decide)).1]
      obtain ⟨N9, e9, gm9, l9, h99⟩ := m_changed gm8 (bU u vh vs) ab d11 h98 (nI (0 + (sC t Ln n 0).1.length))
      rw [e9, Option.bind_some, Option.bind_some]
      dsimp only
      have n2 : N9.2 = (sJ M5 (nI (0 + (sC t Ln n 0).1.length)).toInt64).2 := l9.1.trans (m8.1.trans z7.1)
      have v' := aV_le V (show B + 400 * (sC t Ln n 0).1.length ≤ B + 24400 by omega)
      have z5 : ∀ k, k ≠ 3 → k ≠ 5 → (sJ M5 (nI (0 + (sC t Ln n 0).1.length)).toInt64).1 0 k = M.1 0 k := fun k h1 h2 => by
        show M5.1 0 k = _
        rw [k5.2.2 k h1 h2, z0]
      have k45 : sB 4 (sJ M5 (nI (0 + (sC t Ln n 0).1.length)).toInt64) 0 t := sB_same k4 (k5.1 4 (by decide) (by decide)).1 (k5.1 5 (by decide) (by decide)).1 (k5.1 5 (by decide) (by decide)).2
      refine ⟨N9, lw_any (a := 0) h99 (fun _ => by rw [n2]; rfl), ?_⟩
      refine gR_fin (C := sJ M5 (nI (0 + (sC t Ln n 0).1.length)).toInt64) (ef := ef) (fl := fl) (t := t) (O := O) (o := o) g5 gm9 n2 (fun c h1 h2 h3 h4 h5 h6 => ?_) ?_ ?_ k45 (six _ q5) ?_ ?_ ?_ ?_ ?_ ?_ ?_ hef hfl hO v' (vh_push h8 vL vhL) vsL
      · rw [l9.2.1 c h1 h2 h3 h4 h5, kc c h1 h2 h3 h6]
      · rw [z5 7 (by decide) (by decide)]; exact a1
      · rw [z5 8 (by decide) (by decide)]; exact a2
      · rw [l9.2.2 7 (by decide) (by decide), k9 7 (by decide) (by decide) (by decide) (by decide) (by decide) (by decide)]; exact b1
      · rw [l9.2.2 8 (by decide) (by decide), k9 8 (by decide) (by decide) (by decide) (by decide) (by decide) (by decide)]; exact b2
      · rw [l9.2.2 11 (by decide) (by decide), m8.2.2 11 (by decide)]; exact z7.2.2.2.1
      · rw [l9.2.2 13 (by decide) (by decide), k9 13 (by decide) (by decide) (by decide) (by decide) (by decide) (by decide)]; exact b5
      · rw [(q5 16 (by decide) (by decide)).1]; exact b6
      · rw [(q5 17 (by decide) (by decide)).1]; exact b7
      · rw [(q5 18 (by decide) (by decide)).1]; exact b8
    · have alt := aR_le (t := t) (L := Ln) (sC t Ln n 0).1 s
      rw [if_neg x, if_neg (show ¬ nI (0 + (aR t Ln (sC t Ln n 0).1 s).1) = (-1 : Int32) from pi_ne1 (by omega)), x_let_e, Option.bind_some, x_case_r]
      dsimp only
      rw [if_neg (show ¬ "java/lang/IllegalStateException" = "java/lang/IllegalArgumentException" by decide), if_pos (show "java/lang/IllegalStateException" = "java/lang/IllegalStateException" from rfl), Option.bind_some]
      have q5 : cS6 M (sI M4 0 8 (nI (0 + (aR t Ln (sC t Ln n 0).1 s).1))) := q4.tr fun c h1 h2 => ⟨sI_c (by omega), rfl⟩
      obtain ⟨N7, N', e7, z7, y7, w7⟩ := mod _ q5
      obtain ⟨y20, y17, yc⟩ := y7 rfl
      dsimp only
      have d10 : dH (N7.1 10) s (aW s) := by
        rw [z7.2.1 10 (by decide) (by decide) (by decide), (q5 10 (by decide) (by decide)).1]
        exact g0.1
      obtain ⟨N8, e8, m8, r8⟩ := m_try (T := 0 + (sC t Ln n 0).1.length) (by omega) (sC t Ln n 0).1 0 xF B N7 s d10 z7.2.2.2.2.1 y17 rfl yc v hB (by omega) (by rw [xF_2000]; omega)
      have e8 : f_X7_runScript_L115 xF (0 : Int32) N7 = _ := e8
      have e9 := m_rst (v := nI (0 + (aR t Ln (sC t Ln n 0).1 s).1)) 159 0 xF N8 rfl (by rw [xF_2000]; omega)
      have e9 : f_X7_runScript_L139 (nI (0 + (aR t Ln (sC t Ln n 0).1 s).1)) xF (0 : Int32) N8 = _ := e9
      rw [e7, f_X7_runScript_L34.eq_2, if_pos (show (0 : Int32) = 0 from rfl), y20, if_pos (show nI 0 = (0 : Int32) from rfl), e8, if_neg x, e9, Option.bind_some]
      dsimp only
      have k9 : ∀ k, k ≠ 9 → k ≠ 11 → k ≠ 17 → k ≠ 18 → k ≠ 19 → k ≠ 20 → N8.1 9 k = M.1 9 k := fun k h1 h2 h3 h4 h5 h6 => by
        rw [m8.2.2 k h1, z7.2.2.1 k h1 h2 h3 h4 h5 h6, (q5 9 (by decide) (by decide)).1]
      have kc : ∀ c, c ≠ 9 → c ≠ 10 → c ≠ 11 → c ≠ 19 → N8.1 c = (sI M4 0 8 (nI (0 + (aR t Ln (sC t Ln n 0).1 s).1))).1 c := fun c h1 h2 h3 h4 => by
        rw [m8.2.1 c h1 h2, z7.2.1 c h1 h3 h4]
      have n2 : N8.2 = (sI M4 0 8 (nI (0 + (aR t Ln (sC t Ln n 0).1 s).1))).2 := m8.1.trans z7.1
      refine ⟨_, lw_any sI_s (fun h => absurd h (show ¬ (2 : Int32) = 0 by decide)), ?_⟩
      refine gR_fin (C := sI M4 0 8 (nI (0 + (aR t Ln (sC t Ln n 0).1 s).1))) (s := s) (u := u) (H := H) (sf := sf) (sn := sn) (ef := ef) (fl := 0 + (aR t Ln (sC t Ln n 0).1 s).1 + 1) (t := t) (O := O) (o := o) ?_ ?_ n2 (fun c h1 h2 h3 h4 h5 h6 => ?_) ?_ ?_ ?_ (six _ q5) ?_ ?_ ?_ ?_ ?_ ?_ ?_ hef (by omega) hO vL vhL vsL
      · exact gC_w g4 (sI_k (by decide)) (sI_k (by decide)) (fun c hc => rfl) (fun c hc => sI_c (by omega))
      · obtain ⟨j1, j2, j3, j4, j5, j6, j7⟩ := g0
        have n14 : N8.1 14 = M.1 14 := by rw [kc 14 (by decide) (by decide) (by decide) (by decide), (q5 14 (by decide) (by decide)).1]
        have n13 : N8.1 13 = M.1 13 := by rw [kc 13 (by decide) (by decide) (by decide) (by decide), (q5 13 (by decide) (by decide)).1]
        refine ⟨?_, ?_, ?_, ?_, j5, ?_, j7⟩
        · rw [sI_c (by decide), sI_c (by decide), mG_s]
          refine dH_ext j1 ab.1 ab.2.1 fun k hk => ?_
          rw [if_pos ⟨Nat.zero_le _, hk⟩, m8.2.1 11 (by decide) (by decide), z7.2.2.2.2.2 k hk, (q5 10 (by decide) (by decide)).1]
        · rw [sI_c (by decide), sI_c (by decide), mG_n (by decide), n14]; exact j2
        · rw [sI_c (by decide), sI_c (by decide), mG_n (by decide), n13]; exact j3
        · rw [sI_k (by decide), sI_k (by decide), mG_n (by decide), k9 6 (by decide) (by decide) (by decide) (by decide) (by decide) (by decide)]; exact j4
        · rw [sI_k (by decide), sI_k (by decide), mG_n (by decide), k9 4 (by decide) (by decide) (by decide) (by decide) (by decide) (by decide)]; exact j6
      · rw [sI_c h1, sI_c h1, mG_n h2, kc c h1 h2 h3 h6]
      · rw [sI_k (by decide), z0]; exact a1
      · rw [sI_s]; rfl
      · exact sB_same k4 (sI_c (by decide)) (sI_c (by decide)) rfl
      · rw [sI_k (by decide), sI_k (by decide), mG_n (by decide), k9 7 (by decide) (by decide) (by decide) (by decide) (by decide) (by decide)]; exact b1
      · rw [sI_k (by decide), sI_s]; rfl
      · rw [sI_k (by decide), sI_k (by decide), mG_n (by decide), m8.2.2 11 (by decide)]; exact z7.2.2.2.1
      · rw [sI_k (by decide), sI_k (by decide), mG_n (by decide), k9 13 (by decide) (by decide) (by decide) (by decide) (by decide) (by decide)]; exact b5
      · rw [(q5 16 (by decide) (by decide)).1]; exact b6
      · rw [(q5 17 (by decide) (by decide)).1]; exact b7
      · rw [(q5 18 (by decide) (by decide)).1]; exact b8
theorem lc_48 {B : Nat} {M : xM} {sc : Nat → Int32} {L : Nat} {I : Int32} (g : gR B M) (hB : 13 ≤ B) (hB2 : B < 2 ^ 28) : ∃ M', f_law_c48 sc L I M = some M' ∧ gR (B + 24400) M' := lc_48n rfl g hB hB2
end RT
