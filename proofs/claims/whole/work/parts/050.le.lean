/-! the law's entry: two objects and two rows are made -/
section CWE
variable {G : xG} {p : Program} {l : Launch} {e : Env} {R : Room} {s : State} {m : MethodId} {args : Array Value} {below : List Frame} {meth : Method} {c : Code} {nL : Nat} {Q : State → Prop} {A : Nat → Prop} {k n : Nat} {ws st' : va_W} {pc : Nat} {lv : List (Nat × Value)} {st rest : List Value} {cc : ByteArray} {Ts : List Cond} {own : String}
theorem cw_astore_n (C : cwC G p s m args meth c cc nL Ts own A) {z : Fin 4} {i x : Nat} {lv' : List (Nat × Value)} (hdg : decode cc pc = .ok (.astore_n z, 1)) (hi : (z : Nat) = i) (hn : i < nL) (hl : (i, Value.ref x) :: lv.filter (fun q => !(q.1 == i) && !(q.1 + 1 == i && q.2.category == 2)) = lv') (kk : cw G p l e R s m args below meth c nL Q A k n ws (pc + 1) lv' rest) : cw G p l e R s m args below meth c nL Q A k n ws pc lv (.ref x :: rest) :=
  fun H locs ls h1 h2 h3 h4 => lv_astore_n C.1.1 C.1.2.1 hdg hi h4 hn hl (fun ls9 h9 => kk H locs ls9 h1 h2 h3 h9)
theorem cw_astore (C : cwC G p s m args meth c cc nL Ts own A) {i x : Nat} {lv' : List (Nat × Value)} (hdg : decode cc pc = .ok (.astore i, 2)) (hn : i < nL) (hl : (i, Value.ref x) :: lv.filter (fun q => !(q.1 == i) && !(q.1 + 1 == i && q.2.category == 2)) = lv') (kk : cw G p l e R s m args below meth c nL Q A k n ws (pc + 2) lv' rest) : cw G p l e R s m args below meth c nL Q A k n ws pc lv (.ref x :: rest) :=
  fun H locs ls h1 h2 h3 h4 => lv_astore C.1.1 C.1.2.1 hdg h4 hn hl (fun ls9 h9 => kk H locs ls9 h1 h2 h3 h9)
theorem cw_istore (C : cwC G p s m args meth c cc nL Ts own A) {i : Nat} {x : Int32} {lv' : List (Nat × Value)} (hdg : decode cc pc = .ok (.istore i, 2)) (hn : i < nL) (hl : (i, Value.int x) :: lv.filter (fun q => !(q.1 == i) && !(q.1 + 1 == i && q.2.category == 2)) = lv') (kk : cw G p l e R s m args below meth c nL Q A k n ws (pc + 2) lv' rest) : cw G p l e R s m args below meth c nL Q A k n ws pc lv (.int x :: rest) :=
  fun H locs ls h1 h2 h3 h4 => lv_istore C.1.1 C.1.2.1 hdg h4 hn hl (fun ls9 h9 => kk H locs ls9 h1 h2 h3 h9)
abbrev lwW (G : xG) (q6 : Nat) (u6 : x6U) (q7 : Nat) (u7 : Nat → Nat) (q8 q9 : Nat) : va_W := x6W G q6 u6 ++ (x7W G q7 u7 ++ [(q8, .inl (xcy G 6, 1, .inr (.inl fun _ => 0))), (q9, .inl (xcy G 7, 1, .inr (.inr (.inr (.inl fun _ => 0)))))])
set_option maxHeartbeats 8000000 in
set_option maxRecDepth 100000 in
theorem law_entry {b : Nat} (C : cwC G p s m args meth c cL_law 9 wsL_law RL A) (X : cX G s) (hAx : ∀ q, A q → xAs G q)
    (kk : ∀ (q6 : Nat) (u6 : x6U) (q7 : Nat) (u7 : Nat → Nat) (q8 q9 : Nat), x6P u6 → cw G p l e room_1 s m args below meth c 9 Q A 253 4170 (lwW G q6 u6 q7 u7 q8 q9) 28 [(5, .int 0), (4, .ref q9), (3, .ref q8), (2, .ref q7), (1, .ref q6), (0, .ref b)] []) :
    cw G p l e room_1 s m args below meth c 9 Q A 0 0 [] 0 [(0, .ref b)] [] := by
  have iX6 : ∀ w ∈ wsX60, w ∈ wsL_law := by decide +kernel
  have iX7 : ∀ w ∈ wsX70, w ∈ wsL_law := by decide +kernel
  refine cw_new (ci := 8) (fs := [.null, .null, .null, .int 0, .null, .int 0, .null, .int 0, .int 0, .null, .null]) C iX6 tyX6 tyX6_ok (by decide +kernel) (by decide +kernel) (by decide +kernel) rfl (fun j hj => match j, hj with | 0, _ => rfl | 1, _ => rfl | 2, _ => rfl | 3, _ => rfl | 4, _ => rfl | 5, _ => rfl | 6, _ => rfl | 7, _ => rfl | 8, _ => rfl | 9, _ => rfl | 10, _ => rfl) (Nat.le_of_ble_eq_true rfl) (Nat.le_of_ble_eq_true rfl) dL_law_0 (fun q6 => ?_)
  refine cw_dup C dL_law_3 rfl ?_
  refine cw_call (st' := []) C X hAx (t_X6_init (h0 := q6)) (cwI 0 C.1.2.2.2.2 gL_law_X6_init rfl rfl rfl (C.1.2.2.2.2 _ (by decide +kernel)) (C.1.2.2.2.2 _ (by decide +kernel)) (C.1.2.2.2.2 _ (by decide +kernel)) rfl (by decide +kernel) ⟨Nat.le_of_ble_eq_true rfl, Nat.le_of_ble_eq_true rfl⟩) rfl rfl rfl (Nat.le_of_ble_eq_true rfl) dL_law_4 ⟨Nat.le_of_ble_eq_true rfl, Nat.le_of_ble_eq_true rfl⟩ (fun u6 hu6 => ?_)
  refine cw_astore_n (lv' := [(1, .ref q6), (0, .ref b)]) C dL_law_7 rfl (by decide) rfl ?_
  refine cw_new (ci := 9) (fs := [.null, .null, .null, .null, .int 0, .null, .int 0, .int 0, .int 0, .int 0, .null, .int 0, .null, .int 0, .null, .null, .null, .int 0, .int 0, .int 0, .int 0]) C iX7 tyX7 tyX7_ok (by decide +kernel) (by decide +kernel) (by decide +kernel) rfl (fun j hj => by rcases (show j = 0 ∨ j = 1 ∨ j = 2 ∨ j = 3 ∨ j = 4 ∨ j = 5 ∨ j = 6 ∨ j = 7 ∨ j = 8 ∨ j = 9 ∨ j = 10 ∨ j = 11 ∨ j = 12 ∨ j = 13 ∨ j = 14 ∨ j = 15 ∨ j = 16 ∨ j = 17 ∨ j = 18 ∨ j = 19 ∨ j = 20 by omega) with rfl | rfl | rfl | rfl | rfl | rfl | rfl | rfl | rfl | rfl | rfl | rfl | rfl | rfl | rfl | rfl | rfl | rfl | rfl | rfl | rfl <;> rfl) (Nat.le_of_ble_eq_true rfl) (Nat.le_of_ble_eq_true rfl) dL_law_8 (fun q7 => ?_)
  refine cw_dup C dL_law_11 rfl ?_
  refine cw_call (st' := [] ++ x6W G q6 u6) C X hAx (t_X7_init (h0 := q7)) (cwI 0 C.1.2.2.2.2 gL_law_X7_init rfl rfl rfl (C.1.2.2.2.2 _ (by decide +kernel)) (C.1.2.2.2.2 _ (by decide +kernel)) (C.1.2.2.2.2 _ (by decide +kernel)) rfl (by decide +kernel) ⟨Nat.le_of_ble_eq_true rfl, Nat.le_of_ble_eq_true rfl⟩) rfl rfl rfl (Nat.le_of_ble_eq_true rfl) dL_law_12 ⟨Nat.le_of_ble_eq_true rfl, Nat.le_of_ble_eq_true rfl⟩ (fun u7 hu7 => ?_)
  refine cw_astore_n (lv' := [(2, .ref q7), (1, .ref q6), (0, .ref b)]) C dL_law_15 rfl (by decide) rfl ?_
  refine cw_iconst (v := 1) C dL_law_16 (by decide) ?_
  refine cw_newa (a0 := (1, .inr (.inl fun _ => 0))) C 6 rfl (by decide +kernel) rfl (fun _ => rfl) (by decide) rfl (by decide) (Nat.le_of_ble_eq_true rfl) (Nat.le_of_ble_eq_true rfl) dL_law_17 (fun q8 => ?_)
  refine cw_astore_n (lv' := [(3, .ref q8), (2, .ref q7), (1, .ref q6), (0, .ref b)]) C dL_law_19 rfl (by decide) rfl ?_
  refine cw_iconst (v := 1) C dL_law_20 (by decide) ?_
  refine cw_newa (a0 := (1, .inr (.inr (.inr (.inl fun _ => 0))))) C 7 rfl (by decide +kernel) rfl (fun _ => rfl) (by decide) rfl (by decide) (Nat.le_of_ble_eq_true rfl) (Nat.le_of_ble_eq_true rfl) dL_law_21 (fun q9 => ?_)
  refine cw_astore (lv' := [(4, .ref q9), (3, .ref q8), (2, .ref q7), (1, .ref q6), (0, .ref b)]) C dL_law_23 (by decide) rfl ?_
  refine cw_iconst (v := 0) C dL_law_25 (by decide) ?_
  refine cw_istore (lv' := [(5, .int 0), (4, .ref q9), (3, .ref q8), (2, .ref q7), (1, .ref q6), (0, .ref b)]) C dL_law_26 (by decide) rfl ?_
  refine cw_widen (k' := 253) (n' := 4170) (Nat.le_of_ble_eq_true rfl) (Nat.le_of_ble_eq_true rfl) ?_
  refine cw_eq (ws' := lwW G q6 u6 q7 u7 q8 q9) (by simp only [List.append_assoc, List.nil_append, List.cons_append]) ?_
  exact kk q6 u6 q7 u7 q8 q9 hu6
end CWE
