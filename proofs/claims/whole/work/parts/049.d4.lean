/-! X7_init.<init> -/
def LX7_init_q8 : List Int32 := [97, 100, 100, 32, 111, 112, 101, 110, 32, 99, 108, 111, 115, 101, 32, 115, 119, 97, 112, 32, 115, 105, 116, 32, 115, 116, 97, 110, 100, 32, 114, 101, 109, 111, 118, 101, 32, 99, 97, 108, 108, 97, 100, 118, 97, 110, 99, 101]
def LX7_init_q9 : List Int32 := [0, 4, 9, 15, 20, 24, 30, 37, 41, 48]
def x7W (G : xG) (h0 : Nat) (u : Nat → Nat) : va_W := [(h0, .inr (9, [.ref (u 1), .ref (u 2), .ref (u 3), .ref (u 4), .int 0, .ref (u 5), .int 0, .int (-1), .int (-1), .int 0, .ref (u 6), .int 0, .ref (u 7), .int 0, .ref (u 8), .ref (u 9), .ref (u 10), .int 0, .int 0, .int 0, .int 0])), ((u 1), .inl (xcy G 0, 159, .inl (upd (upd (upd (fun _ => 0) 14 (-1)) 19 (-1)) 24 (-1)))), ((u 2), .inl (xcy G 0, 159, .inl fun _ => 0)), ((u 3), .inl (xcy G 0, 159, .inl fun _ => 0)), ((u 4), .inl (xcy G 0, 159, .inl fun _ => 0)), ((u 5), .inl (xcy G 0, 1272, .inl fun _ => 0)), ((u 6), .inl (xcy G 0, 60, .inl fun _ => 0)), ((u 7), .inl (xcy G 0, 160, .inl fun _ => 0)), ((u 8), .inl (xcy G 2, 48, .inl (xv_tab LX7_init_q8 48))), ((u 9), .inl (xcy G 0, 10, .inl (xv_tab LX7_init_q9 10))), ((u 10), .inl (xcy G 0, 244, .inl fun _ => 0))]
abbrev rm_X7_init : Room := { frames := 2, cells := 10, slots := 2430, locals := 60 }
set_option maxHeartbeats 8000000 in
set_option maxRecDepth 100000 in
theorem t_X7_init {l : Launch} {G : xG} {h0 : Nat} : ciMet G l yX7_init wsX7_init rm_X7_init 10 2430 h0 [] (.inr (9, [.null, .null, .null, .null, .int 0, .null, .int 0, .int 0, .int 0, .int 0, .null, .int 0, .null, .int 0, .null, .null, .null, .int 0, .int 0, .int 0, .int 0])) (fun _ => True) (x7W G h0) := by
  refine ci_of (cc := cX7_init) (maxL := 2) (RC := RX7) (by decide) rfl rfl rfl rfl ?_
  intro p e s m below meth c A C X hAx hAe hr hlk
  have iX7 : ∀ w ∈ wsX70, w ∈ wsX7_init := by decide +kernel
  show cw G p l e rm_X7_init s m (Value.ref h0 :: []).toArray below meth c 2 _ A 0 0 [(h0, .inr (9, [.null, .null, .null, .null, .int 0, .null, .int 0, .int 0, .int 0, .int 0, .null, .int 0, .null, .int 0, .null, .null, .null, .int 0, .int 0, .int 0, .int 0]))] 0 [(0, .ref h0)] []
  refine cw_aload_n C 0 dX7_init_0 rfl ?_
  refine cw_obj C (by decide +kernel) (by decide +kernel) (by decide +kernel) dX7_init_1 (Nat.le_of_ble_eq_true rfl) (Nat.le_of_ble_eq_true rfl) ?_
  refine cw_aload_n C 0 dX7_init_4 rfl ?_
  refine cw_sipush (v := 159) C dX7_init_5 (by decide) ?_
  refine cw_newa (a0 := (159, .inl fun _ => 0)) C 0 rfl (by decide +kernel) rfl (fun _ => rfl) (by decide) rfl (by decide) (Nat.le_of_ble_eq_true rfl) (Nat.le_of_ble_eq_true rfl) dX7_init_8 (fun q1 => ?_)
  refine cw_eq (ws' := ((h0, .inr (9, [.null, .null, .null, .null, .int 0, .null, .int 0, .int 0, .int 0, .int 0, .null, .int 0, .null, .int 0, .null, .null, .null, .int 0, .int 0, .int 0, .int 0])) :: ((q1, .inl (xcy G 0, 159, .inl fun _ => 0)) :: []) : va_W)) (by first | rfl | simp only [List.cons_append, List.append_assoc, List.nil_append]) ?_
  refine cw_putF C (by decide) iX7 tyX7 tyX7_ok nmX7 0 rfl rfl 0 (by decide) (by decide +kernel) rfl rfl rfl rfl rfl rfl (Nat.le_of_ble_eq_true rfl) dX7_init_10 ?_
  refine cw_eq (ws' := ((h0, .inr (9, [.ref q1, .null, .null, .null, .int 0, .null, .int 0, .int 0, .int 0, .int 0, .null, .int 0, .null, .int 0, .null, .null, .null, .int 0, .int 0, .int 0, .int 0])) :: ((q1, .inl (xcy G 0, 159, .inl fun _ => 0)) :: []) : va_W)) (by first | rfl | simp only [List.cons_append, List.append_assoc, List.nil_append]) ?_
  refine cw_aload_n C 0 dX7_init_13 rfl ?_
  refine cw_sipush (v := 159) C dX7_init_14 (by decide) ?_
  refine cw_newa (a0 := (159, .inl fun _ => 0)) C 0 rfl (by decide +kernel) rfl (fun _ => rfl) (by decide) rfl (by decide) (Nat.le_of_ble_eq_true rfl) (Nat.le_of_ble_eq_true rfl) dX7_init_17 (fun q2 => ?_)
  refine cw_eq (ws' := ((h0, .inr (9, [.ref q1, .null, .null, .null, .int 0, .null, .int 0, .int 0, .int 0, .int 0, .null, .int 0, .null, .int 0, .null, .null, .null, .int 0, .int 0, .int 0, .int 0])) :: ((q1, .inl (xcy G 0, 159, .inl fun _ => 0)) :: ((q2, .inl (xcy G 0, 159, .inl fun _ => 0)) :: [])) : va_W)) (by first | rfl | simp only [List.cons_append, List.append_assoc, List.nil_append]) ?_
  refine cw_putF C (by decide) iX7 tyX7 tyX7_ok nmX7 0 rfl rfl 1 (by decide) (by decide +kernel) rfl rfl rfl rfl rfl rfl (Nat.le_of_ble_eq_true rfl) dX7_init_19 ?_
  refine cw_eq (ws' := ((h0, .inr (9, [.ref q1, .ref q2, .null, .null, .int 0, .null, .int 0, .int 0, .int 0, .int 0, .null, .int 0, .null, .int 0, .null, .null, .null, .int 0, .int 0, .int 0, .int 0])) :: ((q1, .inl (xcy G 0, 159, .inl fun _ => 0)) :: ((q2, .inl (xcy G 0, 159, .inl fun _ => 0)) :: [])) : va_W)) (by first | rfl | simp only [List.cons_append, List.append_assoc, List.nil_append]) ?_
  refine cw_aload_n C 0 dX7_init_22 rfl ?_
  refine cw_sipush (v := 159) C dX7_init_23 (by decide) ?_
  refine cw_newa (a0 := (159, .inl fun _ => 0)) C 0 rfl (by decide +kernel) rfl (fun _ => rfl) (by decide) rfl (by decide) (Nat.le_of_ble_eq_true rfl) (Nat.le_of_ble_eq_true rfl) dX7_init_26 (fun q3 => ?_)
  refine cw_eq (ws' := ((h0, .inr (9, [.ref q1, .ref q2, .null, .null, .int 0, .null, .int 0, .int 0, .int 0, .int 0, .null, .int 0, .null, .int 0, .null, .null, .null, .int 0, .int 0, .int 0, .int 0])) :: ((q1, .inl (xcy G 0, 159, .inl fun _ => 0)) :: ((q2, .inl (xcy G 0, 159, .inl fun _ => 0)) :: ((q3, .inl (xcy G 0, 159, .inl fun _ => 0)) :: []))) : va_W)) (by first | rfl | simp only [List.cons_append, List.append_assoc, List.nil_append]) ?_
  refine cw_putF C (by decide) iX7 tyX7 tyX7_ok nmX7 0 rfl rfl 2 (by decide) (by decide +kernel) rfl rfl rfl rfl rfl rfl (Nat.le_of_ble_eq_true rfl) dX7_init_28 ?_
  refine cw_eq (ws' := ((h0, .inr (9, [.ref q1, .ref q2, .ref q3, .null, .int 0, .null, .int 0, .int 0, .int 0, .int 0, .null, .int 0, .null, .int 0, .null, .null, .null, .int 0, .int 0, .int 0, .int 0])) :: ((q1, .inl (xcy G 0, 159, .inl fun _ => 0)) :: ((q2, .inl (xcy G 0, 159, .inl fun _ => 0)) :: ((q3, .inl (xcy G 0, 159, .inl fun _ => 0)) :: []))) : va_W)) (by first | rfl | simp only [List.cons_append, List.append_assoc, List.nil_append]) ?_
  refine cw_aload_n C 0 dX7_init_31 rfl ?_
  refine cw_sipush (v := 159) C dX7_init_32 (by decide) ?_
  refine cw_newa (a0 := (159, .inl fun _ => 0)) C 0 rfl (by decide +kernel) rfl (fun _ => rfl) (by decide) rfl (by decide) (Nat.le_of_ble_eq_true rfl) (Nat.le_of_ble_eq_true rfl) dX7_init_35 (fun q4 => ?_)
  refine cw_eq (ws' := ((h0, .inr (9, [.ref q1, .ref q2, .ref q3, .null, .int 0, .null, .int 0, .int 0, .int 0, .int 0, .null, .int 0, .null, .int 0, .null, .null, .null, .int 0, .int 0, .int 0, .int 0])) :: ((q1, .inl (xcy G 0, 159, .inl fun _ => 0)) :: ((q2, .inl (xcy G 0, 159, .inl fun _ => 0)) :: ((q3, .inl (xcy G 0, 159, .inl fun _ => 0)) :: ((q4, .inl (xcy G 0, 159, .inl fun _ => 0)) :: [])))) : va_W)) (by first | rfl | simp only [List.cons_append, List.append_assoc, List.nil_append]) ?_
  refine cw_putF C (by decide) iX7 tyX7 tyX7_ok nmX7 0 rfl rfl 3 (by decide) (by decide +kernel) rfl rfl rfl rfl rfl rfl (Nat.le_of_ble_eq_true rfl) dX7_init_37 ?_
  refine cw_eq (ws' := ((h0, .inr (9, [.ref q1, .ref q2, .ref q3, .ref q4, .int 0, .null, .int 0, .int 0, .int 0, .int 0, .null, .int 0, .null, .int 0, .null, .null, .null, .int 0, .int 0, .int 0, .int 0])) :: ((q1, .inl (xcy G 0, 159, .inl fun _ => 0)) :: ((q2, .inl (xcy G 0, 159, .inl fun _ => 0)) :: ((q3, .inl (xcy G 0, 159, .inl fun _ => 0)) :: ((q4, .inl (xcy G 0, 159, .inl fun _ => 0)) :: [])))) : va_W)) (by first | rfl | simp only [List.cons_append, List.append_assoc, List.nil_append]) ?_
  refine cw_aload_n C 0 dX7_init_40 rfl ?_
  refine cw_sipush (v := 1272) C dX7_init_41 (by decide) ?_
  refine cw_newa (a0 := (1272, .inl fun _ => 0)) C 0 rfl (by decide +kernel) rfl (fun _ => rfl) (by decide) rfl (by decide) (Nat.le_of_ble_eq_true rfl) (Nat.le_of_ble_eq_true rfl) dX7_init_44 (fun q5 => ?_)
  refine cw_eq (ws' := ((h0, .inr (9, [.ref q1, .ref q2, .ref q3, .ref q4, .int 0, .null, .int 0, .int 0, .int 0, .int 0, .null, .int 0, .null, .int 0, .null, .null, .null, .int 0, .int 0, .int 0, .int 0])) :: ((q1, .inl (xcy G 0, 159, .inl fun _ => 0)) :: ((q2, .inl (xcy G 0, 159, .inl fun _ => 0)) :: ((q3, .inl (xcy G 0, 159, .inl fun _ => 0)) :: ((q4, .inl (xcy G 0, 159, .inl fun _ => 0)) :: ((q5, .inl (xcy G 0, 1272, .inl fun _ => 0)) :: []))))) : va_W)) (by first | rfl | simp only [List.cons_append, List.append_assoc, List.nil_append]) ?_
  refine cw_putF C (by decide) iX7 tyX7 tyX7_ok nmX7 0 rfl rfl 5 (by decide) (by decide +kernel) rfl rfl rfl rfl rfl rfl (Nat.le_of_ble_eq_true rfl) dX7_init_46 ?_
  refine cw_eq (ws' := ((h0, .inr (9, [.ref q1, .ref q2, .ref q3, .ref q4, .int 0, .ref q5, .int 0, .int 0, .int 0, .int 0, .null, .int 0, .null, .int 0, .null, .null, .null, .int 0, .int 0, .int 0, .int 0])) :: ((q1, .inl (xcy G 0, 159, .inl fun _ => 0)) :: ((q2, .inl (xcy G 0, 159, .inl fun _ => 0)) :: ((q3, .inl (xcy G 0, 159, .inl fun _ => 0)) :: ((q4, .inl (xcy G 0, 159, .inl fun _ => 0)) :: ((q5, .inl (xcy G 0, 1272, .inl fun _ => 0)) :: []))))) : va_W)) (by first | rfl | simp only [List.cons_append, List.append_assoc, List.nil_append]) ?_
  refine cw_aload_n C 0 dX7_init_49 rfl ?_
  refine cw_iconst (v := (-1)) C dX7_init_50 (by decide) ?_
  refine cw_put C iX7 tyX7 tyX7_ok nmX7 0 rfl rfl 7 (by decide) (by decide +kernel) rfl rfl rfl rfl rfl (Nat.le_of_ble_eq_true rfl) dX7_init_51 ?_
  refine cw_eq (ws' := ((h0, .inr (9, [.ref q1, .ref q2, .ref q3, .ref q4, .int 0, .ref q5, .int 0, .int (-1), .int 0, .int 0, .null, .int 0, .null, .int 0, .null, .null, .null, .int 0, .int 0, .int 0, .int 0])) :: ((q1, .inl (xcy G 0, 159, .inl fun _ => 0)) :: ((q2, .inl (xcy G 0, 159, .inl fun _ => 0)) :: ((q3, .inl (xcy G 0, 159, .inl fun _ => 0)) :: ((q4, .inl (xcy G 0, 159, .inl fun _ => 0)) :: ((q5, .inl (xcy G 0, 1272, .inl fun _ => 0)) :: []))))) : va_W)) (by first | rfl | simp only [List.cons_append, List.append_assoc, List.nil_append]) ?_
  refine cw_aload_n C 0 dX7_init_54 rfl ?_
  refine cw_iconst (v := (-1)) C dX7_init_55 (by decide) ?_
  refine cw_put C iX7 tyX7 tyX7_ok nmX7 0 rfl rfl 8 (by decide) (by decide +kernel) rfl rfl rfl rfl rfl (Nat.le_of_ble_eq_true rfl) dX7_init_56 ?_
  refine cw_eq (ws' := ((h0, .inr (9, [.ref q1, .ref q2, .ref q3, .ref q4, .int 0, .ref q5, .int 0, .int (-1), .int (-1), .int 0, .null, .int 0, .null, .int 0, .null, .null, .null, .int 0, .int 0, .int 0, .int 0])) :: ((q1, .inl (xcy G 0, 159, .inl fun _ => 0)) :: ((q2, .inl (xcy G 0, 159, .inl fun _ => 0)) :: ((q3, .inl (xcy G 0, 159, .inl fun _ => 0)) :: ((q4, .inl (xcy G 0, 159, .inl fun _ => 0)) :: ((q5, .inl (xcy G 0, 1272, .inl fun _ => 0)) :: []))))) : va_W)) (by first | rfl | simp only [List.cons_append, List.append_assoc, List.nil_append]) ?_
  refine cw_aload_n C 0 dX7_init_59 rfl ?_
  refine cw_bipush (v := 60) C dX7_init_60 (by decide) ?_
  refine cw_newa (a0 := (60, .inl fun _ => 0)) C 0 rfl (by decide +kernel) rfl (fun _ => rfl) (by decide) rfl (by decide) (Nat.le_of_ble_eq_true rfl) (Nat.le_of_ble_eq_true rfl) dX7_init_62 (fun q6 => ?_)
  refine cw_eq (ws' := ((h0, .inr (9, [.ref q1, .ref q2, .ref q3, .ref q4, .int 0, .ref q5, .int 0, .int (-1), .int (-1), .int 0, .null, .int 0, .null, .int 0, .null, .null, .null, .int 0, .int 0, .int 0, .int 0])) :: ((q1, .inl (xcy G 0, 159, .inl fun _ => 0)) :: ((q2, .inl (xcy G 0, 159, .inl fun _ => 0)) :: ((q3, .inl (xcy G 0, 159, .inl fun _ => 0)) :: ((q4, .inl (xcy G 0, 159, .inl fun _ => 0)) :: ((q5, .inl (xcy G 0, 1272, .inl fun _ => 0)) :: ((q6, .inl (xcy G 0, 60, .inl fun _ => 0)) :: [])))))) : va_W)) (by first | rfl | simp only [List.cons_append, List.append_assoc, List.nil_append]) ?_
  refine cw_putF C (by decide) iX7 tyX7 tyX7_ok nmX7 0 rfl rfl 10 (by decide) (by decide +kernel) rfl rfl rfl rfl rfl rfl (Nat.le_of_ble_eq_true rfl) dX7_init_64 ?_
  refine cw_eq (ws' := ((h0, .inr (9, [.ref q1, .ref q2, .ref q3, .ref q4, .int 0, .ref q5, .int 0, .int (-1), .int (-1), .int 0, .ref q6, .int 0, .null, .int 0, .null, .null, .null, .int 0, .int 0, .int 0, .int 0])) :: ((q1, .inl (xcy G 0, 159, .inl fun _ => 0)) :: ((q2, .inl (xcy G 0, 159, .inl fun _ => 0)) :: ((q3, .inl (xcy G 0, 159, .inl fun _ => 0)) :: ((q4, .inl (xcy G 0, 159, .inl fun _ => 0)) :: ((q5, .inl (xcy G 0, 1272, .inl fun _ => 0)) :: ((q6, .inl (xcy G 0, 60, .inl fun _ => 0)) :: [])))))) : va_W)) (by first | rfl | simp only [List.cons_append, List.append_assoc, List.nil_append]) ?_
  refine cw_aload_n C 0 dX7_init_67 rfl ?_
  refine cw_sipush (v := 160) C dX7_init_68 (by decide) ?_
  refine cw_newa (a0 := (160, .inl fun _ => 0)) C 0 rfl (by decide +kernel) rfl (fun _ => rfl) (by decide) rfl (by decide) (Nat.le_of_ble_eq_true rfl) (Nat.le_of_ble_eq_true rfl) dX7_init_71 (fun q7 => ?_)
  refine cw_eq (ws' := ((h0, .inr (9, [.ref q1, .ref q2, .ref q3, .ref q4, .int 0, .ref q5, .int 0, .int (-1), .int (-1), .int 0, .ref q6, .int 0, .null, .int 0, .null, .null, .null, .int 0, .int 0, .int 0, .int 0])) :: ((q1, .inl (xcy G 0, 159, .inl fun _ => 0)) :: ((q2, .inl (xcy G 0, 159, .inl fun _ => 0)) :: ((q3, .inl (xcy G 0, 159, .inl fun _ => 0)) :: ((q4, .inl (xcy G 0, 159, .inl fun _ => 0)) :: ((q5, .inl (xcy G 0, 1272, .inl fun _ => 0)) :: ((q6, .inl (xcy G 0, 60, .inl fun _ => 0)) :: ((q7, .inl (xcy G 0, 160, .inl fun _ => 0)) :: []))))))) : va_W)) (by first | rfl | simp only [List.cons_append, List.append_assoc, List.nil_append]) ?_
  refine cw_putF C (by decide) iX7 tyX7 tyX7_ok nmX7 0 rfl rfl 12 (by decide) (by decide +kernel) rfl rfl rfl rfl rfl rfl (Nat.le_of_ble_eq_true rfl) dX7_init_73 ?_
  refine cw_eq (ws' := ((h0, .inr (9, [.ref q1, .ref q2, .ref q3, .ref q4, .int 0, .ref q5, .int 0, .int (-1), .int (-1), .int 0, .ref q6, .int 0, .ref q7, .int 0, .null, .null, .null, .int 0, .int 0, .int 0, .int 0])) :: ((q1, .inl (xcy G 0, 159, .inl fun _ => 0)) :: ((q2, .inl (xcy G 0, 159, .inl fun _ => 0)) :: ((q3, .inl (xcy G 0, 159, .inl fun _ => 0)) :: ((q4, .inl (xcy G 0, 159, .inl fun _ => 0)) :: ((q5, .inl (xcy G 0, 1272, .inl fun _ => 0)) :: ((q6, .inl (xcy G 0, 60, .inl fun _ => 0)) :: ((q7, .inl (xcy G 0, 160, .inl fun _ => 0)) :: []))))))) : va_W)) (by first | rfl | simp only [List.cons_append, List.append_assoc, List.nil_append]) ?_
  refine cw_aload_n C 0 dX7_init_76 rfl ?_
  refine cw_bipush (v := 48) C dX7_init_77 (by decide) ?_
  refine cw_newa (a0 := (48, .inl (xv_tab LX7_init_q8 0))) C 2 rfl (by decide +kernel) rfl (fun _ => by rw [xv_tab_0]; rfl) (by decide) rfl (by decide) (Nat.le_of_ble_eq_true rfl) (Nat.le_of_ble_eq_true rfl) dX7_init_79 (fun q8 => ?_)
  refine cw_dup C dX7_init_81 rfl ?_
  refine cw_iconst (v := 0) C dX7_init_82 (by decide) ?_
  refine cw_bipush (v := 97) C dX7_init_83 (by decide) ?_
  refine cw_fillC C LX7_init_q8 0 (by decide) (by decide) (by decide) (by decide) dX7_init_85 ?_
  refine cw_dup C dX7_init_86 rfl ?_
  refine cw_iconst (v := 1) C dX7_init_87 (by decide) ?_
  refine cw_bipush (v := 100) C dX7_init_88 (by decide) ?_
  refine cw_fillC C LX7_init_q8 1 (by decide) (by decide) (by decide) (by decide) dX7_init_90 ?_
  refine cw_dup C dX7_init_91 rfl ?_
  refine cw_iconst (v := 2) C dX7_init_92 (by decide) ?_
  refine cw_bipush (v := 100) C dX7_init_93 (by decide) ?_
  refine cw_fillC C LX7_init_q8 2 (by decide) (by decide) (by decide) (by decide) dX7_init_95 ?_
  refine cw_dup C dX7_init_96 rfl ?_
  refine cw_iconst (v := 3) C dX7_init_97 (by decide) ?_
  refine cw_bipush (v := 32) C dX7_init_98 (by decide) ?_
  refine cw_fillC C LX7_init_q8 3 (by decide) (by decide) (by decide) (by decide) dX7_init_100 ?_
  refine cw_dup C dX7_init_101 rfl ?_
  refine cw_iconst (v := 4) C dX7_init_102 (by decide) ?_
  refine cw_bipush (v := 111) C dX7_init_103 (by decide) ?_
  refine cw_fillC C LX7_init_q8 4 (by decide) (by decide) (by decide) (by decide) dX7_init_105 ?_
  refine cw_dup C dX7_init_106 rfl ?_
  refine cw_iconst (v := 5) C dX7_init_107 (by decide) ?_
  refine cw_bipush (v := 112) C dX7_init_108 (by decide) ?_
  refine cw_fillC C LX7_init_q8 5 (by decide) (by decide) (by decide) (by decide) dX7_init_110 ?_
  refine cw_dup C dX7_init_111 rfl ?_
  refine cw_bipush (v := 6) C dX7_init_112 (by decide) ?_
  refine cw_bipush (v := 101) C dX7_init_114 (by decide) ?_
  refine cw_fillC C LX7_init_q8 6 (by decide) (by decide) (by decide) (by decide) dX7_init_116 ?_
  refine cw_dup C dX7_init_117 rfl ?_
  refine cw_bipush (v := 7) C dX7_init_118 (by decide) ?_
  refine cw_bipush (v := 110) C dX7_init_120 (by decide) ?_
  refine cw_fillC C LX7_init_q8 7 (by decide) (by decide) (by decide) (by decide) dX7_init_122 ?_
  refine cw_dup C dX7_init_123 rfl ?_
  refine cw_bipush (v := 8) C dX7_init_124 (by decide) ?_
  refine cw_bipush (v := 32) C dX7_init_126 (by decide) ?_
  refine cw_fillC C LX7_init_q8 8 (by decide) (by decide) (by decide) (by decide) dX7_init_128 ?_
  refine cw_dup C dX7_init_129 rfl ?_
  refine cw_bipush (v := 9) C dX7_init_130 (by decide) ?_
  refine cw_bipush (v := 99) C dX7_init_132 (by decide) ?_
  refine cw_fillC C LX7_init_q8 9 (by decide) (by decide) (by decide) (by decide) dX7_init_134 ?_
  refine cw_dup C dX7_init_135 rfl ?_
  refine cw_bipush (v := 10) C dX7_init_136 (by decide) ?_
  refine cw_bipush (v := 108) C dX7_init_138 (by decide) ?_
  refine cw_fillC C LX7_init_q8 10 (by decide) (by decide) (by decide) (by decide) dX7_init_140 ?_
  refine cw_dup C dX7_init_141 rfl ?_
  refine cw_bipush (v := 11) C dX7_init_142 (by decide) ?_
  refine cw_bipush (v := 111) C dX7_init_144 (by decide) ?_
  refine cw_fillC C LX7_init_q8 11 (by decide) (by decide) (by decide) (by decide) dX7_init_146 ?_
  refine cw_dup C dX7_init_147 rfl ?_
  refine cw_bipush (v := 12) C dX7_init_148 (by decide) ?_
  refine cw_bipush (v := 115) C dX7_init_150 (by decide) ?_
  refine cw_fillC C LX7_init_q8 12 (by decide) (by decide) (by decide) (by decide) dX7_init_152 ?_
  refine cw_dup C dX7_init_153 rfl ?_
  refine cw_bipush (v := 13) C dX7_init_154 (by decide) ?_
  refine cw_bipush (v := 101) C dX7_init_156 (by decide) ?_
  refine cw_fillC C LX7_init_q8 13 (by decide) (by decide) (by decide) (by decide) dX7_init_158 ?_
  refine cw_dup C dX7_init_159 rfl ?_
  refine cw_bipush (v := 14) C dX7_init_160 (by decide) ?_
  refine cw_bipush (v := 32) C dX7_init_162 (by decide) ?_
  refine cw_fillC C LX7_init_q8 14 (by decide) (by decide) (by decide) (by decide) dX7_init_164 ?_
  refine cw_dup C dX7_init_165 rfl ?_
  refine cw_bipush (v := 15) C dX7_init_166 (by decide) ?_
  refine cw_bipush (v := 115) C dX7_init_168 (by decide) ?_
  refine cw_fillC C LX7_init_q8 15 (by decide) (by decide) (by decide) (by decide) dX7_init_170 ?_
  refine cw_dup C dX7_init_171 rfl ?_
  refine cw_bipush (v := 16) C dX7_init_172 (by decide) ?_
  refine cw_bipush (v := 119) C dX7_init_174 (by decide) ?_
  refine cw_fillC C LX7_init_q8 16 (by decide) (by decide) (by decide) (by decide) dX7_init_176 ?_
  refine cw_dup C dX7_init_177 rfl ?_
  refine cw_bipush (v := 17) C dX7_init_178 (by decide) ?_
  refine cw_bipush (v := 97) C dX7_init_180 (by decide) ?_
  refine cw_fillC C LX7_init_q8 17 (by decide) (by decide) (by decide) (by decide) dX7_init_182 ?_
  refine cw_dup C dX7_init_183 rfl ?_
  refine cw_bipush (v := 18) C dX7_init_184 (by decide) ?_
  refine cw_bipush (v := 112) C dX7_init_186 (by decide) ?_
  refine cw_fillC C LX7_init_q8 18 (by decide) (by decide) (by decide) (by decide) dX7_init_188 ?_
  refine cw_dup C dX7_init_189 rfl ?_
  refine cw_bipush (v := 19) C dX7_init_190 (by decide) ?_
  refine cw_bipush (v := 32) C dX7_init_192 (by decide) ?_
  refine cw_fillC C LX7_init_q8 19 (by decide) (by decide) (by decide) (by decide) dX7_init_194 ?_
  refine cw_dup C dX7_init_195 rfl ?_
  refine cw_bipush (v := 20) C dX7_init_196 (by decide) ?_
  refine cw_bipush (v := 115) C dX7_init_198 (by decide) ?_
  refine cw_fillC C LX7_init_q8 20 (by decide) (by decide) (by decide) (by decide) dX7_init_200 ?_
  refine cw_dup C dX7_init_201 rfl ?_
  refine cw_bipush (v := 21) C dX7_init_202 (by decide) ?_
  refine cw_bipush (v := 105) C dX7_init_204 (by decide) ?_
  refine cw_fillC C LX7_init_q8 21 (by decide) (by decide) (by decide) (by decide) dX7_init_206 ?_
  refine cw_dup C dX7_init_207 rfl ?_
  refine cw_bipush (v := 22) C dX7_init_208 (by decide) ?_
  refine cw_bipush (v := 116) C dX7_init_210 (by decide) ?_
  refine cw_fillC C LX7_init_q8 22 (by decide) (by decide) (by decide) (by decide) dX7_init_212 ?_
  refine cw_dup C dX7_init_213 rfl ?_
  refine cw_bipush (v := 23) C dX7_init_214 (by decide) ?_
  refine cw_bipush (v := 32) C dX7_init_216 (by decide) ?_
  refine cw_fillC C LX7_init_q8 23 (by decide) (by decide) (by decide) (by decide) dX7_init_218 ?_
  refine cw_dup C dX7_init_219 rfl ?_
  refine cw_bipush (v := 24) C dX7_init_220 (by decide) ?_
  refine cw_bipush (v := 115) C dX7_init_222 (by decide) ?_
  refine cw_fillC C LX7_init_q8 24 (by decide) (by decide) (by decide) (by decide) dX7_init_224 ?_
  refine cw_dup C dX7_init_225 rfl ?_
  refine cw_bipush (v := 25) C dX7_init_226 (by decide) ?_
  refine cw_bipush (v := 116) C dX7_init_228 (by decide) ?_
  refine cw_fillC C LX7_init_q8 25 (by decide) (by decide) (by decide) (by decide) dX7_init_230 ?_
  refine cw_dup C dX7_init_231 rfl ?_
  refine cw_bipush (v := 26) C dX7_init_232 (by decide) ?_
  refine cw_bipush (v := 97) C dX7_init_234 (by decide) ?_
  refine cw_fillC C LX7_init_q8 26 (by decide) (by decide) (by decide) (by decide) dX7_init_236 ?_
  refine cw_dup C dX7_init_237 rfl ?_
  refine cw_bipush (v := 27) C dX7_init_238 (by decide) ?_
  refine cw_bipush (v := 110) C dX7_init_240 (by decide) ?_
  refine cw_fillC C LX7_init_q8 27 (by decide) (by decide) (by decide) (by decide) dX7_init_242 ?_
  refine cw_dup C dX7_init_243 rfl ?_
  refine cw_bipush (v := 28) C dX7_init_244 (by decide) ?_
  refine cw_bipush (v := 100) C dX7_init_246 (by decide) ?_
  refine cw_fillC C LX7_init_q8 28 (by decide) (by decide) (by decide) (by decide) dX7_init_248 ?_
  refine cw_dup C dX7_init_249 rfl ?_
  refine cw_bipush (v := 29) C dX7_init_250 (by decide) ?_
  refine cw_bipush (v := 32) C dX7_init_252 (by decide) ?_
  refine cw_fillC C LX7_init_q8 29 (by decide) (by decide) (by decide) (by decide) dX7_init_254 ?_
  refine cw_dup C dX7_init_255 rfl ?_
  refine cw_bipush (v := 30) C dX7_init_256 (by decide) ?_
  refine cw_bipush (v := 114) C dX7_init_258 (by decide) ?_
  refine cw_fillC C LX7_init_q8 30 (by decide) (by decide) (by decide) (by decide) dX7_init_260 ?_
  refine cw_dup C dX7_init_261 rfl ?_
  refine cw_bipush (v := 31) C dX7_init_262 (by decide) ?_
  refine cw_bipush (v := 101) C dX7_init_264 (by decide) ?_
  refine cw_fillC C LX7_init_q8 31 (by decide) (by decide) (by decide) (by decide) dX7_init_266 ?_
  refine cw_dup C dX7_init_267 rfl ?_
  refine cw_bipush (v := 32) C dX7_init_268 (by decide) ?_
  refine cw_bipush (v := 109) C dX7_init_270 (by decide) ?_
  refine cw_fillC C LX7_init_q8 32 (by decide) (by decide) (by decide) (by decide) dX7_init_272 ?_
  refine cw_dup C dX7_init_273 rfl ?_
  refine cw_bipush (v := 33) C dX7_init_274 (by decide) ?_
  refine cw_bipush (v := 111) C dX7_init_276 (by decide) ?_
  refine cw_fillC C LX7_init_q8 33 (by decide) (by decide) (by decide) (by decide) dX7_init_278 ?_
  refine cw_dup C dX7_init_279 rfl ?_
  refine cw_bipush (v := 34) C dX7_init_280 (by decide) ?_
  refine cw_bipush (v := 118) C dX7_init_282 (by decide) ?_
  refine cw_fillC C LX7_init_q8 34 (by decide) (by decide) (by decide) (by decide) dX7_init_284 ?_
  refine cw_dup C dX7_init_285 rfl ?_
  refine cw_bipush (v := 35) C dX7_init_286 (by decide) ?_
  refine cw_bipush (v := 101) C dX7_init_288 (by decide) ?_
  refine cw_fillC C LX7_init_q8 35 (by decide) (by decide) (by decide) (by decide) dX7_init_290 ?_
  refine cw_dup C dX7_init_291 rfl ?_
  refine cw_bipush (v := 36) C dX7_init_292 (by decide) ?_
  refine cw_bipush (v := 32) C dX7_init_294 (by decide) ?_
  refine cw_fillC C LX7_init_q8 36 (by decide) (by decide) (by decide) (by decide) dX7_init_296 ?_
  refine cw_dup C dX7_init_297 rfl ?_
  refine cw_bipush (v := 37) C dX7_init_298 (by decide) ?_
  refine cw_bipush (v := 99) C dX7_init_300 (by decide) ?_
  refine cw_fillC C LX7_init_q8 37 (by decide) (by decide) (by decide) (by decide) dX7_init_302 ?_
  refine cw_dup C dX7_init_303 rfl ?_
  refine cw_bipush (v := 38) C dX7_init_304 (by decide) ?_
  refine cw_bipush (v := 97) C dX7_init_306 (by decide) ?_
  refine cw_fillC C LX7_init_q8 38 (by decide) (by decide) (by decide) (by decide) dX7_init_308 ?_
  refine cw_dup C dX7_init_309 rfl ?_
  refine cw_bipush (v := 39) C dX7_init_310 (by decide) ?_
  refine cw_bipush (v := 108) C dX7_init_312 (by decide) ?_
  refine cw_fillC C LX7_init_q8 39 (by decide) (by decide) (by decide) (by decide) dX7_init_314 ?_
  refine cw_dup C dX7_init_315 rfl ?_
  refine cw_bipush (v := 40) C dX7_init_316 (by decide) ?_
  refine cw_bipush (v := 108) C dX7_init_318 (by decide) ?_
  refine cw_fillC C LX7_init_q8 40 (by decide) (by decide) (by decide) (by decide) dX7_init_320 ?_
  refine cw_dup C dX7_init_321 rfl ?_
  refine cw_bipush (v := 41) C dX7_init_322 (by decide) ?_
  refine cw_bipush (v := 97) C dX7_init_324 (by decide) ?_
  refine cw_fillC C LX7_init_q8 41 (by decide) (by decide) (by decide) (by decide) dX7_init_326 ?_
  refine cw_dup C dX7_init_327 rfl ?_
  refine cw_bipush (v := 42) C dX7_init_328 (by decide) ?_
  refine cw_bipush (v := 100) C dX7_init_330 (by decide) ?_
  refine cw_fillC C LX7_init_q8 42 (by decide) (by decide) (by decide) (by decide) dX7_init_332 ?_
  refine cw_dup C dX7_init_333 rfl ?_
  refine cw_bipush (v := 43) C dX7_init_334 (by decide) ?_
  refine cw_bipush (v := 118) C dX7_init_336 (by decide) ?_
  refine cw_fillC C LX7_init_q8 43 (by decide) (by decide) (by decide) (by decide) dX7_init_338 ?_
  refine cw_dup C dX7_init_339 rfl ?_
  refine cw_bipush (v := 44) C dX7_init_340 (by decide) ?_
  refine cw_bipush (v := 97) C dX7_init_342 (by decide) ?_
  refine cw_fillC C LX7_init_q8 44 (by decide) (by decide) (by decide) (by decide) dX7_init_344 ?_
  refine cw_dup C dX7_init_345 rfl ?_
  refine cw_bipush (v := 45) C dX7_init_346 (by decide) ?_
  refine cw_bipush (v := 110) C dX7_init_348 (by decide) ?_
  refine cw_fillC C LX7_init_q8 45 (by decide) (by decide) (by decide) (by decide) dX7_init_350 ?_
  refine cw_dup C dX7_init_351 rfl ?_
  refine cw_bipush (v := 46) C dX7_init_352 (by decide) ?_
  refine cw_bipush (v := 99) C dX7_init_354 (by decide) ?_
  refine cw_fillC C LX7_init_q8 46 (by decide) (by decide) (by decide) (by decide) dX7_init_356 ?_
  refine cw_dup C dX7_init_357 rfl ?_
  refine cw_bipush (v := 47) C dX7_init_358 (by decide) ?_
  refine cw_bipush (v := 101) C dX7_init_360 (by decide) ?_
  refine cw_fillC C LX7_init_q8 47 (by decide) (by decide) (by decide) (by decide) dX7_init_362 ?_
  refine cw_eq (ws' := ((h0, .inr (9, [.ref q1, .ref q2, .ref q3, .ref q4, .int 0, .ref q5, .int 0, .int (-1), .int (-1), .int 0, .ref q6, .int 0, .ref q7, .int 0, .null, .null, .null, .int 0, .int 0, .int 0, .int 0])) :: ((q1, .inl (xcy G 0, 159, .inl fun _ => 0)) :: ((q2, .inl (xcy G 0, 159, .inl fun _ => 0)) :: ((q3, .inl (xcy G 0, 159, .inl fun _ => 0)) :: ((q4, .inl (xcy G 0, 159, .inl fun _ => 0)) :: ((q5, .inl (xcy G 0, 1272, .inl fun _ => 0)) :: ((q6, .inl (xcy G 0, 60, .inl fun _ => 0)) :: ((q7, .inl (xcy G 0, 160, .inl fun _ => 0)) :: ((q8, .inl (xcy G 2, 48, .inl (xv_tab LX7_init_q8 48))) :: [])))))))) : va_W)) (by first | rfl | simp only [List.cons_append, List.append_assoc, List.nil_append]) ?_
  refine cw_putF C (by decide) iX7 tyX7 tyX7_ok nmX7 0 rfl rfl 14 (by decide) (by decide +kernel) rfl rfl rfl rfl rfl rfl (Nat.le_of_ble_eq_true rfl) dX7_init_363 ?_
  refine cw_eq (ws' := ((h0, .inr (9, [.ref q1, .ref q2, .ref q3, .ref q4, .int 0, .ref q5, .int 0, .int (-1), .int (-1), .int 0, .ref q6, .int 0, .ref q7, .int 0, .ref q8, .null, .null, .int 0, .int 0, .int 0, .int 0])) :: ((q1, .inl (xcy G 0, 159, .inl fun _ => 0)) :: ((q2, .inl (xcy G 0, 159, .inl fun _ => 0)) :: ((q3, .inl (xcy G 0, 159, .inl fun _ => 0)) :: ((q4, .inl (xcy G 0, 159, .inl fun _ => 0)) :: ((q5, .inl (xcy G 0, 1272, .inl fun _ => 0)) :: ((q6, .inl (xcy G 0, 60, .inl fun _ => 0)) :: ((q7, .inl (xcy G 0, 160, .inl fun _ => 0)) :: ((q8, .inl (xcy G 2, 48, .inl (xv_tab LX7_init_q8 48))) :: [])))))))) : va_W)) (by first | rfl | simp only [List.cons_append, List.append_assoc, List.nil_append]) ?_
  refine cw_aload_n C 0 dX7_init_366 rfl ?_
  refine cw_bipush (v := 10) C dX7_init_367 (by decide) ?_
  refine cw_newa (a0 := (10, .inl (xv_tab LX7_init_q9 0))) C 0 rfl (by decide +kernel) rfl (fun _ => by rw [xv_tab_0]; rfl) (by decide) rfl (by decide) (Nat.le_of_ble_eq_true rfl) (Nat.le_of_ble_eq_true rfl) dX7_init_369 (fun q9 => ?_)
  refine cw_dup C dX7_init_371 rfl ?_
  refine cw_iconst (v := 0) C dX7_init_372 (by decide) ?_
  refine cw_iconst (v := 0) C dX7_init_373 (by decide) ?_
  refine cw_fillI C LX7_init_q9 0 (by decide) (by decide) (by decide) dX7_init_374 ?_
  refine cw_dup C dX7_init_375 rfl ?_
  refine cw_iconst (v := 1) C dX7_init_376 (by decide) ?_
  refine cw_iconst (v := 4) C dX7_init_377 (by decide) ?_
  refine cw_fillI C LX7_init_q9 1 (by decide) (by decide) (by decide) dX7_init_378 ?_
  refine cw_dup C dX7_init_379 rfl ?_
  refine cw_iconst (v := 2) C dX7_init_380 (by decide) ?_
  refine cw_bipush (v := 9) C dX7_init_381 (by decide) ?_
  refine cw_fillI C LX7_init_q9 2 (by decide) (by decide) (by decide) dX7_init_383 ?_
  refine cw_dup C dX7_init_384 rfl ?_
  refine cw_iconst (v := 3) C dX7_init_385 (by decide) ?_
  refine cw_bipush (v := 15) C dX7_init_386 (by decide) ?_
  refine cw_fillI C LX7_init_q9 3 (by decide) (by decide) (by decide) dX7_init_388 ?_
  refine cw_dup C dX7_init_389 rfl ?_
  refine cw_iconst (v := 4) C dX7_init_390 (by decide) ?_
  refine cw_bipush (v := 20) C dX7_init_391 (by decide) ?_
  refine cw_fillI C LX7_init_q9 4 (by decide) (by decide) (by decide) dX7_init_393 ?_
  refine cw_dup C dX7_init_394 rfl ?_
  refine cw_iconst (v := 5) C dX7_init_395 (by decide) ?_
  refine cw_bipush (v := 24) C dX7_init_396 (by decide) ?_
  refine cw_fillI C LX7_init_q9 5 (by decide) (by decide) (by decide) dX7_init_398 ?_
  refine cw_dup C dX7_init_399 rfl ?_
  refine cw_bipush (v := 6) C dX7_init_400 (by decide) ?_
  refine cw_bipush (v := 30) C dX7_init_402 (by decide) ?_
  refine cw_fillI C LX7_init_q9 6 (by decide) (by decide) (by decide) dX7_init_404 ?_
  refine cw_dup C dX7_init_405 rfl ?_
  refine cw_bipush (v := 7) C dX7_init_406 (by decide) ?_
  refine cw_bipush (v := 37) C dX7_init_408 (by decide) ?_
  refine cw_fillI C LX7_init_q9 7 (by decide) (by decide) (by decide) dX7_init_410 ?_
  refine cw_dup C dX7_init_411 rfl ?_
  refine cw_bipush (v := 8) C dX7_init_412 (by decide) ?_
  refine cw_bipush (v := 41) C dX7_init_414 (by decide) ?_
  refine cw_fillI C LX7_init_q9 8 (by decide) (by decide) (by decide) dX7_init_416 ?_
  refine cw_dup C dX7_init_417 rfl ?_
  refine cw_bipush (v := 9) C dX7_init_418 (by decide) ?_
  refine cw_bipush (v := 48) C dX7_init_420 (by decide) ?_
  refine cw_fillI C LX7_init_q9 9 (by decide) (by decide) (by decide) dX7_init_422 ?_
  refine cw_eq (ws' := ((h0, .inr (9, [.ref q1, .ref q2, .ref q3, .ref q4, .int 0, .ref q5, .int 0, .int (-1), .int (-1), .int 0, .ref q6, .int 0, .ref q7, .int 0, .ref q8, .null, .null, .int 0, .int 0, .int 0, .int 0])) :: ((q1, .inl (xcy G 0, 159, .inl fun _ => 0)) :: ((q2, .inl (xcy G 0, 159, .inl fun _ => 0)) :: ((q3, .inl (xcy G 0, 159, .inl fun _ => 0)) :: ((q4, .inl (xcy G 0, 159, .inl fun _ => 0)) :: ((q5, .inl (xcy G 0, 1272, .inl fun _ => 0)) :: ((q6, .inl (xcy G 0, 60, .inl fun _ => 0)) :: ((q7, .inl (xcy G 0, 160, .inl fun _ => 0)) :: ((q8, .inl (xcy G 2, 48, .inl (xv_tab LX7_init_q8 48))) :: ((q9, .inl (xcy G 0, 10, .inl (xv_tab LX7_init_q9 10))) :: []))))))))) : va_W)) (by first | rfl | simp only [List.cons_append, List.append_assoc, List.nil_append]) ?_
  refine cw_putF C (by decide) iX7 tyX7 tyX7_ok nmX7 0 rfl rfl 15 (by decide) (by decide +kernel) rfl rfl rfl rfl rfl rfl (Nat.le_of_ble_eq_true rfl) dX7_init_423 ?_
  refine cw_eq (ws' := ((h0, .inr (9, [.ref q1, .ref q2, .ref q3, .ref q4, .int 0, .ref q5, .int 0, .int (-1), .int (-1), .int 0, .ref q6, .int 0, .ref q7, .int 0, .ref q8, .ref q9, .null, .int 0, .int 0, .int 0, .int 0])) :: ((q1, .inl (xcy G 0, 159, .inl fun _ => 0)) :: ((q2, .inl (xcy G 0, 159, .inl fun _ => 0)) :: ((q3, .inl (xcy G 0, 159, .inl fun _ => 0)) :: ((q4, .inl (xcy G 0, 159, .inl fun _ => 0)) :: ((q5, .inl (xcy G 0, 1272, .inl fun _ => 0)) :: ((q6, .inl (xcy G 0, 60, .inl fun _ => 0)) :: ((q7, .inl (xcy G 0, 160, .inl fun _ => 0)) :: ((q8, .inl (xcy G 2, 48, .inl (xv_tab LX7_init_q8 48))) :: ((q9, .inl (xcy G 0, 10, .inl (xv_tab LX7_init_q9 10))) :: []))))))))) : va_W)) (by first | rfl | simp only [List.cons_append, List.append_assoc, List.nil_append]) ?_
  refine cw_aload_n C 0 dX7_init_426 rfl ?_
  refine cw_sipush (v := 244) C dX7_init_427 (by decide) ?_
  refine cw_newa (a0 := (244, .inl fun _ => 0)) C 0 rfl (by decide +kernel) rfl (fun _ => rfl) (by decide) rfl (by decide) (Nat.le_of_ble_eq_true rfl) (Nat.le_of_ble_eq_true rfl) dX7_init_430 (fun q10 => ?_)
  refine cw_eq (ws' := ((h0, .inr (9, [.ref q1, .ref q2, .ref q3, .ref q4, .int 0, .ref q5, .int 0, .int (-1), .int (-1), .int 0, .ref q6, .int 0, .ref q7, .int 0, .ref q8, .ref q9, .null, .int 0, .int 0, .int 0, .int 0])) :: ((q1, .inl (xcy G 0, 159, .inl fun _ => 0)) :: ((q2, .inl (xcy G 0, 159, .inl fun _ => 0)) :: ((q3, .inl (xcy G 0, 159, .inl fun _ => 0)) :: ((q4, .inl (xcy G 0, 159, .inl fun _ => 0)) :: ((q5, .inl (xcy G 0, 1272, .inl fun _ => 0)) :: ((q6, .inl (xcy G 0, 60, .inl fun _ => 0)) :: ((q7, .inl (xcy G 0, 160, .inl fun _ => 0)) :: ((q8, .inl (xcy G 2, 48, .inl (xv_tab LX7_init_q8 48))) :: ((q9, .inl (xcy G 0, 10, .inl (xv_tab LX7_init_q9 10))) :: ((q10, .inl (xcy G 0, 244, .inl fun _ => 0)) :: [])))))))))) : va_W)) (by first | rfl | simp only [List.cons_append, List.append_assoc, List.nil_append]) ?_
  refine cw_putF C (by decide) iX7 tyX7 tyX7_ok nmX7 0 rfl rfl 16 (by decide) (by decide +kernel) rfl rfl rfl rfl rfl rfl (Nat.le_of_ble_eq_true rfl) dX7_init_432 ?_
  refine cw_eq (ws' := ((h0, .inr (9, [.ref q1, .ref q2, .ref q3, .ref q4, .int 0, .ref q5, .int 0, .int (-1), .int (-1), .int 0, .ref q6, .int 0, .ref q7, .int 0, .ref q8, .ref q9, .ref q10, .int 0, .int 0, .int 0, .int 0])) :: ((q1, .inl (xcy G 0, 159, .inl fun _ => 0)) :: ((q2, .inl (xcy G 0, 159, .inl fun _ => 0)) :: ((q3, .inl (xcy G 0, 159, .inl fun _ => 0)) :: ((q4, .inl (xcy G 0, 159, .inl fun _ => 0)) :: ((q5, .inl (xcy G 0, 1272, .inl fun _ => 0)) :: ((q6, .inl (xcy G 0, 60, .inl fun _ => 0)) :: ((q7, .inl (xcy G 0, 160, .inl fun _ => 0)) :: ((q8, .inl (xcy G 2, 48, .inl (xv_tab LX7_init_q8 48))) :: ((q9, .inl (xcy G 0, 10, .inl (xv_tab LX7_init_q9 10))) :: ((q10, .inl (xcy G 0, 244, .inl fun _ => 0)) :: [])))))))))) : va_W)) (by first | rfl | simp only [List.cons_append, List.append_assoc, List.nil_append]) ?_
  refine cw_iconst (v := 0) C dX7_init_435 (by decide) ?_
  refine cw_istore_n (lv' := [(1, .int 0), (0, .ref h0)]) C dX7_init_436 rfl (by decide) rfl ?_
  refine cw_iload_n C 0 dX7_init_437 rfl ?_
  refine cw_iconst (v := 3) C dX7_init_438 (by decide) ?_
  refine cw_geF C 460 dX7_init_439 (by decide) (by decide) ?_
  refine cw_aload_n C 1 dX7_init_442 rfl ?_
  refine cw_get C iX7 0 rfl rfl 0 (by decide) (by decide +kernel) rfl rfl dX7_init_443 ?_
  refine cw_iload_n C 0 dX7_init_446 rfl ?_
  refine cw_wat (r := 12) C gX7_init_X7_windowAt ⟨(Nat.le_of_ble_eq_true rfl), (Nat.le_of_ble_eq_true rfl)⟩ (Nat.le_of_ble_eq_true rfl) (by decide) dX7_init_447 ⟨(Nat.le_of_ble_eq_true rfl), (Nat.le_of_ble_eq_true rfl)⟩ ?_
  refine cw_iconst (v := 2) C dX7_init_450 (by decide) ?_
  refine cw_iadd (r := 14) C (by decide) dX7_init_451 ?_
  refine cw_iconst (v := (-1)) C dX7_init_452 (by decide) ?_
  refine cw_iastN C 1 14 (by decide) rfl (by decide) dX7_init_453 ?_
  refine cw_eq (ws' := ((h0, .inr (9, [.ref q1, .ref q2, .ref q3, .ref q4, .int 0, .ref q5, .int 0, .int (-1), .int (-1), .int 0, .ref q6, .int 0, .ref q7, .int 0, .ref q8, .ref q9, .ref q10, .int 0, .int 0, .int 0, .int 0])) :: ((q1, .inl (xcy G 0, 159, .inl (upd (fun _ => 0) 14 (-1)))) :: ((q2, .inl (xcy G 0, 159, .inl fun _ => 0)) :: ((q3, .inl (xcy G 0, 159, .inl fun _ => 0)) :: ((q4, .inl (xcy G 0, 159, .inl fun _ => 0)) :: ((q5, .inl (xcy G 0, 1272, .inl fun _ => 0)) :: ((q6, .inl (xcy G 0, 60, .inl fun _ => 0)) :: ((q7, .inl (xcy G 0, 160, .inl fun _ => 0)) :: ((q8, .inl (xcy G 2, 48, .inl (xv_tab LX7_init_q8 48))) :: ((q9, .inl (xcy G 0, 10, .inl (xv_tab LX7_init_q9 10))) :: ((q10, .inl (xcy G 0, 244, .inl fun _ => 0)) :: [])))))))))) : va_W)) (by first | rfl | simp only [List.cons_append, List.append_assoc, List.nil_append]) ?_
  refine cw_iinc (v := 1) (lv' := [(1, .int 1), (0, .ref h0)]) C 0 dX7_init_454 rfl (by decide) (by decide) rfl ?_
  refine cw_goto C 437 dX7_init_457 (by decide) ?_
  refine cw_iload_n C 0 dX7_init_437 rfl ?_
  refine cw_iconst (v := 3) C dX7_init_438 (by decide) ?_
  refine cw_geF C 460 dX7_init_439 (by decide) (by decide) ?_
  refine cw_aload_n C 1 dX7_init_442 rfl ?_
  refine cw_get C iX7 0 rfl rfl 0 (by decide) (by decide +kernel) rfl rfl dX7_init_443 ?_
  refine cw_iload_n C 0 dX7_init_446 rfl ?_
  refine cw_wat (r := 17) C gX7_init_X7_windowAt ⟨(Nat.le_of_ble_eq_true rfl), (Nat.le_of_ble_eq_true rfl)⟩ (Nat.le_of_ble_eq_true rfl) (by decide) dX7_init_447 ⟨(Nat.le_of_ble_eq_true rfl), (Nat.le_of_ble_eq_true rfl)⟩ ?_
  refine cw_iconst (v := 2) C dX7_init_450 (by decide) ?_
  refine cw_iadd (r := 19) C (by decide) dX7_init_451 ?_
  refine cw_iconst (v := (-1)) C dX7_init_452 (by decide) ?_
  refine cw_iastN C 1 19 (by decide) rfl (by decide) dX7_init_453 ?_
  refine cw_eq (ws' := ((h0, .inr (9, [.ref q1, .ref q2, .ref q3, .ref q4, .int 0, .ref q5, .int 0, .int (-1), .int (-1), .int 0, .ref q6, .int 0, .ref q7, .int 0, .ref q8, .ref q9, .ref q10, .int 0, .int 0, .int 0, .int 0])) :: ((q1, .inl (xcy G 0, 159, .inl (upd (upd (fun _ => 0) 14 (-1)) 19 (-1)))) :: ((q2, .inl (xcy G 0, 159, .inl fun _ => 0)) :: ((q3, .inl (xcy G 0, 159, .inl fun _ => 0)) :: ((q4, .inl (xcy G 0, 159, .inl fun _ => 0)) :: ((q5, .inl (xcy G 0, 1272, .inl fun _ => 0)) :: ((q6, .inl (xcy G 0, 60, .inl fun _ => 0)) :: ((q7, .inl (xcy G 0, 160, .inl fun _ => 0)) :: ((q8, .inl (xcy G 2, 48, .inl (xv_tab LX7_init_q8 48))) :: ((q9, .inl (xcy G 0, 10, .inl (xv_tab LX7_init_q9 10))) :: ((q10, .inl (xcy G 0, 244, .inl fun _ => 0)) :: [])))))))))) : va_W)) (by first | rfl | simp only [List.cons_append, List.append_assoc, List.nil_append]) ?_
  refine cw_iinc (v := 2) (lv' := [(1, .int 2), (0, .ref h0)]) C 0 dX7_init_454 rfl (by decide) (by decide) rfl ?_
  refine cw_goto C 437 dX7_init_457 (by decide) ?_
  refine cw_iload_n C 0 dX7_init_437 rfl ?_
  refine cw_iconst (v := 3) C dX7_init_438 (by decide) ?_
  refine cw_geF C 460 dX7_init_439 (by decide) (by decide) ?_
  refine cw_aload_n C 1 dX7_init_442 rfl ?_
  refine cw_get C iX7 0 rfl rfl 0 (by decide) (by decide +kernel) rfl rfl dX7_init_443 ?_
  refine cw_iload_n C 0 dX7_init_446 rfl ?_
  refine cw_wat (r := 22) C gX7_init_X7_windowAt ⟨(Nat.le_of_ble_eq_true rfl), (Nat.le_of_ble_eq_true rfl)⟩ (Nat.le_of_ble_eq_true rfl) (by decide) dX7_init_447 ⟨(Nat.le_of_ble_eq_true rfl), (Nat.le_of_ble_eq_true rfl)⟩ ?_
  refine cw_iconst (v := 2) C dX7_init_450 (by decide) ?_
  refine cw_iadd (r := 24) C (by decide) dX7_init_451 ?_
  refine cw_iconst (v := (-1)) C dX7_init_452 (by decide) ?_
  refine cw_iastN C 1 24 (by decide) rfl (by decide) dX7_init_453 ?_
  refine cw_eq (ws' := ((h0, .inr (9, [.ref q1, .ref q2, .ref q3, .ref q4, .int 0, .ref q5, .int 0, .int (-1), .int (-1), .int 0, .ref q6, .int 0, .ref q7, .int 0, .ref q8, .ref q9, .ref q10, .int 0, .int 0, .int 0, .int 0])) :: ((q1, .inl (xcy G 0, 159, .inl (upd (upd (upd (fun _ => 0) 14 (-1)) 19 (-1)) 24 (-1)))) :: ((q2, .inl (xcy G 0, 159, .inl fun _ => 0)) :: ((q3, .inl (xcy G 0, 159, .inl fun _ => 0)) :: ((q4, .inl (xcy G 0, 159, .inl fun _ => 0)) :: ((q5, .inl (xcy G 0, 1272, .inl fun _ => 0)) :: ((q6, .inl (xcy G 0, 60, .inl fun _ => 0)) :: ((q7, .inl (xcy G 0, 160, .inl fun _ => 0)) :: ((q8, .inl (xcy G 2, 48, .inl (xv_tab LX7_init_q8 48))) :: ((q9, .inl (xcy G 0, 10, .inl (xv_tab LX7_init_q9 10))) :: ((q10, .inl (xcy G 0, 244, .inl fun _ => 0)) :: [])))))))))) : va_W)) (by first | rfl | simp only [List.cons_append, List.append_assoc, List.nil_append]) ?_
  refine cw_iinc (v := 3) (lv' := [(1, .int 3), (0, .ref h0)]) C 0 dX7_init_454 rfl (by decide) (by decide) rfl ?_
  refine cw_goto C 437 dX7_init_457 (by decide) ?_
  refine cw_iload_n C 0 dX7_init_437 rfl ?_
  refine cw_iconst (v := 3) C dX7_init_438 (by decide) ?_
  refine cw_geT C 460 dX7_init_439 (by decide) (by decide) ?_
  exact cw_vretE C hr hlk hAe rfl (fun r => ([h0, q1, q2, q3, q4, q5, q6, q7, q8, q9, q10] : List Nat).getD r 0) trivial rfl dX7_init_460
