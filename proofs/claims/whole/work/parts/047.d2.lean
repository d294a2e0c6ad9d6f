/-! J5_init_d00df.<init> -/
abbrev rm_J5_init_d00df : Room := { frames := 2, cells := 1, slots := 16, locals := 40 }
set_option maxHeartbeats 8000000 in
set_option maxRecDepth 100000 in
theorem t_J5_init_d00df {l : Launch} {G : xG} {h0 : Nat} : ciMet G l yJ5_init_d00df wsJ5_init_d00df rm_J5_init_d00df 1 16 h0 [.int 16] (.inr (1, [.null, .int 0, .int 0, .int 0])) (S := Nat) (fun _ => True) (fun u => [(h0, .inr (1, [.ref u, .int 0, .int 0, .int 0])), (u, .inl (xcy G 1, 16, .inl fun _ => 0))]) := by
  refine ci_of (cc := cJ5_init_d00df) (maxL := 2) (RC := RJ5) (by decide) rfl rfl rfl rfl ?_
  intro p e s m below meth c A C X hAx hAe hr hlk
  have iJ4 : ∀ w ∈ wsJ40, w ∈ wsJ5_init_d00df := by decide +kernel
  show cw G p l e rm_J5_init_d00df s m (Value.ref h0 :: [.int 16]).toArray below meth c 2 _ A 0 0 [(h0, .inr (1, [.null, .int 0, .int 0, .int 0]))] 0 [(0, .ref h0), (1, .int 16)] []
  refine cw_aload_n C 0 dJ5_init_d00df_0 rfl ?_
  refine cw_obj C (by decide +kernel) (by decide +kernel) (by decide +kernel) dJ5_init_d00df_1 (Nat.le_of_ble_eq_true rfl) (Nat.le_of_ble_eq_true rfl) ?_
  refine cw_gcs C X hAx (by decide +kernel) dJ5_init_d00df_4 ?_
  refine cw_eqF C 25 dJ5_init_d00df_7 (by decide) (by decide) ?_
  refine cw_aload_n C 0 dJ5_init_d00df_10 rfl ?_
  refine cw_iload_n C 1 dJ5_init_d00df_11 rfl ?_
  refine cw_newa (a0 := (16, .inl fun _ => 0)) C 1 rfl (by decide +kernel) rfl (fun _ => rfl) (by decide) rfl (by decide) (Nat.le_of_ble_eq_true rfl) (Nat.le_of_ble_eq_true rfl) dJ5_init_d00df_12 (fun q1 => ?_)
  refine cw_eq (ws' := ([(h0, .inr (1, [.null, .int 0, .int 0, .int 0])), (q1, .inl (xcy G 1, 16, .inl fun _ => 0))] : va_W)) rfl ?_
  refine cw_put C iJ4 tyJ4 tyJ4_ok nmJ4 0 rfl rfl 0 (by decide) (by decide +kernel) rfl rfl rfl rfl rfl (Nat.le_of_ble_eq_true rfl) dJ5_init_d00df_14 ?_
  refine cw_eq (ws' := ([(h0, .inr (1, [.ref q1, .int 0, .int 0, .int 0])), (q1, .inl (xcy G 1, 16, .inl fun _ => 0))] : va_W)) rfl ?_
  refine cw_aload_n C 0 dJ5_init_d00df_17 rfl ?_
  refine cw_iconst (v := 0) C dJ5_init_d00df_18 (by decide) ?_
  refine cw_put C iJ4 tyJ4 tyJ4_ok nmJ4 0 rfl rfl 1 (by decide) (by decide +kernel) rfl rfl rfl rfl rfl (Nat.le_of_ble_eq_true rfl) dJ5_init_d00df_19 ?_
  refine cw_eq (ws' := ([(h0, .inr (1, [.ref q1, .int 0, .int 0, .int 0])), (q1, .inl (xcy G 1, 16, .inl fun _ => 0))] : va_W)) rfl ?_
  refine cw_goto C 38 dJ5_init_d00df_22 (by decide) ?_
  exact cw_vret C hr hlk hAe rfl q1 trivial [0, 1] (by decide) rfl dJ5_init_d00df_38
/-! J4_init_da8c8.<init> -/
abbrev rm_J4_init_da8c8 : Room := { frames := 3, cells := 1, slots := 16, locals := 80 }
set_option maxHeartbeats 8000000 in
set_option maxRecDepth 100000 in
theorem t_J4_init_da8c8 {l : Launch} {G : xG} {h0 : Nat} : ciMet G l yJ4_init_da8c8 wsJ4_init_da8c8 rm_J4_init_da8c8 1 16 h0 [] (.inr (1, [.null, .int 0, .int 0, .int 0])) (S := Nat) (fun _ => True) (fun u => [(h0, .inr (1, [.ref u, .int 0, .int 0, .int 0])), (u, .inl (xcy G 1, 16, .inl fun _ => 0))]) := by
  refine ci_of (cc := cJ4_init_da8c8) (maxL := 1) (RC := RJ4) (by decide) rfl rfl rfl rfl ?_
  intro p e s m below meth c A C X hAx hAe hr hlk
  show cw G p l e rm_J4_init_da8c8 s m (Value.ref h0 :: []).toArray below meth c 1 _ A 0 0 [(h0, .inr (1, [.null, .int 0, .int 0, .int 0]))] 0 [(0, .ref h0)] []
  refine cw_aload_n C 0 dJ4_init_da8c8_0 rfl ?_
  refine cw_bipush (v := 16) C dJ4_init_da8c8_1 (by decide) ?_
  refine cw_call (st' := ([] : va_W)) C X hAx (t_J5_init_d00df (h0 := h0)) (cwI 1 C.1.2.2.2.2 gJ4_init_da8c8_J5_init_d00df rfl rfl rfl (C.1.2.2.2.2 _ (by decide +kernel)) (C.1.2.2.2.2 _ (by decide +kernel)) (C.1.2.2.2.2 _ (by decide +kernel)) rfl (by decide +kernel) ⟨(Nat.le_of_ble_eq_true rfl), (Nat.le_of_ble_eq_true rfl)⟩) rfl rfl rfl (Nat.le_of_ble_eq_true rfl) dJ4_init_da8c8_3 ⟨(Nat.le_of_ble_eq_true rfl), (Nat.le_of_ble_eq_true rfl)⟩ (fun u1 hu1 => ?_)
  refine cw_eq (ws' := ([(h0, .inr (1, [.ref u1, .int 0, .int 0, .int 0])), (u1, .inl (xcy G 1, 16, .inl fun _ => 0))] : va_W)) rfl ?_
  exact cw_vret C hr hlk hAe rfl u1 trivial [0, 1] (by decide) rfl dJ4_init_da8c8_6
/-! X4_init.<init> -/
abbrev rm_X4_init : Room := { frames := 4, cells := 3, slots := 23, locals := 110 }
set_option maxHeartbeats 8000000 in
set_option maxRecDepth 100000 in
theorem t_X4_init {l : Launch} {G : xG} {h0 : Nat} : ciMet G l yX4_init wsX4_init rm_X4_init 3 23 h0 [] (.inr (6, [.null, .null, .int 0])) (S := Nat → Nat) (fun _ => True) (fun u => [(h0, .inr (6, [.ref (u 1), .ref (u 3), .int 0])), (u 1, .inr (1, [.ref (u 2), .int 0, .int 0, .int 0])), (u 2, .inl (xcy G 1, 16, .inl fun _ => 0)), (u 3, .inl (xcy G 0, 3, .inl fun _ => 0))]) := by
  refine ci_of (cc := cX4_init) (maxL := 1) (RC := RX4) (by decide) rfl rfl rfl rfl ?_
  intro p e s m below meth c A C X hAx hAe hr hlk
  have iJ4 : ∀ w ∈ wsJ40, w ∈ wsX4_init := by decide +kernel
  have iX4 : ∀ w ∈ wsX40, w ∈ wsX4_init := by decide +kernel
  show cw G p l e rm_X4_init s m (Value.ref h0 :: []).toArray below meth c 1 _ A 0 0 [(h0, .inr (6, [.null, .null, .int 0]))] 0 [(0, .ref h0)] []
  refine cw_aload_n C 0 dX4_init_0 rfl ?_
  refine cw_obj C (by decide +kernel) (by decide +kernel) (by decide +kernel) dX4_init_1 (Nat.le_of_ble_eq_true rfl) (Nat.le_of_ble_eq_true rfl) ?_
  refine cw_aload_n C 0 dX4_init_4 rfl ?_
  refine cw_new (ci := 1) (fs := [.null, .int 0, .int 0, .int 0]) C iJ4 tyJ4 tyJ4_ok (by decide +kernel) (by decide +kernel) (by decide +kernel) rfl (fun j hj => match j, hj with | 0, _ => rfl | 1, _ => rfl | 2, _ => rfl | 3, _ => rfl) (Nat.le_of_ble_eq_true rfl) (Nat.le_of_ble_eq_true rfl) dX4_init_5 (fun q1 => ?_)
  refine cw_eq (ws' := ([(h0, .inr (6, [.null, .null, .int 0])), (q1, .inr (1, [.null, .int 0, .int 0, .int 0]))] : va_W)) rfl ?_
  refine cw_dup C dX4_init_8 rfl ?_
  refine cw_call (st' := ([(h0, .inr (6, [.null, .null, .int 0]))] : va_W)) C X hAx (t_J4_init_da8c8 (h0 := q1)) (cwI 0 C.1.2.2.2.2 gX4_init_J4_init_da8c8 rfl rfl rfl (C.1.2.2.2.2 _ (by decide +kernel)) (C.1.2.2.2.2 _ (by decide +kernel)) (C.1.2.2.2.2 _ (by decide +kernel)) rfl (by decide +kernel) ⟨(Nat.le_of_ble_eq_true rfl), (Nat.le_of_ble_eq_true rfl)⟩) rfl rfl rfl (Nat.le_of_ble_eq_true rfl) dX4_init_9 ⟨(Nat.le_of_ble_eq_true rfl), (Nat.le_of_ble_eq_true rfl)⟩ (fun u2 hu2 => ?_)
  refine cw_eq (ws' := ([(h0, .inr (6, [.null, .null, .int 0])), (q1, .inr (1, [.ref u2, .int 0, .int 0, .int 0])), (u2, .inl (xcy G 1, 16, .inl fun _ => 0))] : va_W)) rfl ?_
  refine cw_putF C (by decide) iX4 tyX4 tyX4_ok nmX4 0 rfl rfl 0 (by decide) (by decide +kernel) rfl rfl rfl rfl rfl rfl (Nat.le_of_ble_eq_true rfl) dX4_init_12 ?_
  refine cw_eq (ws' := ([(h0, .inr (6, [.ref q1, .null, .int 0])), (q1, .inr (1, [.ref u2, .int 0, .int 0, .int 0])), (u2, .inl (xcy G 1, 16, .inl fun _ => 0))] : va_W)) rfl ?_
  refine cw_aload_n C 0 dX4_init_15 rfl ?_
  refine cw_iconst (v := 3) C dX4_init_16 (by decide) ?_
  refine cw_newa (a0 := (3, .inl fun _ => 0)) C 0 rfl (by decide +kernel) rfl (fun _ => rfl) (by decide) rfl (by decide) (Nat.le_of_ble_eq_true rfl) (Nat.le_of_ble_eq_true rfl) dX4_init_17 (fun q3 => ?_)
  refine cw_eq (ws' := ([(h0, .inr (6, [.ref q1, .null, .int 0])), (q1, .inr (1, [.ref u2, .int 0, .int 0, .int 0])), (u2, .inl (xcy G 1, 16, .inl fun _ => 0)), (q3, .inl (xcy G 0, 3, .inl fun _ => 0))] : va_W)) rfl ?_
  refine cw_putF C (by decide) iX4 tyX4 tyX4_ok nmX4 0 rfl rfl 1 (by decide) (by decide +kernel) rfl rfl rfl rfl rfl rfl (Nat.le_of_ble_eq_true rfl) dX4_init_19 ?_
  refine cw_eq (ws' := ([(h0, .inr (6, [.ref q1, .ref q3, .int 0])), (q1, .inr (1, [.ref u2, .int 0, .int 0, .int 0])), (u2, .inl (xcy G 1, 16, .inl fun _ => 0)), (q3, .inl (xcy G 0, 3, .inl fun _ => 0))] : va_W)) rfl ?_
  exact cw_vret C hr hlk hAe rfl (fun r => ([h0, q1, u2, q3] : List Nat).getD r 0) trivial [0, 1, 2, 3] (by decide) rfl dX4_init_22
