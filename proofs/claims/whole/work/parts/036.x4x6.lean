/-! WaitingRoomSimulation$Script.isDigitAhead()Z -/
abbrev rm_X4_isDigitAhead (c s : Nat) : Room := { frames := 4, cells := c, slots := s, locals := 88 }
def f_X4_isDigitAhead (M : xM) : Option (Int32) := (f_J4_length_8abf5 4 M).bind fun q1 => (if q1 ≤ (M.1 2 2) then some (0 : Int32) else (f_J4_charAt_5068e 4 (M.1 2 2) M).bind fun q4 => (if q4 < (48 : Int32) then some (0 : Int32) else (f_J4_charAt_5068e 4 (M.1 2 2) M).bind fun q7 => (if (57 : Int32) < q7 then some (0 : Int32) else some (1 : Int32))))
set_option maxHeartbeats 4000000 in
set_option maxRecDepth 100000 in
theorem t_X4_isDigitAhead {l : Launch} {G : xG} {ta : Nat × Nat} {M : xM} {out : Int32} (hf : f_X4_isDigitAhead M = some out) : xMet G l yX4_isDigitAhead wsX4_isDigitAhead (rm_X4_isDigitAhead 0 0) 0 0 ta M [.ref (xad G 2)] (some (.int out)) M := by
  refine x_met (cc := cX4_isDigitAhead) (nL := 1) (ret := some .boolean) (by decide) rfl (Nat.le_of_ble_eq_true rfl) ?_
  intro p e s m args below meth c C hr hlk
  have C : xC G p s m args c cX4_isDigitAhead 1 wsX4_isDigitAhead RX4 := C
  have i6 : ∀ w ∈ wsX40, w ∈ wsX4_isDigitAhead := by decide +kernel
  unfold f_X4_isDigitAhead at hf
  show xW G p l e (rm_X4_isDigitAhead 0 0) s m args below meth c 1 (MQ below (xQr G (some (.int out)) M) args s 0 0 (xAs G)) 0 0 ta M 0 [(0, .ref (xad G 2))] []
  refine x_aload_n C 0 dX4_isDigitAhead_0 rfl ?_
  refine x_get6 C xkd_2 i6 2 (by decide) (by decide +kernel) rfl rfl dX4_isDigitAhead_1 ?_
  refine x_aload_n C 0 dX4_isDigitAhead_4 rfl ?_
  refine x_get6 C xkd_2 i6 0 (by decide) (by decide +kernel) rfl rfl dX4_isDigitAhead_5 ?_
  obtain ⟨q1, hg, hf⟩ := x_bd hf
  refine x_callVCTr C (xRv_1 C xkd_4) (t_J4_length_8abf5 xkd_4 hg) (cwV 0 C.1.2.2.2.2 gX4_isDigitAhead_J4_length_8abf5 rfl rfl rfl (by decide +kernel) ⟨Nat.le_of_ble_eq_true rfl, Nat.le_of_ble_eq_true rfl⟩) rfl rfl (Nat.le_of_ble_eq_true rfl) dX4_isDigitAhead_8 ⟨Nat.zero_le _, Nat.zero_le _⟩ ?_
  clear hg
  refine x_icmp_ge C 50 dX4_isDigitAhead_11 (by decide) (fun hc3 => ?_) (fun hc3 => ?_)
  · have hf := x_ip hc3 hf
    refine x_iconst (v := 0) C dX4_isDigitAhead_50 (by decide) ?_
    obtain rfl := Option.some.inj hf
    exact x_zret C hr hlk (x_nb (Or.inl rfl)) dX4_isDigitAhead_51
  · have hf := x_ine hc3 hf
    refine x_aload_n C 0 dX4_isDigitAhead_14 rfl ?_
    refine x_get6 C xkd_2 i6 0 (by decide) (by decide +kernel) rfl rfl dX4_isDigitAhead_15 ?_
    refine x_aload_n C 0 dX4_isDigitAhead_18 rfl ?_
    refine x_get6 C xkd_2 i6 2 (by decide) (by decide +kernel) rfl rfl dX4_isDigitAhead_19 ?_
    obtain ⟨q4, hg, hf⟩ := x_bd hf
    refine x_callVCTr C (xRv_1 C xkd_4) (t_J4_charAt_5068e xkd_4 hg) (cwV 1 C.1.2.2.2.2 gX4_isDigitAhead_J4_charAt_5068e rfl rfl rfl (by decide +kernel) ⟨Nat.le_of_ble_eq_true rfl, Nat.le_of_ble_eq_true rfl⟩) rfl rfl (Nat.le_of_ble_eq_true rfl) dX4_isDigitAhead_22 ⟨Nat.zero_le _, Nat.zero_le _⟩ ?_
    clear hg
    refine x_bipush (v := 48) C dX4_isDigitAhead_25 (by decide) ?_
    refine x_icmp_lt C 50 dX4_isDigitAhead_27 (by decide) (fun hc6 => ?_) (fun hc6 => ?_)
    · have hf := x_ip hc6 hf
      refine x_iconst (v := 0) C dX4_isDigitAhead_50 (by decide) ?_
      obtain rfl := Option.some.inj hf
      exact x_zret C hr hlk (x_nb (Or.inl rfl)) dX4_isDigitAhead_51
    · have hf := x_ine hc6 hf
      refine x_aload_n C 0 dX4_isDigitAhead_30 rfl ?_
      refine x_get6 C xkd_2 i6 0 (by decide) (by decide +kernel) rfl rfl dX4_isDigitAhead_31 ?_
      refine x_aload_n C 0 dX4_isDigitAhead_34 rfl ?_
      refine x_get6 C xkd_2 i6 2 (by decide) (by decide +kernel) rfl rfl dX4_isDigitAhead_35 ?_
      obtain ⟨q7, hg, hf⟩ := x_bd hf
      refine x_callVCTr C (xRv_1 C xkd_4) (t_J4_charAt_5068e xkd_4 hg) (cwV 1 C.1.2.2.2.2 gX4_isDigitAhead_J4_charAt_5068e rfl rfl rfl (by decide +kernel) ⟨Nat.le_of_ble_eq_true rfl, Nat.le_of_ble_eq_true rfl⟩) rfl rfl (Nat.le_of_ble_eq_true rfl) dX4_isDigitAhead_38 ⟨Nat.zero_le _, Nat.zero_le _⟩ ?_
      clear hg
      refine x_bipush (v := 57) C dX4_isDigitAhead_41 (by decide) ?_
      refine x_icmp_gt C 50 dX4_isDigitAhead_43 (by decide) (fun hc9 => ?_) (fun hc9 => ?_)
      · have hf := x_ip hc9 hf
        refine x_iconst (v := 0) C dX4_isDigitAhead_50 (by decide) ?_
        obtain rfl := Option.some.inj hf
        exact x_zret C hr hlk (x_nb (Or.inl rfl)) dX4_isDigitAhead_51
      · have hf := x_ine hc9 hf
        refine x_iconst (v := 1) C dX4_isDigitAhead_46 (by decide) ?_
        refine x_goto C 51 dX4_isDigitAhead_47 (by decide) ?_
        obtain rfl := Option.some.inj hf
        exact x_zret C hr hlk (x_nb (Or.inr rfl)) dX4_isDigitAhead_51
/-! WaitingRoomSimulation$Script.readNumber(II)Z -/
abbrev rm_X4_readNumber (c s : Nat) : Room := { frames := 5, cells := c, slots := s, locals := 108 }
def f_X4_readNumber_L19 (v1 : Int32) (v2 : Int32) : Nat → Int32 → Int32 → xM → Option (Int32 × xM)
  | 0, _, _, _ => none
  | n+1, v3, v4, M => (if v2 ≤ v4 then if x_in v1 3 = true then x_let (sI M 3 v1.toNatClampNeg v3) fun M7 => some ((1 : Int32), M7) else none else (f_X4_isDigitAhead M).bind fun q9 => (if q9 = 0 then if x_in v1 3 = true then x_let (sI M 3 v1.toNatClampNeg v3) fun M13 => some ((1 : Int32), M13) else none else (f_J4_charAt_5068e 4 (M.1 2 2) M).bind fun q15 => x_let (sI M 2 2 ((M.1 2 2) + (1 : Int32))) fun M17 => f_X4_readNumber_L19 v1 v2 n ((v3 * (10 : Int32)) + (q15 - (48 : Int32))) (v4 + 1) M17))
def f_X4_readNumber (a1 : Int32) (a2 : Int32) (M : xM) : Option (Int32 × xM) := (if (3 : Int32) ≤ a1 then some ((0 : Int32), M) else (f_X4_isDigitAhead M).bind fun q2 => (if q2 = 0 then some ((0 : Int32), M) else f_X4_readNumber_L19 a1 a2 xF (0 : Int32) (0 : Int32) M))
set_option maxHeartbeats 4000000 in
set_option maxRecDepth 100000 in
theorem t_X4_readNumber_L19 {G : xG} {p : Program} {l : Launch} {e : Env} {s : State} {m : MethodId} {args : Array Value} {below : List Frame} {meth : Method} {c : Code} (C : xC G p s m args c cX4_readNumber 5 wsX4_readNumber RX4) (hr : meth.sig.returnType = some .boolean) (hlk : meth.locks = false) {v1 : Int32} {v2 : Int32} : ∀ (n : Nat) (v3 : Int32) (v4 : Int32) (M : xM) (ta : Nat × Nat) (out : Int32 × xM), f_X4_readNumber_L19 v1 v2 n v3 v4 M = some out → xW G p l e (rm_X4_readNumber 0 0) s m args below meth c 5 (MQ below (xQr G (some (.int out.1)) out.2) args s 0 0 (xAs G)) 0 0 ta M 19 [(0, .ref (xad G 2)), (1, .int v1), (2, .int v2), (3, .int v3), (4, .int v4)] [] := by
  intro n
  induction n with
  | zero =>
    intro v3 v4 M ta out hf
    rw [f_X4_readNumber_L19] at hf
    cases hf
  | succ n ih =>
    intro v3 v4 M ta out hf
    rw [f_X4_readNumber_L19] at hf
    have i6 : ∀ w ∈ wsX40, w ∈ wsX4_readNumber := by decide +kernel
    refine x_iload C 4 dX4_readNumber_19 rfl ?_
    refine x_iload_n C 2 dX4_readNumber_21 rfl ?_
    refine x_icmp_ge C 68 dX4_readNumber_22 (by decide) (fun hc5 => ?_) (fun hc5 => ?_)
    · have hf := x_ip hc5 hf
      refine x_aload_n C 0 dX4_readNumber_68 rfl ?_
      refine x_get6 C xkd_2 i6 1 (by decide) (by decide +kernel) rfl rfl dX4_readNumber_69 ?_
      refine x_iload_n C 1 dX4_readNumber_72 rfl ?_
      refine x_iload_n C 3 dX4_readNumber_73 rfl ?_
      obtain ⟨g6, hf⟩ := x_gd hf
      refine x_iast C xkd_3 xl_3 g6 dX4_readNumber_74 ?_
      obtain ⟨M7, e8, hf⟩ := x_lt hf
      rw [← e8]
      clear e8
      refine x_iconst (v := 1) C dX4_readNumber_75 (by decide) ?_
      obtain rfl := Option.some.inj hf
      exact x_zret C hr hlk (x_nb (Or.inr rfl)) dX4_readNumber_76
    · have hf := x_ine hc5 hf
      refine x_aload_n C 0 dX4_readNumber_25 rfl ?_
      obtain ⟨q9, hg, hf⟩ := x_bd hf
      refine x_callVr C (by rw [xkd_2]; decide) (by rw [xkd_2]; decide) (xc6 xkd_2) rfl (t_X4_isDigitAhead hg) (cwV 0 C.1.2.2.2.2 gX4_readNumber_X4_isDigitAhead rfl rfl rfl (by decide +kernel) ⟨Nat.le_of_ble_eq_true rfl, Nat.le_of_ble_eq_true rfl⟩) rfl rfl (Nat.le_of_ble_eq_true rfl) dX4_readNumber_26 ⟨Nat.zero_le _, Nat.zero_le _⟩ (fun ta10 => ?_)
      clear hg
      refine x_if_eq C 68 dX4_readNumber_29 (by decide) (fun hc11 => ?_) (fun hc11 => ?_)
      · have hf := x_ip hc11 hf
        refine x_aload_n C 0 dX4_readNumber_68 rfl ?_
        refine x_get6 C xkd_2 i6 1 (by decide) (by decide +kernel) rfl rfl dX4_readNumber_69 ?_
        refine x_iload_n C 1 dX4_readNumber_72 rfl ?_
        refine x_iload_n C 3 dX4_readNumber_73 rfl ?_
        obtain ⟨g12, hf⟩ := x_gd hf
        refine x_iast C xkd_3 xl_3 g12 dX4_readNumber_74 ?_
        obtain ⟨M13, e14, hf⟩ := x_lt hf
        rw [← e14]
        clear e14
        refine x_iconst (v := 1) C dX4_readNumber_75 (by decide) ?_
        obtain rfl := Option.some.inj hf
        exact x_zret C hr hlk (x_nb (Or.inr rfl)) dX4_readNumber_76
      · have hf := x_ine hc11 hf
        refine x_iload_n C 3 dX4_readNumber_32 rfl ?_
        refine x_bipush (v := 10) C dX4_readNumber_33 (by decide) ?_
        refine x_imul C dX4_readNumber_35 ?_
        refine x_aload_n C 0 dX4_readNumber_36 rfl ?_
        refine x_get6 C xkd_2 i6 0 (by decide) (by decide +kernel) rfl rfl dX4_readNumber_37 ?_
        refine x_aload_n C 0 dX4_readNumber_40 rfl ?_
        refine x_get6 C xkd_2 i6 2 (by decide) (by decide +kernel) rfl rfl dX4_readNumber_41 ?_
        obtain ⟨q15, hg, hf⟩ := x_bd hf
        refine x_callVCTr C (xRv_1 C xkd_4) (t_J4_charAt_5068e xkd_4 hg) (cwV 1 C.1.2.2.2.2 gX4_readNumber_J4_charAt_5068e rfl rfl rfl (by decide +kernel) ⟨Nat.le_of_ble_eq_true rfl, Nat.le_of_ble_eq_true rfl⟩) rfl rfl (Nat.le_of_ble_eq_true rfl) dX4_readNumber_44 ⟨Nat.zero_le _, Nat.zero_le _⟩ ?_
        clear hg
        refine x_bipush (v := 48) C dX4_readNumber_47 (by decide) ?_
        refine x_isub C dX4_readNumber_49 ?_
        refine x_iadd C dX4_readNumber_50 ?_
        refine x_istore_n (lv' := [(3, .int ((v3 * (10 : Int32)) + (q15 - (48 : Int32)))), (0, .ref (xad G 2)), (1, .int v1), (2, .int v2), (4, .int v4)]) C dX4_readNumber_51 rfl (by decide) rfl ?_
        refine x_aload_n C 1 dX4_readNumber_52 rfl ?_
        refine x_dup C dX4_readNumber_53 rfl ?_
        refine x_get6 C xkd_2 i6 2 (by decide) (by decide +kernel) rfl rfl dX4_readNumber_54 ?_
        refine x_iconst (v := 1) C dX4_readNumber_57 (by decide) ?_
        refine x_iadd C dX4_readNumber_58 ?_
        refine x_put6 C xkd_2 i6 2 (by decide) (by decide +kernel) dX4_readNumber_59 ?_
        obtain ⟨M17, e18, hf⟩ := x_lt hf
        rw [← e18]
        clear e18
        refine x_iinc (v := v4 + 1) (lv' := [(4, .int (v4 + 1)), (3, .int ((v3 * (10 : Int32)) + (q15 - (48 : Int32)))), (0, .ref (xad G 2)), (1, .int v1), (2, .int v2)]) C 4 dX4_readNumber_62 rfl rfl (by decide) rfl ?_
        refine x_goto C 19 dX4_readNumber_65 (by decide) ?_
        refine x_sub [2, 3, 4, 1, 0] rfl ?_
        exact ih ((v3 * (10 : Int32)) + (q15 - (48 : Int32))) (v4 + 1) M17 _ _ hf
set_option maxHeartbeats 4000000 in
set_option maxRecDepth 100000 in
theorem t_X4_readNumber {l : Launch} {G : xG} {ta : Nat × Nat} {M : xM} {a1 : Int32} {a2 : Int32} {out : Int32 × xM} (hf : f_X4_readNumber a1 a2 M = some out) : xMet G l yX4_readNumber wsX4_readNumber (rm_X4_readNumber 0 0) 0 0 ta M [.ref (xad G 2), .int a1, .int a2] (some (.int out.1)) out.2 := by
  refine x_met (cc := cX4_readNumber) (nL := 5) (ret := some .boolean) (by decide) rfl (Nat.le_of_ble_eq_true rfl) ?_
  intro p e s m args below meth c C hr hlk
  have C : xC G p s m args c cX4_readNumber 5 wsX4_readNumber RX4 := C
  have i6 : ∀ w ∈ wsX40, w ∈ wsX4_readNumber := by decide +kernel
  unfold f_X4_readNumber at hf
  show xW G p l e (rm_X4_readNumber 0 0) s m args below meth c 5 (MQ below (xQr G (some (.int out.1)) out.2) args s 0 0 (xAs G)) 0 0 ta M 0 [(0, .ref (xad G 2)), (1, .int a1), (2, .int a2)] []
  refine x_iload_n C 1 dX4_readNumber_0 rfl ?_
  refine x_iconst (v := 3) C dX4_readNumber_1 (by decide) ?_
  refine x_icmp_ge C 12 dX4_readNumber_2 (by decide) (fun hc1 => ?_) (fun hc1 => ?_)
  · have hf := x_ip hc1 hf
    refine x_iconst (v := 0) C dX4_readNumber_12 (by decide) ?_
    obtain rfl := Option.some.inj hf
    exact x_zret C hr hlk (x_nb (Or.inl rfl)) dX4_readNumber_13
  · have hf := x_ine hc1 hf
    refine x_aload_n C 0 dX4_readNumber_5 rfl ?_
    obtain ⟨q2, hg, hf⟩ := x_bd hf
    refine x_callVr C (by rw [xkd_2]; decide) (by rw [xkd_2]; decide) (xc6 xkd_2) rfl (t_X4_isDigitAhead hg) (cwV 0 C.1.2.2.2.2 gX4_readNumber_X4_isDigitAhead rfl rfl rfl (by decide +kernel) ⟨Nat.le_of_ble_eq_true rfl, Nat.le_of_ble_eq_true rfl⟩) rfl rfl (Nat.le_of_ble_eq_true rfl) dX4_readNumber_6 ⟨Nat.zero_le _, Nat.zero_le _⟩ (fun ta3 => ?_)
    clear hg
    refine x_if_ne C 14 dX4_readNumber_9 (by decide) (fun hc4 => ?_) (fun hc4 => ?_)
    · have hf := x_ine hc4 hf
      refine x_iconst (v := 0) C dX4_readNumber_14 (by decide) ?_
      refine x_istore_n (lv' := [(3, .int (0 : Int32)), (0, .ref (xad G 2)), (1, .int a1), (2, .int a2)]) C dX4_readNumber_15 rfl (by decide) rfl ?_
      refine x_iconst (v := 0) C dX4_readNumber_16 (by decide) ?_
      refine x_istore (lv' := [(4, .int (0 : Int32)), (3, .int (0 : Int32)), (0, .ref (xad G 2)), (1, .int a1), (2, .int a2)]) C dX4_readNumber_17 (by decide) rfl ?_
      refine x_sub [2, 3, 4, 1, 0] rfl ?_
      exact t_X4_readNumber_L19 C hr hlk xF (0 : Int32) (0 : Int32) M _ _ hf
    · have hf := x_ip hc4 hf
      refine x_iconst (v := 0) C dX4_readNumber_12 (by decide) ?_
      obtain rfl := Option.some.inj hf
      exact x_zret C hr hlk (x_nb (Or.inl rfl)) dX4_readNumber_13
/-! WaitingRoomSimulation$Script.readSign(C)Z -/
abbrev rm_X4_readSign (c s : Nat) : Room := { frames := 4, cells := c, slots := s, locals := 88 }
def f_X4_readSign (a1 : Int32) (M : xM) : Option (Int32 × xM) := (f_J4_length_8abf5 4 M).bind fun q1 => (if q1 ≤ (M.1 2 2) then some ((0 : Int32), M) else (f_J4_charAt_5068e 4 (M.1 2 2) M).bind fun q4 => (if q4 = a1 then x_let (sI M 2 2 ((M.1 2 2) + (1 : Int32))) fun M7 => some ((1 : Int32), M7) else some ((0 : Int32), M)))
set_option maxHeartbeats 4000000 in
set_option maxRecDepth 100000 in
theorem t_X4_readSign {l : Launch} {G : xG} {ta : Nat × Nat} {M : xM} {a1 : Int32} {out : Int32 × xM} (hf : f_X4_readSign a1 M = some out) : xMet G l yX4_readSign wsX4_readSign (rm_X4_readSign 0 0) 0 0 ta M [.ref (xad G 2), .int a1] (some (.int out.1)) out.2 := by
  refine x_met (cc := cX4_readSign) (nL := 2) (ret := some .boolean) (by decide) rfl (Nat.le_of_ble_eq_true rfl) ?_
  intro p e s m args below meth c C hr hlk
  have C : xC G p s m args c cX4_readSign 2 wsX4_readSign RX4 := C
  have i6 : ∀ w ∈ wsX40, w ∈ wsX4_readSign := by decide +kernel
  unfold f_X4_readSign at hf
  show xW G p l e (rm_X4_readSign 0 0) s m args below meth c 2 (MQ below (xQr G (some (.int out.1)) out.2) args s 0 0 (xAs G)) 0 0 ta M 0 [(0, .ref (xad G 2)), (1, .int a1)] []
  refine x_aload_n C 0 dX4_readSign_0 rfl ?_
  refine x_get6 C xkd_2 i6 2 (by decide) (by decide +kernel) rfl rfl dX4_readSign_1 ?_
  refine x_aload_n C 0 dX4_readSign_4 rfl ?_
  refine x_get6 C xkd_2 i6 0 (by decide) (by decide +kernel) rfl rfl dX4_readSign_5 ?_
  obtain ⟨q1, hg, hf⟩ := x_bd hf
  refine x_callVCTr C (xRv_1 C xkd_4) (t_J4_length_8abf5 xkd_4 hg) (cwV 0 C.1.2.2.2.2 gX4_readSign_J4_length_8abf5 rfl rfl rfl (by decide +kernel) ⟨Nat.le_of_ble_eq_true rfl, Nat.le_of_ble_eq_true rfl⟩) rfl rfl (Nat.le_of_ble_eq_true rfl) dX4_readSign_8 ⟨Nat.zero_le _, Nat.zero_le _⟩ ?_
  clear hg
  refine x_icmp_ge C 29 dX4_readSign_11 (by decide) (fun hc3 => ?_) (fun hc3 => ?_)
  · have hf := x_ip hc3 hf
    refine x_iconst (v := 0) C dX4_readSign_29 (by decide) ?_
    obtain rfl := Option.some.inj hf
    exact x_zret C hr hlk (x_nb (Or.inl rfl)) dX4_readSign_30
  · have hf := x_ine hc3 hf
    refine x_aload_n C 0 dX4_readSign_14 rfl ?_
    refine x_get6 C xkd_2 i6 0 (by decide) (by decide +kernel) rfl rfl dX4_readSign_15 ?_
    refine x_aload_n C 0 dX4_readSign_18 rfl ?_
    refine x_get6 C xkd_2 i6 2 (by decide) (by decide +kernel) rfl rfl dX4_readSign_19 ?_
    obtain ⟨q4, hg, hf⟩ := x_bd hf
    refine x_callVCTr C (xRv_1 C xkd_4) (t_J4_charAt_5068e xkd_4 hg) (cwV 1 C.1.2.2.2.2 gX4_readSign_J4_charAt_5068e rfl rfl rfl (by decide +kernel) ⟨Nat.le_of_ble_eq_true rfl, Nat.le_of_ble_eq_true rfl⟩) rfl rfl (Nat.le_of_ble_eq_true rfl) dX4_readSign_22 ⟨Nat.zero_le _, Nat.zero_le _⟩ ?_
    clear hg
    refine x_iload_n C 1 dX4_readSign_25 rfl ?_
    refine x_icmp_eq C 31 dX4_readSign_26 (by decide) (fun hc6 => ?_) (fun hc6 => ?_)
    · have hf := x_ip hc6 hf
      refine x_aload_n C 0 dX4_readSign_31 rfl ?_
      refine x_dup C dX4_readSign_32 rfl ?_
      refine x_get6 C xkd_2 i6 2 (by decide) (by decide +kernel) rfl rfl dX4_readSign_33 ?_
      refine x_iconst (v := 1) C dX4_readSign_36 (by decide) ?_
      refine x_iadd C dX4_readSign_37 ?_
      refine x_put6 C xkd_2 i6 2 (by decide) (by decide +kernel) dX4_readSign_38 ?_
      obtain ⟨M7, e8, hf⟩ := x_lt hf
      rw [← e8]
      clear e8
      refine x_iconst (v := 1) C dX4_readSign_41 (by decide) ?_
      obtain rfl := Option.some.inj hf
      exact x_zret C hr hlk (x_nb (Or.inr rfl)) dX4_readSign_42
    · have hf := x_ine hc6 hf
      refine x_iconst (v := 0) C dX4_readSign_29 (by decide) ?_
      obtain rfl := Option.some.inj hf
      exact x_zret C hr hlk (x_nb (Or.inl rfl)) dX4_readSign_30
/-! WaitingRoomSimulation$Script.matches(Ljava/lang/String;I)Z -/
abbrev rm_X4_matches (c s : Nat) : Room := { frames := 6, cells := c, slots := s, locals := 132 }
def f_X4_matches_L10 (a1 : Nat) : Nat → Int32 → Int32 → xM → Option (Int32 × xM)
  | 0, _, _, _ => none
  | n+1, v3, v4, M => (f_J0_length_8abf5 a1 M).bind fun q3 => (if q3 ≤ v4 then (f_J4_length_8abf5 4 M).bind fun q6 => (if q6 ≤ (M.1 2 2) then some ((1 : Int32), M) else (f_J4_charAt_5068e 4 (M.1 2 2) M).bind fun q9 => (if q9 = (59 : Int32) then some ((1 : Int32), M) else some ((0 : Int32), M))) else (f_J0_charAt_5068e a1 v4 M).bind fun q12 => (if q12 = (35 : Int32) then (if q12 = (35 : Int32) then (f_X4_readNumber v3 (2 : Int32) M).bind fun q19 => (if q19.1 = 0 then some ((0 : Int32), q19.2) else f_X4_matches_L10 a1 n (v3 + 1) (v4 + 1) q19.2) else (f_X4_readNumber v3 (1 : Int32) M).bind fun q16 => (if q16.1 = 0 then some ((0 : Int32), q16.2) else f_X4_matches_L10 a1 n (v3 + 1) (v4 + 1) q16.2)) else (if q12 = (37 : Int32) then (if q12 = (35 : Int32) then (f_X4_readNumber v3 (2 : Int32) M).bind fun q30 => (if q30.1 = 0 then some ((0 : Int32), q30.2) else f_X4_matches_L10 a1 n (v3 + 1) (v4 + 1) q30.2) else (f_X4_readNumber v3 (1 : Int32) M).bind fun q27 => (if q27.1 = 0 then some ((0 : Int32), q27.2) else f_X4_matches_L10 a1 n (v3 + 1) (v4 + 1) q27.2)) else (f_X4_readSign q12 M).bind fun q23 => (if q23.1 = 0 then some ((0 : Int32), q23.2) else f_X4_matches_L10 a1 n v3 (v4 + 1) q23.2))))
def f_X4_matches (a1 : Nat) (a2 : Int32) (M : xM) : Option (Int32 × xM) := x_let (sI M 2 2 a2) fun M1 => f_X4_matches_L10 a1 xF (0 : Int32) (0 : Int32) M1
set_option maxHeartbeats 4000000 in
set_option maxRecDepth 100000 in
theorem t_X4_matches_L10 {G : xG} {p : Program} {l : Launch} {e : Env} {s : State} {m : MethodId} {args : Array Value} {below : List Frame} {meth : Method} {c : Code} (C : xC G p s m args c cX4_matches 7 wsX4_matches RX4) (hr : meth.sig.returnType = some .boolean) (hlk : meth.locks = false) {a1 : Nat} (ka1 : a1 < 10) : ∀ (n : Nat) (v3 : Int32) (v4 : Int32) (M : xM) (ta : Nat × Nat) (out : Int32 × xM), f_X4_matches_L10 a1 n v3 v4 M = some out → xW G p l e (rm_X4_matches 0 0) s m args below meth c 7 (MQ below (xQr G (some (.int out.1)) out.2) args s 0 0 (xAs G)) 0 0 ta M 10 [(0, .ref (xad G 2)), (1, .ref (xtx G a1)), (3, .int v3), (4, .int v4)] [] := by
  intro n
  induction n with
  | zero =>
    intro v3 v4 M ta out hf
    rw [f_X4_matches_L10] at hf
    cases hf
  | succ n ih =>
    intro v3 v4 M ta out hf
    rw [f_X4_matches_L10] at hf
    have i6 : ∀ w ∈ wsX40, w ∈ wsX4_matches := by decide +kernel
    refine x_iload C 3 dX4_matches_10 rfl ?_
    refine x_aload_n C 1 dX4_matches_12 rfl ?_
    obtain ⟨q3, hg, hf⟩ := x_bd hf
    refine x_callVCTr C (xRv_s C ka1) (t_J0_length_8abf5 ka1 hg) (cwV 0 C.1.2.2.2.2 gX4_matches_J0_length_8abf5 rfl rfl rfl (by decide +kernel) ⟨Nat.le_of_ble_eq_true rfl, Nat.le_of_ble_eq_true rfl⟩) rfl rfl (Nat.le_of_ble_eq_true rfl) dX4_matches_13 ⟨Nat.zero_le _, Nat.zero_le _⟩ ?_
    clear hg
    refine x_icmp_ge C 87 dX4_matches_16 (by decide) (fun hc5 => ?_) (fun hc5 => ?_)
    · have hf := x_ip hc5 hf
      refine x_aload_n C 0 dX4_matches_87 rfl ?_
      refine x_get6 C xkd_2 i6 2 (by decide) (by decide +kernel) rfl rfl dX4_matches_88 ?_
      refine x_aload_n C 0 dX4_matches_91 rfl ?_
      refine x_get6 C xkd_2 i6 0 (by decide) (by decide +kernel) rfl rfl dX4_matches_92 ?_
      obtain ⟨q6, hg, hf⟩ := x_bd hf
      refine x_callVCTr C (xRv_1 C xkd_4) (t_J4_length_8abf5 xkd_4 hg) (cwV 0 C.1.2.2.2.2 gX4_matches_J4_length_8abf5 rfl rfl rfl (by decide +kernel) ⟨Nat.le_of_ble_eq_true rfl, Nat.le_of_ble_eq_true rfl⟩) rfl rfl (Nat.le_of_ble_eq_true rfl) dX4_matches_95 ⟨Nat.zero_le _, Nat.zero_le _⟩ ?_
      clear hg
      refine x_icmp_ge C 117 dX4_matches_98 (by decide) (fun hc8 => ?_) (fun hc8 => ?_)
      · have hf := x_ip hc8 hf
        refine x_iconst (v := 1) C dX4_matches_117 (by decide) ?_
        refine x_goto C 122 dX4_matches_118 (by decide) ?_
        obtain rfl := Option.some.inj hf
        exact x_zret C hr hlk (x_nb (Or.inr rfl)) dX4_matches_122
      · have hf := x_ine hc8 hf
        refine x_aload_n C 0 dX4_matches_101 rfl ?_
        refine x_get6 C xkd_2 i6 0 (by decide) (by decide +kernel) rfl rfl dX4_matches_102 ?_
        refine x_aload_n C 0 dX4_matches_105 rfl ?_
        refine x_get6 C xkd_2 i6 2 (by decide) (by decide +kernel) rfl rfl dX4_matches_106 ?_
        obtain ⟨q9, hg, hf⟩ := x_bd hf
        refine x_callVCTr C (xRv_1 C xkd_4) (t_J4_charAt_5068e xkd_4 hg) (cwV 1 C.1.2.2.2.2 gX4_matches_J4_charAt_5068e rfl rfl rfl (by decide +kernel) ⟨Nat.le_of_ble_eq_true rfl, Nat.le_of_ble_eq_true rfl⟩) rfl rfl (Nat.le_of_ble_eq_true rfl) dX4_matches_109 ⟨Nat.zero_le _, Nat.zero_le _⟩ ?_
        clear hg
        refine x_bipush (v := 59) C dX4_matches_112 (by decide) ?_
        refine x_icmp_ne C 121 dX4_matches_114 (by decide) (fun hc11 => ?_) (fun hc11 => ?_)
        · have hf := x_ine hc11 hf
          refine x_iconst (v := 0) C dX4_matches_121 (by decide) ?_
          obtain rfl := Option.some.inj hf
          exact x_zret C hr hlk (x_nb (Or.inl rfl)) dX4_matches_122
        · have hf := x_ip hc11 hf
          refine x_iconst (v := 1) C dX4_matches_117 (by decide) ?_
          refine x_goto C 122 dX4_matches_118 (by decide) ?_
          obtain rfl := Option.some.inj hf
          exact x_zret C hr hlk (x_nb (Or.inr rfl)) dX4_matches_122
    · have hf := x_ine hc5 hf
      refine x_aload_n C 1 dX4_matches_19 rfl ?_
      refine x_iload C 3 dX4_matches_20 rfl ?_
      obtain ⟨q12, hg, hf⟩ := x_bd hf
      refine x_callVCTr C (xRv_s C ka1) (t_J0_charAt_5068e ka1 hg) (cwV 1 C.1.2.2.2.2 gX4_matches_J0_charAt_5068e rfl rfl rfl (by decide +kernel) ⟨Nat.le_of_ble_eq_true rfl, Nat.le_of_ble_eq_true rfl⟩) rfl rfl (Nat.le_of_ble_eq_true rfl) dX4_matches_22 ⟨Nat.zero_le _, Nat.zero_le _⟩ ?_
      clear hg
      refine x_istore (lv' := [(5, .int q12), (0, .ref (xad G 2)), (1, .ref (xtx G a1)), (3, .int v3), (4, .int v4)]) C dX4_matches_25 (by decide) rfl ?_
      refine x_iload C 0 dX4_matches_27 rfl ?_
      refine x_bipush (v := 35) C dX4_matches_29 (by decide) ?_
      refine x_icmp_eq C 41 dX4_matches_31 (by decide) (fun hc14 => ?_) (fun hc14 => ?_)
      · have hf := x_ip hc14 hf
        refine x_aload_n C 1 dX4_matches_41 rfl ?_
        refine x_iload_n C 3 dX4_matches_42 rfl ?_
        refine x_iload C 0 dX4_matches_43 rfl ?_
        refine x_bipush (v := 35) C dX4_matches_45 (by decide) ?_
        refine x_icmp_ne C 54 dX4_matches_47 (by decide) (fun hc15 => ?_) (fun hc15 => ?_)
        · have hf := x_ine hc15 hf
          refine x_iconst (v := 1) C dX4_matches_54 (by decide) ?_
          obtain ⟨q16, hg, hf⟩ := x_bd hf
          refine x_callVr C (by rw [xkd_2]; decide) (by rw [xkd_2]; decide) (xc6 xkd_2) rfl (t_X4_readNumber hg) (cwV 2 C.1.2.2.2.2 gX4_matches_X4_readNumber rfl rfl rfl (by decide +kernel) ⟨Nat.le_of_ble_eq_true rfl, Nat.le_of_ble_eq_true rfl⟩) rfl rfl (Nat.le_of_ble_eq_true rfl) dX4_matches_55 ⟨Nat.zero_le _, Nat.zero_le _⟩ (fun ta17 => ?_)
          clear hg
          refine x_istore (lv' := [(6, .int q16.1), (5, .int q12), (0, .ref (xad G 2)), (1, .ref (xtx G a1)), (3, .int v3), (4, .int v4)]) C dX4_matches_58 (by decide) rfl ?_
          refine x_iinc (v := v3 + 1) (lv' := [(3, .int (v3 + 1)), (6, .int q16.1), (5, .int q12), (0, .ref (xad G 2)), (1, .ref (xtx G a1)), (4, .int v4)]) C 4 dX4_matches_60 rfl rfl (by decide) rfl ?_
          refine x_goto C 74 dX4_matches_63 (by decide) ?_
          refine x_iload C 1 dX4_matches_74 rfl ?_
          refine x_if_ne C 81 dX4_matches_76 (by decide) (fun hc18 => ?_) (fun hc18 => ?_)
          · have hf := x_ine hc18 hf
            refine x_iinc (v := v4 + 1) (lv' := [(4, .int (v4 + 1)), (3, .int (v3 + 1)), (6, .int q16.1), (5, .int q12), (0, .ref (xad G 2)), (1, .ref (xtx G a1))]) C 5 dX4_matches_81 rfl rfl (by decide) rfl ?_
            refine x_goto C 10 dX4_matches_84 (by decide) ?_
            refine x_sub [4, 5, 1, 0] rfl ?_
            exact ih (v3 + 1) (v4 + 1) q16.2 _ _ hf
          · have hf := x_ip hc18 hf
            refine x_iconst (v := 0) C dX4_matches_79 (by decide) ?_
            obtain rfl := Option.some.inj hf
            exact x_zret C hr hlk (x_nb (Or.inl rfl)) dX4_matches_80
        · have hf := x_ip hc15 hf
          refine x_iconst (v := 2) C dX4_matches_50 (by decide) ?_
          refine x_goto C 55 dX4_matches_51 (by decide) ?_
          obtain ⟨q19, hg, hf⟩ := x_bd hf
          refine x_callVr C (by rw [xkd_2]; decide) (by rw [xkd_2]; decide) (xc6 xkd_2) rfl (t_X4_readNumber hg) (cwV 2 C.1.2.2.2.2 gX4_matches_X4_readNumber rfl rfl rfl (by decide +kernel) ⟨Nat.le_of_ble_eq_true rfl, Nat.le_of_ble_eq_true rfl⟩) rfl rfl (Nat.le_of_ble_eq_true rfl) dX4_matches_55 ⟨Nat.zero_le _, Nat.zero_le _⟩ (fun ta20 => ?_)
          clear hg
          refine x_istore (lv' := [(6, .int q19.1), (5, .int q12), (0, .ref (xad G 2)), (1, .ref (xtx G a1)), (3, .int v3), (4, .int v4)]) C dX4_matches_58 (by decide) rfl ?_
          refine x_iinc (v := v3 + 1) (lv' := [(3, .int (v3 + 1)), (6, .int q19.1), (5, .int q12), (0, .ref (xad G 2)), (1, .ref (xtx G a1)), (4, .int v4)]) C 4 dX4_matches_60 rfl rfl (by decide) rfl ?_
          refine x_goto C 74 dX4_matches_63 (by decide) ?_
          refine x_iload C 1 dX4_matches_74 rfl ?_
          refine x_if_ne C 81 dX4_matches_76 (by decide) (fun hc21 => ?_) (fun hc21 => ?_)
          · have hf := x_ine hc21 hf
            refine x_iinc (v := v4 + 1) (lv' := [(4, .int (v4 + 1)), (3, .int (v3 + 1)), (6, .int q19.1), (5, .int q12), (0, .ref (xad G 2)), (1, .ref (xtx G a1))]) C 5 dX4_matches_81 rfl rfl (by decide) rfl ?_
            refine x_goto C 10 dX4_matches_84 (by decide) ?_
            refine x_sub [4, 5, 1, 0] rfl ?_
            exact ih (v3 + 1) (v4 + 1) q19.2 _ _ hf
          · have hf := x_ip hc21 hf
            refine x_iconst (v := 0) C dX4_matches_79 (by decide) ?_
            obtain rfl := Option.some.inj hf
            exact x_zret C hr hlk (x_nb (Or.inl rfl)) dX4_matches_80
      · have hf := x_ine hc14 hf
        refine x_iload C 0 dX4_matches_34 rfl ?_
        refine x_bipush (v := 37) C dX4_matches_36 (by decide) ?_
        refine x_icmp_ne C 66 dX4_matches_38 (by decide) (fun hc22 => ?_) (fun hc22 => ?_)
        · have hf := x_ine hc22 hf
          refine x_aload_n C 1 dX4_matches_66 rfl ?_
          refine x_iload C 0 dX4_matches_67 rfl ?_
          obtain ⟨q23, hg, hf⟩ := x_bd hf
          refine x_callVr C (by rw [xkd_2]; decide) (by rw [xkd_2]; decide) (xc6 xkd_2) rfl (t_X4_readSign hg) (cwV 1 C.1.2.2.2.2 gX4_matches_X4_readSign rfl rfl rfl (by decide +kernel) ⟨Nat.le_of_ble_eq_true rfl, Nat.le_of_ble_eq_true rfl⟩) rfl rfl (Nat.le_of_ble_eq_true rfl) dX4_matches_69 ⟨Nat.zero_le _, Nat.zero_le _⟩ (fun ta24 => ?_)
          clear hg
          refine x_istore (lv' := [(6, .int q23.1), (5, .int q12), (0, .ref (xad G 2)), (1, .ref (xtx G a1)), (3, .int v3), (4, .int v4)]) C dX4_matches_72 (by decide) rfl ?_
          refine x_iload C 0 dX4_matches_74 rfl ?_
          refine x_if_ne C 81 dX4_matches_76 (by decide) (fun hc25 => ?_) (fun hc25 => ?_)
          · have hf := x_ine hc25 hf
            refine x_iinc (v := v4 + 1) (lv' := [(4, .int (v4 + 1)), (6, .int q23.1), (5, .int q12), (0, .ref (xad G 2)), (1, .ref (xtx G a1)), (3, .int v3)]) C 5 dX4_matches_81 rfl rfl (by decide) rfl ?_
            refine x_goto C 10 dX4_matches_84 (by decide) ?_
            refine x_sub [3, 4, 5, 0] rfl ?_
            exact ih v3 (v4 + 1) q23.2 _ _ hf
          · have hf := x_ip hc25 hf
            refine x_iconst (v := 0) C dX4_matches_79 (by decide) ?_
            obtain rfl := Option.some.inj hf
            exact x_zret C hr hlk (x_nb (Or.inl rfl)) dX4_matches_80
        · have hf := x_ip hc22 hf
          refine x_aload_n C 1 dX4_matches_41 rfl ?_
          refine x_iload_n C 3 dX4_matches_42 rfl ?_
          refine x_iload C 0 dX4_matches_43 rfl ?_
          refine x_bipush (v := 35) C dX4_matches_45 (by decide) ?_
          refine x_icmp_ne C 54 dX4_matches_47 (by decide) (fun hc26 => ?_) (fun hc26 => ?_)
          · have hf := x_ine hc26 hf
            refine x_iconst (v := 1) C dX4_matches_54 (by decide) ?_
            obtain ⟨q27, hg, hf⟩ := x_bd hf
            refine x_callVr C (by rw [xkd_2]; decide) (by rw [xkd_2]; decide) (xc6 xkd_2) rfl (t_X4_readNumber hg) (cwV 2 C.1.2.2.2.2 gX4_matches_X4_readNumber rfl rfl rfl (by decide +kernel) ⟨Nat.le_of_ble_eq_true rfl, Nat.le_of_ble_eq_true rfl⟩) rfl rfl (Nat.le_of_ble_eq_true rfl) dX4_matches_55 ⟨Nat.zero_le _, Nat.zero_le _⟩ (fun ta28 => ?_)
            clear hg
            refine x_istore (lv' := [(6, .int q27.1), (5, .int q12), (0, .ref (xad G 2)), (1, .ref (xtx G a1)), (3, .int v3), (4, .int v4)]) C dX4_matches_58 (by decide) rfl ?_
            refine x_iinc (v := v3 + 1) (lv' := [(3, .int (v3 + 1)), (6, .int q27.1), (5, .int q12), (0, .ref (xad G 2)), (1, .ref (xtx G a1)), (4, .int v4)]) C 4 dX4_matches_60 rfl rfl (by decide) rfl ?_
            refine x_goto C 74 dX4_matches_63 (by decide) ?_
            refine x_iload C 1 dX4_matches_74 rfl ?_
            refine x_if_ne C 81 dX4_matches_76 (by decide) (fun hc29 => ?_) (fun hc29 => ?_)
            · have hf := x_ine hc29 hf
              refine x_iinc (v := v4 + 1) (lv' := [(4, .int (v4 + 1)), (3, .int (v3 + 1)), (6, .int q27.1), (5, .int q12), (0, .ref (xad G 2)), (1, .ref (xtx G a1))]) C 5 dX4_matches_81 rfl rfl (by decide) rfl ?_
              refine x_goto C 10 dX4_matches_84 (by decide) ?_
              refine x_sub [4, 5, 1, 0] rfl ?_
              exact ih (v3 + 1) (v4 + 1) q27.2 _ _ hf
            · have hf := x_ip hc29 hf
              refine x_iconst (v := 0) C dX4_matches_79 (by decide) ?_
              obtain rfl := Option.some.inj hf
              exact x_zret C hr hlk (x_nb (Or.inl rfl)) dX4_matches_80
          · have hf := x_ip hc26 hf
            refine x_iconst (v := 2) C dX4_matches_50 (by decide) ?_
            refine x_goto C 55 dX4_matches_51 (by decide) ?_
            obtain ⟨q30, hg, hf⟩ := x_bd hf
            refine x_callVr C (by rw [xkd_2]; decide) (by rw [xkd_2]; decide) (xc6 xkd_2) rfl (t_X4_readNumber hg) (cwV 2 C.1.2.2.2.2 gX4_matches_X4_readNumber rfl rfl rfl (by decide +kernel) ⟨Nat.le_of_ble_eq_true rfl, Nat.le_of_ble_eq_true rfl⟩) rfl rfl (Nat.le_of_ble_eq_true rfl) dX4_matches_55 ⟨Nat.zero_le _, Nat.zero_le _⟩ (fun ta31 => ?_)
            clear hg
            refine x_istore (lv' := [(6, .int q30.1), (5, .int q12), (0, .ref (xad G 2)), (1, .ref (xtx G a1)), (3, .int v3), (4, .int v4)]) C dX4_matches_58 (by decide) rfl ?_
            refine x_iinc (v := v3 + 1) (lv' := [(3, .int (v3 + 1)), (6, .int q30.1), (5, .int q12), (0, .ref (xad G 2)), (1, .ref (xtx G a1)), (4, .int v4)]) C 4 dX4_matches_60 rfl rfl (by decide) rfl ?_
            refine x_goto C 74 dX4_matches_63 (by decide) ?_
            refine x_iload C 1 dX4_matches_74 rfl ?_
            refine x_if_ne C 81 dX4_matches_76 (by decide) (fun hc32 => ?_) (fun hc32 => ?_)
            · have hf := x_ine hc32 hf
              refine x_iinc (v := v4 + 1) (lv' := [(4, .int (v4 + 1)), (3, .int (v3 + 1)), (6, .int q30.1), (5, .int q12), (0, .ref (xad G 2)), (1, .ref (xtx G a1))]) C 5 dX4_matches_81 rfl rfl (by decide) rfl ?_
              refine x_goto C 10 dX4_matches_84 (by decide) ?_
              refine x_sub [4, 5, 1, 0] rfl ?_
              exact ih (v3 + 1) (v4 + 1) q30.2 _ _ hf
            · have hf := x_ip hc32 hf
              refine x_iconst (v := 0) C dX4_matches_79 (by decide) ?_
              obtain rfl := Option.some.inj hf
              exact x_zret C hr hlk (x_nb (Or.inl rfl)) dX4_matches_80
set_option maxHeartbeats 4000000 in
set_option maxRecDepth 100000 in
theorem t_X4_matches {l : Launch} {G : xG} {ta : Nat × Nat} {M : xM} {a1 : Nat} {a2 : Int32} {out : Int32 × xM} (ka1 : a1 < 10) (hf : f_X4_matches a1 a2 M = some out) : xMet G l yX4_matches wsX4_matches (rm_X4_matches 0 0) 0 0 ta M [.ref (xad G 2), .ref (xtx G a1), .int a2] (some (.int out.1)) out.2 := by
  refine x_met (cc := cX4_matches) (nL := 7) (ret := some .boolean) (by decide) rfl (Nat.le_of_ble_eq_true rfl) ?_
  intro p e s m args below meth c C hr hlk
  have C : xC G p s m args c cX4_matches 7 wsX4_matches RX4 := C
  have i6 : ∀ w ∈ wsX40, w ∈ wsX4_matches := by decide +kernel
  unfold f_X4_matches at hf
  show xW G p l e (rm_X4_matches 0 0) s m args below meth c 7 (MQ below (xQr G (some (.int out.1)) out.2) args s 0 0 (xAs G)) 0 0 ta M 0 [(0, .ref (xad G 2)), (1, .ref (xtx G a1)), (2, .int a2)] []
  refine x_aload_n C 0 dX4_matches_0 rfl ?_
  refine x_iload_n C 2 dX4_matches_1 rfl ?_
  refine x_put6 C xkd_2 i6 2 (by decide) (by decide +kernel) dX4_matches_2 ?_
  obtain ⟨M1, e2, hf⟩ := x_lt hf
  rw [← e2]
  clear e2
  refine x_iconst (v := 0) C dX4_matches_5 (by decide) ?_
  refine x_istore_n (lv' := [(3, .int (0 : Int32)), (0, .ref (xad G 2)), (1, .ref (xtx G a1)), (2, .int a2)]) C dX4_matches_6 rfl (by decide) rfl ?_
  refine x_iconst (v := 0) C dX4_matches_7 (by decide) ?_
  refine x_istore (lv' := [(4, .int (0 : Int32)), (3, .int (0 : Int32)), (0, .ref (xad G 2)), (1, .ref (xtx G a1)), (2, .int a2)]) C dX4_matches_8 (by decide) rfl ?_
  refine x_sub [2, 3, 1, 0] rfl ?_
  exact t_X4_matches_L10 C hr hlk ka1 xF (0 : Int32) (0 : Int32) M1 _ _ hf
/-! WaitingRoomSimulation$Script.commandAt(I)LWaitingRoomSimulation$Command; -/
abbrev rm_X4_commandAt (c s : Nat) : Room := { frames := 7, cells := c, slots := s, locals := 158 }
def f_X4_commandAt_L13 (v1 : Int32) (v4 : Int32) : Nat → Int32 → Int32 → xM → Option (Option Nat × xM)
  | 0, _, _, _ => none
  | n+1, v2, v5, M => (if v4 ≤ v5 then x_let (sI M 2 2 v2) fun M2 => some ((none : Option Nat), M2) else if x_in v5 10 = true then (f_X4_matches v5.toNatClampNeg v1 M).bind fun q6 => (if q6.1 = 0 then f_X4_commandAt_L13 v1 v4 n (if v2 < (q6.2.1 2 2) then (q6.2.1 2 2) else v2) (v5 + 1) q6.2 else some ((some v5.toNatClampNeg : Option Nat), q6.2)) else none)
def f_X4_commandAt (a1 : Int32) (M : xM) : Option (Option Nat × xM) := f_X4_commandAt_L13 a1 (10 : Int32) xF a1 (0 : Int32) M
set_option maxHeartbeats 4000000 in
set_option maxRecDepth 100000 in
theorem t_X4_commandAt_L13 {G : xG} {p : Program} {l : Launch} {e : Env} {s : State} {m : MethodId} {args : Array Value} {below : List Frame} {meth : Method} {c : Code} (C : xC G p s m args c cX4_commandAt 7 wsX4_commandAt RX4) (hr : meth.sig.returnType = (some (.object "WaitingRoomSimulation$Command"))) (hlk : meth.locks = false) {v1 : Int32} {v4 : Int32} : ∀ (n : Nat) (v2 : Int32) (v5 : Int32) (M : xM) (ta : Nat × Nat) (out : Option Nat × xM), f_X4_commandAt_L13 v1 v4 n v2 v5 M = some out → xW G p l e (rm_X4_commandAt 0 0) s m args below meth c 7 (MQ below (xQr G (some (xvc G out.1)) out.2) args s 0 0 (xAs G)) 0 0 ta M 13 [(0, .ref (xad G 2)), (1, .int v1), (2, .int v2), (3, .ref (xcm G 12)), (4, .int v4), (5, .int v5)] [] := by
  intro n
  induction n with
  | zero =>
    intro v2 v5 M ta out hf
    rw [f_X4_commandAt_L13] at hf
    cases hf
  | succ n ih =>
    intro v2 v5 M ta out hf
    rw [f_X4_commandAt_L13] at hf
    have i6 : ∀ w ∈ wsX40, w ∈ wsX4_commandAt := by decide +kernel
    refine x_iload C 5 dX4_commandAt_13 rfl ?_
    refine x_iload C 4 dX4_commandAt_15 rfl ?_
    refine x_icmp_ge C 57 dX4_commandAt_17 (by decide) (fun hc1 => ?_) (fun hc1 => ?_)
    · have hf := x_ip hc1 hf
      refine x_aload_n C 0 dX4_commandAt_57 rfl ?_
      refine x_iload_n C 2 dX4_commandAt_58 rfl ?_
      refine x_put6 C xkd_2 i6 2 (by decide) (by decide +kernel) dX4_commandAt_59 ?_
      obtain ⟨M2, e3, hf⟩ := x_lt hf
      rw [← e3]
      clear e3
      refine x_null C dX4_commandAt_62 ?_
      obtain rfl := Option.some.inj hf
      exact x_aret C hr hlk (.inl ⟨_, rfl⟩) (.inl rfl) dX4_commandAt_63
    · have hf := x_ine hc1 hf
      refine x_aload_n C 3 dX4_commandAt_20 rfl ?_
      refine x_iload C 5 dX4_commandAt_21 rfl ?_
      obtain ⟨g4, hf⟩ := x_gd hf
      refine x_tCM C g4 dX4_commandAt_23 ?_
      refine x_astore (lv' := [(6, .ref (xcm G v5.toNatClampNeg)), (0, .ref (xad G 2)), (1, .int v1), (2, .int v2), (3, .ref (xcm G 12)), (4, .int v4), (5, .int v5)]) C dX4_commandAt_24 (by decide) rfl ?_
      refine x_aload_n C 1 dX4_commandAt_26 rfl ?_
      refine x_aload C 0 dX4_commandAt_27 rfl ?_
      refine x_gForm C (x_inlt g4) (by decide +kernel) dX4_commandAt_29 ?_
      refine x_iload_n C 2 dX4_commandAt_32 rfl ?_
      obtain ⟨q6, hg, hf⟩ := x_bd hf
      refine x_callVr C (by rw [xkd_2]; decide) (by rw [xkd_2]; decide) (xc6 xkd_2) rfl (t_X4_matches (x_inlt g4) hg) (cwV 2 C.1.2.2.2.2 gX4_commandAt_X4_matches rfl rfl rfl (by decide +kernel) ⟨Nat.le_of_ble_eq_true rfl, Nat.le_of_ble_eq_true rfl⟩) rfl rfl (Nat.le_of_ble_eq_true rfl) dX4_commandAt_33 ⟨Nat.zero_le _, Nat.zero_le _⟩ (fun ta7 => ?_)
      clear hg
      refine x_if_eq C 42 dX4_commandAt_36 (by decide) (fun hc8 => ?_) (fun hc8 => ?_)
      · have hf := x_ip hc8 hf
        refine x_iload_n C 3 dX4_commandAt_42 rfl ?_
        refine x_aload_n C 1 dX4_commandAt_43 rfl ?_
        refine x_get6 C xkd_2 i6 2 (by decide) (by decide +kernel) rfl rfl dX4_commandAt_44 ?_
        refine x_mmax C (by decide +kernel) (by decide +kernel) (by decide +kernel) (by decide +kernel) ⟨Nat.le_of_ble_eq_true rfl, Nat.le_of_ble_eq_true rfl⟩ ⟨Nat.zero_le _, Nat.zero_le _⟩ dX4_commandAt_47 ?_
        refine x_istore_n (lv' := [(2, .int (if v2 < (q6.2.1 2 2) then (q6.2.1 2 2) else v2)), (6, .ref (xcm G v5.toNatClampNeg)), (0, .ref (xad G 2)), (1, .int v1), (3, .ref (xcm G 12)), (4, .int v4), (5, .int v5)]) C dX4_commandAt_50 rfl (by decide) rfl ?_
        refine x_iinc (v := v5 + 1) (lv' := [(5, .int (v5 + 1)), (2, .int (if v2 < (q6.2.1 2 2) then (q6.2.1 2 2) else v2)), (6, .ref (xcm G v5.toNatClampNeg)), (0, .ref (xad G 2)), (1, .int v1), (3, .ref (xcm G 12)), (4, .int v4)]) C 6 dX4_commandAt_51 rfl rfl (by decide) rfl ?_
        refine x_goto C 13 dX4_commandAt_54 (by decide) ?_
        refine x_sub [3, 4, 1, 5, 6, 0] rfl ?_
        exact ih (if v2 < (q6.2.1 2 2) then (q6.2.1 2 2) else v2) (v5 + 1) q6.2 _ _ hf
      · have hf := x_ine hc8 hf
        refine x_aload C 0 dX4_commandAt_39 rfl ?_
        obtain rfl := Option.some.inj hf
        exact x_aret C hr hlk (.inl ⟨_, rfl⟩) (.inr ⟨_, rfl⟩) dX4_commandAt_41
set_option maxHeartbeats 4000000 in
set_option maxRecDepth 100000 in
theorem t_X4_commandAt {l : Launch} {G : xG} {ta : Nat × Nat} {M : xM} {a1 : Int32} {out : Option Nat × xM} (hf : f_X4_commandAt a1 M = some out) : xMet G l yX4_commandAt wsX4_commandAt (rm_X4_commandAt 0 0) 0 0 ta M [.ref (xad G 2), .int a1] (some (xvc G out.1)) out.2 := by
  refine x_met (cc := cX4_commandAt) (nL := 7) (ret := (some (.object "WaitingRoomSimulation$Command"))) (by decide) rfl (Nat.le_of_ble_eq_true rfl) ?_
  intro p e s m args below meth c C hr hlk
  have C : xC G p s m args c cX4_commandAt 7 wsX4_commandAt RX4 := C
  have i6 : ∀ w ∈ wsX40, w ∈ wsX4_commandAt := by decide +kernel
  unfold f_X4_commandAt at hf
  show xW G p l e (rm_X4_commandAt 0 0) s m args below meth c 7 (MQ below (xQr G (some (xvc G out.1)) out.2) args s 0 0 (xAs G)) 0 0 ta M 0 [(0, .ref (xad G 2)), (1, .int a1)] []
  refine x_iload_n C 1 dX4_commandAt_0 rfl ?_
  refine x_istore_n (lv' := [(2, .int a1), (0, .ref (xad G 2)), (1, .int a1)]) C dX4_commandAt_1 rfl (by decide) rfl ?_
  refine x_gCM C dX4_commandAt_2 ?_
  refine x_astore_n (lv' := [(3, .ref (xcm G 12)), (2, .int a1), (0, .ref (xad G 2)), (1, .int a1)]) C dX4_commandAt_5 rfl (by decide) rfl ?_
  refine x_aload_n C 0 dX4_commandAt_6 rfl ?_
  refine x_lenCM C dX4_commandAt_7 ?_
  refine x_istore (lv' := [(4, .int (10 : Int32)), (3, .ref (xcm G 12)), (2, .int a1), (0, .ref (xad G 2)), (1, .int a1)]) C dX4_commandAt_8 (by decide) rfl ?_
  refine x_iconst (v := 0) C dX4_commandAt_10 (by decide) ?_
  refine x_istore (lv' := [(5, .int (0 : Int32)), (4, .int (10 : Int32)), (3, .ref (xcm G 12)), (2, .int a1), (0, .ref (xad G 2)), (1, .int a1)]) C dX4_commandAt_11 (by decide) rfl ?_
  refine x_sub [4, 5, 3, 2, 1, 0] rfl ?_
  exact t_X4_commandAt_L13 C hr hlk xF a1 (0 : Int32) M _ _ hf
/-! WaitingRoomSimulation$Script.countCommands()I -/
abbrev rm_X4_countCommands (c s : Nat) : Room := { frames := 8, cells := c, slots := s, locals := 184 }
def f_X4_countCommands_L4 : Nat → Int32 → Int32 → xM → Option (Int32 × xM)
  | 0, _, _, _ => none
  | n+1, v1, v2, M => (if (60 : Int32) < v2 then some ((-1 : Int32), M) else (f_X4_commandAt v1 M).bind fun q2 => x_opt q2.1 ((fun (M5 : xM) => some ((-1 : Int32), M5)) q2.2) (fun r4 => (fun (M5 : xM) => if r4 < 10 then (f_J4_length_8abf5 4 M5).bind fun q7 => (if (M5.1 2 2) < q7 then f_X4_countCommands_L4 n ((M5.1 2 2) + (1 : Int32)) (v2 + 1) M5 else some (v2, M5)) else none) q2.2))
def f_X4_countCommands (M : xM) : Option (Int32 × xM) := f_X4_countCommands_L4 xF (0 : Int32) (1 : Int32) M
set_option maxHeartbeats 4000000 in
set_option maxRecDepth 100000 in
theorem t_X4_countCommands_L4 {G : xG} {p : Program} {l : Launch} {e : Env} {s : State} {m : MethodId} {args : Array Value} {below : List Frame} {meth : Method} {c : Code} (C : xC G p s m args c cX4_countCommands 3 wsX4_countCommands RX4) (hr : meth.sig.returnType = some .int) (hlk : meth.locks = false) : ∀ (n : Nat) (v1 : Int32) (v2 : Int32) (M : xM) (ta : Nat × Nat) (out : Int32 × xM), f_X4_countCommands_L4 n v1 v2 M = some out → xW G p l e (rm_X4_countCommands 0 0) s m args below meth c 3 (MQ below (xQr G (some (.int out.1)) out.2) args s 0 0 (xAs G)) 0 0 ta M 4 [(0, .ref (xad G 2)), (1, .int v1), (2, .int v2)] [] := by
  intro n
  induction n with
  | zero =>
    intro v1 v2 M ta out hf
    rw [f_X4_countCommands_L4] at hf
    cases hf
  | succ n ih =>
    intro v1 v2 M ta out hf
    rw [f_X4_countCommands_L4] at hf
    have i6 : ∀ w ∈ wsX40, w ∈ wsX4_countCommands := by decide +kernel
    refine x_iload_n C 2 dX4_countCommands_4 rfl ?_
    refine x_bipush (v := 60) C dX4_countCommands_5 (by decide) ?_
    refine x_icmp_gt C 49 dX4_countCommands_7 (by decide) (fun hc1 => ?_) (fun hc1 => ?_)
    · have hf := x_ip hc1 hf
      refine x_iconst (v := (-1)) C dX4_countCommands_49 (by decide) ?_
      obtain rfl := Option.some.inj hf
      exact x_iret C hr hlk dX4_countCommands_50
    · have hf := x_ine hc1 hf
      refine x_aload_n C 0 dX4_countCommands_10 rfl ?_
      refine x_iload_n C 1 dX4_countCommands_11 rfl ?_
      obtain ⟨q2, hg, hf⟩ := x_bd hf
      obtain ⟨_ | r4, M5⟩ := q2
      · have hf := x_on hf
        refine x_callVr (w := .null) C (by rw [xkd_2]; decide) (by rw [xkd_2]; decide) (xc6 xkd_2) rfl (t_X4_commandAt hg) (cwV 1 C.1.2.2.2.2 gX4_countCommands_X4_commandAt rfl rfl rfl (by decide +kernel) ⟨Nat.le_of_ble_eq_true rfl, Nat.le_of_ble_eq_true rfl⟩) rfl rfl (Nat.le_of_ble_eq_true rfl) dX4_countCommands_12 ⟨Nat.zero_le _, Nat.zero_le _⟩ (fun ta3 => ?_)
        clear hg
        refine x_ifnonnullN C dX4_countCommands_15 ?_
        refine x_iconst (v := (-1)) C dX4_countCommands_18 (by decide) ?_
        obtain rfl := Option.some.inj hf
        exact x_iret C hr hlk dX4_countCommands_19
      · have hf := x_os hf
        obtain ⟨g6, hf⟩ := x_gd hf
        refine x_callVr (w := .ref (xcm G r4)) C (by rw [xkd_2]; decide) (by rw [xkd_2]; decide) (xc6 xkd_2) rfl (t_X4_commandAt hg) (cwV 1 C.1.2.2.2.2 gX4_countCommands_X4_commandAt rfl rfl rfl (by decide +kernel) ⟨Nat.le_of_ble_eq_true rfl, Nat.le_of_ble_eq_true rfl⟩) rfl rfl (Nat.le_of_ble_eq_true rfl) dX4_countCommands_12 ⟨Nat.zero_le _, Nat.zero_le _⟩ (fun ta3 => ?_)
        clear hg
        refine x_ifnonnull C 20 dX4_countCommands_15 (by decide) ?_
        refine x_aload_n C 0 dX4_countCommands_20 rfl ?_
        refine x_get6 C xkd_2 i6 2 (by decide) (by decide +kernel) rfl rfl dX4_countCommands_21 ?_
        refine x_aload_n C 0 dX4_countCommands_24 rfl ?_
        refine x_get6 C xkd_2 i6 0 (by decide) (by decide +kernel) rfl rfl dX4_countCommands_25 ?_
        obtain ⟨q7, hg, hf⟩ := x_bd hf
        refine x_callVCTr C (xRv_1 C xkd_4) (t_J4_length_8abf5 xkd_4 hg) (cwV 0 C.1.2.2.2.2 gX4_countCommands_J4_length_8abf5 rfl rfl rfl (by decide +kernel) ⟨Nat.le_of_ble_eq_true rfl, Nat.le_of_ble_eq_true rfl⟩) rfl rfl (Nat.le_of_ble_eq_true rfl) dX4_countCommands_28 ⟨Nat.zero_le _, Nat.zero_le _⟩ ?_
        clear hg
        refine x_icmp_lt C 36 dX4_countCommands_31 (by decide) (fun hc9 => ?_) (fun hc9 => ?_)
        · have hf := x_ip hc9 hf
          refine x_aload_n C 0 dX4_countCommands_36 rfl ?_
          refine x_get6 C xkd_2 i6 2 (by decide) (by decide +kernel) rfl rfl dX4_countCommands_37 ?_
          refine x_iconst (v := 1) C dX4_countCommands_40 (by decide) ?_
          refine x_iadd C dX4_countCommands_41 ?_
          refine x_istore_n (lv' := [(1, .int ((M5.1 2 2) + (1 : Int32))), (0, .ref (xad G 2)), (2, .int v2)]) C dX4_countCommands_42 rfl (by decide) rfl ?_
          refine x_iinc (v := v2 + 1) (lv' := [(2, .int (v2 + 1)), (1, .int ((M5.1 2 2) + (1 : Int32))), (0, .ref (xad G 2))]) C 2 dX4_countCommands_43 rfl rfl (by decide) rfl ?_
          refine x_goto C 4 dX4_countCommands_46 (by decide) ?_
          refine x_sub [2, 1, 0] rfl ?_
          exact ih ((M5.1 2 2) + (1 : Int32)) (v2 + 1) M5 _ _ hf
        · have hf := x_ine hc9 hf
          refine x_iload_n C 2 dX4_countCommands_34 rfl ?_
          obtain rfl := Option.some.inj hf
          exact x_iret C hr hlk dX4_countCommands_35
set_option maxHeartbeats 4000000 in
set_option maxRecDepth 100000 in
theorem t_X4_countCommands {l : Launch} {G : xG} {ta : Nat × Nat} {M : xM} {out : Int32 × xM} (hf : f_X4_countCommands M = some out) : xMet G l yX4_countCommands wsX4_countCommands (rm_X4_countCommands 0 0) 0 0 ta M [.ref (xad G 2)] (some (.int out.1)) out.2 := by
  refine x_met (cc := cX4_countCommands) (nL := 3) (ret := some .int) (by decide) rfl (Nat.le_of_ble_eq_true rfl) ?_
  intro p e s m args below meth c C hr hlk
  have C : xC G p s m args c cX4_countCommands 3 wsX4_countCommands RX4 := C
  have i6 : ∀ w ∈ wsX40, w ∈ wsX4_countCommands := by decide +kernel
  unfold f_X4_countCommands at hf
  show xW G p l e (rm_X4_countCommands 0 0) s m args below meth c 3 (MQ below (xQr G (some (.int out.1)) out.2) args s 0 0 (xAs G)) 0 0 ta M 0 [(0, .ref (xad G 2))] []
  refine x_iconst (v := 0) C dX4_countCommands_0 (by decide) ?_
  refine x_istore_n (lv' := [(1, .int (0 : Int32)), (0, .ref (xad G 2))]) C dX4_countCommands_1 rfl (by decide) rfl ?_
  refine x_iconst (v := 1) C dX4_countCommands_2 (by decide) ?_
  refine x_istore_n (lv' := [(2, .int (1 : Int32)), (1, .int (0 : Int32)), (0, .ref (xad G 2))]) C dX4_countCommands_3 rfl (by decide) rfl ?_
  refine x_sub [2, 1, 0] rfl ?_
  exact t_X4_countCommands_L4 C hr hlk xF (0 : Int32) (1 : Int32) M _ _ hf
/-! WaitingRoomSimulation.throwIfRefused(I)V -/
abbrev rm_X6_throwIfRefused (c s : Nat) : Room := { frames := 8, cells := c, slots := s, locals := 200 }
def f_X6_throwIfRefused (a1 : Int32) (M : xM) : Option ((Unit ⊕ String)) := (if a1 = -5 then some (.inr "java/util/NoSuchElementException") else if a1 = -4 then some (.inr "java/lang/UnsupportedOperationException") else if a1 = -3 then some (.inr "java/lang/IllegalStateException") else if a1 = -2 then some (.inr "java/lang/IllegalArgumentException") else if a1 = -1 then some (.inr "java/lang/IndexOutOfBoundsException") else some (.inl ()))
set_option maxHeartbeats 4000000 in
set_option maxRecDepth 100000 in
theorem t_X6_throwIfRefused {l : Launch} {G : xG} {ta : Nat × Nat} {M : xM} {a1 : Int32} {out : (Unit ⊕ String)} (hfl : l.stackTraces = false) (hf : f_X6_throwIfRefused a1 M = some out) : xMetX G l yX6_throwIfRefused wsX6_throwIfRefused (rm_X6_throwIfRefused (xoc out) (xos out)) (xoc out) (xos out) ta M [.int a1] (xo xoU out) M := by
  refine x_metX (cc := cX6_throwIfRefused) (nL := 1) (ret := none) (by decide) rfl (Nat.le_of_ble_eq_true rfl) ?_
  intro p e s m args below meth c C hr hlk htb
  have C : xC G p s m args c cX6_throwIfRefused 1 wsX6_throwIfRefused RX6 := C
  unfold f_X6_throwIfRefused at hf
  show xW G p l e (rm_X6_throwIfRefused (xoc out) (xos out)) s m args below meth c 1 (vx_MQ below (xQx G (xo xoU out) M) (xXc G (xo xoU out) M) args s (xoc out) (xos out) (xAs G)) 0 0 ta M 0 [(0, .int a1)] []
  refine x_iload_n C 0 dX6_throwIfRefused_0 rfl ?_
  rcases Decidable.em (a1 = -5) with hc1 | hc1
  · have hf := x_ip hc1 hf
    refine x_tableIn C 76 dX6_throwIfRefused_1 (by rw [hc1]; decide) (by rw [hc1]; decide) (by rw [hc1]; rfl) (by decide) ?_
    obtain rfl := Option.some.inj hf
    exact x_nthrow C hfl hlk htb (cls := "java/util/NoSuchElementException") (names := ["java/lang/RuntimeException", "java/lang/Exception"]) (ik := 121) (is := 123) (ic := 125) (text := "there is no ticket to call") (by decide +kernel) (by decide +kernel) (by decide +kernel) (by decide +kernel) (by decide +kernel) (by decide +kernel) (by decide +kernel) dX6_throwIfRefused_76 dX6_throwIfRefused_79 dX6_throwIfRefused_80 dX6_throwIfRefused_82 dX6_throwIfRefused_85 (Nat.le_of_ble_eq_true rfl) (Nat.le_of_ble_eq_true rfl) (Nat.le_of_ble_eq_true rfl) (Nat.le_of_ble_eq_true rfl) (Nat.le_of_ble_eq_true rfl) (Nat.le_of_ble_eq_true rfl)
  have hf := x_ine hc1 hf
  rcases Decidable.em (a1 = -4) with hc2 | hc2
  · have hf := x_ip hc2 hf
    refine x_tableIn C 66 dX6_throwIfRefused_1 (by rw [hc2]; decide) (by rw [hc2]; decide) (by rw [hc2]; rfl) (by decide) ?_
    obtain rfl := Option.some.inj hf
    exact x_throw C hfl hlk htb (cls := "java/lang/UnsupportedOperationException") (names := ["java/lang/RuntimeException", "java/lang/Exception"]) (ik := 116) (is := 118) (ic := 120) (text := "no chair or no patience is left") (by decide +kernel) (by decide +kernel) (by decide +kernel) (by decide +kernel) (by decide +kernel) (by decide +kernel) (by decide +kernel) dX6_throwIfRefused_66 dX6_throwIfRefused_69 dX6_throwIfRefused_70 dX6_throwIfRefused_72 dX6_throwIfRefused_75 (Nat.le_of_ble_eq_true rfl) (Nat.le_of_ble_eq_true rfl) (Nat.le_of_ble_eq_true rfl) (Nat.le_of_ble_eq_true rfl) (Nat.le_of_ble_eq_true rfl) (Nat.le_of_ble_eq_true rfl)
  have hf := x_ine hc2 hf
  rcases Decidable.em (a1 = -3) with hc3 | hc3
  · have hf := x_ip hc3 hf
    refine x_tableIn C 56 dX6_throwIfRefused_1 (by rw [hc3]; decide) (by rw [hc3]; decide) (by rw [hc3]; rfl) (by decide) ?_
    obtain rfl := Option.some.inj hf
    exact x_throw C hfl hlk htb (cls := "java/lang/IllegalStateException") (names := ["java/lang/RuntimeException", "java/lang/Exception"]) (ik := 111) (is := 113) (ic := 115) (text := "the hall does not allow this now") (by decide +kernel) (by decide +kernel) (by decide +kernel) (by decide +kernel) (by decide +kernel) (by decide +kernel) (by decide +kernel) dX6_throwIfRefused_56 dX6_throwIfRefused_59 dX6_throwIfRefused_60 dX6_throwIfRefused_62 dX6_throwIfRefused_65 (Nat.le_of_ble_eq_true rfl) (Nat.le_of_ble_eq_true rfl) (Nat.le_of_ble_eq_true rfl) (Nat.le_of_ble_eq_true rfl) (Nat.le_of_ble_eq_true rfl) (Nat.le_of_ble_eq_true rfl)
  have hf := x_ine hc3 hf
  rcases Decidable.em (a1 = -2) with hc4 | hc4
  · have hf := x_ip hc4 hf
    refine x_tableIn C 46 dX6_throwIfRefused_1 (by rw [hc4]; decide) (by rw [hc4]; decide) (by rw [hc4]; rfl) (by decide) ?_
    obtain rfl := Option.some.inj hf
    exact x_throw C hfl hlk htb (cls := "java/lang/IllegalArgumentException") (names := ["java/lang/RuntimeException", "java/lang/Exception"]) (ik := 106) (is := 108) (ic := 110) (text := "an argument is not allowed") (by decide +kernel) (by decide +kernel) (by decide +kernel) (by decide +kernel) (by decide +kernel) (by decide +kernel) (by decide +kernel) dX6_throwIfRefused_46 dX6_throwIfRefused_49 dX6_throwIfRefused_50 dX6_throwIfRefused_52 dX6_throwIfRefused_55 (Nat.le_of_ble_eq_true rfl) (Nat.le_of_ble_eq_true rfl) (Nat.le_of_ble_eq_true rfl) (Nat.le_of_ble_eq_true rfl) (Nat.le_of_ble_eq_true rfl) (Nat.le_of_ble_eq_true rfl)
  have hf := x_ine hc4 hf
  rcases Decidable.em (a1 = -1) with hc5 | hc5
  · have hf := x_ip hc5 hf
    refine x_tableIn C 36 dX6_throwIfRefused_1 (by rw [hc5]; decide) (by rw [hc5]; decide) (by rw [hc5]; rfl) (by decide) ?_
    obtain rfl := Option.some.inj hf
    exact x_throw C hfl hlk htb (cls := "java/lang/IndexOutOfBoundsException") (names := ["java/lang/RuntimeException", "java/lang/Exception"]) (ik := 99) (is := 101) (ic := 103) (text := "there is no such customer or window") (by decide +kernel) (by decide +kernel) (by decide +kernel) (by decide +kernel) (by decide +kernel) (by decide +kernel) (by decide +kernel) dX6_throwIfRefused_36 dX6_throwIfRefused_39 dX6_throwIfRefused_40 dX6_throwIfRefused_42 dX6_throwIfRefused_45 (Nat.le_of_ble_eq_true rfl) (Nat.le_of_ble_eq_true rfl) (Nat.le_of_ble_eq_true rfl) (Nat.le_of_ble_eq_true rfl) (Nat.le_of_ble_eq_true rfl) (Nat.le_of_ble_eq_true rfl)
  have hf := x_ine hc5 hf
  refine x_tableOut C 86 dX6_throwIfRefused_1 (by have qhc1 := lv_neT (a := -5) hc1 (by decide); have qhc2 := lv_neT (a := -4) hc2 (by decide); have qhc3 := lv_neT (a := -3) hc3 (by decide); have qhc4 := lv_neT (a := -2) hc4 (by decide); have qhc5 := lv_neT (a := -1) hc5 (by decide); omega) (by decide) ?_
  obtain rfl := Option.some.inj hf
  refine x_ret ?_
  exact x_vret C hr hlk dX6_throwIfRefused_86
/-! WaitingRoomSimulation.forgetOldestChange()V -/
abbrev rm_X6_forgetOldestChange (c s : Nat) : Room := { frames := 0, cells := c, slots := s, locals := 0 }
def f_X6_forgetOldestChange_L9 (r1 : Nat) : Nat → Int32 → xM → Option (xM)
  | 0, _, _ => none
  | n+1, v2, M => (if (8 : Int32) ≤ v2 then if x_in (7 : Int32) 8 = true then x_let (sP M 1 (7 : Int32).toNatClampNeg r1) fun M5 => x_let (sI M5 0 5 (7 : Int32)) fun M7 => some M7 else none else if x_in v2 8 = true then if xkd (M.2.1 1 v2.toNatClampNeg) = 5 then if x_in (v2 - (1 : Int32)) 8 = true then x_let (sP M 1 (v2 - (1 : Int32)).toNatClampNeg (M.2.1 1 v2.toNatClampNeg)) fun M12 => f_X6_forgetOldestChange_L9 r1 n (v2 + 1) M12 else none else none else none)
def f_X6_forgetOldestChange (M : xM) : Option (xM) := if x_in (0 : Int32) 8 = true then if xkd (M.2.1 1 (0 : Int32).toNatClampNeg) = 5 then f_X6_forgetOldestChange_L9 (M.2.1 1 (0 : Int32).toNatClampNeg) xF (1 : Int32) M else none else none
set_option maxHeartbeats 4000000 in
set_option maxRecDepth 100000 in
theorem t_X6_forgetOldestChange_L9 {G : xG} {p : Program} {l : Launch} {e : Env} {s : State} {m : MethodId} {args : Array Value} {below : List Frame} {meth : Method} {c : Code} (C : xC G p s m args c cX6_forgetOldestChange 3 wsX6_forgetOldestChange RX6) (hr : meth.sig.returnType = none) (hlk : meth.locks = false) {r1 : Nat} (kr1 : xkd r1 = 5) : ∀ (n : Nat) (v2 : Int32) (M : xM) (ta : Nat × Nat) (out : xM), f_X6_forgetOldestChange_L9 r1 n v2 M = some out → xW G p l e (rm_X6_forgetOldestChange 0 0) s m args below meth c 3 (MQ below (xQr G none out) args s 0 0 (xAs G)) 0 0 ta M 9 [(0, .ref (xad G 0)), (1, .ref (xad G r1)), (2, .int v2)] [] := by
  intro n
  induction n with
  | zero =>
    intro v2 M ta out hf
    rw [f_X6_forgetOldestChange_L9] at hf
    cases hf
  | succ n ih =>
    intro v2 M ta out hf
    rw [f_X6_forgetOldestChange_L9] at hf
    have i8 : ∀ w ∈ wsX60, w ∈ wsX6_forgetOldestChange := by decide +kernel
    refine x_iload_n C 2 dX6_forgetOldestChange_9 rfl ?_
    refine x_bipush (v := 8) C dX6_forgetOldestChange_10 (by decide) ?_
    refine x_icmp_ge C 35 dX6_forgetOldestChange_12 (by decide) (fun hc3 => ?_) (fun hc3 => ?_)
    · have hf := x_ip hc3 hf
      refine x_aload_n C 0 dX6_forgetOldestChange_35 rfl ?_
      refine x_get8 C xkd_0 i8 4 (by decide) (by decide +kernel) rfl rfl dX6_forgetOldestChange_36 ?_
      refine x_bipush (v := 7) C dX6_forgetOldestChange_39 (by decide) ?_
      refine x_aload_n C 1 dX6_forgetOldestChange_41 rfl ?_
      obtain ⟨g4, hf⟩ := x_gd hf
      refine x_aast24 C xkd_1 xl_1 kr1 g4 dX6_forgetOldestChange_42 ?_
      obtain ⟨M5, e6, hf⟩ := x_lt hf
      rw [← e6]
      clear e6
      refine x_aload_n C 0 dX6_forgetOldestChange_43 rfl ?_
      refine x_bipush (v := 7) C dX6_forgetOldestChange_44 (by decide) ?_
      refine x_put8 C xkd_0 i8 5 (by decide) (by decide +kernel) dX6_forgetOldestChange_46 ?_
      obtain ⟨M7, e8, hf⟩ := x_lt hf
      rw [← e8]
      clear e8
      obtain rfl := Option.some.inj hf
      exact x_vret C hr hlk dX6_forgetOldestChange_49
    · have hf := x_ine hc3 hf
      refine x_aload_n C 0 dX6_forgetOldestChange_15 rfl ?_
      refine x_get8 C xkd_0 i8 4 (by decide) (by decide +kernel) rfl rfl dX6_forgetOldestChange_16 ?_
      refine x_iload_n C 2 dX6_forgetOldestChange_19 rfl ?_
      refine x_iconst (v := 1) C dX6_forgetOldestChange_20 (by decide) ?_
      refine x_isub C dX6_forgetOldestChange_21 ?_
      refine x_aload_n C 0 dX6_forgetOldestChange_22 rfl ?_
      refine x_get8 C xkd_0 i8 4 (by decide) (by decide +kernel) rfl rfl dX6_forgetOldestChange_23 ?_
      refine x_iload_n C 2 dX6_forgetOldestChange_26 rfl ?_
      obtain ⟨g9, hf⟩ := x_gd hf
      obtain ⟨g10, hf⟩ := x_gd hf
      refine x_aald24 C xkd_1 xl_1 g9 dX6_forgetOldestChange_27 ?_
      obtain ⟨g11, hf⟩ := x_gd hf
      refine x_aast24 C xkd_1 xl_1 g10 g11 dX6_forgetOldestChange_28 ?_
      obtain ⟨M12, e13, hf⟩ := x_lt hf
      rw [← e13]
      clear e13
      refine x_iinc (v := v2 + 1) (lv' := [(2, .int (v2 + 1)), (0, .ref (xad G 0)), (1, .ref (xad G r1))]) C 2 dX6_forgetOldestChange_29 rfl rfl (by decide) rfl ?_
      refine x_goto C 9 dX6_forgetOldestChange_32 (by decide) ?_
      refine x_sub [1, 2, 0] rfl ?_
      exact ih (v2 + 1) M12 _ _ hf
set_option maxHeartbeats 4000000 in
set_option maxRecDepth 100000 in
theorem t_X6_forgetOldestChange {l : Launch} {G : xG} {ta : Nat × Nat} {M : xM} {out : xM} (hf : f_X6_forgetOldestChange M = some out) : xMet G l yX6_forgetOldestChange wsX6_forgetOldestChange (rm_X6_forgetOldestChange 0 0) 0 0 ta M [.ref (xad G 0)] none out := by
  refine x_met (cc := cX6_forgetOldestChange) (nL := 3) (ret := none) (by decide) rfl (Nat.le_of_ble_eq_true rfl) ?_
  intro p e s m args below meth c C hr hlk
  have C : xC G p s m args c cX6_forgetOldestChange 3 wsX6_forgetOldestChange RX6 := C
  have i8 : ∀ w ∈ wsX60, w ∈ wsX6_forgetOldestChange := by decide +kernel
  unfold f_X6_forgetOldestChange at hf
  show xW G p l e (rm_X6_forgetOldestChange 0 0) s m args below meth c 3 (MQ below (xQr G none out) args s 0 0 (xAs G)) 0 0 ta M 0 [(0, .ref (xad G 0))] []
  refine x_aload_n C 0 dX6_forgetOldestChange_0 rfl ?_
  refine x_get8 C xkd_0 i8 4 (by decide) (by decide +kernel) rfl rfl dX6_forgetOldestChange_1 ?_
  refine x_iconst (v := 0) C dX6_forgetOldestChange_4 (by decide) ?_
  obtain ⟨g1, hf⟩ := x_gd hf
  obtain ⟨g2, hf⟩ := x_gd hf
  refine x_aald24 C xkd_1 xl_1 g1 dX6_forgetOldestChange_5 ?_
  refine x_astore_n (lv' := [(1, .ref (xad G (M.2.1 1 (0 : Int32).toNatClampNeg))), (0, .ref (xad G 0))]) C dX6_forgetOldestChange_6 rfl (by decide) rfl ?_
  refine x_iconst (v := 1) C dX6_forgetOldestChange_7 (by decide) ?_
  refine x_istore_n (lv' := [(2, .int (1 : Int32)), (1, .ref (xad G (M.2.1 1 (0 : Int32).toNatClampNeg))), (0, .ref (xad G 0))]) C dX6_forgetOldestChange_8 rfl (by decide) rfl ?_
  refine x_sub [2, 1, 0] rfl ?_
  exact t_X6_forgetOldestChange_L9 C hr hlk g2 xF (1 : Int32) M _ _ hf
/-! WaitingRoomSimulation.commit(I)I -/
abbrev rm_X6_commit (c s : Nat) : Room := { frames := 9, cells := c, slots := s, locals := 220 }
def f_X6_commit (a1 : Int32) (M : xM) : Option ((Int32 ⊕ String) × xM) := (f_X6_throwIfRefused a1 M).bind fun q1 => x_case q1 (fun r3 => (if (M.1 0 5) = (8 : Int32) then (f_X6_forgetOldestChange M).bind fun q19 => if x_in (q19.1 0 5) 8 = true then if xkd (q19.2.1 1 (q19.1 0 5).toNatClampNeg) = 5 then if xkd (q19.2.1 0 0) = 5 then if x_in (q19.1 0 5) 8 = true then x_let (sP q19 1 (q19.1 0 5).toNatClampNeg (q19.2.1 0 0)) fun M25 => x_let (sI M25 0 5 ((M25.1 0 5) + (1 : Int32))) fun M27 => if xkd (M27.2.1 0 1) = 5 then x_let (sP M27 0 0 (M27.2.1 0 1)) fun M30 => x_let (sP M30 0 1 (q19.2.1 1 (q19.1 0 5).toNatClampNeg)) fun M32 => some (.inl a1, M32) else none else none else none else none else none else if x_in (M.1 0 5) 8 = true then if xkd (M.2.1 1 (M.1 0 5).toNatClampNeg) = 5 then if xkd (M.2.1 0 0) = 5 then if x_in (M.1 0 5) 8 = true then x_let (sP M 1 (M.1 0 5).toNatClampNeg (M.2.1 0 0)) fun M10 => x_let (sI M10 0 5 ((M10.1 0 5) + (1 : Int32))) fun M12 => if xkd (M12.2.1 0 1) = 5 then x_let (sP M12 0 0 (M12.2.1 0 1)) fun M15 => x_let (sP M15 0 1 (M.2.1 1 (M.1 0 5).toNatClampNeg)) fun M17 => some (.inl a1, M17) else none else none else none else none else none)) (fun E4 => some (.inr E4, M))
set_option maxHeartbeats 4000000 in
set_option maxRecDepth 100000 in
theorem t_X6_commit {l : Launch} {G : xG} {ta : Nat × Nat} {M : xM} {a1 : Int32} {out : (Int32 ⊕ String) × xM} (hfl : l.stackTraces = false) (hf : f_X6_commit a1 M = some out) : xMetX G l yX6_commit wsX6_commit (rm_X6_commit (xoc out.1) (xos out.1)) (xoc out.1) (xos out.1) ta M [.ref (xad G 0), .int a1] (xo xoI out.1) out.2 := by
  refine x_metX (cc := cX6_commit) (nL := 3) (ret := some .int) (by decide) rfl (Nat.le_of_ble_eq_true rfl) ?_
  intro p e s m args below meth c C hr hlk htb
  have C : xC G p s m args c cX6_commit 3 wsX6_commit RX6 := C
  have i8 : ∀ w ∈ wsX60, w ∈ wsX6_commit := by decide +kernel
  unfold f_X6_commit at hf
  show xW G p l e (rm_X6_commit (xoc out.1) (xos out.1)) s m args below meth c 3 (vx_MQ below (xQx G (xo xoI out.1) out.2) (xXc G (xo xoI out.1) out.2) args s (xoc out.1) (xos out.1) (xAs G)) 0 0 ta M 0 [(0, .ref (xad G 0)), (1, .int a1)] []
  refine x_iload_n C 1 dX6_commit_0 rfl ?_
  obtain ⟨q1, hg, hf⟩ := x_bd hf
  rcases q1 with r3 | E4
  · have hf := x_ci hf
    refine x_callSXv (mc := 0) (ms := 0) C (t_X6_throwIfRefused hfl hg) (va_cwS 1 C.1.2.2.2.2 gX6_commit_X6_throwIfRefused rfl rfl rfl (by decide +kernel) ⟨Nat.le_of_ble_eq_true rfl, Nat.le_of_ble_eq_true rfl⟩) rfl rfl (Nat.le_of_ble_eq_true rfl) dX6_commit_1 ⟨Nat.zero_le _, Nat.zero_le _⟩ (fun ta2 => ?_)
    clear hg
    refine x_aload_n C 0 dX6_commit_4 rfl ?_
    refine x_get8 C xkd_0 i8 5 (by decide) (by decide +kernel) rfl rfl dX6_commit_5 ?_
    refine x_bipush (v := 8) C dX6_commit_8 (by decide) ?_
    refine x_icmp_ne C 17 dX6_commit_10 (by decide) (fun hc5 => ?_) (fun hc5 => ?_)
    · have hf := x_ine hc5 hf
      refine x_aload_n C 0 dX6_commit_17 rfl ?_
      refine x_get8 C xkd_0 i8 4 (by decide) (by decide +kernel) rfl rfl dX6_commit_18 ?_
      refine x_aload_n C 0 dX6_commit_21 rfl ?_
      refine x_get8 C xkd_0 i8 5 (by decide) (by decide +kernel) rfl rfl dX6_commit_22 ?_
      obtain ⟨g6, hf⟩ := x_gd hf
      obtain ⟨g7, hf⟩ := x_gd hf
      refine x_aald24 C xkd_1 xl_1 g6 dX6_commit_25 ?_
      refine x_astore_n (lv' := [(2, .ref (xad G (M.2.1 1 (M.1 0 5).toNatClampNeg))), (0, .ref (xad G 0)), (1, .int a1)]) C dX6_commit_26 rfl (by decide) rfl ?_
      refine x_aload_n C 1 dX6_commit_27 rfl ?_
      refine x_get8 C xkd_0 i8 4 (by decide) (by decide +kernel) rfl rfl dX6_commit_28 ?_
      refine x_aload_n C 1 dX6_commit_31 rfl ?_
      refine x_get8 C xkd_0 i8 5 (by decide) (by decide +kernel) rfl rfl dX6_commit_32 ?_
      refine x_aload_n C 1 dX6_commit_35 rfl ?_
      obtain ⟨g8, hf⟩ := x_gd hf
      refine x_get8 C xkd_0 i8 0 (by decide) (by decide +kernel) rfl rfl dX6_commit_36 ?_
      obtain ⟨g9, hf⟩ := x_gd hf
      refine x_aast24 C xkd_1 xl_1 g8 g9 dX6_commit_39 ?_
      obtain ⟨M10, e11, hf⟩ := x_lt hf
      rw [← e11]
      clear e11
      refine x_aload_n C 1 dX6_commit_40 rfl ?_
      refine x_dup C dX6_commit_41 rfl ?_
      refine x_get8 C xkd_0 i8 5 (by decide) (by decide +kernel) rfl rfl dX6_commit_42 ?_
      refine x_iconst (v := 1) C dX6_commit_45 (by decide) ?_
      refine x_iadd C dX6_commit_46 ?_
      refine x_put8 C xkd_0 i8 5 (by decide) (by decide +kernel) dX6_commit_47 ?_
      obtain ⟨M12, e13, hf⟩ := x_lt hf
      rw [← e13]
      clear e13
      refine x_aload_n C 1 dX6_commit_50 rfl ?_
      refine x_aload_n C 1 dX6_commit_51 rfl ?_
      obtain ⟨g14, hf⟩ := x_gd hf
      refine x_get8 C xkd_0 i8 1 (by decide) (by decide +kernel) rfl rfl dX6_commit_52 ?_
      refine x_putr8 C xkd_0 i8 0 (by decide) (by decide +kernel) dX6_commit_55 ?_
      obtain ⟨M15, e16, hf⟩ := x_lt hf
      rw [← e16]
      clear e16
      refine x_aload_n C 1 dX6_commit_58 rfl ?_
      refine x_aload_n C 0 dX6_commit_59 rfl ?_
      refine x_putr8 C xkd_0 i8 1 (by decide) (by decide +kernel) dX6_commit_60 ?_
      obtain ⟨M17, e18, hf⟩ := x_lt hf
      rw [← e18]
      clear e18
      refine x_iload_n C 2 dX6_commit_63 rfl ?_
      obtain rfl := Option.some.inj hf
      refine x_ret ?_
      exact x_iret C hr hlk dX6_commit_64
    · have hf := x_ip hc5 hf
      refine x_aload_n C 0 dX6_commit_13 rfl ?_
      obtain ⟨q19, hg, hf⟩ := x_bd hf
      refine x_callVv C (by rw [xkd_0]; decide) (by rw [xkd_0]; decide) (xc8 xkd_0) rfl (t_X6_forgetOldestChange hg) (cwV 0 C.1.2.2.2.2 gX6_commit_X6_forgetOldestChange rfl rfl rfl (by decide +kernel) ⟨Nat.le_of_ble_eq_true rfl, Nat.le_of_ble_eq_true rfl⟩) rfl rfl (Nat.le_of_ble_eq_true rfl) dX6_commit_14 ⟨Nat.zero_le _, Nat.zero_le _⟩ (fun ta20 => ?_)
      clear hg
      refine x_aload_n C 0 dX6_commit_17 rfl ?_
      refine x_get8 C xkd_0 i8 4 (by decide) (by decide +kernel) rfl rfl dX6_commit_18 ?_
      refine x_aload_n C 0 dX6_commit_21 rfl ?_
      refine x_get8 C xkd_0 i8 5 (by decide) (by decide +kernel) rfl rfl dX6_commit_22 ?_
      obtain ⟨g21, hf⟩ := x_gd hf
      obtain ⟨g22, hf⟩ := x_gd hf
      refine x_aald24 C xkd_1 xl_1 g21 dX6_commit_25 ?_
      refine x_astore_n (lv' := [(2, .ref (xad G (q19.2.1 1 (q19.1 0 5).toNatClampNeg))), (0, .ref (xad G 0)), (1, .int a1)]) C dX6_commit_26 rfl (by decide) rfl ?_
      refine x_aload_n C 1 dX6_commit_27 rfl ?_
      refine x_get8 C xkd_0 i8 4 (by decide) (by decide +kernel) rfl rfl dX6_commit_28 ?_
      refine x_aload_n C 1 dX6_commit_31 rfl ?_
      refine x_get8 C xkd_0 i8 5 (by decide) (by decide +kernel) rfl rfl dX6_commit_32 ?_
      refine x_aload_n C 1 dX6_commit_35 rfl ?_
      obtain ⟨g23, hf⟩ := x_gd hf
      refine x_get8 C xkd_0 i8 0 (by decide) (by decide +kernel) rfl rfl dX6_commit_36 ?_
      obtain ⟨g24, hf⟩ := x_gd hf
      refine x_aast24 C xkd_1 xl_1 g23 g24 dX6_commit_39 ?_
      obtain ⟨M25, e26, hf⟩ := x_lt hf
      rw [← e26]
      clear e26
      refine x_aload_n C 1 dX6_commit_40 rfl ?_
      refine x_dup C dX6_commit_41 rfl ?_
      refine x_get8 C xkd_0 i8 5 (by decide) (by decide +kernel) rfl rfl dX6_commit_42 ?_
      refine x_iconst (v := 1) C dX6_commit_45 (by decide) ?_
      refine x_iadd C dX6_commit_46 ?_
      refine x_put8 C xkd_0 i8 5 (by decide) (by decide +kernel) dX6_commit_47 ?_
      obtain ⟨M27, e28, hf⟩ := x_lt hf
      rw [← e28]
      clear e28
      refine x_aload_n C 1 dX6_commit_50 rfl ?_
      refine x_aload_n C 1 dX6_commit_51 rfl ?_
      obtain ⟨g29, hf⟩ := x_gd hf
      refine x_get8 C xkd_0 i8 1 (by decide) (by decide +kernel) rfl rfl dX6_commit_52 ?_
      refine x_putr8 C xkd_0 i8 0 (by decide) (by decide +kernel) dX6_commit_55 ?_
      obtain ⟨M30, e31, hf⟩ := x_lt hf
      rw [← e31]
      clear e31
      refine x_aload_n C 1 dX6_commit_58 rfl ?_
      refine x_aload_n C 0 dX6_commit_59 rfl ?_
      refine x_putr8 C xkd_0 i8 1 (by decide) (by decide +kernel) dX6_commit_60 ?_
      obtain ⟨M32, e33, hf⟩ := x_lt hf
      rw [← e33]
      clear e33
      refine x_iload_n C 2 dX6_commit_63 rfl ?_
      obtain rfl := Option.some.inj hf
      refine x_ret ?_
      exact x_iret C hr hlk dX6_commit_64
  · have hf := x_cx hf
    obtain rfl := Option.some.inj hf
    refine x_callSXt (mc := 1) (ms := 6) C (t_X6_throwIfRefused hfl hg) (va_cwS 1 C.1.2.2.2.2 gX6_commit_X6_throwIfRefused rfl rfl rfl (by decide +kernel) ⟨Nat.le_of_ble_eq_true rfl, Nat.le_of_ble_eq_true rfl⟩) rfl rfl (Nat.le_of_ble_eq_true rfl) dX6_commit_1 ⟨Nat.le_of_ble_eq_true rfl, Nat.le_of_ble_eq_true rfl⟩ (fun ta2 => ?_)
    exact x_out C hlk htb (Nat.le_of_ble_eq_true rfl) (Nat.le_of_ble_eq_true rfl)
/-! WaitingRoomSimulation.addCustomer(I)I -/
abbrev rm_X6_addCustomer (c s : Nat) : Room := { frames := 10, cells := c, slots := s, locals := 242 }
def f_X6_addCustomer (a1 : Int32) (M : xM) : Option ((Int32 ⊕ String) × xM) := if xkd (M.2.1 0 1) = 5 then if xkd (M.2.1 0 0) = 5 then (f_X3_copyFrom (M.2.1 0 1) (M.2.1 0 0) M).bind fun q3 => if xkd (q3.2.1 0 1) = 5 then (f_X3_admit (q3.2.1 0 1) a1 q3).bind fun q6 => (f_X6_commit q6.1 q6.2).bind fun q8 => x_case q8.1 (fun r10 => (fun (M12 : xM) => some (.inl r10, M12)) q8.2) (fun E11 => (fun (M12 : xM) => some (.inr E11, M12)) q8.2) else none else none else none
set_option maxHeartbeats 4000000 in
set_option maxRecDepth 100000 in
theorem t_X6_addCustomer {l : Launch} {G : xG} {ta : Nat × Nat} {M : xM} {a1 : Int32} {out : (Int32 ⊕ String) × xM} (hfl : l.stackTraces = false) (hf : f_X6_addCustomer a1 M = some out) : xMetX G l yX6_addCustomer wsX6_addCustomer (rm_X6_addCustomer (xoc out.1) (xos out.1)) (xoc out.1) (xos out.1) ta M [.ref (xad G 0), .int a1] (xo xoI out.1) out.2 := by
  refine x_metX (cc := cX6_addCustomer) (nL := 2) (ret := some .int) (by decide) rfl (Nat.le_of_ble_eq_true rfl) ?_
  intro p e s m args below meth c C hr hlk htb
  have C : xC G p s m args c cX6_addCustomer 2 wsX6_addCustomer RX6 := C
  have i8 : ∀ w ∈ wsX60, w ∈ wsX6_addCustomer := by decide +kernel
  unfold f_X6_addCustomer at hf
  show xW G p l e (rm_X6_addCustomer (xoc out.1) (xos out.1)) s m args below meth c 2 (vx_MQ below (xQx G (xo xoI out.1) out.2) (xXc G (xo xoI out.1) out.2) args s (xoc out.1) (xos out.1) (xAs G)) 0 0 ta M 0 [(0, .ref (xad G 0)), (1, .int a1)] []
  refine x_aload_n C 0 dX6_addCustomer_0 rfl ?_
  obtain ⟨g1, hf⟩ := x_gd hf
  refine x_get8 C xkd_0 i8 1 (by decide) (by decide +kernel) rfl rfl dX6_addCustomer_1 ?_
  refine x_aload_n C 0 dX6_addCustomer_4 rfl ?_
  obtain ⟨g2, hf⟩ := x_gd hf
  refine x_get8 C xkd_0 i8 0 (by decide) (by decide +kernel) rfl rfl dX6_addCustomer_5 ?_
  obtain ⟨q3, hg, hf⟩ := x_bd hf
  refine x_callVv C (by rw [g1]; decide) (by rw [g1]; decide) (xc5 g1) rfl (t_X3_copyFrom g1 g2 hg) (cwV 1 C.1.2.2.2.2 gX6_addCustomer_X3_copyFrom rfl rfl rfl (by decide +kernel) ⟨Nat.le_of_ble_eq_true rfl, Nat.le_of_ble_eq_true rfl⟩) rfl rfl (Nat.le_of_ble_eq_true rfl) dX6_addCustomer_8 ⟨Nat.zero_le _, Nat.zero_le _⟩ (fun ta4 => ?_)
  clear hg
  refine x_aload_n C 0 dX6_addCustomer_11 rfl ?_
  refine x_aload_n C 0 dX6_addCustomer_12 rfl ?_
  obtain ⟨g5, hf⟩ := x_gd hf
  refine x_get8 C xkd_0 i8 1 (by decide) (by decide +kernel) rfl rfl dX6_addCustomer_13 ?_
  refine x_iload_n C 1 dX6_addCustomer_16 rfl ?_
  obtain ⟨q6, hg, hf⟩ := x_bd hf
  refine x_callVr C (by rw [g5]; decide) (by rw [g5]; decide) (xc5 g5) rfl (t_X3_admit g5 hg) (cwV 1 C.1.2.2.2.2 gX6_addCustomer_X3_admit rfl rfl rfl (by decide +kernel) ⟨Nat.le_of_ble_eq_true rfl, Nat.le_of_ble_eq_true rfl⟩) rfl rfl (Nat.le_of_ble_eq_true rfl) dX6_addCustomer_17 ⟨Nat.zero_le _, Nat.zero_le _⟩ (fun ta7 => ?_)
  clear hg
  obtain ⟨q8, hg, hf⟩ := x_bd hf
  rcases q8 with ⟨r10 | E11, M12⟩
  · have hf := x_ci hf
    refine x_callVXr (w := .int r10) (mc := 0) (ms := 0) C (by rw [xkd_0]; decide) (by rw [xkd_0]; decide) (xc8 xkd_0) rfl (t_X6_commit hfl hg) (cwV 1 C.1.2.2.2.2 gX6_addCustomer_X6_commit rfl rfl rfl (by decide +kernel) ⟨Nat.le_of_ble_eq_true rfl, Nat.le_of_ble_eq_true rfl⟩) rfl rfl (Nat.le_of_ble_eq_true rfl) dX6_addCustomer_20 ⟨Nat.zero_le _, Nat.zero_le _⟩ (fun ta9 => ?_)
    clear hg
    obtain rfl := Option.some.inj hf
    refine x_ret ?_
    exact x_iret C hr hlk dX6_addCustomer_23
  · have hf := x_cx hf
    obtain rfl := Option.some.inj hf
    refine x_callVXt (mc := 1) (ms := 6) C (by rw [xkd_0]; decide) (by rw [xkd_0]; decide) (xc8 xkd_0) rfl (t_X6_commit hfl hg) (cwV 1 C.1.2.2.2.2 gX6_addCustomer_X6_commit rfl rfl rfl (by decide +kernel) ⟨Nat.le_of_ble_eq_true rfl, Nat.le_of_ble_eq_true rfl⟩) rfl rfl (Nat.le_of_ble_eq_true rfl) dX6_addCustomer_20 ⟨Nat.le_of_ble_eq_true rfl, Nat.le_of_ble_eq_true rfl⟩ (fun ta9 => ?_)
    exact x_out C hlk htb (Nat.le_of_ble_eq_true rfl) (Nat.le_of_ble_eq_true rfl)
/-! WaitingRoomSimulation.openWindow(III)I -/
abbrev rm_X6_openWindow (c s : Nat) : Room := { frames := 10, cells := c, slots := s, locals := 242 }
def f_X6_openWindow (a1 : Int32) (a2 : Int32) (a3 : Int32) (M : xM) : Option ((Int32 ⊕ String) × xM) := if xkd (M.2.1 0 1) = 5 then if xkd (M.2.1 0 0) = 5 then (f_X3_copyFrom (M.2.1 0 1) (M.2.1 0 0) M).bind fun q3 => if xkd (q3.2.1 0 1) = 5 then (f_X3_open (q3.2.1 0 1) a1 a2 a3 q3).bind fun q6 => (f_X6_commit q6.1 q6.2).bind fun q8 => x_case q8.1 (fun r10 => (fun (M12 : xM) => some (.inl r10, M12)) q8.2) (fun E11 => (fun (M12 : xM) => some (.inr E11, M12)) q8.2) else none else none else none
set_option maxHeartbeats 4000000 in
set_option maxRecDepth 100000 in
theorem t_X6_openWindow {l : Launch} {G : xG} {ta : Nat × Nat} {M : xM} {a1 : Int32} {a2 : Int32} {a3 : Int32} {out : (Int32 ⊕ String) × xM} (hfl : l.stackTraces = false) (hf : f_X6_openWindow a1 a2 a3 M = some out) : xMetX G l yX6_openWindow wsX6_openWindow (rm_X6_openWindow (xoc out.1) (xos out.1)) (xoc out.1) (xos out.1) ta M [.ref (xad G 0), .int a1, .int a2, .int a3] (xo xoI out.1) out.2 := by
  refine x_metX (cc := cX6_openWindow) (nL := 4) (ret := some .int) (by decide) rfl (Nat.le_of_ble_eq_true rfl) ?_
  intro p e s m args below meth c C hr hlk htb
  have C : xC G p s m args c cX6_openWindow 4 wsX6_openWindow RX6 := C
  have i8 : ∀ w ∈ wsX60, w ∈ wsX6_openWindow := by decide +kernel
  unfold f_X6_openWindow at hf
  show xW G p l e (rm_X6_openWindow (xoc out.1) (xos out.1)) s m args below meth c 4 (vx_MQ below (xQx G (xo xoI out.1) out.2) (xXc G (xo xoI out.1) out.2) args s (xoc out.1) (xos out.1) (xAs G)) 0 0 ta M 0 [(0, .ref (xad G 0)), (1, .int a1), (2, .int a2), (3, .int a3)] []
  refine x_aload_n C 0 dX6_openWindow_0 rfl ?_
  obtain ⟨g1, hf⟩ := x_gd hf
  refine x_get8 C xkd_0 i8 1 (by decide) (by decide +kernel) rfl rfl dX6_openWindow_1 ?_
  refine x_aload_n C 0 dX6_openWindow_4 rfl ?_
  obtain ⟨g2, hf⟩ := x_gd hf
  refine x_get8 C xkd_0 i8 0 (by decide) (by decide +kernel) rfl rfl dX6_openWindow_5 ?_
  obtain ⟨q3, hg, hf⟩ := x_bd hf
  refine x_callVv C (by rw [g1]; decide) (by rw [g1]; decide) (xc5 g1) rfl (t_X3_copyFrom g1 g2 hg) (cwV 1 C.1.2.2.2.2 gX6_openWindow_X3_copyFrom rfl rfl rfl (by decide +kernel) ⟨Nat.le_of_ble_eq_true rfl, Nat.le_of_ble_eq_true rfl⟩) rfl rfl (Nat.le_of_ble_eq_true rfl) dX6_openWindow_8 ⟨Nat.zero_le _, Nat.zero_le _⟩ (fun ta4 => ?_)
  clear hg
  refine x_aload_n C 0 dX6_openWindow_11 rfl ?_
  refine x_aload_n C 0 dX6_openWindow_12 rfl ?_
  obtain ⟨g5, hf⟩ := x_gd hf
  refine x_get8 C xkd_0 i8 1 (by decide) (by decide +kernel) rfl rfl dX6_openWindow_13 ?_
  refine x_iload_n C 1 dX6_openWindow_16 rfl ?_
  refine x_iload_n C 2 dX6_openWindow_17 rfl ?_
  refine x_iload_n C 3 dX6_openWindow_18 rfl ?_
  obtain ⟨q6, hg, hf⟩ := x_bd hf
  refine x_callVr C (by rw [g5]; decide) (by rw [g5]; decide) (xc5 g5) rfl (t_X3_open g5 hg) (cwV 3 C.1.2.2.2.2 gX6_openWindow_X3_open rfl rfl rfl (by decide +kernel) ⟨Nat.le_of_ble_eq_true rfl, Nat.le_of_ble_eq_true rfl⟩) rfl rfl (Nat.le_of_ble_eq_true rfl) dX6_openWindow_19 ⟨Nat.zero_le _, Nat.zero_le _⟩ (fun ta7 => ?_)
  clear hg
  obtain ⟨q8, hg, hf⟩ := x_bd hf
  rcases q8 with ⟨r10 | E11, M12⟩
  · have hf := x_ci hf
    refine x_callVXr (w := .int r10) (mc := 0) (ms := 0) C (by rw [xkd_0]; decide) (by rw [xkd_0]; decide) (xc8 xkd_0) rfl (t_X6_commit hfl hg) (cwV 1 C.1.2.2.2.2 gX6_openWindow_X6_commit rfl rfl rfl (by decide +kernel) ⟨Nat.le_of_ble_eq_true rfl, Nat.le_of_ble_eq_true rfl⟩) rfl rfl (Nat.le_of_ble_eq_true rfl) dX6_openWindow_22 ⟨Nat.zero_le _, Nat.zero_le _⟩ (fun ta9 => ?_)
    clear hg
    obtain rfl := Option.some.inj hf
    refine x_ret ?_
    exact x_iret C hr hlk dX6_openWindow_25
  · have hf := x_cx hf
    obtain rfl := Option.some.inj hf
    refine x_callVXt (mc := 1) (ms := 6) C (by rw [xkd_0]; decide) (by rw [xkd_0]; decide) (xc8 xkd_0) rfl (t_X6_commit hfl hg) (cwV 1 C.1.2.2.2.2 gX6_openWindow_X6_commit rfl rfl rfl (by decide +kernel) ⟨Nat.le_of_ble_eq_true rfl, Nat.le_of_ble_eq_true rfl⟩) rfl rfl (Nat.le_of_ble_eq_true rfl) dX6_openWindow_22 ⟨Nat.le_of_ble_eq_true rfl, Nat.le_of_ble_eq_true rfl⟩ (fun ta9 => ?_)
    exact x_out C hlk htb (Nat.le_of_ble_eq_true rfl) (Nat.le_of_ble_eq_true rfl)
/-! WaitingRoomSimulation.closeWindow(I)I -/
abbrev rm_X6_closeWindow (c s : Nat) : Room := { frames := 10, cells := c, slots := s, locals := 242 }
def f_X6_closeWindow (a1 : Int32) (M : xM) : Option ((Int32 ⊕ String) × xM) := if xkd (M.2.1 0 1) = 5 then if xkd (M.2.1 0 0) = 5 then (f_X3_copyFrom (M.2.1 0 1) (M.2.1 0 0) M).bind fun q3 => if xkd (q3.2.1 0 1) = 5 then (f_X3_close (q3.2.1 0 1) a1 q3).bind fun q6 => (f_X6_commit q6.1 q6.2).bind fun q8 => x_case q8.1 (fun r10 => (fun (M12 : xM) => some (.inl r10, M12)) q8.2) (fun E11 => (fun (M12 : xM) => some (.inr E11, M12)) q8.2) else none else none else none
set_option maxHeartbeats 4000000 in
set_option maxRecDepth 100000 in
theorem t_X6_closeWindow {l : Launch} {G : xG} {ta : Nat × Nat} {M : xM} {a1 : Int32} {out : (Int32 ⊕ String) × xM} (hfl : l.stackTraces = false) (hf : f_X6_closeWindow a1 M = some out) : xMetX G l yX6_closeWindow wsX6_closeWindow (rm_X6_closeWindow (xoc out.1) (xos out.1)) (xoc out.1) (xos out.1) ta M [.ref (xad G 0), .int a1] (xo xoI out.1) out.2 := by
  refine x_metX (cc := cX6_closeWindow) (nL := 2) (ret := some .int) (by decide) rfl (Nat.le_of_ble_eq_true rfl) ?_
  intro p e s m args below meth c C hr hlk htb
  have C : xC G p s m args c cX6_closeWindow 2 wsX6_closeWindow RX6 := C
  have i8 : ∀ w ∈ wsX60, w ∈ wsX6_closeWindow := by decide +kernel
  unfold f_X6_closeWindow at hf
  show xW G p l e (rm_X6_closeWindow (xoc out.1) (xos out.1)) s m args below meth c 2 (vx_MQ below (xQx G (xo xoI out.1) out.2) (xXc G (xo xoI out.1) out.2) args s (xoc out.1) (xos out.1) (xAs G)) 0 0 ta M 0 [(0, .ref (xad G 0)), (1, .int a1)] []
  refine x_aload_n C 0 dX6_closeWindow_0 rfl ?_
  obtain ⟨g1, hf⟩ := x_gd hf
  refine x_get8 C xkd_0 i8 1 (by decide) (by decide +kernel) rfl rfl dX6_closeWindow_1 ?_
  refine x_aload_n C 0 dX6_closeWindow_4 rfl ?_
  obtain ⟨g2, hf⟩ := x_gd hf
  refine x_get8 C xkd_0 i8 0 (by decide) (by decide +kernel) rfl rfl dX6_closeWindow_5 ?_
  obtain ⟨q3, hg, hf⟩ := x_bd hf
  refine x_callVv C (by rw [g1]; decide) (by rw [g1]; decide) (xc5 g1) rfl (t_X3_copyFrom g1 g2 hg) (cwV 1 C.1.2.2.2.2 gX6_closeWindow_X3_copyFrom rfl rfl rfl (by decide +kernel) ⟨Nat.le_of_ble_eq_true rfl, Nat.le_of_ble_eq_true rfl⟩) rfl rfl (Nat.le_of_ble_eq_true rfl) dX6_closeWindow_8 ⟨Nat.zero_le _, Nat.zero_le _⟩ (fun ta4 => ?_)
  clear hg
  refine x_aload_n C 0 dX6_closeWindow_11 rfl ?_
  refine x_aload_n C 0 dX6_closeWindow_12 rfl ?_
  obtain ⟨g5, hf⟩ := x_gd hf
  refine x_get8 C xkd_0 i8 1 (by decide) (by decide +kernel) rfl rfl dX6_closeWindow_13 ?_
  refine x_iload_n C 1 dX6_closeWindow_16 rfl ?_
  obtain ⟨q6, hg, hf⟩ := x_bd hf
  refine x_callVr C (by rw [g5]; decide) (by rw [g5]; decide) (xc5 g5) rfl (t_X3_close g5 hg) (cwV 1 C.1.2.2.2.2 gX6_closeWindow_X3_close rfl rfl rfl (by decide +kernel) ⟨Nat.le_of_ble_eq_true rfl, Nat.le_of_ble_eq_true rfl⟩) rfl rfl (Nat.le_of_ble_eq_true rfl) dX6_closeWindow_17 ⟨Nat.zero_le _, Nat.zero_le _⟩ (fun ta7 => ?_)
  clear hg
  obtain ⟨q8, hg, hf⟩ := x_bd hf
  rcases q8 with ⟨r10 | E11, M12⟩
  · have hf := x_ci hf
    refine x_callVXr (w := .int r10) (mc := 0) (ms := 0) C (by rw [xkd_0]; decide) (by rw [xkd_0]; decide) (xc8 xkd_0) rfl (t_X6_commit hfl hg) (cwV 1 C.1.2.2.2.2 gX6_closeWindow_X6_commit rfl rfl rfl (by decide +kernel) ⟨Nat.le_of_ble_eq_true rfl, Nat.le_of_ble_eq_true rfl⟩) rfl rfl (Nat.le_of_ble_eq_true rfl) dX6_closeWindow_20 ⟨Nat.zero_le _, Nat.zero_le _⟩ (fun ta9 => ?_)
    clear hg
    obtain rfl := Option.some.inj hf
    refine x_ret ?_
    exact x_iret C hr hlk dX6_closeWindow_23
  · have hf := x_cx hf
    obtain rfl := Option.some.inj hf
    refine x_callVXt (mc := 1) (ms := 6) C (by rw [xkd_0]; decide) (by rw [xkd_0]; decide) (xc8 xkd_0) rfl (t_X6_commit hfl hg) (cwV 1 C.1.2.2.2.2 gX6_closeWindow_X6_commit rfl rfl rfl (by decide +kernel) ⟨Nat.le_of_ble_eq_true rfl, Nat.le_of_ble_eq_true rfl⟩) rfl rfl (Nat.le_of_ble_eq_true rfl) dX6_closeWindow_20 ⟨Nat.le_of_ble_eq_true rfl, Nat.le_of_ble_eq_true rfl⟩ (fun ta9 => ?_)
    exact x_out C hlk htb (Nat.le_of_ble_eq_true rfl) (Nat.le_of_ble_eq_true rfl)
/-! WaitingRoomSimulation.callNext()I -/
abbrev rm_X6_callNext (c s : Nat) : Room := { frames := 10, cells := c, slots := s, locals := 242 }
def f_X6_callNext (M : xM) : Option ((Int32 ⊕ String) × xM) := if xkd (M.2.1 0 1) = 5 then if xkd (M.2.1 0 0) = 5 then (f_X3_copyFrom (M.2.1 0 1) (M.2.1 0 0) M).bind fun q3 => if xkd (q3.2.1 0 1) = 5 then (f_X3_callLowestTicket (q3.2.1 0 1) q3).bind fun q6 => (f_X6_commit q6.1 q6.2).bind fun q8 => x_case q8.1 (fun r10 => (fun (M12 : xM) => some (.inl r10, M12)) q8.2) (fun E11 => (fun (M12 : xM) => some (.inr E11, M12)) q8.2) else none else none else none
set_option maxHeartbeats 4000000 in
set_option maxRecDepth 100000 in
theorem t_X6_callNext {l : Launch} {G : xG} {ta : Nat × Nat} {M : xM} {out : (Int32 ⊕ String) × xM} (hfl : l.stackTraces = false) (hf : f_X6_callNext M = some out) : xMetX G l yX6_callNext wsX6_callNext (rm_X6_callNext (xoc out.1) (xos out.1)) (xoc out.1) (xos out.1) ta M [.ref (xad G 0)] (xo xoI out.1) out.2 := by
  refine x_metX (cc := cX6_callNext) (nL := 1) (ret := some .int) (by decide) rfl (Nat.le_of_ble_eq_true rfl) ?_
  intro p e s m args below meth c C hr hlk htb
  have C : xC G p s m args c cX6_callNext 1 wsX6_callNext RX6 := C
  have i8 : ∀ w ∈ wsX60, w ∈ wsX6_callNext := by decide +kernel
  unfold f_X6_callNext at hf
  show xW G p l e (rm_X6_callNext (xoc out.1) (xos out.1)) s m args below meth c 1 (vx_MQ below (xQx G (xo xoI out.1) out.2) (xXc G (xo xoI out.1) out.2) args s (xoc out.1) (xos out.1) (xAs G)) 0 0 ta M 0 [(0, .ref (xad G 0))] []
  refine x_aload_n C 0 dX6_callNext_0 rfl ?_
  obtain ⟨g1, hf⟩ := x_gd hf
  refine x_get8 C xkd_0 i8 1 (by decide) (by decide +kernel) rfl rfl dX6_callNext_1 ?_
  refine x_aload_n C 0 dX6_callNext_4 rfl ?_
  obtain ⟨g2, hf⟩ := x_gd hf
  refine x_get8 C xkd_0 i8 0 (by decide) (by decide +kernel) rfl rfl dX6_callNext_5 ?_
  obtain ⟨q3, hg, hf⟩ := x_bd hf
  refine x_callVv C (by rw [g1]; decide) (by rw [g1]; decide) (xc5 g1) rfl (t_X3_copyFrom g1 g2 hg) (cwV 1 C.1.2.2.2.2 gX6_callNext_X3_copyFrom rfl rfl rfl (by decide +kernel) ⟨Nat.le_of_ble_eq_true rfl, Nat.le_of_ble_eq_true rfl⟩) rfl rfl (Nat.le_of_ble_eq_true rfl) dX6_callNext_8 ⟨Nat.zero_le _, Nat.zero_le _⟩ (fun ta4 => ?_)
  clear hg
  refine x_aload_n C 0 dX6_callNext_11 rfl ?_
  refine x_aload_n C 0 dX6_callNext_12 rfl ?_
  obtain ⟨g5, hf⟩ := x_gd hf
  refine x_get8 C xkd_0 i8 1 (by decide) (by decide +kernel) rfl rfl dX6_callNext_13 ?_
  obtain ⟨q6, hg, hf⟩ := x_bd hf
  refine x_callVr C (by rw [g5]; decide) (by rw [g5]; decide) (xc5 g5) rfl (t_X3_callLowestTicket g5 hg) (cwV 0 C.1.2.2.2.2 gX6_callNext_X3_callLowestTicket rfl rfl rfl (by decide +kernel) ⟨Nat.le_of_ble_eq_true rfl, Nat.le_of_ble_eq_true rfl⟩) rfl rfl (Nat.le_of_ble_eq_true rfl) dX6_callNext_16 ⟨Nat.zero_le _, Nat.zero_le _⟩ (fun ta7 => ?_)
  clear hg
  obtain ⟨q8, hg, hf⟩ := x_bd hf
  rcases q8 with ⟨r10 | E11, M12⟩
  · have hf := x_ci hf
    refine x_callVXr (w := .int r10) (mc := 0) (ms := 0) C (by rw [xkd_0]; decide) (by rw [xkd_0]; decide) (xc8 xkd_0) rfl (t_X6_commit hfl hg) (cwV 1 C.1.2.2.2.2 gX6_callNext_X6_commit rfl rfl rfl (by decide +kernel) ⟨Nat.le_of_ble_eq_true rfl, Nat.le_of_ble_eq_true rfl⟩) rfl rfl (Nat.le_of_ble_eq_true rfl) dX6_callNext_19 ⟨Nat.zero_le _, Nat.zero_le _⟩ (fun ta9 => ?_)
    clear hg
    obtain rfl := Option.some.inj hf
    refine x_ret ?_
    exact x_iret C hr hlk dX6_callNext_22
  · have hf := x_cx hf
    obtain rfl := Option.some.inj hf
    refine x_callVXt (mc := 1) (ms := 6) C (by rw [xkd_0]; decide) (by rw [xkd_0]; decide) (xc8 xkd_0) rfl (t_X6_commit hfl hg) (cwV 1 C.1.2.2.2.2 gX6_callNext_X6_commit rfl rfl rfl (by decide +kernel) ⟨Nat.le_of_ble_eq_true rfl, Nat.le_of_ble_eq_true rfl⟩) rfl rfl (Nat.le_of_ble_eq_true rfl) dX6_callNext_19 ⟨Nat.le_of_ble_eq_true rfl, Nat.le_of_ble_eq_true rfl⟩ (fun ta9 => ?_)
    exact x_out C hlk htb (Nat.le_of_ble_eq_true rfl) (Nat.le_of_ble_eq_true rfl)
/-! WaitingRoomSimulation.swap(II)I -/
abbrev rm_X6_swap (c s : Nat) : Room := { frames := 10, cells := c, slots := s, locals := 242 }
def f_X6_swap (a1 : Int32) (a2 : Int32) (M : xM) : Option ((Int32 ⊕ String) × xM) := if xkd (M.2.1 0 1) = 5 then if xkd (M.2.1 0 0) = 5 then (f_X3_copyFrom (M.2.1 0 1) (M.2.1 0 0) M).bind fun q3 => if xkd (q3.2.1 0 1) = 5 then (f_X3_exchange (q3.2.1 0 1) a1 a2 q3).bind fun q6 => (f_X6_commit q6.1 q6.2).bind fun q8 => x_case q8.1 (fun r10 => (fun (M12 : xM) => some (.inl r10, M12)) q8.2) (fun E11 => (fun (M12 : xM) => some (.inr E11, M12)) q8.2) else none else none else none
set_option maxHeartbeats 4000000 in
set_option maxRecDepth 100000 in
theorem t_X6_swap {l : Launch} {G : xG} {ta : Nat × Nat} {M : xM} {a1 : Int32} {a2 : Int32} {out : (Int32 ⊕ String) × xM} (hfl : l.stackTraces = false) (hf : f_X6_swap a1 a2 M = some out) : xMetX G l yX6_swap wsX6_swap (rm_X6_swap (xoc out.1) (xos out.1)) (xoc out.1) (xos out.1) ta M [.ref (xad G 0), .int a1, .int a2] (xo xoI out.1) out.2 := by
  refine x_metX (cc := cX6_swap) (nL := 3) (ret := some .int) (by decide) rfl (Nat.le_of_ble_eq_true rfl) ?_
  intro p e s m args below meth c C hr hlk htb
  have C : xC G p s m args c cX6_swap 3 wsX6_swap RX6 := C
  have i8 : ∀ w ∈ wsX60, w ∈ wsX6_swap := by decide +kernel
  unfold f_X6_swap at hf
  show xW G p l e (rm_X6_swap (xoc out.1) (xos out.1)) s m args below meth c 3 (vx_MQ below (xQx G (xo xoI out.1) out.2) (xXc G (xo xoI out.1) out.2) args s (xoc out.1) (xos out.1) (xAs G)) 0 0 ta M 0 [(0, .ref (xad G 0)), (1, .int a1), (2, .int a2)] []
  refine x_aload_n C 0 dX6_swap_0 rfl ?_
  obtain ⟨g1, hf⟩ := x_gd hf
  refine x_get8 C xkd_0 i8 1 (by decide) (by decide +kernel) rfl rfl dX6_swap_1 ?_
  refine x_aload_n C 0 dX6_swap_4 rfl ?_
  obtain ⟨g2, hf⟩ := x_gd hf
  refine x_get8 C xkd_0 i8 0 (by decide) (by decide +kernel) rfl rfl dX6_swap_5 ?_
  obtain ⟨q3, hg, hf⟩ := x_bd hf
  refine x_callVv C (by rw [g1]; decide) (by rw [g1]; decide) (xc5 g1) rfl (t_X3_copyFrom g1 g2 hg) (cwV 1 C.1.2.2.2.2 gX6_swap_X3_copyFrom rfl rfl rfl (by decide +kernel) ⟨Nat.le_of_ble_eq_true rfl, Nat.le_of_ble_eq_true rfl⟩) rfl rfl (Nat.le_of_ble_eq_true rfl) dX6_swap_8 ⟨Nat.zero_le _, Nat.zero_le _⟩ (fun ta4 => ?_)
  clear hg
  refine x_aload_n C 0 dX6_swap_11 rfl ?_
  refine x_aload_n C 0 dX6_swap_12 rfl ?_
  obtain ⟨g5, hf⟩ := x_gd hf
  refine x_get8 C xkd_0 i8 1 (by decide) (by decide +kernel) rfl rfl dX6_swap_13 ?_
  refine x_iload_n C 1 dX6_swap_16 rfl ?_
  refine x_iload_n C 2 dX6_swap_17 rfl ?_
  obtain ⟨q6, hg, hf⟩ := x_bd hf
  refine x_callVr C (by rw [g5]; decide) (by rw [g5]; decide) (xc5 g5) rfl (t_X3_exchange g5 hg) (cwV 2 C.1.2.2.2.2 gX6_swap_X3_exchange rfl rfl rfl (by decide +kernel) ⟨Nat.le_of_ble_eq_true rfl, Nat.le_of_ble_eq_true rfl⟩) rfl rfl (Nat.le_of_ble_eq_true rfl) dX6_swap_18 ⟨Nat.zero_le _, Nat.zero_le _⟩ (fun ta7 => ?_)
  clear hg
  obtain ⟨q8, hg, hf⟩ := x_bd hf
  rcases q8 with ⟨r10 | E11, M12⟩
  · have hf := x_ci hf
    refine x_callVXr (w := .int r10) (mc := 0) (ms := 0) C (by rw [xkd_0]; decide) (by rw [xkd_0]; decide) (xc8 xkd_0) rfl (t_X6_commit hfl hg) (cwV 1 C.1.2.2.2.2 gX6_swap_X6_commit rfl rfl rfl (by decide +kernel) ⟨Nat.le_of_ble_eq_true rfl, Nat.le_of_ble_eq_true rfl⟩) rfl rfl (Nat.le_of_ble_eq_true rfl) dX6_swap_21 ⟨Nat.zero_le _, Nat.zero_le _⟩ (fun ta9 => ?_)
    clear hg
    obtain rfl := Option.some.inj hf
    refine x_ret ?_
    exact x_iret C hr hlk dX6_swap_24
  · have hf := x_cx hf
    obtain rfl := Option.some.inj hf
    refine x_callVXt (mc := 1) (ms := 6) C (by rw [xkd_0]; decide) (by rw [xkd_0]; decide) (xc8 xkd_0) rfl (t_X6_commit hfl hg) (cwV 1 C.1.2.2.2.2 gX6_swap_X6_commit rfl rfl rfl (by decide +kernel) ⟨Nat.le_of_ble_eq_true rfl, Nat.le_of_ble_eq_true rfl⟩) rfl rfl (Nat.le_of_ble_eq_true rfl) dX6_swap_21 ⟨Nat.le_of_ble_eq_true rfl, Nat.le_of_ble_eq_true rfl⟩ (fun ta9 => ?_)
    exact x_out C hlk htb (Nat.le_of_ble_eq_true rfl) (Nat.le_of_ble_eq_true rfl)
/-! WaitingRoomSimulation.sit(I)I -/
abbrev rm_X6_sit (c s : Nat) : Room := { frames := 10, cells := c, slots := s, locals := 242 }
def f_X6_sit (a1 : Int32) (M : xM) : Option ((Int32 ⊕ String) × xM) := if xkd (M.2.1 0 1) = 5 then if xkd (M.2.1 0 0) = 5 then (f_X3_copyFrom (M.2.1 0 1) (M.2.1 0 0) M).bind fun q3 => if xkd (q3.2.1 0 1) = 5 then (f_X3_seat (q3.2.1 0 1) a1 q3).bind fun q6 => (f_X6_commit q6.1 q6.2).bind fun q8 => x_case q8.1 (fun r10 => (fun (M12 : xM) => some (.inl r10, M12)) q8.2) (fun E11 => (fun (M12 : xM) => some (.inr E11, M12)) q8.2) else none else none else none
set_option maxHeartbeats 4000000 in
set_option maxRecDepth 100000 in
theorem t_X6_sit {l : Launch} {G : xG} {ta : Nat × Nat} {M : xM} {a1 : Int32} {out : (Int32 ⊕ String) × xM} (hfl : l.stackTraces = false) (hf : f_X6_sit a1 M = some out) : xMetX G l yX6_sit wsX6_sit (rm_X6_sit (xoc out.1) (xos out.1)) (xoc out.1) (xos out.1) ta M [.ref (xad G 0), .int a1] (xo xoI out.1) out.2 := by
  refine x_metX (cc := cX6_sit) (nL := 2) (ret := some .int) (by decide) rfl (Nat.le_of_ble_eq_true rfl) ?_
  intro p e s m args below meth c C hr hlk htb
  have C : xC G p s m args c cX6_sit 2 wsX6_sit RX6 := C
  have i8 : ∀ w ∈ wsX60, w ∈ wsX6_sit := by decide +kernel
  unfold f_X6_sit at hf
  show xW G p l e (rm_X6_sit (xoc out.1) (xos out.1)) s m args below meth c 2 (vx_MQ below (xQx G (xo xoI out.1) out.2) (xXc G (xo xoI out.1) out.2) args s (xoc out.1) (xos out.1) (xAs G)) 0 0 ta M 0 [(0, .ref (xad G 0)), (1, .int a1)] []
  refine x_aload_n C 0 dX6_sit_0 rfl ?_
  obtain ⟨g1, hf⟩ := x_gd hf
  refine x_get8 C xkd_0 i8 1 (by decide) (by decide +kernel) rfl rfl dX6_sit_1 ?_
  refine x_aload_n C 0 dX6_sit_4 rfl ?_
  obtain ⟨g2, hf⟩ := x_gd hf
  refine x_get8 C xkd_0 i8 0 (by decide) (by decide +kernel) rfl rfl dX6_sit_5 ?_
  obtain ⟨q3, hg, hf⟩ := x_bd hf
  refine x_callVv C (by rw [g1]; decide) (by rw [g1]; decide) (xc5 g1) rfl (t_X3_copyFrom g1 g2 hg) (cwV 1 C.1.2.2.2.2 gX6_sit_X3_copyFrom rfl rfl rfl (by decide +kernel) ⟨Nat.le_of_ble_eq_true rfl, Nat.le_of_ble_eq_true rfl⟩) rfl rfl (Nat.le_of_ble_eq_true rfl) dX6_sit_8 ⟨Nat.zero_le _, Nat.zero_le _⟩ (fun ta4 => ?_)
  clear hg
  refine x_aload_n C 0 dX6_sit_11 rfl ?_
  refine x_aload_n C 0 dX6_sit_12 rfl ?_
  obtain ⟨g5, hf⟩ := x_gd hf
  refine x_get8 C xkd_0 i8 1 (by decide) (by decide +kernel) rfl rfl dX6_sit_13 ?_
  refine x_iload_n C 1 dX6_sit_16 rfl ?_
  obtain ⟨q6, hg, hf⟩ := x_bd hf
  refine x_callVr C (by rw [g5]; decide) (by rw [g5]; decide) (xc5 g5) rfl (t_X3_seat g5 hg) (cwV 1 C.1.2.2.2.2 gX6_sit_X3_seat rfl rfl rfl (by decide +kernel) ⟨Nat.le_of_ble_eq_true rfl, Nat.le_of_ble_eq_true rfl⟩) rfl rfl (Nat.le_of_ble_eq_true rfl) dX6_sit_17 ⟨Nat.zero_le _, Nat.zero_le _⟩ (fun ta7 => ?_)
  clear hg
  obtain ⟨q8, hg, hf⟩ := x_bd hf
  rcases q8 with ⟨r10 | E11, M12⟩
  · have hf := x_ci hf
    refine x_callVXr (w := .int r10) (mc := 0) (ms := 0) C (by rw [xkd_0]; decide) (by rw [xkd_0]; decide) (xc8 xkd_0) rfl (t_X6_commit hfl hg) (cwV 1 C.1.2.2.2.2 gX6_sit_X6_commit rfl rfl rfl (by decide +kernel) ⟨Nat.le_of_ble_eq_true rfl, Nat.le_of_ble_eq_true rfl⟩) rfl rfl (Nat.le_of_ble_eq_true rfl) dX6_sit_20 ⟨Nat.zero_le _, Nat.zero_le _⟩ (fun ta9 => ?_)
    clear hg
    obtain rfl := Option.some.inj hf
    refine x_ret ?_
    exact x_iret C hr hlk dX6_sit_23
  · have hf := x_cx hf
    obtain rfl := Option.some.inj hf
    refine x_callVXt (mc := 1) (ms := 6) C (by rw [xkd_0]; decide) (by rw [xkd_0]; decide) (xc8 xkd_0) rfl (t_X6_commit hfl hg) (cwV 1 C.1.2.2.2.2 gX6_sit_X6_commit rfl rfl rfl (by decide +kernel) ⟨Nat.le_of_ble_eq_true rfl, Nat.le_of_ble_eq_true rfl⟩) rfl rfl (Nat.le_of_ble_eq_true rfl) dX6_sit_20 ⟨Nat.le_of_ble_eq_true rfl, Nat.le_of_ble_eq_true rfl⟩ (fun ta9 => ?_)
    exact x_out C hlk htb (Nat.le_of_ble_eq_true rfl) (Nat.le_of_ble_eq_true rfl)
/-! WaitingRoomSimulation.standUp(I)I -/
abbrev rm_X6_standUp (c s : Nat) : Room := { frames := 10, cells := c, slots := s, locals := 242 }
def f_X6_standUp (a1 : Int32) (M : xM) : Option ((Int32 ⊕ String) × xM) := if xkd (M.2.1 0 1) = 5 then if xkd (M.2.1 0 0) = 5 then (f_X3_copyFrom (M.2.1 0 1) (M.2.1 0 0) M).bind fun q3 => if xkd (q3.2.1 0 1) = 5 then (f_X3_unseat (q3.2.1 0 1) a1 q3).bind fun q6 => (f_X6_commit q6.1 q6.2).bind fun q8 => x_case q8.1 (fun r10 => (fun (M12 : xM) => some (.inl r10, M12)) q8.2) (fun E11 => (fun (M12 : xM) => some (.inr E11, M12)) q8.2) else none else none else none
set_option maxHeartbeats 4000000 in
set_option maxRecDepth 100000 in
theorem t_X6_standUp {l : Launch} {G : xG} {ta : Nat × Nat} {M : xM} {a1 : Int32} {out : (Int32 ⊕ String) × xM} (hfl : l.stackTraces = false) (hf : f_X6_standUp a1 M = some out) : xMetX G l yX6_standUp wsX6_standUp (rm_X6_standUp (xoc out.1) (xos out.1)) (xoc out.1) (xos out.1) ta M [.ref (xad G 0), .int a1] (xo xoI out.1) out.2 := by
  refine x_metX (cc := cX6_standUp) (nL := 2) (ret := some .int) (by decide) rfl (Nat.le_of_ble_eq_true rfl) ?_
  intro p e s m args below meth c C hr hlk htb
  have C : xC G p s m args c cX6_standUp 2 wsX6_standUp RX6 := C
  have i8 : ∀ w ∈ wsX60, w ∈ wsX6_standUp := by decide +kernel
  unfold f_X6_standUp at hf
  show xW G p l e (rm_X6_standUp (xoc out.1) (xos out.1)) s m args below meth c 2 (vx_MQ below (xQx G (xo xoI out.1) out.2) (xXc G (xo xoI out.1) out.2) args s (xoc out.1) (xos out.1) (xAs G)) 0 0 ta M 0 [(0, .ref (xad G 0)), (1, .int a1)] []
  refine x_aload_n C 0 dX6_standUp_0 rfl ?_
  obtain ⟨g1, hf⟩ := x_gd hf
  refine x_get8 C xkd_0 i8 1 (by decide) (by decide +kernel) rfl rfl dX6_standUp_1 ?_
  refine x_aload_n C 0 dX6_standUp_4 rfl ?_
  obtain ⟨g2, hf⟩ := x_gd hf
  refine x_get8 C xkd_0 i8 0 (by decide) (by decide +kernel) rfl rfl dX6_standUp_5 ?_
  obtain ⟨q3, hg, hf⟩ := x_bd hf
  refine x_callVv C (by rw [g1]; decide) (by rw [g1]; decide) (xc5 g1) rfl (t_X3_copyFrom g1 g2 hg) (cwV 1 C.1.2.2.2.2 gX6_standUp_X3_copyFrom rfl rfl rfl (by decide +kernel) ⟨Nat.le_of_ble_eq_true rfl, Nat.le_of_ble_eq_true rfl⟩) rfl rfl (Nat.le_of_ble_eq_true rfl) dX6_standUp_8 ⟨Nat.zero_le _, Nat.zero_le _⟩ (fun ta4 => ?_)
  clear hg
  refine x_aload_n C 0 dX6_standUp_11 rfl ?_
  refine x_aload_n C 0 dX6_standUp_12 rfl ?_
  obtain ⟨g5, hf⟩ := x_gd hf
  refine x_get8 C xkd_0 i8 1 (by decide) (by decide +kernel) rfl rfl dX6_standUp_13 ?_
  refine x_iload_n C 1 dX6_standUp_16 rfl ?_
  obtain ⟨q6, hg, hf⟩ := x_bd hf
  refine x_callVr C (by rw [g5]; decide) (by rw [g5]; decide) (xc5 g5) rfl (t_X3_unseat g5 hg) (cwV 1 C.1.2.2.2.2 gX6_standUp_X3_unseat rfl rfl rfl (by decide +kernel) ⟨Nat.le_of_ble_eq_true rfl, Nat.le_of_ble_eq_true rfl⟩) rfl rfl (Nat.le_of_ble_eq_true rfl) dX6_standUp_17 ⟨Nat.zero_le _, Nat.zero_le _⟩ (fun ta7 => ?_)
  clear hg
  obtain ⟨q8, hg, hf⟩ := x_bd hf
  rcases q8 with ⟨r10 | E11, M12⟩
  · have hf := x_ci hf
    refine x_callVXr (w := .int r10) (mc := 0) (ms := 0) C (by rw [xkd_0]; decide) (by rw [xkd_0]; decide) (xc8 xkd_0) rfl (t_X6_commit hfl hg) (cwV 1 C.1.2.2.2.2 gX6_standUp_X6_commit rfl rfl rfl (by decide +kernel) ⟨Nat.le_of_ble_eq_true rfl, Nat.le_of_ble_eq_true rfl⟩) rfl rfl (Nat.le_of_ble_eq_true rfl) dX6_standUp_20 ⟨Nat.zero_le _, Nat.zero_le _⟩ (fun ta9 => ?_)
    clear hg
    obtain rfl := Option.some.inj hf
    refine x_ret ?_
    exact x_iret C hr hlk dX6_standUp_23
  · have hf := x_cx hf
    obtain rfl := Option.some.inj hf
    refine x_callVXt (mc := 1) (ms := 6) C (by rw [xkd_0]; decide) (by rw [xkd_0]; decide) (xc8 xkd_0) rfl (t_X6_commit hfl hg) (cwV 1 C.1.2.2.2.2 gX6_standUp_X6_commit rfl rfl rfl (by decide +kernel) ⟨Nat.le_of_ble_eq_true rfl, Nat.le_of_ble_eq_true rfl⟩) rfl rfl (Nat.le_of_ble_eq_true rfl) dX6_standUp_20 ⟨Nat.le_of_ble_eq_true rfl, Nat.le_of_ble_eq_true rfl⟩ (fun ta9 => ?_)
    exact x_out C hlk htb (Nat.le_of_ble_eq_true rfl) (Nat.le_of_ble_eq_true rfl)
/-! WaitingRoomSimulation.remove(I)I -/
abbrev rm_X6_remove (c s : Nat) : Room := { frames := 10, cells := c, slots := s, locals := 242 }
def f_X6_remove (a1 : Int32) (M : xM) : Option ((Int32 ⊕ String) × xM) := if xkd (M.2.1 0 1) = 5 then if xkd (M.2.1 0 0) = 5 then (f_X3_copyFrom (M.2.1 0 1) (M.2.1 0 0) M).bind fun q3 => if xkd (q3.2.1 0 1) = 5 then (f_X3_dismiss (q3.2.1 0 1) a1 q3).bind fun q6 => (f_X6_commit q6.1 q6.2).bind fun q8 => x_case q8.1 (fun r10 => (fun (M12 : xM) => some (.inl r10, M12)) q8.2) (fun E11 => (fun (M12 : xM) => some (.inr E11, M12)) q8.2) else none else none else none
set_option maxHeartbeats 4000000 in
set_option maxRecDepth 100000 in
theorem t_X6_remove {l : Launch} {G : xG} {ta : Nat × Nat} {M : xM} {a1 : Int32} {out : (Int32 ⊕ String) × xM} (hfl : l.stackTraces = false) (hf : f_X6_remove a1 M = some out) : xMetX G l yX6_remove wsX6_remove (rm_X6_remove (xoc out.1) (xos out.1)) (xoc out.1) (xos out.1) ta M [.ref (xad G 0), .int a1] (xo xoI out.1) out.2 := by
  refine x_metX (cc := cX6_remove) (nL := 2) (ret := some .int) (by decide) rfl (Nat.le_of_ble_eq_true rfl) ?_
  intro p e s m args below meth c C hr hlk htb
  have C : xC G p s m args c cX6_remove 2 wsX6_remove RX6 := C
  have i8 : ∀ w ∈ wsX60, w ∈ wsX6_remove := by decide +kernel
  unfold f_X6_remove at hf
  show xW G p l e (rm_X6_remove (xoc out.1) (xos out.1)) s m args below meth c 2 (vx_MQ below (xQx G (xo xoI out.1) out.2) (xXc G (xo xoI out.1) out.2) args s (xoc out.1) (xos out.1) (xAs G)) 0 0 ta M 0 [(0, .ref (xad G 0)), (1, .int a1)] []
  refine x_aload_n C 0 dX6_remove_0 rfl ?_
  obtain ⟨g1, hf⟩ := x_gd hf
  refine x_get8 C xkd_0 i8 1 (by decide) (by decide +kernel) rfl rfl dX6_remove_1 ?_
  refine x_aload_n C 0 dX6_remove_4 rfl ?_
  obtain ⟨g2, hf⟩ := x_gd hf
  refine x_get8 C xkd_0 i8 0 (by decide) (by decide +kernel) rfl rfl dX6_remove_5 ?_
  obtain ⟨q3, hg, hf⟩ := x_bd hf
  refine x_callVv C (by rw [g1]; decide) (by rw [g1]; decide) (xc5 g1) rfl (t_X3_copyFrom g1 g2 hg) (cwV 1 C.1.2.2.2.2 gX6_remove_X3_copyFrom rfl rfl rfl (by decide +kernel) ⟨Nat.le_of_ble_eq_true rfl, Nat.le_of_ble_eq_true rfl⟩) rfl rfl (Nat.le_of_ble_eq_true rfl) dX6_remove_8 ⟨Nat.zero_le _, Nat.zero_le _⟩ (fun ta4 => ?_)
  clear hg
  refine x_aload_n C 0 dX6_remove_11 rfl ?_
  refine x_aload_n C 0 dX6_remove_12 rfl ?_
  obtain ⟨g5, hf⟩ := x_gd hf
  refine x_get8 C xkd_0 i8 1 (by decide) (by decide +kernel) rfl rfl dX6_remove_13 ?_
  refine x_iload_n C 1 dX6_remove_16 rfl ?_
  obtain ⟨q6, hg, hf⟩ := x_bd hf
  refine x_callVr C (by rw [g5]; decide) (by rw [g5]; decide) (xc5 g5) rfl (t_X3_dismiss g5 hg) (cwV 1 C.1.2.2.2.2 gX6_remove_X3_dismiss rfl rfl rfl (by decide +kernel) ⟨Nat.le_of_ble_eq_true rfl, Nat.le_of_ble_eq_true rfl⟩) rfl rfl (Nat.le_of_ble_eq_true rfl) dX6_remove_17 ⟨Nat.zero_le _, Nat.zero_le _⟩ (fun ta7 => ?_)
  clear hg
  obtain ⟨q8, hg, hf⟩ := x_bd hf
  rcases q8 with ⟨r10 | E11, M12⟩
  · have hf := x_ci hf
    refine x_callVXr (w := .int r10) (mc := 0) (ms := 0) C (by rw [xkd_0]; decide) (by rw [xkd_0]; decide) (xc8 xkd_0) rfl (t_X6_commit hfl hg) (cwV 1 C.1.2.2.2.2 gX6_remove_X6_commit rfl rfl rfl (by decide +kernel) ⟨Nat.le_of_ble_eq_true rfl, Nat.le_of_ble_eq_true rfl⟩) rfl rfl (Nat.le_of_ble_eq_true rfl) dX6_remove_20 ⟨Nat.zero_le _, Nat.zero_le _⟩ (fun ta9 => ?_)
    clear hg
    obtain rfl := Option.some.inj hf
    refine x_ret ?_
    exact x_iret C hr hlk dX6_remove_23
  · have hf := x_cx hf
    obtain rfl := Option.some.inj hf
    refine x_callVXt (mc := 1) (ms := 6) C (by rw [xkd_0]; decide) (by rw [xkd_0]; decide) (xc8 xkd_0) rfl (t_X6_commit hfl hg) (cwV 1 C.1.2.2.2.2 gX6_remove_X6_commit rfl rfl rfl (by decide +kernel) ⟨Nat.le_of_ble_eq_true rfl, Nat.le_of_ble_eq_true rfl⟩) rfl rfl (Nat.le_of_ble_eq_true rfl) dX6_remove_20 ⟨Nat.le_of_ble_eq_true rfl, Nat.le_of_ble_eq_true rfl⟩ (fun ta9 => ?_)
    exact x_out C hlk htb (Nat.le_of_ble_eq_true rfl) (Nat.le_of_ble_eq_true rfl)
/-! WaitingRoomSimulation.advance(I)I -/
abbrev rm_X6_advance (c s : Nat) : Room := { frames := 10, cells := c, slots := s, locals := 242 }
def f_X6_advance (a1 : Int32) (M : xM) : Option ((Int32 ⊕ String) × xM) := if xkd (M.2.1 0 1) = 5 then if xkd (M.2.1 0 0) = 5 then (f_X3_copyFrom (M.2.1 0 1) (M.2.1 0 0) M).bind fun q3 => if xkd (q3.2.1 0 1) = 5 then (f_X3_pass (q3.2.1 0 1) a1 q3).bind fun q6 => (f_X6_commit q6.1 q6.2).bind fun q8 => x_case q8.1 (fun r10 => (fun (M12 : xM) => some (.inl r10, M12)) q8.2) (fun E11 => (fun (M12 : xM) => some (.inr E11, M12)) q8.2) else none else none else none
set_option maxHeartbeats 4000000 in
set_option maxRecDepth 100000 in
theorem t_X6_advance {l : Launch} {G : xG} {ta : Nat × Nat} {M : xM} {a1 : Int32} {out : (Int32 ⊕ String) × xM} (hfl : l.stackTraces = false) (hf : f_X6_advance a1 M = some out) : xMetX G l yX6_advance wsX6_advance (rm_X6_advance (xoc out.1) (xos out.1)) (xoc out.1) (xos out.1) ta M [.ref (xad G 0), .int a1] (xo xoI out.1) out.2 := by
  refine x_metX (cc := cX6_advance) (nL := 2) (ret := some .int) (by decide) rfl (Nat.le_of_ble_eq_true rfl) ?_
  intro p e s m args below meth c C hr hlk htb
  have C : xC G p s m args c cX6_advance 2 wsX6_advance RX6 := C
  have i8 : ∀ w ∈ wsX60, w ∈ wsX6_advance := by decide +kernel
  unfold f_X6_advance at hf
  show xW G p l e (rm_X6_advance (xoc out.1) (xos out.1)) s m args below meth c 2 (vx_MQ below (xQx G (xo xoI out.1) out.2) (xXc G (xo xoI out.1) out.2) args s (xoc out.1) (xos out.1) (xAs G)) 0 0 ta M 0 [(0, .ref (xad G 0)), (1, .int a1)] []
  refine x_aload_n C 0 dX6_advance_0 rfl ?_
  obtain ⟨g1, hf⟩ := x_gd hf
  refine x_get8 C xkd_0 i8 1 (by decide) (by decide +kernel) rfl rfl dX6_advance_1 ?_
  refine x_aload_n C 0 dX6_advance_4 rfl ?_
  obtain ⟨g2, hf⟩ := x_gd hf
  refine x_get8 C xkd_0 i8 0 (by decide) (by decide +kernel) rfl rfl dX6_advance_5 ?_
  obtain ⟨q3, hg, hf⟩ := x_bd hf
  refine x_callVv C (by rw [g1]; decide) (by rw [g1]; decide) (xc5 g1) rfl (t_X3_copyFrom g1 g2 hg) (cwV 1 C.1.2.2.2.2 gX6_advance_X3_copyFrom rfl rfl rfl (by decide +kernel) ⟨Nat.le_of_ble_eq_true rfl, Nat.le_of_ble_eq_true rfl⟩) rfl rfl (Nat.le_of_ble_eq_true rfl) dX6_advance_8 ⟨Nat.zero_le _, Nat.zero_le _⟩ (fun ta4 => ?_)
  clear hg
  refine x_aload_n C 0 dX6_advance_11 rfl ?_
  refine x_aload_n C 0 dX6_advance_12 rfl ?_
  obtain ⟨g5, hf⟩ := x_gd hf
  refine x_get8 C xkd_0 i8 1 (by decide) (by decide +kernel) rfl rfl dX6_advance_13 ?_
  refine x_iload_n C 1 dX6_advance_16 rfl ?_
  obtain ⟨q6, hg, hf⟩ := x_bd hf
  refine x_callVr C (by rw [g5]; decide) (by rw [g5]; decide) (xc5 g5) rfl (t_X3_pass g5 hg) (cwV 1 C.1.2.2.2.2 gX6_advance_X3_pass rfl rfl rfl (by decide +kernel) ⟨Nat.le_of_ble_eq_true rfl, Nat.le_of_ble_eq_true rfl⟩) rfl rfl (Nat.le_of_ble_eq_true rfl) dX6_advance_17 ⟨Nat.zero_le _, Nat.zero_le _⟩ (fun ta7 => ?_)
  clear hg
  obtain ⟨q8, hg, hf⟩ := x_bd hf
  rcases q8 with ⟨r10 | E11, M12⟩
  · have hf := x_ci hf
    refine x_callVXr (w := .int r10) (mc := 0) (ms := 0) C (by rw [xkd_0]; decide) (by rw [xkd_0]; decide) (xc8 xkd_0) rfl (t_X6_commit hfl hg) (cwV 1 C.1.2.2.2.2 gX6_advance_X6_commit rfl rfl rfl (by decide +kernel) ⟨Nat.le_of_ble_eq_true rfl, Nat.le_of_ble_eq_true rfl⟩) rfl rfl (Nat.le_of_ble_eq_true rfl) dX6_advance_20 ⟨Nat.zero_le _, Nat.zero_le _⟩ (fun ta9 => ?_)
    clear hg
    obtain rfl := Option.some.inj hf
    refine x_ret ?_
    exact x_iret C hr hlk dX6_advance_23
  · have hf := x_cx hf
    obtain rfl := Option.some.inj hf
    refine x_callVXt (mc := 1) (ms := 6) C (by rw [xkd_0]; decide) (by rw [xkd_0]; decide) (xc8 xkd_0) rfl (t_X6_commit hfl hg) (cwV 1 C.1.2.2.2.2 gX6_advance_X6_commit rfl rfl rfl (by decide +kernel) ⟨Nat.le_of_ble_eq_true rfl, Nat.le_of_ble_eq_true rfl⟩) rfl rfl (Nat.le_of_ble_eq_true rfl) dX6_advance_20 ⟨Nat.le_of_ble_eq_true rfl, Nat.le_of_ble_eq_true rfl⟩ (fun ta9 => ?_)
    exact x_out C hlk htb (Nat.le_of_ble_eq_true rfl) (Nat.le_of_ble_eq_true rfl)
/-! WaitingRoomSimulation.customerCount()I -/
abbrev rm_X6_customerCount (c s : Nat) : Room := { frames := 0, cells := c, slots := s, locals := 0 }
def f_X6_customerCount (M : xM) : Option (Int32) := if xkd (M.2.1 0 0) = 5 then some (M.1 (M.2.1 0 0) 1) else none
set_option maxHeartbeats 4000000 in
set_option maxRecDepth 100000 in
theorem t_X6_customerCount {l : Launch} {G : xG} {ta : Nat × Nat} {M : xM} {out : Int32} (hf : f_X6_customerCount M = some out) : xMet G l yX6_customerCount wsX6_customerCount (rm_X6_customerCount 0 0) 0 0 ta M [.ref (xad G 0)] (some (.int out)) M := by
  refine x_met (cc := cX6_customerCount) (nL := 1) (ret := some .int) (by decide) rfl (Nat.le_of_ble_eq_true rfl) ?_
  intro p e s m args below meth c C hr hlk
  have C : xC G p s m args c cX6_customerCount 1 wsX6_customerCount RX6 := C
  have i5 : ∀ w ∈ wsX30, w ∈ wsX6_customerCount := by decide +kernel
  have i8 : ∀ w ∈ wsX60, w ∈ wsX6_customerCount := by decide +kernel
  unfold f_X6_customerCount at hf
  show xW G p l e (rm_X6_customerCount 0 0) s m args below meth c 1 (MQ below (xQr G (some (.int out)) M) args s 0 0 (xAs G)) 0 0 ta M 0 [(0, .ref (xad G 0))] []
  refine x_aload_n C 0 dX6_customerCount_0 rfl ?_
  obtain ⟨g1, hf⟩ := x_gd hf
  refine x_get8 C xkd_0 i8 0 (by decide) (by decide +kernel) rfl rfl dX6_customerCount_1 ?_
  refine x_get5 C g1 i5 1 (by decide) (by decide +kernel) rfl rfl dX6_customerCount_4 ?_
  obtain rfl := Option.some.inj hf
  exact x_iret C hr hlk dX6_customerCount_7
/-! WaitingRoomSimulation.requireCustomer(I)V -/
abbrev rm_X6_requireCustomer (c s : Nat) : Room := { frames := 8, cells := c, slots := s, locals := 200 }
def f_X6_requireCustomer (a1 : Int32) (M : xM) : Option ((Unit ⊕ String)) := if xkd (M.2.1 0 0) = 5 then (f_X3_hasCustomer (M.2.1 0 0) a1 M).bind fun q2 => (if q2 = 0 then some (.inr "java/lang/IndexOutOfBoundsException") else some (.inl ())) else none
set_option maxHeartbeats 4000000 in
set_option maxRecDepth 100000 in
theorem t_X6_requireCustomer {l : Launch} {G : xG} {ta : Nat × Nat} {M : xM} {a1 : Int32} {out : (Unit ⊕ String)} (hfl : l.stackTraces = false) (hf : f_X6_requireCustomer a1 M = some out) : xMetX G l yX6_requireCustomer wsX6_requireCustomer (rm_X6_requireCustomer (xoc out) (xos out)) (xoc out) (xos out) ta M [.ref (xad G 0), .int a1] (xo xoU out) M := by
  refine x_metX (cc := cX6_requireCustomer) (nL := 2) (ret := none) (by decide) rfl (Nat.le_of_ble_eq_true rfl) ?_
  intro p e s m args below meth c C hr hlk htb
  have C : xC G p s m args c cX6_requireCustomer 2 wsX6_requireCustomer RX6 := C
  have i8 : ∀ w ∈ wsX60, w ∈ wsX6_requireCustomer := by decide +kernel
  unfold f_X6_requireCustomer at hf
  show xW G p l e (rm_X6_requireCustomer (xoc out) (xos out)) s m args below meth c 2 (vx_MQ below (xQx G (xo xoU out) M) (xXc G (xo xoU out) M) args s (xoc out) (xos out) (xAs G)) 0 0 ta M 0 [(0, .ref (xad G 0)), (1, .int a1)] []
  refine x_aload_n C 0 dX6_requireCustomer_0 rfl ?_
  obtain ⟨g1, hf⟩ := x_gd hf
  refine x_get8 C xkd_0 i8 0 (by decide) (by decide +kernel) rfl rfl dX6_requireCustomer_1 ?_
  refine x_iload_n C 1 dX6_requireCustomer_4 rfl ?_
  obtain ⟨q2, hg, hf⟩ := x_bd hf
  refine x_callVr C (by rw [g1]; decide) (by rw [g1]; decide) (xc5 g1) rfl (t_X3_hasCustomer g1 hg) (cwV 1 C.1.2.2.2.2 gX6_requireCustomer_X3_hasCustomer rfl rfl rfl (by decide +kernel) ⟨Nat.le_of_ble_eq_true rfl, Nat.le_of_ble_eq_true rfl⟩) rfl rfl (Nat.le_of_ble_eq_true rfl) dX6_requireCustomer_5 ⟨Nat.zero_le _, Nat.zero_le _⟩ (fun ta3 => ?_)
  clear hg
  refine x_if_ne C 21 dX6_requireCustomer_8 (by decide) (fun hc4 => ?_) (fun hc4 => ?_)
  · have hf := x_ine hc4 hf
    obtain rfl := Option.some.inj hf
    refine x_ret ?_
    exact x_vret C hr hlk dX6_requireCustomer_21
  · have hf := x_ip hc4 hf
    obtain rfl := Option.some.inj hf
    exact x_throw C hfl hlk htb (cls := "java/lang/IndexOutOfBoundsException") (names := ["java/lang/RuntimeException", "java/lang/Exception"]) (ik := 99) (is := 174) (ic := 103) (text := "there is no such customer") (by decide +kernel) (by decide +kernel) (by decide +kernel) (by decide +kernel) (by decide +kernel) (by decide +kernel) (by decide +kernel) dX6_requireCustomer_11 dX6_requireCustomer_14 dX6_requireCustomer_15 dX6_requireCustomer_17 dX6_requireCustomer_20 (Nat.le_of_ble_eq_true rfl) (Nat.le_of_ble_eq_true rfl) (Nat.le_of_ble_eq_true rfl) (Nat.le_of_ble_eq_true rfl) (Nat.le_of_ble_eq_true rfl) (Nat.le_of_ble_eq_true rfl)
/-! WaitingRoomSimulation.ticket(I)I -/
abbrev rm_X6_ticket (c s : Nat) : Room := { frames := 9, cells := c, slots := s, locals := 221 }
def f_X6_ticket (a1 : Int32) (M : xM) : Option ((Int32 ⊕ String)) := (f_X6_requireCustomer a1 M).bind fun q1 => x_case q1 (fun r3 => if xkd (M.2.1 0 0) = 5 then if x_in a1 12 = true then if xkd (M.2.1 ((M.2.1 0 0) + 1) a1.toNatClampNeg) = 4 then some (.inl (M.1 (M.2.1 ((M.2.1 0 0) + 1) a1.toNatClampNeg) 0)) else none else none else none) (fun E4 => some (.inr E4))
set_option maxHeartbeats 4000000 in
set_option maxRecDepth 100000 in
theorem t_X6_ticket {l : Launch} {G : xG} {ta : Nat × Nat} {M : xM} {a1 : Int32} {out : (Int32 ⊕ String)} (hfl : l.stackTraces = false) (hf : f_X6_ticket a1 M = some out) : xMetX G l yX6_ticket wsX6_ticket (rm_X6_ticket (xoc out) (xos out)) (xoc out) (xos out) ta M [.ref (xad G 0), .int a1] (xo xoI out) M := by
  refine x_metX (cc := cX6_ticket) (nL := 2) (ret := some .int) (by decide) rfl (Nat.le_of_ble_eq_true rfl) ?_
  intro p e s m args below meth c C hr hlk htb
  have C : xC G p s m args c cX6_ticket 2 wsX6_ticket RX6 := C
  have i4 : ∀ w ∈ wsX20, w ∈ wsX6_ticket := by decide +kernel
  have i5 : ∀ w ∈ wsX30, w ∈ wsX6_ticket := by decide +kernel
  have i8 : ∀ w ∈ wsX60, w ∈ wsX6_ticket := by decide +kernel
  unfold f_X6_ticket at hf
  show xW G p l e (rm_X6_ticket (xoc out) (xos out)) s m args below meth c 2 (vx_MQ below (xQx G (xo xoI out) M) (xXc G (xo xoI out) M) args s (xoc out) (xos out) (xAs G)) 0 0 ta M 0 [(0, .ref (xad G 0)), (1, .int a1)] []
  refine x_aload_n C 0 dX6_ticket_0 rfl ?_
  refine x_iload_n C 1 dX6_ticket_1 rfl ?_
  obtain ⟨q1, hg, hf⟩ := x_bd hf
  rcases q1 with r3 | E4
  · have hf := x_ci hf
    refine x_callVXv (mc := 0) (ms := 0) C (by rw [xkd_0]; decide) (by rw [xkd_0]; decide) (xc8 xkd_0) rfl (t_X6_requireCustomer hfl hg) (cwV 1 C.1.2.2.2.2 gX6_ticket_X6_requireCustomer rfl rfl rfl (by decide +kernel) ⟨Nat.le_of_ble_eq_true rfl, Nat.le_of_ble_eq_true rfl⟩) rfl rfl (Nat.le_of_ble_eq_true rfl) dX6_ticket_2 ⟨Nat.zero_le _, Nat.zero_le _⟩ (fun ta2 => ?_)
    clear hg
    refine x_aload_n C 0 dX6_ticket_5 rfl ?_
    obtain ⟨g5, hf⟩ := x_gd hf
    refine x_get8 C xkd_0 i8 0 (by decide) (by decide +kernel) rfl rfl dX6_ticket_6 ?_
    refine x_get5 C g5 i5 0 (by decide) (by decide +kernel) rfl rfl dX6_ticket_9 ?_
    refine x_iload_n C 1 dX6_ticket_12 rfl ?_
    obtain ⟨g6, hf⟩ := x_gd hf
    obtain ⟨g7, hf⟩ := x_gd hf
    refine x_aald23 C (x5_k1 g5) (x5_l1 g5) g6 dX6_ticket_13 ?_
    refine x_get4 C g7 i4 0 (by decide) (by decide +kernel) rfl rfl dX6_ticket_14 ?_
    obtain rfl := Option.some.inj hf
    refine x_ret ?_
    exact x_iret C hr hlk dX6_ticket_17
  · have hf := x_cx hf
    obtain rfl := Option.some.inj hf
    refine x_callVXt (mc := 1) (ms := 6) C (by rw [xkd_0]; decide) (by rw [xkd_0]; decide) (xc8 xkd_0) rfl (t_X6_requireCustomer hfl hg) (cwV 1 C.1.2.2.2.2 gX6_ticket_X6_requireCustomer rfl rfl rfl (by decide +kernel) ⟨Nat.le_of_ble_eq_true rfl, Nat.le_of_ble_eq_true rfl⟩) rfl rfl (Nat.le_of_ble_eq_true rfl) dX6_ticket_2 ⟨Nat.le_of_ble_eq_true rfl, Nat.le_of_ble_eq_true rfl⟩ (fun ta2 => ?_)
    exact x_out C hlk htb (Nat.le_of_ble_eq_true rfl) (Nat.le_of_ble_eq_true rfl)
/-! WaitingRoomSimulation.patience(I)I -/
abbrev rm_X6_patience (c s : Nat) : Room := { frames := 9, cells := c, slots := s, locals := 221 }
def f_X6_patience (a1 : Int32) (M : xM) : Option ((Int32 ⊕ String)) := (f_X6_requireCustomer a1 M).bind fun q1 => x_case q1 (fun r3 => if xkd (M.2.1 0 0) = 5 then if x_in a1 12 = true then if xkd (M.2.1 ((M.2.1 0 0) + 1) a1.toNatClampNeg) = 4 then some (.inl (M.1 (M.2.1 ((M.2.1 0 0) + 1) a1.toNatClampNeg) 1)) else none else none else none) (fun E4 => some (.inr E4))
set_option maxHeartbeats 4000000 in
set_option maxRecDepth 100000 in
theorem t_X6_patience {l : Launch} {G : xG} {ta : Nat × Nat} {M : xM} {a1 : Int32} {out : (Int32 ⊕ String)} (hfl : l.stackTraces = false) (hf : f_X6_patience a1 M = some out) : xMetX G l yX6_patience wsX6_patience (rm_X6_patience (xoc out) (xos out)) (xoc out) (xos out) ta M [.ref (xad G 0), .int a1] (xo xoI out) M := by
  refine x_metX (cc := cX6_patience) (nL := 2) (ret := some .int) (by decide) rfl (Nat.le_of_ble_eq_true rfl) ?_
  intro p e s m args below meth c C hr hlk htb
  have C : xC G p s m args c cX6_patience 2 wsX6_patience RX6 := C
  have i4 : ∀ w ∈ wsX20, w ∈ wsX6_patience := by decide +kernel
  have i5 : ∀ w ∈ wsX30, w ∈ wsX6_patience := by decide +kernel
  have i8 : ∀ w ∈ wsX60, w ∈ wsX6_patience := by decide +kernel
  unfold f_X6_patience at hf
  show xW G p l e (rm_X6_patience (xoc out) (xos out)) s m args below meth c 2 (vx_MQ below (xQx G (xo xoI out) M) (xXc G (xo xoI out) M) args s (xoc out) (xos out) (xAs G)) 0 0 ta M 0 [(0, .ref (xad G 0)), (1, .int a1)] []
  refine x_aload_n C 0 dX6_patience_0 rfl ?_
  refine x_iload_n C 1 dX6_patience_1 rfl ?_
  obtain ⟨q1, hg, hf⟩ := x_bd hf
  rcases q1 with r3 | E4
  · have hf := x_ci hf
    refine x_callVXv (mc := 0) (ms := 0) C (by rw [xkd_0]; decide) (by rw [xkd_0]; decide) (xc8 xkd_0) rfl (t_X6_requireCustomer hfl hg) (cwV 1 C.1.2.2.2.2 gX6_patience_X6_requireCustomer rfl rfl rfl (by decide +kernel) ⟨Nat.le_of_ble_eq_true rfl, Nat.le_of_ble_eq_true rfl⟩) rfl rfl (Nat.le_of_ble_eq_true rfl) dX6_patience_2 ⟨Nat.zero_le _, Nat.zero_le _⟩ (fun ta2 => ?_)
    clear hg
    refine x_aload_n C 0 dX6_patience_5 rfl ?_
    obtain ⟨g5, hf⟩ := x_gd hf
    refine x_get8 C xkd_0 i8 0 (by decide) (by decide +kernel) rfl rfl dX6_patience_6 ?_
    refine x_get5 C g5 i5 0 (by decide) (by decide +kernel) rfl rfl dX6_patience_9 ?_
    refine x_iload_n C 1 dX6_patience_12 rfl ?_
    obtain ⟨g6, hf⟩ := x_gd hf
    obtain ⟨g7, hf⟩ := x_gd hf
    refine x_aald23 C (x5_k1 g5) (x5_l1 g5) g6 dX6_patience_13 ?_
    refine x_get4 C g7 i4 1 (by decide) (by decide +kernel) rfl rfl dX6_patience_14 ?_
    obtain rfl := Option.some.inj hf
    refine x_ret ?_
    exact x_iret C hr hlk dX6_patience_17
  · have hf := x_cx hf
    obtain rfl := Option.some.inj hf
    refine x_callVXt (mc := 1) (ms := 6) C (by rw [xkd_0]; decide) (by rw [xkd_0]; decide) (xc8 xkd_0) rfl (t_X6_requireCustomer hfl hg) (cwV 1 C.1.2.2.2.2 gX6_patience_X6_requireCustomer rfl rfl rfl (by decide +kernel) ⟨Nat.le_of_ble_eq_true rfl, Nat.le_of_ble_eq_true rfl⟩) rfl rfl (Nat.le_of_ble_eq_true rfl) dX6_patience_2 ⟨Nat.le_of_ble_eq_true rfl, Nat.le_of_ble_eq_true rfl⟩ (fun ta2 => ?_)
    exact x_out C hlk htb (Nat.le_of_ble_eq_true rfl) (Nat.le_of_ble_eq_true rfl)
/-! WaitingRoomSimulation.sighs(I)I -/
abbrev rm_X6_sighs (c s : Nat) : Room := { frames := 9, cells := c, slots := s, locals := 221 }
def f_X6_sighs (a1 : Int32) (M : xM) : Option ((Int32 ⊕ String)) := (f_X6_requireCustomer a1 M).bind fun q1 => x_case q1 (fun r3 => if xkd (M.2.1 0 0) = 5 then if x_in a1 12 = true then if xkd (M.2.1 ((M.2.1 0 0) + 1) a1.toNatClampNeg) = 4 then some (.inl (M.1 (M.2.1 ((M.2.1 0 0) + 1) a1.toNatClampNeg) 2)) else none else none else none) (fun E4 => some (.inr E4))
set_option maxHeartbeats 4000000 in
set_option maxRecDepth 100000 in
theorem t_X6_sighs {l : Launch} {G : xG} {ta : Nat × Nat} {M : xM} {a1 : Int32} {out : (Int32 ⊕ String)} (hfl : l.stackTraces = false) (hf : f_X6_sighs a1 M = some out) : xMetX G l yX6_sighs wsX6_sighs (rm_X6_sighs (xoc out) (xos out)) (xoc out) (xos out) ta M [.ref (xad G 0), .int a1] (xo xoI out) M := by
  refine x_metX (cc := cX6_sighs) (nL := 2) (ret := some .int) (by decide) rfl (Nat.le_of_ble_eq_true rfl) ?_
  intro p e s m args below meth c C hr hlk htb
  have C : xC G p s m args c cX6_sighs 2 wsX6_sighs RX6 := C
  have i4 : ∀ w ∈ wsX20, w ∈ wsX6_sighs := by decide +kernel
  have i5 : ∀ w ∈ wsX30, w ∈ wsX6_sighs := by decide +kernel
  have i8 : ∀ w ∈ wsX60, w ∈ wsX6_sighs := by decide +kernel
  unfold f_X6_sighs at hf
  show xW G p l e (rm_X6_sighs (xoc out) (xos out)) s m args below meth c 2 (vx_MQ below (xQx G (xo xoI out) M) (xXc G (xo xoI out) M) args s (xoc out) (xos out) (xAs G)) 0 0 ta M 0 [(0, .ref (xad G 0)), (1, .int a1)] []
  refine x_aload_n C 0 dX6_sighs_0 rfl ?_
  refine x_iload_n C 1 dX6_sighs_1 rfl ?_
  obtain ⟨q1, hg, hf⟩ := x_bd hf
  rcases q1 with r3 | E4
  · have hf := x_ci hf
    refine x_callVXv (mc := 0) (ms := 0) C (by rw [xkd_0]; decide) (by rw [xkd_0]; decide) (xc8 xkd_0) rfl (t_X6_requireCustomer hfl hg) (cwV 1 C.1.2.2.2.2 gX6_sighs_X6_requireCustomer rfl rfl rfl (by decide +kernel) ⟨Nat.le_of_ble_eq_true rfl, Nat.le_of_ble_eq_true rfl⟩) rfl rfl (Nat.le_of_ble_eq_true rfl) dX6_sighs_2 ⟨Nat.zero_le _, Nat.zero_le _⟩ (fun ta2 => ?_)
    clear hg
    refine x_aload_n C 0 dX6_sighs_5 rfl ?_
    obtain ⟨g5, hf⟩ := x_gd hf
    refine x_get8 C xkd_0 i8 0 (by decide) (by decide +kernel) rfl rfl dX6_sighs_6 ?_
    refine x_get5 C g5 i5 0 (by decide) (by decide +kernel) rfl rfl dX6_sighs_9 ?_
    refine x_iload_n C 1 dX6_sighs_12 rfl ?_
    obtain ⟨g6, hf⟩ := x_gd hf
    obtain ⟨g7, hf⟩ := x_gd hf
    refine x_aald23 C (x5_k1 g5) (x5_l1 g5) g6 dX6_sighs_13 ?_
    refine x_get4 C g7 i4 2 (by decide) (by decide +kernel) rfl rfl dX6_sighs_14 ?_
    obtain rfl := Option.some.inj hf
    refine x_ret ?_
    exact x_iret C hr hlk dX6_sighs_17
  · have hf := x_cx hf
    obtain rfl := Option.some.inj hf
    refine x_callVXt (mc := 1) (ms := 6) C (by rw [xkd_0]; decide) (by rw [xkd_0]; decide) (xc8 xkd_0) rfl (t_X6_requireCustomer hfl hg) (cwV 1 C.1.2.2.2.2 gX6_sighs_X6_requireCustomer rfl rfl rfl (by decide +kernel) ⟨Nat.le_of_ble_eq_true rfl, Nat.le_of_ble_eq_true rfl⟩) rfl rfl (Nat.le_of_ble_eq_true rfl) dX6_sighs_2 ⟨Nat.le_of_ble_eq_true rfl, Nat.le_of_ble_eq_true rfl⟩ (fun ta2 => ?_)
    exact x_out C hlk htb (Nat.le_of_ble_eq_true rfl) (Nat.le_of_ble_eq_true rfl)
/-! WaitingRoomSimulation.ache(I)I -/
abbrev rm_X6_ache (c s : Nat) : Room := { frames := 9, cells := c, slots := s, locals := 221 }
def f_X6_ache (a1 : Int32) (M : xM) : Option ((Int32 ⊕ String)) := (f_X6_requireCustomer a1 M).bind fun q1 => x_case q1 (fun r3 => if xkd (M.2.1 0 0) = 5 then if x_in a1 12 = true then if xkd (M.2.1 ((M.2.1 0 0) + 1) a1.toNatClampNeg) = 4 then some (.inl (M.1 (M.2.1 ((M.2.1 0 0) + 1) a1.toNatClampNeg) 3)) else none else none else none) (fun E4 => some (.inr E4))
set_option maxHeartbeats 4000000 in
set_option maxRecDepth 100000 in
theorem t_X6_ache {l : Launch} {G : xG} {ta : Nat × Nat} {M : xM} {a1 : Int32} {out : (Int32 ⊕ String)} (hfl : l.stackTraces = false) (hf : f_X6_ache a1 M = some out) : xMetX G l yX6_ache wsX6_ache (rm_X6_ache (xoc out) (xos out)) (xoc out) (xos out) ta M [.ref (xad G 0), .int a1] (xo xoI out) M := by
  refine x_metX (cc := cX6_ache) (nL := 2) (ret := some .int) (by decide) rfl (Nat.le_of_ble_eq_true rfl) ?_
  intro p e s m args below meth c C hr hlk htb
  have C : xC G p s m args c cX6_ache 2 wsX6_ache RX6 := C
  have i4 : ∀ w ∈ wsX20, w ∈ wsX6_ache := by decide +kernel
  have i5 : ∀ w ∈ wsX30, w ∈ wsX6_ache := by decide +kernel
  have i8 : ∀ w ∈ wsX60, w ∈ wsX6_ache := by decide +kernel
  unfold f_X6_ache at hf
  show xW G p l e (rm_X6_ache (xoc out) (xos out)) s m args below meth c 2 (vx_MQ below (xQx G (xo xoI out) M) (xXc G (xo xoI out) M) args s (xoc out) (xos out) (xAs G)) 0 0 ta M 0 [(0, .ref (xad G 0)), (1, .int a1)] []
  refine x_aload_n C 0 dX6_ache_0 rfl ?_
  refine x_iload_n C 1 dX6_ache_1 rfl ?_
  obtain ⟨q1, hg, hf⟩ := x_bd hf
  rcases q1 with r3 | E4
  · have hf := x_ci hf
    refine x_callVXv (mc := 0) (ms := 0) C (by rw [xkd_0]; decide) (by rw [xkd_0]; decide) (xc8 xkd_0) rfl (t_X6_requireCustomer hfl hg) (cwV 1 C.1.2.2.2.2 gX6_ache_X6_requireCustomer rfl rfl rfl (by decide +kernel) ⟨Nat.le_of_ble_eq_true rfl, Nat.le_of_ble_eq_true rfl⟩) rfl rfl (Nat.le_of_ble_eq_true rfl) dX6_ache_2 ⟨Nat.zero_le _, Nat.zero_le _⟩ (fun ta2 => ?_)
    clear hg
    refine x_aload_n C 0 dX6_ache_5 rfl ?_
    obtain ⟨g5, hf⟩ := x_gd hf
    refine x_get8 C xkd_0 i8 0 (by decide) (by decide +kernel) rfl rfl dX6_ache_6 ?_
    refine x_get5 C g5 i5 0 (by decide) (by decide +kernel) rfl rfl dX6_ache_9 ?_
    refine x_iload_n C 1 dX6_ache_12 rfl ?_
    obtain ⟨g6, hf⟩ := x_gd hf
    obtain ⟨g7, hf⟩ := x_gd hf
    refine x_aald23 C (x5_k1 g5) (x5_l1 g5) g6 dX6_ache_13 ?_
    refine x_get4 C g7 i4 3 (by decide) (by decide +kernel) rfl rfl dX6_ache_14 ?_
    obtain rfl := Option.some.inj hf
    refine x_ret ?_
    exact x_iret C hr hlk dX6_ache_17
  · have hf := x_cx hf
    obtain rfl := Option.some.inj hf
    refine x_callVXt (mc := 1) (ms := 6) C (by rw [xkd_0]; decide) (by rw [xkd_0]; decide) (xc8 xkd_0) rfl (t_X6_requireCustomer hfl hg) (cwV 1 C.1.2.2.2.2 gX6_ache_X6_requireCustomer rfl rfl rfl (by decide +kernel) ⟨Nat.le_of_ble_eq_true rfl, Nat.le_of_ble_eq_true rfl⟩) rfl rfl (Nat.le_of_ble_eq_true rfl) dX6_ache_2 ⟨Nat.le_of_ble_eq_true rfl, Nat.le_of_ble_eq_true rfl⟩ (fun ta2 => ?_)
    exact x_out C hlk htb (Nat.le_of_ble_eq_true rfl) (Nat.le_of_ble_eq_true rfl)
/-! WaitingRoomSimulation.waitingTime(I)I -/
abbrev rm_X6_waitingTime (c s : Nat) : Room := { frames := 9, cells := c, slots := s, locals := 221 }
def f_X6_waitingTime (a1 : Int32) (M : xM) : Option ((Int32 ⊕ String)) := (f_X6_requireCustomer a1 M).bind fun q1 => x_case q1 (fun r3 => if xkd (M.2.1 0 0) = 5 then if x_in a1 12 = true then if xkd (M.2.1 ((M.2.1 0 0) + 1) a1.toNatClampNeg) = 4 then some (.inl (M.1 (M.2.1 ((M.2.1 0 0) + 1) a1.toNatClampNeg) 4)) else none else none else none) (fun E4 => some (.inr E4))
set_option maxHeartbeats 4000000 in
set_option maxRecDepth 100000 in
theorem t_X6_waitingTime {l : Launch} {G : xG} {ta : Nat × Nat} {M : xM} {a1 : Int32} {out : (Int32 ⊕ String)} (hfl : l.stackTraces = false) (hf : f_X6_waitingTime a1 M = some out) : xMetX G l yX6_waitingTime wsX6_waitingTime (rm_X6_waitingTime (xoc out) (xos out)) (xoc out) (xos out) ta M [.ref (xad G 0), .int a1] (xo xoI out) M := by
  refine x_metX (cc := cX6_waitingTime) (nL := 2) (ret := some .int) (by decide) rfl (Nat.le_of_ble_eq_true rfl) ?_
  intro p e s m args below meth c C hr hlk htb
  have C : xC G p s m args c cX6_waitingTime 2 wsX6_waitingTime RX6 := C
  have i4 : ∀ w ∈ wsX20, w ∈ wsX6_waitingTime := by decide +kernel
  have i5 : ∀ w ∈ wsX30, w ∈ wsX6_waitingTime := by decide +kernel
  have i8 : ∀ w ∈ wsX60, w ∈ wsX6_waitingTime := by decide +kernel
  unfold f_X6_waitingTime at hf
  show xW G p l e (rm_X6_waitingTime (xoc out) (xos out)) s m args below meth c 2 (vx_MQ below (xQx G (xo xoI out) M) (xXc G (xo xoI out) M) args s (xoc out) (xos out) (xAs G)) 0 0 ta M 0 [(0, .ref (xad G 0)), (1, .int a1)] []
  refine x_aload_n C 0 dX6_waitingTime_0 rfl ?_
  refine x_iload_n C 1 dX6_waitingTime_1 rfl ?_
  obtain ⟨q1, hg, hf⟩ := x_bd hf
  rcases q1 with r3 | E4
  · have hf := x_ci hf
    refine x_callVXv (mc := 0) (ms := 0) C (by rw [xkd_0]; decide) (by rw [xkd_0]; decide) (xc8 xkd_0) rfl (t_X6_requireCustomer hfl hg) (cwV 1 C.1.2.2.2.2 gX6_waitingTime_X6_requireCustomer rfl rfl rfl (by decide +kernel) ⟨Nat.le_of_ble_eq_true rfl, Nat.le_of_ble_eq_true rfl⟩) rfl rfl (Nat.le_of_ble_eq_true rfl) dX6_waitingTime_2 ⟨Nat.zero_le _, Nat.zero_le _⟩ (fun ta2 => ?_)
    clear hg
    refine x_aload_n C 0 dX6_waitingTime_5 rfl ?_
    obtain ⟨g5, hf⟩ := x_gd hf
    refine x_get8 C xkd_0 i8 0 (by decide) (by decide +kernel) rfl rfl dX6_waitingTime_6 ?_
    refine x_get5 C g5 i5 0 (by decide) (by decide +kernel) rfl rfl dX6_waitingTime_9 ?_
    refine x_iload_n C 1 dX6_waitingTime_12 rfl ?_
    obtain ⟨g6, hf⟩ := x_gd hf
    obtain ⟨g7, hf⟩ := x_gd hf
    refine x_aald23 C (x5_k1 g5) (x5_l1 g5) g6 dX6_waitingTime_13 ?_
    refine x_get4 C g7 i4 4 (by decide) (by decide +kernel) rfl rfl dX6_waitingTime_14 ?_
    obtain rfl := Option.some.inj hf
    refine x_ret ?_
    exact x_iret C hr hlk dX6_waitingTime_17
  · have hf := x_cx hf
    obtain rfl := Option.some.inj hf
    refine x_callVXt (mc := 1) (ms := 6) C (by rw [xkd_0]; decide) (by rw [xkd_0]; decide) (xc8 xkd_0) rfl (t_X6_requireCustomer hfl hg) (cwV 1 C.1.2.2.2.2 gX6_waitingTime_X6_requireCustomer rfl rfl rfl (by decide +kernel) ⟨Nat.le_of_ble_eq_true rfl, Nat.le_of_ble_eq_true rfl⟩) rfl rfl (Nat.le_of_ble_eq_true rfl) dX6_waitingTime_2 ⟨Nat.le_of_ble_eq_true rfl, Nat.le_of_ble_eq_true rfl⟩ (fun ta2 => ?_)
    exact x_out C hlk htb (Nat.le_of_ble_eq_true rfl) (Nat.le_of_ble_eq_true rfl)
/-! WaitingRoomSimulation.isCalled(I)Z -/
abbrev rm_X6_isCalled (c s : Nat) : Room := { frames := 9, cells := c, slots := s, locals := 221 }
def f_X6_isCalled (a1 : Int32) (M : xM) : Option ((Int32 ⊕ String)) := (f_X6_requireCustomer a1 M).bind fun q1 => x_case q1 (fun r3 => if xkd (M.2.1 0 0) = 5 then if x_in a1 12 = true then if xkd (M.2.1 ((M.2.1 0 0) + 1) a1.toNatClampNeg) = 4 then if (M.1 (M.2.1 ((M.2.1 0 0) + 1) a1.toNatClampNeg) 5) = 0 ∨ (M.1 (M.2.1 ((M.2.1 0 0) + 1) a1.toNatClampNeg) 5) = 1 then some (.inl (M.1 (M.2.1 ((M.2.1 0 0) + 1) a1.toNatClampNeg) 5)) else none else none else none else none) (fun E4 => some (.inr E4))
set_option maxHeartbeats 4000000 in
set_option maxRecDepth 100000 in
theorem t_X6_isCalled {l : Launch} {G : xG} {ta : Nat × Nat} {M : xM} {a1 : Int32} {out : (Int32 ⊕ String)} (hfl : l.stackTraces = false) (hf : f_X6_isCalled a1 M = some out) : xMetX G l yX6_isCalled wsX6_isCalled (rm_X6_isCalled (xoc out) (xos out)) (xoc out) (xos out) ta M [.ref (xad G 0), .int a1] (xo xoI out) M := by
  refine x_metX (cc := cX6_isCalled) (nL := 2) (ret := some .boolean) (by decide) rfl (Nat.le_of_ble_eq_true rfl) ?_
  intro p e s m args below meth c C hr hlk htb
  have C : xC G p s m args c cX6_isCalled 2 wsX6_isCalled RX6 := C
  have i4 : ∀ w ∈ wsX20, w ∈ wsX6_isCalled := by decide +kernel
  have i5 : ∀ w ∈ wsX30, w ∈ wsX6_isCalled := by decide +kernel
  have i8 : ∀ w ∈ wsX60, w ∈ wsX6_isCalled := by decide +kernel
  unfold f_X6_isCalled at hf
  show xW G p l e (rm_X6_isCalled (xoc out) (xos out)) s m args below meth c 2 (vx_MQ below (xQx G (xo xoI out) M) (xXc G (xo xoI out) M) args s (xoc out) (xos out) (xAs G)) 0 0 ta M 0 [(0, .ref (xad G 0)), (1, .int a1)] []
  refine x_aload_n C 0 dX6_isCalled_0 rfl ?_
  refine x_iload_n C 1 dX6_isCalled_1 rfl ?_
  obtain ⟨q1, hg, hf⟩ := x_bd hf
  rcases q1 with r3 | E4
  · have hf := x_ci hf
    refine x_callVXv (mc := 0) (ms := 0) C (by rw [xkd_0]; decide) (by rw [xkd_0]; decide) (xc8 xkd_0) rfl (t_X6_requireCustomer hfl hg) (cwV 1 C.1.2.2.2.2 gX6_isCalled_X6_requireCustomer rfl rfl rfl (by decide +kernel) ⟨Nat.le_of_ble_eq_true rfl, Nat.le_of_ble_eq_true rfl⟩) rfl rfl (Nat.le_of_ble_eq_true rfl) dX6_isCalled_2 ⟨Nat.zero_le _, Nat.zero_le _⟩ (fun ta2 => ?_)
    clear hg
    refine x_aload_n C 0 dX6_isCalled_5 rfl ?_
    obtain ⟨g5, hf⟩ := x_gd hf
    refine x_get8 C xkd_0 i8 0 (by decide) (by decide +kernel) rfl rfl dX6_isCalled_6 ?_
    refine x_get5 C g5 i5 0 (by decide) (by decide +kernel) rfl rfl dX6_isCalled_9 ?_
    refine x_iload_n C 1 dX6_isCalled_12 rfl ?_
    obtain ⟨g6, hf⟩ := x_gd hf
    obtain ⟨g7, hf⟩ := x_gd hf
    refine x_aald23 C (x5_k1 g5) (x5_l1 g5) g6 dX6_isCalled_13 ?_
    refine x_get4 C g7 i4 5 (by decide) (by decide +kernel) rfl rfl dX6_isCalled_14 ?_
    obtain ⟨g8, hf⟩ := x_gd hf
    obtain rfl := Option.some.inj hf
    refine x_ret ?_
    exact x_zret C hr hlk (x_nb g8) dX6_isCalled_17
  · have hf := x_cx hf
    obtain rfl := Option.some.inj hf
    refine x_callVXt (mc := 1) (ms := 6) C (by rw [xkd_0]; decide) (by rw [xkd_0]; decide) (xc8 xkd_0) rfl (t_X6_requireCustomer hfl hg) (cwV 1 C.1.2.2.2.2 gX6_isCalled_X6_requireCustomer rfl rfl rfl (by decide +kernel) ⟨Nat.le_of_ble_eq_true rfl, Nat.le_of_ble_eq_true rfl⟩) rfl rfl (Nat.le_of_ble_eq_true rfl) dX6_isCalled_2 ⟨Nat.le_of_ble_eq_true rfl, Nat.le_of_ble_eq_true rfl⟩ (fun ta2 => ?_)
    exact x_out C hlk htb (Nat.le_of_ble_eq_true rfl) (Nat.le_of_ble_eq_true rfl)
/-! WaitingRoomSimulation.isSitting(I)Z -/
abbrev rm_X6_isSitting (c s : Nat) : Room := { frames := 9, cells := c, slots := s, locals := 221 }
def f_X6_isSitting (a1 : Int32) (M : xM) : Option ((Int32 ⊕ String)) := (f_X6_requireCustomer a1 M).bind fun q1 => x_case q1 (fun r3 => if xkd (M.2.1 0 0) = 5 then if x_in a1 12 = true then if xkd (M.2.1 ((M.2.1 0 0) + 1) a1.toNatClampNeg) = 4 then if (M.1 (M.2.1 ((M.2.1 0 0) + 1) a1.toNatClampNeg) 6) = 0 ∨ (M.1 (M.2.1 ((M.2.1 0 0) + 1) a1.toNatClampNeg) 6) = 1 then some (.inl (M.1 (M.2.1 ((M.2.1 0 0) + 1) a1.toNatClampNeg) 6)) else none else none else none else none) (fun E4 => some (.inr E4))
set_option maxHeartbeats 4000000 in
set_option maxRecDepth 100000 in
theorem t_X6_isSitting {l : Launch} {G : xG} {ta : Nat × Nat} {M : xM} {a1 : Int32} {out : (Int32 ⊕ String)} (hfl : l.stackTraces = false) (hf : f_X6_isSitting a1 M = some out) : xMetX G l yX6_isSitting wsX6_isSitting (rm_X6_isSitting (xoc out) (xos out)) (xoc out) (xos out) ta M [.ref (xad G 0), .int a1] (xo xoI out) M := by
  refine x_metX (cc := cX6_isSitting) (nL := 2) (ret := some .boolean) (by decide) rfl (Nat.le_of_ble_eq_true rfl) ?_
  intro p e s m args below meth c C hr hlk htb
  have C : xC G p s m args c cX6_isSitting 2 wsX6_isSitting RX6 := C
  have i4 : ∀ w ∈ wsX20, w ∈ wsX6_isSitting := by decide +kernel
  have i5 : ∀ w ∈ wsX30, w ∈ wsX6_isSitting := by decide +kernel
  have i8 : ∀ w ∈ wsX60, w ∈ wsX6_isSitting := by decide +kernel
  unfold f_X6_isSitting at hf
  show xW G p l e (rm_X6_isSitting (xoc out) (xos out)) s m args below meth c 2 (vx_MQ below (xQx G (xo xoI out) M) (xXc G (xo xoI out) M) args s (xoc out) (xos out) (xAs G)) 0 0 ta M 0 [(0, .ref (xad G 0)), (1, .int a1)] []
  refine x_aload_n C 0 dX6_isSitting_0 rfl ?_
  refine x_iload_n C 1 dX6_isSitting_1 rfl ?_
  obtain ⟨q1, hg, hf⟩ := x_bd hf
  rcases q1 with r3 | E4
  · have hf := x_ci hf
    refine x_callVXv (mc := 0) (ms := 0) C (by rw [xkd_0]; decide) (by rw [xkd_0]; decide) (xc8 xkd_0) rfl (t_X6_requireCustomer hfl hg) (cwV 1 C.1.2.2.2.2 gX6_isSitting_X6_requireCustomer rfl rfl rfl (by decide +kernel) ⟨Nat.le_of_ble_eq_true rfl, Nat.le_of_ble_eq_true rfl⟩) rfl rfl (Nat.le_of_ble_eq_true rfl) dX6_isSitting_2 ⟨Nat.zero_le _, Nat.zero_le _⟩ (fun ta2 => ?_)
    clear hg
    refine x_aload_n C 0 dX6_isSitting_5 rfl ?_
    obtain ⟨g5, hf⟩ := x_gd hf
    refine x_get8 C xkd_0 i8 0 (by decide) (by decide +kernel) rfl rfl dX6_isSitting_6 ?_
    refine x_get5 C g5 i5 0 (by decide) (by decide +kernel) rfl rfl dX6_isSitting_9 ?_
    refine x_iload_n C 1 dX6_isSitting_12 rfl ?_
    obtain ⟨g6, hf⟩ := x_gd hf
    obtain ⟨g7, hf⟩ := x_gd hf
    refine x_aald23 C (x5_k1 g5) (x5_l1 g5) g6 dX6_isSitting_13 ?_
    refine x_get4 C g7 i4 6 (by decide) (by decide +kernel) rfl rfl dX6_isSitting_14 ?_
    obtain ⟨g8, hf⟩ := x_gd hf
    obtain rfl := Option.some.inj hf
    refine x_ret ?_
    exact x_zret C hr hlk (x_nb g8) dX6_isSitting_17
  · have hf := x_cx hf
    obtain rfl := Option.some.inj hf
    refine x_callVXt (mc := 1) (ms := 6) C (by rw [xkd_0]; decide) (by rw [xkd_0]; decide) (xc8 xkd_0) rfl (t_X6_requireCustomer hfl hg) (cwV 1 C.1.2.2.2.2 gX6_isSitting_X6_requireCustomer rfl rfl rfl (by decide +kernel) ⟨Nat.le_of_ble_eq_true rfl, Nat.le_of_ble_eq_true rfl⟩) rfl rfl (Nat.le_of_ble_eq_true rfl) dX6_isSitting_2 ⟨Nat.le_of_ble_eq_true rfl, Nat.le_of_ble_eq_true rfl⟩ (fun ta2 => ?_)
    exact x_out C hlk htb (Nat.le_of_ble_eq_true rfl) (Nat.le_of_ble_eq_true rfl)
/-! WaitingRoomSimulation.position(I)I -/
abbrev rm_X6_position (c s : Nat) : Room := { frames := 9, cells := c, slots := s, locals := 221 }
def f_X6_position (a1 : Int32) (M : xM) : Option ((Int32 ⊕ String)) := (f_X6_requireCustomer a1 M).bind fun q1 => x_case q1 (fun r3 => if xkd (M.2.1 0 0) = 5 then (f_X3_positionOf (M.2.1 0 0) a1 M).bind fun q6 => (if q6 = (-1 : Int32) then some (.inr "java/util/NoSuchElementException") else some (.inl q6)) else none) (fun E4 => some (.inr E4))
set_option maxHeartbeats 4000000 in
set_option maxRecDepth 100000 in
theorem t_X6_position {l : Launch} {G : xG} {ta : Nat × Nat} {M : xM} {a1 : Int32} {out : (Int32 ⊕ String)} (hfl : l.stackTraces = false) (hf : f_X6_position a1 M = some out) : xMetX G l yX6_position wsX6_position (rm_X6_position (xoc out) (xos out)) (xoc out) (xos out) ta M [.ref (xad G 0), .int a1] (xo xoI out) M := by
  refine x_metX (cc := cX6_position) (nL := 3) (ret := some .int) (by decide) rfl (Nat.le_of_ble_eq_true rfl) ?_
  intro p e s m args below meth c C hr hlk htb
  have C : xC G p s m args c cX6_position 3 wsX6_position RX6 := C
  have i8 : ∀ w ∈ wsX60, w ∈ wsX6_position := by decide +kernel
  unfold f_X6_position at hf
  show xW G p l e (rm_X6_position (xoc out) (xos out)) s m args below meth c 3 (vx_MQ below (xQx G (xo xoI out) M) (xXc G (xo xoI out) M) args s (xoc out) (xos out) (xAs G)) 0 0 ta M 0 [(0, .ref (xad G 0)), (1, .int a1)] []
  refine x_aload_n C 0 dX6_position_0 rfl ?_
  refine x_iload_n C 1 dX6_position_1 rfl ?_
  obtain ⟨q1, hg, hf⟩ := x_bd hf
  rcases q1 with r3 | E4
  · have hf := x_ci hf
    refine x_callVXv (mc := 0) (ms := 0) C (by rw [xkd_0]; decide) (by rw [xkd_0]; decide) (xc8 xkd_0) rfl (t_X6_requireCustomer hfl hg) (cwV 1 C.1.2.2.2.2 gX6_position_X6_requireCustomer rfl rfl rfl (by decide +kernel) ⟨Nat.le_of_ble_eq_true rfl, Nat.le_of_ble_eq_true rfl⟩) rfl rfl (Nat.le_of_ble_eq_true rfl) dX6_position_2 ⟨Nat.zero_le _, Nat.zero_le _⟩ (fun ta2 => ?_)
    clear hg
    refine x_aload_n C 0 dX6_position_5 rfl ?_
    obtain ⟨g5, hf⟩ := x_gd hf
    refine x_get8 C xkd_0 i8 0 (by decide) (by decide +kernel) rfl rfl dX6_position_6 ?_
    refine x_iload_n C 1 dX6_position_9 rfl ?_
    obtain ⟨q6, hg, hf⟩ := x_bd hf
    refine x_callVr C (by rw [g5]; decide) (by rw [g5]; decide) (xc5 g5) rfl (t_X3_positionOf g5 hg) (cwV 1 C.1.2.2.2.2 gX6_position_X3_positionOf rfl rfl rfl (by decide +kernel) ⟨Nat.le_of_ble_eq_true rfl, Nat.le_of_ble_eq_true rfl⟩) rfl rfl (Nat.le_of_ble_eq_true rfl) dX6_position_10 ⟨Nat.zero_le _, Nat.zero_le _⟩ (fun ta7 => ?_)
    clear hg
    refine x_istore_n (lv' := [(2, .int q6), (0, .ref (xad G 0)), (1, .int a1)]) C dX6_position_13 rfl (by decide) rfl ?_
    refine x_iload_n C 0 dX6_position_14 rfl ?_
    refine x_iconst (v := (-1)) C dX6_position_15 (by decide) ?_
    refine x_icmp_ne C 29 dX6_position_16 (by decide) (fun hc8 => ?_) (fun hc8 => ?_)
    · have hf := x_ine hc8 hf
      refine x_iload_n C 0 dX6_position_29 rfl ?_
      obtain rfl := Option.some.inj hf
      refine x_ret ?_
      exact x_iret C hr hlk dX6_position_30
    · have hf := x_ip hc8 hf
      obtain rfl := Option.some.inj hf
      exact x_nthrow C hfl hlk htb (cls := "java/util/NoSuchElementException") (names := ["java/lang/RuntimeException", "java/lang/Exception"]) (ik := 121) (is := 163) (ic := 125) (text := "the customer is at a window") (by decide +kernel) (by decide +kernel) (by decide +kernel) (by decide +kernel) (by decide +kernel) (by decide +kernel) (by decide +kernel) dX6_position_19 dX6_position_22 dX6_position_23 dX6_position_25 dX6_position_28 (Nat.le_of_ble_eq_true rfl) (Nat.le_of_ble_eq_true rfl) (Nat.le_of_ble_eq_true rfl) (Nat.le_of_ble_eq_true rfl) (Nat.le_of_ble_eq_true rfl) (Nat.le_of_ble_eq_true rfl)
  · have hf := x_cx hf
    obtain rfl := Option.some.inj hf
    refine x_callVXt (mc := 1) (ms := 6) C (by rw [xkd_0]; decide) (by rw [xkd_0]; decide) (xc8 xkd_0) rfl (t_X6_requireCustomer hfl hg) (cwV 1 C.1.2.2.2.2 gX6_position_X6_requireCustomer rfl rfl rfl (by decide +kernel) ⟨Nat.le_of_ble_eq_true rfl, Nat.le_of_ble_eq_true rfl⟩) rfl rfl (Nat.le_of_ble_eq_true rfl) dX6_position_2 ⟨Nat.le_of_ble_eq_true rfl, Nat.le_of_ble_eq_true rfl⟩ (fun ta2 => ?_)
    exact x_out C hlk htb (Nat.le_of_ble_eq_true rfl) (Nat.le_of_ble_eq_true rfl)
/-! WaitingRoomSimulation.windowOfCustomer(I)I -/
abbrev rm_X6_windowOfCustomer (c s : Nat) : Room := { frames := 9, cells := c, slots := s, locals := 221 }
def f_X6_windowOfCustomer (a1 : Int32) (M : xM) : Option ((Int32 ⊕ String)) := (f_X6_requireCustomer a1 M).bind fun q1 => x_case q1 (fun r3 => if xkd (M.2.1 0 0) = 5 then (f_X3_windowOf (M.2.1 0 0) a1 M).bind fun q6 => (if q6 = (-1 : Int32) then some (.inr "java/util/NoSuchElementException") else some (.inl q6)) else none) (fun E4 => some (.inr E4))
set_option maxHeartbeats 4000000 in
set_option maxRecDepth 100000 in
theorem t_X6_windowOfCustomer {l : Launch} {G : xG} {ta : Nat × Nat} {M : xM} {a1 : Int32} {out : (Int32 ⊕ String)} (hfl : l.stackTraces = false) (hf : f_X6_windowOfCustomer a1 M = some out) : xMetX G l yX6_windowOfCustomer wsX6_windowOfCustomer (rm_X6_windowOfCustomer (xoc out) (xos out)) (xoc out) (xos out) ta M [.ref (xad G 0), .int a1] (xo xoI out) M := by
  refine x_metX (cc := cX6_windowOfCustomer) (nL := 3) (ret := some .int) (by decide) rfl (Nat.le_of_ble_eq_true rfl) ?_
  intro p e s m args below meth c C hr hlk htb
  have C : xC G p s m args c cX6_windowOfCustomer 3 wsX6_windowOfCustomer RX6 := C
  have i8 : ∀ w ∈ wsX60, w ∈ wsX6_windowOfCustomer := by decide +kernel
  unfold f_X6_windowOfCustomer at hf
  show xW G p l e (rm_X6_windowOfCustomer (xoc out) (xos out)) s m args below meth c 3 (vx_MQ below (xQx G (xo xoI out) M) (xXc G (xo xoI out) M) args s (xoc out) (xos out) (xAs G)) 0 0 ta M 0 [(0, .ref (xad G 0)), (1, .int a1)] []
  refine x_aload_n C 0 dX6_windowOfCustomer_0 rfl ?_
  refine x_iload_n C 1 dX6_windowOfCustomer_1 rfl ?_
  obtain ⟨q1, hg, hf⟩ := x_bd hf
  rcases q1 with r3 | E4
  · have hf := x_ci hf
    refine x_callVXv (mc := 0) (ms := 0) C (by rw [xkd_0]; decide) (by rw [xkd_0]; decide) (xc8 xkd_0) rfl (t_X6_requireCustomer hfl hg) (cwV 1 C.1.2.2.2.2 gX6_windowOfCustomer_X6_requireCustomer rfl rfl rfl (by decide +kernel) ⟨Nat.le_of_ble_eq_true rfl, Nat.le_of_ble_eq_true rfl⟩) rfl rfl (Nat.le_of_ble_eq_true rfl) dX6_windowOfCustomer_2 ⟨Nat.zero_le _, Nat.zero_le _⟩ (fun ta2 => ?_)
    clear hg
    refine x_aload_n C 0 dX6_windowOfCustomer_5 rfl ?_
    obtain ⟨g5, hf⟩ := x_gd hf
    refine x_get8 C xkd_0 i8 0 (by decide) (by decide +kernel) rfl rfl dX6_windowOfCustomer_6 ?_
    refine x_iload_n C 1 dX6_windowOfCustomer_9 rfl ?_
    obtain ⟨q6, hg, hf⟩ := x_bd hf
    refine x_callVr C (by rw [g5]; decide) (by rw [g5]; decide) (xc5 g5) rfl (t_X3_windowOf g5 hg) (cwV 1 C.1.2.2.2.2 gX6_windowOfCustomer_X3_windowOf rfl rfl rfl (by decide +kernel) ⟨Nat.le_of_ble_eq_true rfl, Nat.le_of_ble_eq_true rfl⟩) rfl rfl (Nat.le_of_ble_eq_true rfl) dX6_windowOfCustomer_10 ⟨Nat.zero_le _, Nat.zero_le _⟩ (fun ta7 => ?_)
    clear hg
    refine x_istore_n (lv' := [(2, .int q6), (0, .ref (xad G 0)), (1, .int a1)]) C dX6_windowOfCustomer_13 rfl (by decide) rfl ?_
    refine x_iload_n C 0 dX6_windowOfCustomer_14 rfl ?_
    refine x_iconst (v := (-1)) C dX6_windowOfCustomer_15 (by decide) ?_
    refine x_icmp_ne C 29 dX6_windowOfCustomer_16 (by decide) (fun hc8 => ?_) (fun hc8 => ?_)
    · have hf := x_ine hc8 hf
      refine x_iload_n C 0 dX6_windowOfCustomer_29 rfl ?_
      obtain rfl := Option.some.inj hf
      refine x_ret ?_
      exact x_iret C hr hlk dX6_windowOfCustomer_30
    · have hf := x_ip hc8 hf
      obtain rfl := Option.some.inj hf
      exact x_nthrow C hfl hlk htb (cls := "java/util/NoSuchElementException") (names := ["java/lang/RuntimeException", "java/lang/Exception"]) (ik := 121) (is := 168) (ic := 125) (text := "the customer is in the queue") (by decide +kernel) (by decide +kernel) (by decide +kernel) (by decide +kernel) (by decide +kernel) (by decide +kernel) (by decide +kernel) dX6_windowOfCustomer_19 dX6_windowOfCustomer_22 dX6_windowOfCustomer_23 dX6_windowOfCustomer_25 dX6_windowOfCustomer_28 (Nat.le_of_ble_eq_true rfl) (Nat.le_of_ble_eq_true rfl) (Nat.le_of_ble_eq_true rfl) (Nat.le_of_ble_eq_true rfl) (Nat.le_of_ble_eq_true rfl) (Nat.le_of_ble_eq_true rfl)
  · have hf := x_cx hf
    obtain rfl := Option.some.inj hf
    refine x_callVXt (mc := 1) (ms := 6) C (by rw [xkd_0]; decide) (by rw [xkd_0]; decide) (xc8 xkd_0) rfl (t_X6_requireCustomer hfl hg) (cwV 1 C.1.2.2.2.2 gX6_windowOfCustomer_X6_requireCustomer rfl rfl rfl (by decide +kernel) ⟨Nat.le_of_ble_eq_true rfl, Nat.le_of_ble_eq_true rfl⟩) rfl rfl (Nat.le_of_ble_eq_true rfl) dX6_windowOfCustomer_2 ⟨Nat.le_of_ble_eq_true rfl, Nat.le_of_ble_eq_true rfl⟩ (fun ta2 => ?_)
    exact x_out C hlk htb (Nat.le_of_ble_eq_true rfl) (Nat.le_of_ble_eq_true rfl)
/-! WaitingRoomSimulation.customerAtPosition(I)I -/
abbrev rm_X6_customerAtPosition (c s : Nat) : Room := { frames := 8, cells := c, slots := s, locals := 200 }
def f_X6_customerAtPosition (a1 : Int32) (M : xM) : Option ((Int32 ⊕ String)) := (if a1 < 0 then some (.inr "java/lang/IndexOutOfBoundsException") else if xkd (M.2.1 0 0) = 5 then (if a1 < (M.1 (M.2.1 0 0) 3) then if xkd (M.2.1 0 0) = 5 then if x_in a1 12 = true then some (.inl (M.1 ((M.2.1 0 0) + 2) a1.toNatClampNeg)) else none else none else some (.inr "java/lang/IndexOutOfBoundsException")) else none)
set_option maxHeartbeats 4000000 in
set_option maxRecDepth 100000 in
theorem t_X6_customerAtPosition {l : Launch} {G : xG} {ta : Nat × Nat} {M : xM} {a1 : Int32} {out : (Int32 ⊕ String)} (hfl : l.stackTraces = false) (hf : f_X6_customerAtPosition a1 M = some out) : xMetX G l yX6_customerAtPosition wsX6_customerAtPosition (rm_X6_customerAtPosition (xoc out) (xos out)) (xoc out) (xos out) ta M [.ref (xad G 0), .int a1] (xo xoI out) M := by
  refine x_metX (cc := cX6_customerAtPosition) (nL := 2) (ret := some .int) (by decide) rfl (Nat.le_of_ble_eq_true rfl) ?_
  intro p e s m args below meth c C hr hlk htb
  have C : xC G p s m args c cX6_customerAtPosition 2 wsX6_customerAtPosition RX6 := C
  have i5 : ∀ w ∈ wsX30, w ∈ wsX6_customerAtPosition := by decide +kernel
  have i8 : ∀ w ∈ wsX60, w ∈ wsX6_customerAtPosition := by decide +kernel
  unfold f_X6_customerAtPosition at hf
  show xW G p l e (rm_X6_customerAtPosition (xoc out) (xos out)) s m args below meth c 2 (vx_MQ below (xQx G (xo xoI out) M) (xXc G (xo xoI out) M) args s (xoc out) (xos out) (xAs G)) 0 0 ta M 0 [(0, .ref (xad G 0)), (1, .int a1)] []
  refine x_iload_n C 1 dX6_customerAtPosition_0 rfl ?_
  refine x_if_lt C 15 dX6_customerAtPosition_1 (by decide) (fun hc1 => ?_) (fun hc1 => ?_)
  · have hf := x_ip hc1 hf
    obtain rfl := Option.some.inj hf
    exact x_throw C hfl hlk htb (cls := "java/lang/IndexOutOfBoundsException") (names := ["java/lang/RuntimeException", "java/lang/Exception"]) (ik := 99) (is := 179) (ic := 103) (text := "the queue has no such position") (by decide +kernel) (by decide +kernel) (by decide +kernel) (by decide +kernel) (by decide +kernel) (by decide +kernel) (by decide +kernel) dX6_customerAtPosition_15 dX6_customerAtPosition_18 dX6_customerAtPosition_19 dX6_customerAtPosition_21 dX6_customerAtPosition_24 (Nat.le_of_ble_eq_true rfl) (Nat.le_of_ble_eq_true rfl) (Nat.le_of_ble_eq_true rfl) (Nat.le_of_ble_eq_true rfl) (Nat.le_of_ble_eq_true rfl) (Nat.le_of_ble_eq_true rfl)
  · have hf := x_ine hc1 hf
    refine x_iload_n C 1 dX6_customerAtPosition_4 rfl ?_
    refine x_aload_n C 0 dX6_customerAtPosition_5 rfl ?_
    obtain ⟨g2, hf⟩ := x_gd hf
    refine x_get8 C xkd_0 i8 0 (by decide) (by decide +kernel) rfl rfl dX6_customerAtPosition_6 ?_
    refine x_get5 C g2 i5 3 (by decide) (by decide +kernel) rfl rfl dX6_customerAtPosition_9 ?_
    refine x_icmp_lt C 25 dX6_customerAtPosition_12 (by decide) (fun hc3 => ?_) (fun hc3 => ?_)
    · have hf := x_ip hc3 hf
      refine x_aload_n C 0 dX6_customerAtPosition_25 rfl ?_
      obtain ⟨g4, hf⟩ := x_gd hf
      refine x_get8 C xkd_0 i8 0 (by decide) (by decide +kernel) rfl rfl dX6_customerAtPosition_26 ?_
      refine x_get5 C g4 i5 2 (by decide) (by decide +kernel) rfl rfl dX6_customerAtPosition_29 ?_
      refine x_iload_n C 1 dX6_customerAtPosition_32 rfl ?_
      obtain ⟨g5, hf⟩ := x_gd hf
      refine x_iald C (x5_k2 g4) (x5_l2 g4) g5 dX6_customerAtPosition_33 ?_
      obtain rfl := Option.some.inj hf
      refine x_ret ?_
      exact x_iret C hr hlk dX6_customerAtPosition_34
    · have hf := x_ine hc3 hf
      obtain rfl := Option.some.inj hf
      exact x_throw C hfl hlk htb (cls := "java/lang/IndexOutOfBoundsException") (names := ["java/lang/RuntimeException", "java/lang/Exception"]) (ik := 99) (is := 179) (ic := 103) (text := "the queue has no such position") (by decide +kernel) (by decide +kernel) (by decide +kernel) (by decide +kernel) (by decide +kernel) (by decide +kernel) (by decide +kernel) dX6_customerAtPosition_15 dX6_customerAtPosition_18 dX6_customerAtPosition_19 dX6_customerAtPosition_21 dX6_customerAtPosition_24 (Nat.le_of_ble_eq_true rfl) (Nat.le_of_ble_eq_true rfl) (Nat.le_of_ble_eq_true rfl) (Nat.le_of_ble_eq_true rfl) (Nat.le_of_ble_eq_true rfl) (Nat.le_of_ble_eq_true rfl)
/-! WaitingRoomSimulation.queueLength()I -/
abbrev rm_X6_queueLength (c s : Nat) : Room := { frames := 0, cells := c, slots := s, locals := 0 }
def f_X6_queueLength (M : xM) : Option (Int32) := if xkd (M.2.1 0 0) = 5 then some (M.1 (M.2.1 0 0) 3) else none
set_option maxHeartbeats 4000000 in
set_option maxRecDepth 100000 in
theorem t_X6_queueLength {l : Launch} {G : xG} {ta : Nat × Nat} {M : xM} {out : Int32} (hf : f_X6_queueLength M = some out) : xMet G l yX6_queueLength wsX6_queueLength (rm_X6_queueLength 0 0) 0 0 ta M [.ref (xad G 0)] (some (.int out)) M := by
  refine x_met (cc := cX6_queueLength) (nL := 1) (ret := some .int) (by decide) rfl (Nat.le_of_ble_eq_true rfl) ?_
  intro p e s m args below meth c C hr hlk
  have C : xC G p s m args c cX6_queueLength 1 wsX6_queueLength RX6 := C
  have i5 : ∀ w ∈ wsX30, w ∈ wsX6_queueLength := by decide +kernel
  have i8 : ∀ w ∈ wsX60, w ∈ wsX6_queueLength := by decide +kernel
  unfold f_X6_queueLength at hf
  show xW G p l e (rm_X6_queueLength 0 0) s m args below meth c 1 (MQ below (xQr G (some (.int out)) M) args s 0 0 (xAs G)) 0 0 ta M 0 [(0, .ref (xad G 0))] []
  refine x_aload_n C 0 dX6_queueLength_0 rfl ?_
  obtain ⟨g1, hf⟩ := x_gd hf
  refine x_get8 C xkd_0 i8 0 (by decide) (by decide +kernel) rfl rfl dX6_queueLength_1 ?_
  refine x_get5 C g1 i5 3 (by decide) (by decide +kernel) rfl rfl dX6_queueLength_4 ?_
  obtain rfl := Option.some.inj hf
  exact x_iret C hr hlk dX6_queueLength_7
/-! WaitingRoomSimulation.requireWindow(I)V -/
abbrev rm_X6_requireWindow (c s : Nat) : Room := { frames := 8, cells := c, slots := s, locals := 200 }
def f_X6_requireWindow (a1 : Int32) (M : xM) : Option ((Unit ⊕ String)) := (f_X3_hasWindow a1 M).bind fun q1 => (if q1 = 0 then some (.inr "java/lang/IndexOutOfBoundsException") else some (.inl ()))
set_option maxHeartbeats 4000000 in
set_option maxRecDepth 100000 in
theorem t_X6_requireWindow {l : Launch} {G : xG} {ta : Nat × Nat} {M : xM} {a1 : Int32} {out : (Unit ⊕ String)} (hfl : l.stackTraces = false) (hf : f_X6_requireWindow a1 M = some out) : xMetX G l yX6_requireWindow wsX6_requireWindow (rm_X6_requireWindow (xoc out) (xos out)) (xoc out) (xos out) ta M [.int a1] (xo xoU out) M := by
  refine x_metX (cc := cX6_requireWindow) (nL := 1) (ret := none) (by decide) rfl (Nat.le_of_ble_eq_true rfl) ?_
  intro p e s m args below meth c C hr hlk htb
  have C : xC G p s m args c cX6_requireWindow 1 wsX6_requireWindow RX6 := C
  unfold f_X6_requireWindow at hf
  show xW G p l e (rm_X6_requireWindow (xoc out) (xos out)) s m args below meth c 1 (vx_MQ below (xQx G (xo xoU out) M) (xXc G (xo xoU out) M) args s (xoc out) (xos out) (xAs G)) 0 0 ta M 0 [(0, .int a1)] []
  refine x_iload_n C 0 dX6_requireWindow_0 rfl ?_
  obtain ⟨q1, hg, hf⟩ := x_bd hf
  refine x_callSr C (t_X3_hasWindow hg) (va_cwS 1 C.1.2.2.2.2 gX6_requireWindow_X3_hasWindow rfl rfl rfl (by decide +kernel) ⟨Nat.le_of_ble_eq_true rfl, Nat.le_of_ble_eq_true rfl⟩) rfl rfl (Nat.le_of_ble_eq_true rfl) dX6_requireWindow_1 ⟨Nat.zero_le _, Nat.zero_le _⟩ (fun ta2 => ?_)
  clear hg
  refine x_if_ne C 17 dX6_requireWindow_4 (by decide) (fun hc3 => ?_) (fun hc3 => ?_)
  · have hf := x_ine hc3 hf
    obtain rfl := Option.some.inj hf
    refine x_ret ?_
    exact x_vret C hr hlk dX6_requireWindow_17
  · have hf := x_ip hc3 hf
    obtain rfl := Option.some.inj hf
    exact x_throw C hfl hlk htb (cls := "java/lang/IndexOutOfBoundsException") (names := ["java/lang/RuntimeException", "java/lang/Exception"]) (ik := 99) (is := 217) (ic := 103) (text := "there is no such window") (by decide +kernel) (by decide +kernel) (by decide +kernel) (by decide +kernel) (by decide +kernel) (by decide +kernel) (by decide +kernel) dX6_requireWindow_7 dX6_requireWindow_10 dX6_requireWindow_11 dX6_requireWindow_13 dX6_requireWindow_16 (Nat.le_of_ble_eq_true rfl) (Nat.le_of_ble_eq_true rfl) (Nat.le_of_ble_eq_true rfl) (Nat.le_of_ble_eq_true rfl) (Nat.le_of_ble_eq_true rfl) (Nat.le_of_ble_eq_true rfl)
/-! WaitingRoomSimulation.openingTimeLeft(I)I -/
abbrev rm_X6_openingTimeLeft (c s : Nat) : Room := { frames := 9, cells := c, slots := s, locals := 220 }
def f_X6_openingTimeLeft (a1 : Int32) (M : xM) : Option ((Int32 ⊕ String)) := (f_X6_requireWindow a1 M).bind fun q1 => x_case q1 (fun r3 => if xkd (M.2.1 0 0) = 5 then if x_in a1 3 = true then if xkd ((M.2.1 0 0) + 3 + 15 + a1.toNatClampNeg) = 7 then some (.inl (M.1 ((M.2.1 0 0) + 3 + 15 + a1.toNatClampNeg) 0)) else none else none else none) (fun E4 => some (.inr E4))
set_option maxHeartbeats 4000000 in
set_option maxRecDepth 100000 in
theorem t_X6_openingTimeLeft {l : Launch} {G : xG} {ta : Nat × Nat} {M : xM} {a1 : Int32} {out : (Int32 ⊕ String)} (hfl : l.stackTraces = false) (hf : f_X6_openingTimeLeft a1 M = some out) : xMetX G l yX6_openingTimeLeft wsX6_openingTimeLeft (rm_X6_openingTimeLeft (xoc out) (xos out)) (xoc out) (xos out) ta M [.ref (xad G 0), .int a1] (xo xoI out) M := by
  refine x_metX (cc := cX6_openingTimeLeft) (nL := 2) (ret := some .int) (by decide) rfl (Nat.le_of_ble_eq_true rfl) ?_
  intro p e s m args below meth c C hr hlk htb
  have C : xC G p s m args c cX6_openingTimeLeft 2 wsX6_openingTimeLeft RX6 := C
  have i5 : ∀ w ∈ wsX30, w ∈ wsX6_openingTimeLeft := by decide +kernel
  have i7 : ∀ w ∈ wsX50, w ∈ wsX6_openingTimeLeft := by decide +kernel
  have i8 : ∀ w ∈ wsX60, w ∈ wsX6_openingTimeLeft := by decide +kernel
  unfold f_X6_openingTimeLeft at hf
  show xW G p l e (rm_X6_openingTimeLeft (xoc out) (xos out)) s m args below meth c 2 (vx_MQ below (xQx G (xo xoI out) M) (xXc G (xo xoI out) M) args s (xoc out) (xos out) (xAs G)) 0 0 ta M 0 [(0, .ref (xad G 0)), (1, .int a1)] []
  refine x_iload_n C 1 dX6_openingTimeLeft_0 rfl ?_
  obtain ⟨q1, hg, hf⟩ := x_bd hf
  rcases q1 with r3 | E4
  · have hf := x_ci hf
    refine x_callSXv (mc := 0) (ms := 0) C (t_X6_requireWindow hfl hg) (va_cwS 1 C.1.2.2.2.2 gX6_openingTimeLeft_X6_requireWindow rfl rfl rfl (by decide +kernel) ⟨Nat.le_of_ble_eq_true rfl, Nat.le_of_ble_eq_true rfl⟩) rfl rfl (Nat.le_of_ble_eq_true rfl) dX6_openingTimeLeft_1 ⟨Nat.zero_le _, Nat.zero_le _⟩ (fun ta2 => ?_)
    clear hg
    refine x_aload_n C 0 dX6_openingTimeLeft_4 rfl ?_
    obtain ⟨g5, hf⟩ := x_gd hf
    refine x_get8 C xkd_0 i8 0 (by decide) (by decide +kernel) rfl rfl dX6_openingTimeLeft_5 ?_
    refine x_get5 C g5 i5 4 (by decide) (by decide +kernel) rfl rfl dX6_openingTimeLeft_8 ?_
    refine x_iload_n C 1 dX6_openingTimeLeft_11 rfl ?_
    obtain ⟨g6, hf⟩ := x_gd hf
    obtain ⟨g7, hf⟩ := x_gd hf
    refine x_aald25 C (x5_k3 g5) (x5_l3 g5) g6 dX6_openingTimeLeft_12 ?_
    refine x_get7 C g7 i7 0 (by decide) (by decide +kernel) rfl rfl dX6_openingTimeLeft_13 ?_
    obtain rfl := Option.some.inj hf
    refine x_ret ?_
    exact x_iret C hr hlk dX6_openingTimeLeft_16
  · have hf := x_cx hf
    obtain rfl := Option.some.inj hf
    refine x_callSXt (mc := 1) (ms := 6) C (t_X6_requireWindow hfl hg) (va_cwS 1 C.1.2.2.2.2 gX6_openingTimeLeft_X6_requireWindow rfl rfl rfl (by decide +kernel) ⟨Nat.le_of_ble_eq_true rfl, Nat.le_of_ble_eq_true rfl⟩) rfl rfl (Nat.le_of_ble_eq_true rfl) dX6_openingTimeLeft_1 ⟨Nat.le_of_ble_eq_true rfl, Nat.le_of_ble_eq_true rfl⟩ (fun ta2 => ?_)
    exact x_out C hlk htb (Nat.le_of_ble_eq_true rfl) (Nat.le_of_ble_eq_true rfl)
/-! WaitingRoomSimulation.pace(I)I -/
abbrev rm_X6_pace (c s : Nat) : Room := { frames := 9, cells := c, slots := s, locals := 220 }
def f_X6_pace (a1 : Int32) (M : xM) : Option ((Int32 ⊕ String)) := (f_X6_requireWindow a1 M).bind fun q1 => x_case q1 (fun r3 => if xkd (M.2.1 0 0) = 5 then if x_in a1 3 = true then if xkd ((M.2.1 0 0) + 3 + 15 + a1.toNatClampNeg) = 7 then (f_X5_isOpen ((M.2.1 0 0) + 3 + 15 + a1.toNatClampNeg) M).bind fun q8 => (if q8 = 0 then some (.inr "java/lang/IllegalStateException") else if xkd (M.2.1 0 0) = 5 then if x_in a1 3 = true then if xkd ((M.2.1 0 0) + 3 + 15 + a1.toNatClampNeg) = 7 then some (.inl (M.1 ((M.2.1 0 0) + 3 + 15 + a1.toNatClampNeg) 1)) else none else none else none) else none else none else none) (fun E4 => some (.inr E4))
set_option maxHeartbeats 4000000 in
set_option maxRecDepth 100000 in
theorem t_X6_pace {l : Launch} {G : xG} {ta : Nat × Nat} {M : xM} {a1 : Int32} {out : (Int32 ⊕ String)} (hfl : l.stackTraces = false) (hf : f_X6_pace a1 M = some out) : xMetX G l yX6_pace wsX6_pace (rm_X6_pace (xoc out) (xos out)) (xoc out) (xos out) ta M [.ref (xad G 0), .int a1] (xo xoI out) M := by
  refine x_metX (cc := cX6_pace) (nL := 2) (ret := some .int) (by decide) rfl (Nat.le_of_ble_eq_true rfl) ?_
  intro p e s m args below meth c C hr hlk htb
  have C : xC G p s m args c cX6_pace 2 wsX6_pace RX6 := C
  have i5 : ∀ w ∈ wsX30, w ∈ wsX6_pace := by decide +kernel
  have i7 : ∀ w ∈ wsX50, w ∈ wsX6_pace := by decide +kernel
  have i8 : ∀ w ∈ wsX60, w ∈ wsX6_pace := by decide +kernel
  unfold f_X6_pace at hf
  show xW G p l e (rm_X6_pace (xoc out) (xos out)) s m args below meth c 2 (vx_MQ below (xQx G (xo xoI out) M) (xXc G (xo xoI out) M) args s (xoc out) (xos out) (xAs G)) 0 0 ta M 0 [(0, .ref (xad G 0)), (1, .int a1)] []
  refine x_iload_n C 1 dX6_pace_0 rfl ?_
  obtain ⟨q1, hg, hf⟩ := x_bd hf
  rcases q1 with r3 | E4
  · have hf := x_ci hf
    refine x_callSXv (mc := 0) (ms := 0) C (t_X6_requireWindow hfl hg) (va_cwS 1 C.1.2.2.2.2 gX6_pace_X6_requireWindow rfl rfl rfl (by decide +kernel) ⟨Nat.le_of_ble_eq_true rfl, Nat.le_of_ble_eq_true rfl⟩) rfl rfl (Nat.le_of_ble_eq_true rfl) dX6_pace_1 ⟨Nat.zero_le _, Nat.zero_le _⟩ (fun ta2 => ?_)
    clear hg
    refine x_aload_n C 0 dX6_pace_4 rfl ?_
    obtain ⟨g5, hf⟩ := x_gd hf
    refine x_get8 C xkd_0 i8 0 (by decide) (by decide +kernel) rfl rfl dX6_pace_5 ?_
    refine x_get5 C g5 i5 4 (by decide) (by decide +kernel) rfl rfl dX6_pace_8 ?_
    refine x_iload_n C 1 dX6_pace_11 rfl ?_
    obtain ⟨g6, hf⟩ := x_gd hf
    obtain ⟨g7, hf⟩ := x_gd hf
    refine x_aald25 C (x5_k3 g5) (x5_l3 g5) g6 dX6_pace_12 ?_
    obtain ⟨q8, hg, hf⟩ := x_bd hf
    refine x_callVr C (by rw [g7]; decide) (by rw [g7]; decide) (xc7 g7) rfl (t_X5_isOpen g7 hg) (cwV 0 C.1.2.2.2.2 gX6_pace_X5_isOpen rfl rfl rfl (by decide +kernel) ⟨Nat.le_of_ble_eq_true rfl, Nat.le_of_ble_eq_true rfl⟩) rfl rfl (Nat.le_of_ble_eq_true rfl) dX6_pace_13 ⟨Nat.zero_le _, Nat.zero_le _⟩ (fun ta9 => ?_)
    clear hg
    refine x_if_ne C 29 dX6_pace_16 (by decide) (fun hc10 => ?_) (fun hc10 => ?_)
    · have hf := x_ine hc10 hf
      refine x_aload_n C 0 dX6_pace_29 rfl ?_
      obtain ⟨g11, hf⟩ := x_gd hf
      refine x_get8 C xkd_0 i8 0 (by decide) (by decide +kernel) rfl rfl dX6_pace_30 ?_
      refine x_get5 C g11 i5 4 (by decide) (by decide +kernel) rfl rfl dX6_pace_33 ?_
      refine x_iload_n C 1 dX6_pace_36 rfl ?_
      obtain ⟨g12, hf⟩ := x_gd hf
      obtain ⟨g13, hf⟩ := x_gd hf
      refine x_aald25 C (x5_k3 g11) (x5_l3 g11) g12 dX6_pace_37 ?_
      refine x_get7 C g13 i7 1 (by decide) (by decide +kernel) rfl rfl dX6_pace_38 ?_
      obtain rfl := Option.some.inj hf
      refine x_ret ?_
      exact x_iret C hr hlk dX6_pace_41
    · have hf := x_ip hc10 hf
      obtain rfl := Option.some.inj hf
      exact x_throw C hfl hlk htb (cls := "java/lang/IllegalStateException") (names := ["java/lang/RuntimeException", "java/lang/Exception"]) (ik := 111) (is := 200) (ic := 115) (text := "the window is closed") (by decide +kernel) (by decide +kernel) (by decide +kernel) (by decide +kernel) (by decide +kernel) (by decide +kernel) (by decide +kernel) dX6_pace_19 dX6_pace_22 dX6_pace_23 dX6_pace_25 dX6_pace_28 (Nat.le_of_ble_eq_true rfl) (Nat.le_of_ble_eq_true rfl) (Nat.le_of_ble_eq_true rfl) (Nat.le_of_ble_eq_true rfl) (Nat.le_of_ble_eq_true rfl) (Nat.le_of_ble_eq_true rfl)
  · have hf := x_cx hf
    obtain rfl := Option.some.inj hf
    refine x_callSXt (mc := 1) (ms := 6) C (t_X6_requireWindow hfl hg) (va_cwS 1 C.1.2.2.2.2 gX6_pace_X6_requireWindow rfl rfl rfl (by decide +kernel) ⟨Nat.le_of_ble_eq_true rfl, Nat.le_of_ble_eq_true rfl⟩) rfl rfl (Nat.le_of_ble_eq_true rfl) dX6_pace_1 ⟨Nat.le_of_ble_eq_true rfl, Nat.le_of_ble_eq_true rfl⟩ (fun ta2 => ?_)
    exact x_out C hlk htb (Nat.le_of_ble_eq_true rfl) (Nat.le_of_ble_eq_true rfl)
/-! WaitingRoomSimulation.requireSomebodyAt(I)V -/
abbrev rm_X6_requireSomebodyAt (c s : Nat) : Room := { frames := 8, cells := c, slots := s, locals := 200 }
def f_X6_requireSomebodyAt (a1 : Int32) (M : xM) : Option ((Unit ⊕ String)) := if xkd (M.2.1 0 0) = 5 then if x_in a1 3 = true then if xkd ((M.2.1 0 0) + 3 + 15 + a1.toNatClampNeg) = 7 then (if (M.1 ((M.2.1 0 0) + 3 + 15 + a1.toNatClampNeg) 2) = (-1 : Int32) then some (.inr "java/util/NoSuchElementException") else some (.inl ())) else none else none else none
set_option maxHeartbeats 4000000 in
set_option maxRecDepth 100000 in
theorem t_X6_requireSomebodyAt {l : Launch} {G : xG} {ta : Nat × Nat} {M : xM} {a1 : Int32} {out : (Unit ⊕ String)} (hfl : l.stackTraces = false) (hf : f_X6_requireSomebodyAt a1 M = some out) : xMetX G l yX6_requireSomebodyAt wsX6_requireSomebodyAt (rm_X6_requireSomebodyAt (xoc out) (xos out)) (xoc out) (xos out) ta M [.ref (xad G 0), .int a1] (xo xoU out) M := by
  refine x_metX (cc := cX6_requireSomebodyAt) (nL := 2) (ret := none) (by decide) rfl (Nat.le_of_ble_eq_true rfl) ?_
  intro p e s m args below meth c C hr hlk htb
  have C : xC G p s m args c cX6_requireSomebodyAt 2 wsX6_requireSomebodyAt RX6 := C
  have i5 : ∀ w ∈ wsX30, w ∈ wsX6_requireSomebodyAt := by decide +kernel
  have i7 : ∀ w ∈ wsX50, w ∈ wsX6_requireSomebodyAt := by decide +kernel
  have i8 : ∀ w ∈ wsX60, w ∈ wsX6_requireSomebodyAt := by decide +kernel
  unfold f_X6_requireSomebodyAt at hf
  show xW G p l e (rm_X6_requireSomebodyAt (xoc out) (xos out)) s m args below meth c 2 (vx_MQ below (xQx G (xo xoU out) M) (xXc G (xo xoU out) M) args s (xoc out) (xos out) (xAs G)) 0 0 ta M 0 [(0, .ref (xad G 0)), (1, .int a1)] []
  refine x_aload_n C 0 dX6_requireSomebodyAt_0 rfl ?_
  obtain ⟨g1, hf⟩ := x_gd hf
  refine x_get8 C xkd_0 i8 0 (by decide) (by decide +kernel) rfl rfl dX6_requireSomebodyAt_1 ?_
  refine x_get5 C g1 i5 4 (by decide) (by decide +kernel) rfl rfl dX6_requireSomebodyAt_4 ?_
  refine x_iload_n C 1 dX6_requireSomebodyAt_7 rfl ?_
  obtain ⟨g2, hf⟩ := x_gd hf
  obtain ⟨g3, hf⟩ := x_gd hf
  refine x_aald25 C (x5_k3 g1) (x5_l3 g1) g2 dX6_requireSomebodyAt_8 ?_
  refine x_get7 C g3 i7 2 (by decide) (by decide +kernel) rfl rfl dX6_requireSomebodyAt_9 ?_
  refine x_iconst (v := (-1)) C dX6_requireSomebodyAt_12 (by decide) ?_
  refine x_icmp_ne C 26 dX6_requireSomebodyAt_13 (by decide) (fun hc4 => ?_) (fun hc4 => ?_)
  · have hf := x_ine hc4 hf
    obtain rfl := Option.some.inj hf
    refine x_ret ?_
    exact x_vret C hr hlk dX6_requireSomebodyAt_26
  · have hf := x_ip hc4 hf
    obtain rfl := Option.some.inj hf
    exact x_nthrow C hfl hlk htb (cls := "java/util/NoSuchElementException") (names := ["java/lang/RuntimeException", "java/lang/Exception"]) (ik := 121) (is := 219) (ic := 125) (text := "no customer is at the window") (by decide +kernel) (by decide +kernel) (by decide +kernel) (by decide +kernel) (by decide +kernel) (by decide +kernel) (by decide +kernel) dX6_requireSomebodyAt_16 dX6_requireSomebodyAt_19 dX6_requireSomebodyAt_20 dX6_requireSomebodyAt_22 dX6_requireSomebodyAt_25 (Nat.le_of_ble_eq_true rfl) (Nat.le_of_ble_eq_true rfl) (Nat.le_of_ble_eq_true rfl) (Nat.le_of_ble_eq_true rfl) (Nat.le_of_ble_eq_true rfl) (Nat.le_of_ble_eq_true rfl)
/-! WaitingRoomSimulation.customerAtWindow(I)I -/
abbrev rm_X6_customerAtWindow (c s : Nat) : Room := { frames := 9, cells := c, slots := s, locals := 221 }
def f_X6_customerAtWindow (a1 : Int32) (M : xM) : Option ((Int32 ⊕ String)) := (f_X6_requireWindow a1 M).bind fun q1 => x_case q1 (fun r3 => (f_X6_requireSomebodyAt a1 M).bind fun q5 => x_case q5 (fun r7 => if xkd (M.2.1 0 0) = 5 then if x_in a1 3 = true then if xkd ((M.2.1 0 0) + 3 + 15 + a1.toNatClampNeg) = 7 then some (.inl (M.1 ((M.2.1 0 0) + 3 + 15 + a1.toNatClampNeg) 2)) else none else none else none) (fun E8 => some (.inr E8))) (fun E4 => some (.inr E4))
set_option maxHeartbeats 4000000 in
set_option maxRecDepth 100000 in
theorem t_X6_customerAtWindow {l : Launch} {G : xG} {ta : Nat × Nat} {M : xM} {a1 : Int32} {out : (Int32 ⊕ String)} (hfl : l.stackTraces = false) (hf : f_X6_customerAtWindow a1 M = some out) : xMetX G l yX6_customerAtWindow wsX6_customerAtWindow (rm_X6_customerAtWindow (xoc out) (xos out)) (xoc out) (xos out) ta M [.ref (xad G 0), .int a1] (xo xoI out) M := by
  refine x_metX (cc := cX6_customerAtWindow) (nL := 2) (ret := some .int) (by decide) rfl (Nat.le_of_ble_eq_true rfl) ?_
  intro p e s m args below meth c C hr hlk htb
  have C : xC G p s m args c cX6_customerAtWindow 2 wsX6_customerAtWindow RX6 := C
  have i5 : ∀ w ∈ wsX30, w ∈ wsX6_customerAtWindow := by decide +kernel
  have i7 : ∀ w ∈ wsX50, w ∈ wsX6_customerAtWindow := by decide +kernel
  have i8 : ∀ w ∈ wsX60, w ∈ wsX6_customerAtWindow := by decide +kernel
  unfold f_X6_customerAtWindow at hf
  show xW G p l e (rm_X6_customerAtWindow (xoc out) (xos out)) s m args below meth c 2 (vx_MQ below (xQx G (xo xoI out) M) (xXc G (xo xoI out) M) args s (xoc out) (xos out) (xAs G)) 0 0 ta M 0 [(0, .ref (xad G 0)), (1, .int a1)] []
  refine x_iload_n C 1 dX6_customerAtWindow_0 rfl ?_
  obtain ⟨q1, hg, hf⟩ := x_bd hf
  rcases q1 with r3 | E4
  · have hf := x_ci hf
    refine x_callSXv (mc := 0) (ms := 0) C (t_X6_requireWindow hfl hg) (va_cwS 1 C.1.2.2.2.2 gX6_customerAtWindow_X6_requireWindow rfl rfl rfl (by decide +kernel) ⟨Nat.le_of_ble_eq_true rfl, Nat.le_of_ble_eq_true rfl⟩) rfl rfl (Nat.le_of_ble_eq_true rfl) dX6_customerAtWindow_1 ⟨Nat.zero_le _, Nat.zero_le _⟩ (fun ta2 => ?_)
    clear hg
    refine x_aload_n C 0 dX6_customerAtWindow_4 rfl ?_
    refine x_iload_n C 1 dX6_customerAtWindow_5 rfl ?_
    obtain ⟨q5, hg, hf⟩ := x_bd hf
    rcases q5 with r7 | E8
    · have hf := x_ci hf
      refine x_callVXv (mc := 0) (ms := 0) C (by rw [xkd_0]; decide) (by rw [xkd_0]; decide) (xc8 xkd_0) rfl (t_X6_requireSomebodyAt hfl hg) (cwV 1 C.1.2.2.2.2 gX6_customerAtWindow_X6_requireSomebodyAt rfl rfl rfl (by decide +kernel) ⟨Nat.le_of_ble_eq_true rfl, Nat.le_of_ble_eq_true rfl⟩) rfl rfl (Nat.le_of_ble_eq_true rfl) dX6_customerAtWindow_6 ⟨Nat.zero_le _, Nat.zero_le _⟩ (fun ta6 => ?_)
      clear hg
      refine x_aload_n C 0 dX6_customerAtWindow_9 rfl ?_
      obtain ⟨g9, hf⟩ := x_gd hf
      refine x_get8 C xkd_0 i8 0 (by decide) (by decide +kernel) rfl rfl dX6_customerAtWindow_10 ?_
      refine x_get5 C g9 i5 4 (by decide) (by decide +kernel) rfl rfl dX6_customerAtWindow_13 ?_
      refine x_iload_n C 1 dX6_customerAtWindow_16 rfl ?_
      obtain ⟨g10, hf⟩ := x_gd hf
      obtain ⟨g11, hf⟩ := x_gd hf
      refine x_aald25 C (x5_k3 g9) (x5_l3 g9) g10 dX6_customerAtWindow_17 ?_
      refine x_get7 C g11 i7 2 (by decide) (by decide +kernel) rfl rfl dX6_customerAtWindow_18 ?_
      obtain rfl := Option.some.inj hf
      refine x_ret ?_
      exact x_iret C hr hlk dX6_customerAtWindow_21
    · have hf := x_cx hf
      obtain rfl := Option.some.inj hf
      refine x_callVXt (mc := 1) (ms := 6) C (by rw [xkd_0]; decide) (by rw [xkd_0]; decide) (xc8 xkd_0) rfl (t_X6_requireSomebodyAt hfl hg) (cwV 1 C.1.2.2.2.2 gX6_customerAtWindow_X6_requireSomebodyAt rfl rfl rfl (by decide +kernel) ⟨Nat.le_of_ble_eq_true rfl, Nat.le_of_ble_eq_true rfl⟩) rfl rfl (Nat.le_of_ble_eq_true rfl) dX6_customerAtWindow_6 ⟨Nat.le_of_ble_eq_true rfl, Nat.le_of_ble_eq_true rfl⟩ (fun ta6 => ?_)
      exact x_out C hlk htb (Nat.le_of_ble_eq_true rfl) (Nat.le_of_ble_eq_true rfl)
  · have hf := x_cx hf
    obtain rfl := Option.some.inj hf
    refine x_callSXt (mc := 1) (ms := 6) C (t_X6_requireWindow hfl hg) (va_cwS 1 C.1.2.2.2.2 gX6_customerAtWindow_X6_requireWindow rfl rfl rfl (by decide +kernel) ⟨Nat.le_of_ble_eq_true rfl, Nat.le_of_ble_eq_true rfl⟩) rfl rfl (Nat.le_of_ble_eq_true rfl) dX6_customerAtWindow_1 ⟨Nat.le_of_ble_eq_true rfl, Nat.le_of_ble_eq_true rfl⟩ (fun ta2 => ?_)
    exact x_out C hlk htb (Nat.le_of_ble_eq_true rfl) (Nat.le_of_ble_eq_true rfl)
/-! WaitingRoomSimulation.serviceTimeLeft(I)I -/
abbrev rm_X6_serviceTimeLeft (c s : Nat) : Room := { frames := 9, cells := c, slots := s, locals := 221 }
def f_X6_serviceTimeLeft (a1 : Int32) (M : xM) : Option ((Int32 ⊕ String)) := (f_X6_requireWindow a1 M).bind fun q1 => x_case q1 (fun r3 => (f_X6_requireSomebodyAt a1 M).bind fun q5 => x_case q5 (fun r7 => if xkd (M.2.1 0 0) = 5 then if x_in a1 3 = true then if xkd ((M.2.1 0 0) + 3 + 15 + a1.toNatClampNeg) = 7 then some (.inl (M.1 ((M.2.1 0 0) + 3 + 15 + a1.toNatClampNeg) 3)) else none else none else none) (fun E8 => some (.inr E8))) (fun E4 => some (.inr E4))
set_option maxHeartbeats 4000000 in
set_option maxRecDepth 100000 in
theorem t_X6_serviceTimeLeft {l : Launch} {G : xG} {ta : Nat × Nat} {M : xM} {a1 : Int32} {out : (Int32 ⊕ String)} (hfl : l.stackTraces = false) (hf : f_X6_serviceTimeLeft a1 M = some out) : xMetX G l yX6_serviceTimeLeft wsX6_serviceTimeLeft (rm_X6_serviceTimeLeft (xoc out) (xos out)) (xoc out) (xos out) ta M [.ref (xad G 0), .int a1] (xo xoI out) M := by
  refine x_metX (cc := cX6_serviceTimeLeft) (nL := 2) (ret := some .int) (by decide) rfl (Nat.le_of_ble_eq_true rfl) ?_
  intro p e s m args below meth c C hr hlk htb
  have C : xC G p s m args c cX6_serviceTimeLeft 2 wsX6_serviceTimeLeft RX6 := C
  have i5 : ∀ w ∈ wsX30, w ∈ wsX6_serviceTimeLeft := by decide +kernel
  have i7 : ∀ w ∈ wsX50, w ∈ wsX6_serviceTimeLeft := by decide +kernel
  have i8 : ∀ w ∈ wsX60, w ∈ wsX6_serviceTimeLeft := by decide +kernel
  unfold f_X6_serviceTimeLeft at hf
  show xW G p l e (rm_X6_serviceTimeLeft (xoc out) (xos out)) s m args below meth c 2 (vx_MQ below (xQx G (xo xoI out) M) (xXc G (xo xoI out) M) args s (xoc out) (xos out) (xAs G)) 0 0 ta M 0 [(0, .ref (xad G 0)), (1, .int a1)] []
  refine x_iload_n C 1 dX6_serviceTimeLeft_0 rfl ?_
  obtain ⟨q1, hg, hf⟩ := x_bd hf
  rcases q1 with r3 | E4
  · have hf := x_ci hf
    refine x_callSXv (mc := 0) (ms := 0) C (t_X6_requireWindow hfl hg) (va_cwS 1 C.1.2.2.2.2 gX6_serviceTimeLeft_X6_requireWindow rfl rfl rfl (by decide +kernel) ⟨Nat.le_of_ble_eq_true rfl, Nat.le_of_ble_eq_true rfl⟩) rfl rfl (Nat.le_of_ble_eq_true rfl) dX6_serviceTimeLeft_1 ⟨Nat.zero_le _, Nat.zero_le _⟩ (fun ta2 => ?_)
    clear hg
    refine x_aload_n C 0 dX6_serviceTimeLeft_4 rfl ?_
    refine x_iload_n C 1 dX6_serviceTimeLeft_5 rfl ?_
    obtain ⟨q5, hg, hf⟩ := x_bd hf
    rcases q5 with r7 | E8
    · have hf := x_ci hf
      refine x_callVXv (mc := 0) (ms := 0) C (by rw [xkd_0]; decide) (by rw [xkd_0]; decide) (xc8 xkd_0) rfl (t_X6_requireSomebodyAt hfl hg) (cwV 1 C.1.2.2.2.2 gX6_serviceTimeLeft_X6_requireSomebodyAt rfl rfl rfl (by decide +kernel) ⟨Nat.le_of_ble_eq_true rfl, Nat.le_of_ble_eq_true rfl⟩) rfl rfl (Nat.le_of_ble_eq_true rfl) dX6_serviceTimeLeft_6 ⟨Nat.zero_le _, Nat.zero_le _⟩ (fun ta6 => ?_)
      clear hg
      refine x_aload_n C 0 dX6_serviceTimeLeft_9 rfl ?_
      obtain ⟨g9, hf⟩ := x_gd hf
      refine x_get8 C xkd_0 i8 0 (by decide) (by decide +kernel) rfl rfl dX6_serviceTimeLeft_10 ?_
      refine x_get5 C g9 i5 4 (by decide) (by decide +kernel) rfl rfl dX6_serviceTimeLeft_13 ?_
      refine x_iload_n C 1 dX6_serviceTimeLeft_16 rfl ?_
      obtain ⟨g10, hf⟩ := x_gd hf
      obtain ⟨g11, hf⟩ := x_gd hf
      refine x_aald25 C (x5_k3 g9) (x5_l3 g9) g10 dX6_serviceTimeLeft_17 ?_
      refine x_get7 C g11 i7 3 (by decide) (by decide +kernel) rfl rfl dX6_serviceTimeLeft_18 ?_
      obtain rfl := Option.some.inj hf
      refine x_ret ?_
      exact x_iret C hr hlk dX6_serviceTimeLeft_21
    · have hf := x_cx hf
      obtain rfl := Option.some.inj hf
      refine x_callVXt (mc := 1) (ms := 6) C (by rw [xkd_0]; decide) (by rw [xkd_0]; decide) (xc8 xkd_0) rfl (t_X6_requireSomebodyAt hfl hg) (cwV 1 C.1.2.2.2.2 gX6_serviceTimeLeft_X6_requireSomebodyAt rfl rfl rfl (by decide +kernel) ⟨Nat.le_of_ble_eq_true rfl, Nat.le_of_ble_eq_true rfl⟩) rfl rfl (Nat.le_of_ble_eq_true rfl) dX6_serviceTimeLeft_6 ⟨Nat.le_of_ble_eq_true rfl, Nat.le_of_ble_eq_true rfl⟩ (fun ta6 => ?_)
      exact x_out C hlk htb (Nat.le_of_ble_eq_true rfl) (Nat.le_of_ble_eq_true rfl)
  · have hf := x_cx hf
    obtain rfl := Option.some.inj hf
    refine x_callSXt (mc := 1) (ms := 6) C (t_X6_requireWindow hfl hg) (va_cwS 1 C.1.2.2.2.2 gX6_serviceTimeLeft_X6_requireWindow rfl rfl rfl (by decide +kernel) ⟨Nat.le_of_ble_eq_true rfl, Nat.le_of_ble_eq_true rfl⟩) rfl rfl (Nat.le_of_ble_eq_true rfl) dX6_serviceTimeLeft_1 ⟨Nat.le_of_ble_eq_true rfl, Nat.le_of_ble_eq_true rfl⟩ (fun ta2 => ?_)
    exact x_out C hlk htb (Nat.le_of_ble_eq_true rfl) (Nat.le_of_ble_eq_true rfl)
/-! WaitingRoomSimulation.calledAhead(I)I -/
abbrev rm_X6_calledAhead (c s : Nat) : Room := { frames := 9, cells := c, slots := s, locals := 221 }
def f_X6_calledAhead_L23 (v1 : Int32) (M : xM) : Nat → Int32 → Int32 → Option ((Int32 ⊕ String))
  | 0, _, _ => none
  | n+1, v2, v3 => if xkd (M.2.1 0 0) = 5 then (if (M.1 (M.2.1 0 0) 3) ≤ v3 then some (.inl v2) else if xkd (M.2.1 0 0) = 5 then if x_in v3 12 = true then (if (M.1 ((M.2.1 0 0) + 2) v3.toNatClampNeg) = v1 then some (.inl v2) else if xkd (M.2.1 0 0) = 5 then if xkd (M.2.1 0 0) = 5 then if x_in v3 12 = true then if x_in (M.1 ((M.2.1 0 0) + 2) v3.toNatClampNeg) 12 = true then if xkd (M.2.1 ((M.2.1 0 0) + 1) (M.1 ((M.2.1 0 0) + 2) v3.toNatClampNeg).toNatClampNeg) = 4 then (if (M.1 (M.2.1 ((M.2.1 0 0) + 1) (M.1 ((M.2.1 0 0) + 2) v3.toNatClampNeg).toNatClampNeg) 5) = 0 then f_X6_calledAhead_L23 v1 M n v2 (v3 + 1) else f_X6_calledAhead_L23 v1 M n (v2 + 1) (v3 + 1)) else none else none else none else none else none) else none else none) else none
def f_X6_calledAhead (a1 : Int32) (M : xM) : Option ((Int32 ⊕ String)) := (f_X6_requireCustomer a1 M).bind fun q1 => x_case q1 (fun r3 => if xkd (M.2.1 0 0) = 5 then (f_X3_windowOf (M.2.1 0 0) a1 M).bind fun q6 => (if q6 = (-1 : Int32) then f_X6_calledAhead_L23 a1 M xF (0 : Int32) (0 : Int32) else some (.inl (0 : Int32))) else none) (fun E4 => some (.inr E4))
set_option maxHeartbeats 4000000 in
set_option maxRecDepth 100000 in
theorem t_X6_calledAhead_L23 {G : xG} {p : Program} {l : Launch} {e : Env} {s : State} {m : MethodId} {args : Array Value} {below : List Frame} {meth : Method} {c : Code} (C : xC G p s m args c cX6_calledAhead 4 wsX6_calledAhead RX6) (hr : meth.sig.returnType = some .int) (hlk : meth.locks = false) (htb : ∀ x ∈ c.exceptionTable.toList, False) (hfl : l.stackTraces = false) {v1 : Int32} {M : xM} : ∀ (n : Nat) (v2 : Int32) (v3 : Int32) (ta : Nat × Nat) (out : (Int32 ⊕ String)), f_X6_calledAhead_L23 v1 M n v2 v3 = some out → xW G p l e (rm_X6_calledAhead (xoc out) (xos out)) s m args below meth c 4 (vx_MQ below (xQx G (xo xoI out) M) (xXc G (xo xoI out) M) args s (xoc out) (xos out) (xAs G)) 0 0 ta M 23 [(0, .ref (xad G 0)), (1, .int v1), (2, .int v2), (3, .int v3)] [] := by
  intro n
  induction n with
  | zero =>
    intro v2 v3 ta out hf
    rw [f_X6_calledAhead_L23] at hf
    cases hf
  | succ n ih =>
    intro v2 v3 ta out hf
    rw [f_X6_calledAhead_L23] at hf
    have i4 : ∀ w ∈ wsX20, w ∈ wsX6_calledAhead := by decide +kernel
    have i5 : ∀ w ∈ wsX30, w ∈ wsX6_calledAhead := by decide +kernel
    have i8 : ∀ w ∈ wsX60, w ∈ wsX6_calledAhead := by decide +kernel
    refine x_iload_n C 3 dX6_calledAhead_23 rfl ?_
    refine x_aload_n C 0 dX6_calledAhead_24 rfl ?_
    obtain ⟨g9, hf⟩ := x_gd hf
    refine x_get8 C xkd_0 i8 0 (by decide) (by decide +kernel) rfl rfl dX6_calledAhead_25 ?_
    refine x_get5 C g9 i5 3 (by decide) (by decide +kernel) rfl rfl dX6_calledAhead_28 ?_
    refine x_icmp_ge C 79 dX6_calledAhead_31 (by decide) (fun hc10 => ?_) (fun hc10 => ?_)
    · have hf := x_ip hc10 hf
      refine x_iload_n C 2 dX6_calledAhead_79 rfl ?_
      obtain rfl := Option.some.inj hf
      refine x_ret ?_
      exact x_iret C hr hlk dX6_calledAhead_80
    · have hf := x_ine hc10 hf
      refine x_aload_n C 0 dX6_calledAhead_34 rfl ?_
      obtain ⟨g11, hf⟩ := x_gd hf
      refine x_get8 C xkd_0 i8 0 (by decide) (by decide +kernel) rfl rfl dX6_calledAhead_35 ?_
      refine x_get5 C g11 i5 2 (by decide) (by decide +kernel) rfl rfl dX6_calledAhead_38 ?_
      refine x_iload_n C 3 dX6_calledAhead_41 rfl ?_
      obtain ⟨g12, hf⟩ := x_gd hf
      refine x_iald C (x5_k2 g11) (x5_l2 g11) g12 dX6_calledAhead_42 ?_
      refine x_iload_n C 1 dX6_calledAhead_43 rfl ?_
      refine x_icmp_eq C 79 dX6_calledAhead_44 (by decide) (fun hc13 => ?_) (fun hc13 => ?_)
      · have hf := x_ip hc13 hf
        refine x_iload_n C 2 dX6_calledAhead_79 rfl ?_
        obtain rfl := Option.some.inj hf
        refine x_ret ?_
        exact x_iret C hr hlk dX6_calledAhead_80
      · have hf := x_ine hc13 hf
        refine x_aload_n C 0 dX6_calledAhead_47 rfl ?_
        obtain ⟨g14, hf⟩ := x_gd hf
        refine x_get8 C xkd_0 i8 0 (by decide) (by decide +kernel) rfl rfl dX6_calledAhead_48 ?_
        refine x_get5 C g14 i5 0 (by decide) (by decide +kernel) rfl rfl dX6_calledAhead_51 ?_
        refine x_aload_n C 0 dX6_calledAhead_54 rfl ?_
        obtain ⟨g15, hf⟩ := x_gd hf
        refine x_get8 C xkd_0 i8 0 (by decide) (by decide +kernel) rfl rfl dX6_calledAhead_55 ?_
        refine x_get5 C g15 i5 2 (by decide) (by decide +kernel) rfl rfl dX6_calledAhead_58 ?_
        refine x_iload_n C 3 dX6_calledAhead_61 rfl ?_
        obtain ⟨g16, hf⟩ := x_gd hf
        refine x_iald C (x5_k2 g15) (x5_l2 g15) g16 dX6_calledAhead_62 ?_
        obtain ⟨g17, hf⟩ := x_gd hf
        obtain ⟨g18, hf⟩ := x_gd hf
        refine x_aald23 C (x5_k1 g14) (x5_l1 g14) g17 dX6_calledAhead_63 ?_
        refine x_get4 C g18 i4 5 (by decide) (by decide +kernel) rfl rfl dX6_calledAhead_64 ?_
        refine x_if_eq C 73 dX6_calledAhead_67 (by decide) (fun hc19 => ?_) (fun hc19 => ?_)
        · have hf := x_ip hc19 hf
          refine x_iinc (v := v3 + 1) (lv' := [(3, .int (v3 + 1)), (0, .ref (xad G 0)), (1, .int v1), (2, .int v2)]) C 3 dX6_calledAhead_73 rfl rfl (by decide) rfl ?_
          refine x_goto C 23 dX6_calledAhead_76 (by decide) ?_
          refine x_sub [1, 2, 3, 0] rfl ?_
          exact ih v2 (v3 + 1) _ _ hf
        · have hf := x_ine hc19 hf
          refine x_iinc (v := v2 + 1) (lv' := [(2, .int (v2 + 1)), (0, .ref (xad G 0)), (1, .int v1), (3, .int v3)]) C 2 dX6_calledAhead_70 rfl rfl (by decide) rfl ?_
          refine x_iinc (v := v3 + 1) (lv' := [(3, .int (v3 + 1)), (2, .int (v2 + 1)), (0, .ref (xad G 0)), (1, .int v1)]) C 3 dX6_calledAhead_73 rfl rfl (by decide) rfl ?_
          refine x_goto C 23 dX6_calledAhead_76 (by decide) ?_
          refine x_sub [2, 3, 1, 0] rfl ?_
          exact ih (v2 + 1) (v3 + 1) _ _ hf
set_option maxHeartbeats 4000000 in
set_option maxRecDepth 100000 in
theorem t_X6_calledAhead {l : Launch} {G : xG} {ta : Nat × Nat} {M : xM} {a1 : Int32} {out : (Int32 ⊕ String)} (hfl : l.stackTraces = false) (hf : f_X6_calledAhead a1 M = some out) : xMetX G l yX6_calledAhead wsX6_calledAhead (rm_X6_calledAhead (xoc out) (xos out)) (xoc out) (xos out) ta M [.ref (xad G 0), .int a1] (xo xoI out) M := by
  refine x_metX (cc := cX6_calledAhead) (nL := 4) (ret := some .int) (by decide) rfl (Nat.le_of_ble_eq_true rfl) ?_
  intro p e s m args below meth c C hr hlk htb
  have C : xC G p s m args c cX6_calledAhead 4 wsX6_calledAhead RX6 := C
  have i4 : ∀ w ∈ wsX20, w ∈ wsX6_calledAhead := by decide +kernel
  have i5 : ∀ w ∈ wsX30, w ∈ wsX6_calledAhead := by decide +kernel
  have i8 : ∀ w ∈ wsX60, w ∈ wsX6_calledAhead := by decide +kernel
  unfold f_X6_calledAhead at hf
  show xW G p l e (rm_X6_calledAhead (xoc out) (xos out)) s m args below meth c 4 (vx_MQ below (xQx G (xo xoI out) M) (xXc G (xo xoI out) M) args s (xoc out) (xos out) (xAs G)) 0 0 ta M 0 [(0, .ref (xad G 0)), (1, .int a1)] []
  refine x_aload_n C 0 dX6_calledAhead_0 rfl ?_
  refine x_iload_n C 1 dX6_calledAhead_1 rfl ?_
  obtain ⟨q1, hg, hf⟩ := x_bd hf
  rcases q1 with r3 | E4
  · have hf := x_ci hf
    refine x_callVXv (mc := 0) (ms := 0) C (by rw [xkd_0]; decide) (by rw [xkd_0]; decide) (xc8 xkd_0) rfl (t_X6_requireCustomer hfl hg) (cwV 1 C.1.2.2.2.2 gX6_calledAhead_X6_requireCustomer rfl rfl rfl (by decide +kernel) ⟨Nat.le_of_ble_eq_true rfl, Nat.le_of_ble_eq_true rfl⟩) rfl rfl (Nat.le_of_ble_eq_true rfl) dX6_calledAhead_2 ⟨Nat.zero_le _, Nat.zero_le _⟩ (fun ta2 => ?_)
    clear hg
    refine x_aload_n C 0 dX6_calledAhead_5 rfl ?_
    obtain ⟨g5, hf⟩ := x_gd hf
    refine x_get8 C xkd_0 i8 0 (by decide) (by decide +kernel) rfl rfl dX6_calledAhead_6 ?_
    refine x_iload_n C 1 dX6_calledAhead_9 rfl ?_
    obtain ⟨q6, hg, hf⟩ := x_bd hf
    refine x_callVr C (by rw [g5]; decide) (by rw [g5]; decide) (xc5 g5) rfl (t_X3_windowOf g5 hg) (cwV 1 C.1.2.2.2.2 gX6_calledAhead_X3_windowOf rfl rfl rfl (by decide +kernel) ⟨Nat.le_of_ble_eq_true rfl, Nat.le_of_ble_eq_true rfl⟩) rfl rfl (Nat.le_of_ble_eq_true rfl) dX6_calledAhead_10 ⟨Nat.zero_le _, Nat.zero_le _⟩ (fun ta7 => ?_)
    clear hg
    refine x_iconst (v := (-1)) C dX6_calledAhead_13 (by decide) ?_
    refine x_icmp_eq C 19 dX6_calledAhead_14 (by decide) (fun hc8 => ?_) (fun hc8 => ?_)
    · have hf := x_ip hc8 hf
      refine x_iconst (v := 0) C dX6_calledAhead_19 (by decide) ?_
      refine x_istore_n (lv' := [(2, .int (0 : Int32)), (0, .ref (xad G 0)), (1, .int a1)]) C dX6_calledAhead_20 rfl (by decide) rfl ?_
      refine x_iconst (v := 0) C dX6_calledAhead_21 (by decide) ?_
      refine x_istore_n (lv' := [(3, .int (0 : Int32)), (2, .int (0 : Int32)), (0, .ref (xad G 0)), (1, .int a1)]) C dX6_calledAhead_22 rfl (by decide) rfl ?_
      refine x_sub [2, 3, 1, 0] rfl ?_
      exact t_X6_calledAhead_L23 C hr hlk htb hfl xF (0 : Int32) (0 : Int32) _ _ hf
    · have hf := x_ine hc8 hf
      refine x_iconst (v := 0) C dX6_calledAhead_17 (by decide) ?_
      obtain rfl := Option.some.inj hf
      refine x_ret ?_
      exact x_iret C hr hlk dX6_calledAhead_18
  · have hf := x_cx hf
    obtain rfl := Option.some.inj hf
    refine x_callVXt (mc := 1) (ms := 6) C (by rw [xkd_0]; decide) (by rw [xkd_0]; decide) (xc8 xkd_0) rfl (t_X6_requireCustomer hfl hg) (cwV 1 C.1.2.2.2.2 gX6_calledAhead_X6_requireCustomer rfl rfl rfl (by decide +kernel) ⟨Nat.le_of_ble_eq_true rfl, Nat.le_of_ble_eq_true rfl⟩) rfl rfl (Nat.le_of_ble_eq_true rfl) dX6_calledAhead_2 ⟨Nat.le_of_ble_eq_true rfl, Nat.le_of_ble_eq_true rfl⟩ (fun ta2 => ?_)
    exact x_out C hlk htb (Nat.le_of_ble_eq_true rfl) (Nat.le_of_ble_eq_true rfl)
/-! WaitingRoomSimulation.calledAheadByPositions(I)I -/
abbrev rm_X6_calledAheadByPositions (c s : Nat) : Room := { frames := 9, cells := c, slots := s, locals := 221 }
def f_X6_calledAheadByPositions_L19 (v2 : Int32) (M : xM) : Nat → Int32 → Int32 → Option ((Int32 ⊕ String))
  | 0, _, _ => none
  | n+1, v3, v4 => if xkd (M.2.1 0 0) = 5 then (if (M.1 (M.2.1 0 0) 1) ≤ v4 then some (.inl v3) else if xkd (M.2.1 0 0) = 5 then (f_X3_positionOf (M.2.1 0 0) v4 M).bind fun q11 => (if q11 = (-1 : Int32) then f_X6_calledAheadByPositions_L19 v2 M n v3 (v4 + 1) else (if v2 ≤ q11 then f_X6_calledAheadByPositions_L19 v2 M n v3 (v4 + 1) else if xkd (M.2.1 0 0) = 5 then if x_in v4 12 = true then if xkd (M.2.1 ((M.2.1 0 0) + 1) v4.toNatClampNeg) = 4 then (if (M.1 (M.2.1 ((M.2.1 0 0) + 1) v4.toNatClampNeg) 5) = 0 then f_X6_calledAheadByPositions_L19 v2 M n v3 (v4 + 1) else f_X6_calledAheadByPositions_L19 v2 M n (v3 + 1) (v4 + 1)) else none else none else none)) else none) else none
def f_X6_calledAheadByPositions (a1 : Int32) (M : xM) : Option ((Int32 ⊕ String)) := (f_X6_requireCustomer a1 M).bind fun q1 => x_case q1 (fun r3 => if xkd (M.2.1 0 0) = 5 then (f_X3_positionOf (M.2.1 0 0) a1 M).bind fun q6 => f_X6_calledAheadByPositions_L19 q6 M xF (0 : Int32) (0 : Int32) else none) (fun E4 => some (.inr E4))
set_option maxHeartbeats 4000000 in
set_option maxRecDepth 100000 in
theorem t_X6_calledAheadByPositions_L19 {G : xG} {p : Program} {l : Launch} {e : Env} {s : State} {m : MethodId} {args : Array Value} {below : List Frame} {meth : Method} {c : Code} (C : xC G p s m args c cX6_calledAheadByPositions 6 wsX6_calledAheadByPositions RX6) (hr : meth.sig.returnType = some .int) (hlk : meth.locks = false) (htb : ∀ x ∈ c.exceptionTable.toList, False) (hfl : l.stackTraces = false) {v2 : Int32} {M : xM} : ∀ (n : Nat) (v3 : Int32) (v4 : Int32) (ta : Nat × Nat) (out : (Int32 ⊕ String)), f_X6_calledAheadByPositions_L19 v2 M n v3 v4 = some out → xW G p l e (rm_X6_calledAheadByPositions (xoc out) (xos out)) s m args below meth c 6 (vx_MQ below (xQx G (xo xoI out) M) (xXc G (xo xoI out) M) args s (xoc out) (xos out) (xAs G)) 0 0 ta M 19 [(0, .ref (xad G 0)), (2, .int v2), (3, .int v3), (4, .int v4)] [] := by
  intro n
  induction n with
  | zero =>
    intro v3 v4 ta out hf
    rw [f_X6_calledAheadByPositions_L19] at hf
    cases hf
  | succ n ih =>
    intro v3 v4 ta out hf
    rw [f_X6_calledAheadByPositions_L19] at hf
    have i4 : ∀ w ∈ wsX20, w ∈ wsX6_calledAheadByPositions := by decide +kernel
    have i5 : ∀ w ∈ wsX30, w ∈ wsX6_calledAheadByPositions := by decide +kernel
    have i8 : ∀ w ∈ wsX60, w ∈ wsX6_calledAheadByPositions := by decide +kernel
    refine x_iload C 3 dX6_calledAheadByPositions_19 rfl ?_
    refine x_aload_n C 0 dX6_calledAheadByPositions_21 rfl ?_
    obtain ⟨g8, hf⟩ := x_gd hf
    refine x_get8 C xkd_0 i8 0 (by decide) (by decide +kernel) rfl rfl dX6_calledAheadByPositions_22 ?_
    refine x_get5 C g8 i5 1 (by decide) (by decide +kernel) rfl rfl dX6_calledAheadByPositions_25 ?_
    refine x_icmp_ge C 79 dX6_calledAheadByPositions_28 (by decide) (fun hc9 => ?_) (fun hc9 => ?_)
    · have hf := x_ip hc9 hf
      refine x_iload_n C 2 dX6_calledAheadByPositions_79 rfl ?_
      obtain rfl := Option.some.inj hf
      refine x_ret ?_
      exact x_iret C hr hlk dX6_calledAheadByPositions_80
    · have hf := x_ine hc9 hf
      refine x_aload_n C 0 dX6_calledAheadByPositions_31 rfl ?_
      obtain ⟨g10, hf⟩ := x_gd hf
      refine x_get8 C xkd_0 i8 0 (by decide) (by decide +kernel) rfl rfl dX6_calledAheadByPositions_32 ?_
      refine x_iload C 3 dX6_calledAheadByPositions_35 rfl ?_
      obtain ⟨q11, hg, hf⟩ := x_bd hf
      refine x_callVr C (by rw [g10]; decide) (by rw [g10]; decide) (xc5 g10) rfl (t_X3_positionOf g10 hg) (cwV 1 C.1.2.2.2.2 gX6_calledAheadByPositions_X3_positionOf rfl rfl rfl (by decide +kernel) ⟨Nat.le_of_ble_eq_true rfl, Nat.le_of_ble_eq_true rfl⟩) rfl rfl (Nat.le_of_ble_eq_true rfl) dX6_calledAheadByPositions_37 ⟨Nat.zero_le _, Nat.zero_le _⟩ (fun ta12 => ?_)
      clear hg
      refine x_istore (lv' := [(5, .int q11), (0, .ref (xad G 0)), (2, .int v2), (3, .int v3), (4, .int v4)]) C dX6_calledAheadByPositions_40 (by decide) rfl ?_
      refine x_iload C 0 dX6_calledAheadByPositions_42 rfl ?_
      refine x_iconst (v := (-1)) C dX6_calledAheadByPositions_44 (by decide) ?_
      refine x_icmp_eq C 73 dX6_calledAheadByPositions_45 (by decide) (fun hc13 => ?_) (fun hc13 => ?_)
      · have hf := x_ip hc13 hf
        refine x_iinc (v := v4 + 1) (lv' := [(4, .int (v4 + 1)), (5, .int q11), (0, .ref (xad G 0)), (2, .int v2), (3, .int v3)]) C 4 dX6_calledAheadByPositions_73 rfl rfl (by decide) rfl ?_
        refine x_goto C 19 dX6_calledAheadByPositions_76 (by decide) ?_
        refine x_sub [2, 3, 4, 0] rfl ?_
        exact ih v3 (v4 + 1) _ _ hf
      · have hf := x_ine hc13 hf
        refine x_iload C 0 dX6_calledAheadByPositions_48 rfl ?_
        refine x_iload_n C 2 dX6_calledAheadByPositions_50 rfl ?_
        refine x_icmp_ge C 73 dX6_calledAheadByPositions_51 (by decide) (fun hc14 => ?_) (fun hc14 => ?_)
        · have hf := x_ip hc14 hf
          refine x_iinc (v := v4 + 1) (lv' := [(4, .int (v4 + 1)), (5, .int q11), (0, .ref (xad G 0)), (2, .int v2), (3, .int v3)]) C 4 dX6_calledAheadByPositions_73 rfl rfl (by decide) rfl ?_
          refine x_goto C 19 dX6_calledAheadByPositions_76 (by decide) ?_
          refine x_sub [2, 3, 4, 0] rfl ?_
          exact ih v3 (v4 + 1) _ _ hf
        · have hf := x_ine hc14 hf
          refine x_aload_n C 1 dX6_calledAheadByPositions_54 rfl ?_
          obtain ⟨g15, hf⟩ := x_gd hf
          refine x_get8 C xkd_0 i8 0 (by decide) (by decide +kernel) rfl rfl dX6_calledAheadByPositions_55 ?_
          refine x_get5 C g15 i5 0 (by decide) (by decide +kernel) rfl rfl dX6_calledAheadByPositions_58 ?_
          refine x_iload C 4 dX6_calledAheadByPositions_61 rfl ?_
          obtain ⟨g16, hf⟩ := x_gd hf
          obtain ⟨g17, hf⟩ := x_gd hf
          refine x_aald23 C (x5_k1 g15) (x5_l1 g15) g16 dX6_calledAheadByPositions_63 ?_
          refine x_get4 C g17 i4 5 (by decide) (by decide +kernel) rfl rfl dX6_calledAheadByPositions_64 ?_
          refine x_if_eq C 73 dX6_calledAheadByPositions_67 (by decide) (fun hc18 => ?_) (fun hc18 => ?_)
          · have hf := x_ip hc18 hf
            refine x_iinc (v := v4 + 1) (lv' := [(4, .int (v4 + 1)), (5, .int q11), (0, .ref (xad G 0)), (2, .int v2), (3, .int v3)]) C 4 dX6_calledAheadByPositions_73 rfl rfl (by decide) rfl ?_
            refine x_goto C 19 dX6_calledAheadByPositions_76 (by decide) ?_
            refine x_sub [2, 3, 4, 0] rfl ?_
            exact ih v3 (v4 + 1) _ _ hf
          · have hf := x_ine hc18 hf
            refine x_iinc (v := v3 + 1) (lv' := [(3, .int (v3 + 1)), (5, .int q11), (0, .ref (xad G 0)), (2, .int v2), (4, .int v4)]) C 3 dX6_calledAheadByPositions_70 rfl rfl (by decide) rfl ?_
            refine x_iinc (v := v4 + 1) (lv' := [(4, .int (v4 + 1)), (3, .int (v3 + 1)), (5, .int q11), (0, .ref (xad G 0)), (2, .int v2)]) C 4 dX6_calledAheadByPositions_73 rfl rfl (by decide) rfl ?_
            refine x_goto C 19 dX6_calledAheadByPositions_76 (by decide) ?_
            refine x_sub [3, 4, 1, 0] rfl ?_
            exact ih (v3 + 1) (v4 + 1) _ _ hf
set_option maxHeartbeats 4000000 in
set_option maxRecDepth 100000 in
theorem t_X6_calledAheadByPositions {l : Launch} {G : xG} {ta : Nat × Nat} {M : xM} {a1 : Int32} {out : (Int32 ⊕ String)} (hfl : l.stackTraces = false) (hf : f_X6_calledAheadByPositions a1 M = some out) : xMetX G l yX6_calledAheadByPositions wsX6_calledAheadByPositions (rm_X6_calledAheadByPositions (xoc out) (xos out)) (xoc out) (xos out) ta M [.ref (xad G 0), .int a1] (xo xoI out) M := by
  refine x_metX (cc := cX6_calledAheadByPositions) (nL := 6) (ret := some .int) (by decide) rfl (Nat.le_of_ble_eq_true rfl) ?_
  intro p e s m args below meth c C hr hlk htb
  have C : xC G p s m args c cX6_calledAheadByPositions 6 wsX6_calledAheadByPositions RX6 := C
  have i4 : ∀ w ∈ wsX20, w ∈ wsX6_calledAheadByPositions := by decide +kernel
  have i5 : ∀ w ∈ wsX30, w ∈ wsX6_calledAheadByPositions := by decide +kernel
  have i8 : ∀ w ∈ wsX60, w ∈ wsX6_calledAheadByPositions := by decide +kernel
  unfold f_X6_calledAheadByPositions at hf
  show xW G p l e (rm_X6_calledAheadByPositions (xoc out) (xos out)) s m args below meth c 6 (vx_MQ below (xQx G (xo xoI out) M) (xXc G (xo xoI out) M) args s (xoc out) (xos out) (xAs G)) 0 0 ta M 0 [(0, .ref (xad G 0)), (1, .int a1)] []
  refine x_aload_n C 0 dX6_calledAheadByPositions_0 rfl ?_
  refine x_iload_n C 1 dX6_calledAheadByPositions_1 rfl ?_
  obtain ⟨q1, hg, hf⟩ := x_bd hf
  rcases q1 with r3 | E4
  · have hf := x_ci hf
    refine x_callVXv (mc := 0) (ms := 0) C (by rw [xkd_0]; decide) (by rw [xkd_0]; decide) (xc8 xkd_0) rfl (t_X6_requireCustomer hfl hg) (cwV 1 C.1.2.2.2.2 gX6_calledAheadByPositions_X6_requireCustomer rfl rfl rfl (by decide +kernel) ⟨Nat.le_of_ble_eq_true rfl, Nat.le_of_ble_eq_true rfl⟩) rfl rfl (Nat.le_of_ble_eq_true rfl) dX6_calledAheadByPositions_2 ⟨Nat.zero_le _, Nat.zero_le _⟩ (fun ta2 => ?_)
    clear hg
    refine x_aload_n C 0 dX6_calledAheadByPositions_5 rfl ?_
    obtain ⟨g5, hf⟩ := x_gd hf
    refine x_get8 C xkd_0 i8 0 (by decide) (by decide +kernel) rfl rfl dX6_calledAheadByPositions_6 ?_
    refine x_iload_n C 1 dX6_calledAheadByPositions_9 rfl ?_
    obtain ⟨q6, hg, hf⟩ := x_bd hf
    refine x_callVr C (by rw [g5]; decide) (by rw [g5]; decide) (xc5 g5) rfl (t_X3_positionOf g5 hg) (cwV 1 C.1.2.2.2.2 gX6_calledAheadByPositions_X3_positionOf rfl rfl rfl (by decide +kernel) ⟨Nat.le_of_ble_eq_true rfl, Nat.le_of_ble_eq_true rfl⟩) rfl rfl (Nat.le_of_ble_eq_true rfl) dX6_calledAheadByPositions_10 ⟨Nat.zero_le _, Nat.zero_le _⟩ (fun ta7 => ?_)
    clear hg
    refine x_istore_n (lv' := [(2, .int q6), (0, .ref (xad G 0)), (1, .int a1)]) C dX6_calledAheadByPositions_13 rfl (by decide) rfl ?_
    refine x_iconst (v := 0) C dX6_calledAheadByPositions_14 (by decide) ?_
    refine x_istore_n (lv' := [(3, .int (0 : Int32)), (2, .int q6), (0, .ref (xad G 0)), (1, .int a1)]) C dX6_calledAheadByPositions_15 rfl (by decide) rfl ?_
    refine x_iconst (v := 0) C dX6_calledAheadByPositions_16 (by decide) ?_
    refine x_istore (lv' := [(4, .int (0 : Int32)), (3, .int (0 : Int32)), (2, .int q6), (0, .ref (xad G 0)), (1, .int a1)]) C dX6_calledAheadByPositions_17 (by decide) rfl ?_
    refine x_sub [3, 2, 1, 0] rfl ?_
    exact t_X6_calledAheadByPositions_L19 C hr hlk htb hfl xF (0 : Int32) (0 : Int32) _ _ hf
  · have hf := x_cx hf
    obtain rfl := Option.some.inj hf
    refine x_callVXt (mc := 1) (ms := 6) C (by rw [xkd_0]; decide) (by rw [xkd_0]; decide) (xc8 xkd_0) rfl (t_X6_requireCustomer hfl hg) (cwV 1 C.1.2.2.2.2 gX6_calledAheadByPositions_X6_requireCustomer rfl rfl rfl (by decide +kernel) ⟨Nat.le_of_ble_eq_true rfl, Nat.le_of_ble_eq_true rfl⟩) rfl rfl (Nat.le_of_ble_eq_true rfl) dX6_calledAheadByPositions_2 ⟨Nat.le_of_ble_eq_true rfl, Nat.le_of_ble_eq_true rfl⟩ (fun ta2 => ?_)
    exact x_out C hlk htb (Nat.le_of_ble_eq_true rfl) (Nat.le_of_ble_eq_true rfl)
/-! WaitingRoomSimulation.inversions()I -/
abbrev rm_X6_inversions (c s : Nat) : Room := { frames := 1, cells := c, slots := s, locals := 21 }
def f_X6_inversions_L19 (v2 : Int32) (M : xM) (kx : Int32 → Option (Int32)) : Nat → Int32 → Int32 → Option (Int32)
  | 0, _, _ => none
  | n+1, v1, v3 => if xkd (M.2.1 0 0) = 5 then (if (M.1 (M.2.1 0 0) 3) ≤ v3 then kx v1 else if xkd (M.2.1 0 0) = 5 then (f_X3_ticketAt (M.2.1 0 0) v2 M).bind fun q6 => if xkd (M.2.1 0 0) = 5 then (f_X3_ticketAt (M.2.1 0 0) v3 M).bind fun q9 => (if q6 ≤ q9 then f_X6_inversions_L19 v2 M kx n v1 (v3 + 1) else f_X6_inversions_L19 v2 M kx n (v1 + 1) (v3 + 1)) else none else none) else none
def f_X6_inversions_L4 (M : xM) : Nat → Int32 → Int32 → Option (Int32)
  | 0, _, _ => none
  | n+1, v1, v2 => if xkd (M.2.1 0 0) = 5 then (if (M.1 (M.2.1 0 0) 3) ≤ v2 then some v1 else f_X6_inversions_L19 v2 M (fun v12 => f_X6_inversions_L4 M n v12 (v2 + 1)) xF v1 (v2 + (1 : Int32))) else none
def f_X6_inversions (M : xM) : Option (Int32) := f_X6_inversions_L4 M xF (0 : Int32) (0 : Int32)
set_option maxHeartbeats 4000000 in
set_option maxRecDepth 100000 in
theorem t_X6_inversions_L19 {G : xG} {p : Program} {l : Launch} {e : Env} {s : State} {m : MethodId} {args : Array Value} {below : List Frame} {meth : Method} {c : Code} (C : xC G p s m args c cX6_inversions 4 wsX6_inversions RX6) (hr : meth.sig.returnType = some .int) (hlk : meth.locks = false) {v2 : Int32} {M : xM} {kx : Int32 → Option (Int32)} (hkx : ∀ (v1 : Int32) (ta : Nat × Nat) (out : Int32), kx v1 = some out → xW G p l e (rm_X6_inversions 0 0) s m args below meth c 4 (MQ below (xQr G (some (.int out)) M) args s 0 0 (xAs G)) 0 0 ta M 58 [(0, .ref (xad G 0)), (1, .int v1), (2, .int v2)] []) : ∀ (n : Nat) (v1 : Int32) (v3 : Int32) (ta : Nat × Nat) (out : Int32), f_X6_inversions_L19 v2 M kx n v1 v3 = some out → xW G p l e (rm_X6_inversions 0 0) s m args below meth c 4 (MQ below (xQr G (some (.int out)) M) args s 0 0 (xAs G)) 0 0 ta M 19 [(0, .ref (xad G 0)), (1, .int v1), (2, .int v2), (3, .int v3)] [] := by
  intro n
  induction n with
  | zero =>
    intro v1 v3 ta out hf
    rw [f_X6_inversions_L19] at hf
    cases hf
  | succ n ih =>
    intro v1 v3 ta out hf
    rw [f_X6_inversions_L19] at hf
    have i5 : ∀ w ∈ wsX30, w ∈ wsX6_inversions := by decide +kernel
    have i8 : ∀ w ∈ wsX60, w ∈ wsX6_inversions := by decide +kernel
    refine x_iload_n C 3 dX6_inversions_19 rfl ?_
    refine x_aload_n C 0 dX6_inversions_20 rfl ?_
    obtain ⟨g3, hf⟩ := x_gd hf
    refine x_get8 C xkd_0 i8 0 (by decide) (by decide +kernel) rfl rfl dX6_inversions_21 ?_
    refine x_get5 C g3 i5 3 (by decide) (by decide +kernel) rfl rfl dX6_inversions_24 ?_
    refine x_icmp_ge C 58 dX6_inversions_27 (by decide) (fun hc4 => ?_) (fun hc4 => ?_)
    · have hf := x_ip hc4 hf
      refine x_sub [0, 1, 2] rfl ?_
      exact hkx v1 _ _ hf
    · have hf := x_ine hc4 hf
      refine x_aload_n C 0 dX6_inversions_30 rfl ?_
      obtain ⟨g5, hf⟩ := x_gd hf
      refine x_get8 C xkd_0 i8 0 (by decide) (by decide +kernel) rfl rfl dX6_inversions_31 ?_
      refine x_iload_n C 2 dX6_inversions_34 rfl ?_
      obtain ⟨q6, hg, hf⟩ := x_bd hf
      refine x_callVr C (by rw [g5]; decide) (by rw [g5]; decide) (xc5 g5) rfl (t_X3_ticketAt g5 hg) (cwV 1 C.1.2.2.2.2 gX6_inversions_X3_ticketAt rfl rfl rfl (by decide +kernel) ⟨Nat.le_of_ble_eq_true rfl, Nat.le_of_ble_eq_true rfl⟩) rfl rfl (Nat.le_of_ble_eq_true rfl) dX6_inversions_35 ⟨Nat.zero_le _, Nat.zero_le _⟩ (fun ta7 => ?_)
      clear hg
      refine x_aload_n C 0 dX6_inversions_38 rfl ?_
      obtain ⟨g8, hf⟩ := x_gd hf
      refine x_get8 C xkd_0 i8 0 (by decide) (by decide +kernel) rfl rfl dX6_inversions_39 ?_
      refine x_iload_n C 3 dX6_inversions_42 rfl ?_
      obtain ⟨q9, hg, hf⟩ := x_bd hf
      refine x_callVr C (by rw [g8]; decide) (by rw [g8]; decide) (xc5 g8) rfl (t_X3_ticketAt g8 hg) (cwV 1 C.1.2.2.2.2 gX6_inversions_X3_ticketAt rfl rfl rfl (by decide +kernel) ⟨Nat.le_of_ble_eq_true rfl, Nat.le_of_ble_eq_true rfl⟩) rfl rfl (Nat.le_of_ble_eq_true rfl) dX6_inversions_43 ⟨Nat.zero_le _, Nat.zero_le _⟩ (fun ta10 => ?_)
      clear hg
      refine x_icmp_le C 52 dX6_inversions_46 (by decide) (fun hc11 => ?_) (fun hc11 => ?_)
      · have hf := x_ip hc11 hf
        refine x_iinc (v := v3 + 1) (lv' := [(3, .int (v3 + 1)), (0, .ref (xad G 0)), (1, .int v1), (2, .int v2)]) C 3 dX6_inversions_52 rfl rfl (by decide) rfl ?_
        refine x_goto C 19 dX6_inversions_55 (by decide) ?_
        refine x_sub [1, 2, 3, 0] rfl ?_
        exact ih v1 (v3 + 1) _ _ hf
      · have hf := x_ine hc11 hf
        refine x_iinc (v := v1 + 1) (lv' := [(1, .int (v1 + 1)), (0, .ref (xad G 0)), (2, .int v2), (3, .int v3)]) C 1 dX6_inversions_49 rfl rfl (by decide) rfl ?_
        refine x_iinc (v := v3 + 1) (lv' := [(3, .int (v3 + 1)), (1, .int (v1 + 1)), (0, .ref (xad G 0)), (2, .int v2)]) C 3 dX6_inversions_52 rfl rfl (by decide) rfl ?_
        refine x_goto C 19 dX6_inversions_55 (by decide) ?_
        refine x_sub [2, 1, 3, 0] rfl ?_
        exact ih (v1 + 1) (v3 + 1) _ _ hf
set_option maxHeartbeats 4000000 in
set_option maxRecDepth 100000 in
theorem t_X6_inversions_L4 {G : xG} {p : Program} {l : Launch} {e : Env} {s : State} {m : MethodId} {args : Array Value} {below : List Frame} {meth : Method} {c : Code} (C : xC G p s m args c cX6_inversions 4 wsX6_inversions RX6) (hr : meth.sig.returnType = some .int) (hlk : meth.locks = false) {M : xM} : ∀ (n : Nat) (v1 : Int32) (v2 : Int32) (ta : Nat × Nat) (out : Int32), f_X6_inversions_L4 M n v1 v2 = some out → xW G p l e (rm_X6_inversions 0 0) s m args below meth c 4 (MQ below (xQr G (some (.int out)) M) args s 0 0 (xAs G)) 0 0 ta M 4 [(0, .ref (xad G 0)), (1, .int v1), (2, .int v2)] [] := by
  intro n
  induction n with
  | zero =>
    intro v1 v2 ta out hf
    rw [f_X6_inversions_L4] at hf
    cases hf
  | succ n ih =>
    intro v1 v2 ta out hf
    rw [f_X6_inversions_L4] at hf
    have i5 : ∀ w ∈ wsX30, w ∈ wsX6_inversions := by decide +kernel
    have i8 : ∀ w ∈ wsX60, w ∈ wsX6_inversions := by decide +kernel
    refine x_iload_n C 2 dX6_inversions_4 rfl ?_
    refine x_aload_n C 0 dX6_inversions_5 rfl ?_
    obtain ⟨g1, hf⟩ := x_gd hf
    refine x_get8 C xkd_0 i8 0 (by decide) (by decide +kernel) rfl rfl dX6_inversions_6 ?_
    refine x_get5 C g1 i5 3 (by decide) (by decide +kernel) rfl rfl dX6_inversions_9 ?_
    refine x_icmp_ge C 64 dX6_inversions_12 (by decide) (fun hc2 => ?_) (fun hc2 => ?_)
    · have hf := x_ip hc2 hf
      refine x_iload_n C 1 dX6_inversions_64 rfl ?_
      obtain rfl := Option.some.inj hf
      exact x_iret C hr hlk dX6_inversions_65
    · have hf := x_ine hc2 hf
      refine x_iload_n C 2 dX6_inversions_15 rfl ?_
      refine x_iconst (v := 1) C dX6_inversions_16 (by decide) ?_
      refine x_iadd C dX6_inversions_17 ?_
      refine x_istore_n (lv' := [(3, .int (v2 + (1 : Int32))), (0, .ref (xad G 0)), (1, .int v1), (2, .int v2)]) C dX6_inversions_18 rfl (by decide) rfl ?_
      refine x_sub [1, 2, 3, 0] rfl ?_
      refine t_X6_inversions_L19 C hr hlk (fun v12 ta13 out hf => ?_) xF v1 (v2 + (1 : Int32)) _ _ hf
      refine x_iinc (v := v2 + 1) (lv' := [(2, .int (v2 + 1)), (0, .ref (xad G 0)), (1, .int v12)]) C 2 dX6_inversions_58 rfl rfl (by decide) rfl ?_
      refine x_goto C 4 dX6_inversions_61 (by decide) ?_
      refine x_sub [1, 2, 0] rfl ?_
      exact ih v12 (v2 + 1) _ _ hf
set_option maxHeartbeats 4000000 in
set_option maxRecDepth 100000 in
theorem t_X6_inversions {l : Launch} {G : xG} {ta : Nat × Nat} {M : xM} {out : Int32} (hf : f_X6_inversions M = some out) : xMet G l yX6_inversions wsX6_inversions (rm_X6_inversions 0 0) 0 0 ta M [.ref (xad G 0)] (some (.int out)) M := by
  refine x_met (cc := cX6_inversions) (nL := 4) (ret := some .int) (by decide) rfl (Nat.le_of_ble_eq_true rfl) ?_
  intro p e s m args below meth c C hr hlk
  have C : xC G p s m args c cX6_inversions 4 wsX6_inversions RX6 := C
  have i5 : ∀ w ∈ wsX30, w ∈ wsX6_inversions := by decide +kernel
  have i8 : ∀ w ∈ wsX60, w ∈ wsX6_inversions := by decide +kernel
  unfold f_X6_inversions at hf
  show xW G p l e (rm_X6_inversions 0 0) s m args below meth c 4 (MQ below (xQr G (some (.int out)) M) args s 0 0 (xAs G)) 0 0 ta M 0 [(0, .ref (xad G 0))] []
  refine x_iconst (v := 0) C dX6_inversions_0 (by decide) ?_
  refine x_istore_n (lv' := [(1, .int (0 : Int32)), (0, .ref (xad G 0))]) C dX6_inversions_1 rfl (by decide) rfl ?_
  refine x_iconst (v := 0) C dX6_inversions_2 (by decide) ?_
  refine x_istore_n (lv' := [(2, .int (0 : Int32)), (1, .int (0 : Int32)), (0, .ref (xad G 0))]) C dX6_inversions_3 rfl (by decide) rfl ?_
  refine x_sub [2, 1, 0] rfl ?_
  exact t_X6_inversions_L4 C hr hlk xF (0 : Int32) (0 : Int32) _ _ hf
/-! WaitingRoomSimulation.bubbleUp(I)I -/
abbrev rm_X6_bubbleUp (c s : Nat) : Room := { frames := 0, cells := c, slots := s, locals := 0 }
def f_X6_bubbleUp_L4 (v1 : Int32) : Nat → Int32 → Int32 → xM → Option (Int32 × xM)
  | 0, _, _, _ => none
  | n+1, v2, v3, M => (if v1 ≤ v3 then some (v2, M) else if x_in (v3 - (1 : Int32)) 12 = true then if x_in v3 12 = true then (if (M.1 8 (v3 - (1 : Int32)).toNatClampNeg) ≤ (M.1 8 v3.toNatClampNeg) then f_X6_bubbleUp_L4 v1 n v2 (v3 + 1) M else if x_in v3 12 = true then if x_in (v3 - (1 : Int32)) 12 = true then x_let (sI M 8 (v3 - (1 : Int32)).toNatClampNeg (M.1 8 v3.toNatClampNeg)) fun M7 => if x_in v3 12 = true then x_let (sI M7 8 v3.toNatClampNeg (M.1 8 (v3 - (1 : Int32)).toNatClampNeg)) fun M10 => f_X6_bubbleUp_L4 v1 n (v2 + 1) (v3 + 1) M10 else none else none else none) else none else none)
def f_X6_bubbleUp (a1 : Int32) (M : xM) : Option (Int32 × xM) := f_X6_bubbleUp_L4 a1 xF (0 : Int32) (1 : Int32) M
set_option maxHeartbeats 4000000 in
set_option maxRecDepth 100000 in
theorem t_X6_bubbleUp_L4 {G : xG} {p : Program} {l : Launch} {e : Env} {s : State} {m : MethodId} {args : Array Value} {below : List Frame} {meth : Method} {c : Code} (C : xC G p s m args c cX6_bubbleUp 5 wsX6_bubbleUp RX6) (hr : meth.sig.returnType = some .int) (hlk : meth.locks = false) {v1 : Int32} : ∀ (n : Nat) (v2 : Int32) (v3 : Int32) (M : xM) (ta : Nat × Nat) (out : Int32 × xM), f_X6_bubbleUp_L4 v1 n v2 v3 M = some out → xW G p l e (rm_X6_bubbleUp 0 0) s m args below meth c 5 (MQ below (xQr G (some (.int out.1)) out.2) args s 0 0 (xAs G)) 0 0 ta M 4 [(0, .ref (xad G 0)), (1, .int v1), (2, .int v2), (3, .int v3)] [] := by
  intro n
  induction n with
  | zero =>
    intro v2 v3 M ta out hf
    rw [f_X6_bubbleUp_L4] at hf
    cases hf
  | succ n ih =>
    intro v2 v3 M ta out hf
    rw [f_X6_bubbleUp_L4] at hf
    have i8 : ∀ w ∈ wsX60, w ∈ wsX6_bubbleUp := by decide +kernel
    refine x_iload_n C 3 dX6_bubbleUp_4 rfl ?_
    refine x_iload_n C 1 dX6_bubbleUp_5 rfl ?_
    refine x_icmp_ge C 61 dX6_bubbleUp_6 (by decide) (fun hc1 => ?_) (fun hc1 => ?_)
    · have hf := x_ip hc1 hf
      refine x_iload_n C 2 dX6_bubbleUp_61 rfl ?_
      obtain rfl := Option.some.inj hf
      exact x_iret C hr hlk dX6_bubbleUp_62
    · have hf := x_ine hc1 hf
      refine x_aload_n C 0 dX6_bubbleUp_9 rfl ?_
      refine x_get8 C xkd_0 i8 10 (by decide) (by decide +kernel) rfl rfl dX6_bubbleUp_10 ?_
      refine x_iload_n C 3 dX6_bubbleUp_13 rfl ?_
      refine x_iconst (v := 1) C dX6_bubbleUp_14 (by decide) ?_
      refine x_isub C dX6_bubbleUp_15 ?_
      obtain ⟨g2, hf⟩ := x_gd hf
      refine x_iald C xkd_8 xl_8 g2 dX6_bubbleUp_16 ?_
      refine x_istore (lv' := [(4, .int (M.1 8 (v3 - (1 : Int32)).toNatClampNeg)), (0, .ref (xad G 0)), (1, .int v1), (2, .int v2), (3, .int v3)]) C dX6_bubbleUp_17 (by decide) rfl ?_
      refine x_iload C 0 dX6_bubbleUp_19 rfl ?_
      refine x_aload_n C 1 dX6_bubbleUp_21 rfl ?_
      refine x_get8 C xkd_0 i8 10 (by decide) (by decide +kernel) rfl rfl dX6_bubbleUp_22 ?_
      refine x_iload_n C 4 dX6_bubbleUp_25 rfl ?_
      obtain ⟨g3, hf⟩ := x_gd hf
      refine x_iald C xkd_8 xl_8 g3 dX6_bubbleUp_26 ?_
      refine x_icmp_le C 55 dX6_bubbleUp_27 (by decide) (fun hc4 => ?_) (fun hc4 => ?_)
      · have hf := x_ip hc4 hf
        refine x_iinc (v := v3 + 1) (lv' := [(3, .int (v3 + 1)), (4, .int (M.1 8 (v3 - (1 : Int32)).toNatClampNeg)), (0, .ref (xad G 0)), (1, .int v1), (2, .int v2)]) C 4 dX6_bubbleUp_55 rfl rfl (by decide) rfl ?_
        refine x_goto C 4 dX6_bubbleUp_58 (by decide) ?_
        refine x_sub [2, 3, 4, 0] rfl ?_
        exact ih v2 (v3 + 1) M _ _ hf
      · have hf := x_ine hc4 hf
        refine x_aload_n C 1 dX6_bubbleUp_30 rfl ?_
        refine x_get8 C xkd_0 i8 10 (by decide) (by decide +kernel) rfl rfl dX6_bubbleUp_31 ?_
        refine x_iload_n C 4 dX6_bubbleUp_34 rfl ?_
        refine x_iconst (v := 1) C dX6_bubbleUp_35 (by decide) ?_
        refine x_isub C dX6_bubbleUp_36 ?_
        refine x_aload_n C 1 dX6_bubbleUp_37 rfl ?_
        refine x_get8 C xkd_0 i8 10 (by decide) (by decide +kernel) rfl rfl dX6_bubbleUp_38 ?_
        refine x_iload_n C 4 dX6_bubbleUp_41 rfl ?_
        obtain ⟨g5, hf⟩ := x_gd hf
        refine x_iald C xkd_8 xl_8 g5 dX6_bubbleUp_42 ?_
        obtain ⟨g6, hf⟩ := x_gd hf
        refine x_iast C xkd_8 xl_8 g6 dX6_bubbleUp_43 ?_
        obtain ⟨M7, e8, hf⟩ := x_lt hf
        rw [← e8]
        clear e8
        refine x_aload_n C 1 dX6_bubbleUp_44 rfl ?_
        refine x_get8 C xkd_0 i8 10 (by decide) (by decide +kernel) rfl rfl dX6_bubbleUp_45 ?_
        refine x_iload_n C 4 dX6_bubbleUp_48 rfl ?_
        refine x_iload C 0 dX6_bubbleUp_49 rfl ?_
        obtain ⟨g9, hf⟩ := x_gd hf
        refine x_iast C xkd_8 xl_8 g9 dX6_bubbleUp_51 ?_
        obtain ⟨M10, e11, hf⟩ := x_lt hf
        rw [← e11]
        clear e11
        refine x_iinc (v := v2 + 1) (lv' := [(2, .int (v2 + 1)), (4, .int (M.1 8 (v3 - (1 : Int32)).toNatClampNeg)), (0, .ref (xad G 0)), (1, .int v1), (3, .int v3)]) C 3 dX6_bubbleUp_52 rfl rfl (by decide) rfl ?_
        refine x_iinc (v := v3 + 1) (lv' := [(3, .int (v3 + 1)), (2, .int (v2 + 1)), (4, .int (M.1 8 (v3 - (1 : Int32)).toNatClampNeg)), (0, .ref (xad G 0)), (1, .int v1)]) C 4 dX6_bubbleUp_55 rfl rfl (by decide) rfl ?_
        refine x_goto C 4 dX6_bubbleUp_58 (by decide) ?_
        refine x_sub [3, 4, 1, 0] rfl ?_
        exact ih (v2 + 1) (v3 + 1) M10 _ _ hf
set_option maxHeartbeats 4000000 in
set_option maxRecDepth 100000 in
theorem t_X6_bubbleUp {l : Launch} {G : xG} {ta : Nat × Nat} {M : xM} {a1 : Int32} {out : Int32 × xM} (hf : f_X6_bubbleUp a1 M = some out) : xMet G l yX6_bubbleUp wsX6_bubbleUp (rm_X6_bubbleUp 0 0) 0 0 ta M [.ref (xad G 0), .int a1] (some (.int out.1)) out.2 := by
  refine x_met (cc := cX6_bubbleUp) (nL := 5) (ret := some .int) (by decide) rfl (Nat.le_of_ble_eq_true rfl) ?_
  intro p e s m args below meth c C hr hlk
  have C : xC G p s m args c cX6_bubbleUp 5 wsX6_bubbleUp RX6 := C
  have i8 : ∀ w ∈ wsX60, w ∈ wsX6_bubbleUp := by decide +kernel
  unfold f_X6_bubbleUp at hf
  show xW G p l e (rm_X6_bubbleUp 0 0) s m args below meth c 5 (MQ below (xQr G (some (.int out.1)) out.2) args s 0 0 (xAs G)) 0 0 ta M 0 [(0, .ref (xad G 0)), (1, .int a1)] []
  refine x_iconst (v := 0) C dX6_bubbleUp_0 (by decide) ?_
  refine x_istore_n (lv' := [(2, .int (0 : Int32)), (0, .ref (xad G 0)), (1, .int a1)]) C dX6_bubbleUp_1 rfl (by decide) rfl ?_
  refine x_iconst (v := 1) C dX6_bubbleUp_2 (by decide) ?_
  refine x_istore_n (lv' := [(3, .int (1 : Int32)), (2, .int (0 : Int32)), (0, .ref (xad G 0)), (1, .int a1)]) C dX6_bubbleUp_3 rfl (by decide) rfl ?_
  refine x_sub [2, 3, 1, 0] rfl ?_
  exact t_X6_bubbleUp_L4 C hr hlk xF (0 : Int32) (1 : Int32) M _ _ hf
/-! WaitingRoomSimulation.inversionsByBubbleSort()I -/
abbrev rm_X6_inversionsByBubbleSort (c s : Nat) : Room := { frames := 1, cells := c, slots := s, locals := 24 }
def f_X6_inversionsByBubbleSort_L43 : Nat → Int32 → Int32 → xM → Option (Int32 × xM)
  | 0, _, _, _ => none
  | n+1, v1, v2, M => (if v2 ≤ (1 : Int32) then some (v1, M) else (f_X6_bubbleUp v2 M).bind fun q5 => f_X6_inversionsByBubbleSort_L43 n (v1 + q5.1) (v2 + (-1)) q5.2)
def f_X6_inversionsByBubbleSort_L2 : Nat → Int32 → xM → Option (Int32 × xM)
  | 0, _, _ => none
  | n+1, v1, M => if xkd (M.2.1 0 0) = 5 then (if (M.1 (M.2.1 0 0) 3) ≤ v1 then if xkd (M.2.1 0 0) = 5 then f_X6_inversionsByBubbleSort_L43 xF (0 : Int32) (M.1 (M.2.1 0 0) 3) M else none else if xkd (M.2.1 0 0) = 5 then (f_X3_ticketAt (M.2.1 0 0) v1 M).bind fun q8 => if x_in v1 12 = true then x_let (sI M 8 v1.toNatClampNeg q8) fun M11 => f_X6_inversionsByBubbleSort_L2 n (v1 + 1) M11 else none else none) else none
def f_X6_inversionsByBubbleSort (M : xM) : Option (Int32 × xM) := f_X6_inversionsByBubbleSort_L2 xF (0 : Int32) M
set_option maxHeartbeats 4000000 in
set_option maxRecDepth 100000 in
theorem t_X6_inversionsByBubbleSort_L43 {G : xG} {p : Program} {l : Launch} {e : Env} {s : State} {m : MethodId} {args : Array Value} {below : List Frame} {meth : Method} {c : Code} (C : xC G p s m args c cX6_inversionsByBubbleSort 3 wsX6_inversionsByBubbleSort RX6) (hr : meth.sig.returnType = some .int) (hlk : meth.locks = false) : ∀ (n : Nat) (v1 : Int32) (v2 : Int32) (M : xM) (ta : Nat × Nat) (out : Int32 × xM), f_X6_inversionsByBubbleSort_L43 n v1 v2 M = some out → xW G p l e (rm_X6_inversionsByBubbleSort 0 0) s m args below meth c 3 (MQ below (xQr G (some (.int out.1)) out.2) args s 0 0 (xAs G)) 0 0 ta M 43 [(0, .ref (xad G 0)), (1, .int v1), (2, .int v2)] [] := by
  intro n
  induction n with
  | zero =>
    intro v1 v2 M ta out hf
    rw [f_X6_inversionsByBubbleSort_L43] at hf
    cases hf
  | succ n ih =>
    intro v1 v2 M ta out hf
    rw [f_X6_inversionsByBubbleSort_L43] at hf
    have i5 : ∀ w ∈ wsX30, w ∈ wsX6_inversionsByBubbleSort := by decide +kernel
    have i8 : ∀ w ∈ wsX60, w ∈ wsX6_inversionsByBubbleSort := by decide +kernel
    refine x_iload_n C 2 dX6_inversionsByBubbleSort_43 rfl ?_
    refine x_iconst (v := 1) C dX6_inversionsByBubbleSort_44 (by decide) ?_
    refine x_icmp_le C 62 dX6_inversionsByBubbleSort_45 (by decide) (fun hc4 => ?_) (fun hc4 => ?_)
    · have hf := x_ip hc4 hf
      refine x_iload_n C 1 dX6_inversionsByBubbleSort_62 rfl ?_
      obtain rfl := Option.some.inj hf
      exact x_iret C hr hlk dX6_inversionsByBubbleSort_63
    · have hf := x_ine hc4 hf
      refine x_iload_n C 1 dX6_inversionsByBubbleSort_48 rfl ?_
      refine x_aload_n C 0 dX6_inversionsByBubbleSort_49 rfl ?_
      refine x_iload_n C 2 dX6_inversionsByBubbleSort_50 rfl ?_
      obtain ⟨q5, hg, hf⟩ := x_bd hf
      refine x_callVr C (by rw [xkd_0]; decide) (by rw [xkd_0]; decide) (xc8 xkd_0) rfl (t_X6_bubbleUp hg) (cwV 1 C.1.2.2.2.2 gX6_inversionsByBubbleSort_X6_bubbleUp rfl rfl rfl (by decide +kernel) ⟨Nat.le_of_ble_eq_true rfl, Nat.le_of_ble_eq_true rfl⟩) rfl rfl (Nat.le_of_ble_eq_true rfl) dX6_inversionsByBubbleSort_51 ⟨Nat.zero_le _, Nat.zero_le _⟩ (fun ta6 => ?_)
      clear hg
      refine x_iadd C dX6_inversionsByBubbleSort_54 ?_
      refine x_istore_n (lv' := [(1, .int (v1 + q5.1)), (0, .ref (xad G 0)), (2, .int v2)]) C dX6_inversionsByBubbleSort_55 rfl (by decide) rfl ?_
      refine x_iinc (v := v2 + (-1)) (lv' := [(2, .int (v2 + (-1))), (1, .int (v1 + q5.1)), (0, .ref (xad G 0))]) C 2 dX6_inversionsByBubbleSort_56 rfl rfl (by decide) rfl ?_
      refine x_goto C 43 dX6_inversionsByBubbleSort_59 (by decide) ?_
      refine x_sub [2, 1, 0] rfl ?_
      exact ih (v1 + q5.1) (v2 + (-1)) q5.2 _ _ hf
set_option maxHeartbeats 4000000 in
set_option maxRecDepth 100000 in
theorem t_X6_inversionsByBubbleSort_L2 {G : xG} {p : Program} {l : Launch} {e : Env} {s : State} {m : MethodId} {args : Array Value} {below : List Frame} {meth : Method} {c : Code} (C : xC G p s m args c cX6_inversionsByBubbleSort 3 wsX6_inversionsByBubbleSort RX6) (hr : meth.sig.returnType = some .int) (hlk : meth.locks = false) : ∀ (n : Nat) (v1 : Int32) (M : xM) (ta : Nat × Nat) (out : Int32 × xM), f_X6_inversionsByBubbleSort_L2 n v1 M = some out → xW G p l e (rm_X6_inversionsByBubbleSort 0 0) s m args below meth c 3 (MQ below (xQr G (some (.int out.1)) out.2) args s 0 0 (xAs G)) 0 0 ta M 2 [(0, .ref (xad G 0)), (1, .int v1)] [] := by
  intro n
  induction n with
  | zero =>
    intro v1 M ta out hf
    rw [f_X6_inversionsByBubbleSort_L2] at hf
    cases hf
  | succ n ih =>
    intro v1 M ta out hf
    rw [f_X6_inversionsByBubbleSort_L2] at hf
    have i5 : ∀ w ∈ wsX30, w ∈ wsX6_inversionsByBubbleSort := by decide +kernel
    have i8 : ∀ w ∈ wsX60, w ∈ wsX6_inversionsByBubbleSort := by decide +kernel
    refine x_iload_n C 1 dX6_inversionsByBubbleSort_2 rfl ?_
    refine x_aload_n C 0 dX6_inversionsByBubbleSort_3 rfl ?_
    obtain ⟨g1, hf⟩ := x_gd hf
    refine x_get8 C xkd_0 i8 0 (by decide) (by decide +kernel) rfl rfl dX6_inversionsByBubbleSort_4 ?_
    refine x_get5 C g1 i5 3 (by decide) (by decide +kernel) rfl rfl dX6_inversionsByBubbleSort_7 ?_
    refine x_icmp_ge C 33 dX6_inversionsByBubbleSort_10 (by decide) (fun hc2 => ?_) (fun hc2 => ?_)
    · have hf := x_ip hc2 hf
      refine x_iconst (v := 0) C dX6_inversionsByBubbleSort_33 (by decide) ?_
      refine x_istore_n (lv' := [(1, .int (0 : Int32)), (0, .ref (xad G 0))]) C dX6_inversionsByBubbleSort_34 rfl (by decide) rfl ?_
      refine x_aload_n C 1 dX6_inversionsByBubbleSort_35 rfl ?_
      obtain ⟨g3, hf⟩ := x_gd hf
      refine x_get8 C xkd_0 i8 0 (by decide) (by decide +kernel) rfl rfl dX6_inversionsByBubbleSort_36 ?_
      refine x_get5 C g3 i5 3 (by decide) (by decide +kernel) rfl rfl dX6_inversionsByBubbleSort_39 ?_
      refine x_istore_n (lv' := [(2, .int (M.1 (M.2.1 0 0) 3)), (1, .int (0 : Int32)), (0, .ref (xad G 0))]) C dX6_inversionsByBubbleSort_42 rfl (by decide) rfl ?_
      refine x_sub [2, 1, 0] rfl ?_
      exact t_X6_inversionsByBubbleSort_L43 C hr hlk xF (0 : Int32) (M.1 (M.2.1 0 0) 3) M _ _ hf
    · have hf := x_ine hc2 hf
      refine x_aload_n C 0 dX6_inversionsByBubbleSort_13 rfl ?_
      refine x_get8 C xkd_0 i8 10 (by decide) (by decide +kernel) rfl rfl dX6_inversionsByBubbleSort_14 ?_
      refine x_iload_n C 1 dX6_inversionsByBubbleSort_17 rfl ?_
      refine x_aload_n C 0 dX6_inversionsByBubbleSort_18 rfl ?_
      obtain ⟨g7, hf⟩ := x_gd hf
      refine x_get8 C xkd_0 i8 0 (by decide) (by decide +kernel) rfl rfl dX6_inversionsByBubbleSort_19 ?_
      refine x_iload_n C 1 dX6_inversionsByBubbleSort_22 rfl ?_
      obtain ⟨q8, hg, hf⟩ := x_bd hf
      refine x_callVr C (by rw [g7]; decide) (by rw [g7]; decide) (xc5 g7) rfl (t_X3_ticketAt g7 hg) (cwV 1 C.1.2.2.2.2 gX6_inversionsByBubbleSort_X3_ticketAt rfl rfl rfl (by decide +kernel) ⟨Nat.le_of_ble_eq_true rfl, Nat.le_of_ble_eq_true rfl⟩) rfl rfl (Nat.le_of_ble_eq_true rfl) dX6_inversionsByBubbleSort_23 ⟨Nat.zero_le _, Nat.zero_le _⟩ (fun ta9 => ?_)
      clear hg
      obtain ⟨g10, hf⟩ := x_gd hf
      refine x_iast C xkd_8 xl_8 g10 dX6_inversionsByBubbleSort_26 ?_
      obtain ⟨M11, e12, hf⟩ := x_lt hf
      rw [← e12]
      clear e12
      refine x_iinc (v := v1 + 1) (lv' := [(1, .int (v1 + 1)), (0, .ref (xad G 0))]) C 1 dX6_inversionsByBubbleSort_27 rfl rfl (by decide) rfl ?_
      refine x_goto C 2 dX6_inversionsByBubbleSort_30 (by decide) ?_
      refine x_sub [1, 0] rfl ?_
      exact ih (v1 + 1) M11 _ _ hf
set_option maxHeartbeats 4000000 in
set_option maxRecDepth 100000 in
theorem t_X6_inversionsByBubbleSort {l : Launch} {G : xG} {ta : Nat × Nat} {M : xM} {out : Int32 × xM} (hf : f_X6_inversionsByBubbleSort M = some out) : xMet G l yX6_inversionsByBubbleSort wsX6_inversionsByBubbleSort (rm_X6_inversionsByBubbleSort 0 0) 0 0 ta M [.ref (xad G 0)] (some (.int out.1)) out.2 := by
  refine x_met (cc := cX6_inversionsByBubbleSort) (nL := 3) (ret := some .int) (by decide) rfl (Nat.le_of_ble_eq_true rfl) ?_
  intro p e s m args below meth c C hr hlk
  have C : xC G p s m args c cX6_inversionsByBubbleSort 3 wsX6_inversionsByBubbleSort RX6 := C
  have i5 : ∀ w ∈ wsX30, w ∈ wsX6_inversionsByBubbleSort := by decide +kernel
  have i8 : ∀ w ∈ wsX60, w ∈ wsX6_inversionsByBubbleSort := by decide +kernel
  unfold f_X6_inversionsByBubbleSort at hf
  show xW G p l e (rm_X6_inversionsByBubbleSort 0 0) s m args below meth c 3 (MQ below (xQr G (some (.int out.1)) out.2) args s 0 0 (xAs G)) 0 0 ta M 0 [(0, .ref (xad G 0))] []
  refine x_iconst (v := 0) C dX6_inversionsByBubbleSort_0 (by decide) ?_
  refine x_istore_n (lv' := [(1, .int (0 : Int32)), (0, .ref (xad G 0))]) C dX6_inversionsByBubbleSort_1 rfl (by decide) rfl ?_
  refine x_sub [1, 0] rfl ?_
  exact t_X6_inversionsByBubbleSort_L2 C hr hlk xF (0 : Int32) M _ _ hf
/-! WaitingRoomSimulation.predictMinutesUntilWindow(I)I -/
abbrev rm_X6_predictMinutesUntilWindow (c s : Nat) : Room := { frames := 4, cells := c, slots := s, locals := 92 }
def f_X6_predictMinutesUntilWindow_L26 (v2 : Int32) : Nat → Int32 → xM → Option (Int32 × xM)
  | 0, _, _ => none
  | n+1, v3, M => (if (60 : Int32) < v3 then some ((-1 : Int32), M) else if xkd (M.2.1 0 1) = 5 then (f_X3_customerWithTicket (M.2.1 0 1) v2 M).bind fun q10 => (if q10 = (-1 : Int32) then some ((-1 : Int32), M) else if xkd (M.2.1 0 1) = 5 then (f_X3_windowOf (M.2.1 0 1) q10 M).bind fun q14 => (if q14 = (-1 : Int32) then if xkd (M.2.1 0 1) = 5 then (f_X3_passMinute (M.2.1 0 1) M).bind fun q18 => f_X6_predictMinutesUntilWindow_L26 v2 n (v3 + 1) q18 else none else some (v3, M)) else none) else none)
def f_X6_predictMinutesUntilWindow (a1 : Int32) (M : xM) : Option (Int32 × xM) := if xkd (M.2.1 0 0) = 5 then if x_in a1 12 = true then if xkd (M.2.1 ((M.2.1 0 0) + 1) a1.toNatClampNeg) = 4 then if xkd (M.2.1 0 1) = 5 then if xkd (M.2.1 0 0) = 5 then (f_X3_copyFrom (M.2.1 0 1) (M.2.1 0 0) M).bind fun q6 => f_X6_predictMinutesUntilWindow_L26 (M.1 (M.2.1 ((M.2.1 0 0) + 1) a1.toNatClampNeg) 0) xF (0 : Int32) q6 else none else none else none else none else none
set_option maxHeartbeats 4000000 in
set_option maxRecDepth 100000 in
theorem t_X6_predictMinutesUntilWindow_L26 {G : xG} {p : Program} {l : Launch} {e : Env} {s : State} {m : MethodId} {args : Array Value} {below : List Frame} {meth : Method} {c : Code} (C : xC G p s m args c cX6_predictMinutesUntilWindow 5 wsX6_predictMinutesUntilWindow RX6) (hr : meth.sig.returnType = some .int) (hlk : meth.locks = false) {v2 : Int32} : ∀ (n : Nat) (v3 : Int32) (M : xM) (ta : Nat × Nat) (out : Int32 × xM), f_X6_predictMinutesUntilWindow_L26 v2 n v3 M = some out → xW G p l e (rm_X6_predictMinutesUntilWindow 0 0) s m args below meth c 5 (MQ below (xQr G (some (.int out.1)) out.2) args s 0 0 (xAs G)) 0 0 ta M 26 [(0, .ref (xad G 0)), (2, .int v2), (3, .int v3)] [] := by
  intro n
  induction n with
  | zero =>
    intro v3 M ta out hf
    rw [f_X6_predictMinutesUntilWindow_L26] at hf
    cases hf
  | succ n ih =>
    intro v3 M ta out hf
    rw [f_X6_predictMinutesUntilWindow_L26] at hf
    have i4 : ∀ w ∈ wsX20, w ∈ wsX6_predictMinutesUntilWindow := by decide +kernel
    have i5 : ∀ w ∈ wsX30, w ∈ wsX6_predictMinutesUntilWindow := by decide +kernel
    have i8 : ∀ w ∈ wsX60, w ∈ wsX6_predictMinutesUntilWindow := by decide +kernel
    refine x_iload_n C 2 dX6_predictMinutesUntilWindow_26 rfl ?_
    refine x_bipush (v := 60) C dX6_predictMinutesUntilWindow_27 (by decide) ?_
    refine x_icmp_gt C 78 dX6_predictMinutesUntilWindow_29 (by decide) (fun hc8 => ?_) (fun hc8 => ?_)
    · have hf := x_ip hc8 hf
      refine x_iconst (v := (-1)) C dX6_predictMinutesUntilWindow_78 (by decide) ?_
      obtain rfl := Option.some.inj hf
      exact x_iret C hr hlk dX6_predictMinutesUntilWindow_79
    · have hf := x_ine hc8 hf
      refine x_aload_n C 0 dX6_predictMinutesUntilWindow_32 rfl ?_
      obtain ⟨g9, hf⟩ := x_gd hf
      refine x_get8 C xkd_0 i8 1 (by decide) (by decide +kernel) rfl rfl dX6_predictMinutesUntilWindow_33 ?_
      refine x_iload_n C 1 dX6_predictMinutesUntilWindow_36 rfl ?_
      obtain ⟨q10, hg, hf⟩ := x_bd hf
      refine x_callVr C (by rw [g9]; decide) (by rw [g9]; decide) (xc5 g9) rfl (t_X3_customerWithTicket g9 hg) (cwV 1 C.1.2.2.2.2 gX6_predictMinutesUntilWindow_X3_customerWithTicket rfl rfl rfl (by decide +kernel) ⟨Nat.le_of_ble_eq_true rfl, Nat.le_of_ble_eq_true rfl⟩) rfl rfl (Nat.le_of_ble_eq_true rfl) dX6_predictMinutesUntilWindow_37 ⟨Nat.zero_le _, Nat.zero_le _⟩ (fun ta11 => ?_)
      clear hg
      refine x_istore (lv' := [(4, .int q10), (0, .ref (xad G 0)), (2, .int v2), (3, .int v3)]) C dX6_predictMinutesUntilWindow_40 (by decide) rfl ?_
      refine x_iload C 0 dX6_predictMinutesUntilWindow_42 rfl ?_
      refine x_iconst (v := (-1)) C dX6_predictMinutesUntilWindow_44 (by decide) ?_
      refine x_icmp_ne C 50 dX6_predictMinutesUntilWindow_45 (by decide) (fun hc12 => ?_) (fun hc12 => ?_)
      · have hf := x_ine hc12 hf
        refine x_aload_n C 1 dX6_predictMinutesUntilWindow_50 rfl ?_
        obtain ⟨g13, hf⟩ := x_gd hf
        refine x_get8 C xkd_0 i8 1 (by decide) (by decide +kernel) rfl rfl dX6_predictMinutesUntilWindow_51 ?_
        refine x_iload C 0 dX6_predictMinutesUntilWindow_54 rfl ?_
        obtain ⟨q14, hg, hf⟩ := x_bd hf
        refine x_callVr C (by rw [g13]; decide) (by rw [g13]; decide) (xc5 g13) rfl (t_X3_windowOf g13 hg) (cwV 1 C.1.2.2.2.2 gX6_predictMinutesUntilWindow_X3_windowOf rfl rfl rfl (by decide +kernel) ⟨Nat.le_of_ble_eq_true rfl, Nat.le_of_ble_eq_true rfl⟩) rfl rfl (Nat.le_of_ble_eq_true rfl) dX6_predictMinutesUntilWindow_56 ⟨Nat.zero_le _, Nat.zero_le _⟩ (fun ta15 => ?_)
        clear hg
        refine x_iconst (v := (-1)) C dX6_predictMinutesUntilWindow_59 (by decide) ?_
        refine x_icmp_eq C 65 dX6_predictMinutesUntilWindow_60 (by decide) (fun hc16 => ?_) (fun hc16 => ?_)
        · have hf := x_ip hc16 hf
          refine x_aload_n C 1 dX6_predictMinutesUntilWindow_65 rfl ?_
          obtain ⟨g17, hf⟩ := x_gd hf
          refine x_get8 C xkd_0 i8 1 (by decide) (by decide +kernel) rfl rfl dX6_predictMinutesUntilWindow_66 ?_
          obtain ⟨q18, hg, hf⟩ := x_bd hf
          refine x_callVv C (by rw [g17]; decide) (by rw [g17]; decide) (xc5 g17) rfl (t_X3_passMinute g17 hg) (cwV 0 C.1.2.2.2.2 gX6_predictMinutesUntilWindow_X3_passMinute rfl rfl rfl (by decide +kernel) ⟨Nat.le_of_ble_eq_true rfl, Nat.le_of_ble_eq_true rfl⟩) rfl rfl (Nat.le_of_ble_eq_true rfl) dX6_predictMinutesUntilWindow_69 ⟨Nat.zero_le _, Nat.zero_le _⟩ (fun ta19 => ?_)
          clear hg
          refine x_iinc (v := v3 + 1) (lv' := [(3, .int (v3 + 1)), (4, .int q10), (0, .ref (xad G 0)), (2, .int v2)]) C 3 dX6_predictMinutesUntilWindow_72 rfl rfl (by decide) rfl ?_
          refine x_goto C 26 dX6_predictMinutesUntilWindow_75 (by decide) ?_
          refine x_sub [2, 3, 0] rfl ?_
          exact ih (v3 + 1) q18 _ _ hf
        · have hf := x_ine hc16 hf
          refine x_iload_n C 3 dX6_predictMinutesUntilWindow_63 rfl ?_
          obtain rfl := Option.some.inj hf
          exact x_iret C hr hlk dX6_predictMinutesUntilWindow_64
      · have hf := x_ip hc12 hf
        refine x_iconst (v := (-1)) C dX6_predictMinutesUntilWindow_48 (by decide) ?_
        obtain rfl := Option.some.inj hf
        exact x_iret C hr hlk dX6_predictMinutesUntilWindow_49
set_option maxHeartbeats 4000000 in
set_option maxRecDepth 100000 in
theorem t_X6_predictMinutesUntilWindow {l : Launch} {G : xG} {ta : Nat × Nat} {M : xM} {a1 : Int32} {out : Int32 × xM} (hf : f_X6_predictMinutesUntilWindow a1 M = some out) : xMet G l yX6_predictMinutesUntilWindow wsX6_predictMinutesUntilWindow (rm_X6_predictMinutesUntilWindow 0 0) 0 0 ta M [.ref (xad G 0), .int a1] (some (.int out.1)) out.2 := by
  refine x_met (cc := cX6_predictMinutesUntilWindow) (nL := 5) (ret := some .int) (by decide) rfl (Nat.le_of_ble_eq_true rfl) ?_
  intro p e s m args below meth c C hr hlk
  have C : xC G p s m args c cX6_predictMinutesUntilWindow 5 wsX6_predictMinutesUntilWindow RX6 := C
  have i4 : ∀ w ∈ wsX20, w ∈ wsX6_predictMinutesUntilWindow := by decide +kernel
  have i5 : ∀ w ∈ wsX30, w ∈ wsX6_predictMinutesUntilWindow := by decide +kernel
  have i8 : ∀ w ∈ wsX60, w ∈ wsX6_predictMinutesUntilWindow := by decide +kernel
  unfold f_X6_predictMinutesUntilWindow at hf
  show xW G p l e (rm_X6_predictMinutesUntilWindow 0 0) s m args below meth c 5 (MQ below (xQr G (some (.int out.1)) out.2) args s 0 0 (xAs G)) 0 0 ta M 0 [(0, .ref (xad G 0)), (1, .int a1)] []
  refine x_aload_n C 0 dX6_predictMinutesUntilWindow_0 rfl ?_
  obtain ⟨g1, hf⟩ := x_gd hf
  refine x_get8 C xkd_0 i8 0 (by decide) (by decide +kernel) rfl rfl dX6_predictMinutesUntilWindow_1 ?_
  refine x_get5 C g1 i5 0 (by decide) (by decide +kernel) rfl rfl dX6_predictMinutesUntilWindow_4 ?_
  refine x_iload_n C 1 dX6_predictMinutesUntilWindow_7 rfl ?_
  obtain ⟨g2, hf⟩ := x_gd hf
  obtain ⟨g3, hf⟩ := x_gd hf
  refine x_aald23 C (x5_k1 g1) (x5_l1 g1) g2 dX6_predictMinutesUntilWindow_8 ?_
  refine x_get4 C g3 i4 0 (by decide) (by decide +kernel) rfl rfl dX6_predictMinutesUntilWindow_9 ?_
  refine x_istore_n (lv' := [(2, .int (M.1 (M.2.1 ((M.2.1 0 0) + 1) a1.toNatClampNeg) 0)), (0, .ref (xad G 0)), (1, .int a1)]) C dX6_predictMinutesUntilWindow_12 rfl (by decide) rfl ?_
  refine x_aload_n C 1 dX6_predictMinutesUntilWindow_13 rfl ?_
  obtain ⟨g4, hf⟩ := x_gd hf
  refine x_get8 C xkd_0 i8 1 (by decide) (by decide +kernel) rfl rfl dX6_predictMinutesUntilWindow_14 ?_
  refine x_aload_n C 1 dX6_predictMinutesUntilWindow_17 rfl ?_
  obtain ⟨g5, hf⟩ := x_gd hf
  refine x_get8 C xkd_0 i8 0 (by decide) (by decide +kernel) rfl rfl dX6_predictMinutesUntilWindow_18 ?_
  obtain ⟨q6, hg, hf⟩ := x_bd hf
  refine x_callVv C (by rw [g4]; decide) (by rw [g4]; decide) (xc5 g4) rfl (t_X3_copyFrom g4 g5 hg) (cwV 1 C.1.2.2.2.2 gX6_predictMinutesUntilWindow_X3_copyFrom rfl rfl rfl (by decide +kernel) ⟨Nat.le_of_ble_eq_true rfl, Nat.le_of_ble_eq_true rfl⟩) rfl rfl (Nat.le_of_ble_eq_true rfl) dX6_predictMinutesUntilWindow_21 ⟨Nat.zero_le _, Nat.zero_le _⟩ (fun ta7 => ?_)
  clear hg
  refine x_iconst (v := 0) C dX6_predictMinutesUntilWindow_24 (by decide) ?_
  refine x_istore_n (lv' := [(3, .int (0 : Int32)), (2, .int (M.1 (M.2.1 ((M.2.1 0 0) + 1) a1.toNatClampNeg) 0)), (0, .ref (xad G 0)), (1, .int a1)]) C dX6_predictMinutesUntilWindow_25 rfl (by decide) rfl ?_
  refine x_sub [2, 1, 0] rfl ?_
  exact t_X6_predictMinutesUntilWindow_L26 C hr hlk xF (0 : Int32) q6 _ _ hf
/-! WaitingRoomSimulation.minutesUntilWindow(I)I -/
abbrev rm_X6_minutesUntilWindow (c s : Nat) : Room := { frames := 9, cells := c, slots := s, locals := 221 }
def f_X6_minutesUntilWindow (a1 : Int32) (M : xM) : Option ((Int32 ⊕ String) × xM) := (f_X6_requireCustomer a1 M).bind fun q1 => x_case q1 (fun r3 => (f_X6_predictMinutesUntilWindow a1 M).bind fun q5 => (if q5.1 = (-1 : Int32) then some (.inr "java/util/NoSuchElementException", q5.2) else some (.inl q5.1, q5.2))) (fun E4 => some (.inr E4, M))
set_option maxHeartbeats 4000000 in
set_option maxRecDepth 100000 in
theorem t_X6_minutesUntilWindow {l : Launch} {G : xG} {ta : Nat × Nat} {M : xM} {a1 : Int32} {out : (Int32 ⊕ String) × xM} (hfl : l.stackTraces = false) (hf : f_X6_minutesUntilWindow a1 M = some out) : xMetX G l yX6_minutesUntilWindow wsX6_minutesUntilWindow (rm_X6_minutesUntilWindow (xoc out.1) (xos out.1)) (xoc out.1) (xos out.1) ta M [.ref (xad G 0), .int a1] (xo xoI out.1) out.2 := by
  refine x_metX (cc := cX6_minutesUntilWindow) (nL := 3) (ret := some .int) (by decide) rfl (Nat.le_of_ble_eq_true rfl) ?_
  intro p e s m args below meth c C hr hlk htb
  have C : xC G p s m args c cX6_minutesUntilWindow 3 wsX6_minutesUntilWindow RX6 := C
  unfold f_X6_minutesUntilWindow at hf
  show xW G p l e (rm_X6_minutesUntilWindow (xoc out.1) (xos out.1)) s m args below meth c 3 (vx_MQ below (xQx G (xo xoI out.1) out.2) (xXc G (xo xoI out.1) out.2) args s (xoc out.1) (xos out.1) (xAs G)) 0 0 ta M 0 [(0, .ref (xad G 0)), (1, .int a1)] []
  refine x_aload_n C 0 dX6_minutesUntilWindow_0 rfl ?_
  refine x_iload_n C 1 dX6_minutesUntilWindow_1 rfl ?_
  obtain ⟨q1, hg, hf⟩ := x_bd hf
  rcases q1 with r3 | E4
  · have hf := x_ci hf
    refine x_callVXv (mc := 0) (ms := 0) C (by rw [xkd_0]; decide) (by rw [xkd_0]; decide) (xc8 xkd_0) rfl (t_X6_requireCustomer hfl hg) (cwV 1 C.1.2.2.2.2 gX6_minutesUntilWindow_X6_requireCustomer rfl rfl rfl (by decide +kernel) ⟨Nat.le_of_ble_eq_true rfl, Nat.le_of_ble_eq_true rfl⟩) rfl rfl (Nat.le_of_ble_eq_true rfl) dX6_minutesUntilWindow_2 ⟨Nat.zero_le _, Nat.zero_le _⟩ (fun ta2 => ?_)
    clear hg
    refine x_aload_n C 0 dX6_minutesUntilWindow_5 rfl ?_
    refine x_iload_n C 1 dX6_minutesUntilWindow_6 rfl ?_
    obtain ⟨q5, hg, hf⟩ := x_bd hf
    refine x_callVr C (by rw [xkd_0]; decide) (by rw [xkd_0]; decide) (xc8 xkd_0) rfl (t_X6_predictMinutesUntilWindow hg) (cwV 1 C.1.2.2.2.2 gX6_minutesUntilWindow_X6_predictMinutesUntilWindow rfl rfl rfl (by decide +kernel) ⟨Nat.le_of_ble_eq_true rfl, Nat.le_of_ble_eq_true rfl⟩) rfl rfl (Nat.le_of_ble_eq_true rfl) dX6_minutesUntilWindow_7 ⟨Nat.zero_le _, Nat.zero_le _⟩ (fun ta6 => ?_)
    clear hg
    refine x_istore_n (lv' := [(2, .int q5.1), (0, .ref (xad G 0)), (1, .int a1)]) C dX6_minutesUntilWindow_10 rfl (by decide) rfl ?_
    refine x_iload_n C 0 dX6_minutesUntilWindow_11 rfl ?_
    refine x_iconst (v := (-1)) C dX6_minutesUntilWindow_12 (by decide) ?_
    refine x_icmp_ne C 26 dX6_minutesUntilWindow_13 (by decide) (fun hc7 => ?_) (fun hc7 => ?_)
    · have hf := x_ine hc7 hf
      refine x_iload_n C 0 dX6_minutesUntilWindow_26 rfl ?_
      obtain rfl := Option.some.inj hf
      refine x_ret ?_
      exact x_iret C hr hlk dX6_minutesUntilWindow_27
    · have hf := x_ip hc7 hf
      obtain rfl := Option.some.inj hf
      exact x_nthrow C hfl hlk htb (cls := "java/util/NoSuchElementException") (names := ["java/lang/RuntimeException", "java/lang/Exception"]) (ik := 121) (is := 230) (ic := 125) (text := "the customer does not come to a window in time") (by decide +kernel) (by decide +kernel) (by decide +kernel) (by decide +kernel) (by decide +kernel) (by decide +kernel) (by decide +kernel) dX6_minutesUntilWindow_16 dX6_minutesUntilWindow_19 dX6_minutesUntilWindow_20 dX6_minutesUntilWindow_22 dX6_minutesUntilWindow_25 (Nat.le_of_ble_eq_true rfl) (Nat.le_of_ble_eq_true rfl) (Nat.le_of_ble_eq_true rfl) (Nat.le_of_ble_eq_true rfl) (Nat.le_of_ble_eq_true rfl) (Nat.le_of_ble_eq_true rfl)
  · have hf := x_cx hf
    obtain rfl := Option.some.inj hf
    refine x_callVXt (mc := 1) (ms := 6) C (by rw [xkd_0]; decide) (by rw [xkd_0]; decide) (xc8 xkd_0) rfl (t_X6_requireCustomer hfl hg) (cwV 1 C.1.2.2.2.2 gX6_minutesUntilWindow_X6_requireCustomer rfl rfl rfl (by decide +kernel) ⟨Nat.le_of_ble_eq_true rfl, Nat.le_of_ble_eq_true rfl⟩) rfl rfl (Nat.le_of_ble_eq_true rfl) dX6_minutesUntilWindow_2 ⟨Nat.le_of_ble_eq_true rfl, Nat.le_of_ble_eq_true rfl⟩ (fun ta2 => ?_)
    exact x_out C hlk htb (Nat.le_of_ble_eq_true rfl) (Nat.le_of_ble_eq_true rfl)
/-! WaitingRoomSimulation.requirePredictable(I)V -/
abbrev rm_X6_requirePredictable (c s : Nat) : Room := { frames := 8, cells := c, slots := s, locals := 200 }
def f_X6_requirePredictable (a1 : Int32) (M : xM) : Option ((Unit ⊕ String)) := (if a1 < 0 then some (.inr "java/lang/IllegalArgumentException") else (if a1 ≤ (60 : Int32) then some (.inl ()) else some (.inr "java/lang/IllegalArgumentException")))
set_option maxHeartbeats 4000000 in
set_option maxRecDepth 100000 in
theorem t_X6_requirePredictable {l : Launch} {G : xG} {ta : Nat × Nat} {M : xM} {a1 : Int32} {out : (Unit ⊕ String)} (hfl : l.stackTraces = false) (hf : f_X6_requirePredictable a1 M = some out) : xMetX G l yX6_requirePredictable wsX6_requirePredictable (rm_X6_requirePredictable (xoc out) (xos out)) (xoc out) (xos out) ta M [.int a1] (xo xoU out) M := by
  refine x_metX (cc := cX6_requirePredictable) (nL := 1) (ret := none) (by decide) rfl (Nat.le_of_ble_eq_true rfl) ?_
  intro p e s m args below meth c C hr hlk htb
  have C : xC G p s m args c cX6_requirePredictable 1 wsX6_requirePredictable RX6 := C
  unfold f_X6_requirePredictable at hf
  show xW G p l e (rm_X6_requirePredictable (xoc out) (xos out)) s m args below meth c 1 (vx_MQ below (xQx G (xo xoU out) M) (xXc G (xo xoU out) M) args s (xoc out) (xos out) (xAs G)) 0 0 ta M 0 [(0, .int a1)] []
  refine x_iload_n C 0 dX6_requirePredictable_0 rfl ?_
  refine x_if_lt C 10 dX6_requirePredictable_1 (by decide) (fun hc1 => ?_) (fun hc1 => ?_)
  · have hf := x_ip hc1 hf
    obtain rfl := Option.some.inj hf
    exact x_throw C hfl hlk htb (cls := "java/lang/IllegalArgumentException") (names := ["java/lang/RuntimeException", "java/lang/Exception"]) (ik := 106) (is := 249) (ic := 110) (text := "a prediction reaches 0 to 60 minutes") (by decide +kernel) (by decide +kernel) (by decide +kernel) (by decide +kernel) (by decide +kernel) (by decide +kernel) (by decide +kernel) dX6_requirePredictable_10 dX6_requirePredictable_13 dX6_requirePredictable_14 dX6_requirePredictable_16 dX6_requirePredictable_19 (Nat.le_of_ble_eq_true rfl) (Nat.le_of_ble_eq_true rfl) (Nat.le_of_ble_eq_true rfl) (Nat.le_of_ble_eq_true rfl) (Nat.le_of_ble_eq_true rfl) (Nat.le_of_ble_eq_true rfl)
  · have hf := x_ine hc1 hf
    refine x_iload_n C 0 dX6_requirePredictable_4 rfl ?_
    refine x_bipush (v := 60) C dX6_requirePredictable_5 (by decide) ?_
    refine x_icmp_le C 20 dX6_requirePredictable_7 (by decide) (fun hc2 => ?_) (fun hc2 => ?_)
    · have hf := x_ip hc2 hf
      obtain rfl := Option.some.inj hf
      refine x_ret ?_
      exact x_vret C hr hlk dX6_requirePredictable_20
    · have hf := x_ine hc2 hf
      obtain rfl := Option.some.inj hf
      exact x_throw C hfl hlk htb (cls := "java/lang/IllegalArgumentException") (names := ["java/lang/RuntimeException", "java/lang/Exception"]) (ik := 106) (is := 249) (ic := 110) (text := "a prediction reaches 0 to 60 minutes") (by decide +kernel) (by decide +kernel) (by decide +kernel) (by decide +kernel) (by decide +kernel) (by decide +kernel) (by decide +kernel) dX6_requirePredictable_10 dX6_requirePredictable_13 dX6_requirePredictable_14 dX6_requirePredictable_16 dX6_requirePredictable_19 (Nat.le_of_ble_eq_true rfl) (Nat.le_of_ble_eq_true rfl) (Nat.le_of_ble_eq_true rfl) (Nat.le_of_ble_eq_true rfl) (Nat.le_of_ble_eq_true rfl) (Nat.le_of_ble_eq_true rfl)
/-! WaitingRoomSimulation.predict(I)V -/
abbrev rm_X6_predict (c s : Nat) : Room := { frames := 4, cells := c, slots := s, locals := 92 }
def f_X6_predict_L13 (v1 : Int32) : Nat → Int32 → xM → Option (xM)
  | 0, _, _ => none
  | n+1, v2, M => (if v1 ≤ v2 then some M else if xkd (M.2.1 0 1) = 5 then (f_X3_passMinute (M.2.1 0 1) M).bind fun q7 => f_X6_predict_L13 v1 n (v2 + 1) q7 else none)
def f_X6_predict (a1 : Int32) (M : xM) : Option (xM) := if xkd (M.2.1 0 1) = 5 then if xkd (M.2.1 0 0) = 5 then (f_X3_copyFrom (M.2.1 0 1) (M.2.1 0 0) M).bind fun q3 => f_X6_predict_L13 a1 xF (0 : Int32) q3 else none else none
set_option maxHeartbeats 4000000 in
set_option maxRecDepth 100000 in
theorem t_X6_predict_L13 {G : xG} {p : Program} {l : Launch} {e : Env} {s : State} {m : MethodId} {args : Array Value} {below : List Frame} {meth : Method} {c : Code} (C : xC G p s m args c cX6_predict 3 wsX6_predict RX6) (hr : meth.sig.returnType = none) (hlk : meth.locks = false) {v1 : Int32} : ∀ (n : Nat) (v2 : Int32) (M : xM) (ta : Nat × Nat) (out : xM), f_X6_predict_L13 v1 n v2 M = some out → xW G p l e (rm_X6_predict 0 0) s m args below meth c 3 (MQ below (xQr G none out) args s 0 0 (xAs G)) 0 0 ta M 13 [(0, .ref (xad G 0)), (1, .int v1), (2, .int v2)] [] := by
  intro n
  induction n with
  | zero =>
    intro v2 M ta out hf
    rw [f_X6_predict_L13] at hf
    cases hf
  | succ n ih =>
    intro v2 M ta out hf
    rw [f_X6_predict_L13] at hf
    have i8 : ∀ w ∈ wsX60, w ∈ wsX6_predict := by decide +kernel
    refine x_iload_n C 2 dX6_predict_13 rfl ?_
    refine x_iload_n C 1 dX6_predict_14 rfl ?_
    refine x_icmp_ge C 31 dX6_predict_15 (by decide) (fun hc5 => ?_) (fun hc5 => ?_)
    · have hf := x_ip hc5 hf
      obtain rfl := Option.some.inj hf
      exact x_vret C hr hlk dX6_predict_31
    · have hf := x_ine hc5 hf
      refine x_aload_n C 0 dX6_predict_18 rfl ?_
      obtain ⟨g6, hf⟩ := x_gd hf
      refine x_get8 C xkd_0 i8 1 (by decide) (by decide +kernel) rfl rfl dX6_predict_19 ?_
      obtain ⟨q7, hg, hf⟩ := x_bd hf
      refine x_callVv C (by rw [g6]; decide) (by rw [g6]; decide) (xc5 g6) rfl (t_X3_passMinute g6 hg) (cwV 0 C.1.2.2.2.2 gX6_predict_X3_passMinute rfl rfl rfl (by decide +kernel) ⟨Nat.le_of_ble_eq_true rfl, Nat.le_of_ble_eq_true rfl⟩) rfl rfl (Nat.le_of_ble_eq_true rfl) dX6_predict_22 ⟨Nat.zero_le _, Nat.zero_le _⟩ (fun ta8 => ?_)
      clear hg
      refine x_iinc (v := v2 + 1) (lv' := [(2, .int (v2 + 1)), (0, .ref (xad G 0)), (1, .int v1)]) C 2 dX6_predict_25 rfl rfl (by decide) rfl ?_
      refine x_goto C 13 dX6_predict_28 (by decide) ?_
      refine x_sub [1, 2, 0] rfl ?_
      exact ih (v2 + 1) q7 _ _ hf
set_option maxHeartbeats 4000000 in
set_option maxRecDepth 100000 in
theorem t_X6_predict {l : Launch} {G : xG} {ta : Nat × Nat} {M : xM} {a1 : Int32} {out : xM} (hf : f_X6_predict a1 M = some out) : xMet G l yX6_predict wsX6_predict (rm_X6_predict 0 0) 0 0 ta M [.ref (xad G 0), .int a1] none out := by
  refine x_met (cc := cX6_predict) (nL := 3) (ret := none) (by decide) rfl (Nat.le_of_ble_eq_true rfl) ?_
  intro p e s m args below meth c C hr hlk
  have C : xC G p s m args c cX6_predict 3 wsX6_predict RX6 := C
  have i8 : ∀ w ∈ wsX60, w ∈ wsX6_predict := by decide +kernel
  unfold f_X6_predict at hf
  show xW G p l e (rm_X6_predict 0 0) s m args below meth c 3 (MQ below (xQr G none out) args s 0 0 (xAs G)) 0 0 ta M 0 [(0, .ref (xad G 0)), (1, .int a1)] []
  refine x_aload_n C 0 dX6_predict_0 rfl ?_
  obtain ⟨g1, hf⟩ := x_gd hf
  refine x_get8 C xkd_0 i8 1 (by decide) (by decide +kernel) rfl rfl dX6_predict_1 ?_
  refine x_aload_n C 0 dX6_predict_4 rfl ?_
  obtain ⟨g2, hf⟩ := x_gd hf
  refine x_get8 C xkd_0 i8 0 (by decide) (by decide +kernel) rfl rfl dX6_predict_5 ?_
  obtain ⟨q3, hg, hf⟩ := x_bd hf
  refine x_callVv C (by rw [g1]; decide) (by rw [g1]; decide) (xc5 g1) rfl (t_X3_copyFrom g1 g2 hg) (cwV 1 C.1.2.2.2.2 gX6_predict_X3_copyFrom rfl rfl rfl (by decide +kernel) ⟨Nat.le_of_ble_eq_true rfl, Nat.le_of_ble_eq_true rfl⟩) rfl rfl (Nat.le_of_ble_eq_true rfl) dX6_predict_8 ⟨Nat.zero_le _, Nat.zero_le _⟩ (fun ta4 => ?_)
  clear hg
  refine x_iconst (v := 0) C dX6_predict_11 (by decide) ?_
  refine x_istore_n (lv' := [(2, .int (0 : Int32)), (0, .ref (xad G 0)), (1, .int a1)]) C dX6_predict_12 rfl (by decide) rfl ?_
  refine x_sub [1, 2, 0] rfl ?_
  exact t_X6_predict_L13 C hr hlk xF (0 : Int32) q3 _ _ hf
/-! WaitingRoomSimulation.patienceAfter(II)I -/
abbrev rm_X6_patienceAfter (c s : Nat) : Room := { frames := 9, cells := c, slots := s, locals := 221 }
def f_X6_patienceAfter (a1 : Int32) (a2 : Int32) (M : xM) : Option ((Int32 ⊕ String) × xM) := (f_X6_requireCustomer a1 M).bind fun q1 => x_case q1 (fun r3 => (f_X6_requirePredictable a2 M).bind fun q5 => x_case q5 (fun r7 => (f_X6_predict a2 M).bind fun q9 => if xkd (q9.2.1 0 1) = 5 then if xkd (q9.2.1 0 0) = 5 then if x_in a1 12 = true then if xkd (q9.2.1 ((q9.2.1 0 0) + 1) a1.toNatClampNeg) = 4 then (f_X3_customerWithTicket (q9.2.1 0 1) (q9.1 (q9.2.1 ((q9.2.1 0 0) + 1) a1.toNatClampNeg) 0) q9).bind fun q15 => (if q15 = (-1 : Int32) then some (.inr "java/util/NoSuchElementException", q9) else if xkd (q9.2.1 0 1) = 5 then if x_in q15 12 = true then if xkd (q9.2.1 ((q9.2.1 0 1) + 1) q15.toNatClampNeg) = 4 then some (.inl (q9.1 (q9.2.1 ((q9.2.1 0 1) + 1) q15.toNatClampNeg) 1), q9) else none else none else none) else none else none else none else none) (fun E8 => some (.inr E8, M))) (fun E4 => some (.inr E4, M))
set_option maxHeartbeats 4000000 in
set_option maxRecDepth 100000 in
theorem t_X6_patienceAfter {l : Launch} {G : xG} {ta : Nat × Nat} {M : xM} {a1 : Int32} {a2 : Int32} {out : (Int32 ⊕ String) × xM} (hfl : l.stackTraces = false) (hf : f_X6_patienceAfter a1 a2 M = some out) : xMetX G l yX6_patienceAfter wsX6_patienceAfter (rm_X6_patienceAfter (xoc out.1) (xos out.1)) (xoc out.1) (xos out.1) ta M [.ref (xad G 0), .int a1, .int a2] (xo xoI out.1) out.2 := by
  refine x_metX (cc := cX6_patienceAfter) (nL := 4) (ret := some .int) (by decide) rfl (Nat.le_of_ble_eq_true rfl) ?_
  intro p e s m args below meth c C hr hlk htb
  have C : xC G p s m args c cX6_patienceAfter 4 wsX6_patienceAfter RX6 := C
  have i4 : ∀ w ∈ wsX20, w ∈ wsX6_patienceAfter := by decide +kernel
  have i5 : ∀ w ∈ wsX30, w ∈ wsX6_patienceAfter := by decide +kernel
  have i8 : ∀ w ∈ wsX60, w ∈ wsX6_patienceAfter := by decide +kernel
  unfold f_X6_patienceAfter at hf
  show xW G p l e (rm_X6_patienceAfter (xoc out.1) (xos out.1)) s m args below meth c 4 (vx_MQ below (xQx G (xo xoI out.1) out.2) (xXc G (xo xoI out.1) out.2) args s (xoc out.1) (xos out.1) (xAs G)) 0 0 ta M 0 [(0, .ref (xad G 0)), (1, .int a1), (2, .int a2)] []
  refine x_aload_n C 0 dX6_patienceAfter_0 rfl ?_
  refine x_iload_n C 1 dX6_patienceAfter_1 rfl ?_
  obtain ⟨q1, hg, hf⟩ := x_bd hf
  rcases q1 with r3 | E4
  · have hf := x_ci hf
    refine x_callVXv (mc := 0) (ms := 0) C (by rw [xkd_0]; decide) (by rw [xkd_0]; decide) (xc8 xkd_0) rfl (t_X6_requireCustomer hfl hg) (cwV 1 C.1.2.2.2.2 gX6_patienceAfter_X6_requireCustomer rfl rfl rfl (by decide +kernel) ⟨Nat.le_of_ble_eq_true rfl, Nat.le_of_ble_eq_true rfl⟩) rfl rfl (Nat.le_of_ble_eq_true rfl) dX6_patienceAfter_2 ⟨Nat.zero_le _, Nat.zero_le _⟩ (fun ta2 => ?_)
    clear hg
    refine x_iload_n C 2 dX6_patienceAfter_5 rfl ?_
    obtain ⟨q5, hg, hf⟩ := x_bd hf
    rcases q5 with r7 | E8
    · have hf := x_ci hf
      refine x_callSXv (mc := 0) (ms := 0) C (t_X6_requirePredictable hfl hg) (va_cwS 1 C.1.2.2.2.2 gX6_patienceAfter_X6_requirePredictable rfl rfl rfl (by decide +kernel) ⟨Nat.le_of_ble_eq_true rfl, Nat.le_of_ble_eq_true rfl⟩) rfl rfl (Nat.le_of_ble_eq_true rfl) dX6_patienceAfter_6 ⟨Nat.zero_le _, Nat.zero_le _⟩ (fun ta6 => ?_)
      clear hg
      refine x_aload_n C 0 dX6_patienceAfter_9 rfl ?_
      refine x_iload_n C 2 dX6_patienceAfter_10 rfl ?_
      obtain ⟨q9, hg, hf⟩ := x_bd hf
      refine x_callVv C (by rw [xkd_0]; decide) (by rw [xkd_0]; decide) (xc8 xkd_0) rfl (t_X6_predict hg) (cwV 1 C.1.2.2.2.2 gX6_patienceAfter_X6_predict rfl rfl rfl (by decide +kernel) ⟨Nat.le_of_ble_eq_true rfl, Nat.le_of_ble_eq_true rfl⟩) rfl rfl (Nat.le_of_ble_eq_true rfl) dX6_patienceAfter_11 ⟨Nat.zero_le _, Nat.zero_le _⟩ (fun ta10 => ?_)
      clear hg
      refine x_aload_n C 0 dX6_patienceAfter_14 rfl ?_
      obtain ⟨g11, hf⟩ := x_gd hf
      refine x_get8 C xkd_0 i8 1 (by decide) (by decide +kernel) rfl rfl dX6_patienceAfter_15 ?_
      refine x_aload_n C 0 dX6_patienceAfter_18 rfl ?_
      obtain ⟨g12, hf⟩ := x_gd hf
      refine x_get8 C xkd_0 i8 0 (by decide) (by decide +kernel) rfl rfl dX6_patienceAfter_19 ?_
      refine x_get5 C g12 i5 0 (by decide) (by decide +kernel) rfl rfl dX6_patienceAfter_22 ?_
      refine x_iload_n C 1 dX6_patienceAfter_25 rfl ?_
      obtain ⟨g13, hf⟩ := x_gd hf
      obtain ⟨g14, hf⟩ := x_gd hf
      refine x_aald23 C (x5_k1 g12) (x5_l1 g12) g13 dX6_patienceAfter_26 ?_
      refine x_get4 C g14 i4 0 (by decide) (by decide +kernel) rfl rfl dX6_patienceAfter_27 ?_
      obtain ⟨q15, hg, hf⟩ := x_bd hf
      refine x_callVr C (by rw [g11]; decide) (by rw [g11]; decide) (xc5 g11) rfl (t_X3_customerWithTicket g11 hg) (cwV 1 C.1.2.2.2.2 gX6_patienceAfter_X3_customerWithTicket rfl rfl rfl (by decide +kernel) ⟨Nat.le_of_ble_eq_true rfl, Nat.le_of_ble_eq_true rfl⟩) rfl rfl (Nat.le_of_ble_eq_true rfl) dX6_patienceAfter_30 ⟨Nat.zero_le _, Nat.zero_le _⟩ (fun ta16 => ?_)
      clear hg
      refine x_istore_n (lv' := [(3, .int q15), (0, .ref (xad G 0)), (1, .int a1), (2, .int a2)]) C dX6_patienceAfter_33 rfl (by decide) rfl ?_
      refine x_iload_n C 0 dX6_patienceAfter_34 rfl ?_
      refine x_iconst (v := (-1)) C dX6_patienceAfter_35 (by decide) ?_
      refine x_icmp_ne C 49 dX6_patienceAfter_36 (by decide) (fun hc17 => ?_) (fun hc17 => ?_)
      · have hf := x_ine hc17 hf
        refine x_aload_n C 1 dX6_patienceAfter_49 rfl ?_
        obtain ⟨g18, hf⟩ := x_gd hf
        refine x_get8 C xkd_0 i8 1 (by decide) (by decide +kernel) rfl rfl dX6_patienceAfter_50 ?_
        refine x_get5 C g18 i5 0 (by decide) (by decide +kernel) rfl rfl dX6_patienceAfter_53 ?_
        refine x_iload_n C 0 dX6_patienceAfter_56 rfl ?_
        obtain ⟨g19, hf⟩ := x_gd hf
        obtain ⟨g20, hf⟩ := x_gd hf
        refine x_aald23 C (x5_k1 g18) (x5_l1 g18) g19 dX6_patienceAfter_57 ?_
        refine x_get4 C g20 i4 1 (by decide) (by decide +kernel) rfl rfl dX6_patienceAfter_58 ?_
        obtain rfl := Option.some.inj hf
        refine x_ret ?_
        exact x_iret C hr hlk dX6_patienceAfter_61
      · have hf := x_ip hc17 hf
        obtain rfl := Option.some.inj hf
        exact x_nthrow C hfl hlk htb (cls := "java/util/NoSuchElementException") (names := ["java/lang/RuntimeException", "java/lang/Exception"]) (ik := 121) (is := 244) (ic := 125) (text := "the customer has left the hall by then") (by decide +kernel) (by decide +kernel) (by decide +kernel) (by decide +kernel) (by decide +kernel) (by decide +kernel) (by decide +kernel) dX6_patienceAfter_39 dX6_patienceAfter_42 dX6_patienceAfter_43 dX6_patienceAfter_45 dX6_patienceAfter_48 (Nat.le_of_ble_eq_true rfl) (Nat.le_of_ble_eq_true rfl) (Nat.le_of_ble_eq_true rfl) (Nat.le_of_ble_eq_true rfl) (Nat.le_of_ble_eq_true rfl) (Nat.le_of_ble_eq_true rfl)
    · have hf := x_cx hf
      obtain rfl := Option.some.inj hf
      refine x_callSXt (mc := 1) (ms := 6) C (t_X6_requirePredictable hfl hg) (va_cwS 1 C.1.2.2.2.2 gX6_patienceAfter_X6_requirePredictable rfl rfl rfl (by decide +kernel) ⟨Nat.le_of_ble_eq_true rfl, Nat.le_of_ble_eq_true rfl⟩) rfl rfl (Nat.le_of_ble_eq_true rfl) dX6_patienceAfter_6 ⟨Nat.le_of_ble_eq_true rfl, Nat.le_of_ble_eq_true rfl⟩ (fun ta6 => ?_)
      exact x_out C hlk htb (Nat.le_of_ble_eq_true rfl) (Nat.le_of_ble_eq_true rfl)
  · have hf := x_cx hf
    obtain rfl := Option.some.inj hf
    refine x_callVXt (mc := 1) (ms := 6) C (by rw [xkd_0]; decide) (by rw [xkd_0]; decide) (xc8 xkd_0) rfl (t_X6_requireCustomer hfl hg) (cwV 1 C.1.2.2.2.2 gX6_patienceAfter_X6_requireCustomer rfl rfl rfl (by decide +kernel) ⟨Nat.le_of_ble_eq_true rfl, Nat.le_of_ble_eq_true rfl⟩) rfl rfl (Nat.le_of_ble_eq_true rfl) dX6_patienceAfter_2 ⟨Nat.le_of_ble_eq_true rfl, Nat.le_of_ble_eq_true rfl⟩ (fun ta2 => ?_)
    exact x_out C hlk htb (Nat.le_of_ble_eq_true rfl) (Nat.le_of_ble_eq_true rfl)
/-! WaitingRoomSimulation.sighsWithin(I)I -/
abbrev rm_X6_sighsWithin (c s : Nat) : Room := { frames := 9, cells := c, slots := s, locals := 220 }
def f_X6_sighsWithin (a1 : Int32) (M : xM) : Option ((Int32 ⊕ String) × xM) := (f_X6_requirePredictable a1 M).bind fun q1 => x_case q1 (fun r3 => (f_X6_predict a1 M).bind fun q5 => if xkd (q5.2.1 0 1) = 5 then if xkd (q5.2.1 0 0) = 5 then some (.inl ((q5.1 (q5.2.1 0 1) 13) - (q5.1 (q5.2.1 0 0) 13)), q5) else none else none) (fun E4 => some (.inr E4, M))
set_option maxHeartbeats 4000000 in
set_option maxRecDepth 100000 in
theorem t_X6_sighsWithin {l : Launch} {G : xG} {ta : Nat × Nat} {M : xM} {a1 : Int32} {out : (Int32 ⊕ String) × xM} (hfl : l.stackTraces = false) (hf : f_X6_sighsWithin a1 M = some out) : xMetX G l yX6_sighsWithin wsX6_sighsWithin (rm_X6_sighsWithin (xoc out.1) (xos out.1)) (xoc out.1) (xos out.1) ta M [.ref (xad G 0), .int a1] (xo xoI out.1) out.2 := by
  refine x_metX (cc := cX6_sighsWithin) (nL := 2) (ret := some .int) (by decide) rfl (Nat.le_of_ble_eq_true rfl) ?_
  intro p e s m args below meth c C hr hlk htb
  have C : xC G p s m args c cX6_sighsWithin 2 wsX6_sighsWithin RX6 := C
  have i5 : ∀ w ∈ wsX30, w ∈ wsX6_sighsWithin := by decide +kernel
  have i8 : ∀ w ∈ wsX60, w ∈ wsX6_sighsWithin := by decide +kernel
  unfold f_X6_sighsWithin at hf
  show xW G p l e (rm_X6_sighsWithin (xoc out.1) (xos out.1)) s m args below meth c 2 (vx_MQ below (xQx G (xo xoI out.1) out.2) (xXc G (xo xoI out.1) out.2) args s (xoc out.1) (xos out.1) (xAs G)) 0 0 ta M 0 [(0, .ref (xad G 0)), (1, .int a1)] []
  refine x_iload_n C 1 dX6_sighsWithin_0 rfl ?_
  obtain ⟨q1, hg, hf⟩ := x_bd hf
  rcases q1 with r3 | E4
  · have hf := x_ci hf
    refine x_callSXv (mc := 0) (ms := 0) C (t_X6_requirePredictable hfl hg) (va_cwS 1 C.1.2.2.2.2 gX6_sighsWithin_X6_requirePredictable rfl rfl rfl (by decide +kernel) ⟨Nat.le_of_ble_eq_true rfl, Nat.le_of_ble_eq_true rfl⟩) rfl rfl (Nat.le_of_ble_eq_true rfl) dX6_sighsWithin_1 ⟨Nat.zero_le _, Nat.zero_le _⟩ (fun ta2 => ?_)
    clear hg
    refine x_aload_n C 0 dX6_sighsWithin_4 rfl ?_
    refine x_iload_n C 1 dX6_sighsWithin_5 rfl ?_
    obtain ⟨q5, hg, hf⟩ := x_bd hf
    refine x_callVv C (by rw [xkd_0]; decide) (by rw [xkd_0]; decide) (xc8 xkd_0) rfl (t_X6_predict hg) (cwV 1 C.1.2.2.2.2 gX6_sighsWithin_X6_predict rfl rfl rfl (by decide +kernel) ⟨Nat.le_of_ble_eq_true rfl, Nat.le_of_ble_eq_true rfl⟩) rfl rfl (Nat.le_of_ble_eq_true rfl) dX6_sighsWithin_6 ⟨Nat.zero_le _, Nat.zero_le _⟩ (fun ta6 => ?_)
    clear hg
    refine x_aload_n C 0 dX6_sighsWithin_9 rfl ?_
    obtain ⟨g7, hf⟩ := x_gd hf
    refine x_get8 C xkd_0 i8 1 (by decide) (by decide +kernel) rfl rfl dX6_sighsWithin_10 ?_
    refine x_get5 C g7 i5 13 (by decide) (by decide +kernel) rfl rfl dX6_sighsWithin_13 ?_
    refine x_aload_n C 0 dX6_sighsWithin_16 rfl ?_
    obtain ⟨g8, hf⟩ := x_gd hf
    refine x_get8 C xkd_0 i8 0 (by decide) (by decide +kernel) rfl rfl dX6_sighsWithin_17 ?_
    refine x_get5 C g8 i5 13 (by decide) (by decide +kernel) rfl rfl dX6_sighsWithin_20 ?_
    refine x_isub C dX6_sighsWithin_23 ?_
    obtain rfl := Option.some.inj hf
    refine x_ret ?_
    exact x_iret C hr hlk dX6_sighsWithin_24
  · have hf := x_cx hf
    obtain rfl := Option.some.inj hf
    refine x_callSXt (mc := 1) (ms := 6) C (t_X6_requirePredictable hfl hg) (va_cwS 1 C.1.2.2.2.2 gX6_sighsWithin_X6_requirePredictable rfl rfl rfl (by decide +kernel) ⟨Nat.le_of_ble_eq_true rfl, Nat.le_of_ble_eq_true rfl⟩) rfl rfl (Nat.le_of_ble_eq_true rfl) dX6_sighsWithin_1 ⟨Nat.le_of_ble_eq_true rfl, Nat.le_of_ble_eq_true rfl⟩ (fun ta2 => ?_)
    exact x_out C hlk htb (Nat.le_of_ble_eq_true rfl) (Nat.le_of_ble_eq_true rfl)
/-! WaitingRoomSimulation.requireRemembered(I)V -/
abbrev rm_X6_requireRemembered (c s : Nat) : Room := { frames := 8, cells := c, slots := s, locals := 200 }
def f_X6_requireRemembered (a1 : Int32) (M : xM) : Option ((Unit ⊕ String)) := (if a1 < 0 then some (.inr "java/util/NoSuchElementException") else if xkd (M.2.1 0 0) = 5 then (if a1 < (if (6 : Int32) < (M.1 (M.2.1 0 0) 9) then (6 : Int32) else (M.1 (M.2.1 0 0) 9)) then some (.inl ()) else some (.inr "java/util/NoSuchElementException")) else none)
set_option maxHeartbeats 4000000 in
set_option maxRecDepth 100000 in
theorem t_X6_requireRemembered {l : Launch} {G : xG} {ta : Nat × Nat} {M : xM} {a1 : Int32} {out : (Unit ⊕ String)} (hfl : l.stackTraces = false) (hf : f_X6_requireRemembered a1 M = some out) : xMetX G l yX6_requireRemembered wsX6_requireRemembered (rm_X6_requireRemembered (xoc out) (xos out)) (xoc out) (xos out) ta M [.ref (xad G 0), .int a1] (xo xoU out) M := by
  refine x_metX (cc := cX6_requireRemembered) (nL := 2) (ret := none) (by decide) rfl (Nat.le_of_ble_eq_true rfl) ?_
  intro p e s m args below meth c C hr hlk htb
  have C : xC G p s m args c cX6_requireRemembered 2 wsX6_requireRemembered RX6 := C
  have i5 : ∀ w ∈ wsX30, w ∈ wsX6_requireRemembered := by decide +kernel
  have i8 : ∀ w ∈ wsX60, w ∈ wsX6_requireRemembered := by decide +kernel
  unfold f_X6_requireRemembered at hf
  show xW G p l e (rm_X6_requireRemembered (xoc out) (xos out)) s m args below meth c 2 (vx_MQ below (xQx G (xo xoU out) M) (xXc G (xo xoU out) M) args s (xoc out) (xos out) (xAs G)) 0 0 ta M 0 [(0, .ref (xad G 0)), (1, .int a1)] []
  refine x_iload_n C 1 dX6_requireRemembered_0 rfl ?_
  refine x_if_lt C 20 dX6_requireRemembered_1 (by decide) (fun hc1 => ?_) (fun hc1 => ?_)
  · have hf := x_ip hc1 hf
    obtain rfl := Option.some.inj hf
    exact x_nthrowSW C hfl hlk htb (cls := "java/util/NoSuchElementException") (names := ["java/lang/RuntimeException", "java/lang/Exception"]) (ik := 121) (is := 268) (ic := 125) (text := "no such served customer is remembered") (by decide +kernel) (by decide +kernel) (by decide +kernel) (by decide +kernel) (by decide +kernel) (by decide +kernel) (by decide +kernel) dX6_requireRemembered_20 dX6_requireRemembered_23 dX6_requireRemembered_24 dX6_requireRemembered_27 dX6_requireRemembered_30 (Nat.le_of_ble_eq_true rfl) (Nat.le_of_ble_eq_true rfl) (Nat.le_of_ble_eq_true rfl) (Nat.le_of_ble_eq_true rfl) (Nat.le_of_ble_eq_true rfl) (Nat.le_of_ble_eq_true rfl)
  · have hf := x_ine hc1 hf
    refine x_iload_n C 1 dX6_requireRemembered_4 rfl ?_
    refine x_aload_n C 0 dX6_requireRemembered_5 rfl ?_
    obtain ⟨g2, hf⟩ := x_gd hf
    refine x_get8 C xkd_0 i8 0 (by decide) (by decide +kernel) rfl rfl dX6_requireRemembered_6 ?_
    refine x_get5 C g2 i5 9 (by decide) (by decide +kernel) rfl rfl dX6_requireRemembered_9 ?_
    refine x_bipush (v := 6) C dX6_requireRemembered_12 (by decide) ?_
    refine x_mmin C (by decide +kernel) (by decide +kernel) (by decide +kernel) (by decide +kernel) ⟨Nat.le_of_ble_eq_true rfl, Nat.le_of_ble_eq_true rfl⟩ ⟨Nat.zero_le _, Nat.zero_le _⟩ dX6_requireRemembered_14 ?_
    refine x_icmp_lt C 31 dX6_requireRemembered_17 (by decide) (fun hc3 => ?_) (fun hc3 => ?_)
    · have hf := x_ip hc3 hf
      obtain rfl := Option.some.inj hf
      refine x_ret ?_
      exact x_vret C hr hlk dX6_requireRemembered_31
    · have hf := x_ine hc3 hf
      obtain rfl := Option.some.inj hf
      exact x_nthrowSW C hfl hlk htb (cls := "java/util/NoSuchElementException") (names := ["java/lang/RuntimeException", "java/lang/Exception"]) (ik := 121) (is := 268) (ic := 125) (text := "no such served customer is remembered") (by decide +kernel) (by decide +kernel) (by decide +kernel) (by decide +kernel) (by decide +kernel) (by decide +kernel) (by decide +kernel) dX6_requireRemembered_20 dX6_requireRemembered_23 dX6_requireRemembered_24 dX6_requireRemembered_27 dX6_requireRemembered_30 (Nat.le_of_ble_eq_true rfl) (Nat.le_of_ble_eq_true rfl) (Nat.le_of_ble_eq_true rfl) (Nat.le_of_ble_eq_true rfl) (Nat.le_of_ble_eq_true rfl) (Nat.le_of_ble_eq_true rfl)
/-! WaitingRoomSimulation.servedTicket(I)I -/
abbrev rm_X6_servedTicket (c s : Nat) : Room := { frames := 9, cells := c, slots := s, locals := 221 }
def f_X6_servedTicket (a1 : Int32) (M : xM) : Option ((Int32 ⊕ String)) := (f_X6_requireRemembered a1 M).bind fun q1 => x_case q1 (fun r3 => if xkd (M.2.1 0 0) = 5 then if x_in a1 6 = true then some (.inl (M.1 ((M.2.1 0 0) + 4) a1.toNatClampNeg)) else none else none) (fun E4 => some (.inr E4))
set_option maxHeartbeats 4000000 in
set_option maxRecDepth 100000 in
theorem t_X6_servedTicket {l : Launch} {G : xG} {ta : Nat × Nat} {M : xM} {a1 : Int32} {out : (Int32 ⊕ String)} (hfl : l.stackTraces = false) (hf : f_X6_servedTicket a1 M = some out) : xMetX G l yX6_servedTicket wsX6_servedTicket (rm_X6_servedTicket (xoc out) (xos out)) (xoc out) (xos out) ta M [.ref (xad G 0), .int a1] (xo xoI out) M := by
  refine x_metX (cc := cX6_servedTicket) (nL := 2) (ret := some .int) (by decide) rfl (Nat.le_of_ble_eq_true rfl) ?_
  intro p e s m args below meth c C hr hlk htb
  have C : xC G p s m args c cX6_servedTicket 2 wsX6_servedTicket RX6 := C
  have i5 : ∀ w ∈ wsX30, w ∈ wsX6_servedTicket := by decide +kernel
  have i8 : ∀ w ∈ wsX60, w ∈ wsX6_servedTicket := by decide +kernel
  unfold f_X6_servedTicket at hf
  show xW G p l e (rm_X6_servedTicket (xoc out) (xos out)) s m args below meth c 2 (vx_MQ below (xQx G (xo xoI out) M) (xXc G (xo xoI out) M) args s (xoc out) (xos out) (xAs G)) 0 0 ta M 0 [(0, .ref (xad G 0)), (1, .int a1)] []
  refine x_aload_n C 0 dX6_servedTicket_0 rfl ?_
  refine x_iload_n C 1 dX6_servedTicket_1 rfl ?_
  obtain ⟨q1, hg, hf⟩ := x_bd hf
  rcases q1 with r3 | E4
  · have hf := x_ci hf
    refine x_callVXv (mc := 0) (ms := 0) C (by rw [xkd_0]; decide) (by rw [xkd_0]; decide) (xc8 xkd_0) rfl (t_X6_requireRemembered hfl hg) (cwV 1 C.1.2.2.2.2 gX6_servedTicket_X6_requireRemembered rfl rfl rfl (by decide +kernel) ⟨Nat.le_of_ble_eq_true rfl, Nat.le_of_ble_eq_true rfl⟩) rfl rfl (Nat.le_of_ble_eq_true rfl) dX6_servedTicket_2 ⟨Nat.zero_le _, Nat.zero_le _⟩ (fun ta2 => ?_)
    clear hg
    refine x_aload_n C 0 dX6_servedTicket_5 rfl ?_
    obtain ⟨g5, hf⟩ := x_gd hf
    refine x_get8 C xkd_0 i8 0 (by decide) (by decide +kernel) rfl rfl dX6_servedTicket_6 ?_
    refine x_get5 C g5 i5 5 (by decide) (by decide +kernel) rfl rfl dX6_servedTicket_9 ?_
    refine x_iload_n C 1 dX6_servedTicket_12 rfl ?_
    obtain ⟨g6, hf⟩ := x_gd hf
    refine x_iald C (x5_k4 g5) (x5_l4 g5) g6 dX6_servedTicket_13 ?_
    obtain rfl := Option.some.inj hf
    refine x_ret ?_
    exact x_iret C hr hlk dX6_servedTicket_14
  · have hf := x_cx hf
    obtain rfl := Option.some.inj hf
    refine x_callVXt (mc := 1) (ms := 6) C (by rw [xkd_0]; decide) (by rw [xkd_0]; decide) (xc8 xkd_0) rfl (t_X6_requireRemembered hfl hg) (cwV 1 C.1.2.2.2.2 gX6_servedTicket_X6_requireRemembered rfl rfl rfl (by decide +kernel) ⟨Nat.le_of_ble_eq_true rfl, Nat.le_of_ble_eq_true rfl⟩) rfl rfl (Nat.le_of_ble_eq_true rfl) dX6_servedTicket_2 ⟨Nat.le_of_ble_eq_true rfl, Nat.le_of_ble_eq_true rfl⟩ (fun ta2 => ?_)
    exact x_out C hlk htb (Nat.le_of_ble_eq_true rfl) (Nat.le_of_ble_eq_true rfl)
/-! WaitingRoomSimulation.servedWaitingTime(I)I -/
abbrev rm_X6_servedWaitingTime (c s : Nat) : Room := { frames := 9, cells := c, slots := s, locals := 221 }
def f_X6_servedWaitingTime (a1 : Int32) (M : xM) : Option ((Int32 ⊕ String)) := (f_X6_requireRemembered a1 M).bind fun q1 => x_case q1 (fun r3 => if xkd (M.2.1 0 0) = 5 then if x_in a1 6 = true then some (.inl (M.1 ((M.2.1 0 0) + 5) a1.toNatClampNeg)) else none else none) (fun E4 => some (.inr E4))
set_option maxHeartbeats 4000000 in
set_option maxRecDepth 100000 in
theorem t_X6_servedWaitingTime {l : Launch} {G : xG} {ta : Nat × Nat} {M : xM} {a1 : Int32} {out : (Int32 ⊕ String)} (hfl : l.stackTraces = false) (hf : f_X6_servedWaitingTime a1 M = some out) : xMetX G l yX6_servedWaitingTime wsX6_servedWaitingTime (rm_X6_servedWaitingTime (xoc out) (xos out)) (xoc out) (xos out) ta M [.ref (xad G 0), .int a1] (xo xoI out) M := by
  refine x_metX (cc := cX6_servedWaitingTime) (nL := 2) (ret := some .int) (by decide) rfl (Nat.le_of_ble_eq_true rfl) ?_
  intro p e s m args below meth c C hr hlk htb
  have C : xC G p s m args c cX6_servedWaitingTime 2 wsX6_servedWaitingTime RX6 := C
  have i5 : ∀ w ∈ wsX30, w ∈ wsX6_servedWaitingTime := by decide +kernel
  have i8 : ∀ w ∈ wsX60, w ∈ wsX6_servedWaitingTime := by decide +kernel
  unfold f_X6_servedWaitingTime at hf
  show xW G p l e (rm_X6_servedWaitingTime (xoc out) (xos out)) s m args below meth c 2 (vx_MQ below (xQx G (xo xoI out) M) (xXc G (xo xoI out) M) args s (xoc out) (xos out) (xAs G)) 0 0 ta M 0 [(0, .ref (xad G 0)), (1, .int a1)] []
  refine x_aload_n C 0 dX6_servedWaitingTime_0 rfl ?_
  refine x_iload_n C 1 dX6_servedWaitingTime_1 rfl ?_
  obtain ⟨q1, hg, hf⟩ := x_bd hf
  rcases q1 with r3 | E4
  · have hf := x_ci hf
    refine x_callVXv (mc := 0) (ms := 0) C (by rw [xkd_0]; decide) (by rw [xkd_0]; decide) (xc8 xkd_0) rfl (t_X6_requireRemembered hfl hg) (cwV 1 C.1.2.2.2.2 gX6_servedWaitingTime_X6_requireRemembered rfl rfl rfl (by decide +kernel) ⟨Nat.le_of_ble_eq_true rfl, Nat.le_of_ble_eq_true rfl⟩) rfl rfl (Nat.le_of_ble_eq_true rfl) dX6_servedWaitingTime_2 ⟨Nat.zero_le _, Nat.zero_le _⟩ (fun ta2 => ?_)
    clear hg
    refine x_aload_n C 0 dX6_servedWaitingTime_5 rfl ?_
    obtain ⟨g5, hf⟩ := x_gd hf
    refine x_get8 C xkd_0 i8 0 (by decide) (by decide +kernel) rfl rfl dX6_servedWaitingTime_6 ?_
    refine x_get5 C g5 i5 6 (by decide) (by decide +kernel) rfl rfl dX6_servedWaitingTime_9 ?_
    refine x_iload_n C 1 dX6_servedWaitingTime_12 rfl ?_
    obtain ⟨g6, hf⟩ := x_gd hf
    refine x_iald C (x5_k5 g5) (x5_l5 g5) g6 dX6_servedWaitingTime_13 ?_
    obtain rfl := Option.some.inj hf
    refine x_ret ?_
    exact x_iret C hr hlk dX6_servedWaitingTime_14
  · have hf := x_cx hf
    obtain rfl := Option.some.inj hf
    refine x_callVXt (mc := 1) (ms := 6) C (by rw [xkd_0]; decide) (by rw [xkd_0]; decide) (xc8 xkd_0) rfl (t_X6_requireRemembered hfl hg) (cwV 1 C.1.2.2.2.2 gX6_servedWaitingTime_X6_requireRemembered rfl rfl rfl (by decide +kernel) ⟨Nat.le_of_ble_eq_true rfl, Nat.le_of_ble_eq_true rfl⟩) rfl rfl (Nat.le_of_ble_eq_true rfl) dX6_servedWaitingTime_2 ⟨Nat.le_of_ble_eq_true rfl, Nat.le_of_ble_eq_true rfl⟩ (fun ta2 => ?_)
    exact x_out C hlk htb (Nat.le_of_ble_eq_true rfl) (Nat.le_of_ble_eq_true rfl)
/-! WaitingRoomSimulation.requireRank(I)V -/
abbrev rm_X6_requireRank (c s : Nat) : Room := { frames := 8, cells := c, slots := s, locals := 200 }
def f_X6_requireRank (a1 : Int32) (M : xM) : Option ((Unit ⊕ String)) := if xkd (M.2.1 0 0) = 5 then (f_X3_hasCustomer (M.2.1 0 0) a1 M).bind fun q2 => (if q2 = 0 then some (.inr "java/util/NoSuchElementException") else some (.inl ())) else none
set_option maxHeartbeats 4000000 in
set_option maxRecDepth 100000 in
theorem t_X6_requireRank {l : Launch} {G : xG} {ta : Nat × Nat} {M : xM} {a1 : Int32} {out : (Unit ⊕ String)} (hfl : l.stackTraces = false) (hf : f_X6_requireRank a1 M = some out) : xMetX G l yX6_requireRank wsX6_requireRank (rm_X6_requireRank (xoc out) (xos out)) (xoc out) (xos out) ta M [.ref (xad G 0), .int a1] (xo xoU out) M := by
  refine x_metX (cc := cX6_requireRank) (nL := 2) (ret := none) (by decide) rfl (Nat.le_of_ble_eq_true rfl) ?_
  intro p e s m args below meth c C hr hlk htb
  have C : xC G p s m args c cX6_requireRank 2 wsX6_requireRank RX6 := C
  have i8 : ∀ w ∈ wsX60, w ∈ wsX6_requireRank := by decide +kernel
  unfold f_X6_requireRank at hf
  show xW G p l e (rm_X6_requireRank (xoc out) (xos out)) s m args below meth c 2 (vx_MQ below (xQx G (xo xoU out) M) (xXc G (xo xoU out) M) args s (xoc out) (xos out) (xAs G)) 0 0 ta M 0 [(0, .ref (xad G 0)), (1, .int a1)] []
  refine x_aload_n C 0 dX6_requireRank_0 rfl ?_
  obtain ⟨g1, hf⟩ := x_gd hf
  refine x_get8 C xkd_0 i8 0 (by decide) (by decide +kernel) rfl rfl dX6_requireRank_1 ?_
  refine x_iload_n C 1 dX6_requireRank_4 rfl ?_
  obtain ⟨q2, hg, hf⟩ := x_bd hf
  refine x_callVr C (by rw [g1]; decide) (by rw [g1]; decide) (xc5 g1) rfl (t_X3_hasCustomer g1 hg) (cwV 1 C.1.2.2.2.2 gX6_requireRank_X3_hasCustomer rfl rfl rfl (by decide +kernel) ⟨Nat.le_of_ble_eq_true rfl, Nat.le_of_ble_eq_true rfl⟩) rfl rfl (Nat.le_of_ble_eq_true rfl) dX6_requireRank_5 ⟨Nat.zero_le _, Nat.zero_le _⟩ (fun ta3 => ?_)
  clear hg
  refine x_if_ne C 22 dX6_requireRank_8 (by decide) (fun hc4 => ?_) (fun hc4 => ?_)
  · have hf := x_ine hc4 hf
    obtain rfl := Option.some.inj hf
    refine x_ret ?_
    exact x_vret C hr hlk dX6_requireRank_22
  · have hf := x_ip hc4 hf
    obtain rfl := Option.some.inj hf
    exact x_nthrowSW C hfl hlk htb (cls := "java/util/NoSuchElementException") (names := ["java/lang/RuntimeException", "java/lang/Exception"]) (ik := 121) (is := 279) (ic := 125) (text := "there is no such rank") (by decide +kernel) (by decide +kernel) (by decide +kernel) (by decide +kernel) (by decide +kernel) (by decide +kernel) (by decide +kernel) dX6_requireRank_11 dX6_requireRank_14 dX6_requireRank_15 dX6_requireRank_18 dX6_requireRank_21 (Nat.le_of_ble_eq_true rfl) (Nat.le_of_ble_eq_true rfl) (Nat.le_of_ble_eq_true rfl) (Nat.le_of_ble_eq_true rfl) (Nat.le_of_ble_eq_true rfl) (Nat.le_of_ble_eq_true rfl)
/-! WaitingRoomSimulation.customerBySighs(I)I -/
abbrev rm_X6_customerBySighs (c s : Nat) : Room := { frames := 9, cells := c, slots := s, locals := 221 }
def f_X6_customerBySighs_L9 (v1 : Int32) (M : xM) : Nat → Int32 → Int32 → Option ((Int32 ⊕ String))
  | 0, _, _ => none
  | n+1, v2, v3 => if xkd (M.2.1 0 0) = 5 then (if (M.1 (M.2.1 0 0) 1) ≤ v3 then some (.inl v2) else if xkd (M.2.1 0 0) = 5 then (f_X3_rankBySighs (M.2.1 0 0) v3 M).bind fun q8 => (if q8 = v1 then f_X6_customerBySighs_L9 v1 M n v3 (v3 + 1) else f_X6_customerBySighs_L9 v1 M n v2 (v3 + 1)) else none) else none
def f_X6_customerBySighs (a1 : Int32) (M : xM) : Option ((Int32 ⊕ String)) := (f_X6_requireRank a1 M).bind fun q1 => x_case q1 (fun r3 => f_X6_customerBySighs_L9 a1 M xF (0 : Int32) (0 : Int32)) (fun E4 => some (.inr E4))
set_option maxHeartbeats 4000000 in
set_option maxRecDepth 100000 in
theorem t_X6_customerBySighs_L9 {G : xG} {p : Program} {l : Launch} {e : Env} {s : State} {m : MethodId} {args : Array Value} {below : List Frame} {meth : Method} {c : Code} (C : xC G p s m args c cX6_customerBySighs 4 wsX6_customerBySighs RX6) (hr : meth.sig.returnType = some .int) (hlk : meth.locks = false) (htb : ∀ x ∈ c.exceptionTable.toList, False) (hfl : l.stackTraces = false) {v1 : Int32} {M : xM} : ∀ (n : Nat) (v2 : Int32) (v3 : Int32) (ta : Nat × Nat) (out : (Int32 ⊕ String)), f_X6_customerBySighs_L9 v1 M n v2 v3 = some out → xW G p l e (rm_X6_customerBySighs (xoc out) (xos out)) s m args below meth c 4 (vx_MQ below (xQx G (xo xoI out) M) (xXc G (xo xoI out) M) args s (xoc out) (xos out) (xAs G)) 0 0 ta M 9 [(0, .ref (xad G 0)), (1, .int v1), (2, .int v2), (3, .int v3)] [] := by
  intro n
  induction n with
  | zero =>
    intro v2 v3 ta out hf
    rw [f_X6_customerBySighs_L9] at hf
    cases hf
  | succ n ih =>
    intro v2 v3 ta out hf
    rw [f_X6_customerBySighs_L9] at hf
    have i5 : ∀ w ∈ wsX30, w ∈ wsX6_customerBySighs := by decide +kernel
    have i8 : ∀ w ∈ wsX60, w ∈ wsX6_customerBySighs := by decide +kernel
    refine x_iload_n C 3 dX6_customerBySighs_9 rfl ?_
    refine x_aload_n C 0 dX6_customerBySighs_10 rfl ?_
    obtain ⟨g5, hf⟩ := x_gd hf
    refine x_get8 C xkd_0 i8 0 (by decide) (by decide +kernel) rfl rfl dX6_customerBySighs_11 ?_
    refine x_get5 C g5 i5 1 (by decide) (by decide +kernel) rfl rfl dX6_customerBySighs_14 ?_
    refine x_icmp_ge C 40 dX6_customerBySighs_17 (by decide) (fun hc6 => ?_) (fun hc6 => ?_)
    · have hf := x_ip hc6 hf
      refine x_iload_n C 2 dX6_customerBySighs_40 rfl ?_
      obtain rfl := Option.some.inj hf
      refine x_ret ?_
      exact x_iret C hr hlk dX6_customerBySighs_41
    · have hf := x_ine hc6 hf
      refine x_aload_n C 0 dX6_customerBySighs_20 rfl ?_
      obtain ⟨g7, hf⟩ := x_gd hf
      refine x_get8 C xkd_0 i8 0 (by decide) (by decide +kernel) rfl rfl dX6_customerBySighs_21 ?_
      refine x_iload_n C 3 dX6_customerBySighs_24 rfl ?_
      obtain ⟨q8, hg, hf⟩ := x_bd hf
      refine x_callVr C (by rw [g7]; decide) (by rw [g7]; decide) (xc5 g7) rfl (t_X3_rankBySighs g7 hg) (cwV 1 C.1.2.2.2.2 gX6_customerBySighs_X3_rankBySighs rfl rfl rfl (by decide +kernel) ⟨Nat.le_of_ble_eq_true rfl, Nat.le_of_ble_eq_true rfl⟩) rfl rfl (Nat.le_of_ble_eq_true rfl) dX6_customerBySighs_25 ⟨Nat.zero_le _, Nat.zero_le _⟩ (fun ta9 => ?_)
      clear hg
      refine x_iload_n C 1 dX6_customerBySighs_28 rfl ?_
      refine x_icmp_ne C 34 dX6_customerBySighs_29 (by decide) (fun hc10 => ?_) (fun hc10 => ?_)
      · have hf := x_ine hc10 hf
        refine x_iinc (v := v3 + 1) (lv' := [(3, .int (v3 + 1)), (0, .ref (xad G 0)), (1, .int v1), (2, .int v2)]) C 3 dX6_customerBySighs_34 rfl rfl (by decide) rfl ?_
        refine x_goto C 9 dX6_customerBySighs_37 (by decide) ?_
        refine x_sub [1, 2, 3, 0] rfl ?_
        exact ih v2 (v3 + 1) _ _ hf
      · have hf := x_ip hc10 hf
        refine x_iload_n C 3 dX6_customerBySighs_32 rfl ?_
        refine x_istore_n (lv' := [(2, .int v3), (0, .ref (xad G 0)), (1, .int v1), (3, .int v3)]) C dX6_customerBySighs_33 rfl (by decide) rfl ?_
        refine x_iinc (v := v3 + 1) (lv' := [(3, .int (v3 + 1)), (2, .int v3), (0, .ref (xad G 0)), (1, .int v1)]) C 3 dX6_customerBySighs_34 rfl rfl (by decide) rfl ?_
        refine x_goto C 9 dX6_customerBySighs_37 (by decide) ?_
        refine x_sub [2, 3, 1, 0] rfl ?_
        exact ih v3 (v3 + 1) _ _ hf
set_option maxHeartbeats 4000000 in
set_option maxRecDepth 100000 in
theorem t_X6_customerBySighs {l : Launch} {G : xG} {ta : Nat × Nat} {M : xM} {a1 : Int32} {out : (Int32 ⊕ String)} (hfl : l.stackTraces = false) (hf : f_X6_customerBySighs a1 M = some out) : xMetX G l yX6_customerBySighs wsX6_customerBySighs (rm_X6_customerBySighs (xoc out) (xos out)) (xoc out) (xos out) ta M [.ref (xad G 0), .int a1] (xo xoI out) M := by
  refine x_metX (cc := cX6_customerBySighs) (nL := 4) (ret := some .int) (by decide) rfl (Nat.le_of_ble_eq_true rfl) ?_
  intro p e s m args below meth c C hr hlk htb
  have C : xC G p s m args c cX6_customerBySighs 4 wsX6_customerBySighs RX6 := C
  have i5 : ∀ w ∈ wsX30, w ∈ wsX6_customerBySighs := by decide +kernel
  have i8 : ∀ w ∈ wsX60, w ∈ wsX6_customerBySighs := by decide +kernel
  unfold f_X6_customerBySighs at hf
  show xW G p l e (rm_X6_customerBySighs (xoc out) (xos out)) s m args below meth c 4 (vx_MQ below (xQx G (xo xoI out) M) (xXc G (xo xoI out) M) args s (xoc out) (xos out) (xAs G)) 0 0 ta M 0 [(0, .ref (xad G 0)), (1, .int a1)] []
  refine x_aload_n C 0 dX6_customerBySighs_0 rfl ?_
  refine x_iload_n C 1 dX6_customerBySighs_1 rfl ?_
  obtain ⟨q1, hg, hf⟩ := x_bd hf
  rcases q1 with r3 | E4
  · have hf := x_ci hf
    refine x_callVXv (mc := 0) (ms := 0) C (by rw [xkd_0]; decide) (by rw [xkd_0]; decide) (xc8 xkd_0) rfl (t_X6_requireRank hfl hg) (cwV 1 C.1.2.2.2.2 gX6_customerBySighs_X6_requireRank rfl rfl rfl (by decide +kernel) ⟨Nat.le_of_ble_eq_true rfl, Nat.le_of_ble_eq_true rfl⟩) rfl rfl (Nat.le_of_ble_eq_true rfl) dX6_customerBySighs_2 ⟨Nat.zero_le _, Nat.zero_le _⟩ (fun ta2 => ?_)
    clear hg
    refine x_iconst (v := 0) C dX6_customerBySighs_5 (by decide) ?_
    refine x_istore_n (lv' := [(2, .int (0 : Int32)), (0, .ref (xad G 0)), (1, .int a1)]) C dX6_customerBySighs_6 rfl (by decide) rfl ?_
    refine x_iconst (v := 0) C dX6_customerBySighs_7 (by decide) ?_
    refine x_istore_n (lv' := [(3, .int (0 : Int32)), (2, .int (0 : Int32)), (0, .ref (xad G 0)), (1, .int a1)]) C dX6_customerBySighs_8 rfl (by decide) rfl ?_
    refine x_sub [2, 3, 1, 0] rfl ?_
    exact t_X6_customerBySighs_L9 C hr hlk htb hfl xF (0 : Int32) (0 : Int32) _ _ hf
  · have hf := x_cx hf
    obtain rfl := Option.some.inj hf
    refine x_callVXt (mc := 1) (ms := 6) C (by rw [xkd_0]; decide) (by rw [xkd_0]; decide) (xc8 xkd_0) rfl (t_X6_requireRank hfl hg) (cwV 1 C.1.2.2.2.2 gX6_customerBySighs_X6_requireRank rfl rfl rfl (by decide +kernel) ⟨Nat.le_of_ble_eq_true rfl, Nat.le_of_ble_eq_true rfl⟩) rfl rfl (Nat.le_of_ble_eq_true rfl) dX6_customerBySighs_2 ⟨Nat.le_of_ble_eq_true rfl, Nat.le_of_ble_eq_true rfl⟩ (fun ta2 => ?_)
    exact x_out C hlk htb (Nat.le_of_ble_eq_true rfl) (Nat.le_of_ble_eq_true rfl)
/-! WaitingRoomSimulation.customerByWaitingTime(I)I -/
abbrev rm_X6_customerByWaitingTime (c s : Nat) : Room := { frames := 9, cells := c, slots := s, locals := 221 }
def f_X6_customerByWaitingTime_L9 (v1 : Int32) (M : xM) : Nat → Int32 → Int32 → Option ((Int32 ⊕ String))
  | 0, _, _ => none
  | n+1, v2, v3 => if xkd (M.2.1 0 0) = 5 then (if (M.1 (M.2.1 0 0) 1) ≤ v3 then some (.inl v2) else if xkd (M.2.1 0 0) = 5 then (f_X3_rankByWaitingTime (M.2.1 0 0) v3 M).bind fun q8 => (if q8 = v1 then f_X6_customerByWaitingTime_L9 v1 M n v3 (v3 + 1) else f_X6_customerByWaitingTime_L9 v1 M n v2 (v3 + 1)) else none) else none
def f_X6_customerByWaitingTime (a1 : Int32) (M : xM) : Option ((Int32 ⊕ String)) := (f_X6_requireRank a1 M).bind fun q1 => x_case q1 (fun r3 => f_X6_customerByWaitingTime_L9 a1 M xF (0 : Int32) (0 : Int32)) (fun E4 => some (.inr E4))
set_option maxHeartbeats 4000000 in
set_option maxRecDepth 100000 in
theorem t_X6_customerByWaitingTime_L9 {G : xG} {p : Program} {l : Launch} {e : Env} {s : State} {m : MethodId} {args : Array Value} {below : List Frame} {meth : Method} {c : Code} (C : xC G p s m args c cX6_customerByWaitingTime 4 wsX6_customerByWaitingTime RX6) (hr : meth.sig.returnType = some .int) (hlk : meth.locks = false) (htb : ∀ x ∈ c.exceptionTable.toList, False) (hfl : l.stackTraces = false) {v1 : Int32} {M : xM} : ∀ (n : Nat) (v2 : Int32) (v3 : Int32) (ta : Nat × Nat) (out : (Int32 ⊕ String)), f_X6_customerByWaitingTime_L9 v1 M n v2 v3 = some out → xW G p l e (rm_X6_customerByWaitingTime (xoc out) (xos out)) s m args below meth c 4 (vx_MQ below (xQx G (xo xoI out) M) (xXc G (xo xoI out) M) args s (xoc out) (xos out) (xAs G)) 0 0 ta M 9 [(0, .ref (xad G 0)), (1, .int v1), (2, .int v2), (3, .int v3)] [] := by
  intro n
  induction n with
  | zero =>
    intro v2 v3 ta out hf
    rw [f_X6_customerByWaitingTime_L9] at hf
    cases hf
  | succ n ih =>
    intro v2 v3 ta out hf
    rw [f_X6_customerByWaitingTime_L9] at hf
    have i5 : ∀ w ∈ wsX30, w ∈ wsX6_customerByWaitingTime := by decide +kernel
    have i8 : ∀ w ∈ wsX60, w ∈ wsX6_customerByWaitingTime := by decide +kernel
    refine x_iload_n C 3 dX6_customerByWaitingTime_9 rfl ?_
    refine x_aload_n C 0 dX6_customerByWaitingTime_10 rfl ?_
    obtain ⟨g5, hf⟩ := x_gd hf
    refine x_get8 C xkd_0 i8 0 (by decide) (by decide +kernel) rfl rfl dX6_customerByWaitingTime_11 ?_
    refine x_get5 C g5 i5 1 (by decide) (by decide +kernel) rfl rfl dX6_customerByWaitingTime_14 ?_
    refine x_icmp_ge C 40 dX6_customerByWaitingTime_17 (by decide) (fun hc6 => ?_) (fun hc6 => ?_)
    · have hf := x_ip hc6 hf
      refine x_iload_n C 2 dX6_customerByWaitingTime_40 rfl ?_
      obtain rfl := Option.some.inj hf
      refine x_ret ?_
      exact x_iret C hr hlk dX6_customerByWaitingTime_41
    · have hf := x_ine hc6 hf
      refine x_aload_n C 0 dX6_customerByWaitingTime_20 rfl ?_
      obtain ⟨g7, hf⟩ := x_gd hf
      refine x_get8 C xkd_0 i8 0 (by decide) (by decide +kernel) rfl rfl dX6_customerByWaitingTime_21 ?_
      refine x_iload_n C 3 dX6_customerByWaitingTime_24 rfl ?_
      obtain ⟨q8, hg, hf⟩ := x_bd hf
      refine x_callVr C (by rw [g7]; decide) (by rw [g7]; decide) (xc5 g7) rfl (t_X3_rankByWaitingTime g7 hg) (cwV 1 C.1.2.2.2.2 gX6_customerByWaitingTime_X3_rankByWaitingTime rfl rfl rfl (by decide +kernel) ⟨Nat.le_of_ble_eq_true rfl, Nat.le_of_ble_eq_true rfl⟩) rfl rfl (Nat.le_of_ble_eq_true rfl) dX6_customerByWaitingTime_25 ⟨Nat.zero_le _, Nat.zero_le _⟩ (fun ta9 => ?_)
      clear hg
      refine x_iload_n C 1 dX6_customerByWaitingTime_28 rfl ?_
      refine x_icmp_ne C 34 dX6_customerByWaitingTime_29 (by decide) (fun hc10 => ?_) (fun hc10 => ?_)
      · have hf := x_ine hc10 hf
        refine x_iinc (v := v3 + 1) (lv' := [(3, .int (v3 + 1)), (0, .ref (xad G 0)), (1, .int v1), (2, .int v2)]) C 3 dX6_customerByWaitingTime_34 rfl rfl (by decide) rfl ?_
        refine x_goto C 9 dX6_customerByWaitingTime_37 (by decide) ?_
        refine x_sub [1, 2, 3, 0] rfl ?_
        exact ih v2 (v3 + 1) _ _ hf
      · have hf := x_ip hc10 hf
        refine x_iload_n C 3 dX6_customerByWaitingTime_32 rfl ?_
        refine x_istore_n (lv' := [(2, .int v3), (0, .ref (xad G 0)), (1, .int v1), (3, .int v3)]) C dX6_customerByWaitingTime_33 rfl (by decide) rfl ?_
        refine x_iinc (v := v3 + 1) (lv' := [(3, .int (v3 + 1)), (2, .int v3), (0, .ref (xad G 0)), (1, .int v1)]) C 3 dX6_customerByWaitingTime_34 rfl rfl (by decide) rfl ?_
        refine x_goto C 9 dX6_customerByWaitingTime_37 (by decide) ?_
        refine x_sub [2, 3, 1, 0] rfl ?_
        exact ih v3 (v3 + 1) _ _ hf
set_option maxHeartbeats 4000000 in
set_option maxRecDepth 100000 in
theorem t_X6_customerByWaitingTime {l : Launch} {G : xG} {ta : Nat × Nat} {M : xM} {a1 : Int32} {out : (Int32 ⊕ String)} (hfl : l.stackTraces = false) (hf : f_X6_customerByWaitingTime a1 M = some out) : xMetX G l yX6_customerByWaitingTime wsX6_customerByWaitingTime (rm_X6_customerByWaitingTime (xoc out) (xos out)) (xoc out) (xos out) ta M [.ref (xad G 0), .int a1] (xo xoI out) M := by
  refine x_metX (cc := cX6_customerByWaitingTime) (nL := 4) (ret := some .int) (by decide) rfl (Nat.le_of_ble_eq_true rfl) ?_
  intro p e s m args below meth c C hr hlk htb
  have C : xC G p s m args c cX6_customerByWaitingTime 4 wsX6_customerByWaitingTime RX6 := C
  have i5 : ∀ w ∈ wsX30, w ∈ wsX6_customerByWaitingTime := by decide +kernel
  have i8 : ∀ w ∈ wsX60, w ∈ wsX6_customerByWaitingTime := by decide +kernel
  unfold f_X6_customerByWaitingTime at hf
  show xW G p l e (rm_X6_customerByWaitingTime (xoc out) (xos out)) s m args below meth c 4 (vx_MQ below (xQx G (xo xoI out) M) (xXc G (xo xoI out) M) args s (xoc out) (xos out) (xAs G)) 0 0 ta M 0 [(0, .ref (xad G 0)), (1, .int a1)] []
  refine x_aload_n C 0 dX6_customerByWaitingTime_0 rfl ?_
  refine x_iload_n C 1 dX6_customerByWaitingTime_1 rfl ?_
  obtain ⟨q1, hg, hf⟩ := x_bd hf
  rcases q1 with r3 | E4
  · have hf := x_ci hf
    refine x_callVXv (mc := 0) (ms := 0) C (by rw [xkd_0]; decide) (by rw [xkd_0]; decide) (xc8 xkd_0) rfl (t_X6_requireRank hfl hg) (cwV 1 C.1.2.2.2.2 gX6_customerByWaitingTime_X6_requireRank rfl rfl rfl (by decide +kernel) ⟨Nat.le_of_ble_eq_true rfl, Nat.le_of_ble_eq_true rfl⟩) rfl rfl (Nat.le_of_ble_eq_true rfl) dX6_customerByWaitingTime_2 ⟨Nat.zero_le _, Nat.zero_le _⟩ (fun ta2 => ?_)
    clear hg
    refine x_iconst (v := 0) C dX6_customerByWaitingTime_5 (by decide) ?_
    refine x_istore_n (lv' := [(2, .int (0 : Int32)), (0, .ref (xad G 0)), (1, .int a1)]) C dX6_customerByWaitingTime_6 rfl (by decide) rfl ?_
    refine x_iconst (v := 0) C dX6_customerByWaitingTime_7 (by decide) ?_
    refine x_istore_n (lv' := [(3, .int (0 : Int32)), (2, .int (0 : Int32)), (0, .ref (xad G 0)), (1, .int a1)]) C dX6_customerByWaitingTime_8 rfl (by decide) rfl ?_
    refine x_sub [2, 3, 1, 0] rfl ?_
    exact t_X6_customerByWaitingTime_L9 C hr hlk htb hfl xF (0 : Int32) (0 : Int32) _ _ hf
  · have hf := x_cx hf
    obtain rfl := Option.some.inj hf
    refine x_callVXt (mc := 1) (ms := 6) C (by rw [xkd_0]; decide) (by rw [xkd_0]; decide) (xc8 xkd_0) rfl (t_X6_requireRank hfl hg) (cwV 1 C.1.2.2.2.2 gX6_customerByWaitingTime_X6_requireRank rfl rfl rfl (by decide +kernel) ⟨Nat.le_of_ble_eq_true rfl, Nat.le_of_ble_eq_true rfl⟩) rfl rfl (Nat.le_of_ble_eq_true rfl) dX6_customerByWaitingTime_2 ⟨Nat.le_of_ble_eq_true rfl, Nat.le_of_ble_eq_true rfl⟩ (fun ta2 => ?_)
    exact x_out C hlk htb (Nat.le_of_ble_eq_true rfl) (Nat.le_of_ble_eq_true rfl)
/-! WaitingRoomSimulation.minute()I -/
abbrev rm_X6_minute (c s : Nat) : Room := { frames := 0, cells := c, slots := s, locals := 0 }
def f_X6_minute (M : xM) : Option (Int32) := if xkd (M.2.1 0 0) = 5 then some (M.1 (M.2.1 0 0) 7) else none
set_option maxHeartbeats 4000000 in
set_option maxRecDepth 100000 in
theorem t_X6_minute {l : Launch} {G : xG} {ta : Nat × Nat} {M : xM} {out : Int32} (hf : f_X6_minute M = some out) : xMet G l yX6_minute wsX6_minute (rm_X6_minute 0 0) 0 0 ta M [.ref (xad G 0)] (some (.int out)) M := by
  refine x_met (cc := cX6_minute) (nL := 1) (ret := some .int) (by decide) rfl (Nat.le_of_ble_eq_true rfl) ?_
  intro p e s m args below meth c C hr hlk
  have C : xC G p s m args c cX6_minute 1 wsX6_minute RX6 := C
  have i5 : ∀ w ∈ wsX30, w ∈ wsX6_minute := by decide +kernel
  have i8 : ∀ w ∈ wsX60, w ∈ wsX6_minute := by decide +kernel
  unfold f_X6_minute at hf
  show xW G p l e (rm_X6_minute 0 0) s m args below meth c 1 (MQ below (xQr G (some (.int out)) M) args s 0 0 (xAs G)) 0 0 ta M 0 [(0, .ref (xad G 0))] []
  refine x_aload_n C 0 dX6_minute_0 rfl ?_
  obtain ⟨g1, hf⟩ := x_gd hf
  refine x_get8 C xkd_0 i8 0 (by decide) (by decide +kernel) rfl rfl dX6_minute_1 ?_
  refine x_get5 C g1 i5 7 (by decide) (by decide +kernel) rfl rfl dX6_minute_4 ?_
  obtain rfl := Option.some.inj hf
  exact x_iret C hr hlk dX6_minute_7
/-! WaitingRoomSimulation.addedTotal()I -/
abbrev rm_X6_addedTotal (c s : Nat) : Room := { frames := 0, cells := c, slots := s, locals := 0 }
def f_X6_addedTotal (M : xM) : Option (Int32) := if xkd (M.2.1 0 0) = 5 then some (M.1 (M.2.1 0 0) 8) else none
set_option maxHeartbeats 4000000 in
set_option maxRecDepth 100000 in
theorem t_X6_addedTotal {l : Launch} {G : xG} {ta : Nat × Nat} {M : xM} {out : Int32} (hf : f_X6_addedTotal M = some out) : xMet G l yX6_addedTotal wsX6_addedTotal (rm_X6_addedTotal 0 0) 0 0 ta M [.ref (xad G 0)] (some (.int out)) M := by
  refine x_met (cc := cX6_addedTotal) (nL := 1) (ret := some .int) (by decide) rfl (Nat.le_of_ble_eq_true rfl) ?_
  intro p e s m args below meth c C hr hlk
  have C : xC G p s m args c cX6_addedTotal 1 wsX6_addedTotal RX6 := C
  have i5 : ∀ w ∈ wsX30, w ∈ wsX6_addedTotal := by decide +kernel
  have i8 : ∀ w ∈ wsX60, w ∈ wsX6_addedTotal := by decide +kernel
  unfold f_X6_addedTotal at hf
  show xW G p l e (rm_X6_addedTotal 0 0) s m args below meth c 1 (MQ below (xQr G (some (.int out)) M) args s 0 0 (xAs G)) 0 0 ta M 0 [(0, .ref (xad G 0))] []
  refine x_aload_n C 0 dX6_addedTotal_0 rfl ?_
  obtain ⟨g1, hf⟩ := x_gd hf
  refine x_get8 C xkd_0 i8 0 (by decide) (by decide +kernel) rfl rfl dX6_addedTotal_1 ?_
  refine x_get5 C g1 i5 8 (by decide) (by decide +kernel) rfl rfl dX6_addedTotal_4 ?_
  obtain rfl := Option.some.inj hf
  exact x_iret C hr hlk dX6_addedTotal_7
/-! WaitingRoomSimulation.servedTotal()I -/
abbrev rm_X6_servedTotal (c s : Nat) : Room := { frames := 0, cells := c, slots := s, locals := 0 }
def f_X6_servedTotal (M : xM) : Option (Int32) := if xkd (M.2.1 0 0) = 5 then some (M.1 (M.2.1 0 0) 9) else none
set_option maxHeartbeats 4000000 in
set_option maxRecDepth 100000 in
theorem t_X6_servedTotal {l : Launch} {G : xG} {ta : Nat × Nat} {M : xM} {out : Int32} (hf : f_X6_servedTotal M = some out) : xMet G l yX6_servedTotal wsX6_servedTotal (rm_X6_servedTotal 0 0) 0 0 ta M [.ref (xad G 0)] (some (.int out)) M := by
  refine x_met (cc := cX6_servedTotal) (nL := 1) (ret := some .int) (by decide) rfl (Nat.le_of_ble_eq_true rfl) ?_
  intro p e s m args below meth c C hr hlk
  have C : xC G p s m args c cX6_servedTotal 1 wsX6_servedTotal RX6 := C
  have i5 : ∀ w ∈ wsX30, w ∈ wsX6_servedTotal := by decide +kernel
  have i8 : ∀ w ∈ wsX60, w ∈ wsX6_servedTotal := by decide +kernel
  unfold f_X6_servedTotal at hf
  show xW G p l e (rm_X6_servedTotal 0 0) s m args below meth c 1 (MQ below (xQr G (some (.int out)) M) args s 0 0 (xAs G)) 0 0 ta M 0 [(0, .ref (xad G 0))] []
  refine x_aload_n C 0 dX6_servedTotal_0 rfl ?_
  obtain ⟨g1, hf⟩ := x_gd hf
  refine x_get8 C xkd_0 i8 0 (by decide) (by decide +kernel) rfl rfl dX6_servedTotal_1 ?_
  refine x_get5 C g1 i5 9 (by decide) (by decide +kernel) rfl rfl dX6_servedTotal_4 ?_
  obtain rfl := Option.some.inj hf
  exact x_iret C hr hlk dX6_servedTotal_7
/-! WaitingRoomSimulation.walkedOutTotal()I -/
abbrev rm_X6_walkedOutTotal (c s : Nat) : Room := { frames := 0, cells := c, slots := s, locals := 0 }
def f_X6_walkedOutTotal (M : xM) : Option (Int32) := if xkd (M.2.1 0 0) = 5 then some (M.1 (M.2.1 0 0) 11) else none
set_option maxHeartbeats 4000000 in
set_option maxRecDepth 100000 in
theorem t_X6_walkedOutTotal {l : Launch} {G : xG} {ta : Nat × Nat} {M : xM} {out : Int32} (hf : f_X6_walkedOutTotal M = some out) : xMet G l yX6_walkedOutTotal wsX6_walkedOutTotal (rm_X6_walkedOutTotal 0 0) 0 0 ta M [.ref (xad G 0)] (some (.int out)) M := by
  refine x_met (cc := cX6_walkedOutTotal) (nL := 1) (ret := some .int) (by decide) rfl (Nat.le_of_ble_eq_true rfl) ?_
  intro p e s m args below meth c C hr hlk
  have C : xC G p s m args c cX6_walkedOutTotal 1 wsX6_walkedOutTotal RX6 := C
  have i5 : ∀ w ∈ wsX30, w ∈ wsX6_walkedOutTotal := by decide +kernel
  have i8 : ∀ w ∈ wsX60, w ∈ wsX6_walkedOutTotal := by decide +kernel
  unfold f_X6_walkedOutTotal at hf
  show xW G p l e (rm_X6_walkedOutTotal 0 0) s m args below meth c 1 (MQ below (xQr G (some (.int out)) M) args s 0 0 (xAs G)) 0 0 ta M 0 [(0, .ref (xad G 0))] []
  refine x_aload_n C 0 dX6_walkedOutTotal_0 rfl ?_
  obtain ⟨g1, hf⟩ := x_gd hf
  refine x_get8 C xkd_0 i8 0 (by decide) (by decide +kernel) rfl rfl dX6_walkedOutTotal_1 ?_
  refine x_get5 C g1 i5 11 (by decide) (by decide +kernel) rfl rfl dX6_walkedOutTotal_4 ?_
  obtain rfl := Option.some.inj hf
  exact x_iret C hr hlk dX6_walkedOutTotal_7
/-! WaitingRoomSimulation.sighTotal()I -/
abbrev rm_X6_sighTotal (c s : Nat) : Room := { frames := 0, cells := c, slots := s, locals := 0 }
def f_X6_sighTotal (M : xM) : Option (Int32) := if xkd (M.2.1 0 0) = 5 then some (M.1 (M.2.1 0 0) 13) else none
set_option maxHeartbeats 4000000 in
set_option maxRecDepth 100000 in
theorem t_X6_sighTotal {l : Launch} {G : xG} {ta : Nat × Nat} {M : xM} {out : Int32} (hf : f_X6_sighTotal M = some out) : xMet G l yX6_sighTotal wsX6_sighTotal (rm_X6_sighTotal 0 0) 0 0 ta M [.ref (xad G 0)] (some (.int out)) M := by
  refine x_met (cc := cX6_sighTotal) (nL := 1) (ret := some .int) (by decide) rfl (Nat.le_of_ble_eq_true rfl) ?_
  intro p e s m args below meth c C hr hlk
  have C : xC G p s m args c cX6_sighTotal 1 wsX6_sighTotal RX6 := C
  have i5 : ∀ w ∈ wsX30, w ∈ wsX6_sighTotal := by decide +kernel
  have i8 : ∀ w ∈ wsX60, w ∈ wsX6_sighTotal := by decide +kernel
  unfold f_X6_sighTotal at hf
  show xW G p l e (rm_X6_sighTotal 0 0) s m args below meth c 1 (MQ below (xQr G (some (.int out)) M) args s 0 0 (xAs G)) 0 0 ta M 0 [(0, .ref (xad G 0))] []
  refine x_aload_n C 0 dX6_sighTotal_0 rfl ?_
  obtain ⟨g1, hf⟩ := x_gd hf
  refine x_get8 C xkd_0 i8 0 (by decide) (by decide +kernel) rfl rfl dX6_sighTotal_1 ?_
  refine x_get5 C g1 i5 13 (by decide) (by decide +kernel) rfl rfl dX6_sighTotal_4 ?_
  obtain rfl := Option.some.inj hf
  exact x_iret C hr hlk dX6_sighTotal_7
/-! WaitingRoomSimulation.meanPatience()D -/
abbrev rm_X6_meanPatience (c s : Nat) : Room := { frames := 8, cells := c, slots := s, locals := 200 }
def f_X6_meanPatience_L25 (M : xM) : Nat → Int32 → Int32 → Option ((UInt64 ⊕ String))
  | 0, _, _ => none
  | n+1, v1, v2 => if xkd (M.2.1 0 0) = 5 then (if (M.1 (M.2.1 0 0) 1) ≤ v2 then if xkd (M.2.1 0 0) = 5 then if x_n64 (FP.ddiv (FP.i2d v1) (FP.i2d (M.1 (M.2.1 0 0) 1))) = true then some (.inl (FP.ddiv (FP.i2d v1) (FP.i2d (M.1 (M.2.1 0 0) 1)))) else none else none else if xkd (M.2.1 0 0) = 5 then if x_in v2 12 = true then if xkd (M.2.1 ((M.2.1 0 0) + 1) v2.toNatClampNeg) = 4 then f_X6_meanPatience_L25 M n (v1 + (M.1 (M.2.1 ((M.2.1 0 0) + 1) v2.toNatClampNeg) 1)) (v2 + 1) else none else none else none) else none
def f_X6_meanPatience (M : xM) : Option ((UInt64 ⊕ String)) := if xkd (M.2.1 0 0) = 5 then (if (M.1 (M.2.1 0 0) 1) = 0 then some (.inr "java/lang/ArithmeticException") else f_X6_meanPatience_L25 M xF (0 : Int32) (0 : Int32)) else none
set_option maxHeartbeats 4000000 in
set_option maxRecDepth 100000 in
theorem t_X6_meanPatience_L25 {G : xG} {p : Program} {l : Launch} {e : Env} {s : State} {m : MethodId} {args : Array Value} {below : List Frame} {meth : Method} {c : Code} (C : xC G p s m args c cX6_meanPatience 3 wsX6_meanPatience RX6) (hr : meth.sig.returnType = some .double) (hlk : meth.locks = false) (htb : ∀ x ∈ c.exceptionTable.toList, False) (hfl : l.stackTraces = false) {M : xM} : ∀ (n : Nat) (v1 : Int32) (v2 : Int32) (ta : Nat × Nat) (out : (UInt64 ⊕ String)), f_X6_meanPatience_L25 M n v1 v2 = some out → xW G p l e (rm_X6_meanPatience (xoc out) (xos out)) s m args below meth c 3 (vx_MQ below (xQx G (xo xoD out) M) (xXc G (xo xoD out) M) args s (xoc out) (xos out) (xAs G)) 0 0 ta M 25 [(0, .ref (xad G 0)), (1, .int v1), (2, .int v2)] [] := by
  intro n
  induction n with
  | zero =>
    intro v1 v2 ta out hf
    rw [f_X6_meanPatience_L25] at hf
    cases hf
  | succ n ih =>
    intro v1 v2 ta out hf
    rw [f_X6_meanPatience_L25] at hf
    have i4 : ∀ w ∈ wsX20, w ∈ wsX6_meanPatience := by decide +kernel
    have i5 : ∀ w ∈ wsX30, w ∈ wsX6_meanPatience := by decide +kernel
    have i8 : ∀ w ∈ wsX60, w ∈ wsX6_meanPatience := by decide +kernel
    refine x_iload_n C 2 dX6_meanPatience_25 rfl ?_
    refine x_aload_n C 0 dX6_meanPatience_26 rfl ?_
    obtain ⟨g3, hf⟩ := x_gd hf
    refine x_get8 C xkd_0 i8 0 (by decide) (by decide +kernel) rfl rfl dX6_meanPatience_27 ?_
    refine x_get5 C g3 i5 1 (by decide) (by decide +kernel) rfl rfl dX6_meanPatience_30 ?_
    refine x_icmp_ge C 57 dX6_meanPatience_33 (by decide) (fun hc4 => ?_) (fun hc4 => ?_)
    · have hf := x_ip hc4 hf
      refine x_iload_n C 1 dX6_meanPatience_57 rfl ?_
      refine x_i2d C dX6_meanPatience_58 ?_
      refine x_aload_n C 0 dX6_meanPatience_59 rfl ?_
      obtain ⟨g5, hf⟩ := x_gd hf
      refine x_get8 C xkd_0 i8 0 (by decide) (by decide +kernel) rfl rfl dX6_meanPatience_60 ?_
      refine x_get5 C g5 i5 1 (by decide) (by decide +kernel) rfl rfl dX6_meanPatience_63 ?_
      refine x_i2d C dX6_meanPatience_66 ?_
      obtain ⟨g6, hf⟩ := x_gd hf
      refine x_ddiv C dX6_meanPatience_67 (x_n64_of g6) ?_
      obtain rfl := Option.some.inj hf
      refine x_ret ?_
      exact x_dret C hr hlk dX6_meanPatience_68
    · have hf := x_ine hc4 hf
      refine x_iload_n C 1 dX6_meanPatience_36 rfl ?_
      refine x_aload_n C 0 dX6_meanPatience_37 rfl ?_
      obtain ⟨g7, hf⟩ := x_gd hf
      refine x_get8 C xkd_0 i8 0 (by decide) (by decide +kernel) rfl rfl dX6_meanPatience_38 ?_
      refine x_get5 C g7 i5 0 (by decide) (by decide +kernel) rfl rfl dX6_meanPatience_41 ?_
      refine x_iload_n C 2 dX6_meanPatience_44 rfl ?_
      obtain ⟨g8, hf⟩ := x_gd hf
      obtain ⟨g9, hf⟩ := x_gd hf
      refine x_aald23 C (x5_k1 g7) (x5_l1 g7) g8 dX6_meanPatience_45 ?_
      refine x_get4 C g9 i4 1 (by decide) (by decide +kernel) rfl rfl dX6_meanPatience_46 ?_
      refine x_iadd C dX6_meanPatience_49 ?_
      refine x_istore_n (lv' := [(1, .int (v1 + (M.1 (M.2.1 ((M.2.1 0 0) + 1) v2.toNatClampNeg) 1))), (0, .ref (xad G 0)), (2, .int v2)]) C dX6_meanPatience_50 rfl (by decide) rfl ?_
      refine x_iinc (v := v2 + 1) (lv' := [(2, .int (v2 + 1)), (1, .int (v1 + (M.1 (M.2.1 ((M.2.1 0 0) + 1) v2.toNatClampNeg) 1))), (0, .ref (xad G 0))]) C 2 dX6_meanPatience_51 rfl rfl (by decide) rfl ?_
      refine x_goto C 25 dX6_meanPatience_54 (by decide) ?_
      refine x_sub [2, 1, 0] rfl ?_
      exact ih (v1 + (M.1 (M.2.1 ((M.2.1 0 0) + 1) v2.toNatClampNeg) 1)) (v2 + 1) _ _ hf
set_option maxHeartbeats 4000000 in
set_option maxRecDepth 100000 in
theorem t_X6_meanPatience {l : Launch} {G : xG} {ta : Nat × Nat} {M : xM} {out : (UInt64 ⊕ String)} (hfl : l.stackTraces = false) (hf : f_X6_meanPatience M = some out) : xMetX G l yX6_meanPatience wsX6_meanPatience (rm_X6_meanPatience (xoc out) (xos out)) (xoc out) (xos out) ta M [.ref (xad G 0)] (xo xoD out) M := by
  refine x_metX (cc := cX6_meanPatience) (nL := 3) (ret := some .double) (by decide) rfl (Nat.le_of_ble_eq_true rfl) ?_
  intro p e s m args below meth c C hr hlk htb
  have C : xC G p s m args c cX6_meanPatience 3 wsX6_meanPatience RX6 := C
  have i4 : ∀ w ∈ wsX20, w ∈ wsX6_meanPatience := by decide +kernel
  have i5 : ∀ w ∈ wsX30, w ∈ wsX6_meanPatience := by decide +kernel
  have i8 : ∀ w ∈ wsX60, w ∈ wsX6_meanPatience := by decide +kernel
  unfold f_X6_meanPatience at hf
  show xW G p l e (rm_X6_meanPatience (xoc out) (xos out)) s m args below meth c 3 (vx_MQ below (xQx G (xo xoD out) M) (xXc G (xo xoD out) M) args s (xoc out) (xos out) (xAs G)) 0 0 ta M 0 [(0, .ref (xad G 0))] []
  refine x_aload_n C 0 dX6_meanPatience_0 rfl ?_
  obtain ⟨g1, hf⟩ := x_gd hf
  refine x_get8 C xkd_0 i8 0 (by decide) (by decide +kernel) rfl rfl dX6_meanPatience_1 ?_
  refine x_get5 C g1 i5 1 (by decide) (by decide +kernel) rfl rfl dX6_meanPatience_4 ?_
  refine x_if_ne C 21 dX6_meanPatience_7 (by decide) (fun hc2 => ?_) (fun hc2 => ?_)
  · have hf := x_ine hc2 hf
    refine x_iconst (v := 0) C dX6_meanPatience_21 (by decide) ?_
    refine x_istore_n (lv' := [(1, .int (0 : Int32)), (0, .ref (xad G 0))]) C dX6_meanPatience_22 rfl (by decide) rfl ?_
    refine x_iconst (v := 0) C dX6_meanPatience_23 (by decide) ?_
    refine x_istore_n (lv' := [(2, .int (0 : Int32)), (1, .int (0 : Int32)), (0, .ref (xad G 0))]) C dX6_meanPatience_24 rfl (by decide) rfl ?_
    refine x_sub [2, 1, 0] rfl ?_
    exact t_X6_meanPatience_L25 C hr hlk htb hfl xF (0 : Int32) (0 : Int32) _ _ hf
  · have hf := x_ip hc2 hf
    obtain rfl := Option.some.inj hf
    exact x_throwSW C hfl hlk htb (cls := "java/lang/ArithmeticException") (names := ["java/lang/RuntimeException", "java/lang/Exception"]) (ik := 290) (is := 292) (ic := 294) (text := "the hall is empty") (by decide +kernel) (by decide +kernel) (by decide +kernel) (by decide +kernel) (by decide +kernel) (by decide +kernel) (by decide +kernel) dX6_meanPatience_10 dX6_meanPatience_13 dX6_meanPatience_14 dX6_meanPatience_17 dX6_meanPatience_20 (Nat.le_of_ble_eq_true rfl) (Nat.le_of_ble_eq_true rfl) (Nat.le_of_ble_eq_true rfl) (Nat.le_of_ble_eq_true rfl) (Nat.le_of_ble_eq_true rfl) (Nat.le_of_ble_eq_true rfl)
/-! WaitingRoomSimulation.calmShare()F -/
abbrev rm_X6_calmShare (c s : Nat) : Room := { frames := 8, cells := c, slots := s, locals := 200 }
def f_X6_calmShare (M : xM) : Option ((UInt32 ⊕ String)) := if xkd (M.2.1 0 0) = 5 then (if (M.1 (M.2.1 0 0) 9) = 0 then some (.inr "java/lang/ArithmeticException") else if xkd (M.2.1 0 0) = 5 then if xkd (M.2.1 0 0) = 5 then if x_n32 (FP.fdiv (FP.i2f (M.1 (M.2.1 0 0) 10)) (FP.i2f (M.1 (M.2.1 0 0) 9))) = true then some (.inl (FP.fdiv (FP.i2f (M.1 (M.2.1 0 0) 10)) (FP.i2f (M.1 (M.2.1 0 0) 9)))) else none else none else none) else none
set_option maxHeartbeats 4000000 in
set_option maxRecDepth 100000 in
theorem t_X6_calmShare {l : Launch} {G : xG} {ta : Nat × Nat} {M : xM} {out : (UInt32 ⊕ String)} (hfl : l.stackTraces = false) (hf : f_X6_calmShare M = some out) : xMetX G l yX6_calmShare wsX6_calmShare (rm_X6_calmShare (xoc out) (xos out)) (xoc out) (xos out) ta M [.ref (xad G 0)] (xo xoF out) M := by
  refine x_metX (cc := cX6_calmShare) (nL := 1) (ret := some .float) (by decide) rfl (Nat.le_of_ble_eq_true rfl) ?_
  intro p e s m args below meth c C hr hlk htb
  have C : xC G p s m args c cX6_calmShare 1 wsX6_calmShare RX6 := C
  have i5 : ∀ w ∈ wsX30, w ∈ wsX6_calmShare := by decide +kernel
  have i8 : ∀ w ∈ wsX60, w ∈ wsX6_calmShare := by decide +kernel
  unfold f_X6_calmShare at hf
  show xW G p l e (rm_X6_calmShare (xoc out) (xos out)) s m args below meth c 1 (vx_MQ below (xQx G (xo xoF out) M) (xXc G (xo xoF out) M) args s (xoc out) (xos out) (xAs G)) 0 0 ta M 0 [(0, .ref (xad G 0))] []
  refine x_aload_n C 0 dX6_calmShare_0 rfl ?_
  obtain ⟨g1, hf⟩ := x_gd hf
  refine x_get8 C xkd_0 i8 0 (by decide) (by decide +kernel) rfl rfl dX6_calmShare_1 ?_
  refine x_get5 C g1 i5 9 (by decide) (by decide +kernel) rfl rfl dX6_calmShare_4 ?_
  refine x_if_ne C 21 dX6_calmShare_7 (by decide) (fun hc2 => ?_) (fun hc2 => ?_)
  · have hf := x_ine hc2 hf
    refine x_aload_n C 0 dX6_calmShare_21 rfl ?_
    obtain ⟨g3, hf⟩ := x_gd hf
    refine x_get8 C xkd_0 i8 0 (by decide) (by decide +kernel) rfl rfl dX6_calmShare_22 ?_
    refine x_get5 C g3 i5 10 (by decide) (by decide +kernel) rfl rfl dX6_calmShare_25 ?_
    refine x_i2f C dX6_calmShare_28 ?_
    refine x_aload_n C 0 dX6_calmShare_29 rfl ?_
    obtain ⟨g4, hf⟩ := x_gd hf
    refine x_get8 C xkd_0 i8 0 (by decide) (by decide +kernel) rfl rfl dX6_calmShare_30 ?_
    refine x_get5 C g4 i5 9 (by decide) (by decide +kernel) rfl rfl dX6_calmShare_33 ?_
    refine x_i2f C dX6_calmShare_36 ?_
    obtain ⟨g5, hf⟩ := x_gd hf
    refine x_fdiv C dX6_calmShare_37 (x_n32_of g5) ?_
    obtain rfl := Option.some.inj hf
    refine x_ret ?_
    exact x_fret C hr hlk dX6_calmShare_38
  · have hf := x_ip hc2 hf
    obtain rfl := Option.some.inj hf
    exact x_throwSW C hfl hlk htb (cls := "java/lang/ArithmeticException") (names := ["java/lang/RuntimeException", "java/lang/Exception"]) (ik := 290) (is := 295) (ic := 294) (text := "no customer has been served") (by decide +kernel) (by decide +kernel) (by decide +kernel) (by decide +kernel) (by decide +kernel) (by decide +kernel) (by decide +kernel) dX6_calmShare_10 dX6_calmShare_13 dX6_calmShare_14 dX6_calmShare_17 dX6_calmShare_20 (Nat.le_of_ble_eq_true rfl) (Nat.le_of_ble_eq_true rfl) (Nat.le_of_ble_eq_true rfl) (Nat.le_of_ble_eq_true rfl) (Nat.le_of_ble_eq_true rfl) (Nat.le_of_ble_eq_true rfl)
/-! WaitingRoomSimulation.isConsistent()Z -/
abbrev rm_X6_isConsistent (c s : Nat) : Room := { frames := 10, cells := c, slots := s, locals := 246 }
def f_X6_isConsistent_L2 (M : xM) : Nat → Int32 → Option ((Int32 ⊕ String) × xM)
  | 0, _ => none
  | n+1, v1 => if xkd (M.2.1 0 0) = 5 then (if (M.1 (M.2.1 0 0) 1) ≤ v1 then (f_X6_inversions M).bind fun q3 => (f_X6_inversionsByBubbleSort M).bind fun q5 => (if q3 = q5.1 then if xkd (q5.2.2.1 0 0) = 5 then if xkd (q5.2.2.1 0 0) = 5 then if xkd (q5.2.2.1 0 0) = 5 then if xkd (q5.2.2.1 0 0) = 5 then if xkd (q5.2.2.1 0 0) = 5 then (if (q5.2.1 (q5.2.2.1 0 0) 8) = ((((q5.2.1 (q5.2.2.1 0 0) 1) + (q5.2.1 (q5.2.2.1 0 0) 9)) + (q5.2.1 (q5.2.2.1 0 0) 12)) + (q5.2.1 (q5.2.2.1 0 0) 11)) then some (.inl (1 : Int32), q5.2) else some (.inl (0 : Int32), q5.2)) else none else none else none else none else none else some (.inl (0 : Int32), q5.2)) else if xkd (M.2.1 0 0) = 5 then (f_X3_positionOf (M.2.1 0 0) v1 M).bind fun q15 => (if q15 = (-1 : Int32) then if xkd (M.2.1 0 0) = 5 then (f_X3_windowOf (M.2.1 0 0) v1 M).bind fun q19 => (if q19 = (-1 : Int32) then (if (0 : Int32) = (0 : Int32) then some (.inl (0 : Int32), M) else (f_X6_calledAhead v1 M).bind fun q23 => x_case q23 (fun r25 => (f_X6_calledAheadByPositions v1 M).bind fun q27 => x_case q27 (fun r29 => (if r25 = r29 then f_X6_isConsistent_L2 M n (v1 + 1) else some (.inl (0 : Int32), M))) (fun E30 => some (.inr E30, M))) (fun E26 => some (.inr E26, M))) else (if (0 : Int32) = (1 : Int32) then some (.inl (0 : Int32), M) else (f_X6_calledAhead v1 M).bind fun q33 => x_case q33 (fun r35 => (f_X6_calledAheadByPositions v1 M).bind fun q37 => x_case q37 (fun r39 => (if r35 = r39 then f_X6_isConsistent_L2 M n (v1 + 1) else some (.inl (0 : Int32), M))) (fun E40 => some (.inr E40, M))) (fun E36 => some (.inr E36, M)))) else none else if xkd (M.2.1 0 0) = 5 then (f_X3_windowOf (M.2.1 0 0) v1 M).bind fun q43 => (if q43 = (-1 : Int32) then (if (1 : Int32) = (0 : Int32) then some (.inl (0 : Int32), M) else (f_X6_calledAhead v1 M).bind fun q47 => x_case q47 (fun r49 => (f_X6_calledAheadByPositions v1 M).bind fun q51 => x_case q51 (fun r53 => (if r49 = r53 then f_X6_isConsistent_L2 M n (v1 + 1) else some (.inl (0 : Int32), M))) (fun E54 => some (.inr E54, M))) (fun E50 => some (.inr E50, M))) else (if (1 : Int32) = (1 : Int32) then some (.inl (0 : Int32), M) else (f_X6_calledAhead v1 M).bind fun q57 => x_case q57 (fun r59 => (f_X6_calledAheadByPositions v1 M).bind fun q61 => x_case q61 (fun r63 => (if r59 = r63 then f_X6_isConsistent_L2 M n (v1 + 1) else some (.inl (0 : Int32), M))) (fun E64 => some (.inr E64, M))) (fun E60 => some (.inr E60, M)))) else none) else none) else none
def f_X6_isConsistent (M : xM) : Option ((Int32 ⊕ String) × xM) := f_X6_isConsistent_L2 M xF (0 : Int32)
set_option maxHeartbeats 4000000 in
set_option maxRecDepth 100000 in
theorem t_X6_isConsistent_L2 {G : xG} {p : Program} {l : Launch} {e : Env} {s : State} {m : MethodId} {args : Array Value} {below : List Frame} {meth : Method} {c : Code} (C : xC G p s m args c cX6_isConsistent 4 wsX6_isConsistent RX6) (hr : meth.sig.returnType = some .boolean) (hlk : meth.locks = false) (htb : ∀ x ∈ c.exceptionTable.toList, False) (hfl : l.stackTraces = false) {M : xM} : ∀ (n : Nat) (v1 : Int32) (ta : Nat × Nat) (out : (Int32 ⊕ String) × xM), f_X6_isConsistent_L2 M n v1 = some out → xW G p l e (rm_X6_isConsistent (xoc out.1) (xos out.1)) s m args below meth c 4 (vx_MQ below (xQx G (xo xoI out.1) out.2) (xXc G (xo xoI out.1) out.2) args s (xoc out.1) (xos out.1) (xAs G)) 0 0 ta M 2 [(0, .ref (xad G 0)), (1, .int v1)] [] := by
  intro n
  induction n with
  | zero =>
    intro v1 ta out hf
    rw [f_X6_isConsistent_L2] at hf
    cases hf
  | succ n ih =>
    intro v1 ta out hf
    rw [f_X6_isConsistent_L2] at hf
    have i5 : ∀ w ∈ wsX30, w ∈ wsX6_isConsistent := by decide +kernel
    have i8 : ∀ w ∈ wsX60, w ∈ wsX6_isConsistent := by decide +kernel
    refine x_iload_n C 1 dX6_isConsistent_2 rfl ?_
    refine x_aload_n C 0 dX6_isConsistent_3 rfl ?_
    obtain ⟨g1, hf⟩ := x_gd hf
    refine x_get8 C xkd_0 i8 0 (by decide) (by decide +kernel) rfl rfl dX6_isConsistent_4 ?_
    refine x_get5 C g1 i5 1 (by decide) (by decide +kernel) rfl rfl dX6_isConsistent_7 ?_
    refine x_icmp_ge C 75 dX6_isConsistent_10 (by decide) (fun hc2 => ?_) (fun hc2 => ?_)
    · have hf := x_ip hc2 hf
      refine x_aload_n C 0 dX6_isConsistent_75 rfl ?_
      obtain ⟨q3, hg, hf⟩ := x_bd hf
      refine x_callVr C (by rw [xkd_0]; decide) (by rw [xkd_0]; decide) (xc8 xkd_0) rfl (t_X6_inversions hg) (cwV 0 C.1.2.2.2.2 gX6_isConsistent_X6_inversions rfl rfl rfl (by decide +kernel) ⟨Nat.le_of_ble_eq_true rfl, Nat.le_of_ble_eq_true rfl⟩) rfl rfl (Nat.le_of_ble_eq_true rfl) dX6_isConsistent_76 ⟨Nat.zero_le _, Nat.zero_le _⟩ (fun ta4 => ?_)
      clear hg
      refine x_aload_n C 0 dX6_isConsistent_79 rfl ?_
      obtain ⟨q5, hg, hf⟩ := x_bd hf
      refine x_callVr C (by rw [xkd_0]; decide) (by rw [xkd_0]; decide) (xc8 xkd_0) rfl (t_X6_inversionsByBubbleSort hg) (cwV 0 C.1.2.2.2.2 gX6_isConsistent_X6_inversionsByBubbleSort rfl rfl rfl (by decide +kernel) ⟨Nat.le_of_ble_eq_true rfl, Nat.le_of_ble_eq_true rfl⟩) rfl rfl (Nat.le_of_ble_eq_true rfl) dX6_isConsistent_80 ⟨Nat.zero_le _, Nat.zero_le _⟩ (fun ta6 => ?_)
      clear hg
      refine x_icmp_ne C 131 dX6_isConsistent_83 (by decide) (fun hc7 => ?_) (fun hc7 => ?_)
      · have hf := x_ine hc7 hf
        refine x_iconst (v := 0) C dX6_isConsistent_131 (by decide) ?_
        obtain rfl := Option.some.inj hf
        refine x_ret ?_
        exact x_zret C hr hlk (x_nb (Or.inl rfl)) dX6_isConsistent_132
      · have hf := x_ip hc7 hf
        refine x_aload_n C 0 dX6_isConsistent_86 rfl ?_
        obtain ⟨g8, hf⟩ := x_gd hf
        refine x_get8 C xkd_0 i8 0 (by decide) (by decide +kernel) rfl rfl dX6_isConsistent_87 ?_
        refine x_get5 C g8 i5 8 (by decide) (by decide +kernel) rfl rfl dX6_isConsistent_90 ?_
        refine x_aload_n C 0 dX6_isConsistent_93 rfl ?_
        obtain ⟨g9, hf⟩ := x_gd hf
        refine x_get8 C xkd_0 i8 0 (by decide) (by decide +kernel) rfl rfl dX6_isConsistent_94 ?_
        refine x_get5 C g9 i5 1 (by decide) (by decide +kernel) rfl rfl dX6_isConsistent_97 ?_
        refine x_aload_n C 0 dX6_isConsistent_100 rfl ?_
        obtain ⟨g10, hf⟩ := x_gd hf
        refine x_get8 C xkd_0 i8 0 (by decide) (by decide +kernel) rfl rfl dX6_isConsistent_101 ?_
        refine x_get5 C g10 i5 9 (by decide) (by decide +kernel) rfl rfl dX6_isConsistent_104 ?_
        refine x_iadd C dX6_isConsistent_107 ?_
        refine x_aload_n C 0 dX6_isConsistent_108 rfl ?_
        obtain ⟨g11, hf⟩ := x_gd hf
        refine x_get8 C xkd_0 i8 0 (by decide) (by decide +kernel) rfl rfl dX6_isConsistent_109 ?_
        refine x_get5 C g11 i5 12 (by decide) (by decide +kernel) rfl rfl dX6_isConsistent_112 ?_
        refine x_iadd C dX6_isConsistent_115 ?_
        refine x_aload_n C 0 dX6_isConsistent_116 rfl ?_
        obtain ⟨g12, hf⟩ := x_gd hf
        refine x_get8 C xkd_0 i8 0 (by decide) (by decide +kernel) rfl rfl dX6_isConsistent_117 ?_
        refine x_get5 C g12 i5 11 (by decide) (by decide +kernel) rfl rfl dX6_isConsistent_120 ?_
        refine x_iadd C dX6_isConsistent_123 ?_
        refine x_icmp_ne C 131 dX6_isConsistent_124 (by decide) (fun hc13 => ?_) (fun hc13 => ?_)
        · have hf := x_ine hc13 hf
          refine x_iconst (v := 0) C dX6_isConsistent_131 (by decide) ?_
          obtain rfl := Option.some.inj hf
          refine x_ret ?_
          exact x_zret C hr hlk (x_nb (Or.inl rfl)) dX6_isConsistent_132
        · have hf := x_ip hc13 hf
          refine x_iconst (v := 1) C dX6_isConsistent_127 (by decide) ?_
          refine x_goto C 132 dX6_isConsistent_128 (by decide) ?_
          obtain rfl := Option.some.inj hf
          refine x_ret ?_
          exact x_zret C hr hlk (x_nb (Or.inr rfl)) dX6_isConsistent_132
    · have hf := x_ine hc2 hf
      refine x_aload_n C 0 dX6_isConsistent_13 rfl ?_
      obtain ⟨g14, hf⟩ := x_gd hf
      refine x_get8 C xkd_0 i8 0 (by decide) (by decide +kernel) rfl rfl dX6_isConsistent_14 ?_
      refine x_iload_n C 1 dX6_isConsistent_17 rfl ?_
      obtain ⟨q15, hg, hf⟩ := x_bd hf
      refine x_callVr C (by rw [g14]; decide) (by rw [g14]; decide) (xc5 g14) rfl (t_X3_positionOf g14 hg) (cwV 1 C.1.2.2.2.2 gX6_isConsistent_X3_positionOf rfl rfl rfl (by decide +kernel) ⟨Nat.le_of_ble_eq_true rfl, Nat.le_of_ble_eq_true rfl⟩) rfl rfl (Nat.le_of_ble_eq_true rfl) dX6_isConsistent_18 ⟨Nat.zero_le _, Nat.zero_le _⟩ (fun ta16 => ?_)
      clear hg
      refine x_iconst (v := (-1)) C dX6_isConsistent_21 (by decide) ?_
      refine x_icmp_eq C 29 dX6_isConsistent_22 (by decide) (fun hc17 => ?_) (fun hc17 => ?_)
      · have hf := x_ip hc17 hf
        refine x_iconst (v := 0) C dX6_isConsistent_29 (by decide) ?_
        refine x_istore_n (lv' := [(2, .int (0 : Int32)), (0, .ref (xad G 0)), (1, .int v1)]) C dX6_isConsistent_30 rfl (by decide) rfl ?_
        refine x_aload_n C 1 dX6_isConsistent_31 rfl ?_
        obtain ⟨g18, hf⟩ := x_gd hf
        refine x_get8 C xkd_0 i8 0 (by decide) (by decide +kernel) rfl rfl dX6_isConsistent_32 ?_
        refine x_iload_n C 2 dX6_isConsistent_35 rfl ?_
        obtain ⟨q19, hg, hf⟩ := x_bd hf
        refine x_callVr C (by rw [g18]; decide) (by rw [g18]; decide) (xc5 g18) rfl (t_X3_windowOf g18 hg) (cwV 1 C.1.2.2.2.2 gX6_isConsistent_X3_windowOf rfl rfl rfl (by decide +kernel) ⟨Nat.le_of_ble_eq_true rfl, Nat.le_of_ble_eq_true rfl⟩) rfl rfl (Nat.le_of_ble_eq_true rfl) dX6_isConsistent_36 ⟨Nat.zero_le _, Nat.zero_le _⟩ (fun ta20 => ?_)
        clear hg
        refine x_iconst (v := (-1)) C dX6_isConsistent_39 (by decide) ?_
        refine x_icmp_eq C 47 dX6_isConsistent_40 (by decide) (fun hc21 => ?_) (fun hc21 => ?_)
        · have hf := x_ip hc21 hf
          refine x_iconst (v := 0) C dX6_isConsistent_47 (by decide) ?_
          refine x_istore_n (lv' := [(3, .int (0 : Int32)), (2, .int (0 : Int32)), (0, .ref (xad G 0)), (1, .int v1)]) C dX6_isConsistent_48 rfl (by decide) rfl ?_
          refine x_iload_n C 1 dX6_isConsistent_49 rfl ?_
          refine x_iload_n C 0 dX6_isConsistent_50 rfl ?_
          refine x_icmp_eq C 67 dX6_isConsistent_51 (by decide) (fun hc22 => ?_) (fun hc22 => ?_)
          · have hf := x_ip hc22 hf
            refine x_iconst (v := 0) C dX6_isConsistent_67 (by decide) ?_
            obtain rfl := Option.some.inj hf
            refine x_ret ?_
            exact x_zret C hr hlk (x_nb (Or.inl rfl)) dX6_isConsistent_68
          · have hf := x_ine hc22 hf
            refine x_aload_n C 2 dX6_isConsistent_54 rfl ?_
            refine x_iload_n C 3 dX6_isConsistent_55 rfl ?_
            obtain ⟨q23, hg, hf⟩ := x_bd hf
            rcases q23 with r25 | E26
            · have hf := x_ci hf
              refine x_callVXr (w := .int r25) (mc := 0) (ms := 0) C (by rw [xkd_0]; decide) (by rw [xkd_0]; decide) (xc8 xkd_0) rfl (t_X6_calledAhead hfl hg) (cwV 1 C.1.2.2.2.2 gX6_isConsistent_X6_calledAhead rfl rfl rfl (by decide +kernel) ⟨Nat.le_of_ble_eq_true rfl, Nat.le_of_ble_eq_true rfl⟩) rfl rfl (Nat.le_of_ble_eq_true rfl) dX6_isConsistent_56 ⟨Nat.zero_le _, Nat.zero_le _⟩ (fun ta24 => ?_)
              clear hg
              refine x_aload_n C 2 dX6_isConsistent_59 rfl ?_
              refine x_iload_n C 3 dX6_isConsistent_60 rfl ?_
              obtain ⟨q27, hg, hf⟩ := x_bd hf
              rcases q27 with r29 | E30
              · have hf := x_ci hf
                refine x_callVXr (w := .int r29) (mc := 0) (ms := 0) C (by rw [xkd_0]; decide) (by rw [xkd_0]; decide) (xc8 xkd_0) rfl (t_X6_calledAheadByPositions hfl hg) (cwV 1 C.1.2.2.2.2 gX6_isConsistent_X6_calledAheadByPositions rfl rfl rfl (by decide +kernel) ⟨Nat.le_of_ble_eq_true rfl, Nat.le_of_ble_eq_true rfl⟩) rfl rfl (Nat.le_of_ble_eq_true rfl) dX6_isConsistent_61 ⟨Nat.zero_le _, Nat.zero_le _⟩ (fun ta28 => ?_)
                clear hg
                refine x_icmp_eq C 69 dX6_isConsistent_64 (by decide) (fun hc31 => ?_) (fun hc31 => ?_)
                · have hf := x_ip hc31 hf
                  refine x_iinc (v := v1 + 1) (lv' := [(1, .int (v1 + 1)), (3, .int (0 : Int32)), (2, .int (0 : Int32)), (0, .ref (xad G 0))]) C 3 dX6_isConsistent_69 rfl rfl (by decide) rfl ?_
                  refine x_goto C 2 dX6_isConsistent_72 (by decide) ?_
                  refine x_sub [3, 0] rfl ?_
                  exact ih (v1 + 1) _ _ hf
                · have hf := x_ine hc31 hf
                  refine x_iconst (v := 0) C dX6_isConsistent_67 (by decide) ?_
                  obtain rfl := Option.some.inj hf
                  refine x_ret ?_
                  exact x_zret C hr hlk (x_nb (Or.inl rfl)) dX6_isConsistent_68
              · have hf := x_cx hf
                obtain rfl := Option.some.inj hf
                refine x_callVXt (mc := 1) (ms := 6) C (by rw [xkd_0]; decide) (by rw [xkd_0]; decide) (xc8 xkd_0) rfl (t_X6_calledAheadByPositions hfl hg) (cwV 1 C.1.2.2.2.2 gX6_isConsistent_X6_calledAheadByPositions rfl rfl rfl (by decide +kernel) ⟨Nat.le_of_ble_eq_true rfl, Nat.le_of_ble_eq_true rfl⟩) rfl rfl (Nat.le_of_ble_eq_true rfl) dX6_isConsistent_61 ⟨Nat.le_of_ble_eq_true rfl, Nat.le_of_ble_eq_true rfl⟩ (fun ta28 => ?_)
                exact x_out C hlk htb (Nat.le_of_ble_eq_true rfl) (Nat.le_of_ble_eq_true rfl)
            · have hf := x_cx hf
              obtain rfl := Option.some.inj hf
              refine x_callVXt (mc := 1) (ms := 6) C (by rw [xkd_0]; decide) (by rw [xkd_0]; decide) (xc8 xkd_0) rfl (t_X6_calledAhead hfl hg) (cwV 1 C.1.2.2.2.2 gX6_isConsistent_X6_calledAhead rfl rfl rfl (by decide +kernel) ⟨Nat.le_of_ble_eq_true rfl, Nat.le_of_ble_eq_true rfl⟩) rfl rfl (Nat.le_of_ble_eq_true rfl) dX6_isConsistent_56 ⟨Nat.le_of_ble_eq_true rfl, Nat.le_of_ble_eq_true rfl⟩ (fun ta24 => ?_)
              exact x_out C hlk htb (Nat.le_of_ble_eq_true rfl) (Nat.le_of_ble_eq_true rfl)
        · have hf := x_ine hc21 hf
          refine x_iconst (v := 1) C dX6_isConsistent_43 (by decide) ?_
          refine x_goto C 48 dX6_isConsistent_44 (by decide) ?_
          refine x_istore_n (lv' := [(3, .int (1 : Int32)), (2, .int (0 : Int32)), (0, .ref (xad G 0)), (1, .int v1)]) C dX6_isConsistent_48 rfl (by decide) rfl ?_
          refine x_iload_n C 1 dX6_isConsistent_49 rfl ?_
          refine x_iload_n C 0 dX6_isConsistent_50 rfl ?_
          refine x_icmp_eq C 67 dX6_isConsistent_51 (by decide) (fun hc32 => ?_) (fun hc32 => ?_)
          · have hf := x_ip hc32 hf
            refine x_iconst (v := 0) C dX6_isConsistent_67 (by decide) ?_
            obtain rfl := Option.some.inj hf
            refine x_ret ?_
            exact x_zret C hr hlk (x_nb (Or.inl rfl)) dX6_isConsistent_68
          · have hf := x_ine hc32 hf
            refine x_aload_n C 2 dX6_isConsistent_54 rfl ?_
            refine x_iload_n C 3 dX6_isConsistent_55 rfl ?_
            obtain ⟨q33, hg, hf⟩ := x_bd hf
            rcases q33 with r35 | E36
            · have hf := x_ci hf
              refine x_callVXr (w := .int r35) (mc := 0) (ms := 0) C (by rw [xkd_0]; decide) (by rw [xkd_0]; decide) (xc8 xkd_0) rfl (t_X6_calledAhead hfl hg) (cwV 1 C.1.2.2.2.2 gX6_isConsistent_X6_calledAhead rfl rfl rfl (by decide +kernel) ⟨Nat.le_of_ble_eq_true rfl, Nat.le_of_ble_eq_true rfl⟩) rfl rfl (Nat.le_of_ble_eq_true rfl) dX6_isConsistent_56 ⟨Nat.zero_le _, Nat.zero_le _⟩ (fun ta34 => ?_)
              clear hg
              refine x_aload_n C 2 dX6_isConsistent_59 rfl ?_
              refine x_iload_n C 3 dX6_isConsistent_60 rfl ?_
              obtain ⟨q37, hg, hf⟩ := x_bd hf
              rcases q37 with r39 | E40
              · have hf := x_ci hf
                refine x_callVXr (w := .int r39) (mc := 0) (ms := 0) C (by rw [xkd_0]; decide) (by rw [xkd_0]; decide) (xc8 xkd_0) rfl (t_X6_calledAheadByPositions hfl hg) (cwV 1 C.1.2.2.2.2 gX6_isConsistent_X6_calledAheadByPositions rfl rfl rfl (by decide +kernel) ⟨Nat.le_of_ble_eq_true rfl, Nat.le_of_ble_eq_true rfl⟩) rfl rfl (Nat.le_of_ble_eq_true rfl) dX6_isConsistent_61 ⟨Nat.zero_le _, Nat.zero_le _⟩ (fun ta38 => ?_)
                clear hg
                refine x_icmp_eq C 69 dX6_isConsistent_64 (by decide) (fun hc41 => ?_) (fun hc41 => ?_)
                · have hf := x_ip hc41 hf
                  refine x_iinc (v := v1 + 1) (lv' := [(1, .int (v1 + 1)), (3, .int (1 : Int32)), (2, .int (0 : Int32)), (0, .ref (xad G 0))]) C 3 dX6_isConsistent_69 rfl rfl (by decide) rfl ?_
                  refine x_goto C 2 dX6_isConsistent_72 (by decide) ?_
                  refine x_sub [3, 0] rfl ?_
                  exact ih (v1 + 1) _ _ hf
                · have hf := x_ine hc41 hf
                  refine x_iconst (v := 0) C dX6_isConsistent_67 (by decide) ?_
                  obtain rfl := Option.some.inj hf
                  refine x_ret ?_
                  exact x_zret C hr hlk (x_nb (Or.inl rfl)) dX6_isConsistent_68
              · have hf := x_cx hf
                obtain rfl := Option.some.inj hf
                refine x_callVXt (mc := 1) (ms := 6) C (by rw [xkd_0]; decide) (by rw [xkd_0]; decide) (xc8 xkd_0) rfl (t_X6_calledAheadByPositions hfl hg) (cwV 1 C.1.2.2.2.2 gX6_isConsistent_X6_calledAheadByPositions rfl rfl rfl (by decide +kernel) ⟨Nat.le_of_ble_eq_true rfl, Nat.le_of_ble_eq_true rfl⟩) rfl rfl (Nat.le_of_ble_eq_true rfl) dX6_isConsistent_61 ⟨Nat.le_of_ble_eq_true rfl, Nat.le_of_ble_eq_true rfl⟩ (fun ta38 => ?_)
                exact x_out C hlk htb (Nat.le_of_ble_eq_true rfl) (Nat.le_of_ble_eq_true rfl)
            · have hf := x_cx hf
              obtain rfl := Option.some.inj hf
              refine x_callVXt (mc := 1) (ms := 6) C (by rw [xkd_0]; decide) (by rw [xkd_0]; decide) (xc8 xkd_0) rfl (t_X6_calledAhead hfl hg) (cwV 1 C.1.2.2.2.2 gX6_isConsistent_X6_calledAhead rfl rfl rfl (by decide +kernel) ⟨Nat.le_of_ble_eq_true rfl, Nat.le_of_ble_eq_true rfl⟩) rfl rfl (Nat.le_of_ble_eq_true rfl) dX6_isConsistent_56 ⟨Nat.le_of_ble_eq_true rfl, Nat.le_of_ble_eq_true rfl⟩ (fun ta34 => ?_)
              exact x_out C hlk htb (Nat.le_of_ble_eq_true rfl) (Nat.le_of_ble_eq_true rfl)
      · have hf := x_ine hc17 hf
        refine x_iconst (v := 1) C dX6_isConsistent_25 (by decide) ?_
        refine x_goto C 30 dX6_isConsistent_26 (by decide) ?_
        refine x_istore_n (lv' := [(2, .int (1 : Int32)), (0, .ref (xad G 0)), (1, .int v1)]) C dX6_isConsistent_30 rfl (by decide) rfl ?_
        refine x_aload_n C 1 dX6_isConsistent_31 rfl ?_
        obtain ⟨g42, hf⟩ := x_gd hf
        refine x_get8 C xkd_0 i8 0 (by decide) (by decide +kernel) rfl rfl dX6_isConsistent_32 ?_
        refine x_iload_n C 2 dX6_isConsistent_35 rfl ?_
        obtain ⟨q43, hg, hf⟩ := x_bd hf
        refine x_callVr C (by rw [g42]; decide) (by rw [g42]; decide) (xc5 g42) rfl (t_X3_windowOf g42 hg) (cwV 1 C.1.2.2.2.2 gX6_isConsistent_X3_windowOf rfl rfl rfl (by decide +kernel) ⟨Nat.le_of_ble_eq_true rfl, Nat.le_of_ble_eq_true rfl⟩) rfl rfl (Nat.le_of_ble_eq_true rfl) dX6_isConsistent_36 ⟨Nat.zero_le _, Nat.zero_le _⟩ (fun ta44 => ?_)
        clear hg
        refine x_iconst (v := (-1)) C dX6_isConsistent_39 (by decide) ?_
        refine x_icmp_eq C 47 dX6_isConsistent_40 (by decide) (fun hc45 => ?_) (fun hc45 => ?_)
        · have hf := x_ip hc45 hf
          refine x_iconst (v := 0) C dX6_isConsistent_47 (by decide) ?_
          refine x_istore_n (lv' := [(3, .int (0 : Int32)), (2, .int (1 : Int32)), (0, .ref (xad G 0)), (1, .int v1)]) C dX6_isConsistent_48 rfl (by decide) rfl ?_
          refine x_iload_n C 1 dX6_isConsistent_49 rfl ?_
          refine x_iload_n C 0 dX6_isConsistent_50 rfl ?_
          refine x_icmp_eq C 67 dX6_isConsistent_51 (by decide) (fun hc46 => ?_) (fun hc46 => ?_)
          · have hf := x_ip hc46 hf
            refine x_iconst (v := 0) C dX6_isConsistent_67 (by decide) ?_
            obtain rfl := Option.some.inj hf
            refine x_ret ?_
            exact x_zret C hr hlk (x_nb (Or.inl rfl)) dX6_isConsistent_68
          · have hf := x_ine hc46 hf
            refine x_aload_n C 2 dX6_isConsistent_54 rfl ?_
            refine x_iload_n C 3 dX6_isConsistent_55 rfl ?_
            obtain ⟨q47, hg, hf⟩ := x_bd hf
            rcases q47 with r49 | E50
            · have hf := x_ci hf
              refine x_callVXr (w := .int r49) (mc := 0) (ms := 0) C (by rw [xkd_0]; decide) (by rw [xkd_0]; decide) (xc8 xkd_0) rfl (t_X6_calledAhead hfl hg) (cwV 1 C.1.2.2.2.2 gX6_isConsistent_X6_calledAhead rfl rfl rfl (by decide +kernel) ⟨Nat.le_of_ble_eq_true rfl, Nat.le_of_ble_eq_true rfl⟩) rfl rfl (Nat.le_of_ble_eq_true rfl) dX6_isConsistent_56 ⟨Nat.zero_le _, Nat.zero_le _⟩ (fun ta48 => ?_)
              clear hg
              refine x_aload_n C 2 dX6_isConsistent_59 rfl ?_
              refine x_iload_n C 3 dX6_isConsistent_60 rfl ?_
              obtain ⟨q51, hg, hf⟩ := x_bd hf
              rcases q51 with r53 | E54
              · have hf := x_ci hf
                refine x_callVXr (w := .int r53) (mc := 0) (ms := 0) C (by rw [xkd_0]; decide) (by rw [xkd_0]; decide) (xc8 xkd_0) rfl (t_X6_calledAheadByPositions hfl hg) (cwV 1 C.1.2.2.2.2 gX6_isConsistent_X6_calledAheadByPositions rfl rfl rfl (by decide +kernel) ⟨Nat.le_of_ble_eq_true rfl, Nat.le_of_ble_eq_true rfl⟩) rfl rfl (Nat.le_of_ble_eq_true rfl) dX6_isConsistent_61 ⟨Nat.zero_le _, Nat.zero_le _⟩ (fun ta52 => ?_)
                clear hg
                refine x_icmp_eq C 69 dX6_isConsistent_64 (by decide) (fun hc55 => ?_) (fun hc55 => ?_)
                · have hf := x_ip hc55 hf
                  refine x_iinc (v := v1 + 1) (lv' := [(1, .int (v1 + 1)), (3, .int (0 : Int32)), (2, .int (1 : Int32)), (0, .ref (xad G 0))]) C 3 dX6_isConsistent_69 rfl rfl (by decide) rfl ?_
                  refine x_goto C 2 dX6_isConsistent_72 (by decide) ?_
                  refine x_sub [3, 0] rfl ?_
                  exact ih (v1 + 1) _ _ hf
                · have hf := x_ine hc55 hf
                  refine x_iconst (v := 0) C dX6_isConsistent_67 (by decide) ?_
                  obtain rfl := Option.some.inj hf
                  refine x_ret ?_
                  exact x_zret C hr hlk (x_nb (Or.inl rfl)) dX6_isConsistent_68
              · have hf := x_cx hf
                obtain rfl := Option.some.inj hf
                refine x_callVXt (mc := 1) (ms := 6) C (by rw [xkd_0]; decide) (by rw [xkd_0]; decide) (xc8 xkd_0) rfl (t_X6_calledAheadByPositions hfl hg) (cwV 1 C.1.2.2.2.2 gX6_isConsistent_X6_calledAheadByPositions rfl rfl rfl (by decide +kernel) ⟨Nat.le_of_ble_eq_true rfl, Nat.le_of_ble_eq_true rfl⟩) rfl rfl (Nat.le_of_ble_eq_true rfl) dX6_isConsistent_61 ⟨Nat.le_of_ble_eq_true rfl, Nat.le_of_ble_eq_true rfl⟩ (fun ta52 => ?_)
                exact x_out C hlk htb (Nat.le_of_ble_eq_true rfl) (Nat.le_of_ble_eq_true rfl)
            · have hf := x_cx hf
              obtain rfl := Option.some.inj hf
              refine x_callVXt (mc := 1) (ms := 6) C (by rw [xkd_0]; decide) (by rw [xkd_0]; decide) (xc8 xkd_0) rfl (t_X6_calledAhead hfl hg) (cwV 1 C.1.2.2.2.2 gX6_isConsistent_X6_calledAhead rfl rfl rfl (by decide +kernel) ⟨Nat.le_of_ble_eq_true rfl, Nat.le_of_ble_eq_true rfl⟩) rfl rfl (Nat.le_of_ble_eq_true rfl) dX6_isConsistent_56 ⟨Nat.le_of_ble_eq_true rfl, Nat.le_of_ble_eq_true rfl⟩ (fun ta48 => ?_)
              exact x_out C hlk htb (Nat.le_of_ble_eq_true rfl) (Nat.le_of_ble_eq_true rfl)
        · have hf := x_ine hc45 hf
          refine x_iconst (v := 1) C dX6_isConsistent_43 (by decide) ?_
          refine x_goto C 48 dX6_isConsistent_44 (by decide) ?_
          refine x_istore_n (lv' := [(3, .int (1 : Int32)), (2, .int (1 : Int32)), (0, .ref (xad G 0)), (1, .int v1)]) C dX6_isConsistent_48 rfl (by decide) rfl ?_
          refine x_iload_n C 1 dX6_isConsistent_49 rfl ?_
          refine x_iload_n C 0 dX6_isConsistent_50 rfl ?_
          refine x_icmp_eq C 67 dX6_isConsistent_51 (by decide) (fun hc56 => ?_) (fun hc56 => ?_)
          · have hf := x_ip hc56 hf
            refine x_iconst (v := 0) C dX6_isConsistent_67 (by decide) ?_
            obtain rfl := Option.some.inj hf
            refine x_ret ?_
            exact x_zret C hr hlk (x_nb (Or.inl rfl)) dX6_isConsistent_68
          · have hf := x_ine hc56 hf
            refine x_aload_n C 2 dX6_isConsistent_54 rfl ?_
            refine x_iload_n C 3 dX6_isConsistent_55 rfl ?_
            obtain ⟨q57, hg, hf⟩ := x_bd hf
            rcases q57 with r59 | E60
            · have hf := x_ci hf
              refine x_callVXr (w := .int r59) (mc := 0) (ms := 0) C (by rw [xkd_0]; decide) (by rw [xkd_0]; decide) (xc8 xkd_0) rfl (t_X6_calledAhead hfl hg) (cwV 1 C.1.2.2.2.2 gX6_isConsistent_X6_calledAhead rfl rfl rfl (by decide +kernel) ⟨Nat.le_of_ble_eq_true rfl, Nat.le_of_ble_eq_true rfl⟩) rfl rfl (Nat.le_of_ble_eq_true rfl) dX6_isConsistent_56 ⟨Nat.zero_le _, Nat.zero_le _⟩ (fun ta58 => ?_)
              clear hg
              refine x_aload_n C 2 dX6_isConsistent_59 rfl ?_
              refine x_iload_n C 3 dX6_isConsistent_60 rfl ?_
              obtain ⟨q61, hg, hf⟩ := x_bd hf
              rcases q61 with r63 | E64
              · have hf := x_ci hf
                refine x_callVXr (w := .int r63) (mc := 0) (ms := 0) C (by rw [xkd_0]; decide) (by rw [xkd_0]; decide) (xc8 xkd_0) rfl (t_X6_calledAheadByPositions hfl hg) (cwV 1 C.1.2.2.2.2 gX6_isConsistent_X6_calledAheadByPositions rfl rfl rfl (by decide +kernel) ⟨Nat.le_of_ble_eq_true rfl, Nat.le_of_ble_eq_true rfl⟩) rfl rfl (Nat.le_of_ble_eq_true rfl) dX6_isConsistent_61 ⟨Nat.zero_le _, Nat.zero_le _⟩ (fun ta62 => ?_)
                clear hg
                refine x_icmp_eq C 69 dX6_isConsistent_64 (by decide) (fun hc65 => ?_) (fun hc65 => ?_)
                · have hf := x_ip hc65 hf
                  refine x_iinc (v := v1 + 1) (lv' := [(1, .int (v1 + 1)), (3, .int (1 : Int32)), (2, .int (1 : Int32)), (0, .ref (xad G 0))]) C 3 dX6_isConsistent_69 rfl rfl (by decide) rfl ?_
                  refine x_goto C 2 dX6_isConsistent_72 (by decide) ?_
                  refine x_sub [3, 0] rfl ?_
                  exact ih (v1 + 1) _ _ hf
                · have hf := x_ine hc65 hf
                  refine x_iconst (v := 0) C dX6_isConsistent_67 (by decide) ?_
                  obtain rfl := Option.some.inj hf
                  refine x_ret ?_
                  exact x_zret C hr hlk (x_nb (Or.inl rfl)) dX6_isConsistent_68
              · have hf := x_cx hf
                obtain rfl := Option.some.inj hf
                refine x_callVXt (mc := 1) (ms := 6) C (by rw [xkd_0]; decide) (by rw [xkd_0]; decide) (xc8 xkd_0) rfl (t_X6_calledAheadByPositions hfl hg) (cwV 1 C.1.2.2.2.2 gX6_isConsistent_X6_calledAheadByPositions rfl rfl rfl (by decide +kernel) ⟨Nat.le_of_ble_eq_true rfl, Nat.le_of_ble_eq_true rfl⟩) rfl rfl (Nat.le_of_ble_eq_true rfl) dX6_isConsistent_61 ⟨Nat.le_of_ble_eq_true rfl, Nat.le_of_ble_eq_true rfl⟩ (fun ta62 => ?_)
                exact x_out C hlk htb (Nat.le_of_ble_eq_true rfl) (Nat.le_of_ble_eq_true rfl)
            · have hf := x_cx hf
              obtain rfl := Option.some.inj hf
              refine x_callVXt (mc := 1) (ms := 6) C (by rw [xkd_0]; decide) (by rw [xkd_0]; decide) (xc8 xkd_0) rfl (t_X6_calledAhead hfl hg) (cwV 1 C.1.2.2.2.2 gX6_isConsistent_X6_calledAhead rfl rfl rfl (by decide +kernel) ⟨Nat.le_of_ble_eq_true rfl, Nat.le_of_ble_eq_true rfl⟩) rfl rfl (Nat.le_of_ble_eq_true rfl) dX6_isConsistent_56 ⟨Nat.le_of_ble_eq_true rfl, Nat.le_of_ble_eq_true rfl⟩ (fun ta58 => ?_)
              exact x_out C hlk htb (Nat.le_of_ble_eq_true rfl) (Nat.le_of_ble_eq_true rfl)
set_option maxHeartbeats 4000000 in
set_option maxRecDepth 100000 in
theorem t_X6_isConsistent {l : Launch} {G : xG} {ta : Nat × Nat} {M : xM} {out : (Int32 ⊕ String) × xM} (hfl : l.stackTraces = false) (hf : f_X6_isConsistent M = some out) : xMetX G l yX6_isConsistent wsX6_isConsistent (rm_X6_isConsistent (xoc out.1) (xos out.1)) (xoc out.1) (xos out.1) ta M [.ref (xad G 0)] (xo xoI out.1) out.2 := by
  refine x_metX (cc := cX6_isConsistent) (nL := 4) (ret := some .boolean) (by decide) rfl (Nat.le_of_ble_eq_true rfl) ?_
  intro p e s m args below meth c C hr hlk htb
  have C : xC G p s m args c cX6_isConsistent 4 wsX6_isConsistent RX6 := C
  have i5 : ∀ w ∈ wsX30, w ∈ wsX6_isConsistent := by decide +kernel
  have i8 : ∀ w ∈ wsX60, w ∈ wsX6_isConsistent := by decide +kernel
  unfold f_X6_isConsistent at hf
  show xW G p l e (rm_X6_isConsistent (xoc out.1) (xos out.1)) s m args below meth c 4 (vx_MQ below (xQx G (xo xoI out.1) out.2) (xXc G (xo xoI out.1) out.2) args s (xoc out.1) (xos out.1) (xAs G)) 0 0 ta M 0 [(0, .ref (xad G 0))] []
  refine x_iconst (v := 0) C dX6_isConsistent_0 (by decide) ?_
  refine x_istore_n (lv' := [(1, .int (0 : Int32)), (0, .ref (xad G 0))]) C dX6_isConsistent_1 rfl (by decide) rfl ?_
  refine x_sub [1, 0] rfl ?_
  exact t_X6_isConsistent_L2 C hr hlk htb hfl xF (0 : Int32) _ _ hf
/-! WaitingRoomSimulation.writeQueued(LWaitingRoomSimulation$Customer;)V -/
abbrev rm_X6_writeQueued (c s : Nat) : Room := { frames := 9, cells := c, slots := s, locals := 366 }
def f_X6_writeQueued (a1 : Nat) (M : xM) : Option (xM) := (f_J4_append_bf812 6 (M.1 a1 0) M).bind fun q1 => (if (q1.1 a1 5) = 0 then (if (q1.1 a1 6) = 0 then some q1 else (f_J4_append_cf468 6 (95 : Int32) q1).bind fun q5 => some q5) else (f_J4_append_cf468 6 (33 : Int32) q1).bind fun q7 => (if (q7.1 a1 6) = 0 then some q7 else (f_J4_append_cf468 6 (95 : Int32) q7).bind fun q10 => some q10))
set_option maxHeartbeats 4000000 in
set_option maxRecDepth 100000 in
theorem t_X6_writeQueued {l : Launch} {G : xG} {ta : Nat × Nat} {M : xM} {a1 : Nat} {out : xM} (ka1 : xkd a1 = 4) (hf : f_X6_writeQueued a1 M = some out) : xMet G l yX6_writeQueued wsX6_writeQueued (rm_X6_writeQueued 3 426) 3 426 ta M [.ref (xad G 0), .ref (xad G a1)] none out := by
  refine x_met (cc := cX6_writeQueued) (nL := 2) (ret := none) (by decide) rfl (Nat.le_of_ble_eq_true rfl) ?_
  intro p e s m args below meth c C hr hlk
  have C : xC G p s m args c cX6_writeQueued 2 wsX6_writeQueued RX6 := C
  have i4 : ∀ w ∈ wsX20, w ∈ wsX6_writeQueued := by decide +kernel
  have i8 : ∀ w ∈ wsX60, w ∈ wsX6_writeQueued := by decide +kernel
  unfold f_X6_writeQueued at hf
  show xW G p l e (rm_X6_writeQueued 3 426) s m args below meth c 2 (MQ below (xQr G none out) args s 3 426 (xAs G)) 0 0 ta M 0 [(0, .ref (xad G 0)), (1, .ref (xad G a1))] []
  refine x_aload_n C 0 dX6_writeQueued_0 rfl ?_
  refine x_get8 C xkd_0 i8 9 (by decide) (by decide +kernel) rfl rfl dX6_writeQueued_1 ?_
  refine x_aload_n C 1 dX6_writeQueued_4 rfl ?_
  refine x_get4 C ka1 i4 0 (by decide) (by decide +kernel) rfl rfl dX6_writeQueued_5 ?_
  obtain ⟨q1, hg, hf⟩ := x_bd hf
  refine x_callVr C (by rw [xkd_6]; decide) (by rw [xkd_6]; decide) (xc1 xkd_6) rfl (t_J4_append_bf812 xkd_6 hg) (cwV 1 C.1.2.2.2.2 gX6_writeQueued_J4_append_bf812 rfl rfl rfl (by decide +kernel) ⟨Nat.le_of_ble_eq_true rfl, Nat.le_of_ble_eq_true rfl⟩) rfl rfl (Nat.le_of_ble_eq_true rfl) dX6_writeQueued_8 ⟨Nat.le_of_ble_eq_true rfl, Nat.le_of_ble_eq_true rfl⟩ (fun ta2 => ?_)
  clear hg
  refine x_pop C dX6_writeQueued_11 rfl ?_
  refine x_aload_n C 1 dX6_writeQueued_12 rfl ?_
  refine x_get4 C ka1 i4 5 (by decide) (by decide +kernel) rfl rfl dX6_writeQueued_13 ?_
  refine x_if_eq C 29 dX6_writeQueued_16 (by decide) (fun hc3 => ?_) (fun hc3 => ?_)
  · have hf := x_ip hc3 hf
    refine x_aload_n C 1 dX6_writeQueued_29 rfl ?_
    refine x_get4 C ka1 i4 6 (by decide) (by decide +kernel) rfl rfl dX6_writeQueued_30 ?_
    refine x_if_eq C 46 dX6_writeQueued_33 (by decide) (fun hc4 => ?_) (fun hc4 => ?_)
    · have hf := x_ip hc4 hf
      obtain rfl := Option.some.inj hf
      refine x_widen (k' := 3) (n' := 426) (Nat.le_of_ble_eq_true rfl) (Nat.le_of_ble_eq_true rfl) ?_
      exact x_vret C hr hlk dX6_writeQueued_46
    · have hf := x_ine hc4 hf
      refine x_aload_n C 0 dX6_writeQueued_36 rfl ?_
      refine x_get8 C xkd_0 i8 9 (by decide) (by decide +kernel) rfl rfl dX6_writeQueued_37 ?_
      refine x_bipush (v := 95) C dX6_writeQueued_40 (by decide) ?_
      obtain ⟨q5, hg, hf⟩ := x_bd hf
      refine x_callVr C (by rw [xkd_6]; decide) (by rw [xkd_6]; decide) (xc1 xkd_6) rfl (t_J4_append_cf468 xkd_6 hg) (cwV 1 C.1.2.2.2.2 gX6_writeQueued_J4_append_cf468 rfl rfl rfl (by decide +kernel) ⟨Nat.le_of_ble_eq_true rfl, Nat.le_of_ble_eq_true rfl⟩) rfl rfl (Nat.le_of_ble_eq_true rfl) dX6_writeQueued_42 ⟨Nat.le_of_ble_eq_true rfl, Nat.le_of_ble_eq_true rfl⟩ (fun ta6 => ?_)
      clear hg
      refine x_pop C dX6_writeQueued_45 rfl ?_
      obtain rfl := Option.some.inj hf
      refine x_widen (k' := 3) (n' := 426) (Nat.le_of_ble_eq_true rfl) (Nat.le_of_ble_eq_true rfl) ?_
      exact x_vret C hr hlk dX6_writeQueued_46
  · have hf := x_ine hc3 hf
    refine x_aload_n C 0 dX6_writeQueued_19 rfl ?_
    refine x_get8 C xkd_0 i8 9 (by decide) (by decide +kernel) rfl rfl dX6_writeQueued_20 ?_
    refine x_bipush (v := 33) C dX6_writeQueued_23 (by decide) ?_
    obtain ⟨q7, hg, hf⟩ := x_bd hf
    refine x_callVr C (by rw [xkd_6]; decide) (by rw [xkd_6]; decide) (xc1 xkd_6) rfl (t_J4_append_cf468 xkd_6 hg) (cwV 1 C.1.2.2.2.2 gX6_writeQueued_J4_append_cf468 rfl rfl rfl (by decide +kernel) ⟨Nat.le_of_ble_eq_true rfl, Nat.le_of_ble_eq_true rfl⟩) rfl rfl (Nat.le_of_ble_eq_true rfl) dX6_writeQueued_25 ⟨Nat.le_of_ble_eq_true rfl, Nat.le_of_ble_eq_true rfl⟩ (fun ta8 => ?_)
    clear hg
    refine x_pop C dX6_writeQueued_28 rfl ?_
    refine x_aload_n C 1 dX6_writeQueued_29 rfl ?_
    refine x_get4 C ka1 i4 6 (by decide) (by decide +kernel) rfl rfl dX6_writeQueued_30 ?_
    refine x_if_eq C 46 dX6_writeQueued_33 (by decide) (fun hc9 => ?_) (fun hc9 => ?_)
    · have hf := x_ip hc9 hf
      obtain rfl := Option.some.inj hf
      refine x_widen (k' := 3) (n' := 426) (Nat.le_of_ble_eq_true rfl) (Nat.le_of_ble_eq_true rfl) ?_
      exact x_vret C hr hlk dX6_writeQueued_46
    · have hf := x_ine hc9 hf
      refine x_aload_n C 0 dX6_writeQueued_36 rfl ?_
      refine x_get8 C xkd_0 i8 9 (by decide) (by decide +kernel) rfl rfl dX6_writeQueued_37 ?_
      refine x_bipush (v := 95) C dX6_writeQueued_40 (by decide) ?_
      obtain ⟨q10, hg, hf⟩ := x_bd hf
      refine x_callVr C (by rw [xkd_6]; decide) (by rw [xkd_6]; decide) (xc1 xkd_6) rfl (t_J4_append_cf468 xkd_6 hg) (cwV 1 C.1.2.2.2.2 gX6_writeQueued_J4_append_cf468 rfl rfl rfl (by decide +kernel) ⟨Nat.le_of_ble_eq_true rfl, Nat.le_of_ble_eq_true rfl⟩) rfl rfl (Nat.le_of_ble_eq_true rfl) dX6_writeQueued_42 ⟨Nat.le_of_ble_eq_true rfl, Nat.le_of_ble_eq_true rfl⟩ (fun ta11 => ?_)
      clear hg
      refine x_pop C dX6_writeQueued_45 rfl ?_
      obtain rfl := Option.some.inj hf
      refine x_widen (k' := 3) (n' := 426) (Nat.le_of_ble_eq_true rfl) (Nat.le_of_ble_eq_true rfl) ?_
      exact x_vret C hr hlk dX6_writeQueued_46
/-! WaitingRoomSimulation.renderQueue()I -/
abbrev rm_X6_renderQueue (c s : Nat) : Room := { frames := 10, cells := c, slots := s, locals := 387 }
def f_X6_renderQueue_L10 : Nat → Int32 → xM → Option (Int32 × xM)
  | 0, _, _ => none
  | n+1, v1, M => if xkd (M.2.1 0 0) = 5 then (if (M.1 (M.2.1 0 0) 3) ≤ v1 then (f_J4_length_8abf5 6 M).bind fun q5 => some (q5, M) else (if v1 ≤ 0 then if xkd (M.2.1 0 0) = 5 then if xkd (M.2.1 0 0) = 5 then if x_in v1 12 = true then if x_in (M.1 ((M.2.1 0 0) + 2) v1.toNatClampNeg) 12 = true then if xkd (M.2.1 ((M.2.1 0 0) + 1) (M.1 ((M.2.1 0 0) + 2) v1.toNatClampNeg).toNatClampNeg) = 4 then (f_X6_writeQueued (M.2.1 ((M.2.1 0 0) + 1) (M.1 ((M.2.1 0 0) + 2) v1.toNatClampNeg).toNatClampNeg) M).bind fun q13 => f_X6_renderQueue_L10 n (v1 + 1) q13 else none else none else none else none else none else (f_J4_append_cf468 6 (32 : Int32) M).bind fun q15 => if xkd (q15.2.1 0 0) = 5 then if xkd (q15.2.1 0 0) = 5 then if x_in v1 12 = true then if x_in (q15.1 ((q15.2.1 0 0) + 2) v1.toNatClampNeg) 12 = true then if xkd (q15.2.1 ((q15.2.1 0 0) + 1) (q15.1 ((q15.2.1 0 0) + 2) v1.toNatClampNeg).toNatClampNeg) = 4 then (f_X6_writeQueued (q15.2.1 ((q15.2.1 0 0) + 1) (q15.1 ((q15.2.1 0 0) + 2) v1.toNatClampNeg).toNatClampNeg) q15).bind fun q22 => f_X6_renderQueue_L10 n (v1 + 1) q22 else none else none else none else none else none)) else none
def f_X6_renderQueue (M : xM) : Option (Int32 × xM) := (f_J4_setLength_d00df 6 (0 : Int32) M).bind fun q1 => f_X6_renderQueue_L10 13 (0 : Int32) q1
set_option maxHeartbeats 4000000 in
set_option maxRecDepth 100000 in
theorem t_X6_renderQueue_L10 {G : xG} {p : Program} {l : Launch} {e : Env} {s : State} {m : MethodId} {args : Array Value} {below : List Frame} {meth : Method} {c : Code} (C : xC G p s m args c cX6_renderQueue 2 wsX6_renderQueue RX6) (hr : meth.sig.returnType = some .int) (hlk : meth.locks = false) : ∀ (n : Nat) (v1 : Int32) (M : xM) (ta : Nat × Nat) (k0 n0 : Nat) (hk0 : k0 + n * 4 ≤ 53) (hn0 : n0 + n * 568 ≤ 7526) (out : Int32 × xM), f_X6_renderQueue_L10 n v1 M = some out → xW G p l e (rm_X6_renderQueue 53 7526) s m args below meth c 2 (MQ below (xQr G (some (.int out.1)) out.2) args s 53 7526 (xAs G)) k0 n0 ta M 10 [(0, .ref (xad G 0)), (1, .int v1)] [] := by
  intro n
  induction n with
  | zero =>
    intro v1 M ta k0 n0 hk0 hn0 out hf
    rw [f_X6_renderQueue_L10] at hf
    cases hf
  | succ n ih =>
    intro v1 M ta k0 n0 hk0 hn0 out hf
    rw [f_X6_renderQueue_L10] at hf
    have i5 : ∀ w ∈ wsX30, w ∈ wsX6_renderQueue := by decide +kernel
    have i8 : ∀ w ∈ wsX60, w ∈ wsX6_renderQueue := by decide +kernel
    refine x_iload_n C 1 dX6_renderQueue_10 rfl ?_
    refine x_aload_n C 0 dX6_renderQueue_11 rfl ?_
    obtain ⟨g3, hf⟩ := x_gd hf
    refine x_get8 C xkd_0 i8 0 (by decide) (by decide +kernel) rfl rfl dX6_renderQueue_12 ?_
    refine x_get5 C g3 i5 3 (by decide) (by decide +kernel) rfl rfl dX6_renderQueue_15 ?_
    refine x_icmp_ge C 62 dX6_renderQueue_18 (by decide) (fun hc4 => ?_) (fun hc4 => ?_)
    · have hf := x_ip hc4 hf
      refine x_aload_n C 0 dX6_renderQueue_62 rfl ?_
      refine x_get8 C xkd_0 i8 9 (by decide) (by decide +kernel) rfl rfl dX6_renderQueue_63 ?_
      obtain ⟨q5, hg, hf⟩ := x_bd hf
      refine x_callVCTr C (xRv_1 C xkd_6) (t_J4_length_8abf5 xkd_6 hg) (cwV 0 C.1.2.2.2.2 gX6_renderQueue_J4_length_8abf5 rfl rfl rfl (by decide +kernel) ⟨Nat.le_of_ble_eq_true rfl, Nat.le_of_ble_eq_true rfl⟩) rfl rfl (Nat.le_of_ble_eq_true rfl) dX6_renderQueue_66 ⟨by show _ ≤ (53 : Nat); omega, by show _ ≤ (7526 : Nat); omega⟩ ?_
      clear hg
      obtain rfl := Option.some.inj hf
      refine x_widen (k' := 53) (n' := 7526) (by omega) (by omega) ?_
      exact x_iret C hr hlk dX6_renderQueue_69
    · have hf := x_ine hc4 hf
      refine x_iload_n C 1 dX6_renderQueue_21 rfl ?_
      refine x_if_le C 35 dX6_renderQueue_22 (by decide) (fun hc7 => ?_) (fun hc7 => ?_)
      · have hf := x_ip hc7 hf
        refine x_aload_n C 0 dX6_renderQueue_35 rfl ?_
        refine x_aload_n C 0 dX6_renderQueue_36 rfl ?_
        obtain ⟨g8, hf⟩ := x_gd hf
        refine x_get8 C xkd_0 i8 0 (by decide) (by decide +kernel) rfl rfl dX6_renderQueue_37 ?_
        refine x_get5 C g8 i5 0 (by decide) (by decide +kernel) rfl rfl dX6_renderQueue_40 ?_
        refine x_aload_n C 0 dX6_renderQueue_43 rfl ?_
        obtain ⟨g9, hf⟩ := x_gd hf
        refine x_get8 C xkd_0 i8 0 (by decide) (by decide +kernel) rfl rfl dX6_renderQueue_44 ?_
        refine x_get5 C g9 i5 2 (by decide) (by decide +kernel) rfl rfl dX6_renderQueue_47 ?_
        refine x_iload_n C 1 dX6_renderQueue_50 rfl ?_
        obtain ⟨g10, hf⟩ := x_gd hf
        refine x_iald C (x5_k2 g9) (x5_l2 g9) g10 dX6_renderQueue_51 ?_
        obtain ⟨g11, hf⟩ := x_gd hf
        obtain ⟨g12, hf⟩ := x_gd hf
        refine x_aald23 C (x5_k1 g8) (x5_l1 g8) g11 dX6_renderQueue_52 ?_
        obtain ⟨q13, hg, hf⟩ := x_bd hf
        refine x_callVv C (by rw [xkd_0]; decide) (by rw [xkd_0]; decide) (xc8 xkd_0) rfl (t_X6_writeQueued g12 hg) (cwV 1 C.1.2.2.2.2 gX6_renderQueue_X6_writeQueued rfl rfl rfl (by decide +kernel) ⟨Nat.le_of_ble_eq_true rfl, Nat.le_of_ble_eq_true rfl⟩) rfl rfl (Nat.le_of_ble_eq_true rfl) dX6_renderQueue_53 ⟨by show _ ≤ (53 : Nat); omega, by show _ ≤ (7526 : Nat); omega⟩ (fun ta14 => ?_)
        clear hg
        refine x_iinc (v := v1 + 1) (lv' := [(1, .int (v1 + 1)), (0, .ref (xad G 0))]) C 1 dX6_renderQueue_56 rfl rfl (by decide) rfl ?_
        refine x_goto C 10 dX6_renderQueue_59 (by decide) ?_
        refine x_sub [1, 0] rfl ?_
        exact ih (v1 + 1) q13 _ _ _ (by omega) (by omega) _ hf
      · have hf := x_ine hc7 hf
        refine x_aload_n C 0 dX6_renderQueue_25 rfl ?_
        refine x_get8 C xkd_0 i8 9 (by decide) (by decide +kernel) rfl rfl dX6_renderQueue_26 ?_
        refine x_bipush (v := 32) C dX6_renderQueue_29 (by decide) ?_
        obtain ⟨q15, hg, hf⟩ := x_bd hf
        refine x_callVr C (by rw [xkd_6]; decide) (by rw [xkd_6]; decide) (xc1 xkd_6) rfl (t_J4_append_cf468 xkd_6 hg) (cwV 1 C.1.2.2.2.2 gX6_renderQueue_J4_append_cf468 rfl rfl rfl (by decide +kernel) ⟨Nat.le_of_ble_eq_true rfl, Nat.le_of_ble_eq_true rfl⟩) rfl rfl (Nat.le_of_ble_eq_true rfl) dX6_renderQueue_31 ⟨by show _ ≤ (53 : Nat); omega, by show _ ≤ (7526 : Nat); omega⟩ (fun ta16 => ?_)
        clear hg
        refine x_pop C dX6_renderQueue_34 rfl ?_
        refine x_aload_n C 0 dX6_renderQueue_35 rfl ?_
        refine x_aload_n C 0 dX6_renderQueue_36 rfl ?_
        obtain ⟨g17, hf⟩ := x_gd hf
        refine x_get8 C xkd_0 i8 0 (by decide) (by decide +kernel) rfl rfl dX6_renderQueue_37 ?_
        refine x_get5 C g17 i5 0 (by decide) (by decide +kernel) rfl rfl dX6_renderQueue_40 ?_
        refine x_aload_n C 0 dX6_renderQueue_43 rfl ?_
        obtain ⟨g18, hf⟩ := x_gd hf
        refine x_get8 C xkd_0 i8 0 (by decide) (by decide +kernel) rfl rfl dX6_renderQueue_44 ?_
        refine x_get5 C g18 i5 2 (by decide) (by decide +kernel) rfl rfl dX6_renderQueue_47 ?_
        refine x_iload_n C 1 dX6_renderQueue_50 rfl ?_
        obtain ⟨g19, hf⟩ := x_gd hf
        refine x_iald C (x5_k2 g18) (x5_l2 g18) g19 dX6_renderQueue_51 ?_
        obtain ⟨g20, hf⟩ := x_gd hf
        obtain ⟨g21, hf⟩ := x_gd hf
        refine x_aald23 C (x5_k1 g17) (x5_l1 g17) g20 dX6_renderQueue_52 ?_
        obtain ⟨q22, hg, hf⟩ := x_bd hf
        refine x_callVv C (by rw [xkd_0]; decide) (by rw [xkd_0]; decide) (xc8 xkd_0) rfl (t_X6_writeQueued g21 hg) (cwV 1 C.1.2.2.2.2 gX6_renderQueue_X6_writeQueued rfl rfl rfl (by decide +kernel) ⟨Nat.le_of_ble_eq_true rfl, Nat.le_of_ble_eq_true rfl⟩) rfl rfl (Nat.le_of_ble_eq_true rfl) dX6_renderQueue_53 ⟨by show _ ≤ (53 : Nat); omega, by show _ ≤ (7526 : Nat); omega⟩ (fun ta23 => ?_)
        clear hg
        refine x_iinc (v := v1 + 1) (lv' := [(1, .int (v1 + 1)), (0, .ref (xad G 0))]) C 1 dX6_renderQueue_56 rfl rfl (by decide) rfl ?_
        refine x_goto C 10 dX6_renderQueue_59 (by decide) ?_
        refine x_sub [1, 0] rfl ?_
        exact ih (v1 + 1) q22 _ _ _ (by omega) (by omega) _ hf
set_option maxHeartbeats 4000000 in
set_option maxRecDepth 100000 in
theorem t_X6_renderQueue {l : Launch} {G : xG} {ta : Nat × Nat} {M : xM} {out : Int32 × xM} (hf : f_X6_renderQueue M = some out) : xMet G l yX6_renderQueue wsX6_renderQueue (rm_X6_renderQueue 53 7526) 53 7526 ta M [.ref (xad G 0)] (some (.int out.1)) out.2 := by
  refine x_met (cc := cX6_renderQueue) (nL := 2) (ret := some .int) (by decide) rfl (Nat.le_of_ble_eq_true rfl) ?_
  intro p e s m args below meth c C hr hlk
  have C : xC G p s m args c cX6_renderQueue 2 wsX6_renderQueue RX6 := C
  have i5 : ∀ w ∈ wsX30, w ∈ wsX6_renderQueue := by decide +kernel
  have i8 : ∀ w ∈ wsX60, w ∈ wsX6_renderQueue := by decide +kernel
  unfold f_X6_renderQueue at hf
  show xW G p l e (rm_X6_renderQueue 53 7526) s m args below meth c 2 (MQ below (xQr G (some (.int out.1)) out.2) args s 53 7526 (xAs G)) 0 0 ta M 0 [(0, .ref (xad G 0))] []
  refine x_aload_n C 0 dX6_renderQueue_0 rfl ?_
  refine x_get8 C xkd_0 i8 9 (by decide) (by decide +kernel) rfl rfl dX6_renderQueue_1 ?_
  refine x_iconst (v := 0) C dX6_renderQueue_4 (by decide) ?_
  obtain ⟨q1, hg, hf⟩ := x_bd hf
  refine x_callVv C (by rw [xkd_6]; decide) (by rw [xkd_6]; decide) (xc1 xkd_6) rfl (t_J4_setLength_d00df xkd_6 hg) (cwV 1 C.1.2.2.2.2 gX6_renderQueue_J4_setLength_d00df rfl rfl rfl (by decide +kernel) ⟨Nat.le_of_ble_eq_true rfl, Nat.le_of_ble_eq_true rfl⟩) rfl rfl (Nat.le_of_ble_eq_true rfl) dX6_renderQueue_5 ⟨Nat.le_of_ble_eq_true rfl, Nat.le_of_ble_eq_true rfl⟩ (fun ta2 => ?_)
  clear hg
  refine x_iconst (v := 0) C dX6_renderQueue_8 (by decide) ?_
  refine x_istore_n (lv' := [(1, .int (0 : Int32)), (0, .ref (xad G 0))]) C dX6_renderQueue_9 rfl (by decide) rfl ?_
  refine x_sub [1, 0] rfl ?_
  exact t_X6_renderQueue_L10 C hr hlk 13 (0 : Int32) q1 _ _ _ (Nat.le_of_ble_eq_true rfl) (Nat.le_of_ble_eq_true rfl) _ hf
/-! WaitingRoomSimulation.writeWindow(LWaitingRoomSimulation$Window;)V -/
abbrev rm_X6_writeWindow (c s : Nat) : Room := { frames := 9, cells := c, slots := s, locals := 366 }
def f_X6_writeWindow (a1 : Nat) (M : xM) : Option (xM) := (f_X5_isOpen a1 M).bind fun q1 => (if q1 = 0 then (f_J4_append_cf468 6 (120 : Int32) M).bind fun q16 => some q16 else (if (M.1 a1 2) = (-1 : Int32) then (f_J4_append_cf468 6 (45 : Int32) M).bind fun q14 => some q14 else if xkd (M.2.1 0 0) = 5 then if x_in (M.1 a1 2) 12 = true then if xkd (M.2.1 ((M.2.1 0 0) + 1) (M.1 a1 2).toNatClampNeg) = 4 then (f_J4_append_bf812 6 (M.1 (M.2.1 ((M.2.1 0 0) + 1) (M.1 a1 2).toNatClampNeg) 0) M).bind fun q8 => (f_J4_append_cf468 6 (47 : Int32) q8).bind fun q10 => (f_J4_append_bf812 6 (q10.1 a1 3) q10).bind fun q12 => some q12 else none else none else none))
set_option maxHeartbeats 4000000 in
set_option maxRecDepth 100000 in
theorem t_X6_writeWindow {l : Launch} {G : xG} {ta : Nat × Nat} {M : xM} {a1 : Nat} {out : xM} (ka1 : xkd a1 = 7) (hf : f_X6_writeWindow a1 M = some out) : xMet G l yX6_writeWindow wsX6_writeWindow (rm_X6_writeWindow 3 426) 3 426 ta M [.ref (xad G 0), .ref (xad G a1)] none out := by
  refine x_met (cc := cX6_writeWindow) (nL := 2) (ret := none) (by decide) rfl (Nat.le_of_ble_eq_true rfl) ?_
  intro p e s m args below meth c C hr hlk
  have C : xC G p s m args c cX6_writeWindow 2 wsX6_writeWindow RX6 := C
  have i4 : ∀ w ∈ wsX20, w ∈ wsX6_writeWindow := by decide +kernel
  have i5 : ∀ w ∈ wsX30, w ∈ wsX6_writeWindow := by decide +kernel
  have i7 : ∀ w ∈ wsX50, w ∈ wsX6_writeWindow := by decide +kernel
  have i8 : ∀ w ∈ wsX60, w ∈ wsX6_writeWindow := by decide +kernel
  unfold f_X6_writeWindow at hf
  show xW G p l e (rm_X6_writeWindow 3 426) s m args below meth c 2 (MQ below (xQr G none out) args s 3 426 (xAs G)) 0 0 ta M 0 [(0, .ref (xad G 0)), (1, .ref (xad G a1))] []
  refine x_aload_n C 1 dX6_writeWindow_0 rfl ?_
  obtain ⟨q1, hg, hf⟩ := x_bd hf
  refine x_callVr C (by rw [ka1]; decide) (by rw [ka1]; decide) (xc7 ka1) rfl (t_X5_isOpen ka1 hg) (cwV 0 C.1.2.2.2.2 gX6_writeWindow_X5_isOpen rfl rfl rfl (by decide +kernel) ⟨Nat.le_of_ble_eq_true rfl, Nat.le_of_ble_eq_true rfl⟩) rfl rfl (Nat.le_of_ble_eq_true rfl) dX6_writeWindow_1 ⟨Nat.zero_le _, Nat.zero_le _⟩ (fun ta2 => ?_)
  clear hg
  refine x_if_ne C 20 dX6_writeWindow_4 (by decide) (fun hc3 => ?_) (fun hc3 => ?_)
  · have hf := x_ine hc3 hf
    refine x_aload_n C 1 dX6_writeWindow_20 rfl ?_
    refine x_get7 C ka1 i7 2 (by decide) (by decide +kernel) rfl rfl dX6_writeWindow_21 ?_
    refine x_iconst (v := (-1)) C dX6_writeWindow_24 (by decide) ?_
    refine x_icmp_ne C 41 dX6_writeWindow_25 (by decide) (fun hc4 => ?_) (fun hc4 => ?_)
    · have hf := x_ine hc4 hf
      refine x_aload_n C 0 dX6_writeWindow_41 rfl ?_
      refine x_get8 C xkd_0 i8 9 (by decide) (by decide +kernel) rfl rfl dX6_writeWindow_42 ?_
      refine x_aload_n C 0 dX6_writeWindow_45 rfl ?_
      obtain ⟨g5, hf⟩ := x_gd hf
      refine x_get8 C xkd_0 i8 0 (by decide) (by decide +kernel) rfl rfl dX6_writeWindow_46 ?_
      refine x_get5 C g5 i5 0 (by decide) (by decide +kernel) rfl rfl dX6_writeWindow_49 ?_
      refine x_aload_n C 1 dX6_writeWindow_52 rfl ?_
      refine x_get7 C ka1 i7 2 (by decide) (by decide +kernel) rfl rfl dX6_writeWindow_53 ?_
      obtain ⟨g6, hf⟩ := x_gd hf
      obtain ⟨g7, hf⟩ := x_gd hf
      refine x_aald23 C (x5_k1 g5) (x5_l1 g5) g6 dX6_writeWindow_56 ?_
      refine x_get4 C g7 i4 0 (by decide) (by decide +kernel) rfl rfl dX6_writeWindow_57 ?_
      obtain ⟨q8, hg, hf⟩ := x_bd hf
      refine x_callVr C (by rw [xkd_6]; decide) (by rw [xkd_6]; decide) (xc1 xkd_6) rfl (t_J4_append_bf812 xkd_6 hg) (cwV 1 C.1.2.2.2.2 gX6_writeWindow_J4_append_bf812 rfl rfl rfl (by decide +kernel) ⟨Nat.le_of_ble_eq_true rfl, Nat.le_of_ble_eq_true rfl⟩) rfl rfl (Nat.le_of_ble_eq_true rfl) dX6_writeWindow_60 ⟨Nat.le_of_ble_eq_true rfl, Nat.le_of_ble_eq_true rfl⟩ (fun ta9 => ?_)
      clear hg
      refine x_pop C dX6_writeWindow_63 rfl ?_
      refine x_aload_n C 0 dX6_writeWindow_64 rfl ?_
      refine x_get8 C xkd_0 i8 9 (by decide) (by decide +kernel) rfl rfl dX6_writeWindow_65 ?_
      refine x_bipush (v := 47) C dX6_writeWindow_68 (by decide) ?_
      obtain ⟨q10, hg, hf⟩ := x_bd hf
      refine x_callVr C (by rw [xkd_6]; decide) (by rw [xkd_6]; decide) (xc1 xkd_6) rfl (t_J4_append_cf468 xkd_6 hg) (cwV 1 C.1.2.2.2.2 gX6_writeWindow_J4_append_cf468 rfl rfl rfl (by decide +kernel) ⟨Nat.le_of_ble_eq_true rfl, Nat.le_of_ble_eq_true rfl⟩) rfl rfl (Nat.le_of_ble_eq_true rfl) dX6_writeWindow_70 ⟨Nat.le_of_ble_eq_true rfl, Nat.le_of_ble_eq_true rfl⟩ (fun ta11 => ?_)
      clear hg
      refine x_pop C dX6_writeWindow_73 rfl ?_
      refine x_aload_n C 0 dX6_writeWindow_74 rfl ?_
      refine x_get8 C xkd_0 i8 9 (by decide) (by decide +kernel) rfl rfl dX6_writeWindow_75 ?_
      refine x_aload_n C 1 dX6_writeWindow_78 rfl ?_
      refine x_get7 C ka1 i7 3 (by decide) (by decide +kernel) rfl rfl dX6_writeWindow_79 ?_
      obtain ⟨q12, hg, hf⟩ := x_bd hf
      refine x_callVr C (by rw [xkd_6]; decide) (by rw [xkd_6]; decide) (xc1 xkd_6) rfl (t_J4_append_bf812 xkd_6 hg) (cwV 1 C.1.2.2.2.2 gX6_writeWindow_J4_append_bf812 rfl rfl rfl (by decide +kernel) ⟨Nat.le_of_ble_eq_true rfl, Nat.le_of_ble_eq_true rfl⟩) rfl rfl (Nat.le_of_ble_eq_true rfl) dX6_writeWindow_82 ⟨Nat.le_of_ble_eq_true rfl, Nat.le_of_ble_eq_true rfl⟩ (fun ta13 => ?_)
      clear hg
      refine x_pop C dX6_writeWindow_85 rfl ?_
      obtain rfl := Option.some.inj hf
      refine x_widen (k' := 3) (n' := 426) (Nat.le_of_ble_eq_true rfl) (Nat.le_of_ble_eq_true rfl) ?_
      exact x_vret C hr hlk dX6_writeWindow_86
    · have hf := x_ip hc4 hf
      refine x_aload_n C 0 dX6_writeWindow_28 rfl ?_
      refine x_get8 C xkd_0 i8 9 (by decide) (by decide +kernel) rfl rfl dX6_writeWindow_29 ?_
      refine x_bipush (v := 45) C dX6_writeWindow_32 (by decide) ?_
      obtain ⟨q14, hg, hf⟩ := x_bd hf
      refine x_callVr C (by rw [xkd_6]; decide) (by rw [xkd_6]; decide) (xc1 xkd_6) rfl (t_J4_append_cf468 xkd_6 hg) (cwV 1 C.1.2.2.2.2 gX6_writeWindow_J4_append_cf468 rfl rfl rfl (by decide +kernel) ⟨Nat.le_of_ble_eq_true rfl, Nat.le_of_ble_eq_true rfl⟩) rfl rfl (Nat.le_of_ble_eq_true rfl) dX6_writeWindow_34 ⟨Nat.le_of_ble_eq_true rfl, Nat.le_of_ble_eq_true rfl⟩ (fun ta15 => ?_)
      clear hg
      refine x_pop C dX6_writeWindow_37 rfl ?_
      refine x_goto C 86 dX6_writeWindow_38 (by decide) ?_
      obtain rfl := Option.some.inj hf
      refine x_widen (k' := 3) (n' := 426) (Nat.le_of_ble_eq_true rfl) (Nat.le_of_ble_eq_true rfl) ?_
      exact x_vret C hr hlk dX6_writeWindow_86
  · have hf := x_ip hc3 hf
    refine x_aload_n C 0 dX6_writeWindow_7 rfl ?_
    refine x_get8 C xkd_0 i8 9 (by decide) (by decide +kernel) rfl rfl dX6_writeWindow_8 ?_
    refine x_bipush (v := 120) C dX6_writeWindow_11 (by decide) ?_
    obtain ⟨q16, hg, hf⟩ := x_bd hf
    refine x_callVr C (by rw [xkd_6]; decide) (by rw [xkd_6]; decide) (xc1 xkd_6) rfl (t_J4_append_cf468 xkd_6 hg) (cwV 1 C.1.2.2.2.2 gX6_writeWindow_J4_append_cf468 rfl rfl rfl (by decide +kernel) ⟨Nat.le_of_ble_eq_true rfl, Nat.le_of_ble_eq_true rfl⟩) rfl rfl (Nat.le_of_ble_eq_true rfl) dX6_writeWindow_13 ⟨Nat.le_of_ble_eq_true rfl, Nat.le_of_ble_eq_true rfl⟩ (fun ta17 => ?_)
    clear hg
    refine x_pop C dX6_writeWindow_16 rfl ?_
    refine x_goto C 86 dX6_writeWindow_17 (by decide) ?_
    obtain rfl := Option.some.inj hf
    refine x_widen (k' := 3) (n' := 426) (Nat.le_of_ble_eq_true rfl) (Nat.le_of_ble_eq_true rfl) ?_
    exact x_vret C hr hlk dX6_writeWindow_86
/-! WaitingRoomSimulation.renderWindows()I -/
abbrev rm_X6_renderWindows (c s : Nat) : Room := { frames := 10, cells := c, slots := s, locals := 387 }
def f_X6_renderWindows_L10 : Nat → Int32 → xM → Option (Int32 × xM)
  | 0, _, _ => none
  | n+1, v1, M => (if (3 : Int32) ≤ v1 then (f_J4_length_8abf5 6 M).bind fun q4 => some (q4, M) else (if v1 ≤ 0 then (f_J4_append_bf812 6 v1 M).bind fun q7 => (f_J4_append_cf468 6 (58 : Int32) q7).bind fun q9 => if xkd (q9.2.1 0 0) = 5 then if x_in v1 3 = true then if xkd ((q9.2.1 0 0) + 3 + 15 + v1.toNatClampNeg) = 7 then (f_X6_writeWindow ((q9.2.1 0 0) + 3 + 15 + v1.toNatClampNeg) q9).bind fun q14 => f_X6_renderWindows_L10 n (v1 + 1) q14 else none else none else none else (f_J4_append_cf468 6 (32 : Int32) M).bind fun q16 => (f_J4_append_bf812 6 v1 q16).bind fun q18 => (f_J4_append_cf468 6 (58 : Int32) q18).bind fun q20 => if xkd (q20.2.1 0 0) = 5 then if x_in v1 3 = true then if xkd ((q20.2.1 0 0) + 3 + 15 + v1.toNatClampNeg) = 7 then (f_X6_writeWindow ((q20.2.1 0 0) + 3 + 15 + v1.toNatClampNeg) q20).bind fun q25 => f_X6_renderWindows_L10 n (v1 + 1) q25 else none else none else none))
def f_X6_renderWindows (M : xM) : Option (Int32 × xM) := (f_J4_setLength_d00df 6 (0 : Int32) M).bind fun q1 => f_X6_renderWindows_L10 4 (0 : Int32) q1
set_option maxHeartbeats 4000000 in
set_option maxRecDepth 100000 in
theorem t_X6_renderWindows_L10 {G : xG} {p : Program} {l : Launch} {e : Env} {s : State} {m : MethodId} {args : Array Value} {below : List Frame} {meth : Method} {c : Code} (C : xC G p s m args c cX6_renderWindows 2 wsX6_renderWindows RX6) (hr : meth.sig.returnType = some .int) (hlk : meth.locks = false) : ∀ (n : Nat) (v1 : Int32) (M : xM) (ta : Nat × Nat) (k0 n0 : Nat) (hk0 : k0 + n * 6 ≤ 25) (hn0 : n0 + n * 852 ≤ 3550) (out : Int32 × xM), f_X6_renderWindows_L10 n v1 M = some out → xW G p l e (rm_X6_renderWindows 25 3550) s m args below meth c 2 (MQ below (xQr G (some (.int out.1)) out.2) args s 25 3550 (xAs G)) k0 n0 ta M 10 [(0, .ref (xad G 0)), (1, .int v1)] [] := by
  intro n
  induction n with
  | zero =>
    intro v1 M ta k0 n0 hk0 hn0 out hf
    rw [f_X6_renderWindows_L10] at hf
    cases hf
  | succ n ih =>
    intro v1 M ta k0 n0 hk0 hn0 out hf
    rw [f_X6_renderWindows_L10] at hf
    have i5 : ∀ w ∈ wsX30, w ∈ wsX6_renderWindows := by decide +kernel
    have i8 : ∀ w ∈ wsX60, w ∈ wsX6_renderWindows := by decide +kernel
    refine x_iload_n C 1 dX6_renderWindows_10 rfl ?_
    refine x_iconst (v := 3) C dX6_renderWindows_11 (by decide) ?_
    refine x_icmp_ge C 67 dX6_renderWindows_12 (by decide) (fun hc3 => ?_) (fun hc3 => ?_)
    · have hf := x_ip hc3 hf
      refine x_aload_n C 0 dX6_renderWindows_67 rfl ?_
      refine x_get8 C xkd_0 i8 9 (by decide) (by decide +kernel) rfl rfl dX6_renderWindows_68 ?_
      obtain ⟨q4, hg, hf⟩ := x_bd hf
      refine x_callVCTr C (xRv_1 C xkd_6) (t_J4_length_8abf5 xkd_6 hg) (cwV 0 C.1.2.2.2.2 gX6_renderWindows_J4_length_8abf5 rfl rfl rfl (by decide +kernel) ⟨Nat.le_of_ble_eq_true rfl, Nat.le_of_ble_eq_true rfl⟩) rfl rfl (Nat.le_of_ble_eq_true rfl) dX6_renderWindows_71 ⟨by show _ ≤ (25 : Nat); omega, by show _ ≤ (3550 : Nat); omega⟩ ?_
      clear hg
      obtain rfl := Option.some.inj hf
      refine x_widen (k' := 25) (n' := 3550) (by omega) (by omega) ?_
      exact x_iret C hr hlk dX6_renderWindows_74
    · have hf := x_ine hc3 hf
      refine x_iload_n C 1 dX6_renderWindows_15 rfl ?_
      refine x_if_le C 29 dX6_renderWindows_16 (by decide) (fun hc6 => ?_) (fun hc6 => ?_)
      · have hf := x_ip hc6 hf
        refine x_aload_n C 0 dX6_renderWindows_29 rfl ?_
        refine x_get8 C xkd_0 i8 9 (by decide) (by decide +kernel) rfl rfl dX6_renderWindows_30 ?_
        refine x_iload_n C 1 dX6_renderWindows_33 rfl ?_
        obtain ⟨q7, hg, hf⟩ := x_bd hf
        refine x_callVr C (by rw [xkd_6]; decide) (by rw [xkd_6]; decide) (xc1 xkd_6) rfl (t_J4_append_bf812 xkd_6 hg) (cwV 1 C.1.2.2.2.2 gX6_renderWindows_J4_append_bf812 rfl rfl rfl (by decide +kernel) ⟨Nat.le_of_ble_eq_true rfl, Nat.le_of_ble_eq_true rfl⟩) rfl rfl (Nat.le_of_ble_eq_true rfl) dX6_renderWindows_34 ⟨by show _ ≤ (25 : Nat); omega, by show _ ≤ (3550 : Nat); omega⟩ (fun ta8 => ?_)
        clear hg
        refine x_pop C dX6_renderWindows_37 rfl ?_
        refine x_aload_n C 0 dX6_renderWindows_38 rfl ?_
        refine x_get8 C xkd_0 i8 9 (by decide) (by decide +kernel) rfl rfl dX6_renderWindows_39 ?_
        refine x_bipush (v := 58) C dX6_renderWindows_42 (by decide) ?_
        obtain ⟨q9, hg, hf⟩ := x_bd hf
        refine x_callVr C (by rw [xkd_6]; decide) (by rw [xkd_6]; decide) (xc1 xkd_6) rfl (t_J4_append_cf468 xkd_6 hg) (cwV 1 C.1.2.2.2.2 gX6_renderWindows_J4_append_cf468 rfl rfl rfl (by decide +kernel) ⟨Nat.le_of_ble_eq_true rfl, Nat.le_of_ble_eq_true rfl⟩) rfl rfl (Nat.le_of_ble_eq_true rfl) dX6_renderWindows_44 ⟨by show _ ≤ (25 : Nat); omega, by show _ ≤ (3550 : Nat); omega⟩ (fun ta10 => ?_)
        clear hg
        refine x_pop C dX6_renderWindows_47 rfl ?_
        refine x_aload_n C 0 dX6_renderWindows_48 rfl ?_
        refine x_aload_n C 0 dX6_renderWindows_49 rfl ?_
        obtain ⟨g11, hf⟩ := x_gd hf
        refine x_get8 C xkd_0 i8 0 (by decide) (by decide +kernel) rfl rfl dX6_renderWindows_50 ?_
        refine x_get5 C g11 i5 4 (by decide) (by decide +kernel) rfl rfl dX6_renderWindows_53 ?_
        refine x_iload_n C 1 dX6_renderWindows_56 rfl ?_
        obtain ⟨g12, hf⟩ := x_gd hf
        obtain ⟨g13, hf⟩ := x_gd hf
        refine x_aald25 C (x5_k3 g11) (x5_l3 g11) g12 dX6_renderWindows_57 ?_
        obtain ⟨q14, hg, hf⟩ := x_bd hf
        refine x_callVv C (by rw [xkd_0]; decide) (by rw [xkd_0]; decide) (xc8 xkd_0) rfl (t_X6_writeWindow g13 hg) (cwV 1 C.1.2.2.2.2 gX6_renderWindows_X6_writeWindow rfl rfl rfl (by decide +kernel) ⟨Nat.le_of_ble_eq_true rfl, Nat.le_of_ble_eq_true rfl⟩) rfl rfl (Nat.le_of_ble_eq_true rfl) dX6_renderWindows_58 ⟨by show _ ≤ (25 : Nat); omega, by show _ ≤ (3550 : Nat); omega⟩ (fun ta15 => ?_)
        clear hg
        refine x_iinc (v := v1 + 1) (lv' := [(1, .int (v1 + 1)), (0, .ref (xad G 0))]) C 1 dX6_renderWindows_61 rfl rfl (by decide) rfl ?_
        refine x_goto C 10 dX6_renderWindows_64 (by decide) ?_
        refine x_sub [1, 0] rfl ?_
        exact ih (v1 + 1) q14 _ _ _ (by omega) (by omega) _ hf
      · have hf := x_ine hc6 hf
        refine x_aload_n C 0 dX6_renderWindows_19 rfl ?_
        refine x_get8 C xkd_0 i8 9 (by decide) (by decide +kernel) rfl rfl dX6_renderWindows_20 ?_
        refine x_bipush (v := 32) C dX6_renderWindows_23 (by decide) ?_
        obtain ⟨q16, hg, hf⟩ := x_bd hf
        refine x_callVr C (by rw [xkd_6]; decide) (by rw [xkd_6]; decide) (xc1 xkd_6) rfl (t_J4_append_cf468 xkd_6 hg) (cwV 1 C.1.2.2.2.2 gX6_renderWindows_J4_append_cf468 rfl rfl rfl (by decide +kernel) ⟨Nat.le_of_ble_eq_true rfl, Nat.le_of_ble_eq_true rfl⟩) rfl rfl (Nat.le_of_ble_eq_true rfl) dX6_renderWindows_25 ⟨by show _ ≤ (25 : Nat); omega, by show _ ≤ (3550 : Nat); omega⟩ (fun ta17 => ?_)
        clear hg
        refine x_pop C dX6_renderWindows_28 rfl ?_
        refine x_aload_n C 0 dX6_renderWindows_29 rfl ?_
        refine x_get8 C xkd_0 i8 9 (by decide) (by decide +kernel) rfl rfl dX6_renderWindows_30 ?_
        refine x_iload_n C 1 dX6_renderWindows_33 rfl ?_
        obtain ⟨q18, hg, hf⟩ := x_bd hf
        refine x_callVr C (by rw [xkd_6]; decide) (by rw [xkd_6]; decide) (xc1 xkd_6) rfl (t_J4_append_bf812 xkd_6 hg) (cwV 1 C.1.2.2.2.2 gX6_renderWindows_J4_append_bf812 rfl rfl rfl (by decide +kernel) ⟨Nat.le_of_ble_eq_true rfl, Nat.le_of_ble_eq_true rfl⟩) rfl rfl (Nat.le_of_ble_eq_true rfl) dX6_renderWindows_34 ⟨by show _ ≤ (25 : Nat); omega, by show _ ≤ (3550 : Nat); omega⟩ (fun ta19 => ?_)
        clear hg
        refine x_pop C dX6_renderWindows_37 rfl ?_
        refine x_aload_n C 0 dX6_renderWindows_38 rfl ?_
        refine x_get8 C xkd_0 i8 9 (by decide) (by decide +kernel) rfl rfl dX6_renderWindows_39 ?_
        refine x_bipush (v := 58) C dX6_renderWindows_42 (by decide) ?_
        obtain ⟨q20, hg, hf⟩ := x_bd hf
        refine x_callVr C (by rw [xkd_6]; decide) (by rw [xkd_6]; decide) (xc1 xkd_6) rfl (t_J4_append_cf468 xkd_6 hg) (cwV 1 C.1.2.2.2.2 gX6_renderWindows_J4_append_cf468 rfl rfl rfl (by decide +kernel) ⟨Nat.le_of_ble_eq_true rfl, Nat.le_of_ble_eq_true rfl⟩) rfl rfl (Nat.le_of_ble_eq_true rfl) dX6_renderWindows_44 ⟨by show _ ≤ (25 : Nat); omega, by show _ ≤ (3550 : Nat); omega⟩ (fun ta21 => ?_)
        clear hg
        refine x_pop C dX6_renderWindows_47 rfl ?_
        refine x_aload_n C 0 dX6_renderWindows_48 rfl ?_
        refine x_aload_n C 0 dX6_renderWindows_49 rfl ?_
        obtain ⟨g22, hf⟩ := x_gd hf
        refine x_get8 C xkd_0 i8 0 (by decide) (by decide +kernel) rfl rfl dX6_renderWindows_50 ?_
        refine x_get5 C g22 i5 4 (by decide) (by decide +kernel) rfl rfl dX6_renderWindows_53 ?_
        refine x_iload_n C 1 dX6_renderWindows_56 rfl ?_
        obtain ⟨g23, hf⟩ := x_gd hf
        obtain ⟨g24, hf⟩ := x_gd hf
        refine x_aald25 C (x5_k3 g22) (x5_l3 g22) g23 dX6_renderWindows_57 ?_
        obtain ⟨q25, hg, hf⟩ := x_bd hf
        refine x_callVv C (by rw [xkd_0]; decide) (by rw [xkd_0]; decide) (xc8 xkd_0) rfl (t_X6_writeWindow g24 hg) (cwV 1 C.1.2.2.2.2 gX6_renderWindows_X6_writeWindow rfl rfl rfl (by decide +kernel) ⟨Nat.le_of_ble_eq_true rfl, Nat.le_of_ble_eq_true rfl⟩) rfl rfl (Nat.le_of_ble_eq_true rfl) dX6_renderWindows_58 ⟨by show _ ≤ (25 : Nat); omega, by show _ ≤ (3550 : Nat); omega⟩ (fun ta26 => ?_)
        clear hg
        refine x_iinc (v := v1 + 1) (lv' := [(1, .int (v1 + 1)), (0, .ref (xad G 0))]) C 1 dX6_renderWindows_61 rfl rfl (by decide) rfl ?_
        refine x_goto C 10 dX6_renderWindows_64 (by decide) ?_
        refine x_sub [1, 0] rfl ?_
        exact ih (v1 + 1) q25 _ _ _ (by omega) (by omega) _ hf
set_option maxHeartbeats 4000000 in
set_option maxRecDepth 100000 in
theorem t_X6_renderWindows {l : Launch} {G : xG} {ta : Nat × Nat} {M : xM} {out : Int32 × xM} (hf : f_X6_renderWindows M = some out) : xMet G l yX6_renderWindows wsX6_renderWindows (rm_X6_renderWindows 25 3550) 25 3550 ta M [.ref (xad G 0)] (some (.int out.1)) out.2 := by
  refine x_met (cc := cX6_renderWindows) (nL := 2) (ret := some .int) (by decide) rfl (Nat.le_of_ble_eq_true rfl) ?_
  intro p e s m args below meth c C hr hlk
  have C : xC G p s m args c cX6_renderWindows 2 wsX6_renderWindows RX6 := C
  have i5 : ∀ w ∈ wsX30, w ∈ wsX6_renderWindows := by decide +kernel
  have i8 : ∀ w ∈ wsX60, w ∈ wsX6_renderWindows := by decide +kernel
  unfold f_X6_renderWindows at hf
  show xW G p l e (rm_X6_renderWindows 25 3550) s m args below meth c 2 (MQ below (xQr G (some (.int out.1)) out.2) args s 25 3550 (xAs G)) 0 0 ta M 0 [(0, .ref (xad G 0))] []
  refine x_aload_n C 0 dX6_renderWindows_0 rfl ?_
  refine x_get8 C xkd_0 i8 9 (by decide) (by decide +kernel) rfl rfl dX6_renderWindows_1 ?_
  refine x_iconst (v := 0) C dX6_renderWindows_4 (by decide) ?_
  obtain ⟨q1, hg, hf⟩ := x_bd hf
  refine x_callVv C (by rw [xkd_6]; decide) (by rw [xkd_6]; decide) (xc1 xkd_6) rfl (t_J4_setLength_d00df xkd_6 hg) (cwV 1 C.1.2.2.2.2 gX6_renderWindows_J4_setLength_d00df rfl rfl rfl (by decide +kernel) ⟨Nat.le_of_ble_eq_true rfl, Nat.le_of_ble_eq_true rfl⟩) rfl rfl (Nat.le_of_ble_eq_true rfl) dX6_renderWindows_5 ⟨Nat.le_of_ble_eq_true rfl, Nat.le_of_ble_eq_true rfl⟩ (fun ta2 => ?_)
  clear hg
  refine x_iconst (v := 0) C dX6_renderWindows_8 (by decide) ?_
  refine x_istore_n (lv' := [(1, .int (0 : Int32)), (0, .ref (xad G 0))]) C dX6_renderWindows_9 rfl (by decide) rfl ?_
  refine x_sub [1, 0] rfl ?_
  exact t_X6_renderWindows_L10 C hr hlk 4 (0 : Int32) q1 _ _ _ (Nat.le_of_ble_eq_true rfl) (Nat.le_of_ble_eq_true rfl) _ hf
/-! WaitingRoomSimulation.outputAt(I)C -/
abbrev rm_X6_outputAt (c s : Nat) : Room := { frames := 8, cells := c, slots := s, locals := 200 }
def f_X6_outputAt (a1 : Int32) (M : xM) : Option ((Int32 ⊕ String)) := (if a1 < 0 then some (.inr "java/lang/IndexOutOfBoundsException") else (f_J4_length_8abf5 6 M).bind fun q2 => (if a1 < q2 then (f_J4_charAt_5068e 6 a1 M).bind fun q5 => if vp_nar .char q5 = q5 then some (.inl q5) else none else some (.inr "java/lang/IndexOutOfBoundsException")))
set_option maxHeartbeats 4000000 in
set_option maxRecDepth 100000 in
theorem t_X6_outputAt {l : Launch} {G : xG} {ta : Nat × Nat} {M : xM} {a1 : Int32} {out : (Int32 ⊕ String)} (hfl : l.stackTraces = false) (hf : f_X6_outputAt a1 M = some out) : xMetX G l yX6_outputAt wsX6_outputAt (rm_X6_outputAt (xoc out) (xos out)) (xoc out) (xos out) ta M [.ref (xad G 0), .int a1] (xo xoI out) M := by
  refine x_metX (cc := cX6_outputAt) (nL := 2) (ret := some .char) (by decide) rfl (Nat.le_of_ble_eq_true rfl) ?_
  intro p e s m args below meth c C hr hlk htb
  have C : xC G p s m args c cX6_outputAt 2 wsX6_outputAt RX6 := C
  have i8 : ∀ w ∈ wsX60, w ∈ wsX6_outputAt := by decide +kernel
  unfold f_X6_outputAt at hf
  show xW G p l e (rm_X6_outputAt (xoc out) (xos out)) s m args below meth c 2 (vx_MQ below (xQx G (xo xoI out) M) (xXc G (xo xoI out) M) args s (xoc out) (xos out) (xAs G)) 0 0 ta M 0 [(0, .ref (xad G 0)), (1, .int a1)] []
  refine x_iload_n C 1 dX6_outputAt_0 rfl ?_
  refine x_if_lt C 15 dX6_outputAt_1 (by decide) (fun hc1 => ?_) (fun hc1 => ?_)
  · have hf := x_ip hc1 hf
    obtain rfl := Option.some.inj hf
    exact x_throwSW C hfl hlk htb (cls := "java/lang/IndexOutOfBoundsException") (names := ["java/lang/RuntimeException", "java/lang/Exception"]) (ik := 99) (is := 336) (ic := 103) (text := "the output text has no such index") (by decide +kernel) (by decide +kernel) (by decide +kernel) (by decide +kernel) (by decide +kernel) (by decide +kernel) (by decide +kernel) dX6_outputAt_15 dX6_outputAt_18 dX6_outputAt_19 dX6_outputAt_22 dX6_outputAt_25 (Nat.le_of_ble_eq_true rfl) (Nat.le_of_ble_eq_true rfl) (Nat.le_of_ble_eq_true rfl) (Nat.le_of_ble_eq_true rfl) (Nat.le_of_ble_eq_true rfl) (Nat.le_of_ble_eq_true rfl)
  · have hf := x_ine hc1 hf
    refine x_iload_n C 1 dX6_outputAt_4 rfl ?_
    refine x_aload_n C 0 dX6_outputAt_5 rfl ?_
    refine x_get8 C xkd_0 i8 9 (by decide) (by decide +kernel) rfl rfl dX6_outputAt_6 ?_
    obtain ⟨q2, hg, hf⟩ := x_bd hf
    refine x_callVCTr C (xRv_1 C xkd_6) (t_J4_length_8abf5 xkd_6 hg) (cwV 0 C.1.2.2.2.2 gX6_outputAt_J4_length_8abf5 rfl rfl rfl (by decide +kernel) ⟨Nat.le_of_ble_eq_true rfl, Nat.le_of_ble_eq_true rfl⟩) rfl rfl (Nat.le_of_ble_eq_true rfl) dX6_outputAt_9 ⟨Nat.zero_le _, Nat.zero_le _⟩ ?_
    clear hg
    refine x_icmp_lt C 26 dX6_outputAt_12 (by decide) (fun hc4 => ?_) (fun hc4 => ?_)
    · have hf := x_ip hc4 hf
      refine x_aload_n C 0 dX6_outputAt_26 rfl ?_
      refine x_get8 C xkd_0 i8 9 (by decide) (by decide +kernel) rfl rfl dX6_outputAt_27 ?_
      refine x_iload_n C 1 dX6_outputAt_30 rfl ?_
      obtain ⟨q5, hg, hf⟩ := x_bd hf
      refine x_callVCTr C (xRv_1 C xkd_6) (t_J4_charAt_5068e xkd_6 hg) (cwV 1 C.1.2.2.2.2 gX6_outputAt_J4_charAt_5068e rfl rfl rfl (by decide +kernel) ⟨Nat.le_of_ble_eq_true rfl, Nat.le_of_ble_eq_true rfl⟩) rfl rfl (Nat.le_of_ble_eq_true rfl) dX6_outputAt_31 ⟨Nat.zero_le _, Nat.zero_le _⟩ ?_
      clear hg
      obtain ⟨g7, hf⟩ := x_gd hf
      obtain rfl := Option.some.inj hf
      refine x_ret ?_
      exact x_zret C hr hlk (x_nc g7) dX6_outputAt_34
    · have hf := x_ine hc4 hf
      obtain rfl := Option.some.inj hf
      exact x_throwSW C hfl hlk htb (cls := "java/lang/IndexOutOfBoundsException") (names := ["java/lang/RuntimeException", "java/lang/Exception"]) (ik := 99) (is := 336) (ic := 103) (text := "the output text has no such index") (by decide +kernel) (by decide +kernel) (by decide +kernel) (by decide +kernel) (by decide +kernel) (by decide +kernel) (by decide +kernel) dX6_outputAt_15 dX6_outputAt_18 dX6_outputAt_19 dX6_outputAt_22 dX6_outputAt_25 (Nat.le_of_ble_eq_true rfl) (Nat.le_of_ble_eq_true rfl) (Nat.le_of_ble_eq_true rfl) (Nat.le_of_ble_eq_true rfl) (Nat.le_of_ble_eq_true rfl) (Nat.le_of_ble_eq_true rfl)
/-! WaitingRoomSimulation.type(C)I -/
abbrev rm_X6_type (c s : Nat) : Room := { frames := 9, cells := c, slots := s, locals := 364 }
def f_X6_type (a1 : Int32) (M : xM) : Option ((Int32 ⊕ String) × xM) := (if a1 < (32 : Int32) then some (.inr "java/lang/IllegalArgumentException", M) else (if a1 ≤ (126 : Int32) then (f_J4_length_8abf5 4 M).bind fun q3 => (if q3 < (60 : Int32) then (f_J4_append_cf468 4 a1 M).bind fun q6 => (f_J4_length_8abf5 4 q6).bind fun q8 => some (.inl q8, q6) else some (.inr "java/lang/IllegalStateException", M)) else some (.inr "java/lang/IllegalArgumentException", M)))
set_option maxHeartbeats 4000000 in
set_option maxRecDepth 100000 in
theorem t_X6_type {l : Launch} {G : xG} {ta : Nat × Nat} {M : xM} {a1 : Int32} {out : (Int32 ⊕ String) × xM} (hfl : l.stackTraces = false) (hf : f_X6_type a1 M = some out) : xMetX G l yX6_type wsX6_type (rm_X6_type 1 142) 1 142 ta M [.ref (xad G 0), .int a1] (xo xoI out.1) out.2 := by
  refine x_metX (cc := cX6_type) (nL := 2) (ret := some .int) (by decide) rfl (Nat.le_of_ble_eq_true rfl) ?_
  intro p e s m args below meth c C hr hlk htb
  have C : xC G p s m args c cX6_type 2 wsX6_type RX6 := C
  have i6 : ∀ w ∈ wsX40, w ∈ wsX6_type := by decide +kernel
  have i8 : ∀ w ∈ wsX60, w ∈ wsX6_type := by decide +kernel
  unfold f_X6_type at hf
  show xW G p l e (rm_X6_type 1 142) s m args below meth c 2 (vx_MQ below (xQx G (xo xoI out.1) out.2) (xXc G (xo xoI out.1) out.2) args s 1 142 (xAs G)) 0 0 ta M 0 [(0, .ref (xad G 0)), (1, .int a1)] []
  refine x_iload_n C 1 dX6_type_0 rfl ?_
  refine x_bipush (v := 32) C dX6_type_1 (by decide) ?_
  refine x_icmp_lt C 12 dX6_type_3 (by decide) (fun hc1 => ?_) (fun hc1 => ?_)
  · have hf := x_ip hc1 hf
    obtain rfl := Option.some.inj hf
    exact x_throwSW C hfl hlk htb (cls := "java/lang/IllegalArgumentException") (names := ["java/lang/RuntimeException", "java/lang/Exception"]) (ik := 106) (is := 342) (ic := 110) (text := "this character cannot be typed") (by decide +kernel) (by decide +kernel) (by decide +kernel) (by decide +kernel) (by decide +kernel) (by decide +kernel) (by decide +kernel) dX6_type_12 dX6_type_15 dX6_type_16 dX6_type_19 dX6_type_22 (Nat.le_of_ble_eq_true rfl) (Nat.le_of_ble_eq_true rfl) (Nat.le_of_ble_eq_true rfl) (Nat.le_of_ble_eq_true rfl) (Nat.le_of_ble_eq_true rfl) (Nat.le_of_ble_eq_true rfl)
  · have hf := x_ine hc1 hf
    refine x_iload_n C 1 dX6_type_6 rfl ?_
    refine x_bipush (v := 126) C dX6_type_7 (by decide) ?_
    refine x_icmp_le C 23 dX6_type_9 (by decide) (fun hc2 => ?_) (fun hc2 => ?_)
    · have hf := x_ip hc2 hf
      refine x_aload_n C 0 dX6_type_23 rfl ?_
      refine x_get8 C xkd_0 i8 6 (by decide) (by decide +kernel) rfl rfl dX6_type_24 ?_
      refine x_get6 C xkd_2 i6 0 (by decide) (by decide +kernel) rfl rfl dX6_type_27 ?_
      obtain ⟨q3, hg, hf⟩ := x_bd hf
      refine x_callVCTr C (xRv_1 C xkd_4) (t_J4_length_8abf5 xkd_4 hg) (cwV 0 C.1.2.2.2.2 gX6_type_J4_length_8abf5 rfl rfl rfl (by decide +kernel) ⟨Nat.le_of_ble_eq_true rfl, Nat.le_of_ble_eq_true rfl⟩) rfl rfl (Nat.le_of_ble_eq_true rfl) dX6_type_30 ⟨Nat.zero_le _, Nat.zero_le _⟩ ?_
      clear hg
      refine x_bipush (v := 60) C dX6_type_33 (by decide) ?_
      refine x_icmp_lt C 49 dX6_type_35 (by decide) (fun hc5 => ?_) (fun hc5 => ?_)
      · have hf := x_ip hc5 hf
        refine x_aload_n C 0 dX6_type_49 rfl ?_
        refine x_get8 C xkd_0 i8 6 (by decide) (by decide +kernel) rfl rfl dX6_type_50 ?_
        refine x_get6 C xkd_2 i6 0 (by decide) (by decide +kernel) rfl rfl dX6_type_53 ?_
        refine x_iload_n C 1 dX6_type_56 rfl ?_
        obtain ⟨q6, hg, hf⟩ := x_bd hf
        refine x_callVr C (by rw [xkd_4]; decide) (by rw [xkd_4]; decide) (xc1 xkd_4) rfl (t_J4_append_cf468 xkd_4 hg) (cwV 1 C.1.2.2.2.2 gX6_type_J4_append_cf468 rfl rfl rfl (by decide +kernel) ⟨Nat.le_of_ble_eq_true rfl, Nat.le_of_ble_eq_true rfl⟩) rfl rfl (Nat.le_of_ble_eq_true rfl) dX6_type_57 ⟨Nat.le_of_ble_eq_true rfl, Nat.le_of_ble_eq_true rfl⟩ (fun ta7 => ?_)
        clear hg
        refine x_pop C dX6_type_60 rfl ?_
        refine x_aload_n C 0 dX6_type_61 rfl ?_
        refine x_get8 C xkd_0 i8 6 (by decide) (by decide +kernel) rfl rfl dX6_type_62 ?_
        refine x_get6 C xkd_2 i6 0 (by decide) (by decide +kernel) rfl rfl dX6_type_65 ?_
        obtain ⟨q8, hg, hf⟩ := x_bd hf
        refine x_callVCTr C (xRv_1 C xkd_4) (t_J4_length_8abf5 xkd_4 hg) (cwV 0 C.1.2.2.2.2 gX6_type_J4_length_8abf5 rfl rfl rfl (by decide +kernel) ⟨Nat.le_of_ble_eq_true rfl, Nat.le_of_ble_eq_true rfl⟩) rfl rfl (Nat.le_of_ble_eq_true rfl) dX6_type_68 ⟨Nat.le_of_ble_eq_true rfl, Nat.le_of_ble_eq_true rfl⟩ ?_
        clear hg
        obtain rfl := Option.some.inj hf
        refine x_ret ?_
        refine x_widen (k' := 1) (n' := 142) (Nat.le_of_ble_eq_true rfl) (Nat.le_of_ble_eq_true rfl) ?_
        exact x_iret C hr hlk dX6_type_71
      · have hf := x_ine hc5 hf
        obtain rfl := Option.some.inj hf
        exact x_throwSW C hfl hlk htb (cls := "java/lang/IllegalStateException") (names := ["java/lang/RuntimeException", "java/lang/Exception"]) (ik := 111) (is := 347) (ic := 115) (text := "the script buffer is full") (by decide +kernel) (by decide +kernel) (by decide +kernel) (by decide +kernel) (by decide +kernel) (by decide +kernel) (by decide +kernel) dX6_type_38 dX6_type_41 dX6_type_42 dX6_type_45 dX6_type_48 (Nat.le_of_ble_eq_true rfl) (Nat.le_of_ble_eq_true rfl) (Nat.le_of_ble_eq_true rfl) (Nat.le_of_ble_eq_true rfl) (Nat.le_of_ble_eq_true rfl) (Nat.le_of_ble_eq_true rfl)
    · have hf := x_ine hc2 hf
      obtain rfl := Option.some.inj hf
      exact x_throwSW C hfl hlk htb (cls := "java/lang/IllegalArgumentException") (names := ["java/lang/RuntimeException", "java/lang/Exception"]) (ik := 106) (is := 342) (ic := 110) (text := "this character cannot be typed") (by decide +kernel) (by decide +kernel) (by decide +kernel) (by decide +kernel) (by decide +kernel) (by decide +kernel) (by decide +kernel) dX6_type_12 dX6_type_15 dX6_type_16 dX6_type_19 dX6_type_22 (Nat.le_of_ble_eq_true rfl) (Nat.le_of_ble_eq_true rfl) (Nat.le_of_ble_eq_true rfl) (Nat.le_of_ble_eq_true rfl) (Nat.le_of_ble_eq_true rfl) (Nat.le_of_ble_eq_true rfl)
/-! WaitingRoomSimulation.perform(LWaitingRoomSimulation$Command;)I -/
abbrev rm_X6_perform (c s : Nat) : Room := { frames := 5, cells := c, slots := s, locals := 115 }
def f_X6_perform (a1 : Nat) (M : xM) : Option (Int32 × xM) := if x_in (0 : Int32) 3 = true then if x_in (1 : Int32) 3 = true then if x_in (2 : Int32) 3 = true then if x_in (Int32.ofNat a1) 10 = true then (if (Int32.ofNat ((Int32.ofNat a1).toNatClampNeg + 1)) = 1 then if xkd (M.2.1 0 1) = 5 then (f_X3_admit (M.2.1 0 1) (M.1 3 (0 : Int32).toNatClampNeg) M).bind fun q7 => some (q7.1, q7.2) else none else if (Int32.ofNat ((Int32.ofNat a1).toNatClampNeg + 1)) = 2 then if xkd (M.2.1 0 1) = 5 then (f_X3_open (M.2.1 0 1) (M.1 3 (0 : Int32).toNatClampNeg) (M.1 3 (1 : Int32).toNatClampNeg) (M.1 3 (2 : Int32).toNatClampNeg) M).bind fun q11 => some (q11.1, q11.2) else none else if (Int32.ofNat ((Int32.ofNat a1).toNatClampNeg + 1)) = 3 then if xkd (M.2.1 0 1) = 5 then (f_X3_close (M.2.1 0 1) (M.1 3 (0 : Int32).toNatClampNeg) M).bind fun q15 => some (q15.1, q15.2) else none else if (Int32.ofNat ((Int32.ofNat a1).toNatClampNeg + 1)) = 4 then if xkd (M.2.1 0 1) = 5 then (f_X3_callLowestTicket (M.2.1 0 1) M).bind fun q19 => some (q19.1, q19.2) else none else if (Int32.ofNat ((Int32.ofNat a1).toNatClampNeg + 1)) = 5 then if xkd (M.2.1 0 1) = 5 then (f_X3_exchange (M.2.1 0 1) (M.1 3 (0 : Int32).toNatClampNeg) (M.1 3 (1 : Int32).toNatClampNeg) M).bind fun q23 => some (q23.1, q23.2) else none else if (Int32.ofNat ((Int32.ofNat a1).toNatClampNeg + 1)) = 6 then if xkd (M.2.1 0 1) = 5 then (f_X3_seat (M.2.1 0 1) (M.1 3 (0 : Int32).toNatClampNeg) M).bind fun q27 => some (q27.1, q27.2) else none else if (Int32.ofNat ((Int32.ofNat a1).toNatClampNeg + 1)) = 7 then if xkd (M.2.1 0 1) = 5 then (f_X3_unseat (M.2.1 0 1) (M.1 3 (0 : Int32).toNatClampNeg) M).bind fun q31 => some (q31.1, q31.2) else none else if (Int32.ofNat ((Int32.ofNat a1).toNatClampNeg + 1)) = 8 then if xkd (M.2.1 0 1) = 5 then (f_X3_dismiss (M.2.1 0 1) (M.1 3 (0 : Int32).toNatClampNeg) M).bind fun q35 => some (q35.1, q35.2) else none else if (Int32.ofNat ((Int32.ofNat a1).toNatClampNeg + 1)) = 9 then if xkd (M.2.1 0 1) = 5 then (f_X3_pass (M.2.1 0 1) (M.1 3 (0 : Int32).toNatClampNeg) M).bind fun q39 => some (q39.1, q39.2) else none else if (Int32.ofNat ((Int32.ofNat a1).toNatClampNeg + 1)) = 10 then if xkd (M.2.1 0 1) = 5 then (f_X3_pass (M.2.1 0 1) (1 : Int32) M).bind fun q43 => some (q43.1, q43.2) else none else some ((-3 : Int32), M)) else none else none else none else none
set_option maxHeartbeats 4000000 in
set_option maxRecDepth 100000 in
theorem t_X6_perform {l : Launch} {G : xG} {ta : Nat × Nat} {M : xM} {a1 : Nat} {out : Int32 × xM} (ka1 : a1 < 10) (hf : f_X6_perform a1 M = some out) : xMet G l yX6_perform wsX6_perform (rm_X6_perform 0 0) 0 0 ta M [.ref (xad G 0), .ref (xcm G a1)] (some (.int out.1)) out.2 := by
  refine x_met (cc := cX6_perform) (nL := 5) (ret := some .int) (by decide) rfl (Nat.le_of_ble_eq_true rfl) ?_
  intro p e s m args below meth c C hr hlk
  have C : xC G p s m args c cX6_perform 5 wsX6_perform RX6 := C
  have i6 : ∀ w ∈ wsX40, w ∈ wsX6_perform := by decide +kernel
  have i8 : ∀ w ∈ wsX60, w ∈ wsX6_perform := by decide +kernel
  unfold f_X6_perform at hf
  show xW G p l e (rm_X6_perform 0 0) s m args below meth c 5 (MQ below (xQr G (some (.int out.1)) out.2) args s 0 0 (xAs G)) 0 0 ta M 0 [(0, .ref (xad G 0)), (1, .ref (xcm G a1))] []
  refine x_aload_n C 0 dX6_perform_0 rfl ?_
  refine x_get8 C xkd_0 i8 6 (by decide) (by decide +kernel) rfl rfl dX6_perform_1 ?_
  refine x_get6 C xkd_2 i6 1 (by decide) (by decide +kernel) rfl rfl dX6_perform_4 ?_
  refine x_iconst (v := 0) C dX6_perform_7 (by decide) ?_
  obtain ⟨g1, hf⟩ := x_gd hf
  refine x_iald C xkd_3 xl_3 g1 dX6_perform_8 ?_
  refine x_istore_n (lv' := [(2, .int (M.1 3 (0 : Int32).toNatClampNeg)), (0, .ref (xad G 0)), (1, .ref (xcm G a1))]) C dX6_perform_9 rfl (by decide) rfl ?_
  refine x_aload_n C 1 dX6_perform_10 rfl ?_
  refine x_get8 C xkd_0 i8 6 (by decide) (by decide +kernel) rfl rfl dX6_perform_11 ?_
  refine x_get6 C xkd_2 i6 1 (by decide) (by decide +kernel) rfl rfl dX6_perform_14 ?_
  refine x_iconst (v := 1) C dX6_perform_17 (by decide) ?_
  obtain ⟨g2, hf⟩ := x_gd hf
  refine x_iald C xkd_3 xl_3 g2 dX6_perform_18 ?_
  refine x_istore_n (lv' := [(3, .int (M.1 3 (1 : Int32).toNatClampNeg)), (2, .int (M.1 3 (0 : Int32).toNatClampNeg)), (0, .ref (xad G 0)), (1, .ref (xcm G a1))]) C dX6_perform_19 rfl (by decide) rfl ?_
  refine x_aload_n C 2 dX6_perform_20 rfl ?_
  refine x_get8 C xkd_0 i8 6 (by decide) (by decide +kernel) rfl rfl dX6_perform_21 ?_
  refine x_get6 C xkd_2 i6 1 (by decide) (by decide +kernel) rfl rfl dX6_perform_24 ?_
  refine x_iconst (v := 2) C dX6_perform_27 (by decide) ?_
  obtain ⟨g3, hf⟩ := x_gd hf
  refine x_iald C xkd_3 xl_3 g3 dX6_perform_28 ?_
  refine x_istore (lv' := [(4, .int (M.1 3 (2 : Int32).toNatClampNeg)), (3, .int (M.1 3 (1 : Int32).toNatClampNeg)), (2, .int (M.1 3 (0 : Int32).toNatClampNeg)), (0, .ref (xad G 0)), (1, .ref (xcm G a1))]) C dX6_perform_29 (by decide) rfl ?_
  refine x_gSM C (by decide +kernel) dX6_perform_31 ?_
  refine x_aload_n C 4 dX6_perform_34 rfl ?_
  refine x_ordinal C ka1 (by decide +kernel) (by decide +kernel) (by decide +kernel) (by decide +kernel) (by decide +kernel) (by decide +kernel) ⟨Nat.le_of_ble_eq_true rfl, Nat.le_of_ble_eq_true rfl⟩ ⟨Nat.zero_le _, Nat.zero_le _⟩ (Nat.le_of_ble_eq_true rfl) dX6_perform_35 ?_
  obtain ⟨g4, hf⟩ := x_gd hf
  refine x_tSM C g4 dX6_perform_38 ?_
  rcases Decidable.em ((Int32.ofNat ((Int32.ofNat a1).toNatClampNeg + 1)) = 1) with hc5 | hc5
  · have hf := x_ip hc5 hf
    refine x_tableIn C 92 dX6_perform_39 (by rw [hc5]; decide) (by rw [hc5]; decide) (by rw [hc5]; rfl) (by decide) ?_
    refine x_aload_n C 3 dX6_perform_92 rfl ?_
    obtain ⟨g6, hf⟩ := x_gd hf
    refine x_get8 C xkd_0 i8 1 (by decide) (by decide +kernel) rfl rfl dX6_perform_93 ?_
    refine x_iload_n C 2 dX6_perform_96 rfl ?_
    obtain ⟨q7, hg, hf⟩ := x_bd hf
    refine x_callVr C (by rw [g6]; decide) (by rw [g6]; decide) (xc5 g6) rfl (t_X3_admit g6 hg) (cwV 1 C.1.2.2.2.2 gX6_perform_X3_admit rfl rfl rfl (by decide +kernel) ⟨Nat.le_of_ble_eq_true rfl, Nat.le_of_ble_eq_true rfl⟩) rfl rfl (Nat.le_of_ble_eq_true rfl) dX6_perform_97 ⟨Nat.zero_le _, Nat.zero_le _⟩ (fun ta8 => ?_)
    clear hg
    obtain rfl := Option.some.inj hf
    exact x_iret C hr hlk dX6_perform_100
  have hf := x_ine hc5 hf
  rcases Decidable.em ((Int32.ofNat ((Int32.ofNat a1).toNatClampNeg + 1)) = 2) with hc9 | hc9
  · have hf := x_ip hc9 hf
    refine x_tableIn C 101 dX6_perform_39 (by rw [hc9]; decide) (by rw [hc9]; decide) (by rw [hc9]; rfl) (by decide) ?_
    refine x_aload_n C 3 dX6_perform_101 rfl ?_
    obtain ⟨g10, hf⟩ := x_gd hf
    refine x_get8 C xkd_0 i8 1 (by decide) (by decide +kernel) rfl rfl dX6_perform_102 ?_
    refine x_iload_n C 2 dX6_perform_105 rfl ?_
    refine x_iload_n C 1 dX6_perform_106 rfl ?_
    refine x_iload C 0 dX6_perform_107 rfl ?_
    obtain ⟨q11, hg, hf⟩ := x_bd hf
    refine x_callVr C (by rw [g10]; decide) (by rw [g10]; decide) (xc5 g10) rfl (t_X3_open g10 hg) (cwV 3 C.1.2.2.2.2 gX6_perform_X3_open rfl rfl rfl (by decide +kernel) ⟨Nat.le_of_ble_eq_true rfl, Nat.le_of_ble_eq_true rfl⟩) rfl rfl (Nat.le_of_ble_eq_true rfl) dX6_perform_109 ⟨Nat.zero_le _, Nat.zero_le _⟩ (fun ta12 => ?_)
    clear hg
    obtain rfl := Option.some.inj hf
    exact x_iret C hr hlk dX6_perform_112
  have hf := x_ine hc9 hf
  rcases Decidable.em ((Int32.ofNat ((Int32.ofNat a1).toNatClampNeg + 1)) = 3) with hc13 | hc13
  · have hf := x_ip hc13 hf
    refine x_tableIn C 113 dX6_perform_39 (by rw [hc13]; decide) (by rw [hc13]; decide) (by rw [hc13]; rfl) (by decide) ?_
    refine x_aload_n C 3 dX6_perform_113 rfl ?_
    obtain ⟨g14, hf⟩ := x_gd hf
    refine x_get8 C xkd_0 i8 1 (by decide) (by decide +kernel) rfl rfl dX6_perform_114 ?_
    refine x_iload_n C 2 dX6_perform_117 rfl ?_
    obtain ⟨q15, hg, hf⟩ := x_bd hf
    refine x_callVr C (by rw [g14]; decide) (by rw [g14]; decide) (xc5 g14) rfl (t_X3_close g14 hg) (cwV 1 C.1.2.2.2.2 gX6_perform_X3_close rfl rfl rfl (by decide +kernel) ⟨Nat.le_of_ble_eq_true rfl, Nat.le_of_ble_eq_true rfl⟩) rfl rfl (Nat.le_of_ble_eq_true rfl) dX6_perform_118 ⟨Nat.zero_le _, Nat.zero_le _⟩ (fun ta16 => ?_)
    clear hg
    obtain rfl := Option.some.inj hf
    exact x_iret C hr hlk dX6_perform_121
  have hf := x_ine hc13 hf
  rcases Decidable.em ((Int32.ofNat ((Int32.ofNat a1).toNatClampNeg + 1)) = 4) with hc17 | hc17
  · have hf := x_ip hc17 hf
    refine x_tableIn C 122 dX6_perform_39 (by rw [hc17]; decide) (by rw [hc17]; decide) (by rw [hc17]; rfl) (by decide) ?_
    refine x_aload_n C 3 dX6_perform_122 rfl ?_
    obtain ⟨g18, hf⟩ := x_gd hf
    refine x_get8 C xkd_0 i8 1 (by decide) (by decide +kernel) rfl rfl dX6_perform_123 ?_
    obtain ⟨q19, hg, hf⟩ := x_bd hf
    refine x_callVr C (by rw [g18]; decide) (by rw [g18]; decide) (xc5 g18) rfl (t_X3_callLowestTicket g18 hg) (cwV 0 C.1.2.2.2.2 gX6_perform_X3_callLowestTicket rfl rfl rfl (by decide +kernel) ⟨Nat.le_of_ble_eq_true rfl, Nat.le_of_ble_eq_true rfl⟩) rfl rfl (Nat.le_of_ble_eq_true rfl) dX6_perform_126 ⟨Nat.zero_le _, Nat.zero_le _⟩ (fun ta20 => ?_)
    clear hg
    obtain rfl := Option.some.inj hf
    exact x_iret C hr hlk dX6_perform_129
  have hf := x_ine hc17 hf
  rcases Decidable.em ((Int32.ofNat ((Int32.ofNat a1).toNatClampNeg + 1)) = 5) with hc21 | hc21
  · have hf := x_ip hc21 hf
    refine x_tableIn C 130 dX6_perform_39 (by rw [hc21]; decide) (by rw [hc21]; decide) (by rw [hc21]; rfl) (by decide) ?_
    refine x_aload_n C 3 dX6_perform_130 rfl ?_
    obtain ⟨g22, hf⟩ := x_gd hf
    refine x_get8 C xkd_0 i8 1 (by decide) (by decide +kernel) rfl rfl dX6_perform_131 ?_
    refine x_iload_n C 2 dX6_perform_134 rfl ?_
    refine x_iload_n C 1 dX6_perform_135 rfl ?_
    obtain ⟨q23, hg, hf⟩ := x_bd hf
    refine x_callVr C (by rw [g22]; decide) (by rw [g22]; decide) (xc5 g22) rfl (t_X3_exchange g22 hg) (cwV 2 C.1.2.2.2.2 gX6_perform_X3_exchange rfl rfl rfl (by decide +kernel) ⟨Nat.le_of_ble_eq_true rfl, Nat.le_of_ble_eq_true rfl⟩) rfl rfl (Nat.le_of_ble_eq_true rfl) dX6_perform_136 ⟨Nat.zero_le _, Nat.zero_le _⟩ (fun ta24 => ?_)
    clear hg
    obtain rfl := Option.some.inj hf
    exact x_iret C hr hlk dX6_perform_139
  have hf := x_ine hc21 hf
  rcases Decidable.em ((Int32.ofNat ((Int32.ofNat a1).toNatClampNeg + 1)) = 6) with hc25 | hc25
  · have hf := x_ip hc25 hf
    refine x_tableIn C 140 dX6_perform_39 (by rw [hc25]; decide) (by rw [hc25]; decide) (by rw [hc25]; rfl) (by decide) ?_
    refine x_aload_n C 3 dX6_perform_140 rfl ?_
    obtain ⟨g26, hf⟩ := x_gd hf
    refine x_get8 C xkd_0 i8 1 (by decide) (by decide +kernel) rfl rfl dX6_perform_141 ?_
    refine x_iload_n C 2 dX6_perform_144 rfl ?_
    obtain ⟨q27, hg, hf⟩ := x_bd hf
    refine x_callVr C (by rw [g26]; decide) (by rw [g26]; decide) (xc5 g26) rfl (t_X3_seat g26 hg) (cwV 1 C.1.2.2.2.2 gX6_perform_X3_seat rfl rfl rfl (by decide +kernel) ⟨Nat.le_of_ble_eq_true rfl, Nat.le_of_ble_eq_true rfl⟩) rfl rfl (Nat.le_of_ble_eq_true rfl) dX6_perform_145 ⟨Nat.zero_le _, Nat.zero_le _⟩ (fun ta28 => ?_)
    clear hg
    obtain rfl := Option.some.inj hf
    exact x_iret C hr hlk dX6_perform_148
  have hf := x_ine hc25 hf
  rcases Decidable.em ((Int32.ofNat ((Int32.ofNat a1).toNatClampNeg + 1)) = 7) with hc29 | hc29
  · have hf := x_ip hc29 hf
    refine x_tableIn C 149 dX6_perform_39 (by rw [hc29]; decide) (by rw [hc29]; decide) (by rw [hc29]; rfl) (by decide) ?_
    refine x_aload_n C 3 dX6_perform_149 rfl ?_
    obtain ⟨g30, hf⟩ := x_gd hf
    refine x_get8 C xkd_0 i8 1 (by decide) (by decide +kernel) rfl rfl dX6_perform_150 ?_
    refine x_iload_n C 2 dX6_perform_153 rfl ?_
    obtain ⟨q31, hg, hf⟩ := x_bd hf
    refine x_callVr C (by rw [g30]; decide) (by rw [g30]; decide) (xc5 g30) rfl (t_X3_unseat g30 hg) (cwV 1 C.1.2.2.2.2 gX6_perform_X3_unseat rfl rfl rfl (by decide +kernel) ⟨Nat.le_of_ble_eq_true rfl, Nat.le_of_ble_eq_true rfl⟩) rfl rfl (Nat.le_of_ble_eq_true rfl) dX6_perform_154 ⟨Nat.zero_le _, Nat.zero_le _⟩ (fun ta32 => ?_)
    clear hg
    obtain rfl := Option.some.inj hf
    exact x_iret C hr hlk dX6_perform_157
  have hf := x_ine hc29 hf
  rcases Decidable.em ((Int32.ofNat ((Int32.ofNat a1).toNatClampNeg + 1)) = 8) with hc33 | hc33
  · have hf := x_ip hc33 hf
    refine x_tableIn C 158 dX6_perform_39 (by rw [hc33]; decide) (by rw [hc33]; decide) (by rw [hc33]; rfl) (by decide) ?_
    refine x_aload_n C 3 dX6_perform_158 rfl ?_
    obtain ⟨g34, hf⟩ := x_gd hf
    refine x_get8 C xkd_0 i8 1 (by decide) (by decide +kernel) rfl rfl dX6_perform_159 ?_
    refine x_iload_n C 2 dX6_perform_162 rfl ?_
    obtain ⟨q35, hg, hf⟩ := x_bd hf
    refine x_callVr C (by rw [g34]; decide) (by rw [g34]; decide) (xc5 g34) rfl (t_X3_dismiss g34 hg) (cwV 1 C.1.2.2.2.2 gX6_perform_X3_dismiss rfl rfl rfl (by decide +kernel) ⟨Nat.le_of_ble_eq_true rfl, Nat.le_of_ble_eq_true rfl⟩) rfl rfl (Nat.le_of_ble_eq_true rfl) dX6_perform_163 ⟨Nat.zero_le _, Nat.zero_le _⟩ (fun ta36 => ?_)
    clear hg
    obtain rfl := Option.some.inj hf
    exact x_iret C hr hlk dX6_perform_166
  have hf := x_ine hc33 hf
  rcases Decidable.em ((Int32.ofNat ((Int32.ofNat a1).toNatClampNeg + 1)) = 9) with hc37 | hc37
  · have hf := x_ip hc37 hf
    refine x_tableIn C 167 dX6_perform_39 (by rw [hc37]; decide) (by rw [hc37]; decide) (by rw [hc37]; rfl) (by decide) ?_
    refine x_aload_n C 3 dX6_perform_167 rfl ?_
    obtain ⟨g38, hf⟩ := x_gd hf
    refine x_get8 C xkd_0 i8 1 (by decide) (by decide +kernel) rfl rfl dX6_perform_168 ?_
    refine x_iload_n C 2 dX6_perform_171 rfl ?_
    obtain ⟨q39, hg, hf⟩ := x_bd hf
    refine x_callVr C (by rw [g38]; decide) (by rw [g38]; decide) (xc5 g38) rfl (t_X3_pass g38 hg) (cwV 1 C.1.2.2.2.2 gX6_perform_X3_pass rfl rfl rfl (by decide +kernel) ⟨Nat.le_of_ble_eq_true rfl, Nat.le_of_ble_eq_true rfl⟩) rfl rfl (Nat.le_of_ble_eq_true rfl) dX6_perform_172 ⟨Nat.zero_le _, Nat.zero_le _⟩ (fun ta40 => ?_)
    clear hg
    obtain rfl := Option.some.inj hf
    exact x_iret C hr hlk dX6_perform_175
  have hf := x_ine hc37 hf
  rcases Decidable.em ((Int32.ofNat ((Int32.ofNat a1).toNatClampNeg + 1)) = 10) with hc41 | hc41
  · have hf := x_ip hc41 hf
    refine x_tableIn C 176 dX6_perform_39 (by rw [hc41]; decide) (by rw [hc41]; decide) (by rw [hc41]; rfl) (by decide) ?_
    refine x_aload_n C 3 dX6_perform_176 rfl ?_
    obtain ⟨g42, hf⟩ := x_gd hf
    refine x_get8 C xkd_0 i8 1 (by decide) (by decide +kernel) rfl rfl dX6_perform_177 ?_
    refine x_iconst (v := 1) C dX6_perform_180 (by decide) ?_
    obtain ⟨q43, hg, hf⟩ := x_bd hf
    refine x_callVr C (by rw [g42]; decide) (by rw [g42]; decide) (xc5 g42) rfl (t_X3_pass g42 hg) (cwV 1 C.1.2.2.2.2 gX6_perform_X3_pass rfl rfl rfl (by decide +kernel) ⟨Nat.le_of_ble_eq_true rfl, Nat.le_of_ble_eq_true rfl⟩) rfl rfl (Nat.le_of_ble_eq_true rfl) dX6_perform_181 ⟨Nat.zero_le _, Nat.zero_le _⟩ (fun ta44 => ?_)
    clear hg
    obtain rfl := Option.some.inj hf
    exact x_iret C hr hlk dX6_perform_184
  have hf := x_ine hc41 hf
  refine x_tableOut C 185 dX6_perform_39 (by have qhc5 := lv_neT (a := 1) hc5 (by decide); have qhc9 := lv_neT (a := 2) hc9 (by decide); have qhc13 := lv_neT (a := 3) hc13 (by decide); have qhc17 := lv_neT (a := 4) hc17 (by decide); have qhc21 := lv_neT (a := 5) hc21 (by decide); have qhc25 := lv_neT (a := 6) hc25 (by decide); have qhc29 := lv_neT (a := 7) hc29 (by decide); have qhc33 := lv_neT (a := 8) hc33 (by decide); have qhc37 := lv_neT (a := 9) hc37 (by decide); have qhc41 := lv_neT (a := 10) hc41 (by decide); omega) (by decide) ?_
  refine x_bipush (v := (-3)) C dX6_perform_185 (by decide) ?_
  obtain rfl := Option.some.inj hf
  exact x_iret C hr hlk dX6_perform_187
/-! WaitingRoomSimulation.tryCommands(I)I -/
abbrev rm_X6_tryCommands (c s : Nat) : Room := { frames := 8, cells := c, slots := s, locals := 184 }
def f_X6_tryCommands_L4 (v1 : Int32) : Nat → Int32 → Int32 → xM → Option (Int32 × xM)
  | 0, _, _, _ => none
  | n+1, v2, v3, M => (if v1 ≤ v3 then some ((-1 : Int32), M) else (f_X4_commandAt v2 M).bind fun q2 => x_opt q2.1 ((fun (M5 : xM) => some (v3, M5)) q2.2) (fun r4 => (fun (M5 : xM) => if r4 < 10 then (f_X6_perform r4 M5).bind fun q7 => (if 0 ≤ q7.1 then f_X6_tryCommands_L4 v1 n ((q7.2.1 2 2) + (1 : Int32)) (v3 + 1) q7.2 else some (v3, q7.2)) else none) q2.2))
def f_X6_tryCommands (a1 : Int32) (M : xM) : Option (Int32 × xM) := f_X6_tryCommands_L4 a1 xF (0 : Int32) (0 : Int32) M
set_option maxHeartbeats 4000000 in
set_option maxRecDepth 100000 in
theorem t_X6_tryCommands_L4 {G : xG} {p : Program} {l : Launch} {e : Env} {s : State} {m : MethodId} {args : Array Value} {below : List Frame} {meth : Method} {c : Code} (C : xC G p s m args c cX6_tryCommands 5 wsX6_tryCommands RX6) (hr : meth.sig.returnType = some .int) (hlk : meth.locks = false) {v1 : Int32} : ∀ (n : Nat) (v2 : Int32) (v3 : Int32) (M : xM) (ta : Nat × Nat) (out : Int32 × xM), f_X6_tryCommands_L4 v1 n v2 v3 M = some out → xW G p l e (rm_X6_tryCommands 0 0) s m args below meth c 5 (MQ below (xQr G (some (.int out.1)) out.2) args s 0 0 (xAs G)) 0 0 ta M 4 [(0, .ref (xad G 0)), (1, .int v1), (2, .int v2), (3, .int v3)] [] := by
  intro n
  induction n with
  | zero =>
    intro v2 v3 M ta out hf
    rw [f_X6_tryCommands_L4] at hf
    cases hf
  | succ n ih =>
    intro v2 v3 M ta out hf
    rw [f_X6_tryCommands_L4] at hf
    have i6 : ∀ w ∈ wsX40, w ∈ wsX6_tryCommands := by decide +kernel
    have i8 : ∀ w ∈ wsX60, w ∈ wsX6_tryCommands := by decide +kernel
    refine x_iload_n C 3 dX6_tryCommands_4 rfl ?_
    refine x_iload_n C 1 dX6_tryCommands_5 rfl ?_
    refine x_icmp_ge C 51 dX6_tryCommands_6 (by decide) (fun hc1 => ?_) (fun hc1 => ?_)
    · have hf := x_ip hc1 hf
      refine x_iconst (v := (-1)) C dX6_tryCommands_51 (by decide) ?_
      obtain rfl := Option.some.inj hf
      exact x_iret C hr hlk dX6_tryCommands_52
    · have hf := x_ine hc1 hf
      refine x_aload_n C 0 dX6_tryCommands_9 rfl ?_
      refine x_get8 C xkd_0 i8 6 (by decide) (by decide +kernel) rfl rfl dX6_tryCommands_10 ?_
      refine x_iload_n C 2 dX6_tryCommands_13 rfl ?_
      obtain ⟨q2, hg, hf⟩ := x_bd hf
      obtain ⟨_ | r4, M5⟩ := q2
      · have hf := x_on hf
        refine x_callVr (w := .null) C (by rw [xkd_2]; decide) (by rw [xkd_2]; decide) (xc6 xkd_2) rfl (t_X4_commandAt hg) (cwV 1 C.1.2.2.2.2 gX6_tryCommands_X4_commandAt rfl rfl rfl (by decide +kernel) ⟨Nat.le_of_ble_eq_true rfl, Nat.le_of_ble_eq_true rfl⟩) rfl rfl (Nat.le_of_ble_eq_true rfl) dX6_tryCommands_14 ⟨Nat.zero_le _, Nat.zero_le _⟩ (fun ta3 => ?_)
        clear hg
        refine x_astoreN (lv' := [(4, .null), (0, .ref (xad G 0)), (1, .int v1), (2, .int v2), (3, .int v3)]) C dX6_tryCommands_17 (by decide) rfl ?_
        refine x_aloadN C 0 dX6_tryCommands_19 rfl ?_
        refine x_ifnullN C 33 dX6_tryCommands_21 (by decide) ?_
        refine x_iload_n C 4 dX6_tryCommands_33 rfl ?_
        obtain rfl := Option.some.inj hf
        exact x_iret C hr hlk dX6_tryCommands_34
      · have hf := x_os hf
        obtain ⟨g6, hf⟩ := x_gd hf
        refine x_callVr (w := .ref (xcm G r4)) C (by rw [xkd_2]; decide) (by rw [xkd_2]; decide) (xc6 xkd_2) rfl (t_X4_commandAt hg) (cwV 1 C.1.2.2.2.2 gX6_tryCommands_X4_commandAt rfl rfl rfl (by decide +kernel) ⟨Nat.le_of_ble_eq_true rfl, Nat.le_of_ble_eq_true rfl⟩) rfl rfl (Nat.le_of_ble_eq_true rfl) dX6_tryCommands_14 ⟨Nat.zero_le _, Nat.zero_le _⟩ (fun ta3 => ?_)
        clear hg
        refine x_astore (lv' := [(4, .ref (xcm G r4)), (0, .ref (xad G 0)), (1, .int v1), (2, .int v2), (3, .int v3)]) C dX6_tryCommands_17 (by decide) rfl ?_
        refine x_aload C 0 dX6_tryCommands_19 rfl ?_
        refine x_ifnull C dX6_tryCommands_21 ?_
        refine x_aload_n C 1 dX6_tryCommands_24 rfl ?_
        refine x_aload C 0 dX6_tryCommands_25 rfl ?_
        obtain ⟨q7, hg, hf⟩ := x_bd hf
        refine x_callVr C (by rw [xkd_0]; decide) (by rw [xkd_0]; decide) (xc8 xkd_0) rfl (t_X6_perform g6 hg) (cwV 1 C.1.2.2.2.2 gX6_tryCommands_X6_perform rfl rfl rfl (by decide +kernel) ⟨Nat.le_of_ble_eq_true rfl, Nat.le_of_ble_eq_true rfl⟩) rfl rfl (Nat.le_of_ble_eq_true rfl) dX6_tryCommands_27 ⟨Nat.zero_le _, Nat.zero_le _⟩ (fun ta8 => ?_)
        clear hg
        refine x_if_ge C 35 dX6_tryCommands_30 (by decide) (fun hc9 => ?_) (fun hc9 => ?_)
        · have hf := x_ip hc9 hf
          refine x_aload_n C 1 dX6_tryCommands_35 rfl ?_
          refine x_get8 C xkd_0 i8 6 (by decide) (by decide +kernel) rfl rfl dX6_tryCommands_36 ?_
          refine x_get6 C xkd_2 i6 2 (by decide) (by decide +kernel) rfl rfl dX6_tryCommands_39 ?_
          refine x_iconst (v := 1) C dX6_tryCommands_42 (by decide) ?_
          refine x_iadd C dX6_tryCommands_43 ?_
          refine x_istore_n (lv' := [(2, .int ((q7.2.1 2 2) + (1 : Int32))), (4, .ref (xcm G r4)), (0, .ref (xad G 0)), (1, .int v1), (3, .int v3)]) C dX6_tryCommands_44 rfl (by decide) rfl ?_
          refine x_iinc (v := v3 + 1) (lv' := [(3, .int (v3 + 1)), (2, .int ((q7.2.1 2 2) + (1 : Int32))), (4, .ref (xcm G r4)), (0, .ref (xad G 0)), (1, .int v1)]) C 4 dX6_tryCommands_45 rfl rfl (by decide) rfl ?_
          refine x_goto C 4 dX6_tryCommands_48 (by decide) ?_
          refine x_sub [3, 4, 1, 0] rfl ?_
          exact ih ((q7.2.1 2 2) + (1 : Int32)) (v3 + 1) q7.2 _ _ hf
        · have hf := x_ine hc9 hf
          refine x_iload_n C 4 dX6_tryCommands_33 rfl ?_
          obtain rfl := Option.some.inj hf
          exact x_iret C hr hlk dX6_tryCommands_34
set_option maxHeartbeats 4000000 in
set_option maxRecDepth 100000 in
theorem t_X6_tryCommands {l : Launch} {G : xG} {ta : Nat × Nat} {M : xM} {a1 : Int32} {out : Int32 × xM} (hf : f_X6_tryCommands a1 M = some out) : xMet G l yX6_tryCommands wsX6_tryCommands (rm_X6_tryCommands 0 0) 0 0 ta M [.ref (xad G 0), .int a1] (some (.int out.1)) out.2 := by
  refine x_met (cc := cX6_tryCommands) (nL := 5) (ret := some .int) (by decide) rfl (Nat.le_of_ble_eq_true rfl) ?_
  intro p e s m args below meth c C hr hlk
  have C : xC G p s m args c cX6_tryCommands 5 wsX6_tryCommands RX6 := C
  have i6 : ∀ w ∈ wsX40, w ∈ wsX6_tryCommands := by decide +kernel
  have i8 : ∀ w ∈ wsX60, w ∈ wsX6_tryCommands := by decide +kernel
  unfold f_X6_tryCommands at hf
  show xW G p l e (rm_X6_tryCommands 0 0) s m args below meth c 5 (MQ below (xQr G (some (.int out.1)) out.2) args s 0 0 (xAs G)) 0 0 ta M 0 [(0, .ref (xad G 0)), (1, .int a1)] []
  refine x_iconst (v := 0) C dX6_tryCommands_0 (by decide) ?_
  refine x_istore_n (lv' := [(2, .int (0 : Int32)), (0, .ref (xad G 0)), (1, .int a1)]) C dX6_tryCommands_1 rfl (by decide) rfl ?_
  refine x_iconst (v := 0) C dX6_tryCommands_2 (by decide) ?_
  refine x_istore_n (lv' := [(3, .int (0 : Int32)), (2, .int (0 : Int32)), (0, .ref (xad G 0)), (1, .int a1)]) C dX6_tryCommands_3 rfl (by decide) rfl ?_
  refine x_sub [2, 3, 1, 0] rfl ?_
  exact t_X6_tryCommands_L4 C hr hlk xF (0 : Int32) (0 : Int32) M _ _ hf
/-! WaitingRoomSimulation.runScript()I -/
abbrev rm_X6_runScript (c s : Nat) : Room := { frames := 10, cells := c, slots := s, locals := 364 }
def f_X6_runScript (M : xM) : Option ((Int32 ⊕ String) × xM) := (f_X4_countCommands M).bind fun q1 => (if q1.1 = (-1 : Int32) then x_let (sI q1.2 0 7 (q1.2.1 2 2)) fun M20 => (f_J4_setLength_d00df 4 (0 : Int32) M20).bind fun q22 => some (.inr "java/lang/IllegalArgumentException", q22) else if xkd (q1.2.2.1 0 1) = 5 then if xkd (q1.2.2.1 0 0) = 5 then (f_X3_copyFrom (q1.2.2.1 0 1) (q1.2.2.1 0 0) q1.2).bind fun q6 => (f_X6_tryCommands q1.1 q6).bind fun q8 => (f_J4_setLength_d00df 4 (0 : Int32) q8.2).bind fun q10 => (if q8.1 = (-1 : Int32) then (f_X6_commit q1.1 q10).bind fun q13 => x_case q13.1 (fun r15 => (fun (M17 : xM) => some (.inl r15, M17)) q13.2) (fun E16 => (fun (M17 : xM) => some (.inr E16, M17)) q13.2) else x_let (sI q10 0 8 q8.1) fun M18 => some (.inr "java/lang/IllegalStateException", M18)) else none else none)
set_option maxHeartbeats 4000000 in
set_option maxRecDepth 100000 in
theorem t_X6_runScript {l : Launch} {G : xG} {ta : Nat × Nat} {M : xM} {out : (Int32 ⊕ String) × xM} (hfl : l.stackTraces = false) (hf : f_X6_runScript M = some out) : xMetX G l yX6_runScript wsX6_runScript (rm_X6_runScript 2 148) 2 148 ta M [.ref (xad G 0)] (xo xoI out.1) out.2 := by
  refine x_metX (cc := cX6_runScript) (nL := 3) (ret := some .int) (by decide) rfl (Nat.le_of_ble_eq_true rfl) ?_
  intro p e s m args below meth c C hr hlk htb
  have C : xC G p s m args c cX6_runScript 3 wsX6_runScript RX6 := C
  have i6 : ∀ w ∈ wsX40, w ∈ wsX6_runScript := by decide +kernel
  have i8 : ∀ w ∈ wsX60, w ∈ wsX6_runScript := by decide +kernel
  unfold f_X6_runScript at hf
  show xW G p l e (rm_X6_runScript 2 148) s m args below meth c 3 (vx_MQ below (xQx G (xo xoI out.1) out.2) (xXc G (xo xoI out.1) out.2) args s 2 148 (xAs G)) 0 0 ta M 0 [(0, .ref (xad G 0))] []
  refine x_aload_n C 0 dX6_runScript_0 rfl ?_
  refine x_get8 C xkd_0 i8 6 (by decide) (by decide +kernel) rfl rfl dX6_runScript_1 ?_
  obtain ⟨q1, hg, hf⟩ := x_bd hf
  refine x_callVr C (by rw [xkd_2]; decide) (by rw [xkd_2]; decide) (xc6 xkd_2) rfl (t_X4_countCommands hg) (cwV 0 C.1.2.2.2.2 gX6_runScript_X4_countCommands rfl rfl rfl (by decide +kernel) ⟨Nat.le_of_ble_eq_true rfl, Nat.le_of_ble_eq_true rfl⟩) rfl rfl (Nat.le_of_ble_eq_true rfl) dX6_runScript_4 ⟨Nat.zero_le _, Nat.zero_le _⟩ (fun ta2 => ?_)
  clear hg
  refine x_istore_n (lv' := [(1, .int q1.1), (0, .ref (xad G 0))]) C dX6_runScript_7 rfl (by decide) rfl ?_
  refine x_iload_n C 0 dX6_runScript_8 rfl ?_
  refine x_iconst (v := (-1)) C dX6_runScript_9 (by decide) ?_
  refine x_icmp_ne C 46 dX6_runScript_10 (by decide) (fun hc3 => ?_) (fun hc3 => ?_)
  · have hf := x_ine hc3 hf
    refine x_aload_n C 1 dX6_runScript_46 rfl ?_
    obtain ⟨g4, hf⟩ := x_gd hf
    refine x_get8 C xkd_0 i8 1 (by decide) (by decide +kernel) rfl rfl dX6_runScript_47 ?_
    refine x_aload_n C 1 dX6_runScript_50 rfl ?_
    obtain ⟨g5, hf⟩ := x_gd hf
    refine x_get8 C xkd_0 i8 0 (by decide) (by decide +kernel) rfl rfl dX6_runScript_51 ?_
    obtain ⟨q6, hg, hf⟩ := x_bd hf
    refine x_callVv C (by rw [g4]; decide) (by rw [g4]; decide) (xc5 g4) rfl (t_X3_copyFrom g4 g5 hg) (cwV 1 C.1.2.2.2.2 gX6_runScript_X3_copyFrom rfl rfl rfl (by decide +kernel) ⟨Nat.le_of_ble_eq_true rfl, Nat.le_of_ble_eq_true rfl⟩) rfl rfl (Nat.le_of_ble_eq_true rfl) dX6_runScript_54 ⟨Nat.zero_le _, Nat.zero_le _⟩ (fun ta7 => ?_)
    clear hg
    refine x_aload_n C 1 dX6_runScript_57 rfl ?_
    refine x_iload_n C 0 dX6_runScript_58 rfl ?_
    obtain ⟨q8, hg, hf⟩ := x_bd hf
    refine x_callVr C (by rw [xkd_0]; decide) (by rw [xkd_0]; decide) (xc8 xkd_0) rfl (t_X6_tryCommands hg) (cwV 1 C.1.2.2.2.2 gX6_runScript_X6_tryCommands rfl rfl rfl (by decide +kernel) ⟨Nat.le_of_ble_eq_true rfl, Nat.le_of_ble_eq_true rfl⟩) rfl rfl (Nat.le_of_ble_eq_true rfl) dX6_runScript_59 ⟨Nat.zero_le _, Nat.zero_le _⟩ (fun ta9 => ?_)
    clear hg
    refine x_istore_n (lv' := [(2, .int q8.1), (1, .int q1.1), (0, .ref (xad G 0))]) C dX6_runScript_62 rfl (by decide) rfl ?_
    refine x_aload_n C 2 dX6_runScript_63 rfl ?_
    refine x_get8 C xkd_0 i8 6 (by decide) (by decide +kernel) rfl rfl dX6_runScript_64 ?_
    refine x_get6 C xkd_2 i6 0 (by decide) (by decide +kernel) rfl rfl dX6_runScript_67 ?_
    refine x_iconst (v := 0) C dX6_runScript_70 (by decide) ?_
    obtain ⟨q10, hg, hf⟩ := x_bd hf
    refine x_callVv C (by rw [xkd_4]; decide) (by rw [xkd_4]; decide) (xc1 xkd_4) rfl (t_J4_setLength_d00df xkd_4 hg) (cwV 1 C.1.2.2.2.2 gX6_runScript_J4_setLength_d00df rfl rfl rfl (by decide +kernel) ⟨Nat.le_of_ble_eq_true rfl, Nat.le_of_ble_eq_true rfl⟩) rfl rfl (Nat.le_of_ble_eq_true rfl) dX6_runScript_71 ⟨Nat.le_of_ble_eq_true rfl, Nat.le_of_ble_eq_true rfl⟩ (fun ta11 => ?_)
    clear hg
    refine x_iload_n C 0 dX6_runScript_74 rfl ?_
    refine x_iconst (v := (-1)) C dX6_runScript_75 (by decide) ?_
    refine x_icmp_eq C 95 dX6_runScript_76 (by decide) (fun hc12 => ?_) (fun hc12 => ?_)
    · have hf := x_ip hc12 hf
      refine x_aload_n C 2 dX6_runScript_95 rfl ?_
      refine x_iload_n C 1 dX6_runScript_96 rfl ?_
      obtain ⟨q13, hg, hf⟩ := x_bd hf
      rcases q13 with ⟨r15 | E16, M17⟩
      · have hf := x_ci hf
        refine x_callVXr (w := .int r15) (mc := 0) (ms := 0) C (by rw [xkd_0]; decide) (by rw [xkd_0]; decide) (xc8 xkd_0) rfl (t_X6_commit hfl hg) (cwV 1 C.1.2.2.2.2 gX6_runScript_X6_commit rfl rfl rfl (by decide +kernel) ⟨Nat.le_of_ble_eq_true rfl, Nat.le_of_ble_eq_true rfl⟩) rfl rfl (Nat.le_of_ble_eq_true rfl) dX6_runScript_97 ⟨Nat.le_of_ble_eq_true rfl, Nat.le_of_ble_eq_true rfl⟩ (fun ta14 => ?_)
        clear hg
        obtain rfl := Option.some.inj hf
        refine x_ret ?_
        refine x_widen (k' := 2) (n' := 148) (Nat.le_of_ble_eq_true rfl) (Nat.le_of_ble_eq_true rfl) ?_
        exact x_iret C hr hlk dX6_runScript_100
      · have hf := x_cx hf
        obtain rfl := Option.some.inj hf
        refine x_callVXt (mc := 1) (ms := 6) C (by rw [xkd_0]; decide) (by rw [xkd_0]; decide) (xc8 xkd_0) rfl (t_X6_commit hfl hg) (cwV 1 C.1.2.2.2.2 gX6_runScript_X6_commit rfl rfl rfl (by decide +kernel) ⟨Nat.le_of_ble_eq_true rfl, Nat.le_of_ble_eq_true rfl⟩) rfl rfl (Nat.le_of_ble_eq_true rfl) dX6_runScript_97 ⟨Nat.le_of_ble_eq_true rfl, Nat.le_of_ble_eq_true rfl⟩ (fun ta14 => ?_)
        exact x_out C hlk htb (Nat.le_of_ble_eq_true rfl) (Nat.le_of_ble_eq_true rfl)
    · have hf := x_ine hc12 hf
      refine x_aload_n C 2 dX6_runScript_79 rfl ?_
      refine x_iload_n C 0 dX6_runScript_80 rfl ?_
      refine x_put8 C xkd_0 i8 8 (by decide) (by decide +kernel) dX6_runScript_81 ?_
      obtain ⟨M18, e19, hf⟩ := x_lt hf
      rw [← e19]
      clear e19
      obtain rfl := Option.some.inj hf
      exact x_throwSW C hfl hlk htb (cls := "java/lang/IllegalStateException") (names := ["java/lang/RuntimeException", "java/lang/Exception"]) (ik := 111) (is := 360) (ic := 115) (text := "a command of the script failed") (by decide +kernel) (by decide +kernel) (by decide +kernel) (by decide +kernel) (by decide +kernel) (by decide +kernel) (by decide +kernel) dX6_runScript_84 dX6_runScript_87 dX6_runScript_88 dX6_runScript_91 dX6_runScript_94 (Nat.le_of_ble_eq_true rfl) (Nat.le_of_ble_eq_true rfl) (Nat.le_of_ble_eq_true rfl) (Nat.le_of_ble_eq_true rfl) (Nat.le_of_ble_eq_true rfl) (Nat.le_of_ble_eq_true rfl)
  · have hf := x_ip hc3 hf
    refine x_aload_n C 1 dX6_runScript_13 rfl ?_
    refine x_aload_n C 1 dX6_runScript_14 rfl ?_
    refine x_get8 C xkd_0 i8 6 (by decide) (by decide +kernel) rfl rfl dX6_runScript_15 ?_
    refine x_get6 C xkd_2 i6 2 (by decide) (by decide +kernel) rfl rfl dX6_runScript_18 ?_
    refine x_put8 C xkd_0 i8 7 (by decide) (by decide +kernel) dX6_runScript_21 ?_
    obtain ⟨M20, e21, hf⟩ := x_lt hf
    rw [← e21]
    clear e21
    refine x_aload_n C 1 dX6_runScript_24 rfl ?_
    refine x_get8 C xkd_0 i8 6 (by decide) (by decide +kernel) rfl rfl dX6_runScript_25 ?_
    refine x_get6 C xkd_2 i6 0 (by decide) (by decide +kernel) rfl rfl dX6_runScript_28 ?_
    refine x_iconst (v := 0) C dX6_runScript_31 (by decide) ?_
    obtain ⟨q22, hg, hf⟩ := x_bd hf
    refine x_callVv C (by rw [xkd_4]; decide) (by rw [xkd_4]; decide) (xc1 xkd_4) rfl (t_J4_setLength_d00df xkd_4 hg) (cwV 1 C.1.2.2.2.2 gX6_runScript_J4_setLength_d00df rfl rfl rfl (by decide +kernel) ⟨Nat.le_of_ble_eq_true rfl, Nat.le_of_ble_eq_true rfl⟩) rfl rfl (Nat.le_of_ble_eq_true rfl) dX6_runScript_32 ⟨Nat.le_of_ble_eq_true rfl, Nat.le_of_ble_eq_true rfl⟩ (fun ta23 => ?_)
    clear hg
    obtain rfl := Option.some.inj hf
    exact x_throwSW C hfl hlk htb (cls := "java/lang/IllegalArgumentException") (names := ["java/lang/RuntimeException", "java/lang/Exception"]) (ik := 106) (is := 355) (ic := 110) (text := "the script does not have the required form") (by decide +kernel) (by decide +kernel) (by decide +kernel) (by decide +kernel) (by decide +kernel) (by decide +kernel) (by decide +kernel) dX6_runScript_35 dX6_runScript_38 dX6_runScript_39 dX6_runScript_42 dX6_runScript_45 (Nat.le_of_ble_eq_true rfl) (Nat.le_of_ble_eq_true rfl) (Nat.le_of_ble_eq_true rfl) (Nat.le_of_ble_eq_true rfl) (Nat.le_of_ble_eq_true rfl) (Nat.le_of_ble_eq_true rfl)
/-! WaitingRoomSimulation.errorPosition()I -/
abbrev rm_X6_errorPosition (c s : Nat) : Room := { frames := 8, cells := c, slots := s, locals := 200 }
def f_X6_errorPosition (M : xM) : Option ((Int32 ⊕ String)) := (if (M.1 0 7) = (-1 : Int32) then some (.inr "java/util/NoSuchElementException") else some (.inl (M.1 0 7)))
set_option maxHeartbeats 4000000 in
set_option maxRecDepth 100000 in
theorem t_X6_errorPosition {l : Launch} {G : xG} {ta : Nat × Nat} {M : xM} {out : (Int32 ⊕ String)} (hfl : l.stackTraces = false) (hf : f_X6_errorPosition M = some out) : xMetX G l yX6_errorPosition wsX6_errorPosition (rm_X6_errorPosition (xoc out) (xos out)) (xoc out) (xos out) ta M [.ref (xad G 0)] (xo xoI out) M := by
  refine x_metX (cc := cX6_errorPosition) (nL := 1) (ret := some .int) (by decide) rfl (Nat.le_of_ble_eq_true rfl) ?_
  intro p e s m args below meth c C hr hlk htb
  have C : xC G p s m args c cX6_errorPosition 1 wsX6_errorPosition RX6 := C
  have i8 : ∀ w ∈ wsX60, w ∈ wsX6_errorPosition := by decide +kernel
  unfold f_X6_errorPosition at hf
  show xW G p l e (rm_X6_errorPosition (xoc out) (xos out)) s m args below meth c 1 (vx_MQ below (xQx G (xo xoI out) M) (xXc G (xo xoI out) M) args s (xoc out) (xos out) (xAs G)) 0 0 ta M 0 [(0, .ref (xad G 0))] []
  refine x_aload_n C 0 dX6_errorPosition_0 rfl ?_
  refine x_get8 C xkd_0 i8 7 (by decide) (by decide +kernel) rfl rfl dX6_errorPosition_1 ?_
  refine x_iconst (v := (-1)) C dX6_errorPosition_4 (by decide) ?_
  refine x_icmp_ne C 19 dX6_errorPosition_5 (by decide) (fun hc1 => ?_) (fun hc1 => ?_)
  · have hf := x_ine hc1 hf
    refine x_aload_n C 0 dX6_errorPosition_19 rfl ?_
    refine x_get8 C xkd_0 i8 7 (by decide) (by decide +kernel) rfl rfl dX6_errorPosition_20 ?_
    obtain rfl := Option.some.inj hf
    refine x_ret ?_
    exact x_iret C hr hlk dX6_errorPosition_23
  · have hf := x_ip hc1 hf
    obtain rfl := Option.some.inj hf
    exact x_nthrowSW C hfl hlk htb (cls := "java/util/NoSuchElementException") (names := ["java/lang/RuntimeException", "java/lang/Exception"]) (ik := 121) (is := 383) (ic := 125) (text := "every script had the required form") (by decide +kernel) (by decide +kernel) (by decide +kernel) (by decide +kernel) (by decide +kernel) (by decide +kernel) (by decide +kernel) dX6_errorPosition_8 dX6_errorPosition_11 dX6_errorPosition_12 dX6_errorPosition_15 dX6_errorPosition_18 (Nat.le_of_ble_eq_true rfl) (Nat.le_of_ble_eq_true rfl) (Nat.le_of_ble_eq_true rfl) (Nat.le_of_ble_eq_true rfl) (Nat.le_of_ble_eq_true rfl) (Nat.le_of_ble_eq_true rfl)
/-! WaitingRoomSimulation.failedCommand()I -/
abbrev rm_X6_failedCommand (c s : Nat) : Room := { frames := 8, cells := c, slots := s, locals := 200 }
def f_X6_failedCommand (M : xM) : Option ((Int32 ⊕ String)) := (if (M.1 0 8) = (-1 : Int32) then some (.inr "java/util/NoSuchElementException") else some (.inl (M.1 0 8)))
set_option maxHeartbeats 4000000 in
set_option maxRecDepth 100000 in
theorem t_X6_failedCommand {l : Launch} {G : xG} {ta : Nat × Nat} {M : xM} {out : (Int32 ⊕ String)} (hfl : l.stackTraces = false) (hf : f_X6_failedCommand M = some out) : xMetX G l yX6_failedCommand wsX6_failedCommand (rm_X6_failedCommand (xoc out) (xos out)) (xoc out) (xos out) ta M [.ref (xad G 0)] (xo xoI out) M := by
  refine x_metX (cc := cX6_failedCommand) (nL := 1) (ret := some .int) (by decide) rfl (Nat.le_of_ble_eq_true rfl) ?_
  intro p e s m args below meth c C hr hlk htb
  have C : xC G p s m args c cX6_failedCommand 1 wsX6_failedCommand RX6 := C
  have i8 : ∀ w ∈ wsX60, w ∈ wsX6_failedCommand := by decide +kernel
  unfold f_X6_failedCommand at hf
  show xW G p l e (rm_X6_failedCommand (xoc out) (xos out)) s m args below meth c 1 (vx_MQ below (xQx G (xo xoI out) M) (xXc G (xo xoI out) M) args s (xoc out) (xos out) (xAs G)) 0 0 ta M 0 [(0, .ref (xad G 0))] []
  refine x_aload_n C 0 dX6_failedCommand_0 rfl ?_
  refine x_get8 C xkd_0 i8 8 (by decide) (by decide +kernel) rfl rfl dX6_failedCommand_1 ?_
  refine x_iconst (v := (-1)) C dX6_failedCommand_4 (by decide) ?_
  refine x_icmp_ne C 19 dX6_failedCommand_5 (by decide) (fun hc1 => ?_) (fun hc1 => ?_)
  · have hf := x_ine hc1 hf
    refine x_aload_n C 0 dX6_failedCommand_19 rfl ?_
    refine x_get8 C xkd_0 i8 8 (by decide) (by decide +kernel) rfl rfl dX6_failedCommand_20 ?_
    obtain rfl := Option.some.inj hf
    refine x_ret ?_
    exact x_iret C hr hlk dX6_failedCommand_23
  · have hf := x_ip hc1 hf
    obtain rfl := Option.some.inj hf
    exact x_nthrowSW C hfl hlk htb (cls := "java/util/NoSuchElementException") (names := ["java/lang/RuntimeException", "java/lang/Exception"]) (ik := 121) (is := 385) (ic := 125) (text := "no command of a script failed") (by decide +kernel) (by decide +kernel) (by decide +kernel) (by decide +kernel) (by decide +kernel) (by decide +kernel) (by decide +kernel) dX6_failedCommand_8 dX6_failedCommand_11 dX6_failedCommand_12 dX6_failedCommand_15 dX6_failedCommand_18 (Nat.le_of_ble_eq_true rfl) (Nat.le_of_ble_eq_true rfl) (Nat.le_of_ble_eq_true rfl) (Nat.le_of_ble_eq_true rfl) (Nat.le_of_ble_eq_true rfl) (Nat.le_of_ble_eq_true rfl)
/-! WaitingRoomSimulation.undo()I -/
abbrev rm_X6_undo (c s : Nat) : Room := { frames := 8, cells := c, slots := s, locals := 200 }
def f_X6_undo (M : xM) : Option ((Int32 ⊕ String) × xM) := (if (M.1 0 5) = 0 then some (.inr "java/util/NoSuchElementException", M) else x_let (sI M 0 5 ((M.1 0 5) - (1 : Int32))) fun M2 => if xkd (M2.2.1 0 0) = 5 then if x_in (M2.1 0 5) 8 = true then if xkd (M2.2.1 1 (M2.1 0 5).toNatClampNeg) = 5 then x_let (sP M2 0 0 (M2.2.1 1 (M2.1 0 5).toNatClampNeg)) fun M7 => if x_in (M7.1 0 5) 8 = true then x_let (sP M7 1 (M7.1 0 5).toNatClampNeg (M2.2.1 0 0)) fun M10 => some (.inl (M10.1 0 5), M10) else none else none else none else none)
set_option maxHeartbeats 4000000 in
set_option maxRecDepth 100000 in
theorem t_X6_undo {l : Launch} {G : xG} {ta : Nat × Nat} {M : xM} {out : (Int32 ⊕ String) × xM} (hfl : l.stackTraces = false) (hf : f_X6_undo M = some out) : xMetX G l yX6_undo wsX6_undo (rm_X6_undo (xoc out.1) (xos out.1)) (xoc out.1) (xos out.1) ta M [.ref (xad G 0)] (xo xoI out.1) out.2 := by
  refine x_metX (cc := cX6_undo) (nL := 2) (ret := some .int) (by decide) rfl (Nat.le_of_ble_eq_true rfl) ?_
  intro p e s m args below meth c C hr hlk htb
  have C : xC G p s m args c cX6_undo 2 wsX6_undo RX6 := C
  have i8 : ∀ w ∈ wsX60, w ∈ wsX6_undo := by decide +kernel
  unfold f_X6_undo at hf
  show xW G p l e (rm_X6_undo (xoc out.1) (xos out.1)) s m args below meth c 2 (vx_MQ below (xQx G (xo xoI out.1) out.2) (xXc G (xo xoI out.1) out.2) args s (xoc out.1) (xos out.1) (xAs G)) 0 0 ta M 0 [(0, .ref (xad G 0))] []
  refine x_aload_n C 0 dX6_undo_0 rfl ?_
  refine x_get8 C xkd_0 i8 5 (by decide) (by decide +kernel) rfl rfl dX6_undo_1 ?_
  refine x_if_ne C 18 dX6_undo_4 (by decide) (fun hc1 => ?_) (fun hc1 => ?_)
  · have hf := x_ine hc1 hf
    refine x_aload_n C 0 dX6_undo_18 rfl ?_
    refine x_dup C dX6_undo_19 rfl ?_
    refine x_get8 C xkd_0 i8 5 (by decide) (by decide +kernel) rfl rfl dX6_undo_20 ?_
    refine x_iconst (v := 1) C dX6_undo_23 (by decide) ?_
    refine x_isub C dX6_undo_24 ?_
    refine x_put8 C xkd_0 i8 5 (by decide) (by decide +kernel) dX6_undo_25 ?_
    obtain ⟨M2, e3, hf⟩ := x_lt hf
    rw [← e3]
    clear e3
    refine x_aload_n C 0 dX6_undo_28 rfl ?_
    obtain ⟨g4, hf⟩ := x_gd hf
    refine x_get8 C xkd_0 i8 0 (by decide) (by decide +kernel) rfl rfl dX6_undo_29 ?_
    refine x_astore_n (lv' := [(1, .ref (xad G (M2.2.1 0 0))), (0, .ref (xad G 0))]) C dX6_undo_32 rfl (by decide) rfl ?_
    refine x_aload_n C 1 dX6_undo_33 rfl ?_
    refine x_aload_n C 1 dX6_undo_34 rfl ?_
    refine x_get8 C xkd_0 i8 4 (by decide) (by decide +kernel) rfl rfl dX6_undo_35 ?_
    refine x_aload_n C 1 dX6_undo_38 rfl ?_
    refine x_get8 C xkd_0 i8 5 (by decide) (by decide +kernel) rfl rfl dX6_undo_39 ?_
    obtain ⟨g5, hf⟩ := x_gd hf
    obtain ⟨g6, hf⟩ := x_gd hf
    refine x_aald24 C xkd_1 xl_1 g5 dX6_undo_42 ?_
    refine x_putr8 C xkd_0 i8 0 (by decide) (by decide +kernel) dX6_undo_43 ?_
    obtain ⟨M7, e8, hf⟩ := x_lt hf
    rw [← e8]
    clear e8
    refine x_aload_n C 1 dX6_undo_46 rfl ?_
    refine x_get8 C xkd_0 i8 4 (by decide) (by decide +kernel) rfl rfl dX6_undo_47 ?_
    refine x_aload_n C 1 dX6_undo_50 rfl ?_
    refine x_get8 C xkd_0 i8 5 (by decide) (by decide +kernel) rfl rfl dX6_undo_51 ?_
    refine x_aload_n C 0 dX6_undo_54 rfl ?_
    obtain ⟨g9, hf⟩ := x_gd hf
    refine x_aast24 C xkd_1 xl_1 g4 g9 dX6_undo_55 ?_
    obtain ⟨M10, e11, hf⟩ := x_lt hf
    rw [← e11]
    clear e11
    refine x_aload_n C 1 dX6_undo_56 rfl ?_
    refine x_get8 C xkd_0 i8 5 (by decide) (by decide +kernel) rfl rfl dX6_undo_57 ?_
    obtain rfl := Option.some.inj hf
    refine x_ret ?_
    exact x_iret C hr hlk dX6_undo_60
  · have hf := x_ip hc1 hf
    obtain rfl := Option.some.inj hf
    exact x_nthrowSW C hfl hlk htb (cls := "java/util/NoSuchElementException") (names := ["java/lang/RuntimeException", "java/lang/Exception"]) (ik := 121) (is := 387) (ic := 125) (text := "there is nothing to undo") (by decide +kernel) (by decide +kernel) (by decide +kernel) (by decide +kernel) (by decide +kernel) (by decide +kernel) (by decide +kernel) dX6_undo_7 dX6_undo_10 dX6_undo_11 dX6_undo_14 dX6_undo_17 (Nat.le_of_ble_eq_true rfl) (Nat.le_of_ble_eq_true rfl) (Nat.le_of_ble_eq_true rfl) (Nat.le_of_ble_eq_true rfl) (Nat.le_of_ble_eq_true rfl) (Nat.le_of_ble_eq_true rfl)
/-! WaitingRoomSimulation.save()I -/
abbrev rm_X6_save (c s : Nat) : Room := { frames := 2, cells := c, slots := s, locals := 43 }
def f_X6_save (M : xM) : Option (Int32 × xM) := if xkd (M.2.1 0 2) = 5 then if xkd (M.2.1 0 0) = 5 then (f_X3_copyFrom (M.2.1 0 2) (M.2.1 0 0) M).bind fun q3 => x_let (sI q3 0 3 (1 : Int32)) fun M5 => if xkd (M5.2.1 0 0) = 5 then some (M5.1 (M5.2.1 0 0) 1, M5) else none else none else none
set_option maxHeartbeats 4000000 in
set_option maxRecDepth 100000 in
theorem t_X6_save {l : Launch} {G : xG} {ta : Nat × Nat} {M : xM} {out : Int32 × xM} (hf : f_X6_save M = some out) : xMet G l yX6_save wsX6_save (rm_X6_save 0 0) 0 0 ta M [.ref (xad G 0)] (some (.int out.1)) out.2 := by
  refine x_met (cc := cX6_save) (nL := 1) (ret := some .int) (by decide) rfl (Nat.le_of_ble_eq_true rfl) ?_
  intro p e s m args below meth c C hr hlk
  have C : xC G p s m args c cX6_save 1 wsX6_save RX6 := C
  have i5 : ∀ w ∈ wsX30, w ∈ wsX6_save := by decide +kernel
  have i8 : ∀ w ∈ wsX60, w ∈ wsX6_save := by decide +kernel
  unfold f_X6_save at hf
  show xW G p l e (rm_X6_save 0 0) s m args below meth c 1 (MQ below (xQr G (some (.int out.1)) out.2) args s 0 0 (xAs G)) 0 0 ta M 0 [(0, .ref (xad G 0))] []
  refine x_aload_n C 0 dX6_save_0 rfl ?_
  obtain ⟨g1, hf⟩ := x_gd hf
  refine x_get8 C xkd_0 i8 2 (by decide) (by decide +kernel) rfl rfl dX6_save_1 ?_
  refine x_aload_n C 0 dX6_save_4 rfl ?_
  obtain ⟨g2, hf⟩ := x_gd hf
  refine x_get8 C xkd_0 i8 0 (by decide) (by decide +kernel) rfl rfl dX6_save_5 ?_
  obtain ⟨q3, hg, hf⟩ := x_bd hf
  refine x_callVv C (by rw [g1]; decide) (by rw [g1]; decide) (xc5 g1) rfl (t_X3_copyFrom g1 g2 hg) (cwV 1 C.1.2.2.2.2 gX6_save_X3_copyFrom rfl rfl rfl (by decide +kernel) ⟨Nat.le_of_ble_eq_true rfl, Nat.le_of_ble_eq_true rfl⟩) rfl rfl (Nat.le_of_ble_eq_true rfl) dX6_save_8 ⟨Nat.zero_le _, Nat.zero_le _⟩ (fun ta4 => ?_)
  clear hg
  refine x_aload_n C 0 dX6_save_11 rfl ?_
  refine x_iconst (v := 1) C dX6_save_12 (by decide) ?_
  refine x_putz8 C xkd_0 i8 3 (by decide) (by decide) (by decide +kernel) dX6_save_13 ?_
  obtain ⟨M5, e6, hf⟩ := x_lt hf
  rw [← e6]
  clear e6
  refine x_aload_n C 0 dX6_save_16 rfl ?_
  obtain ⟨g7, hf⟩ := x_gd hf
  refine x_get8 C xkd_0 i8 0 (by decide) (by decide +kernel) rfl rfl dX6_save_17 ?_
  refine x_get5 C g7 i5 1 (by decide) (by decide +kernel) rfl rfl dX6_save_20 ?_
  obtain rfl := Option.some.inj hf
  exact x_iret C hr hlk dX6_save_23
/-! WaitingRoomSimulation.restore()I -/
abbrev rm_X6_restore (c s : Nat) : Room := { frames := 8, cells := c, slots := s, locals := 200 }
def f_X6_restore (M : xM) : Option ((Int32 ⊕ String) × xM) := (if (M.1 0 3) = 0 then some (.inr "java/lang/IllegalStateException", M) else if xkd (M.2.1 0 0) = 5 then if xkd (M.2.1 0 2) = 5 then (f_X3_copyFrom (M.2.1 0 0) (M.2.1 0 2) M).bind fun q4 => x_let (sI q4 0 5 (0 : Int32)) fun M6 => if xkd (M6.2.1 0 0) = 5 then some (.inl (M6.1 (M6.2.1 0 0) 1), M6) else none else none else none)
set_option maxHeartbeats 4000000 in
set_option maxRecDepth 100000 in
theorem t_X6_restore {l : Launch} {G : xG} {ta : Nat × Nat} {M : xM} {out : (Int32 ⊕ String) × xM} (hfl : l.stackTraces = false) (hf : f_X6_restore M = some out) : xMetX G l yX6_restore wsX6_restore (rm_X6_restore (xoc out.1) (xos out.1)) (xoc out.1) (xos out.1) ta M [.ref (xad G 0)] (xo xoI out.1) out.2 := by
  refine x_metX (cc := cX6_restore) (nL := 1) (ret := some .int) (by decide) rfl (Nat.le_of_ble_eq_true rfl) ?_
  intro p e s m args below meth c C hr hlk htb
  have C : xC G p s m args c cX6_restore 1 wsX6_restore RX6 := C
  have i5 : ∀ w ∈ wsX30, w ∈ wsX6_restore := by decide +kernel
  have i8 : ∀ w ∈ wsX60, w ∈ wsX6_restore := by decide +kernel
  unfold f_X6_restore at hf
  show xW G p l e (rm_X6_restore (xoc out.1) (xos out.1)) s m args below meth c 1 (vx_MQ below (xQx G (xo xoI out.1) out.2) (xXc G (xo xoI out.1) out.2) args s (xoc out.1) (xos out.1) (xAs G)) 0 0 ta M 0 [(0, .ref (xad G 0))] []
  refine x_aload_n C 0 dX6_restore_0 rfl ?_
  refine x_get8 C xkd_0 i8 3 (by decide) (by decide +kernel) rfl rfl dX6_restore_1 ?_
  refine x_if_ne C 18 dX6_restore_4 (by decide) (fun hc1 => ?_) (fun hc1 => ?_)
  · have hf := x_ine hc1 hf
    refine x_aload_n C 0 dX6_restore_18 rfl ?_
    obtain ⟨g2, hf⟩ := x_gd hf
    refine x_get8 C xkd_0 i8 0 (by decide) (by decide +kernel) rfl rfl dX6_restore_19 ?_
    refine x_aload_n C 0 dX6_restore_22 rfl ?_
    obtain ⟨g3, hf⟩ := x_gd hf
    refine x_get8 C xkd_0 i8 2 (by decide) (by decide +kernel) rfl rfl dX6_restore_23 ?_
    obtain ⟨q4, hg, hf⟩ := x_bd hf
    refine x_callVv C (by rw [g2]; decide) (by rw [g2]; decide) (xc5 g2) rfl (t_X3_copyFrom g2 g3 hg) (cwV 1 C.1.2.2.2.2 gX6_restore_X3_copyFrom rfl rfl rfl (by decide +kernel) ⟨Nat.le_of_ble_eq_true rfl, Nat.le_of_ble_eq_true rfl⟩) rfl rfl (Nat.le_of_ble_eq_true rfl) dX6_restore_26 ⟨Nat.zero_le _, Nat.zero_le _⟩ (fun ta5 => ?_)
    clear hg
    refine x_aload_n C 0 dX6_restore_29 rfl ?_
    refine x_iconst (v := 0) C dX6_restore_30 (by decide) ?_
    refine x_put8 C xkd_0 i8 5 (by decide) (by decide +kernel) dX6_restore_31 ?_
    obtain ⟨M6, e7, hf⟩ := x_lt hf
    rw [← e7]
    clear e7
    refine x_aload_n C 0 dX6_restore_34 rfl ?_
    obtain ⟨g8, hf⟩ := x_gd hf
    refine x_get8 C xkd_0 i8 0 (by decide) (by decide +kernel) rfl rfl dX6_restore_35 ?_
    refine x_get5 C g8 i5 1 (by decide) (by decide +kernel) rfl rfl dX6_restore_38 ?_
    obtain rfl := Option.some.inj hf
    refine x_ret ?_
    exact x_iret C hr hlk dX6_restore_41
  · have hf := x_ip hc1 hf
    obtain rfl := Option.some.inj hf
    exact x_throwSW C hfl hlk htb (cls := "java/lang/IllegalStateException") (names := ["java/lang/RuntimeException", "java/lang/Exception"]) (ik := 111) (is := 392) (ic := 115) (text := "there is no snapshot") (by decide +kernel) (by decide +kernel) (by decide +kernel) (by decide +kernel) (by decide +kernel) (by decide +kernel) (by decide +kernel) dX6_restore_7 dX6_restore_10 dX6_restore_11 dX6_restore_14 dX6_restore_17 (Nat.le_of_ble_eq_true rfl) (Nat.le_of_ble_eq_true rfl) (Nat.le_of_ble_eq_true rfl) (Nat.le_of_ble_eq_true rfl) (Nat.le_of_ble_eq_true rfl) (Nat.le_of_ble_eq_true rfl)
