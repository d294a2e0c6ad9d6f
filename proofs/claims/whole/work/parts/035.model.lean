/-! WaitingRoomSimulationModel.in(JJJ)Z -/
abbrev rm_X7_in (c s : Nat) : Room := { frames := 0, cells := c, slots := s, locals := 0 }
def f_X7_in (a1 : Int64) (a2 : Int64) (a3 : Int64) (M : xM) : Option (Int32) := (if (lg_cmp a1 a2) < 0 then some (0 : Int32) else (if 0 < (lg_cmp a1 a3) then some (0 : Int32) else some (1 : Int32)))
set_option maxHeartbeats 4000000 in
set_option maxRecDepth 100000 in
theorem t_X7_in {l : Launch} {G : xG} {ta : Nat × Nat} {M : xM} {a1 : Int64} {a2 : Int64} {a3 : Int64} {out : Int32} (hf : f_X7_in a1 a2 a3 M = some out) : xMet G l yX7_in wsX7_in (rm_X7_in 0 0) 0 0 ta M [.long a1, .long a2, .long a3] (some (.int out)) M := by
  refine x_met (cc := cX7_in) (nL := 6) (ret := some .boolean) (by decide) rfl (Nat.le_of_ble_eq_true rfl) ?_
  intro p e s m args below meth c C hr hlk
  have C : xC G p s m args c cX7_in 6 wsX7_in RX7 := C
  unfold f_X7_in at hf
  show xW G p l e (rm_X7_in 0 0) s m args below meth c 6 (MQ below (xQr G (some (.int out)) M) args s 0 0 (xAs G)) 0 0 ta M 0 [(0, .long a1), (2, .long a2), (4, .long a3)] []
  refine x_lload_n C 0 dX7_in_0 rfl ?_
  refine x_lload_n C 1 dX7_in_1 rfl ?_
  refine x_lcmp C dX7_in_2 ?_
  refine x_if_lt C 17 dX7_in_3 (by decide) (fun hc1 => ?_) (fun hc1 => ?_)
  · have hf := x_ip hc1 hf
    refine x_iconst (v := 0) C dX7_in_17 (by decide) ?_
    obtain rfl := Option.some.inj hf
    exact x_zret C hr hlk (x_nb (Or.inl rfl)) dX7_in_18
  · have hf := x_ine hc1 hf
    refine x_lload_n C 0 dX7_in_6 rfl ?_
    refine x_lload C 2 dX7_in_7 rfl ?_
    refine x_lcmp C dX7_in_9 ?_
    refine x_if_gt C 17 dX7_in_10 (by decide) (fun hc2 => ?_) (fun hc2 => ?_)
    · have hf := x_ip hc2 hf
      refine x_iconst (v := 0) C dX7_in_17 (by decide) ?_
      obtain rfl := Option.some.inj hf
      exact x_zret C hr hlk (x_nb (Or.inl rfl)) dX7_in_18
    · have hf := x_ine hc2 hf
      refine x_iconst (v := 1) C dX7_in_13 (by decide) ?_
      refine x_goto C 18 dX7_in_14 (by decide) ?_
      obtain rfl := Option.some.inj hf
      exact x_zret C hr hlk (x_nb (Or.inr rfl)) dX7_in_18
/-! WaitingRoomSimulationModel.thrown()I -/
abbrev rm_X7_thrown (c s : Nat) : Room := { frames := 0, cells := c, slots := s, locals := 0 }
def f_X7_thrown (M : xM) : Option (Int32) := some (M.1 9 9)
set_option maxHeartbeats 4000000 in
set_option maxRecDepth 100000 in
theorem t_X7_thrown {l : Launch} {G : xG} {ta : Nat × Nat} {M : xM} {out : Int32} (hf : f_X7_thrown M = some out) : xMet G l yX7_thrown wsX7_thrown (rm_X7_thrown 0 0) 0 0 ta M [.ref (xad G 9)] (some (.int out)) M := by
  refine x_met (cc := cX7_thrown) (nL := 1) (ret := some .int) (by decide) rfl (Nat.le_of_ble_eq_true rfl) ?_
  intro p e s m args below meth c C hr hlk
  have C : xC G p s m args c cX7_thrown 1 wsX7_thrown RX7 := C
  have i9 : ∀ w ∈ wsX70, w ∈ wsX7_thrown := by decide +kernel
  unfold f_X7_thrown at hf
  show xW G p l e (rm_X7_thrown 0 0) s m args below meth c 1 (MQ below (xQr G (some (.int out)) M) args s 0 0 (xAs G)) 0 0 ta M 0 [(0, .ref (xad G 9))] []
  refine x_aload_n C 0 dX7_thrown_0 rfl ?_
  refine x_get9 C xkd_9 i9 9 (by decide) (by decide +kernel) rfl rfl dX7_thrown_1 ?_
  obtain rfl := Option.some.inj hf
  exact x_iret C hr hlk dX7_thrown_4
/-! WaitingRoomSimulationModel.throwing(I)I -/
abbrev rm_X7_throwing (c s : Nat) : Room := { frames := 0, cells := c, slots := s, locals := 0 }
def f_X7_throwing (a1 : Int32) (M : xM) : Option (Int32 × xM) := x_let (sI M 9 9 a1) fun M1 => some ((-1 : Int32), M1)
set_option maxHeartbeats 4000000 in
set_option maxRecDepth 100000 in
theorem t_X7_throwing {l : Launch} {G : xG} {ta : Nat × Nat} {M : xM} {a1 : Int32} {out : Int32 × xM} (hf : f_X7_throwing a1 M = some out) : xMet G l yX7_throwing wsX7_throwing (rm_X7_throwing 0 0) 0 0 ta M [.ref (xad G 9), .int a1] (some (.int out.1)) out.2 := by
  refine x_met (cc := cX7_throwing) (nL := 2) (ret := some .int) (by decide) rfl (Nat.le_of_ble_eq_true rfl) ?_
  intro p e s m args below meth c C hr hlk
  have C : xC G p s m args c cX7_throwing 2 wsX7_throwing RX7 := C
  have i9 : ∀ w ∈ wsX70, w ∈ wsX7_throwing := by decide +kernel
  unfold f_X7_throwing at hf
  show xW G p l e (rm_X7_throwing 0 0) s m args below meth c 2 (MQ below (xQr G (some (.int out.1)) out.2) args s 0 0 (xAs G)) 0 0 ta M 0 [(0, .ref (xad G 9)), (1, .int a1)] []
  refine x_aload_n C 0 dX7_throwing_0 rfl ?_
  refine x_iload_n C 1 dX7_throwing_1 rfl ?_
  refine x_put9 C xkd_9 i9 9 (by decide) (by decide +kernel) dX7_throwing_2 ?_
  obtain ⟨M1, e2, hf⟩ := x_lt hf
  rw [← e2]
  clear e2
  refine x_iconst (v := (-1)) C dX7_throwing_5 (by decide) ?_
  obtain rfl := Option.some.inj hf
  exact x_iret C hr hlk dX7_throwing_6
/-! WaitingRoomSimulationModel.starts()V -/
abbrev rm_X7_starts (c s : Nat) : Room := { frames := 0, cells := c, slots := s, locals := 0 }
def f_X7_starts_L7 : Nat → Int32 → xM → Option (xM)
  | 0, _, _ => none
  | n+1, v1, M => (if (159 : Int32) ≤ v1 then some M else if x_in v1 159 = true then if x_in v1 159 = true then x_let (sI M 11 v1.toNatClampNeg (M.1 10 v1.toNatClampNeg)) fun M6 => f_X7_starts_L7 n (v1 + 1) M6 else none else none)
def f_X7_starts (M : xM) : Option (xM) := x_let (sI M 9 9 (0 : Int32)) fun M1 => f_X7_starts_L7 xF (0 : Int32) M1
set_option maxHeartbeats 4000000 in
set_option maxRecDepth 100000 in
theorem t_X7_starts_L7 {G : xG} {p : Program} {l : Launch} {e : Env} {s : State} {m : MethodId} {args : Array Value} {below : List Frame} {meth : Method} {c : Code} (C : xC G p s m args c cX7_starts 2 wsX7_starts RX7) (hr : meth.sig.returnType = none) (hlk : meth.locks = false) : ∀ (n : Nat) (v1 : Int32) (M : xM) (ta : Nat × Nat) (out : xM), f_X7_starts_L7 n v1 M = some out → xW G p l e (rm_X7_starts 0 0) s m args below meth c 2 (MQ below (xQr G none out) args s 0 0 (xAs G)) 0 0 ta M 7 [(0, .ref (xad G 9)), (1, .int v1)] [] := by
  intro n
  induction n with
  | zero =>
    intro v1 M ta out hf
    rw [f_X7_starts_L7] at hf
    cases hf
  | succ n ih =>
    intro v1 M ta out hf
    rw [f_X7_starts_L7] at hf
    have i9 : ∀ w ∈ wsX70, w ∈ wsX7_starts := by decide +kernel
    refine x_iload_n C 1 dX7_starts_7 rfl ?_
    refine x_sipush (v := 159) C dX7_starts_8 (by decide) ?_
    refine x_icmp_ge C 32 dX7_starts_11 (by decide) (fun hc3 => ?_) (fun hc3 => ?_)
    · have hf := x_ip hc3 hf
      obtain rfl := Option.some.inj hf
      exact x_vret C hr hlk dX7_starts_32
    · have hf := x_ine hc3 hf
      refine x_aload_n C 0 dX7_starts_14 rfl ?_
      refine x_get9 C xkd_9 i9 1 (by decide) (by decide +kernel) rfl rfl dX7_starts_15 ?_
      refine x_iload_n C 1 dX7_starts_18 rfl ?_
      refine x_aload_n C 0 dX7_starts_19 rfl ?_
      refine x_get9 C xkd_9 i9 0 (by decide) (by decide +kernel) rfl rfl dX7_starts_20 ?_
      refine x_iload_n C 1 dX7_starts_23 rfl ?_
      obtain ⟨g4, hf⟩ := x_gd hf
      refine x_iald C xkd_10 xl_10 g4 dX7_starts_24 ?_
      obtain ⟨g5, hf⟩ := x_gd hf
      refine x_iast C xkd_11 xl_11 g5 dX7_starts_25 ?_
      obtain ⟨M6, e7, hf⟩ := x_lt hf
      rw [← e7]
      clear e7
      refine x_iinc (v := v1 + 1) (lv' := [(1, .int (v1 + 1)), (0, .ref (xad G 9))]) C 1 dX7_starts_26 rfl rfl (by decide) rfl ?_
      refine x_goto C 7 dX7_starts_29 (by decide) ?_
      refine x_sub [1, 0] rfl ?_
      exact ih (v1 + 1) M6 _ _ hf
set_option maxHeartbeats 4000000 in
set_option maxRecDepth 100000 in
theorem t_X7_starts {l : Launch} {G : xG} {ta : Nat × Nat} {M : xM} {out : xM} (hf : f_X7_starts M = some out) : xMet G l yX7_starts wsX7_starts (rm_X7_starts 0 0) 0 0 ta M [.ref (xad G 9)] none out := by
  refine x_met (cc := cX7_starts) (nL := 2) (ret := none) (by decide) rfl (Nat.le_of_ble_eq_true rfl) ?_
  intro p e s m args below meth c C hr hlk
  have C : xC G p s m args c cX7_starts 2 wsX7_starts RX7 := C
  have i9 : ∀ w ∈ wsX70, w ∈ wsX7_starts := by decide +kernel
  unfold f_X7_starts at hf
  show xW G p l e (rm_X7_starts 0 0) s m args below meth c 2 (MQ below (xQr G none out) args s 0 0 (xAs G)) 0 0 ta M 0 [(0, .ref (xad G 9))] []
  refine x_aload_n C 0 dX7_starts_0 rfl ?_
  refine x_iconst (v := 0) C dX7_starts_1 (by decide) ?_
  refine x_put9 C xkd_9 i9 9 (by decide) (by decide +kernel) dX7_starts_2 ?_
  obtain ⟨M1, e2, hf⟩ := x_lt hf
  rw [← e2]
  clear e2
  refine x_iconst (v := 0) C dX7_starts_5 (by decide) ?_
  refine x_istore_n (lv' := [(1, .int (0 : Int32)), (0, .ref (xad G 9))]) C dX7_starts_6 rfl (by decide) rfl ?_
  refine x_sub [1, 0] rfl ?_
  exact t_X7_starts_L7 C hr hlk xF (0 : Int32) M1 _ _ hf
/-! WaitingRoomSimulationModel.changed(I)I -/
abbrev rm_X7_changed (c s : Nat) : Room := { frames := 0, cells := c, slots := s, locals := 0 }
def f_X7_changed_L61 (v1 : Int32) : Nat → Int32 → xM → Option (Int32 × xM)
  | 0, _, _ => none
  | n+1, v2, M => (if (159 : Int32) ≤ v2 then x_let (sI M 9 6 ((M.1 9 6) + (1 : Int32))) fun M4 => some (v1, M4) else if x_in v2 159 = true then if x_in (((159 : Int32) * (M.1 9 6)) + v2) 1272 = true then x_let (sI M 14 (((159 : Int32) * (M.1 9 6)) + v2).toNatClampNeg (M.1 11 v2.toNatClampNeg)) fun M8 => f_X7_changed_L61 v1 n (v2 + 1) M8 else none else none)
def f_X7_changed_L20 (v1 : Int32) : Nat → Int32 → xM → Option (Int32 × xM)
  | 0, _, _ => none
  | n+1, v2, M => (if (1113 : Int32) ≤ v2 then x_let (sI M 9 6 ((M.1 9 6) - (1 : Int32))) fun M11 => f_X7_changed_L61 v1 xF (0 : Int32) M11 else if x_in (v2 + (159 : Int32)) 1272 = true then if x_in v2 1272 = true then x_let (sI M 14 v2.toNatClampNeg (M.1 14 (v2 + (159 : Int32)).toNatClampNeg)) fun M15 => f_X7_changed_L20 v1 n (v2 + 1) M15 else none else none)
def f_X7_changed (a1 : Int32) (M : xM) : Option (Int32 × xM) := (if (M.1 9 9) ≤ 0 then (if (M.1 9 6) = (8 : Int32) then f_X7_changed_L20 a1 xF (0 : Int32) M else f_X7_changed_L61 a1 xF (0 : Int32) M) else some (a1, M))
set_option maxHeartbeats 4000000 in
set_option maxRecDepth 100000 in
theorem t_X7_changed_L61 {G : xG} {p : Program} {l : Launch} {e : Env} {s : State} {m : MethodId} {args : Array Value} {below : List Frame} {meth : Method} {c : Code} (C : xC G p s m args c cX7_changed 3 wsX7_changed RX7) (hr : meth.sig.returnType = some .int) (hlk : meth.locks = false) {v1 : Int32} : ∀ (n : Nat) (v2 : Int32) (M : xM) (ta : Nat × Nat) (out : Int32 × xM), f_X7_changed_L61 v1 n v2 M = some out → xW G p l e (rm_X7_changed 0 0) s m args below meth c 3 (MQ below (xQr G (some (.int out.1)) out.2) args s 0 0 (xAs G)) 0 0 ta M 61 [(0, .ref (xad G 9)), (1, .int v1), (2, .int v2)] [] := by
  intro n
  induction n with
  | zero =>
    intro v2 M ta out hf
    rw [f_X7_changed_L61] at hf
    cases hf
  | succ n ih =>
    intro v2 M ta out hf
    rw [f_X7_changed_L61] at hf
    have i9 : ∀ w ∈ wsX70, w ∈ wsX7_changed := by decide +kernel
    refine x_iload_n C 2 dX7_changed_61 rfl ?_
    refine x_sipush (v := 159) C dX7_changed_62 (by decide) ?_
    refine x_icmp_ge C 95 dX7_changed_65 (by decide) (fun hc3 => ?_) (fun hc3 => ?_)
    · have hf := x_ip hc3 hf
      refine x_aload_n C 0 dX7_changed_95 rfl ?_
      refine x_dup C dX7_changed_96 rfl ?_
      refine x_get9 C xkd_9 i9 6 (by decide) (by decide +kernel) rfl rfl dX7_changed_97 ?_
      refine x_iconst (v := 1) C dX7_changed_100 (by decide) ?_
      refine x_iadd C dX7_changed_101 ?_
      refine x_put9 C xkd_9 i9 6 (by decide) (by decide +kernel) dX7_changed_102 ?_
      obtain ⟨M4, e5, hf⟩ := x_lt hf
      rw [← e5]
      clear e5
      refine x_iload_n C 1 dX7_changed_105 rfl ?_
      obtain rfl := Option.some.inj hf
      exact x_iret C hr hlk dX7_changed_106
    · have hf := x_ine hc3 hf
      refine x_aload_n C 0 dX7_changed_68 rfl ?_
      refine x_get9 C xkd_9 i9 5 (by decide) (by decide +kernel) rfl rfl dX7_changed_69 ?_
      refine x_sipush (v := 159) C dX7_changed_72 (by decide) ?_
      refine x_aload_n C 0 dX7_changed_75 rfl ?_
      refine x_get9 C xkd_9 i9 6 (by decide) (by decide +kernel) rfl rfl dX7_changed_76 ?_
      refine x_imul C dX7_changed_79 ?_
      refine x_iload_n C 2 dX7_changed_80 rfl ?_
      refine x_iadd C dX7_changed_81 ?_
      refine x_aload_n C 0 dX7_changed_82 rfl ?_
      refine x_get9 C xkd_9 i9 1 (by decide) (by decide +kernel) rfl rfl dX7_changed_83 ?_
      refine x_iload_n C 2 dX7_changed_86 rfl ?_
      obtain ⟨g6, hf⟩ := x_gd hf
      refine x_iald C xkd_11 xl_11 g6 dX7_changed_87 ?_
      obtain ⟨g7, hf⟩ := x_gd hf
      refine x_iast C xkd_14 xl_14 g7 dX7_changed_88 ?_
      obtain ⟨M8, e9, hf⟩ := x_lt hf
      rw [← e9]
      clear e9
      refine x_iinc (v := v2 + 1) (lv' := [(2, .int (v2 + 1)), (0, .ref (xad G 9)), (1, .int v1)]) C 2 dX7_changed_89 rfl rfl (by decide) rfl ?_
      refine x_goto C 61 dX7_changed_92 (by decide) ?_
      refine x_sub [1, 2, 0] rfl ?_
      exact ih (v2 + 1) M8 _ _ hf
set_option maxHeartbeats 4000000 in
set_option maxRecDepth 100000 in
theorem t_X7_changed_L20 {G : xG} {p : Program} {l : Launch} {e : Env} {s : State} {m : MethodId} {args : Array Value} {below : List Frame} {meth : Method} {c : Code} (C : xC G p s m args c cX7_changed 3 wsX7_changed RX7) (hr : meth.sig.returnType = some .int) (hlk : meth.locks = false) {v1 : Int32} : ∀ (n : Nat) (v2 : Int32) (M : xM) (ta : Nat × Nat) (out : Int32 × xM), f_X7_changed_L20 v1 n v2 M = some out → xW G p l e (rm_X7_changed 0 0) s m args below meth c 3 (MQ below (xQr G (some (.int out.1)) out.2) args s 0 0 (xAs G)) 0 0 ta M 20 [(0, .ref (xad G 9)), (1, .int v1), (2, .int v2)] [] := by
  intro n
  induction n with
  | zero =>
    intro v2 M ta out hf
    rw [f_X7_changed_L20] at hf
    cases hf
  | succ n ih =>
    intro v2 M ta out hf
    rw [f_X7_changed_L20] at hf
    have i9 : ∀ w ∈ wsX70, w ∈ wsX7_changed := by decide +kernel
    refine x_iload_n C 2 dX7_changed_20 rfl ?_
    refine x_sipush (v := 1113) C dX7_changed_21 (by decide) ?_
    refine x_icmp_ge C 49 dX7_changed_24 (by decide) (fun hc10 => ?_) (fun hc10 => ?_)
    · have hf := x_ip hc10 hf
      refine x_aload_n C 0 dX7_changed_49 rfl ?_
      refine x_dup C dX7_changed_50 rfl ?_
      refine x_get9 C xkd_9 i9 6 (by decide) (by decide +kernel) rfl rfl dX7_changed_51 ?_
      refine x_iconst (v := 1) C dX7_changed_54 (by decide) ?_
      refine x_isub C dX7_changed_55 ?_
      refine x_put9 C xkd_9 i9 6 (by decide) (by decide +kernel) dX7_changed_56 ?_
      obtain ⟨M11, e12, hf⟩ := x_lt hf
      rw [← e12]
      clear e12
      refine x_iconst (v := 0) C dX7_changed_59 (by decide) ?_
      refine x_istore_n (lv' := [(2, .int (0 : Int32)), (0, .ref (xad G 9)), (1, .int v1)]) C dX7_changed_60 rfl (by decide) rfl ?_
      refine x_sub [1, 2, 0] rfl ?_
      exact t_X7_changed_L61 C hr hlk xF (0 : Int32) M11 _ _ hf
    · have hf := x_ine hc10 hf
      refine x_aload_n C 0 dX7_changed_27 rfl ?_
      refine x_get9 C xkd_9 i9 5 (by decide) (by decide +kernel) rfl rfl dX7_changed_28 ?_
      refine x_iload_n C 2 dX7_changed_31 rfl ?_
      refine x_aload_n C 0 dX7_changed_32 rfl ?_
      refine x_get9 C xkd_9 i9 5 (by decide) (by decide +kernel) rfl rfl dX7_changed_33 ?_
      refine x_iload_n C 2 dX7_changed_36 rfl ?_
      refine x_sipush (v := 159) C dX7_changed_37 (by decide) ?_
      refine x_iadd C dX7_changed_40 ?_
      obtain ⟨g13, hf⟩ := x_gd hf
      refine x_iald C xkd_14 xl_14 g13 dX7_changed_41 ?_
      obtain ⟨g14, hf⟩ := x_gd hf
      refine x_iast C xkd_14 xl_14 g14 dX7_changed_42 ?_
      obtain ⟨M15, e16, hf⟩ := x_lt hf
      rw [← e16]
      clear e16
      refine x_iinc (v := v2 + 1) (lv' := [(2, .int (v2 + 1)), (0, .ref (xad G 9)), (1, .int v1)]) C 2 dX7_changed_43 rfl rfl (by decide) rfl ?_
      refine x_goto C 20 dX7_changed_46 (by decide) ?_
      refine x_sub [1, 2, 0] rfl ?_
      exact ih (v2 + 1) M15 _ _ hf
set_option maxHeartbeats 4000000 in
set_option maxRecDepth 100000 in
theorem t_X7_changed {l : Launch} {G : xG} {ta : Nat × Nat} {M : xM} {a1 : Int32} {out : Int32 × xM} (hf : f_X7_changed a1 M = some out) : xMet G l yX7_changed wsX7_changed (rm_X7_changed 0 0) 0 0 ta M [.ref (xad G 9), .int a1] (some (.int out.1)) out.2 := by
  refine x_met (cc := cX7_changed) (nL := 3) (ret := some .int) (by decide) rfl (Nat.le_of_ble_eq_true rfl) ?_
  intro p e s m args below meth c C hr hlk
  have C : xC G p s m args c cX7_changed 3 wsX7_changed RX7 := C
  have i9 : ∀ w ∈ wsX70, w ∈ wsX7_changed := by decide +kernel
  unfold f_X7_changed at hf
  show xW G p l e (rm_X7_changed 0 0) s m args below meth c 3 (MQ below (xQr G (some (.int out.1)) out.2) args s 0 0 (xAs G)) 0 0 ta M 0 [(0, .ref (xad G 9)), (1, .int a1)] []
  refine x_aload_n C 0 dX7_changed_0 rfl ?_
  refine x_get9 C xkd_9 i9 9 (by decide) (by decide +kernel) rfl rfl dX7_changed_1 ?_
  refine x_if_le C 9 dX7_changed_4 (by decide) (fun hc1 => ?_) (fun hc1 => ?_)
  · have hf := x_ip hc1 hf
    refine x_aload_n C 0 dX7_changed_9 rfl ?_
    refine x_get9 C xkd_9 i9 6 (by decide) (by decide +kernel) rfl rfl dX7_changed_10 ?_
    refine x_bipush (v := 8) C dX7_changed_13 (by decide) ?_
    refine x_icmp_ne C 59 dX7_changed_15 (by decide) (fun hc2 => ?_) (fun hc2 => ?_)
    · have hf := x_ine hc2 hf
      refine x_iconst (v := 0) C dX7_changed_59 (by decide) ?_
      refine x_istore_n (lv' := [(2, .int (0 : Int32)), (0, .ref (xad G 9)), (1, .int a1)]) C dX7_changed_60 rfl (by decide) rfl ?_
      refine x_sub [1, 2, 0] rfl ?_
      exact t_X7_changed_L61 C hr hlk xF (0 : Int32) M _ _ hf
    · have hf := x_ip hc2 hf
      refine x_iconst (v := 0) C dX7_changed_18 (by decide) ?_
      refine x_istore_n (lv' := [(2, .int (0 : Int32)), (0, .ref (xad G 9)), (1, .int a1)]) C dX7_changed_19 rfl (by decide) rfl ?_
      refine x_sub [1, 2, 0] rfl ?_
      exact t_X7_changed_L20 C hr hlk xF (0 : Int32) M _ _ hf
  · have hf := x_ine hc1 hf
    refine x_iload_n C 1 dX7_changed_7 rfl ?_
    obtain rfl := Option.some.inj hf
    exact x_iret C hr hlk dX7_changed_8
/-! WaitingRoomSimulationModel.windowAt(I)I -/
abbrev rm_X7_windowAt (c s : Nat) : Room := { frames := 0, cells := c, slots := s, locals := 0 }
def f_X7_windowAt (a1 : Int32) (M : xM) : Option (Int32) := some ((12 : Int32) + ((5 : Int32) * a1))
set_option maxHeartbeats 4000000 in
set_option maxRecDepth 100000 in
theorem t_X7_windowAt {l : Launch} {G : xG} {ta : Nat × Nat} {M : xM} {a1 : Int32} {out : Int32} (hf : f_X7_windowAt a1 M = some out) : xMet G l yX7_windowAt wsX7_windowAt (rm_X7_windowAt 0 0) 0 0 ta M [.int a1] (some (.int out)) M := by
  refine x_met (cc := cX7_windowAt) (nL := 1) (ret := some .int) (by decide) rfl (Nat.le_of_ble_eq_true rfl) ?_
  intro p e s m args below meth c C hr hlk
  have C : xC G p s m args c cX7_windowAt 1 wsX7_windowAt RX7 := C
  unfold f_X7_windowAt at hf
  show xW G p l e (rm_X7_windowAt 0 0) s m args below meth c 1 (MQ below (xQr G (some (.int out)) M) args s 0 0 (xAs G)) 0 0 ta M 0 [(0, .int a1)] []
  refine x_bipush (v := 12) C dX7_windowAt_0 (by decide) ?_
  refine x_iconst (v := 5) C dX7_windowAt_2 (by decide) ?_
  refine x_iload_n C 0 dX7_windowAt_3 rfl ?_
  refine x_imul C dX7_windowAt_4 ?_
  refine x_iadd C dX7_windowAt_5 ?_
  obtain rfl := Option.some.inj hf
  exact x_iret C hr hlk dX7_windowAt_6
/-! WaitingRoomSimulationModel.personAt(I)I -/
abbrev rm_X7_personAt (c s : Nat) : Room := { frames := 0, cells := c, slots := s, locals := 0 }
def f_X7_personAt (a1 : Int32) (M : xM) : Option (Int32) := some ((27 : Int32) + ((8 : Int32) * a1))
set_option maxHeartbeats 4000000 in
set_option maxRecDepth 100000 in
theorem t_X7_personAt {l : Launch} {G : xG} {ta : Nat × Nat} {M : xM} {a1 : Int32} {out : Int32} (hf : f_X7_personAt a1 M = some out) : xMet G l yX7_personAt wsX7_personAt (rm_X7_personAt 0 0) 0 0 ta M [.int a1] (some (.int out)) M := by
  refine x_met (cc := cX7_personAt) (nL := 1) (ret := some .int) (by decide) rfl (Nat.le_of_ble_eq_true rfl) ?_
  intro p e s m args below meth c C hr hlk
  have C : xC G p s m args c cX7_personAt 1 wsX7_personAt RX7 := C
  unfold f_X7_personAt at hf
  show xW G p l e (rm_X7_personAt 0 0) s m args below meth c 1 (MQ below (xQr G (some (.int out)) M) args s 0 0 (xAs G)) 0 0 ta M 0 [(0, .int a1)] []
  refine x_bipush (v := 27) C dX7_personAt_0 (by decide) ?_
  refine x_bipush (v := 8) C dX7_personAt_2 (by decide) ?_
  refine x_iload_n C 0 dX7_personAt_4 rfl ?_
  refine x_imul C dX7_personAt_5 ?_
  refine x_iadd C dX7_personAt_6 ?_
  obtain rfl := Option.some.inj hf
  exact x_iret C hr hlk dX7_personAt_7
/-! WaitingRoomSimulationModel.isWindow(I)Z -/
abbrev rm_X7_isWindow (c s : Nat) : Room := { frames := 1, cells := c, slots := s, locals := 25 }
def f_X7_isWindow (a1 : Int32) (M : xM) : Option (Int32) := (f_X7_in a1.toInt64 (0 : Int64) (2 : Int64) M).bind fun q1 => if q1 = 0 ∨ q1 = 1 then some q1 else none
set_option maxHeartbeats 4000000 in
set_option maxRecDepth 100000 in
theorem t_X7_isWindow {l : Launch} {G : xG} {ta : Nat × Nat} {M : xM} {a1 : Int32} {out : Int32} (hf : f_X7_isWindow a1 M = some out) : xMet G l yX7_isWindow wsX7_isWindow (rm_X7_isWindow 0 0) 0 0 ta M [.int a1] (some (.int out)) M := by
  refine x_met (cc := cX7_isWindow) (nL := 1) (ret := some .boolean) (by decide) rfl (Nat.le_of_ble_eq_true rfl) ?_
  intro p e s m args below meth c C hr hlk
  have C : xC G p s m args c cX7_isWindow 1 wsX7_isWindow RX7 := C
  unfold f_X7_isWindow at hf
  show xW G p l e (rm_X7_isWindow 0 0) s m args below meth c 1 (MQ below (xQr G (some (.int out)) M) args s 0 0 (xAs G)) 0 0 ta M 0 [(0, .int a1)] []
  refine x_iload_n C 0 dX7_isWindow_0 rfl ?_
  refine x_i2l (v := a1.toInt64) C dX7_isWindow_1 rfl ?_
  refine x_lconst (v := 0) C dX7_isWindow_2 (by decide) ?_
  refine x_ldc2 (v := 2) C (by decide +kernel) dX7_isWindow_3 ?_
  obtain ⟨q1, hg, hf⟩ := x_bd hf
  refine x_callSr C (t_X7_in hg) (va_cwS 3 C.1.2.2.2.2 gX7_isWindow_X7_in rfl rfl rfl (by decide +kernel) ⟨Nat.le_of_ble_eq_true rfl, Nat.le_of_ble_eq_true rfl⟩) rfl rfl (Nat.le_of_ble_eq_true rfl) dX7_isWindow_6 ⟨Nat.zero_le _, Nat.zero_le _⟩ (fun ta2 => ?_)
  clear hg
  obtain ⟨g3, hf⟩ := x_gd hf
  obtain rfl := Option.some.inj hf
  exact x_zret C hr hlk (x_nb g3) dX7_isWindow_9
/-! WaitingRoomSimulationModel.isHere(I)Z -/
abbrev rm_X7_isHere (c s : Nat) : Room := { frames := 1, cells := c, slots := s, locals := 25 }
def f_X7_isHere (a1 : Int32) (M : xM) : Option (Int32) := if x_in (0 : Int32) 159 = true then (f_X7_in a1.toInt64 (0 : Int64) (((M.1 10 (0 : Int32).toNatClampNeg) - (1 : Int32)).toInt64) M).bind fun q2 => if q2 = 0 ∨ q2 = 1 then some q2 else none else none
set_option maxHeartbeats 4000000 in
set_option maxRecDepth 100000 in
theorem t_X7_isHere {l : Launch} {G : xG} {ta : Nat × Nat} {M : xM} {a1 : Int32} {out : Int32} (hf : f_X7_isHere a1 M = some out) : xMet G l yX7_isHere wsX7_isHere (rm_X7_isHere 0 0) 0 0 ta M [.ref (xad G 9), .int a1] (some (.int out)) M := by
  refine x_met (cc := cX7_isHere) (nL := 2) (ret := some .boolean) (by decide) rfl (Nat.le_of_ble_eq_true rfl) ?_
  intro p e s m args below meth c C hr hlk
  have C : xC G p s m args c cX7_isHere 2 wsX7_isHere RX7 := C
  have i9 : ∀ w ∈ wsX70, w ∈ wsX7_isHere := by decide +kernel
  unfold f_X7_isHere at hf
  show xW G p l e (rm_X7_isHere 0 0) s m args below meth c 2 (MQ below (xQr G (some (.int out)) M) args s 0 0 (xAs G)) 0 0 ta M 0 [(0, .ref (xad G 9)), (1, .int a1)] []
  refine x_iload_n C 1 dX7_isHere_0 rfl ?_
  refine x_i2l (v := a1.toInt64) C dX7_isHere_1 rfl ?_
  refine x_lconst (v := 0) C dX7_isHere_2 (by decide) ?_
  refine x_aload_n C 0 dX7_isHere_3 rfl ?_
  refine x_get9 C xkd_9 i9 0 (by decide) (by decide +kernel) rfl rfl dX7_isHere_4 ?_
  refine x_iconst (v := 0) C dX7_isHere_7 (by decide) ?_
  obtain ⟨g1, hf⟩ := x_gd hf
  refine x_iald C xkd_10 xl_10 g1 dX7_isHere_8 ?_
  refine x_iconst (v := 1) C dX7_isHere_9 (by decide) ?_
  refine x_isub C dX7_isHere_10 ?_
  refine x_i2l (v := ((M.1 10 (0 : Int32).toNatClampNeg) - (1 : Int32)).toInt64) C dX7_isHere_11 rfl ?_
  obtain ⟨q2, hg, hf⟩ := x_bd hf
  refine x_callSr C (t_X7_in hg) (va_cwS 3 C.1.2.2.2.2 gX7_isHere_X7_in rfl rfl rfl (by decide +kernel) ⟨Nat.le_of_ble_eq_true rfl, Nat.le_of_ble_eq_true rfl⟩) rfl rfl (Nat.le_of_ble_eq_true rfl) dX7_isHere_12 ⟨Nat.zero_le _, Nat.zero_le _⟩ (fun ta3 => ?_)
  clear hg
  obtain ⟨g4, hf⟩ := x_gd hf
  obtain rfl := Option.some.inj hf
  exact x_zret C hr hlk (x_nb g4) dX7_isHere_15
/-! WaitingRoomSimulationModel.isOpen(I)Z -/
abbrev rm_X7_isOpen (c s : Nat) : Room := { frames := 1, cells := c, slots := s, locals := 20 }
def f_X7_isOpen (a1 : Int32) (M : xM) : Option (Int32) := (f_X7_windowAt a1 M).bind fun q1 => if x_in q1 159 = true then (if (M.1 10 q1.toNatClampNeg) ≤ 0 then some (0 : Int32) else some (1 : Int32)) else none
set_option maxHeartbeats 4000000 in
set_option maxRecDepth 100000 in
theorem t_X7_isOpen {l : Launch} {G : xG} {ta : Nat × Nat} {M : xM} {a1 : Int32} {out : Int32} (hf : f_X7_isOpen a1 M = some out) : xMet G l yX7_isOpen wsX7_isOpen (rm_X7_isOpen 0 0) 0 0 ta M [.ref (xad G 9), .int a1] (some (.int out)) M := by
  refine x_met (cc := cX7_isOpen) (nL := 2) (ret := some .boolean) (by decide) rfl (Nat.le_of_ble_eq_true rfl) ?_
  intro p e s m args below meth c C hr hlk
  have C : xC G p s m args c cX7_isOpen 2 wsX7_isOpen RX7 := C
  have i9 : ∀ w ∈ wsX70, w ∈ wsX7_isOpen := by decide +kernel
  unfold f_X7_isOpen at hf
  show xW G p l e (rm_X7_isOpen 0 0) s m args below meth c 2 (MQ below (xQr G (some (.int out)) M) args s 0 0 (xAs G)) 0 0 ta M 0 [(0, .ref (xad G 9)), (1, .int a1)] []
  refine x_aload_n C 0 dX7_isOpen_0 rfl ?_
  refine x_get9 C xkd_9 i9 0 (by decide) (by decide +kernel) rfl rfl dX7_isOpen_1 ?_
  refine x_iload_n C 1 dX7_isOpen_4 rfl ?_
  obtain ⟨q1, hg, hf⟩ := x_bd hf
  refine x_callSr C (t_X7_windowAt hg) (va_cwS 1 C.1.2.2.2.2 gX7_isOpen_X7_windowAt rfl rfl rfl (by decide +kernel) ⟨Nat.le_of_ble_eq_true rfl, Nat.le_of_ble_eq_true rfl⟩) rfl rfl (Nat.le_of_ble_eq_true rfl) dX7_isOpen_5 ⟨Nat.zero_le _, Nat.zero_le _⟩ (fun ta2 => ?_)
  clear hg
  obtain ⟨g3, hf⟩ := x_gd hf
  refine x_iald C xkd_10 xl_10 g3 dX7_isOpen_8 ?_
  refine x_if_le C 16 dX7_isOpen_9 (by decide) (fun hc4 => ?_) (fun hc4 => ?_)
  · have hf := x_ip hc4 hf
    refine x_iconst (v := 0) C dX7_isOpen_16 (by decide) ?_
    obtain rfl := Option.some.inj hf
    exact x_zret C hr hlk (x_nb (Or.inl rfl)) dX7_isOpen_17
  · have hf := x_ine hc4 hf
    refine x_iconst (v := 1) C dX7_isOpen_12 (by decide) ?_
    refine x_goto C 17 dX7_isOpen_13 (by decide) ?_
    obtain rfl := Option.some.inj hf
    exact x_zret C hr hlk (x_nb (Or.inr rfl)) dX7_isOpen_17
/-! WaitingRoomSimulationModel.isAtWindow(I)Z -/
abbrev rm_X7_isAtWindow (c s : Nat) : Room := { frames := 1, cells := c, slots := s, locals := 20 }
def f_X7_isAtWindow (a1 : Int32) (M : xM) : Option (Int32) := (f_X7_personAt a1 M).bind fun q1 => if x_in (q1 + (7 : Int32)) 159 = true then (if (M.1 10 (q1 + (7 : Int32)).toNatClampNeg) = (-1 : Int32) then some (0 : Int32) else some (1 : Int32)) else none
set_option maxHeartbeats 4000000 in
set_option maxRecDepth 100000 in
theorem t_X7_isAtWindow {l : Launch} {G : xG} {ta : Nat × Nat} {M : xM} {a1 : Int32} {out : Int32} (hf : f_X7_isAtWindow a1 M = some out) : xMet G l yX7_isAtWindow wsX7_isAtWindow (rm_X7_isAtWindow 0 0) 0 0 ta M [.ref (xad G 9), .int a1] (some (.int out)) M := by
  refine x_met (cc := cX7_isAtWindow) (nL := 2) (ret := some .boolean) (by decide) rfl (Nat.le_of_ble_eq_true rfl) ?_
  intro p e s m args below meth c C hr hlk
  have C : xC G p s m args c cX7_isAtWindow 2 wsX7_isAtWindow RX7 := C
  have i9 : ∀ w ∈ wsX70, w ∈ wsX7_isAtWindow := by decide +kernel
  unfold f_X7_isAtWindow at hf
  show xW G p l e (rm_X7_isAtWindow 0 0) s m args below meth c 2 (MQ below (xQr G (some (.int out)) M) args s 0 0 (xAs G)) 0 0 ta M 0 [(0, .ref (xad G 9)), (1, .int a1)] []
  refine x_aload_n C 0 dX7_isAtWindow_0 rfl ?_
  refine x_get9 C xkd_9 i9 0 (by decide) (by decide +kernel) rfl rfl dX7_isAtWindow_1 ?_
  refine x_iload_n C 1 dX7_isAtWindow_4 rfl ?_
  obtain ⟨q1, hg, hf⟩ := x_bd hf
  refine x_callSr C (t_X7_personAt hg) (va_cwS 1 C.1.2.2.2.2 gX7_isAtWindow_X7_personAt rfl rfl rfl (by decide +kernel) ⟨Nat.le_of_ble_eq_true rfl, Nat.le_of_ble_eq_true rfl⟩) rfl rfl (Nat.le_of_ble_eq_true rfl) dX7_isAtWindow_5 ⟨Nat.zero_le _, Nat.zero_le _⟩ (fun ta2 => ?_)
  clear hg
  refine x_bipush (v := 7) C dX7_isAtWindow_8 (by decide) ?_
  refine x_iadd C dX7_isAtWindow_10 ?_
  obtain ⟨g3, hf⟩ := x_gd hf
  refine x_iald C xkd_10 xl_10 g3 dX7_isAtWindow_11 ?_
  refine x_iconst (v := (-1)) C dX7_isAtWindow_12 (by decide) ?_
  refine x_icmp_eq C 20 dX7_isAtWindow_13 (by decide) (fun hc4 => ?_) (fun hc4 => ?_)
  · have hf := x_ip hc4 hf
    refine x_iconst (v := 0) C dX7_isAtWindow_20 (by decide) ?_
    obtain rfl := Option.some.inj hf
    exact x_zret C hr hlk (x_nb (Or.inl rfl)) dX7_isAtWindow_21
  · have hf := x_ine hc4 hf
    refine x_iconst (v := 1) C dX7_isAtWindow_16 (by decide) ?_
    refine x_goto C 21 dX7_isAtWindow_17 (by decide) ?_
    obtain rfl := Option.some.inj hf
    exact x_zret C hr hlk (x_nb (Or.inr rfl)) dX7_isAtWindow_21
/-! WaitingRoomSimulationModel.openMany()I -/
abbrev rm_X7_openMany (c s : Nat) : Room := { frames := 2, cells := c, slots := s, locals := 41 }
def f_X7_openMany_L4 (M : xM) : Nat → Int32 → Int32 → Option (Int32)
  | 0, _, _ => none
  | n+1, v1, v2 => (if (3 : Int32) ≤ v2 then some v1 else (f_X7_isOpen v2 M).bind fun q2 => (if q2 = 0 then f_X7_openMany_L4 M n (v1 + (0 : Int32)) (v2 + 1) else f_X7_openMany_L4 M n (v1 + (1 : Int32)) (v2 + 1)))
def f_X7_openMany (M : xM) : Option (Int32) := f_X7_openMany_L4 M xF (0 : Int32) (0 : Int32)
set_option maxHeartbeats 4000000 in
set_option maxRecDepth 100000 in
theorem t_X7_openMany_L4 {G : xG} {p : Program} {l : Launch} {e : Env} {s : State} {m : MethodId} {args : Array Value} {below : List Frame} {meth : Method} {c : Code} (C : xC G p s m args c cX7_openMany 3 wsX7_openMany RX7) (hr : meth.sig.returnType = some .int) (hlk : meth.locks = false) {M : xM} : ∀ (n : Nat) (v1 : Int32) (v2 : Int32) (ta : Nat × Nat) (out : Int32), f_X7_openMany_L4 M n v1 v2 = some out → xW G p l e (rm_X7_openMany 0 0) s m args below meth c 3 (MQ below (xQr G (some (.int out)) M) args s 0 0 (xAs G)) 0 0 ta M 4 [(0, .ref (xad G 9)), (1, .int v1), (2, .int v2)] [] := by
  intro n
  induction n with
  | zero =>
    intro v1 v2 ta out hf
    rw [f_X7_openMany_L4] at hf
    cases hf
  | succ n ih =>
    intro v1 v2 ta out hf
    rw [f_X7_openMany_L4] at hf
    refine x_iload_n C 2 dX7_openMany_4 rfl ?_
    refine x_iconst (v := 3) C dX7_openMany_5 (by decide) ?_
    refine x_icmp_ge C 31 dX7_openMany_6 (by decide) (fun hc1 => ?_) (fun hc1 => ?_)
    · have hf := x_ip hc1 hf
      refine x_iload_n C 1 dX7_openMany_31 rfl ?_
      obtain rfl := Option.some.inj hf
      exact x_iret C hr hlk dX7_openMany_32
    · have hf := x_ine hc1 hf
      refine x_iload_n C 1 dX7_openMany_9 rfl ?_
      refine x_aload_n C 0 dX7_openMany_10 rfl ?_
      refine x_iload_n C 2 dX7_openMany_11 rfl ?_
      obtain ⟨q2, hg, hf⟩ := x_bd hf
      refine x_callVr C (by rw [xkd_9]; decide) (by rw [xkd_9]; decide) (xc9 xkd_9) rfl (t_X7_isOpen hg) (cwV 1 C.1.2.2.2.2 gX7_openMany_X7_isOpen rfl rfl rfl (by decide +kernel) ⟨Nat.le_of_ble_eq_true rfl, Nat.le_of_ble_eq_true rfl⟩) rfl rfl (Nat.le_of_ble_eq_true rfl) dX7_openMany_12 ⟨Nat.zero_le _, Nat.zero_le _⟩ (fun ta3 => ?_)
      clear hg
      refine x_if_eq C 22 dX7_openMany_15 (by decide) (fun hc4 => ?_) (fun hc4 => ?_)
      · have hf := x_ip hc4 hf
        refine x_iconst (v := 0) C dX7_openMany_22 (by decide) ?_
        refine x_iadd C dX7_openMany_23 ?_
        refine x_istore_n (lv' := [(1, .int (v1 + (0 : Int32))), (0, .ref (xad G 9)), (2, .int v2)]) C dX7_openMany_24 rfl (by decide) rfl ?_
        refine x_iinc (v := v2 + 1) (lv' := [(2, .int (v2 + 1)), (1, .int (v1 + (0 : Int32))), (0, .ref (xad G 9))]) C 2 dX7_openMany_25 rfl rfl (by decide) rfl ?_
        refine x_goto C 4 dX7_openMany_28 (by decide) ?_
        refine x_sub [2, 1, 0] rfl ?_
        exact ih (v1 + (0 : Int32)) (v2 + 1) _ _ hf
      · have hf := x_ine hc4 hf
        refine x_iconst (v := 1) C dX7_openMany_18 (by decide) ?_
        refine x_goto C 23 dX7_openMany_19 (by decide) ?_
        refine x_iadd C dX7_openMany_23 ?_
        refine x_istore_n (lv' := [(1, .int (v1 + (1 : Int32))), (0, .ref (xad G 9)), (2, .int v2)]) C dX7_openMany_24 rfl (by decide) rfl ?_
        refine x_iinc (v := v2 + 1) (lv' := [(2, .int (v2 + 1)), (1, .int (v1 + (1 : Int32))), (0, .ref (xad G 9))]) C 2 dX7_openMany_25 rfl rfl (by decide) rfl ?_
        refine x_goto C 4 dX7_openMany_28 (by decide) ?_
        refine x_sub [2, 1, 0] rfl ?_
        exact ih (v1 + (1 : Int32)) (v2 + 1) _ _ hf
set_option maxHeartbeats 4000000 in
set_option maxRecDepth 100000 in
theorem t_X7_openMany {l : Launch} {G : xG} {ta : Nat × Nat} {M : xM} {out : Int32} (hf : f_X7_openMany M = some out) : xMet G l yX7_openMany wsX7_openMany (rm_X7_openMany 0 0) 0 0 ta M [.ref (xad G 9)] (some (.int out)) M := by
  refine x_met (cc := cX7_openMany) (nL := 3) (ret := some .int) (by decide) rfl (Nat.le_of_ble_eq_true rfl) ?_
  intro p e s m args below meth c C hr hlk
  have C : xC G p s m args c cX7_openMany 3 wsX7_openMany RX7 := C
  unfold f_X7_openMany at hf
  show xW G p l e (rm_X7_openMany 0 0) s m args below meth c 3 (MQ below (xQr G (some (.int out)) M) args s 0 0 (xAs G)) 0 0 ta M 0 [(0, .ref (xad G 9))] []
  refine x_iconst (v := 0) C dX7_openMany_0 (by decide) ?_
  refine x_istore_n (lv' := [(1, .int (0 : Int32)), (0, .ref (xad G 9))]) C dX7_openMany_1 rfl (by decide) rfl ?_
  refine x_iconst (v := 0) C dX7_openMany_2 (by decide) ?_
  refine x_istore_n (lv' := [(2, .int (0 : Int32)), (1, .int (0 : Int32)), (0, .ref (xad G 9))]) C dX7_openMany_3 rfl (by decide) rfl ?_
  refine x_sub [2, 1, 0] rfl ?_
  exact t_X7_openMany_L4 C hr hlk xF (0 : Int32) (0 : Int32) _ _ hf
/-! WaitingRoomSimulationModel.sitting()I -/
abbrev rm_X7_sitting (c s : Nat) : Room := { frames := 1, cells := c, slots := s, locals := 20 }
def f_X7_sitting_L4 (M : xM) : Nat → Int32 → Int32 → Option (Int32)
  | 0, _, _ => none
  | n+1, v1, v2 => if x_in (0 : Int32) 159 = true then (if (M.1 10 (0 : Int32).toNatClampNeg) ≤ v2 then some v1 else (f_X7_personAt v2 M).bind fun q3 => if x_in (q3 + (4 : Int32)) 159 = true then f_X7_sitting_L4 M n (v1 + (M.1 10 (q3 + (4 : Int32)).toNatClampNeg)) (v2 + 1) else none) else none
def f_X7_sitting (M : xM) : Option (Int32) := f_X7_sitting_L4 M xF (0 : Int32) (0 : Int32)
set_option maxHeartbeats 4000000 in
set_option maxRecDepth 100000 in
theorem t_X7_sitting_L4 {G : xG} {p : Program} {l : Launch} {e : Env} {s : State} {m : MethodId} {args : Array Value} {below : List Frame} {meth : Method} {c : Code} (C : xC G p s m args c cX7_sitting 3 wsX7_sitting RX7) (hr : meth.sig.returnType = some .int) (hlk : meth.locks = false) {M : xM} : ∀ (n : Nat) (v1 : Int32) (v2 : Int32) (ta : Nat × Nat) (out : Int32), f_X7_sitting_L4 M n v1 v2 = some out → xW G p l e (rm_X7_sitting 0 0) s m args below meth c 3 (MQ below (xQr G (some (.int out)) M) args s 0 0 (xAs G)) 0 0 ta M 4 [(0, .ref (xad G 9)), (1, .int v1), (2, .int v2)] [] := by
  intro n
  induction n with
  | zero =>
    intro v1 v2 ta out hf
    rw [f_X7_sitting_L4] at hf
    cases hf
  | succ n ih =>
    intro v1 v2 ta out hf
    rw [f_X7_sitting_L4] at hf
    have i9 : ∀ w ∈ wsX70, w ∈ wsX7_sitting := by decide +kernel
    refine x_iload_n C 2 dX7_sitting_4 rfl ?_
    refine x_aload_n C 0 dX7_sitting_5 rfl ?_
    refine x_get9 C xkd_9 i9 0 (by decide) (by decide +kernel) rfl rfl dX7_sitting_6 ?_
    refine x_iconst (v := 0) C dX7_sitting_9 (by decide) ?_
    obtain ⟨g1, hf⟩ := x_gd hf
    refine x_iald C xkd_10 xl_10 g1 dX7_sitting_10 ?_
    refine x_icmp_ge C 34 dX7_sitting_11 (by decide) (fun hc2 => ?_) (fun hc2 => ?_)
    · have hf := x_ip hc2 hf
      refine x_iload_n C 1 dX7_sitting_34 rfl ?_
      obtain rfl := Option.some.inj hf
      exact x_iret C hr hlk dX7_sitting_35
    · have hf := x_ine hc2 hf
      refine x_iload_n C 1 dX7_sitting_14 rfl ?_
      refine x_aload_n C 0 dX7_sitting_15 rfl ?_
      refine x_get9 C xkd_9 i9 0 (by decide) (by decide +kernel) rfl rfl dX7_sitting_16 ?_
      refine x_iload_n C 2 dX7_sitting_19 rfl ?_
      obtain ⟨q3, hg, hf⟩ := x_bd hf
      refine x_callSr C (t_X7_personAt hg) (va_cwS 1 C.1.2.2.2.2 gX7_sitting_X7_personAt rfl rfl rfl (by decide +kernel) ⟨Nat.le_of_ble_eq_true rfl, Nat.le_of_ble_eq_true rfl⟩) rfl rfl (Nat.le_of_ble_eq_true rfl) dX7_sitting_20 ⟨Nat.zero_le _, Nat.zero_le _⟩ (fun ta4 => ?_)
      clear hg
      refine x_iconst (v := 4) C dX7_sitting_23 (by decide) ?_
      refine x_iadd C dX7_sitting_24 ?_
      obtain ⟨g5, hf⟩ := x_gd hf
      refine x_iald C xkd_10 xl_10 g5 dX7_sitting_25 ?_
      refine x_iadd C dX7_sitting_26 ?_
      refine x_istore_n (lv' := [(1, .int (v1 + (M.1 10 (q3 + (4 : Int32)).toNatClampNeg))), (0, .ref (xad G 9)), (2, .int v2)]) C dX7_sitting_27 rfl (by decide) rfl ?_
      refine x_iinc (v := v2 + 1) (lv' := [(2, .int (v2 + 1)), (1, .int (v1 + (M.1 10 (q3 + (4 : Int32)).toNatClampNeg))), (0, .ref (xad G 9))]) C 2 dX7_sitting_28 rfl rfl (by decide) rfl ?_
      refine x_goto C 4 dX7_sitting_31 (by decide) ?_
      refine x_sub [2, 1, 0] rfl ?_
      exact ih (v1 + (M.1 10 (q3 + (4 : Int32)).toNatClampNeg)) (v2 + 1) _ _ hf
set_option maxHeartbeats 4000000 in
set_option maxRecDepth 100000 in
theorem t_X7_sitting {l : Launch} {G : xG} {ta : Nat × Nat} {M : xM} {out : Int32} (hf : f_X7_sitting M = some out) : xMet G l yX7_sitting wsX7_sitting (rm_X7_sitting 0 0) 0 0 ta M [.ref (xad G 9)] (some (.int out)) M := by
  refine x_met (cc := cX7_sitting) (nL := 3) (ret := some .int) (by decide) rfl (Nat.le_of_ble_eq_true rfl) ?_
  intro p e s m args below meth c C hr hlk
  have C : xC G p s m args c cX7_sitting 3 wsX7_sitting RX7 := C
  have i9 : ∀ w ∈ wsX70, w ∈ wsX7_sitting := by decide +kernel
  unfold f_X7_sitting at hf
  show xW G p l e (rm_X7_sitting 0 0) s m args below meth c 3 (MQ below (xQr G (some (.int out)) M) args s 0 0 (xAs G)) 0 0 ta M 0 [(0, .ref (xad G 9))] []
  refine x_iconst (v := 0) C dX7_sitting_0 (by decide) ?_
  refine x_istore_n (lv' := [(1, .int (0 : Int32)), (0, .ref (xad G 9))]) C dX7_sitting_1 rfl (by decide) rfl ?_
  refine x_iconst (v := 0) C dX7_sitting_2 (by decide) ?_
  refine x_istore_n (lv' := [(2, .int (0 : Int32)), (1, .int (0 : Int32)), (0, .ref (xad G 9))]) C dX7_sitting_3 rfl (by decide) rfl ?_
  refine x_sub [2, 1, 0] rfl ?_
  exact t_X7_sitting_L4 C hr hlk xF (0 : Int32) (0 : Int32) _ _ hf
/-! WaitingRoomSimulationModel.placeOf(I)I -/
abbrev rm_X7_placeOf (c s : Nat) : Room := { frames := 0, cells := c, slots := s, locals := 0 }
def f_X7_placeOf_L2 (v1 : Int32) (M : xM) : Nat → Int32 → Option (Int32)
  | 0, _ => none
  | n+1, v2 => if x_in (9 : Int32) 159 = true then (if (M.1 10 (9 : Int32).toNatClampNeg) ≤ v2 then some (-1 : Int32) else if x_in ((123 : Int32) + v2) 159 = true then (if (M.1 10 ((123 : Int32) + v2).toNatClampNeg) = v1 then some v2 else f_X7_placeOf_L2 v1 M n (v2 + 1)) else none) else none
def f_X7_placeOf (a1 : Int32) (M : xM) : Option (Int32) := f_X7_placeOf_L2 a1 M xF (0 : Int32)
set_option maxHeartbeats 4000000 in
set_option maxRecDepth 100000 in
theorem t_X7_placeOf_L2 {G : xG} {p : Program} {l : Launch} {e : Env} {s : State} {m : MethodId} {args : Array Value} {below : List Frame} {meth : Method} {c : Code} (C : xC G p s m args c cX7_placeOf 3 wsX7_placeOf RX7) (hr : meth.sig.returnType = some .int) (hlk : meth.locks = false) {v1 : Int32} {M : xM} : ∀ (n : Nat) (v2 : Int32) (ta : Nat × Nat) (out : Int32), f_X7_placeOf_L2 v1 M n v2 = some out → xW G p l e (rm_X7_placeOf 0 0) s m args below meth c 3 (MQ below (xQr G (some (.int out)) M) args s 0 0 (xAs G)) 0 0 ta M 2 [(0, .ref (xad G 9)), (1, .int v1), (2, .int v2)] [] := by
  intro n
  induction n with
  | zero =>
    intro v2 ta out hf
    rw [f_X7_placeOf_L2] at hf
    cases hf
  | succ n ih =>
    intro v2 ta out hf
    rw [f_X7_placeOf_L2] at hf
    have i9 : ∀ w ∈ wsX70, w ∈ wsX7_placeOf := by decide +kernel
    refine x_iload_n C 2 dX7_placeOf_2 rfl ?_
    refine x_aload_n C 0 dX7_placeOf_3 rfl ?_
    refine x_get9 C xkd_9 i9 0 (by decide) (by decide +kernel) rfl rfl dX7_placeOf_4 ?_
    refine x_bipush (v := 9) C dX7_placeOf_7 (by decide) ?_
    obtain ⟨g1, hf⟩ := x_gd hf
    refine x_iald C xkd_10 xl_10 g1 dX7_placeOf_9 ?_
    refine x_icmp_ge C 34 dX7_placeOf_10 (by decide) (fun hc2 => ?_) (fun hc2 => ?_)
    · have hf := x_ip hc2 hf
      refine x_iconst (v := (-1)) C dX7_placeOf_34 (by decide) ?_
      obtain rfl := Option.some.inj hf
      exact x_iret C hr hlk dX7_placeOf_35
    · have hf := x_ine hc2 hf
      refine x_aload_n C 0 dX7_placeOf_13 rfl ?_
      refine x_get9 C xkd_9 i9 0 (by decide) (by decide +kernel) rfl rfl dX7_placeOf_14 ?_
      refine x_bipush (v := 123) C dX7_placeOf_17 (by decide) ?_
      refine x_iload_n C 2 dX7_placeOf_19 rfl ?_
      refine x_iadd C dX7_placeOf_20 ?_
      obtain ⟨g3, hf⟩ := x_gd hf
      refine x_iald C xkd_10 xl_10 g3 dX7_placeOf_21 ?_
      refine x_iload_n C 1 dX7_placeOf_22 rfl ?_
      refine x_icmp_ne C 28 dX7_placeOf_23 (by decide) (fun hc4 => ?_) (fun hc4 => ?_)
      · have hf := x_ine hc4 hf
        refine x_iinc (v := v2 + 1) (lv' := [(2, .int (v2 + 1)), (0, .ref (xad G 9)), (1, .int v1)]) C 2 dX7_placeOf_28 rfl rfl (by decide) rfl ?_
        refine x_goto C 2 dX7_placeOf_31 (by decide) ?_
        refine x_sub [1, 2, 0] rfl ?_
        exact ih (v2 + 1) _ _ hf
      · have hf := x_ip hc4 hf
        refine x_iload_n C 2 dX7_placeOf_26 rfl ?_
        obtain rfl := Option.some.inj hf
        exact x_iret C hr hlk dX7_placeOf_27
set_option maxHeartbeats 4000000 in
set_option maxRecDepth 100000 in
theorem t_X7_placeOf {l : Launch} {G : xG} {ta : Nat × Nat} {M : xM} {a1 : Int32} {out : Int32} (hf : f_X7_placeOf a1 M = some out) : xMet G l yX7_placeOf wsX7_placeOf (rm_X7_placeOf 0 0) 0 0 ta M [.ref (xad G 9), .int a1] (some (.int out)) M := by
  refine x_met (cc := cX7_placeOf) (nL := 3) (ret := some .int) (by decide) rfl (Nat.le_of_ble_eq_true rfl) ?_
  intro p e s m args below meth c C hr hlk
  have C : xC G p s m args c cX7_placeOf 3 wsX7_placeOf RX7 := C
  have i9 : ∀ w ∈ wsX70, w ∈ wsX7_placeOf := by decide +kernel
  unfold f_X7_placeOf at hf
  show xW G p l e (rm_X7_placeOf 0 0) s m args below meth c 3 (MQ below (xQr G (some (.int out)) M) args s 0 0 (xAs G)) 0 0 ta M 0 [(0, .ref (xad G 9)), (1, .int a1)] []
  refine x_iconst (v := 0) C dX7_placeOf_0 (by decide) ?_
  refine x_istore_n (lv' := [(2, .int (0 : Int32)), (0, .ref (xad G 9)), (1, .int a1)]) C dX7_placeOf_1 rfl (by decide) rfl ?_
  refine x_sub [1, 2, 0] rfl ?_
  exact t_X7_placeOf_L2 C hr hlk xF (0 : Int32) _ _ hf
/-! WaitingRoomSimulationModel.leavesRow(I)V -/
abbrev rm_X7_leavesRow (c s : Nat) : Room := { frames := 0, cells := c, slots := s, locals := 0 }
def f_X7_leavesRow_L2 : Nat → Int32 → xM → Option (xM)
  | 0, _, _ => none
  | n+1, v2, M => if x_in (9 : Int32) 159 = true then (if ((M.1 10 (9 : Int32).toNatClampNeg) - (1 : Int32)) ≤ v2 then if x_in (9 : Int32) 159 = true then if x_in (9 : Int32) 159 = true then x_let (sI M 10 (9 : Int32).toNatClampNeg ((M.1 10 (9 : Int32).toNatClampNeg) - (1 : Int32))) fun M5 => if x_in (9 : Int32) 159 = true then if x_in ((123 : Int32) + (M5.1 10 (9 : Int32).toNatClampNeg)) 159 = true then x_let (sI M5 10 ((123 : Int32) + (M5.1 10 (9 : Int32).toNatClampNeg)).toNatClampNeg (0 : Int32)) fun M9 => some M9 else none else none else none else none else if x_in (((123 : Int32) + v2) + (1 : Int32)) 159 = true then if x_in ((123 : Int32) + v2) 159 = true then x_let (sI M 10 ((123 : Int32) + v2).toNatClampNeg (M.1 10 (((123 : Int32) + v2) + (1 : Int32)).toNatClampNeg)) fun M13 => f_X7_leavesRow_L2 n (v2 + 1) M13 else none else none) else none
def f_X7_leavesRow (a1 : Int32) (M : xM) : Option (xM) := f_X7_leavesRow_L2 xF a1 M
set_option maxHeartbeats 4000000 in
set_option maxRecDepth 100000 in
theorem t_X7_leavesRow_L2 {G : xG} {p : Program} {l : Launch} {e : Env} {s : State} {m : MethodId} {args : Array Value} {below : List Frame} {meth : Method} {c : Code} (C : xC G p s m args c cX7_leavesRow 3 wsX7_leavesRow RX7) (hr : meth.sig.returnType = none) (hlk : meth.locks = false) : ∀ (n : Nat) (v2 : Int32) (M : xM) (ta : Nat × Nat) (out : xM), f_X7_leavesRow_L2 n v2 M = some out → xW G p l e (rm_X7_leavesRow 0 0) s m args below meth c 3 (MQ below (xQr G none out) args s 0 0 (xAs G)) 0 0 ta M 2 [(0, .ref (xad G 9)), (2, .int v2)] [] := by
  intro n
  induction n with
  | zero =>
    intro v2 M ta out hf
    rw [f_X7_leavesRow_L2] at hf
    cases hf
  | succ n ih =>
    intro v2 M ta out hf
    rw [f_X7_leavesRow_L2] at hf
    have i9 : ∀ w ∈ wsX70, w ∈ wsX7_leavesRow := by decide +kernel
    refine x_iload_n C 1 dX7_leavesRow_2 rfl ?_
    refine x_aload_n C 0 dX7_leavesRow_3 rfl ?_
    refine x_get9 C xkd_9 i9 0 (by decide) (by decide +kernel) rfl rfl dX7_leavesRow_4 ?_
    refine x_bipush (v := 9) C dX7_leavesRow_7 (by decide) ?_
    obtain ⟨g1, hf⟩ := x_gd hf
    refine x_iald C xkd_10 xl_10 g1 dX7_leavesRow_9 ?_
    refine x_iconst (v := 1) C dX7_leavesRow_10 (by decide) ?_
    refine x_isub C dX7_leavesRow_11 ?_
    refine x_icmp_ge C 41 dX7_leavesRow_12 (by decide) (fun hc2 => ?_) (fun hc2 => ?_)
    · have hf := x_ip hc2 hf
      refine x_aload_n C 0 dX7_leavesRow_41 rfl ?_
      refine x_get9 C xkd_9 i9 0 (by decide) (by decide +kernel) rfl rfl dX7_leavesRow_42 ?_
      refine x_bipush (v := 9) C dX7_leavesRow_45 (by decide) ?_
      refine x_dup2 C dX7_leavesRow_47 rfl rfl ?_
      obtain ⟨g3, hf⟩ := x_gd hf
      refine x_iald C xkd_10 xl_10 g3 dX7_leavesRow_48 ?_
      refine x_iconst (v := 1) C dX7_leavesRow_49 (by decide) ?_
      refine x_isub C dX7_leavesRow_50 ?_
      obtain ⟨g4, hf⟩ := x_gd hf
      refine x_iast C xkd_10 xl_10 g4 dX7_leavesRow_51 ?_
      obtain ⟨M5, e6, hf⟩ := x_lt hf
      rw [← e6]
      clear e6
      refine x_aload_n C 0 dX7_leavesRow_52 rfl ?_
      refine x_get9 C xkd_9 i9 0 (by decide) (by decide +kernel) rfl rfl dX7_leavesRow_53 ?_
      refine x_bipush (v := 123) C dX7_leavesRow_56 (by decide) ?_
      refine x_aload_n C 0 dX7_leavesRow_58 rfl ?_
      refine x_get9 C xkd_9 i9 0 (by decide) (by decide +kernel) rfl rfl dX7_leavesRow_59 ?_
      refine x_bipush (v := 9) C dX7_leavesRow_62 (by decide) ?_
      obtain ⟨g7, hf⟩ := x_gd hf
      refine x_iald C xkd_10 xl_10 g7 dX7_leavesRow_64 ?_
      refine x_iadd C dX7_leavesRow_65 ?_
      refine x_iconst (v := 0) C dX7_leavesRow_66 (by decide) ?_
      obtain ⟨g8, hf⟩ := x_gd hf
      refine x_iast C xkd_10 xl_10 g8 dX7_leavesRow_67 ?_
      obtain ⟨M9, e10, hf⟩ := x_lt hf
      rw [← e10]
      clear e10
      obtain rfl := Option.some.inj hf
      exact x_vret C hr hlk dX7_leavesRow_68
    · have hf := x_ine hc2 hf
      refine x_aload_n C 0 dX7_leavesRow_15 rfl ?_
      refine x_get9 C xkd_9 i9 0 (by decide) (by decide +kernel) rfl rfl dX7_leavesRow_16 ?_
      refine x_bipush (v := 123) C dX7_leavesRow_19 (by decide) ?_
      refine x_iload_n C 1 dX7_leavesRow_21 rfl ?_
      refine x_iadd C dX7_leavesRow_22 ?_
      refine x_aload_n C 0 dX7_leavesRow_23 rfl ?_
      refine x_get9 C xkd_9 i9 0 (by decide) (by decide +kernel) rfl rfl dX7_leavesRow_24 ?_
      refine x_bipush (v := 123) C dX7_leavesRow_27 (by decide) ?_
      refine x_iload_n C 1 dX7_leavesRow_29 rfl ?_
      refine x_iadd C dX7_leavesRow_30 ?_
      refine x_iconst (v := 1) C dX7_leavesRow_31 (by decide) ?_
      refine x_iadd C dX7_leavesRow_32 ?_
      obtain ⟨g11, hf⟩ := x_gd hf
      refine x_iald C xkd_10 xl_10 g11 dX7_leavesRow_33 ?_
      obtain ⟨g12, hf⟩ := x_gd hf
      refine x_iast C xkd_10 xl_10 g12 dX7_leavesRow_34 ?_
      obtain ⟨M13, e14, hf⟩ := x_lt hf
      rw [← e14]
      clear e14
      refine x_iinc (v := v2 + 1) (lv' := [(2, .int (v2 + 1)), (0, .ref (xad G 9))]) C 1 dX7_leavesRow_35 rfl rfl (by decide) rfl ?_
      refine x_goto C 2 dX7_leavesRow_38 (by decide) ?_
      refine x_sub [1, 0] rfl ?_
      exact ih (v2 + 1) M13 _ _ hf
set_option maxHeartbeats 4000000 in
set_option maxRecDepth 100000 in
theorem t_X7_leavesRow {l : Launch} {G : xG} {ta : Nat × Nat} {M : xM} {a1 : Int32} {out : xM} (hf : f_X7_leavesRow a1 M = some out) : xMet G l yX7_leavesRow wsX7_leavesRow (rm_X7_leavesRow 0 0) 0 0 ta M [.ref (xad G 9), .int a1] none out := by
  refine x_met (cc := cX7_leavesRow) (nL := 3) (ret := none) (by decide) rfl (Nat.le_of_ble_eq_true rfl) ?_
  intro p e s m args below meth c C hr hlk
  have C : xC G p s m args c cX7_leavesRow 3 wsX7_leavesRow RX7 := C
  have i9 : ∀ w ∈ wsX70, w ∈ wsX7_leavesRow := by decide +kernel
  unfold f_X7_leavesRow at hf
  show xW G p l e (rm_X7_leavesRow 0 0) s m args below meth c 3 (MQ below (xQr G none out) args s 0 0 (xAs G)) 0 0 ta M 0 [(0, .ref (xad G 9)), (1, .int a1)] []
  refine x_iload_n C 1 dX7_leavesRow_0 rfl ?_
  refine x_istore_n (lv' := [(2, .int a1), (0, .ref (xad G 9)), (1, .int a1)]) C dX7_leavesRow_1 rfl (by decide) rfl ?_
  refine x_sub [1, 0] rfl ?_
  exact t_X7_leavesRow_L2 C hr hlk xF a1 M _ _ hf
/-! WaitingRoomSimulationModel.goesBack(I)V -/
abbrev rm_X7_goesBack (c s : Nat) : Room := { frames := 1, cells := c, slots := s, locals := 20 }
def f_X7_goesBack_L8 (v1 : Int32) : Nat → Int32 → xM → Option (xM)
  | 0, _, _ => none
  | n+1, v2, M => (if v2 ≤ 0 then if x_in (123 : Int32) 159 = true then x_let (sI M 10 (123 : Int32).toNatClampNeg v1) fun M4 => if x_in (9 : Int32) 159 = true then if x_in (9 : Int32) 159 = true then x_let (sI M4 10 (9 : Int32).toNatClampNeg ((M4.1 10 (9 : Int32).toNatClampNeg) + (1 : Int32))) fun M8 => (f_X7_personAt v1 M8).bind fun q10 => if x_in (q10 + (7 : Int32)) 159 = true then x_let (sI M8 10 (q10 + (7 : Int32)).toNatClampNeg (-1 : Int32)) fun M13 => some M13 else none else none else none else none else if x_in (((123 : Int32) + v2) - (1 : Int32)) 159 = true then if x_in ((123 : Int32) + v2) 159 = true then x_let (sI M 10 ((123 : Int32) + v2).toNatClampNeg (M.1 10 (((123 : Int32) + v2) - (1 : Int32)).toNatClampNeg)) fun M17 => f_X7_goesBack_L8 v1 n (v2 + (-1)) M17 else none else none)
def f_X7_goesBack (a1 : Int32) (M : xM) : Option (xM) := if x_in (9 : Int32) 159 = true then f_X7_goesBack_L8 a1 xF (M.1 10 (9 : Int32).toNatClampNeg) M else none
set_option maxHeartbeats 4000000 in
set_option maxRecDepth 100000 in
theorem t_X7_goesBack_L8 {G : xG} {p : Program} {l : Launch} {e : Env} {s : State} {m : MethodId} {args : Array Value} {below : List Frame} {meth : Method} {c : Code} (C : xC G p s m args c cX7_goesBack 3 wsX7_goesBack RX7) (hr : meth.sig.returnType = none) (hlk : meth.locks = false) {v1 : Int32} : ∀ (n : Nat) (v2 : Int32) (M : xM) (ta : Nat × Nat) (out : xM), f_X7_goesBack_L8 v1 n v2 M = some out → xW G p l e (rm_X7_goesBack 0 0) s m args below meth c 3 (MQ below (xQr G none out) args s 0 0 (xAs G)) 0 0 ta M 8 [(0, .ref (xad G 9)), (1, .int v1), (2, .int v2)] [] := by
  intro n
  induction n with
  | zero =>
    intro v2 M ta out hf
    rw [f_X7_goesBack_L8] at hf
    cases hf
  | succ n ih =>
    intro v2 M ta out hf
    rw [f_X7_goesBack_L8] at hf
    have i9 : ∀ w ∈ wsX70, w ∈ wsX7_goesBack := by decide +kernel
    refine x_iload_n C 2 dX7_goesBack_8 rfl ?_
    refine x_if_le C 38 dX7_goesBack_9 (by decide) (fun hc2 => ?_) (fun hc2 => ?_)
    · have hf := x_ip hc2 hf
      refine x_aload_n C 0 dX7_goesBack_38 rfl ?_
      refine x_get9 C xkd_9 i9 0 (by decide) (by decide +kernel) rfl rfl dX7_goesBack_39 ?_
      refine x_bipush (v := 123) C dX7_goesBack_42 (by decide) ?_
      refine x_iload_n C 1 dX7_goesBack_44 rfl ?_
      obtain ⟨g3, hf⟩ := x_gd hf
      refine x_iast C xkd_10 xl_10 g3 dX7_goesBack_45 ?_
      obtain ⟨M4, e5, hf⟩ := x_lt hf
      rw [← e5]
      clear e5
      refine x_aload_n C 0 dX7_goesBack_46 rfl ?_
      refine x_get9 C xkd_9 i9 0 (by decide) (by decide +kernel) rfl rfl dX7_goesBack_47 ?_
      refine x_bipush (v := 9) C dX7_goesBack_50 (by decide) ?_
      refine x_dup2 C dX7_goesBack_52 rfl rfl ?_
      obtain ⟨g6, hf⟩ := x_gd hf
      refine x_iald C xkd_10 xl_10 g6 dX7_goesBack_53 ?_
      refine x_iconst (v := 1) C dX7_goesBack_54 (by decide) ?_
      refine x_iadd C dX7_goesBack_55 ?_
      obtain ⟨g7, hf⟩ := x_gd hf
      refine x_iast C xkd_10 xl_10 g7 dX7_goesBack_56 ?_
      obtain ⟨M8, e9, hf⟩ := x_lt hf
      rw [← e9]
      clear e9
      refine x_aload_n C 0 dX7_goesBack_57 rfl ?_
      refine x_get9 C xkd_9 i9 0 (by decide) (by decide +kernel) rfl rfl dX7_goesBack_58 ?_
      refine x_iload_n C 1 dX7_goesBack_61 rfl ?_
      obtain ⟨q10, hg, hf⟩ := x_bd hf
      refine x_callSr C (t_X7_personAt hg) (va_cwS 1 C.1.2.2.2.2 gX7_goesBack_X7_personAt rfl rfl rfl (by decide +kernel) ⟨Nat.le_of_ble_eq_true rfl, Nat.le_of_ble_eq_true rfl⟩) rfl rfl (Nat.le_of_ble_eq_true rfl) dX7_goesBack_62 ⟨Nat.zero_le _, Nat.zero_le _⟩ (fun ta11 => ?_)
      clear hg
      refine x_bipush (v := 7) C dX7_goesBack_65 (by decide) ?_
      refine x_iadd C dX7_goesBack_67 ?_
      refine x_iconst (v := (-1)) C dX7_goesBack_68 (by decide) ?_
      obtain ⟨g12, hf⟩ := x_gd hf
      refine x_iast C xkd_10 xl_10 g12 dX7_goesBack_69 ?_
      obtain ⟨M13, e14, hf⟩ := x_lt hf
      rw [← e14]
      clear e14
      obtain rfl := Option.some.inj hf
      exact x_vret C hr hlk dX7_goesBack_70
    · have hf := x_ine hc2 hf
      refine x_aload_n C 0 dX7_goesBack_12 rfl ?_
      refine x_get9 C xkd_9 i9 0 (by decide) (by decide +kernel) rfl rfl dX7_goesBack_13 ?_
      refine x_bipush (v := 123) C dX7_goesBack_16 (by decide) ?_
      refine x_iload_n C 2 dX7_goesBack_18 rfl ?_
      refine x_iadd C dX7_goesBack_19 ?_
      refine x_aload_n C 0 dX7_goesBack_20 rfl ?_
      refine x_get9 C xkd_9 i9 0 (by decide) (by decide +kernel) rfl rfl dX7_goesBack_21 ?_
      refine x_bipush (v := 123) C dX7_goesBack_24 (by decide) ?_
      refine x_iload_n C 2 dX7_goesBack_26 rfl ?_
      refine x_iadd C dX7_goesBack_27 ?_
      refine x_iconst (v := 1) C dX7_goesBack_28 (by decide) ?_
      refine x_isub C dX7_goesBack_29 ?_
      obtain ⟨g15, hf⟩ := x_gd hf
      refine x_iald C xkd_10 xl_10 g15 dX7_goesBack_30 ?_
      obtain ⟨g16, hf⟩ := x_gd hf
      refine x_iast C xkd_10 xl_10 g16 dX7_goesBack_31 ?_
      obtain ⟨M17, e18, hf⟩ := x_lt hf
      rw [← e18]
      clear e18
      refine x_iinc (v := v2 + (-1)) (lv' := [(2, .int (v2 + (-1))), (0, .ref (xad G 9)), (1, .int v1)]) C 2 dX7_goesBack_32 rfl rfl (by decide) rfl ?_
      refine x_goto C 8 dX7_goesBack_35 (by decide) ?_
      refine x_sub [1, 2, 0] rfl ?_
      exact ih (v2 + (-1)) M17 _ _ hf
set_option maxHeartbeats 4000000 in
set_option maxRecDepth 100000 in
theorem t_X7_goesBack {l : Launch} {G : xG} {ta : Nat × Nat} {M : xM} {a1 : Int32} {out : xM} (hf : f_X7_goesBack a1 M = some out) : xMet G l yX7_goesBack wsX7_goesBack (rm_X7_goesBack 0 0) 0 0 ta M [.ref (xad G 9), .int a1] none out := by
  refine x_met (cc := cX7_goesBack) (nL := 3) (ret := none) (by decide) rfl (Nat.le_of_ble_eq_true rfl) ?_
  intro p e s m args below meth c C hr hlk
  have C : xC G p s m args c cX7_goesBack 3 wsX7_goesBack RX7 := C
  have i9 : ∀ w ∈ wsX70, w ∈ wsX7_goesBack := by decide +kernel
  unfold f_X7_goesBack at hf
  show xW G p l e (rm_X7_goesBack 0 0) s m args below meth c 3 (MQ below (xQr G none out) args s 0 0 (xAs G)) 0 0 ta M 0 [(0, .ref (xad G 9)), (1, .int a1)] []
  refine x_aload_n C 0 dX7_goesBack_0 rfl ?_
  refine x_get9 C xkd_9 i9 0 (by decide) (by decide +kernel) rfl rfl dX7_goesBack_1 ?_
  refine x_bipush (v := 9) C dX7_goesBack_4 (by decide) ?_
  obtain ⟨g1, hf⟩ := x_gd hf
  refine x_iald C xkd_10 xl_10 g1 dX7_goesBack_6 ?_
  refine x_istore_n (lv' := [(2, .int (M.1 10 (9 : Int32).toNatClampNeg)), (0, .ref (xad G 9)), (1, .int a1)]) C dX7_goesBack_7 rfl (by decide) rfl ?_
  refine x_sub [1, 2, 0] rfl ?_
  exact t_X7_goesBack_L8 C hr hlk xF (M.1 10 (9 : Int32).toNatClampNeg) M _ _ hf
/-! WaitingRoomSimulationModel.goes(I)V -/
abbrev rm_X7_goes (c s : Nat) : Room := { frames := 1, cells := c, slots := s, locals := 22 }
def f_X7_goes_L185 : Nat → Int32 → xM → Option (xM)
  | 0, _, _ => none
  | n+1, v3, M => (if (123 : Int32) ≤ v3 then if x_in (0 : Int32) 159 = true then if x_in (0 : Int32) 159 = true then x_let (sI M 10 (0 : Int32).toNatClampNeg ((M.1 10 (0 : Int32).toNatClampNeg) - (1 : Int32))) fun M24 => some M24 else none else none else if x_in v3 159 = true then x_let (sI M 10 v3.toNatClampNeg (0 : Int32)) fun M27 => f_X7_goes_L185 n (v3 + 1) M27 else none)
def f_X7_goes_L155 : Nat → Int32 → xM → Option (xM)
  | 0, _, _ => none
  | n+1, v3, M => (if (115 : Int32) ≤ v3 then f_X7_goes_L185 xF (115 : Int32) M else if x_in (v3 + (8 : Int32)) 159 = true then if x_in v3 159 = true then x_let (sI M 10 v3.toNatClampNeg (M.1 10 (v3 + (8 : Int32)).toNatClampNeg)) fun M31 => f_X7_goes_L155 n (v3 + 1) M31 else none else none)
def f_X7_goes_L105 (v1 : Int32) : Nat → Int32 → xM → Option (xM)
  | 0, _, _ => none
  | n+1, v3, M => (if (3 : Int32) ≤ v3 then (f_X7_personAt v1 M).bind fun q18 => f_X7_goes_L155 xF q18 M else (f_X7_windowAt v3 M).bind fun q33 => if x_in (q33 + (2 : Int32)) 159 = true then (f_X7_windowAt v3 M).bind fun q36 => if x_in (q36 + (2 : Int32)) 159 = true then (if (M.1 10 (q36 + (2 : Int32)).toNatClampNeg) ≤ v1 then if x_in (q33 + (2 : Int32)) 159 = true then x_let (sI M 10 (q33 + (2 : Int32)).toNatClampNeg ((M.1 10 (q33 + (2 : Int32)).toNatClampNeg) - (0 : Int32))) fun M41 => f_X7_goes_L105 v1 n (v3 + 1) M41 else none else if x_in (q33 + (2 : Int32)) 159 = true then x_let (sI M 10 (q33 + (2 : Int32)).toNatClampNeg ((M.1 10 (q33 + (2 : Int32)).toNatClampNeg) - (1 : Int32))) fun M44 => f_X7_goes_L105 v1 n (v3 + 1) M44 else none) else none else none)
def f_X7_goes_L56 (v1 : Int32) : Nat → Int32 → xM → Option (xM)
  | 0, _, _ => none
  | n+1, v3, M => if x_in (9 : Int32) 159 = true then (if (M.1 10 (9 : Int32).toNatClampNeg) ≤ v3 then f_X7_goes_L105 v1 xF (0 : Int32) M else if x_in ((123 : Int32) + v3) 159 = true then if x_in ((123 : Int32) + v3) 159 = true then (if (M.1 10 ((123 : Int32) + v3).toNatClampNeg) ≤ v1 then if x_in ((123 : Int32) + v3) 159 = true then x_let (sI M 10 ((123 : Int32) + v3).toNatClampNeg ((M.1 10 ((123 : Int32) + v3).toNatClampNeg) - (0 : Int32))) fun M50 => f_X7_goes_L56 v1 n (v3 + 1) M50 else none else if x_in ((123 : Int32) + v3) 159 = true then x_let (sI M 10 ((123 : Int32) + v3).toNatClampNeg ((M.1 10 ((123 : Int32) + v3).toNatClampNeg) - (1 : Int32))) fun M53 => f_X7_goes_L56 v1 n (v3 + 1) M53 else none) else none else none) else none
def f_X7_goes (a1 : Int32) (M : xM) : Option (xM) := (f_X7_personAt a1 M).bind fun q1 => if x_in (q1 + (7 : Int32)) 159 = true then (if (M.1 10 (q1 + (7 : Int32)).toNatClampNeg) = (-1 : Int32) then (f_X7_placeOf a1 M).bind fun q55 => (f_X7_leavesRow q55 M).bind fun q57 => f_X7_goes_L56 a1 xF (0 : Int32) q57 else (f_X7_windowAt (M.1 10 (q1 + (7 : Int32)).toNatClampNeg) M).bind fun q5 => if x_in (q5 + (2 : Int32)) 159 = true then x_let (sI M 10 (q5 + (2 : Int32)).toNatClampNeg (-1 : Int32)) fun M8 => (f_X7_windowAt (M.1 10 (q1 + (7 : Int32)).toNatClampNeg) M8).bind fun q10 => if x_in (q10 + (3 : Int32)) 159 = true then x_let (sI M8 10 (q10 + (3 : Int32)).toNatClampNeg (0 : Int32)) fun M13 => f_X7_goes_L56 a1 xF (0 : Int32) M13 else none else none) else none
set_option maxHeartbeats 4000000 in
set_option maxRecDepth 100000 in
theorem t_X7_goes_L185 {G : xG} {p : Program} {l : Launch} {e : Env} {s : State} {m : MethodId} {args : Array Value} {below : List Frame} {meth : Method} {c : Code} (C : xC G p s m args c cX7_goes 4 wsX7_goes RX7) (hr : meth.sig.returnType = none) (hlk : meth.locks = false) : ∀ (n : Nat) (v3 : Int32) (M : xM) (ta : Nat × Nat) (out : xM), f_X7_goes_L185 n v3 M = some out → xW G p l e (rm_X7_goes 0 0) s m args below meth c 4 (MQ below (xQr G none out) args s 0 0 (xAs G)) 0 0 ta M 185 [(0, .ref (xad G 9)), (3, .int v3)] [] := by
  intro n
  induction n with
  | zero =>
    intro v3 M ta out hf
    rw [f_X7_goes_L185] at hf
    cases hf
  | succ n ih =>
    intro v3 M ta out hf
    rw [f_X7_goes_L185] at hf
    have i9 : ∀ w ∈ wsX70, w ∈ wsX7_goes := by decide +kernel
    refine x_iload_n C 1 dX7_goes_185 rfl ?_
    refine x_bipush (v := 123) C dX7_goes_186 (by decide) ?_
    refine x_icmp_ge C 204 dX7_goes_188 (by decide) (fun hc21 => ?_) (fun hc21 => ?_)
    · have hf := x_ip hc21 hf
      refine x_aload_n C 0 dX7_goes_204 rfl ?_
      refine x_get9 C xkd_9 i9 0 (by decide) (by decide +kernel) rfl rfl dX7_goes_205 ?_
      refine x_iconst (v := 0) C dX7_goes_208 (by decide) ?_
      refine x_dup2 C dX7_goes_209 rfl rfl ?_
      obtain ⟨g22, hf⟩ := x_gd hf
      refine x_iald C xkd_10 xl_10 g22 dX7_goes_210 ?_
      refine x_iconst (v := 1) C dX7_goes_211 (by decide) ?_
      refine x_isub C dX7_goes_212 ?_
      obtain ⟨g23, hf⟩ := x_gd hf
      refine x_iast C xkd_10 xl_10 g23 dX7_goes_213 ?_
      obtain ⟨M24, e25, hf⟩ := x_lt hf
      rw [← e25]
      clear e25
      obtain rfl := Option.some.inj hf
      exact x_vret C hr hlk dX7_goes_214
    · have hf := x_ine hc21 hf
      refine x_aload_n C 0 dX7_goes_191 rfl ?_
      refine x_get9 C xkd_9 i9 0 (by decide) (by decide +kernel) rfl rfl dX7_goes_192 ?_
      refine x_iload_n C 1 dX7_goes_195 rfl ?_
      refine x_iconst (v := 0) C dX7_goes_196 (by decide) ?_
      obtain ⟨g26, hf⟩ := x_gd hf
      refine x_iast C xkd_10 xl_10 g26 dX7_goes_197 ?_
      obtain ⟨M27, e28, hf⟩ := x_lt hf
      rw [← e28]
      clear e28
      refine x_iinc (v := v3 + 1) (lv' := [(3, .int (v3 + 1)), (0, .ref (xad G 9))]) C 1 dX7_goes_198 rfl rfl (by decide) rfl ?_
      refine x_goto C 185 dX7_goes_201 (by decide) ?_
      refine x_sub [1, 0] rfl ?_
      exact ih (v3 + 1) M27 _ _ hf
set_option maxHeartbeats 4000000 in
set_option maxRecDepth 100000 in
theorem t_X7_goes_L155 {G : xG} {p : Program} {l : Launch} {e : Env} {s : State} {m : MethodId} {args : Array Value} {below : List Frame} {meth : Method} {c : Code} (C : xC G p s m args c cX7_goes 4 wsX7_goes RX7) (hr : meth.sig.returnType = none) (hlk : meth.locks = false) : ∀ (n : Nat) (v3 : Int32) (M : xM) (ta : Nat × Nat) (out : xM), f_X7_goes_L155 n v3 M = some out → xW G p l e (rm_X7_goes 0 0) s m args below meth c 4 (MQ below (xQr G none out) args s 0 0 (xAs G)) 0 0 ta M 155 [(0, .ref (xad G 9)), (3, .int v3)] [] := by
  intro n
  induction n with
  | zero =>
    intro v3 M ta out hf
    rw [f_X7_goes_L155] at hf
    cases hf
  | succ n ih =>
    intro v3 M ta out hf
    rw [f_X7_goes_L155] at hf
    have i9 : ∀ w ∈ wsX70, w ∈ wsX7_goes := by decide +kernel
    refine x_iload_n C 1 dX7_goes_155 rfl ?_
    refine x_bipush (v := 115) C dX7_goes_156 (by decide) ?_
    refine x_icmp_ge C 182 dX7_goes_158 (by decide) (fun hc20 => ?_) (fun hc20 => ?_)
    · have hf := x_ip hc20 hf
      refine x_bipush (v := 115) C dX7_goes_182 (by decide) ?_
      refine x_istore_n (lv' := [(3, .int (115 : Int32)), (0, .ref (xad G 9))]) C dX7_goes_184 rfl (by decide) rfl ?_
      refine x_sub [1, 0] rfl ?_
      exact t_X7_goes_L185 C hr hlk xF (115 : Int32) M _ _ hf
    · have hf := x_ine hc20 hf
      refine x_aload_n C 0 dX7_goes_161 rfl ?_
      refine x_get9 C xkd_9 i9 0 (by decide) (by decide +kernel) rfl rfl dX7_goes_162 ?_
      refine x_iload_n C 1 dX7_goes_165 rfl ?_
      refine x_aload_n C 0 dX7_goes_166 rfl ?_
      refine x_get9 C xkd_9 i9 0 (by decide) (by decide +kernel) rfl rfl dX7_goes_167 ?_
      refine x_iload_n C 1 dX7_goes_170 rfl ?_
      refine x_bipush (v := 8) C dX7_goes_171 (by decide) ?_
      refine x_iadd C dX7_goes_173 ?_
      obtain ⟨g29, hf⟩ := x_gd hf
      refine x_iald C xkd_10 xl_10 g29 dX7_goes_174 ?_
      obtain ⟨g30, hf⟩ := x_gd hf
      refine x_iast C xkd_10 xl_10 g30 dX7_goes_175 ?_
      obtain ⟨M31, e32, hf⟩ := x_lt hf
      rw [← e32]
      clear e32
      refine x_iinc (v := v3 + 1) (lv' := [(3, .int (v3 + 1)), (0, .ref (xad G 9))]) C 1 dX7_goes_176 rfl rfl (by decide) rfl ?_
      refine x_goto C 155 dX7_goes_179 (by decide) ?_
      refine x_sub [1, 0] rfl ?_
      exact ih (v3 + 1) M31 _ _ hf
set_option maxHeartbeats 4000000 in
set_option maxRecDepth 100000 in
theorem t_X7_goes_L105 {G : xG} {p : Program} {l : Launch} {e : Env} {s : State} {m : MethodId} {args : Array Value} {below : List Frame} {meth : Method} {c : Code} (C : xC G p s m args c cX7_goes 4 wsX7_goes RX7) (hr : meth.sig.returnType = none) (hlk : meth.locks = false) {v1 : Int32} : ∀ (n : Nat) (v3 : Int32) (M : xM) (ta : Nat × Nat) (out : xM), f_X7_goes_L105 v1 n v3 M = some out → xW G p l e (rm_X7_goes 0 0) s m args below meth c 4 (MQ below (xQr G none out) args s 0 0 (xAs G)) 0 0 ta M 105 [(0, .ref (xad G 9)), (1, .int v1), (3, .int v3)] [] := by
  intro n
  induction n with
  | zero =>
    intro v3 M ta out hf
    rw [f_X7_goes_L105] at hf
    cases hf
  | succ n ih =>
    intro v3 M ta out hf
    rw [f_X7_goes_L105] at hf
    have i9 : ∀ w ∈ wsX70, w ∈ wsX7_goes := by decide +kernel
    refine x_iload_n C 2 dX7_goes_105 rfl ?_
    refine x_iconst (v := 3) C dX7_goes_106 (by decide) ?_
    refine x_icmp_ge C 150 dX7_goes_107 (by decide) (fun hc17 => ?_) (fun hc17 => ?_)
    · have hf := x_ip hc17 hf
      refine x_iload_n C 1 dX7_goes_150 rfl ?_
      obtain ⟨q18, hg, hf⟩ := x_bd hf
      refine x_callSr C (t_X7_personAt hg) (va_cwS 1 C.1.2.2.2.2 gX7_goes_X7_personAt rfl rfl rfl (by decide +kernel) ⟨Nat.le_of_ble_eq_true rfl, Nat.le_of_ble_eq_true rfl⟩) rfl rfl (Nat.le_of_ble_eq_true rfl) dX7_goes_151 ⟨Nat.zero_le _, Nat.zero_le _⟩ (fun ta19 => ?_)
      clear hg
      refine x_istore_n (lv' := [(3, .int q18), (0, .ref (xad G 9)), (1, .int v1)]) C dX7_goes_154 rfl (by decide) rfl ?_
      refine x_sub [1, 0] rfl ?_
      exact t_X7_goes_L155 C hr hlk xF q18 M _ _ hf
    · have hf := x_ine hc17 hf
      refine x_aload_n C 0 dX7_goes_110 rfl ?_
      refine x_get9 C xkd_9 i9 0 (by decide) (by decide +kernel) rfl rfl dX7_goes_111 ?_
      refine x_iload_n C 2 dX7_goes_114 rfl ?_
      obtain ⟨q33, hg, hf⟩ := x_bd hf
      refine x_callSr C (t_X7_windowAt hg) (va_cwS 1 C.1.2.2.2.2 gX7_goes_X7_windowAt rfl rfl rfl (by decide +kernel) ⟨Nat.le_of_ble_eq_true rfl, Nat.le_of_ble_eq_true rfl⟩) rfl rfl (Nat.le_of_ble_eq_true rfl) dX7_goes_115 ⟨Nat.zero_le _, Nat.zero_le _⟩ (fun ta34 => ?_)
      clear hg
      refine x_iconst (v := 2) C dX7_goes_118 (by decide) ?_
      refine x_iadd C dX7_goes_119 ?_
      refine x_dup2 C dX7_goes_120 rfl rfl ?_
      obtain ⟨g35, hf⟩ := x_gd hf
      refine x_iald C xkd_10 xl_10 g35 dX7_goes_121 ?_
      refine x_aload_n C 0 dX7_goes_122 rfl ?_
      refine x_get9 C xkd_9 i9 0 (by decide) (by decide +kernel) rfl rfl dX7_goes_123 ?_
      refine x_iload_n C 2 dX7_goes_126 rfl ?_
      obtain ⟨q36, hg, hf⟩ := x_bd hf
      refine x_callSr C (t_X7_windowAt hg) (va_cwS 1 C.1.2.2.2.2 gX7_goes_X7_windowAt rfl rfl rfl (by decide +kernel) ⟨Nat.le_of_ble_eq_true rfl, Nat.le_of_ble_eq_true rfl⟩) rfl rfl (Nat.le_of_ble_eq_true rfl) dX7_goes_127 ⟨Nat.zero_le _, Nat.zero_le _⟩ (fun ta37 => ?_)
      clear hg
      refine x_iconst (v := 2) C dX7_goes_130 (by decide) ?_
      refine x_iadd C dX7_goes_131 ?_
      obtain ⟨g38, hf⟩ := x_gd hf
      refine x_iald C xkd_10 xl_10 g38 dX7_goes_132 ?_
      refine x_iload_n C 1 dX7_goes_133 rfl ?_
      refine x_icmp_le C 141 dX7_goes_134 (by decide) (fun hc39 => ?_) (fun hc39 => ?_)
      · have hf := x_ip hc39 hf
        refine x_iconst (v := 0) C dX7_goes_141 (by decide) ?_
        refine x_isub C dX7_goes_142 ?_
        obtain ⟨g40, hf⟩ := x_gd hf
        refine x_iast C xkd_10 xl_10 g40 dX7_goes_143 ?_
        obtain ⟨M41, e42, hf⟩ := x_lt hf
        rw [← e42]
        clear e42
        refine x_iinc (v := v3 + 1) (lv' := [(3, .int (v3 + 1)), (0, .ref (xad G 9)), (1, .int v1)]) C 2 dX7_goes_144 rfl rfl (by decide) rfl ?_
        refine x_goto C 105 dX7_goes_147 (by decide) ?_
        refine x_sub [1, 2, 0] rfl ?_
        exact ih (v3 + 1) M41 _ _ hf
      · have hf := x_ine hc39 hf
        refine x_iconst (v := 1) C dX7_goes_137 (by decide) ?_
        refine x_goto C 142 dX7_goes_138 (by decide) ?_
        refine x_isub C dX7_goes_142 ?_
        obtain ⟨g43, hf⟩ := x_gd hf
        refine x_iast C xkd_10 xl_10 g43 dX7_goes_143 ?_
        obtain ⟨M44, e45, hf⟩ := x_lt hf
        rw [← e45]
        clear e45
        refine x_iinc (v := v3 + 1) (lv' := [(3, .int (v3 + 1)), (0, .ref (xad G 9)), (1, .int v1)]) C 2 dX7_goes_144 rfl rfl (by decide) rfl ?_
        refine x_goto C 105 dX7_goes_147 (by decide) ?_
        refine x_sub [1, 2, 0] rfl ?_
        exact ih (v3 + 1) M44 _ _ hf
set_option maxHeartbeats 4000000 in
set_option maxRecDepth 100000 in
theorem t_X7_goes_L56 {G : xG} {p : Program} {l : Launch} {e : Env} {s : State} {m : MethodId} {args : Array Value} {below : List Frame} {meth : Method} {c : Code} (C : xC G p s m args c cX7_goes 4 wsX7_goes RX7) (hr : meth.sig.returnType = none) (hlk : meth.locks = false) {v1 : Int32} : ∀ (n : Nat) (v3 : Int32) (M : xM) (ta : Nat × Nat) (out : xM), f_X7_goes_L56 v1 n v3 M = some out → xW G p l e (rm_X7_goes 0 0) s m args below meth c 4 (MQ below (xQr G none out) args s 0 0 (xAs G)) 0 0 ta M 56 [(0, .ref (xad G 9)), (1, .int v1), (3, .int v3)] [] := by
  intro n
  induction n with
  | zero =>
    intro v3 M ta out hf
    rw [f_X7_goes_L56] at hf
    cases hf
  | succ n ih =>
    intro v3 M ta out hf
    rw [f_X7_goes_L56] at hf
    have i9 : ∀ w ∈ wsX70, w ∈ wsX7_goes := by decide +kernel
    refine x_iload_n C 2 dX7_goes_56 rfl ?_
    refine x_aload_n C 0 dX7_goes_57 rfl ?_
    refine x_get9 C xkd_9 i9 0 (by decide) (by decide +kernel) rfl rfl dX7_goes_58 ?_
    refine x_bipush (v := 9) C dX7_goes_61 (by decide) ?_
    obtain ⟨g15, hf⟩ := x_gd hf
    refine x_iald C xkd_10 xl_10 g15 dX7_goes_63 ?_
    refine x_icmp_ge C 103 dX7_goes_64 (by decide) (fun hc16 => ?_) (fun hc16 => ?_)
    · have hf := x_ip hc16 hf
      refine x_iconst (v := 0) C dX7_goes_103 (by decide) ?_
      refine x_istore_n (lv' := [(3, .int (0 : Int32)), (0, .ref (xad G 9)), (1, .int v1)]) C dX7_goes_104 rfl (by decide) rfl ?_
      refine x_sub [1, 2, 0] rfl ?_
      exact t_X7_goes_L105 C hr hlk xF (0 : Int32) M _ _ hf
    · have hf := x_ine hc16 hf
      refine x_aload_n C 0 dX7_goes_67 rfl ?_
      refine x_get9 C xkd_9 i9 0 (by decide) (by decide +kernel) rfl rfl dX7_goes_68 ?_
      refine x_bipush (v := 123) C dX7_goes_71 (by decide) ?_
      refine x_iload_n C 2 dX7_goes_73 rfl ?_
      refine x_iadd C dX7_goes_74 ?_
      refine x_dup2 C dX7_goes_75 rfl rfl ?_
      obtain ⟨g46, hf⟩ := x_gd hf
      refine x_iald C xkd_10 xl_10 g46 dX7_goes_76 ?_
      refine x_aload_n C 0 dX7_goes_77 rfl ?_
      refine x_get9 C xkd_9 i9 0 (by decide) (by decide +kernel) rfl rfl dX7_goes_78 ?_
      refine x_bipush (v := 123) C dX7_goes_81 (by decide) ?_
      refine x_iload_n C 2 dX7_goes_83 rfl ?_
      refine x_iadd C dX7_goes_84 ?_
      obtain ⟨g47, hf⟩ := x_gd hf
      refine x_iald C xkd_10 xl_10 g47 dX7_goes_85 ?_
      refine x_iload_n C 1 dX7_goes_86 rfl ?_
      refine x_icmp_le C 94 dX7_goes_87 (by decide) (fun hc48 => ?_) (fun hc48 => ?_)
      · have hf := x_ip hc48 hf
        refine x_iconst (v := 0) C dX7_goes_94 (by decide) ?_
        refine x_isub C dX7_goes_95 ?_
        obtain ⟨g49, hf⟩ := x_gd hf
        refine x_iast C xkd_10 xl_10 g49 dX7_goes_96 ?_
        obtain ⟨M50, e51, hf⟩ := x_lt hf
        rw [← e51]
        clear e51
        refine x_iinc (v := v3 + 1) (lv' := [(3, .int (v3 + 1)), (0, .ref (xad G 9)), (1, .int v1)]) C 2 dX7_goes_97 rfl rfl (by decide) rfl ?_
        refine x_goto C 56 dX7_goes_100 (by decide) ?_
        refine x_sub [1, 2, 0] rfl ?_
        exact ih (v3 + 1) M50 _ _ hf
      · have hf := x_ine hc48 hf
        refine x_iconst (v := 1) C dX7_goes_90 (by decide) ?_
        refine x_goto C 95 dX7_goes_91 (by decide) ?_
        refine x_isub C dX7_goes_95 ?_
        obtain ⟨g52, hf⟩ := x_gd hf
        refine x_iast C xkd_10 xl_10 g52 dX7_goes_96 ?_
        obtain ⟨M53, e54, hf⟩ := x_lt hf
        rw [← e54]
        clear e54
        refine x_iinc (v := v3 + 1) (lv' := [(3, .int (v3 + 1)), (0, .ref (xad G 9)), (1, .int v1)]) C 2 dX7_goes_97 rfl rfl (by decide) rfl ?_
        refine x_goto C 56 dX7_goes_100 (by decide) ?_
        refine x_sub [1, 2, 0] rfl ?_
        exact ih (v3 + 1) M53 _ _ hf
set_option maxHeartbeats 4000000 in
set_option maxRecDepth 100000 in
theorem t_X7_goes {l : Launch} {G : xG} {ta : Nat × Nat} {M : xM} {a1 : Int32} {out : xM} (hf : f_X7_goes a1 M = some out) : xMet G l yX7_goes wsX7_goes (rm_X7_goes 0 0) 0 0 ta M [.ref (xad G 9), .int a1] none out := by
  refine x_met (cc := cX7_goes) (nL := 4) (ret := none) (by decide) rfl (Nat.le_of_ble_eq_true rfl) ?_
  intro p e s m args below meth c C hr hlk
  have C : xC G p s m args c cX7_goes 4 wsX7_goes RX7 := C
  have i9 : ∀ w ∈ wsX70, w ∈ wsX7_goes := by decide +kernel
  unfold f_X7_goes at hf
  show xW G p l e (rm_X7_goes 0 0) s m args below meth c 4 (MQ below (xQr G none out) args s 0 0 (xAs G)) 0 0 ta M 0 [(0, .ref (xad G 9)), (1, .int a1)] []
  refine x_aload_n C 0 dX7_goes_0 rfl ?_
  refine x_get9 C xkd_9 i9 0 (by decide) (by decide +kernel) rfl rfl dX7_goes_1 ?_
  refine x_iload_n C 1 dX7_goes_4 rfl ?_
  obtain ⟨q1, hg, hf⟩ := x_bd hf
  refine x_callSr C (t_X7_personAt hg) (va_cwS 1 C.1.2.2.2.2 gX7_goes_X7_personAt rfl rfl rfl (by decide +kernel) ⟨Nat.le_of_ble_eq_true rfl, Nat.le_of_ble_eq_true rfl⟩) rfl rfl (Nat.le_of_ble_eq_true rfl) dX7_goes_5 ⟨Nat.zero_le _, Nat.zero_le _⟩ (fun ta2 => ?_)
  clear hg
  refine x_bipush (v := 7) C dX7_goes_8 (by decide) ?_
  refine x_iadd C dX7_goes_10 ?_
  obtain ⟨g3, hf⟩ := x_gd hf
  refine x_iald C xkd_10 xl_10 g3 dX7_goes_11 ?_
  refine x_istore_n (lv' := [(2, .int (M.1 10 (q1 + (7 : Int32)).toNatClampNeg)), (0, .ref (xad G 9)), (1, .int a1)]) C dX7_goes_12 rfl (by decide) rfl ?_
  refine x_iload_n C 0 dX7_goes_13 rfl ?_
  refine x_iconst (v := (-1)) C dX7_goes_14 (by decide) ?_
  refine x_icmp_ne C 30 dX7_goes_15 (by decide) (fun hc4 => ?_) (fun hc4 => ?_)
  · have hf := x_ine hc4 hf
    refine x_aload_n C 1 dX7_goes_30 rfl ?_
    refine x_get9 C xkd_9 i9 0 (by decide) (by decide +kernel) rfl rfl dX7_goes_31 ?_
    refine x_iload_n C 0 dX7_goes_34 rfl ?_
    obtain ⟨q5, hg, hf⟩ := x_bd hf
    refine x_callSr C (t_X7_windowAt hg) (va_cwS 1 C.1.2.2.2.2 gX7_goes_X7_windowAt rfl rfl rfl (by decide +kernel) ⟨Nat.le_of_ble_eq_true rfl, Nat.le_of_ble_eq_true rfl⟩) rfl rfl (Nat.le_of_ble_eq_true rfl) dX7_goes_35 ⟨Nat.zero_le _, Nat.zero_le _⟩ (fun ta6 => ?_)
    clear hg
    refine x_iconst (v := 2) C dX7_goes_38 (by decide) ?_
    refine x_iadd C dX7_goes_39 ?_
    refine x_iconst (v := (-1)) C dX7_goes_40 (by decide) ?_
    obtain ⟨g7, hf⟩ := x_gd hf
    refine x_iast C xkd_10 xl_10 g7 dX7_goes_41 ?_
    obtain ⟨M8, e9, hf⟩ := x_lt hf
    rw [← e9]
    clear e9
    refine x_aload_n C 1 dX7_goes_42 rfl ?_
    refine x_get9 C xkd_9 i9 0 (by decide) (by decide +kernel) rfl rfl dX7_goes_43 ?_
    refine x_iload_n C 0 dX7_goes_46 rfl ?_
    obtain ⟨q10, hg, hf⟩ := x_bd hf
    refine x_callSr C (t_X7_windowAt hg) (va_cwS 1 C.1.2.2.2.2 gX7_goes_X7_windowAt rfl rfl rfl (by decide +kernel) ⟨Nat.le_of_ble_eq_true rfl, Nat.le_of_ble_eq_true rfl⟩) rfl rfl (Nat.le_of_ble_eq_true rfl) dX7_goes_47 ⟨Nat.zero_le _, Nat.zero_le _⟩ (fun ta11 => ?_)
    clear hg
    refine x_iconst (v := 3) C dX7_goes_50 (by decide) ?_
    refine x_iadd C dX7_goes_51 ?_
    refine x_iconst (v := 0) C dX7_goes_52 (by decide) ?_
    obtain ⟨g12, hf⟩ := x_gd hf
    refine x_iast C xkd_10 xl_10 g12 dX7_goes_53 ?_
    obtain ⟨M13, e14, hf⟩ := x_lt hf
    rw [← e14]
    clear e14
    refine x_iconst (v := 0) C dX7_goes_54 (by decide) ?_
    refine x_istore_n (lv' := [(3, .int (0 : Int32)), (2, .int (M.1 10 (q1 + (7 : Int32)).toNatClampNeg)), (0, .ref (xad G 9)), (1, .int a1)]) C dX7_goes_55 rfl (by decide) rfl ?_
    refine x_sub [2, 3, 0] rfl ?_
    exact t_X7_goes_L56 C hr hlk xF (0 : Int32) M13 _ _ hf
  · have hf := x_ip hc4 hf
    refine x_aload_n C 1 dX7_goes_18 rfl ?_
    refine x_aload_n C 1 dX7_goes_19 rfl ?_
    refine x_iload_n C 2 dX7_goes_20 rfl ?_
    obtain ⟨q55, hg, hf⟩ := x_bd hf
    refine x_callVr C (by rw [xkd_9]; decide) (by rw [xkd_9]; decide) (xc9 xkd_9) rfl (t_X7_placeOf hg) (cwV 1 C.1.2.2.2.2 gX7_goes_X7_placeOf rfl rfl rfl (by decide +kernel) ⟨Nat.le_of_ble_eq_true rfl, Nat.le_of_ble_eq_true rfl⟩) rfl rfl (Nat.le_of_ble_eq_true rfl) dX7_goes_21 ⟨Nat.zero_le _, Nat.zero_le _⟩ (fun ta56 => ?_)
    clear hg
    obtain ⟨q57, hg, hf⟩ := x_bd hf
    refine x_callVv C (by rw [xkd_9]; decide) (by rw [xkd_9]; decide) (xc9 xkd_9) rfl (t_X7_leavesRow hg) (cwV 1 C.1.2.2.2.2 gX7_goes_X7_leavesRow rfl rfl rfl (by decide +kernel) ⟨Nat.le_of_ble_eq_true rfl, Nat.le_of_ble_eq_true rfl⟩) rfl rfl (Nat.le_of_ble_eq_true rfl) dX7_goes_24 ⟨Nat.zero_le _, Nat.zero_le _⟩ (fun ta58 => ?_)
    clear hg
    refine x_goto C 54 dX7_goes_27 (by decide) ?_
    refine x_iconst (v := 0) C dX7_goes_54 (by decide) ?_
    refine x_istore_n (lv' := [(3, .int (0 : Int32)), (2, .int (M.1 10 (q1 + (7 : Int32)).toNatClampNeg)), (0, .ref (xad G 9)), (1, .int a1)]) C dX7_goes_55 rfl (by decide) rfl ?_
    refine x_sub [2, 3, 0] rfl ?_
    exact t_X7_goes_L56 C hr hlk xF (0 : Int32) q57 _ _ hf
/-! WaitingRoomSimulationModel.closes(I)V -/
abbrev rm_X7_closes (c s : Nat) : Room := { frames := 2, cells := c, slots := s, locals := 42 }
def f_X7_closes (a1 : Int32) (M : xM) : Option (xM) := (f_X7_windowAt a1 M).bind fun q1 => if x_in (q1 + (2 : Int32)) 159 = true then if x_in q1 159 = true then x_let (sI M 10 q1.toNatClampNeg (0 : Int32)) fun M5 => if x_in (q1 + (1 : Int32)) 159 = true then x_let (sI M5 10 (q1 + (1 : Int32)).toNatClampNeg (0 : Int32)) fun M8 => if x_in (q1 + (2 : Int32)) 159 = true then x_let (sI M8 10 (q1 + (2 : Int32)).toNatClampNeg (-1 : Int32)) fun M11 => if x_in (q1 + (3 : Int32)) 159 = true then x_let (sI M11 10 (q1 + (3 : Int32)).toNatClampNeg (0 : Int32)) fun M14 => (if (M.1 10 (q1 + (2 : Int32)).toNatClampNeg) = (-1 : Int32) then some M14 else (f_X7_goesBack (M.1 10 (q1 + (2 : Int32)).toNatClampNeg) M14).bind fun q17 => some q17) else none else none else none else none else none
set_option maxHeartbeats 4000000 in
set_option maxRecDepth 100000 in
theorem t_X7_closes {l : Launch} {G : xG} {ta : Nat × Nat} {M : xM} {a1 : Int32} {out : xM} (hf : f_X7_closes a1 M = some out) : xMet G l yX7_closes wsX7_closes (rm_X7_closes 0 0) 0 0 ta M [.ref (xad G 9), .int a1] none out := by
  refine x_met (cc := cX7_closes) (nL := 4) (ret := none) (by decide) rfl (Nat.le_of_ble_eq_true rfl) ?_
  intro p e s m args below meth c C hr hlk
  have C : xC G p s m args c cX7_closes 4 wsX7_closes RX7 := C
  have i9 : ∀ w ∈ wsX70, w ∈ wsX7_closes := by decide +kernel
  unfold f_X7_closes at hf
  show xW G p l e (rm_X7_closes 0 0) s m args below meth c 4 (MQ below (xQr G none out) args s 0 0 (xAs G)) 0 0 ta M 0 [(0, .ref (xad G 9)), (1, .int a1)] []
  refine x_iload_n C 1 dX7_closes_0 rfl ?_
  obtain ⟨q1, hg, hf⟩ := x_bd hf
  refine x_callSr C (t_X7_windowAt hg) (va_cwS 1 C.1.2.2.2.2 gX7_closes_X7_windowAt rfl rfl rfl (by decide +kernel) ⟨Nat.le_of_ble_eq_true rfl, Nat.le_of_ble_eq_true rfl⟩) rfl rfl (Nat.le_of_ble_eq_true rfl) dX7_closes_1 ⟨Nat.zero_le _, Nat.zero_le _⟩ (fun ta2 => ?_)
  clear hg
  refine x_istore_n (lv' := [(2, .int q1), (0, .ref (xad G 9)), (1, .int a1)]) C dX7_closes_4 rfl (by decide) rfl ?_
  refine x_aload_n C 1 dX7_closes_5 rfl ?_
  refine x_get9 C xkd_9 i9 0 (by decide) (by decide +kernel) rfl rfl dX7_closes_6 ?_
  refine x_iload_n C 0 dX7_closes_9 rfl ?_
  refine x_iconst (v := 2) C dX7_closes_10 (by decide) ?_
  refine x_iadd C dX7_closes_11 ?_
  obtain ⟨g3, hf⟩ := x_gd hf
  refine x_iald C xkd_10 xl_10 g3 dX7_closes_12 ?_
  refine x_istore_n (lv' := [(3, .int (M.1 10 (q1 + (2 : Int32)).toNatClampNeg)), (2, .int q1), (0, .ref (xad G 9)), (1, .int a1)]) C dX7_closes_13 rfl (by decide) rfl ?_
  refine x_aload_n C 2 dX7_closes_14 rfl ?_
  refine x_get9 C xkd_9 i9 0 (by decide) (by decide +kernel) rfl rfl dX7_closes_15 ?_
  refine x_iload_n C 1 dX7_closes_18 rfl ?_
  refine x_iconst (v := 0) C dX7_closes_19 (by decide) ?_
  obtain ⟨g4, hf⟩ := x_gd hf
  refine x_iast C xkd_10 xl_10 g4 dX7_closes_20 ?_
  obtain ⟨M5, e6, hf⟩ := x_lt hf
  rw [← e6]
  clear e6
  refine x_aload_n C 2 dX7_closes_21 rfl ?_
  refine x_get9 C xkd_9 i9 0 (by decide) (by decide +kernel) rfl rfl dX7_closes_22 ?_
  refine x_iload_n C 1 dX7_closes_25 rfl ?_
  refine x_iconst (v := 1) C dX7_closes_26 (by decide) ?_
  refine x_iadd C dX7_closes_27 ?_
  refine x_iconst (v := 0) C dX7_closes_28 (by decide) ?_
  obtain ⟨g7, hf⟩ := x_gd hf
  refine x_iast C xkd_10 xl_10 g7 dX7_closes_29 ?_
  obtain ⟨M8, e9, hf⟩ := x_lt hf
  rw [← e9]
  clear e9
  refine x_aload_n C 2 dX7_closes_30 rfl ?_
  refine x_get9 C xkd_9 i9 0 (by decide) (by decide +kernel) rfl rfl dX7_closes_31 ?_
  refine x_iload_n C 1 dX7_closes_34 rfl ?_
  refine x_iconst (v := 2) C dX7_closes_35 (by decide) ?_
  refine x_iadd C dX7_closes_36 ?_
  refine x_iconst (v := (-1)) C dX7_closes_37 (by decide) ?_
  obtain ⟨g10, hf⟩ := x_gd hf
  refine x_iast C xkd_10 xl_10 g10 dX7_closes_38 ?_
  obtain ⟨M11, e12, hf⟩ := x_lt hf
  rw [← e12]
  clear e12
  refine x_aload_n C 2 dX7_closes_39 rfl ?_
  refine x_get9 C xkd_9 i9 0 (by decide) (by decide +kernel) rfl rfl dX7_closes_40 ?_
  refine x_iload_n C 1 dX7_closes_43 rfl ?_
  refine x_iconst (v := 3) C dX7_closes_44 (by decide) ?_
  refine x_iadd C dX7_closes_45 ?_
  refine x_iconst (v := 0) C dX7_closes_46 (by decide) ?_
  obtain ⟨g13, hf⟩ := x_gd hf
  refine x_iast C xkd_10 xl_10 g13 dX7_closes_47 ?_
  obtain ⟨M14, e15, hf⟩ := x_lt hf
  rw [← e15]
  clear e15
  refine x_iload_n C 0 dX7_closes_48 rfl ?_
  refine x_iconst (v := (-1)) C dX7_closes_49 (by decide) ?_
  refine x_icmp_eq C 58 dX7_closes_50 (by decide) (fun hc16 => ?_) (fun hc16 => ?_)
  · have hf := x_ip hc16 hf
    obtain rfl := Option.some.inj hf
    exact x_vret C hr hlk dX7_closes_58
  · have hf := x_ine hc16 hf
    refine x_aload_n C 2 dX7_closes_53 rfl ?_
    refine x_iload_n C 0 dX7_closes_54 rfl ?_
    obtain ⟨q17, hg, hf⟩ := x_bd hf
    refine x_callVv C (by rw [xkd_9]; decide) (by rw [xkd_9]; decide) (xc9 xkd_9) rfl (t_X7_goesBack hg) (cwV 1 C.1.2.2.2.2 gX7_closes_X7_goesBack rfl rfl rfl (by decide +kernel) ⟨Nat.le_of_ble_eq_true rfl, Nat.le_of_ble_eq_true rfl⟩) rfl rfl (Nat.le_of_ble_eq_true rfl) dX7_closes_55 ⟨Nat.zero_le _, Nat.zero_le _⟩ (fun ta18 => ?_)
    clear hg
    obtain rfl := Option.some.inj hf
    exact x_vret C hr hlk dX7_closes_58
/-! WaitingRoomSimulationModel.addIt(I)I -/
abbrev rm_X7_addIt (c s : Nat) : Room := { frames := 1, cells := c, slots := s, locals := 25 }
def f_X7_addIt (a1 : Int32) (M : xM) : Option (Int32 × xM) := (f_X7_in a1.toInt64 (1 : Int64) (30 : Int64) M).bind fun q1 => (if q1 = 0 then (f_X7_throwing (1 : Int32) M).bind fun q39 => some (q39.1, q39.2) else if x_in (0 : Int32) 159 = true then (if (M.1 10 (0 : Int32).toNatClampNeg) = (12 : Int32) then (f_X7_throwing (2 : Int32) M).bind fun q37 => some (q37.1, q37.2) else if x_in (2 : Int32) 159 = true then if x_in (2 : Int32) 159 = true then x_let (sI M 10 (2 : Int32).toNatClampNeg ((M.1 10 (2 : Int32).toNatClampNeg) + (1 : Int32))) fun M8 => if x_in (0 : Int32) 159 = true then (f_X7_personAt (M8.1 10 (0 : Int32).toNatClampNeg) M8).bind fun q11 => if x_in (2 : Int32) 159 = true then if x_in q11 159 = true then x_let (sI M8 10 q11.toNatClampNeg (M8.1 10 (2 : Int32).toNatClampNeg)) fun M15 => if x_in (q11 + (1 : Int32)) 159 = true then x_let (sI M15 10 (q11 + (1 : Int32)).toNatClampNeg a1) fun M18 => if x_in (q11 + (7 : Int32)) 159 = true then x_let (sI M18 10 (q11 + (7 : Int32)).toNatClampNeg (-1 : Int32)) fun M21 => if x_in (9 : Int32) 159 = true then if x_in (0 : Int32) 159 = true then if x_in ((123 : Int32) + (M21.1 10 (9 : Int32).toNatClampNeg)) 159 = true then x_let (sI M21 10 ((123 : Int32) + (M21.1 10 (9 : Int32).toNatClampNeg)).toNatClampNeg (M21.1 10 (0 : Int32).toNatClampNeg)) fun M26 => if x_in (9 : Int32) 159 = true then if x_in (9 : Int32) 159 = true then x_let (sI M26 10 (9 : Int32).toNatClampNeg ((M26.1 10 (9 : Int32).toNatClampNeg) + (1 : Int32))) fun M30 => if x_in (0 : Int32) 159 = true then if x_in (0 : Int32) 159 = true then x_let (sI M30 10 (0 : Int32).toNatClampNeg ((M30.1 10 (0 : Int32).toNatClampNeg) + (1 : Int32))) fun M34 => if x_in (0 : Int32) 159 = true then some ((M34.1 10 (0 : Int32).toNatClampNeg) - (1 : Int32), M34) else none else none else none else none else none else none else none else none else none else none else none else none else none else none else none) else none)
set_option maxHeartbeats 4000000 in
set_option maxRecDepth 100000 in
theorem t_X7_addIt {l : Launch} {G : xG} {ta : Nat × Nat} {M : xM} {a1 : Int32} {out : Int32 × xM} (hf : f_X7_addIt a1 M = some out) : xMet G l yX7_addIt wsX7_addIt (rm_X7_addIt 0 0) 0 0 ta M [.ref (xad G 9), .int a1] (some (.int out.1)) out.2 := by
  refine x_met (cc := cX7_addIt) (nL := 3) (ret := some .int) (by decide) rfl (Nat.le_of_ble_eq_true rfl) ?_
  intro p e s m args below meth c C hr hlk
  have C : xC G p s m args c cX7_addIt 3 wsX7_addIt RX7 := C
  have i9 : ∀ w ∈ wsX70, w ∈ wsX7_addIt := by decide +kernel
  unfold f_X7_addIt at hf
  show xW G p l e (rm_X7_addIt 0 0) s m args below meth c 3 (MQ below (xQr G (some (.int out.1)) out.2) args s 0 0 (xAs G)) 0 0 ta M 0 [(0, .ref (xad G 9)), (1, .int a1)] []
  refine x_iload_n C 1 dX7_addIt_0 rfl ?_
  refine x_i2l (v := a1.toInt64) C dX7_addIt_1 rfl ?_
  refine x_lconst (v := 1) C dX7_addIt_2 (by decide) ?_
  refine x_ldc2 (v := 30) C (by decide +kernel) dX7_addIt_3 ?_
  obtain ⟨q1, hg, hf⟩ := x_bd hf
  refine x_callSr C (t_X7_in hg) (va_cwS 3 C.1.2.2.2.2 gX7_addIt_X7_in rfl rfl rfl (by decide +kernel) ⟨Nat.le_of_ble_eq_true rfl, Nat.le_of_ble_eq_true rfl⟩) rfl rfl (Nat.le_of_ble_eq_true rfl) dX7_addIt_6 ⟨Nat.zero_le _, Nat.zero_le _⟩ (fun ta2 => ?_)
  clear hg
  refine x_if_ne C 18 dX7_addIt_9 (by decide) (fun hc3 => ?_) (fun hc3 => ?_)
  · have hf := x_ine hc3 hf
    refine x_aload_n C 0 dX7_addIt_18 rfl ?_
    refine x_get9 C xkd_9 i9 0 (by decide) (by decide +kernel) rfl rfl dX7_addIt_19 ?_
    refine x_iconst (v := 0) C dX7_addIt_22 (by decide) ?_
    obtain ⟨g4, hf⟩ := x_gd hf
    refine x_iald C xkd_10 xl_10 g4 dX7_addIt_23 ?_
    refine x_bipush (v := 12) C dX7_addIt_24 (by decide) ?_
    refine x_icmp_ne C 35 dX7_addIt_26 (by decide) (fun hc5 => ?_) (fun hc5 => ?_)
    · have hf := x_ine hc5 hf
      refine x_aload_n C 0 dX7_addIt_35 rfl ?_
      refine x_get9 C xkd_9 i9 0 (by decide) (by decide +kernel) rfl rfl dX7_addIt_36 ?_
      refine x_iconst (v := 2) C dX7_addIt_39 (by decide) ?_
      refine x_dup2 C dX7_addIt_40 rfl rfl ?_
      obtain ⟨g6, hf⟩ := x_gd hf
      refine x_iald C xkd_10 xl_10 g6 dX7_addIt_41 ?_
      refine x_iconst (v := 1) C dX7_addIt_42 (by decide) ?_
      refine x_iadd C dX7_addIt_43 ?_
      obtain ⟨g7, hf⟩ := x_gd hf
      refine x_iast C xkd_10 xl_10 g7 dX7_addIt_44 ?_
      obtain ⟨M8, e9, hf⟩ := x_lt hf
      rw [← e9]
      clear e9
      refine x_aload_n C 0 dX7_addIt_45 rfl ?_
      refine x_get9 C xkd_9 i9 0 (by decide) (by decide +kernel) rfl rfl dX7_addIt_46 ?_
      refine x_iconst (v := 0) C dX7_addIt_49 (by decide) ?_
      obtain ⟨g10, hf⟩ := x_gd hf
      refine x_iald C xkd_10 xl_10 g10 dX7_addIt_50 ?_
      obtain ⟨q11, hg, hf⟩ := x_bd hf
      refine x_callSr C (t_X7_personAt hg) (va_cwS 1 C.1.2.2.2.2 gX7_addIt_X7_personAt rfl rfl rfl (by decide +kernel) ⟨Nat.le_of_ble_eq_true rfl, Nat.le_of_ble_eq_true rfl⟩) rfl rfl (Nat.le_of_ble_eq_true rfl) dX7_addIt_51 ⟨Nat.zero_le _, Nat.zero_le _⟩ (fun ta12 => ?_)
      clear hg
      refine x_istore_n (lv' := [(2, .int q11), (0, .ref (xad G 9)), (1, .int a1)]) C dX7_addIt_54 rfl (by decide) rfl ?_
      refine x_aload_n C 1 dX7_addIt_55 rfl ?_
      refine x_get9 C xkd_9 i9 0 (by decide) (by decide +kernel) rfl rfl dX7_addIt_56 ?_
      refine x_iload_n C 0 dX7_addIt_59 rfl ?_
      refine x_aload_n C 1 dX7_addIt_60 rfl ?_
      refine x_get9 C xkd_9 i9 0 (by decide) (by decide +kernel) rfl rfl dX7_addIt_61 ?_
      refine x_iconst (v := 2) C dX7_addIt_64 (by decide) ?_
      obtain ⟨g13, hf⟩ := x_gd hf
      refine x_iald C xkd_10 xl_10 g13 dX7_addIt_65 ?_
      obtain ⟨g14, hf⟩ := x_gd hf
      refine x_iast C xkd_10 xl_10 g14 dX7_addIt_66 ?_
      obtain ⟨M15, e16, hf⟩ := x_lt hf
      rw [← e16]
      clear e16
      refine x_aload_n C 1 dX7_addIt_67 rfl ?_
      refine x_get9 C xkd_9 i9 0 (by decide) (by decide +kernel) rfl rfl dX7_addIt_68 ?_
      refine x_iload_n C 0 dX7_addIt_71 rfl ?_
      refine x_iconst (v := 1) C dX7_addIt_72 (by decide) ?_
      refine x_iadd C dX7_addIt_73 ?_
      refine x_iload_n C 2 dX7_addIt_74 rfl ?_
      obtain ⟨g17, hf⟩ := x_gd hf
      refine x_iast C xkd_10 xl_10 g17 dX7_addIt_75 ?_
      obtain ⟨M18, e19, hf⟩ := x_lt hf
      rw [← e19]
      clear e19
      refine x_aload_n C 1 dX7_addIt_76 rfl ?_
      refine x_get9 C xkd_9 i9 0 (by decide) (by decide +kernel) rfl rfl dX7_addIt_77 ?_
      refine x_iload_n C 0 dX7_addIt_80 rfl ?_
      refine x_bipush (v := 7) C dX7_addIt_81 (by decide) ?_
      refine x_iadd C dX7_addIt_83 ?_
      refine x_iconst (v := (-1)) C dX7_addIt_84 (by decide) ?_
      obtain ⟨g20, hf⟩ := x_gd hf
      refine x_iast C xkd_10 xl_10 g20 dX7_addIt_85 ?_
      obtain ⟨M21, e22, hf⟩ := x_lt hf
      rw [← e22]
      clear e22
      refine x_aload_n C 1 dX7_addIt_86 rfl ?_
      refine x_get9 C xkd_9 i9 0 (by decide) (by decide +kernel) rfl rfl dX7_addIt_87 ?_
      refine x_bipush (v := 123) C dX7_addIt_90 (by decide) ?_
      refine x_aload_n C 1 dX7_addIt_92 rfl ?_
      refine x_get9 C xkd_9 i9 0 (by decide) (by decide +kernel) rfl rfl dX7_addIt_93 ?_
      refine x_bipush (v := 9) C dX7_addIt_96 (by decide) ?_
      obtain ⟨g23, hf⟩ := x_gd hf
      refine x_iald C xkd_10 xl_10 g23 dX7_addIt_98 ?_
      refine x_iadd C dX7_addIt_99 ?_
      refine x_aload_n C 1 dX7_addIt_100 rfl ?_
      refine x_get9 C xkd_9 i9 0 (by decide) (by decide +kernel) rfl rfl dX7_addIt_101 ?_
      refine x_iconst (v := 0) C dX7_addIt_104 (by decide) ?_
      obtain ⟨g24, hf⟩ := x_gd hf
      refine x_iald C xkd_10 xl_10 g24 dX7_addIt_105 ?_
      obtain ⟨g25, hf⟩ := x_gd hf
      refine x_iast C xkd_10 xl_10 g25 dX7_addIt_106 ?_
      obtain ⟨M26, e27, hf⟩ := x_lt hf
      rw [← e27]
      clear e27
      refine x_aload_n C 1 dX7_addIt_107 rfl ?_
      refine x_get9 C xkd_9 i9 0 (by decide) (by decide +kernel) rfl rfl dX7_addIt_108 ?_
      refine x_bipush (v := 9) C dX7_addIt_111 (by decide) ?_
      refine x_dup2 C dX7_addIt_113 rfl rfl ?_
      obtain ⟨g28, hf⟩ := x_gd hf
      refine x_iald C xkd_10 xl_10 g28 dX7_addIt_114 ?_
      refine x_iconst (v := 1) C dX7_addIt_115 (by decide) ?_
      refine x_iadd C dX7_addIt_116 ?_
      obtain ⟨g29, hf⟩ := x_gd hf
      refine x_iast C xkd_10 xl_10 g29 dX7_addIt_117 ?_
      obtain ⟨M30, e31, hf⟩ := x_lt hf
      rw [← e31]
      clear e31
      refine x_aload_n C 1 dX7_addIt_118 rfl ?_
      refine x_get9 C xkd_9 i9 0 (by decide) (by decide +kernel) rfl rfl dX7_addIt_119 ?_
      refine x_iconst (v := 0) C dX7_addIt_122 (by decide) ?_
      refine x_dup2 C dX7_addIt_123 rfl rfl ?_
      obtain ⟨g32, hf⟩ := x_gd hf
      refine x_iald C xkd_10 xl_10 g32 dX7_addIt_124 ?_
      refine x_iconst (v := 1) C dX7_addIt_125 (by decide) ?_
      refine x_iadd C dX7_addIt_126 ?_
      obtain ⟨g33, hf⟩ := x_gd hf
      refine x_iast C xkd_10 xl_10 g33 dX7_addIt_127 ?_
      obtain ⟨M34, e35, hf⟩ := x_lt hf
      rw [← e35]
      clear e35
      refine x_aload_n C 1 dX7_addIt_128 rfl ?_
      refine x_get9 C xkd_9 i9 0 (by decide) (by decide +kernel) rfl rfl dX7_addIt_129 ?_
      refine x_iconst (v := 0) C dX7_addIt_132 (by decide) ?_
      obtain ⟨g36, hf⟩ := x_gd hf
      refine x_iald C xkd_10 xl_10 g36 dX7_addIt_133 ?_
      refine x_iconst (v := 1) C dX7_addIt_134 (by decide) ?_
      refine x_isub C dX7_addIt_135 ?_
      obtain rfl := Option.some.inj hf
      exact x_iret C hr hlk dX7_addIt_136
    · have hf := x_ip hc5 hf
      refine x_aload_n C 0 dX7_addIt_29 rfl ?_
      refine x_iconst (v := 2) C dX7_addIt_30 (by decide) ?_
      obtain ⟨q37, hg, hf⟩ := x_bd hf
      refine x_callVr C (by rw [xkd_9]; decide) (by rw [xkd_9]; decide) (xc9 xkd_9) rfl (t_X7_throwing hg) (cwV 1 C.1.2.2.2.2 gX7_addIt_X7_throwing rfl rfl rfl (by decide +kernel) ⟨Nat.le_of_ble_eq_true rfl, Nat.le_of_ble_eq_true rfl⟩) rfl rfl (Nat.le_of_ble_eq_true rfl) dX7_addIt_31 ⟨Nat.zero_le _, Nat.zero_le _⟩ (fun ta38 => ?_)
      clear hg
      obtain rfl := Option.some.inj hf
      exact x_iret C hr hlk dX7_addIt_34
  · have hf := x_ip hc3 hf
    refine x_aload_n C 0 dX7_addIt_12 rfl ?_
    refine x_iconst (v := 1) C dX7_addIt_13 (by decide) ?_
    obtain ⟨q39, hg, hf⟩ := x_bd hf
    refine x_callVr C (by rw [xkd_9]; decide) (by rw [xkd_9]; decide) (xc9 xkd_9) rfl (t_X7_throwing hg) (cwV 1 C.1.2.2.2.2 gX7_addIt_X7_throwing rfl rfl rfl (by decide +kernel) ⟨Nat.le_of_ble_eq_true rfl, Nat.le_of_ble_eq_true rfl⟩) rfl rfl (Nat.le_of_ble_eq_true rfl) dX7_addIt_14 ⟨Nat.zero_le _, Nat.zero_le _⟩ (fun ta40 => ?_)
    clear hg
    obtain rfl := Option.some.inj hf
    exact x_iret C hr hlk dX7_addIt_17
/-! WaitingRoomSimulationModel.addCustomer(I)I -/
abbrev rm_X7_addCustomer (c s : Nat) : Room := { frames := 2, cells := c, slots := s, locals := 47 }
def f_X7_addCustomer (a1 : Int32) (M : xM) : Option (Int32 × xM) := (f_X7_starts M).bind fun q1 => (f_X7_addIt a1 q1).bind fun q3 => (f_X7_changed q3.1 q3.2).bind fun q5 => some (q5.1, q5.2)
set_option maxHeartbeats 4000000 in
set_option maxRecDepth 100000 in
theorem t_X7_addCustomer {l : Launch} {G : xG} {ta : Nat × Nat} {M : xM} {a1 : Int32} {out : Int32 × xM} (hf : f_X7_addCustomer a1 M = some out) : xMet G l yX7_addCustomer wsX7_addCustomer (rm_X7_addCustomer 0 0) 0 0 ta M [.ref (xad G 9), .int a1] (some (.int out.1)) out.2 := by
  refine x_met (cc := cX7_addCustomer) (nL := 2) (ret := some .int) (by decide) rfl (Nat.le_of_ble_eq_true rfl) ?_
  intro p e s m args below meth c C hr hlk
  have C : xC G p s m args c cX7_addCustomer 2 wsX7_addCustomer RX7 := C
  unfold f_X7_addCustomer at hf
  show xW G p l e (rm_X7_addCustomer 0 0) s m args below meth c 2 (MQ below (xQr G (some (.int out.1)) out.2) args s 0 0 (xAs G)) 0 0 ta M 0 [(0, .ref (xad G 9)), (1, .int a1)] []
  refine x_aload_n C 0 dX7_addCustomer_0 rfl ?_
  obtain ⟨q1, hg, hf⟩ := x_bd hf
  refine x_callVv C (by rw [xkd_9]; decide) (by rw [xkd_9]; decide) (xc9 xkd_9) rfl (t_X7_starts hg) (cwV 0 C.1.2.2.2.2 gX7_addCustomer_X7_starts rfl rfl rfl (by decide +kernel) ⟨Nat.le_of_ble_eq_true rfl, Nat.le_of_ble_eq_true rfl⟩) rfl rfl (Nat.le_of_ble_eq_true rfl) dX7_addCustomer_1 ⟨Nat.zero_le _, Nat.zero_le _⟩ (fun ta2 => ?_)
  clear hg
  refine x_aload_n C 0 dX7_addCustomer_4 rfl ?_
  refine x_aload_n C 0 dX7_addCustomer_5 rfl ?_
  refine x_iload_n C 1 dX7_addCustomer_6 rfl ?_
  obtain ⟨q3, hg, hf⟩ := x_bd hf
  refine x_callVr C (by rw [xkd_9]; decide) (by rw [xkd_9]; decide) (xc9 xkd_9) rfl (t_X7_addIt hg) (cwV 1 C.1.2.2.2.2 gX7_addCustomer_X7_addIt rfl rfl rfl (by decide +kernel) ⟨Nat.le_of_ble_eq_true rfl, Nat.le_of_ble_eq_true rfl⟩) rfl rfl (Nat.le_of_ble_eq_true rfl) dX7_addCustomer_7 ⟨Nat.zero_le _, Nat.zero_le _⟩ (fun ta4 => ?_)
  clear hg
  obtain ⟨q5, hg, hf⟩ := x_bd hf
  refine x_callVr C (by rw [xkd_9]; decide) (by rw [xkd_9]; decide) (xc9 xkd_9) rfl (t_X7_changed hg) (cwV 1 C.1.2.2.2.2 gX7_addCustomer_X7_changed rfl rfl rfl (by decide +kernel) ⟨Nat.le_of_ble_eq_true rfl, Nat.le_of_ble_eq_true rfl⟩) rfl rfl (Nat.le_of_ble_eq_true rfl) dX7_addCustomer_10 ⟨Nat.zero_le _, Nat.zero_le _⟩ (fun ta6 => ?_)
  clear hg
  obtain rfl := Option.some.inj hf
  exact x_iret C hr hlk dX7_addCustomer_13
/-! WaitingRoomSimulationModel.openIt(III)I -/
abbrev rm_X7_openIt (c s : Nat) : Room := { frames := 3, cells := c, slots := s, locals := 63 }
def f_X7_openIt (a1 : Int32) (a2 : Int32) (a3 : Int32) (M : xM) : Option (Int32 × xM) := (f_X7_isWindow a1 M).bind fun q1 => (if q1 = 0 then (f_X7_throwing (1 : Int32) M).bind fun q31 => some (q31.1, q31.2) else (f_X7_in a2.toInt64 (1 : Int64) (99 : Int64) M).bind fun q4 => (if q4 = 0 then (f_X7_throwing (2 : Int32) M).bind fun q7 => some (q7.1, q7.2) else (f_X7_in a3.toInt64 (1 : Int64) (9 : Int64) M).bind fun q9 => (if q9 = 0 then (f_X7_throwing (2 : Int32) M).bind fun q29 => some (q29.1, q29.2) else (f_X7_isOpen a1 M).bind fun q12 => (if q12 = 0 then (f_X7_windowAt a1 M).bind fun q15 => if x_in q15 159 = true then x_let (sI M 10 q15.toNatClampNeg a2) fun M18 => (f_X7_windowAt a1 M18).bind fun q20 => if x_in (q20 + (1 : Int32)) 159 = true then x_let (sI M18 10 (q20 + (1 : Int32)).toNatClampNeg a3) fun M23 => (f_X7_openMany M23).bind fun q25 => some (q25, M23) else none else none else (f_X7_throwing (3 : Int32) M).bind fun q27 => some (q27.1, q27.2)))))
set_option maxHeartbeats 4000000 in
set_option maxRecDepth 100000 in
theorem t_X7_openIt {l : Launch} {G : xG} {ta : Nat × Nat} {M : xM} {a1 : Int32} {a2 : Int32} {a3 : Int32} {out : Int32 × xM} (hf : f_X7_openIt a1 a2 a3 M = some out) : xMet G l yX7_openIt wsX7_openIt (rm_X7_openIt 0 0) 0 0 ta M [.ref (xad G 9), .int a1, .int a2, .int a3] (some (.int out.1)) out.2 := by
  refine x_met (cc := cX7_openIt) (nL := 4) (ret := some .int) (by decide) rfl (Nat.le_of_ble_eq_true rfl) ?_
  intro p e s m args below meth c C hr hlk
  have C : xC G p s m args c cX7_openIt 4 wsX7_openIt RX7 := C
  have i9 : ∀ w ∈ wsX70, w ∈ wsX7_openIt := by decide +kernel
  unfold f_X7_openIt at hf
  show xW G p l e (rm_X7_openIt 0 0) s m args below meth c 4 (MQ below (xQr G (some (.int out.1)) out.2) args s 0 0 (xAs G)) 0 0 ta M 0 [(0, .ref (xad G 9)), (1, .int a1), (2, .int a2), (3, .int a3)] []
  refine x_iload_n C 1 dX7_openIt_0 rfl ?_
  obtain ⟨q1, hg, hf⟩ := x_bd hf
  refine x_callSr C (t_X7_isWindow hg) (va_cwS 1 C.1.2.2.2.2 gX7_openIt_X7_isWindow rfl rfl rfl (by decide +kernel) ⟨Nat.le_of_ble_eq_true rfl, Nat.le_of_ble_eq_true rfl⟩) rfl rfl (Nat.le_of_ble_eq_true rfl) dX7_openIt_1 ⟨Nat.zero_le _, Nat.zero_le _⟩ (fun ta2 => ?_)
  clear hg
  refine x_if_ne C 13 dX7_openIt_4 (by decide) (fun hc3 => ?_) (fun hc3 => ?_)
  · have hf := x_ine hc3 hf
    refine x_iload_n C 2 dX7_openIt_13 rfl ?_
    refine x_i2l (v := a2.toInt64) C dX7_openIt_14 rfl ?_
    refine x_lconst (v := 1) C dX7_openIt_15 (by decide) ?_
    refine x_ldc2 (v := 99) C (by decide +kernel) dX7_openIt_16 ?_
    obtain ⟨q4, hg, hf⟩ := x_bd hf
    refine x_callSr C (t_X7_in hg) (va_cwS 3 C.1.2.2.2.2 gX7_openIt_X7_in rfl rfl rfl (by decide +kernel) ⟨Nat.le_of_ble_eq_true rfl, Nat.le_of_ble_eq_true rfl⟩) rfl rfl (Nat.le_of_ble_eq_true rfl) dX7_openIt_19 ⟨Nat.zero_le _, Nat.zero_le _⟩ (fun ta5 => ?_)
    clear hg
    refine x_if_eq C 37 dX7_openIt_22 (by decide) (fun hc6 => ?_) (fun hc6 => ?_)
    · have hf := x_ip hc6 hf
      refine x_aload_n C 0 dX7_openIt_37 rfl ?_
      refine x_iconst (v := 2) C dX7_openIt_38 (by decide) ?_
      obtain ⟨q7, hg, hf⟩ := x_bd hf
      refine x_callVr C (by rw [xkd_9]; decide) (by rw [xkd_9]; decide) (xc9 xkd_9) rfl (t_X7_throwing hg) (cwV 1 C.1.2.2.2.2 gX7_openIt_X7_throwing rfl rfl rfl (by decide +kernel) ⟨Nat.le_of_ble_eq_true rfl, Nat.le_of_ble_eq_true rfl⟩) rfl rfl (Nat.le_of_ble_eq_true rfl) dX7_openIt_39 ⟨Nat.zero_le _, Nat.zero_le _⟩ (fun ta8 => ?_)
      clear hg
      obtain rfl := Option.some.inj hf
      exact x_iret C hr hlk dX7_openIt_42
    · have hf := x_ine hc6 hf
      refine x_iload_n C 3 dX7_openIt_25 rfl ?_
      refine x_i2l (v := a3.toInt64) C dX7_openIt_26 rfl ?_
      refine x_lconst (v := 1) C dX7_openIt_27 (by decide) ?_
      refine x_ldc2 (v := 9) C (by decide +kernel) dX7_openIt_28 ?_
      obtain ⟨q9, hg, hf⟩ := x_bd hf
      refine x_callSr C (t_X7_in hg) (va_cwS 3 C.1.2.2.2.2 gX7_openIt_X7_in rfl rfl rfl (by decide +kernel) ⟨Nat.le_of_ble_eq_true rfl, Nat.le_of_ble_eq_true rfl⟩) rfl rfl (Nat.le_of_ble_eq_true rfl) dX7_openIt_31 ⟨Nat.zero_le _, Nat.zero_le _⟩ (fun ta10 => ?_)
      clear hg
      refine x_if_ne C 43 dX7_openIt_34 (by decide) (fun hc11 => ?_) (fun hc11 => ?_)
      · have hf := x_ine hc11 hf
        refine x_aload_n C 0 dX7_openIt_43 rfl ?_
        refine x_iload_n C 1 dX7_openIt_44 rfl ?_
        obtain ⟨q12, hg, hf⟩ := x_bd hf
        refine x_callVr C (by rw [xkd_9]; decide) (by rw [xkd_9]; decide) (xc9 xkd_9) rfl (t_X7_isOpen hg) (cwV 1 C.1.2.2.2.2 gX7_openIt_X7_isOpen rfl rfl rfl (by decide +kernel) ⟨Nat.le_of_ble_eq_true rfl, Nat.le_of_ble_eq_true rfl⟩) rfl rfl (Nat.le_of_ble_eq_true rfl) dX7_openIt_45 ⟨Nat.zero_le _, Nat.zero_le _⟩ (fun ta13 => ?_)
        clear hg
        refine x_if_eq C 57 dX7_openIt_48 (by decide) (fun hc14 => ?_) (fun hc14 => ?_)
        · have hf := x_ip hc14 hf
          refine x_aload_n C 0 dX7_openIt_57 rfl ?_
          refine x_get9 C xkd_9 i9 0 (by decide) (by decide +kernel) rfl rfl dX7_openIt_58 ?_
          refine x_iload_n C 1 dX7_openIt_61 rfl ?_
          obtain ⟨q15, hg, hf⟩ := x_bd hf
          refine x_callSr C (t_X7_windowAt hg) (va_cwS 1 C.1.2.2.2.2 gX7_openIt_X7_windowAt rfl rfl rfl (by decide +kernel) ⟨Nat.le_of_ble_eq_true rfl, Nat.le_of_ble_eq_true rfl⟩) rfl rfl (Nat.le_of_ble_eq_true rfl) dX7_openIt_62 ⟨Nat.zero_le _, Nat.zero_le _⟩ (fun ta16 => ?_)
          clear hg
          refine x_iload_n C 2 dX7_openIt_65 rfl ?_
          obtain ⟨g17, hf⟩ := x_gd hf
          refine x_iast C xkd_10 xl_10 g17 dX7_openIt_66 ?_
          obtain ⟨M18, e19, hf⟩ := x_lt hf
          rw [← e19]
          clear e19
          refine x_aload_n C 0 dX7_openIt_67 rfl ?_
          refine x_get9 C xkd_9 i9 0 (by decide) (by decide +kernel) rfl rfl dX7_openIt_68 ?_
          refine x_iload_n C 1 dX7_openIt_71 rfl ?_
          obtain ⟨q20, hg, hf⟩ := x_bd hf
          refine x_callSr C (t_X7_windowAt hg) (va_cwS 1 C.1.2.2.2.2 gX7_openIt_X7_windowAt rfl rfl rfl (by decide +kernel) ⟨Nat.le_of_ble_eq_true rfl, Nat.le_of_ble_eq_true rfl⟩) rfl rfl (Nat.le_of_ble_eq_true rfl) dX7_openIt_72 ⟨Nat.zero_le _, Nat.zero_le _⟩ (fun ta21 => ?_)
          clear hg
          refine x_iconst (v := 1) C dX7_openIt_75 (by decide) ?_
          refine x_iadd C dX7_openIt_76 ?_
          refine x_iload_n C 3 dX7_openIt_77 rfl ?_
          obtain ⟨g22, hf⟩ := x_gd hf
          refine x_iast C xkd_10 xl_10 g22 dX7_openIt_78 ?_
          obtain ⟨M23, e24, hf⟩ := x_lt hf
          rw [← e24]
          clear e24
          refine x_aload_n C 0 dX7_openIt_79 rfl ?_
          obtain ⟨q25, hg, hf⟩ := x_bd hf
          refine x_callVr C (by rw [xkd_9]; decide) (by rw [xkd_9]; decide) (xc9 xkd_9) rfl (t_X7_openMany hg) (cwV 0 C.1.2.2.2.2 gX7_openIt_X7_openMany rfl rfl rfl (by decide +kernel) ⟨Nat.le_of_ble_eq_true rfl, Nat.le_of_ble_eq_true rfl⟩) rfl rfl (Nat.le_of_ble_eq_true rfl) dX7_openIt_80 ⟨Nat.zero_le _, Nat.zero_le _⟩ (fun ta26 => ?_)
          clear hg
          obtain rfl := Option.some.inj hf
          exact x_iret C hr hlk dX7_openIt_83
        · have hf := x_ine hc14 hf
          refine x_aload_n C 0 dX7_openIt_51 rfl ?_
          refine x_iconst (v := 3) C dX7_openIt_52 (by decide) ?_
          obtain ⟨q27, hg, hf⟩ := x_bd hf
          refine x_callVr C (by rw [xkd_9]; decide) (by rw [xkd_9]; decide) (xc9 xkd_9) rfl (t_X7_throwing hg) (cwV 1 C.1.2.2.2.2 gX7_openIt_X7_throwing rfl rfl rfl (by decide +kernel) ⟨Nat.le_of_ble_eq_true rfl, Nat.le_of_ble_eq_true rfl⟩) rfl rfl (Nat.le_of_ble_eq_true rfl) dX7_openIt_53 ⟨Nat.zero_le _, Nat.zero_le _⟩ (fun ta28 => ?_)
          clear hg
          obtain rfl := Option.some.inj hf
          exact x_iret C hr hlk dX7_openIt_56
      · have hf := x_ip hc11 hf
        refine x_aload_n C 0 dX7_openIt_37 rfl ?_
        refine x_iconst (v := 2) C dX7_openIt_38 (by decide) ?_
        obtain ⟨q29, hg, hf⟩ := x_bd hf
        refine x_callVr C (by rw [xkd_9]; decide) (by rw [xkd_9]; decide) (xc9 xkd_9) rfl (t_X7_throwing hg) (cwV 1 C.1.2.2.2.2 gX7_openIt_X7_throwing rfl rfl rfl (by decide +kernel) ⟨Nat.le_of_ble_eq_true rfl, Nat.le_of_ble_eq_true rfl⟩) rfl rfl (Nat.le_of_ble_eq_true rfl) dX7_openIt_39 ⟨Nat.zero_le _, Nat.zero_le _⟩ (fun ta30 => ?_)
        clear hg
        obtain rfl := Option.some.inj hf
        exact x_iret C hr hlk dX7_openIt_42
  · have hf := x_ip hc3 hf
    refine x_aload_n C 0 dX7_openIt_7 rfl ?_
    refine x_iconst (v := 1) C dX7_openIt_8 (by decide) ?_
    obtain ⟨q31, hg, hf⟩ := x_bd hf
    refine x_callVr C (by rw [xkd_9]; decide) (by rw [xkd_9]; decide) (xc9 xkd_9) rfl (t_X7_throwing hg) (cwV 1 C.1.2.2.2.2 gX7_openIt_X7_throwing rfl rfl rfl (by decide +kernel) ⟨Nat.le_of_ble_eq_true rfl, Nat.le_of_ble_eq_true rfl⟩) rfl rfl (Nat.le_of_ble_eq_true rfl) dX7_openIt_9 ⟨Nat.zero_le _, Nat.zero_le _⟩ (fun ta32 => ?_)
    clear hg
    obtain rfl := Option.some.inj hf
    exact x_iret C hr hlk dX7_openIt_12
/-! WaitingRoomSimulationModel.openWindow(III)I -/
abbrev rm_X7_openWindow (c s : Nat) : Room := { frames := 4, cells := c, slots := s, locals := 86 }
def f_X7_openWindow (a1 : Int32) (a2 : Int32) (a3 : Int32) (M : xM) : Option (Int32 × xM) := (f_X7_starts M).bind fun q1 => (f_X7_openIt a1 a2 a3 q1).bind fun q3 => (f_X7_changed q3.1 q3.2).bind fun q5 => some (q5.1, q5.2)
set_option maxHeartbeats 4000000 in
set_option maxRecDepth 100000 in
theorem t_X7_openWindow {l : Launch} {G : xG} {ta : Nat × Nat} {M : xM} {a1 : Int32} {a2 : Int32} {a3 : Int32} {out : Int32 × xM} (hf : f_X7_openWindow a1 a2 a3 M = some out) : xMet G l yX7_openWindow wsX7_openWindow (rm_X7_openWindow 0 0) 0 0 ta M [.ref (xad G 9), .int a1, .int a2, .int a3] (some (.int out.1)) out.2 := by
  refine x_met (cc := cX7_openWindow) (nL := 4) (ret := some .int) (by decide) rfl (Nat.le_of_ble_eq_true rfl) ?_
  intro p e s m args below meth c C hr hlk
  have C : xC G p s m args c cX7_openWindow 4 wsX7_openWindow RX7 := C
  unfold f_X7_openWindow at hf
  show xW G p l e (rm_X7_openWindow 0 0) s m args below meth c 4 (MQ below (xQr G (some (.int out.1)) out.2) args s 0 0 (xAs G)) 0 0 ta M 0 [(0, .ref (xad G 9)), (1, .int a1), (2, .int a2), (3, .int a3)] []
  refine x_aload_n C 0 dX7_openWindow_0 rfl ?_
  obtain ⟨q1, hg, hf⟩ := x_bd hf
  refine x_callVv C (by rw [xkd_9]; decide) (by rw [xkd_9]; decide) (xc9 xkd_9) rfl (t_X7_starts hg) (cwV 0 C.1.2.2.2.2 gX7_openWindow_X7_starts rfl rfl rfl (by decide +kernel) ⟨Nat.le_of_ble_eq_true rfl, Nat.le_of_ble_eq_true rfl⟩) rfl rfl (Nat.le_of_ble_eq_true rfl) dX7_openWindow_1 ⟨Nat.zero_le _, Nat.zero_le _⟩ (fun ta2 => ?_)
  clear hg
  refine x_aload_n C 0 dX7_openWindow_4 rfl ?_
  refine x_aload_n C 0 dX7_openWindow_5 rfl ?_
  refine x_iload_n C 1 dX7_openWindow_6 rfl ?_
  refine x_iload_n C 2 dX7_openWindow_7 rfl ?_
  refine x_iload_n C 3 dX7_openWindow_8 rfl ?_
  obtain ⟨q3, hg, hf⟩ := x_bd hf
  refine x_callVr C (by rw [xkd_9]; decide) (by rw [xkd_9]; decide) (xc9 xkd_9) rfl (t_X7_openIt hg) (cwV 3 C.1.2.2.2.2 gX7_openWindow_X7_openIt rfl rfl rfl (by decide +kernel) ⟨Nat.le_of_ble_eq_true rfl, Nat.le_of_ble_eq_true rfl⟩) rfl rfl (Nat.le_of_ble_eq_true rfl) dX7_openWindow_9 ⟨Nat.zero_le _, Nat.zero_le _⟩ (fun ta4 => ?_)
  clear hg
  obtain ⟨q5, hg, hf⟩ := x_bd hf
  refine x_callVr C (by rw [xkd_9]; decide) (by rw [xkd_9]; decide) (xc9 xkd_9) rfl (t_X7_changed hg) (cwV 1 C.1.2.2.2.2 gX7_openWindow_X7_changed rfl rfl rfl (by decide +kernel) ⟨Nat.le_of_ble_eq_true rfl, Nat.le_of_ble_eq_true rfl⟩) rfl rfl (Nat.le_of_ble_eq_true rfl) dX7_openWindow_12 ⟨Nat.zero_le _, Nat.zero_le _⟩ (fun ta6 => ?_)
  clear hg
  obtain rfl := Option.some.inj hf
  exact x_iret C hr hlk dX7_openWindow_15
/-! WaitingRoomSimulationModel.closeIt(I)I -/
abbrev rm_X7_closeIt (c s : Nat) : Room := { frames := 3, cells := c, slots := s, locals := 65 }
def f_X7_closeIt (a1 : Int32) (M : xM) : Option (Int32 × xM) := (f_X7_isWindow a1 M).bind fun q1 => (if q1 = 0 then (f_X7_throwing (1 : Int32) M).bind fun q13 => some (q13.1, q13.2) else (f_X7_isOpen a1 M).bind fun q4 => (if q4 = 0 then (f_X7_throwing (2 : Int32) M).bind fun q11 => some (q11.1, q11.2) else (f_X7_closes a1 M).bind fun q7 => (f_X7_openMany q7).bind fun q9 => some (q9, q7)))
set_option maxHeartbeats 4000000 in
set_option maxRecDepth 100000 in
theorem t_X7_closeIt {l : Launch} {G : xG} {ta : Nat × Nat} {M : xM} {a1 : Int32} {out : Int32 × xM} (hf : f_X7_closeIt a1 M = some out) : xMet G l yX7_closeIt wsX7_closeIt (rm_X7_closeIt 0 0) 0 0 ta M [.ref (xad G 9), .int a1] (some (.int out.1)) out.2 := by
  refine x_met (cc := cX7_closeIt) (nL := 2) (ret := some .int) (by decide) rfl (Nat.le_of_ble_eq_true rfl) ?_
  intro p e s m args below meth c C hr hlk
  have C : xC G p s m args c cX7_closeIt 2 wsX7_closeIt RX7 := C
  unfold f_X7_closeIt at hf
  show xW G p l e (rm_X7_closeIt 0 0) s m args below meth c 2 (MQ below (xQr G (some (.int out.1)) out.2) args s 0 0 (xAs G)) 0 0 ta M 0 [(0, .ref (xad G 9)), (1, .int a1)] []
  refine x_iload_n C 1 dX7_closeIt_0 rfl ?_
  obtain ⟨q1, hg, hf⟩ := x_bd hf
  refine x_callSr C (t_X7_isWindow hg) (va_cwS 1 C.1.2.2.2.2 gX7_closeIt_X7_isWindow rfl rfl rfl (by decide +kernel) ⟨Nat.le_of_ble_eq_true rfl, Nat.le_of_ble_eq_true rfl⟩) rfl rfl (Nat.le_of_ble_eq_true rfl) dX7_closeIt_1 ⟨Nat.zero_le _, Nat.zero_le _⟩ (fun ta2 => ?_)
  clear hg
  refine x_if_ne C 13 dX7_closeIt_4 (by decide) (fun hc3 => ?_) (fun hc3 => ?_)
  · have hf := x_ine hc3 hf
    refine x_aload_n C 0 dX7_closeIt_13 rfl ?_
    refine x_iload_n C 1 dX7_closeIt_14 rfl ?_
    obtain ⟨q4, hg, hf⟩ := x_bd hf
    refine x_callVr C (by rw [xkd_9]; decide) (by rw [xkd_9]; decide) (xc9 xkd_9) rfl (t_X7_isOpen hg) (cwV 1 C.1.2.2.2.2 gX7_closeIt_X7_isOpen rfl rfl rfl (by decide +kernel) ⟨Nat.le_of_ble_eq_true rfl, Nat.le_of_ble_eq_true rfl⟩) rfl rfl (Nat.le_of_ble_eq_true rfl) dX7_closeIt_15 ⟨Nat.zero_le _, Nat.zero_le _⟩ (fun ta5 => ?_)
    clear hg
    refine x_if_ne C 27 dX7_closeIt_18 (by decide) (fun hc6 => ?_) (fun hc6 => ?_)
    · have hf := x_ine hc6 hf
      refine x_aload_n C 0 dX7_closeIt_27 rfl ?_
      refine x_iload_n C 1 dX7_closeIt_28 rfl ?_
      obtain ⟨q7, hg, hf⟩ := x_bd hf
      refine x_callVv C (by rw [xkd_9]; decide) (by rw [xkd_9]; decide) (xc9 xkd_9) rfl (t_X7_closes hg) (cwV 1 C.1.2.2.2.2 gX7_closeIt_X7_closes rfl rfl rfl (by decide +kernel) ⟨Nat.le_of_ble_eq_true rfl, Nat.le_of_ble_eq_true rfl⟩) rfl rfl (Nat.le_of_ble_eq_true rfl) dX7_closeIt_29 ⟨Nat.zero_le _, Nat.zero_le _⟩ (fun ta8 => ?_)
      clear hg
      refine x_aload_n C 0 dX7_closeIt_32 rfl ?_
      obtain ⟨q9, hg, hf⟩ := x_bd hf
      refine x_callVr C (by rw [xkd_9]; decide) (by rw [xkd_9]; decide) (xc9 xkd_9) rfl (t_X7_openMany hg) (cwV 0 C.1.2.2.2.2 gX7_closeIt_X7_openMany rfl rfl rfl (by decide +kernel) ⟨Nat.le_of_ble_eq_true rfl, Nat.le_of_ble_eq_true rfl⟩) rfl rfl (Nat.le_of_ble_eq_true rfl) dX7_closeIt_33 ⟨Nat.zero_le _, Nat.zero_le _⟩ (fun ta10 => ?_)
      clear hg
      obtain rfl := Option.some.inj hf
      exact x_iret C hr hlk dX7_closeIt_36
    · have hf := x_ip hc6 hf
      refine x_aload_n C 0 dX7_closeIt_21 rfl ?_
      refine x_iconst (v := 2) C dX7_closeIt_22 (by decide) ?_
      obtain ⟨q11, hg, hf⟩ := x_bd hf
      refine x_callVr C (by rw [xkd_9]; decide) (by rw [xkd_9]; decide) (xc9 xkd_9) rfl (t_X7_throwing hg) (cwV 1 C.1.2.2.2.2 gX7_closeIt_X7_throwing rfl rfl rfl (by decide +kernel) ⟨Nat.le_of_ble_eq_true rfl, Nat.le_of_ble_eq_true rfl⟩) rfl rfl (Nat.le_of_ble_eq_true rfl) dX7_closeIt_23 ⟨Nat.zero_le _, Nat.zero_le _⟩ (fun ta12 => ?_)
      clear hg
      obtain rfl := Option.some.inj hf
      exact x_iret C hr hlk dX7_closeIt_26
  · have hf := x_ip hc3 hf
    refine x_aload_n C 0 dX7_closeIt_7 rfl ?_
    refine x_iconst (v := 1) C dX7_closeIt_8 (by decide) ?_
    obtain ⟨q13, hg, hf⟩ := x_bd hf
    refine x_callVr C (by rw [xkd_9]; decide) (by rw [xkd_9]; decide) (xc9 xkd_9) rfl (t_X7_throwing hg) (cwV 1 C.1.2.2.2.2 gX7_closeIt_X7_throwing rfl rfl rfl (by decide +kernel) ⟨Nat.le_of_ble_eq_true rfl, Nat.le_of_ble_eq_true rfl⟩) rfl rfl (Nat.le_of_ble_eq_true rfl) dX7_closeIt_9 ⟨Nat.zero_le _, Nat.zero_le _⟩ (fun ta14 => ?_)
    clear hg
    obtain rfl := Option.some.inj hf
    exact x_iret C hr hlk dX7_closeIt_12
/-! WaitingRoomSimulationModel.closeWindow(I)I -/
abbrev rm_X7_closeWindow (c s : Nat) : Room := { frames := 4, cells := c, slots := s, locals := 86 }
def f_X7_closeWindow (a1 : Int32) (M : xM) : Option (Int32 × xM) := (f_X7_starts M).bind fun q1 => (f_X7_closeIt a1 q1).bind fun q3 => (f_X7_changed q3.1 q3.2).bind fun q5 => some (q5.1, q5.2)
set_option maxHeartbeats 4000000 in
set_option maxRecDepth 100000 in
theorem t_X7_closeWindow {l : Launch} {G : xG} {ta : Nat × Nat} {M : xM} {a1 : Int32} {out : Int32 × xM} (hf : f_X7_closeWindow a1 M = some out) : xMet G l yX7_closeWindow wsX7_closeWindow (rm_X7_closeWindow 0 0) 0 0 ta M [.ref (xad G 9), .int a1] (some (.int out.1)) out.2 := by
  refine x_met (cc := cX7_closeWindow) (nL := 2) (ret := some .int) (by decide) rfl (Nat.le_of_ble_eq_true rfl) ?_
  intro p e s m args below meth c C hr hlk
  have C : xC G p s m args c cX7_closeWindow 2 wsX7_closeWindow RX7 := C
  unfold f_X7_closeWindow at hf
  show xW G p l e (rm_X7_closeWindow 0 0) s m args below meth c 2 (MQ below (xQr G (some (.int out.1)) out.2) args s 0 0 (xAs G)) 0 0 ta M 0 [(0, .ref (xad G 9)), (1, .int a1)] []
  refine x_aload_n C 0 dX7_closeWindow_0 rfl ?_
  obtain ⟨q1, hg, hf⟩ := x_bd hf
  refine x_callVv C (by rw [xkd_9]; decide) (by rw [xkd_9]; decide) (xc9 xkd_9) rfl (t_X7_starts hg) (cwV 0 C.1.2.2.2.2 gX7_closeWindow_X7_starts rfl rfl rfl (by decide +kernel) ⟨Nat.le_of_ble_eq_true rfl, Nat.le_of_ble_eq_true rfl⟩) rfl rfl (Nat.le_of_ble_eq_true rfl) dX7_closeWindow_1 ⟨Nat.zero_le _, Nat.zero_le _⟩ (fun ta2 => ?_)
  clear hg
  refine x_aload_n C 0 dX7_closeWindow_4 rfl ?_
  refine x_aload_n C 0 dX7_closeWindow_5 rfl ?_
  refine x_iload_n C 1 dX7_closeWindow_6 rfl ?_
  obtain ⟨q3, hg, hf⟩ := x_bd hf
  refine x_callVr C (by rw [xkd_9]; decide) (by rw [xkd_9]; decide) (xc9 xkd_9) rfl (t_X7_closeIt hg) (cwV 1 C.1.2.2.2.2 gX7_closeWindow_X7_closeIt rfl rfl rfl (by decide +kernel) ⟨Nat.le_of_ble_eq_true rfl, Nat.le_of_ble_eq_true rfl⟩) rfl rfl (Nat.le_of_ble_eq_true rfl) dX7_closeWindow_7 ⟨Nat.zero_le _, Nat.zero_le _⟩ (fun ta4 => ?_)
  clear hg
  obtain ⟨q5, hg, hf⟩ := x_bd hf
  refine x_callVr C (by rw [xkd_9]; decide) (by rw [xkd_9]; decide) (xc9 xkd_9) rfl (t_X7_changed hg) (cwV 1 C.1.2.2.2.2 gX7_closeWindow_X7_changed rfl rfl rfl (by decide +kernel) ⟨Nat.le_of_ble_eq_true rfl, Nat.le_of_ble_eq_true rfl⟩) rfl rfl (Nat.le_of_ble_eq_true rfl) dX7_closeWindow_10 ⟨Nat.zero_le _, Nat.zero_le _⟩ (fun ta6 => ?_)
  clear hg
  obtain rfl := Option.some.inj hf
  exact x_iret C hr hlk dX7_closeWindow_13
/-! WaitingRoomSimulationModel.callIt()I -/
abbrev rm_X7_callIt (c s : Nat) : Room := { frames := 1, cells := c, slots := s, locals := 21 }
def f_X7_callIt_L4 (M : xM) : Nat → Int32 → Int32 → Option (Int32 × xM)
  | 0, _, _ => none
  | n+1, v1, v2 => if x_in (0 : Int32) 159 = true then (if (M.1 10 (0 : Int32).toNatClampNeg) ≤ v2 then (if v1 = (-1 : Int32) then (f_X7_throwing (1 : Int32) M).bind fun q12 => some (q12.1, q12.2) else (f_X7_personAt v1 M).bind fun q4 => if x_in (q4 + (5 : Int32)) 159 = true then x_let (sI M 10 (q4 + (5 : Int32)).toNatClampNeg (1 : Int32)) fun M7 => (f_X7_personAt v1 M7).bind fun q9 => if x_in q9 159 = true then some (M7.1 10 q9.toNatClampNeg, M7) else none else none) else (if v1 = (-1 : Int32) then (f_X7_personAt v2 M).bind fun q15 => if x_in (q15 + (5 : Int32)) 159 = true then (if (M.1 10 (q15 + (5 : Int32)).toNatClampNeg) = 0 then (if (1 : Int32) = 0 then f_X7_callIt_L4 M n v1 (v2 + 1) else f_X7_callIt_L4 M n v2 (v2 + 1)) else f_X7_callIt_L4 M n v1 (v2 + 1)) else none else (f_X7_personAt v2 M).bind fun q20 => if x_in q20 159 = true then (f_X7_personAt v1 M).bind fun q23 => if x_in q23 159 = true then (if (M.1 10 q23.toNatClampNeg) ≤ (M.1 10 q20.toNatClampNeg) then (f_X7_personAt v2 M).bind fun q27 => if x_in (q27 + (5 : Int32)) 159 = true then (if (M.1 10 (q27 + (5 : Int32)).toNatClampNeg) = 0 then (if (0 : Int32) = 0 then f_X7_callIt_L4 M n v1 (v2 + 1) else f_X7_callIt_L4 M n v2 (v2 + 1)) else f_X7_callIt_L4 M n v1 (v2 + 1)) else none else (f_X7_personAt v2 M).bind fun q32 => if x_in (q32 + (5 : Int32)) 159 = true then (if (M.1 10 (q32 + (5 : Int32)).toNatClampNeg) = 0 then (if (1 : Int32) = 0 then f_X7_callIt_L4 M n v1 (v2 + 1) else f_X7_callIt_L4 M n v2 (v2 + 1)) else f_X7_callIt_L4 M n v1 (v2 + 1)) else none) else none else none)) else none
def f_X7_callIt (M : xM) : Option (Int32 × xM) := f_X7_callIt_L4 M xF (-1 : Int32) (0 : Int32)
set_option maxHeartbeats 4000000 in
set_option maxRecDepth 100000 in
theorem t_X7_callIt_L4 {G : xG} {p : Program} {l : Launch} {e : Env} {s : State} {m : MethodId} {args : Array Value} {below : List Frame} {meth : Method} {c : Code} (C : xC G p s m args c cX7_callIt 4 wsX7_callIt RX7) (hr : meth.sig.returnType = some .int) (hlk : meth.locks = false) {M : xM} : ∀ (n : Nat) (v1 : Int32) (v2 : Int32) (ta : Nat × Nat) (out : Int32 × xM), f_X7_callIt_L4 M n v1 v2 = some out → xW G p l e (rm_X7_callIt 0 0) s m args below meth c 4 (MQ below (xQr G (some (.int out.1)) out.2) args s 0 0 (xAs G)) 0 0 ta M 4 [(0, .ref (xad G 9)), (1, .int v1), (2, .int v2)] [] := by
  intro n
  induction n with
  | zero =>
    intro v1 v2 ta out hf
    rw [f_X7_callIt_L4] at hf
    cases hf
  | succ n ih =>
    intro v1 v2 ta out hf
    rw [f_X7_callIt_L4] at hf
    have i9 : ∀ w ∈ wsX70, w ∈ wsX7_callIt := by decide +kernel
    refine x_iload_n C 2 dX7_callIt_4 rfl ?_
    refine x_aload_n C 0 dX7_callIt_5 rfl ?_
    refine x_get9 C xkd_9 i9 0 (by decide) (by decide +kernel) rfl rfl dX7_callIt_6 ?_
    refine x_iconst (v := 0) C dX7_callIt_9 (by decide) ?_
    obtain ⟨g1, hf⟩ := x_gd hf
    refine x_iald C xkd_10 xl_10 g1 dX7_callIt_10 ?_
    refine x_icmp_ge C 76 dX7_callIt_11 (by decide) (fun hc2 => ?_) (fun hc2 => ?_)
    · have hf := x_ip hc2 hf
      refine x_iload_n C 1 dX7_callIt_76 rfl ?_
      refine x_iconst (v := (-1)) C dX7_callIt_77 (by decide) ?_
      refine x_icmp_ne C 87 dX7_callIt_78 (by decide) (fun hc3 => ?_) (fun hc3 => ?_)
      · have hf := x_ine hc3 hf
        refine x_aload_n C 0 dX7_callIt_87 rfl ?_
        refine x_get9 C xkd_9 i9 0 (by decide) (by decide +kernel) rfl rfl dX7_callIt_88 ?_
        refine x_iload_n C 1 dX7_callIt_91 rfl ?_
        obtain ⟨q4, hg, hf⟩ := x_bd hf
        refine x_callSr C (t_X7_personAt hg) (va_cwS 1 C.1.2.2.2.2 gX7_callIt_X7_personAt rfl rfl rfl (by decide +kernel) ⟨Nat.le_of_ble_eq_true rfl, Nat.le_of_ble_eq_true rfl⟩) rfl rfl (Nat.le_of_ble_eq_true rfl) dX7_callIt_92 ⟨Nat.zero_le _, Nat.zero_le _⟩ (fun ta5 => ?_)
        clear hg
        refine x_iconst (v := 5) C dX7_callIt_95 (by decide) ?_
        refine x_iadd C dX7_callIt_96 ?_
        refine x_iconst (v := 1) C dX7_callIt_97 (by decide) ?_
        obtain ⟨g6, hf⟩ := x_gd hf
        refine x_iast C xkd_10 xl_10 g6 dX7_callIt_98 ?_
        obtain ⟨M7, e8, hf⟩ := x_lt hf
        rw [← e8]
        clear e8
        refine x_aload_n C 0 dX7_callIt_99 rfl ?_
        refine x_get9 C xkd_9 i9 0 (by decide) (by decide +kernel) rfl rfl dX7_callIt_100 ?_
        refine x_iload_n C 1 dX7_callIt_103 rfl ?_
        obtain ⟨q9, hg, hf⟩ := x_bd hf
        refine x_callSr C (t_X7_personAt hg) (va_cwS 1 C.1.2.2.2.2 gX7_callIt_X7_personAt rfl rfl rfl (by decide +kernel) ⟨Nat.le_of_ble_eq_true rfl, Nat.le_of_ble_eq_true rfl⟩) rfl rfl (Nat.le_of_ble_eq_true rfl) dX7_callIt_104 ⟨Nat.zero_le _, Nat.zero_le _⟩ (fun ta10 => ?_)
        clear hg
        obtain ⟨g11, hf⟩ := x_gd hf
        refine x_iald C xkd_10 xl_10 g11 dX7_callIt_107 ?_
        obtain rfl := Option.some.inj hf
        exact x_iret C hr hlk dX7_callIt_108
      · have hf := x_ip hc3 hf
        refine x_aload_n C 0 dX7_callIt_81 rfl ?_
        refine x_iconst (v := 1) C dX7_callIt_82 (by decide) ?_
        obtain ⟨q12, hg, hf⟩ := x_bd hf
        refine x_callVr C (by rw [xkd_9]; decide) (by rw [xkd_9]; decide) (xc9 xkd_9) rfl (t_X7_throwing hg) (cwV 1 C.1.2.2.2.2 gX7_callIt_X7_throwing rfl rfl rfl (by decide +kernel) ⟨Nat.le_of_ble_eq_true rfl, Nat.le_of_ble_eq_true rfl⟩) rfl rfl (Nat.le_of_ble_eq_true rfl) dX7_callIt_83 ⟨Nat.zero_le _, Nat.zero_le _⟩ (fun ta13 => ?_)
        clear hg
        obtain rfl := Option.some.inj hf
        exact x_iret C hr hlk dX7_callIt_86
    · have hf := x_ine hc2 hf
      refine x_iload_n C 1 dX7_callIt_14 rfl ?_
      refine x_iconst (v := (-1)) C dX7_callIt_15 (by decide) ?_
      refine x_icmp_eq C 40 dX7_callIt_16 (by decide) (fun hc14 => ?_) (fun hc14 => ?_)
      · have hf := x_ip hc14 hf
        refine x_iconst (v := 1) C dX7_callIt_40 (by decide) ?_
        refine x_goto C 45 dX7_callIt_41 (by decide) ?_
        refine x_istore_n (lv' := [(3, .int (1 : Int32)), (0, .ref (xad G 9)), (1, .int v1), (2, .int v2)]) C dX7_callIt_45 rfl (by decide) rfl ?_
        refine x_aload_n C 1 dX7_callIt_46 rfl ?_
        refine x_get9 C xkd_9 i9 0 (by decide) (by decide +kernel) rfl rfl dX7_callIt_47 ?_
        refine x_iload_n C 3 dX7_callIt_50 rfl ?_
        obtain ⟨q15, hg, hf⟩ := x_bd hf
        refine x_callSr C (t_X7_personAt hg) (va_cwS 1 C.1.2.2.2.2 gX7_callIt_X7_personAt rfl rfl rfl (by decide +kernel) ⟨Nat.le_of_ble_eq_true rfl, Nat.le_of_ble_eq_true rfl⟩) rfl rfl (Nat.le_of_ble_eq_true rfl) dX7_callIt_51 ⟨Nat.zero_le _, Nat.zero_le _⟩ (fun ta16 => ?_)
        clear hg
        refine x_iconst (v := 5) C dX7_callIt_54 (by decide) ?_
        refine x_iadd C dX7_callIt_55 ?_
        obtain ⟨g17, hf⟩ := x_gd hf
        refine x_iald C xkd_10 xl_10 g17 dX7_callIt_56 ?_
        refine x_if_ne C 68 dX7_callIt_57 (by decide) (fun hc18 => ?_) (fun hc18 => ?_)
        · have hf := x_ine hc18 hf
          refine x_iload_n C 2 dX7_callIt_68 rfl ?_
          refine x_istore_n (lv' := [(1, .int v1), (3, .int (1 : Int32)), (0, .ref (xad G 9)), (2, .int v2)]) C dX7_callIt_69 rfl (by decide) rfl ?_
          refine x_iinc (v := v2 + 1) (lv' := [(2, .int (v2 + 1)), (1, .int v1), (3, .int (1 : Int32)), (0, .ref (xad G 9))]) C 3 dX7_callIt_70 rfl rfl (by decide) rfl ?_
          refine x_goto C 4 dX7_callIt_73 (by decide) ?_
          refine x_sub [3, 1, 0] rfl ?_
          exact ih v1 (v2 + 1) _ _ hf
        · have hf := x_ip hc18 hf
          refine x_iload_n C 0 dX7_callIt_60 rfl ?_
          refine x_if_eq C 68 dX7_callIt_61 (by decide) (fun hc19 => ?_) (fun hc19 => ?_)
          · have hf := x_ip hc19 hf
            refine x_iload_n C 2 dX7_callIt_68 rfl ?_
            refine x_istore_n (lv' := [(1, .int v1), (3, .int (1 : Int32)), (0, .ref (xad G 9)), (2, .int v2)]) C dX7_callIt_69 rfl (by decide) rfl ?_
            refine x_iinc (v := v2 + 1) (lv' := [(2, .int (v2 + 1)), (1, .int v1), (3, .int (1 : Int32)), (0, .ref (xad G 9))]) C 3 dX7_callIt_70 rfl rfl (by decide) rfl ?_
            refine x_goto C 4 dX7_callIt_73 (by decide) ?_
            refine x_sub [3, 1, 0] rfl ?_
            exact ih v1 (v2 + 1) _ _ hf
          · have hf := x_ine hc19 hf
            refine x_iload_n C 3 dX7_callIt_64 rfl ?_
            refine x_goto C 69 dX7_callIt_65 (by decide) ?_
            refine x_istore_n (lv' := [(1, .int v2), (3, .int (1 : Int32)), (0, .ref (xad G 9)), (2, .int v2)]) C dX7_callIt_69 rfl (by decide) rfl ?_
            refine x_iinc (v := v2 + 1) (lv' := [(2, .int (v2 + 1)), (1, .int v2), (3, .int (1 : Int32)), (0, .ref (xad G 9))]) C 3 dX7_callIt_70 rfl rfl (by decide) rfl ?_
            refine x_goto C 4 dX7_callIt_73 (by decide) ?_
            refine x_sub [3, 1, 0] rfl ?_
            exact ih v2 (v2 + 1) _ _ hf
      · have hf := x_ine hc14 hf
        refine x_aload_n C 0 dX7_callIt_19 rfl ?_
        refine x_get9 C xkd_9 i9 0 (by decide) (by decide +kernel) rfl rfl dX7_callIt_20 ?_
        refine x_iload_n C 2 dX7_callIt_23 rfl ?_
        obtain ⟨q20, hg, hf⟩ := x_bd hf
        refine x_callSr C (t_X7_personAt hg) (va_cwS 1 C.1.2.2.2.2 gX7_callIt_X7_personAt rfl rfl rfl (by decide +kernel) ⟨Nat.le_of_ble_eq_true rfl, Nat.le_of_ble_eq_true rfl⟩) rfl rfl (Nat.le_of_ble_eq_true rfl) dX7_callIt_24 ⟨Nat.zero_le _, Nat.zero_le _⟩ (fun ta21 => ?_)
        clear hg
        obtain ⟨g22, hf⟩ := x_gd hf
        refine x_iald C xkd_10 xl_10 g22 dX7_callIt_27 ?_
        refine x_aload_n C 0 dX7_callIt_28 rfl ?_
        refine x_get9 C xkd_9 i9 0 (by decide) (by decide +kernel) rfl rfl dX7_callIt_29 ?_
        refine x_iload_n C 1 dX7_callIt_32 rfl ?_
        obtain ⟨q23, hg, hf⟩ := x_bd hf
        refine x_callSr C (t_X7_personAt hg) (va_cwS 1 C.1.2.2.2.2 gX7_callIt_X7_personAt rfl rfl rfl (by decide +kernel) ⟨Nat.le_of_ble_eq_true rfl, Nat.le_of_ble_eq_true rfl⟩) rfl rfl (Nat.le_of_ble_eq_true rfl) dX7_callIt_33 ⟨Nat.zero_le _, Nat.zero_le _⟩ (fun ta24 => ?_)
        clear hg
        obtain ⟨g25, hf⟩ := x_gd hf
        refine x_iald C xkd_10 xl_10 g25 dX7_callIt_36 ?_
        refine x_icmp_ge C 44 dX7_callIt_37 (by decide) (fun hc26 => ?_) (fun hc26 => ?_)
        · have hf := x_ip hc26 hf
          refine x_iconst (v := 0) C dX7_callIt_44 (by decide) ?_
          refine x_istore_n (lv' := [(3, .int (0 : Int32)), (0, .ref (xad G 9)), (1, .int v1), (2, .int v2)]) C dX7_callIt_45 rfl (by decide) rfl ?_
          refine x_aload_n C 1 dX7_callIt_46 rfl ?_
          refine x_get9 C xkd_9 i9 0 (by decide) (by decide +kernel) rfl rfl dX7_callIt_47 ?_
          refine x_iload_n C 3 dX7_callIt_50 rfl ?_
          obtain ⟨q27, hg, hf⟩ := x_bd hf
          refine x_callSr C (t_X7_personAt hg) (va_cwS 1 C.1.2.2.2.2 gX7_callIt_X7_personAt rfl rfl rfl (by decide +kernel) ⟨Nat.le_of_ble_eq_true rfl, Nat.le_of_ble_eq_true rfl⟩) rfl rfl (Nat.le_of_ble_eq_true rfl) dX7_callIt_51 ⟨Nat.zero_le _, Nat.zero_le _⟩ (fun ta28 => ?_)
          clear hg
          refine x_iconst (v := 5) C dX7_callIt_54 (by decide) ?_
          refine x_iadd C dX7_callIt_55 ?_
          obtain ⟨g29, hf⟩ := x_gd hf
          refine x_iald C xkd_10 xl_10 g29 dX7_callIt_56 ?_
          refine x_if_ne C 68 dX7_callIt_57 (by decide) (fun hc30 => ?_) (fun hc30 => ?_)
          · have hf := x_ine hc30 hf
            refine x_iload_n C 2 dX7_callIt_68 rfl ?_
            refine x_istore_n (lv' := [(1, .int v1), (3, .int (0 : Int32)), (0, .ref (xad G 9)), (2, .int v2)]) C dX7_callIt_69 rfl (by decide) rfl ?_
            refine x_iinc (v := v2 + 1) (lv' := [(2, .int (v2 + 1)), (1, .int v1), (3, .int (0 : Int32)), (0, .ref (xad G 9))]) C 3 dX7_callIt_70 rfl rfl (by decide) rfl ?_
            refine x_goto C 4 dX7_callIt_73 (by decide) ?_
            refine x_sub [3, 1, 0] rfl ?_
            exact ih v1 (v2 + 1) _ _ hf
          · have hf := x_ip hc30 hf
            refine x_iload_n C 0 dX7_callIt_60 rfl ?_
            refine x_if_eq C 68 dX7_callIt_61 (by decide) (fun hc31 => ?_) (fun hc31 => ?_)
            · have hf := x_ip hc31 hf
              refine x_iload_n C 2 dX7_callIt_68 rfl ?_
              refine x_istore_n (lv' := [(1, .int v1), (3, .int (0 : Int32)), (0, .ref (xad G 9)), (2, .int v2)]) C dX7_callIt_69 rfl (by decide) rfl ?_
              refine x_iinc (v := v2 + 1) (lv' := [(2, .int (v2 + 1)), (1, .int v1), (3, .int (0 : Int32)), (0, .ref (xad G 9))]) C 3 dX7_callIt_70 rfl rfl (by decide) rfl ?_
              refine x_goto C 4 dX7_callIt_73 (by decide) ?_
              refine x_sub [3, 1, 0] rfl ?_
              exact ih v1 (v2 + 1) _ _ hf
            · have hf := x_ine hc31 hf
              refine x_iload_n C 3 dX7_callIt_64 rfl ?_
              refine x_goto C 69 dX7_callIt_65 (by decide) ?_
              refine x_istore_n (lv' := [(1, .int v2), (3, .int (0 : Int32)), (0, .ref (xad G 9)), (2, .int v2)]) C dX7_callIt_69 rfl (by decide) rfl ?_
              refine x_iinc (v := v2 + 1) (lv' := [(2, .int (v2 + 1)), (1, .int v2), (3, .int (0 : Int32)), (0, .ref (xad G 9))]) C 3 dX7_callIt_70 rfl rfl (by decide) rfl ?_
              refine x_goto C 4 dX7_callIt_73 (by decide) ?_
              refine x_sub [3, 1, 0] rfl ?_
              exact ih v2 (v2 + 1) _ _ hf
        · have hf := x_ine hc26 hf
          refine x_iconst (v := 1) C dX7_callIt_40 (by decide) ?_
          refine x_goto C 45 dX7_callIt_41 (by decide) ?_
          refine x_istore_n (lv' := [(3, .int (1 : Int32)), (0, .ref (xad G 9)), (1, .int v1), (2, .int v2)]) C dX7_callIt_45 rfl (by decide) rfl ?_
          refine x_aload_n C 1 dX7_callIt_46 rfl ?_
          refine x_get9 C xkd_9 i9 0 (by decide) (by decide +kernel) rfl rfl dX7_callIt_47 ?_
          refine x_iload_n C 3 dX7_callIt_50 rfl ?_
          obtain ⟨q32, hg, hf⟩ := x_bd hf
          refine x_callSr C (t_X7_personAt hg) (va_cwS 1 C.1.2.2.2.2 gX7_callIt_X7_personAt rfl rfl rfl (by decide +kernel) ⟨Nat.le_of_ble_eq_true rfl, Nat.le_of_ble_eq_true rfl⟩) rfl rfl (Nat.le_of_ble_eq_true rfl) dX7_callIt_51 ⟨Nat.zero_le _, Nat.zero_le _⟩ (fun ta33 => ?_)
          clear hg
          refine x_iconst (v := 5) C dX7_callIt_54 (by decide) ?_
          refine x_iadd C dX7_callIt_55 ?_
          obtain ⟨g34, hf⟩ := x_gd hf
          refine x_iald C xkd_10 xl_10 g34 dX7_callIt_56 ?_
          refine x_if_ne C 68 dX7_callIt_57 (by decide) (fun hc35 => ?_) (fun hc35 => ?_)
          · have hf := x_ine hc35 hf
            refine x_iload_n C 2 dX7_callIt_68 rfl ?_
            refine x_istore_n (lv' := [(1, .int v1), (3, .int (1 : Int32)), (0, .ref (xad G 9)), (2, .int v2)]) C dX7_callIt_69 rfl (by decide) rfl ?_
            refine x_iinc (v := v2 + 1) (lv' := [(2, .int (v2 + 1)), (1, .int v1), (3, .int (1 : Int32)), (0, .ref (xad G 9))]) C 3 dX7_callIt_70 rfl rfl (by decide) rfl ?_
            refine x_goto C 4 dX7_callIt_73 (by decide) ?_
            refine x_sub [3, 1, 0] rfl ?_
            exact ih v1 (v2 + 1) _ _ hf
          · have hf := x_ip hc35 hf
            refine x_iload_n C 0 dX7_callIt_60 rfl ?_
            refine x_if_eq C 68 dX7_callIt_61 (by decide) (fun hc36 => ?_) (fun hc36 => ?_)
            · have hf := x_ip hc36 hf
              refine x_iload_n C 2 dX7_callIt_68 rfl ?_
              refine x_istore_n (lv' := [(1, .int v1), (3, .int (1 : Int32)), (0, .ref (xad G 9)), (2, .int v2)]) C dX7_callIt_69 rfl (by decide) rfl ?_
              refine x_iinc (v := v2 + 1) (lv' := [(2, .int (v2 + 1)), (1, .int v1), (3, .int (1 : Int32)), (0, .ref (xad G 9))]) C 3 dX7_callIt_70 rfl rfl (by decide) rfl ?_
              refine x_goto C 4 dX7_callIt_73 (by decide) ?_
              refine x_sub [3, 1, 0] rfl ?_
              exact ih v1 (v2 + 1) _ _ hf
            · have hf := x_ine hc36 hf
              refine x_iload_n C 3 dX7_callIt_64 rfl ?_
              refine x_goto C 69 dX7_callIt_65 (by decide) ?_
              refine x_istore_n (lv' := [(1, .int v2), (3, .int (1 : Int32)), (0, .ref (xad G 9)), (2, .int v2)]) C dX7_callIt_69 rfl (by decide) rfl ?_
              refine x_iinc (v := v2 + 1) (lv' := [(2, .int (v2 + 1)), (1, .int v2), (3, .int (1 : Int32)), (0, .ref (xad G 9))]) C 3 dX7_callIt_70 rfl rfl (by decide) rfl ?_
              refine x_goto C 4 dX7_callIt_73 (by decide) ?_
              refine x_sub [3, 1, 0] rfl ?_
              exact ih v2 (v2 + 1) _ _ hf
set_option maxHeartbeats 4000000 in
set_option maxRecDepth 100000 in
theorem t_X7_callIt {l : Launch} {G : xG} {ta : Nat × Nat} {M : xM} {out : Int32 × xM} (hf : f_X7_callIt M = some out) : xMet G l yX7_callIt wsX7_callIt (rm_X7_callIt 0 0) 0 0 ta M [.ref (xad G 9)] (some (.int out.1)) out.2 := by
  refine x_met (cc := cX7_callIt) (nL := 4) (ret := some .int) (by decide) rfl (Nat.le_of_ble_eq_true rfl) ?_
  intro p e s m args below meth c C hr hlk
  have C : xC G p s m args c cX7_callIt 4 wsX7_callIt RX7 := C
  have i9 : ∀ w ∈ wsX70, w ∈ wsX7_callIt := by decide +kernel
  unfold f_X7_callIt at hf
  show xW G p l e (rm_X7_callIt 0 0) s m args below meth c 4 (MQ below (xQr G (some (.int out.1)) out.2) args s 0 0 (xAs G)) 0 0 ta M 0 [(0, .ref (xad G 9))] []
  refine x_iconst (v := (-1)) C dX7_callIt_0 (by decide) ?_
  refine x_istore_n (lv' := [(1, .int (-1 : Int32)), (0, .ref (xad G 9))]) C dX7_callIt_1 rfl (by decide) rfl ?_
  refine x_iconst (v := 0) C dX7_callIt_2 (by decide) ?_
  refine x_istore_n (lv' := [(2, .int (0 : Int32)), (1, .int (-1 : Int32)), (0, .ref (xad G 9))]) C dX7_callIt_3 rfl (by decide) rfl ?_
  refine x_sub [2, 1, 0] rfl ?_
  exact t_X7_callIt_L4 C hr hlk xF (-1 : Int32) (0 : Int32) _ _ hf
/-! WaitingRoomSimulationModel.callNext()I -/
abbrev rm_X7_callNext (c s : Nat) : Room := { frames := 2, cells := c, slots := s, locals := 44 }
def f_X7_callNext (M : xM) : Option (Int32 × xM) := (f_X7_starts M).bind fun q1 => (f_X7_callIt q1).bind fun q3 => (f_X7_changed q3.1 q3.2).bind fun q5 => some (q5.1, q5.2)
set_option maxHeartbeats 4000000 in
set_option maxRecDepth 100000 in
theorem t_X7_callNext {l : Launch} {G : xG} {ta : Nat × Nat} {M : xM} {out : Int32 × xM} (hf : f_X7_callNext M = some out) : xMet G l yX7_callNext wsX7_callNext (rm_X7_callNext 0 0) 0 0 ta M [.ref (xad G 9)] (some (.int out.1)) out.2 := by
  refine x_met (cc := cX7_callNext) (nL := 1) (ret := some .int) (by decide) rfl (Nat.le_of_ble_eq_true rfl) ?_
  intro p e s m args below meth c C hr hlk
  have C : xC G p s m args c cX7_callNext 1 wsX7_callNext RX7 := C
  unfold f_X7_callNext at hf
  show xW G p l e (rm_X7_callNext 0 0) s m args below meth c 1 (MQ below (xQr G (some (.int out.1)) out.2) args s 0 0 (xAs G)) 0 0 ta M 0 [(0, .ref (xad G 9))] []
  refine x_aload_n C 0 dX7_callNext_0 rfl ?_
  obtain ⟨q1, hg, hf⟩ := x_bd hf
  refine x_callVv C (by rw [xkd_9]; decide) (by rw [xkd_9]; decide) (xc9 xkd_9) rfl (t_X7_starts hg) (cwV 0 C.1.2.2.2.2 gX7_callNext_X7_starts rfl rfl rfl (by decide +kernel) ⟨Nat.le_of_ble_eq_true rfl, Nat.le_of_ble_eq_true rfl⟩) rfl rfl (Nat.le_of_ble_eq_true rfl) dX7_callNext_1 ⟨Nat.zero_le _, Nat.zero_le _⟩ (fun ta2 => ?_)
  clear hg
  refine x_aload_n C 0 dX7_callNext_4 rfl ?_
  refine x_aload_n C 0 dX7_callNext_5 rfl ?_
  obtain ⟨q3, hg, hf⟩ := x_bd hf
  refine x_callVr C (by rw [xkd_9]; decide) (by rw [xkd_9]; decide) (xc9 xkd_9) rfl (t_X7_callIt hg) (cwV 0 C.1.2.2.2.2 gX7_callNext_X7_callIt rfl rfl rfl (by decide +kernel) ⟨Nat.le_of_ble_eq_true rfl, Nat.le_of_ble_eq_true rfl⟩) rfl rfl (Nat.le_of_ble_eq_true rfl) dX7_callNext_6 ⟨Nat.zero_le _, Nat.zero_le _⟩ (fun ta4 => ?_)
  clear hg
  obtain ⟨q5, hg, hf⟩ := x_bd hf
  refine x_callVr C (by rw [xkd_9]; decide) (by rw [xkd_9]; decide) (xc9 xkd_9) rfl (t_X7_changed hg) (cwV 1 C.1.2.2.2.2 gX7_callNext_X7_changed rfl rfl rfl (by decide +kernel) ⟨Nat.le_of_ble_eq_true rfl, Nat.le_of_ble_eq_true rfl⟩) rfl rfl (Nat.le_of_ble_eq_true rfl) dX7_callNext_9 ⟨Nat.zero_le _, Nat.zero_le _⟩ (fun ta6 => ?_)
  clear hg
  obtain rfl := Option.some.inj hf
  exact x_iret C hr hlk dX7_callNext_12
/-! WaitingRoomSimulationModel.swapIt(II)I -/
abbrev rm_X7_swapIt (c s : Nat) : Room := { frames := 2, cells := c, slots := s, locals := 46 }
def f_X7_swapIt (a1 : Int32) (a2 : Int32) (M : xM) : Option (Int32 × xM) := (f_X7_isHere a1 M).bind fun q1 => (if q1 = 0 then (f_X7_throwing (1 : Int32) M).bind fun q4 => some (q4.1, q4.2) else (f_X7_isHere a2 M).bind fun q6 => (if q6 = 0 then (f_X7_throwing (1 : Int32) M).bind fun q59 => some (q59.1, q59.2) else (if a1 = a2 then (f_X7_throwing (2 : Int32) M).bind fun q57 => some (q57.1, q57.2) else (f_X7_isAtWindow a1 M).bind fun q10 => (if q10 = 0 then (f_X7_isAtWindow a2 M).bind fun q15 => (if q15 = 0 then (f_X7_placeOf a1 M).bind fun q18 => (f_X7_placeOf a2 M).bind fun q20 => (if q20 ≤ q18 then (f_X7_personAt a2 M).bind fun q23 => if x_in (q23 + (1 : Int32)) 159 = true then (if (2 : Int32) ≤ (M.1 10 (q23 + (1 : Int32)).toNatClampNeg) then if x_in (q23 + (1 : Int32)) 159 = true then if x_in (q23 + (1 : Int32)) 159 = true then x_let (sI M 10 (q23 + (1 : Int32)).toNatClampNeg ((M.1 10 (q23 + (1 : Int32)).toNatClampNeg) - (2 : Int32))) fun M29 => if x_in ((123 : Int32) + q18) 159 = true then x_let (sI M29 10 ((123 : Int32) + q18).toNatClampNeg a2) fun M32 => if x_in ((123 : Int32) + q20) 159 = true then x_let (sI M32 10 ((123 : Int32) + q20).toNatClampNeg a1) fun M35 => some ((if 0 ≤ (q18 - q20) then (q18 - q20) else 0 - (q18 - q20)), M35) else none else none else none else none else (f_X7_throwing (4 : Int32) M).bind fun q37 => some (q37.1, q37.2)) else none else (f_X7_personAt a1 M).bind fun q39 => if x_in (q39 + (1 : Int32)) 159 = true then (if (2 : Int32) ≤ (M.1 10 (q39 + (1 : Int32)).toNatClampNeg) then if x_in (q39 + (1 : Int32)) 159 = true then if x_in (q39 + (1 : Int32)) 159 = true then x_let (sI M 10 (q39 + (1 : Int32)).toNatClampNeg ((M.1 10 (q39 + (1 : Int32)).toNatClampNeg) - (2 : Int32))) fun M45 => if x_in ((123 : Int32) + q18) 159 = true then x_let (sI M45 10 ((123 : Int32) + q18).toNatClampNeg a2) fun M48 => if x_in ((123 : Int32) + q20) 159 = true then x_let (sI M48 10 ((123 : Int32) + q20).toNatClampNeg a1) fun M51 => some ((if 0 ≤ (q18 - q20) then (q18 - q20) else 0 - (q18 - q20)), M51) else none else none else none else none else (f_X7_throwing (4 : Int32) M).bind fun q53 => some (q53.1, q53.2)) else none) else (f_X7_throwing (3 : Int32) M).bind fun q55 => some (q55.1, q55.2)) else (f_X7_throwing (3 : Int32) M).bind fun q13 => some (q13.1, q13.2)))))
set_option maxHeartbeats 4000000 in
set_option maxRecDepth 100000 in
theorem t_X7_swapIt {l : Launch} {G : xG} {ta : Nat × Nat} {M : xM} {a1 : Int32} {a2 : Int32} {out : Int32 × xM} (hf : f_X7_swapIt a1 a2 M = some out) : xMet G l yX7_swapIt wsX7_swapIt (rm_X7_swapIt 0 0) 0 0 ta M [.ref (xad G 9), .int a1, .int a2] (some (.int out.1)) out.2 := by
  refine x_met (cc := cX7_swapIt) (nL := 6) (ret := some .int) (by decide) rfl (Nat.le_of_ble_eq_true rfl) ?_
  intro p e s m args below meth c C hr hlk
  have C : xC G p s m args c cX7_swapIt 6 wsX7_swapIt RX7 := C
  have i9 : ∀ w ∈ wsX70, w ∈ wsX7_swapIt := by decide +kernel
  unfold f_X7_swapIt at hf
  show xW G p l e (rm_X7_swapIt 0 0) s m args below meth c 6 (MQ below (xQr G (some (.int out.1)) out.2) args s 0 0 (xAs G)) 0 0 ta M 0 [(0, .ref (xad G 9)), (1, .int a1), (2, .int a2)] []
  refine x_aload_n C 0 dX7_swapIt_0 rfl ?_
  refine x_iload_n C 1 dX7_swapIt_1 rfl ?_
  obtain ⟨q1, hg, hf⟩ := x_bd hf
  refine x_callVr C (by rw [xkd_9]; decide) (by rw [xkd_9]; decide) (xc9 xkd_9) rfl (t_X7_isHere hg) (cwV 1 C.1.2.2.2.2 gX7_swapIt_X7_isHere rfl rfl rfl (by decide +kernel) ⟨Nat.le_of_ble_eq_true rfl, Nat.le_of_ble_eq_true rfl⟩) rfl rfl (Nat.le_of_ble_eq_true rfl) dX7_swapIt_2 ⟨Nat.zero_le _, Nat.zero_le _⟩ (fun ta2 => ?_)
  clear hg
  refine x_if_eq C 16 dX7_swapIt_5 (by decide) (fun hc3 => ?_) (fun hc3 => ?_)
  · have hf := x_ip hc3 hf
    refine x_aload_n C 0 dX7_swapIt_16 rfl ?_
    refine x_iconst (v := 1) C dX7_swapIt_17 (by decide) ?_
    obtain ⟨q4, hg, hf⟩ := x_bd hf
    refine x_callVr C (by rw [xkd_9]; decide) (by rw [xkd_9]; decide) (xc9 xkd_9) rfl (t_X7_throwing hg) (cwV 1 C.1.2.2.2.2 gX7_swapIt_X7_throwing rfl rfl rfl (by decide +kernel) ⟨Nat.le_of_ble_eq_true rfl, Nat.le_of_ble_eq_true rfl⟩) rfl rfl (Nat.le_of_ble_eq_true rfl) dX7_swapIt_18 ⟨Nat.zero_le _, Nat.zero_le _⟩ (fun ta5 => ?_)
    clear hg
    obtain rfl := Option.some.inj hf
    exact x_iret C hr hlk dX7_swapIt_21
  · have hf := x_ine hc3 hf
    refine x_aload_n C 0 dX7_swapIt_8 rfl ?_
    refine x_iload_n C 2 dX7_swapIt_9 rfl ?_
    obtain ⟨q6, hg, hf⟩ := x_bd hf
    refine x_callVr C (by rw [xkd_9]; decide) (by rw [xkd_9]; decide) (xc9 xkd_9) rfl (t_X7_isHere hg) (cwV 1 C.1.2.2.2.2 gX7_swapIt_X7_isHere rfl rfl rfl (by decide +kernel) ⟨Nat.le_of_ble_eq_true rfl, Nat.le_of_ble_eq_true rfl⟩) rfl rfl (Nat.le_of_ble_eq_true rfl) dX7_swapIt_10 ⟨Nat.zero_le _, Nat.zero_le _⟩ (fun ta7 => ?_)
    clear hg
    refine x_if_ne C 22 dX7_swapIt_13 (by decide) (fun hc8 => ?_) (fun hc8 => ?_)
    · have hf := x_ine hc8 hf
      refine x_iload_n C 1 dX7_swapIt_22 rfl ?_
      refine x_iload_n C 2 dX7_swapIt_23 rfl ?_
      refine x_icmp_ne C 33 dX7_swapIt_24 (by decide) (fun hc9 => ?_) (fun hc9 => ?_)
      · have hf := x_ine hc9 hf
        refine x_aload_n C 0 dX7_swapIt_33 rfl ?_
        refine x_iload_n C 1 dX7_swapIt_34 rfl ?_
        obtain ⟨q10, hg, hf⟩ := x_bd hf
        refine x_callVr C (by rw [xkd_9]; decide) (by rw [xkd_9]; decide) (xc9 xkd_9) rfl (t_X7_isAtWindow hg) (cwV 1 C.1.2.2.2.2 gX7_swapIt_X7_isAtWindow rfl rfl rfl (by decide +kernel) ⟨Nat.le_of_ble_eq_true rfl, Nat.le_of_ble_eq_true rfl⟩) rfl rfl (Nat.le_of_ble_eq_true rfl) dX7_swapIt_35 ⟨Nat.zero_le _, Nat.zero_le _⟩ (fun ta11 => ?_)
        clear hg
        refine x_if_ne C 49 dX7_swapIt_38 (by decide) (fun hc12 => ?_) (fun hc12 => ?_)
        · have hf := x_ine hc12 hf
          refine x_aload_n C 0 dX7_swapIt_49 rfl ?_
          refine x_iconst (v := 3) C dX7_swapIt_50 (by decide) ?_
          obtain ⟨q13, hg, hf⟩ := x_bd hf
          refine x_callVr C (by rw [xkd_9]; decide) (by rw [xkd_9]; decide) (xc9 xkd_9) rfl (t_X7_throwing hg) (cwV 1 C.1.2.2.2.2 gX7_swapIt_X7_throwing rfl rfl rfl (by decide +kernel) ⟨Nat.le_of_ble_eq_true rfl, Nat.le_of_ble_eq_true rfl⟩) rfl rfl (Nat.le_of_ble_eq_true rfl) dX7_swapIt_51 ⟨Nat.zero_le _, Nat.zero_le _⟩ (fun ta14 => ?_)
          clear hg
          obtain rfl := Option.some.inj hf
          exact x_iret C hr hlk dX7_swapIt_54
        · have hf := x_ip hc12 hf
          refine x_aload_n C 0 dX7_swapIt_41 rfl ?_
          refine x_iload_n C 2 dX7_swapIt_42 rfl ?_
          obtain ⟨q15, hg, hf⟩ := x_bd hf
          refine x_callVr C (by rw [xkd_9]; decide) (by rw [xkd_9]; decide) (xc9 xkd_9) rfl (t_X7_isAtWindow hg) (cwV 1 C.1.2.2.2.2 gX7_swapIt_X7_isAtWindow rfl rfl rfl (by decide +kernel) ⟨Nat.le_of_ble_eq_true rfl, Nat.le_of_ble_eq_true rfl⟩) rfl rfl (Nat.le_of_ble_eq_true rfl) dX7_swapIt_43 ⟨Nat.zero_le _, Nat.zero_le _⟩ (fun ta16 => ?_)
          clear hg
          refine x_if_eq C 55 dX7_swapIt_46 (by decide) (fun hc17 => ?_) (fun hc17 => ?_)
          · have hf := x_ip hc17 hf
            refine x_aload_n C 0 dX7_swapIt_55 rfl ?_
            refine x_iload_n C 1 dX7_swapIt_56 rfl ?_
            obtain ⟨q18, hg, hf⟩ := x_bd hf
            refine x_callVr C (by rw [xkd_9]; decide) (by rw [xkd_9]; decide) (xc9 xkd_9) rfl (t_X7_placeOf hg) (cwV 1 C.1.2.2.2.2 gX7_swapIt_X7_placeOf rfl rfl rfl (by decide +kernel) ⟨Nat.le_of_ble_eq_true rfl, Nat.le_of_ble_eq_true rfl⟩) rfl rfl (Nat.le_of_ble_eq_true rfl) dX7_swapIt_57 ⟨Nat.zero_le _, Nat.zero_le _⟩ (fun ta19 => ?_)
            clear hg
            refine x_istore_n (lv' := [(3, .int q18), (0, .ref (xad G 9)), (1, .int a1), (2, .int a2)]) C dX7_swapIt_60 rfl (by decide) rfl ?_
            refine x_aload_n C 1 dX7_swapIt_61 rfl ?_
            refine x_iload_n C 3 dX7_swapIt_62 rfl ?_
            obtain ⟨q20, hg, hf⟩ := x_bd hf
            refine x_callVr C (by rw [xkd_9]; decide) (by rw [xkd_9]; decide) (xc9 xkd_9) rfl (t_X7_placeOf hg) (cwV 1 C.1.2.2.2.2 gX7_swapIt_X7_placeOf rfl rfl rfl (by decide +kernel) ⟨Nat.le_of_ble_eq_true rfl, Nat.le_of_ble_eq_true rfl⟩) rfl rfl (Nat.le_of_ble_eq_true rfl) dX7_swapIt_63 ⟨Nat.zero_le _, Nat.zero_le _⟩ (fun ta21 => ?_)
            clear hg
            refine x_istore (lv' := [(4, .int q20), (3, .int q18), (0, .ref (xad G 9)), (1, .int a1), (2, .int a2)]) C dX7_swapIt_66 (by decide) rfl ?_
            refine x_iload_n C 1 dX7_swapIt_68 rfl ?_
            refine x_iload C 0 dX7_swapIt_69 rfl ?_
            refine x_icmp_ge C 78 dX7_swapIt_71 (by decide) (fun hc22 => ?_) (fun hc22 => ?_)
            · have hf := x_ip hc22 hf
              refine x_iload_n C 4 dX7_swapIt_78 rfl ?_
              obtain ⟨q23, hg, hf⟩ := x_bd hf
              refine x_callSr C (t_X7_personAt hg) (va_cwS 1 C.1.2.2.2.2 gX7_swapIt_X7_personAt rfl rfl rfl (by decide +kernel) ⟨Nat.le_of_ble_eq_true rfl, Nat.le_of_ble_eq_true rfl⟩) rfl rfl (Nat.le_of_ble_eq_true rfl) dX7_swapIt_79 ⟨Nat.zero_le _, Nat.zero_le _⟩ (fun ta24 => ?_)
              clear hg
              refine x_iconst (v := 1) C dX7_swapIt_82 (by decide) ?_
              refine x_iadd C dX7_swapIt_83 ?_
              refine x_istore (lv' := [(5, .int (q23 + (1 : Int32))), (4, .int q20), (3, .int q18), (0, .ref (xad G 9)), (1, .int a1), (2, .int a2)]) C dX7_swapIt_84 (by decide) rfl ?_
              refine x_aload_n C 3 dX7_swapIt_86 rfl ?_
              refine x_get9 C xkd_9 i9 0 (by decide) (by decide +kernel) rfl rfl dX7_swapIt_87 ?_
              refine x_iload C 0 dX7_swapIt_90 rfl ?_
              obtain ⟨g25, hf⟩ := x_gd hf
              refine x_iald C xkd_10 xl_10 g25 dX7_swapIt_92 ?_
              refine x_iconst (v := 2) C dX7_swapIt_93 (by decide) ?_
              refine x_icmp_ge C 103 dX7_swapIt_94 (by decide) (fun hc26 => ?_) (fun hc26 => ?_)
              · have hf := x_ip hc26 hf
                refine x_aload_n C 3 dX7_swapIt_103 rfl ?_
                refine x_get9 C xkd_9 i9 0 (by decide) (by decide +kernel) rfl rfl dX7_swapIt_104 ?_
                refine x_iload C 0 dX7_swapIt_107 rfl ?_
                refine x_dup2 C dX7_swapIt_109 rfl rfl ?_
                obtain ⟨g27, hf⟩ := x_gd hf
                refine x_iald C xkd_10 xl_10 g27 dX7_swapIt_110 ?_
                refine x_iconst (v := 2) C dX7_swapIt_111 (by decide) ?_
                refine x_isub C dX7_swapIt_112 ?_
                obtain ⟨g28, hf⟩ := x_gd hf
                refine x_iast C xkd_10 xl_10 g28 dX7_swapIt_113 ?_
                obtain ⟨M29, e30, hf⟩ := x_lt hf
                rw [← e30]
                clear e30
                refine x_aload_n C 3 dX7_swapIt_114 rfl ?_
                refine x_get9 C xkd_9 i9 0 (by decide) (by decide +kernel) rfl rfl dX7_swapIt_115 ?_
                refine x_bipush (v := 123) C dX7_swapIt_118 (by decide) ?_
                refine x_iload_n C 2 dX7_swapIt_120 rfl ?_
                refine x_iadd C dX7_swapIt_121 ?_
                refine x_iload_n C 5 dX7_swapIt_122 rfl ?_
                obtain ⟨g31, hf⟩ := x_gd hf
                refine x_iast C xkd_10 xl_10 g31 dX7_swapIt_123 ?_
                obtain ⟨M32, e33, hf⟩ := x_lt hf
                rw [← e33]
                clear e33
                refine x_aload_n C 3 dX7_swapIt_124 rfl ?_
                refine x_get9 C xkd_9 i9 0 (by decide) (by decide +kernel) rfl rfl dX7_swapIt_125 ?_
                refine x_bipush (v := 123) C dX7_swapIt_128 (by decide) ?_
                refine x_iload C 1 dX7_swapIt_130 rfl ?_
                refine x_iadd C dX7_swapIt_132 ?_
                refine x_iload_n C 4 dX7_swapIt_133 rfl ?_
                obtain ⟨g34, hf⟩ := x_gd hf
                refine x_iast C xkd_10 xl_10 g34 dX7_swapIt_134 ?_
                obtain ⟨M35, e36, hf⟩ := x_lt hf
                rw [← e36]
                clear e36
                refine x_iload_n C 2 dX7_swapIt_135 rfl ?_
                refine x_iload C 1 dX7_swapIt_136 rfl ?_
                refine x_isub C dX7_swapIt_138 ?_
                refine x_mabs C (by decide +kernel) (by decide +kernel) (by decide +kernel) (by decide +kernel) ⟨Nat.le_of_ble_eq_true rfl, Nat.le_of_ble_eq_true rfl⟩ ⟨Nat.zero_le _, Nat.zero_le _⟩ dX7_swapIt_139 ?_
                obtain rfl := Option.some.inj hf
                exact x_iret C hr hlk dX7_swapIt_142
              · have hf := x_ine hc26 hf
                refine x_aload_n C 3 dX7_swapIt_97 rfl ?_
                refine x_iconst (v := 4) C dX7_swapIt_98 (by decide) ?_
                obtain ⟨q37, hg, hf⟩ := x_bd hf
                refine x_callVr C (by rw [xkd_9]; decide) (by rw [xkd_9]; decide) (xc9 xkd_9) rfl (t_X7_throwing hg) (cwV 1 C.1.2.2.2.2 gX7_swapIt_X7_throwing rfl rfl rfl (by decide +kernel) ⟨Nat.le_of_ble_eq_true rfl, Nat.le_of_ble_eq_true rfl⟩) rfl rfl (Nat.le_of_ble_eq_true rfl) dX7_swapIt_99 ⟨Nat.zero_le _, Nat.zero_le _⟩ (fun ta38 => ?_)
                clear hg
                obtain rfl := Option.some.inj hf
                exact x_iret C hr hlk dX7_swapIt_102
            · have hf := x_ine hc22 hf
              refine x_iload_n C 3 dX7_swapIt_74 rfl ?_
              refine x_goto C 79 dX7_swapIt_75 (by decide) ?_
              obtain ⟨q39, hg, hf⟩ := x_bd hf
              refine x_callSr C (t_X7_personAt hg) (va_cwS 1 C.1.2.2.2.2 gX7_swapIt_X7_personAt rfl rfl rfl (by decide +kernel) ⟨Nat.le_of_ble_eq_true rfl, Nat.le_of_ble_eq_true rfl⟩) rfl rfl (Nat.le_of_ble_eq_true rfl) dX7_swapIt_79 ⟨Nat.zero_le _, Nat.zero_le _⟩ (fun ta40 => ?_)
              clear hg
              refine x_iconst (v := 1) C dX7_swapIt_82 (by decide) ?_
              refine x_iadd C dX7_swapIt_83 ?_
              refine x_istore (lv' := [(5, .int (q39 + (1 : Int32))), (4, .int q20), (3, .int q18), (0, .ref (xad G 9)), (1, .int a1), (2, .int a2)]) C dX7_swapIt_84 (by decide) rfl ?_
              refine x_aload_n C 3 dX7_swapIt_86 rfl ?_
              refine x_get9 C xkd_9 i9 0 (by decide) (by decide +kernel) rfl rfl dX7_swapIt_87 ?_
              refine x_iload C 0 dX7_swapIt_90 rfl ?_
              obtain ⟨g41, hf⟩ := x_gd hf
              refine x_iald C xkd_10 xl_10 g41 dX7_swapIt_92 ?_
              refine x_iconst (v := 2) C dX7_swapIt_93 (by decide) ?_
              refine x_icmp_ge C 103 dX7_swapIt_94 (by decide) (fun hc42 => ?_) (fun hc42 => ?_)
              · have hf := x_ip hc42 hf
                refine x_aload_n C 3 dX7_swapIt_103 rfl ?_
                refine x_get9 C xkd_9 i9 0 (by decide) (by decide +kernel) rfl rfl dX7_swapIt_104 ?_
                refine x_iload C 0 dX7_swapIt_107 rfl ?_
                refine x_dup2 C dX7_swapIt_109 rfl rfl ?_
                obtain ⟨g43, hf⟩ := x_gd hf
                refine x_iald C xkd_10 xl_10 g43 dX7_swapIt_110 ?_
                refine x_iconst (v := 2) C dX7_swapIt_111 (by decide) ?_
                refine x_isub C dX7_swapIt_112 ?_
                obtain ⟨g44, hf⟩ := x_gd hf
                refine x_iast C xkd_10 xl_10 g44 dX7_swapIt_113 ?_
                obtain ⟨M45, e46, hf⟩ := x_lt hf
                rw [← e46]
                clear e46
                refine x_aload_n C 3 dX7_swapIt_114 rfl ?_
                refine x_get9 C xkd_9 i9 0 (by decide) (by decide +kernel) rfl rfl dX7_swapIt_115 ?_
                refine x_bipush (v := 123) C dX7_swapIt_118 (by decide) ?_
                refine x_iload_n C 2 dX7_swapIt_120 rfl ?_
                refine x_iadd C dX7_swapIt_121 ?_
                refine x_iload_n C 5 dX7_swapIt_122 rfl ?_
                obtain ⟨g47, hf⟩ := x_gd hf
                refine x_iast C xkd_10 xl_10 g47 dX7_swapIt_123 ?_
                obtain ⟨M48, e49, hf⟩ := x_lt hf
                rw [← e49]
                clear e49
                refine x_aload_n C 3 dX7_swapIt_124 rfl ?_
                refine x_get9 C xkd_9 i9 0 (by decide) (by decide +kernel) rfl rfl dX7_swapIt_125 ?_
                refine x_bipush (v := 123) C dX7_swapIt_128 (by decide) ?_
                refine x_iload C 1 dX7_swapIt_130 rfl ?_
                refine x_iadd C dX7_swapIt_132 ?_
                refine x_iload_n C 4 dX7_swapIt_133 rfl ?_
                obtain ⟨g50, hf⟩ := x_gd hf
                refine x_iast C xkd_10 xl_10 g50 dX7_swapIt_134 ?_
                obtain ⟨M51, e52, hf⟩ := x_lt hf
                rw [← e52]
                clear e52
                refine x_iload_n C 2 dX7_swapIt_135 rfl ?_
                refine x_iload C 1 dX7_swapIt_136 rfl ?_
                refine x_isub C dX7_swapIt_138 ?_
                refine x_mabs C (by decide +kernel) (by decide +kernel) (by decide +kernel) (by decide +kernel) ⟨Nat.le_of_ble_eq_true rfl, Nat.le_of_ble_eq_true rfl⟩ ⟨Nat.zero_le _, Nat.zero_le _⟩ dX7_swapIt_139 ?_
                obtain rfl := Option.some.inj hf
                exact x_iret C hr hlk dX7_swapIt_142
              · have hf := x_ine hc42 hf
                refine x_aload_n C 3 dX7_swapIt_97 rfl ?_
                refine x_iconst (v := 4) C dX7_swapIt_98 (by decide) ?_
                obtain ⟨q53, hg, hf⟩ := x_bd hf
                refine x_callVr C (by rw [xkd_9]; decide) (by rw [xkd_9]; decide) (xc9 xkd_9) rfl (t_X7_throwing hg) (cwV 1 C.1.2.2.2.2 gX7_swapIt_X7_throwing rfl rfl rfl (by decide +kernel) ⟨Nat.le_of_ble_eq_true rfl, Nat.le_of_ble_eq_true rfl⟩) rfl rfl (Nat.le_of_ble_eq_true rfl) dX7_swapIt_99 ⟨Nat.zero_le _, Nat.zero_le _⟩ (fun ta54 => ?_)
                clear hg
                obtain rfl := Option.some.inj hf
                exact x_iret C hr hlk dX7_swapIt_102
          · have hf := x_ine hc17 hf
            refine x_aload_n C 0 dX7_swapIt_49 rfl ?_
            refine x_iconst (v := 3) C dX7_swapIt_50 (by decide) ?_
            obtain ⟨q55, hg, hf⟩ := x_bd hf
            refine x_callVr C (by rw [xkd_9]; decide) (by rw [xkd_9]; decide) (xc9 xkd_9) rfl (t_X7_throwing hg) (cwV 1 C.1.2.2.2.2 gX7_swapIt_X7_throwing rfl rfl rfl (by decide +kernel) ⟨Nat.le_of_ble_eq_true rfl, Nat.le_of_ble_eq_true rfl⟩) rfl rfl (Nat.le_of_ble_eq_true rfl) dX7_swapIt_51 ⟨Nat.zero_le _, Nat.zero_le _⟩ (fun ta56 => ?_)
            clear hg
            obtain rfl := Option.some.inj hf
            exact x_iret C hr hlk dX7_swapIt_54
      · have hf := x_ip hc9 hf
        refine x_aload_n C 0 dX7_swapIt_27 rfl ?_
        refine x_iconst (v := 2) C dX7_swapIt_28 (by decide) ?_
        obtain ⟨q57, hg, hf⟩ := x_bd hf
        refine x_callVr C (by rw [xkd_9]; decide) (by rw [xkd_9]; decide) (xc9 xkd_9) rfl (t_X7_throwing hg) (cwV 1 C.1.2.2.2.2 gX7_swapIt_X7_throwing rfl rfl rfl (by decide +kernel) ⟨Nat.le_of_ble_eq_true rfl, Nat.le_of_ble_eq_true rfl⟩) rfl rfl (Nat.le_of_ble_eq_true rfl) dX7_swapIt_29 ⟨Nat.zero_le _, Nat.zero_le _⟩ (fun ta58 => ?_)
        clear hg
        obtain rfl := Option.some.inj hf
        exact x_iret C hr hlk dX7_swapIt_32
    · have hf := x_ip hc8 hf
      refine x_aload_n C 0 dX7_swapIt_16 rfl ?_
      refine x_iconst (v := 1) C dX7_swapIt_17 (by decide) ?_
      obtain ⟨q59, hg, hf⟩ := x_bd hf
      refine x_callVr C (by rw [xkd_9]; decide) (by rw [xkd_9]; decide) (xc9 xkd_9) rfl (t_X7_throwing hg) (cwV 1 C.1.2.2.2.2 gX7_swapIt_X7_throwing rfl rfl rfl (by decide +kernel) ⟨Nat.le_of_ble_eq_true rfl, Nat.le_of_ble_eq_true rfl⟩) rfl rfl (Nat.le_of_ble_eq_true rfl) dX7_swapIt_18 ⟨Nat.zero_le _, Nat.zero_le _⟩ (fun ta60 => ?_)
      clear hg
      obtain rfl := Option.some.inj hf
      exact x_iret C hr hlk dX7_swapIt_21
/-! WaitingRoomSimulationModel.swap(II)I -/
abbrev rm_X7_swap (c s : Nat) : Room := { frames := 3, cells := c, slots := s, locals := 71 }
def f_X7_swap (a1 : Int32) (a2 : Int32) (M : xM) : Option (Int32 × xM) := (f_X7_starts M).bind fun q1 => (f_X7_swapIt a1 a2 q1).bind fun q3 => (f_X7_changed q3.1 q3.2).bind fun q5 => some (q5.1, q5.2)
set_option maxHeartbeats 4000000 in
set_option maxRecDepth 100000 in
theorem t_X7_swap {l : Launch} {G : xG} {ta : Nat × Nat} {M : xM} {a1 : Int32} {a2 : Int32} {out : Int32 × xM} (hf : f_X7_swap a1 a2 M = some out) : xMet G l yX7_swap wsX7_swap (rm_X7_swap 0 0) 0 0 ta M [.ref (xad G 9), .int a1, .int a2] (some (.int out.1)) out.2 := by
  refine x_met (cc := cX7_swap) (nL := 3) (ret := some .int) (by decide) rfl (Nat.le_of_ble_eq_true rfl) ?_
  intro p e s m args below meth c C hr hlk
  have C : xC G p s m args c cX7_swap 3 wsX7_swap RX7 := C
  unfold f_X7_swap at hf
  show xW G p l e (rm_X7_swap 0 0) s m args below meth c 3 (MQ below (xQr G (some (.int out.1)) out.2) args s 0 0 (xAs G)) 0 0 ta M 0 [(0, .ref (xad G 9)), (1, .int a1), (2, .int a2)] []
  refine x_aload_n C 0 dX7_swap_0 rfl ?_
  obtain ⟨q1, hg, hf⟩ := x_bd hf
  refine x_callVv C (by rw [xkd_9]; decide) (by rw [xkd_9]; decide) (xc9 xkd_9) rfl (t_X7_starts hg) (cwV 0 C.1.2.2.2.2 gX7_swap_X7_starts rfl rfl rfl (by decide +kernel) ⟨Nat.le_of_ble_eq_true rfl, Nat.le_of_ble_eq_true rfl⟩) rfl rfl (Nat.le_of_ble_eq_true rfl) dX7_swap_1 ⟨Nat.zero_le _, Nat.zero_le _⟩ (fun ta2 => ?_)
  clear hg
  refine x_aload_n C 0 dX7_swap_4 rfl ?_
  refine x_aload_n C 0 dX7_swap_5 rfl ?_
  refine x_iload_n C 1 dX7_swap_6 rfl ?_
  refine x_iload_n C 2 dX7_swap_7 rfl ?_
  obtain ⟨q3, hg, hf⟩ := x_bd hf
  refine x_callVr C (by rw [xkd_9]; decide) (by rw [xkd_9]; decide) (xc9 xkd_9) rfl (t_X7_swapIt hg) (cwV 2 C.1.2.2.2.2 gX7_swap_X7_swapIt rfl rfl rfl (by decide +kernel) ⟨Nat.le_of_ble_eq_true rfl, Nat.le_of_ble_eq_true rfl⟩) rfl rfl (Nat.le_of_ble_eq_true rfl) dX7_swap_8 ⟨Nat.zero_le _, Nat.zero_le _⟩ (fun ta4 => ?_)
  clear hg
  obtain ⟨q5, hg, hf⟩ := x_bd hf
  refine x_callVr C (by rw [xkd_9]; decide) (by rw [xkd_9]; decide) (xc9 xkd_9) rfl (t_X7_changed hg) (cwV 1 C.1.2.2.2.2 gX7_swap_X7_changed rfl rfl rfl (by decide +kernel) ⟨Nat.le_of_ble_eq_true rfl, Nat.le_of_ble_eq_true rfl⟩) rfl rfl (Nat.le_of_ble_eq_true rfl) dX7_swap_11 ⟨Nat.zero_le _, Nat.zero_le _⟩ (fun ta6 => ?_)
  clear hg
  obtain rfl := Option.some.inj hf
  exact x_iret C hr hlk dX7_swap_14
/-! WaitingRoomSimulationModel.sitIt(I)I -/
abbrev rm_X7_sitIt (c s : Nat) : Room := { frames := 2, cells := c, slots := s, locals := 46 }
def f_X7_sitIt (a1 : Int32) (M : xM) : Option (Int32 × xM) := (f_X7_isHere a1 M).bind fun q1 => (if q1 = 0 then (f_X7_throwing (1 : Int32) M).bind fun q27 => some (q27.1, q27.2) else (f_X7_isAtWindow a1 M).bind fun q4 => (if q4 = 0 then (f_X7_personAt a1 M).bind fun q9 => if x_in (q9 + (4 : Int32)) 159 = true then (if (M.1 10 (q9 + (4 : Int32)).toNatClampNeg) = (1 : Int32) then (f_X7_throwing (2 : Int32) M).bind fun q25 => some (q25.1, q25.2) else (f_X7_sitting M).bind fun q13 => (if q13 = (4 : Int32) then (f_X7_throwing (3 : Int32) M).bind fun q23 => some (q23.1, q23.2) else (f_X7_personAt a1 M).bind fun q16 => if x_in (q16 + (4 : Int32)) 159 = true then x_let (sI M 10 (q16 + (4 : Int32)).toNatClampNeg (1 : Int32)) fun M19 => (f_X7_sitting M19).bind fun q21 => some (q21, M19) else none)) else none else (f_X7_throwing (2 : Int32) M).bind fun q7 => some (q7.1, q7.2)))
set_option maxHeartbeats 4000000 in
set_option maxRecDepth 100000 in
theorem t_X7_sitIt {l : Launch} {G : xG} {ta : Nat × Nat} {M : xM} {a1 : Int32} {out : Int32 × xM} (hf : f_X7_sitIt a1 M = some out) : xMet G l yX7_sitIt wsX7_sitIt (rm_X7_sitIt 0 0) 0 0 ta M [.ref (xad G 9), .int a1] (some (.int out.1)) out.2 := by
  refine x_met (cc := cX7_sitIt) (nL := 2) (ret := some .int) (by decide) rfl (Nat.le_of_ble_eq_true rfl) ?_
  intro p e s m args below meth c C hr hlk
  have C : xC G p s m args c cX7_sitIt 2 wsX7_sitIt RX7 := C
  have i9 : ∀ w ∈ wsX70, w ∈ wsX7_sitIt := by decide +kernel
  unfold f_X7_sitIt at hf
  show xW G p l e (rm_X7_sitIt 0 0) s m args below meth c 2 (MQ below (xQr G (some (.int out.1)) out.2) args s 0 0 (xAs G)) 0 0 ta M 0 [(0, .ref (xad G 9)), (1, .int a1)] []
  refine x_aload_n C 0 dX7_sitIt_0 rfl ?_
  refine x_iload_n C 1 dX7_sitIt_1 rfl ?_
  obtain ⟨q1, hg, hf⟩ := x_bd hf
  refine x_callVr C (by rw [xkd_9]; decide) (by rw [xkd_9]; decide) (xc9 xkd_9) rfl (t_X7_isHere hg) (cwV 1 C.1.2.2.2.2 gX7_sitIt_X7_isHere rfl rfl rfl (by decide +kernel) ⟨Nat.le_of_ble_eq_true rfl, Nat.le_of_ble_eq_true rfl⟩) rfl rfl (Nat.le_of_ble_eq_true rfl) dX7_sitIt_2 ⟨Nat.zero_le _, Nat.zero_le _⟩ (fun ta2 => ?_)
  clear hg
  refine x_if_ne C 14 dX7_sitIt_5 (by decide) (fun hc3 => ?_) (fun hc3 => ?_)
  · have hf := x_ine hc3 hf
    refine x_aload_n C 0 dX7_sitIt_14 rfl ?_
    refine x_iload_n C 1 dX7_sitIt_15 rfl ?_
    obtain ⟨q4, hg, hf⟩ := x_bd hf
    refine x_callVr C (by rw [xkd_9]; decide) (by rw [xkd_9]; decide) (xc9 xkd_9) rfl (t_X7_isAtWindow hg) (cwV 1 C.1.2.2.2.2 gX7_sitIt_X7_isAtWindow rfl rfl rfl (by decide +kernel) ⟨Nat.le_of_ble_eq_true rfl, Nat.le_of_ble_eq_true rfl⟩) rfl rfl (Nat.le_of_ble_eq_true rfl) dX7_sitIt_16 ⟨Nat.zero_le _, Nat.zero_le _⟩ (fun ta5 => ?_)
    clear hg
    refine x_if_ne C 37 dX7_sitIt_19 (by decide) (fun hc6 => ?_) (fun hc6 => ?_)
    · have hf := x_ine hc6 hf
      refine x_aload_n C 0 dX7_sitIt_37 rfl ?_
      refine x_iconst (v := 2) C dX7_sitIt_38 (by decide) ?_
      obtain ⟨q7, hg, hf⟩ := x_bd hf
      refine x_callVr C (by rw [xkd_9]; decide) (by rw [xkd_9]; decide) (xc9 xkd_9) rfl (t_X7_throwing hg) (cwV 1 C.1.2.2.2.2 gX7_sitIt_X7_throwing rfl rfl rfl (by decide +kernel) ⟨Nat.le_of_ble_eq_true rfl, Nat.le_of_ble_eq_true rfl⟩) rfl rfl (Nat.le_of_ble_eq_true rfl) dX7_sitIt_39 ⟨Nat.zero_le _, Nat.zero_le _⟩ (fun ta8 => ?_)
      clear hg
      obtain rfl := Option.some.inj hf
      exact x_iret C hr hlk dX7_sitIt_42
    · have hf := x_ip hc6 hf
      refine x_aload_n C 0 dX7_sitIt_22 rfl ?_
      refine x_get9 C xkd_9 i9 0 (by decide) (by decide +kernel) rfl rfl dX7_sitIt_23 ?_
      refine x_iload_n C 1 dX7_sitIt_26 rfl ?_
      obtain ⟨q9, hg, hf⟩ := x_bd hf
      refine x_callSr C (t_X7_personAt hg) (va_cwS 1 C.1.2.2.2.2 gX7_sitIt_X7_personAt rfl rfl rfl (by decide +kernel) ⟨Nat.le_of_ble_eq_true rfl, Nat.le_of_ble_eq_true rfl⟩) rfl rfl (Nat.le_of_ble_eq_true rfl) dX7_sitIt_27 ⟨Nat.zero_le _, Nat.zero_le _⟩ (fun ta10 => ?_)
      clear hg
      refine x_iconst (v := 4) C dX7_sitIt_30 (by decide) ?_
      refine x_iadd C dX7_sitIt_31 ?_
      obtain ⟨g11, hf⟩ := x_gd hf
      refine x_iald C xkd_10 xl_10 g11 dX7_sitIt_32 ?_
      refine x_iconst (v := 1) C dX7_sitIt_33 (by decide) ?_
      refine x_icmp_ne C 43 dX7_sitIt_34 (by decide) (fun hc12 => ?_) (fun hc12 => ?_)
      · have hf := x_ine hc12 hf
        refine x_aload_n C 0 dX7_sitIt_43 rfl ?_
        obtain ⟨q13, hg, hf⟩ := x_bd hf
        refine x_callVr C (by rw [xkd_9]; decide) (by rw [xkd_9]; decide) (xc9 xkd_9) rfl (t_X7_sitting hg) (cwV 0 C.1.2.2.2.2 gX7_sitIt_X7_sitting rfl rfl rfl (by decide +kernel) ⟨Nat.le_of_ble_eq_true rfl, Nat.le_of_ble_eq_true rfl⟩) rfl rfl (Nat.le_of_ble_eq_true rfl) dX7_sitIt_44 ⟨Nat.zero_le _, Nat.zero_le _⟩ (fun ta14 => ?_)
        clear hg
        refine x_iconst (v := 4) C dX7_sitIt_47 (by decide) ?_
        refine x_icmp_ne C 57 dX7_sitIt_48 (by decide) (fun hc15 => ?_) (fun hc15 => ?_)
        · have hf := x_ine hc15 hf
          refine x_aload_n C 0 dX7_sitIt_57 rfl ?_
          refine x_get9 C xkd_9 i9 0 (by decide) (by decide +kernel) rfl rfl dX7_sitIt_58 ?_
          refine x_iload_n C 1 dX7_sitIt_61 rfl ?_
          obtain ⟨q16, hg, hf⟩ := x_bd hf
          refine x_callSr C (t_X7_personAt hg) (va_cwS 1 C.1.2.2.2.2 gX7_sitIt_X7_personAt rfl rfl rfl (by decide +kernel) ⟨Nat.le_of_ble_eq_true rfl, Nat.le_of_ble_eq_true rfl⟩) rfl rfl (Nat.le_of_ble_eq_true rfl) dX7_sitIt_62 ⟨Nat.zero_le _, Nat.zero_le _⟩ (fun ta17 => ?_)
          clear hg
          refine x_iconst (v := 4) C dX7_sitIt_65 (by decide) ?_
          refine x_iadd C dX7_sitIt_66 ?_
          refine x_iconst (v := 1) C dX7_sitIt_67 (by decide) ?_
          obtain ⟨g18, hf⟩ := x_gd hf
          refine x_iast C xkd_10 xl_10 g18 dX7_sitIt_68 ?_
          obtain ⟨M19, e20, hf⟩ := x_lt hf
          rw [← e20]
          clear e20
          refine x_aload_n C 0 dX7_sitIt_69 rfl ?_
          obtain ⟨q21, hg, hf⟩ := x_bd hf
          refine x_callVr C (by rw [xkd_9]; decide) (by rw [xkd_9]; decide) (xc9 xkd_9) rfl (t_X7_sitting hg) (cwV 0 C.1.2.2.2.2 gX7_sitIt_X7_sitting rfl rfl rfl (by decide +kernel) ⟨Nat.le_of_ble_eq_true rfl, Nat.le_of_ble_eq_true rfl⟩) rfl rfl (Nat.le_of_ble_eq_true rfl) dX7_sitIt_70 ⟨Nat.zero_le _, Nat.zero_le _⟩ (fun ta22 => ?_)
          clear hg
          obtain rfl := Option.some.inj hf
          exact x_iret C hr hlk dX7_sitIt_73
        · have hf := x_ip hc15 hf
          refine x_aload_n C 0 dX7_sitIt_51 rfl ?_
          refine x_iconst (v := 3) C dX7_sitIt_52 (by decide) ?_
          obtain ⟨q23, hg, hf⟩ := x_bd hf
          refine x_callVr C (by rw [xkd_9]; decide) (by rw [xkd_9]; decide) (xc9 xkd_9) rfl (t_X7_throwing hg) (cwV 1 C.1.2.2.2.2 gX7_sitIt_X7_throwing rfl rfl rfl (by decide +kernel) ⟨Nat.le_of_ble_eq_true rfl, Nat.le_of_ble_eq_true rfl⟩) rfl rfl (Nat.le_of_ble_eq_true rfl) dX7_sitIt_53 ⟨Nat.zero_le _, Nat.zero_le _⟩ (fun ta24 => ?_)
          clear hg
          obtain rfl := Option.some.inj hf
          exact x_iret C hr hlk dX7_sitIt_56
      · have hf := x_ip hc12 hf
        refine x_aload_n C 0 dX7_sitIt_37 rfl ?_
        refine x_iconst (v := 2) C dX7_sitIt_38 (by decide) ?_
        obtain ⟨q25, hg, hf⟩ := x_bd hf
        refine x_callVr C (by rw [xkd_9]; decide) (by rw [xkd_9]; decide) (xc9 xkd_9) rfl (t_X7_throwing hg) (cwV 1 C.1.2.2.2.2 gX7_sitIt_X7_throwing rfl rfl rfl (by decide +kernel) ⟨Nat.le_of_ble_eq_true rfl, Nat.le_of_ble_eq_true rfl⟩) rfl rfl (Nat.le_of_ble_eq_true rfl) dX7_sitIt_39 ⟨Nat.zero_le _, Nat.zero_le _⟩ (fun ta26 => ?_)
        clear hg
        obtain rfl := Option.some.inj hf
        exact x_iret C hr hlk dX7_sitIt_42
  · have hf := x_ip hc3 hf
    refine x_aload_n C 0 dX7_sitIt_8 rfl ?_
    refine x_iconst (v := 1) C dX7_sitIt_9 (by decide) ?_
    obtain ⟨q27, hg, hf⟩ := x_bd hf
    refine x_callVr C (by rw [xkd_9]; decide) (by rw [xkd_9]; decide) (xc9 xkd_9) rfl (t_X7_throwing hg) (cwV 1 C.1.2.2.2.2 gX7_sitIt_X7_throwing rfl rfl rfl (by decide +kernel) ⟨Nat.le_of_ble_eq_true rfl, Nat.le_of_ble_eq_true rfl⟩) rfl rfl (Nat.le_of_ble_eq_true rfl) dX7_sitIt_10 ⟨Nat.zero_le _, Nat.zero_le _⟩ (fun ta28 => ?_)
    clear hg
    obtain rfl := Option.some.inj hf
    exact x_iret C hr hlk dX7_sitIt_13
/-! WaitingRoomSimulationModel.sit(I)I -/
abbrev rm_X7_sit (c s : Nat) : Room := { frames := 3, cells := c, slots := s, locals := 67 }
def f_X7_sit (a1 : Int32) (M : xM) : Option (Int32 × xM) := (f_X7_starts M).bind fun q1 => (f_X7_sitIt a1 q1).bind fun q3 => (f_X7_changed q3.1 q3.2).bind fun q5 => some (q5.1, q5.2)
set_option maxHeartbeats 4000000 in
set_option maxRecDepth 100000 in
theorem t_X7_sit {l : Launch} {G : xG} {ta : Nat × Nat} {M : xM} {a1 : Int32} {out : Int32 × xM} (hf : f_X7_sit a1 M = some out) : xMet G l yX7_sit wsX7_sit (rm_X7_sit 0 0) 0 0 ta M [.ref (xad G 9), .int a1] (some (.int out.1)) out.2 := by
  refine x_met (cc := cX7_sit) (nL := 2) (ret := some .int) (by decide) rfl (Nat.le_of_ble_eq_true rfl) ?_
  intro p e s m args below meth c C hr hlk
  have C : xC G p s m args c cX7_sit 2 wsX7_sit RX7 := C
  unfold f_X7_sit at hf
  show xW G p l e (rm_X7_sit 0 0) s m args below meth c 2 (MQ below (xQr G (some (.int out.1)) out.2) args s 0 0 (xAs G)) 0 0 ta M 0 [(0, .ref (xad G 9)), (1, .int a1)] []
  refine x_aload_n C 0 dX7_sit_0 rfl ?_
  obtain ⟨q1, hg, hf⟩ := x_bd hf
  refine x_callVv C (by rw [xkd_9]; decide) (by rw [xkd_9]; decide) (xc9 xkd_9) rfl (t_X7_starts hg) (cwV 0 C.1.2.2.2.2 gX7_sit_X7_starts rfl rfl rfl (by decide +kernel) ⟨Nat.le_of_ble_eq_true rfl, Nat.le_of_ble_eq_true rfl⟩) rfl rfl (Nat.le_of_ble_eq_true rfl) dX7_sit_1 ⟨Nat.zero_le _, Nat.zero_le _⟩ (fun ta2 => ?_)
  clear hg
  refine x_aload_n C 0 dX7_sit_4 rfl ?_
  refine x_aload_n C 0 dX7_sit_5 rfl ?_
  refine x_iload_n C 1 dX7_sit_6 rfl ?_
  obtain ⟨q3, hg, hf⟩ := x_bd hf
  refine x_callVr C (by rw [xkd_9]; decide) (by rw [xkd_9]; decide) (xc9 xkd_9) rfl (t_X7_sitIt hg) (cwV 1 C.1.2.2.2.2 gX7_sit_X7_sitIt rfl rfl rfl (by decide +kernel) ⟨Nat.le_of_ble_eq_true rfl, Nat.le_of_ble_eq_true rfl⟩) rfl rfl (Nat.le_of_ble_eq_true rfl) dX7_sit_7 ⟨Nat.zero_le _, Nat.zero_le _⟩ (fun ta4 => ?_)
  clear hg
  obtain ⟨q5, hg, hf⟩ := x_bd hf
  refine x_callVr C (by rw [xkd_9]; decide) (by rw [xkd_9]; decide) (xc9 xkd_9) rfl (t_X7_changed hg) (cwV 1 C.1.2.2.2.2 gX7_sit_X7_changed rfl rfl rfl (by decide +kernel) ⟨Nat.le_of_ble_eq_true rfl, Nat.le_of_ble_eq_true rfl⟩) rfl rfl (Nat.le_of_ble_eq_true rfl) dX7_sit_10 ⟨Nat.zero_le _, Nat.zero_le _⟩ (fun ta6 => ?_)
  clear hg
  obtain rfl := Option.some.inj hf
  exact x_iret C hr hlk dX7_sit_13
/-! WaitingRoomSimulationModel.standIt(I)I -/
abbrev rm_X7_standIt (c s : Nat) : Room := { frames := 2, cells := c, slots := s, locals := 46 }
def f_X7_standIt (a1 : Int32) (M : xM) : Option (Int32 × xM) := (f_X7_isHere a1 M).bind fun q1 => (if q1 = 0 then (f_X7_throwing (1 : Int32) M).bind fun q17 => some (q17.1, q17.2) else (f_X7_personAt a1 M).bind fun q4 => if x_in (q4 + (4 : Int32)) 159 = true then (if (M.1 10 (q4 + (4 : Int32)).toNatClampNeg) = 0 then (f_X7_throwing (2 : Int32) M).bind fun q15 => some (q15.1, q15.2) else (f_X7_personAt a1 M).bind fun q8 => if x_in (q8 + (4 : Int32)) 159 = true then x_let (sI M 10 (q8 + (4 : Int32)).toNatClampNeg (0 : Int32)) fun M11 => (f_X7_sitting M11).bind fun q13 => some (q13, M11) else none) else none)
set_option maxHeartbeats 4000000 in
set_option maxRecDepth 100000 in
theorem t_X7_standIt {l : Launch} {G : xG} {ta : Nat × Nat} {M : xM} {a1 : Int32} {out : Int32 × xM} (hf : f_X7_standIt a1 M = some out) : xMet G l yX7_standIt wsX7_standIt (rm_X7_standIt 0 0) 0 0 ta M [.ref (xad G 9), .int a1] (some (.int out.1)) out.2 := by
  refine x_met (cc := cX7_standIt) (nL := 2) (ret := some .int) (by decide) rfl (Nat.le_of_ble_eq_true rfl) ?_
  intro p e s m args below meth c C hr hlk
  have C : xC G p s m args c cX7_standIt 2 wsX7_standIt RX7 := C
  have i9 : ∀ w ∈ wsX70, w ∈ wsX7_standIt := by decide +kernel
  unfold f_X7_standIt at hf
  show xW G p l e (rm_X7_standIt 0 0) s m args below meth c 2 (MQ below (xQr G (some (.int out.1)) out.2) args s 0 0 (xAs G)) 0 0 ta M 0 [(0, .ref (xad G 9)), (1, .int a1)] []
  refine x_aload_n C 0 dX7_standIt_0 rfl ?_
  refine x_iload_n C 1 dX7_standIt_1 rfl ?_
  obtain ⟨q1, hg, hf⟩ := x_bd hf
  refine x_callVr C (by rw [xkd_9]; decide) (by rw [xkd_9]; decide) (xc9 xkd_9) rfl (t_X7_isHere hg) (cwV 1 C.1.2.2.2.2 gX7_standIt_X7_isHere rfl rfl rfl (by decide +kernel) ⟨Nat.le_of_ble_eq_true rfl, Nat.le_of_ble_eq_true rfl⟩) rfl rfl (Nat.le_of_ble_eq_true rfl) dX7_standIt_2 ⟨Nat.zero_le _, Nat.zero_le _⟩ (fun ta2 => ?_)
  clear hg
  refine x_if_ne C 14 dX7_standIt_5 (by decide) (fun hc3 => ?_) (fun hc3 => ?_)
  · have hf := x_ine hc3 hf
    refine x_aload_n C 0 dX7_standIt_14 rfl ?_
    refine x_get9 C xkd_9 i9 0 (by decide) (by decide +kernel) rfl rfl dX7_standIt_15 ?_
    refine x_iload_n C 1 dX7_standIt_18 rfl ?_
    obtain ⟨q4, hg, hf⟩ := x_bd hf
    refine x_callSr C (t_X7_personAt hg) (va_cwS 1 C.1.2.2.2.2 gX7_standIt_X7_personAt rfl rfl rfl (by decide +kernel) ⟨Nat.le_of_ble_eq_true rfl, Nat.le_of_ble_eq_true rfl⟩) rfl rfl (Nat.le_of_ble_eq_true rfl) dX7_standIt_19 ⟨Nat.zero_le _, Nat.zero_le _⟩ (fun ta5 => ?_)
    clear hg
    refine x_iconst (v := 4) C dX7_standIt_22 (by decide) ?_
    refine x_iadd C dX7_standIt_23 ?_
    obtain ⟨g6, hf⟩ := x_gd hf
    refine x_iald C xkd_10 xl_10 g6 dX7_standIt_24 ?_
    refine x_if_ne C 34 dX7_standIt_25 (by decide) (fun hc7 => ?_) (fun hc7 => ?_)
    · have hf := x_ine hc7 hf
      refine x_aload_n C 0 dX7_standIt_34 rfl ?_
      refine x_get9 C xkd_9 i9 0 (by decide) (by decide +kernel) rfl rfl dX7_standIt_35 ?_
      refine x_iload_n C 1 dX7_standIt_38 rfl ?_
      obtain ⟨q8, hg, hf⟩ := x_bd hf
      refine x_callSr C (t_X7_personAt hg) (va_cwS 1 C.1.2.2.2.2 gX7_standIt_X7_personAt rfl rfl rfl (by decide +kernel) ⟨Nat.le_of_ble_eq_true rfl, Nat.le_of_ble_eq_true rfl⟩) rfl rfl (Nat.le_of_ble_eq_true rfl) dX7_standIt_39 ⟨Nat.zero_le _, Nat.zero_le _⟩ (fun ta9 => ?_)
      clear hg
      refine x_iconst (v := 4) C dX7_standIt_42 (by decide) ?_
      refine x_iadd C dX7_standIt_43 ?_
      refine x_iconst (v := 0) C dX7_standIt_44 (by decide) ?_
      obtain ⟨g10, hf⟩ := x_gd hf
      refine x_iast C xkd_10 xl_10 g10 dX7_standIt_45 ?_
      obtain ⟨M11, e12, hf⟩ := x_lt hf
      rw [← e12]
      clear e12
      refine x_aload_n C 0 dX7_standIt_46 rfl ?_
      obtain ⟨q13, hg, hf⟩ := x_bd hf
      refine x_callVr C (by rw [xkd_9]; decide) (by rw [xkd_9]; decide) (xc9 xkd_9) rfl (t_X7_sitting hg) (cwV 0 C.1.2.2.2.2 gX7_standIt_X7_sitting rfl rfl rfl (by decide +kernel) ⟨Nat.le_of_ble_eq_true rfl, Nat.le_of_ble_eq_true rfl⟩) rfl rfl (Nat.le_of_ble_eq_true rfl) dX7_standIt_47 ⟨Nat.zero_le _, Nat.zero_le _⟩ (fun ta14 => ?_)
      clear hg
      obtain rfl := Option.some.inj hf
      exact x_iret C hr hlk dX7_standIt_50
    · have hf := x_ip hc7 hf
      refine x_aload_n C 0 dX7_standIt_28 rfl ?_
      refine x_iconst (v := 2) C dX7_standIt_29 (by decide) ?_
      obtain ⟨q15, hg, hf⟩ := x_bd hf
      refine x_callVr C (by rw [xkd_9]; decide) (by rw [xkd_9]; decide) (xc9 xkd_9) rfl (t_X7_throwing hg) (cwV 1 C.1.2.2.2.2 gX7_standIt_X7_throwing rfl rfl rfl (by decide +kernel) ⟨Nat.le_of_ble_eq_true rfl, Nat.le_of_ble_eq_true rfl⟩) rfl rfl (Nat.le_of_ble_eq_true rfl) dX7_standIt_30 ⟨Nat.zero_le _, Nat.zero_le _⟩ (fun ta16 => ?_)
      clear hg
      obtain rfl := Option.some.inj hf
      exact x_iret C hr hlk dX7_standIt_33
  · have hf := x_ip hc3 hf
    refine x_aload_n C 0 dX7_standIt_8 rfl ?_
    refine x_iconst (v := 1) C dX7_standIt_9 (by decide) ?_
    obtain ⟨q17, hg, hf⟩ := x_bd hf
    refine x_callVr C (by rw [xkd_9]; decide) (by rw [xkd_9]; decide) (xc9 xkd_9) rfl (t_X7_throwing hg) (cwV 1 C.1.2.2.2.2 gX7_standIt_X7_throwing rfl rfl rfl (by decide +kernel) ⟨Nat.le_of_ble_eq_true rfl, Nat.le_of_ble_eq_true rfl⟩) rfl rfl (Nat.le_of_ble_eq_true rfl) dX7_standIt_10 ⟨Nat.zero_le _, Nat.zero_le _⟩ (fun ta18 => ?_)
    clear hg
    obtain rfl := Option.some.inj hf
    exact x_iret C hr hlk dX7_standIt_13
/-! WaitingRoomSimulationModel.standUp(I)I -/
abbrev rm_X7_standUp (c s : Nat) : Room := { frames := 3, cells := c, slots := s, locals := 67 }
def f_X7_standUp (a1 : Int32) (M : xM) : Option (Int32 × xM) := (f_X7_starts M).bind fun q1 => (f_X7_standIt a1 q1).bind fun q3 => (f_X7_changed q3.1 q3.2).bind fun q5 => some (q5.1, q5.2)
set_option maxHeartbeats 4000000 in
set_option maxRecDepth 100000 in
theorem t_X7_standUp {l : Launch} {G : xG} {ta : Nat × Nat} {M : xM} {a1 : Int32} {out : Int32 × xM} (hf : f_X7_standUp a1 M = some out) : xMet G l yX7_standUp wsX7_standUp (rm_X7_standUp 0 0) 0 0 ta M [.ref (xad G 9), .int a1] (some (.int out.1)) out.2 := by
  refine x_met (cc := cX7_standUp) (nL := 2) (ret := some .int) (by decide) rfl (Nat.le_of_ble_eq_true rfl) ?_
  intro p e s m args below meth c C hr hlk
  have C : xC G p s m args c cX7_standUp 2 wsX7_standUp RX7 := C
  unfold f_X7_standUp at hf
  show xW G p l e (rm_X7_standUp 0 0) s m args below meth c 2 (MQ below (xQr G (some (.int out.1)) out.2) args s 0 0 (xAs G)) 0 0 ta M 0 [(0, .ref (xad G 9)), (1, .int a1)] []
  refine x_aload_n C 0 dX7_standUp_0 rfl ?_
  obtain ⟨q1, hg, hf⟩ := x_bd hf
  refine x_callVv C (by rw [xkd_9]; decide) (by rw [xkd_9]; decide) (xc9 xkd_9) rfl (t_X7_starts hg) (cwV 0 C.1.2.2.2.2 gX7_standUp_X7_starts rfl rfl rfl (by decide +kernel) ⟨Nat.le_of_ble_eq_true rfl, Nat.le_of_ble_eq_true rfl⟩) rfl rfl (Nat.le_of_ble_eq_true rfl) dX7_standUp_1 ⟨Nat.zero_le _, Nat.zero_le _⟩ (fun ta2 => ?_)
  clear hg
  refine x_aload_n C 0 dX7_standUp_4 rfl ?_
  refine x_aload_n C 0 dX7_standUp_5 rfl ?_
  refine x_iload_n C 1 dX7_standUp_6 rfl ?_
  obtain ⟨q3, hg, hf⟩ := x_bd hf
  refine x_callVr C (by rw [xkd_9]; decide) (by rw [xkd_9]; decide) (xc9 xkd_9) rfl (t_X7_standIt hg) (cwV 1 C.1.2.2.2.2 gX7_standUp_X7_standIt rfl rfl rfl (by decide +kernel) ⟨Nat.le_of_ble_eq_true rfl, Nat.le_of_ble_eq_true rfl⟩) rfl rfl (Nat.le_of_ble_eq_true rfl) dX7_standUp_7 ⟨Nat.zero_le _, Nat.zero_le _⟩ (fun ta4 => ?_)
  clear hg
  obtain ⟨q5, hg, hf⟩ := x_bd hf
  refine x_callVr C (by rw [xkd_9]; decide) (by rw [xkd_9]; decide) (xc9 xkd_9) rfl (t_X7_changed hg) (cwV 1 C.1.2.2.2.2 gX7_standUp_X7_changed rfl rfl rfl (by decide +kernel) ⟨Nat.le_of_ble_eq_true rfl, Nat.le_of_ble_eq_true rfl⟩) rfl rfl (Nat.le_of_ble_eq_true rfl) dX7_standUp_10 ⟨Nat.zero_le _, Nat.zero_le _⟩ (fun ta6 => ?_)
  clear hg
  obtain rfl := Option.some.inj hf
  exact x_iret C hr hlk dX7_standUp_13
/-! WaitingRoomSimulationModel.removeIt(I)I -/
abbrev rm_X7_removeIt (c s : Nat) : Room := { frames := 2, cells := c, slots := s, locals := 46 }
def f_X7_removeIt (a1 : Int32) (M : xM) : Option (Int32 × xM) := (f_X7_isHere a1 M).bind fun q1 => (if q1 = 0 then (f_X7_throwing (1 : Int32) M).bind fun q11 => some (q11.1, q11.2) else (f_X7_goes a1 M).bind fun q4 => if x_in (4 : Int32) 159 = true then if x_in (4 : Int32) 159 = true then x_let (sI q4 10 (4 : Int32).toNatClampNeg ((q4.1 10 (4 : Int32).toNatClampNeg) + (1 : Int32))) fun M8 => if x_in (0 : Int32) 159 = true then some (M8.1 10 (0 : Int32).toNatClampNeg, M8) else none else none else none)
set_option maxHeartbeats 4000000 in
set_option maxRecDepth 100000 in
theorem t_X7_removeIt {l : Launch} {G : xG} {ta : Nat × Nat} {M : xM} {a1 : Int32} {out : Int32 × xM} (hf : f_X7_removeIt a1 M = some out) : xMet G l yX7_removeIt wsX7_removeIt (rm_X7_removeIt 0 0) 0 0 ta M [.ref (xad G 9), .int a1] (some (.int out.1)) out.2 := by
  refine x_met (cc := cX7_removeIt) (nL := 2) (ret := some .int) (by decide) rfl (Nat.le_of_ble_eq_true rfl) ?_
  intro p e s m args below meth c C hr hlk
  have C : xC G p s m args c cX7_removeIt 2 wsX7_removeIt RX7 := C
  have i9 : ∀ w ∈ wsX70, w ∈ wsX7_removeIt := by decide +kernel
  unfold f_X7_removeIt at hf
  show xW G p l e (rm_X7_removeIt 0 0) s m args below meth c 2 (MQ below (xQr G (some (.int out.1)) out.2) args s 0 0 (xAs G)) 0 0 ta M 0 [(0, .ref (xad G 9)), (1, .int a1)] []
  refine x_aload_n C 0 dX7_removeIt_0 rfl ?_
  refine x_iload_n C 1 dX7_removeIt_1 rfl ?_
  obtain ⟨q1, hg, hf⟩ := x_bd hf
  refine x_callVr C (by rw [xkd_9]; decide) (by rw [xkd_9]; decide) (xc9 xkd_9) rfl (t_X7_isHere hg) (cwV 1 C.1.2.2.2.2 gX7_removeIt_X7_isHere rfl rfl rfl (by decide +kernel) ⟨Nat.le_of_ble_eq_true rfl, Nat.le_of_ble_eq_true rfl⟩) rfl rfl (Nat.le_of_ble_eq_true rfl) dX7_removeIt_2 ⟨Nat.zero_le _, Nat.zero_le _⟩ (fun ta2 => ?_)
  clear hg
  refine x_if_ne C 14 dX7_removeIt_5 (by decide) (fun hc3 => ?_) (fun hc3 => ?_)
  · have hf := x_ine hc3 hf
    refine x_aload_n C 0 dX7_removeIt_14 rfl ?_
    refine x_iload_n C 1 dX7_removeIt_15 rfl ?_
    obtain ⟨q4, hg, hf⟩ := x_bd hf
    refine x_callVv C (by rw [xkd_9]; decide) (by rw [xkd_9]; decide) (xc9 xkd_9) rfl (t_X7_goes hg) (cwV 1 C.1.2.2.2.2 gX7_removeIt_X7_goes rfl rfl rfl (by decide +kernel) ⟨Nat.le_of_ble_eq_true rfl, Nat.le_of_ble_eq_true rfl⟩) rfl rfl (Nat.le_of_ble_eq_true rfl) dX7_removeIt_16 ⟨Nat.zero_le _, Nat.zero_le _⟩ (fun ta5 => ?_)
    clear hg
    refine x_aload_n C 0 dX7_removeIt_19 rfl ?_
    refine x_get9 C xkd_9 i9 0 (by decide) (by decide +kernel) rfl rfl dX7_removeIt_20 ?_
    refine x_iconst (v := 4) C dX7_removeIt_23 (by decide) ?_
    refine x_dup2 C dX7_removeIt_24 rfl rfl ?_
    obtain ⟨g6, hf⟩ := x_gd hf
    refine x_iald C xkd_10 xl_10 g6 dX7_removeIt_25 ?_
    refine x_iconst (v := 1) C dX7_removeIt_26 (by decide) ?_
    refine x_iadd C dX7_removeIt_27 ?_
    obtain ⟨g7, hf⟩ := x_gd hf
    refine x_iast C xkd_10 xl_10 g7 dX7_removeIt_28 ?_
    obtain ⟨M8, e9, hf⟩ := x_lt hf
    rw [← e9]
    clear e9
    refine x_aload_n C 0 dX7_removeIt_29 rfl ?_
    refine x_get9 C xkd_9 i9 0 (by decide) (by decide +kernel) rfl rfl dX7_removeIt_30 ?_
    refine x_iconst (v := 0) C dX7_removeIt_33 (by decide) ?_
    obtain ⟨g10, hf⟩ := x_gd hf
    refine x_iald C xkd_10 xl_10 g10 dX7_removeIt_34 ?_
    obtain rfl := Option.some.inj hf
    exact x_iret C hr hlk dX7_removeIt_35
  · have hf := x_ip hc3 hf
    refine x_aload_n C 0 dX7_removeIt_8 rfl ?_
    refine x_iconst (v := 1) C dX7_removeIt_9 (by decide) ?_
    obtain ⟨q11, hg, hf⟩ := x_bd hf
    refine x_callVr C (by rw [xkd_9]; decide) (by rw [xkd_9]; decide) (xc9 xkd_9) rfl (t_X7_throwing hg) (cwV 1 C.1.2.2.2.2 gX7_removeIt_X7_throwing rfl rfl rfl (by decide +kernel) ⟨Nat.le_of_ble_eq_true rfl, Nat.le_of_ble_eq_true rfl⟩) rfl rfl (Nat.le_of_ble_eq_true rfl) dX7_removeIt_10 ⟨Nat.zero_le _, Nat.zero_le _⟩ (fun ta12 => ?_)
    clear hg
    obtain rfl := Option.some.inj hf
    exact x_iret C hr hlk dX7_removeIt_13
/-! WaitingRoomSimulationModel.remove(I)I -/
abbrev rm_X7_remove (c s : Nat) : Room := { frames := 3, cells := c, slots := s, locals := 67 }
def f_X7_remove (a1 : Int32) (M : xM) : Option (Int32 × xM) := (f_X7_starts M).bind fun q1 => (f_X7_removeIt a1 q1).bind fun q3 => (f_X7_changed q3.1 q3.2).bind fun q5 => some (q5.1, q5.2)
set_option maxHeartbeats 4000000 in
set_option maxRecDepth 100000 in
theorem t_X7_remove {l : Launch} {G : xG} {ta : Nat × Nat} {M : xM} {a1 : Int32} {out : Int32 × xM} (hf : f_X7_remove a1 M = some out) : xMet G l yX7_remove wsX7_remove (rm_X7_remove 0 0) 0 0 ta M [.ref (xad G 9), .int a1] (some (.int out.1)) out.2 := by
  refine x_met (cc := cX7_remove) (nL := 2) (ret := some .int) (by decide) rfl (Nat.le_of_ble_eq_true rfl) ?_
  intro p e s m args below meth c C hr hlk
  have C : xC G p s m args c cX7_remove 2 wsX7_remove RX7 := C
  unfold f_X7_remove at hf
  show xW G p l e (rm_X7_remove 0 0) s m args below meth c 2 (MQ below (xQr G (some (.int out.1)) out.2) args s 0 0 (xAs G)) 0 0 ta M 0 [(0, .ref (xad G 9)), (1, .int a1)] []
  refine x_aload_n C 0 dX7_remove_0 rfl ?_
  obtain ⟨q1, hg, hf⟩ := x_bd hf
  refine x_callVv C (by rw [xkd_9]; decide) (by rw [xkd_9]; decide) (xc9 xkd_9) rfl (t_X7_starts hg) (cwV 0 C.1.2.2.2.2 gX7_remove_X7_starts rfl rfl rfl (by decide +kernel) ⟨Nat.le_of_ble_eq_true rfl, Nat.le_of_ble_eq_true rfl⟩) rfl rfl (Nat.le_of_ble_eq_true rfl) dX7_remove_1 ⟨Nat.zero_le _, Nat.zero_le _⟩ (fun ta2 => ?_)
  clear hg
  refine x_aload_n C 0 dX7_remove_4 rfl ?_
  refine x_aload_n C 0 dX7_remove_5 rfl ?_
  refine x_iload_n C 1 dX7_remove_6 rfl ?_
  obtain ⟨q3, hg, hf⟩ := x_bd hf
  refine x_callVr C (by rw [xkd_9]; decide) (by rw [xkd_9]; decide) (xc9 xkd_9) rfl (t_X7_removeIt hg) (cwV 1 C.1.2.2.2.2 gX7_remove_X7_removeIt rfl rfl rfl (by decide +kernel) ⟨Nat.le_of_ble_eq_true rfl, Nat.le_of_ble_eq_true rfl⟩) rfl rfl (Nat.le_of_ble_eq_true rfl) dX7_remove_7 ⟨Nat.zero_le _, Nat.zero_le _⟩ (fun ta4 => ?_)
  clear hg
  obtain ⟨q5, hg, hf⟩ := x_bd hf
  refine x_callVr C (by rw [xkd_9]; decide) (by rw [xkd_9]; decide) (xc9 xkd_9) rfl (t_X7_changed hg) (cwV 1 C.1.2.2.2.2 gX7_remove_X7_changed rfl rfl rfl (by decide +kernel) ⟨Nat.le_of_ble_eq_true rfl, Nat.le_of_ble_eq_true rfl⟩) rfl rfl (Nat.le_of_ble_eq_true rfl) dX7_remove_10 ⟨Nat.zero_le _, Nat.zero_le _⟩ (fun ta6 => ?_)
  clear hg
  obtain rfl := Option.some.inj hf
  exact x_iret C hr hlk dX7_remove_13
/-! WaitingRoomSimulationModel.remembers(II)V -/
abbrev rm_X7_remembers (c s : Nat) : Room := { frames := 1, cells := c, slots := s, locals := 20 }
def f_X7_remembers_L10 (v2 : Int32) (v3 : Int32) : Nat → Int32 → xM → Option (xM)
  | 0, _, _ => none
  | n+1, v4, M => (if v4 < (139 : Int32) then if x_in v3 159 = true then if x_in (135 : Int32) 159 = true then x_let (sI M 10 (135 : Int32).toNatClampNeg (M.1 10 v3.toNatClampNeg)) fun M6 => if x_in (v3 + (6 : Int32)) 159 = true then if x_in (136 : Int32) 159 = true then x_let (sI M6 10 (136 : Int32).toNatClampNeg (M6.1 10 (v3 + (6 : Int32)).toNatClampNeg)) fun M10 => if x_in (v3 + (2 : Int32)) 159 = true then if x_in (137 : Int32) 159 = true then x_let (sI M10 10 (137 : Int32).toNatClampNeg (M10.1 10 (v3 + (2 : Int32)).toNatClampNeg)) fun M14 => if x_in (138 : Int32) 159 = true then x_let (sI M14 10 (138 : Int32).toNatClampNeg v2) fun M17 => if x_in (10 : Int32) 159 = true then if x_in (10 : Int32) 159 = true then x_let (sI M17 10 (10 : Int32).toNatClampNeg (if ((M17.1 10 (10 : Int32).toNatClampNeg) + (1 : Int32)) < (6 : Int32) then ((M17.1 10 (10 : Int32).toNatClampNeg) + (1 : Int32)) else (6 : Int32))) fun M21 => if x_in (11 : Int32) 159 = true then if x_in (v3 + (2 : Int32)) 159 = true then (if (M21.1 10 (v3 + (2 : Int32)).toNatClampNeg) = 0 then if x_in (11 : Int32) 159 = true then x_let (sI M21 10 (11 : Int32).toNatClampNeg ((M21.1 10 (11 : Int32).toNatClampNeg) + (1 : Int32))) fun M34 => if x_in (3 : Int32) 159 = true then if x_in (3 : Int32) 159 = true then x_let (sI M34 10 (3 : Int32).toNatClampNeg ((M34.1 10 (3 : Int32).toNatClampNeg) + (1 : Int32))) fun M38 => some M38 else none else none else none else if x_in (11 : Int32) 159 = true then x_let (sI M21 10 (11 : Int32).toNatClampNeg ((M21.1 10 (11 : Int32).toNatClampNeg) + (0 : Int32))) fun M27 => if x_in (3 : Int32) 159 = true then if x_in (3 : Int32) 159 = true then x_let (sI M27 10 (3 : Int32).toNatClampNeg ((M27.1 10 (3 : Int32).toNatClampNeg) + (1 : Int32))) fun M31 => some M31 else none else none else none) else none else none else none else none else none else none else none else none else none else none else none else if x_in (v4 - (4 : Int32)) 159 = true then if x_in v4 159 = true then x_let (sI M 10 v4.toNatClampNeg (M.1 10 (v4 - (4 : Int32)).toNatClampNeg)) fun M42 => f_X7_remembers_L10 v2 v3 n (v4 + (-1)) M42 else none else none)
def f_X7_remembers (a1 : Int32) (a2 : Int32) (M : xM) : Option (xM) := (f_X7_personAt a1 M).bind fun q1 => f_X7_remembers_L10 a2 q1 xF (158 : Int32) M
set_option maxHeartbeats 4000000 in
set_option maxRecDepth 100000 in
theorem t_X7_remembers_L10 {G : xG} {p : Program} {l : Launch} {e : Env} {s : State} {m : MethodId} {args : Array Value} {below : List Frame} {meth : Method} {c : Code} (C : xC G p s m args c cX7_remembers 5 wsX7_remembers RX7) (hr : meth.sig.returnType = none) (hlk : meth.locks = false) {v2 : Int32} {v3 : Int32} : ∀ (n : Nat) (v4 : Int32) (M : xM) (ta : Nat × Nat) (out : xM), f_X7_remembers_L10 v2 v3 n v4 M = some out → xW G p l e (rm_X7_remembers 0 0) s m args below meth c 5 (MQ below (xQr G none out) args s 0 0 (xAs G)) 0 0 ta M 10 [(0, .ref (xad G 9)), (2, .int v2), (3, .int v3), (4, .int v4)] [] := by
  intro n
  induction n with
  | zero =>
    intro v4 M ta out hf
    rw [f_X7_remembers_L10] at hf
    cases hf
  | succ n ih =>
    intro v4 M ta out hf
    rw [f_X7_remembers_L10] at hf
    have i9 : ∀ w ∈ wsX70, w ∈ wsX7_remembers := by decide +kernel
    refine x_iload C 3 dX7_remembers_10 rfl ?_
    refine x_sipush (v := 139) C dX7_remembers_12 (by decide) ?_
    refine x_icmp_lt C 40 dX7_remembers_15 (by decide) (fun hc3 => ?_) (fun hc3 => ?_)
    · have hf := x_ip hc3 hf
      refine x_aload_n C 0 dX7_remembers_40 rfl ?_
      refine x_get9 C xkd_9 i9 0 (by decide) (by decide +kernel) rfl rfl dX7_remembers_41 ?_
      refine x_sipush (v := 135) C dX7_remembers_44 (by decide) ?_
      refine x_aload_n C 0 dX7_remembers_47 rfl ?_
      refine x_get9 C xkd_9 i9 0 (by decide) (by decide +kernel) rfl rfl dX7_remembers_48 ?_
      refine x_iload_n C 2 dX7_remembers_51 rfl ?_
      obtain ⟨g4, hf⟩ := x_gd hf
      refine x_iald C xkd_10 xl_10 g4 dX7_remembers_52 ?_
      obtain ⟨g5, hf⟩ := x_gd hf
      refine x_iast C xkd_10 xl_10 g5 dX7_remembers_53 ?_
      obtain ⟨M6, e7, hf⟩ := x_lt hf
      rw [← e7]
      clear e7
      refine x_aload_n C 0 dX7_remembers_54 rfl ?_
      refine x_get9 C xkd_9 i9 0 (by decide) (by decide +kernel) rfl rfl dX7_remembers_55 ?_
      refine x_sipush (v := 136) C dX7_remembers_58 (by decide) ?_
      refine x_aload_n C 0 dX7_remembers_61 rfl ?_
      refine x_get9 C xkd_9 i9 0 (by decide) (by decide +kernel) rfl rfl dX7_remembers_62 ?_
      refine x_iload_n C 2 dX7_remembers_65 rfl ?_
      refine x_bipush (v := 6) C dX7_remembers_66 (by decide) ?_
      refine x_iadd C dX7_remembers_68 ?_
      obtain ⟨g8, hf⟩ := x_gd hf
      refine x_iald C xkd_10 xl_10 g8 dX7_remembers_69 ?_
      obtain ⟨g9, hf⟩ := x_gd hf
      refine x_iast C xkd_10 xl_10 g9 dX7_remembers_70 ?_
      obtain ⟨M10, e11, hf⟩ := x_lt hf
      rw [← e11]
      clear e11
      refine x_aload_n C 0 dX7_remembers_71 rfl ?_
      refine x_get9 C xkd_9 i9 0 (by decide) (by decide +kernel) rfl rfl dX7_remembers_72 ?_
      refine x_sipush (v := 137) C dX7_remembers_75 (by decide) ?_
      refine x_aload_n C 0 dX7_remembers_78 rfl ?_
      refine x_get9 C xkd_9 i9 0 (by decide) (by decide +kernel) rfl rfl dX7_remembers_79 ?_
      refine x_iload_n C 2 dX7_remembers_82 rfl ?_
      refine x_iconst (v := 2) C dX7_remembers_83 (by decide) ?_
      refine x_iadd C dX7_remembers_84 ?_
      obtain ⟨g12, hf⟩ := x_gd hf
      refine x_iald C xkd_10 xl_10 g12 dX7_remembers_85 ?_
      obtain ⟨g13, hf⟩ := x_gd hf
      refine x_iast C xkd_10 xl_10 g13 dX7_remembers_86 ?_
      obtain ⟨M14, e15, hf⟩ := x_lt hf
      rw [← e15]
      clear e15
      refine x_aload_n C 0 dX7_remembers_87 rfl ?_
      refine x_get9 C xkd_9 i9 0 (by decide) (by decide +kernel) rfl rfl dX7_remembers_88 ?_
      refine x_sipush (v := 138) C dX7_remembers_91 (by decide) ?_
      refine x_iload_n C 1 dX7_remembers_94 rfl ?_
      obtain ⟨g16, hf⟩ := x_gd hf
      refine x_iast C xkd_10 xl_10 g16 dX7_remembers_95 ?_
      obtain ⟨M17, e18, hf⟩ := x_lt hf
      rw [← e18]
      clear e18
      refine x_aload_n C 0 dX7_remembers_96 rfl ?_
      refine x_get9 C xkd_9 i9 0 (by decide) (by decide +kernel) rfl rfl dX7_remembers_97 ?_
      refine x_bipush (v := 10) C dX7_remembers_100 (by decide) ?_
      refine x_bipush (v := 6) C dX7_remembers_102 (by decide) ?_
      refine x_aload_n C 0 dX7_remembers_104 rfl ?_
      refine x_get9 C xkd_9 i9 0 (by decide) (by decide +kernel) rfl rfl dX7_remembers_105 ?_
      refine x_bipush (v := 10) C dX7_remembers_108 (by decide) ?_
      obtain ⟨g19, hf⟩ := x_gd hf
      refine x_iald C xkd_10 xl_10 g19 dX7_remembers_110 ?_
      refine x_iconst (v := 1) C dX7_remembers_111 (by decide) ?_
      refine x_iadd C dX7_remembers_112 ?_
      refine x_mmin C (by decide +kernel) (by decide +kernel) (by decide +kernel) (by decide +kernel) ⟨Nat.le_of_ble_eq_true rfl, Nat.le_of_ble_eq_true rfl⟩ ⟨Nat.zero_le _, Nat.zero_le _⟩ dX7_remembers_113 ?_
      obtain ⟨g20, hf⟩ := x_gd hf
      refine x_iast C xkd_10 xl_10 g20 dX7_remembers_116 ?_
      obtain ⟨M21, e22, hf⟩ := x_lt hf
      rw [← e22]
      clear e22
      refine x_aload_n C 0 dX7_remembers_117 rfl ?_
      refine x_get9 C xkd_9 i9 0 (by decide) (by decide +kernel) rfl rfl dX7_remembers_118 ?_
      refine x_bipush (v := 11) C dX7_remembers_121 (by decide) ?_
      refine x_dup2 C dX7_remembers_123 rfl rfl ?_
      obtain ⟨g23, hf⟩ := x_gd hf
      refine x_iald C xkd_10 xl_10 g23 dX7_remembers_124 ?_
      refine x_aload_n C 0 dX7_remembers_125 rfl ?_
      refine x_get9 C xkd_9 i9 0 (by decide) (by decide +kernel) rfl rfl dX7_remembers_126 ?_
      refine x_iload_n C 2 dX7_remembers_129 rfl ?_
      refine x_iconst (v := 2) C dX7_remembers_130 (by decide) ?_
      refine x_iadd C dX7_remembers_131 ?_
      obtain ⟨g24, hf⟩ := x_gd hf
      refine x_iald C xkd_10 xl_10 g24 dX7_remembers_132 ?_
      refine x_if_ne C 140 dX7_remembers_133 (by decide) (fun hc25 => ?_) (fun hc25 => ?_)
      · have hf := x_ine hc25 hf
        refine x_iconst (v := 0) C dX7_remembers_140 (by decide) ?_
        refine x_iadd C dX7_remembers_141 ?_
        obtain ⟨g26, hf⟩ := x_gd hf
        refine x_iast C xkd_10 xl_10 g26 dX7_remembers_142 ?_
        obtain ⟨M27, e28, hf⟩ := x_lt hf
        rw [← e28]
        clear e28
        refine x_aload_n C 0 dX7_remembers_143 rfl ?_
        refine x_get9 C xkd_9 i9 0 (by decide) (by decide +kernel) rfl rfl dX7_remembers_144 ?_
        refine x_iconst (v := 3) C dX7_remembers_147 (by decide) ?_
        refine x_dup2 C dX7_remembers_148 rfl rfl ?_
        obtain ⟨g29, hf⟩ := x_gd hf
        refine x_iald C xkd_10 xl_10 g29 dX7_remembers_149 ?_
        refine x_iconst (v := 1) C dX7_remembers_150 (by decide) ?_
        refine x_iadd C dX7_remembers_151 ?_
        obtain ⟨g30, hf⟩ := x_gd hf
        refine x_iast C xkd_10 xl_10 g30 dX7_remembers_152 ?_
        obtain ⟨M31, e32, hf⟩ := x_lt hf
        rw [← e32]
        clear e32
        obtain rfl := Option.some.inj hf
        exact x_vret C hr hlk dX7_remembers_153
      · have hf := x_ip hc25 hf
        refine x_iconst (v := 1) C dX7_remembers_136 (by decide) ?_
        refine x_goto C 141 dX7_remembers_137 (by decide) ?_
        refine x_iadd C dX7_remembers_141 ?_
        obtain ⟨g33, hf⟩ := x_gd hf
        refine x_iast C xkd_10 xl_10 g33 dX7_remembers_142 ?_
        obtain ⟨M34, e35, hf⟩ := x_lt hf
        rw [← e35]
        clear e35
        refine x_aload_n C 0 dX7_remembers_143 rfl ?_
        refine x_get9 C xkd_9 i9 0 (by decide) (by decide +kernel) rfl rfl dX7_remembers_144 ?_
        refine x_iconst (v := 3) C dX7_remembers_147 (by decide) ?_
        refine x_dup2 C dX7_remembers_148 rfl rfl ?_
        obtain ⟨g36, hf⟩ := x_gd hf
        refine x_iald C xkd_10 xl_10 g36 dX7_remembers_149 ?_
        refine x_iconst (v := 1) C dX7_remembers_150 (by decide) ?_
        refine x_iadd C dX7_remembers_151 ?_
        obtain ⟨g37, hf⟩ := x_gd hf
        refine x_iast C xkd_10 xl_10 g37 dX7_remembers_152 ?_
        obtain ⟨M38, e39, hf⟩ := x_lt hf
        rw [← e39]
        clear e39
        obtain rfl := Option.some.inj hf
        exact x_vret C hr hlk dX7_remembers_153
    · have hf := x_ine hc3 hf
      refine x_aload_n C 0 dX7_remembers_18 rfl ?_
      refine x_get9 C xkd_9 i9 0 (by decide) (by decide +kernel) rfl rfl dX7_remembers_19 ?_
      refine x_iload C 3 dX7_remembers_22 rfl ?_
      refine x_aload_n C 0 dX7_remembers_24 rfl ?_
      refine x_get9 C xkd_9 i9 0 (by decide) (by decide +kernel) rfl rfl dX7_remembers_25 ?_
      refine x_iload C 3 dX7_remembers_28 rfl ?_
      refine x_iconst (v := 4) C dX7_remembers_30 (by decide) ?_
      refine x_isub C dX7_remembers_31 ?_
      obtain ⟨g40, hf⟩ := x_gd hf
      refine x_iald C xkd_10 xl_10 g40 dX7_remembers_32 ?_
      obtain ⟨g41, hf⟩ := x_gd hf
      refine x_iast C xkd_10 xl_10 g41 dX7_remembers_33 ?_
      obtain ⟨M42, e43, hf⟩ := x_lt hf
      rw [← e43]
      clear e43
      refine x_iinc (v := v4 + (-1)) (lv' := [(4, .int (v4 + (-1))), (0, .ref (xad G 9)), (2, .int v2), (3, .int v3)]) C 3 dX7_remembers_34 rfl rfl (by decide) rfl ?_
      refine x_goto C 10 dX7_remembers_37 (by decide) ?_
      refine x_sub [1, 2, 3, 0] rfl ?_
      exact ih (v4 + (-1)) M42 _ _ hf
set_option maxHeartbeats 4000000 in
set_option maxRecDepth 100000 in
theorem t_X7_remembers {l : Launch} {G : xG} {ta : Nat × Nat} {M : xM} {a1 : Int32} {a2 : Int32} {out : xM} (hf : f_X7_remembers a1 a2 M = some out) : xMet G l yX7_remembers wsX7_remembers (rm_X7_remembers 0 0) 0 0 ta M [.ref (xad G 9), .int a1, .int a2] none out := by
  refine x_met (cc := cX7_remembers) (nL := 5) (ret := none) (by decide) rfl (Nat.le_of_ble_eq_true rfl) ?_
  intro p e s m args below meth c C hr hlk
  have C : xC G p s m args c cX7_remembers 5 wsX7_remembers RX7 := C
  have i9 : ∀ w ∈ wsX70, w ∈ wsX7_remembers := by decide +kernel
  unfold f_X7_remembers at hf
  show xW G p l e (rm_X7_remembers 0 0) s m args below meth c 5 (MQ below (xQr G none out) args s 0 0 (xAs G)) 0 0 ta M 0 [(0, .ref (xad G 9)), (1, .int a1), (2, .int a2)] []
  refine x_iload_n C 1 dX7_remembers_0 rfl ?_
  obtain ⟨q1, hg, hf⟩ := x_bd hf
  refine x_callSr C (t_X7_personAt hg) (va_cwS 1 C.1.2.2.2.2 gX7_remembers_X7_personAt rfl rfl rfl (by decide +kernel) ⟨Nat.le_of_ble_eq_true rfl, Nat.le_of_ble_eq_true rfl⟩) rfl rfl (Nat.le_of_ble_eq_true rfl) dX7_remembers_1 ⟨Nat.zero_le _, Nat.zero_le _⟩ (fun ta2 => ?_)
  clear hg
  refine x_istore_n (lv' := [(3, .int q1), (0, .ref (xad G 9)), (1, .int a1), (2, .int a2)]) C dX7_remembers_4 rfl (by decide) rfl ?_
  refine x_sipush (v := 158) C dX7_remembers_5 (by decide) ?_
  refine x_istore (lv' := [(4, .int (158 : Int32)), (3, .int q1), (0, .ref (xad G 9)), (1, .int a1), (2, .int a2)]) C dX7_remembers_8 (by decide) rfl ?_
  refine x_sub [2, 4, 1, 0] rfl ?_
  exact t_X7_remembers_L10 C hr hlk xF (158 : Int32) M _ _ hf
/-! WaitingRoomSimulationModel.windowTurns(I)V -/
abbrev rm_X7_windowTurns (c s : Nat) : Room := { frames := 3, cells := c, slots := s, locals := 65 }
def f_X7_windowTurns (a1 : Int32) (M : xM) : Option (xM) := (f_X7_windowAt a1 M).bind fun q1 => (f_X7_isOpen a1 M).bind fun q3 => (if q3 = 0 then some M else if x_in (q1 + (2 : Int32)) 159 = true then (if (M.1 10 (q1 + (2 : Int32)).toNatClampNeg) = (-1 : Int32) then if x_in q1 159 = true then if x_in q1 159 = true then x_let (sI M 10 q1.toNatClampNeg ((M.1 10 q1.toNatClampNeg) - (1 : Int32))) fun M10 => if x_in q1 159 = true then (if (M10.1 10 q1.toNatClampNeg) = 0 then (f_X7_closes a1 M10).bind fun q14 => some q14 else some M10) else none else none else none else if x_in (q1 + (3 : Int32)) 159 = true then if x_in (q1 + (3 : Int32)) 159 = true then x_let (sI M 10 (q1 + (3 : Int32)).toNatClampNeg ((M.1 10 (q1 + (3 : Int32)).toNatClampNeg) - (1 : Int32))) fun M18 => if x_in (q1 + (3 : Int32)) 159 = true then (if (M18.1 10 (q1 + (3 : Int32)).toNatClampNeg) = 0 then if x_in (q1 + (2 : Int32)) 159 = true then (f_X7_remembers (M18.1 10 (q1 + (2 : Int32)).toNatClampNeg) a1 M18).bind fun q31 => if x_in (q1 + (4 : Int32)) 159 = true then if x_in (q1 + (4 : Int32)) 159 = true then x_let (sI q31 10 (q1 + (4 : Int32)).toNatClampNeg ((q31.1 10 (q1 + (4 : Int32)).toNatClampNeg) + (1 : Int32))) fun M35 => if x_in (q1 + (2 : Int32)) 159 = true then (f_X7_goes (M35.1 10 (q1 + (2 : Int32)).toNatClampNeg) M35).bind fun q38 => if x_in q1 159 = true then if x_in q1 159 = true then x_let (sI q38 10 q1.toNatClampNeg ((q38.1 10 q1.toNatClampNeg) - (1 : Int32))) fun M42 => if x_in q1 159 = true then (if (M42.1 10 q1.toNatClampNeg) = 0 then (f_X7_closes a1 M42).bind fun q46 => some q46 else some M42) else none else none else none else none else none else none else none else if x_in q1 159 = true then if x_in q1 159 = true then x_let (sI M18 10 q1.toNatClampNeg ((M18.1 10 q1.toNatClampNeg) - (1 : Int32))) fun M24 => if x_in q1 159 = true then (if (M24.1 10 q1.toNatClampNeg) = 0 then (f_X7_closes a1 M24).bind fun q28 => some q28 else some M24) else none else none else none) else none else none else none) else none)
set_option maxHeartbeats 4000000 in
set_option maxRecDepth 100000 in
theorem t_X7_windowTurns {l : Launch} {G : xG} {ta : Nat × Nat} {M : xM} {a1 : Int32} {out : xM} (hf : f_X7_windowTurns a1 M = some out) : xMet G l yX7_windowTurns wsX7_windowTurns (rm_X7_windowTurns 0 0) 0 0 ta M [.ref (xad G 9), .int a1] none out := by
  refine x_met (cc := cX7_windowTurns) (nL := 3) (ret := none) (by decide) rfl (Nat.le_of_ble_eq_true rfl) ?_
  intro p e s m args below meth c C hr hlk
  have C : xC G p s m args c cX7_windowTurns 3 wsX7_windowTurns RX7 := C
  have i9 : ∀ w ∈ wsX70, w ∈ wsX7_windowTurns := by decide +kernel
  unfold f_X7_windowTurns at hf
  show xW G p l e (rm_X7_windowTurns 0 0) s m args below meth c 3 (MQ below (xQr G none out) args s 0 0 (xAs G)) 0 0 ta M 0 [(0, .ref (xad G 9)), (1, .int a1)] []
  refine x_iload_n C 1 dX7_windowTurns_0 rfl ?_
  obtain ⟨q1, hg, hf⟩ := x_bd hf
  refine x_callSr C (t_X7_windowAt hg) (va_cwS 1 C.1.2.2.2.2 gX7_windowTurns_X7_windowAt rfl rfl rfl (by decide +kernel) ⟨Nat.le_of_ble_eq_true rfl, Nat.le_of_ble_eq_true rfl⟩) rfl rfl (Nat.le_of_ble_eq_true rfl) dX7_windowTurns_1 ⟨Nat.zero_le _, Nat.zero_le _⟩ (fun ta2 => ?_)
  clear hg
  refine x_istore_n (lv' := [(2, .int q1), (0, .ref (xad G 9)), (1, .int a1)]) C dX7_windowTurns_4 rfl (by decide) rfl ?_
  refine x_aload_n C 1 dX7_windowTurns_5 rfl ?_
  refine x_iload_n C 2 dX7_windowTurns_6 rfl ?_
  obtain ⟨q3, hg, hf⟩ := x_bd hf
  refine x_callVr C (by rw [xkd_9]; decide) (by rw [xkd_9]; decide) (xc9 xkd_9) rfl (t_X7_isOpen hg) (cwV 1 C.1.2.2.2.2 gX7_windowTurns_X7_isOpen rfl rfl rfl (by decide +kernel) ⟨Nat.le_of_ble_eq_true rfl, Nat.le_of_ble_eq_true rfl⟩) rfl rfl (Nat.le_of_ble_eq_true rfl) dX7_windowTurns_7 ⟨Nat.zero_le _, Nat.zero_le _⟩ (fun ta4 => ?_)
  clear hg
  refine x_if_ne C 14 dX7_windowTurns_10 (by decide) (fun hc5 => ?_) (fun hc5 => ?_)
  · have hf := x_ine hc5 hf
    refine x_aload_n C 1 dX7_windowTurns_14 rfl ?_
    refine x_get9 C xkd_9 i9 0 (by decide) (by decide +kernel) rfl rfl dX7_windowTurns_15 ?_
    refine x_iload_n C 0 dX7_windowTurns_18 rfl ?_
    refine x_iconst (v := 2) C dX7_windowTurns_19 (by decide) ?_
    refine x_iadd C dX7_windowTurns_20 ?_
    obtain ⟨g6, hf⟩ := x_gd hf
    refine x_iald C xkd_10 xl_10 g6 dX7_windowTurns_21 ?_
    refine x_iconst (v := (-1)) C dX7_windowTurns_22 (by decide) ?_
    refine x_icmp_eq C 86 dX7_windowTurns_23 (by decide) (fun hc7 => ?_) (fun hc7 => ?_)
    · have hf := x_ip hc7 hf
      refine x_aload_n C 1 dX7_windowTurns_86 rfl ?_
      refine x_get9 C xkd_9 i9 0 (by decide) (by decide +kernel) rfl rfl dX7_windowTurns_87 ?_
      refine x_iload_n C 0 dX7_windowTurns_90 rfl ?_
      refine x_dup2 C dX7_windowTurns_91 rfl rfl ?_
      obtain ⟨g8, hf⟩ := x_gd hf
      refine x_iald C xkd_10 xl_10 g8 dX7_windowTurns_92 ?_
      refine x_iconst (v := 1) C dX7_windowTurns_93 (by decide) ?_
      refine x_isub C dX7_windowTurns_94 ?_
      obtain ⟨g9, hf⟩ := x_gd hf
      refine x_iast C xkd_10 xl_10 g9 dX7_windowTurns_95 ?_
      obtain ⟨M10, e11, hf⟩ := x_lt hf
      rw [← e11]
      clear e11
      refine x_aload_n C 1 dX7_windowTurns_96 rfl ?_
      refine x_get9 C xkd_9 i9 0 (by decide) (by decide +kernel) rfl rfl dX7_windowTurns_97 ?_
      refine x_iload_n C 0 dX7_windowTurns_100 rfl ?_
      obtain ⟨g12, hf⟩ := x_gd hf
      refine x_iald C xkd_10 xl_10 g12 dX7_windowTurns_101 ?_
      refine x_if_ne C 110 dX7_windowTurns_102 (by decide) (fun hc13 => ?_) (fun hc13 => ?_)
      · have hf := x_ine hc13 hf
        obtain rfl := Option.some.inj hf
        exact x_vret C hr hlk dX7_windowTurns_110
      · have hf := x_ip hc13 hf
        refine x_aload_n C 1 dX7_windowTurns_105 rfl ?_
        refine x_iload_n C 2 dX7_windowTurns_106 rfl ?_
        obtain ⟨q14, hg, hf⟩ := x_bd hf
        refine x_callVv C (by rw [xkd_9]; decide) (by rw [xkd_9]; decide) (xc9 xkd_9) rfl (t_X7_closes hg) (cwV 1 C.1.2.2.2.2 gX7_windowTurns_X7_closes rfl rfl rfl (by decide +kernel) ⟨Nat.le_of_ble_eq_true rfl, Nat.le_of_ble_eq_true rfl⟩) rfl rfl (Nat.le_of_ble_eq_true rfl) dX7_windowTurns_107 ⟨Nat.zero_le _, Nat.zero_le _⟩ (fun ta15 => ?_)
        clear hg
        obtain rfl := Option.some.inj hf
        exact x_vret C hr hlk dX7_windowTurns_110
    · have hf := x_ine hc7 hf
      refine x_aload_n C 1 dX7_windowTurns_26 rfl ?_
      refine x_get9 C xkd_9 i9 0 (by decide) (by decide +kernel) rfl rfl dX7_windowTurns_27 ?_
      refine x_iload_n C 0 dX7_windowTurns_30 rfl ?_
      refine x_iconst (v := 3) C dX7_windowTurns_31 (by decide) ?_
      refine x_iadd C dX7_windowTurns_32 ?_
      refine x_dup2 C dX7_windowTurns_33 rfl rfl ?_
      obtain ⟨g16, hf⟩ := x_gd hf
      refine x_iald C xkd_10 xl_10 g16 dX7_windowTurns_34 ?_
      refine x_iconst (v := 1) C dX7_windowTurns_35 (by decide) ?_
      refine x_isub C dX7_windowTurns_36 ?_
      obtain ⟨g17, hf⟩ := x_gd hf
      refine x_iast C xkd_10 xl_10 g17 dX7_windowTurns_37 ?_
      obtain ⟨M18, e19, hf⟩ := x_lt hf
      rw [← e19]
      clear e19
      refine x_aload_n C 1 dX7_windowTurns_38 rfl ?_
      refine x_get9 C xkd_9 i9 0 (by decide) (by decide +kernel) rfl rfl dX7_windowTurns_39 ?_
      refine x_iload_n C 0 dX7_windowTurns_42 rfl ?_
      refine x_iconst (v := 3) C dX7_windowTurns_43 (by decide) ?_
      refine x_iadd C dX7_windowTurns_44 ?_
      obtain ⟨g20, hf⟩ := x_gd hf
      refine x_iald C xkd_10 xl_10 g20 dX7_windowTurns_45 ?_
      refine x_if_ne C 86 dX7_windowTurns_46 (by decide) (fun hc21 => ?_) (fun hc21 => ?_)
      · have hf := x_ine hc21 hf
        refine x_aload_n C 1 dX7_windowTurns_86 rfl ?_
        refine x_get9 C xkd_9 i9 0 (by decide) (by decide +kernel) rfl rfl dX7_windowTurns_87 ?_
        refine x_iload_n C 0 dX7_windowTurns_90 rfl ?_
        refine x_dup2 C dX7_windowTurns_91 rfl rfl ?_
        obtain ⟨g22, hf⟩ := x_gd hf
        refine x_iald C xkd_10 xl_10 g22 dX7_windowTurns_92 ?_
        refine x_iconst (v := 1) C dX7_windowTurns_93 (by decide) ?_
        refine x_isub C dX7_windowTurns_94 ?_
        obtain ⟨g23, hf⟩ := x_gd hf
        refine x_iast C xkd_10 xl_10 g23 dX7_windowTurns_95 ?_
        obtain ⟨M24, e25, hf⟩ := x_lt hf
        rw [← e25]
        clear e25
        refine x_aload_n C 1 dX7_windowTurns_96 rfl ?_
        refine x_get9 C xkd_9 i9 0 (by decide) (by decide +kernel) rfl rfl dX7_windowTurns_97 ?_
        refine x_iload_n C 0 dX7_windowTurns_100 rfl ?_
        obtain ⟨g26, hf⟩ := x_gd hf
        refine x_iald C xkd_10 xl_10 g26 dX7_windowTurns_101 ?_
        refine x_if_ne C 110 dX7_windowTurns_102 (by decide) (fun hc27 => ?_) (fun hc27 => ?_)
        · have hf := x_ine hc27 hf
          obtain rfl := Option.some.inj hf
          exact x_vret C hr hlk dX7_windowTurns_110
        · have hf := x_ip hc27 hf
          refine x_aload_n C 1 dX7_windowTurns_105 rfl ?_
          refine x_iload_n C 2 dX7_windowTurns_106 rfl ?_
          obtain ⟨q28, hg, hf⟩ := x_bd hf
          refine x_callVv C (by rw [xkd_9]; decide) (by rw [xkd_9]; decide) (xc9 xkd_9) rfl (t_X7_closes hg) (cwV 1 C.1.2.2.2.2 gX7_windowTurns_X7_closes rfl rfl rfl (by decide +kernel) ⟨Nat.le_of_ble_eq_true rfl, Nat.le_of_ble_eq_true rfl⟩) rfl rfl (Nat.le_of_ble_eq_true rfl) dX7_windowTurns_107 ⟨Nat.zero_le _, Nat.zero_le _⟩ (fun ta29 => ?_)
          clear hg
          obtain rfl := Option.some.inj hf
          exact x_vret C hr hlk dX7_windowTurns_110
      · have hf := x_ip hc21 hf
        refine x_aload_n C 1 dX7_windowTurns_49 rfl ?_
        refine x_aload_n C 1 dX7_windowTurns_50 rfl ?_
        refine x_get9 C xkd_9 i9 0 (by decide) (by decide +kernel) rfl rfl dX7_windowTurns_51 ?_
        refine x_iload_n C 0 dX7_windowTurns_54 rfl ?_
        refine x_iconst (v := 2) C dX7_windowTurns_55 (by decide) ?_
        refine x_iadd C dX7_windowTurns_56 ?_
        obtain ⟨g30, hf⟩ := x_gd hf
        refine x_iald C xkd_10 xl_10 g30 dX7_windowTurns_57 ?_
        refine x_iload_n C 2 dX7_windowTurns_58 rfl ?_
        obtain ⟨q31, hg, hf⟩ := x_bd hf
        refine x_callVv C (by rw [xkd_9]; decide) (by rw [xkd_9]; decide) (xc9 xkd_9) rfl (t_X7_remembers hg) (cwV 2 C.1.2.2.2.2 gX7_windowTurns_X7_remembers rfl rfl rfl (by decide +kernel) ⟨Nat.le_of_ble_eq_true rfl, Nat.le_of_ble_eq_true rfl⟩) rfl rfl (Nat.le_of_ble_eq_true rfl) dX7_windowTurns_59 ⟨Nat.zero_le _, Nat.zero_le _⟩ (fun ta32 => ?_)
        clear hg
        refine x_aload_n C 1 dX7_windowTurns_62 rfl ?_
        refine x_get9 C xkd_9 i9 0 (by decide) (by decide +kernel) rfl rfl dX7_windowTurns_63 ?_
        refine x_iload_n C 0 dX7_windowTurns_66 rfl ?_
        refine x_iconst (v := 4) C dX7_windowTurns_67 (by decide) ?_
        refine x_iadd C dX7_windowTurns_68 ?_
        refine x_dup2 C dX7_windowTurns_69 rfl rfl ?_
        obtain ⟨g33, hf⟩ := x_gd hf
        refine x_iald C xkd_10 xl_10 g33 dX7_windowTurns_70 ?_
        refine x_iconst (v := 1) C dX7_windowTurns_71 (by decide) ?_
        refine x_iadd C dX7_windowTurns_72 ?_
        obtain ⟨g34, hf⟩ := x_gd hf
        refine x_iast C xkd_10 xl_10 g34 dX7_windowTurns_73 ?_
        obtain ⟨M35, e36, hf⟩ := x_lt hf
        rw [← e36]
        clear e36
        refine x_aload_n C 1 dX7_windowTurns_74 rfl ?_
        refine x_aload_n C 1 dX7_windowTurns_75 rfl ?_
        refine x_get9 C xkd_9 i9 0 (by decide) (by decide +kernel) rfl rfl dX7_windowTurns_76 ?_
        refine x_iload_n C 0 dX7_windowTurns_79 rfl ?_
        refine x_iconst (v := 2) C dX7_windowTurns_80 (by decide) ?_
        refine x_iadd C dX7_windowTurns_81 ?_
        obtain ⟨g37, hf⟩ := x_gd hf
        refine x_iald C xkd_10 xl_10 g37 dX7_windowTurns_82 ?_
        obtain ⟨q38, hg, hf⟩ := x_bd hf
        refine x_callVv C (by rw [xkd_9]; decide) (by rw [xkd_9]; decide) (xc9 xkd_9) rfl (t_X7_goes hg) (cwV 1 C.1.2.2.2.2 gX7_windowTurns_X7_goes rfl rfl rfl (by decide +kernel) ⟨Nat.le_of_ble_eq_true rfl, Nat.le_of_ble_eq_true rfl⟩) rfl rfl (Nat.le_of_ble_eq_true rfl) dX7_windowTurns_83 ⟨Nat.zero_le _, Nat.zero_le _⟩ (fun ta39 => ?_)
        clear hg
        refine x_aload_n C 1 dX7_windowTurns_86 rfl ?_
        refine x_get9 C xkd_9 i9 0 (by decide) (by decide +kernel) rfl rfl dX7_windowTurns_87 ?_
        refine x_iload_n C 0 dX7_windowTurns_90 rfl ?_
        refine x_dup2 C dX7_windowTurns_91 rfl rfl ?_
        obtain ⟨g40, hf⟩ := x_gd hf
        refine x_iald C xkd_10 xl_10 g40 dX7_windowTurns_92 ?_
        refine x_iconst (v := 1) C dX7_windowTurns_93 (by decide) ?_
        refine x_isub C dX7_windowTurns_94 ?_
        obtain ⟨g41, hf⟩ := x_gd hf
        refine x_iast C xkd_10 xl_10 g41 dX7_windowTurns_95 ?_
        obtain ⟨M42, e43, hf⟩ := x_lt hf
        rw [← e43]
        clear e43
        refine x_aload_n C 1 dX7_windowTurns_96 rfl ?_
        refine x_get9 C xkd_9 i9 0 (by decide) (by decide +kernel) rfl rfl dX7_windowTurns_97 ?_
        refine x_iload_n C 0 dX7_windowTurns_100 rfl ?_
        obtain ⟨g44, hf⟩ := x_gd hf
        refine x_iald C xkd_10 xl_10 g44 dX7_windowTurns_101 ?_
        refine x_if_ne C 110 dX7_windowTurns_102 (by decide) (fun hc45 => ?_) (fun hc45 => ?_)
        · have hf := x_ine hc45 hf
          obtain rfl := Option.some.inj hf
          exact x_vret C hr hlk dX7_windowTurns_110
        · have hf := x_ip hc45 hf
          refine x_aload_n C 1 dX7_windowTurns_105 rfl ?_
          refine x_iload_n C 2 dX7_windowTurns_106 rfl ?_
          obtain ⟨q46, hg, hf⟩ := x_bd hf
          refine x_callVv C (by rw [xkd_9]; decide) (by rw [xkd_9]; decide) (xc9 xkd_9) rfl (t_X7_closes hg) (cwV 1 C.1.2.2.2.2 gX7_windowTurns_X7_closes rfl rfl rfl (by decide +kernel) ⟨Nat.le_of_ble_eq_true rfl, Nat.le_of_ble_eq_true rfl⟩) rfl rfl (Nat.le_of_ble_eq_true rfl) dX7_windowTurns_107 ⟨Nat.zero_le _, Nat.zero_le _⟩ (fun ta47 => ?_)
          clear hg
          obtain rfl := Option.some.inj hf
          exact x_vret C hr hlk dX7_windowTurns_110
  · have hf := x_ip hc5 hf
    obtain rfl := Option.some.inj hf
    exact x_vret C hr hlk dX7_windowTurns_13
/-! WaitingRoomSimulationModel.waitsOn(I)Z -/
abbrev rm_X7_waitsOn (c s : Nat) : Room := { frames := 1, cells := c, slots := s, locals := 20 }
def f_X7_waitsOn (a1 : Int32) (M : xM) : Option (Int32 × xM) := (f_X7_personAt a1 M).bind fun q1 => if x_in (q1 + (6 : Int32)) 159 = true then if x_in (q1 + (6 : Int32)) 159 = true then x_let (sI M 10 (q1 + (6 : Int32)).toNatClampNeg ((M.1 10 (q1 + (6 : Int32)).toNatClampNeg) + (1 : Int32))) fun M5 => if x_in (q1 + (4 : Int32)) 159 = true then (if (M5.1 10 (q1 + (4 : Int32)).toNatClampNeg) = (1 : Int32) then if x_in (q1 + (3 : Int32)) 159 = true then if x_in (q1 + (3 : Int32)) 159 = true then x_let (sI M5 10 (q1 + (3 : Int32)).toNatClampNeg (if ((M5.1 10 (q1 + (3 : Int32)).toNatClampNeg) + (1 : Int32)) < (6 : Int32) then ((M5.1 10 (q1 + (3 : Int32)).toNatClampNeg) + (1 : Int32)) else (6 : Int32))) fun M37 => if x_in (q1 + (3 : Int32)) 159 = true then (if (M37.1 10 (q1 + (3 : Int32)).toNatClampNeg) = (6 : Int32) then if x_in (q1 + (4 : Int32)) 159 = true then x_let (sI M37 10 (q1 + (4 : Int32)).toNatClampNeg (0 : Int32)) fun M45 => some ((0 : Int32), M45) else none else if x_in (q1 + (4 : Int32)) 159 = true then x_let (sI M37 10 (q1 + (4 : Int32)).toNatClampNeg (1 : Int32)) fun M42 => some ((0 : Int32), M42) else none) else none else none else none else if x_in (q1 + (3 : Int32)) 159 = true then if x_in (q1 + (3 : Int32)) 159 = true then x_let (sI M5 10 (q1 + (3 : Int32)).toNatClampNeg (if (0 : Int32) < ((M5.1 10 (q1 + (3 : Int32)).toNatClampNeg) - (1 : Int32)) then ((M5.1 10 (q1 + (3 : Int32)).toNatClampNeg) - (1 : Int32)) else (0 : Int32))) fun M11 => if x_in (q1 + (1 : Int32)) 159 = true then if x_in (q1 + (1 : Int32)) 159 = true then x_let (sI M11 10 (q1 + (1 : Int32)).toNatClampNeg (if (0 : Int32) < ((M11.1 10 (q1 + (1 : Int32)).toNatClampNeg) - (1 : Int32)) then ((M11.1 10 (q1 + (1 : Int32)).toNatClampNeg) - (1 : Int32)) else (0 : Int32))) fun M15 => if x_in (q1 + (1 : Int32)) 159 = true then (if (M15.1 10 (q1 + (1 : Int32)).toNatClampNeg) = 0 then if x_in (q1 + (2 : Int32)) 159 = true then if x_in (q1 + (2 : Int32)) 159 = true then x_let (sI M15 10 (q1 + (2 : Int32)).toNatClampNeg ((M15.1 10 (q1 + (2 : Int32)).toNatClampNeg) + (1 : Int32))) fun M25 => if x_in (6 : Int32) 159 = true then if x_in (6 : Int32) 159 = true then x_let (sI M25 10 (6 : Int32).toNatClampNeg ((M25.1 10 (6 : Int32).toNatClampNeg) + (1 : Int32))) fun M29 => if x_in (q1 + (1 : Int32)) 159 = true then (if (M29.1 10 (q1 + (1 : Int32)).toNatClampNeg) = 0 then if x_in (q1 + (2 : Int32)) 159 = true then (if (M29.1 10 (q1 + (2 : Int32)).toNatClampNeg) < (3 : Int32) then some ((0 : Int32), M29) else some ((1 : Int32), M29)) else none else some ((0 : Int32), M29)) else none else none else none else none else none else if x_in (q1 + (1 : Int32)) 159 = true then (if (M15.1 10 (q1 + (1 : Int32)).toNatClampNeg) = 0 then if x_in (q1 + (2 : Int32)) 159 = true then (if (M15.1 10 (q1 + (2 : Int32)).toNatClampNeg) < (3 : Int32) then some ((0 : Int32), M15) else some ((1 : Int32), M15)) else none else some ((0 : Int32), M15)) else none) else none else none else none else none else none) else none else none else none
set_option maxHeartbeats 4000000 in
set_option maxRecDepth 100000 in
theorem t_X7_waitsOn {l : Launch} {G : xG} {ta : Nat × Nat} {M : xM} {a1 : Int32} {out : Int32 × xM} (hf : f_X7_waitsOn a1 M = some out) : xMet G l yX7_waitsOn wsX7_waitsOn (rm_X7_waitsOn 0 0) 0 0 ta M [.ref (xad G 9), .int a1] (some (.int out.1)) out.2 := by
  refine x_met (cc := cX7_waitsOn) (nL := 3) (ret := some .boolean) (by decide) rfl (Nat.le_of_ble_eq_true rfl) ?_
  intro p e s m args below meth c C hr hlk
  have C : xC G p s m args c cX7_waitsOn 3 wsX7_waitsOn RX7 := C
  have i9 : ∀ w ∈ wsX70, w ∈ wsX7_waitsOn := by decide +kernel
  unfold f_X7_waitsOn at hf
  show xW G p l e (rm_X7_waitsOn 0 0) s m args below meth c 3 (MQ below (xQr G (some (.int out.1)) out.2) args s 0 0 (xAs G)) 0 0 ta M 0 [(0, .ref (xad G 9)), (1, .int a1)] []
  refine x_iload_n C 1 dX7_waitsOn_0 rfl ?_
  obtain ⟨q1, hg, hf⟩ := x_bd hf
  refine x_callSr C (t_X7_personAt hg) (va_cwS 1 C.1.2.2.2.2 gX7_waitsOn_X7_personAt rfl rfl rfl (by decide +kernel) ⟨Nat.le_of_ble_eq_true rfl, Nat.le_of_ble_eq_true rfl⟩) rfl rfl (Nat.le_of_ble_eq_true rfl) dX7_waitsOn_1 ⟨Nat.zero_le _, Nat.zero_le _⟩ (fun ta2 => ?_)
  clear hg
  refine x_istore_n (lv' := [(2, .int q1), (0, .ref (xad G 9)), (1, .int a1)]) C dX7_waitsOn_4 rfl (by decide) rfl ?_
  refine x_aload_n C 1 dX7_waitsOn_5 rfl ?_
  refine x_get9 C xkd_9 i9 0 (by decide) (by decide +kernel) rfl rfl dX7_waitsOn_6 ?_
  refine x_iload_n C 0 dX7_waitsOn_9 rfl ?_
  refine x_bipush (v := 6) C dX7_waitsOn_10 (by decide) ?_
  refine x_iadd C dX7_waitsOn_12 ?_
  refine x_dup2 C dX7_waitsOn_13 rfl rfl ?_
  obtain ⟨g3, hf⟩ := x_gd hf
  refine x_iald C xkd_10 xl_10 g3 dX7_waitsOn_14 ?_
  refine x_iconst (v := 1) C dX7_waitsOn_15 (by decide) ?_
  refine x_iadd C dX7_waitsOn_16 ?_
  obtain ⟨g4, hf⟩ := x_gd hf
  refine x_iast C xkd_10 xl_10 g4 dX7_waitsOn_17 ?_
  obtain ⟨M5, e6, hf⟩ := x_lt hf
  rw [← e6]
  clear e6
  refine x_aload_n C 1 dX7_waitsOn_18 rfl ?_
  refine x_get9 C xkd_9 i9 0 (by decide) (by decide +kernel) rfl rfl dX7_waitsOn_19 ?_
  refine x_iload_n C 0 dX7_waitsOn_22 rfl ?_
  refine x_iconst (v := 4) C dX7_waitsOn_23 (by decide) ?_
  refine x_iadd C dX7_waitsOn_24 ?_
  obtain ⟨g7, hf⟩ := x_gd hf
  refine x_iald C xkd_10 xl_10 g7 dX7_waitsOn_25 ?_
  refine x_iconst (v := 1) C dX7_waitsOn_26 (by decide) ?_
  refine x_icmp_ne C 81 dX7_waitsOn_27 (by decide) (fun hc8 => ?_) (fun hc8 => ?_)
  · have hf := x_ine hc8 hf
    refine x_aload_n C 1 dX7_waitsOn_81 rfl ?_
    refine x_get9 C xkd_9 i9 0 (by decide) (by decide +kernel) rfl rfl dX7_waitsOn_82 ?_
    refine x_iload_n C 0 dX7_waitsOn_85 rfl ?_
    refine x_iconst (v := 3) C dX7_waitsOn_86 (by decide) ?_
    refine x_iadd C dX7_waitsOn_87 ?_
    refine x_iconst (v := 0) C dX7_waitsOn_88 (by decide) ?_
    refine x_aload_n C 1 dX7_waitsOn_89 rfl ?_
    refine x_get9 C xkd_9 i9 0 (by decide) (by decide +kernel) rfl rfl dX7_waitsOn_90 ?_
    refine x_iload_n C 0 dX7_waitsOn_93 rfl ?_
    refine x_iconst (v := 3) C dX7_waitsOn_94 (by decide) ?_
    refine x_iadd C dX7_waitsOn_95 ?_
    obtain ⟨g9, hf⟩ := x_gd hf
    refine x_iald C xkd_10 xl_10 g9 dX7_waitsOn_96 ?_
    refine x_iconst (v := 1) C dX7_waitsOn_97 (by decide) ?_
    refine x_isub C dX7_waitsOn_98 ?_
    refine x_mmax C (by decide +kernel) (by decide +kernel) (by decide +kernel) (by decide +kernel) ⟨Nat.le_of_ble_eq_true rfl, Nat.le_of_ble_eq_true rfl⟩ ⟨Nat.zero_le _, Nat.zero_le _⟩ dX7_waitsOn_99 ?_
    obtain ⟨g10, hf⟩ := x_gd hf
    refine x_iast C xkd_10 xl_10 g10 dX7_waitsOn_102 ?_
    obtain ⟨M11, e12, hf⟩ := x_lt hf
    rw [← e12]
    clear e12
    refine x_aload_n C 1 dX7_waitsOn_103 rfl ?_
    refine x_get9 C xkd_9 i9 0 (by decide) (by decide +kernel) rfl rfl dX7_waitsOn_104 ?_
    refine x_iload_n C 0 dX7_waitsOn_107 rfl ?_
    refine x_iconst (v := 1) C dX7_waitsOn_108 (by decide) ?_
    refine x_iadd C dX7_waitsOn_109 ?_
    refine x_iconst (v := 0) C dX7_waitsOn_110 (by decide) ?_
    refine x_aload_n C 1 dX7_waitsOn_111 rfl ?_
    refine x_get9 C xkd_9 i9 0 (by decide) (by decide +kernel) rfl rfl dX7_waitsOn_112 ?_
    refine x_iload_n C 0 dX7_waitsOn_115 rfl ?_
    refine x_iconst (v := 1) C dX7_waitsOn_116 (by decide) ?_
    refine x_iadd C dX7_waitsOn_117 ?_
    obtain ⟨g13, hf⟩ := x_gd hf
    refine x_iald C xkd_10 xl_10 g13 dX7_waitsOn_118 ?_
    refine x_iconst (v := 1) C dX7_waitsOn_119 (by decide) ?_
    refine x_isub C dX7_waitsOn_120 ?_
    refine x_mmax C (by decide +kernel) (by decide +kernel) (by decide +kernel) (by decide +kernel) ⟨Nat.le_of_ble_eq_true rfl, Nat.le_of_ble_eq_true rfl⟩ ⟨Nat.zero_le _, Nat.zero_le _⟩ dX7_waitsOn_121 ?_
    obtain ⟨g14, hf⟩ := x_gd hf
    refine x_iast C xkd_10 xl_10 g14 dX7_waitsOn_124 ?_
    obtain ⟨M15, e16, hf⟩ := x_lt hf
    rw [← e16]
    clear e16
    refine x_aload_n C 1 dX7_waitsOn_125 rfl ?_
    refine x_get9 C xkd_9 i9 0 (by decide) (by decide +kernel) rfl rfl dX7_waitsOn_126 ?_
    refine x_iload_n C 0 dX7_waitsOn_129 rfl ?_
    refine x_iconst (v := 1) C dX7_waitsOn_130 (by decide) ?_
    refine x_iadd C dX7_waitsOn_131 ?_
    obtain ⟨g17, hf⟩ := x_gd hf
    refine x_iald C xkd_10 xl_10 g17 dX7_waitsOn_132 ?_
    refine x_if_ne C 159 dX7_waitsOn_133 (by decide) (fun hc18 => ?_) (fun hc18 => ?_)
    · have hf := x_ine hc18 hf
      refine x_aload_n C 1 dX7_waitsOn_159 rfl ?_
      refine x_get9 C xkd_9 i9 0 (by decide) (by decide +kernel) rfl rfl dX7_waitsOn_160 ?_
      refine x_iload_n C 0 dX7_waitsOn_163 rfl ?_
      refine x_iconst (v := 1) C dX7_waitsOn_164 (by decide) ?_
      refine x_iadd C dX7_waitsOn_165 ?_
      obtain ⟨g19, hf⟩ := x_gd hf
      refine x_iald C xkd_10 xl_10 g19 dX7_waitsOn_166 ?_
      refine x_if_ne C 186 dX7_waitsOn_167 (by decide) (fun hc20 => ?_) (fun hc20 => ?_)
      · have hf := x_ine hc20 hf
        refine x_iconst (v := 0) C dX7_waitsOn_186 (by decide) ?_
        obtain rfl := Option.some.inj hf
        exact x_zret C hr hlk (x_nb (Or.inl rfl)) dX7_waitsOn_187
      · have hf := x_ip hc20 hf
        refine x_aload_n C 1 dX7_waitsOn_170 rfl ?_
        refine x_get9 C xkd_9 i9 0 (by decide) (by decide +kernel) rfl rfl dX7_waitsOn_171 ?_
        refine x_iload_n C 0 dX7_waitsOn_174 rfl ?_
        refine x_iconst (v := 2) C dX7_waitsOn_175 (by decide) ?_
        refine x_iadd C dX7_waitsOn_176 ?_
        obtain ⟨g21, hf⟩ := x_gd hf
        refine x_iald C xkd_10 xl_10 g21 dX7_waitsOn_177 ?_
        refine x_iconst (v := 3) C dX7_waitsOn_178 (by decide) ?_
        refine x_icmp_lt C 186 dX7_waitsOn_179 (by decide) (fun hc22 => ?_) (fun hc22 => ?_)
        · have hf := x_ip hc22 hf
          refine x_iconst (v := 0) C dX7_waitsOn_186 (by decide) ?_
          obtain rfl := Option.some.inj hf
          exact x_zret C hr hlk (x_nb (Or.inl rfl)) dX7_waitsOn_187
        · have hf := x_ine hc22 hf
          refine x_iconst (v := 1) C dX7_waitsOn_182 (by decide) ?_
          refine x_goto C 187 dX7_waitsOn_183 (by decide) ?_
          obtain rfl := Option.some.inj hf
          exact x_zret C hr hlk (x_nb (Or.inr rfl)) dX7_waitsOn_187
    · have hf := x_ip hc18 hf
      refine x_aload_n C 1 dX7_waitsOn_136 rfl ?_
      refine x_get9 C xkd_9 i9 0 (by decide) (by decide +kernel) rfl rfl dX7_waitsOn_137 ?_
      refine x_iload_n C 0 dX7_waitsOn_140 rfl ?_
      refine x_iconst (v := 2) C dX7_waitsOn_141 (by decide) ?_
      refine x_iadd C dX7_waitsOn_142 ?_
      refine x_dup2 C dX7_waitsOn_143 rfl rfl ?_
      obtain ⟨g23, hf⟩ := x_gd hf
      refine x_iald C xkd_10 xl_10 g23 dX7_waitsOn_144 ?_
      refine x_iconst (v := 1) C dX7_waitsOn_145 (by decide) ?_
      refine x_iadd C dX7_waitsOn_146 ?_
      obtain ⟨g24, hf⟩ := x_gd hf
      refine x_iast C xkd_10 xl_10 g24 dX7_waitsOn_147 ?_
      obtain ⟨M25, e26, hf⟩ := x_lt hf
      rw [← e26]
      clear e26
      refine x_aload_n C 1 dX7_waitsOn_148 rfl ?_
      refine x_get9 C xkd_9 i9 0 (by decide) (by decide +kernel) rfl rfl dX7_waitsOn_149 ?_
      refine x_bipush (v := 6) C dX7_waitsOn_152 (by decide) ?_
      refine x_dup2 C dX7_waitsOn_154 rfl rfl ?_
      obtain ⟨g27, hf⟩ := x_gd hf
      refine x_iald C xkd_10 xl_10 g27 dX7_waitsOn_155 ?_
      refine x_iconst (v := 1) C dX7_waitsOn_156 (by decide) ?_
      refine x_iadd C dX7_waitsOn_157 ?_
      obtain ⟨g28, hf⟩ := x_gd hf
      refine x_iast C xkd_10 xl_10 g28 dX7_waitsOn_158 ?_
      obtain ⟨M29, e30, hf⟩ := x_lt hf
      rw [← e30]
      clear e30
      refine x_aload_n C 1 dX7_waitsOn_159 rfl ?_
      refine x_get9 C xkd_9 i9 0 (by decide) (by decide +kernel) rfl rfl dX7_waitsOn_160 ?_
      refine x_iload_n C 0 dX7_waitsOn_163 rfl ?_
      refine x_iconst (v := 1) C dX7_waitsOn_164 (by decide) ?_
      refine x_iadd C dX7_waitsOn_165 ?_
      obtain ⟨g31, hf⟩ := x_gd hf
      refine x_iald C xkd_10 xl_10 g31 dX7_waitsOn_166 ?_
      refine x_if_ne C 186 dX7_waitsOn_167 (by decide) (fun hc32 => ?_) (fun hc32 => ?_)
      · have hf := x_ine hc32 hf
        refine x_iconst (v := 0) C dX7_waitsOn_186 (by decide) ?_
        obtain rfl := Option.some.inj hf
        exact x_zret C hr hlk (x_nb (Or.inl rfl)) dX7_waitsOn_187
      · have hf := x_ip hc32 hf
        refine x_aload_n C 1 dX7_waitsOn_170 rfl ?_
        refine x_get9 C xkd_9 i9 0 (by decide) (by decide +kernel) rfl rfl dX7_waitsOn_171 ?_
        refine x_iload_n C 0 dX7_waitsOn_174 rfl ?_
        refine x_iconst (v := 2) C dX7_waitsOn_175 (by decide) ?_
        refine x_iadd C dX7_waitsOn_176 ?_
        obtain ⟨g33, hf⟩ := x_gd hf
        refine x_iald C xkd_10 xl_10 g33 dX7_waitsOn_177 ?_
        refine x_iconst (v := 3) C dX7_waitsOn_178 (by decide) ?_
        refine x_icmp_lt C 186 dX7_waitsOn_179 (by decide) (fun hc34 => ?_) (fun hc34 => ?_)
        · have hf := x_ip hc34 hf
          refine x_iconst (v := 0) C dX7_waitsOn_186 (by decide) ?_
          obtain rfl := Option.some.inj hf
          exact x_zret C hr hlk (x_nb (Or.inl rfl)) dX7_waitsOn_187
        · have hf := x_ine hc34 hf
          refine x_iconst (v := 1) C dX7_waitsOn_182 (by decide) ?_
          refine x_goto C 187 dX7_waitsOn_183 (by decide) ?_
          obtain rfl := Option.some.inj hf
          exact x_zret C hr hlk (x_nb (Or.inr rfl)) dX7_waitsOn_187
  · have hf := x_ip hc8 hf
    refine x_aload_n C 1 dX7_waitsOn_30 rfl ?_
    refine x_get9 C xkd_9 i9 0 (by decide) (by decide +kernel) rfl rfl dX7_waitsOn_31 ?_
    refine x_iload_n C 0 dX7_waitsOn_34 rfl ?_
    refine x_iconst (v := 3) C dX7_waitsOn_35 (by decide) ?_
    refine x_iadd C dX7_waitsOn_36 ?_
    refine x_bipush (v := 6) C dX7_waitsOn_37 (by decide) ?_
    refine x_aload_n C 1 dX7_waitsOn_39 rfl ?_
    refine x_get9 C xkd_9 i9 0 (by decide) (by decide +kernel) rfl rfl dX7_waitsOn_40 ?_
    refine x_iload_n C 0 dX7_waitsOn_43 rfl ?_
    refine x_iconst (v := 3) C dX7_waitsOn_44 (by decide) ?_
    refine x_iadd C dX7_waitsOn_45 ?_
    obtain ⟨g35, hf⟩ := x_gd hf
    refine x_iald C xkd_10 xl_10 g35 dX7_waitsOn_46 ?_
    refine x_iconst (v := 1) C dX7_waitsOn_47 (by decide) ?_
    refine x_iadd C dX7_waitsOn_48 ?_
    refine x_mmin C (by decide +kernel) (by decide +kernel) (by decide +kernel) (by decide +kernel) ⟨Nat.le_of_ble_eq_true rfl, Nat.le_of_ble_eq_true rfl⟩ ⟨Nat.zero_le _, Nat.zero_le _⟩ dX7_waitsOn_49 ?_
    obtain ⟨g36, hf⟩ := x_gd hf
    refine x_iast C xkd_10 xl_10 g36 dX7_waitsOn_52 ?_
    obtain ⟨M37, e38, hf⟩ := x_lt hf
    rw [← e38]
    clear e38
    refine x_aload_n C 1 dX7_waitsOn_53 rfl ?_
    refine x_get9 C xkd_9 i9 0 (by decide) (by decide +kernel) rfl rfl dX7_waitsOn_54 ?_
    refine x_iload_n C 0 dX7_waitsOn_57 rfl ?_
    refine x_iconst (v := 4) C dX7_waitsOn_58 (by decide) ?_
    refine x_iadd C dX7_waitsOn_59 ?_
    refine x_aload_n C 1 dX7_waitsOn_60 rfl ?_
    refine x_get9 C xkd_9 i9 0 (by decide) (by decide +kernel) rfl rfl dX7_waitsOn_61 ?_
    refine x_iload_n C 0 dX7_waitsOn_64 rfl ?_
    refine x_iconst (v := 3) C dX7_waitsOn_65 (by decide) ?_
    refine x_iadd C dX7_waitsOn_66 ?_
    obtain ⟨g39, hf⟩ := x_gd hf
    refine x_iald C xkd_10 xl_10 g39 dX7_waitsOn_67 ?_
    refine x_bipush (v := 6) C dX7_waitsOn_68 (by decide) ?_
    refine x_icmp_ne C 77 dX7_waitsOn_70 (by decide) (fun hc40 => ?_) (fun hc40 => ?_)
    · have hf := x_ine hc40 hf
      refine x_iconst (v := 1) C dX7_waitsOn_77 (by decide) ?_
      obtain ⟨g41, hf⟩ := x_gd hf
      refine x_iast C xkd_10 xl_10 g41 dX7_waitsOn_78 ?_
      obtain ⟨M42, e43, hf⟩ := x_lt hf
      rw [← e43]
      clear e43
      refine x_iconst (v := 0) C dX7_waitsOn_79 (by decide) ?_
      obtain rfl := Option.some.inj hf
      exact x_zret C hr hlk (x_nb (Or.inl rfl)) dX7_waitsOn_80
    · have hf := x_ip hc40 hf
      refine x_iconst (v := 0) C dX7_waitsOn_73 (by decide) ?_
      refine x_goto C 78 dX7_waitsOn_74 (by decide) ?_
      obtain ⟨g44, hf⟩ := x_gd hf
      refine x_iast C xkd_10 xl_10 g44 dX7_waitsOn_78 ?_
      obtain ⟨M45, e46, hf⟩ := x_lt hf
      rw [← e46]
      clear e46
      refine x_iconst (v := 0) C dX7_waitsOn_79 (by decide) ?_
      obtain rfl := Option.some.inj hf
      exact x_zret C hr hlk (x_nb (Or.inl rfl)) dX7_waitsOn_80
/-! WaitingRoomSimulationModel.takes(I)V -/
abbrev rm_X7_takes (c s : Nat) : Room := { frames := 1, cells := c, slots := s, locals := 22 }
def f_X7_takes_L7 (v1 : Int32) (v2 : Int32) (M : xM) : Nat → Int32 → Option (xM)
  | 0, _ => none
  | n+1, v3 => if x_in (9 : Int32) 159 = true then (if (M.1 10 (9 : Int32).toNatClampNeg) ≤ v3 then some M else if x_in ((123 : Int32) + v3) 159 = true then (f_X7_personAt (M.1 10 ((123 : Int32) + v3).toNatClampNeg) M).bind fun q6 => if x_in (q6 + (5 : Int32)) 159 = true then (if (M.1 10 (q6 + (5 : Int32)).toNatClampNeg) = (1 : Int32) then (f_X7_leavesRow v3 M).bind fun q10 => (f_X7_personAt (M.1 10 ((123 : Int32) + v3).toNatClampNeg) q10).bind fun q12 => if x_in (q12 + (4 : Int32)) 159 = true then x_let (sI q10 10 (q12 + (4 : Int32)).toNatClampNeg (0 : Int32)) fun M15 => (f_X7_personAt (M.1 10 ((123 : Int32) + v3).toNatClampNeg) M15).bind fun q17 => if x_in (q17 + (7 : Int32)) 159 = true then x_let (sI M15 10 (q17 + (7 : Int32)).toNatClampNeg v1) fun M20 => if x_in (v2 + (2 : Int32)) 159 = true then x_let (sI M20 10 (v2 + (2 : Int32)).toNatClampNeg (M.1 10 ((123 : Int32) + v3).toNatClampNeg)) fun M23 => if x_in (v2 + (1 : Int32)) 159 = true then if x_in (v2 + (3 : Int32)) 159 = true then x_let (sI M23 10 (v2 + (3 : Int32)).toNatClampNeg (M23.1 10 (v2 + (1 : Int32)).toNatClampNeg)) fun M27 => some M27 else none else none else none else none else none else f_X7_takes_L7 v1 v2 M n (v3 + 1)) else none else none) else none
def f_X7_takes (a1 : Int32) (M : xM) : Option (xM) := (f_X7_windowAt a1 M).bind fun q1 => f_X7_takes_L7 a1 q1 M xF (0 : Int32)
set_option maxHeartbeats 4000000 in
set_option maxRecDepth 100000 in
theorem t_X7_takes_L7 {G : xG} {p : Program} {l : Launch} {e : Env} {s : State} {m : MethodId} {args : Array Value} {below : List Frame} {meth : Method} {c : Code} (C : xC G p s m args c cX7_takes 5 wsX7_takes RX7) (hr : meth.sig.returnType = none) (hlk : meth.locks = false) {v1 : Int32} {v2 : Int32} {M : xM} : ∀ (n : Nat) (v3 : Int32) (ta : Nat × Nat) (out : xM), f_X7_takes_L7 v1 v2 M n v3 = some out → xW G p l e (rm_X7_takes 0 0) s m args below meth c 5 (MQ below (xQr G none out) args s 0 0 (xAs G)) 0 0 ta M 7 [(0, .ref (xad G 9)), (1, .int v1), (2, .int v2), (3, .int v3)] [] := by
  intro n
  induction n with
  | zero =>
    intro v3 ta out hf
    rw [f_X7_takes_L7] at hf
    cases hf
  | succ n ih =>
    intro v3 ta out hf
    rw [f_X7_takes_L7] at hf
    have i9 : ∀ w ∈ wsX70, w ∈ wsX7_takes := by decide +kernel
    refine x_iload_n C 3 dX7_takes_7 rfl ?_
    refine x_aload_n C 0 dX7_takes_8 rfl ?_
    refine x_get9 C xkd_9 i9 0 (by decide) (by decide +kernel) rfl rfl dX7_takes_9 ?_
    refine x_bipush (v := 9) C dX7_takes_12 (by decide) ?_
    obtain ⟨g3, hf⟩ := x_gd hf
    refine x_iald C xkd_10 xl_10 g3 dX7_takes_14 ?_
    refine x_icmp_ge C 110 dX7_takes_15 (by decide) (fun hc4 => ?_) (fun hc4 => ?_)
    · have hf := x_ip hc4 hf
      obtain rfl := Option.some.inj hf
      exact x_vret C hr hlk dX7_takes_110
    · have hf := x_ine hc4 hf
      refine x_aload_n C 0 dX7_takes_18 rfl ?_
      refine x_get9 C xkd_9 i9 0 (by decide) (by decide +kernel) rfl rfl dX7_takes_19 ?_
      refine x_bipush (v := 123) C dX7_takes_22 (by decide) ?_
      refine x_iload_n C 3 dX7_takes_24 rfl ?_
      refine x_iadd C dX7_takes_25 ?_
      obtain ⟨g5, hf⟩ := x_gd hf
      refine x_iald C xkd_10 xl_10 g5 dX7_takes_26 ?_
      refine x_istore (lv' := [(4, .int (M.1 10 ((123 : Int32) + v3).toNatClampNeg)), (0, .ref (xad G 9)), (1, .int v1), (2, .int v2), (3, .int v3)]) C dX7_takes_27 (by decide) rfl ?_
      refine x_aload_n C 1 dX7_takes_29 rfl ?_
      refine x_get9 C xkd_9 i9 0 (by decide) (by decide +kernel) rfl rfl dX7_takes_30 ?_
      refine x_iload C 0 dX7_takes_33 rfl ?_
      obtain ⟨q6, hg, hf⟩ := x_bd hf
      refine x_callSr C (t_X7_personAt hg) (va_cwS 1 C.1.2.2.2.2 gX7_takes_X7_personAt rfl rfl rfl (by decide +kernel) ⟨Nat.le_of_ble_eq_true rfl, Nat.le_of_ble_eq_true rfl⟩) rfl rfl (Nat.le_of_ble_eq_true rfl) dX7_takes_35 ⟨Nat.zero_le _, Nat.zero_le _⟩ (fun ta7 => ?_)
      clear hg
      refine x_iconst (v := 5) C dX7_takes_38 (by decide) ?_
      refine x_iadd C dX7_takes_39 ?_
      obtain ⟨g8, hf⟩ := x_gd hf
      refine x_iald C xkd_10 xl_10 g8 dX7_takes_40 ?_
      refine x_iconst (v := 1) C dX7_takes_41 (by decide) ?_
      refine x_icmp_ne C 104 dX7_takes_42 (by decide) (fun hc9 => ?_) (fun hc9 => ?_)
      · have hf := x_ine hc9 hf
        refine x_iinc (v := v3 + 1) (lv' := [(3, .int (v3 + 1)), (4, .int (M.1 10 ((123 : Int32) + v3).toNatClampNeg)), (0, .ref (xad G 9)), (1, .int v1), (2, .int v2)]) C 4 dX7_takes_104 rfl rfl (by decide) rfl ?_
        refine x_goto C 7 dX7_takes_107 (by decide) ?_
        refine x_sub [2, 3, 4, 0] rfl ?_
        exact ih (v3 + 1) _ _ hf
      · have hf := x_ip hc9 hf
        refine x_aload_n C 1 dX7_takes_45 rfl ?_
        refine x_iload_n C 4 dX7_takes_46 rfl ?_
        obtain ⟨q10, hg, hf⟩ := x_bd hf
        refine x_callVv C (by rw [xkd_9]; decide) (by rw [xkd_9]; decide) (xc9 xkd_9) rfl (t_X7_leavesRow hg) (cwV 1 C.1.2.2.2.2 gX7_takes_X7_leavesRow rfl rfl rfl (by decide +kernel) ⟨Nat.le_of_ble_eq_true rfl, Nat.le_of_ble_eq_true rfl⟩) rfl rfl (Nat.le_of_ble_eq_true rfl) dX7_takes_47 ⟨Nat.zero_le _, Nat.zero_le _⟩ (fun ta11 => ?_)
        clear hg
        refine x_aload_n C 1 dX7_takes_50 rfl ?_
        refine x_get9 C xkd_9 i9 0 (by decide) (by decide +kernel) rfl rfl dX7_takes_51 ?_
        refine x_iload C 0 dX7_takes_54 rfl ?_
        obtain ⟨q12, hg, hf⟩ := x_bd hf
        refine x_callSr C (t_X7_personAt hg) (va_cwS 1 C.1.2.2.2.2 gX7_takes_X7_personAt rfl rfl rfl (by decide +kernel) ⟨Nat.le_of_ble_eq_true rfl, Nat.le_of_ble_eq_true rfl⟩) rfl rfl (Nat.le_of_ble_eq_true rfl) dX7_takes_56 ⟨Nat.zero_le _, Nat.zero_le _⟩ (fun ta13 => ?_)
        clear hg
        refine x_iconst (v := 4) C dX7_takes_59 (by decide) ?_
        refine x_iadd C dX7_takes_60 ?_
        refine x_iconst (v := 0) C dX7_takes_61 (by decide) ?_
        obtain ⟨g14, hf⟩ := x_gd hf
        refine x_iast C xkd_10 xl_10 g14 dX7_takes_62 ?_
        obtain ⟨M15, e16, hf⟩ := x_lt hf
        rw [← e16]
        clear e16
        refine x_aload_n C 1 dX7_takes_63 rfl ?_
        refine x_get9 C xkd_9 i9 0 (by decide) (by decide +kernel) rfl rfl dX7_takes_64 ?_
        refine x_iload C 0 dX7_takes_67 rfl ?_
        obtain ⟨q17, hg, hf⟩ := x_bd hf
        refine x_callSr C (t_X7_personAt hg) (va_cwS 1 C.1.2.2.2.2 gX7_takes_X7_personAt rfl rfl rfl (by decide +kernel) ⟨Nat.le_of_ble_eq_true rfl, Nat.le_of_ble_eq_true rfl⟩) rfl rfl (Nat.le_of_ble_eq_true rfl) dX7_takes_69 ⟨Nat.zero_le _, Nat.zero_le _⟩ (fun ta18 => ?_)
        clear hg
        refine x_bipush (v := 7) C dX7_takes_72 (by decide) ?_
        refine x_iadd C dX7_takes_74 ?_
        refine x_iload_n C 2 dX7_takes_75 rfl ?_
        obtain ⟨g19, hf⟩ := x_gd hf
        refine x_iast C xkd_10 xl_10 g19 dX7_takes_76 ?_
        obtain ⟨M20, e21, hf⟩ := x_lt hf
        rw [← e21]
        clear e21
        refine x_aload_n C 1 dX7_takes_77 rfl ?_
        refine x_get9 C xkd_9 i9 0 (by decide) (by decide +kernel) rfl rfl dX7_takes_78 ?_
        refine x_iload_n C 3 dX7_takes_81 rfl ?_
        refine x_iconst (v := 2) C dX7_takes_82 (by decide) ?_
        refine x_iadd C dX7_takes_83 ?_
        refine x_iload C 0 dX7_takes_84 rfl ?_
        obtain ⟨g22, hf⟩ := x_gd hf
        refine x_iast C xkd_10 xl_10 g22 dX7_takes_86 ?_
        obtain ⟨M23, e24, hf⟩ := x_lt hf
        rw [← e24]
        clear e24
        refine x_aload_n C 1 dX7_takes_87 rfl ?_
        refine x_get9 C xkd_9 i9 0 (by decide) (by decide +kernel) rfl rfl dX7_takes_88 ?_
        refine x_iload_n C 3 dX7_takes_91 rfl ?_
        refine x_iconst (v := 3) C dX7_takes_92 (by decide) ?_
        refine x_iadd C dX7_takes_93 ?_
        refine x_aload_n C 1 dX7_takes_94 rfl ?_
        refine x_get9 C xkd_9 i9 0 (by decide) (by decide +kernel) rfl rfl dX7_takes_95 ?_
        refine x_iload_n C 3 dX7_takes_98 rfl ?_
        refine x_iconst (v := 1) C dX7_takes_99 (by decide) ?_
        refine x_iadd C dX7_takes_100 ?_
        obtain ⟨g25, hf⟩ := x_gd hf
        refine x_iald C xkd_10 xl_10 g25 dX7_takes_101 ?_
        obtain ⟨g26, hf⟩ := x_gd hf
        refine x_iast C xkd_10 xl_10 g26 dX7_takes_102 ?_
        obtain ⟨M27, e28, hf⟩ := x_lt hf
        rw [← e28]
        clear e28
        obtain rfl := Option.some.inj hf
        exact x_vret C hr hlk dX7_takes_103
set_option maxHeartbeats 4000000 in
set_option maxRecDepth 100000 in
theorem t_X7_takes {l : Launch} {G : xG} {ta : Nat × Nat} {M : xM} {a1 : Int32} {out : xM} (hf : f_X7_takes a1 M = some out) : xMet G l yX7_takes wsX7_takes (rm_X7_takes 0 0) 0 0 ta M [.ref (xad G 9), .int a1] none out := by
  refine x_met (cc := cX7_takes) (nL := 5) (ret := none) (by decide) rfl (Nat.le_of_ble_eq_true rfl) ?_
  intro p e s m args below meth c C hr hlk
  have C : xC G p s m args c cX7_takes 5 wsX7_takes RX7 := C
  have i9 : ∀ w ∈ wsX70, w ∈ wsX7_takes := by decide +kernel
  unfold f_X7_takes at hf
  show xW G p l e (rm_X7_takes 0 0) s m args below meth c 5 (MQ below (xQr G none out) args s 0 0 (xAs G)) 0 0 ta M 0 [(0, .ref (xad G 9)), (1, .int a1)] []
  refine x_iload_n C 1 dX7_takes_0 rfl ?_
  obtain ⟨q1, hg, hf⟩ := x_bd hf
  refine x_callSr C (t_X7_windowAt hg) (va_cwS 1 C.1.2.2.2.2 gX7_takes_X7_windowAt rfl rfl rfl (by decide +kernel) ⟨Nat.le_of_ble_eq_true rfl, Nat.le_of_ble_eq_true rfl⟩) rfl rfl (Nat.le_of_ble_eq_true rfl) dX7_takes_1 ⟨Nat.zero_le _, Nat.zero_le _⟩ (fun ta2 => ?_)
  clear hg
  refine x_istore_n (lv' := [(2, .int q1), (0, .ref (xad G 9)), (1, .int a1)]) C dX7_takes_4 rfl (by decide) rfl ?_
  refine x_iconst (v := 0) C dX7_takes_5 (by decide) ?_
  refine x_istore_n (lv' := [(3, .int (0 : Int32)), (2, .int q1), (0, .ref (xad G 9)), (1, .int a1)]) C dX7_takes_6 rfl (by decide) rfl ?_
  refine x_sub [2, 3, 1, 0] rfl ?_
  exact t_X7_takes_L7 C hr hlk xF (0 : Int32) _ _ hf
/-! WaitingRoomSimulationModel.passes()V -/
abbrev rm_X7_passes (c s : Nat) : Room := { frames := 4, cells := c, slots := s, locals := 87 }
def f_X7_passes_L75 : Nat → Int32 → xM → Option (xM)
  | 0, _, _ => none
  | n+1, v2, M => (if (3 : Int32) ≤ v2 then if x_in (1 : Int32) 159 = true then if x_in (1 : Int32) 159 = true then x_let (sI M 10 (1 : Int32).toNatClampNeg ((M.1 10 (1 : Int32).toNatClampNeg) + (1 : Int32))) fun M7 => some M7 else none else none else (f_X7_isOpen v2 M).bind fun q9 => (if q9 = 0 then f_X7_passes_L75 n (v2 + 1) M else (f_X7_windowAt v2 M).bind fun q12 => if x_in (q12 + (2 : Int32)) 159 = true then (if (M.1 10 (q12 + (2 : Int32)).toNatClampNeg) = (-1 : Int32) then (f_X7_takes v2 M).bind fun q16 => f_X7_passes_L75 n (v2 + 1) q16 else f_X7_passes_L75 n (v2 + 1) M) else none))
def f_X7_passes_L20 : Nat → Int32 → xM → Option (xM)
  | 0, _, _ => none
  | n+1, v1, M => if x_in (9 : Int32) 159 = true then (if (M.1 10 (9 : Int32).toNatClampNeg) ≤ v1 then f_X7_passes_L75 xF (0 : Int32) M else if x_in ((123 : Int32) + v1) 159 = true then (f_X7_waitsOn (M.1 10 ((123 : Int32) + v1).toNatClampNeg) M).bind fun q19 => (if q19.1 = 0 then f_X7_passes_L20 n (v1 + 1) q19.2 else (f_X7_goes (M.1 10 ((123 : Int32) + v1).toNatClampNeg) q19.2).bind fun q22 => if x_in (5 : Int32) 159 = true then if x_in (5 : Int32) 159 = true then x_let (sI q22 10 (5 : Int32).toNatClampNeg ((q22.1 10 (5 : Int32).toNatClampNeg) + (1 : Int32))) fun M26 => f_X7_passes_L20 n v1 M26 else none else none) else none) else none
def f_X7_passes_L2 : Nat → Int32 → xM → Option (xM)
  | 0, _, _ => none
  | n+1, v1, M => (if (3 : Int32) ≤ v1 then f_X7_passes_L20 xF (0 : Int32) M else (f_X7_windowTurns v1 M).bind fun q28 => f_X7_passes_L2 n (v1 + 1) q28)
def f_X7_passes (M : xM) : Option (xM) := f_X7_passes_L2 xF (0 : Int32) M
set_option maxHeartbeats 4000000 in
set_option maxRecDepth 100000 in
theorem t_X7_passes_L75 {G : xG} {p : Program} {l : Launch} {e : Env} {s : State} {m : MethodId} {args : Array Value} {below : List Frame} {meth : Method} {c : Code} (C : xC G p s m args c cX7_passes 3 wsX7_passes RX7) (hr : meth.sig.returnType = none) (hlk : meth.locks = false) : ∀ (n : Nat) (v2 : Int32) (M : xM) (ta : Nat × Nat) (out : xM), f_X7_passes_L75 n v2 M = some out → xW G p l e (rm_X7_passes 0 0) s m args below meth c 3 (MQ below (xQr G none out) args s 0 0 (xAs G)) 0 0 ta M 75 [(0, .ref (xad G 9)), (2, .int v2)] [] := by
  intro n
  induction n with
  | zero =>
    intro v2 M ta out hf
    rw [f_X7_passes_L75] at hf
    cases hf
  | succ n ih =>
    intro v2 M ta out hf
    rw [f_X7_passes_L75] at hf
    have i9 : ∀ w ∈ wsX70, w ∈ wsX7_passes := by decide +kernel
    refine x_iload_n C 1 dX7_passes_75 rfl ?_
    refine x_iconst (v := 3) C dX7_passes_76 (by decide) ?_
    refine x_icmp_ge C 114 dX7_passes_77 (by decide) (fun hc4 => ?_) (fun hc4 => ?_)
    · have hf := x_ip hc4 hf
      refine x_aload_n C 0 dX7_passes_114 rfl ?_
      refine x_get9 C xkd_9 i9 0 (by decide) (by decide +kernel) rfl rfl dX7_passes_115 ?_
      refine x_iconst (v := 1) C dX7_passes_118 (by decide) ?_
      refine x_dup2 C dX7_passes_119 rfl rfl ?_
      obtain ⟨g5, hf⟩ := x_gd hf
      refine x_iald C xkd_10 xl_10 g5 dX7_passes_120 ?_
      refine x_iconst (v := 1) C dX7_passes_121 (by decide) ?_
      refine x_iadd C dX7_passes_122 ?_
      obtain ⟨g6, hf⟩ := x_gd hf
      refine x_iast C xkd_10 xl_10 g6 dX7_passes_123 ?_
      obtain ⟨M7, e8, hf⟩ := x_lt hf
      rw [← e8]
      clear e8
      obtain rfl := Option.some.inj hf
      exact x_vret C hr hlk dX7_passes_124
    · have hf := x_ine hc4 hf
      refine x_aload_n C 0 dX7_passes_80 rfl ?_
      refine x_iload_n C 1 dX7_passes_81 rfl ?_
      obtain ⟨q9, hg, hf⟩ := x_bd hf
      refine x_callVr C (by rw [xkd_9]; decide) (by rw [xkd_9]; decide) (xc9 xkd_9) rfl (t_X7_isOpen hg) (cwV 1 C.1.2.2.2.2 gX7_passes_X7_isOpen rfl rfl rfl (by decide +kernel) ⟨Nat.le_of_ble_eq_true rfl, Nat.le_of_ble_eq_true rfl⟩) rfl rfl (Nat.le_of_ble_eq_true rfl) dX7_passes_82 ⟨Nat.zero_le _, Nat.zero_le _⟩ (fun ta10 => ?_)
      clear hg
      refine x_if_eq C 108 dX7_passes_85 (by decide) (fun hc11 => ?_) (fun hc11 => ?_)
      · have hf := x_ip hc11 hf
        refine x_iinc (v := v2 + 1) (lv' := [(2, .int (v2 + 1)), (0, .ref (xad G 9))]) C 1 dX7_passes_108 rfl rfl (by decide) rfl ?_
        refine x_goto C 75 dX7_passes_111 (by decide) ?_
        refine x_sub [1, 0] rfl ?_
        exact ih (v2 + 1) M _ _ hf
      · have hf := x_ine hc11 hf
        refine x_aload_n C 0 dX7_passes_88 rfl ?_
        refine x_get9 C xkd_9 i9 0 (by decide) (by decide +kernel) rfl rfl dX7_passes_89 ?_
        refine x_iload_n C 1 dX7_passes_92 rfl ?_
        obtain ⟨q12, hg, hf⟩ := x_bd hf
        refine x_callSr C (t_X7_windowAt hg) (va_cwS 1 C.1.2.2.2.2 gX7_passes_X7_windowAt rfl rfl rfl (by decide +kernel) ⟨Nat.le_of_ble_eq_true rfl, Nat.le_of_ble_eq_true rfl⟩) rfl rfl (Nat.le_of_ble_eq_true rfl) dX7_passes_93 ⟨Nat.zero_le _, Nat.zero_le _⟩ (fun ta13 => ?_)
        clear hg
        refine x_iconst (v := 2) C dX7_passes_96 (by decide) ?_
        refine x_iadd C dX7_passes_97 ?_
        obtain ⟨g14, hf⟩ := x_gd hf
        refine x_iald C xkd_10 xl_10 g14 dX7_passes_98 ?_
        refine x_iconst (v := (-1)) C dX7_passes_99 (by decide) ?_
        refine x_icmp_ne C 108 dX7_passes_100 (by decide) (fun hc15 => ?_) (fun hc15 => ?_)
        · have hf := x_ine hc15 hf
          refine x_iinc (v := v2 + 1) (lv' := [(2, .int (v2 + 1)), (0, .ref (xad G 9))]) C 1 dX7_passes_108 rfl rfl (by decide) rfl ?_
          refine x_goto C 75 dX7_passes_111 (by decide) ?_
          refine x_sub [1, 0] rfl ?_
          exact ih (v2 + 1) M _ _ hf
        · have hf := x_ip hc15 hf
          refine x_aload_n C 0 dX7_passes_103 rfl ?_
          refine x_iload_n C 1 dX7_passes_104 rfl ?_
          obtain ⟨q16, hg, hf⟩ := x_bd hf
          refine x_callVv C (by rw [xkd_9]; decide) (by rw [xkd_9]; decide) (xc9 xkd_9) rfl (t_X7_takes hg) (cwV 1 C.1.2.2.2.2 gX7_passes_X7_takes rfl rfl rfl (by decide +kernel) ⟨Nat.le_of_ble_eq_true rfl, Nat.le_of_ble_eq_true rfl⟩) rfl rfl (Nat.le_of_ble_eq_true rfl) dX7_passes_105 ⟨Nat.zero_le _, Nat.zero_le _⟩ (fun ta17 => ?_)
          clear hg
          refine x_iinc (v := v2 + 1) (lv' := [(2, .int (v2 + 1)), (0, .ref (xad G 9))]) C 1 dX7_passes_108 rfl rfl (by decide) rfl ?_
          refine x_goto C 75 dX7_passes_111 (by decide) ?_
          refine x_sub [1, 0] rfl ?_
          exact ih (v2 + 1) q16 _ _ hf
set_option maxHeartbeats 4000000 in
set_option maxRecDepth 100000 in
theorem t_X7_passes_L20 {G : xG} {p : Program} {l : Launch} {e : Env} {s : State} {m : MethodId} {args : Array Value} {below : List Frame} {meth : Method} {c : Code} (C : xC G p s m args c cX7_passes 3 wsX7_passes RX7) (hr : meth.sig.returnType = none) (hlk : meth.locks = false) : ∀ (n : Nat) (v1 : Int32) (M : xM) (ta : Nat × Nat) (out : xM), f_X7_passes_L20 n v1 M = some out → xW G p l e (rm_X7_passes 0 0) s m args below meth c 3 (MQ below (xQr G none out) args s 0 0 (xAs G)) 0 0 ta M 20 [(0, .ref (xad G 9)), (1, .int v1)] [] := by
  intro n
  induction n with
  | zero =>
    intro v1 M ta out hf
    rw [f_X7_passes_L20] at hf
    cases hf
  | succ n ih =>
    intro v1 M ta out hf
    rw [f_X7_passes_L20] at hf
    have i9 : ∀ w ∈ wsX70, w ∈ wsX7_passes := by decide +kernel
    refine x_iload_n C 1 dX7_passes_20 rfl ?_
    refine x_aload_n C 0 dX7_passes_21 rfl ?_
    refine x_get9 C xkd_9 i9 0 (by decide) (by decide +kernel) rfl rfl dX7_passes_22 ?_
    refine x_bipush (v := 9) C dX7_passes_25 (by decide) ?_
    obtain ⟨g2, hf⟩ := x_gd hf
    refine x_iald C xkd_10 xl_10 g2 dX7_passes_27 ?_
    refine x_icmp_ge C 73 dX7_passes_28 (by decide) (fun hc3 => ?_) (fun hc3 => ?_)
    · have hf := x_ip hc3 hf
      refine x_iconst (v := 0) C dX7_passes_73 (by decide) ?_
      refine x_istore_n (lv' := [(2, .int (0 : Int32)), (0, .ref (xad G 9)), (1, .int v1)]) C dX7_passes_74 rfl (by decide) rfl ?_
      refine x_sub [1, 0] rfl ?_
      exact t_X7_passes_L75 C hr hlk xF (0 : Int32) M _ _ hf
    · have hf := x_ine hc3 hf
      refine x_aload_n C 0 dX7_passes_31 rfl ?_
      refine x_get9 C xkd_9 i9 0 (by decide) (by decide +kernel) rfl rfl dX7_passes_32 ?_
      refine x_bipush (v := 123) C dX7_passes_35 (by decide) ?_
      refine x_iload_n C 1 dX7_passes_37 rfl ?_
      refine x_iadd C dX7_passes_38 ?_
      obtain ⟨g18, hf⟩ := x_gd hf
      refine x_iald C xkd_10 xl_10 g18 dX7_passes_39 ?_
      refine x_istore_n (lv' := [(2, .int (M.1 10 ((123 : Int32) + v1).toNatClampNeg)), (0, .ref (xad G 9)), (1, .int v1)]) C dX7_passes_40 rfl (by decide) rfl ?_
      refine x_aload_n C 1 dX7_passes_41 rfl ?_
      refine x_iload_n C 0 dX7_passes_42 rfl ?_
      obtain ⟨q19, hg, hf⟩ := x_bd hf
      refine x_callVr C (by rw [xkd_9]; decide) (by rw [xkd_9]; decide) (xc9 xkd_9) rfl (t_X7_waitsOn hg) (cwV 1 C.1.2.2.2.2 gX7_passes_X7_waitsOn rfl rfl rfl (by decide +kernel) ⟨Nat.le_of_ble_eq_true rfl, Nat.le_of_ble_eq_true rfl⟩) rfl rfl (Nat.le_of_ble_eq_true rfl) dX7_passes_43 ⟨Nat.zero_le _, Nat.zero_le _⟩ (fun ta20 => ?_)
      clear hg
      refine x_if_eq C 67 dX7_passes_46 (by decide) (fun hc21 => ?_) (fun hc21 => ?_)
      · have hf := x_ip hc21 hf
        refine x_iinc (v := v1 + 1) (lv' := [(1, .int (v1 + 1)), (2, .int (M.1 10 ((123 : Int32) + v1).toNatClampNeg)), (0, .ref (xad G 9))]) C 2 dX7_passes_67 rfl rfl (by decide) rfl ?_
        refine x_goto C 20 dX7_passes_70 (by decide) ?_
        refine x_sub [2, 0] rfl ?_
        exact ih (v1 + 1) q19.2 _ _ hf
      · have hf := x_ine hc21 hf
        refine x_aload_n C 1 dX7_passes_49 rfl ?_
        refine x_iload_n C 0 dX7_passes_50 rfl ?_
        obtain ⟨q22, hg, hf⟩ := x_bd hf
        refine x_callVv C (by rw [xkd_9]; decide) (by rw [xkd_9]; decide) (xc9 xkd_9) rfl (t_X7_goes hg) (cwV 1 C.1.2.2.2.2 gX7_passes_X7_goes rfl rfl rfl (by decide +kernel) ⟨Nat.le_of_ble_eq_true rfl, Nat.le_of_ble_eq_true rfl⟩) rfl rfl (Nat.le_of_ble_eq_true rfl) dX7_passes_51 ⟨Nat.zero_le _, Nat.zero_le _⟩ (fun ta23 => ?_)
        clear hg
        refine x_aload_n C 1 dX7_passes_54 rfl ?_
        refine x_get9 C xkd_9 i9 0 (by decide) (by decide +kernel) rfl rfl dX7_passes_55 ?_
        refine x_iconst (v := 5) C dX7_passes_58 (by decide) ?_
        refine x_dup2 C dX7_passes_59 rfl rfl ?_
        obtain ⟨g24, hf⟩ := x_gd hf
        refine x_iald C xkd_10 xl_10 g24 dX7_passes_60 ?_
        refine x_iconst (v := 1) C dX7_passes_61 (by decide) ?_
        refine x_iadd C dX7_passes_62 ?_
        obtain ⟨g25, hf⟩ := x_gd hf
        refine x_iast C xkd_10 xl_10 g25 dX7_passes_63 ?_
        obtain ⟨M26, e27, hf⟩ := x_lt hf
        rw [← e27]
        clear e27
        refine x_goto C 70 dX7_passes_64 (by decide) ?_
        refine x_goto C 20 dX7_passes_70 (by decide) ?_
        refine x_sub [1, 2] rfl ?_
        exact ih v1 M26 _ _ hf
set_option maxHeartbeats 4000000 in
set_option maxRecDepth 100000 in
theorem t_X7_passes_L2 {G : xG} {p : Program} {l : Launch} {e : Env} {s : State} {m : MethodId} {args : Array Value} {below : List Frame} {meth : Method} {c : Code} (C : xC G p s m args c cX7_passes 3 wsX7_passes RX7) (hr : meth.sig.returnType = none) (hlk : meth.locks = false) : ∀ (n : Nat) (v1 : Int32) (M : xM) (ta : Nat × Nat) (out : xM), f_X7_passes_L2 n v1 M = some out → xW G p l e (rm_X7_passes 0 0) s m args below meth c 3 (MQ below (xQr G none out) args s 0 0 (xAs G)) 0 0 ta M 2 [(0, .ref (xad G 9)), (1, .int v1)] [] := by
  intro n
  induction n with
  | zero =>
    intro v1 M ta out hf
    rw [f_X7_passes_L2] at hf
    cases hf
  | succ n ih =>
    intro v1 M ta out hf
    rw [f_X7_passes_L2] at hf
    have i9 : ∀ w ∈ wsX70, w ∈ wsX7_passes := by decide +kernel
    refine x_iload_n C 1 dX7_passes_2 rfl ?_
    refine x_iconst (v := 3) C dX7_passes_3 (by decide) ?_
    refine x_icmp_ge C 18 dX7_passes_4 (by decide) (fun hc1 => ?_) (fun hc1 => ?_)
    · have hf := x_ip hc1 hf
      refine x_iconst (v := 0) C dX7_passes_18 (by decide) ?_
      refine x_istore_n (lv' := [(1, .int (0 : Int32)), (0, .ref (xad G 9))]) C dX7_passes_19 rfl (by decide) rfl ?_
      refine x_sub [1, 0] rfl ?_
      exact t_X7_passes_L20 C hr hlk xF (0 : Int32) M _ _ hf
    · have hf := x_ine hc1 hf
      refine x_aload_n C 0 dX7_passes_7 rfl ?_
      refine x_iload_n C 1 dX7_passes_8 rfl ?_
      obtain ⟨q28, hg, hf⟩ := x_bd hf
      refine x_callVv C (by rw [xkd_9]; decide) (by rw [xkd_9]; decide) (xc9 xkd_9) rfl (t_X7_windowTurns hg) (cwV 1 C.1.2.2.2.2 gX7_passes_X7_windowTurns rfl rfl rfl (by decide +kernel) ⟨Nat.le_of_ble_eq_true rfl, Nat.le_of_ble_eq_true rfl⟩) rfl rfl (Nat.le_of_ble_eq_true rfl) dX7_passes_9 ⟨Nat.zero_le _, Nat.zero_le _⟩ (fun ta29 => ?_)
      clear hg
      refine x_iinc (v := v1 + 1) (lv' := [(1, .int (v1 + 1)), (0, .ref (xad G 9))]) C 1 dX7_passes_12 rfl rfl (by decide) rfl ?_
      refine x_goto C 2 dX7_passes_15 (by decide) ?_
      refine x_sub [1, 0] rfl ?_
      exact ih (v1 + 1) q28 _ _ hf
set_option maxHeartbeats 4000000 in
set_option maxRecDepth 100000 in
theorem t_X7_passes {l : Launch} {G : xG} {ta : Nat × Nat} {M : xM} {out : xM} (hf : f_X7_passes M = some out) : xMet G l yX7_passes wsX7_passes (rm_X7_passes 0 0) 0 0 ta M [.ref (xad G 9)] none out := by
  refine x_met (cc := cX7_passes) (nL := 3) (ret := none) (by decide) rfl (Nat.le_of_ble_eq_true rfl) ?_
  intro p e s m args below meth c C hr hlk
  have C : xC G p s m args c cX7_passes 3 wsX7_passes RX7 := C
  have i9 : ∀ w ∈ wsX70, w ∈ wsX7_passes := by decide +kernel
  unfold f_X7_passes at hf
  show xW G p l e (rm_X7_passes 0 0) s m args below meth c 3 (MQ below (xQr G none out) args s 0 0 (xAs G)) 0 0 ta M 0 [(0, .ref (xad G 9))] []
  refine x_iconst (v := 0) C dX7_passes_0 (by decide) ?_
  refine x_istore_n (lv' := [(1, .int (0 : Int32)), (0, .ref (xad G 9))]) C dX7_passes_1 rfl (by decide) rfl ?_
  refine x_sub [1, 0] rfl ?_
  exact t_X7_passes_L2 C hr hlk xF (0 : Int32) M _ _ hf
/-! WaitingRoomSimulationModel.advanceIt(I)I -/
abbrev rm_X7_advanceIt (c s : Nat) : Room := { frames := 5, cells := c, slots := s, locals := 109 }
def f_X7_advanceIt_L27 (v1 : Int32) (v2 : Int32) : Nat → Int32 → xM → Option (Int32 × xM)
  | 0, _, _ => none
  | n+1, v3, M => (if v1 ≤ v3 then if x_in (3 : Int32) 159 = true then some ((M.1 10 (3 : Int32).toNatClampNeg) - v2, M) else none else (f_X7_passes M).bind fun q7 => f_X7_advanceIt_L27 v1 v2 n (v3 + 1) q7)
def f_X7_advanceIt (a1 : Int32) (M : xM) : Option (Int32 × xM) := (f_X7_in a1.toInt64 (1 : Int64) (20 : Int64) M).bind fun q1 => (if q1 = 0 then (f_X7_throwing (1 : Int32) M).bind fun q9 => some (q9.1, q9.2) else if x_in (3 : Int32) 159 = true then f_X7_advanceIt_L27 a1 (M.1 10 (3 : Int32).toNatClampNeg) xF (0 : Int32) M else none)
set_option maxHeartbeats 4000000 in
set_option maxRecDepth 100000 in
theorem t_X7_advanceIt_L27 {G : xG} {p : Program} {l : Launch} {e : Env} {s : State} {m : MethodId} {args : Array Value} {below : List Frame} {meth : Method} {c : Code} (C : xC G p s m args c cX7_advanceIt 4 wsX7_advanceIt RX7) (hr : meth.sig.returnType = some .int) (hlk : meth.locks = false) {v1 : Int32} {v2 : Int32} : ∀ (n : Nat) (v3 : Int32) (M : xM) (ta : Nat × Nat) (out : Int32 × xM), f_X7_advanceIt_L27 v1 v2 n v3 M = some out → xW G p l e (rm_X7_advanceIt 0 0) s m args below meth c 4 (MQ below (xQr G (some (.int out.1)) out.2) args s 0 0 (xAs G)) 0 0 ta M 27 [(0, .ref (xad G 9)), (1, .int v1), (2, .int v2), (3, .int v3)] [] := by
  intro n
  induction n with
  | zero =>
    intro v3 M ta out hf
    rw [f_X7_advanceIt_L27] at hf
    cases hf
  | succ n ih =>
    intro v3 M ta out hf
    rw [f_X7_advanceIt_L27] at hf
    have i9 : ∀ w ∈ wsX70, w ∈ wsX7_advanceIt := by decide +kernel
    refine x_iload_n C 3 dX7_advanceIt_27 rfl ?_
    refine x_iload_n C 1 dX7_advanceIt_28 rfl ?_
    refine x_icmp_ge C 42 dX7_advanceIt_29 (by decide) (fun hc5 => ?_) (fun hc5 => ?_)
    · have hf := x_ip hc5 hf
      refine x_aload_n C 0 dX7_advanceIt_42 rfl ?_
      refine x_get9 C xkd_9 i9 0 (by decide) (by decide +kernel) rfl rfl dX7_advanceIt_43 ?_
      refine x_iconst (v := 3) C dX7_advanceIt_46 (by decide) ?_
      obtain ⟨g6, hf⟩ := x_gd hf
      refine x_iald C xkd_10 xl_10 g6 dX7_advanceIt_47 ?_
      refine x_iload_n C 2 dX7_advanceIt_48 rfl ?_
      refine x_isub C dX7_advanceIt_49 ?_
      obtain rfl := Option.some.inj hf
      exact x_iret C hr hlk dX7_advanceIt_50
    · have hf := x_ine hc5 hf
      refine x_aload_n C 0 dX7_advanceIt_32 rfl ?_
      obtain ⟨q7, hg, hf⟩ := x_bd hf
      refine x_callVv C (by rw [xkd_9]; decide) (by rw [xkd_9]; decide) (xc9 xkd_9) rfl (t_X7_passes hg) (cwV 0 C.1.2.2.2.2 gX7_advanceIt_X7_passes rfl rfl rfl (by decide +kernel) ⟨Nat.le_of_ble_eq_true rfl, Nat.le_of_ble_eq_true rfl⟩) rfl rfl (Nat.le_of_ble_eq_true rfl) dX7_advanceIt_33 ⟨Nat.zero_le _, Nat.zero_le _⟩ (fun ta8 => ?_)
      clear hg
      refine x_iinc (v := v3 + 1) (lv' := [(3, .int (v3 + 1)), (0, .ref (xad G 9)), (1, .int v1), (2, .int v2)]) C 3 dX7_advanceIt_36 rfl rfl (by decide) rfl ?_
      refine x_goto C 27 dX7_advanceIt_39 (by decide) ?_
      refine x_sub [1, 2, 3, 0] rfl ?_
      exact ih (v3 + 1) q7 _ _ hf
set_option maxHeartbeats 4000000 in
set_option maxRecDepth 100000 in
theorem t_X7_advanceIt {l : Launch} {G : xG} {ta : Nat × Nat} {M : xM} {a1 : Int32} {out : Int32 × xM} (hf : f_X7_advanceIt a1 M = some out) : xMet G l yX7_advanceIt wsX7_advanceIt (rm_X7_advanceIt 0 0) 0 0 ta M [.ref (xad G 9), .int a1] (some (.int out.1)) out.2 := by
  refine x_met (cc := cX7_advanceIt) (nL := 4) (ret := some .int) (by decide) rfl (Nat.le_of_ble_eq_true rfl) ?_
  intro p e s m args below meth c C hr hlk
  have C : xC G p s m args c cX7_advanceIt 4 wsX7_advanceIt RX7 := C
  have i9 : ∀ w ∈ wsX70, w ∈ wsX7_advanceIt := by decide +kernel
  unfold f_X7_advanceIt at hf
  show xW G p l e (rm_X7_advanceIt 0 0) s m args below meth c 4 (MQ below (xQr G (some (.int out.1)) out.2) args s 0 0 (xAs G)) 0 0 ta M 0 [(0, .ref (xad G 9)), (1, .int a1)] []
  refine x_iload_n C 1 dX7_advanceIt_0 rfl ?_
  refine x_i2l (v := a1.toInt64) C dX7_advanceIt_1 rfl ?_
  refine x_lconst (v := 1) C dX7_advanceIt_2 (by decide) ?_
  refine x_ldc2 (v := 20) C (by decide +kernel) dX7_advanceIt_3 ?_
  obtain ⟨q1, hg, hf⟩ := x_bd hf
  refine x_callSr C (t_X7_in hg) (va_cwS 3 C.1.2.2.2.2 gX7_advanceIt_X7_in rfl rfl rfl (by decide +kernel) ⟨Nat.le_of_ble_eq_true rfl, Nat.le_of_ble_eq_true rfl⟩) rfl rfl (Nat.le_of_ble_eq_true rfl) dX7_advanceIt_6 ⟨Nat.zero_le _, Nat.zero_le _⟩ (fun ta2 => ?_)
  clear hg
  refine x_if_ne C 18 dX7_advanceIt_9 (by decide) (fun hc3 => ?_) (fun hc3 => ?_)
  · have hf := x_ine hc3 hf
    refine x_aload_n C 0 dX7_advanceIt_18 rfl ?_
    refine x_get9 C xkd_9 i9 0 (by decide) (by decide +kernel) rfl rfl dX7_advanceIt_19 ?_
    refine x_iconst (v := 3) C dX7_advanceIt_22 (by decide) ?_
    obtain ⟨g4, hf⟩ := x_gd hf
    refine x_iald C xkd_10 xl_10 g4 dX7_advanceIt_23 ?_
    refine x_istore_n (lv' := [(2, .int (M.1 10 (3 : Int32).toNatClampNeg)), (0, .ref (xad G 9)), (1, .int a1)]) C dX7_advanceIt_24 rfl (by decide) rfl ?_
    refine x_iconst (v := 0) C dX7_advanceIt_25 (by decide) ?_
    refine x_istore_n (lv' := [(3, .int (0 : Int32)), (2, .int (M.1 10 (3 : Int32).toNatClampNeg)), (0, .ref (xad G 9)), (1, .int a1)]) C dX7_advanceIt_26 rfl (by decide) rfl ?_
    refine x_sub [2, 3, 1, 0] rfl ?_
    exact t_X7_advanceIt_L27 C hr hlk xF (0 : Int32) M _ _ hf
  · have hf := x_ip hc3 hf
    refine x_aload_n C 0 dX7_advanceIt_12 rfl ?_
    refine x_iconst (v := 1) C dX7_advanceIt_13 (by decide) ?_
    obtain ⟨q9, hg, hf⟩ := x_bd hf
    refine x_callVr C (by rw [xkd_9]; decide) (by rw [xkd_9]; decide) (xc9 xkd_9) rfl (t_X7_throwing hg) (cwV 1 C.1.2.2.2.2 gX7_advanceIt_X7_throwing rfl rfl rfl (by decide +kernel) ⟨Nat.le_of_ble_eq_true rfl, Nat.le_of_ble_eq_true rfl⟩) rfl rfl (Nat.le_of_ble_eq_true rfl) dX7_advanceIt_14 ⟨Nat.zero_le _, Nat.zero_le _⟩ (fun ta10 => ?_)
    clear hg
    obtain rfl := Option.some.inj hf
    exact x_iret C hr hlk dX7_advanceIt_17
/-! WaitingRoomSimulationModel.advance(I)I -/
abbrev rm_X7_advance (c s : Nat) : Room := { frames := 6, cells := c, slots := s, locals := 132 }
def f_X7_advance (a1 : Int32) (M : xM) : Option (Int32 × xM) := (f_X7_starts M).bind fun q1 => (f_X7_advanceIt a1 q1).bind fun q3 => (f_X7_changed q3.1 q3.2).bind fun q5 => some (q5.1, q5.2)
set_option maxHeartbeats 4000000 in
set_option maxRecDepth 100000 in
theorem t_X7_advance {l : Launch} {G : xG} {ta : Nat × Nat} {M : xM} {a1 : Int32} {out : Int32 × xM} (hf : f_X7_advance a1 M = some out) : xMet G l yX7_advance wsX7_advance (rm_X7_advance 0 0) 0 0 ta M [.ref (xad G 9), .int a1] (some (.int out.1)) out.2 := by
  refine x_met (cc := cX7_advance) (nL := 2) (ret := some .int) (by decide) rfl (Nat.le_of_ble_eq_true rfl) ?_
  intro p e s m args below meth c C hr hlk
  have C : xC G p s m args c cX7_advance 2 wsX7_advance RX7 := C
  unfold f_X7_advance at hf
  show xW G p l e (rm_X7_advance 0 0) s m args below meth c 2 (MQ below (xQr G (some (.int out.1)) out.2) args s 0 0 (xAs G)) 0 0 ta M 0 [(0, .ref (xad G 9)), (1, .int a1)] []
  refine x_aload_n C 0 dX7_advance_0 rfl ?_
  obtain ⟨q1, hg, hf⟩ := x_bd hf
  refine x_callVv C (by rw [xkd_9]; decide) (by rw [xkd_9]; decide) (xc9 xkd_9) rfl (t_X7_starts hg) (cwV 0 C.1.2.2.2.2 gX7_advance_X7_starts rfl rfl rfl (by decide +kernel) ⟨Nat.le_of_ble_eq_true rfl, Nat.le_of_ble_eq_true rfl⟩) rfl rfl (Nat.le_of_ble_eq_true rfl) dX7_advance_1 ⟨Nat.zero_le _, Nat.zero_le _⟩ (fun ta2 => ?_)
  clear hg
  refine x_aload_n C 0 dX7_advance_4 rfl ?_
  refine x_aload_n C 0 dX7_advance_5 rfl ?_
  refine x_iload_n C 1 dX7_advance_6 rfl ?_
  obtain ⟨q3, hg, hf⟩ := x_bd hf
  refine x_callVr C (by rw [xkd_9]; decide) (by rw [xkd_9]; decide) (xc9 xkd_9) rfl (t_X7_advanceIt hg) (cwV 1 C.1.2.2.2.2 gX7_advance_X7_advanceIt rfl rfl rfl (by decide +kernel) ⟨Nat.le_of_ble_eq_true rfl, Nat.le_of_ble_eq_true rfl⟩) rfl rfl (Nat.le_of_ble_eq_true rfl) dX7_advance_7 ⟨Nat.zero_le _, Nat.zero_le _⟩ (fun ta4 => ?_)
  clear hg
  obtain ⟨q5, hg, hf⟩ := x_bd hf
  refine x_callVr C (by rw [xkd_9]; decide) (by rw [xkd_9]; decide) (xc9 xkd_9) rfl (t_X7_changed hg) (cwV 1 C.1.2.2.2.2 gX7_advance_X7_changed rfl rfl rfl (by decide +kernel) ⟨Nat.le_of_ble_eq_true rfl, Nat.le_of_ble_eq_true rfl⟩) rfl rfl (Nat.le_of_ble_eq_true rfl) dX7_advance_10 ⟨Nat.zero_le _, Nat.zero_le _⟩ (fun ta6 => ?_)
  clear hg
  obtain rfl := Option.some.inj hf
  exact x_iret C hr hlk dX7_advance_13
/-! WaitingRoomSimulationModel.customerCount()I -/
abbrev rm_X7_customerCount (c s : Nat) : Room := { frames := 0, cells := c, slots := s, locals := 0 }
def f_X7_customerCount (M : xM) : Option (Int32 × xM) := x_let (sI M 9 9 (0 : Int32)) fun M1 => if x_in (0 : Int32) 159 = true then some (M1.1 10 (0 : Int32).toNatClampNeg, M1) else none
set_option maxHeartbeats 4000000 in
set_option maxRecDepth 100000 in
theorem t_X7_customerCount {l : Launch} {G : xG} {ta : Nat × Nat} {M : xM} {out : Int32 × xM} (hf : f_X7_customerCount M = some out) : xMet G l yX7_customerCount wsX7_customerCount (rm_X7_customerCount 0 0) 0 0 ta M [.ref (xad G 9)] (some (.int out.1)) out.2 := by
  refine x_met (cc := cX7_customerCount) (nL := 1) (ret := some .int) (by decide) rfl (Nat.le_of_ble_eq_true rfl) ?_
  intro p e s m args below meth c C hr hlk
  have C : xC G p s m args c cX7_customerCount 1 wsX7_customerCount RX7 := C
  have i9 : ∀ w ∈ wsX70, w ∈ wsX7_customerCount := by decide +kernel
  unfold f_X7_customerCount at hf
  show xW G p l e (rm_X7_customerCount 0 0) s m args below meth c 1 (MQ below (xQr G (some (.int out.1)) out.2) args s 0 0 (xAs G)) 0 0 ta M 0 [(0, .ref (xad G 9))] []
  refine x_aload_n C 0 dX7_customerCount_0 rfl ?_
  refine x_iconst (v := 0) C dX7_customerCount_1 (by decide) ?_
  refine x_put9 C xkd_9 i9 9 (by decide) (by decide +kernel) dX7_customerCount_2 ?_
  obtain ⟨M1, e2, hf⟩ := x_lt hf
  rw [← e2]
  clear e2
  refine x_aload_n C 0 dX7_customerCount_5 rfl ?_
  refine x_get9 C xkd_9 i9 0 (by decide) (by decide +kernel) rfl rfl dX7_customerCount_6 ?_
  refine x_iconst (v := 0) C dX7_customerCount_9 (by decide) ?_
  obtain ⟨g3, hf⟩ := x_gd hf
  refine x_iald C xkd_10 xl_10 g3 dX7_customerCount_10 ?_
  obtain rfl := Option.some.inj hf
  exact x_iret C hr hlk dX7_customerCount_11
/-! WaitingRoomSimulationModel.of(II)I -/
abbrev rm_X7_of (c s : Nat) : Room := { frames := 2, cells := c, slots := s, locals := 46 }
def f_X7_of (a1 : Int32) (a2 : Int32) (M : xM) : Option (Int32 × xM) := x_let (sI M 9 9 (0 : Int32)) fun M1 => (f_X7_isHere a1 M1).bind fun q3 => (if q3 = 0 then (f_X7_throwing (1 : Int32) M1).bind fun q6 => some (q6.1, q6.2) else (f_X7_personAt a1 M1).bind fun q8 => if x_in (q8 + a2) 159 = true then some (M1.1 10 (q8 + a2).toNatClampNeg, M1) else none)
set_option maxHeartbeats 4000000 in
set_option maxRecDepth 100000 in
theorem t_X7_of {l : Launch} {G : xG} {ta : Nat × Nat} {M : xM} {a1 : Int32} {a2 : Int32} {out : Int32 × xM} (hf : f_X7_of a1 a2 M = some out) : xMet G l yX7_of wsX7_of (rm_X7_of 0 0) 0 0 ta M [.ref (xad G 9), .int a1, .int a2] (some (.int out.1)) out.2 := by
  refine x_met (cc := cX7_of) (nL := 3) (ret := some .int) (by decide) rfl (Nat.le_of_ble_eq_true rfl) ?_
  intro p e s m args below meth c C hr hlk
  have C : xC G p s m args c cX7_of 3 wsX7_of RX7 := C
  have i9 : ∀ w ∈ wsX70, w ∈ wsX7_of := by decide +kernel
  unfold f_X7_of at hf
  show xW G p l e (rm_X7_of 0 0) s m args below meth c 3 (MQ below (xQr G (some (.int out.1)) out.2) args s 0 0 (xAs G)) 0 0 ta M 0 [(0, .ref (xad G 9)), (1, .int a1), (2, .int a2)] []
  refine x_aload_n C 0 dX7_of_0 rfl ?_
  refine x_iconst (v := 0) C dX7_of_1 (by decide) ?_
  refine x_put9 C xkd_9 i9 9 (by decide) (by decide +kernel) dX7_of_2 ?_
  obtain ⟨M1, e2, hf⟩ := x_lt hf
  rw [← e2]
  clear e2
  refine x_aload_n C 0 dX7_of_5 rfl ?_
  refine x_iload_n C 1 dX7_of_6 rfl ?_
  obtain ⟨q3, hg, hf⟩ := x_bd hf
  refine x_callVr C (by rw [xkd_9]; decide) (by rw [xkd_9]; decide) (xc9 xkd_9) rfl (t_X7_isHere hg) (cwV 1 C.1.2.2.2.2 gX7_of_X7_isHere rfl rfl rfl (by decide +kernel) ⟨Nat.le_of_ble_eq_true rfl, Nat.le_of_ble_eq_true rfl⟩) rfl rfl (Nat.le_of_ble_eq_true rfl) dX7_of_7 ⟨Nat.zero_le _, Nat.zero_le _⟩ (fun ta4 => ?_)
  clear hg
  refine x_if_eq C 27 dX7_of_10 (by decide) (fun hc5 => ?_) (fun hc5 => ?_)
  · have hf := x_ip hc5 hf
    refine x_aload_n C 0 dX7_of_27 rfl ?_
    refine x_iconst (v := 1) C dX7_of_28 (by decide) ?_
    obtain ⟨q6, hg, hf⟩ := x_bd hf
    refine x_callVr C (by rw [xkd_9]; decide) (by rw [xkd_9]; decide) (xc9 xkd_9) rfl (t_X7_throwing hg) (cwV 1 C.1.2.2.2.2 gX7_of_X7_throwing rfl rfl rfl (by decide +kernel) ⟨Nat.le_of_ble_eq_true rfl, Nat.le_of_ble_eq_true rfl⟩) rfl rfl (Nat.le_of_ble_eq_true rfl) dX7_of_29 ⟨Nat.zero_le _, Nat.zero_le _⟩ (fun ta7 => ?_)
    clear hg
    obtain rfl := Option.some.inj hf
    exact x_iret C hr hlk dX7_of_32
  · have hf := x_ine hc5 hf
    refine x_aload_n C 0 dX7_of_13 rfl ?_
    refine x_get9 C xkd_9 i9 0 (by decide) (by decide +kernel) rfl rfl dX7_of_14 ?_
    refine x_iload_n C 1 dX7_of_17 rfl ?_
    obtain ⟨q8, hg, hf⟩ := x_bd hf
    refine x_callSr C (t_X7_personAt hg) (va_cwS 1 C.1.2.2.2.2 gX7_of_X7_personAt rfl rfl rfl (by decide +kernel) ⟨Nat.le_of_ble_eq_true rfl, Nat.le_of_ble_eq_true rfl⟩) rfl rfl (Nat.le_of_ble_eq_true rfl) dX7_of_18 ⟨Nat.zero_le _, Nat.zero_le _⟩ (fun ta9 => ?_)
    clear hg
    refine x_iload_n C 2 dX7_of_21 rfl ?_
    refine x_iadd C dX7_of_22 ?_
    obtain ⟨g10, hf⟩ := x_gd hf
    refine x_iald C xkd_10 xl_10 g10 dX7_of_23 ?_
    refine x_goto C 32 dX7_of_24 (by decide) ?_
    obtain rfl := Option.some.inj hf
    exact x_iret C hr hlk dX7_of_32
/-! WaitingRoomSimulationModel.ticket(I)I -/
abbrev rm_X7_ticket (c s : Nat) : Room := { frames := 3, cells := c, slots := s, locals := 68 }
def f_X7_ticket (a1 : Int32) (M : xM) : Option (Int32 × xM) := (f_X7_of a1 (0 : Int32) M).bind fun q1 => some (q1.1, q1.2)
set_option maxHeartbeats 4000000 in
set_option maxRecDepth 100000 in
theorem t_X7_ticket {l : Launch} {G : xG} {ta : Nat × Nat} {M : xM} {a1 : Int32} {out : Int32 × xM} (hf : f_X7_ticket a1 M = some out) : xMet G l yX7_ticket wsX7_ticket (rm_X7_ticket 0 0) 0 0 ta M [.ref (xad G 9), .int a1] (some (.int out.1)) out.2 := by
  refine x_met (cc := cX7_ticket) (nL := 2) (ret := some .int) (by decide) rfl (Nat.le_of_ble_eq_true rfl) ?_
  intro p e s m args below meth c C hr hlk
  have C : xC G p s m args c cX7_ticket 2 wsX7_ticket RX7 := C
  unfold f_X7_ticket at hf
  show xW G p l e (rm_X7_ticket 0 0) s m args below meth c 2 (MQ below (xQr G (some (.int out.1)) out.2) args s 0 0 (xAs G)) 0 0 ta M 0 [(0, .ref (xad G 9)), (1, .int a1)] []
  refine x_aload_n C 0 dX7_ticket_0 rfl ?_
  refine x_iload_n C 1 dX7_ticket_1 rfl ?_
  refine x_iconst (v := 0) C dX7_ticket_2 (by decide) ?_
  obtain ⟨q1, hg, hf⟩ := x_bd hf
  refine x_callVr C (by rw [xkd_9]; decide) (by rw [xkd_9]; decide) (xc9 xkd_9) rfl (t_X7_of hg) (cwV 2 C.1.2.2.2.2 gX7_ticket_X7_of rfl rfl rfl (by decide +kernel) ⟨Nat.le_of_ble_eq_true rfl, Nat.le_of_ble_eq_true rfl⟩) rfl rfl (Nat.le_of_ble_eq_true rfl) dX7_ticket_3 ⟨Nat.zero_le _, Nat.zero_le _⟩ (fun ta2 => ?_)
  clear hg
  obtain rfl := Option.some.inj hf
  exact x_iret C hr hlk dX7_ticket_6
/-! WaitingRoomSimulationModel.patience(I)I -/
abbrev rm_X7_patience (c s : Nat) : Room := { frames := 3, cells := c, slots := s, locals := 68 }
def f_X7_patience (a1 : Int32) (M : xM) : Option (Int32 × xM) := (f_X7_of a1 (1 : Int32) M).bind fun q1 => some (q1.1, q1.2)
set_option maxHeartbeats 4000000 in
set_option maxRecDepth 100000 in
theorem t_X7_patience {l : Launch} {G : xG} {ta : Nat × Nat} {M : xM} {a1 : Int32} {out : Int32 × xM} (hf : f_X7_patience a1 M = some out) : xMet G l yX7_patience wsX7_patience (rm_X7_patience 0 0) 0 0 ta M [.ref (xad G 9), .int a1] (some (.int out.1)) out.2 := by
  refine x_met (cc := cX7_patience) (nL := 2) (ret := some .int) (by decide) rfl (Nat.le_of_ble_eq_true rfl) ?_
  intro p e s m args below meth c C hr hlk
  have C : xC G p s m args c cX7_patience 2 wsX7_patience RX7 := C
  unfold f_X7_patience at hf
  show xW G p l e (rm_X7_patience 0 0) s m args below meth c 2 (MQ below (xQr G (some (.int out.1)) out.2) args s 0 0 (xAs G)) 0 0 ta M 0 [(0, .ref (xad G 9)), (1, .int a1)] []
  refine x_aload_n C 0 dX7_patience_0 rfl ?_
  refine x_iload_n C 1 dX7_patience_1 rfl ?_
  refine x_iconst (v := 1) C dX7_patience_2 (by decide) ?_
  obtain ⟨q1, hg, hf⟩ := x_bd hf
  refine x_callVr C (by rw [xkd_9]; decide) (by rw [xkd_9]; decide) (xc9 xkd_9) rfl (t_X7_of hg) (cwV 2 C.1.2.2.2.2 gX7_patience_X7_of rfl rfl rfl (by decide +kernel) ⟨Nat.le_of_ble_eq_true rfl, Nat.le_of_ble_eq_true rfl⟩) rfl rfl (Nat.le_of_ble_eq_true rfl) dX7_patience_3 ⟨Nat.zero_le _, Nat.zero_le _⟩ (fun ta2 => ?_)
  clear hg
  obtain rfl := Option.some.inj hf
  exact x_iret C hr hlk dX7_patience_6
/-! WaitingRoomSimulationModel.sighs(I)I -/
abbrev rm_X7_sighs (c s : Nat) : Room := { frames := 3, cells := c, slots := s, locals := 68 }
def f_X7_sighs (a1 : Int32) (M : xM) : Option (Int32 × xM) := (f_X7_of a1 (2 : Int32) M).bind fun q1 => some (q1.1, q1.2)
set_option maxHeartbeats 4000000 in
set_option maxRecDepth 100000 in
theorem t_X7_sighs {l : Launch} {G : xG} {ta : Nat × Nat} {M : xM} {a1 : Int32} {out : Int32 × xM} (hf : f_X7_sighs a1 M = some out) : xMet G l yX7_sighs wsX7_sighs (rm_X7_sighs 0 0) 0 0 ta M [.ref (xad G 9), .int a1] (some (.int out.1)) out.2 := by
  refine x_met (cc := cX7_sighs) (nL := 2) (ret := some .int) (by decide) rfl (Nat.le_of_ble_eq_true rfl) ?_
  intro p e s m args below meth c C hr hlk
  have C : xC G p s m args c cX7_sighs 2 wsX7_sighs RX7 := C
  unfold f_X7_sighs at hf
  show xW G p l e (rm_X7_sighs 0 0) s m args below meth c 2 (MQ below (xQr G (some (.int out.1)) out.2) args s 0 0 (xAs G)) 0 0 ta M 0 [(0, .ref (xad G 9)), (1, .int a1)] []
  refine x_aload_n C 0 dX7_sighs_0 rfl ?_
  refine x_iload_n C 1 dX7_sighs_1 rfl ?_
  refine x_iconst (v := 2) C dX7_sighs_2 (by decide) ?_
  obtain ⟨q1, hg, hf⟩ := x_bd hf
  refine x_callVr C (by rw [xkd_9]; decide) (by rw [xkd_9]; decide) (xc9 xkd_9) rfl (t_X7_of hg) (cwV 2 C.1.2.2.2.2 gX7_sighs_X7_of rfl rfl rfl (by decide +kernel) ⟨Nat.le_of_ble_eq_true rfl, Nat.le_of_ble_eq_true rfl⟩) rfl rfl (Nat.le_of_ble_eq_true rfl) dX7_sighs_3 ⟨Nat.zero_le _, Nat.zero_le _⟩ (fun ta2 => ?_)
  clear hg
  obtain rfl := Option.some.inj hf
  exact x_iret C hr hlk dX7_sighs_6
/-! WaitingRoomSimulationModel.ache(I)I -/
abbrev rm_X7_ache (c s : Nat) : Room := { frames := 3, cells := c, slots := s, locals := 68 }
def f_X7_ache (a1 : Int32) (M : xM) : Option (Int32 × xM) := (f_X7_of a1 (3 : Int32) M).bind fun q1 => some (q1.1, q1.2)
set_option maxHeartbeats 4000000 in
set_option maxRecDepth 100000 in
theorem t_X7_ache {l : Launch} {G : xG} {ta : Nat × Nat} {M : xM} {a1 : Int32} {out : Int32 × xM} (hf : f_X7_ache a1 M = some out) : xMet G l yX7_ache wsX7_ache (rm_X7_ache 0 0) 0 0 ta M [.ref (xad G 9), .int a1] (some (.int out.1)) out.2 := by
  refine x_met (cc := cX7_ache) (nL := 2) (ret := some .int) (by decide) rfl (Nat.le_of_ble_eq_true rfl) ?_
  intro p e s m args below meth c C hr hlk
  have C : xC G p s m args c cX7_ache 2 wsX7_ache RX7 := C
  unfold f_X7_ache at hf
  show xW G p l e (rm_X7_ache 0 0) s m args below meth c 2 (MQ below (xQr G (some (.int out.1)) out.2) args s 0 0 (xAs G)) 0 0 ta M 0 [(0, .ref (xad G 9)), (1, .int a1)] []
  refine x_aload_n C 0 dX7_ache_0 rfl ?_
  refine x_iload_n C 1 dX7_ache_1 rfl ?_
  refine x_iconst (v := 3) C dX7_ache_2 (by decide) ?_
  obtain ⟨q1, hg, hf⟩ := x_bd hf
  refine x_callVr C (by rw [xkd_9]; decide) (by rw [xkd_9]; decide) (xc9 xkd_9) rfl (t_X7_of hg) (cwV 2 C.1.2.2.2.2 gX7_ache_X7_of rfl rfl rfl (by decide +kernel) ⟨Nat.le_of_ble_eq_true rfl, Nat.le_of_ble_eq_true rfl⟩) rfl rfl (Nat.le_of_ble_eq_true rfl) dX7_ache_3 ⟨Nat.zero_le _, Nat.zero_le _⟩ (fun ta2 => ?_)
  clear hg
  obtain rfl := Option.some.inj hf
  exact x_iret C hr hlk dX7_ache_6
/-! WaitingRoomSimulationModel.waitingTime(I)I -/
abbrev rm_X7_waitingTime (c s : Nat) : Room := { frames := 3, cells := c, slots := s, locals := 68 }
def f_X7_waitingTime (a1 : Int32) (M : xM) : Option (Int32 × xM) := (f_X7_of a1 (6 : Int32) M).bind fun q1 => some (q1.1, q1.2)
set_option maxHeartbeats 4000000 in
set_option maxRecDepth 100000 in
theorem t_X7_waitingTime {l : Launch} {G : xG} {ta : Nat × Nat} {M : xM} {a1 : Int32} {out : Int32 × xM} (hf : f_X7_waitingTime a1 M = some out) : xMet G l yX7_waitingTime wsX7_waitingTime (rm_X7_waitingTime 0 0) 0 0 ta M [.ref (xad G 9), .int a1] (some (.int out.1)) out.2 := by
  refine x_met (cc := cX7_waitingTime) (nL := 2) (ret := some .int) (by decide) rfl (Nat.le_of_ble_eq_true rfl) ?_
  intro p e s m args below meth c C hr hlk
  have C : xC G p s m args c cX7_waitingTime 2 wsX7_waitingTime RX7 := C
  unfold f_X7_waitingTime at hf
  show xW G p l e (rm_X7_waitingTime 0 0) s m args below meth c 2 (MQ below (xQr G (some (.int out.1)) out.2) args s 0 0 (xAs G)) 0 0 ta M 0 [(0, .ref (xad G 9)), (1, .int a1)] []
  refine x_aload_n C 0 dX7_waitingTime_0 rfl ?_
  refine x_iload_n C 1 dX7_waitingTime_1 rfl ?_
  refine x_bipush (v := 6) C dX7_waitingTime_2 (by decide) ?_
  obtain ⟨q1, hg, hf⟩ := x_bd hf
  refine x_callVr C (by rw [xkd_9]; decide) (by rw [xkd_9]; decide) (xc9 xkd_9) rfl (t_X7_of hg) (cwV 2 C.1.2.2.2.2 gX7_waitingTime_X7_of rfl rfl rfl (by decide +kernel) ⟨Nat.le_of_ble_eq_true rfl, Nat.le_of_ble_eq_true rfl⟩) rfl rfl (Nat.le_of_ble_eq_true rfl) dX7_waitingTime_4 ⟨Nat.zero_le _, Nat.zero_le _⟩ (fun ta2 => ?_)
  clear hg
  obtain rfl := Option.some.inj hf
  exact x_iret C hr hlk dX7_waitingTime_7
/-! WaitingRoomSimulationModel.isCalled(I)Z -/
abbrev rm_X7_isCalled (c s : Nat) : Room := { frames := 3, cells := c, slots := s, locals := 68 }
def f_X7_isCalled (a1 : Int32) (M : xM) : Option (Int32 × xM) := (f_X7_of a1 (5 : Int32) M).bind fun q1 => (if q1.1 = (1 : Int32) then some ((1 : Int32), q1.2) else some ((0 : Int32), q1.2))
set_option maxHeartbeats 4000000 in
set_option maxRecDepth 100000 in
theorem t_X7_isCalled {l : Launch} {G : xG} {ta : Nat × Nat} {M : xM} {a1 : Int32} {out : Int32 × xM} (hf : f_X7_isCalled a1 M = some out) : xMet G l yX7_isCalled wsX7_isCalled (rm_X7_isCalled 0 0) 0 0 ta M [.ref (xad G 9), .int a1] (some (.int out.1)) out.2 := by
  refine x_met (cc := cX7_isCalled) (nL := 2) (ret := some .boolean) (by decide) rfl (Nat.le_of_ble_eq_true rfl) ?_
  intro p e s m args below meth c C hr hlk
  have C : xC G p s m args c cX7_isCalled 2 wsX7_isCalled RX7 := C
  unfold f_X7_isCalled at hf
  show xW G p l e (rm_X7_isCalled 0 0) s m args below meth c 2 (MQ below (xQr G (some (.int out.1)) out.2) args s 0 0 (xAs G)) 0 0 ta M 0 [(0, .ref (xad G 9)), (1, .int a1)] []
  refine x_aload_n C 0 dX7_isCalled_0 rfl ?_
  refine x_iload_n C 1 dX7_isCalled_1 rfl ?_
  refine x_iconst (v := 5) C dX7_isCalled_2 (by decide) ?_
  obtain ⟨q1, hg, hf⟩ := x_bd hf
  refine x_callVr C (by rw [xkd_9]; decide) (by rw [xkd_9]; decide) (xc9 xkd_9) rfl (t_X7_of hg) (cwV 2 C.1.2.2.2.2 gX7_isCalled_X7_of rfl rfl rfl (by decide +kernel) ⟨Nat.le_of_ble_eq_true rfl, Nat.le_of_ble_eq_true rfl⟩) rfl rfl (Nat.le_of_ble_eq_true rfl) dX7_isCalled_3 ⟨Nat.zero_le _, Nat.zero_le _⟩ (fun ta2 => ?_)
  clear hg
  refine x_iconst (v := 1) C dX7_isCalled_6 (by decide) ?_
  refine x_icmp_ne C 14 dX7_isCalled_7 (by decide) (fun hc3 => ?_) (fun hc3 => ?_)
  · have hf := x_ine hc3 hf
    refine x_iconst (v := 0) C dX7_isCalled_14 (by decide) ?_
    obtain rfl := Option.some.inj hf
    exact x_zret C hr hlk (x_nb (Or.inl rfl)) dX7_isCalled_15
  · have hf := x_ip hc3 hf
    refine x_iconst (v := 1) C dX7_isCalled_10 (by decide) ?_
    refine x_goto C 15 dX7_isCalled_11 (by decide) ?_
    obtain rfl := Option.some.inj hf
    exact x_zret C hr hlk (x_nb (Or.inr rfl)) dX7_isCalled_15
/-! WaitingRoomSimulationModel.isSitting(I)Z -/
abbrev rm_X7_isSitting (c s : Nat) : Room := { frames := 3, cells := c, slots := s, locals := 68 }
def f_X7_isSitting (a1 : Int32) (M : xM) : Option (Int32 × xM) := (f_X7_of a1 (4 : Int32) M).bind fun q1 => (if q1.1 = (1 : Int32) then some ((1 : Int32), q1.2) else some ((0 : Int32), q1.2))
set_option maxHeartbeats 4000000 in
set_option maxRecDepth 100000 in
theorem t_X7_isSitting {l : Launch} {G : xG} {ta : Nat × Nat} {M : xM} {a1 : Int32} {out : Int32 × xM} (hf : f_X7_isSitting a1 M = some out) : xMet G l yX7_isSitting wsX7_isSitting (rm_X7_isSitting 0 0) 0 0 ta M [.ref (xad G 9), .int a1] (some (.int out.1)) out.2 := by
  refine x_met (cc := cX7_isSitting) (nL := 2) (ret := some .boolean) (by decide) rfl (Nat.le_of_ble_eq_true rfl) ?_
  intro p e s m args below meth c C hr hlk
  have C : xC G p s m args c cX7_isSitting 2 wsX7_isSitting RX7 := C
  unfold f_X7_isSitting at hf
  show xW G p l e (rm_X7_isSitting 0 0) s m args below meth c 2 (MQ below (xQr G (some (.int out.1)) out.2) args s 0 0 (xAs G)) 0 0 ta M 0 [(0, .ref (xad G 9)), (1, .int a1)] []
  refine x_aload_n C 0 dX7_isSitting_0 rfl ?_
  refine x_iload_n C 1 dX7_isSitting_1 rfl ?_
  refine x_iconst (v := 4) C dX7_isSitting_2 (by decide) ?_
  obtain ⟨q1, hg, hf⟩ := x_bd hf
  refine x_callVr C (by rw [xkd_9]; decide) (by rw [xkd_9]; decide) (xc9 xkd_9) rfl (t_X7_of hg) (cwV 2 C.1.2.2.2.2 gX7_isSitting_X7_of rfl rfl rfl (by decide +kernel) ⟨Nat.le_of_ble_eq_true rfl, Nat.le_of_ble_eq_true rfl⟩) rfl rfl (Nat.le_of_ble_eq_true rfl) dX7_isSitting_3 ⟨Nat.zero_le _, Nat.zero_le _⟩ (fun ta2 => ?_)
  clear hg
  refine x_iconst (v := 1) C dX7_isSitting_6 (by decide) ?_
  refine x_icmp_ne C 14 dX7_isSitting_7 (by decide) (fun hc3 => ?_) (fun hc3 => ?_)
  · have hf := x_ine hc3 hf
    refine x_iconst (v := 0) C dX7_isSitting_14 (by decide) ?_
    obtain rfl := Option.some.inj hf
    exact x_zret C hr hlk (x_nb (Or.inl rfl)) dX7_isSitting_15
  · have hf := x_ip hc3 hf
    refine x_iconst (v := 1) C dX7_isSitting_10 (by decide) ?_
    refine x_goto C 15 dX7_isSitting_11 (by decide) ?_
    obtain rfl := Option.some.inj hf
    exact x_zret C hr hlk (x_nb (Or.inr rfl)) dX7_isSitting_15
/-! WaitingRoomSimulationModel.position(I)I -/
abbrev rm_X7_position (c s : Nat) : Room := { frames := 2, cells := c, slots := s, locals := 46 }
def f_X7_position (a1 : Int32) (M : xM) : Option (Int32 × xM) := x_let (sI M 9 9 (0 : Int32)) fun M1 => (f_X7_isHere a1 M1).bind fun q3 => (if q3 = 0 then (f_X7_throwing (1 : Int32) M1).bind fun q13 => some (q13.1, q13.2) else (f_X7_isAtWindow a1 M1).bind fun q6 => (if q6 = 0 then (f_X7_placeOf a1 M1).bind fun q9 => some (q9, M1) else (f_X7_throwing (2 : Int32) M1).bind fun q11 => some (q11.1, q11.2)))
set_option maxHeartbeats 4000000 in
set_option maxRecDepth 100000 in
theorem t_X7_position {l : Launch} {G : xG} {ta : Nat × Nat} {M : xM} {a1 : Int32} {out : Int32 × xM} (hf : f_X7_position a1 M = some out) : xMet G l yX7_position wsX7_position (rm_X7_position 0 0) 0 0 ta M [.ref (xad G 9), .int a1] (some (.int out.1)) out.2 := by
  refine x_met (cc := cX7_position) (nL := 2) (ret := some .int) (by decide) rfl (Nat.le_of_ble_eq_true rfl) ?_
  intro p e s m args below meth c C hr hlk
  have C : xC G p s m args c cX7_position 2 wsX7_position RX7 := C
  have i9 : ∀ w ∈ wsX70, w ∈ wsX7_position := by decide +kernel
  unfold f_X7_position at hf
  show xW G p l e (rm_X7_position 0 0) s m args below meth c 2 (MQ below (xQr G (some (.int out.1)) out.2) args s 0 0 (xAs G)) 0 0 ta M 0 [(0, .ref (xad G 9)), (1, .int a1)] []
  refine x_aload_n C 0 dX7_position_0 rfl ?_
  refine x_iconst (v := 0) C dX7_position_1 (by decide) ?_
  refine x_put9 C xkd_9 i9 9 (by decide) (by decide +kernel) dX7_position_2 ?_
  obtain ⟨M1, e2, hf⟩ := x_lt hf
  rw [← e2]
  clear e2
  refine x_aload_n C 0 dX7_position_5 rfl ?_
  refine x_iload_n C 1 dX7_position_6 rfl ?_
  obtain ⟨q3, hg, hf⟩ := x_bd hf
  refine x_callVr C (by rw [xkd_9]; decide) (by rw [xkd_9]; decide) (xc9 xkd_9) rfl (t_X7_isHere hg) (cwV 1 C.1.2.2.2.2 gX7_position_X7_isHere rfl rfl rfl (by decide +kernel) ⟨Nat.le_of_ble_eq_true rfl, Nat.le_of_ble_eq_true rfl⟩) rfl rfl (Nat.le_of_ble_eq_true rfl) dX7_position_7 ⟨Nat.zero_le _, Nat.zero_le _⟩ (fun ta4 => ?_)
  clear hg
  refine x_if_ne C 19 dX7_position_10 (by decide) (fun hc5 => ?_) (fun hc5 => ?_)
  · have hf := x_ine hc5 hf
    refine x_aload_n C 0 dX7_position_19 rfl ?_
    refine x_iload_n C 1 dX7_position_20 rfl ?_
    obtain ⟨q6, hg, hf⟩ := x_bd hf
    refine x_callVr C (by rw [xkd_9]; decide) (by rw [xkd_9]; decide) (xc9 xkd_9) rfl (t_X7_isAtWindow hg) (cwV 1 C.1.2.2.2.2 gX7_position_X7_isAtWindow rfl rfl rfl (by decide +kernel) ⟨Nat.le_of_ble_eq_true rfl, Nat.le_of_ble_eq_true rfl⟩) rfl rfl (Nat.le_of_ble_eq_true rfl) dX7_position_21 ⟨Nat.zero_le _, Nat.zero_le _⟩ (fun ta7 => ?_)
    clear hg
    refine x_if_eq C 35 dX7_position_24 (by decide) (fun hc8 => ?_) (fun hc8 => ?_)
    · have hf := x_ip hc8 hf
      refine x_aload_n C 0 dX7_position_35 rfl ?_
      refine x_iload_n C 1 dX7_position_36 rfl ?_
      obtain ⟨q9, hg, hf⟩ := x_bd hf
      refine x_callVr C (by rw [xkd_9]; decide) (by rw [xkd_9]; decide) (xc9 xkd_9) rfl (t_X7_placeOf hg) (cwV 1 C.1.2.2.2.2 gX7_position_X7_placeOf rfl rfl rfl (by decide +kernel) ⟨Nat.le_of_ble_eq_true rfl, Nat.le_of_ble_eq_true rfl⟩) rfl rfl (Nat.le_of_ble_eq_true rfl) dX7_position_37 ⟨Nat.zero_le _, Nat.zero_le _⟩ (fun ta10 => ?_)
      clear hg
      obtain rfl := Option.some.inj hf
      exact x_iret C hr hlk dX7_position_40
    · have hf := x_ine hc8 hf
      refine x_aload_n C 0 dX7_position_27 rfl ?_
      refine x_iconst (v := 2) C dX7_position_28 (by decide) ?_
      obtain ⟨q11, hg, hf⟩ := x_bd hf
      refine x_callVr C (by rw [xkd_9]; decide) (by rw [xkd_9]; decide) (xc9 xkd_9) rfl (t_X7_throwing hg) (cwV 1 C.1.2.2.2.2 gX7_position_X7_throwing rfl rfl rfl (by decide +kernel) ⟨Nat.le_of_ble_eq_true rfl, Nat.le_of_ble_eq_true rfl⟩) rfl rfl (Nat.le_of_ble_eq_true rfl) dX7_position_29 ⟨Nat.zero_le _, Nat.zero_le _⟩ (fun ta12 => ?_)
      clear hg
      refine x_goto C 40 dX7_position_32 (by decide) ?_
      obtain rfl := Option.some.inj hf
      exact x_iret C hr hlk dX7_position_40
  · have hf := x_ip hc5 hf
    refine x_aload_n C 0 dX7_position_13 rfl ?_
    refine x_iconst (v := 1) C dX7_position_14 (by decide) ?_
    obtain ⟨q13, hg, hf⟩ := x_bd hf
    refine x_callVr C (by rw [xkd_9]; decide) (by rw [xkd_9]; decide) (xc9 xkd_9) rfl (t_X7_throwing hg) (cwV 1 C.1.2.2.2.2 gX7_position_X7_throwing rfl rfl rfl (by decide +kernel) ⟨Nat.le_of_ble_eq_true rfl, Nat.le_of_ble_eq_true rfl⟩) rfl rfl (Nat.le_of_ble_eq_true rfl) dX7_position_15 ⟨Nat.zero_le _, Nat.zero_le _⟩ (fun ta14 => ?_)
    clear hg
    obtain rfl := Option.some.inj hf
    exact x_iret C hr hlk dX7_position_18
/-! WaitingRoomSimulationModel.windowOfCustomer(I)I -/
abbrev rm_X7_windowOfCustomer (c s : Nat) : Room := { frames := 2, cells := c, slots := s, locals := 46 }
def f_X7_windowOfCustomer (a1 : Int32) (M : xM) : Option (Int32 × xM) := x_let (sI M 9 9 (0 : Int32)) fun M1 => (f_X7_isHere a1 M1).bind fun q3 => (if q3 = 0 then (f_X7_throwing (1 : Int32) M1).bind fun q14 => some (q14.1, q14.2) else (f_X7_isAtWindow a1 M1).bind fun q6 => (if q6 = 0 then (f_X7_throwing (2 : Int32) M1).bind fun q9 => some (q9.1, q9.2) else (f_X7_personAt a1 M1).bind fun q11 => if x_in (q11 + (7 : Int32)) 159 = true then some (M1.1 10 (q11 + (7 : Int32)).toNatClampNeg, M1) else none))
set_option maxHeartbeats 4000000 in
set_option maxRecDepth 100000 in
theorem t_X7_windowOfCustomer {l : Launch} {G : xG} {ta : Nat × Nat} {M : xM} {a1 : Int32} {out : Int32 × xM} (hf : f_X7_windowOfCustomer a1 M = some out) : xMet G l yX7_windowOfCustomer wsX7_windowOfCustomer (rm_X7_windowOfCustomer 0 0) 0 0 ta M [.ref (xad G 9), .int a1] (some (.int out.1)) out.2 := by
  refine x_met (cc := cX7_windowOfCustomer) (nL := 2) (ret := some .int) (by decide) rfl (Nat.le_of_ble_eq_true rfl) ?_
  intro p e s m args below meth c C hr hlk
  have C : xC G p s m args c cX7_windowOfCustomer 2 wsX7_windowOfCustomer RX7 := C
  have i9 : ∀ w ∈ wsX70, w ∈ wsX7_windowOfCustomer := by decide +kernel
  unfold f_X7_windowOfCustomer at hf
  show xW G p l e (rm_X7_windowOfCustomer 0 0) s m args below meth c 2 (MQ below (xQr G (some (.int out.1)) out.2) args s 0 0 (xAs G)) 0 0 ta M 0 [(0, .ref (xad G 9)), (1, .int a1)] []
  refine x_aload_n C 0 dX7_windowOfCustomer_0 rfl ?_
  refine x_iconst (v := 0) C dX7_windowOfCustomer_1 (by decide) ?_
  refine x_put9 C xkd_9 i9 9 (by decide) (by decide +kernel) dX7_windowOfCustomer_2 ?_
  obtain ⟨M1, e2, hf⟩ := x_lt hf
  rw [← e2]
  clear e2
  refine x_aload_n C 0 dX7_windowOfCustomer_5 rfl ?_
  refine x_iload_n C 1 dX7_windowOfCustomer_6 rfl ?_
  obtain ⟨q3, hg, hf⟩ := x_bd hf
  refine x_callVr C (by rw [xkd_9]; decide) (by rw [xkd_9]; decide) (xc9 xkd_9) rfl (t_X7_isHere hg) (cwV 1 C.1.2.2.2.2 gX7_windowOfCustomer_X7_isHere rfl rfl rfl (by decide +kernel) ⟨Nat.le_of_ble_eq_true rfl, Nat.le_of_ble_eq_true rfl⟩) rfl rfl (Nat.le_of_ble_eq_true rfl) dX7_windowOfCustomer_7 ⟨Nat.zero_le _, Nat.zero_le _⟩ (fun ta4 => ?_)
  clear hg
  refine x_if_ne C 19 dX7_windowOfCustomer_10 (by decide) (fun hc5 => ?_) (fun hc5 => ?_)
  · have hf := x_ine hc5 hf
    refine x_aload_n C 0 dX7_windowOfCustomer_19 rfl ?_
    refine x_iload_n C 1 dX7_windowOfCustomer_20 rfl ?_
    obtain ⟨q6, hg, hf⟩ := x_bd hf
    refine x_callVr C (by rw [xkd_9]; decide) (by rw [xkd_9]; decide) (xc9 xkd_9) rfl (t_X7_isAtWindow hg) (cwV 1 C.1.2.2.2.2 gX7_windowOfCustomer_X7_isAtWindow rfl rfl rfl (by decide +kernel) ⟨Nat.le_of_ble_eq_true rfl, Nat.le_of_ble_eq_true rfl⟩) rfl rfl (Nat.le_of_ble_eq_true rfl) dX7_windowOfCustomer_21 ⟨Nat.zero_le _, Nat.zero_le _⟩ (fun ta7 => ?_)
    clear hg
    refine x_if_eq C 42 dX7_windowOfCustomer_24 (by decide) (fun hc8 => ?_) (fun hc8 => ?_)
    · have hf := x_ip hc8 hf
      refine x_aload_n C 0 dX7_windowOfCustomer_42 rfl ?_
      refine x_iconst (v := 2) C dX7_windowOfCustomer_43 (by decide) ?_
      obtain ⟨q9, hg, hf⟩ := x_bd hf
      refine x_callVr C (by rw [xkd_9]; decide) (by rw [xkd_9]; decide) (xc9 xkd_9) rfl (t_X7_throwing hg) (cwV 1 C.1.2.2.2.2 gX7_windowOfCustomer_X7_throwing rfl rfl rfl (by decide +kernel) ⟨Nat.le_of_ble_eq_true rfl, Nat.le_of_ble_eq_true rfl⟩) rfl rfl (Nat.le_of_ble_eq_true rfl) dX7_windowOfCustomer_44 ⟨Nat.zero_le _, Nat.zero_le _⟩ (fun ta10 => ?_)
      clear hg
      obtain rfl := Option.some.inj hf
      exact x_iret C hr hlk dX7_windowOfCustomer_47
    · have hf := x_ine hc8 hf
      refine x_aload_n C 0 dX7_windowOfCustomer_27 rfl ?_
      refine x_get9 C xkd_9 i9 0 (by decide) (by decide +kernel) rfl rfl dX7_windowOfCustomer_28 ?_
      refine x_iload_n C 1 dX7_windowOfCustomer_31 rfl ?_
      obtain ⟨q11, hg, hf⟩ := x_bd hf
      refine x_callSr C (t_X7_personAt hg) (va_cwS 1 C.1.2.2.2.2 gX7_windowOfCustomer_X7_personAt rfl rfl rfl (by decide +kernel) ⟨Nat.le_of_ble_eq_true rfl, Nat.le_of_ble_eq_true rfl⟩) rfl rfl (Nat.le_of_ble_eq_true rfl) dX7_windowOfCustomer_32 ⟨Nat.zero_le _, Nat.zero_le _⟩ (fun ta12 => ?_)
      clear hg
      refine x_bipush (v := 7) C dX7_windowOfCustomer_35 (by decide) ?_
      refine x_iadd C dX7_windowOfCustomer_37 ?_
      obtain ⟨g13, hf⟩ := x_gd hf
      refine x_iald C xkd_10 xl_10 g13 dX7_windowOfCustomer_38 ?_
      refine x_goto C 47 dX7_windowOfCustomer_39 (by decide) ?_
      obtain rfl := Option.some.inj hf
      exact x_iret C hr hlk dX7_windowOfCustomer_47
  · have hf := x_ip hc5 hf
    refine x_aload_n C 0 dX7_windowOfCustomer_13 rfl ?_
    refine x_iconst (v := 1) C dX7_windowOfCustomer_14 (by decide) ?_
    obtain ⟨q14, hg, hf⟩ := x_bd hf
    refine x_callVr C (by rw [xkd_9]; decide) (by rw [xkd_9]; decide) (xc9 xkd_9) rfl (t_X7_throwing hg) (cwV 1 C.1.2.2.2.2 gX7_windowOfCustomer_X7_throwing rfl rfl rfl (by decide +kernel) ⟨Nat.le_of_ble_eq_true rfl, Nat.le_of_ble_eq_true rfl⟩) rfl rfl (Nat.le_of_ble_eq_true rfl) dX7_windowOfCustomer_15 ⟨Nat.zero_le _, Nat.zero_le _⟩ (fun ta15 => ?_)
    clear hg
    obtain rfl := Option.some.inj hf
    exact x_iret C hr hlk dX7_windowOfCustomer_18
/-! WaitingRoomSimulationModel.customerAtPosition(I)I -/
abbrev rm_X7_customerAtPosition (c s : Nat) : Room := { frames := 1, cells := c, slots := s, locals := 25 }
def f_X7_customerAtPosition (a1 : Int32) (M : xM) : Option (Int32 × xM) := x_let (sI M 9 9 (0 : Int32)) fun M1 => if x_in (9 : Int32) 159 = true then (f_X7_in a1.toInt64 (0 : Int64) (((M1.1 10 (9 : Int32).toNatClampNeg) - (1 : Int32)).toInt64) M1).bind fun q4 => (if q4 = 0 then (f_X7_throwing (1 : Int32) M1).bind fun q7 => some (q7.1, q7.2) else if x_in ((123 : Int32) + a1) 159 = true then some (M1.1 10 ((123 : Int32) + a1).toNatClampNeg, M1) else none) else none
set_option maxHeartbeats 4000000 in
set_option maxRecDepth 100000 in
theorem t_X7_customerAtPosition {l : Launch} {G : xG} {ta : Nat × Nat} {M : xM} {a1 : Int32} {out : Int32 × xM} (hf : f_X7_customerAtPosition a1 M = some out) : xMet G l yX7_customerAtPosition wsX7_customerAtPosition (rm_X7_customerAtPosition 0 0) 0 0 ta M [.ref (xad G 9), .int a1] (some (.int out.1)) out.2 := by
  refine x_met (cc := cX7_customerAtPosition) (nL := 2) (ret := some .int) (by decide) rfl (Nat.le_of_ble_eq_true rfl) ?_
  intro p e s m args below meth c C hr hlk
  have C : xC G p s m args c cX7_customerAtPosition 2 wsX7_customerAtPosition RX7 := C
  have i9 : ∀ w ∈ wsX70, w ∈ wsX7_customerAtPosition := by decide +kernel
  unfold f_X7_customerAtPosition at hf
  show xW G p l e (rm_X7_customerAtPosition 0 0) s m args below meth c 2 (MQ below (xQr G (some (.int out.1)) out.2) args s 0 0 (xAs G)) 0 0 ta M 0 [(0, .ref (xad G 9)), (1, .int a1)] []
  refine x_aload_n C 0 dX7_customerAtPosition_0 rfl ?_
  refine x_iconst (v := 0) C dX7_customerAtPosition_1 (by decide) ?_
  refine x_put9 C xkd_9 i9 9 (by decide) (by decide +kernel) dX7_customerAtPosition_2 ?_
  obtain ⟨M1, e2, hf⟩ := x_lt hf
  rw [← e2]
  clear e2
  refine x_iload_n C 1 dX7_customerAtPosition_5 rfl ?_
  refine x_i2l (v := a1.toInt64) C dX7_customerAtPosition_6 rfl ?_
  refine x_lconst (v := 0) C dX7_customerAtPosition_7 (by decide) ?_
  refine x_aload_n C 0 dX7_customerAtPosition_8 rfl ?_
  refine x_get9 C xkd_9 i9 0 (by decide) (by decide +kernel) rfl rfl dX7_customerAtPosition_9 ?_
  refine x_bipush (v := 9) C dX7_customerAtPosition_12 (by decide) ?_
  obtain ⟨g3, hf⟩ := x_gd hf
  refine x_iald C xkd_10 xl_10 g3 dX7_customerAtPosition_14 ?_
  refine x_iconst (v := 1) C dX7_customerAtPosition_15 (by decide) ?_
  refine x_isub C dX7_customerAtPosition_16 ?_
  refine x_i2l (v := ((M1.1 10 (9 : Int32).toNatClampNeg) - (1 : Int32)).toInt64) C dX7_customerAtPosition_17 rfl ?_
  obtain ⟨q4, hg, hf⟩ := x_bd hf
  refine x_callSr C (t_X7_in hg) (va_cwS 3 C.1.2.2.2.2 gX7_customerAtPosition_X7_in rfl rfl rfl (by decide +kernel) ⟨Nat.le_of_ble_eq_true rfl, Nat.le_of_ble_eq_true rfl⟩) rfl rfl (Nat.le_of_ble_eq_true rfl) dX7_customerAtPosition_18 ⟨Nat.zero_le _, Nat.zero_le _⟩ (fun ta5 => ?_)
  clear hg
  refine x_if_eq C 36 dX7_customerAtPosition_21 (by decide) (fun hc6 => ?_) (fun hc6 => ?_)
  · have hf := x_ip hc6 hf
    refine x_aload_n C 0 dX7_customerAtPosition_36 rfl ?_
    refine x_iconst (v := 1) C dX7_customerAtPosition_37 (by decide) ?_
    obtain ⟨q7, hg, hf⟩ := x_bd hf
    refine x_callVr C (by rw [xkd_9]; decide) (by rw [xkd_9]; decide) (xc9 xkd_9) rfl (t_X7_throwing hg) (cwV 1 C.1.2.2.2.2 gX7_customerAtPosition_X7_throwing rfl rfl rfl (by decide +kernel) ⟨Nat.le_of_ble_eq_true rfl, Nat.le_of_ble_eq_true rfl⟩) rfl rfl (Nat.le_of_ble_eq_true rfl) dX7_customerAtPosition_38 ⟨Nat.zero_le _, Nat.zero_le _⟩ (fun ta8 => ?_)
    clear hg
    obtain rfl := Option.some.inj hf
    exact x_iret C hr hlk dX7_customerAtPosition_41
  · have hf := x_ine hc6 hf
    refine x_aload_n C 0 dX7_customerAtPosition_24 rfl ?_
    refine x_get9 C xkd_9 i9 0 (by decide) (by decide +kernel) rfl rfl dX7_customerAtPosition_25 ?_
    refine x_bipush (v := 123) C dX7_customerAtPosition_28 (by decide) ?_
    refine x_iload_n C 1 dX7_customerAtPosition_30 rfl ?_
    refine x_iadd C dX7_customerAtPosition_31 ?_
    obtain ⟨g9, hf⟩ := x_gd hf
    refine x_iald C xkd_10 xl_10 g9 dX7_customerAtPosition_32 ?_
    refine x_goto C 41 dX7_customerAtPosition_33 (by decide) ?_
    obtain rfl := Option.some.inj hf
    exact x_iret C hr hlk dX7_customerAtPosition_41
/-! WaitingRoomSimulationModel.queueLength()I -/
abbrev rm_X7_queueLength (c s : Nat) : Room := { frames := 0, cells := c, slots := s, locals := 0 }
def f_X7_queueLength (M : xM) : Option (Int32 × xM) := x_let (sI M 9 9 (0 : Int32)) fun M1 => if x_in (9 : Int32) 159 = true then some (M1.1 10 (9 : Int32).toNatClampNeg, M1) else none
set_option maxHeartbeats 4000000 in
set_option maxRecDepth 100000 in
theorem t_X7_queueLength {l : Launch} {G : xG} {ta : Nat × Nat} {M : xM} {out : Int32 × xM} (hf : f_X7_queueLength M = some out) : xMet G l yX7_queueLength wsX7_queueLength (rm_X7_queueLength 0 0) 0 0 ta M [.ref (xad G 9)] (some (.int out.1)) out.2 := by
  refine x_met (cc := cX7_queueLength) (nL := 1) (ret := some .int) (by decide) rfl (Nat.le_of_ble_eq_true rfl) ?_
  intro p e s m args below meth c C hr hlk
  have C : xC G p s m args c cX7_queueLength 1 wsX7_queueLength RX7 := C
  have i9 : ∀ w ∈ wsX70, w ∈ wsX7_queueLength := by decide +kernel
  unfold f_X7_queueLength at hf
  show xW G p l e (rm_X7_queueLength 0 0) s m args below meth c 1 (MQ below (xQr G (some (.int out.1)) out.2) args s 0 0 (xAs G)) 0 0 ta M 0 [(0, .ref (xad G 9))] []
  refine x_aload_n C 0 dX7_queueLength_0 rfl ?_
  refine x_iconst (v := 0) C dX7_queueLength_1 (by decide) ?_
  refine x_put9 C xkd_9 i9 9 (by decide) (by decide +kernel) dX7_queueLength_2 ?_
  obtain ⟨M1, e2, hf⟩ := x_lt hf
  rw [← e2]
  clear e2
  refine x_aload_n C 0 dX7_queueLength_5 rfl ?_
  refine x_get9 C xkd_9 i9 0 (by decide) (by decide +kernel) rfl rfl dX7_queueLength_6 ?_
  refine x_bipush (v := 9) C dX7_queueLength_9 (by decide) ?_
  obtain ⟨g3, hf⟩ := x_gd hf
  refine x_iald C xkd_10 xl_10 g3 dX7_queueLength_11 ?_
  obtain rfl := Option.some.inj hf
  exact x_iret C hr hlk dX7_queueLength_12
/-! WaitingRoomSimulationModel.openingTimeLeft(I)I -/
abbrev rm_X7_openingTimeLeft (c s : Nat) : Room := { frames := 2, cells := c, slots := s, locals := 45 }
def f_X7_openingTimeLeft (a1 : Int32) (M : xM) : Option (Int32 × xM) := x_let (sI M 9 9 (0 : Int32)) fun M1 => (f_X7_isWindow a1 M1).bind fun q3 => (if q3 = 0 then (f_X7_throwing (1 : Int32) M1).bind fun q6 => some (q6.1, q6.2) else (f_X7_windowAt a1 M1).bind fun q8 => if x_in q8 159 = true then some (M1.1 10 q8.toNatClampNeg, M1) else none)
set_option maxHeartbeats 4000000 in
set_option maxRecDepth 100000 in
theorem t_X7_openingTimeLeft {l : Launch} {G : xG} {ta : Nat × Nat} {M : xM} {a1 : Int32} {out : Int32 × xM} (hf : f_X7_openingTimeLeft a1 M = some out) : xMet G l yX7_openingTimeLeft wsX7_openingTimeLeft (rm_X7_openingTimeLeft 0 0) 0 0 ta M [.ref (xad G 9), .int a1] (some (.int out.1)) out.2 := by
  refine x_met (cc := cX7_openingTimeLeft) (nL := 2) (ret := some .int) (by decide) rfl (Nat.le_of_ble_eq_true rfl) ?_
  intro p e s m args below meth c C hr hlk
  have C : xC G p s m args c cX7_openingTimeLeft 2 wsX7_openingTimeLeft RX7 := C
  have i9 : ∀ w ∈ wsX70, w ∈ wsX7_openingTimeLeft := by decide +kernel
  unfold f_X7_openingTimeLeft at hf
  show xW G p l e (rm_X7_openingTimeLeft 0 0) s m args below meth c 2 (MQ below (xQr G (some (.int out.1)) out.2) args s 0 0 (xAs G)) 0 0 ta M 0 [(0, .ref (xad G 9)), (1, .int a1)] []
  refine x_aload_n C 0 dX7_openingTimeLeft_0 rfl ?_
  refine x_iconst (v := 0) C dX7_openingTimeLeft_1 (by decide) ?_
  refine x_put9 C xkd_9 i9 9 (by decide) (by decide +kernel) dX7_openingTimeLeft_2 ?_
  obtain ⟨M1, e2, hf⟩ := x_lt hf
  rw [← e2]
  clear e2
  refine x_iload_n C 1 dX7_openingTimeLeft_5 rfl ?_
  obtain ⟨q3, hg, hf⟩ := x_bd hf
  refine x_callSr C (t_X7_isWindow hg) (va_cwS 1 C.1.2.2.2.2 gX7_openingTimeLeft_X7_isWindow rfl rfl rfl (by decide +kernel) ⟨Nat.le_of_ble_eq_true rfl, Nat.le_of_ble_eq_true rfl⟩) rfl rfl (Nat.le_of_ble_eq_true rfl) dX7_openingTimeLeft_6 ⟨Nat.zero_le _, Nat.zero_le _⟩ (fun ta4 => ?_)
  clear hg
  refine x_if_eq C 24 dX7_openingTimeLeft_9 (by decide) (fun hc5 => ?_) (fun hc5 => ?_)
  · have hf := x_ip hc5 hf
    refine x_aload_n C 0 dX7_openingTimeLeft_24 rfl ?_
    refine x_iconst (v := 1) C dX7_openingTimeLeft_25 (by decide) ?_
    obtain ⟨q6, hg, hf⟩ := x_bd hf
    refine x_callVr C (by rw [xkd_9]; decide) (by rw [xkd_9]; decide) (xc9 xkd_9) rfl (t_X7_throwing hg) (cwV 1 C.1.2.2.2.2 gX7_openingTimeLeft_X7_throwing rfl rfl rfl (by decide +kernel) ⟨Nat.le_of_ble_eq_true rfl, Nat.le_of_ble_eq_true rfl⟩) rfl rfl (Nat.le_of_ble_eq_true rfl) dX7_openingTimeLeft_26 ⟨Nat.zero_le _, Nat.zero_le _⟩ (fun ta7 => ?_)
    clear hg
    obtain rfl := Option.some.inj hf
    exact x_iret C hr hlk dX7_openingTimeLeft_29
  · have hf := x_ine hc5 hf
    refine x_aload_n C 0 dX7_openingTimeLeft_12 rfl ?_
    refine x_get9 C xkd_9 i9 0 (by decide) (by decide +kernel) rfl rfl dX7_openingTimeLeft_13 ?_
    refine x_iload_n C 1 dX7_openingTimeLeft_16 rfl ?_
    obtain ⟨q8, hg, hf⟩ := x_bd hf
    refine x_callSr C (t_X7_windowAt hg) (va_cwS 1 C.1.2.2.2.2 gX7_openingTimeLeft_X7_windowAt rfl rfl rfl (by decide +kernel) ⟨Nat.le_of_ble_eq_true rfl, Nat.le_of_ble_eq_true rfl⟩) rfl rfl (Nat.le_of_ble_eq_true rfl) dX7_openingTimeLeft_17 ⟨Nat.zero_le _, Nat.zero_le _⟩ (fun ta9 => ?_)
    clear hg
    obtain ⟨g10, hf⟩ := x_gd hf
    refine x_iald C xkd_10 xl_10 g10 dX7_openingTimeLeft_20 ?_
    refine x_goto C 29 dX7_openingTimeLeft_21 (by decide) ?_
    obtain rfl := Option.some.inj hf
    exact x_iret C hr hlk dX7_openingTimeLeft_29
/-! WaitingRoomSimulationModel.pace(I)I -/
abbrev rm_X7_pace (c s : Nat) : Room := { frames := 2, cells := c, slots := s, locals := 45 }
def f_X7_pace (a1 : Int32) (M : xM) : Option (Int32 × xM) := x_let (sI M 9 9 (0 : Int32)) fun M1 => (f_X7_isWindow a1 M1).bind fun q3 => (if q3 = 0 then (f_X7_throwing (1 : Int32) M1).bind fun q14 => some (q14.1, q14.2) else (f_X7_isOpen a1 M1).bind fun q6 => (if q6 = 0 then (f_X7_throwing (2 : Int32) M1).bind fun q9 => some (q9.1, q9.2) else (f_X7_windowAt a1 M1).bind fun q11 => if x_in (q11 + (1 : Int32)) 159 = true then some (M1.1 10 (q11 + (1 : Int32)).toNatClampNeg, M1) else none))
set_option maxHeartbeats 4000000 in
set_option maxRecDepth 100000 in
theorem t_X7_pace {l : Launch} {G : xG} {ta : Nat × Nat} {M : xM} {a1 : Int32} {out : Int32 × xM} (hf : f_X7_pace a1 M = some out) : xMet G l yX7_pace wsX7_pace (rm_X7_pace 0 0) 0 0 ta M [.ref (xad G 9), .int a1] (some (.int out.1)) out.2 := by
  refine x_met (cc := cX7_pace) (nL := 2) (ret := some .int) (by decide) rfl (Nat.le_of_ble_eq_true rfl) ?_
  intro p e s m args below meth c C hr hlk
  have C : xC G p s m args c cX7_pace 2 wsX7_pace RX7 := C
  have i9 : ∀ w ∈ wsX70, w ∈ wsX7_pace := by decide +kernel
  unfold f_X7_pace at hf
  show xW G p l e (rm_X7_pace 0 0) s m args below meth c 2 (MQ below (xQr G (some (.int out.1)) out.2) args s 0 0 (xAs G)) 0 0 ta M 0 [(0, .ref (xad G 9)), (1, .int a1)] []
  refine x_aload_n C 0 dX7_pace_0 rfl ?_
  refine x_iconst (v := 0) C dX7_pace_1 (by decide) ?_
  refine x_put9 C xkd_9 i9 9 (by decide) (by decide +kernel) dX7_pace_2 ?_
  obtain ⟨M1, e2, hf⟩ := x_lt hf
  rw [← e2]
  clear e2
  refine x_iload_n C 1 dX7_pace_5 rfl ?_
  obtain ⟨q3, hg, hf⟩ := x_bd hf
  refine x_callSr C (t_X7_isWindow hg) (va_cwS 1 C.1.2.2.2.2 gX7_pace_X7_isWindow rfl rfl rfl (by decide +kernel) ⟨Nat.le_of_ble_eq_true rfl, Nat.le_of_ble_eq_true rfl⟩) rfl rfl (Nat.le_of_ble_eq_true rfl) dX7_pace_6 ⟨Nat.zero_le _, Nat.zero_le _⟩ (fun ta4 => ?_)
  clear hg
  refine x_if_ne C 18 dX7_pace_9 (by decide) (fun hc5 => ?_) (fun hc5 => ?_)
  · have hf := x_ine hc5 hf
    refine x_aload_n C 0 dX7_pace_18 rfl ?_
    refine x_iload_n C 1 dX7_pace_19 rfl ?_
    obtain ⟨q6, hg, hf⟩ := x_bd hf
    refine x_callVr C (by rw [xkd_9]; decide) (by rw [xkd_9]; decide) (xc9 xkd_9) rfl (t_X7_isOpen hg) (cwV 1 C.1.2.2.2.2 gX7_pace_X7_isOpen rfl rfl rfl (by decide +kernel) ⟨Nat.le_of_ble_eq_true rfl, Nat.le_of_ble_eq_true rfl⟩) rfl rfl (Nat.le_of_ble_eq_true rfl) dX7_pace_20 ⟨Nat.zero_le _, Nat.zero_le _⟩ (fun ta7 => ?_)
    clear hg
    refine x_if_eq C 40 dX7_pace_23 (by decide) (fun hc8 => ?_) (fun hc8 => ?_)
    · have hf := x_ip hc8 hf
      refine x_aload_n C 0 dX7_pace_40 rfl ?_
      refine x_iconst (v := 2) C dX7_pace_41 (by decide) ?_
      obtain ⟨q9, hg, hf⟩ := x_bd hf
      refine x_callVr C (by rw [xkd_9]; decide) (by rw [xkd_9]; decide) (xc9 xkd_9) rfl (t_X7_throwing hg) (cwV 1 C.1.2.2.2.2 gX7_pace_X7_throwing rfl rfl rfl (by decide +kernel) ⟨Nat.le_of_ble_eq_true rfl, Nat.le_of_ble_eq_true rfl⟩) rfl rfl (Nat.le_of_ble_eq_true rfl) dX7_pace_42 ⟨Nat.zero_le _, Nat.zero_le _⟩ (fun ta10 => ?_)
      clear hg
      obtain rfl := Option.some.inj hf
      exact x_iret C hr hlk dX7_pace_45
    · have hf := x_ine hc8 hf
      refine x_aload_n C 0 dX7_pace_26 rfl ?_
      refine x_get9 C xkd_9 i9 0 (by decide) (by decide +kernel) rfl rfl dX7_pace_27 ?_
      refine x_iload_n C 1 dX7_pace_30 rfl ?_
      obtain ⟨q11, hg, hf⟩ := x_bd hf
      refine x_callSr C (t_X7_windowAt hg) (va_cwS 1 C.1.2.2.2.2 gX7_pace_X7_windowAt rfl rfl rfl (by decide +kernel) ⟨Nat.le_of_ble_eq_true rfl, Nat.le_of_ble_eq_true rfl⟩) rfl rfl (Nat.le_of_ble_eq_true rfl) dX7_pace_31 ⟨Nat.zero_le _, Nat.zero_le _⟩ (fun ta12 => ?_)
      clear hg
      refine x_iconst (v := 1) C dX7_pace_34 (by decide) ?_
      refine x_iadd C dX7_pace_35 ?_
      obtain ⟨g13, hf⟩ := x_gd hf
      refine x_iald C xkd_10 xl_10 g13 dX7_pace_36 ?_
      refine x_goto C 45 dX7_pace_37 (by decide) ?_
      obtain rfl := Option.some.inj hf
      exact x_iret C hr hlk dX7_pace_45
  · have hf := x_ip hc5 hf
    refine x_aload_n C 0 dX7_pace_12 rfl ?_
    refine x_iconst (v := 1) C dX7_pace_13 (by decide) ?_
    obtain ⟨q14, hg, hf⟩ := x_bd hf
    refine x_callVr C (by rw [xkd_9]; decide) (by rw [xkd_9]; decide) (xc9 xkd_9) rfl (t_X7_throwing hg) (cwV 1 C.1.2.2.2.2 gX7_pace_X7_throwing rfl rfl rfl (by decide +kernel) ⟨Nat.le_of_ble_eq_true rfl, Nat.le_of_ble_eq_true rfl⟩) rfl rfl (Nat.le_of_ble_eq_true rfl) dX7_pace_14 ⟨Nat.zero_le _, Nat.zero_le _⟩ (fun ta15 => ?_)
    clear hg
    obtain rfl := Option.some.inj hf
    exact x_iret C hr hlk dX7_pace_17
/-! WaitingRoomSimulationModel.busy(II)I -/
abbrev rm_X7_busy (c s : Nat) : Room := { frames := 2, cells := c, slots := s, locals := 45 }
def f_X7_busy (a1 : Int32) (a2 : Int32) (M : xM) : Option (Int32 × xM) := x_let (sI M 9 9 (0 : Int32)) fun M1 => (f_X7_isWindow a1 M1).bind fun q3 => (if q3 = 0 then (f_X7_throwing (1 : Int32) M1).bind fun q15 => some (q15.1, q15.2) else (f_X7_windowAt a1 M1).bind fun q6 => if x_in (q6 + (2 : Int32)) 159 = true then (if (M1.1 10 (q6 + (2 : Int32)).toNatClampNeg) = (-1 : Int32) then (f_X7_throwing (2 : Int32) M1).bind fun q13 => some (q13.1, q13.2) else (f_X7_windowAt a1 M1).bind fun q10 => if x_in (q10 + a2) 159 = true then some (M1.1 10 (q10 + a2).toNatClampNeg, M1) else none) else none)
set_option maxHeartbeats 4000000 in
set_option maxRecDepth 100000 in
theorem t_X7_busy {l : Launch} {G : xG} {ta : Nat × Nat} {M : xM} {a1 : Int32} {a2 : Int32} {out : Int32 × xM} (hf : f_X7_busy a1 a2 M = some out) : xMet G l yX7_busy wsX7_busy (rm_X7_busy 0 0) 0 0 ta M [.ref (xad G 9), .int a1, .int a2] (some (.int out.1)) out.2 := by
  refine x_met (cc := cX7_busy) (nL := 3) (ret := some .int) (by decide) rfl (Nat.le_of_ble_eq_true rfl) ?_
  intro p e s m args below meth c C hr hlk
  have C : xC G p s m args c cX7_busy 3 wsX7_busy RX7 := C
  have i9 : ∀ w ∈ wsX70, w ∈ wsX7_busy := by decide +kernel
  unfold f_X7_busy at hf
  show xW G p l e (rm_X7_busy 0 0) s m args below meth c 3 (MQ below (xQr G (some (.int out.1)) out.2) args s 0 0 (xAs G)) 0 0 ta M 0 [(0, .ref (xad G 9)), (1, .int a1), (2, .int a2)] []
  refine x_aload_n C 0 dX7_busy_0 rfl ?_
  refine x_iconst (v := 0) C dX7_busy_1 (by decide) ?_
  refine x_put9 C xkd_9 i9 9 (by decide) (by decide +kernel) dX7_busy_2 ?_
  obtain ⟨M1, e2, hf⟩ := x_lt hf
  rw [← e2]
  clear e2
  refine x_iload_n C 1 dX7_busy_5 rfl ?_
  obtain ⟨q3, hg, hf⟩ := x_bd hf
  refine x_callSr C (t_X7_isWindow hg) (va_cwS 1 C.1.2.2.2.2 gX7_busy_X7_isWindow rfl rfl rfl (by decide +kernel) ⟨Nat.le_of_ble_eq_true rfl, Nat.le_of_ble_eq_true rfl⟩) rfl rfl (Nat.le_of_ble_eq_true rfl) dX7_busy_6 ⟨Nat.zero_le _, Nat.zero_le _⟩ (fun ta4 => ?_)
  clear hg
  refine x_if_ne C 18 dX7_busy_9 (by decide) (fun hc5 => ?_) (fun hc5 => ?_)
  · have hf := x_ine hc5 hf
    refine x_aload_n C 0 dX7_busy_18 rfl ?_
    refine x_get9 C xkd_9 i9 0 (by decide) (by decide +kernel) rfl rfl dX7_busy_19 ?_
    refine x_iload_n C 1 dX7_busy_22 rfl ?_
    obtain ⟨q6, hg, hf⟩ := x_bd hf
    refine x_callSr C (t_X7_windowAt hg) (va_cwS 1 C.1.2.2.2.2 gX7_busy_X7_windowAt rfl rfl rfl (by decide +kernel) ⟨Nat.le_of_ble_eq_true rfl, Nat.le_of_ble_eq_true rfl⟩) rfl rfl (Nat.le_of_ble_eq_true rfl) dX7_busy_23 ⟨Nat.zero_le _, Nat.zero_le _⟩ (fun ta7 => ?_)
    clear hg
    refine x_iconst (v := 2) C dX7_busy_26 (by decide) ?_
    refine x_iadd C dX7_busy_27 ?_
    obtain ⟨g8, hf⟩ := x_gd hf
    refine x_iald C xkd_10 xl_10 g8 dX7_busy_28 ?_
    refine x_iconst (v := (-1)) C dX7_busy_29 (by decide) ?_
    refine x_icmp_ne C 41 dX7_busy_30 (by decide) (fun hc9 => ?_) (fun hc9 => ?_)
    · have hf := x_ine hc9 hf
      refine x_aload_n C 0 dX7_busy_41 rfl ?_
      refine x_get9 C xkd_9 i9 0 (by decide) (by decide +kernel) rfl rfl dX7_busy_42 ?_
      refine x_iload_n C 1 dX7_busy_45 rfl ?_
      obtain ⟨q10, hg, hf⟩ := x_bd hf
      refine x_callSr C (t_X7_windowAt hg) (va_cwS 1 C.1.2.2.2.2 gX7_busy_X7_windowAt rfl rfl rfl (by decide +kernel) ⟨Nat.le_of_ble_eq_true rfl, Nat.le_of_ble_eq_true rfl⟩) rfl rfl (Nat.le_of_ble_eq_true rfl) dX7_busy_46 ⟨Nat.zero_le _, Nat.zero_le _⟩ (fun ta11 => ?_)
      clear hg
      refine x_iload_n C 2 dX7_busy_49 rfl ?_
      refine x_iadd C dX7_busy_50 ?_
      obtain ⟨g12, hf⟩ := x_gd hf
      refine x_iald C xkd_10 xl_10 g12 dX7_busy_51 ?_
      obtain rfl := Option.some.inj hf
      exact x_iret C hr hlk dX7_busy_52
    · have hf := x_ip hc9 hf
      refine x_aload_n C 0 dX7_busy_33 rfl ?_
      refine x_iconst (v := 2) C dX7_busy_34 (by decide) ?_
      obtain ⟨q13, hg, hf⟩ := x_bd hf
      refine x_callVr C (by rw [xkd_9]; decide) (by rw [xkd_9]; decide) (xc9 xkd_9) rfl (t_X7_throwing hg) (cwV 1 C.1.2.2.2.2 gX7_busy_X7_throwing rfl rfl rfl (by decide +kernel) ⟨Nat.le_of_ble_eq_true rfl, Nat.le_of_ble_eq_true rfl⟩) rfl rfl (Nat.le_of_ble_eq_true rfl) dX7_busy_35 ⟨Nat.zero_le _, Nat.zero_le _⟩ (fun ta14 => ?_)
      clear hg
      refine x_goto C 52 dX7_busy_38 (by decide) ?_
      obtain rfl := Option.some.inj hf
      exact x_iret C hr hlk dX7_busy_52
  · have hf := x_ip hc5 hf
    refine x_aload_n C 0 dX7_busy_12 rfl ?_
    refine x_iconst (v := 1) C dX7_busy_13 (by decide) ?_
    obtain ⟨q15, hg, hf⟩ := x_bd hf
    refine x_callVr C (by rw [xkd_9]; decide) (by rw [xkd_9]; decide) (xc9 xkd_9) rfl (t_X7_throwing hg) (cwV 1 C.1.2.2.2.2 gX7_busy_X7_throwing rfl rfl rfl (by decide +kernel) ⟨Nat.le_of_ble_eq_true rfl, Nat.le_of_ble_eq_true rfl⟩) rfl rfl (Nat.le_of_ble_eq_true rfl) dX7_busy_14 ⟨Nat.zero_le _, Nat.zero_le _⟩ (fun ta16 => ?_)
    clear hg
    obtain rfl := Option.some.inj hf
    exact x_iret C hr hlk dX7_busy_17
/-! WaitingRoomSimulationModel.customerAtWindow(I)I -/
abbrev rm_X7_customerAtWindow (c s : Nat) : Room := { frames := 3, cells := c, slots := s, locals := 67 }
def f_X7_customerAtWindow (a1 : Int32) (M : xM) : Option (Int32 × xM) := (f_X7_busy a1 (2 : Int32) M).bind fun q1 => some (q1.1, q1.2)
set_option maxHeartbeats 4000000 in
set_option maxRecDepth 100000 in
theorem t_X7_customerAtWindow {l : Launch} {G : xG} {ta : Nat × Nat} {M : xM} {a1 : Int32} {out : Int32 × xM} (hf : f_X7_customerAtWindow a1 M = some out) : xMet G l yX7_customerAtWindow wsX7_customerAtWindow (rm_X7_customerAtWindow 0 0) 0 0 ta M [.ref (xad G 9), .int a1] (some (.int out.1)) out.2 := by
  refine x_met (cc := cX7_customerAtWindow) (nL := 2) (ret := some .int) (by decide) rfl (Nat.le_of_ble_eq_true rfl) ?_
  intro p e s m args below meth c C hr hlk
  have C : xC G p s m args c cX7_customerAtWindow 2 wsX7_customerAtWindow RX7 := C
  unfold f_X7_customerAtWindow at hf
  show xW G p l e (rm_X7_customerAtWindow 0 0) s m args below meth c 2 (MQ below (xQr G (some (.int out.1)) out.2) args s 0 0 (xAs G)) 0 0 ta M 0 [(0, .ref (xad G 9)), (1, .int a1)] []
  refine x_aload_n C 0 dX7_customerAtWindow_0 rfl ?_
  refine x_iload_n C 1 dX7_customerAtWindow_1 rfl ?_
  refine x_iconst (v := 2) C dX7_customerAtWindow_2 (by decide) ?_
  obtain ⟨q1, hg, hf⟩ := x_bd hf
  refine x_callVr C (by rw [xkd_9]; decide) (by rw [xkd_9]; decide) (xc9 xkd_9) rfl (t_X7_busy hg) (cwV 2 C.1.2.2.2.2 gX7_customerAtWindow_X7_busy rfl rfl rfl (by decide +kernel) ⟨Nat.le_of_ble_eq_true rfl, Nat.le_of_ble_eq_true rfl⟩) rfl rfl (Nat.le_of_ble_eq_true rfl) dX7_customerAtWindow_3 ⟨Nat.zero_le _, Nat.zero_le _⟩ (fun ta2 => ?_)
  clear hg
  obtain rfl := Option.some.inj hf
  exact x_iret C hr hlk dX7_customerAtWindow_6
/-! WaitingRoomSimulationModel.serviceTimeLeft(I)I -/
abbrev rm_X7_serviceTimeLeft (c s : Nat) : Room := { frames := 3, cells := c, slots := s, locals := 67 }
def f_X7_serviceTimeLeft (a1 : Int32) (M : xM) : Option (Int32 × xM) := (f_X7_busy a1 (3 : Int32) M).bind fun q1 => some (q1.1, q1.2)
set_option maxHeartbeats 4000000 in
set_option maxRecDepth 100000 in
theorem t_X7_serviceTimeLeft {l : Launch} {G : xG} {ta : Nat × Nat} {M : xM} {a1 : Int32} {out : Int32 × xM} (hf : f_X7_serviceTimeLeft a1 M = some out) : xMet G l yX7_serviceTimeLeft wsX7_serviceTimeLeft (rm_X7_serviceTimeLeft 0 0) 0 0 ta M [.ref (xad G 9), .int a1] (some (.int out.1)) out.2 := by
  refine x_met (cc := cX7_serviceTimeLeft) (nL := 2) (ret := some .int) (by decide) rfl (Nat.le_of_ble_eq_true rfl) ?_
  intro p e s m args below meth c C hr hlk
  have C : xC G p s m args c cX7_serviceTimeLeft 2 wsX7_serviceTimeLeft RX7 := C
  unfold f_X7_serviceTimeLeft at hf
  show xW G p l e (rm_X7_serviceTimeLeft 0 0) s m args below meth c 2 (MQ below (xQr G (some (.int out.1)) out.2) args s 0 0 (xAs G)) 0 0 ta M 0 [(0, .ref (xad G 9)), (1, .int a1)] []
  refine x_aload_n C 0 dX7_serviceTimeLeft_0 rfl ?_
  refine x_iload_n C 1 dX7_serviceTimeLeft_1 rfl ?_
  refine x_iconst (v := 3) C dX7_serviceTimeLeft_2 (by decide) ?_
  obtain ⟨q1, hg, hf⟩ := x_bd hf
  refine x_callVr C (by rw [xkd_9]; decide) (by rw [xkd_9]; decide) (xc9 xkd_9) rfl (t_X7_busy hg) (cwV 2 C.1.2.2.2.2 gX7_serviceTimeLeft_X7_busy rfl rfl rfl (by decide +kernel) ⟨Nat.le_of_ble_eq_true rfl, Nat.le_of_ble_eq_true rfl⟩) rfl rfl (Nat.le_of_ble_eq_true rfl) dX7_serviceTimeLeft_3 ⟨Nat.zero_le _, Nat.zero_le _⟩ (fun ta2 => ?_)
  clear hg
  obtain rfl := Option.some.inj hf
  exact x_iret C hr hlk dX7_serviceTimeLeft_6
/-! WaitingRoomSimulationModel.calledAhead(I)I -/
abbrev rm_X7_calledAhead (c s : Nat) : Room := { frames := 2, cells := c, slots := s, locals := 46 }
def f_X7_calledAhead_L23 (v1 : Int32) (M : xM) : Nat → Int32 → Int32 → Option (Int32 × xM)
  | 0, _, _ => none
  | n+1, v2, v3 => (f_X7_placeOf v1 M).bind fun q6 => (if q6 ≤ v3 then some (v2, M) else if x_in ((123 : Int32) + v3) 159 = true then (f_X7_personAt (M.1 10 ((123 : Int32) + v3).toNatClampNeg) M).bind fun q10 => if x_in (q10 + (5 : Int32)) 159 = true then f_X7_calledAhead_L23 v1 M n (v2 + (M.1 10 (q10 + (5 : Int32)).toNatClampNeg)) (v3 + 1) else none else none)
def f_X7_calledAhead (a1 : Int32) (M : xM) : Option (Int32 × xM) := x_let (sI M 9 9 (0 : Int32)) fun M1 => (f_X7_isHere a1 M1).bind fun q3 => (if q3 = 0 then (f_X7_throwing (1 : Int32) M1).bind fun q13 => some (q13.1, q13.2) else f_X7_calledAhead_L23 a1 M1 xF (0 : Int32) (0 : Int32))
set_option maxHeartbeats 4000000 in
set_option maxRecDepth 100000 in
theorem t_X7_calledAhead_L23 {G : xG} {p : Program} {l : Launch} {e : Env} {s : State} {m : MethodId} {args : Array Value} {below : List Frame} {meth : Method} {c : Code} (C : xC G p s m args c cX7_calledAhead 4 wsX7_calledAhead RX7) (hr : meth.sig.returnType = some .int) (hlk : meth.locks = false) {v1 : Int32} {M : xM} : ∀ (n : Nat) (v2 : Int32) (v3 : Int32) (ta : Nat × Nat) (out : Int32 × xM), f_X7_calledAhead_L23 v1 M n v2 v3 = some out → xW G p l e (rm_X7_calledAhead 0 0) s m args below meth c 4 (MQ below (xQr G (some (.int out.1)) out.2) args s 0 0 (xAs G)) 0 0 ta M 23 [(0, .ref (xad G 9)), (1, .int v1), (2, .int v2), (3, .int v3)] [] := by
  intro n
  induction n with
  | zero =>
    intro v2 v3 ta out hf
    rw [f_X7_calledAhead_L23] at hf
    cases hf
  | succ n ih =>
    intro v2 v3 ta out hf
    rw [f_X7_calledAhead_L23] at hf
    have i9 : ∀ w ∈ wsX70, w ∈ wsX7_calledAhead := by decide +kernel
    refine x_iload_n C 3 dX7_calledAhead_23 rfl ?_
    refine x_aload_n C 0 dX7_calledAhead_24 rfl ?_
    refine x_iload_n C 1 dX7_calledAhead_25 rfl ?_
    obtain ⟨q6, hg, hf⟩ := x_bd hf
    refine x_callVr C (by rw [xkd_9]; decide) (by rw [xkd_9]; decide) (xc9 xkd_9) rfl (t_X7_placeOf hg) (cwV 1 C.1.2.2.2.2 gX7_calledAhead_X7_placeOf rfl rfl rfl (by decide +kernel) ⟨Nat.le_of_ble_eq_true rfl, Nat.le_of_ble_eq_true rfl⟩) rfl rfl (Nat.le_of_ble_eq_true rfl) dX7_calledAhead_26 ⟨Nat.zero_le _, Nat.zero_le _⟩ (fun ta7 => ?_)
    clear hg
    refine x_icmp_ge C 60 dX7_calledAhead_29 (by decide) (fun hc8 => ?_) (fun hc8 => ?_)
    · have hf := x_ip hc8 hf
      refine x_iload_n C 2 dX7_calledAhead_60 rfl ?_
      obtain rfl := Option.some.inj hf
      exact x_iret C hr hlk dX7_calledAhead_61
    · have hf := x_ine hc8 hf
      refine x_iload_n C 2 dX7_calledAhead_32 rfl ?_
      refine x_aload_n C 0 dX7_calledAhead_33 rfl ?_
      refine x_get9 C xkd_9 i9 0 (by decide) (by decide +kernel) rfl rfl dX7_calledAhead_34 ?_
      refine x_aload_n C 0 dX7_calledAhead_37 rfl ?_
      refine x_get9 C xkd_9 i9 0 (by decide) (by decide +kernel) rfl rfl dX7_calledAhead_38 ?_
      refine x_bipush (v := 123) C dX7_calledAhead_41 (by decide) ?_
      refine x_iload_n C 3 dX7_calledAhead_43 rfl ?_
      refine x_iadd C dX7_calledAhead_44 ?_
      obtain ⟨g9, hf⟩ := x_gd hf
      refine x_iald C xkd_10 xl_10 g9 dX7_calledAhead_45 ?_
      obtain ⟨q10, hg, hf⟩ := x_bd hf
      refine x_callSr C (t_X7_personAt hg) (va_cwS 1 C.1.2.2.2.2 gX7_calledAhead_X7_personAt rfl rfl rfl (by decide +kernel) ⟨Nat.le_of_ble_eq_true rfl, Nat.le_of_ble_eq_true rfl⟩) rfl rfl (Nat.le_of_ble_eq_true rfl) dX7_calledAhead_46 ⟨Nat.zero_le _, Nat.zero_le _⟩ (fun ta11 => ?_)
      clear hg
      refine x_iconst (v := 5) C dX7_calledAhead_49 (by decide) ?_
      refine x_iadd C dX7_calledAhead_50 ?_
      obtain ⟨g12, hf⟩ := x_gd hf
      refine x_iald C xkd_10 xl_10 g12 dX7_calledAhead_51 ?_
      refine x_iadd C dX7_calledAhead_52 ?_
      refine x_istore_n (lv' := [(2, .int (v2 + (M.1 10 (q10 + (5 : Int32)).toNatClampNeg))), (0, .ref (xad G 9)), (1, .int v1), (3, .int v3)]) C dX7_calledAhead_53 rfl (by decide) rfl ?_
      refine x_iinc (v := v3 + 1) (lv' := [(3, .int (v3 + 1)), (2, .int (v2 + (M.1 10 (q10 + (5 : Int32)).toNatClampNeg))), (0, .ref (xad G 9)), (1, .int v1)]) C 3 dX7_calledAhead_54 rfl rfl (by decide) rfl ?_
      refine x_goto C 23 dX7_calledAhead_57 (by decide) ?_
      refine x_sub [2, 3, 1, 0] rfl ?_
      exact ih (v2 + (M.1 10 (q10 + (5 : Int32)).toNatClampNeg)) (v3 + 1) _ _ hf
set_option maxHeartbeats 4000000 in
set_option maxRecDepth 100000 in
theorem t_X7_calledAhead {l : Launch} {G : xG} {ta : Nat × Nat} {M : xM} {a1 : Int32} {out : Int32 × xM} (hf : f_X7_calledAhead a1 M = some out) : xMet G l yX7_calledAhead wsX7_calledAhead (rm_X7_calledAhead 0 0) 0 0 ta M [.ref (xad G 9), .int a1] (some (.int out.1)) out.2 := by
  refine x_met (cc := cX7_calledAhead) (nL := 4) (ret := some .int) (by decide) rfl (Nat.le_of_ble_eq_true rfl) ?_
  intro p e s m args below meth c C hr hlk
  have C : xC G p s m args c cX7_calledAhead 4 wsX7_calledAhead RX7 := C
  have i9 : ∀ w ∈ wsX70, w ∈ wsX7_calledAhead := by decide +kernel
  unfold f_X7_calledAhead at hf
  show xW G p l e (rm_X7_calledAhead 0 0) s m args below meth c 4 (MQ below (xQr G (some (.int out.1)) out.2) args s 0 0 (xAs G)) 0 0 ta M 0 [(0, .ref (xad G 9)), (1, .int a1)] []
  refine x_aload_n C 0 dX7_calledAhead_0 rfl ?_
  refine x_iconst (v := 0) C dX7_calledAhead_1 (by decide) ?_
  refine x_put9 C xkd_9 i9 9 (by decide) (by decide +kernel) dX7_calledAhead_2 ?_
  obtain ⟨M1, e2, hf⟩ := x_lt hf
  rw [← e2]
  clear e2
  refine x_aload_n C 0 dX7_calledAhead_5 rfl ?_
  refine x_iload_n C 1 dX7_calledAhead_6 rfl ?_
  obtain ⟨q3, hg, hf⟩ := x_bd hf
  refine x_callVr C (by rw [xkd_9]; decide) (by rw [xkd_9]; decide) (xc9 xkd_9) rfl (t_X7_isHere hg) (cwV 1 C.1.2.2.2.2 gX7_calledAhead_X7_isHere rfl rfl rfl (by decide +kernel) ⟨Nat.le_of_ble_eq_true rfl, Nat.le_of_ble_eq_true rfl⟩) rfl rfl (Nat.le_of_ble_eq_true rfl) dX7_calledAhead_7 ⟨Nat.zero_le _, Nat.zero_le _⟩ (fun ta4 => ?_)
  clear hg
  refine x_if_ne C 19 dX7_calledAhead_10 (by decide) (fun hc5 => ?_) (fun hc5 => ?_)
  · have hf := x_ine hc5 hf
    refine x_iconst (v := 0) C dX7_calledAhead_19 (by decide) ?_
    refine x_istore_n (lv' := [(2, .int (0 : Int32)), (0, .ref (xad G 9)), (1, .int a1)]) C dX7_calledAhead_20 rfl (by decide) rfl ?_
    refine x_iconst (v := 0) C dX7_calledAhead_21 (by decide) ?_
    refine x_istore_n (lv' := [(3, .int (0 : Int32)), (2, .int (0 : Int32)), (0, .ref (xad G 9)), (1, .int a1)]) C dX7_calledAhead_22 rfl (by decide) rfl ?_
    refine x_sub [2, 3, 1, 0] rfl ?_
    exact t_X7_calledAhead_L23 C hr hlk xF (0 : Int32) (0 : Int32) _ _ hf
  · have hf := x_ip hc5 hf
    refine x_aload_n C 0 dX7_calledAhead_13 rfl ?_
    refine x_iconst (v := 1) C dX7_calledAhead_14 (by decide) ?_
    obtain ⟨q13, hg, hf⟩ := x_bd hf
    refine x_callVr C (by rw [xkd_9]; decide) (by rw [xkd_9]; decide) (xc9 xkd_9) rfl (t_X7_throwing hg) (cwV 1 C.1.2.2.2.2 gX7_calledAhead_X7_throwing rfl rfl rfl (by decide +kernel) ⟨Nat.le_of_ble_eq_true rfl, Nat.le_of_ble_eq_true rfl⟩) rfl rfl (Nat.le_of_ble_eq_true rfl) dX7_calledAhead_15 ⟨Nat.zero_le _, Nat.zero_le _⟩ (fun ta14 => ?_)
    clear hg
    obtain rfl := Option.some.inj hf
    exact x_iret C hr hlk dX7_calledAhead_18
/-! WaitingRoomSimulationModel.calledAheadByPositions(I)I -/
abbrev rm_X7_calledAheadByPositions (c s : Nat) : Room := { frames := 3, cells := c, slots := s, locals := 69 }
def f_X7_calledAheadByPositions (a1 : Int32) (M : xM) : Option (Int32 × xM) := (f_X7_calledAhead a1 M).bind fun q1 => some (q1.1, q1.2)
set_option maxHeartbeats 4000000 in
set_option maxRecDepth 100000 in
theorem t_X7_calledAheadByPositions {l : Launch} {G : xG} {ta : Nat × Nat} {M : xM} {a1 : Int32} {out : Int32 × xM} (hf : f_X7_calledAheadByPositions a1 M = some out) : xMet G l yX7_calledAheadByPositions wsX7_calledAheadByPositions (rm_X7_calledAheadByPositions 0 0) 0 0 ta M [.ref (xad G 9), .int a1] (some (.int out.1)) out.2 := by
  refine x_met (cc := cX7_calledAheadByPositions) (nL := 2) (ret := some .int) (by decide) rfl (Nat.le_of_ble_eq_true rfl) ?_
  intro p e s m args below meth c C hr hlk
  have C : xC G p s m args c cX7_calledAheadByPositions 2 wsX7_calledAheadByPositions RX7 := C
  unfold f_X7_calledAheadByPositions at hf
  show xW G p l e (rm_X7_calledAheadByPositions 0 0) s m args below meth c 2 (MQ below (xQr G (some (.int out.1)) out.2) args s 0 0 (xAs G)) 0 0 ta M 0 [(0, .ref (xad G 9)), (1, .int a1)] []
  refine x_aload_n C 0 dX7_calledAheadByPositions_0 rfl ?_
  refine x_iload_n C 1 dX7_calledAheadByPositions_1 rfl ?_
  obtain ⟨q1, hg, hf⟩ := x_bd hf
  refine x_callVr C (by rw [xkd_9]; decide) (by rw [xkd_9]; decide) (xc9 xkd_9) rfl (t_X7_calledAhead hg) (cwV 1 C.1.2.2.2.2 gX7_calledAheadByPositions_X7_calledAhead rfl rfl rfl (by decide +kernel) ⟨Nat.le_of_ble_eq_true rfl, Nat.le_of_ble_eq_true rfl⟩) rfl rfl (Nat.le_of_ble_eq_true rfl) dX7_calledAheadByPositions_2 ⟨Nat.zero_le _, Nat.zero_le _⟩ (fun ta2 => ?_)
  clear hg
  obtain rfl := Option.some.inj hf
  exact x_iret C hr hlk dX7_calledAheadByPositions_5
/-! WaitingRoomSimulationModel.inversions()I -/
abbrev rm_X7_inversions (c s : Nat) : Room := { frames := 1, cells := c, slots := s, locals := 20 }
def f_X7_inversions_L24 (v2 : Int32) (M : xM) (kx : Int32 → Option (Int32 × xM)) : Nat → Int32 → Int32 → Option (Int32 × xM)
  | 0, _, _ => none
  | n+1, v1, v3 => if x_in (9 : Int32) 159 = true then (if (M.1 10 (9 : Int32).toNatClampNeg) ≤ v3 then kx v1 else if x_in ((123 : Int32) + v2) 159 = true then (f_X7_personAt (M.1 10 ((123 : Int32) + v2).toNatClampNeg) M).bind fun q8 => if x_in q8 159 = true then if x_in ((123 : Int32) + v3) 159 = true then (f_X7_personAt (M.1 10 ((123 : Int32) + v3).toNatClampNeg) M).bind fun q12 => if x_in q12 159 = true then (if (M.1 10 q8.toNatClampNeg) ≤ (M.1 10 q12.toNatClampNeg) then f_X7_inversions_L24 v2 M kx n (v1 + (0 : Int32)) (v3 + 1) else f_X7_inversions_L24 v2 M kx n (v1 + (1 : Int32)) (v3 + 1)) else none else none else none else none) else none
def f_X7_inversions_L9 (M : xM) : Nat → Int32 → Int32 → Option (Int32 × xM)
  | 0, _, _ => none
  | n+1, v1, v2 => if x_in (9 : Int32) 159 = true then (if (M.1 10 (9 : Int32).toNatClampNeg) ≤ v2 then some (v1, M) else f_X7_inversions_L24 v2 M (fun v16 => f_X7_inversions_L9 M n v16 (v2 + 1)) xF v1 (v2 + (1 : Int32))) else none
def f_X7_inversions (M : xM) : Option (Int32 × xM) := x_let (sI M 9 9 (0 : Int32)) fun M1 => f_X7_inversions_L9 M1 xF (0 : Int32) (0 : Int32)
set_option maxHeartbeats 4000000 in
set_option maxRecDepth 100000 in
theorem t_X7_inversions_L24 {G : xG} {p : Program} {l : Launch} {e : Env} {s : State} {m : MethodId} {args : Array Value} {below : List Frame} {meth : Method} {c : Code} (C : xC G p s m args c cX7_inversions 4 wsX7_inversions RX7) (hr : meth.sig.returnType = some .int) (hlk : meth.locks = false) {v2 : Int32} {M : xM} {kx : Int32 → Option (Int32 × xM)} (hkx : ∀ (v1 : Int32) (ta : Nat × Nat) (out : Int32 × xM), kx v1 = some out → xW G p l e (rm_X7_inversions 0 0) s m args below meth c 4 (MQ below (xQr G (some (.int out.1)) out.2) args s 0 0 (xAs G)) 0 0 ta M 86 [(0, .ref (xad G 9)), (1, .int v1), (2, .int v2)] []) : ∀ (n : Nat) (v1 : Int32) (v3 : Int32) (ta : Nat × Nat) (out : Int32 × xM), f_X7_inversions_L24 v2 M kx n v1 v3 = some out → xW G p l e (rm_X7_inversions 0 0) s m args below meth c 4 (MQ below (xQr G (some (.int out.1)) out.2) args s 0 0 (xAs G)) 0 0 ta M 24 [(0, .ref (xad G 9)), (1, .int v1), (2, .int v2), (3, .int v3)] [] := by
  intro n
  induction n with
  | zero =>
    intro v1 v3 ta out hf
    rw [f_X7_inversions_L24] at hf
    cases hf
  | succ n ih =>
    intro v1 v3 ta out hf
    rw [f_X7_inversions_L24] at hf
    have i9 : ∀ w ∈ wsX70, w ∈ wsX7_inversions := by decide +kernel
    refine x_iload_n C 3 dX7_inversions_24 rfl ?_
    refine x_aload_n C 0 dX7_inversions_25 rfl ?_
    refine x_get9 C xkd_9 i9 0 (by decide) (by decide +kernel) rfl rfl dX7_inversions_26 ?_
    refine x_bipush (v := 9) C dX7_inversions_29 (by decide) ?_
    obtain ⟨g5, hf⟩ := x_gd hf
    refine x_iald C xkd_10 xl_10 g5 dX7_inversions_31 ?_
    refine x_icmp_ge C 86 dX7_inversions_32 (by decide) (fun hc6 => ?_) (fun hc6 => ?_)
    · have hf := x_ip hc6 hf
      refine x_sub [0, 1, 2] rfl ?_
      exact hkx v1 _ _ hf
    · have hf := x_ine hc6 hf
      refine x_iload_n C 1 dX7_inversions_35 rfl ?_
      refine x_aload_n C 0 dX7_inversions_36 rfl ?_
      refine x_get9 C xkd_9 i9 0 (by decide) (by decide +kernel) rfl rfl dX7_inversions_37 ?_
      refine x_aload_n C 0 dX7_inversions_40 rfl ?_
      refine x_get9 C xkd_9 i9 0 (by decide) (by decide +kernel) rfl rfl dX7_inversions_41 ?_
      refine x_bipush (v := 123) C dX7_inversions_44 (by decide) ?_
      refine x_iload_n C 2 dX7_inversions_46 rfl ?_
      refine x_iadd C dX7_inversions_47 ?_
      obtain ⟨g7, hf⟩ := x_gd hf
      refine x_iald C xkd_10 xl_10 g7 dX7_inversions_48 ?_
      obtain ⟨q8, hg, hf⟩ := x_bd hf
      refine x_callSr C (t_X7_personAt hg) (va_cwS 1 C.1.2.2.2.2 gX7_inversions_X7_personAt rfl rfl rfl (by decide +kernel) ⟨Nat.le_of_ble_eq_true rfl, Nat.le_of_ble_eq_true rfl⟩) rfl rfl (Nat.le_of_ble_eq_true rfl) dX7_inversions_49 ⟨Nat.zero_le _, Nat.zero_le _⟩ (fun ta9 => ?_)
      clear hg
      obtain ⟨g10, hf⟩ := x_gd hf
      refine x_iald C xkd_10 xl_10 g10 dX7_inversions_52 ?_
      refine x_aload_n C 0 dX7_inversions_53 rfl ?_
      refine x_get9 C xkd_9 i9 0 (by decide) (by decide +kernel) rfl rfl dX7_inversions_54 ?_
      refine x_aload_n C 0 dX7_inversions_57 rfl ?_
      refine x_get9 C xkd_9 i9 0 (by decide) (by decide +kernel) rfl rfl dX7_inversions_58 ?_
      refine x_bipush (v := 123) C dX7_inversions_61 (by decide) ?_
      refine x_iload_n C 3 dX7_inversions_63 rfl ?_
      refine x_iadd C dX7_inversions_64 ?_
      obtain ⟨g11, hf⟩ := x_gd hf
      refine x_iald C xkd_10 xl_10 g11 dX7_inversions_65 ?_
      obtain ⟨q12, hg, hf⟩ := x_bd hf
      refine x_callSr C (t_X7_personAt hg) (va_cwS 1 C.1.2.2.2.2 gX7_inversions_X7_personAt rfl rfl rfl (by decide +kernel) ⟨Nat.le_of_ble_eq_true rfl, Nat.le_of_ble_eq_true rfl⟩) rfl rfl (Nat.le_of_ble_eq_true rfl) dX7_inversions_66 ⟨Nat.zero_le _, Nat.zero_le _⟩ (fun ta13 => ?_)
      clear hg
      obtain ⟨g14, hf⟩ := x_gd hf
      refine x_iald C xkd_10 xl_10 g14 dX7_inversions_69 ?_
      refine x_icmp_le C 77 dX7_inversions_70 (by decide) (fun hc15 => ?_) (fun hc15 => ?_)
      · have hf := x_ip hc15 hf
        refine x_iconst (v := 0) C dX7_inversions_77 (by decide) ?_
        refine x_iadd C dX7_inversions_78 ?_
        refine x_istore_n (lv' := [(1, .int (v1 + (0 : Int32))), (0, .ref (xad G 9)), (2, .int v2), (3, .int v3)]) C dX7_inversions_79 rfl (by decide) rfl ?_
        refine x_iinc (v := v3 + 1) (lv' := [(3, .int (v3 + 1)), (1, .int (v1 + (0 : Int32))), (0, .ref (xad G 9)), (2, .int v2)]) C 3 dX7_inversions_80 rfl rfl (by decide) rfl ?_
        refine x_goto C 24 dX7_inversions_83 (by decide) ?_
        refine x_sub [2, 1, 3, 0] rfl ?_
        exact ih (v1 + (0 : Int32)) (v3 + 1) _ _ hf
      · have hf := x_ine hc15 hf
        refine x_iconst (v := 1) C dX7_inversions_73 (by decide) ?_
        refine x_goto C 78 dX7_inversions_74 (by decide) ?_
        refine x_iadd C dX7_inversions_78 ?_
        refine x_istore_n (lv' := [(1, .int (v1 + (1 : Int32))), (0, .ref (xad G 9)), (2, .int v2), (3, .int v3)]) C dX7_inversions_79 rfl (by decide) rfl ?_
        refine x_iinc (v := v3 + 1) (lv' := [(3, .int (v3 + 1)), (1, .int (v1 + (1 : Int32))), (0, .ref (xad G 9)), (2, .int v2)]) C 3 dX7_inversions_80 rfl rfl (by decide) rfl ?_
        refine x_goto C 24 dX7_inversions_83 (by decide) ?_
        refine x_sub [2, 1, 3, 0] rfl ?_
        exact ih (v1 + (1 : Int32)) (v3 + 1) _ _ hf
set_option maxHeartbeats 4000000 in
set_option maxRecDepth 100000 in
theorem t_X7_inversions_L9 {G : xG} {p : Program} {l : Launch} {e : Env} {s : State} {m : MethodId} {args : Array Value} {below : List Frame} {meth : Method} {c : Code} (C : xC G p s m args c cX7_inversions 4 wsX7_inversions RX7) (hr : meth.sig.returnType = some .int) (hlk : meth.locks = false) {M : xM} : ∀ (n : Nat) (v1 : Int32) (v2 : Int32) (ta : Nat × Nat) (out : Int32 × xM), f_X7_inversions_L9 M n v1 v2 = some out → xW G p l e (rm_X7_inversions 0 0) s m args below meth c 4 (MQ below (xQr G (some (.int out.1)) out.2) args s 0 0 (xAs G)) 0 0 ta M 9 [(0, .ref (xad G 9)), (1, .int v1), (2, .int v2)] [] := by
  intro n
  induction n with
  | zero =>
    intro v1 v2 ta out hf
    rw [f_X7_inversions_L9] at hf
    cases hf
  | succ n ih =>
    intro v1 v2 ta out hf
    rw [f_X7_inversions_L9] at hf
    have i9 : ∀ w ∈ wsX70, w ∈ wsX7_inversions := by decide +kernel
    refine x_iload_n C 2 dX7_inversions_9 rfl ?_
    refine x_aload_n C 0 dX7_inversions_10 rfl ?_
    refine x_get9 C xkd_9 i9 0 (by decide) (by decide +kernel) rfl rfl dX7_inversions_11 ?_
    refine x_bipush (v := 9) C dX7_inversions_14 (by decide) ?_
    obtain ⟨g3, hf⟩ := x_gd hf
    refine x_iald C xkd_10 xl_10 g3 dX7_inversions_16 ?_
    refine x_icmp_ge C 92 dX7_inversions_17 (by decide) (fun hc4 => ?_) (fun hc4 => ?_)
    · have hf := x_ip hc4 hf
      refine x_iload_n C 1 dX7_inversions_92 rfl ?_
      obtain rfl := Option.some.inj hf
      exact x_iret C hr hlk dX7_inversions_93
    · have hf := x_ine hc4 hf
      refine x_iload_n C 2 dX7_inversions_20 rfl ?_
      refine x_iconst (v := 1) C dX7_inversions_21 (by decide) ?_
      refine x_iadd C dX7_inversions_22 ?_
      refine x_istore_n (lv' := [(3, .int (v2 + (1 : Int32))), (0, .ref (xad G 9)), (1, .int v1), (2, .int v2)]) C dX7_inversions_23 rfl (by decide) rfl ?_
      refine x_sub [1, 2, 3, 0] rfl ?_
      refine t_X7_inversions_L24 C hr hlk (fun v16 ta17 out hf => ?_) xF v1 (v2 + (1 : Int32)) _ _ hf
      refine x_iinc (v := v2 + 1) (lv' := [(2, .int (v2 + 1)), (0, .ref (xad G 9)), (1, .int v16)]) C 2 dX7_inversions_86 rfl rfl (by decide) rfl ?_
      refine x_goto C 9 dX7_inversions_89 (by decide) ?_
      refine x_sub [1, 2, 0] rfl ?_
      exact ih v16 (v2 + 1) _ _ hf
set_option maxHeartbeats 4000000 in
set_option maxRecDepth 100000 in
theorem t_X7_inversions {l : Launch} {G : xG} {ta : Nat × Nat} {M : xM} {out : Int32 × xM} (hf : f_X7_inversions M = some out) : xMet G l yX7_inversions wsX7_inversions (rm_X7_inversions 0 0) 0 0 ta M [.ref (xad G 9)] (some (.int out.1)) out.2 := by
  refine x_met (cc := cX7_inversions) (nL := 4) (ret := some .int) (by decide) rfl (Nat.le_of_ble_eq_true rfl) ?_
  intro p e s m args below meth c C hr hlk
  have C : xC G p s m args c cX7_inversions 4 wsX7_inversions RX7 := C
  have i9 : ∀ w ∈ wsX70, w ∈ wsX7_inversions := by decide +kernel
  unfold f_X7_inversions at hf
  show xW G p l e (rm_X7_inversions 0 0) s m args below meth c 4 (MQ below (xQr G (some (.int out.1)) out.2) args s 0 0 (xAs G)) 0 0 ta M 0 [(0, .ref (xad G 9))] []
  refine x_aload_n C 0 dX7_inversions_0 rfl ?_
  refine x_iconst (v := 0) C dX7_inversions_1 (by decide) ?_
  refine x_put9 C xkd_9 i9 9 (by decide) (by decide +kernel) dX7_inversions_2 ?_
  obtain ⟨M1, e2, hf⟩ := x_lt hf
  rw [← e2]
  clear e2
  refine x_iconst (v := 0) C dX7_inversions_5 (by decide) ?_
  refine x_istore_n (lv' := [(1, .int (0 : Int32)), (0, .ref (xad G 9))]) C dX7_inversions_6 rfl (by decide) rfl ?_
  refine x_iconst (v := 0) C dX7_inversions_7 (by decide) ?_
  refine x_istore_n (lv' := [(2, .int (0 : Int32)), (1, .int (0 : Int32)), (0, .ref (xad G 9))]) C dX7_inversions_8 rfl (by decide) rfl ?_
  refine x_sub [2, 1, 0] rfl ?_
  exact t_X7_inversions_L9 C hr hlk xF (0 : Int32) (0 : Int32) _ _ hf
/-! WaitingRoomSimulationModel.inversionsByBubbleSort()I -/
abbrev rm_X7_inversionsByBubbleSort (c s : Nat) : Room := { frames := 2, cells := c, slots := s, locals := 43 }
def f_X7_inversionsByBubbleSort (M : xM) : Option (Int32 × xM) := (f_X7_inversions M).bind fun q1 => some (q1.1, q1.2)
set_option maxHeartbeats 4000000 in
set_option maxRecDepth 100000 in
theorem t_X7_inversionsByBubbleSort {l : Launch} {G : xG} {ta : Nat × Nat} {M : xM} {out : Int32 × xM} (hf : f_X7_inversionsByBubbleSort M = some out) : xMet G l yX7_inversionsByBubbleSort wsX7_inversionsByBubbleSort (rm_X7_inversionsByBubbleSort 0 0) 0 0 ta M [.ref (xad G 9)] (some (.int out.1)) out.2 := by
  refine x_met (cc := cX7_inversionsByBubbleSort) (nL := 1) (ret := some .int) (by decide) rfl (Nat.le_of_ble_eq_true rfl) ?_
  intro p e s m args below meth c C hr hlk
  have C : xC G p s m args c cX7_inversionsByBubbleSort 1 wsX7_inversionsByBubbleSort RX7 := C
  unfold f_X7_inversionsByBubbleSort at hf
  show xW G p l e (rm_X7_inversionsByBubbleSort 0 0) s m args below meth c 1 (MQ below (xQr G (some (.int out.1)) out.2) args s 0 0 (xAs G)) 0 0 ta M 0 [(0, .ref (xad G 9))] []
  refine x_aload_n C 0 dX7_inversionsByBubbleSort_0 rfl ?_
  obtain ⟨q1, hg, hf⟩ := x_bd hf
  refine x_callVr C (by rw [xkd_9]; decide) (by rw [xkd_9]; decide) (xc9 xkd_9) rfl (t_X7_inversions hg) (cwV 0 C.1.2.2.2.2 gX7_inversionsByBubbleSort_X7_inversions rfl rfl rfl (by decide +kernel) ⟨Nat.le_of_ble_eq_true rfl, Nat.le_of_ble_eq_true rfl⟩) rfl rfl (Nat.le_of_ble_eq_true rfl) dX7_inversionsByBubbleSort_1 ⟨Nat.zero_le _, Nat.zero_le _⟩ (fun ta2 => ?_)
  clear hg
  obtain rfl := Option.some.inj hf
  exact x_iret C hr hlk dX7_inversionsByBubbleSort_4
/-! WaitingRoomSimulationModel.thinks()V -/
abbrev rm_X7_thinks (c s : Nat) : Room := { frames := 0, cells := c, slots := s, locals := 0 }
def f_X7_thinks_L2 : Nat → Int32 → xM → Option (xM)
  | 0, _, _ => none
  | n+1, v1, M => (if (159 : Int32) ≤ v1 then some M else if x_in v1 159 = true then if x_in v1 159 = true then x_let (sI M 12 v1.toNatClampNeg (M.1 10 v1.toNatClampNeg)) fun M4 => f_X7_thinks_L2 n (v1 + 1) M4 else none else none)
def f_X7_thinks (M : xM) : Option (xM) := f_X7_thinks_L2 xF (0 : Int32) M
set_option maxHeartbeats 4000000 in
set_option maxRecDepth 100000 in
theorem t_X7_thinks_L2 {G : xG} {p : Program} {l : Launch} {e : Env} {s : State} {m : MethodId} {args : Array Value} {below : List Frame} {meth : Method} {c : Code} (C : xC G p s m args c cX7_thinks 2 wsX7_thinks RX7) (hr : meth.sig.returnType = none) (hlk : meth.locks = false) : ∀ (n : Nat) (v1 : Int32) (M : xM) (ta : Nat × Nat) (out : xM), f_X7_thinks_L2 n v1 M = some out → xW G p l e (rm_X7_thinks 0 0) s m args below meth c 2 (MQ below (xQr G none out) args s 0 0 (xAs G)) 0 0 ta M 2 [(0, .ref (xad G 9)), (1, .int v1)] [] := by
  intro n
  induction n with
  | zero =>
    intro v1 M ta out hf
    rw [f_X7_thinks_L2] at hf
    cases hf
  | succ n ih =>
    intro v1 M ta out hf
    rw [f_X7_thinks_L2] at hf
    have i9 : ∀ w ∈ wsX70, w ∈ wsX7_thinks := by decide +kernel
    refine x_iload_n C 1 dX7_thinks_2 rfl ?_
    refine x_sipush (v := 159) C dX7_thinks_3 (by decide) ?_
    refine x_icmp_ge C 27 dX7_thinks_6 (by decide) (fun hc1 => ?_) (fun hc1 => ?_)
    · have hf := x_ip hc1 hf
      obtain rfl := Option.some.inj hf
      exact x_vret C hr hlk dX7_thinks_27
    · have hf := x_ine hc1 hf
      refine x_aload_n C 0 dX7_thinks_9 rfl ?_
      refine x_get9 C xkd_9 i9 2 (by decide) (by decide +kernel) rfl rfl dX7_thinks_10 ?_
      refine x_iload_n C 1 dX7_thinks_13 rfl ?_
      refine x_aload_n C 0 dX7_thinks_14 rfl ?_
      refine x_get9 C xkd_9 i9 0 (by decide) (by decide +kernel) rfl rfl dX7_thinks_15 ?_
      refine x_iload_n C 1 dX7_thinks_18 rfl ?_
      obtain ⟨g2, hf⟩ := x_gd hf
      refine x_iald C xkd_10 xl_10 g2 dX7_thinks_19 ?_
      obtain ⟨g3, hf⟩ := x_gd hf
      refine x_iast C xkd_12 xl_12 g3 dX7_thinks_20 ?_
      obtain ⟨M4, e5, hf⟩ := x_lt hf
      rw [← e5]
      clear e5
      refine x_iinc (v := v1 + 1) (lv' := [(1, .int (v1 + 1)), (0, .ref (xad G 9))]) C 1 dX7_thinks_21 rfl rfl (by decide) rfl ?_
      refine x_goto C 2 dX7_thinks_24 (by decide) ?_
      refine x_sub [1, 0] rfl ?_
      exact ih (v1 + 1) M4 _ _ hf
set_option maxHeartbeats 4000000 in
set_option maxRecDepth 100000 in
theorem t_X7_thinks {l : Launch} {G : xG} {ta : Nat × Nat} {M : xM} {out : xM} (hf : f_X7_thinks M = some out) : xMet G l yX7_thinks wsX7_thinks (rm_X7_thinks 0 0) 0 0 ta M [.ref (xad G 9)] none out := by
  refine x_met (cc := cX7_thinks) (nL := 2) (ret := none) (by decide) rfl (Nat.le_of_ble_eq_true rfl) ?_
  intro p e s m args below meth c C hr hlk
  have C : xC G p s m args c cX7_thinks 2 wsX7_thinks RX7 := C
  have i9 : ∀ w ∈ wsX70, w ∈ wsX7_thinks := by decide +kernel
  unfold f_X7_thinks at hf
  show xW G p l e (rm_X7_thinks 0 0) s m args below meth c 2 (MQ below (xQr G none out) args s 0 0 (xAs G)) 0 0 ta M 0 [(0, .ref (xad G 9))] []
  refine x_iconst (v := 0) C dX7_thinks_0 (by decide) ?_
  refine x_istore_n (lv' := [(1, .int (0 : Int32)), (0, .ref (xad G 9))]) C dX7_thinks_1 rfl (by decide) rfl ?_
  refine x_sub [1, 0] rfl ?_
  exact t_X7_thinks_L2 C hr hlk xF (0 : Int32) M _ _ hf
/-! WaitingRoomSimulationModel.thinksNoMore()V -/
abbrev rm_X7_thinksNoMore (c s : Nat) : Room := { frames := 0, cells := c, slots := s, locals := 0 }
def f_X7_thinksNoMore_L2 : Nat → Int32 → xM → Option (xM)
  | 0, _, _ => none
  | n+1, v1, M => (if (159 : Int32) ≤ v1 then some M else if x_in v1 159 = true then if x_in v1 159 = true then x_let (sI M 10 v1.toNatClampNeg (M.1 12 v1.toNatClampNeg)) fun M4 => f_X7_thinksNoMore_L2 n (v1 + 1) M4 else none else none)
def f_X7_thinksNoMore (M : xM) : Option (xM) := f_X7_thinksNoMore_L2 xF (0 : Int32) M
set_option maxHeartbeats 4000000 in
set_option maxRecDepth 100000 in
theorem t_X7_thinksNoMore_L2 {G : xG} {p : Program} {l : Launch} {e : Env} {s : State} {m : MethodId} {args : Array Value} {below : List Frame} {meth : Method} {c : Code} (C : xC G p s m args c cX7_thinksNoMore 2 wsX7_thinksNoMore RX7) (hr : meth.sig.returnType = none) (hlk : meth.locks = false) : ∀ (n : Nat) (v1 : Int32) (M : xM) (ta : Nat × Nat) (out : xM), f_X7_thinksNoMore_L2 n v1 M = some out → xW G p l e (rm_X7_thinksNoMore 0 0) s m args below meth c 2 (MQ below (xQr G none out) args s 0 0 (xAs G)) 0 0 ta M 2 [(0, .ref (xad G 9)), (1, .int v1)] [] := by
  intro n
  induction n with
  | zero =>
    intro v1 M ta out hf
    rw [f_X7_thinksNoMore_L2] at hf
    cases hf
  | succ n ih =>
    intro v1 M ta out hf
    rw [f_X7_thinksNoMore_L2] at hf
    have i9 : ∀ w ∈ wsX70, w ∈ wsX7_thinksNoMore := by decide +kernel
    refine x_iload_n C 1 dX7_thinksNoMore_2 rfl ?_
    refine x_sipush (v := 159) C dX7_thinksNoMore_3 (by decide) ?_
    refine x_icmp_ge C 27 dX7_thinksNoMore_6 (by decide) (fun hc1 => ?_) (fun hc1 => ?_)
    · have hf := x_ip hc1 hf
      obtain rfl := Option.some.inj hf
      exact x_vret C hr hlk dX7_thinksNoMore_27
    · have hf := x_ine hc1 hf
      refine x_aload_n C 0 dX7_thinksNoMore_9 rfl ?_
      refine x_get9 C xkd_9 i9 0 (by decide) (by decide +kernel) rfl rfl dX7_thinksNoMore_10 ?_
      refine x_iload_n C 1 dX7_thinksNoMore_13 rfl ?_
      refine x_aload_n C 0 dX7_thinksNoMore_14 rfl ?_
      refine x_get9 C xkd_9 i9 2 (by decide) (by decide +kernel) rfl rfl dX7_thinksNoMore_15 ?_
      refine x_iload_n C 1 dX7_thinksNoMore_18 rfl ?_
      obtain ⟨g2, hf⟩ := x_gd hf
      refine x_iald C xkd_12 xl_12 g2 dX7_thinksNoMore_19 ?_
      obtain ⟨g3, hf⟩ := x_gd hf
      refine x_iast C xkd_10 xl_10 g3 dX7_thinksNoMore_20 ?_
      obtain ⟨M4, e5, hf⟩ := x_lt hf
      rw [← e5]
      clear e5
      refine x_iinc (v := v1 + 1) (lv' := [(1, .int (v1 + 1)), (0, .ref (xad G 9))]) C 1 dX7_thinksNoMore_21 rfl rfl (by decide) rfl ?_
      refine x_goto C 2 dX7_thinksNoMore_24 (by decide) ?_
      refine x_sub [1, 0] rfl ?_
      exact ih (v1 + 1) M4 _ _ hf
set_option maxHeartbeats 4000000 in
set_option maxRecDepth 100000 in
theorem t_X7_thinksNoMore {l : Launch} {G : xG} {ta : Nat × Nat} {M : xM} {out : xM} (hf : f_X7_thinksNoMore M = some out) : xMet G l yX7_thinksNoMore wsX7_thinksNoMore (rm_X7_thinksNoMore 0 0) 0 0 ta M [.ref (xad G 9)] none out := by
  refine x_met (cc := cX7_thinksNoMore) (nL := 2) (ret := none) (by decide) rfl (Nat.le_of_ble_eq_true rfl) ?_
  intro p e s m args below meth c C hr hlk
  have C : xC G p s m args c cX7_thinksNoMore 2 wsX7_thinksNoMore RX7 := C
  have i9 : ∀ w ∈ wsX70, w ∈ wsX7_thinksNoMore := by decide +kernel
  unfold f_X7_thinksNoMore at hf
  show xW G p l e (rm_X7_thinksNoMore 0 0) s m args below meth c 2 (MQ below (xQr G none out) args s 0 0 (xAs G)) 0 0 ta M 0 [(0, .ref (xad G 9))] []
  refine x_iconst (v := 0) C dX7_thinksNoMore_0 (by decide) ?_
  refine x_istore_n (lv' := [(1, .int (0 : Int32)), (0, .ref (xad G 9))]) C dX7_thinksNoMore_1 rfl (by decide) rfl ?_
  refine x_sub [1, 0] rfl ?_
  exact t_X7_thinksNoMore_L2 C hr hlk xF (0 : Int32) M _ _ hf
/-! WaitingRoomSimulationModel.withNumber(I)I -/
abbrev rm_X7_withNumber (c s : Nat) : Room := { frames := 1, cells := c, slots := s, locals := 20 }
def f_X7_withNumber_L2 (v1 : Int32) (M : xM) : Nat → Int32 → Option (Int32)
  | 0, _ => none
  | n+1, v2 => if x_in (0 : Int32) 159 = true then (if (M.1 10 (0 : Int32).toNatClampNeg) ≤ v2 then some (-1 : Int32) else (f_X7_personAt v2 M).bind fun q3 => if x_in q3 159 = true then (if (M.1 10 q3.toNatClampNeg) = v1 then some v2 else f_X7_withNumber_L2 v1 M n (v2 + 1)) else none) else none
def f_X7_withNumber (a1 : Int32) (M : xM) : Option (Int32) := f_X7_withNumber_L2 a1 M xF (0 : Int32)
set_option maxHeartbeats 4000000 in
set_option maxRecDepth 100000 in
theorem t_X7_withNumber_L2 {G : xG} {p : Program} {l : Launch} {e : Env} {s : State} {m : MethodId} {args : Array Value} {below : List Frame} {meth : Method} {c : Code} (C : xC G p s m args c cX7_withNumber 3 wsX7_withNumber RX7) (hr : meth.sig.returnType = some .int) (hlk : meth.locks = false) {v1 : Int32} {M : xM} : ∀ (n : Nat) (v2 : Int32) (ta : Nat × Nat) (out : Int32), f_X7_withNumber_L2 v1 M n v2 = some out → xW G p l e (rm_X7_withNumber 0 0) s m args below meth c 3 (MQ below (xQr G (some (.int out)) M) args s 0 0 (xAs G)) 0 0 ta M 2 [(0, .ref (xad G 9)), (1, .int v1), (2, .int v2)] [] := by
  intro n
  induction n with
  | zero =>
    intro v2 ta out hf
    rw [f_X7_withNumber_L2] at hf
    cases hf
  | succ n ih =>
    intro v2 ta out hf
    rw [f_X7_withNumber_L2] at hf
    have i9 : ∀ w ∈ wsX70, w ∈ wsX7_withNumber := by decide +kernel
    refine x_iload_n C 2 dX7_withNumber_2 rfl ?_
    refine x_aload_n C 0 dX7_withNumber_3 rfl ?_
    refine x_get9 C xkd_9 i9 0 (by decide) (by decide +kernel) rfl rfl dX7_withNumber_4 ?_
    refine x_iconst (v := 0) C dX7_withNumber_7 (by decide) ?_
    obtain ⟨g1, hf⟩ := x_gd hf
    refine x_iald C xkd_10 xl_10 g1 dX7_withNumber_8 ?_
    refine x_icmp_ge C 33 dX7_withNumber_9 (by decide) (fun hc2 => ?_) (fun hc2 => ?_)
    · have hf := x_ip hc2 hf
      refine x_iconst (v := (-1)) C dX7_withNumber_33 (by decide) ?_
      obtain rfl := Option.some.inj hf
      exact x_iret C hr hlk dX7_withNumber_34
    · have hf := x_ine hc2 hf
      refine x_aload_n C 0 dX7_withNumber_12 rfl ?_
      refine x_get9 C xkd_9 i9 0 (by decide) (by decide +kernel) rfl rfl dX7_withNumber_13 ?_
      refine x_iload_n C 2 dX7_withNumber_16 rfl ?_
      obtain ⟨q3, hg, hf⟩ := x_bd hf
      refine x_callSr C (t_X7_personAt hg) (va_cwS 1 C.1.2.2.2.2 gX7_withNumber_X7_personAt rfl rfl rfl (by decide +kernel) ⟨Nat.le_of_ble_eq_true rfl, Nat.le_of_ble_eq_true rfl⟩) rfl rfl (Nat.le_of_ble_eq_true rfl) dX7_withNumber_17 ⟨Nat.zero_le _, Nat.zero_le _⟩ (fun ta4 => ?_)
      clear hg
      obtain ⟨g5, hf⟩ := x_gd hf
      refine x_iald C xkd_10 xl_10 g5 dX7_withNumber_20 ?_
      refine x_iload_n C 1 dX7_withNumber_21 rfl ?_
      refine x_icmp_ne C 27 dX7_withNumber_22 (by decide) (fun hc6 => ?_) (fun hc6 => ?_)
      · have hf := x_ine hc6 hf
        refine x_iinc (v := v2 + 1) (lv' := [(2, .int (v2 + 1)), (0, .ref (xad G 9)), (1, .int v1)]) C 2 dX7_withNumber_27 rfl rfl (by decide) rfl ?_
        refine x_goto C 2 dX7_withNumber_30 (by decide) ?_
        refine x_sub [1, 2, 0] rfl ?_
        exact ih (v2 + 1) _ _ hf
      · have hf := x_ip hc6 hf
        refine x_iload_n C 2 dX7_withNumber_25 rfl ?_
        obtain rfl := Option.some.inj hf
        exact x_iret C hr hlk dX7_withNumber_26
set_option maxHeartbeats 4000000 in
set_option maxRecDepth 100000 in
theorem t_X7_withNumber {l : Launch} {G : xG} {ta : Nat × Nat} {M : xM} {a1 : Int32} {out : Int32} (hf : f_X7_withNumber a1 M = some out) : xMet G l yX7_withNumber wsX7_withNumber (rm_X7_withNumber 0 0) 0 0 ta M [.ref (xad G 9), .int a1] (some (.int out)) M := by
  refine x_met (cc := cX7_withNumber) (nL := 3) (ret := some .int) (by decide) rfl (Nat.le_of_ble_eq_true rfl) ?_
  intro p e s m args below meth c C hr hlk
  have C : xC G p s m args c cX7_withNumber 3 wsX7_withNumber RX7 := C
  have i9 : ∀ w ∈ wsX70, w ∈ wsX7_withNumber := by decide +kernel
  unfold f_X7_withNumber at hf
  show xW G p l e (rm_X7_withNumber 0 0) s m args below meth c 3 (MQ below (xQr G (some (.int out)) M) args s 0 0 (xAs G)) 0 0 ta M 0 [(0, .ref (xad G 9)), (1, .int a1)] []
  refine x_iconst (v := 0) C dX7_withNumber_0 (by decide) ?_
  refine x_istore_n (lv' := [(2, .int (0 : Int32)), (0, .ref (xad G 9)), (1, .int a1)]) C dX7_withNumber_1 rfl (by decide) rfl ?_
  refine x_sub [1, 2, 0] rfl ?_
  exact t_X7_withNumber_L2 C hr hlk xF (0 : Int32) _ _ hf
/-! WaitingRoomSimulationModel.minutesUntilWindow(I)I -/
abbrev rm_X7_minutesUntilWindow (c s : Nat) : Room := { frames := 5, cells := c, slots := s, locals := 109 }
def f_X7_minutesUntilWindow_J91 (v4 : Int32) (M : xM) : Option (Int32 × xM) := (f_X7_thinksNoMore M).bind fun q13 => (if (0 : Int32) = 0 then (f_X7_throwing (2 : Int32) q13).bind fun q16 => some (q16.1, q16.2) else some (v4, q13))
def f_X7_minutesUntilWindow_J74 (v3 : Int32) (v4 : Int32) (M : xM) : Option (Int32 × xM) := (if v3 = (-1 : Int32) then f_X7_minutesUntilWindow_J91 v4 M else (f_X7_isAtWindow v3 M).bind fun q18 => (if q18 = 0 then f_X7_minutesUntilWindow_J91 v4 M else (f_X7_thinksNoMore M).bind fun q21 => (if (1 : Int32) = 0 then (f_X7_throwing (2 : Int32) q21).bind fun q24 => some (q24.1, q24.2) else some (v4, q21))))
def f_X7_minutesUntilWindow_L38 (v2 : Int32) : Nat → Int32 → Int32 → xM → Option (Int32 × xM)
  | 0, _, _, _ => none
  | n+1, v3, v4, M => (if v3 = (-1 : Int32) then f_X7_minutesUntilWindow_J74 v3 v4 M else (f_X7_isAtWindow v3 M).bind fun q26 => (if q26 = 0 then (if (60 : Int32) ≤ v4 then f_X7_minutesUntilWindow_J74 v3 v4 M else (f_X7_passes M).bind fun q30 => (f_X7_withNumber v2 q30).bind fun q32 => f_X7_minutesUntilWindow_L38 v2 n q32 (v4 + 1) q30) else f_X7_minutesUntilWindow_J74 v3 v4 M))
def f_X7_minutesUntilWindow (a1 : Int32) (M : xM) : Option (Int32 × xM) := x_let (sI M 9 9 (0 : Int32)) fun M1 => (f_X7_isHere a1 M1).bind fun q3 => (if q3 = 0 then (f_X7_throwing (1 : Int32) M1).bind fun q34 => some (q34.1, q34.2) else (f_X7_thinks M1).bind fun q6 => (f_X7_personAt a1 q6).bind fun q8 => if x_in q8 159 = true then f_X7_minutesUntilWindow_L38 (q6.1 10 q8.toNatClampNeg) xF a1 (0 : Int32) q6 else none)
set_option maxHeartbeats 4000000 in
set_option maxRecDepth 100000 in
theorem t_X7_minutesUntilWindow_J91 {G : xG} {p : Program} {l : Launch} {e : Env} {s : State} {m : MethodId} {args : Array Value} {below : List Frame} {meth : Method} {c : Code} (C : xC G p s m args c cX7_minutesUntilWindow 6 wsX7_minutesUntilWindow RX7) (hr : meth.sig.returnType = some .int) (hlk : meth.locks = false) {v4 : Int32} {M : xM} {ta : Nat × Nat} {out : Int32 × xM} (hf : f_X7_minutesUntilWindow_J91 v4 M = some out) : xW G p l e (rm_X7_minutesUntilWindow 0 0) s m args below meth c 6 (MQ below (xQr G (some (.int out.1)) out.2) args s 0 0 (xAs G)) 0 0 ta M 91 [(0, .ref (xad G 9)), (4, .int v4)] [] := by
  unfold f_X7_minutesUntilWindow_J91 at hf
  have i9 : ∀ w ∈ wsX70, w ∈ wsX7_minutesUntilWindow := by decide +kernel
  refine x_iconst (v := 0) C dX7_minutesUntilWindow_91 (by decide) ?_
  refine x_istore (lv' := [(5, .int (0 : Int32)), (0, .ref (xad G 9)), (4, .int v4)]) C dX7_minutesUntilWindow_92 (by decide) rfl ?_
  refine x_aload_n C 1 dX7_minutesUntilWindow_94 rfl ?_
  obtain ⟨q13, hg, hf⟩ := x_bd hf
  refine x_callVv C (by rw [xkd_9]; decide) (by rw [xkd_9]; decide) (xc9 xkd_9) rfl (t_X7_thinksNoMore hg) (cwV 0 C.1.2.2.2.2 gX7_minutesUntilWindow_X7_thinksNoMore rfl rfl rfl (by decide +kernel) ⟨Nat.le_of_ble_eq_true rfl, Nat.le_of_ble_eq_true rfl⟩) rfl rfl (Nat.le_of_ble_eq_true rfl) dX7_minutesUntilWindow_95 ⟨Nat.zero_le _, Nat.zero_le _⟩ (fun ta14 => ?_)
  clear hg
  refine x_iload C 0 dX7_minutesUntilWindow_98 rfl ?_
  refine x_if_eq C 108 dX7_minutesUntilWindow_100 (by decide) (fun hc15 => ?_) (fun hc15 => ?_)
  · have hf := x_ip hc15 hf
    refine x_aload_n C 1 dX7_minutesUntilWindow_108 rfl ?_
    refine x_iconst (v := 2) C dX7_minutesUntilWindow_109 (by decide) ?_
    obtain ⟨q16, hg, hf⟩ := x_bd hf
    refine x_callVr C (by rw [xkd_9]; decide) (by rw [xkd_9]; decide) (xc9 xkd_9) rfl (t_X7_throwing hg) (cwV 1 C.1.2.2.2.2 gX7_minutesUntilWindow_X7_throwing rfl rfl rfl (by decide +kernel) ⟨Nat.le_of_ble_eq_true rfl, Nat.le_of_ble_eq_true rfl⟩) rfl rfl (Nat.le_of_ble_eq_true rfl) dX7_minutesUntilWindow_110 ⟨Nat.zero_le _, Nat.zero_le _⟩ (fun ta17 => ?_)
    clear hg
    obtain rfl := Option.some.inj hf
    exact x_iret C hr hlk dX7_minutesUntilWindow_113
  · have hf := x_ine hc15 hf
    refine x_iload C 2 dX7_minutesUntilWindow_103 rfl ?_
    refine x_goto C 113 dX7_minutesUntilWindow_105 (by decide) ?_
    obtain rfl := Option.some.inj hf
    exact x_iret C hr hlk dX7_minutesUntilWindow_113
set_option maxHeartbeats 4000000 in
set_option maxRecDepth 100000 in
theorem t_X7_minutesUntilWindow_J74 {G : xG} {p : Program} {l : Launch} {e : Env} {s : State} {m : MethodId} {args : Array Value} {below : List Frame} {meth : Method} {c : Code} (C : xC G p s m args c cX7_minutesUntilWindow 6 wsX7_minutesUntilWindow RX7) (hr : meth.sig.returnType = some .int) (hlk : meth.locks = false) {v3 : Int32} {v4 : Int32} {M : xM} {ta : Nat × Nat} {out : Int32 × xM} (hf : f_X7_minutesUntilWindow_J74 v3 v4 M = some out) : xW G p l e (rm_X7_minutesUntilWindow 0 0) s m args below meth c 6 (MQ below (xQr G (some (.int out.1)) out.2) args s 0 0 (xAs G)) 0 0 ta M 74 [(0, .ref (xad G 9)), (3, .int v3), (4, .int v4)] [] := by
  unfold f_X7_minutesUntilWindow_J74 at hf
  have i9 : ∀ w ∈ wsX70, w ∈ wsX7_minutesUntilWindow := by decide +kernel
  refine x_iload_n C 1 dX7_minutesUntilWindow_74 rfl ?_
  refine x_iconst (v := (-1)) C dX7_minutesUntilWindow_75 (by decide) ?_
  refine x_icmp_eq C 91 dX7_minutesUntilWindow_76 (by decide) (fun hc12 => ?_) (fun hc12 => ?_)
  · have hf := x_ip hc12 hf
    refine x_sub [0, 2] rfl ?_
    exact t_X7_minutesUntilWindow_J91 C hr hlk hf
  · have hf := x_ine hc12 hf
    refine x_aload_n C 0 dX7_minutesUntilWindow_79 rfl ?_
    refine x_iload_n C 1 dX7_minutesUntilWindow_80 rfl ?_
    obtain ⟨q18, hg, hf⟩ := x_bd hf
    refine x_callVr C (by rw [xkd_9]; decide) (by rw [xkd_9]; decide) (xc9 xkd_9) rfl (t_X7_isAtWindow hg) (cwV 1 C.1.2.2.2.2 gX7_minutesUntilWindow_X7_isAtWindow rfl rfl rfl (by decide +kernel) ⟨Nat.le_of_ble_eq_true rfl, Nat.le_of_ble_eq_true rfl⟩) rfl rfl (Nat.le_of_ble_eq_true rfl) dX7_minutesUntilWindow_81 ⟨Nat.zero_le _, Nat.zero_le _⟩ (fun ta19 => ?_)
    clear hg
    refine x_if_eq C 91 dX7_minutesUntilWindow_84 (by decide) (fun hc20 => ?_) (fun hc20 => ?_)
    · have hf := x_ip hc20 hf
      refine x_sub [0, 2] rfl ?_
      exact t_X7_minutesUntilWindow_J91 C hr hlk hf
    · have hf := x_ine hc20 hf
      refine x_iconst (v := 1) C dX7_minutesUntilWindow_87 (by decide) ?_
      refine x_goto C 92 dX7_minutesUntilWindow_88 (by decide) ?_
      refine x_istore (lv' := [(5, .int (1 : Int32)), (0, .ref (xad G 9)), (3, .int v3), (4, .int v4)]) C dX7_minutesUntilWindow_92 (by decide) rfl ?_
      refine x_aload_n C 1 dX7_minutesUntilWindow_94 rfl ?_
      obtain ⟨q21, hg, hf⟩ := x_bd hf
      refine x_callVv C (by rw [xkd_9]; decide) (by rw [xkd_9]; decide) (xc9 xkd_9) rfl (t_X7_thinksNoMore hg) (cwV 0 C.1.2.2.2.2 gX7_minutesUntilWindow_X7_thinksNoMore rfl rfl rfl (by decide +kernel) ⟨Nat.le_of_ble_eq_true rfl, Nat.le_of_ble_eq_true rfl⟩) rfl rfl (Nat.le_of_ble_eq_true rfl) dX7_minutesUntilWindow_95 ⟨Nat.zero_le _, Nat.zero_le _⟩ (fun ta22 => ?_)
      clear hg
      refine x_iload C 0 dX7_minutesUntilWindow_98 rfl ?_
      refine x_if_eq C 108 dX7_minutesUntilWindow_100 (by decide) (fun hc23 => ?_) (fun hc23 => ?_)
      · have hf := x_ip hc23 hf
        refine x_aload_n C 1 dX7_minutesUntilWindow_108 rfl ?_
        refine x_iconst (v := 2) C dX7_minutesUntilWindow_109 (by decide) ?_
        obtain ⟨q24, hg, hf⟩ := x_bd hf
        refine x_callVr C (by rw [xkd_9]; decide) (by rw [xkd_9]; decide) (xc9 xkd_9) rfl (t_X7_throwing hg) (cwV 1 C.1.2.2.2.2 gX7_minutesUntilWindow_X7_throwing rfl rfl rfl (by decide +kernel) ⟨Nat.le_of_ble_eq_true rfl, Nat.le_of_ble_eq_true rfl⟩) rfl rfl (Nat.le_of_ble_eq_true rfl) dX7_minutesUntilWindow_110 ⟨Nat.zero_le _, Nat.zero_le _⟩ (fun ta25 => ?_)
        clear hg
        obtain rfl := Option.some.inj hf
        exact x_iret C hr hlk dX7_minutesUntilWindow_113
      · have hf := x_ine hc23 hf
        refine x_iload C 3 dX7_minutesUntilWindow_103 rfl ?_
        refine x_goto C 113 dX7_minutesUntilWindow_105 (by decide) ?_
        obtain rfl := Option.some.inj hf
        exact x_iret C hr hlk dX7_minutesUntilWindow_113
set_option maxHeartbeats 4000000 in
set_option maxRecDepth 100000 in
theorem t_X7_minutesUntilWindow_L38 {G : xG} {p : Program} {l : Launch} {e : Env} {s : State} {m : MethodId} {args : Array Value} {below : List Frame} {meth : Method} {c : Code} (C : xC G p s m args c cX7_minutesUntilWindow 6 wsX7_minutesUntilWindow RX7) (hr : meth.sig.returnType = some .int) (hlk : meth.locks = false) {v2 : Int32} : ∀ (n : Nat) (v3 : Int32) (v4 : Int32) (M : xM) (ta : Nat × Nat) (out : Int32 × xM), f_X7_minutesUntilWindow_L38 v2 n v3 v4 M = some out → xW G p l e (rm_X7_minutesUntilWindow 0 0) s m args below meth c 6 (MQ below (xQr G (some (.int out.1)) out.2) args s 0 0 (xAs G)) 0 0 ta M 38 [(0, .ref (xad G 9)), (2, .int v2), (3, .int v3), (4, .int v4)] [] := by
  intro n
  induction n with
  | zero =>
    intro v3 v4 M ta out hf
    rw [f_X7_minutesUntilWindow_L38] at hf
    cases hf
  | succ n ih =>
    intro v3 v4 M ta out hf
    rw [f_X7_minutesUntilWindow_L38] at hf
    have i9 : ∀ w ∈ wsX70, w ∈ wsX7_minutesUntilWindow := by decide +kernel
    refine x_iload_n C 2 dX7_minutesUntilWindow_38 rfl ?_
    refine x_iconst (v := (-1)) C dX7_minutesUntilWindow_39 (by decide) ?_
    refine x_icmp_eq C 74 dX7_minutesUntilWindow_40 (by decide) (fun hc11 => ?_) (fun hc11 => ?_)
    · have hf := x_ip hc11 hf
      refine x_sub [0, 2, 3] rfl ?_
      exact t_X7_minutesUntilWindow_J74 C hr hlk hf
    · have hf := x_ine hc11 hf
      refine x_aload_n C 0 dX7_minutesUntilWindow_43 rfl ?_
      refine x_iload_n C 2 dX7_minutesUntilWindow_44 rfl ?_
      obtain ⟨q26, hg, hf⟩ := x_bd hf
      refine x_callVr C (by rw [xkd_9]; decide) (by rw [xkd_9]; decide) (xc9 xkd_9) rfl (t_X7_isAtWindow hg) (cwV 1 C.1.2.2.2.2 gX7_minutesUntilWindow_X7_isAtWindow rfl rfl rfl (by decide +kernel) ⟨Nat.le_of_ble_eq_true rfl, Nat.le_of_ble_eq_true rfl⟩) rfl rfl (Nat.le_of_ble_eq_true rfl) dX7_minutesUntilWindow_45 ⟨Nat.zero_le _, Nat.zero_le _⟩ (fun ta27 => ?_)
      clear hg
      refine x_if_ne C 74 dX7_minutesUntilWindow_48 (by decide) (fun hc28 => ?_) (fun hc28 => ?_)
      · have hf := x_ine hc28 hf
        refine x_sub [0, 2, 3] rfl ?_
        exact t_X7_minutesUntilWindow_J74 C hr hlk hf
      · have hf := x_ip hc28 hf
        refine x_iload C 3 dX7_minutesUntilWindow_51 rfl ?_
        refine x_bipush (v := 60) C dX7_minutesUntilWindow_53 (by decide) ?_
        refine x_icmp_ge C 74 dX7_minutesUntilWindow_55 (by decide) (fun hc29 => ?_) (fun hc29 => ?_)
        · have hf := x_ip hc29 hf
          refine x_sub [0, 2, 3] rfl ?_
          exact t_X7_minutesUntilWindow_J74 C hr hlk hf
        · have hf := x_ine hc29 hf
          refine x_aload_n C 0 dX7_minutesUntilWindow_58 rfl ?_
          obtain ⟨q30, hg, hf⟩ := x_bd hf
          refine x_callVv C (by rw [xkd_9]; decide) (by rw [xkd_9]; decide) (xc9 xkd_9) rfl (t_X7_passes hg) (cwV 0 C.1.2.2.2.2 gX7_minutesUntilWindow_X7_passes rfl rfl rfl (by decide +kernel) ⟨Nat.le_of_ble_eq_true rfl, Nat.le_of_ble_eq_true rfl⟩) rfl rfl (Nat.le_of_ble_eq_true rfl) dX7_minutesUntilWindow_59 ⟨Nat.zero_le _, Nat.zero_le _⟩ (fun ta31 => ?_)
          clear hg
          refine x_iinc (v := v4 + 1) (lv' := [(4, .int (v4 + 1)), (0, .ref (xad G 9)), (2, .int v2), (3, .int v3)]) C 3 dX7_minutesUntilWindow_62 rfl rfl (by decide) rfl ?_
          refine x_aload_n C 1 dX7_minutesUntilWindow_65 rfl ?_
          refine x_iload_n C 2 dX7_minutesUntilWindow_66 rfl ?_
          obtain ⟨q32, hg, hf⟩ := x_bd hf
          refine x_callVr C (by rw [xkd_9]; decide) (by rw [xkd_9]; decide) (xc9 xkd_9) rfl (t_X7_withNumber hg) (cwV 1 C.1.2.2.2.2 gX7_minutesUntilWindow_X7_withNumber rfl rfl rfl (by decide +kernel) ⟨Nat.le_of_ble_eq_true rfl, Nat.le_of_ble_eq_true rfl⟩) rfl rfl (Nat.le_of_ble_eq_true rfl) dX7_minutesUntilWindow_67 ⟨Nat.zero_le _, Nat.zero_le _⟩ (fun ta33 => ?_)
          clear hg
          refine x_istore_n (lv' := [(3, .int q32), (4, .int (v4 + 1)), (0, .ref (xad G 9)), (2, .int v2)]) C dX7_minutesUntilWindow_70 rfl (by decide) rfl ?_
          refine x_goto C 38 dX7_minutesUntilWindow_71 (by decide) ?_
          refine x_sub [2, 3, 0, 1] rfl ?_
          exact ih q32 (v4 + 1) q30 _ _ hf
set_option maxHeartbeats 4000000 in
set_option maxRecDepth 100000 in
theorem t_X7_minutesUntilWindow {l : Launch} {G : xG} {ta : Nat × Nat} {M : xM} {a1 : Int32} {out : Int32 × xM} (hf : f_X7_minutesUntilWindow a1 M = some out) : xMet G l yX7_minutesUntilWindow wsX7_minutesUntilWindow (rm_X7_minutesUntilWindow 0 0) 0 0 ta M [.ref (xad G 9), .int a1] (some (.int out.1)) out.2 := by
  refine x_met (cc := cX7_minutesUntilWindow) (nL := 6) (ret := some .int) (by decide) rfl (Nat.le_of_ble_eq_true rfl) ?_
  intro p e s m args below meth c C hr hlk
  have C : xC G p s m args c cX7_minutesUntilWindow 6 wsX7_minutesUntilWindow RX7 := C
  have i9 : ∀ w ∈ wsX70, w ∈ wsX7_minutesUntilWindow := by decide +kernel
  unfold f_X7_minutesUntilWindow at hf
  show xW G p l e (rm_X7_minutesUntilWindow 0 0) s m args below meth c 6 (MQ below (xQr G (some (.int out.1)) out.2) args s 0 0 (xAs G)) 0 0 ta M 0 [(0, .ref (xad G 9)), (1, .int a1)] []
  refine x_aload_n C 0 dX7_minutesUntilWindow_0 rfl ?_
  refine x_iconst (v := 0) C dX7_minutesUntilWindow_1 (by decide) ?_
  refine x_put9 C xkd_9 i9 9 (by decide) (by decide +kernel) dX7_minutesUntilWindow_2 ?_
  obtain ⟨M1, e2, hf⟩ := x_lt hf
  rw [← e2]
  clear e2
  refine x_aload_n C 0 dX7_minutesUntilWindow_5 rfl ?_
  refine x_iload_n C 1 dX7_minutesUntilWindow_6 rfl ?_
  obtain ⟨q3, hg, hf⟩ := x_bd hf
  refine x_callVr C (by rw [xkd_9]; decide) (by rw [xkd_9]; decide) (xc9 xkd_9) rfl (t_X7_isHere hg) (cwV 1 C.1.2.2.2.2 gX7_minutesUntilWindow_X7_isHere rfl rfl rfl (by decide +kernel) ⟨Nat.le_of_ble_eq_true rfl, Nat.le_of_ble_eq_true rfl⟩) rfl rfl (Nat.le_of_ble_eq_true rfl) dX7_minutesUntilWindow_7 ⟨Nat.zero_le _, Nat.zero_le _⟩ (fun ta4 => ?_)
  clear hg
  refine x_if_ne C 19 dX7_minutesUntilWindow_10 (by decide) (fun hc5 => ?_) (fun hc5 => ?_)
  · have hf := x_ine hc5 hf
    refine x_aload_n C 0 dX7_minutesUntilWindow_19 rfl ?_
    obtain ⟨q6, hg, hf⟩ := x_bd hf
    refine x_callVv C (by rw [xkd_9]; decide) (by rw [xkd_9]; decide) (xc9 xkd_9) rfl (t_X7_thinks hg) (cwV 0 C.1.2.2.2.2 gX7_minutesUntilWindow_X7_thinks rfl rfl rfl (by decide +kernel) ⟨Nat.le_of_ble_eq_true rfl, Nat.le_of_ble_eq_true rfl⟩) rfl rfl (Nat.le_of_ble_eq_true rfl) dX7_minutesUntilWindow_20 ⟨Nat.zero_le _, Nat.zero_le _⟩ (fun ta7 => ?_)
    clear hg
    refine x_aload_n C 0 dX7_minutesUntilWindow_23 rfl ?_
    refine x_get9 C xkd_9 i9 0 (by decide) (by decide +kernel) rfl rfl dX7_minutesUntilWindow_24 ?_
    refine x_iload_n C 1 dX7_minutesUntilWindow_27 rfl ?_
    obtain ⟨q8, hg, hf⟩ := x_bd hf
    refine x_callSr C (t_X7_personAt hg) (va_cwS 1 C.1.2.2.2.2 gX7_minutesUntilWindow_X7_personAt rfl rfl rfl (by decide +kernel) ⟨Nat.le_of_ble_eq_true rfl, Nat.le_of_ble_eq_true rfl⟩) rfl rfl (Nat.le_of_ble_eq_true rfl) dX7_minutesUntilWindow_28 ⟨Nat.zero_le _, Nat.zero_le _⟩ (fun ta9 => ?_)
    clear hg
    obtain ⟨g10, hf⟩ := x_gd hf
    refine x_iald C xkd_10 xl_10 g10 dX7_minutesUntilWindow_31 ?_
    refine x_istore_n (lv' := [(2, .int (q6.1 10 q8.toNatClampNeg)), (0, .ref (xad G 9)), (1, .int a1)]) C dX7_minutesUntilWindow_32 rfl (by decide) rfl ?_
    refine x_iload_n C 2 dX7_minutesUntilWindow_33 rfl ?_
    refine x_istore_n (lv' := [(3, .int a1), (2, .int (q6.1 10 q8.toNatClampNeg)), (0, .ref (xad G 9)), (1, .int a1)]) C dX7_minutesUntilWindow_34 rfl (by decide) rfl ?_
    refine x_iconst (v := 0) C dX7_minutesUntilWindow_35 (by decide) ?_
    refine x_istore (lv' := [(4, .int (0 : Int32)), (3, .int a1), (2, .int (q6.1 10 q8.toNatClampNeg)), (0, .ref (xad G 9)), (1, .int a1)]) C dX7_minutesUntilWindow_36 (by decide) rfl ?_
    refine x_sub [3, 2, 1, 0] rfl ?_
    exact t_X7_minutesUntilWindow_L38 C hr hlk xF a1 (0 : Int32) q6 _ _ hf
  · have hf := x_ip hc5 hf
    refine x_aload_n C 0 dX7_minutesUntilWindow_13 rfl ?_
    refine x_iconst (v := 1) C dX7_minutesUntilWindow_14 (by decide) ?_
    obtain ⟨q34, hg, hf⟩ := x_bd hf
    refine x_callVr C (by rw [xkd_9]; decide) (by rw [xkd_9]; decide) (xc9 xkd_9) rfl (t_X7_throwing hg) (cwV 1 C.1.2.2.2.2 gX7_minutesUntilWindow_X7_throwing rfl rfl rfl (by decide +kernel) ⟨Nat.le_of_ble_eq_true rfl, Nat.le_of_ble_eq_true rfl⟩) rfl rfl (Nat.le_of_ble_eq_true rfl) dX7_minutesUntilWindow_15 ⟨Nat.zero_le _, Nat.zero_le _⟩ (fun ta35 => ?_)
    clear hg
    obtain rfl := Option.some.inj hf
    exact x_iret C hr hlk dX7_minutesUntilWindow_18
/-! WaitingRoomSimulationModel.patienceAfter(II)I -/
abbrev rm_X7_patienceAfter (c s : Nat) : Room := { frames := 5, cells := c, slots := s, locals := 109 }
def f_X7_patienceAfter_L54 (v2 : Int32) (v3 : Int32) : Nat → Int32 → xM → Option (Int32 × xM)
  | 0, _, _ => none
  | n+1, v4, M => (if v2 ≤ v4 then (f_X7_withNumber v3 M).bind fun q15 => (if q15 = (-1 : Int32) then (f_X7_thinksNoMore M).bind fun q26 => (if q15 = (-1 : Int32) then (f_X7_throwing (3 : Int32) q26).bind fun q29 => some (q29.1, q29.2) else some ((-1 : Int32), q26)) else (f_X7_personAt q15 M).bind fun q18 => if x_in (q18 + (1 : Int32)) 159 = true then (f_X7_thinksNoMore M).bind fun q21 => (if q15 = (-1 : Int32) then (f_X7_throwing (3 : Int32) q21).bind fun q24 => some (q24.1, q24.2) else some (M.1 10 (q18 + (1 : Int32)).toNatClampNeg, q21)) else none) else (f_X7_passes M).bind fun q31 => f_X7_patienceAfter_L54 v2 v3 n (v4 + 1) q31)
def f_X7_patienceAfter (a1 : Int32) (a2 : Int32) (M : xM) : Option (Int32 × xM) := x_let (sI M 9 9 (0 : Int32)) fun M1 => (f_X7_isHere a1 M1).bind fun q3 => (if q3 = 0 then (f_X7_throwing (1 : Int32) M1).bind fun q35 => some (q35.1, q35.2) else (f_X7_in a2.toInt64 (0 : Int64) (60 : Int64) M1).bind fun q6 => (if q6 = 0 then (f_X7_throwing (2 : Int32) M1).bind fun q33 => some (q33.1, q33.2) else (f_X7_thinks M1).bind fun q9 => (f_X7_personAt a1 q9).bind fun q11 => if x_in q11 159 = true then f_X7_patienceAfter_L54 a2 (q9.1 10 q11.toNatClampNeg) xF (0 : Int32) q9 else none))
set_option maxHeartbeats 4000000 in
set_option maxRecDepth 100000 in
theorem t_X7_patienceAfter_L54 {G : xG} {p : Program} {l : Launch} {e : Env} {s : State} {m : MethodId} {args : Array Value} {below : List Frame} {meth : Method} {c : Code} (C : xC G p s m args c cX7_patienceAfter 6 wsX7_patienceAfter RX7) (hr : meth.sig.returnType = some .int) (hlk : meth.locks = false) {v2 : Int32} {v3 : Int32} : ∀ (n : Nat) (v4 : Int32) (M : xM) (ta : Nat × Nat) (out : Int32 × xM), f_X7_patienceAfter_L54 v2 v3 n v4 M = some out → xW G p l e (rm_X7_patienceAfter 0 0) s m args below meth c 6 (MQ below (xQr G (some (.int out.1)) out.2) args s 0 0 (xAs G)) 0 0 ta M 54 [(0, .ref (xad G 9)), (2, .int v2), (3, .int v3), (4, .int v4)] [] := by
  intro n
  induction n with
  | zero =>
    intro v4 M ta out hf
    rw [f_X7_patienceAfter_L54] at hf
    cases hf
  | succ n ih =>
    intro v4 M ta out hf
    rw [f_X7_patienceAfter_L54] at hf
    have i9 : ∀ w ∈ wsX70, w ∈ wsX7_patienceAfter := by decide +kernel
    refine x_iload C 3 dX7_patienceAfter_54 rfl ?_
    refine x_iload_n C 1 dX7_patienceAfter_56 rfl ?_
    refine x_icmp_ge C 70 dX7_patienceAfter_57 (by decide) (fun hc14 => ?_) (fun hc14 => ?_)
    · have hf := x_ip hc14 hf
      refine x_aload_n C 0 dX7_patienceAfter_70 rfl ?_
      refine x_iload_n C 2 dX7_patienceAfter_71 rfl ?_
      obtain ⟨q15, hg, hf⟩ := x_bd hf
      refine x_callVr C (by rw [xkd_9]; decide) (by rw [xkd_9]; decide) (xc9 xkd_9) rfl (t_X7_withNumber hg) (cwV 1 C.1.2.2.2.2 gX7_patienceAfter_X7_withNumber rfl rfl rfl (by decide +kernel) ⟨Nat.le_of_ble_eq_true rfl, Nat.le_of_ble_eq_true rfl⟩) rfl rfl (Nat.le_of_ble_eq_true rfl) dX7_patienceAfter_72 ⟨Nat.zero_le _, Nat.zero_le _⟩ (fun ta16 => ?_)
      clear hg
      refine x_istore (lv' := [(4, .int q15), (0, .ref (xad G 9)), (2, .int v2), (3, .int v3)]) C dX7_patienceAfter_75 (by decide) rfl ?_
      refine x_iload C 0 dX7_patienceAfter_77 rfl ?_
      refine x_iconst (v := (-1)) C dX7_patienceAfter_79 (by decide) ?_
      refine x_icmp_ne C 87 dX7_patienceAfter_80 (by decide) (fun hc17 => ?_) (fun hc17 => ?_)
      · have hf := x_ine hc17 hf
        refine x_aload_n C 1 dX7_patienceAfter_87 rfl ?_
        refine x_get9 C xkd_9 i9 0 (by decide) (by decide +kernel) rfl rfl dX7_patienceAfter_88 ?_
        refine x_iload C 0 dX7_patienceAfter_91 rfl ?_
        obtain ⟨q18, hg, hf⟩ := x_bd hf
        refine x_callSr C (t_X7_personAt hg) (va_cwS 1 C.1.2.2.2.2 gX7_patienceAfter_X7_personAt rfl rfl rfl (by decide +kernel) ⟨Nat.le_of_ble_eq_true rfl, Nat.le_of_ble_eq_true rfl⟩) rfl rfl (Nat.le_of_ble_eq_true rfl) dX7_patienceAfter_93 ⟨Nat.zero_le _, Nat.zero_le _⟩ (fun ta19 => ?_)
        clear hg
        refine x_iconst (v := 1) C dX7_patienceAfter_96 (by decide) ?_
        refine x_iadd C dX7_patienceAfter_97 ?_
        obtain ⟨g20, hf⟩ := x_gd hf
        refine x_iald C xkd_10 xl_10 g20 dX7_patienceAfter_98 ?_
        refine x_istore (lv' := [(5, .int (M.1 10 (q18 + (1 : Int32)).toNatClampNeg)), (4, .int q15), (0, .ref (xad G 9)), (2, .int v2), (3, .int v3)]) C dX7_patienceAfter_99 (by decide) rfl ?_
        refine x_aload_n C 2 dX7_patienceAfter_101 rfl ?_
        obtain ⟨q21, hg, hf⟩ := x_bd hf
        refine x_callVv C (by rw [xkd_9]; decide) (by rw [xkd_9]; decide) (xc9 xkd_9) rfl (t_X7_thinksNoMore hg) (cwV 0 C.1.2.2.2.2 gX7_patienceAfter_X7_thinksNoMore rfl rfl rfl (by decide +kernel) ⟨Nat.le_of_ble_eq_true rfl, Nat.le_of_ble_eq_true rfl⟩) rfl rfl (Nat.le_of_ble_eq_true rfl) dX7_patienceAfter_102 ⟨Nat.zero_le _, Nat.zero_le _⟩ (fun ta22 => ?_)
        clear hg
        refine x_iload C 1 dX7_patienceAfter_105 rfl ?_
        refine x_iconst (v := (-1)) C dX7_patienceAfter_107 (by decide) ?_
        refine x_icmp_ne C 119 dX7_patienceAfter_108 (by decide) (fun hc23 => ?_) (fun hc23 => ?_)
        · have hf := x_ine hc23 hf
          refine x_iload C 0 dX7_patienceAfter_119 rfl ?_
          obtain rfl := Option.some.inj hf
          exact x_iret C hr hlk dX7_patienceAfter_121
        · have hf := x_ip hc23 hf
          refine x_aload_n C 2 dX7_patienceAfter_111 rfl ?_
          refine x_iconst (v := 3) C dX7_patienceAfter_112 (by decide) ?_
          obtain ⟨q24, hg, hf⟩ := x_bd hf
          refine x_callVr C (by rw [xkd_9]; decide) (by rw [xkd_9]; decide) (xc9 xkd_9) rfl (t_X7_throwing hg) (cwV 1 C.1.2.2.2.2 gX7_patienceAfter_X7_throwing rfl rfl rfl (by decide +kernel) ⟨Nat.le_of_ble_eq_true rfl, Nat.le_of_ble_eq_true rfl⟩) rfl rfl (Nat.le_of_ble_eq_true rfl) dX7_patienceAfter_113 ⟨Nat.zero_le _, Nat.zero_le _⟩ (fun ta25 => ?_)
          clear hg
          refine x_goto C 121 dX7_patienceAfter_116 (by decide) ?_
          obtain rfl := Option.some.inj hf
          exact x_iret C hr hlk dX7_patienceAfter_121
      · have hf := x_ip hc17 hf
        refine x_iconst (v := (-1)) C dX7_patienceAfter_83 (by decide) ?_
        refine x_goto C 99 dX7_patienceAfter_84 (by decide) ?_
        refine x_istore (lv' := [(5, .int (-1 : Int32)), (4, .int q15), (0, .ref (xad G 9)), (2, .int v2), (3, .int v3)]) C dX7_patienceAfter_99 (by decide) rfl ?_
        refine x_aload_n C 2 dX7_patienceAfter_101 rfl ?_
        obtain ⟨q26, hg, hf⟩ := x_bd hf
        refine x_callVv C (by rw [xkd_9]; decide) (by rw [xkd_9]; decide) (xc9 xkd_9) rfl (t_X7_thinksNoMore hg) (cwV 0 C.1.2.2.2.2 gX7_patienceAfter_X7_thinksNoMore rfl rfl rfl (by decide +kernel) ⟨Nat.le_of_ble_eq_true rfl, Nat.le_of_ble_eq_true rfl⟩) rfl rfl (Nat.le_of_ble_eq_true rfl) dX7_patienceAfter_102 ⟨Nat.zero_le _, Nat.zero_le _⟩ (fun ta27 => ?_)
        clear hg
        refine x_iload C 1 dX7_patienceAfter_105 rfl ?_
        refine x_iconst (v := (-1)) C dX7_patienceAfter_107 (by decide) ?_
        refine x_icmp_ne C 119 dX7_patienceAfter_108 (by decide) (fun hc28 => ?_) (fun hc28 => ?_)
        · have hf := x_ine hc28 hf
          refine x_iload C 0 dX7_patienceAfter_119 rfl ?_
          obtain rfl := Option.some.inj hf
          exact x_iret C hr hlk dX7_patienceAfter_121
        · have hf := x_ip hc28 hf
          refine x_aload_n C 2 dX7_patienceAfter_111 rfl ?_
          refine x_iconst (v := 3) C dX7_patienceAfter_112 (by decide) ?_
          obtain ⟨q29, hg, hf⟩ := x_bd hf
          refine x_callVr C (by rw [xkd_9]; decide) (by rw [xkd_9]; decide) (xc9 xkd_9) rfl (t_X7_throwing hg) (cwV 1 C.1.2.2.2.2 gX7_patienceAfter_X7_throwing rfl rfl rfl (by decide +kernel) ⟨Nat.le_of_ble_eq_true rfl, Nat.le_of_ble_eq_true rfl⟩) rfl rfl (Nat.le_of_ble_eq_true rfl) dX7_patienceAfter_113 ⟨Nat.zero_le _, Nat.zero_le _⟩ (fun ta30 => ?_)
          clear hg
          refine x_goto C 121 dX7_patienceAfter_116 (by decide) ?_
          obtain rfl := Option.some.inj hf
          exact x_iret C hr hlk dX7_patienceAfter_121
    · have hf := x_ine hc14 hf
      refine x_aload_n C 0 dX7_patienceAfter_60 rfl ?_
      obtain ⟨q31, hg, hf⟩ := x_bd hf
      refine x_callVv C (by rw [xkd_9]; decide) (by rw [xkd_9]; decide) (xc9 xkd_9) rfl (t_X7_passes hg) (cwV 0 C.1.2.2.2.2 gX7_patienceAfter_X7_passes rfl rfl rfl (by decide +kernel) ⟨Nat.le_of_ble_eq_true rfl, Nat.le_of_ble_eq_true rfl⟩) rfl rfl (Nat.le_of_ble_eq_true rfl) dX7_patienceAfter_61 ⟨Nat.zero_le _, Nat.zero_le _⟩ (fun ta32 => ?_)
      clear hg
      refine x_iinc (v := v4 + 1) (lv' := [(4, .int (v4 + 1)), (0, .ref (xad G 9)), (2, .int v2), (3, .int v3)]) C 3 dX7_patienceAfter_64 rfl rfl (by decide) rfl ?_
      refine x_goto C 54 dX7_patienceAfter_67 (by decide) ?_
      refine x_sub [1, 2, 3, 0] rfl ?_
      exact ih (v4 + 1) q31 _ _ hf
set_option maxHeartbeats 4000000 in
set_option maxRecDepth 100000 in
theorem t_X7_patienceAfter {l : Launch} {G : xG} {ta : Nat × Nat} {M : xM} {a1 : Int32} {a2 : Int32} {out : Int32 × xM} (hf : f_X7_patienceAfter a1 a2 M = some out) : xMet G l yX7_patienceAfter wsX7_patienceAfter (rm_X7_patienceAfter 0 0) 0 0 ta M [.ref (xad G 9), .int a1, .int a2] (some (.int out.1)) out.2 := by
  refine x_met (cc := cX7_patienceAfter) (nL := 6) (ret := some .int) (by decide) rfl (Nat.le_of_ble_eq_true rfl) ?_
  intro p e s m args below meth c C hr hlk
  have C : xC G p s m args c cX7_patienceAfter 6 wsX7_patienceAfter RX7 := C
  have i9 : ∀ w ∈ wsX70, w ∈ wsX7_patienceAfter := by decide +kernel
  unfold f_X7_patienceAfter at hf
  show xW G p l e (rm_X7_patienceAfter 0 0) s m args below meth c 6 (MQ below (xQr G (some (.int out.1)) out.2) args s 0 0 (xAs G)) 0 0 ta M 0 [(0, .ref (xad G 9)), (1, .int a1), (2, .int a2)] []
  refine x_aload_n C 0 dX7_patienceAfter_0 rfl ?_
  refine x_iconst (v := 0) C dX7_patienceAfter_1 (by decide) ?_
  refine x_put9 C xkd_9 i9 9 (by decide) (by decide +kernel) dX7_patienceAfter_2 ?_
  obtain ⟨M1, e2, hf⟩ := x_lt hf
  rw [← e2]
  clear e2
  refine x_aload_n C 0 dX7_patienceAfter_5 rfl ?_
  refine x_iload_n C 1 dX7_patienceAfter_6 rfl ?_
  obtain ⟨q3, hg, hf⟩ := x_bd hf
  refine x_callVr C (by rw [xkd_9]; decide) (by rw [xkd_9]; decide) (xc9 xkd_9) rfl (t_X7_isHere hg) (cwV 1 C.1.2.2.2.2 gX7_patienceAfter_X7_isHere rfl rfl rfl (by decide +kernel) ⟨Nat.le_of_ble_eq_true rfl, Nat.le_of_ble_eq_true rfl⟩) rfl rfl (Nat.le_of_ble_eq_true rfl) dX7_patienceAfter_7 ⟨Nat.zero_le _, Nat.zero_le _⟩ (fun ta4 => ?_)
  clear hg
  refine x_if_ne C 19 dX7_patienceAfter_10 (by decide) (fun hc5 => ?_) (fun hc5 => ?_)
  · have hf := x_ine hc5 hf
    refine x_iload_n C 2 dX7_patienceAfter_19 rfl ?_
    refine x_i2l (v := a2.toInt64) C dX7_patienceAfter_20 rfl ?_
    refine x_lconst (v := 0) C dX7_patienceAfter_21 (by decide) ?_
    refine x_ldc2 (v := 60) C (by decide +kernel) dX7_patienceAfter_22 ?_
    obtain ⟨q6, hg, hf⟩ := x_bd hf
    refine x_callSr C (t_X7_in hg) (va_cwS 3 C.1.2.2.2.2 gX7_patienceAfter_X7_in rfl rfl rfl (by decide +kernel) ⟨Nat.le_of_ble_eq_true rfl, Nat.le_of_ble_eq_true rfl⟩) rfl rfl (Nat.le_of_ble_eq_true rfl) dX7_patienceAfter_25 ⟨Nat.zero_le _, Nat.zero_le _⟩ (fun ta7 => ?_)
    clear hg
    refine x_if_ne C 37 dX7_patienceAfter_28 (by decide) (fun hc8 => ?_) (fun hc8 => ?_)
    · have hf := x_ine hc8 hf
      refine x_aload_n C 0 dX7_patienceAfter_37 rfl ?_
      obtain ⟨q9, hg, hf⟩ := x_bd hf
      refine x_callVv C (by rw [xkd_9]; decide) (by rw [xkd_9]; decide) (xc9 xkd_9) rfl (t_X7_thinks hg) (cwV 0 C.1.2.2.2.2 gX7_patienceAfter_X7_thinks rfl rfl rfl (by decide +kernel) ⟨Nat.le_of_ble_eq_true rfl, Nat.le_of_ble_eq_true rfl⟩) rfl rfl (Nat.le_of_ble_eq_true rfl) dX7_patienceAfter_38 ⟨Nat.zero_le _, Nat.zero_le _⟩ (fun ta10 => ?_)
      clear hg
      refine x_aload_n C 0 dX7_patienceAfter_41 rfl ?_
      refine x_get9 C xkd_9 i9 0 (by decide) (by decide +kernel) rfl rfl dX7_patienceAfter_42 ?_
      refine x_iload_n C 1 dX7_patienceAfter_45 rfl ?_
      obtain ⟨q11, hg, hf⟩ := x_bd hf
      refine x_callSr C (t_X7_personAt hg) (va_cwS 1 C.1.2.2.2.2 gX7_patienceAfter_X7_personAt rfl rfl rfl (by decide +kernel) ⟨Nat.le_of_ble_eq_true rfl, Nat.le_of_ble_eq_true rfl⟩) rfl rfl (Nat.le_of_ble_eq_true rfl) dX7_patienceAfter_46 ⟨Nat.zero_le _, Nat.zero_le _⟩ (fun ta12 => ?_)
      clear hg
      obtain ⟨g13, hf⟩ := x_gd hf
      refine x_iald C xkd_10 xl_10 g13 dX7_patienceAfter_49 ?_
      refine x_istore_n (lv' := [(3, .int (q9.1 10 q11.toNatClampNeg)), (0, .ref (xad G 9)), (1, .int a1), (2, .int a2)]) C dX7_patienceAfter_50 rfl (by decide) rfl ?_
      refine x_iconst (v := 0) C dX7_patienceAfter_51 (by decide) ?_
      refine x_istore (lv' := [(4, .int (0 : Int32)), (3, .int (q9.1 10 q11.toNatClampNeg)), (0, .ref (xad G 9)), (1, .int a1), (2, .int a2)]) C dX7_patienceAfter_52 (by decide) rfl ?_
      refine x_sub [2, 4, 1, 0] rfl ?_
      exact t_X7_patienceAfter_L54 C hr hlk xF (0 : Int32) q9 _ _ hf
    · have hf := x_ip hc8 hf
      refine x_aload_n C 0 dX7_patienceAfter_31 rfl ?_
      refine x_iconst (v := 2) C dX7_patienceAfter_32 (by decide) ?_
      obtain ⟨q33, hg, hf⟩ := x_bd hf
      refine x_callVr C (by rw [xkd_9]; decide) (by rw [xkd_9]; decide) (xc9 xkd_9) rfl (t_X7_throwing hg) (cwV 1 C.1.2.2.2.2 gX7_patienceAfter_X7_throwing rfl rfl rfl (by decide +kernel) ⟨Nat.le_of_ble_eq_true rfl, Nat.le_of_ble_eq_true rfl⟩) rfl rfl (Nat.le_of_ble_eq_true rfl) dX7_patienceAfter_33 ⟨Nat.zero_le _, Nat.zero_le _⟩ (fun ta34 => ?_)
      clear hg
      obtain rfl := Option.some.inj hf
      exact x_iret C hr hlk dX7_patienceAfter_36
  · have hf := x_ip hc5 hf
    refine x_aload_n C 0 dX7_patienceAfter_13 rfl ?_
    refine x_iconst (v := 1) C dX7_patienceAfter_14 (by decide) ?_
    obtain ⟨q35, hg, hf⟩ := x_bd hf
    refine x_callVr C (by rw [xkd_9]; decide) (by rw [xkd_9]; decide) (xc9 xkd_9) rfl (t_X7_throwing hg) (cwV 1 C.1.2.2.2.2 gX7_patienceAfter_X7_throwing rfl rfl rfl (by decide +kernel) ⟨Nat.le_of_ble_eq_true rfl, Nat.le_of_ble_eq_true rfl⟩) rfl rfl (Nat.le_of_ble_eq_true rfl) dX7_patienceAfter_15 ⟨Nat.zero_le _, Nat.zero_le _⟩ (fun ta36 => ?_)
    clear hg
    obtain rfl := Option.some.inj hf
    exact x_iret C hr hlk dX7_patienceAfter_18
/-! WaitingRoomSimulationModel.sighsWithin(I)I -/
abbrev rm_X7_sighsWithin (c s : Nat) : Room := { frames := 5, cells := c, slots := s, locals := 109 }
def f_X7_sighsWithin_L37 (v1 : Int32) (v2 : Int32) : Nat → Int32 → xM → Option (Int32 × xM)
  | 0, _, _ => none
  | n+1, v3, M => (if v1 ≤ v3 then if x_in (6 : Int32) 159 = true then (f_X7_thinksNoMore M).bind fun q11 => some ((M.1 10 (6 : Int32).toNatClampNeg) - v2, q11) else none else (f_X7_passes M).bind fun q13 => f_X7_sighsWithin_L37 v1 v2 n (v3 + 1) q13)
def f_X7_sighsWithin (a1 : Int32) (M : xM) : Option (Int32 × xM) := x_let (sI M 9 9 (0 : Int32)) fun M1 => (f_X7_in a1.toInt64 (0 : Int64) (60 : Int64) M1).bind fun q3 => (if q3 = 0 then (f_X7_throwing (1 : Int32) M1).bind fun q15 => some (q15.1, q15.2) else (f_X7_thinks M1).bind fun q6 => if x_in (6 : Int32) 159 = true then f_X7_sighsWithin_L37 a1 (q6.1 10 (6 : Int32).toNatClampNeg) xF (0 : Int32) q6 else none)
set_option maxHeartbeats 4000000 in
set_option maxRecDepth 100000 in
theorem t_X7_sighsWithin_L37 {G : xG} {p : Program} {l : Launch} {e : Env} {s : State} {m : MethodId} {args : Array Value} {below : List Frame} {meth : Method} {c : Code} (C : xC G p s m args c cX7_sighsWithin 4 wsX7_sighsWithin RX7) (hr : meth.sig.returnType = some .int) (hlk : meth.locks = false) {v1 : Int32} {v2 : Int32} : ∀ (n : Nat) (v3 : Int32) (M : xM) (ta : Nat × Nat) (out : Int32 × xM), f_X7_sighsWithin_L37 v1 v2 n v3 M = some out → xW G p l e (rm_X7_sighsWithin 0 0) s m args below meth c 4 (MQ below (xQr G (some (.int out.1)) out.2) args s 0 0 (xAs G)) 0 0 ta M 37 [(0, .ref (xad G 9)), (1, .int v1), (2, .int v2), (3, .int v3)] [] := by
  intro n
  induction n with
  | zero =>
    intro v3 M ta out hf
    rw [f_X7_sighsWithin_L37] at hf
    cases hf
  | succ n ih =>
    intro v3 M ta out hf
    rw [f_X7_sighsWithin_L37] at hf
    have i9 : ∀ w ∈ wsX70, w ∈ wsX7_sighsWithin := by decide +kernel
    refine x_iload_n C 3 dX7_sighsWithin_37 rfl ?_
    refine x_iload_n C 1 dX7_sighsWithin_38 rfl ?_
    refine x_icmp_ge C 52 dX7_sighsWithin_39 (by decide) (fun hc9 => ?_) (fun hc9 => ?_)
    · have hf := x_ip hc9 hf
      refine x_aload_n C 0 dX7_sighsWithin_52 rfl ?_
      refine x_get9 C xkd_9 i9 0 (by decide) (by decide +kernel) rfl rfl dX7_sighsWithin_53 ?_
      refine x_bipush (v := 6) C dX7_sighsWithin_56 (by decide) ?_
      obtain ⟨g10, hf⟩ := x_gd hf
      refine x_iald C xkd_10 xl_10 g10 dX7_sighsWithin_58 ?_
      refine x_iload_n C 2 dX7_sighsWithin_59 rfl ?_
      refine x_isub C dX7_sighsWithin_60 ?_
      refine x_istore_n (lv' := [(3, .int ((M.1 10 (6 : Int32).toNatClampNeg) - v2)), (0, .ref (xad G 9)), (1, .int v1), (2, .int v2)]) C dX7_sighsWithin_61 rfl (by decide) rfl ?_
      refine x_aload_n C 1 dX7_sighsWithin_62 rfl ?_
      obtain ⟨q11, hg, hf⟩ := x_bd hf
      refine x_callVv C (by rw [xkd_9]; decide) (by rw [xkd_9]; decide) (xc9 xkd_9) rfl (t_X7_thinksNoMore hg) (cwV 0 C.1.2.2.2.2 gX7_sighsWithin_X7_thinksNoMore rfl rfl rfl (by decide +kernel) ⟨Nat.le_of_ble_eq_true rfl, Nat.le_of_ble_eq_true rfl⟩) rfl rfl (Nat.le_of_ble_eq_true rfl) dX7_sighsWithin_63 ⟨Nat.zero_le _, Nat.zero_le _⟩ (fun ta12 => ?_)
      clear hg
      refine x_iload_n C 0 dX7_sighsWithin_66 rfl ?_
      obtain rfl := Option.some.inj hf
      exact x_iret C hr hlk dX7_sighsWithin_67
    · have hf := x_ine hc9 hf
      refine x_aload_n C 0 dX7_sighsWithin_42 rfl ?_
      obtain ⟨q13, hg, hf⟩ := x_bd hf
      refine x_callVv C (by rw [xkd_9]; decide) (by rw [xkd_9]; decide) (xc9 xkd_9) rfl (t_X7_passes hg) (cwV 0 C.1.2.2.2.2 gX7_sighsWithin_X7_passes rfl rfl rfl (by decide +kernel) ⟨Nat.le_of_ble_eq_true rfl, Nat.le_of_ble_eq_true rfl⟩) rfl rfl (Nat.le_of_ble_eq_true rfl) dX7_sighsWithin_43 ⟨Nat.zero_le _, Nat.zero_le _⟩ (fun ta14 => ?_)
      clear hg
      refine x_iinc (v := v3 + 1) (lv' := [(3, .int (v3 + 1)), (0, .ref (xad G 9)), (1, .int v1), (2, .int v2)]) C 3 dX7_sighsWithin_46 rfl rfl (by decide) rfl ?_
      refine x_goto C 37 dX7_sighsWithin_49 (by decide) ?_
      refine x_sub [1, 2, 3, 0] rfl ?_
      exact ih (v3 + 1) q13 _ _ hf
set_option maxHeartbeats 4000000 in
set_option maxRecDepth 100000 in
theorem t_X7_sighsWithin {l : Launch} {G : xG} {ta : Nat × Nat} {M : xM} {a1 : Int32} {out : Int32 × xM} (hf : f_X7_sighsWithin a1 M = some out) : xMet G l yX7_sighsWithin wsX7_sighsWithin (rm_X7_sighsWithin 0 0) 0 0 ta M [.ref (xad G 9), .int a1] (some (.int out.1)) out.2 := by
  refine x_met (cc := cX7_sighsWithin) (nL := 4) (ret := some .int) (by decide) rfl (Nat.le_of_ble_eq_true rfl) ?_
  intro p e s m args below meth c C hr hlk
  have C : xC G p s m args c cX7_sighsWithin 4 wsX7_sighsWithin RX7 := C
  have i9 : ∀ w ∈ wsX70, w ∈ wsX7_sighsWithin := by decide +kernel
  unfold f_X7_sighsWithin at hf
  show xW G p l e (rm_X7_sighsWithin 0 0) s m args below meth c 4 (MQ below (xQr G (some (.int out.1)) out.2) args s 0 0 (xAs G)) 0 0 ta M 0 [(0, .ref (xad G 9)), (1, .int a1)] []
  refine x_aload_n C 0 dX7_sighsWithin_0 rfl ?_
  refine x_iconst (v := 0) C dX7_sighsWithin_1 (by decide) ?_
  refine x_put9 C xkd_9 i9 9 (by decide) (by decide +kernel) dX7_sighsWithin_2 ?_
  obtain ⟨M1, e2, hf⟩ := x_lt hf
  rw [← e2]
  clear e2
  refine x_iload_n C 1 dX7_sighsWithin_5 rfl ?_
  refine x_i2l (v := a1.toInt64) C dX7_sighsWithin_6 rfl ?_
  refine x_lconst (v := 0) C dX7_sighsWithin_7 (by decide) ?_
  refine x_ldc2 (v := 60) C (by decide +kernel) dX7_sighsWithin_8 ?_
  obtain ⟨q3, hg, hf⟩ := x_bd hf
  refine x_callSr C (t_X7_in hg) (va_cwS 3 C.1.2.2.2.2 gX7_sighsWithin_X7_in rfl rfl rfl (by decide +kernel) ⟨Nat.le_of_ble_eq_true rfl, Nat.le_of_ble_eq_true rfl⟩) rfl rfl (Nat.le_of_ble_eq_true rfl) dX7_sighsWithin_11 ⟨Nat.zero_le _, Nat.zero_le _⟩ (fun ta4 => ?_)
  clear hg
  refine x_if_ne C 23 dX7_sighsWithin_14 (by decide) (fun hc5 => ?_) (fun hc5 => ?_)
  · have hf := x_ine hc5 hf
    refine x_aload_n C 0 dX7_sighsWithin_23 rfl ?_
    obtain ⟨q6, hg, hf⟩ := x_bd hf
    refine x_callVv C (by rw [xkd_9]; decide) (by rw [xkd_9]; decide) (xc9 xkd_9) rfl (t_X7_thinks hg) (cwV 0 C.1.2.2.2.2 gX7_sighsWithin_X7_thinks rfl rfl rfl (by decide +kernel) ⟨Nat.le_of_ble_eq_true rfl, Nat.le_of_ble_eq_true rfl⟩) rfl rfl (Nat.le_of_ble_eq_true rfl) dX7_sighsWithin_24 ⟨Nat.zero_le _, Nat.zero_le _⟩ (fun ta7 => ?_)
    clear hg
    refine x_aload_n C 0 dX7_sighsWithin_27 rfl ?_
    refine x_get9 C xkd_9 i9 0 (by decide) (by decide +kernel) rfl rfl dX7_sighsWithin_28 ?_
    refine x_bipush (v := 6) C dX7_sighsWithin_31 (by decide) ?_
    obtain ⟨g8, hf⟩ := x_gd hf
    refine x_iald C xkd_10 xl_10 g8 dX7_sighsWithin_33 ?_
    refine x_istore_n (lv' := [(2, .int (q6.1 10 (6 : Int32).toNatClampNeg)), (0, .ref (xad G 9)), (1, .int a1)]) C dX7_sighsWithin_34 rfl (by decide) rfl ?_
    refine x_iconst (v := 0) C dX7_sighsWithin_35 (by decide) ?_
    refine x_istore_n (lv' := [(3, .int (0 : Int32)), (2, .int (q6.1 10 (6 : Int32).toNatClampNeg)), (0, .ref (xad G 9)), (1, .int a1)]) C dX7_sighsWithin_36 rfl (by decide) rfl ?_
    refine x_sub [2, 3, 1, 0] rfl ?_
    exact t_X7_sighsWithin_L37 C hr hlk xF (0 : Int32) q6 _ _ hf
  · have hf := x_ip hc5 hf
    refine x_aload_n C 0 dX7_sighsWithin_17 rfl ?_
    refine x_iconst (v := 1) C dX7_sighsWithin_18 (by decide) ?_
    obtain ⟨q15, hg, hf⟩ := x_bd hf
    refine x_callVr C (by rw [xkd_9]; decide) (by rw [xkd_9]; decide) (xc9 xkd_9) rfl (t_X7_throwing hg) (cwV 1 C.1.2.2.2.2 gX7_sighsWithin_X7_throwing rfl rfl rfl (by decide +kernel) ⟨Nat.le_of_ble_eq_true rfl, Nat.le_of_ble_eq_true rfl⟩) rfl rfl (Nat.le_of_ble_eq_true rfl) dX7_sighsWithin_19 ⟨Nat.zero_le _, Nat.zero_le _⟩ (fun ta16 => ?_)
    clear hg
    obtain rfl := Option.some.inj hf
    exact x_iret C hr hlk dX7_sighsWithin_22
/-! WaitingRoomSimulationModel.servedTicket(I)I -/
abbrev rm_X7_servedTicket (c s : Nat) : Room := { frames := 1, cells := c, slots := s, locals := 25 }
def f_X7_servedTicket (a1 : Int32) (M : xM) : Option (Int32 × xM) := x_let (sI M 9 9 (0 : Int32)) fun M1 => if x_in (10 : Int32) 159 = true then (f_X7_in a1.toInt64 (0 : Int64) (((M1.1 10 (10 : Int32).toNatClampNeg) - (1 : Int32)).toInt64) M1).bind fun q4 => (if q4 = 0 then (f_X7_throwing (1 : Int32) M1).bind fun q7 => some (q7.1, q7.2) else if x_in ((135 : Int32) + ((4 : Int32) * a1)) 159 = true then some (M1.1 10 ((135 : Int32) + ((4 : Int32) * a1)).toNatClampNeg, M1) else none) else none
set_option maxHeartbeats 4000000 in
set_option maxRecDepth 100000 in
theorem t_X7_servedTicket {l : Launch} {G : xG} {ta : Nat × Nat} {M : xM} {a1 : Int32} {out : Int32 × xM} (hf : f_X7_servedTicket a1 M = some out) : xMet G l yX7_servedTicket wsX7_servedTicket (rm_X7_servedTicket 0 0) 0 0 ta M [.ref (xad G 9), .int a1] (some (.int out.1)) out.2 := by
  refine x_met (cc := cX7_servedTicket) (nL := 2) (ret := some .int) (by decide) rfl (Nat.le_of_ble_eq_true rfl) ?_
  intro p e s m args below meth c C hr hlk
  have C : xC G p s m args c cX7_servedTicket 2 wsX7_servedTicket RX7 := C
  have i9 : ∀ w ∈ wsX70, w ∈ wsX7_servedTicket := by decide +kernel
  unfold f_X7_servedTicket at hf
  show xW G p l e (rm_X7_servedTicket 0 0) s m args below meth c 2 (MQ below (xQr G (some (.int out.1)) out.2) args s 0 0 (xAs G)) 0 0 ta M 0 [(0, .ref (xad G 9)), (1, .int a1)] []
  refine x_aload_n C 0 dX7_servedTicket_0 rfl ?_
  refine x_iconst (v := 0) C dX7_servedTicket_1 (by decide) ?_
  refine x_put9 C xkd_9 i9 9 (by decide) (by decide +kernel) dX7_servedTicket_2 ?_
  obtain ⟨M1, e2, hf⟩ := x_lt hf
  rw [← e2]
  clear e2
  refine x_iload_n C 1 dX7_servedTicket_5 rfl ?_
  refine x_i2l (v := a1.toInt64) C dX7_servedTicket_6 rfl ?_
  refine x_lconst (v := 0) C dX7_servedTicket_7 (by decide) ?_
  refine x_aload_n C 0 dX7_servedTicket_8 rfl ?_
  refine x_get9 C xkd_9 i9 0 (by decide) (by decide +kernel) rfl rfl dX7_servedTicket_9 ?_
  refine x_bipush (v := 10) C dX7_servedTicket_12 (by decide) ?_
  obtain ⟨g3, hf⟩ := x_gd hf
  refine x_iald C xkd_10 xl_10 g3 dX7_servedTicket_14 ?_
  refine x_iconst (v := 1) C dX7_servedTicket_15 (by decide) ?_
  refine x_isub C dX7_servedTicket_16 ?_
  refine x_i2l (v := ((M1.1 10 (10 : Int32).toNatClampNeg) - (1 : Int32)).toInt64) C dX7_servedTicket_17 rfl ?_
  obtain ⟨q4, hg, hf⟩ := x_bd hf
  refine x_callSr C (t_X7_in hg) (va_cwS 3 C.1.2.2.2.2 gX7_servedTicket_X7_in rfl rfl rfl (by decide +kernel) ⟨Nat.le_of_ble_eq_true rfl, Nat.le_of_ble_eq_true rfl⟩) rfl rfl (Nat.le_of_ble_eq_true rfl) dX7_servedTicket_18 ⟨Nat.zero_le _, Nat.zero_le _⟩ (fun ta5 => ?_)
  clear hg
  refine x_if_eq C 39 dX7_servedTicket_21 (by decide) (fun hc6 => ?_) (fun hc6 => ?_)
  · have hf := x_ip hc6 hf
    refine x_aload_n C 0 dX7_servedTicket_39 rfl ?_
    refine x_iconst (v := 1) C dX7_servedTicket_40 (by decide) ?_
    obtain ⟨q7, hg, hf⟩ := x_bd hf
    refine x_callVr C (by rw [xkd_9]; decide) (by rw [xkd_9]; decide) (xc9 xkd_9) rfl (t_X7_throwing hg) (cwV 1 C.1.2.2.2.2 gX7_servedTicket_X7_throwing rfl rfl rfl (by decide +kernel) ⟨Nat.le_of_ble_eq_true rfl, Nat.le_of_ble_eq_true rfl⟩) rfl rfl (Nat.le_of_ble_eq_true rfl) dX7_servedTicket_41 ⟨Nat.zero_le _, Nat.zero_le _⟩ (fun ta8 => ?_)
    clear hg
    obtain rfl := Option.some.inj hf
    exact x_iret C hr hlk dX7_servedTicket_44
  · have hf := x_ine hc6 hf
    refine x_aload_n C 0 dX7_servedTicket_24 rfl ?_
    refine x_get9 C xkd_9 i9 0 (by decide) (by decide +kernel) rfl rfl dX7_servedTicket_25 ?_
    refine x_sipush (v := 135) C dX7_servedTicket_28 (by decide) ?_
    refine x_iconst (v := 4) C dX7_servedTicket_31 (by decide) ?_
    refine x_iload_n C 1 dX7_servedTicket_32 rfl ?_
    refine x_imul C dX7_servedTicket_33 ?_
    refine x_iadd C dX7_servedTicket_34 ?_
    obtain ⟨g9, hf⟩ := x_gd hf
    refine x_iald C xkd_10 xl_10 g9 dX7_servedTicket_35 ?_
    refine x_goto C 44 dX7_servedTicket_36 (by decide) ?_
    obtain rfl := Option.some.inj hf
    exact x_iret C hr hlk dX7_servedTicket_44
/-! WaitingRoomSimulationModel.servedWaitingTime(I)I -/
abbrev rm_X7_servedWaitingTime (c s : Nat) : Room := { frames := 1, cells := c, slots := s, locals := 25 }
def f_X7_servedWaitingTime (a1 : Int32) (M : xM) : Option (Int32 × xM) := x_let (sI M 9 9 (0 : Int32)) fun M1 => if x_in (10 : Int32) 159 = true then (f_X7_in a1.toInt64 (0 : Int64) (((M1.1 10 (10 : Int32).toNatClampNeg) - (1 : Int32)).toInt64) M1).bind fun q4 => (if q4 = 0 then (f_X7_throwing (1 : Int32) M1).bind fun q7 => some (q7.1, q7.2) else if x_in (((135 : Int32) + ((4 : Int32) * a1)) + (1 : Int32)) 159 = true then some (M1.1 10 (((135 : Int32) + ((4 : Int32) * a1)) + (1 : Int32)).toNatClampNeg, M1) else none) else none
set_option maxHeartbeats 4000000 in
set_option maxRecDepth 100000 in
theorem t_X7_servedWaitingTime {l : Launch} {G : xG} {ta : Nat × Nat} {M : xM} {a1 : Int32} {out : Int32 × xM} (hf : f_X7_servedWaitingTime a1 M = some out) : xMet G l yX7_servedWaitingTime wsX7_servedWaitingTime (rm_X7_servedWaitingTime 0 0) 0 0 ta M [.ref (xad G 9), .int a1] (some (.int out.1)) out.2 := by
  refine x_met (cc := cX7_servedWaitingTime) (nL := 2) (ret := some .int) (by decide) rfl (Nat.le_of_ble_eq_true rfl) ?_
  intro p e s m args below meth c C hr hlk
  have C : xC G p s m args c cX7_servedWaitingTime 2 wsX7_servedWaitingTime RX7 := C
  have i9 : ∀ w ∈ wsX70, w ∈ wsX7_servedWaitingTime := by decide +kernel
  unfold f_X7_servedWaitingTime at hf
  show xW G p l e (rm_X7_servedWaitingTime 0 0) s m args below meth c 2 (MQ below (xQr G (some (.int out.1)) out.2) args s 0 0 (xAs G)) 0 0 ta M 0 [(0, .ref (xad G 9)), (1, .int a1)] []
  refine x_aload_n C 0 dX7_servedWaitingTime_0 rfl ?_
  refine x_iconst (v := 0) C dX7_servedWaitingTime_1 (by decide) ?_
  refine x_put9 C xkd_9 i9 9 (by decide) (by decide +kernel) dX7_servedWaitingTime_2 ?_
  obtain ⟨M1, e2, hf⟩ := x_lt hf
  rw [← e2]
  clear e2
  refine x_iload_n C 1 dX7_servedWaitingTime_5 rfl ?_
  refine x_i2l (v := a1.toInt64) C dX7_servedWaitingTime_6 rfl ?_
  refine x_lconst (v := 0) C dX7_servedWaitingTime_7 (by decide) ?_
  refine x_aload_n C 0 dX7_servedWaitingTime_8 rfl ?_
  refine x_get9 C xkd_9 i9 0 (by decide) (by decide +kernel) rfl rfl dX7_servedWaitingTime_9 ?_
  refine x_bipush (v := 10) C dX7_servedWaitingTime_12 (by decide) ?_
  obtain ⟨g3, hf⟩ := x_gd hf
  refine x_iald C xkd_10 xl_10 g3 dX7_servedWaitingTime_14 ?_
  refine x_iconst (v := 1) C dX7_servedWaitingTime_15 (by decide) ?_
  refine x_isub C dX7_servedWaitingTime_16 ?_
  refine x_i2l (v := ((M1.1 10 (10 : Int32).toNatClampNeg) - (1 : Int32)).toInt64) C dX7_servedWaitingTime_17 rfl ?_
  obtain ⟨q4, hg, hf⟩ := x_bd hf
  refine x_callSr C (t_X7_in hg) (va_cwS 3 C.1.2.2.2.2 gX7_servedWaitingTime_X7_in rfl rfl rfl (by decide +kernel) ⟨Nat.le_of_ble_eq_true rfl, Nat.le_of_ble_eq_true rfl⟩) rfl rfl (Nat.le_of_ble_eq_true rfl) dX7_servedWaitingTime_18 ⟨Nat.zero_le _, Nat.zero_le _⟩ (fun ta5 => ?_)
  clear hg
  refine x_if_eq C 41 dX7_servedWaitingTime_21 (by decide) (fun hc6 => ?_) (fun hc6 => ?_)
  · have hf := x_ip hc6 hf
    refine x_aload_n C 0 dX7_servedWaitingTime_41 rfl ?_
    refine x_iconst (v := 1) C dX7_servedWaitingTime_42 (by decide) ?_
    obtain ⟨q7, hg, hf⟩ := x_bd hf
    refine x_callVr C (by rw [xkd_9]; decide) (by rw [xkd_9]; decide) (xc9 xkd_9) rfl (t_X7_throwing hg) (cwV 1 C.1.2.2.2.2 gX7_servedWaitingTime_X7_throwing rfl rfl rfl (by decide +kernel) ⟨Nat.le_of_ble_eq_true rfl, Nat.le_of_ble_eq_true rfl⟩) rfl rfl (Nat.le_of_ble_eq_true rfl) dX7_servedWaitingTime_43 ⟨Nat.zero_le _, Nat.zero_le _⟩ (fun ta8 => ?_)
    clear hg
    obtain rfl := Option.some.inj hf
    exact x_iret C hr hlk dX7_servedWaitingTime_46
  · have hf := x_ine hc6 hf
    refine x_aload_n C 0 dX7_servedWaitingTime_24 rfl ?_
    refine x_get9 C xkd_9 i9 0 (by decide) (by decide +kernel) rfl rfl dX7_servedWaitingTime_25 ?_
    refine x_sipush (v := 135) C dX7_servedWaitingTime_28 (by decide) ?_
    refine x_iconst (v := 4) C dX7_servedWaitingTime_31 (by decide) ?_
    refine x_iload_n C 1 dX7_servedWaitingTime_32 rfl ?_
    refine x_imul C dX7_servedWaitingTime_33 ?_
    refine x_iadd C dX7_servedWaitingTime_34 ?_
    refine x_iconst (v := 1) C dX7_servedWaitingTime_35 (by decide) ?_
    refine x_iadd C dX7_servedWaitingTime_36 ?_
    obtain ⟨g9, hf⟩ := x_gd hf
    refine x_iald C xkd_10 xl_10 g9 dX7_servedWaitingTime_37 ?_
    refine x_goto C 46 dX7_servedWaitingTime_38 (by decide) ?_
    obtain rfl := Option.some.inj hf
    exact x_iret C hr hlk dX7_servedWaitingTime_46
/-! WaitingRoomSimulationModel.customerBySighs(I)I -/
abbrev rm_X7_customerBySighs (c s : Nat) : Room := { frames := 1, cells := c, slots := s, locals := 21 }
def f_X7_customerBySighs_L22 (v1 : Int32) (v2 : Int32) (M : xM) (kx : Int32 → Option (Int32 × xM)) : Nat → Int32 → Int32 → Option (Int32 × xM)
  | 0, _, _ => none
  | n+1, v3, v4 => if x_in (0 : Int32) 159 = true then (if (M.1 10 (0 : Int32).toNatClampNeg) ≤ v4 then kx v3 else (f_X7_personAt v4 M).bind fun q9 => if x_in (q9 + (2 : Int32)) 159 = true then (f_X7_personAt v2 M).bind fun q12 => if x_in (q12 + (2 : Int32)) 159 = true then (if ((M.1 10 (q9 + (2 : Int32)).toNatClampNeg) - (M.1 10 (q12 + (2 : Int32)).toNatClampNeg)) = 0 then (f_X7_personAt v2 M).bind fun q19 => if x_in (q19 + (1 : Int32)) 159 = true then (f_X7_personAt v4 M).bind fun q22 => if x_in (q22 + (1 : Int32)) 159 = true then (if 0 < ((M.1 10 (q19 + (1 : Int32)).toNatClampNeg) - (M.1 10 (q22 + (1 : Int32)).toNatClampNeg)) then f_X7_customerBySighs_L22 v1 v2 M kx n (v3 + (1 : Int32)) (v4 + 1) else (if ((M.1 10 (q19 + (1 : Int32)).toNatClampNeg) - (M.1 10 (q22 + (1 : Int32)).toNatClampNeg)) = 0 then (if v2 ≤ v4 then f_X7_customerBySighs_L22 v1 v2 M kx n (v3 + (0 : Int32)) (v4 + 1) else f_X7_customerBySighs_L22 v1 v2 M kx n (v3 + (1 : Int32)) (v4 + 1)) else f_X7_customerBySighs_L22 v1 v2 M kx n (v3 + (0 : Int32)) (v4 + 1))) else none else none else (if 0 < ((M.1 10 (q9 + (2 : Int32)).toNatClampNeg) - (M.1 10 (q12 + (2 : Int32)).toNatClampNeg)) then f_X7_customerBySighs_L22 v1 v2 M kx n (v3 + (1 : Int32)) (v4 + 1) else (if ((M.1 10 (q9 + (2 : Int32)).toNatClampNeg) - (M.1 10 (q12 + (2 : Int32)).toNatClampNeg)) = 0 then (if v2 ≤ v4 then f_X7_customerBySighs_L22 v1 v2 M kx n (v3 + (0 : Int32)) (v4 + 1) else f_X7_customerBySighs_L22 v1 v2 M kx n (v3 + (1 : Int32)) (v4 + 1)) else f_X7_customerBySighs_L22 v1 v2 M kx n (v3 + (0 : Int32)) (v4 + 1)))) else none else none) else none
def f_X7_customerBySighs_L7 (v1 : Int32) (M : xM) : Nat → Int32 → Option (Int32 × xM)
  | 0, _ => none
  | n+1, v2 => if x_in (0 : Int32) 159 = true then (if (M.1 10 (0 : Int32).toNatClampNeg) ≤ v2 then (f_X7_throwing (1 : Int32) M).bind fun q5 => some (q5.1, q5.2) else f_X7_customerBySighs_L22 v1 v2 M (fun v28 => (if v28 = v1 then some (v2, M) else f_X7_customerBySighs_L7 v1 M n (v2 + 1))) xF (0 : Int32) (0 : Int32)) else none
def f_X7_customerBySighs (a1 : Int32) (M : xM) : Option (Int32 × xM) := x_let (sI M 9 9 (0 : Int32)) fun M1 => f_X7_customerBySighs_L7 a1 M1 xF (0 : Int32)
set_option maxHeartbeats 4000000 in
set_option maxRecDepth 100000 in
theorem t_X7_customerBySighs_L22 {G : xG} {p : Program} {l : Launch} {e : Env} {s : State} {m : MethodId} {args : Array Value} {below : List Frame} {meth : Method} {c : Code} (C : xC G p s m args c cX7_customerBySighs 7 wsX7_customerBySighs RX7) (hr : meth.sig.returnType = some .int) (hlk : meth.locks = false) {v1 : Int32} {v2 : Int32} {M : xM} {kx : Int32 → Option (Int32 × xM)} (hkx : ∀ (v3 : Int32) (ta : Nat × Nat) (out : Int32 × xM), kx v3 = some out → xW G p l e (rm_X7_customerBySighs 0 0) s m args below meth c 7 (MQ below (xQr G (some (.int out.1)) out.2) args s 0 0 (xAs G)) 0 0 ta M 125 [(0, .ref (xad G 9)), (1, .int v1), (2, .int v2), (3, .int v3)] []) : ∀ (n : Nat) (v3 : Int32) (v4 : Int32) (ta : Nat × Nat) (out : Int32 × xM), f_X7_customerBySighs_L22 v1 v2 M kx n v3 v4 = some out → xW G p l e (rm_X7_customerBySighs 0 0) s m args below meth c 7 (MQ below (xQr G (some (.int out.1)) out.2) args s 0 0 (xAs G)) 0 0 ta M 22 [(0, .ref (xad G 9)), (1, .int v1), (2, .int v2), (3, .int v3), (4, .int v4)] [] := by
  intro n
  induction n with
  | zero =>
    intro v3 v4 ta out hf
    rw [f_X7_customerBySighs_L22] at hf
    cases hf
  | succ n ih =>
    intro v3 v4 ta out hf
    rw [f_X7_customerBySighs_L22] at hf
    have i9 : ∀ w ∈ wsX70, w ∈ wsX7_customerBySighs := by decide +kernel
    refine x_iload C 4 dX7_customerBySighs_22 rfl ?_
    refine x_aload_n C 0 dX7_customerBySighs_24 rfl ?_
    refine x_get9 C xkd_9 i9 0 (by decide) (by decide +kernel) rfl rfl dX7_customerBySighs_25 ?_
    refine x_iconst (v := 0) C dX7_customerBySighs_28 (by decide) ?_
    obtain ⟨g7, hf⟩ := x_gd hf
    refine x_iald C xkd_10 xl_10 g7 dX7_customerBySighs_29 ?_
    refine x_icmp_ge C 125 dX7_customerBySighs_30 (by decide) (fun hc8 => ?_) (fun hc8 => ?_)
    · have hf := x_ip hc8 hf
      refine x_sub [0, 1, 2, 3] rfl ?_
      exact hkx v3 _ _ hf
    · have hf := x_ine hc8 hf
      refine x_aload_n C 0 dX7_customerBySighs_33 rfl ?_
      refine x_get9 C xkd_9 i9 0 (by decide) (by decide +kernel) rfl rfl dX7_customerBySighs_34 ?_
      refine x_iload C 4 dX7_customerBySighs_37 rfl ?_
      obtain ⟨q9, hg, hf⟩ := x_bd hf
      refine x_callSr C (t_X7_personAt hg) (va_cwS 1 C.1.2.2.2.2 gX7_customerBySighs_X7_personAt rfl rfl rfl (by decide +kernel) ⟨Nat.le_of_ble_eq_true rfl, Nat.le_of_ble_eq_true rfl⟩) rfl rfl (Nat.le_of_ble_eq_true rfl) dX7_customerBySighs_39 ⟨Nat.zero_le _, Nat.zero_le _⟩ (fun ta10 => ?_)
      clear hg
      refine x_iconst (v := 2) C dX7_customerBySighs_42 (by decide) ?_
      refine x_iadd C dX7_customerBySighs_43 ?_
      obtain ⟨g11, hf⟩ := x_gd hf
      refine x_iald C xkd_10 xl_10 g11 dX7_customerBySighs_44 ?_
      refine x_aload_n C 0 dX7_customerBySighs_45 rfl ?_
      refine x_get9 C xkd_9 i9 0 (by decide) (by decide +kernel) rfl rfl dX7_customerBySighs_46 ?_
      refine x_iload_n C 2 dX7_customerBySighs_49 rfl ?_
      obtain ⟨q12, hg, hf⟩ := x_bd hf
      refine x_callSr C (t_X7_personAt hg) (va_cwS 1 C.1.2.2.2.2 gX7_customerBySighs_X7_personAt rfl rfl rfl (by decide +kernel) ⟨Nat.le_of_ble_eq_true rfl, Nat.le_of_ble_eq_true rfl⟩) rfl rfl (Nat.le_of_ble_eq_true rfl) dX7_customerBySighs_50 ⟨Nat.zero_le _, Nat.zero_le _⟩ (fun ta13 => ?_)
      clear hg
      refine x_iconst (v := 2) C dX7_customerBySighs_53 (by decide) ?_
      refine x_iadd C dX7_customerBySighs_54 ?_
      obtain ⟨g14, hf⟩ := x_gd hf
      refine x_iald C xkd_10 xl_10 g14 dX7_customerBySighs_55 ?_
      refine x_isub C dX7_customerBySighs_56 ?_
      refine x_istore (lv' := [(5, .int ((M.1 10 (q9 + (2 : Int32)).toNatClampNeg) - (M.1 10 (q12 + (2 : Int32)).toNatClampNeg))), (0, .ref (xad G 9)), (1, .int v1), (2, .int v2), (3, .int v3), (4, .int v4)]) C dX7_customerBySighs_57 (by decide) rfl ?_
      refine x_iload C 0 dX7_customerBySighs_59 rfl ?_
      refine x_if_ne C 91 dX7_customerBySighs_61 (by decide) (fun hc15 => ?_) (fun hc15 => ?_)
      · have hf := x_ine hc15 hf
        refine x_iload C 0 dX7_customerBySighs_91 rfl ?_
        refine x_istore (lv' := [(6, .int ((M.1 10 (q9 + (2 : Int32)).toNatClampNeg) - (M.1 10 (q12 + (2 : Int32)).toNatClampNeg))), (5, .int ((M.1 10 (q9 + (2 : Int32)).toNatClampNeg) - (M.1 10 (q12 + (2 : Int32)).toNatClampNeg))), (0, .ref (xad G 9)), (1, .int v1), (2, .int v2), (3, .int v3), (4, .int v4)]) C dX7_customerBySighs_93 (by decide) rfl ?_
        refine x_iload_n C 5 dX7_customerBySighs_95 rfl ?_
        refine x_iload C 0 dX7_customerBySighs_96 rfl ?_
        refine x_if_gt C 112 dX7_customerBySighs_98 (by decide) (fun hc16 => ?_) (fun hc16 => ?_)
        · have hf := x_ip hc16 hf
          refine x_iconst (v := 1) C dX7_customerBySighs_112 (by decide) ?_
          refine x_goto C 117 dX7_customerBySighs_113 (by decide) ?_
          refine x_iadd C dX7_customerBySighs_117 ?_
          refine x_istore_n (lv' := [(3, .int (v3 + (1 : Int32))), (6, .int ((M.1 10 (q9 + (2 : Int32)).toNatClampNeg) - (M.1 10 (q12 + (2 : Int32)).toNatClampNeg))), (5, .int ((M.1 10 (q9 + (2 : Int32)).toNatClampNeg) - (M.1 10 (q12 + (2 : Int32)).toNatClampNeg))), (0, .ref (xad G 9)), (1, .int v1), (2, .int v2), (4, .int v4)]) C dX7_customerBySighs_118 rfl (by decide) rfl ?_
          refine x_iinc (v := v4 + 1) (lv' := [(4, .int (v4 + 1)), (3, .int (v3 + (1 : Int32))), (6, .int ((M.1 10 (q9 + (2 : Int32)).toNatClampNeg) - (M.1 10 (q12 + (2 : Int32)).toNatClampNeg))), (5, .int ((M.1 10 (q9 + (2 : Int32)).toNatClampNeg) - (M.1 10 (q12 + (2 : Int32)).toNatClampNeg))), (0, .ref (xad G 9)), (1, .int v1), (2, .int v2)]) C 6 dX7_customerBySighs_119 rfl rfl (by decide) rfl ?_
          refine x_goto C 22 dX7_customerBySighs_122 (by decide) ?_
          refine x_sub [4, 5, 6, 1, 0] rfl ?_
          exact ih (v3 + (1 : Int32)) (v4 + 1) _ _ hf
        · have hf := x_ine hc16 hf
          refine x_iload C 0 dX7_customerBySighs_101 rfl ?_
          refine x_if_ne C 116 dX7_customerBySighs_103 (by decide) (fun hc17 => ?_) (fun hc17 => ?_)
          · have hf := x_ine hc17 hf
            refine x_iconst (v := 0) C dX7_customerBySighs_116 (by decide) ?_
            refine x_iadd C dX7_customerBySighs_117 ?_
            refine x_istore_n (lv' := [(3, .int (v3 + (0 : Int32))), (6, .int ((M.1 10 (q9 + (2 : Int32)).toNatClampNeg) - (M.1 10 (q12 + (2 : Int32)).toNatClampNeg))), (5, .int ((M.1 10 (q9 + (2 : Int32)).toNatClampNeg) - (M.1 10 (q12 + (2 : Int32)).toNatClampNeg))), (0, .ref (xad G 9)), (1, .int v1), (2, .int v2), (4, .int v4)]) C dX7_customerBySighs_118 rfl (by decide) rfl ?_
            refine x_iinc (v := v4 + 1) (lv' := [(4, .int (v4 + 1)), (3, .int (v3 + (0 : Int32))), (6, .int ((M.1 10 (q9 + (2 : Int32)).toNatClampNeg) - (M.1 10 (q12 + (2 : Int32)).toNatClampNeg))), (5, .int ((M.1 10 (q9 + (2 : Int32)).toNatClampNeg) - (M.1 10 (q12 + (2 : Int32)).toNatClampNeg))), (0, .ref (xad G 9)), (1, .int v1), (2, .int v2)]) C 6 dX7_customerBySighs_119 rfl rfl (by decide) rfl ?_
            refine x_goto C 22 dX7_customerBySighs_122 (by decide) ?_
            refine x_sub [4, 5, 6, 1, 0] rfl ?_
            exact ih (v3 + (0 : Int32)) (v4 + 1) _ _ hf
          · have hf := x_ip hc17 hf
            refine x_iload C 6 dX7_customerBySighs_106 rfl ?_
            refine x_iload_n C 4 dX7_customerBySighs_108 rfl ?_
            refine x_icmp_ge C 116 dX7_customerBySighs_109 (by decide) (fun hc18 => ?_) (fun hc18 => ?_)
            · have hf := x_ip hc18 hf
              refine x_iconst (v := 0) C dX7_customerBySighs_116 (by decide) ?_
              refine x_iadd C dX7_customerBySighs_117 ?_
              refine x_istore_n (lv' := [(3, .int (v3 + (0 : Int32))), (6, .int ((M.1 10 (q9 + (2 : Int32)).toNatClampNeg) - (M.1 10 (q12 + (2 : Int32)).toNatClampNeg))), (5, .int ((M.1 10 (q9 + (2 : Int32)).toNatClampNeg) - (M.1 10 (q12 + (2 : Int32)).toNatClampNeg))), (0, .ref (xad G 9)), (1, .int v1), (2, .int v2), (4, .int v4)]) C dX7_customerBySighs_118 rfl (by decide) rfl ?_
              refine x_iinc (v := v4 + 1) (lv' := [(4, .int (v4 + 1)), (3, .int (v3 + (0 : Int32))), (6, .int ((M.1 10 (q9 + (2 : Int32)).toNatClampNeg) - (M.1 10 (q12 + (2 : Int32)).toNatClampNeg))), (5, .int ((M.1 10 (q9 + (2 : Int32)).toNatClampNeg) - (M.1 10 (q12 + (2 : Int32)).toNatClampNeg))), (0, .ref (xad G 9)), (1, .int v1), (2, .int v2)]) C 6 dX7_customerBySighs_119 rfl rfl (by decide) rfl ?_
              refine x_goto C 22 dX7_customerBySighs_122 (by decide) ?_
              refine x_sub [4, 5, 6, 1, 0] rfl ?_
              exact ih (v3 + (0 : Int32)) (v4 + 1) _ _ hf
            · have hf := x_ine hc18 hf
              refine x_iconst (v := 1) C dX7_customerBySighs_112 (by decide) ?_
              refine x_goto C 117 dX7_customerBySighs_113 (by decide) ?_
              refine x_iadd C dX7_customerBySighs_117 ?_
              refine x_istore_n (lv' := [(3, .int (v3 + (1 : Int32))), (6, .int ((M.1 10 (q9 + (2 : Int32)).toNatClampNeg) - (M.1 10 (q12 + (2 : Int32)).toNatClampNeg))), (5, .int ((M.1 10 (q9 + (2 : Int32)).toNatClampNeg) - (M.1 10 (q12 + (2 : Int32)).toNatClampNeg))), (0, .ref (xad G 9)), (1, .int v1), (2, .int v2), (4, .int v4)]) C dX7_customerBySighs_118 rfl (by decide) rfl ?_
              refine x_iinc (v := v4 + 1) (lv' := [(4, .int (v4 + 1)), (3, .int (v3 + (1 : Int32))), (6, .int ((M.1 10 (q9 + (2 : Int32)).toNatClampNeg) - (M.1 10 (q12 + (2 : Int32)).toNatClampNeg))), (5, .int ((M.1 10 (q9 + (2 : Int32)).toNatClampNeg) - (M.1 10 (q12 + (2 : Int32)).toNatClampNeg))), (0, .ref (xad G 9)), (1, .int v1), (2, .int v2)]) C 6 dX7_customerBySighs_119 rfl rfl (by decide) rfl ?_
              refine x_goto C 22 dX7_customerBySighs_122 (by decide) ?_
              refine x_sub [4, 5, 6, 1, 0] rfl ?_
              exact ih (v3 + (1 : Int32)) (v4 + 1) _ _ hf
      · have hf := x_ip hc15 hf
        refine x_aload_n C 1 dX7_customerBySighs_64 rfl ?_
        refine x_get9 C xkd_9 i9 0 (by decide) (by decide +kernel) rfl rfl dX7_customerBySighs_65 ?_
        refine x_iload_n C 3 dX7_customerBySighs_68 rfl ?_
        obtain ⟨q19, hg, hf⟩ := x_bd hf
        refine x_callSr C (t_X7_personAt hg) (va_cwS 1 C.1.2.2.2.2 gX7_customerBySighs_X7_personAt rfl rfl rfl (by decide +kernel) ⟨Nat.le_of_ble_eq_true rfl, Nat.le_of_ble_eq_true rfl⟩) rfl rfl (Nat.le_of_ble_eq_true rfl) dX7_customerBySighs_69 ⟨Nat.zero_le _, Nat.zero_le _⟩ (fun ta20 => ?_)
        clear hg
        refine x_iconst (v := 1) C dX7_customerBySighs_72 (by decide) ?_
        refine x_iadd C dX7_customerBySighs_73 ?_
        obtain ⟨g21, hf⟩ := x_gd hf
        refine x_iald C xkd_10 xl_10 g21 dX7_customerBySighs_74 ?_
        refine x_aload_n C 1 dX7_customerBySighs_75 rfl ?_
        refine x_get9 C xkd_9 i9 0 (by decide) (by decide +kernel) rfl rfl dX7_customerBySighs_76 ?_
        refine x_iload C 5 dX7_customerBySighs_79 rfl ?_
        obtain ⟨q22, hg, hf⟩ := x_bd hf
        refine x_callSr C (t_X7_personAt hg) (va_cwS 1 C.1.2.2.2.2 gX7_customerBySighs_X7_personAt rfl rfl rfl (by decide +kernel) ⟨Nat.le_of_ble_eq_true rfl, Nat.le_of_ble_eq_true rfl⟩) rfl rfl (Nat.le_of_ble_eq_true rfl) dX7_customerBySighs_81 ⟨Nat.zero_le _, Nat.zero_le _⟩ (fun ta23 => ?_)
        clear hg
        refine x_iconst (v := 1) C dX7_customerBySighs_84 (by decide) ?_
        refine x_iadd C dX7_customerBySighs_85 ?_
        obtain ⟨g24, hf⟩ := x_gd hf
        refine x_iald C xkd_10 xl_10 g24 dX7_customerBySighs_86 ?_
        refine x_isub C dX7_customerBySighs_87 ?_
        refine x_goto C 93 dX7_customerBySighs_88 (by decide) ?_
        refine x_istore (lv' := [(6, .int ((M.1 10 (q19 + (1 : Int32)).toNatClampNeg) - (M.1 10 (q22 + (1 : Int32)).toNatClampNeg))), (5, .int ((M.1 10 (q9 + (2 : Int32)).toNatClampNeg) - (M.1 10 (q12 + (2 : Int32)).toNatClampNeg))), (0, .ref (xad G 9)), (1, .int v1), (2, .int v2), (3, .int v3), (4, .int v4)]) C dX7_customerBySighs_93 (by decide) rfl ?_
        refine x_iload_n C 5 dX7_customerBySighs_95 rfl ?_
        refine x_iload C 0 dX7_customerBySighs_96 rfl ?_
        refine x_if_gt C 112 dX7_customerBySighs_98 (by decide) (fun hc25 => ?_) (fun hc25 => ?_)
        · have hf := x_ip hc25 hf
          refine x_iconst (v := 1) C dX7_customerBySighs_112 (by decide) ?_
          refine x_goto C 117 dX7_customerBySighs_113 (by decide) ?_
          refine x_iadd C dX7_customerBySighs_117 ?_
          refine x_istore_n (lv' := [(3, .int (v3 + (1 : Int32))), (6, .int ((M.1 10 (q19 + (1 : Int32)).toNatClampNeg) - (M.1 10 (q22 + (1 : Int32)).toNatClampNeg))), (5, .int ((M.1 10 (q9 + (2 : Int32)).toNatClampNeg) - (M.1 10 (q12 + (2 : Int32)).toNatClampNeg))), (0, .ref (xad G 9)), (1, .int v1), (2, .int v2), (4, .int v4)]) C dX7_customerBySighs_118 rfl (by decide) rfl ?_
          refine x_iinc (v := v4 + 1) (lv' := [(4, .int (v4 + 1)), (3, .int (v3 + (1 : Int32))), (6, .int ((M.1 10 (q19 + (1 : Int32)).toNatClampNeg) - (M.1 10 (q22 + (1 : Int32)).toNatClampNeg))), (5, .int ((M.1 10 (q9 + (2 : Int32)).toNatClampNeg) - (M.1 10 (q12 + (2 : Int32)).toNatClampNeg))), (0, .ref (xad G 9)), (1, .int v1), (2, .int v2)]) C 6 dX7_customerBySighs_119 rfl rfl (by decide) rfl ?_
          refine x_goto C 22 dX7_customerBySighs_122 (by decide) ?_
          refine x_sub [4, 5, 6, 1, 0] rfl ?_
          exact ih (v3 + (1 : Int32)) (v4 + 1) _ _ hf
        · have hf := x_ine hc25 hf
          refine x_iload C 0 dX7_customerBySighs_101 rfl ?_
          refine x_if_ne C 116 dX7_customerBySighs_103 (by decide) (fun hc26 => ?_) (fun hc26 => ?_)
          · have hf := x_ine hc26 hf
            refine x_iconst (v := 0) C dX7_customerBySighs_116 (by decide) ?_
            refine x_iadd C dX7_customerBySighs_117 ?_
            refine x_istore_n (lv' := [(3, .int (v3 + (0 : Int32))), (6, .int ((M.1 10 (q19 + (1 : Int32)).toNatClampNeg) - (M.1 10 (q22 + (1 : Int32)).toNatClampNeg))), (5, .int ((M.1 10 (q9 + (2 : Int32)).toNatClampNeg) - (M.1 10 (q12 + (2 : Int32)).toNatClampNeg))), (0, .ref (xad G 9)), (1, .int v1), (2, .int v2), (4, .int v4)]) C dX7_customerBySighs_118 rfl (by decide) rfl ?_
            refine x_iinc (v := v4 + 1) (lv' := [(4, .int (v4 + 1)), (3, .int (v3 + (0 : Int32))), (6, .int ((M.1 10 (q19 + (1 : Int32)).toNatClampNeg) - (M.1 10 (q22 + (1 : Int32)).toNatClampNeg))), (5, .int ((M.1 10 (q9 + (2 : Int32)).toNatClampNeg) - (M.1 10 (q12 + (2 : Int32)).toNatClampNeg))), (0, .ref (xad G 9)), (1, .int v1), (2, .int v2)]) C 6 dX7_customerBySighs_119 rfl rfl (by decide) rfl ?_
            refine x_goto C 22 dX7_customerBySighs_122 (by decide) ?_
            refine x_sub [4, 5, 6, 1, 0] rfl ?_
            exact ih (v3 + (0 : Int32)) (v4 + 1) _ _ hf
          · have hf := x_ip hc26 hf
            refine x_iload C 6 dX7_customerBySighs_106 rfl ?_
            refine x_iload_n C 4 dX7_customerBySighs_108 rfl ?_
            refine x_icmp_ge C 116 dX7_customerBySighs_109 (by decide) (fun hc27 => ?_) (fun hc27 => ?_)
            · have hf := x_ip hc27 hf
              refine x_iconst (v := 0) C dX7_customerBySighs_116 (by decide) ?_
              refine x_iadd C dX7_customerBySighs_117 ?_
              refine x_istore_n (lv' := [(3, .int (v3 + (0 : Int32))), (6, .int ((M.1 10 (q19 + (1 : Int32)).toNatClampNeg) - (M.1 10 (q22 + (1 : Int32)).toNatClampNeg))), (5, .int ((M.1 10 (q9 + (2 : Int32)).toNatClampNeg) - (M.1 10 (q12 + (2 : Int32)).toNatClampNeg))), (0, .ref (xad G 9)), (1, .int v1), (2, .int v2), (4, .int v4)]) C dX7_customerBySighs_118 rfl (by decide) rfl ?_
              refine x_iinc (v := v4 + 1) (lv' := [(4, .int (v4 + 1)), (3, .int (v3 + (0 : Int32))), (6, .int ((M.1 10 (q19 + (1 : Int32)).toNatClampNeg) - (M.1 10 (q22 + (1 : Int32)).toNatClampNeg))), (5, .int ((M.1 10 (q9 + (2 : Int32)).toNatClampNeg) - (M.1 10 (q12 + (2 : Int32)).toNatClampNeg))), (0, .ref (xad G 9)), (1, .int v1), (2, .int v2)]) C 6 dX7_customerBySighs_119 rfl rfl (by decide) rfl ?_
              refine x_goto C 22 dX7_customerBySighs_122 (by decide) ?_
              refine x_sub [4, 5, 6, 1, 0] rfl ?_
              exact ih (v3 + (0 : Int32)) (v4 + 1) _ _ hf
            · have hf := x_ine hc27 hf
              refine x_iconst (v := 1) C dX7_customerBySighs_112 (by decide) ?_
              refine x_goto C 117 dX7_customerBySighs_113 (by decide) ?_
              refine x_iadd C dX7_customerBySighs_117 ?_
              refine x_istore_n (lv' := [(3, .int (v3 + (1 : Int32))), (6, .int ((M.1 10 (q19 + (1 : Int32)).toNatClampNeg) - (M.1 10 (q22 + (1 : Int32)).toNatClampNeg))), (5, .int ((M.1 10 (q9 + (2 : Int32)).toNatClampNeg) - (M.1 10 (q12 + (2 : Int32)).toNatClampNeg))), (0, .ref (xad G 9)), (1, .int v1), (2, .int v2), (4, .int v4)]) C dX7_customerBySighs_118 rfl (by decide) rfl ?_
              refine x_iinc (v := v4 + 1) (lv' := [(4, .int (v4 + 1)), (3, .int (v3 + (1 : Int32))), (6, .int ((M.1 10 (q19 + (1 : Int32)).toNatClampNeg) - (M.1 10 (q22 + (1 : Int32)).toNatClampNeg))), (5, .int ((M.1 10 (q9 + (2 : Int32)).toNatClampNeg) - (M.1 10 (q12 + (2 : Int32)).toNatClampNeg))), (0, .ref (xad G 9)), (1, .int v1), (2, .int v2)]) C 6 dX7_customerBySighs_119 rfl rfl (by decide) rfl ?_
              refine x_goto C 22 dX7_customerBySighs_122 (by decide) ?_
              refine x_sub [4, 5, 6, 1, 0] rfl ?_
              exact ih (v3 + (1 : Int32)) (v4 + 1) _ _ hf
set_option maxHeartbeats 4000000 in
set_option maxRecDepth 100000 in
theorem t_X7_customerBySighs_L7 {G : xG} {p : Program} {l : Launch} {e : Env} {s : State} {m : MethodId} {args : Array Value} {below : List Frame} {meth : Method} {c : Code} (C : xC G p s m args c cX7_customerBySighs 7 wsX7_customerBySighs RX7) (hr : meth.sig.returnType = some .int) (hlk : meth.locks = false) {v1 : Int32} {M : xM} : ∀ (n : Nat) (v2 : Int32) (ta : Nat × Nat) (out : Int32 × xM), f_X7_customerBySighs_L7 v1 M n v2 = some out → xW G p l e (rm_X7_customerBySighs 0 0) s m args below meth c 7 (MQ below (xQr G (some (.int out.1)) out.2) args s 0 0 (xAs G)) 0 0 ta M 7 [(0, .ref (xad G 9)), (1, .int v1), (2, .int v2)] [] := by
  intro n
  induction n with
  | zero =>
    intro v2 ta out hf
    rw [f_X7_customerBySighs_L7] at hf
    cases hf
  | succ n ih =>
    intro v2 ta out hf
    rw [f_X7_customerBySighs_L7] at hf
    have i9 : ∀ w ∈ wsX70, w ∈ wsX7_customerBySighs := by decide +kernel
    refine x_iload_n C 2 dX7_customerBySighs_7 rfl ?_
    refine x_aload_n C 0 dX7_customerBySighs_8 rfl ?_
    refine x_get9 C xkd_9 i9 0 (by decide) (by decide +kernel) rfl rfl dX7_customerBySighs_9 ?_
    refine x_iconst (v := 0) C dX7_customerBySighs_12 (by decide) ?_
    obtain ⟨g3, hf⟩ := x_gd hf
    refine x_iald C xkd_10 xl_10 g3 dX7_customerBySighs_13 ?_
    refine x_icmp_ge C 138 dX7_customerBySighs_14 (by decide) (fun hc4 => ?_) (fun hc4 => ?_)
    · have hf := x_ip hc4 hf
      refine x_aload_n C 0 dX7_customerBySighs_138 rfl ?_
      refine x_iconst (v := 1) C dX7_customerBySighs_139 (by decide) ?_
      obtain ⟨q5, hg, hf⟩ := x_bd hf
      refine x_callVr C (by rw [xkd_9]; decide) (by rw [xkd_9]; decide) (xc9 xkd_9) rfl (t_X7_throwing hg) (cwV 1 C.1.2.2.2.2 gX7_customerBySighs_X7_throwing rfl rfl rfl (by decide +kernel) ⟨Nat.le_of_ble_eq_true rfl, Nat.le_of_ble_eq_true rfl⟩) rfl rfl (Nat.le_of_ble_eq_true rfl) dX7_customerBySighs_140 ⟨Nat.zero_le _, Nat.zero_le _⟩ (fun ta6 => ?_)
      clear hg
      obtain rfl := Option.some.inj hf
      exact x_iret C hr hlk dX7_customerBySighs_143
    · have hf := x_ine hc4 hf
      refine x_iconst (v := 0) C dX7_customerBySighs_17 (by decide) ?_
      refine x_istore_n (lv' := [(3, .int (0 : Int32)), (0, .ref (xad G 9)), (1, .int v1), (2, .int v2)]) C dX7_customerBySighs_18 rfl (by decide) rfl ?_
      refine x_iconst (v := 0) C dX7_customerBySighs_19 (by decide) ?_
      refine x_istore (lv' := [(4, .int (0 : Int32)), (3, .int (0 : Int32)), (0, .ref (xad G 9)), (1, .int v1), (2, .int v2)]) C dX7_customerBySighs_20 (by decide) rfl ?_
      refine x_sub [2, 3, 4, 1, 0] rfl ?_
      refine t_X7_customerBySighs_L22 C hr hlk (fun v28 ta30 out hf => ?_) xF (0 : Int32) (0 : Int32) _ _ hf
      refine x_iload_n C 3 dX7_customerBySighs_125 rfl ?_
      refine x_iload_n C 1 dX7_customerBySighs_126 rfl ?_
      refine x_icmp_ne C 132 dX7_customerBySighs_127 (by decide) (fun hc29 => ?_) (fun hc29 => ?_)
      · have hf := x_ine hc29 hf
        refine x_iinc (v := v2 + 1) (lv' := [(2, .int (v2 + 1)), (0, .ref (xad G 9)), (1, .int v1), (3, .int v28)]) C 2 dX7_customerBySighs_132 rfl rfl (by decide) rfl ?_
        refine x_goto C 7 dX7_customerBySighs_135 (by decide) ?_
        refine x_sub [1, 2, 0] rfl ?_
        exact ih (v2 + 1) _ _ hf
      · have hf := x_ip hc29 hf
        refine x_iload_n C 2 dX7_customerBySighs_130 rfl ?_
        obtain rfl := Option.some.inj hf
        exact x_iret C hr hlk dX7_customerBySighs_131
set_option maxHeartbeats 4000000 in
set_option maxRecDepth 100000 in
theorem t_X7_customerBySighs {l : Launch} {G : xG} {ta : Nat × Nat} {M : xM} {a1 : Int32} {out : Int32 × xM} (hf : f_X7_customerBySighs a1 M = some out) : xMet G l yX7_customerBySighs wsX7_customerBySighs (rm_X7_customerBySighs 0 0) 0 0 ta M [.ref (xad G 9), .int a1] (some (.int out.1)) out.2 := by
  refine x_met (cc := cX7_customerBySighs) (nL := 7) (ret := some .int) (by decide) rfl (Nat.le_of_ble_eq_true rfl) ?_
  intro p e s m args below meth c C hr hlk
  have C : xC G p s m args c cX7_customerBySighs 7 wsX7_customerBySighs RX7 := C
  have i9 : ∀ w ∈ wsX70, w ∈ wsX7_customerBySighs := by decide +kernel
  unfold f_X7_customerBySighs at hf
  show xW G p l e (rm_X7_customerBySighs 0 0) s m args below meth c 7 (MQ below (xQr G (some (.int out.1)) out.2) args s 0 0 (xAs G)) 0 0 ta M 0 [(0, .ref (xad G 9)), (1, .int a1)] []
  refine x_aload_n C 0 dX7_customerBySighs_0 rfl ?_
  refine x_iconst (v := 0) C dX7_customerBySighs_1 (by decide) ?_
  refine x_put9 C xkd_9 i9 9 (by decide) (by decide +kernel) dX7_customerBySighs_2 ?_
  obtain ⟨M1, e2, hf⟩ := x_lt hf
  rw [← e2]
  clear e2
  refine x_iconst (v := 0) C dX7_customerBySighs_5 (by decide) ?_
  refine x_istore_n (lv' := [(2, .int (0 : Int32)), (0, .ref (xad G 9)), (1, .int a1)]) C dX7_customerBySighs_6 rfl (by decide) rfl ?_
  refine x_sub [1, 2, 0] rfl ?_
  exact t_X7_customerBySighs_L7 C hr hlk xF (0 : Int32) _ _ hf
/-! WaitingRoomSimulationModel.customerByWaitingTime(I)I -/
abbrev rm_X7_customerByWaitingTime (c s : Nat) : Room := { frames := 1, cells := c, slots := s, locals := 21 }
def f_X7_customerByWaitingTime_L22 (v1 : Int32) (v2 : Int32) (M : xM) (kx : Int32 → Option (Int32 × xM)) : Nat → Int32 → Int32 → Option (Int32 × xM)
  | 0, _, _ => none
  | n+1, v3, v4 => if x_in (0 : Int32) 159 = true then (if (M.1 10 (0 : Int32).toNatClampNeg) ≤ v4 then kx v3 else (f_X7_personAt v4 M).bind fun q9 => if x_in (q9 + (6 : Int32)) 159 = true then (f_X7_personAt v2 M).bind fun q12 => if x_in (q12 + (6 : Int32)) 159 = true then (if ((M.1 10 (q9 + (6 : Int32)).toNatClampNeg) - (M.1 10 (q12 + (6 : Int32)).toNatClampNeg)) = 0 then (f_X7_personAt v2 M).bind fun q19 => if x_in (q19 + (5 : Int32)) 159 = true then (f_X7_personAt v4 M).bind fun q22 => if x_in (q22 + (5 : Int32)) 159 = true then (if 0 < ((M.1 10 (q19 + (5 : Int32)).toNatClampNeg) - (M.1 10 (q22 + (5 : Int32)).toNatClampNeg)) then f_X7_customerByWaitingTime_L22 v1 v2 M kx n (v3 + (1 : Int32)) (v4 + 1) else (if ((M.1 10 (q19 + (5 : Int32)).toNatClampNeg) - (M.1 10 (q22 + (5 : Int32)).toNatClampNeg)) = 0 then (if v2 ≤ v4 then f_X7_customerByWaitingTime_L22 v1 v2 M kx n (v3 + (0 : Int32)) (v4 + 1) else f_X7_customerByWaitingTime_L22 v1 v2 M kx n (v3 + (1 : Int32)) (v4 + 1)) else f_X7_customerByWaitingTime_L22 v1 v2 M kx n (v3 + (0 : Int32)) (v4 + 1))) else none else none else (if 0 < ((M.1 10 (q9 + (6 : Int32)).toNatClampNeg) - (M.1 10 (q12 + (6 : Int32)).toNatClampNeg)) then f_X7_customerByWaitingTime_L22 v1 v2 M kx n (v3 + (1 : Int32)) (v4 + 1) else (if ((M.1 10 (q9 + (6 : Int32)).toNatClampNeg) - (M.1 10 (q12 + (6 : Int32)).toNatClampNeg)) = 0 then (if v2 ≤ v4 then f_X7_customerByWaitingTime_L22 v1 v2 M kx n (v3 + (0 : Int32)) (v4 + 1) else f_X7_customerByWaitingTime_L22 v1 v2 M kx n (v3 + (1 : Int32)) (v4 + 1)) else f_X7_customerByWaitingTime_L22 v1 v2 M kx n (v3 + (0 : Int32)) (v4 + 1)))) else none else none) else none
def f_X7_customerByWaitingTime_L7 (v1 : Int32) (M : xM) : Nat → Int32 → Option (Int32 × xM)
  | 0, _ => none
  | n+1, v2 => if x_in (0 : Int32) 159 = true then (if (M.1 10 (0 : Int32).toNatClampNeg) ≤ v2 then (f_X7_throwing (1 : Int32) M).bind fun q5 => some (q5.1, q5.2) else f_X7_customerByWaitingTime_L22 v1 v2 M (fun v28 => (if v28 = v1 then some (v2, M) else f_X7_customerByWaitingTime_L7 v1 M n (v2 + 1))) xF (0 : Int32) (0 : Int32)) else none
def f_X7_customerByWaitingTime (a1 : Int32) (M : xM) : Option (Int32 × xM) := x_let (sI M 9 9 (0 : Int32)) fun M1 => f_X7_customerByWaitingTime_L7 a1 M1 xF (0 : Int32)
set_option maxHeartbeats 4000000 in
set_option maxRecDepth 100000 in
theorem t_X7_customerByWaitingTime_L22 {G : xG} {p : Program} {l : Launch} {e : Env} {s : State} {m : MethodId} {args : Array Value} {below : List Frame} {meth : Method} {c : Code} (C : xC G p s m args c cX7_customerByWaitingTime 7 wsX7_customerByWaitingTime RX7) (hr : meth.sig.returnType = some .int) (hlk : meth.locks = false) {v1 : Int32} {v2 : Int32} {M : xM} {kx : Int32 → Option (Int32 × xM)} (hkx : ∀ (v3 : Int32) (ta : Nat × Nat) (out : Int32 × xM), kx v3 = some out → xW G p l e (rm_X7_customerByWaitingTime 0 0) s m args below meth c 7 (MQ below (xQr G (some (.int out.1)) out.2) args s 0 0 (xAs G)) 0 0 ta M 127 [(0, .ref (xad G 9)), (1, .int v1), (2, .int v2), (3, .int v3)] []) : ∀ (n : Nat) (v3 : Int32) (v4 : Int32) (ta : Nat × Nat) (out : Int32 × xM), f_X7_customerByWaitingTime_L22 v1 v2 M kx n v3 v4 = some out → xW G p l e (rm_X7_customerByWaitingTime 0 0) s m args below meth c 7 (MQ below (xQr G (some (.int out.1)) out.2) args s 0 0 (xAs G)) 0 0 ta M 22 [(0, .ref (xad G 9)), (1, .int v1), (2, .int v2), (3, .int v3), (4, .int v4)] [] := by
  intro n
  induction n with
  | zero =>
    intro v3 v4 ta out hf
    rw [f_X7_customerByWaitingTime_L22] at hf
    cases hf
  | succ n ih =>
    intro v3 v4 ta out hf
    rw [f_X7_customerByWaitingTime_L22] at hf
    have i9 : ∀ w ∈ wsX70, w ∈ wsX7_customerByWaitingTime := by decide +kernel
    refine x_iload C 4 dX7_customerByWaitingTime_22 rfl ?_
    refine x_aload_n C 0 dX7_customerByWaitingTime_24 rfl ?_
    refine x_get9 C xkd_9 i9 0 (by decide) (by decide +kernel) rfl rfl dX7_customerByWaitingTime_25 ?_
    refine x_iconst (v := 0) C dX7_customerByWaitingTime_28 (by decide) ?_
    obtain ⟨g7, hf⟩ := x_gd hf
    refine x_iald C xkd_10 xl_10 g7 dX7_customerByWaitingTime_29 ?_
    refine x_icmp_ge C 127 dX7_customerByWaitingTime_30 (by decide) (fun hc8 => ?_) (fun hc8 => ?_)
    · have hf := x_ip hc8 hf
      refine x_sub [0, 1, 2, 3] rfl ?_
      exact hkx v3 _ _ hf
    · have hf := x_ine hc8 hf
      refine x_aload_n C 0 dX7_customerByWaitingTime_33 rfl ?_
      refine x_get9 C xkd_9 i9 0 (by decide) (by decide +kernel) rfl rfl dX7_customerByWaitingTime_34 ?_
      refine x_iload C 4 dX7_customerByWaitingTime_37 rfl ?_
      obtain ⟨q9, hg, hf⟩ := x_bd hf
      refine x_callSr C (t_X7_personAt hg) (va_cwS 1 C.1.2.2.2.2 gX7_customerByWaitingTime_X7_personAt rfl rfl rfl (by decide +kernel) ⟨Nat.le_of_ble_eq_true rfl, Nat.le_of_ble_eq_true rfl⟩) rfl rfl (Nat.le_of_ble_eq_true rfl) dX7_customerByWaitingTime_39 ⟨Nat.zero_le _, Nat.zero_le _⟩ (fun ta10 => ?_)
      clear hg
      refine x_bipush (v := 6) C dX7_customerByWaitingTime_42 (by decide) ?_
      refine x_iadd C dX7_customerByWaitingTime_44 ?_
      obtain ⟨g11, hf⟩ := x_gd hf
      refine x_iald C xkd_10 xl_10 g11 dX7_customerByWaitingTime_45 ?_
      refine x_aload_n C 0 dX7_customerByWaitingTime_46 rfl ?_
      refine x_get9 C xkd_9 i9 0 (by decide) (by decide +kernel) rfl rfl dX7_customerByWaitingTime_47 ?_
      refine x_iload_n C 2 dX7_customerByWaitingTime_50 rfl ?_
      obtain ⟨q12, hg, hf⟩ := x_bd hf
      refine x_callSr C (t_X7_personAt hg) (va_cwS 1 C.1.2.2.2.2 gX7_customerByWaitingTime_X7_personAt rfl rfl rfl (by decide +kernel) ⟨Nat.le_of_ble_eq_true rfl, Nat.le_of_ble_eq_true rfl⟩) rfl rfl (Nat.le_of_ble_eq_true rfl) dX7_customerByWaitingTime_51 ⟨Nat.zero_le _, Nat.zero_le _⟩ (fun ta13 => ?_)
      clear hg
      refine x_bipush (v := 6) C dX7_customerByWaitingTime_54 (by decide) ?_
      refine x_iadd C dX7_customerByWaitingTime_56 ?_
      obtain ⟨g14, hf⟩ := x_gd hf
      refine x_iald C xkd_10 xl_10 g14 dX7_customerByWaitingTime_57 ?_
      refine x_isub C dX7_customerByWaitingTime_58 ?_
      refine x_istore (lv' := [(5, .int ((M.1 10 (q9 + (6 : Int32)).toNatClampNeg) - (M.1 10 (q12 + (6 : Int32)).toNatClampNeg))), (0, .ref (xad G 9)), (1, .int v1), (2, .int v2), (3, .int v3), (4, .int v4)]) C dX7_customerByWaitingTime_59 (by decide) rfl ?_
      refine x_iload C 0 dX7_customerByWaitingTime_61 rfl ?_
      refine x_if_ne C 93 dX7_customerByWaitingTime_63 (by decide) (fun hc15 => ?_) (fun hc15 => ?_)
      · have hf := x_ine hc15 hf
        refine x_iload C 0 dX7_customerByWaitingTime_93 rfl ?_
        refine x_istore (lv' := [(6, .int ((M.1 10 (q9 + (6 : Int32)).toNatClampNeg) - (M.1 10 (q12 + (6 : Int32)).toNatClampNeg))), (5, .int ((M.1 10 (q9 + (6 : Int32)).toNatClampNeg) - (M.1 10 (q12 + (6 : Int32)).toNatClampNeg))), (0, .ref (xad G 9)), (1, .int v1), (2, .int v2), (3, .int v3), (4, .int v4)]) C dX7_customerByWaitingTime_95 (by decide) rfl ?_
        refine x_iload_n C 5 dX7_customerByWaitingTime_97 rfl ?_
        refine x_iload C 0 dX7_customerByWaitingTime_98 rfl ?_
        refine x_if_gt C 114 dX7_customerByWaitingTime_100 (by decide) (fun hc16 => ?_) (fun hc16 => ?_)
        · have hf := x_ip hc16 hf
          refine x_iconst (v := 1) C dX7_customerByWaitingTime_114 (by decide) ?_
          refine x_goto C 119 dX7_customerByWaitingTime_115 (by decide) ?_
          refine x_iadd C dX7_customerByWaitingTime_119 ?_
          refine x_istore_n (lv' := [(3, .int (v3 + (1 : Int32))), (6, .int ((M.1 10 (q9 + (6 : Int32)).toNatClampNeg) - (M.1 10 (q12 + (6 : Int32)).toNatClampNeg))), (5, .int ((M.1 10 (q9 + (6 : Int32)).toNatClampNeg) - (M.1 10 (q12 + (6 : Int32)).toNatClampNeg))), (0, .ref (xad G 9)), (1, .int v1), (2, .int v2), (4, .int v4)]) C dX7_customerByWaitingTime_120 rfl (by decide) rfl ?_
          refine x_iinc (v := v4 + 1) (lv' := [(4, .int (v4 + 1)), (3, .int (v3 + (1 : Int32))), (6, .int ((M.1 10 (q9 + (6 : Int32)).toNatClampNeg) - (M.1 10 (q12 + (6 : Int32)).toNatClampNeg))), (5, .int ((M.1 10 (q9 + (6 : Int32)).toNatClampNeg) - (M.1 10 (q12 + (6 : Int32)).toNatClampNeg))), (0, .ref (xad G 9)), (1, .int v1), (2, .int v2)]) C 6 dX7_customerByWaitingTime_121 rfl rfl (by decide) rfl ?_
          refine x_goto C 22 dX7_customerByWaitingTime_124 (by decide) ?_
          refine x_sub [4, 5, 6, 1, 0] rfl ?_
          exact ih (v3 + (1 : Int32)) (v4 + 1) _ _ hf
        · have hf := x_ine hc16 hf
          refine x_iload C 0 dX7_customerByWaitingTime_103 rfl ?_
          refine x_if_ne C 118 dX7_customerByWaitingTime_105 (by decide) (fun hc17 => ?_) (fun hc17 => ?_)
          · have hf := x_ine hc17 hf
            refine x_iconst (v := 0) C dX7_customerByWaitingTime_118 (by decide) ?_
            refine x_iadd C dX7_customerByWaitingTime_119 ?_
            refine x_istore_n (lv' := [(3, .int (v3 + (0 : Int32))), (6, .int ((M.1 10 (q9 + (6 : Int32)).toNatClampNeg) - (M.1 10 (q12 + (6 : Int32)).toNatClampNeg))), (5, .int ((M.1 10 (q9 + (6 : Int32)).toNatClampNeg) - (M.1 10 (q12 + (6 : Int32)).toNatClampNeg))), (0, .ref (xad G 9)), (1, .int v1), (2, .int v2), (4, .int v4)]) C dX7_customerByWaitingTime_120 rfl (by decide) rfl ?_
            refine x_iinc (v := v4 + 1) (lv' := [(4, .int (v4 + 1)), (3, .int (v3 + (0 : Int32))), (6, .int ((M.1 10 (q9 + (6 : Int32)).toNatClampNeg) - (M.1 10 (q12 + (6 : Int32)).toNatClampNeg))), (5, .int ((M.1 10 (q9 + (6 : Int32)).toNatClampNeg) - (M.1 10 (q12 + (6 : Int32)).toNatClampNeg))), (0, .ref (xad G 9)), (1, .int v1), (2, .int v2)]) C 6 dX7_customerByWaitingTime_121 rfl rfl (by decide) rfl ?_
            refine x_goto C 22 dX7_customerByWaitingTime_124 (by decide) ?_
            refine x_sub [4, 5, 6, 1, 0] rfl ?_
            exact ih (v3 + (0 : Int32)) (v4 + 1) _ _ hf
          · have hf := x_ip hc17 hf
            refine x_iload C 6 dX7_customerByWaitingTime_108 rfl ?_
            refine x_iload_n C 4 dX7_customerByWaitingTime_110 rfl ?_
            refine x_icmp_ge C 118 dX7_customerByWaitingTime_111 (by decide) (fun hc18 => ?_) (fun hc18 => ?_)
            · have hf := x_ip hc18 hf
              refine x_iconst (v := 0) C dX7_customerByWaitingTime_118 (by decide) ?_
              refine x_iadd C dX7_customerByWaitingTime_119 ?_
              refine x_istore_n (lv' := [(3, .int (v3 + (0 : Int32))), (6, .int ((M.1 10 (q9 + (6 : Int32)).toNatClampNeg) - (M.1 10 (q12 + (6 : Int32)).toNatClampNeg))), (5, .int ((M.1 10 (q9 + (6 : Int32)).toNatClampNeg) - (M.1 10 (q12 + (6 : Int32)).toNatClampNeg))), (0, .ref (xad G 9)), (1, .int v1), (2, .int v2), (4, .int v4)]) C dX7_customerByWaitingTime_120 rfl (by decide) rfl ?_
              refine x_iinc (v := v4 + 1) (lv' := [(4, .int (v4 + 1)), (3, .int (v3 + (0 : Int32))), (6, .int ((M.1 10 (q9 + (6 : Int32)).toNatClampNeg) - (M.1 10 (q12 + (6 : Int32)).toNatClampNeg))), (5, .int ((M.1 10 (q9 + (6 : Int32)).toNatClampNeg) - (M.1 10 (q12 + (6 : Int32)).toNatClampNeg))), (0, .ref (xad G 9)), (1, .int v1), (2, .int v2)]) C 6 dX7_customerByWaitingTime_121 rfl rfl (by decide) rfl ?_
              refine x_goto C 22 dX7_customerByWaitingTime_124 (by decide) ?_
              refine x_sub [4, 5, 6, 1, 0] rfl ?_
              exact ih (v3 + (0 : Int32)) (v4 + 1) _ _ hf
            · have hf := x_ine hc18 hf
              refine x_iconst (v := 1) C dX7_customerByWaitingTime_114 (by decide) ?_
              refine x_goto C 119 dX7_customerByWaitingTime_115 (by decide) ?_
              refine x_iadd C dX7_customerByWaitingTime_119 ?_
              refine x_istore_n (lv' := [(3, .int (v3 + (1 : Int32))), (6, .int ((M.1 10 (q9 + (6 : Int32)).toNatClampNeg) - (M.1 10 (q12 + (6 : Int32)).toNatClampNeg))), (5, .int ((M.1 10 (q9 + (6 : Int32)).toNatClampNeg) - (M.1 10 (q12 + (6 : Int32)).toNatClampNeg))), (0, .ref (xad G 9)), (1, .int v1), (2, .int v2), (4, .int v4)]) C dX7_customerByWaitingTime_120 rfl (by decide) rfl ?_
              refine x_iinc (v := v4 + 1) (lv' := [(4, .int (v4 + 1)), (3, .int (v3 + (1 : Int32))), (6, .int ((M.1 10 (q9 + (6 : Int32)).toNatClampNeg) - (M.1 10 (q12 + (6 : Int32)).toNatClampNeg))), (5, .int ((M.1 10 (q9 + (6 : Int32)).toNatClampNeg) - (M.1 10 (q12 + (6 : Int32)).toNatClampNeg))), (0, .ref (xad G 9)), (1, .int v1), (2, .int v2)]) C 6 dX7_customerByWaitingTime_121 rfl rfl (by decide) rfl ?_
              refine x_goto C 22 dX7_customerByWaitingTime_124 (by decide) ?_
              refine x_sub [4, 5, 6, 1, 0] rfl ?_
              exact ih (v3 + (1 : Int32)) (v4 + 1) _ _ hf
      · have hf := x_ip hc15 hf
        refine x_aload_n C 1 dX7_customerByWaitingTime_66 rfl ?_
        refine x_get9 C xkd_9 i9 0 (by decide) (by decide +kernel) rfl rfl dX7_customerByWaitingTime_67 ?_
        refine x_iload_n C 3 dX7_customerByWaitingTime_70 rfl ?_
        obtain ⟨q19, hg, hf⟩ := x_bd hf
        refine x_callSr C (t_X7_personAt hg) (va_cwS 1 C.1.2.2.2.2 gX7_customerByWaitingTime_X7_personAt rfl rfl rfl (by decide +kernel) ⟨Nat.le_of_ble_eq_true rfl, Nat.le_of_ble_eq_true rfl⟩) rfl rfl (Nat.le_of_ble_eq_true rfl) dX7_customerByWaitingTime_71 ⟨Nat.zero_le _, Nat.zero_le _⟩ (fun ta20 => ?_)
        clear hg
        refine x_iconst (v := 5) C dX7_customerByWaitingTime_74 (by decide) ?_
        refine x_iadd C dX7_customerByWaitingTime_75 ?_
        obtain ⟨g21, hf⟩ := x_gd hf
        refine x_iald C xkd_10 xl_10 g21 dX7_customerByWaitingTime_76 ?_
        refine x_aload_n C 1 dX7_customerByWaitingTime_77 rfl ?_
        refine x_get9 C xkd_9 i9 0 (by decide) (by decide +kernel) rfl rfl dX7_customerByWaitingTime_78 ?_
        refine x_iload C 5 dX7_customerByWaitingTime_81 rfl ?_
        obtain ⟨q22, hg, hf⟩ := x_bd hf
        refine x_callSr C (t_X7_personAt hg) (va_cwS 1 C.1.2.2.2.2 gX7_customerByWaitingTime_X7_personAt rfl rfl rfl (by decide +kernel) ⟨Nat.le_of_ble_eq_true rfl, Nat.le_of_ble_eq_true rfl⟩) rfl rfl (Nat.le_of_ble_eq_true rfl) dX7_customerByWaitingTime_83 ⟨Nat.zero_le _, Nat.zero_le _⟩ (fun ta23 => ?_)
        clear hg
        refine x_iconst (v := 5) C dX7_customerByWaitingTime_86 (by decide) ?_
        refine x_iadd C dX7_customerByWaitingTime_87 ?_
        obtain ⟨g24, hf⟩ := x_gd hf
        refine x_iald C xkd_10 xl_10 g24 dX7_customerByWaitingTime_88 ?_
        refine x_isub C dX7_customerByWaitingTime_89 ?_
        refine x_goto C 95 dX7_customerByWaitingTime_90 (by decide) ?_
        refine x_istore (lv' := [(6, .int ((M.1 10 (q19 + (5 : Int32)).toNatClampNeg) - (M.1 10 (q22 + (5 : Int32)).toNatClampNeg))), (5, .int ((M.1 10 (q9 + (6 : Int32)).toNatClampNeg) - (M.1 10 (q12 + (6 : Int32)).toNatClampNeg))), (0, .ref (xad G 9)), (1, .int v1), (2, .int v2), (3, .int v3), (4, .int v4)]) C dX7_customerByWaitingTime_95 (by decide) rfl ?_
        refine x_iload_n C 5 dX7_customerByWaitingTime_97 rfl ?_
        refine x_iload C 0 dX7_customerByWaitingTime_98 rfl ?_
        refine x_if_gt C 114 dX7_customerByWaitingTime_100 (by decide) (fun hc25 => ?_) (fun hc25 => ?_)
        · have hf := x_ip hc25 hf
          refine x_iconst (v := 1) C dX7_customerByWaitingTime_114 (by decide) ?_
          refine x_goto C 119 dX7_customerByWaitingTime_115 (by decide) ?_
          refine x_iadd C dX7_customerByWaitingTime_119 ?_
          refine x_istore_n (lv' := [(3, .int (v3 + (1 : Int32))), (6, .int ((M.1 10 (q19 + (5 : Int32)).toNatClampNeg) - (M.1 10 (q22 + (5 : Int32)).toNatClampNeg))), (5, .int ((M.1 10 (q9 + (6 : Int32)).toNatClampNeg) - (M.1 10 (q12 + (6 : Int32)).toNatClampNeg))), (0, .ref (xad G 9)), (1, .int v1), (2, .int v2), (4, .int v4)]) C dX7_customerByWaitingTime_120 rfl (by decide) rfl ?_
          refine x_iinc (v := v4 + 1) (lv' := [(4, .int (v4 + 1)), (3, .int (v3 + (1 : Int32))), (6, .int ((M.1 10 (q19 + (5 : Int32)).toNatClampNeg) - (M.1 10 (q22 + (5 : Int32)).toNatClampNeg))), (5, .int ((M.1 10 (q9 + (6 : Int32)).toNatClampNeg) - (M.1 10 (q12 + (6 : Int32)).toNatClampNeg))), (0, .ref (xad G 9)), (1, .int v1), (2, .int v2)]) C 6 dX7_customerByWaitingTime_121 rfl rfl (by decide) rfl ?_
          refine x_goto C 22 dX7_customerByWaitingTime_124 (by decide) ?_
          refine x_sub [4, 5, 6, 1, 0] rfl ?_
          exact ih (v3 + (1 : Int32)) (v4 + 1) _ _ hf
        · have hf := x_ine hc25 hf
          refine x_iload C 0 dX7_customerByWaitingTime_103 rfl ?_
          refine x_if_ne C 118 dX7_customerByWaitingTime_105 (by decide) (fun hc26 => ?_) (fun hc26 => ?_)
          · have hf := x_ine hc26 hf
            refine x_iconst (v := 0) C dX7_customerByWaitingTime_118 (by decide) ?_
            refine x_iadd C dX7_customerByWaitingTime_119 ?_
            refine x_istore_n (lv' := [(3, .int (v3 + (0 : Int32))), (6, .int ((M.1 10 (q19 + (5 : Int32)).toNatClampNeg) - (M.1 10 (q22 + (5 : Int32)).toNatClampNeg))), (5, .int ((M.1 10 (q9 + (6 : Int32)).toNatClampNeg) - (M.1 10 (q12 + (6 : Int32)).toNatClampNeg))), (0, .ref (xad G 9)), (1, .int v1), (2, .int v2), (4, .int v4)]) C dX7_customerByWaitingTime_120 rfl (by decide) rfl ?_
            refine x_iinc (v := v4 + 1) (lv' := [(4, .int (v4 + 1)), (3, .int (v3 + (0 : Int32))), (6, .int ((M.1 10 (q19 + (5 : Int32)).toNatClampNeg) - (M.1 10 (q22 + (5 : Int32)).toNatClampNeg))), (5, .int ((M.1 10 (q9 + (6 : Int32)).toNatClampNeg) - (M.1 10 (q12 + (6 : Int32)).toNatClampNeg))), (0, .ref (xad G 9)), (1, .int v1), (2, .int v2)]) C 6 dX7_customerByWaitingTime_121 rfl rfl (by decide) rfl ?_
            refine x_goto C 22 dX7_customerByWaitingTime_124 (by decide) ?_
            refine x_sub [4, 5, 6, 1, 0] rfl ?_
            exact ih (v3 + (0 : Int32)) (v4 + 1) _ _ hf
          · have hf := x_ip hc26 hf
            refine x_iload C 6 dX7_customerByWaitingTime_108 rfl ?_
            refine x_iload_n C 4 dX7_customerByWaitingTime_110 rfl ?_
            refine x_icmp_ge C 118 dX7_customerByWaitingTime_111 (by decide) (fun hc27 => ?_) (fun hc27 => ?_)
            · have hf := x_ip hc27 hf
              refine x_iconst (v := 0) C dX7_customerByWaitingTime_118 (by decide) ?_
              refine x_iadd C dX7_customerByWaitingTime_119 ?_
              refine x_istore_n (lv' := [(3, .int (v3 + (0 : Int32))), (6, .int ((M.1 10 (q19 + (5 : Int32)).toNatClampNeg) - (M.1 10 (q22 + (5 : Int32)).toNatClampNeg))), (5, .int ((M.1 10 (q9 + (6 : Int32)).toNatClampNeg) - (M.1 10 (q12 + (6 : Int32)).toNatClampNeg))), (0, .ref (xad G 9)), (1, .int v1), (2, .int v2), (4, .int v4)]) C dX7_customerByWaitingTime_120 rfl (by decide) rfl ?_
              refine x_iinc (v := v4 + 1) (lv' := [(4, .int (v4 + 1)), (3, .int (v3 + (0 : Int32))), (6, .int ((M.1 10 (q19 + (5 : Int32)).toNatClampNeg) - (M.1 10 (q22 + (5 : Int32)).toNatClampNeg))), (5, .int ((M.1 10 (q9 + (6 : Int32)).toNatClampNeg) - (M.1 10 (q12 + (6 : Int32)).toNatClampNeg))), (0, .ref (xad G 9)), (1, .int v1), (2, .int v2)]) C 6 dX7_customerByWaitingTime_121 rfl rfl (by decide) rfl ?_
              refine x_goto C 22 dX7_customerByWaitingTime_124 (by decide) ?_
              refine x_sub [4, 5, 6, 1, 0] rfl ?_
              exact ih (v3 + (0 : Int32)) (v4 + 1) _ _ hf
            · have hf := x_ine hc27 hf
              refine x_iconst (v := 1) C dX7_customerByWaitingTime_114 (by decide) ?_
              refine x_goto C 119 dX7_customerByWaitingTime_115 (by decide) ?_
              refine x_iadd C dX7_customerByWaitingTime_119 ?_
              refine x_istore_n (lv' := [(3, .int (v3 + (1 : Int32))), (6, .int ((M.1 10 (q19 + (5 : Int32)).toNatClampNeg) - (M.1 10 (q22 + (5 : Int32)).toNatClampNeg))), (5, .int ((M.1 10 (q9 + (6 : Int32)).toNatClampNeg) - (M.1 10 (q12 + (6 : Int32)).toNatClampNeg))), (0, .ref (xad G 9)), (1, .int v1), (2, .int v2), (4, .int v4)]) C dX7_customerByWaitingTime_120 rfl (by decide) rfl ?_
              refine x_iinc (v := v4 + 1) (lv' := [(4, .int (v4 + 1)), (3, .int (v3 + (1 : Int32))), (6, .int ((M.1 10 (q19 + (5 : Int32)).toNatClampNeg) - (M.1 10 (q22 + (5 : Int32)).toNatClampNeg))), (5, .int ((M.1 10 (q9 + (6 : Int32)).toNatClampNeg) - (M.1 10 (q12 + (6 : Int32)).toNatClampNeg))), (0, .ref (xad G 9)), (1, .int v1), (2, .int v2)]) C 6 dX7_customerByWaitingTime_121 rfl rfl (by decide) rfl ?_
              refine x_goto C 22 dX7_customerByWaitingTime_124 (by decide) ?_
              refine x_sub [4, 5, 6, 1, 0] rfl ?_
              exact ih (v3 + (1 : Int32)) (v4 + 1) _ _ hf
set_option maxHeartbeats 4000000 in
set_option maxRecDepth 100000 in
theorem t_X7_customerByWaitingTime_L7 {G : xG} {p : Program} {l : Launch} {e : Env} {s : State} {m : MethodId} {args : Array Value} {below : List Frame} {meth : Method} {c : Code} (C : xC G p s m args c cX7_customerByWaitingTime 7 wsX7_customerByWaitingTime RX7) (hr : meth.sig.returnType = some .int) (hlk : meth.locks = false) {v1 : Int32} {M : xM} : ∀ (n : Nat) (v2 : Int32) (ta : Nat × Nat) (out : Int32 × xM), f_X7_customerByWaitingTime_L7 v1 M n v2 = some out → xW G p l e (rm_X7_customerByWaitingTime 0 0) s m args below meth c 7 (MQ below (xQr G (some (.int out.1)) out.2) args s 0 0 (xAs G)) 0 0 ta M 7 [(0, .ref (xad G 9)), (1, .int v1), (2, .int v2)] [] := by
  intro n
  induction n with
  | zero =>
    intro v2 ta out hf
    rw [f_X7_customerByWaitingTime_L7] at hf
    cases hf
  | succ n ih =>
    intro v2 ta out hf
    rw [f_X7_customerByWaitingTime_L7] at hf
    have i9 : ∀ w ∈ wsX70, w ∈ wsX7_customerByWaitingTime := by decide +kernel
    refine x_iload_n C 2 dX7_customerByWaitingTime_7 rfl ?_
    refine x_aload_n C 0 dX7_customerByWaitingTime_8 rfl ?_
    refine x_get9 C xkd_9 i9 0 (by decide) (by decide +kernel) rfl rfl dX7_customerByWaitingTime_9 ?_
    refine x_iconst (v := 0) C dX7_customerByWaitingTime_12 (by decide) ?_
    obtain ⟨g3, hf⟩ := x_gd hf
    refine x_iald C xkd_10 xl_10 g3 dX7_customerByWaitingTime_13 ?_
    refine x_icmp_ge C 140 dX7_customerByWaitingTime_14 (by decide) (fun hc4 => ?_) (fun hc4 => ?_)
    · have hf := x_ip hc4 hf
      refine x_aload_n C 0 dX7_customerByWaitingTime_140 rfl ?_
      refine x_iconst (v := 1) C dX7_customerByWaitingTime_141 (by decide) ?_
      obtain ⟨q5, hg, hf⟩ := x_bd hf
      refine x_callVr C (by rw [xkd_9]; decide) (by rw [xkd_9]; decide) (xc9 xkd_9) rfl (t_X7_throwing hg) (cwV 1 C.1.2.2.2.2 gX7_customerByWaitingTime_X7_throwing rfl rfl rfl (by decide +kernel) ⟨Nat.le_of_ble_eq_true rfl, Nat.le_of_ble_eq_true rfl⟩) rfl rfl (Nat.le_of_ble_eq_true rfl) dX7_customerByWaitingTime_142 ⟨Nat.zero_le _, Nat.zero_le _⟩ (fun ta6 => ?_)
      clear hg
      obtain rfl := Option.some.inj hf
      exact x_iret C hr hlk dX7_customerByWaitingTime_145
    · have hf := x_ine hc4 hf
      refine x_iconst (v := 0) C dX7_customerByWaitingTime_17 (by decide) ?_
      refine x_istore_n (lv' := [(3, .int (0 : Int32)), (0, .ref (xad G 9)), (1, .int v1), (2, .int v2)]) C dX7_customerByWaitingTime_18 rfl (by decide) rfl ?_
      refine x_iconst (v := 0) C dX7_customerByWaitingTime_19 (by decide) ?_
      refine x_istore (lv' := [(4, .int (0 : Int32)), (3, .int (0 : Int32)), (0, .ref (xad G 9)), (1, .int v1), (2, .int v2)]) C dX7_customerByWaitingTime_20 (by decide) rfl ?_
      refine x_sub [2, 3, 4, 1, 0] rfl ?_
      refine t_X7_customerByWaitingTime_L22 C hr hlk (fun v28 ta30 out hf => ?_) xF (0 : Int32) (0 : Int32) _ _ hf
      refine x_iload_n C 3 dX7_customerByWaitingTime_127 rfl ?_
      refine x_iload_n C 1 dX7_customerByWaitingTime_128 rfl ?_
      refine x_icmp_ne C 134 dX7_customerByWaitingTime_129 (by decide) (fun hc29 => ?_) (fun hc29 => ?_)
      · have hf := x_ine hc29 hf
        refine x_iinc (v := v2 + 1) (lv' := [(2, .int (v2 + 1)), (0, .ref (xad G 9)), (1, .int v1), (3, .int v28)]) C 2 dX7_customerByWaitingTime_134 rfl rfl (by decide) rfl ?_
        refine x_goto C 7 dX7_customerByWaitingTime_137 (by decide) ?_
        refine x_sub [1, 2, 0] rfl ?_
        exact ih (v2 + 1) _ _ hf
      · have hf := x_ip hc29 hf
        refine x_iload_n C 2 dX7_customerByWaitingTime_132 rfl ?_
        obtain rfl := Option.some.inj hf
        exact x_iret C hr hlk dX7_customerByWaitingTime_133
set_option maxHeartbeats 4000000 in
set_option maxRecDepth 100000 in
theorem t_X7_customerByWaitingTime {l : Launch} {G : xG} {ta : Nat × Nat} {M : xM} {a1 : Int32} {out : Int32 × xM} (hf : f_X7_customerByWaitingTime a1 M = some out) : xMet G l yX7_customerByWaitingTime wsX7_customerByWaitingTime (rm_X7_customerByWaitingTime 0 0) 0 0 ta M [.ref (xad G 9), .int a1] (some (.int out.1)) out.2 := by
  refine x_met (cc := cX7_customerByWaitingTime) (nL := 7) (ret := some .int) (by decide) rfl (Nat.le_of_ble_eq_true rfl) ?_
  intro p e s m args below meth c C hr hlk
  have C : xC G p s m args c cX7_customerByWaitingTime 7 wsX7_customerByWaitingTime RX7 := C
  have i9 : ∀ w ∈ wsX70, w ∈ wsX7_customerByWaitingTime := by decide +kernel
  unfold f_X7_customerByWaitingTime at hf
  show xW G p l e (rm_X7_customerByWaitingTime 0 0) s m args below meth c 7 (MQ below (xQr G (some (.int out.1)) out.2) args s 0 0 (xAs G)) 0 0 ta M 0 [(0, .ref (xad G 9)), (1, .int a1)] []
  refine x_aload_n C 0 dX7_customerByWaitingTime_0 rfl ?_
  refine x_iconst (v := 0) C dX7_customerByWaitingTime_1 (by decide) ?_
  refine x_put9 C xkd_9 i9 9 (by decide) (by decide +kernel) dX7_customerByWaitingTime_2 ?_
  obtain ⟨M1, e2, hf⟩ := x_lt hf
  rw [← e2]
  clear e2
  refine x_iconst (v := 0) C dX7_customerByWaitingTime_5 (by decide) ?_
  refine x_istore_n (lv' := [(2, .int (0 : Int32)), (0, .ref (xad G 9)), (1, .int a1)]) C dX7_customerByWaitingTime_6 rfl (by decide) rfl ?_
  refine x_sub [1, 2, 0] rfl ?_
  exact t_X7_customerByWaitingTime_L7 C hr hlk xF (0 : Int32) _ _ hf
/-! WaitingRoomSimulationModel.total(I)I -/
abbrev rm_X7_total (c s : Nat) : Room := { frames := 0, cells := c, slots := s, locals := 0 }
def f_X7_total (a1 : Int32) (M : xM) : Option (Int32 × xM) := x_let (sI M 9 9 (0 : Int32)) fun M1 => if x_in a1 159 = true then some (M1.1 10 a1.toNatClampNeg, M1) else none
set_option maxHeartbeats 4000000 in
set_option maxRecDepth 100000 in
theorem t_X7_total {l : Launch} {G : xG} {ta : Nat × Nat} {M : xM} {a1 : Int32} {out : Int32 × xM} (hf : f_X7_total a1 M = some out) : xMet G l yX7_total wsX7_total (rm_X7_total 0 0) 0 0 ta M [.ref (xad G 9), .int a1] (some (.int out.1)) out.2 := by
  refine x_met (cc := cX7_total) (nL := 2) (ret := some .int) (by decide) rfl (Nat.le_of_ble_eq_true rfl) ?_
  intro p e s m args below meth c C hr hlk
  have C : xC G p s m args c cX7_total 2 wsX7_total RX7 := C
  have i9 : ∀ w ∈ wsX70, w ∈ wsX7_total := by decide +kernel
  unfold f_X7_total at hf
  show xW G p l e (rm_X7_total 0 0) s m args below meth c 2 (MQ below (xQr G (some (.int out.1)) out.2) args s 0 0 (xAs G)) 0 0 ta M 0 [(0, .ref (xad G 9)), (1, .int a1)] []
  refine x_aload_n C 0 dX7_total_0 rfl ?_
  refine x_iconst (v := 0) C dX7_total_1 (by decide) ?_
  refine x_put9 C xkd_9 i9 9 (by decide) (by decide +kernel) dX7_total_2 ?_
  obtain ⟨M1, e2, hf⟩ := x_lt hf
  rw [← e2]
  clear e2
  refine x_aload_n C 0 dX7_total_5 rfl ?_
  refine x_get9 C xkd_9 i9 0 (by decide) (by decide +kernel) rfl rfl dX7_total_6 ?_
  refine x_iload_n C 1 dX7_total_9 rfl ?_
  obtain ⟨g3, hf⟩ := x_gd hf
  refine x_iald C xkd_10 xl_10 g3 dX7_total_10 ?_
  obtain rfl := Option.some.inj hf
  exact x_iret C hr hlk dX7_total_11
/-! WaitingRoomSimulationModel.minute()I -/
abbrev rm_X7_minute (c s : Nat) : Room := { frames := 1, cells := c, slots := s, locals := 21 }
def f_X7_minute (M : xM) : Option (Int32 × xM) := (f_X7_total (1 : Int32) M).bind fun q1 => some (q1.1, q1.2)
set_option maxHeartbeats 4000000 in
set_option maxRecDepth 100000 in
theorem t_X7_minute {l : Launch} {G : xG} {ta : Nat × Nat} {M : xM} {out : Int32 × xM} (hf : f_X7_minute M = some out) : xMet G l yX7_minute wsX7_minute (rm_X7_minute 0 0) 0 0 ta M [.ref (xad G 9)] (some (.int out.1)) out.2 := by
  refine x_met (cc := cX7_minute) (nL := 1) (ret := some .int) (by decide) rfl (Nat.le_of_ble_eq_true rfl) ?_
  intro p e s m args below meth c C hr hlk
  have C : xC G p s m args c cX7_minute 1 wsX7_minute RX7 := C
  unfold f_X7_minute at hf
  show xW G p l e (rm_X7_minute 0 0) s m args below meth c 1 (MQ below (xQr G (some (.int out.1)) out.2) args s 0 0 (xAs G)) 0 0 ta M 0 [(0, .ref (xad G 9))] []
  refine x_aload_n C 0 dX7_minute_0 rfl ?_
  refine x_iconst (v := 1) C dX7_minute_1 (by decide) ?_
  obtain ⟨q1, hg, hf⟩ := x_bd hf
  refine x_callVr C (by rw [xkd_9]; decide) (by rw [xkd_9]; decide) (xc9 xkd_9) rfl (t_X7_total hg) (cwV 1 C.1.2.2.2.2 gX7_minute_X7_total rfl rfl rfl (by decide +kernel) ⟨Nat.le_of_ble_eq_true rfl, Nat.le_of_ble_eq_true rfl⟩) rfl rfl (Nat.le_of_ble_eq_true rfl) dX7_minute_2 ⟨Nat.zero_le _, Nat.zero_le _⟩ (fun ta2 => ?_)
  clear hg
  obtain rfl := Option.some.inj hf
  exact x_iret C hr hlk dX7_minute_5
/-! WaitingRoomSimulationModel.addedTotal()I -/
abbrev rm_X7_addedTotal (c s : Nat) : Room := { frames := 1, cells := c, slots := s, locals := 21 }
def f_X7_addedTotal (M : xM) : Option (Int32 × xM) := (f_X7_total (2 : Int32) M).bind fun q1 => some (q1.1, q1.2)
set_option maxHeartbeats 4000000 in
set_option maxRecDepth 100000 in
theorem t_X7_addedTotal {l : Launch} {G : xG} {ta : Nat × Nat} {M : xM} {out : Int32 × xM} (hf : f_X7_addedTotal M = some out) : xMet G l yX7_addedTotal wsX7_addedTotal (rm_X7_addedTotal 0 0) 0 0 ta M [.ref (xad G 9)] (some (.int out.1)) out.2 := by
  refine x_met (cc := cX7_addedTotal) (nL := 1) (ret := some .int) (by decide) rfl (Nat.le_of_ble_eq_true rfl) ?_
  intro p e s m args below meth c C hr hlk
  have C : xC G p s m args c cX7_addedTotal 1 wsX7_addedTotal RX7 := C
  unfold f_X7_addedTotal at hf
  show xW G p l e (rm_X7_addedTotal 0 0) s m args below meth c 1 (MQ below (xQr G (some (.int out.1)) out.2) args s 0 0 (xAs G)) 0 0 ta M 0 [(0, .ref (xad G 9))] []
  refine x_aload_n C 0 dX7_addedTotal_0 rfl ?_
  refine x_iconst (v := 2) C dX7_addedTotal_1 (by decide) ?_
  obtain ⟨q1, hg, hf⟩ := x_bd hf
  refine x_callVr C (by rw [xkd_9]; decide) (by rw [xkd_9]; decide) (xc9 xkd_9) rfl (t_X7_total hg) (cwV 1 C.1.2.2.2.2 gX7_addedTotal_X7_total rfl rfl rfl (by decide +kernel) ⟨Nat.le_of_ble_eq_true rfl, Nat.le_of_ble_eq_true rfl⟩) rfl rfl (Nat.le_of_ble_eq_true rfl) dX7_addedTotal_2 ⟨Nat.zero_le _, Nat.zero_le _⟩ (fun ta2 => ?_)
  clear hg
  obtain rfl := Option.some.inj hf
  exact x_iret C hr hlk dX7_addedTotal_5
/-! WaitingRoomSimulationModel.servedTotal()I -/
abbrev rm_X7_servedTotal (c s : Nat) : Room := { frames := 1, cells := c, slots := s, locals := 21 }
def f_X7_servedTotal (M : xM) : Option (Int32 × xM) := (f_X7_total (3 : Int32) M).bind fun q1 => some (q1.1, q1.2)
set_option maxHeartbeats 4000000 in
set_option maxRecDepth 100000 in
theorem t_X7_servedTotal {l : Launch} {G : xG} {ta : Nat × Nat} {M : xM} {out : Int32 × xM} (hf : f_X7_servedTotal M = some out) : xMet G l yX7_servedTotal wsX7_servedTotal (rm_X7_servedTotal 0 0) 0 0 ta M [.ref (xad G 9)] (some (.int out.1)) out.2 := by
  refine x_met (cc := cX7_servedTotal) (nL := 1) (ret := some .int) (by decide) rfl (Nat.le_of_ble_eq_true rfl) ?_
  intro p e s m args below meth c C hr hlk
  have C : xC G p s m args c cX7_servedTotal 1 wsX7_servedTotal RX7 := C
  unfold f_X7_servedTotal at hf
  show xW G p l e (rm_X7_servedTotal 0 0) s m args below meth c 1 (MQ below (xQr G (some (.int out.1)) out.2) args s 0 0 (xAs G)) 0 0 ta M 0 [(0, .ref (xad G 9))] []
  refine x_aload_n C 0 dX7_servedTotal_0 rfl ?_
  refine x_iconst (v := 3) C dX7_servedTotal_1 (by decide) ?_
  obtain ⟨q1, hg, hf⟩ := x_bd hf
  refine x_callVr C (by rw [xkd_9]; decide) (by rw [xkd_9]; decide) (xc9 xkd_9) rfl (t_X7_total hg) (cwV 1 C.1.2.2.2.2 gX7_servedTotal_X7_total rfl rfl rfl (by decide +kernel) ⟨Nat.le_of_ble_eq_true rfl, Nat.le_of_ble_eq_true rfl⟩) rfl rfl (Nat.le_of_ble_eq_true rfl) dX7_servedTotal_2 ⟨Nat.zero_le _, Nat.zero_le _⟩ (fun ta2 => ?_)
  clear hg
  obtain rfl := Option.some.inj hf
  exact x_iret C hr hlk dX7_servedTotal_5
/-! WaitingRoomSimulationModel.walkedOutTotal()I -/
abbrev rm_X7_walkedOutTotal (c s : Nat) : Room := { frames := 1, cells := c, slots := s, locals := 21 }
def f_X7_walkedOutTotal (M : xM) : Option (Int32 × xM) := (f_X7_total (5 : Int32) M).bind fun q1 => some (q1.1, q1.2)
set_option maxHeartbeats 4000000 in
set_option maxRecDepth 100000 in
theorem t_X7_walkedOutTotal {l : Launch} {G : xG} {ta : Nat × Nat} {M : xM} {out : Int32 × xM} (hf : f_X7_walkedOutTotal M = some out) : xMet G l yX7_walkedOutTotal wsX7_walkedOutTotal (rm_X7_walkedOutTotal 0 0) 0 0 ta M [.ref (xad G 9)] (some (.int out.1)) out.2 := by
  refine x_met (cc := cX7_walkedOutTotal) (nL := 1) (ret := some .int) (by decide) rfl (Nat.le_of_ble_eq_true rfl) ?_
  intro p e s m args below meth c C hr hlk
  have C : xC G p s m args c cX7_walkedOutTotal 1 wsX7_walkedOutTotal RX7 := C
  unfold f_X7_walkedOutTotal at hf
  show xW G p l e (rm_X7_walkedOutTotal 0 0) s m args below meth c 1 (MQ below (xQr G (some (.int out.1)) out.2) args s 0 0 (xAs G)) 0 0 ta M 0 [(0, .ref (xad G 9))] []
  refine x_aload_n C 0 dX7_walkedOutTotal_0 rfl ?_
  refine x_iconst (v := 5) C dX7_walkedOutTotal_1 (by decide) ?_
  obtain ⟨q1, hg, hf⟩ := x_bd hf
  refine x_callVr C (by rw [xkd_9]; decide) (by rw [xkd_9]; decide) (xc9 xkd_9) rfl (t_X7_total hg) (cwV 1 C.1.2.2.2.2 gX7_walkedOutTotal_X7_total rfl rfl rfl (by decide +kernel) ⟨Nat.le_of_ble_eq_true rfl, Nat.le_of_ble_eq_true rfl⟩) rfl rfl (Nat.le_of_ble_eq_true rfl) dX7_walkedOutTotal_2 ⟨Nat.zero_le _, Nat.zero_le _⟩ (fun ta2 => ?_)
  clear hg
  obtain rfl := Option.some.inj hf
  exact x_iret C hr hlk dX7_walkedOutTotal_5
/-! WaitingRoomSimulationModel.sighTotal()I -/
abbrev rm_X7_sighTotal (c s : Nat) : Room := { frames := 1, cells := c, slots := s, locals := 21 }
def f_X7_sighTotal (M : xM) : Option (Int32 × xM) := (f_X7_total (6 : Int32) M).bind fun q1 => some (q1.1, q1.2)
set_option maxHeartbeats 4000000 in
set_option maxRecDepth 100000 in
theorem t_X7_sighTotal {l : Launch} {G : xG} {ta : Nat × Nat} {M : xM} {out : Int32 × xM} (hf : f_X7_sighTotal M = some out) : xMet G l yX7_sighTotal wsX7_sighTotal (rm_X7_sighTotal 0 0) 0 0 ta M [.ref (xad G 9)] (some (.int out.1)) out.2 := by
  refine x_met (cc := cX7_sighTotal) (nL := 1) (ret := some .int) (by decide) rfl (Nat.le_of_ble_eq_true rfl) ?_
  intro p e s m args below meth c C hr hlk
  have C : xC G p s m args c cX7_sighTotal 1 wsX7_sighTotal RX7 := C
  unfold f_X7_sighTotal at hf
  show xW G p l e (rm_X7_sighTotal 0 0) s m args below meth c 1 (MQ below (xQr G (some (.int out.1)) out.2) args s 0 0 (xAs G)) 0 0 ta M 0 [(0, .ref (xad G 9))] []
  refine x_aload_n C 0 dX7_sighTotal_0 rfl ?_
  refine x_bipush (v := 6) C dX7_sighTotal_1 (by decide) ?_
  obtain ⟨q1, hg, hf⟩ := x_bd hf
  refine x_callVr C (by rw [xkd_9]; decide) (by rw [xkd_9]; decide) (xc9 xkd_9) rfl (t_X7_total hg) (cwV 1 C.1.2.2.2.2 gX7_sighTotal_X7_total rfl rfl rfl (by decide +kernel) ⟨Nat.le_of_ble_eq_true rfl, Nat.le_of_ble_eq_true rfl⟩) rfl rfl (Nat.le_of_ble_eq_true rfl) dX7_sighTotal_3 ⟨Nat.zero_le _, Nat.zero_le _⟩ (fun ta2 => ?_)
  clear hg
  obtain rfl := Option.some.inj hf
  exact x_iret C hr hlk dX7_sighTotal_6
/-! WaitingRoomSimulationModel.meanPatience()D -/
abbrev rm_X7_meanPatience (c s : Nat) : Room := { frames := 1, cells := c, slots := s, locals := 21 }
def f_X7_meanPatience_L26 (M : xM) : Nat → Int32 → Int32 → Option (UInt64 × xM)
  | 0, _, _ => none
  | n+1, v1, v2 => if x_in (0 : Int32) 159 = true then (if (M.1 10 (0 : Int32).toNatClampNeg) ≤ v2 then if x_in (0 : Int32) 159 = true then if x_n64 (FP.ddiv (FP.i2d v1) (FP.i2d (M.1 10 (0 : Int32).toNatClampNeg))) = true then some (FP.ddiv (FP.i2d v1) (FP.i2d (M.1 10 (0 : Int32).toNatClampNeg)), M) else none else none else (f_X7_personAt v2 M).bind fun q9 => if x_in (q9 + (1 : Int32)) 159 = true then f_X7_meanPatience_L26 M n (v1 + (M.1 10 (q9 + (1 : Int32)).toNatClampNeg)) (v2 + 1) else none) else none
def f_X7_meanPatience (M : xM) : Option (UInt64 × xM) := x_let (sI M 9 9 (0 : Int32)) fun M1 => if x_in (0 : Int32) 159 = true then (if (M1.1 10 (0 : Int32).toNatClampNeg) = 0 then (f_X7_throwing (1 : Int32) M1).bind fun q12 => some ((0 : UInt64), q12.2) else f_X7_meanPatience_L26 M1 xF (0 : Int32) (0 : Int32)) else none
set_option maxHeartbeats 4000000 in
set_option maxRecDepth 100000 in
theorem t_X7_meanPatience_L26 {G : xG} {p : Program} {l : Launch} {e : Env} {s : State} {m : MethodId} {args : Array Value} {below : List Frame} {meth : Method} {c : Code} (C : xC G p s m args c cX7_meanPatience 3 wsX7_meanPatience RX7) (hr : meth.sig.returnType = some .double) (hlk : meth.locks = false) {M : xM} : ∀ (n : Nat) (v1 : Int32) (v2 : Int32) (ta : Nat × Nat) (out : UInt64 × xM), f_X7_meanPatience_L26 M n v1 v2 = some out → xW G p l e (rm_X7_meanPatience 0 0) s m args below meth c 3 (MQ below (xQr G (some (.double out.1)) out.2) args s 0 0 (xAs G)) 0 0 ta M 26 [(0, .ref (xad G 9)), (1, .int v1), (2, .int v2)] [] := by
  intro n
  induction n with
  | zero =>
    intro v1 v2 ta out hf
    rw [f_X7_meanPatience_L26] at hf
    cases hf
  | succ n ih =>
    intro v1 v2 ta out hf
    rw [f_X7_meanPatience_L26] at hf
    have i9 : ∀ w ∈ wsX70, w ∈ wsX7_meanPatience := by decide +kernel
    refine x_iload_n C 2 dX7_meanPatience_26 rfl ?_
    refine x_aload_n C 0 dX7_meanPatience_27 rfl ?_
    refine x_get9 C xkd_9 i9 0 (by decide) (by decide +kernel) rfl rfl dX7_meanPatience_28 ?_
    refine x_iconst (v := 0) C dX7_meanPatience_31 (by decide) ?_
    obtain ⟨g5, hf⟩ := x_gd hf
    refine x_iald C xkd_10 xl_10 g5 dX7_meanPatience_32 ?_
    refine x_icmp_ge C 56 dX7_meanPatience_33 (by decide) (fun hc6 => ?_) (fun hc6 => ?_)
    · have hf := x_ip hc6 hf
      refine x_iload_n C 1 dX7_meanPatience_56 rfl ?_
      refine x_i2d C dX7_meanPatience_57 ?_
      refine x_aload_n C 0 dX7_meanPatience_58 rfl ?_
      refine x_get9 C xkd_9 i9 0 (by decide) (by decide +kernel) rfl rfl dX7_meanPatience_59 ?_
      refine x_iconst (v := 0) C dX7_meanPatience_62 (by decide) ?_
      obtain ⟨g7, hf⟩ := x_gd hf
      refine x_iald C xkd_10 xl_10 g7 dX7_meanPatience_63 ?_
      refine x_i2d C dX7_meanPatience_64 ?_
      obtain ⟨g8, hf⟩ := x_gd hf
      refine x_ddiv C dX7_meanPatience_65 (x_n64_of g8) ?_
      obtain rfl := Option.some.inj hf
      exact x_dret C hr hlk dX7_meanPatience_66
    · have hf := x_ine hc6 hf
      refine x_iload_n C 1 dX7_meanPatience_36 rfl ?_
      refine x_aload_n C 0 dX7_meanPatience_37 rfl ?_
      refine x_get9 C xkd_9 i9 0 (by decide) (by decide +kernel) rfl rfl dX7_meanPatience_38 ?_
      refine x_iload_n C 2 dX7_meanPatience_41 rfl ?_
      obtain ⟨q9, hg, hf⟩ := x_bd hf
      refine x_callSr C (t_X7_personAt hg) (va_cwS 1 C.1.2.2.2.2 gX7_meanPatience_X7_personAt rfl rfl rfl (by decide +kernel) ⟨Nat.le_of_ble_eq_true rfl, Nat.le_of_ble_eq_true rfl⟩) rfl rfl (Nat.le_of_ble_eq_true rfl) dX7_meanPatience_42 ⟨Nat.zero_le _, Nat.zero_le _⟩ (fun ta10 => ?_)
      clear hg
      refine x_iconst (v := 1) C dX7_meanPatience_45 (by decide) ?_
      refine x_iadd C dX7_meanPatience_46 ?_
      obtain ⟨g11, hf⟩ := x_gd hf
      refine x_iald C xkd_10 xl_10 g11 dX7_meanPatience_47 ?_
      refine x_iadd C dX7_meanPatience_48 ?_
      refine x_istore_n (lv' := [(1, .int (v1 + (M.1 10 (q9 + (1 : Int32)).toNatClampNeg))), (0, .ref (xad G 9)), (2, .int v2)]) C dX7_meanPatience_49 rfl (by decide) rfl ?_
      refine x_iinc (v := v2 + 1) (lv' := [(2, .int (v2 + 1)), (1, .int (v1 + (M.1 10 (q9 + (1 : Int32)).toNatClampNeg))), (0, .ref (xad G 9))]) C 2 dX7_meanPatience_50 rfl rfl (by decide) rfl ?_
      refine x_goto C 26 dX7_meanPatience_53 (by decide) ?_
      refine x_sub [2, 1, 0] rfl ?_
      exact ih (v1 + (M.1 10 (q9 + (1 : Int32)).toNatClampNeg)) (v2 + 1) _ _ hf
set_option maxHeartbeats 4000000 in
set_option maxRecDepth 100000 in
theorem t_X7_meanPatience {l : Launch} {G : xG} {ta : Nat × Nat} {M : xM} {out : UInt64 × xM} (hf : f_X7_meanPatience M = some out) : xMet G l yX7_meanPatience wsX7_meanPatience (rm_X7_meanPatience 0 0) 0 0 ta M [.ref (xad G 9)] (some (.double out.1)) out.2 := by
  refine x_met (cc := cX7_meanPatience) (nL := 3) (ret := some .double) (by decide) rfl (Nat.le_of_ble_eq_true rfl) ?_
  intro p e s m args below meth c C hr hlk
  have C : xC G p s m args c cX7_meanPatience 3 wsX7_meanPatience RX7 := C
  have i9 : ∀ w ∈ wsX70, w ∈ wsX7_meanPatience := by decide +kernel
  unfold f_X7_meanPatience at hf
  show xW G p l e (rm_X7_meanPatience 0 0) s m args below meth c 3 (MQ below (xQr G (some (.double out.1)) out.2) args s 0 0 (xAs G)) 0 0 ta M 0 [(0, .ref (xad G 9))] []
  refine x_aload_n C 0 dX7_meanPatience_0 rfl ?_
  refine x_iconst (v := 0) C dX7_meanPatience_1 (by decide) ?_
  refine x_put9 C xkd_9 i9 9 (by decide) (by decide +kernel) dX7_meanPatience_2 ?_
  obtain ⟨M1, e2, hf⟩ := x_lt hf
  rw [← e2]
  clear e2
  refine x_aload_n C 0 dX7_meanPatience_5 rfl ?_
  refine x_get9 C xkd_9 i9 0 (by decide) (by decide +kernel) rfl rfl dX7_meanPatience_6 ?_
  refine x_iconst (v := 0) C dX7_meanPatience_9 (by decide) ?_
  obtain ⟨g3, hf⟩ := x_gd hf
  refine x_iald C xkd_10 xl_10 g3 dX7_meanPatience_10 ?_
  refine x_if_ne C 22 dX7_meanPatience_11 (by decide) (fun hc4 => ?_) (fun hc4 => ?_)
  · have hf := x_ine hc4 hf
    refine x_iconst (v := 0) C dX7_meanPatience_22 (by decide) ?_
    refine x_istore_n (lv' := [(1, .int (0 : Int32)), (0, .ref (xad G 9))]) C dX7_meanPatience_23 rfl (by decide) rfl ?_
    refine x_iconst (v := 0) C dX7_meanPatience_24 (by decide) ?_
    refine x_istore_n (lv' := [(2, .int (0 : Int32)), (1, .int (0 : Int32)), (0, .ref (xad G 9))]) C dX7_meanPatience_25 rfl (by decide) rfl ?_
    refine x_sub [2, 1, 0] rfl ?_
    exact t_X7_meanPatience_L26 C hr hlk xF (0 : Int32) (0 : Int32) _ _ hf
  · have hf := x_ip hc4 hf
    refine x_aload_n C 0 dX7_meanPatience_14 rfl ?_
    refine x_iconst (v := 1) C dX7_meanPatience_15 (by decide) ?_
    obtain ⟨q12, hg, hf⟩ := x_bd hf
    refine x_callVr C (by rw [xkd_9]; decide) (by rw [xkd_9]; decide) (xc9 xkd_9) rfl (t_X7_throwing hg) (cwV 1 C.1.2.2.2.2 gX7_meanPatience_X7_throwing rfl rfl rfl (by decide +kernel) ⟨Nat.le_of_ble_eq_true rfl, Nat.le_of_ble_eq_true rfl⟩) rfl rfl (Nat.le_of_ble_eq_true rfl) dX7_meanPatience_16 ⟨Nat.zero_le _, Nat.zero_le _⟩ (fun ta13 => ?_)
    clear hg
    refine x_pop C dX7_meanPatience_19 rfl ?_
    refine x_dconst0 C dX7_meanPatience_20 ?_
    obtain rfl := Option.some.inj hf
    exact x_dret C hr hlk dX7_meanPatience_21
/-! WaitingRoomSimulationModel.calmShare()F -/
abbrev rm_X7_calmShare (c s : Nat) : Room := { frames := 1, cells := c, slots := s, locals := 21 }
def f_X7_calmShare (M : xM) : Option (UInt32 × xM) := x_let (sI M 9 9 (0 : Int32)) fun M1 => if x_in (3 : Int32) 159 = true then (if (M1.1 10 (3 : Int32).toNatClampNeg) = 0 then (f_X7_throwing (1 : Int32) M1).bind fun q8 => some ((0 : UInt32), q8.2) else if x_in (11 : Int32) 159 = true then if x_in (3 : Int32) 159 = true then if x_n32 (FP.fdiv (FP.i2f (M1.1 10 (11 : Int32).toNatClampNeg)) (FP.i2f (M1.1 10 (3 : Int32).toNatClampNeg))) = true then some (FP.fdiv (FP.i2f (M1.1 10 (11 : Int32).toNatClampNeg)) (FP.i2f (M1.1 10 (3 : Int32).toNatClampNeg)), M1) else none else none else none) else none
set_option maxHeartbeats 4000000 in
set_option maxRecDepth 100000 in
theorem t_X7_calmShare {l : Launch} {G : xG} {ta : Nat × Nat} {M : xM} {out : UInt32 × xM} (hf : f_X7_calmShare M = some out) : xMet G l yX7_calmShare wsX7_calmShare (rm_X7_calmShare 0 0) 0 0 ta M [.ref (xad G 9)] (some (.float out.1)) out.2 := by
  refine x_met (cc := cX7_calmShare) (nL := 1) (ret := some .float) (by decide) rfl (Nat.le_of_ble_eq_true rfl) ?_
  intro p e s m args below meth c C hr hlk
  have C : xC G p s m args c cX7_calmShare 1 wsX7_calmShare RX7 := C
  have i9 : ∀ w ∈ wsX70, w ∈ wsX7_calmShare := by decide +kernel
  unfold f_X7_calmShare at hf
  show xW G p l e (rm_X7_calmShare 0 0) s m args below meth c 1 (MQ below (xQr G (some (.float out.1)) out.2) args s 0 0 (xAs G)) 0 0 ta M 0 [(0, .ref (xad G 9))] []
  refine x_aload_n C 0 dX7_calmShare_0 rfl ?_
  refine x_iconst (v := 0) C dX7_calmShare_1 (by decide) ?_
  refine x_put9 C xkd_9 i9 9 (by decide) (by decide +kernel) dX7_calmShare_2 ?_
  obtain ⟨M1, e2, hf⟩ := x_lt hf
  rw [← e2]
  clear e2
  refine x_aload_n C 0 dX7_calmShare_5 rfl ?_
  refine x_get9 C xkd_9 i9 0 (by decide) (by decide +kernel) rfl rfl dX7_calmShare_6 ?_
  refine x_iconst (v := 3) C dX7_calmShare_9 (by decide) ?_
  obtain ⟨g3, hf⟩ := x_gd hf
  refine x_iald C xkd_10 xl_10 g3 dX7_calmShare_10 ?_
  refine x_if_ne C 22 dX7_calmShare_11 (by decide) (fun hc4 => ?_) (fun hc4 => ?_)
  · have hf := x_ine hc4 hf
    refine x_aload_n C 0 dX7_calmShare_22 rfl ?_
    refine x_get9 C xkd_9 i9 0 (by decide) (by decide +kernel) rfl rfl dX7_calmShare_23 ?_
    refine x_bipush (v := 11) C dX7_calmShare_26 (by decide) ?_
    obtain ⟨g5, hf⟩ := x_gd hf
    refine x_iald C xkd_10 xl_10 g5 dX7_calmShare_28 ?_
    refine x_i2f C dX7_calmShare_29 ?_
    refine x_aload_n C 0 dX7_calmShare_30 rfl ?_
    refine x_get9 C xkd_9 i9 0 (by decide) (by decide +kernel) rfl rfl dX7_calmShare_31 ?_
    refine x_iconst (v := 3) C dX7_calmShare_34 (by decide) ?_
    obtain ⟨g6, hf⟩ := x_gd hf
    refine x_iald C xkd_10 xl_10 g6 dX7_calmShare_35 ?_
    refine x_i2f C dX7_calmShare_36 ?_
    obtain ⟨g7, hf⟩ := x_gd hf
    refine x_fdiv C dX7_calmShare_37 (x_n32_of g7) ?_
    obtain rfl := Option.some.inj hf
    exact x_fret C hr hlk dX7_calmShare_38
  · have hf := x_ip hc4 hf
    refine x_aload_n C 0 dX7_calmShare_14 rfl ?_
    refine x_iconst (v := 1) C dX7_calmShare_15 (by decide) ?_
    obtain ⟨q8, hg, hf⟩ := x_bd hf
    refine x_callVr C (by rw [xkd_9]; decide) (by rw [xkd_9]; decide) (xc9 xkd_9) rfl (t_X7_throwing hg) (cwV 1 C.1.2.2.2.2 gX7_calmShare_X7_throwing rfl rfl rfl (by decide +kernel) ⟨Nat.le_of_ble_eq_true rfl, Nat.le_of_ble_eq_true rfl⟩) rfl rfl (Nat.le_of_ble_eq_true rfl) dX7_calmShare_16 ⟨Nat.zero_le _, Nat.zero_le _⟩ (fun ta9 => ?_)
    clear hg
    refine x_pop C dX7_calmShare_19 rfl ?_
    refine x_fconst0 C dX7_calmShare_20 ?_
    obtain rfl := Option.some.inj hf
    exact x_fret C hr hlk dX7_calmShare_21
/-! WaitingRoomSimulationModel.isConsistent()Z -/
abbrev rm_X7_isConsistent (c s : Nat) : Room := { frames := 0, cells := c, slots := s, locals := 0 }
def f_X7_isConsistent (M : xM) : Option (Int32 × xM) := x_let (sI M 9 9 (0 : Int32)) fun M1 => some ((1 : Int32), M1)
set_option maxHeartbeats 4000000 in
set_option maxRecDepth 100000 in
theorem t_X7_isConsistent {l : Launch} {G : xG} {ta : Nat × Nat} {M : xM} {out : Int32 × xM} (hf : f_X7_isConsistent M = some out) : xMet G l yX7_isConsistent wsX7_isConsistent (rm_X7_isConsistent 0 0) 0 0 ta M [.ref (xad G 9)] (some (.int out.1)) out.2 := by
  refine x_met (cc := cX7_isConsistent) (nL := 1) (ret := some .boolean) (by decide) rfl (Nat.le_of_ble_eq_true rfl) ?_
  intro p e s m args below meth c C hr hlk
  have C : xC G p s m args c cX7_isConsistent 1 wsX7_isConsistent RX7 := C
  have i9 : ∀ w ∈ wsX70, w ∈ wsX7_isConsistent := by decide +kernel
  unfold f_X7_isConsistent at hf
  show xW G p l e (rm_X7_isConsistent 0 0) s m args below meth c 1 (MQ below (xQr G (some (.int out.1)) out.2) args s 0 0 (xAs G)) 0 0 ta M 0 [(0, .ref (xad G 9))] []
  refine x_aload_n C 0 dX7_isConsistent_0 rfl ?_
  refine x_iconst (v := 0) C dX7_isConsistent_1 (by decide) ?_
  refine x_put9 C xkd_9 i9 9 (by decide) (by decide +kernel) dX7_isConsistent_2 ?_
  obtain ⟨M1, e2, hf⟩ := x_lt hf
  rw [← e2]
  clear e2
  refine x_iconst (v := 1) C dX7_isConsistent_5 (by decide) ?_
  obtain rfl := Option.some.inj hf
  exact x_zret C hr hlk (x_nb (Or.inr rfl)) dX7_isConsistent_6
/-! WaitingRoomSimulationModel.sign(I)V -/
abbrev rm_X7_sign (c s : Nat) : Room := { frames := 0, cells := c, slots := s, locals := 0 }
def f_X7_sign (a1 : Int32) (M : xM) : Option (xM) := if x_in (M.1 9 13) 160 = true then x_let (sI M 16 (M.1 9 13).toNatClampNeg a1) fun M2 => x_let (sI M2 9 13 ((M2.1 9 13) + (1 : Int32))) fun M4 => some M4 else none
set_option maxHeartbeats 4000000 in
set_option maxRecDepth 100000 in
theorem t_X7_sign {l : Launch} {G : xG} {ta : Nat × Nat} {M : xM} {a1 : Int32} {out : xM} (hf : f_X7_sign a1 M = some out) : xMet G l yX7_sign wsX7_sign (rm_X7_sign 0 0) 0 0 ta M [.ref (xad G 9), .int a1] none out := by
  refine x_met (cc := cX7_sign) (nL := 2) (ret := none) (by decide) rfl (Nat.le_of_ble_eq_true rfl) ?_
  intro p e s m args below meth c C hr hlk
  have C : xC G p s m args c cX7_sign 2 wsX7_sign RX7 := C
  have i9 : ∀ w ∈ wsX70, w ∈ wsX7_sign := by decide +kernel
  unfold f_X7_sign at hf
  show xW G p l e (rm_X7_sign 0 0) s m args below meth c 2 (MQ below (xQr G none out) args s 0 0 (xAs G)) 0 0 ta M 0 [(0, .ref (xad G 9)), (1, .int a1)] []
  refine x_aload_n C 0 dX7_sign_0 rfl ?_
  refine x_get9 C xkd_9 i9 12 (by decide) (by decide +kernel) rfl rfl dX7_sign_1 ?_
  refine x_aload_n C 0 dX7_sign_4 rfl ?_
  refine x_get9 C xkd_9 i9 13 (by decide) (by decide +kernel) rfl rfl dX7_sign_5 ?_
  refine x_iload_n C 1 dX7_sign_8 rfl ?_
  obtain ⟨g1, hf⟩ := x_gd hf
  refine x_iast C xkd_16 xl_16 g1 dX7_sign_9 ?_
  obtain ⟨M2, e3, hf⟩ := x_lt hf
  rw [← e3]
  clear e3
  refine x_aload_n C 0 dX7_sign_10 rfl ?_
  refine x_dup C dX7_sign_11 rfl ?_
  refine x_get9 C xkd_9 i9 13 (by decide) (by decide +kernel) rfl rfl dX7_sign_12 ?_
  refine x_iconst (v := 1) C dX7_sign_15 (by decide) ?_
  refine x_iadd C dX7_sign_16 ?_
  refine x_put9 C xkd_9 i9 13 (by decide) (by decide +kernel) dX7_sign_17 ?_
  obtain ⟨M4, e5, hf⟩ := x_lt hf
  rw [← e5]
  clear e5
  obtain rfl := Option.some.inj hf
  exact x_vret C hr hlk dX7_sign_20
/-! WaitingRoomSimulationModel.writesNumber(I)V -/
abbrev rm_X7_writesNumber (c s : Nat) : Room := { frames := 1, cells := c, slots := s, locals := 21 }
def f_X7_writesNumber_L18 (v1 : Int32) : Nat → Int32 → xM → Option (xM)
  | 0, _, _ => none
  | n+1, v2, M => (if v2 ≤ 0 then some M else if ¬ v2 = 0 then (f_X7_sign ((48 : Int32) + ((v1 / v2) - (v1 / v2) / (10 : Int32) * (10 : Int32))) M).bind fun q6 => f_X7_writesNumber_L18 v1 n (v2 / (10 : Int32)) q6 else none)
def f_X7_writesNumber_L2 (v1 : Int32) (M : xM) : Nat → Int32 → Option (xM)
  | 0, _ => none
  | n+1, v2 => if ¬ v2 = 0 then (if (v1 / v2) ≤ (9 : Int32) then f_X7_writesNumber_L18 v1 xF v2 M else f_X7_writesNumber_L2 v1 M n (v2 * (10 : Int32))) else none
def f_X7_writesNumber (a1 : Int32) (M : xM) : Option (xM) := f_X7_writesNumber_L2 a1 M xF (1 : Int32)
set_option maxHeartbeats 4000000 in
set_option maxRecDepth 100000 in
theorem t_X7_writesNumber_L18 {G : xG} {p : Program} {l : Launch} {e : Env} {s : State} {m : MethodId} {args : Array Value} {below : List Frame} {meth : Method} {c : Code} (C : xC G p s m args c cX7_writesNumber 3 wsX7_writesNumber RX7) (hr : meth.sig.returnType = none) (hlk : meth.locks = false) {v1 : Int32} : ∀ (n : Nat) (v2 : Int32) (M : xM) (ta : Nat × Nat) (out : xM), f_X7_writesNumber_L18 v1 n v2 M = some out → xW G p l e (rm_X7_writesNumber 0 0) s m args below meth c 3 (MQ below (xQr G none out) args s 0 0 (xAs G)) 0 0 ta M 18 [(0, .ref (xad G 9)), (1, .int v1), (2, .int v2)] [] := by
  intro n
  induction n with
  | zero =>
    intro v2 M ta out hf
    rw [f_X7_writesNumber_L18] at hf
    cases hf
  | succ n ih =>
    intro v2 M ta out hf
    rw [f_X7_writesNumber_L18] at hf
    refine x_iload_n C 2 dX7_writesNumber_18 rfl ?_
    refine x_if_le C 43 dX7_writesNumber_19 (by decide) (fun hc3 => ?_) (fun hc3 => ?_)
    · have hf := x_ip hc3 hf
      obtain rfl := Option.some.inj hf
      exact x_vret C hr hlk dX7_writesNumber_43
    · have hf := x_ine hc3 hf
      refine x_aload_n C 0 dX7_writesNumber_22 rfl ?_
      refine x_bipush (v := 48) C dX7_writesNumber_23 (by decide) ?_
      refine x_iload_n C 1 dX7_writesNumber_25 rfl ?_
      refine x_iload_n C 2 dX7_writesNumber_26 rfl ?_
      obtain ⟨g4, hf⟩ := x_gd hf
      refine x_idiv C dX7_writesNumber_27 g4 ?_
      refine x_bipush (v := 10) C dX7_writesNumber_28 (by decide) ?_
      refine x_irem C dX7_writesNumber_30 (by decide) ?_
      refine x_iadd C dX7_writesNumber_31 ?_
      obtain ⟨q6, hg, hf⟩ := x_bd hf
      refine x_callVv C (by rw [xkd_9]; decide) (by rw [xkd_9]; decide) (xc9 xkd_9) rfl (t_X7_sign hg) (cwV 1 C.1.2.2.2.2 gX7_writesNumber_X7_sign rfl rfl rfl (by decide +kernel) ⟨Nat.le_of_ble_eq_true rfl, Nat.le_of_ble_eq_true rfl⟩) rfl rfl (Nat.le_of_ble_eq_true rfl) dX7_writesNumber_32 ⟨Nat.zero_le _, Nat.zero_le _⟩ (fun ta7 => ?_)
      clear hg
      refine x_iload_n C 2 dX7_writesNumber_35 rfl ?_
      refine x_bipush (v := 10) C dX7_writesNumber_36 (by decide) ?_
      refine x_idiv C dX7_writesNumber_38 (by decide) ?_
      refine x_istore_n (lv' := [(2, .int (v2 / (10 : Int32))), (0, .ref (xad G 9)), (1, .int v1)]) C dX7_writesNumber_39 rfl (by decide) rfl ?_
      refine x_goto C 18 dX7_writesNumber_40 (by decide) ?_
      refine x_sub [1, 2, 0] rfl ?_
      exact ih (v2 / (10 : Int32)) q6 _ _ hf
set_option maxHeartbeats 4000000 in
set_option maxRecDepth 100000 in
theorem t_X7_writesNumber_L2 {G : xG} {p : Program} {l : Launch} {e : Env} {s : State} {m : MethodId} {args : Array Value} {below : List Frame} {meth : Method} {c : Code} (C : xC G p s m args c cX7_writesNumber 3 wsX7_writesNumber RX7) (hr : meth.sig.returnType = none) (hlk : meth.locks = false) {v1 : Int32} {M : xM} : ∀ (n : Nat) (v2 : Int32) (ta : Nat × Nat) (out : xM), f_X7_writesNumber_L2 v1 M n v2 = some out → xW G p l e (rm_X7_writesNumber 0 0) s m args below meth c 3 (MQ below (xQr G none out) args s 0 0 (xAs G)) 0 0 ta M 2 [(0, .ref (xad G 9)), (1, .int v1), (2, .int v2)] [] := by
  intro n
  induction n with
  | zero =>
    intro v2 ta out hf
    rw [f_X7_writesNumber_L2] at hf
    cases hf
  | succ n ih =>
    intro v2 ta out hf
    rw [f_X7_writesNumber_L2] at hf
    refine x_iload_n C 1 dX7_writesNumber_2 rfl ?_
    refine x_iload_n C 2 dX7_writesNumber_3 rfl ?_
    obtain ⟨g1, hf⟩ := x_gd hf
    refine x_idiv C dX7_writesNumber_4 g1 ?_
    refine x_bipush (v := 9) C dX7_writesNumber_5 (by decide) ?_
    refine x_icmp_le C 18 dX7_writesNumber_7 (by decide) (fun hc2 => ?_) (fun hc2 => ?_)
    · have hf := x_ip hc2 hf
      refine x_sub [0, 1, 2] rfl ?_
      exact t_X7_writesNumber_L18 C hr hlk xF v2 M _ _ hf
    · have hf := x_ine hc2 hf
      refine x_iload_n C 2 dX7_writesNumber_10 rfl ?_
      refine x_bipush (v := 10) C dX7_writesNumber_11 (by decide) ?_
      refine x_imul C dX7_writesNumber_13 ?_
      refine x_istore_n (lv' := [(2, .int (v2 * (10 : Int32))), (0, .ref (xad G 9)), (1, .int v1)]) C dX7_writesNumber_14 rfl (by decide) rfl ?_
      refine x_goto C 2 dX7_writesNumber_15 (by decide) ?_
      refine x_sub [1, 2, 0] rfl ?_
      exact ih (v2 * (10 : Int32)) _ _ hf
set_option maxHeartbeats 4000000 in
set_option maxRecDepth 100000 in
theorem t_X7_writesNumber {l : Launch} {G : xG} {ta : Nat × Nat} {M : xM} {a1 : Int32} {out : xM} (hf : f_X7_writesNumber a1 M = some out) : xMet G l yX7_writesNumber wsX7_writesNumber (rm_X7_writesNumber 0 0) 0 0 ta M [.ref (xad G 9), .int a1] none out := by
  refine x_met (cc := cX7_writesNumber) (nL := 3) (ret := none) (by decide) rfl (Nat.le_of_ble_eq_true rfl) ?_
  intro p e s m args below meth c C hr hlk
  have C : xC G p s m args c cX7_writesNumber 3 wsX7_writesNumber RX7 := C
  unfold f_X7_writesNumber at hf
  show xW G p l e (rm_X7_writesNumber 0 0) s m args below meth c 3 (MQ below (xQr G none out) args s 0 0 (xAs G)) 0 0 ta M 0 [(0, .ref (xad G 9)), (1, .int a1)] []
  refine x_iconst (v := 1) C dX7_writesNumber_0 (by decide) ?_
  refine x_istore_n (lv' := [(2, .int (1 : Int32)), (0, .ref (xad G 9)), (1, .int a1)]) C dX7_writesNumber_1 rfl (by decide) rfl ?_
  refine x_sub [1, 2, 0] rfl ?_
  exact t_X7_writesNumber_L2 C hr hlk xF (1 : Int32) _ _ hf
/-! WaitingRoomSimulationModel.renderQueue()I -/
abbrev rm_X7_renderQueue (c s : Nat) : Room := { frames := 2, cells := c, slots := s, locals := 43 }
def f_X7_renderQueue_L12 : Nat → Int32 → xM → Option (Int32 × xM)
  | 0, _, _ => none
  | n+1, v1, M => if x_in (9 : Int32) 159 = true then (if (M.1 10 (9 : Int32).toNatClampNeg) ≤ v1 then some (M.1 9 13, M) else if x_in ((123 : Int32) + v1) 159 = true then (f_X7_personAt (M.1 10 ((123 : Int32) + v1).toNatClampNeg) M).bind fun q8 => (if v1 ≤ 0 then if x_in q8 159 = true then (f_X7_writesNumber (M.1 10 q8.toNatClampNeg) M).bind fun q12 => if x_in (q8 + (5 : Int32)) 159 = true then (if (q12.1 10 (q8 + (5 : Int32)).toNatClampNeg) = (1 : Int32) then (f_X7_sign (33 : Int32) q12).bind fun q20 => if x_in (q8 + (4 : Int32)) 159 = true then (if (q20.1 10 (q8 + (4 : Int32)).toNatClampNeg) = (1 : Int32) then (f_X7_sign (95 : Int32) q20).bind fun q24 => f_X7_renderQueue_L12 n (v1 + 1) q24 else f_X7_renderQueue_L12 n (v1 + 1) q20) else none else if x_in (q8 + (4 : Int32)) 159 = true then (if (q12.1 10 (q8 + (4 : Int32)).toNatClampNeg) = (1 : Int32) then (f_X7_sign (95 : Int32) q12).bind fun q18 => f_X7_renderQueue_L12 n (v1 + 1) q18 else f_X7_renderQueue_L12 n (v1 + 1) q12) else none) else none else none else (f_X7_sign (32 : Int32) M).bind fun q26 => if x_in q8 159 = true then (f_X7_writesNumber (q26.1 10 q8.toNatClampNeg) q26).bind fun q29 => if x_in (q8 + (5 : Int32)) 159 = true then (if (q29.1 10 (q8 + (5 : Int32)).toNatClampNeg) = (1 : Int32) then (f_X7_sign (33 : Int32) q29).bind fun q37 => if x_in (q8 + (4 : Int32)) 159 = true then (if (q37.1 10 (q8 + (4 : Int32)).toNatClampNeg) = (1 : Int32) then (f_X7_sign (95 : Int32) q37).bind fun q41 => f_X7_renderQueue_L12 n (v1 + 1) q41 else f_X7_renderQueue_L12 n (v1 + 1) q37) else none else if x_in (q8 + (4 : Int32)) 159 = true then (if (q29.1 10 (q8 + (4 : Int32)).toNatClampNeg) = (1 : Int32) then (f_X7_sign (95 : Int32) q29).bind fun q35 => f_X7_renderQueue_L12 n (v1 + 1) q35 else f_X7_renderQueue_L12 n (v1 + 1) q29) else none) else none else none) else none) else none
def f_X7_renderQueue (M : xM) : Option (Int32 × xM) := x_let (sI M 9 9 (0 : Int32)) fun M1 => x_let (sI M1 9 13 (0 : Int32)) fun M3 => f_X7_renderQueue_L12 xF (0 : Int32) M3
set_option maxHeartbeats 4000000 in
set_option maxRecDepth 100000 in
theorem t_X7_renderQueue_L12 {G : xG} {p : Program} {l : Launch} {e : Env} {s : State} {m : MethodId} {args : Array Value} {below : List Frame} {meth : Method} {c : Code} (C : xC G p s m args c cX7_renderQueue 3 wsX7_renderQueue RX7) (hr : meth.sig.returnType = some .int) (hlk : meth.locks = false) : ∀ (n : Nat) (v1 : Int32) (M : xM) (ta : Nat × Nat) (out : Int32 × xM), f_X7_renderQueue_L12 n v1 M = some out → xW G p l e (rm_X7_renderQueue 0 0) s m args below meth c 3 (MQ below (xQr G (some (.int out.1)) out.2) args s 0 0 (xAs G)) 0 0 ta M 12 [(0, .ref (xad G 9)), (1, .int v1)] [] := by
  intro n
  induction n with
  | zero =>
    intro v1 M ta out hf
    rw [f_X7_renderQueue_L12] at hf
    cases hf
  | succ n ih =>
    intro v1 M ta out hf
    rw [f_X7_renderQueue_L12] at hf
    have i9 : ∀ w ∈ wsX70, w ∈ wsX7_renderQueue := by decide +kernel
    refine x_iload_n C 1 dX7_renderQueue_12 rfl ?_
    refine x_aload_n C 0 dX7_renderQueue_13 rfl ?_
    refine x_get9 C xkd_9 i9 0 (by decide) (by decide +kernel) rfl rfl dX7_renderQueue_14 ?_
    refine x_bipush (v := 9) C dX7_renderQueue_17 (by decide) ?_
    obtain ⟨g5, hf⟩ := x_gd hf
    refine x_iald C xkd_10 xl_10 g5 dX7_renderQueue_19 ?_
    refine x_icmp_ge C 98 dX7_renderQueue_20 (by decide) (fun hc6 => ?_) (fun hc6 => ?_)
    · have hf := x_ip hc6 hf
      refine x_aload_n C 0 dX7_renderQueue_98 rfl ?_
      refine x_get9 C xkd_9 i9 13 (by decide) (by decide +kernel) rfl rfl dX7_renderQueue_99 ?_
      obtain rfl := Option.some.inj hf
      exact x_iret C hr hlk dX7_renderQueue_102
    · have hf := x_ine hc6 hf
      refine x_aload_n C 0 dX7_renderQueue_23 rfl ?_
      refine x_get9 C xkd_9 i9 0 (by decide) (by decide +kernel) rfl rfl dX7_renderQueue_24 ?_
      refine x_bipush (v := 123) C dX7_renderQueue_27 (by decide) ?_
      refine x_iload_n C 1 dX7_renderQueue_29 rfl ?_
      refine x_iadd C dX7_renderQueue_30 ?_
      obtain ⟨g7, hf⟩ := x_gd hf
      refine x_iald C xkd_10 xl_10 g7 dX7_renderQueue_31 ?_
      obtain ⟨q8, hg, hf⟩ := x_bd hf
      refine x_callSr C (t_X7_personAt hg) (va_cwS 1 C.1.2.2.2.2 gX7_renderQueue_X7_personAt rfl rfl rfl (by decide +kernel) ⟨Nat.le_of_ble_eq_true rfl, Nat.le_of_ble_eq_true rfl⟩) rfl rfl (Nat.le_of_ble_eq_true rfl) dX7_renderQueue_32 ⟨Nat.zero_le _, Nat.zero_le _⟩ (fun ta9 => ?_)
      clear hg
      refine x_istore_n (lv' := [(2, .int q8), (0, .ref (xad G 9)), (1, .int v1)]) C dX7_renderQueue_35 rfl (by decide) rfl ?_
      refine x_iload_n C 2 dX7_renderQueue_36 rfl ?_
      refine x_if_le C 46 dX7_renderQueue_37 (by decide) (fun hc10 => ?_) (fun hc10 => ?_)
      · have hf := x_ip hc10 hf
        refine x_aload_n C 1 dX7_renderQueue_46 rfl ?_
        refine x_aload_n C 1 dX7_renderQueue_47 rfl ?_
        refine x_get9 C xkd_9 i9 0 (by decide) (by decide +kernel) rfl rfl dX7_renderQueue_48 ?_
        refine x_iload_n C 0 dX7_renderQueue_51 rfl ?_
        obtain ⟨g11, hf⟩ := x_gd hf
        refine x_iald C xkd_10 xl_10 g11 dX7_renderQueue_52 ?_
        obtain ⟨q12, hg, hf⟩ := x_bd hf
        refine x_callVv C (by rw [xkd_9]; decide) (by rw [xkd_9]; decide) (xc9 xkd_9) rfl (t_X7_writesNumber hg) (cwV 1 C.1.2.2.2.2 gX7_renderQueue_X7_writesNumber rfl rfl rfl (by decide +kernel) ⟨Nat.le_of_ble_eq_true rfl, Nat.le_of_ble_eq_true rfl⟩) rfl rfl (Nat.le_of_ble_eq_true rfl) dX7_renderQueue_53 ⟨Nat.zero_le _, Nat.zero_le _⟩ (fun ta13 => ?_)
        clear hg
        refine x_aload_n C 1 dX7_renderQueue_56 rfl ?_
        refine x_get9 C xkd_9 i9 0 (by decide) (by decide +kernel) rfl rfl dX7_renderQueue_57 ?_
        refine x_iload_n C 0 dX7_renderQueue_60 rfl ?_
        refine x_iconst (v := 5) C dX7_renderQueue_61 (by decide) ?_
        refine x_iadd C dX7_renderQueue_62 ?_
        obtain ⟨g14, hf⟩ := x_gd hf
        refine x_iald C xkd_10 xl_10 g14 dX7_renderQueue_63 ?_
        refine x_iconst (v := 1) C dX7_renderQueue_64 (by decide) ?_
        refine x_icmp_ne C 74 dX7_renderQueue_65 (by decide) (fun hc15 => ?_) (fun hc15 => ?_)
        · have hf := x_ine hc15 hf
          refine x_aload_n C 1 dX7_renderQueue_74 rfl ?_
          refine x_get9 C xkd_9 i9 0 (by decide) (by decide +kernel) rfl rfl dX7_renderQueue_75 ?_
          refine x_iload_n C 0 dX7_renderQueue_78 rfl ?_
          refine x_iconst (v := 4) C dX7_renderQueue_79 (by decide) ?_
          refine x_iadd C dX7_renderQueue_80 ?_
          obtain ⟨g16, hf⟩ := x_gd hf
          refine x_iald C xkd_10 xl_10 g16 dX7_renderQueue_81 ?_
          refine x_iconst (v := 1) C dX7_renderQueue_82 (by decide) ?_
          refine x_icmp_ne C 92 dX7_renderQueue_83 (by decide) (fun hc17 => ?_) (fun hc17 => ?_)
          · have hf := x_ine hc17 hf
            refine x_iinc (v := v1 + 1) (lv' := [(1, .int (v1 + 1)), (2, .int q8), (0, .ref (xad G 9))]) C 2 dX7_renderQueue_92 rfl rfl (by decide) rfl ?_
            refine x_goto C 12 dX7_renderQueue_95 (by decide) ?_
            refine x_sub [2, 0] rfl ?_
            exact ih (v1 + 1) q12 _ _ hf
          · have hf := x_ip hc17 hf
            refine x_aload_n C 1 dX7_renderQueue_86 rfl ?_
            refine x_bipush (v := 95) C dX7_renderQueue_87 (by decide) ?_
            obtain ⟨q18, hg, hf⟩ := x_bd hf
            refine x_callVv C (by rw [xkd_9]; decide) (by rw [xkd_9]; decide) (xc9 xkd_9) rfl (t_X7_sign hg) (cwV 1 C.1.2.2.2.2 gX7_renderQueue_X7_sign rfl rfl rfl (by decide +kernel) ⟨Nat.le_of_ble_eq_true rfl, Nat.le_of_ble_eq_true rfl⟩) rfl rfl (Nat.le_of_ble_eq_true rfl) dX7_renderQueue_89 ⟨Nat.zero_le _, Nat.zero_le _⟩ (fun ta19 => ?_)
            clear hg
            refine x_iinc (v := v1 + 1) (lv' := [(1, .int (v1 + 1)), (2, .int q8), (0, .ref (xad G 9))]) C 2 dX7_renderQueue_92 rfl rfl (by decide) rfl ?_
            refine x_goto C 12 dX7_renderQueue_95 (by decide) ?_
            refine x_sub [2, 0] rfl ?_
            exact ih (v1 + 1) q18 _ _ hf
        · have hf := x_ip hc15 hf
          refine x_aload_n C 1 dX7_renderQueue_68 rfl ?_
          refine x_bipush (v := 33) C dX7_renderQueue_69 (by decide) ?_
          obtain ⟨q20, hg, hf⟩ := x_bd hf
          refine x_callVv C (by rw [xkd_9]; decide) (by rw [xkd_9]; decide) (xc9 xkd_9) rfl (t_X7_sign hg) (cwV 1 C.1.2.2.2.2 gX7_renderQueue_X7_sign rfl rfl rfl (by decide +kernel) ⟨Nat.le_of_ble_eq_true rfl, Nat.le_of_ble_eq_true rfl⟩) rfl rfl (Nat.le_of_ble_eq_true rfl) dX7_renderQueue_71 ⟨Nat.zero_le _, Nat.zero_le _⟩ (fun ta21 => ?_)
          clear hg
          refine x_aload_n C 1 dX7_renderQueue_74 rfl ?_
          refine x_get9 C xkd_9 i9 0 (by decide) (by decide +kernel) rfl rfl dX7_renderQueue_75 ?_
          refine x_iload_n C 0 dX7_renderQueue_78 rfl ?_
          refine x_iconst (v := 4) C dX7_renderQueue_79 (by decide) ?_
          refine x_iadd C dX7_renderQueue_80 ?_
          obtain ⟨g22, hf⟩ := x_gd hf
          refine x_iald C xkd_10 xl_10 g22 dX7_renderQueue_81 ?_
          refine x_iconst (v := 1) C dX7_renderQueue_82 (by decide) ?_
          refine x_icmp_ne C 92 dX7_renderQueue_83 (by decide) (fun hc23 => ?_) (fun hc23 => ?_)
          · have hf := x_ine hc23 hf
            refine x_iinc (v := v1 + 1) (lv' := [(1, .int (v1 + 1)), (2, .int q8), (0, .ref (xad G 9))]) C 2 dX7_renderQueue_92 rfl rfl (by decide) rfl ?_
            refine x_goto C 12 dX7_renderQueue_95 (by decide) ?_
            refine x_sub [2, 0] rfl ?_
            exact ih (v1 + 1) q20 _ _ hf
          · have hf := x_ip hc23 hf
            refine x_aload_n C 1 dX7_renderQueue_86 rfl ?_
            refine x_bipush (v := 95) C dX7_renderQueue_87 (by decide) ?_
            obtain ⟨q24, hg, hf⟩ := x_bd hf
            refine x_callVv C (by rw [xkd_9]; decide) (by rw [xkd_9]; decide) (xc9 xkd_9) rfl (t_X7_sign hg) (cwV 1 C.1.2.2.2.2 gX7_renderQueue_X7_sign rfl rfl rfl (by decide +kernel) ⟨Nat.le_of_ble_eq_true rfl, Nat.le_of_ble_eq_true rfl⟩) rfl rfl (Nat.le_of_ble_eq_true rfl) dX7_renderQueue_89 ⟨Nat.zero_le _, Nat.zero_le _⟩ (fun ta25 => ?_)
            clear hg
            refine x_iinc (v := v1 + 1) (lv' := [(1, .int (v1 + 1)), (2, .int q8), (0, .ref (xad G 9))]) C 2 dX7_renderQueue_92 rfl rfl (by decide) rfl ?_
            refine x_goto C 12 dX7_renderQueue_95 (by decide) ?_
            refine x_sub [2, 0] rfl ?_
            exact ih (v1 + 1) q24 _ _ hf
      · have hf := x_ine hc10 hf
        refine x_aload_n C 1 dX7_renderQueue_40 rfl ?_
        refine x_bipush (v := 32) C dX7_renderQueue_41 (by decide) ?_
        obtain ⟨q26, hg, hf⟩ := x_bd hf
        refine x_callVv C (by rw [xkd_9]; decide) (by rw [xkd_9]; decide) (xc9 xkd_9) rfl (t_X7_sign hg) (cwV 1 C.1.2.2.2.2 gX7_renderQueue_X7_sign rfl rfl rfl (by decide +kernel) ⟨Nat.le_of_ble_eq_true rfl, Nat.le_of_ble_eq_true rfl⟩) rfl rfl (Nat.le_of_ble_eq_true rfl) dX7_renderQueue_43 ⟨Nat.zero_le _, Nat.zero_le _⟩ (fun ta27 => ?_)
        clear hg
        refine x_aload_n C 1 dX7_renderQueue_46 rfl ?_
        refine x_aload_n C 1 dX7_renderQueue_47 rfl ?_
        refine x_get9 C xkd_9 i9 0 (by decide) (by decide +kernel) rfl rfl dX7_renderQueue_48 ?_
        refine x_iload_n C 0 dX7_renderQueue_51 rfl ?_
        obtain ⟨g28, hf⟩ := x_gd hf
        refine x_iald C xkd_10 xl_10 g28 dX7_renderQueue_52 ?_
        obtain ⟨q29, hg, hf⟩ := x_bd hf
        refine x_callVv C (by rw [xkd_9]; decide) (by rw [xkd_9]; decide) (xc9 xkd_9) rfl (t_X7_writesNumber hg) (cwV 1 C.1.2.2.2.2 gX7_renderQueue_X7_writesNumber rfl rfl rfl (by decide +kernel) ⟨Nat.le_of_ble_eq_true rfl, Nat.le_of_ble_eq_true rfl⟩) rfl rfl (Nat.le_of_ble_eq_true rfl) dX7_renderQueue_53 ⟨Nat.zero_le _, Nat.zero_le _⟩ (fun ta30 => ?_)
        clear hg
        refine x_aload_n C 1 dX7_renderQueue_56 rfl ?_
        refine x_get9 C xkd_9 i9 0 (by decide) (by decide +kernel) rfl rfl dX7_renderQueue_57 ?_
        refine x_iload_n C 0 dX7_renderQueue_60 rfl ?_
        refine x_iconst (v := 5) C dX7_renderQueue_61 (by decide) ?_
        refine x_iadd C dX7_renderQueue_62 ?_
        obtain ⟨g31, hf⟩ := x_gd hf
        refine x_iald C xkd_10 xl_10 g31 dX7_renderQueue_63 ?_
        refine x_iconst (v := 1) C dX7_renderQueue_64 (by decide) ?_
        refine x_icmp_ne C 74 dX7_renderQueue_65 (by decide) (fun hc32 => ?_) (fun hc32 => ?_)
        · have hf := x_ine hc32 hf
          refine x_aload_n C 1 dX7_renderQueue_74 rfl ?_
          refine x_get9 C xkd_9 i9 0 (by decide) (by decide +kernel) rfl rfl dX7_renderQueue_75 ?_
          refine x_iload_n C 0 dX7_renderQueue_78 rfl ?_
          refine x_iconst (v := 4) C dX7_renderQueue_79 (by decide) ?_
          refine x_iadd C dX7_renderQueue_80 ?_
          obtain ⟨g33, hf⟩ := x_gd hf
          refine x_iald C xkd_10 xl_10 g33 dX7_renderQueue_81 ?_
          refine x_iconst (v := 1) C dX7_renderQueue_82 (by decide) ?_
          refine x_icmp_ne C 92 dX7_renderQueue_83 (by decide) (fun hc34 => ?_) (fun hc34 => ?_)
          · have hf := x_ine hc34 hf
            refine x_iinc (v := v1 + 1) (lv' := [(1, .int (v1 + 1)), (2, .int q8), (0, .ref (xad G 9))]) C 2 dX7_renderQueue_92 rfl rfl (by decide) rfl ?_
            refine x_goto C 12 dX7_renderQueue_95 (by decide) ?_
            refine x_sub [2, 0] rfl ?_
            exact ih (v1 + 1) q29 _ _ hf
          · have hf := x_ip hc34 hf
            refine x_aload_n C 1 dX7_renderQueue_86 rfl ?_
            refine x_bipush (v := 95) C dX7_renderQueue_87 (by decide) ?_
            obtain ⟨q35, hg, hf⟩ := x_bd hf
            refine x_callVv C (by rw [xkd_9]; decide) (by rw [xkd_9]; decide) (xc9 xkd_9) rfl (t_X7_sign hg) (cwV 1 C.1.2.2.2.2 gX7_renderQueue_X7_sign rfl rfl rfl (by decide +kernel) ⟨Nat.le_of_ble_eq_true rfl, Nat.le_of_ble_eq_true rfl⟩) rfl rfl (Nat.le_of_ble_eq_true rfl) dX7_renderQueue_89 ⟨Nat.zero_le _, Nat.zero_le _⟩ (fun ta36 => ?_)
            clear hg
            refine x_iinc (v := v1 + 1) (lv' := [(1, .int (v1 + 1)), (2, .int q8), (0, .ref (xad G 9))]) C 2 dX7_renderQueue_92 rfl rfl (by decide) rfl ?_
            refine x_goto C 12 dX7_renderQueue_95 (by decide) ?_
            refine x_sub [2, 0] rfl ?_
            exact ih (v1 + 1) q35 _ _ hf
        · have hf := x_ip hc32 hf
          refine x_aload_n C 1 dX7_renderQueue_68 rfl ?_
          refine x_bipush (v := 33) C dX7_renderQueue_69 (by decide) ?_
          obtain ⟨q37, hg, hf⟩ := x_bd hf
          refine x_callVv C (by rw [xkd_9]; decide) (by rw [xkd_9]; decide) (xc9 xkd_9) rfl (t_X7_sign hg) (cwV 1 C.1.2.2.2.2 gX7_renderQueue_X7_sign rfl rfl rfl (by decide +kernel) ⟨Nat.le_of_ble_eq_true rfl, Nat.le_of_ble_eq_true rfl⟩) rfl rfl (Nat.le_of_ble_eq_true rfl) dX7_renderQueue_71 ⟨Nat.zero_le _, Nat.zero_le _⟩ (fun ta38 => ?_)
          clear hg
          refine x_aload_n C 1 dX7_renderQueue_74 rfl ?_
          refine x_get9 C xkd_9 i9 0 (by decide) (by decide +kernel) rfl rfl dX7_renderQueue_75 ?_
          refine x_iload_n C 0 dX7_renderQueue_78 rfl ?_
          refine x_iconst (v := 4) C dX7_renderQueue_79 (by decide) ?_
          refine x_iadd C dX7_renderQueue_80 ?_
          obtain ⟨g39, hf⟩ := x_gd hf
          refine x_iald C xkd_10 xl_10 g39 dX7_renderQueue_81 ?_
          refine x_iconst (v := 1) C dX7_renderQueue_82 (by decide) ?_
          refine x_icmp_ne C 92 dX7_renderQueue_83 (by decide) (fun hc40 => ?_) (fun hc40 => ?_)
          · have hf := x_ine hc40 hf
            refine x_iinc (v := v1 + 1) (lv' := [(1, .int (v1 + 1)), (2, .int q8), (0, .ref (xad G 9))]) C 2 dX7_renderQueue_92 rfl rfl (by decide) rfl ?_
            refine x_goto C 12 dX7_renderQueue_95 (by decide) ?_
            refine x_sub [2, 0] rfl ?_
            exact ih (v1 + 1) q37 _ _ hf
          · have hf := x_ip hc40 hf
            refine x_aload_n C 1 dX7_renderQueue_86 rfl ?_
            refine x_bipush (v := 95) C dX7_renderQueue_87 (by decide) ?_
            obtain ⟨q41, hg, hf⟩ := x_bd hf
            refine x_callVv C (by rw [xkd_9]; decide) (by rw [xkd_9]; decide) (xc9 xkd_9) rfl (t_X7_sign hg) (cwV 1 C.1.2.2.2.2 gX7_renderQueue_X7_sign rfl rfl rfl (by decide +kernel) ⟨Nat.le_of_ble_eq_true rfl, Nat.le_of_ble_eq_true rfl⟩) rfl rfl (Nat.le_of_ble_eq_true rfl) dX7_renderQueue_89 ⟨Nat.zero_le _, Nat.zero_le _⟩ (fun ta42 => ?_)
            clear hg
            refine x_iinc (v := v1 + 1) (lv' := [(1, .int (v1 + 1)), (2, .int q8), (0, .ref (xad G 9))]) C 2 dX7_renderQueue_92 rfl rfl (by decide) rfl ?_
            refine x_goto C 12 dX7_renderQueue_95 (by decide) ?_
            refine x_sub [2, 0] rfl ?_
            exact ih (v1 + 1) q41 _ _ hf
set_option maxHeartbeats 4000000 in
set_option maxRecDepth 100000 in
theorem t_X7_renderQueue {l : Launch} {G : xG} {ta : Nat × Nat} {M : xM} {out : Int32 × xM} (hf : f_X7_renderQueue M = some out) : xMet G l yX7_renderQueue wsX7_renderQueue (rm_X7_renderQueue 0 0) 0 0 ta M [.ref (xad G 9)] (some (.int out.1)) out.2 := by
  refine x_met (cc := cX7_renderQueue) (nL := 3) (ret := some .int) (by decide) rfl (Nat.le_of_ble_eq_true rfl) ?_
  intro p e s m args below meth c C hr hlk
  have C : xC G p s m args c cX7_renderQueue 3 wsX7_renderQueue RX7 := C
  have i9 : ∀ w ∈ wsX70, w ∈ wsX7_renderQueue := by decide +kernel
  unfold f_X7_renderQueue at hf
  show xW G p l e (rm_X7_renderQueue 0 0) s m args below meth c 3 (MQ below (xQr G (some (.int out.1)) out.2) args s 0 0 (xAs G)) 0 0 ta M 0 [(0, .ref (xad G 9))] []
  refine x_aload_n C 0 dX7_renderQueue_0 rfl ?_
  refine x_iconst (v := 0) C dX7_renderQueue_1 (by decide) ?_
  refine x_put9 C xkd_9 i9 9 (by decide) (by decide +kernel) dX7_renderQueue_2 ?_
  obtain ⟨M1, e2, hf⟩ := x_lt hf
  rw [← e2]
  clear e2
  refine x_aload_n C 0 dX7_renderQueue_5 rfl ?_
  refine x_iconst (v := 0) C dX7_renderQueue_6 (by decide) ?_
  refine x_put9 C xkd_9 i9 13 (by decide) (by decide +kernel) dX7_renderQueue_7 ?_
  obtain ⟨M3, e4, hf⟩ := x_lt hf
  rw [← e4]
  clear e4
  refine x_iconst (v := 0) C dX7_renderQueue_10 (by decide) ?_
  refine x_istore_n (lv' := [(1, .int (0 : Int32)), (0, .ref (xad G 9))]) C dX7_renderQueue_11 rfl (by decide) rfl ?_
  refine x_sub [1, 0] rfl ?_
  exact t_X7_renderQueue_L12 C hr hlk xF (0 : Int32) M3 _ _ hf
/-! WaitingRoomSimulationModel.renderWindows()I -/
abbrev rm_X7_renderWindows (c s : Nat) : Room := { frames := 2, cells := c, slots := s, locals := 43 }
def f_X7_renderWindows_L12 : Nat → Int32 → xM → Option (Int32 × xM)
  | 0, _, _ => none
  | n+1, v1, M => (if (3 : Int32) ≤ v1 then some (M.1 9 13, M) else (if v1 ≤ 0 then (f_X7_sign ((48 : Int32) + v1) M).bind fun q7 => (f_X7_sign (58 : Int32) q7).bind fun q9 => (f_X7_windowAt v1 q9).bind fun q11 => if x_in (q11 + (2 : Int32)) 159 = true then (f_X7_isOpen v1 q9).bind fun q14 => (if q14 = 0 then (f_X7_sign (120 : Int32) q9).bind fun q32 => f_X7_renderWindows_L12 n (v1 + 1) q32 else (if (q9.1 10 (q11 + (2 : Int32)).toNatClampNeg) = (-1 : Int32) then (f_X7_sign (45 : Int32) q9).bind fun q30 => f_X7_renderWindows_L12 n (v1 + 1) q30 else (f_X7_personAt (q9.1 10 (q11 + (2 : Int32)).toNatClampNeg) q9).bind fun q18 => if x_in q18 159 = true then (f_X7_writesNumber (q9.1 10 q18.toNatClampNeg) q9).bind fun q21 => (f_X7_sign (47 : Int32) q21).bind fun q23 => (f_X7_windowAt v1 q23).bind fun q25 => if x_in (q25 + (3 : Int32)) 159 = true then (f_X7_writesNumber (q23.1 10 (q25 + (3 : Int32)).toNatClampNeg) q23).bind fun q28 => f_X7_renderWindows_L12 n (v1 + 1) q28 else none else none)) else none else (f_X7_sign (32 : Int32) M).bind fun q34 => (f_X7_sign ((48 : Int32) + v1) q34).bind fun q36 => (f_X7_sign (58 : Int32) q36).bind fun q38 => (f_X7_windowAt v1 q38).bind fun q40 => if x_in (q40 + (2 : Int32)) 159 = true then (f_X7_isOpen v1 q38).bind fun q43 => (if q43 = 0 then (f_X7_sign (120 : Int32) q38).bind fun q61 => f_X7_renderWindows_L12 n (v1 + 1) q61 else (if (q38.1 10 (q40 + (2 : Int32)).toNatClampNeg) = (-1 : Int32) then (f_X7_sign (45 : Int32) q38).bind fun q59 => f_X7_renderWindows_L12 n (v1 + 1) q59 else (f_X7_personAt (q38.1 10 (q40 + (2 : Int32)).toNatClampNeg) q38).bind fun q47 => if x_in q47 159 = true then (f_X7_writesNumber (q38.1 10 q47.toNatClampNeg) q38).bind fun q50 => (f_X7_sign (47 : Int32) q50).bind fun q52 => (f_X7_windowAt v1 q52).bind fun q54 => if x_in (q54 + (3 : Int32)) 159 = true then (f_X7_writesNumber (q52.1 10 (q54 + (3 : Int32)).toNatClampNeg) q52).bind fun q57 => f_X7_renderWindows_L12 n (v1 + 1) q57 else none else none)) else none))
def f_X7_renderWindows (M : xM) : Option (Int32 × xM) := x_let (sI M 9 9 (0 : Int32)) fun M1 => x_let (sI M1 9 13 (0 : Int32)) fun M3 => f_X7_renderWindows_L12 xF (0 : Int32) M3
set_option maxHeartbeats 4000000 in
set_option maxRecDepth 100000 in
theorem t_X7_renderWindows_L12 {G : xG} {p : Program} {l : Launch} {e : Env} {s : State} {m : MethodId} {args : Array Value} {below : List Frame} {meth : Method} {c : Code} (C : xC G p s m args c cX7_renderWindows 3 wsX7_renderWindows RX7) (hr : meth.sig.returnType = some .int) (hlk : meth.locks = false) : ∀ (n : Nat) (v1 : Int32) (M : xM) (ta : Nat × Nat) (out : Int32 × xM), f_X7_renderWindows_L12 n v1 M = some out → xW G p l e (rm_X7_renderWindows 0 0) s m args below meth c 3 (MQ below (xQr G (some (.int out.1)) out.2) args s 0 0 (xAs G)) 0 0 ta M 12 [(0, .ref (xad G 9)), (1, .int v1)] [] := by
  intro n
  induction n with
  | zero =>
    intro v1 M ta out hf
    rw [f_X7_renderWindows_L12] at hf
    cases hf
  | succ n ih =>
    intro v1 M ta out hf
    rw [f_X7_renderWindows_L12] at hf
    have i9 : ∀ w ∈ wsX70, w ∈ wsX7_renderWindows := by decide +kernel
    refine x_iload_n C 1 dX7_renderWindows_12 rfl ?_
    refine x_iconst (v := 3) C dX7_renderWindows_13 (by decide) ?_
    refine x_icmp_ge C 124 dX7_renderWindows_14 (by decide) (fun hc5 => ?_) (fun hc5 => ?_)
    · have hf := x_ip hc5 hf
      refine x_aload_n C 0 dX7_renderWindows_124 rfl ?_
      refine x_get9 C xkd_9 i9 13 (by decide) (by decide +kernel) rfl rfl dX7_renderWindows_125 ?_
      obtain rfl := Option.some.inj hf
      exact x_iret C hr hlk dX7_renderWindows_128
    · have hf := x_ine hc5 hf
      refine x_iload_n C 1 dX7_renderWindows_17 rfl ?_
      refine x_if_le C 27 dX7_renderWindows_18 (by decide) (fun hc6 => ?_) (fun hc6 => ?_)
      · have hf := x_ip hc6 hf
        refine x_aload_n C 0 dX7_renderWindows_27 rfl ?_
        refine x_bipush (v := 48) C dX7_renderWindows_28 (by decide) ?_
        refine x_iload_n C 1 dX7_renderWindows_30 rfl ?_
        refine x_iadd C dX7_renderWindows_31 ?_
        obtain ⟨q7, hg, hf⟩ := x_bd hf
        refine x_callVv C (by rw [xkd_9]; decide) (by rw [xkd_9]; decide) (xc9 xkd_9) rfl (t_X7_sign hg) (cwV 1 C.1.2.2.2.2 gX7_renderWindows_X7_sign rfl rfl rfl (by decide +kernel) ⟨Nat.le_of_ble_eq_true rfl, Nat.le_of_ble_eq_true rfl⟩) rfl rfl (Nat.le_of_ble_eq_true rfl) dX7_renderWindows_32 ⟨Nat.zero_le _, Nat.zero_le _⟩ (fun ta8 => ?_)
        clear hg
        refine x_aload_n C 0 dX7_renderWindows_35 rfl ?_
        refine x_bipush (v := 58) C dX7_renderWindows_36 (by decide) ?_
        obtain ⟨q9, hg, hf⟩ := x_bd hf
        refine x_callVv C (by rw [xkd_9]; decide) (by rw [xkd_9]; decide) (xc9 xkd_9) rfl (t_X7_sign hg) (cwV 1 C.1.2.2.2.2 gX7_renderWindows_X7_sign rfl rfl rfl (by decide +kernel) ⟨Nat.le_of_ble_eq_true rfl, Nat.le_of_ble_eq_true rfl⟩) rfl rfl (Nat.le_of_ble_eq_true rfl) dX7_renderWindows_38 ⟨Nat.zero_le _, Nat.zero_le _⟩ (fun ta10 => ?_)
        clear hg
        refine x_aload_n C 0 dX7_renderWindows_41 rfl ?_
        refine x_get9 C xkd_9 i9 0 (by decide) (by decide +kernel) rfl rfl dX7_renderWindows_42 ?_
        refine x_iload_n C 1 dX7_renderWindows_45 rfl ?_
        obtain ⟨q11, hg, hf⟩ := x_bd hf
        refine x_callSr C (t_X7_windowAt hg) (va_cwS 1 C.1.2.2.2.2 gX7_renderWindows_X7_windowAt rfl rfl rfl (by decide +kernel) ⟨Nat.le_of_ble_eq_true rfl, Nat.le_of_ble_eq_true rfl⟩) rfl rfl (Nat.le_of_ble_eq_true rfl) dX7_renderWindows_46 ⟨Nat.zero_le _, Nat.zero_le _⟩ (fun ta12 => ?_)
        clear hg
        refine x_iconst (v := 2) C dX7_renderWindows_49 (by decide) ?_
        refine x_iadd C dX7_renderWindows_50 ?_
        obtain ⟨g13, hf⟩ := x_gd hf
        refine x_iald C xkd_10 xl_10 g13 dX7_renderWindows_51 ?_
        refine x_istore_n (lv' := [(2, .int (q9.1 10 (q11 + (2 : Int32)).toNatClampNeg)), (0, .ref (xad G 9)), (1, .int v1)]) C dX7_renderWindows_52 rfl (by decide) rfl ?_
        refine x_aload_n C 1 dX7_renderWindows_53 rfl ?_
        refine x_iload_n C 2 dX7_renderWindows_54 rfl ?_
        obtain ⟨q14, hg, hf⟩ := x_bd hf
        refine x_callVr C (by rw [xkd_9]; decide) (by rw [xkd_9]; decide) (xc9 xkd_9) rfl (t_X7_isOpen hg) (cwV 1 C.1.2.2.2.2 gX7_renderWindows_X7_isOpen rfl rfl rfl (by decide +kernel) ⟨Nat.le_of_ble_eq_true rfl, Nat.le_of_ble_eq_true rfl⟩) rfl rfl (Nat.le_of_ble_eq_true rfl) dX7_renderWindows_55 ⟨Nat.zero_le _, Nat.zero_le _⟩ (fun ta15 => ?_)
        clear hg
        refine x_if_ne C 70 dX7_renderWindows_58 (by decide) (fun hc16 => ?_) (fun hc16 => ?_)
        · have hf := x_ine hc16 hf
          refine x_iload_n C 0 dX7_renderWindows_70 rfl ?_
          refine x_iconst (v := (-1)) C dX7_renderWindows_71 (by decide) ?_
          refine x_icmp_ne C 84 dX7_renderWindows_72 (by decide) (fun hc17 => ?_) (fun hc17 => ?_)
          · have hf := x_ine hc17 hf
            refine x_aload_n C 1 dX7_renderWindows_84 rfl ?_
            refine x_aload_n C 1 dX7_renderWindows_85 rfl ?_
            refine x_get9 C xkd_9 i9 0 (by decide) (by decide +kernel) rfl rfl dX7_renderWindows_86 ?_
            refine x_iload_n C 0 dX7_renderWindows_89 rfl ?_
            obtain ⟨q18, hg, hf⟩ := x_bd hf
            refine x_callSr C (t_X7_personAt hg) (va_cwS 1 C.1.2.2.2.2 gX7_renderWindows_X7_personAt rfl rfl rfl (by decide +kernel) ⟨Nat.le_of_ble_eq_true rfl, Nat.le_of_ble_eq_true rfl⟩) rfl rfl (Nat.le_of_ble_eq_true rfl) dX7_renderWindows_90 ⟨Nat.zero_le _, Nat.zero_le _⟩ (fun ta19 => ?_)
            clear hg
            obtain ⟨g20, hf⟩ := x_gd hf
            refine x_iald C xkd_10 xl_10 g20 dX7_renderWindows_93 ?_
            obtain ⟨q21, hg, hf⟩ := x_bd hf
            refine x_callVv C (by rw [xkd_9]; decide) (by rw [xkd_9]; decide) (xc9 xkd_9) rfl (t_X7_writesNumber hg) (cwV 1 C.1.2.2.2.2 gX7_renderWindows_X7_writesNumber rfl rfl rfl (by decide +kernel) ⟨Nat.le_of_ble_eq_true rfl, Nat.le_of_ble_eq_true rfl⟩) rfl rfl (Nat.le_of_ble_eq_true rfl) dX7_renderWindows_94 ⟨Nat.zero_le _, Nat.zero_le _⟩ (fun ta22 => ?_)
            clear hg
            refine x_aload_n C 1 dX7_renderWindows_97 rfl ?_
            refine x_bipush (v := 47) C dX7_renderWindows_98 (by decide) ?_
            obtain ⟨q23, hg, hf⟩ := x_bd hf
            refine x_callVv C (by rw [xkd_9]; decide) (by rw [xkd_9]; decide) (xc9 xkd_9) rfl (t_X7_sign hg) (cwV 1 C.1.2.2.2.2 gX7_renderWindows_X7_sign rfl rfl rfl (by decide +kernel) ⟨Nat.le_of_ble_eq_true rfl, Nat.le_of_ble_eq_true rfl⟩) rfl rfl (Nat.le_of_ble_eq_true rfl) dX7_renderWindows_100 ⟨Nat.zero_le _, Nat.zero_le _⟩ (fun ta24 => ?_)
            clear hg
            refine x_aload_n C 1 dX7_renderWindows_103 rfl ?_
            refine x_aload_n C 1 dX7_renderWindows_104 rfl ?_
            refine x_get9 C xkd_9 i9 0 (by decide) (by decide +kernel) rfl rfl dX7_renderWindows_105 ?_
            refine x_iload_n C 2 dX7_renderWindows_108 rfl ?_
            obtain ⟨q25, hg, hf⟩ := x_bd hf
            refine x_callSr C (t_X7_windowAt hg) (va_cwS 1 C.1.2.2.2.2 gX7_renderWindows_X7_windowAt rfl rfl rfl (by decide +kernel) ⟨Nat.le_of_ble_eq_true rfl, Nat.le_of_ble_eq_true rfl⟩) rfl rfl (Nat.le_of_ble_eq_true rfl) dX7_renderWindows_109 ⟨Nat.zero_le _, Nat.zero_le _⟩ (fun ta26 => ?_)
            clear hg
            refine x_iconst (v := 3) C dX7_renderWindows_112 (by decide) ?_
            refine x_iadd C dX7_renderWindows_113 ?_
            obtain ⟨g27, hf⟩ := x_gd hf
            refine x_iald C xkd_10 xl_10 g27 dX7_renderWindows_114 ?_
            obtain ⟨q28, hg, hf⟩ := x_bd hf
            refine x_callVv C (by rw [xkd_9]; decide) (by rw [xkd_9]; decide) (xc9 xkd_9) rfl (t_X7_writesNumber hg) (cwV 1 C.1.2.2.2.2 gX7_renderWindows_X7_writesNumber rfl rfl rfl (by decide +kernel) ⟨Nat.le_of_ble_eq_true rfl, Nat.le_of_ble_eq_true rfl⟩) rfl rfl (Nat.le_of_ble_eq_true rfl) dX7_renderWindows_115 ⟨Nat.zero_le _, Nat.zero_le _⟩ (fun ta29 => ?_)
            clear hg
            refine x_iinc (v := v1 + 1) (lv' := [(1, .int (v1 + 1)), (2, .int (q9.1 10 (q11 + (2 : Int32)).toNatClampNeg)), (0, .ref (xad G 9))]) C 2 dX7_renderWindows_118 rfl rfl (by decide) rfl ?_
            refine x_goto C 12 dX7_renderWindows_121 (by decide) ?_
            refine x_sub [2, 0] rfl ?_
            exact ih (v1 + 1) q28 _ _ hf
          · have hf := x_ip hc17 hf
            refine x_aload_n C 1 dX7_renderWindows_75 rfl ?_
            refine x_bipush (v := 45) C dX7_renderWindows_76 (by decide) ?_
            obtain ⟨q30, hg, hf⟩ := x_bd hf
            refine x_callVv C (by rw [xkd_9]; decide) (by rw [xkd_9]; decide) (xc9 xkd_9) rfl (t_X7_sign hg) (cwV 1 C.1.2.2.2.2 gX7_renderWindows_X7_sign rfl rfl rfl (by decide +kernel) ⟨Nat.le_of_ble_eq_true rfl, Nat.le_of_ble_eq_true rfl⟩) rfl rfl (Nat.le_of_ble_eq_true rfl) dX7_renderWindows_78 ⟨Nat.zero_le _, Nat.zero_le _⟩ (fun ta31 => ?_)
            clear hg
            refine x_goto C 118 dX7_renderWindows_81 (by decide) ?_
            refine x_iinc (v := v1 + 1) (lv' := [(1, .int (v1 + 1)), (2, .int (q9.1 10 (q11 + (2 : Int32)).toNatClampNeg)), (0, .ref (xad G 9))]) C 2 dX7_renderWindows_118 rfl rfl (by decide) rfl ?_
            refine x_goto C 12 dX7_renderWindows_121 (by decide) ?_
            refine x_sub [2, 0] rfl ?_
            exact ih (v1 + 1) q30 _ _ hf
        · have hf := x_ip hc16 hf
          refine x_aload_n C 1 dX7_renderWindows_61 rfl ?_
          refine x_bipush (v := 120) C dX7_renderWindows_62 (by decide) ?_
          obtain ⟨q32, hg, hf⟩ := x_bd hf
          refine x_callVv C (by rw [xkd_9]; decide) (by rw [xkd_9]; decide) (xc9 xkd_9) rfl (t_X7_sign hg) (cwV 1 C.1.2.2.2.2 gX7_renderWindows_X7_sign rfl rfl rfl (by decide +kernel) ⟨Nat.le_of_ble_eq_true rfl, Nat.le_of_ble_eq_true rfl⟩) rfl rfl (Nat.le_of_ble_eq_true rfl) dX7_renderWindows_64 ⟨Nat.zero_le _, Nat.zero_le _⟩ (fun ta33 => ?_)
          clear hg
          refine x_goto C 118 dX7_renderWindows_67 (by decide) ?_
          refine x_iinc (v := v1 + 1) (lv' := [(1, .int (v1 + 1)), (2, .int (q9.1 10 (q11 + (2 : Int32)).toNatClampNeg)), (0, .ref (xad G 9))]) C 2 dX7_renderWindows_118 rfl rfl (by decide) rfl ?_
          refine x_goto C 12 dX7_renderWindows_121 (by decide) ?_
          refine x_sub [2, 0] rfl ?_
          exact ih (v1 + 1) q32 _ _ hf
      · have hf := x_ine hc6 hf
        refine x_aload_n C 0 dX7_renderWindows_21 rfl ?_
        refine x_bipush (v := 32) C dX7_renderWindows_22 (by decide) ?_
        obtain ⟨q34, hg, hf⟩ := x_bd hf
        refine x_callVv C (by rw [xkd_9]; decide) (by rw [xkd_9]; decide) (xc9 xkd_9) rfl (t_X7_sign hg) (cwV 1 C.1.2.2.2.2 gX7_renderWindows_X7_sign rfl rfl rfl (by decide +kernel) ⟨Nat.le_of_ble_eq_true rfl, Nat.le_of_ble_eq_true rfl⟩) rfl rfl (Nat.le_of_ble_eq_true rfl) dX7_renderWindows_24 ⟨Nat.zero_le _, Nat.zero_le _⟩ (fun ta35 => ?_)
        clear hg
        refine x_aload_n C 0 dX7_renderWindows_27 rfl ?_
        refine x_bipush (v := 48) C dX7_renderWindows_28 (by decide) ?_
        refine x_iload_n C 1 dX7_renderWindows_30 rfl ?_
        refine x_iadd C dX7_renderWindows_31 ?_
        obtain ⟨q36, hg, hf⟩ := x_bd hf
        refine x_callVv C (by rw [xkd_9]; decide) (by rw [xkd_9]; decide) (xc9 xkd_9) rfl (t_X7_sign hg) (cwV 1 C.1.2.2.2.2 gX7_renderWindows_X7_sign rfl rfl rfl (by decide +kernel) ⟨Nat.le_of_ble_eq_true rfl, Nat.le_of_ble_eq_true rfl⟩) rfl rfl (Nat.le_of_ble_eq_true rfl) dX7_renderWindows_32 ⟨Nat.zero_le _, Nat.zero_le _⟩ (fun ta37 => ?_)
        clear hg
        refine x_aload_n C 0 dX7_renderWindows_35 rfl ?_
        refine x_bipush (v := 58) C dX7_renderWindows_36 (by decide) ?_
        obtain ⟨q38, hg, hf⟩ := x_bd hf
        refine x_callVv C (by rw [xkd_9]; decide) (by rw [xkd_9]; decide) (xc9 xkd_9) rfl (t_X7_sign hg) (cwV 1 C.1.2.2.2.2 gX7_renderWindows_X7_sign rfl rfl rfl (by decide +kernel) ⟨Nat.le_of_ble_eq_true rfl, Nat.le_of_ble_eq_true rfl⟩) rfl rfl (Nat.le_of_ble_eq_true rfl) dX7_renderWindows_38 ⟨Nat.zero_le _, Nat.zero_le _⟩ (fun ta39 => ?_)
        clear hg
        refine x_aload_n C 0 dX7_renderWindows_41 rfl ?_
        refine x_get9 C xkd_9 i9 0 (by decide) (by decide +kernel) rfl rfl dX7_renderWindows_42 ?_
        refine x_iload_n C 1 dX7_renderWindows_45 rfl ?_
        obtain ⟨q40, hg, hf⟩ := x_bd hf
        refine x_callSr C (t_X7_windowAt hg) (va_cwS 1 C.1.2.2.2.2 gX7_renderWindows_X7_windowAt rfl rfl rfl (by decide +kernel) ⟨Nat.le_of_ble_eq_true rfl, Nat.le_of_ble_eq_true rfl⟩) rfl rfl (Nat.le_of_ble_eq_true rfl) dX7_renderWindows_46 ⟨Nat.zero_le _, Nat.zero_le _⟩ (fun ta41 => ?_)
        clear hg
        refine x_iconst (v := 2) C dX7_renderWindows_49 (by decide) ?_
        refine x_iadd C dX7_renderWindows_50 ?_
        obtain ⟨g42, hf⟩ := x_gd hf
        refine x_iald C xkd_10 xl_10 g42 dX7_renderWindows_51 ?_
        refine x_istore_n (lv' := [(2, .int (q38.1 10 (q40 + (2 : Int32)).toNatClampNeg)), (0, .ref (xad G 9)), (1, .int v1)]) C dX7_renderWindows_52 rfl (by decide) rfl ?_
        refine x_aload_n C 1 dX7_renderWindows_53 rfl ?_
        refine x_iload_n C 2 dX7_renderWindows_54 rfl ?_
        obtain ⟨q43, hg, hf⟩ := x_bd hf
        refine x_callVr C (by rw [xkd_9]; decide) (by rw [xkd_9]; decide) (xc9 xkd_9) rfl (t_X7_isOpen hg) (cwV 1 C.1.2.2.2.2 gX7_renderWindows_X7_isOpen rfl rfl rfl (by decide +kernel) ⟨Nat.le_of_ble_eq_true rfl, Nat.le_of_ble_eq_true rfl⟩) rfl rfl (Nat.le_of_ble_eq_true rfl) dX7_renderWindows_55 ⟨Nat.zero_le _, Nat.zero_le _⟩ (fun ta44 => ?_)
        clear hg
        refine x_if_ne C 70 dX7_renderWindows_58 (by decide) (fun hc45 => ?_) (fun hc45 => ?_)
        · have hf := x_ine hc45 hf
          refine x_iload_n C 0 dX7_renderWindows_70 rfl ?_
          refine x_iconst (v := (-1)) C dX7_renderWindows_71 (by decide) ?_
          refine x_icmp_ne C 84 dX7_renderWindows_72 (by decide) (fun hc46 => ?_) (fun hc46 => ?_)
          · have hf := x_ine hc46 hf
            refine x_aload_n C 1 dX7_renderWindows_84 rfl ?_
            refine x_aload_n C 1 dX7_renderWindows_85 rfl ?_
            refine x_get9 C xkd_9 i9 0 (by decide) (by decide +kernel) rfl rfl dX7_renderWindows_86 ?_
            refine x_iload_n C 0 dX7_renderWindows_89 rfl ?_
            obtain ⟨q47, hg, hf⟩ := x_bd hf
            refine x_callSr C (t_X7_personAt hg) (va_cwS 1 C.1.2.2.2.2 gX7_renderWindows_X7_personAt rfl rfl rfl (by decide +kernel) ⟨Nat.le_of_ble_eq_true rfl, Nat.le_of_ble_eq_true rfl⟩) rfl rfl (Nat.le_of_ble_eq_true rfl) dX7_renderWindows_90 ⟨Nat.zero_le _, Nat.zero_le _⟩ (fun ta48 => ?_)
            clear hg
            obtain ⟨g49, hf⟩ := x_gd hf
            refine x_iald C xkd_10 xl_10 g49 dX7_renderWindows_93 ?_
            obtain ⟨q50, hg, hf⟩ := x_bd hf
            refine x_callVv C (by rw [xkd_9]; decide) (by rw [xkd_9]; decide) (xc9 xkd_9) rfl (t_X7_writesNumber hg) (cwV 1 C.1.2.2.2.2 gX7_renderWindows_X7_writesNumber rfl rfl rfl (by decide +kernel) ⟨Nat.le_of_ble_eq_true rfl, Nat.le_of_ble_eq_true rfl⟩) rfl rfl (Nat.le_of_ble_eq_true rfl) dX7_renderWindows_94 ⟨Nat.zero_le _, Nat.zero_le _⟩ (fun ta51 => ?_)
            clear hg
            refine x_aload_n C 1 dX7_renderWindows_97 rfl ?_
            refine x_bipush (v := 47) C dX7_renderWindows_98 (by decide) ?_
            obtain ⟨q52, hg, hf⟩ := x_bd hf
            refine x_callVv C (by rw [xkd_9]; decide) (by rw [xkd_9]; decide) (xc9 xkd_9) rfl (t_X7_sign hg) (cwV 1 C.1.2.2.2.2 gX7_renderWindows_X7_sign rfl rfl rfl (by decide +kernel) ⟨Nat.le_of_ble_eq_true rfl, Nat.le_of_ble_eq_true rfl⟩) rfl rfl (Nat.le_of_ble_eq_true rfl) dX7_renderWindows_100 ⟨Nat.zero_le _, Nat.zero_le _⟩ (fun ta53 => ?_)
            clear hg
            refine x_aload_n C 1 dX7_renderWindows_103 rfl ?_
            refine x_aload_n C 1 dX7_renderWindows_104 rfl ?_
            refine x_get9 C xkd_9 i9 0 (by decide) (by decide +kernel) rfl rfl dX7_renderWindows_105 ?_
            refine x_iload_n C 2 dX7_renderWindows_108 rfl ?_
            obtain ⟨q54, hg, hf⟩ := x_bd hf
            refine x_callSr C (t_X7_windowAt hg) (va_cwS 1 C.1.2.2.2.2 gX7_renderWindows_X7_windowAt rfl rfl rfl (by decide +kernel) ⟨Nat.le_of_ble_eq_true rfl, Nat.le_of_ble_eq_true rfl⟩) rfl rfl (Nat.le_of_ble_eq_true rfl) dX7_renderWindows_109 ⟨Nat.zero_le _, Nat.zero_le _⟩ (fun ta55 => ?_)
            clear hg
            refine x_iconst (v := 3) C dX7_renderWindows_112 (by decide) ?_
            refine x_iadd C dX7_renderWindows_113 ?_
            obtain ⟨g56, hf⟩ := x_gd hf
            refine x_iald C xkd_10 xl_10 g56 dX7_renderWindows_114 ?_
            obtain ⟨q57, hg, hf⟩ := x_bd hf
            refine x_callVv C (by rw [xkd_9]; decide) (by rw [xkd_9]; decide) (xc9 xkd_9) rfl (t_X7_writesNumber hg) (cwV 1 C.1.2.2.2.2 gX7_renderWindows_X7_writesNumber rfl rfl rfl (by decide +kernel) ⟨Nat.le_of_ble_eq_true rfl, Nat.le_of_ble_eq_true rfl⟩) rfl rfl (Nat.le_of_ble_eq_true rfl) dX7_renderWindows_115 ⟨Nat.zero_le _, Nat.zero_le _⟩ (fun ta58 => ?_)
            clear hg
            refine x_iinc (v := v1 + 1) (lv' := [(1, .int (v1 + 1)), (2, .int (q38.1 10 (q40 + (2 : Int32)).toNatClampNeg)), (0, .ref (xad G 9))]) C 2 dX7_renderWindows_118 rfl rfl (by decide) rfl ?_
            refine x_goto C 12 dX7_renderWindows_121 (by decide) ?_
            refine x_sub [2, 0] rfl ?_
            exact ih (v1 + 1) q57 _ _ hf
          · have hf := x_ip hc46 hf
            refine x_aload_n C 1 dX7_renderWindows_75 rfl ?_
            refine x_bipush (v := 45) C dX7_renderWindows_76 (by decide) ?_
            obtain ⟨q59, hg, hf⟩ := x_bd hf
            refine x_callVv C (by rw [xkd_9]; decide) (by rw [xkd_9]; decide) (xc9 xkd_9) rfl (t_X7_sign hg) (cwV 1 C.1.2.2.2.2 gX7_renderWindows_X7_sign rfl rfl rfl (by decide +kernel) ⟨Nat.le_of_ble_eq_true rfl, Nat.le_of_ble_eq_true rfl⟩) rfl rfl (Nat.le_of_ble_eq_true rfl) dX7_renderWindows_78 ⟨Nat.zero_le _, Nat.zero_le _⟩ (fun ta60 => ?_)
            clear hg
            refine x_goto C 118 dX7_renderWindows_81 (by decide) ?_
            refine x_iinc (v := v1 + 1) (lv' := [(1, .int (v1 + 1)), (2, .int (q38.1 10 (q40 + (2 : Int32)).toNatClampNeg)), (0, .ref (xad G 9))]) C 2 dX7_renderWindows_118 rfl rfl (by decide) rfl ?_
            refine x_goto C 12 dX7_renderWindows_121 (by decide) ?_
            refine x_sub [2, 0] rfl ?_
            exact ih (v1 + 1) q59 _ _ hf
        · have hf := x_ip hc45 hf
          refine x_aload_n C 1 dX7_renderWindows_61 rfl ?_
          refine x_bipush (v := 120) C dX7_renderWindows_62 (by decide) ?_
          obtain ⟨q61, hg, hf⟩ := x_bd hf
          refine x_callVv C (by rw [xkd_9]; decide) (by rw [xkd_9]; decide) (xc9 xkd_9) rfl (t_X7_sign hg) (cwV 1 C.1.2.2.2.2 gX7_renderWindows_X7_sign rfl rfl rfl (by decide +kernel) ⟨Nat.le_of_ble_eq_true rfl, Nat.le_of_ble_eq_true rfl⟩) rfl rfl (Nat.le_of_ble_eq_true rfl) dX7_renderWindows_64 ⟨Nat.zero_le _, Nat.zero_le _⟩ (fun ta62 => ?_)
          clear hg
          refine x_goto C 118 dX7_renderWindows_67 (by decide) ?_
          refine x_iinc (v := v1 + 1) (lv' := [(1, .int (v1 + 1)), (2, .int (q38.1 10 (q40 + (2 : Int32)).toNatClampNeg)), (0, .ref (xad G 9))]) C 2 dX7_renderWindows_118 rfl rfl (by decide) rfl ?_
          refine x_goto C 12 dX7_renderWindows_121 (by decide) ?_
          refine x_sub [2, 0] rfl ?_
          exact ih (v1 + 1) q61 _ _ hf
set_option maxHeartbeats 4000000 in
set_option maxRecDepth 100000 in
theorem t_X7_renderWindows {l : Launch} {G : xG} {ta : Nat × Nat} {M : xM} {out : Int32 × xM} (hf : f_X7_renderWindows M = some out) : xMet G l yX7_renderWindows wsX7_renderWindows (rm_X7_renderWindows 0 0) 0 0 ta M [.ref (xad G 9)] (some (.int out.1)) out.2 := by
  refine x_met (cc := cX7_renderWindows) (nL := 3) (ret := some .int) (by decide) rfl (Nat.le_of_ble_eq_true rfl) ?_
  intro p e s m args below meth c C hr hlk
  have C : xC G p s m args c cX7_renderWindows 3 wsX7_renderWindows RX7 := C
  have i9 : ∀ w ∈ wsX70, w ∈ wsX7_renderWindows := by decide +kernel
  unfold f_X7_renderWindows at hf
  show xW G p l e (rm_X7_renderWindows 0 0) s m args below meth c 3 (MQ below (xQr G (some (.int out.1)) out.2) args s 0 0 (xAs G)) 0 0 ta M 0 [(0, .ref (xad G 9))] []
  refine x_aload_n C 0 dX7_renderWindows_0 rfl ?_
  refine x_iconst (v := 0) C dX7_renderWindows_1 (by decide) ?_
  refine x_put9 C xkd_9 i9 9 (by decide) (by decide +kernel) dX7_renderWindows_2 ?_
  obtain ⟨M1, e2, hf⟩ := x_lt hf
  rw [← e2]
  clear e2
  refine x_aload_n C 0 dX7_renderWindows_5 rfl ?_
  refine x_iconst (v := 0) C dX7_renderWindows_6 (by decide) ?_
  refine x_put9 C xkd_9 i9 13 (by decide) (by decide +kernel) dX7_renderWindows_7 ?_
  obtain ⟨M3, e4, hf⟩ := x_lt hf
  rw [← e4]
  clear e4
  refine x_iconst (v := 0) C dX7_renderWindows_10 (by decide) ?_
  refine x_istore_n (lv' := [(1, .int (0 : Int32)), (0, .ref (xad G 9))]) C dX7_renderWindows_11 rfl (by decide) rfl ?_
  refine x_sub [1, 0] rfl ?_
  exact t_X7_renderWindows_L12 C hr hlk xF (0 : Int32) M3 _ _ hf
/-! WaitingRoomSimulationModel.outputAt(I)C -/
abbrev rm_X7_outputAt (c s : Nat) : Room := { frames := 1, cells := c, slots := s, locals := 25 }
def f_X7_outputAt (a1 : Int32) (M : xM) : Option (Int32 × xM) := x_let (sI M 9 9 (0 : Int32)) fun M1 => (f_X7_in a1.toInt64 (0 : Int64) (((M1.1 9 13) - (1 : Int32)).toInt64) M1).bind fun q3 => (if q3 = 0 then (f_X7_throwing (1 : Int32) M1).bind fun q6 => if vp_nar .char ((q6.1.toUInt32 % 65536).toInt32) = ((q6.1.toUInt32 % 65536).toInt32) then some ((q6.1.toUInt32 % 65536).toInt32, q6.2) else none else if x_in a1 160 = true then if vp_nar .char (((M1.1 16 a1.toNatClampNeg).toUInt32 % 65536).toInt32) = (((M1.1 16 a1.toNatClampNeg).toUInt32 % 65536).toInt32) then some (((M1.1 16 a1.toNatClampNeg).toUInt32 % 65536).toInt32, M1) else none else none)
set_option maxHeartbeats 4000000 in
set_option maxRecDepth 100000 in
theorem t_X7_outputAt {l : Launch} {G : xG} {ta : Nat × Nat} {M : xM} {a1 : Int32} {out : Int32 × xM} (hf : f_X7_outputAt a1 M = some out) : xMet G l yX7_outputAt wsX7_outputAt (rm_X7_outputAt 0 0) 0 0 ta M [.ref (xad G 9), .int a1] (some (.int out.1)) out.2 := by
  refine x_met (cc := cX7_outputAt) (nL := 2) (ret := some .char) (by decide) rfl (Nat.le_of_ble_eq_true rfl) ?_
  intro p e s m args below meth c C hr hlk
  have C : xC G p s m args c cX7_outputAt 2 wsX7_outputAt RX7 := C
  have i9 : ∀ w ∈ wsX70, w ∈ wsX7_outputAt := by decide +kernel
  unfold f_X7_outputAt at hf
  show xW G p l e (rm_X7_outputAt 0 0) s m args below meth c 2 (MQ below (xQr G (some (.int out.1)) out.2) args s 0 0 (xAs G)) 0 0 ta M 0 [(0, .ref (xad G 9)), (1, .int a1)] []
  refine x_aload_n C 0 dX7_outputAt_0 rfl ?_
  refine x_iconst (v := 0) C dX7_outputAt_1 (by decide) ?_
  refine x_put9 C xkd_9 i9 9 (by decide) (by decide +kernel) dX7_outputAt_2 ?_
  obtain ⟨M1, e2, hf⟩ := x_lt hf
  rw [← e2]
  clear e2
  refine x_iload_n C 1 dX7_outputAt_5 rfl ?_
  refine x_i2l (v := a1.toInt64) C dX7_outputAt_6 rfl ?_
  refine x_lconst (v := 0) C dX7_outputAt_7 (by decide) ?_
  refine x_aload_n C 0 dX7_outputAt_8 rfl ?_
  refine x_get9 C xkd_9 i9 13 (by decide) (by decide +kernel) rfl rfl dX7_outputAt_9 ?_
  refine x_iconst (v := 1) C dX7_outputAt_12 (by decide) ?_
  refine x_isub C dX7_outputAt_13 ?_
  refine x_i2l (v := ((M1.1 9 13) - (1 : Int32)).toInt64) C dX7_outputAt_14 rfl ?_
  obtain ⟨q3, hg, hf⟩ := x_bd hf
  refine x_callSr C (t_X7_in hg) (va_cwS 3 C.1.2.2.2.2 gX7_outputAt_X7_in rfl rfl rfl (by decide +kernel) ⟨Nat.le_of_ble_eq_true rfl, Nat.le_of_ble_eq_true rfl⟩) rfl rfl (Nat.le_of_ble_eq_true rfl) dX7_outputAt_15 ⟨Nat.zero_le _, Nat.zero_le _⟩ (fun ta4 => ?_)
  clear hg
  refine x_if_eq C 31 dX7_outputAt_18 (by decide) (fun hc5 => ?_) (fun hc5 => ?_)
  · have hf := x_ip hc5 hf
    refine x_aload_n C 0 dX7_outputAt_31 rfl ?_
    refine x_iconst (v := 1) C dX7_outputAt_32 (by decide) ?_
    obtain ⟨q6, hg, hf⟩ := x_bd hf
    refine x_callVr C (by rw [xkd_9]; decide) (by rw [xkd_9]; decide) (xc9 xkd_9) rfl (t_X7_throwing hg) (cwV 1 C.1.2.2.2.2 gX7_outputAt_X7_throwing rfl rfl rfl (by decide +kernel) ⟨Nat.le_of_ble_eq_true rfl, Nat.le_of_ble_eq_true rfl⟩) rfl rfl (Nat.le_of_ble_eq_true rfl) dX7_outputAt_33 ⟨Nat.zero_le _, Nat.zero_le _⟩ (fun ta7 => ?_)
    clear hg
    refine x_i2c (v := (q6.1.toUInt32 % 65536).toInt32) C dX7_outputAt_36 rfl ?_
    obtain ⟨g8, hf⟩ := x_gd hf
    obtain rfl := Option.some.inj hf
    exact x_zret C hr hlk (x_nc g8) dX7_outputAt_37
  · have hf := x_ine hc5 hf
    refine x_aload_n C 0 dX7_outputAt_21 rfl ?_
    refine x_get9 C xkd_9 i9 12 (by decide) (by decide +kernel) rfl rfl dX7_outputAt_22 ?_
    refine x_iload_n C 1 dX7_outputAt_25 rfl ?_
    obtain ⟨g9, hf⟩ := x_gd hf
    refine x_iald C xkd_16 xl_16 g9 dX7_outputAt_26 ?_
    refine x_i2c (v := ((M1.1 16 a1.toNatClampNeg).toUInt32 % 65536).toInt32) C dX7_outputAt_27 rfl ?_
    refine x_goto C 37 dX7_outputAt_28 (by decide) ?_
    obtain ⟨g10, hf⟩ := x_gd hf
    obtain rfl := Option.some.inj hf
    exact x_zret C hr hlk (x_nc g10) dX7_outputAt_37
/-! WaitingRoomSimulationModel.type(C)I -/
abbrev rm_X7_type (c s : Nat) : Room := { frames := 1, cells := c, slots := s, locals := 25 }
def f_X7_type (a1 : Int32) (M : xM) : Option (Int32 × xM) := x_let (sI M 9 9 (0 : Int32)) fun M1 => (f_X7_in a1.toInt64 (32 : Int64) (126 : Int64) M1).bind fun q3 => (if q3 = 0 then (f_X7_throwing (1 : Int32) M1).bind fun q14 => some (q14.1, q14.2) else (if (M1.1 9 11) = (60 : Int32) then (f_X7_throwing (2 : Int32) M1).bind fun q12 => some (q12.1, q12.2) else if x_in (M1.1 9 11) 60 = true then x_let (sI M1 15 (M1.1 9 11).toNatClampNeg a1) fun M8 => x_let (sI M8 9 11 ((M8.1 9 11) + (1 : Int32))) fun M10 => some (M10.1 9 11, M10) else none))
set_option maxHeartbeats 4000000 in
set_option maxRecDepth 100000 in
theorem t_X7_type {l : Launch} {G : xG} {ta : Nat × Nat} {M : xM} {a1 : Int32} {out : Int32 × xM} (hf : f_X7_type a1 M = some out) : xMet G l yX7_type wsX7_type (rm_X7_type 0 0) 0 0 ta M [.ref (xad G 9), .int a1] (some (.int out.1)) out.2 := by
  refine x_met (cc := cX7_type) (nL := 2) (ret := some .int) (by decide) rfl (Nat.le_of_ble_eq_true rfl) ?_
  intro p e s m args below meth c C hr hlk
  have C : xC G p s m args c cX7_type 2 wsX7_type RX7 := C
  have i9 : ∀ w ∈ wsX70, w ∈ wsX7_type := by decide +kernel
  unfold f_X7_type at hf
  show xW G p l e (rm_X7_type 0 0) s m args below meth c 2 (MQ below (xQr G (some (.int out.1)) out.2) args s 0 0 (xAs G)) 0 0 ta M 0 [(0, .ref (xad G 9)), (1, .int a1)] []
  refine x_aload_n C 0 dX7_type_0 rfl ?_
  refine x_iconst (v := 0) C dX7_type_1 (by decide) ?_
  refine x_put9 C xkd_9 i9 9 (by decide) (by decide +kernel) dX7_type_2 ?_
  obtain ⟨M1, e2, hf⟩ := x_lt hf
  rw [← e2]
  clear e2
  refine x_iload_n C 1 dX7_type_5 rfl ?_
  refine x_i2l (v := a1.toInt64) C dX7_type_6 rfl ?_
  refine x_ldc2 (v := 32) C (by decide +kernel) dX7_type_7 ?_
  refine x_ldc2 (v := 126) C (by decide +kernel) dX7_type_10 ?_
  obtain ⟨q3, hg, hf⟩ := x_bd hf
  refine x_callSr C (t_X7_in hg) (va_cwS 3 C.1.2.2.2.2 gX7_type_X7_in rfl rfl rfl (by decide +kernel) ⟨Nat.le_of_ble_eq_true rfl, Nat.le_of_ble_eq_true rfl⟩) rfl rfl (Nat.le_of_ble_eq_true rfl) dX7_type_13 ⟨Nat.zero_le _, Nat.zero_le _⟩ (fun ta4 => ?_)
  clear hg
  refine x_if_ne C 25 dX7_type_16 (by decide) (fun hc5 => ?_) (fun hc5 => ?_)
  · have hf := x_ine hc5 hf
    refine x_aload_n C 0 dX7_type_25 rfl ?_
    refine x_get9 C xkd_9 i9 11 (by decide) (by decide +kernel) rfl rfl dX7_type_26 ?_
    refine x_bipush (v := 60) C dX7_type_29 (by decide) ?_
    refine x_icmp_ne C 40 dX7_type_31 (by decide) (fun hc6 => ?_) (fun hc6 => ?_)
    · have hf := x_ine hc6 hf
      refine x_aload_n C 0 dX7_type_40 rfl ?_
      refine x_get9 C xkd_9 i9 10 (by decide) (by decide +kernel) rfl rfl dX7_type_41 ?_
      refine x_aload_n C 0 dX7_type_44 rfl ?_
      refine x_get9 C xkd_9 i9 11 (by decide) (by decide +kernel) rfl rfl dX7_type_45 ?_
      refine x_iload_n C 1 dX7_type_48 rfl ?_
      obtain ⟨g7, hf⟩ := x_gd hf
      refine x_iast C xkd_15 xl_15 g7 dX7_type_49 ?_
      obtain ⟨M8, e9, hf⟩ := x_lt hf
      rw [← e9]
      clear e9
      refine x_aload_n C 0 dX7_type_50 rfl ?_
      refine x_dup C dX7_type_51 rfl ?_
      refine x_get9 C xkd_9 i9 11 (by decide) (by decide +kernel) rfl rfl dX7_type_52 ?_
      refine x_iconst (v := 1) C dX7_type_55 (by decide) ?_
      refine x_iadd C dX7_type_56 ?_
      refine x_put9 C xkd_9 i9 11 (by decide) (by decide +kernel) dX7_type_57 ?_
      obtain ⟨M10, e11, hf⟩ := x_lt hf
      rw [← e11]
      clear e11
      refine x_aload_n C 0 dX7_type_60 rfl ?_
      refine x_get9 C xkd_9 i9 11 (by decide) (by decide +kernel) rfl rfl dX7_type_61 ?_
      obtain rfl := Option.some.inj hf
      exact x_iret C hr hlk dX7_type_64
    · have hf := x_ip hc6 hf
      refine x_aload_n C 0 dX7_type_34 rfl ?_
      refine x_iconst (v := 2) C dX7_type_35 (by decide) ?_
      obtain ⟨q12, hg, hf⟩ := x_bd hf
      refine x_callVr C (by rw [xkd_9]; decide) (by rw [xkd_9]; decide) (xc9 xkd_9) rfl (t_X7_throwing hg) (cwV 1 C.1.2.2.2.2 gX7_type_X7_throwing rfl rfl rfl (by decide +kernel) ⟨Nat.le_of_ble_eq_true rfl, Nat.le_of_ble_eq_true rfl⟩) rfl rfl (Nat.le_of_ble_eq_true rfl) dX7_type_36 ⟨Nat.zero_le _, Nat.zero_le _⟩ (fun ta13 => ?_)
      clear hg
      obtain rfl := Option.some.inj hf
      exact x_iret C hr hlk dX7_type_39
  · have hf := x_ip hc5 hf
    refine x_aload_n C 0 dX7_type_19 rfl ?_
    refine x_iconst (v := 1) C dX7_type_20 (by decide) ?_
    obtain ⟨q14, hg, hf⟩ := x_bd hf
    refine x_callVr C (by rw [xkd_9]; decide) (by rw [xkd_9]; decide) (xc9 xkd_9) rfl (t_X7_throwing hg) (cwV 1 C.1.2.2.2.2 gX7_type_X7_throwing rfl rfl rfl (by decide +kernel) ⟨Nat.le_of_ble_eq_true rfl, Nat.le_of_ble_eq_true rfl⟩) rfl rfl (Nat.le_of_ble_eq_true rfl) dX7_type_21 ⟨Nat.zero_le _, Nat.zero_le _⟩ (fun ta15 => ?_)
    clear hg
    obtain rfl := Option.some.inj hf
    exact x_iret C hr hlk dX7_type_24
/-! WaitingRoomSimulationModel.here()I -/
abbrev rm_X7_here (c s : Nat) : Room := { frames := 0, cells := c, slots := s, locals := 0 }
def f_X7_here (M : xM) : Option (Int32) := (if (M.1 9 19) ≤ (M.1 9 18) then some (-1 : Int32) else if x_in (M.1 9 18) 60 = true then some (M.1 15 (M.1 9 18).toNatClampNeg) else none)
set_option maxHeartbeats 4000000 in
set_option maxRecDepth 100000 in
theorem t_X7_here {l : Launch} {G : xG} {ta : Nat × Nat} {M : xM} {out : Int32} (hf : f_X7_here M = some out) : xMet G l yX7_here wsX7_here (rm_X7_here 0 0) 0 0 ta M [.ref (xad G 9)] (some (.int out)) M := by
  refine x_met (cc := cX7_here) (nL := 1) (ret := some .int) (by decide) rfl (Nat.le_of_ble_eq_true rfl) ?_
  intro p e s m args below meth c C hr hlk
  have C : xC G p s m args c cX7_here 1 wsX7_here RX7 := C
  have i9 : ∀ w ∈ wsX70, w ∈ wsX7_here := by decide +kernel
  unfold f_X7_here at hf
  show xW G p l e (rm_X7_here 0 0) s m args below meth c 1 (MQ below (xQr G (some (.int out)) M) args s 0 0 (xAs G)) 0 0 ta M 0 [(0, .ref (xad G 9))] []
  refine x_aload_n C 0 dX7_here_0 rfl ?_
  refine x_get9 C xkd_9 i9 18 (by decide) (by decide +kernel) rfl rfl dX7_here_1 ?_
  refine x_aload_n C 0 dX7_here_4 rfl ?_
  refine x_get9 C xkd_9 i9 19 (by decide) (by decide +kernel) rfl rfl dX7_here_5 ?_
  refine x_icmp_ge C 23 dX7_here_8 (by decide) (fun hc1 => ?_) (fun hc1 => ?_)
  · have hf := x_ip hc1 hf
    refine x_iconst (v := (-1)) C dX7_here_23 (by decide) ?_
    obtain rfl := Option.some.inj hf
    exact x_iret C hr hlk dX7_here_24
  · have hf := x_ine hc1 hf
    refine x_aload_n C 0 dX7_here_11 rfl ?_
    refine x_get9 C xkd_9 i9 10 (by decide) (by decide +kernel) rfl rfl dX7_here_12 ?_
    refine x_aload_n C 0 dX7_here_15 rfl ?_
    refine x_get9 C xkd_9 i9 18 (by decide) (by decide +kernel) rfl rfl dX7_here_16 ?_
    obtain ⟨g2, hf⟩ := x_gd hf
    refine x_iald C xkd_15 xl_15 g2 dX7_here_19 ?_
    refine x_goto C 24 dX7_here_20 (by decide) ?_
    obtain rfl := Option.some.inj hf
    exact x_iret C hr hlk dX7_here_24
/-! WaitingRoomSimulationModel.expects(I)V -/
abbrev rm_X7_expects (c s : Nat) : Room := { frames := 1, cells := c, slots := s, locals := 20 }
def f_X7_expects (a1 : Int32) (M : xM) : Option (xM) := (if (M.1 9 20) = 0 then (f_X7_here M).bind fun q9 => (if q9 = a1 then x_let (sI M 9 20 (0 : Int32)) fun M12 => (if (M12.1 9 20) = 0 then x_let (sI M12 9 18 ((M12.1 9 18) + (1 : Int32))) fun M15 => some M15 else x_let (sI M12 9 18 ((M12.1 9 18) + (0 : Int32))) fun M17 => some M17) else x_let (sI M 9 20 (1 : Int32)) fun M19 => (if (M19.1 9 20) = 0 then x_let (sI M19 9 18 ((M19.1 9 18) + (1 : Int32))) fun M22 => some M22 else x_let (sI M19 9 18 ((M19.1 9 18) + (0 : Int32))) fun M24 => some M24)) else x_let (sI M 9 20 (1 : Int32)) fun M2 => (if (M2.1 9 20) = 0 then x_let (sI M2 9 18 ((M2.1 9 18) + (1 : Int32))) fun M5 => some M5 else x_let (sI M2 9 18 ((M2.1 9 18) + (0 : Int32))) fun M7 => some M7))
set_option maxHeartbeats 4000000 in
set_option maxRecDepth 100000 in
theorem t_X7_expects {l : Launch} {G : xG} {ta : Nat × Nat} {M : xM} {a1 : Int32} {out : xM} (hf : f_X7_expects a1 M = some out) : xMet G l yX7_expects wsX7_expects (rm_X7_expects 0 0) 0 0 ta M [.ref (xad G 9), .int a1] none out := by
  refine x_met (cc := cX7_expects) (nL := 2) (ret := none) (by decide) rfl (Nat.le_of_ble_eq_true rfl) ?_
  intro p e s m args below meth c C hr hlk
  have C : xC G p s m args c cX7_expects 2 wsX7_expects RX7 := C
  have i9 : ∀ w ∈ wsX70, w ∈ wsX7_expects := by decide +kernel
  unfold f_X7_expects at hf
  show xW G p l e (rm_X7_expects 0 0) s m args below meth c 2 (MQ below (xQr G none out) args s 0 0 (xAs G)) 0 0 ta M 0 [(0, .ref (xad G 9)), (1, .int a1)] []
  refine x_aload_n C 0 dX7_expects_0 rfl ?_
  refine x_aload_n C 0 dX7_expects_1 rfl ?_
  refine x_get9 C xkd_9 i9 20 (by decide) (by decide +kernel) rfl rfl dX7_expects_2 ?_
  refine x_if_ne C 16 dX7_expects_5 (by decide) (fun hc1 => ?_) (fun hc1 => ?_)
  · have hf := x_ine hc1 hf
    refine x_iconst (v := 1) C dX7_expects_16 (by decide) ?_
    refine x_goto C 21 dX7_expects_17 (by decide) ?_
    refine x_putz9 C xkd_9 i9 20 (by decide) (by decide) (by decide +kernel) dX7_expects_21 ?_
    obtain ⟨M2, e3, hf⟩ := x_lt hf
    rw [← e3]
    clear e3
    refine x_aload_n C 0 dX7_expects_24 rfl ?_
    refine x_dup C dX7_expects_25 rfl ?_
    refine x_get9 C xkd_9 i9 18 (by decide) (by decide +kernel) rfl rfl dX7_expects_26 ?_
    refine x_aload_n C 0 dX7_expects_29 rfl ?_
    refine x_get9 C xkd_9 i9 20 (by decide) (by decide +kernel) rfl rfl dX7_expects_30 ?_
    refine x_if_eq C 40 dX7_expects_33 (by decide) (fun hc4 => ?_) (fun hc4 => ?_)
    · have hf := x_ip hc4 hf
      refine x_iconst (v := 1) C dX7_expects_40 (by decide) ?_
      refine x_iadd C dX7_expects_41 ?_
      refine x_put9 C xkd_9 i9 18 (by decide) (by decide +kernel) dX7_expects_42 ?_
      obtain ⟨M5, e6, hf⟩ := x_lt hf
      rw [← e6]
      clear e6
      obtain rfl := Option.some.inj hf
      exact x_vret C hr hlk dX7_expects_45
    · have hf := x_ine hc4 hf
      refine x_iconst (v := 0) C dX7_expects_36 (by decide) ?_
      refine x_goto C 41 dX7_expects_37 (by decide) ?_
      refine x_iadd C dX7_expects_41 ?_
      refine x_put9 C xkd_9 i9 18 (by decide) (by decide +kernel) dX7_expects_42 ?_
      obtain ⟨M7, e8, hf⟩ := x_lt hf
      rw [← e8]
      clear e8
      obtain rfl := Option.some.inj hf
      exact x_vret C hr hlk dX7_expects_45
  · have hf := x_ip hc1 hf
    refine x_aload_n C 0 dX7_expects_8 rfl ?_
    obtain ⟨q9, hg, hf⟩ := x_bd hf
    refine x_callVr C (by rw [xkd_9]; decide) (by rw [xkd_9]; decide) (xc9 xkd_9) rfl (t_X7_here hg) (cwV 0 C.1.2.2.2.2 gX7_expects_X7_here rfl rfl rfl (by decide +kernel) ⟨Nat.le_of_ble_eq_true rfl, Nat.le_of_ble_eq_true rfl⟩) rfl rfl (Nat.le_of_ble_eq_true rfl) dX7_expects_9 ⟨Nat.zero_le _, Nat.zero_le _⟩ (fun ta10 => ?_)
    clear hg
    refine x_iload_n C 1 dX7_expects_12 rfl ?_
    refine x_icmp_eq C 20 dX7_expects_13 (by decide) (fun hc11 => ?_) (fun hc11 => ?_)
    · have hf := x_ip hc11 hf
      refine x_iconst (v := 0) C dX7_expects_20 (by decide) ?_
      refine x_putz9 C xkd_9 i9 20 (by decide) (by decide) (by decide +kernel) dX7_expects_21 ?_
      obtain ⟨M12, e13, hf⟩ := x_lt hf
      rw [← e13]
      clear e13
      refine x_aload_n C 0 dX7_expects_24 rfl ?_
      refine x_dup C dX7_expects_25 rfl ?_
      refine x_get9 C xkd_9 i9 18 (by decide) (by decide +kernel) rfl rfl dX7_expects_26 ?_
      refine x_aload_n C 0 dX7_expects_29 rfl ?_
      refine x_get9 C xkd_9 i9 20 (by decide) (by decide +kernel) rfl rfl dX7_expects_30 ?_
      refine x_if_eq C 40 dX7_expects_33 (by decide) (fun hc14 => ?_) (fun hc14 => ?_)
      · have hf := x_ip hc14 hf
        refine x_iconst (v := 1) C dX7_expects_40 (by decide) ?_
        refine x_iadd C dX7_expects_41 ?_
        refine x_put9 C xkd_9 i9 18 (by decide) (by decide +kernel) dX7_expects_42 ?_
        obtain ⟨M15, e16, hf⟩ := x_lt hf
        rw [← e16]
        clear e16
        obtain rfl := Option.some.inj hf
        exact x_vret C hr hlk dX7_expects_45
      · have hf := x_ine hc14 hf
        refine x_iconst (v := 0) C dX7_expects_36 (by decide) ?_
        refine x_goto C 41 dX7_expects_37 (by decide) ?_
        refine x_iadd C dX7_expects_41 ?_
        refine x_put9 C xkd_9 i9 18 (by decide) (by decide +kernel) dX7_expects_42 ?_
        obtain ⟨M17, e18, hf⟩ := x_lt hf
        rw [← e18]
        clear e18
        obtain rfl := Option.some.inj hf
        exact x_vret C hr hlk dX7_expects_45
    · have hf := x_ine hc11 hf
      refine x_iconst (v := 1) C dX7_expects_16 (by decide) ?_
      refine x_goto C 21 dX7_expects_17 (by decide) ?_
      refine x_putz9 C xkd_9 i9 20 (by decide) (by decide) (by decide +kernel) dX7_expects_21 ?_
      obtain ⟨M19, e20, hf⟩ := x_lt hf
      rw [← e20]
      clear e20
      refine x_aload_n C 0 dX7_expects_24 rfl ?_
      refine x_dup C dX7_expects_25 rfl ?_
      refine x_get9 C xkd_9 i9 18 (by decide) (by decide +kernel) rfl rfl dX7_expects_26 ?_
      refine x_aload_n C 0 dX7_expects_29 rfl ?_
      refine x_get9 C xkd_9 i9 20 (by decide) (by decide +kernel) rfl rfl dX7_expects_30 ?_
      refine x_if_eq C 40 dX7_expects_33 (by decide) (fun hc21 => ?_) (fun hc21 => ?_)
      · have hf := x_ip hc21 hf
        refine x_iconst (v := 1) C dX7_expects_40 (by decide) ?_
        refine x_iadd C dX7_expects_41 ?_
        refine x_put9 C xkd_9 i9 18 (by decide) (by decide +kernel) dX7_expects_42 ?_
        obtain ⟨M22, e23, hf⟩ := x_lt hf
        rw [← e23]
        clear e23
        obtain rfl := Option.some.inj hf
        exact x_vret C hr hlk dX7_expects_45
      · have hf := x_ine hc21 hf
        refine x_iconst (v := 0) C dX7_expects_36 (by decide) ?_
        refine x_goto C 41 dX7_expects_37 (by decide) ?_
        refine x_iadd C dX7_expects_41 ?_
        refine x_put9 C xkd_9 i9 18 (by decide) (by decide +kernel) dX7_expects_42 ?_
        obtain ⟨M24, e25, hf⟩ := x_lt hf
        rw [← e25]
        clear e25
        obtain rfl := Option.some.inj hf
        exact x_vret C hr hlk dX7_expects_45
/-! WaitingRoomSimulationModel.digit()I -/
abbrev rm_X7_digit (c s : Nat) : Room := { frames := 1, cells := c, slots := s, locals := 25 }
def f_X7_digit (M : xM) : Option (Int32 × xM) := (if (M.1 9 20) = 0 then (f_X7_here M).bind fun q17 => (f_X7_in q17.toInt64 (48 : Int64) (57 : Int64) M).bind fun q19 => (if q19 = 0 then x_let (sI M 9 20 (1 : Int32)) fun M37 => (if (M37.1 9 20) = 0 then (f_X7_here M37).bind fun q40 => (if (M37.1 9 20) = 0 then x_let (sI M37 9 18 ((M37.1 9 18) + (1 : Int32))) fun M43 => some (q40 - (48 : Int32), M43) else x_let (sI M37 9 18 ((M37.1 9 18) + (0 : Int32))) fun M45 => some (q40 - (48 : Int32), M45)) else (if (M37.1 9 20) = 0 then x_let (sI M37 9 18 ((M37.1 9 18) + (1 : Int32))) fun M48 => some ((0 : Int32), M48) else x_let (sI M37 9 18 ((M37.1 9 18) + (0 : Int32))) fun M50 => some ((0 : Int32), M50))) else x_let (sI M 9 20 (0 : Int32)) fun M22 => (if (M22.1 9 20) = 0 then (f_X7_here M22).bind fun q25 => (if (M22.1 9 20) = 0 then x_let (sI M22 9 18 ((M22.1 9 18) + (1 : Int32))) fun M28 => some (q25 - (48 : Int32), M28) else x_let (sI M22 9 18 ((M22.1 9 18) + (0 : Int32))) fun M30 => some (q25 - (48 : Int32), M30)) else (if (M22.1 9 20) = 0 then x_let (sI M22 9 18 ((M22.1 9 18) + (1 : Int32))) fun M33 => some ((0 : Int32), M33) else x_let (sI M22 9 18 ((M22.1 9 18) + (0 : Int32))) fun M35 => some ((0 : Int32), M35)))) else x_let (sI M 9 20 (1 : Int32)) fun M2 => (if (M2.1 9 20) = 0 then (f_X7_here M2).bind fun q5 => (if (M2.1 9 20) = 0 then x_let (sI M2 9 18 ((M2.1 9 18) + (1 : Int32))) fun M8 => some (q5 - (48 : Int32), M8) else x_let (sI M2 9 18 ((M2.1 9 18) + (0 : Int32))) fun M10 => some (q5 - (48 : Int32), M10)) else (if (M2.1 9 20) = 0 then x_let (sI M2 9 18 ((M2.1 9 18) + (1 : Int32))) fun M13 => some ((0 : Int32), M13) else x_let (sI M2 9 18 ((M2.1 9 18) + (0 : Int32))) fun M15 => some ((0 : Int32), M15))))
set_option maxHeartbeats 4000000 in
set_option maxRecDepth 100000 in
theorem t_X7_digit {l : Launch} {G : xG} {ta : Nat × Nat} {M : xM} {out : Int32 × xM} (hf : f_X7_digit M = some out) : xMet G l yX7_digit wsX7_digit (rm_X7_digit 0 0) 0 0 ta M [.ref (xad G 9)] (some (.int out.1)) out.2 := by
  refine x_met (cc := cX7_digit) (nL := 2) (ret := some .int) (by decide) rfl (Nat.le_of_ble_eq_true rfl) ?_
  intro p e s m args below meth c C hr hlk
  have C : xC G p s m args c cX7_digit 2 wsX7_digit RX7 := C
  have i9 : ∀ w ∈ wsX70, w ∈ wsX7_digit := by decide +kernel
  unfold f_X7_digit at hf
  show xW G p l e (rm_X7_digit 0 0) s m args below meth c 2 (MQ below (xQr G (some (.int out.1)) out.2) args s 0 0 (xAs G)) 0 0 ta M 0 [(0, .ref (xad G 9))] []
  refine x_aload_n C 0 dX7_digit_0 rfl ?_
  refine x_aload_n C 0 dX7_digit_1 rfl ?_
  refine x_get9 C xkd_9 i9 20 (by decide) (by decide +kernel) rfl rfl dX7_digit_2 ?_
  refine x_if_ne C 25 dX7_digit_5 (by decide) (fun hc1 => ?_) (fun hc1 => ?_)
  · have hf := x_ine hc1 hf
    refine x_iconst (v := 1) C dX7_digit_25 (by decide) ?_
    refine x_goto C 30 dX7_digit_26 (by decide) ?_
    refine x_putz9 C xkd_9 i9 20 (by decide) (by decide) (by decide +kernel) dX7_digit_30 ?_
    obtain ⟨M2, e3, hf⟩ := x_lt hf
    rw [← e3]
    clear e3
    refine x_aload_n C 0 dX7_digit_33 rfl ?_
    refine x_get9 C xkd_9 i9 20 (by decide) (by decide +kernel) rfl rfl dX7_digit_34 ?_
    refine x_if_eq C 44 dX7_digit_37 (by decide) (fun hc4 => ?_) (fun hc4 => ?_)
    · have hf := x_ip hc4 hf
      refine x_aload_n C 0 dX7_digit_44 rfl ?_
      obtain ⟨q5, hg, hf⟩ := x_bd hf
      refine x_callVr C (by rw [xkd_9]; decide) (by rw [xkd_9]; decide) (xc9 xkd_9) rfl (t_X7_here hg) (cwV 0 C.1.2.2.2.2 gX7_digit_X7_here rfl rfl rfl (by decide +kernel) ⟨Nat.le_of_ble_eq_true rfl, Nat.le_of_ble_eq_true rfl⟩) rfl rfl (Nat.le_of_ble_eq_true rfl) dX7_digit_45 ⟨Nat.zero_le _, Nat.zero_le _⟩ (fun ta6 => ?_)
      clear hg
      refine x_bipush (v := 48) C dX7_digit_48 (by decide) ?_
      refine x_isub C dX7_digit_50 ?_
      refine x_istore_n (lv' := [(1, .int (q5 - (48 : Int32))), (0, .ref (xad G 9))]) C dX7_digit_51 rfl (by decide) rfl ?_
      refine x_aload_n C 1 dX7_digit_52 rfl ?_
      refine x_dup C dX7_digit_53 rfl ?_
      refine x_get9 C xkd_9 i9 18 (by decide) (by decide +kernel) rfl rfl dX7_digit_54 ?_
      refine x_aload_n C 1 dX7_digit_57 rfl ?_
      refine x_get9 C xkd_9 i9 20 (by decide) (by decide +kernel) rfl rfl dX7_digit_58 ?_
      refine x_if_eq C 68 dX7_digit_61 (by decide) (fun hc7 => ?_) (fun hc7 => ?_)
      · have hf := x_ip hc7 hf
        refine x_iconst (v := 1) C dX7_digit_68 (by decide) ?_
        refine x_iadd C dX7_digit_69 ?_
        refine x_put9 C xkd_9 i9 18 (by decide) (by decide +kernel) dX7_digit_70 ?_
        obtain ⟨M8, e9, hf⟩ := x_lt hf
        rw [← e9]
        clear e9
        refine x_iload_n C 0 dX7_digit_73 rfl ?_
        obtain rfl := Option.some.inj hf
        exact x_iret C hr hlk dX7_digit_74
      · have hf := x_ine hc7 hf
        refine x_iconst (v := 0) C dX7_digit_64 (by decide) ?_
        refine x_goto C 69 dX7_digit_65 (by decide) ?_
        refine x_iadd C dX7_digit_69 ?_
        refine x_put9 C xkd_9 i9 18 (by decide) (by decide +kernel) dX7_digit_70 ?_
        obtain ⟨M10, e11, hf⟩ := x_lt hf
        rw [← e11]
        clear e11
        refine x_iload_n C 0 dX7_digit_73 rfl ?_
        obtain rfl := Option.some.inj hf
        exact x_iret C hr hlk dX7_digit_74
    · have hf := x_ine hc4 hf
      refine x_iconst (v := 0) C dX7_digit_40 (by decide) ?_
      refine x_goto C 51 dX7_digit_41 (by decide) ?_
      refine x_istore_n (lv' := [(1, .int (0 : Int32)), (0, .ref (xad G 9))]) C dX7_digit_51 rfl (by decide) rfl ?_
      refine x_aload_n C 1 dX7_digit_52 rfl ?_
      refine x_dup C dX7_digit_53 rfl ?_
      refine x_get9 C xkd_9 i9 18 (by decide) (by decide +kernel) rfl rfl dX7_digit_54 ?_
      refine x_aload_n C 1 dX7_digit_57 rfl ?_
      refine x_get9 C xkd_9 i9 20 (by decide) (by decide +kernel) rfl rfl dX7_digit_58 ?_
      refine x_if_eq C 68 dX7_digit_61 (by decide) (fun hc12 => ?_) (fun hc12 => ?_)
      · have hf := x_ip hc12 hf
        refine x_iconst (v := 1) C dX7_digit_68 (by decide) ?_
        refine x_iadd C dX7_digit_69 ?_
        refine x_put9 C xkd_9 i9 18 (by decide) (by decide +kernel) dX7_digit_70 ?_
        obtain ⟨M13, e14, hf⟩ := x_lt hf
        rw [← e14]
        clear e14
        refine x_iload_n C 0 dX7_digit_73 rfl ?_
        obtain rfl := Option.some.inj hf
        exact x_iret C hr hlk dX7_digit_74
      · have hf := x_ine hc12 hf
        refine x_iconst (v := 0) C dX7_digit_64 (by decide) ?_
        refine x_goto C 69 dX7_digit_65 (by decide) ?_
        refine x_iadd C dX7_digit_69 ?_
        refine x_put9 C xkd_9 i9 18 (by decide) (by decide +kernel) dX7_digit_70 ?_
        obtain ⟨M15, e16, hf⟩ := x_lt hf
        rw [← e16]
        clear e16
        refine x_iload_n C 0 dX7_digit_73 rfl ?_
        obtain rfl := Option.some.inj hf
        exact x_iret C hr hlk dX7_digit_74
  · have hf := x_ip hc1 hf
    refine x_aload_n C 0 dX7_digit_8 rfl ?_
    obtain ⟨q17, hg, hf⟩ := x_bd hf
    refine x_callVr C (by rw [xkd_9]; decide) (by rw [xkd_9]; decide) (xc9 xkd_9) rfl (t_X7_here hg) (cwV 0 C.1.2.2.2.2 gX7_digit_X7_here rfl rfl rfl (by decide +kernel) ⟨Nat.le_of_ble_eq_true rfl, Nat.le_of_ble_eq_true rfl⟩) rfl rfl (Nat.le_of_ble_eq_true rfl) dX7_digit_9 ⟨Nat.zero_le _, Nat.zero_le _⟩ (fun ta18 => ?_)
    clear hg
    refine x_i2l (v := q17.toInt64) C dX7_digit_12 rfl ?_
    refine x_ldc2 (v := 48) C (by decide +kernel) dX7_digit_13 ?_
    refine x_ldc2 (v := 57) C (by decide +kernel) dX7_digit_16 ?_
    obtain ⟨q19, hg, hf⟩ := x_bd hf
    refine x_callSr C (t_X7_in hg) (va_cwS 3 C.1.2.2.2.2 gX7_digit_X7_in rfl rfl rfl (by decide +kernel) ⟨Nat.le_of_ble_eq_true rfl, Nat.le_of_ble_eq_true rfl⟩) rfl rfl (Nat.le_of_ble_eq_true rfl) dX7_digit_19 ⟨Nat.zero_le _, Nat.zero_le _⟩ (fun ta20 => ?_)
    clear hg
    refine x_if_ne C 29 dX7_digit_22 (by decide) (fun hc21 => ?_) (fun hc21 => ?_)
    · have hf := x_ine hc21 hf
      refine x_iconst (v := 0) C dX7_digit_29 (by decide) ?_
      refine x_putz9 C xkd_9 i9 20 (by decide) (by decide) (by decide +kernel) dX7_digit_30 ?_
      obtain ⟨M22, e23, hf⟩ := x_lt hf
      rw [← e23]
      clear e23
      refine x_aload_n C 0 dX7_digit_33 rfl ?_
      refine x_get9 C xkd_9 i9 20 (by decide) (by decide +kernel) rfl rfl dX7_digit_34 ?_
      refine x_if_eq C 44 dX7_digit_37 (by decide) (fun hc24 => ?_) (fun hc24 => ?_)
      · have hf := x_ip hc24 hf
        refine x_aload_n C 0 dX7_digit_44 rfl ?_
        obtain ⟨q25, hg, hf⟩ := x_bd hf
        refine x_callVr C (by rw [xkd_9]; decide) (by rw [xkd_9]; decide) (xc9 xkd_9) rfl (t_X7_here hg) (cwV 0 C.1.2.2.2.2 gX7_digit_X7_here rfl rfl rfl (by decide +kernel) ⟨Nat.le_of_ble_eq_true rfl, Nat.le_of_ble_eq_true rfl⟩) rfl rfl (Nat.le_of_ble_eq_true rfl) dX7_digit_45 ⟨Nat.zero_le _, Nat.zero_le _⟩ (fun ta26 => ?_)
        clear hg
        refine x_bipush (v := 48) C dX7_digit_48 (by decide) ?_
        refine x_isub C dX7_digit_50 ?_
        refine x_istore_n (lv' := [(1, .int (q25 - (48 : Int32))), (0, .ref (xad G 9))]) C dX7_digit_51 rfl (by decide) rfl ?_
        refine x_aload_n C 1 dX7_digit_52 rfl ?_
        refine x_dup C dX7_digit_53 rfl ?_
        refine x_get9 C xkd_9 i9 18 (by decide) (by decide +kernel) rfl rfl dX7_digit_54 ?_
        refine x_aload_n C 1 dX7_digit_57 rfl ?_
        refine x_get9 C xkd_9 i9 20 (by decide) (by decide +kernel) rfl rfl dX7_digit_58 ?_
        refine x_if_eq C 68 dX7_digit_61 (by decide) (fun hc27 => ?_) (fun hc27 => ?_)
        · have hf := x_ip hc27 hf
          refine x_iconst (v := 1) C dX7_digit_68 (by decide) ?_
          refine x_iadd C dX7_digit_69 ?_
          refine x_put9 C xkd_9 i9 18 (by decide) (by decide +kernel) dX7_digit_70 ?_
          obtain ⟨M28, e29, hf⟩ := x_lt hf
          rw [← e29]
          clear e29
          refine x_iload_n C 0 dX7_digit_73 rfl ?_
          obtain rfl := Option.some.inj hf
          exact x_iret C hr hlk dX7_digit_74
        · have hf := x_ine hc27 hf
          refine x_iconst (v := 0) C dX7_digit_64 (by decide) ?_
          refine x_goto C 69 dX7_digit_65 (by decide) ?_
          refine x_iadd C dX7_digit_69 ?_
          refine x_put9 C xkd_9 i9 18 (by decide) (by decide +kernel) dX7_digit_70 ?_
          obtain ⟨M30, e31, hf⟩ := x_lt hf
          rw [← e31]
          clear e31
          refine x_iload_n C 0 dX7_digit_73 rfl ?_
          obtain rfl := Option.some.inj hf
          exact x_iret C hr hlk dX7_digit_74
      · have hf := x_ine hc24 hf
        refine x_iconst (v := 0) C dX7_digit_40 (by decide) ?_
        refine x_goto C 51 dX7_digit_41 (by decide) ?_
        refine x_istore_n (lv' := [(1, .int (0 : Int32)), (0, .ref (xad G 9))]) C dX7_digit_51 rfl (by decide) rfl ?_
        refine x_aload_n C 1 dX7_digit_52 rfl ?_
        refine x_dup C dX7_digit_53 rfl ?_
        refine x_get9 C xkd_9 i9 18 (by decide) (by decide +kernel) rfl rfl dX7_digit_54 ?_
        refine x_aload_n C 1 dX7_digit_57 rfl ?_
        refine x_get9 C xkd_9 i9 20 (by decide) (by decide +kernel) rfl rfl dX7_digit_58 ?_
        refine x_if_eq C 68 dX7_digit_61 (by decide) (fun hc32 => ?_) (fun hc32 => ?_)
        · have hf := x_ip hc32 hf
          refine x_iconst (v := 1) C dX7_digit_68 (by decide) ?_
          refine x_iadd C dX7_digit_69 ?_
          refine x_put9 C xkd_9 i9 18 (by decide) (by decide +kernel) dX7_digit_70 ?_
          obtain ⟨M33, e34, hf⟩ := x_lt hf
          rw [← e34]
          clear e34
          refine x_iload_n C 0 dX7_digit_73 rfl ?_
          obtain rfl := Option.some.inj hf
          exact x_iret C hr hlk dX7_digit_74
        · have hf := x_ine hc32 hf
          refine x_iconst (v := 0) C dX7_digit_64 (by decide) ?_
          refine x_goto C 69 dX7_digit_65 (by decide) ?_
          refine x_iadd C dX7_digit_69 ?_
          refine x_put9 C xkd_9 i9 18 (by decide) (by decide +kernel) dX7_digit_70 ?_
          obtain ⟨M35, e36, hf⟩ := x_lt hf
          rw [← e36]
          clear e36
          refine x_iload_n C 0 dX7_digit_73 rfl ?_
          obtain rfl := Option.some.inj hf
          exact x_iret C hr hlk dX7_digit_74
    · have hf := x_ip hc21 hf
      refine x_iconst (v := 1) C dX7_digit_25 (by decide) ?_
      refine x_goto C 30 dX7_digit_26 (by decide) ?_
      refine x_putz9 C xkd_9 i9 20 (by decide) (by decide) (by decide +kernel) dX7_digit_30 ?_
      obtain ⟨M37, e38, hf⟩ := x_lt hf
      rw [← e38]
      clear e38
      refine x_aload_n C 0 dX7_digit_33 rfl ?_
      refine x_get9 C xkd_9 i9 20 (by decide) (by decide +kernel) rfl rfl dX7_digit_34 ?_
      refine x_if_eq C 44 dX7_digit_37 (by decide) (fun hc39 => ?_) (fun hc39 => ?_)
      · have hf := x_ip hc39 hf
        refine x_aload_n C 0 dX7_digit_44 rfl ?_
        obtain ⟨q40, hg, hf⟩ := x_bd hf
        refine x_callVr C (by rw [xkd_9]; decide) (by rw [xkd_9]; decide) (xc9 xkd_9) rfl (t_X7_here hg) (cwV 0 C.1.2.2.2.2 gX7_digit_X7_here rfl rfl rfl (by decide +kernel) ⟨Nat.le_of_ble_eq_true rfl, Nat.le_of_ble_eq_true rfl⟩) rfl rfl (Nat.le_of_ble_eq_true rfl) dX7_digit_45 ⟨Nat.zero_le _, Nat.zero_le _⟩ (fun ta41 => ?_)
        clear hg
        refine x_bipush (v := 48) C dX7_digit_48 (by decide) ?_
        refine x_isub C dX7_digit_50 ?_
        refine x_istore_n (lv' := [(1, .int (q40 - (48 : Int32))), (0, .ref (xad G 9))]) C dX7_digit_51 rfl (by decide) rfl ?_
        refine x_aload_n C 1 dX7_digit_52 rfl ?_
        refine x_dup C dX7_digit_53 rfl ?_
        refine x_get9 C xkd_9 i9 18 (by decide) (by decide +kernel) rfl rfl dX7_digit_54 ?_
        refine x_aload_n C 1 dX7_digit_57 rfl ?_
        refine x_get9 C xkd_9 i9 20 (by decide) (by decide +kernel) rfl rfl dX7_digit_58 ?_
        refine x_if_eq C 68 dX7_digit_61 (by decide) (fun hc42 => ?_) (fun hc42 => ?_)
        · have hf := x_ip hc42 hf
          refine x_iconst (v := 1) C dX7_digit_68 (by decide) ?_
          refine x_iadd C dX7_digit_69 ?_
          refine x_put9 C xkd_9 i9 18 (by decide) (by decide +kernel) dX7_digit_70 ?_
          obtain ⟨M43, e44, hf⟩ := x_lt hf
          rw [← e44]
          clear e44
          refine x_iload_n C 0 dX7_digit_73 rfl ?_
          obtain rfl := Option.some.inj hf
          exact x_iret C hr hlk dX7_digit_74
        · have hf := x_ine hc42 hf
          refine x_iconst (v := 0) C dX7_digit_64 (by decide) ?_
          refine x_goto C 69 dX7_digit_65 (by decide) ?_
          refine x_iadd C dX7_digit_69 ?_
          refine x_put9 C xkd_9 i9 18 (by decide) (by decide +kernel) dX7_digit_70 ?_
          obtain ⟨M45, e46, hf⟩ := x_lt hf
          rw [← e46]
          clear e46
          refine x_iload_n C 0 dX7_digit_73 rfl ?_
          obtain rfl := Option.some.inj hf
          exact x_iret C hr hlk dX7_digit_74
      · have hf := x_ine hc39 hf
        refine x_iconst (v := 0) C dX7_digit_40 (by decide) ?_
        refine x_goto C 51 dX7_digit_41 (by decide) ?_
        refine x_istore_n (lv' := [(1, .int (0 : Int32)), (0, .ref (xad G 9))]) C dX7_digit_51 rfl (by decide) rfl ?_
        refine x_aload_n C 1 dX7_digit_52 rfl ?_
        refine x_dup C dX7_digit_53 rfl ?_
        refine x_get9 C xkd_9 i9 18 (by decide) (by decide +kernel) rfl rfl dX7_digit_54 ?_
        refine x_aload_n C 1 dX7_digit_57 rfl ?_
        refine x_get9 C xkd_9 i9 20 (by decide) (by decide +kernel) rfl rfl dX7_digit_58 ?_
        refine x_if_eq C 68 dX7_digit_61 (by decide) (fun hc47 => ?_) (fun hc47 => ?_)
        · have hf := x_ip hc47 hf
          refine x_iconst (v := 1) C dX7_digit_68 (by decide) ?_
          refine x_iadd C dX7_digit_69 ?_
          refine x_put9 C xkd_9 i9 18 (by decide) (by decide +kernel) dX7_digit_70 ?_
          obtain ⟨M48, e49, hf⟩ := x_lt hf
          rw [← e49]
          clear e49
          refine x_iload_n C 0 dX7_digit_73 rfl ?_
          obtain rfl := Option.some.inj hf
          exact x_iret C hr hlk dX7_digit_74
        · have hf := x_ine hc47 hf
          refine x_iconst (v := 0) C dX7_digit_64 (by decide) ?_
          refine x_goto C 69 dX7_digit_65 (by decide) ?_
          refine x_iadd C dX7_digit_69 ?_
          refine x_put9 C xkd_9 i9 18 (by decide) (by decide +kernel) dX7_digit_70 ?_
          obtain ⟨M50, e51, hf⟩ := x_lt hf
          rw [← e51]
          clear e51
          refine x_iload_n C 0 dX7_digit_73 rfl ?_
          obtain rfl := Option.some.inj hf
          exact x_iret C hr hlk dX7_digit_74
/-! WaitingRoomSimulationModel.number()I -/
abbrev rm_X7_number (c s : Nat) : Room := { frames := 2, cells := c, slots := s, locals := 46 }
def f_X7_number (M : xM) : Option (Int32 × xM) := (f_X7_digit M).bind fun q1 => (if (q1.2.1 9 20) = 0 then (f_X7_here q1.2).bind fun q4 => (f_X7_in q4.toInt64 (48 : Int64) (57 : Int64) q1.2).bind fun q6 => (if q6 = 0 then some (q1.1, q1.2) else (f_X7_digit q1.2).bind fun q9 => some (((10 : Int32) * q1.1) + q9.1, q9.2)) else some (q1.1, q1.2))
set_option maxHeartbeats 4000000 in
set_option maxRecDepth 100000 in
theorem t_X7_number {l : Launch} {G : xG} {ta : Nat × Nat} {M : xM} {out : Int32 × xM} (hf : f_X7_number M = some out) : xMet G l yX7_number wsX7_number (rm_X7_number 0 0) 0 0 ta M [.ref (xad G 9)] (some (.int out.1)) out.2 := by
  refine x_met (cc := cX7_number) (nL := 2) (ret := some .int) (by decide) rfl (Nat.le_of_ble_eq_true rfl) ?_
  intro p e s m args below meth c C hr hlk
  have C : xC G p s m args c cX7_number 2 wsX7_number RX7 := C
  have i9 : ∀ w ∈ wsX70, w ∈ wsX7_number := by decide +kernel
  unfold f_X7_number at hf
  show xW G p l e (rm_X7_number 0 0) s m args below meth c 2 (MQ below (xQr G (some (.int out.1)) out.2) args s 0 0 (xAs G)) 0 0 ta M 0 [(0, .ref (xad G 9))] []
  refine x_aload_n C 0 dX7_number_0 rfl ?_
  obtain ⟨q1, hg, hf⟩ := x_bd hf
  refine x_callVr C (by rw [xkd_9]; decide) (by rw [xkd_9]; decide) (xc9 xkd_9) rfl (t_X7_digit hg) (cwV 0 C.1.2.2.2.2 gX7_number_X7_digit rfl rfl rfl (by decide +kernel) ⟨Nat.le_of_ble_eq_true rfl, Nat.le_of_ble_eq_true rfl⟩) rfl rfl (Nat.le_of_ble_eq_true rfl) dX7_number_1 ⟨Nat.zero_le _, Nat.zero_le _⟩ (fun ta2 => ?_)
  clear hg
  refine x_istore_n (lv' := [(1, .int q1.1), (0, .ref (xad G 9))]) C dX7_number_4 rfl (by decide) rfl ?_
  refine x_aload_n C 1 dX7_number_5 rfl ?_
  refine x_get9 C xkd_9 i9 20 (by decide) (by decide +kernel) rfl rfl dX7_number_6 ?_
  refine x_if_ne C 41 dX7_number_9 (by decide) (fun hc3 => ?_) (fun hc3 => ?_)
  · have hf := x_ine hc3 hf
    refine x_iload_n C 0 dX7_number_41 rfl ?_
    obtain rfl := Option.some.inj hf
    exact x_iret C hr hlk dX7_number_42
  · have hf := x_ip hc3 hf
    refine x_aload_n C 1 dX7_number_12 rfl ?_
    obtain ⟨q4, hg, hf⟩ := x_bd hf
    refine x_callVr C (by rw [xkd_9]; decide) (by rw [xkd_9]; decide) (xc9 xkd_9) rfl (t_X7_here hg) (cwV 0 C.1.2.2.2.2 gX7_number_X7_here rfl rfl rfl (by decide +kernel) ⟨Nat.le_of_ble_eq_true rfl, Nat.le_of_ble_eq_true rfl⟩) rfl rfl (Nat.le_of_ble_eq_true rfl) dX7_number_13 ⟨Nat.zero_le _, Nat.zero_le _⟩ (fun ta5 => ?_)
    clear hg
    refine x_i2l (v := q4.toInt64) C dX7_number_16 rfl ?_
    refine x_ldc2 (v := 48) C (by decide +kernel) dX7_number_17 ?_
    refine x_ldc2 (v := 57) C (by decide +kernel) dX7_number_20 ?_
    obtain ⟨q6, hg, hf⟩ := x_bd hf
    refine x_callSr C (t_X7_in hg) (va_cwS 3 C.1.2.2.2.2 gX7_number_X7_in rfl rfl rfl (by decide +kernel) ⟨Nat.le_of_ble_eq_true rfl, Nat.le_of_ble_eq_true rfl⟩) rfl rfl (Nat.le_of_ble_eq_true rfl) dX7_number_23 ⟨Nat.zero_le _, Nat.zero_le _⟩ (fun ta7 => ?_)
    clear hg
    refine x_if_eq C 41 dX7_number_26 (by decide) (fun hc8 => ?_) (fun hc8 => ?_)
    · have hf := x_ip hc8 hf
      refine x_iload_n C 0 dX7_number_41 rfl ?_
      obtain rfl := Option.some.inj hf
      exact x_iret C hr hlk dX7_number_42
    · have hf := x_ine hc8 hf
      refine x_bipush (v := 10) C dX7_number_29 (by decide) ?_
      refine x_iload_n C 0 dX7_number_31 rfl ?_
      refine x_imul C dX7_number_32 ?_
      refine x_aload_n C 1 dX7_number_33 rfl ?_
      obtain ⟨q9, hg, hf⟩ := x_bd hf
      refine x_callVr C (by rw [xkd_9]; decide) (by rw [xkd_9]; decide) (xc9 xkd_9) rfl (t_X7_digit hg) (cwV 0 C.1.2.2.2.2 gX7_number_X7_digit rfl rfl rfl (by decide +kernel) ⟨Nat.le_of_ble_eq_true rfl, Nat.le_of_ble_eq_true rfl⟩) rfl rfl (Nat.le_of_ble_eq_true rfl) dX7_number_34 ⟨Nat.zero_le _, Nat.zero_le _⟩ (fun ta10 => ?_)
      clear hg
      refine x_iadd C dX7_number_37 ?_
      refine x_goto C 42 dX7_number_38 (by decide) ?_
      obtain rfl := Option.some.inj hf
      exact x_iret C hr hlk dX7_number_42
/-! WaitingRoomSimulationModel.likeness(I)I -/
abbrev rm_X7_likeness (c s : Nat) : Room := { frames := 0, cells := c, slots := s, locals := 0 }
def f_X7_likeness_L18 (v1 : Int32) (v3 : Int32) (M : xM) : Nat → Int32 → Option (Int32)
  | 0, _ => none
  | n+1, v2 => (if v3 ≤ v2 then some v2 else (if (M.1 9 19) ≤ ((M.1 9 18) + v2) then some v2 else if x_in ((M.1 9 18) + v2) 60 = true then if x_in v1 10 = true then if x_in ((M.1 18 v1.toNatClampNeg) + v2) 48 = true then (if (M.1 15 ((M.1 9 18) + v2).toNatClampNeg) = (M.1 17 ((M.1 18 v1.toNatClampNeg) + v2).toNatClampNeg) then f_X7_likeness_L18 v1 v3 M n (v2 + 1) else some v2) else none else none else none))
def f_X7_likeness (a1 : Int32) (M : xM) : Option (Int32) := if x_in (a1 + (1 : Int32)) 10 = true then if x_in a1 10 = true then f_X7_likeness_L18 a1 ((M.1 18 (a1 + (1 : Int32)).toNatClampNeg) - (M.1 18 a1.toNatClampNeg)) M xF (0 : Int32) else none else none
set_option maxHeartbeats 4000000 in
set_option maxRecDepth 100000 in
theorem t_X7_likeness_L18 {G : xG} {p : Program} {l : Launch} {e : Env} {s : State} {m : MethodId} {args : Array Value} {below : List Frame} {meth : Method} {c : Code} (C : xC G p s m args c cX7_likeness 4 wsX7_likeness RX7) (hr : meth.sig.returnType = some .int) (hlk : meth.locks = false) {v1 : Int32} {v3 : Int32} {M : xM} : ∀ (n : Nat) (v2 : Int32) (ta : Nat × Nat) (out : Int32), f_X7_likeness_L18 v1 v3 M n v2 = some out → xW G p l e (rm_X7_likeness 0 0) s m args below meth c 4 (MQ below (xQr G (some (.int out)) M) args s 0 0 (xAs G)) 0 0 ta M 18 [(0, .ref (xad G 9)), (1, .int v1), (2, .int v2), (3, .int v3)] [] := by
  intro n
  induction n with
  | zero =>
    intro v2 ta out hf
    rw [f_X7_likeness_L18] at hf
    cases hf
  | succ n ih =>
    intro v2 ta out hf
    rw [f_X7_likeness_L18] at hf
    have i9 : ∀ w ∈ wsX70, w ∈ wsX7_likeness := by decide +kernel
    refine x_iload_n C 2 dX7_likeness_18 rfl ?_
    refine x_iload_n C 3 dX7_likeness_19 rfl ?_
    refine x_icmp_ge C 69 dX7_likeness_20 (by decide) (fun hc3 => ?_) (fun hc3 => ?_)
    · have hf := x_ip hc3 hf
      refine x_iload_n C 2 dX7_likeness_69 rfl ?_
      obtain rfl := Option.some.inj hf
      exact x_iret C hr hlk dX7_likeness_70
    · have hf := x_ine hc3 hf
      refine x_aload_n C 0 dX7_likeness_23 rfl ?_
      refine x_get9 C xkd_9 i9 18 (by decide) (by decide +kernel) rfl rfl dX7_likeness_24 ?_
      refine x_iload_n C 2 dX7_likeness_27 rfl ?_
      refine x_iadd C dX7_likeness_28 ?_
      refine x_aload_n C 0 dX7_likeness_29 rfl ?_
      refine x_get9 C xkd_9 i9 19 (by decide) (by decide +kernel) rfl rfl dX7_likeness_30 ?_
      refine x_icmp_ge C 69 dX7_likeness_33 (by decide) (fun hc4 => ?_) (fun hc4 => ?_)
      · have hf := x_ip hc4 hf
        refine x_iload_n C 2 dX7_likeness_69 rfl ?_
        obtain rfl := Option.some.inj hf
        exact x_iret C hr hlk dX7_likeness_70
      · have hf := x_ine hc4 hf
        refine x_aload_n C 0 dX7_likeness_36 rfl ?_
        refine x_get9 C xkd_9 i9 10 (by decide) (by decide +kernel) rfl rfl dX7_likeness_37 ?_
        refine x_aload_n C 0 dX7_likeness_40 rfl ?_
        refine x_get9 C xkd_9 i9 18 (by decide) (by decide +kernel) rfl rfl dX7_likeness_41 ?_
        refine x_iload_n C 2 dX7_likeness_44 rfl ?_
        refine x_iadd C dX7_likeness_45 ?_
        obtain ⟨g5, hf⟩ := x_gd hf
        refine x_iald C xkd_15 xl_15 g5 dX7_likeness_46 ?_
        refine x_aload_n C 0 dX7_likeness_47 rfl ?_
        refine x_get9 C xkd_9 i9 14 (by decide) (by decide +kernel) rfl rfl dX7_likeness_48 ?_
        refine x_aload_n C 0 dX7_likeness_51 rfl ?_
        refine x_get9 C xkd_9 i9 15 (by decide) (by decide +kernel) rfl rfl dX7_likeness_52 ?_
        refine x_iload_n C 1 dX7_likeness_55 rfl ?_
        obtain ⟨g6, hf⟩ := x_gd hf
        refine x_iald C xkd_18 xl_18 g6 dX7_likeness_56 ?_
        refine x_iload_n C 2 dX7_likeness_57 rfl ?_
        refine x_iadd C dX7_likeness_58 ?_
        obtain ⟨g7, hf⟩ := x_gd hf
        refine x_cald C xkd_17 xl_17 g7 dX7_likeness_59 ?_
        refine x_icmp_ne C 69 dX7_likeness_60 (by decide) (fun hc8 => ?_) (fun hc8 => ?_)
        · have hf := x_ine hc8 hf
          refine x_iload_n C 2 dX7_likeness_69 rfl ?_
          obtain rfl := Option.some.inj hf
          exact x_iret C hr hlk dX7_likeness_70
        · have hf := x_ip hc8 hf
          refine x_iinc (v := v2 + 1) (lv' := [(2, .int (v2 + 1)), (0, .ref (xad G 9)), (1, .int v1), (3, .int v3)]) C 2 dX7_likeness_63 rfl rfl (by decide) rfl ?_
          refine x_goto C 18 dX7_likeness_66 (by decide) ?_
          refine x_sub [1, 2, 0, 3] rfl ?_
          exact ih (v2 + 1) _ _ hf
set_option maxHeartbeats 4000000 in
set_option maxRecDepth 100000 in
theorem t_X7_likeness {l : Launch} {G : xG} {ta : Nat × Nat} {M : xM} {a1 : Int32} {out : Int32} (hf : f_X7_likeness a1 M = some out) : xMet G l yX7_likeness wsX7_likeness (rm_X7_likeness 0 0) 0 0 ta M [.ref (xad G 9), .int a1] (some (.int out)) M := by
  refine x_met (cc := cX7_likeness) (nL := 4) (ret := some .int) (by decide) rfl (Nat.le_of_ble_eq_true rfl) ?_
  intro p e s m args below meth c C hr hlk
  have C : xC G p s m args c cX7_likeness 4 wsX7_likeness RX7 := C
  have i9 : ∀ w ∈ wsX70, w ∈ wsX7_likeness := by decide +kernel
  unfold f_X7_likeness at hf
  show xW G p l e (rm_X7_likeness 0 0) s m args below meth c 4 (MQ below (xQr G (some (.int out)) M) args s 0 0 (xAs G)) 0 0 ta M 0 [(0, .ref (xad G 9)), (1, .int a1)] []
  refine x_iconst (v := 0) C dX7_likeness_0 (by decide) ?_
  refine x_istore_n (lv' := [(2, .int (0 : Int32)), (0, .ref (xad G 9)), (1, .int a1)]) C dX7_likeness_1 rfl (by decide) rfl ?_
  refine x_aload_n C 1 dX7_likeness_2 rfl ?_
  refine x_get9 C xkd_9 i9 15 (by decide) (by decide +kernel) rfl rfl dX7_likeness_3 ?_
  refine x_iload_n C 2 dX7_likeness_6 rfl ?_
  refine x_iconst (v := 1) C dX7_likeness_7 (by decide) ?_
  refine x_iadd C dX7_likeness_8 ?_
  obtain ⟨g1, hf⟩ := x_gd hf
  refine x_iald C xkd_18 xl_18 g1 dX7_likeness_9 ?_
  refine x_aload_n C 1 dX7_likeness_10 rfl ?_
  refine x_get9 C xkd_9 i9 15 (by decide) (by decide +kernel) rfl rfl dX7_likeness_11 ?_
  refine x_iload_n C 2 dX7_likeness_14 rfl ?_
  obtain ⟨g2, hf⟩ := x_gd hf
  refine x_iald C xkd_18 xl_18 g2 dX7_likeness_15 ?_
  refine x_isub C dX7_likeness_16 ?_
  refine x_istore_n (lv' := [(3, .int ((M.1 18 (a1 + (1 : Int32)).toNatClampNeg) - (M.1 18 a1.toNatClampNeg))), (2, .int (0 : Int32)), (0, .ref (xad G 9)), (1, .int a1)]) C dX7_likeness_17 rfl (by decide) rfl ?_
  refine x_sub [2, 3, 1, 0] rfl ?_
  exact t_X7_likeness_L18 C hr hlk xF (0 : Int32) _ _ hf
/-! WaitingRoomSimulationModel.readCommand()V -/
abbrev rm_X7_readCommand (c s : Nat) : Room := { frames := 3, cells := c, slots := s, locals := 67 }
def f_X7_readCommand_J251 (M : xM) : Option (xM) := some M
def f_X7_readCommand_J214 (v1 : Int32) (v2 : Int32) (M : xM) : Option (xM) := (if v2 = (8 : Int32) then (f_X7_here M).bind fun q36 => (if q36 = (32 : Int32) then x_let (sI M 9 18 ((M.1 9 18) + (1 : Int32))) fun M39 => (f_X7_number M39).bind fun q41 => if x_in (v1 + (1 : Int32)) 244 = true then x_let (sI q41.2 19 (v1 + (1 : Int32)).toNatClampNeg q41.1) fun M44 => f_X7_readCommand_J251 M44 else none else f_X7_readCommand_J251 M) else f_X7_readCommand_J251 M)
def f_X7_readCommand_J191 (v1 : Int32) (v2 : Int32) (M : xM) : Option (xM) := (if v2 = (1 : Int32) then (f_X7_expects (32 : Int32) M).bind fun q46 => (f_X7_digit q46).bind fun q48 => if x_in (v1 + (3 : Int32)) 244 = true then x_let (sI q48.2 19 (v1 + (3 : Int32)).toNatClampNeg q48.1) fun M51 => f_X7_readCommand_J214 v1 v2 M51 else none else f_X7_readCommand_J214 v1 v2 M)
def f_X7_readCommand_J173 (v1 : Int32) (v2 : Int32) (M : xM) : Option (xM) := (f_X7_expects (32 : Int32) M).bind fun q27 => (f_X7_number q27).bind fun q29 => if x_in (v1 + (2 : Int32)) 244 = true then x_let (sI q29.2 19 (v1 + (2 : Int32)).toNatClampNeg q29.1) fun M32 => f_X7_readCommand_J191 v1 v2 M32 else none
def f_X7_readCommand_J163 (v1 : Int32) (v2 : Int32) (M : xM) : Option (xM) := (if v2 = (1 : Int32) then f_X7_readCommand_J173 v1 v2 M else (if v2 = (3 : Int32) then f_X7_readCommand_J173 v1 v2 M else f_X7_readCommand_J191 v1 v2 M))
def f_X7_readCommand_J130 (v1 : Int32) (v2 : Int32) (M : xM) : Option (xM) := (f_X7_digit M).bind fun q21 => if x_in (v1 + (1 : Int32)) 244 = true then x_let (sI q21.2 19 (v1 + (1 : Int32)).toNatClampNeg q21.1) fun M24 => f_X7_readCommand_J163 v1 v2 M24 else none
def f_X7_readCommand_L11 (v1 : Int32) (M : xM) : Nat → Int32 → Int32 → Option (xM)
  | 0, _, _ => none
  | n+1, v2, v3 => (if (9 : Int32) ≤ v3 then (f_X7_likeness v2 M).bind fun q2 => x_let (sI M 9 18 ((M.1 9 18) + q2)) fun M4 => if x_in (v2 + (1 : Int32)) 10 = true then if x_in v2 10 = true then (if ((M4.1 18 (v2 + (1 : Int32)).toNatClampNeg) - (M4.1 18 v2.toNatClampNeg)) ≤ q2 then x_let (sI M4 9 20 (0 : Int32)) fun M9 => (if (M9.1 9 20) = 0 then if x_in v1 244 = true then x_let (sI M9 19 v1.toNatClampNeg v2) fun M13 => if x_in (v1 + (1 : Int32)) 244 = true then x_let (sI M13 19 (v1 + (1 : Int32)).toNatClampNeg (1 : Int32)) fun M16 => x_let (sI M16 9 17 ((M16.1 9 17) + (1 : Int32))) fun M18 => (if v2 = (1 : Int32) then f_X7_readCommand_J130 v1 v2 M18 else (if v2 = (2 : Int32) then f_X7_readCommand_J130 v1 v2 M18 else (if (7 : Int32) ≤ v2 then f_X7_readCommand_J163 v1 v2 M18 else (f_X7_number M18).bind fun q56 => if x_in (v1 + (1 : Int32)) 244 = true then x_let (sI q56.2 19 (v1 + (1 : Int32)).toNatClampNeg q56.1) fun M59 => f_X7_readCommand_J163 v1 v2 M59 else none))) else none else none else some M9) else x_let (sI M4 9 20 (1 : Int32)) fun M61 => (if (M61.1 9 20) = 0 then if x_in v1 244 = true then x_let (sI M61 19 v1.toNatClampNeg v2) fun M65 => if x_in (v1 + (1 : Int32)) 244 = true then x_let (sI M65 19 (v1 + (1 : Int32)).toNatClampNeg (1 : Int32)) fun M68 => x_let (sI M68 9 17 ((M68.1 9 17) + (1 : Int32))) fun M70 => (if v2 = (1 : Int32) then f_X7_readCommand_J130 v1 v2 M70 else (if v2 = (2 : Int32) then f_X7_readCommand_J130 v1 v2 M70 else (if (7 : Int32) ≤ v2 then f_X7_readCommand_J163 v1 v2 M70 else (f_X7_number M70).bind fun q75 => if x_in (v1 + (1 : Int32)) 244 = true then x_let (sI q75.2 19 (v1 + (1 : Int32)).toNatClampNeg q75.1) fun M78 => f_X7_readCommand_J163 v1 v2 M78 else none))) else none else none else some M61)) else none else none else (f_X7_likeness v3 M).bind fun q80 => (f_X7_likeness v2 M).bind fun q82 => (if q80 ≤ q82 then f_X7_readCommand_L11 v1 M n v2 (v3 + 1) else f_X7_readCommand_L11 v1 M n v3 (v3 + 1)))
def f_X7_readCommand (M : xM) : Option (xM) := f_X7_readCommand_L11 ((4 : Int32) * (M.1 9 17)) M xF (0 : Int32) (1 : Int32)
set_option maxHeartbeats 4000000 in
set_option maxRecDepth 100000 in
theorem t_X7_readCommand_J251 {G : xG} {p : Program} {l : Launch} {e : Env} {s : State} {m : MethodId} {args : Array Value} {below : List Frame} {meth : Method} {c : Code} (C : xC G p s m args c cX7_readCommand 4 wsX7_readCommand RX7) (hr : meth.sig.returnType = none) (hlk : meth.locks = false) {M : xM} {ta : Nat × Nat} {out : xM} (hf : f_X7_readCommand_J251 M = some out) : xW G p l e (rm_X7_readCommand 0 0) s m args below meth c 4 (MQ below (xQr G none out) args s 0 0 (xAs G)) 0 0 ta M 251 [] [] := by
  unfold f_X7_readCommand_J251 at hf
  have i9 : ∀ w ∈ wsX70, w ∈ wsX7_readCommand := by decide +kernel
  obtain rfl := Option.some.inj hf
  exact x_vret C hr hlk dX7_readCommand_251
set_option maxHeartbeats 4000000 in
set_option maxRecDepth 100000 in
theorem t_X7_readCommand_J214 {G : xG} {p : Program} {l : Launch} {e : Env} {s : State} {m : MethodId} {args : Array Value} {below : List Frame} {meth : Method} {c : Code} (C : xC G p s m args c cX7_readCommand 4 wsX7_readCommand RX7) (hr : meth.sig.returnType = none) (hlk : meth.locks = false) {v1 : Int32} {v2 : Int32} {M : xM} {ta : Nat × Nat} {out : xM} (hf : f_X7_readCommand_J214 v1 v2 M = some out) : xW G p l e (rm_X7_readCommand 0 0) s m args below meth c 4 (MQ below (xQr G none out) args s 0 0 (xAs G)) 0 0 ta M 214 [(0, .ref (xad G 9)), (1, .int v1), (2, .int v2)] [] := by
  unfold f_X7_readCommand_J214 at hf
  have i9 : ∀ w ∈ wsX70, w ∈ wsX7_readCommand := by decide +kernel
  refine x_iload_n C 2 dX7_readCommand_214 rfl ?_
  refine x_bipush (v := 8) C dX7_readCommand_215 (by decide) ?_
  refine x_icmp_ne C 251 dX7_readCommand_217 (by decide) (fun hc35 => ?_) (fun hc35 => ?_)
  · have hf := x_ine hc35 hf
    refine x_sub [] rfl ?_
    exact t_X7_readCommand_J251 C hr hlk hf
  · have hf := x_ip hc35 hf
    refine x_aload_n C 0 dX7_readCommand_220 rfl ?_
    obtain ⟨q36, hg, hf⟩ := x_bd hf
    refine x_callVr C (by rw [xkd_9]; decide) (by rw [xkd_9]; decide) (xc9 xkd_9) rfl (t_X7_here hg) (cwV 0 C.1.2.2.2.2 gX7_readCommand_X7_here rfl rfl rfl (by decide +kernel) ⟨Nat.le_of_ble_eq_true rfl, Nat.le_of_ble_eq_true rfl⟩) rfl rfl (Nat.le_of_ble_eq_true rfl) dX7_readCommand_221 ⟨Nat.zero_le _, Nat.zero_le _⟩ (fun ta37 => ?_)
    clear hg
    refine x_bipush (v := 32) C dX7_readCommand_224 (by decide) ?_
    refine x_icmp_ne C 251 dX7_readCommand_226 (by decide) (fun hc38 => ?_) (fun hc38 => ?_)
    · have hf := x_ine hc38 hf
      refine x_sub [] rfl ?_
      exact t_X7_readCommand_J251 C hr hlk hf
    · have hf := x_ip hc38 hf
      refine x_aload_n C 0 dX7_readCommand_229 rfl ?_
      refine x_dup C dX7_readCommand_230 rfl ?_
      refine x_get9 C xkd_9 i9 18 (by decide) (by decide +kernel) rfl rfl dX7_readCommand_231 ?_
      refine x_iconst (v := 1) C dX7_readCommand_234 (by decide) ?_
      refine x_iadd C dX7_readCommand_235 ?_
      refine x_put9 C xkd_9 i9 18 (by decide) (by decide +kernel) dX7_readCommand_236 ?_
      obtain ⟨M39, e40, hf⟩ := x_lt hf
      rw [← e40]
      clear e40
      refine x_aload_n C 0 dX7_readCommand_239 rfl ?_
      refine x_get9 C xkd_9 i9 16 (by decide) (by decide +kernel) rfl rfl dX7_readCommand_240 ?_
      refine x_iload_n C 1 dX7_readCommand_243 rfl ?_
      refine x_iconst (v := 1) C dX7_readCommand_244 (by decide) ?_
      refine x_iadd C dX7_readCommand_245 ?_
      refine x_aload_n C 0 dX7_readCommand_246 rfl ?_
      obtain ⟨q41, hg, hf⟩ := x_bd hf
      refine x_callVr C (by rw [xkd_9]; decide) (by rw [xkd_9]; decide) (xc9 xkd_9) rfl (t_X7_number hg) (cwV 0 C.1.2.2.2.2 gX7_readCommand_X7_number rfl rfl rfl (by decide +kernel) ⟨Nat.le_of_ble_eq_true rfl, Nat.le_of_ble_eq_true rfl⟩) rfl rfl (Nat.le_of_ble_eq_true rfl) dX7_readCommand_247 ⟨Nat.zero_le _, Nat.zero_le _⟩ (fun ta42 => ?_)
      clear hg
      obtain ⟨g43, hf⟩ := x_gd hf
      refine x_iast C xkd_19 xl_19 g43 dX7_readCommand_250 ?_
      obtain ⟨M44, e45, hf⟩ := x_lt hf
      rw [← e45]
      clear e45
      refine x_sub [] rfl ?_
      exact t_X7_readCommand_J251 C hr hlk hf
set_option maxHeartbeats 4000000 in
set_option maxRecDepth 100000 in
theorem t_X7_readCommand_J191 {G : xG} {p : Program} {l : Launch} {e : Env} {s : State} {m : MethodId} {args : Array Value} {below : List Frame} {meth : Method} {c : Code} (C : xC G p s m args c cX7_readCommand 4 wsX7_readCommand RX7) (hr : meth.sig.returnType = none) (hlk : meth.locks = false) {v1 : Int32} {v2 : Int32} {M : xM} {ta : Nat × Nat} {out : xM} (hf : f_X7_readCommand_J191 v1 v2 M = some out) : xW G p l e (rm_X7_readCommand 0 0) s m args below meth c 4 (MQ below (xQr G none out) args s 0 0 (xAs G)) 0 0 ta M 191 [(0, .ref (xad G 9)), (1, .int v1), (2, .int v2)] [] := by
  unfold f_X7_readCommand_J191 at hf
  have i9 : ∀ w ∈ wsX70, w ∈ wsX7_readCommand := by decide +kernel
  refine x_iload_n C 2 dX7_readCommand_191 rfl ?_
  refine x_iconst (v := 1) C dX7_readCommand_192 (by decide) ?_
  refine x_icmp_ne C 214 dX7_readCommand_193 (by decide) (fun hc34 => ?_) (fun hc34 => ?_)
  · have hf := x_ine hc34 hf
    refine x_sub [0, 1, 2] rfl ?_
    exact t_X7_readCommand_J214 C hr hlk hf
  · have hf := x_ip hc34 hf
    refine x_aload_n C 0 dX7_readCommand_196 rfl ?_
    refine x_bipush (v := 32) C dX7_readCommand_197 (by decide) ?_
    obtain ⟨q46, hg, hf⟩ := x_bd hf
    refine x_callVv C (by rw [xkd_9]; decide) (by rw [xkd_9]; decide) (xc9 xkd_9) rfl (t_X7_expects hg) (cwV 1 C.1.2.2.2.2 gX7_readCommand_X7_expects rfl rfl rfl (by decide +kernel) ⟨Nat.le_of_ble_eq_true rfl, Nat.le_of_ble_eq_true rfl⟩) rfl rfl (Nat.le_of_ble_eq_true rfl) dX7_readCommand_199 ⟨Nat.zero_le _, Nat.zero_le _⟩ (fun ta47 => ?_)
    clear hg
    refine x_aload_n C 0 dX7_readCommand_202 rfl ?_
    refine x_get9 C xkd_9 i9 16 (by decide) (by decide +kernel) rfl rfl dX7_readCommand_203 ?_
    refine x_iload_n C 1 dX7_readCommand_206 rfl ?_
    refine x_iconst (v := 3) C dX7_readCommand_207 (by decide) ?_
    refine x_iadd C dX7_readCommand_208 ?_
    refine x_aload_n C 0 dX7_readCommand_209 rfl ?_
    obtain ⟨q48, hg, hf⟩ := x_bd hf
    refine x_callVr C (by rw [xkd_9]; decide) (by rw [xkd_9]; decide) (xc9 xkd_9) rfl (t_X7_digit hg) (cwV 0 C.1.2.2.2.2 gX7_readCommand_X7_digit rfl rfl rfl (by decide +kernel) ⟨Nat.le_of_ble_eq_true rfl, Nat.le_of_ble_eq_true rfl⟩) rfl rfl (Nat.le_of_ble_eq_true rfl) dX7_readCommand_210 ⟨Nat.zero_le _, Nat.zero_le _⟩ (fun ta49 => ?_)
    clear hg
    obtain ⟨g50, hf⟩ := x_gd hf
    refine x_iast C xkd_19 xl_19 g50 dX7_readCommand_213 ?_
    obtain ⟨M51, e52, hf⟩ := x_lt hf
    rw [← e52]
    clear e52
    refine x_sub [0, 1, 2] rfl ?_
    exact t_X7_readCommand_J214 C hr hlk hf
set_option maxHeartbeats 4000000 in
set_option maxRecDepth 100000 in
theorem t_X7_readCommand_J173 {G : xG} {p : Program} {l : Launch} {e : Env} {s : State} {m : MethodId} {args : Array Value} {below : List Frame} {meth : Method} {c : Code} (C : xC G p s m args c cX7_readCommand 4 wsX7_readCommand RX7) (hr : meth.sig.returnType = none) (hlk : meth.locks = false) {v1 : Int32} {v2 : Int32} {M : xM} {ta : Nat × Nat} {out : xM} (hf : f_X7_readCommand_J173 v1 v2 M = some out) : xW G p l e (rm_X7_readCommand 0 0) s m args below meth c 4 (MQ below (xQr G none out) args s 0 0 (xAs G)) 0 0 ta M 173 [(0, .ref (xad G 9)), (1, .int v1), (2, .int v2)] [] := by
  unfold f_X7_readCommand_J173 at hf
  have i9 : ∀ w ∈ wsX70, w ∈ wsX7_readCommand := by decide +kernel
  refine x_aload_n C 0 dX7_readCommand_173 rfl ?_
  refine x_bipush (v := 32) C dX7_readCommand_174 (by decide) ?_
  obtain ⟨q27, hg, hf⟩ := x_bd hf
  refine x_callVv C (by rw [xkd_9]; decide) (by rw [xkd_9]; decide) (xc9 xkd_9) rfl (t_X7_expects hg) (cwV 1 C.1.2.2.2.2 gX7_readCommand_X7_expects rfl rfl rfl (by decide +kernel) ⟨Nat.le_of_ble_eq_true rfl, Nat.le_of_ble_eq_true rfl⟩) rfl rfl (Nat.le_of_ble_eq_true rfl) dX7_readCommand_176 ⟨Nat.zero_le _, Nat.zero_le _⟩ (fun ta28 => ?_)
  clear hg
  refine x_aload_n C 0 dX7_readCommand_179 rfl ?_
  refine x_get9 C xkd_9 i9 16 (by decide) (by decide +kernel) rfl rfl dX7_readCommand_180 ?_
  refine x_iload_n C 1 dX7_readCommand_183 rfl ?_
  refine x_iconst (v := 2) C dX7_readCommand_184 (by decide) ?_
  refine x_iadd C dX7_readCommand_185 ?_
  refine x_aload_n C 0 dX7_readCommand_186 rfl ?_
  obtain ⟨q29, hg, hf⟩ := x_bd hf
  refine x_callVr C (by rw [xkd_9]; decide) (by rw [xkd_9]; decide) (xc9 xkd_9) rfl (t_X7_number hg) (cwV 0 C.1.2.2.2.2 gX7_readCommand_X7_number rfl rfl rfl (by decide +kernel) ⟨Nat.le_of_ble_eq_true rfl, Nat.le_of_ble_eq_true rfl⟩) rfl rfl (Nat.le_of_ble_eq_true rfl) dX7_readCommand_187 ⟨Nat.zero_le _, Nat.zero_le _⟩ (fun ta30 => ?_)
  clear hg
  obtain ⟨g31, hf⟩ := x_gd hf
  refine x_iast C xkd_19 xl_19 g31 dX7_readCommand_190 ?_
  obtain ⟨M32, e33, hf⟩ := x_lt hf
  rw [← e33]
  clear e33
  refine x_sub [0, 1, 2] rfl ?_
  exact t_X7_readCommand_J191 C hr hlk hf
set_option maxHeartbeats 4000000 in
set_option maxRecDepth 100000 in
theorem t_X7_readCommand_J163 {G : xG} {p : Program} {l : Launch} {e : Env} {s : State} {m : MethodId} {args : Array Value} {below : List Frame} {meth : Method} {c : Code} (C : xC G p s m args c cX7_readCommand 4 wsX7_readCommand RX7) (hr : meth.sig.returnType = none) (hlk : meth.locks = false) {v1 : Int32} {v2 : Int32} {M : xM} {ta : Nat × Nat} {out : xM} (hf : f_X7_readCommand_J163 v1 v2 M = some out) : xW G p l e (rm_X7_readCommand 0 0) s m args below meth c 4 (MQ below (xQr G none out) args s 0 0 (xAs G)) 0 0 ta M 163 [(0, .ref (xad G 9)), (1, .int v1), (2, .int v2)] [] := by
  unfold f_X7_readCommand_J163 at hf
  have i9 : ∀ w ∈ wsX70, w ∈ wsX7_readCommand := by decide +kernel
  refine x_iload_n C 2 dX7_readCommand_163 rfl ?_
  refine x_iconst (v := 1) C dX7_readCommand_164 (by decide) ?_
  refine x_icmp_eq C 173 dX7_readCommand_165 (by decide) (fun hc26 => ?_) (fun hc26 => ?_)
  · have hf := x_ip hc26 hf
    refine x_sub [0, 1, 2] rfl ?_
    exact t_X7_readCommand_J173 C hr hlk hf
  · have hf := x_ine hc26 hf
    refine x_iload_n C 2 dX7_readCommand_168 rfl ?_
    refine x_iconst (v := 3) C dX7_readCommand_169 (by decide) ?_
    refine x_icmp_ne C 191 dX7_readCommand_170 (by decide) (fun hc53 => ?_) (fun hc53 => ?_)
    · have hf := x_ine hc53 hf
      refine x_sub [0, 1, 2] rfl ?_
      exact t_X7_readCommand_J191 C hr hlk hf
    · have hf := x_ip hc53 hf
      refine x_sub [0, 1, 2] rfl ?_
      exact t_X7_readCommand_J173 C hr hlk hf
set_option maxHeartbeats 4000000 in
set_option maxRecDepth 100000 in
theorem t_X7_readCommand_J130 {G : xG} {p : Program} {l : Launch} {e : Env} {s : State} {m : MethodId} {args : Array Value} {below : List Frame} {meth : Method} {c : Code} (C : xC G p s m args c cX7_readCommand 4 wsX7_readCommand RX7) (hr : meth.sig.returnType = none) (hlk : meth.locks = false) {v1 : Int32} {v2 : Int32} {M : xM} {ta : Nat × Nat} {out : xM} (hf : f_X7_readCommand_J130 v1 v2 M = some out) : xW G p l e (rm_X7_readCommand 0 0) s m args below meth c 4 (MQ below (xQr G none out) args s 0 0 (xAs G)) 0 0 ta M 130 [(0, .ref (xad G 9)), (1, .int v1), (2, .int v2)] [] := by
  unfold f_X7_readCommand_J130 at hf
  have i9 : ∀ w ∈ wsX70, w ∈ wsX7_readCommand := by decide +kernel
  refine x_aload_n C 0 dX7_readCommand_130 rfl ?_
  refine x_get9 C xkd_9 i9 16 (by decide) (by decide +kernel) rfl rfl dX7_readCommand_131 ?_
  refine x_iload_n C 1 dX7_readCommand_134 rfl ?_
  refine x_iconst (v := 1) C dX7_readCommand_135 (by decide) ?_
  refine x_iadd C dX7_readCommand_136 ?_
  refine x_aload_n C 0 dX7_readCommand_137 rfl ?_
  obtain ⟨q21, hg, hf⟩ := x_bd hf
  refine x_callVr C (by rw [xkd_9]; decide) (by rw [xkd_9]; decide) (xc9 xkd_9) rfl (t_X7_digit hg) (cwV 0 C.1.2.2.2.2 gX7_readCommand_X7_digit rfl rfl rfl (by decide +kernel) ⟨Nat.le_of_ble_eq_true rfl, Nat.le_of_ble_eq_true rfl⟩) rfl rfl (Nat.le_of_ble_eq_true rfl) dX7_readCommand_138 ⟨Nat.zero_le _, Nat.zero_le _⟩ (fun ta22 => ?_)
  clear hg
  obtain ⟨g23, hf⟩ := x_gd hf
  refine x_iast C xkd_19 xl_19 g23 dX7_readCommand_141 ?_
  obtain ⟨M24, e25, hf⟩ := x_lt hf
  rw [← e25]
  clear e25
  refine x_goto C 163 dX7_readCommand_142 (by decide) ?_
  refine x_sub [0, 1, 2] rfl ?_
  exact t_X7_readCommand_J163 C hr hlk hf
set_option maxHeartbeats 4000000 in
set_option maxRecDepth 100000 in
theorem t_X7_readCommand_L11 {G : xG} {p : Program} {l : Launch} {e : Env} {s : State} {m : MethodId} {args : Array Value} {below : List Frame} {meth : Method} {c : Code} (C : xC G p s m args c cX7_readCommand 4 wsX7_readCommand RX7) (hr : meth.sig.returnType = none) (hlk : meth.locks = false) {v1 : Int32} {M : xM} : ∀ (n : Nat) (v2 : Int32) (v3 : Int32) (ta : Nat × Nat) (out : xM), f_X7_readCommand_L11 v1 M n v2 v3 = some out → xW G p l e (rm_X7_readCommand 0 0) s m args below meth c 4 (MQ below (xQr G none out) args s 0 0 (xAs G)) 0 0 ta M 11 [(0, .ref (xad G 9)), (1, .int v1), (2, .int v2), (3, .int v3)] [] := by
  intro n
  induction n with
  | zero =>
    intro v2 v3 ta out hf
    rw [f_X7_readCommand_L11] at hf
    cases hf
  | succ n ih =>
    intro v2 v3 ta out hf
    rw [f_X7_readCommand_L11] at hf
    have i9 : ∀ w ∈ wsX70, w ∈ wsX7_readCommand := by decide +kernel
    refine x_iload_n C 3 dX7_readCommand_11 rfl ?_
    refine x_bipush (v := 9) C dX7_readCommand_12 (by decide) ?_
    refine x_icmp_ge C 42 dX7_readCommand_14 (by decide) (fun hc1 => ?_) (fun hc1 => ?_)
    · have hf := x_ip hc1 hf
      refine x_aload_n C 0 dX7_readCommand_42 rfl ?_
      refine x_iload_n C 2 dX7_readCommand_43 rfl ?_
      obtain ⟨q2, hg, hf⟩ := x_bd hf
      refine x_callVr C (by rw [xkd_9]; decide) (by rw [xkd_9]; decide) (xc9 xkd_9) rfl (t_X7_likeness hg) (cwV 1 C.1.2.2.2.2 gX7_readCommand_X7_likeness rfl rfl rfl (by decide +kernel) ⟨Nat.le_of_ble_eq_true rfl, Nat.le_of_ble_eq_true rfl⟩) rfl rfl (Nat.le_of_ble_eq_true rfl) dX7_readCommand_44 ⟨Nat.zero_le _, Nat.zero_le _⟩ (fun ta3 => ?_)
      clear hg
      refine x_istore_n (lv' := [(3, .int q2), (0, .ref (xad G 9)), (1, .int v1), (2, .int v2)]) C dX7_readCommand_47 rfl (by decide) rfl ?_
      refine x_aload_n C 1 dX7_readCommand_48 rfl ?_
      refine x_dup C dX7_readCommand_49 rfl ?_
      refine x_get9 C xkd_9 i9 18 (by decide) (by decide +kernel) rfl rfl dX7_readCommand_50 ?_
      refine x_iload_n C 0 dX7_readCommand_53 rfl ?_
      refine x_iadd C dX7_readCommand_54 ?_
      refine x_put9 C xkd_9 i9 18 (by decide) (by decide +kernel) dX7_readCommand_55 ?_
      obtain ⟨M4, e5, hf⟩ := x_lt hf
      rw [← e5]
      clear e5
      refine x_aload_n C 1 dX7_readCommand_58 rfl ?_
      refine x_iload_n C 0 dX7_readCommand_59 rfl ?_
      refine x_aload_n C 1 dX7_readCommand_60 rfl ?_
      refine x_get9 C xkd_9 i9 15 (by decide) (by decide +kernel) rfl rfl dX7_readCommand_61 ?_
      refine x_iload_n C 3 dX7_readCommand_64 rfl ?_
      refine x_iconst (v := 1) C dX7_readCommand_65 (by decide) ?_
      refine x_iadd C dX7_readCommand_66 ?_
      obtain ⟨g6, hf⟩ := x_gd hf
      refine x_iald C xkd_18 xl_18 g6 dX7_readCommand_67 ?_
      refine x_aload_n C 1 dX7_readCommand_68 rfl ?_
      refine x_get9 C xkd_9 i9 15 (by decide) (by decide +kernel) rfl rfl dX7_readCommand_69 ?_
      refine x_iload_n C 3 dX7_readCommand_72 rfl ?_
      obtain ⟨g7, hf⟩ := x_gd hf
      refine x_iald C xkd_18 xl_18 g7 dX7_readCommand_73 ?_
      refine x_isub C dX7_readCommand_74 ?_
      refine x_icmp_ge C 82 dX7_readCommand_75 (by decide) (fun hc8 => ?_) (fun hc8 => ?_)
      · have hf := x_ip hc8 hf
        refine x_iconst (v := 0) C dX7_readCommand_82 (by decide) ?_
        refine x_putz9 C xkd_9 i9 20 (by decide) (by decide) (by decide +kernel) dX7_readCommand_83 ?_
        obtain ⟨M9, e10, hf⟩ := x_lt hf
        rw [← e10]
        clear e10
        refine x_aload_n C 1 dX7_readCommand_86 rfl ?_
        refine x_get9 C xkd_9 i9 20 (by decide) (by decide +kernel) rfl rfl dX7_readCommand_87 ?_
        refine x_if_eq C 94 dX7_readCommand_90 (by decide) (fun hc11 => ?_) (fun hc11 => ?_)
        · have hf := x_ip hc11 hf
          refine x_aload_n C 1 dX7_readCommand_94 rfl ?_
          refine x_get9 C xkd_9 i9 16 (by decide) (by decide +kernel) rfl rfl dX7_readCommand_95 ?_
          refine x_iload_n C 2 dX7_readCommand_98 rfl ?_
          refine x_iload_n C 3 dX7_readCommand_99 rfl ?_
          obtain ⟨g12, hf⟩ := x_gd hf
          refine x_iast C xkd_19 xl_19 g12 dX7_readCommand_100 ?_
          obtain ⟨M13, e14, hf⟩ := x_lt hf
          rw [← e14]
          clear e14
          refine x_aload_n C 1 dX7_readCommand_101 rfl ?_
          refine x_get9 C xkd_9 i9 16 (by decide) (by decide +kernel) rfl rfl dX7_readCommand_102 ?_
          refine x_iload_n C 2 dX7_readCommand_105 rfl ?_
          refine x_iconst (v := 1) C dX7_readCommand_106 (by decide) ?_
          refine x_iadd C dX7_readCommand_107 ?_
          refine x_iconst (v := 1) C dX7_readCommand_108 (by decide) ?_
          obtain ⟨g15, hf⟩ := x_gd hf
          refine x_iast C xkd_19 xl_19 g15 dX7_readCommand_109 ?_
          obtain ⟨M16, e17, hf⟩ := x_lt hf
          rw [← e17]
          clear e17
          refine x_aload_n C 1 dX7_readCommand_110 rfl ?_
          refine x_dup C dX7_readCommand_111 rfl ?_
          refine x_get9 C xkd_9 i9 17 (by decide) (by decide +kernel) rfl rfl dX7_readCommand_112 ?_
          refine x_iconst (v := 1) C dX7_readCommand_115 (by decide) ?_
          refine x_iadd C dX7_readCommand_116 ?_
          refine x_put9 C xkd_9 i9 17 (by decide) (by decide +kernel) dX7_readCommand_117 ?_
          obtain ⟨M18, e19, hf⟩ := x_lt hf
          rw [← e19]
          clear e19
          refine x_iload_n C 3 dX7_readCommand_120 rfl ?_
          refine x_iconst (v := 1) C dX7_readCommand_121 (by decide) ?_
          refine x_icmp_eq C 130 dX7_readCommand_122 (by decide) (fun hc20 => ?_) (fun hc20 => ?_)
          · have hf := x_ip hc20 hf
            refine x_sub [1, 2, 3] rfl ?_
            exact t_X7_readCommand_J130 C hr hlk hf
          · have hf := x_ine hc20 hf
            refine x_iload_n C 3 dX7_readCommand_125 rfl ?_
            refine x_iconst (v := 2) C dX7_readCommand_126 (by decide) ?_
            refine x_icmp_ne C 145 dX7_readCommand_127 (by decide) (fun hc54 => ?_) (fun hc54 => ?_)
            · have hf := x_ine hc54 hf
              refine x_iload_n C 3 dX7_readCommand_145 rfl ?_
              refine x_bipush (v := 7) C dX7_readCommand_146 (by decide) ?_
              refine x_icmp_ge C 163 dX7_readCommand_148 (by decide) (fun hc55 => ?_) (fun hc55 => ?_)
              · have hf := x_ip hc55 hf
                refine x_sub [1, 2, 3] rfl ?_
                exact t_X7_readCommand_J163 C hr hlk hf
              · have hf := x_ine hc55 hf
                refine x_aload_n C 1 dX7_readCommand_151 rfl ?_
                refine x_get9 C xkd_9 i9 16 (by decide) (by decide +kernel) rfl rfl dX7_readCommand_152 ?_
                refine x_iload_n C 2 dX7_readCommand_155 rfl ?_
                refine x_iconst (v := 1) C dX7_readCommand_156 (by decide) ?_
                refine x_iadd C dX7_readCommand_157 ?_
                refine x_aload_n C 1 dX7_readCommand_158 rfl ?_
                obtain ⟨q56, hg, hf⟩ := x_bd hf
                refine x_callVr C (by rw [xkd_9]; decide) (by rw [xkd_9]; decide) (xc9 xkd_9) rfl (t_X7_number hg) (cwV 0 C.1.2.2.2.2 gX7_readCommand_X7_number rfl rfl rfl (by decide +kernel) ⟨Nat.le_of_ble_eq_true rfl, Nat.le_of_ble_eq_true rfl⟩) rfl rfl (Nat.le_of_ble_eq_true rfl) dX7_readCommand_159 ⟨Nat.zero_le _, Nat.zero_le _⟩ (fun ta57 => ?_)
                clear hg
                obtain ⟨g58, hf⟩ := x_gd hf
                refine x_iast C xkd_19 xl_19 g58 dX7_readCommand_162 ?_
                obtain ⟨M59, e60, hf⟩ := x_lt hf
                rw [← e60]
                clear e60
                refine x_sub [1, 2, 3] rfl ?_
                exact t_X7_readCommand_J163 C hr hlk hf
            · have hf := x_ip hc54 hf
              refine x_sub [1, 2, 3] rfl ?_
              exact t_X7_readCommand_J130 C hr hlk hf
        · have hf := x_ine hc11 hf
          obtain rfl := Option.some.inj hf
          exact x_vret C hr hlk dX7_readCommand_93
      · have hf := x_ine hc8 hf
        refine x_iconst (v := 1) C dX7_readCommand_78 (by decide) ?_
        refine x_goto C 83 dX7_readCommand_79 (by decide) ?_
        refine x_putz9 C xkd_9 i9 20 (by decide) (by decide) (by decide +kernel) dX7_readCommand_83 ?_
        obtain ⟨M61, e62, hf⟩ := x_lt hf
        rw [← e62]
        clear e62
        refine x_aload_n C 1 dX7_readCommand_86 rfl ?_
        refine x_get9 C xkd_9 i9 20 (by decide) (by decide +kernel) rfl rfl dX7_readCommand_87 ?_
        refine x_if_eq C 94 dX7_readCommand_90 (by decide) (fun hc63 => ?_) (fun hc63 => ?_)
        · have hf := x_ip hc63 hf
          refine x_aload_n C 1 dX7_readCommand_94 rfl ?_
          refine x_get9 C xkd_9 i9 16 (by decide) (by decide +kernel) rfl rfl dX7_readCommand_95 ?_
          refine x_iload_n C 2 dX7_readCommand_98 rfl ?_
          refine x_iload_n C 3 dX7_readCommand_99 rfl ?_
          obtain ⟨g64, hf⟩ := x_gd hf
          refine x_iast C xkd_19 xl_19 g64 dX7_readCommand_100 ?_
          obtain ⟨M65, e66, hf⟩ := x_lt hf
          rw [← e66]
          clear e66
          refine x_aload_n C 1 dX7_readCommand_101 rfl ?_
          refine x_get9 C xkd_9 i9 16 (by decide) (by decide +kernel) rfl rfl dX7_readCommand_102 ?_
          refine x_iload_n C 2 dX7_readCommand_105 rfl ?_
          refine x_iconst (v := 1) C dX7_readCommand_106 (by decide) ?_
          refine x_iadd C dX7_readCommand_107 ?_
          refine x_iconst (v := 1) C dX7_readCommand_108 (by decide) ?_
          obtain ⟨g67, hf⟩ := x_gd hf
          refine x_iast C xkd_19 xl_19 g67 dX7_readCommand_109 ?_
          obtain ⟨M68, e69, hf⟩ := x_lt hf
          rw [← e69]
          clear e69
          refine x_aload_n C 1 dX7_readCommand_110 rfl ?_
          refine x_dup C dX7_readCommand_111 rfl ?_
          refine x_get9 C xkd_9 i9 17 (by decide) (by decide +kernel) rfl rfl dX7_readCommand_112 ?_
          refine x_iconst (v := 1) C dX7_readCommand_115 (by decide) ?_
          refine x_iadd C dX7_readCommand_116 ?_
          refine x_put9 C xkd_9 i9 17 (by decide) (by decide +kernel) dX7_readCommand_117 ?_
          obtain ⟨M70, e71, hf⟩ := x_lt hf
          rw [← e71]
          clear e71
          refine x_iload_n C 3 dX7_readCommand_120 rfl ?_
          refine x_iconst (v := 1) C dX7_readCommand_121 (by decide) ?_
          refine x_icmp_eq C 130 dX7_readCommand_122 (by decide) (fun hc72 => ?_) (fun hc72 => ?_)
          · have hf := x_ip hc72 hf
            refine x_sub [1, 2, 3] rfl ?_
            exact t_X7_readCommand_J130 C hr hlk hf
          · have hf := x_ine hc72 hf
            refine x_iload_n C 3 dX7_readCommand_125 rfl ?_
            refine x_iconst (v := 2) C dX7_readCommand_126 (by decide) ?_
            refine x_icmp_ne C 145 dX7_readCommand_127 (by decide) (fun hc73 => ?_) (fun hc73 => ?_)
            · have hf := x_ine hc73 hf
              refine x_iload_n C 3 dX7_readCommand_145 rfl ?_
              refine x_bipush (v := 7) C dX7_readCommand_146 (by decide) ?_
              refine x_icmp_ge C 163 dX7_readCommand_148 (by decide) (fun hc74 => ?_) (fun hc74 => ?_)
              · have hf := x_ip hc74 hf
                refine x_sub [1, 2, 3] rfl ?_
                exact t_X7_readCommand_J163 C hr hlk hf
              · have hf := x_ine hc74 hf
                refine x_aload_n C 1 dX7_readCommand_151 rfl ?_
                refine x_get9 C xkd_9 i9 16 (by decide) (by decide +kernel) rfl rfl dX7_readCommand_152 ?_
                refine x_iload_n C 2 dX7_readCommand_155 rfl ?_
                refine x_iconst (v := 1) C dX7_readCommand_156 (by decide) ?_
                refine x_iadd C dX7_readCommand_157 ?_
                refine x_aload_n C 1 dX7_readCommand_158 rfl ?_
                obtain ⟨q75, hg, hf⟩ := x_bd hf
                refine x_callVr C (by rw [xkd_9]; decide) (by rw [xkd_9]; decide) (xc9 xkd_9) rfl (t_X7_number hg) (cwV 0 C.1.2.2.2.2 gX7_readCommand_X7_number rfl rfl rfl (by decide +kernel) ⟨Nat.le_of_ble_eq_true rfl, Nat.le_of_ble_eq_true rfl⟩) rfl rfl (Nat.le_of_ble_eq_true rfl) dX7_readCommand_159 ⟨Nat.zero_le _, Nat.zero_le _⟩ (fun ta76 => ?_)
                clear hg
                obtain ⟨g77, hf⟩ := x_gd hf
                refine x_iast C xkd_19 xl_19 g77 dX7_readCommand_162 ?_
                obtain ⟨M78, e79, hf⟩ := x_lt hf
                rw [← e79]
                clear e79
                refine x_sub [1, 2, 3] rfl ?_
                exact t_X7_readCommand_J163 C hr hlk hf
            · have hf := x_ip hc73 hf
              refine x_sub [1, 2, 3] rfl ?_
              exact t_X7_readCommand_J130 C hr hlk hf
        · have hf := x_ine hc63 hf
          obtain rfl := Option.some.inj hf
          exact x_vret C hr hlk dX7_readCommand_93
    · have hf := x_ine hc1 hf
      refine x_aload_n C 0 dX7_readCommand_17 rfl ?_
      refine x_iload_n C 3 dX7_readCommand_18 rfl ?_
      obtain ⟨q80, hg, hf⟩ := x_bd hf
      refine x_callVr C (by rw [xkd_9]; decide) (by rw [xkd_9]; decide) (xc9 xkd_9) rfl (t_X7_likeness hg) (cwV 1 C.1.2.2.2.2 gX7_readCommand_X7_likeness rfl rfl rfl (by decide +kernel) ⟨Nat.le_of_ble_eq_true rfl, Nat.le_of_ble_eq_true rfl⟩) rfl rfl (Nat.le_of_ble_eq_true rfl) dX7_readCommand_19 ⟨Nat.zero_le _, Nat.zero_le _⟩ (fun ta81 => ?_)
      clear hg
      refine x_aload_n C 0 dX7_readCommand_22 rfl ?_
      refine x_iload_n C 2 dX7_readCommand_23 rfl ?_
      obtain ⟨q82, hg, hf⟩ := x_bd hf
      refine x_callVr C (by rw [xkd_9]; decide) (by rw [xkd_9]; decide) (xc9 xkd_9) rfl (t_X7_likeness hg) (cwV 1 C.1.2.2.2.2 gX7_readCommand_X7_likeness rfl rfl rfl (by decide +kernel) ⟨Nat.le_of_ble_eq_true rfl, Nat.le_of_ble_eq_true rfl⟩) rfl rfl (Nat.le_of_ble_eq_true rfl) dX7_readCommand_24 ⟨Nat.zero_le _, Nat.zero_le _⟩ (fun ta83 => ?_)
      clear hg
      refine x_icmp_le C 34 dX7_readCommand_27 (by decide) (fun hc84 => ?_) (fun hc84 => ?_)
      · have hf := x_ip hc84 hf
        refine x_iload_n C 2 dX7_readCommand_34 rfl ?_
        refine x_istore_n (lv' := [(2, .int v2), (0, .ref (xad G 9)), (1, .int v1), (3, .int v3)]) C dX7_readCommand_35 rfl (by decide) rfl ?_
        refine x_iinc (v := v3 + 1) (lv' := [(3, .int (v3 + 1)), (2, .int v2), (0, .ref (xad G 9)), (1, .int v1)]) C 3 dX7_readCommand_36 rfl rfl (by decide) rfl ?_
        refine x_goto C 11 dX7_readCommand_39 (by decide) ?_
        refine x_sub [2, 3, 1, 0] rfl ?_
        exact ih v2 (v3 + 1) _ _ hf
      · have hf := x_ine hc84 hf
        refine x_iload_n C 3 dX7_readCommand_30 rfl ?_
        refine x_goto C 35 dX7_readCommand_31 (by decide) ?_
        refine x_istore_n (lv' := [(2, .int v3), (0, .ref (xad G 9)), (1, .int v1), (3, .int v3)]) C dX7_readCommand_35 rfl (by decide) rfl ?_
        refine x_iinc (v := v3 + 1) (lv' := [(3, .int (v3 + 1)), (2, .int v3), (0, .ref (xad G 9)), (1, .int v1)]) C 3 dX7_readCommand_36 rfl rfl (by decide) rfl ?_
        refine x_goto C 11 dX7_readCommand_39 (by decide) ?_
        refine x_sub [2, 3, 1, 0] rfl ?_
        exact ih v3 (v3 + 1) _ _ hf
set_option maxHeartbeats 4000000 in
set_option maxRecDepth 100000 in
theorem t_X7_readCommand {l : Launch} {G : xG} {ta : Nat × Nat} {M : xM} {out : xM} (hf : f_X7_readCommand M = some out) : xMet G l yX7_readCommand wsX7_readCommand (rm_X7_readCommand 0 0) 0 0 ta M [.ref (xad G 9)] none out := by
  refine x_met (cc := cX7_readCommand) (nL := 4) (ret := none) (by decide) rfl (Nat.le_of_ble_eq_true rfl) ?_
  intro p e s m args below meth c C hr hlk
  have C : xC G p s m args c cX7_readCommand 4 wsX7_readCommand RX7 := C
  have i9 : ∀ w ∈ wsX70, w ∈ wsX7_readCommand := by decide +kernel
  unfold f_X7_readCommand at hf
  show xW G p l e (rm_X7_readCommand 0 0) s m args below meth c 4 (MQ below (xQr G none out) args s 0 0 (xAs G)) 0 0 ta M 0 [(0, .ref (xad G 9))] []
  refine x_iconst (v := 4) C dX7_readCommand_0 (by decide) ?_
  refine x_aload_n C 0 dX7_readCommand_1 rfl ?_
  refine x_get9 C xkd_9 i9 17 (by decide) (by decide +kernel) rfl rfl dX7_readCommand_2 ?_
  refine x_imul C dX7_readCommand_5 ?_
  refine x_istore_n (lv' := [(1, .int ((4 : Int32) * (M.1 9 17))), (0, .ref (xad G 9))]) C dX7_readCommand_6 rfl (by decide) rfl ?_
  refine x_iconst (v := 0) C dX7_readCommand_7 (by decide) ?_
  refine x_istore_n (lv' := [(2, .int (0 : Int32)), (1, .int ((4 : Int32) * (M.1 9 17))), (0, .ref (xad G 9))]) C dX7_readCommand_8 rfl (by decide) rfl ?_
  refine x_iconst (v := 1) C dX7_readCommand_9 (by decide) ?_
  refine x_istore_n (lv' := [(3, .int (1 : Int32)), (2, .int (0 : Int32)), (1, .int ((4 : Int32) * (M.1 9 17))), (0, .ref (xad G 9))]) C dX7_readCommand_10 rfl (by decide) rfl ?_
  refine x_sub [3, 2, 1, 0] rfl ?_
  exact t_X7_readCommand_L11 C hr hlk xF (0 : Int32) (1 : Int32) _ _ hf
/-! WaitingRoomSimulationModel.does(I)V -/
abbrev rm_X7_does (c s : Nat) : Room := { frames := 6, cells := c, slots := s, locals := 132 }
def f_X7_does (a1 : Int32) (M : xM) : Option (xM) := if x_in (a1 + (1 : Int32)) 244 = true then if x_in (a1 + (2 : Int32)) 244 = true then if x_in a1 244 = true then (if (M.1 19 a1.toNatClampNeg) = 0 then (f_X7_addIt (M.1 19 (a1 + (1 : Int32)).toNatClampNeg) M).bind fun q5 => some q5.2 else if (M.1 19 a1.toNatClampNeg) = 1 then if x_in (a1 + (3 : Int32)) 244 = true then (f_X7_openIt (M.1 19 (a1 + (1 : Int32)).toNatClampNeg) (M.1 19 (a1 + (2 : Int32)).toNatClampNeg) (M.1 19 (a1 + (3 : Int32)).toNatClampNeg) M).bind fun q9 => some q9.2 else none else if (M.1 19 a1.toNatClampNeg) = 2 then (f_X7_closeIt (M.1 19 (a1 + (1 : Int32)).toNatClampNeg) M).bind fun q12 => some q12.2 else if (M.1 19 a1.toNatClampNeg) = 3 then (f_X7_swapIt (M.1 19 (a1 + (1 : Int32)).toNatClampNeg) (M.1 19 (a1 + (2 : Int32)).toNatClampNeg) M).bind fun q15 => some q15.2 else if (M.1 19 a1.toNatClampNeg) = 4 then (f_X7_sitIt (M.1 19 (a1 + (1 : Int32)).toNatClampNeg) M).bind fun q18 => some q18.2 else if (M.1 19 a1.toNatClampNeg) = 5 then (f_X7_standIt (M.1 19 (a1 + (1 : Int32)).toNatClampNeg) M).bind fun q21 => some q21.2 else if (M.1 19 a1.toNatClampNeg) = 6 then (f_X7_removeIt (M.1 19 (a1 + (1 : Int32)).toNatClampNeg) M).bind fun q24 => some q24.2 else if (M.1 19 a1.toNatClampNeg) = 7 then (f_X7_callIt M).bind fun q27 => some q27.2 else (f_X7_advanceIt (M.1 19 (a1 + (1 : Int32)).toNatClampNeg) M).bind fun q29 => some q29.2) else none else none else none
set_option maxHeartbeats 4000000 in
set_option maxRecDepth 100000 in
theorem t_X7_does {l : Launch} {G : xG} {ta : Nat × Nat} {M : xM} {a1 : Int32} {out : xM} (hf : f_X7_does a1 M = some out) : xMet G l yX7_does wsX7_does (rm_X7_does 0 0) 0 0 ta M [.ref (xad G 9), .int a1] none out := by
  refine x_met (cc := cX7_does) (nL := 4) (ret := none) (by decide) rfl (Nat.le_of_ble_eq_true rfl) ?_
  intro p e s m args below meth c C hr hlk
  have C : xC G p s m args c cX7_does 4 wsX7_does RX7 := C
  have i9 : ∀ w ∈ wsX70, w ∈ wsX7_does := by decide +kernel
  unfold f_X7_does at hf
  show xW G p l e (rm_X7_does 0 0) s m args below meth c 4 (MQ below (xQr G none out) args s 0 0 (xAs G)) 0 0 ta M 0 [(0, .ref (xad G 9)), (1, .int a1)] []
  refine x_aload_n C 0 dX7_does_0 rfl ?_
  refine x_get9 C xkd_9 i9 16 (by decide) (by decide +kernel) rfl rfl dX7_does_1 ?_
  refine x_iload_n C 1 dX7_does_4 rfl ?_
  refine x_iconst (v := 1) C dX7_does_5 (by decide) ?_
  refine x_iadd C dX7_does_6 ?_
  obtain ⟨g1, hf⟩ := x_gd hf
  refine x_iald C xkd_19 xl_19 g1 dX7_does_7 ?_
  refine x_istore_n (lv' := [(2, .int (M.1 19 (a1 + (1 : Int32)).toNatClampNeg)), (0, .ref (xad G 9)), (1, .int a1)]) C dX7_does_8 rfl (by decide) rfl ?_
  refine x_aload_n C 1 dX7_does_9 rfl ?_
  refine x_get9 C xkd_9 i9 16 (by decide) (by decide +kernel) rfl rfl dX7_does_10 ?_
  refine x_iload_n C 2 dX7_does_13 rfl ?_
  refine x_iconst (v := 2) C dX7_does_14 (by decide) ?_
  refine x_iadd C dX7_does_15 ?_
  obtain ⟨g2, hf⟩ := x_gd hf
  refine x_iald C xkd_19 xl_19 g2 dX7_does_16 ?_
  refine x_istore_n (lv' := [(3, .int (M.1 19 (a1 + (2 : Int32)).toNatClampNeg)), (2, .int (M.1 19 (a1 + (1 : Int32)).toNatClampNeg)), (0, .ref (xad G 9)), (1, .int a1)]) C dX7_does_17 rfl (by decide) rfl ?_
  refine x_aload_n C 2 dX7_does_18 rfl ?_
  refine x_get9 C xkd_9 i9 16 (by decide) (by decide +kernel) rfl rfl dX7_does_19 ?_
  refine x_iload_n C 3 dX7_does_22 rfl ?_
  obtain ⟨g3, hf⟩ := x_gd hf
  refine x_iald C xkd_19 xl_19 g3 dX7_does_23 ?_
  rcases Decidable.em ((M.1 19 a1.toNatClampNeg) = 0) with hc4 | hc4
  · have hf := x_ip hc4 hf
    refine x_tableIn C 72 dX7_does_24 (by rw [hc4]; decide) (by rw [hc4]; decide) (by rw [hc4]; rfl) (by decide) ?_
    refine x_aload_n C 2 dX7_does_72 rfl ?_
    refine x_iload_n C 1 dX7_does_73 rfl ?_
    obtain ⟨q5, hg, hf⟩ := x_bd hf
    refine x_callVr C (by rw [xkd_9]; decide) (by rw [xkd_9]; decide) (xc9 xkd_9) rfl (t_X7_addIt hg) (cwV 1 C.1.2.2.2.2 gX7_does_X7_addIt rfl rfl rfl (by decide +kernel) ⟨Nat.le_of_ble_eq_true rfl, Nat.le_of_ble_eq_true rfl⟩) rfl rfl (Nat.le_of_ble_eq_true rfl) dX7_does_74 ⟨Nat.zero_le _, Nat.zero_le _⟩ (fun ta6 => ?_)
    clear hg
    refine x_pop C dX7_does_77 rfl ?_
    refine x_goto C 159 dX7_does_78 (by decide) ?_
    obtain rfl := Option.some.inj hf
    exact x_vret C hr hlk dX7_does_159
  have hf := x_ine hc4 hf
  rcases Decidable.em ((M.1 19 a1.toNatClampNeg) = 1) with hc7 | hc7
  · have hf := x_ip hc7 hf
    refine x_tableIn C 81 dX7_does_24 (by rw [hc7]; decide) (by rw [hc7]; decide) (by rw [hc7]; rfl) (by decide) ?_
    refine x_aload_n C 2 dX7_does_81 rfl ?_
    refine x_iload_n C 1 dX7_does_82 rfl ?_
    refine x_iload_n C 0 dX7_does_83 rfl ?_
    refine x_aload_n C 2 dX7_does_84 rfl ?_
    refine x_get9 C xkd_9 i9 16 (by decide) (by decide +kernel) rfl rfl dX7_does_85 ?_
    refine x_iload_n C 3 dX7_does_88 rfl ?_
    refine x_iconst (v := 3) C dX7_does_89 (by decide) ?_
    refine x_iadd C dX7_does_90 ?_
    obtain ⟨g8, hf⟩ := x_gd hf
    refine x_iald C xkd_19 xl_19 g8 dX7_does_91 ?_
    obtain ⟨q9, hg, hf⟩ := x_bd hf
    refine x_callVr C (by rw [xkd_9]; decide) (by rw [xkd_9]; decide) (xc9 xkd_9) rfl (t_X7_openIt hg) (cwV 3 C.1.2.2.2.2 gX7_does_X7_openIt rfl rfl rfl (by decide +kernel) ⟨Nat.le_of_ble_eq_true rfl, Nat.le_of_ble_eq_true rfl⟩) rfl rfl (Nat.le_of_ble_eq_true rfl) dX7_does_92 ⟨Nat.zero_le _, Nat.zero_le _⟩ (fun ta10 => ?_)
    clear hg
    refine x_pop C dX7_does_95 rfl ?_
    refine x_goto C 159 dX7_does_96 (by decide) ?_
    obtain rfl := Option.some.inj hf
    exact x_vret C hr hlk dX7_does_159
  have hf := x_ine hc7 hf
  rcases Decidable.em ((M.1 19 a1.toNatClampNeg) = 2) with hc11 | hc11
  · have hf := x_ip hc11 hf
    refine x_tableIn C 99 dX7_does_24 (by rw [hc11]; decide) (by rw [hc11]; decide) (by rw [hc11]; rfl) (by decide) ?_
    refine x_aload_n C 2 dX7_does_99 rfl ?_
    refine x_iload_n C 1 dX7_does_100 rfl ?_
    obtain ⟨q12, hg, hf⟩ := x_bd hf
    refine x_callVr C (by rw [xkd_9]; decide) (by rw [xkd_9]; decide) (xc9 xkd_9) rfl (t_X7_closeIt hg) (cwV 1 C.1.2.2.2.2 gX7_does_X7_closeIt rfl rfl rfl (by decide +kernel) ⟨Nat.le_of_ble_eq_true rfl, Nat.le_of_ble_eq_true rfl⟩) rfl rfl (Nat.le_of_ble_eq_true rfl) dX7_does_101 ⟨Nat.zero_le _, Nat.zero_le _⟩ (fun ta13 => ?_)
    clear hg
    refine x_pop C dX7_does_104 rfl ?_
    refine x_goto C 159 dX7_does_105 (by decide) ?_
    obtain rfl := Option.some.inj hf
    exact x_vret C hr hlk dX7_does_159
  have hf := x_ine hc11 hf
  rcases Decidable.em ((M.1 19 a1.toNatClampNeg) = 3) with hc14 | hc14
  · have hf := x_ip hc14 hf
    refine x_tableIn C 108 dX7_does_24 (by rw [hc14]; decide) (by rw [hc14]; decide) (by rw [hc14]; rfl) (by decide) ?_
    refine x_aload_n C 2 dX7_does_108 rfl ?_
    refine x_iload_n C 1 dX7_does_109 rfl ?_
    refine x_iload_n C 0 dX7_does_110 rfl ?_
    obtain ⟨q15, hg, hf⟩ := x_bd hf
    refine x_callVr C (by rw [xkd_9]; decide) (by rw [xkd_9]; decide) (xc9 xkd_9) rfl (t_X7_swapIt hg) (cwV 2 C.1.2.2.2.2 gX7_does_X7_swapIt rfl rfl rfl (by decide +kernel) ⟨Nat.le_of_ble_eq_true rfl, Nat.le_of_ble_eq_true rfl⟩) rfl rfl (Nat.le_of_ble_eq_true rfl) dX7_does_111 ⟨Nat.zero_le _, Nat.zero_le _⟩ (fun ta16 => ?_)
    clear hg
    refine x_pop C dX7_does_114 rfl ?_
    refine x_goto C 159 dX7_does_115 (by decide) ?_
    obtain rfl := Option.some.inj hf
    exact x_vret C hr hlk dX7_does_159
  have hf := x_ine hc14 hf
  rcases Decidable.em ((M.1 19 a1.toNatClampNeg) = 4) with hc17 | hc17
  · have hf := x_ip hc17 hf
    refine x_tableIn C 118 dX7_does_24 (by rw [hc17]; decide) (by rw [hc17]; decide) (by rw [hc17]; rfl) (by decide) ?_
    refine x_aload_n C 2 dX7_does_118 rfl ?_
    refine x_iload_n C 1 dX7_does_119 rfl ?_
    obtain ⟨q18, hg, hf⟩ := x_bd hf
    refine x_callVr C (by rw [xkd_9]; decide) (by rw [xkd_9]; decide) (xc9 xkd_9) rfl (t_X7_sitIt hg) (cwV 1 C.1.2.2.2.2 gX7_does_X7_sitIt rfl rfl rfl (by decide +kernel) ⟨Nat.le_of_ble_eq_true rfl, Nat.le_of_ble_eq_true rfl⟩) rfl rfl (Nat.le_of_ble_eq_true rfl) dX7_does_120 ⟨Nat.zero_le _, Nat.zero_le _⟩ (fun ta19 => ?_)
    clear hg
    refine x_pop C dX7_does_123 rfl ?_
    refine x_goto C 159 dX7_does_124 (by decide) ?_
    obtain rfl := Option.some.inj hf
    exact x_vret C hr hlk dX7_does_159
  have hf := x_ine hc17 hf
  rcases Decidable.em ((M.1 19 a1.toNatClampNeg) = 5) with hc20 | hc20
  · have hf := x_ip hc20 hf
    refine x_tableIn C 127 dX7_does_24 (by rw [hc20]; decide) (by rw [hc20]; decide) (by rw [hc20]; rfl) (by decide) ?_
    refine x_aload_n C 2 dX7_does_127 rfl ?_
    refine x_iload_n C 1 dX7_does_128 rfl ?_
    obtain ⟨q21, hg, hf⟩ := x_bd hf
    refine x_callVr C (by rw [xkd_9]; decide) (by rw [xkd_9]; decide) (xc9 xkd_9) rfl (t_X7_standIt hg) (cwV 1 C.1.2.2.2.2 gX7_does_X7_standIt rfl rfl rfl (by decide +kernel) ⟨Nat.le_of_ble_eq_true rfl, Nat.le_of_ble_eq_true rfl⟩) rfl rfl (Nat.le_of_ble_eq_true rfl) dX7_does_129 ⟨Nat.zero_le _, Nat.zero_le _⟩ (fun ta22 => ?_)
    clear hg
    refine x_pop C dX7_does_132 rfl ?_
    refine x_goto C 159 dX7_does_133 (by decide) ?_
    obtain rfl := Option.some.inj hf
    exact x_vret C hr hlk dX7_does_159
  have hf := x_ine hc20 hf
  rcases Decidable.em ((M.1 19 a1.toNatClampNeg) = 6) with hc23 | hc23
  · have hf := x_ip hc23 hf
    refine x_tableIn C 136 dX7_does_24 (by rw [hc23]; decide) (by rw [hc23]; decide) (by rw [hc23]; rfl) (by decide) ?_
    refine x_aload_n C 2 dX7_does_136 rfl ?_
    refine x_iload_n C 1 dX7_does_137 rfl ?_
    obtain ⟨q24, hg, hf⟩ := x_bd hf
    refine x_callVr C (by rw [xkd_9]; decide) (by rw [xkd_9]; decide) (xc9 xkd_9) rfl (t_X7_removeIt hg) (cwV 1 C.1.2.2.2.2 gX7_does_X7_removeIt rfl rfl rfl (by decide +kernel) ⟨Nat.le_of_ble_eq_true rfl, Nat.le_of_ble_eq_true rfl⟩) rfl rfl (Nat.le_of_ble_eq_true rfl) dX7_does_138 ⟨Nat.zero_le _, Nat.zero_le _⟩ (fun ta25 => ?_)
    clear hg
    refine x_pop C dX7_does_141 rfl ?_
    refine x_goto C 159 dX7_does_142 (by decide) ?_
    obtain rfl := Option.some.inj hf
    exact x_vret C hr hlk dX7_does_159
  have hf := x_ine hc23 hf
  rcases Decidable.em ((M.1 19 a1.toNatClampNeg) = 7) with hc26 | hc26
  · have hf := x_ip hc26 hf
    refine x_tableIn C 145 dX7_does_24 (by rw [hc26]; decide) (by rw [hc26]; decide) (by rw [hc26]; rfl) (by decide) ?_
    refine x_aload_n C 2 dX7_does_145 rfl ?_
    obtain ⟨q27, hg, hf⟩ := x_bd hf
    refine x_callVr C (by rw [xkd_9]; decide) (by rw [xkd_9]; decide) (xc9 xkd_9) rfl (t_X7_callIt hg) (cwV 0 C.1.2.2.2.2 gX7_does_X7_callIt rfl rfl rfl (by decide +kernel) ⟨Nat.le_of_ble_eq_true rfl, Nat.le_of_ble_eq_true rfl⟩) rfl rfl (Nat.le_of_ble_eq_true rfl) dX7_does_146 ⟨Nat.zero_le _, Nat.zero_le _⟩ (fun ta28 => ?_)
    clear hg
    refine x_pop C dX7_does_149 rfl ?_
    refine x_goto C 159 dX7_does_150 (by decide) ?_
    obtain rfl := Option.some.inj hf
    exact x_vret C hr hlk dX7_does_159
  have hf := x_ine hc26 hf
  refine x_tableOut C 153 dX7_does_24 (by have qhc4 := lv_neT (a := 0) hc4 (by decide); have qhc7 := lv_neT (a := 1) hc7 (by decide); have qhc11 := lv_neT (a := 2) hc11 (by decide); have qhc14 := lv_neT (a := 3) hc14 (by decide); have qhc17 := lv_neT (a := 4) hc17 (by decide); have qhc20 := lv_neT (a := 5) hc20 (by decide); have qhc23 := lv_neT (a := 6) hc23 (by decide); have qhc26 := lv_neT (a := 7) hc26 (by decide); omega) (by decide) ?_
  refine x_aload_n C 2 dX7_does_153 rfl ?_
  refine x_iload_n C 1 dX7_does_154 rfl ?_
  obtain ⟨q29, hg, hf⟩ := x_bd hf
  refine x_callVr C (by rw [xkd_9]; decide) (by rw [xkd_9]; decide) (xc9 xkd_9) rfl (t_X7_advanceIt hg) (cwV 1 C.1.2.2.2.2 gX7_does_X7_advanceIt rfl rfl rfl (by decide +kernel) ⟨Nat.le_of_ble_eq_true rfl, Nat.le_of_ble_eq_true rfl⟩) rfl rfl (Nat.le_of_ble_eq_true rfl) dX7_does_155 ⟨Nat.zero_le _, Nat.zero_le _⟩ (fun ta30 => ?_)
  clear hg
  refine x_pop C dX7_does_158 rfl ?_
  obtain rfl := Option.some.inj hf
  exact x_vret C hr hlk dX7_does_159
/-! WaitingRoomSimulationModel.runScript()I -/
abbrev rm_X7_runScript (c s : Nat) : Room := { frames := 7, cells := c, slots := s, locals := 155 }
def f_X7_runScript_L139 (v2 : Int32) : Nat → Int32 → xM → Option (Int32 × xM)
  | 0, _, _ => none
  | n+1, v3, M => (if (159 : Int32) ≤ v3 then x_let (sI M 9 8 v2) fun M22 => (f_X7_throwing (2 : Int32) M22).bind fun q24 => some (q24.1, q24.2) else if x_in v3 159 = true then if x_in v3 159 = true then x_let (sI M 10 v3.toNatClampNeg (M.1 11 v3.toNatClampNeg)) fun M28 => f_X7_runScript_L139 v2 n (v3 + 1) M28 else none else none)
def f_X7_runScript_L115 : Nat → Int32 → xM → Option (Int32 × xM)
  | 0, _, _ => none
  | n+1, v2, M => (if (M.1 9 17) ≤ v2 then (f_X7_changed (M.1 9 17) M).bind fun q16 => some (q16.1, q16.2) else (f_X7_does ((4 : Int32) * v2) M).bind fun q18 => (if (q18.1 9 9) ≤ 0 then f_X7_runScript_L115 n (v2 + 1) q18 else f_X7_runScript_L139 v2 xF (0 : Int32) q18))
def f_X7_runScript_L34 : Nat → Int32 → xM → Option (Int32 × xM)
  | 0, _, _ => none
  | n+1, v1, M => (if v1 = 0 then (if (M.1 9 20) = 0 then f_X7_runScript_L115 xF (0 : Int32) M else x_let (sI M 9 7 (M.1 9 18)) fun M30 => (f_X7_throwing (1 : Int32) M30).bind fun q32 => some (q32.1, q32.2)) else (f_X7_readCommand M).bind fun q34 => (if (q34.1 9 20) = 0 then (if (q34.1 9 19) ≤ (q34.1 9 18) then (if (0 : Int32) = 0 then f_X7_runScript_L34 n (0 : Int32) q34 else (f_X7_expects (59 : Int32) q34).bind fun q43 => (if (q43.1 9 20) = 0 then f_X7_runScript_L34 n (1 : Int32) q43 else f_X7_runScript_L34 n (0 : Int32) q43)) else (if (1 : Int32) = 0 then f_X7_runScript_L34 n (1 : Int32) q34 else (f_X7_expects (59 : Int32) q34).bind fun q47 => (if (q47.1 9 20) = 0 then f_X7_runScript_L34 n (1 : Int32) q47 else f_X7_runScript_L34 n (0 : Int32) q47))) else (if (0 : Int32) = 0 then f_X7_runScript_L34 n (0 : Int32) q34 else (f_X7_expects (59 : Int32) q34).bind fun q38 => (if (q38.1 9 20) = 0 then f_X7_runScript_L34 n (1 : Int32) q38 else f_X7_runScript_L34 n (0 : Int32) q38))))
def f_X7_runScript (M : xM) : Option (Int32 × xM) := (f_X7_starts M).bind fun q1 => x_let (sI q1 9 19 (q1.1 9 11)) fun M3 => x_let (sI M3 9 11 (0 : Int32)) fun M5 => x_let (sI M5 9 18 (0 : Int32)) fun M7 => x_let (sI M7 9 17 (0 : Int32)) fun M9 => x_let (sI M9 9 20 (0 : Int32)) fun M11 => f_X7_runScript_L34 xF (1 : Int32) M11
set_option maxHeartbeats 4000000 in
set_option maxRecDepth 100000 in
theorem t_X7_runScript_L139 {G : xG} {p : Program} {l : Launch} {e : Env} {s : State} {m : MethodId} {args : Array Value} {below : List Frame} {meth : Method} {c : Code} (C : xC G p s m args c cX7_runScript 4 wsX7_runScript RX7) (hr : meth.sig.returnType = some .int) (hlk : meth.locks = false) {v2 : Int32} : ∀ (n : Nat) (v3 : Int32) (M : xM) (ta : Nat × Nat) (out : Int32 × xM), f_X7_runScript_L139 v2 n v3 M = some out → xW G p l e (rm_X7_runScript 0 0) s m args below meth c 4 (MQ below (xQr G (some (.int out.1)) out.2) args s 0 0 (xAs G)) 0 0 ta M 139 [(0, .ref (xad G 9)), (2, .int v2), (3, .int v3)] [] := by
  intro n
  induction n with
  | zero =>
    intro v3 M ta out hf
    rw [f_X7_runScript_L139] at hf
    cases hf
  | succ n ih =>
    intro v3 M ta out hf
    rw [f_X7_runScript_L139] at hf
    have i9 : ∀ w ∈ wsX70, w ∈ wsX7_runScript := by decide +kernel
    refine x_iload_n C 2 dX7_runScript_139 rfl ?_
    refine x_sipush (v := 159) C dX7_runScript_140 (by decide) ?_
    refine x_icmp_ge C 164 dX7_runScript_143 (by decide) (fun hc21 => ?_) (fun hc21 => ?_)
    · have hf := x_ip hc21 hf
      refine x_aload_n C 0 dX7_runScript_164 rfl ?_
      refine x_iload_n C 1 dX7_runScript_165 rfl ?_
      refine x_put9 C xkd_9 i9 8 (by decide) (by decide +kernel) dX7_runScript_166 ?_
      obtain ⟨M22, e23, hf⟩ := x_lt hf
      rw [← e23]
      clear e23
      refine x_aload_n C 0 dX7_runScript_169 rfl ?_
      refine x_iconst (v := 2) C dX7_runScript_170 (by decide) ?_
      obtain ⟨q24, hg, hf⟩ := x_bd hf
      refine x_callVr C (by rw [xkd_9]; decide) (by rw [xkd_9]; decide) (xc9 xkd_9) rfl (t_X7_throwing hg) (cwV 1 C.1.2.2.2.2 gX7_runScript_X7_throwing rfl rfl rfl (by decide +kernel) ⟨Nat.le_of_ble_eq_true rfl, Nat.le_of_ble_eq_true rfl⟩) rfl rfl (Nat.le_of_ble_eq_true rfl) dX7_runScript_171 ⟨Nat.zero_le _, Nat.zero_le _⟩ (fun ta25 => ?_)
      clear hg
      obtain rfl := Option.some.inj hf
      exact x_iret C hr hlk dX7_runScript_174
    · have hf := x_ine hc21 hf
      refine x_aload_n C 0 dX7_runScript_146 rfl ?_
      refine x_get9 C xkd_9 i9 0 (by decide) (by decide +kernel) rfl rfl dX7_runScript_147 ?_
      refine x_iload_n C 2 dX7_runScript_150 rfl ?_
      refine x_aload_n C 0 dX7_runScript_151 rfl ?_
      refine x_get9 C xkd_9 i9 1 (by decide) (by decide +kernel) rfl rfl dX7_runScript_152 ?_
      refine x_iload_n C 2 dX7_runScript_155 rfl ?_
      obtain ⟨g26, hf⟩ := x_gd hf
      refine x_iald C xkd_11 xl_11 g26 dX7_runScript_156 ?_
      obtain ⟨g27, hf⟩ := x_gd hf
      refine x_iast C xkd_10 xl_10 g27 dX7_runScript_157 ?_
      obtain ⟨M28, e29, hf⟩ := x_lt hf
      rw [← e29]
      clear e29
      refine x_iinc (v := v3 + 1) (lv' := [(3, .int (v3 + 1)), (0, .ref (xad G 9)), (2, .int v2)]) C 2 dX7_runScript_158 rfl rfl (by decide) rfl ?_
      refine x_goto C 139 dX7_runScript_161 (by decide) ?_
      refine x_sub [1, 2, 0] rfl ?_
      exact ih (v3 + 1) M28 _ _ hf
set_option maxHeartbeats 4000000 in
set_option maxRecDepth 100000 in
theorem t_X7_runScript_L115 {G : xG} {p : Program} {l : Launch} {e : Env} {s : State} {m : MethodId} {args : Array Value} {below : List Frame} {meth : Method} {c : Code} (C : xC G p s m args c cX7_runScript 4 wsX7_runScript RX7) (hr : meth.sig.returnType = some .int) (hlk : meth.locks = false) : ∀ (n : Nat) (v2 : Int32) (M : xM) (ta : Nat × Nat) (out : Int32 × xM), f_X7_runScript_L115 n v2 M = some out → xW G p l e (rm_X7_runScript 0 0) s m args below meth c 4 (MQ below (xQr G (some (.int out.1)) out.2) args s 0 0 (xAs G)) 0 0 ta M 115 [(0, .ref (xad G 9)), (2, .int v2)] [] := by
  intro n
  induction n with
  | zero =>
    intro v2 M ta out hf
    rw [f_X7_runScript_L115] at hf
    cases hf
  | succ n ih =>
    intro v2 M ta out hf
    rw [f_X7_runScript_L115] at hf
    have i9 : ∀ w ∈ wsX70, w ∈ wsX7_runScript := by decide +kernel
    refine x_iload_n C 1 dX7_runScript_115 rfl ?_
    refine x_aload_n C 0 dX7_runScript_116 rfl ?_
    refine x_get9 C xkd_9 i9 17 (by decide) (by decide +kernel) rfl rfl dX7_runScript_117 ?_
    refine x_icmp_ge C 181 dX7_runScript_120 (by decide) (fun hc15 => ?_) (fun hc15 => ?_)
    · have hf := x_ip hc15 hf
      refine x_aload_n C 0 dX7_runScript_181 rfl ?_
      refine x_aload_n C 0 dX7_runScript_182 rfl ?_
      refine x_get9 C xkd_9 i9 17 (by decide) (by decide +kernel) rfl rfl dX7_runScript_183 ?_
      obtain ⟨q16, hg, hf⟩ := x_bd hf
      refine x_callVr C (by rw [xkd_9]; decide) (by rw [xkd_9]; decide) (xc9 xkd_9) rfl (t_X7_changed hg) (cwV 1 C.1.2.2.2.2 gX7_runScript_X7_changed rfl rfl rfl (by decide +kernel) ⟨Nat.le_of_ble_eq_true rfl, Nat.le_of_ble_eq_true rfl⟩) rfl rfl (Nat.le_of_ble_eq_true rfl) dX7_runScript_186 ⟨Nat.zero_le _, Nat.zero_le _⟩ (fun ta17 => ?_)
      clear hg
      obtain rfl := Option.some.inj hf
      exact x_iret C hr hlk dX7_runScript_189
    · have hf := x_ine hc15 hf
      refine x_aload_n C 0 dX7_runScript_123 rfl ?_
      refine x_iconst (v := 4) C dX7_runScript_124 (by decide) ?_
      refine x_iload_n C 1 dX7_runScript_125 rfl ?_
      refine x_imul C dX7_runScript_126 ?_
      obtain ⟨q18, hg, hf⟩ := x_bd hf
      refine x_callVv C (by rw [xkd_9]; decide) (by rw [xkd_9]; decide) (xc9 xkd_9) rfl (t_X7_does hg) (cwV 1 C.1.2.2.2.2 gX7_runScript_X7_does rfl rfl rfl (by decide +kernel) ⟨Nat.le_of_ble_eq_true rfl, Nat.le_of_ble_eq_true rfl⟩) rfl rfl (Nat.le_of_ble_eq_true rfl) dX7_runScript_127 ⟨Nat.zero_le _, Nat.zero_le _⟩ (fun ta19 => ?_)
      clear hg
      refine x_aload_n C 0 dX7_runScript_130 rfl ?_
      refine x_get9 C xkd_9 i9 9 (by decide) (by decide +kernel) rfl rfl dX7_runScript_131 ?_
      refine x_if_le C 175 dX7_runScript_134 (by decide) (fun hc20 => ?_) (fun hc20 => ?_)
      · have hf := x_ip hc20 hf
        refine x_iinc (v := v2 + 1) (lv' := [(2, .int (v2 + 1)), (0, .ref (xad G 9))]) C 1 dX7_runScript_175 rfl rfl (by decide) rfl ?_
        refine x_goto C 115 dX7_runScript_178 (by decide) ?_
        refine x_sub [1, 0] rfl ?_
        exact ih (v2 + 1) q18 _ _ hf
      · have hf := x_ine hc20 hf
        refine x_iconst (v := 0) C dX7_runScript_137 (by decide) ?_
        refine x_istore_n (lv' := [(3, .int (0 : Int32)), (0, .ref (xad G 9)), (2, .int v2)]) C dX7_runScript_138 rfl (by decide) rfl ?_
        refine x_sub [1, 2, 0] rfl ?_
        exact t_X7_runScript_L139 C hr hlk xF (0 : Int32) q18 _ _ hf
set_option maxHeartbeats 4000000 in
set_option maxRecDepth 100000 in
theorem t_X7_runScript_L34 {G : xG} {p : Program} {l : Launch} {e : Env} {s : State} {m : MethodId} {args : Array Value} {below : List Frame} {meth : Method} {c : Code} (C : xC G p s m args c cX7_runScript 4 wsX7_runScript RX7) (hr : meth.sig.returnType = some .int) (hlk : meth.locks = false) : ∀ (n : Nat) (v1 : Int32) (M : xM) (ta : Nat × Nat) (out : Int32 × xM), f_X7_runScript_L34 n v1 M = some out → xW G p l e (rm_X7_runScript 0 0) s m args below meth c 4 (MQ below (xQr G (some (.int out.1)) out.2) args s 0 0 (xAs G)) 0 0 ta M 34 [(0, .ref (xad G 9)), (1, .int v1)] [] := by
  intro n
  induction n with
  | zero =>
    intro v1 M ta out hf
    rw [f_X7_runScript_L34] at hf
    cases hf
  | succ n ih =>
    intro v1 M ta out hf
    rw [f_X7_runScript_L34] at hf
    have i9 : ∀ w ∈ wsX70, w ∈ wsX7_runScript := by decide +kernel
    refine x_iload_n C 1 dX7_runScript_34 rfl ?_
    refine x_if_eq C 92 dX7_runScript_35 (by decide) (fun hc13 => ?_) (fun hc13 => ?_)
    · have hf := x_ip hc13 hf
      refine x_aload_n C 0 dX7_runScript_92 rfl ?_
      refine x_get9 C xkd_9 i9 20 (by decide) (by decide +kernel) rfl rfl dX7_runScript_93 ?_
      refine x_if_eq C 113 dX7_runScript_96 (by decide) (fun hc14 => ?_) (fun hc14 => ?_)
      · have hf := x_ip hc14 hf
        refine x_iconst (v := 0) C dX7_runScript_113 (by decide) ?_
        refine x_istore_n (lv' := [(2, .int (0 : Int32)), (0, .ref (xad G 9)), (1, .int v1)]) C dX7_runScript_114 rfl (by decide) rfl ?_
        refine x_sub [1, 0] rfl ?_
        exact t_X7_runScript_L115 C hr hlk xF (0 : Int32) M _ _ hf
      · have hf := x_ine hc14 hf
        refine x_aload_n C 0 dX7_runScript_99 rfl ?_
        refine x_aload_n C 0 dX7_runScript_100 rfl ?_
        refine x_get9 C xkd_9 i9 18 (by decide) (by decide +kernel) rfl rfl dX7_runScript_101 ?_
        refine x_put9 C xkd_9 i9 7 (by decide) (by decide +kernel) dX7_runScript_104 ?_
        obtain ⟨M30, e31, hf⟩ := x_lt hf
        rw [← e31]
        clear e31
        refine x_aload_n C 0 dX7_runScript_107 rfl ?_
        refine x_iconst (v := 1) C dX7_runScript_108 (by decide) ?_
        obtain ⟨q32, hg, hf⟩ := x_bd hf
        refine x_callVr C (by rw [xkd_9]; decide) (by rw [xkd_9]; decide) (xc9 xkd_9) rfl (t_X7_throwing hg) (cwV 1 C.1.2.2.2.2 gX7_runScript_X7_throwing rfl rfl rfl (by decide +kernel) ⟨Nat.le_of_ble_eq_true rfl, Nat.le_of_ble_eq_true rfl⟩) rfl rfl (Nat.le_of_ble_eq_true rfl) dX7_runScript_109 ⟨Nat.zero_le _, Nat.zero_le _⟩ (fun ta33 => ?_)
        clear hg
        obtain rfl := Option.some.inj hf
        exact x_iret C hr hlk dX7_runScript_112
    · have hf := x_ine hc13 hf
      refine x_aload_n C 0 dX7_runScript_38 rfl ?_
      obtain ⟨q34, hg, hf⟩ := x_bd hf
      refine x_callVv C (by rw [xkd_9]; decide) (by rw [xkd_9]; decide) (xc9 xkd_9) rfl (t_X7_readCommand hg) (cwV 0 C.1.2.2.2.2 gX7_runScript_X7_readCommand rfl rfl rfl (by decide +kernel) ⟨Nat.le_of_ble_eq_true rfl, Nat.le_of_ble_eq_true rfl⟩) rfl rfl (Nat.le_of_ble_eq_true rfl) dX7_runScript_39 ⟨Nat.zero_le _, Nat.zero_le _⟩ (fun ta35 => ?_)
      clear hg
      refine x_aload_n C 0 dX7_runScript_42 rfl ?_
      refine x_get9 C xkd_9 i9 20 (by decide) (by decide +kernel) rfl rfl dX7_runScript_43 ?_
      refine x_if_ne C 64 dX7_runScript_46 (by decide) (fun hc36 => ?_) (fun hc36 => ?_)
      · have hf := x_ine hc36 hf
        refine x_iconst (v := 0) C dX7_runScript_64 (by decide) ?_
        refine x_istore_n (lv' := [(1, .int (0 : Int32)), (0, .ref (xad G 9))]) C dX7_runScript_65 rfl (by decide) rfl ?_
        refine x_iload_n C 0 dX7_runScript_66 rfl ?_
        refine x_if_eq C 34 dX7_runScript_67 (by decide) (fun hc37 => ?_) (fun hc37 => ?_)
        · have hf := x_ip hc37 hf
          refine x_sub [1, 0] rfl ?_
          exact ih (0 : Int32) q34 _ _ hf
        · have hf := x_ine hc37 hf
          refine x_aload_n C 1 dX7_runScript_70 rfl ?_
          refine x_bipush (v := 59) C dX7_runScript_71 (by decide) ?_
          obtain ⟨q38, hg, hf⟩ := x_bd hf
          refine x_callVv C (by rw [xkd_9]; decide) (by rw [xkd_9]; decide) (xc9 xkd_9) rfl (t_X7_expects hg) (cwV 1 C.1.2.2.2.2 gX7_runScript_X7_expects rfl rfl rfl (by decide +kernel) ⟨Nat.le_of_ble_eq_true rfl, Nat.le_of_ble_eq_true rfl⟩) rfl rfl (Nat.le_of_ble_eq_true rfl) dX7_runScript_73 ⟨Nat.zero_le _, Nat.zero_le _⟩ (fun ta39 => ?_)
          clear hg
          refine x_aload_n C 1 dX7_runScript_76 rfl ?_
          refine x_get9 C xkd_9 i9 20 (by decide) (by decide +kernel) rfl rfl dX7_runScript_77 ?_
          refine x_if_ne C 87 dX7_runScript_80 (by decide) (fun hc40 => ?_) (fun hc40 => ?_)
          · have hf := x_ine hc40 hf
            refine x_iconst (v := 0) C dX7_runScript_87 (by decide) ?_
            refine x_istore_n (lv' := [(1, .int (0 : Int32)), (0, .ref (xad G 9))]) C dX7_runScript_88 rfl (by decide) rfl ?_
            refine x_goto C 34 dX7_runScript_89 (by decide) ?_
            refine x_sub [1, 0] rfl ?_
            exact ih (0 : Int32) q38 _ _ hf
          · have hf := x_ip hc40 hf
            refine x_iconst (v := 1) C dX7_runScript_83 (by decide) ?_
            refine x_goto C 88 dX7_runScript_84 (by decide) ?_
            refine x_istore_n (lv' := [(1, .int (1 : Int32)), (0, .ref (xad G 9))]) C dX7_runScript_88 rfl (by decide) rfl ?_
            refine x_goto C 34 dX7_runScript_89 (by decide) ?_
            refine x_sub [1, 0] rfl ?_
            exact ih (1 : Int32) q38 _ _ hf
      · have hf := x_ip hc36 hf
        refine x_aload_n C 0 dX7_runScript_49 rfl ?_
        refine x_get9 C xkd_9 i9 18 (by decide) (by decide +kernel) rfl rfl dX7_runScript_50 ?_
        refine x_aload_n C 0 dX7_runScript_53 rfl ?_
        refine x_get9 C xkd_9 i9 19 (by decide) (by decide +kernel) rfl rfl dX7_runScript_54 ?_
        refine x_icmp_ge C 64 dX7_runScript_57 (by decide) (fun hc41 => ?_) (fun hc41 => ?_)
        · have hf := x_ip hc41 hf
          refine x_iconst (v := 0) C dX7_runScript_64 (by decide) ?_
          refine x_istore_n (lv' := [(1, .int (0 : Int32)), (0, .ref (xad G 9))]) C dX7_runScript_65 rfl (by decide) rfl ?_
          refine x_iload_n C 0 dX7_runScript_66 rfl ?_
          refine x_if_eq C 34 dX7_runScript_67 (by decide) (fun hc42 => ?_) (fun hc42 => ?_)
          · have hf := x_ip hc42 hf
            refine x_sub [1, 0] rfl ?_
            exact ih (0 : Int32) q34 _ _ hf
          · have hf := x_ine hc42 hf
            refine x_aload_n C 1 dX7_runScript_70 rfl ?_
            refine x_bipush (v := 59) C dX7_runScript_71 (by decide) ?_
            obtain ⟨q43, hg, hf⟩ := x_bd hf
            refine x_callVv C (by rw [xkd_9]; decide) (by rw [xkd_9]; decide) (xc9 xkd_9) rfl (t_X7_expects hg) (cwV 1 C.1.2.2.2.2 gX7_runScript_X7_expects rfl rfl rfl (by decide +kernel) ⟨Nat.le_of_ble_eq_true rfl, Nat.le_of_ble_eq_true rfl⟩) rfl rfl (Nat.le_of_ble_eq_true rfl) dX7_runScript_73 ⟨Nat.zero_le _, Nat.zero_le _⟩ (fun ta44 => ?_)
            clear hg
            refine x_aload_n C 1 dX7_runScript_76 rfl ?_
            refine x_get9 C xkd_9 i9 20 (by decide) (by decide +kernel) rfl rfl dX7_runScript_77 ?_
            refine x_if_ne C 87 dX7_runScript_80 (by decide) (fun hc45 => ?_) (fun hc45 => ?_)
            · have hf := x_ine hc45 hf
              refine x_iconst (v := 0) C dX7_runScript_87 (by decide) ?_
              refine x_istore_n (lv' := [(1, .int (0 : Int32)), (0, .ref (xad G 9))]) C dX7_runScript_88 rfl (by decide) rfl ?_
              refine x_goto C 34 dX7_runScript_89 (by decide) ?_
              refine x_sub [1, 0] rfl ?_
              exact ih (0 : Int32) q43 _ _ hf
            · have hf := x_ip hc45 hf
              refine x_iconst (v := 1) C dX7_runScript_83 (by decide) ?_
              refine x_goto C 88 dX7_runScript_84 (by decide) ?_
              refine x_istore_n (lv' := [(1, .int (1 : Int32)), (0, .ref (xad G 9))]) C dX7_runScript_88 rfl (by decide) rfl ?_
              refine x_goto C 34 dX7_runScript_89 (by decide) ?_
              refine x_sub [1, 0] rfl ?_
              exact ih (1 : Int32) q43 _ _ hf
        · have hf := x_ine hc41 hf
          refine x_iconst (v := 1) C dX7_runScript_60 (by decide) ?_
          refine x_goto C 65 dX7_runScript_61 (by decide) ?_
          refine x_istore_n (lv' := [(1, .int (1 : Int32)), (0, .ref (xad G 9))]) C dX7_runScript_65 rfl (by decide) rfl ?_
          refine x_iload_n C 0 dX7_runScript_66 rfl ?_
          refine x_if_eq C 34 dX7_runScript_67 (by decide) (fun hc46 => ?_) (fun hc46 => ?_)
          · have hf := x_ip hc46 hf
            refine x_sub [1, 0] rfl ?_
            exact ih (1 : Int32) q34 _ _ hf
          · have hf := x_ine hc46 hf
            refine x_aload_n C 1 dX7_runScript_70 rfl ?_
            refine x_bipush (v := 59) C dX7_runScript_71 (by decide) ?_
            obtain ⟨q47, hg, hf⟩ := x_bd hf
            refine x_callVv C (by rw [xkd_9]; decide) (by rw [xkd_9]; decide) (xc9 xkd_9) rfl (t_X7_expects hg) (cwV 1 C.1.2.2.2.2 gX7_runScript_X7_expects rfl rfl rfl (by decide +kernel) ⟨Nat.le_of_ble_eq_true rfl, Nat.le_of_ble_eq_true rfl⟩) rfl rfl (Nat.le_of_ble_eq_true rfl) dX7_runScript_73 ⟨Nat.zero_le _, Nat.zero_le _⟩ (fun ta48 => ?_)
            clear hg
            refine x_aload_n C 1 dX7_runScript_76 rfl ?_
            refine x_get9 C xkd_9 i9 20 (by decide) (by decide +kernel) rfl rfl dX7_runScript_77 ?_
            refine x_if_ne C 87 dX7_runScript_80 (by decide) (fun hc49 => ?_) (fun hc49 => ?_)
            · have hf := x_ine hc49 hf
              refine x_iconst (v := 0) C dX7_runScript_87 (by decide) ?_
              refine x_istore_n (lv' := [(1, .int (0 : Int32)), (0, .ref (xad G 9))]) C dX7_runScript_88 rfl (by decide) rfl ?_
              refine x_goto C 34 dX7_runScript_89 (by decide) ?_
              refine x_sub [1, 0] rfl ?_
              exact ih (0 : Int32) q47 _ _ hf
            · have hf := x_ip hc49 hf
              refine x_iconst (v := 1) C dX7_runScript_83 (by decide) ?_
              refine x_goto C 88 dX7_runScript_84 (by decide) ?_
              refine x_istore_n (lv' := [(1, .int (1 : Int32)), (0, .ref (xad G 9))]) C dX7_runScript_88 rfl (by decide) rfl ?_
              refine x_goto C 34 dX7_runScript_89 (by decide) ?_
              refine x_sub [1, 0] rfl ?_
              exact ih (1 : Int32) q47 _ _ hf
set_option maxHeartbeats 4000000 in
set_option maxRecDepth 100000 in
theorem t_X7_runScript {l : Launch} {G : xG} {ta : Nat × Nat} {M : xM} {out : Int32 × xM} (hf : f_X7_runScript M = some out) : xMet G l yX7_runScript wsX7_runScript (rm_X7_runScript 0 0) 0 0 ta M [.ref (xad G 9)] (some (.int out.1)) out.2 := by
  refine x_met (cc := cX7_runScript) (nL := 4) (ret := some .int) (by decide) rfl (Nat.le_of_ble_eq_true rfl) ?_
  intro p e s m args below meth c C hr hlk
  have C : xC G p s m args c cX7_runScript 4 wsX7_runScript RX7 := C
  have i9 : ∀ w ∈ wsX70, w ∈ wsX7_runScript := by decide +kernel
  unfold f_X7_runScript at hf
  show xW G p l e (rm_X7_runScript 0 0) s m args below meth c 4 (MQ below (xQr G (some (.int out.1)) out.2) args s 0 0 (xAs G)) 0 0 ta M 0 [(0, .ref (xad G 9))] []
  refine x_aload_n C 0 dX7_runScript_0 rfl ?_
  obtain ⟨q1, hg, hf⟩ := x_bd hf
  refine x_callVv C (by rw [xkd_9]; decide) (by rw [xkd_9]; decide) (xc9 xkd_9) rfl (t_X7_starts hg) (cwV 0 C.1.2.2.2.2 gX7_runScript_X7_starts rfl rfl rfl (by decide +kernel) ⟨Nat.le_of_ble_eq_true rfl, Nat.le_of_ble_eq_true rfl⟩) rfl rfl (Nat.le_of_ble_eq_true rfl) dX7_runScript_1 ⟨Nat.zero_le _, Nat.zero_le _⟩ (fun ta2 => ?_)
  clear hg
  refine x_aload_n C 0 dX7_runScript_4 rfl ?_
  refine x_aload_n C 0 dX7_runScript_5 rfl ?_
  refine x_get9 C xkd_9 i9 11 (by decide) (by decide +kernel) rfl rfl dX7_runScript_6 ?_
  refine x_put9 C xkd_9 i9 19 (by decide) (by decide +kernel) dX7_runScript_9 ?_
  obtain ⟨M3, e4, hf⟩ := x_lt hf
  rw [← e4]
  clear e4
  refine x_aload_n C 0 dX7_runScript_12 rfl ?_
  refine x_iconst (v := 0) C dX7_runScript_13 (by decide) ?_
  refine x_put9 C xkd_9 i9 11 (by decide) (by decide +kernel) dX7_runScript_14 ?_
  obtain ⟨M5, e6, hf⟩ := x_lt hf
  rw [← e6]
  clear e6
  refine x_aload_n C 0 dX7_runScript_17 rfl ?_
  refine x_iconst (v := 0) C dX7_runScript_18 (by decide) ?_
  refine x_put9 C xkd_9 i9 18 (by decide) (by decide +kernel) dX7_runScript_19 ?_
  obtain ⟨M7, e8, hf⟩ := x_lt hf
  rw [← e8]
  clear e8
  refine x_aload_n C 0 dX7_runScript_22 rfl ?_
  refine x_iconst (v := 0) C dX7_runScript_23 (by decide) ?_
  refine x_put9 C xkd_9 i9 17 (by decide) (by decide +kernel) dX7_runScript_24 ?_
  obtain ⟨M9, e10, hf⟩ := x_lt hf
  rw [← e10]
  clear e10
  refine x_aload_n C 0 dX7_runScript_27 rfl ?_
  refine x_iconst (v := 0) C dX7_runScript_28 (by decide) ?_
  refine x_putz9 C xkd_9 i9 20 (by decide) (by decide) (by decide +kernel) dX7_runScript_29 ?_
  obtain ⟨M11, e12, hf⟩ := x_lt hf
  rw [← e12]
  clear e12
  refine x_iconst (v := 1) C dX7_runScript_32 (by decide) ?_
  refine x_istore_n (lv' := [(1, .int (1 : Int32)), (0, .ref (xad G 9))]) C dX7_runScript_33 rfl (by decide) rfl ?_
  refine x_sub [1, 0] rfl ?_
  exact t_X7_runScript_L34 C hr hlk xF (1 : Int32) M11 _ _ hf
/-! WaitingRoomSimulationModel.errorPosition()I -/
abbrev rm_X7_errorPosition (c s : Nat) : Room := { frames := 1, cells := c, slots := s, locals := 21 }
def f_X7_errorPosition (M : xM) : Option (Int32 × xM) := x_let (sI M 9 9 (0 : Int32)) fun M1 => (if (M1.1 9 7) = (-1 : Int32) then (f_X7_throwing (1 : Int32) M1).bind fun q4 => some (q4.1, q4.2) else some (M1.1 9 7, M1))
set_option maxHeartbeats 4000000 in
set_option maxRecDepth 100000 in
theorem t_X7_errorPosition {l : Launch} {G : xG} {ta : Nat × Nat} {M : xM} {out : Int32 × xM} (hf : f_X7_errorPosition M = some out) : xMet G l yX7_errorPosition wsX7_errorPosition (rm_X7_errorPosition 0 0) 0 0 ta M [.ref (xad G 9)] (some (.int out.1)) out.2 := by
  refine x_met (cc := cX7_errorPosition) (nL := 1) (ret := some .int) (by decide) rfl (Nat.le_of_ble_eq_true rfl) ?_
  intro p e s m args below meth c C hr hlk
  have C : xC G p s m args c cX7_errorPosition 1 wsX7_errorPosition RX7 := C
  have i9 : ∀ w ∈ wsX70, w ∈ wsX7_errorPosition := by decide +kernel
  unfold f_X7_errorPosition at hf
  show xW G p l e (rm_X7_errorPosition 0 0) s m args below meth c 1 (MQ below (xQr G (some (.int out.1)) out.2) args s 0 0 (xAs G)) 0 0 ta M 0 [(0, .ref (xad G 9))] []
  refine x_aload_n C 0 dX7_errorPosition_0 rfl ?_
  refine x_iconst (v := 0) C dX7_errorPosition_1 (by decide) ?_
  refine x_put9 C xkd_9 i9 9 (by decide) (by decide +kernel) dX7_errorPosition_2 ?_
  obtain ⟨M1, e2, hf⟩ := x_lt hf
  rw [← e2]
  clear e2
  refine x_aload_n C 0 dX7_errorPosition_5 rfl ?_
  refine x_get9 C xkd_9 i9 7 (by decide) (by decide +kernel) rfl rfl dX7_errorPosition_6 ?_
  refine x_iconst (v := (-1)) C dX7_errorPosition_9 (by decide) ?_
  refine x_icmp_ne C 21 dX7_errorPosition_10 (by decide) (fun hc3 => ?_) (fun hc3 => ?_)
  · have hf := x_ine hc3 hf
    refine x_aload_n C 0 dX7_errorPosition_21 rfl ?_
    refine x_get9 C xkd_9 i9 7 (by decide) (by decide +kernel) rfl rfl dX7_errorPosition_22 ?_
    obtain rfl := Option.some.inj hf
    exact x_iret C hr hlk dX7_errorPosition_25
  · have hf := x_ip hc3 hf
    refine x_aload_n C 0 dX7_errorPosition_13 rfl ?_
    refine x_iconst (v := 1) C dX7_errorPosition_14 (by decide) ?_
    obtain ⟨q4, hg, hf⟩ := x_bd hf
    refine x_callVr C (by rw [xkd_9]; decide) (by rw [xkd_9]; decide) (xc9 xkd_9) rfl (t_X7_throwing hg) (cwV 1 C.1.2.2.2.2 gX7_errorPosition_X7_throwing rfl rfl rfl (by decide +kernel) ⟨Nat.le_of_ble_eq_true rfl, Nat.le_of_ble_eq_true rfl⟩) rfl rfl (Nat.le_of_ble_eq_true rfl) dX7_errorPosition_15 ⟨Nat.zero_le _, Nat.zero_le _⟩ (fun ta5 => ?_)
    clear hg
    refine x_goto C 25 dX7_errorPosition_18 (by decide) ?_
    obtain rfl := Option.some.inj hf
    exact x_iret C hr hlk dX7_errorPosition_25
/-! WaitingRoomSimulationModel.failedCommand()I -/
abbrev rm_X7_failedCommand (c s : Nat) : Room := { frames := 1, cells := c, slots := s, locals := 21 }
def f_X7_failedCommand (M : xM) : Option (Int32 × xM) := x_let (sI M 9 9 (0 : Int32)) fun M1 => (if (M1.1 9 8) = (-1 : Int32) then (f_X7_throwing (1 : Int32) M1).bind fun q4 => some (q4.1, q4.2) else some (M1.1 9 8, M1))
set_option maxHeartbeats 4000000 in
set_option maxRecDepth 100000 in
theorem t_X7_failedCommand {l : Launch} {G : xG} {ta : Nat × Nat} {M : xM} {out : Int32 × xM} (hf : f_X7_failedCommand M = some out) : xMet G l yX7_failedCommand wsX7_failedCommand (rm_X7_failedCommand 0 0) 0 0 ta M [.ref (xad G 9)] (some (.int out.1)) out.2 := by
  refine x_met (cc := cX7_failedCommand) (nL := 1) (ret := some .int) (by decide) rfl (Nat.le_of_ble_eq_true rfl) ?_
  intro p e s m args below meth c C hr hlk
  have C : xC G p s m args c cX7_failedCommand 1 wsX7_failedCommand RX7 := C
  have i9 : ∀ w ∈ wsX70, w ∈ wsX7_failedCommand := by decide +kernel
  unfold f_X7_failedCommand at hf
  show xW G p l e (rm_X7_failedCommand 0 0) s m args below meth c 1 (MQ below (xQr G (some (.int out.1)) out.2) args s 0 0 (xAs G)) 0 0 ta M 0 [(0, .ref (xad G 9))] []
  refine x_aload_n C 0 dX7_failedCommand_0 rfl ?_
  refine x_iconst (v := 0) C dX7_failedCommand_1 (by decide) ?_
  refine x_put9 C xkd_9 i9 9 (by decide) (by decide +kernel) dX7_failedCommand_2 ?_
  obtain ⟨M1, e2, hf⟩ := x_lt hf
  rw [← e2]
  clear e2
  refine x_aload_n C 0 dX7_failedCommand_5 rfl ?_
  refine x_get9 C xkd_9 i9 8 (by decide) (by decide +kernel) rfl rfl dX7_failedCommand_6 ?_
  refine x_iconst (v := (-1)) C dX7_failedCommand_9 (by decide) ?_
  refine x_icmp_ne C 21 dX7_failedCommand_10 (by decide) (fun hc3 => ?_) (fun hc3 => ?_)
  · have hf := x_ine hc3 hf
    refine x_aload_n C 0 dX7_failedCommand_21 rfl ?_
    refine x_get9 C xkd_9 i9 8 (by decide) (by decide +kernel) rfl rfl dX7_failedCommand_22 ?_
    obtain rfl := Option.some.inj hf
    exact x_iret C hr hlk dX7_failedCommand_25
  · have hf := x_ip hc3 hf
    refine x_aload_n C 0 dX7_failedCommand_13 rfl ?_
    refine x_iconst (v := 1) C dX7_failedCommand_14 (by decide) ?_
    obtain ⟨q4, hg, hf⟩ := x_bd hf
    refine x_callVr C (by rw [xkd_9]; decide) (by rw [xkd_9]; decide) (xc9 xkd_9) rfl (t_X7_throwing hg) (cwV 1 C.1.2.2.2.2 gX7_failedCommand_X7_throwing rfl rfl rfl (by decide +kernel) ⟨Nat.le_of_ble_eq_true rfl, Nat.le_of_ble_eq_true rfl⟩) rfl rfl (Nat.le_of_ble_eq_true rfl) dX7_failedCommand_15 ⟨Nat.zero_le _, Nat.zero_le _⟩ (fun ta5 => ?_)
    clear hg
    refine x_goto C 25 dX7_failedCommand_18 (by decide) ?_
    obtain rfl := Option.some.inj hf
    exact x_iret C hr hlk dX7_failedCommand_25
/-! WaitingRoomSimulationModel.undo()I -/
abbrev rm_X7_undo (c s : Nat) : Room := { frames := 1, cells := c, slots := s, locals := 21 }
def f_X7_undo_L30 : Nat → Int32 → xM → Option (Int32 × xM)
  | 0, _, _ => none
  | n+1, v1, M => (if (159 : Int32) ≤ v1 then some (M.1 9 6, M) else if x_in (((159 : Int32) * (M.1 9 6)) + v1) 1272 = true then if x_in v1 159 = true then x_let (sI M 10 v1.toNatClampNeg (M.1 14 (((159 : Int32) * (M.1 9 6)) + v1).toNatClampNeg)) fun M9 => f_X7_undo_L30 n (v1 + 1) M9 else none else none)
def f_X7_undo (M : xM) : Option (Int32 × xM) := x_let (sI M 9 9 (0 : Int32)) fun M1 => (if (M1.1 9 6) = 0 then (f_X7_throwing (1 : Int32) M1).bind fun q11 => some (q11.1, q11.2) else x_let (sI M1 9 6 ((M1.1 9 6) - (1 : Int32))) fun M4 => f_X7_undo_L30 xF (0 : Int32) M4)
set_option maxHeartbeats 4000000 in
set_option maxRecDepth 100000 in
theorem t_X7_undo_L30 {G : xG} {p : Program} {l : Launch} {e : Env} {s : State} {m : MethodId} {args : Array Value} {below : List Frame} {meth : Method} {c : Code} (C : xC G p s m args c cX7_undo 2 wsX7_undo RX7) (hr : meth.sig.returnType = some .int) (hlk : meth.locks = false) : ∀ (n : Nat) (v1 : Int32) (M : xM) (ta : Nat × Nat) (out : Int32 × xM), f_X7_undo_L30 n v1 M = some out → xW G p l e (rm_X7_undo 0 0) s m args below meth c 2 (MQ below (xQr G (some (.int out.1)) out.2) args s 0 0 (xAs G)) 0 0 ta M 30 [(0, .ref (xad G 9)), (1, .int v1)] [] := by
  intro n
  induction n with
  | zero =>
    intro v1 M ta out hf
    rw [f_X7_undo_L30] at hf
    cases hf
  | succ n ih =>
    intro v1 M ta out hf
    rw [f_X7_undo_L30] at hf
    have i9 : ∀ w ∈ wsX70, w ∈ wsX7_undo := by decide +kernel
    refine x_iload_n C 1 dX7_undo_30 rfl ?_
    refine x_sipush (v := 159) C dX7_undo_31 (by decide) ?_
    refine x_icmp_ge C 64 dX7_undo_34 (by decide) (fun hc6 => ?_) (fun hc6 => ?_)
    · have hf := x_ip hc6 hf
      refine x_aload_n C 0 dX7_undo_64 rfl ?_
      refine x_get9 C xkd_9 i9 6 (by decide) (by decide +kernel) rfl rfl dX7_undo_65 ?_
      obtain rfl := Option.some.inj hf
      exact x_iret C hr hlk dX7_undo_68
    · have hf := x_ine hc6 hf
      refine x_aload_n C 0 dX7_undo_37 rfl ?_
      refine x_get9 C xkd_9 i9 0 (by decide) (by decide +kernel) rfl rfl dX7_undo_38 ?_
      refine x_iload_n C 1 dX7_undo_41 rfl ?_
      refine x_aload_n C 0 dX7_undo_42 rfl ?_
      refine x_get9 C xkd_9 i9 5 (by decide) (by decide +kernel) rfl rfl dX7_undo_43 ?_
      refine x_sipush (v := 159) C dX7_undo_46 (by decide) ?_
      refine x_aload_n C 0 dX7_undo_49 rfl ?_
      refine x_get9 C xkd_9 i9 6 (by decide) (by decide +kernel) rfl rfl dX7_undo_50 ?_
      refine x_imul C dX7_undo_53 ?_
      refine x_iload_n C 1 dX7_undo_54 rfl ?_
      refine x_iadd C dX7_undo_55 ?_
      obtain ⟨g7, hf⟩ := x_gd hf
      refine x_iald C xkd_14 xl_14 g7 dX7_undo_56 ?_
      obtain ⟨g8, hf⟩ := x_gd hf
      refine x_iast C xkd_10 xl_10 g8 dX7_undo_57 ?_
      obtain ⟨M9, e10, hf⟩ := x_lt hf
      rw [← e10]
      clear e10
      refine x_iinc (v := v1 + 1) (lv' := [(1, .int (v1 + 1)), (0, .ref (xad G 9))]) C 1 dX7_undo_58 rfl rfl (by decide) rfl ?_
      refine x_goto C 30 dX7_undo_61 (by decide) ?_
      refine x_sub [1, 0] rfl ?_
      exact ih (v1 + 1) M9 _ _ hf
set_option maxHeartbeats 4000000 in
set_option maxRecDepth 100000 in
theorem t_X7_undo {l : Launch} {G : xG} {ta : Nat × Nat} {M : xM} {out : Int32 × xM} (hf : f_X7_undo M = some out) : xMet G l yX7_undo wsX7_undo (rm_X7_undo 0 0) 0 0 ta M [.ref (xad G 9)] (some (.int out.1)) out.2 := by
  refine x_met (cc := cX7_undo) (nL := 2) (ret := some .int) (by decide) rfl (Nat.le_of_ble_eq_true rfl) ?_
  intro p e s m args below meth c C hr hlk
  have C : xC G p s m args c cX7_undo 2 wsX7_undo RX7 := C
  have i9 : ∀ w ∈ wsX70, w ∈ wsX7_undo := by decide +kernel
  unfold f_X7_undo at hf
  show xW G p l e (rm_X7_undo 0 0) s m args below meth c 2 (MQ below (xQr G (some (.int out.1)) out.2) args s 0 0 (xAs G)) 0 0 ta M 0 [(0, .ref (xad G 9))] []
  refine x_aload_n C 0 dX7_undo_0 rfl ?_
  refine x_iconst (v := 0) C dX7_undo_1 (by decide) ?_
  refine x_put9 C xkd_9 i9 9 (by decide) (by decide +kernel) dX7_undo_2 ?_
  obtain ⟨M1, e2, hf⟩ := x_lt hf
  rw [← e2]
  clear e2
  refine x_aload_n C 0 dX7_undo_5 rfl ?_
  refine x_get9 C xkd_9 i9 6 (by decide) (by decide +kernel) rfl rfl dX7_undo_6 ?_
  refine x_if_ne C 18 dX7_undo_9 (by decide) (fun hc3 => ?_) (fun hc3 => ?_)
  · have hf := x_ine hc3 hf
    refine x_aload_n C 0 dX7_undo_18 rfl ?_
    refine x_dup C dX7_undo_19 rfl ?_
    refine x_get9 C xkd_9 i9 6 (by decide) (by decide +kernel) rfl rfl dX7_undo_20 ?_
    refine x_iconst (v := 1) C dX7_undo_23 (by decide) ?_
    refine x_isub C dX7_undo_24 ?_
    refine x_put9 C xkd_9 i9 6 (by decide) (by decide +kernel) dX7_undo_25 ?_
    obtain ⟨M4, e5, hf⟩ := x_lt hf
    rw [← e5]
    clear e5
    refine x_iconst (v := 0) C dX7_undo_28 (by decide) ?_
    refine x_istore_n (lv' := [(1, .int (0 : Int32)), (0, .ref (xad G 9))]) C dX7_undo_29 rfl (by decide) rfl ?_
    refine x_sub [1, 0] rfl ?_
    exact t_X7_undo_L30 C hr hlk xF (0 : Int32) M4 _ _ hf
  · have hf := x_ip hc3 hf
    refine x_aload_n C 0 dX7_undo_12 rfl ?_
    refine x_iconst (v := 1) C dX7_undo_13 (by decide) ?_
    obtain ⟨q11, hg, hf⟩ := x_bd hf
    refine x_callVr C (by rw [xkd_9]; decide) (by rw [xkd_9]; decide) (xc9 xkd_9) rfl (t_X7_throwing hg) (cwV 1 C.1.2.2.2.2 gX7_undo_X7_throwing rfl rfl rfl (by decide +kernel) ⟨Nat.le_of_ble_eq_true rfl, Nat.le_of_ble_eq_true rfl⟩) rfl rfl (Nat.le_of_ble_eq_true rfl) dX7_undo_14 ⟨Nat.zero_le _, Nat.zero_le _⟩ (fun ta12 => ?_)
    clear hg
    obtain rfl := Option.some.inj hf
    exact x_iret C hr hlk dX7_undo_17
/-! WaitingRoomSimulationModel.save()I -/
abbrev rm_X7_save (c s : Nat) : Room := { frames := 0, cells := c, slots := s, locals := 0 }
def f_X7_save_L7 : Nat → Int32 → xM → Option (Int32 × xM)
  | 0, _, _ => none
  | n+1, v1, M => (if (159 : Int32) ≤ v1 then x_let (sI M 9 4 (1 : Int32)) fun M4 => if x_in (0 : Int32) 159 = true then some (M4.1 10 (0 : Int32).toNatClampNeg, M4) else none else if x_in v1 159 = true then if x_in v1 159 = true then x_let (sI M 13 v1.toNatClampNeg (M.1 10 v1.toNatClampNeg)) fun M9 => f_X7_save_L7 n (v1 + 1) M9 else none else none)
def f_X7_save (M : xM) : Option (Int32 × xM) := x_let (sI M 9 9 (0 : Int32)) fun M1 => f_X7_save_L7 xF (0 : Int32) M1
set_option maxHeartbeats 4000000 in
set_option maxRecDepth 100000 in
theorem t_X7_save_L7 {G : xG} {p : Program} {l : Launch} {e : Env} {s : State} {m : MethodId} {args : Array Value} {below : List Frame} {meth : Method} {c : Code} (C : xC G p s m args c cX7_save 2 wsX7_save RX7) (hr : meth.sig.returnType = some .int) (hlk : meth.locks = false) : ∀ (n : Nat) (v1 : Int32) (M : xM) (ta : Nat × Nat) (out : Int32 × xM), f_X7_save_L7 n v1 M = some out → xW G p l e (rm_X7_save 0 0) s m args below meth c 2 (MQ below (xQr G (some (.int out.1)) out.2) args s 0 0 (xAs G)) 0 0 ta M 7 [(0, .ref (xad G 9)), (1, .int v1)] [] := by
  intro n
  induction n with
  | zero =>
    intro v1 M ta out hf
    rw [f_X7_save_L7] at hf
    cases hf
  | succ n ih =>
    intro v1 M ta out hf
    rw [f_X7_save_L7] at hf
    have i9 : ∀ w ∈ wsX70, w ∈ wsX7_save := by decide +kernel
    refine x_iload_n C 1 dX7_save_7 rfl ?_
    refine x_sipush (v := 159) C dX7_save_8 (by decide) ?_
    refine x_icmp_ge C 32 dX7_save_11 (by decide) (fun hc3 => ?_) (fun hc3 => ?_)
    · have hf := x_ip hc3 hf
      refine x_aload_n C 0 dX7_save_32 rfl ?_
      refine x_iconst (v := 1) C dX7_save_33 (by decide) ?_
      refine x_putz9 C xkd_9 i9 4 (by decide) (by decide) (by decide +kernel) dX7_save_34 ?_
      obtain ⟨M4, e5, hf⟩ := x_lt hf
      rw [← e5]
      clear e5
      refine x_aload_n C 0 dX7_save_37 rfl ?_
      refine x_get9 C xkd_9 i9 0 (by decide) (by decide +kernel) rfl rfl dX7_save_38 ?_
      refine x_iconst (v := 0) C dX7_save_41 (by decide) ?_
      obtain ⟨g6, hf⟩ := x_gd hf
      refine x_iald C xkd_10 xl_10 g6 dX7_save_42 ?_
      obtain rfl := Option.some.inj hf
      exact x_iret C hr hlk dX7_save_43
    · have hf := x_ine hc3 hf
      refine x_aload_n C 0 dX7_save_14 rfl ?_
      refine x_get9 C xkd_9 i9 3 (by decide) (by decide +kernel) rfl rfl dX7_save_15 ?_
      refine x_iload_n C 1 dX7_save_18 rfl ?_
      refine x_aload_n C 0 dX7_save_19 rfl ?_
      refine x_get9 C xkd_9 i9 0 (by decide) (by decide +kernel) rfl rfl dX7_save_20 ?_
      refine x_iload_n C 1 dX7_save_23 rfl ?_
      obtain ⟨g7, hf⟩ := x_gd hf
      refine x_iald C xkd_10 xl_10 g7 dX7_save_24 ?_
      obtain ⟨g8, hf⟩ := x_gd hf
      refine x_iast C xkd_13 xl_13 g8 dX7_save_25 ?_
      obtain ⟨M9, e10, hf⟩ := x_lt hf
      rw [← e10]
      clear e10
      refine x_iinc (v := v1 + 1) (lv' := [(1, .int (v1 + 1)), (0, .ref (xad G 9))]) C 1 dX7_save_26 rfl rfl (by decide) rfl ?_
      refine x_goto C 7 dX7_save_29 (by decide) ?_
      refine x_sub [1, 0] rfl ?_
      exact ih (v1 + 1) M9 _ _ hf
set_option maxHeartbeats 4000000 in
set_option maxRecDepth 100000 in
theorem t_X7_save {l : Launch} {G : xG} {ta : Nat × Nat} {M : xM} {out : Int32 × xM} (hf : f_X7_save M = some out) : xMet G l yX7_save wsX7_save (rm_X7_save 0 0) 0 0 ta M [.ref (xad G 9)] (some (.int out.1)) out.2 := by
  refine x_met (cc := cX7_save) (nL := 2) (ret := some .int) (by decide) rfl (Nat.le_of_ble_eq_true rfl) ?_
  intro p e s m args below meth c C hr hlk
  have C : xC G p s m args c cX7_save 2 wsX7_save RX7 := C
  have i9 : ∀ w ∈ wsX70, w ∈ wsX7_save := by decide +kernel
  unfold f_X7_save at hf
  show xW G p l e (rm_X7_save 0 0) s m args below meth c 2 (MQ below (xQr G (some (.int out.1)) out.2) args s 0 0 (xAs G)) 0 0 ta M 0 [(0, .ref (xad G 9))] []
  refine x_aload_n C 0 dX7_save_0 rfl ?_
  refine x_iconst (v := 0) C dX7_save_1 (by decide) ?_
  refine x_put9 C xkd_9 i9 9 (by decide) (by decide +kernel) dX7_save_2 ?_
  obtain ⟨M1, e2, hf⟩ := x_lt hf
  rw [← e2]
  clear e2
  refine x_iconst (v := 0) C dX7_save_5 (by decide) ?_
  refine x_istore_n (lv' := [(1, .int (0 : Int32)), (0, .ref (xad G 9))]) C dX7_save_6 rfl (by decide) rfl ?_
  refine x_sub [1, 0] rfl ?_
  exact t_X7_save_L7 C hr hlk xF (0 : Int32) M1 _ _ hf
/-! WaitingRoomSimulationModel.restore()I -/
abbrev rm_X7_restore (c s : Nat) : Room := { frames := 1, cells := c, slots := s, locals := 21 }
def f_X7_restore_L20 : Nat → Int32 → xM → Option (Int32 × xM)
  | 0, _, _ => none
  | n+1, v1, M => (if (159 : Int32) ≤ v1 then x_let (sI M 9 6 (0 : Int32)) fun M5 => if x_in (0 : Int32) 159 = true then some (M5.1 10 (0 : Int32).toNatClampNeg, M5) else none else if x_in v1 159 = true then if x_in v1 159 = true then x_let (sI M 10 v1.toNatClampNeg (M.1 13 v1.toNatClampNeg)) fun M10 => f_X7_restore_L20 n (v1 + 1) M10 else none else none)
def f_X7_restore (M : xM) : Option (Int32 × xM) := x_let (sI M 9 9 (0 : Int32)) fun M1 => (if (M1.1 9 4) = 0 then (f_X7_throwing (1 : Int32) M1).bind fun q12 => some (q12.1, q12.2) else f_X7_restore_L20 xF (0 : Int32) M1)
set_option maxHeartbeats 4000000 in
set_option maxRecDepth 100000 in
theorem t_X7_restore_L20 {G : xG} {p : Program} {l : Launch} {e : Env} {s : State} {m : MethodId} {args : Array Value} {below : List Frame} {meth : Method} {c : Code} (C : xC G p s m args c cX7_restore 2 wsX7_restore RX7) (hr : meth.sig.returnType = some .int) (hlk : meth.locks = false) : ∀ (n : Nat) (v1 : Int32) (M : xM) (ta : Nat × Nat) (out : Int32 × xM), f_X7_restore_L20 n v1 M = some out → xW G p l e (rm_X7_restore 0 0) s m args below meth c 2 (MQ below (xQr G (some (.int out.1)) out.2) args s 0 0 (xAs G)) 0 0 ta M 20 [(0, .ref (xad G 9)), (1, .int v1)] [] := by
  intro n
  induction n with
  | zero =>
    intro v1 M ta out hf
    rw [f_X7_restore_L20] at hf
    cases hf
  | succ n ih =>
    intro v1 M ta out hf
    rw [f_X7_restore_L20] at hf
    have i9 : ∀ w ∈ wsX70, w ∈ wsX7_restore := by decide +kernel
    refine x_iload_n C 1 dX7_restore_20 rfl ?_
    refine x_sipush (v := 159) C dX7_restore_21 (by decide) ?_
    refine x_icmp_ge C 45 dX7_restore_24 (by decide) (fun hc4 => ?_) (fun hc4 => ?_)
    · have hf := x_ip hc4 hf
      refine x_aload_n C 0 dX7_restore_45 rfl ?_
      refine x_iconst (v := 0) C dX7_restore_46 (by decide) ?_
      refine x_put9 C xkd_9 i9 6 (by decide) (by decide +kernel) dX7_restore_47 ?_
      obtain ⟨M5, e6, hf⟩ := x_lt hf
      rw [← e6]
      clear e6
      refine x_aload_n C 0 dX7_restore_50 rfl ?_
      refine x_get9 C xkd_9 i9 0 (by decide) (by decide +kernel) rfl rfl dX7_restore_51 ?_
      refine x_iconst (v := 0) C dX7_restore_54 (by decide) ?_
      obtain ⟨g7, hf⟩ := x_gd hf
      refine x_iald C xkd_10 xl_10 g7 dX7_restore_55 ?_
      obtain rfl := Option.some.inj hf
      exact x_iret C hr hlk dX7_restore_56
    · have hf := x_ine hc4 hf
      refine x_aload_n C 0 dX7_restore_27 rfl ?_
      refine x_get9 C xkd_9 i9 0 (by decide) (by decide +kernel) rfl rfl dX7_restore_28 ?_
      refine x_iload_n C 1 dX7_restore_31 rfl ?_
      refine x_aload_n C 0 dX7_restore_32 rfl ?_
      refine x_get9 C xkd_9 i9 3 (by decide) (by decide +kernel) rfl rfl dX7_restore_33 ?_
      refine x_iload_n C 1 dX7_restore_36 rfl ?_
      obtain ⟨g8, hf⟩ := x_gd hf
      refine x_iald C xkd_13 xl_13 g8 dX7_restore_37 ?_
      obtain ⟨g9, hf⟩ := x_gd hf
      refine x_iast C xkd_10 xl_10 g9 dX7_restore_38 ?_
      obtain ⟨M10, e11, hf⟩ := x_lt hf
      rw [← e11]
      clear e11
      refine x_iinc (v := v1 + 1) (lv' := [(1, .int (v1 + 1)), (0, .ref (xad G 9))]) C 1 dX7_restore_39 rfl rfl (by decide) rfl ?_
      refine x_goto C 20 dX7_restore_42 (by decide) ?_
      refine x_sub [1, 0] rfl ?_
      exact ih (v1 + 1) M10 _ _ hf
set_option maxHeartbeats 4000000 in
set_option maxRecDepth 100000 in
theorem t_X7_restore {l : Launch} {G : xG} {ta : Nat × Nat} {M : xM} {out : Int32 × xM} (hf : f_X7_restore M = some out) : xMet G l yX7_restore wsX7_restore (rm_X7_restore 0 0) 0 0 ta M [.ref (xad G 9)] (some (.int out.1)) out.2 := by
  refine x_met (cc := cX7_restore) (nL := 2) (ret := some .int) (by decide) rfl (Nat.le_of_ble_eq_true rfl) ?_
  intro p e s m args below meth c C hr hlk
  have C : xC G p s m args c cX7_restore 2 wsX7_restore RX7 := C
  have i9 : ∀ w ∈ wsX70, w ∈ wsX7_restore := by decide +kernel
  unfold f_X7_restore at hf
  show xW G p l e (rm_X7_restore 0 0) s m args below meth c 2 (MQ below (xQr G (some (.int out.1)) out.2) args s 0 0 (xAs G)) 0 0 ta M 0 [(0, .ref (xad G 9))] []
  refine x_aload_n C 0 dX7_restore_0 rfl ?_
  refine x_iconst (v := 0) C dX7_restore_1 (by decide) ?_
  refine x_put9 C xkd_9 i9 9 (by decide) (by decide +kernel) dX7_restore_2 ?_
  obtain ⟨M1, e2, hf⟩ := x_lt hf
  rw [← e2]
  clear e2
  refine x_aload_n C 0 dX7_restore_5 rfl ?_
  refine x_get9 C xkd_9 i9 4 (by decide) (by decide +kernel) rfl rfl dX7_restore_6 ?_
  refine x_if_ne C 18 dX7_restore_9 (by decide) (fun hc3 => ?_) (fun hc3 => ?_)
  · have hf := x_ine hc3 hf
    refine x_iconst (v := 0) C dX7_restore_18 (by decide) ?_
    refine x_istore_n (lv' := [(1, .int (0 : Int32)), (0, .ref (xad G 9))]) C dX7_restore_19 rfl (by decide) rfl ?_
    refine x_sub [1, 0] rfl ?_
    exact t_X7_restore_L20 C hr hlk xF (0 : Int32) M1 _ _ hf
  · have hf := x_ip hc3 hf
    refine x_aload_n C 0 dX7_restore_12 rfl ?_
    refine x_iconst (v := 1) C dX7_restore_13 (by decide) ?_
    obtain ⟨q12, hg, hf⟩ := x_bd hf
    refine x_callVr C (by rw [xkd_9]; decide) (by rw [xkd_9]; decide) (xc9 xkd_9) rfl (t_X7_throwing hg) (cwV 1 C.1.2.2.2.2 gX7_restore_X7_throwing rfl rfl rfl (by decide +kernel) ⟨Nat.le_of_ble_eq_true rfl, Nat.le_of_ble_eq_true rfl⟩) rfl rfl (Nat.le_of_ble_eq_true rfl) dX7_restore_14 ⟨Nat.zero_le _, Nat.zero_le _⟩ (fun ta13 => ?_)
    clear hg
    obtain rfl := Option.some.inj hf
    exact x_iret C hr hlk dX7_restore_17
