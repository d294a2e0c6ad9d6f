/-! WaitingRoomSimulation$Customer.arrive(II)V -/
abbrev rm_X2_arrive (c s : Nat) : Room := { frames := 0, cells := c, slots := s, locals := 0 }
def f_X2_arrive (h : Nat) (a1 : Int32) (a2 : Int32) (M : xM) : Option (xM) := x_let (sI M h 0 a1) fun M1 => x_let (sI M1 h 1 a2) fun M3 => x_let (sI M3 h 2 (0 : Int32)) fun M5 => x_let (sI M5 h 3 (0 : Int32)) fun M7 => x_let (sI M7 h 4 (0 : Int32)) fun M9 => x_let (sI M9 h 5 (0 : Int32)) fun M11 => x_let (sI M11 h 6 (0 : Int32)) fun M13 => some M13
set_option maxHeartbeats 4000000 in
set_option maxRecDepth 100000 in
theorem t_X2_arrive {l : Launch} {G : xG} {ta : Nat × Nat} {M : xM} {h : Nat} {a1 : Int32} {a2 : Int32} {out : xM} (kh : xkd h = 4) (hf : f_X2_arrive h a1 a2 M = some out) : xMet G l yX2_arrive wsX2_arrive (rm_X2_arrive 0 0) 0 0 ta M [.ref (xad G h), .int a1, .int a2] none out := by
  refine x_met (cc := cX2_arrive) (nL := 3) (ret := none) (by decide) rfl (Nat.le_of_ble_eq_true rfl) ?_
  intro p e s m args below meth c C hr hlk
  have C : xC G p s m args c cX2_arrive 3 wsX2_arrive RX2 := C
  have i4 : ∀ w ∈ wsX20, w ∈ wsX2_arrive := by decide +kernel
  unfold f_X2_arrive at hf
  show xW G p l e (rm_X2_arrive 0 0) s m args below meth c 3 (MQ below (xQr G none out) args s 0 0 (xAs G)) 0 0 ta M 0 [(0, .ref (xad G h)), (1, .int a1), (2, .int a2)] []
  refine x_aload_n C 0 dX2_arrive_0 rfl ?_
  refine x_iload_n C 1 dX2_arrive_1 rfl ?_
  refine x_put4 C kh i4 0 (by decide) (by decide +kernel) dX2_arrive_2 ?_
  obtain ⟨M1, e2, hf⟩ := x_lt hf
  rw [← e2]
  clear e2
  refine x_aload_n C 0 dX2_arrive_5 rfl ?_
  refine x_iload_n C 2 dX2_arrive_6 rfl ?_
  refine x_put4 C kh i4 1 (by decide) (by decide +kernel) dX2_arrive_7 ?_
  obtain ⟨M3, e4, hf⟩ := x_lt hf
  rw [← e4]
  clear e4
  refine x_aload_n C 0 dX2_arrive_10 rfl ?_
  refine x_iconst (v := 0) C dX2_arrive_11 (by decide) ?_
  refine x_put4 C kh i4 2 (by decide) (by decide +kernel) dX2_arrive_12 ?_
  obtain ⟨M5, e6, hf⟩ := x_lt hf
  rw [← e6]
  clear e6
  refine x_aload_n C 0 dX2_arrive_15 rfl ?_
  refine x_iconst (v := 0) C dX2_arrive_16 (by decide) ?_
  refine x_put4 C kh i4 3 (by decide) (by decide +kernel) dX2_arrive_17 ?_
  obtain ⟨M7, e8, hf⟩ := x_lt hf
  rw [← e8]
  clear e8
  refine x_aload_n C 0 dX2_arrive_20 rfl ?_
  refine x_iconst (v := 0) C dX2_arrive_21 (by decide) ?_
  refine x_put4 C kh i4 4 (by decide) (by decide +kernel) dX2_arrive_22 ?_
  obtain ⟨M9, e10, hf⟩ := x_lt hf
  rw [← e10]
  clear e10
  refine x_aload_n C 0 dX2_arrive_25 rfl ?_
  refine x_iconst (v := 0) C dX2_arrive_26 (by decide) ?_
  refine x_putz4 C kh i4 5 (by decide) (by decide) (by decide +kernel) dX2_arrive_27 ?_
  obtain ⟨M11, e12, hf⟩ := x_lt hf
  rw [← e12]
  clear e12
  refine x_aload_n C 0 dX2_arrive_30 rfl ?_
  refine x_iconst (v := 0) C dX2_arrive_31 (by decide) ?_
  refine x_putz4 C kh i4 6 (by decide) (by decide) (by decide +kernel) dX2_arrive_32 ?_
  obtain ⟨M13, e14, hf⟩ := x_lt hf
  rw [← e14]
  clear e14
  obtain rfl := Option.some.inj hf
  exact x_vret C hr hlk dX2_arrive_35
/-! WaitingRoomSimulation$Customer.copyFrom(LWaitingRoomSimulation$Customer;)V -/
abbrev rm_X2_copyFrom (c s : Nat) : Room := { frames := 0, cells := c, slots := s, locals := 0 }
def f_X2_copyFrom (h : Nat) (a1 : Nat) (M : xM) : Option (xM) := x_let (sI M h 0 (M.1 a1 0)) fun M1 => x_let (sI M1 h 1 (M1.1 a1 1)) fun M3 => x_let (sI M3 h 2 (M3.1 a1 2)) fun M5 => x_let (sI M5 h 3 (M5.1 a1 3)) fun M7 => x_let (sI M7 h 4 (M7.1 a1 4)) fun M9 => if (M9.1 a1 5) = 0 ∨ (M9.1 a1 5) = 1 then x_let (sI M9 h 5 (M9.1 a1 5)) fun M12 => if (M12.1 a1 6) = 0 ∨ (M12.1 a1 6) = 1 then x_let (sI M12 h 6 (M12.1 a1 6)) fun M15 => some M15 else none else none
set_option maxHeartbeats 4000000 in
set_option maxRecDepth 100000 in
theorem t_X2_copyFrom {l : Launch} {G : xG} {ta : Nat × Nat} {M : xM} {h : Nat} {a1 : Nat} {out : xM} (kh : xkd h = 4) (ka1 : xkd a1 = 4) (hf : f_X2_copyFrom h a1 M = some out) : xMet G l yX2_copyFrom wsX2_copyFrom (rm_X2_copyFrom 0 0) 0 0 ta M [.ref (xad G h), .ref (xad G a1)] none out := by
  refine x_met (cc := cX2_copyFrom) (nL := 2) (ret := none) (by decide) rfl (Nat.le_of_ble_eq_true rfl) ?_
  intro p e s m args below meth c C hr hlk
  have C : xC G p s m args c cX2_copyFrom 2 wsX2_copyFrom RX2 := C
  have i4 : ∀ w ∈ wsX20, w ∈ wsX2_copyFrom := by decide +kernel
  unfold f_X2_copyFrom at hf
  show xW G p l e (rm_X2_copyFrom 0 0) s m args below meth c 2 (MQ below (xQr G none out) args s 0 0 (xAs G)) 0 0 ta M 0 [(0, .ref (xad G h)), (1, .ref (xad G a1))] []
  refine x_aload_n C 0 dX2_copyFrom_0 rfl ?_
  refine x_aload_n C 1 dX2_copyFrom_1 rfl ?_
  refine x_get4 C ka1 i4 0 (by decide) (by decide +kernel) rfl rfl dX2_copyFrom_2 ?_
  refine x_put4 C kh i4 0 (by decide) (by decide +kernel) dX2_copyFrom_5 ?_
  obtain ⟨M1, e2, hf⟩ := x_lt hf
  rw [← e2]
  clear e2
  refine x_aload_n C 0 dX2_copyFrom_8 rfl ?_
  refine x_aload_n C 1 dX2_copyFrom_9 rfl ?_
  refine x_get4 C ka1 i4 1 (by decide) (by decide +kernel) rfl rfl dX2_copyFrom_10 ?_
  refine x_put4 C kh i4 1 (by decide) (by decide +kernel) dX2_copyFrom_13 ?_
  obtain ⟨M3, e4, hf⟩ := x_lt hf
  rw [← e4]
  clear e4
  refine x_aload_n C 0 dX2_copyFrom_16 rfl ?_
  refine x_aload_n C 1 dX2_copyFrom_17 rfl ?_
  refine x_get4 C ka1 i4 2 (by decide) (by decide +kernel) rfl rfl dX2_copyFrom_18 ?_
  refine x_put4 C kh i4 2 (by decide) (by decide +kernel) dX2_copyFrom_21 ?_
  obtain ⟨M5, e6, hf⟩ := x_lt hf
  rw [← e6]
  clear e6
  refine x_aload_n C 0 dX2_copyFrom_24 rfl ?_
  refine x_aload_n C 1 dX2_copyFrom_25 rfl ?_
  refine x_get4 C ka1 i4 3 (by decide) (by decide +kernel) rfl rfl dX2_copyFrom_26 ?_
  refine x_put4 C kh i4 3 (by decide) (by decide +kernel) dX2_copyFrom_29 ?_
  obtain ⟨M7, e8, hf⟩ := x_lt hf
  rw [← e8]
  clear e8
  refine x_aload_n C 0 dX2_copyFrom_32 rfl ?_
  refine x_aload_n C 1 dX2_copyFrom_33 rfl ?_
  refine x_get4 C ka1 i4 4 (by decide) (by decide +kernel) rfl rfl dX2_copyFrom_34 ?_
  refine x_put4 C kh i4 4 (by decide) (by decide +kernel) dX2_copyFrom_37 ?_
  obtain ⟨M9, e10, hf⟩ := x_lt hf
  rw [← e10]
  clear e10
  refine x_aload_n C 0 dX2_copyFrom_40 rfl ?_
  refine x_aload_n C 1 dX2_copyFrom_41 rfl ?_
  refine x_get4 C ka1 i4 5 (by decide) (by decide +kernel) rfl rfl dX2_copyFrom_42 ?_
  obtain ⟨g11, hf⟩ := x_gd hf
  refine x_putz4 C kh i4 5 (by decide) g11 (by decide +kernel) dX2_copyFrom_45 ?_
  obtain ⟨M12, e13, hf⟩ := x_lt hf
  rw [← e13]
  clear e13
  refine x_aload_n C 0 dX2_copyFrom_48 rfl ?_
  refine x_aload_n C 1 dX2_copyFrom_49 rfl ?_
  refine x_get4 C ka1 i4 6 (by decide) (by decide +kernel) rfl rfl dX2_copyFrom_50 ?_
  obtain ⟨g14, hf⟩ := x_gd hf
  refine x_putz4 C kh i4 6 (by decide) g14 (by decide +kernel) dX2_copyFrom_53 ?_
  obtain ⟨M15, e16, hf⟩ := x_lt hf
  rw [← e16]
  clear e16
  obtain rfl := Option.some.inj hf
  exact x_vret C hr hlk dX2_copyFrom_56
/-! WaitingRoomSimulation$Customer.sighsInMinute()Z -/
abbrev rm_X2_sighsInMinute (c s : Nat) : Room := { frames := 1, cells := c, slots := s, locals := 15 }
def f_X2_sighsInMinute (h : Nat) (M : xM) : Option (Int32 × xM) := x_let (sI M h 4 ((M.1 h 4) + (1 : Int32))) fun M1 => (if (M1.1 h 6) = 0 then x_let (sI M1 h 3 (if ((M1.1 h 3) - (1 : Int32)) < (0 : Int32) then (0 : Int32) else ((M1.1 h 3) - (1 : Int32)))) fun M4 => x_let (sI M4 h 1 (if ((M4.1 h 1) - (1 : Int32)) < (0 : Int32) then (0 : Int32) else ((M4.1 h 1) - (1 : Int32)))) fun M6 => (if (M6.1 h 1) ≤ 0 then x_let (sI M6 h 2 ((M6.1 h 2) + (1 : Int32))) fun M9 => some ((1 : Int32), M9) else some ((0 : Int32), M6)) else x_let (sI M1 h 3 (if (6 : Int32) < ((M1.1 h 3) + (1 : Int32)) then (6 : Int32) else ((M1.1 h 3) + (1 : Int32)))) fun M11 => (if (6 : Int32) ≤ (M11.1 h 3) then x_let (sI M11 h 6 (0 : Int32)) fun M14 => some ((0 : Int32), M14) else x_let (sI M11 h 6 (1 : Int32)) fun M16 => some ((0 : Int32), M16)))
set_option maxHeartbeats 4000000 in
set_option maxRecDepth 100000 in
theorem t_X2_sighsInMinute {l : Launch} {G : xG} {ta : Nat × Nat} {M : xM} {h : Nat} {out : Int32 × xM} (kh : xkd h = 4) (hf : f_X2_sighsInMinute h M = some out) : xMet G l yX2_sighsInMinute wsX2_sighsInMinute (rm_X2_sighsInMinute 0 0) 0 0 ta M [.ref (xad G h)] (some (.int out.1)) out.2 := by
  refine x_met (cc := cX2_sighsInMinute) (nL := 1) (ret := some .boolean) (by decide) rfl (Nat.le_of_ble_eq_true rfl) ?_
  intro p e s m args below meth c C hr hlk
  have C : xC G p s m args c cX2_sighsInMinute 1 wsX2_sighsInMinute RX2 := C
  have i4 : ∀ w ∈ wsX20, w ∈ wsX2_sighsInMinute := by decide +kernel
  unfold f_X2_sighsInMinute at hf
  show xW G p l e (rm_X2_sighsInMinute 0 0) s m args below meth c 1 (MQ below (xQr G (some (.int out.1)) out.2) args s 0 0 (xAs G)) 0 0 ta M 0 [(0, .ref (xad G h))] []
  refine x_aload_n C 0 dX2_sighsInMinute_0 rfl ?_
  refine x_dup C dX2_sighsInMinute_1 rfl ?_
  refine x_get4 C kh i4 4 (by decide) (by decide +kernel) rfl rfl dX2_sighsInMinute_2 ?_
  refine x_iconst (v := 1) C dX2_sighsInMinute_5 (by decide) ?_
  refine x_iadd C dX2_sighsInMinute_6 ?_
  refine x_put4 C kh i4 4 (by decide) (by decide +kernel) dX2_sighsInMinute_7 ?_
  obtain ⟨M1, e2, hf⟩ := x_lt hf
  rw [← e2]
  clear e2
  refine x_aload_n C 0 dX2_sighsInMinute_10 rfl ?_
  refine x_get4 C kh i4 6 (by decide) (by decide +kernel) rfl rfl dX2_sighsInMinute_11 ?_
  refine x_if_eq C 52 dX2_sighsInMinute_14 (by decide) (fun hc3 => ?_) (fun hc3 => ?_)
  · have hf := x_ip hc3 hf
    refine x_aload_n C 0 dX2_sighsInMinute_52 rfl ?_
    refine x_aload_n C 0 dX2_sighsInMinute_53 rfl ?_
    refine x_get4 C kh i4 3 (by decide) (by decide +kernel) rfl rfl dX2_sighsInMinute_54 ?_
    refine x_iconst (v := 1) C dX2_sighsInMinute_57 (by decide) ?_
    refine x_isub C dX2_sighsInMinute_58 ?_
    refine x_iconst (v := 0) C dX2_sighsInMinute_59 (by decide) ?_
    refine x_mmax C (by decide +kernel) (by decide +kernel) (by decide +kernel) (by decide +kernel) ⟨Nat.le_of_ble_eq_true rfl, Nat.le_of_ble_eq_true rfl⟩ ⟨Nat.zero_le _, Nat.zero_le _⟩ dX2_sighsInMinute_60 ?_
    refine x_put4 C kh i4 3 (by decide) (by decide +kernel) dX2_sighsInMinute_63 ?_
    obtain ⟨M4, e5, hf⟩ := x_lt hf
    rw [← e5]
    clear e5
    refine x_aload_n C 0 dX2_sighsInMinute_66 rfl ?_
    refine x_aload_n C 0 dX2_sighsInMinute_67 rfl ?_
    refine x_get4 C kh i4 1 (by decide) (by decide +kernel) rfl rfl dX2_sighsInMinute_68 ?_
    refine x_iconst (v := 1) C dX2_sighsInMinute_71 (by decide) ?_
    refine x_isub C dX2_sighsInMinute_72 ?_
    refine x_iconst (v := 0) C dX2_sighsInMinute_73 (by decide) ?_
    refine x_mmax C (by decide +kernel) (by decide +kernel) (by decide +kernel) (by decide +kernel) ⟨Nat.le_of_ble_eq_true rfl, Nat.le_of_ble_eq_true rfl⟩ ⟨Nat.zero_le _, Nat.zero_le _⟩ dX2_sighsInMinute_74 ?_
    refine x_put4 C kh i4 1 (by decide) (by decide +kernel) dX2_sighsInMinute_77 ?_
    obtain ⟨M6, e7, hf⟩ := x_lt hf
    rw [← e7]
    clear e7
    refine x_aload_n C 0 dX2_sighsInMinute_80 rfl ?_
    refine x_get4 C kh i4 1 (by decide) (by decide +kernel) rfl rfl dX2_sighsInMinute_81 ?_
    refine x_if_le C 89 dX2_sighsInMinute_84 (by decide) (fun hc8 => ?_) (fun hc8 => ?_)
    · have hf := x_ip hc8 hf
      refine x_aload_n C 0 dX2_sighsInMinute_89 rfl ?_
      refine x_dup C dX2_sighsInMinute_90 rfl ?_
      refine x_get4 C kh i4 2 (by decide) (by decide +kernel) rfl rfl dX2_sighsInMinute_91 ?_
      refine x_iconst (v := 1) C dX2_sighsInMinute_94 (by decide) ?_
      refine x_iadd C dX2_sighsInMinute_95 ?_
      refine x_put4 C kh i4 2 (by decide) (by decide +kernel) dX2_sighsInMinute_96 ?_
      obtain ⟨M9, e10, hf⟩ := x_lt hf
      rw [← e10]
      clear e10
      refine x_iconst (v := 1) C dX2_sighsInMinute_99 (by decide) ?_
      obtain rfl := Option.some.inj hf
      exact x_zret C hr hlk (x_nb (Or.inr rfl)) dX2_sighsInMinute_100
    · have hf := x_ine hc8 hf
      refine x_iconst (v := 0) C dX2_sighsInMinute_87 (by decide) ?_
      obtain rfl := Option.some.inj hf
      exact x_zret C hr hlk (x_nb (Or.inl rfl)) dX2_sighsInMinute_88
  · have hf := x_ine hc3 hf
    refine x_aload_n C 0 dX2_sighsInMinute_17 rfl ?_
    refine x_aload_n C 0 dX2_sighsInMinute_18 rfl ?_
    refine x_get4 C kh i4 3 (by decide) (by decide +kernel) rfl rfl dX2_sighsInMinute_19 ?_
    refine x_iconst (v := 1) C dX2_sighsInMinute_22 (by decide) ?_
    refine x_iadd C dX2_sighsInMinute_23 ?_
    refine x_bipush (v := 6) C dX2_sighsInMinute_24 (by decide) ?_
    refine x_mmin C (by decide +kernel) (by decide +kernel) (by decide +kernel) (by decide +kernel) ⟨Nat.le_of_ble_eq_true rfl, Nat.le_of_ble_eq_true rfl⟩ ⟨Nat.zero_le _, Nat.zero_le _⟩ dX2_sighsInMinute_26 ?_
    refine x_put4 C kh i4 3 (by decide) (by decide +kernel) dX2_sighsInMinute_29 ?_
    obtain ⟨M11, e12, hf⟩ := x_lt hf
    rw [← e12]
    clear e12
    refine x_aload_n C 0 dX2_sighsInMinute_32 rfl ?_
    refine x_aload_n C 0 dX2_sighsInMinute_33 rfl ?_
    refine x_get4 C kh i4 3 (by decide) (by decide +kernel) rfl rfl dX2_sighsInMinute_34 ?_
    refine x_bipush (v := 6) C dX2_sighsInMinute_37 (by decide) ?_
    refine x_icmp_ge C 46 dX2_sighsInMinute_39 (by decide) (fun hc13 => ?_) (fun hc13 => ?_)
    · have hf := x_ip hc13 hf
      refine x_iconst (v := 0) C dX2_sighsInMinute_46 (by decide) ?_
      refine x_putz4 C kh i4 6 (by decide) (by decide) (by decide +kernel) dX2_sighsInMinute_47 ?_
      obtain ⟨M14, e15, hf⟩ := x_lt hf
      rw [← e15]
      clear e15
      refine x_iconst (v := 0) C dX2_sighsInMinute_50 (by decide) ?_
      obtain rfl := Option.some.inj hf
      exact x_zret C hr hlk (x_nb (Or.inl rfl)) dX2_sighsInMinute_51
    · have hf := x_ine hc13 hf
      refine x_iconst (v := 1) C dX2_sighsInMinute_42 (by decide) ?_
      refine x_goto C 47 dX2_sighsInMinute_43 (by decide) ?_
      refine x_putz4 C kh i4 6 (by decide) (by decide) (by decide +kernel) dX2_sighsInMinute_47 ?_
      obtain ⟨M16, e17, hf⟩ := x_lt hf
      rw [← e17]
      clear e17
      refine x_iconst (v := 0) C dX2_sighsInMinute_50 (by decide) ?_
      obtain rfl := Option.some.inj hf
      exact x_zret C hr hlk (x_nb (Or.inl rfl)) dX2_sighsInMinute_51
/-! WaitingRoomSimulation$Customer.sighsBefore(LWaitingRoomSimulation$Customer;)Z -/
abbrev rm_X2_sighsBefore (c s : Nat) : Room := { frames := 0, cells := c, slots := s, locals := 0 }
def f_X2_sighsBefore (h : Nat) (a1 : Nat) (M : xM) : Option (Int32) := (if (M.1 h 2) = (M.1 a1 2) then (if (M.1 a1 1) ≤ (M.1 h 1) then some (0 : Int32) else some (1 : Int32)) else (if (M.1 h 2) ≤ (M.1 a1 2) then some (0 : Int32) else some (1 : Int32)))
set_option maxHeartbeats 4000000 in
set_option maxRecDepth 100000 in
theorem t_X2_sighsBefore {l : Launch} {G : xG} {ta : Nat × Nat} {M : xM} {h : Nat} {a1 : Nat} {out : Int32} (kh : xkd h = 4) (ka1 : xkd a1 = 4) (hf : f_X2_sighsBefore h a1 M = some out) : xMet G l yX2_sighsBefore wsX2_sighsBefore (rm_X2_sighsBefore 0 0) 0 0 ta M [.ref (xad G h), .ref (xad G a1)] (some (.int out)) M := by
  refine x_met (cc := cX2_sighsBefore) (nL := 2) (ret := some .boolean) (by decide) rfl (Nat.le_of_ble_eq_true rfl) ?_
  intro p e s m args below meth c C hr hlk
  have C : xC G p s m args c cX2_sighsBefore 2 wsX2_sighsBefore RX2 := C
  have i4 : ∀ w ∈ wsX20, w ∈ wsX2_sighsBefore := by decide +kernel
  unfold f_X2_sighsBefore at hf
  show xW G p l e (rm_X2_sighsBefore 0 0) s m args below meth c 2 (MQ below (xQr G (some (.int out)) M) args s 0 0 (xAs G)) 0 0 ta M 0 [(0, .ref (xad G h)), (1, .ref (xad G a1))] []
  refine x_aload_n C 0 dX2_sighsBefore_0 rfl ?_
  refine x_get4 C kh i4 2 (by decide) (by decide +kernel) rfl rfl dX2_sighsBefore_1 ?_
  refine x_aload_n C 1 dX2_sighsBefore_4 rfl ?_
  refine x_get4 C ka1 i4 2 (by decide) (by decide +kernel) rfl rfl dX2_sighsBefore_5 ?_
  refine x_icmp_eq C 28 dX2_sighsBefore_8 (by decide) (fun hc1 => ?_) (fun hc1 => ?_)
  · have hf := x_ip hc1 hf
    refine x_aload_n C 0 dX2_sighsBefore_28 rfl ?_
    refine x_get4 C kh i4 1 (by decide) (by decide +kernel) rfl rfl dX2_sighsBefore_29 ?_
    refine x_aload_n C 1 dX2_sighsBefore_32 rfl ?_
    refine x_get4 C ka1 i4 1 (by decide) (by decide +kernel) rfl rfl dX2_sighsBefore_33 ?_
    refine x_icmp_ge C 43 dX2_sighsBefore_36 (by decide) (fun hc2 => ?_) (fun hc2 => ?_)
    · have hf := x_ip hc2 hf
      refine x_iconst (v := 0) C dX2_sighsBefore_43 (by decide) ?_
      obtain rfl := Option.some.inj hf
      exact x_zret C hr hlk (x_nb (Or.inl rfl)) dX2_sighsBefore_44
    · have hf := x_ine hc2 hf
      refine x_iconst (v := 1) C dX2_sighsBefore_39 (by decide) ?_
      refine x_goto C 44 dX2_sighsBefore_40 (by decide) ?_
      obtain rfl := Option.some.inj hf
      exact x_zret C hr hlk (x_nb (Or.inr rfl)) dX2_sighsBefore_44
  · have hf := x_ine hc1 hf
    refine x_aload_n C 0 dX2_sighsBefore_11 rfl ?_
    refine x_get4 C kh i4 2 (by decide) (by decide +kernel) rfl rfl dX2_sighsBefore_12 ?_
    refine x_aload_n C 1 dX2_sighsBefore_15 rfl ?_
    refine x_get4 C ka1 i4 2 (by decide) (by decide +kernel) rfl rfl dX2_sighsBefore_16 ?_
    refine x_icmp_le C 26 dX2_sighsBefore_19 (by decide) (fun hc3 => ?_) (fun hc3 => ?_)
    · have hf := x_ip hc3 hf
      refine x_iconst (v := 0) C dX2_sighsBefore_26 (by decide) ?_
      obtain rfl := Option.some.inj hf
      exact x_zret C hr hlk (x_nb (Or.inl rfl)) dX2_sighsBefore_27
    · have hf := x_ine hc3 hf
      refine x_iconst (v := 1) C dX2_sighsBefore_22 (by decide) ?_
      refine x_goto C 27 dX2_sighsBefore_23 (by decide) ?_
      obtain rfl := Option.some.inj hf
      exact x_zret C hr hlk (x_nb (Or.inr rfl)) dX2_sighsBefore_27
/-! WaitingRoomSimulation$Customer.waitsBefore(LWaitingRoomSimulation$Customer;)Z -/
abbrev rm_X2_waitsBefore (c s : Nat) : Room := { frames := 0, cells := c, slots := s, locals := 0 }
def f_X2_waitsBefore (h : Nat) (a1 : Nat) (M : xM) : Option (Int32) := (if (M.1 h 4) = (M.1 a1 4) then (if (M.1 h 5) = 0 then (if (M.1 a1 5) = 0 then some (0 : Int32) else some (1 : Int32)) else some (0 : Int32)) else (if (M.1 h 4) ≤ (M.1 a1 4) then some (0 : Int32) else some (1 : Int32)))
set_option maxHeartbeats 4000000 in
set_option maxRecDepth 100000 in
theorem t_X2_waitsBefore {l : Launch} {G : xG} {ta : Nat × Nat} {M : xM} {h : Nat} {a1 : Nat} {out : Int32} (kh : xkd h = 4) (ka1 : xkd a1 = 4) (hf : f_X2_waitsBefore h a1 M = some out) : xMet G l yX2_waitsBefore wsX2_waitsBefore (rm_X2_waitsBefore 0 0) 0 0 ta M [.ref (xad G h), .ref (xad G a1)] (some (.int out)) M := by
  refine x_met (cc := cX2_waitsBefore) (nL := 2) (ret := some .boolean) (by decide) rfl (Nat.le_of_ble_eq_true rfl) ?_
  intro p e s m args below meth c C hr hlk
  have C : xC G p s m args c cX2_waitsBefore 2 wsX2_waitsBefore RX2 := C
  have i4 : ∀ w ∈ wsX20, w ∈ wsX2_waitsBefore := by decide +kernel
  unfold f_X2_waitsBefore at hf
  show xW G p l e (rm_X2_waitsBefore 0 0) s m args below meth c 2 (MQ below (xQr G (some (.int out)) M) args s 0 0 (xAs G)) 0 0 ta M 0 [(0, .ref (xad G h)), (1, .ref (xad G a1))] []
  refine x_aload_n C 0 dX2_waitsBefore_0 rfl ?_
  refine x_get4 C kh i4 4 (by decide) (by decide +kernel) rfl rfl dX2_waitsBefore_1 ?_
  refine x_aload_n C 1 dX2_waitsBefore_4 rfl ?_
  refine x_get4 C ka1 i4 4 (by decide) (by decide +kernel) rfl rfl dX2_waitsBefore_5 ?_
  refine x_icmp_eq C 28 dX2_waitsBefore_8 (by decide) (fun hc1 => ?_) (fun hc1 => ?_)
  · have hf := x_ip hc1 hf
    refine x_aload_n C 0 dX2_waitsBefore_28 rfl ?_
    refine x_get4 C kh i4 5 (by decide) (by decide +kernel) rfl rfl dX2_waitsBefore_29 ?_
    refine x_if_ne C 46 dX2_waitsBefore_32 (by decide) (fun hc2 => ?_) (fun hc2 => ?_)
    · have hf := x_ine hc2 hf
      refine x_iconst (v := 0) C dX2_waitsBefore_46 (by decide) ?_
      obtain rfl := Option.some.inj hf
      exact x_zret C hr hlk (x_nb (Or.inl rfl)) dX2_waitsBefore_47
    · have hf := x_ip hc2 hf
      refine x_aload_n C 1 dX2_waitsBefore_35 rfl ?_
      refine x_get4 C ka1 i4 5 (by decide) (by decide +kernel) rfl rfl dX2_waitsBefore_36 ?_
      refine x_if_eq C 46 dX2_waitsBefore_39 (by decide) (fun hc3 => ?_) (fun hc3 => ?_)
      · have hf := x_ip hc3 hf
        refine x_iconst (v := 0) C dX2_waitsBefore_46 (by decide) ?_
        obtain rfl := Option.some.inj hf
        exact x_zret C hr hlk (x_nb (Or.inl rfl)) dX2_waitsBefore_47
      · have hf := x_ine hc3 hf
        refine x_iconst (v := 1) C dX2_waitsBefore_42 (by decide) ?_
        refine x_goto C 47 dX2_waitsBefore_43 (by decide) ?_
        obtain rfl := Option.some.inj hf
        exact x_zret C hr hlk (x_nb (Or.inr rfl)) dX2_waitsBefore_47
  · have hf := x_ine hc1 hf
    refine x_aload_n C 0 dX2_waitsBefore_11 rfl ?_
    refine x_get4 C kh i4 4 (by decide) (by decide +kernel) rfl rfl dX2_waitsBefore_12 ?_
    refine x_aload_n C 1 dX2_waitsBefore_15 rfl ?_
    refine x_get4 C ka1 i4 4 (by decide) (by decide +kernel) rfl rfl dX2_waitsBefore_16 ?_
    refine x_icmp_le C 26 dX2_waitsBefore_19 (by decide) (fun hc4 => ?_) (fun hc4 => ?_)
    · have hf := x_ip hc4 hf
      refine x_iconst (v := 0) C dX2_waitsBefore_26 (by decide) ?_
      obtain rfl := Option.some.inj hf
      exact x_zret C hr hlk (x_nb (Or.inl rfl)) dX2_waitsBefore_27
    · have hf := x_ine hc4 hf
      refine x_iconst (v := 1) C dX2_waitsBefore_22 (by decide) ?_
      refine x_goto C 27 dX2_waitsBefore_23 (by decide) ?_
      obtain rfl := Option.some.inj hf
      exact x_zret C hr hlk (x_nb (Or.inr rfl)) dX2_waitsBefore_27
/-! WaitingRoomSimulation$Window.copyFrom(LWaitingRoomSimulation$Window;)V -/
abbrev rm_X5_copyFrom (c s : Nat) : Room := { frames := 0, cells := c, slots := s, locals := 0 }
def f_X5_copyFrom (h : Nat) (a1 : Nat) (M : xM) : Option (xM) := x_let (sI M h 0 (M.1 a1 0)) fun M1 => x_let (sI M1 h 1 (M1.1 a1 1)) fun M3 => x_let (sI M3 h 2 (M3.1 a1 2)) fun M5 => x_let (sI M5 h 3 (M5.1 a1 3)) fun M7 => some M7
set_option maxHeartbeats 4000000 in
set_option maxRecDepth 100000 in
theorem t_X5_copyFrom {l : Launch} {G : xG} {ta : Nat × Nat} {M : xM} {h : Nat} {a1 : Nat} {out : xM} (kh : xkd h = 7) (ka1 : xkd a1 = 7) (hf : f_X5_copyFrom h a1 M = some out) : xMet G l yX5_copyFrom wsX5_copyFrom (rm_X5_copyFrom 0 0) 0 0 ta M [.ref (xad G h), .ref (xad G a1)] none out := by
  refine x_met (cc := cX5_copyFrom) (nL := 2) (ret := none) (by decide) rfl (Nat.le_of_ble_eq_true rfl) ?_
  intro p e s m args below meth c C hr hlk
  have C : xC G p s m args c cX5_copyFrom 2 wsX5_copyFrom RX5 := C
  have i7 : ∀ w ∈ wsX50, w ∈ wsX5_copyFrom := by decide +kernel
  unfold f_X5_copyFrom at hf
  show xW G p l e (rm_X5_copyFrom 0 0) s m args below meth c 2 (MQ below (xQr G none out) args s 0 0 (xAs G)) 0 0 ta M 0 [(0, .ref (xad G h)), (1, .ref (xad G a1))] []
  refine x_aload_n C 0 dX5_copyFrom_0 rfl ?_
  refine x_aload_n C 1 dX5_copyFrom_1 rfl ?_
  refine x_get7 C ka1 i7 0 (by decide) (by decide +kernel) rfl rfl dX5_copyFrom_2 ?_
  refine x_put7 C kh i7 0 (by decide) (by decide +kernel) dX5_copyFrom_5 ?_
  obtain ⟨M1, e2, hf⟩ := x_lt hf
  rw [← e2]
  clear e2
  refine x_aload_n C 0 dX5_copyFrom_8 rfl ?_
  refine x_aload_n C 1 dX5_copyFrom_9 rfl ?_
  refine x_get7 C ka1 i7 1 (by decide) (by decide +kernel) rfl rfl dX5_copyFrom_10 ?_
  refine x_put7 C kh i7 1 (by decide) (by decide +kernel) dX5_copyFrom_13 ?_
  obtain ⟨M3, e4, hf⟩ := x_lt hf
  rw [← e4]
  clear e4
  refine x_aload_n C 0 dX5_copyFrom_16 rfl ?_
  refine x_aload_n C 1 dX5_copyFrom_17 rfl ?_
  refine x_get7 C ka1 i7 2 (by decide) (by decide +kernel) rfl rfl dX5_copyFrom_18 ?_
  refine x_put7 C kh i7 2 (by decide) (by decide +kernel) dX5_copyFrom_21 ?_
  obtain ⟨M5, e6, hf⟩ := x_lt hf
  rw [← e6]
  clear e6
  refine x_aload_n C 0 dX5_copyFrom_24 rfl ?_
  refine x_aload_n C 1 dX5_copyFrom_25 rfl ?_
  refine x_get7 C ka1 i7 3 (by decide) (by decide +kernel) rfl rfl dX5_copyFrom_26 ?_
  refine x_put7 C kh i7 3 (by decide) (by decide +kernel) dX5_copyFrom_29 ?_
  obtain ⟨M7, e8, hf⟩ := x_lt hf
  rw [← e8]
  clear e8
  obtain rfl := Option.some.inj hf
  exact x_vret C hr hlk dX5_copyFrom_32
/-! WaitingRoomSimulation$Hall.copyFrom(LWaitingRoomSimulation$Hall;)V -/
abbrev rm_X3_copyFrom (c s : Nat) : Room := { frames := 1, cells := c, slots := s, locals := 21 }
def f_X3_copyFrom_L71 (h : Nat) (a1 : Nat) : Nat → Int32 → xM → Option (xM)
  | 0, _, _ => none
  | n+1, v2, M => (if (6 : Int32) ≤ v2 then x_let (sI M h 1 (M.1 a1 1)) fun M4 => x_let (sI M4 h 3 (M4.1 a1 3)) fun M6 => x_let (sI M6 h 7 (M6.1 a1 7)) fun M8 => x_let (sI M8 h 8 (M8.1 a1 8)) fun M10 => x_let (sI M10 h 9 (M10.1 a1 9)) fun M12 => x_let (sI M12 h 10 (M12.1 a1 10)) fun M14 => x_let (sI M14 h 11 (M14.1 a1 11)) fun M16 => x_let (sI M16 h 12 (M16.1 a1 12)) fun M18 => x_let (sI M18 h 13 (M18.1 a1 13)) fun M20 => some M20 else if x_in v2 6 = true then if x_in v2 6 = true then x_let (sI M (h + 4) v2.toNatClampNeg (M.1 (a1 + 4) v2.toNatClampNeg)) fun M24 => if x_in v2 6 = true then if x_in v2 6 = true then x_let (sI M24 (h + 5) v2.toNatClampNeg (M24.1 (a1 + 5) v2.toNatClampNeg)) fun M28 => f_X3_copyFrom_L71 h a1 n (v2 + 1) M28 else none else none else none else none)
def f_X3_copyFrom_L43 (h : Nat) (a1 : Nat) : Nat → Int32 → xM → Option (xM)
  | 0, _, _ => none
  | n+1, v2, M => (if (3 : Int32) ≤ v2 then f_X3_copyFrom_L71 h a1 xF (0 : Int32) M else if x_in v2 3 = true then if xkd (h + 3 + 15 + v2.toNatClampNeg) = 7 then if x_in v2 3 = true then if xkd (a1 + 3 + 15 + v2.toNatClampNeg) = 7 then (f_X5_copyFrom (h + 3 + 15 + v2.toNatClampNeg) (a1 + 3 + 15 + v2.toNatClampNeg) M).bind fun q34 => f_X3_copyFrom_L43 h a1 n (v2 + 1) q34 else none else none else none else none)
def f_X3_copyFrom_L2 (h : Nat) (a1 : Nat) : Nat → Int32 → xM → Option (xM)
  | 0, _, _ => none
  | n+1, v2, M => (if (12 : Int32) ≤ v2 then f_X3_copyFrom_L43 h a1 xF (0 : Int32) M else if x_in v2 12 = true then if xkd (M.2.1 (h + 1) v2.toNatClampNeg) = 4 then if x_in v2 12 = true then if xkd (M.2.1 (a1 + 1) v2.toNatClampNeg) = 4 then (f_X2_copyFrom (M.2.1 (h + 1) v2.toNatClampNeg) (M.2.1 (a1 + 1) v2.toNatClampNeg) M).bind fun q40 => if x_in v2 12 = true then if x_in v2 12 = true then x_let (sI q40 (h + 2) v2.toNatClampNeg (q40.1 (a1 + 2) v2.toNatClampNeg)) fun M44 => f_X3_copyFrom_L2 h a1 n (v2 + 1) M44 else none else none else none else none else none else none)
def f_X3_copyFrom (h : Nat) (a1 : Nat) (M : xM) : Option (xM) := f_X3_copyFrom_L2 h a1 xF (0 : Int32) M
set_option maxHeartbeats 4000000 in
set_option maxRecDepth 100000 in
theorem t_X3_copyFrom_L71 {G : xG} {p : Program} {l : Launch} {e : Env} {s : State} {m : MethodId} {args : Array Value} {below : List Frame} {meth : Method} {c : Code} (C : xC G p s m args c cX3_copyFrom 3 wsX3_copyFrom RX3) (hr : meth.sig.returnType = none) (hlk : meth.locks = false) {h : Nat} {a1 : Nat} (kh : xkd h = 5) (ka1 : xkd a1 = 5) : ∀ (n : Nat) (v2 : Int32) (M : xM) (ta : Nat × Nat) (out : xM), f_X3_copyFrom_L71 h a1 n v2 M = some out → xW G p l e (rm_X3_copyFrom 0 0) s m args below meth c 3 (MQ below (xQr G none out) args s 0 0 (xAs G)) 0 0 ta M 71 [(0, .ref (xad G h)), (1, .ref (xad G a1)), (2, .int v2)] [] := by
  intro n
  induction n with
  | zero =>
    intro v2 M ta out hf
    rw [f_X3_copyFrom_L71] at hf
    cases hf
  | succ n ih =>
    intro v2 M ta out hf
    rw [f_X3_copyFrom_L71] at hf
    have i5 : ∀ w ∈ wsX30, w ∈ wsX3_copyFrom := by decide +kernel
    refine x_iload_n C 2 dX3_copyFrom_71 rfl ?_
    refine x_bipush (v := 6) C dX3_copyFrom_72 (by decide) ?_
    refine x_icmp_ge C 107 dX3_copyFrom_74 (by decide) (fun hc3 => ?_) (fun hc3 => ?_)
    · have hf := x_ip hc3 hf
      refine x_aload_n C 0 dX3_copyFrom_107 rfl ?_
      refine x_aload_n C 1 dX3_copyFrom_108 rfl ?_
      refine x_get5 C ka1 i5 1 (by decide) (by decide +kernel) rfl rfl dX3_copyFrom_109 ?_
      refine x_put5 C kh i5 1 (by decide) (by decide +kernel) dX3_copyFrom_112 ?_
      obtain ⟨M4, e5, hf⟩ := x_lt hf
      rw [← e5]
      clear e5
      refine x_aload_n C 0 dX3_copyFrom_115 rfl ?_
      refine x_aload_n C 1 dX3_copyFrom_116 rfl ?_
      refine x_get5 C ka1 i5 3 (by decide) (by decide +kernel) rfl rfl dX3_copyFrom_117 ?_
      refine x_put5 C kh i5 3 (by decide) (by decide +kernel) dX3_copyFrom_120 ?_
      obtain ⟨M6, e7, hf⟩ := x_lt hf
      rw [← e7]
      clear e7
      refine x_aload_n C 0 dX3_copyFrom_123 rfl ?_
      refine x_aload_n C 1 dX3_copyFrom_124 rfl ?_
      refine x_get5 C ka1 i5 7 (by decide) (by decide +kernel) rfl rfl dX3_copyFrom_125 ?_
      refine x_put5 C kh i5 7 (by decide) (by decide +kernel) dX3_copyFrom_128 ?_
      obtain ⟨M8, e9, hf⟩ := x_lt hf
      rw [← e9]
      clear e9
      refine x_aload_n C 0 dX3_copyFrom_131 rfl ?_
      refine x_aload_n C 1 dX3_copyFrom_132 rfl ?_
      refine x_get5 C ka1 i5 8 (by decide) (by decide +kernel) rfl rfl dX3_copyFrom_133 ?_
      refine x_put5 C kh i5 8 (by decide) (by decide +kernel) dX3_copyFrom_136 ?_
      obtain ⟨M10, e11, hf⟩ := x_lt hf
      rw [← e11]
      clear e11
      refine x_aload_n C 0 dX3_copyFrom_139 rfl ?_
      refine x_aload_n C 1 dX3_copyFrom_140 rfl ?_
      refine x_get5 C ka1 i5 9 (by decide) (by decide +kernel) rfl rfl dX3_copyFrom_141 ?_
      refine x_put5 C kh i5 9 (by decide) (by decide +kernel) dX3_copyFrom_144 ?_
      obtain ⟨M12, e13, hf⟩ := x_lt hf
      rw [← e13]
      clear e13
      refine x_aload_n C 0 dX3_copyFrom_147 rfl ?_
      refine x_aload_n C 1 dX3_copyFrom_148 rfl ?_
      refine x_get5 C ka1 i5 10 (by decide) (by decide +kernel) rfl rfl dX3_copyFrom_149 ?_
      refine x_put5 C kh i5 10 (by decide) (by decide +kernel) dX3_copyFrom_152 ?_
      obtain ⟨M14, e15, hf⟩ := x_lt hf
      rw [← e15]
      clear e15
      refine x_aload_n C 0 dX3_copyFrom_155 rfl ?_
      refine x_aload_n C 1 dX3_copyFrom_156 rfl ?_
      refine x_get5 C ka1 i5 11 (by decide) (by decide +kernel) rfl rfl dX3_copyFrom_157 ?_
      refine x_put5 C kh i5 11 (by decide) (by decide +kernel) dX3_copyFrom_160 ?_
      obtain ⟨M16, e17, hf⟩ := x_lt hf
      rw [← e17]
      clear e17
      refine x_aload_n C 0 dX3_copyFrom_163 rfl ?_
      refine x_aload_n C 1 dX3_copyFrom_164 rfl ?_
      refine x_get5 C ka1 i5 12 (by decide) (by decide +kernel) rfl rfl dX3_copyFrom_165 ?_
      refine x_put5 C kh i5 12 (by decide) (by decide +kernel) dX3_copyFrom_168 ?_
      obtain ⟨M18, e19, hf⟩ := x_lt hf
      rw [← e19]
      clear e19
      refine x_aload_n C 0 dX3_copyFrom_171 rfl ?_
      refine x_aload_n C 1 dX3_copyFrom_172 rfl ?_
      refine x_get5 C ka1 i5 13 (by decide) (by decide +kernel) rfl rfl dX3_copyFrom_173 ?_
      refine x_put5 C kh i5 13 (by decide) (by decide +kernel) dX3_copyFrom_176 ?_
      obtain ⟨M20, e21, hf⟩ := x_lt hf
      rw [← e21]
      clear e21
      obtain rfl := Option.some.inj hf
      exact x_vret C hr hlk dX3_copyFrom_179
    · have hf := x_ine hc3 hf
      refine x_aload_n C 0 dX3_copyFrom_77 rfl ?_
      refine x_get5 C kh i5 5 (by decide) (by decide +kernel) rfl rfl dX3_copyFrom_78 ?_
      refine x_iload_n C 2 dX3_copyFrom_81 rfl ?_
      refine x_aload_n C 1 dX3_copyFrom_82 rfl ?_
      refine x_get5 C ka1 i5 5 (by decide) (by decide +kernel) rfl rfl dX3_copyFrom_83 ?_
      refine x_iload_n C 2 dX3_copyFrom_86 rfl ?_
      obtain ⟨g22, hf⟩ := x_gd hf
      refine x_iald C (x5_k4 ka1) (x5_l4 ka1) g22 dX3_copyFrom_87 ?_
      obtain ⟨g23, hf⟩ := x_gd hf
      refine x_iast C (x5_k4 kh) (x5_l4 kh) g23 dX3_copyFrom_88 ?_
      obtain ⟨M24, e25, hf⟩ := x_lt hf
      rw [← e25]
      clear e25
      refine x_aload_n C 0 dX3_copyFrom_89 rfl ?_
      refine x_get5 C kh i5 6 (by decide) (by decide +kernel) rfl rfl dX3_copyFrom_90 ?_
      refine x_iload_n C 2 dX3_copyFrom_93 rfl ?_
      refine x_aload_n C 1 dX3_copyFrom_94 rfl ?_
      refine x_get5 C ka1 i5 6 (by decide) (by decide +kernel) rfl rfl dX3_copyFrom_95 ?_
      refine x_iload_n C 2 dX3_copyFrom_98 rfl ?_
      obtain ⟨g26, hf⟩ := x_gd hf
      refine x_iald C (x5_k5 ka1) (x5_l5 ka1) g26 dX3_copyFrom_99 ?_
      obtain ⟨g27, hf⟩ := x_gd hf
      refine x_iast C (x5_k5 kh) (x5_l5 kh) g27 dX3_copyFrom_100 ?_
      obtain ⟨M28, e29, hf⟩ := x_lt hf
      rw [← e29]
      clear e29
      refine x_iinc (v := v2 + 1) (lv' := [(2, .int (v2 + 1)), (0, .ref (xad G h)), (1, .ref (xad G a1))]) C 2 dX3_copyFrom_101 rfl rfl (by decide) rfl ?_
      refine x_goto C 71 dX3_copyFrom_104 (by decide) ?_
      refine x_sub [1, 2, 0] rfl ?_
      exact ih (v2 + 1) M28 _ _ hf
set_option maxHeartbeats 4000000 in
set_option maxRecDepth 100000 in
theorem t_X3_copyFrom_L43 {G : xG} {p : Program} {l : Launch} {e : Env} {s : State} {m : MethodId} {args : Array Value} {below : List Frame} {meth : Method} {c : Code} (C : xC G p s m args c cX3_copyFrom 3 wsX3_copyFrom RX3) (hr : meth.sig.returnType = none) (hlk : meth.locks = false) {h : Nat} {a1 : Nat} (kh : xkd h = 5) (ka1 : xkd a1 = 5) : ∀ (n : Nat) (v2 : Int32) (M : xM) (ta : Nat × Nat) (out : xM), f_X3_copyFrom_L43 h a1 n v2 M = some out → xW G p l e (rm_X3_copyFrom 0 0) s m args below meth c 3 (MQ below (xQr G none out) args s 0 0 (xAs G)) 0 0 ta M 43 [(0, .ref (xad G h)), (1, .ref (xad G a1)), (2, .int v2)] [] := by
  intro n
  induction n with
  | zero =>
    intro v2 M ta out hf
    rw [f_X3_copyFrom_L43] at hf
    cases hf
  | succ n ih =>
    intro v2 M ta out hf
    rw [f_X3_copyFrom_L43] at hf
    have i5 : ∀ w ∈ wsX30, w ∈ wsX3_copyFrom := by decide +kernel
    refine x_iload_n C 2 dX3_copyFrom_43 rfl ?_
    refine x_iconst (v := 3) C dX3_copyFrom_44 (by decide) ?_
    refine x_icmp_ge C 69 dX3_copyFrom_45 (by decide) (fun hc2 => ?_) (fun hc2 => ?_)
    · have hf := x_ip hc2 hf
      refine x_iconst (v := 0) C dX3_copyFrom_69 (by decide) ?_
      refine x_istore_n (lv' := [(2, .int (0 : Int32)), (0, .ref (xad G h)), (1, .ref (xad G a1))]) C dX3_copyFrom_70 rfl (by decide) rfl ?_
      refine x_sub [1, 2, 0] rfl ?_
      exact t_X3_copyFrom_L71 C hr hlk kh ka1 xF (0 : Int32) M _ _ hf
    · have hf := x_ine hc2 hf
      refine x_aload_n C 0 dX3_copyFrom_48 rfl ?_
      refine x_get5 C kh i5 4 (by decide) (by decide +kernel) rfl rfl dX3_copyFrom_49 ?_
      refine x_iload_n C 2 dX3_copyFrom_52 rfl ?_
      obtain ⟨g30, hf⟩ := x_gd hf
      obtain ⟨g31, hf⟩ := x_gd hf
      refine x_aald25 C (x5_k3 kh) (x5_l3 kh) g30 dX3_copyFrom_53 ?_
      refine x_aload_n C 1 dX3_copyFrom_54 rfl ?_
      refine x_get5 C ka1 i5 4 (by decide) (by decide +kernel) rfl rfl dX3_copyFrom_55 ?_
      refine x_iload_n C 2 dX3_copyFrom_58 rfl ?_
      obtain ⟨g32, hf⟩ := x_gd hf
      obtain ⟨g33, hf⟩ := x_gd hf
      refine x_aald25 C (x5_k3 ka1) (x5_l3 ka1) g32 dX3_copyFrom_59 ?_
      obtain ⟨q34, hg, hf⟩ := x_bd hf
      refine x_callVv C (by rw [g31]; decide) (by rw [g31]; decide) (xc7 g31) rfl (t_X5_copyFrom g31 g33 hg) (cwV 1 C.1.2.2.2.2 gX3_copyFrom_X5_copyFrom rfl rfl rfl (by decide +kernel) ⟨Nat.le_of_ble_eq_true rfl, Nat.le_of_ble_eq_true rfl⟩) rfl rfl (Nat.le_of_ble_eq_true rfl) dX3_copyFrom_60 ⟨Nat.zero_le _, Nat.zero_le _⟩ (fun ta35 => ?_)
      clear hg
      refine x_iinc (v := v2 + 1) (lv' := [(2, .int (v2 + 1)), (0, .ref (xad G h)), (1, .ref (xad G a1))]) C 2 dX3_copyFrom_63 rfl rfl (by decide) rfl ?_
      refine x_goto C 43 dX3_copyFrom_66 (by decide) ?_
      refine x_sub [1, 2, 0] rfl ?_
      exact ih (v2 + 1) q34 _ _ hf
set_option maxHeartbeats 4000000 in
set_option maxRecDepth 100000 in
theorem t_X3_copyFrom_L2 {G : xG} {p : Program} {l : Launch} {e : Env} {s : State} {m : MethodId} {args : Array Value} {below : List Frame} {meth : Method} {c : Code} (C : xC G p s m args c cX3_copyFrom 3 wsX3_copyFrom RX3) (hr : meth.sig.returnType = none) (hlk : meth.locks = false) {h : Nat} {a1 : Nat} (kh : xkd h = 5) (ka1 : xkd a1 = 5) : ∀ (n : Nat) (v2 : Int32) (M : xM) (ta : Nat × Nat) (out : xM), f_X3_copyFrom_L2 h a1 n v2 M = some out → xW G p l e (rm_X3_copyFrom 0 0) s m args below meth c 3 (MQ below (xQr G none out) args s 0 0 (xAs G)) 0 0 ta M 2 [(0, .ref (xad G h)), (1, .ref (xad G a1)), (2, .int v2)] [] := by
  intro n
  induction n with
  | zero =>
    intro v2 M ta out hf
    rw [f_X3_copyFrom_L2] at hf
    cases hf
  | succ n ih =>
    intro v2 M ta out hf
    rw [f_X3_copyFrom_L2] at hf
    have i5 : ∀ w ∈ wsX30, w ∈ wsX3_copyFrom := by decide +kernel
    refine x_iload_n C 2 dX3_copyFrom_2 rfl ?_
    refine x_bipush (v := 12) C dX3_copyFrom_3 (by decide) ?_
    refine x_icmp_ge C 41 dX3_copyFrom_5 (by decide) (fun hc1 => ?_) (fun hc1 => ?_)
    · have hf := x_ip hc1 hf
      refine x_iconst (v := 0) C dX3_copyFrom_41 (by decide) ?_
      refine x_istore_n (lv' := [(2, .int (0 : Int32)), (0, .ref (xad G h)), (1, .ref (xad G a1))]) C dX3_copyFrom_42 rfl (by decide) rfl ?_
      refine x_sub [1, 2, 0] rfl ?_
      exact t_X3_copyFrom_L43 C hr hlk kh ka1 xF (0 : Int32) M _ _ hf
    · have hf := x_ine hc1 hf
      refine x_aload_n C 0 dX3_copyFrom_8 rfl ?_
      refine x_get5 C kh i5 0 (by decide) (by decide +kernel) rfl rfl dX3_copyFrom_9 ?_
      refine x_iload_n C 2 dX3_copyFrom_12 rfl ?_
      obtain ⟨g36, hf⟩ := x_gd hf
      obtain ⟨g37, hf⟩ := x_gd hf
      refine x_aald23 C (x5_k1 kh) (x5_l1 kh) g36 dX3_copyFrom_13 ?_
      refine x_aload_n C 1 dX3_copyFrom_14 rfl ?_
      refine x_get5 C ka1 i5 0 (by decide) (by decide +kernel) rfl rfl dX3_copyFrom_15 ?_
      refine x_iload_n C 2 dX3_copyFrom_18 rfl ?_
      obtain ⟨g38, hf⟩ := x_gd hf
      obtain ⟨g39, hf⟩ := x_gd hf
      refine x_aald23 C (x5_k1 ka1) (x5_l1 ka1) g38 dX3_copyFrom_19 ?_
      obtain ⟨q40, hg, hf⟩ := x_bd hf
      refine x_callVv C (by rw [g37]; decide) (by rw [g37]; decide) (xc4 g37) rfl (t_X2_copyFrom g37 g39 hg) (cwV 1 C.1.2.2.2.2 gX3_copyFrom_X2_copyFrom rfl rfl rfl (by decide +kernel) ⟨Nat.le_of_ble_eq_true rfl, Nat.le_of_ble_eq_true rfl⟩) rfl rfl (Nat.le_of_ble_eq_true rfl) dX3_copyFrom_20 ⟨Nat.zero_le _, Nat.zero_le _⟩ (fun ta41 => ?_)
      clear hg
      refine x_aload_n C 0 dX3_copyFrom_23 rfl ?_
      refine x_get5 C kh i5 2 (by decide) (by decide +kernel) rfl rfl dX3_copyFrom_24 ?_
      refine x_iload_n C 2 dX3_copyFrom_27 rfl ?_
      refine x_aload_n C 1 dX3_copyFrom_28 rfl ?_
      refine x_get5 C ka1 i5 2 (by decide) (by decide +kernel) rfl rfl dX3_copyFrom_29 ?_
      refine x_iload_n C 2 dX3_copyFrom_32 rfl ?_
      obtain ⟨g42, hf⟩ := x_gd hf
      refine x_iald C (x5_k2 ka1) (x5_l2 ka1) g42 dX3_copyFrom_33 ?_
      obtain ⟨g43, hf⟩ := x_gd hf
      refine x_iast C (x5_k2 kh) (x5_l2 kh) g43 dX3_copyFrom_34 ?_
      obtain ⟨M44, e45, hf⟩ := x_lt hf
      rw [← e45]
      clear e45
      refine x_iinc (v := v2 + 1) (lv' := [(2, .int (v2 + 1)), (0, .ref (xad G h)), (1, .ref (xad G a1))]) C 2 dX3_copyFrom_35 rfl rfl (by decide) rfl ?_
      refine x_goto C 2 dX3_copyFrom_38 (by decide) ?_
      refine x_sub [1, 2, 0] rfl ?_
      exact ih (v2 + 1) M44 _ _ hf
set_option maxHeartbeats 4000000 in
set_option maxRecDepth 100000 in
theorem t_X3_copyFrom {l : Launch} {G : xG} {ta : Nat × Nat} {M : xM} {h : Nat} {a1 : Nat} {out : xM} (kh : xkd h = 5) (ka1 : xkd a1 = 5) (hf : f_X3_copyFrom h a1 M = some out) : xMet G l yX3_copyFrom wsX3_copyFrom (rm_X3_copyFrom 0 0) 0 0 ta M [.ref (xad G h), .ref (xad G a1)] none out := by
  refine x_met (cc := cX3_copyFrom) (nL := 3) (ret := none) (by decide) rfl (Nat.le_of_ble_eq_true rfl) ?_
  intro p e s m args below meth c C hr hlk
  have C : xC G p s m args c cX3_copyFrom 3 wsX3_copyFrom RX3 := C
  have i5 : ∀ w ∈ wsX30, w ∈ wsX3_copyFrom := by decide +kernel
  unfold f_X3_copyFrom at hf
  show xW G p l e (rm_X3_copyFrom 0 0) s m args below meth c 3 (MQ below (xQr G none out) args s 0 0 (xAs G)) 0 0 ta M 0 [(0, .ref (xad G h)), (1, .ref (xad G a1))] []
  refine x_iconst (v := 0) C dX3_copyFrom_0 (by decide) ?_
  refine x_istore_n (lv' := [(2, .int (0 : Int32)), (0, .ref (xad G h)), (1, .ref (xad G a1))]) C dX3_copyFrom_1 rfl (by decide) rfl ?_
  refine x_sub [1, 2, 0] rfl ?_
  exact t_X3_copyFrom_L2 C hr hlk kh ka1 xF (0 : Int32) M _ _ hf
/-! WaitingRoomSimulation$Hall.hasCustomer(I)Z -/
abbrev rm_X3_hasCustomer (c s : Nat) : Room := { frames := 0, cells := c, slots := s, locals := 0 }
def f_X3_hasCustomer (h : Nat) (a1 : Int32) (M : xM) : Option (Int32) := (if a1 < 0 then some (0 : Int32) else (if (M.1 h 1) ≤ a1 then some (0 : Int32) else some (1 : Int32)))
set_option maxHeartbeats 4000000 in
set_option maxRecDepth 100000 in
theorem t_X3_hasCustomer {l : Launch} {G : xG} {ta : Nat × Nat} {M : xM} {h : Nat} {a1 : Int32} {out : Int32} (kh : xkd h = 5) (hf : f_X3_hasCustomer h a1 M = some out) : xMet G l yX3_hasCustomer wsX3_hasCustomer (rm_X3_hasCustomer 0 0) 0 0 ta M [.ref (xad G h), .int a1] (some (.int out)) M := by
  refine x_met (cc := cX3_hasCustomer) (nL := 2) (ret := some .boolean) (by decide) rfl (Nat.le_of_ble_eq_true rfl) ?_
  intro p e s m args below meth c C hr hlk
  have C : xC G p s m args c cX3_hasCustomer 2 wsX3_hasCustomer RX3 := C
  have i5 : ∀ w ∈ wsX30, w ∈ wsX3_hasCustomer := by decide +kernel
  unfold f_X3_hasCustomer at hf
  show xW G p l e (rm_X3_hasCustomer 0 0) s m args below meth c 2 (MQ below (xQr G (some (.int out)) M) args s 0 0 (xAs G)) 0 0 ta M 0 [(0, .ref (xad G h)), (1, .int a1)] []
  refine x_iload_n C 1 dX3_hasCustomer_0 rfl ?_
  refine x_if_lt C 16 dX3_hasCustomer_1 (by decide) (fun hc1 => ?_) (fun hc1 => ?_)
  · have hf := x_ip hc1 hf
    refine x_iconst (v := 0) C dX3_hasCustomer_16 (by decide) ?_
    obtain rfl := Option.some.inj hf
    exact x_zret C hr hlk (x_nb (Or.inl rfl)) dX3_hasCustomer_17
  · have hf := x_ine hc1 hf
    refine x_iload_n C 1 dX3_hasCustomer_4 rfl ?_
    refine x_aload_n C 0 dX3_hasCustomer_5 rfl ?_
    refine x_get5 C kh i5 1 (by decide) (by decide +kernel) rfl rfl dX3_hasCustomer_6 ?_
    refine x_icmp_ge C 16 dX3_hasCustomer_9 (by decide) (fun hc2 => ?_) (fun hc2 => ?_)
    · have hf := x_ip hc2 hf
      refine x_iconst (v := 0) C dX3_hasCustomer_16 (by decide) ?_
      obtain rfl := Option.some.inj hf
      exact x_zret C hr hlk (x_nb (Or.inl rfl)) dX3_hasCustomer_17
    · have hf := x_ine hc2 hf
      refine x_iconst (v := 1) C dX3_hasCustomer_12 (by decide) ?_
      refine x_goto C 17 dX3_hasCustomer_13 (by decide) ?_
      obtain rfl := Option.some.inj hf
      exact x_zret C hr hlk (x_nb (Or.inr rfl)) dX3_hasCustomer_17
/-! WaitingRoomSimulation$Hall.hasWindow(I)Z -/
abbrev rm_X3_hasWindow (c s : Nat) : Room := { frames := 0, cells := c, slots := s, locals := 0 }
def f_X3_hasWindow (a1 : Int32) (M : xM) : Option (Int32) := (if a1 < 0 then some (0 : Int32) else (if (3 : Int32) ≤ a1 then some (0 : Int32) else some (1 : Int32)))
set_option maxHeartbeats 4000000 in
set_option maxRecDepth 100000 in
theorem t_X3_hasWindow {l : Launch} {G : xG} {ta : Nat × Nat} {M : xM} {a1 : Int32} {out : Int32} (hf : f_X3_hasWindow a1 M = some out) : xMet G l yX3_hasWindow wsX3_hasWindow (rm_X3_hasWindow 0 0) 0 0 ta M [.int a1] (some (.int out)) M := by
  refine x_met (cc := cX3_hasWindow) (nL := 1) (ret := some .boolean) (by decide) rfl (Nat.le_of_ble_eq_true rfl) ?_
  intro p e s m args below meth c C hr hlk
  have C : xC G p s m args c cX3_hasWindow 1 wsX3_hasWindow RX3 := C
  unfold f_X3_hasWindow at hf
  show xW G p l e (rm_X3_hasWindow 0 0) s m args below meth c 1 (MQ below (xQr G (some (.int out)) M) args s 0 0 (xAs G)) 0 0 ta M 0 [(0, .int a1)] []
  refine x_iload_n C 0 dX3_hasWindow_0 rfl ?_
  refine x_if_lt C 13 dX3_hasWindow_1 (by decide) (fun hc1 => ?_) (fun hc1 => ?_)
  · have hf := x_ip hc1 hf
    refine x_iconst (v := 0) C dX3_hasWindow_13 (by decide) ?_
    obtain rfl := Option.some.inj hf
    exact x_zret C hr hlk (x_nb (Or.inl rfl)) dX3_hasWindow_14
  · have hf := x_ine hc1 hf
    refine x_iload_n C 0 dX3_hasWindow_4 rfl ?_
    refine x_iconst (v := 3) C dX3_hasWindow_5 (by decide) ?_
    refine x_icmp_ge C 13 dX3_hasWindow_6 (by decide) (fun hc2 => ?_) (fun hc2 => ?_)
    · have hf := x_ip hc2 hf
      refine x_iconst (v := 0) C dX3_hasWindow_13 (by decide) ?_
      obtain rfl := Option.some.inj hf
      exact x_zret C hr hlk (x_nb (Or.inl rfl)) dX3_hasWindow_14
    · have hf := x_ine hc2 hf
      refine x_iconst (v := 1) C dX3_hasWindow_9 (by decide) ?_
      refine x_goto C 14 dX3_hasWindow_10 (by decide) ?_
      obtain rfl := Option.some.inj hf
      exact x_zret C hr hlk (x_nb (Or.inr rfl)) dX3_hasWindow_14
/-! WaitingRoomSimulation$Hall.positionOf(I)I -/
abbrev rm_X3_positionOf (c s : Nat) : Room := { frames := 0, cells := c, slots := s, locals := 0 }
def f_X3_positionOf_L2 (h : Nat) (v1 : Int32) (M : xM) : Nat → Int32 → Option (Int32)
  | 0, _ => none
  | n+1, v2 => (if (M.1 h 3) ≤ v2 then some (-1 : Int32) else if x_in v2 12 = true then (if (M.1 (h + 2) v2.toNatClampNeg) = v1 then some v2 else f_X3_positionOf_L2 h v1 M n (v2 + 1)) else none)
def f_X3_positionOf (h : Nat) (a1 : Int32) (M : xM) : Option (Int32) := f_X3_positionOf_L2 h a1 M xF (0 : Int32)
set_option maxHeartbeats 4000000 in
set_option maxRecDepth 100000 in
theorem t_X3_positionOf_L2 {G : xG} {p : Program} {l : Launch} {e : Env} {s : State} {m : MethodId} {args : Array Value} {below : List Frame} {meth : Method} {c : Code} (C : xC G p s m args c cX3_positionOf 3 wsX3_positionOf RX3) (hr : meth.sig.returnType = some .int) (hlk : meth.locks = false) {h : Nat} {v1 : Int32} {M : xM} (kh : xkd h = 5) : ∀ (n : Nat) (v2 : Int32) (ta : Nat × Nat) (out : Int32), f_X3_positionOf_L2 h v1 M n v2 = some out → xW G p l e (rm_X3_positionOf 0 0) s m args below meth c 3 (MQ below (xQr G (some (.int out)) M) args s 0 0 (xAs G)) 0 0 ta M 2 [(0, .ref (xad G h)), (1, .int v1), (2, .int v2)] [] := by
  intro n
  induction n with
  | zero =>
    intro v2 ta out hf
    rw [f_X3_positionOf_L2] at hf
    cases hf
  | succ n ih =>
    intro v2 ta out hf
    rw [f_X3_positionOf_L2] at hf
    have i5 : ∀ w ∈ wsX30, w ∈ wsX3_positionOf := by decide +kernel
    refine x_iload_n C 2 dX3_positionOf_2 rfl ?_
    refine x_aload_n C 0 dX3_positionOf_3 rfl ?_
    refine x_get5 C kh i5 3 (by decide) (by decide +kernel) rfl rfl dX3_positionOf_4 ?_
    refine x_icmp_ge C 28 dX3_positionOf_7 (by decide) (fun hc1 => ?_) (fun hc1 => ?_)
    · have hf := x_ip hc1 hf
      refine x_iconst (v := (-1)) C dX3_positionOf_28 (by decide) ?_
      obtain rfl := Option.some.inj hf
      exact x_iret C hr hlk dX3_positionOf_29
    · have hf := x_ine hc1 hf
      refine x_aload_n C 0 dX3_positionOf_10 rfl ?_
      refine x_get5 C kh i5 2 (by decide) (by decide +kernel) rfl rfl dX3_positionOf_11 ?_
      refine x_iload_n C 2 dX3_positionOf_14 rfl ?_
      obtain ⟨g2, hf⟩ := x_gd hf
      refine x_iald C (x5_k2 kh) (x5_l2 kh) g2 dX3_positionOf_15 ?_
      refine x_iload_n C 1 dX3_positionOf_16 rfl ?_
      refine x_icmp_ne C 22 dX3_positionOf_17 (by decide) (fun hc3 => ?_) (fun hc3 => ?_)
      · have hf := x_ine hc3 hf
        refine x_iinc (v := v2 + 1) (lv' := [(2, .int (v2 + 1)), (0, .ref (xad G h)), (1, .int v1)]) C 2 dX3_positionOf_22 rfl rfl (by decide) rfl ?_
        refine x_goto C 2 dX3_positionOf_25 (by decide) ?_
        refine x_sub [1, 2, 0] rfl ?_
        exact ih (v2 + 1) _ _ hf
      · have hf := x_ip hc3 hf
        refine x_iload_n C 2 dX3_positionOf_20 rfl ?_
        obtain rfl := Option.some.inj hf
        exact x_iret C hr hlk dX3_positionOf_21
set_option maxHeartbeats 4000000 in
set_option maxRecDepth 100000 in
theorem t_X3_positionOf {l : Launch} {G : xG} {ta : Nat × Nat} {M : xM} {h : Nat} {a1 : Int32} {out : Int32} (kh : xkd h = 5) (hf : f_X3_positionOf h a1 M = some out) : xMet G l yX3_positionOf wsX3_positionOf (rm_X3_positionOf 0 0) 0 0 ta M [.ref (xad G h), .int a1] (some (.int out)) M := by
  refine x_met (cc := cX3_positionOf) (nL := 3) (ret := some .int) (by decide) rfl (Nat.le_of_ble_eq_true rfl) ?_
  intro p e s m args below meth c C hr hlk
  have C : xC G p s m args c cX3_positionOf 3 wsX3_positionOf RX3 := C
  have i5 : ∀ w ∈ wsX30, w ∈ wsX3_positionOf := by decide +kernel
  unfold f_X3_positionOf at hf
  show xW G p l e (rm_X3_positionOf 0 0) s m args below meth c 3 (MQ below (xQr G (some (.int out)) M) args s 0 0 (xAs G)) 0 0 ta M 0 [(0, .ref (xad G h)), (1, .int a1)] []
  refine x_iconst (v := 0) C dX3_positionOf_0 (by decide) ?_
  refine x_istore_n (lv' := [(2, .int (0 : Int32)), (0, .ref (xad G h)), (1, .int a1)]) C dX3_positionOf_1 rfl (by decide) rfl ?_
  refine x_sub [1, 2, 0] rfl ?_
  exact t_X3_positionOf_L2 C hr hlk kh xF (0 : Int32) _ _ hf
/-! WaitingRoomSimulation$Hall.windowOf(I)I -/
abbrev rm_X3_windowOf (c s : Nat) : Room := { frames := 0, cells := c, slots := s, locals := 0 }
def f_X3_windowOf_L2 (h : Nat) (v1 : Int32) (M : xM) : Nat → Int32 → Option (Int32)
  | 0, _ => none
  | n+1, v2 => (if (3 : Int32) ≤ v2 then some (-1 : Int32) else if x_in v2 3 = true then if xkd (h + 3 + 15 + v2.toNatClampNeg) = 7 then (if (M.1 (h + 3 + 15 + v2.toNatClampNeg) 2) = v1 then some v2 else f_X3_windowOf_L2 h v1 M n (v2 + 1)) else none else none)
def f_X3_windowOf (h : Nat) (a1 : Int32) (M : xM) : Option (Int32) := f_X3_windowOf_L2 h a1 M xF (0 : Int32)
set_option maxHeartbeats 4000000 in
set_option maxRecDepth 100000 in
theorem t_X3_windowOf_L2 {G : xG} {p : Program} {l : Launch} {e : Env} {s : State} {m : MethodId} {args : Array Value} {below : List Frame} {meth : Method} {c : Code} (C : xC G p s m args c cX3_windowOf 3 wsX3_windowOf RX3) (hr : meth.sig.returnType = some .int) (hlk : meth.locks = false) {h : Nat} {v1 : Int32} {M : xM} (kh : xkd h = 5) : ∀ (n : Nat) (v2 : Int32) (ta : Nat × Nat) (out : Int32), f_X3_windowOf_L2 h v1 M n v2 = some out → xW G p l e (rm_X3_windowOf 0 0) s m args below meth c 3 (MQ below (xQr G (some (.int out)) M) args s 0 0 (xAs G)) 0 0 ta M 2 [(0, .ref (xad G h)), (1, .int v1), (2, .int v2)] [] := by
  intro n
  induction n with
  | zero =>
    intro v2 ta out hf
    rw [f_X3_windowOf_L2] at hf
    cases hf
  | succ n ih =>
    intro v2 ta out hf
    rw [f_X3_windowOf_L2] at hf
    have i5 : ∀ w ∈ wsX30, w ∈ wsX3_windowOf := by decide +kernel
    have i7 : ∀ w ∈ wsX50, w ∈ wsX3_windowOf := by decide +kernel
    refine x_iload_n C 2 dX3_windowOf_2 rfl ?_
    refine x_iconst (v := 3) C dX3_windowOf_3 (by decide) ?_
    refine x_icmp_ge C 28 dX3_windowOf_4 (by decide) (fun hc1 => ?_) (fun hc1 => ?_)
    · have hf := x_ip hc1 hf
      refine x_iconst (v := (-1)) C dX3_windowOf_28 (by decide) ?_
      obtain rfl := Option.some.inj hf
      exact x_iret C hr hlk dX3_windowOf_29
    · have hf := x_ine hc1 hf
      refine x_aload_n C 0 dX3_windowOf_7 rfl ?_
      refine x_get5 C kh i5 4 (by decide) (by decide +kernel) rfl rfl dX3_windowOf_8 ?_
      refine x_iload_n C 2 dX3_windowOf_11 rfl ?_
      obtain ⟨g2, hf⟩ := x_gd hf
      obtain ⟨g3, hf⟩ := x_gd hf
      refine x_aald25 C (x5_k3 kh) (x5_l3 kh) g2 dX3_windowOf_12 ?_
      refine x_get7 C g3 i7 2 (by decide) (by decide +kernel) rfl rfl dX3_windowOf_13 ?_
      refine x_iload_n C 1 dX3_windowOf_16 rfl ?_
      refine x_icmp_ne C 22 dX3_windowOf_17 (by decide) (fun hc4 => ?_) (fun hc4 => ?_)
      · have hf := x_ine hc4 hf
        refine x_iinc (v := v2 + 1) (lv' := [(2, .int (v2 + 1)), (0, .ref (xad G h)), (1, .int v1)]) C 2 dX3_windowOf_22 rfl rfl (by decide) rfl ?_
        refine x_goto C 2 dX3_windowOf_25 (by decide) ?_
        refine x_sub [1, 2, 0] rfl ?_
        exact ih (v2 + 1) _ _ hf
      · have hf := x_ip hc4 hf
        refine x_iload_n C 2 dX3_windowOf_20 rfl ?_
        obtain rfl := Option.some.inj hf
        exact x_iret C hr hlk dX3_windowOf_21
set_option maxHeartbeats 4000000 in
set_option maxRecDepth 100000 in
theorem t_X3_windowOf {l : Launch} {G : xG} {ta : Nat × Nat} {M : xM} {h : Nat} {a1 : Int32} {out : Int32} (kh : xkd h = 5) (hf : f_X3_windowOf h a1 M = some out) : xMet G l yX3_windowOf wsX3_windowOf (rm_X3_windowOf 0 0) 0 0 ta M [.ref (xad G h), .int a1] (some (.int out)) M := by
  refine x_met (cc := cX3_windowOf) (nL := 3) (ret := some .int) (by decide) rfl (Nat.le_of_ble_eq_true rfl) ?_
  intro p e s m args below meth c C hr hlk
  have C : xC G p s m args c cX3_windowOf 3 wsX3_windowOf RX3 := C
  have i5 : ∀ w ∈ wsX30, w ∈ wsX3_windowOf := by decide +kernel
  have i7 : ∀ w ∈ wsX50, w ∈ wsX3_windowOf := by decide +kernel
  unfold f_X3_windowOf at hf
  show xW G p l e (rm_X3_windowOf 0 0) s m args below meth c 3 (MQ below (xQr G (some (.int out)) M) args s 0 0 (xAs G)) 0 0 ta M 0 [(0, .ref (xad G h)), (1, .int a1)] []
  refine x_iconst (v := 0) C dX3_windowOf_0 (by decide) ?_
  refine x_istore_n (lv' := [(2, .int (0 : Int32)), (0, .ref (xad G h)), (1, .int a1)]) C dX3_windowOf_1 rfl (by decide) rfl ?_
  refine x_sub [1, 2, 0] rfl ?_
  exact t_X3_windowOf_L2 C hr hlk kh xF (0 : Int32) _ _ hf
/-! WaitingRoomSimulation$Hall.ticketAt(I)I -/
abbrev rm_X3_ticketAt (c s : Nat) : Room := { frames := 0, cells := c, slots := s, locals := 0 }
def f_X3_ticketAt (h : Nat) (a1 : Int32) (M : xM) : Option (Int32) := if x_in a1 12 = true then if x_in (M.1 (h + 2) a1.toNatClampNeg) 12 = true then if xkd (M.2.1 (h + 1) (M.1 (h + 2) a1.toNatClampNeg).toNatClampNeg) = 4 then some (M.1 (M.2.1 (h + 1) (M.1 (h + 2) a1.toNatClampNeg).toNatClampNeg) 0) else none else none else none
set_option maxHeartbeats 4000000 in
set_option maxRecDepth 100000 in
theorem t_X3_ticketAt {l : Launch} {G : xG} {ta : Nat × Nat} {M : xM} {h : Nat} {a1 : Int32} {out : Int32} (kh : xkd h = 5) (hf : f_X3_ticketAt h a1 M = some out) : xMet G l yX3_ticketAt wsX3_ticketAt (rm_X3_ticketAt 0 0) 0 0 ta M [.ref (xad G h), .int a1] (some (.int out)) M := by
  refine x_met (cc := cX3_ticketAt) (nL := 2) (ret := some .int) (by decide) rfl (Nat.le_of_ble_eq_true rfl) ?_
  intro p e s m args below meth c C hr hlk
  have C : xC G p s m args c cX3_ticketAt 2 wsX3_ticketAt RX3 := C
  have i4 : ∀ w ∈ wsX20, w ∈ wsX3_ticketAt := by decide +kernel
  have i5 : ∀ w ∈ wsX30, w ∈ wsX3_ticketAt := by decide +kernel
  unfold f_X3_ticketAt at hf
  show xW G p l e (rm_X3_ticketAt 0 0) s m args below meth c 2 (MQ below (xQr G (some (.int out)) M) args s 0 0 (xAs G)) 0 0 ta M 0 [(0, .ref (xad G h)), (1, .int a1)] []
  refine x_aload_n C 0 dX3_ticketAt_0 rfl ?_
  refine x_get5 C kh i5 0 (by decide) (by decide +kernel) rfl rfl dX3_ticketAt_1 ?_
  refine x_aload_n C 0 dX3_ticketAt_4 rfl ?_
  refine x_get5 C kh i5 2 (by decide) (by decide +kernel) rfl rfl dX3_ticketAt_5 ?_
  refine x_iload_n C 1 dX3_ticketAt_8 rfl ?_
  obtain ⟨g1, hf⟩ := x_gd hf
  refine x_iald C (x5_k2 kh) (x5_l2 kh) g1 dX3_ticketAt_9 ?_
  obtain ⟨g2, hf⟩ := x_gd hf
  obtain ⟨g3, hf⟩ := x_gd hf
  refine x_aald23 C (x5_k1 kh) (x5_l1 kh) g2 dX3_ticketAt_10 ?_
  refine x_get4 C g3 i4 0 (by decide) (by decide +kernel) rfl rfl dX3_ticketAt_11 ?_
  obtain rfl := Option.some.inj hf
  exact x_iret C hr hlk dX3_ticketAt_14
/-! WaitingRoomSimulation$Hall.customerWithTicket(I)I -/
abbrev rm_X3_customerWithTicket (c s : Nat) : Room := { frames := 0, cells := c, slots := s, locals := 0 }
def f_X3_customerWithTicket_L2 (h : Nat) (v1 : Int32) (M : xM) : Nat → Int32 → Option (Int32)
  | 0, _ => none
  | n+1, v2 => (if (M.1 h 1) ≤ v2 then some (-1 : Int32) else if x_in v2 12 = true then if xkd (M.2.1 (h + 1) v2.toNatClampNeg) = 4 then (if (M.1 (M.2.1 (h + 1) v2.toNatClampNeg) 0) = v1 then some v2 else f_X3_customerWithTicket_L2 h v1 M n (v2 + 1)) else none else none)
def f_X3_customerWithTicket (h : Nat) (a1 : Int32) (M : xM) : Option (Int32) := f_X3_customerWithTicket_L2 h a1 M xF (0 : Int32)
set_option maxHeartbeats 4000000 in
set_option maxRecDepth 100000 in
theorem t_X3_customerWithTicket_L2 {G : xG} {p : Program} {l : Launch} {e : Env} {s : State} {m : MethodId} {args : Array Value} {below : List Frame} {meth : Method} {c : Code} (C : xC G p s m args c cX3_customerWithTicket 3 wsX3_customerWithTicket RX3) (hr : meth.sig.returnType = some .int) (hlk : meth.locks = false) {h : Nat} {v1 : Int32} {M : xM} (kh : xkd h = 5) : ∀ (n : Nat) (v2 : Int32) (ta : Nat × Nat) (out : Int32), f_X3_customerWithTicket_L2 h v1 M n v2 = some out → xW G p l e (rm_X3_customerWithTicket 0 0) s m args below meth c 3 (MQ below (xQr G (some (.int out)) M) args s 0 0 (xAs G)) 0 0 ta M 2 [(0, .ref (xad G h)), (1, .int v1), (2, .int v2)] [] := by
  intro n
  induction n with
  | zero =>
    intro v2 ta out hf
    rw [f_X3_customerWithTicket_L2] at hf
    cases hf
  | succ n ih =>
    intro v2 ta out hf
    rw [f_X3_customerWithTicket_L2] at hf
    have i4 : ∀ w ∈ wsX20, w ∈ wsX3_customerWithTicket := by decide +kernel
    have i5 : ∀ w ∈ wsX30, w ∈ wsX3_customerWithTicket := by decide +kernel
    refine x_iload_n C 2 dX3_customerWithTicket_2 rfl ?_
    refine x_aload_n C 0 dX3_customerWithTicket_3 rfl ?_
    refine x_get5 C kh i5 1 (by decide) (by decide +kernel) rfl rfl dX3_customerWithTicket_4 ?_
    refine x_icmp_ge C 31 dX3_customerWithTicket_7 (by decide) (fun hc1 => ?_) (fun hc1 => ?_)
    · have hf := x_ip hc1 hf
      refine x_iconst (v := (-1)) C dX3_customerWithTicket_31 (by decide) ?_
      obtain rfl := Option.some.inj hf
      exact x_iret C hr hlk dX3_customerWithTicket_32
    · have hf := x_ine hc1 hf
      refine x_aload_n C 0 dX3_customerWithTicket_10 rfl ?_
      refine x_get5 C kh i5 0 (by decide) (by decide +kernel) rfl rfl dX3_customerWithTicket_11 ?_
      refine x_iload_n C 2 dX3_customerWithTicket_14 rfl ?_
      obtain ⟨g2, hf⟩ := x_gd hf
      obtain ⟨g3, hf⟩ := x_gd hf
      refine x_aald23 C (x5_k1 kh) (x5_l1 kh) g2 dX3_customerWithTicket_15 ?_
      refine x_get4 C g3 i4 0 (by decide) (by decide +kernel) rfl rfl dX3_customerWithTicket_16 ?_
      refine x_iload_n C 1 dX3_customerWithTicket_19 rfl ?_
      refine x_icmp_ne C 25 dX3_customerWithTicket_20 (by decide) (fun hc4 => ?_) (fun hc4 => ?_)
      · have hf := x_ine hc4 hf
        refine x_iinc (v := v2 + 1) (lv' := [(2, .int (v2 + 1)), (0, .ref (xad G h)), (1, .int v1)]) C 2 dX3_customerWithTicket_25 rfl rfl (by decide) rfl ?_
        refine x_goto C 2 dX3_customerWithTicket_28 (by decide) ?_
        refine x_sub [1, 2, 0] rfl ?_
        exact ih (v2 + 1) _ _ hf
      · have hf := x_ip hc4 hf
        refine x_iload_n C 2 dX3_customerWithTicket_23 rfl ?_
        obtain rfl := Option.some.inj hf
        exact x_iret C hr hlk dX3_customerWithTicket_24
set_option maxHeartbeats 4000000 in
set_option maxRecDepth 100000 in
theorem t_X3_customerWithTicket {l : Launch} {G : xG} {ta : Nat × Nat} {M : xM} {h : Nat} {a1 : Int32} {out : Int32} (kh : xkd h = 5) (hf : f_X3_customerWithTicket h a1 M = some out) : xMet G l yX3_customerWithTicket wsX3_customerWithTicket (rm_X3_customerWithTicket 0 0) 0 0 ta M [.ref (xad G h), .int a1] (some (.int out)) M := by
  refine x_met (cc := cX3_customerWithTicket) (nL := 3) (ret := some .int) (by decide) rfl (Nat.le_of_ble_eq_true rfl) ?_
  intro p e s m args below meth c C hr hlk
  have C : xC G p s m args c cX3_customerWithTicket 3 wsX3_customerWithTicket RX3 := C
  have i4 : ∀ w ∈ wsX20, w ∈ wsX3_customerWithTicket := by decide +kernel
  have i5 : ∀ w ∈ wsX30, w ∈ wsX3_customerWithTicket := by decide +kernel
  unfold f_X3_customerWithTicket at hf
  show xW G p l e (rm_X3_customerWithTicket 0 0) s m args below meth c 3 (MQ below (xQr G (some (.int out)) M) args s 0 0 (xAs G)) 0 0 ta M 0 [(0, .ref (xad G h)), (1, .int a1)] []
  refine x_iconst (v := 0) C dX3_customerWithTicket_0 (by decide) ?_
  refine x_istore_n (lv' := [(2, .int (0 : Int32)), (0, .ref (xad G h)), (1, .int a1)]) C dX3_customerWithTicket_1 rfl (by decide) rfl ?_
  refine x_sub [1, 2, 0] rfl ?_
  exact t_X3_customerWithTicket_L2 C hr hlk kh xF (0 : Int32) _ _ hf
/-! WaitingRoomSimulation$Hall.rankBySighs(I)I -/
abbrev rm_X3_rankBySighs (c s : Nat) : Room := { frames := 1, cells := c, slots := s, locals := 21 }
def f_X3_rankBySighs_L4 (h : Nat) (v1 : Int32) (M : xM) : Nat → Int32 → Int32 → Option (Int32)
  | 0, _, _ => none
  | n+1, v2, v3 => (if (M.1 h 1) ≤ v3 then some v2 else if x_in v1 12 = true then if xkd (M.2.1 (h + 1) v1.toNatClampNeg) = 4 then if x_in v3 12 = true then if xkd (M.2.1 (h + 1) v3.toNatClampNeg) = 4 then (f_X2_sighsBefore (M.2.1 (h + 1) v1.toNatClampNeg) (M.2.1 (h + 1) v3.toNatClampNeg) M).bind fun q6 => (if q6 = 0 then if x_in v3 12 = true then if xkd (M.2.1 (h + 1) v3.toNatClampNeg) = 4 then if x_in v1 12 = true then if xkd (M.2.1 (h + 1) v1.toNatClampNeg) = 4 then (f_X2_sighsBefore (M.2.1 (h + 1) v3.toNatClampNeg) (M.2.1 (h + 1) v1.toNatClampNeg) M).bind fun q22 => (if q22 = 0 then (if (1 : Int32) = 0 then f_X3_rankBySighs_L4 h v1 M n v2 (v3 + 1) else (if v1 ≤ v3 then f_X3_rankBySighs_L4 h v1 M n v2 (v3 + 1) else f_X3_rankBySighs_L4 h v1 M n (v2 + 1) (v3 + 1))) else f_X3_rankBySighs_L4 h v1 M n (v2 + 1) (v3 + 1)) else none else none else none else none else if x_in v3 12 = true then if xkd (M.2.1 (h + 1) v3.toNatClampNeg) = 4 then if x_in v1 12 = true then if xkd (M.2.1 (h + 1) v1.toNatClampNeg) = 4 then (f_X2_sighsBefore (M.2.1 (h + 1) v3.toNatClampNeg) (M.2.1 (h + 1) v1.toNatClampNeg) M).bind fun q13 => (if q13 = 0 then (if (0 : Int32) = 0 then f_X3_rankBySighs_L4 h v1 M n v2 (v3 + 1) else (if v1 ≤ v3 then f_X3_rankBySighs_L4 h v1 M n v2 (v3 + 1) else f_X3_rankBySighs_L4 h v1 M n (v2 + 1) (v3 + 1))) else f_X3_rankBySighs_L4 h v1 M n (v2 + 1) (v3 + 1)) else none else none else none else none) else none else none else none else none)
def f_X3_rankBySighs (h : Nat) (a1 : Int32) (M : xM) : Option (Int32) := f_X3_rankBySighs_L4 h a1 M xF (0 : Int32) (0 : Int32)
set_option maxHeartbeats 4000000 in
set_option maxRecDepth 100000 in
theorem t_X3_rankBySighs_L4 {G : xG} {p : Program} {l : Launch} {e : Env} {s : State} {m : MethodId} {args : Array Value} {below : List Frame} {meth : Method} {c : Code} (C : xC G p s m args c cX3_rankBySighs 5 wsX3_rankBySighs RX3) (hr : meth.sig.returnType = some .int) (hlk : meth.locks = false) {h : Nat} {v1 : Int32} {M : xM} (kh : xkd h = 5) : ∀ (n : Nat) (v2 : Int32) (v3 : Int32) (ta : Nat × Nat) (out : Int32), f_X3_rankBySighs_L4 h v1 M n v2 v3 = some out → xW G p l e (rm_X3_rankBySighs 0 0) s m args below meth c 5 (MQ below (xQr G (some (.int out)) M) args s 0 0 (xAs G)) 0 0 ta M 4 [(0, .ref (xad G h)), (1, .int v1), (2, .int v2), (3, .int v3)] [] := by
  intro n
  induction n with
  | zero =>
    intro v2 v3 ta out hf
    rw [f_X3_rankBySighs_L4] at hf
    cases hf
  | succ n ih =>
    intro v2 v3 ta out hf
    rw [f_X3_rankBySighs_L4] at hf
    have i5 : ∀ w ∈ wsX30, w ∈ wsX3_rankBySighs := by decide +kernel
    refine x_iload_n C 3 dX3_rankBySighs_4 rfl ?_
    refine x_aload_n C 0 dX3_rankBySighs_5 rfl ?_
    refine x_get5 C kh i5 1 (by decide) (by decide +kernel) rfl rfl dX3_rankBySighs_6 ?_
    refine x_icmp_ge C 74 dX3_rankBySighs_9 (by decide) (fun hc1 => ?_) (fun hc1 => ?_)
    · have hf := x_ip hc1 hf
      refine x_iload_n C 2 dX3_rankBySighs_74 rfl ?_
      obtain rfl := Option.some.inj hf
      exact x_iret C hr hlk dX3_rankBySighs_75
    · have hf := x_ine hc1 hf
      refine x_aload_n C 0 dX3_rankBySighs_12 rfl ?_
      refine x_get5 C kh i5 0 (by decide) (by decide +kernel) rfl rfl dX3_rankBySighs_13 ?_
      refine x_iload_n C 1 dX3_rankBySighs_16 rfl ?_
      obtain ⟨g2, hf⟩ := x_gd hf
      obtain ⟨g3, hf⟩ := x_gd hf
      refine x_aald23 C (x5_k1 kh) (x5_l1 kh) g2 dX3_rankBySighs_17 ?_
      refine x_aload_n C 0 dX3_rankBySighs_18 rfl ?_
      refine x_get5 C kh i5 0 (by decide) (by decide +kernel) rfl rfl dX3_rankBySighs_19 ?_
      refine x_iload_n C 3 dX3_rankBySighs_22 rfl ?_
      obtain ⟨g4, hf⟩ := x_gd hf
      obtain ⟨g5, hf⟩ := x_gd hf
      refine x_aald23 C (x5_k1 kh) (x5_l1 kh) g4 dX3_rankBySighs_23 ?_
      obtain ⟨q6, hg, hf⟩ := x_bd hf
      refine x_callVr C (by rw [g3]; decide) (by rw [g3]; decide) (xc4 g3) rfl (t_X2_sighsBefore g3 g5 hg) (cwV 1 C.1.2.2.2.2 gX3_rankBySighs_X2_sighsBefore rfl rfl rfl (by decide +kernel) ⟨Nat.le_of_ble_eq_true rfl, Nat.le_of_ble_eq_true rfl⟩) rfl rfl (Nat.le_of_ble_eq_true rfl) dX3_rankBySighs_24 ⟨Nat.zero_le _, Nat.zero_le _⟩ (fun ta7 => ?_)
      clear hg
      refine x_if_ne C 34 dX3_rankBySighs_27 (by decide) (fun hc8 => ?_) (fun hc8 => ?_)
      · have hf := x_ine hc8 hf
        refine x_iconst (v := 0) C dX3_rankBySighs_34 (by decide) ?_
        refine x_istore (lv' := [(4, .int (0 : Int32)), (0, .ref (xad G h)), (1, .int v1), (2, .int v2), (3, .int v3)]) C dX3_rankBySighs_35 (by decide) rfl ?_
        refine x_aload_n C 1 dX3_rankBySighs_37 rfl ?_
        refine x_get5 C kh i5 0 (by decide) (by decide +kernel) rfl rfl dX3_rankBySighs_38 ?_
        refine x_iload_n C 4 dX3_rankBySighs_41 rfl ?_
        obtain ⟨g9, hf⟩ := x_gd hf
        obtain ⟨g10, hf⟩ := x_gd hf
        refine x_aald23 C (x5_k1 kh) (x5_l1 kh) g9 dX3_rankBySighs_42 ?_
        refine x_aload_n C 1 dX3_rankBySighs_43 rfl ?_
        refine x_get5 C kh i5 0 (by decide) (by decide +kernel) rfl rfl dX3_rankBySighs_44 ?_
        refine x_iload_n C 2 dX3_rankBySighs_47 rfl ?_
        obtain ⟨g11, hf⟩ := x_gd hf
        obtain ⟨g12, hf⟩ := x_gd hf
        refine x_aald23 C (x5_k1 kh) (x5_l1 kh) g11 dX3_rankBySighs_48 ?_
        obtain ⟨q13, hg, hf⟩ := x_bd hf
        refine x_callVr C (by rw [g10]; decide) (by rw [g10]; decide) (xc4 g10) rfl (t_X2_sighsBefore g10 g12 hg) (cwV 1 C.1.2.2.2.2 gX3_rankBySighs_X2_sighsBefore rfl rfl rfl (by decide +kernel) ⟨Nat.le_of_ble_eq_true rfl, Nat.le_of_ble_eq_true rfl⟩) rfl rfl (Nat.le_of_ble_eq_true rfl) dX3_rankBySighs_49 ⟨Nat.zero_le _, Nat.zero_le _⟩ (fun ta14 => ?_)
        clear hg
        refine x_if_ne C 65 dX3_rankBySighs_52 (by decide) (fun hc15 => ?_) (fun hc15 => ?_)
        · have hf := x_ine hc15 hf
          refine x_iinc (v := v2 + 1) (lv' := [(2, .int (v2 + 1)), (4, .int (0 : Int32)), (0, .ref (xad G h)), (1, .int v1), (3, .int v3)]) C 3 dX3_rankBySighs_65 rfl rfl (by decide) rfl ?_
          refine x_iinc (v := v3 + 1) (lv' := [(3, .int (v3 + 1)), (2, .int (v2 + 1)), (4, .int (0 : Int32)), (0, .ref (xad G h)), (1, .int v1)]) C 4 dX3_rankBySighs_68 rfl rfl (by decide) rfl ?_
          refine x_goto C 4 dX3_rankBySighs_71 (by decide) ?_
          refine x_sub [3, 4, 1, 0] rfl ?_
          exact ih (v2 + 1) (v3 + 1) _ _ hf
        · have hf := x_ip hc15 hf
          refine x_iload C 0 dX3_rankBySighs_55 rfl ?_
          refine x_if_eq C 68 dX3_rankBySighs_57 (by decide) (fun hc16 => ?_) (fun hc16 => ?_)
          · have hf := x_ip hc16 hf
            refine x_iinc (v := v3 + 1) (lv' := [(3, .int (v3 + 1)), (4, .int (0 : Int32)), (0, .ref (xad G h)), (1, .int v1), (2, .int v2)]) C 4 dX3_rankBySighs_68 rfl rfl (by decide) rfl ?_
            refine x_goto C 4 dX3_rankBySighs_71 (by decide) ?_
            refine x_sub [2, 3, 4, 0] rfl ?_
            exact ih v2 (v3 + 1) _ _ hf
          · have hf := x_ine hc16 hf
            refine x_iload_n C 4 dX3_rankBySighs_60 rfl ?_
            refine x_iload_n C 2 dX3_rankBySighs_61 rfl ?_
            refine x_icmp_ge C 68 dX3_rankBySighs_62 (by decide) (fun hc17 => ?_) (fun hc17 => ?_)
            · have hf := x_ip hc17 hf
              refine x_iinc (v := v3 + 1) (lv' := [(3, .int (v3 + 1)), (4, .int (0 : Int32)), (0, .ref (xad G h)), (1, .int v1), (2, .int v2)]) C 4 dX3_rankBySighs_68 rfl rfl (by decide) rfl ?_
              refine x_goto C 4 dX3_rankBySighs_71 (by decide) ?_
              refine x_sub [2, 3, 4, 0] rfl ?_
              exact ih v2 (v3 + 1) _ _ hf
            · have hf := x_ine hc17 hf
              refine x_iinc (v := v2 + 1) (lv' := [(2, .int (v2 + 1)), (4, .int (0 : Int32)), (0, .ref (xad G h)), (1, .int v1), (3, .int v3)]) C 3 dX3_rankBySighs_65 rfl rfl (by decide) rfl ?_
              refine x_iinc (v := v3 + 1) (lv' := [(3, .int (v3 + 1)), (2, .int (v2 + 1)), (4, .int (0 : Int32)), (0, .ref (xad G h)), (1, .int v1)]) C 4 dX3_rankBySighs_68 rfl rfl (by decide) rfl ?_
              refine x_goto C 4 dX3_rankBySighs_71 (by decide) ?_
              refine x_sub [3, 4, 1, 0] rfl ?_
              exact ih (v2 + 1) (v3 + 1) _ _ hf
      · have hf := x_ip hc8 hf
        refine x_iconst (v := 1) C dX3_rankBySighs_30 (by decide) ?_
        refine x_goto C 35 dX3_rankBySighs_31 (by decide) ?_
        refine x_istore (lv' := [(4, .int (1 : Int32)), (0, .ref (xad G h)), (1, .int v1), (2, .int v2), (3, .int v3)]) C dX3_rankBySighs_35 (by decide) rfl ?_
        refine x_aload_n C 1 dX3_rankBySighs_37 rfl ?_
        refine x_get5 C kh i5 0 (by decide) (by decide +kernel) rfl rfl dX3_rankBySighs_38 ?_
        refine x_iload_n C 4 dX3_rankBySighs_41 rfl ?_
        obtain ⟨g18, hf⟩ := x_gd hf
        obtain ⟨g19, hf⟩ := x_gd hf
        refine x_aald23 C (x5_k1 kh) (x5_l1 kh) g18 dX3_rankBySighs_42 ?_
        refine x_aload_n C 1 dX3_rankBySighs_43 rfl ?_
        refine x_get5 C kh i5 0 (by decide) (by decide +kernel) rfl rfl dX3_rankBySighs_44 ?_
        refine x_iload_n C 2 dX3_rankBySighs_47 rfl ?_
        obtain ⟨g20, hf⟩ := x_gd hf
        obtain ⟨g21, hf⟩ := x_gd hf
        refine x_aald23 C (x5_k1 kh) (x5_l1 kh) g20 dX3_rankBySighs_48 ?_
        obtain ⟨q22, hg, hf⟩ := x_bd hf
        refine x_callVr C (by rw [g19]; decide) (by rw [g19]; decide) (xc4 g19) rfl (t_X2_sighsBefore g19 g21 hg) (cwV 1 C.1.2.2.2.2 gX3_rankBySighs_X2_sighsBefore rfl rfl rfl (by decide +kernel) ⟨Nat.le_of_ble_eq_true rfl, Nat.le_of_ble_eq_true rfl⟩) rfl rfl (Nat.le_of_ble_eq_true rfl) dX3_rankBySighs_49 ⟨Nat.zero_le _, Nat.zero_le _⟩ (fun ta23 => ?_)
        clear hg
        refine x_if_ne C 65 dX3_rankBySighs_52 (by decide) (fun hc24 => ?_) (fun hc24 => ?_)
        · have hf := x_ine hc24 hf
          refine x_iinc (v := v2 + 1) (lv' := [(2, .int (v2 + 1)), (4, .int (1 : Int32)), (0, .ref (xad G h)), (1, .int v1), (3, .int v3)]) C 3 dX3_rankBySighs_65 rfl rfl (by decide) rfl ?_
          refine x_iinc (v := v3 + 1) (lv' := [(3, .int (v3 + 1)), (2, .int (v2 + 1)), (4, .int (1 : Int32)), (0, .ref (xad G h)), (1, .int v1)]) C 4 dX3_rankBySighs_68 rfl rfl (by decide) rfl ?_
          refine x_goto C 4 dX3_rankBySighs_71 (by decide) ?_
          refine x_sub [3, 4, 1, 0] rfl ?_
          exact ih (v2 + 1) (v3 + 1) _ _ hf
        · have hf := x_ip hc24 hf
          refine x_iload C 0 dX3_rankBySighs_55 rfl ?_
          refine x_if_eq C 68 dX3_rankBySighs_57 (by decide) (fun hc25 => ?_) (fun hc25 => ?_)
          · have hf := x_ip hc25 hf
            refine x_iinc (v := v3 + 1) (lv' := [(3, .int (v3 + 1)), (4, .int (1 : Int32)), (0, .ref (xad G h)), (1, .int v1), (2, .int v2)]) C 4 dX3_rankBySighs_68 rfl rfl (by decide) rfl ?_
            refine x_goto C 4 dX3_rankBySighs_71 (by decide) ?_
            refine x_sub [2, 3, 4, 0] rfl ?_
            exact ih v2 (v3 + 1) _ _ hf
          · have hf := x_ine hc25 hf
            refine x_iload_n C 4 dX3_rankBySighs_60 rfl ?_
            refine x_iload_n C 2 dX3_rankBySighs_61 rfl ?_
            refine x_icmp_ge C 68 dX3_rankBySighs_62 (by decide) (fun hc26 => ?_) (fun hc26 => ?_)
            · have hf := x_ip hc26 hf
              refine x_iinc (v := v3 + 1) (lv' := [(3, .int (v3 + 1)), (4, .int (1 : Int32)), (0, .ref (xad G h)), (1, .int v1), (2, .int v2)]) C 4 dX3_rankBySighs_68 rfl rfl (by decide) rfl ?_
              refine x_goto C 4 dX3_rankBySighs_71 (by decide) ?_
              refine x_sub [2, 3, 4, 0] rfl ?_
              exact ih v2 (v3 + 1) _ _ hf
            · have hf := x_ine hc26 hf
              refine x_iinc (v := v2 + 1) (lv' := [(2, .int (v2 + 1)), (4, .int (1 : Int32)), (0, .ref (xad G h)), (1, .int v1), (3, .int v3)]) C 3 dX3_rankBySighs_65 rfl rfl (by decide) rfl ?_
              refine x_iinc (v := v3 + 1) (lv' := [(3, .int (v3 + 1)), (2, .int (v2 + 1)), (4, .int (1 : Int32)), (0, .ref (xad G h)), (1, .int v1)]) C 4 dX3_rankBySighs_68 rfl rfl (by decide) rfl ?_
              refine x_goto C 4 dX3_rankBySighs_71 (by decide) ?_
              refine x_sub [3, 4, 1, 0] rfl ?_
              exact ih (v2 + 1) (v3 + 1) _ _ hf
set_option maxHeartbeats 4000000 in
set_option maxRecDepth 100000 in
theorem t_X3_rankBySighs {l : Launch} {G : xG} {ta : Nat × Nat} {M : xM} {h : Nat} {a1 : Int32} {out : Int32} (kh : xkd h = 5) (hf : f_X3_rankBySighs h a1 M = some out) : xMet G l yX3_rankBySighs wsX3_rankBySighs (rm_X3_rankBySighs 0 0) 0 0 ta M [.ref (xad G h), .int a1] (some (.int out)) M := by
  refine x_met (cc := cX3_rankBySighs) (nL := 5) (ret := some .int) (by decide) rfl (Nat.le_of_ble_eq_true rfl) ?_
  intro p e s m args below meth c C hr hlk
  have C : xC G p s m args c cX3_rankBySighs 5 wsX3_rankBySighs RX3 := C
  have i5 : ∀ w ∈ wsX30, w ∈ wsX3_rankBySighs := by decide +kernel
  unfold f_X3_rankBySighs at hf
  show xW G p l e (rm_X3_rankBySighs 0 0) s m args below meth c 5 (MQ below (xQr G (some (.int out)) M) args s 0 0 (xAs G)) 0 0 ta M 0 [(0, .ref (xad G h)), (1, .int a1)] []
  refine x_iconst (v := 0) C dX3_rankBySighs_0 (by decide) ?_
  refine x_istore_n (lv' := [(2, .int (0 : Int32)), (0, .ref (xad G h)), (1, .int a1)]) C dX3_rankBySighs_1 rfl (by decide) rfl ?_
  refine x_iconst (v := 0) C dX3_rankBySighs_2 (by decide) ?_
  refine x_istore_n (lv' := [(3, .int (0 : Int32)), (2, .int (0 : Int32)), (0, .ref (xad G h)), (1, .int a1)]) C dX3_rankBySighs_3 rfl (by decide) rfl ?_
  refine x_sub [2, 3, 1, 0] rfl ?_
  exact t_X3_rankBySighs_L4 C hr hlk kh xF (0 : Int32) (0 : Int32) _ _ hf
/-! WaitingRoomSimulation$Hall.rankByWaitingTime(I)I -/
abbrev rm_X3_rankByWaitingTime (c s : Nat) : Room := { frames := 1, cells := c, slots := s, locals := 21 }
def f_X3_rankByWaitingTime_L4 (h : Nat) (v1 : Int32) (M : xM) : Nat → Int32 → Int32 → Option (Int32)
  | 0, _, _ => none
  | n+1, v2, v3 => (if (M.1 h 1) ≤ v3 then some v2 else if x_in v1 12 = true then if xkd (M.2.1 (h + 1) v1.toNatClampNeg) = 4 then if x_in v3 12 = true then if xkd (M.2.1 (h + 1) v3.toNatClampNeg) = 4 then (f_X2_waitsBefore (M.2.1 (h + 1) v1.toNatClampNeg) (M.2.1 (h + 1) v3.toNatClampNeg) M).bind fun q6 => (if q6 = 0 then if x_in v3 12 = true then if xkd (M.2.1 (h + 1) v3.toNatClampNeg) = 4 then if x_in v1 12 = true then if xkd (M.2.1 (h + 1) v1.toNatClampNeg) = 4 then (f_X2_waitsBefore (M.2.1 (h + 1) v3.toNatClampNeg) (M.2.1 (h + 1) v1.toNatClampNeg) M).bind fun q22 => (if q22 = 0 then (if (1 : Int32) = 0 then f_X3_rankByWaitingTime_L4 h v1 M n v2 (v3 + 1) else (if v1 ≤ v3 then f_X3_rankByWaitingTime_L4 h v1 M n v2 (v3 + 1) else f_X3_rankByWaitingTime_L4 h v1 M n (v2 + 1) (v3 + 1))) else f_X3_rankByWaitingTime_L4 h v1 M n (v2 + 1) (v3 + 1)) else none else none else none else none else if x_in v3 12 = true then if xkd (M.2.1 (h + 1) v3.toNatClampNeg) = 4 then if x_in v1 12 = true then if xkd (M.2.1 (h + 1) v1.toNatClampNeg) = 4 then (f_X2_waitsBefore (M.2.1 (h + 1) v3.toNatClampNeg) (M.2.1 (h + 1) v1.toNatClampNeg) M).bind fun q13 => (if q13 = 0 then (if (0 : Int32) = 0 then f_X3_rankByWaitingTime_L4 h v1 M n v2 (v3 + 1) else (if v1 ≤ v3 then f_X3_rankByWaitingTime_L4 h v1 M n v2 (v3 + 1) else f_X3_rankByWaitingTime_L4 h v1 M n (v2 + 1) (v3 + 1))) else f_X3_rankByWaitingTime_L4 h v1 M n (v2 + 1) (v3 + 1)) else none else none else none else none) else none else none else none else none)
def f_X3_rankByWaitingTime (h : Nat) (a1 : Int32) (M : xM) : Option (Int32) := f_X3_rankByWaitingTime_L4 h a1 M xF (0 : Int32) (0 : Int32)
set_option maxHeartbeats 4000000 in
set_option maxRecDepth 100000 in
theorem t_X3_rankByWaitingTime_L4 {G : xG} {p : Program} {l : Launch} {e : Env} {s : State} {m : MethodId} {args : Array Value} {below : List Frame} {meth : Method} {c : Code} (C : xC G p s m args c cX3_rankByWaitingTime 5 wsX3_rankByWaitingTime RX3) (hr : meth.sig.returnType = some .int) (hlk : meth.locks = false) {h : Nat} {v1 : Int32} {M : xM} (kh : xkd h = 5) : ∀ (n : Nat) (v2 : Int32) (v3 : Int32) (ta : Nat × Nat) (out : Int32), f_X3_rankByWaitingTime_L4 h v1 M n v2 v3 = some out → xW G p l e (rm_X3_rankByWaitingTime 0 0) s m args below meth c 5 (MQ below (xQr G (some (.int out)) M) args s 0 0 (xAs G)) 0 0 ta M 4 [(0, .ref (xad G h)), (1, .int v1), (2, .int v2), (3, .int v3)] [] := by
  intro n
  induction n with
  | zero =>
    intro v2 v3 ta out hf
    rw [f_X3_rankByWaitingTime_L4] at hf
    cases hf
  | succ n ih =>
    intro v2 v3 ta out hf
    rw [f_X3_rankByWaitingTime_L4] at hf
    have i5 : ∀ w ∈ wsX30, w ∈ wsX3_rankByWaitingTime := by decide +kernel
    refine x_iload_n C 3 dX3_rankByWaitingTime_4 rfl ?_
    refine x_aload_n C 0 dX3_rankByWaitingTime_5 rfl ?_
    refine x_get5 C kh i5 1 (by decide) (by decide +kernel) rfl rfl dX3_rankByWaitingTime_6 ?_
    refine x_icmp_ge C 74 dX3_rankByWaitingTime_9 (by decide) (fun hc1 => ?_) (fun hc1 => ?_)
    · have hf := x_ip hc1 hf
      refine x_iload_n C 2 dX3_rankByWaitingTime_74 rfl ?_
      obtain rfl := Option.some.inj hf
      exact x_iret C hr hlk dX3_rankByWaitingTime_75
    · have hf := x_ine hc1 hf
      refine x_aload_n C 0 dX3_rankByWaitingTime_12 rfl ?_
      refine x_get5 C kh i5 0 (by decide) (by decide +kernel) rfl rfl dX3_rankByWaitingTime_13 ?_
      refine x_iload_n C 1 dX3_rankByWaitingTime_16 rfl ?_
      obtain ⟨g2, hf⟩ := x_gd hf
      obtain ⟨g3, hf⟩ := x_gd hf
      refine x_aald23 C (x5_k1 kh) (x5_l1 kh) g2 dX3_rankByWaitingTime_17 ?_
      refine x_aload_n C 0 dX3_rankByWaitingTime_18 rfl ?_
      refine x_get5 C kh i5 0 (by decide) (by decide +kernel) rfl rfl dX3_rankByWaitingTime_19 ?_
      refine x_iload_n C 3 dX3_rankByWaitingTime_22 rfl ?_
      obtain ⟨g4, hf⟩ := x_gd hf
      obtain ⟨g5, hf⟩ := x_gd hf
      refine x_aald23 C (x5_k1 kh) (x5_l1 kh) g4 dX3_rankByWaitingTime_23 ?_
      obtain ⟨q6, hg, hf⟩ := x_bd hf
      refine x_callVr C (by rw [g3]; decide) (by rw [g3]; decide) (xc4 g3) rfl (t_X2_waitsBefore g3 g5 hg) (cwV 1 C.1.2.2.2.2 gX3_rankByWaitingTime_X2_waitsBefore rfl rfl rfl (by decide +kernel) ⟨Nat.le_of_ble_eq_true rfl, Nat.le_of_ble_eq_true rfl⟩) rfl rfl (Nat.le_of_ble_eq_true rfl) dX3_rankByWaitingTime_24 ⟨Nat.zero_le _, Nat.zero_le _⟩ (fun ta7 => ?_)
      clear hg
      refine x_if_ne C 34 dX3_rankByWaitingTime_27 (by decide) (fun hc8 => ?_) (fun hc8 => ?_)
      · have hf := x_ine hc8 hf
        refine x_iconst (v := 0) C dX3_rankByWaitingTime_34 (by decide) ?_
        refine x_istore (lv' := [(4, .int (0 : Int32)), (0, .ref (xad G h)), (1, .int v1), (2, .int v2), (3, .int v3)]) C dX3_rankByWaitingTime_35 (by decide) rfl ?_
        refine x_aload_n C 1 dX3_rankByWaitingTime_37 rfl ?_
        refine x_get5 C kh i5 0 (by decide) (by decide +kernel) rfl rfl dX3_rankByWaitingTime_38 ?_
        refine x_iload_n C 4 dX3_rankByWaitingTime_41 rfl ?_
        obtain ⟨g9, hf⟩ := x_gd hf
        obtain ⟨g10, hf⟩ := x_gd hf
        refine x_aald23 C (x5_k1 kh) (x5_l1 kh) g9 dX3_rankByWaitingTime_42 ?_
        refine x_aload_n C 1 dX3_rankByWaitingTime_43 rfl ?_
        refine x_get5 C kh i5 0 (by decide) (by decide +kernel) rfl rfl dX3_rankByWaitingTime_44 ?_
        refine x_iload_n C 2 dX3_rankByWaitingTime_47 rfl ?_
        obtain ⟨g11, hf⟩ := x_gd hf
        obtain ⟨g12, hf⟩ := x_gd hf
        refine x_aald23 C (x5_k1 kh) (x5_l1 kh) g11 dX3_rankByWaitingTime_48 ?_
        obtain ⟨q13, hg, hf⟩ := x_bd hf
        refine x_callVr C (by rw [g10]; decide) (by rw [g10]; decide) (xc4 g10) rfl (t_X2_waitsBefore g10 g12 hg) (cwV 1 C.1.2.2.2.2 gX3_rankByWaitingTime_X2_waitsBefore rfl rfl rfl (by decide +kernel) ⟨Nat.le_of_ble_eq_true rfl, Nat.le_of_ble_eq_true rfl⟩) rfl rfl (Nat.le_of_ble_eq_true rfl) dX3_rankByWaitingTime_49 ⟨Nat.zero_le _, Nat.zero_le _⟩ (fun ta14 => ?_)
        clear hg
        refine x_if_ne C 65 dX3_rankByWaitingTime_52 (by decide) (fun hc15 => ?_) (fun hc15 => ?_)
        · have hf := x_ine hc15 hf
          refine x_iinc (v := v2 + 1) (lv' := [(2, .int (v2 + 1)), (4, .int (0 : Int32)), (0, .ref (xad G h)), (1, .int v1), (3, .int v3)]) C 3 dX3_rankByWaitingTime_65 rfl rfl (by decide) rfl ?_
          refine x_iinc (v := v3 + 1) (lv' := [(3, .int (v3 + 1)), (2, .int (v2 + 1)), (4, .int (0 : Int32)), (0, .ref (xad G h)), (1, .int v1)]) C 4 dX3_rankByWaitingTime_68 rfl rfl (by decide) rfl ?_
          refine x_goto C 4 dX3_rankByWaitingTime_71 (by decide) ?_
          refine x_sub [3, 4, 1, 0] rfl ?_
          exact ih (v2 + 1) (v3 + 1) _ _ hf
        · have hf := x_ip hc15 hf
          refine x_iload C 0 dX3_rankByWaitingTime_55 rfl ?_
          refine x_if_eq C 68 dX3_rankByWaitingTime_57 (by decide) (fun hc16 => ?_) (fun hc16 => ?_)
          · have hf := x_ip hc16 hf
            refine x_iinc (v := v3 + 1) (lv' := [(3, .int (v3 + 1)), (4, .int (0 : Int32)), (0, .ref (xad G h)), (1, .int v1), (2, .int v2)]) C 4 dX3_rankByWaitingTime_68 rfl rfl (by decide) rfl ?_
            refine x_goto C 4 dX3_rankByWaitingTime_71 (by decide) ?_
            refine x_sub [2, 3, 4, 0] rfl ?_
            exact ih v2 (v3 + 1) _ _ hf
          · have hf := x_ine hc16 hf
            refine x_iload_n C 4 dX3_rankByWaitingTime_60 rfl ?_
            refine x_iload_n C 2 dX3_rankByWaitingTime_61 rfl ?_
            refine x_icmp_ge C 68 dX3_rankByWaitingTime_62 (by decide) (fun hc17 => ?_) (fun hc17 => ?_)
            · have hf := x_ip hc17 hf
              refine x_iinc (v := v3 + 1) (lv' := [(3, .int (v3 + 1)), (4, .int (0 : Int32)), (0, .ref (xad G h)), (1, .int v1), (2, .int v2)]) C 4 dX3_rankByWaitingTime_68 rfl rfl (by decide) rfl ?_
              refine x_goto C 4 dX3_rankByWaitingTime_71 (by decide) ?_
              refine x_sub [2, 3, 4, 0] rfl ?_
              exact ih v2 (v3 + 1) _ _ hf
            · have hf := x_ine hc17 hf
              refine x_iinc (v := v2 + 1) (lv' := [(2, .int (v2 + 1)), (4, .int (0 : Int32)), (0, .ref (xad G h)), (1, .int v1), (3, .int v3)]) C 3 dX3_rankByWaitingTime_65 rfl rfl (by decide) rfl ?_
              refine x_iinc (v := v3 + 1) (lv' := [(3, .int (v3 + 1)), (2, .int (v2 + 1)), (4, .int (0 : Int32)), (0, .ref (xad G h)), (1, .int v1)]) C 4 dX3_rankByWaitingTime_68 rfl rfl (by decide) rfl ?_
              refine x_goto C 4 dX3_rankByWaitingTime_71 (by decide) ?_
              refine x_sub [3, 4, 1, 0] rfl ?_
              exact ih (v2 + 1) (v3 + 1) _ _ hf
      · have hf := x_ip hc8 hf
        refine x_iconst (v := 1) C dX3_rankByWaitingTime_30 (by decide) ?_
        refine x_goto C 35 dX3_rankByWaitingTime_31 (by decide) ?_
        refine x_istore (lv' := [(4, .int (1 : Int32)), (0, .ref (xad G h)), (1, .int v1), (2, .int v2), (3, .int v3)]) C dX3_rankByWaitingTime_35 (by decide) rfl ?_
        refine x_aload_n C 1 dX3_rankByWaitingTime_37 rfl ?_
        refine x_get5 C kh i5 0 (by decide) (by decide +kernel) rfl rfl dX3_rankByWaitingTime_38 ?_
        refine x_iload_n C 4 dX3_rankByWaitingTime_41 rfl ?_
        obtain ⟨g18, hf⟩ := x_gd hf
        obtain ⟨g19, hf⟩ := x_gd hf
        refine x_aald23 C (x5_k1 kh) (x5_l1 kh) g18 dX3_rankByWaitingTime_42 ?_
        refine x_aload_n C 1 dX3_rankByWaitingTime_43 rfl ?_
        refine x_get5 C kh i5 0 (by decide) (by decide +kernel) rfl rfl dX3_rankByWaitingTime_44 ?_
        refine x_iload_n C 2 dX3_rankByWaitingTime_47 rfl ?_
        obtain ⟨g20, hf⟩ := x_gd hf
        obtain ⟨g21, hf⟩ := x_gd hf
        refine x_aald23 C (x5_k1 kh) (x5_l1 kh) g20 dX3_rankByWaitingTime_48 ?_
        obtain ⟨q22, hg, hf⟩ := x_bd hf
        refine x_callVr C (by rw [g19]; decide) (by rw [g19]; decide) (xc4 g19) rfl (t_X2_waitsBefore g19 g21 hg) (cwV 1 C.1.2.2.2.2 gX3_rankByWaitingTime_X2_waitsBefore rfl rfl rfl (by decide +kernel) ⟨Nat.le_of_ble_eq_true rfl, Nat.le_of_ble_eq_true rfl⟩) rfl rfl (Nat.le_of_ble_eq_true rfl) dX3_rankByWaitingTime_49 ⟨Nat.zero_le _, Nat.zero_le _⟩ (fun ta23 => ?_)
        clear hg
        refine x_if_ne C 65 dX3_rankByWaitingTime_52 (by decide) (fun hc24 => ?_) (fun hc24 => ?_)
        · have hf := x_ine hc24 hf
          refine x_iinc (v := v2 + 1) (lv' := [(2, .int (v2 + 1)), (4, .int (1 : Int32)), (0, .ref (xad G h)), (1, .int v1), (3, .int v3)]) C 3 dX3_rankByWaitingTime_65 rfl rfl (by decide) rfl ?_
          refine x_iinc (v := v3 + 1) (lv' := [(3, .int (v3 + 1)), (2, .int (v2 + 1)), (4, .int (1 : Int32)), (0, .ref (xad G h)), (1, .int v1)]) C 4 dX3_rankByWaitingTime_68 rfl rfl (by decide) rfl ?_
          refine x_goto C 4 dX3_rankByWaitingTime_71 (by decide) ?_
          refine x_sub [3, 4, 1, 0] rfl ?_
          exact ih (v2 + 1) (v3 + 1) _ _ hf
        · have hf := x_ip hc24 hf
          refine x_iload C 0 dX3_rankByWaitingTime_55 rfl ?_
          refine x_if_eq C 68 dX3_rankByWaitingTime_57 (by decide) (fun hc25 => ?_) (fun hc25 => ?_)
          · have hf := x_ip hc25 hf
            refine x_iinc (v := v3 + 1) (lv' := [(3, .int (v3 + 1)), (4, .int (1 : Int32)), (0, .ref (xad G h)), (1, .int v1), (2, .int v2)]) C 4 dX3_rankByWaitingTime_68 rfl rfl (by decide) rfl ?_
            refine x_goto C 4 dX3_rankByWaitingTime_71 (by decide) ?_
            refine x_sub [2, 3, 4, 0] rfl ?_
            exact ih v2 (v3 + 1) _ _ hf
          · have hf := x_ine hc25 hf
            refine x_iload_n C 4 dX3_rankByWaitingTime_60 rfl ?_
            refine x_iload_n C 2 dX3_rankByWaitingTime_61 rfl ?_
            refine x_icmp_ge C 68 dX3_rankByWaitingTime_62 (by decide) (fun hc26 => ?_) (fun hc26 => ?_)
            · have hf := x_ip hc26 hf
              refine x_iinc (v := v3 + 1) (lv' := [(3, .int (v3 + 1)), (4, .int (1 : Int32)), (0, .ref (xad G h)), (1, .int v1), (2, .int v2)]) C 4 dX3_rankByWaitingTime_68 rfl rfl (by decide) rfl ?_
              refine x_goto C 4 dX3_rankByWaitingTime_71 (by decide) ?_
              refine x_sub [2, 3, 4, 0] rfl ?_
              exact ih v2 (v3 + 1) _ _ hf
            · have hf := x_ine hc26 hf
              refine x_iinc (v := v2 + 1) (lv' := [(2, .int (v2 + 1)), (4, .int (1 : Int32)), (0, .ref (xad G h)), (1, .int v1), (3, .int v3)]) C 3 dX3_rankByWaitingTime_65 rfl rfl (by decide) rfl ?_
              refine x_iinc (v := v3 + 1) (lv' := [(3, .int (v3 + 1)), (2, .int (v2 + 1)), (4, .int (1 : Int32)), (0, .ref (xad G h)), (1, .int v1)]) C 4 dX3_rankByWaitingTime_68 rfl rfl (by decide) rfl ?_
              refine x_goto C 4 dX3_rankByWaitingTime_71 (by decide) ?_
              refine x_sub [3, 4, 1, 0] rfl ?_
              exact ih (v2 + 1) (v3 + 1) _ _ hf
set_option maxHeartbeats 4000000 in
set_option maxRecDepth 100000 in
theorem t_X3_rankByWaitingTime {l : Launch} {G : xG} {ta : Nat × Nat} {M : xM} {h : Nat} {a1 : Int32} {out : Int32} (kh : xkd h = 5) (hf : f_X3_rankByWaitingTime h a1 M = some out) : xMet G l yX3_rankByWaitingTime wsX3_rankByWaitingTime (rm_X3_rankByWaitingTime 0 0) 0 0 ta M [.ref (xad G h), .int a1] (some (.int out)) M := by
  refine x_met (cc := cX3_rankByWaitingTime) (nL := 5) (ret := some .int) (by decide) rfl (Nat.le_of_ble_eq_true rfl) ?_
  intro p e s m args below meth c C hr hlk
  have C : xC G p s m args c cX3_rankByWaitingTime 5 wsX3_rankByWaitingTime RX3 := C
  have i5 : ∀ w ∈ wsX30, w ∈ wsX3_rankByWaitingTime := by decide +kernel
  unfold f_X3_rankByWaitingTime at hf
  show xW G p l e (rm_X3_rankByWaitingTime 0 0) s m args below meth c 5 (MQ below (xQr G (some (.int out)) M) args s 0 0 (xAs G)) 0 0 ta M 0 [(0, .ref (xad G h)), (1, .int a1)] []
  refine x_iconst (v := 0) C dX3_rankByWaitingTime_0 (by decide) ?_
  refine x_istore_n (lv' := [(2, .int (0 : Int32)), (0, .ref (xad G h)), (1, .int a1)]) C dX3_rankByWaitingTime_1 rfl (by decide) rfl ?_
  refine x_iconst (v := 0) C dX3_rankByWaitingTime_2 (by decide) ?_
  refine x_istore_n (lv' := [(3, .int (0 : Int32)), (2, .int (0 : Int32)), (0, .ref (xad G h)), (1, .int a1)]) C dX3_rankByWaitingTime_3 rfl (by decide) rfl ?_
  refine x_sub [2, 3, 1, 0] rfl ?_
  exact t_X3_rankByWaitingTime_L4 C hr hlk kh xF (0 : Int32) (0 : Int32) _ _ hf
/-! WaitingRoomSimulation$Window.isOpen()Z -/
abbrev rm_X5_isOpen (c s : Nat) : Room := { frames := 0, cells := c, slots := s, locals := 0 }
def f_X5_isOpen (h : Nat) (M : xM) : Option (Int32) := (if (M.1 h 0) ≤ 0 then some (0 : Int32) else some (1 : Int32))
set_option maxHeartbeats 4000000 in
set_option maxRecDepth 100000 in
theorem t_X5_isOpen {l : Launch} {G : xG} {ta : Nat × Nat} {M : xM} {h : Nat} {out : Int32} (kh : xkd h = 7) (hf : f_X5_isOpen h M = some out) : xMet G l yX5_isOpen wsX5_isOpen (rm_X5_isOpen 0 0) 0 0 ta M [.ref (xad G h)] (some (.int out)) M := by
  refine x_met (cc := cX5_isOpen) (nL := 1) (ret := some .boolean) (by decide) rfl (Nat.le_of_ble_eq_true rfl) ?_
  intro p e s m args below meth c C hr hlk
  have C : xC G p s m args c cX5_isOpen 1 wsX5_isOpen RX5 := C
  have i7 : ∀ w ∈ wsX50, w ∈ wsX5_isOpen := by decide +kernel
  unfold f_X5_isOpen at hf
  show xW G p l e (rm_X5_isOpen 0 0) s m args below meth c 1 (MQ below (xQr G (some (.int out)) M) args s 0 0 (xAs G)) 0 0 ta M 0 [(0, .ref (xad G h))] []
  refine x_aload_n C 0 dX5_isOpen_0 rfl ?_
  refine x_get7 C kh i7 0 (by decide) (by decide +kernel) rfl rfl dX5_isOpen_1 ?_
  refine x_if_le C 11 dX5_isOpen_4 (by decide) (fun hc1 => ?_) (fun hc1 => ?_)
  · have hf := x_ip hc1 hf
    refine x_iconst (v := 0) C dX5_isOpen_11 (by decide) ?_
    obtain rfl := Option.some.inj hf
    exact x_zret C hr hlk (x_nb (Or.inl rfl)) dX5_isOpen_12
  · have hf := x_ine hc1 hf
    refine x_iconst (v := 1) C dX5_isOpen_7 (by decide) ?_
    refine x_goto C 12 dX5_isOpen_8 (by decide) ?_
    obtain rfl := Option.some.inj hf
    exact x_zret C hr hlk (x_nb (Or.inr rfl)) dX5_isOpen_12
/-! WaitingRoomSimulation$Hall.countOpenWindows()I -/
abbrev rm_X3_countOpenWindows (c s : Nat) : Room := { frames := 1, cells := c, slots := s, locals := 20 }
def f_X3_countOpenWindows_L4 (h : Nat) (M : xM) : Nat → Int32 → Int32 → Option (Int32)
  | 0, _, _ => none
  | n+1, v1, v2 => (if (3 : Int32) ≤ v2 then some v1 else if x_in v2 3 = true then if xkd (h + 3 + 15 + v2.toNatClampNeg) = 7 then (f_X5_isOpen (h + 3 + 15 + v2.toNatClampNeg) M).bind fun q4 => (if q4 = 0 then f_X3_countOpenWindows_L4 h M n v1 (v2 + 1) else f_X3_countOpenWindows_L4 h M n (v1 + 1) (v2 + 1)) else none else none)
def f_X3_countOpenWindows (h : Nat) (M : xM) : Option (Int32) := f_X3_countOpenWindows_L4 h M xF (0 : Int32) (0 : Int32)
set_option maxHeartbeats 4000000 in
set_option maxRecDepth 100000 in
theorem t_X3_countOpenWindows_L4 {G : xG} {p : Program} {l : Launch} {e : Env} {s : State} {m : MethodId} {args : Array Value} {below : List Frame} {meth : Method} {c : Code} (C : xC G p s m args c cX3_countOpenWindows 3 wsX3_countOpenWindows RX3) (hr : meth.sig.returnType = some .int) (hlk : meth.locks = false) {h : Nat} {M : xM} (kh : xkd h = 5) : ∀ (n : Nat) (v1 : Int32) (v2 : Int32) (ta : Nat × Nat) (out : Int32), f_X3_countOpenWindows_L4 h M n v1 v2 = some out → xW G p l e (rm_X3_countOpenWindows 0 0) s m args below meth c 3 (MQ below (xQr G (some (.int out)) M) args s 0 0 (xAs G)) 0 0 ta M 4 [(0, .ref (xad G h)), (1, .int v1), (2, .int v2)] [] := by
  intro n
  induction n with
  | zero =>
    intro v1 v2 ta out hf
    rw [f_X3_countOpenWindows_L4] at hf
    cases hf
  | succ n ih =>
    intro v1 v2 ta out hf
    rw [f_X3_countOpenWindows_L4] at hf
    have i5 : ∀ w ∈ wsX30, w ∈ wsX3_countOpenWindows := by decide +kernel
    refine x_iload_n C 2 dX3_countOpenWindows_4 rfl ?_
    refine x_iconst (v := 3) C dX3_countOpenWindows_5 (by decide) ?_
    refine x_icmp_ge C 30 dX3_countOpenWindows_6 (by decide) (fun hc1 => ?_) (fun hc1 => ?_)
    · have hf := x_ip hc1 hf
      refine x_iload_n C 1 dX3_countOpenWindows_30 rfl ?_
      obtain rfl := Option.some.inj hf
      exact x_iret C hr hlk dX3_countOpenWindows_31
    · have hf := x_ine hc1 hf
      refine x_aload_n C 0 dX3_countOpenWindows_9 rfl ?_
      refine x_get5 C kh i5 4 (by decide) (by decide +kernel) rfl rfl dX3_countOpenWindows_10 ?_
      refine x_iload_n C 2 dX3_countOpenWindows_13 rfl ?_
      obtain ⟨g2, hf⟩ := x_gd hf
      obtain ⟨g3, hf⟩ := x_gd hf
      refine x_aald25 C (x5_k3 kh) (x5_l3 kh) g2 dX3_countOpenWindows_14 ?_
      obtain ⟨q4, hg, hf⟩ := x_bd hf
      refine x_callVr C (by rw [g3]; decide) (by rw [g3]; decide) (xc7 g3) rfl (t_X5_isOpen g3 hg) (cwV 0 C.1.2.2.2.2 gX3_countOpenWindows_X5_isOpen rfl rfl rfl (by decide +kernel) ⟨Nat.le_of_ble_eq_true rfl, Nat.le_of_ble_eq_true rfl⟩) rfl rfl (Nat.le_of_ble_eq_true rfl) dX3_countOpenWindows_15 ⟨Nat.zero_le _, Nat.zero_le _⟩ (fun ta5 => ?_)
      clear hg
      refine x_if_eq C 24 dX3_countOpenWindows_18 (by decide) (fun hc6 => ?_) (fun hc6 => ?_)
      · have hf := x_ip hc6 hf
        refine x_iinc (v := v2 + 1) (lv' := [(2, .int (v2 + 1)), (0, .ref (xad G h)), (1, .int v1)]) C 2 dX3_countOpenWindows_24 rfl rfl (by decide) rfl ?_
        refine x_goto C 4 dX3_countOpenWindows_27 (by decide) ?_
        refine x_sub [1, 2, 0] rfl ?_
        exact ih v1 (v2 + 1) _ _ hf
      · have hf := x_ine hc6 hf
        refine x_iinc (v := v1 + 1) (lv' := [(1, .int (v1 + 1)), (0, .ref (xad G h)), (2, .int v2)]) C 1 dX3_countOpenWindows_21 rfl rfl (by decide) rfl ?_
        refine x_iinc (v := v2 + 1) (lv' := [(2, .int (v2 + 1)), (1, .int (v1 + 1)), (0, .ref (xad G h))]) C 2 dX3_countOpenWindows_24 rfl rfl (by decide) rfl ?_
        refine x_goto C 4 dX3_countOpenWindows_27 (by decide) ?_
        refine x_sub [2, 1, 0] rfl ?_
        exact ih (v1 + 1) (v2 + 1) _ _ hf
set_option maxHeartbeats 4000000 in
set_option maxRecDepth 100000 in
theorem t_X3_countOpenWindows {l : Launch} {G : xG} {ta : Nat × Nat} {M : xM} {h : Nat} {out : Int32} (kh : xkd h = 5) (hf : f_X3_countOpenWindows h M = some out) : xMet G l yX3_countOpenWindows wsX3_countOpenWindows (rm_X3_countOpenWindows 0 0) 0 0 ta M [.ref (xad G h)] (some (.int out)) M := by
  refine x_met (cc := cX3_countOpenWindows) (nL := 3) (ret := some .int) (by decide) rfl (Nat.le_of_ble_eq_true rfl) ?_
  intro p e s m args below meth c C hr hlk
  have C : xC G p s m args c cX3_countOpenWindows 3 wsX3_countOpenWindows RX3 := C
  have i5 : ∀ w ∈ wsX30, w ∈ wsX3_countOpenWindows := by decide +kernel
  unfold f_X3_countOpenWindows at hf
  show xW G p l e (rm_X3_countOpenWindows 0 0) s m args below meth c 3 (MQ below (xQr G (some (.int out)) M) args s 0 0 (xAs G)) 0 0 ta M 0 [(0, .ref (xad G h))] []
  refine x_iconst (v := 0) C dX3_countOpenWindows_0 (by decide) ?_
  refine x_istore_n (lv' := [(1, .int (0 : Int32)), (0, .ref (xad G h))]) C dX3_countOpenWindows_1 rfl (by decide) rfl ?_
  refine x_iconst (v := 0) C dX3_countOpenWindows_2 (by decide) ?_
  refine x_istore_n (lv' := [(2, .int (0 : Int32)), (1, .int (0 : Int32)), (0, .ref (xad G h))]) C dX3_countOpenWindows_3 rfl (by decide) rfl ?_
  refine x_sub [2, 1, 0] rfl ?_
  exact t_X3_countOpenWindows_L4 C hr hlk kh xF (0 : Int32) (0 : Int32) _ _ hf
/-! WaitingRoomSimulation$Hall.countSitting()I -/
abbrev rm_X3_countSitting (c s : Nat) : Room := { frames := 0, cells := c, slots := s, locals := 0 }
def f_X3_countSitting_L4 (h : Nat) (M : xM) : Nat → Int32 → Int32 → Option (Int32)
  | 0, _, _ => none
  | n+1, v1, v2 => (if (M.1 h 1) ≤ v2 then some v1 else if x_in v2 12 = true then if xkd (M.2.1 (h + 1) v2.toNatClampNeg) = 4 then (if (M.1 (M.2.1 (h + 1) v2.toNatClampNeg) 6) = 0 then f_X3_countSitting_L4 h M n v1 (v2 + 1) else f_X3_countSitting_L4 h M n (v1 + 1) (v2 + 1)) else none else none)
def f_X3_countSitting (h : Nat) (M : xM) : Option (Int32) := f_X3_countSitting_L4 h M xF (0 : Int32) (0 : Int32)
set_option maxHeartbeats 4000000 in
set_option maxRecDepth 100000 in
theorem t_X3_countSitting_L4 {G : xG} {p : Program} {l : Launch} {e : Env} {s : State} {m : MethodId} {args : Array Value} {below : List Frame} {meth : Method} {c : Code} (C : xC G p s m args c cX3_countSitting 3 wsX3_countSitting RX3) (hr : meth.sig.returnType = some .int) (hlk : meth.locks = false) {h : Nat} {M : xM} (kh : xkd h = 5) : ∀ (n : Nat) (v1 : Int32) (v2 : Int32) (ta : Nat × Nat) (out : Int32), f_X3_countSitting_L4 h M n v1 v2 = some out → xW G p l e (rm_X3_countSitting 0 0) s m args below meth c 3 (MQ below (xQr G (some (.int out)) M) args s 0 0 (xAs G)) 0 0 ta M 4 [(0, .ref (xad G h)), (1, .int v1), (2, .int v2)] [] := by
  intro n
  induction n with
  | zero =>
    intro v1 v2 ta out hf
    rw [f_X3_countSitting_L4] at hf
    cases hf
  | succ n ih =>
    intro v1 v2 ta out hf
    rw [f_X3_countSitting_L4] at hf
    have i4 : ∀ w ∈ wsX20, w ∈ wsX3_countSitting := by decide +kernel
    have i5 : ∀ w ∈ wsX30, w ∈ wsX3_countSitting := by decide +kernel
    refine x_iload_n C 2 dX3_countSitting_4 rfl ?_
    refine x_aload_n C 0 dX3_countSitting_5 rfl ?_
    refine x_get5 C kh i5 1 (by decide) (by decide +kernel) rfl rfl dX3_countSitting_6 ?_
    refine x_icmp_ge C 33 dX3_countSitting_9 (by decide) (fun hc1 => ?_) (fun hc1 => ?_)
    · have hf := x_ip hc1 hf
      refine x_iload_n C 1 dX3_countSitting_33 rfl ?_
      obtain rfl := Option.some.inj hf
      exact x_iret C hr hlk dX3_countSitting_34
    · have hf := x_ine hc1 hf
      refine x_aload_n C 0 dX3_countSitting_12 rfl ?_
      refine x_get5 C kh i5 0 (by decide) (by decide +kernel) rfl rfl dX3_countSitting_13 ?_
      refine x_iload_n C 2 dX3_countSitting_16 rfl ?_
      obtain ⟨g2, hf⟩ := x_gd hf
      obtain ⟨g3, hf⟩ := x_gd hf
      refine x_aald23 C (x5_k1 kh) (x5_l1 kh) g2 dX3_countSitting_17 ?_
      refine x_get4 C g3 i4 6 (by decide) (by decide +kernel) rfl rfl dX3_countSitting_18 ?_
      refine x_if_eq C 27 dX3_countSitting_21 (by decide) (fun hc4 => ?_) (fun hc4 => ?_)
      · have hf := x_ip hc4 hf
        refine x_iinc (v := v2 + 1) (lv' := [(2, .int (v2 + 1)), (0, .ref (xad G h)), (1, .int v1)]) C 2 dX3_countSitting_27 rfl rfl (by decide) rfl ?_
        refine x_goto C 4 dX3_countSitting_30 (by decide) ?_
        refine x_sub [1, 2, 0] rfl ?_
        exact ih v1 (v2 + 1) _ _ hf
      · have hf := x_ine hc4 hf
        refine x_iinc (v := v1 + 1) (lv' := [(1, .int (v1 + 1)), (0, .ref (xad G h)), (2, .int v2)]) C 1 dX3_countSitting_24 rfl rfl (by decide) rfl ?_
        refine x_iinc (v := v2 + 1) (lv' := [(2, .int (v2 + 1)), (1, .int (v1 + 1)), (0, .ref (xad G h))]) C 2 dX3_countSitting_27 rfl rfl (by decide) rfl ?_
        refine x_goto C 4 dX3_countSitting_30 (by decide) ?_
        refine x_sub [2, 1, 0] rfl ?_
        exact ih (v1 + 1) (v2 + 1) _ _ hf
set_option maxHeartbeats 4000000 in
set_option maxRecDepth 100000 in
theorem t_X3_countSitting {l : Launch} {G : xG} {ta : Nat × Nat} {M : xM} {h : Nat} {out : Int32} (kh : xkd h = 5) (hf : f_X3_countSitting h M = some out) : xMet G l yX3_countSitting wsX3_countSitting (rm_X3_countSitting 0 0) 0 0 ta M [.ref (xad G h)] (some (.int out)) M := by
  refine x_met (cc := cX3_countSitting) (nL := 3) (ret := some .int) (by decide) rfl (Nat.le_of_ble_eq_true rfl) ?_
  intro p e s m args below meth c C hr hlk
  have C : xC G p s m args c cX3_countSitting 3 wsX3_countSitting RX3 := C
  have i4 : ∀ w ∈ wsX20, w ∈ wsX3_countSitting := by decide +kernel
  have i5 : ∀ w ∈ wsX30, w ∈ wsX3_countSitting := by decide +kernel
  unfold f_X3_countSitting at hf
  show xW G p l e (rm_X3_countSitting 0 0) s m args below meth c 3 (MQ below (xQr G (some (.int out)) M) args s 0 0 (xAs G)) 0 0 ta M 0 [(0, .ref (xad G h))] []
  refine x_iconst (v := 0) C dX3_countSitting_0 (by decide) ?_
  refine x_istore_n (lv' := [(1, .int (0 : Int32)), (0, .ref (xad G h))]) C dX3_countSitting_1 rfl (by decide) rfl ?_
  refine x_iconst (v := 0) C dX3_countSitting_2 (by decide) ?_
  refine x_istore_n (lv' := [(2, .int (0 : Int32)), (1, .int (0 : Int32)), (0, .ref (xad G h))]) C dX3_countSitting_3 rfl (by decide) rfl ?_
  refine x_sub [2, 1, 0] rfl ?_
  exact t_X3_countSitting_L4 C hr hlk kh xF (0 : Int32) (0 : Int32) _ _ hf
/-! WaitingRoomSimulation$Hall, a customer is let in -/
abbrev rm_X3_admit (c s : Nat) : Room := { frames := 1, cells := c, slots := s, locals := 22 }
def f_X3_admit (h : Nat) (a1 : Int32) (M : xM) : Option (Int32 × xM) := (if a1 < (1 : Int32) then some ((-2 : Int32), M) else (if a1 ≤ (30 : Int32) then (if (12 : Int32) ≤ (M.1 h 1) then some ((-3 : Int32), M) else (if (M.1 h 3) < (12 : Int32) then x_let (sI M h 8 ((M.1 h 8) + (1 : Int32))) fun M5 => if x_in (M5.1 h 1) 12 = true then if xkd (M5.2.1 (h + 1) (M5.1 h 1).toNatClampNeg) = 4 then (f_X2_arrive (M5.2.1 (h + 1) (M5.1 h 1).toNatClampNeg) (M5.1 h 8) a1 M5).bind fun q9 => if x_in (q9.1 h 3) 12 = true then x_let (sI q9 (h + 2) (q9.1 h 3).toNatClampNeg (q9.1 h 1)) fun M12 => x_let (sI M12 h 3 ((M12.1 h 3) + (1 : Int32))) fun M14 => x_let (sI M14 h 1 ((M14.1 h 1) + (1 : Int32))) fun M16 => some ((M16.1 h 1) - (1 : Int32), M16) else none else none else none else some ((-3 : Int32), M))) else some ((-2 : Int32), M)))
set_option maxHeartbeats 4000000 in
set_option maxRecDepth 100000 in
theorem t_X3_admit {l : Launch} {G : xG} {ta : Nat × Nat} {M : xM} {h : Nat} {a1 : Int32} {out : Int32 × xM} (kh : xkd h = 5) (hf : f_X3_admit h a1 M = some out) : xMet G l yX3_admit wsX3_admit (rm_X3_admit 0 0) 0 0 ta M [.ref (xad G h), .int a1] (some (.int out.1)) out.2 := by
  refine x_met (cc := cX3_admit) (nL := 2) (ret := some .int) (by decide) rfl (Nat.le_of_ble_eq_true rfl) ?_
  intro p e s m args below meth c C hr hlk
  have C : xC G p s m args c cX3_admit 2 wsX3_admit RX3 := C
  have i5 : ∀ w ∈ wsX30, w ∈ wsX3_admit := by decide +kernel
  unfold f_X3_admit at hf
  show xW G p l e (rm_X3_admit 0 0) s m args below meth c 2 (MQ below (xQr G (some (.int out.1)) out.2) args s 0 0 (xAs G)) 0 0 ta M 0 [(0, .ref (xad G h)), (1, .int a1)] []
  refine x_iload_n C 1 dX3_admit_0 rfl ?_
  refine x_iconst (v := 1) C dX3_admit_1 (by decide) ?_
  refine x_icmp_lt C 11 dX3_admit_2 (by decide) (fun hc1 => ?_) (fun hc1 => ?_)
  · have hf := x_ip hc1 hf
    refine x_bipush (v := (-2)) C dX3_admit_11 (by decide) ?_
    obtain rfl := Option.some.inj hf
    exact x_iret C hr hlk dX3_admit_13
  · have hf := x_ine hc1 hf
    refine x_iload_n C 1 dX3_admit_5 rfl ?_
    refine x_bipush (v := 30) C dX3_admit_6 (by decide) ?_
    refine x_icmp_le C 14 dX3_admit_8 (by decide) (fun hc2 => ?_) (fun hc2 => ?_)
    · have hf := x_ip hc2 hf
      refine x_aload_n C 0 dX3_admit_14 rfl ?_
      refine x_get5 C kh i5 1 (by decide) (by decide +kernel) rfl rfl dX3_admit_15 ?_
      refine x_bipush (v := 12) C dX3_admit_18 (by decide) ?_
      refine x_icmp_ge C 32 dX3_admit_20 (by decide) (fun hc3 => ?_) (fun hc3 => ?_)
      · have hf := x_ip hc3 hf
        refine x_bipush (v := (-3)) C dX3_admit_32 (by decide) ?_
        obtain rfl := Option.some.inj hf
        exact x_iret C hr hlk dX3_admit_34
      · have hf := x_ine hc3 hf
        refine x_aload_n C 0 dX3_admit_23 rfl ?_
        refine x_get5 C kh i5 3 (by decide) (by decide +kernel) rfl rfl dX3_admit_24 ?_
        refine x_bipush (v := 12) C dX3_admit_27 (by decide) ?_
        refine x_icmp_lt C 35 dX3_admit_29 (by decide) (fun hc4 => ?_) (fun hc4 => ?_)
        · have hf := x_ip hc4 hf
          refine x_aload_n C 0 dX3_admit_35 rfl ?_
          refine x_dup C dX3_admit_36 rfl ?_
          refine x_get5 C kh i5 8 (by decide) (by decide +kernel) rfl rfl dX3_admit_37 ?_
          refine x_iconst (v := 1) C dX3_admit_40 (by decide) ?_
          refine x_iadd C dX3_admit_41 ?_
          refine x_put5 C kh i5 8 (by decide) (by decide +kernel) dX3_admit_42 ?_
          obtain ⟨M5, e6, hf⟩ := x_lt hf
          rw [← e6]
          clear e6
          refine x_aload_n C 0 dX3_admit_45 rfl ?_
          refine x_get5 C kh i5 0 (by decide) (by decide +kernel) rfl rfl dX3_admit_46 ?_
          refine x_aload_n C 0 dX3_admit_49 rfl ?_
          refine x_get5 C kh i5 1 (by decide) (by decide +kernel) rfl rfl dX3_admit_50 ?_
          obtain ⟨g7, hf⟩ := x_gd hf
          obtain ⟨g8, hf⟩ := x_gd hf
          refine x_aald23 C (x5_k1 kh) (x5_l1 kh) g7 dX3_admit_53 ?_
          refine x_aload_n C 0 dX3_admit_54 rfl ?_
          refine x_get5 C kh i5 8 (by decide) (by decide +kernel) rfl rfl dX3_admit_55 ?_
          refine x_iload_n C 1 dX3_admit_58 rfl ?_
          obtain ⟨q9, hg, hf⟩ := x_bd hf
          refine x_callVv C (by rw [g8]; decide) (by rw [g8]; decide) (xc4 g8) rfl (t_X2_arrive g8 hg) (cwV 2 C.1.2.2.2.2 gX3_admit_X2_arrive rfl rfl rfl (by decide +kernel) ⟨Nat.le_of_ble_eq_true rfl, Nat.le_of_ble_eq_true rfl⟩) rfl rfl (Nat.le_of_ble_eq_true rfl) dX3_admit_59 ⟨Nat.zero_le _, Nat.zero_le _⟩ (fun ta10 => ?_)
          clear hg
          refine x_aload_n C 0 dX3_admit_62 rfl ?_
          refine x_get5 C kh i5 2 (by decide) (by decide +kernel) rfl rfl dX3_admit_63 ?_
          refine x_aload_n C 0 dX3_admit_66 rfl ?_
          refine x_get5 C kh i5 3 (by decide) (by decide +kernel) rfl rfl dX3_admit_67 ?_
          refine x_aload_n C 0 dX3_admit_70 rfl ?_
          refine x_get5 C kh i5 1 (by decide) (by decide +kernel) rfl rfl dX3_admit_71 ?_
          obtain ⟨g11, hf⟩ := x_gd hf
          refine x_iast C (x5_k2 kh) (x5_l2 kh) g11 dX3_admit_74 ?_
          obtain ⟨M12, e13, hf⟩ := x_lt hf
          rw [← e13]
          clear e13
          refine x_aload_n C 0 dX3_admit_75 rfl ?_
          refine x_dup C dX3_admit_76 rfl ?_
          refine x_get5 C kh i5 3 (by decide) (by decide +kernel) rfl rfl dX3_admit_77 ?_
          refine x_iconst (v := 1) C dX3_admit_80 (by decide) ?_
          refine x_iadd C dX3_admit_81 ?_
          refine x_put5 C kh i5 3 (by decide) (by decide +kernel) dX3_admit_82 ?_
          obtain ⟨M14, e15, hf⟩ := x_lt hf
          rw [← e15]
          clear e15
          refine x_aload_n C 0 dX3_admit_85 rfl ?_
          refine x_dup C dX3_admit_86 rfl ?_
          refine x_get5 C kh i5 1 (by decide) (by decide +kernel) rfl rfl dX3_admit_87 ?_
          refine x_iconst (v := 1) C dX3_admit_90 (by decide) ?_
          refine x_iadd C dX3_admit_91 ?_
          refine x_put5 C kh i5 1 (by decide) (by decide +kernel) dX3_admit_92 ?_
          obtain ⟨M16, e17, hf⟩ := x_lt hf
          rw [← e17]
          clear e17
          refine x_aload_n C 0 dX3_admit_95 rfl ?_
          refine x_get5 C kh i5 1 (by decide) (by decide +kernel) rfl rfl dX3_admit_96 ?_
          refine x_iconst (v := 1) C dX3_admit_99 (by decide) ?_
          refine x_isub C dX3_admit_100 ?_
          obtain rfl := Option.some.inj hf
          exact x_iret C hr hlk dX3_admit_101
        · have hf := x_ine hc4 hf
          refine x_bipush (v := (-3)) C dX3_admit_32 (by decide) ?_
          obtain rfl := Option.some.inj hf
          exact x_iret C hr hlk dX3_admit_34
    · have hf := x_ine hc2 hf
      refine x_bipush (v := (-2)) C dX3_admit_11 (by decide) ?_
      obtain rfl := Option.some.inj hf
      exact x_iret C hr hlk dX3_admit_13
/-! WaitingRoomSimulation$Hall.open(III)I -/
abbrev rm_X3_open (c s : Nat) : Room := { frames := 2, cells := c, slots := s, locals := 42 }
def f_X3_open (h : Nat) (a1 : Int32) (a2 : Int32) (a3 : Int32) (M : xM) : Option (Int32 × xM) := (f_X3_hasWindow a1 M).bind fun q1 => (if q1 = 0 then some ((-1 : Int32), M) else (if a2 < (1 : Int32) then some ((-2 : Int32), M) else (if (99 : Int32) < a2 then some ((-2 : Int32), M) else (if a3 < (1 : Int32) then some ((-2 : Int32), M) else (if a3 ≤ (9 : Int32) then if x_in a1 3 = true then if xkd (h + 3 + 15 + a1.toNatClampNeg) = 7 then (f_X5_isOpen (h + 3 + 15 + a1.toNatClampNeg) M).bind fun q10 => (if q10 = 0 then if x_in a1 3 = true then if xkd (h + 3 + 15 + a1.toNatClampNeg) = 7 then x_let (sI M (h + 3 + 15 + a1.toNatClampNeg) 0 a2) fun M15 => if x_in a1 3 = true then if xkd (h + 3 + 15 + a1.toNatClampNeg) = 7 then x_let (sI M15 (h + 3 + 15 + a1.toNatClampNeg) 1 a3) fun M19 => (f_X3_countOpenWindows h M19).bind fun q21 => some (q21, M19) else none else none else none else none else some ((-3 : Int32), M)) else none else none else some ((-2 : Int32), M))))))
set_option maxHeartbeats 4000000 in
set_option maxRecDepth 100000 in
theorem t_X3_open {l : Launch} {G : xG} {ta : Nat × Nat} {M : xM} {h : Nat} {a1 : Int32} {a2 : Int32} {a3 : Int32} {out : Int32 × xM} (kh : xkd h = 5) (hf : f_X3_open h a1 a2 a3 M = some out) : xMet G l yX3_open wsX3_open (rm_X3_open 0 0) 0 0 ta M [.ref (xad G h), .int a1, .int a2, .int a3] (some (.int out.1)) out.2 := by
  refine x_met (cc := cX3_open) (nL := 4) (ret := some .int) (by decide) rfl (Nat.le_of_ble_eq_true rfl) ?_
  intro p e s m args below meth c C hr hlk
  have C : xC G p s m args c cX3_open 4 wsX3_open RX3 := C
  have i5 : ∀ w ∈ wsX30, w ∈ wsX3_open := by decide +kernel
  have i7 : ∀ w ∈ wsX50, w ∈ wsX3_open := by decide +kernel
  unfold f_X3_open at hf
  show xW G p l e (rm_X3_open 0 0) s m args below meth c 4 (MQ below (xQr G (some (.int out.1)) out.2) args s 0 0 (xAs G)) 0 0 ta M 0 [(0, .ref (xad G h)), (1, .int a1), (2, .int a2), (3, .int a3)] []
  refine x_iload_n C 1 dX3_open_0 rfl ?_
  obtain ⟨q1, hg, hf⟩ := x_bd hf
  refine x_callSr C (t_X3_hasWindow hg) (va_cwS 1 C.1.2.2.2.2 gX3_open_X3_hasWindow rfl rfl rfl (by decide +kernel) ⟨Nat.le_of_ble_eq_true rfl, Nat.le_of_ble_eq_true rfl⟩) rfl rfl (Nat.le_of_ble_eq_true rfl) dX3_open_1 ⟨Nat.zero_le _, Nat.zero_le _⟩ (fun ta2 => ?_)
  clear hg
  refine x_if_ne C 9 dX3_open_4 (by decide) (fun hc3 => ?_) (fun hc3 => ?_)
  · have hf := x_ine hc3 hf
    refine x_iload_n C 2 dX3_open_9 rfl ?_
    refine x_iconst (v := 1) C dX3_open_10 (by decide) ?_
    refine x_icmp_lt C 31 dX3_open_11 (by decide) (fun hc4 => ?_) (fun hc4 => ?_)
    · have hf := x_ip hc4 hf
      refine x_bipush (v := (-2)) C dX3_open_31 (by decide) ?_
      obtain rfl := Option.some.inj hf
      exact x_iret C hr hlk dX3_open_33
    · have hf := x_ine hc4 hf
      refine x_iload_n C 2 dX3_open_14 rfl ?_
      refine x_bipush (v := 99) C dX3_open_15 (by decide) ?_
      refine x_icmp_gt C 31 dX3_open_17 (by decide) (fun hc5 => ?_) (fun hc5 => ?_)
      · have hf := x_ip hc5 hf
        refine x_bipush (v := (-2)) C dX3_open_31 (by decide) ?_
        obtain rfl := Option.some.inj hf
        exact x_iret C hr hlk dX3_open_33
      · have hf := x_ine hc5 hf
        refine x_iload_n C 3 dX3_open_20 rfl ?_
        refine x_iconst (v := 1) C dX3_open_21 (by decide) ?_
        refine x_icmp_lt C 31 dX3_open_22 (by decide) (fun hc6 => ?_) (fun hc6 => ?_)
        · have hf := x_ip hc6 hf
          refine x_bipush (v := (-2)) C dX3_open_31 (by decide) ?_
          obtain rfl := Option.some.inj hf
          exact x_iret C hr hlk dX3_open_33
        · have hf := x_ine hc6 hf
          refine x_iload_n C 3 dX3_open_25 rfl ?_
          refine x_bipush (v := 9) C dX3_open_26 (by decide) ?_
          refine x_icmp_le C 34 dX3_open_28 (by decide) (fun hc7 => ?_) (fun hc7 => ?_)
          · have hf := x_ip hc7 hf
            refine x_aload_n C 0 dX3_open_34 rfl ?_
            refine x_get5 C kh i5 4 (by decide) (by decide +kernel) rfl rfl dX3_open_35 ?_
            refine x_iload_n C 1 dX3_open_38 rfl ?_
            obtain ⟨g8, hf⟩ := x_gd hf
            obtain ⟨g9, hf⟩ := x_gd hf
            refine x_aald25 C (x5_k3 kh) (x5_l3 kh) g8 dX3_open_39 ?_
            obtain ⟨q10, hg, hf⟩ := x_bd hf
            refine x_callVr C (by rw [g9]; decide) (by rw [g9]; decide) (xc7 g9) rfl (t_X5_isOpen g9 hg) (cwV 0 C.1.2.2.2.2 gX3_open_X5_isOpen rfl rfl rfl (by decide +kernel) ⟨Nat.le_of_ble_eq_true rfl, Nat.le_of_ble_eq_true rfl⟩) rfl rfl (Nat.le_of_ble_eq_true rfl) dX3_open_40 ⟨Nat.zero_le _, Nat.zero_le _⟩ (fun ta11 => ?_)
            clear hg
            refine x_if_eq C 49 dX3_open_43 (by decide) (fun hc12 => ?_) (fun hc12 => ?_)
            · have hf := x_ip hc12 hf
              refine x_aload_n C 0 dX3_open_49 rfl ?_
              refine x_get5 C kh i5 4 (by decide) (by decide +kernel) rfl rfl dX3_open_50 ?_
              refine x_iload_n C 1 dX3_open_53 rfl ?_
              obtain ⟨g13, hf⟩ := x_gd hf
              obtain ⟨g14, hf⟩ := x_gd hf
              refine x_aald25 C (x5_k3 kh) (x5_l3 kh) g13 dX3_open_54 ?_
              refine x_iload_n C 2 dX3_open_55 rfl ?_
              refine x_put7 C g14 i7 0 (by decide) (by decide +kernel) dX3_open_56 ?_
              obtain ⟨M15, e16, hf⟩ := x_lt hf
              rw [← e16]
              clear e16
              refine x_aload_n C 0 dX3_open_59 rfl ?_
              refine x_get5 C kh i5 4 (by decide) (by decide +kernel) rfl rfl dX3_open_60 ?_
              refine x_iload_n C 1 dX3_open_63 rfl ?_
              obtain ⟨g17, hf⟩ := x_gd hf
              obtain ⟨g18, hf⟩ := x_gd hf
              refine x_aald25 C (x5_k3 kh) (x5_l3 kh) g17 dX3_open_64 ?_
              refine x_iload_n C 3 dX3_open_65 rfl ?_
              refine x_put7 C g18 i7 1 (by decide) (by decide +kernel) dX3_open_66 ?_
              obtain ⟨M19, e20, hf⟩ := x_lt hf
              rw [← e20]
              clear e20
              refine x_aload_n C 0 dX3_open_69 rfl ?_
              obtain ⟨q21, hg, hf⟩ := x_bd hf
              refine x_callVr C (by rw [kh]; decide) (by rw [kh]; decide) (xc5 kh) rfl (t_X3_countOpenWindows kh hg) (cwV 0 C.1.2.2.2.2 gX3_open_X3_countOpenWindows rfl rfl rfl (by decide +kernel) ⟨Nat.le_of_ble_eq_true rfl, Nat.le_of_ble_eq_true rfl⟩) rfl rfl (Nat.le_of_ble_eq_true rfl) dX3_open_70 ⟨Nat.zero_le _, Nat.zero_le _⟩ (fun ta22 => ?_)
              clear hg
              obtain rfl := Option.some.inj hf
              exact x_iret C hr hlk dX3_open_73
            · have hf := x_ine hc12 hf
              refine x_bipush (v := (-3)) C dX3_open_46 (by decide) ?_
              obtain rfl := Option.some.inj hf
              exact x_iret C hr hlk dX3_open_48
          · have hf := x_ine hc7 hf
            refine x_bipush (v := (-2)) C dX3_open_31 (by decide) ?_
            obtain rfl := Option.some.inj hf
            exact x_iret C hr hlk dX3_open_33
  · have hf := x_ip hc3 hf
    refine x_iconst (v := (-1)) C dX3_open_7 (by decide) ?_
    obtain rfl := Option.some.inj hf
    exact x_iret C hr hlk dX3_open_8
/-! WaitingRoomSimulation$Hall.queueInFront(I)V -/
abbrev rm_X3_queueInFront (c s : Nat) : Room := { frames := 0, cells := c, slots := s, locals := 0 }
def f_X3_queueInFront_L15 (h : Nat) (v1 : Int32) : Nat → Int32 → xM → Option (xM)
  | 0, _, _ => none
  | n+1, v2, M => (if v2 ≤ 0 then if x_in (0 : Int32) 12 = true then x_let (sI M (h + 2) (0 : Int32).toNatClampNeg v1) fun M4 => x_let (sI M4 h 3 ((M4.1 h 3) + (1 : Int32))) fun M6 => some M6 else none else if x_in (v2 - (1 : Int32)) 12 = true then if x_in v2 12 = true then x_let (sI M (h + 2) v2.toNatClampNeg (M.1 (h + 2) (v2 - (1 : Int32)).toNatClampNeg)) fun M10 => f_X3_queueInFront_L15 h v1 n (v2 + (-1)) M10 else none else none)
def f_X3_queueInFront (h : Nat) (a1 : Int32) (M : xM) : Option (xM) := (if (M.1 h 3) < (12 : Int32) then f_X3_queueInFront_L15 h a1 xF (M.1 h 3) M else some M)
set_option maxHeartbeats 4000000 in
set_option maxRecDepth 100000 in
theorem t_X3_queueInFront_L15 {G : xG} {p : Program} {l : Launch} {e : Env} {s : State} {m : MethodId} {args : Array Value} {below : List Frame} {meth : Method} {c : Code} (C : xC G p s m args c cX3_queueInFront 3 wsX3_queueInFront RX3) (hr : meth.sig.returnType = none) (hlk : meth.locks = false) {h : Nat} {v1 : Int32} (kh : xkd h = 5) : ∀ (n : Nat) (v2 : Int32) (M : xM) (ta : Nat × Nat) (out : xM), f_X3_queueInFront_L15 h v1 n v2 M = some out → xW G p l e (rm_X3_queueInFront 0 0) s m args below meth c 3 (MQ below (xQr G none out) args s 0 0 (xAs G)) 0 0 ta M 15 [(0, .ref (xad G h)), (1, .int v1), (2, .int v2)] [] := by
  intro n
  induction n with
  | zero =>
    intro v2 M ta out hf
    rw [f_X3_queueInFront_L15] at hf
    cases hf
  | succ n ih =>
    intro v2 M ta out hf
    rw [f_X3_queueInFront_L15] at hf
    have i5 : ∀ w ∈ wsX30, w ∈ wsX3_queueInFront := by decide +kernel
    refine x_iload_n C 2 dX3_queueInFront_15 rfl ?_
    refine x_if_le C 39 dX3_queueInFront_16 (by decide) (fun hc2 => ?_) (fun hc2 => ?_)
    · have hf := x_ip hc2 hf
      refine x_aload_n C 0 dX3_queueInFront_39 rfl ?_
      refine x_get5 C kh i5 2 (by decide) (by decide +kernel) rfl rfl dX3_queueInFront_40 ?_
      refine x_iconst (v := 0) C dX3_queueInFront_43 (by decide) ?_
      refine x_iload_n C 1 dX3_queueInFront_44 rfl ?_
      obtain ⟨g3, hf⟩ := x_gd hf
      refine x_iast C (x5_k2 kh) (x5_l2 kh) g3 dX3_queueInFront_45 ?_
      obtain ⟨M4, e5, hf⟩ := x_lt hf
      rw [← e5]
      clear e5
      refine x_aload_n C 0 dX3_queueInFront_46 rfl ?_
      refine x_dup C dX3_queueInFront_47 rfl ?_
      refine x_get5 C kh i5 3 (by decide) (by decide +kernel) rfl rfl dX3_queueInFront_48 ?_
      refine x_iconst (v := 1) C dX3_queueInFront_51 (by decide) ?_
      refine x_iadd C dX3_queueInFront_52 ?_
      refine x_put5 C kh i5 3 (by decide) (by decide +kernel) dX3_queueInFront_53 ?_
      obtain ⟨M6, e7, hf⟩ := x_lt hf
      rw [← e7]
      clear e7
      obtain rfl := Option.some.inj hf
      exact x_vret C hr hlk dX3_queueInFront_56
    · have hf := x_ine hc2 hf
      refine x_aload_n C 0 dX3_queueInFront_19 rfl ?_
      refine x_get5 C kh i5 2 (by decide) (by decide +kernel) rfl rfl dX3_queueInFront_20 ?_
      refine x_iload_n C 2 dX3_queueInFront_23 rfl ?_
      refine x_aload_n C 0 dX3_queueInFront_24 rfl ?_
      refine x_get5 C kh i5 2 (by decide) (by decide +kernel) rfl rfl dX3_queueInFront_25 ?_
      refine x_iload_n C 2 dX3_queueInFront_28 rfl ?_
      refine x_iconst (v := 1) C dX3_queueInFront_29 (by decide) ?_
      refine x_isub C dX3_queueInFront_30 ?_
      obtain ⟨g8, hf⟩ := x_gd hf
      refine x_iald C (x5_k2 kh) (x5_l2 kh) g8 dX3_queueInFront_31 ?_
      obtain ⟨g9, hf⟩ := x_gd hf
      refine x_iast C (x5_k2 kh) (x5_l2 kh) g9 dX3_queueInFront_32 ?_
      obtain ⟨M10, e11, hf⟩ := x_lt hf
      rw [← e11]
      clear e11
      refine x_iinc (v := v2 + (-1)) (lv' := [(2, .int (v2 + (-1))), (0, .ref (xad G h)), (1, .int v1)]) C 2 dX3_queueInFront_33 rfl rfl (by decide) rfl ?_
      refine x_goto C 15 dX3_queueInFront_36 (by decide) ?_
      refine x_sub [1, 2, 0] rfl ?_
      exact ih (v2 + (-1)) M10 _ _ hf
set_option maxHeartbeats 4000000 in
set_option maxRecDepth 100000 in
theorem t_X3_queueInFront {l : Launch} {G : xG} {ta : Nat × Nat} {M : xM} {h : Nat} {a1 : Int32} {out : xM} (kh : xkd h = 5) (hf : f_X3_queueInFront h a1 M = some out) : xMet G l yX3_queueInFront wsX3_queueInFront (rm_X3_queueInFront 0 0) 0 0 ta M [.ref (xad G h), .int a1] none out := by
  refine x_met (cc := cX3_queueInFront) (nL := 3) (ret := none) (by decide) rfl (Nat.le_of_ble_eq_true rfl) ?_
  intro p e s m args below meth c C hr hlk
  have C : xC G p s m args c cX3_queueInFront 3 wsX3_queueInFront RX3 := C
  have i5 : ∀ w ∈ wsX30, w ∈ wsX3_queueInFront := by decide +kernel
  unfold f_X3_queueInFront at hf
  show xW G p l e (rm_X3_queueInFront 0 0) s m args below meth c 3 (MQ below (xQr G none out) args s 0 0 (xAs G)) 0 0 ta M 0 [(0, .ref (xad G h)), (1, .int a1)] []
  refine x_aload_n C 0 dX3_queueInFront_0 rfl ?_
  refine x_get5 C kh i5 3 (by decide) (by decide +kernel) rfl rfl dX3_queueInFront_1 ?_
  refine x_bipush (v := 12) C dX3_queueInFront_4 (by decide) ?_
  refine x_icmp_lt C 10 dX3_queueInFront_6 (by decide) (fun hc1 => ?_) (fun hc1 => ?_)
  · have hf := x_ip hc1 hf
    refine x_aload_n C 0 dX3_queueInFront_10 rfl ?_
    refine x_get5 C kh i5 3 (by decide) (by decide +kernel) rfl rfl dX3_queueInFront_11 ?_
    refine x_istore_n (lv' := [(2, .int (M.1 h 3)), (0, .ref (xad G h)), (1, .int a1)]) C dX3_queueInFront_14 rfl (by decide) rfl ?_
    refine x_sub [1, 2, 0] rfl ?_
    exact t_X3_queueInFront_L15 C hr hlk kh xF (M.1 h 3) M _ _ hf
  · have hf := x_ine hc1 hf
    obtain rfl := Option.some.inj hf
    exact x_vret C hr hlk dX3_queueInFront_9
/-! WaitingRoomSimulation$Hall.shut(LWaitingRoomSimulation$Window;)V -/
abbrev rm_X3_shut (c s : Nat) : Room := { frames := 1, cells := c, slots := s, locals := 22 }
def f_X3_shut (h : Nat) (a1 : Nat) (M : xM) : Option (xM) := x_let (sI M a1 0 (0 : Int32)) fun M1 => (if (M1.1 a1 2) = (-1 : Int32) then some M1 else (f_X3_queueInFront h (M1.1 a1 2) M1).bind fun q4 => x_let (sI q4 a1 2 (-1 : Int32)) fun M6 => some M6)
set_option maxHeartbeats 4000000 in
set_option maxRecDepth 100000 in
theorem t_X3_shut {l : Launch} {G : xG} {ta : Nat × Nat} {M : xM} {h : Nat} {a1 : Nat} {out : xM} (kh : xkd h = 5) (ka1 : xkd a1 = 7) (hf : f_X3_shut h a1 M = some out) : xMet G l yX3_shut wsX3_shut (rm_X3_shut 0 0) 0 0 ta M [.ref (xad G h), .ref (xad G a1)] none out := by
  refine x_met (cc := cX3_shut) (nL := 2) (ret := none) (by decide) rfl (Nat.le_of_ble_eq_true rfl) ?_
  intro p e s m args below meth c C hr hlk
  have C : xC G p s m args c cX3_shut 2 wsX3_shut RX3 := C
  have i7 : ∀ w ∈ wsX50, w ∈ wsX3_shut := by decide +kernel
  unfold f_X3_shut at hf
  show xW G p l e (rm_X3_shut 0 0) s m args below meth c 2 (MQ below (xQr G none out) args s 0 0 (xAs G)) 0 0 ta M 0 [(0, .ref (xad G h)), (1, .ref (xad G a1))] []
  refine x_aload_n C 1 dX3_shut_0 rfl ?_
  refine x_iconst (v := 0) C dX3_shut_1 (by decide) ?_
  refine x_put7 C ka1 i7 0 (by decide) (by decide +kernel) dX3_shut_2 ?_
  obtain ⟨M1, e2, hf⟩ := x_lt hf
  rw [← e2]
  clear e2
  refine x_aload_n C 1 dX3_shut_5 rfl ?_
  refine x_get7 C ka1 i7 2 (by decide) (by decide +kernel) rfl rfl dX3_shut_6 ?_
  refine x_iconst (v := (-1)) C dX3_shut_9 (by decide) ?_
  refine x_icmp_eq C 26 dX3_shut_10 (by decide) (fun hc3 => ?_) (fun hc3 => ?_)
  · have hf := x_ip hc3 hf
    obtain rfl := Option.some.inj hf
    exact x_vret C hr hlk dX3_shut_26
  · have hf := x_ine hc3 hf
    refine x_aload_n C 0 dX3_shut_13 rfl ?_
    refine x_aload_n C 1 dX3_shut_14 rfl ?_
    refine x_get7 C ka1 i7 2 (by decide) (by decide +kernel) rfl rfl dX3_shut_15 ?_
    obtain ⟨q4, hg, hf⟩ := x_bd hf
    refine x_callVv C (by rw [kh]; decide) (by rw [kh]; decide) (xc5 kh) rfl (t_X3_queueInFront kh hg) (cwV 1 C.1.2.2.2.2 gX3_shut_X3_queueInFront rfl rfl rfl (by decide +kernel) ⟨Nat.le_of_ble_eq_true rfl, Nat.le_of_ble_eq_true rfl⟩) rfl rfl (Nat.le_of_ble_eq_true rfl) dX3_shut_18 ⟨Nat.zero_le _, Nat.zero_le _⟩ (fun ta5 => ?_)
    clear hg
    refine x_aload_n C 1 dX3_shut_21 rfl ?_
    refine x_iconst (v := (-1)) C dX3_shut_22 (by decide) ?_
    refine x_put7 C ka1 i7 2 (by decide) (by decide +kernel) dX3_shut_23 ?_
    obtain ⟨M6, e7, hf⟩ := x_lt hf
    rw [← e7]
    clear e7
    obtain rfl := Option.some.inj hf
    exact x_vret C hr hlk dX3_shut_26
/-! WaitingRoomSimulation$Hall.close(I)I -/
abbrev rm_X3_close (c s : Nat) : Room := { frames := 2, cells := c, slots := s, locals := 43 }
def f_X3_close (h : Nat) (a1 : Int32) (M : xM) : Option (Int32 × xM) := (f_X3_hasWindow a1 M).bind fun q1 => (if q1 = 0 then some ((-1 : Int32), M) else if x_in a1 3 = true then if xkd (h + 3 + 15 + a1.toNatClampNeg) = 7 then (f_X5_isOpen (h + 3 + 15 + a1.toNatClampNeg) M).bind fun q6 => (if q6 = 0 then some ((-3 : Int32), M) else if x_in a1 3 = true then if xkd (h + 3 + 15 + a1.toNatClampNeg) = 7 then (f_X3_shut h (h + 3 + 15 + a1.toNatClampNeg) M).bind fun q11 => (f_X3_countOpenWindows h q11).bind fun q13 => some (q13, q11) else none else none) else none else none)
set_option maxHeartbeats 4000000 in
set_option maxRecDepth 100000 in
theorem t_X3_close {l : Launch} {G : xG} {ta : Nat × Nat} {M : xM} {h : Nat} {a1 : Int32} {out : Int32 × xM} (kh : xkd h = 5) (hf : f_X3_close h a1 M = some out) : xMet G l yX3_close wsX3_close (rm_X3_close 0 0) 0 0 ta M [.ref (xad G h), .int a1] (some (.int out.1)) out.2 := by
  refine x_met (cc := cX3_close) (nL := 2) (ret := some .int) (by decide) rfl (Nat.le_of_ble_eq_true rfl) ?_
  intro p e s m args below meth c C hr hlk
  have C : xC G p s m args c cX3_close 2 wsX3_close RX3 := C
  have i5 : ∀ w ∈ wsX30, w ∈ wsX3_close := by decide +kernel
  unfold f_X3_close at hf
  show xW G p l e (rm_X3_close 0 0) s m args below meth c 2 (MQ below (xQr G (some (.int out.1)) out.2) args s 0 0 (xAs G)) 0 0 ta M 0 [(0, .ref (xad G h)), (1, .int a1)] []
  refine x_iload_n C 1 dX3_close_0 rfl ?_
  obtain ⟨q1, hg, hf⟩ := x_bd hf
  refine x_callSr C (t_X3_hasWindow hg) (va_cwS 1 C.1.2.2.2.2 gX3_close_X3_hasWindow rfl rfl rfl (by decide +kernel) ⟨Nat.le_of_ble_eq_true rfl, Nat.le_of_ble_eq_true rfl⟩) rfl rfl (Nat.le_of_ble_eq_true rfl) dX3_close_1 ⟨Nat.zero_le _, Nat.zero_le _⟩ (fun ta2 => ?_)
  clear hg
  refine x_if_ne C 9 dX3_close_4 (by decide) (fun hc3 => ?_) (fun hc3 => ?_)
  · have hf := x_ine hc3 hf
    refine x_aload_n C 0 dX3_close_9 rfl ?_
    refine x_get5 C kh i5 4 (by decide) (by decide +kernel) rfl rfl dX3_close_10 ?_
    refine x_iload_n C 1 dX3_close_13 rfl ?_
    obtain ⟨g4, hf⟩ := x_gd hf
    obtain ⟨g5, hf⟩ := x_gd hf
    refine x_aald25 C (x5_k3 kh) (x5_l3 kh) g4 dX3_close_14 ?_
    obtain ⟨q6, hg, hf⟩ := x_bd hf
    refine x_callVr C (by rw [g5]; decide) (by rw [g5]; decide) (xc7 g5) rfl (t_X5_isOpen g5 hg) (cwV 0 C.1.2.2.2.2 gX3_close_X5_isOpen rfl rfl rfl (by decide +kernel) ⟨Nat.le_of_ble_eq_true rfl, Nat.le_of_ble_eq_true rfl⟩) rfl rfl (Nat.le_of_ble_eq_true rfl) dX3_close_15 ⟨Nat.zero_le _, Nat.zero_le _⟩ (fun ta7 => ?_)
    clear hg
    refine x_if_ne C 24 dX3_close_18 (by decide) (fun hc8 => ?_) (fun hc8 => ?_)
    · have hf := x_ine hc8 hf
      refine x_aload_n C 0 dX3_close_24 rfl ?_
      refine x_aload_n C 0 dX3_close_25 rfl ?_
      refine x_get5 C kh i5 4 (by decide) (by decide +kernel) rfl rfl dX3_close_26 ?_
      refine x_iload_n C 1 dX3_close_29 rfl ?_
      obtain ⟨g9, hf⟩ := x_gd hf
      obtain ⟨g10, hf⟩ := x_gd hf
      refine x_aald25 C (x5_k3 kh) (x5_l3 kh) g9 dX3_close_30 ?_
      obtain ⟨q11, hg, hf⟩ := x_bd hf
      refine x_callVv C (by rw [kh]; decide) (by rw [kh]; decide) (xc5 kh) rfl (t_X3_shut kh g10 hg) (cwV 1 C.1.2.2.2.2 gX3_close_X3_shut rfl rfl rfl (by decide +kernel) ⟨Nat.le_of_ble_eq_true rfl, Nat.le_of_ble_eq_true rfl⟩) rfl rfl (Nat.le_of_ble_eq_true rfl) dX3_close_31 ⟨Nat.zero_le _, Nat.zero_le _⟩ (fun ta12 => ?_)
      clear hg
      refine x_aload_n C 0 dX3_close_34 rfl ?_
      obtain ⟨q13, hg, hf⟩ := x_bd hf
      refine x_callVr C (by rw [kh]; decide) (by rw [kh]; decide) (xc5 kh) rfl (t_X3_countOpenWindows kh hg) (cwV 0 C.1.2.2.2.2 gX3_close_X3_countOpenWindows rfl rfl rfl (by decide +kernel) ⟨Nat.le_of_ble_eq_true rfl, Nat.le_of_ble_eq_true rfl⟩) rfl rfl (Nat.le_of_ble_eq_true rfl) dX3_close_35 ⟨Nat.zero_le _, Nat.zero_le _⟩ (fun ta14 => ?_)
      clear hg
      obtain rfl := Option.some.inj hf
      exact x_iret C hr hlk dX3_close_38
    · have hf := x_ip hc8 hf
      refine x_bipush (v := (-3)) C dX3_close_21 (by decide) ?_
      obtain rfl := Option.some.inj hf
      exact x_iret C hr hlk dX3_close_23
  · have hf := x_ip hc3 hf
    refine x_iconst (v := (-1)) C dX3_close_7 (by decide) ?_
    obtain rfl := Option.some.inj hf
    exact x_iret C hr hlk dX3_close_8
/-! WaitingRoomSimulation$Hall.callLowestTicket()I -/
abbrev rm_X3_callLowestTicket (c s : Nat) : Room := { frames := 0, cells := c, slots := s, locals := 0 }
def f_X3_callLowestTicket_L2 (h : Nat) (M : xM) : Nat → Int32 → Option (Int32 × xM)
  | 0, _ => none
  | n+1, v1 => (if (M.1 h 1) ≤ v1 then some ((-5 : Int32), M) else if x_in v1 12 = true then if xkd (M.2.1 (h + 1) v1.toNatClampNeg) = 4 then (if (M.1 (M.2.1 (h + 1) v1.toNatClampNeg) 5) = 0 then if x_in v1 12 = true then if xkd (M.2.1 (h + 1) v1.toNatClampNeg) = 4 then x_let (sI M (M.2.1 (h + 1) v1.toNatClampNeg) 5 (1 : Int32)) fun M7 => if x_in v1 12 = true then if xkd (M7.2.1 (h + 1) v1.toNatClampNeg) = 4 then some (M7.1 (M7.2.1 (h + 1) v1.toNatClampNeg) 0, M7) else none else none else none else none else f_X3_callLowestTicket_L2 h M n (v1 + 1)) else none else none)
def f_X3_callLowestTicket (h : Nat) (M : xM) : Option (Int32 × xM) := f_X3_callLowestTicket_L2 h M xF (0 : Int32)
set_option maxHeartbeats 4000000 in
set_option maxRecDepth 100000 in
theorem t_X3_callLowestTicket_L2 {G : xG} {p : Program} {l : Launch} {e : Env} {s : State} {m : MethodId} {args : Array Value} {below : List Frame} {meth : Method} {c : Code} (C : xC G p s m args c cX3_callLowestTicket 2 wsX3_callLowestTicket RX3) (hr : meth.sig.returnType = some .int) (hlk : meth.locks = false) {h : Nat} {M : xM} (kh : xkd h = 5) : ∀ (n : Nat) (v1 : Int32) (ta : Nat × Nat) (out : Int32 × xM), f_X3_callLowestTicket_L2 h M n v1 = some out → xW G p l e (rm_X3_callLowestTicket 0 0) s m args below meth c 2 (MQ below (xQr G (some (.int out.1)) out.2) args s 0 0 (xAs G)) 0 0 ta M 2 [(0, .ref (xad G h)), (1, .int v1)] [] := by
  intro n
  induction n with
  | zero =>
    intro v1 ta out hf
    rw [f_X3_callLowestTicket_L2] at hf
    cases hf
  | succ n ih =>
    intro v1 ta out hf
    rw [f_X3_callLowestTicket_L2] at hf
    have i4 : ∀ w ∈ wsX20, w ∈ wsX3_callLowestTicket := by decide +kernel
    have i5 : ∀ w ∈ wsX30, w ∈ wsX3_callLowestTicket := by decide +kernel
    refine x_iload_n C 1 dX3_callLowestTicket_2 rfl ?_
    refine x_aload_n C 0 dX3_callLowestTicket_3 rfl ?_
    refine x_get5 C kh i5 1 (by decide) (by decide +kernel) rfl rfl dX3_callLowestTicket_4 ?_
    refine x_icmp_ge C 48 dX3_callLowestTicket_7 (by decide) (fun hc1 => ?_) (fun hc1 => ?_)
    · have hf := x_ip hc1 hf
      refine x_bipush (v := (-5)) C dX3_callLowestTicket_48 (by decide) ?_
      obtain rfl := Option.some.inj hf
      exact x_iret C hr hlk dX3_callLowestTicket_50
    · have hf := x_ine hc1 hf
      refine x_aload_n C 0 dX3_callLowestTicket_10 rfl ?_
      refine x_get5 C kh i5 0 (by decide) (by decide +kernel) rfl rfl dX3_callLowestTicket_11 ?_
      refine x_iload_n C 1 dX3_callLowestTicket_14 rfl ?_
      obtain ⟨g2, hf⟩ := x_gd hf
      obtain ⟨g3, hf⟩ := x_gd hf
      refine x_aald23 C (x5_k1 kh) (x5_l1 kh) g2 dX3_callLowestTicket_15 ?_
      refine x_get4 C g3 i4 5 (by decide) (by decide +kernel) rfl rfl dX3_callLowestTicket_16 ?_
      refine x_if_ne C 42 dX3_callLowestTicket_19 (by decide) (fun hc4 => ?_) (fun hc4 => ?_)
      · have hf := x_ine hc4 hf
        refine x_iinc (v := v1 + 1) (lv' := [(1, .int (v1 + 1)), (0, .ref (xad G h))]) C 1 dX3_callLowestTicket_42 rfl rfl (by decide) rfl ?_
        refine x_goto C 2 dX3_callLowestTicket_45 (by decide) ?_
        refine x_sub [1, 0] rfl ?_
        exact ih (v1 + 1) _ _ hf
      · have hf := x_ip hc4 hf
        refine x_aload_n C 0 dX3_callLowestTicket_22 rfl ?_
        refine x_get5 C kh i5 0 (by decide) (by decide +kernel) rfl rfl dX3_callLowestTicket_23 ?_
        refine x_iload_n C 1 dX3_callLowestTicket_26 rfl ?_
        obtain ⟨g5, hf⟩ := x_gd hf
        obtain ⟨g6, hf⟩ := x_gd hf
        refine x_aald23 C (x5_k1 kh) (x5_l1 kh) g5 dX3_callLowestTicket_27 ?_
        refine x_iconst (v := 1) C dX3_callLowestTicket_28 (by decide) ?_
        refine x_putz4 C g6 i4 5 (by decide) (by decide) (by decide +kernel) dX3_callLowestTicket_29 ?_
        obtain ⟨M7, e8, hf⟩ := x_lt hf
        rw [← e8]
        clear e8
        refine x_aload_n C 0 dX3_callLowestTicket_32 rfl ?_
        refine x_get5 C kh i5 0 (by decide) (by decide +kernel) rfl rfl dX3_callLowestTicket_33 ?_
        refine x_iload_n C 1 dX3_callLowestTicket_36 rfl ?_
        obtain ⟨g9, hf⟩ := x_gd hf
        obtain ⟨g10, hf⟩ := x_gd hf
        refine x_aald23 C (x5_k1 kh) (x5_l1 kh) g9 dX3_callLowestTicket_37 ?_
        refine x_get4 C g10 i4 0 (by decide) (by decide +kernel) rfl rfl dX3_callLowestTicket_38 ?_
        obtain rfl := Option.some.inj hf
        exact x_iret C hr hlk dX3_callLowestTicket_41
set_option maxHeartbeats 4000000 in
set_option maxRecDepth 100000 in
theorem t_X3_callLowestTicket {l : Launch} {G : xG} {ta : Nat × Nat} {M : xM} {h : Nat} {out : Int32 × xM} (kh : xkd h = 5) (hf : f_X3_callLowestTicket h M = some out) : xMet G l yX3_callLowestTicket wsX3_callLowestTicket (rm_X3_callLowestTicket 0 0) 0 0 ta M [.ref (xad G h)] (some (.int out.1)) out.2 := by
  refine x_met (cc := cX3_callLowestTicket) (nL := 2) (ret := some .int) (by decide) rfl (Nat.le_of_ble_eq_true rfl) ?_
  intro p e s m args below meth c C hr hlk
  have C : xC G p s m args c cX3_callLowestTicket 2 wsX3_callLowestTicket RX3 := C
  have i4 : ∀ w ∈ wsX20, w ∈ wsX3_callLowestTicket := by decide +kernel
  have i5 : ∀ w ∈ wsX30, w ∈ wsX3_callLowestTicket := by decide +kernel
  unfold f_X3_callLowestTicket at hf
  show xW G p l e (rm_X3_callLowestTicket 0 0) s m args below meth c 2 (MQ below (xQr G (some (.int out.1)) out.2) args s 0 0 (xAs G)) 0 0 ta M 0 [(0, .ref (xad G h))] []
  refine x_iconst (v := 0) C dX3_callLowestTicket_0 (by decide) ?_
  refine x_istore_n (lv' := [(1, .int (0 : Int32)), (0, .ref (xad G h))]) C dX3_callLowestTicket_1 rfl (by decide) rfl ?_
  refine x_sub [1, 0] rfl ?_
  exact t_X3_callLowestTicket_L2 C hr hlk kh xF (0 : Int32) _ _ hf
/-! WaitingRoomSimulation$Hall.exchange(II)I -/
abbrev rm_X3_exchange (c s : Nat) : Room := { frames := 1, cells := c, slots := s, locals := 22 }
def f_X3_exchange (h : Nat) (a1 : Int32) (a2 : Int32) (M : xM) : Option (Int32 × xM) := (f_X3_hasCustomer h a1 M).bind fun q1 => (if q1 = 0 then some ((-1 : Int32), M) else (f_X3_hasCustomer h a2 M).bind fun q4 => (if q4 = 0 then some ((-1 : Int32), M) else (if a1 = a2 then some ((-2 : Int32), M) else (f_X3_positionOf h a1 M).bind fun q8 => (f_X3_positionOf h a2 M).bind fun q10 => (if q8 = (-1 : Int32) then some ((-3 : Int32), M) else (if q10 = (-1 : Int32) then some ((-3 : Int32), M) else (if q10 ≤ q8 then if x_in a2 12 = true then if xkd (M.2.1 (h + 1) a2.toNatClampNeg) = 4 then (if (2 : Int32) ≤ (M.1 (M.2.1 (h + 1) a2.toNatClampNeg) 1) then x_let (sI M (M.2.1 (h + 1) a2.toNatClampNeg) 1 ((M.1 (M.2.1 (h + 1) a2.toNatClampNeg) 1) - (2 : Int32))) fun M18 => if x_in q8 12 = true then x_let (sI M18 (h + 2) q8.toNatClampNeg a2) fun M21 => if x_in q10 12 = true then x_let (sI M21 (h + 2) q10.toNatClampNeg a1) fun M24 => some ((if 0 ≤ (q8 - q10) then (q8 - q10) else 0 - (q8 - q10)), M24) else none else none else some ((-4 : Int32), M)) else none else none else if x_in a1 12 = true then if xkd (M.2.1 (h + 1) a1.toNatClampNeg) = 4 then (if (2 : Int32) ≤ (M.1 (M.2.1 (h + 1) a1.toNatClampNeg) 1) then x_let (sI M (M.2.1 (h + 1) a1.toNatClampNeg) 1 ((M.1 (M.2.1 (h + 1) a1.toNatClampNeg) 1) - (2 : Int32))) fun M29 => if x_in q8 12 = true then x_let (sI M29 (h + 2) q8.toNatClampNeg a2) fun M32 => if x_in q10 12 = true then x_let (sI M32 (h + 2) q10.toNatClampNeg a1) fun M35 => some ((if 0 ≤ (q8 - q10) then (q8 - q10) else 0 - (q8 - q10)), M35) else none else none else some ((-4 : Int32), M)) else none else none))))))
set_option maxHeartbeats 4000000 in
set_option maxRecDepth 100000 in
theorem t_X3_exchange {l : Launch} {G : xG} {ta : Nat × Nat} {M : xM} {h : Nat} {a1 : Int32} {a2 : Int32} {out : Int32 × xM} (kh : xkd h = 5) (hf : f_X3_exchange h a1 a2 M = some out) : xMet G l yX3_exchange wsX3_exchange (rm_X3_exchange 0 0) 0 0 ta M [.ref (xad G h), .int a1, .int a2] (some (.int out.1)) out.2 := by
  refine x_met (cc := cX3_exchange) (nL := 6) (ret := some .int) (by decide) rfl (Nat.le_of_ble_eq_true rfl) ?_
  intro p e s m args below meth c C hr hlk
  have C : xC G p s m args c cX3_exchange 6 wsX3_exchange RX3 := C
  have i4 : ∀ w ∈ wsX20, w ∈ wsX3_exchange := by decide +kernel
  have i5 : ∀ w ∈ wsX30, w ∈ wsX3_exchange := by decide +kernel
  unfold f_X3_exchange at hf
  show xW G p l e (rm_X3_exchange 0 0) s m args below meth c 6 (MQ below (xQr G (some (.int out.1)) out.2) args s 0 0 (xAs G)) 0 0 ta M 0 [(0, .ref (xad G h)), (1, .int a1), (2, .int a2)] []
  refine x_aload_n C 0 dX3_exchange_0 rfl ?_
  refine x_iload_n C 1 dX3_exchange_1 rfl ?_
  obtain ⟨q1, hg, hf⟩ := x_bd hf
  refine x_callVr C (by rw [kh]; decide) (by rw [kh]; decide) (xc5 kh) rfl (t_X3_hasCustomer kh hg) (cwV 1 C.1.2.2.2.2 gX3_exchange_X3_hasCustomer rfl rfl rfl (by decide +kernel) ⟨Nat.le_of_ble_eq_true rfl, Nat.le_of_ble_eq_true rfl⟩) rfl rfl (Nat.le_of_ble_eq_true rfl) dX3_exchange_2 ⟨Nat.zero_le _, Nat.zero_le _⟩ (fun ta2 => ?_)
  clear hg
  refine x_if_eq C 16 dX3_exchange_5 (by decide) (fun hc3 => ?_) (fun hc3 => ?_)
  · have hf := x_ip hc3 hf
    refine x_iconst (v := (-1)) C dX3_exchange_16 (by decide) ?_
    obtain rfl := Option.some.inj hf
    exact x_iret C hr hlk dX3_exchange_17
  · have hf := x_ine hc3 hf
    refine x_aload_n C 0 dX3_exchange_8 rfl ?_
    refine x_iload_n C 2 dX3_exchange_9 rfl ?_
    obtain ⟨q4, hg, hf⟩ := x_bd hf
    refine x_callVr C (by rw [kh]; decide) (by rw [kh]; decide) (xc5 kh) rfl (t_X3_hasCustomer kh hg) (cwV 1 C.1.2.2.2.2 gX3_exchange_X3_hasCustomer rfl rfl rfl (by decide +kernel) ⟨Nat.le_of_ble_eq_true rfl, Nat.le_of_ble_eq_true rfl⟩) rfl rfl (Nat.le_of_ble_eq_true rfl) dX3_exchange_10 ⟨Nat.zero_le _, Nat.zero_le _⟩ (fun ta5 => ?_)
    clear hg
    refine x_if_ne C 18 dX3_exchange_13 (by decide) (fun hc6 => ?_) (fun hc6 => ?_)
    · have hf := x_ine hc6 hf
      refine x_iload_n C 1 dX3_exchange_18 rfl ?_
      refine x_iload_n C 2 dX3_exchange_19 rfl ?_
      refine x_icmp_ne C 26 dX3_exchange_20 (by decide) (fun hc7 => ?_) (fun hc7 => ?_)
      · have hf := x_ine hc7 hf
        refine x_aload_n C 0 dX3_exchange_26 rfl ?_
        refine x_iload_n C 1 dX3_exchange_27 rfl ?_
        obtain ⟨q8, hg, hf⟩ := x_bd hf
        refine x_callVr C (by rw [kh]; decide) (by rw [kh]; decide) (xc5 kh) rfl (t_X3_positionOf kh hg) (cwV 1 C.1.2.2.2.2 gX3_exchange_X3_positionOf rfl rfl rfl (by decide +kernel) ⟨Nat.le_of_ble_eq_true rfl, Nat.le_of_ble_eq_true rfl⟩) rfl rfl (Nat.le_of_ble_eq_true rfl) dX3_exchange_28 ⟨Nat.zero_le _, Nat.zero_le _⟩ (fun ta9 => ?_)
        clear hg
        refine x_istore_n (lv' := [(3, .int q8), (0, .ref (xad G h)), (1, .int a1), (2, .int a2)]) C dX3_exchange_31 rfl (by decide) rfl ?_
        refine x_aload_n C 1 dX3_exchange_32 rfl ?_
        refine x_iload_n C 3 dX3_exchange_33 rfl ?_
        obtain ⟨q10, hg, hf⟩ := x_bd hf
        refine x_callVr C (by rw [kh]; decide) (by rw [kh]; decide) (xc5 kh) rfl (t_X3_positionOf kh hg) (cwV 1 C.1.2.2.2.2 gX3_exchange_X3_positionOf rfl rfl rfl (by decide +kernel) ⟨Nat.le_of_ble_eq_true rfl, Nat.le_of_ble_eq_true rfl⟩) rfl rfl (Nat.le_of_ble_eq_true rfl) dX3_exchange_34 ⟨Nat.zero_le _, Nat.zero_le _⟩ (fun ta11 => ?_)
        clear hg
        refine x_istore (lv' := [(4, .int q10), (3, .int q8), (0, .ref (xad G h)), (1, .int a1), (2, .int a2)]) C dX3_exchange_37 (by decide) rfl ?_
        refine x_iload_n C 1 dX3_exchange_39 rfl ?_
        refine x_iconst (v := (-1)) C dX3_exchange_40 (by decide) ?_
        refine x_icmp_eq C 50 dX3_exchange_41 (by decide) (fun hc12 => ?_) (fun hc12 => ?_)
        · have hf := x_ip hc12 hf
          refine x_bipush (v := (-3)) C dX3_exchange_50 (by decide) ?_
          obtain rfl := Option.some.inj hf
          exact x_iret C hr hlk dX3_exchange_52
        · have hf := x_ine hc12 hf
          refine x_iload C 0 dX3_exchange_44 rfl ?_
          refine x_iconst (v := (-1)) C dX3_exchange_46 (by decide) ?_
          refine x_icmp_ne C 53 dX3_exchange_47 (by decide) (fun hc13 => ?_) (fun hc13 => ?_)
          · have hf := x_ine hc13 hf
            refine x_aload_n C 2 dX3_exchange_53 rfl ?_
            refine x_get5 C kh i5 0 (by decide) (by decide +kernel) rfl rfl dX3_exchange_54 ?_
            refine x_iload_n C 1 dX3_exchange_57 rfl ?_
            refine x_iload C 0 dX3_exchange_58 rfl ?_
            refine x_icmp_ge C 67 dX3_exchange_60 (by decide) (fun hc14 => ?_) (fun hc14 => ?_)
            · have hf := x_ip hc14 hf
              refine x_iload_n C 4 dX3_exchange_67 rfl ?_
              obtain ⟨g15, hf⟩ := x_gd hf
              obtain ⟨g16, hf⟩ := x_gd hf
              refine x_aald23 C (x5_k1 kh) (x5_l1 kh) g15 dX3_exchange_68 ?_
              refine x_astore (lv' := [(5, .ref (xad G (M.2.1 (h + 1) a2.toNatClampNeg))), (4, .int q10), (3, .int q8), (0, .ref (xad G h)), (1, .int a1), (2, .int a2)]) C dX3_exchange_69 (by decide) rfl ?_
              refine x_aload C 0 dX3_exchange_71 rfl ?_
              refine x_get4 C g16 i4 1 (by decide) (by decide +kernel) rfl rfl dX3_exchange_73 ?_
              refine x_iconst (v := 2) C dX3_exchange_76 (by decide) ?_
              refine x_icmp_ge C 83 dX3_exchange_77 (by decide) (fun hc17 => ?_) (fun hc17 => ?_)
              · have hf := x_ip hc17 hf
                refine x_aload C 0 dX3_exchange_83 rfl ?_
                refine x_dup C dX3_exchange_85 rfl ?_
                refine x_get4 C g16 i4 1 (by decide) (by decide +kernel) rfl rfl dX3_exchange_86 ?_
                refine x_iconst (v := 2) C dX3_exchange_89 (by decide) ?_
                refine x_isub C dX3_exchange_90 ?_
                refine x_put4 C g16 i4 1 (by decide) (by decide +kernel) dX3_exchange_91 ?_
                obtain ⟨M18, e19, hf⟩ := x_lt hf
                rw [← e19]
                clear e19
                refine x_aload_n C 3 dX3_exchange_94 rfl ?_
                refine x_get5 C kh i5 2 (by decide) (by decide +kernel) rfl rfl dX3_exchange_95 ?_
                refine x_iload_n C 2 dX3_exchange_98 rfl ?_
                refine x_iload_n C 5 dX3_exchange_99 rfl ?_
                obtain ⟨g20, hf⟩ := x_gd hf
                refine x_iast C (x5_k2 kh) (x5_l2 kh) g20 dX3_exchange_100 ?_
                obtain ⟨M21, e22, hf⟩ := x_lt hf
                rw [← e22]
                clear e22
                refine x_aload_n C 3 dX3_exchange_101 rfl ?_
                refine x_get5 C kh i5 2 (by decide) (by decide +kernel) rfl rfl dX3_exchange_102 ?_
                refine x_iload C 1 dX3_exchange_105 rfl ?_
                refine x_iload_n C 4 dX3_exchange_107 rfl ?_
                obtain ⟨g23, hf⟩ := x_gd hf
                refine x_iast C (x5_k2 kh) (x5_l2 kh) g23 dX3_exchange_108 ?_
                obtain ⟨M24, e25, hf⟩ := x_lt hf
                rw [← e25]
                clear e25
                refine x_iload_n C 2 dX3_exchange_109 rfl ?_
                refine x_iload C 1 dX3_exchange_110 rfl ?_
                refine x_isub C dX3_exchange_112 ?_
                refine x_mabs C (by decide +kernel) (by decide +kernel) (by decide +kernel) (by decide +kernel) ⟨Nat.le_of_ble_eq_true rfl, Nat.le_of_ble_eq_true rfl⟩ ⟨Nat.zero_le _, Nat.zero_le _⟩ dX3_exchange_113 ?_
                obtain rfl := Option.some.inj hf
                exact x_iret C hr hlk dX3_exchange_116
              · have hf := x_ine hc17 hf
                refine x_bipush (v := (-4)) C dX3_exchange_80 (by decide) ?_
                obtain rfl := Option.some.inj hf
                exact x_iret C hr hlk dX3_exchange_82
            · have hf := x_ine hc14 hf
              refine x_iload_n C 3 dX3_exchange_63 rfl ?_
              refine x_goto C 68 dX3_exchange_64 (by decide) ?_
              obtain ⟨g26, hf⟩ := x_gd hf
              obtain ⟨g27, hf⟩ := x_gd hf
              refine x_aald23 C (x5_k1 kh) (x5_l1 kh) g26 dX3_exchange_68 ?_
              refine x_astore (lv' := [(5, .ref (xad G (M.2.1 (h + 1) a1.toNatClampNeg))), (4, .int q10), (3, .int q8), (0, .ref (xad G h)), (1, .int a1), (2, .int a2)]) C dX3_exchange_69 (by decide) rfl ?_
              refine x_aload C 0 dX3_exchange_71 rfl ?_
              refine x_get4 C g27 i4 1 (by decide) (by decide +kernel) rfl rfl dX3_exchange_73 ?_
              refine x_iconst (v := 2) C dX3_exchange_76 (by decide) ?_
              refine x_icmp_ge C 83 dX3_exchange_77 (by decide) (fun hc28 => ?_) (fun hc28 => ?_)
              · have hf := x_ip hc28 hf
                refine x_aload C 0 dX3_exchange_83 rfl ?_
                refine x_dup C dX3_exchange_85 rfl ?_
                refine x_get4 C g27 i4 1 (by decide) (by decide +kernel) rfl rfl dX3_exchange_86 ?_
                refine x_iconst (v := 2) C dX3_exchange_89 (by decide) ?_
                refine x_isub C dX3_exchange_90 ?_
                refine x_put4 C g27 i4 1 (by decide) (by decide +kernel) dX3_exchange_91 ?_
                obtain ⟨M29, e30, hf⟩ := x_lt hf
                rw [← e30]
                clear e30
                refine x_aload_n C 3 dX3_exchange_94 rfl ?_
                refine x_get5 C kh i5 2 (by decide) (by decide +kernel) rfl rfl dX3_exchange_95 ?_
                refine x_iload_n C 2 dX3_exchange_98 rfl ?_
                refine x_iload_n C 5 dX3_exchange_99 rfl ?_
                obtain ⟨g31, hf⟩ := x_gd hf
                refine x_iast C (x5_k2 kh) (x5_l2 kh) g31 dX3_exchange_100 ?_
                obtain ⟨M32, e33, hf⟩ := x_lt hf
                rw [← e33]
                clear e33
                refine x_aload_n C 3 dX3_exchange_101 rfl ?_
                refine x_get5 C kh i5 2 (by decide) (by decide +kernel) rfl rfl dX3_exchange_102 ?_
                refine x_iload C 1 dX3_exchange_105 rfl ?_
                refine x_iload_n C 4 dX3_exchange_107 rfl ?_
                obtain ⟨g34, hf⟩ := x_gd hf
                refine x_iast C (x5_k2 kh) (x5_l2 kh) g34 dX3_exchange_108 ?_
                obtain ⟨M35, e36, hf⟩ := x_lt hf
                rw [← e36]
                clear e36
                refine x_iload_n C 2 dX3_exchange_109 rfl ?_
                refine x_iload C 1 dX3_exchange_110 rfl ?_
                refine x_isub C dX3_exchange_112 ?_
                refine x_mabs C (by decide +kernel) (by decide +kernel) (by decide +kernel) (by decide +kernel) ⟨Nat.le_of_ble_eq_true rfl, Nat.le_of_ble_eq_true rfl⟩ ⟨Nat.zero_le _, Nat.zero_le _⟩ dX3_exchange_113 ?_
                obtain rfl := Option.some.inj hf
                exact x_iret C hr hlk dX3_exchange_116
              · have hf := x_ine hc28 hf
                refine x_bipush (v := (-4)) C dX3_exchange_80 (by decide) ?_
                obtain rfl := Option.some.inj hf
                exact x_iret C hr hlk dX3_exchange_82
          · have hf := x_ip hc13 hf
            refine x_bipush (v := (-3)) C dX3_exchange_50 (by decide) ?_
            obtain rfl := Option.some.inj hf
            exact x_iret C hr hlk dX3_exchange_52
      · have hf := x_ip hc7 hf
        refine x_bipush (v := (-2)) C dX3_exchange_23 (by decide) ?_
        obtain rfl := Option.some.inj hf
        exact x_iret C hr hlk dX3_exchange_25
    · have hf := x_ip hc6 hf
      refine x_iconst (v := (-1)) C dX3_exchange_16 (by decide) ?_
      obtain rfl := Option.some.inj hf
      exact x_iret C hr hlk dX3_exchange_17
/-! WaitingRoomSimulation$Hall.seat(I)I -/
abbrev rm_X3_seat (c s : Nat) : Room := { frames := 1, cells := c, slots := s, locals := 22 }
def f_X3_seat (h : Nat) (a1 : Int32) (M : xM) : Option (Int32 × xM) := (f_X3_hasCustomer h a1 M).bind fun q1 => (if q1 = 0 then some ((-1 : Int32), M) else (f_X3_windowOf h a1 M).bind fun q4 => (if q4 = (-1 : Int32) then if x_in a1 12 = true then if xkd (M.2.1 (h + 1) a1.toNatClampNeg) = 4 then (if (M.1 (M.2.1 (h + 1) a1.toNatClampNeg) 6) = 0 then (f_X3_countSitting h M).bind fun q10 => (if q10 < (4 : Int32) then if x_in a1 12 = true then if xkd (M.2.1 (h + 1) a1.toNatClampNeg) = 4 then x_let (sI M (M.2.1 (h + 1) a1.toNatClampNeg) 6 (1 : Int32)) fun M15 => (f_X3_countSitting h M15).bind fun q17 => some (q17, M15) else none else none else some ((-4 : Int32), M)) else some ((-3 : Int32), M)) else none else none else some ((-3 : Int32), M)))
set_option maxHeartbeats 4000000 in
set_option maxRecDepth 100000 in
theorem t_X3_seat {l : Launch} {G : xG} {ta : Nat × Nat} {M : xM} {h : Nat} {a1 : Int32} {out : Int32 × xM} (kh : xkd h = 5) (hf : f_X3_seat h a1 M = some out) : xMet G l yX3_seat wsX3_seat (rm_X3_seat 0 0) 0 0 ta M [.ref (xad G h), .int a1] (some (.int out.1)) out.2 := by
  refine x_met (cc := cX3_seat) (nL := 2) (ret := some .int) (by decide) rfl (Nat.le_of_ble_eq_true rfl) ?_
  intro p e s m args below meth c C hr hlk
  have C : xC G p s m args c cX3_seat 2 wsX3_seat RX3 := C
  have i4 : ∀ w ∈ wsX20, w ∈ wsX3_seat := by decide +kernel
  have i5 : ∀ w ∈ wsX30, w ∈ wsX3_seat := by decide +kernel
  unfold f_X3_seat at hf
  show xW G p l e (rm_X3_seat 0 0) s m args below meth c 2 (MQ below (xQr G (some (.int out.1)) out.2) args s 0 0 (xAs G)) 0 0 ta M 0 [(0, .ref (xad G h)), (1, .int a1)] []
  refine x_aload_n C 0 dX3_seat_0 rfl ?_
  refine x_iload_n C 1 dX3_seat_1 rfl ?_
  obtain ⟨q1, hg, hf⟩ := x_bd hf
  refine x_callVr C (by rw [kh]; decide) (by rw [kh]; decide) (xc5 kh) rfl (t_X3_hasCustomer kh hg) (cwV 1 C.1.2.2.2.2 gX3_seat_X3_hasCustomer rfl rfl rfl (by decide +kernel) ⟨Nat.le_of_ble_eq_true rfl, Nat.le_of_ble_eq_true rfl⟩) rfl rfl (Nat.le_of_ble_eq_true rfl) dX3_seat_2 ⟨Nat.zero_le _, Nat.zero_le _⟩ (fun ta2 => ?_)
  clear hg
  refine x_if_ne C 10 dX3_seat_5 (by decide) (fun hc3 => ?_) (fun hc3 => ?_)
  · have hf := x_ine hc3 hf
    refine x_aload_n C 0 dX3_seat_10 rfl ?_
    refine x_iload_n C 1 dX3_seat_11 rfl ?_
    obtain ⟨q4, hg, hf⟩ := x_bd hf
    refine x_callVr C (by rw [kh]; decide) (by rw [kh]; decide) (xc5 kh) rfl (t_X3_windowOf kh hg) (cwV 1 C.1.2.2.2.2 gX3_seat_X3_windowOf rfl rfl rfl (by decide +kernel) ⟨Nat.le_of_ble_eq_true rfl, Nat.le_of_ble_eq_true rfl⟩) rfl rfl (Nat.le_of_ble_eq_true rfl) dX3_seat_12 ⟨Nat.zero_le _, Nat.zero_le _⟩ (fun ta5 => ?_)
    clear hg
    refine x_iconst (v := (-1)) C dX3_seat_15 (by decide) ?_
    refine x_icmp_ne C 31 dX3_seat_16 (by decide) (fun hc6 => ?_) (fun hc6 => ?_)
    · have hf := x_ine hc6 hf
      refine x_bipush (v := (-3)) C dX3_seat_31 (by decide) ?_
      obtain rfl := Option.some.inj hf
      exact x_iret C hr hlk dX3_seat_33
    · have hf := x_ip hc6 hf
      refine x_aload_n C 0 dX3_seat_19 rfl ?_
      refine x_get5 C kh i5 0 (by decide) (by decide +kernel) rfl rfl dX3_seat_20 ?_
      refine x_iload_n C 1 dX3_seat_23 rfl ?_
      obtain ⟨g7, hf⟩ := x_gd hf
      obtain ⟨g8, hf⟩ := x_gd hf
      refine x_aald23 C (x5_k1 kh) (x5_l1 kh) g7 dX3_seat_24 ?_
      refine x_get4 C g8 i4 6 (by decide) (by decide +kernel) rfl rfl dX3_seat_25 ?_
      refine x_if_eq C 34 dX3_seat_28 (by decide) (fun hc9 => ?_) (fun hc9 => ?_)
      · have hf := x_ip hc9 hf
        refine x_aload_n C 0 dX3_seat_34 rfl ?_
        obtain ⟨q10, hg, hf⟩ := x_bd hf
        refine x_callVr C (by rw [kh]; decide) (by rw [kh]; decide) (xc5 kh) rfl (t_X3_countSitting kh hg) (cwV 0 C.1.2.2.2.2 gX3_seat_X3_countSitting rfl rfl rfl (by decide +kernel) ⟨Nat.le_of_ble_eq_true rfl, Nat.le_of_ble_eq_true rfl⟩) rfl rfl (Nat.le_of_ble_eq_true rfl) dX3_seat_35 ⟨Nat.zero_le _, Nat.zero_le _⟩ (fun ta11 => ?_)
        clear hg
        refine x_iconst (v := 4) C dX3_seat_38 (by decide) ?_
        refine x_icmp_lt C 45 dX3_seat_39 (by decide) (fun hc12 => ?_) (fun hc12 => ?_)
        · have hf := x_ip hc12 hf
          refine x_aload_n C 0 dX3_seat_45 rfl ?_
          refine x_get5 C kh i5 0 (by decide) (by decide +kernel) rfl rfl dX3_seat_46 ?_
          refine x_iload_n C 1 dX3_seat_49 rfl ?_
          obtain ⟨g13, hf⟩ := x_gd hf
          obtain ⟨g14, hf⟩ := x_gd hf
          refine x_aald23 C (x5_k1 kh) (x5_l1 kh) g13 dX3_seat_50 ?_
          refine x_iconst (v := 1) C dX3_seat_51 (by decide) ?_
          refine x_putz4 C g14 i4 6 (by decide) (by decide) (by decide +kernel) dX3_seat_52 ?_
          obtain ⟨M15, e16, hf⟩ := x_lt hf
          rw [← e16]
          clear e16
          refine x_aload_n C 0 dX3_seat_55 rfl ?_
          obtain ⟨q17, hg, hf⟩ := x_bd hf
          refine x_callVr C (by rw [kh]; decide) (by rw [kh]; decide) (xc5 kh) rfl (t_X3_countSitting kh hg) (cwV 0 C.1.2.2.2.2 gX3_seat_X3_countSitting rfl rfl rfl (by decide +kernel) ⟨Nat.le_of_ble_eq_true rfl, Nat.le_of_ble_eq_true rfl⟩) rfl rfl (Nat.le_of_ble_eq_true rfl) dX3_seat_56 ⟨Nat.zero_le _, Nat.zero_le _⟩ (fun ta18 => ?_)
          clear hg
          obtain rfl := Option.some.inj hf
          exact x_iret C hr hlk dX3_seat_59
        · have hf := x_ine hc12 hf
          refine x_bipush (v := (-4)) C dX3_seat_42 (by decide) ?_
          obtain rfl := Option.some.inj hf
          exact x_iret C hr hlk dX3_seat_44
      · have hf := x_ine hc9 hf
        refine x_bipush (v := (-3)) C dX3_seat_31 (by decide) ?_
        obtain rfl := Option.some.inj hf
        exact x_iret C hr hlk dX3_seat_33
  · have hf := x_ip hc3 hf
    refine x_iconst (v := (-1)) C dX3_seat_8 (by decide) ?_
    obtain rfl := Option.some.inj hf
    exact x_iret C hr hlk dX3_seat_9
/-! WaitingRoomSimulation$Hall.unseat(I)I -/
abbrev rm_X3_unseat (c s : Nat) : Room := { frames := 1, cells := c, slots := s, locals := 22 }
def f_X3_unseat (h : Nat) (a1 : Int32) (M : xM) : Option (Int32 × xM) := (f_X3_hasCustomer h a1 M).bind fun q1 => (if q1 = 0 then some ((-1 : Int32), M) else if x_in a1 12 = true then if xkd (M.2.1 (h + 1) a1.toNatClampNeg) = 4 then (if (M.1 (M.2.1 (h + 1) a1.toNatClampNeg) 6) = 0 then some ((-3 : Int32), M) else if x_in a1 12 = true then if xkd (M.2.1 (h + 1) a1.toNatClampNeg) = 4 then x_let (sI M (M.2.1 (h + 1) a1.toNatClampNeg) 6 (0 : Int32)) fun M9 => (f_X3_countSitting h M9).bind fun q11 => some (q11, M9) else none else none) else none else none)
set_option maxHeartbeats 4000000 in
set_option maxRecDepth 100000 in
theorem t_X3_unseat {l : Launch} {G : xG} {ta : Nat × Nat} {M : xM} {h : Nat} {a1 : Int32} {out : Int32 × xM} (kh : xkd h = 5) (hf : f_X3_unseat h a1 M = some out) : xMet G l yX3_unseat wsX3_unseat (rm_X3_unseat 0 0) 0 0 ta M [.ref (xad G h), .int a1] (some (.int out.1)) out.2 := by
  refine x_met (cc := cX3_unseat) (nL := 2) (ret := some .int) (by decide) rfl (Nat.le_of_ble_eq_true rfl) ?_
  intro p e s m args below meth c C hr hlk
  have C : xC G p s m args c cX3_unseat 2 wsX3_unseat RX3 := C
  have i4 : ∀ w ∈ wsX20, w ∈ wsX3_unseat := by decide +kernel
  have i5 : ∀ w ∈ wsX30, w ∈ wsX3_unseat := by decide +kernel
  unfold f_X3_unseat at hf
  show xW G p l e (rm_X3_unseat 0 0) s m args below meth c 2 (MQ below (xQr G (some (.int out.1)) out.2) args s 0 0 (xAs G)) 0 0 ta M 0 [(0, .ref (xad G h)), (1, .int a1)] []
  refine x_aload_n C 0 dX3_unseat_0 rfl ?_
  refine x_iload_n C 1 dX3_unseat_1 rfl ?_
  obtain ⟨q1, hg, hf⟩ := x_bd hf
  refine x_callVr C (by rw [kh]; decide) (by rw [kh]; decide) (xc5 kh) rfl (t_X3_hasCustomer kh hg) (cwV 1 C.1.2.2.2.2 gX3_unseat_X3_hasCustomer rfl rfl rfl (by decide +kernel) ⟨Nat.le_of_ble_eq_true rfl, Nat.le_of_ble_eq_true rfl⟩) rfl rfl (Nat.le_of_ble_eq_true rfl) dX3_unseat_2 ⟨Nat.zero_le _, Nat.zero_le _⟩ (fun ta2 => ?_)
  clear hg
  refine x_if_ne C 10 dX3_unseat_5 (by decide) (fun hc3 => ?_) (fun hc3 => ?_)
  · have hf := x_ine hc3 hf
    refine x_aload_n C 0 dX3_unseat_10 rfl ?_
    refine x_get5 C kh i5 0 (by decide) (by decide +kernel) rfl rfl dX3_unseat_11 ?_
    refine x_iload_n C 1 dX3_unseat_14 rfl ?_
    obtain ⟨g4, hf⟩ := x_gd hf
    obtain ⟨g5, hf⟩ := x_gd hf
    refine x_aald23 C (x5_k1 kh) (x5_l1 kh) g4 dX3_unseat_15 ?_
    refine x_get4 C g5 i4 6 (by decide) (by decide +kernel) rfl rfl dX3_unseat_16 ?_
    refine x_if_ne C 25 dX3_unseat_19 (by decide) (fun hc6 => ?_) (fun hc6 => ?_)
    · have hf := x_ine hc6 hf
      refine x_aload_n C 0 dX3_unseat_25 rfl ?_
      refine x_get5 C kh i5 0 (by decide) (by decide +kernel) rfl rfl dX3_unseat_26 ?_
      refine x_iload_n C 1 dX3_unseat_29 rfl ?_
      obtain ⟨g7, hf⟩ := x_gd hf
      obtain ⟨g8, hf⟩ := x_gd hf
      refine x_aald23 C (x5_k1 kh) (x5_l1 kh) g7 dX3_unseat_30 ?_
      refine x_iconst (v := 0) C dX3_unseat_31 (by decide) ?_
      refine x_putz4 C g8 i4 6 (by decide) (by decide) (by decide +kernel) dX3_unseat_32 ?_
      obtain ⟨M9, e10, hf⟩ := x_lt hf
      rw [← e10]
      clear e10
      refine x_aload_n C 0 dX3_unseat_35 rfl ?_
      obtain ⟨q11, hg, hf⟩ := x_bd hf
      refine x_callVr C (by rw [kh]; decide) (by rw [kh]; decide) (xc5 kh) rfl (t_X3_countSitting kh hg) (cwV 0 C.1.2.2.2.2 gX3_unseat_X3_countSitting rfl rfl rfl (by decide +kernel) ⟨Nat.le_of_ble_eq_true rfl, Nat.le_of_ble_eq_true rfl⟩) rfl rfl (Nat.le_of_ble_eq_true rfl) dX3_unseat_36 ⟨Nat.zero_le _, Nat.zero_le _⟩ (fun ta12 => ?_)
      clear hg
      obtain rfl := Option.some.inj hf
      exact x_iret C hr hlk dX3_unseat_39
    · have hf := x_ip hc6 hf
      refine x_bipush (v := (-3)) C dX3_unseat_22 (by decide) ?_
      obtain rfl := Option.some.inj hf
      exact x_iret C hr hlk dX3_unseat_24
  · have hf := x_ip hc3 hf
    refine x_iconst (v := (-1)) C dX3_unseat_8 (by decide) ?_
    obtain rfl := Option.some.inj hf
    exact x_iret C hr hlk dX3_unseat_9
/-! WaitingRoomSimulation$Hall.takeFromQueue(I)V -/
abbrev rm_X3_takeFromQueue (c s : Nat) : Room := { frames := 0, cells := c, slots := s, locals := 0 }
def f_X3_takeFromQueue_L4 (h : Nat) : Nat → Int32 → xM → Option (xM)
  | 0, _, _ => none
  | n+1, v2, M => (if (M.1 h 3) ≤ v2 then x_let (sI M h 3 ((M.1 h 3) - (1 : Int32))) fun M2 => some M2 else if x_in v2 12 = true then if x_in (v2 - (1 : Int32)) 12 = true then x_let (sI M (h + 2) (v2 - (1 : Int32)).toNatClampNeg (M.1 (h + 2) v2.toNatClampNeg)) fun M6 => f_X3_takeFromQueue_L4 h n (v2 + 1) M6 else none else none)
def f_X3_takeFromQueue (h : Nat) (a1 : Int32) (M : xM) : Option (xM) := f_X3_takeFromQueue_L4 h xF (a1 + (1 : Int32)) M
set_option maxHeartbeats 4000000 in
set_option maxRecDepth 100000 in
theorem t_X3_takeFromQueue_L4 {G : xG} {p : Program} {l : Launch} {e : Env} {s : State} {m : MethodId} {args : Array Value} {below : List Frame} {meth : Method} {c : Code} (C : xC G p s m args c cX3_takeFromQueue 3 wsX3_takeFromQueue RX3) (hr : meth.sig.returnType = none) (hlk : meth.locks = false) {h : Nat} (kh : xkd h = 5) : ∀ (n : Nat) (v2 : Int32) (M : xM) (ta : Nat × Nat) (out : xM), f_X3_takeFromQueue_L4 h n v2 M = some out → xW G p l e (rm_X3_takeFromQueue 0 0) s m args below meth c 3 (MQ below (xQr G none out) args s 0 0 (xAs G)) 0 0 ta M 4 [(0, .ref (xad G h)), (2, .int v2)] [] := by
  intro n
  induction n with
  | zero =>
    intro v2 M ta out hf
    rw [f_X3_takeFromQueue_L4] at hf
    cases hf
  | succ n ih =>
    intro v2 M ta out hf
    rw [f_X3_takeFromQueue_L4] at hf
    have i5 : ∀ w ∈ wsX30, w ∈ wsX3_takeFromQueue := by decide +kernel
    refine x_iload_n C 1 dX3_takeFromQueue_4 rfl ?_
    refine x_aload_n C 0 dX3_takeFromQueue_5 rfl ?_
    refine x_get5 C kh i5 3 (by decide) (by decide +kernel) rfl rfl dX3_takeFromQueue_6 ?_
    refine x_icmp_ge C 32 dX3_takeFromQueue_9 (by decide) (fun hc1 => ?_) (fun hc1 => ?_)
    · have hf := x_ip hc1 hf
      refine x_aload_n C 0 dX3_takeFromQueue_32 rfl ?_
      refine x_dup C dX3_takeFromQueue_33 rfl ?_
      refine x_get5 C kh i5 3 (by decide) (by decide +kernel) rfl rfl dX3_takeFromQueue_34 ?_
      refine x_iconst (v := 1) C dX3_takeFromQueue_37 (by decide) ?_
      refine x_isub C dX3_takeFromQueue_38 ?_
      refine x_put5 C kh i5 3 (by decide) (by decide +kernel) dX3_takeFromQueue_39 ?_
      obtain ⟨M2, e3, hf⟩ := x_lt hf
      rw [← e3]
      clear e3
      obtain rfl := Option.some.inj hf
      exact x_vret C hr hlk dX3_takeFromQueue_42
    · have hf := x_ine hc1 hf
      refine x_aload_n C 0 dX3_takeFromQueue_12 rfl ?_
      refine x_get5 C kh i5 2 (by decide) (by decide +kernel) rfl rfl dX3_takeFromQueue_13 ?_
      refine x_iload_n C 1 dX3_takeFromQueue_16 rfl ?_
      refine x_iconst (v := 1) C dX3_takeFromQueue_17 (by decide) ?_
      refine x_isub C dX3_takeFromQueue_18 ?_
      refine x_aload_n C 0 dX3_takeFromQueue_19 rfl ?_
      refine x_get5 C kh i5 2 (by decide) (by decide +kernel) rfl rfl dX3_takeFromQueue_20 ?_
      refine x_iload_n C 1 dX3_takeFromQueue_23 rfl ?_
      obtain ⟨g4, hf⟩ := x_gd hf
      refine x_iald C (x5_k2 kh) (x5_l2 kh) g4 dX3_takeFromQueue_24 ?_
      obtain ⟨g5, hf⟩ := x_gd hf
      refine x_iast C (x5_k2 kh) (x5_l2 kh) g5 dX3_takeFromQueue_25 ?_
      obtain ⟨M6, e7, hf⟩ := x_lt hf
      rw [← e7]
      clear e7
      refine x_iinc (v := v2 + 1) (lv' := [(2, .int (v2 + 1)), (0, .ref (xad G h))]) C 1 dX3_takeFromQueue_26 rfl rfl (by decide) rfl ?_
      refine x_goto C 4 dX3_takeFromQueue_29 (by decide) ?_
      refine x_sub [1, 0] rfl ?_
      exact ih (v2 + 1) M6 _ _ hf
set_option maxHeartbeats 4000000 in
set_option maxRecDepth 100000 in
theorem t_X3_takeFromQueue {l : Launch} {G : xG} {ta : Nat × Nat} {M : xM} {h : Nat} {a1 : Int32} {out : xM} (kh : xkd h = 5) (hf : f_X3_takeFromQueue h a1 M = some out) : xMet G l yX3_takeFromQueue wsX3_takeFromQueue (rm_X3_takeFromQueue 0 0) 0 0 ta M [.ref (xad G h), .int a1] none out := by
  refine x_met (cc := cX3_takeFromQueue) (nL := 3) (ret := none) (by decide) rfl (Nat.le_of_ble_eq_true rfl) ?_
  intro p e s m args below meth c C hr hlk
  have C : xC G p s m args c cX3_takeFromQueue 3 wsX3_takeFromQueue RX3 := C
  have i5 : ∀ w ∈ wsX30, w ∈ wsX3_takeFromQueue := by decide +kernel
  unfold f_X3_takeFromQueue at hf
  show xW G p l e (rm_X3_takeFromQueue 0 0) s m args below meth c 3 (MQ below (xQr G none out) args s 0 0 (xAs G)) 0 0 ta M 0 [(0, .ref (xad G h)), (1, .int a1)] []
  refine x_iload_n C 1 dX3_takeFromQueue_0 rfl ?_
  refine x_iconst (v := 1) C dX3_takeFromQueue_1 (by decide) ?_
  refine x_iadd C dX3_takeFromQueue_2 ?_
  refine x_istore_n (lv' := [(2, .int (a1 + (1 : Int32))), (0, .ref (xad G h)), (1, .int a1)]) C dX3_takeFromQueue_3 rfl (by decide) rfl ?_
  refine x_sub [1, 0] rfl ?_
  exact t_X3_takeFromQueue_L4 C hr hlk kh xF (a1 + (1 : Int32)) M _ _ hf
/-! WaitingRoomSimulation$Hall.renumberAfter(I)V -/
abbrev rm_X3_renumberAfter (c s : Nat) : Room := { frames := 0, cells := c, slots := s, locals := 0 }
def f_X3_renumberAfter_L38 (h : Nat) (v1 : Int32) : Nat → Int32 → xM → Option (xM)
  | 0, _, _ => none
  | n+1, v2, M => (if (3 : Int32) ≤ v2 then some M else if x_in v2 3 = true then if xkd (h + 3 + 15 + v2.toNatClampNeg) = 7 then (if (M.1 (h + 3 + 15 + v2.toNatClampNeg) 2) ≤ v1 then f_X3_renumberAfter_L38 h v1 n (v2 + 1) M else if x_in v2 3 = true then if xkd (h + 3 + 15 + v2.toNatClampNeg) = 7 then x_let (sI M (h + 3 + 15 + v2.toNatClampNeg) 2 ((M.1 (h + 3 + 15 + v2.toNatClampNeg) 2) - (1 : Int32))) fun M8 => f_X3_renumberAfter_L38 h v1 n (v2 + 1) M8 else none else none) else none else none)
def f_X3_renumberAfter_L2 (h : Nat) (v1 : Int32) : Nat → Int32 → xM → Option (xM)
  | 0, _, _ => none
  | n+1, v2, M => (if (M.1 h 3) ≤ v2 then f_X3_renumberAfter_L38 h v1 xF (0 : Int32) M else if x_in v2 12 = true then (if (M.1 (h + 2) v2.toNatClampNeg) ≤ v1 then f_X3_renumberAfter_L2 h v1 n (v2 + 1) M else if x_in v2 12 = true then if x_in v2 12 = true then x_let (sI M (h + 2) v2.toNatClampNeg ((M.1 (h + 2) v2.toNatClampNeg) - (1 : Int32))) fun M14 => f_X3_renumberAfter_L2 h v1 n (v2 + 1) M14 else none else none) else none)
def f_X3_renumberAfter (h : Nat) (a1 : Int32) (M : xM) : Option (xM) := f_X3_renumberAfter_L2 h a1 xF (0 : Int32) M
set_option maxHeartbeats 4000000 in
set_option maxRecDepth 100000 in
theorem t_X3_renumberAfter_L38 {G : xG} {p : Program} {l : Launch} {e : Env} {s : State} {m : MethodId} {args : Array Value} {below : List Frame} {meth : Method} {c : Code} (C : xC G p s m args c cX3_renumberAfter 3 wsX3_renumberAfter RX3) (hr : meth.sig.returnType = none) (hlk : meth.locks = false) {h : Nat} {v1 : Int32} (kh : xkd h = 5) : ∀ (n : Nat) (v2 : Int32) (M : xM) (ta : Nat × Nat) (out : xM), f_X3_renumberAfter_L38 h v1 n v2 M = some out → xW G p l e (rm_X3_renumberAfter 0 0) s m args below meth c 3 (MQ below (xQr G none out) args s 0 0 (xAs G)) 0 0 ta M 38 [(0, .ref (xad G h)), (1, .int v1), (2, .int v2)] [] := by
  intro n
  induction n with
  | zero =>
    intro v2 M ta out hf
    rw [f_X3_renumberAfter_L38] at hf
    cases hf
  | succ n ih =>
    intro v2 M ta out hf
    rw [f_X3_renumberAfter_L38] at hf
    have i5 : ∀ w ∈ wsX30, w ∈ wsX3_renumberAfter := by decide +kernel
    have i7 : ∀ w ∈ wsX50, w ∈ wsX3_renumberAfter := by decide +kernel
    refine x_iload_n C 2 dX3_renumberAfter_38 rfl ?_
    refine x_iconst (v := 3) C dX3_renumberAfter_39 (by decide) ?_
    refine x_icmp_ge C 77 dX3_renumberAfter_40 (by decide) (fun hc2 => ?_) (fun hc2 => ?_)
    · have hf := x_ip hc2 hf
      obtain rfl := Option.some.inj hf
      exact x_vret C hr hlk dX3_renumberAfter_77
    · have hf := x_ine hc2 hf
      refine x_aload_n C 0 dX3_renumberAfter_43 rfl ?_
      refine x_get5 C kh i5 4 (by decide) (by decide +kernel) rfl rfl dX3_renumberAfter_44 ?_
      refine x_iload_n C 2 dX3_renumberAfter_47 rfl ?_
      obtain ⟨g3, hf⟩ := x_gd hf
      obtain ⟨g4, hf⟩ := x_gd hf
      refine x_aald25 C (x5_k3 kh) (x5_l3 kh) g3 dX3_renumberAfter_48 ?_
      refine x_get7 C g4 i7 2 (by decide) (by decide +kernel) rfl rfl dX3_renumberAfter_49 ?_
      refine x_iload_n C 1 dX3_renumberAfter_52 rfl ?_
      refine x_icmp_le C 71 dX3_renumberAfter_53 (by decide) (fun hc5 => ?_) (fun hc5 => ?_)
      · have hf := x_ip hc5 hf
        refine x_iinc (v := v2 + 1) (lv' := [(2, .int (v2 + 1)), (0, .ref (xad G h)), (1, .int v1)]) C 2 dX3_renumberAfter_71 rfl rfl (by decide) rfl ?_
        refine x_goto C 38 dX3_renumberAfter_74 (by decide) ?_
        refine x_sub [1, 2, 0] rfl ?_
        exact ih (v2 + 1) M _ _ hf
      · have hf := x_ine hc5 hf
        refine x_aload_n C 0 dX3_renumberAfter_56 rfl ?_
        refine x_get5 C kh i5 4 (by decide) (by decide +kernel) rfl rfl dX3_renumberAfter_57 ?_
        refine x_iload_n C 2 dX3_renumberAfter_60 rfl ?_
        obtain ⟨g6, hf⟩ := x_gd hf
        obtain ⟨g7, hf⟩ := x_gd hf
        refine x_aald25 C (x5_k3 kh) (x5_l3 kh) g6 dX3_renumberAfter_61 ?_
        refine x_dup C dX3_renumberAfter_62 rfl ?_
        refine x_get7 C g7 i7 2 (by decide) (by decide +kernel) rfl rfl dX3_renumberAfter_63 ?_
        refine x_iconst (v := 1) C dX3_renumberAfter_66 (by decide) ?_
        refine x_isub C dX3_renumberAfter_67 ?_
        refine x_put7 C g7 i7 2 (by decide) (by decide +kernel) dX3_renumberAfter_68 ?_
        obtain ⟨M8, e9, hf⟩ := x_lt hf
        rw [← e9]
        clear e9
        refine x_iinc (v := v2 + 1) (lv' := [(2, .int (v2 + 1)), (0, .ref (xad G h)), (1, .int v1)]) C 2 dX3_renumberAfter_71 rfl rfl (by decide) rfl ?_
        refine x_goto C 38 dX3_renumberAfter_74 (by decide) ?_
        refine x_sub [1, 2, 0] rfl ?_
        exact ih (v2 + 1) M8 _ _ hf
set_option maxHeartbeats 4000000 in
set_option maxRecDepth 100000 in
theorem t_X3_renumberAfter_L2 {G : xG} {p : Program} {l : Launch} {e : Env} {s : State} {m : MethodId} {args : Array Value} {below : List Frame} {meth : Method} {c : Code} (C : xC G p s m args c cX3_renumberAfter 3 wsX3_renumberAfter RX3) (hr : meth.sig.returnType = none) (hlk : meth.locks = false) {h : Nat} {v1 : Int32} (kh : xkd h = 5) : ∀ (n : Nat) (v2 : Int32) (M : xM) (ta : Nat × Nat) (out : xM), f_X3_renumberAfter_L2 h v1 n v2 M = some out → xW G p l e (rm_X3_renumberAfter 0 0) s m args below meth c 3 (MQ below (xQr G none out) args s 0 0 (xAs G)) 0 0 ta M 2 [(0, .ref (xad G h)), (1, .int v1), (2, .int v2)] [] := by
  intro n
  induction n with
  | zero =>
    intro v2 M ta out hf
    rw [f_X3_renumberAfter_L2] at hf
    cases hf
  | succ n ih =>
    intro v2 M ta out hf
    rw [f_X3_renumberAfter_L2] at hf
    have i5 : ∀ w ∈ wsX30, w ∈ wsX3_renumberAfter := by decide +kernel
    have i7 : ∀ w ∈ wsX50, w ∈ wsX3_renumberAfter := by decide +kernel
    refine x_iload_n C 2 dX3_renumberAfter_2 rfl ?_
    refine x_aload_n C 0 dX3_renumberAfter_3 rfl ?_
    refine x_get5 C kh i5 3 (by decide) (by decide +kernel) rfl rfl dX3_renumberAfter_4 ?_
    refine x_icmp_ge C 36 dX3_renumberAfter_7 (by decide) (fun hc1 => ?_) (fun hc1 => ?_)
    · have hf := x_ip hc1 hf
      refine x_iconst (v := 0) C dX3_renumberAfter_36 (by decide) ?_
      refine x_istore_n (lv' := [(2, .int (0 : Int32)), (0, .ref (xad G h)), (1, .int v1)]) C dX3_renumberAfter_37 rfl (by decide) rfl ?_
      refine x_sub [1, 2, 0] rfl ?_
      exact t_X3_renumberAfter_L38 C hr hlk kh xF (0 : Int32) M _ _ hf
    · have hf := x_ine hc1 hf
      refine x_aload_n C 0 dX3_renumberAfter_10 rfl ?_
      refine x_get5 C kh i5 2 (by decide) (by decide +kernel) rfl rfl dX3_renumberAfter_11 ?_
      refine x_iload_n C 2 dX3_renumberAfter_14 rfl ?_
      obtain ⟨g10, hf⟩ := x_gd hf
      refine x_iald C (x5_k2 kh) (x5_l2 kh) g10 dX3_renumberAfter_15 ?_
      refine x_iload_n C 1 dX3_renumberAfter_16 rfl ?_
      refine x_icmp_le C 30 dX3_renumberAfter_17 (by decide) (fun hc11 => ?_) (fun hc11 => ?_)
      · have hf := x_ip hc11 hf
        refine x_iinc (v := v2 + 1) (lv' := [(2, .int (v2 + 1)), (0, .ref (xad G h)), (1, .int v1)]) C 2 dX3_renumberAfter_30 rfl rfl (by decide) rfl ?_
        refine x_goto C 2 dX3_renumberAfter_33 (by decide) ?_
        refine x_sub [1, 2, 0] rfl ?_
        exact ih (v2 + 1) M _ _ hf
      · have hf := x_ine hc11 hf
        refine x_aload_n C 0 dX3_renumberAfter_20 rfl ?_
        refine x_get5 C kh i5 2 (by decide) (by decide +kernel) rfl rfl dX3_renumberAfter_21 ?_
        refine x_iload_n C 2 dX3_renumberAfter_24 rfl ?_
        refine x_dup2 C dX3_renumberAfter_25 rfl rfl ?_
        obtain ⟨g12, hf⟩ := x_gd hf
        refine x_iald C (x5_k2 kh) (x5_l2 kh) g12 dX3_renumberAfter_26 ?_
        refine x_iconst (v := 1) C dX3_renumberAfter_27 (by decide) ?_
        refine x_isub C dX3_renumberAfter_28 ?_
        obtain ⟨g13, hf⟩ := x_gd hf
        refine x_iast C (x5_k2 kh) (x5_l2 kh) g13 dX3_renumberAfter_29 ?_
        obtain ⟨M14, e15, hf⟩ := x_lt hf
        rw [← e15]
        clear e15
        refine x_iinc (v := v2 + 1) (lv' := [(2, .int (v2 + 1)), (0, .ref (xad G h)), (1, .int v1)]) C 2 dX3_renumberAfter_30 rfl rfl (by decide) rfl ?_
        refine x_goto C 2 dX3_renumberAfter_33 (by decide) ?_
        refine x_sub [1, 2, 0] rfl ?_
        exact ih (v2 + 1) M14 _ _ hf
set_option maxHeartbeats 4000000 in
set_option maxRecDepth 100000 in
theorem t_X3_renumberAfter {l : Launch} {G : xG} {ta : Nat × Nat} {M : xM} {h : Nat} {a1 : Int32} {out : xM} (kh : xkd h = 5) (hf : f_X3_renumberAfter h a1 M = some out) : xMet G l yX3_renumberAfter wsX3_renumberAfter (rm_X3_renumberAfter 0 0) 0 0 ta M [.ref (xad G h), .int a1] none out := by
  refine x_met (cc := cX3_renumberAfter) (nL := 3) (ret := none) (by decide) rfl (Nat.le_of_ble_eq_true rfl) ?_
  intro p e s m args below meth c C hr hlk
  have C : xC G p s m args c cX3_renumberAfter 3 wsX3_renumberAfter RX3 := C
  have i5 : ∀ w ∈ wsX30, w ∈ wsX3_renumberAfter := by decide +kernel
  have i7 : ∀ w ∈ wsX50, w ∈ wsX3_renumberAfter := by decide +kernel
  unfold f_X3_renumberAfter at hf
  show xW G p l e (rm_X3_renumberAfter 0 0) s m args below meth c 3 (MQ below (xQr G none out) args s 0 0 (xAs G)) 0 0 ta M 0 [(0, .ref (xad G h)), (1, .int a1)] []
  refine x_iconst (v := 0) C dX3_renumberAfter_0 (by decide) ?_
  refine x_istore_n (lv' := [(2, .int (0 : Int32)), (0, .ref (xad G h)), (1, .int a1)]) C dX3_renumberAfter_1 rfl (by decide) rfl ?_
  refine x_sub [1, 2, 0] rfl ?_
  exact t_X3_renumberAfter_L2 C hr hlk kh xF (0 : Int32) M _ _ hf
/-! WaitingRoomSimulation$Hall.leave(I)V -/
abbrev rm_X3_leave (c s : Nat) : Room := { frames := 1, cells := c, slots := s, locals := 22 }
def f_X3_leave_L50 (h : Nat) (v1 : Int32) (r4 : Nat) : Nat → Int32 → xM → Option (xM)
  | 0, _, _ => none
  | n+1, v5, M => (if (M.1 h 1) ≤ v5 then x_let (sI M h 1 ((M.1 h 1) - (1 : Int32))) fun M10 => if x_in (M10.1 h 1) 12 = true then x_let (sP M10 (h + 1) (M10.1 h 1).toNatClampNeg r4) fun M13 => (f_X3_renumberAfter h v1 M13).bind fun q15 => some q15 else none else if x_in v5 12 = true then if xkd (M.2.1 (h + 1) v5.toNatClampNeg) = 4 then if x_in (v5 - (1 : Int32)) 12 = true then x_let (sP M (h + 1) (v5 - (1 : Int32)).toNatClampNeg (M.2.1 (h + 1) v5.toNatClampNeg)) fun M20 => f_X3_leave_L50 h v1 r4 n (v5 + 1) M20 else none else none else none)
def f_X3_leave (h : Nat) (a1 : Int32) (M : xM) : Option (xM) := (f_X3_positionOf h a1 M).bind fun q1 => (if q1 = (-1 : Int32) then (f_X3_windowOf h a1 M).bind fun q4 => (if q4 = (-1 : Int32) then if x_in a1 12 = true then if xkd (M.2.1 (h + 1) a1.toNatClampNeg) = 4 then f_X3_leave_L50 h a1 (M.2.1 (h + 1) a1.toNatClampNeg) xF (a1 + (1 : Int32)) M else none else none else if x_in q4 3 = true then if xkd (h + 3 + 15 + q4.toNatClampNeg) = 7 then x_let (sI M (h + 3 + 15 + q4.toNatClampNeg) 2 (-1 : Int32)) fun M24 => if x_in a1 12 = true then if xkd (M24.2.1 (h + 1) a1.toNatClampNeg) = 4 then f_X3_leave_L50 h a1 (M24.2.1 (h + 1) a1.toNatClampNeg) xF (a1 + (1 : Int32)) M24 else none else none else none else none) else (f_X3_takeFromQueue h q1 M).bind fun q28 => (f_X3_windowOf h a1 q28).bind fun q30 => (if q30 = (-1 : Int32) then if x_in a1 12 = true then if xkd (q28.2.1 (h + 1) a1.toNatClampNeg) = 4 then f_X3_leave_L50 h a1 (q28.2.1 (h + 1) a1.toNatClampNeg) xF (a1 + (1 : Int32)) q28 else none else none else if x_in q30 3 = true then if xkd (h + 3 + 15 + q30.toNatClampNeg) = 7 then x_let (sI q28 (h + 3 + 15 + q30.toNatClampNeg) 2 (-1 : Int32)) fun M37 => if x_in a1 12 = true then if xkd (M37.2.1 (h + 1) a1.toNatClampNeg) = 4 then f_X3_leave_L50 h a1 (M37.2.1 (h + 1) a1.toNatClampNeg) xF (a1 + (1 : Int32)) M37 else none else none else none else none))
set_option maxHeartbeats 4000000 in
set_option maxRecDepth 100000 in
theorem t_X3_leave_L50 {G : xG} {p : Program} {l : Launch} {e : Env} {s : State} {m : MethodId} {args : Array Value} {below : List Frame} {meth : Method} {c : Code} (C : xC G p s m args c cX3_leave 6 wsX3_leave RX3) (hr : meth.sig.returnType = none) (hlk : meth.locks = false) {h : Nat} {v1 : Int32} {r4 : Nat} (kh : xkd h = 5) (kr4 : xkd r4 = 4) : ∀ (n : Nat) (v5 : Int32) (M : xM) (ta : Nat × Nat) (out : xM), f_X3_leave_L50 h v1 r4 n v5 M = some out → xW G p l e (rm_X3_leave 0 0) s m args below meth c 6 (MQ below (xQr G none out) args s 0 0 (xAs G)) 0 0 ta M 50 [(0, .ref (xad G h)), (1, .int v1), (4, .ref (xad G r4)), (5, .int v5)] [] := by
  intro n
  induction n with
  | zero =>
    intro v5 M ta out hf
    rw [f_X3_leave_L50] at hf
    cases hf
  | succ n ih =>
    intro v5 M ta out hf
    rw [f_X3_leave_L50] at hf
    have i5 : ∀ w ∈ wsX30, w ∈ wsX3_leave := by decide +kernel
    have i7 : ∀ w ∈ wsX50, w ∈ wsX3_leave := by decide +kernel
    refine x_iload C 3 dX3_leave_50 rfl ?_
    refine x_aload_n C 0 dX3_leave_52 rfl ?_
    refine x_get5 C kh i5 1 (by decide) (by decide +kernel) rfl rfl dX3_leave_53 ?_
    refine x_icmp_ge C 81 dX3_leave_56 (by decide) (fun hc9 => ?_) (fun hc9 => ?_)
    · have hf := x_ip hc9 hf
      refine x_aload_n C 0 dX3_leave_81 rfl ?_
      refine x_dup C dX3_leave_82 rfl ?_
      refine x_get5 C kh i5 1 (by decide) (by decide +kernel) rfl rfl dX3_leave_83 ?_
      refine x_iconst (v := 1) C dX3_leave_86 (by decide) ?_
      refine x_isub C dX3_leave_87 ?_
      refine x_put5 C kh i5 1 (by decide) (by decide +kernel) dX3_leave_88 ?_
      obtain ⟨M10, e11, hf⟩ := x_lt hf
      rw [← e11]
      clear e11
      refine x_aload_n C 0 dX3_leave_91 rfl ?_
      refine x_get5 C kh i5 0 (by decide) (by decide +kernel) rfl rfl dX3_leave_92 ?_
      refine x_aload_n C 0 dX3_leave_95 rfl ?_
      refine x_get5 C kh i5 1 (by decide) (by decide +kernel) rfl rfl dX3_leave_96 ?_
      refine x_aload C 2 dX3_leave_99 rfl ?_
      obtain ⟨g12, hf⟩ := x_gd hf
      refine x_aast23 C (x5_k1 kh) (x5_l1 kh) kr4 g12 dX3_leave_101 ?_
      obtain ⟨M13, e14, hf⟩ := x_lt hf
      rw [← e14]
      clear e14
      refine x_aload_n C 0 dX3_leave_102 rfl ?_
      refine x_iload_n C 1 dX3_leave_103 rfl ?_
      obtain ⟨q15, hg, hf⟩ := x_bd hf
      refine x_callVv C (by rw [kh]; decide) (by rw [kh]; decide) (xc5 kh) rfl (t_X3_renumberAfter kh hg) (cwV 1 C.1.2.2.2.2 gX3_leave_X3_renumberAfter rfl rfl rfl (by decide +kernel) ⟨Nat.le_of_ble_eq_true rfl, Nat.le_of_ble_eq_true rfl⟩) rfl rfl (Nat.le_of_ble_eq_true rfl) dX3_leave_104 ⟨Nat.zero_le _, Nat.zero_le _⟩ (fun ta16 => ?_)
      clear hg
      obtain rfl := Option.some.inj hf
      exact x_vret C hr hlk dX3_leave_107
    · have hf := x_ine hc9 hf
      refine x_aload_n C 0 dX3_leave_59 rfl ?_
      refine x_get5 C kh i5 0 (by decide) (by decide +kernel) rfl rfl dX3_leave_60 ?_
      refine x_iload C 3 dX3_leave_63 rfl ?_
      refine x_iconst (v := 1) C dX3_leave_65 (by decide) ?_
      refine x_isub C dX3_leave_66 ?_
      refine x_aload_n C 0 dX3_leave_67 rfl ?_
      refine x_get5 C kh i5 0 (by decide) (by decide +kernel) rfl rfl dX3_leave_68 ?_
      refine x_iload C 3 dX3_leave_71 rfl ?_
      obtain ⟨g17, hf⟩ := x_gd hf
      obtain ⟨g18, hf⟩ := x_gd hf
      refine x_aald23 C (x5_k1 kh) (x5_l1 kh) g17 dX3_leave_73 ?_
      obtain ⟨g19, hf⟩ := x_gd hf
      refine x_aast23 C (x5_k1 kh) (x5_l1 kh) g18 g19 dX3_leave_74 ?_
      obtain ⟨M20, e21, hf⟩ := x_lt hf
      rw [← e21]
      clear e21
      refine x_iinc (v := v5 + 1) (lv' := [(5, .int (v5 + 1)), (0, .ref (xad G h)), (1, .int v1), (4, .ref (xad G r4))]) C 3 dX3_leave_75 rfl rfl (by decide) rfl ?_
      refine x_goto C 50 dX3_leave_78 (by decide) ?_
      refine x_sub [1, 2, 3, 0] rfl ?_
      exact ih (v5 + 1) M20 _ _ hf
set_option maxHeartbeats 4000000 in
set_option maxRecDepth 100000 in
theorem t_X3_leave {l : Launch} {G : xG} {ta : Nat × Nat} {M : xM} {h : Nat} {a1 : Int32} {out : xM} (kh : xkd h = 5) (hf : f_X3_leave h a1 M = some out) : xMet G l yX3_leave wsX3_leave (rm_X3_leave 0 0) 0 0 ta M [.ref (xad G h), .int a1] none out := by
  refine x_met (cc := cX3_leave) (nL := 6) (ret := none) (by decide) rfl (Nat.le_of_ble_eq_true rfl) ?_
  intro p e s m args below meth c C hr hlk
  have C : xC G p s m args c cX3_leave 6 wsX3_leave RX3 := C
  have i5 : ∀ w ∈ wsX30, w ∈ wsX3_leave := by decide +kernel
  have i7 : ∀ w ∈ wsX50, w ∈ wsX3_leave := by decide +kernel
  unfold f_X3_leave at hf
  show xW G p l e (rm_X3_leave 0 0) s m args below meth c 6 (MQ below (xQr G none out) args s 0 0 (xAs G)) 0 0 ta M 0 [(0, .ref (xad G h)), (1, .int a1)] []
  refine x_aload_n C 0 dX3_leave_0 rfl ?_
  refine x_iload_n C 1 dX3_leave_1 rfl ?_
  obtain ⟨q1, hg, hf⟩ := x_bd hf
  refine x_callVr C (by rw [kh]; decide) (by rw [kh]; decide) (xc5 kh) rfl (t_X3_positionOf kh hg) (cwV 1 C.1.2.2.2.2 gX3_leave_X3_positionOf rfl rfl rfl (by decide +kernel) ⟨Nat.le_of_ble_eq_true rfl, Nat.le_of_ble_eq_true rfl⟩) rfl rfl (Nat.le_of_ble_eq_true rfl) dX3_leave_2 ⟨Nat.zero_le _, Nat.zero_le _⟩ (fun ta2 => ?_)
  clear hg
  refine x_istore_n (lv' := [(2, .int q1), (0, .ref (xad G h)), (1, .int a1)]) C dX3_leave_5 rfl (by decide) rfl ?_
  refine x_iload_n C 0 dX3_leave_6 rfl ?_
  refine x_iconst (v := (-1)) C dX3_leave_7 (by decide) ?_
  refine x_icmp_eq C 16 dX3_leave_8 (by decide) (fun hc3 => ?_) (fun hc3 => ?_)
  · have hf := x_ip hc3 hf
    refine x_aload_n C 1 dX3_leave_16 rfl ?_
    refine x_iload_n C 2 dX3_leave_17 rfl ?_
    obtain ⟨q4, hg, hf⟩ := x_bd hf
    refine x_callVr C (by rw [kh]; decide) (by rw [kh]; decide) (xc5 kh) rfl (t_X3_windowOf kh hg) (cwV 1 C.1.2.2.2.2 gX3_leave_X3_windowOf rfl rfl rfl (by decide +kernel) ⟨Nat.le_of_ble_eq_true rfl, Nat.le_of_ble_eq_true rfl⟩) rfl rfl (Nat.le_of_ble_eq_true rfl) dX3_leave_18 ⟨Nat.zero_le _, Nat.zero_le _⟩ (fun ta5 => ?_)
    clear hg
    refine x_istore_n (lv' := [(3, .int q4), (2, .int q1), (0, .ref (xad G h)), (1, .int a1)]) C dX3_leave_21 rfl (by decide) rfl ?_
    refine x_iload_n C 0 dX3_leave_22 rfl ?_
    refine x_iconst (v := (-1)) C dX3_leave_23 (by decide) ?_
    refine x_icmp_eq C 37 dX3_leave_24 (by decide) (fun hc6 => ?_) (fun hc6 => ?_)
    · have hf := x_ip hc6 hf
      refine x_aload_n C 2 dX3_leave_37 rfl ?_
      refine x_get5 C kh i5 0 (by decide) (by decide +kernel) rfl rfl dX3_leave_38 ?_
      refine x_iload_n C 3 dX3_leave_41 rfl ?_
      obtain ⟨g7, hf⟩ := x_gd hf
      obtain ⟨g8, hf⟩ := x_gd hf
      refine x_aald23 C (x5_k1 kh) (x5_l1 kh) g7 dX3_leave_42 ?_
      refine x_astore (lv' := [(4, .ref (xad G (M.2.1 (h + 1) a1.toNatClampNeg))), (3, .int q4), (2, .int q1), (0, .ref (xad G h)), (1, .int a1)]) C dX3_leave_43 (by decide) rfl ?_
      refine x_iload_n C 4 dX3_leave_45 rfl ?_
      refine x_iconst (v := 1) C dX3_leave_46 (by decide) ?_
      refine x_iadd C dX3_leave_47 ?_
      refine x_istore (lv' := [(5, .int (a1 + (1 : Int32))), (4, .ref (xad G (M.2.1 (h + 1) a1.toNatClampNeg))), (3, .int q4), (2, .int q1), (0, .ref (xad G h)), (1, .int a1)]) C dX3_leave_48 (by decide) rfl ?_
      refine x_sub [4, 5, 1, 0] rfl ?_
      exact t_X3_leave_L50 C hr hlk kh g8 xF (a1 + (1 : Int32)) M _ _ hf
    · have hf := x_ine hc6 hf
      refine x_aload_n C 2 dX3_leave_27 rfl ?_
      refine x_get5 C kh i5 4 (by decide) (by decide +kernel) rfl rfl dX3_leave_28 ?_
      refine x_iload_n C 0 dX3_leave_31 rfl ?_
      obtain ⟨g22, hf⟩ := x_gd hf
      obtain ⟨g23, hf⟩ := x_gd hf
      refine x_aald25 C (x5_k3 kh) (x5_l3 kh) g22 dX3_leave_32 ?_
      refine x_iconst (v := (-1)) C dX3_leave_33 (by decide) ?_
      refine x_put7 C g23 i7 2 (by decide) (by decide +kernel) dX3_leave_34 ?_
      obtain ⟨M24, e25, hf⟩ := x_lt hf
      rw [← e25]
      clear e25
      refine x_aload_n C 2 dX3_leave_37 rfl ?_
      refine x_get5 C kh i5 0 (by decide) (by decide +kernel) rfl rfl dX3_leave_38 ?_
      refine x_iload_n C 3 dX3_leave_41 rfl ?_
      obtain ⟨g26, hf⟩ := x_gd hf
      obtain ⟨g27, hf⟩ := x_gd hf
      refine x_aald23 C (x5_k1 kh) (x5_l1 kh) g26 dX3_leave_42 ?_
      refine x_astore (lv' := [(4, .ref (xad G (M24.2.1 (h + 1) a1.toNatClampNeg))), (3, .int q4), (2, .int q1), (0, .ref (xad G h)), (1, .int a1)]) C dX3_leave_43 (by decide) rfl ?_
      refine x_iload_n C 4 dX3_leave_45 rfl ?_
      refine x_iconst (v := 1) C dX3_leave_46 (by decide) ?_
      refine x_iadd C dX3_leave_47 ?_
      refine x_istore (lv' := [(5, .int (a1 + (1 : Int32))), (4, .ref (xad G (M24.2.1 (h + 1) a1.toNatClampNeg))), (3, .int q4), (2, .int q1), (0, .ref (xad G h)), (1, .int a1)]) C dX3_leave_48 (by decide) rfl ?_
      refine x_sub [4, 5, 1, 0] rfl ?_
      exact t_X3_leave_L50 C hr hlk kh g27 xF (a1 + (1 : Int32)) M24 _ _ hf
  · have hf := x_ine hc3 hf
    refine x_aload_n C 1 dX3_leave_11 rfl ?_
    refine x_iload_n C 0 dX3_leave_12 rfl ?_
    obtain ⟨q28, hg, hf⟩ := x_bd hf
    refine x_callVv C (by rw [kh]; decide) (by rw [kh]; decide) (xc5 kh) rfl (t_X3_takeFromQueue kh hg) (cwV 1 C.1.2.2.2.2 gX3_leave_X3_takeFromQueue rfl rfl rfl (by decide +kernel) ⟨Nat.le_of_ble_eq_true rfl, Nat.le_of_ble_eq_true rfl⟩) rfl rfl (Nat.le_of_ble_eq_true rfl) dX3_leave_13 ⟨Nat.zero_le _, Nat.zero_le _⟩ (fun ta29 => ?_)
    clear hg
    refine x_aload_n C 1 dX3_leave_16 rfl ?_
    refine x_iload_n C 2 dX3_leave_17 rfl ?_
    obtain ⟨q30, hg, hf⟩ := x_bd hf
    refine x_callVr C (by rw [kh]; decide) (by rw [kh]; decide) (xc5 kh) rfl (t_X3_windowOf kh hg) (cwV 1 C.1.2.2.2.2 gX3_leave_X3_windowOf rfl rfl rfl (by decide +kernel) ⟨Nat.le_of_ble_eq_true rfl, Nat.le_of_ble_eq_true rfl⟩) rfl rfl (Nat.le_of_ble_eq_true rfl) dX3_leave_18 ⟨Nat.zero_le _, Nat.zero_le _⟩ (fun ta31 => ?_)
    clear hg
    refine x_istore_n (lv' := [(3, .int q30), (2, .int q1), (0, .ref (xad G h)), (1, .int a1)]) C dX3_leave_21 rfl (by decide) rfl ?_
    refine x_iload_n C 0 dX3_leave_22 rfl ?_
    refine x_iconst (v := (-1)) C dX3_leave_23 (by decide) ?_
    refine x_icmp_eq C 37 dX3_leave_24 (by decide) (fun hc32 => ?_) (fun hc32 => ?_)
    · have hf := x_ip hc32 hf
      refine x_aload_n C 2 dX3_leave_37 rfl ?_
      refine x_get5 C kh i5 0 (by decide) (by decide +kernel) rfl rfl dX3_leave_38 ?_
      refine x_iload_n C 3 dX3_leave_41 rfl ?_
      obtain ⟨g33, hf⟩ := x_gd hf
      obtain ⟨g34, hf⟩ := x_gd hf
      refine x_aald23 C (x5_k1 kh) (x5_l1 kh) g33 dX3_leave_42 ?_
      refine x_astore (lv' := [(4, .ref (xad G (q28.2.1 (h + 1) a1.toNatClampNeg))), (3, .int q30), (2, .int q1), (0, .ref (xad G h)), (1, .int a1)]) C dX3_leave_43 (by decide) rfl ?_
      refine x_iload_n C 4 dX3_leave_45 rfl ?_
      refine x_iconst (v := 1) C dX3_leave_46 (by decide) ?_
      refine x_iadd C dX3_leave_47 ?_
      refine x_istore (lv' := [(5, .int (a1 + (1 : Int32))), (4, .ref (xad G (q28.2.1 (h + 1) a1.toNatClampNeg))), (3, .int q30), (2, .int q1), (0, .ref (xad G h)), (1, .int a1)]) C dX3_leave_48 (by decide) rfl ?_
      refine x_sub [4, 5, 1, 0] rfl ?_
      exact t_X3_leave_L50 C hr hlk kh g34 xF (a1 + (1 : Int32)) q28 _ _ hf
    · have hf := x_ine hc32 hf
      refine x_aload_n C 2 dX3_leave_27 rfl ?_
      refine x_get5 C kh i5 4 (by decide) (by decide +kernel) rfl rfl dX3_leave_28 ?_
      refine x_iload_n C 0 dX3_leave_31 rfl ?_
      obtain ⟨g35, hf⟩ := x_gd hf
      obtain ⟨g36, hf⟩ := x_gd hf
      refine x_aald25 C (x5_k3 kh) (x5_l3 kh) g35 dX3_leave_32 ?_
      refine x_iconst (v := (-1)) C dX3_leave_33 (by decide) ?_
      refine x_put7 C g36 i7 2 (by decide) (by decide +kernel) dX3_leave_34 ?_
      obtain ⟨M37, e38, hf⟩ := x_lt hf
      rw [← e38]
      clear e38
      refine x_aload_n C 2 dX3_leave_37 rfl ?_
      refine x_get5 C kh i5 0 (by decide) (by decide +kernel) rfl rfl dX3_leave_38 ?_
      refine x_iload_n C 3 dX3_leave_41 rfl ?_
      obtain ⟨g39, hf⟩ := x_gd hf
      obtain ⟨g40, hf⟩ := x_gd hf
      refine x_aald23 C (x5_k1 kh) (x5_l1 kh) g39 dX3_leave_42 ?_
      refine x_astore (lv' := [(4, .ref (xad G (M37.2.1 (h + 1) a1.toNatClampNeg))), (3, .int q30), (2, .int q1), (0, .ref (xad G h)), (1, .int a1)]) C dX3_leave_43 (by decide) rfl ?_
      refine x_iload_n C 4 dX3_leave_45 rfl ?_
      refine x_iconst (v := 1) C dX3_leave_46 (by decide) ?_
      refine x_iadd C dX3_leave_47 ?_
      refine x_istore (lv' := [(5, .int (a1 + (1 : Int32))), (4, .ref (xad G (M37.2.1 (h + 1) a1.toNatClampNeg))), (3, .int q30), (2, .int q1), (0, .ref (xad G h)), (1, .int a1)]) C dX3_leave_48 (by decide) rfl ?_
      refine x_sub [4, 5, 1, 0] rfl ?_
      exact t_X3_leave_L50 C hr hlk kh g40 xF (a1 + (1 : Int32)) M37 _ _ hf
/-! WaitingRoomSimulation$Hall.dismiss(I)I -/
abbrev rm_X3_dismiss (c s : Nat) : Room := { frames := 2, cells := c, slots := s, locals := 47 }
def f_X3_dismiss (h : Nat) (a1 : Int32) (M : xM) : Option (Int32 × xM) := (f_X3_hasCustomer h a1 M).bind fun q1 => (if q1 = 0 then some ((-1 : Int32), M) else x_let (sI M h 12 ((M.1 h 12) + (1 : Int32))) fun M4 => (f_X3_leave h a1 M4).bind fun q6 => some (q6.1 h 1, q6))
set_option maxHeartbeats 4000000 in
set_option maxRecDepth 100000 in
theorem t_X3_dismiss {l : Launch} {G : xG} {ta : Nat × Nat} {M : xM} {h : Nat} {a1 : Int32} {out : Int32 × xM} (kh : xkd h = 5) (hf : f_X3_dismiss h a1 M = some out) : xMet G l yX3_dismiss wsX3_dismiss (rm_X3_dismiss 0 0) 0 0 ta M [.ref (xad G h), .int a1] (some (.int out.1)) out.2 := by
  refine x_met (cc := cX3_dismiss) (nL := 2) (ret := some .int) (by decide) rfl (Nat.le_of_ble_eq_true rfl) ?_
  intro p e s m args below meth c C hr hlk
  have C : xC G p s m args c cX3_dismiss 2 wsX3_dismiss RX3 := C
  have i5 : ∀ w ∈ wsX30, w ∈ wsX3_dismiss := by decide +kernel
  unfold f_X3_dismiss at hf
  show xW G p l e (rm_X3_dismiss 0 0) s m args below meth c 2 (MQ below (xQr G (some (.int out.1)) out.2) args s 0 0 (xAs G)) 0 0 ta M 0 [(0, .ref (xad G h)), (1, .int a1)] []
  refine x_aload_n C 0 dX3_dismiss_0 rfl ?_
  refine x_iload_n C 1 dX3_dismiss_1 rfl ?_
  obtain ⟨q1, hg, hf⟩ := x_bd hf
  refine x_callVr C (by rw [kh]; decide) (by rw [kh]; decide) (xc5 kh) rfl (t_X3_hasCustomer kh hg) (cwV 1 C.1.2.2.2.2 gX3_dismiss_X3_hasCustomer rfl rfl rfl (by decide +kernel) ⟨Nat.le_of_ble_eq_true rfl, Nat.le_of_ble_eq_true rfl⟩) rfl rfl (Nat.le_of_ble_eq_true rfl) dX3_dismiss_2 ⟨Nat.zero_le _, Nat.zero_le _⟩ (fun ta2 => ?_)
  clear hg
  refine x_if_ne C 10 dX3_dismiss_5 (by decide) (fun hc3 => ?_) (fun hc3 => ?_)
  · have hf := x_ine hc3 hf
    refine x_aload_n C 0 dX3_dismiss_10 rfl ?_
    refine x_dup C dX3_dismiss_11 rfl ?_
    refine x_get5 C kh i5 12 (by decide) (by decide +kernel) rfl rfl dX3_dismiss_12 ?_
    refine x_iconst (v := 1) C dX3_dismiss_15 (by decide) ?_
    refine x_iadd C dX3_dismiss_16 ?_
    refine x_put5 C kh i5 12 (by decide) (by decide +kernel) dX3_dismiss_17 ?_
    obtain ⟨M4, e5, hf⟩ := x_lt hf
    rw [← e5]
    clear e5
    refine x_aload_n C 0 dX3_dismiss_20 rfl ?_
    refine x_iload_n C 1 dX3_dismiss_21 rfl ?_
    obtain ⟨q6, hg, hf⟩ := x_bd hf
    refine x_callVv C (by rw [kh]; decide) (by rw [kh]; decide) (xc5 kh) rfl (t_X3_leave kh hg) (cwV 1 C.1.2.2.2.2 gX3_dismiss_X3_leave rfl rfl rfl (by decide +kernel) ⟨Nat.le_of_ble_eq_true rfl, Nat.le_of_ble_eq_true rfl⟩) rfl rfl (Nat.le_of_ble_eq_true rfl) dX3_dismiss_22 ⟨Nat.zero_le _, Nat.zero_le _⟩ (fun ta7 => ?_)
    clear hg
    refine x_aload_n C 0 dX3_dismiss_25 rfl ?_
    refine x_get5 C kh i5 1 (by decide) (by decide +kernel) rfl rfl dX3_dismiss_26 ?_
    obtain rfl := Option.some.inj hf
    exact x_iret C hr hlk dX3_dismiss_29
  · have hf := x_ip hc3 hf
    refine x_iconst (v := (-1)) C dX3_dismiss_8 (by decide) ?_
    obtain rfl := Option.some.inj hf
    exact x_iret C hr hlk dX3_dismiss_9
/-! WaitingRoomSimulation$Hall.recordServed(LWaitingRoomSimulation$Customer;)V -/
abbrev rm_X3_recordServed (c s : Nat) : Room := { frames := 0, cells := c, slots := s, locals := 0 }
def f_X3_recordServed_L2 (h : Nat) (a1 : Nat) : Nat → Int32 → xM → Option (xM)
  | 0, _, _ => none
  | n+1, v2, M => (if v2 ≤ 0 then if x_in (0 : Int32) 6 = true then x_let (sI M (h + 4) (0 : Int32).toNatClampNeg (M.1 a1 0)) fun M3 => if x_in (0 : Int32) 6 = true then x_let (sI M3 (h + 5) (0 : Int32).toNatClampNeg (M3.1 a1 4)) fun M6 => x_let (sI M6 h 9 ((M6.1 h 9) + (1 : Int32))) fun M8 => (if (M8.1 a1 2) = 0 then x_let (sI M8 h 10 ((M8.1 h 10) + (1 : Int32))) fun M11 => some M11 else some M8) else none else none else if x_in (v2 - (1 : Int32)) 6 = true then if x_in v2 6 = true then x_let (sI M (h + 4) v2.toNatClampNeg (M.1 (h + 4) (v2 - (1 : Int32)).toNatClampNeg)) fun M15 => if x_in (v2 - (1 : Int32)) 6 = true then if x_in v2 6 = true then x_let (sI M15 (h + 5) v2.toNatClampNeg (M15.1 (h + 5) (v2 - (1 : Int32)).toNatClampNeg)) fun M19 => f_X3_recordServed_L2 h a1 n (v2 + (-1)) M19 else none else none else none else none)
def f_X3_recordServed (h : Nat) (a1 : Nat) (M : xM) : Option (xM) := f_X3_recordServed_L2 h a1 xF (5 : Int32) M
set_option maxHeartbeats 4000000 in
set_option maxRecDepth 100000 in
theorem t_X3_recordServed_L2 {G : xG} {p : Program} {l : Launch} {e : Env} {s : State} {m : MethodId} {args : Array Value} {below : List Frame} {meth : Method} {c : Code} (C : xC G p s m args c cX3_recordServed 3 wsX3_recordServed RX3) (hr : meth.sig.returnType = none) (hlk : meth.locks = false) {h : Nat} {a1 : Nat} (kh : xkd h = 5) (ka1 : xkd a1 = 4) : ∀ (n : Nat) (v2 : Int32) (M : xM) (ta : Nat × Nat) (out : xM), f_X3_recordServed_L2 h a1 n v2 M = some out → xW G p l e (rm_X3_recordServed 0 0) s m args below meth c 3 (MQ below (xQr G none out) args s 0 0 (xAs G)) 0 0 ta M 2 [(0, .ref (xad G h)), (1, .ref (xad G a1)), (2, .int v2)] [] := by
  intro n
  induction n with
  | zero =>
    intro v2 M ta out hf
    rw [f_X3_recordServed_L2] at hf
    cases hf
  | succ n ih =>
    intro v2 M ta out hf
    rw [f_X3_recordServed_L2] at hf
    have i4 : ∀ w ∈ wsX20, w ∈ wsX3_recordServed := by decide +kernel
    have i5 : ∀ w ∈ wsX30, w ∈ wsX3_recordServed := by decide +kernel
    refine x_iload_n C 2 dX3_recordServed_2 rfl ?_
    refine x_if_le C 40 dX3_recordServed_3 (by decide) (fun hc1 => ?_) (fun hc1 => ?_)
    · have hf := x_ip hc1 hf
      refine x_aload_n C 0 dX3_recordServed_40 rfl ?_
      refine x_get5 C kh i5 5 (by decide) (by decide +kernel) rfl rfl dX3_recordServed_41 ?_
      refine x_iconst (v := 0) C dX3_recordServed_44 (by decide) ?_
      refine x_aload_n C 1 dX3_recordServed_45 rfl ?_
      refine x_get4 C ka1 i4 0 (by decide) (by decide +kernel) rfl rfl dX3_recordServed_46 ?_
      obtain ⟨g2, hf⟩ := x_gd hf
      refine x_iast C (x5_k4 kh) (x5_l4 kh) g2 dX3_recordServed_49 ?_
      obtain ⟨M3, e4, hf⟩ := x_lt hf
      rw [← e4]
      clear e4
      refine x_aload_n C 0 dX3_recordServed_50 rfl ?_
      refine x_get5 C kh i5 6 (by decide) (by decide +kernel) rfl rfl dX3_recordServed_51 ?_
      refine x_iconst (v := 0) C dX3_recordServed_54 (by decide) ?_
      refine x_aload_n C 1 dX3_recordServed_55 rfl ?_
      refine x_get4 C ka1 i4 4 (by decide) (by decide +kernel) rfl rfl dX3_recordServed_56 ?_
      obtain ⟨g5, hf⟩ := x_gd hf
      refine x_iast C (x5_k5 kh) (x5_l5 kh) g5 dX3_recordServed_59 ?_
      obtain ⟨M6, e7, hf⟩ := x_lt hf
      rw [← e7]
      clear e7
      refine x_aload_n C 0 dX3_recordServed_60 rfl ?_
      refine x_dup C dX3_recordServed_61 rfl ?_
      refine x_get5 C kh i5 9 (by decide) (by decide +kernel) rfl rfl dX3_recordServed_62 ?_
      refine x_iconst (v := 1) C dX3_recordServed_65 (by decide) ?_
      refine x_iadd C dX3_recordServed_66 ?_
      refine x_put5 C kh i5 9 (by decide) (by decide +kernel) dX3_recordServed_67 ?_
      obtain ⟨M8, e9, hf⟩ := x_lt hf
      rw [← e9]
      clear e9
      refine x_aload_n C 1 dX3_recordServed_70 rfl ?_
      refine x_get4 C ka1 i4 2 (by decide) (by decide +kernel) rfl rfl dX3_recordServed_71 ?_
      refine x_if_ne C 87 dX3_recordServed_74 (by decide) (fun hc10 => ?_) (fun hc10 => ?_)
      · have hf := x_ine hc10 hf
        obtain rfl := Option.some.inj hf
        exact x_vret C hr hlk dX3_recordServed_87
      · have hf := x_ip hc10 hf
        refine x_aload_n C 0 dX3_recordServed_77 rfl ?_
        refine x_dup C dX3_recordServed_78 rfl ?_
        refine x_get5 C kh i5 10 (by decide) (by decide +kernel) rfl rfl dX3_recordServed_79 ?_
        refine x_iconst (v := 1) C dX3_recordServed_82 (by decide) ?_
        refine x_iadd C dX3_recordServed_83 ?_
        refine x_put5 C kh i5 10 (by decide) (by decide +kernel) dX3_recordServed_84 ?_
        obtain ⟨M11, e12, hf⟩ := x_lt hf
        rw [← e12]
        clear e12
        obtain rfl := Option.some.inj hf
        exact x_vret C hr hlk dX3_recordServed_87
    · have hf := x_ine hc1 hf
      refine x_aload_n C 0 dX3_recordServed_6 rfl ?_
      refine x_get5 C kh i5 5 (by decide) (by decide +kernel) rfl rfl dX3_recordServed_7 ?_
      refine x_iload_n C 2 dX3_recordServed_10 rfl ?_
      refine x_aload_n C 0 dX3_recordServed_11 rfl ?_
      refine x_get5 C kh i5 5 (by decide) (by decide +kernel) rfl rfl dX3_recordServed_12 ?_
      refine x_iload_n C 2 dX3_recordServed_15 rfl ?_
      refine x_iconst (v := 1) C dX3_recordServed_16 (by decide) ?_
      refine x_isub C dX3_recordServed_17 ?_
      obtain ⟨g13, hf⟩ := x_gd hf
      refine x_iald C (x5_k4 kh) (x5_l4 kh) g13 dX3_recordServed_18 ?_
      obtain ⟨g14, hf⟩ := x_gd hf
      refine x_iast C (x5_k4 kh) (x5_l4 kh) g14 dX3_recordServed_19 ?_
      obtain ⟨M15, e16, hf⟩ := x_lt hf
      rw [← e16]
      clear e16
      refine x_aload_n C 0 dX3_recordServed_20 rfl ?_
      refine x_get5 C kh i5 6 (by decide) (by decide +kernel) rfl rfl dX3_recordServed_21 ?_
      refine x_iload_n C 2 dX3_recordServed_24 rfl ?_
      refine x_aload_n C 0 dX3_recordServed_25 rfl ?_
      refine x_get5 C kh i5 6 (by decide) (by decide +kernel) rfl rfl dX3_recordServed_26 ?_
      refine x_iload_n C 2 dX3_recordServed_29 rfl ?_
      refine x_iconst (v := 1) C dX3_recordServed_30 (by decide) ?_
      refine x_isub C dX3_recordServed_31 ?_
      obtain ⟨g17, hf⟩ := x_gd hf
      refine x_iald C (x5_k5 kh) (x5_l5 kh) g17 dX3_recordServed_32 ?_
      obtain ⟨g18, hf⟩ := x_gd hf
      refine x_iast C (x5_k5 kh) (x5_l5 kh) g18 dX3_recordServed_33 ?_
      obtain ⟨M19, e20, hf⟩ := x_lt hf
      rw [← e20]
      clear e20
      refine x_iinc (v := v2 + (-1)) (lv' := [(2, .int (v2 + (-1))), (0, .ref (xad G h)), (1, .ref (xad G a1))]) C 2 dX3_recordServed_34 rfl rfl (by decide) rfl ?_
      refine x_goto C 2 dX3_recordServed_37 (by decide) ?_
      refine x_sub [1, 2, 0] rfl ?_
      exact ih (v2 + (-1)) M19 _ _ hf
set_option maxHeartbeats 4000000 in
set_option maxRecDepth 100000 in
theorem t_X3_recordServed {l : Launch} {G : xG} {ta : Nat × Nat} {M : xM} {h : Nat} {a1 : Nat} {out : xM} (kh : xkd h = 5) (ka1 : xkd a1 = 4) (hf : f_X3_recordServed h a1 M = some out) : xMet G l yX3_recordServed wsX3_recordServed (rm_X3_recordServed 0 0) 0 0 ta M [.ref (xad G h), .ref (xad G a1)] none out := by
  refine x_met (cc := cX3_recordServed) (nL := 3) (ret := none) (by decide) rfl (Nat.le_of_ble_eq_true rfl) ?_
  intro p e s m args below meth c C hr hlk
  have C : xC G p s m args c cX3_recordServed 3 wsX3_recordServed RX3 := C
  have i4 : ∀ w ∈ wsX20, w ∈ wsX3_recordServed := by decide +kernel
  have i5 : ∀ w ∈ wsX30, w ∈ wsX3_recordServed := by decide +kernel
  unfold f_X3_recordServed at hf
  show xW G p l e (rm_X3_recordServed 0 0) s m args below meth c 3 (MQ below (xQr G none out) args s 0 0 (xAs G)) 0 0 ta M 0 [(0, .ref (xad G h)), (1, .ref (xad G a1))] []
  refine x_iconst (v := 5) C dX3_recordServed_0 (by decide) ?_
  refine x_istore_n (lv' := [(2, .int (5 : Int32)), (0, .ref (xad G h)), (1, .ref (xad G a1))]) C dX3_recordServed_1 rfl (by decide) rfl ?_
  refine x_sub [1, 2, 0] rfl ?_
  exact t_X3_recordServed_L2 C hr hlk kh ka1 xF (5 : Int32) M _ _ hf
/-! WaitingRoomSimulation$Hall.work(LWaitingRoomSimulation$Window;)V -/
abbrev rm_X3_work (c s : Nat) : Room := { frames := 2, cells := c, slots := s, locals := 47 }
def f_X3_work (h : Nat) (a1 : Nat) (M : xM) : Option (xM) := (if (M.1 a1 2) = (-1 : Int32) then x_let (sI M a1 0 ((M.1 a1 0) - (1 : Int32))) fun M2 => (if (M2.1 a1 0) = 0 then (f_X3_shut h a1 M2).bind fun q5 => some q5 else some M2) else x_let (sI M a1 3 ((M.1 a1 3) - (1 : Int32))) fun M7 => (if (M7.1 a1 3) = 0 then if x_in (M7.1 a1 2) 12 = true then if xkd (M7.2.1 (h + 1) (M7.1 a1 2).toNatClampNeg) = 4 then (f_X3_recordServed h (M7.2.1 (h + 1) (M7.1 a1 2).toNatClampNeg) M7).bind fun q17 => (f_X3_leave h (q17.1 a1 2) q17).bind fun q19 => x_let (sI q19 a1 0 ((q19.1 a1 0) - (1 : Int32))) fun M21 => (if (M21.1 a1 0) = 0 then (f_X3_shut h a1 M21).bind fun q24 => some q24 else some M21) else none else none else x_let (sI M7 a1 0 ((M7.1 a1 0) - (1 : Int32))) fun M10 => (if (M10.1 a1 0) = 0 then (f_X3_shut h a1 M10).bind fun q13 => some q13 else some M10)))
set_option maxHeartbeats 4000000 in
set_option maxRecDepth 100000 in
theorem t_X3_work {l : Launch} {G : xG} {ta : Nat × Nat} {M : xM} {h : Nat} {a1 : Nat} {out : xM} (kh : xkd h = 5) (ka1 : xkd a1 = 7) (hf : f_X3_work h a1 M = some out) : xMet G l yX3_work wsX3_work (rm_X3_work 0 0) 0 0 ta M [.ref (xad G h), .ref (xad G a1)] none out := by
  refine x_met (cc := cX3_work) (nL := 2) (ret := none) (by decide) rfl (Nat.le_of_ble_eq_true rfl) ?_
  intro p e s m args below meth c C hr hlk
  have C : xC G p s m args c cX3_work 2 wsX3_work RX3 := C
  have i5 : ∀ w ∈ wsX30, w ∈ wsX3_work := by decide +kernel
  have i7 : ∀ w ∈ wsX50, w ∈ wsX3_work := by decide +kernel
  unfold f_X3_work at hf
  show xW G p l e (rm_X3_work 0 0) s m args below meth c 2 (MQ below (xQr G none out) args s 0 0 (xAs G)) 0 0 ta M 0 [(0, .ref (xad G h)), (1, .ref (xad G a1))] []
  refine x_aload_n C 1 dX3_work_0 rfl ?_
  refine x_get7 C ka1 i7 2 (by decide) (by decide +kernel) rfl rfl dX3_work_1 ?_
  refine x_iconst (v := (-1)) C dX3_work_4 (by decide) ?_
  refine x_icmp_eq C 46 dX3_work_5 (by decide) (fun hc1 => ?_) (fun hc1 => ?_)
  · have hf := x_ip hc1 hf
    refine x_aload_n C 1 dX3_work_46 rfl ?_
    refine x_dup C dX3_work_47 rfl ?_
    refine x_get7 C ka1 i7 0 (by decide) (by decide +kernel) rfl rfl dX3_work_48 ?_
    refine x_iconst (v := 1) C dX3_work_51 (by decide) ?_
    refine x_isub C dX3_work_52 ?_
    refine x_put7 C ka1 i7 0 (by decide) (by decide +kernel) dX3_work_53 ?_
    obtain ⟨M2, e3, hf⟩ := x_lt hf
    rw [← e3]
    clear e3
    refine x_aload_n C 1 dX3_work_56 rfl ?_
    refine x_get7 C ka1 i7 0 (by decide) (by decide +kernel) rfl rfl dX3_work_57 ?_
    refine x_if_ne C 68 dX3_work_60 (by decide) (fun hc4 => ?_) (fun hc4 => ?_)
    · have hf := x_ine hc4 hf
      obtain rfl := Option.some.inj hf
      exact x_vret C hr hlk dX3_work_68
    · have hf := x_ip hc4 hf
      refine x_aload_n C 0 dX3_work_63 rfl ?_
      refine x_aload_n C 1 dX3_work_64 rfl ?_
      obtain ⟨q5, hg, hf⟩ := x_bd hf
      refine x_callVv C (by rw [kh]; decide) (by rw [kh]; decide) (xc5 kh) rfl (t_X3_shut kh ka1 hg) (cwV 1 C.1.2.2.2.2 gX3_work_X3_shut rfl rfl rfl (by decide +kernel) ⟨Nat.le_of_ble_eq_true rfl, Nat.le_of_ble_eq_true rfl⟩) rfl rfl (Nat.le_of_ble_eq_true rfl) dX3_work_65 ⟨Nat.zero_le _, Nat.zero_le _⟩ (fun ta6 => ?_)
      clear hg
      obtain rfl := Option.some.inj hf
      exact x_vret C hr hlk dX3_work_68
  · have hf := x_ine hc1 hf
    refine x_aload_n C 1 dX3_work_8 rfl ?_
    refine x_dup C dX3_work_9 rfl ?_
    refine x_get7 C ka1 i7 3 (by decide) (by decide +kernel) rfl rfl dX3_work_10 ?_
    refine x_iconst (v := 1) C dX3_work_13 (by decide) ?_
    refine x_isub C dX3_work_14 ?_
    refine x_put7 C ka1 i7 3 (by decide) (by decide +kernel) dX3_work_15 ?_
    obtain ⟨M7, e8, hf⟩ := x_lt hf
    rw [← e8]
    clear e8
    refine x_aload_n C 1 dX3_work_18 rfl ?_
    refine x_get7 C ka1 i7 3 (by decide) (by decide +kernel) rfl rfl dX3_work_19 ?_
    refine x_if_ne C 46 dX3_work_22 (by decide) (fun hc9 => ?_) (fun hc9 => ?_)
    · have hf := x_ine hc9 hf
      refine x_aload_n C 1 dX3_work_46 rfl ?_
      refine x_dup C dX3_work_47 rfl ?_
      refine x_get7 C ka1 i7 0 (by decide) (by decide +kernel) rfl rfl dX3_work_48 ?_
      refine x_iconst (v := 1) C dX3_work_51 (by decide) ?_
      refine x_isub C dX3_work_52 ?_
      refine x_put7 C ka1 i7 0 (by decide) (by decide +kernel) dX3_work_53 ?_
      obtain ⟨M10, e11, hf⟩ := x_lt hf
      rw [← e11]
      clear e11
      refine x_aload_n C 1 dX3_work_56 rfl ?_
      refine x_get7 C ka1 i7 0 (by decide) (by decide +kernel) rfl rfl dX3_work_57 ?_
      refine x_if_ne C 68 dX3_work_60 (by decide) (fun hc12 => ?_) (fun hc12 => ?_)
      · have hf := x_ine hc12 hf
        obtain rfl := Option.some.inj hf
        exact x_vret C hr hlk dX3_work_68
      · have hf := x_ip hc12 hf
        refine x_aload_n C 0 dX3_work_63 rfl ?_
        refine x_aload_n C 1 dX3_work_64 rfl ?_
        obtain ⟨q13, hg, hf⟩ := x_bd hf
        refine x_callVv C (by rw [kh]; decide) (by rw [kh]; decide) (xc5 kh) rfl (t_X3_shut kh ka1 hg) (cwV 1 C.1.2.2.2.2 gX3_work_X3_shut rfl rfl rfl (by decide +kernel) ⟨Nat.le_of_ble_eq_true rfl, Nat.le_of_ble_eq_true rfl⟩) rfl rfl (Nat.le_of_ble_eq_true rfl) dX3_work_65 ⟨Nat.zero_le _, Nat.zero_le _⟩ (fun ta14 => ?_)
        clear hg
        obtain rfl := Option.some.inj hf
        exact x_vret C hr hlk dX3_work_68
    · have hf := x_ip hc9 hf
      refine x_aload_n C 0 dX3_work_25 rfl ?_
      refine x_aload_n C 0 dX3_work_26 rfl ?_
      refine x_get5 C kh i5 0 (by decide) (by decide +kernel) rfl rfl dX3_work_27 ?_
      refine x_aload_n C 1 dX3_work_30 rfl ?_
      refine x_get7 C ka1 i7 2 (by decide) (by decide +kernel) rfl rfl dX3_work_31 ?_
      obtain ⟨g15, hf⟩ := x_gd hf
      obtain ⟨g16, hf⟩ := x_gd hf
      refine x_aald23 C (x5_k1 kh) (x5_l1 kh) g15 dX3_work_34 ?_
      obtain ⟨q17, hg, hf⟩ := x_bd hf
      refine x_callVv C (by rw [kh]; decide) (by rw [kh]; decide) (xc5 kh) rfl (t_X3_recordServed kh g16 hg) (cwV 1 C.1.2.2.2.2 gX3_work_X3_recordServed rfl rfl rfl (by decide +kernel) ⟨Nat.le_of_ble_eq_true rfl, Nat.le_of_ble_eq_true rfl⟩) rfl rfl (Nat.le_of_ble_eq_true rfl) dX3_work_35 ⟨Nat.zero_le _, Nat.zero_le _⟩ (fun ta18 => ?_)
      clear hg
      refine x_aload_n C 0 dX3_work_38 rfl ?_
      refine x_aload_n C 1 dX3_work_39 rfl ?_
      refine x_get7 C ka1 i7 2 (by decide) (by decide +kernel) rfl rfl dX3_work_40 ?_
      obtain ⟨q19, hg, hf⟩ := x_bd hf
      refine x_callVv C (by rw [kh]; decide) (by rw [kh]; decide) (xc5 kh) rfl (t_X3_leave kh hg) (cwV 1 C.1.2.2.2.2 gX3_work_X3_leave rfl rfl rfl (by decide +kernel) ⟨Nat.le_of_ble_eq_true rfl, Nat.le_of_ble_eq_true rfl⟩) rfl rfl (Nat.le_of_ble_eq_true rfl) dX3_work_43 ⟨Nat.zero_le _, Nat.zero_le _⟩ (fun ta20 => ?_)
      clear hg
      refine x_aload_n C 1 dX3_work_46 rfl ?_
      refine x_dup C dX3_work_47 rfl ?_
      refine x_get7 C ka1 i7 0 (by decide) (by decide +kernel) rfl rfl dX3_work_48 ?_
      refine x_iconst (v := 1) C dX3_work_51 (by decide) ?_
      refine x_isub C dX3_work_52 ?_
      refine x_put7 C ka1 i7 0 (by decide) (by decide +kernel) dX3_work_53 ?_
      obtain ⟨M21, e22, hf⟩ := x_lt hf
      rw [← e22]
      clear e22
      refine x_aload_n C 1 dX3_work_56 rfl ?_
      refine x_get7 C ka1 i7 0 (by decide) (by decide +kernel) rfl rfl dX3_work_57 ?_
      refine x_if_ne C 68 dX3_work_60 (by decide) (fun hc23 => ?_) (fun hc23 => ?_)
      · have hf := x_ine hc23 hf
        obtain rfl := Option.some.inj hf
        exact x_vret C hr hlk dX3_work_68
      · have hf := x_ip hc23 hf
        refine x_aload_n C 0 dX3_work_63 rfl ?_
        refine x_aload_n C 1 dX3_work_64 rfl ?_
        obtain ⟨q24, hg, hf⟩ := x_bd hf
        refine x_callVv C (by rw [kh]; decide) (by rw [kh]; decide) (xc5 kh) rfl (t_X3_shut kh ka1 hg) (cwV 1 C.1.2.2.2.2 gX3_work_X3_shut rfl rfl rfl (by decide +kernel) ⟨Nat.le_of_ble_eq_true rfl, Nat.le_of_ble_eq_true rfl⟩) rfl rfl (Nat.le_of_ble_eq_true rfl) dX3_work_65 ⟨Nat.zero_le _, Nat.zero_le _⟩ (fun ta25 => ?_)
        clear hg
        obtain rfl := Option.some.inj hf
        exact x_vret C hr hlk dX3_work_68
/-! WaitingRoomSimulation$Hall.waitInQueue()V -/
abbrev rm_X3_waitInQueue (c s : Nat) : Room := { frames := 2, cells := c, slots := s, locals := 47 }
def f_X3_waitInQueue_L9 (h : Nat) (v1 : Int32) : Nat → Int32 → Int32 → xM → Option (xM)
  | 0, _, _, _ => none
  | n+1, v2, v3, M => (if v1 ≤ v3 then some M else if x_in v2 12 = true then if x_in (M.1 (h + 2) v2.toNatClampNeg) 12 = true then if xkd (M.2.1 (h + 1) (M.1 (h + 2) v2.toNatClampNeg).toNatClampNeg) = 4 then (f_X2_sighsInMinute (M.2.1 (h + 1) (M.1 (h + 2) v2.toNatClampNeg).toNatClampNeg) M).bind fun q5 => (if q5.1 = 0 then if x_in (M.1 (h + 2) v2.toNatClampNeg) 12 = true then if xkd (q5.2.2.1 (h + 1) (M.1 (h + 2) v2.toNatClampNeg).toNatClampNeg) = 4 then (if (q5.2.1 (q5.2.2.1 (h + 1) (M.1 (h + 2) v2.toNatClampNeg).toNatClampNeg) 2) < (3 : Int32) then f_X3_waitInQueue_L9 h v1 n (v2 + 1) (v3 + 1) q5.2 else x_let (sI q5.2 h 11 ((q5.2.1 h 11) + (1 : Int32))) fun M11 => (f_X3_leave h (M.1 (h + 2) v2.toNatClampNeg) M11).bind fun q13 => f_X3_waitInQueue_L9 h v1 n v2 (v3 + 1) q13) else none else none else x_let (sI q5.2 h 13 ((q5.2.1 h 13) + (1 : Int32))) fun M15 => if x_in (M.1 (h + 2) v2.toNatClampNeg) 12 = true then if xkd (M15.2.1 (h + 1) (M.1 (h + 2) v2.toNatClampNeg).toNatClampNeg) = 4 then (if (M15.1 (M15.2.1 (h + 1) (M.1 (h + 2) v2.toNatClampNeg).toNatClampNeg) 2) < (3 : Int32) then f_X3_waitInQueue_L9 h v1 n (v2 + 1) (v3 + 1) M15 else x_let (sI M15 h 11 ((M15.1 h 11) + (1 : Int32))) fun M20 => (f_X3_leave h (M.1 (h + 2) v2.toNatClampNeg) M20).bind fun q22 => f_X3_waitInQueue_L9 h v1 n v2 (v3 + 1) q22) else none else none) else none else none else none)
def f_X3_waitInQueue (h : Nat) (M : xM) : Option (xM) := f_X3_waitInQueue_L9 h (M.1 h 3) xF (0 : Int32) (0 : Int32) M
set_option maxHeartbeats 4000000 in
set_option maxRecDepth 100000 in
theorem t_X3_waitInQueue_L9 {G : xG} {p : Program} {l : Launch} {e : Env} {s : State} {m : MethodId} {args : Array Value} {below : List Frame} {meth : Method} {c : Code} (C : xC G p s m args c cX3_waitInQueue 5 wsX3_waitInQueue RX3) (hr : meth.sig.returnType = none) (hlk : meth.locks = false) {h : Nat} {v1 : Int32} (kh : xkd h = 5) : ∀ (n : Nat) (v2 : Int32) (v3 : Int32) (M : xM) (ta : Nat × Nat) (out : xM), f_X3_waitInQueue_L9 h v1 n v2 v3 M = some out → xW G p l e (rm_X3_waitInQueue 0 0) s m args below meth c 5 (MQ below (xQr G none out) args s 0 0 (xAs G)) 0 0 ta M 9 [(0, .ref (xad G h)), (1, .int v1), (2, .int v2), (3, .int v3)] [] := by
  intro n
  induction n with
  | zero =>
    intro v2 v3 M ta out hf
    rw [f_X3_waitInQueue_L9] at hf
    cases hf
  | succ n ih =>
    intro v2 v3 M ta out hf
    rw [f_X3_waitInQueue_L9] at hf
    have i4 : ∀ w ∈ wsX20, w ∈ wsX3_waitInQueue := by decide +kernel
    have i5 : ∀ w ∈ wsX30, w ∈ wsX3_waitInQueue := by decide +kernel
    refine x_iload_n C 3 dX3_waitInQueue_9 rfl ?_
    refine x_iload_n C 1 dX3_waitInQueue_10 rfl ?_
    refine x_icmp_ge C 87 dX3_waitInQueue_11 (by decide) (fun hc1 => ?_) (fun hc1 => ?_)
    · have hf := x_ip hc1 hf
      obtain rfl := Option.some.inj hf
      exact x_vret C hr hlk dX3_waitInQueue_87
    · have hf := x_ine hc1 hf
      refine x_aload_n C 0 dX3_waitInQueue_14 rfl ?_
      refine x_get5 C kh i5 2 (by decide) (by decide +kernel) rfl rfl dX3_waitInQueue_15 ?_
      refine x_iload_n C 2 dX3_waitInQueue_18 rfl ?_
      obtain ⟨g2, hf⟩ := x_gd hf
      refine x_iald C (x5_k2 kh) (x5_l2 kh) g2 dX3_waitInQueue_19 ?_
      refine x_istore (lv' := [(4, .int (M.1 (h + 2) v2.toNatClampNeg)), (0, .ref (xad G h)), (1, .int v1), (2, .int v2), (3, .int v3)]) C dX3_waitInQueue_20 (by decide) rfl ?_
      refine x_aload_n C 1 dX3_waitInQueue_22 rfl ?_
      refine x_get5 C kh i5 0 (by decide) (by decide +kernel) rfl rfl dX3_waitInQueue_23 ?_
      refine x_iload C 0 dX3_waitInQueue_26 rfl ?_
      obtain ⟨g3, hf⟩ := x_gd hf
      obtain ⟨g4, hf⟩ := x_gd hf
      refine x_aald23 C (x5_k1 kh) (x5_l1 kh) g3 dX3_waitInQueue_28 ?_
      obtain ⟨q5, hg, hf⟩ := x_bd hf
      refine x_callVr C (by rw [g4]; decide) (by rw [g4]; decide) (xc4 g4) rfl (t_X2_sighsInMinute g4 hg) (cwV 0 C.1.2.2.2.2 gX3_waitInQueue_X2_sighsInMinute rfl rfl rfl (by decide +kernel) ⟨Nat.le_of_ble_eq_true rfl, Nat.le_of_ble_eq_true rfl⟩) rfl rfl (Nat.le_of_ble_eq_true rfl) dX3_waitInQueue_29 ⟨Nat.zero_le _, Nat.zero_le _⟩ (fun ta6 => ?_)
      clear hg
      refine x_if_eq C 45 dX3_waitInQueue_32 (by decide) (fun hc7 => ?_) (fun hc7 => ?_)
      · have hf := x_ip hc7 hf
        refine x_aload_n C 1 dX3_waitInQueue_45 rfl ?_
        refine x_get5 C kh i5 0 (by decide) (by decide +kernel) rfl rfl dX3_waitInQueue_46 ?_
        refine x_iload C 0 dX3_waitInQueue_49 rfl ?_
        obtain ⟨g8, hf⟩ := x_gd hf
        obtain ⟨g9, hf⟩ := x_gd hf
        refine x_aald23 C (x5_k1 kh) (x5_l1 kh) g8 dX3_waitInQueue_51 ?_
        refine x_get4 C g9 i4 2 (by decide) (by decide +kernel) rfl rfl dX3_waitInQueue_52 ?_
        refine x_iconst (v := 3) C dX3_waitInQueue_55 (by decide) ?_
        refine x_icmp_lt C 78 dX3_waitInQueue_56 (by decide) (fun hc10 => ?_) (fun hc10 => ?_)
        · have hf := x_ip hc10 hf
          refine x_iinc (v := v2 + 1) (lv' := [(2, .int (v2 + 1)), (4, .int (M.1 (h + 2) v2.toNatClampNeg)), (0, .ref (xad G h)), (1, .int v1), (3, .int v3)]) C 3 dX3_waitInQueue_78 rfl rfl (by decide) rfl ?_
          refine x_iinc (v := v3 + 1) (lv' := [(3, .int (v3 + 1)), (2, .int (v2 + 1)), (4, .int (M.1 (h + 2) v2.toNatClampNeg)), (0, .ref (xad G h)), (1, .int v1)]) C 4 dX3_waitInQueue_81 rfl rfl (by decide) rfl ?_
          refine x_goto C 9 dX3_waitInQueue_84 (by decide) ?_
          refine x_sub [3, 4, 1, 0] rfl ?_
          exact ih (v2 + 1) (v3 + 1) q5.2 _ _ hf
        · have hf := x_ine hc10 hf
          refine x_aload_n C 1 dX3_waitInQueue_59 rfl ?_
          refine x_dup C dX3_waitInQueue_60 rfl ?_
          refine x_get5 C kh i5 11 (by decide) (by decide +kernel) rfl rfl dX3_waitInQueue_61 ?_
          refine x_iconst (v := 1) C dX3_waitInQueue_64 (by decide) ?_
          refine x_iadd C dX3_waitInQueue_65 ?_
          refine x_put5 C kh i5 11 (by decide) (by decide +kernel) dX3_waitInQueue_66 ?_
          obtain ⟨M11, e12, hf⟩ := x_lt hf
          rw [← e12]
          clear e12
          refine x_aload_n C 1 dX3_waitInQueue_69 rfl ?_
          refine x_iload C 0 dX3_waitInQueue_70 rfl ?_
          obtain ⟨q13, hg, hf⟩ := x_bd hf
          refine x_callVv C (by rw [kh]; decide) (by rw [kh]; decide) (xc5 kh) rfl (t_X3_leave kh hg) (cwV 1 C.1.2.2.2.2 gX3_waitInQueue_X3_leave rfl rfl rfl (by decide +kernel) ⟨Nat.le_of_ble_eq_true rfl, Nat.le_of_ble_eq_true rfl⟩) rfl rfl (Nat.le_of_ble_eq_true rfl) dX3_waitInQueue_72 ⟨Nat.zero_le _, Nat.zero_le _⟩ (fun ta14 => ?_)
          clear hg
          refine x_goto C 81 dX3_waitInQueue_75 (by decide) ?_
          refine x_iinc (v := v3 + 1) (lv' := [(3, .int (v3 + 1)), (4, .int (M.1 (h + 2) v2.toNatClampNeg)), (0, .ref (xad G h)), (1, .int v1), (2, .int v2)]) C 4 dX3_waitInQueue_81 rfl rfl (by decide) rfl ?_
          refine x_goto C 9 dX3_waitInQueue_84 (by decide) ?_
          refine x_sub [2, 3, 4, 0] rfl ?_
          exact ih v2 (v3 + 1) q13 _ _ hf
      · have hf := x_ine hc7 hf
        refine x_aload_n C 1 dX3_waitInQueue_35 rfl ?_
        refine x_dup C dX3_waitInQueue_36 rfl ?_
        refine x_get5 C kh i5 13 (by decide) (by decide +kernel) rfl rfl dX3_waitInQueue_37 ?_
        refine x_iconst (v := 1) C dX3_waitInQueue_40 (by decide) ?_
        refine x_iadd C dX3_waitInQueue_41 ?_
        refine x_put5 C kh i5 13 (by decide) (by decide +kernel) dX3_waitInQueue_42 ?_
        obtain ⟨M15, e16, hf⟩ := x_lt hf
        rw [← e16]
        clear e16
        refine x_aload_n C 1 dX3_waitInQueue_45 rfl ?_
        refine x_get5 C kh i5 0 (by decide) (by decide +kernel) rfl rfl dX3_waitInQueue_46 ?_
        refine x_iload C 0 dX3_waitInQueue_49 rfl ?_
        obtain ⟨g17, hf⟩ := x_gd hf
        obtain ⟨g18, hf⟩ := x_gd hf
        refine x_aald23 C (x5_k1 kh) (x5_l1 kh) g17 dX3_waitInQueue_51 ?_
        refine x_get4 C g18 i4 2 (by decide) (by decide +kernel) rfl rfl dX3_waitInQueue_52 ?_
        refine x_iconst (v := 3) C dX3_waitInQueue_55 (by decide) ?_
        refine x_icmp_lt C 78 dX3_waitInQueue_56 (by decide) (fun hc19 => ?_) (fun hc19 => ?_)
        · have hf := x_ip hc19 hf
          refine x_iinc (v := v2 + 1) (lv' := [(2, .int (v2 + 1)), (4, .int (M.1 (h + 2) v2.toNatClampNeg)), (0, .ref (xad G h)), (1, .int v1), (3, .int v3)]) C 3 dX3_waitInQueue_78 rfl rfl (by decide) rfl ?_
          refine x_iinc (v := v3 + 1) (lv' := [(3, .int (v3 + 1)), (2, .int (v2 + 1)), (4, .int (M.1 (h + 2) v2.toNatClampNeg)), (0, .ref (xad G h)), (1, .int v1)]) C 4 dX3_waitInQueue_81 rfl rfl (by decide) rfl ?_
          refine x_goto C 9 dX3_waitInQueue_84 (by decide) ?_
          refine x_sub [3, 4, 1, 0] rfl ?_
          exact ih (v2 + 1) (v3 + 1) M15 _ _ hf
        · have hf := x_ine hc19 hf
          refine x_aload_n C 1 dX3_waitInQueue_59 rfl ?_
          refine x_dup C dX3_waitInQueue_60 rfl ?_
          refine x_get5 C kh i5 11 (by decide) (by decide +kernel) rfl rfl dX3_waitInQueue_61 ?_
          refine x_iconst (v := 1) C dX3_waitInQueue_64 (by decide) ?_
          refine x_iadd C dX3_waitInQueue_65 ?_
          refine x_put5 C kh i5 11 (by decide) (by decide +kernel) dX3_waitInQueue_66 ?_
          obtain ⟨M20, e21, hf⟩ := x_lt hf
          rw [← e21]
          clear e21
          refine x_aload_n C 1 dX3_waitInQueue_69 rfl ?_
          refine x_iload C 0 dX3_waitInQueue_70 rfl ?_
          obtain ⟨q22, hg, hf⟩ := x_bd hf
          refine x_callVv C (by rw [kh]; decide) (by rw [kh]; decide) (xc5 kh) rfl (t_X3_leave kh hg) (cwV 1 C.1.2.2.2.2 gX3_waitInQueue_X3_leave rfl rfl rfl (by decide +kernel) ⟨Nat.le_of_ble_eq_true rfl, Nat.le_of_ble_eq_true rfl⟩) rfl rfl (Nat.le_of_ble_eq_true rfl) dX3_waitInQueue_72 ⟨Nat.zero_le _, Nat.zero_le _⟩ (fun ta23 => ?_)
          clear hg
          refine x_goto C 81 dX3_waitInQueue_75 (by decide) ?_
          refine x_iinc (v := v3 + 1) (lv' := [(3, .int (v3 + 1)), (4, .int (M.1 (h + 2) v2.toNatClampNeg)), (0, .ref (xad G h)), (1, .int v1), (2, .int v2)]) C 4 dX3_waitInQueue_81 rfl rfl (by decide) rfl ?_
          refine x_goto C 9 dX3_waitInQueue_84 (by decide) ?_
          refine x_sub [2, 3, 4, 0] rfl ?_
          exact ih v2 (v3 + 1) q22 _ _ hf
set_option maxHeartbeats 4000000 in
set_option maxRecDepth 100000 in
theorem t_X3_waitInQueue {l : Launch} {G : xG} {ta : Nat × Nat} {M : xM} {h : Nat} {out : xM} (kh : xkd h = 5) (hf : f_X3_waitInQueue h M = some out) : xMet G l yX3_waitInQueue wsX3_waitInQueue (rm_X3_waitInQueue 0 0) 0 0 ta M [.ref (xad G h)] none out := by
  refine x_met (cc := cX3_waitInQueue) (nL := 5) (ret := none) (by decide) rfl (Nat.le_of_ble_eq_true rfl) ?_
  intro p e s m args below meth c C hr hlk
  have C : xC G p s m args c cX3_waitInQueue 5 wsX3_waitInQueue RX3 := C
  have i4 : ∀ w ∈ wsX20, w ∈ wsX3_waitInQueue := by decide +kernel
  have i5 : ∀ w ∈ wsX30, w ∈ wsX3_waitInQueue := by decide +kernel
  unfold f_X3_waitInQueue at hf
  show xW G p l e (rm_X3_waitInQueue 0 0) s m args below meth c 5 (MQ below (xQr G none out) args s 0 0 (xAs G)) 0 0 ta M 0 [(0, .ref (xad G h))] []
  refine x_aload_n C 0 dX3_waitInQueue_0 rfl ?_
  refine x_get5 C kh i5 3 (by decide) (by decide +kernel) rfl rfl dX3_waitInQueue_1 ?_
  refine x_istore_n (lv' := [(1, .int (M.1 h 3)), (0, .ref (xad G h))]) C dX3_waitInQueue_4 rfl (by decide) rfl ?_
  refine x_iconst (v := 0) C dX3_waitInQueue_5 (by decide) ?_
  refine x_istore_n (lv' := [(2, .int (0 : Int32)), (1, .int (M.1 h 3)), (0, .ref (xad G h))]) C dX3_waitInQueue_6 rfl (by decide) rfl ?_
  refine x_iconst (v := 0) C dX3_waitInQueue_7 (by decide) ?_
  refine x_istore_n (lv' := [(3, .int (0 : Int32)), (2, .int (0 : Int32)), (1, .int (M.1 h 3)), (0, .ref (xad G h))]) C dX3_waitInQueue_8 rfl (by decide) rfl ?_
  refine x_sub [3, 2, 1, 0] rfl ?_
  exact t_X3_waitInQueue_L9 C hr hlk kh xF (0 : Int32) (0 : Int32) M _ _ hf
/-! WaitingRoomSimulation$Hall.fill(LWaitingRoomSimulation$Window;)V -/
abbrev rm_X3_fill (c s : Nat) : Room := { frames := 1, cells := c, slots := s, locals := 22 }
def f_X3_fill_L2 (h : Nat) (a1 : Nat) (M : xM) : Nat → Int32 → Option (xM)
  | 0, _ => none
  | n+1, v2 => (if (M.1 h 3) ≤ v2 then some M else if x_in v2 12 = true then if x_in (M.1 (h + 2) v2.toNatClampNeg) 12 = true then if xkd (M.2.1 (h + 1) (M.1 (h + 2) v2.toNatClampNeg).toNatClampNeg) = 4 then (if (M.1 (M.2.1 (h + 1) (M.1 (h + 2) v2.toNatClampNeg).toNatClampNeg) 5) = 0 then f_X3_fill_L2 h a1 M n (v2 + 1) else x_let (sI M (M.2.1 (h + 1) (M.1 (h + 2) v2.toNatClampNeg).toNatClampNeg) 6 (0 : Int32)) fun M6 => if x_in v2 12 = true then x_let (sI M6 a1 2 (M6.1 (h + 2) v2.toNatClampNeg)) fun M9 => x_let (sI M9 a1 3 (M9.1 a1 1)) fun M11 => (f_X3_takeFromQueue h v2 M11).bind fun q13 => some q13 else none) else none else none else none)
def f_X3_fill (h : Nat) (a1 : Nat) (M : xM) : Option (xM) := f_X3_fill_L2 h a1 M xF (0 : Int32)
set_option maxHeartbeats 4000000 in
set_option maxRecDepth 100000 in
theorem t_X3_fill_L2 {G : xG} {p : Program} {l : Launch} {e : Env} {s : State} {m : MethodId} {args : Array Value} {below : List Frame} {meth : Method} {c : Code} (C : xC G p s m args c cX3_fill 4 wsX3_fill RX3) (hr : meth.sig.returnType = none) (hlk : meth.locks = false) {h : Nat} {a1 : Nat} {M : xM} (kh : xkd h = 5) (ka1 : xkd a1 = 7) : ∀ (n : Nat) (v2 : Int32) (ta : Nat × Nat) (out : xM), f_X3_fill_L2 h a1 M n v2 = some out → xW G p l e (rm_X3_fill 0 0) s m args below meth c 4 (MQ below (xQr G none out) args s 0 0 (xAs G)) 0 0 ta M 2 [(0, .ref (xad G h)), (1, .ref (xad G a1)), (2, .int v2)] [] := by
  intro n
  induction n with
  | zero =>
    intro v2 ta out hf
    rw [f_X3_fill_L2] at hf
    cases hf
  | succ n ih =>
    intro v2 ta out hf
    rw [f_X3_fill_L2] at hf
    have i4 : ∀ w ∈ wsX20, w ∈ wsX3_fill := by decide +kernel
    have i5 : ∀ w ∈ wsX30, w ∈ wsX3_fill := by decide +kernel
    have i7 : ∀ w ∈ wsX50, w ∈ wsX3_fill := by decide +kernel
    refine x_iload_n C 2 dX3_fill_2 rfl ?_
    refine x_aload_n C 0 dX3_fill_3 rfl ?_
    refine x_get5 C kh i5 3 (by decide) (by decide +kernel) rfl rfl dX3_fill_4 ?_
    refine x_icmp_ge C 64 dX3_fill_7 (by decide) (fun hc1 => ?_) (fun hc1 => ?_)
    · have hf := x_ip hc1 hf
      obtain rfl := Option.some.inj hf
      exact x_vret C hr hlk dX3_fill_64
    · have hf := x_ine hc1 hf
      refine x_aload_n C 0 dX3_fill_10 rfl ?_
      refine x_get5 C kh i5 0 (by decide) (by decide +kernel) rfl rfl dX3_fill_11 ?_
      refine x_aload_n C 0 dX3_fill_14 rfl ?_
      refine x_get5 C kh i5 2 (by decide) (by decide +kernel) rfl rfl dX3_fill_15 ?_
      refine x_iload_n C 2 dX3_fill_18 rfl ?_
      obtain ⟨g2, hf⟩ := x_gd hf
      refine x_iald C (x5_k2 kh) (x5_l2 kh) g2 dX3_fill_19 ?_
      obtain ⟨g3, hf⟩ := x_gd hf
      obtain ⟨g4, hf⟩ := x_gd hf
      refine x_aald23 C (x5_k1 kh) (x5_l1 kh) g3 dX3_fill_20 ?_
      refine x_astore_n (lv' := [(3, .ref (xad G (M.2.1 (h + 1) (M.1 (h + 2) v2.toNatClampNeg).toNatClampNeg))), (0, .ref (xad G h)), (1, .ref (xad G a1)), (2, .int v2)]) C dX3_fill_21 rfl (by decide) rfl ?_
      refine x_aload_n C 0 dX3_fill_22 rfl ?_
      refine x_get4 C g4 i4 5 (by decide) (by decide +kernel) rfl rfl dX3_fill_23 ?_
      refine x_if_eq C 58 dX3_fill_26 (by decide) (fun hc5 => ?_) (fun hc5 => ?_)
      · have hf := x_ip hc5 hf
        refine x_iinc (v := v2 + 1) (lv' := [(2, .int (v2 + 1)), (3, .ref (xad G (M.2.1 (h + 1) (M.1 (h + 2) v2.toNatClampNeg).toNatClampNeg))), (0, .ref (xad G h)), (1, .ref (xad G a1))]) C 3 dX3_fill_58 rfl rfl (by decide) rfl ?_
        refine x_goto C 2 dX3_fill_61 (by decide) ?_
        refine x_sub [2, 3, 0] rfl ?_
        exact ih (v2 + 1) _ _ hf
      · have hf := x_ine hc5 hf
        refine x_aload_n C 0 dX3_fill_29 rfl ?_
        refine x_iconst (v := 0) C dX3_fill_30 (by decide) ?_
        refine x_putz4 C g4 i4 6 (by decide) (by decide) (by decide +kernel) dX3_fill_31 ?_
        obtain ⟨M6, e7, hf⟩ := x_lt hf
        rw [← e7]
        clear e7
        refine x_aload_n C 2 dX3_fill_34 rfl ?_
        refine x_aload_n C 1 dX3_fill_35 rfl ?_
        refine x_get5 C kh i5 2 (by decide) (by decide +kernel) rfl rfl dX3_fill_36 ?_
        refine x_iload_n C 3 dX3_fill_39 rfl ?_
        obtain ⟨g8, hf⟩ := x_gd hf
        refine x_iald C (x5_k2 kh) (x5_l2 kh) g8 dX3_fill_40 ?_
        refine x_put7 C ka1 i7 2 (by decide) (by decide +kernel) dX3_fill_41 ?_
        obtain ⟨M9, e10, hf⟩ := x_lt hf
        rw [← e10]
        clear e10
        refine x_aload_n C 2 dX3_fill_44 rfl ?_
        refine x_aload_n C 2 dX3_fill_45 rfl ?_
        refine x_get7 C ka1 i7 1 (by decide) (by decide +kernel) rfl rfl dX3_fill_46 ?_
        refine x_put7 C ka1 i7 3 (by decide) (by decide +kernel) dX3_fill_49 ?_
        obtain ⟨M11, e12, hf⟩ := x_lt hf
        rw [← e12]
        clear e12
        refine x_aload_n C 1 dX3_fill_52 rfl ?_
        refine x_iload_n C 3 dX3_fill_53 rfl ?_
        obtain ⟨q13, hg, hf⟩ := x_bd hf
        refine x_callVv C (by rw [kh]; decide) (by rw [kh]; decide) (xc5 kh) rfl (t_X3_takeFromQueue kh hg) (cwV 1 C.1.2.2.2.2 gX3_fill_X3_takeFromQueue rfl rfl rfl (by decide +kernel) ⟨Nat.le_of_ble_eq_true rfl, Nat.le_of_ble_eq_true rfl⟩) rfl rfl (Nat.le_of_ble_eq_true rfl) dX3_fill_54 ⟨Nat.zero_le _, Nat.zero_le _⟩ (fun ta14 => ?_)
        clear hg
        obtain rfl := Option.some.inj hf
        exact x_vret C hr hlk dX3_fill_57
set_option maxHeartbeats 4000000 in
set_option maxRecDepth 100000 in
theorem t_X3_fill {l : Launch} {G : xG} {ta : Nat × Nat} {M : xM} {h : Nat} {a1 : Nat} {out : xM} (kh : xkd h = 5) (ka1 : xkd a1 = 7) (hf : f_X3_fill h a1 M = some out) : xMet G l yX3_fill wsX3_fill (rm_X3_fill 0 0) 0 0 ta M [.ref (xad G h), .ref (xad G a1)] none out := by
  refine x_met (cc := cX3_fill) (nL := 4) (ret := none) (by decide) rfl (Nat.le_of_ble_eq_true rfl) ?_
  intro p e s m args below meth c C hr hlk
  have C : xC G p s m args c cX3_fill 4 wsX3_fill RX3 := C
  have i4 : ∀ w ∈ wsX20, w ∈ wsX3_fill := by decide +kernel
  have i5 : ∀ w ∈ wsX30, w ∈ wsX3_fill := by decide +kernel
  have i7 : ∀ w ∈ wsX50, w ∈ wsX3_fill := by decide +kernel
  unfold f_X3_fill at hf
  show xW G p l e (rm_X3_fill 0 0) s m args below meth c 4 (MQ below (xQr G none out) args s 0 0 (xAs G)) 0 0 ta M 0 [(0, .ref (xad G h)), (1, .ref (xad G a1))] []
  refine x_iconst (v := 0) C dX3_fill_0 (by decide) ?_
  refine x_istore_n (lv' := [(2, .int (0 : Int32)), (0, .ref (xad G h)), (1, .ref (xad G a1))]) C dX3_fill_1 rfl (by decide) rfl ?_
  refine x_sub [1, 2, 0] rfl ?_
  exact t_X3_fill_L2 C hr hlk kh ka1 xF (0 : Int32) _ _ hf
/-! WaitingRoomSimulation$Hall.passMinute()V -/
abbrev rm_X3_passMinute (c s : Nat) : Room := { frames := 3, cells := c, slots := s, locals := 71 }
def f_X3_passMinute_L41 (h : Nat) : Nat → Int32 → xM → Option (xM)
  | 0, _, _ => none
  | n+1, v1, M => (if (3 : Int32) ≤ v1 then x_let (sI M h 7 ((M.1 h 7) + (1 : Int32))) fun M5 => some M5 else if x_in v1 3 = true then if xkd (h + 3 + 15 + v1.toNatClampNeg) = 7 then (f_X5_isOpen (h + 3 + 15 + v1.toNatClampNeg) M).bind fun q9 => (if q9 = 0 then f_X3_passMinute_L41 h n (v1 + 1) M else if x_in v1 3 = true then if xkd (h + 3 + 15 + v1.toNatClampNeg) = 7 then (if (M.1 (h + 3 + 15 + v1.toNatClampNeg) 2) = (-1 : Int32) then if x_in v1 3 = true then if xkd (h + 3 + 15 + v1.toNatClampNeg) = 7 then (f_X3_fill h (h + 3 + 15 + v1.toNatClampNeg) M).bind fun q17 => f_X3_passMinute_L41 h n (v1 + 1) q17 else none else none else f_X3_passMinute_L41 h n (v1 + 1) M) else none else none) else none else none)
def f_X3_passMinute_L2 (h : Nat) : Nat → Int32 → xM → Option (xM)
  | 0, _, _ => none
  | n+1, v1, M => (if (3 : Int32) ≤ v1 then (f_X3_waitInQueue h M).bind fun q2 => f_X3_passMinute_L41 h xF (0 : Int32) q2 else if x_in v1 3 = true then if xkd (h + 3 + 15 + v1.toNatClampNeg) = 7 then (f_X5_isOpen (h + 3 + 15 + v1.toNatClampNeg) M).bind fun q21 => (if q21 = 0 then f_X3_passMinute_L2 h n (v1 + 1) M else if x_in v1 3 = true then if xkd (h + 3 + 15 + v1.toNatClampNeg) = 7 then (f_X3_work h (h + 3 + 15 + v1.toNatClampNeg) M).bind fun q26 => f_X3_passMinute_L2 h n (v1 + 1) q26 else none else none) else none else none)
def f_X3_passMinute (h : Nat) (M : xM) : Option (xM) := f_X3_passMinute_L2 h xF (0 : Int32) M
set_option maxHeartbeats 4000000 in
set_option maxRecDepth 100000 in
theorem t_X3_passMinute_L41 {G : xG} {p : Program} {l : Launch} {e : Env} {s : State} {m : MethodId} {args : Array Value} {below : List Frame} {meth : Method} {c : Code} (C : xC G p s m args c cX3_passMinute 2 wsX3_passMinute RX3) (hr : meth.sig.returnType = none) (hlk : meth.locks = false) {h : Nat} (kh : xkd h = 5) : ∀ (n : Nat) (v1 : Int32) (M : xM) (ta : Nat × Nat) (out : xM), f_X3_passMinute_L41 h n v1 M = some out → xW G p l e (rm_X3_passMinute 0 0) s m args below meth c 2 (MQ below (xQr G none out) args s 0 0 (xAs G)) 0 0 ta M 41 [(0, .ref (xad G h)), (1, .int v1)] [] := by
  intro n
  induction n with
  | zero =>
    intro v1 M ta out hf
    rw [f_X3_passMinute_L41] at hf
    cases hf
  | succ n ih =>
    intro v1 M ta out hf
    rw [f_X3_passMinute_L41] at hf
    have i5 : ∀ w ∈ wsX30, w ∈ wsX3_passMinute := by decide +kernel
    have i7 : ∀ w ∈ wsX50, w ∈ wsX3_passMinute := by decide +kernel
    refine x_iload_n C 1 dX3_passMinute_41 rfl ?_
    refine x_iconst (v := 3) C dX3_passMinute_42 (by decide) ?_
    refine x_icmp_ge C 87 dX3_passMinute_43 (by decide) (fun hc4 => ?_) (fun hc4 => ?_)
    · have hf := x_ip hc4 hf
      refine x_aload_n C 0 dX3_passMinute_87 rfl ?_
      refine x_dup C dX3_passMinute_88 rfl ?_
      refine x_get5 C kh i5 7 (by decide) (by decide +kernel) rfl rfl dX3_passMinute_89 ?_
      refine x_iconst (v := 1) C dX3_passMinute_92 (by decide) ?_
      refine x_iadd C dX3_passMinute_93 ?_
      refine x_put5 C kh i5 7 (by decide) (by decide +kernel) dX3_passMinute_94 ?_
      obtain ⟨M5, e6, hf⟩ := x_lt hf
      rw [← e6]
      clear e6
      obtain rfl := Option.some.inj hf
      exact x_vret C hr hlk dX3_passMinute_97
    · have hf := x_ine hc4 hf
      refine x_aload_n C 0 dX3_passMinute_46 rfl ?_
      refine x_get5 C kh i5 4 (by decide) (by decide +kernel) rfl rfl dX3_passMinute_47 ?_
      refine x_iload_n C 1 dX3_passMinute_50 rfl ?_
      obtain ⟨g7, hf⟩ := x_gd hf
      obtain ⟨g8, hf⟩ := x_gd hf
      refine x_aald25 C (x5_k3 kh) (x5_l3 kh) g7 dX3_passMinute_51 ?_
      obtain ⟨q9, hg, hf⟩ := x_bd hf
      refine x_callVr C (by rw [g8]; decide) (by rw [g8]; decide) (xc7 g8) rfl (t_X5_isOpen g8 hg) (cwV 0 C.1.2.2.2.2 gX3_passMinute_X5_isOpen rfl rfl rfl (by decide +kernel) ⟨Nat.le_of_ble_eq_true rfl, Nat.le_of_ble_eq_true rfl⟩) rfl rfl (Nat.le_of_ble_eq_true rfl) dX3_passMinute_52 ⟨Nat.zero_le _, Nat.zero_le _⟩ (fun ta10 => ?_)
      clear hg
      refine x_if_eq C 81 dX3_passMinute_55 (by decide) (fun hc11 => ?_) (fun hc11 => ?_)
      · have hf := x_ip hc11 hf
        refine x_iinc (v := v1 + 1) (lv' := [(1, .int (v1 + 1)), (0, .ref (xad G h))]) C 1 dX3_passMinute_81 rfl rfl (by decide) rfl ?_
        refine x_goto C 41 dX3_passMinute_84 (by decide) ?_
        refine x_sub [1, 0] rfl ?_
        exact ih (v1 + 1) M _ _ hf
      · have hf := x_ine hc11 hf
        refine x_aload_n C 0 dX3_passMinute_58 rfl ?_
        refine x_get5 C kh i5 4 (by decide) (by decide +kernel) rfl rfl dX3_passMinute_59 ?_
        refine x_iload_n C 1 dX3_passMinute_62 rfl ?_
        obtain ⟨g12, hf⟩ := x_gd hf
        obtain ⟨g13, hf⟩ := x_gd hf
        refine x_aald25 C (x5_k3 kh) (x5_l3 kh) g12 dX3_passMinute_63 ?_
        refine x_get7 C g13 i7 2 (by decide) (by decide +kernel) rfl rfl dX3_passMinute_64 ?_
        refine x_iconst (v := (-1)) C dX3_passMinute_67 (by decide) ?_
        refine x_icmp_ne C 81 dX3_passMinute_68 (by decide) (fun hc14 => ?_) (fun hc14 => ?_)
        · have hf := x_ine hc14 hf
          refine x_iinc (v := v1 + 1) (lv' := [(1, .int (v1 + 1)), (0, .ref (xad G h))]) C 1 dX3_passMinute_81 rfl rfl (by decide) rfl ?_
          refine x_goto C 41 dX3_passMinute_84 (by decide) ?_
          refine x_sub [1, 0] rfl ?_
          exact ih (v1 + 1) M _ _ hf
        · have hf := x_ip hc14 hf
          refine x_aload_n C 0 dX3_passMinute_71 rfl ?_
          refine x_aload_n C 0 dX3_passMinute_72 rfl ?_
          refine x_get5 C kh i5 4 (by decide) (by decide +kernel) rfl rfl dX3_passMinute_73 ?_
          refine x_iload_n C 1 dX3_passMinute_76 rfl ?_
          obtain ⟨g15, hf⟩ := x_gd hf
          obtain ⟨g16, hf⟩ := x_gd hf
          refine x_aald25 C (x5_k3 kh) (x5_l3 kh) g15 dX3_passMinute_77 ?_
          obtain ⟨q17, hg, hf⟩ := x_bd hf
          refine x_callVv C (by rw [kh]; decide) (by rw [kh]; decide) (xc5 kh) rfl (t_X3_fill kh g16 hg) (cwV 1 C.1.2.2.2.2 gX3_passMinute_X3_fill rfl rfl rfl (by decide +kernel) ⟨Nat.le_of_ble_eq_true rfl, Nat.le_of_ble_eq_true rfl⟩) rfl rfl (Nat.le_of_ble_eq_true rfl) dX3_passMinute_78 ⟨Nat.zero_le _, Nat.zero_le _⟩ (fun ta18 => ?_)
          clear hg
          refine x_iinc (v := v1 + 1) (lv' := [(1, .int (v1 + 1)), (0, .ref (xad G h))]) C 1 dX3_passMinute_81 rfl rfl (by decide) rfl ?_
          refine x_goto C 41 dX3_passMinute_84 (by decide) ?_
          refine x_sub [1, 0] rfl ?_
          exact ih (v1 + 1) q17 _ _ hf
set_option maxHeartbeats 4000000 in
set_option maxRecDepth 100000 in
theorem t_X3_passMinute_L2 {G : xG} {p : Program} {l : Launch} {e : Env} {s : State} {m : MethodId} {args : Array Value} {below : List Frame} {meth : Method} {c : Code} (C : xC G p s m args c cX3_passMinute 2 wsX3_passMinute RX3) (hr : meth.sig.returnType = none) (hlk : meth.locks = false) {h : Nat} (kh : xkd h = 5) : ∀ (n : Nat) (v1 : Int32) (M : xM) (ta : Nat × Nat) (out : xM), f_X3_passMinute_L2 h n v1 M = some out → xW G p l e (rm_X3_passMinute 0 0) s m args below meth c 2 (MQ below (xQr G none out) args s 0 0 (xAs G)) 0 0 ta M 2 [(0, .ref (xad G h)), (1, .int v1)] [] := by
  intro n
  induction n with
  | zero =>
    intro v1 M ta out hf
    rw [f_X3_passMinute_L2] at hf
    cases hf
  | succ n ih =>
    intro v1 M ta out hf
    rw [f_X3_passMinute_L2] at hf
    have i5 : ∀ w ∈ wsX30, w ∈ wsX3_passMinute := by decide +kernel
    have i7 : ∀ w ∈ wsX50, w ∈ wsX3_passMinute := by decide +kernel
    refine x_iload_n C 1 dX3_passMinute_2 rfl ?_
    refine x_iconst (v := 3) C dX3_passMinute_3 (by decide) ?_
    refine x_icmp_ge C 35 dX3_passMinute_4 (by decide) (fun hc1 => ?_) (fun hc1 => ?_)
    · have hf := x_ip hc1 hf
      refine x_aload_n C 0 dX3_passMinute_35 rfl ?_
      obtain ⟨q2, hg, hf⟩ := x_bd hf
      refine x_callVv C (by rw [kh]; decide) (by rw [kh]; decide) (xc5 kh) rfl (t_X3_waitInQueue kh hg) (cwV 0 C.1.2.2.2.2 gX3_passMinute_X3_waitInQueue rfl rfl rfl (by decide +kernel) ⟨Nat.le_of_ble_eq_true rfl, Nat.le_of_ble_eq_true rfl⟩) rfl rfl (Nat.le_of_ble_eq_true rfl) dX3_passMinute_36 ⟨Nat.zero_le _, Nat.zero_le _⟩ (fun ta3 => ?_)
      clear hg
      refine x_iconst (v := 0) C dX3_passMinute_39 (by decide) ?_
      refine x_istore_n (lv' := [(1, .int (0 : Int32)), (0, .ref (xad G h))]) C dX3_passMinute_40 rfl (by decide) rfl ?_
      refine x_sub [1, 0] rfl ?_
      exact t_X3_passMinute_L41 C hr hlk kh xF (0 : Int32) q2 _ _ hf
    · have hf := x_ine hc1 hf
      refine x_aload_n C 0 dX3_passMinute_7 rfl ?_
      refine x_get5 C kh i5 4 (by decide) (by decide +kernel) rfl rfl dX3_passMinute_8 ?_
      refine x_iload_n C 1 dX3_passMinute_11 rfl ?_
      obtain ⟨g19, hf⟩ := x_gd hf
      obtain ⟨g20, hf⟩ := x_gd hf
      refine x_aald25 C (x5_k3 kh) (x5_l3 kh) g19 dX3_passMinute_12 ?_
      obtain ⟨q21, hg, hf⟩ := x_bd hf
      refine x_callVr C (by rw [g20]; decide) (by rw [g20]; decide) (xc7 g20) rfl (t_X5_isOpen g20 hg) (cwV 0 C.1.2.2.2.2 gX3_passMinute_X5_isOpen rfl rfl rfl (by decide +kernel) ⟨Nat.le_of_ble_eq_true rfl, Nat.le_of_ble_eq_true rfl⟩) rfl rfl (Nat.le_of_ble_eq_true rfl) dX3_passMinute_13 ⟨Nat.zero_le _, Nat.zero_le _⟩ (fun ta22 => ?_)
      clear hg
      refine x_if_eq C 29 dX3_passMinute_16 (by decide) (fun hc23 => ?_) (fun hc23 => ?_)
      · have hf := x_ip hc23 hf
        refine x_iinc (v := v1 + 1) (lv' := [(1, .int (v1 + 1)), (0, .ref (xad G h))]) C 1 dX3_passMinute_29 rfl rfl (by decide) rfl ?_
        refine x_goto C 2 dX3_passMinute_32 (by decide) ?_
        refine x_sub [1, 0] rfl ?_
        exact ih (v1 + 1) M _ _ hf
      · have hf := x_ine hc23 hf
        refine x_aload_n C 0 dX3_passMinute_19 rfl ?_
        refine x_aload_n C 0 dX3_passMinute_20 rfl ?_
        refine x_get5 C kh i5 4 (by decide) (by decide +kernel) rfl rfl dX3_passMinute_21 ?_
        refine x_iload_n C 1 dX3_passMinute_24 rfl ?_
        obtain ⟨g24, hf⟩ := x_gd hf
        obtain ⟨g25, hf⟩ := x_gd hf
        refine x_aald25 C (x5_k3 kh) (x5_l3 kh) g24 dX3_passMinute_25 ?_
        obtain ⟨q26, hg, hf⟩ := x_bd hf
        refine x_callVv C (by rw [kh]; decide) (by rw [kh]; decide) (xc5 kh) rfl (t_X3_work kh g25 hg) (cwV 1 C.1.2.2.2.2 gX3_passMinute_X3_work rfl rfl rfl (by decide +kernel) ⟨Nat.le_of_ble_eq_true rfl, Nat.le_of_ble_eq_true rfl⟩) rfl rfl (Nat.le_of_ble_eq_true rfl) dX3_passMinute_26 ⟨Nat.zero_le _, Nat.zero_le _⟩ (fun ta27 => ?_)
        clear hg
        refine x_iinc (v := v1 + 1) (lv' := [(1, .int (v1 + 1)), (0, .ref (xad G h))]) C 1 dX3_passMinute_29 rfl rfl (by decide) rfl ?_
        refine x_goto C 2 dX3_passMinute_32 (by decide) ?_
        refine x_sub [1, 0] rfl ?_
        exact ih (v1 + 1) q26 _ _ hf
set_option maxHeartbeats 4000000 in
set_option maxRecDepth 100000 in
theorem t_X3_passMinute {l : Launch} {G : xG} {ta : Nat × Nat} {M : xM} {h : Nat} {out : xM} (kh : xkd h = 5) (hf : f_X3_passMinute h M = some out) : xMet G l yX3_passMinute wsX3_passMinute (rm_X3_passMinute 0 0) 0 0 ta M [.ref (xad G h)] none out := by
  refine x_met (cc := cX3_passMinute) (nL := 2) (ret := none) (by decide) rfl (Nat.le_of_ble_eq_true rfl) ?_
  intro p e s m args below meth c C hr hlk
  have C : xC G p s m args c cX3_passMinute 2 wsX3_passMinute RX3 := C
  have i5 : ∀ w ∈ wsX30, w ∈ wsX3_passMinute := by decide +kernel
  have i7 : ∀ w ∈ wsX50, w ∈ wsX3_passMinute := by decide +kernel
  unfold f_X3_passMinute at hf
  show xW G p l e (rm_X3_passMinute 0 0) s m args below meth c 2 (MQ below (xQr G none out) args s 0 0 (xAs G)) 0 0 ta M 0 [(0, .ref (xad G h))] []
  refine x_iconst (v := 0) C dX3_passMinute_0 (by decide) ?_
  refine x_istore_n (lv' := [(1, .int (0 : Int32)), (0, .ref (xad G h))]) C dX3_passMinute_1 rfl (by decide) rfl ?_
  refine x_sub [1, 0] rfl ?_
  exact t_X3_passMinute_L2 C hr hlk kh xF (0 : Int32) M _ _ hf
/-! WaitingRoomSimulation$Hall.pass(I)I -/
abbrev rm_X3_pass (c s : Nat) : Room := { frames := 4, cells := c, slots := s, locals := 92 }
def f_X3_pass_L21 (h : Nat) (v1 : Int32) (v2 : Int32) : Nat → Int32 → xM → Option (Int32 × xM)
  | 0, _, _ => none
  | n+1, v3, M => (if v1 ≤ v3 then some ((M.1 h 9) - v2, M) else (f_X3_passMinute h M).bind fun q4 => f_X3_pass_L21 h v1 v2 n (v3 + 1) q4)
def f_X3_pass (h : Nat) (a1 : Int32) (M : xM) : Option (Int32 × xM) := (if a1 < (1 : Int32) then some ((-2 : Int32), M) else (if a1 ≤ (20 : Int32) then f_X3_pass_L21 h a1 (M.1 h 9) xF (0 : Int32) M else some ((-2 : Int32), M)))
set_option maxHeartbeats 4000000 in
set_option maxRecDepth 100000 in
theorem t_X3_pass_L21 {G : xG} {p : Program} {l : Launch} {e : Env} {s : State} {m : MethodId} {args : Array Value} {below : List Frame} {meth : Method} {c : Code} (C : xC G p s m args c cX3_pass 4 wsX3_pass RX3) (hr : meth.sig.returnType = some .int) (hlk : meth.locks = false) {h : Nat} {v1 : Int32} {v2 : Int32} (kh : xkd h = 5) : ∀ (n : Nat) (v3 : Int32) (M : xM) (ta : Nat × Nat) (out : Int32 × xM), f_X3_pass_L21 h v1 v2 n v3 M = some out → xW G p l e (rm_X3_pass 0 0) s m args below meth c 4 (MQ below (xQr G (some (.int out.1)) out.2) args s 0 0 (xAs G)) 0 0 ta M 21 [(0, .ref (xad G h)), (1, .int v1), (2, .int v2), (3, .int v3)] [] := by
  intro n
  induction n with
  | zero =>
    intro v3 M ta out hf
    rw [f_X3_pass_L21] at hf
    cases hf
  | succ n ih =>
    intro v3 M ta out hf
    rw [f_X3_pass_L21] at hf
    have i5 : ∀ w ∈ wsX30, w ∈ wsX3_pass := by decide +kernel
    refine x_iload_n C 3 dX3_pass_21 rfl ?_
    refine x_iload_n C 1 dX3_pass_22 rfl ?_
    refine x_icmp_ge C 36 dX3_pass_23 (by decide) (fun hc3 => ?_) (fun hc3 => ?_)
    · have hf := x_ip hc3 hf
      refine x_aload_n C 0 dX3_pass_36 rfl ?_
      refine x_get5 C kh i5 9 (by decide) (by decide +kernel) rfl rfl dX3_pass_37 ?_
      refine x_iload_n C 2 dX3_pass_40 rfl ?_
      refine x_isub C dX3_pass_41 ?_
      obtain rfl := Option.some.inj hf
      exact x_iret C hr hlk dX3_pass_42
    · have hf := x_ine hc3 hf
      refine x_aload_n C 0 dX3_pass_26 rfl ?_
      obtain ⟨q4, hg, hf⟩ := x_bd hf
      refine x_callVv C (by rw [kh]; decide) (by rw [kh]; decide) (xc5 kh) rfl (t_X3_passMinute kh hg) (cwV 0 C.1.2.2.2.2 gX3_pass_X3_passMinute rfl rfl rfl (by decide +kernel) ⟨Nat.le_of_ble_eq_true rfl, Nat.le_of_ble_eq_true rfl⟩) rfl rfl (Nat.le_of_ble_eq_true rfl) dX3_pass_27 ⟨Nat.zero_le _, Nat.zero_le _⟩ (fun ta5 => ?_)
      clear hg
      refine x_iinc (v := v3 + 1) (lv' := [(3, .int (v3 + 1)), (0, .ref (xad G h)), (1, .int v1), (2, .int v2)]) C 3 dX3_pass_30 rfl rfl (by decide) rfl ?_
      refine x_goto C 21 dX3_pass_33 (by decide) ?_
      refine x_sub [1, 2, 3, 0] rfl ?_
      exact ih (v3 + 1) q4 _ _ hf
set_option maxHeartbeats 4000000 in
set_option maxRecDepth 100000 in
theorem t_X3_pass {l : Launch} {G : xG} {ta : Nat × Nat} {M : xM} {h : Nat} {a1 : Int32} {out : Int32 × xM} (kh : xkd h = 5) (hf : f_X3_pass h a1 M = some out) : xMet G l yX3_pass wsX3_pass (rm_X3_pass 0 0) 0 0 ta M [.ref (xad G h), .int a1] (some (.int out.1)) out.2 := by
  refine x_met (cc := cX3_pass) (nL := 4) (ret := some .int) (by decide) rfl (Nat.le_of_ble_eq_true rfl) ?_
  intro p e s m args below meth c C hr hlk
  have C : xC G p s m args c cX3_pass 4 wsX3_pass RX3 := C
  have i5 : ∀ w ∈ wsX30, w ∈ wsX3_pass := by decide +kernel
  unfold f_X3_pass at hf
  show xW G p l e (rm_X3_pass 0 0) s m args below meth c 4 (MQ below (xQr G (some (.int out.1)) out.2) args s 0 0 (xAs G)) 0 0 ta M 0 [(0, .ref (xad G h)), (1, .int a1)] []
  refine x_iload_n C 1 dX3_pass_0 rfl ?_
  refine x_iconst (v := 1) C dX3_pass_1 (by decide) ?_
  refine x_icmp_lt C 11 dX3_pass_2 (by decide) (fun hc1 => ?_) (fun hc1 => ?_)
  · have hf := x_ip hc1 hf
    refine x_bipush (v := (-2)) C dX3_pass_11 (by decide) ?_
    obtain rfl := Option.some.inj hf
    exact x_iret C hr hlk dX3_pass_13
  · have hf := x_ine hc1 hf
    refine x_iload_n C 1 dX3_pass_5 rfl ?_
    refine x_bipush (v := 20) C dX3_pass_6 (by decide) ?_
    refine x_icmp_le C 14 dX3_pass_8 (by decide) (fun hc2 => ?_) (fun hc2 => ?_)
    · have hf := x_ip hc2 hf
      refine x_aload_n C 0 dX3_pass_14 rfl ?_
      refine x_get5 C kh i5 9 (by decide) (by decide +kernel) rfl rfl dX3_pass_15 ?_
      refine x_istore_n (lv' := [(2, .int (M.1 h 9)), (0, .ref (xad G h)), (1, .int a1)]) C dX3_pass_18 rfl (by decide) rfl ?_
      refine x_iconst (v := 0) C dX3_pass_19 (by decide) ?_
      refine x_istore_n (lv' := [(3, .int (0 : Int32)), (2, .int (M.1 h 9)), (0, .ref (xad G h)), (1, .int a1)]) C dX3_pass_20 rfl (by decide) rfl ?_
      refine x_sub [2, 3, 1, 0] rfl ?_
      exact t_X3_pass_L21 C hr hlk kh xF (0 : Int32) M _ _ hf
    · have hf := x_ine hc2 hf
      refine x_bipush (v := (-2)) C dX3_pass_11 (by decide) ?_
      obtain rfl := Option.some.inj hf
      exact x_iret C hr hlk dX3_pass_13
