/-! WaitingRoomSimulationLaw.addCustomer(LWaitingRoomSimulation;I[J)I -/
abbrev rm_L_addCustomer (c s : Nat) : Room := { frames := 11, cells := c, slots := s, locals := 263 }
def f_L_addCustomer (a2 : Int32) (M : xM) : Option (Int32 × xM) := (f_X6_addCustomer a2 M).bind fun q1 => x_case q1.1 (fun r3 => (fun (M5 : xM) => x_let (sJ M5 r3.toInt64) fun M6 => some ((0 : Int32), M6)) q1.2) (fun E4 => (fun (M5 : xM) => if E4 = "java/lang/IllegalArgumentException" then some ((1 : Int32), M5) else if E4 = "java/lang/IllegalStateException" then some ((2 : Int32), M5) else none) q1.2)
set_option maxHeartbeats 4000000 in
set_option maxRecDepth 100000 in
theorem t_L_addCustomer {l : Launch} {G : xG} {ta : Nat × Nat} {M : xM} {a2 : Int32} {out : Int32 × xM} (hfl : l.stackTraces = false) (hf : f_L_addCustomer a2 M = some out) : xMet G l yL_addCustomer wsL_addCustomer (rm_L_addCustomer 1 6) 1 6 ta M [.ref (xad G 0), .int a2, .ref (xad G 20)] (some (.int out.1)) out.2 := by
  refine x_metH (cc := cL_addCustomer) (nL := 4) (ret := some .int) (hh := [(0, 9, 12, 13), (0, 9, 15, 15)]) (by decide) rfl (Nat.le_of_ble_eq_true rfl) ?_
  intro p e s m args below meth c C hr hlk htb
  have C : xC G p s m args c cL_addCustomer 4 wsL_addCustomer RL := C
  unfold f_L_addCustomer at hf
  show xW G p l e (rm_L_addCustomer 1 6) s m args below meth c 4 (MQ below (xQr G (some (.int out.1)) out.2) args s 1 6 (xAs G)) 0 0 ta M 0 [(0, .ref (xad G 0)), (1, .int a2), (2, .ref (xad G 20))] []
  refine x_aload_n C 2 dL_addCustomer_0 rfl ?_
  refine x_iconst (v := 0) C dL_addCustomer_1 (by decide) ?_
  refine x_aload_n C 0 dL_addCustomer_2 rfl ?_
  refine x_iload_n C 1 dL_addCustomer_3 rfl ?_
  obtain ⟨q1, hg, hf⟩ := x_bd hf
  rcases q1 with ⟨r3 | E4, M5⟩
  · have hf := x_ci hf
    refine x_callVXr (w := .int r3) (mc := 0) (ms := 0) C (by rw [xkd_0]; decide) (by rw [xkd_0]; decide) (xc8 xkd_0) rfl (t_X6_addCustomer hfl hg) (cwV 1 C.1.2.2.2.2 gL_addCustomer_X6_addCustomer rfl rfl rfl (by decide +kernel) ⟨Nat.le_of_ble_eq_true rfl, Nat.le_of_ble_eq_true rfl⟩) rfl rfl (Nat.le_of_ble_eq_true rfl) dL_addCustomer_4 ⟨Nat.zero_le _, Nat.zero_le _⟩ (fun ta2 => ?_)
    clear hg
    refine x_i2l (v := r3.toInt64) C dL_addCustomer_7 rfl ?_
    refine x_last C dL_addCustomer_8 ?_
    obtain ⟨M6, e7, hf⟩ := x_lt hf
    rw [← e7]
    clear e7
    refine x_goto C 18 dL_addCustomer_9 (by decide) ?_
    refine x_iconst (v := 0) C dL_addCustomer_18 (by decide) ?_
    obtain rfl := Option.some.inj hf
    refine x_widen (k' := 1) (n' := 6) (Nat.le_of_ble_eq_true rfl) (Nat.le_of_ble_eq_true rfl) ?_
    exact x_iret C hr hlk dL_addCustomer_19
  · have hf := x_cx hf
    refine x_callVXt (mc := 1) (ms := 6) C (by rw [xkd_0]; decide) (by rw [xkd_0]; decide) (xc8 xkd_0) rfl (t_X6_addCustomer hfl hg) (cwV 1 C.1.2.2.2.2 gL_addCustomer_X6_addCustomer rfl rfl rfl (by decide +kernel) ⟨Nat.le_of_ble_eq_true rfl, Nat.le_of_ble_eq_true rfl⟩) rfl rfl (Nat.le_of_ble_eq_true rfl) dL_addCustomer_4 ⟨Nat.le_of_ble_eq_true rfl, Nat.le_of_ble_eq_true rfl⟩ (fun ta2 => ?_)
    rcases Decidable.em (E4 = "java/lang/IllegalArgumentException") with hc8 | hc8
    · have hf := x_ip hc8 hf
      subst hc8
      refine x_catch C htb 0 [] (name := "java/lang/IllegalArgumentException") rfl (by decide) (by decide) (by decide +kernel) (by decide) (by decide +kernel) (fun x9 => ?_)
      refine x_astore_n (lv' := [(3, .ref x9), (0, .ref (xad G 0)), (1, .int a2), (2, .ref (xad G 20))]) C dL_addCustomer_12 rfl (by decide) rfl ?_
      refine x_iconst (v := 1) C dL_addCustomer_13 (by decide) ?_
      obtain rfl := Option.some.inj hf
      refine x_widen (k' := 1) (n' := 6) (Nat.le_of_ble_eq_true rfl) (Nat.le_of_ble_eq_true rfl) ?_
      exact x_iret C hr hlk dL_addCustomer_14
    have hf := x_ine hc8 hf
    rcases Decidable.em (E4 = "java/lang/IllegalStateException") with hc10 | hc10
    · have hf := x_ip hc10 hf
      subst hc10
      refine x_catch C htb 1 ["java/lang/IllegalArgumentException"] (name := "java/lang/IllegalStateException") rfl (by decide) (by decide) (by decide +kernel) (by decide) (by decide +kernel) (fun x11 => ?_)
      refine x_astore_n (lv' := [(3, .ref x11), (0, .ref (xad G 0)), (1, .int a2), (2, .ref (xad G 20))]) C dL_addCustomer_15 rfl (by decide) rfl ?_
      refine x_iconst (v := 2) C dL_addCustomer_16 (by decide) ?_
      obtain rfl := Option.some.inj hf
      refine x_widen (k' := 1) (n' := 6) (Nat.le_of_ble_eq_true rfl) (Nat.le_of_ble_eq_true rfl) ?_
      exact x_iret C hr hlk dL_addCustomer_17
    have hf := x_ine hc10 hf
    cases hf
/-! WaitingRoomSimulationLaw.openWindow(LWaitingRoomSimulation;III[J)I -/
abbrev rm_L_openWindow (c s : Nat) : Room := { frames := 11, cells := c, slots := s, locals := 265 }
def f_L_openWindow (a2 : Int32) (a3 : Int32) (a4 : Int32) (M : xM) : Option (Int32 × xM) := (f_X6_openWindow a2 a3 a4 M).bind fun q1 => x_case q1.1 (fun r3 => (fun (M5 : xM) => x_let (sJ M5 r3.toInt64) fun M6 => some ((0 : Int32), M6)) q1.2) (fun E4 => (fun (M5 : xM) => if E4 = "java/lang/IndexOutOfBoundsException" then some ((1 : Int32), M5) else if E4 = "java/lang/IllegalArgumentException" then some ((2 : Int32), M5) else if E4 = "java/lang/IllegalStateException" then some ((3 : Int32), M5) else none) q1.2)
set_option maxHeartbeats 4000000 in
set_option maxRecDepth 100000 in
theorem t_L_openWindow {l : Launch} {G : xG} {ta : Nat × Nat} {M : xM} {a2 : Int32} {a3 : Int32} {a4 : Int32} {out : Int32 × xM} (hfl : l.stackTraces = false) (hf : f_L_openWindow a2 a3 a4 M = some out) : xMet G l yL_openWindow wsL_openWindow (rm_L_openWindow 1 6) 1 6 ta M [.ref (xad G 0), .int a2, .int a3, .int a4, .ref (xad G 20)] (some (.int out.1)) out.2 := by
  refine x_metH (cc := cL_openWindow) (nL := 6) (ret := some .int) (hh := [(0, 12, 15, 21), (0, 12, 19, 13), (0, 12, 23, 15)]) (by decide) rfl (Nat.le_of_ble_eq_true rfl) ?_
  intro p e s m args below meth c C hr hlk htb
  have C : xC G p s m args c cL_openWindow 6 wsL_openWindow RL := C
  unfold f_L_openWindow at hf
  show xW G p l e (rm_L_openWindow 1 6) s m args below meth c 6 (MQ below (xQr G (some (.int out.1)) out.2) args s 1 6 (xAs G)) 0 0 ta M 0 [(0, .ref (xad G 0)), (1, .int a2), (2, .int a3), (3, .int a4), (4, .ref (xad G 20))] []
  refine x_aload C 4 dL_openWindow_0 rfl ?_
  refine x_iconst (v := 0) C dL_openWindow_2 (by decide) ?_
  refine x_aload_n C 0 dL_openWindow_3 rfl ?_
  refine x_iload_n C 1 dL_openWindow_4 rfl ?_
  refine x_iload_n C 2 dL_openWindow_5 rfl ?_
  refine x_iload_n C 3 dL_openWindow_6 rfl ?_
  obtain ⟨q1, hg, hf⟩ := x_bd hf
  rcases q1 with ⟨r3 | E4, M5⟩
  · have hf := x_ci hf
    refine x_callVXr (w := .int r3) (mc := 0) (ms := 0) C (by rw [xkd_0]; decide) (by rw [xkd_0]; decide) (xc8 xkd_0) rfl (t_X6_openWindow hfl hg) (cwV 3 C.1.2.2.2.2 gL_openWindow_X6_openWindow rfl rfl rfl (by decide +kernel) ⟨Nat.le_of_ble_eq_true rfl, Nat.le_of_ble_eq_true rfl⟩) rfl rfl (Nat.le_of_ble_eq_true rfl) dL_openWindow_7 ⟨Nat.zero_le _, Nat.zero_le _⟩ (fun ta2 => ?_)
    clear hg
    refine x_i2l (v := r3.toInt64) C dL_openWindow_10 rfl ?_
    refine x_last C dL_openWindow_11 ?_
    obtain ⟨M6, e7, hf⟩ := x_lt hf
    rw [← e7]
    clear e7
    refine x_goto C 27 dL_openWindow_12 (by decide) ?_
    refine x_iconst (v := 0) C dL_openWindow_27 (by decide) ?_
    obtain rfl := Option.some.inj hf
    refine x_widen (k' := 1) (n' := 6) (Nat.le_of_ble_eq_true rfl) (Nat.le_of_ble_eq_true rfl) ?_
    exact x_iret C hr hlk dL_openWindow_28
  · have hf := x_cx hf
    refine x_callVXt (mc := 1) (ms := 6) C (by rw [xkd_0]; decide) (by rw [xkd_0]; decide) (xc8 xkd_0) rfl (t_X6_openWindow hfl hg) (cwV 3 C.1.2.2.2.2 gL_openWindow_X6_openWindow rfl rfl rfl (by decide +kernel) ⟨Nat.le_of_ble_eq_true rfl, Nat.le_of_ble_eq_true rfl⟩) rfl rfl (Nat.le_of_ble_eq_true rfl) dL_openWindow_7 ⟨Nat.le_of_ble_eq_true rfl, Nat.le_of_ble_eq_true rfl⟩ (fun ta2 => ?_)
    rcases Decidable.em (E4 = "java/lang/IndexOutOfBoundsException") with hc8 | hc8
    · have hf := x_ip hc8 hf
      subst hc8
      refine x_catch C htb 0 [] (name := "java/lang/IndexOutOfBoundsException") rfl (by decide) (by decide) (by decide +kernel) (by decide) (by decide +kernel) (fun x9 => ?_)
      refine x_astore (lv' := [(5, .ref x9), (0, .ref (xad G 0)), (1, .int a2), (2, .int a3), (3, .int a4), (4, .ref (xad G 20))]) C dL_openWindow_15 (by decide) rfl ?_
      refine x_iconst (v := 1) C dL_openWindow_17 (by decide) ?_
      obtain rfl := Option.some.inj hf
      refine x_widen (k' := 1) (n' := 6) (Nat.le_of_ble_eq_true rfl) (Nat.le_of_ble_eq_true rfl) ?_
      exact x_iret C hr hlk dL_openWindow_18
    have hf := x_ine hc8 hf
    rcases Decidable.em (E4 = "java/lang/IllegalArgumentException") with hc10 | hc10
    · have hf := x_ip hc10 hf
      subst hc10
      refine x_catch C htb 1 ["java/lang/IndexOutOfBoundsException"] (name := "java/lang/IllegalArgumentException") rfl (by decide) (by decide) (by decide +kernel) (by decide) (by decide +kernel) (fun x11 => ?_)
      refine x_astore (lv' := [(5, .ref x11), (0, .ref (xad G 0)), (1, .int a2), (2, .int a3), (3, .int a4), (4, .ref (xad G 20))]) C dL_openWindow_19 (by decide) rfl ?_
      refine x_iconst (v := 2) C dL_openWindow_21 (by decide) ?_
      obtain rfl := Option.some.inj hf
      refine x_widen (k' := 1) (n' := 6) (Nat.le_of_ble_eq_true rfl) (Nat.le_of_ble_eq_true rfl) ?_
      exact x_iret C hr hlk dL_openWindow_22
    have hf := x_ine hc10 hf
    rcases Decidable.em (E4 = "java/lang/IllegalStateException") with hc12 | hc12
    · have hf := x_ip hc12 hf
      subst hc12
      refine x_catch C htb 2 ["java/lang/IndexOutOfBoundsException", "java/lang/IllegalArgumentException"] (name := "java/lang/IllegalStateException") rfl (by decide) (by decide) (by decide +kernel) (by decide) (by decide +kernel) (fun x13 => ?_)
      refine x_astore (lv' := [(5, .ref x13), (0, .ref (xad G 0)), (1, .int a2), (2, .int a3), (3, .int a4), (4, .ref (xad G 20))]) C dL_openWindow_23 (by decide) rfl ?_
      refine x_iconst (v := 3) C dL_openWindow_25 (by decide) ?_
      obtain rfl := Option.some.inj hf
      refine x_widen (k' := 1) (n' := 6) (Nat.le_of_ble_eq_true rfl) (Nat.le_of_ble_eq_true rfl) ?_
      exact x_iret C hr hlk dL_openWindow_26
    have hf := x_ine hc12 hf
    cases hf
/-! WaitingRoomSimulationLaw.closeWindow(LWaitingRoomSimulation;I[J)I -/
abbrev rm_L_closeWindow (c s : Nat) : Room := { frames := 11, cells := c, slots := s, locals := 263 }
def f_L_closeWindow (a2 : Int32) (M : xM) : Option (Int32 × xM) := (f_X6_closeWindow a2 M).bind fun q1 => x_case q1.1 (fun r3 => (fun (M5 : xM) => x_let (sJ M5 r3.toInt64) fun M6 => some ((0 : Int32), M6)) q1.2) (fun E4 => (fun (M5 : xM) => if E4 = "java/lang/IndexOutOfBoundsException" then some ((1 : Int32), M5) else if E4 = "java/lang/IllegalStateException" then some ((2 : Int32), M5) else none) q1.2)
set_option maxHeartbeats 4000000 in
set_option maxRecDepth 100000 in
theorem t_L_closeWindow {l : Launch} {G : xG} {ta : Nat × Nat} {M : xM} {a2 : Int32} {out : Int32 × xM} (hfl : l.stackTraces = false) (hf : f_L_closeWindow a2 M = some out) : xMet G l yL_closeWindow wsL_closeWindow (rm_L_closeWindow 1 6) 1 6 ta M [.ref (xad G 0), .int a2, .ref (xad G 20)] (some (.int out.1)) out.2 := by
  refine x_metH (cc := cL_closeWindow) (nL := 4) (ret := some .int) (hh := [(0, 9, 12, 21), (0, 9, 15, 15)]) (by decide) rfl (Nat.le_of_ble_eq_true rfl) ?_
  intro p e s m args below meth c C hr hlk htb
  have C : xC G p s m args c cL_closeWindow 4 wsL_closeWindow RL := C
  unfold f_L_closeWindow at hf
  show xW G p l e (rm_L_closeWindow 1 6) s m args below meth c 4 (MQ below (xQr G (some (.int out.1)) out.2) args s 1 6 (xAs G)) 0 0 ta M 0 [(0, .ref (xad G 0)), (1, .int a2), (2, .ref (xad G 20))] []
  refine x_aload_n C 2 dL_closeWindow_0 rfl ?_
  refine x_iconst (v := 0) C dL_closeWindow_1 (by decide) ?_
  refine x_aload_n C 0 dL_closeWindow_2 rfl ?_
  refine x_iload_n C 1 dL_closeWindow_3 rfl ?_
  obtain ⟨q1, hg, hf⟩ := x_bd hf
  rcases q1 with ⟨r3 | E4, M5⟩
  · have hf := x_ci hf
    refine x_callVXr (w := .int r3) (mc := 0) (ms := 0) C (by rw [xkd_0]; decide) (by rw [xkd_0]; decide) (xc8 xkd_0) rfl (t_X6_closeWindow hfl hg) (cwV 1 C.1.2.2.2.2 gL_closeWindow_X6_closeWindow rfl rfl rfl (by decide +kernel) ⟨Nat.le_of_ble_eq_true rfl, Nat.le_of_ble_eq_true rfl⟩) rfl rfl (Nat.le_of_ble_eq_true rfl) dL_closeWindow_4 ⟨Nat.zero_le _, Nat.zero_le _⟩ (fun ta2 => ?_)
    clear hg
    refine x_i2l (v := r3.toInt64) C dL_closeWindow_7 rfl ?_
    refine x_last C dL_closeWindow_8 ?_
    obtain ⟨M6, e7, hf⟩ := x_lt hf
    rw [← e7]
    clear e7
    refine x_goto C 18 dL_closeWindow_9 (by decide) ?_
    refine x_iconst (v := 0) C dL_closeWindow_18 (by decide) ?_
    obtain rfl := Option.some.inj hf
    refine x_widen (k' := 1) (n' := 6) (Nat.le_of_ble_eq_true rfl) (Nat.le_of_ble_eq_true rfl) ?_
    exact x_iret C hr hlk dL_closeWindow_19
  · have hf := x_cx hf
    refine x_callVXt (mc := 1) (ms := 6) C (by rw [xkd_0]; decide) (by rw [xkd_0]; decide) (xc8 xkd_0) rfl (t_X6_closeWindow hfl hg) (cwV 1 C.1.2.2.2.2 gL_closeWindow_X6_closeWindow rfl rfl rfl (by decide +kernel) ⟨Nat.le_of_ble_eq_true rfl, Nat.le_of_ble_eq_true rfl⟩) rfl rfl (Nat.le_of_ble_eq_true rfl) dL_closeWindow_4 ⟨Nat.le_of_ble_eq_true rfl, Nat.le_of_ble_eq_true rfl⟩ (fun ta2 => ?_)
    rcases Decidable.em (E4 = "java/lang/IndexOutOfBoundsException") with hc8 | hc8
    · have hf := x_ip hc8 hf
      subst hc8
      refine x_catch C htb 0 [] (name := "java/lang/IndexOutOfBoundsException") rfl (by decide) (by decide) (by decide +kernel) (by decide) (by decide +kernel) (fun x9 => ?_)
      refine x_astore_n (lv' := [(3, .ref x9), (0, .ref (xad G 0)), (1, .int a2), (2, .ref (xad G 20))]) C dL_closeWindow_12 rfl (by decide) rfl ?_
      refine x_iconst (v := 1) C dL_closeWindow_13 (by decide) ?_
      obtain rfl := Option.some.inj hf
      refine x_widen (k' := 1) (n' := 6) (Nat.le_of_ble_eq_true rfl) (Nat.le_of_ble_eq_true rfl) ?_
      exact x_iret C hr hlk dL_closeWindow_14
    have hf := x_ine hc8 hf
    rcases Decidable.em (E4 = "java/lang/IllegalStateException") with hc10 | hc10
    · have hf := x_ip hc10 hf
      subst hc10
      refine x_catch C htb 1 ["java/lang/IndexOutOfBoundsException"] (name := "java/lang/IllegalStateException") rfl (by decide) (by decide) (by decide +kernel) (by decide) (by decide +kernel) (fun x11 => ?_)
      refine x_astore_n (lv' := [(3, .ref x11), (0, .ref (xad G 0)), (1, .int a2), (2, .ref (xad G 20))]) C dL_closeWindow_15 rfl (by decide) rfl ?_
      refine x_iconst (v := 2) C dL_closeWindow_16 (by decide) ?_
      obtain rfl := Option.some.inj hf
      refine x_widen (k' := 1) (n' := 6) (Nat.le_of_ble_eq_true rfl) (Nat.le_of_ble_eq_true rfl) ?_
      exact x_iret C hr hlk dL_closeWindow_17
    have hf := x_ine hc10 hf
    cases hf
/-! WaitingRoomSimulationLaw.callNext(LWaitingRoomSimulation;[J)I -/
abbrev rm_L_callNext (c s : Nat) : Room := { frames := 11, cells := c, slots := s, locals := 262 }
def f_L_callNext (M : xM) : Option (Int32 × xM) := (f_X6_callNext M).bind fun q1 => x_case q1.1 (fun r3 => (fun (M5 : xM) => x_let (sJ M5 r3.toInt64) fun M6 => some ((0 : Int32), M6)) q1.2) (fun E4 => (fun (M5 : xM) => if E4 = "java/util/NoSuchElementException" then some ((1 : Int32), M5) else none) q1.2)
set_option maxHeartbeats 4000000 in
set_option maxRecDepth 100000 in
theorem t_L_callNext {l : Launch} {G : xG} {ta : Nat × Nat} {M : xM} {out : Int32 × xM} (hfl : l.stackTraces = false) (hf : f_L_callNext M = some out) : xMet G l yL_callNext wsL_callNext (rm_L_callNext 1 6) 1 6 ta M [.ref (xad G 0), .ref (xad G 20)] (some (.int out.1)) out.2 := by
  refine x_metH (cc := cL_callNext) (nL := 3) (ret := some .int) (hh := [(0, 8, 11, 30)]) (by decide) rfl (Nat.le_of_ble_eq_true rfl) ?_
  intro p e s m args below meth c C hr hlk htb
  have C : xC G p s m args c cL_callNext 3 wsL_callNext RL := C
  unfold f_L_callNext at hf
  show xW G p l e (rm_L_callNext 1 6) s m args below meth c 3 (MQ below (xQr G (some (.int out.1)) out.2) args s 1 6 (xAs G)) 0 0 ta M 0 [(0, .ref (xad G 0)), (1, .ref (xad G 20))] []
  refine x_aload_n C 1 dL_callNext_0 rfl ?_
  refine x_iconst (v := 0) C dL_callNext_1 (by decide) ?_
  refine x_aload_n C 0 dL_callNext_2 rfl ?_
  obtain ⟨q1, hg, hf⟩ := x_bd hf
  rcases q1 with ⟨r3 | E4, M5⟩
  · have hf := x_ci hf
    refine x_callVXr (w := .int r3) (mc := 0) (ms := 0) C (by rw [xkd_0]; decide) (by rw [xkd_0]; decide) (xc8 xkd_0) rfl (t_X6_callNext hfl hg) (cwV 0 C.1.2.2.2.2 gL_callNext_X6_callNext rfl rfl rfl (by decide +kernel) ⟨Nat.le_of_ble_eq_true rfl, Nat.le_of_ble_eq_true rfl⟩) rfl rfl (Nat.le_of_ble_eq_true rfl) dL_callNext_3 ⟨Nat.zero_le _, Nat.zero_le _⟩ (fun ta2 => ?_)
    clear hg
    refine x_i2l (v := r3.toInt64) C dL_callNext_6 rfl ?_
    refine x_last C dL_callNext_7 ?_
    obtain ⟨M6, e7, hf⟩ := x_lt hf
    rw [← e7]
    clear e7
    refine x_goto C 14 dL_callNext_8 (by decide) ?_
    refine x_iconst (v := 0) C dL_callNext_14 (by decide) ?_
    obtain rfl := Option.some.inj hf
    refine x_widen (k' := 1) (n' := 6) (Nat.le_of_ble_eq_true rfl) (Nat.le_of_ble_eq_true rfl) ?_
    exact x_iret C hr hlk dL_callNext_15
  · have hf := x_cx hf
    refine x_callVXt (mc := 1) (ms := 6) C (by rw [xkd_0]; decide) (by rw [xkd_0]; decide) (xc8 xkd_0) rfl (t_X6_callNext hfl hg) (cwV 0 C.1.2.2.2.2 gL_callNext_X6_callNext rfl rfl rfl (by decide +kernel) ⟨Nat.le_of_ble_eq_true rfl, Nat.le_of_ble_eq_true rfl⟩) rfl rfl (Nat.le_of_ble_eq_true rfl) dL_callNext_3 ⟨Nat.le_of_ble_eq_true rfl, Nat.le_of_ble_eq_true rfl⟩ (fun ta2 => ?_)
    rcases Decidable.em (E4 = "java/util/NoSuchElementException") with hc8 | hc8
    · have hf := x_ip hc8 hf
      subst hc8
      refine x_catch C htb 0 [] (name := "java/util/NoSuchElementException") rfl (by decide) (by decide) (by decide +kernel) (by decide) (by decide +kernel) (fun x9 => ?_)
      refine x_astore_n (lv' := [(2, .ref x9), (0, .ref (xad G 0)), (1, .ref (xad G 20))]) C dL_callNext_11 rfl (by decide) rfl ?_
      refine x_iconst (v := 1) C dL_callNext_12 (by decide) ?_
      obtain rfl := Option.some.inj hf
      refine x_widen (k' := 1) (n' := 6) (Nat.le_of_ble_eq_true rfl) (Nat.le_of_ble_eq_true rfl) ?_
      exact x_iret C hr hlk dL_callNext_13
    have hf := x_ine hc8 hf
    cases hf
/-! WaitingRoomSimulationLaw.swap(LWaitingRoomSimulation;II[J)I -/
abbrev rm_L_swap (c s : Nat) : Room := { frames := 11, cells := c, slots := s, locals := 264 }
def f_L_swap (a2 : Int32) (a3 : Int32) (M : xM) : Option (Int32 × xM) := (f_X6_swap a2 a3 M).bind fun q1 => x_case q1.1 (fun r3 => (fun (M5 : xM) => x_let (sJ M5 r3.toInt64) fun M6 => some ((0 : Int32), M6)) q1.2) (fun E4 => (fun (M5 : xM) => if E4 = "java/lang/IndexOutOfBoundsException" then some ((1 : Int32), M5) else if E4 = "java/lang/IllegalArgumentException" then some ((2 : Int32), M5) else if E4 = "java/lang/IllegalStateException" then some ((3 : Int32), M5) else if E4 = "java/lang/UnsupportedOperationException" then some ((4 : Int32), M5) else none) q1.2)
set_option maxHeartbeats 4000000 in
set_option maxRecDepth 100000 in
theorem t_L_swap {l : Launch} {G : xG} {ta : Nat × Nat} {M : xM} {a2 : Int32} {a3 : Int32} {out : Int32 × xM} (hfl : l.stackTraces = false) (hf : f_L_swap a2 a3 M = some out) : xMet G l yL_swap wsL_swap (rm_L_swap 1 6) 1 6 ta M [.ref (xad G 0), .int a2, .int a3, .ref (xad G 20)] (some (.int out.1)) out.2 := by
  refine x_metH (cc := cL_swap) (nL := 5) (ret := some .int) (hh := [(0, 10, 13, 21), (0, 10, 17, 13), (0, 10, 21, 15), (0, 10, 25, 36)]) (by decide) rfl (Nat.le_of_ble_eq_true rfl) ?_
  intro p e s m args below meth c C hr hlk htb
  have C : xC G p s m args c cL_swap 5 wsL_swap RL := C
  unfold f_L_swap at hf
  show xW G p l e (rm_L_swap 1 6) s m args below meth c 5 (MQ below (xQr G (some (.int out.1)) out.2) args s 1 6 (xAs G)) 0 0 ta M 0 [(0, .ref (xad G 0)), (1, .int a2), (2, .int a3), (3, .ref (xad G 20))] []
  refine x_aload_n C 3 dL_swap_0 rfl ?_
  refine x_iconst (v := 0) C dL_swap_1 (by decide) ?_
  refine x_aload_n C 0 dL_swap_2 rfl ?_
  refine x_iload_n C 1 dL_swap_3 rfl ?_
  refine x_iload_n C 2 dL_swap_4 rfl ?_
  obtain ⟨q1, hg, hf⟩ := x_bd hf
  rcases q1 with ⟨r3 | E4, M5⟩
  · have hf := x_ci hf
    refine x_callVXr (w := .int r3) (mc := 0) (ms := 0) C (by rw [xkd_0]; decide) (by rw [xkd_0]; decide) (xc8 xkd_0) rfl (t_X6_swap hfl hg) (cwV 2 C.1.2.2.2.2 gL_swap_X6_swap rfl rfl rfl (by decide +kernel) ⟨Nat.le_of_ble_eq_true rfl, Nat.le_of_ble_eq_true rfl⟩) rfl rfl (Nat.le_of_ble_eq_true rfl) dL_swap_5 ⟨Nat.zero_le _, Nat.zero_le _⟩ (fun ta2 => ?_)
    clear hg
    refine x_i2l (v := r3.toInt64) C dL_swap_8 rfl ?_
    refine x_last C dL_swap_9 ?_
    obtain ⟨M6, e7, hf⟩ := x_lt hf
    rw [← e7]
    clear e7
    refine x_goto C 29 dL_swap_10 (by decide) ?_
    refine x_iconst (v := 0) C dL_swap_29 (by decide) ?_
    obtain rfl := Option.some.inj hf
    refine x_widen (k' := 1) (n' := 6) (Nat.le_of_ble_eq_true rfl) (Nat.le_of_ble_eq_true rfl) ?_
    exact x_iret C hr hlk dL_swap_30
  · have hf := x_cx hf
    refine x_callVXt (mc := 1) (ms := 6) C (by rw [xkd_0]; decide) (by rw [xkd_0]; decide) (xc8 xkd_0) rfl (t_X6_swap hfl hg) (cwV 2 C.1.2.2.2.2 gL_swap_X6_swap rfl rfl rfl (by decide +kernel) ⟨Nat.le_of_ble_eq_true rfl, Nat.le_of_ble_eq_true rfl⟩) rfl rfl (Nat.le_of_ble_eq_true rfl) dL_swap_5 ⟨Nat.le_of_ble_eq_true rfl, Nat.le_of_ble_eq_true rfl⟩ (fun ta2 => ?_)
    rcases Decidable.em (E4 = "java/lang/IndexOutOfBoundsException") with hc8 | hc8
    · have hf := x_ip hc8 hf
      subst hc8
      refine x_catch C htb 0 [] (name := "java/lang/IndexOutOfBoundsException") rfl (by decide) (by decide) (by decide +kernel) (by decide) (by decide +kernel) (fun x9 => ?_)
      refine x_astore (lv' := [(4, .ref x9), (0, .ref (xad G 0)), (1, .int a2), (2, .int a3), (3, .ref (xad G 20))]) C dL_swap_13 (by decide) rfl ?_
      refine x_iconst (v := 1) C dL_swap_15 (by decide) ?_
      obtain rfl := Option.some.inj hf
      refine x_widen (k' := 1) (n' := 6) (Nat.le_of_ble_eq_true rfl) (Nat.le_of_ble_eq_true rfl) ?_
      exact x_iret C hr hlk dL_swap_16
    have hf := x_ine hc8 hf
    rcases Decidable.em (E4 = "java/lang/IllegalArgumentException") with hc10 | hc10
    · have hf := x_ip hc10 hf
      subst hc10
      refine x_catch C htb 1 ["java/lang/IndexOutOfBoundsException"] (name := "java/lang/IllegalArgumentException") rfl (by decide) (by decide) (by decide +kernel) (by decide) (by decide +kernel) (fun x11 => ?_)
      refine x_astore (lv' := [(4, .ref x11), (0, .ref (xad G 0)), (1, .int a2), (2, .int a3), (3, .ref (xad G 20))]) C dL_swap_17 (by decide) rfl ?_
      refine x_iconst (v := 2) C dL_swap_19 (by decide) ?_
      obtain rfl := Option.some.inj hf
      refine x_widen (k' := 1) (n' := 6) (Nat.le_of_ble_eq_true rfl) (Nat.le_of_ble_eq_true rfl) ?_
      exact x_iret C hr hlk dL_swap_20
    have hf := x_ine hc10 hf
    rcases Decidable.em (E4 = "java/lang/IllegalStateException") with hc12 | hc12
    · have hf := x_ip hc12 hf
      subst hc12
      refine x_catch C htb 2 ["java/lang/IndexOutOfBoundsException", "java/lang/IllegalArgumentException"] (name := "java/lang/IllegalStateException") rfl (by decide) (by decide) (by decide +kernel) (by decide) (by decide +kernel) (fun x13 => ?_)
      refine x_astore (lv' := [(4, .ref x13), (0, .ref (xad G 0)), (1, .int a2), (2, .int a3), (3, .ref (xad G 20))]) C dL_swap_21 (by decide) rfl ?_
      refine x_iconst (v := 3) C dL_swap_23 (by decide) ?_
      obtain rfl := Option.some.inj hf
      refine x_widen (k' := 1) (n' := 6) (Nat.le_of_ble_eq_true rfl) (Nat.le_of_ble_eq_true rfl) ?_
      exact x_iret C hr hlk dL_swap_24
    have hf := x_ine hc12 hf
    rcases Decidable.em (E4 = "java/lang/UnsupportedOperationException") with hc14 | hc14
    · have hf := x_ip hc14 hf
      subst hc14
      refine x_catch C htb 3 ["java/lang/IndexOutOfBoundsException", "java/lang/IllegalArgumentException", "java/lang/IllegalStateException"] (name := "java/lang/UnsupportedOperationException") rfl (by decide) (by decide) (by decide +kernel) (by decide) (by decide +kernel) (fun x15 => ?_)
      refine x_astore (lv' := [(4, .ref x15), (0, .ref (xad G 0)), (1, .int a2), (2, .int a3), (3, .ref (xad G 20))]) C dL_swap_25 (by decide) rfl ?_
      refine x_iconst (v := 4) C dL_swap_27 (by decide) ?_
      obtain rfl := Option.some.inj hf
      refine x_widen (k' := 1) (n' := 6) (Nat.le_of_ble_eq_true rfl) (Nat.le_of_ble_eq_true rfl) ?_
      exact x_iret C hr hlk dL_swap_28
    have hf := x_ine hc14 hf
    cases hf
/-! WaitingRoomSimulationLaw.sit(LWaitingRoomSimulation;I[J)I -/
abbrev rm_L_sit (c s : Nat) : Room := { frames := 11, cells := c, slots := s, locals := 263 }
def f_L_sit (a2 : Int32) (M : xM) : Option (Int32 × xM) := (f_X6_sit a2 M).bind fun q1 => x_case q1.1 (fun r3 => (fun (M5 : xM) => x_let (sJ M5 r3.toInt64) fun M6 => some ((0 : Int32), M6)) q1.2) (fun E4 => (fun (M5 : xM) => if E4 = "java/lang/IndexOutOfBoundsException" then some ((1 : Int32), M5) else if E4 = "java/lang/IllegalStateException" then some ((2 : Int32), M5) else if E4 = "java/lang/UnsupportedOperationException" then some ((3 : Int32), M5) else none) q1.2)
set_option maxHeartbeats 4000000 in
set_option maxRecDepth 100000 in
theorem t_L_sit {l : Launch} {G : xG} {ta : Nat × Nat} {M : xM} {a2 : Int32} {out : Int32 × xM} (hfl : l.stackTraces = false) (hf : f_L_sit a2 M = some out) : xMet G l yL_sit wsL_sit (rm_L_sit 1 6) 1 6 ta M [.ref (xad G 0), .int a2, .ref (xad G 20)] (some (.int out.1)) out.2 := by
  refine x_metH (cc := cL_sit) (nL := 4) (ret := some .int) (hh := [(0, 9, 12, 21), (0, 9, 15, 15), (0, 9, 18, 36)]) (by decide) rfl (Nat.le_of_ble_eq_true rfl) ?_
  intro p e s m args below meth c C hr hlk htb
  have C : xC G p s m args c cL_sit 4 wsL_sit RL := C
  unfold f_L_sit at hf
  show xW G p l e (rm_L_sit 1 6) s m args below meth c 4 (MQ below (xQr G (some (.int out.1)) out.2) args s 1 6 (xAs G)) 0 0 ta M 0 [(0, .ref (xad G 0)), (1, .int a2), (2, .ref (xad G 20))] []
  refine x_aload_n C 2 dL_sit_0 rfl ?_
  refine x_iconst (v := 0) C dL_sit_1 (by decide) ?_
  refine x_aload_n C 0 dL_sit_2 rfl ?_
  refine x_iload_n C 1 dL_sit_3 rfl ?_
  obtain ⟨q1, hg, hf⟩ := x_bd hf
  rcases q1 with ⟨r3 | E4, M5⟩
  · have hf := x_ci hf
    refine x_callVXr (w := .int r3) (mc := 0) (ms := 0) C (by rw [xkd_0]; decide) (by rw [xkd_0]; decide) (xc8 xkd_0) rfl (t_X6_sit hfl hg) (cwV 1 C.1.2.2.2.2 gL_sit_X6_sit rfl rfl rfl (by decide +kernel) ⟨Nat.le_of_ble_eq_true rfl, Nat.le_of_ble_eq_true rfl⟩) rfl rfl (Nat.le_of_ble_eq_true rfl) dL_sit_4 ⟨Nat.zero_le _, Nat.zero_le _⟩ (fun ta2 => ?_)
    clear hg
    refine x_i2l (v := r3.toInt64) C dL_sit_7 rfl ?_
    refine x_last C dL_sit_8 ?_
    obtain ⟨M6, e7, hf⟩ := x_lt hf
    rw [← e7]
    clear e7
    refine x_goto C 21 dL_sit_9 (by decide) ?_
    refine x_iconst (v := 0) C dL_sit_21 (by decide) ?_
    obtain rfl := Option.some.inj hf
    refine x_widen (k' := 1) (n' := 6) (Nat.le_of_ble_eq_true rfl) (Nat.le_of_ble_eq_true rfl) ?_
    exact x_iret C hr hlk dL_sit_22
  · have hf := x_cx hf
    refine x_callVXt (mc := 1) (ms := 6) C (by rw [xkd_0]; decide) (by rw [xkd_0]; decide) (xc8 xkd_0) rfl (t_X6_sit hfl hg) (cwV 1 C.1.2.2.2.2 gL_sit_X6_sit rfl rfl rfl (by decide +kernel) ⟨Nat.le_of_ble_eq_true rfl, Nat.le_of_ble_eq_true rfl⟩) rfl rfl (Nat.le_of_ble_eq_true rfl) dL_sit_4 ⟨Nat.le_of_ble_eq_true rfl, Nat.le_of_ble_eq_true rfl⟩ (fun ta2 => ?_)
    rcases Decidable.em (E4 = "java/lang/IndexOutOfBoundsException") with hc8 | hc8
    · have hf := x_ip hc8 hf
      subst hc8
      refine x_catch C htb 0 [] (name := "java/lang/IndexOutOfBoundsException") rfl (by decide) (by decide) (by decide +kernel) (by decide) (by decide +kernel) (fun x9 => ?_)
      refine x_astore_n (lv' := [(3, .ref x9), (0, .ref (xad G 0)), (1, .int a2), (2, .ref (xad G 20))]) C dL_sit_12 rfl (by decide) rfl ?_
      refine x_iconst (v := 1) C dL_sit_13 (by decide) ?_
      obtain rfl := Option.some.inj hf
      refine x_widen (k' := 1) (n' := 6) (Nat.le_of_ble_eq_true rfl) (Nat.le_of_ble_eq_true rfl) ?_
      exact x_iret C hr hlk dL_sit_14
    have hf := x_ine hc8 hf
    rcases Decidable.em (E4 = "java/lang/IllegalStateException") with hc10 | hc10
    · have hf := x_ip hc10 hf
      subst hc10
      refine x_catch C htb 1 ["java/lang/IndexOutOfBoundsException"] (name := "java/lang/IllegalStateException") rfl (by decide) (by decide) (by decide +kernel) (by decide) (by decide +kernel) (fun x11 => ?_)
      refine x_astore_n (lv' := [(3, .ref x11), (0, .ref (xad G 0)), (1, .int a2), (2, .ref (xad G 20))]) C dL_sit_15 rfl (by decide) rfl ?_
      refine x_iconst (v := 2) C dL_sit_16 (by decide) ?_
      obtain rfl := Option.some.inj hf
      refine x_widen (k' := 1) (n' := 6) (Nat.le_of_ble_eq_true rfl) (Nat.le_of_ble_eq_true rfl) ?_
      exact x_iret C hr hlk dL_sit_17
    have hf := x_ine hc10 hf
    rcases Decidable.em (E4 = "java/lang/UnsupportedOperationException") with hc12 | hc12
    · have hf := x_ip hc12 hf
      subst hc12
      refine x_catch C htb 2 ["java/lang/IndexOutOfBoundsException", "java/lang/IllegalStateException"] (name := "java/lang/UnsupportedOperationException") rfl (by decide) (by decide) (by decide +kernel) (by decide) (by decide +kernel) (fun x13 => ?_)
      refine x_astore_n (lv' := [(3, .ref x13), (0, .ref (xad G 0)), (1, .int a2), (2, .ref (xad G 20))]) C dL_sit_18 rfl (by decide) rfl ?_
      refine x_iconst (v := 3) C dL_sit_19 (by decide) ?_
      obtain rfl := Option.some.inj hf
      refine x_widen (k' := 1) (n' := 6) (Nat.le_of_ble_eq_true rfl) (Nat.le_of_ble_eq_true rfl) ?_
      exact x_iret C hr hlk dL_sit_20
    have hf := x_ine hc12 hf
    cases hf
/-! WaitingRoomSimulationLaw.standUp(LWaitingRoomSimulation;I[J)I -/
abbrev rm_L_standUp (c s : Nat) : Room := { frames := 11, cells := c, slots := s, locals := 263 }
def f_L_standUp (a2 : Int32) (M : xM) : Option (Int32 × xM) := (f_X6_standUp a2 M).bind fun q1 => x_case q1.1 (fun r3 => (fun (M5 : xM) => x_let (sJ M5 r3.toInt64) fun M6 => some ((0 : Int32), M6)) q1.2) (fun E4 => (fun (M5 : xM) => if E4 = "java/lang/IndexOutOfBoundsException" then some ((1 : Int32), M5) else if E4 = "java/lang/IllegalStateException" then some ((2 : Int32), M5) else none) q1.2)
set_option maxHeartbeats 4000000 in
set_option maxRecDepth 100000 in
theorem t_L_standUp {l : Launch} {G : xG} {ta : Nat × Nat} {M : xM} {a2 : Int32} {out : Int32 × xM} (hfl : l.stackTraces = false) (hf : f_L_standUp a2 M = some out) : xMet G l yL_standUp wsL_standUp (rm_L_standUp 1 6) 1 6 ta M [.ref (xad G 0), .int a2, .ref (xad G 20)] (some (.int out.1)) out.2 := by
  refine x_metH (cc := cL_standUp) (nL := 4) (ret := some .int) (hh := [(0, 9, 12, 21), (0, 9, 15, 15)]) (by decide) rfl (Nat.le_of_ble_eq_true rfl) ?_
  intro p e s m args below meth c C hr hlk htb
  have C : xC G p s m args c cL_standUp 4 wsL_standUp RL := C
  unfold f_L_standUp at hf
  show xW G p l e (rm_L_standUp 1 6) s m args below meth c 4 (MQ below (xQr G (some (.int out.1)) out.2) args s 1 6 (xAs G)) 0 0 ta M 0 [(0, .ref (xad G 0)), (1, .int a2), (2, .ref (xad G 20))] []
  refine x_aload_n C 2 dL_standUp_0 rfl ?_
  refine x_iconst (v := 0) C dL_standUp_1 (by decide) ?_
  refine x_aload_n C 0 dL_standUp_2 rfl ?_
  refine x_iload_n C 1 dL_standUp_3 rfl ?_
  obtain ⟨q1, hg, hf⟩ := x_bd hf
  rcases q1 with ⟨r3 | E4, M5⟩
  · have hf := x_ci hf
    refine x_callVXr (w := .int r3) (mc := 0) (ms := 0) C (by rw [xkd_0]; decide) (by rw [xkd_0]; decide) (xc8 xkd_0) rfl (t_X6_standUp hfl hg) (cwV 1 C.1.2.2.2.2 gL_standUp_X6_standUp rfl rfl rfl (by decide +kernel) ⟨Nat.le_of_ble_eq_true rfl, Nat.le_of_ble_eq_true rfl⟩) rfl rfl (Nat.le_of_ble_eq_true rfl) dL_standUp_4 ⟨Nat.zero_le _, Nat.zero_le _⟩ (fun ta2 => ?_)
    clear hg
    refine x_i2l (v := r3.toInt64) C dL_standUp_7 rfl ?_
    refine x_last C dL_standUp_8 ?_
    obtain ⟨M6, e7, hf⟩ := x_lt hf
    rw [← e7]
    clear e7
    refine x_goto C 18 dL_standUp_9 (by decide) ?_
    refine x_iconst (v := 0) C dL_standUp_18 (by decide) ?_
    obtain rfl := Option.some.inj hf
    refine x_widen (k' := 1) (n' := 6) (Nat.le_of_ble_eq_true rfl) (Nat.le_of_ble_eq_true rfl) ?_
    exact x_iret C hr hlk dL_standUp_19
  · have hf := x_cx hf
    refine x_callVXt (mc := 1) (ms := 6) C (by rw [xkd_0]; decide) (by rw [xkd_0]; decide) (xc8 xkd_0) rfl (t_X6_standUp hfl hg) (cwV 1 C.1.2.2.2.2 gL_standUp_X6_standUp rfl rfl rfl (by decide +kernel) ⟨Nat.le_of_ble_eq_true rfl, Nat.le_of_ble_eq_true rfl⟩) rfl rfl (Nat.le_of_ble_eq_true rfl) dL_standUp_4 ⟨Nat.le_of_ble_eq_true rfl, Nat.le_of_ble_eq_true rfl⟩ (fun ta2 => ?_)
    rcases Decidable.em (E4 = "java/lang/IndexOutOfBoundsException") with hc8 | hc8
    · have hf := x_ip hc8 hf
      subst hc8
      refine x_catch C htb 0 [] (name := "java/lang/IndexOutOfBoundsException") rfl (by decide) (by decide) (by decide +kernel) (by decide) (by decide +kernel) (fun x9 => ?_)
      refine x_astore_n (lv' := [(3, .ref x9), (0, .ref (xad G 0)), (1, .int a2), (2, .ref (xad G 20))]) C dL_standUp_12 rfl (by decide) rfl ?_
      refine x_iconst (v := 1) C dL_standUp_13 (by decide) ?_
      obtain rfl := Option.some.inj hf
      refine x_widen (k' := 1) (n' := 6) (Nat.le_of_ble_eq_true rfl) (Nat.le_of_ble_eq_true rfl) ?_
      exact x_iret C hr hlk dL_standUp_14
    have hf := x_ine hc8 hf
    rcases Decidable.em (E4 = "java/lang/IllegalStateException") with hc10 | hc10
    · have hf := x_ip hc10 hf
      subst hc10
      refine x_catch C htb 1 ["java/lang/IndexOutOfBoundsException"] (name := "java/lang/IllegalStateException") rfl (by decide) (by decide) (by decide +kernel) (by decide) (by decide +kernel) (fun x11 => ?_)
      refine x_astore_n (lv' := [(3, .ref x11), (0, .ref (xad G 0)), (1, .int a2), (2, .ref (xad G 20))]) C dL_standUp_15 rfl (by decide) rfl ?_
      refine x_iconst (v := 2) C dL_standUp_16 (by decide) ?_
      obtain rfl := Option.some.inj hf
      refine x_widen (k' := 1) (n' := 6) (Nat.le_of_ble_eq_true rfl) (Nat.le_of_ble_eq_true rfl) ?_
      exact x_iret C hr hlk dL_standUp_17
    have hf := x_ine hc10 hf
    cases hf
/-! WaitingRoomSimulationLaw.remove(LWaitingRoomSimulation;I[J)I -/
abbrev rm_L_remove (c s : Nat) : Room := { frames := 11, cells := c, slots := s, locals := 263 }
def f_L_remove (a2 : Int32) (M : xM) : Option (Int32 × xM) := (f_X6_remove a2 M).bind fun q1 => x_case q1.1 (fun r3 => (fun (M5 : xM) => x_let (sJ M5 r3.toInt64) fun M6 => some ((0 : Int32), M6)) q1.2) (fun E4 => (fun (M5 : xM) => if E4 = "java/lang/IndexOutOfBoundsException" then some ((1 : Int32), M5) else none) q1.2)
set_option maxHeartbeats 4000000 in
set_option maxRecDepth 100000 in
theorem t_L_remove {l : Launch} {G : xG} {ta : Nat × Nat} {M : xM} {a2 : Int32} {out : Int32 × xM} (hfl : l.stackTraces = false) (hf : f_L_remove a2 M = some out) : xMet G l yL_remove wsL_remove (rm_L_remove 1 6) 1 6 ta M [.ref (xad G 0), .int a2, .ref (xad G 20)] (some (.int out.1)) out.2 := by
  refine x_metH (cc := cL_remove) (nL := 4) (ret := some .int) (hh := [(0, 9, 12, 21)]) (by decide) rfl (Nat.le_of_ble_eq_true rfl) ?_
  intro p e s m args below meth c C hr hlk htb
  have C : xC G p s m args c cL_remove 4 wsL_remove RL := C
  unfold f_L_remove at hf
  show xW G p l e (rm_L_remove 1 6) s m args below meth c 4 (MQ below (xQr G (some (.int out.1)) out.2) args s 1 6 (xAs G)) 0 0 ta M 0 [(0, .ref (xad G 0)), (1, .int a2), (2, .ref (xad G 20))] []
  refine x_aload_n C 2 dL_remove_0 rfl ?_
  refine x_iconst (v := 0) C dL_remove_1 (by decide) ?_
  refine x_aload_n C 0 dL_remove_2 rfl ?_
  refine x_iload_n C 1 dL_remove_3 rfl ?_
  obtain ⟨q1, hg, hf⟩ := x_bd hf
  rcases q1 with ⟨r3 | E4, M5⟩
  · have hf := x_ci hf
    refine x_callVXr (w := .int r3) (mc := 0) (ms := 0) C (by rw [xkd_0]; decide) (by rw [xkd_0]; decide) (xc8 xkd_0) rfl (t_X6_remove hfl hg) (cwV 1 C.1.2.2.2.2 gL_remove_X6_remove rfl rfl rfl (by decide +kernel) ⟨Nat.le_of_ble_eq_true rfl, Nat.le_of_ble_eq_true rfl⟩) rfl rfl (Nat.le_of_ble_eq_true rfl) dL_remove_4 ⟨Nat.zero_le _, Nat.zero_le _⟩ (fun ta2 => ?_)
    clear hg
    refine x_i2l (v := r3.toInt64) C dL_remove_7 rfl ?_
    refine x_last C dL_remove_8 ?_
    obtain ⟨M6, e7, hf⟩ := x_lt hf
    rw [← e7]
    clear e7
    refine x_goto C 15 dL_remove_9 (by decide) ?_
    refine x_iconst (v := 0) C dL_remove_15 (by decide) ?_
    obtain rfl := Option.some.inj hf
    refine x_widen (k' := 1) (n' := 6) (Nat.le_of_ble_eq_true rfl) (Nat.le_of_ble_eq_true rfl) ?_
    exact x_iret C hr hlk dL_remove_16
  · have hf := x_cx hf
    refine x_callVXt (mc := 1) (ms := 6) C (by rw [xkd_0]; decide) (by rw [xkd_0]; decide) (xc8 xkd_0) rfl (t_X6_remove hfl hg) (cwV 1 C.1.2.2.2.2 gL_remove_X6_remove rfl rfl rfl (by decide +kernel) ⟨Nat.le_of_ble_eq_true rfl, Nat.le_of_ble_eq_true rfl⟩) rfl rfl (Nat.le_of_ble_eq_true rfl) dL_remove_4 ⟨Nat.le_of_ble_eq_true rfl, Nat.le_of_ble_eq_true rfl⟩ (fun ta2 => ?_)
    rcases Decidable.em (E4 = "java/lang/IndexOutOfBoundsException") with hc8 | hc8
    · have hf := x_ip hc8 hf
      subst hc8
      refine x_catch C htb 0 [] (name := "java/lang/IndexOutOfBoundsException") rfl (by decide) (by decide) (by decide +kernel) (by decide) (by decide +kernel) (fun x9 => ?_)
      refine x_astore_n (lv' := [(3, .ref x9), (0, .ref (xad G 0)), (1, .int a2), (2, .ref (xad G 20))]) C dL_remove_12 rfl (by decide) rfl ?_
      refine x_iconst (v := 1) C dL_remove_13 (by decide) ?_
      obtain rfl := Option.some.inj hf
      refine x_widen (k' := 1) (n' := 6) (Nat.le_of_ble_eq_true rfl) (Nat.le_of_ble_eq_true rfl) ?_
      exact x_iret C hr hlk dL_remove_14
    have hf := x_ine hc8 hf
    cases hf
/-! WaitingRoomSimulationLaw.advance(LWaitingRoomSimulation;I[J)I -/
abbrev rm_L_advance (c s : Nat) : Room := { frames := 11, cells := c, slots := s, locals := 263 }
def f_L_advance (a2 : Int32) (M : xM) : Option (Int32 × xM) := (f_X6_advance a2 M).bind fun q1 => x_case q1.1 (fun r3 => (fun (M5 : xM) => x_let (sJ M5 r3.toInt64) fun M6 => some ((0 : Int32), M6)) q1.2) (fun E4 => (fun (M5 : xM) => if E4 = "java/lang/IllegalArgumentException" then some ((1 : Int32), M5) else none) q1.2)
set_option maxHeartbeats 4000000 in
set_option maxRecDepth 100000 in
theorem t_L_advance {l : Launch} {G : xG} {ta : Nat × Nat} {M : xM} {a2 : Int32} {out : Int32 × xM} (hfl : l.stackTraces = false) (hf : f_L_advance a2 M = some out) : xMet G l yL_advance wsL_advance (rm_L_advance 1 6) 1 6 ta M [.ref (xad G 0), .int a2, .ref (xad G 20)] (some (.int out.1)) out.2 := by
  refine x_metH (cc := cL_advance) (nL := 4) (ret := some .int) (hh := [(0, 9, 12, 13)]) (by decide) rfl (Nat.le_of_ble_eq_true rfl) ?_
  intro p e s m args below meth c C hr hlk htb
  have C : xC G p s m args c cL_advance 4 wsL_advance RL := C
  unfold f_L_advance at hf
  show xW G p l e (rm_L_advance 1 6) s m args below meth c 4 (MQ below (xQr G (some (.int out.1)) out.2) args s 1 6 (xAs G)) 0 0 ta M 0 [(0, .ref (xad G 0)), (1, .int a2), (2, .ref (xad G 20))] []
  refine x_aload_n C 2 dL_advance_0 rfl ?_
  refine x_iconst (v := 0) C dL_advance_1 (by decide) ?_
  refine x_aload_n C 0 dL_advance_2 rfl ?_
  refine x_iload_n C 1 dL_advance_3 rfl ?_
  obtain ⟨q1, hg, hf⟩ := x_bd hf
  rcases q1 with ⟨r3 | E4, M5⟩
  · have hf := x_ci hf
    refine x_callVXr (w := .int r3) (mc := 0) (ms := 0) C (by rw [xkd_0]; decide) (by rw [xkd_0]; decide) (xc8 xkd_0) rfl (t_X6_advance hfl hg) (cwV 1 C.1.2.2.2.2 gL_advance_X6_advance rfl rfl rfl (by decide +kernel) ⟨Nat.le_of_ble_eq_true rfl, Nat.le_of_ble_eq_true rfl⟩) rfl rfl (Nat.le_of_ble_eq_true rfl) dL_advance_4 ⟨Nat.zero_le _, Nat.zero_le _⟩ (fun ta2 => ?_)
    clear hg
    refine x_i2l (v := r3.toInt64) C dL_advance_7 rfl ?_
    refine x_last C dL_advance_8 ?_
    obtain ⟨M6, e7, hf⟩ := x_lt hf
    rw [← e7]
    clear e7
    refine x_goto C 15 dL_advance_9 (by decide) ?_
    refine x_iconst (v := 0) C dL_advance_15 (by decide) ?_
    obtain rfl := Option.some.inj hf
    refine x_widen (k' := 1) (n' := 6) (Nat.le_of_ble_eq_true rfl) (Nat.le_of_ble_eq_true rfl) ?_
    exact x_iret C hr hlk dL_advance_16
  · have hf := x_cx hf
    refine x_callVXt (mc := 1) (ms := 6) C (by rw [xkd_0]; decide) (by rw [xkd_0]; decide) (xc8 xkd_0) rfl (t_X6_advance hfl hg) (cwV 1 C.1.2.2.2.2 gL_advance_X6_advance rfl rfl rfl (by decide +kernel) ⟨Nat.le_of_ble_eq_true rfl, Nat.le_of_ble_eq_true rfl⟩) rfl rfl (Nat.le_of_ble_eq_true rfl) dL_advance_4 ⟨Nat.le_of_ble_eq_true rfl, Nat.le_of_ble_eq_true rfl⟩ (fun ta2 => ?_)
    rcases Decidable.em (E4 = "java/lang/IllegalArgumentException") with hc8 | hc8
    · have hf := x_ip hc8 hf
      subst hc8
      refine x_catch C htb 0 [] (name := "java/lang/IllegalArgumentException") rfl (by decide) (by decide) (by decide +kernel) (by decide) (by decide +kernel) (fun x9 => ?_)
      refine x_astore_n (lv' := [(3, .ref x9), (0, .ref (xad G 0)), (1, .int a2), (2, .ref (xad G 20))]) C dL_advance_12 rfl (by decide) rfl ?_
      refine x_iconst (v := 1) C dL_advance_13 (by decide) ?_
      obtain rfl := Option.some.inj hf
      refine x_widen (k' := 1) (n' := 6) (Nat.le_of_ble_eq_true rfl) (Nat.le_of_ble_eq_true rfl) ?_
      exact x_iret C hr hlk dL_advance_14
    have hf := x_ine hc8 hf
    cases hf
/-! WaitingRoomSimulationLaw.ticket(LWaitingRoomSimulation;I[J)I -/
abbrev rm_L_ticket (c s : Nat) : Room := { frames := 10, cells := c, slots := s, locals := 242 }
def f_L_ticket (a2 : Int32) (M : xM) : Option (Int32 × xM) := (f_X6_ticket a2 M).bind fun q1 => x_case q1 (fun r3 => x_let (sJ M r3.toInt64) fun M5 => some ((0 : Int32), M5)) (fun E4 => if E4 = "java/lang/IndexOutOfBoundsException" then some ((1 : Int32), M) else none)
set_option maxHeartbeats 4000000 in
set_option maxRecDepth 100000 in
theorem t_L_ticket {l : Launch} {G : xG} {ta : Nat × Nat} {M : xM} {a2 : Int32} {out : Int32 × xM} (hfl : l.stackTraces = false) (hf : f_L_ticket a2 M = some out) : xMet G l yL_ticket wsL_ticket (rm_L_ticket 1 6) 1 6 ta M [.ref (xad G 0), .int a2, .ref (xad G 20)] (some (.int out.1)) out.2 := by
  refine x_metH (cc := cL_ticket) (nL := 4) (ret := some .int) (hh := [(0, 9, 12, 21)]) (by decide) rfl (Nat.le_of_ble_eq_true rfl) ?_
  intro p e s m args below meth c C hr hlk htb
  have C : xC G p s m args c cL_ticket 4 wsL_ticket RL := C
  unfold f_L_ticket at hf
  show xW G p l e (rm_L_ticket 1 6) s m args below meth c 4 (MQ below (xQr G (some (.int out.1)) out.2) args s 1 6 (xAs G)) 0 0 ta M 0 [(0, .ref (xad G 0)), (1, .int a2), (2, .ref (xad G 20))] []
  refine x_aload_n C 2 dL_ticket_0 rfl ?_
  refine x_iconst (v := 0) C dL_ticket_1 (by decide) ?_
  refine x_aload_n C 0 dL_ticket_2 rfl ?_
  refine x_iload_n C 1 dL_ticket_3 rfl ?_
  obtain ⟨q1, hg, hf⟩ := x_bd hf
  rcases q1 with r3 | E4
  · have hf := x_ci hf
    refine x_callVXr (w := .int r3) (mc := 0) (ms := 0) C (by rw [xkd_0]; decide) (by rw [xkd_0]; decide) (xc8 xkd_0) rfl (t_X6_ticket hfl hg) (cwV 1 C.1.2.2.2.2 gL_ticket_X6_ticket rfl rfl rfl (by decide +kernel) ⟨Nat.le_of_ble_eq_true rfl, Nat.le_of_ble_eq_true rfl⟩) rfl rfl (Nat.le_of_ble_eq_true rfl) dL_ticket_4 ⟨Nat.zero_le _, Nat.zero_le _⟩ (fun ta2 => ?_)
    clear hg
    refine x_i2l (v := r3.toInt64) C dL_ticket_7 rfl ?_
    refine x_last C dL_ticket_8 ?_
    obtain ⟨M5, e6, hf⟩ := x_lt hf
    rw [← e6]
    clear e6
    refine x_goto C 15 dL_ticket_9 (by decide) ?_
    refine x_iconst (v := 0) C dL_ticket_15 (by decide) ?_
    obtain rfl := Option.some.inj hf
    refine x_widen (k' := 1) (n' := 6) (Nat.le_of_ble_eq_true rfl) (Nat.le_of_ble_eq_true rfl) ?_
    exact x_iret C hr hlk dL_ticket_16
  · have hf := x_cx hf
    refine x_callVXt (mc := 1) (ms := 6) C (by rw [xkd_0]; decide) (by rw [xkd_0]; decide) (xc8 xkd_0) rfl (t_X6_ticket hfl hg) (cwV 1 C.1.2.2.2.2 gL_ticket_X6_ticket rfl rfl rfl (by decide +kernel) ⟨Nat.le_of_ble_eq_true rfl, Nat.le_of_ble_eq_true rfl⟩) rfl rfl (Nat.le_of_ble_eq_true rfl) dL_ticket_4 ⟨Nat.le_of_ble_eq_true rfl, Nat.le_of_ble_eq_true rfl⟩ (fun ta2 => ?_)
    rcases Decidable.em (E4 = "java/lang/IndexOutOfBoundsException") with hc7 | hc7
    · have hf := x_ip hc7 hf
      subst hc7
      refine x_catch C htb 0 [] (name := "java/lang/IndexOutOfBoundsException") rfl (by decide) (by decide) (by decide +kernel) (by decide) (by decide +kernel) (fun x8 => ?_)
      refine x_astore_n (lv' := [(3, .ref x8), (0, .ref (xad G 0)), (1, .int a2), (2, .ref (xad G 20))]) C dL_ticket_12 rfl (by decide) rfl ?_
      refine x_iconst (v := 1) C dL_ticket_13 (by decide) ?_
      obtain rfl := Option.some.inj hf
      refine x_widen (k' := 1) (n' := 6) (Nat.le_of_ble_eq_true rfl) (Nat.le_of_ble_eq_true rfl) ?_
      exact x_iret C hr hlk dL_ticket_14
    have hf := x_ine hc7 hf
    cases hf
/-! WaitingRoomSimulationLaw.patience(LWaitingRoomSimulation;I[J)I -/
abbrev rm_L_patience (c s : Nat) : Room := { frames := 10, cells := c, slots := s, locals := 242 }
def f_L_patience (a2 : Int32) (M : xM) : Option (Int32 × xM) := (f_X6_patience a2 M).bind fun q1 => x_case q1 (fun r3 => x_let (sJ M r3.toInt64) fun M5 => some ((0 : Int32), M5)) (fun E4 => if E4 = "java/lang/IndexOutOfBoundsException" then some ((1 : Int32), M) else none)
set_option maxHeartbeats 4000000 in
set_option maxRecDepth 100000 in
theorem t_L_patience {l : Launch} {G : xG} {ta : Nat × Nat} {M : xM} {a2 : Int32} {out : Int32 × xM} (hfl : l.stackTraces = false) (hf : f_L_patience a2 M = some out) : xMet G l yL_patience wsL_patience (rm_L_patience 1 6) 1 6 ta M [.ref (xad G 0), .int a2, .ref (xad G 20)] (some (.int out.1)) out.2 := by
  refine x_metH (cc := cL_patience) (nL := 4) (ret := some .int) (hh := [(0, 9, 12, 21)]) (by decide) rfl (Nat.le_of_ble_eq_true rfl) ?_
  intro p e s m args below meth c C hr hlk htb
  have C : xC G p s m args c cL_patience 4 wsL_patience RL := C
  unfold f_L_patience at hf
  show xW G p l e (rm_L_patience 1 6) s m args below meth c 4 (MQ below (xQr G (some (.int out.1)) out.2) args s 1 6 (xAs G)) 0 0 ta M 0 [(0, .ref (xad G 0)), (1, .int a2), (2, .ref (xad G 20))] []
  refine x_aload_n C 2 dL_patience_0 rfl ?_
  refine x_iconst (v := 0) C dL_patience_1 (by decide) ?_
  refine x_aload_n C 0 dL_patience_2 rfl ?_
  refine x_iload_n C 1 dL_patience_3 rfl ?_
  obtain ⟨q1, hg, hf⟩ := x_bd hf
  rcases q1 with r3 | E4
  · have hf := x_ci hf
    refine x_callVXr (w := .int r3) (mc := 0) (ms := 0) C (by rw [xkd_0]; decide) (by rw [xkd_0]; decide) (xc8 xkd_0) rfl (t_X6_patience hfl hg) (cwV 1 C.1.2.2.2.2 gL_patience_X6_patience rfl rfl rfl (by decide +kernel) ⟨Nat.le_of_ble_eq_true rfl, Nat.le_of_ble_eq_true rfl⟩) rfl rfl (Nat.le_of_ble_eq_true rfl) dL_patience_4 ⟨Nat.zero_le _, Nat.zero_le _⟩ (fun ta2 => ?_)
    clear hg
    refine x_i2l (v := r3.toInt64) C dL_patience_7 rfl ?_
    refine x_last C dL_patience_8 ?_
    obtain ⟨M5, e6, hf⟩ := x_lt hf
    rw [← e6]
    clear e6
    refine x_goto C 15 dL_patience_9 (by decide) ?_
    refine x_iconst (v := 0) C dL_patience_15 (by decide) ?_
    obtain rfl := Option.some.inj hf
    refine x_widen (k' := 1) (n' := 6) (Nat.le_of_ble_eq_true rfl) (Nat.le_of_ble_eq_true rfl) ?_
    exact x_iret C hr hlk dL_patience_16
  · have hf := x_cx hf
    refine x_callVXt (mc := 1) (ms := 6) C (by rw [xkd_0]; decide) (by rw [xkd_0]; decide) (xc8 xkd_0) rfl (t_X6_patience hfl hg) (cwV 1 C.1.2.2.2.2 gL_patience_X6_patience rfl rfl rfl (by decide +kernel) ⟨Nat.le_of_ble_eq_true rfl, Nat.le_of_ble_eq_true rfl⟩) rfl rfl (Nat.le_of_ble_eq_true rfl) dL_patience_4 ⟨Nat.le_of_ble_eq_true rfl, Nat.le_of_ble_eq_true rfl⟩ (fun ta2 => ?_)
    rcases Decidable.em (E4 = "java/lang/IndexOutOfBoundsException") with hc7 | hc7
    · have hf := x_ip hc7 hf
      subst hc7
      refine x_catch C htb 0 [] (name := "java/lang/IndexOutOfBoundsException") rfl (by decide) (by decide) (by decide +kernel) (by decide) (by decide +kernel) (fun x8 => ?_)
      refine x_astore_n (lv' := [(3, .ref x8), (0, .ref (xad G 0)), (1, .int a2), (2, .ref (xad G 20))]) C dL_patience_12 rfl (by decide) rfl ?_
      refine x_iconst (v := 1) C dL_patience_13 (by decide) ?_
      obtain rfl := Option.some.inj hf
      refine x_widen (k' := 1) (n' := 6) (Nat.le_of_ble_eq_true rfl) (Nat.le_of_ble_eq_true rfl) ?_
      exact x_iret C hr hlk dL_patience_14
    have hf := x_ine hc7 hf
    cases hf
/-! WaitingRoomSimulationLaw.sighs(LWaitingRoomSimulation;I[J)I -/
abbrev rm_L_sighs (c s : Nat) : Room := { frames := 10, cells := c, slots := s, locals := 242 }
def f_L_sighs (a2 : Int32) (M : xM) : Option (Int32 × xM) := (f_X6_sighs a2 M).bind fun q1 => x_case q1 (fun r3 => x_let (sJ M r3.toInt64) fun M5 => some ((0 : Int32), M5)) (fun E4 => if E4 = "java/lang/IndexOutOfBoundsException" then some ((1 : Int32), M) else none)
set_option maxHeartbeats 4000000 in
set_option maxRecDepth 100000 in
theorem t_L_sighs {l : Launch} {G : xG} {ta : Nat × Nat} {M : xM} {a2 : Int32} {out : Int32 × xM} (hfl : l.stackTraces = false) (hf : f_L_sighs a2 M = some out) : xMet G l yL_sighs wsL_sighs (rm_L_sighs 1 6) 1 6 ta M [.ref (xad G 0), .int a2, .ref (xad G 20)] (some (.int out.1)) out.2 := by
  refine x_metH (cc := cL_sighs) (nL := 4) (ret := some .int) (hh := [(0, 9, 12, 21)]) (by decide) rfl (Nat.le_of_ble_eq_true rfl) ?_
  intro p e s m args below meth c C hr hlk htb
  have C : xC G p s m args c cL_sighs 4 wsL_sighs RL := C
  unfold f_L_sighs at hf
  show xW G p l e (rm_L_sighs 1 6) s m args below meth c 4 (MQ below (xQr G (some (.int out.1)) out.2) args s 1 6 (xAs G)) 0 0 ta M 0 [(0, .ref (xad G 0)), (1, .int a2), (2, .ref (xad G 20))] []
  refine x_aload_n C 2 dL_sighs_0 rfl ?_
  refine x_iconst (v := 0) C dL_sighs_1 (by decide) ?_
  refine x_aload_n C 0 dL_sighs_2 rfl ?_
  refine x_iload_n C 1 dL_sighs_3 rfl ?_
  obtain ⟨q1, hg, hf⟩ := x_bd hf
  rcases q1 with r3 | E4
  · have hf := x_ci hf
    refine x_callVXr (w := .int r3) (mc := 0) (ms := 0) C (by rw [xkd_0]; decide) (by rw [xkd_0]; decide) (xc8 xkd_0) rfl (t_X6_sighs hfl hg) (cwV 1 C.1.2.2.2.2 gL_sighs_X6_sighs rfl rfl rfl (by decide +kernel) ⟨Nat.le_of_ble_eq_true rfl, Nat.le_of_ble_eq_true rfl⟩) rfl rfl (Nat.le_of_ble_eq_true rfl) dL_sighs_4 ⟨Nat.zero_le _, Nat.zero_le _⟩ (fun ta2 => ?_)
    clear hg
    refine x_i2l (v := r3.toInt64) C dL_sighs_7 rfl ?_
    refine x_last C dL_sighs_8 ?_
    obtain ⟨M5, e6, hf⟩ := x_lt hf
    rw [← e6]
    clear e6
    refine x_goto C 15 dL_sighs_9 (by decide) ?_
    refine x_iconst (v := 0) C dL_sighs_15 (by decide) ?_
    obtain rfl := Option.some.inj hf
    refine x_widen (k' := 1) (n' := 6) (Nat.le_of_ble_eq_true rfl) (Nat.le_of_ble_eq_true rfl) ?_
    exact x_iret C hr hlk dL_sighs_16
  · have hf := x_cx hf
    refine x_callVXt (mc := 1) (ms := 6) C (by rw [xkd_0]; decide) (by rw [xkd_0]; decide) (xc8 xkd_0) rfl (t_X6_sighs hfl hg) (cwV 1 C.1.2.2.2.2 gL_sighs_X6_sighs rfl rfl rfl (by decide +kernel) ⟨Nat.le_of_ble_eq_true rfl, Nat.le_of_ble_eq_true rfl⟩) rfl rfl (Nat.le_of_ble_eq_true rfl) dL_sighs_4 ⟨Nat.le_of_ble_eq_true rfl, Nat.le_of_ble_eq_true rfl⟩ (fun ta2 => ?_)
    rcases Decidable.em (E4 = "java/lang/IndexOutOfBoundsException") with hc7 | hc7
    · have hf := x_ip hc7 hf
      subst hc7
      refine x_catch C htb 0 [] (name := "java/lang/IndexOutOfBoundsException") rfl (by decide) (by decide) (by decide +kernel) (by decide) (by decide +kernel) (fun x8 => ?_)
      refine x_astore_n (lv' := [(3, .ref x8), (0, .ref (xad G 0)), (1, .int a2), (2, .ref (xad G 20))]) C dL_sighs_12 rfl (by decide) rfl ?_
      refine x_iconst (v := 1) C dL_sighs_13 (by decide) ?_
      obtain rfl := Option.some.inj hf
      refine x_widen (k' := 1) (n' := 6) (Nat.le_of_ble_eq_true rfl) (Nat.le_of_ble_eq_true rfl) ?_
      exact x_iret C hr hlk dL_sighs_14
    have hf := x_ine hc7 hf
    cases hf
/-! WaitingRoomSimulationLaw.ache(LWaitingRoomSimulation;I[J)I -/
abbrev rm_L_ache (c s : Nat) : Room := { frames := 10, cells := c, slots := s, locals := 242 }
def f_L_ache (a2 : Int32) (M : xM) : Option (Int32 × xM) := (f_X6_ache a2 M).bind fun q1 => x_case q1 (fun r3 => x_let (sJ M r3.toInt64) fun M5 => some ((0 : Int32), M5)) (fun E4 => if E4 = "java/lang/IndexOutOfBoundsException" then some ((1 : Int32), M) else none)
set_option maxHeartbeats 4000000 in
set_option maxRecDepth 100000 in
theorem t_L_ache {l : Launch} {G : xG} {ta : Nat × Nat} {M : xM} {a2 : Int32} {out : Int32 × xM} (hfl : l.stackTraces = false) (hf : f_L_ache a2 M = some out) : xMet G l yL_ache wsL_ache (rm_L_ache 1 6) 1 6 ta M [.ref (xad G 0), .int a2, .ref (xad G 20)] (some (.int out.1)) out.2 := by
  refine x_metH (cc := cL_ache) (nL := 4) (ret := some .int) (hh := [(0, 9, 12, 21)]) (by decide) rfl (Nat.le_of_ble_eq_true rfl) ?_
  intro p e s m args below meth c C hr hlk htb
  have C : xC G p s m args c cL_ache 4 wsL_ache RL := C
  unfold f_L_ache at hf
  show xW G p l e (rm_L_ache 1 6) s m args below meth c 4 (MQ below (xQr G (some (.int out.1)) out.2) args s 1 6 (xAs G)) 0 0 ta M 0 [(0, .ref (xad G 0)), (1, .int a2), (2, .ref (xad G 20))] []
  refine x_aload_n C 2 dL_ache_0 rfl ?_
  refine x_iconst (v := 0) C dL_ache_1 (by decide) ?_
  refine x_aload_n C 0 dL_ache_2 rfl ?_
  refine x_iload_n C 1 dL_ache_3 rfl ?_
  obtain ⟨q1, hg, hf⟩ := x_bd hf
  rcases q1 with r3 | E4
  · have hf := x_ci hf
    refine x_callVXr (w := .int r3) (mc := 0) (ms := 0) C (by rw [xkd_0]; decide) (by rw [xkd_0]; decide) (xc8 xkd_0) rfl (t_X6_ache hfl hg) (cwV 1 C.1.2.2.2.2 gL_ache_X6_ache rfl rfl rfl (by decide +kernel) ⟨Nat.le_of_ble_eq_true rfl, Nat.le_of_ble_eq_true rfl⟩) rfl rfl (Nat.le_of_ble_eq_true rfl) dL_ache_4 ⟨Nat.zero_le _, Nat.zero_le _⟩ (fun ta2 => ?_)
    clear hg
    refine x_i2l (v := r3.toInt64) C dL_ache_7 rfl ?_
    refine x_last C dL_ache_8 ?_
    obtain ⟨M5, e6, hf⟩ := x_lt hf
    rw [← e6]
    clear e6
    refine x_goto C 15 dL_ache_9 (by decide) ?_
    refine x_iconst (v := 0) C dL_ache_15 (by decide) ?_
    obtain rfl := Option.some.inj hf
    refine x_widen (k' := 1) (n' := 6) (Nat.le_of_ble_eq_true rfl) (Nat.le_of_ble_eq_true rfl) ?_
    exact x_iret C hr hlk dL_ache_16
  · have hf := x_cx hf
    refine x_callVXt (mc := 1) (ms := 6) C (by rw [xkd_0]; decide) (by rw [xkd_0]; decide) (xc8 xkd_0) rfl (t_X6_ache hfl hg) (cwV 1 C.1.2.2.2.2 gL_ache_X6_ache rfl rfl rfl (by decide +kernel) ⟨Nat.le_of_ble_eq_true rfl, Nat.le_of_ble_eq_true rfl⟩) rfl rfl (Nat.le_of_ble_eq_true rfl) dL_ache_4 ⟨Nat.le_of_ble_eq_true rfl, Nat.le_of_ble_eq_true rfl⟩ (fun ta2 => ?_)
    rcases Decidable.em (E4 = "java/lang/IndexOutOfBoundsException") with hc7 | hc7
    · have hf := x_ip hc7 hf
      subst hc7
      refine x_catch C htb 0 [] (name := "java/lang/IndexOutOfBoundsException") rfl (by decide) (by decide) (by decide +kernel) (by decide) (by decide +kernel) (fun x8 => ?_)
      refine x_astore_n (lv' := [(3, .ref x8), (0, .ref (xad G 0)), (1, .int a2), (2, .ref (xad G 20))]) C dL_ache_12 rfl (by decide) rfl ?_
      refine x_iconst (v := 1) C dL_ache_13 (by decide) ?_
      obtain rfl := Option.some.inj hf
      refine x_widen (k' := 1) (n' := 6) (Nat.le_of_ble_eq_true rfl) (Nat.le_of_ble_eq_true rfl) ?_
      exact x_iret C hr hlk dL_ache_14
    have hf := x_ine hc7 hf
    cases hf
/-! WaitingRoomSimulationLaw.waitingTime(LWaitingRoomSimulation;I[J)I -/
abbrev rm_L_waitingTime (c s : Nat) : Room := { frames := 10, cells := c, slots := s, locals := 242 }
def f_L_waitingTime (a2 : Int32) (M : xM) : Option (Int32 × xM) := (f_X6_waitingTime a2 M).bind fun q1 => x_case q1 (fun r3 => x_let (sJ M r3.toInt64) fun M5 => some ((0 : Int32), M5)) (fun E4 => if E4 = "java/lang/IndexOutOfBoundsException" then some ((1 : Int32), M) else none)
set_option maxHeartbeats 4000000 in
set_option maxRecDepth 100000 in
theorem t_L_waitingTime {l : Launch} {G : xG} {ta : Nat × Nat} {M : xM} {a2 : Int32} {out : Int32 × xM} (hfl : l.stackTraces = false) (hf : f_L_waitingTime a2 M = some out) : xMet G l yL_waitingTime wsL_waitingTime (rm_L_waitingTime 1 6) 1 6 ta M [.ref (xad G 0), .int a2, .ref (xad G 20)] (some (.int out.1)) out.2 := by
  refine x_metH (cc := cL_waitingTime) (nL := 4) (ret := some .int) (hh := [(0, 9, 12, 21)]) (by decide) rfl (Nat.le_of_ble_eq_true rfl) ?_
  intro p e s m args below meth c C hr hlk htb
  have C : xC G p s m args c cL_waitingTime 4 wsL_waitingTime RL := C
  unfold f_L_waitingTime at hf
  show xW G p l e (rm_L_waitingTime 1 6) s m args below meth c 4 (MQ below (xQr G (some (.int out.1)) out.2) args s 1 6 (xAs G)) 0 0 ta M 0 [(0, .ref (xad G 0)), (1, .int a2), (2, .ref (xad G 20))] []
  refine x_aload_n C 2 dL_waitingTime_0 rfl ?_
  refine x_iconst (v := 0) C dL_waitingTime_1 (by decide) ?_
  refine x_aload_n C 0 dL_waitingTime_2 rfl ?_
  refine x_iload_n C 1 dL_waitingTime_3 rfl ?_
  obtain ⟨q1, hg, hf⟩ := x_bd hf
  rcases q1 with r3 | E4
  · have hf := x_ci hf
    refine x_callVXr (w := .int r3) (mc := 0) (ms := 0) C (by rw [xkd_0]; decide) (by rw [xkd_0]; decide) (xc8 xkd_0) rfl (t_X6_waitingTime hfl hg) (cwV 1 C.1.2.2.2.2 gL_waitingTime_X6_waitingTime rfl rfl rfl (by decide +kernel) ⟨Nat.le_of_ble_eq_true rfl, Nat.le_of_ble_eq_true rfl⟩) rfl rfl (Nat.le_of_ble_eq_true rfl) dL_waitingTime_4 ⟨Nat.zero_le _, Nat.zero_le _⟩ (fun ta2 => ?_)
    clear hg
    refine x_i2l (v := r3.toInt64) C dL_waitingTime_7 rfl ?_
    refine x_last C dL_waitingTime_8 ?_
    obtain ⟨M5, e6, hf⟩ := x_lt hf
    rw [← e6]
    clear e6
    refine x_goto C 15 dL_waitingTime_9 (by decide) ?_
    refine x_iconst (v := 0) C dL_waitingTime_15 (by decide) ?_
    obtain rfl := Option.some.inj hf
    refine x_widen (k' := 1) (n' := 6) (Nat.le_of_ble_eq_true rfl) (Nat.le_of_ble_eq_true rfl) ?_
    exact x_iret C hr hlk dL_waitingTime_16
  · have hf := x_cx hf
    refine x_callVXt (mc := 1) (ms := 6) C (by rw [xkd_0]; decide) (by rw [xkd_0]; decide) (xc8 xkd_0) rfl (t_X6_waitingTime hfl hg) (cwV 1 C.1.2.2.2.2 gL_waitingTime_X6_waitingTime rfl rfl rfl (by decide +kernel) ⟨Nat.le_of_ble_eq_true rfl, Nat.le_of_ble_eq_true rfl⟩) rfl rfl (Nat.le_of_ble_eq_true rfl) dL_waitingTime_4 ⟨Nat.le_of_ble_eq_true rfl, Nat.le_of_ble_eq_true rfl⟩ (fun ta2 => ?_)
    rcases Decidable.em (E4 = "java/lang/IndexOutOfBoundsException") with hc7 | hc7
    · have hf := x_ip hc7 hf
      subst hc7
      refine x_catch C htb 0 [] (name := "java/lang/IndexOutOfBoundsException") rfl (by decide) (by decide) (by decide +kernel) (by decide) (by decide +kernel) (fun x8 => ?_)
      refine x_astore_n (lv' := [(3, .ref x8), (0, .ref (xad G 0)), (1, .int a2), (2, .ref (xad G 20))]) C dL_waitingTime_12 rfl (by decide) rfl ?_
      refine x_iconst (v := 1) C dL_waitingTime_13 (by decide) ?_
      obtain rfl := Option.some.inj hf
      refine x_widen (k' := 1) (n' := 6) (Nat.le_of_ble_eq_true rfl) (Nat.le_of_ble_eq_true rfl) ?_
      exact x_iret C hr hlk dL_waitingTime_14
    have hf := x_ine hc7 hf
    cases hf
/-! WaitingRoomSimulationLaw.isCalled(LWaitingRoomSimulation;I[J)I -/
abbrev rm_L_isCalled (c s : Nat) : Room := { frames := 10, cells := c, slots := s, locals := 242 }
def f_L_isCalled (a2 : Int32) (M : xM) : Option (Int32 × xM) := (f_X6_isCalled a2 M).bind fun q1 => x_case q1 (fun r3 => (if r3 = 0 then x_let (sJ M (0 : Int64)) fun M6 => some ((0 : Int32), M6) else x_let (sJ M (1 : Int64)) fun M8 => some ((0 : Int32), M8))) (fun E4 => if E4 = "java/lang/IndexOutOfBoundsException" then some ((1 : Int32), M) else none)
set_option maxHeartbeats 4000000 in
set_option maxRecDepth 100000 in
theorem t_L_isCalled {l : Launch} {G : xG} {ta : Nat × Nat} {M : xM} {a2 : Int32} {out : Int32 × xM} (hfl : l.stackTraces = false) (hf : f_L_isCalled a2 M = some out) : xMet G l yL_isCalled wsL_isCalled (rm_L_isCalled 1 6) 1 6 ta M [.ref (xad G 0), .int a2, .ref (xad G 20)] (some (.int out.1)) out.2 := by
  refine x_metH (cc := cL_isCalled) (nL := 4) (ret := some .int) (hh := [(0, 16, 19, 21)]) (by decide) rfl (Nat.le_of_ble_eq_true rfl) ?_
  intro p e s m args below meth c C hr hlk htb
  have C : xC G p s m args c cL_isCalled 4 wsL_isCalled RL := C
  unfold f_L_isCalled at hf
  show xW G p l e (rm_L_isCalled 1 6) s m args below meth c 4 (MQ below (xQr G (some (.int out.1)) out.2) args s 1 6 (xAs G)) 0 0 ta M 0 [(0, .ref (xad G 0)), (1, .int a2), (2, .ref (xad G 20))] []
  refine x_aload_n C 2 dL_isCalled_0 rfl ?_
  refine x_iconst (v := 0) C dL_isCalled_1 (by decide) ?_
  refine x_aload_n C 0 dL_isCalled_2 rfl ?_
  refine x_iload_n C 1 dL_isCalled_3 rfl ?_
  obtain ⟨q1, hg, hf⟩ := x_bd hf
  rcases q1 with r3 | E4
  · have hf := x_ci hf
    refine x_callVXr (w := .int r3) (mc := 0) (ms := 0) C (by rw [xkd_0]; decide) (by rw [xkd_0]; decide) (xc8 xkd_0) rfl (t_X6_isCalled hfl hg) (cwV 1 C.1.2.2.2.2 gL_isCalled_X6_isCalled rfl rfl rfl (by decide +kernel) ⟨Nat.le_of_ble_eq_true rfl, Nat.le_of_ble_eq_true rfl⟩) rfl rfl (Nat.le_of_ble_eq_true rfl) dL_isCalled_4 ⟨Nat.zero_le _, Nat.zero_le _⟩ (fun ta2 => ?_)
    clear hg
    refine x_if_eq C 14 dL_isCalled_7 (by decide) (fun hc5 => ?_) (fun hc5 => ?_)
    · have hf := x_ip hc5 hf
      refine x_lconst (v := 0) C dL_isCalled_14 (by decide) ?_
      refine x_last C dL_isCalled_15 ?_
      obtain ⟨M6, e7, hf⟩ := x_lt hf
      rw [← e7]
      clear e7
      refine x_goto C 22 dL_isCalled_16 (by decide) ?_
      refine x_iconst (v := 0) C dL_isCalled_22 (by decide) ?_
      obtain rfl := Option.some.inj hf
      refine x_widen (k' := 1) (n' := 6) (Nat.le_of_ble_eq_true rfl) (Nat.le_of_ble_eq_true rfl) ?_
      exact x_iret C hr hlk dL_isCalled_23
    · have hf := x_ine hc5 hf
      refine x_lconst (v := 1) C dL_isCalled_10 (by decide) ?_
      refine x_goto C 15 dL_isCalled_11 (by decide) ?_
      refine x_last C dL_isCalled_15 ?_
      obtain ⟨M8, e9, hf⟩ := x_lt hf
      rw [← e9]
      clear e9
      refine x_goto C 22 dL_isCalled_16 (by decide) ?_
      refine x_iconst (v := 0) C dL_isCalled_22 (by decide) ?_
      obtain rfl := Option.some.inj hf
      refine x_widen (k' := 1) (n' := 6) (Nat.le_of_ble_eq_true rfl) (Nat.le_of_ble_eq_true rfl) ?_
      exact x_iret C hr hlk dL_isCalled_23
  · have hf := x_cx hf
    refine x_callVXt (mc := 1) (ms := 6) C (by rw [xkd_0]; decide) (by rw [xkd_0]; decide) (xc8 xkd_0) rfl (t_X6_isCalled hfl hg) (cwV 1 C.1.2.2.2.2 gL_isCalled_X6_isCalled rfl rfl rfl (by decide +kernel) ⟨Nat.le_of_ble_eq_true rfl, Nat.le_of_ble_eq_true rfl⟩) rfl rfl (Nat.le_of_ble_eq_true rfl) dL_isCalled_4 ⟨Nat.le_of_ble_eq_true rfl, Nat.le_of_ble_eq_true rfl⟩ (fun ta2 => ?_)
    rcases Decidable.em (E4 = "java/lang/IndexOutOfBoundsException") with hc10 | hc10
    · have hf := x_ip hc10 hf
      subst hc10
      refine x_catch C htb 0 [] (name := "java/lang/IndexOutOfBoundsException") rfl (by decide) (by decide) (by decide +kernel) (by decide) (by decide +kernel) (fun x11 => ?_)
      refine x_astore_n (lv' := [(3, .ref x11), (0, .ref (xad G 0)), (1, .int a2), (2, .ref (xad G 20))]) C dL_isCalled_19 rfl (by decide) rfl ?_
      refine x_iconst (v := 1) C dL_isCalled_20 (by decide) ?_
      obtain rfl := Option.some.inj hf
      refine x_widen (k' := 1) (n' := 6) (Nat.le_of_ble_eq_true rfl) (Nat.le_of_ble_eq_true rfl) ?_
      exact x_iret C hr hlk dL_isCalled_21
    have hf := x_ine hc10 hf
    cases hf
/-! WaitingRoomSimulationLaw.isSitting(LWaitingRoomSimulation;I[J)I -/
abbrev rm_L_isSitting (c s : Nat) : Room := { frames := 10, cells := c, slots := s, locals := 242 }
def f_L_isSitting (a2 : Int32) (M : xM) : Option (Int32 × xM) := (f_X6_isSitting a2 M).bind fun q1 => x_case q1 (fun r3 => (if r3 = 0 then x_let (sJ M (0 : Int64)) fun M6 => some ((0 : Int32), M6) else x_let (sJ M (1 : Int64)) fun M8 => some ((0 : Int32), M8))) (fun E4 => if E4 = "java/lang/IndexOutOfBoundsException" then some ((1 : Int32), M) else none)
set_option maxHeartbeats 4000000 in
set_option maxRecDepth 100000 in
theorem t_L_isSitting {l : Launch} {G : xG} {ta : Nat × Nat} {M : xM} {a2 : Int32} {out : Int32 × xM} (hfl : l.stackTraces = false) (hf : f_L_isSitting a2 M = some out) : xMet G l yL_isSitting wsL_isSitting (rm_L_isSitting 1 6) 1 6 ta M [.ref (xad G 0), .int a2, .ref (xad G 20)] (some (.int out.1)) out.2 := by
  refine x_metH (cc := cL_isSitting) (nL := 4) (ret := some .int) (hh := [(0, 16, 19, 21)]) (by decide) rfl (Nat.le_of_ble_eq_true rfl) ?_
  intro p e s m args below meth c C hr hlk htb
  have C : xC G p s m args c cL_isSitting 4 wsL_isSitting RL := C
  unfold f_L_isSitting at hf
  show xW G p l e (rm_L_isSitting 1 6) s m args below meth c 4 (MQ below (xQr G (some (.int out.1)) out.2) args s 1 6 (xAs G)) 0 0 ta M 0 [(0, .ref (xad G 0)), (1, .int a2), (2, .ref (xad G 20))] []
  refine x_aload_n C 2 dL_isSitting_0 rfl ?_
  refine x_iconst (v := 0) C dL_isSitting_1 (by decide) ?_
  refine x_aload_n C 0 dL_isSitting_2 rfl ?_
  refine x_iload_n C 1 dL_isSitting_3 rfl ?_
  obtain ⟨q1, hg, hf⟩ := x_bd hf
  rcases q1 with r3 | E4
  · have hf := x_ci hf
    refine x_callVXr (w := .int r3) (mc := 0) (ms := 0) C (by rw [xkd_0]; decide) (by rw [xkd_0]; decide) (xc8 xkd_0) rfl (t_X6_isSitting hfl hg) (cwV 1 C.1.2.2.2.2 gL_isSitting_X6_isSitting rfl rfl rfl (by decide +kernel) ⟨Nat.le_of_ble_eq_true rfl, Nat.le_of_ble_eq_true rfl⟩) rfl rfl (Nat.le_of_ble_eq_true rfl) dL_isSitting_4 ⟨Nat.zero_le _, Nat.zero_le _⟩ (fun ta2 => ?_)
    clear hg
    refine x_if_eq C 14 dL_isSitting_7 (by decide) (fun hc5 => ?_) (fun hc5 => ?_)
    · have hf := x_ip hc5 hf
      refine x_lconst (v := 0) C dL_isSitting_14 (by decide) ?_
      refine x_last C dL_isSitting_15 ?_
      obtain ⟨M6, e7, hf⟩ := x_lt hf
      rw [← e7]
      clear e7
      refine x_goto C 22 dL_isSitting_16 (by decide) ?_
      refine x_iconst (v := 0) C dL_isSitting_22 (by decide) ?_
      obtain rfl := Option.some.inj hf
      refine x_widen (k' := 1) (n' := 6) (Nat.le_of_ble_eq_true rfl) (Nat.le_of_ble_eq_true rfl) ?_
      exact x_iret C hr hlk dL_isSitting_23
    · have hf := x_ine hc5 hf
      refine x_lconst (v := 1) C dL_isSitting_10 (by decide) ?_
      refine x_goto C 15 dL_isSitting_11 (by decide) ?_
      refine x_last C dL_isSitting_15 ?_
      obtain ⟨M8, e9, hf⟩ := x_lt hf
      rw [← e9]
      clear e9
      refine x_goto C 22 dL_isSitting_16 (by decide) ?_
      refine x_iconst (v := 0) C dL_isSitting_22 (by decide) ?_
      obtain rfl := Option.some.inj hf
      refine x_widen (k' := 1) (n' := 6) (Nat.le_of_ble_eq_true rfl) (Nat.le_of_ble_eq_true rfl) ?_
      exact x_iret C hr hlk dL_isSitting_23
  · have hf := x_cx hf
    refine x_callVXt (mc := 1) (ms := 6) C (by rw [xkd_0]; decide) (by rw [xkd_0]; decide) (xc8 xkd_0) rfl (t_X6_isSitting hfl hg) (cwV 1 C.1.2.2.2.2 gL_isSitting_X6_isSitting rfl rfl rfl (by decide +kernel) ⟨Nat.le_of_ble_eq_true rfl, Nat.le_of_ble_eq_true rfl⟩) rfl rfl (Nat.le_of_ble_eq_true rfl) dL_isSitting_4 ⟨Nat.le_of_ble_eq_true rfl, Nat.le_of_ble_eq_true rfl⟩ (fun ta2 => ?_)
    rcases Decidable.em (E4 = "java/lang/IndexOutOfBoundsException") with hc10 | hc10
    · have hf := x_ip hc10 hf
      subst hc10
      refine x_catch C htb 0 [] (name := "java/lang/IndexOutOfBoundsException") rfl (by decide) (by decide) (by decide +kernel) (by decide) (by decide +kernel) (fun x11 => ?_)
      refine x_astore_n (lv' := [(3, .ref x11), (0, .ref (xad G 0)), (1, .int a2), (2, .ref (xad G 20))]) C dL_isSitting_19 rfl (by decide) rfl ?_
      refine x_iconst (v := 1) C dL_isSitting_20 (by decide) ?_
      obtain rfl := Option.some.inj hf
      refine x_widen (k' := 1) (n' := 6) (Nat.le_of_ble_eq_true rfl) (Nat.le_of_ble_eq_true rfl) ?_
      exact x_iret C hr hlk dL_isSitting_21
    have hf := x_ine hc10 hf
    cases hf
/-! WaitingRoomSimulationLaw.position(LWaitingRoomSimulation;I[J)I -/
abbrev rm_L_position (c s : Nat) : Room := { frames := 10, cells := c, slots := s, locals := 243 }
def f_L_position (a2 : Int32) (M : xM) : Option (Int32 × xM) := (f_X6_position a2 M).bind fun q1 => x_case q1 (fun r3 => x_let (sJ M r3.toInt64) fun M5 => some ((0 : Int32), M5)) (fun E4 => if E4 = "java/lang/IndexOutOfBoundsException" then some ((1 : Int32), M) else if E4 = "java/util/NoSuchElementException" then some ((2 : Int32), M) else none)
set_option maxHeartbeats 4000000 in
set_option maxRecDepth 100000 in
theorem t_L_position {l : Launch} {G : xG} {ta : Nat × Nat} {M : xM} {a2 : Int32} {out : Int32 × xM} (hfl : l.stackTraces = false) (hf : f_L_position a2 M = some out) : xMet G l yL_position wsL_position (rm_L_position 1 6) 1 6 ta M [.ref (xad G 0), .int a2, .ref (xad G 20)] (some (.int out.1)) out.2 := by
  refine x_metH (cc := cL_position) (nL := 4) (ret := some .int) (hh := [(0, 9, 12, 21), (0, 9, 15, 30)]) (by decide) rfl (Nat.le_of_ble_eq_true rfl) ?_
  intro p e s m args below meth c C hr hlk htb
  have C : xC G p s m args c cL_position 4 wsL_position RL := C
  unfold f_L_position at hf
  show xW G p l e (rm_L_position 1 6) s m args below meth c 4 (MQ below (xQr G (some (.int out.1)) out.2) args s 1 6 (xAs G)) 0 0 ta M 0 [(0, .ref (xad G 0)), (1, .int a2), (2, .ref (xad G 20))] []
  refine x_aload_n C 2 dL_position_0 rfl ?_
  refine x_iconst (v := 0) C dL_position_1 (by decide) ?_
  refine x_aload_n C 0 dL_position_2 rfl ?_
  refine x_iload_n C 1 dL_position_3 rfl ?_
  obtain ⟨q1, hg, hf⟩ := x_bd hf
  rcases q1 with r3 | E4
  · have hf := x_ci hf
    refine x_callVXr (w := .int r3) (mc := 0) (ms := 0) C (by rw [xkd_0]; decide) (by rw [xkd_0]; decide) (xc8 xkd_0) rfl (t_X6_position hfl hg) (cwV 1 C.1.2.2.2.2 gL_position_X6_position rfl rfl rfl (by decide +kernel) ⟨Nat.le_of_ble_eq_true rfl, Nat.le_of_ble_eq_true rfl⟩) rfl rfl (Nat.le_of_ble_eq_true rfl) dL_position_4 ⟨Nat.zero_le _, Nat.zero_le _⟩ (fun ta2 => ?_)
    clear hg
    refine x_i2l (v := r3.toInt64) C dL_position_7 rfl ?_
    refine x_last C dL_position_8 ?_
    obtain ⟨M5, e6, hf⟩ := x_lt hf
    rw [← e6]
    clear e6
    refine x_goto C 18 dL_position_9 (by decide) ?_
    refine x_iconst (v := 0) C dL_position_18 (by decide) ?_
    obtain rfl := Option.some.inj hf
    refine x_widen (k' := 1) (n' := 6) (Nat.le_of_ble_eq_true rfl) (Nat.le_of_ble_eq_true rfl) ?_
    exact x_iret C hr hlk dL_position_19
  · have hf := x_cx hf
    refine x_callVXt (mc := 1) (ms := 6) C (by rw [xkd_0]; decide) (by rw [xkd_0]; decide) (xc8 xkd_0) rfl (t_X6_position hfl hg) (cwV 1 C.1.2.2.2.2 gL_position_X6_position rfl rfl rfl (by decide +kernel) ⟨Nat.le_of_ble_eq_true rfl, Nat.le_of_ble_eq_true rfl⟩) rfl rfl (Nat.le_of_ble_eq_true rfl) dL_position_4 ⟨Nat.le_of_ble_eq_true rfl, Nat.le_of_ble_eq_true rfl⟩ (fun ta2 => ?_)
    rcases Decidable.em (E4 = "java/lang/IndexOutOfBoundsException") with hc7 | hc7
    · have hf := x_ip hc7 hf
      subst hc7
      refine x_catch C htb 0 [] (name := "java/lang/IndexOutOfBoundsException") rfl (by decide) (by decide) (by decide +kernel) (by decide) (by decide +kernel) (fun x8 => ?_)
      refine x_astore_n (lv' := [(3, .ref x8), (0, .ref (xad G 0)), (1, .int a2), (2, .ref (xad G 20))]) C dL_position_12 rfl (by decide) rfl ?_
      refine x_iconst (v := 1) C dL_position_13 (by decide) ?_
      obtain rfl := Option.some.inj hf
      refine x_widen (k' := 1) (n' := 6) (Nat.le_of_ble_eq_true rfl) (Nat.le_of_ble_eq_true rfl) ?_
      exact x_iret C hr hlk dL_position_14
    have hf := x_ine hc7 hf
    rcases Decidable.em (E4 = "java/util/NoSuchElementException") with hc9 | hc9
    · have hf := x_ip hc9 hf
      subst hc9
      refine x_catch C htb 1 ["java/lang/IndexOutOfBoundsException"] (name := "java/util/NoSuchElementException") rfl (by decide) (by decide) (by decide +kernel) (by decide) (by decide +kernel) (fun x10 => ?_)
      refine x_astore_n (lv' := [(3, .ref x10), (0, .ref (xad G 0)), (1, .int a2), (2, .ref (xad G 20))]) C dL_position_15 rfl (by decide) rfl ?_
      refine x_iconst (v := 2) C dL_position_16 (by decide) ?_
      obtain rfl := Option.some.inj hf
      refine x_widen (k' := 1) (n' := 6) (Nat.le_of_ble_eq_true rfl) (Nat.le_of_ble_eq_true rfl) ?_
      exact x_iret C hr hlk dL_position_17
    have hf := x_ine hc9 hf
    cases hf
/-! WaitingRoomSimulationLaw.windowOfCustomer(LWaitingRoomSimulation;I[J)I -/
abbrev rm_L_windowOfCustomer (c s : Nat) : Room := { frames := 10, cells := c, slots := s, locals := 243 }
def f_L_windowOfCustomer (a2 : Int32) (M : xM) : Option (Int32 × xM) := (f_X6_windowOfCustomer a2 M).bind fun q1 => x_case q1 (fun r3 => x_let (sJ M r3.toInt64) fun M5 => some ((0 : Int32), M5)) (fun E4 => if E4 = "java/lang/IndexOutOfBoundsException" then some ((1 : Int32), M) else if E4 = "java/util/NoSuchElementException" then some ((2 : Int32), M) else none)
set_option maxHeartbeats 4000000 in
set_option maxRecDepth 100000 in
theorem t_L_windowOfCustomer {l : Launch} {G : xG} {ta : Nat × Nat} {M : xM} {a2 : Int32} {out : Int32 × xM} (hfl : l.stackTraces = false) (hf : f_L_windowOfCustomer a2 M = some out) : xMet G l yL_windowOfCustomer wsL_windowOfCustomer (rm_L_windowOfCustomer 1 6) 1 6 ta M [.ref (xad G 0), .int a2, .ref (xad G 20)] (some (.int out.1)) out.2 := by
  refine x_metH (cc := cL_windowOfCustomer) (nL := 4) (ret := some .int) (hh := [(0, 9, 12, 21), (0, 9, 15, 30)]) (by decide) rfl (Nat.le_of_ble_eq_true rfl) ?_
  intro p e s m args below meth c C hr hlk htb
  have C : xC G p s m args c cL_windowOfCustomer 4 wsL_windowOfCustomer RL := C
  unfold f_L_windowOfCustomer at hf
  show xW G p l e (rm_L_windowOfCustomer 1 6) s m args below meth c 4 (MQ below (xQr G (some (.int out.1)) out.2) args s 1 6 (xAs G)) 0 0 ta M 0 [(0, .ref (xad G 0)), (1, .int a2), (2, .ref (xad G 20))] []
  refine x_aload_n C 2 dL_windowOfCustomer_0 rfl ?_
  refine x_iconst (v := 0) C dL_windowOfCustomer_1 (by decide) ?_
  refine x_aload_n C 0 dL_windowOfCustomer_2 rfl ?_
  refine x_iload_n C 1 dL_windowOfCustomer_3 rfl ?_
  obtain ⟨q1, hg, hf⟩ := x_bd hf
  rcases q1 with r3 | E4
  · have hf := x_ci hf
    refine x_callVXr (w := .int r3) (mc := 0) (ms := 0) C (by rw [xkd_0]; decide) (by rw [xkd_0]; decide) (xc8 xkd_0) rfl (t_X6_windowOfCustomer hfl hg) (cwV 1 C.1.2.2.2.2 gL_windowOfCustomer_X6_windowOfCustomer rfl rfl rfl (by decide +kernel) ⟨Nat.le_of_ble_eq_true rfl, Nat.le_of_ble_eq_true rfl⟩) rfl rfl (Nat.le_of_ble_eq_true rfl) dL_windowOfCustomer_4 ⟨Nat.zero_le _, Nat.zero_le _⟩ (fun ta2 => ?_)
    clear hg
    refine x_i2l (v := r3.toInt64) C dL_windowOfCustomer_7 rfl ?_
    refine x_last C dL_windowOfCustomer_8 ?_
    obtain ⟨M5, e6, hf⟩ := x_lt hf
    rw [← e6]
    clear e6
    refine x_goto C 18 dL_windowOfCustomer_9 (by decide) ?_
    refine x_iconst (v := 0) C dL_windowOfCustomer_18 (by decide) ?_
    obtain rfl := Option.some.inj hf
    refine x_widen (k' := 1) (n' := 6) (Nat.le_of_ble_eq_true rfl) (Nat.le_of_ble_eq_true rfl) ?_
    exact x_iret C hr hlk dL_windowOfCustomer_19
  · have hf := x_cx hf
    refine x_callVXt (mc := 1) (ms := 6) C (by rw [xkd_0]; decide) (by rw [xkd_0]; decide) (xc8 xkd_0) rfl (t_X6_windowOfCustomer hfl hg) (cwV 1 C.1.2.2.2.2 gL_windowOfCustomer_X6_windowOfCustomer rfl rfl rfl (by decide +kernel) ⟨Nat.le_of_ble_eq_true rfl, Nat.le_of_ble_eq_true rfl⟩) rfl rfl (Nat.le_of_ble_eq_true rfl) dL_windowOfCustomer_4 ⟨Nat.le_of_ble_eq_true rfl, Nat.le_of_ble_eq_true rfl⟩ (fun ta2 => ?_)
    rcases Decidable.em (E4 = "java/lang/IndexOutOfBoundsException") with hc7 | hc7
    · have hf := x_ip hc7 hf
      subst hc7
      refine x_catch C htb 0 [] (name := "java/lang/IndexOutOfBoundsException") rfl (by decide) (by decide) (by decide +kernel) (by decide) (by decide +kernel) (fun x8 => ?_)
      refine x_astore_n (lv' := [(3, .ref x8), (0, .ref (xad G 0)), (1, .int a2), (2, .ref (xad G 20))]) C dL_windowOfCustomer_12 rfl (by decide) rfl ?_
      refine x_iconst (v := 1) C dL_windowOfCustomer_13 (by decide) ?_
      obtain rfl := Option.some.inj hf
      refine x_widen (k' := 1) (n' := 6) (Nat.le_of_ble_eq_true rfl) (Nat.le_of_ble_eq_true rfl) ?_
      exact x_iret C hr hlk dL_windowOfCustomer_14
    have hf := x_ine hc7 hf
    rcases Decidable.em (E4 = "java/util/NoSuchElementException") with hc9 | hc9
    · have hf := x_ip hc9 hf
      subst hc9
      refine x_catch C htb 1 ["java/lang/IndexOutOfBoundsException"] (name := "java/util/NoSuchElementException") rfl (by decide) (by decide) (by decide +kernel) (by decide) (by decide +kernel) (fun x10 => ?_)
      refine x_astore_n (lv' := [(3, .ref x10), (0, .ref (xad G 0)), (1, .int a2), (2, .ref (xad G 20))]) C dL_windowOfCustomer_15 rfl (by decide) rfl ?_
      refine x_iconst (v := 2) C dL_windowOfCustomer_16 (by decide) ?_
      obtain rfl := Option.some.inj hf
      refine x_widen (k' := 1) (n' := 6) (Nat.le_of_ble_eq_true rfl) (Nat.le_of_ble_eq_true rfl) ?_
      exact x_iret C hr hlk dL_windowOfCustomer_17
    have hf := x_ine hc9 hf
    cases hf
/-! WaitingRoomSimulationLaw.customerAtPosition(LWaitingRoomSimulation;I[J)I -/
abbrev rm_L_customerAtPosition (c s : Nat) : Room := { frames := 9, cells := c, slots := s, locals := 221 }
def f_L_customerAtPosition (a2 : Int32) (M : xM) : Option (Int32 × xM) := (f_X6_customerAtPosition a2 M).bind fun q1 => x_case q1 (fun r3 => x_let (sJ M r3.toInt64) fun M5 => some ((0 : Int32), M5)) (fun E4 => if E4 = "java/lang/IndexOutOfBoundsException" then some ((1 : Int32), M) else none)
set_option maxHeartbeats 4000000 in
set_option maxRecDepth 100000 in
theorem t_L_customerAtPosition {l : Launch} {G : xG} {ta : Nat × Nat} {M : xM} {a2 : Int32} {out : Int32 × xM} (hfl : l.stackTraces = false) (hf : f_L_customerAtPosition a2 M = some out) : xMet G l yL_customerAtPosition wsL_customerAtPosition (rm_L_customerAtPosition 1 6) 1 6 ta M [.ref (xad G 0), .int a2, .ref (xad G 20)] (some (.int out.1)) out.2 := by
  refine x_metH (cc := cL_customerAtPosition) (nL := 4) (ret := some .int) (hh := [(0, 9, 12, 21)]) (by decide) rfl (Nat.le_of_ble_eq_true rfl) ?_
  intro p e s m args below meth c C hr hlk htb
  have C : xC G p s m args c cL_customerAtPosition 4 wsL_customerAtPosition RL := C
  unfold f_L_customerAtPosition at hf
  show xW G p l e (rm_L_customerAtPosition 1 6) s m args below meth c 4 (MQ below (xQr G (some (.int out.1)) out.2) args s 1 6 (xAs G)) 0 0 ta M 0 [(0, .ref (xad G 0)), (1, .int a2), (2, .ref (xad G 20))] []
  refine x_aload_n C 2 dL_customerAtPosition_0 rfl ?_
  refine x_iconst (v := 0) C dL_customerAtPosition_1 (by decide) ?_
  refine x_aload_n C 0 dL_customerAtPosition_2 rfl ?_
  refine x_iload_n C 1 dL_customerAtPosition_3 rfl ?_
  obtain ⟨q1, hg, hf⟩ := x_bd hf
  rcases q1 with r3 | E4
  · have hf := x_ci hf
    refine x_callVXr (w := .int r3) (mc := 0) (ms := 0) C (by rw [xkd_0]; decide) (by rw [xkd_0]; decide) (xc8 xkd_0) rfl (t_X6_customerAtPosition hfl hg) (cwV 1 C.1.2.2.2.2 gL_customerAtPosition_X6_customerAtPosition rfl rfl rfl (by decide +kernel) ⟨Nat.le_of_ble_eq_true rfl, Nat.le_of_ble_eq_true rfl⟩) rfl rfl (Nat.le_of_ble_eq_true rfl) dL_customerAtPosition_4 ⟨Nat.zero_le _, Nat.zero_le _⟩ (fun ta2 => ?_)
    clear hg
    refine x_i2l (v := r3.toInt64) C dL_customerAtPosition_7 rfl ?_
    refine x_last C dL_customerAtPosition_8 ?_
    obtain ⟨M5, e6, hf⟩ := x_lt hf
    rw [← e6]
    clear e6
    refine x_goto C 15 dL_customerAtPosition_9 (by decide) ?_
    refine x_iconst (v := 0) C dL_customerAtPosition_15 (by decide) ?_
    obtain rfl := Option.some.inj hf
    refine x_widen (k' := 1) (n' := 6) (Nat.le_of_ble_eq_true rfl) (Nat.le_of_ble_eq_true rfl) ?_
    exact x_iret C hr hlk dL_customerAtPosition_16
  · have hf := x_cx hf
    refine x_callVXt (mc := 1) (ms := 6) C (by rw [xkd_0]; decide) (by rw [xkd_0]; decide) (xc8 xkd_0) rfl (t_X6_customerAtPosition hfl hg) (cwV 1 C.1.2.2.2.2 gL_customerAtPosition_X6_customerAtPosition rfl rfl rfl (by decide +kernel) ⟨Nat.le_of_ble_eq_true rfl, Nat.le_of_ble_eq_true rfl⟩) rfl rfl (Nat.le_of_ble_eq_true rfl) dL_customerAtPosition_4 ⟨Nat.le_of_ble_eq_true rfl, Nat.le_of_ble_eq_true rfl⟩ (fun ta2 => ?_)
    rcases Decidable.em (E4 = "java/lang/IndexOutOfBoundsException") with hc7 | hc7
    · have hf := x_ip hc7 hf
      subst hc7
      refine x_catch C htb 0 [] (name := "java/lang/IndexOutOfBoundsException") rfl (by decide) (by decide) (by decide +kernel) (by decide) (by decide +kernel) (fun x8 => ?_)
      refine x_astore_n (lv' := [(3, .ref x8), (0, .ref (xad G 0)), (1, .int a2), (2, .ref (xad G 20))]) C dL_customerAtPosition_12 rfl (by decide) rfl ?_
      refine x_iconst (v := 1) C dL_customerAtPosition_13 (by decide) ?_
      obtain rfl := Option.some.inj hf
      refine x_widen (k' := 1) (n' := 6) (Nat.le_of_ble_eq_true rfl) (Nat.le_of_ble_eq_true rfl) ?_
      exact x_iret C hr hlk dL_customerAtPosition_14
    have hf := x_ine hc7 hf
    cases hf
/-! WaitingRoomSimulationLaw.openingTimeLeft(LWaitingRoomSimulation;I[J)I -/
abbrev rm_L_openingTimeLeft (c s : Nat) : Room := { frames := 10, cells := c, slots := s, locals := 241 }
def f_L_openingTimeLeft (a2 : Int32) (M : xM) : Option (Int32 × xM) := (f_X6_openingTimeLeft a2 M).bind fun q1 => x_case q1 (fun r3 => x_let (sJ M r3.toInt64) fun M5 => some ((0 : Int32), M5)) (fun E4 => if E4 = "java/lang/IndexOutOfBoundsException" then some ((1 : Int32), M) else none)
set_option maxHeartbeats 4000000 in
set_option maxRecDepth 100000 in
theorem t_L_openingTimeLeft {l : Launch} {G : xG} {ta : Nat × Nat} {M : xM} {a2 : Int32} {out : Int32 × xM} (hfl : l.stackTraces = false) (hf : f_L_openingTimeLeft a2 M = some out) : xMet G l yL_openingTimeLeft wsL_openingTimeLeft (rm_L_openingTimeLeft 1 6) 1 6 ta M [.ref (xad G 0), .int a2, .ref (xad G 20)] (some (.int out.1)) out.2 := by
  refine x_metH (cc := cL_openingTimeLeft) (nL := 4) (ret := some .int) (hh := [(0, 9, 12, 21)]) (by decide) rfl (Nat.le_of_ble_eq_true rfl) ?_
  intro p e s m args below meth c C hr hlk htb
  have C : xC G p s m args c cL_openingTimeLeft 4 wsL_openingTimeLeft RL := C
  unfold f_L_openingTimeLeft at hf
  show xW G p l e (rm_L_openingTimeLeft 1 6) s m args below meth c 4 (MQ below (xQr G (some (.int out.1)) out.2) args s 1 6 (xAs G)) 0 0 ta M 0 [(0, .ref (xad G 0)), (1, .int a2), (2, .ref (xad G 20))] []
  refine x_aload_n C 2 dL_openingTimeLeft_0 rfl ?_
  refine x_iconst (v := 0) C dL_openingTimeLeft_1 (by decide) ?_
  refine x_aload_n C 0 dL_openingTimeLeft_2 rfl ?_
  refine x_iload_n C 1 dL_openingTimeLeft_3 rfl ?_
  obtain ⟨q1, hg, hf⟩ := x_bd hf
  rcases q1 with r3 | E4
  · have hf := x_ci hf
    refine x_callVXr (w := .int r3) (mc := 0) (ms := 0) C (by rw [xkd_0]; decide) (by rw [xkd_0]; decide) (xc8 xkd_0) rfl (t_X6_openingTimeLeft hfl hg) (cwV 1 C.1.2.2.2.2 gL_openingTimeLeft_X6_openingTimeLeft rfl rfl rfl (by decide +kernel) ⟨Nat.le_of_ble_eq_true rfl, Nat.le_of_ble_eq_true rfl⟩) rfl rfl (Nat.le_of_ble_eq_true rfl) dL_openingTimeLeft_4 ⟨Nat.zero_le _, Nat.zero_le _⟩ (fun ta2 => ?_)
    clear hg
    refine x_i2l (v := r3.toInt64) C dL_openingTimeLeft_7 rfl ?_
    refine x_last C dL_openingTimeLeft_8 ?_
    obtain ⟨M5, e6, hf⟩ := x_lt hf
    rw [← e6]
    clear e6
    refine x_goto C 15 dL_openingTimeLeft_9 (by decide) ?_
    refine x_iconst (v := 0) C dL_openingTimeLeft_15 (by decide) ?_
    obtain rfl := Option.some.inj hf
    refine x_widen (k' := 1) (n' := 6) (Nat.le_of_ble_eq_true rfl) (Nat.le_of_ble_eq_true rfl) ?_
    exact x_iret C hr hlk dL_openingTimeLeft_16
  · have hf := x_cx hf
    refine x_callVXt (mc := 1) (ms := 6) C (by rw [xkd_0]; decide) (by rw [xkd_0]; decide) (xc8 xkd_0) rfl (t_X6_openingTimeLeft hfl hg) (cwV 1 C.1.2.2.2.2 gL_openingTimeLeft_X6_openingTimeLeft rfl rfl rfl (by decide +kernel) ⟨Nat.le_of_ble_eq_true rfl, Nat.le_of_ble_eq_true rfl⟩) rfl rfl (Nat.le_of_ble_eq_true rfl) dL_openingTimeLeft_4 ⟨Nat.le_of_ble_eq_true rfl, Nat.le_of_ble_eq_true rfl⟩ (fun ta2 => ?_)
    rcases Decidable.em (E4 = "java/lang/IndexOutOfBoundsException") with hc7 | hc7
    · have hf := x_ip hc7 hf
      subst hc7
      refine x_catch C htb 0 [] (name := "java/lang/IndexOutOfBoundsException") rfl (by decide) (by decide) (by decide +kernel) (by decide) (by decide +kernel) (fun x8 => ?_)
      refine x_astore_n (lv' := [(3, .ref x8), (0, .ref (xad G 0)), (1, .int a2), (2, .ref (xad G 20))]) C dL_openingTimeLeft_12 rfl (by decide) rfl ?_
      refine x_iconst (v := 1) C dL_openingTimeLeft_13 (by decide) ?_
      obtain rfl := Option.some.inj hf
      refine x_widen (k' := 1) (n' := 6) (Nat.le_of_ble_eq_true rfl) (Nat.le_of_ble_eq_true rfl) ?_
      exact x_iret C hr hlk dL_openingTimeLeft_14
    have hf := x_ine hc7 hf
    cases hf
/-! WaitingRoomSimulationLaw.pace(LWaitingRoomSimulation;I[J)I -/
abbrev rm_L_pace (c s : Nat) : Room := { frames := 10, cells := c, slots := s, locals := 241 }
def f_L_pace (a2 : Int32) (M : xM) : Option (Int32 × xM) := (f_X6_pace a2 M).bind fun q1 => x_case q1 (fun r3 => x_let (sJ M r3.toInt64) fun M5 => some ((0 : Int32), M5)) (fun E4 => if E4 = "java/lang/IndexOutOfBoundsException" then some ((1 : Int32), M) else if E4 = "java/lang/IllegalStateException" then some ((2 : Int32), M) else none)
set_option maxHeartbeats 4000000 in
set_option maxRecDepth 100000 in
theorem t_L_pace {l : Launch} {G : xG} {ta : Nat × Nat} {M : xM} {a2 : Int32} {out : Int32 × xM} (hfl : l.stackTraces = false) (hf : f_L_pace a2 M = some out) : xMet G l yL_pace wsL_pace (rm_L_pace 1 6) 1 6 ta M [.ref (xad G 0), .int a2, .ref (xad G 20)] (some (.int out.1)) out.2 := by
  refine x_metH (cc := cL_pace) (nL := 4) (ret := some .int) (hh := [(0, 9, 12, 21), (0, 9, 15, 15)]) (by decide) rfl (Nat.le_of_ble_eq_true rfl) ?_
  intro p e s m args below meth c C hr hlk htb
  have C : xC G p s m args c cL_pace 4 wsL_pace RL := C
  unfold f_L_pace at hf
  show xW G p l e (rm_L_pace 1 6) s m args below meth c 4 (MQ below (xQr G (some (.int out.1)) out.2) args s 1 6 (xAs G)) 0 0 ta M 0 [(0, .ref (xad G 0)), (1, .int a2), (2, .ref (xad G 20))] []
  refine x_aload_n C 2 dL_pace_0 rfl ?_
  refine x_iconst (v := 0) C dL_pace_1 (by decide) ?_
  refine x_aload_n C 0 dL_pace_2 rfl ?_
  refine x_iload_n C 1 dL_pace_3 rfl ?_
  obtain ⟨q1, hg, hf⟩ := x_bd hf
  rcases q1 with r3 | E4
  · have hf := x_ci hf
    refine x_callVXr (w := .int r3) (mc := 0) (ms := 0) C (by rw [xkd_0]; decide) (by rw [xkd_0]; decide) (xc8 xkd_0) rfl (t_X6_pace hfl hg) (cwV 1 C.1.2.2.2.2 gL_pace_X6_pace rfl rfl rfl (by decide +kernel) ⟨Nat.le_of_ble_eq_true rfl, Nat.le_of_ble_eq_true rfl⟩) rfl rfl (Nat.le_of_ble_eq_true rfl) dL_pace_4 ⟨Nat.zero_le _, Nat.zero_le _⟩ (fun ta2 => ?_)
    clear hg
    refine x_i2l (v := r3.toInt64) C dL_pace_7 rfl ?_
    refine x_last C dL_pace_8 ?_
    obtain ⟨M5, e6, hf⟩ := x_lt hf
    rw [← e6]
    clear e6
    refine x_goto C 18 dL_pace_9 (by decide) ?_
    refine x_iconst (v := 0) C dL_pace_18 (by decide) ?_
    obtain rfl := Option.some.inj hf
    refine x_widen (k' := 1) (n' := 6) (Nat.le_of_ble_eq_true rfl) (Nat.le_of_ble_eq_true rfl) ?_
    exact x_iret C hr hlk dL_pace_19
  · have hf := x_cx hf
    refine x_callVXt (mc := 1) (ms := 6) C (by rw [xkd_0]; decide) (by rw [xkd_0]; decide) (xc8 xkd_0) rfl (t_X6_pace hfl hg) (cwV 1 C.1.2.2.2.2 gL_pace_X6_pace rfl rfl rfl (by decide +kernel) ⟨Nat.le_of_ble_eq_true rfl, Nat.le_of_ble_eq_true rfl⟩) rfl rfl (Nat.le_of_ble_eq_true rfl) dL_pace_4 ⟨Nat.le_of_ble_eq_true rfl, Nat.le_of_ble_eq_true rfl⟩ (fun ta2 => ?_)
    rcases Decidable.em (E4 = "java/lang/IndexOutOfBoundsException") with hc7 | hc7
    · have hf := x_ip hc7 hf
      subst hc7
      refine x_catch C htb 0 [] (name := "java/lang/IndexOutOfBoundsException") rfl (by decide) (by decide) (by decide +kernel) (by decide) (by decide +kernel) (fun x8 => ?_)
      refine x_astore_n (lv' := [(3, .ref x8), (0, .ref (xad G 0)), (1, .int a2), (2, .ref (xad G 20))]) C dL_pace_12 rfl (by decide) rfl ?_
      refine x_iconst (v := 1) C dL_pace_13 (by decide) ?_
      obtain rfl := Option.some.inj hf
      refine x_widen (k' := 1) (n' := 6) (Nat.le_of_ble_eq_true rfl) (Nat.le_of_ble_eq_true rfl) ?_
      exact x_iret C hr hlk dL_pace_14
    have hf := x_ine hc7 hf
    rcases Decidable.em (E4 = "java/lang/IllegalStateException") with hc9 | hc9
    · have hf := x_ip hc9 hf
      subst hc9
      refine x_catch C htb 1 ["java/lang/IndexOutOfBoundsException"] (name := "java/lang/IllegalStateException") rfl (by decide) (by decide) (by decide +kernel) (by decide) (by decide +kernel) (fun x10 => ?_)
      refine x_astore_n (lv' := [(3, .ref x10), (0, .ref (xad G 0)), (1, .int a2), (2, .ref (xad G 20))]) C dL_pace_15 rfl (by decide) rfl ?_
      refine x_iconst (v := 2) C dL_pace_16 (by decide) ?_
      obtain rfl := Option.some.inj hf
      refine x_widen (k' := 1) (n' := 6) (Nat.le_of_ble_eq_true rfl) (Nat.le_of_ble_eq_true rfl) ?_
      exact x_iret C hr hlk dL_pace_17
    have hf := x_ine hc9 hf
    cases hf
/-! WaitingRoomSimulationLaw.customerAtWindow(LWaitingRoomSimulation;I[J)I -/
abbrev rm_L_customerAtWindow (c s : Nat) : Room := { frames := 10, cells := c, slots := s, locals := 242 }
def f_L_customerAtWindow (a2 : Int32) (M : xM) : Option (Int32 × xM) := (f_X6_customerAtWindow a2 M).bind fun q1 => x_case q1 (fun r3 => x_let (sJ M r3.toInt64) fun M5 => some ((0 : Int32), M5)) (fun E4 => if E4 = "java/lang/IndexOutOfBoundsException" then some ((1 : Int32), M) else if E4 = "java/util/NoSuchElementException" then some ((2 : Int32), M) else none)
set_option maxHeartbeats 4000000 in
set_option maxRecDepth 100000 in
theorem t_L_customerAtWindow {l : Launch} {G : xG} {ta : Nat × Nat} {M : xM} {a2 : Int32} {out : Int32 × xM} (hfl : l.stackTraces = false) (hf : f_L_customerAtWindow a2 M = some out) : xMet G l yL_customerAtWindow wsL_customerAtWindow (rm_L_customerAtWindow 1 6) 1 6 ta M [.ref (xad G 0), .int a2, .ref (xad G 20)] (some (.int out.1)) out.2 := by
  refine x_metH (cc := cL_customerAtWindow) (nL := 4) (ret := some .int) (hh := [(0, 9, 12, 21), (0, 9, 15, 30)]) (by decide) rfl (Nat.le_of_ble_eq_true rfl) ?_
  intro p e s m args below meth c C hr hlk htb
  have C : xC G p s m args c cL_customerAtWindow 4 wsL_customerAtWindow RL := C
  unfold f_L_customerAtWindow at hf
  show xW G p l e (rm_L_customerAtWindow 1 6) s m args below meth c 4 (MQ below (xQr G (some (.int out.1)) out.2) args s 1 6 (xAs G)) 0 0 ta M 0 [(0, .ref (xad G 0)), (1, .int a2), (2, .ref (xad G 20))] []
  refine x_aload_n C 2 dL_customerAtWindow_0 rfl ?_
  refine x_iconst (v := 0) C dL_customerAtWindow_1 (by decide) ?_
  refine x_aload_n C 0 dL_customerAtWindow_2 rfl ?_
  refine x_iload_n C 1 dL_customerAtWindow_3 rfl ?_
  obtain ⟨q1, hg, hf⟩ := x_bd hf
  rcases q1 with r3 | E4
  · have hf := x_ci hf
    refine x_callVXr (w := .int r3) (mc := 0) (ms := 0) C (by rw [xkd_0]; decide) (by rw [xkd_0]; decide) (xc8 xkd_0) rfl (t_X6_customerAtWindow hfl hg) (cwV 1 C.1.2.2.2.2 gL_customerAtWindow_X6_customerAtWindow rfl rfl rfl (by decide +kernel) ⟨Nat.le_of_ble_eq_true rfl, Nat.le_of_ble_eq_true rfl⟩) rfl rfl (Nat.le_of_ble_eq_true rfl) dL_customerAtWindow_4 ⟨Nat.zero_le _, Nat.zero_le _⟩ (fun ta2 => ?_)
    clear hg
    refine x_i2l (v := r3.toInt64) C dL_customerAtWindow_7 rfl ?_
    refine x_last C dL_customerAtWindow_8 ?_
    obtain ⟨M5, e6, hf⟩ := x_lt hf
    rw [← e6]
    clear e6
    refine x_goto C 18 dL_customerAtWindow_9 (by decide) ?_
    refine x_iconst (v := 0) C dL_customerAtWindow_18 (by decide) ?_
    obtain rfl := Option.some.inj hf
    refine x_widen (k' := 1) (n' := 6) (Nat.le_of_ble_eq_true rfl) (Nat.le_of_ble_eq_true rfl) ?_
    exact x_iret C hr hlk dL_customerAtWindow_19
  · have hf := x_cx hf
    refine x_callVXt (mc := 1) (ms := 6) C (by rw [xkd_0]; decide) (by rw [xkd_0]; decide) (xc8 xkd_0) rfl (t_X6_customerAtWindow hfl hg) (cwV 1 C.1.2.2.2.2 gL_customerAtWindow_X6_customerAtWindow rfl rfl rfl (by decide +kernel) ⟨Nat.le_of_ble_eq_true rfl, Nat.le_of_ble_eq_true rfl⟩) rfl rfl (Nat.le_of_ble_eq_true rfl) dL_customerAtWindow_4 ⟨Nat.le_of_ble_eq_true rfl, Nat.le_of_ble_eq_true rfl⟩ (fun ta2 => ?_)
    rcases Decidable.em (E4 = "java/lang/IndexOutOfBoundsException") with hc7 | hc7
    · have hf := x_ip hc7 hf
      subst hc7
      refine x_catch C htb 0 [] (name := "java/lang/IndexOutOfBoundsException") rfl (by decide) (by decide) (by decide +kernel) (by decide) (by decide +kernel) (fun x8 => ?_)
      refine x_astore_n (lv' := [(3, .ref x8), (0, .ref (xad G 0)), (1, .int a2), (2, .ref (xad G 20))]) C dL_customerAtWindow_12 rfl (by decide) rfl ?_
      refine x_iconst (v := 1) C dL_customerAtWindow_13 (by decide) ?_
      obtain rfl := Option.some.inj hf
      refine x_widen (k' := 1) (n' := 6) (Nat.le_of_ble_eq_true rfl) (Nat.le_of_ble_eq_true rfl) ?_
      exact x_iret C hr hlk dL_customerAtWindow_14
    have hf := x_ine hc7 hf
    rcases Decidable.em (E4 = "java/util/NoSuchElementException") with hc9 | hc9
    · have hf := x_ip hc9 hf
      subst hc9
      refine x_catch C htb 1 ["java/lang/IndexOutOfBoundsException"] (name := "java/util/NoSuchElementException") rfl (by decide) (by decide) (by decide +kernel) (by decide) (by decide +kernel) (fun x10 => ?_)
      refine x_astore_n (lv' := [(3, .ref x10), (0, .ref (xad G 0)), (1, .int a2), (2, .ref (xad G 20))]) C dL_customerAtWindow_15 rfl (by decide) rfl ?_
      refine x_iconst (v := 2) C dL_customerAtWindow_16 (by decide) ?_
      obtain rfl := Option.some.inj hf
      refine x_widen (k' := 1) (n' := 6) (Nat.le_of_ble_eq_true rfl) (Nat.le_of_ble_eq_true rfl) ?_
      exact x_iret C hr hlk dL_customerAtWindow_17
    have hf := x_ine hc9 hf
    cases hf
/-! WaitingRoomSimulationLaw.serviceTimeLeft(LWaitingRoomSimulation;I[J)I -/
abbrev rm_L_serviceTimeLeft (c s : Nat) : Room := { frames := 10, cells := c, slots := s, locals := 242 }
def f_L_serviceTimeLeft (a2 : Int32) (M : xM) : Option (Int32 × xM) := (f_X6_serviceTimeLeft a2 M).bind fun q1 => x_case q1 (fun r3 => x_let (sJ M r3.toInt64) fun M5 => some ((0 : Int32), M5)) (fun E4 => if E4 = "java/lang/IndexOutOfBoundsException" then some ((1 : Int32), M) else if E4 = "java/util/NoSuchElementException" then some ((2 : Int32), M) else none)
set_option maxHeartbeats 4000000 in
set_option maxRecDepth 100000 in
theorem t_L_serviceTimeLeft {l : Launch} {G : xG} {ta : Nat × Nat} {M : xM} {a2 : Int32} {out : Int32 × xM} (hfl : l.stackTraces = false) (hf : f_L_serviceTimeLeft a2 M = some out) : xMet G l yL_serviceTimeLeft wsL_serviceTimeLeft (rm_L_serviceTimeLeft 1 6) 1 6 ta M [.ref (xad G 0), .int a2, .ref (xad G 20)] (some (.int out.1)) out.2 := by
  refine x_metH (cc := cL_serviceTimeLeft) (nL := 4) (ret := some .int) (hh := [(0, 9, 12, 21), (0, 9, 15, 30)]) (by decide) rfl (Nat.le_of_ble_eq_true rfl) ?_
  intro p e s m args below meth c C hr hlk htb
  have C : xC G p s m args c cL_serviceTimeLeft 4 wsL_serviceTimeLeft RL := C
  unfold f_L_serviceTimeLeft at hf
  show xW G p l e (rm_L_serviceTimeLeft 1 6) s m args below meth c 4 (MQ below (xQr G (some (.int out.1)) out.2) args s 1 6 (xAs G)) 0 0 ta M 0 [(0, .ref (xad G 0)), (1, .int a2), (2, .ref (xad G 20))] []
  refine x_aload_n C 2 dL_serviceTimeLeft_0 rfl ?_
  refine x_iconst (v := 0) C dL_serviceTimeLeft_1 (by decide) ?_
  refine x_aload_n C 0 dL_serviceTimeLeft_2 rfl ?_
  refine x_iload_n C 1 dL_serviceTimeLeft_3 rfl ?_
  obtain ⟨q1, hg, hf⟩ := x_bd hf
  rcases q1 with r3 | E4
  · have hf := x_ci hf
    refine x_callVXr (w := .int r3) (mc := 0) (ms := 0) C (by rw [xkd_0]; decide) (by rw [xkd_0]; decide) (xc8 xkd_0) rfl (t_X6_serviceTimeLeft hfl hg) (cwV 1 C.1.2.2.2.2 gL_serviceTimeLeft_X6_serviceTimeLeft rfl rfl rfl (by decide +kernel) ⟨Nat.le_of_ble_eq_true rfl, Nat.le_of_ble_eq_true rfl⟩) rfl rfl (Nat.le_of_ble_eq_true rfl) dL_serviceTimeLeft_4 ⟨Nat.zero_le _, Nat.zero_le _⟩ (fun ta2 => ?_)
    clear hg
    refine x_i2l (v := r3.toInt64) C dL_serviceTimeLeft_7 rfl ?_
    refine x_last C dL_serviceTimeLeft_8 ?_
    obtain ⟨M5, e6, hf⟩ := x_lt hf
    rw [← e6]
    clear e6
    refine x_goto C 18 dL_serviceTimeLeft_9 (by decide) ?_
    refine x_iconst (v := 0) C dL_serviceTimeLeft_18 (by decide) ?_
    obtain rfl := Option.some.inj hf
    refine x_widen (k' := 1) (n' := 6) (Nat.le_of_ble_eq_true rfl) (Nat.le_of_ble_eq_true rfl) ?_
    exact x_iret C hr hlk dL_serviceTimeLeft_19
  · have hf := x_cx hf
    refine x_callVXt (mc := 1) (ms := 6) C (by rw [xkd_0]; decide) (by rw [xkd_0]; decide) (xc8 xkd_0) rfl (t_X6_serviceTimeLeft hfl hg) (cwV 1 C.1.2.2.2.2 gL_serviceTimeLeft_X6_serviceTimeLeft rfl rfl rfl (by decide +kernel) ⟨Nat.le_of_ble_eq_true rfl, Nat.le_of_ble_eq_true rfl⟩) rfl rfl (Nat.le_of_ble_eq_true rfl) dL_serviceTimeLeft_4 ⟨Nat.le_of_ble_eq_true rfl, Nat.le_of_ble_eq_true rfl⟩ (fun ta2 => ?_)
    rcases Decidable.em (E4 = "java/lang/IndexOutOfBoundsException") with hc7 | hc7
    · have hf := x_ip hc7 hf
      subst hc7
      refine x_catch C htb 0 [] (name := "java/lang/IndexOutOfBoundsException") rfl (by decide) (by decide) (by decide +kernel) (by decide) (by decide +kernel) (fun x8 => ?_)
      refine x_astore_n (lv' := [(3, .ref x8), (0, .ref (xad G 0)), (1, .int a2), (2, .ref (xad G 20))]) C dL_serviceTimeLeft_12 rfl (by decide) rfl ?_
      refine x_iconst (v := 1) C dL_serviceTimeLeft_13 (by decide) ?_
      obtain rfl := Option.some.inj hf
      refine x_widen (k' := 1) (n' := 6) (Nat.le_of_ble_eq_true rfl) (Nat.le_of_ble_eq_true rfl) ?_
      exact x_iret C hr hlk dL_serviceTimeLeft_14
    have hf := x_ine hc7 hf
    rcases Decidable.em (E4 = "java/util/NoSuchElementException") with hc9 | hc9
    · have hf := x_ip hc9 hf
      subst hc9
      refine x_catch C htb 1 ["java/lang/IndexOutOfBoundsException"] (name := "java/util/NoSuchElementException") rfl (by decide) (by decide) (by decide +kernel) (by decide) (by decide +kernel) (fun x10 => ?_)
      refine x_astore_n (lv' := [(3, .ref x10), (0, .ref (xad G 0)), (1, .int a2), (2, .ref (xad G 20))]) C dL_serviceTimeLeft_15 rfl (by decide) rfl ?_
      refine x_iconst (v := 2) C dL_serviceTimeLeft_16 (by decide) ?_
      obtain rfl := Option.some.inj hf
      refine x_widen (k' := 1) (n' := 6) (Nat.le_of_ble_eq_true rfl) (Nat.le_of_ble_eq_true rfl) ?_
      exact x_iret C hr hlk dL_serviceTimeLeft_17
    have hf := x_ine hc9 hf
    cases hf
/-! WaitingRoomSimulationLaw.calledAhead(LWaitingRoomSimulation;I[J)I -/
abbrev rm_L_calledAhead (c s : Nat) : Room := { frames := 10, cells := c, slots := s, locals := 244 }
def f_L_calledAhead (a2 : Int32) (M : xM) : Option (Int32 × xM) := (f_X6_calledAhead a2 M).bind fun q1 => x_case q1 (fun r3 => x_let (sJ M r3.toInt64) fun M5 => some ((0 : Int32), M5)) (fun E4 => if E4 = "java/lang/IndexOutOfBoundsException" then some ((1 : Int32), M) else none)
set_option maxHeartbeats 4000000 in
set_option maxRecDepth 100000 in
theorem t_L_calledAhead {l : Launch} {G : xG} {ta : Nat × Nat} {M : xM} {a2 : Int32} {out : Int32 × xM} (hfl : l.stackTraces = false) (hf : f_L_calledAhead a2 M = some out) : xMet G l yL_calledAhead wsL_calledAhead (rm_L_calledAhead 1 6) 1 6 ta M [.ref (xad G 0), .int a2, .ref (xad G 20)] (some (.int out.1)) out.2 := by
  refine x_metH (cc := cL_calledAhead) (nL := 4) (ret := some .int) (hh := [(0, 9, 12, 21)]) (by decide) rfl (Nat.le_of_ble_eq_true rfl) ?_
  intro p e s m args below meth c C hr hlk htb
  have C : xC G p s m args c cL_calledAhead 4 wsL_calledAhead RL := C
  unfold f_L_calledAhead at hf
  show xW G p l e (rm_L_calledAhead 1 6) s m args below meth c 4 (MQ below (xQr G (some (.int out.1)) out.2) args s 1 6 (xAs G)) 0 0 ta M 0 [(0, .ref (xad G 0)), (1, .int a2), (2, .ref (xad G 20))] []
  refine x_aload_n C 2 dL_calledAhead_0 rfl ?_
  refine x_iconst (v := 0) C dL_calledAhead_1 (by decide) ?_
  refine x_aload_n C 0 dL_calledAhead_2 rfl ?_
  refine x_iload_n C 1 dL_calledAhead_3 rfl ?_
  obtain ⟨q1, hg, hf⟩ := x_bd hf
  rcases q1 with r3 | E4
  · have hf := x_ci hf
    refine x_callVXr (w := .int r3) (mc := 0) (ms := 0) C (by rw [xkd_0]; decide) (by rw [xkd_0]; decide) (xc8 xkd_0) rfl (t_X6_calledAhead hfl hg) (cwV 1 C.1.2.2.2.2 gL_calledAhead_X6_calledAhead rfl rfl rfl (by decide +kernel) ⟨Nat.le_of_ble_eq_true rfl, Nat.le_of_ble_eq_true rfl⟩) rfl rfl (Nat.le_of_ble_eq_true rfl) dL_calledAhead_4 ⟨Nat.zero_le _, Nat.zero_le _⟩ (fun ta2 => ?_)
    clear hg
    refine x_i2l (v := r3.toInt64) C dL_calledAhead_7 rfl ?_
    refine x_last C dL_calledAhead_8 ?_
    obtain ⟨M5, e6, hf⟩ := x_lt hf
    rw [← e6]
    clear e6
    refine x_goto C 15 dL_calledAhead_9 (by decide) ?_
    refine x_iconst (v := 0) C dL_calledAhead_15 (by decide) ?_
    obtain rfl := Option.some.inj hf
    refine x_widen (k' := 1) (n' := 6) (Nat.le_of_ble_eq_true rfl) (Nat.le_of_ble_eq_true rfl) ?_
    exact x_iret C hr hlk dL_calledAhead_16
  · have hf := x_cx hf
    refine x_callVXt (mc := 1) (ms := 6) C (by rw [xkd_0]; decide) (by rw [xkd_0]; decide) (xc8 xkd_0) rfl (t_X6_calledAhead hfl hg) (cwV 1 C.1.2.2.2.2 gL_calledAhead_X6_calledAhead rfl rfl rfl (by decide +kernel) ⟨Nat.le_of_ble_eq_true rfl, Nat.le_of_ble_eq_true rfl⟩) rfl rfl (Nat.le_of_ble_eq_true rfl) dL_calledAhead_4 ⟨Nat.le_of_ble_eq_true rfl, Nat.le_of_ble_eq_true rfl⟩ (fun ta2 => ?_)
    rcases Decidable.em (E4 = "java/lang/IndexOutOfBoundsException") with hc7 | hc7
    · have hf := x_ip hc7 hf
      subst hc7
      refine x_catch C htb 0 [] (name := "java/lang/IndexOutOfBoundsException") rfl (by decide) (by decide) (by decide +kernel) (by decide) (by decide +kernel) (fun x8 => ?_)
      refine x_astore_n (lv' := [(3, .ref x8), (0, .ref (xad G 0)), (1, .int a2), (2, .ref (xad G 20))]) C dL_calledAhead_12 rfl (by decide) rfl ?_
      refine x_iconst (v := 1) C dL_calledAhead_13 (by decide) ?_
      obtain rfl := Option.some.inj hf
      refine x_widen (k' := 1) (n' := 6) (Nat.le_of_ble_eq_true rfl) (Nat.le_of_ble_eq_true rfl) ?_
      exact x_iret C hr hlk dL_calledAhead_14
    have hf := x_ine hc7 hf
    cases hf
/-! WaitingRoomSimulationLaw.calledAheadByPositions(LWaitingRoomSimulation;I[J)I -/
abbrev rm_L_calledAheadByPositions (c s : Nat) : Room := { frames := 10, cells := c, slots := s, locals := 246 }
def f_L_calledAheadByPositions (a2 : Int32) (M : xM) : Option (Int32 × xM) := (f_X6_calledAheadByPositions a2 M).bind fun q1 => x_case q1 (fun r3 => x_let (sJ M r3.toInt64) fun M5 => some ((0 : Int32), M5)) (fun E4 => if E4 = "java/lang/IndexOutOfBoundsException" then some ((1 : Int32), M) else none)
set_option maxHeartbeats 4000000 in
set_option maxRecDepth 100000 in
theorem t_L_calledAheadByPositions {l : Launch} {G : xG} {ta : Nat × Nat} {M : xM} {a2 : Int32} {out : Int32 × xM} (hfl : l.stackTraces = false) (hf : f_L_calledAheadByPositions a2 M = some out) : xMet G l yL_calledAheadByPositions wsL_calledAheadByPositions (rm_L_calledAheadByPositions 1 6) 1 6 ta M [.ref (xad G 0), .int a2, .ref (xad G 20)] (some (.int out.1)) out.2 := by
  refine x_metH (cc := cL_calledAheadByPositions) (nL := 4) (ret := some .int) (hh := [(0, 9, 12, 21)]) (by decide) rfl (Nat.le_of_ble_eq_true rfl) ?_
  intro p e s m args below meth c C hr hlk htb
  have C : xC G p s m args c cL_calledAheadByPositions 4 wsL_calledAheadByPositions RL := C
  unfold f_L_calledAheadByPositions at hf
  show xW G p l e (rm_L_calledAheadByPositions 1 6) s m args below meth c 4 (MQ below (xQr G (some (.int out.1)) out.2) args s 1 6 (xAs G)) 0 0 ta M 0 [(0, .ref (xad G 0)), (1, .int a2), (2, .ref (xad G 20))] []
  refine x_aload_n C 2 dL_calledAheadByPositions_0 rfl ?_
  refine x_iconst (v := 0) C dL_calledAheadByPositions_1 (by decide) ?_
  refine x_aload_n C 0 dL_calledAheadByPositions_2 rfl ?_
  refine x_iload_n C 1 dL_calledAheadByPositions_3 rfl ?_
  obtain ⟨q1, hg, hf⟩ := x_bd hf
  rcases q1 with r3 | E4
  · have hf := x_ci hf
    refine x_callVXr (w := .int r3) (mc := 0) (ms := 0) C (by rw [xkd_0]; decide) (by rw [xkd_0]; decide) (xc8 xkd_0) rfl (t_X6_calledAheadByPositions hfl hg) (cwV 1 C.1.2.2.2.2 gL_calledAheadByPositions_X6_calledAheadByPositions rfl rfl rfl (by decide +kernel) ⟨Nat.le_of_ble_eq_true rfl, Nat.le_of_ble_eq_true rfl⟩) rfl rfl (Nat.le_of_ble_eq_true rfl) dL_calledAheadByPositions_4 ⟨Nat.zero_le _, Nat.zero_le _⟩ (fun ta2 => ?_)
    clear hg
    refine x_i2l (v := r3.toInt64) C dL_calledAheadByPositions_7 rfl ?_
    refine x_last C dL_calledAheadByPositions_8 ?_
    obtain ⟨M5, e6, hf⟩ := x_lt hf
    rw [← e6]
    clear e6
    refine x_goto C 15 dL_calledAheadByPositions_9 (by decide) ?_
    refine x_iconst (v := 0) C dL_calledAheadByPositions_15 (by decide) ?_
    obtain rfl := Option.some.inj hf
    refine x_widen (k' := 1) (n' := 6) (Nat.le_of_ble_eq_true rfl) (Nat.le_of_ble_eq_true rfl) ?_
    exact x_iret C hr hlk dL_calledAheadByPositions_16
  · have hf := x_cx hf
    refine x_callVXt (mc := 1) (ms := 6) C (by rw [xkd_0]; decide) (by rw [xkd_0]; decide) (xc8 xkd_0) rfl (t_X6_calledAheadByPositions hfl hg) (cwV 1 C.1.2.2.2.2 gL_calledAheadByPositions_X6_calledAheadByPositions rfl rfl rfl (by decide +kernel) ⟨Nat.le_of_ble_eq_true rfl, Nat.le_of_ble_eq_true rfl⟩) rfl rfl (Nat.le_of_ble_eq_true rfl) dL_calledAheadByPositions_4 ⟨Nat.le_of_ble_eq_true rfl, Nat.le_of_ble_eq_true rfl⟩ (fun ta2 => ?_)
    rcases Decidable.em (E4 = "java/lang/IndexOutOfBoundsException") with hc7 | hc7
    · have hf := x_ip hc7 hf
      subst hc7
      refine x_catch C htb 0 [] (name := "java/lang/IndexOutOfBoundsException") rfl (by decide) (by decide) (by decide +kernel) (by decide) (by decide +kernel) (fun x8 => ?_)
      refine x_astore_n (lv' := [(3, .ref x8), (0, .ref (xad G 0)), (1, .int a2), (2, .ref (xad G 20))]) C dL_calledAheadByPositions_12 rfl (by decide) rfl ?_
      refine x_iconst (v := 1) C dL_calledAheadByPositions_13 (by decide) ?_
      obtain rfl := Option.some.inj hf
      refine x_widen (k' := 1) (n' := 6) (Nat.le_of_ble_eq_true rfl) (Nat.le_of_ble_eq_true rfl) ?_
      exact x_iret C hr hlk dL_calledAheadByPositions_14
    have hf := x_ine hc7 hf
    cases hf
/-! WaitingRoomSimulationLaw.minutesUntilWindow(LWaitingRoomSimulation;I[J)I -/
abbrev rm_L_minutesUntilWindow (c s : Nat) : Room := { frames := 10, cells := c, slots := s, locals := 243 }
def f_L_minutesUntilWindow (a2 : Int32) (M : xM) : Option (Int32 × xM) := (f_X6_minutesUntilWindow a2 M).bind fun q1 => x_case q1.1 (fun r3 => (fun (M5 : xM) => x_let (sJ M5 r3.toInt64) fun M6 => some ((0 : Int32), M6)) q1.2) (fun E4 => (fun (M5 : xM) => if E4 = "java/lang/IndexOutOfBoundsException" then some ((1 : Int32), M5) else if E4 = "java/util/NoSuchElementException" then some ((2 : Int32), M5) else none) q1.2)
set_option maxHeartbeats 4000000 in
set_option maxRecDepth 100000 in
theorem t_L_minutesUntilWindow {l : Launch} {G : xG} {ta : Nat × Nat} {M : xM} {a2 : Int32} {out : Int32 × xM} (hfl : l.stackTraces = false) (hf : f_L_minutesUntilWindow a2 M = some out) : xMet G l yL_minutesUntilWindow wsL_minutesUntilWindow (rm_L_minutesUntilWindow 1 6) 1 6 ta M [.ref (xad G 0), .int a2, .ref (xad G 20)] (some (.int out.1)) out.2 := by
  refine x_metH (cc := cL_minutesUntilWindow) (nL := 4) (ret := some .int) (hh := [(0, 9, 12, 21), (0, 9, 15, 30)]) (by decide) rfl (Nat.le_of_ble_eq_true rfl) ?_
  intro p e s m args below meth c C hr hlk htb
  have C : xC G p s m args c cL_minutesUntilWindow 4 wsL_minutesUntilWindow RL := C
  unfold f_L_minutesUntilWindow at hf
  show xW G p l e (rm_L_minutesUntilWindow 1 6) s m args below meth c 4 (MQ below (xQr G (some (.int out.1)) out.2) args s 1 6 (xAs G)) 0 0 ta M 0 [(0, .ref (xad G 0)), (1, .int a2), (2, .ref (xad G 20))] []
  refine x_aload_n C 2 dL_minutesUntilWindow_0 rfl ?_
  refine x_iconst (v := 0) C dL_minutesUntilWindow_1 (by decide) ?_
  refine x_aload_n C 0 dL_minutesUntilWindow_2 rfl ?_
  refine x_iload_n C 1 dL_minutesUntilWindow_3 rfl ?_
  obtain ⟨q1, hg, hf⟩ := x_bd hf
  rcases q1 with ⟨r3 | E4, M5⟩
  · have hf := x_ci hf
    refine x_callVXr (w := .int r3) (mc := 0) (ms := 0) C (by rw [xkd_0]; decide) (by rw [xkd_0]; decide) (xc8 xkd_0) rfl (t_X6_minutesUntilWindow hfl hg) (cwV 1 C.1.2.2.2.2 gL_minutesUntilWindow_X6_minutesUntilWindow rfl rfl rfl (by decide +kernel) ⟨Nat.le_of_ble_eq_true rfl, Nat.le_of_ble_eq_true rfl⟩) rfl rfl (Nat.le_of_ble_eq_true rfl) dL_minutesUntilWindow_4 ⟨Nat.zero_le _, Nat.zero_le _⟩ (fun ta2 => ?_)
    clear hg
    refine x_i2l (v := r3.toInt64) C dL_minutesUntilWindow_7 rfl ?_
    refine x_last C dL_minutesUntilWindow_8 ?_
    obtain ⟨M6, e7, hf⟩ := x_lt hf
    rw [← e7]
    clear e7
    refine x_goto C 18 dL_minutesUntilWindow_9 (by decide) ?_
    refine x_iconst (v := 0) C dL_minutesUntilWindow_18 (by decide) ?_
    obtain rfl := Option.some.inj hf
    refine x_widen (k' := 1) (n' := 6) (Nat.le_of_ble_eq_true rfl) (Nat.le_of_ble_eq_true rfl) ?_
    exact x_iret C hr hlk dL_minutesUntilWindow_19
  · have hf := x_cx hf
    refine x_callVXt (mc := 1) (ms := 6) C (by rw [xkd_0]; decide) (by rw [xkd_0]; decide) (xc8 xkd_0) rfl (t_X6_minutesUntilWindow hfl hg) (cwV 1 C.1.2.2.2.2 gL_minutesUntilWindow_X6_minutesUntilWindow rfl rfl rfl (by decide +kernel) ⟨Nat.le_of_ble_eq_true rfl, Nat.le_of_ble_eq_true rfl⟩) rfl rfl (Nat.le_of_ble_eq_true rfl) dL_minutesUntilWindow_4 ⟨Nat.le_of_ble_eq_true rfl, Nat.le_of_ble_eq_true rfl⟩ (fun ta2 => ?_)
    rcases Decidable.em (E4 = "java/lang/IndexOutOfBoundsException") with hc8 | hc8
    · have hf := x_ip hc8 hf
      subst hc8
      refine x_catch C htb 0 [] (name := "java/lang/IndexOutOfBoundsException") rfl (by decide) (by decide) (by decide +kernel) (by decide) (by decide +kernel) (fun x9 => ?_)
      refine x_astore_n (lv' := [(3, .ref x9), (0, .ref (xad G 0)), (1, .int a2), (2, .ref (xad G 20))]) C dL_minutesUntilWindow_12 rfl (by decide) rfl ?_
      refine x_iconst (v := 1) C dL_minutesUntilWindow_13 (by decide) ?_
      obtain rfl := Option.some.inj hf
      refine x_widen (k' := 1) (n' := 6) (Nat.le_of_ble_eq_true rfl) (Nat.le_of_ble_eq_true rfl) ?_
      exact x_iret C hr hlk dL_minutesUntilWindow_14
    have hf := x_ine hc8 hf
    rcases Decidable.em (E4 = "java/util/NoSuchElementException") with hc10 | hc10
    · have hf := x_ip hc10 hf
      subst hc10
      refine x_catch C htb 1 ["java/lang/IndexOutOfBoundsException"] (name := "java/util/NoSuchElementException") rfl (by decide) (by decide) (by decide +kernel) (by decide) (by decide +kernel) (fun x11 => ?_)
      refine x_astore_n (lv' := [(3, .ref x11), (0, .ref (xad G 0)), (1, .int a2), (2, .ref (xad G 20))]) C dL_minutesUntilWindow_15 rfl (by decide) rfl ?_
      refine x_iconst (v := 2) C dL_minutesUntilWindow_16 (by decide) ?_
      obtain rfl := Option.some.inj hf
      refine x_widen (k' := 1) (n' := 6) (Nat.le_of_ble_eq_true rfl) (Nat.le_of_ble_eq_true rfl) ?_
      exact x_iret C hr hlk dL_minutesUntilWindow_17
    have hf := x_ine hc10 hf
    cases hf
/-! WaitingRoomSimulationLaw.patienceAfter(LWaitingRoomSimulation;II[J)I -/
abbrev rm_L_patienceAfter (c s : Nat) : Room := { frames := 10, cells := c, slots := s, locals := 244 }
def f_L_patienceAfter (a2 : Int32) (a3 : Int32) (M : xM) : Option (Int32 × xM) := (f_X6_patienceAfter a2 a3 M).bind fun q1 => x_case q1.1 (fun r3 => (fun (M5 : xM) => x_let (sJ M5 r3.toInt64) fun M6 => some ((0 : Int32), M6)) q1.2) (fun E4 => (fun (M5 : xM) => if E4 = "java/lang/IndexOutOfBoundsException" then some ((1 : Int32), M5) else if E4 = "java/lang/IllegalArgumentException" then some ((2 : Int32), M5) else if E4 = "java/util/NoSuchElementException" then some ((3 : Int32), M5) else none) q1.2)
set_option maxHeartbeats 4000000 in
set_option maxRecDepth 100000 in
theorem t_L_patienceAfter {l : Launch} {G : xG} {ta : Nat × Nat} {M : xM} {a2 : Int32} {a3 : Int32} {out : Int32 × xM} (hfl : l.stackTraces = false) (hf : f_L_patienceAfter a2 a3 M = some out) : xMet G l yL_patienceAfter wsL_patienceAfter (rm_L_patienceAfter 1 6) 1 6 ta M [.ref (xad G 0), .int a2, .int a3, .ref (xad G 20)] (some (.int out.1)) out.2 := by
  refine x_metH (cc := cL_patienceAfter) (nL := 5) (ret := some .int) (hh := [(0, 10, 13, 21), (0, 10, 17, 13), (0, 10, 21, 30)]) (by decide) rfl (Nat.le_of_ble_eq_true rfl) ?_
  intro p e s m args below meth c C hr hlk htb
  have C : xC G p s m args c cL_patienceAfter 5 wsL_patienceAfter RL := C
  unfold f_L_patienceAfter at hf
  show xW G p l e (rm_L_patienceAfter 1 6) s m args below meth c 5 (MQ below (xQr G (some (.int out.1)) out.2) args s 1 6 (xAs G)) 0 0 ta M 0 [(0, .ref (xad G 0)), (1, .int a2), (2, .int a3), (3, .ref (xad G 20))] []
  refine x_aload_n C 3 dL_patienceAfter_0 rfl ?_
  refine x_iconst (v := 0) C dL_patienceAfter_1 (by decide) ?_
  refine x_aload_n C 0 dL_patienceAfter_2 rfl ?_
  refine x_iload_n C 1 dL_patienceAfter_3 rfl ?_
  refine x_iload_n C 2 dL_patienceAfter_4 rfl ?_
  obtain ⟨q1, hg, hf⟩ := x_bd hf
  rcases q1 with ⟨r3 | E4, M5⟩
  · have hf := x_ci hf
    refine x_callVXr (w := .int r3) (mc := 0) (ms := 0) C (by rw [xkd_0]; decide) (by rw [xkd_0]; decide) (xc8 xkd_0) rfl (t_X6_patienceAfter hfl hg) (cwV 2 C.1.2.2.2.2 gL_patienceAfter_X6_patienceAfter rfl rfl rfl (by decide +kernel) ⟨Nat.le_of_ble_eq_true rfl, Nat.le_of_ble_eq_true rfl⟩) rfl rfl (Nat.le_of_ble_eq_true rfl) dL_patienceAfter_5 ⟨Nat.zero_le _, Nat.zero_le _⟩ (fun ta2 => ?_)
    clear hg
    refine x_i2l (v := r3.toInt64) C dL_patienceAfter_8 rfl ?_
    refine x_last C dL_patienceAfter_9 ?_
    obtain ⟨M6, e7, hf⟩ := x_lt hf
    rw [← e7]
    clear e7
    refine x_goto C 25 dL_patienceAfter_10 (by decide) ?_
    refine x_iconst (v := 0) C dL_patienceAfter_25 (by decide) ?_
    obtain rfl := Option.some.inj hf
    refine x_widen (k' := 1) (n' := 6) (Nat.le_of_ble_eq_true rfl) (Nat.le_of_ble_eq_true rfl) ?_
    exact x_iret C hr hlk dL_patienceAfter_26
  · have hf := x_cx hf
    refine x_callVXt (mc := 1) (ms := 6) C (by rw [xkd_0]; decide) (by rw [xkd_0]; decide) (xc8 xkd_0) rfl (t_X6_patienceAfter hfl hg) (cwV 2 C.1.2.2.2.2 gL_patienceAfter_X6_patienceAfter rfl rfl rfl (by decide +kernel) ⟨Nat.le_of_ble_eq_true rfl, Nat.le_of_ble_eq_true rfl⟩) rfl rfl (Nat.le_of_ble_eq_true rfl) dL_patienceAfter_5 ⟨Nat.le_of_ble_eq_true rfl, Nat.le_of_ble_eq_true rfl⟩ (fun ta2 => ?_)
    rcases Decidable.em (E4 = "java/lang/IndexOutOfBoundsException") with hc8 | hc8
    · have hf := x_ip hc8 hf
      subst hc8
      refine x_catch C htb 0 [] (name := "java/lang/IndexOutOfBoundsException") rfl (by decide) (by decide) (by decide +kernel) (by decide) (by decide +kernel) (fun x9 => ?_)
      refine x_astore (lv' := [(4, .ref x9), (0, .ref (xad G 0)), (1, .int a2), (2, .int a3), (3, .ref (xad G 20))]) C dL_patienceAfter_13 (by decide) rfl ?_
      refine x_iconst (v := 1) C dL_patienceAfter_15 (by decide) ?_
      obtain rfl := Option.some.inj hf
      refine x_widen (k' := 1) (n' := 6) (Nat.le_of_ble_eq_true rfl) (Nat.le_of_ble_eq_true rfl) ?_
      exact x_iret C hr hlk dL_patienceAfter_16
    have hf := x_ine hc8 hf
    rcases Decidable.em (E4 = "java/lang/IllegalArgumentException") with hc10 | hc10
    · have hf := x_ip hc10 hf
      subst hc10
      refine x_catch C htb 1 ["java/lang/IndexOutOfBoundsException"] (name := "java/lang/IllegalArgumentException") rfl (by decide) (by decide) (by decide +kernel) (by decide) (by decide +kernel) (fun x11 => ?_)
      refine x_astore (lv' := [(4, .ref x11), (0, .ref (xad G 0)), (1, .int a2), (2, .int a3), (3, .ref (xad G 20))]) C dL_patienceAfter_17 (by decide) rfl ?_
      refine x_iconst (v := 2) C dL_patienceAfter_19 (by decide) ?_
      obtain rfl := Option.some.inj hf
      refine x_widen (k' := 1) (n' := 6) (Nat.le_of_ble_eq_true rfl) (Nat.le_of_ble_eq_true rfl) ?_
      exact x_iret C hr hlk dL_patienceAfter_20
    have hf := x_ine hc10 hf
    rcases Decidable.em (E4 = "java/util/NoSuchElementException") with hc12 | hc12
    · have hf := x_ip hc12 hf
      subst hc12
      refine x_catch C htb 2 ["java/lang/IndexOutOfBoundsException", "java/lang/IllegalArgumentException"] (name := "java/util/NoSuchElementException") rfl (by decide) (by decide) (by decide +kernel) (by decide) (by decide +kernel) (fun x13 => ?_)
      refine x_astore (lv' := [(4, .ref x13), (0, .ref (xad G 0)), (1, .int a2), (2, .int a3), (3, .ref (xad G 20))]) C dL_patienceAfter_21 (by decide) rfl ?_
      refine x_iconst (v := 3) C dL_patienceAfter_23 (by decide) ?_
      obtain rfl := Option.some.inj hf
      refine x_widen (k' := 1) (n' := 6) (Nat.le_of_ble_eq_true rfl) (Nat.le_of_ble_eq_true rfl) ?_
      exact x_iret C hr hlk dL_patienceAfter_24
    have hf := x_ine hc12 hf
    cases hf
/-! WaitingRoomSimulationLaw.sighsWithin(LWaitingRoomSimulation;I[J)I -/
abbrev rm_L_sighsWithin (c s : Nat) : Room := { frames := 10, cells := c, slots := s, locals := 241 }
def f_L_sighsWithin (a2 : Int32) (M : xM) : Option (Int32 × xM) := (f_X6_sighsWithin a2 M).bind fun q1 => x_case q1.1 (fun r3 => (fun (M5 : xM) => x_let (sJ M5 r3.toInt64) fun M6 => some ((0 : Int32), M6)) q1.2) (fun E4 => (fun (M5 : xM) => if E4 = "java/lang/IllegalArgumentException" then some ((1 : Int32), M5) else none) q1.2)
set_option maxHeartbeats 4000000 in
set_option maxRecDepth 100000 in
theorem t_L_sighsWithin {l : Launch} {G : xG} {ta : Nat × Nat} {M : xM} {a2 : Int32} {out : Int32 × xM} (hfl : l.stackTraces = false) (hf : f_L_sighsWithin a2 M = some out) : xMet G l yL_sighsWithin wsL_sighsWithin (rm_L_sighsWithin 1 6) 1 6 ta M [.ref (xad G 0), .int a2, .ref (xad G 20)] (some (.int out.1)) out.2 := by
  refine x_metH (cc := cL_sighsWithin) (nL := 4) (ret := some .int) (hh := [(0, 9, 12, 13)]) (by decide) rfl (Nat.le_of_ble_eq_true rfl) ?_
  intro p e s m args below meth c C hr hlk htb
  have C : xC G p s m args c cL_sighsWithin 4 wsL_sighsWithin RL := C
  unfold f_L_sighsWithin at hf
  show xW G p l e (rm_L_sighsWithin 1 6) s m args below meth c 4 (MQ below (xQr G (some (.int out.1)) out.2) args s 1 6 (xAs G)) 0 0 ta M 0 [(0, .ref (xad G 0)), (1, .int a2), (2, .ref (xad G 20))] []
  refine x_aload_n C 2 dL_sighsWithin_0 rfl ?_
  refine x_iconst (v := 0) C dL_sighsWithin_1 (by decide) ?_
  refine x_aload_n C 0 dL_sighsWithin_2 rfl ?_
  refine x_iload_n C 1 dL_sighsWithin_3 rfl ?_
  obtain ⟨q1, hg, hf⟩ := x_bd hf
  rcases q1 with ⟨r3 | E4, M5⟩
  · have hf := x_ci hf
    refine x_callVXr (w := .int r3) (mc := 0) (ms := 0) C (by rw [xkd_0]; decide) (by rw [xkd_0]; decide) (xc8 xkd_0) rfl (t_X6_sighsWithin hfl hg) (cwV 1 C.1.2.2.2.2 gL_sighsWithin_X6_sighsWithin rfl rfl rfl (by decide +kernel) ⟨Nat.le_of_ble_eq_true rfl, Nat.le_of_ble_eq_true rfl⟩) rfl rfl (Nat.le_of_ble_eq_true rfl) dL_sighsWithin_4 ⟨Nat.zero_le _, Nat.zero_le _⟩ (fun ta2 => ?_)
    clear hg
    refine x_i2l (v := r3.toInt64) C dL_sighsWithin_7 rfl ?_
    refine x_last C dL_sighsWithin_8 ?_
    obtain ⟨M6, e7, hf⟩ := x_lt hf
    rw [← e7]
    clear e7
    refine x_goto C 15 dL_sighsWithin_9 (by decide) ?_
    refine x_iconst (v := 0) C dL_sighsWithin_15 (by decide) ?_
    obtain rfl := Option.some.inj hf
    refine x_widen (k' := 1) (n' := 6) (Nat.le_of_ble_eq_true rfl) (Nat.le_of_ble_eq_true rfl) ?_
    exact x_iret C hr hlk dL_sighsWithin_16
  · have hf := x_cx hf
    refine x_callVXt (mc := 1) (ms := 6) C (by rw [xkd_0]; decide) (by rw [xkd_0]; decide) (xc8 xkd_0) rfl (t_X6_sighsWithin hfl hg) (cwV 1 C.1.2.2.2.2 gL_sighsWithin_X6_sighsWithin rfl rfl rfl (by decide +kernel) ⟨Nat.le_of_ble_eq_true rfl, Nat.le_of_ble_eq_true rfl⟩) rfl rfl (Nat.le_of_ble_eq_true rfl) dL_sighsWithin_4 ⟨Nat.le_of_ble_eq_true rfl, Nat.le_of_ble_eq_true rfl⟩ (fun ta2 => ?_)
    rcases Decidable.em (E4 = "java/lang/IllegalArgumentException") with hc8 | hc8
    · have hf := x_ip hc8 hf
      subst hc8
      refine x_catch C htb 0 [] (name := "java/lang/IllegalArgumentException") rfl (by decide) (by decide) (by decide +kernel) (by decide) (by decide +kernel) (fun x9 => ?_)
      refine x_astore_n (lv' := [(3, .ref x9), (0, .ref (xad G 0)), (1, .int a2), (2, .ref (xad G 20))]) C dL_sighsWithin_12 rfl (by decide) rfl ?_
      refine x_iconst (v := 1) C dL_sighsWithin_13 (by decide) ?_
      obtain rfl := Option.some.inj hf
      refine x_widen (k' := 1) (n' := 6) (Nat.le_of_ble_eq_true rfl) (Nat.le_of_ble_eq_true rfl) ?_
      exact x_iret C hr hlk dL_sighsWithin_14
    have hf := x_ine hc8 hf
    cases hf
/-! WaitingRoomSimulationLaw.servedTicket(LWaitingRoomSimulation;I[J)I -/
abbrev rm_L_servedTicket (c s : Nat) : Room := { frames := 10, cells := c, slots := s, locals := 242 }
def f_L_servedTicket (a2 : Int32) (M : xM) : Option (Int32 × xM) := (f_X6_servedTicket a2 M).bind fun q1 => x_case q1 (fun r3 => x_let (sJ M r3.toInt64) fun M5 => some ((0 : Int32), M5)) (fun E4 => if E4 = "java/util/NoSuchElementException" then some ((1 : Int32), M) else none)
set_option maxHeartbeats 4000000 in
set_option maxRecDepth 100000 in
theorem t_L_servedTicket {l : Launch} {G : xG} {ta : Nat × Nat} {M : xM} {a2 : Int32} {out : Int32 × xM} (hfl : l.stackTraces = false) (hf : f_L_servedTicket a2 M = some out) : xMet G l yL_servedTicket wsL_servedTicket (rm_L_servedTicket 1 6) 1 6 ta M [.ref (xad G 0), .int a2, .ref (xad G 20)] (some (.int out.1)) out.2 := by
  refine x_metH (cc := cL_servedTicket) (nL := 4) (ret := some .int) (hh := [(0, 9, 12, 30)]) (by decide) rfl (Nat.le_of_ble_eq_true rfl) ?_
  intro p e s m args below meth c C hr hlk htb
  have C : xC G p s m args c cL_servedTicket 4 wsL_servedTicket RL := C
  unfold f_L_servedTicket at hf
  show xW G p l e (rm_L_servedTicket 1 6) s m args below meth c 4 (MQ below (xQr G (some (.int out.1)) out.2) args s 1 6 (xAs G)) 0 0 ta M 0 [(0, .ref (xad G 0)), (1, .int a2), (2, .ref (xad G 20))] []
  refine x_aload_n C 2 dL_servedTicket_0 rfl ?_
  refine x_iconst (v := 0) C dL_servedTicket_1 (by decide) ?_
  refine x_aload_n C 0 dL_servedTicket_2 rfl ?_
  refine x_iload_n C 1 dL_servedTicket_3 rfl ?_
  obtain ⟨q1, hg, hf⟩ := x_bd hf
  rcases q1 with r3 | E4
  · have hf := x_ci hf
    refine x_callVXr (w := .int r3) (mc := 0) (ms := 0) C (by rw [xkd_0]; decide) (by rw [xkd_0]; decide) (xc8 xkd_0) rfl (t_X6_servedTicket hfl hg) (cwV 1 C.1.2.2.2.2 gL_servedTicket_X6_servedTicket rfl rfl rfl (by decide +kernel) ⟨Nat.le_of_ble_eq_true rfl, Nat.le_of_ble_eq_true rfl⟩) rfl rfl (Nat.le_of_ble_eq_true rfl) dL_servedTicket_4 ⟨Nat.zero_le _, Nat.zero_le _⟩ (fun ta2 => ?_)
    clear hg
    refine x_i2l (v := r3.toInt64) C dL_servedTicket_7 rfl ?_
    refine x_last C dL_servedTicket_8 ?_
    obtain ⟨M5, e6, hf⟩ := x_lt hf
    rw [← e6]
    clear e6
    refine x_goto C 15 dL_servedTicket_9 (by decide) ?_
    refine x_iconst (v := 0) C dL_servedTicket_15 (by decide) ?_
    obtain rfl := Option.some.inj hf
    refine x_widen (k' := 1) (n' := 6) (Nat.le_of_ble_eq_true rfl) (Nat.le_of_ble_eq_true rfl) ?_
    exact x_iret C hr hlk dL_servedTicket_16
  · have hf := x_cx hf
    refine x_callVXt (mc := 1) (ms := 6) C (by rw [xkd_0]; decide) (by rw [xkd_0]; decide) (xc8 xkd_0) rfl (t_X6_servedTicket hfl hg) (cwV 1 C.1.2.2.2.2 gL_servedTicket_X6_servedTicket rfl rfl rfl (by decide +kernel) ⟨Nat.le_of_ble_eq_true rfl, Nat.le_of_ble_eq_true rfl⟩) rfl rfl (Nat.le_of_ble_eq_true rfl) dL_servedTicket_4 ⟨Nat.le_of_ble_eq_true rfl, Nat.le_of_ble_eq_true rfl⟩ (fun ta2 => ?_)
    rcases Decidable.em (E4 = "java/util/NoSuchElementException") with hc7 | hc7
    · have hf := x_ip hc7 hf
      subst hc7
      refine x_catch C htb 0 [] (name := "java/util/NoSuchElementException") rfl (by decide) (by decide) (by decide +kernel) (by decide) (by decide +kernel) (fun x8 => ?_)
      refine x_astore_n (lv' := [(3, .ref x8), (0, .ref (xad G 0)), (1, .int a2), (2, .ref (xad G 20))]) C dL_servedTicket_12 rfl (by decide) rfl ?_
      refine x_iconst (v := 1) C dL_servedTicket_13 (by decide) ?_
      obtain rfl := Option.some.inj hf
      refine x_widen (k' := 1) (n' := 6) (Nat.le_of_ble_eq_true rfl) (Nat.le_of_ble_eq_true rfl) ?_
      exact x_iret C hr hlk dL_servedTicket_14
    have hf := x_ine hc7 hf
    cases hf
/-! WaitingRoomSimulationLaw.servedWaitingTime(LWaitingRoomSimulation;I[J)I -/
abbrev rm_L_servedWaitingTime (c s : Nat) : Room := { frames := 10, cells := c, slots := s, locals := 242 }
def f_L_servedWaitingTime (a2 : Int32) (M : xM) : Option (Int32 × xM) := (f_X6_servedWaitingTime a2 M).bind fun q1 => x_case q1 (fun r3 => x_let (sJ M r3.toInt64) fun M5 => some ((0 : Int32), M5)) (fun E4 => if E4 = "java/util/NoSuchElementException" then some ((1 : Int32), M) else none)
set_option maxHeartbeats 4000000 in
set_option maxRecDepth 100000 in
theorem t_L_servedWaitingTime {l : Launch} {G : xG} {ta : Nat × Nat} {M : xM} {a2 : Int32} {out : Int32 × xM} (hfl : l.stackTraces = false) (hf : f_L_servedWaitingTime a2 M = some out) : xMet G l yL_servedWaitingTime wsL_servedWaitingTime (rm_L_servedWaitingTime 1 6) 1 6 ta M [.ref (xad G 0), .int a2, .ref (xad G 20)] (some (.int out.1)) out.2 := by
  refine x_metH (cc := cL_servedWaitingTime) (nL := 4) (ret := some .int) (hh := [(0, 9, 12, 30)]) (by decide) rfl (Nat.le_of_ble_eq_true rfl) ?_
  intro p e s m args below meth c C hr hlk htb
  have C : xC G p s m args c cL_servedWaitingTime 4 wsL_servedWaitingTime RL := C
  unfold f_L_servedWaitingTime at hf
  show xW G p l e (rm_L_servedWaitingTime 1 6) s m args below meth c 4 (MQ below (xQr G (some (.int out.1)) out.2) args s 1 6 (xAs G)) 0 0 ta M 0 [(0, .ref (xad G 0)), (1, .int a2), (2, .ref (xad G 20))] []
  refine x_aload_n C 2 dL_servedWaitingTime_0 rfl ?_
  refine x_iconst (v := 0) C dL_servedWaitingTime_1 (by decide) ?_
  refine x_aload_n C 0 dL_servedWaitingTime_2 rfl ?_
  refine x_iload_n C 1 dL_servedWaitingTime_3 rfl ?_
  obtain ⟨q1, hg, hf⟩ := x_bd hf
  rcases q1 with r3 | E4
  · have hf := x_ci hf
    refine x_callVXr (w := .int r3) (mc := 0) (ms := 0) C (by rw [xkd_0]; decide) (by rw [xkd_0]; decide) (xc8 xkd_0) rfl (t_X6_servedWaitingTime hfl hg) (cwV 1 C.1.2.2.2.2 gL_servedWaitingTime_X6_servedWaitingTime rfl rfl rfl (by decide +kernel) ⟨Nat.le_of_ble_eq_true rfl, Nat.le_of_ble_eq_true rfl⟩) rfl rfl (Nat.le_of_ble_eq_true rfl) dL_servedWaitingTime_4 ⟨Nat.zero_le _, Nat.zero_le _⟩ (fun ta2 => ?_)
    clear hg
    refine x_i2l (v := r3.toInt64) C dL_servedWaitingTime_7 rfl ?_
    refine x_last C dL_servedWaitingTime_8 ?_
    obtain ⟨M5, e6, hf⟩ := x_lt hf
    rw [← e6]
    clear e6
    refine x_goto C 15 dL_servedWaitingTime_9 (by decide) ?_
    refine x_iconst (v := 0) C dL_servedWaitingTime_15 (by decide) ?_
    obtain rfl := Option.some.inj hf
    refine x_widen (k' := 1) (n' := 6) (Nat.le_of_ble_eq_true rfl) (Nat.le_of_ble_eq_true rfl) ?_
    exact x_iret C hr hlk dL_servedWaitingTime_16
  · have hf := x_cx hf
    refine x_callVXt (mc := 1) (ms := 6) C (by rw [xkd_0]; decide) (by rw [xkd_0]; decide) (xc8 xkd_0) rfl (t_X6_servedWaitingTime hfl hg) (cwV 1 C.1.2.2.2.2 gL_servedWaitingTime_X6_servedWaitingTime rfl rfl rfl (by decide +kernel) ⟨Nat.le_of_ble_eq_true rfl, Nat.le_of_ble_eq_true rfl⟩) rfl rfl (Nat.le_of_ble_eq_true rfl) dL_servedWaitingTime_4 ⟨Nat.le_of_ble_eq_true rfl, Nat.le_of_ble_eq_true rfl⟩ (fun ta2 => ?_)
    rcases Decidable.em (E4 = "java/util/NoSuchElementException") with hc7 | hc7
    · have hf := x_ip hc7 hf
      subst hc7
      refine x_catch C htb 0 [] (name := "java/util/NoSuchElementException") rfl (by decide) (by decide) (by decide +kernel) (by decide) (by decide +kernel) (fun x8 => ?_)
      refine x_astore_n (lv' := [(3, .ref x8), (0, .ref (xad G 0)), (1, .int a2), (2, .ref (xad G 20))]) C dL_servedWaitingTime_12 rfl (by decide) rfl ?_
      refine x_iconst (v := 1) C dL_servedWaitingTime_13 (by decide) ?_
      obtain rfl := Option.some.inj hf
      refine x_widen (k' := 1) (n' := 6) (Nat.le_of_ble_eq_true rfl) (Nat.le_of_ble_eq_true rfl) ?_
      exact x_iret C hr hlk dL_servedWaitingTime_14
    have hf := x_ine hc7 hf
    cases hf
/-! WaitingRoomSimulationLaw.customerBySighs(LWaitingRoomSimulation;I[J)I -/
abbrev rm_L_customerBySighs (c s : Nat) : Room := { frames := 10, cells := c, slots := s, locals := 244 }
def f_L_customerBySighs (a2 : Int32) (M : xM) : Option (Int32 × xM) := (f_X6_customerBySighs a2 M).bind fun q1 => x_case q1 (fun r3 => x_let (sJ M r3.toInt64) fun M5 => some ((0 : Int32), M5)) (fun E4 => if E4 = "java/util/NoSuchElementException" then some ((1 : Int32), M) else none)
set_option maxHeartbeats 4000000 in
set_option maxRecDepth 100000 in
theorem t_L_customerBySighs {l : Launch} {G : xG} {ta : Nat × Nat} {M : xM} {a2 : Int32} {out : Int32 × xM} (hfl : l.stackTraces = false) (hf : f_L_customerBySighs a2 M = some out) : xMet G l yL_customerBySighs wsL_customerBySighs (rm_L_customerBySighs 1 6) 1 6 ta M [.ref (xad G 0), .int a2, .ref (xad G 20)] (some (.int out.1)) out.2 := by
  refine x_metH (cc := cL_customerBySighs) (nL := 4) (ret := some .int) (hh := [(0, 9, 12, 30)]) (by decide) rfl (Nat.le_of_ble_eq_true rfl) ?_
  intro p e s m args below meth c C hr hlk htb
  have C : xC G p s m args c cL_customerBySighs 4 wsL_customerBySighs RL := C
  unfold f_L_customerBySighs at hf
  show xW G p l e (rm_L_customerBySighs 1 6) s m args below meth c 4 (MQ below (xQr G (some (.int out.1)) out.2) args s 1 6 (xAs G)) 0 0 ta M 0 [(0, .ref (xad G 0)), (1, .int a2), (2, .ref (xad G 20))] []
  refine x_aload_n C 2 dL_customerBySighs_0 rfl ?_
  refine x_iconst (v := 0) C dL_customerBySighs_1 (by decide) ?_
  refine x_aload_n C 0 dL_customerBySighs_2 rfl ?_
  refine x_iload_n C 1 dL_customerBySighs_3 rfl ?_
  obtain ⟨q1, hg, hf⟩ := x_bd hf
  rcases q1 with r3 | E4
  · have hf := x_ci hf
    refine x_callVXr (w := .int r3) (mc := 0) (ms := 0) C (by rw [xkd_0]; decide) (by rw [xkd_0]; decide) (xc8 xkd_0) rfl (t_X6_customerBySighs hfl hg) (cwV 1 C.1.2.2.2.2 gL_customerBySighs_X6_customerBySighs rfl rfl rfl (by decide +kernel) ⟨Nat.le_of_ble_eq_true rfl, Nat.le_of_ble_eq_true rfl⟩) rfl rfl (Nat.le_of_ble_eq_true rfl) dL_customerBySighs_4 ⟨Nat.zero_le _, Nat.zero_le _⟩ (fun ta2 => ?_)
    clear hg
    refine x_i2l (v := r3.toInt64) C dL_customerBySighs_7 rfl ?_
    refine x_last C dL_customerBySighs_8 ?_
    obtain ⟨M5, e6, hf⟩ := x_lt hf
    rw [← e6]
    clear e6
    refine x_goto C 15 dL_customerBySighs_9 (by decide) ?_
    refine x_iconst (v := 0) C dL_customerBySighs_15 (by decide) ?_
    obtain rfl := Option.some.inj hf
    refine x_widen (k' := 1) (n' := 6) (Nat.le_of_ble_eq_true rfl) (Nat.le_of_ble_eq_true rfl) ?_
    exact x_iret C hr hlk dL_customerBySighs_16
  · have hf := x_cx hf
    refine x_callVXt (mc := 1) (ms := 6) C (by rw [xkd_0]; decide) (by rw [xkd_0]; decide) (xc8 xkd_0) rfl (t_X6_customerBySighs hfl hg) (cwV 1 C.1.2.2.2.2 gL_customerBySighs_X6_customerBySighs rfl rfl rfl (by decide +kernel) ⟨Nat.le_of_ble_eq_true rfl, Nat.le_of_ble_eq_true rfl⟩) rfl rfl (Nat.le_of_ble_eq_true rfl) dL_customerBySighs_4 ⟨Nat.le_of_ble_eq_true rfl, Nat.le_of_ble_eq_true rfl⟩ (fun ta2 => ?_)
    rcases Decidable.em (E4 = "java/util/NoSuchElementException") with hc7 | hc7
    · have hf := x_ip hc7 hf
      subst hc7
      refine x_catch C htb 0 [] (name := "java/util/NoSuchElementException") rfl (by decide) (by decide) (by decide +kernel) (by decide) (by decide +kernel) (fun x8 => ?_)
      refine x_astore_n (lv' := [(3, .ref x8), (0, .ref (xad G 0)), (1, .int a2), (2, .ref (xad G 20))]) C dL_customerBySighs_12 rfl (by decide) rfl ?_
      refine x_iconst (v := 1) C dL_customerBySighs_13 (by decide) ?_
      obtain rfl := Option.some.inj hf
      refine x_widen (k' := 1) (n' := 6) (Nat.le_of_ble_eq_true rfl) (Nat.le_of_ble_eq_true rfl) ?_
      exact x_iret C hr hlk dL_customerBySighs_14
    have hf := x_ine hc7 hf
    cases hf
/-! WaitingRoomSimulationLaw.customerByWaitingTime(LWaitingRoomSimulation;I[J)I -/
abbrev rm_L_customerByWaitingTime (c s : Nat) : Room := { frames := 10, cells := c, slots := s, locals := 244 }
def f_L_customerByWaitingTime (a2 : Int32) (M : xM) : Option (Int32 × xM) := (f_X6_customerByWaitingTime a2 M).bind fun q1 => x_case q1 (fun r3 => x_let (sJ M r3.toInt64) fun M5 => some ((0 : Int32), M5)) (fun E4 => if E4 = "java/util/NoSuchElementException" then some ((1 : Int32), M) else none)
set_option maxHeartbeats 4000000 in
set_option maxRecDepth 100000 in
theorem t_L_customerByWaitingTime {l : Launch} {G : xG} {ta : Nat × Nat} {M : xM} {a2 : Int32} {out : Int32 × xM} (hfl : l.stackTraces = false) (hf : f_L_customerByWaitingTime a2 M = some out) : xMet G l yL_customerByWaitingTime wsL_customerByWaitingTime (rm_L_customerByWaitingTime 1 6) 1 6 ta M [.ref (xad G 0), .int a2, .ref (xad G 20)] (some (.int out.1)) out.2 := by
  refine x_metH (cc := cL_customerByWaitingTime) (nL := 4) (ret := some .int) (hh := [(0, 9, 12, 30)]) (by decide) rfl (Nat.le_of_ble_eq_true rfl) ?_
  intro p e s m args below meth c C hr hlk htb
  have C : xC G p s m args c cL_customerByWaitingTime 4 wsL_customerByWaitingTime RL := C
  unfold f_L_customerByWaitingTime at hf
  show xW G p l e (rm_L_customerByWaitingTime 1 6) s m args below meth c 4 (MQ below (xQr G (some (.int out.1)) out.2) args s 1 6 (xAs G)) 0 0 ta M 0 [(0, .ref (xad G 0)), (1, .int a2), (2, .ref (xad G 20))] []
  refine x_aload_n C 2 dL_customerByWaitingTime_0 rfl ?_
  refine x_iconst (v := 0) C dL_customerByWaitingTime_1 (by decide) ?_
  refine x_aload_n C 0 dL_customerByWaitingTime_2 rfl ?_
  refine x_iload_n C 1 dL_customerByWaitingTime_3 rfl ?_
  obtain ⟨q1, hg, hf⟩ := x_bd hf
  rcases q1 with r3 | E4
  · have hf := x_ci hf
    refine x_callVXr (w := .int r3) (mc := 0) (ms := 0) C (by rw [xkd_0]; decide) (by rw [xkd_0]; decide) (xc8 xkd_0) rfl (t_X6_customerByWaitingTime hfl hg) (cwV 1 C.1.2.2.2.2 gL_customerByWaitingTime_X6_customerByWaitingTime rfl rfl rfl (by decide +kernel) ⟨Nat.le_of_ble_eq_true rfl, Nat.le_of_ble_eq_true rfl⟩) rfl rfl (Nat.le_of_ble_eq_true rfl) dL_customerByWaitingTime_4 ⟨Nat.zero_le _, Nat.zero_le _⟩ (fun ta2 => ?_)
    clear hg
    refine x_i2l (v := r3.toInt64) C dL_customerByWaitingTime_7 rfl ?_
    refine x_last C dL_customerByWaitingTime_8 ?_
    obtain ⟨M5, e6, hf⟩ := x_lt hf
    rw [← e6]
    clear e6
    refine x_goto C 15 dL_customerByWaitingTime_9 (by decide) ?_
    refine x_iconst (v := 0) C dL_customerByWaitingTime_15 (by decide) ?_
    obtain rfl := Option.some.inj hf
    refine x_widen (k' := 1) (n' := 6) (Nat.le_of_ble_eq_true rfl) (Nat.le_of_ble_eq_true rfl) ?_
    exact x_iret C hr hlk dL_customerByWaitingTime_16
  · have hf := x_cx hf
    refine x_callVXt (mc := 1) (ms := 6) C (by rw [xkd_0]; decide) (by rw [xkd_0]; decide) (xc8 xkd_0) rfl (t_X6_customerByWaitingTime hfl hg) (cwV 1 C.1.2.2.2.2 gL_customerByWaitingTime_X6_customerByWaitingTime rfl rfl rfl (by decide +kernel) ⟨Nat.le_of_ble_eq_true rfl, Nat.le_of_ble_eq_true rfl⟩) rfl rfl (Nat.le_of_ble_eq_true rfl) dL_customerByWaitingTime_4 ⟨Nat.le_of_ble_eq_true rfl, Nat.le_of_ble_eq_true rfl⟩ (fun ta2 => ?_)
    rcases Decidable.em (E4 = "java/util/NoSuchElementException") with hc7 | hc7
    · have hf := x_ip hc7 hf
      subst hc7
      refine x_catch C htb 0 [] (name := "java/util/NoSuchElementException") rfl (by decide) (by decide) (by decide +kernel) (by decide) (by decide +kernel) (fun x8 => ?_)
      refine x_astore_n (lv' := [(3, .ref x8), (0, .ref (xad G 0)), (1, .int a2), (2, .ref (xad G 20))]) C dL_customerByWaitingTime_12 rfl (by decide) rfl ?_
      refine x_iconst (v := 1) C dL_customerByWaitingTime_13 (by decide) ?_
      obtain rfl := Option.some.inj hf
      refine x_widen (k' := 1) (n' := 6) (Nat.le_of_ble_eq_true rfl) (Nat.le_of_ble_eq_true rfl) ?_
      exact x_iret C hr hlk dL_customerByWaitingTime_14
    have hf := x_ine hc7 hf
    cases hf
/-! WaitingRoomSimulationLaw.meanPatience(LWaitingRoomSimulation;[D)I -/
abbrev rm_L_meanPatience (c s : Nat) : Room := { frames := 9, cells := c, slots := s, locals := 222 }
def f_L_meanPatience (M : xM) : Option (Int32 × xM) := (f_X6_meanPatience M).bind fun q1 => x_case q1 (fun r3 => x_let (sD M r3) fun M5 => some ((0 : Int32), M5)) (fun E4 => if E4 = "java/lang/ArithmeticException" then some ((1 : Int32), M) else none)
set_option maxHeartbeats 4000000 in
set_option maxRecDepth 100000 in
theorem t_L_meanPatience {l : Launch} {G : xG} {ta : Nat × Nat} {M : xM} {out : Int32 × xM} (hfl : l.stackTraces = false) (hf : f_L_meanPatience M = some out) : xMet G l yL_meanPatience wsL_meanPatience (rm_L_meanPatience 1 6) 1 6 ta M [.ref (xad G 0), .ref (xad G 21)] (some (.int out.1)) out.2 := by
  refine x_metH (cc := cL_meanPatience) (nL := 3) (ret := some .int) (hh := [(0, 7, 10, 124)]) (by decide) rfl (Nat.le_of_ble_eq_true rfl) ?_
  intro p e s m args below meth c C hr hlk htb
  have C : xC G p s m args c cL_meanPatience 3 wsL_meanPatience RL := C
  unfold f_L_meanPatience at hf
  show xW G p l e (rm_L_meanPatience 1 6) s m args below meth c 3 (MQ below (xQr G (some (.int out.1)) out.2) args s 1 6 (xAs G)) 0 0 ta M 0 [(0, .ref (xad G 0)), (1, .ref (xad G 21))] []
  refine x_aload_n C 1 dL_meanPatience_0 rfl ?_
  refine x_iconst (v := 0) C dL_meanPatience_1 (by decide) ?_
  refine x_aload_n C 0 dL_meanPatience_2 rfl ?_
  obtain ⟨q1, hg, hf⟩ := x_bd hf
  rcases q1 with r3 | E4
  · have hf := x_ci hf
    refine x_callVXr (w := .double r3) (mc := 0) (ms := 0) C (by rw [xkd_0]; decide) (by rw [xkd_0]; decide) (xc8 xkd_0) rfl (t_X6_meanPatience hfl hg) (cwV 0 C.1.2.2.2.2 gL_meanPatience_X6_meanPatience rfl rfl rfl (by decide +kernel) ⟨Nat.le_of_ble_eq_true rfl, Nat.le_of_ble_eq_true rfl⟩) rfl rfl (Nat.le_of_ble_eq_true rfl) dL_meanPatience_3 ⟨Nat.zero_le _, Nat.zero_le _⟩ (fun ta2 => ?_)
    clear hg
    refine x_dast C dL_meanPatience_6 ?_
    obtain ⟨M5, e6, hf⟩ := x_lt hf
    rw [← e6]
    clear e6
    refine x_goto C 13 dL_meanPatience_7 (by decide) ?_
    refine x_iconst (v := 0) C dL_meanPatience_13 (by decide) ?_
    obtain rfl := Option.some.inj hf
    refine x_widen (k' := 1) (n' := 6) (Nat.le_of_ble_eq_true rfl) (Nat.le_of_ble_eq_true rfl) ?_
    exact x_iret C hr hlk dL_meanPatience_14
  · have hf := x_cx hf
    refine x_callVXt (mc := 1) (ms := 6) C (by rw [xkd_0]; decide) (by rw [xkd_0]; decide) (xc8 xkd_0) rfl (t_X6_meanPatience hfl hg) (cwV 0 C.1.2.2.2.2 gL_meanPatience_X6_meanPatience rfl rfl rfl (by decide +kernel) ⟨Nat.le_of_ble_eq_true rfl, Nat.le_of_ble_eq_true rfl⟩) rfl rfl (Nat.le_of_ble_eq_true rfl) dL_meanPatience_3 ⟨Nat.le_of_ble_eq_true rfl, Nat.le_of_ble_eq_true rfl⟩ (fun ta2 => ?_)
    rcases Decidable.em (E4 = "java/lang/ArithmeticException") with hc7 | hc7
    · have hf := x_ip hc7 hf
      subst hc7
      refine x_catch C htb 0 [] (name := "java/lang/ArithmeticException") rfl (by decide) (by decide) (by decide +kernel) (by decide) (by decide +kernel) (fun x8 => ?_)
      refine x_astore_n (lv' := [(2, .ref x8), (0, .ref (xad G 0)), (1, .ref (xad G 21))]) C dL_meanPatience_10 rfl (by decide) rfl ?_
      refine x_iconst (v := 1) C dL_meanPatience_11 (by decide) ?_
      obtain rfl := Option.some.inj hf
      refine x_widen (k' := 1) (n' := 6) (Nat.le_of_ble_eq_true rfl) (Nat.le_of_ble_eq_true rfl) ?_
      exact x_iret C hr hlk dL_meanPatience_12
    have hf := x_ine hc7 hf
    cases hf
/-! WaitingRoomSimulationLaw.calmShare(LWaitingRoomSimulation;[D)I -/
abbrev rm_L_calmShare (c s : Nat) : Room := { frames := 9, cells := c, slots := s, locals := 220 }
def f_L_calmShare (M : xM) : Option (Int32 × xM) := (f_X6_calmShare M).bind fun q1 => x_case q1 (fun r3 => if x_n64 (FP.f2d r3) = true then x_let (sD M (FP.f2d r3)) fun M6 => some ((0 : Int32), M6) else none) (fun E4 => if E4 = "java/lang/ArithmeticException" then some ((1 : Int32), M) else none)
set_option maxHeartbeats 4000000 in
set_option maxRecDepth 100000 in
theorem t_L_calmShare {l : Launch} {G : xG} {ta : Nat × Nat} {M : xM} {out : Int32 × xM} (hfl : l.stackTraces = false) (hf : f_L_calmShare M = some out) : xMet G l yL_calmShare wsL_calmShare (rm_L_calmShare 1 6) 1 6 ta M [.ref (xad G 0), .ref (xad G 21)] (some (.int out.1)) out.2 := by
  refine x_metH (cc := cL_calmShare) (nL := 3) (ret := some .int) (hh := [(0, 8, 11, 124)]) (by decide) rfl (Nat.le_of_ble_eq_true rfl) ?_
  intro p e s m args below meth c C hr hlk htb
  have C : xC G p s m args c cL_calmShare 3 wsL_calmShare RL := C
  unfold f_L_calmShare at hf
  show xW G p l e (rm_L_calmShare 1 6) s m args below meth c 3 (MQ below (xQr G (some (.int out.1)) out.2) args s 1 6 (xAs G)) 0 0 ta M 0 [(0, .ref (xad G 0)), (1, .ref (xad G 21))] []
  refine x_aload_n C 1 dL_calmShare_0 rfl ?_
  refine x_iconst (v := 0) C dL_calmShare_1 (by decide) ?_
  refine x_aload_n C 0 dL_calmShare_2 rfl ?_
  obtain ⟨q1, hg, hf⟩ := x_bd hf
  rcases q1 with r3 | E4
  · have hf := x_ci hf
    refine x_callVXr (w := .float r3) (mc := 0) (ms := 0) C (by rw [xkd_0]; decide) (by rw [xkd_0]; decide) (xc8 xkd_0) rfl (t_X6_calmShare hfl hg) (cwV 0 C.1.2.2.2.2 gL_calmShare_X6_calmShare rfl rfl rfl (by decide +kernel) ⟨Nat.le_of_ble_eq_true rfl, Nat.le_of_ble_eq_true rfl⟩) rfl rfl (Nat.le_of_ble_eq_true rfl) dL_calmShare_3 ⟨Nat.zero_le _, Nat.zero_le _⟩ (fun ta2 => ?_)
    clear hg
    obtain ⟨g5, hf⟩ := x_gd hf
    refine x_f2d C dL_calmShare_6 (x_n64_of g5) ?_
    refine x_dast C dL_calmShare_7 ?_
    obtain ⟨M6, e7, hf⟩ := x_lt hf
    rw [← e7]
    clear e7
    refine x_goto C 14 dL_calmShare_8 (by decide) ?_
    refine x_iconst (v := 0) C dL_calmShare_14 (by decide) ?_
    obtain rfl := Option.some.inj hf
    refine x_widen (k' := 1) (n' := 6) (Nat.le_of_ble_eq_true rfl) (Nat.le_of_ble_eq_true rfl) ?_
    exact x_iret C hr hlk dL_calmShare_15
  · have hf := x_cx hf
    refine x_callVXt (mc := 1) (ms := 6) C (by rw [xkd_0]; decide) (by rw [xkd_0]; decide) (xc8 xkd_0) rfl (t_X6_calmShare hfl hg) (cwV 0 C.1.2.2.2.2 gL_calmShare_X6_calmShare rfl rfl rfl (by decide +kernel) ⟨Nat.le_of_ble_eq_true rfl, Nat.le_of_ble_eq_true rfl⟩) rfl rfl (Nat.le_of_ble_eq_true rfl) dL_calmShare_3 ⟨Nat.le_of_ble_eq_true rfl, Nat.le_of_ble_eq_true rfl⟩ (fun ta2 => ?_)
    rcases Decidable.em (E4 = "java/lang/ArithmeticException") with hc8 | hc8
    · have hf := x_ip hc8 hf
      subst hc8
      refine x_catch C htb 0 [] (name := "java/lang/ArithmeticException") rfl (by decide) (by decide) (by decide +kernel) (by decide) (by decide +kernel) (fun x9 => ?_)
      refine x_astore_n (lv' := [(2, .ref x9), (0, .ref (xad G 0)), (1, .ref (xad G 21))]) C dL_calmShare_11 rfl (by decide) rfl ?_
      refine x_iconst (v := 1) C dL_calmShare_12 (by decide) ?_
      obtain rfl := Option.some.inj hf
      refine x_widen (k' := 1) (n' := 6) (Nat.le_of_ble_eq_true rfl) (Nat.le_of_ble_eq_true rfl) ?_
      exact x_iret C hr hlk dL_calmShare_13
    have hf := x_ine hc8 hf
    cases hf
/-! WaitingRoomSimulationLaw.outputAt(LWaitingRoomSimulation;I[J)I -/
abbrev rm_L_outputAt (c s : Nat) : Room := { frames := 9, cells := c, slots := s, locals := 221 }
def f_L_outputAt (a2 : Int32) (M : xM) : Option (Int32 × xM) := (f_X6_outputAt a2 M).bind fun q1 => x_case q1 (fun r3 => x_let (sJ M r3.toInt64) fun M5 => some ((0 : Int32), M5)) (fun E4 => if E4 = "java/lang/IndexOutOfBoundsException" then some ((1 : Int32), M) else none)
set_option maxHeartbeats 4000000 in
set_option maxRecDepth 100000 in
theorem t_L_outputAt {l : Launch} {G : xG} {ta : Nat × Nat} {M : xM} {a2 : Int32} {out : Int32 × xM} (hfl : l.stackTraces = false) (hf : f_L_outputAt a2 M = some out) : xMet G l yL_outputAt wsL_outputAt (rm_L_outputAt 1 6) 1 6 ta M [.ref (xad G 0), .int a2, .ref (xad G 20)] (some (.int out.1)) out.2 := by
  refine x_metH (cc := cL_outputAt) (nL := 4) (ret := some .int) (hh := [(0, 9, 12, 21)]) (by decide) rfl (Nat.le_of_ble_eq_true rfl) ?_
  intro p e s m args below meth c C hr hlk htb
  have C : xC G p s m args c cL_outputAt 4 wsL_outputAt RL := C
  unfold f_L_outputAt at hf
  show xW G p l e (rm_L_outputAt 1 6) s m args below meth c 4 (MQ below (xQr G (some (.int out.1)) out.2) args s 1 6 (xAs G)) 0 0 ta M 0 [(0, .ref (xad G 0)), (1, .int a2), (2, .ref (xad G 20))] []
  refine x_aload_n C 2 dL_outputAt_0 rfl ?_
  refine x_iconst (v := 0) C dL_outputAt_1 (by decide) ?_
  refine x_aload_n C 0 dL_outputAt_2 rfl ?_
  refine x_iload_n C 1 dL_outputAt_3 rfl ?_
  obtain ⟨q1, hg, hf⟩ := x_bd hf
  rcases q1 with r3 | E4
  · have hf := x_ci hf
    refine x_callVXr (w := .int r3) (mc := 0) (ms := 0) C (by rw [xkd_0]; decide) (by rw [xkd_0]; decide) (xc8 xkd_0) rfl (t_X6_outputAt hfl hg) (cwV 1 C.1.2.2.2.2 gL_outputAt_X6_outputAt rfl rfl rfl (by decide +kernel) ⟨Nat.le_of_ble_eq_true rfl, Nat.le_of_ble_eq_true rfl⟩) rfl rfl (Nat.le_of_ble_eq_true rfl) dL_outputAt_4 ⟨Nat.zero_le _, Nat.zero_le _⟩ (fun ta2 => ?_)
    clear hg
    refine x_i2l (v := r3.toInt64) C dL_outputAt_7 rfl ?_
    refine x_last C dL_outputAt_8 ?_
    obtain ⟨M5, e6, hf⟩ := x_lt hf
    rw [← e6]
    clear e6
    refine x_goto C 15 dL_outputAt_9 (by decide) ?_
    refine x_iconst (v := 0) C dL_outputAt_15 (by decide) ?_
    obtain rfl := Option.some.inj hf
    refine x_widen (k' := 1) (n' := 6) (Nat.le_of_ble_eq_true rfl) (Nat.le_of_ble_eq_true rfl) ?_
    exact x_iret C hr hlk dL_outputAt_16
  · have hf := x_cx hf
    refine x_callVXt (mc := 1) (ms := 6) C (by rw [xkd_0]; decide) (by rw [xkd_0]; decide) (xc8 xkd_0) rfl (t_X6_outputAt hfl hg) (cwV 1 C.1.2.2.2.2 gL_outputAt_X6_outputAt rfl rfl rfl (by decide +kernel) ⟨Nat.le_of_ble_eq_true rfl, Nat.le_of_ble_eq_true rfl⟩) rfl rfl (Nat.le_of_ble_eq_true rfl) dL_outputAt_4 ⟨Nat.le_of_ble_eq_true rfl, Nat.le_of_ble_eq_true rfl⟩ (fun ta2 => ?_)
    rcases Decidable.em (E4 = "java/lang/IndexOutOfBoundsException") with hc7 | hc7
    · have hf := x_ip hc7 hf
      subst hc7
      refine x_catch C htb 0 [] (name := "java/lang/IndexOutOfBoundsException") rfl (by decide) (by decide) (by decide +kernel) (by decide) (by decide +kernel) (fun x8 => ?_)
      refine x_astore_n (lv' := [(3, .ref x8), (0, .ref (xad G 0)), (1, .int a2), (2, .ref (xad G 20))]) C dL_outputAt_12 rfl (by decide) rfl ?_
      refine x_iconst (v := 1) C dL_outputAt_13 (by decide) ?_
      obtain rfl := Option.some.inj hf
      refine x_widen (k' := 1) (n' := 6) (Nat.le_of_ble_eq_true rfl) (Nat.le_of_ble_eq_true rfl) ?_
      exact x_iret C hr hlk dL_outputAt_14
    have hf := x_ine hc7 hf
    cases hf
/-! WaitingRoomSimulationLaw.type(LWaitingRoomSimulation;C[J)I -/
abbrev rm_L_type (c s : Nat) : Room := { frames := 10, cells := c, slots := s, locals := 385 }
def f_L_type (a2 : Int32) (M : xM) : Option (Int32 × xM) := (f_X6_type a2 M).bind fun q1 => x_case q1.1 (fun r3 => (fun (M5 : xM) => x_let (sJ M5 r3.toInt64) fun M6 => some ((0 : Int32), M6)) q1.2) (fun E4 => (fun (M5 : xM) => if E4 = "java/lang/IllegalArgumentException" then some ((1 : Int32), M5) else if E4 = "java/lang/IllegalStateException" then some ((2 : Int32), M5) else none) q1.2)
set_option maxHeartbeats 4000000 in
set_option maxRecDepth 100000 in
theorem t_L_type {l : Launch} {G : xG} {ta : Nat × Nat} {M : xM} {a2 : Int32} {out : Int32 × xM} (hfl : l.stackTraces = false) (hf : f_L_type a2 M = some out) : xMet G l yL_type wsL_type (rm_L_type 1 142) 1 142 ta M [.ref (xad G 0), .int a2, .ref (xad G 20)] (some (.int out.1)) out.2 := by
  refine x_metH (cc := cL_type) (nL := 4) (ret := some .int) (hh := [(0, 9, 12, 13), (0, 9, 15, 15)]) (by decide) rfl (Nat.le_of_ble_eq_true rfl) ?_
  intro p e s m args below meth c C hr hlk htb
  have C : xC G p s m args c cL_type 4 wsL_type RL := C
  unfold f_L_type at hf
  show xW G p l e (rm_L_type 1 142) s m args below meth c 4 (MQ below (xQr G (some (.int out.1)) out.2) args s 1 142 (xAs G)) 0 0 ta M 0 [(0, .ref (xad G 0)), (1, .int a2), (2, .ref (xad G 20))] []
  refine x_aload_n C 2 dL_type_0 rfl ?_
  refine x_iconst (v := 0) C dL_type_1 (by decide) ?_
  refine x_aload_n C 0 dL_type_2 rfl ?_
  refine x_iload_n C 1 dL_type_3 rfl ?_
  obtain ⟨q1, hg, hf⟩ := x_bd hf
  rcases q1 with ⟨r3 | E4, M5⟩
  · have hf := x_ci hf
    refine x_callVXr (w := .int r3) (mc := 1) (ms := 142) C (by rw [xkd_0]; decide) (by rw [xkd_0]; decide) (xc8 xkd_0) rfl (t_X6_type hfl hg) (cwV 1 C.1.2.2.2.2 gL_type_X6_type rfl rfl rfl (by decide +kernel) ⟨Nat.le_of_ble_eq_true rfl, Nat.le_of_ble_eq_true rfl⟩) rfl rfl (Nat.le_of_ble_eq_true rfl) dL_type_4 ⟨Nat.le_of_ble_eq_true rfl, Nat.le_of_ble_eq_true rfl⟩ (fun ta2 => ?_)
    clear hg
    refine x_i2l (v := r3.toInt64) C dL_type_7 rfl ?_
    refine x_last C dL_type_8 ?_
    obtain ⟨M6, e7, hf⟩ := x_lt hf
    rw [← e7]
    clear e7
    refine x_goto C 18 dL_type_9 (by decide) ?_
    refine x_iconst (v := 0) C dL_type_18 (by decide) ?_
    obtain rfl := Option.some.inj hf
    refine x_widen (k' := 1) (n' := 142) (Nat.le_of_ble_eq_true rfl) (Nat.le_of_ble_eq_true rfl) ?_
    exact x_iret C hr hlk dL_type_19
  · have hf := x_cx hf
    refine x_callVXt (mc := 1) (ms := 142) C (by rw [xkd_0]; decide) (by rw [xkd_0]; decide) (xc8 xkd_0) rfl (t_X6_type hfl hg) (cwV 1 C.1.2.2.2.2 gL_type_X6_type rfl rfl rfl (by decide +kernel) ⟨Nat.le_of_ble_eq_true rfl, Nat.le_of_ble_eq_true rfl⟩) rfl rfl (Nat.le_of_ble_eq_true rfl) dL_type_4 ⟨Nat.le_of_ble_eq_true rfl, Nat.le_of_ble_eq_true rfl⟩ (fun ta2 => ?_)
    rcases Decidable.em (E4 = "java/lang/IllegalArgumentException") with hc8 | hc8
    · have hf := x_ip hc8 hf
      subst hc8
      refine x_catch C htb 0 [] (name := "java/lang/IllegalArgumentException") rfl (by decide) (by decide) (by decide +kernel) (by decide) (by decide +kernel) (fun x9 => ?_)
      refine x_astore_n (lv' := [(3, .ref x9), (0, .ref (xad G 0)), (1, .int a2), (2, .ref (xad G 20))]) C dL_type_12 rfl (by decide) rfl ?_
      refine x_iconst (v := 1) C dL_type_13 (by decide) ?_
      obtain rfl := Option.some.inj hf
      refine x_widen (k' := 1) (n' := 142) (Nat.le_of_ble_eq_true rfl) (Nat.le_of_ble_eq_true rfl) ?_
      exact x_iret C hr hlk dL_type_14
    have hf := x_ine hc8 hf
    rcases Decidable.em (E4 = "java/lang/IllegalStateException") with hc10 | hc10
    · have hf := x_ip hc10 hf
      subst hc10
      refine x_catch C htb 1 ["java/lang/IllegalArgumentException"] (name := "java/lang/IllegalStateException") rfl (by decide) (by decide) (by decide +kernel) (by decide) (by decide +kernel) (fun x11 => ?_)
      refine x_astore_n (lv' := [(3, .ref x11), (0, .ref (xad G 0)), (1, .int a2), (2, .ref (xad G 20))]) C dL_type_15 rfl (by decide) rfl ?_
      refine x_iconst (v := 2) C dL_type_16 (by decide) ?_
      obtain rfl := Option.some.inj hf
      refine x_widen (k' := 1) (n' := 142) (Nat.le_of_ble_eq_true rfl) (Nat.le_of_ble_eq_true rfl) ?_
      exact x_iret C hr hlk dL_type_17
    have hf := x_ine hc10 hf
    cases hf
/-! WaitingRoomSimulationLaw.runScript(LWaitingRoomSimulation;[J)I -/
abbrev rm_L_runScript (c s : Nat) : Room := { frames := 11, cells := c, slots := s, locals := 386 }
def f_L_runScript (M : xM) : Option (Int32 × xM) := (f_X6_runScript M).bind fun q1 => x_case q1.1 (fun r3 => (fun (M5 : xM) => x_let (sJ M5 r3.toInt64) fun M6 => some ((0 : Int32), M6)) q1.2) (fun E4 => (fun (M5 : xM) => if E4 = "java/lang/IllegalArgumentException" then some ((1 : Int32), M5) else if E4 = "java/lang/IllegalStateException" then some ((2 : Int32), M5) else none) q1.2)
set_option maxHeartbeats 4000000 in
set_option maxRecDepth 100000 in
theorem t_L_runScript {l : Launch} {G : xG} {ta : Nat × Nat} {M : xM} {out : Int32 × xM} (hfl : l.stackTraces = false) (hf : f_L_runScript M = some out) : xMet G l yL_runScript wsL_runScript (rm_L_runScript 2 148) 2 148 ta M [.ref (xad G 0), .ref (xad G 20)] (some (.int out.1)) out.2 := by
  refine x_metH (cc := cL_runScript) (nL := 3) (ret := some .int) (hh := [(0, 8, 11, 13), (0, 8, 14, 15)]) (by decide) rfl (Nat.le_of_ble_eq_true rfl) ?_
  intro p e s m args below meth c C hr hlk htb
  have C : xC G p s m args c cL_runScript 3 wsL_runScript RL := C
  unfold f_L_runScript at hf
  show xW G p l e (rm_L_runScript 2 148) s m args below meth c 3 (MQ below (xQr G (some (.int out.1)) out.2) args s 2 148 (xAs G)) 0 0 ta M 0 [(0, .ref (xad G 0)), (1, .ref (xad G 20))] []
  refine x_aload_n C 1 dL_runScript_0 rfl ?_
  refine x_iconst (v := 0) C dL_runScript_1 (by decide) ?_
  refine x_aload_n C 0 dL_runScript_2 rfl ?_
  obtain ⟨q1, hg, hf⟩ := x_bd hf
  rcases q1 with ⟨r3 | E4, M5⟩
  · have hf := x_ci hf
    refine x_callVXr (w := .int r3) (mc := 2) (ms := 148) C (by rw [xkd_0]; decide) (by rw [xkd_0]; decide) (xc8 xkd_0) rfl (t_X6_runScript hfl hg) (cwV 0 C.1.2.2.2.2 gL_runScript_X6_runScript rfl rfl rfl (by decide +kernel) ⟨Nat.le_of_ble_eq_true rfl, Nat.le_of_ble_eq_true rfl⟩) rfl rfl (Nat.le_of_ble_eq_true rfl) dL_runScript_3 ⟨Nat.le_of_ble_eq_true rfl, Nat.le_of_ble_eq_true rfl⟩ (fun ta2 => ?_)
    clear hg
    refine x_i2l (v := r3.toInt64) C dL_runScript_6 rfl ?_
    refine x_last C dL_runScript_7 ?_
    obtain ⟨M6, e7, hf⟩ := x_lt hf
    rw [← e7]
    clear e7
    refine x_goto C 17 dL_runScript_8 (by decide) ?_
    refine x_iconst (v := 0) C dL_runScript_17 (by decide) ?_
    obtain rfl := Option.some.inj hf
    refine x_widen (k' := 2) (n' := 148) (Nat.le_of_ble_eq_true rfl) (Nat.le_of_ble_eq_true rfl) ?_
    exact x_iret C hr hlk dL_runScript_18
  · have hf := x_cx hf
    refine x_callVXt (mc := 2) (ms := 148) C (by rw [xkd_0]; decide) (by rw [xkd_0]; decide) (xc8 xkd_0) rfl (t_X6_runScript hfl hg) (cwV 0 C.1.2.2.2.2 gL_runScript_X6_runScript rfl rfl rfl (by decide +kernel) ⟨Nat.le_of_ble_eq_true rfl, Nat.le_of_ble_eq_true rfl⟩) rfl rfl (Nat.le_of_ble_eq_true rfl) dL_runScript_3 ⟨Nat.le_of_ble_eq_true rfl, Nat.le_of_ble_eq_true rfl⟩ (fun ta2 => ?_)
    rcases Decidable.em (E4 = "java/lang/IllegalArgumentException") with hc8 | hc8
    · have hf := x_ip hc8 hf
      subst hc8
      refine x_catch C htb 0 [] (name := "java/lang/IllegalArgumentException") rfl (by decide) (by decide) (by decide +kernel) (by decide) (by decide +kernel) (fun x9 => ?_)
      refine x_astore_n (lv' := [(2, .ref x9), (0, .ref (xad G 0)), (1, .ref (xad G 20))]) C dL_runScript_11 rfl (by decide) rfl ?_
      refine x_iconst (v := 1) C dL_runScript_12 (by decide) ?_
      obtain rfl := Option.some.inj hf
      refine x_widen (k' := 2) (n' := 148) (Nat.le_of_ble_eq_true rfl) (Nat.le_of_ble_eq_true rfl) ?_
      exact x_iret C hr hlk dL_runScript_13
    have hf := x_ine hc8 hf
    rcases Decidable.em (E4 = "java/lang/IllegalStateException") with hc10 | hc10
    · have hf := x_ip hc10 hf
      subst hc10
      refine x_catch C htb 1 ["java/lang/IllegalArgumentException"] (name := "java/lang/IllegalStateException") rfl (by decide) (by decide) (by decide +kernel) (by decide) (by decide +kernel) (fun x11 => ?_)
      refine x_astore_n (lv' := [(2, .ref x11), (0, .ref (xad G 0)), (1, .ref (xad G 20))]) C dL_runScript_14 rfl (by decide) rfl ?_
      refine x_iconst (v := 2) C dL_runScript_15 (by decide) ?_
      obtain rfl := Option.some.inj hf
      refine x_widen (k' := 2) (n' := 148) (Nat.le_of_ble_eq_true rfl) (Nat.le_of_ble_eq_true rfl) ?_
      exact x_iret C hr hlk dL_runScript_16
    have hf := x_ine hc10 hf
    cases hf
/-! WaitingRoomSimulationLaw.errorPosition(LWaitingRoomSimulation;[J)I -/
abbrev rm_L_errorPosition (c s : Nat) : Room := { frames := 9, cells := c, slots := s, locals := 220 }
def f_L_errorPosition (M : xM) : Option (Int32 × xM) := (f_X6_errorPosition M).bind fun q1 => x_case q1 (fun r3 => x_let (sJ M r3.toInt64) fun M5 => some ((0 : Int32), M5)) (fun E4 => if E4 = "java/util/NoSuchElementException" then some ((1 : Int32), M) else none)
set_option maxHeartbeats 4000000 in
set_option maxRecDepth 100000 in
theorem t_L_errorPosition {l : Launch} {G : xG} {ta : Nat × Nat} {M : xM} {out : Int32 × xM} (hfl : l.stackTraces = false) (hf : f_L_errorPosition M = some out) : xMet G l yL_errorPosition wsL_errorPosition (rm_L_errorPosition 1 6) 1 6 ta M [.ref (xad G 0), .ref (xad G 20)] (some (.int out.1)) out.2 := by
  refine x_metH (cc := cL_errorPosition) (nL := 3) (ret := some .int) (hh := [(0, 8, 11, 30)]) (by decide) rfl (Nat.le_of_ble_eq_true rfl) ?_
  intro p e s m args below meth c C hr hlk htb
  have C : xC G p s m args c cL_errorPosition 3 wsL_errorPosition RL := C
  unfold f_L_errorPosition at hf
  show xW G p l e (rm_L_errorPosition 1 6) s m args below meth c 3 (MQ below (xQr G (some (.int out.1)) out.2) args s 1 6 (xAs G)) 0 0 ta M 0 [(0, .ref (xad G 0)), (1, .ref (xad G 20))] []
  refine x_aload_n C 1 dL_errorPosition_0 rfl ?_
  refine x_iconst (v := 0) C dL_errorPosition_1 (by decide) ?_
  refine x_aload_n C 0 dL_errorPosition_2 rfl ?_
  obtain ⟨q1, hg, hf⟩ := x_bd hf
  rcases q1 with r3 | E4
  · have hf := x_ci hf
    refine x_callVXr (w := .int r3) (mc := 0) (ms := 0) C (by rw [xkd_0]; decide) (by rw [xkd_0]; decide) (xc8 xkd_0) rfl (t_X6_errorPosition hfl hg) (cwV 0 C.1.2.2.2.2 gL_errorPosition_X6_errorPosition rfl rfl rfl (by decide +kernel) ⟨Nat.le_of_ble_eq_true rfl, Nat.le_of_ble_eq_true rfl⟩) rfl rfl (Nat.le_of_ble_eq_true rfl) dL_errorPosition_3 ⟨Nat.zero_le _, Nat.zero_le _⟩ (fun ta2 => ?_)
    clear hg
    refine x_i2l (v := r3.toInt64) C dL_errorPosition_6 rfl ?_
    refine x_last C dL_errorPosition_7 ?_
    obtain ⟨M5, e6, hf⟩ := x_lt hf
    rw [← e6]
    clear e6
    refine x_goto C 14 dL_errorPosition_8 (by decide) ?_
    refine x_iconst (v := 0) C dL_errorPosition_14 (by decide) ?_
    obtain rfl := Option.some.inj hf
    refine x_widen (k' := 1) (n' := 6) (Nat.le_of_ble_eq_true rfl) (Nat.le_of_ble_eq_true rfl) ?_
    exact x_iret C hr hlk dL_errorPosition_15
  · have hf := x_cx hf
    refine x_callVXt (mc := 1) (ms := 6) C (by rw [xkd_0]; decide) (by rw [xkd_0]; decide) (xc8 xkd_0) rfl (t_X6_errorPosition hfl hg) (cwV 0 C.1.2.2.2.2 gL_errorPosition_X6_errorPosition rfl rfl rfl (by decide +kernel) ⟨Nat.le_of_ble_eq_true rfl, Nat.le_of_ble_eq_true rfl⟩) rfl rfl (Nat.le_of_ble_eq_true rfl) dL_errorPosition_3 ⟨Nat.le_of_ble_eq_true rfl, Nat.le_of_ble_eq_true rfl⟩ (fun ta2 => ?_)
    rcases Decidable.em (E4 = "java/util/NoSuchElementException") with hc7 | hc7
    · have hf := x_ip hc7 hf
      subst hc7
      refine x_catch C htb 0 [] (name := "java/util/NoSuchElementException") rfl (by decide) (by decide) (by decide +kernel) (by decide) (by decide +kernel) (fun x8 => ?_)
      refine x_astore_n (lv' := [(2, .ref x8), (0, .ref (xad G 0)), (1, .ref (xad G 20))]) C dL_errorPosition_11 rfl (by decide) rfl ?_
      refine x_iconst (v := 1) C dL_errorPosition_12 (by decide) ?_
      obtain rfl := Option.some.inj hf
      refine x_widen (k' := 1) (n' := 6) (Nat.le_of_ble_eq_true rfl) (Nat.le_of_ble_eq_true rfl) ?_
      exact x_iret C hr hlk dL_errorPosition_13
    have hf := x_ine hc7 hf
    cases hf
/-! WaitingRoomSimulationLaw.failedCommand(LWaitingRoomSimulation;[J)I -/
abbrev rm_L_failedCommand (c s : Nat) : Room := { frames := 9, cells := c, slots := s, locals := 220 }
def f_L_failedCommand (M : xM) : Option (Int32 × xM) := (f_X6_failedCommand M).bind fun q1 => x_case q1 (fun r3 => x_let (sJ M r3.toInt64) fun M5 => some ((0 : Int32), M5)) (fun E4 => if E4 = "java/util/NoSuchElementException" then some ((1 : Int32), M) else none)
set_option maxHeartbeats 4000000 in
set_option maxRecDepth 100000 in
theorem t_L_failedCommand {l : Launch} {G : xG} {ta : Nat × Nat} {M : xM} {out : Int32 × xM} (hfl : l.stackTraces = false) (hf : f_L_failedCommand M = some out) : xMet G l yL_failedCommand wsL_failedCommand (rm_L_failedCommand 1 6) 1 6 ta M [.ref (xad G 0), .ref (xad G 20)] (some (.int out.1)) out.2 := by
  refine x_metH (cc := cL_failedCommand) (nL := 3) (ret := some .int) (hh := [(0, 8, 11, 30)]) (by decide) rfl (Nat.le_of_ble_eq_true rfl) ?_
  intro p e s m args below meth c C hr hlk htb
  have C : xC G p s m args c cL_failedCommand 3 wsL_failedCommand RL := C
  unfold f_L_failedCommand at hf
  show xW G p l e (rm_L_failedCommand 1 6) s m args below meth c 3 (MQ below (xQr G (some (.int out.1)) out.2) args s 1 6 (xAs G)) 0 0 ta M 0 [(0, .ref (xad G 0)), (1, .ref (xad G 20))] []
  refine x_aload_n C 1 dL_failedCommand_0 rfl ?_
  refine x_iconst (v := 0) C dL_failedCommand_1 (by decide) ?_
  refine x_aload_n C 0 dL_failedCommand_2 rfl ?_
  obtain ⟨q1, hg, hf⟩ := x_bd hf
  rcases q1 with r3 | E4
  · have hf := x_ci hf
    refine x_callVXr (w := .int r3) (mc := 0) (ms := 0) C (by rw [xkd_0]; decide) (by rw [xkd_0]; decide) (xc8 xkd_0) rfl (t_X6_failedCommand hfl hg) (cwV 0 C.1.2.2.2.2 gL_failedCommand_X6_failedCommand rfl rfl rfl (by decide +kernel) ⟨Nat.le_of_ble_eq_true rfl, Nat.le_of_ble_eq_true rfl⟩) rfl rfl (Nat.le_of_ble_eq_true rfl) dL_failedCommand_3 ⟨Nat.zero_le _, Nat.zero_le _⟩ (fun ta2 => ?_)
    clear hg
    refine x_i2l (v := r3.toInt64) C dL_failedCommand_6 rfl ?_
    refine x_last C dL_failedCommand_7 ?_
    obtain ⟨M5, e6, hf⟩ := x_lt hf
    rw [← e6]
    clear e6
    refine x_goto C 14 dL_failedCommand_8 (by decide) ?_
    refine x_iconst (v := 0) C dL_failedCommand_14 (by decide) ?_
    obtain rfl := Option.some.inj hf
    refine x_widen (k' := 1) (n' := 6) (Nat.le_of_ble_eq_true rfl) (Nat.le_of_ble_eq_true rfl) ?_
    exact x_iret C hr hlk dL_failedCommand_15
  · have hf := x_cx hf
    refine x_callVXt (mc := 1) (ms := 6) C (by rw [xkd_0]; decide) (by rw [xkd_0]; decide) (xc8 xkd_0) rfl (t_X6_failedCommand hfl hg) (cwV 0 C.1.2.2.2.2 gL_failedCommand_X6_failedCommand rfl rfl rfl (by decide +kernel) ⟨Nat.le_of_ble_eq_true rfl, Nat.le_of_ble_eq_true rfl⟩) rfl rfl (Nat.le_of_ble_eq_true rfl) dL_failedCommand_3 ⟨Nat.le_of_ble_eq_true rfl, Nat.le_of_ble_eq_true rfl⟩ (fun ta2 => ?_)
    rcases Decidable.em (E4 = "java/util/NoSuchElementException") with hc7 | hc7
    · have hf := x_ip hc7 hf
      subst hc7
      refine x_catch C htb 0 [] (name := "java/util/NoSuchElementException") rfl (by decide) (by decide) (by decide +kernel) (by decide) (by decide +kernel) (fun x8 => ?_)
      refine x_astore_n (lv' := [(2, .ref x8), (0, .ref (xad G 0)), (1, .ref (xad G 20))]) C dL_failedCommand_11 rfl (by decide) rfl ?_
      refine x_iconst (v := 1) C dL_failedCommand_12 (by decide) ?_
      obtain rfl := Option.some.inj hf
      refine x_widen (k' := 1) (n' := 6) (Nat.le_of_ble_eq_true rfl) (Nat.le_of_ble_eq_true rfl) ?_
      exact x_iret C hr hlk dL_failedCommand_13
    have hf := x_ine hc7 hf
    cases hf
/-! WaitingRoomSimulationLaw.undo(LWaitingRoomSimulation;[J)I -/
abbrev rm_L_undo (c s : Nat) : Room := { frames := 9, cells := c, slots := s, locals := 221 }
def f_L_undo (M : xM) : Option (Int32 × xM) := (f_X6_undo M).bind fun q1 => x_case q1.1 (fun r3 => (fun (M5 : xM) => x_let (sJ M5 r3.toInt64) fun M6 => some ((0 : Int32), M6)) q1.2) (fun E4 => (fun (M5 : xM) => if E4 = "java/util/NoSuchElementException" then some ((1 : Int32), M5) else none) q1.2)
set_option maxHeartbeats 4000000 in
set_option maxRecDepth 100000 in
theorem t_L_undo {l : Launch} {G : xG} {ta : Nat × Nat} {M : xM} {out : Int32 × xM} (hfl : l.stackTraces = false) (hf : f_L_undo M = some out) : xMet G l yL_undo wsL_undo (rm_L_undo 1 6) 1 6 ta M [.ref (xad G 0), .ref (xad G 20)] (some (.int out.1)) out.2 := by
  refine x_metH (cc := cL_undo) (nL := 3) (ret := some .int) (hh := [(0, 8, 11, 30)]) (by decide) rfl (Nat.le_of_ble_eq_true rfl) ?_
  intro p e s m args below meth c C hr hlk htb
  have C : xC G p s m args c cL_undo 3 wsL_undo RL := C
  unfold f_L_undo at hf
  show xW G p l e (rm_L_undo 1 6) s m args below meth c 3 (MQ below (xQr G (some (.int out.1)) out.2) args s 1 6 (xAs G)) 0 0 ta M 0 [(0, .ref (xad G 0)), (1, .ref (xad G 20))] []
  refine x_aload_n C 1 dL_undo_0 rfl ?_
  refine x_iconst (v := 0) C dL_undo_1 (by decide) ?_
  refine x_aload_n C 0 dL_undo_2 rfl ?_
  obtain ⟨q1, hg, hf⟩ := x_bd hf
  rcases q1 with ⟨r3 | E4, M5⟩
  · have hf := x_ci hf
    refine x_callVXr (w := .int r3) (mc := 0) (ms := 0) C (by rw [xkd_0]; decide) (by rw [xkd_0]; decide) (xc8 xkd_0) rfl (t_X6_undo hfl hg) (cwV 0 C.1.2.2.2.2 gL_undo_X6_undo rfl rfl rfl (by decide +kernel) ⟨Nat.le_of_ble_eq_true rfl, Nat.le_of_ble_eq_true rfl⟩) rfl rfl (Nat.le_of_ble_eq_true rfl) dL_undo_3 ⟨Nat.zero_le _, Nat.zero_le _⟩ (fun ta2 => ?_)
    clear hg
    refine x_i2l (v := r3.toInt64) C dL_undo_6 rfl ?_
    refine x_last C dL_undo_7 ?_
    obtain ⟨M6, e7, hf⟩ := x_lt hf
    rw [← e7]
    clear e7
    refine x_goto C 14 dL_undo_8 (by decide) ?_
    refine x_iconst (v := 0) C dL_undo_14 (by decide) ?_
    obtain rfl := Option.some.inj hf
    refine x_widen (k' := 1) (n' := 6) (Nat.le_of_ble_eq_true rfl) (Nat.le_of_ble_eq_true rfl) ?_
    exact x_iret C hr hlk dL_undo_15
  · have hf := x_cx hf
    refine x_callVXt (mc := 1) (ms := 6) C (by rw [xkd_0]; decide) (by rw [xkd_0]; decide) (xc8 xkd_0) rfl (t_X6_undo hfl hg) (cwV 0 C.1.2.2.2.2 gL_undo_X6_undo rfl rfl rfl (by decide +kernel) ⟨Nat.le_of_ble_eq_true rfl, Nat.le_of_ble_eq_true rfl⟩) rfl rfl (Nat.le_of_ble_eq_true rfl) dL_undo_3 ⟨Nat.le_of_ble_eq_true rfl, Nat.le_of_ble_eq_true rfl⟩ (fun ta2 => ?_)
    rcases Decidable.em (E4 = "java/util/NoSuchElementException") with hc8 | hc8
    · have hf := x_ip hc8 hf
      subst hc8
      refine x_catch C htb 0 [] (name := "java/util/NoSuchElementException") rfl (by decide) (by decide) (by decide +kernel) (by decide) (by decide +kernel) (fun x9 => ?_)
      refine x_astore_n (lv' := [(2, .ref x9), (0, .ref (xad G 0)), (1, .ref (xad G 20))]) C dL_undo_11 rfl (by decide) rfl ?_
      refine x_iconst (v := 1) C dL_undo_12 (by decide) ?_
      obtain rfl := Option.some.inj hf
      refine x_widen (k' := 1) (n' := 6) (Nat.le_of_ble_eq_true rfl) (Nat.le_of_ble_eq_true rfl) ?_
      exact x_iret C hr hlk dL_undo_13
    have hf := x_ine hc8 hf
    cases hf
/-! WaitingRoomSimulationLaw.restore(LWaitingRoomSimulation;[J)I -/
abbrev rm_L_restore (c s : Nat) : Room := { frames := 9, cells := c, slots := s, locals := 220 }
def f_L_restore (M : xM) : Option (Int32 × xM) := (f_X6_restore M).bind fun q1 => x_case q1.1 (fun r3 => (fun (M5 : xM) => x_let (sJ M5 r3.toInt64) fun M6 => some ((0 : Int32), M6)) q1.2) (fun E4 => (fun (M5 : xM) => if E4 = "java/lang/IllegalStateException" then some ((1 : Int32), M5) else none) q1.2)
set_option maxHeartbeats 4000000 in
set_option maxRecDepth 100000 in
theorem t_L_restore {l : Launch} {G : xG} {ta : Nat × Nat} {M : xM} {out : Int32 × xM} (hfl : l.stackTraces = false) (hf : f_L_restore M = some out) : xMet G l yL_restore wsL_restore (rm_L_restore 1 6) 1 6 ta M [.ref (xad G 0), .ref (xad G 20)] (some (.int out.1)) out.2 := by
  refine x_metH (cc := cL_restore) (nL := 3) (ret := some .int) (hh := [(0, 8, 11, 15)]) (by decide) rfl (Nat.le_of_ble_eq_true rfl) ?_
  intro p e s m args below meth c C hr hlk htb
  have C : xC G p s m args c cL_restore 3 wsL_restore RL := C
  unfold f_L_restore at hf
  show xW G p l e (rm_L_restore 1 6) s m args below meth c 3 (MQ below (xQr G (some (.int out.1)) out.2) args s 1 6 (xAs G)) 0 0 ta M 0 [(0, .ref (xad G 0)), (1, .ref (xad G 20))] []
  refine x_aload_n C 1 dL_restore_0 rfl ?_
  refine x_iconst (v := 0) C dL_restore_1 (by decide) ?_
  refine x_aload_n C 0 dL_restore_2 rfl ?_
  obtain ⟨q1, hg, hf⟩ := x_bd hf
  rcases q1 with ⟨r3 | E4, M5⟩
  · have hf := x_ci hf
    refine x_callVXr (w := .int r3) (mc := 0) (ms := 0) C (by rw [xkd_0]; decide) (by rw [xkd_0]; decide) (xc8 xkd_0) rfl (t_X6_restore hfl hg) (cwV 0 C.1.2.2.2.2 gL_restore_X6_restore rfl rfl rfl (by decide +kernel) ⟨Nat.le_of_ble_eq_true rfl, Nat.le_of_ble_eq_true rfl⟩) rfl rfl (Nat.le_of_ble_eq_true rfl) dL_restore_3 ⟨Nat.zero_le _, Nat.zero_le _⟩ (fun ta2 => ?_)
    clear hg
    refine x_i2l (v := r3.toInt64) C dL_restore_6 rfl ?_
    refine x_last C dL_restore_7 ?_
    obtain ⟨M6, e7, hf⟩ := x_lt hf
    rw [← e7]
    clear e7
    refine x_goto C 14 dL_restore_8 (by decide) ?_
    refine x_iconst (v := 0) C dL_restore_14 (by decide) ?_
    obtain rfl := Option.some.inj hf
    refine x_widen (k' := 1) (n' := 6) (Nat.le_of_ble_eq_true rfl) (Nat.le_of_ble_eq_true rfl) ?_
    exact x_iret C hr hlk dL_restore_15
  · have hf := x_cx hf
    refine x_callVXt (mc := 1) (ms := 6) C (by rw [xkd_0]; decide) (by rw [xkd_0]; decide) (xc8 xkd_0) rfl (t_X6_restore hfl hg) (cwV 0 C.1.2.2.2.2 gL_restore_X6_restore rfl rfl rfl (by decide +kernel) ⟨Nat.le_of_ble_eq_true rfl, Nat.le_of_ble_eq_true rfl⟩) rfl rfl (Nat.le_of_ble_eq_true rfl) dL_restore_3 ⟨Nat.le_of_ble_eq_true rfl, Nat.le_of_ble_eq_true rfl⟩ (fun ta2 => ?_)
    rcases Decidable.em (E4 = "java/lang/IllegalStateException") with hc8 | hc8
    · have hf := x_ip hc8 hf
      subst hc8
      refine x_catch C htb 0 [] (name := "java/lang/IllegalStateException") rfl (by decide) (by decide) (by decide +kernel) (by decide) (by decide +kernel) (fun x9 => ?_)
      refine x_astore_n (lv' := [(2, .ref x9), (0, .ref (xad G 0)), (1, .ref (xad G 20))]) C dL_restore_11 rfl (by decide) rfl ?_
      refine x_iconst (v := 1) C dL_restore_12 (by decide) ?_
      obtain rfl := Option.some.inj hf
      refine x_widen (k' := 1) (n' := 6) (Nat.le_of_ble_eq_true rfl) (Nat.le_of_ble_eq_true rfl) ?_
      exact x_iret C hr hlk dL_restore_13
    have hf := x_ine hc8 hf
    cases hf
