abbrev xf5 (G : xG) (M : xM) (c : Nat) (j : Nat) : Option Value := ([.ref (xad G (c + 1)), .int (M.1 c 1), .ref (xad G (c + 2)), .int (M.1 c 3), .ref (xad G (c + 3)), .ref (xad G (c + 4)), .ref (xad G (c + 5)), .int (M.1 c 7), .int (M.1 c 8), .int (M.1 c 9), .int (M.1 c 10), .int (M.1 c 11), .int (M.1 c 12), .int (M.1 c 13)] : List Value)[j]?
abbrev xf4 (G : xG) (M : xM) (c : Nat) (j : Nat) : Option Value := ([.int (M.1 c 0), .int (M.1 c 1), .int (M.1 c 2), .int (M.1 c 3), .int (M.1 c 4), .int (M.1 c 5), .int (M.1 c 6)] : List Value)[j]?
abbrev xf7 (G : xG) (M : xM) (c : Nat) (j : Nat) : Option Value := ([.int (M.1 c 0), .int (M.1 c 1), .int (M.1 c 2), .int (M.1 c 3)] : List Value)[j]?
abbrev xf8 (G : xG) (M : xM) (c : Nat) (j : Nat) : Option Value := ([.ref (xad G (M.2.1 c 0)), .ref (xad G (M.2.1 c 1)), .ref (xad G (M.2.1 c 2)), .int (M.1 c 3), .ref (xad G 1), .int (M.1 c 5), .ref (xad G 2), .int (M.1 c 7), .int (M.1 c 8), .ref (xad G 6), .ref (xad G 8)] : List Value)[j]?
abbrev xf9 (G : xG) (M : xM) (c : Nat) (j : Nat) : Option Value := ([.ref (xad G 10), .ref (xad G 11), .ref (xad G 12), .ref (xad G 13), .int (M.1 c 4), .ref (xad G 14), .int (M.1 c 6), .int (M.1 c 7), .int (M.1 c 8), .int (M.1 c 9), .ref (xad G 15), .int (M.1 c 11), .ref (xad G 16), .int (M.1 c 13), .ref (xad G 17), .ref (xad G 18), .ref (xad G 19), .int (M.1 c 17), .int (M.1 c 18), .int (M.1 c 19), .int (M.1 c 20)] : List Value)[j]?
abbrev xf6 (G : xG) (M : xM) (c : Nat) (j : Nat) : Option Value := ([.ref (xad G 4), .ref (xad G 3), .int (M.1 c 2)] : List Value)[j]?
theorem xkd_0 : xkd 0 = 8 := by decide
theorem xkd_1 : xkd 1 = 24 := by decide
theorem xkd_2 : xkd 2 = 6 := by decide
theorem xkd_3 : xkd 3 = 20 := by decide
theorem xkd_4 : xkd 4 = 1 := by decide
theorem xkd_6 : xkd 6 = 1 := by decide
theorem xkd_8 : xkd 8 = 20 := by decide
theorem xkd_9 : xkd 9 = 9 := by decide
theorem xkd_10 : xkd 10 = 20 := by decide
theorem xkd_11 : xkd 11 = 20 := by decide
theorem xkd_12 : xkd 12 = 20 := by decide
theorem xkd_13 : xkd 13 = 20 := by decide
theorem xkd_14 : xkd 14 = 20 := by decide
theorem xkd_15 : xkd 15 = 20 := by decide
theorem xkd_16 : xkd 16 = 20 := by decide
theorem xkd_17 : xkd 17 = 22 := by decide
theorem xkd_18 : xkd 18 = 20 := by decide
theorem xkd_19 : xkd 19 = 20 := by decide
theorem xkd_20 : xkd 20 = 26 := by decide
theorem xkd_21 : xkd 21 = 27 := by decide
theorem xwl_set1 (G : xG) (ta : Nat × Nat) {M M' : xM} {c : Nat} {e : va_E} (he : xcM G ta M' c = e) (ho : ∀ c', c' ≠ c → c' < 253 → xcM G ta M' c' = xcM G ta M c') : (xwl G ta M).set c (xA G ta c, e) = xwl G ta M' := by
  apply List.ext_getElem?
  intro i
  unfold xwl
  rw [List.getElem?_set]
  by_cases hi : i < 253
  · rw [List.getElem?_map, List.getElem?_map, List.getElem?_range hi]
    by_cases h : c = i
    · subst h
      simp [hi, he]
    · simp [h, ho i (fun z => h z.symm) hi]
  · have h1 : (List.range 253)[i]? = none := by simp; omega
    rw [List.getElem?_map, List.getElem?_map, h1]
    by_cases h : c = i
    · subst h
      simp [hi]
    · simp [h]
section XROWS2
variable {G : xG} {p : Program} {l : Launch} {e : Env} {R : Room} {s : State} {m : MethodId} {args : Array Value} {below : List Frame} {meth : Method} {c : Code} {nL : Nat} {Q : State → Prop} {k n : Nat} {ta : Nat × Nat} {M M' : xM} {pc : Nat} {lv : List (Nat × Value)} {st rest : List Value} {cc : ByteArray} {Ts : List Cond} {own : String}
theorem x_nb {v : Int32} (h : v = 0 ∨ v = 1) : narrow .boolean (.int v) = .int v := by rcases h with rfl | rfl <;> rfl
theorem x_fb {v : Int32} (h : v = 0 ∨ v = 1) : fits .boolean (.int v) = true := by rcases h with rfl | rfl <;> rfl
theorem x_nc {v : Int32} (h : vp_nar .char v = v) : narrow .char (.int v) = .int v := by
  have e : narrow .char (.int v) = .int (vp_nar .char v) := rfl
  rw [e, h]
theorem x_get5 (C : xC G p s m args c cc nL Ts own) {cd index : Nat} {v : Value} (hk : xkd cd = 5) (hin : ∀ w ∈ wsX30, w ∈ Ts) (j : Nat) (hj : j < 14) (hlink : Cond.fieldLink own index RX3 (TX3 j).2.1 (TX3 j).2.2.1 ∈ Ts) (hs : (TX3 j).1 = RX3) (hv : xf5 G M cd j = some v) (hdg : decode cc pc = .ok (.getfield index, 3)) (kk : xW G p l e R s m args below meth c nL Q k n ta M (pc + 3) lv (v :: rest)) : xW G p l e R s m args below meth c nL Q k n ta M pc lv (.ref (xad G cd) :: rest) :=
  x_get C (by rw [hk]; decide) (by rw [hk]; decide) (xc5 hk) (show vwCl[5]? = some (RX3, TX3, 14) from rfl) hin hj hlink hs hv hdg kk
theorem x_get4 (C : xC G p s m args c cc nL Ts own) {cd index : Nat} {v : Value} (hk : xkd cd = 4) (hin : ∀ w ∈ wsX20, w ∈ Ts) (j : Nat) (hj : j < 7) (hlink : Cond.fieldLink own index RX2 (TX2 j).2.1 (TX2 j).2.2.1 ∈ Ts) (hs : (TX2 j).1 = RX2) (hv : xf4 G M cd j = some v) (hdg : decode cc pc = .ok (.getfield index, 3)) (kk : xW G p l e R s m args below meth c nL Q k n ta M (pc + 3) lv (v :: rest)) : xW G p l e R s m args below meth c nL Q k n ta M pc lv (.ref (xad G cd) :: rest) :=
  x_get C (by rw [hk]; decide) (by rw [hk]; decide) (xc4 hk) (show vwCl[4]? = some (RX2, TX2, 7) from rfl) hin hj hlink hs hv hdg kk
theorem x_get7 (C : xC G p s m args c cc nL Ts own) {cd index : Nat} {v : Value} (hk : xkd cd = 7) (hin : ∀ w ∈ wsX50, w ∈ Ts) (j : Nat) (hj : j < 4) (hlink : Cond.fieldLink own index RX5 (TX5 j).2.1 (TX5 j).2.2.1 ∈ Ts) (hs : (TX5 j).1 = RX5) (hv : xf7 G M cd j = some v) (hdg : decode cc pc = .ok (.getfield index, 3)) (kk : xW G p l e R s m args below meth c nL Q k n ta M (pc + 3) lv (v :: rest)) : xW G p l e R s m args below meth c nL Q k n ta M pc lv (.ref (xad G cd) :: rest) :=
  x_get C (by rw [hk]; decide) (by rw [hk]; decide) (xc7 hk) (show vwCl[7]? = some (RX5, TX5, 4) from rfl) hin hj hlink hs hv hdg kk
theorem x_get8 (C : xC G p s m args c cc nL Ts own) {cd index : Nat} {v : Value} (hk : xkd cd = 8) (hin : ∀ w ∈ wsX60, w ∈ Ts) (j : Nat) (hj : j < 11) (hlink : Cond.fieldLink own index RX6 (TX6 j).2.1 (TX6 j).2.2.1 ∈ Ts) (hs : (TX6 j).1 = RX6) (hv : xf8 G M cd j = some v) (hdg : decode cc pc = .ok (.getfield index, 3)) (kk : xW G p l e R s m args below meth c nL Q k n ta M (pc + 3) lv (v :: rest)) : xW G p l e R s m args below meth c nL Q k n ta M pc lv (.ref (xad G cd) :: rest) :=
  x_get C (by rw [hk]; decide) (by rw [hk]; decide) (xc8 hk) (show vwCl[8]? = some (RX6, TX6, 11) from rfl) hin hj hlink hs hv hdg kk
theorem x_get9 (C : xC G p s m args c cc nL Ts own) {cd index : Nat} {v : Value} (hk : xkd cd = 9) (hin : ∀ w ∈ wsX70, w ∈ Ts) (j : Nat) (hj : j < 21) (hlink : Cond.fieldLink own index RX7 (TX7 j).2.1 (TX7 j).2.2.1 ∈ Ts) (hs : (TX7 j).1 = RX7) (hv : xf9 G M cd j = some v) (hdg : decode cc pc = .ok (.getfield index, 3)) (kk : xW G p l e R s m args below meth c nL Q k n ta M (pc + 3) lv (v :: rest)) : xW G p l e R s m args below meth c nL Q k n ta M pc lv (.ref (xad G cd) :: rest) :=
  x_get C (by rw [hk]; decide) (by rw [hk]; decide) (xc9 hk) (show vwCl[9]? = some (RX7, TX7, 21) from rfl) hin hj hlink hs hv hdg kk
theorem x_get6 (C : xC G p s m args c cc nL Ts own) {cd index : Nat} {v : Value} (hk : xkd cd = 6) (hin : ∀ w ∈ wsX40, w ∈ Ts) (j : Nat) (hj : j < 3) (hlink : Cond.fieldLink own index RX4 (TX4 j).2.1 (TX4 j).2.2.1 ∈ Ts) (hs : (TX4 j).1 = RX4) (hv : xf6 G M cd j = some v) (hdg : decode cc pc = .ok (.getfield index, 3)) (kk : xW G p l e R s m args below meth c nL Q k n ta M (pc + 3) lv (v :: rest)) : xW G p l e R s m args below meth c nL Q k n ta M pc lv (.ref (xad G cd) :: rest) :=
  x_get C (by rw [hk]; decide) (by rw [hk]; decide) (xc6 hk) (show vwCl[6]? = some (RX4, TX4, 3) from rfl) hin hj hlink hs hv hdg kk
theorem x_put5 (C : xC G p s m args c cc nL Ts own) {cd index : Nat} {w : Int32} (hk : xkd cd = 5) (hin : ∀ w ∈ wsX30, w ∈ Ts) (j : Nat) (hj : j ∈ [1, 3, 7, 8, 9, 10, 11, 12, 13]) (hlink : Cond.fieldLink own index RX3 (TX3 j).2.1 (TX3 j).2.2.1 ∈ Ts) (hdg : decode cc pc = .ok (.putfield index, 3)) (kk : xW G p l e R s m args below meth c nL Q k n ta (sI M cd j w) (pc + 3) lv rest) : xW G p l e R s m args below meth c nL Q k n ta M pc lv (.int w :: .ref (xad G cd) :: rest) := by
  have e : (sI M cd j w).1 cd = upd (M.1 cd) j w := if_pos rfl
  simp only [List.mem_cons, List.not_mem_nil, or_false] at hj
  rcases hj with rfl | rfl | rfl | rfl | rfl | rfl | rfl | rfl | rfl <;>
  exact x_put C (M' := sI M cd _ w) (ty := .int) (by rw [hk]; decide) (by rw [hk]; decide) (xc5 hk) ((xc5 hk).trans (by rw [e]; rfl)) rfl (fun c' h => xcM_I h) (show vwCl[5]? = some (RX3, TX3, 14) from rfl) hin tyX3 tyX3_ok nmX3 (by decide) hlink rfl rfl rfl rfl rfl (Nat.le_of_ble_eq_true rfl) hdg kk
theorem x_put4 (C : xC G p s m args c cc nL Ts own) {cd index : Nat} {w : Int32} (hk : xkd cd = 4) (hin : ∀ w ∈ wsX20, w ∈ Ts) (j : Nat) (hj : j ∈ [0, 1, 2, 3, 4]) (hlink : Cond.fieldLink own index RX2 (TX2 j).2.1 (TX2 j).2.2.1 ∈ Ts) (hdg : decode cc pc = .ok (.putfield index, 3)) (kk : xW G p l e R s m args below meth c nL Q k n ta (sI M cd j w) (pc + 3) lv rest) : xW G p l e R s m args below meth c nL Q k n ta M pc lv (.int w :: .ref (xad G cd) :: rest) := by
  have e : (sI M cd j w).1 cd = upd (M.1 cd) j w := if_pos rfl
  simp only [List.mem_cons, List.not_mem_nil, or_false] at hj
  rcases hj with rfl | rfl | rfl | rfl | rfl <;>
  exact x_put C (M' := sI M cd _ w) (ty := .int) (by rw [hk]; decide) (by rw [hk]; decide) (xc4 hk) ((xc4 hk).trans (by rw [e]; rfl)) rfl (fun c' h => xcM_I h) (show vwCl[4]? = some (RX2, TX2, 7) from rfl) hin tyX2 tyX2_ok nmX2 (by decide) hlink rfl rfl rfl rfl rfl (Nat.le_of_ble_eq_true rfl) hdg kk
theorem x_put7 (C : xC G p s m args c cc nL Ts own) {cd index : Nat} {w : Int32} (hk : xkd cd = 7) (hin : ∀ w ∈ wsX50, w ∈ Ts) (j : Nat) (hj : j ∈ [0, 1, 2, 3]) (hlink : Cond.fieldLink own index RX5 (TX5 j).2.1 (TX5 j).2.2.1 ∈ Ts) (hdg : decode cc pc = .ok (.putfield index, 3)) (kk : xW G p l e R s m args below meth c nL Q k n ta (sI M cd j w) (pc + 3) lv rest) : xW G p l e R s m args below meth c nL Q k n ta M pc lv (.int w :: .ref (xad G cd) :: rest) := by
  have e : (sI M cd j w).1 cd = upd (M.1 cd) j w := if_pos rfl
  simp only [List.mem_cons, List.not_mem_nil, or_false] at hj
  rcases hj with rfl | rfl | rfl | rfl <;>
  exact x_put C (M' := sI M cd _ w) (ty := .int) (by rw [hk]; decide) (by rw [hk]; decide) (xc7 hk) ((xc7 hk).trans (by rw [e]; rfl)) rfl (fun c' h => xcM_I h) (show vwCl[7]? = some (RX5, TX5, 4) from rfl) hin tyX5 tyX5_ok nmX5 (by decide) hlink rfl rfl rfl rfl rfl (Nat.le_of_ble_eq_true rfl) hdg kk
theorem x_put8 (C : xC G p s m args c cc nL Ts own) {cd index : Nat} {w : Int32} (hk : xkd cd = 8) (hin : ∀ w ∈ wsX60, w ∈ Ts) (j : Nat) (hj : j ∈ [5, 7, 8]) (hlink : Cond.fieldLink own index RX6 (TX6 j).2.1 (TX6 j).2.2.1 ∈ Ts) (hdg : decode cc pc = .ok (.putfield index, 3)) (kk : xW G p l e R s m args below meth c nL Q k n ta (sI M cd j w) (pc + 3) lv rest) : xW G p l e R s m args below meth c nL Q k n ta M pc lv (.int w :: .ref (xad G cd) :: rest) := by
  have e : (sI M cd j w).1 cd = upd (M.1 cd) j w := if_pos rfl
  simp only [List.mem_cons, List.not_mem_nil, or_false] at hj
  rcases hj with rfl | rfl | rfl <;>
  exact x_put C (M' := sI M cd _ w) (ty := .int) (by rw [hk]; decide) (by rw [hk]; decide) (xc8 hk) ((xc8 hk).trans (by rw [e]; rfl)) rfl (fun c' h => xcM_I h) (show vwCl[8]? = some (RX6, TX6, 11) from rfl) hin tyX6 tyX6_ok nmX6 (by decide) hlink rfl rfl rfl rfl rfl (Nat.le_of_ble_eq_true rfl) hdg kk
theorem x_put9 (C : xC G p s m args c cc nL Ts own) {cd index : Nat} {w : Int32} (hk : xkd cd = 9) (hin : ∀ w ∈ wsX70, w ∈ Ts) (j : Nat) (hj : j ∈ [6, 7, 8, 9, 11, 13, 17, 18, 19]) (hlink : Cond.fieldLink own index RX7 (TX7 j).2.1 (TX7 j).2.2.1 ∈ Ts) (hdg : decode cc pc = .ok (.putfield index, 3)) (kk : xW G p l e R s m args below meth c nL Q k n ta (sI M cd j w) (pc + 3) lv rest) : xW G p l e R s m args below meth c nL Q k n ta M pc lv (.int w :: .ref (xad G cd) :: rest) := by
  have e : (sI M cd j w).1 cd = upd (M.1 cd) j w := if_pos rfl
  simp only [List.mem_cons, List.not_mem_nil, or_false] at hj
  rcases hj with rfl | rfl | rfl | rfl | rfl | rfl | rfl | rfl | rfl <;>
  exact x_put C (M' := sI M cd _ w) (ty := .int) (by rw [hk]; decide) (by rw [hk]; decide) (xc9 hk) ((xc9 hk).trans (by rw [e]; rfl)) rfl (fun c' h => xcM_I h) (show vwCl[9]? = some (RX7, TX7, 21) from rfl) hin tyX7 tyX7_ok nmX7 (by decide) hlink rfl rfl rfl rfl rfl (Nat.le_of_ble_eq_true rfl) hdg kk
theorem x_put6 (C : xC G p s m args c cc nL Ts own) {cd index : Nat} {w : Int32} (hk : xkd cd = 6) (hin : ∀ w ∈ wsX40, w ∈ Ts) (j : Nat) (hj : j ∈ [2]) (hlink : Cond.fieldLink own index RX4 (TX4 j).2.1 (TX4 j).2.2.1 ∈ Ts) (hdg : decode cc pc = .ok (.putfield index, 3)) (kk : xW G p l e R s m args below meth c nL Q k n ta (sI M cd j w) (pc + 3) lv rest) : xW G p l e R s m args below meth c nL Q k n ta M pc lv (.int w :: .ref (xad G cd) :: rest) := by
  have e : (sI M cd j w).1 cd = upd (M.1 cd) j w := if_pos rfl
  simp only [List.mem_cons, List.not_mem_nil, or_false] at hj
  rcases hj with rfl <;>
  exact x_put C (M' := sI M cd _ w) (ty := .int) (by rw [hk]; decide) (by rw [hk]; decide) (xc6 hk) ((xc6 hk).trans (by rw [e]; rfl)) rfl (fun c' h => xcM_I h) (show vwCl[6]? = some (RX4, TX4, 3) from rfl) hin tyX4 tyX4_ok nmX4 (by decide) hlink rfl rfl rfl rfl rfl (Nat.le_of_ble_eq_true rfl) hdg kk
theorem x_putz4 (C : xC G p s m args c cc nL Ts own) {cd index : Nat} {w : Int32} (hk : xkd cd = 4) (hin : ∀ w ∈ wsX20, w ∈ Ts) (j : Nat) (hj : j ∈ [5, 6]) (hw : w = 0 ∨ w = 1) (hlink : Cond.fieldLink own index RX2 (TX2 j).2.1 (TX2 j).2.2.1 ∈ Ts) (hdg : decode cc pc = .ok (.putfield index, 3)) (kk : xW G p l e R s m args below meth c nL Q k n ta (sI M cd j w) (pc + 3) lv rest) : xW G p l e R s m args below meth c nL Q k n ta M pc lv (.int w :: .ref (xad G cd) :: rest) := by
  have e : (sI M cd j w).1 cd = upd (M.1 cd) j w := if_pos rfl
  simp only [List.mem_cons, List.not_mem_nil, or_false] at hj
  rcases hj with rfl | rfl <;>
  exact x_put C (M' := sI M cd _ w) (ty := .boolean) (by rw [hk]; decide) (by rw [hk]; decide) (xc4 hk) ((xc4 hk).trans (by rw [e]; rfl)) rfl (fun c' h => xcM_I h) (show vwCl[4]? = some (RX2, TX2, 7) from rfl) hin tyX2 tyX2_ok nmX2 (by decide) hlink rfl rfl rfl (x_nb hw) (x_fb hw) (Nat.le_of_ble_eq_true rfl) hdg kk
theorem x_putz8 (C : xC G p s m args c cc nL Ts own) {cd index : Nat} {w : Int32} (hk : xkd cd = 8) (hin : ∀ w ∈ wsX60, w ∈ Ts) (j : Nat) (hj : j ∈ [3]) (hw : w = 0 ∨ w = 1) (hlink : Cond.fieldLink own index RX6 (TX6 j).2.1 (TX6 j).2.2.1 ∈ Ts) (hdg : decode cc pc = .ok (.putfield index, 3)) (kk : xW G p l e R s m args below meth c nL Q k n ta (sI M cd j w) (pc + 3) lv rest) : xW G p l e R s m args below meth c nL Q k n ta M pc lv (.int w :: .ref (xad G cd) :: rest) := by
  have e : (sI M cd j w).1 cd = upd (M.1 cd) j w := if_pos rfl
  simp only [List.mem_cons, List.not_mem_nil, or_false] at hj
  rcases hj with rfl <;>
  exact x_put C (M' := sI M cd _ w) (ty := .boolean) (by rw [hk]; decide) (by rw [hk]; decide) (xc8 hk) ((xc8 hk).trans (by rw [e]; rfl)) rfl (fun c' h => xcM_I h) (show vwCl[8]? = some (RX6, TX6, 11) from rfl) hin tyX6 tyX6_ok nmX6 (by decide) hlink rfl rfl rfl (x_nb hw) (x_fb hw) (Nat.le_of_ble_eq_true rfl) hdg kk
theorem x_putz9 (C : xC G p s m args c cc nL Ts own) {cd index : Nat} {w : Int32} (hk : xkd cd = 9) (hin : ∀ w ∈ wsX70, w ∈ Ts) (j : Nat) (hj : j ∈ [4, 20]) (hw : w = 0 ∨ w = 1) (hlink : Cond.fieldLink own index RX7 (TX7 j).2.1 (TX7 j).2.2.1 ∈ Ts) (hdg : decode cc pc = .ok (.putfield index, 3)) (kk : xW G p l e R s m args below meth c nL Q k n ta (sI M cd j w) (pc + 3) lv rest) : xW G p l e R s m args below meth c nL Q k n ta M pc lv (.int w :: .ref (xad G cd) :: rest) := by
  have e : (sI M cd j w).1 cd = upd (M.1 cd) j w := if_pos rfl
  simp only [List.mem_cons, List.not_mem_nil, or_false] at hj
  rcases hj with rfl | rfl <;>
  exact x_put C (M' := sI M cd _ w) (ty := .boolean) (by rw [hk]; decide) (by rw [hk]; decide) (xc9 hk) ((xc9 hk).trans (by rw [e]; rfl)) rfl (fun c' h => xcM_I h) (show vwCl[9]? = some (RX7, TX7, 21) from rfl) hin tyX7 tyX7_ok nmX7 (by decide) hlink rfl rfl rfl (x_nb hw) (x_fb hw) (Nat.le_of_ble_eq_true rfl) hdg kk
theorem x_putr8 (C : xC G p s m args c cc nL Ts own) {cd index d : Nat} (hk : xkd cd = 8) (hin : ∀ w ∈ wsX60, w ∈ Ts) (j : Nat) (hj : j ∈ [0, 1]) (hlink : Cond.fieldLink own index RX6 (TX6 j).2.1 (TX6 j).2.2.1 ∈ Ts) (hdg : decode cc pc = .ok (.putfield index, 3)) (kk : xW G p l e R s m args below meth c nL Q k n ta (sP M cd j d) (pc + 3) lv rest) : xW G p l e R s m args below meth c nL Q k n ta M pc lv (.ref (xad G d) :: .ref (xad G cd) :: rest) := by
  have e : (sP M cd j d).2.1 cd = va_up (M.2.1 cd) j d := if_pos rfl
  have h5 : cd ≠ 5 ∧ cd ≠ 7 := ⟨fun z => by rw [z] at hk; exact absurd hk (by decide), fun z => by rw [z] at hk; exact absurd hk (by decide)⟩
  simp only [List.mem_cons, List.not_mem_nil, or_false] at hj
  rcases hj with rfl | rfl <;>
  exact x_put C (M' := sP M cd _ d) (ty := .object RX3) (by rw [hk]; decide) (by rw [hk]; decide) (xc8 hk) ((xc8 hk).trans (by rw [e]; rfl)) rfl (fun c' h => xcM_P h5 h) (show vwCl[8]? = some (RX6, TX6, 11) from rfl) hin tyX6 tyX6_ok nmX6 (by decide) hlink rfl rfl rfl rfl rfl (Nat.le_of_ble_eq_true rfl) hdg kk
theorem x_aast (C : xC G p s m args c cc nL Ts own) {cd d N ci t0 : Nat} {i : Int32} {cA : ClassId} {fs : List Value} {r : vw_C} (h21 : xkd cd ≠ 21) (h0 : xkd cd ≠ 0) (hce : xcM G ta M cd = .inl (cA, xln M cd, .inr (.inr (.inr (.inr fun i => some (xad G (M.2.1 cd i))))))) (hce' : xcM G ta (sP M cd i.toNatClampNeg d) cd = .inl (cA, xln (sP M cd i.toNatClampNeg d) cd, .inr (.inr (.inr (.inr fun j => some (xad G ((sP M cd i.toNatClampNeg d).2.1 cd j))))))) (hln : xln (sP M cd i.toNatClampNeg d) cd = xln M cd) (ht : (xty G)[t0]? = some (cA, .object r.1)) (hN : xln M cd = N) (hd21 : xkd d ≠ 21) (hd0 : xkd d ≠ 0) (hdc : xcM G ta M d = .inr (ci, fs)) (hc : vwCl[ci]? = some r) (hi : x_in i N = true) (hdg : decode cc pc = .ok (.aastore, 1)) (kk : xW G p l e R s m args below meth c nL Q k n ta (sP M cd i.toNatClampNeg d) (pc + 1) lv rest) : xW G p l e R s m args below meth c nL Q k n ta M pc lv (.ref (xad G d) :: .int i :: .ref (xad G cd) :: rest) := fun H locs ls h1 h2 h3 => by
  have hw := xwl_at G ta M (xkd_lt h0)
  rw [hce, xA_of h21, hN] at hw
  have hd := xwl_at G ta M (xkd_lt hd0)
  rw [hdc, xA_of hd21] at hd
  refine va_astq C.1.1 C.1.2.1 C.2.1 h1.1 h1.2.1 h2 cd t0 d ci hw ht hd hc (x_vp hi) hdg (fun H1 locs1 hP hD hS => ?_)
  have h5 : cd ≠ 5 ∧ cd ≠ 7 := ⟨fun z => h21 (by rw [z]; decide), fun z => h21 (by rw [z]; decide)⟩
  have hset := xwl_set G ta (M := M) (M' := sP M cd i.toNatClampNeg d) (c := cd) (e := .inl (cA, N, .inr (.inr (.inr (.inr (va_up (fun i => some (xad G (M.2.1 cd i))) i.toNatClampNeg (some (xad G d)))))))) (by
    rw [hce', hln, hN]
    congr 7
    funext j
    rw [show (sP M cd i.toNatClampNeg d).2.1 cd = va_up (M.2.1 cd) i.toNatClampNeg d from if_pos rfl]
    unfold va_up
    by_cases hj : j = i.toNatClampNeg
    · rw [if_pos hj, if_pos hj]
    · rw [if_neg hj, if_neg hj]) (fun c' h => xcM_P h5 h)
  rw [xA_of h21] at hset
  rw [hset] at hP hD
  exact kk H1 locs1 ls ⟨hP, hD, Nat.le_trans C.2.2.1 hS.1⟩ hS h3
theorem x_ln_P {M : xM} {cd j d : Nat} (h : xkd cd ≠ 21) : xln (sP M cd j d) cd = xln M cd := by
  unfold xln
  by_cases h2 : cd < 22
  · rw [if_pos h2, if_pos h2, if_neg (fun z => h (by rcases z with rfl | rfl <;> decide)), if_neg (fun z => h (by rcases z with rfl | rfl <;> decide))]
  · rw [if_neg h2, if_neg h2]
theorem x_aast23 (C : xC G p s m args c cc nL Ts own) {cd d N : Nat} {i : Int32} (hk : xkd cd = 23) (hN : xln M cd = N) (hd : xkd d = 4) (hi : x_in i N = true) (hdg : decode cc pc = .ok (.aastore, 1)) (kk : xW G p l e R s m args below meth c nL Q k n ta (sP M cd i.toNatClampNeg d) (pc + 1) lv rest) : xW G p l e R s m args below meth c nL Q k n ta M pc lv (.ref (xad G d) :: .int i :: .ref (xad G cd) :: rest) :=
  x_aast C (by rw [hk]; decide) (by rw [hk]; decide) (xc23 hk) (xc23 hk) (x_ln_P (by rw [hk]; decide)) (t0 := 3) (r := (RX2, TX2, 7)) rfl hN (by rw [hd]; decide) (by rw [hd]; decide) (xc4 hd) rfl hi hdg kk
theorem x_aast24 (C : xC G p s m args c cc nL Ts own) {cd d N : Nat} {i : Int32} (hk : xkd cd = 24) (hN : xln M cd = N) (hd : xkd d = 5) (hi : x_in i N = true) (hdg : decode cc pc = .ok (.aastore, 1)) (kk : xW G p l e R s m args below meth c nL Q k n ta (sP M cd i.toNatClampNeg d) (pc + 1) lv rest) : xW G p l e R s m args below meth c nL Q k n ta M pc lv (.ref (xad G d) :: .int i :: .ref (xad G cd) :: rest) :=
  x_aast C (by rw [hk]; decide) (by rw [hk]; decide) (xc24 hk) (xc24 hk) (x_ln_P (by rw [hk]; decide)) (t0 := 4) (r := (RX3, TX3, 14)) rfl hN (by rw [hd]; decide) (by rw [hd]; decide) (xc5 hd) rfl hi hdg kk
theorem x_aald23 (C : xC G p s m args c cc nL Ts own) {cd N : Nat} {i : Int32} (hk : xkd cd = 23) (hN : xln M cd = N) (hi : x_in i N = true) (hdg : decode cc pc = .ok (.aaload, 1)) (kk : xW G p l e R s m args below meth c nL Q k n ta M (pc + 1) lv (.ref (xad G (M.2.1 cd i.toNatClampNeg)) :: rest)) : xW G p l e R s m args below meth c nL Q k n ta M pc lv (.int i :: .ref (xad G cd) :: rest) :=
  x_aald C (t0 := 3) (Cn := RX2) (by rw [hk]; decide) (by rw [hk]; decide) (xc23 hk) rfl hN hi hdg kk
theorem x_aald24 (C : xC G p s m args c cc nL Ts own) {cd N : Nat} {i : Int32} (hk : xkd cd = 24) (hN : xln M cd = N) (hi : x_in i N = true) (hdg : decode cc pc = .ok (.aaload, 1)) (kk : xW G p l e R s m args below meth c nL Q k n ta M (pc + 1) lv (.ref (xad G (M.2.1 cd i.toNatClampNeg)) :: rest)) : xW G p l e R s m args below meth c nL Q k n ta M pc lv (.int i :: .ref (xad G cd) :: rest) :=
  x_aald C (t0 := 4) (Cn := RX3) (by rw [hk]; decide) (by rw [hk]; decide) (xc24 hk) rfl hN hi hdg kk
theorem x_aald25 (C : xC G p s m args c cc nL Ts own) {cd N : Nat} {i : Int32} (hk : xkd cd = 25) (hN : xln M cd = N) (hi : x_in i N = true) (hdg : decode cc pc = .ok (.aaload, 1)) (kk : xW G p l e R s m args below meth c nL Q k n ta M (pc + 1) lv (.ref (xad G (cd + 15 + i.toNatClampNeg)) :: rest)) : xW G p l e R s m args below meth c nL Q k n ta M pc lv (.int i :: .ref (xad G cd) :: rest) :=
  x_aald C (t0 := 5) (Cn := RX5) (by rw [hk]; decide) (by rw [hk]; decide) (xc25 hk) rfl hN hi hdg kk
/-- the JDK's Math -/
theorem x_mabs (C : xC G p s m args c cc nL Ts own) {index : Nat} {x : Int32} (h1 : Cond.methodLink own index Lib.Math.abs.name ∈ Ts) (h2 : Cond.static Lib.Math.abs.name ∈ Ts) (h3 : Cond.initialized "java/lang/Math" ∈ Ts) (h4 : Cond.code Lib.Math.abs.name Lib.Math.abs.code 1 (some .int) ∈ Ts) (hR : 1 ≤ R.frames ∧ (rest.map fun v => v.category).sum + 13 ≤ R.locals) (hc : k ≤ R.cells ∧ n ≤ R.slots) (hdg : decode cc pc = .ok (.invokestatic index, 3)) (kk : xW G p l e R s m args below meth c nL Q k n ta M (pc + 3) lv (.int (if 0 ≤ x then x else 0 - x) :: rest)) : xW G p l e R s m args below meth c nL Q k n ta M pc lv (.int x :: rest) :=
  fun H locs ls g1 g2 g3 => va_mabs C.1.1 C.1.2.1 (C.1.2.2.1.trans g3.1.symm) C.1.2.2.2.1 (C.1.2.2.2.2 _ h1) (C.1.2.2.2.2 _ h2) (C.1.2.2.2.2 _ h3) (C.1.2.2.2.2 _ h4) hR.1 hR.2 hc.1 hc.2 hdg (kk H locs ls g1 g2 g3)
theorem x_mmax (C : xC G p s m args c cc nL Ts own) {index : Nat} {x y : Int32} (h1 : Cond.methodLink own index Lib.Math.max.name ∈ Ts) (h2 : Cond.static Lib.Math.max.name ∈ Ts) (h3 : Cond.initialized "java/lang/Math" ∈ Ts) (h4 : Cond.code Lib.Math.max.name Lib.Math.max.code 2 (some .int) ∈ Ts) (hR : 1 ≤ R.frames ∧ (rest.map fun v => v.category).sum + 13 ≤ R.locals) (hc : k ≤ R.cells ∧ n ≤ R.slots) (hdg : decode cc pc = .ok (.invokestatic index, 3)) (kk : xW G p l e R s m args below meth c nL Q k n ta M (pc + 3) lv (.int (if x < y then y else x) :: rest)) : xW G p l e R s m args below meth c nL Q k n ta M pc lv (.int y :: .int x :: rest) :=
  fun H locs ls g1 g2 g3 => va_mmax C.1.1 C.1.2.1 (C.1.2.2.1.trans g3.1.symm) C.1.2.2.2.1 (C.1.2.2.2.2 _ h1) (C.1.2.2.2.2 _ h2) (C.1.2.2.2.2 _ h3) (C.1.2.2.2.2 _ h4) hR.1 hR.2 hc.1 hc.2 hdg (kk H locs ls g1 g2 g3)
theorem x_mmin (C : xC G p s m args c cc nL Ts own) {index : Nat} {x y : Int32} (h1 : Cond.methodLink own index Lib.Math.min.name ∈ Ts) (h2 : Cond.static Lib.Math.min.name ∈ Ts) (h3 : Cond.initialized "java/lang/Math" ∈ Ts) (h4 : Cond.code Lib.Math.min.name Lib.Math.min.code 2 (some .int) ∈ Ts) (hR : 1 ≤ R.frames ∧ (rest.map fun v => v.category).sum + 13 ≤ R.locals) (hc : k ≤ R.cells ∧ n ≤ R.slots) (hdg : decode cc pc = .ok (.invokestatic index, 3)) (kk : xW G p l e R s m args below meth c nL Q k n ta M (pc + 3) lv (.int (if y < x then y else x) :: rest)) : xW G p l e R s m args below meth c nL Q k n ta M pc lv (.int y :: .int x :: rest) :=
  fun H locs ls g1 g2 g3 => va_mmin C.1.1 C.1.2.1 (C.1.2.2.1.trans g3.1.symm) C.1.2.2.2.1 (C.1.2.2.2.2 _ h1) (C.1.2.2.2.2 _ h2) (C.1.2.2.2.2 _ h3) (C.1.2.2.2.2 _ h4) hR.1 hR.2 hc.1 hc.2 hdg (kk H locs ls g1 g2 g3)
/-- the outcome of a function that may throw, as the machine's -/
def xo {α : Type} (g : α → Option Value) : α ⊕ String → Option Value ⊕ String
  | .inl r => .inl (g r)
  | .inr E => .inr E
def xoI : Int32 → Option Value := fun r => some (.int r)
def xoU : Unit → Option Value := fun _ => none
def xoD : UInt64 → Option Value := fun r => some (.double r)
def xoF : UInt32 → Option Value := fun r => some (.float r)
def xoc {α : Type} : α ⊕ String → Nat
  | .inl _ => 0
  | .inr _ => 1
def xos {α : Type} : α ⊕ String → Nat
  | .inl _ => 0
  | .inr _ => 6
def x_case {α β : Type} (o : α ⊕ String) (f : α → Option β) (g : String → Option β) : Option β := match o with
  | .inl r => f r
  | .inr E => g E
theorem x_ip {α : Type} {c : Prop} [Decidable c] {a b : α} {o : α} (hc : c) (h : (if c then a else b) = o) : a = o := by rw [if_pos hc] at h; exact h
theorem x_ine {α : Type} {c : Prop} [Decidable c] {a b : α} {o : α} (hc : ¬ c) (h : (if c then a else b) = o) : b = o := by rw [if_neg hc] at h; exact h
theorem x_callVr {w : Value} {y : MethodName} {ws : List Cond} {rm : Room} {mc ms : Nat} {bytes : ByteArray} {maxL index na : Nat} {ret : Option FieldType} {cd ci : Nat} {fs : List Value} {q : vw_C} {As : List Value} (C : xC G p s m args c cc nL Ts own) (h21 : xkd cd ≠ 21) (h0 : xkd cd ≠ 0) (hce : xcM G ta M cd = .inr (ci, fs)) (hc : vwCl[ci]? = some q) (hM : xMet G l y ws rm mc ms ta M (.ref (xad G cd) :: As) (some w) M') (cw : CallW R s args own q.1 index y bytes maxL ret ws rm mc ms na) (hn : As.length = na) (hst : st = As.reverse ++ .ref (xad G cd) :: rest) (hW : (rest.map fun v => v.category).sum ≤ 8) (hdg : decode cc pc = .ok (.invokevirtual index, 3)) (hf : k + mc ≤ R.cells ∧ n + ms ≤ R.slots) (kk : ∀ ta', xW G p l e R s m args below meth c nL Q (k + mc) (n + ms) ta' M' (pc + 3) lv (w :: rest)) : xW G p l e R s m args below meth c nL Q k n ta M pc lv st :=
  x_callV C h21 h0 hce hc hM cw hn hst hW hdg hf kk
theorem x_callVXr {w : Value} {y : MethodName} {ws : List Cond} {rm : Room} {mc ms : Nat} {bytes : ByteArray} {maxL index na : Nat} {ret : Option FieldType} {cd ci : Nat} {fs : List Value} {q : vw_C} {As : List Value} (C : xC G p s m args c cc nL Ts own) (h21 : xkd cd ≠ 21) (h0 : xkd cd ≠ 0) (hce : xcM G ta M cd = .inr (ci, fs)) (hc : vwCl[ci]? = some q) (hM : xMetX G l y ws rm mc ms ta M (.ref (xad G cd) :: As) (.inl (some w)) M') (cw : CallW R s args own q.1 index y bytes maxL ret ws rm mc ms na) (hn : As.length = na) (hst : st = As.reverse ++ .ref (xad G cd) :: rest) (hW : (rest.map fun v => v.category).sum ≤ 8) (hdg : decode cc pc = .ok (.invokevirtual index, 3)) (hf : k + mc ≤ R.cells ∧ n + ms ≤ R.slots) (kk : ∀ ta', xW G p l e R s m args below meth c nL Q (k + mc) (n + ms) ta' M' (pc + 3) lv (w :: rest)) : xW G p l e R s m args below meth c nL Q k n ta M pc lv st :=
  x_callVX C h21 h0 hce hc hM cw hn hst hW hdg hf (fun E _ h => by cases h) (fun v ta' h => by cases h; exact kk ta')
theorem x_callVv  {y : MethodName} {ws : List Cond} {rm : Room} {mc ms : Nat} {bytes : ByteArray} {maxL index na : Nat} {ret : Option FieldType} {cd ci : Nat} {fs : List Value} {q : vw_C} {As : List Value} (C : xC G p s m args c cc nL Ts own) (h21 : xkd cd ≠ 21) (h0 : xkd cd ≠ 0) (hce : xcM G ta M cd = .inr (ci, fs)) (hc : vwCl[ci]? = some q) (hM : xMet G l y ws rm mc ms ta M (.ref (xad G cd) :: As) none M') (cw : CallW R s args own q.1 index y bytes maxL ret ws rm mc ms na) (hn : As.length = na) (hst : st = As.reverse ++ .ref (xad G cd) :: rest) (hW : (rest.map fun v => v.category).sum ≤ 8) (hdg : decode cc pc = .ok (.invokevirtual index, 3)) (hf : k + mc ≤ R.cells ∧ n + ms ≤ R.slots) (kk : ∀ ta', xW G p l e R s m args below meth c nL Q (k + mc) (n + ms) ta' M' (pc + 3) lv rest) : xW G p l e R s m args below meth c nL Q k n ta M pc lv st :=
  x_callV C h21 h0 hce hc hM cw hn hst hW hdg hf kk
theorem x_callVXv  {y : MethodName} {ws : List Cond} {rm : Room} {mc ms : Nat} {bytes : ByteArray} {maxL index na : Nat} {ret : Option FieldType} {cd ci : Nat} {fs : List Value} {q : vw_C} {As : List Value} (C : xC G p s m args c cc nL Ts own) (h21 : xkd cd ≠ 21) (h0 : xkd cd ≠ 0) (hce : xcM G ta M cd = .inr (ci, fs)) (hc : vwCl[ci]? = some q) (hM : xMetX G l y ws rm mc ms ta M (.ref (xad G cd) :: As) (.inl none) M') (cw : CallW R s args own q.1 index y bytes maxL ret ws rm mc ms na) (hn : As.length = na) (hst : st = As.reverse ++ .ref (xad G cd) :: rest) (hW : (rest.map fun v => v.category).sum ≤ 8) (hdg : decode cc pc = .ok (.invokevirtual index, 3)) (hf : k + mc ≤ R.cells ∧ n + ms ≤ R.slots) (kk : ∀ ta', xW G p l e R s m args below meth c nL Q (k + mc) (n + ms) ta' M' (pc + 3) lv rest) : xW G p l e R s m args below meth c nL Q k n ta M pc lv st :=
  x_callVX C h21 h0 hce hc hM cw hn hst hW hdg hf (fun E _ h => by cases h) (fun v ta' h => by cases h; exact kk ta')
theorem x_callVXt {E9 : String} {y : MethodName} {ws : List Cond} {rm : Room} {mc ms : Nat} {bytes : ByteArray} {maxL index na : Nat} {ret : Option FieldType} {cd ci : Nat} {fs : List Value} {q : vw_C} {As : List Value} (C : xC G p s m args c cc nL Ts own) (h21 : xkd cd ≠ 21) (h0 : xkd cd ≠ 0) (hce : xcM G ta M cd = .inr (ci, fs)) (hc : vwCl[ci]? = some q) (hM : xMetX G l y ws rm mc ms ta M (.ref (xad G cd) :: As) (.inr E9) M') (cw : CallW R s args own q.1 index y bytes maxL ret ws rm mc ms na) (hn : As.length = na) (hst : st = As.reverse ++ .ref (xad G cd) :: rest) (hW : (rest.map fun v => v.category).sum ≤ 8) (hdg : decode cc pc = .ok (.invokevirtual index, 3)) (hf : k + mc ≤ R.cells ∧ n + ms ≤ R.slots) (kx : ∀ ta', xT G p l e R s m args below meth c nL Q (k + mc) (n + ms) ta' M' pc lv rest E9) : xW G p l e R s m args below meth c nL Q k n ta M pc lv st :=
  x_callVX C h21 h0 hce hc hM cw hn hst hW hdg hf (fun E ta' h => by cases h; exact kx ta') (fun v _ h => by cases h)
theorem x_callSr {w : Value} {y : MethodName} {ws : List Cond} {rm : Room} {mc ms : Nat} {bytes : ByteArray} {maxL index na : Nat} {ret : Option FieldType} {As : List Value} (C : xC G p s m args c cc nL Ts own) (hM : xMet G l y ws rm mc ms ta M As (some w) M') (cw : CallB R s args own index y bytes maxL ret ws rm mc ms na ∧ (Cond.static y).before args s = true) (hn : As.length = na) (hst : st = As.reverse ++ rest) (hW : (rest.map fun v => v.category).sum ≤ 8) (hdg : decode cc pc = .ok (.invokestatic index, 3)) (hf : k + mc ≤ R.cells ∧ n + ms ≤ R.slots) (kk : ∀ ta', xW G p l e R s m args below meth c nL Q (k + mc) (n + ms) ta' M' (pc + 3) lv (w :: rest)) : xW G p l e R s m args below meth c nL Q k n ta M pc lv st :=
  x_callS C hM cw hn hst hW hdg hf kk
theorem x_callSXr {w : Value} {y : MethodName} {ws : List Cond} {rm : Room} {mc ms : Nat} {bytes : ByteArray} {maxL index na : Nat} {ret : Option FieldType} {As : List Value} (C : xC G p s m args c cc nL Ts own) (hM : xMetX G l y ws rm mc ms ta M As (.inl (some w)) M') (cw : CallB R s args own index y bytes maxL ret ws rm mc ms na ∧ (Cond.static y).before args s = true) (hn : As.length = na) (hst : st = As.reverse ++ rest) (hW : (rest.map fun v => v.category).sum ≤ 8) (hdg : decode cc pc = .ok (.invokestatic index, 3)) (hf : k + mc ≤ R.cells ∧ n + ms ≤ R.slots) (kk : ∀ ta', xW G p l e R s m args below meth c nL Q (k + mc) (n + ms) ta' M' (pc + 3) lv (w :: rest)) : xW G p l e R s m args below meth c nL Q k n ta M pc lv st :=
  x_callSX C hM cw hn hst hW hdg hf (fun E _ h => by cases h) (fun v ta' h => by cases h; exact kk ta')
theorem x_callSv  {y : MethodName} {ws : List Cond} {rm : Room} {mc ms : Nat} {bytes : ByteArray} {maxL index na : Nat} {ret : Option FieldType} {As : List Value} (C : xC G p s m args c cc nL Ts own) (hM : xMet G l y ws rm mc ms ta M As none M') (cw : CallB R s args own index y bytes maxL ret ws rm mc ms na ∧ (Cond.static y).before args s = true) (hn : As.length = na) (hst : st = As.reverse ++ rest) (hW : (rest.map fun v => v.category).sum ≤ 8) (hdg : decode cc pc = .ok (.invokestatic index, 3)) (hf : k + mc ≤ R.cells ∧ n + ms ≤ R.slots) (kk : ∀ ta', xW G p l e R s m args below meth c nL Q (k + mc) (n + ms) ta' M' (pc + 3) lv rest) : xW G p l e R s m args below meth c nL Q k n ta M pc lv st :=
  x_callS C hM cw hn hst hW hdg hf kk
theorem x_callSXv  {y : MethodName} {ws : List Cond} {rm : Room} {mc ms : Nat} {bytes : ByteArray} {maxL index na : Nat} {ret : Option FieldType} {As : List Value} (C : xC G p s m args c cc nL Ts own) (hM : xMetX G l y ws rm mc ms ta M As (.inl none) M') (cw : CallB R s args own index y bytes maxL ret ws rm mc ms na ∧ (Cond.static y).before args s = true) (hn : As.length = na) (hst : st = As.reverse ++ rest) (hW : (rest.map fun v => v.category).sum ≤ 8) (hdg : decode cc pc = .ok (.invokestatic index, 3)) (hf : k + mc ≤ R.cells ∧ n + ms ≤ R.slots) (kk : ∀ ta', xW G p l e R s m args below meth c nL Q (k + mc) (n + ms) ta' M' (pc + 3) lv rest) : xW G p l e R s m args below meth c nL Q k n ta M pc lv st :=
  x_callSX C hM cw hn hst hW hdg hf (fun E _ h => by cases h) (fun v ta' h => by cases h; exact kk ta')
theorem x_callSXt {E9 : String} {y : MethodName} {ws : List Cond} {rm : Room} {mc ms : Nat} {bytes : ByteArray} {maxL index na : Nat} {ret : Option FieldType} {As : List Value} (C : xC G p s m args c cc nL Ts own) (hM : xMetX G l y ws rm mc ms ta M As (.inr E9) M') (cw : CallB R s args own index y bytes maxL ret ws rm mc ms na ∧ (Cond.static y).before args s = true) (hn : As.length = na) (hst : st = As.reverse ++ rest) (hW : (rest.map fun v => v.category).sum ≤ 8) (hdg : decode cc pc = .ok (.invokestatic index, 3)) (hf : k + mc ≤ R.cells ∧ n + ms ≤ R.slots) (kx : ∀ ta', xT G p l e R s m args below meth c nL Q (k + mc) (n + ms) ta' M' pc lv rest E9) : xW G p l e R s m args below meth c nL Q k n ta M pc lv st :=
  x_callSX C hM cw hn hst hW hdg hf (fun E ta' h => by cases h; exact kx ta') (fun v _ h => by cases h)
theorem x_throw {mc ms : Nat} (C : xC G p s m args c cc nL Ts own) (hfl : l.stackTraces = false) (hlocks : meth.locks = false) (htb : ∀ x ∈ c.exceptionTable.toList, False) {cls text : String} {names : List String} {ik is ic : Nat} (hcls : Bundle.fit cls = true) (hnames : ∀ n ∈ names, Bundle.fit n = true) (hk : Cond.classLink own ik cls ∈ Ts) (hini : Cond.initialized cls ∈ Ts) (htx : (own, is, text) ∈ xTx) (hat : ∀ w ∈ vx_atS own ic cls names, w ∈ Ts ∨ w ∈ xNw)
    (hgood : ∀ w ∈ Cond.classLink own ik cls :: Cond.initialized cls :: vx_atS own ic cls names, vx_ot w = true)
    (d0 : decode cc pc = .ok (.new ik, 3)) (d3 : decode cc (pc + 3) = .ok (.dup, 1)) (d4 : decode cc (pc + 4) = .ok (.ldc is, 2)) (d6 : decode cc (pc + 6) = .ok (.invokespecial ic, 3)) (d9 : decode cc (pc + 9) = .ok (.athrow, 1))
    (hRframes : names.length + 3 < R.frames) (hRlocals : (rest.map fun v => v.category).sum + (13 * (names.length + 1) + 43) ≤ R.locals) (hRcells : k + 1 ≤ R.cells) (hRslots : n + 6 ≤ R.slots) (hc : k + 1 ≤ mc) (hs : n + 6 ≤ ms) :
    xW G p l e R s m args below meth c nL (vx_MQ below (xQx G (.inr cls) M) (xXc G (.inr cls) M) args s mc ms (xAs G)) k n ta M pc lv rest := fun H locs ls h1 h2 h3 => by
  obtain ⟨sa, hsa⟩ := C.2.2.2.2.2.2.1 _ htx
  refine vx_throwS C.1.1 C.1.2.1 hfl (A := xAs G) C.1.2.2.2.1 hcls hnames (C.1.2.2.2.2 _ hk) (C.1.2.2.2.2 _ hini) hsa (fun w hw => ?_) hgood C.2.2.2.1 C.2.2.2.2.1 h2 (h3.1.trans C.1.2.2.1.symm) d0 d3 d4 d6 d9 (fun x hx => (htb x hx).elim) hRframes hRlocals hRcells hRslots hlocks (fun t hvm hz hk => ?_) h2.2.2 hc hs
  · rcases hat w hw with h | h
    · exact C.1.2.2.2.2 w h
    · have h9 := C.2.2.2.2.2.1 w h
      unfold xNw at h
      simp only [List.mem_cons, List.not_mem_nil, or_false] at h
      rcases h with rfl | rfl | rfl | rfl | rfl | rfl | rfl | rfl | rfl | rfl | rfl | rfl | rfl | rfl | rfl | rfl <;> exact va_Nw.use rfl h9
  · refine ⟨rfl, ⟨ta, ?_⟩, ?_⟩
    · obtain ⟨g1, g2, g3⟩ := h1
      exact ⟨g1.kept (fun j q hq => hk q.1 (g1 j q hq).lt), g2, Nat.le_trans g3 hz⟩
    · exact ⟨Nat.le_trans h2.1 hz, fun q q1 q2 => (hk q (Nat.lt_of_lt_of_le q1 h2.1)).trans (h2.2.1 q q1 q2)⟩
theorem x_throwSW {mc ms : Nat} (C : xC G p s m args c cc nL Ts own) (hfl : l.stackTraces = false) (hlocks : meth.locks = false) (htb : ∀ x ∈ c.exceptionTable.toList, False) {cls text : String} {names : List String} {ik is ic : Nat} (hcls : Bundle.fit cls = true) (hnames : ∀ n ∈ names, Bundle.fit n = true) (hk : Cond.classLink own ik cls ∈ Ts) (hini : Cond.initialized cls ∈ Ts) (htx : (own, is, text) ∈ xTx) (hat : ∀ w ∈ vx_atS own ic cls names, w ∈ Ts ∨ w ∈ xNw)
    (hgood : ∀ w ∈ Cond.classLink own ik cls :: Cond.initialized cls :: vx_atS own ic cls names, vx_ot w = true)
    (d0 : decode cc pc = .ok (.new ik, 3)) (d3 : decode cc (pc + 3) = .ok (.dup, 1)) (d4 : decode cc (pc + 4) = .ok (.ldc_w is, 3)) (d6 : decode cc (pc + 7) = .ok (.invokespecial ic, 3)) (d9 : decode cc (pc + 10) = .ok (.athrow, 1))
    (hRframes : names.length + 3 < R.frames) (hRlocals : (rest.map fun v => v.category).sum + (13 * (names.length + 1) + 43) ≤ R.locals) (hRcells : k + 1 ≤ R.cells) (hRslots : n + 6 ≤ R.slots) (hc : k + 1 ≤ mc) (hs : n + 6 ≤ ms) :
    xW G p l e R s m args below meth c nL (vx_MQ below (xQx G (.inr cls) M) (xXc G (.inr cls) M) args s mc ms (xAs G)) k n ta M pc lv rest := fun H locs ls h1 h2 h3 => by
  obtain ⟨sa, hsa⟩ := C.2.2.2.2.2.2.1 _ htx
  refine vx_throwSW C.1.1 C.1.2.1 hfl (A := xAs G) C.1.2.2.2.1 hcls hnames (C.1.2.2.2.2 _ hk) (C.1.2.2.2.2 _ hini) hsa (fun w hw => ?_) hgood C.2.2.2.1 C.2.2.2.2.1 h2 (h3.1.trans C.1.2.2.1.symm) d0 d3 d4 d6 d9 (fun x hx => (htb x hx).elim) hRframes hRlocals hRcells hRslots hlocks (fun t hvm hz hk => ?_) h2.2.2 hc hs
  · rcases hat w hw with h | h
    · exact C.1.2.2.2.2 w h
    · have h9 := C.2.2.2.2.2.1 w h
      unfold xNw at h
      simp only [List.mem_cons, List.not_mem_nil, or_false] at h
      rcases h with rfl | rfl | rfl | rfl | rfl | rfl | rfl | rfl | rfl | rfl | rfl | rfl | rfl | rfl | rfl | rfl <;> exact va_Nw.use rfl h9
  · refine ⟨rfl, ⟨ta, ?_⟩, ?_⟩
    · obtain ⟨g1, g2, g3⟩ := h1
      exact ⟨g1.kept (fun j q hq => hk q.1 (g1 j q hq).lt), g2, Nat.le_trans g3 hz⟩
    · exact ⟨Nat.le_trans h2.1 hz, fun q q1 q2 => (hk q (Nat.lt_of_lt_of_le q1 h2.1)).trans (h2.2.1 q q1 q2)⟩
theorem x_lald (C : xC G p s m args c cc nL Ts own) (hdg : decode cc pc = .ok (.laload, 1)) (kk : xW G p l e R s m args below meth c nL Q k n ta M (pc + 1) lv (.long M.2.2.1 :: rest)) : xW G p l e R s m args below meth c nL Q k n ta M pc lv (.int 0 :: .ref (xad G 20) :: rest) := fun H locs ls h1 h2 h3 => by
  have hw := xwl_at G ta M (c := 20) (by decide)
  rw [xc26 xkd_20, xA_of (by decide)] at hw
  exact va_lald C.1.1 C.1.2.1 C.2.1 h1.1 20 6 hw rfl (i := 0) (show vp_in 0 1 from x_vp (by decide)) hdg (kk H locs ls h1 h2 h3)
theorem x_dald (C : xC G p s m args c cc nL Ts own) (hdg : decode cc pc = .ok (.daload, 1)) (kk : xW G p l e R s m args below meth c nL Q k n ta M (pc + 1) lv (.double M.2.2.2 :: rest)) : xW G p l e R s m args below meth c nL Q k n ta M pc lv (.int 0 :: .ref (xad G 21) :: rest) := fun H locs ls h1 h2 h3 => by
  have hw := xwl_at G ta M (c := 21) (by decide)
  rw [xc27 xkd_21, xA_of (by decide)] at hw
  exact va_dald C.1.1 C.1.2.1 C.2.1 h1.1 21 7 hw rfl (i := 0) (show vp_in 0 1 from x_vp (by decide)) hdg (kk H locs ls h1 h2 h3)
theorem x_last (C : xC G p s m args c cc nL Ts own) {x : Int64} (hdg : decode cc pc = .ok (.lastore, 1)) (kk : xW G p l e R s m args below meth c nL Q k n ta (sJ M x) (pc + 1) lv rest) : xW G p l e R s m args below meth c nL Q k n ta M pc lv (.long x :: .int 0 :: .ref (xad G 20) :: rest) := fun H locs ls h1 h2 h3 => by
  have hw := xwl_at G ta M (c := 20) (by decide)
  rw [xc26 xkd_20, xA_of (by decide)] at hw
  refine va_last C.1.1 C.1.2.1 C.2.1 h1.1 h1.2.1 h2 20 6 hw rfl (i := 0) (show vp_in 0 1 from x_vp (by decide)) hdg (fun H1 locs1 hP hD hS => ?_)
  have hset := xwl_set1 G ta (M := M) (M' := sJ M x) (c := 20) (e := .inl (xcy G 6, 1, .inr (.inl (vp_updL (fun i => if i = 0 then M.2.2.1 else 0) ((0 : Int32).toNatClampNeg) x)))) (by
    rw [xc26 xkd_20]
    congr 5
    funext j
    unfold vp_updL
    show (if j = 0 then x else 0) = if j = (0 : Int32).toNatClampNeg then x else if j = 0 then M.2.2.1 else 0
    rw [show (0 : Int32).toNatClampNeg = 0 from rfl]
    by_cases hj : j = 0
    · rw [if_pos hj, if_pos hj]
    · rw [if_neg hj, if_neg hj, if_neg hj]) (fun c' h h9 => xcM_J h h9)
  rw [xA_of (by decide)] at hset
  have hset2 : (xwl G ta M).set 20 (xad G 20, .inl (xcy G 6, xln M 20, .inr (.inl (vp_updL (fun i => if i = 0 then M.2.2.1 else 0) ((0 : Int32).toNatClampNeg) x)))) = xwl G ta (sJ M x) := hset
  rw [hset2] at hP hD
  exact kk H1 locs1 ls ⟨hP, hD, Nat.le_trans C.2.2.1 hS.1⟩ hS h3
theorem x_dast (C : xC G p s m args c cc nL Ts own) {x : UInt64} (hdg : decode cc pc = .ok (.dastore, 1)) (kk : xW G p l e R s m args below meth c nL Q k n ta (sD M x) (pc + 1) lv rest) : xW G p l e R s m args below meth c nL Q k n ta M pc lv (.double x :: .int 0 :: .ref (xad G 21) :: rest) := fun H locs ls h1 h2 h3 => by
  have hw := xwl_at G ta M (c := 21) (by decide)
  rw [xc27 xkd_21, xA_of (by decide)] at hw
  refine va_dast C.1.1 C.1.2.1 C.2.1 h1.1 h1.2.1 h2 21 7 hw rfl (i := 0) (show vp_in 0 1 from x_vp (by decide)) hdg (fun H1 locs1 hP hD hS => ?_)
  have hset := xwl_set1 G ta (M := M) (M' := sD M x) (c := 21) (e := .inl (xcy G 7, 1, .inr (.inr (.inr (.inl (vf_upd (fun i => if i = 0 then M.2.2.2 else 0) ((0 : Int32).toNatClampNeg) x)))))) (by
    rw [xc27 xkd_21]
    congr 7
    funext j
    unfold vf_upd
    show (if j = 0 then x else 0) = if j = (0 : Int32).toNatClampNeg then x else if j = 0 then M.2.2.2 else 0
    rw [show (0 : Int32).toNatClampNeg = 0 from rfl]
    by_cases hj : j = 0
    · rw [if_pos hj, if_pos hj]
    · rw [if_neg hj, if_neg hj, if_neg hj]) (fun c' h h9 => xcM_D h h9)
  rw [xA_of (by decide)] at hset
  have hset2 : (xwl G ta M).set 21 (xad G 21, .inl (xcy G 7, xln M 21, .inr (.inr (.inr (.inl (vf_upd (fun i => if i = 0 then M.2.2.2 else 0) ((0 : Int32).toNatClampNeg) x)))))) = xwl G ta (sD M x) := hset
  rw [hset2] at hP hD
  exact kk H1 locs1 ls ⟨hP, hD, Nat.le_trans C.2.2.1 hS.1⟩ hS h3
end XROWS2
section XLENS
variable {M : xM} {c : Nat}
theorem xl_1 : xln M 1 = 8 := rfl
theorem xl_3 : xln M 3 = 3 := rfl
theorem xl_8 : xln M 8 = 12 := rfl
theorem xl_10 : xln M 10 = 159 := rfl
theorem xl_11 : xln M 11 = 159 := rfl
theorem xl_12 : xln M 12 = 159 := rfl
theorem xl_13 : xln M 13 = 159 := rfl
theorem xl_14 : xln M 14 = 1272 := rfl
theorem xl_15 : xln M 15 = 60 := rfl
theorem xl_16 : xln M 16 = 160 := rfl
theorem xl_17 : xln M 17 = 48 := rfl
theorem xl_18 : xln M 18 = 10 := rfl
theorem xl_19 : xln M 19 = 244 := rfl
theorem x5_k1 (h : xkd c = 5) : xkd (c + 1) = 23 := x5_pt h (r := 1) (by decide)
theorem x5_k2 (h : xkd c = 5) : xkd (c + 2) = 20 := x5_pt h (r := 2) (by decide)
theorem x5_k3 (h : xkd c = 5) : xkd (c + 3) = 25 := x5_pt h (r := 3) (by decide)
theorem x5_k4 (h : xkd c = 5) : xkd (c + 4) = 20 := x5_pt h (r := 4) (by decide)
theorem x5_k5 (h : xkd c = 5) : xkd (c + 5) = 20 := x5_pt h (r := 5) (by decide)
theorem x5_l1 (h : xkd c = 5) : xln M (c + 1) = 12 := x5_ln h (r := 1) (by decide)
theorem x5_l2 (h : xkd c = 5) : xln M (c + 2) = 12 := x5_ln h (r := 2) (by decide)
theorem x5_l3 (h : xkd c = 5) : xln M (c + 3) = 3 := x5_ln h (r := 3) (by decide)
theorem x5_l4 (h : xkd c = 5) : xln M (c + 4) = 6 := x5_ln h (r := 4) (by decide)
theorem x5_l5 (h : xkd c = 5) : xln M (c + 5) = 6 := x5_ln h (r := 5) (by decide)
end XLENS
def x_n64 (r : UInt64) : Bool := decide (r &&& 0x7fffffffffffffff ≤ 0x7ff0000000000000)
theorem x_n64_of {r : UInt64} (h : x_n64 r = true) : vf_n64 r := by unfold vf_n64; exact of_decide_eq_true h
def x_n32 (r : UInt32) : Bool := decide (r &&& 0x7fffffff ≤ 0x7f800000)
theorem x_n32_of {r : UInt32} (h : x_n32 r = true) : vf_n32 r := by unfold vf_n32; exact of_decide_eq_true h
theorem x_ci {α β : Type} {f : α → Option β} {g : String → Option β} {r : α} {o : Option β} (h : x_case (.inl r) f g = o) : f r = o := h
theorem x_cx {α β : Type} {f : α → Option β} {g : String → Option β} {E : String} {o : Option β} (h : x_case (.inr E) f g = o) : g E = o := h
/-- how often a loop may go round -/
def xF : Nat := 2000
