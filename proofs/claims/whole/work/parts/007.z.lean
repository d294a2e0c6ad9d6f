/-! rows for the texts, the statics, the constants, the handlers -/
section XZ
variable {G : xG} {p : Program} {l : Launch} {e : Env} {R : Room} {s : State} {m : MethodId} {args : Array Value} {below : List Frame} {meth : Method} {c : Code} {nL : Nat} {Q : State → Prop} {k n : Nat} {ta : Nat × Nat} {M M' : xM} {pc : Nat} {lv : List (Nat × Value)} {st rest : List Value} {cc : ByteArray} {Ts : List Cond} {own : String}
theorem x1_k {c : Nat} (h : xkd c = 1) : xkd (c + 1) = 21 := by
  have hl := xkd_lt (c := c) (by rw [h]; decide)
  unfold xkd at h
  by_cases h2 : c < 22
  · rw [if_pos h2] at h
    have : ∀ q, q < 22 → xk22.getD q 0 = 1 → xkd (q + 1) = 21 := by decide
    exact this c h2 h
  · rw [if_neg h2, if_pos hl] at h
    have : ∀ q, q < 21 → xk21.getD q 0 ≠ 1 := by decide
    exact absurd h (this _ (Nat.mod_lt _ (by decide)))
theorem x21_is {c : Nat} (h : xkd c = 21) : c = 5 ∨ c = 7 := by
  have hl := xkd_lt (c := c) (by rw [h]; decide)
  unfold xkd at h
  by_cases h2 : c < 22
  · rw [if_pos h2] at h
    have : ∀ q, q < 22 → xk22.getD q 0 = 21 → q = 5 ∨ q = 7 := by decide
    exact this c h2 h
  · rw [if_neg h2, if_pos hl] at h
    have : ∀ q, q < 21 → xk21.getD q 0 ≠ 21 := by decide
    exact absurd h (this _ (Nat.mod_lt _ (by decide)))
theorem x21_ln {M : xM} {c : Nat} (h : xkd c = 21) : xln M c = M.2.1 c 1 := by
  unfold xln
  rcases x21_is h with rfl | rfl <;> rfl
theorem xZ (C : xC G p s m args c cc nL Ts own) : xZs G s s.heap := C.2.2.2.2.2.2.2.2
abbrev xf1 (G : xG) (ta : Nat × Nat) (M : xM) (c : Nat) (j : Nat) : Option Value := ([.ref (xA G ta (c + 1)), .int (M.1 c 1), .int (M.1 c 2), .int (M.1 c 3)] : List Value)[j]?
theorem x_get1 (C : xC G p s m args c cc nL Ts own) {cd index : Nat} {v : Value} (hk : xkd cd = 1) (hin : ∀ w ∈ wsJ40, w ∈ Ts) (j : Nat) (hj : j < 4) (hlink : Cond.fieldLink own index RJ5 (TJ4 j).2.1 (TJ4 j).2.2.1 ∈ Ts) (hs : (TJ4 j).1 = RJ5) (hv : xf1 G ta M cd j = some v) (hdg : decode cc pc = .ok (.getfield index, 3)) (kk : xW G p l e R s m args below meth c nL Q k n ta M (pc + 3) lv (v :: rest)) : xW G p l e R s m args below meth c nL Q k n ta M pc lv (.ref (xad G cd) :: rest) :=
  x_get C (by rw [hk]; decide) (by rw [hk]; decide) (xc1 hk) (show vwCl[1]? = some (RJ4, TJ4, 4) from rfl) hin hj hlink hs hv hdg kk
theorem x_put1 (C : xC G p s m args c cc nL Ts own) {cd index : Nat} {w : Int32} (hk : xkd cd = 1) (hin : ∀ w ∈ wsJ40, w ∈ Ts) (j : Nat) (hj : j ∈ [3]) (hlink : Cond.fieldLink own index RJ5 (TJ4 j).2.1 (TJ4 j).2.2.1 ∈ Ts) (hdg : decode cc pc = .ok (.putfield index, 3)) (kk : xW G p l e R s m args below meth c nL Q k n ta (sI M cd j w) (pc + 3) lv rest) : xW G p l e R s m args below meth c nL Q k n ta M pc lv (.int w :: .ref (xad G cd) :: rest) := by
  have e : (sI M cd j w).1 cd = upd (M.1 cd) j w := if_pos rfl
  simp only [List.mem_cons, List.not_mem_nil, or_false] at hj
  rcases hj with rfl
  exact x_put C (M' := sI M cd _ w) (ty := .int) (by rw [hk]; decide) (by rw [hk]; decide) (xc1 hk) ((xc1 hk).trans (by rw [e]; rfl)) rfl (fun c' h => xcM_I h) (show vwCl[1]? = some (RJ4, TJ4, 4) from rfl) hin tyJ4 tyJ4_ok nmJ4 (by decide) hlink rfl rfl rfl rfl rfl (Nat.le_of_ble_eq_true rfl) hdg kk
theorem x_putz1 (C : xC G p s m args c cc nL Ts own) {cd index : Nat} {w : Int32} (hk : xkd cd = 1) (hin : ∀ w ∈ wsJ40, w ∈ Ts) (j : Nat) (hj : j ∈ [2]) (hw : w = 0 ∨ w = 1) (hlink : Cond.fieldLink own index RJ5 (TJ4 j).2.1 (TJ4 j).2.2.1 ∈ Ts) (hdg : decode cc pc = .ok (.putfield index, 3)) (kk : xW G p l e R s m args below meth c nL Q k n ta (sI M cd j w) (pc + 3) lv rest) : xW G p l e R s m args below meth c nL Q k n ta M pc lv (.int w :: .ref (xad G cd) :: rest) := by
  have e : (sI M cd j w).1 cd = upd (M.1 cd) j w := if_pos rfl
  simp only [List.mem_cons, List.not_mem_nil, or_false] at hj
  rcases hj with rfl
  exact x_put C (M' := sI M cd _ w) (ty := .boolean) (by rw [hk]; decide) (by rw [hk]; decide) (xc1 hk) ((xc1 hk).trans (by rw [e]; rfl)) rfl (fun c' h => xcM_I h) (show vwCl[1]? = some (RJ4, TJ4, 4) from rfl) hin tyJ4 tyJ4_ok nmJ4 (by decide) hlink rfl rfl rfl (x_nb hw) (x_fb hw) (Nat.le_of_ble_eq_true rfl) hdg kk
theorem x_bald (C : xC G p s m args c cc nL Ts own) {cd : Nat} {i : Int32} (hk : xkd cd = 21) (hi : x_in i (M.2.1 cd 1) = true) (hdg : decode cc pc = .ok (.baload, 1)) (kk : xW G p l e R s m args below meth c nL Q k n ta M (pc + 1) lv (.int (M.1 cd i.toNatClampNeg) :: rest)) : xW G p l e R s m args below meth c nL Q k n ta M pc lv (.int i :: .ref (xA G ta cd) :: rest) := fun H locs ls h1 h2 h3 => by
  have hw := xwl_at G ta M (xkd_lt (c := cd) (by rw [hk]; decide))
  rw [xc21 hk, x21_ln hk] at hw
  exact va_bald C.1.1 C.1.2.1 C.2.1 h1.1 cd 1 hw rfl (x_vp hi) hdg (kk H locs ls h1 h2 h3)
theorem x_bast (C : xC G p s m args c cc nL Ts own) {cd : Nat} {i x : Int32} (hk : xkd cd = 21) (hi : x_in i (M.2.1 cd 1) = true) (hdg : decode cc pc = .ok (.bastore, 1)) (kk : xW G p l e R s m args below meth c nL Q k n ta (sI M cd i.toNatClampNeg (vp_nar .byte x)) (pc + 1) lv rest) : xW G p l e R s m args below meth c nL Q k n ta M pc lv (.int x :: .int i :: .ref (xA G ta cd) :: rest) := fun H locs ls h1 h2 h3 => by
  have hw := xwl_at G ta M (xkd_lt (c := cd) (by rw [hk]; decide))
  rw [xc21 hk, x21_ln hk] at hw
  refine va_bast C.1.1 C.1.2.1 C.2.1 h1.1 h1.2.1 h2 cd 1 hw rfl (x_vp hi) hdg (fun H1 locs1 hP hD hS => ?_)
  have hset := xwl_set G ta (M := M) (M' := sI M cd i.toNatClampNeg (vp_nar .byte x)) (c := cd) (e := .inl (xcy G 1, M.2.1 cd 1, .inl (upd (M.1 cd) i.toNatClampNeg (vp_nar .byte x)))) (by
    rw [xc21 hk, x21_ln hk, show (sI M cd i.toNatClampNeg (vp_nar .byte x)).1 cd = upd (M.1 cd) i.toNatClampNeg (vp_nar .byte x) from if_pos rfl]; rfl) (fun c' h => xcM_I h)
  rw [hset] at hP hD
  exact kk H1 locs1 ls ⟨hP, hD, Nat.le_trans C.2.2.1 hS.1⟩ hS h3
theorem x_alen21 (C : xC G p s m args c cc nL Ts own) {cd : Nat} (hk : xkd cd = 21) (hdg : decode cc pc = .ok (.arraylength, 1)) (kk : xW G p l e R s m args below meth c nL Q k n ta M (pc + 1) lv (.int (Int32.ofNat (M.2.1 cd 1)) :: rest)) : xW G p l e R s m args below meth c nL Q k n ta M pc lv (.ref (xA G ta cd) :: rest) := fun H locs ls h1 h2 h3 => by
  have hw := xwl_at G ta M (xkd_lt (c := cd) (by rw [hk]; decide))
  rw [xc21 hk, x21_ln hk] at hw
  exact va_alen C.1.1 C.1.2.1 C.2.1 h1.1 cd 1 hw rfl rfl hdg (kk H locs ls h1 h2 h3)
/-! statics and constants -/
theorem x_gets (C : xC G p s m args c cc nL Ts own) {Cn nm d : String} {v : Value} {index : Nat} (hZ : va_Z Cn nm d v (xAs G) s s.heap) (hlink : Cond.fieldLink own index Cn nm d ∈ Ts) (hdg : decode cc pc = .ok (.getstatic index, 3)) (kk : xW G p l e R s m args below meth c nL Q k n ta M (pc + 3) lv (v :: rest)) : xW G p l e R s m args below meth c nL Q k n ta M pc lv rest := fun H locs ls h1 h2 h3 =>
  va_gets C.1.1 C.1.2.1 hZ h2 C.1.2.2.2.1 (C.1.2.2.2.2 _ hlink) (fun _ h => h) hdg (kk H locs ls h1 h2 h3)
theorem x_gCS (C : xC G p s m args c cc nL Ts own) {index : Nat} (hlink : Cond.fieldLink own index "java/lang/String" "COMPACT_STRINGS" "Z" ∈ Ts) (hdg : decode cc pc = .ok (.getstatic index, 3)) (kk : xW G p l e R s m args below meth c nL Q k n ta M (pc + 3) lv (.int 1 :: rest)) : xW G p l e R s m args below meth c nL Q k n ta M pc lv rest := x_gets C (xZ C).1 hlink hdg kk
theorem x_gDO (C : xC G p s m args c cc nL Ts own) {index : Nat} (hlink : Cond.fieldLink own index "java/lang/Integer" "DigitOnes" "[B" ∈ Ts) (hdg : decode cc pc = .ok (.getstatic index, 3)) (kk : xW G p l e R s m args below meth c nL Q k n ta M (pc + 3) lv (.ref (xcm G 10) :: rest)) : xW G p l e R s m args below meth c nL Q k n ta M pc lv rest := x_gets C (xZ C).2.1.1 hlink hdg kk
theorem x_gDT (C : xC G p s m args c cc nL Ts own) {index : Nat} (hlink : Cond.fieldLink own index "java/lang/Integer" "DigitTens" "[B" ∈ Ts) (hdg : decode cc pc = .ok (.getstatic index, 3)) (kk : xW G p l e R s m args below meth c nL Q k n ta M (pc + 3) lv (.ref (xcm G 11) :: rest)) : xW G p l e R s m args below meth c nL Q k n ta M pc lv rest := x_gets C (xZ C).2.2.1.1 hlink hdg kk
theorem x_gSF (C : xC G p s m args c cc nL Ts own) {index : Nat} (hlink : Cond.fieldLink own index "jdk/internal/util/Preconditions" "SIOOBE_FORMATTER" "Ljava/util/function/BiFunction;" ∈ Ts) (hdg : decode cc pc = .ok (.getstatic index, 3)) (kk : ∀ v : Value, (v = .null ∨ ∃ t, v = .ref t) → xW G p l e R s m args below meth c nL Q k n ta M (pc + 3) lv (v :: rest)) : xW G p l e R s m args below meth c nL Q k n ta M pc lv rest := by
  rcases (xZ C).2.2.2.1 with h | ⟨t, h⟩
  · exact x_gets C h hlink hdg (kk _ (.inl rfl))
  · exact x_gets C h hlink hdg (kk _ (.inr ⟨t, rfl⟩))
theorem x_gCM (C : xC G p s m args c cc nL Ts RX4) (hdg : decode cc pc = .ok (.getstatic 34, 3)) (kk : xW G p l e R s m args below meth c nL Q k n ta M (pc + 3) lv (.ref (xcm G 12) :: rest)) : xW G p l e R s m args below meth c nL Q k n ta M pc lv rest := fun H locs ls h1 h2 h3 =>
  va_getsN C.1.1 C.1.2.1 (xZ C).2.2.2.2.1.1 h2 C.1.2.2.2.1 (va_Nw.use rfl (C.2.2.2.2.2.1 (.fieldLinkNest RX4 34 RX6 "COMMANDS" "[LWaitingRoomSimulation$Command;" RX6) (by decide))) (fun _ h => h) hdg (kk H locs ls h1 h2 h3)
theorem x_gSM (C : xC G p s m args c cc nL Ts own) {index : Nat} (hlink : Cond.fieldLink own index RX0 "$SwitchMap$WaitingRoomSimulation$Command" "[I" ∈ Ts) (hdg : decode cc pc = .ok (.getstatic index, 3)) (kk : xW G p l e R s m args below meth c nL Q k n ta M (pc + 3) lv (.ref (xcm G 13) :: rest)) : xW G p l e R s m args below meth c nL Q k n ta M pc lv rest := x_gets C (xZ C).2.2.2.2.2.1.1 hlink hdg kk
theorem x_tDO (C : xC G p s m args c cc nL Ts own) {i : Int32} (hi : x_in i 100 = true) (hdg : decode cc pc = .ok (.baload, 1)) (kk : xW G p l e R s m args below meth c nL Q k n ta M (pc + 1) lv (.int (xDO i.toNatClampNeg) :: rest)) : xW G p l e R s m args below meth c nL Q k n ta M pc lv (.int i :: .ref (xcm G 10) :: rest) := fun H locs ls h1 h2 h3 =>
  va_tb C.1.1 C.1.2.1 (xZ C).2.1.2 h2 (x_vp hi) rfl hdg (kk H locs ls h1 h2 h3)
theorem x_tDT (C : xC G p s m args c cc nL Ts own) {i : Int32} (hi : x_in i 100 = true) (hdg : decode cc pc = .ok (.baload, 1)) (kk : xW G p l e R s m args below meth c nL Q k n ta M (pc + 1) lv (.int (xDT i.toNatClampNeg) :: rest)) : xW G p l e R s m args below meth c nL Q k n ta M pc lv (.int i :: .ref (xcm G 11) :: rest) := fun H locs ls h1 h2 h3 =>
  va_tb C.1.1 C.1.2.1 (xZ C).2.2.1.2 h2 (x_vp hi) rfl hdg (kk H locs ls h1 h2 h3)
theorem x_tCM (C : xC G p s m args c cc nL Ts own) {i : Int32} (hi : x_in i 10 = true) (hdg : decode cc pc = .ok (.aaload, 1)) (kk : xW G p l e R s m args below meth c nL Q k n ta M (pc + 1) lv (.ref (xcm G i.toNatClampNeg) :: rest)) : xW G p l e R s m args below meth c nL Q k n ta M pc lv (.int i :: .ref (xcm G 12) :: rest) := fun H locs ls h1 h2 h3 =>
  vb_tq C.1.1 C.1.2.1 (xZ C).2.2.2.2.1.2 h2 (x_vp hi) rfl hdg (kk H locs ls h1 h2 h3)
theorem x_tSM (C : xC G p s m args c cc nL Ts own) {i : Int32} (hi : x_in i 10 = true) (hdg : decode cc pc = .ok (.iaload, 1)) (kk : xW G p l e R s m args below meth c nL Q k n ta M (pc + 1) lv (.int (Int32.ofNat (i.toNatClampNeg + 1)) :: rest)) : xW G p l e R s m args below meth c nL Q k n ta M pc lv (.int i :: .ref (xcm G 13) :: rest) := fun H locs ls h1 h2 h3 =>
  va_ti C.1.1 C.1.2.1 (xZ C).2.2.2.2.2.1.2 h2 (x_vp hi) rfl hdg (kk H locs ls h1 h2 h3)
theorem x_lenCM (C : xC G p s m args c cc nL Ts own) (hdg : decode cc pc = .ok (.arraylength, 1)) (kk : xW G p l e R s m args below meth c nL Q k n ta M (pc + 1) lv (.int 10 :: rest)) : xW G p l e R s m args below meth c nL Q k n ta M pc lv (.ref (xcm G 12) :: rest) := fun H locs ls h1 h2 h3 =>
  va_tlen C.1.1 C.1.2.1 (xZ C).2.2.2.2.1.2 h2 rfl hdg (kk H locs ls h1 h2 h3)
/-- fields of constants -/
theorem x_getc (C : xC G p s m args c cc nL Ts own) {o nm d : String} {index q : Nat} {v : Value} (hE : va_OF o nm d v q (xAs G) s s.heap) (hlink : Cond.fieldLink own index o nm d ∈ Ts) (hdg : decode cc pc = .ok (.getfield index, 3)) (kk : xW G p l e R s m args below meth c nL Q k n ta M (pc + 3) lv (v :: rest)) : xW G p l e R s m args below meth c nL Q k n ta M pc lv (.ref q :: rest) := fun H locs ls h1 h2 h3 =>
  vk_getf C.1.1 C.1.2.1 hE h2 C.1.2.2.2.1 (C.1.2.2.2.2 _ hlink) (fun _ h => h) hdg (kk H locs ls h1 h2 h3)
theorem x_gForm (C : xC G p s m args c cc nL Ts own) {index i : Nat} (hi : i < 10) (hlink : Cond.fieldLink own index RX1 "form" "Ljava/lang/String;" ∈ Ts) (hdg : decode cc pc = .ok (.getfield index, 3)) (kk : xW G p l e R s m args below meth c nL Q k n ta M (pc + 3) lv (.ref (xtx G i) :: rest)) : xW G p l e R s m args below meth c nL Q k n ta M pc lv (.ref (xcm G i) :: rest) := x_getc C ((xZ C).2.2.2.2.2.2.1 i hi).2.2 hlink hdg kk
theorem x_gOrd (C : xC G p s m args c cc nL Ts own) {index i : Nat} (hi : i < 10) (hlink : Cond.fieldLink own index "java/lang/Enum" "ordinal" "I" ∈ Ts) (hdg : decode cc pc = .ok (.getfield index, 3)) (kk : xW G p l e R s m args below meth c nL Q k n ta M (pc + 3) lv (.int (Int32.ofNat i) :: rest)) : xW G p l e R s m args below meth c nL Q k n ta M pc lv (.ref (xcm G i) :: rest) := x_getc C ((xZ C).2.2.2.2.2.2.1 i hi).2.1 hlink hdg kk
theorem x_gCoder (C : xC G p s m args c cc nL Ts own) {index i : Nat} (hi : i < 10) (hlink : Cond.fieldLink own index "java/lang/String" "coder" "B" ∈ Ts) (hdg : decode cc pc = .ok (.getfield index, 3)) (kk : xW G p l e R s m args below meth c nL Q k n ta M (pc + 3) lv (.int 0 :: rest)) : xW G p l e R s m args below meth c nL Q k n ta M pc lv (.ref (xtx G i) :: rest) := x_getc C ((xZ C).2.2.2.2.2.2.2.1 i hi).2.1 hlink hdg kk
theorem x_gValue (C : xC G p s m args c cc nL Ts own) {index i : Nat} (hi : i < 10) (hlink : Cond.fieldLink own index "java/lang/String" "value" "[B" ∈ Ts) (hdg : decode cc pc = .ok (.getfield index, 3)) (kk : xW G p l e R s m args below meth c nL Q k n ta M (pc + 3) lv (.ref (xby G i) :: rest)) : xW G p l e R s m args below meth c nL Q k n ta M pc lv (.ref (xtx G i) :: rest) := x_getc C ((xZ C).2.2.2.2.2.2.2.1 i hi).2.2.1 hlink hdg kk
theorem x_lenK (C : xC G p s m args c cc nL Ts own) {i : Nat} (hi : i < 10) (hdg : decode cc pc = .ok (.arraylength, 1)) (kk : xW G p l e R s m args below meth c nL Q k n ta M (pc + 1) lv (.int (Int32.ofNat (xFL.getD i 0)) :: rest)) : xW G p l e R s m args below meth c nL Q k n ta M pc lv (.ref (xby G i) :: rest) := fun H locs ls h1 h2 h3 =>
  va_tlen C.1.1 C.1.2.1 ((xZ C).2.2.2.2.2.2.2.1 i hi).2.2.2 h2 rfl hdg (kk H locs ls h1 h2 h3)
theorem x_tK (C : xC G p s m args c cc nL Ts own) {i : Nat} {j : Int32} (hi : i < 10) (hj : x_in j (xFL.getD i 0) = true) (hdg : decode cc pc = .ok (.baload, 1)) (kk : xW G p l e R s m args below meth c nL Q k n ta M (pc + 1) lv (.int ((xFB.getD i []).getD j.toNatClampNeg 0) :: rest)) : xW G p l e R s m args below meth c nL Q k n ta M pc lv (.int j :: .ref (xby G i) :: rest) := fun H locs ls h1 h2 h3 =>
  va_tb C.1.1 C.1.2.1 ((xZ C).2.2.2.2.2.2.2.1 i hi).2.2.2 h2 (x_vp hj) rfl hdg (kk H locs ls h1 h2 h3)
/-- nulls -/
theorem x_aloadN (C : xC G p s m args c cc nL Ts own) {z : Nat} (j : Nat) (hdg : decode cc pc = .ok (.aload z, 2)) (hl : lv[j]? = some ((z, .null) : Nat × Value)) (kk : xW G p l e R s m args below meth c nL Q k n ta M (pc + 2) lv (.null :: rest)) : xW G p l e R s m args below meth c nL Q k n ta M pc lv rest :=
  fun H locs ls h1 h2 h3 => lv_aloadN C.1.1 C.1.2.1 hdg (lv_at h3 j hl) (kk H locs ls h1 h2 h3)
theorem x_astoreN (C : xC G p s m args c cc nL Ts own) {i : Nat} {lv' : List (Nat × Value)} (hdg : decode cc pc = .ok (.astore i, 2)) (hn : i < nL) (hl : (i, Value.null) :: lv.filter (fun q => !(q.1 == i) && !(q.1 + 1 == i && q.2.category == 2)) = lv') (kk : xW G p l e R s m args below meth c nL Q k n ta M (pc + 2) lv' rest) : xW G p l e R s m args below meth c nL Q k n ta M pc lv (.null :: rest) :=
  fun H locs ls h1 h2 h3 => lv_astoreN C.1.1 C.1.2.1 hdg h3 hn hl (fun ls9 h9 => kk H locs ls9 h1 h2 h9)
theorem x_ifnull (C : xC G p s m args c cc nL Ts own) {x : Nat} {off : Int} (hdg : decode cc pc = .ok (.ifnull off, 3)) (kk : xW G p l e R s m args below meth c nL Q k n ta M (pc + 3) lv rest) : xW G p l e R s m args below meth c nL Q k n ta M pc lv (.ref x :: rest) :=
  fun H locs ls h1 h2 h3 => lv_ifnull C.1.1 C.1.2.1 hdg (kk H locs ls h1 h2 h3)
theorem x_ifnullN (C : xC G p s m args c cc nL Ts own) {off : Int} (tgt : Nat) (hdg : decode cc pc = .ok (.ifnull off, 3)) (ht : (pc : Int) + off = (tgt : Int)) (kk : xW G p l e R s m args below meth c nL Q k n ta M tgt lv rest) : xW G p l e R s m args below meth c nL Q k n ta M pc lv (.null :: rest) :=
  fun H locs ls h1 h2 h3 => lv_ifnullN C.1.1 C.1.2.1 hdg ht (kk H locs ls h1 h2 h3)
theorem x_ifnonnull (C : xC G p s m args c cc nL Ts own) {x : Nat} {off : Int} (tgt : Nat) (hdg : decode cc pc = .ok (.ifnonnull off, 3)) (ht : (pc : Int) + off = (tgt : Int)) (kk : xW G p l e R s m args below meth c nL Q k n ta M tgt lv rest) : xW G p l e R s m args below meth c nL Q k n ta M pc lv (.ref x :: rest) :=
  fun H locs ls h1 h2 h3 => lv_ifnonnull C.1.1 C.1.2.1 hdg ht (kk H locs ls h1 h2 h3)
theorem x_ifnonnullN (C : xC G p s m args c cc nL Ts own) {off : Int} (hdg : decode cc pc = .ok (.ifnonnull off, 3)) (kk : xW G p l e R s m args below meth c nL Q k n ta M (pc + 3) lv rest) : xW G p l e R s m args below meth c nL Q k n ta M pc lv (.null :: rest) :=
  fun H locs ls h1 h2 h3 => lv_ifnonnullN C.1.1 C.1.2.1 hdg (kk H locs ls h1 h2 h3)
/-- returns of references -/
theorem x_aret {v : Value} {rt : FieldType} (C : xC G p s m args c cc nL Ts own) (hr : meth.sig.returnType = some rt) (hlocks : meth.locks = false) (hrt : (∃ n, rt = .object n) ∨ ∃ t, rt = .array t) (hv : v = .null ∨ ∃ a, v = .ref a) (hdg : decode cc pc = .ok (.areturn, 1)) : xW G p l e R s m args below meth c nL (MQ below (xQr G (some v) M) args s k n (xAs G)) k n ta M pc lv [v] :=
  fun H locs ls h1 h2 h3 => W.aret C.1.1 C.1.2.1 hr hrt hv (fun t ht hW => ⟨⟨ta, rfl, by rw [ht]; exact h1⟩, h2.F ht⟩) h2.2.2 hdg hlocks
/-! contracts that leave the texts where they are -/
def xQrT (G : xG) (ta : Nat × Nat) (v : Option Value) (M' : xM) : Array Value → State → Outcome → State → Prop := fun _ st oc t => (oc = .returned v ∧ xH G ta M' t.heap) ∧ va_F (xAs G) st t
def xMetT (G : xG) (l : Launch) (y : MethodName) (ws : List Cond) (rm : Room) (mc ms : Nat) (ta : Nat × Nat) (M : xM) (av : List Value) (v : Option Value) (M' : xM) : Prop := Met l y ws rm (xPc G ta M av) (xQrT G ta v M') mc ms (xAs G)
theorem x_iretT {w : Int32} (C : xC G p s m args c cc nL Ts own) (hr : meth.sig.returnType = some .int) (hlocks : meth.locks = false) (hdg : decode cc pc = .ok (.ireturn, 1)) : xW G p l e R s m args below meth c nL (MQ below (xQrT G ta (some (.int w)) M) args s k n (xAs G)) k n ta M pc lv [.int w] :=
  fun H locs ls h1 h2 h3 => W.iret C.1.1 C.1.2.1 hr (fun t ht hW => ⟨⟨rfl, by rw [ht]; exact h1⟩, h2.F ht⟩) h2.2.2 hdg hlocks
theorem x_zretT {w : Int32} {ty : FieldType} (C : xC G p s m args c cc nL Ts own) (hr : meth.sig.returnType = some ty) (hlocks : meth.locks = false) (hnw : narrow ty (.int w) = .int w) (hdg : decode cc pc = .ok (.ireturn, 1)) : xW G p l e R s m args below meth c nL (MQ below (xQrT G ta (some (.int w)) M) args s k n (xAs G)) k n ta M pc lv [.int w] :=
  fun H locs ls h1 h2 h3 => W.zret C.1.1 C.1.2.1 hr hnw (fun t ht hW => ⟨⟨rfl, by rw [ht]; exact h1⟩, h2.F ht⟩) h2.2.2 hdg hlocks
theorem x_vretT (C : xC G p s m args c cc nL Ts own) (hr : meth.sig.returnType = none) (hlocks : meth.locks = false) (hdg : decode cc pc = .ok (.return_, 1)) : xW G p l e R s m args below meth c nL (MQ below (xQrT G ta none M) args s k n (xAs G)) k n ta M pc lv [] :=
  fun H locs ls h1 h2 h3 => W.vret C.1.1 C.1.2.1 hr (fun t ht hW => ⟨⟨rfl, by rw [ht]; exact h1⟩, h2.F ht⟩) h2.2.2 hdg hlocks
theorem x_nbyte {v : Int32} (h : vp_nar .byte v = v) : narrow .byte (.int v) = .int v := by
  have e : narrow .byte (.int v) = .int (vp_nar .byte v) := rfl
  rw [e, h]
variable {y : MethodName} {ws ws' : List Cond} {rm : Room} {mc ms : Nat} {av : List Value} {v : Option Value} {ret : Option FieldType} {bytes : ByteArray} {maxL index na : Nat}
theorem x_metT (hy : plainName y.cls = true) (hw : ws = Cond.code y cc nL ret :: ws') (hn : (lg_sl av).length ≤ nL)
    (body : ∀ p e s m args below meth c, xC G p s m args c cc nL ws y.cls → meth.sig.returnType = ret → meth.locks = false → xW G p l e rm s m args below meth c nL (MQ below (xQrT G ta v M') args s mc ms (xAs G)) 0 0 ta M 0 (lv_args 0 av) []) : xMetT G l y ws rm mc ms ta M av v M' := by
  refine Met.ofW (cc := cc) (maxL := nL) (ret := ret) hy hw ?_
  intro p e s m args below meth c s₁ B hml hv
  obtain ⟨rfl, hK, hH⟩ := hv
  have hl := lv_entry av (n := nL) hn
  rw [lg_entry_eq]
  exact body p e s m av.toArray below meth c ⟨⟨B.exec, B.bytes, hml, findClass_of_methodNamed B.named, atoms_spec (ws := ws) B.pre⟩, hK⟩ B.returns B.notSynchronized s.heap [] _ hH va_S.rf hl
/-- a call of such a method goes on where the texts were -/
theorem x_callT0 {g : Nat → List (Nat × Value) → List Value → Prop} (hr : ∀ H locs ls, xH G ta M H → va_S (xAs G) s.heap H locs → lv_has ls nL lv → va_Run p l e R s m args below meth c H locs k n mc ms (F0 m pc ls st) rest (xQrT G ta v M' av.toArray) (xAs G)) (kk : xW G p l e R s m args below meth c nL Q (k + mc) (n + ms) ta M' (pc + 3) lv (v.toList ++ rest)) : xW G p l e R s m args below meth c nL Q k n ta M pc lv st := by
  intro H locs ls h1 h2 h3 T hT X
  obtain ⟨v9, st₀, t, T', L, g0, X', hL, e1, e2, ⟨⟨hv, hb⟩, hz, hk⟩, hst⟩ := hr H locs ls h1 h2 h3 T hT X
  cases hv
  rw [g0] at hz hk
  obtain ⟨t2, a1, b1⟩ := kk T'.heap (locs ++ L) ls (by rw [e1]; exact hb) ⟨Nat.le_trans h2.1 (by rw [e1]; exact hz), fun q z1 z2 => by rw [e1, hk q (Nat.lt_of_lt_of_le z1 h2.1) z2]; exact h2.2.1 q z1 z2, fun q hq => by
      rcases List.mem_append.mp hq with h | h
      · exact h2.2.2 q h
      · exact hL q h⟩ h3 T' rfl X'
  exact ⟨t2, hst t2 a1, b1⟩
abbrev xPre (C : xC G p s m args c cc nL Ts own) {H : Heap} {locs : List Loc} (h1 : xH G ta M H) (h2 : va_S (xAs G) s.heap H locs) (av : List Value) : ∀ U : State, U.heap = H → s.WarmedH U.vm → xPc G ta M av av.toArray U := fun U hU hW => ⟨rfl, xK_to C.2 h2 hU hW, by rw [hU]; exact h1⟩
/-- receivers: a cell of the world, a constant text, a command -/
def xRv (G : xG) (s : State) (ta : Nat × Nat) (M : xM) (b : Nat) (Cn : String) : Prop := ∀ H locs, xH G ta M H → va_S (xAs G) s.heap H locs → ∃ cell : Cell, H[b]? = some cell ∧ cell.vm.isStatics = false ∧ s.vm.findClass Cn = some cell.cls
theorem xRv_w {cd ci : Nat} {fs : List Value} {q : vw_C} (hK : xK G s) (h21 : xkd cd ≠ 21) (h0 : xkd cd ≠ 0) (hce : xcM G ta M cd = .inr (ci, fs)) (hc : vwCl[ci]? = some q) : xRv G s ta M (xad G cd) q.1 := fun _ _ h1 _ => x_rcv hK h1 h21 h0 hce hc
theorem xRv_1 {cd : Nat} (C : xC G p s m args c cc nL Ts own) (hk : xkd cd = 1) : xRv G s ta M (xad G cd) RJ4 := xRv_w (q := (RJ4, TJ4, 4)) C.2 (by rw [hk]; decide) (by rw [hk]; decide) (xc1 hk) rfl
theorem xRv_6 {cd : Nat} (C : xC G p s m args c cc nL Ts own) (hk : xkd cd = 6) : xRv G s ta M (xad G cd) RX4 := xRv_w (q := (RX4, TX4, 3)) C.2 (by rw [hk]; decide) (by rw [hk]; decide) (xc6 hk) rfl
theorem xRv_8 {cd : Nat} (C : xC G p s m args c cc nL Ts own) (hk : xkd cd = 8) : xRv G s ta M (xad G cd) RX6 := xRv_w (q := (RX6, TX6, 11)) C.2 (by rw [hk]; decide) (by rw [hk]; decide) (xc8 hk) rfl
theorem xRv_s {i : Nat} (C : xC G p s m args c cc nL Ts own) (hi : i < 10) : xRv G s ta M (xtx G i) RJ0 := fun _ _ _ h2 => vk_recv (xZ C).2.2.2.2.2.2.2 hi h2
theorem xRv_c {i : Nat} (C : xC G p s m args c cc nL Ts own) (hi : i < 10) : xRv G s ta M (xcm G i) RX1 := fun _ _ _ h2 => va_Orecv ((xZ C).2.2.2.2.2.2.1 i hi).1 h2
theorem x_callVC {b : Nat} {Cn : String} {As : List Value} (C : xC G p s m args c cc nL Ts own) (hrv : xRv G s ta M b Cn) (hM : xMet G l y ws rm mc ms ta M (.ref b :: As) v M') (cw : CallW R s args own Cn index y bytes maxL ret ws rm mc ms na) (hn : As.length = na) (hst : st = As.reverse ++ .ref b :: rest) (hW : (rest.map fun v => v.category).sum ≤ 8) (hdg : decode cc pc = .ok (.invokevirtual index, 3)) (hf : k + mc ≤ R.cells ∧ n + ms ≤ R.slots)
    (kk : ∀ ta', xW G p l e R s m args below meth c nL Q (k + mc) (n + ms) ta' M' (pc + 3) lv (v.toList ++ rest)) : xW G p l e R s m args below meth c nL Q k n ta M pc lv st :=
  x_call (av := .ref b :: As) (fun H locs ls h1 h2 h3 => va_runV C.1 hM cw ⟨xPc_blind, hrv H locs h1 h2, xPre C h1 h2 _⟩ rfl hn h3.1 hst (lv_room hW) hdg hf) kk
theorem x_callVCr {w : Value} {b : Nat} {Cn : String} {As : List Value} (C : xC G p s m args c cc nL Ts own) (hrv : xRv G s ta M b Cn) (hM : xMet G l y ws rm mc ms ta M (.ref b :: As) (some w) M') (cw : CallW R s args own Cn index y bytes maxL ret ws rm mc ms na) (hn : As.length = na) (hst : st = As.reverse ++ .ref b :: rest) (hW : (rest.map fun v => v.category).sum ≤ 8) (hdg : decode cc pc = .ok (.invokevirtual index, 3)) (hf : k + mc ≤ R.cells ∧ n + ms ≤ R.slots)
    (kk : ∀ ta', xW G p l e R s m args below meth c nL Q (k + mc) (n + ms) ta' M' (pc + 3) lv (w :: rest)) : xW G p l e R s m args below meth c nL Q k n ta M pc lv st :=
  x_callVC C hrv hM cw hn hst hW hdg hf kk
theorem x_callVCv {b : Nat} {Cn : String} {As : List Value} (C : xC G p s m args c cc nL Ts own) (hrv : xRv G s ta M b Cn) (hM : xMet G l y ws rm mc ms ta M (.ref b :: As) none M') (cw : CallW R s args own Cn index y bytes maxL ret ws rm mc ms na) (hn : As.length = na) (hst : st = As.reverse ++ .ref b :: rest) (hW : (rest.map fun v => v.category).sum ≤ 8) (hdg : decode cc pc = .ok (.invokevirtual index, 3)) (hf : k + mc ≤ R.cells ∧ n + ms ≤ R.slots)
    (kk : ∀ ta', xW G p l e R s m args below meth c nL Q (k + mc) (n + ms) ta' M' (pc + 3) lv rest) : xW G p l e R s m args below meth c nL Q k n ta M pc lv st :=
  x_callVC C hrv hM cw hn hst hW hdg hf kk
theorem x_callVCT {b : Nat} {Cn : String} {As : List Value} (C : xC G p s m args c cc nL Ts own) (hrv : xRv G s ta M b Cn) (hM : xMetT G l y ws rm mc ms ta M (.ref b :: As) v M') (cw : CallW R s args own Cn index y bytes maxL ret ws rm mc ms na) (hn : As.length = na) (hst : st = As.reverse ++ .ref b :: rest) (hW : (rest.map fun v => v.category).sum ≤ 8) (hdg : decode cc pc = .ok (.invokevirtual index, 3)) (hf : k + mc ≤ R.cells ∧ n + ms ≤ R.slots)
    (kk : xW G p l e R s m args below meth c nL Q (k + mc) (n + ms) ta M' (pc + 3) lv (v.toList ++ rest)) : xW G p l e R s m args below meth c nL Q k n ta M pc lv st :=
  x_callT0 (g := fun _ _ _ => True) (av := .ref b :: As) (fun H locs ls h1 h2 h3 => va_runV C.1 hM cw ⟨xPc_blind, hrv H locs h1 h2, xPre C h1 h2 _⟩ rfl hn h3.1 hst (lv_room hW) hdg hf) kk
theorem x_callVCTr {w : Value} {b : Nat} {Cn : String} {As : List Value} (C : xC G p s m args c cc nL Ts own) (hrv : xRv G s ta M b Cn) (hM : xMetT G l y ws rm mc ms ta M (.ref b :: As) (some w) M') (cw : CallW R s args own Cn index y bytes maxL ret ws rm mc ms na) (hn : As.length = na) (hst : st = As.reverse ++ .ref b :: rest) (hW : (rest.map fun v => v.category).sum ≤ 8) (hdg : decode cc pc = .ok (.invokevirtual index, 3)) (hf : k + mc ≤ R.cells ∧ n + ms ≤ R.slots)
    (kk : xW G p l e R s m args below meth c nL Q (k + mc) (n + ms) ta M' (pc + 3) lv (w :: rest)) : xW G p l e R s m args below meth c nL Q k n ta M pc lv st :=
  x_callVCT C hrv hM cw hn hst hW hdg hf kk
theorem x_callVCTv {b : Nat} {Cn : String} {As : List Value} (C : xC G p s m args c cc nL Ts own) (hrv : xRv G s ta M b Cn) (hM : xMetT G l y ws rm mc ms ta M (.ref b :: As) none M') (cw : CallW R s args own Cn index y bytes maxL ret ws rm mc ms na) (hn : As.length = na) (hst : st = As.reverse ++ .ref b :: rest) (hW : (rest.map fun v => v.category).sum ≤ 8) (hdg : decode cc pc = .ok (.invokevirtual index, 3)) (hf : k + mc ≤ R.cells ∧ n + ms ≤ R.slots)
    (kk : xW G p l e R s m args below meth c nL Q (k + mc) (n + ms) ta M' (pc + 3) lv rest) : xW G p l e R s m args below meth c nL Q k n ta M pc lv st :=
  x_callVCT C hrv hM cw hn hst hW hdg hf kk
theorem x_callSC {As : List Value} (C : xC G p s m args c cc nL Ts own) (hM : xMet G l y ws rm mc ms ta M (As) v M') (cw : CallB R s args own index y bytes maxL ret ws rm mc ms na ∧ (Cond.static y).before args s = true) (hn : As.length = na) (hst : st = As.reverse ++ rest) (hW : (rest.map fun v => v.category).sum ≤ 8) (hdg : decode cc pc = .ok (.invokestatic index, 3)) (hf : k + mc ≤ R.cells ∧ n + ms ≤ R.slots)
    (kk : ∀ ta', xW G p l e R s m args below meth c nL Q (k + mc) (n + ms) ta' M' (pc + 3) lv (v.toList ++ rest)) : xW G p l e R s m args below meth c nL Q k n ta M pc lv st :=
  x_call (av := As) (fun H locs ls h1 h2 h3 => va_runS C.1 hM cw ⟨xPc_blind, xPre C h1 h2 _⟩ rfl hn h3.1 hst (lv_room hW) hdg hf) kk
theorem x_callSCr {w : Value} {As : List Value} (C : xC G p s m args c cc nL Ts own) (hM : xMet G l y ws rm mc ms ta M (As) (some w) M') (cw : CallB R s args own index y bytes maxL ret ws rm mc ms na ∧ (Cond.static y).before args s = true) (hn : As.length = na) (hst : st = As.reverse ++ rest) (hW : (rest.map fun v => v.category).sum ≤ 8) (hdg : decode cc pc = .ok (.invokestatic index, 3)) (hf : k + mc ≤ R.cells ∧ n + ms ≤ R.slots)
    (kk : ∀ ta', xW G p l e R s m args below meth c nL Q (k + mc) (n + ms) ta' M' (pc + 3) lv (w :: rest)) : xW G p l e R s m args below meth c nL Q k n ta M pc lv st :=
  x_callSC C hM cw hn hst hW hdg hf kk
theorem x_callSCv {As : List Value} (C : xC G p s m args c cc nL Ts own) (hM : xMet G l y ws rm mc ms ta M (As) none M') (cw : CallB R s args own index y bytes maxL ret ws rm mc ms na ∧ (Cond.static y).before args s = true) (hn : As.length = na) (hst : st = As.reverse ++ rest) (hW : (rest.map fun v => v.category).sum ≤ 8) (hdg : decode cc pc = .ok (.invokestatic index, 3)) (hf : k + mc ≤ R.cells ∧ n + ms ≤ R.slots)
    (kk : ∀ ta', xW G p l e R s m args below meth c nL Q (k + mc) (n + ms) ta' M' (pc + 3) lv rest) : xW G p l e R s m args below meth c nL Q k n ta M pc lv st :=
  x_callSC C hM cw hn hst hW hdg hf kk
theorem x_callSCT {As : List Value} (C : xC G p s m args c cc nL Ts own) (hM : xMetT G l y ws rm mc ms ta M (As) v M') (cw : CallB R s args own index y bytes maxL ret ws rm mc ms na ∧ (Cond.static y).before args s = true) (hn : As.length = na) (hst : st = As.reverse ++ rest) (hW : (rest.map fun v => v.category).sum ≤ 8) (hdg : decode cc pc = .ok (.invokestatic index, 3)) (hf : k + mc ≤ R.cells ∧ n + ms ≤ R.slots)
    (kk : xW G p l e R s m args below meth c nL Q (k + mc) (n + ms) ta M' (pc + 3) lv (v.toList ++ rest)) : xW G p l e R s m args below meth c nL Q k n ta M pc lv st :=
  x_callT0 (g := fun _ _ _ => True) (av := As) (fun H locs ls h1 h2 h3 => va_runS C.1 hM cw ⟨xPc_blind, xPre C h1 h2 _⟩ rfl hn h3.1 hst (lv_room hW) hdg hf) kk
theorem x_callSCTr {w : Value} {As : List Value} (C : xC G p s m args c cc nL Ts own) (hM : xMetT G l y ws rm mc ms ta M (As) (some w) M') (cw : CallB R s args own index y bytes maxL ret ws rm mc ms na ∧ (Cond.static y).before args s = true) (hn : As.length = na) (hst : st = As.reverse ++ rest) (hW : (rest.map fun v => v.category).sum ≤ 8) (hdg : decode cc pc = .ok (.invokestatic index, 3)) (hf : k + mc ≤ R.cells ∧ n + ms ≤ R.slots)
    (kk : xW G p l e R s m args below meth c nL Q (k + mc) (n + ms) ta M' (pc + 3) lv (w :: rest)) : xW G p l e R s m args below meth c nL Q k n ta M pc lv st :=
  x_callSCT C hM cw hn hst hW hdg hf kk
theorem x_callSCTv {As : List Value} (C : xC G p s m args c cc nL Ts own) (hM : xMetT G l y ws rm mc ms ta M (As) none M') (cw : CallB R s args own index y bytes maxL ret ws rm mc ms na ∧ (Cond.static y).before args s = true) (hn : As.length = na) (hst : st = As.reverse ++ rest) (hW : (rest.map fun v => v.category).sum ≤ 8) (hdg : decode cc pc = .ok (.invokestatic index, 3)) (hf : k + mc ≤ R.cells ∧ n + ms ≤ R.slots)
    (kk : xW G p l e R s m args below meth c nL Q (k + mc) (n + ms) ta M' (pc + 3) lv rest) : xW G p l e R s m args below meth c nL Q k n ta M pc lv st :=
  x_callSCT C hM cw hn hst hW hdg hf kk
theorem x_callU {b : Nat} {Cn : String} {owner : String} {x : MethodName} {As : List Value} (C : xC G p s m args c cc nL Ts own) (hrv : xRv G s ta M b Cn) (hM : xMet G l y ws rm mc ms ta M (.ref b :: As) v M') (cw : va_CU R s args own Cn owner index x y bytes maxL ret ws rm mc ms na) (hn : As.length = na) (hst : st = As.reverse ++ .ref b :: rest) (hW : (rest.map fun v => v.category).sum ≤ 8) (hdg : decode cc pc = .ok (.invokevirtual index, 3)) (hf : k + mc ≤ R.cells ∧ n + ms ≤ R.slots)
    (kk : ∀ ta', xW G p l e R s m args below meth c nL Q (k + mc) (n + ms) ta' M' (pc + 3) lv (v.toList ++ rest)) : xW G p l e R s m args below meth c nL Q k n ta M pc lv st :=
  x_call (av := .ref b :: As) (fun H locs ls h1 h2 h3 => va_runU C.1 hM cw ⟨xPc_blind, hrv H locs h1 h2, xPre C h1 h2 _⟩ rfl hn h3.1 hst (lv_room hW) hdg hf) kk
theorem x_callUr {w : Value} {b : Nat} {Cn : String} {owner : String} {x : MethodName} {As : List Value} (C : xC G p s m args c cc nL Ts own) (hrv : xRv G s ta M b Cn) (hM : xMet G l y ws rm mc ms ta M (.ref b :: As) (some w) M') (cw : va_CU R s args own Cn owner index x y bytes maxL ret ws rm mc ms na) (hn : As.length = na) (hst : st = As.reverse ++ .ref b :: rest) (hW : (rest.map fun v => v.category).sum ≤ 8) (hdg : decode cc pc = .ok (.invokevirtual index, 3)) (hf : k + mc ≤ R.cells ∧ n + ms ≤ R.slots)
    (kk : ∀ ta', xW G p l e R s m args below meth c nL Q (k + mc) (n + ms) ta' M' (pc + 3) lv (w :: rest)) : xW G p l e R s m args below meth c nL Q k n ta M pc lv st :=
  x_callU C hrv hM cw hn hst hW hdg hf kk
theorem x_callUv {b : Nat} {Cn : String} {owner : String} {x : MethodName} {As : List Value} (C : xC G p s m args c cc nL Ts own) (hrv : xRv G s ta M b Cn) (hM : xMet G l y ws rm mc ms ta M (.ref b :: As) none M') (cw : va_CU R s args own Cn owner index x y bytes maxL ret ws rm mc ms na) (hn : As.length = na) (hst : st = As.reverse ++ .ref b :: rest) (hW : (rest.map fun v => v.category).sum ≤ 8) (hdg : decode cc pc = .ok (.invokevirtual index, 3)) (hf : k + mc ≤ R.cells ∧ n + ms ≤ R.slots)
    (kk : ∀ ta', xW G p l e R s m args below meth c nL Q (k + mc) (n + ms) ta' M' (pc + 3) lv rest) : xW G p l e R s m args below meth c nL Q k n ta M pc lv st :=
  x_callU C hrv hM cw hn hst hW hdg hf kk
theorem x_callUT {b : Nat} {Cn : String} {owner : String} {x : MethodName} {As : List Value} (C : xC G p s m args c cc nL Ts own) (hrv : xRv G s ta M b Cn) (hM : xMetT G l y ws rm mc ms ta M (.ref b :: As) v M') (cw : va_CU R s args own Cn owner index x y bytes maxL ret ws rm mc ms na) (hn : As.length = na) (hst : st = As.reverse ++ .ref b :: rest) (hW : (rest.map fun v => v.category).sum ≤ 8) (hdg : decode cc pc = .ok (.invokevirtual index, 3)) (hf : k + mc ≤ R.cells ∧ n + ms ≤ R.slots)
    (kk : xW G p l e R s m args below meth c nL Q (k + mc) (n + ms) ta M' (pc + 3) lv (v.toList ++ rest)) : xW G p l e R s m args below meth c nL Q k n ta M pc lv st :=
  x_callT0 (g := fun _ _ _ => True) (av := .ref b :: As) (fun H locs ls h1 h2 h3 => va_runU C.1 hM cw ⟨xPc_blind, hrv H locs h1 h2, xPre C h1 h2 _⟩ rfl hn h3.1 hst (lv_room hW) hdg hf) kk
theorem x_callUTr {w : Value} {b : Nat} {Cn : String} {owner : String} {x : MethodName} {As : List Value} (C : xC G p s m args c cc nL Ts own) (hrv : xRv G s ta M b Cn) (hM : xMetT G l y ws rm mc ms ta M (.ref b :: As) (some w) M') (cw : va_CU R s args own Cn owner index x y bytes maxL ret ws rm mc ms na) (hn : As.length = na) (hst : st = As.reverse ++ .ref b :: rest) (hW : (rest.map fun v => v.category).sum ≤ 8) (hdg : decode cc pc = .ok (.invokevirtual index, 3)) (hf : k + mc ≤ R.cells ∧ n + ms ≤ R.slots)
    (kk : xW G p l e R s m args below meth c nL Q (k + mc) (n + ms) ta M' (pc + 3) lv (w :: rest)) : xW G p l e R s m args below meth c nL Q k n ta M pc lv st :=
  x_callUT C hrv hM cw hn hst hW hdg hf kk
theorem x_callUTv {b : Nat} {Cn : String} {owner : String} {x : MethodName} {As : List Value} (C : xC G p s m args c cc nL Ts own) (hrv : xRv G s ta M b Cn) (hM : xMetT G l y ws rm mc ms ta M (.ref b :: As) none M') (cw : va_CU R s args own Cn owner index x y bytes maxL ret ws rm mc ms na) (hn : As.length = na) (hst : st = As.reverse ++ .ref b :: rest) (hW : (rest.map fun v => v.category).sum ≤ 8) (hdg : decode cc pc = .ok (.invokevirtual index, 3)) (hf : k + mc ≤ R.cells ∧ n + ms ≤ R.slots)
    (kk : xW G p l e R s m args below meth c nL Q (k + mc) (n + ms) ta M' (pc + 3) lv rest) : xW G p l e R s m args below meth c nL Q k n ta M pc lv st :=
  x_callUT C hrv hM cw hn hst hW hdg hf kk
theorem x_callSU {b : Nat} {Cn : String} {As : List Value} (C : xC G p s m args c cc nL Ts own) (hrv : xRv G s ta M b Cn) (hat : ∃ cC, ClassAt s Cn cC) (hM : xMet G l y ws rm mc ms ta M (.ref b :: As) v M') (cw : va_CS R s args own index y bytes maxL ret ws rm mc ms na) (hn : As.length = na) (hst : st = As.reverse ++ .ref b :: rest) (hW : (rest.map fun v => v.category).sum ≤ 8) (hdg : decode cc pc = .ok (.invokespecial index, 3)) (hf : k + mc ≤ R.cells ∧ n + ms ≤ R.slots)
    (kk : ∀ ta', xW G p l e R s m args below meth c nL Q (k + mc) (n + ms) ta' M' (pc + 3) lv (v.toList ++ rest)) : xW G p l e R s m args below meth c nL Q k n ta M pc lv st :=
  x_call (av := .ref b :: As) (fun H locs ls h1 h2 h3 => va_runSU hat.choose_spec C.1 hM cw ⟨xPc_blind, hrv H locs h1 h2, xPre C h1 h2 _⟩ rfl hn h3.1 hst (lv_room hW) hdg hf) kk
theorem x_callSUr {w : Value} {b : Nat} {Cn : String} {As : List Value} (C : xC G p s m args c cc nL Ts own) (hrv : xRv G s ta M b Cn) (hat : ∃ cC, ClassAt s Cn cC) (hM : xMet G l y ws rm mc ms ta M (.ref b :: As) (some w) M') (cw : va_CS R s args own index y bytes maxL ret ws rm mc ms na) (hn : As.length = na) (hst : st = As.reverse ++ .ref b :: rest) (hW : (rest.map fun v => v.category).sum ≤ 8) (hdg : decode cc pc = .ok (.invokespecial index, 3)) (hf : k + mc ≤ R.cells ∧ n + ms ≤ R.slots)
    (kk : ∀ ta', xW G p l e R s m args below meth c nL Q (k + mc) (n + ms) ta' M' (pc + 3) lv (w :: rest)) : xW G p l e R s m args below meth c nL Q k n ta M pc lv st :=
  x_callSU C hrv hat hM cw hn hst hW hdg hf kk
theorem x_callSUv {b : Nat} {Cn : String} {As : List Value} (C : xC G p s m args c cc nL Ts own) (hrv : xRv G s ta M b Cn) (hat : ∃ cC, ClassAt s Cn cC) (hM : xMet G l y ws rm mc ms ta M (.ref b :: As) none M') (cw : va_CS R s args own index y bytes maxL ret ws rm mc ms na) (hn : As.length = na) (hst : st = As.reverse ++ .ref b :: rest) (hW : (rest.map fun v => v.category).sum ≤ 8) (hdg : decode cc pc = .ok (.invokespecial index, 3)) (hf : k + mc ≤ R.cells ∧ n + ms ≤ R.slots)
    (kk : ∀ ta', xW G p l e R s m args below meth c nL Q (k + mc) (n + ms) ta' M' (pc + 3) lv rest) : xW G p l e R s m args below meth c nL Q k n ta M pc lv st :=
  x_callSU C hrv hat hM cw hn hst hW hdg hf kk
theorem x_callSUT {b : Nat} {Cn : String} {As : List Value} (C : xC G p s m args c cc nL Ts own) (hrv : xRv G s ta M b Cn) (hat : ∃ cC, ClassAt s Cn cC) (hM : xMetT G l y ws rm mc ms ta M (.ref b :: As) v M') (cw : va_CS R s args own index y bytes maxL ret ws rm mc ms na) (hn : As.length = na) (hst : st = As.reverse ++ .ref b :: rest) (hW : (rest.map fun v => v.category).sum ≤ 8) (hdg : decode cc pc = .ok (.invokespecial index, 3)) (hf : k + mc ≤ R.cells ∧ n + ms ≤ R.slots)
    (kk : xW G p l e R s m args below meth c nL Q (k + mc) (n + ms) ta M' (pc + 3) lv (v.toList ++ rest)) : xW G p l e R s m args below meth c nL Q k n ta M pc lv st :=
  x_callT0 (g := fun _ _ _ => True) (av := .ref b :: As) (fun H locs ls h1 h2 h3 => va_runSU hat.choose_spec C.1 hM cw ⟨xPc_blind, hrv H locs h1 h2, xPre C h1 h2 _⟩ rfl hn h3.1 hst (lv_room hW) hdg hf) kk
theorem x_callSUTr {w : Value} {b : Nat} {Cn : String} {As : List Value} (C : xC G p s m args c cc nL Ts own) (hrv : xRv G s ta M b Cn) (hat : ∃ cC, ClassAt s Cn cC) (hM : xMetT G l y ws rm mc ms ta M (.ref b :: As) (some w) M') (cw : va_CS R s args own index y bytes maxL ret ws rm mc ms na) (hn : As.length = na) (hst : st = As.reverse ++ .ref b :: rest) (hW : (rest.map fun v => v.category).sum ≤ 8) (hdg : decode cc pc = .ok (.invokespecial index, 3)) (hf : k + mc ≤ R.cells ∧ n + ms ≤ R.slots)
    (kk : xW G p l e R s m args below meth c nL Q (k + mc) (n + ms) ta M' (pc + 3) lv (w :: rest)) : xW G p l e R s m args below meth c nL Q k n ta M pc lv st :=
  x_callSUT C hrv hat hM cw hn hst hW hdg hf kk
theorem x_callSUTv {b : Nat} {Cn : String} {As : List Value} (C : xC G p s m args c cc nL Ts own) (hrv : xRv G s ta M b Cn) (hat : ∃ cC, ClassAt s Cn cC) (hM : xMetT G l y ws rm mc ms ta M (.ref b :: As) none M') (cw : va_CS R s args own index y bytes maxL ret ws rm mc ms na) (hn : As.length = na) (hst : st = As.reverse ++ .ref b :: rest) (hW : (rest.map fun v => v.category).sum ≤ 8) (hdg : decode cc pc = .ok (.invokespecial index, 3)) (hf : k + mc ≤ R.cells ∧ n + ms ≤ R.slots)
    (kk : xW G p l e R s m args below meth c nL Q (k + mc) (n + ms) ta M' (pc + 3) lv rest) : xW G p l e R s m args below meth c nL Q k n ta M pc lv st :=
  x_callSUT C hrv hat hM cw hn hst hW hdg hf kk
theorem xAt_1 (C : xC G p s m args c cc nL Ts own) : ∃ cC, ClassAt s RJ4 cC := ⟨_, (C.2.1.1 1 _ rfl).2⟩
theorem xNw_tab : ∀ w ∈ xNw, w.onTables = true := by decide
theorem x_word {w : Cond} (C : xC G p s m args c cc nL Ts own) (h : w ∈ Ts ∨ w ∈ xNw) : w.before args s = true := h.elim (fun h => C.1.2.2.2.2 _ h) (fun h => va_Nw.use (xNw_tab w h) (C.2.2.2.2.2.1 _ h))
/-- the handlers ahead of the one that takes it -/
def x_pre (own : String) (Ts : List Cond) (hh : List (Nat × Nat × Nat × Nat)) (nms : List String) (name : String) (j : Nat) : Bool := (List.range j).all fun i => match hh[i]?, nms[i]? with
  | some z, some nm => decide (z.2.2.2 ≠ 0) && decide (Cond.classLink own z.2.2.2 nm ∈ Ts ∨ Cond.classLink own z.2.2.2 nm ∈ xNw) && decide ((name, nm) ∈ xNc)
  | _, _ => false
theorem x_pre_at {own : String} {Ts : List Cond} {hh : List (Nat × Nat × Nat × Nat)} {nms : List String} {name : String} {j : Nat} (h : x_pre own Ts hh nms name j = true) (i : Nat) (hi : i < j) : ∃ z nm, hh[i]? = some z ∧ z.2.2.2 ≠ 0 ∧ (Cond.classLink own z.2.2.2 nm ∈ Ts ∨ Cond.classLink own z.2.2.2 nm ∈ xNw) ∧ (name, nm) ∈ xNc := by
  have h1 := List.all_eq_true.mp h i (List.mem_range.mpr hi)
  cases hz : hh[i]? with
  | none => simp [hz] at h1
  | some z =>
    cases hn : nms[i]? with
    | none => simp [hz, hn] at h1
    | some nm =>
      simp only [hz, hn, Bool.and_eq_true, decide_eq_true_eq] at h1
      exact ⟨z, nm, rfl, h1.1.1, h1.1.2, h1.2⟩
/-- a handler: the class E is caught at the table's place j; those ahead of it don't take it -/
theorem x_catch {hh : List (Nat × Nat × Nat × Nat)} {q4 : Nat × Nat × Nat × Nat} {name : String} (C : xC G p s m args c cc nL Ts own) (htb : c.exceptionTable.toList = tableOf hh) (j : Nat) (nms : List String) (hj : hh[j]? = some q4) (hcov : q4.1 ≤ pc ∧ pc < q4.2.1) (h0 : q4.2.2.2 ≠ 0) (hlink : Cond.classLink own q4.2.2.2 name ∈ Ts ∨ Cond.classLink own q4.2.2.2 name ∈ xNw) (hcast : Cond.castable name name ∈ xNw) (hpre : x_pre own Ts hh nms name j = true)
    (kk : ∀ q, xW G p l e R s m args below meth c nL Q k n ta M q4.2.2.1 lv [.ref q]) : xT G p l e R s m args below meth c nL Q k n ta M pc lv st name := fun H locs ls q ce h1 h2 h3 hce hcv hcl => by
  have hl : j < hh.length := (List.getElem?_eq_some_iff.mp hj).1
  have he : hh[j] = q4 := (List.getElem?_eq_some_iff.mp hj).2
  have hsp : hh = hh.take j ++ q4 :: hh.drop (j + 1) := by
    rw [← he, List.getElem_cons_drop, List.take_append_drop]
  have hsp2 : tableOf hh = tableOf (hh.take j) ++ ⟨q4.1, q4.2.1, q4.2.2.1, q4.2.2.2⟩ :: tableOf (hh.drop (j + 1)) := by
    conv => lhs; rw [hsp]
    unfold tableOf
    rw [List.map_append, List.map_cons]
  refine vx_catch C.1.2.2.2.1 (tableOf (hh.take j)) ⟨q4.1, q4.2.1, q4.2.2.1, q4.2.2.2⟩ (tableOf (hh.drop (j + 1))) (htb.trans hsp2) (fun z hz => Or.inr ?_) ?_ h0 (x_word C hlink) (va_Nw.use rfl (C.2.2.2.2.2.1 _ hcast)) hce hcv hcl (kk q H locs ls h1 h2 h3)
  · unfold tableOf at hz
    obtain ⟨z4, hz4, rfl⟩ := List.mem_map.mp hz
    obtain ⟨i, hi, hi2⟩ := List.mem_take_iff_getElem.mp hz4
    obtain ⟨z, nm, g1, g0, g3, g4⟩ := x_pre_at hpre i (by omega)
    have hz : z = z4 := by
      have g5 : hh[i]? = some hh[i] := List.getElem?_eq_getElem (by omega)
      rw [g5] at g1
      rw [← Option.some.inj g1]
      exact hi2
    subst hz
    exact ⟨g0, nm, x_word C g3, C.2.2.2.2.2.2.2.1 (name, nm) g4⟩
  · show (decide _ && decide _) = true
    rw [decide_eq_true hcov.1, decide_eq_true hcov.2]
    rfl
end XZ
/-- a command, or none -/
def xvc (G : xG) : Option Nat → Value
  | none => .null
  | some i => .ref (xcm G i)
def x_opt {α β : Type} (o : Option α) (f : Option β) (g : α → Option β) : Option β := match o with
  | none => f
  | some r => g r
theorem x_on {α β : Type} {f : Option β} {g : α → Option β} {o : Option β} (h : x_opt none f g = o) : f = o := h
theorem x_os {α β : Type} {f : Option β} {g : α → Option β} {r : α} {o : Option β} (h : x_opt (some r) f g = o) : g r = o := h
theorem x_inlt {i : Int32} {n : Nat} (h : x_in i n = true) : i.toNatClampNeg < n := Nat.not_le.mp fun q => (x_vp h) (Or.inr q)
theorem nx_d0 : decode prog_38_method_4_code 0 = .ok (.aload_n 0, 1) := by decide +kernel
theorem nx_d1 : decode prog_38_method_4_code 1 = .ok (.aload_n 1, 1) := by decide +kernel
theorem nx_d2 : decode prog_38_method_4_code 2 = .ok (.invokespecial 13, 3) := by decide +kernel
theorem nx_d5 : decode prog_38_method_4_code 5 = .ok (.return_, 1) := by decide +kernel
section XNTHROW
variable {G : xG} {p : Program} {l : Launch} {e : Env} {R : Room} {s : State} {m : MethodId} {args : Array Value} {below : List Frame} {meth : Method} {c : Code} {nL : Nat} {Q : State → Prop} {k n : Nat} {ta : Nat × Nat} {M M' : xM} {pc : Nat} {lv : List (Nat × Value)} {st rest : List Value} {cc : ByteArray} {Ts : List Cond} {own : String}
theorem x_nthrow {mc ms : Nat} (C : xC G p s m args c cc nL Ts own) (hfl : l.stackTraces = false) (hlocks : meth.locks = false) (htb : ∀ x ∈ c.exceptionTable.toList, False) {cls text : String} {names : List String} {ik is ic : Nat} (hcls : Bundle.fit cls = true) (hnames : ∀ n ∈ names, Bundle.fit n = true) (hk : Cond.classLink own ik cls ∈ Ts) (hini : Cond.initialized cls ∈ Ts) (htx : (own, is, text) ∈ xTx) (hat : ∀ w ∈ nx_atS own ic cls 13 prog_38_method_4_code names, w ∈ Ts ∨ w ∈ xNw)
    (hgood : ∀ w ∈ Cond.classLink own ik cls :: Cond.initialized cls :: nx_atS own ic cls 13 prog_38_method_4_code names, vx_ot w = true)
    (d0 : decode cc pc = .ok (.new ik, 3)) (d3 : decode cc (pc + 3) = .ok (.dup, 1)) (d4 : decode cc (pc + 4) = .ok (.ldc is, 2)) (d6 : decode cc (pc + 6) = .ok (.invokespecial ic, 3)) (d9 : decode cc (pc + 9) = .ok (.athrow, 1))
    (hRframes : names.length + 3 < R.frames) (hRlocals : (rest.map fun v => v.category).sum + (13 * (names.length + 1) + 43) ≤ R.locals) (hRcells : k + 1 ≤ R.cells) (hRslots : n + 6 ≤ R.slots) (hc : k + 1 ≤ mc) (hs : n + 6 ≤ ms) :
    xW G p l e R s m args below meth c nL (vx_MQ below (xQx G (.inr cls) M) (xXc G (.inr cls) M) args s mc ms (xAs G)) k n ta M pc lv rest := fun H locs ls h1 h2 h3 => by
  obtain ⟨sa, hsa⟩ := C.2.2.2.2.2.2.1 _ htx
  refine nx_throwS C.1.1 C.1.2.1 hfl (A := xAs G) nx_d0 nx_d1 nx_d2 nx_d5 C.1.2.2.2.1 hcls hnames (C.1.2.2.2.2 _ hk) (C.1.2.2.2.2 _ hini) hsa (fun w hw => ?_) hgood C.2.2.2.1 C.2.2.2.2.1 h2 (h3.1.trans C.1.2.2.1.symm) d0 d3 d4 d6 d9 (fun x hx => (htb x hx).elim) hRframes hRlocals hRcells hRslots hlocks (fun t hvm hz hk => ?_) h2.2.2 hc hs
  · rcases hat w hw with h | h
    · exact C.1.2.2.2.2 w h
    · have h9 := C.2.2.2.2.2.1 w h
      unfold xNw at h
      simp only [List.mem_cons, List.not_mem_nil, or_false] at h
      rcases h with rfl | rfl | rfl | rfl | rfl | rfl | rfl | rfl | rfl | rfl | rfl | rfl | rfl | rfl | rfl | rfl <;> exact va_Nw.use rfl h9
  · refine ⟨rfl, ⟨ta, ?_⟩, ?_⟩
    · obtain ⟨g1, g2, g3⟩ := h1
      exact ⟨g1.kept (fun j q hq => hk q.1 (g1 j q hq).lt), g2, Nat.le_trans g3 hz⟩
    · exact ⟨Nat.le_trans h2.1 hz, fun q q1 q2 => (hk q (Nat.lt_of_lt_of_le q1 h2.1)).trans (h2.2.1 q q1 q2)⟩
theorem x_nthrowSW {mc ms : Nat} (C : xC G p s m args c cc nL Ts own) (hfl : l.stackTraces = false) (hlocks : meth.locks = false) (htb : ∀ x ∈ c.exceptionTable.toList, False) {cls text : String} {names : List String} {ik is ic : Nat} (hcls : Bundle.fit cls = true) (hnames : ∀ n ∈ names, Bundle.fit n = true) (hk : Cond.classLink own ik cls ∈ Ts) (hini : Cond.initialized cls ∈ Ts) (htx : (own, is, text) ∈ xTx) (hat : ∀ w ∈ nx_atS own ic cls 13 prog_38_method_4_code names, w ∈ Ts ∨ w ∈ xNw)
    (hgood : ∀ w ∈ Cond.classLink own ik cls :: Cond.initialized cls :: nx_atS own ic cls 13 prog_38_method_4_code names, vx_ot w = true)
    (d0 : decode cc pc = .ok (.new ik, 3)) (d3 : decode cc (pc + 3) = .ok (.dup, 1)) (d4 : decode cc (pc + 4) = .ok (.ldc_w is, 3)) (d6 : decode cc (pc + 7) = .ok (.invokespecial ic, 3)) (d9 : decode cc (pc + 10) = .ok (.athrow, 1))
    (hRframes : names.length + 3 < R.frames) (hRlocals : (rest.map fun v => v.category).sum + (13 * (names.length + 1) + 43) ≤ R.locals) (hRcells : k + 1 ≤ R.cells) (hRslots : n + 6 ≤ R.slots) (hc : k + 1 ≤ mc) (hs : n + 6 ≤ ms) :
    xW G p l e R s m args below meth c nL (vx_MQ below (xQx G (.inr cls) M) (xXc G (.inr cls) M) args s mc ms (xAs G)) k n ta M pc lv rest := fun H locs ls h1 h2 h3 => by
  obtain ⟨sa, hsa⟩ := C.2.2.2.2.2.2.1 _ htx
  refine nx_throwSW C.1.1 C.1.2.1 hfl (A := xAs G) nx_d0 nx_d1 nx_d2 nx_d5 C.1.2.2.2.1 hcls hnames (C.1.2.2.2.2 _ hk) (C.1.2.2.2.2 _ hini) hsa (fun w hw => ?_) hgood C.2.2.2.1 C.2.2.2.2.1 h2 (h3.1.trans C.1.2.2.1.symm) d0 d3 d4 d6 d9 (fun x hx => (htb x hx).elim) hRframes hRlocals hRcells hRslots hlocks (fun t hvm hz hk => ?_) h2.2.2 hc hs
  · rcases hat w hw with h | h
    · exact C.1.2.2.2.2 w h
    · have h9 := C.2.2.2.2.2.1 w h
      unfold xNw at h
      simp only [List.mem_cons, List.not_mem_nil, or_false] at h
      rcases h with rfl | rfl | rfl | rfl | rfl | rfl | rfl | rfl | rfl | rfl | rfl | rfl | rfl | rfl | rfl | rfl <;> exact va_Nw.use rfl h9
  · refine ⟨rfl, ⟨ta, ?_⟩, ?_⟩
    · obtain ⟨g1, g2, g3⟩ := h1
      exact ⟨g1.kept (fun j q hq => hk q.1 (g1 j q hq).lt), g2, Nat.le_trans g3 hz⟩
    · exact ⟨Nat.le_trans h2.1 hz, fun q q1 q2 => (hk q (Nat.lt_of_lt_of_le q1 h2.1)).trans (h2.2.1 q q1 q2)⟩
end XNTHROW
