/-! jdk/internal/util/ArraysSupport.newLength(III)I -/
abbrev rm_J8_newLength_cabcc (c s : Nat) : Room := { frames := 1, cells := c, slots := s, locals := 15 }
def f_J8_newLength_cabcc (a1 : Int32) (a2 : Int32) (a3 : Int32) (M : xM) : Option (Int32) := (if (a1 + (if a2 < a3 then a3 else a2)) ≤ (0 : Int32) then none else (if (2147483639 : Int32) < (a1 + (if a2 < a3 then a3 else a2)) then none else some (a1 + (if a2 < a3 then a3 else a2))))
set_option maxHeartbeats 4000000 in
set_option maxRecDepth 100000 in
theorem t_J8_newLength_cabcc {l : Launch} {G : xG} {ta : Nat × Nat} {M : xM} {a1 : Int32} {a2 : Int32} {a3 : Int32} {out : Int32} (hf : f_J8_newLength_cabcc a1 a2 a3 M = some out) : xMetT G l yJ8_newLength_cabcc wsJ8_newLength_cabcc (rm_J8_newLength_cabcc 0 0) 0 0 ta M [.int a1, .int a2, .int a3] (some (.int out)) M := by
  refine x_metT (cc := cJ8_newLength_cabcc) (nL := 4) (ret := some .int) (by decide) rfl (Nat.le_of_ble_eq_true rfl) ?_
  intro p e s m args below meth c C hr hlk
  have C : xC G p s m args c cJ8_newLength_cabcc 4 wsJ8_newLength_cabcc RJ8 := C
  unfold f_J8_newLength_cabcc at hf
  show xW G p l e (rm_J8_newLength_cabcc 0 0) s m args below meth c 4 (MQ below (xQrT G ta (some (.int out)) M) args s 0 0 (xAs G)) 0 0 ta M 0 [(0, .int a1), (1, .int a2), (2, .int a3)] []
  refine x_iload_n C 0 dJ8_newLength_cabcc_0 rfl ?_
  refine x_iload_n C 1 dJ8_newLength_cabcc_1 rfl ?_
  refine x_iload_n C 2 dJ8_newLength_cabcc_2 rfl ?_
  refine x_mmax C (by decide +kernel) (by decide +kernel) (by decide +kernel) (by decide +kernel) ⟨Nat.le_of_ble_eq_true rfl, Nat.le_of_ble_eq_true rfl⟩ ⟨Nat.zero_le _, Nat.zero_le _⟩ dJ8_newLength_cabcc_3 ?_
  refine x_iadd C dJ8_newLength_cabcc_6 ?_
  refine x_istore_n (lv' := [(3, .int (a1 + (if a2 < a3 then a3 else a2))), (0, .int a1), (1, .int a2), (2, .int a3)]) C dJ8_newLength_cabcc_7 rfl (by decide) rfl ?_
  refine x_iconst (v := 0) C dJ8_newLength_cabcc_8 (by decide) ?_
  refine x_iload_n C 0 dJ8_newLength_cabcc_9 rfl ?_
  refine x_icmp_ge C 21 dJ8_newLength_cabcc_10 (by decide) (fun hc1 => ?_) (fun hc1 => ?_)
  · have hf := x_ip hc1 hf
    cases hf
  · have hf := x_ine hc1 hf
    refine x_iload_n C 0 dJ8_newLength_cabcc_13 rfl ?_
    refine x_ldc (v := 2147483639) C (by decide +kernel) dJ8_newLength_cabcc_14 ?_
    refine x_icmp_gt C 21 dJ8_newLength_cabcc_16 (by decide) (fun hc2 => ?_) (fun hc2 => ?_)
    · have hf := x_ip hc2 hf
      cases hf
    · have hf := x_ine hc2 hf
      refine x_iload_n C 0 dJ8_newLength_cabcc_19 rfl ?_
      obtain rfl := Option.some.inj hf
      exact x_iretT C hr hlk dJ8_newLength_cabcc_20
/-! java/lang/AbstractStringBuilder.newCapacity(I)I -/
abbrev rm_J5_newCapacity_0f7a4 (c s : Nat) : Room := { frames := 2, cells := c, slots := s, locals := 38 }
def f_J5_newCapacity_0f7a4 (h : Nat) (a1 : Int32) (M : xM) : Option (Int32) := (f_J8_newLength_cabcc (Int32.ofNat (M.2.1 (h + 1) 1)) ((a1 <<< ((M.1 h 1) &&& 31)) - (Int32.ofNat (M.2.1 (h + 1) 1))) ((Int32.ofNat (M.2.1 (h + 1) 1)) + ((2 : Int32) <<< ((M.1 h 1) &&& 31))) M).bind fun q1 => (if q1 = (2147483647 : Int32) then none else some (q1 >>> ((M.1 h 1) &&& 31)))
set_option maxHeartbeats 4000000 in
set_option maxRecDepth 100000 in
theorem t_J5_newCapacity_0f7a4 {l : Launch} {G : xG} {ta : Nat × Nat} {M : xM} {h : Nat} {a1 : Int32} {out : Int32} (kh : xkd h = 1) (hf : f_J5_newCapacity_0f7a4 h a1 M = some out) : xMetT G l yJ5_newCapacity_0f7a4 wsJ5_newCapacity_0f7a4 (rm_J5_newCapacity_0f7a4 0 0) 0 0 ta M [.ref (xad G h), .int a1] (some (.int out)) M := by
  refine x_metT (cc := cJ5_newCapacity_0f7a4) (nL := 6) (ret := some .int) (by decide) rfl (Nat.le_of_ble_eq_true rfl) ?_
  intro p e s m args below meth c C hr hlk
  have C : xC G p s m args c cJ5_newCapacity_0f7a4 6 wsJ5_newCapacity_0f7a4 RJ5 := C
  have i1 : ∀ w ∈ wsJ40, w ∈ wsJ5_newCapacity_0f7a4 := by decide +kernel
  unfold f_J5_newCapacity_0f7a4 at hf
  show xW G p l e (rm_J5_newCapacity_0f7a4 0 0) s m args below meth c 6 (MQ below (xQrT G ta (some (.int out)) M) args s 0 0 (xAs G)) 0 0 ta M 0 [(0, .ref (xad G h)), (1, .int a1)] []
  refine x_aload_n C 0 dJ5_newCapacity_0f7a4_0 rfl ?_
  refine x_get1 C kh i1 0 (by decide) (by decide +kernel) rfl rfl dJ5_newCapacity_0f7a4_1 ?_
  refine x_alen21 C (x1_k kh) dJ5_newCapacity_0f7a4_4 ?_
  refine x_istore_n (lv' := [(2, .int (Int32.ofNat (M.2.1 (h + 1) 1))), (0, .ref (xad G h)), (1, .int a1)]) C dJ5_newCapacity_0f7a4_5 rfl (by decide) rfl ?_
  refine x_iload_n C 2 dJ5_newCapacity_0f7a4_6 rfl ?_
  refine x_aload_n C 1 dJ5_newCapacity_0f7a4_7 rfl ?_
  refine x_get1 C kh i1 1 (by decide) (by decide +kernel) rfl rfl dJ5_newCapacity_0f7a4_8 ?_
  refine x_ishl C dJ5_newCapacity_0f7a4_11 ?_
  refine x_istore_n (lv' := [(3, .int (a1 <<< ((M.1 h 1) &&& 31))), (2, .int (Int32.ofNat (M.2.1 (h + 1) 1))), (0, .ref (xad G h)), (1, .int a1)]) C dJ5_newCapacity_0f7a4_12 rfl (by decide) rfl ?_
  refine x_iload_n C 0 dJ5_newCapacity_0f7a4_13 rfl ?_
  refine x_iload_n C 1 dJ5_newCapacity_0f7a4_14 rfl ?_
  refine x_isub C dJ5_newCapacity_0f7a4_15 ?_
  refine x_istore (lv' := [(4, .int ((a1 <<< ((M.1 h 1) &&& 31)) - (Int32.ofNat (M.2.1 (h + 1) 1)))), (3, .int (a1 <<< ((M.1 h 1) &&& 31))), (2, .int (Int32.ofNat (M.2.1 (h + 1) 1))), (0, .ref (xad G h)), (1, .int a1)]) C dJ5_newCapacity_0f7a4_16 (by decide) rfl ?_
  refine x_iload_n C 2 dJ5_newCapacity_0f7a4_18 rfl ?_
  refine x_iload C 0 dJ5_newCapacity_0f7a4_19 rfl ?_
  refine x_iload_n C 2 dJ5_newCapacity_0f7a4_21 rfl ?_
  refine x_iconst (v := 2) C dJ5_newCapacity_0f7a4_22 (by decide) ?_
  refine x_aload_n C 3 dJ5_newCapacity_0f7a4_23 rfl ?_
  refine x_get1 C kh i1 1 (by decide) (by decide +kernel) rfl rfl dJ5_newCapacity_0f7a4_24 ?_
  refine x_ishl C dJ5_newCapacity_0f7a4_27 ?_
  refine x_iadd C dJ5_newCapacity_0f7a4_28 ?_
  obtain ⟨q1, hg, hf⟩ := x_bd hf
  refine x_callSCTr C (t_J8_newLength_cabcc hg) (va_cwS 3 C.1.2.2.2.2 gJ5_newCapacity_0f7a4_J8_newLength_cabcc rfl rfl rfl (by decide +kernel) ⟨Nat.le_of_ble_eq_true rfl, Nat.le_of_ble_eq_true rfl⟩) rfl rfl (Nat.le_of_ble_eq_true rfl) dJ5_newCapacity_0f7a4_29 ⟨Nat.zero_le _, Nat.zero_le _⟩ ?_
  clear hg
  refine x_istore (lv' := [(5, .int q1), (4, .int ((a1 <<< ((M.1 h 1) &&& 31)) - (Int32.ofNat (M.2.1 (h + 1) 1)))), (3, .int (a1 <<< ((M.1 h 1) &&& 31))), (2, .int (Int32.ofNat (M.2.1 (h + 1) 1))), (0, .ref (xad G h)), (1, .int a1)]) C dJ5_newCapacity_0f7a4_32 (by decide) rfl ?_
  refine x_iload C 0 dJ5_newCapacity_0f7a4_34 rfl ?_
  refine x_ldc (v := 2147483647) C (by decide +kernel) dJ5_newCapacity_0f7a4_36 ?_
  refine x_icmp_ne C 51 dJ5_newCapacity_0f7a4_38 (by decide) (fun hc3 => ?_) (fun hc3 => ?_)
  · have hf := x_ine hc3 hf
    refine x_iload C 0 dJ5_newCapacity_0f7a4_51 rfl ?_
    refine x_aload_n C 4 dJ5_newCapacity_0f7a4_53 rfl ?_
    refine x_get1 C kh i1 1 (by decide) (by decide +kernel) rfl rfl dJ5_newCapacity_0f7a4_54 ?_
    refine x_ishr C dJ5_newCapacity_0f7a4_57 ?_
    obtain rfl := Option.some.inj hf
    exact x_iretT C hr hlk dJ5_newCapacity_0f7a4_58
  · have hf := x_ip hc3 hf
    cases hf
/-! java.util.Arrays.copyOf(byte[], int) of a longer length, and AbstractStringBuilder.ensureCapacityInternal: by hand, for the bytes get a new place -/
def sG (M : xM) (c n : Nat) (g : Nat → Int32) : xM := (va_up M.1 c g, va_up M.2.1 c (va_up (M.2.1 c) 1 n), M.2.2)
def x_fitB (f : Nat → Int32) (n : Nat) : Bool := (List.range n).all fun j => decide (vp_nar .byte (f j) = f j)
theorem x_fitB_of {f : Nat → Int32} {n : Nat} (h : x_fitB f n = true) : ∀ j, j < n → vp_nar .byte (f j) = f j := fun j hj => of_decide_eq_true (List.all_eq_true.mp h j (List.mem_range.mpr hj))
theorem x_fitb {v : Int32} (h : vp_nar .byte v = v) : fits .byte (.int v) = true := by
  rw [← h, vp_nar_byte]
  exact pk_fb v
def xQn (G : xG) (ta : Nat × Nat) (M : xM) (c N : Nat) : Array Value → State → Outcome → State → Prop := fun _ st oc t =>
  (∃ q, oc = .returned (some (.ref q)) ∧ va_P (xgD G) vwCl (xwl G ta M ++ [(q, .inl (xcy G 1, N, .inl (va_cpy (M.1 c) (fun _ => 0) 0 0 (M.2.1 c 1))))]) t.heap ∧ va_D (xAs G) (xwl G ta M ++ [(q, .inl (xcy G 1, N, .inl (va_cpy (M.1 c) (fun _ => 0) 0 0 (M.2.1 c 1))))]) ∧ xbs G ≤ t.heap.size) ∧ va_F (xAs G) st t
abbrev rm_J7_copyOf_9075b (c s : Nat) : Room := { frames := 2, cells := c, slots := s, locals := 60 }
theorem xwl_len {G : xG} {ta : Nat × Nat} {M : xM} : (xwl G ta M).length = 253 := by unfold xwl; rw [List.length_map, List.length_range]
theorem x_app {ws : va_W} {x : Nat × va_E} : (ws ++ [x])[ws.length]? = some x := by rw [List.getElem?_append_right (Nat.le_refl _), Nat.sub_self]; rfl
theorem x_appset {ws : va_W} {x y : Nat × va_E} : (ws ++ [x]).set ws.length y = ws ++ [y] := by rw [List.set_append_right _ _ (Nat.le_refl _), Nat.sub_self]; rfl
theorem x_ne_len {n : Int32} {k N : Nat} (hN : n.toNatClampNeg = N) (h : k < N) (hk : k < 2 ^ 31) : ¬ n = Int32.ofNat k := fun e => by
  rw [e] at hN
  have := nI_clamp (n := k) hk
  unfold nI at this
  omega
set_option maxHeartbeats 4000000 in
set_option maxRecDepth 100000 in
theorem t_J7_copyOf_9075b {l : Launch} {G : xG} {ta : Nat × Nat} {M : xM} {c N : Nat} {n : Int32} (kc : xkd c = 21) (hN : n.toNatClampNeg = N) (hn : ¬ n < 0) (hlt : M.2.1 c 1 < N) (hcap : N ≤ 142) (hfit : ∀ j, j < M.2.1 c 1 → vp_nar .byte (M.1 c j) = M.1 c j) :
    Met l yJ7_copyOf_9075b wsJ7_copyOf_9075b (rm_J7_copyOf_9075b 1 142) (xPc G ta M [.ref (xA G ta c), .int n]) (xQn G ta M c N) 1 142 (xAs G) := by
  refine Met.ofW (cc := cJ7_copyOf_9075b) (maxL := 3) (ret := some (.array .byte)) (by decide) rfl ?_
  intro p e s m args below meth c0 s₁ B hml hv
  obtain ⟨rfl, hK, hH⟩ := hv
  have hl := lv_entry [.ref (xA G ta c), .int n] (n := 3) (Nat.le_of_ble_eq_true rfl)
  rw [lg_entry_eq]
  have C : xC G p s m ([.ref (xA G ta c), .int n] : List Value).toArray c0 cJ7_copyOf_9075b 3 wsJ7_copyOf_9075b RJ7 := ⟨⟨B.exec, B.bytes, hml, findClass_of_methodNamed B.named, atoms_spec (ws := wsJ7_copyOf_9075b) B.pre⟩, hK⟩
  have hr := B.returns
  have hlk := B.notSynchronized
  suffices hW : xW G p l e (rm_J7_copyOf_9075b 1 142) s m ([.ref (xA G ta c), .int n] : List Value).toArray below meth c0 3 (MQ below (xQn G ta M c N) ([.ref (xA G ta c), .int n] : List Value).toArray s 1 142 (xAs G)) 0 0 ta M 0 [(0, .ref (xA G ta c)), (1, .int n)] [] from hW s.heap [] _ hH va_S.rf hl
  have hk31 : M.2.1 c 1 < 2 ^ 31 := by omega
  refine x_iload_n C 1 dJ7_copyOf_9075b_0 rfl ?_
  refine x_aload_n C 0 dJ7_copyOf_9075b_1 rfl ?_
  refine x_alen21 C kc dJ7_copyOf_9075b_2 ?_
  refine x_icmp_ne C 14 dJ7_copyOf_9075b_3 (by decide) (fun hc => ?_) (fun hc => absurd hc (x_ne_len hN hlt hk31))
  refine x_iload_n C 1 dJ7_copyOf_9075b_14 rfl ?_
  intro H locs ls h1 h2 h3
  refine va_newa (atype := .byte) (ty := .byte) (N' := N) (a0 := (N, .inl fun _ => 0)) C.1.1 C.1.2.1 (C.1.2.2.2.2 _ (by decide +kernel)) rfl C.2.1 h1.1 h1.2.1 h2 (fun q hq => Nat.le_trans C.2.2.1 hq) (fun cA => by rw [vp_cell_i]; rfl) hn hN (by show N * 1 ≤ _; omega) (Nat.le_of_ble_eq_true rfl) (by show 0 + N ≤ 142; omega) dJ7_copyOf_9075b_15 (fun q cA H1 hK1 hP1 hD1 hS1 => ?_)
  have hcA : cA = xcy G 1 := by
    have g1 := (hK1.2 8 (cA, .byte) rfl).2
    have g2 := (C.2.1.2 1 (xcy G 1, .byte) rfl).2
    exact Option.some.inj (g1.symm.trans g2)
  subst hcA
  have hc0 : (xwl G ta M ++ [(q, (.inl (xcy G 1, N, .inl fun _ => 0) : va_E))])[c]? = some (xA G ta c, .inl (xcy G 1, M.2.1 c 1, .inl (M.1 c))) := by
    rw [List.getElem?_append_left (by rw [xwl_len]; exact xkd_lt (by rw [kc]; decide)), xwl_at G ta M (xkd_lt (by rw [kc]; decide)), xc21 kc, x21_ln kc]
  have hc1 : (xwl G ta M ++ [(q, (.inl (xcy G 1, N, .inl fun _ => 0) : va_E))])[(xwl G ta M).length]? = some (q, .inl (xcy G 1, N, .inl fun _ => 0)) := x_app
  refine lv_astore_n C.1.1 C.1.2.1 (lv' := [(2, .ref q), (0, .ref (xA G ta c)), (1, .int n)]) dJ7_copyOf_9075b_17 rfl h3 (by decide) rfl (fun ls1 h31 => ?_)
  refine lv_aload_n C.1.1 C.1.2.1 dJ7_copyOf_9075b_18 rfl (lv_at h31 1 rfl) ?_
  refine lv_iconst (v := 0) C.1.1 C.1.2.1 dJ7_copyOf_9075b_19 (by decide) ?_
  refine lv_aload_n C.1.1 C.1.2.1 dJ7_copyOf_9075b_20 rfl (lv_at h31 0 rfl) ?_
  refine lv_iconst (v := 0) C.1.1 C.1.2.1 dJ7_copyOf_9075b_21 (by decide) ?_
  refine lv_aload_n C.1.1 C.1.2.1 dJ7_copyOf_9075b_22 rfl (lv_at h31 1 rfl) ?_
  refine va_alen C.1.1 C.1.2.1 C.2.1 hP1 c 1 hc0 rfl rfl dJ7_copyOf_9075b_23 ?_
  refine lv_iload_n C.1.1 C.1.2.1 dJ7_copyOf_9075b_24 rfl (lv_at h31 2 rfl) ?_
  refine va_mmin C.1.1 C.1.2.1 (C.1.2.2.1.trans h31.1.symm) C.1.2.2.2.1 (C.1.2.2.2.2 _ (by decide +kernel)) (C.1.2.2.2.2 _ (by decide +kernel)) (C.1.2.2.2.2 _ (by decide +kernel)) (C.1.2.2.2.2 _ (by decide +kernel)) (Nat.le_of_ble_eq_true rfl) (Nat.le_of_ble_eq_true rfl) (Nat.le_of_ble_eq_true rfl) (by show 0 + N ≤ 142; omega) dJ7_copyOf_9075b_25 ?_
  have hnN : n = nI N := by
    obtain ⟨j, hj, rfl⟩ := nI_of hn
    rw [nI_clamp hj] at hN
    rw [hN]
  have hmin : (if n < Int32.ofNat (M.2.1 c 1) then n else Int32.ofNat (M.2.1 c 1)) = nI (M.2.1 c 1) := if_neg (by rw [hnN]; exact nI_nlt (by omega) (by omega))
  rw [hmin]
  have hcl : (nI (M.2.1 c 1)).toNatClampNeg = M.2.1 c 1 := nI_clamp hk31
  refine va_copyi C.1.1 C.1.2.1 (C.1.2.2.1.trans h31.1.symm) C.1.2.2.2.1 (C.1.2.2.2.2 _ (by decide +kernel)) (C.1.2.2.2.2 _ (by decide +kernel)) (C.1.2.2.2.2 _ (by decide +kernel)) (C.1.2.2.2.2 _ (by decide +kernel)) C.2.1 hP1 hD1 hS1 c (xwl G ta M).length 1 1 hc0 hc1 rfl rfl rfl (by decide) (by decide) (nI_pos hk31) (by rw [hcl]; show 0 + M.2.1 c 1 ≤ M.2.1 c 1; omega) (by rw [hcl]; show 0 + M.2.1 c 1 ≤ N; omega) (fun i hi => by
    rw [hcl] at hi
    exact x_fitb (by rw [show (0 : Int32).toNatClampNeg + i = i from Nat.zero_add i]; exact hfit i hi)) (Nat.le_of_ble_eq_true rfl) (Nat.le_of_ble_eq_true rfl) dJ7_copyOf_9075b_28 (fun H2 locs2 hP2 hD2 hS2 => ?_)
  rw [hcl, x_appset] at hP2 hD2
  refine lv_aload_n C.1.1 C.1.2.1 dJ7_copyOf_9075b_31 rfl (lv_at h31 0 rfl) ?_
  refine W.widen (k := 1) (n := 142) (Nat.le_of_ble_eq_true rfl) (show 0 + N ≤ 142 by omega) ?_
  exact W.aret C.1.1 C.1.2.1 hr (.inr ⟨_, rfl⟩) (.inr ⟨_, rfl⟩) (fun t ht hW => ⟨⟨q, rfl, by rw [ht]; exact hP2, hD2, by rw [ht]; exact Nat.le_trans C.2.2.1 hS2.1⟩, hS2.F ht⟩) hS2.2.2 dJ7_copyOf_9075b_32 hlk
abbrev rm_J5_ensureCapacityInternal_d00df (c s : Nat) : Room := { frames := 6, cells := c, slots := s, locals := 300 }
def f_J5_ensureCapacityInternal_d00df (h : Nat) (a1 : Int32) (M : xM) : Option xM :=
  if (a1 - (Int32.ofNat (M.2.1 (h + 1) 1)) >>> ((M.1 h 1) &&& 31)) ≤ 0 then some M else
    (f_J5_newCapacity_0f7a4 h a1 M).bind fun q =>
      if ¬ (q <<< ((M.1 h 1) &&& 31)) < 0 then if M.2.1 (h + 1) 1 < (q <<< ((M.1 h 1) &&& 31)).toNatClampNeg then if (q <<< ((M.1 h 1) &&& 31)).toNatClampNeg ≤ 142 then if x_fitB (M.1 (h + 1)) (M.2.1 (h + 1) 1) = true then
        some (sG M (h + 1) (q <<< ((M.1 h 1) &&& 31)).toNatClampNeg (va_cpy (M.1 (h + 1)) (fun _ => 0) 0 0 (M.2.1 (h + 1) 1)))
      else none else none else none else none
def xTa (ta : Nat × Nat) (c q : Nat) : Nat × Nat := if c = 5 then (q, ta.2) else (ta.1, q)
theorem xTa_at {G : xG} {ta : Nat × Nat} {c q : Nat} (h : c = 5 ∨ c = 7) : xA G (xTa ta c q) c = q := by
  rcases h with rfl | rfl <;> rfl
theorem xTa_ne {G : xG} {ta : Nat × Nat} {c q k : Nat} (h : c = 5 ∨ c = 7) (hk : k ≠ c) : xA G (xTa ta c q) k = xA G ta k := by
  unfold xA xTa
  rcases h with rfl | rfl
  · rw [if_pos rfl, if_neg hk, if_neg hk]
  · rw [if_neg (show ¬ (7 : Nat) = 5 by decide)]
    by_cases h5 : k = 5
    · rw [if_pos h5, if_pos h5]
    · rw [if_neg h5, if_neg h5, if_neg hk, if_neg hk]
theorem xce_ta {G : xG} {ta ta' : Nat × Nat} {f : Nat → Int32} {g : Nat → Nat} {n : Nat} {j : Int64} {d : UInt64} {c : Nat} (h : xkd c = 1 → xA G ta (c + 1) = xA G ta' (c + 1)) : xce G ta f g n j d c = xce G ta' f g n j d c := by
  by_cases h1 : xkd c = 1
  · unfold xce
    rw [h h1]
  · unfold xce
    simp only [if_neg h1]
theorem x1_is {h : Nat} (kh : xkd h = 1) : h = 4 ∨ h = 6 := by
  rcases x21_is (x1_k kh) with h5 | h7
  · left; omega
  · right; omega
theorem xce_sG {G : xG} {ta : Nat × Nat} {M : xM} {h q N k : Nat} {g : Nat → Int32} (kh : xkd h = 1) (hk : k ≠ h) (hk1 : k ≠ h + 1) : xcM G (xTa ta (h + 1) q) (sG M (h + 1) N g) k = xcM G ta M k := by
  have e1 : (sG M (h + 1) N g).1 k = M.1 k := if_neg hk1
  have e2 : (sG M (h + 1) N g).2.1 k = M.2.1 k := if_neg hk1
  have e3 : xln (sG M (h + 1) N g) k = xln M k := by unfold xln; rw [e2]
  unfold xcM
  rw [e1, e2, e3]
  exact xce_ta (fun h1 => xTa_ne (x21_is (x1_k kh)) (by
    rcases x1_is kh with rfl | rfl <;> rcases x1_is h1 with rfl | rfl <;> omega))
/-- the world behind the growth: the object with its new row -/
theorem xH_sG {G : xG} {ta : Nat × Nat} {M : xM} {h q N : Nat} {g : Nat → Int32} {H : Heap} (kh : xkd h = 1)
    (hP : va_P (xgD G) vwCl ((xwl G ta M ++ [(q, (.inl (xcy G 1, N, .inl g) : va_E))]).set h (xad G h, .inr (1, [.ref q, .int (M.1 h 1), .int (M.1 h 2), .int (M.1 h 3)]))) H)
    (hD : va_D (xAs G) ((xwl G ta M ++ [(q, (.inl (xcy G 1, N, .inl g) : va_E))]).set h (xad G h, .inr (1, [.ref q, .int (M.1 h 1), .int (M.1 h 2), .int (M.1 h 3)])))) (hz : xbs G ≤ H.size) :
    xH G (xTa ta (h + 1) q) (sG M (h + 1) N g) H := by
  have hlt : h < 253 := xkd_lt (by rw [kh]; decide)
  have k21 := x1_k kh
  have hlt1 : h + 1 < 253 := xkd_lt (by rw [k21]; decide)
  have h57 := x21_is k21
  have hlen : (xwl G ta M ++ [(q, (.inl (xcy G 1, N, .inl g) : va_E))]).length = 254 := by rw [List.length_append, xwl_len]; rfl
  have key : ∀ (k : Nat) (x : Nat × va_E), (xwl G (xTa ta (h + 1) q) (sG M (h + 1) N g))[k]? = some x → ((xwl G ta M ++ [(q, (.inl (xcy G 1, N, .inl g) : va_E))]).set h (xad G h, .inr (1, [.ref q, .int (M.1 h 1), .int (M.1 h 2), .int (M.1 h 3)])))[if k = h + 1 then 253 else k]? = some x := by
    intro k x hx
    have hk : k < 253 := by
      have := (List.getElem?_eq_some_iff.mp hx).1
      rw [xwl_len] at this
      exact this
    rw [xwl_at _ _ _ hk] at hx
    rw [← Option.some.inj hx]
    by_cases e1 : k = h + 1
    · subst e1
      rw [if_pos rfl, List.getElem?_set_ne (by omega), List.getElem?_append_right (by rw [xwl_len]; omega), xwl_len, xTa_at h57, xc21 k21, x21_ln k21]
      have e1 : (sG M (h + 1) N g).1 (h + 1) = g := if_pos rfl
      have e2 : (sG M (h + 1) N g).2.1 (h + 1) 1 = N := by
        show va_up M.2.1 (h + 1) (va_up (M.2.1 (h + 1)) 1 N) (h + 1) 1 = N
        rw [va_up_self, va_up_self]
      rw [e1, e2]
      rfl
    · rw [if_neg e1]
      by_cases e2 : k = h
      · subst e2
        rw [List.getElem?_set_self (by rw [hlen]; omega), xc1 kh, xTa_at h57, xA_of (by rw [kh]; decide)]
        have e3 : (sG M (k + 1) N g).1 k = M.1 k := if_neg (by omega)
        rw [e3]
      · rw [List.getElem?_set_ne (fun z => e2 z.symm), List.getElem?_append_left (by rw [xwl_len]; exact hk), xwl_at _ _ _ hk, xTa_ne h57 e1, xce_sG kh e2 e1]
  refine ⟨fun k x hx => hP _ x (key k x hx), ⟨fun i j x y hx hy he => ?_, fun k x hx => hD.2 _ x (key k x hx)⟩, hz⟩
  have hi : i < 253 := by
    have := (List.getElem?_eq_some_iff.mp hx).1
    rw [xwl_len] at this
    exact this
  have hj : j < 253 := by
    have := (List.getElem?_eq_some_iff.mp hy).1
    rw [xwl_len] at this
    exact this
  have := hD.1 _ _ x y (key i x hx) (key j y hy) he
  by_cases a : i = h + 1
  · by_cases b : j = h + 1
    · omega
    · rw [if_pos a, if_neg b] at this
      omega
  · by_cases b : j = h + 1
    · rw [if_neg a, if_pos b] at this
      omega
    · rw [if_neg a, if_neg b] at this
      exact this
set_option maxHeartbeats 4000000 in
set_option maxRecDepth 100000 in
theorem t_J5_ensureCapacityInternal_d00df {l : Launch} {G : xG} {ta : Nat × Nat} {M : xM} {h : Nat} {a1 : Int32} {out : xM} (kh : xkd h = 1) (hf : f_J5_ensureCapacityInternal_d00df h a1 M = some out) : xMet G l yJ5_ensureCapacityInternal_d00df wsJ5_ensureCapacityInternal_d00df (rm_J5_ensureCapacityInternal_d00df 1 142) 1 142 ta M [.ref (xad G h), .int a1] none out := by
  refine x_met (cc := cJ5_ensureCapacityInternal_d00df) (nL := 3) (ret := none) (by decide) rfl (Nat.le_of_ble_eq_true rfl) ?_
  intro p e s m args below meth c C hr hlk
  have C : xC G p s m args c cJ5_ensureCapacityInternal_d00df 3 wsJ5_ensureCapacityInternal_d00df RJ5 := C
  have i1 : ∀ w ∈ wsJ40, w ∈ wsJ5_ensureCapacityInternal_d00df := by decide +kernel
  unfold f_J5_ensureCapacityInternal_d00df at hf
  show xW G p l e (rm_J5_ensureCapacityInternal_d00df 1 142) s m args below meth c 3 (MQ below (xQr G none out) args s 1 142 (xAs G)) 0 0 ta M 0 [(0, .ref (xad G h)), (1, .int a1)] []
  refine x_aload_n C 0 dJ5_ensureCapacityInternal_d00df_0 rfl ?_
  refine x_get1 C kh i1 0 (by decide) (by decide +kernel) rfl rfl dJ5_ensureCapacityInternal_d00df_1 ?_
  refine x_alen21 C (x1_k kh) dJ5_ensureCapacityInternal_d00df_4 ?_
  refine x_aload_n C 0 dJ5_ensureCapacityInternal_d00df_5 rfl ?_
  refine x_get1 C kh i1 1 (by decide) (by decide +kernel) rfl rfl dJ5_ensureCapacityInternal_d00df_6 ?_
  refine x_ishr C dJ5_ensureCapacityInternal_d00df_9 ?_
  refine x_istore_n (lv' := [(2, .int ((Int32.ofNat (M.2.1 (h + 1) 1)) >>> ((M.1 h 1) &&& 31))), (0, .ref (xad G h)), (1, .int a1)]) C dJ5_ensureCapacityInternal_d00df_10 rfl (by decide) rfl ?_
  refine x_iload_n C 2 dJ5_ensureCapacityInternal_d00df_11 rfl ?_
  refine x_iload_n C 0 dJ5_ensureCapacityInternal_d00df_12 rfl ?_
  refine x_isub C dJ5_ensureCapacityInternal_d00df_13 ?_
  refine x_if_le C 38 dJ5_ensureCapacityInternal_d00df_14 (by decide) (fun hc1 => ?_) (fun hc1 => ?_)
  · have hf := x_ip hc1 hf
    obtain rfl := Option.some.inj hf
    refine x_widen (k' := 1) (n' := 142) (Nat.le_of_ble_eq_true rfl) (Nat.le_of_ble_eq_true rfl) ?_
    exact x_vret C hr hlk dJ5_ensureCapacityInternal_d00df_38
  · have hf := x_ine hc1 hf
    obtain ⟨q1, hg, hf⟩ := x_bd hf
    obtain ⟨g1, hf⟩ := x_gd hf
    obtain ⟨g2, hf⟩ := x_gd hf
    obtain ⟨g3, hf⟩ := x_gd hf
    obtain ⟨g4, hf⟩ := x_gd hf
    refine x_aload_n C 1 dJ5_ensureCapacityInternal_d00df_17 rfl ?_
    refine x_aload_n C 1 dJ5_ensureCapacityInternal_d00df_18 rfl ?_
    refine x_get1 C kh i1 0 (by decide) (by decide +kernel) rfl rfl dJ5_ensureCapacityInternal_d00df_19 ?_
    refine x_aload_n C 1 dJ5_ensureCapacityInternal_d00df_22 rfl ?_
    refine x_iload_n C 2 dJ5_ensureCapacityInternal_d00df_23 rfl ?_
    refine x_callUTr C (xRv_1 C kh) (t_J5_newCapacity_0f7a4 kh hg) (va_cwU 1 C.1.2.2.2.2 gJ5_ensureCapacityInternal_d00df_J5_newCapacity_0f7a4_u104J4 rfl rfl rfl rfl (by decide +kernel) ⟨Nat.le_of_ble_eq_true rfl, Nat.le_of_ble_eq_true rfl⟩) rfl rfl (Nat.le_of_ble_eq_true rfl) dJ5_ensureCapacityInternal_d00df_24 ⟨Nat.zero_le _, Nat.zero_le _⟩ ?_
    clear hg
    refine x_aload_n C 1 dJ5_ensureCapacityInternal_d00df_27 rfl ?_
    refine x_get1 C kh i1 1 (by decide) (by decide +kernel) rfl rfl dJ5_ensureCapacityInternal_d00df_28 ?_
    refine x_ishl C dJ5_ensureCapacityInternal_d00df_31 ?_
    intro H locs ls h1 h2 h3 T hT X
    have k21 := x1_k kh
    have hM := t_J7_copyOf_9075b (l := l) (G := G) (ta := ta) (M := M) (c := h + 1) (n := q1 <<< ((M.1 h 1) &&& 31)) k21 rfl g1 g2 g3 (x_fitB_of g4)
    have hrun := va_runS (rest := [.ref (xad G h)]) (H := H) (locs := locs) (cells := 0) (slots := 0) (below := below) (e := e) (p := p) (meth := meth) (c := c) (g := F0 m 32 ls [.int (q1 <<< ((M.1 h 1) &&& 31)), .ref (xA G ta (h + 1)), .ref (xad G h)]) (R := rm_J5_ensureCapacityInternal_d00df 1 142) (As := [.ref (xA G ta (h + 1)), .int (q1 <<< ((M.1 h 1) &&& 31))]) C.1 hM (va_cwS 2 C.1.2.2.2.2 gJ5_ensureCapacityInternal_d00df_J7_copyOf_9075b rfl rfl rfl (by decide +kernel) ⟨Nat.le_of_ble_eq_true rfl, Nat.le_of_ble_eq_true rfl⟩) ⟨xPc_blind, xPre C h1 h2 _⟩ rfl rfl h3.1 rfl (lv_room (Nat.le_of_ble_eq_true rfl)) dJ5_ensureCapacityInternal_d00df_32 ⟨Nat.le_of_ble_eq_true rfl, Nat.le_of_ble_eq_true rfl⟩
    obtain ⟨v9, st₀, t, T', L, g0, X', hL, e1, e2, ⟨⟨q, hv, hP, hD, hz0⟩, hz, hk⟩, hst⟩ := hrun T hT X
    cases hv
    rw [g0] at hz hk
    have hS' : va_S (xAs G) s.heap T'.heap (locs ++ L) := ⟨Nat.le_trans h2.1 (by rw [e1]; exact hz), fun q z1 z2 => by rw [e1, hk q (Nat.lt_of_lt_of_le z1 h2.1) z2]; exact h2.2.1 q z1 z2, fun q hq => by
      rcases List.mem_append.mp hq with h | h
      · exact h2.2.2 q h
      · exact hL q h⟩
    rw [← e1] at hP hz0
    have hlt : h < 253 := xkd_lt (by rw [kh]; decide)
    have he : (xwl G ta M ++ [(q, (.inl (xcy G 1, (q1 <<< ((M.1 h 1) &&& 31)).toNatClampNeg, .inl (va_cpy (M.1 (h + 1)) (fun _ => 0) 0 0 (M.2.1 (h + 1) 1))) : va_E))])[h]? = some (xad G h, .inr (1, [.ref (xA G ta (h + 1)), .int (M.1 h 1), .int (M.1 h 2), .int (M.1 h 3)])) := by
      rw [List.getElem?_append_left (by rw [xwl_len]; exact hlt), xwl_at _ _ _ hlt, xc1 kh, xA_of (by rw [kh]; decide)]
    have hend : W p l e (rm_J5_ensureCapacityInternal_d00df 1 142) s m args below meth c T'.heap (locs ++ L) (0 + 1) (0 + 142) (MQ below (xQr G none out) args s 1 142 (xAs G)) (F0 m 35 ls [.ref q, .ref (xad G h)]) := by
      refine va_put (v := .ref q) (ty := .array .byte) C.1.1 C.1.2.1 C.1.2.2.2.2 i1 tyJ4 tyJ4_ok nmJ4 C.1.2.2.2.1 C.2.1 hP hD hS' h he (show vwCl[1]? = some (RJ4, TJ4, 4) from rfl) 0 (by decide) (C.1.2.2.2.2 _ (by decide +kernel)) (fun x h => h) rfl rfl rfl rfl (Nat.le_of_ble_eq_true rfl) dJ5_ensureCapacityInternal_d00df_35 (fun H3 locs3 hP3 hD3 hS3 => ?_)
      obtain rfl := Option.some.inj hf
      exact W.vret C.1.1 C.1.2.1 hr (fun t ht hW => ⟨⟨xTa ta (h + 1) q, rfl, by rw [ht]; exact xH_sG kh hP3 hD3 (Nat.le_trans C.2.2.1 hS3.1)⟩, hS3.F ht⟩) hS3.2.2 dJ5_ensureCapacityInternal_d00df_38 hlk
    obtain ⟨t2, a1, b1⟩ := hend T' rfl X'
    exact ⟨t2, hst t2 a1, b1⟩
/-! java/lang/AbstractStringBuilder.length()I -/
abbrev rm_J5_length_8abf5 (c s : Nat) : Room := { frames := 0, cells := c, slots := s, locals := 0 }
def f_J5_length_8abf5 (h : Nat) (M : xM) : Option (Int32) := some (M.1 h 3)
set_option maxHeartbeats 4000000 in
set_option maxRecDepth 100000 in
theorem t_J5_length_8abf5 {l : Launch} {G : xG} {ta : Nat × Nat} {M : xM} {h : Nat} {out : Int32} (kh : xkd h = 1) (hf : f_J5_length_8abf5 h M = some out) : xMetT G l yJ5_length_8abf5 wsJ5_length_8abf5 (rm_J5_length_8abf5 0 0) 0 0 ta M [.ref (xad G h)] (some (.int out)) M := by
  refine x_metT (cc := cJ5_length_8abf5) (nL := 1) (ret := some .int) (by decide) rfl (Nat.le_of_ble_eq_true rfl) ?_
  intro p e s m args below meth c C hr hlk
  have C : xC G p s m args c cJ5_length_8abf5 1 wsJ5_length_8abf5 RJ5 := C
  have i1 : ∀ w ∈ wsJ40, w ∈ wsJ5_length_8abf5 := by decide +kernel
  unfold f_J5_length_8abf5 at hf
  show xW G p l e (rm_J5_length_8abf5 0 0) s m args below meth c 1 (MQ below (xQrT G ta (some (.int out)) M) args s 0 0 (xAs G)) 0 0 ta M 0 [(0, .ref (xad G h))] []
  refine x_aload_n C 0 dJ5_length_8abf5_0 rfl ?_
  refine x_get1 C kh i1 3 (by decide) (by decide +kernel) rfl rfl dJ5_length_8abf5_1 ?_
  obtain rfl := Option.some.inj hf
  exact x_iretT C hr hlk dJ5_length_8abf5_4
/-! java/lang/StringBuilder.length()I -/
abbrev rm_J4_length_8abf5 (c s : Nat) : Room := { frames := 1, cells := c, slots := s, locals := 20 }
def f_J4_length_8abf5 (h : Nat) (M : xM) : Option (Int32) := (f_J5_length_8abf5 h M).bind fun q1 => some q1
set_option maxHeartbeats 4000000 in
set_option maxRecDepth 100000 in
theorem t_J4_length_8abf5 {l : Launch} {G : xG} {ta : Nat × Nat} {M : xM} {h : Nat} {out : Int32} (kh : xkd h = 1) (hf : f_J4_length_8abf5 h M = some out) : xMetT G l yJ4_length_8abf5 wsJ4_length_8abf5 (rm_J4_length_8abf5 0 0) 0 0 ta M [.ref (xad G h)] (some (.int out)) M := by
  refine x_metT (cc := cJ4_length_8abf5) (nL := 1) (ret := some .int) (by decide) rfl (Nat.le_of_ble_eq_true rfl) ?_
  intro p e s m args below meth c C hr hlk
  have C : xC G p s m args c cJ4_length_8abf5 1 wsJ4_length_8abf5 RJ4 := C
  unfold f_J4_length_8abf5 at hf
  show xW G p l e (rm_J4_length_8abf5 0 0) s m args below meth c 1 (MQ below (xQrT G ta (some (.int out)) M) args s 0 0 (xAs G)) 0 0 ta M 0 [(0, .ref (xad G h))] []
  refine x_aload_n C 0 dJ4_length_8abf5_0 rfl ?_
  obtain ⟨q1, hg, hf⟩ := x_bd hf
  refine x_callSUTr C (xRv_1 C kh) (xAt_1 C) (t_J5_length_8abf5 kh hg) (va_cwSU 0 C.1.2.2.2.2 gJ4_length_8abf5_J5_length_8abf5_s343 rfl rfl rfl (by decide +kernel) ⟨Nat.le_of_ble_eq_true rfl, Nat.le_of_ble_eq_true rfl⟩) rfl rfl (Nat.le_of_ble_eq_true rfl) dJ4_length_8abf5_1 ⟨Nat.zero_le _, Nat.zero_le _⟩ ?_
  clear hg
  obtain rfl := Option.some.inj hf
  exact x_iretT C hr hlk dJ4_length_8abf5_4
/-! jdk/internal/util/Preconditions.checkIndex(IILjava/util/function/BiFunction;)I -/
abbrev rm_J3_checkIndex_8e157 (c s : Nat) : Room := { frames := 0, cells := c, slots := s, locals := 0 }
def f_J3_checkIndex_8e157 (a1 : Int32) (a2 : Int32) (M : xM) : Option (Int32) := (if a1 < 0 then none else (if a1 < a2 then some a1 else none))
set_option maxHeartbeats 4000000 in
set_option maxRecDepth 100000 in
theorem t_J3_checkIndex_8e157 {l : Launch} {G : xG} {ta : Nat × Nat} {M : xM} {a1 : Int32} {a2 : Int32} {a3 : Value} {out : Int32} (ka3 : a3 = Value.null ∨ ∃ t, a3 = Value.ref t) (hf : f_J3_checkIndex_8e157 a1 a2 M = some out) : xMetT G l yJ3_checkIndex_8e157 wsJ3_checkIndex_8e157 (rm_J3_checkIndex_8e157 0 0) 0 0 ta M [.int a1, .int a2, a3] (some (.int out)) M := by
  rcases ka3 with rfl | ⟨t9, rfl⟩ <;>
  (unfold f_J3_checkIndex_8e157 at hf
   refine x_metT (cc := cJ3_checkIndex_8e157) (nL := 3) (ret := some .int) (by decide) rfl (Nat.le_of_ble_eq_true rfl) ?_
   intro p e s m args below meth c C hr hlk
   have C : xC G p s m args c cJ3_checkIndex_8e157 3 wsJ3_checkIndex_8e157 RJ3 := C
   show xW G p l e (rm_J3_checkIndex_8e157 0 0) s m args below meth c 3 (MQ below (xQrT G ta (some (.int out)) M) args s 0 0 (xAs G)) 0 0 ta M 0 [(0, .int a1), (1, .int a2), (2, _)] []
   refine x_iload_n C 0 dJ3_checkIndex_8e157_0 rfl ?_
   refine x_if_lt C 9 dJ3_checkIndex_8e157_1 (by decide) (fun hc1 => ?_) (fun hc1 => ?_)
   · have hf := x_ip hc1 hf
     cases hf
   · have hf := x_ine hc1 hf
     refine x_iload_n C 0 dJ3_checkIndex_8e157_4 rfl ?_
     refine x_iload_n C 1 dJ3_checkIndex_8e157_5 rfl ?_
     refine x_icmp_lt C 16 dJ3_checkIndex_8e157_6 (by decide) (fun hc2 => ?_) (fun hc2 => ?_)
     · have hf := x_ip hc2 hf
       refine x_iload_n C 0 dJ3_checkIndex_8e157_16 rfl ?_
       obtain rfl := Option.some.inj hf
       exact x_iretT C hr hlk dJ3_checkIndex_8e157_17
     · have hf := x_ine hc2 hf
       cases hf)
/-! java/lang/String.checkIndex(II)V -/
abbrev rm_J0_checkIndex_df160 (c s : Nat) : Room := { frames := 1, cells := c, slots := s, locals := 22 }
def f_J0_checkIndex_df160 (a1 : Int32) (a2 : Int32) (M : xM) : Option (Unit) := (f_J3_checkIndex_8e157 a1 a2 M).bind fun q2 => some ()
set_option maxHeartbeats 4000000 in
set_option maxRecDepth 100000 in
theorem t_J0_checkIndex_df160 {l : Launch} {G : xG} {ta : Nat × Nat} {M : xM} {a1 : Int32} {a2 : Int32} {out : Unit} (hf : f_J0_checkIndex_df160 a1 a2 M = some out) : xMetT G l yJ0_checkIndex_df160 wsJ0_checkIndex_df160 (rm_J0_checkIndex_df160 0 0) 0 0 ta M [.int a1, .int a2] none M := by
  refine x_metT (cc := cJ0_checkIndex_df160) (nL := 2) (ret := none) (by decide) rfl (Nat.le_of_ble_eq_true rfl) ?_
  intro p e s m args below meth c C hr hlk
  have C : xC G p s m args c cJ0_checkIndex_df160 2 wsJ0_checkIndex_df160 RJ0 := C
  unfold f_J0_checkIndex_df160 at hf
  show xW G p l e (rm_J0_checkIndex_df160 0 0) s m args below meth c 2 (MQ below (xQrT G ta none M) args s 0 0 (xAs G)) 0 0 ta M 0 [(0, .int a1), (1, .int a2)] []
  refine x_iload_n C 0 dJ0_checkIndex_df160_0 rfl ?_
  refine x_iload_n C 1 dJ0_checkIndex_df160_1 rfl ?_
  refine x_gSF C (by decide +kernel) dJ0_checkIndex_df160_2 (fun w1 hw1 => ?_)
  obtain ⟨q2, hg, hf⟩ := x_bd hf
  refine x_callSCTr C (t_J3_checkIndex_8e157 hw1 hg) (va_cwS 3 C.1.2.2.2.2 gJ0_checkIndex_df160_J3_checkIndex_8e157 rfl rfl rfl (by decide +kernel) ⟨Nat.le_of_ble_eq_true rfl, Nat.le_of_ble_eq_true rfl⟩) rfl rfl (Nat.le_of_ble_eq_true rfl) dJ0_checkIndex_df160_5 ⟨Nat.zero_le _, Nat.zero_le _⟩ ?_
  clear hg
  refine x_pop C dJ0_checkIndex_df160_8 rfl ?_
  obtain rfl := Option.some.inj hf
  exact x_vretT C hr hlk dJ0_checkIndex_df160_9
/-! java/lang/AbstractStringBuilder.charAt(I)C -/
abbrev rm_J5_charAt_5068e (c s : Nat) : Room := { frames := 2, cells := c, slots := s, locals := 43 }
def f_J5_charAt_5068e (h : Nat) (a1 : Int32) (M : xM) : Option (Int32) := (f_J0_checkIndex_df160 a1 (if ((Int32.ofNat (M.2.1 (h + 1) 1)) >>> ((M.1 h 1) &&& 31)) < (M.1 h 3) then ((Int32.ofNat (M.2.1 (h + 1) 1)) >>> ((M.1 h 1) &&& 31)) else (M.1 h 3)) M).bind fun q1 => (if (M.1 h 1) = 0 then if x_in a1 (M.2.1 (h + 1) 1) = true then if vp_nar .char ((((M.1 (h + 1) a1.toNatClampNeg) &&& (255 : Int32)).toUInt32 % 65536).toInt32) = ((((M.1 (h + 1) a1.toNatClampNeg) &&& (255 : Int32)).toUInt32 % 65536).toInt32) then some ((((M.1 (h + 1) a1.toNatClampNeg) &&& (255 : Int32)).toUInt32 % 65536).toInt32) else none else none else none)
set_option maxHeartbeats 4000000 in
set_option maxRecDepth 100000 in
theorem t_J5_charAt_5068e {l : Launch} {G : xG} {ta : Nat × Nat} {M : xM} {h : Nat} {a1 : Int32} {out : Int32} (kh : xkd h = 1) (hf : f_J5_charAt_5068e h a1 M = some out) : xMetT G l yJ5_charAt_5068e wsJ5_charAt_5068e (rm_J5_charAt_5068e 0 0) 0 0 ta M [.ref (xad G h), .int a1] (some (.int out)) M := by
  refine x_metT (cc := cJ5_charAt_5068e) (nL := 5) (ret := some .char) (by decide) rfl (Nat.le_of_ble_eq_true rfl) ?_
  intro p e s m args below meth c C hr hlk
  have C : xC G p s m args c cJ5_charAt_5068e 5 wsJ5_charAt_5068e RJ5 := C
  have i1 : ∀ w ∈ wsJ40, w ∈ wsJ5_charAt_5068e := by decide +kernel
  unfold f_J5_charAt_5068e at hf
  show xW G p l e (rm_J5_charAt_5068e 0 0) s m args below meth c 5 (MQ below (xQrT G ta (some (.int out)) M) args s 0 0 (xAs G)) 0 0 ta M 0 [(0, .ref (xad G h)), (1, .int a1)] []
  refine x_aload_n C 0 dJ5_charAt_5068e_0 rfl ?_
  refine x_get1 C kh i1 1 (by decide) (by decide +kernel) rfl rfl dJ5_charAt_5068e_1 ?_
  refine x_istore_n (lv' := [(2, .int (M.1 h 1)), (0, .ref (xad G h)), (1, .int a1)]) C dJ5_charAt_5068e_4 rfl (by decide) rfl ?_
  refine x_aload_n C 1 dJ5_charAt_5068e_5 rfl ?_
  refine x_get1 C kh i1 0 (by decide) (by decide +kernel) rfl rfl dJ5_charAt_5068e_6 ?_
  refine x_astore_n (lv' := [(3, .ref (xA G ta (h + 1))), (2, .int (M.1 h 1)), (0, .ref (xad G h)), (1, .int a1)]) C dJ5_charAt_5068e_9 rfl (by decide) rfl ?_
  refine x_aload_n C 2 dJ5_charAt_5068e_10 rfl ?_
  refine x_get1 C kh i1 3 (by decide) (by decide +kernel) rfl rfl dJ5_charAt_5068e_11 ?_
  refine x_aload_n C 0 dJ5_charAt_5068e_14 rfl ?_
  refine x_alen21 C (x1_k kh) dJ5_charAt_5068e_15 ?_
  refine x_iload_n C 1 dJ5_charAt_5068e_16 rfl ?_
  refine x_ishr C dJ5_charAt_5068e_17 ?_
  refine x_mmin C (by decide +kernel) (by decide +kernel) (by decide +kernel) (by decide +kernel) ⟨Nat.le_of_ble_eq_true rfl, Nat.le_of_ble_eq_true rfl⟩ ⟨Nat.zero_le _, Nat.zero_le _⟩ dJ5_charAt_5068e_18 ?_
  refine x_istore (lv' := [(4, .int (if ((Int32.ofNat (M.2.1 (h + 1) 1)) >>> ((M.1 h 1) &&& 31)) < (M.1 h 3) then ((Int32.ofNat (M.2.1 (h + 1) 1)) >>> ((M.1 h 1) &&& 31)) else (M.1 h 3))), (3, .ref (xA G ta (h + 1))), (2, .int (M.1 h 1)), (0, .ref (xad G h)), (1, .int a1)]) C dJ5_charAt_5068e_21 (by decide) rfl ?_
  refine x_iload_n C 4 dJ5_charAt_5068e_23 rfl ?_
  refine x_iload C 0 dJ5_charAt_5068e_24 rfl ?_
  obtain ⟨q1, hg, hf⟩ := x_bd hf
  refine x_callSCTv C (t_J0_checkIndex_df160 hg) (va_cwS 2 C.1.2.2.2.2 gJ5_charAt_5068e_J0_checkIndex_df160 rfl rfl rfl (by decide +kernel) ⟨Nat.le_of_ble_eq_true rfl, Nat.le_of_ble_eq_true rfl⟩) rfl rfl (Nat.le_of_ble_eq_true rfl) dJ5_charAt_5068e_26 ⟨Nat.zero_le _, Nat.zero_le _⟩ ?_
  clear hg
  refine x_iload_n C 2 dJ5_charAt_5068e_29 rfl ?_
  refine x_if_ne C 42 dJ5_charAt_5068e_30 (by decide) (fun hc3 => ?_) (fun hc3 => ?_)
  · have hf := x_ine hc3 hf
    cases hf
  · have hf := x_ip hc3 hf
    refine x_aload_n C 1 dJ5_charAt_5068e_33 rfl ?_
    refine x_iload_n C 4 dJ5_charAt_5068e_34 rfl ?_
    obtain ⟨g4, hf⟩ := x_gd hf
    refine x_bald C (x1_k kh) g4 dJ5_charAt_5068e_35 ?_
    refine x_sipush (v := 255) C dJ5_charAt_5068e_36 (by decide) ?_
    refine x_iand C dJ5_charAt_5068e_39 ?_
    refine x_i2c (v := (((M.1 (h + 1) a1.toNatClampNeg) &&& (255 : Int32)).toUInt32 % 65536).toInt32) C dJ5_charAt_5068e_40 rfl ?_
    obtain ⟨g5, hf⟩ := x_gd hf
    obtain rfl := Option.some.inj hf
    exact x_zretT C hr hlk (x_nc g5) dJ5_charAt_5068e_41
/-! java/lang/StringBuilder.charAt(I)C -/
abbrev rm_J4_charAt_5068e (c s : Nat) : Room := { frames := 3, cells := c, slots := s, locals := 67 }
def f_J4_charAt_5068e (h : Nat) (a1 : Int32) (M : xM) : Option (Int32) := (f_J5_charAt_5068e h a1 M).bind fun q1 => if vp_nar .char q1 = q1 then some q1 else none
set_option maxHeartbeats 4000000 in
set_option maxRecDepth 100000 in
theorem t_J4_charAt_5068e {l : Launch} {G : xG} {ta : Nat × Nat} {M : xM} {h : Nat} {a1 : Int32} {out : Int32} (kh : xkd h = 1) (hf : f_J4_charAt_5068e h a1 M = some out) : xMetT G l yJ4_charAt_5068e wsJ4_charAt_5068e (rm_J4_charAt_5068e 0 0) 0 0 ta M [.ref (xad G h), .int a1] (some (.int out)) M := by
  refine x_metT (cc := cJ4_charAt_5068e) (nL := 2) (ret := some .char) (by decide) rfl (Nat.le_of_ble_eq_true rfl) ?_
  intro p e s m args below meth c C hr hlk
  have C : xC G p s m args c cJ4_charAt_5068e 2 wsJ4_charAt_5068e RJ4 := C
  unfold f_J4_charAt_5068e at hf
  show xW G p l e (rm_J4_charAt_5068e 0 0) s m args below meth c 2 (MQ below (xQrT G ta (some (.int out)) M) args s 0 0 (xAs G)) 0 0 ta M 0 [(0, .ref (xad G h)), (1, .int a1)] []
  refine x_aload_n C 0 dJ4_charAt_5068e_0 rfl ?_
  refine x_iload_n C 1 dJ4_charAt_5068e_1 rfl ?_
  obtain ⟨q1, hg, hf⟩ := x_bd hf
  refine x_callSUTr C (xRv_1 C kh) (xAt_1 C) (t_J5_charAt_5068e kh hg) (va_cwSU 1 C.1.2.2.2.2 gJ4_charAt_5068e_J5_charAt_5068e_s329 rfl rfl rfl (by decide +kernel) ⟨Nat.le_of_ble_eq_true rfl, Nat.le_of_ble_eq_true rfl⟩) rfl rfl (Nat.le_of_ble_eq_true rfl) dJ4_charAt_5068e_2 ⟨Nat.zero_le _, Nat.zero_le _⟩ ?_
  clear hg
  obtain ⟨g3, hf⟩ := x_gd hf
  obtain rfl := Option.some.inj hf
  exact x_zretT C hr hlk (x_nc g3) dJ4_charAt_5068e_5
/-! java/lang/AbstractStringBuilder.setLength(I)V -/
abbrev rm_J5_setLength_d00df (c s : Nat) : Room := { frames := 7, cells := c, slots := s, locals := 322 }
def f_J5_setLength_d00df (h : Nat) (a1 : Int32) (M : xM) : Option (xM) := (if 0 ≤ a1 then (f_J5_ensureCapacityInternal_d00df h a1 M).bind fun q2 => (if a1 ≤ (q2.1 h 3) then (if (q2.1 h 3) ≤ a1 then x_let (sI q2 h 3 a1) fun M6 => some M6 else x_let (sI q2 h 2 (1 : Int32)) fun M8 => x_let (sI M8 h 3 a1) fun M10 => some M10) else none) else none)
set_option maxHeartbeats 4000000 in
set_option maxRecDepth 100000 in
theorem t_J5_setLength_d00df {l : Launch} {G : xG} {ta : Nat × Nat} {M : xM} {h : Nat} {a1 : Int32} {out : xM} (kh : xkd h = 1) (hf : f_J5_setLength_d00df h a1 M = some out) : xMet G l yJ5_setLength_d00df wsJ5_setLength_d00df (rm_J5_setLength_d00df 1 142) 1 142 ta M [.ref (xad G h), .int a1] none out := by
  refine x_met (cc := cJ5_setLength_d00df) (nL := 2) (ret := none) (by decide) rfl (Nat.le_of_ble_eq_true rfl) ?_
  intro p e s m args below meth c C hr hlk
  have C : xC G p s m args c cJ5_setLength_d00df 2 wsJ5_setLength_d00df RJ5 := C
  have i1 : ∀ w ∈ wsJ40, w ∈ wsJ5_setLength_d00df := by decide +kernel
  unfold f_J5_setLength_d00df at hf
  show xW G p l e (rm_J5_setLength_d00df 1 142) s m args below meth c 2 (MQ below (xQr G none out) args s 1 142 (xAs G)) 0 0 ta M 0 [(0, .ref (xad G h)), (1, .int a1)] []
  refine x_iload_n C 1 dJ5_setLength_d00df_0 rfl ?_
  refine x_if_ge C 13 dJ5_setLength_d00df_1 (by decide) (fun hc1 => ?_) (fun hc1 => ?_)
  · have hf := x_ip hc1 hf
    refine x_aload_n C 0 dJ5_setLength_d00df_13 rfl ?_
    refine x_iload_n C 1 dJ5_setLength_d00df_14 rfl ?_
    obtain ⟨q2, hg, hf⟩ := x_bd hf
    refine x_callUv C (xRv_1 C kh) (t_J5_ensureCapacityInternal_d00df kh hg) (va_cwU 1 C.1.2.2.2.2 gJ5_setLength_d00df_J5_ensureCapacityInternal_d00df_u100J4 rfl rfl rfl rfl (by decide +kernel) ⟨Nat.le_of_ble_eq_true rfl, Nat.le_of_ble_eq_true rfl⟩) rfl rfl (Nat.le_of_ble_eq_true rfl) dJ5_setLength_d00df_15 ⟨Nat.le_of_ble_eq_true rfl, Nat.le_of_ble_eq_true rfl⟩ (fun ta3 => ?_)
    clear hg
    refine x_aload_n C 0 dJ5_setLength_d00df_18 rfl ?_
    refine x_get1 C kh i1 3 (by decide) (by decide +kernel) rfl rfl dJ5_setLength_d00df_19 ?_
    refine x_iload_n C 1 dJ5_setLength_d00df_22 rfl ?_
    refine x_icmp_ge C 63 dJ5_setLength_d00df_23 (by decide) (fun hc4 => ?_) (fun hc4 => ?_)
    · have hf := x_ip hc4 hf
      refine x_aload_n C 0 dJ5_setLength_d00df_63 rfl ?_
      refine x_get1 C kh i1 3 (by decide) (by decide +kernel) rfl rfl dJ5_setLength_d00df_64 ?_
      refine x_iload_n C 1 dJ5_setLength_d00df_67 rfl ?_
      refine x_icmp_le C 76 dJ5_setLength_d00df_68 (by decide) (fun hc5 => ?_) (fun hc5 => ?_)
      · have hf := x_ip hc5 hf
        refine x_aload_n C 0 dJ5_setLength_d00df_76 rfl ?_
        refine x_iload_n C 1 dJ5_setLength_d00df_77 rfl ?_
        refine x_put1 C kh i1 3 (by decide) (by decide +kernel) dJ5_setLength_d00df_78 ?_
        obtain ⟨M6, e7, hf⟩ := x_lt hf
        rw [← e7]
        clear e7
        obtain rfl := Option.some.inj hf
        refine x_widen (k' := 1) (n' := 142) (Nat.le_of_ble_eq_true rfl) (Nat.le_of_ble_eq_true rfl) ?_
        exact x_vret C hr hlk dJ5_setLength_d00df_81
      · have hf := x_ine hc5 hf
        refine x_aload_n C 0 dJ5_setLength_d00df_71 rfl ?_
        refine x_iconst (v := 1) C dJ5_setLength_d00df_72 (by decide) ?_
        refine x_putz1 C kh i1 2 (by decide) (by decide) (by decide +kernel) dJ5_setLength_d00df_73 ?_
        obtain ⟨M8, e9, hf⟩ := x_lt hf
        rw [← e9]
        clear e9
        refine x_aload_n C 0 dJ5_setLength_d00df_76 rfl ?_
        refine x_iload_n C 1 dJ5_setLength_d00df_77 rfl ?_
        refine x_put1 C kh i1 3 (by decide) (by decide +kernel) dJ5_setLength_d00df_78 ?_
        obtain ⟨M10, e11, hf⟩ := x_lt hf
        rw [← e11]
        clear e11
        obtain rfl := Option.some.inj hf
        refine x_widen (k' := 1) (n' := 142) (Nat.le_of_ble_eq_true rfl) (Nat.le_of_ble_eq_true rfl) ?_
        exact x_vret C hr hlk dJ5_setLength_d00df_81
    · have hf := x_ine hc4 hf
      cases hf
  · have hf := x_ine hc1 hf
    cases hf
/-! java/lang/StringBuilder.setLength(I)V -/
abbrev rm_J4_setLength_d00df (c s : Nat) : Room := { frames := 8, cells := c, slots := s, locals := 343 }
def f_J4_setLength_d00df (h : Nat) (a1 : Int32) (M : xM) : Option (xM) := (f_J5_setLength_d00df h a1 M).bind fun q1 => some q1
set_option maxHeartbeats 4000000 in
set_option maxRecDepth 100000 in
theorem t_J4_setLength_d00df {l : Launch} {G : xG} {ta : Nat × Nat} {M : xM} {h : Nat} {a1 : Int32} {out : xM} (kh : xkd h = 1) (hf : f_J4_setLength_d00df h a1 M = some out) : xMet G l yJ4_setLength_d00df wsJ4_setLength_d00df (rm_J4_setLength_d00df 1 142) 1 142 ta M [.ref (xad G h), .int a1] none out := by
  refine x_met (cc := cJ4_setLength_d00df) (nL := 2) (ret := none) (by decide) rfl (Nat.le_of_ble_eq_true rfl) ?_
  intro p e s m args below meth c C hr hlk
  have C : xC G p s m args c cJ4_setLength_d00df 2 wsJ4_setLength_d00df RJ4 := C
  unfold f_J4_setLength_d00df at hf
  show xW G p l e (rm_J4_setLength_d00df 1 142) s m args below meth c 2 (MQ below (xQr G none out) args s 1 142 (xAs G)) 0 0 ta M 0 [(0, .ref (xad G h)), (1, .int a1)] []
  refine x_aload_n C 0 dJ4_setLength_d00df_0 rfl ?_
  refine x_iload_n C 1 dJ4_setLength_d00df_1 rfl ?_
  obtain ⟨q1, hg, hf⟩ := x_bd hf
  refine x_callSUv C (xRv_1 C kh) (xAt_1 C) (t_J5_setLength_d00df kh hg) (va_cwSU 1 C.1.2.2.2.2 gJ4_setLength_d00df_J5_setLength_d00df_s333 rfl rfl rfl (by decide +kernel) ⟨Nat.le_of_ble_eq_true rfl, Nat.le_of_ble_eq_true rfl⟩) rfl rfl (Nat.le_of_ble_eq_true rfl) dJ4_setLength_d00df_2 ⟨Nat.le_of_ble_eq_true rfl, Nat.le_of_ble_eq_true rfl⟩ (fun ta2 => ?_)
  clear hg
  obtain rfl := Option.some.inj hf
  refine x_widen (k' := 1) (n' := 142) (Nat.le_of_ble_eq_true rfl) (Nat.le_of_ble_eq_true rfl) ?_
  exact x_vret C hr hlk dJ4_setLength_d00df_5
/-! java/lang/AbstractStringBuilder.isLatin1()Z -/
abbrev rm_J5_isLatin1_aae02 (c s : Nat) : Room := { frames := 0, cells := c, slots := s, locals := 0 }
def f_J5_isLatin1_aae02 (h : Nat) (M : xM) : Option (Int32) := (if (1 : Int32) = 0 then some (0 : Int32) else (if (M.1 h 1) = 0 then some (1 : Int32) else some (0 : Int32)))
set_option maxHeartbeats 4000000 in
set_option maxRecDepth 100000 in
theorem t_J5_isLatin1_aae02 {l : Launch} {G : xG} {ta : Nat × Nat} {M : xM} {h : Nat} {out : Int32} (kh : xkd h = 1) (hf : f_J5_isLatin1_aae02 h M = some out) : xMetT G l yJ5_isLatin1_aae02 wsJ5_isLatin1_aae02 (rm_J5_isLatin1_aae02 0 0) 0 0 ta M [.ref (xad G h)] (some (.int out)) M := by
  refine x_metT (cc := cJ5_isLatin1_aae02) (nL := 1) (ret := some .boolean) (by decide) rfl (Nat.le_of_ble_eq_true rfl) ?_
  intro p e s m args below meth c C hr hlk
  have C : xC G p s m args c cJ5_isLatin1_aae02 1 wsJ5_isLatin1_aae02 RJ5 := C
  have i1 : ∀ w ∈ wsJ40, w ∈ wsJ5_isLatin1_aae02 := by decide +kernel
  unfold f_J5_isLatin1_aae02 at hf
  show xW G p l e (rm_J5_isLatin1_aae02 0 0) s m args below meth c 1 (MQ below (xQrT G ta (some (.int out)) M) args s 0 0 (xAs G)) 0 0 ta M 0 [(0, .ref (xad G h))] []
  refine x_gCS C (by decide +kernel) dJ5_isLatin1_aae02_0 ?_
  refine x_if_eq C 17 dJ5_isLatin1_aae02_3 (by decide) (fun hc1 => ?_) (fun hc1 => ?_)
  · have hf := x_ip hc1 hf
    refine x_iconst (v := 0) C dJ5_isLatin1_aae02_17 (by decide) ?_
    obtain rfl := Option.some.inj hf
    exact x_zretT C hr hlk (x_nb (Or.inl rfl)) dJ5_isLatin1_aae02_18
  · have hf := x_ine hc1 hf
    refine x_aload_n C 0 dJ5_isLatin1_aae02_6 rfl ?_
    refine x_get1 C kh i1 1 (by decide) (by decide +kernel) rfl rfl dJ5_isLatin1_aae02_7 ?_
    refine x_if_ne C 17 dJ5_isLatin1_aae02_10 (by decide) (fun hc2 => ?_) (fun hc2 => ?_)
    · have hf := x_ine hc2 hf
      refine x_iconst (v := 0) C dJ5_isLatin1_aae02_17 (by decide) ?_
      obtain rfl := Option.some.inj hf
      exact x_zretT C hr hlk (x_nb (Or.inl rfl)) dJ5_isLatin1_aae02_18
    · have hf := x_ip hc2 hf
      refine x_iconst (v := 1) C dJ5_isLatin1_aae02_13 (by decide) ?_
      refine x_goto C 18 dJ5_isLatin1_aae02_14 (by decide) ?_
      obtain rfl := Option.some.inj hf
      exact x_zretT C hr hlk (x_nb (Or.inr rfl)) dJ5_isLatin1_aae02_18
/-! java/lang/StringLatin1.canEncode(C)Z -/
abbrev rm_J1_canEncode_fc78d (c s : Nat) : Room := { frames := 0, cells := c, slots := s, locals := 0 }
def f_J1_canEncode_fc78d (a1 : Int32) (M : xM) : Option (Int32) := (if (255 : Int32) < a1 then some (0 : Int32) else some (1 : Int32))
set_option maxHeartbeats 4000000 in
set_option maxRecDepth 100000 in
theorem t_J1_canEncode_fc78d {l : Launch} {G : xG} {ta : Nat × Nat} {M : xM} {a1 : Int32} {out : Int32} (hf : f_J1_canEncode_fc78d a1 M = some out) : xMetT G l yJ1_canEncode_fc78d wsJ1_canEncode_fc78d (rm_J1_canEncode_fc78d 0 0) 0 0 ta M [.int a1] (some (.int out)) M := by
  refine x_metT (cc := cJ1_canEncode_fc78d) (nL := 1) (ret := some .boolean) (by decide) rfl (Nat.le_of_ble_eq_true rfl) ?_
  intro p e s m args below meth c C hr hlk
  have C : xC G p s m args c cJ1_canEncode_fc78d 1 wsJ1_canEncode_fc78d RJ1 := C
  unfold f_J1_canEncode_fc78d at hf
  show xW G p l e (rm_J1_canEncode_fc78d 0 0) s m args below meth c 1 (MQ below (xQrT G ta (some (.int out)) M) args s 0 0 (xAs G)) 0 0 ta M 0 [(0, .int a1)] []
  refine x_iload_n C 0 dJ1_canEncode_fc78d_0 rfl ?_
  refine x_sipush (v := 255) C dJ1_canEncode_fc78d_1 (by decide) ?_
  refine x_icmp_gt C 11 dJ1_canEncode_fc78d_4 (by decide) (fun hc1 => ?_) (fun hc1 => ?_)
  · have hf := x_ip hc1 hf
    refine x_iconst (v := 0) C dJ1_canEncode_fc78d_11 (by decide) ?_
    obtain rfl := Option.some.inj hf
    exact x_zretT C hr hlk (x_nb (Or.inl rfl)) dJ1_canEncode_fc78d_12
  · have hf := x_ine hc1 hf
    refine x_iconst (v := 1) C dJ1_canEncode_fc78d_7 (by decide) ?_
    refine x_goto C 12 dJ1_canEncode_fc78d_8 (by decide) ?_
    obtain rfl := Option.some.inj hf
    exact x_zretT C hr hlk (x_nb (Or.inr rfl)) dJ1_canEncode_fc78d_12
/-! java/lang/AbstractStringBuilder.append(C)Ljava/lang/AbstractStringBuilder; -/
abbrev rm_J5_append_3fe6f (c s : Nat) : Room := { frames := 7, cells := c, slots := s, locals := 322 }
def f_J5_append_3fe6f (h : Nat) (a1 : Int32) (M : xM) : Option (xM) := (f_J5_ensureCapacityInternal_d00df h ((M.1 h 3) + (1 : Int32)) M).bind fun q1 => (f_J5_isLatin1_aae02 h q1).bind fun q3 => (if q3 = 0 then none else (f_J1_canEncode_fc78d a1 q1).bind fun q6 => (if q6 = 0 then none else x_let (sI q1 h 3 ((q1.1 h 3) + (1 : Int32))) fun M9 => if x_in (q1.1 h 3) (M9.2.1 (h + 1) 1) = true then x_let (sI M9 (h + 1) (q1.1 h 3).toNatClampNeg (vp_nar .byte a1.toInt8.toInt32)) fun M12 => some M12 else none))
set_option maxHeartbeats 4000000 in
set_option maxRecDepth 100000 in
theorem t_J5_append_3fe6f {l : Launch} {G : xG} {ta : Nat × Nat} {M : xM} {h : Nat} {a1 : Int32} {out : xM} (kh : xkd h = 1) (hf : f_J5_append_3fe6f h a1 M = some out) : xMet G l yJ5_append_3fe6f wsJ5_append_3fe6f (rm_J5_append_3fe6f 1 142) 1 142 ta M [.ref (xad G h), .int a1] (some (.ref (xad G h))) out := by
  refine x_met (cc := cJ5_append_3fe6f) (nL := 2) (ret := (some (.object "java/lang/AbstractStringBuilder"))) (by decide) rfl (Nat.le_of_ble_eq_true rfl) ?_
  intro p e s m args below meth c C hr hlk
  have C : xC G p s m args c cJ5_append_3fe6f 2 wsJ5_append_3fe6f RJ5 := C
  have i1 : ∀ w ∈ wsJ40, w ∈ wsJ5_append_3fe6f := by decide +kernel
  unfold f_J5_append_3fe6f at hf
  show xW G p l e (rm_J5_append_3fe6f 1 142) s m args below meth c 2 (MQ below (xQr G (some (.ref (xad G h))) out) args s 1 142 (xAs G)) 0 0 ta M 0 [(0, .ref (xad G h)), (1, .int a1)] []
  refine x_aload_n C 0 dJ5_append_3fe6f_0 rfl ?_
  refine x_aload_n C 0 dJ5_append_3fe6f_1 rfl ?_
  refine x_get1 C kh i1 3 (by decide) (by decide +kernel) rfl rfl dJ5_append_3fe6f_2 ?_
  refine x_iconst (v := 1) C dJ5_append_3fe6f_5 (by decide) ?_
  refine x_iadd C dJ5_append_3fe6f_6 ?_
  obtain ⟨q1, hg, hf⟩ := x_bd hf
  refine x_callUv C (xRv_1 C kh) (t_J5_ensureCapacityInternal_d00df kh hg) (va_cwU 1 C.1.2.2.2.2 gJ5_append_3fe6f_J5_ensureCapacityInternal_d00df_u100J4 rfl rfl rfl rfl (by decide +kernel) ⟨Nat.le_of_ble_eq_true rfl, Nat.le_of_ble_eq_true rfl⟩) rfl rfl (Nat.le_of_ble_eq_true rfl) dJ5_append_3fe6f_7 ⟨Nat.le_of_ble_eq_true rfl, Nat.le_of_ble_eq_true rfl⟩ (fun ta2 => ?_)
  clear hg
  refine x_aload_n C 0 dJ5_append_3fe6f_10 rfl ?_
  obtain ⟨q3, hg, hf⟩ := x_bd hf
  refine x_callUTr C (xRv_1 C kh) (t_J5_isLatin1_aae02 kh hg) (va_cwU 0 C.1.2.2.2.2 gJ5_append_3fe6f_J5_isLatin1_aae02_u83J4 rfl rfl rfl rfl (by decide +kernel) ⟨Nat.le_of_ble_eq_true rfl, Nat.le_of_ble_eq_true rfl⟩) rfl rfl (Nat.le_of_ble_eq_true rfl) dJ5_append_3fe6f_11 ⟨Nat.le_of_ble_eq_true rfl, Nat.le_of_ble_eq_true rfl⟩ ?_
  clear hg
  refine x_if_eq C 45 dJ5_append_3fe6f_14 (by decide) (fun hc5 => ?_) (fun hc5 => ?_)
  · have hf := x_ip hc5 hf
    cases hf
  · have hf := x_ine hc5 hf
    refine x_iload_n C 1 dJ5_append_3fe6f_17 rfl ?_
    obtain ⟨q6, hg, hf⟩ := x_bd hf
    refine x_callSCTr C (t_J1_canEncode_fc78d hg) (va_cwS 1 C.1.2.2.2.2 gJ5_append_3fe6f_J1_canEncode_fc78d rfl rfl rfl (by decide +kernel) ⟨Nat.le_of_ble_eq_true rfl, Nat.le_of_ble_eq_true rfl⟩) rfl rfl (Nat.le_of_ble_eq_true rfl) dJ5_append_3fe6f_18 ⟨Nat.le_of_ble_eq_true rfl, Nat.le_of_ble_eq_true rfl⟩ ?_
    clear hg
    refine x_if_eq C 45 dJ5_append_3fe6f_21 (by decide) (fun hc8 => ?_) (fun hc8 => ?_)
    · have hf := x_ip hc8 hf
      cases hf
    · have hf := x_ine hc8 hf
      refine x_aload_n C 0 dJ5_append_3fe6f_24 rfl ?_
      refine x_get1 C kh i1 0 (by decide) (by decide +kernel) rfl rfl dJ5_append_3fe6f_25 ?_
      refine x_aload_n C 0 dJ5_append_3fe6f_28 rfl ?_
      refine x_dup C dJ5_append_3fe6f_29 rfl ?_
      refine x_get1 C kh i1 3 (by decide) (by decide +kernel) rfl rfl dJ5_append_3fe6f_30 ?_
      refine x_dup_x1 C dJ5_append_3fe6f_33 rfl rfl ?_
      refine x_iconst (v := 1) C dJ5_append_3fe6f_34 (by decide) ?_
      refine x_iadd C dJ5_append_3fe6f_35 ?_
      refine x_put1 C kh i1 3 (by decide) (by decide +kernel) dJ5_append_3fe6f_36 ?_
      obtain ⟨M9, e10, hf⟩ := x_lt hf
      rw [← e10]
      clear e10
      refine x_iload_n C 1 dJ5_append_3fe6f_39 rfl ?_
      refine x_i2b (v := a1.toInt8.toInt32) C dJ5_append_3fe6f_40 rfl ?_
      obtain ⟨g11, hf⟩ := x_gd hf
      refine x_bast C (x1_k kh) g11 dJ5_append_3fe6f_41 ?_
      obtain ⟨M12, e13, hf⟩ := x_lt hf
      rw [← e13]
      clear e13
      refine x_goto C 75 dJ5_append_3fe6f_42 (by decide) ?_
      refine x_aload_n C 0 dJ5_append_3fe6f_75 rfl ?_
      obtain rfl := Option.some.inj hf
      refine x_widen (k' := 1) (n' := 142) (Nat.le_of_ble_eq_true rfl) (Nat.le_of_ble_eq_true rfl) ?_
      exact x_aret C hr hlk (.inl ⟨_, rfl⟩) (.inr ⟨_, rfl⟩) dJ5_append_3fe6f_76
/-! java/lang/StringBuilder.append(C)Ljava/lang/StringBuilder; -/
abbrev rm_J4_append_cf468 (c s : Nat) : Room := { frames := 8, cells := c, slots := s, locals := 343 }
def f_J4_append_cf468 (h : Nat) (a1 : Int32) (M : xM) : Option (xM) := (f_J5_append_3fe6f h a1 M).bind fun q1 => some q1
set_option maxHeartbeats 4000000 in
set_option maxRecDepth 100000 in
theorem t_J4_append_cf468 {l : Launch} {G : xG} {ta : Nat × Nat} {M : xM} {h : Nat} {a1 : Int32} {out : xM} (kh : xkd h = 1) (hf : f_J4_append_cf468 h a1 M = some out) : xMet G l yJ4_append_cf468 wsJ4_append_cf468 (rm_J4_append_cf468 1 142) 1 142 ta M [.ref (xad G h), .int a1] (some (.ref (xad G h))) out := by
  refine x_met (cc := cJ4_append_cf468) (nL := 2) (ret := (some (.object "java/lang/StringBuilder"))) (by decide) rfl (Nat.le_of_ble_eq_true rfl) ?_
  intro p e s m args below meth c C hr hlk
  have C : xC G p s m args c cJ4_append_cf468 2 wsJ4_append_cf468 RJ4 := C
  unfold f_J4_append_cf468 at hf
  show xW G p l e (rm_J4_append_cf468 1 142) s m args below meth c 2 (MQ below (xQr G (some (.ref (xad G h))) out) args s 1 142 (xAs G)) 0 0 ta M 0 [(0, .ref (xad G h)), (1, .int a1)] []
  refine x_aload_n C 0 dJ4_append_cf468_0 rfl ?_
  refine x_iload_n C 1 dJ4_append_cf468_1 rfl ?_
  obtain ⟨q1, hg, hf⟩ := x_bd hf
  refine x_callSUr C (xRv_1 C kh) (xAt_1 C) (t_J5_append_3fe6f kh hg) (va_cwSU 1 C.1.2.2.2.2 gJ4_append_cf468_J5_append_3fe6f_s50 rfl rfl rfl (by decide +kernel) ⟨Nat.le_of_ble_eq_true rfl, Nat.le_of_ble_eq_true rfl⟩) rfl rfl (Nat.le_of_ble_eq_true rfl) dJ4_append_cf468_2 ⟨Nat.le_of_ble_eq_true rfl, Nat.le_of_ble_eq_true rfl⟩ (fun ta2 => ?_)
  clear hg
  refine x_pop C dJ4_append_cf468_5 rfl ?_
  refine x_aload_n C 0 dJ4_append_cf468_6 rfl ?_
  obtain rfl := Option.some.inj hf
  refine x_widen (k' := 1) (n' := 142) (Nat.le_of_ble_eq_true rfl) (Nat.le_of_ble_eq_true rfl) ?_
  exact x_aret C hr hlk (.inl ⟨_, rfl⟩) (.inr ⟨_, rfl⟩) dJ4_append_cf468_7
/-! java/lang/Integer.stringSize(I)I -/
abbrev rm_J6_stringSize_0f7a4 (c s : Nat) : Room := { frames := 0, cells := c, slots := s, locals := 0 }
def f_J6_stringSize_0f7a4_L16 (v0 : Int32) (v1 : Int32) (M : xM) : Nat → Int32 → Int32 → Option (Int32)
  | 0, _, _ => none
  | n+1, v2, v3 => (if (10 : Int32) ≤ v3 then some ((10 : Int32) + v1) else (if v0 ≤ v2 then f_J6_stringSize_0f7a4_L16 v0 v1 M n ((10 : Int32) * v2) (v3 + 1) else some (v3 + v1)))
def f_J6_stringSize_0f7a4 (a1 : Int32) (M : xM) : Option (Int32) := (if a1 < 0 then f_J6_stringSize_0f7a4_L16 a1 (1 : Int32) M xF (-10 : Int32) (1 : Int32) else f_J6_stringSize_0f7a4_L16 (-a1) (0 : Int32) M xF (-10 : Int32) (1 : Int32))
set_option maxHeartbeats 4000000 in
set_option maxRecDepth 100000 in
theorem t_J6_stringSize_0f7a4_L16 {G : xG} {p : Program} {l : Launch} {e : Env} {s : State} {m : MethodId} {args : Array Value} {below : List Frame} {meth : Method} {c : Code} (C : xC G p s m args c cJ6_stringSize_0f7a4 4 wsJ6_stringSize_0f7a4 RJ6) (hr : meth.sig.returnType = some .int) (hlk : meth.locks = false) {v0 : Int32} {v1 : Int32} {M : xM} : ∀ (n : Nat) (v2 : Int32) (v3 : Int32) (ta : Nat × Nat) (out : Int32), f_J6_stringSize_0f7a4_L16 v0 v1 M n v2 v3 = some out → xW G p l e (rm_J6_stringSize_0f7a4 0 0) s m args below meth c 4 (MQ below (xQrT G ta (some (.int out)) M) args s 0 0 (xAs G)) 0 0 ta M 16 [(0, .int v0), (1, .int v1), (2, .int v2), (3, .int v3)] [] := by
  intro n
  induction n with
  | zero =>
    intro v2 v3 ta out hf
    rw [f_J6_stringSize_0f7a4_L16] at hf
    cases hf
  | succ n ih =>
    intro v2 v3 ta out hf
    rw [f_J6_stringSize_0f7a4_L16] at hf
    refine x_iload_n C 3 dJ6_stringSize_0f7a4_16 rfl ?_
    refine x_bipush (v := 10) C dJ6_stringSize_0f7a4_17 (by decide) ?_
    refine x_icmp_ge C 42 dJ6_stringSize_0f7a4_19 (by decide) (fun hc2 => ?_) (fun hc2 => ?_)
    · have hf := x_ip hc2 hf
      refine x_bipush (v := 10) C dJ6_stringSize_0f7a4_42 (by decide) ?_
      refine x_iload_n C 1 dJ6_stringSize_0f7a4_44 rfl ?_
      refine x_iadd C dJ6_stringSize_0f7a4_45 ?_
      obtain rfl := Option.some.inj hf
      exact x_iretT C hr hlk dJ6_stringSize_0f7a4_46
    · have hf := x_ine hc2 hf
      refine x_iload_n C 0 dJ6_stringSize_0f7a4_22 rfl ?_
      refine x_iload_n C 2 dJ6_stringSize_0f7a4_23 rfl ?_
      refine x_icmp_le C 31 dJ6_stringSize_0f7a4_24 (by decide) (fun hc3 => ?_) (fun hc3 => ?_)
      · have hf := x_ip hc3 hf
        refine x_bipush (v := 10) C dJ6_stringSize_0f7a4_31 (by decide) ?_
        refine x_iload_n C 2 dJ6_stringSize_0f7a4_33 rfl ?_
        refine x_imul C dJ6_stringSize_0f7a4_34 ?_
        refine x_istore_n (lv' := [(2, .int ((10 : Int32) * v2)), (0, .int v0), (1, .int v1), (3, .int v3)]) C dJ6_stringSize_0f7a4_35 rfl (by decide) rfl ?_
        refine x_iinc (v := v3 + 1) (lv' := [(3, .int (v3 + 1)), (2, .int ((10 : Int32) * v2)), (0, .int v0), (1, .int v1)]) C 3 dJ6_stringSize_0f7a4_36 rfl rfl (by decide) rfl ?_
        refine x_goto C 16 dJ6_stringSize_0f7a4_39 (by decide) ?_
        refine x_sub [2, 3, 1, 0] rfl ?_
        exact ih ((10 : Int32) * v2) (v3 + 1) _ _ hf
      · have hf := x_ine hc3 hf
        refine x_iload_n C 3 dJ6_stringSize_0f7a4_27 rfl ?_
        refine x_iload_n C 1 dJ6_stringSize_0f7a4_28 rfl ?_
        refine x_iadd C dJ6_stringSize_0f7a4_29 ?_
        obtain rfl := Option.some.inj hf
        exact x_iretT C hr hlk dJ6_stringSize_0f7a4_30
set_option maxHeartbeats 4000000 in
set_option maxRecDepth 100000 in
theorem t_J6_stringSize_0f7a4 {l : Launch} {G : xG} {ta : Nat × Nat} {M : xM} {a1 : Int32} {out : Int32} (hf : f_J6_stringSize_0f7a4 a1 M = some out) : xMetT G l yJ6_stringSize_0f7a4 wsJ6_stringSize_0f7a4 (rm_J6_stringSize_0f7a4 0 0) 0 0 ta M [.int a1] (some (.int out)) M := by
  refine x_metT (cc := cJ6_stringSize_0f7a4) (nL := 4) (ret := some .int) (by decide) rfl (Nat.le_of_ble_eq_true rfl) ?_
  intro p e s m args below meth c C hr hlk
  have C : xC G p s m args c cJ6_stringSize_0f7a4 4 wsJ6_stringSize_0f7a4 RJ6 := C
  unfold f_J6_stringSize_0f7a4 at hf
  show xW G p l e (rm_J6_stringSize_0f7a4 0 0) s m args below meth c 4 (MQ below (xQrT G ta (some (.int out)) M) args s 0 0 (xAs G)) 0 0 ta M 0 [(0, .int a1)] []
  refine x_iconst (v := 1) C dJ6_stringSize_0f7a4_0 (by decide) ?_
  refine x_istore_n (lv' := [(1, .int (1 : Int32)), (0, .int a1)]) C dJ6_stringSize_0f7a4_1 rfl (by decide) rfl ?_
  refine x_iload_n C 1 dJ6_stringSize_0f7a4_2 rfl ?_
  refine x_if_lt C 11 dJ6_stringSize_0f7a4_3 (by decide) (fun hc1 => ?_) (fun hc1 => ?_)
  · have hf := x_ip hc1 hf
    refine x_bipush (v := (-10)) C dJ6_stringSize_0f7a4_11 (by decide) ?_
    refine x_istore_n (lv' := [(2, .int (-10 : Int32)), (1, .int (1 : Int32)), (0, .int a1)]) C dJ6_stringSize_0f7a4_13 rfl (by decide) rfl ?_
    refine x_iconst (v := 1) C dJ6_stringSize_0f7a4_14 (by decide) ?_
    refine x_istore_n (lv' := [(3, .int (1 : Int32)), (2, .int (-10 : Int32)), (1, .int (1 : Int32)), (0, .int a1)]) C dJ6_stringSize_0f7a4_15 rfl (by decide) rfl ?_
    refine x_sub [3, 2, 1, 0] rfl ?_
    exact t_J6_stringSize_0f7a4_L16 C hr hlk xF (-10 : Int32) (1 : Int32) _ _ hf
  · have hf := x_ine hc1 hf
    refine x_iconst (v := 0) C dJ6_stringSize_0f7a4_6 (by decide) ?_
    refine x_istore_n (lv' := [(1, .int (0 : Int32)), (0, .int a1)]) C dJ6_stringSize_0f7a4_7 rfl (by decide) rfl ?_
    refine x_iload_n C 1 dJ6_stringSize_0f7a4_8 rfl ?_
    refine x_ineg C dJ6_stringSize_0f7a4_9 ?_
    refine x_istore_n (lv' := [(0, .int (-a1)), (1, .int (0 : Int32))]) C dJ6_stringSize_0f7a4_10 rfl (by decide) rfl ?_
    refine x_bipush (v := (-10)) C dJ6_stringSize_0f7a4_11 (by decide) ?_
    refine x_istore_n (lv' := [(2, .int (-10 : Int32)), (0, .int (-a1)), (1, .int (0 : Int32))]) C dJ6_stringSize_0f7a4_13 rfl (by decide) rfl ?_
    refine x_iconst (v := 1) C dJ6_stringSize_0f7a4_14 (by decide) ?_
    refine x_istore_n (lv' := [(3, .int (1 : Int32)), (2, .int (-10 : Int32)), (0, .int (-a1)), (1, .int (0 : Int32))]) C dJ6_stringSize_0f7a4_15 rfl (by decide) rfl ?_
    refine x_sub [2, 3, 1, 0] rfl ?_
    exact t_J6_stringSize_0f7a4_L16 C hr hlk xF (-10 : Int32) (1 : Int32) _ _ hf
/-! java/lang/Integer.getChars(II[B)I -/
abbrev rm_J6_getChars_ba4f3 (c s : Nat) : Room := { frames := 0, cells := c, slots := s, locals := 0 }
def f_J6_getChars_ba4f3_L22 (a3 : Nat) (v6 : Int32) : Nat → Int32 → Int32 → xM → Option (Int32 × xM)
  | 0, _, _, _ => none
  | n+1, v0, v5, M => (if (-100 : Int32) < v0 then if x_in (-v0) 100 = true then if x_in (v5 + (-1)) (M.2.1 a3 1) = true then x_let (sI M a3 (v5 + (-1)).toNatClampNeg (vp_nar .byte (xDO (-v0).toNatClampNeg))) fun M6 => (if (-9 : Int32) ≤ v0 then (if v6 = 0 then some (v5 + (-1), M6) else if x_in ((v5 + (-1)) + (-1)) (M6.2.1 a3 1) = true then x_let (sI M6 a3 ((v5 + (-1)) + (-1)).toNatClampNeg (vp_nar .byte (45 : Int32))) fun M11 => some ((v5 + (-1)) + (-1), M11) else none) else if x_in (-v0) 100 = true then if x_in ((v5 + (-1)) + (-1)) (M6.2.1 a3 1) = true then x_let (sI M6 a3 ((v5 + (-1)) + (-1)).toNatClampNeg (vp_nar .byte (xDT (-v0).toNatClampNeg))) fun M15 => (if v6 = 0 then some ((v5 + (-1)) + (-1), M15) else if x_in (((v5 + (-1)) + (-1)) + (-1)) (M15.2.1 a3 1) = true then x_let (sI M15 a3 (((v5 + (-1)) + (-1)) + (-1)).toNatClampNeg (vp_nar .byte (45 : Int32))) fun M19 => some (((v5 + (-1)) + (-1)) + (-1), M19) else none) else none else none) else none else none else if x_in (((v0 / (100 : Int32)) * (100 : Int32)) - v0) 100 = true then if x_in (v5 + (-1)) (M.2.1 a3 1) = true then x_let (sI M a3 (v5 + (-1)).toNatClampNeg (vp_nar .byte (xDO (((v0 / (100 : Int32)) * (100 : Int32)) - v0).toNatClampNeg))) fun M24 => if x_in (((v0 / (100 : Int32)) * (100 : Int32)) - v0) 100 = true then if x_in ((v5 + (-1)) + (-1)) (M24.2.1 a3 1) = true then x_let (sI M24 a3 ((v5 + (-1)) + (-1)).toNatClampNeg (vp_nar .byte (xDT (((v0 / (100 : Int32)) * (100 : Int32)) - v0).toNatClampNeg))) fun M28 => f_J6_getChars_ba4f3_L22 a3 v6 n (v0 / (100 : Int32)) ((v5 + (-1)) + (-1)) M28 else none else none else none else none)
def f_J6_getChars_ba4f3 (a1 : Int32) (a2 : Int32) (a3 : Nat) (M : xM) : Option (Int32 × xM) := (if 0 ≤ a1 then (if (0 : Int32) = 0 then f_J6_getChars_ba4f3_L22 a3 (0 : Int32) xF (-a1) a2 M else f_J6_getChars_ba4f3_L22 a3 (0 : Int32) xF a1 a2 M) else (if (1 : Int32) = 0 then f_J6_getChars_ba4f3_L22 a3 (1 : Int32) xF (-a1) a2 M else f_J6_getChars_ba4f3_L22 a3 (1 : Int32) xF a1 a2 M))
set_option maxHeartbeats 4000000 in
set_option maxRecDepth 100000 in
theorem t_J6_getChars_ba4f3_L22 {G : xG} {p : Program} {l : Launch} {e : Env} {s : State} {m : MethodId} {args : Array Value} {below : List Frame} {meth : Method} {c : Code} (C : xC G p s m args c cJ6_getChars_ba4f3 7 wsJ6_getChars_ba4f3 RJ6) (hr : meth.sig.returnType = some .int) (hlk : meth.locks = false) {a3 : Nat} {v6 : Int32} (ka3 : xkd a3 = 21) : ∀ (n : Nat) (v0 : Int32) (v5 : Int32) (M : xM) (ta : Nat × Nat) (out : Int32 × xM), f_J6_getChars_ba4f3_L22 a3 v6 n v0 v5 M = some out → xW G p l e (rm_J6_getChars_ba4f3 0 0) s m args below meth c 7 (MQ below (xQrT G ta (some (.int out.1)) out.2) args s 0 0 (xAs G)) 0 0 ta M 22 [(0, .int v0), (2, .ref (xA G ta a3)), (5, .int v5), (6, .int v6)] [] := by
  intro n
  induction n with
  | zero =>
    intro v0 v5 M ta out hf
    rw [f_J6_getChars_ba4f3_L22] at hf
    cases hf
  | succ n ih =>
    intro v0 v5 M ta out hf
    rw [f_J6_getChars_ba4f3_L22] at hf
    refine x_iload_n C 0 dJ6_getChars_ba4f3_22 rfl ?_
    refine x_bipush (v := (-100)) C dJ6_getChars_ba4f3_23 (by decide) ?_
    refine x_icmp_gt C 72 dJ6_getChars_ba4f3_25 (by decide) (fun hc3 => ?_) (fun hc3 => ?_)
    · have hf := x_ip hc3 hf
      refine x_aload_n C 1 dJ6_getChars_ba4f3_72 rfl ?_
      refine x_iinc (v := v5 + (-1)) (lv' := [(5, .int (v5 + (-1))), (0, .int v0), (2, .ref (xA G ta a3)), (6, .int v6)]) C 2 dJ6_getChars_ba4f3_73 rfl rfl (by decide) rfl ?_
      refine x_iload C 0 dJ6_getChars_ba4f3_76 rfl ?_
      refine x_gDO C (by decide +kernel) dJ6_getChars_ba4f3_78 ?_
      refine x_iload_n C 1 dJ6_getChars_ba4f3_81 rfl ?_
      refine x_ineg C dJ6_getChars_ba4f3_82 ?_
      obtain ⟨g4, hf⟩ := x_gd hf
      refine x_tDO C g4 dJ6_getChars_ba4f3_83 ?_
      obtain ⟨g5, hf⟩ := x_gd hf
      refine x_bast C ka3 g5 dJ6_getChars_ba4f3_84 ?_
      obtain ⟨M6, e7, hf⟩ := x_lt hf
      rw [← e7]
      clear e7
      refine x_iload_n C 1 dJ6_getChars_ba4f3_85 rfl ?_
      refine x_bipush (v := (-9)) C dJ6_getChars_ba4f3_86 (by decide) ?_
      refine x_icmp_ge C 104 dJ6_getChars_ba4f3_88 (by decide) (fun hc8 => ?_) (fun hc8 => ?_)
      · have hf := x_ip hc8 hf
        refine x_iload C 3 dJ6_getChars_ba4f3_104 rfl ?_
        refine x_if_eq C 118 dJ6_getChars_ba4f3_106 (by decide) (fun hc9 => ?_) (fun hc9 => ?_)
        · have hf := x_ip hc9 hf
          refine x_iload C 0 dJ6_getChars_ba4f3_118 rfl ?_
          obtain rfl := Option.some.inj hf
          exact x_iretT C hr hlk dJ6_getChars_ba4f3_120
        · have hf := x_ine hc9 hf
          refine x_aload_n C 2 dJ6_getChars_ba4f3_109 rfl ?_
          refine x_iinc (v := (v5 + (-1)) + (-1)) (lv' := [(5, .int ((v5 + (-1)) + (-1))), (0, .int v0), (2, .ref (xA G ta a3)), (6, .int v6)]) C 0 dJ6_getChars_ba4f3_110 rfl rfl (by decide) rfl ?_
          refine x_iload C 0 dJ6_getChars_ba4f3_113 rfl ?_
          refine x_bipush (v := 45) C dJ6_getChars_ba4f3_115 (by decide) ?_
          obtain ⟨g10, hf⟩ := x_gd hf
          refine x_bast C ka3 g10 dJ6_getChars_ba4f3_117 ?_
          obtain ⟨M11, e12, hf⟩ := x_lt hf
          rw [← e12]
          clear e12
          refine x_iload C 0 dJ6_getChars_ba4f3_118 rfl ?_
          obtain rfl := Option.some.inj hf
          exact x_iretT C hr hlk dJ6_getChars_ba4f3_120
      · have hf := x_ine hc8 hf
        refine x_aload_n C 2 dJ6_getChars_ba4f3_91 rfl ?_
        refine x_iinc (v := (v5 + (-1)) + (-1)) (lv' := [(5, .int ((v5 + (-1)) + (-1))), (0, .int v0), (2, .ref (xA G ta a3)), (6, .int v6)]) C 0 dJ6_getChars_ba4f3_92 rfl rfl (by decide) rfl ?_
        refine x_iload C 0 dJ6_getChars_ba4f3_95 rfl ?_
        refine x_gDT C (by decide +kernel) dJ6_getChars_ba4f3_97 ?_
        refine x_iload_n C 1 dJ6_getChars_ba4f3_100 rfl ?_
        refine x_ineg C dJ6_getChars_ba4f3_101 ?_
        obtain ⟨g13, hf⟩ := x_gd hf
        refine x_tDT C g13 dJ6_getChars_ba4f3_102 ?_
        obtain ⟨g14, hf⟩ := x_gd hf
        refine x_bast C ka3 g14 dJ6_getChars_ba4f3_103 ?_
        obtain ⟨M15, e16, hf⟩ := x_lt hf
        rw [← e16]
        clear e16
        refine x_iload C 3 dJ6_getChars_ba4f3_104 rfl ?_
        refine x_if_eq C 118 dJ6_getChars_ba4f3_106 (by decide) (fun hc17 => ?_) (fun hc17 => ?_)
        · have hf := x_ip hc17 hf
          refine x_iload C 0 dJ6_getChars_ba4f3_118 rfl ?_
          obtain rfl := Option.some.inj hf
          exact x_iretT C hr hlk dJ6_getChars_ba4f3_120
        · have hf := x_ine hc17 hf
          refine x_aload_n C 2 dJ6_getChars_ba4f3_109 rfl ?_
          refine x_iinc (v := ((v5 + (-1)) + (-1)) + (-1)) (lv' := [(5, .int (((v5 + (-1)) + (-1)) + (-1))), (0, .int v0), (2, .ref (xA G ta a3)), (6, .int v6)]) C 0 dJ6_getChars_ba4f3_110 rfl rfl (by decide) rfl ?_
          refine x_iload C 0 dJ6_getChars_ba4f3_113 rfl ?_
          refine x_bipush (v := 45) C dJ6_getChars_ba4f3_115 (by decide) ?_
          obtain ⟨g18, hf⟩ := x_gd hf
          refine x_bast C ka3 g18 dJ6_getChars_ba4f3_117 ?_
          obtain ⟨M19, e20, hf⟩ := x_lt hf
          rw [← e20]
          clear e20
          refine x_iload C 0 dJ6_getChars_ba4f3_118 rfl ?_
          obtain rfl := Option.some.inj hf
          exact x_iretT C hr hlk dJ6_getChars_ba4f3_120
    · have hf := x_ine hc3 hf
      refine x_iload_n C 0 dJ6_getChars_ba4f3_28 rfl ?_
      refine x_bipush (v := 100) C dJ6_getChars_ba4f3_29 (by decide) ?_
      refine x_idiv C dJ6_getChars_ba4f3_31 (by decide) ?_
      refine x_istore_n (lv' := [(3, .int (v0 / (100 : Int32))), (0, .int v0), (2, .ref (xA G ta a3)), (5, .int v5), (6, .int v6)]) C dJ6_getChars_ba4f3_32 rfl (by decide) rfl ?_
      refine x_iload_n C 0 dJ6_getChars_ba4f3_33 rfl ?_
      refine x_bipush (v := 100) C dJ6_getChars_ba4f3_34 (by decide) ?_
      refine x_imul C dJ6_getChars_ba4f3_36 ?_
      refine x_iload_n C 1 dJ6_getChars_ba4f3_37 rfl ?_
      refine x_isub C dJ6_getChars_ba4f3_38 ?_
      refine x_istore (lv' := [(4, .int (((v0 / (100 : Int32)) * (100 : Int32)) - v0)), (3, .int (v0 / (100 : Int32))), (0, .int v0), (2, .ref (xA G ta a3)), (5, .int v5), (6, .int v6)]) C dJ6_getChars_ba4f3_39 (by decide) rfl ?_
      refine x_iload_n C 1 dJ6_getChars_ba4f3_41 rfl ?_
      refine x_istore_n (lv' := [(0, .int (v0 / (100 : Int32))), (4, .int (((v0 / (100 : Int32)) * (100 : Int32)) - v0)), (3, .int (v0 / (100 : Int32))), (2, .ref (xA G ta a3)), (5, .int v5), (6, .int v6)]) C dJ6_getChars_ba4f3_42 rfl (by decide) rfl ?_
      refine x_aload_n C 3 dJ6_getChars_ba4f3_43 rfl ?_
      refine x_iinc (v := v5 + (-1)) (lv' := [(5, .int (v5 + (-1))), (0, .int (v0 / (100 : Int32))), (4, .int (((v0 / (100 : Int32)) * (100 : Int32)) - v0)), (3, .int (v0 / (100 : Int32))), (2, .ref (xA G ta a3)), (6, .int v6)]) C 4 dJ6_getChars_ba4f3_44 rfl rfl (by decide) rfl ?_
      refine x_iload C 0 dJ6_getChars_ba4f3_47 rfl ?_
      refine x_gDO C (by decide +kernel) dJ6_getChars_ba4f3_49 ?_
      refine x_iload C 2 dJ6_getChars_ba4f3_52 rfl ?_
      obtain ⟨g22, hf⟩ := x_gd hf
      refine x_tDO C g22 dJ6_getChars_ba4f3_54 ?_
      obtain ⟨g23, hf⟩ := x_gd hf
      refine x_bast C ka3 g23 dJ6_getChars_ba4f3_55 ?_
      obtain ⟨M24, e25, hf⟩ := x_lt hf
      rw [← e25]
      clear e25
      refine x_aload_n C 4 dJ6_getChars_ba4f3_56 rfl ?_
      refine x_iinc (v := (v5 + (-1)) + (-1)) (lv' := [(5, .int ((v5 + (-1)) + (-1))), (0, .int (v0 / (100 : Int32))), (4, .int (((v0 / (100 : Int32)) * (100 : Int32)) - v0)), (3, .int (v0 / (100 : Int32))), (2, .ref (xA G ta a3)), (6, .int v6)]) C 0 dJ6_getChars_ba4f3_57 rfl rfl (by decide) rfl ?_
      refine x_iload C 0 dJ6_getChars_ba4f3_60 rfl ?_
      refine x_gDT C (by decide +kernel) dJ6_getChars_ba4f3_62 ?_
      refine x_iload C 2 dJ6_getChars_ba4f3_65 rfl ?_
      obtain ⟨g26, hf⟩ := x_gd hf
      refine x_tDT C g26 dJ6_getChars_ba4f3_67 ?_
      obtain ⟨g27, hf⟩ := x_gd hf
      refine x_bast C ka3 g27 dJ6_getChars_ba4f3_68 ?_
      obtain ⟨M28, e29, hf⟩ := x_lt hf
      rw [← e29]
      clear e29
      refine x_goto C 22 dJ6_getChars_ba4f3_69 (by decide) ?_
      refine x_sub [1, 4, 0, 5] rfl ?_
      exact ih (v0 / (100 : Int32)) ((v5 + (-1)) + (-1)) M28 _ _ hf
set_option maxHeartbeats 4000000 in
set_option maxRecDepth 100000 in
theorem t_J6_getChars_ba4f3 {l : Launch} {G : xG} {ta : Nat × Nat} {M : xM} {a1 : Int32} {a2 : Int32} {a3 : Nat} {out : Int32 × xM} (ka3 : xkd a3 = 21) (hf : f_J6_getChars_ba4f3 a1 a2 a3 M = some out) : xMetT G l yJ6_getChars_ba4f3 wsJ6_getChars_ba4f3 (rm_J6_getChars_ba4f3 0 0) 0 0 ta M [.int a1, .int a2, .ref (xA G ta a3)] (some (.int out.1)) out.2 := by
  refine x_metT (cc := cJ6_getChars_ba4f3) (nL := 7) (ret := some .int) (by decide) rfl (Nat.le_of_ble_eq_true rfl) ?_
  intro p e s m args below meth c C hr hlk
  have C : xC G p s m args c cJ6_getChars_ba4f3 7 wsJ6_getChars_ba4f3 RJ6 := C
  unfold f_J6_getChars_ba4f3 at hf
  show xW G p l e (rm_J6_getChars_ba4f3 0 0) s m args below meth c 7 (MQ below (xQrT G ta (some (.int out.1)) out.2) args s 0 0 (xAs G)) 0 0 ta M 0 [(0, .int a1), (1, .int a2), (2, .ref (xA G ta a3))] []
  refine x_iload_n C 1 dJ6_getChars_ba4f3_0 rfl ?_
  refine x_istore (lv' := [(5, .int a2), (0, .int a1), (1, .int a2), (2, .ref (xA G ta a3))]) C dJ6_getChars_ba4f3_1 (by decide) rfl ?_
  refine x_iload_n C 1 dJ6_getChars_ba4f3_3 rfl ?_
  refine x_if_ge C 11 dJ6_getChars_ba4f3_4 (by decide) (fun hc1 => ?_) (fun hc1 => ?_)
  · have hf := x_ip hc1 hf
    refine x_iconst (v := 0) C dJ6_getChars_ba4f3_11 (by decide) ?_
    refine x_istore (lv' := [(6, .int (0 : Int32)), (5, .int a2), (0, .int a1), (1, .int a2), (2, .ref (xA G ta a3))]) C dJ6_getChars_ba4f3_12 (by decide) rfl ?_
    refine x_iload C 0 dJ6_getChars_ba4f3_14 rfl ?_
    refine x_if_ne C 22 dJ6_getChars_ba4f3_16 (by decide) (fun hc2 => ?_) (fun hc2 => ?_)
    · have hf := x_ine hc2 hf
      refine x_sub [2, 4, 1, 0] rfl ?_
      exact t_J6_getChars_ba4f3_L22 C hr hlk ka3 xF a1 a2 M _ _ hf
    · have hf := x_ip hc2 hf
      refine x_iload_n C 2 dJ6_getChars_ba4f3_19 rfl ?_
      refine x_ineg C dJ6_getChars_ba4f3_20 ?_
      refine x_istore_n (lv' := [(0, .int (-a1)), (6, .int (0 : Int32)), (5, .int a2), (1, .int a2), (2, .ref (xA G ta a3))]) C dJ6_getChars_ba4f3_21 rfl (by decide) rfl ?_
      refine x_sub [0, 4, 2, 1] rfl ?_
      exact t_J6_getChars_ba4f3_L22 C hr hlk ka3 xF (-a1) a2 M _ _ hf
  · have hf := x_ine hc1 hf
    refine x_iconst (v := 1) C dJ6_getChars_ba4f3_7 (by decide) ?_
    refine x_goto C 12 dJ6_getChars_ba4f3_8 (by decide) ?_
    refine x_istore (lv' := [(6, .int (1 : Int32)), (5, .int a2), (0, .int a1), (1, .int a2), (2, .ref (xA G ta a3))]) C dJ6_getChars_ba4f3_12 (by decide) rfl ?_
    refine x_iload C 0 dJ6_getChars_ba4f3_14 rfl ?_
    refine x_if_ne C 22 dJ6_getChars_ba4f3_16 (by decide) (fun hc30 => ?_) (fun hc30 => ?_)
    · have hf := x_ine hc30 hf
      refine x_sub [2, 4, 1, 0] rfl ?_
      exact t_J6_getChars_ba4f3_L22 C hr hlk ka3 xF a1 a2 M _ _ hf
    · have hf := x_ip hc30 hf
      refine x_iload_n C 2 dJ6_getChars_ba4f3_19 rfl ?_
      refine x_ineg C dJ6_getChars_ba4f3_20 ?_
      refine x_istore_n (lv' := [(0, .int (-a1)), (6, .int (1 : Int32)), (5, .int a2), (1, .int a2), (2, .ref (xA G ta a3))]) C dJ6_getChars_ba4f3_21 rfl (by decide) rfl ?_
      refine x_sub [0, 4, 2, 1] rfl ?_
      exact t_J6_getChars_ba4f3_L22 C hr hlk ka3 xF (-a1) a2 M _ _ hf
/-! java/lang/AbstractStringBuilder.append(I)Ljava/lang/AbstractStringBuilder; -/
abbrev rm_J5_append_c97b9 (c s : Nat) : Room := { frames := 7, cells := c, slots := s, locals := 322 }
def f_J5_append_c97b9 (h : Nat) (a1 : Int32) (M : xM) : Option (xM) := (f_J6_stringSize_0f7a4 a1 M).bind fun q1 => (f_J5_ensureCapacityInternal_d00df h ((M.1 h 3) + q1) M).bind fun q3 => (f_J5_isLatin1_aae02 h q3).bind fun q5 => (if q5 = 0 then none else (f_J6_getChars_ba4f3 a1 ((M.1 h 3) + q1) (h + 1) q3).bind fun q8 => x_let (sI q8.2 h 3 ((M.1 h 3) + q1)) fun M10 => some M10)
set_option maxHeartbeats 4000000 in
set_option maxRecDepth 100000 in
theorem t_J5_append_c97b9 {l : Launch} {G : xG} {ta : Nat × Nat} {M : xM} {h : Nat} {a1 : Int32} {out : xM} (kh : xkd h = 1) (hf : f_J5_append_c97b9 h a1 M = some out) : xMet G l yJ5_append_c97b9 wsJ5_append_c97b9 (rm_J5_append_c97b9 1 142) 1 142 ta M [.ref (xad G h), .int a1] (some (.ref (xad G h))) out := by
  refine x_met (cc := cJ5_append_c97b9) (nL := 4) (ret := (some (.object "java/lang/AbstractStringBuilder"))) (by decide) rfl (Nat.le_of_ble_eq_true rfl) ?_
  intro p e s m args below meth c C hr hlk
  have C : xC G p s m args c cJ5_append_c97b9 4 wsJ5_append_c97b9 RJ5 := C
  have i1 : ∀ w ∈ wsJ40, w ∈ wsJ5_append_c97b9 := by decide +kernel
  unfold f_J5_append_c97b9 at hf
  show xW G p l e (rm_J5_append_c97b9 1 142) s m args below meth c 4 (MQ below (xQr G (some (.ref (xad G h))) out) args s 1 142 (xAs G)) 0 0 ta M 0 [(0, .ref (xad G h)), (1, .int a1)] []
  refine x_aload_n C 0 dJ5_append_c97b9_0 rfl ?_
  refine x_get1 C kh i1 3 (by decide) (by decide +kernel) rfl rfl dJ5_append_c97b9_1 ?_
  refine x_istore_n (lv' := [(2, .int (M.1 h 3)), (0, .ref (xad G h)), (1, .int a1)]) C dJ5_append_c97b9_4 rfl (by decide) rfl ?_
  refine x_iload_n C 0 dJ5_append_c97b9_5 rfl ?_
  refine x_iload_n C 2 dJ5_append_c97b9_6 rfl ?_
  obtain ⟨q1, hg, hf⟩ := x_bd hf
  refine x_callSCTr C (t_J6_stringSize_0f7a4 hg) (va_cwS 1 C.1.2.2.2.2 gJ5_append_c97b9_J6_stringSize_0f7a4 rfl rfl rfl (by decide +kernel) ⟨Nat.le_of_ble_eq_true rfl, Nat.le_of_ble_eq_true rfl⟩) rfl rfl (Nat.le_of_ble_eq_true rfl) dJ5_append_c97b9_7 ⟨Nat.zero_le _, Nat.zero_le _⟩ ?_
  clear hg
  refine x_iadd C dJ5_append_c97b9_10 ?_
  refine x_istore_n (lv' := [(3, .int ((M.1 h 3) + q1)), (2, .int (M.1 h 3)), (0, .ref (xad G h)), (1, .int a1)]) C dJ5_append_c97b9_11 rfl (by decide) rfl ?_
  refine x_aload_n C 2 dJ5_append_c97b9_12 rfl ?_
  refine x_iload_n C 0 dJ5_append_c97b9_13 rfl ?_
  obtain ⟨q3, hg, hf⟩ := x_bd hf
  refine x_callUv C (xRv_1 C kh) (t_J5_ensureCapacityInternal_d00df kh hg) (va_cwU 1 C.1.2.2.2.2 gJ5_append_c97b9_J5_ensureCapacityInternal_d00df_u100J4 rfl rfl rfl rfl (by decide +kernel) ⟨Nat.le_of_ble_eq_true rfl, Nat.le_of_ble_eq_true rfl⟩) rfl rfl (Nat.le_of_ble_eq_true rfl) dJ5_append_c97b9_14 ⟨Nat.le_of_ble_eq_true rfl, Nat.le_of_ble_eq_true rfl⟩ (fun ta4 => ?_)
  clear hg
  refine x_aload_n C 2 dJ5_append_c97b9_17 rfl ?_
  obtain ⟨q5, hg, hf⟩ := x_bd hf
  refine x_callUTr C (xRv_1 C kh) (t_J5_isLatin1_aae02 kh hg) (va_cwU 0 C.1.2.2.2.2 gJ5_append_c97b9_J5_isLatin1_aae02_u83J4 rfl rfl rfl rfl (by decide +kernel) ⟨Nat.le_of_ble_eq_true rfl, Nat.le_of_ble_eq_true rfl⟩) rfl rfl (Nat.le_of_ble_eq_true rfl) dJ5_append_c97b9_18 ⟨Nat.le_of_ble_eq_true rfl, Nat.le_of_ble_eq_true rfl⟩ ?_
  clear hg
  refine x_if_eq C 37 dJ5_append_c97b9_21 (by decide) (fun hc7 => ?_) (fun hc7 => ?_)
  · have hf := x_ip hc7 hf
    cases hf
  · have hf := x_ine hc7 hf
    refine x_iload_n C 3 dJ5_append_c97b9_24 rfl ?_
    refine x_iload_n C 0 dJ5_append_c97b9_25 rfl ?_
    refine x_aload_n C 2 dJ5_append_c97b9_26 rfl ?_
    refine x_get1 C kh i1 0 (by decide) (by decide +kernel) rfl rfl dJ5_append_c97b9_27 ?_
    obtain ⟨q8, hg, hf⟩ := x_bd hf
    refine x_callSCTr C (t_J6_getChars_ba4f3 (x1_k kh) hg) (va_cwS 3 C.1.2.2.2.2 gJ5_append_c97b9_J6_getChars_ba4f3 rfl rfl rfl (by decide +kernel) ⟨Nat.le_of_ble_eq_true rfl, Nat.le_of_ble_eq_true rfl⟩) rfl rfl (Nat.le_of_ble_eq_true rfl) dJ5_append_c97b9_30 ⟨Nat.le_of_ble_eq_true rfl, Nat.le_of_ble_eq_true rfl⟩ ?_
    clear hg
    refine x_pop C dJ5_append_c97b9_33 rfl ?_
    refine x_goto C 48 dJ5_append_c97b9_34 (by decide) ?_
    refine x_aload_n C 2 dJ5_append_c97b9_48 rfl ?_
    refine x_iload_n C 0 dJ5_append_c97b9_49 rfl ?_
    refine x_put1 C kh i1 3 (by decide) (by decide +kernel) dJ5_append_c97b9_50 ?_
    obtain ⟨M10, e11, hf⟩ := x_lt hf
    rw [← e11]
    clear e11
    refine x_aload_n C 2 dJ5_append_c97b9_53 rfl ?_
    obtain rfl := Option.some.inj hf
    refine x_widen (k' := 1) (n' := 142) (Nat.le_of_ble_eq_true rfl) (Nat.le_of_ble_eq_true rfl) ?_
    exact x_aret C hr hlk (.inl ⟨_, rfl⟩) (.inr ⟨_, rfl⟩) dJ5_append_c97b9_54
/-! java/lang/StringBuilder.append(I)Ljava/lang/StringBuilder; -/
abbrev rm_J4_append_bf812 (c s : Nat) : Room := { frames := 8, cells := c, slots := s, locals := 345 }
def f_J4_append_bf812 (h : Nat) (a1 : Int32) (M : xM) : Option (xM) := (f_J5_append_c97b9 h a1 M).bind fun q1 => some q1
set_option maxHeartbeats 4000000 in
set_option maxRecDepth 100000 in
theorem t_J4_append_bf812 {l : Launch} {G : xG} {ta : Nat × Nat} {M : xM} {h : Nat} {a1 : Int32} {out : xM} (kh : xkd h = 1) (hf : f_J4_append_bf812 h a1 M = some out) : xMet G l yJ4_append_bf812 wsJ4_append_bf812 (rm_J4_append_bf812 1 142) 1 142 ta M [.ref (xad G h), .int a1] (some (.ref (xad G h))) out := by
  refine x_met (cc := cJ4_append_bf812) (nL := 2) (ret := (some (.object "java/lang/StringBuilder"))) (by decide) rfl (Nat.le_of_ble_eq_true rfl) ?_
  intro p e s m args below meth c C hr hlk
  have C : xC G p s m args c cJ4_append_bf812 2 wsJ4_append_bf812 RJ4 := C
  unfold f_J4_append_bf812 at hf
  show xW G p l e (rm_J4_append_bf812 1 142) s m args below meth c 2 (MQ below (xQr G (some (.ref (xad G h))) out) args s 1 142 (xAs G)) 0 0 ta M 0 [(0, .ref (xad G h)), (1, .int a1)] []
  refine x_aload_n C 0 dJ4_append_bf812_0 rfl ?_
  refine x_iload_n C 1 dJ4_append_bf812_1 rfl ?_
  obtain ⟨q1, hg, hf⟩ := x_bd hf
  refine x_callSUr C (xRv_1 C kh) (xAt_1 C) (t_J5_append_c97b9 kh hg) (va_cwSU 1 C.1.2.2.2.2 gJ4_append_bf812_J5_append_c97b9_s53 rfl rfl rfl (by decide +kernel) ⟨Nat.le_of_ble_eq_true rfl, Nat.le_of_ble_eq_true rfl⟩) rfl rfl (Nat.le_of_ble_eq_true rfl) dJ4_append_bf812_2 ⟨Nat.le_of_ble_eq_true rfl, Nat.le_of_ble_eq_true rfl⟩ (fun ta2 => ?_)
  clear hg
  refine x_pop C dJ4_append_bf812_5 rfl ?_
  refine x_aload_n C 0 dJ4_append_bf812_6 rfl ?_
  obtain rfl := Option.some.inj hf
  refine x_widen (k' := 1) (n' := 142) (Nat.le_of_ble_eq_true rfl) (Nat.le_of_ble_eq_true rfl) ?_
  exact x_aret C hr hlk (.inl ⟨_, rfl⟩) (.inr ⟨_, rfl⟩) dJ4_append_bf812_7
/-! java/lang/String.coder()B -/
abbrev rm_J0_coder_7d493 (c s : Nat) : Room := { frames := 0, cells := c, slots := s, locals := 0 }
def f_J0_coder_7d493 (h : Nat) (M : xM) : Option (Int32) := (if (1 : Int32) = 0 then if vp_nar .byte (1 : Int32) = (1 : Int32) then some (1 : Int32) else none else if vp_nar .byte (0 : Int32) = (0 : Int32) then some (0 : Int32) else none)
set_option maxHeartbeats 4000000 in
set_option maxRecDepth 100000 in
theorem t_J0_coder_7d493 {l : Launch} {G : xG} {ta : Nat × Nat} {M : xM} {h : Nat} {out : Int32} (kh : h < 10) (hf : f_J0_coder_7d493 h M = some out) : xMetT G l yJ0_coder_7d493 wsJ0_coder_7d493 (rm_J0_coder_7d493 0 0) 0 0 ta M [.ref (xtx G h)] (some (.int out)) M := by
  refine x_metT (cc := cJ0_coder_7d493) (nL := 1) (ret := some .byte) (by decide) rfl (Nat.le_of_ble_eq_true rfl) ?_
  intro p e s m args below meth c C hr hlk
  have C : xC G p s m args c cJ0_coder_7d493 1 wsJ0_coder_7d493 RJ0 := C
  unfold f_J0_coder_7d493 at hf
  show xW G p l e (rm_J0_coder_7d493 0 0) s m args below meth c 1 (MQ below (xQrT G ta (some (.int out)) M) args s 0 0 (xAs G)) 0 0 ta M 0 [(0, .ref (xtx G h))] []
  refine x_gCS C (by decide +kernel) dJ0_coder_7d493_0 ?_
  refine x_if_eq C 13 dJ0_coder_7d493_3 (by decide) (fun hc1 => ?_) (fun hc1 => ?_)
  · have hf := x_ip hc1 hf
    refine x_iconst (v := 1) C dJ0_coder_7d493_13 (by decide) ?_
    obtain ⟨g2, hf⟩ := x_gd hf
    obtain rfl := Option.some.inj hf
    exact x_zretT C hr hlk (x_nbyte g2) dJ0_coder_7d493_14
  · have hf := x_ine hc1 hf
    refine x_aload_n C 0 dJ0_coder_7d493_6 rfl ?_
    refine x_gCoder C kh (by decide +kernel) dJ0_coder_7d493_7 ?_
    refine x_goto C 14 dJ0_coder_7d493_10 (by decide) ?_
    obtain ⟨g3, hf⟩ := x_gd hf
    obtain rfl := Option.some.inj hf
    exact x_zretT C hr hlk (x_nbyte g3) dJ0_coder_7d493_14
/-! java/lang/String.length()I -/
abbrev rm_J0_length_8abf5 (c s : Nat) : Room := { frames := 1, cells := c, slots := s, locals := 20 }
def f_J0_length_8abf5 (h : Nat) (M : xM) : Option (Int32) := (f_J0_coder_7d493 h M).bind fun q1 => some ((Int32.ofNat (xFL.getD h 0)) >>> (q1 &&& 31))
set_option maxHeartbeats 4000000 in
set_option maxRecDepth 100000 in
theorem t_J0_length_8abf5 {l : Launch} {G : xG} {ta : Nat × Nat} {M : xM} {h : Nat} {out : Int32} (kh : h < 10) (hf : f_J0_length_8abf5 h M = some out) : xMetT G l yJ0_length_8abf5 wsJ0_length_8abf5 (rm_J0_length_8abf5 0 0) 0 0 ta M [.ref (xtx G h)] (some (.int out)) M := by
  refine x_metT (cc := cJ0_length_8abf5) (nL := 1) (ret := some .int) (by decide) rfl (Nat.le_of_ble_eq_true rfl) ?_
  intro p e s m args below meth c C hr hlk
  have C : xC G p s m args c cJ0_length_8abf5 1 wsJ0_length_8abf5 RJ0 := C
  unfold f_J0_length_8abf5 at hf
  show xW G p l e (rm_J0_length_8abf5 0 0) s m args below meth c 1 (MQ below (xQrT G ta (some (.int out)) M) args s 0 0 (xAs G)) 0 0 ta M 0 [(0, .ref (xtx G h))] []
  refine x_aload_n C 0 dJ0_length_8abf5_0 rfl ?_
  refine x_gValue C kh (by decide +kernel) dJ0_length_8abf5_1 ?_
  refine x_lenK C kh dJ0_length_8abf5_4 ?_
  refine x_aload_n C 0 dJ0_length_8abf5_5 rfl ?_
  obtain ⟨q1, hg, hf⟩ := x_bd hf
  refine x_callVCTr C (xRv_s C kh) (t_J0_coder_7d493 kh hg) (cwV 0 C.1.2.2.2.2 gJ0_length_8abf5_J0_coder_7d493 rfl rfl rfl (by decide +kernel) ⟨Nat.le_of_ble_eq_true rfl, Nat.le_of_ble_eq_true rfl⟩) rfl rfl (Nat.le_of_ble_eq_true rfl) dJ0_length_8abf5_6 ⟨Nat.zero_le _, Nat.zero_le _⟩ ?_
  clear hg
  refine x_ishr C dJ0_length_8abf5_9 ?_
  obtain rfl := Option.some.inj hf
  exact x_iretT C hr hlk dJ0_length_8abf5_10
/-! java/lang/String.isLatin1()Z -/
abbrev rm_J0_isLatin1_aae02 (c s : Nat) : Room := { frames := 0, cells := c, slots := s, locals := 0 }
def f_J0_isLatin1_aae02 (h : Nat) (M : xM) : Option (Int32) := (if (1 : Int32) = 0 then some (0 : Int32) else (if (0 : Int32) = 0 then some (1 : Int32) else some (0 : Int32)))
set_option maxHeartbeats 4000000 in
set_option maxRecDepth 100000 in
theorem t_J0_isLatin1_aae02 {l : Launch} {G : xG} {ta : Nat × Nat} {M : xM} {h : Nat} {out : Int32} (kh : h < 10) (hf : f_J0_isLatin1_aae02 h M = some out) : xMetT G l yJ0_isLatin1_aae02 wsJ0_isLatin1_aae02 (rm_J0_isLatin1_aae02 0 0) 0 0 ta M [.ref (xtx G h)] (some (.int out)) M := by
  refine x_metT (cc := cJ0_isLatin1_aae02) (nL := 1) (ret := some .boolean) (by decide) rfl (Nat.le_of_ble_eq_true rfl) ?_
  intro p e s m args below meth c C hr hlk
  have C : xC G p s m args c cJ0_isLatin1_aae02 1 wsJ0_isLatin1_aae02 RJ0 := C
  unfold f_J0_isLatin1_aae02 at hf
  show xW G p l e (rm_J0_isLatin1_aae02 0 0) s m args below meth c 1 (MQ below (xQrT G ta (some (.int out)) M) args s 0 0 (xAs G)) 0 0 ta M 0 [(0, .ref (xtx G h))] []
  refine x_gCS C (by decide +kernel) dJ0_isLatin1_aae02_0 ?_
  refine x_if_eq C 17 dJ0_isLatin1_aae02_3 (by decide) (fun hc1 => ?_) (fun hc1 => ?_)
  · have hf := x_ip hc1 hf
    refine x_iconst (v := 0) C dJ0_isLatin1_aae02_17 (by decide) ?_
    obtain rfl := Option.some.inj hf
    exact x_zretT C hr hlk (x_nb (Or.inl rfl)) dJ0_isLatin1_aae02_18
  · have hf := x_ine hc1 hf
    refine x_aload_n C 0 dJ0_isLatin1_aae02_6 rfl ?_
    refine x_gCoder C kh (by decide +kernel) dJ0_isLatin1_aae02_7 ?_
    refine x_if_ne C 17 dJ0_isLatin1_aae02_10 (by decide) (fun hc2 => ?_) (fun hc2 => ?_)
    · have hf := x_ine hc2 hf
      refine x_iconst (v := 0) C dJ0_isLatin1_aae02_17 (by decide) ?_
      obtain rfl := Option.some.inj hf
      exact x_zretT C hr hlk (x_nb (Or.inl rfl)) dJ0_isLatin1_aae02_18
    · have hf := x_ip hc2 hf
      refine x_iconst (v := 1) C dJ0_isLatin1_aae02_13 (by decide) ?_
      refine x_goto C 18 dJ0_isLatin1_aae02_14 (by decide) ?_
      obtain rfl := Option.some.inj hf
      exact x_zretT C hr hlk (x_nb (Or.inr rfl)) dJ0_isLatin1_aae02_18
/-! java/lang/StringLatin1.charAt([BI)C -/
abbrev rm_J1_charAt_3b067 (c s : Nat) : Room := { frames := 2, cells := c, slots := s, locals := 43 }
def f_J1_charAt_3b067 (a1 : Nat) (a2 : Int32) (M : xM) : Option (Int32) := (f_J0_checkIndex_df160 a2 (Int32.ofNat (xFL.getD a1 0)) M).bind fun q1 => if x_in a2 (xFL.getD a1 0) = true then if vp_nar .char (((((xFB.getD a1 []).getD a2.toNatClampNeg 0) &&& (255 : Int32)).toUInt32 % 65536).toInt32) = (((((xFB.getD a1 []).getD a2.toNatClampNeg 0) &&& (255 : Int32)).toUInt32 % 65536).toInt32) then some (((((xFB.getD a1 []).getD a2.toNatClampNeg 0) &&& (255 : Int32)).toUInt32 % 65536).toInt32) else none else none
set_option maxHeartbeats 4000000 in
set_option maxRecDepth 100000 in
theorem t_J1_charAt_3b067 {l : Launch} {G : xG} {ta : Nat × Nat} {M : xM} {a1 : Nat} {a2 : Int32} {out : Int32} (ka1 : a1 < 10) (hf : f_J1_charAt_3b067 a1 a2 M = some out) : xMetT G l yJ1_charAt_3b067 wsJ1_charAt_3b067 (rm_J1_charAt_3b067 0 0) 0 0 ta M [.ref (xby G a1), .int a2] (some (.int out)) M := by
  refine x_metT (cc := cJ1_charAt_3b067) (nL := 2) (ret := some .char) (by decide) rfl (Nat.le_of_ble_eq_true rfl) ?_
  intro p e s m args below meth c C hr hlk
  have C : xC G p s m args c cJ1_charAt_3b067 2 wsJ1_charAt_3b067 RJ1 := C
  unfold f_J1_charAt_3b067 at hf
  show xW G p l e (rm_J1_charAt_3b067 0 0) s m args below meth c 2 (MQ below (xQrT G ta (some (.int out)) M) args s 0 0 (xAs G)) 0 0 ta M 0 [(0, .ref (xby G a1)), (1, .int a2)] []
  refine x_iload_n C 1 dJ1_charAt_3b067_0 rfl ?_
  refine x_aload_n C 0 dJ1_charAt_3b067_1 rfl ?_
  refine x_lenK C ka1 dJ1_charAt_3b067_2 ?_
  obtain ⟨q1, hg, hf⟩ := x_bd hf
  refine x_callSCTv C (t_J0_checkIndex_df160 hg) (va_cwS 2 C.1.2.2.2.2 gJ1_charAt_3b067_J0_checkIndex_df160 rfl rfl rfl (by decide +kernel) ⟨Nat.le_of_ble_eq_true rfl, Nat.le_of_ble_eq_true rfl⟩) rfl rfl (Nat.le_of_ble_eq_true rfl) dJ1_charAt_3b067_3 ⟨Nat.zero_le _, Nat.zero_le _⟩ ?_
  clear hg
  refine x_aload_n C 0 dJ1_charAt_3b067_6 rfl ?_
  refine x_iload_n C 1 dJ1_charAt_3b067_7 rfl ?_
  obtain ⟨g3, hf⟩ := x_gd hf
  refine x_tK C ka1 g3 dJ1_charAt_3b067_8 ?_
  refine x_sipush (v := 255) C dJ1_charAt_3b067_9 (by decide) ?_
  refine x_iand C dJ1_charAt_3b067_12 ?_
  refine x_i2c (v := ((((xFB.getD a1 []).getD a2.toNatClampNeg 0) &&& (255 : Int32)).toUInt32 % 65536).toInt32) C dJ1_charAt_3b067_13 rfl ?_
  obtain ⟨g4, hf⟩ := x_gd hf
  obtain rfl := Option.some.inj hf
  exact x_zretT C hr hlk (x_nc g4) dJ1_charAt_3b067_14
/-! java/lang/String.charAt(I)C -/
abbrev rm_J0_charAt_5068e (c s : Nat) : Room := { frames := 3, cells := c, slots := s, locals := 64 }
def f_J0_charAt_5068e (h : Nat) (a1 : Int32) (M : xM) : Option (Int32) := (f_J0_isLatin1_aae02 h M).bind fun q1 => (if q1 = 0 then none else (f_J1_charAt_3b067 h a1 M).bind fun q4 => if vp_nar .char q4 = q4 then some q4 else none)
set_option maxHeartbeats 4000000 in
set_option maxRecDepth 100000 in
theorem t_J0_charAt_5068e {l : Launch} {G : xG} {ta : Nat × Nat} {M : xM} {h : Nat} {a1 : Int32} {out : Int32} (kh : h < 10) (hf : f_J0_charAt_5068e h a1 M = some out) : xMetT G l yJ0_charAt_5068e wsJ0_charAt_5068e (rm_J0_charAt_5068e 0 0) 0 0 ta M [.ref (xtx G h), .int a1] (some (.int out)) M := by
  refine x_metT (cc := cJ0_charAt_5068e) (nL := 2) (ret := some .char) (by decide) rfl (Nat.le_of_ble_eq_true rfl) ?_
  intro p e s m args below meth c C hr hlk
  have C : xC G p s m args c cJ0_charAt_5068e 2 wsJ0_charAt_5068e RJ0 := C
  unfold f_J0_charAt_5068e at hf
  show xW G p l e (rm_J0_charAt_5068e 0 0) s m args below meth c 2 (MQ below (xQrT G ta (some (.int out)) M) args s 0 0 (xAs G)) 0 0 ta M 0 [(0, .ref (xtx G h)), (1, .int a1)] []
  refine x_aload_n C 0 dJ0_charAt_5068e_0 rfl ?_
  obtain ⟨q1, hg, hf⟩ := x_bd hf
  refine x_callVCTr C (xRv_s C kh) (t_J0_isLatin1_aae02 kh hg) (cwV 0 C.1.2.2.2.2 gJ0_charAt_5068e_J0_isLatin1_aae02 rfl rfl rfl (by decide +kernel) ⟨Nat.le_of_ble_eq_true rfl, Nat.le_of_ble_eq_true rfl⟩) rfl rfl (Nat.le_of_ble_eq_true rfl) dJ0_charAt_5068e_1 ⟨Nat.zero_le _, Nat.zero_le _⟩ ?_
  clear hg
  refine x_if_eq C 16 dJ0_charAt_5068e_4 (by decide) (fun hc3 => ?_) (fun hc3 => ?_)
  · have hf := x_ip hc3 hf
    cases hf
  · have hf := x_ine hc3 hf
    refine x_aload_n C 0 dJ0_charAt_5068e_7 rfl ?_
    refine x_gValue C kh (by decide +kernel) dJ0_charAt_5068e_8 ?_
    refine x_iload_n C 1 dJ0_charAt_5068e_11 rfl ?_
    obtain ⟨q4, hg, hf⟩ := x_bd hf
    refine x_callSCTr C (t_J1_charAt_3b067 kh hg) (va_cwS 2 C.1.2.2.2.2 gJ0_charAt_5068e_J1_charAt_3b067 rfl rfl rfl (by decide +kernel) ⟨Nat.le_of_ble_eq_true rfl, Nat.le_of_ble_eq_true rfl⟩) rfl rfl (Nat.le_of_ble_eq_true rfl) dJ0_charAt_5068e_12 ⟨Nat.zero_le _, Nat.zero_le _⟩ ?_
    clear hg
    obtain ⟨g6, hf⟩ := x_gd hf
    obtain rfl := Option.some.inj hf
    exact x_zretT C hr hlk (x_nc g6) dJ0_charAt_5068e_15
/-! java/lang/Enum.ordinal()I -/
abbrev rm_Jx29ce0_ordinal_8abf5 (c s : Nat) : Room := { frames := 0, cells := c, slots := s, locals := 0 }
def f_Jx29ce0_ordinal_8abf5 (h : Nat) (M : xM) : Option (Int32) := some (Int32.ofNat h)
set_option maxHeartbeats 4000000 in
set_option maxRecDepth 100000 in
theorem t_Jx29ce0_ordinal_8abf5 {l : Launch} {G : xG} {ta : Nat × Nat} {M : xM} {h : Nat} {out : Int32} (kh : h < 10) (hf : f_Jx29ce0_ordinal_8abf5 h M = some out) : xMetT G l yJx29ce0_ordinal_8abf5 wsJx29ce0_ordinal_8abf5 (rm_Jx29ce0_ordinal_8abf5 0 0) 0 0 ta M [.ref (xcm G h)] (some (.int out)) M := by
  refine x_metT (cc := cJx29ce0_ordinal_8abf5) (nL := 1) (ret := some .int) (by decide) rfl (Nat.le_of_ble_eq_true rfl) ?_
  intro p e s m args below meth c C hr hlk
  have C : xC G p s m args c cJx29ce0_ordinal_8abf5 1 wsJx29ce0_ordinal_8abf5 RJx29ce0 := C
  unfold f_Jx29ce0_ordinal_8abf5 at hf
  show xW G p l e (rm_Jx29ce0_ordinal_8abf5 0 0) s m args below meth c 1 (MQ below (xQrT G ta (some (.int out)) M) args s 0 0 (xAs G)) 0 0 ta M 0 [(0, .ref (xcm G h))] []
  refine x_aload_n C 0 dJx29ce0_ordinal_8abf5_0 rfl ?_
  refine x_gOrd C kh (by decide +kernel) dJx29ce0_ordinal_8abf5_1 ?_
  obtain rfl := Option.some.inj hf
  exact x_iretT C hr hlk dJx29ce0_ordinal_8abf5_4
