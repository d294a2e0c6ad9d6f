/-! the constructors' contracts -/
def cNs : List Cond := [.methodLinkNest RX3 17 yX2_init RX6, .methodLinkNest RX3 24 yX5_init RX6, .methodLinkNest RX6 28 yX4_init RX6]
def cX (G : xG) (U : State) : Prop := (va_AO RX2 U ∧ va_AO RX5 U ∧ va_AO RX3 U) ∧ va_Z "java/lang/String" "COMPACT_STRINGS" "Z" (.int 1) (xAs G) U U.heap ∧ xbs G ≤ U.heap.size ∧ ∀ w ∈ cNs, va_Nw w U
theorem cX.call {G : xG} {s U : State} {A : Nat → Prop} {H : Heap} {locs : List Loc} (h : cX G s) (hS : va_S A s.heap H locs) (hA : ∀ q, A q → xAs G q) (hU : U.heap = H) (hW : s.WarmedH U.vm) : cX G U := by
  obtain ⟨⟨a1, a2, a3⟩, z, hx, hn⟩ := h
  refine ⟨⟨a1.moved hW.alike, a2.moved hW.alike, a3.moved hW.alike⟩, ?_, by rw [hU]; exact Nat.le_trans hx hS.1, fun w hw => ?_⟩
  · rw [hU]
    exact va_Z.moved hW.alike (z.kept fun q h1 h2 => hS.2.1 q h1 (fun h3 => h2 (hA q h3)))
  · have h1 := hn w hw
    unfold cNs at hw
    simp only [List.mem_cons, List.not_mem_nil, or_false] at hw
    rcases hw with rfl | rfl | rfl <;> exact va_Nw.warmM hW h1
theorem cX.blind {G : xG} {u U : State} (hv : u.vm = U.vm) (hh : U.heap = u.heap) (h : cX G u) : cX G U := by
  obtain ⟨⟨a1, a2, a3⟩, z, hx, hn⟩ := h
  have hvm : u.vm.Alike U.vm := by rw [hv]; exact Vm.Alike.refl _
  refine ⟨⟨a1.moved hvm, a2.moved hvm, a3.moved hvm⟩, by rw [hh]; exact va_Z.moved hvm z, by rw [hh]; exact hx, fun w hw => ?_⟩
  have h1 := hn w hw
  unfold cNs at hw
  simp only [List.mem_cons, List.not_mem_nil, or_false] at hw
  rcases hw with rfl | rfl | rfl <;> exact va_Nw.same rfl hv h1
def ciPc (G : xG) (h0 : Nat) (As : List Value) (cell : va_E) (sz : Nat) : Array Value → State → Prop := va_Pc (.ref h0 :: As) (fun U => U.heap.size = sz ∧ va_P (xgD G) vwCl [(h0, cell)] U.heap ∧ va_K (xgD G) vwCl (xty G) U ∧ cX G U ∧ xbs G ≤ h0)
def ciB (G : xG) {S : Type} (W0 : S → va_W) (h0 : Nat) (cell : va_E) (sz : Nat) (u : S) (t : State) : Prop := va_P (xgD G) vwCl (W0 u) t.heap ∧ va_D (va_A [(h0, cell)] sz) (W0 u)
def ciMet (G : xG) (l : Launch) (y : MethodName) (ws : List Cond) (rm : Room) (mc ms : Nat) (h0 : Nat) (As : List Value) (cell : va_E) {S : Type} (post : S → Prop) (W0 : S → va_W) : Prop :=
  ∀ sz : Nat, Met l y ws rm (ciPc G h0 As cell sz) (va_Qv post (ciB G W0 h0 cell sz) (va_A [(h0, cell)] sz)) mc ms (va_A [(h0, cell)] sz)
theorem ciPc_blind {G : xG} {h0 : Nat} {As : List Value} {cell : va_E} {sz : Nat} : FrameBlind (ciPc G h0 As cell sz) := fun a U g mk q => by
  obtain ⟨q0, q1, qP, qK, qX, qh⟩ := q
  exact ⟨q0, q1, qP, va_K.moved (u := U) (U := U.calling g mk a) (Vm.Alike.refl U.vm) qK, cX.blind (u := U) (U := U.calling g mk a) rfl rfl qX, qh⟩
section CWM
variable {G : xG} {p : Program} {l : Launch} {e : Env} {R : Room} {s : State} {m : MethodId} {args : Array Value} {below : List Frame} {meth : Method} {c : Code} {nL : Nat} {Q : State → Prop} {A : Nat → Prop} {k n : Nat} {ws : va_W} {pc : Nat} {lv : List (Nat × Value)} {st rest : List Value} {cc : ByteArray} {Ts : List Cond} {own : String}
theorem cw_gcs (C : cwC G p s m args meth c cc nL Ts own A) (X : cX G s) (hAx : ∀ q, A q → xAs G q) {index : Nat} (hlink : Cond.fieldLink own index "java/lang/String" "COMPACT_STRINGS" "Z" ∈ Ts) (hdg : decode cc pc = .ok (.getstatic index, 3)) (kk : cw G p l e R s m args below meth c nL Q A k n ws (pc + 3) lv (.int 1 :: rest)) : cw G p l e R s m args below meth c nL Q A k n ws pc lv rest :=
  fun H locs ls h1 h2 h3 h4 => va_gets C.1.1 C.1.2.1 (X.2.1.narrow hAx) h3 C.1.2.2.2.1 (C.1.2.2.2.2 _ hlink) (fun _ h9 => h9) hdg (kk H locs ls h1 h2 h3 h4)
/-- the world is a caller's part and the one object that a constructor is called on -/
theorem cw_callG {st' : va_W} (C : cwC G p s m args meth c cc nL Ts own A) (X : cX G s) (hAx : ∀ q, A q → xAs G q) {mc ms h0 : Nat} {As : List Value} {cell : va_E} {S : Type} {post : S → Prop} {W0 : S → va_W} (hrun : ∀ (H : Heap) (locs : List Loc) (ls : Array Slot), ls.size = nL → PreS s H (ciPc G h0 As cell H.size) (.ref h0 :: As) → va_Run p l e R s m args below meth c H locs k n mc ms (F0 m pc ls st) rest (va_Qv post (ciB G W0 h0 cell H.size) (va_A [(h0, cell)] H.size) (Value.ref h0 :: As).toArray) (va_A [(h0, cell)] H.size))
    (hws : ws = st' ++ [(h0, cell)])
    (kk : ∀ u : S, post u → cw G p l e R s m args below meth c nL Q A (k + mc) (n + ms) (st' ++ W0 u) (pc + 3) lv rest) : cw G p l e R s m args below meth c nL Q A k n ws pc lv st := by
  subst hws
  intro H locs ls h1 h2 h3 h4
  have hlast : (st' ++ [(h0, cell)])[st'.length]? = some (h0, cell) := by rw [List.getElem?_append_right (Nat.le_refl _), Nat.sub_self]; rfl
  have hPc : va_P (xgD G) vwCl [(h0, cell)] H := fun k x hx => by
    have hz : k < 1 := (List.getElem?_eq_some_iff.mp hx).1
    rw [show k = 0 by omega] at hx
    cases hx
    exact h1 _ _ hlast
  have hDc : va_D A [(h0, cell)] := ⟨fun i j x z hx hz _ => by
    have h5 : i < 1 := (List.getElem?_eq_some_iff.mp hx).1
    have h6 : j < 1 := (List.getElem?_eq_some_iff.mp hz).1
    omega, fun k x hx => by
    have hz : k < 1 := (List.getElem?_eq_some_iff.mp hx).1
    rw [show k = 0 by omega] at hx
    cases hx
    exact h2.2 _ _ hlast⟩
  have hF : ∀ q, va_A [(h0, cell)] H.size q → A q := fun q h => by
    rcases h with ⟨i, x, h⟩ | h
    · exact hDc.2 i (q, x) h
    · exact C.2.2.1 q (Nat.le_trans h3.1 h)
  have hh0 : xbs G ≤ h0 := hAx _ (h2.2 _ _ hlast)
  refine va_callv (hrun H locs ls h4.1 ⟨ciPc_blind, fun U hU hW => ⟨rfl, by rw [hU], by rw [hU]; exact hPc, va_K.moved hW.alike C.2.1, X.call h3 hAx hU hW, hh0⟩⟩) h3 (fun q _ h => hF q h) hF (fun u t H1 locs1 ht hvm hw hB hz1 hk1 hS1 => ?_)
  obtain ⟨hP1, hD1⟩ := hB
  rw [ht] at hP1
  have hne : ∀ (i : Nat) (x : Nat × va_E), st'[i]? = some x → x.1 < H.size ∧ ¬ va_A [(h0, cell)] H.size x.1 := fun i x hx => by
    have hi : i < st'.length := (List.getElem?_eq_some_iff.mp hx).1
    have hx2 : (st' ++ [(h0, cell)])[i]? = some x := by rw [List.getElem?_append_left hi]; exact hx
    have hlt := (h1 i x hx2).lt
    refine ⟨hlt, fun z => ?_⟩
    rcases z with ⟨j, y9, z⟩ | z
    · have h5 : j < 1 := (List.getElem?_eq_some_iff.mp z).1
      rw [show j = 0 by omega] at z
      cases z
      have := h2.1 i st'.length x _ hx2 hlast rfl
      omega
    · omega
  have hPs : va_P (xgD G) vwCl st' H := fun i x hx => h1 i x (by rw [List.getElem?_append_left (List.getElem?_eq_some_iff.mp hx).1]; exact hx)
  refine kk u hw H1 locs1 ls (va_P.app (hPs.kept fun i x hx => hk1 x.1 (hne i x hx).1 (hne i x hx).2) hP1) (va_D.app ⟨fun i j x z hx hz he => ?_, fun i x hx => ?_⟩ (hD1.weaken fun _ q _ h => hF q.1 h) (fun i j x z hx hz he => ?_)) hS1 h4
  · have hi : i < st'.length := (List.getElem?_eq_some_iff.mp hx).1
    have hj : j < st'.length := (List.getElem?_eq_some_iff.mp hz).1
    exact h2.1 i j x z (by rw [List.getElem?_append_left hi]; exact hx) (by rw [List.getElem?_append_left hj]; exact hz) he
  · have hi : i < st'.length := (List.getElem?_eq_some_iff.mp hx).1
    exact h2.2 i x (by rw [List.getElem?_append_left hi]; exact hx)
  · exact (hne i x hx).2 (he ▸ hD1.2 j z hz)
theorem cw_call {st' : va_W} (C : cwC G p s m args meth c cc nL Ts own A) (X : cX G s) (hAx : ∀ q, A q → xAs G q) {y : MethodName} {wy : List Cond} {rm : Room} {mc ms h0 index na : Nat} {bytes : ByteArray} {maxL : Nat} {As : List Value} {cell : va_E} {S : Type} {post : S → Prop} {W0 : S → va_W} (hM : ciMet G l y wy rm mc ms h0 As cell post W0) (cwy : CallB R s args own index y bytes maxL none wy rm mc ms na ∧ y.name = "<init>" ∧ (Cond.instanceMethod y).before args s = true)
    (hws : ws = st' ++ [(h0, cell)]) (hn : As.length = na) (hst : st = As.reverse ++ .ref h0 :: rest) (hW : (rest.map fun v => v.category).sum ≤ 8) (hdg : decode cc pc = .ok (.invokespecial index, 3)) (hf : k + mc ≤ R.cells ∧ n + ms ≤ R.slots)
    (kk : ∀ u : S, post u → cw G p l e R s m args below meth c nL Q A (k + mc) (n + ms) (st' ++ W0 u) (pc + 3) lv rest) : cw G p l e R s m args below meth c nL Q A k n ws pc lv st :=
  cw_callG C X hAx (fun H locs ls hl hp => va_runI C.1 (hM H.size) cwy hp rfl hn hl hst (lv_room hW) hdg hf) hws kk
theorem cw_callN {st' : va_W} (C : cwC G p s m args meth c cc nL Ts own A) (X : cX G s) (hAx : ∀ q, A q → xAs G q) {y : MethodName} {host : String} {wy : List Cond} {rm : Room} {mc ms h0 index na : Nat} {bytes : ByteArray} {maxL : Nat} {As : List Value} {cell : va_E} {S : Type} {post : S → Prop} {W0 : S → va_W} (hM : ciMet G l y wy rm mc ms h0 As cell post W0) (cwy : va_CN R s args own index y host bytes maxL none wy rm mc ms na ∧ y.name = "<init>" ∧ (Cond.instanceMethod y).before args s = true)
    (hws : ws = st' ++ [(h0, cell)]) (hn : As.length = na) (hst : st = As.reverse ++ .ref h0 :: rest) (hW : (rest.map fun v => v.category).sum ≤ 8) (hdg : decode cc pc = .ok (.invokespecial index, 3)) (hf : k + mc ≤ R.cells ∧ n + ms ≤ R.slots)
    (kk : ∀ u : S, post u → cw G p l e R s m args below meth c nL Q A (k + mc) (n + ms) (st' ++ W0 u) (pc + 3) lv rest) : cw G p l e R s m args below meth c nL Q A k n ws pc lv st :=
  cw_callG C X hAx (fun H locs ls hl hp => va_runIN C.1 (hM H.size) cwy hp rfl hn hl hst (lv_room hW) hdg hf) hws kk
theorem cw_vret (C : cwC G p s m args meth c cc nL Ts own A) (hr : meth.sig.returnType = none) (hlk : meth.locks = false) {S : Type} {post : S → Prop} {W0 : S → va_W} {h0 sz : Nat} {cell : va_E} (hAe : A = va_A [(h0, cell)] sz) (hsz : sz = s.heap.size) (u : S) (hu : post u) (is : List Nat) (hnd : va_nd is = true) (hsub : is.map (fun i => ws[i]?) = (W0 u).map some) (hdg : decode cc pc = .ok (.return_, 1)) :
    cw G p l e R s m args below meth c nL (MQ below (va_Qv post (ciB G W0 h0 cell sz) (va_A [(h0, cell)] sz)) args s k n (va_A [(h0, cell)] sz)) A k n ws pc lv [] := by
  intro H locs ls h1 h2 h3 h4
  subst hAe
  have hf : is.filterMap (fun i => ws[i]?) = W0 u := by
    have : is.filterMap (fun i => ws[i]?) = (is.map (fun i => ws[i]?)).filterMap id := by rw [List.filterMap_map]; rfl
    rw [this, hsub, List.filterMap_map]
    exact List.filterMap_some
  have hP9 := h1.sub is hf
  have hD9 := h2.sub is hnd hsub
  exact W.vret C.1.1 C.1.2.1 hr (fun t ht hW => ⟨⟨u, rfl, hu, by rw [ht]; exact hP9, hD9⟩, h3.F ht⟩) h3.2.2 hdg hlk
/-- a contract from its body's walk -/
theorem ci_of {y : MethodName} {wy ws' : List Cond} {rm : Room} {mc ms h0 : Nat} {As : List Value} {cell : va_E} {S : Type} {post : S → Prop} {W0 : S → va_W} {maxL : Nat} {RC : String} (hy : plainName y.cls = true) (hyc : y.cls = RC) (hyn : y.name = "<init>") (hw : wy = Cond.code y cc maxL none :: ws') (hL : Nat.ble (lg_sl (.ref h0 :: As)).length maxL = true)
    (body : ∀ (p : Program) (e : Env) (s : State) (m : MethodId) (below : List Frame) (meth : Method) (c : Code) (A : Nat → Prop), cwC G p s m (Value.ref h0 :: As).toArray meth c cc maxL wy RC A → cX G s → (∀ q, A q → xAs G q) → A = va_A [(h0, cell)] s.heap.size → meth.sig.returnType = none → meth.locks = false →
      cw G p l e (headSpec wy rm).room s m (Value.ref h0 :: As).toArray below meth c maxL (MQ below (va_Qv post (ciB G W0 h0 cell s.heap.size) (va_A [(h0, cell)] s.heap.size)) (Value.ref h0 :: As).toArray s mc ms (va_A [(h0, cell)] s.heap.size)) A 0 0 [(h0, cell)] 0 (lv_args 0 (.ref h0 :: As)) []) : ciMet G l y wy rm mc ms h0 As cell post W0 := by
  intro sz
  refine Met.ofW (cc := cc) (maxL := maxL) (ret := none) hy hw ?_
  intro p e s m args below meth c s₁ B hml hv
  obtain ⟨rfl, hsz, hP, hK, hX, hh⟩ := hv
  subst hsz
  have hown : s.vm.findClass RC = some m.cls := by rw [← hyc]; exact findClass_of_methodNamed B.named
  have hin : meth.name = "<init>" := by rw [← hyn]; exact (name_of_methodNamed B.named B.method).1
  have hD : va_D (va_A [(h0, cell)] s.heap.size) [(h0, cell)] := ⟨fun i j x z hx hz _ => by
    have h5 : i < 1 := (List.getElem?_eq_some_iff.mp hx).1
    have h6 : j < 1 := (List.getElem?_eq_some_iff.mp hz).1
    omega, fun k x hx => va_A.in hx⟩
  have hl := lv_entry (.ref h0 :: As) (n := maxL) (Nat.le_of_ble_eq_true hL)
  rw [lg_entry_eq]
  generalize (lg_sl (.ref h0 :: As) ++ List.replicate (maxL - (lg_sl (.ref h0 :: As)).length) Slot.unset).toArray = ls at hl ⊢
  exact body p e s m below meth c _ ⟨⟨B.exec, B.bytes, hml, hown, atoms_spec (ws := wy) B.pre⟩, hK, fun q h => Or.inr h, Or.inr hin⟩ hX (fun q h => by
    rcases h with ⟨i, x, h⟩ | h
    · have hz : i < 1 := (List.getElem?_eq_some_iff.mp h).1
      rw [show i = 0 by omega] at h
      cases h
      exact hh
    · exact Nat.le_trans hX.2.2.1 h) rfl B.returns B.notSynchronized s.heap [] ls hP hD va_S.rf hl
end CWM
section CWN
variable {G : xG} {p : Program} {l : Launch} {e : Env} {R : Room} {s : State} {m : MethodId} {args : Array Value} {below : List Frame} {meth : Method} {c : Code} {nL : Nat} {Q : State → Prop} {A : Nat → Prop} {k n : Nat} {ws st' : va_W} {pc : Nat} {lv : List (Nat × Value)} {st rest : List Value} {cc : ByteArray} {Ts : List Cond} {own : String}
theorem cw_aastN (C : cwC G p s m args meth c cc nL Ts own A) (q0 t0 qk ci j : Nat) {cA : ClassId} {r : vw_C} {N a v : Nat} {vs : List Value} {f : Nat → Option Nat} {i : Int32} (hj : i.toNatClampNeg = j) (ha : ws[q0]? = some (a, .inl (cA, N, .inr (.inr (.inr (.inr f)))))) (ht : (xty G)[t0]? = some (cA, .object r.1)) (hv : ws[qk]? = some (v, .inr (ci, vs))) (hc : vwCl[ci]? = some r) (hin : x_in i N = true) (hdg : decode cc pc = .ok (.aastore, 1))
    (kk : cw G p l e R s m args below meth c nL Q A k n (ws.set q0 (a, .inl (cA, N, .inr (.inr (.inr (.inr (va_up f j (some v)))))))) (pc + 1) lv rest) : cw G p l e R s m args below meth c nL Q A k n ws pc lv (.ref v :: .int i :: .ref a :: rest) :=
  cw_aast C q0 t0 qk ci ha ht hv hc (x_vp hin) hdg (by rw [hj]; exact kk)
/-- a row that is being filled with L, up to j -/
def xv_tab (L : List Int32) (j : Nat) : Nat → Int32 := fun i => if i < j then L.getD i 0 else 0
theorem xv_tab_s {L : List Int32} {j : Nat} {x : Int32} (h : L.getD j 0 = x) : upd (xv_tab L j) j x = xv_tab L (j + 1) := by
  funext i
  unfold xv_tab
  by_cases e : i = j
  · rw [e, pk_us, if_pos (Nat.lt_succ_self j), h]
  · rw [pk_un e]
    by_cases g : i < j
    · rw [if_pos g, if_pos (by omega)]
    · rw [if_neg g, if_neg (by omega)]
theorem cw_fillI (C : cwC G p s m args meth c cc nL Ts own A) (L : List Int32) (j : Nat) {N a : Nat} {i x : Int32} (hj : i.toNatClampNeg = j) (hx : L.getD j 0 = x) (hin : x_in i N = true) (hdg : decode cc pc = .ok (.iastore, 1))
    (kk : cw G p l e R s m args below meth c nL Q A k n (st' ++ [(a, .inl (xcy G 0, N, .inl (xv_tab L (j + 1))))]) (pc + 1) lv rest) : cw G p l e R s m args below meth c nL Q A k n (st' ++ [(a, .inl (xcy G 0, N, .inl (xv_tab L j)))]) pc lv (.int x :: .int i :: .ref a :: rest) := by
  refine cw_iast C st'.length (N := N) (f := xv_tab L j) (by rw [List.getElem?_append_right (Nat.le_refl _), Nat.sub_self]; rfl) (x_vp hin) hdg ?_
  rw [hj, xv_tab_s hx, List.set_append_right _ _ (Nat.le_refl _), Nat.sub_self]
  exact kk
theorem cw_fillC (C : cwC G p s m args meth c cc nL Ts own A) (L : List Int32) (j : Nat) {N a : Nat} {i x : Int32} (hj : i.toNatClampNeg = j) (hx : L.getD j 0 = x) (hn : vp_nar .char x = x) (hin : x_in i N = true) (hdg : decode cc pc = .ok (.castore, 1))
    (kk : cw G p l e R s m args below meth c nL Q A k n (st' ++ [(a, .inl (xcy G 2, N, .inl (xv_tab L (j + 1))))]) (pc + 1) lv rest) : cw G p l e R s m args below meth c nL Q A k n (st' ++ [(a, .inl (xcy G 2, N, .inl (xv_tab L j)))]) pc lv (.int x :: .int i :: .ref a :: rest) := by
  refine cw_cast C st'.length (N := N) (f := xv_tab L j) (by rw [List.getElem?_append_right (Nat.le_refl _), Nat.sub_self]; rfl) (x_vp hin) hn hdg ?_
  rw [hj, xv_tab_s hx, List.set_append_right _ _ (Nat.le_refl _), Nat.sub_self]
  exact kk
theorem xv_tab_0 (L : List Int32) : xv_tab L 0 = fun _ => 0 := funext fun i => if_neg (Nat.not_lt_zero i)
end CWN
section CWR
variable {G : xG} {p : Program} {l : Launch} {e : Env} {R : Room} {s : State} {m : MethodId} {args : Array Value} {below : List Frame} {meth : Method} {c : Code} {nL : Nat} {Q : State → Prop} {A : Nat → Prop} {k n : Nat} {ws st' : va_W} {pc : Nat} {lv : List (Nat × Value)} {st rest : List Value} {cc : ByteArray} {Ts : List Cond} {own : String}
/-- the last one comes behind the first -/
theorem cw_rot {a b : Nat × va_E} {X : va_W} (kk : cw G p l e R s m args below meth c nL Q A k n (a :: b :: X) pc lv st) : cw G p l e R s m args below meth c nL Q A k n (a :: (X ++ [b])) pc lv st := by
  intro H locs ls h1 h2 h3 h4
  have ix : ∀ (i : Nat) (x : Nat × va_E), (a :: b :: X)[i]? = some x → (a :: (X ++ [b]))[if i = 0 then 0 else if i = 1 then X.length + 1 else i - 1]? = some x ∧ i < X.length + 2 := fun i x hx => by
    have hi : i < X.length + 2 := (List.getElem?_eq_some_iff.mp hx).1
    refine ⟨?_, hi⟩
    match i, hx with
    | 0, hx => exact hx
    | 1, hx =>
      rw [if_neg (by decide), if_pos rfl, List.getElem?_cons_succ, List.getElem?_append_right (Nat.le_refl _), Nat.sub_self]
      exact hx
    | i + 2, hx =>
      rw [if_neg (by omega), if_neg (by omega), show i + 2 - 1 = i + 1 from rfl, List.getElem?_cons_succ, List.getElem?_append_left (by omega)]
      exact hx
  refine kk H locs ls (fun i x hx => h1 _ x (ix i x hx).1) ⟨fun i j x z hx hz he => ?_, fun i x hx => h2.2 _ x (ix i x hx).1⟩ h3 h4
  have e1 := h2.1 _ _ x z (ix i x hx).1 (ix j z hz).1 he
  have e2 := (ix i x hx).2
  have e3 := (ix j z hz).2
  split at e1 <;> split at e1 <;> (try split at e1) <;> (try split at e1) <;> omega
theorem cw_vretE (C : cwC G p s m args meth c cc nL Ts own A) (hr : meth.sig.returnType = none) (hlk : meth.locks = false) {S : Type} {post : S → Prop} {W0 : S → va_W} {h0 sz : Nat} {cell : va_E} (hAe : A = va_A [(h0, cell)] sz) (hsz : sz = s.heap.size) (u : S) (hu : post u) (hsub : ws = W0 u) (hdg : decode cc pc = .ok (.return_, 1)) :
    cw G p l e R s m args below meth c nL (MQ below (va_Qv post (ciB G W0 h0 cell sz) (va_A [(h0, cell)] sz)) args s k n (va_A [(h0, cell)] sz)) A k n ws pc lv [] := by
  intro H locs ls h1 h2 h3 h4
  subst hAe
  subst hsub
  exact W.vret C.1.1 C.1.2.1 hr (fun t ht hW => ⟨⟨u, rfl, hu, by rw [ht]; exact h1, h2⟩, h3.F ht⟩) h3.2.2 hdg hlk
end CWR
