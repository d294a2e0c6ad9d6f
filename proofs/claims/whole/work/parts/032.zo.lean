/-! a call of a method whose class the tables don't say to be initialised (Enum.ordinal): its walk taken in place, not by contract -/
section OI
variable {l : Launch} {R : Room} {p : Program} {e : Env} {below : List Frame} {s : State} {sargs : Array Value} {y : MethodName}
set_option maxHeartbeats 2000000 in
theorem oi_back {bytes : ByteArray} {maxL : Nat} {ret : Option FieldType} {Pc : Array Value → State → Prop} {Qc : Array Value → State → Outcome → State → Prop} {free : Addr → Prop} {R0 : Room}
    (hy : plainName y.cls = true) (hblind : FrameBlind Pc) (hR0 : R0.cells = 0 ∧ R0.slots = 0) (hframes : R0.frames + 1 ≤ R.frames) (hlocals : 8 + (maxL + 11) + R0.locals ≤ R.locals)
    (hcode : ∀ (a' : Array Value) (U : State), s.WarmedH U.vm → (Cond.code y bytes maxL ret).before a' U = true)
    (walk : ∀ (mk : MethodId) (a : Array Value) (s0 : State) (below0 : List Frame) (meth : Method) (c : Code), s.WarmedH s0.vm → Pc a s0 → c.code = bytes → c.maxLocals = maxL → meth.sig.returnType = ret → meth.locks = false → s0.methodNamed? y = some mk → W p l e R0 s0 mk a below0 meth c s0.heap [] 0 0 (MQ below0 Qc a s0 0 0 free) (entryFrame mk a maxL)) :
    Back l R p e below s sargs y 3 8 (PreOf R 0 0 Pc) (PostOf Qc 0 0 free) := by
  intro m meth c A g ig mk a X hg hsize hdg hW hn hp
  obtain ⟨hp1, hp2, hp3⟩ := hp
  obtain ⟨U, Ls, c0, s0⟩ := A
  dsimp only [Pt.U, Pt.locs, Pt.cells, Pt.slots] at hp1 hp2 hp3 X hn ⊢
  obtain ⟨methY, cY, hmY, hcY, hbY, hlY, hrY, hkY, -, -⟩ := Cond.code_spec hn (hcode a U X.warmed)
  have h : At U g.method c below := by rw [hg]; exact X.here
  obtain ⟨mid, hmid⟩ := h.above
  have hfr : (U.setTop g).frames = (.java g :: mid) ++ below := by rw [State.frames_setTop' g h.top, hmid]; rfl
  have hfr2 : (U.setTop g).frames = .java g :: U.frames.tail := State.frames_setTop' g h.top
  have hbel : (Frame.java g :: U.frames.tail) = (.java g :: mid) ++ below := hfr2.symm.trans hfr
  have hf0 : (U.calling g mk a).frames = .invoking mk a :: .java g :: U.frames.tail := State.frames_calling h.top g mk a
  have hcode' : (U.calling g mk a).code? g.method = some c := by
    have := h.code
    rw [State.code?_eq] at this ⊢
    simpa [State.calling, State.pushFrame, State.setFrames] using this
  have hroom : (U.calling g mk a).hasRoom e.platform R0 = true := X.room_calling (g := g) (R' := R0) hsize hmY hcY hframes (by rw [hlY]; omega) (by rw [hR0.1]; exact hp1) (by rw [hR0.2]; exact hp2)
  have hhears : (U.calling g mk a).hears mk (.java g :: U.frames.tail) = true := by simp [State.hears, hcode', hdg, Except.toOption]
  have hcur := State.cur_lt_of_frames hf0
  obtain ⟨t0, ht0, -⟩ := State.frames_cons hf0
  have hf1 : ((U.calling g mk a).setFrames (.java (entryFrame mk a maxL) :: .java g :: U.frames.tail)).frames = .java (entryFrame mk a maxL) :: .java g :: U.frames.tail := State.frames_setFrames _ hcur
  have ht1 := State.topJava?_of_frames hf1
  have hnC : (U.calling g mk a).methodNamed? y = some mk := hn
  have hmC : (U.calling g mk a).vm.method? mk = some methY := hmY
  have hplain : ((U.calling g mk a).setFrames (.java (entryFrame mk a maxL) :: .java g :: U.frames.tail)).plainMethod mk := State.plainMethod.of_named (s := U.calling g mk a) (plainFor_of_name hy) hnC hmC
  have hAt : At ((U.calling g mk a).setFrames (.java (entryFrame mk a maxL) :: .java g :: U.frames.tail)) mk cY (.java g :: U.frames.tail) :=
    ⟨by rw [ht1]; rfl, ⟨[], by rw [hf1]; rfl⟩, h.running, by simpa [State.calling] using h.runnable, by simpa [State.calling] using h.alone,
      by rw [State.code?_eq]; show ((U.calling g mk a).vm.method? mk).bind _ = _; rw [hmC]; exact hcY, hplain⟩
  have Y : Stand p l e R0 (U.calling g mk a) mk a (.java g :: U.frames.tail) methY cY ((U.calling g mk a).setFrames (.java (entryFrame mk a maxL) :: .java g :: U.frames.tail)) [] 0 0 := by
    refine ⟨X.admits, X.cas, X.clock, hf0, hroom, hhears, hmC, hcY, hAt, by rw [hf1]; rfl, State.WarmedH.refl _, by rw [State.stackLimits_setFrames], by rw [State.stackBytes_setFrames], ?_⟩
    exact (State.sameButNew.refl _ ht0).setFrames _ hcur
  obtain ⟨s₂, hst, o, hrun, hend, hq, L, hfe, hL⟩ := walk mk a (U.calling g mk a) (.java g :: U.frames.tail) methY cY X.warmed (hblind _ _ _ _ hp3) hbY hlY hrY hkY hnC ((U.calling g mk a).setFrames (.java (entryFrame mk a maxL) :: .java g :: U.frames.tail)) rfl Y
  have hfull := X.notFull (g := g) hsize (vars := cY.maxLocals) (by omega) (by rw [hlY]; omega)
  have hgo : (doInvoke e (U.setTop g) [] mk a).1 = ((U.calling g mk a).setFrames (.java (entryFrame mk a maxL) :: .java g :: U.frames.tail)).setTop (entryFrame mk a maxL) := by
    rw [(doInvoke_java (s := U.setTop g) (e := e) (meth := methY) (code := cY) hmY hcY hkY hfull).1, State.setTop_self ht1]
    show (U.setTop g).setFrames (_ :: (U.setTop g).frames) = ((U.setTop g).setFrames _).setFrames _
    rw [State.setFrames_setFrames, hfr2, hlY]
    rfl
  have hsteps : Steps p.tables e below (doInvoke e (U.setTop g) [] mk a).1 s₂ := by
    rw [hgo]
    obtain ⟨n, hn1, hw⟩ := hst
    refine ⟨n, hn1, fun k hk => ?_⟩
    have := hw k hk
    generalize stepsAlone p.tables e k (((U.calling g mk a).setFrames (.java (entryFrame mk a maxL) :: .java g :: U.frames.tail)).setTop (entryFrame mk a maxL)) = X at this ⊢
    rw [hbel] at this
    exact this.weaken
  obtain ⟨⟨v, rfl⟩, hW₂, e2, q2, q3, q4, q5, q6⟩ := id hfe
  have e3 : s₂ = ({ (U.calling g mk a).setFrames s₂.frames with heap := s₂.heap, slotsUsed := s₂.slotsUsed } : State).setVm s₂.vm := by
    have : s₂ = ({ s₂ with vm := (U.calling g mk a).vm } : State).setVm s₂.vm := rfl
    rw [e2] at this
    exact this
  obtain ⟨c₂, i₂, len₂, hc₂, hd₂, hf₂⟩ := hend
  have hW' : U.WarmedH s₂.vm := hW₂
  have hcc : c₂ = c := by
    have h1 : s₂.code? g.method = U.code? g.method := by
      rw [State.code?_eq, State.code?_eq, hW'.alike.method?]
    exact Option.some.inj (hc₂.symm.trans (h1.trans h.code))
  subst hcc
  have hlen : len₂ = 3 := by rw [hdg] at hd₂; cases hd₂; rfl
  subst hlen
  obtain ⟨g₀, hg0⟩ := Option.isSome_iff_exists.mp h.top
  obtain ⟨r, hr⟩ := State.topJava?_eq_some.mp hg0
  have hs₂ : s₂ = (({ U with heap := s₂.heap, slotsUsed := s₂.slotsUsed } : State).setVm s₂.vm).setTop { g with pc := g.pc + 3, stack := v.toList ++ g.stack } := by
    have hr' : (({ U with heap := s₂.heap, slotsUsed := s₂.slotsUsed } : State).setVm s₂.vm).frames = .java g₀ :: r := hr
    refine e3.trans ?_
    rw [hf₂, State.calling_eq h.top, State.setFrames_setFrames, State.setTop_of_frames _ hr', hr]
    rfl
  have hsame : U.sameButNew ({ U with heap := s₂.heap, slotsUsed := s₂.slotsUsed } : State) L 0 0 := by
    refine ⟨?_, q2, q3, q4, q5, q6⟩
    obtain ⟨t, ht, -⟩ := State.frames_cons hr
    show ({ U with heap := s₂.heap, slotsUsed := s₂.slotsUsed } : State) = { U.setFrames U.frames with heap := s₂.heap, slotsUsed := s₂.slotsUsed }
    rw [State.setFrames_self ht]
  subst hg
  refine ⟨v, ⟨(({ U with heap := s₂.heap, slotsUsed := s₂.slotsUsed } : State).setVm s₂.vm), Ls ++ L, c0 + 0, s0 + 0⟩,
    ⟨X.admits, X.cas, X.clock, X.frames, X.room, X.hears, X.method, X.code, (X.here.setHeapUsed s₂.heap s₂.slotsUsed).setVm hW'.alike, X.tail, State.WarmedH.trans X.warmed hW', X.limits, X.bytes, X.same.trans (hsame.setVm s.vm)⟩,
    ⟨g, mk, s₂, L, rfl, rfl, hq, rfl, hL, rfl, rfl⟩, ?_⟩
  show Steps p.tables e below _ ((({ U with heap := s₂.heap, slotsUsed := s₂.slotsUsed } : State).setVm s₂.vm).setTop { g with pc := g.pc + 3, stack := v.toList ++ g.stack })
  rw [← hs₂]
  exact hsteps
end OI
section OI2
variable {G : xG} {p : Program} {l : Launch} {e : Env} {R : Room} {s : State} {m : MethodId} {args : Array Value} {below : List Frame} {meth : Method} {c : Code} {nL : Nat} {Q : State → Prop} {k n : Nat} {ta : Nat × Nat} {M M' : xM} {pc : Nat} {lv : List (Nat × Value)} {st rest : List Value} {cc : ByteArray} {Ts : List Cond} {own : String}
set_option maxHeartbeats 2000000 in
theorem x_ordinal (C : xC G p s m args c cc nL Ts own) {i index : Nat} (hi : i < 10) (h1 : Cond.methodLink own index ⟨"WaitingRoomSimulation$Command", "ordinal", "()I"⟩ ∈ Ts) (h2 : Cond.sameMethod "WaitingRoomSimulation$Command" "java/lang/Enum" "ordinal" "()I" ∈ Ts) (h3 : Cond.selects RX1 ⟨"WaitingRoomSimulation$Command", "ordinal", "()I"⟩ yJx29ce0_ordinal_8abf5 ∈ Ts) (h4 : Cond.instanceMethod yJx29ce0_ordinal_8abf5 ∈ Ts)
    (h5 : Cond.code yJx29ce0_ordinal_8abf5 cJx29ce0_ordinal_8abf5 1 (some .int) ∈ Ts) (h6 : Cond.fieldLink RJx29ce0 7 "java/lang/Enum" "ordinal" "I" ∈ Ts) (hR : 1 ≤ R.frames ∧ 30 ≤ R.locals) (hf : k ≤ R.cells ∧ n ≤ R.slots) (hW : (rest.map fun v => v.category).sum ≤ 8)
    (hdg : decode cc pc = .ok (.invokevirtual index, 3)) (kk : xW G p l e R s m args below meth c nL Q k n ta M (pc + 3) lv (.int (Int32.ofNat i) :: rest)) : xW G p l e R s m args below meth c nL Q k n ta M pc lv (.ref (xcm G i) :: rest) := by
  intro H locs ls g1 g2 g3 T hT X
  have w : ∀ q ∈ Ts, q.before args s = true := C.1.2.2.2.2
  have hK : Back l R p e below s args yJx29ce0_ordinal_8abf5 3 8 (PreOf R 0 0 (xPc G ta M [.ref (xcm G i)])) (PostOf (xQrT G ta (some (.int (Int32.ofNat i))) M) 0 0 (xAs G)) := by
    refine oi_back (bytes := cJx29ce0_ordinal_8abf5) (maxL := 1) (ret := some .int) (R0 := { frames := 0, cells := 0, slots := 0, locals := 0 }) (by decide) xPc_blind ⟨rfl, rfl⟩ (show 0 + 1 ≤ R.frames from hR.1) (show 8 + (1 + 11) + 0 ≤ R.locals from Nat.le_trans (by decide) hR.2) (fun a' U hU => word_at hU (Or.inl rfl) (w _ h5)) ?_
    intro mk a s0 below0 meth0 c1 hw0 hp0 hb hml hr hlk hn
    obtain ⟨rfl, hK0, hH0⟩ := hp0
    have hl := lv_entry [.ref (xcm G i)] (n := 1) (Nat.le_of_ble_eq_true rfl)
    rw [lg_entry_eq]
    have hOF := (hK0.2.2.2.2.2.2.2.2.2.2.2.2.2.1 i hi).2.1
    refine lv_aload_n (p := p) C.1.1 hb dJx29ce0_ordinal_8abf5_0 rfl (lv_at hl 0 rfl) ?_
    refine vk_getf (A := xAs G) C.1.1 hb hOF va_S.rf (findClass_of_methodNamed hn) (word_at (a' := _) hw0 (Or.inl rfl) (w _ h6)) (fun _ h => h) dJx29ce0_ordinal_8abf5_1 ?_
    exact W.iret C.1.1 hb hr (fun t ht hW => ⟨⟨rfl, by rw [ht]; exact hH0⟩, va_S.rf.F ht⟩) (fun q hq => nomatch hq) dJx29ce0_ordinal_8abf5_4 hlk
  obtain ⟨cellB, hcB, hoB, hclB⟩ := xRv_c C hi H locs g1 g2
  obtain ⟨v, vm₁, ⟨U', l2, c2, s2⟩, hW₁, X', ⟨g', mk, t, L, e1, e2, hq, q1, hL, q2, q3⟩, st⟩ := va_callVU X C.1.1 (C := RX1) (owner := RJx29ce0) (bytes := cJx29ce0_ordinal_8abf5) (maxL := 1) (ret := some .int) C.1.2.2.2.1 (w _ h1) (w _ h2) (va_Decl.of (w _ h4) (w _ h5)) (by decide) (w _ h3) (w _ h4) (w _ h5) hK (by rw [hT]; exact hcB) hoB hclB (g := F0 m pc ls (.ref (xcm G i) :: rest)) rfl (g3.1.trans C.1.2.2.1.symm) (argsL := []) (rest := rest) (fun sig h => by
    have h9 : parseMethodDescriptor "()I" = some ⟨[], some .int⟩ := by decide +kernel
    rw [show (⟨"WaitingRoomSimulation$Command", "ordinal", "()I"⟩ : MethodName).desc = "()I" from rfl, h9] at h
    rw [← Option.some.inj h]
    rfl) rfl (lv_room hW) (by rw [C.1.2.1]; exact hdg) (fun vm₁ hW₁ => ⟨hf.1, hf.2, ⟨rfl, xK_to C.2 g2 (U := T.setVm vm₁) hT hW₁, by show xH G ta M T.heap; rw [hT]; exact g1⟩⟩)
  dsimp only [Pt.U, Pt.locs, Pt.cells, Pt.slots] at X' e1 e2 q1 q2 q3 st
  subst q1; subst q2; subst q3
  obtain ⟨⟨hv, hb⟩, hz, hk⟩ := hq
  cases hv
  have hz : H.size ≤ t.heap.size := by rw [← hT]; exact hz
  have hk : ∀ q : Nat, q < H.size → ¬ xAs G q → t.heap[q]? = H[q]? := by rw [← hT]; exact hk
  obtain ⟨t2, a1, b1⟩ := kk U'.heap (locs ++ L) ls (by rw [e1]; exact hb) ⟨Nat.le_trans g2.1 (by rw [e1]; exact hz), fun q z1 z2 => by rw [e1, hk q (Nat.lt_of_lt_of_le z1 g2.1) z2]; exact g2.2.1 q z1 z2, fun q hq => by
      rcases List.mem_append.mp hq with h | h
      · exact g2.2.2 q h
      · exact hL q h⟩ g3 U' rfl X'
  exact ⟨t2, st t2 a1, b1⟩
end OI2
