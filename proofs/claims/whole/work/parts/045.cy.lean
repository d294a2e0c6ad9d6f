/-! a static call that reads nothing: the model's place of a window, in its constructor -/
abbrev rm_wat : Room := { frames := 0, cells := 0, slots := 0, locals := 0 }
theorem t_wat {l : Launch} {a : Int32} : Met l yX7_windowAt wsX7_windowAt rm_wat (va_Pc [.int a] (fun _ => True)) (va_Qi (fun (r : Int32) (_ : Unit) => r = (12 : Int32) + (5 : Int32) * a) (fun _ _ => True) (fun _ => False)) 0 0 (fun _ => False) := by
  refine Met.ofW (cc := cX7_windowAt) (maxL := 1) (ret := some .int) (by decide) rfl ?_
  intro p e s m args below meth c s₁ B hml hv
  obtain ⟨rfl, -⟩ := hv
  have hx := B.exec
  have hb := B.bytes
  have hl := lv_entry [.int a] (n := 1) (Nat.le_of_ble_eq_true rfl)
  rw [lg_entry_eq]
  generalize (lg_sl ([.int a] : List Value) ++ List.replicate (1 - (lg_sl ([.int a] : List Value)).length) Slot.unset).toArray = ls at hl ⊢
  have hl : lv_has ls 1 [(0, .int a)] := hl
  refine lv_bipush (v := 12) hx hb dX7_windowAt_0 (by decide) ?_
  refine lv_iconst (v := 5) hx hb dX7_windowAt_2 (by decide) ?_
  refine lv_iload_n hx hb dX7_windowAt_3 rfl (lv_at hl 0 rfl) ?_
  refine lv_imul hx hb dX7_windowAt_4 ?_
  refine lv_iadd hx hb dX7_windowAt_5 ?_
  exact W.iret hx hb B.returns (fun t ht hW => ⟨⟨_, (), rfl, rfl, trivial⟩, by rw [ht]; exact Nat.le_refl _, fun q _ _ => by rw [ht]⟩) (fun q hq => by cases hq) dX7_windowAt_6 B.notSynchronized
section CWW
variable {G : xG} {p : Program} {l : Launch} {e : Env} {R : Room} {s : State} {m : MethodId} {args : Array Value} {below : List Frame} {meth : Method} {c : Code} {nL : Nat} {Q : State → Prop} {A : Nat → Prop} {k n : Nat} {ws st' : va_W} {pc : Nat} {lv : List (Nat × Value)} {st rest : List Value} {cc : ByteArray} {Ts : List Cond} {own : String}
theorem cw_wat (C : cwC G p s m args meth c cc nL Ts own A) {a r : Int32} {index : Nat} (hG : GoodIn Ts (va_wsS own index yX7_windowAt wsX7_windowAt)) (hR : 1 ≤ R.frames ∧ 20 ≤ R.locals) (hW : (rest.map fun v => v.category).sum ≤ 8) (hr : (12 : Int32) + (5 : Int32) * a = r) (hdg : decode cc pc = .ok (.invokestatic index, 3)) (hf : k + 0 ≤ R.cells ∧ n + 0 ≤ R.slots)
    (kk : cw G p l e R s m args below meth c nL Q A k n ws (pc + 3) lv (.int r :: rest)) : cw G p l e R s m args below meth c nL Q A k n ws pc lv (.int a :: rest) := by
  intro H locs ls h1 h2 h3 h4
  refine va_calli (va_runS (As := [.int a]) (rest := rest) C.1 (t_wat (l := l) (a := a)) (va_cwS 1 C.1.2.2.2.2 hG rfl rfl rfl (by decide +kernel) ⟨show 0 + 1 ≤ R.frames from hR.1, show 8 + (1 + 11) + 0 ≤ R.locals from hR.2⟩) ⟨fun a U g mk q => q, fun U hU hW => ⟨rfl, trivial⟩⟩ rfl rfl h4.1 rfl (lv_room hW) hdg hf) h3 (fun q _ h => h.elim) (fun q h => h.elim) (fun r9 u t H1 locs1 ht hvm hp hB hz1 hk1 hS1 => ?_)
  rw [hr] at hp
  subst hp
  refine kk H1 locs1 ls (h1.kept fun i x hx => hk1 x.1 (h1 i x hx).lt (fun h => h)) h2 hS1 h4
theorem cw_iadd (C : cwC G p s m args meth c cc nL Ts own A) {x y r : Int32} (hr : x + y = r) (hdg : decode cc pc = .ok (.iadd, 1)) (kk : cw G p l e R s m args below meth c nL Q A k n ws (pc + 1) lv (.int r :: rest)) : cw G p l e R s m args below meth c nL Q A k n ws pc lv (.int y :: .int x :: rest) := by
  subst hr
  exact fun H locs ls h1 h2 h3 h4 => lv_iadd C.1.1 C.1.2.1 hdg (kk H locs ls h1 h2 h3 h4)
theorem cw_iastN (C : cwC G p s m args meth c cc nL Ts own A) (q0 j : Nat) {N a : Nat} {f : Nat → Int32} {i x : Int32} (hj : i.toNatClampNeg = j) (ha : ws[q0]? = some (a, .inl (xcy G 0, N, .inl f))) (hin : x_in i N = true) (hdg : decode cc pc = .ok (.iastore, 1))
    (kk : cw G p l e R s m args below meth c nL Q A k n (ws.set q0 (a, .inl (xcy G 0, N, .inl (upd f j x)))) (pc + 1) lv rest) : cw G p l e R s m args below meth c nL Q A k n ws pc lv (.int x :: .int i :: .ref a :: rest) :=
  cw_iast C q0 ha (x_vp hin) hdg (by rw [hj]; exact kk)
end CWW
