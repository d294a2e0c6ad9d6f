theorem x_eqr {args : Array Value} {s : State} {t u : Term} {a : Nat} (h : (Cond.eq t u).before args s = true) (hu : u.eval args s none [] s = some (.ref a)) : t.eval args s none [] s = some (.ref a) := by
  cases hv : t.eval args s none [] s with
  | none => simp [Cond.before, Cond.holds, Cond.value, hv] at h
  | some w =>
    simp only [Cond.before, Cond.holds, Cond.value, hv, hu] at h
    cases w <;> simp_all
def s_nm (i : Nat) : String := (["ADD", "OPEN", "CLOSE", "CALL", "SWAP", "SIT", "STAND", "REMOVE", "ADVANCE", "ADVANCE_ONE"] : List String).getD i ""
def s_fk (i : Nat) : Nat := ([58, 64, 67, 70, 73, 76, 79, 82, 85, 88] : List Nat).getD i 0
abbrev s_cd : String := "LWaitingRoomSimulation$Command;"
theorem s_CM {args : Array Value} {s : State} {A : Nat → Prop} (hts : ∀ w ∈ lw_tbl, w.before args s = true) (h : (Cond.and given_1 narrow_1).before args s = true) (hA : ∀ a : Nat, a < s.heap.size → ¬ A a) : ∃ (cm : Nat → Nat) (t : Nat), (∀ i, i < 10 → (Term.static RX1 (s_nm i) s_cd).eval args s none [] s = some (.ref (cm i)) ∧ va_O RX1 (cm i) A s s.heap ∧ va_OF "java/lang/Enum" "ordinal" "I" (.int (Int32.ofNat i)) (cm i) A s s.heap) ∧ va_Z RX6 "COMMANDS" "[LWaitingRoomSimulation$Command;" (.ref t) A s s.heap ∧ va_T (.object RX1) t 10 (fun j => .ref (cm j)) A s s.heap := by
  have hs := flat_of_before _ h
  have hex : ∀ i, i < 10 → Cond.exactly (.static RX1 (s_nm i) s_cd) RX1 ∈ flatC (Cond.and given_1 narrow_1) := by decide +kernel
  have hor : ∀ i, i < 10 → Cond.eq (.field (.static RX1 (s_nm i) s_cd) "java/lang/Enum" "ordinal" "I") (.int (Int32.ofNat i)) ∈ flatC (Cond.and given_1 narrow_1) := by decide +kernel
  have hel : ∀ i, i < 10 → Cond.eq (.elem (.static RX6 "COMMANDS" "[LWaitingRoomSimulation$Command;") (.int (Int32.ofNat i))) (.static RX1 (s_nm i) s_cd) ∈ flatC (Cond.and given_1 narrow_1) := by decide +kernel
  have h0 : ∀ i : Nat, ∃ t : Nat, i < 10 → (Term.static RX1 (s_nm i) s_cd).eval args s none [] s = some (.ref t) ∧ va_O RX1 t A s s.heap := by
    intro i
    by_cases hi : i < 10
    · obtain ⟨a, c, cell, k, q1, q2, q3, q4, q5, q6, -⟩ := Cond.exactly_spec (hs _ (hex i hi))
      exact ⟨a, fun _ => ⟨q1, cell, q3, q5, by rw [q6]; exact q2, hA a (Array.getElem?_eq_some_iff.mp q3).1⟩⟩
    · exact ⟨0, fun h => absurd h hi⟩
  obtain ⟨cm, hcm⟩ := Classical.axiomOfChoice h0
  obtain ⟨t, ht, hT⟩ := va_Tof (tm := .static RX6 "COMMANDS" "[LWaitingRoomSimulation$Command;") (ty := .object RX1) (N := 10) (f := fun j => .ref (cm j)) (A := A) (by decide) (hs _ (by decide +kernel)) (va_eqt (hs (.eq (.length (.static RX6 "COMMANDS" "[LWaitingRoomSimulation$Command;")) (.int 10)) (by decide +kernel))) (fun j hj => x_eqr (hs _ (hel j hj)) (hcm j hj).1) hA
  exact ⟨cm, t, fun i hi => ⟨(hcm i hi).1, (hcm i hi).2, vk_OFof (hcm i hi).1 (va_eqt (hs _ (hor i hi))) hA⟩, va_Zref (hts _ (by decide +kernel)) (hts _ (by decide +kernel)) ht hA, hT⟩
