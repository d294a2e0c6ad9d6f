/-! ===== the layer X: the system's world by codes; one judgement xW over it, one row an instruction ===== -/
/-- numbers and targets of references, by code of the cell and place; the law's two one-place rows -/
abbrev xM : Type := (Nat → Nat → Int32) × (Nat → Nat → Nat) × Int64 × UInt64
def sI (M : xM) (c k : Nat) (v : Int32) : xM := (va_up M.1 c (upd (M.1 c) k v), M.2)
def sP (M : xM) (c k : Nat) (v : Nat) : xM := (M.1, va_up M.2.1 c (va_up (M.2.1 c) k v), M.2.2)
def sJ (M : xM) (v : Int64) : xM := (M.1, M.2.1, v, M.2.2.2)
def sD (M : xM) (v : UInt64) : xM := (M.1, M.2.1, M.2.2.1, v)
/-- dC, dI, classes of arrays, the base, addresses of the cells, of the texts' cells and bytes, of the commands -/
abbrev xG : Type := (Nat → ClassId) × (Nat → Nat → Nat) × (Nat → ClassId) × Nat × (Nat → Nat) × (Nat → Nat) × (Nat → Nat) × (Nat → Nat)
abbrev xgD (G : xG) : va_G := (G.1, G.2.1)
abbrev xcy (G : xG) : Nat → ClassId := G.2.2.1
abbrev xbs (G : xG) : Nat := G.2.2.2.1
abbrev xad (G : xG) : Nat → Nat := G.2.2.2.2.1
def xk22 : List Nat := [8, 24, 6, 20, 1, 21, 1, 21, 20, 9, 20, 20, 20, 20, 20, 20, 20, 22, 20, 20, 26, 27]
def xk21 : List Nat := [5, 23, 20, 25, 20, 20, 4, 4, 4, 4, 4, 4, 4, 4, 4, 4, 4, 4, 7, 7, 7]
def xl22 : List Nat := [0, 8, 0, 3, 0, 0, 0, 0, 12, 0, 159, 159, 159, 159, 1272, 60, 160, 48, 10, 244, 1, 1]
def xl21 : List Nat := [0, 12, 12, 3, 6, 6]
/-- the kind of the cell at a code -/
def xkd (c : Nat) : Nat := if c < 22 then xk22.getD c 0 else if c < 253 then xk21.getD ((c - 22) % 21) 0 else 0
/-- how long the array at a code is -/
def xln (M : xM) (c : Nat) : Nat := if c < 22 then (if c = 5 ∨ c = 7 then M.2.1 c 1 else xl22.getD c 0) else xl21.getD ((c - 22) % 21) 0
def xA (G : xG) (ta : Nat × Nat) (c : Nat) : Nat := if c = 5 then ta.1 else if c = 7 then ta.2 else xad G c
/-- the cell at a code -/
def xce (G : xG) (ta : Nat × Nat) (f : Nat → Int32) (g : Nat → Nat) (n : Nat) (j : Int64) (d : UInt64) (c : Nat) : va_E :=
  if xkd c = 20 then .inl (xcy G 0, n, .inl f) else
  if xkd c = 5 then .inr (5, [.ref (xad G (c + 1)), .int (f 1), .ref (xad G (c + 2)), .int (f 3), .ref (xad G (c + 3)), .ref (xad G (c + 4)), .ref (xad G (c + 5)), .int (f 7), .int (f 8), .int (f 9), .int (f 10), .int (f 11), .int (f 12), .int (f 13)]) else
  if xkd c = 4 then .inr (4, [.int (f 0), .int (f 1), .int (f 2), .int (f 3), .int (f 4), .int (f 5), .int (f 6)]) else
  if xkd c = 7 then .inr (7, [.int (f 0), .int (f 1), .int (f 2), .int (f 3)]) else
  if xkd c = 8 then .inr (8, [.ref (xad G (g 0)), .ref (xad G (g 1)), .ref (xad G (g 2)), .int (f 3), .ref (xad G 1), .int (f 5), .ref (xad G 2), .int (f 7), .int (f 8), .ref (xad G 6), .ref (xad G 8)]) else
  if xkd c = 9 then .inr (9, [.ref (xad G 10), .ref (xad G 11), .ref (xad G 12), .ref (xad G 13), .int (f 4), .ref (xad G 14), .int (f 6), .int (f 7), .int (f 8), .int (f 9), .ref (xad G 15), .int (f 11), .ref (xad G 16), .int (f 13), .ref (xad G 17), .ref (xad G 18), .ref (xad G 19), .int (f 17), .int (f 18), .int (f 19), .int (f 20)]) else
  if xkd c = 6 then .inr (6, [.ref (xad G 4), .ref (xad G 3), .int (f 2)]) else
  if xkd c = 1 then .inr (1, [.ref (xA G ta (c + 1)), .int (f 1), .int (f 2), .int (f 3)]) else
  if xkd c = 21 then .inl (xcy G 1, n, .inl f) else
  if xkd c = 22 then .inl (xcy G 2, n, .inl f) else
  if xkd c = 23 then .inl (xcy G 3, n, .inr (.inr (.inr (.inr fun i => some (xad G (g i)))))) else
  if xkd c = 24 then .inl (xcy G 4, n, .inr (.inr (.inr (.inr fun i => some (xad G (g i)))))) else
  if xkd c = 25 then .inl (xcy G 5, n, .inr (.inr (.inr (.inr fun i => some (xad G (c + 15 + i)))))) else
  if xkd c = 26 then .inl (xcy G 6, n, .inr (.inl fun i => if i = 0 then j else 0)) else
  .inl (xcy G 7, n, .inr (.inr (.inr (.inl fun i => if i = 0 then d else 0))))
abbrev xcM (G : xG) (ta : Nat × Nat) (M : xM) (c : Nat) : va_E := xce G ta (M.1 c) (M.2.1 c) (xln M c) M.2.2.1 M.2.2.2 c
def xwl (G : xG) (ta : Nat × Nat) (M : xM) : va_W := (List.range 253).map fun c => (xA G ta c, xcM G ta M c)
/-- the arrays' classes, as the tables have them -/
abbrev xty (G : xG) : List (ClassId × FieldType) := [(xcy G 0, .int), (xcy G 1, .byte), (xcy G 2, .char), (xcy G 3, .object RX2), (xcy G 4, .object RX3), (xcy G 5, .object RX5), (xcy G 6, .long), (xcy G 7, .double)]
abbrev xAs (G : xG) : Nat → Prop := fun q => xbs G ≤ q
/-- the world in a heap -/
def xH (G : xG) (ta : Nat × Nat) (M : xM) (H : Heap) : Prop := va_P (xgD G) vwCl (xwl G ta M) H ∧ va_D (xAs G) (xwl G ta M) ∧ xbs G ≤ H.size
/-- the texts of the class's own exceptions -/
def xTx : List (String × Nat × String) := [(RX6, 101, "there is no such customer or window"), (RX6, 108, "an argument is not allowed"), (RX6, 113, "the hall does not allow this now"), (RX6, 118, "no chair or no patience is left"), (RX6, 123, "there is no ticket to call"), (RX6, 163, "the customer is at a window"), (RX6, 168, "the customer is in the queue"), (RX6, 174, "there is no such customer"), (RX6, 179, "the queue has no such position"), (RX6, 200, "the window is closed"), (RX6, 217, "there is no such window"), (RX6, 219, "no customer is at the window"), (RX6, 230, "the customer does not come to a window in time"), (RX6, 244, "the customer has left the hall by then"), (RX6, 249, "a prediction reaches 0 to 60 minutes"), (RX6, 268, "no such served customer is remembered"), (RX6, 279, "there is no such rank"), (RX6, 292, "the hall is empty"), (RX6, 295, "no customer has been served"), (RX6, 336, "the output text has no such index"), (RX6, 342, "this character cannot be typed"), (RX6, 347, "the script buffer is full"), (RX6, 355, "the script does not have the required form"), (RX6, 360, "a command of the script failed"), (RX6, 383, "every script had the required form"), (RX6, 385, "no command of a script failed"), (RX6, 387, "there is nothing to undo"), (RX6, 392, "there is no snapshot")]
/-- words of the tables that aren't kept by themselves -/
def xNw : List Cond := [.castable "java/lang/IndexOutOfBoundsException" "java/lang/IndexOutOfBoundsException", .castable "java/lang/IllegalArgumentException" "java/lang/IllegalArgumentException", .castable "java/lang/IllegalStateException" "java/lang/IllegalStateException", .castable "java/lang/UnsupportedOperationException" "java/lang/UnsupportedOperationException", .castable "java/util/NoSuchElementException" "java/util/NoSuchElementException", .castable "java/lang/ArithmeticException" "java/lang/ArithmeticException", .declares (Bundle.initS "java/lang/RuntimeException"), .declares (Bundle.initS "java/lang/Exception"), .declares (Bundle.initS Bundle.tN), .fieldLinkNest RX4 34 RX6 "COMMANDS" "[LWaitingRoomSimulation$Command;" RX6, .classLink RL 36 "java/lang/UnsupportedOperationException", .classLink RL 13 "java/lang/IllegalArgumentException", .classLink RL 15 "java/lang/IllegalStateException", .classLink RL 21 "java/lang/IndexOutOfBoundsException", .classLink RL 30 "java/util/NoSuchElementException", .classLink RL 124 "java/lang/ArithmeticException"]
def xNc : List (String × String) := [("java/lang/IndexOutOfBoundsException", "java/lang/IllegalArgumentException"), ("java/lang/IndexOutOfBoundsException", "java/lang/IllegalStateException"), ("java/lang/IndexOutOfBoundsException", "java/lang/UnsupportedOperationException"), ("java/lang/IndexOutOfBoundsException", "java/util/NoSuchElementException"), ("java/lang/IndexOutOfBoundsException", "java/lang/ArithmeticException"), ("java/lang/IllegalArgumentException", "java/lang/IndexOutOfBoundsException"), ("java/lang/IllegalArgumentException", "java/lang/IllegalStateException"), ("java/lang/IllegalArgumentException", "java/lang/UnsupportedOperationException"), ("java/lang/IllegalArgumentException", "java/util/NoSuchElementException"), ("java/lang/IllegalArgumentException", "java/lang/ArithmeticException"), ("java/lang/IllegalStateException", "java/lang/IndexOutOfBoundsException"), ("java/lang/IllegalStateException", "java/lang/IllegalArgumentException"), ("java/lang/IllegalStateException", "java/lang/UnsupportedOperationException"), ("java/lang/IllegalStateException", "java/util/NoSuchElementException"), ("java/lang/IllegalStateException", "java/lang/ArithmeticException"), ("java/lang/UnsupportedOperationException", "java/lang/IndexOutOfBoundsException"), ("java/lang/UnsupportedOperationException", "java/lang/IllegalArgumentException"), ("java/lang/UnsupportedOperationException", "java/lang/IllegalStateException"), ("java/lang/UnsupportedOperationException", "java/util/NoSuchElementException"), ("java/lang/UnsupportedOperationException", "java/lang/ArithmeticException"), ("java/util/NoSuchElementException", "java/lang/IndexOutOfBoundsException"), ("java/util/NoSuchElementException", "java/lang/IllegalArgumentException"), ("java/util/NoSuchElementException", "java/lang/IllegalStateException"), ("java/util/NoSuchElementException", "java/lang/UnsupportedOperationException"), ("java/util/NoSuchElementException", "java/lang/ArithmeticException"), ("java/lang/ArithmeticException", "java/lang/IndexOutOfBoundsException"), ("java/lang/ArithmeticException", "java/lang/IllegalArgumentException"), ("java/lang/ArithmeticException", "java/lang/IllegalStateException"), ("java/lang/ArithmeticException", "java/lang/UnsupportedOperationException"), ("java/lang/ArithmeticException", "java/util/NoSuchElementException")]
/-- addresses of the texts of the commands, of their bytes, of the commands and of the static arrays -/
abbrev xtx (G : xG) : Nat → Nat := G.2.2.2.2.2.1
abbrev xby (G : xG) : Nat → Nat := G.2.2.2.2.2.2.1
abbrev xcm (G : xG) : Nat → Nat := G.2.2.2.2.2.2.2
def xDO (j : Nat) : Int32 := Int32.ofNat (48 + j % 10)
def xDT (j : Nat) : Int32 := Int32.ofNat (48 + j / 10)
def xFL : List Nat := [5, 10, 7, 4, 8, 5, 7, 8, 9, 7]
def xFB : List (List Int32) := [[97, 100, 100, 32, 35], [111, 112, 101, 110, 32, 37, 32, 35, 32, 37], [99, 108, 111, 115, 101, 32, 37], [99, 97, 108, 108], [115, 119, 97, 112, 32, 35, 32, 35], [115, 105, 116, 32, 35], [115, 116, 97, 110, 100, 32, 35], [114, 101, 109, 111, 118, 101, 32, 35], [97, 100, 118, 97, 110, 99, 101, 32, 35], [97, 100, 118, 97, 110, 99, 101]]
def xZs (G : xG) (U : State) (H : Heap) : Prop :=
  va_Z "java/lang/String" "COMPACT_STRINGS" "Z" (.int 1) (xAs G) U H ∧
  (va_Z "java/lang/Integer" "DigitOnes" "[B" (.ref (xcm G 10)) (xAs G) U H ∧ va_T .byte (xcm G 10) 100 (fun j => .int (xDO j)) (xAs G) U H) ∧
  (va_Z "java/lang/Integer" "DigitTens" "[B" (.ref (xcm G 11)) (xAs G) U H ∧ va_T .byte (xcm G 11) 100 (fun j => .int (xDT j)) (xAs G) U H) ∧
  va_Zq "jdk/internal/util/Preconditions" "SIOOBE_FORMATTER" "Ljava/util/function/BiFunction;" (xAs G) U H ∧
  (va_Z RX6 "COMMANDS" "[LWaitingRoomSimulation$Command;" (.ref (xcm G 12)) (xAs G) U H ∧ va_T (.object RX1) (xcm G 12) 10 (fun j => .ref (xcm G j)) (xAs G) U H) ∧
  (va_Z RX0 "$SwitchMap$WaitingRoomSimulation$Command" "[I" (.ref (xcm G 13)) (xAs G) U H ∧ va_T .int (xcm G 13) 10 (fun j => .int (Int32.ofNat (j + 1))) (xAs G) U H) ∧
  (∀ i : Nat, i < 10 → va_O RX1 (xcm G i) (xAs G) U H ∧ va_OF "java/lang/Enum" "ordinal" "I" (.int (Int32.ofNat i)) (xcm G i) (xAs G) U H ∧ va_OF RX1 "form" "Ljava/lang/String;" (.ref (xtx G i)) (xcm G i) (xAs G) U H) ∧
  vk_S 10 xFL xFB (xtx G) (xby G) (xAs G) U H
theorem xZs.moved {G : xG} {u U : State} {H : Heap} (hvm : u.vm.Alike U.vm) (h : xZs G u H) : xZs G U H := by
  obtain ⟨h1, ⟨h2, h3⟩, ⟨h4, h5⟩, h6, ⟨h7, h8⟩, ⟨h9, h10⟩, h11, h12⟩ := h
  exact ⟨va_Z.moved hvm h1, ⟨va_Z.moved hvm h2, va_T.moved hvm h3⟩, ⟨va_Z.moved hvm h4, va_T.moved hvm h5⟩, va_Zq.moved hvm h6, ⟨va_Z.moved hvm h7, va_T.moved hvm h8⟩, ⟨va_Z.moved hvm h9, va_T.moved hvm h10⟩, fun i hi => ⟨va_O.moved hvm (h11 i hi).1, va_OF.moved hvm (h11 i hi).2.1, va_OF.moved hvm (h11 i hi).2.2⟩, vk_S.moved hvm h12⟩
theorem xZs.kept {G : xG} {U : State} {H H1 : Heap} (h : xZs G U H) (hq : ∀ a : Nat, a < H.size → ¬ xAs G a → H1[a]? = H[a]?) : xZs G U H1 := by
  obtain ⟨h1, ⟨h2, h3⟩, ⟨h4, h5⟩, h6, ⟨h7, h8⟩, ⟨h9, h10⟩, h11, h12⟩ := h
  exact ⟨h1.kept hq, ⟨h2.kept hq, h3.kept hq⟩, ⟨h4.kept hq, h5.kept hq⟩, h6.kept hq, ⟨h7.kept hq, h8.kept hq⟩, ⟨h9.kept hq, h10.kept hq⟩, fun i hi => ⟨(h11 i hi).1.kept hq, (h11 i hi).2.1.kept hq, (h11 i hi).2.2.kept hq⟩, h12.kept hq⟩
/-- what isn't changed by any step: the tables, the constants -/
def xK (G : xG) (U : State) : Prop := va_K (xgD G) vwCl (xty G) U ∧ xbs G ≤ U.heap.size ∧ vx_Zq Bundle.tN "UNASSIGNED_STACK" Bundle.steD (xAs G) U U.heap ∧ vx_Zq Bundle.tN "SUPPRESSED_SENTINEL" Bundle.listD (xAs G) U U.heap ∧ (∀ w ∈ xNw, va_Nw w U) ∧ (∀ q ∈ xTx, ∃ sa, vk_R q.1 q.2.1 q.2.2 sa U) ∧ (∀ q ∈ xNc, va_Nc q.1 q.2 U) ∧ xZs G U U.heap
theorem xNw_warm {s U : State} (hW : s.WarmedH U.vm) (h : ∀ w ∈ xNw, va_Nw w s) : ∀ w ∈ xNw, va_Nw w U := by
  intro w hw
  have h1 := h w hw
  unfold xNw at hw
  simp only [List.mem_cons, List.not_mem_nil, or_false] at hw
  rcases hw with rfl | rfl | rfl | rfl | rfl | rfl | rfl | rfl | rfl | rfl | rfl | rfl | rfl | rfl | rfl | rfl <;> first | exact va_Nw.warmC hW h1 | exact va_Nw.warmD hW h1 | exact va_Nw.warmF hW h1 | exact word_at hW (Or.inl rfl) h1
theorem xNw_same {u U : State} (hv : u.vm = U.vm) (h : ∀ w ∈ xNw, va_Nw w u) : ∀ w ∈ xNw, va_Nw w U := by
  intro w hw
  have h1 := h w hw
  unfold xNw at hw
  simp only [List.mem_cons, List.not_mem_nil, or_false] at hw
  rcases hw with rfl | rfl | rfl | rfl | rfl | rfl | rfl | rfl | rfl | rfl | rfl | rfl | rfl | rfl | rfl | rfl <;> exact va_Nw.same rfl hv h1
theorem xwl_at (G : xG) (ta : Nat × Nat) (M : xM) {c : Nat} (hc : c < 253) : (xwl G ta M)[c]? = some (xA G ta c, xcM G ta M c) := by
  unfold xwl
  rw [List.getElem?_map, List.getElem?_range hc]
  rfl
theorem xwl_set (G : xG) (ta : Nat × Nat) {M M' : xM} {c : Nat} {e : va_E} (he : xcM G ta M' c = e) (ho : ∀ c', c' ≠ c → xcM G ta M' c' = xcM G ta M c') : (xwl G ta M).set c (xA G ta c, e) = xwl G ta M' := by
  apply List.ext_getElem?
  intro i
  unfold xwl
  rw [List.getElem?_set]
  by_cases hi : i < 253
  · rw [List.getElem?_map, List.getElem?_map, List.getElem?_range hi]
    by_cases h : c = i
    · subst h
      simp [hi, he]
    · simp [h, ho i (fun z => h z.symm)]
  · have h1 : (List.range 253)[i]? = none := by simp; omega
    rw [List.getElem?_map, List.getElem?_map, h1]
    by_cases h : c = i
    · subst h
      simp [hi]
    · simp [h]
theorem xcM_I {G : xG} {ta : Nat × Nat} {M : xM} {c k : Nat} {v : Int32} {c' : Nat} (h : c' ≠ c) : xcM G ta (sI M c k v) c' = xcM G ta M c' := by
  have e : (sI M c k v).1 c' = M.1 c' := if_neg h
  unfold xcM
  rw [e]
  rfl
theorem xcM_P {G : xG} {ta : Nat × Nat} {M : xM} {c k : Nat} {v : Nat} {c' : Nat} (hc : c ≠ 5 ∧ c ≠ 7) (h : c' ≠ c) : xcM G ta (sP M c k v) c' = xcM G ta M c' := by
  have e : (sP M c k v).2.1 c' = M.2.1 c' := if_neg h
  have e2 : xln (sP M c k v) c' = xln M c' := by unfold xln; rw [e]
  unfold xcM
  rw [e, e2]
  rfl
theorem xcM_J {G : xG} {ta : Nat × Nat} {M : xM} {v : Int64} {c' : Nat} (h : c' ≠ 20) (hc : c' < 253) : xcM G ta (sJ M v) c' = xcM G ta M c' := by
  have hk : xkd c' ≠ 26 := by
    unfold xkd
    by_cases h2 : c' < 22
    · rw [if_pos h2]
      have : ∀ q, q < 22 → q ≠ 20 → xk22.getD q 0 ≠ 26 := by decide
      exact this c' h2 h
    · rw [if_neg h2, if_pos hc]
      have : ∀ q, q < 21 → xk21.getD q 0 ≠ 26 := by decide
      exact this _ (Nat.mod_lt _ (by decide))
  unfold xcM xce
  simp only [if_neg hk]
  rfl
theorem xcM_D {G : xG} {ta : Nat × Nat} {M : xM} {v : UInt64} {c' : Nat} (h : c' ≠ 21) (hc : c' < 253) : xcM G ta (sD M v) c' = xcM G ta M c' := by
  by_cases h0 : xkd c' = 0
  · exfalso
    unfold xkd at h0
    by_cases h2 : c' < 22
    · rw [if_pos h2] at h0
      have : ∀ q, q < 22 → xk22.getD q 0 ≠ 0 := by decide
      exact this c' h2 h0
    · rw [if_neg h2, if_pos hc] at h0
      have : ∀ q, q < 21 → xk21.getD q 0 ≠ 0 := by decide
      exact this _ (Nat.mod_lt _ (by decide)) h0
  have hk : xkd c' ∈ [20, 5, 4, 7, 8, 9, 6, 1, 21, 22, 23, 24, 25, 26] := by
    unfold xkd
    by_cases h2 : c' < 22
    · rw [if_pos h2]
      have : ∀ q, q < 22 → q ≠ 21 → xk22.getD q 0 ∈ [20, 5, 4, 7, 8, 9, 6, 1, 21, 22, 23, 24, 25, 26] := by decide
      exact this c' h2 h
    · rw [if_neg h2, if_pos hc]
      have : ∀ q, q < 21 → xk21.getD q 0 ∈ [20, 5, 4, 7, 8, 9, 6, 1, 21, 22, 23, 24, 25, 26] := by decide
      exact this _ (Nat.mod_lt _ (by decide))
  have e : ∀ k, xkd c' = k → k ∈ [20, 5, 4, 7, 8, 9, 6, 1, 21, 22, 23, 24, 25, 26] → xcM G ta (sD M v) c' = xcM G ta M c' := by
    intro k hk2 hm
    unfold xcM xce
    simp only [List.mem_cons, List.not_mem_nil, or_false] at hm
    rcases hm with rfl | rfl | rfl | rfl | rfl | rfl | rfl | rfl | rfl | rfl | rfl | rfl | rfl | rfl | rfl <;> simp only [hk2] <;> rfl
  exact e _ rfl hk
theorem xkd_lt {c : Nat} (h : xkd c ≠ 0) : c < 253 := by
  rcases Nat.lt_or_ge c 253 with h1 | h1
  · exact h1
  · exfalso
    apply h
    unfold xkd
    rw [if_neg (by omega), if_neg (by omega)]
theorem xA_of {G : xG} {ta : Nat × Nat} {c : Nat} (h : xkd c ≠ 21) : xA G ta c = xad G c := by
  unfold xA
  rw [if_neg (fun z => h (by rw [z]; decide)), if_neg (fun z => h (by rw [z]; decide))]
section XCELL
variable {G : xG} {ta : Nat × Nat} {M : xM} {c : Nat}
theorem xc20 (h : xkd c = 20) : xcM G ta M c = .inl (xcy G 0, xln M c, .inl (M.1 c)) := by unfold xcM xce; simp only [h]; rfl
theorem xc5 (h : xkd c = 5) : xcM G ta M c = .inr (5, [.ref (xad G (c + 1)), .int (M.1 c 1), .ref (xad G (c + 2)), .int (M.1 c 3), .ref (xad G (c + 3)), .ref (xad G (c + 4)), .ref (xad G (c + 5)), .int (M.1 c 7), .int (M.1 c 8), .int (M.1 c 9), .int (M.1 c 10), .int (M.1 c 11), .int (M.1 c 12), .int (M.1 c 13)]) := by unfold xcM xce; simp only [h]; rfl
theorem xc4 (h : xkd c = 4) : xcM G ta M c = .inr (4, [.int (M.1 c 0), .int (M.1 c 1), .int (M.1 c 2), .int (M.1 c 3), .int (M.1 c 4), .int (M.1 c 5), .int (M.1 c 6)]) := by unfold xcM xce; simp only [h]; rfl
theorem xc7 (h : xkd c = 7) : xcM G ta M c = .inr (7, [.int (M.1 c 0), .int (M.1 c 1), .int (M.1 c 2), .int (M.1 c 3)]) := by unfold xcM xce; simp only [h]; rfl
theorem xc8 (h : xkd c = 8) : xcM G ta M c = .inr (8, [.ref (xad G (M.2.1 c 0)), .ref (xad G (M.2.1 c 1)), .ref (xad G (M.2.1 c 2)), .int (M.1 c 3), .ref (xad G 1), .int (M.1 c 5), .ref (xad G 2), .int (M.1 c 7), .int (M.1 c 8), .ref (xad G 6), .ref (xad G 8)]) := by unfold xcM xce; simp only [h]; rfl
theorem xc9 (h : xkd c = 9) : xcM G ta M c = .inr (9, [.ref (xad G 10), .ref (xad G 11), .ref (xad G 12), .ref (xad G 13), .int (M.1 c 4), .ref (xad G 14), .int (M.1 c 6), .int (M.1 c 7), .int (M.1 c 8), .int (M.1 c 9), .ref (xad G 15), .int (M.1 c 11), .ref (xad G 16), .int (M.1 c 13), .ref (xad G 17), .ref (xad G 18), .ref (xad G 19), .int (M.1 c 17), .int (M.1 c 18), .int (M.1 c 19), .int (M.1 c 20)]) := by unfold xcM xce; simp only [h]; rfl
theorem xc6 (h : xkd c = 6) : xcM G ta M c = .inr (6, [.ref (xad G 4), .ref (xad G 3), .int (M.1 c 2)]) := by unfold xcM xce; simp only [h]; rfl
theorem xc1 (h : xkd c = 1) : xcM G ta M c = .inr (1, [.ref (xA G ta (c + 1)), .int (M.1 c 1), .int (M.1 c 2), .int (M.1 c 3)]) := by unfold xcM xce; simp only [h]; rfl
theorem xc21 (h : xkd c = 21) : xcM G ta M c = .inl (xcy G 1, xln M c, .inl (M.1 c)) := by unfold xcM xce; simp only [h]; rfl
theorem xc22 (h : xkd c = 22) : xcM G ta M c = .inl (xcy G 2, xln M c, .inl (M.1 c)) := by unfold xcM xce; simp only [h]; rfl
theorem xc23 (h : xkd c = 23) : xcM G ta M c = .inl (xcy G 3, xln M c, .inr (.inr (.inr (.inr fun i => some (xad G (M.2.1 c i)))))) := by unfold xcM xce; simp only [h]; rfl
theorem xc24 (h : xkd c = 24) : xcM G ta M c = .inl (xcy G 4, xln M c, .inr (.inr (.inr (.inr fun i => some (xad G (M.2.1 c i)))))) := by unfold xcM xce; simp only [h]; rfl
theorem xc25 (h : xkd c = 25) : xcM G ta M c = .inl (xcy G 5, xln M c, .inr (.inr (.inr (.inr fun i => some (xad G (c + 15 + i)))))) := by unfold xcM xce; simp only [h]; rfl
theorem xc26 (h : xkd c = 26) : xcM G ta M c = .inl (xcy G 6, xln M c, .inr (.inl fun i => if i = 0 then M.2.2.1 else 0)) := by unfold xcM xce; simp only [h]; rfl
theorem xc27 (h : xkd c = 27) : xcM G ta M c = .inl (xcy G 7, xln M c, .inr (.inr (.inr (.inl fun i => if i = 0 then M.2.2.2 else 0)))) := by unfold xcM xce; simp only [h]; rfl
/-- a hall's parts -/
theorem x5_is (h : xkd c = 5) : 22 ≤ c ∧ c < 253 ∧ (c - 22) % 21 = 0 := by
  have hl := xkd_lt (c := c) (by rw [h]; decide)
  unfold xkd at h
  by_cases h2 : c < 22
  · rw [if_pos h2] at h
    have : ∀ q, q < 22 → xk22.getD q 0 ≠ 5 := by decide
    exact absurd h (this c h2)
  · rw [if_neg h2, if_pos hl] at h
    have : ∀ q, q < 21 → xk21.getD q 0 = 5 → q = 0 := by decide
    exact ⟨by omega, hl, this _ (Nat.mod_lt _ (by decide)) h⟩
theorem x5_pt (h : xkd c = 5) {r : Nat} (hr : r < 21) : xkd (c + r) = xk21.getD r 0 := by
  obtain ⟨h1, h2, h3⟩ := x5_is h
  unfold xkd
  rw [if_neg (by omega), if_pos (by omega), show (c + r - 22) % 21 = r by omega]
theorem x5_ln (h : xkd c = 5) {r : Nat} (hr : r < 21) : xln M (c + r) = xl21.getD r 0 := by
  obtain ⟨h1, h2, h3⟩ := x5_is h
  unfold xln
  rw [if_neg (by omega), show (c + r - 22) % 21 = r by omega]
end XCELL
theorem x_gd {α : Type} {c : Prop} [Decidable c] {a : Option α} {o : α} (h : (if c then a else none) = some o) : c ∧ a = some o := by
  by_cases hc : c
  · rw [if_pos hc] at h
    exact ⟨hc, h⟩
  · rw [if_neg hc] at h
    cases h
def x_in (i : Int32) (n : Nat) : Bool := decide (¬ (i < 0 ∨ n ≤ i.toNatClampNeg))
theorem x_vp {i : Int32} {n : Nat} (h : x_in i n = true) : vp_in i n := (of_decide_eq_true h : ¬ (i < 0 ∨ n ≤ i.toNatClampNeg))
def x_let {α β : Type} (a : α) (f : α → β) : β := f a
theorem x_lt {α β : Type} {a : α} {f : α → β} {r : β} (h : x_let a f = r) : ∃ b, b = a ∧ f b = r := ⟨a, rfl, h⟩
theorem x_bd {α β : Type} {a : Option α} {f : α → Option β} {r : β} (h : a.bind f = some r) : ∃ b, a = some b ∧ f b = some r := by
  cases a with
  | none => cases h
  | some b => exact ⟨b, rfl, h⟩
section XROWS
variable {G : xG} {p : Program} {l : Launch} {e : Env} {R : Room} {s : State} {m : MethodId} {args : Array Value} {below : List Frame} {meth : Method} {c : Code} {nL : Nat} {Q : State → Prop} {k n : Nat} {ta : Nat × Nat} {M : xM} {pc : Nat} {lv : List (Nat × Value)} {rest : List Value} {cc : ByteArray} {Ts : List Cond} {own : String}
/-- from this place, in any heap that holds the world M, the machine comes to Q -/
def xW (G : xG) (p : Program) (l : Launch) (e : Env) (R : Room) (s : State) (m : MethodId) (args : Array Value) (below : List Frame) (meth : Method) (c : Code) (nL : Nat) (Q : State → Prop) (k n : Nat) (ta : Nat × Nat) (M : xM) (pc : Nat) (lv : List (Nat × Value)) (st : List Value) : Prop :=
  ∀ (H : Heap) (locs : List Loc) (ls : Array Slot), xH G ta M H → va_S (xAs G) s.heap H locs → lv_has ls nL lv → W p l e R s m args below meth c H locs k n Q (F0 m pc ls st)
/-- what a method's walk has at hand -/
def xC (G : xG) (p : Program) (s : State) (m : MethodId) (args : Array Value) (c : Code) (cc : ByteArray) (nL : Nat) (Ts : List Cond) (own : String) : Prop := CallFix p m c cc nL s args Ts own ∧ xK G s
theorem x_sub {lv' : List (Nat × Value)} {st : List Value} (ks : List Nat) (hl : lv_pick lv ks = lv') (kk : xW G p l e R s m args below meth c nL Q k n ta M pc lv' st) : xW G p l e R s m args below meth c nL Q k n ta M pc lv st :=
  fun H locs ls h1 h2 h3 => kk H locs ls h1 h2 (lv_sub h3 ks hl)
theorem x_widen {st : List Value} {k' n' : Nat} (h1 : k ≤ k') (h2 : n ≤ n') (kk : xW G p l e R s m args below meth c nL Q k' n' ta M pc lv st) : xW G p l e R s m args below meth c nL Q k n ta M pc lv st :=
  fun H locs ls a b d => W.widen h1 h2 (kk H locs ls a b d)
theorem x_iconst (C : xC G p s m args c cc nL Ts own) {z : Int} {v : Int32} (hdg : decode cc pc = .ok (.iconst z, 1)) (hv : Int32.ofInt z = v) (kk : xW G p l e R s m args below meth c nL Q k n ta M (pc + 1) lv (.int v :: rest)) : xW G p l e R s m args below meth c nL Q k n ta M pc lv (rest) :=
  fun H locs ls h1 h2 h3 => lv_iconst C.1.1 C.1.2.1 hdg hv (kk H locs ls h1 h2 h3)
theorem x_bipush (C : xC G p s m args c cc nL Ts own) {z : Int} {v : Int32} (hdg : decode cc pc = .ok (.bipush z, 2)) (hv : (Int8.ofInt z).toInt32 = v) (kk : xW G p l e R s m args below meth c nL Q k n ta M (pc + 2) lv (.int v :: rest)) : xW G p l e R s m args below meth c nL Q k n ta M pc lv (rest) :=
  fun H locs ls h1 h2 h3 => lv_bipush C.1.1 C.1.2.1 hdg hv (kk H locs ls h1 h2 h3)
theorem x_sipush (C : xC G p s m args c cc nL Ts own) {z : Int} {v : Int32} (hdg : decode cc pc = .ok (.sipush z, 3)) (hv : (Int16.ofInt z).toInt32 = v) (kk : xW G p l e R s m args below meth c nL Q k n ta M (pc + 3) lv (.int v :: rest)) : xW G p l e R s m args below meth c nL Q k n ta M pc lv (rest) :=
  fun H locs ls h1 h2 h3 => lv_sipush C.1.1 C.1.2.1 hdg hv (kk H locs ls h1 h2 h3)
theorem x_lconst (C : xC G p s m args c cc nL Ts own) {z : Fin 2} {v : Int64} (hdg : decode cc pc = .ok (.lconst z, 1)) (hv : Int64.ofNat (z : Nat) = v) (kk : xW G p l e R s m args below meth c nL Q k n ta M (pc + 1) lv (.long v :: rest)) : xW G p l e R s m args below meth c nL Q k n ta M pc lv (rest) :=
  fun H locs ls h1 h2 h3 => lv_lconst C.1.1 C.1.2.1 hdg hv (kk H locs ls h1 h2 h3)
theorem x_iload_n (C : xC G p s m args c cc nL Ts own) {z : Fin 4} {x : Int32} (j : Nat) (hdg : decode cc pc = .ok (.iload_n z, 1)) (hl : lv[j]? = some (((z : Nat), .int x) : Nat × Value)) (kk : xW G p l e R s m args below meth c nL Q k n ta M (pc + 1) lv (.int x :: rest)) : xW G p l e R s m args below meth c nL Q k n ta M pc lv (rest) :=
  fun H locs ls h1 h2 h3 => lv_iload_n C.1.1 C.1.2.1 hdg rfl (lv_at h3 j hl) (kk H locs ls h1 h2 h3)
theorem x_iload (C : xC G p s m args c cc nL Ts own) {z : Nat} {x : Int32} (j : Nat) (hdg : decode cc pc = .ok (.iload z, 2)) (hl : lv[j]? = some ((z, .int x) : Nat × Value)) (kk : xW G p l e R s m args below meth c nL Q k n ta M (pc + 2) lv (.int x :: rest)) : xW G p l e R s m args below meth c nL Q k n ta M pc lv (rest) :=
  fun H locs ls h1 h2 h3 => lv_iload C.1.1 C.1.2.1 hdg (lv_at h3 j hl) (kk H locs ls h1 h2 h3)
theorem x_istore_n (C : xC G p s m args c cc nL Ts own) {z : Fin 4} {i : Nat} {x : Int32} {lv' : List (Nat × Value)} (hdg : decode cc pc = .ok (.istore_n z, 1)) (hi : (z : Nat) = i) (hn : i < nL) (hl : (i, Value.int x) :: lv.filter (fun q => !(q.1 == i) && !(q.1 + 1 == i && q.2.category == 2)) = lv') (kk : xW G p l e R s m args below meth c nL Q k n ta M (pc + 1) lv' (rest)) : xW G p l e R s m args below meth c nL Q k n ta M pc lv (.int x :: rest) :=
  fun H locs ls h1 h2 h3 => lv_istore_n C.1.1 C.1.2.1 hdg hi h3 hn hl (fun ls9 h9 => kk H locs ls9 h1 h2 h9)
theorem x_istore (C : xC G p s m args c cc nL Ts own) {i : Nat} {x : Int32} {lv' : List (Nat × Value)} (hdg : decode cc pc = .ok (.istore i, 2)) (hn : i < nL) (hl : (i, Value.int x) :: lv.filter (fun q => !(q.1 == i) && !(q.1 + 1 == i && q.2.category == 2)) = lv') (kk : xW G p l e R s m args below meth c nL Q k n ta M (pc + 2) lv' (rest)) : xW G p l e R s m args below meth c nL Q k n ta M pc lv (.int x :: rest) :=
  fun H locs ls h1 h2 h3 => lv_istore C.1.1 C.1.2.1 hdg h3 hn hl (fun ls9 h9 => kk H locs ls9 h1 h2 h9)
theorem x_aload_n (C : xC G p s m args c cc nL Ts own) {z : Fin 4} {x : Nat} (j : Nat) (hdg : decode cc pc = .ok (.aload_n z, 1)) (hl : lv[j]? = some (((z : Nat), .ref x) : Nat × Value)) (kk : xW G p l e R s m args below meth c nL Q k n ta M (pc + 1) lv (.ref x :: rest)) : xW G p l e R s m args below meth c nL Q k n ta M pc lv (rest) :=
  fun H locs ls h1 h2 h3 => lv_aload_n C.1.1 C.1.2.1 hdg rfl (lv_at h3 j hl) (kk H locs ls h1 h2 h3)
theorem x_aload (C : xC G p s m args c cc nL Ts own) {z : Nat} {x : Nat} (j : Nat) (hdg : decode cc pc = .ok (.aload z, 2)) (hl : lv[j]? = some ((z, .ref x) : Nat × Value)) (kk : xW G p l e R s m args below meth c nL Q k n ta M (pc + 2) lv (.ref x :: rest)) : xW G p l e R s m args below meth c nL Q k n ta M pc lv (rest) :=
  fun H locs ls h1 h2 h3 => lv_aload C.1.1 C.1.2.1 hdg (lv_at h3 j hl) (kk H locs ls h1 h2 h3)
theorem x_astore_n (C : xC G p s m args c cc nL Ts own) {z : Fin 4} {i : Nat} {x : Nat} {lv' : List (Nat × Value)} (hdg : decode cc pc = .ok (.astore_n z, 1)) (hi : (z : Nat) = i) (hn : i < nL) (hl : (i, Value.ref x) :: lv.filter (fun q => !(q.1 == i) && !(q.1 + 1 == i && q.2.category == 2)) = lv') (kk : xW G p l e R s m args below meth c nL Q k n ta M (pc + 1) lv' (rest)) : xW G p l e R s m args below meth c nL Q k n ta M pc lv (.ref x :: rest) :=
  fun H locs ls h1 h2 h3 => lv_astore_n C.1.1 C.1.2.1 hdg hi h3 hn hl (fun ls9 h9 => kk H locs ls9 h1 h2 h9)
theorem x_astore (C : xC G p s m args c cc nL Ts own) {i : Nat} {x : Nat} {lv' : List (Nat × Value)} (hdg : decode cc pc = .ok (.astore i, 2)) (hn : i < nL) (hl : (i, Value.ref x) :: lv.filter (fun q => !(q.1 == i) && !(q.1 + 1 == i && q.2.category == 2)) = lv') (kk : xW G p l e R s m args below meth c nL Q k n ta M (pc + 2) lv' (rest)) : xW G p l e R s m args below meth c nL Q k n ta M pc lv (.ref x :: rest) :=
  fun H locs ls h1 h2 h3 => lv_astore C.1.1 C.1.2.1 hdg h3 hn hl (fun ls9 h9 => kk H locs ls9 h1 h2 h9)
theorem x_lload_n (C : xC G p s m args c cc nL Ts own) {z : Fin 4} {x : Int64} (j : Nat) (hdg : decode cc pc = .ok (.lload_n z, 1)) (hl : lv[j]? = some (((z : Nat), .long x) : Nat × Value)) (kk : xW G p l e R s m args below meth c nL Q k n ta M (pc + 1) lv (.long x :: rest)) : xW G p l e R s m args below meth c nL Q k n ta M pc lv (rest) :=
  fun H locs ls h1 h2 h3 => lv_lload_n C.1.1 C.1.2.1 hdg rfl (lv_at h3 j hl) (kk H locs ls h1 h2 h3)
theorem x_lload (C : xC G p s m args c cc nL Ts own) {z : Nat} {x : Int64} (j : Nat) (hdg : decode cc pc = .ok (.lload z, 2)) (hl : lv[j]? = some ((z, .long x) : Nat × Value)) (kk : xW G p l e R s m args below meth c nL Q k n ta M (pc + 2) lv (.long x :: rest)) : xW G p l e R s m args below meth c nL Q k n ta M pc lv (rest) :=
  fun H locs ls h1 h2 h3 => lv_lload C.1.1 C.1.2.1 hdg (lv_at h3 j hl) (kk H locs ls h1 h2 h3)
theorem x_lstore_n (C : xC G p s m args c cc nL Ts own) {z : Fin 4} {i : Nat} {x : Int64} {lv' : List (Nat × Value)} (hdg : decode cc pc = .ok (.lstore_n z, 1)) (hi : (z : Nat) = i) (hn : i + 1 < nL) (hl : (i, Value.long x) :: lv.filter (fun q => !(q.1 == i) && (!(q.1 == i + 1) && !(q.1 + 1 == i && q.2.category == 2))) = lv') (kk : xW G p l e R s m args below meth c nL Q k n ta M (pc + 1) lv' (rest)) : xW G p l e R s m args below meth c nL Q k n ta M pc lv (.long x :: rest) :=
  fun H locs ls h1 h2 h3 => lv_lstore_n C.1.1 C.1.2.1 hdg hi h3 hn hl (fun ls9 h9 => kk H locs ls9 h1 h2 h9)
theorem x_lstore (C : xC G p s m args c cc nL Ts own) {i : Nat} {x : Int64} {lv' : List (Nat × Value)} (hdg : decode cc pc = .ok (.lstore i, 2)) (hn : i + 1 < nL) (hl : (i, Value.long x) :: lv.filter (fun q => !(q.1 == i) && (!(q.1 == i + 1) && !(q.1 + 1 == i && q.2.category == 2))) = lv') (kk : xW G p l e R s m args below meth c nL Q k n ta M (pc + 2) lv' (rest)) : xW G p l e R s m args below meth c nL Q k n ta M pc lv (.long x :: rest) :=
  fun H locs ls h1 h2 h3 => lv_lstore C.1.1 C.1.2.1 hdg h3 hn hl (fun ls9 h9 => kk H locs ls9 h1 h2 h9)
theorem x_fload_n (C : xC G p s m args c cc nL Ts own) {z : Fin 4} {x : UInt32} (j : Nat) (hdg : decode cc pc = .ok (.fload_n z, 1)) (hl : lv[j]? = some (((z : Nat), .float x) : Nat × Value)) (kk : xW G p l e R s m args below meth c nL Q k n ta M (pc + 1) lv (.float x :: rest)) : xW G p l e R s m args below meth c nL Q k n ta M pc lv (rest) :=
  fun H locs ls h1 h2 h3 => lv_fload_n C.1.1 C.1.2.1 hdg rfl (lv_at h3 j hl) (kk H locs ls h1 h2 h3)
theorem x_fload (C : xC G p s m args c cc nL Ts own) {z : Nat} {x : UInt32} (j : Nat) (hdg : decode cc pc = .ok (.fload z, 2)) (hl : lv[j]? = some ((z, .float x) : Nat × Value)) (kk : xW G p l e R s m args below meth c nL Q k n ta M (pc + 2) lv (.float x :: rest)) : xW G p l e R s m args below meth c nL Q k n ta M pc lv (rest) :=
  fun H locs ls h1 h2 h3 => lv_fload C.1.1 C.1.2.1 hdg (lv_at h3 j hl) (kk H locs ls h1 h2 h3)
theorem x_fstore_n (C : xC G p s m args c cc nL Ts own) {z : Fin 4} {i : Nat} {x : UInt32} {lv' : List (Nat × Value)} (hdg : decode cc pc = .ok (.fstore_n z, 1)) (hi : (z : Nat) = i) (hn : i < nL) (hl : (i, Value.float x) :: lv.filter (fun q => !(q.1 == i) && !(q.1 + 1 == i && q.2.category == 2)) = lv') (kk : xW G p l e R s m args below meth c nL Q k n ta M (pc + 1) lv' (rest)) : xW G p l e R s m args below meth c nL Q k n ta M pc lv (.float x :: rest) :=
  fun H locs ls h1 h2 h3 => lv_fstore_n C.1.1 C.1.2.1 hdg hi h3 hn hl (fun ls9 h9 => kk H locs ls9 h1 h2 h9)
theorem x_fstore (C : xC G p s m args c cc nL Ts own) {i : Nat} {x : UInt32} {lv' : List (Nat × Value)} (hdg : decode cc pc = .ok (.fstore i, 2)) (hn : i < nL) (hl : (i, Value.float x) :: lv.filter (fun q => !(q.1 == i) && !(q.1 + 1 == i && q.2.category == 2)) = lv') (kk : xW G p l e R s m args below meth c nL Q k n ta M (pc + 2) lv' (rest)) : xW G p l e R s m args below meth c nL Q k n ta M pc lv (.float x :: rest) :=
  fun H locs ls h1 h2 h3 => lv_fstore C.1.1 C.1.2.1 hdg h3 hn hl (fun ls9 h9 => kk H locs ls9 h1 h2 h9)
theorem x_dload_n (C : xC G p s m args c cc nL Ts own) {z : Fin 4} {x : UInt64} (j : Nat) (hdg : decode cc pc = .ok (.dload_n z, 1)) (hl : lv[j]? = some (((z : Nat), .double x) : Nat × Value)) (kk : xW G p l e R s m args below meth c nL Q k n ta M (pc + 1) lv (.double x :: rest)) : xW G p l e R s m args below meth c nL Q k n ta M pc lv (rest) :=
  fun H locs ls h1 h2 h3 => lv_dload_n C.1.1 C.1.2.1 hdg rfl (lv_at h3 j hl) (kk H locs ls h1 h2 h3)
theorem x_dload (C : xC G p s m args c cc nL Ts own) {z : Nat} {x : UInt64} (j : Nat) (hdg : decode cc pc = .ok (.dload z, 2)) (hl : lv[j]? = some ((z, .double x) : Nat × Value)) (kk : xW G p l e R s m args below meth c nL Q k n ta M (pc + 2) lv (.double x :: rest)) : xW G p l e R s m args below meth c nL Q k n ta M pc lv (rest) :=
  fun H locs ls h1 h2 h3 => lv_dload C.1.1 C.1.2.1 hdg (lv_at h3 j hl) (kk H locs ls h1 h2 h3)
theorem x_dstore_n (C : xC G p s m args c cc nL Ts own) {z : Fin 4} {i : Nat} {x : UInt64} {lv' : List (Nat × Value)} (hdg : decode cc pc = .ok (.dstore_n z, 1)) (hi : (z : Nat) = i) (hn : i + 1 < nL) (hl : (i, Value.double x) :: lv.filter (fun q => !(q.1 == i) && (!(q.1 == i + 1) && !(q.1 + 1 == i && q.2.category == 2))) = lv') (kk : xW G p l e R s m args below meth c nL Q k n ta M (pc + 1) lv' (rest)) : xW G p l e R s m args below meth c nL Q k n ta M pc lv (.double x :: rest) :=
  fun H locs ls h1 h2 h3 => lv_dstore_n C.1.1 C.1.2.1 hdg hi h3 hn hl (fun ls9 h9 => kk H locs ls9 h1 h2 h9)
theorem x_dstore (C : xC G p s m args c cc nL Ts own) {i : Nat} {x : UInt64} {lv' : List (Nat × Value)} (hdg : decode cc pc = .ok (.dstore i, 2)) (hn : i + 1 < nL) (hl : (i, Value.double x) :: lv.filter (fun q => !(q.1 == i) && (!(q.1 == i + 1) && !(q.1 + 1 == i && q.2.category == 2))) = lv') (kk : xW G p l e R s m args below meth c nL Q k n ta M (pc + 2) lv' (rest)) : xW G p l e R s m args below meth c nL Q k n ta M pc lv (.double x :: rest) :=
  fun H locs ls h1 h2 h3 => lv_dstore C.1.1 C.1.2.1 hdg h3 hn hl (fun ls9 h9 => kk H locs ls9 h1 h2 h9)
theorem x_iinc (C : xC G p s m args c cc nL Ts own) {i : Nat} {z : Int} {x v : Int32} {lv' : List (Nat × Value)} (j : Nat) (hdg : decode cc pc = .ok (.iinc i z, 3)) (hk : lv[j]? = some ((i, .int x) : Nat × Value)) (hv : x + Int32.ofInt z = v) (hn : i < nL) (hl : (i, Value.int v) :: lv.filter (fun q => !(q.1 == i) && !(q.1 + 1 == i && q.2.category == 2)) = lv') (kk : xW G p l e R s m args below meth c nL Q k n ta M (pc + 3) lv' (rest)) : xW G p l e R s m args below meth c nL Q k n ta M pc lv (rest) :=
  fun H locs ls h1 h2 h3 => lv_iinc C.1.1 C.1.2.1 hdg h3 hk hv hn hl (fun ls9 h9 => kk H locs ls9 h1 h2 h9)
theorem x_iadd (C : xC G p s m args c cc nL Ts own) {x y : Int32} (hdg : decode cc pc = .ok (.iadd, 1)) (kk : xW G p l e R s m args below meth c nL Q k n ta M (pc + 1) lv (.int (x + y) :: rest)) : xW G p l e R s m args below meth c nL Q k n ta M pc lv (.int y :: .int x :: rest) :=
  fun H locs ls h1 h2 h3 => lv_iadd C.1.1 C.1.2.1 hdg (kk H locs ls h1 h2 h3)
theorem x_isub (C : xC G p s m args c cc nL Ts own) {x y : Int32} (hdg : decode cc pc = .ok (.isub, 1)) (kk : xW G p l e R s m args below meth c nL Q k n ta M (pc + 1) lv (.int (x - y) :: rest)) : xW G p l e R s m args below meth c nL Q k n ta M pc lv (.int y :: .int x :: rest) :=
  fun H locs ls h1 h2 h3 => lv_isub C.1.1 C.1.2.1 hdg (kk H locs ls h1 h2 h3)
theorem x_imul (C : xC G p s m args c cc nL Ts own) {x y : Int32} (hdg : decode cc pc = .ok (.imul, 1)) (kk : xW G p l e R s m args below meth c nL Q k n ta M (pc + 1) lv (.int (x * y) :: rest)) : xW G p l e R s m args below meth c nL Q k n ta M pc lv (.int y :: .int x :: rest) :=
  fun H locs ls h1 h2 h3 => lv_imul C.1.1 C.1.2.1 hdg (kk H locs ls h1 h2 h3)
theorem x_iand (C : xC G p s m args c cc nL Ts own) {x y : Int32} (hdg : decode cc pc = .ok (.iand, 1)) (kk : xW G p l e R s m args below meth c nL Q k n ta M (pc + 1) lv (.int (x &&& y) :: rest)) : xW G p l e R s m args below meth c nL Q k n ta M pc lv (.int y :: .int x :: rest) :=
  fun H locs ls h1 h2 h3 => lv_iand C.1.1 C.1.2.1 hdg (kk H locs ls h1 h2 h3)
theorem x_idiv (C : xC G p s m args c cc nL Ts own) {x y : Int32} (hdg : decode cc pc = .ok (.idiv, 1)) (hne : ¬ y = 0) (kk : xW G p l e R s m args below meth c nL Q k n ta M (pc + 1) lv (.int (x / y) :: rest)) : xW G p l e R s m args below meth c nL Q k n ta M pc lv (.int y :: .int x :: rest) :=
  fun H locs ls h1 h2 h3 => lv_idiv C.1.1 C.1.2.1 hdg hne (kk H locs ls h1 h2 h3)
theorem x_irem (C : xC G p s m args c cc nL Ts own) {x y : Int32} (hdg : decode cc pc = .ok (.irem, 1)) (hne : ¬ y = 0) (kk : xW G p l e R s m args below meth c nL Q k n ta M (pc + 1) lv (.int (x - x / y * y) :: rest)) : xW G p l e R s m args below meth c nL Q k n ta M pc lv (.int y :: .int x :: rest) :=
  fun H locs ls h1 h2 h3 => lv_irem C.1.1 C.1.2.1 hdg hne (kk H locs ls h1 h2 h3)
theorem x_i2c (C : xC G p s m args c cc nL Ts own) {x v : Int32} (hdg : decode cc pc = .ok (.i2c, 1)) (hv : (x.toUInt32 % 65536).toInt32 = v) (kk : xW G p l e R s m args below meth c nL Q k n ta M (pc + 1) lv (.int v :: rest)) : xW G p l e R s m args below meth c nL Q k n ta M pc lv (.int x :: rest) :=
  fun H locs ls h1 h2 h3 => lv_i2c C.1.1 C.1.2.1 hdg hv (kk H locs ls h1 h2 h3)
theorem x_i2b (C : xC G p s m args c cc nL Ts own) {x v : Int32} (hdg : decode cc pc = .ok (.i2b, 1)) (hv : x.toInt8.toInt32 = v) (kk : xW G p l e R s m args below meth c nL Q k n ta M (pc + 1) lv (.int v :: rest)) : xW G p l e R s m args below meth c nL Q k n ta M pc lv (.int x :: rest) :=
  fun H locs ls h1 h2 h3 => lv_i2b C.1.1 C.1.2.1 hdg hv (kk H locs ls h1 h2 h3)
theorem x_i2l (C : xC G p s m args c cc nL Ts own) {x : Int32} {v : Int64} (hdg : decode cc pc = .ok (.i2l, 1)) (hv : x.toInt64 = v) (kk : xW G p l e R s m args below meth c nL Q k n ta M (pc + 1) lv (.long v :: rest)) : xW G p l e R s m args below meth c nL Q k n ta M pc lv (.int x :: rest) :=
  fun H locs ls h1 h2 h3 => lv_i2l C.1.1 C.1.2.1 hdg hv (kk H locs ls h1 h2 h3)
theorem x_ishl (C : xC G p s m args c cc nL Ts own) {x y : Int32} (hdg : decode cc pc = .ok (.ishl, 1)) (kk : xW G p l e R s m args below meth c nL Q k n ta M (pc + 1) lv (.int (x <<< (y &&& 31)) :: rest)) : xW G p l e R s m args below meth c nL Q k n ta M pc lv (.int y :: .int x :: rest) :=
  fun H locs ls h1 h2 h3 => lv_ishl C.1.1 C.1.2.1 hdg (kk H locs ls h1 h2 h3)
theorem x_ishr (C : xC G p s m args c cc nL Ts own) {x y : Int32} (hdg : decode cc pc = .ok (.ishr, 1)) (kk : xW G p l e R s m args below meth c nL Q k n ta M (pc + 1) lv (.int (x >>> (y &&& 31)) :: rest)) : xW G p l e R s m args below meth c nL Q k n ta M pc lv (.int y :: .int x :: rest) :=
  fun H locs ls h1 h2 h3 => lv_ishr C.1.1 C.1.2.1 hdg (kk H locs ls h1 h2 h3)
theorem x_ineg (C : xC G p s m args c cc nL Ts own) {x : Int32} (hdg : decode cc pc = .ok (.ineg, 1)) (kk : xW G p l e R s m args below meth c nL Q k n ta M (pc + 1) lv (.int (-x) :: rest)) : xW G p l e R s m args below meth c nL Q k n ta M pc lv (.int x :: rest) :=
  fun H locs ls h1 h2 h3 => lv_ineg C.1.1 C.1.2.1 hdg (kk H locs ls h1 h2 h3)
theorem x_lcmp (C : xC G p s m args c cc nL Ts own) {x y : Int64} (hdg : decode cc pc = .ok (.lcmp, 1)) (kk : xW G p l e R s m args below meth c nL Q k n ta M (pc + 1) lv (.int (lg_cmp x y) :: rest)) : xW G p l e R s m args below meth c nL Q k n ta M pc lv (.long y :: .long x :: rest) :=
  fun H locs ls h1 h2 h3 => W.lcmp C.1.1 C.1.2.1 hdg (kk H locs ls h1 h2 h3)
theorem x_i2d (C : xC G p s m args c cc nL Ts own) {x : Int32} (hdg : decode cc pc = .ok (.i2d, 1)) (kk : xW G p l e R s m args below meth c nL Q k n ta M (pc + 1) lv (.double (FP.i2d x) :: rest)) : xW G p l e R s m args below meth c nL Q k n ta M pc lv (.int x :: rest) :=
  fun H locs ls h1 h2 h3 => lv_i2d C.1.1 C.1.2.1 hdg (kk H locs ls h1 h2 h3)
theorem x_i2f (C : xC G p s m args c cc nL Ts own) {x : Int32} (hdg : decode cc pc = .ok (.i2f, 1)) (kk : xW G p l e R s m args below meth c nL Q k n ta M (pc + 1) lv (.float (FP.i2f x) :: rest)) : xW G p l e R s m args below meth c nL Q k n ta M pc lv (.int x :: rest) :=
  fun H locs ls h1 h2 h3 => lv_i2f C.1.1 C.1.2.1 hdg (kk H locs ls h1 h2 h3)
theorem x_f2d (C : xC G p s m args c cc nL Ts own) {x : UInt32} (hdg : decode cc pc = .ok (.f2d, 1)) (hne : vf_n64 (FP.f2d x)) (kk : xW G p l e R s m args below meth c nL Q k n ta M (pc + 1) lv (.double (FP.f2d x) :: rest)) : xW G p l e R s m args below meth c nL Q k n ta M pc lv (.float x :: rest) :=
  fun H locs ls h1 h2 h3 => lv_f2d C.1.1 C.1.2.1 hdg hne (kk H locs ls h1 h2 h3)
theorem x_ddiv (C : xC G p s m args c cc nL Ts own) {x y : UInt64} (hdg : decode cc pc = .ok (.ddiv, 1)) (hne : vf_n64 (FP.ddiv x y)) (kk : xW G p l e R s m args below meth c nL Q k n ta M (pc + 1) lv (.double (FP.ddiv x y) :: rest)) : xW G p l e R s m args below meth c nL Q k n ta M pc lv (.double y :: .double x :: rest) :=
  fun H locs ls h1 h2 h3 => lv_ddiv C.1.1 C.1.2.1 hdg hne (kk H locs ls h1 h2 h3)
theorem x_fdiv (C : xC G p s m args c cc nL Ts own) {x y : UInt32} (hdg : decode cc pc = .ok (.fdiv, 1)) (hne : vf_n32 (FP.fdiv x y)) (kk : xW G p l e R s m args below meth c nL Q k n ta M (pc + 1) lv (.float (FP.fdiv x y) :: rest)) : xW G p l e R s m args below meth c nL Q k n ta M pc lv (.float y :: .float x :: rest) :=
  fun H locs ls h1 h2 h3 => lv_fdiv C.1.1 C.1.2.1 hdg hne (kk H locs ls h1 h2 h3)
theorem x_dcmp (C : xC G p s m args c cc nL Ts own) {x y : UInt64} {op : CmpOp} (hdg : decode cc pc = .ok (.dcmp op, 1)) (kk : xW G p l e R s m args below meth c nL Q k n ta M (pc + 1) lv (.int (Op.cmpValue (FP.dcmp x y) op) :: rest)) : xW G p l e R s m args below meth c nL Q k n ta M pc lv (.double y :: .double x :: rest) :=
  fun H locs ls h1 h2 h3 => lv_dcmp C.1.1 C.1.2.1 hdg (kk H locs ls h1 h2 h3)
theorem x_fcmp (C : xC G p s m args c cc nL Ts own) {x y : UInt32} {op : CmpOp} (hdg : decode cc pc = .ok (.fcmp op, 1)) (kk : xW G p l e R s m args below meth c nL Q k n ta M (pc + 1) lv (.int (Op.cmpValue (FP.fcmp x y) op) :: rest)) : xW G p l e R s m args below meth c nL Q k n ta M pc lv (.float y :: .float x :: rest) :=
  fun H locs ls h1 h2 h3 => lv_fcmp C.1.1 C.1.2.1 hdg (kk H locs ls h1 h2 h3)
theorem x_fconst0 (C : xC G p s m args c cc nL Ts own)  (hdg : decode cc pc = .ok (.fconst 0, 1)) (kk : xW G p l e R s m args below meth c nL Q k n ta M (pc + 1) lv (.float 0 :: rest)) : xW G p l e R s m args below meth c nL Q k n ta M pc lv (rest) :=
  fun H locs ls h1 h2 h3 => lv_fconst0 C.1.1 C.1.2.1 hdg (kk H locs ls h1 h2 h3)
theorem x_dconst0 (C : xC G p s m args c cc nL Ts own)  (hdg : decode cc pc = .ok (.dconst 0, 1)) (kk : xW G p l e R s m args below meth c nL Q k n ta M (pc + 1) lv (.double 0 :: rest)) : xW G p l e R s m args below meth c nL Q k n ta M pc lv (rest) :=
  fun H locs ls h1 h2 h3 => lv_dconst0 C.1.1 C.1.2.1 hdg (kk H locs ls h1 h2 h3)
theorem x_ldc (C : xC G p s m args c cc nL Ts own) {index : Nat} {v : Int32} (hconst : (Jvm.Cond.constant own index v) ∈ Ts) (hdg : decode cc pc = .ok (.ldc index, 2)) (kk : xW G p l e R s m args below meth c nL Q k n ta M (pc + 2) lv (.int v :: rest)) : xW G p l e R s m args below meth c nL Q k n ta M pc lv (rest) :=
  fun H locs ls h1 h2 h3 => lv_ldc C.1.1 C.1.2.1 C.1.2.2.2.1 (C.1.2.2.2.2 _ hconst) hdg (kk H locs ls h1 h2 h3)
theorem x_ldc2 (C : xC G p s m args c cc nL Ts own) {index : Nat} {v : Int64} (hconst : (Jvm.Cond.constantLong own index v) ∈ Ts) (hdg : decode cc pc = .ok (.ldc2_w index, 3)) (kk : xW G p l e R s m args below meth c nL Q k n ta M (pc + 3) lv (.long v :: rest)) : xW G p l e R s m args below meth c nL Q k n ta M pc lv (rest) :=
  fun H locs ls h1 h2 h3 => lv_ldc2 C.1.1 C.1.2.1 C.1.2.2.2.1 (C.1.2.2.2.2 _ hconst) hdg (kk H locs ls h1 h2 h3)
theorem x_null (C : xC G p s m args c cc nL Ts own)  (hdg : decode cc pc = .ok (.aconst_null, 1)) (kk : xW G p l e R s m args below meth c nL Q k n ta M (pc + 1) lv (.null :: rest)) : xW G p l e R s m args below meth c nL Q k n ta M pc lv (rest) :=
  fun H locs ls h1 h2 h3 => lv_null C.1.1 C.1.2.1 hdg (kk H locs ls h1 h2 h3)
theorem x_dup (C : xC G p s m args c cc nL Ts own) {va : Value} (hdg : decode cc pc = .ok (.dup, 1)) (hva : va.category = 1) (kk : xW G p l e R s m args below meth c nL Q k n ta M (pc + 1) lv (va :: va :: rest)) : xW G p l e R s m args below meth c nL Q k n ta M pc lv (va :: rest) :=
  fun H locs ls h1 h2 h3 => lv_dup C.1.1 C.1.2.1 hdg hva (kk H locs ls h1 h2 h3)
theorem x_pop (C : xC G p s m args c cc nL Ts own) {va : Value} (hdg : decode cc pc = .ok (.pop, 1)) (hva : va.category = 1) (kk : xW G p l e R s m args below meth c nL Q k n ta M (pc + 1) lv (rest)) : xW G p l e R s m args below meth c nL Q k n ta M pc lv (va :: rest) :=
  fun H locs ls h1 h2 h3 => lv_pop C.1.1 C.1.2.1 hdg hva (kk H locs ls h1 h2 h3)
theorem x_dup_x1 (C : xC G p s m args c cc nL Ts own) {va vb : Value} (hdg : decode cc pc = .ok (.dup_x1, 1)) (hva : va.category = 1) (hvb : vb.category = 1) (kk : xW G p l e R s m args below meth c nL Q k n ta M (pc + 1) lv (va :: vb :: va :: rest)) : xW G p l e R s m args below meth c nL Q k n ta M pc lv (va :: vb :: rest) :=
  fun H locs ls h1 h2 h3 => lv_dup_x1 C.1.1 C.1.2.1 hdg hva hvb (kk H locs ls h1 h2 h3)
theorem x_dup2 (C : xC G p s m args c cc nL Ts own) {va vb : Value} (hdg : decode cc pc = .ok (.dup2, 1)) (hva : va.category = 1) (hvb : vb.category = 1) (kk : xW G p l e R s m args below meth c nL Q k n ta M (pc + 1) lv (va :: vb :: va :: vb :: rest)) : xW G p l e R s m args below meth c nL Q k n ta M pc lv (va :: vb :: rest) :=
  fun H locs ls h1 h2 h3 => lv_dup2_11 C.1.1 C.1.2.1 hdg hva hvb (kk H locs ls h1 h2 h3)
theorem x_goto (C : xC G p s m args c cc nL Ts own) {off : Int} (tgt : Nat) (hdg : decode cc pc = .ok (.goto off, 3)) (ht : (pc : Int) + off = (tgt : Int)) (kk : xW G p l e R s m args below meth c nL Q k n ta M (tgt) lv (rest)) : xW G p l e R s m args below meth c nL Q k n ta M pc lv (rest) :=
  fun H locs ls h1 h2 h3 => lv_goto C.1.1 C.1.2.1 hdg ht (kk H locs ls h1 h2 h3)
theorem x_tableIn (C : xC G p s m args c cc nL Ts own) {dflt lo hi off : Int} {offs : Array Int} {len : Nat} {x : Int32} (tgt : Nat) (hdg : decode cc pc = .ok (.tableswitch dflt lo hi offs, len)) (g1 : ¬ x.toInt < lo) (g2 : ¬ hi < x.toInt) (ho : offs[(x.toInt - lo).toNat]? = some off) (ht : (pc : Int) + off = (tgt : Int)) (kk : xW G p l e R s m args below meth c nL Q k n ta M (tgt) lv (rest)) : xW G p l e R s m args below meth c nL Q k n ta M pc lv (.int x :: rest) :=
  fun H locs ls h1 h2 h3 => lv_tableIn C.1.1 C.1.2.1 hdg g1 g2 ho ht (kk H locs ls h1 h2 h3)
theorem x_tableOut (C : xC G p s m args c cc nL Ts own) {dflt lo hi : Int} {offs : Array Int} {len : Nat} {x : Int32} (tgt : Nat) (hdg : decode cc pc = .ok (.tableswitch dflt lo hi offs, len)) (g1 : x.toInt < lo ∨ hi < x.toInt) (ht : (pc : Int) + dflt = (tgt : Int)) (kk : xW G p l e R s m args below meth c nL Q k n ta M (tgt) lv (rest)) : xW G p l e R s m args below meth c nL Q k n ta M pc lv (.int x :: rest) :=
  fun H locs ls h1 h2 h3 => lv_tableOut C.1.1 C.1.2.1 hdg g1 ht (kk H locs ls h1 h2 h3)
theorem x_lookup (C : xC G p s m args c cc nL Ts own) {dflt off : Int} {ps : Array (Int × Int)} {len : Nat} {x : Int32} (tgt : Nat) (hdg : decode cc pc = .ok (.lookupswitch dflt ps, len)) (hp : (ps.toList.zip (ps.toList.drop 1)).all (fun (a, next) => a.1 < next.1) = true) (ho : Op.lookupswitch.offset ps.toList dflt x.toInt = off) (ht : (pc : Int) + off = (tgt : Int)) (kk : xW G p l e R s m args below meth c nL Q k n ta M (tgt) lv (rest)) : xW G p l e R s m args below meth c nL Q k n ta M pc lv (.int x :: rest) :=
  fun H locs ls h1 h2 h3 => lv_lookup C.1.1 C.1.2.1 hdg hp ho ht (kk H locs ls h1 h2 h3)
theorem x_if_eq (C : xC G p s m args c cc nL Ts own) {x : Int32} {off : Int} (tgt : Nat) (hdg : decode cc pc = .ok (.ifCond .eq off, 3)) (ht : (pc : Int) + off = (tgt : Int)) (kt : x = 0 → xW G p l e R s m args below meth c nL Q k n ta M tgt lv rest) (kf : ¬ x = 0 → xW G p l e R s m args below meth c nL Q k n ta M (pc + 3) lv rest) : xW G p l e R s m args below meth c nL Q k n ta M pc lv (.int x :: rest) :=
  fun H locs ls h1 h2 h3 => lv_if_eq C.1.1 C.1.2.1 hdg ht (fun z => kt z H locs ls h1 h2 h3) (fun z => kf z H locs ls h1 h2 h3)
theorem x_if_ne (C : xC G p s m args c cc nL Ts own) {x : Int32} {off : Int} (tgt : Nat) (hdg : decode cc pc = .ok (.ifCond .ne off, 3)) (ht : (pc : Int) + off = (tgt : Int)) (kt : ¬ x = 0 → xW G p l e R s m args below meth c nL Q k n ta M tgt lv rest) (kf : x = 0 → xW G p l e R s m args below meth c nL Q k n ta M (pc + 3) lv rest) : xW G p l e R s m args below meth c nL Q k n ta M pc lv (.int x :: rest) :=
  fun H locs ls h1 h2 h3 => lv_if_ne C.1.1 C.1.2.1 hdg ht (fun z => kt z H locs ls h1 h2 h3) (fun z => kf z H locs ls h1 h2 h3)
theorem x_if_lt (C : xC G p s m args c cc nL Ts own) {x : Int32} {off : Int} (tgt : Nat) (hdg : decode cc pc = .ok (.ifCond .lt off, 3)) (ht : (pc : Int) + off = (tgt : Int)) (kt : x < 0 → xW G p l e R s m args below meth c nL Q k n ta M tgt lv rest) (kf : ¬ x < 0 → xW G p l e R s m args below meth c nL Q k n ta M (pc + 3) lv rest) : xW G p l e R s m args below meth c nL Q k n ta M pc lv (.int x :: rest) :=
  fun H locs ls h1 h2 h3 => lv_if_lt C.1.1 C.1.2.1 hdg ht (fun z => kt z H locs ls h1 h2 h3) (fun z => kf z H locs ls h1 h2 h3)
theorem x_if_ge (C : xC G p s m args c cc nL Ts own) {x : Int32} {off : Int} (tgt : Nat) (hdg : decode cc pc = .ok (.ifCond .ge off, 3)) (ht : (pc : Int) + off = (tgt : Int)) (kt : 0 ≤ x → xW G p l e R s m args below meth c nL Q k n ta M tgt lv rest) (kf : ¬ 0 ≤ x → xW G p l e R s m args below meth c nL Q k n ta M (pc + 3) lv rest) : xW G p l e R s m args below meth c nL Q k n ta M pc lv (.int x :: rest) :=
  fun H locs ls h1 h2 h3 => lv_if_ge C.1.1 C.1.2.1 hdg ht (fun z => kt z H locs ls h1 h2 h3) (fun z => kf z H locs ls h1 h2 h3)
theorem x_if_gt (C : xC G p s m args c cc nL Ts own) {x : Int32} {off : Int} (tgt : Nat) (hdg : decode cc pc = .ok (.ifCond .gt off, 3)) (ht : (pc : Int) + off = (tgt : Int)) (kt : 0 < x → xW G p l e R s m args below meth c nL Q k n ta M tgt lv rest) (kf : ¬ 0 < x → xW G p l e R s m args below meth c nL Q k n ta M (pc + 3) lv rest) : xW G p l e R s m args below meth c nL Q k n ta M pc lv (.int x :: rest) :=
  fun H locs ls h1 h2 h3 => lv_if_gt C.1.1 C.1.2.1 hdg ht (fun z => kt z H locs ls h1 h2 h3) (fun z => kf z H locs ls h1 h2 h3)
theorem x_if_le (C : xC G p s m args c cc nL Ts own) {x : Int32} {off : Int} (tgt : Nat) (hdg : decode cc pc = .ok (.ifCond .le off, 3)) (ht : (pc : Int) + off = (tgt : Int)) (kt : x ≤ 0 → xW G p l e R s m args below meth c nL Q k n ta M tgt lv rest) (kf : ¬ x ≤ 0 → xW G p l e R s m args below meth c nL Q k n ta M (pc + 3) lv rest) : xW G p l e R s m args below meth c nL Q k n ta M pc lv (.int x :: rest) :=
  fun H locs ls h1 h2 h3 => lv_if_le C.1.1 C.1.2.1 hdg ht (fun z => kt z H locs ls h1 h2 h3) (fun z => kf z H locs ls h1 h2 h3)
theorem x_icmp_eq (C : xC G p s m args c cc nL Ts own) {x y : Int32} {off : Int} (tgt : Nat) (hdg : decode cc pc = .ok (.if_icmp .eq off, 3)) (ht : (pc : Int) + off = (tgt : Int)) (kt : x = y → xW G p l e R s m args below meth c nL Q k n ta M tgt lv rest) (kf : ¬ x = y → xW G p l e R s m args below meth c nL Q k n ta M (pc + 3) lv rest) : xW G p l e R s m args below meth c nL Q k n ta M pc lv (.int y :: .int x :: rest) :=
  fun H locs ls h1 h2 h3 => lv_icmp_eq C.1.1 C.1.2.1 hdg ht (fun z => kt z H locs ls h1 h2 h3) (fun z => kf z H locs ls h1 h2 h3)
theorem x_icmp_ne (C : xC G p s m args c cc nL Ts own) {x y : Int32} {off : Int} (tgt : Nat) (hdg : decode cc pc = .ok (.if_icmp .ne off, 3)) (ht : (pc : Int) + off = (tgt : Int)) (kt : ¬ x = y → xW G p l e R s m args below meth c nL Q k n ta M tgt lv rest) (kf : x = y → xW G p l e R s m args below meth c nL Q k n ta M (pc + 3) lv rest) : xW G p l e R s m args below meth c nL Q k n ta M pc lv (.int y :: .int x :: rest) :=
  fun H locs ls h1 h2 h3 => lv_icmp_ne C.1.1 C.1.2.1 hdg ht (fun z => kt z H locs ls h1 h2 h3) (fun z => kf z H locs ls h1 h2 h3)
theorem x_icmp_lt (C : xC G p s m args c cc nL Ts own) {x y : Int32} {off : Int} (tgt : Nat) (hdg : decode cc pc = .ok (.if_icmp .lt off, 3)) (ht : (pc : Int) + off = (tgt : Int)) (kt : x < y → xW G p l e R s m args below meth c nL Q k n ta M tgt lv rest) (kf : ¬ x < y → xW G p l e R s m args below meth c nL Q k n ta M (pc + 3) lv rest) : xW G p l e R s m args below meth c nL Q k n ta M pc lv (.int y :: .int x :: rest) :=
  fun H locs ls h1 h2 h3 => lv_icmp_lt C.1.1 C.1.2.1 hdg ht (fun z => kt z H locs ls h1 h2 h3) (fun z => kf z H locs ls h1 h2 h3)
theorem x_icmp_ge (C : xC G p s m args c cc nL Ts own) {x y : Int32} {off : Int} (tgt : Nat) (hdg : decode cc pc = .ok (.if_icmp .ge off, 3)) (ht : (pc : Int) + off = (tgt : Int)) (kt : y ≤ x → xW G p l e R s m args below meth c nL Q k n ta M tgt lv rest) (kf : ¬ y ≤ x → xW G p l e R s m args below meth c nL Q k n ta M (pc + 3) lv rest) : xW G p l e R s m args below meth c nL Q k n ta M pc lv (.int y :: .int x :: rest) :=
  fun H locs ls h1 h2 h3 => lv_icmp_ge C.1.1 C.1.2.1 hdg ht (fun z => kt z H locs ls h1 h2 h3) (fun z => kf z H locs ls h1 h2 h3)
theorem x_icmp_gt (C : xC G p s m args c cc nL Ts own) {x y : Int32} {off : Int} (tgt : Nat) (hdg : decode cc pc = .ok (.if_icmp .gt off, 3)) (ht : (pc : Int) + off = (tgt : Int)) (kt : y < x → xW G p l e R s m args below meth c nL Q k n ta M tgt lv rest) (kf : ¬ y < x → xW G p l e R s m args below meth c nL Q k n ta M (pc + 3) lv rest) : xW G p l e R s m args below meth c nL Q k n ta M pc lv (.int y :: .int x :: rest) :=
  fun H locs ls h1 h2 h3 => lv_icmp_gt C.1.1 C.1.2.1 hdg ht (fun z => kt z H locs ls h1 h2 h3) (fun z => kf z H locs ls h1 h2 h3)
theorem x_icmp_le (C : xC G p s m args c cc nL Ts own) {x y : Int32} {off : Int} (tgt : Nat) (hdg : decode cc pc = .ok (.if_icmp .le off, 3)) (ht : (pc : Int) + off = (tgt : Int)) (kt : x ≤ y → xW G p l e R s m args below meth c nL Q k n ta M tgt lv rest) (kf : ¬ x ≤ y → xW G p l e R s m args below meth c nL Q k n ta M (pc + 3) lv rest) : xW G p l e R s m args below meth c nL Q k n ta M pc lv (.int y :: .int x :: rest) :=
  fun H locs ls h1 h2 h3 => lv_icmp_le C.1.1 C.1.2.1 hdg ht (fun z => kt z H locs ls h1 h2 h3) (fun z => kf z H locs ls h1 h2 h3)
/-- a cell's field -/
theorem x_get (C : xC G p s m args c cc nL Ts own) {cd ci index N j : Nat} {ref Cn : String} {T : u_T} {fs : List Value} {v : Value} (h21 : xkd cd ≠ 21) (h0 : xkd cd ≠ 0) (hce : xcM G ta M cd = .inr (ci, fs)) (hc : vwCl[ci]? = some (Cn, T, N)) (hin : ∀ w ∈ u_ws Cn T N, w ∈ Ts) (hj : j < N) (hlink : Cond.fieldLink own index ref (T j).2.1 (T j).2.2.1 ∈ Ts) (hsame : (T j).1 = ref) (hv : fs[j]? = some v) (hdg : decode cc pc = .ok (.getfield index, 3)) (kk : xW G p l e R s m args below meth c nL Q k n ta M (pc + 3) lv (v :: rest)) : xW G p l e R s m args below meth c nL Q k n ta M pc lv (.ref (xad G cd) :: rest) := fun H locs ls h1 h2 h3 => by
  have hw := xwl_at G ta M (xkd_lt h0)
  rw [hce, xA_of h21] at hw
  exact va_get C.1.1 C.1.2.1 C.1.2.2.2.2 hin C.1.2.2.2.1 C.2.1 h1.1 cd hw hc j hj (C.1.2.2.2.2 _ hlink) (fun x h => by rw [← hsame]; exact h) hv hdg (kk H locs ls h1 h2 h3)
theorem x_put (C : xC G p s m args c cc nL Ts own) {cd ci index N j : Nat} {ref Cn : String} {T : u_T} {fs fs' : List Value} {v : Value} {ty : FieldType} {M' : xM} (h21 : xkd cd ≠ 21) (h0 : xkd cd ≠ 0) (hce : xcM G ta M cd = .inr (ci, fs)) (hce' : xcM G ta M' cd = .inr (ci, fs')) (hfs : fs.set j v = fs') (hoth : ∀ c', c' ≠ cd → xcM G ta M' c' = xcM G ta M c') (hc : vwCl[ci]? = some (Cn, T, N)) (hin : ∀ w ∈ u_ws Cn T N, w ∈ Ts) (ty0 : Nat → FieldType) (hty : ∀ k, k < N → parseFieldDescriptor (T k).2.2.1 = some (ty0 k)) (hnm : ∀ a, a < N → ∀ b, b < N → a ≠ b → (T a).2.1 ≠ (T b).2.1) (hj : j < N) (hlink : Cond.fieldLink own index ref (T j).2.1 (T j).2.2.1 ∈ Ts) (hsame : (T j).1 = ref) (hfin : (T j).2.2.2 = false) (htj : ty0 j = ty) (hn : narrow ty v = v) (hfit : fits ty v = true) (hl : j < fs.length) (hdg : decode cc pc = .ok (.putfield index, 3)) (kk : xW G p l e R s m args below meth c nL Q k n ta M' (pc + 3) lv rest) : xW G p l e R s m args below meth c nL Q k n ta M pc lv (v :: .ref (xad G cd) :: rest) := fun H locs ls h1 h2 h3 => by
  have hw := xwl_at G ta M (xkd_lt h0)
  rw [hce, xA_of h21] at hw
  refine va_put C.1.1 C.1.2.1 C.1.2.2.2.2 hin ty0 hty hnm C.1.2.2.2.1 C.2.1 h1.1 h1.2.1 h2 cd hw hc j hj (C.1.2.2.2.2 _ hlink) (fun x h => by rw [← hsame]; exact h) hfin (by rw [hty j hj, htj]) hn hfit hl hdg (fun H1 locs1 hP hD hS => ?_)
  have hset := xwl_set G ta (M := M) (M' := M') (c := cd) (e := .inr (ci, fs.set j v)) (by rw [hce', hfs]) hoth
  rw [xA_of h21] at hset
  rw [hset] at hP hD
  exact kk H1 locs1 ls ⟨hP, hD, Nat.le_trans C.2.2.1 hS.1⟩ hS h3
theorem x_iald (C : xC G p s m args c cc nL Ts own) {cd N : Nat} {i : Int32} (hk : xkd cd = 20) (hN : xln M cd = N) (hi : x_in i N = true) (hdg : decode cc pc = .ok (.iaload, 1)) (kk : xW G p l e R s m args below meth c nL Q k n ta M (pc + 1) lv (.int (M.1 cd i.toNatClampNeg) :: rest)) : xW G p l e R s m args below meth c nL Q k n ta M pc lv (.int i :: .ref (xad G cd) :: rest) := fun H locs ls h1 h2 h3 => by
  have hw := xwl_at G ta M (xkd_lt (c := cd) (by rw [hk]; decide))
  rw [xc20 hk, xA_of (by rw [hk]; decide), hN] at hw
  exact va_iald C.1.1 C.1.2.1 C.2.1 h1.1 cd 0 hw rfl (x_vp hi) hdg (kk H locs ls h1 h2 h3)
theorem x_cald (C : xC G p s m args c cc nL Ts own) {cd N : Nat} {i : Int32} (hk : xkd cd = 22) (hN : xln M cd = N) (hi : x_in i N = true) (hdg : decode cc pc = .ok (.caload, 1)) (kk : xW G p l e R s m args below meth c nL Q k n ta M (pc + 1) lv (.int (M.1 cd i.toNatClampNeg) :: rest)) : xW G p l e R s m args below meth c nL Q k n ta M pc lv (.int i :: .ref (xad G cd) :: rest) := fun H locs ls h1 h2 h3 => by
  have hw := xwl_at G ta M (xkd_lt (c := cd) (by rw [hk]; decide))
  rw [xc22 hk, xA_of (by rw [hk]; decide), hN] at hw
  exact va_cald C.1.1 C.1.2.1 C.2.1 h1.1 cd 2 hw rfl (x_vp hi) hdg (kk H locs ls h1 h2 h3)
theorem x_iast (C : xC G p s m args c cc nL Ts own) {cd N : Nat} {i x : Int32} (hk : xkd cd = 20) (hN : xln M cd = N) (hi : x_in i N = true) (hdg : decode cc pc = .ok (.iastore, 1)) (kk : xW G p l e R s m args below meth c nL Q k n ta (sI M cd i.toNatClampNeg x) (pc + 1) lv rest) : xW G p l e R s m args below meth c nL Q k n ta M pc lv (.int x :: .int i :: .ref (xad G cd) :: rest) := fun H locs ls h1 h2 h3 => by
  have h21 : xkd cd ≠ 21 := by rw [hk]; decide
  have hw := xwl_at G ta M (xkd_lt (c := cd) (by rw [hk]; decide))
  rw [xc20 hk, xA_of h21, hN] at hw
  refine va_iast C.1.1 C.1.2.1 C.2.1 h1.1 h1.2.1 h2 cd 0 hw rfl (x_vp hi) hdg (fun H1 locs1 hP hD hS => ?_)
  have hset := xwl_set G ta (M := M) (M' := sI M cd i.toNatClampNeg x) (c := cd) (e := .inl (xcy G 0, N, .inl (upd (M.1 cd) i.toNatClampNeg x))) (by
    rw [xc20 hk, show xln (sI M cd i.toNatClampNeg x) cd = N from hN, show (sI M cd i.toNatClampNeg x).1 cd = upd (M.1 cd) i.toNatClampNeg x from if_pos rfl]) (fun c' h => xcM_I h)
  rw [xA_of h21] at hset
  rw [hset] at hP hD
  exact kk H1 locs1 ls ⟨hP, hD, Nat.le_trans C.2.2.1 hS.1⟩ hS h3
/-- an element of an array of objects -/
theorem x_aald (C : xC G p s m args c cc nL Ts own) {cd N t0 : Nat} {i : Int32} {g : Nat → Nat} {cA : ClassId} {Cn : String} (h21 : xkd cd ≠ 21) (h0 : xkd cd ≠ 0) (hce : xcM G ta M cd = .inl (cA, xln M cd, .inr (.inr (.inr (.inr fun i => some (xad G (g i))))))) (ht : (xty G)[t0]? = some (cA, .object Cn)) (hN : xln M cd = N) (hi : x_in i N = true) (hdg : decode cc pc = .ok (.aaload, 1)) (kk : xW G p l e R s m args below meth c nL Q k n ta M (pc + 1) lv (.ref (xad G (g i.toNatClampNeg)) :: rest)) : xW G p l e R s m args below meth c nL Q k n ta M pc lv (.int i :: .ref (xad G cd) :: rest) := fun H locs ls h1 h2 h3 => by
  have hw := xwl_at G ta M (xkd_lt h0)
  rw [hce, xA_of h21, hN] at hw
  exact va_aldq C.1.1 C.1.2.1 C.2.1 h1.1 cd t0 hw ht (x_vp hi) hdg (kk H locs ls h1 h2 h3)
end XROWS
section XMET
/-- a method's start and end: its arguments, the world; its answer, the world behind it -/
def xPc (G : xG) (ta : Nat × Nat) (M : xM) (av : List Value) : Array Value → State → Prop := va_Pc av (fun U => xK G U ∧ xH G ta M U.heap)
def xQr (G : xG) (v : Option Value) (M' : xM) : Array Value → State → Outcome → State → Prop := fun _ st oc t => (∃ u : Nat × Nat, oc = .returned v ∧ xH G u M' t.heap) ∧ va_F (xAs G) st t
def xQx (G : xG) (o : Option Value ⊕ String) (M' : xM) : Array Value → State → Outcome → State → Prop := fun a st oc t => ∃ v, o = .inl v ∧ xQr G v M' a st oc t
def xXc (G : xG) (o : Option Value ⊕ String) (M' : xM) : String → State → State → Prop := fun E st t => o = .inr E ∧ (∃ u : Nat × Nat, xH G u M' t.heap) ∧ va_F (xAs G) st t
def xMet (G : xG) (l : Launch) (y : MethodName) (ws : List Cond) (rm : Room) (mc ms : Nat) (ta : Nat × Nat) (M : xM) (av : List Value) (v : Option Value) (M' : xM) : Prop := Met l y ws rm (xPc G ta M av) (xQr G v M') mc ms (xAs G)
def xMetX (G : xG) (l : Launch) (y : MethodName) (ws : List Cond) (rm : Room) (mc ms : Nat) (ta : Nat × Nat) (M : xM) (av : List Value) (o : Option Value ⊕ String) (M' : xM) : Prop := vx_Met l y ws rm (xPc G ta M av) (xQx G o M') (xXc G o M') mc ms (xAs G)
theorem xK_to {G : xG} {s U : State} {H : Heap} {locs : List Loc} (h : xK G s) (hS : va_S (xAs G) s.heap H locs) (hU : U.heap = H) (hW : s.WarmedH U.vm) : xK G U := by
  obtain ⟨h1, h2, h3, h4, h5, h6, h7, h8⟩ := h
  refine ⟨h1.moved hW.alike, by rw [hU]; exact Nat.le_trans h2 hS.1, ?_, ?_, xNw_warm hW h5, fun q hq => ?_, fun q hq => va_Nc.moved hW.alike (h7 q hq), ?_⟩
  · rw [hU]; exact vx_Zq.moved hW.alike (h3.kept hS.2.1)
  · rw [hU]; exact vx_Zq.moved hW.alike (h4.kept hS.2.1)
  · obtain ⟨sa, h⟩ := h6 q hq
    exact ⟨sa, h.warm hW⟩
  · rw [hU]; exact xZs.moved hW.alike (h8.kept hS.2.1)
theorem xK_cal {G : xG} {U : State} {g : JFrame} {mk : MethodId} {a : Array Value} (h : xK G U) : xK G (U.calling g mk a) := by
  obtain ⟨k1, k2, k3, k4, k5, k6, k7, k8⟩ := h
  have hv : U.vm.Alike (U.calling g mk a).vm := Vm.Alike.refl U.vm
  refine ⟨k1.moved hv, k2, vx_Zq.moved (u := U) hv k3, vx_Zq.moved (u := U) hv k4, xNw_same (u := U) rfl k5, fun q hq => ?_, fun q hq => va_Nc.moved hv (k7 q hq), xZs.moved (u := U) hv k8⟩
  obtain ⟨sa, h⟩ := k6 q hq
  exact ⟨sa, vk_R.same (u := U) rfl h⟩
theorem xPc_blind {G : xG} {ta : Nat × Nat} {M : xM} {av : List Value} : FrameBlind (xPc G ta M av) := by
  intro a U g mk ⟨h1, h2, h3⟩
  exact ⟨h1, xK_cal h2, h3⟩
variable {G : xG} {p : Program} {l : Launch} {e : Env} {R : Room} {s : State} {m : MethodId} {args : Array Value} {below : List Frame} {meth : Method} {c : Code} {nL : Nat} {Q : State → Prop} {k n : Nat} {ta : Nat × Nat} {M M' : xM} {pc : Nat} {lv : List (Nat × Value)} {st rest : List Value} {cc : ByteArray} {Ts : List Cond} {own : String}
variable {y : MethodName} {ws ws' : List Cond} {rm : Room} {mc ms : Nat} {av : List Value} {v : Option Value} {o : Option Value ⊕ String} {ret : Option FieldType} {bytes : ByteArray} {maxL index na : Nat}
theorem x_met (hy : plainName y.cls = true) (hw : ws = Cond.code y cc nL ret :: ws') (hn : (lg_sl av).length ≤ nL)
    (body : ∀ p e s m args below meth c, xC G p s m args c cc nL ws y.cls → meth.sig.returnType = ret → meth.locks = false → xW G p l e rm s m args below meth c nL (MQ below (xQr G v M') args s mc ms (xAs G)) 0 0 ta M 0 (lv_args 0 av) []) : xMet G l y ws rm mc ms ta M av v M' := by
  refine Met.ofW (cc := cc) (maxL := nL) (ret := ret) hy hw ?_
  intro p e s m args below meth c s₁ B hml hv
  obtain ⟨rfl, hK, hH⟩ := hv
  have hl := lv_entry av (n := nL) hn
  rw [lg_entry_eq]
  exact body p e s m av.toArray below meth c ⟨⟨B.exec, B.bytes, hml, findClass_of_methodNamed B.named, atoms_spec (ws := ws) B.pre⟩, hK⟩ B.returns B.notSynchronized s.heap [] _ hH va_S.rf hl
theorem x_metX (hy : plainName y.cls = true) (hw : ws = Cond.code y cc nL ret :: ws') (hn : (lg_sl av).length ≤ nL)
    (body : ∀ p e s m args below meth c, xC G p s m args c cc nL ws y.cls → meth.sig.returnType = ret → meth.locks = false → (∀ x ∈ c.exceptionTable.toList, False) → xW G p l e rm s m args below meth c nL (vx_MQ below (xQx G o M') (xXc G o M') args s mc ms (xAs G)) 0 0 ta M 0 (lv_args 0 av) []) : xMetX G l y ws rm mc ms ta M av o M' := by
  refine vx_ofW (cc := cc) (maxL := nL) (ret := ret) hy hw ?_
  intro p e s m args below meth c s₁ B hml htb hv
  obtain ⟨rfl, hK, hH⟩ := hv
  have hl := lv_entry av (n := nL) hn
  rw [lg_entry_eq]
  exact body p e s m av.toArray below meth c ⟨⟨B.exec, B.bytes, hml, findClass_of_methodNamed B.named, atoms_spec (ws := ws) B.pre⟩, hK⟩ B.returns B.notSynchronized htb s.heap [] _ hH va_S.rf hl
theorem x_metH {hh : List (Nat × Nat × Nat × Nat)} (hy : plainName y.cls = true) (hw : ws = Cond.codeWith y cc nL ret hh :: ws') (hn : (lg_sl av).length ≤ nL)
    (body : ∀ p e s m args below meth c, xC G p s m args c cc nL ws y.cls → meth.sig.returnType = ret → meth.locks = false → c.exceptionTable.toList = tableOf hh → xW G p l e rm s m args below meth c nL (MQ below (xQr G v M') args s mc ms (xAs G)) 0 0 ta M 0 (lv_args 0 av) []) : xMet G l y ws rm mc ms ta M av v M' := by
  unfold xMet Met
  refine MetFree.of_bodyS (code := cc) (maxLocals := nL) (ret := ret) hy ?_ ?_
  · intro args s m h hn
    obtain ⟨m9, meth, c, hn9, h1, h2, h3, h4, -, h5, h6, -⟩ := Cond.codeWith_spec (atoms_spec (ws := ws) h _ (by rw [hw]; exact List.mem_cons_self))
    cases hn.symm.trans hn9
    exact ⟨meth, c, h1, h2, h3, h4, h5, h6⟩
  · intro p e s m args below meth c s₁ B hml hP _
    have hh0 : s₁.heap = s.heap := by rw [B.state]; rfl
    obtain ⟨rfl, hK, hH⟩ := hP
    have htb : c.exceptionTable.toList = tableOf hh := vx_table (x := y) B (atoms_spec (ws := ws) B.pre _ (by rw [hw]; exact List.mem_cons_self))
    have hl := lv_entry av (n := nL) hn
    have key : W p l e (headSpec ws rm).room s m av.toArray below meth c s.heap [] 0 0 (MQ below (xQr G v M') av.toArray s mc ms (xAs G)) (entryFrame m av.toArray nL) := by
      rw [lg_entry_eq]
      exact body p e s m av.toArray below meth c ⟨⟨B.exec, B.bytes, hml, findClass_of_methodNamed B.named, atoms_spec (ws := ws) B.pre⟩, hK⟩ B.returns B.notSynchronized htb s.heap [] _ hH va_S.rf hl
    obtain ⟨t, a1, o, b1, b2, b3⟩ := key s₁ hh0 (Stand.of_body B)
    exact ⟨t, o, a1, b1, b2, ⟨b3.1, b3.2⟩⟩
/-- the ends -/
theorem x_iret {w : Int32} (C : xC G p s m args c cc nL Ts own) (hr : meth.sig.returnType = some .int) (hlocks : meth.locks = false) (hdg : decode cc pc = .ok (.ireturn, 1)) : xW G p l e R s m args below meth c nL (MQ below (xQr G (some (.int w)) M) args s k n (xAs G)) k n ta M pc lv [.int w] :=
  fun H locs ls h1 h2 h3 => W.iret C.1.1 C.1.2.1 hr (fun t ht hW => ⟨⟨ta, rfl, by rw [ht]; exact h1⟩, h2.F ht⟩) h2.2.2 hdg hlocks
theorem x_zret {w : Int32} {ty : FieldType} (C : xC G p s m args c cc nL Ts own) (hr : meth.sig.returnType = some ty) (hlocks : meth.locks = false) (hnw : narrow ty (.int w) = .int w) (hdg : decode cc pc = .ok (.ireturn, 1)) : xW G p l e R s m args below meth c nL (MQ below (xQr G (some (.int w)) M) args s k n (xAs G)) k n ta M pc lv [.int w] :=
  fun H locs ls h1 h2 h3 => W.zret C.1.1 C.1.2.1 hr hnw (fun t ht hW => ⟨⟨ta, rfl, by rw [ht]; exact h1⟩, h2.F ht⟩) h2.2.2 hdg hlocks
theorem x_vret (C : xC G p s m args c cc nL Ts own) (hr : meth.sig.returnType = none) (hlocks : meth.locks = false) (hdg : decode cc pc = .ok (.return_, 1)) : xW G p l e R s m args below meth c nL (MQ below (xQr G none M) args s k n (xAs G)) k n ta M pc lv [] :=
  fun H locs ls h1 h2 h3 => W.vret C.1.1 C.1.2.1 hr (fun t ht hW => ⟨⟨ta, rfl, by rw [ht]; exact h1⟩, h2.F ht⟩) h2.2.2 hdg hlocks
theorem x_dret {w : UInt64} (C : xC G p s m args c cc nL Ts own) (hr : meth.sig.returnType = some .double) (hlocks : meth.locks = false) (hdg : decode cc pc = .ok (.dreturn, 1)) : xW G p l e R s m args below meth c nL (MQ below (xQr G (some (.double w)) M) args s k n (xAs G)) k n ta M pc lv [.double w] :=
  fun H locs ls h1 h2 h3 => W.dret C.1.1 C.1.2.1 hr (fun t ht hW => ⟨⟨ta, rfl, by rw [ht]; exact h1⟩, h2.F ht⟩) h2.2.2 hdg hlocks
theorem x_fret {w : UInt32} (C : xC G p s m args c cc nL Ts own) (hr : meth.sig.returnType = some .float) (hlocks : meth.locks = false) (hdg : decode cc pc = .ok (.freturn, 1)) : xW G p l e R s m args below meth c nL (MQ below (xQr G (some (.float w)) M) args s k n (xAs G)) k n ta M pc lv [.float w] :=
  fun H locs ls h1 h2 h3 => W.fret C.1.1 C.1.2.1 hr (fun t ht hW => ⟨⟨ta, rfl, by rw [ht]; exact h1⟩, h2.F ht⟩) h2.2.2 hdg hlocks
/-- a return in a method that may throw -/
theorem x_ret (kk : xW G p l e R s m args below meth c nL (MQ below (xQr G v M') args s mc ms (xAs G)) k n ta M pc lv st) : xW G p l e R s m args below meth c nL (vx_MQ below (xQx G (.inl v) M') (xXc G (.inl v) M') args s mc ms (xAs G)) k n ta M pc lv st := by
  intro H locs ls h1 h2 h3
  refine vx_ret (fun T hT X => ?_)
  obtain ⟨t, a1, o, b1, b2, b3, b4⟩ := kk H locs ls h1 h2 h3 T hT X
  exact ⟨t, a1, o, b1, b2, ⟨v, rfl, b3⟩, b4⟩
/-- q, of class E, thrown over this frame -/
def xT (G : xG) (p : Program) (l : Launch) (e : Env) (R : Room) (s : State) (m : MethodId) (args : Array Value) (below : List Frame) (meth : Method) (c : Code) (nL : Nat) (Q : State → Prop) (k n : Nat) (ta : Nat × Nat) (M : xM) (pc : Nat) (lv : List (Nat × Value)) (st : List Value) (E : String) : Prop :=
  ∀ (H : Heap) (locs : List Loc) (ls : Array Slot) (q : Addr) (ce : Cell), xH G ta M H → va_S (xAs G) s.heap H locs → lv_has ls nL lv → H[q]? = some ce → ce.vm = .none → s.vm.findClass E = some ce.cls → vx_W p l e R s m args below meth c H locs k n Q (F0 m pc ls st) q
theorem x_out {E : String} (C : xC G p s m args c cc nL Ts own) (hlocks : meth.locks = false) (htb : ∀ x ∈ c.exceptionTable.toList, False) (hc : k ≤ mc) (hs : n ≤ ms) : xT G p l e R s m args below meth c nL (vx_MQ below (xQx G (.inr E) M) (xXc G (.inr E) M) args s mc ms (xAs G)) k n ta M pc lv st E :=
  fun H locs ls q ce h1 h2 h3 h4 h5 h6 => vx_out (fun x hx => (htb x hx).elim) hlocks h4 h5 h6 (fun t ht _ => ⟨rfl, ⟨ta, by rw [ht]; exact h1⟩, h2.F ht⟩) h2.2.2 hc hs
theorem x_call (hr : ∀ H locs ls, xH G ta M H → va_S (xAs G) s.heap H locs → lv_has ls nL lv → va_Run p l e R s m args below meth c H locs k n mc ms (F0 m pc ls st) rest (xQr G v M' av.toArray) (xAs G)) (kk : ∀ ta', xW G p l e R s m args below meth c nL Q (k + mc) (n + ms) ta' M' (pc + 3) lv (v.toList ++ rest)) : xW G p l e R s m args below meth c nL Q k n ta M pc lv st := by
  intro H locs ls h1 h2 h3 T hT X
  obtain ⟨v9, st₀, t, T', L, g0, X', hL, e1, e2, ⟨⟨u, hv, hb⟩, hz, hk⟩, hst⟩ := hr H locs ls h1 h2 h3 T hT X
  cases hv
  rw [g0] at hz hk
  obtain ⟨t2, a1, b1⟩ := kk u T'.heap (locs ++ L) ls (by rw [e1]; exact hb) ⟨Nat.le_trans h2.1 (by rw [e1]; exact hz), fun q z1 z2 => by rw [e1, hk q (Nat.lt_of_lt_of_le z1 h2.1) z2]; exact h2.2.1 q z1 z2, fun q hq => by
      rcases List.mem_append.mp hq with h | h
      · exact h2.2.2 q h
      · exact hL q h⟩ h3 T' rfl X'
  exact ⟨t2, hst t2 a1, b1⟩
theorem x_callX (hr : ∀ H locs ls, xH G ta M H → va_S (xAs G) s.heap H locs → lv_has ls nL lv → vx_Run p l e R s m args below meth c H locs k n mc ms (F0 m pc ls st) rest (xQx G o M' av.toArray) (xXc G o M') (xAs G)) (kx : ∀ E ta', o = .inr E → xT G p l e R s m args below meth c nL Q (k + mc) (n + ms) ta' M' pc lv rest E) (kk : ∀ v ta', o = .inl v → xW G p l e R s m args below meth c nL Q (k + mc) (n + ms) ta' M' (pc + 3) lv (v.toList ++ rest)) : xW G p l e R s m args below meth c nL Q k n ta M pc lv st := by
  intro H locs ls h1 h2 h3 T hT X
  have key : ∀ {st₀ t T' : State} {L : List Loc}, st₀.heap = H → T'.heap = t.heap → va_F (xAs G) st₀ t → (∀ q ∈ L, xAs G q.base) → va_S (xAs G) s.heap T'.heap (locs ++ L) := by
    intro st₀ t T' L g0 e1 hF hL
    obtain ⟨hz, hk⟩ := hF
    rw [g0] at hz hk
    exact ⟨Nat.le_trans h2.1 (by rw [e1]; exact hz), fun q z1 z2 => by rw [e1, hk q (Nat.lt_of_lt_of_le z1 h2.1) z2]; exact h2.2.1 q z1 z2, fun q hq => by
      rcases List.mem_append.mp hq with h | h
      · exact h2.2.2 q h
      · exact hL q h⟩
  rcases hr H locs ls h1 h2 h3 T hT X with ⟨v9, st₀, t, T', L, g0, X', hL, e1, e2, ⟨v, ho, ⟨u, hv, hb⟩, hF⟩, hst⟩ | ⟨q, st₀, t, T', L, E, ce, g0, X', hL, e1, e2, ⟨ho, ⟨u, hb⟩, hF⟩, hce, hcv, hcl, hst⟩
  · cases hv
    obtain ⟨t2, a1, b1⟩ := kk v9 u ho T'.heap (locs ++ L) ls (by rw [e1]; exact hb) (key g0 e1 hF hL) h3 T' rfl X'
    exact ⟨t2, hst t2 a1, b1⟩
  · obtain ⟨t2, a1, b1⟩ := kx E u ho T'.heap (locs ++ L) ls q ce (by rw [e1]; exact hb) (key g0 e1 hF hL) h3 (by rw [e1]; exact hce) hcv hcl T' rfl X'
    exact ⟨t2, hst.trans a1, b1⟩
theorem x_rcv {cd ci : Nat} {fs : List Value} {q : vw_C} {H : Heap} (hK : xK G s) (h1 : xH G ta M H) (h21 : xkd cd ≠ 21) (h0 : xkd cd ≠ 0) (hce : xcM G ta M cd = .inr (ci, fs)) (hc : vwCl[ci]? = some q) : ∃ cell : Cell, H[xad G cd]? = some cell ∧ cell.vm.isStatics = false ∧ s.vm.findClass q.1 = some cell.cls := by
  have hw := xwl_at G ta M (xkd_lt h0)
  rw [hce, xA_of h21] at hw
  exact va_recv hK.1 h1.1 hc hw
/-- invokevirtual of the receiver's own class -/
theorem x_callV {cd ci : Nat} {fs : List Value} {q : vw_C} {As : List Value} (C : xC G p s m args c cc nL Ts own) (h21 : xkd cd ≠ 21) (h0 : xkd cd ≠ 0) (hce : xcM G ta M cd = .inr (ci, fs)) (hc : vwCl[ci]? = some q) (hM : xMet G l y ws rm mc ms ta M (.ref (xad G cd) :: As) v M') (cw : CallW R s args own q.1 index y bytes maxL ret ws rm mc ms na) (hn : As.length = na) (hst : st = As.reverse ++ .ref (xad G cd) :: rest) (hW : (rest.map fun v => v.category).sum ≤ 8) (hdg : decode cc pc = .ok (.invokevirtual index, 3)) (hf : k + mc ≤ R.cells ∧ n + ms ≤ R.slots)
    (kk : ∀ ta', xW G p l e R s m args below meth c nL Q (k + mc) (n + ms) ta' M' (pc + 3) lv (v.toList ++ rest)) : xW G p l e R s m args below meth c nL Q k n ta M pc lv st :=
  x_call (av := .ref (xad G cd) :: As) (fun H locs ls h1 h2 h3 => va_runV C.1 hM cw ⟨xPc_blind, x_rcv C.2 h1 h21 h0 hce hc, fun U hU hW => ⟨rfl, xK_to C.2 h2 hU hW, by rw [hU]; exact h1⟩⟩ rfl hn h3.1 hst (lv_room hW) hdg hf) kk
theorem x_callS {As : List Value} (C : xC G p s m args c cc nL Ts own) (hM : xMet G l y ws rm mc ms ta M As v M') (cw : CallB R s args own index y bytes maxL ret ws rm mc ms na ∧ (Cond.static y).before args s = true) (hn : As.length = na) (hst : st = As.reverse ++ rest) (hW : (rest.map fun v => v.category).sum ≤ 8) (hdg : decode cc pc = .ok (.invokestatic index, 3)) (hf : k + mc ≤ R.cells ∧ n + ms ≤ R.slots)
    (kk : ∀ ta', xW G p l e R s m args below meth c nL Q (k + mc) (n + ms) ta' M' (pc + 3) lv (v.toList ++ rest)) : xW G p l e R s m args below meth c nL Q k n ta M pc lv st :=
  x_call (av := As) (fun H locs ls h1 h2 h3 => va_runS C.1 hM cw ⟨xPc_blind, fun U hU hW => ⟨rfl, xK_to C.2 h2 hU hW, by rw [hU]; exact h1⟩⟩ rfl hn h3.1 hst (lv_room hW) hdg hf) kk
theorem x_callVX {cd ci : Nat} {fs : List Value} {q : vw_C} {As : List Value} (C : xC G p s m args c cc nL Ts own) (h21 : xkd cd ≠ 21) (h0 : xkd cd ≠ 0) (hce : xcM G ta M cd = .inr (ci, fs)) (hc : vwCl[ci]? = some q) (hM : xMetX G l y ws rm mc ms ta M (.ref (xad G cd) :: As) o M') (cw : CallW R s args own q.1 index y bytes maxL ret ws rm mc ms na) (hn : As.length = na) (hst : st = As.reverse ++ .ref (xad G cd) :: rest) (hW : (rest.map fun v => v.category).sum ≤ 8) (hdg : decode cc pc = .ok (.invokevirtual index, 3)) (hf : k + mc ≤ R.cells ∧ n + ms ≤ R.slots)
    (kx : ∀ E ta', o = .inr E → xT G p l e R s m args below meth c nL Q (k + mc) (n + ms) ta' M' pc lv rest E) (kk : ∀ v ta', o = .inl v → xW G p l e R s m args below meth c nL Q (k + mc) (n + ms) ta' M' (pc + 3) lv (v.toList ++ rest)) : xW G p l e R s m args below meth c nL Q k n ta M pc lv st :=
  x_callX (av := .ref (xad G cd) :: As) (fun H locs ls h1 h2 h3 => vx_runV C.1 hM cw ⟨xPc_blind, x_rcv C.2 h1 h21 h0 hce hc, fun U hU hW => ⟨rfl, xK_to C.2 h2 hU hW, by rw [hU]; exact h1⟩⟩ rfl hn h3.1 hst (lv_room hW) hdg hf) kx kk
theorem x_callSX {As : List Value} (C : xC G p s m args c cc nL Ts own) (hM : xMetX G l y ws rm mc ms ta M As o M') (cw : CallB R s args own index y bytes maxL ret ws rm mc ms na ∧ (Cond.static y).before args s = true) (hn : As.length = na) (hst : st = As.reverse ++ rest) (hW : (rest.map fun v => v.category).sum ≤ 8) (hdg : decode cc pc = .ok (.invokestatic index, 3)) (hf : k + mc ≤ R.cells ∧ n + ms ≤ R.slots)
    (kx : ∀ E ta', o = .inr E → xT G p l e R s m args below meth c nL Q (k + mc) (n + ms) ta' M' pc lv rest E) (kk : ∀ v ta', o = .inl v → xW G p l e R s m args below meth c nL Q (k + mc) (n + ms) ta' M' (pc + 3) lv (v.toList ++ rest)) : xW G p l e R s m args below meth c nL Q k n ta M pc lv st :=
  x_callX (av := As) (fun H locs ls h1 h2 h3 => vx_runS C.1 hM cw ⟨xPc_blind, fun U hU hW => ⟨rfl, xK_to C.2 h2 hU hW, by rw [hU]; exact h1⟩⟩ rfl hn h3.1 hst (lv_room hW) hdg hf) kx kk
end XMET
