theorem va_OF_uq {o n d : String} {v v' : Value} {t : Nat} {A A' : Nat → Prop} {U : State} {H : Heap} (h1 : va_OF o n d v t A U H) (h2 : va_OF o n d v' t A' U H) : v = v' := by
  obtain ⟨cf, k, i, f, cell, a1, a2, a3, a4, a5, -⟩ := h1
  obtain ⟨cf', k', i', f', cell', b1, b2, b3, b4, b5, -⟩ := h2
  rw [a1] at b1
  cases b1
  rw [a3] at b3
  cases b3
  exact Option.some.inj (a5.symm.trans b5)
theorem s_fm {args : Array Value} {s : State} (h : (Cond.and given_1 narrow_1).before args s = true) : ∀ i, i < 10 → (Cond.eq (.field (.static RX1 (s_nm i) s_cd) RX1 "form" "Ljava/lang/String;") (.string RX1 (s_fk i))).before args s = true := by
  have hs := flat_of_before _ h
  have h1 : ∀ i, i < 10 → Cond.eq (.field (.static RX1 (s_nm i) s_cd) RX1 "form" "Ljava/lang/String;") (.string RX1 (s_fk i)) ∈ flatC (Cond.and given_1 narrow_1) := by decide +kernel
  exact fun i hi => hs _ (h1 i hi)
abbrev s_45 : List Cond := flatC narrow_1_4 ++ flatC narrow_1_5
theorem s_n45 {c : Cond} (h : c ∈ s_45) : c ∈ flatC (Cond.and given_1 narrow_1) := by
  have e : flatC (Cond.and given_1 narrow_1) = flatC given_1 ++ ((flatC narrow_1_1 ++ flatC narrow_1_2) ++ (flatC narrow_1_3 ++ (flatC narrow_1_4 ++ flatC narrow_1_5))) := rfl
  rw [e]
  exact List.mem_append_right _ (List.mem_append_right _ (List.mem_append_right _ h))
def s_sg (i : Nat) : List Cond := Cond.exactly (.string RX1 (s_fk i)) "java/lang/String" :: Cond.eq (.field (.string RX1 (s_fk i)) "java/lang/String" "coder" "B") (.int 0) :: Cond.arrayOf (.field (.string RX1 (s_fk i)) "java/lang/String" "value" "[B") .byte :: Cond.eq (.length (.field (.string RX1 (s_fk i)) "java/lang/String" "value" "[B")) (.int (Int32.ofNat (xFL.getD i 0))) :: (List.range (xFL.getD i 0)).map fun j => Cond.eq (.elem (.field (.string RX1 (s_fk i)) "java/lang/String" "value" "[B") (.int (Int32.ofNat j))) (.int ((xFB.getD i []).getD j 0))
theorem s_sgM {a n i : Nat} (h : (s_45.drop a).take n = s_sg i) : ∀ c ∈ s_sg i, c ∈ flatC (Cond.and given_1 narrow_1) := fun c hc => s_n45 (List.mem_of_mem_drop (List.mem_of_mem_take (by rw [h]; exact hc)))
theorem s_sg_0 : (s_45.drop 298).take 9 = s_sg 0 := by decide +kernel
theorem s_sg_1 : (s_45.drop 307).take 14 = s_sg 1 := by decide +kernel
theorem s_sg_2 : (s_45.drop 321).take 11 = s_sg 2 := by decide +kernel
theorem s_sg_3 : (s_45.drop 332).take 8 = s_sg 3 := by decide +kernel
theorem s_sg_4 : (s_45.drop 340).take 12 = s_sg 4 := by decide +kernel
theorem s_sg_5 : (s_45.drop 352).take 9 = s_sg 5 := by decide +kernel
theorem s_sg_6 : (s_45.drop 361).take 11 = s_sg 6 := by decide +kernel
theorem s_sg_7 : (s_45.drop 372).take 12 = s_sg 7 := by decide +kernel
theorem s_sg_8 : (s_45.drop 384).take 13 = s_sg 8 := by decide +kernel
theorem s_sg_9 : (s_45.drop 397).take 11 = s_sg 9 := by decide +kernel
theorem s_sgA : ∀ i, i < 10 → ∀ c ∈ s_sg i, c ∈ flatC (Cond.and given_1 narrow_1) := fun i hi => match i, hi with
  | 0, _ => s_sgM s_sg_0
  | 1, _ => s_sgM s_sg_1
  | 2, _ => s_sgM s_sg_2
  | 3, _ => s_sgM s_sg_3
  | 4, _ => s_sgM s_sg_4
  | 5, _ => s_sgM s_sg_5
  | 6, _ => s_sgM s_sg_6
  | 7, _ => s_sgM s_sg_7
  | 8, _ => s_sgM s_sg_8
  | 9, _ => s_sgM s_sg_9
theorem s_f4 : ∀ i, i < 10 → Cond.exactly (.string RX1 (s_fk i)) "java/lang/String" ∈ flatC (Cond.and given_1 narrow_1) ∧ Cond.eq (.field (.string RX1 (s_fk i)) "java/lang/String" "coder" "B") (.int 0) ∈ flatC (Cond.and given_1 narrow_1) ∧ Cond.arrayOf (.field (.string RX1 (s_fk i)) "java/lang/String" "value" "[B") .byte ∈ flatC (Cond.and given_1 narrow_1) ∧ Cond.eq (.length (.field (.string RX1 (s_fk i)) "java/lang/String" "value" "[B")) (.int (Int32.ofNat (xFL.getD i 0))) ∈ flatC (Cond.and given_1 narrow_1) := fun i hi =>
  ⟨s_sgA i hi _ (List.Mem.head _), s_sgA i hi _ (List.Mem.tail _ (List.Mem.head _)), s_sgA i hi _ (List.Mem.tail _ (List.Mem.tail _ (List.Mem.head _))), s_sgA i hi _ (List.Mem.tail _ (List.Mem.tail _ (List.Mem.tail _ (List.Mem.head _))))⟩
theorem s_f5 : ∀ i, i < 10 → ∀ j, j < xFL.getD i 0 → Cond.eq (.elem (.field (.string RX1 (s_fk i)) "java/lang/String" "value" "[B") (.int (Int32.ofNat j))) (.int ((xFB.getD i []).getD j 0)) ∈ flatC (Cond.and given_1 narrow_1) := fun i hi j hj =>
  s_sgA i hi _ (List.Mem.tail _ (List.Mem.tail _ (List.Mem.tail _ (List.Mem.tail _ (List.mem_map.mpr ⟨j, List.mem_range.mpr hj, rfl⟩)))))
