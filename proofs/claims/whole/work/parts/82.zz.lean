/-! stand-in for 17.cx, 17.d4, 19.fw: the first memory; to be taken away in the final chain -/
def xv_tab (L : List Int32) (j : Nat) : Nat → Int32 := fun i => if i < j then L.getD i 0 else 0
def LX7_init_q8 : List Int32 := [97, 100, 100, 32, 111, 112, 101, 110, 32, 99, 108, 111, 115, 101, 32, 115, 119, 97, 112, 32, 115, 105, 116, 32, 115, 116, 97, 110, 100, 32, 114, 101, 109, 111, 118, 101, 32, 99, 97, 108, 108, 97, 100, 118, 97, 110, 99, 101]
def LX7_init_q9 : List Int32 := [0, 4, 9, 15, 20, 24, 30, 37, 41, 48]
def M0 : xM := (fun c k => if c = 0 ∨ c = 9 then (if k = 7 ∨ k = 8 then -1 else 0) else if c = 10 then upd (upd (upd (fun _ => 0) 14 (-1)) 19 (-1)) 24 (-1) k else if c = 17 then xv_tab LX7_init_q8 48 k else if c = 18 then xv_tab LX7_init_q9 10 k else if 22 ≤ c ∧ 18 ≤ (c - 22) % 21 ∧ k = 2 then -1 else 0,
  fun c i => if c = 0 then ([22, 43, 64] : List Nat).getD i 0 else if c = 1 then 85 + 21 * i else if c = 5 ∨ c = 7 then (if i = 1 then 16 else 0) else if 22 ≤ c ∧ (c - 22) % 21 = 1 then c + 5 + i else 0, 0, 0)
theorem M0_hall {j r k : Nat} (hr : r < 21) : M0.1 (22 + 21 * j + r) k = if 18 ≤ r ∧ k = 2 then -1 else 0 := by
  show (if 22 + 21 * j + r = 0 ∨ 22 + 21 * j + r = 9 then (if k = 7 ∨ k = 8 then (-1 : Int32) else 0) else if 22 + 21 * j + r = 10 then _ else if 22 + 21 * j + r = 17 then _ else if 22 + 21 * j + r = 18 then _ else if 22 ≤ 22 + 21 * j + r ∧ 18 ≤ (22 + 21 * j + r - 22) % 21 ∧ k = 2 then -1 else 0) = _
  rw [if_neg (by omega), if_neg (by omega), if_neg (by omega), if_neg (by omega), show (22 + 21 * j + r - 22) % 21 = r by omega]
  by_cases g : 18 ≤ r ∧ k = 2
  · rw [if_pos ⟨by omega, g⟩, if_pos g]
  · rw [if_neg (fun z => g z.2), if_neg g]
theorem M0_hall0 {j r : Nat} (hr : r < 18) : M0.1 (22 + 21 * j + r) = fun _ => 0 := funext fun k => by rw [M0_hall (by omega), if_neg (by omega)]
theorem M0_cust {j i : Nat} : M0.2.1 (22 + 21 * j + 1) i = 22 + 21 * j + 6 + i := by
  show (if 22 + 21 * j + 1 = 0 then ([22, 43, 64] : List Nat).getD i 0 else if 22 + 21 * j + 1 = 1 then 85 + 21 * i else if 22 + 21 * j + 1 = 5 ∨ 22 + 21 * j + 1 = 7 then (if i = 1 then 16 else 0) else if 22 ≤ 22 + 21 * j + 1 ∧ (22 + 21 * j + 1 - 22) % 21 = 1 then 22 + 21 * j + 1 + 5 + i else 0) = _
  rw [if_neg (by omega), if_neg (by omega), if_neg (by omega), if_pos (by omega)]
