def f_law_case (sc : Nat → Int32) (L : Nat) (k : Int32) (i : Int32) (M : xM) : Option xM := if k = 0 then f_law_c0 sc L i M else if k = 1 then f_law_c1 sc L i M else if k = 2 then f_law_c2 sc L i M else if k = 3 then f_law_c3 sc L i M else if k = 4 then f_law_c4 sc L i M else if k = 5 then f_law_c5 sc L i M else if k = 6 then f_law_c6 sc L i M else if k = 7 then f_law_c7 sc L i M else if k = 8 then f_law_c8 sc L i M else if k = 9 then f_law_c9 sc L i M else if k = 10 then f_law_c10 sc L i M else if k = 11 then f_law_c11 sc L i M else if k = 12 then f_law_c12 sc L i M else if k = 13 then f_law_c13 sc L i M else if k = 14 then f_law_c14 sc L i M else if k = 15 then f_law_c15 sc L i M else if k = 16 then f_law_c16 sc L i M else if k = 17 then f_law_c17 sc L i M else if k = 18 then f_law_c18 sc L i M else if k = 19 then f_law_c19 sc L i M else if k = 20 then f_law_c20 sc L i M else if k = 21 then f_law_c21 sc L i M else if k = 22 then f_law_c22 sc L i M else if k = 23 then f_law_c23 sc L i M else if k = 24 then f_law_c24 sc L i M else if k = 25 then f_law_c25 sc L i M else if k = 26 then f_law_c26 sc L i M else if k = 27 then f_law_c27 sc L i M else if k = 28 then f_law_c28 sc L i M else if k = 29 then f_law_c29 sc L i M else if k = 30 then f_law_c30 sc L i M else if k = 31 then f_law_c31 sc L i M else if k = 32 then f_law_c32 sc L i M else if k = 33 then f_law_c33 sc L i M else if k = 34 then f_law_c34 sc L i M else if k = 35 then f_law_c35 sc L i M else if k = 36 then f_law_c36 sc L i M else if k = 37 then f_law_c37 sc L i M else if k = 38 then f_law_c38 sc L i M else if k = 39 then f_law_c39 sc L i M else if k = 40 then f_law_c40 sc L i M else if k = 41 then f_law_c41 sc L i M else if k = 42 then f_law_c42 sc L i M else if k = 43 then f_law_c43 sc L i M else if k = 44 then f_law_c44 sc L i M else if k = 45 then f_law_c45 sc L i M else if k = 46 then f_law_c46 sc L i M else if k = 47 then f_law_c47 sc L i M else if k = 48 then f_law_c48 sc L i M else if k = 49 then f_law_c49 sc L i M else if k = 50 then f_law_c50 sc L i M else if k = 51 then f_law_c51 sc L i M else if k = 52 then f_law_c52 sc L i M else if k = 53 then f_law_c53 sc L i M else some M
def f_law_L (sc : Nat → Int32) (L : Nat) : Nat → Int32 → xM → Option xM
  | 0, _, _ => none
  | n + 1, i, M => if (Int32.ofNat L) - (4 : Int32) < i then some M else if x_in i L = true then (f_law_case sc L ((sc i.toNatClampNeg) &&& (63 : Int32)) i M).bind fun M1 => f_law_L sc L n (i + 4) M1 else none
section LAWL
variable {G : xG} {p : Program} {l : Launch} {e : Env} {s : State} {m : MethodId} {args : Array Value} {below : List Frame} {meth : Method} {c : Code} {Q : State → Prop} {b L : Nat} {sc : Nat → Int32}
set_option maxHeartbeats 8000000 in
set_option maxRecDepth 100000 in
theorem t_law_case (C : xC G p s m args c cL_law 9 wsL_law RL) (hfl : l.stackTraces = false) (X : xLw G s b L sc) {i k : Int32} {M M9 : xM} {ta : Nat × Nat} {k0 n0 : Nat} (hk0 : k0 + 54 ≤ 603072) (hn0 : n0 + 7600 ≤ 7166058) (hf : f_law_case sc L k i M = some M9) (kk : ∀ ta2, xW G p l e room_1 s m args below meth c 9 Q (k0 + 54) (n0 + 7600) ta2 M9 2752 [(0, .ref b), (1, .ref (xad G 0)), (2, .ref (xad G 9)), (3, .ref (xad G 20)), (4, .ref (xad G 21)), (5, .int i)] []) : xW G p l e room_1 s m args below meth c 9 Q k0 n0 ta M 44 [(0, .ref b), (1, .ref (xad G 0)), (2, .ref (xad G 9)), (3, .ref (xad G 20)), (4, .ref (xad G 21)), (5, .int i)] [.int k] := by
  unfold f_law_case at hf
  rcases Decidable.em (k = 0) with h0 | h0
  · have hf := x_ip h0 hf
    refine x_tableIn C 276 dL_law_44 (by rw [h0]; decide) (by rw [h0]; decide) (by rw [h0]; rfl) (by decide) ?_
    exact t_law_c0 C hfl X hk0 hn0 hf kk
  have hf := x_ine h0 hf
  rcases Decidable.em (k = 1) with h1 | h1
  · have hf := x_ip h1 hf
    refine x_tableIn C 332 dL_law_44 (by rw [h1]; decide) (by rw [h1]; decide) (by rw [h1]; rfl) (by decide) ?_
    exact t_law_c1 C hfl X hk0 hn0 hf kk
  have hf := x_ine h1 hf
  rcases Decidable.em (k = 2) with h2 | h2
  · have hf := x_ip h2 hf
    refine x_tableIn C 412 dL_law_44 (by rw [h2]; decide) (by rw [h2]; decide) (by rw [h2]; rfl) (by decide) ?_
    exact t_law_c2 C hfl X hk0 hn0 hf kk
  have hf := x_ine h2 hf
  rcases Decidable.em (k = 3) with h3 | h3
  · have hf := x_ip h3 hf
    refine x_tableIn C 468 dL_law_44 (by rw [h3]; decide) (by rw [h3]; decide) (by rw [h3]; rfl) (by decide) ?_
    exact t_law_c3 C hfl X hk0 hn0 hf kk
  have hf := x_ine h3 hf
  rcases Decidable.em (k = 4) with h4 | h4
  · have hf := x_ip h4 hf
    refine x_tableIn C 512 dL_law_44 (by rw [h4]; decide) (by rw [h4]; decide) (by rw [h4]; rfl) (by decide) ?_
    exact t_law_c4 C hfl X hk0 hn0 hf kk
  have hf := x_ine h4 hf
  rcases Decidable.em (k = 5) with h5 | h5
  · have hf := x_ip h5 hf
    refine x_tableIn C 580 dL_law_44 (by rw [h5]; decide) (by rw [h5]; decide) (by rw [h5]; rfl) (by decide) ?_
    exact t_law_c5 C hfl X hk0 hn0 hf kk
  have hf := x_ine h5 hf
  rcases Decidable.em (k = 6) with h6 | h6
  · have hf := x_ip h6 hf
    refine x_tableIn C 636 dL_law_44 (by rw [h6]; decide) (by rw [h6]; decide) (by rw [h6]; rfl) (by decide) ?_
    exact t_law_c6 C hfl X hk0 hn0 hf kk
  have hf := x_ine h6 hf
  rcases Decidable.em (k = 7) with h7 | h7
  · have hf := x_ip h7 hf
    refine x_tableIn C 692 dL_law_44 (by rw [h7]; decide) (by rw [h7]; decide) (by rw [h7]; rfl) (by decide) ?_
    exact t_law_c7 C hfl X hk0 hn0 hf kk
  have hf := x_ine h7 hf
  rcases Decidable.em (k = 8) with h8 | h8
  · have hf := x_ip h8 hf
    refine x_tableIn C 748 dL_law_44 (by rw [h8]; decide) (by rw [h8]; decide) (by rw [h8]; rfl) (by decide) ?_
    exact t_law_c8 C hfl X hk0 hn0 hf kk
  have hf := x_ine h8 hf
  rcases Decidable.em (k = 9) with h9 | h9
  · have hf := x_ip h9 hf
    refine x_tableIn C 804 dL_law_44 (by rw [h9]; decide) (by rw [h9]; decide) (by rw [h9]; rfl) (by decide) ?_
    exact t_law_c9 C hfl X hk0 hn0 hf kk
  have hf := x_ine h9 hf
  rcases Decidable.em (k = 10) with h10 | h10
  · have hf := x_ip h10 hf
    refine x_tableIn C 817 dL_law_44 (by rw [h10]; decide) (by rw [h10]; decide) (by rw [h10]; rfl) (by decide) ?_
    exact t_law_c10 C hfl X hk0 hn0 hf kk
  have hf := x_ine h10 hf
  rcases Decidable.em (k = 11) with h11 | h11
  · have hf := x_ip h11 hf
    refine x_tableIn C 873 dL_law_44 (by rw [h11]; decide) (by rw [h11]; decide) (by rw [h11]; rfl) (by decide) ?_
    exact t_law_c11 C hfl X hk0 hn0 hf kk
  have hf := x_ine h11 hf
  rcases Decidable.em (k = 12) with h12 | h12
  · have hf := x_ip h12 hf
    refine x_tableIn C 929 dL_law_44 (by rw [h12]; decide) (by rw [h12]; decide) (by rw [h12]; rfl) (by decide) ?_
    exact t_law_c12 C hfl X hk0 hn0 hf kk
  have hf := x_ine h12 hf
  rcases Decidable.em (k = 13) with h13 | h13
  · have hf := x_ip h13 hf
    refine x_tableIn C 985 dL_law_44 (by rw [h13]; decide) (by rw [h13]; decide) (by rw [h13]; rfl) (by decide) ?_
    exact t_law_c13 C hfl X hk0 hn0 hf kk
  have hf := x_ine h13 hf
  rcases Decidable.em (k = 14) with h14 | h14
  · have hf := x_ip h14 hf
    refine x_tableIn C 1041 dL_law_44 (by rw [h14]; decide) (by rw [h14]; decide) (by rw [h14]; rfl) (by decide) ?_
    exact t_law_c14 C hfl X hk0 hn0 hf kk
  have hf := x_ine h14 hf
  rcases Decidable.em (k = 15) with h15 | h15
  · have hf := x_ip h15 hf
    refine x_tableIn C 1097 dL_law_44 (by rw [h15]; decide) (by rw [h15]; decide) (by rw [h15]; rfl) (by decide) ?_
    exact t_law_c15 C hfl X hk0 hn0 hf kk
  have hf := x_ine h15 hf
  rcases Decidable.em (k = 16) with h16 | h16
  · have hf := x_ip h16 hf
    refine x_tableIn C 1160 dL_law_44 (by rw [h16]; decide) (by rw [h16]; decide) (by rw [h16]; rfl) (by decide) ?_
    exact t_law_c16 C hfl X hk0 hn0 hf kk
  have hf := x_ine h16 hf
  rcases Decidable.em (k = 17) with h17 | h17
  · have hf := x_ip h17 hf
    refine x_tableIn C 1223 dL_law_44 (by rw [h17]; decide) (by rw [h17]; decide) (by rw [h17]; rfl) (by decide) ?_
    exact t_law_c17 C hfl X hk0 hn0 hf kk
  have hf := x_ine h17 hf
  rcases Decidable.em (k = 18) with h18 | h18
  · have hf := x_ip h18 hf
    refine x_tableIn C 1279 dL_law_44 (by rw [h18]; decide) (by rw [h18]; decide) (by rw [h18]; rfl) (by decide) ?_
    exact t_law_c18 C hfl X hk0 hn0 hf kk
  have hf := x_ine h18 hf
  rcases Decidable.em (k = 19) with h19 | h19
  · have hf := x_ip h19 hf
    refine x_tableIn C 1335 dL_law_44 (by rw [h19]; decide) (by rw [h19]; decide) (by rw [h19]; rfl) (by decide) ?_
    exact t_law_c19 C hfl X hk0 hn0 hf kk
  have hf := x_ine h19 hf
  rcases Decidable.em (k = 20) with h20 | h20
  · have hf := x_ip h20 hf
    refine x_tableIn C 1391 dL_law_44 (by rw [h20]; decide) (by rw [h20]; decide) (by rw [h20]; rfl) (by decide) ?_
    exact t_law_c20 C hfl X hk0 hn0 hf kk
  have hf := x_ine h20 hf
  rcases Decidable.em (k = 21) with h21 | h21
  · have hf := x_ip h21 hf
    refine x_tableIn C 1404 dL_law_44 (by rw [h21]; decide) (by rw [h21]; decide) (by rw [h21]; rfl) (by decide) ?_
    exact t_law_c21 C hfl X hk0 hn0 hf kk
  have hf := x_ine h21 hf
  rcases Decidable.em (k = 22) with h22 | h22
  · have hf := x_ip h22 hf
    refine x_tableIn C 1460 dL_law_44 (by rw [h22]; decide) (by rw [h22]; decide) (by rw [h22]; rfl) (by decide) ?_
    exact t_law_c22 C hfl X hk0 hn0 hf kk
  have hf := x_ine h22 hf
  rcases Decidable.em (k = 23) with h23 | h23
  · have hf := x_ip h23 hf
    refine x_tableIn C 1516 dL_law_44 (by rw [h23]; decide) (by rw [h23]; decide) (by rw [h23]; rfl) (by decide) ?_
    exact t_law_c23 C hfl X hk0 hn0 hf kk
  have hf := x_ine h23 hf
  rcases Decidable.em (k = 24) with h24 | h24
  · have hf := x_ip h24 hf
    refine x_tableIn C 1572 dL_law_44 (by rw [h24]; decide) (by rw [h24]; decide) (by rw [h24]; rfl) (by decide) ?_
    exact t_law_c24 C hfl X hk0 hn0 hf kk
  have hf := x_ine h24 hf
  rcases Decidable.em (k = 25) with h25 | h25
  · have hf := x_ip h25 hf
    refine x_tableIn C 1628 dL_law_44 (by rw [h25]; decide) (by rw [h25]; decide) (by rw [h25]; rfl) (by decide) ?_
    exact t_law_c25 C hfl X hk0 hn0 hf kk
  have hf := x_ine h25 hf
  rcases Decidable.em (k = 26) with h26 | h26
  · have hf := x_ip h26 hf
    refine x_tableIn C 1684 dL_law_44 (by rw [h26]; decide) (by rw [h26]; decide) (by rw [h26]; rfl) (by decide) ?_
    exact t_law_c26 C hfl X hk0 hn0 hf kk
  have hf := x_ine h26 hf
  rcases Decidable.em (k = 27) with h27 | h27
  · have hf := x_ip h27 hf
    refine x_tableIn C 1740 dL_law_44 (by rw [h27]; decide) (by rw [h27]; decide) (by rw [h27]; rfl) (by decide) ?_
    exact t_law_c27 C hfl X hk0 hn0 hf kk
  have hf := x_ine h27 hf
  rcases Decidable.em (k = 28) with h28 | h28
  · have hf := x_ip h28 hf
    refine x_tableIn C 1753 dL_law_44 (by rw [h28]; decide) (by rw [h28]; decide) (by rw [h28]; rfl) (by decide) ?_
    exact t_law_c28 C hfl X hk0 hn0 hf kk
  have hf := x_ine h28 hf
  rcases Decidable.em (k = 29) with h29 | h29
  · have hf := x_ip h29 hf
    refine x_tableIn C 1766 dL_law_44 (by rw [h29]; decide) (by rw [h29]; decide) (by rw [h29]; rfl) (by decide) ?_
    exact t_law_c29 C hfl X hk0 hn0 hf kk
  have hf := x_ine h29 hf
  rcases Decidable.em (k = 30) with h30 | h30
  · have hf := x_ip h30 hf
    refine x_tableIn C 1822 dL_law_44 (by rw [h30]; decide) (by rw [h30]; decide) (by rw [h30]; rfl) (by decide) ?_
    exact t_law_c30 C hfl X hk0 hn0 hf kk
  have hf := x_ine h30 hf
  rcases Decidable.em (k = 31) with h31 | h31
  · have hf := x_ip h31 hf
    refine x_tableIn C 1890 dL_law_44 (by rw [h31]; decide) (by rw [h31]; decide) (by rw [h31]; rfl) (by decide) ?_
    exact t_law_c31 C hfl X hk0 hn0 hf kk
  have hf := x_ine h31 hf
  rcases Decidable.em (k = 32) with h32 | h32
  · have hf := x_ip h32 hf
    refine x_tableIn C 1946 dL_law_44 (by rw [h32]; decide) (by rw [h32]; decide) (by rw [h32]; rfl) (by decide) ?_
    exact t_law_c32 C hfl X hk0 hn0 hf kk
  have hf := x_ine h32 hf
  rcases Decidable.em (k = 33) with h33 | h33
  · have hf := x_ip h33 hf
    refine x_tableIn C 2002 dL_law_44 (by rw [h33]; decide) (by rw [h33]; decide) (by rw [h33]; rfl) (by decide) ?_
    exact t_law_c33 C hfl X hk0 hn0 hf kk
  have hf := x_ine h33 hf
  rcases Decidable.em (k = 34) with h34 | h34
  · have hf := x_ip h34 hf
    refine x_tableIn C 2058 dL_law_44 (by rw [h34]; decide) (by rw [h34]; decide) (by rw [h34]; rfl) (by decide) ?_
    exact t_law_c34 C hfl X hk0 hn0 hf kk
  have hf := x_ine h34 hf
  rcases Decidable.em (k = 35) with h35 | h35
  · have hf := x_ip h35 hf
    refine x_tableIn C 2114 dL_law_44 (by rw [h35]; decide) (by rw [h35]; decide) (by rw [h35]; rfl) (by decide) ?_
    exact t_law_c35 C hfl X hk0 hn0 hf kk
  have hf := x_ine h35 hf
  rcases Decidable.em (k = 36) with h36 | h36
  · have hf := x_ip h36 hf
    refine x_tableIn C 2170 dL_law_44 (by rw [h36]; decide) (by rw [h36]; decide) (by rw [h36]; rfl) (by decide) ?_
    exact t_law_c36 C hfl X hk0 hn0 hf kk
  have hf := x_ine h36 hf
  rcases Decidable.em (k = 37) with h37 | h37
  · have hf := x_ip h37 hf
    refine x_tableIn C 2183 dL_law_44 (by rw [h37]; decide) (by rw [h37]; decide) (by rw [h37]; rfl) (by decide) ?_
    exact t_law_c37 C hfl X hk0 hn0 hf kk
  have hf := x_ine h37 hf
  rcases Decidable.em (k = 38) with h38 | h38
  · have hf := x_ip h38 hf
    refine x_tableIn C 2196 dL_law_44 (by rw [h38]; decide) (by rw [h38]; decide) (by rw [h38]; rfl) (by decide) ?_
    exact t_law_c38 C hfl X hk0 hn0 hf kk
  have hf := x_ine h38 hf
  rcases Decidable.em (k = 39) with h39 | h39
  · have hf := x_ip h39 hf
    refine x_tableIn C 2209 dL_law_44 (by rw [h39]; decide) (by rw [h39]; decide) (by rw [h39]; rfl) (by decide) ?_
    exact t_law_c39 C hfl X hk0 hn0 hf kk
  have hf := x_ine h39 hf
  rcases Decidable.em (k = 40) with h40 | h40
  · have hf := x_ip h40 hf
    refine x_tableIn C 2222 dL_law_44 (by rw [h40]; decide) (by rw [h40]; decide) (by rw [h40]; rfl) (by decide) ?_
    exact t_law_c40 C hfl X hk0 hn0 hf kk
  have hf := x_ine h40 hf
  rcases Decidable.em (k = 41) with h41 | h41
  · have hf := x_ip h41 hf
    refine x_tableIn C 2235 dL_law_44 (by rw [h41]; decide) (by rw [h41]; decide) (by rw [h41]; rfl) (by decide) ?_
    exact t_law_c41 C hfl X hk0 hn0 hf kk
  have hf := x_ine h41 hf
  rcases Decidable.em (k = 42) with h42 | h42
  · have hf := x_ip h42 hf
    refine x_tableIn C 2300 dL_law_44 (by rw [h42]; decide) (by rw [h42]; decide) (by rw [h42]; rfl) (by decide) ?_
    exact t_law_c42 C hfl X hk0 hn0 hf kk
  have hf := x_ine h42 hf
  rcases Decidable.em (k = 43) with h43 | h43
  · have hf := x_ip h43 hf
    refine x_tableIn C 2366 dL_law_44 (by rw [h43]; decide) (by rw [h43]; decide) (by rw [h43]; rfl) (by decide) ?_
    exact t_law_c43 C hfl X hk0 hn0 hf kk
  have hf := x_ine h43 hf
  rcases Decidable.em (k = 44) with h44 | h44
  · have hf := x_ip h44 hf
    refine x_tableIn C 2379 dL_law_44 (by rw [h44]; decide) (by rw [h44]; decide) (by rw [h44]; rfl) (by decide) ?_
    exact t_law_c44 C hfl X hk0 hn0 hf kk
  have hf := x_ine h44 hf
  rcases Decidable.em (k = 45) with h45 | h45
  · have hf := x_ip h45 hf
    refine x_tableIn C 2392 dL_law_44 (by rw [h45]; decide) (by rw [h45]; decide) (by rw [h45]; rfl) (by decide) ?_
    exact t_law_c45 C hfl X hk0 hn0 hf kk
  have hf := x_ine h45 hf
  rcases Decidable.em (k = 46) with h46 | h46
  · have hf := x_ip h46 hf
    refine x_tableIn C 2405 dL_law_44 (by rw [h46]; decide) (by rw [h46]; decide) (by rw [h46]; rfl) (by decide) ?_
    exact t_law_c46 C hfl X hk0 hn0 hf kk
  have hf := x_ine h46 hf
  rcases Decidable.em (k = 47) with h47 | h47
  · have hf := x_ip h47 hf
    refine x_tableIn C 2461 dL_law_44 (by rw [h47]; decide) (by rw [h47]; decide) (by rw [h47]; rfl) (by decide) ?_
    exact t_law_c47 C hfl X hk0 hn0 hf kk
  have hf := x_ine h47 hf
  rcases Decidable.em (k = 48) with h48 | h48
  · have hf := x_ip h48 hf
    refine x_tableIn C 2519 dL_law_44 (by rw [h48]; decide) (by rw [h48]; decide) (by rw [h48]; rfl) (by decide) ?_
    exact t_law_c48 C hfl X hk0 hn0 hf kk
  have hf := x_ine h48 hf
  rcases Decidable.em (k = 49) with h49 | h49
  · have hf := x_ip h49 hf
    refine x_tableIn C 2563 dL_law_44 (by rw [h49]; decide) (by rw [h49]; decide) (by rw [h49]; rfl) (by decide) ?_
    exact t_law_c49 C hfl X hk0 hn0 hf kk
  have hf := x_ine h49 hf
  rcases Decidable.em (k = 50) with h50 | h50
  · have hf := x_ip h50 hf
    refine x_tableIn C 2607 dL_law_44 (by rw [h50]; decide) (by rw [h50]; decide) (by rw [h50]; rfl) (by decide) ?_
    exact t_law_c50 C hfl X hk0 hn0 hf kk
  have hf := x_ine h50 hf
  rcases Decidable.em (k = 51) with h51 | h51
  · have hf := x_ip h51 hf
    refine x_tableIn C 2651 dL_law_44 (by rw [h51]; decide) (by rw [h51]; decide) (by rw [h51]; rfl) (by decide) ?_
    exact t_law_c51 C hfl X hk0 hn0 hf kk
  have hf := x_ine h51 hf
  rcases Decidable.em (k = 52) with h52 | h52
  · have hf := x_ip h52 hf
    refine x_tableIn C 2695 dL_law_44 (by rw [h52]; decide) (by rw [h52]; decide) (by rw [h52]; rfl) (by decide) ?_
    exact t_law_c52 C hfl X hk0 hn0 hf kk
  have hf := x_ine h52 hf
  rcases Decidable.em (k = 53) with h53 | h53
  · have hf := x_ip h53 hf
    refine x_tableIn C 2708 dL_law_44 (by rw [h53]; decide) (by rw [h53]; decide) (by rw [h53]; rfl) (by decide) ?_
    exact t_law_c53 C hfl X hk0 hn0 hf kk
  have hf := x_ine h53 hf
  refine x_tableOut C 2752 dL_law_44 (by have q0 := lv_neT (a := 0) h0 (by decide); have q1 := lv_neT (a := 1) h1 (by decide); have q2 := lv_neT (a := 2) h2 (by decide); have q3 := lv_neT (a := 3) h3 (by decide); have q4 := lv_neT (a := 4) h4 (by decide); have q5 := lv_neT (a := 5) h5 (by decide); have q6 := lv_neT (a := 6) h6 (by decide); have q7 := lv_neT (a := 7) h7 (by decide); have q8 := lv_neT (a := 8) h8 (by decide); have q9 := lv_neT (a := 9) h9 (by decide); have q10 := lv_neT (a := 10) h10 (by decide); have q11 := lv_neT (a := 11) h11 (by decide); have q12 := lv_neT (a := 12) h12 (by decide); have q13 := lv_neT (a := 13) h13 (by decide); have q14 := lv_neT (a := 14) h14 (by decide); have q15 := lv_neT (a := 15) h15 (by decide); have q16 := lv_neT (a := 16) h16 (by decide); have q17 := lv_neT (a := 17) h17 (by decide); have q18 := lv_neT (a := 18) h18 (by decide); have q19 := lv_neT (a := 19) h19 (by decide); have q20 := lv_neT (a := 20) h20 (by decide); have q21 := lv_neT (a := 21) h21 (by decide); have q22 := lv_neT (a := 22) h22 (by decide); have q23 := lv_neT (a := 23) h23 (by decide); have q24 := lv_neT (a := 24) h24 (by decide); have q25 := lv_neT (a := 25) h25 (by decide); have q26 := lv_neT (a := 26) h26 (by decide); have q27 := lv_neT (a := 27) h27 (by decide); have q28 := lv_neT (a := 28) h28 (by decide); have q29 := lv_neT (a := 29) h29 (by decide); have q30 := lv_neT (a := 30) h30 (by decide); have q31 := lv_neT (a := 31) h31 (by decide); have q32 := lv_neT (a := 32) h32 (by decide); have q33 := lv_neT (a := 33) h33 (by decide); have q34 := lv_neT (a := 34) h34 (by decide); have q35 := lv_neT (a := 35) h35 (by decide); have q36 := lv_neT (a := 36) h36 (by decide); have q37 := lv_neT (a := 37) h37 (by decide); have q38 := lv_neT (a := 38) h38 (by decide); have q39 := lv_neT (a := 39) h39 (by decide); have q40 := lv_neT (a := 40) h40 (by decide); have q41 := lv_neT (a := 41) h41 (by decide); have q42 := lv_neT (a := 42) h42 (by decide); have q43 := lv_neT (a := 43) h43 (by decide); have q44 := lv_neT (a := 44) h44 (by decide); have q45 := lv_neT (a := 45) h45 (by decide); have q46 := lv_neT (a := 46) h46 (by decide); have q47 := lv_neT (a := 47) h47 (by decide); have q48 := lv_neT (a := 48) h48 (by decide); have q49 := lv_neT (a := 49) h49 (by decide); have q50 := lv_neT (a := 50) h50 (by decide); have q51 := lv_neT (a := 51) h51 (by decide); have q52 := lv_neT (a := 52) h52 (by decide); have q53 := lv_neT (a := 53) h53 (by decide); omega) (by decide) ?_
  obtain rfl := Option.some.inj hf
  refine x_widen (k' := k0 + 54) (n' := n0 + 7600) (by omega) (by omega) ?_
  exact kk _
set_option maxHeartbeats 8000000 in
set_option maxRecDepth 100000 in
theorem t_law_L (C : xC G p s m args c cL_law 9 wsL_law RL) (hfl : l.stackTraces = false) (X : xLw G s b L sc) {out : xM} (kend : ∀ (i : Int32) (ta : Nat × Nat) (k1 n1 : Nat), k1 ≤ 603072 → n1 ≤ 7166058 → xW G p l e room_1 s m args below meth c 9 Q k1 n1 ta out 2758 [(0, .ref b), (1, .ref (xad G 0)), (2, .ref (xad G 9)), (3, .ref (xad G 20)), (4, .ref (xad G 21)), (5, .int i)] []) : ∀ (n : Nat) (i : Int32) (M : xM) (ta : Nat × Nat) (k0 n0 : Nat), k0 + n * 54 ≤ 603072 → n0 + n * 7600 ≤ 7166058 → f_law_L sc L n i M = some out → xW G p l e room_1 s m args below meth c 9 Q k0 n0 ta M 28 [(0, .ref b), (1, .ref (xad G 0)), (2, .ref (xad G 9)), (3, .ref (xad G 20)), (4, .ref (xad G 21)), (5, .int i)] [] := by
  intro n
  induction n with
  | zero =>
    intro i M ta k0 n0 hk0 hn0 hf
    unfold f_law_L at hf
    cases hf
  | succ n ih =>
    intro i M ta k0 n0 hk0 hn0 hf
    unfold f_law_L at hf
    refine x_iload C 5 dL_law_28 rfl ?_
    refine x_aload_n C 0 dL_law_30 rfl ?_
    refine x_slen C X dL_law_31 ?_
    refine x_iconst (v := 4) C dL_law_32 (by decide) ?_
    refine x_isub C dL_law_33 ?_
    refine x_icmp_gt C 2758 dL_law_34 (by decide) (fun h1 => ?_) (fun h1 => ?_)
    · have hf := x_ip h1 hf
      obtain rfl := Option.some.inj hf
      exact kend i ta k0 n0 (by omega) (by omega)
    · have hf := x_ine h1 hf
      obtain ⟨g1, hf⟩ := x_gd hf
      refine x_aload_n C 0 dL_law_37 rfl ?_
      refine x_iload C 5 dL_law_38 rfl ?_
      refine x_sald C X g1 dL_law_40 ?_
      refine x_bipush (v := 63) C dL_law_41 (by decide) ?_
      refine x_iand C dL_law_43 ?_
      obtain ⟨M1, hg, hf⟩ := x_bd hf
      refine t_law_case C hfl X (by omega) (by omega) hg (fun ta2 => ?_)
      refine x_iinc (v := i + 4) (lv' := [(5, .int (i + 4)), (0, .ref b), (1, .ref (xad G 0)), (2, .ref (xad G 9)), (3, .ref (xad G 20)), (4, .ref (xad G 21))]) C 5 dL_law_2752 rfl rfl (by decide) rfl ?_
      refine x_goto C 28 dL_law_2755 (by decide) ?_
      refine x_sub [1, 2, 3, 4, 5, 0] rfl ?_
      exact ih (i + 4) M1 ta2 _ _ (by omega) (by omega) hf
end LAWL
