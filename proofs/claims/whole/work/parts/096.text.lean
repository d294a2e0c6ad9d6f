/-! pure: signs and numbers written into a StringBuilder -/
theorem sh_l {x : Int32} : x <<< (nI 0 &&& 31) = x := by
  rw [show nI 0 &&& 31 = 0 from by decide]
  exact Int32.shiftLeft_zero
theorem sh_r {x : Int32} : x >>> (nI 0 &&& 31) = x := by
  rw [show nI 0 &&& 31 = 0 from by decide]
  exact Int32.shiftRight_zero
theorem nar_b : ∀ x, x < 128 → vp_nar .byte (nI x) = nI x := by decide +kernel
theorem nar_t : ∀ x, x < 128 → vp_nar .byte (nI x).toInt8.toInt32 = nI x := by decide +kernel
/-- nothing but the builder at h has changed -/
def sBF (h : Nat) (M M' : xM) : Prop := (∀ c, c ≠ h → c ≠ h + 1 → M'.1 c = M.1 c ∧ M'.2.1 c = M.2.1 c) ∧ M'.2.2 = M.2.2
theorem sBF.rf {h : Nat} {M : xM} : sBF h M M := ⟨fun _ _ _ => ⟨rfl, rfl⟩, rfl⟩
theorem sBF.tr {h : Nat} {M M' M'' : xM} (a : sBF h M M') (b : sBF h M' M'') : sBF h M M'' := ⟨fun c h1 h2 => ⟨(b.1 c h1 h2).1.trans (a.1 c h1 h2).1, (b.1 c h1 h2).2.trans (a.1 c h1 h2).2⟩, b.2.trans a.2⟩
theorem sBF_I {h c k : Nat} {M : xM} {v : Int32} (hc : c = h ∨ c = h + 1) : sBF h M (sI M c k v) := ⟨fun d h1 h2 => ⟨sI_c (by omega), rfl⟩, rfl⟩
theorem sBF_G {h : Nat} {M : xM} {g : Nat → Int32} : sBF h M (mG M (h + 1) g) := ⟨fun d h1 h2 => ⟨mG_n h2, rfl⟩, rfl⟩
theorem sG_n {M : xM} {c n : Nat} {g : Nat → Int32} : (sG M c n g).2.1 c 1 = n := by
  show va_up M.2.1 c (va_up (M.2.1 c) 1 n) c 1 = n
  rw [va_up_self, va_up_self]
section TX
variable {h : Nat} {M : xM} {L : Nat} {t : Nat → Nat}
theorem c_ens (b : sB h M L t) {m : Nat} (hm : m ≤ 142) (hm2 : m ≤ L + 10) : ∃ M', f_J5_ensureCapacityInternal_d00df h (nI m) M = some M' ∧ sB h M' L t ∧ m ≤ M'.2.1 (h + 1) 1 ∧ sBF h M M' := by
  obtain ⟨b1, b2, b3, b4, b5, b6⟩ := id b
  generalize hc : M.2.1 (h + 1) 1 = cap at b4 b5 b6
  unfold f_J5_ensureCapacityInternal_d00df
  rw [b1, hc, sh_r]
  have ec : Int32.ofNat cap = nI cap := rfl
  rw [ec]
  by_cases z : m ≤ cap
  · refine ⟨M, if_pos ?_, b, by rw [hc]; exact z, sBF.rf⟩
    by_cases e : m = cap
    · rw [e, pi_sub (Nat.le_refl _), Nat.sub_self]
      decide
    · exact Int32.le_of_lt (pk_sneg (by omega) (by omega))
  · have hcap : cap = 16 ∨ cap = 34 ∨ cap = 70 := by omega
    rw [if_neg (by rw [pi_sub (by omega)]; exact nI_ge (a := 0) (by omega) (by omega))]
    have e1 : f_J5_newCapacity_0f7a4 h (nI m) M = some (nI (2 * cap + 2)) := by
      unfold f_J5_newCapacity_0f7a4 f_J8_newLength_cabcc
      rw [b1, hc, sh_l, sh_l, ec, pi_sub (by omega), show (2 : Int32) = nI 2 from rfl, nI_add, if_pos (show nI (m - cap) < nI (cap + 2) from nI_lt (by omega) (by omega)), nI_add, if_neg (show ¬ nI (cap + (cap + 2)) ≤ 0 from nI_ge (a := 0) (by omega) (by omega)), show (2147483639 : Int32) = nI 2147483639 from rfl, if_neg (nI_nlt (by omega) (by omega)), Option.bind_some, show (2147483647 : Int32) = nI 2147483647 from rfl, if_neg (fun x => by have := (nI_eq (by omega) (by omega)).mp x; omega), sh_r]
      exact congrArg (fun x => some (nI x)) (by omega)
    rw [e1, Option.bind_some, sh_l, if_pos (show ¬ nI (2 * cap + 2) < 0 from nI_nlt (b := 0) (by omega) (by omega)), pi_cl (by omega), if_pos (by omega), if_pos (by omega), if_pos (by
      unfold x_fitB
      rw [List.all_eq_true]
      intro j hj
      exact decide_eq_true (b6 j (List.mem_range.mp hj)))]
    refine ⟨_, rfl, ⟨?_, ?_, fun j hj => ?_, ?_, ?_, fun j hj => ?_⟩, ?_, fun c h1 h2 => ⟨va_up_ne _ _ h2, va_up_ne _ _ h2⟩, rfl⟩
    · show va_up M.1 (h + 1) _ h 1 = _
      rw [va_up_ne _ _ (by omega)]; exact b1
    · show va_up M.1 (h + 1) _ h 3 = _
      rw [va_up_ne _ _ (by omega)]; exact b2
    · show va_up M.1 (h + 1) _ (h + 1) j = _ ∧ _
      rw [va_up_self, pk_cpy_in (by omega) (by omega), Nat.zero_add, Nat.sub_zero]
      exact b3 j hj
    · rw [sG_n]
      omega
    · rw [sG_n]
      omega
    · show vp_nar .byte (va_up M.1 (h + 1) _ (h + 1) j) = va_up M.1 (h + 1) _ (h + 1) j
      rw [va_up_self]
      by_cases w : j < cap
      · rw [pk_cpy_in (by omega) (by omega), Nat.zero_add, Nat.sub_zero]
        exact b6 j w
      · rw [pk_cpy_out (by omega)]
        exact nar_b 0 (by decide)
    · rw [sG_n]
      omega
theorem c_appc (b : sB h M L t) {ch : Nat} (hch : ch < 128) (hL : L < 142) : ∃ M', f_J4_append_cf468 h (nI ch) M = some M' ∧ sB h M' (L + 1) (va_up t L ch) ∧ sBF h M M' := by
  obtain ⟨M1, e1, b', hc, f1⟩ := c_ens b (m := L + 1) (by omega) (by omega)
  obtain ⟨b1, b2, b3, b4, b5, b6⟩ := id b'
  unfold f_J4_append_cf468 f_J5_append_3fe6f
  rw [b.2.1, pi_1, nI_add, e1, Option.bind_some]
  unfold f_J5_isLatin1_aae02 f_J1_canEncode_fc78d
  rw [b1, if_neg (show ¬ (1 : Int32) = 0 by decide), if_pos (show nI 0 = 0 from rfl), Option.bind_some, if_neg (show ¬ (1 : Int32) = 0 by decide), show (255 : Int32) = nI 255 from rfl, if_neg (nI_nlt (by omega) (by omega)), Option.bind_some, if_neg (show ¬ (1 : Int32) = 0 by decide), x_let_e, b2, nI_add, if_pos (show x_in (nI L) ((sI M1 h 3 (nI (L + 1))).2.1 (h + 1) 1) = true from pi_in (N := M1.2.1 (h + 1) 1) (by omega) (by omega)), x_let_e, Option.bind_some, pi_cl (by omega), nar_t ch hch]
  have eh : ∀ k, k ≠ 3 → (sI (sI M1 h 3 (nI (L + 1))) (h + 1) L (nI ch)).1 h k = M1.1 h k := fun k hk => by rw [sI_c (by omega), sI_k hk]
  refine ⟨_, rfl, ⟨?_, ?_, fun j hj => ?_, b4, ?_, fun j hj => ?_⟩, f1.tr ((sBF_I (.inl rfl)).tr (sBF_I (.inr rfl)))⟩
  · rw [eh 1 (by decide)]; exact b1
  · rw [sI_c (by omega), sI_s]
  · by_cases w : j = L
    · subst w
      rw [sI_s, va_up_self]
      exact ⟨rfl, hch⟩
    · rw [sI_k w, sI_c (by omega), va_up_ne _ _ w]
      exact b3 j (by omega)
  · exact hc
  · have hj : j < M1.2.1 (h + 1) 1 := hj
    by_cases w : j = L
    · subst w
      rw [sI_s]
      exact nar_b ch hch
    · rw [sI_k w, sI_c (by omega)]
      exact b6 j hj
theorem c_len (b : sB h M L t) : f_J4_length_8abf5 h M = some (nI L) := by
  unfold f_J4_length_8abf5 f_J5_length_8abf5
  rw [b.2.1]
  rfl
end TX
