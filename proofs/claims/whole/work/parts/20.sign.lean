/-! THE CLASS: statics, Sign, PriceList -/
theorem sx_far_comm (a b : Nat) : sx_far a b = sx_far b a := by unfold sx_far; split <;> split <;> omega
theorem sx_sgm : ∀ a, a < 10 → ∀ c, c < 10 → (((nI c - nI a) >>> ((nI 31) &&& 31)) ||| (((-(nI c - nI a)).toUInt32 >>> ((nI 31).toUInt32 &&& Int32.toUInt32 31)).toInt32)) = sx_sgn a c := by decide +kernel
theorem sx_bcm : ∀ a, a < 512 → (((((((((nI a) - ((((nI a).toUInt32 >>> ((nI 1).toUInt32 &&& Int32.toUInt32 31)).toInt32) &&& (nI 1431655765))) &&& (nI 858993459)) + (((((nI a) - ((((nI a).toUInt32 >>> ((nI 1).toUInt32 &&& Int32.toUInt32 31)).toInt32) &&& (nI 1431655765))).toUInt32 >>> ((nI 2).toUInt32 &&& Int32.toUInt32 31)).toInt32) &&& (nI 858993459))) + ((((((nI a) - ((((nI a).toUInt32 >>> ((nI 1).toUInt32 &&& Int32.toUInt32 31)).toInt32) &&& (nI 1431655765))) &&& (nI 858993459)) + (((((nI a) - ((((nI a).toUInt32 >>> ((nI 1).toUInt32 &&& Int32.toUInt32 31)).toInt32) &&& (nI 1431655765))).toUInt32 >>> ((nI 2).toUInt32 &&& Int32.toUInt32 31)).toInt32) &&& (nI 858993459))).toUInt32 >>> ((nI 4).toUInt32 &&& Int32.toUInt32 31)).toInt32)) &&& (nI 252645135)) + ((((((((nI a) - ((((nI a).toUInt32 >>> ((nI 1).toUInt32 &&& Int32.toUInt32 31)).toInt32) &&& (nI 1431655765))) &&& (nI 858993459)) + (((((nI a) - ((((nI a).toUInt32 >>> ((nI 1).toUInt32 &&& Int32.toUInt32 31)).toInt32) &&& (nI 1431655765))).toUInt32 >>> ((nI 2).toUInt32 &&& Int32.toUInt32 31)).toInt32) &&& (nI 858993459))) + ((((((nI a) - ((((nI a).toUInt32 >>> ((nI 1).toUInt32 &&& Int32.toUInt32 31)).toInt32) &&& (nI 1431655765))) &&& (nI 858993459)) + (((((nI a) - ((((nI a).toUInt32 >>> ((nI 1).toUInt32 &&& Int32.toUInt32 31)).toInt32) &&& (nI 1431655765))).toUInt32 >>> ((nI 2).toUInt32 &&& Int32.toUInt32 31)).toInt32) &&& (nI 858993459))).toUInt32 >>> ((nI 4).toUInt32 &&& Int32.toUInt32 31)).toInt32)) &&& (nI 252645135)).toUInt32 >>> ((nI 8).toUInt32 &&& Int32.toUInt32 31)).toInt32)) + (((((((((nI a) - ((((nI a).toUInt32 >>> ((nI 1).toUInt32 &&& Int32.toUInt32 31)).toInt32) &&& (nI 1431655765))) &&& (nI 858993459)) + (((((nI a) - ((((nI a).toUInt32 >>> ((nI 1).toUInt32 &&& Int32.toUInt32 31)).toInt32) &&& (nI 1431655765))).toUInt32 >>> ((nI 2).toUInt32 &&& Int32.toUInt32 31)).toInt32) &&& (nI 858993459))) + ((((((nI a) - ((((nI a).toUInt32 >>> ((nI 1).toUInt32 &&& Int32.toUInt32 31)).toInt32) &&& (nI 1431655765))) &&& (nI 858993459)) + (((((nI a) - ((((nI a).toUInt32 >>> ((nI 1).toUInt32 &&& Int32.toUInt32 31)).toInt32) &&& (nI 1431655765))).toUInt32 >>> ((nI 2).toUInt32 &&& Int32.toUInt32 31)).toInt32) &&& (nI 858993459))).toUInt32 >>> ((nI 4).toUInt32 &&& Int32.toUInt32 31)).toInt32)) &&& (nI 252645135)) + ((((((((nI a) - ((((nI a).toUInt32 >>> ((nI 1).toUInt32 &&& Int32.toUInt32 31)).toInt32) &&& (nI 1431655765))) &&& (nI 858993459)) + (((((nI a) - ((((nI a).toUInt32 >>> ((nI 1).toUInt32 &&& Int32.toUInt32 31)).toInt32) &&& (nI 1431655765))).toUInt32 >>> ((nI 2).toUInt32 &&& Int32.toUInt32 31)).toInt32) &&& (nI 858993459))) + ((((((nI a) - ((((nI a).toUInt32 >>> ((nI 1).toUInt32 &&& Int32.toUInt32 31)).toInt32) &&& (nI 1431655765))) &&& (nI 858993459)) + (((((nI a) - ((((nI a).toUInt32 >>> ((nI 1).toUInt32 &&& Int32.toUInt32 31)).toInt32) &&& (nI 1431655765))).toUInt32 >>> ((nI 2).toUInt32 &&& Int32.toUInt32 31)).toInt32) &&& (nI 858993459))).toUInt32 >>> ((nI 4).toUInt32 &&& Int32.toUInt32 31)).toInt32)) &&& (nI 252645135)).toUInt32 >>> ((nI 8).toUInt32 &&& Int32.toUInt32 31)).toInt32)).toUInt32 >>> ((nI 16).toUInt32 &&& Int32.toUInt32 31)).toInt32)) &&& (nI 63)) = nI (sx_pc a) := by decide +kernel
def sx_s1 (a c : Nat) : Nat := if c < a then 0 else if a < c then 2 else 1
theorem sx_sgn1 (a c : Nat) : sx_sgn a c + nI 1 = nI (sx_s1 a c) := by
  unfold sx_sgn sx_s1
  by_cases h : c < a
  · rw [if_pos h, if_pos h]; decide
  · rw [if_neg h, if_neg h]
    by_cases h2 : a < c
    · rw [if_pos h2, if_pos h2]; decide
    · rw [if_neg h2, if_neg h2]; decide
theorem sx_s1_le (a c : Nat) : sx_s1 a c ≤ 2 := by unfold sx_s1; split; omega; split <;> omega
theorem sx_cdir {a b c d : Nat} (h : ¬ (a = c ∧ b = d)) : sx_compass (3 * sx_s1 b d + sx_s1 a c) = .int (nI (sx_dir a b c d)) := by
  unfold sx_s1 sx_dir
  rcases Nat.lt_trichotomy a c with h1 | h1 | h1 <;> rcases Nat.lt_trichotomy b d with h2 | h2 | h2
  · rw [if_neg (by omega), if_pos h2, if_neg (by omega), if_pos h1, if_neg (by omega), if_neg (by omega), if_pos h2, if_pos h1]; rfl
  · rw [if_neg (by omega), if_neg (by omega), if_neg (by omega), if_pos h1, if_pos (by omega), if_pos h1]; rfl
  · rw [if_pos h2, if_neg (by omega), if_pos h1, if_neg (by omega), if_neg (by omega), if_neg (by omega), if_pos h1]; rfl
  · rw [if_neg (by omega), if_pos h2, if_neg (by omega), if_neg (by omega), if_neg (by omega), if_pos (by omega), if_pos h2]; rfl
  · exact absurd ⟨h1, h2⟩ h
  · rw [if_pos h2, if_neg (by omega), if_neg (by omega), if_neg (by omega), if_pos (by omega), if_neg (by omega)]; rfl
  · rw [if_neg (by omega), if_pos h2, if_pos h1, if_neg (by omega), if_neg (by omega), if_pos h2, if_neg (by omega)]; rfl
  · rw [if_neg (by omega), if_neg (by omega), if_pos h1, if_pos (by omega), if_neg (by omega)]; rfl
  · rw [if_pos h2, if_pos h1, if_neg (by omega), if_neg (by omega), if_neg (by omega), if_neg (by omega)]; rfl
theorem sx_dir_lt (a b c d : Nat) : sx_dir a b c d < 8 := by unfold sx_dir; (repeat' split) <;> omega
def sx_strN (a b c d : Nat) : Nat := if ¬ (a = c ∧ b = d) ∧ (a = c ∨ b = d ∨ sx_far a c = sx_far b d) then 1 else 0
theorem sx_strN_1 {a b c d : Nat} (h : sx_str a b c d) : sx_strN a b c d = 1 := by unfold sx_str at h; unfold sx_strN; rw [if_pos h]
theorem sx_strN_ne {a b c d : Nat} (h : ¬ sx_strN a b c d = 0) : sx_str a b c d := by
  unfold sx_strN at h; unfold sx_str
  rcases Classical.em (¬ (a = c ∧ b = d) ∧ (a = c ∨ b = d ∨ sx_far a c = sx_far b d)) with q | q
  · exact q
  · rw [if_neg q] at h; exact absurd rfl h
theorem sx_strN_le (a b c d : Nat) : sx_strN a b c d ≤ 1 := by unfold sx_strN; split <;> omega
/-- what the class's rows hold -/
def sG (av : Nat → Nat → Nat) : Prop := (∀ j, av 8 j ≤ 9) ∧ (∀ j, av 9 j ≤ 9) ∧ (∀ j, av 10 j < 8) ∧ (∀ j, av 11 j ≤ 126) ∧ (∀ j, av 12 j ≤ 99) ∧ (∀ j, av 13 j ≤ 126)
def sAdd (av : Nat → Nat → Nat) (n a b c d : Nat) : Nat → Nat → Nat := va_up (va_up (va_up (va_up av 8 (va_up (va_up (av 8) (2 * n) a) (2 * n + 1) c)) 9 (va_up (va_up (av 9) (2 * n) b) (2 * n + 1) d)) 10 (va_up (va_up (av 10) (2 * n) (sx_dir a b c d)) (2 * n + 1) ((sx_dir a b c d + 4) % 8))) 11 (va_up (av 11) n (sx_piece (sx_far c a) (sx_far d b)))
theorem sx_x1 : ∀ f, f < 18 → f ^^^ 1 < 18 := by decide +kernel
def sJ (av : Nat → Nat → Nat) (f t : Nat) : Nat := sx_jmp (av 8 t) (av 8 (f ^^^ 1)) (av 9 t) (av 9 (f ^^^ 1))
def sx_trn (p q : Nat) : Nat := min (sx_far p q) (8 - sx_far p q)
def sLk (av : Nat → Nat → Nat) (f t : Nat) : Nat := if sJ av f t = 0 then av 12 (sx_trn (av 10 t) (av 10 f)) * 4096 else av 12 5 * 4096 + sx_piece (sx_far (av 8 t) (av 8 (f ^^^ 1))) (sx_far (av 9 t) (av 9 (f ^^^ 1)))
set_option maxHeartbeats 4000000 in
set_option maxRecDepth 100000 in
theorem c_J6_signum_0f7a4 (l : Launch) (X : sx_X) (ws : va_W) (a c : Nat) (ha : a < 10) (hc : c < 10) : sx_Mi l yJ6_signum_0f7a4 wsJ6_signum_0f7a4 { frames := 0, cells := 0, slots := 0, locals := 0 } X [.int (nI c - nI a)] ws (fun r w => r = sx_sgn a c ∧ w = ws) 0 0 := by
  refine sx_entI (own := RJ6) (nL := 1) (by decide +kernel) rfl rfl (Nat.le_of_ble_eq_true rfl) ?_
  intro G hG hN hret
  show sx_W l X G 0 0 0 [(0, .int (nI c - nI a))] [] ws
  refine sx_iload_n (pc := 0) hG dJ6_signum_0f7a4_0 rfl 0 rfl ?_
  refine sx_bipush (pc := 1) (v := nI 31) hG dJ6_signum_0f7a4_1 (by decide +kernel) ?_
  refine sx_ishr (pc := 3) (v := ((nI c - nI a) >>> ((nI 31) &&& 31))) hG dJ6_signum_0f7a4_3 rfl ?_
  refine sx_iload_n (pc := 4) hG dJ6_signum_0f7a4_4 rfl 0 rfl ?_
  refine sx_ineg (pc := 5) hG dJ6_signum_0f7a4_5 rfl ?_
  refine sx_bipush (pc := 6) (v := nI 31) hG dJ6_signum_0f7a4_6 (by decide +kernel) ?_
  refine sx_iushr (pc := 8) hG dJ6_signum_0f7a4_8 rfl ?_
  refine sx_ior (pc := 9) (v := (((nI c - nI a) >>> ((nI 31) &&& 31)) ||| (((-(nI c - nI a)).toUInt32 >>> ((nI 31).toUInt32 &&& Int32.toUInt32 31)).toInt32))) hG dJ6_signum_0f7a4_9 rfl ?_
  exact hret _ _ _ _ dJ6_signum_0f7a4_10 rfl ⟨sx_sgm a ha c hc, rfl⟩

theorem m_J6_bitCount_0f7a4_c265 : Cond.constant RJ6 265 (1431655765) ∈ wsJ6_bitCount_0f7a4 := by decide +kernel
theorem m_J6_bitCount_0f7a4_c266 : Cond.constant RJ6 266 (858993459) ∈ wsJ6_bitCount_0f7a4 := by decide +kernel
theorem m_J6_bitCount_0f7a4_c267 : Cond.constant RJ6 267 (252645135) ∈ wsJ6_bitCount_0f7a4 := by decide +kernel
set_option maxHeartbeats 4000000 in
set_option maxRecDepth 100000 in
theorem c_J6_bitCount_0f7a4 (l : Launch) (X : sx_X) (ws : va_W) (a : Nat) (ha : a < 512) : sx_Mi l yJ6_bitCount_0f7a4 wsJ6_bitCount_0f7a4 { frames := 0, cells := 0, slots := 0, locals := 0 } X [.int (nI a)] ws (fun r w => r = nI (sx_pc a) ∧ w = ws) 0 0 := by
  refine sx_entI (own := RJ6) (nL := 1) (by decide +kernel) rfl rfl (Nat.le_of_ble_eq_true rfl) ?_
  intro G hG hN hret
  show sx_W l X G 0 0 0 [(0, .int (nI a))] [] ws
  refine sx_iload_n (pc := 0) hG dJ6_bitCount_0f7a4_0 rfl 0 rfl ?_
  refine sx_iload_n (pc := 1) hG dJ6_bitCount_0f7a4_1 rfl 0 rfl ?_
  refine sx_iconst (pc := 2) (v := nI 1) hG dJ6_bitCount_0f7a4_2 (by decide +kernel) ?_
  refine sx_iushr (pc := 3) hG dJ6_bitCount_0f7a4_3 rfl ?_
  refine sx_ldcw (pc := 4) (v2 := nI 1431655765) hG m_J6_bitCount_0f7a4_c265 dJ6_bitCount_0f7a4_4 (by decide +kernel) ?_
  refine sx_iand (pc := 7) (v := ((((nI a).toUInt32 >>> ((nI 1).toUInt32 &&& Int32.toUInt32 31)).toInt32) &&& (nI 1431655765))) hG dJ6_bitCount_0f7a4_7 rfl ?_
  refine sx_isub (pc := 8) (v := ((nI a) - ((((nI a).toUInt32 >>> ((nI 1).toUInt32 &&& Int32.toUInt32 31)).toInt32) &&& (nI 1431655765)))) hG dJ6_bitCount_0f7a4_8 rfl ?_
  refine sx_istore_n (pc := 9) (lv2 := [(0, .int ((nI a) - ((((nI a).toUInt32 >>> ((nI 1).toUInt32 &&& Int32.toUInt32 31)).toInt32) &&& (nI 1431655765))))]) hG [0] dJ6_bitCount_0f7a4_9 rfl hN (by decide) rfl ?_
  refine sx_iload_n (pc := 10) hG dJ6_bitCount_0f7a4_10 rfl 0 rfl ?_
  refine sx_ldcw (pc := 11) (v2 := nI 858993459) hG m_J6_bitCount_0f7a4_c266 dJ6_bitCount_0f7a4_11 (by decide +kernel) ?_
  refine sx_iand (pc := 14) (v := (((nI a) - ((((nI a).toUInt32 >>> ((nI 1).toUInt32 &&& Int32.toUInt32 31)).toInt32) &&& (nI 1431655765))) &&& (nI 858993459))) hG dJ6_bitCount_0f7a4_14 rfl ?_
  refine sx_iload_n (pc := 15) hG dJ6_bitCount_0f7a4_15 rfl 0 rfl ?_
  refine sx_iconst (pc := 16) (v := nI 2) hG dJ6_bitCount_0f7a4_16 (by decide +kernel) ?_
  refine sx_iushr (pc := 17) hG dJ6_bitCount_0f7a4_17 rfl ?_
  refine sx_ldcw (pc := 18) (v2 := nI 858993459) hG m_J6_bitCount_0f7a4_c266 dJ6_bitCount_0f7a4_18 (by decide +kernel) ?_
  refine sx_iand (pc := 21) (v := (((((nI a) - ((((nI a).toUInt32 >>> ((nI 1).toUInt32 &&& Int32.toUInt32 31)).toInt32) &&& (nI 1431655765))).toUInt32 >>> ((nI 2).toUInt32 &&& Int32.toUInt32 31)).toInt32) &&& (nI 858993459))) hG dJ6_bitCount_0f7a4_21 rfl ?_
  refine sx_iadd (pc := 22) (v := ((((nI a) - ((((nI a).toUInt32 >>> ((nI 1).toUInt32 &&& Int32.toUInt32 31)).toInt32) &&& (nI 1431655765))) &&& (nI 858993459)) + (((((nI a) - ((((nI a).toUInt32 >>> ((nI 1).toUInt32 &&& Int32.toUInt32 31)).toInt32) &&& (nI 1431655765))).toUInt32 >>> ((nI 2).toUInt32 &&& Int32.toUInt32 31)).toInt32) &&& (nI 858993459)))) hG dJ6_bitCount_0f7a4_22 rfl ?_
  refine sx_istore_n (pc := 23) (lv2 := [(0, .int ((((nI a) - ((((nI a).toUInt32 >>> ((nI 1).toUInt32 &&& Int32.toUInt32 31)).toInt32) &&& (nI 1431655765))) &&& (nI 858993459)) + (((((nI a) - ((((nI a).toUInt32 >>> ((nI 1).toUInt32 &&& Int32.toUInt32 31)).toInt32) &&& (nI 1431655765))).toUInt32 >>> ((nI 2).toUInt32 &&& Int32.toUInt32 31)).toInt32) &&& (nI 858993459))))]) hG [0] dJ6_bitCount_0f7a4_23 rfl hN (by decide) rfl ?_
  refine sx_iload_n (pc := 24) hG dJ6_bitCount_0f7a4_24 rfl 0 rfl ?_
  refine sx_iload_n (pc := 25) hG dJ6_bitCount_0f7a4_25 rfl 0 rfl ?_
  refine sx_iconst (pc := 26) (v := nI 4) hG dJ6_bitCount_0f7a4_26 (by decide +kernel) ?_
  refine sx_iushr (pc := 27) hG dJ6_bitCount_0f7a4_27 rfl ?_
  refine sx_iadd (pc := 28) (v := (((((nI a) - ((((nI a).toUInt32 >>> ((nI 1).toUInt32 &&& Int32.toUInt32 31)).toInt32) &&& (nI 1431655765))) &&& (nI 858993459)) + (((((nI a) - ((((nI a).toUInt32 >>> ((nI 1).toUInt32 &&& Int32.toUInt32 31)).toInt32) &&& (nI 1431655765))).toUInt32 >>> ((nI 2).toUInt32 &&& Int32.toUInt32 31)).toInt32) &&& (nI 858993459))) + ((((((nI a) - ((((nI a).toUInt32 >>> ((nI 1).toUInt32 &&& Int32.toUInt32 31)).toInt32) &&& (nI 1431655765))) &&& (nI 858993459)) + (((((nI a) - ((((nI a).toUInt32 >>> ((nI 1).toUInt32 &&& Int32.toUInt32 31)).toInt32) &&& (nI 1431655765))).toUInt32 >>> ((nI 2).toUInt32 &&& Int32.toUInt32 31)).toInt32) &&& (nI 858993459))).toUInt32 >>> ((nI 4).toUInt32 &&& Int32.toUInt32 31)).toInt32))) hG dJ6_bitCount_0f7a4_28 rfl ?_
  refine sx_ldcw (pc := 29) (v2 := nI 252645135) hG m_J6_bitCount_0f7a4_c267 dJ6_bitCount_0f7a4_29 (by decide +kernel) ?_
  refine sx_iand (pc := 32) (v := ((((((nI a) - ((((nI a).toUInt32 >>> ((nI 1).toUInt32 &&& Int32.toUInt32 31)).toInt32) &&& (nI 1431655765))) &&& (nI 858993459)) + (((((nI a) - ((((nI a).toUInt32 >>> ((nI 1).toUInt32 &&& Int32.toUInt32 31)).toInt32) &&& (nI 1431655765))).toUInt32 >>> ((nI 2).toUInt32 &&& Int32.toUInt32 31)).toInt32) &&& (nI 858993459))) + ((((((nI a) - ((((nI a).toUInt32 >>> ((nI 1).toUInt32 &&& Int32.toUInt32 31)).toInt32) &&& (nI 1431655765))) &&& (nI 858993459)) + (((((nI a) - ((((nI a).toUInt32 >>> ((nI 1).toUInt32 &&& Int32.toUInt32 31)).toInt32) &&& (nI 1431655765))).toUInt32 >>> ((nI 2).toUInt32 &&& Int32.toUInt32 31)).toInt32) &&& (nI 858993459))).toUInt32 >>> ((nI 4).toUInt32 &&& Int32.toUInt32 31)).toInt32)) &&& (nI 252645135))) hG dJ6_bitCount_0f7a4_32 rfl ?_
  refine sx_istore_n (pc := 33) (lv2 := [(0, .int ((((((nI a) - ((((nI a).toUInt32 >>> ((nI 1).toUInt32 &&& Int32.toUInt32 31)).toInt32) &&& (nI 1431655765))) &&& (nI 858993459)) + (((((nI a) - ((((nI a).toUInt32 >>> ((nI 1).toUInt32 &&& Int32.toUInt32 31)).toInt32) &&& (nI 1431655765))).toUInt32 >>> ((nI 2).toUInt32 &&& Int32.toUInt32 31)).toInt32) &&& (nI 858993459))) + ((((((nI a) - ((((nI a).toUInt32 >>> ((nI 1).toUInt32 &&& Int32.toUInt32 31)).toInt32) &&& (nI 1431655765))) &&& (nI 858993459)) + (((((nI a) - ((((nI a).toUInt32 >>> ((nI 1).toUInt32 &&& Int32.toUInt32 31)).toInt32) &&& (nI 1431655765))).toUInt32 >>> ((nI 2).toUInt32 &&& Int32.toUInt32 31)).toInt32) &&& (nI 858993459))).toUInt32 >>> ((nI 4).toUInt32 &&& Int32.toUInt32 31)).toInt32)) &&& (nI 252645135)))]) hG [0] dJ6_bitCount_0f7a4_33 rfl hN (by decide) rfl ?_
  refine sx_iload_n (pc := 34) hG dJ6_bitCount_0f7a4_34 rfl 0 rfl ?_
  refine sx_iload_n (pc := 35) hG dJ6_bitCount_0f7a4_35 rfl 0 rfl ?_
  refine sx_bipush (pc := 36) (v := nI 8) hG dJ6_bitCount_0f7a4_36 (by decide +kernel) ?_
  refine sx_iushr (pc := 38) hG dJ6_bitCount_0f7a4_38 rfl ?_
  refine sx_iadd (pc := 39) (v := (((((((nI a) - ((((nI a).toUInt32 >>> ((nI 1).toUInt32 &&& Int32.toUInt32 31)).toInt32) &&& (nI 1431655765))) &&& (nI 858993459)) + (((((nI a) - ((((nI a).toUInt32 >>> ((nI 1).toUInt32 &&& Int32.toUInt32 31)).toInt32) &&& (nI 1431655765))).toUInt32 >>> ((nI 2).toUInt32 &&& Int32.toUInt32 31)).toInt32) &&& (nI 858993459))) + ((((((nI a) - ((((nI a).toUInt32 >>> ((nI 1).toUInt32 &&& Int32.toUInt32 31)).toInt32) &&& (nI 1431655765))) &&& (nI 858993459)) + (((((nI a) - ((((nI a).toUInt32 >>> ((nI 1).toUInt32 &&& Int32.toUInt32 31)).toInt32) &&& (nI 1431655765))).toUInt32 >>> ((nI 2).toUInt32 &&& Int32.toUInt32 31)).toInt32) &&& (nI 858993459))).toUInt32 >>> ((nI 4).toUInt32 &&& Int32.toUInt32 31)).toInt32)) &&& (nI 252645135)) + ((((((((nI a) - ((((nI a).toUInt32 >>> ((nI 1).toUInt32 &&& Int32.toUInt32 31)).toInt32) &&& (nI 1431655765))) &&& (nI 858993459)) + (((((nI a) - ((((nI a).toUInt32 >>> ((nI 1).toUInt32 &&& Int32.toUInt32 31)).toInt32) &&& (nI 1431655765))).toUInt32 >>> ((nI 2).toUInt32 &&& Int32.toUInt32 31)).toInt32) &&& (nI 858993459))) + ((((((nI a) - ((((nI a).toUInt32 >>> ((nI 1).toUInt32 &&& Int32.toUInt32 31)).toInt32) &&& (nI 1431655765))) &&& (nI 858993459)) + (((((nI a) - ((((nI a).toUInt32 >>> ((nI 1).toUInt32 &&& Int32.toUInt32 31)).toInt32) &&& (nI 1431655765))).toUInt32 >>> ((nI 2).toUInt32 &&& Int32.toUInt32 31)).toInt32) &&& (nI 858993459))).toUInt32 >>> ((nI 4).toUInt32 &&& Int32.toUInt32 31)).toInt32)) &&& (nI 252645135)).toUInt32 >>> ((nI 8).toUInt32 &&& Int32.toUInt32 31)).toInt32))) hG dJ6_bitCount_0f7a4_39 rfl ?_
  refine sx_istore_n (pc := 40) (lv2 := [(0, .int (((((((nI a) - ((((nI a).toUInt32 >>> ((nI 1).toUInt32 &&& Int32.toUInt32 31)).toInt32) &&& (nI 1431655765))) &&& (nI 858993459)) + (((((nI a) - ((((nI a).toUInt32 >>> ((nI 1).toUInt32 &&& Int32.toUInt32 31)).toInt32) &&& (nI 1431655765))).toUInt32 >>> ((nI 2).toUInt32 &&& Int32.toUInt32 31)).toInt32) &&& (nI 858993459))) + ((((((nI a) - ((((nI a).toUInt32 >>> ((nI 1).toUInt32 &&& Int32.toUInt32 31)).toInt32) &&& (nI 1431655765))) &&& (nI 858993459)) + (((((nI a) - ((((nI a).toUInt32 >>> ((nI 1).toUInt32 &&& Int32.toUInt32 31)).toInt32) &&& (nI 1431655765))).toUInt32 >>> ((nI 2).toUInt32 &&& Int32.toUInt32 31)).toInt32) &&& (nI 858993459))).toUInt32 >>> ((nI 4).toUInt32 &&& Int32.toUInt32 31)).toInt32)) &&& (nI 252645135)) + ((((((((nI a) - ((((nI a).toUInt32 >>> ((nI 1).toUInt32 &&& Int32.toUInt32 31)).toInt32) &&& (nI 1431655765))) &&& (nI 858993459)) + (((((nI a) - ((((nI a).toUInt32 >>> ((nI 1).toUInt32 &&& Int32.toUInt32 31)).toInt32) &&& (nI 1431655765))).toUInt32 >>> ((nI 2).toUInt32 &&& Int32.toUInt32 31)).toInt32) &&& (nI 858993459))) + ((((((nI a) - ((((nI a).toUInt32 >>> ((nI 1).toUInt32 &&& Int32.toUInt32 31)).toInt32) &&& (nI 1431655765))) &&& (nI 858993459)) + (((((nI a) - ((((nI a).toUInt32 >>> ((nI 1).toUInt32 &&& Int32.toUInt32 31)).toInt32) &&& (nI 1431655765))).toUInt32 >>> ((nI 2).toUInt32 &&& Int32.toUInt32 31)).toInt32) &&& (nI 858993459))).toUInt32 >>> ((nI 4).toUInt32 &&& Int32.toUInt32 31)).toInt32)) &&& (nI 252645135)).toUInt32 >>> ((nI 8).toUInt32 &&& Int32.toUInt32 31)).toInt32)))]) hG [0] dJ6_bitCount_0f7a4_40 rfl hN (by decide) rfl ?_
  refine sx_iload_n (pc := 41) hG dJ6_bitCount_0f7a4_41 rfl 0 rfl ?_
  refine sx_iload_n (pc := 42) hG dJ6_bitCount_0f7a4_42 rfl 0 rfl ?_
  refine sx_bipush (pc := 43) (v := nI 16) hG dJ6_bitCount_0f7a4_43 (by decide +kernel) ?_
  refine sx_iushr (pc := 45) hG dJ6_bitCount_0f7a4_45 rfl ?_
  refine sx_iadd (pc := 46) (v := ((((((((nI a) - ((((nI a).toUInt32 >>> ((nI 1).toUInt32 &&& Int32.toUInt32 31)).toInt32) &&& (nI 1431655765))) &&& (nI 858993459)) + (((((nI a) - ((((nI a).toUInt32 >>> ((nI 1).toUInt32 &&& Int32.toUInt32 31)).toInt32) &&& (nI 1431655765))).toUInt32 >>> ((nI 2).toUInt32 &&& Int32.toUInt32 31)).toInt32) &&& (nI 858993459))) + ((((((nI a) - ((((nI a).toUInt32 >>> ((nI 1).toUInt32 &&& Int32.toUInt32 31)).toInt32) &&& (nI 1431655765))) &&& (nI 858993459)) + (((((nI a) - ((((nI a).toUInt32 >>> ((nI 1).toUInt32 &&& Int32.toUInt32 31)).toInt32) &&& (nI 1431655765))).toUInt32 >>> ((nI 2).toUInt32 &&& Int32.toUInt32 31)).toInt32) &&& (nI 858993459))).toUInt32 >>> ((nI 4).toUInt32 &&& Int32.toUInt32 31)).toInt32)) &&& (nI 252645135)) + ((((((((nI a) - ((((nI a).toUInt32 >>> ((nI 1).toUInt32 &&& Int32.toUInt32 31)).toInt32) &&& (nI 1431655765))) &&& (nI 858993459)) + (((((nI a) - ((((nI a).toUInt32 >>> ((nI 1).toUInt32 &&& Int32.toUInt32 31)).toInt32) &&& (nI 1431655765))).toUInt32 >>> ((nI 2).toUInt32 &&& Int32.toUInt32 31)).toInt32) &&& (nI 858993459))) + ((((((nI a) - ((((nI a).toUInt32 >>> ((nI 1).toUInt32 &&& Int32.toUInt32 31)).toInt32) &&& (nI 1431655765))) &&& (nI 858993459)) + (((((nI a) - ((((nI a).toUInt32 >>> ((nI 1).toUInt32 &&& Int32.toUInt32 31)).toInt32) &&& (nI 1431655765))).toUInt32 >>> ((nI 2).toUInt32 &&& Int32.toUInt32 31)).toInt32) &&& (nI 858993459))).toUInt32 >>> ((nI 4).toUInt32 &&& Int32.toUInt32 31)).toInt32)) &&& (nI 252645135)).toUInt32 >>> ((nI 8).toUInt32 &&& Int32.toUInt32 31)).toInt32)) + (((((((((nI a) - ((((nI a).toUInt32 >>> ((nI 1).toUInt32 &&& Int32.toUInt32 31)).toInt32) &&& (nI 1431655765))) &&& (nI 858993459)) + (((((nI a) - ((((nI a).toUInt32 >>> ((nI 1).toUInt32 &&& Int32.toUInt32 31)).toInt32) &&& (nI 1431655765))).toUInt32 >>> ((nI 2).toUInt32 &&& Int32.toUInt32 31)).toInt32) &&& (nI 858993459))) + ((((((nI a) - ((((nI a).toUInt32 >>> ((nI 1).toUInt32 &&& Int32.toUInt32 31)).toInt32) &&& (nI 1431655765))) &&& (nI 858993459)) + (((((nI a) - ((((nI a).toUInt32 >>> ((nI 1).toUInt32 &&& Int32.toUInt32 31)).toInt32) &&& (nI 1431655765))).toUInt32 >>> ((nI 2).toUInt32 &&& Int32.toUInt32 31)).toInt32) &&& (nI 858993459))).toUInt32 >>> ((nI 4).toUInt32 &&& Int32.toUInt32 31)).toInt32)) &&& (nI 252645135)) + ((((((((nI a) - ((((nI a).toUInt32 >>> ((nI 1).toUInt32 &&& Int32.toUInt32 31)).toInt32) &&& (nI 1431655765))) &&& (nI 858993459)) + (((((nI a) - ((((nI a).toUInt32 >>> ((nI 1).toUInt32 &&& Int32.toUInt32 31)).toInt32) &&& (nI 1431655765))).toUInt32 >>> ((nI 2).toUInt32 &&& Int32.toUInt32 31)).toInt32) &&& (nI 858993459))) + ((((((nI a) - ((((nI a).toUInt32 >>> ((nI 1).toUInt32 &&& Int32.toUInt32 31)).toInt32) &&& (nI 1431655765))) &&& (nI 858993459)) + (((((nI a) - ((((nI a).toUInt32 >>> ((nI 1).toUInt32 &&& Int32.toUInt32 31)).toInt32) &&& (nI 1431655765))).toUInt32 >>> ((nI 2).toUInt32 &&& Int32.toUInt32 31)).toInt32) &&& (nI 858993459))).toUInt32 >>> ((nI 4).toUInt32 &&& Int32.toUInt32 31)).toInt32)) &&& (nI 252645135)).toUInt32 >>> ((nI 8).toUInt32 &&& Int32.toUInt32 31)).toInt32)).toUInt32 >>> ((nI 16).toUInt32 &&& Int32.toUInt32 31)).toInt32))) hG dJ6_bitCount_0f7a4_46 rfl ?_
  refine sx_istore_n (pc := 47) (lv2 := [(0, .int ((((((((nI a) - ((((nI a).toUInt32 >>> ((nI 1).toUInt32 &&& Int32.toUInt32 31)).toInt32) &&& (nI 1431655765))) &&& (nI 858993459)) + (((((nI a) - ((((nI a).toUInt32 >>> ((nI 1).toUInt32 &&& Int32.toUInt32 31)).toInt32) &&& (nI 1431655765))).toUInt32 >>> ((nI 2).toUInt32 &&& Int32.toUInt32 31)).toInt32) &&& (nI 858993459))) + ((((((nI a) - ((((nI a).toUInt32 >>> ((nI 1).toUInt32 &&& Int32.toUInt32 31)).toInt32) &&& (nI 1431655765))) &&& (nI 858993459)) + (((((nI a) - ((((nI a).toUInt32 >>> ((nI 1).toUInt32 &&& Int32.toUInt32 31)).toInt32) &&& (nI 1431655765))).toUInt32 >>> ((nI 2).toUInt32 &&& Int32.toUInt32 31)).toInt32) &&& (nI 858993459))).toUInt32 >>> ((nI 4).toUInt32 &&& Int32.toUInt32 31)).toInt32)) &&& (nI 252645135)) + ((((((((nI a) - ((((nI a).toUInt32 >>> ((nI 1).toUInt32 &&& Int32.toUInt32 31)).toInt32) &&& (nI 1431655765))) &&& (nI 858993459)) + (((((nI a) - ((((nI a).toUInt32 >>> ((nI 1).toUInt32 &&& Int32.toUInt32 31)).toInt32) &&& (nI 1431655765))).toUInt32 >>> ((nI 2).toUInt32 &&& Int32.toUInt32 31)).toInt32) &&& (nI 858993459))) + ((((((nI a) - ((((nI a).toUInt32 >>> ((nI 1).toUInt32 &&& Int32.toUInt32 31)).toInt32) &&& (nI 1431655765))) &&& (nI 858993459)) + (((((nI a) - ((((nI a).toUInt32 >>> ((nI 1).toUInt32 &&& Int32.toUInt32 31)).toInt32) &&& (nI 1431655765))).toUInt32 >>> ((nI 2).toUInt32 &&& Int32.toUInt32 31)).toInt32) &&& (nI 858993459))).toUInt32 >>> ((nI 4).toUInt32 &&& Int32.toUInt32 31)).toInt32)) &&& (nI 252645135)).toUInt32 >>> ((nI 8).toUInt32 &&& Int32.toUInt32 31)).toInt32)) + (((((((((nI a) - ((((nI a).toUInt32 >>> ((nI 1).toUInt32 &&& Int32.toUInt32 31)).toInt32) &&& (nI 1431655765))) &&& (nI 858993459)) + (((((nI a) - ((((nI a).toUInt32 >>> ((nI 1).toUInt32 &&& Int32.toUInt32 31)).toInt32) &&& (nI 1431655765))).toUInt32 >>> ((nI 2).toUInt32 &&& Int32.toUInt32 31)).toInt32) &&& (nI 858993459))) + ((((((nI a) - ((((nI a).toUInt32 >>> ((nI 1).toUInt32 &&& Int32.toUInt32 31)).toInt32) &&& (nI 1431655765))) &&& (nI 858993459)) + (((((nI a) - ((((nI a).toUInt32 >>> ((nI 1).toUInt32 &&& Int32.toUInt32 31)).toInt32) &&& (nI 1431655765))).toUInt32 >>> ((nI 2).toUInt32 &&& Int32.toUInt32 31)).toInt32) &&& (nI 858993459))).toUInt32 >>> ((nI 4).toUInt32 &&& Int32.toUInt32 31)).toInt32)) &&& (nI 252645135)) + ((((((((nI a) - ((((nI a).toUInt32 >>> ((nI 1).toUInt32 &&& Int32.toUInt32 31)).toInt32) &&& (nI 1431655765))) &&& (nI 858993459)) + (((((nI a) - ((((nI a).toUInt32 >>> ((nI 1).toUInt32 &&& Int32.toUInt32 31)).toInt32) &&& (nI 1431655765))).toUInt32 >>> ((nI 2).toUInt32 &&& Int32.toUInt32 31)).toInt32) &&& (nI 858993459))) + ((((((nI a) - ((((nI a).toUInt32 >>> ((nI 1).toUInt32 &&& Int32.toUInt32 31)).toInt32) &&& (nI 1431655765))) &&& (nI 858993459)) + (((((nI a) - ((((nI a).toUInt32 >>> ((nI 1).toUInt32 &&& Int32.toUInt32 31)).toInt32) &&& (nI 1431655765))).toUInt32 >>> ((nI 2).toUInt32 &&& Int32.toUInt32 31)).toInt32) &&& (nI 858993459))).toUInt32 >>> ((nI 4).toUInt32 &&& Int32.toUInt32 31)).toInt32)) &&& (nI 252645135)).toUInt32 >>> ((nI 8).toUInt32 &&& Int32.toUInt32 31)).toInt32)).toUInt32 >>> ((nI 16).toUInt32 &&& Int32.toUInt32 31)).toInt32)))]) hG [0] dJ6_bitCount_0f7a4_47 rfl hN (by decide) rfl ?_
  refine sx_iload_n (pc := 48) hG dJ6_bitCount_0f7a4_48 rfl 0 rfl ?_
  refine sx_bipush (pc := 49) (v := nI 63) hG dJ6_bitCount_0f7a4_49 (by decide +kernel) ?_
  refine sx_iand (pc := 51) (v := (((((((((nI a) - ((((nI a).toUInt32 >>> ((nI 1).toUInt32 &&& Int32.toUInt32 31)).toInt32) &&& (nI 1431655765))) &&& (nI 858993459)) + (((((nI a) - ((((nI a).toUInt32 >>> ((nI 1).toUInt32 &&& Int32.toUInt32 31)).toInt32) &&& (nI 1431655765))).toUInt32 >>> ((nI 2).toUInt32 &&& Int32.toUInt32 31)).toInt32) &&& (nI 858993459))) + ((((((nI a) - ((((nI a).toUInt32 >>> ((nI 1).toUInt32 &&& Int32.toUInt32 31)).toInt32) &&& (nI 1431655765))) &&& (nI 858993459)) + (((((nI a) - ((((nI a).toUInt32 >>> ((nI 1).toUInt32 &&& Int32.toUInt32 31)).toInt32) &&& (nI 1431655765))).toUInt32 >>> ((nI 2).toUInt32 &&& Int32.toUInt32 31)).toInt32) &&& (nI 858993459))).toUInt32 >>> ((nI 4).toUInt32 &&& Int32.toUInt32 31)).toInt32)) &&& (nI 252645135)) + ((((((((nI a) - ((((nI a).toUInt32 >>> ((nI 1).toUInt32 &&& Int32.toUInt32 31)).toInt32) &&& (nI 1431655765))) &&& (nI 858993459)) + (((((nI a) - ((((nI a).toUInt32 >>> ((nI 1).toUInt32 &&& Int32.toUInt32 31)).toInt32) &&& (nI 1431655765))).toUInt32 >>> ((nI 2).toUInt32 &&& Int32.toUInt32 31)).toInt32) &&& (nI 858993459))) + ((((((nI a) - ((((nI a).toUInt32 >>> ((nI 1).toUInt32 &&& Int32.toUInt32 31)).toInt32) &&& (nI 1431655765))) &&& (nI 858993459)) + (((((nI a) - ((((nI a).toUInt32 >>> ((nI 1).toUInt32 &&& Int32.toUInt32 31)).toInt32) &&& (nI 1431655765))).toUInt32 >>> ((nI 2).toUInt32 &&& Int32.toUInt32 31)).toInt32) &&& (nI 858993459))).toUInt32 >>> ((nI 4).toUInt32 &&& Int32.toUInt32 31)).toInt32)) &&& (nI 252645135)).toUInt32 >>> ((nI 8).toUInt32 &&& Int32.toUInt32 31)).toInt32)) + (((((((((nI a) - ((((nI a).toUInt32 >>> ((nI 1).toUInt32 &&& Int32.toUInt32 31)).toInt32) &&& (nI 1431655765))) &&& (nI 858993459)) + (((((nI a) - ((((nI a).toUInt32 >>> ((nI 1).toUInt32 &&& Int32.toUInt32 31)).toInt32) &&& (nI 1431655765))).toUInt32 >>> ((nI 2).toUInt32 &&& Int32.toUInt32 31)).toInt32) &&& (nI 858993459))) + ((((((nI a) - ((((nI a).toUInt32 >>> ((nI 1).toUInt32 &&& Int32.toUInt32 31)).toInt32) &&& (nI 1431655765))) &&& (nI 858993459)) + (((((nI a) - ((((nI a).toUInt32 >>> ((nI 1).toUInt32 &&& Int32.toUInt32 31)).toInt32) &&& (nI 1431655765))).toUInt32 >>> ((nI 2).toUInt32 &&& Int32.toUInt32 31)).toInt32) &&& (nI 858993459))).toUInt32 >>> ((nI 4).toUInt32 &&& Int32.toUInt32 31)).toInt32)) &&& (nI 252645135)) + ((((((((nI a) - ((((nI a).toUInt32 >>> ((nI 1).toUInt32 &&& Int32.toUInt32 31)).toInt32) &&& (nI 1431655765))) &&& (nI 858993459)) + (((((nI a) - ((((nI a).toUInt32 >>> ((nI 1).toUInt32 &&& Int32.toUInt32 31)).toInt32) &&& (nI 1431655765))).toUInt32 >>> ((nI 2).toUInt32 &&& Int32.toUInt32 31)).toInt32) &&& (nI 858993459))) + ((((((nI a) - ((((nI a).toUInt32 >>> ((nI 1).toUInt32 &&& Int32.toUInt32 31)).toInt32) &&& (nI 1431655765))) &&& (nI 858993459)) + (((((nI a) - ((((nI a).toUInt32 >>> ((nI 1).toUInt32 &&& Int32.toUInt32 31)).toInt32) &&& (nI 1431655765))).toUInt32 >>> ((nI 2).toUInt32 &&& Int32.toUInt32 31)).toInt32) &&& (nI 858993459))).toUInt32 >>> ((nI 4).toUInt32 &&& Int32.toUInt32 31)).toInt32)) &&& (nI 252645135)).toUInt32 >>> ((nI 8).toUInt32 &&& Int32.toUInt32 31)).toInt32)).toUInt32 >>> ((nI 16).toUInt32 &&& Int32.toUInt32 31)).toInt32)) &&& (nI 63))) hG dJ6_bitCount_0f7a4_51 rfl ?_
  exact hret _ _ _ _ dJ6_bitCount_0f7a4_52 rfl ⟨sx_bcm a ha, rfl⟩

theorem m_X7_distance_j178 : Cond.methodLink RX7 178 Lib.Math.abs.name ∈ wsX7_distance ∧ Cond.static Lib.Math.abs.name ∈ wsX7_distance ∧ Cond.initialized "java/lang/Math" ∈ wsX7_distance ∧ Cond.code Lib.Math.abs.name Lib.Math.abs.code 1 (some .int) ∈ wsX7_distance := by decide +kernel
theorem m_X7_distance_j183 : Cond.methodLink RX7 183 Lib.Math.min.name ∈ wsX7_distance ∧ Cond.static Lib.Math.min.name ∈ wsX7_distance ∧ Cond.initialized "java/lang/Math" ∈ wsX7_distance ∧ Cond.code Lib.Math.min.name Lib.Math.min.code 2 (some .int) ∈ wsX7_distance := by decide +kernel
theorem m_X7_distance_j186 : Cond.methodLink RX7 186 Lib.Math.max.name ∈ wsX7_distance ∧ Cond.static Lib.Math.max.name ∈ wsX7_distance ∧ Cond.initialized "java/lang/Math" ∈ wsX7_distance ∧ Cond.code Lib.Math.max.name Lib.Math.max.code 2 (some .int) ∈ wsX7_distance := by decide +kernel
set_option maxHeartbeats 4000000 in
set_option maxRecDepth 100000 in
theorem c_X7_distance (l : Launch) (X : sx_X) (ws : va_W) (p q u v : Nat) (hp : p < 2 ^ 20) (hq : q < 2 ^ 20) (hu : u < 2 ^ 20) (hv : v < 2 ^ 20) : sx_Mi l yX7_distance wsX7_distance { frames := 1, cells := 0, slots := 0, locals := 21 } X [.int (nI p - nI q), .int (nI u - nI v)] ws (fun r w => r = nI (sx_piece (sx_far p q) (sx_far u v)) ∧ w = ws) 0 0 := by
  refine sx_entI (own := RX7) (nL := 5) (by decide +kernel) rfl rfl (Nat.le_of_ble_eq_true rfl) ?_
  intro G hG hN hret
  show sx_W l X G 0 0 0 [(0, .int (nI p - nI q)), (1, .int (nI u - nI v))] [] ws
  have hf1 := sx_far_le p q (2 ^ 20) hp hq
  have hf2 := sx_far_le u v (2 ^ 20) hu hv
  have hmn : min (sx_far p q) (sx_far u v) ≤ sx_far p q := Nat.min_le_left _ _
  have hmx : sx_far p q ≤ max (sx_far p q) (sx_far u v) := Nat.le_max_left _ _
  refine sx_iload_n (pc := 0) hG dX7_distance_0 rfl 0 rfl ?_
  refine sx_mabs (pc := 1) (v := (nI (sx_far p q))) hG m_X7_distance_j178 dX7_distance_1 (Nat.le_of_ble_eq_true rfl) (Nat.le_of_ble_eq_true rfl) (Nat.le_of_ble_eq_true rfl) (Nat.le_of_ble_eq_true rfl) (sx_abs (by omega) (by omega)) ?_
  refine sx_istore_n (pc := 4) (lv2 := [(0, .int (nI p - nI q)), (1, .int (nI u - nI v)), (2, .int (nI (sx_far p q)))]) hG [1, 2, 0] dX7_distance_4 rfl hN (by decide) rfl ?_
  refine sx_iload_n (pc := 5) hG dX7_distance_5 rfl 1 rfl ?_
  refine sx_mabs (pc := 6) (v := (nI (sx_far u v))) hG m_X7_distance_j178 dX7_distance_6 (Nat.le_of_ble_eq_true rfl) (Nat.le_of_ble_eq_true rfl) (Nat.le_of_ble_eq_true rfl) (Nat.le_of_ble_eq_true rfl) (sx_abs (by omega) (by omega)) ?_
  refine sx_istore_n (pc := 9) (lv2 := [(0, .int (nI p - nI q)), (1, .int (nI u - nI v)), (2, .int (nI (sx_far p q))), (3, .int (nI (sx_far u v)))]) hG [1, 2, 3, 0] dX7_distance_9 rfl hN (by decide) rfl ?_
  refine sx_iload_n (pc := 10) hG dX7_distance_10 rfl 2 rfl ?_
  refine sx_iload_n (pc := 11) hG dX7_distance_11 rfl 3 rfl ?_
  refine sx_mmin (pc := 12) (v := (nI (min (sx_far p q) (sx_far u v)))) hG m_X7_distance_j183 dX7_distance_12 (Nat.le_of_ble_eq_true rfl) (Nat.le_of_ble_eq_true rfl) (Nat.le_of_ble_eq_true rfl) (Nat.le_of_ble_eq_true rfl) (sx_min (by omega) (by omega)) ?_
  refine sx_istore (pc := 15) (lv2 := [(0, .int (nI p - nI q)), (1, .int (nI u - nI v)), (2, .int (nI (sx_far p q))), (3, .int (nI (sx_far u v))), (4, .int (nI (min (sx_far p q) (sx_far u v))))]) hG [1, 2, 3, 4, 0] dX7_distance_15 hN (by decide) rfl ?_
  refine sx_bipush (pc := 17) (v := nI 14) hG dX7_distance_17 (by decide +kernel) ?_
  refine sx_iload (pc := 19) hG dX7_distance_19 4 rfl ?_
  refine sx_imul (pc := 21) (v := (nI (14 * (min (sx_far p q) (sx_far u v))))) hG dX7_distance_21 (pk_mul 14 (min (sx_far p q) (sx_far u v))) ?_
  refine sx_bipush (pc := 22) (v := nI 10) hG dX7_distance_22 (by decide +kernel) ?_
  refine sx_iload_n (pc := 24) hG dX7_distance_24 rfl 2 rfl ?_
  refine sx_iload_n (pc := 25) hG dX7_distance_25 rfl 3 rfl ?_
  refine sx_mmax (pc := 26) (v := (nI (max (sx_far p q) (sx_far u v)))) hG m_X7_distance_j186 dX7_distance_26 (Nat.le_of_ble_eq_true rfl) (Nat.le_of_ble_eq_true rfl) (Nat.le_of_ble_eq_true rfl) (Nat.le_of_ble_eq_true rfl) (sx_max (by omega) (by omega)) ?_
  refine sx_iload (pc := 29) hG dX7_distance_29 4 rfl ?_
  refine sx_isub (pc := 31) (v := (nI ((max (sx_far p q) (sx_far u v)) - (min (sx_far p q) (sx_far u v))))) hG dX7_distance_31 (pk_sub (by omega)) ?_
  refine sx_imul (pc := 32) (v := (nI (10 * ((max (sx_far p q) (sx_far u v)) - (min (sx_far p q) (sx_far u v)))))) hG dX7_distance_32 (pk_mul 10 ((max (sx_far p q) (sx_far u v)) - (min (sx_far p q) (sx_far u v)))) ?_
  refine sx_iadd (pc := 33) (v := (nI (14 * (min (sx_far p q) (sx_far u v)) + (10 * ((max (sx_far p q) (sx_far u v)) - (min (sx_far p q) (sx_far u v))))))) hG dX7_distance_33 (nI_add (14 * (min (sx_far p q) (sx_far u v))) (10 * ((max (sx_far p q) (sx_far u v)) - (min (sx_far p q) (sx_far u v))))) ?_
  exact hret _ _ _ _ dX7_distance_34 rfl ⟨congrArg nI (by unfold sx_piece; rcases Nat.lt_or_ge (sx_far p q) (sx_far u v) with h | h; (rw [if_pos h, Nat.min_eq_left (by omega), Nat.max_eq_right (by omega)]); (rw [if_neg (by omega), Nat.min_eq_right h, Nat.max_eq_left h])), rfl⟩

set_option maxHeartbeats 4000000 in
set_option maxRecDepth 100000 in
theorem c_X5_onGrid (l : Launch) (X : sx_X) (ws : va_W) (x y : Int32) : sx_Mi l yX5_onGrid wsX5_onGrid { frames := 0, cells := 0, slots := 0, locals := 0 } X [.int x, .int y] ws (fun r w => r = nI (sx_ptN x y) ∧ w = ws) 0 0 := by
  refine sx_entI (own := RX5) (nL := 2) (by decide +kernel) rfl rfl (Nat.le_of_ble_eq_true rfl) ?_
  intro G hG hN hret
  show sx_W l X G 0 0 0 [(0, .int x), (1, .int y)] [] ws
  refine sx_iload_n (pc := 0) hG dX5_onGrid_0 rfl 0 rfl ?_
  refine sx_if_lt (pc := 1) (tgt := 24) (B := x.toInt < 0) hG dX5_onGrid_1 (by decide) (sx_rlt0 _) (fun c1 => ?_) (fun c1 => ?_)
  · skip
    refine sx_iconst (pc := 24) (v := nI 0) hG dX5_onGrid_24 (by decide +kernel) ?_
    exact hret _ _ _ _ dX5_onGrid_25 (by decide +kernel) ⟨congrArg nI (by unfold sx_ptN; first | (rw [if_pos (by omega)]) | (rw [if_neg (by omega)])), rfl⟩
  · skip
    refine sx_iload_n (pc := 4) hG dX5_onGrid_4 rfl 0 rfl ?_
    refine sx_bipush (pc := 5) (v := nI 10) hG dX5_onGrid_5 (by decide +kernel) ?_
    refine sx_icmp_ge (pc := 7) (tgt := 24) (B := (10 : Int) ≤ x.toInt) hG dX5_onGrid_7 (by decide) (sx_rle (nI_toInt (by omega)) rfl) (fun c7 => ?_) (fun c7 => ?_)
    · skip
      refine sx_iconst (pc := 24) (v := nI 0) hG dX5_onGrid_24 (by decide +kernel) ?_
      exact hret _ _ _ _ dX5_onGrid_25 (by decide +kernel) ⟨congrArg nI (by unfold sx_ptN; first | (rw [if_pos (by omega)]) | (rw [if_neg (by omega)])), rfl⟩
    · skip
      refine sx_iload_n (pc := 10) hG dX5_onGrid_10 rfl 1 rfl ?_
      refine sx_if_lt (pc := 11) (tgt := 24) (B := y.toInt < 0) hG dX5_onGrid_11 (by decide) (sx_rlt0 _) (fun c11 => ?_) (fun c11 => ?_)
      · skip
        refine sx_iconst (pc := 24) (v := nI 0) hG dX5_onGrid_24 (by decide +kernel) ?_
        exact hret _ _ _ _ dX5_onGrid_25 (by decide +kernel) ⟨congrArg nI (by unfold sx_ptN; first | (rw [if_pos (by omega)]) | (rw [if_neg (by omega)])), rfl⟩
      · skip
        refine sx_iload_n (pc := 14) hG dX5_onGrid_14 rfl 1 rfl ?_
        refine sx_bipush (pc := 15) (v := nI 10) hG dX5_onGrid_15 (by decide +kernel) ?_
        refine sx_icmp_ge (pc := 17) (tgt := 24) (B := (10 : Int) ≤ y.toInt) hG dX5_onGrid_17 (by decide) (sx_rle (nI_toInt (by omega)) rfl) (fun c17 => ?_) (fun c17 => ?_)
        · skip
          refine sx_iconst (pc := 24) (v := nI 0) hG dX5_onGrid_24 (by decide +kernel) ?_
          exact hret _ _ _ _ dX5_onGrid_25 (by decide +kernel) ⟨congrArg nI (by unfold sx_ptN; first | (rw [if_pos (by omega)]) | (rw [if_neg (by omega)])), rfl⟩
        · skip
          refine sx_iconst (pc := 20) (v := nI 1) hG dX5_onGrid_20 (by decide +kernel) ?_
          refine sx_goto (pc := 21) (tgt := 25) hG dX5_onGrid_21 (by decide) ?_
          exact hret _ _ _ _ dX5_onGrid_25 (by decide +kernel) ⟨congrArg nI (by unfold sx_ptN; first | (rw [if_pos (by omega)]) | (rw [if_neg (by omega)])), rfl⟩

theorem m_X5_isStraight_j52 : Cond.methodLink RX5 52 Lib.Math.abs.name ∈ wsX5_isStraight ∧ Cond.static Lib.Math.abs.name ∈ wsX5_isStraight ∧ Cond.initialized "java/lang/Math" ∈ wsX5_isStraight ∧ Cond.code Lib.Math.abs.name Lib.Math.abs.code 1 (some .int) ∈ wsX5_isStraight := by decide +kernel
set_option maxHeartbeats 4000000 in
set_option maxRecDepth 100000 in
theorem c_X5_isStraight (l : Launch) (X : sx_X) (ws : va_W) (a b c d : Nat) (ha : a ≤ 9) (hb : b ≤ 9) (hc : c ≤ 9) (hd : d ≤ 9) : sx_Mi l yX5_isStraight wsX5_isStraight { frames := 1, cells := 0, slots := 0, locals := 21 } X [.int (nI c - nI a), .int (nI d - nI b)] ws (fun r w => r = nI (sx_strN a b c d) ∧ w = ws) 0 0 := by
  refine sx_entI (own := RX5) (nL := 2) (by decide +kernel) rfl rfl (Nat.le_of_ble_eq_true rfl) ?_
  intro G hG hN hret
  show sx_W l X G 0 0 0 [(0, .int (nI c - nI a)), (1, .int (nI d - nI b))] [] ws
  have e0 : (nI c - nI a).toInt = (c : Int) - a := pk_sub_toInt (by omega) (by omega)
  have e1 : (nI d - nI b).toInt = (d : Int) - b := pk_sub_toInt (by omega) (by omega)
  have e2 := sx_far_comm a c
  have e3 := sx_far_comm b d
  have hf1 := sx_far_le c a 10 (by omega) (by omega)
  have hf2 := sx_far_le d b 10 (by omega) (by omega)
  refine sx_iload_n (pc := 0) hG dX5_isStraight_0 rfl 0 rfl ?_
  refine sx_if_eq (pc := 1) (tgt := 8) (B := (nI c - nI a).toInt = 0) hG dX5_isStraight_1 (by decide) (sx_req0 _) (fun c1 => ?_) (fun c1 => ?_)
  · skip
    refine sx_iload_n (pc := 8) hG dX5_isStraight_8 rfl 0 rfl ?_
    refine sx_iload_n (pc := 9) hG dX5_isStraight_9 rfl 1 rfl ?_
    refine sx_icmp_eq (pc := 10) (tgt := 17) (B := (nI c - nI a).toInt = (nI d - nI b).toInt) hG dX5_isStraight_10 (by decide) (sx_req rfl rfl) (fun c10 => ?_) (fun c10 => ?_)
    · skip
      refine sx_iconst (pc := 17) (v := nI 0) hG dX5_isStraight_17 (by decide +kernel) ?_
      exact hret _ _ _ _ dX5_isStraight_18 (by decide +kernel) ⟨congrArg nI (by unfold sx_strN; first | (exfalso; omega) | (rw [if_pos (by omega)]) | (rw [if_neg (by omega)])), rfl⟩
    · skip
      refine sx_iconst (pc := 13) (v := nI 1) hG dX5_isStraight_13 (by decide +kernel) ?_
      refine sx_goto (pc := 14) (tgt := 18) hG dX5_isStraight_14 (by decide) ?_
      exact hret _ _ _ _ dX5_isStraight_18 (by decide +kernel) ⟨congrArg nI (by unfold sx_strN; first | (exfalso; omega) | (rw [if_pos (by omega)]) | (rw [if_neg (by omega)])), rfl⟩
  · skip
    refine sx_iload_n (pc := 4) hG dX5_isStraight_4 rfl 1 rfl ?_
    refine sx_if_ne (pc := 5) (tgt := 19) (B := (nI d - nI b).toInt = 0) hG dX5_isStraight_5 (by decide) (sx_req0 _) (fun c5 => ?_) (fun c5 => ?_)
    · skip
      refine sx_iload_n (pc := 19) hG dX5_isStraight_19 rfl 0 rfl ?_
      refine sx_mabs (pc := 20) (v := (nI (sx_far c a))) hG m_X5_isStraight_j52 dX5_isStraight_20 (Nat.le_of_ble_eq_true rfl) (Nat.le_of_ble_eq_true rfl) (Nat.le_of_ble_eq_true rfl) (Nat.le_of_ble_eq_true rfl) (sx_abs (by omega) (by omega)) ?_
      refine sx_iload_n (pc := 23) hG dX5_isStraight_23 rfl 1 rfl ?_
      refine sx_mabs (pc := 24) (v := (nI (sx_far d b))) hG m_X5_isStraight_j52 dX5_isStraight_24 (Nat.le_of_ble_eq_true rfl) (Nat.le_of_ble_eq_true rfl) (Nat.le_of_ble_eq_true rfl) (Nat.le_of_ble_eq_true rfl) (sx_abs (by omega) (by omega)) ?_
      refine sx_icmp_ne (pc := 27) (tgt := 34) (B := (sx_far c a) = (sx_far d b)) hG dX5_isStraight_27 (by decide) (nI_eq (by omega) (by omega)) (fun c27 => ?_) (fun c27 => ?_)
      · skip
        refine sx_iconst (pc := 34) (v := nI 0) hG dX5_isStraight_34 (by decide +kernel) ?_
        exact hret _ _ _ _ dX5_isStraight_35 (by decide +kernel) ⟨congrArg nI (by unfold sx_strN; first | (exfalso; omega) | (rw [if_pos (by omega)]) | (rw [if_neg (by omega)])), rfl⟩
      · skip
        refine sx_iconst (pc := 30) (v := nI 1) hG dX5_isStraight_30 (by decide +kernel) ?_
        refine sx_goto (pc := 31) (tgt := 35) hG dX5_isStraight_31 (by decide) ?_
        exact hret _ _ _ _ dX5_isStraight_35 (by decide +kernel) ⟨congrArg nI (by unfold sx_strN; first | (exfalso; omega) | (rw [if_pos (by omega)]) | (rw [if_neg (by omega)])), rfl⟩
    · skip
      refine sx_iload_n (pc := 8) hG dX5_isStraight_8 rfl 0 rfl ?_
      refine sx_iload_n (pc := 9) hG dX5_isStraight_9 rfl 1 rfl ?_
      refine sx_icmp_eq (pc := 10) (tgt := 17) (B := (nI c - nI a).toInt = (nI d - nI b).toInt) hG dX5_isStraight_10 (by decide) (sx_req rfl rfl) (fun c10 => ?_) (fun c10 => ?_)
      · skip
        refine sx_iconst (pc := 17) (v := nI 0) hG dX5_isStraight_17 (by decide +kernel) ?_
        exact hret _ _ _ _ dX5_isStraight_18 (by decide +kernel) ⟨congrArg nI (by unfold sx_strN; first | (exfalso; omega) | (rw [if_pos (by omega)]) | (rw [if_neg (by omega)])), rfl⟩
      · skip
        refine sx_iconst (pc := 13) (v := nI 1) hG dX5_isStraight_13 (by decide +kernel) ?_
        refine sx_goto (pc := 14) (tgt := 18) hG dX5_isStraight_14 (by decide) ?_
        exact hret _ _ _ _ dX5_isStraight_18 (by decide +kernel) ⟨congrArg nI (by unfold sx_strN; first | (exfalso; omega) | (rw [if_pos (by omega)]) | (rw [if_neg (by omega)])), rfl⟩

theorem i_X5_clear_5 : ∀ w ∈ u_ws RX5 TX5 5, w ∈ wsX5_clear := by decide +kernel
theorem m_X5_clear_f9 : Cond.fieldLink RX5 9 (TX5 0).1 (TX5 0).2.1 (TX5 0).2.2.1 ∈ wsX5_clear := by decide +kernel
set_option maxHeartbeats 4000000 in
set_option maxRecDepth 100000 in
theorem c_X5_clear (l : Launch) (X : sx_X) (ad : Nat → Nat) (sc : Nat → Int32) (av : Nat → Nat → Nat)  : sx_Mv l yX5_clear wsX5_clear { frames := 0, cells := 0, slots := 0, locals := 0 } X [.ref (ad 1)] (sw X ad sc av) (fun w => w = sw X ad (va_up sc 1 (nI 0)) av) 0 0 := by
  refine sx_entV (own := RX5) (nL := 1) (by decide +kernel) rfl rfl (Nat.le_of_ble_eq_true rfl) ?_
  intro G hG hN hini hret
  show sx_W l X G 0 0 0 [(0, .ref (ad 1))] [] (sw X ad sc av)
  refine sx_aload_n (pc := 0) hG dX5_clear_0 rfl 0 rfl ?_
  refine sx_iconst (pc := 1) (v := nI 0) hG dX5_clear_1 (by decide +kernel) ?_
  refine sx_put (pc := 2) (v := .int (nI 0)) (ci := 5) (w2 := (sw X ad (va_up sc 1 (nI 0)) av)) hG i_X5_clear_5 tyX5 tyX5_ok nmX5 0 m_X5_clear_f9 dX5_clear_2 rfl (by decide) 1 rfl rfl rfl rfl (Nat.le_of_ble_eq_true rfl) rfl ?_
  exact hret _ _ _ dX5_clear_5 rfl

theorem i_X5_setStep_5 : ∀ w ∈ u_ws RX5 TX5 5, w ∈ wsX5_setStep := by decide +kernel
theorem m_X5_setStep_f15 : Cond.fieldLink RX5 15 (TX5 1).1 (TX5 1).2.1 (TX5 1).2.2.1 ∈ wsX5_setStep := by decide +kernel
theorem m_X5_setStep_f19 : Cond.fieldLink RX5 19 (TX5 2).1 (TX5 2).2.1 (TX5 2).2.2.1 ∈ wsX5_setStep := by decide +kernel
theorem m_X5_setStep_f22 : Cond.fieldLink RX5 22 (TX5 3).1 (TX5 3).2.1 (TX5 3).2.2.1 ∈ wsX5_setStep := by decide +kernel
set_option maxHeartbeats 4000000 in
set_option maxRecDepth 100000 in
theorem c_X5_setStep (l : Launch) (X : sx_X) (ad : Nat → Nat) (sc : Nat → Int32) (av : Nat → Nat → Nat) (t a b c : Nat) (ht : t < 18) : sx_Mv l yX5_setStep wsX5_setStep { frames := 0, cells := 0, slots := 0, locals := 0 } X [.ref (ad 1), .int (nI t), .int (nI a), .int (nI b), .int (nI c)] (sw X ad sc av) (fun w => w = sw X ad sc (va_up (va_up (va_up av 8 (va_up (av 8) t a)) 9 (va_up (av 9) t b)) 10 (va_up (av 10) t c))) 0 0 := by
  refine sx_entV (own := RX5) (nL := 5) (by decide +kernel) rfl rfl (Nat.le_of_ble_eq_true rfl) ?_
  intro G hG hN hini hret
  show sx_W l X G 0 0 0 [(0, .ref (ad 1)), (1, .int (nI t)), (2, .int (nI a)), (3, .int (nI b)), (4, .int (nI c))] [] (sw X ad sc av)
  refine sx_aload_n (pc := 0) hG dX5_setStep_0 rfl 0 rfl ?_
  refine sx_get (pc := 1) (v2 := .ref (ad 8)) (ci := 5) hG i_X5_setStep_5 1 m_X5_setStep_f15 dX5_setStep_1 rfl (by decide) 1 rfl rfl rfl ?_
  refine sx_iload_n (pc := 4) hG dX5_setStep_4 rfl 1 rfl ?_
  refine sx_iload_n (pc := 5) hG dX5_setStep_5 rfl 2 rfl ?_
  refine sx_iastN (pc := 6) (w2 := (sw X ad sc (va_up av 8 (va_up (av 8) t a)))) hG 8 dX5_setStep_6 rfl (by decide) (by omega) rfl ?_
  refine sx_aload_n (pc := 7) hG dX5_setStep_7 rfl 0 rfl ?_
  refine sx_get (pc := 8) (v2 := .ref (ad 9)) (ci := 5) hG i_X5_setStep_5 2 m_X5_setStep_f19 dX5_setStep_8 rfl (by decide) 1 rfl rfl rfl ?_
  refine sx_iload_n (pc := 11) hG dX5_setStep_11 rfl 1 rfl ?_
  refine sx_iload_n (pc := 12) hG dX5_setStep_12 rfl 3 rfl ?_
  refine sx_iastN (pc := 13) (w2 := (sw X ad sc (va_up (va_up av 8 (va_up (av 8) t a)) 9 (va_up (av 9) t b)))) hG 9 dX5_setStep_13 rfl (by decide) (by omega) rfl ?_
  refine sx_aload_n (pc := 14) hG dX5_setStep_14 rfl 0 rfl ?_
  refine sx_get (pc := 15) (v2 := .ref (ad 10)) (ci := 5) hG i_X5_setStep_5 3 m_X5_setStep_f22 dX5_setStep_15 rfl (by decide) 1 rfl rfl rfl ?_
  refine sx_iload_n (pc := 18) hG dX5_setStep_18 rfl 1 rfl ?_
  refine sx_iload (pc := 19) hG dX5_setStep_19 4 rfl ?_
  refine sx_iastN (pc := 21) (w2 := (sw X ad sc (va_up (va_up (va_up av 8 (va_up (av 8) t a)) 9 (va_up (av 9) t b)) 10 (va_up (av 10) t c)))) hG 10 dX5_setStep_21 rfl (by decide) (by omega) rfl ?_
  exact hret _ _ _ dX5_setStep_22 rfl

theorem i_X5_add_5 : ∀ w ∈ u_ws RX5 TX5 5, w ∈ wsX5_add := by decide +kernel
theorem m_X5_add_f9 : Cond.fieldLink RX5 9 (TX5 0).1 (TX5 0).2.1 (TX5 0).2.2.1 ∈ wsX5_add := by decide +kernel
theorem m_X5_add_g35 : Cond.fieldLink RX5 35 "TubeShop$Sign" "COMPASS" "[I" ∈ wsX5_add := by decide +kernel
theorem m_X5_add_f25 : Cond.fieldLink RX5 25 (TX5 4).1 (TX5 4).2.1 (TX5 4).2.2.1 ∈ wsX5_add := by decide +kernel
theorem m_X5_add_l48 : Cond.methodLinkNest RX5 48 yX7_distance "TubeShop" ∈ sx_nest := by decide +kernel
theorem m_X5_add_s48 : Cond.static yX7_distance ∈ wsX5_add ∧ Cond.initialized yX7_distance.cls ∈ wsX5_add := by decide +kernel
set_option maxHeartbeats 4000000 in
set_option maxRecDepth 100000 in
theorem c_X5_add_ok (l : Launch) (X : sx_X) (ad : Nat → Nat) (sc : Nat → Int32) (av : Nat → Nat → Nat) (n a b c d : Nat) (hn : n < 9) (h1 : sc 1 = nI n) (ha : a ≤ 9) (hb : b ≤ 9) (hc : c ≤ 9) (hd : d ≤ 9) (hs : sx_str a b c d) : sx_Mi l yX5_add wsX5_add { frames := 2, cells := 0, slots := 0, locals := 45 } X [.ref (ad 1), .int (nI a), .int (nI b), .int (nI c), .int (nI d)] (sw X ad sc av) (fun r w => r = nI n ∧ w = sw X ad (va_up sc 1 (nI (n + 1))) (sAdd av n a b c d)) 0 0 := by
  refine sx_entI (own := RX5) (nL := 8) (by decide +kernel) rfl rfl (Nat.le_of_ble_eq_true rfl) ?_
  intro G hG hN hret
  show sx_W l X G 0 0 0 [(0, .ref (ad 1)), (1, .int (nI a)), (2, .int (nI b)), (3, .int (nI c)), (4, .int (nI d))] [] (sw X ad sc av)
  have hdl := sx_dir_lt a b c d
  have hl1 := sx_s1_le a c
  have hl2 := sx_s1_le b d
  refine sx_aload_n (pc := 0) hG dX5_add_0 rfl 0 rfl ?_
  refine sx_get (pc := 1) (v2 := .int (nI n)) (ci := 5) hG i_X5_add_5 0 m_X5_add_f9 dX5_add_1 rfl (by decide) 1 rfl rfl (congrArg Value.int h1) ?_
  refine sx_bipush (pc := 4) (v := nI 9) hG dX5_add_4 (by decide +kernel) ?_
  refine sx_icmp_ge (pc := 6) (tgt := 26) (B := 9 ≤ n) hG dX5_add_6 (by decide) (nI_leI (by omega) (by omega)) (fun c6 => ?_) (fun c6 => ?_)
  · skip
    exact absurd c6 (by omega)
  · skip
    refine sx_iload_n (pc := 9) hG dX5_add_9 rfl 1 rfl ?_
    refine sx_iload_n (pc := 10) hG dX5_add_10 rfl 2 rfl ?_
    refine sx_callSiw (pc := 11) (n9 := 2) (As := [.int (nI a), .int (nI b)]) (st := []) hG (c_X5_onGrid l X (sw X ad sc av) (nI a) (nI b)) gX5_add_X5_onGrid rfl (by decide +kernel) rfl dX5_add_11 ⟨rfl, rfl⟩ ⟨Nat.le_of_ble_eq_true rfl, Nat.le_of_ble_eq_true rfl⟩ (Nat.le_of_ble_eq_true rfl) ⟨Nat.le_of_ble_eq_true rfl, Nat.le_of_ble_eq_true rfl⟩ (fun r w1 hp => ?_)
    obtain ⟨hr9, hw9⟩ := hp
    rw [sx_ptN_ok (by omega) (by omega)] at hr9
    subst hr9
    refine sx_weq hw9 ?_
    refine sx_if_eq (pc := 14) (tgt := 26) (B := 1 = 0) hG dX5_add_14 (by decide) (sx_eq0 (by omega)) (fun c14 => ?_) (fun c14 => ?_)
    · skip
      exact absurd c14 (by decide)
    · skip
      refine sx_iload_n (pc := 17) hG dX5_add_17 rfl 3 rfl ?_
      refine sx_iload (pc := 18) hG dX5_add_18 4 rfl ?_
      refine sx_callSiw (pc := 20) (n9 := 2) (As := [.int (nI c), .int (nI d)]) (st := []) hG (c_X5_onGrid l X (sw X ad sc av) (nI c) (nI d)) gX5_add_X5_onGrid rfl (by decide +kernel) rfl dX5_add_20 ⟨rfl, rfl⟩ ⟨Nat.le_of_ble_eq_true rfl, Nat.le_of_ble_eq_true rfl⟩ (Nat.le_of_ble_eq_true rfl) ⟨Nat.le_of_ble_eq_true rfl, Nat.le_of_ble_eq_true rfl⟩ (fun r w1 hp => ?_)
      obtain ⟨hr9, hw9⟩ := hp
      rw [sx_ptN_ok (by omega) (by omega)] at hr9
      subst hr9
      refine sx_weq hw9 ?_
      refine sx_if_ne (pc := 23) (tgt := 28) (B := 1 = 0) hG dX5_add_23 (by decide) (sx_eq0 (by omega)) (fun c23 => ?_) (fun c23 => ?_)
      · skip
        refine sx_iload_n (pc := 28) hG dX5_add_28 rfl 3 rfl ?_
        refine sx_iload_n (pc := 29) hG dX5_add_29 rfl 1 rfl ?_
        refine sx_isub (pc := 30) (v := (nI c - nI a)) hG dX5_add_30 rfl ?_
        refine sx_istore (pc := 31) (lv2 := [(0, .ref (ad 1)), (1, .int (nI a)), (2, .int (nI b)), (3, .int (nI c)), (4, .int (nI d)), (5, .int (nI c - nI a))]) hG [1, 2, 3, 4, 5, 0] dX5_add_31 hN (by decide) rfl ?_
        refine sx_iload (pc := 33) hG dX5_add_33 4 rfl ?_
        refine sx_iload_n (pc := 35) hG dX5_add_35 rfl 2 rfl ?_
        refine sx_isub (pc := 36) (v := (nI d - nI b)) hG dX5_add_36 rfl ?_
        refine sx_istore (pc := 37) (lv2 := [(0, .ref (ad 1)), (1, .int (nI a)), (2, .int (nI b)), (3, .int (nI c)), (4, .int (nI d)), (5, .int (nI c - nI a)), (6, .int (nI d - nI b))]) hG [1, 2, 3, 4, 5, 6, 0] dX5_add_37 hN (by decide) rfl ?_
        refine sx_iload (pc := 39) hG dX5_add_39 5 rfl ?_
        refine sx_iload (pc := 41) hG dX5_add_41 6 rfl ?_
        refine sx_callSiw (pc := 43) (n9 := 2) (As := [.int (nI c - nI a), .int (nI d - nI b)]) (st := []) hG (c_X5_isStraight l X (sw X ad sc av) a b c d (by omega) (by omega) (by omega) (by omega)) gX5_add_X5_isStraight rfl (by decide +kernel) rfl dX5_add_43 ⟨rfl, rfl⟩ ⟨Nat.le_of_ble_eq_true rfl, Nat.le_of_ble_eq_true rfl⟩ (Nat.le_of_ble_eq_true rfl) ⟨Nat.le_of_ble_eq_true rfl, Nat.le_of_ble_eq_true rfl⟩ (fun r w1 hp => ?_)
        obtain ⟨hr9, hw9⟩ := hp
        rw [sx_strN_1 hs] at hr9
        subst hr9
        refine sx_weq hw9 ?_
        refine sx_if_ne (pc := 46) (tgt := 51) (B := 1 = 0) hG dX5_add_46 (by decide) (sx_eq0 (by omega)) (fun c46 => ?_) (fun c46 => ?_)
        · skip
          refine sx_cmpGet (pc := 51) hG m_X5_add_g35 dX5_add_51 ?_
          refine sx_iconst (pc := 54) (v := nI 3) hG dX5_add_54 (by decide +kernel) ?_
          refine sx_iload (pc := 55) hG dX5_add_55 6 rfl ?_
          refine sx_callSiw (pc := 57) (n9 := 1) (As := [.int (nI d - nI b)]) (st := [.int (nI 3), .ref X.2.2.1]) hG (c_J6_signum_0f7a4 l X (sw X ad sc av) b d (by omega) (by omega)) gX5_add_J6_signum_0f7a4 rfl (by decide +kernel) rfl dX5_add_57 ⟨rfl, rfl⟩ ⟨Nat.le_of_ble_eq_true rfl, Nat.le_of_ble_eq_true rfl⟩ (Nat.le_of_ble_eq_true rfl) ⟨Nat.le_of_ble_eq_true rfl, Nat.le_of_ble_eq_true rfl⟩ (fun r w1 hp => ?_)
          obtain ⟨hr9, hw9⟩ := hp
          have hr9 : r = (sx_sgn b d) := hr9
          subst hr9
          refine sx_weq hw9 ?_
          refine sx_iconst (pc := 60) (v := nI 1) hG dX5_add_60 (by decide +kernel) ?_
          refine sx_iadd (pc := 61) (v := (nI (sx_s1 b d))) hG dX5_add_61 (sx_sgn1 b d) ?_
          refine sx_imul (pc := 62) (v := (nI (3 * (sx_s1 b d)))) hG dX5_add_62 (pk_mul 3 (sx_s1 b d)) ?_
          refine sx_iload (pc := 63) hG dX5_add_63 5 rfl ?_
          refine sx_callSiw (pc := 65) (n9 := 1) (As := [.int (nI c - nI a)]) (st := [.int (nI (3 * (sx_s1 b d))), .ref X.2.2.1]) hG (c_J6_signum_0f7a4 l X (sw X ad sc av) a c (by omega) (by omega)) gX5_add_J6_signum_0f7a4 rfl (by decide +kernel) rfl dX5_add_65 ⟨rfl, rfl⟩ ⟨Nat.le_of_ble_eq_true rfl, Nat.le_of_ble_eq_true rfl⟩ (Nat.le_of_ble_eq_true rfl) ⟨Nat.le_of_ble_eq_true rfl, Nat.le_of_ble_eq_true rfl⟩ (fun r w1 hp => ?_)
          obtain ⟨hr9, hw9⟩ := hp
          have hr9 : r = (sx_sgn a c) := hr9
          subst hr9
          refine sx_weq hw9 ?_
          refine sx_iadd (pc := 68) (v := ((nI (3 * (sx_s1 b d))) + (sx_sgn a c))) hG dX5_add_68 rfl ?_
          refine sx_iconst (pc := 69) (v := nI 1) hG dX5_add_69 (by decide +kernel) ?_
          refine sx_iadd (pc := 70) (v := (nI (3 * sx_s1 b d + sx_s1 a c))) hG dX5_add_70 (by rw [Int32.add_assoc, sx_sgn1, nI_add]) ?_
          refine sx_cmpLd (pc := 71) (v := (nI (sx_dir a b c d))) hG dX5_add_71 (by omega) (sx_cdir hs.1) ?_
          refine sx_istore (pc := 72) (lv2 := [(0, .ref (ad 1)), (1, .int (nI a)), (2, .int (nI b)), (3, .int (nI c)), (4, .int (nI d)), (5, .int (nI c - nI a)), (6, .int (nI d - nI b)), (7, .int (nI (sx_dir a b c d)))]) hG [1, 2, 3, 4, 5, 6, 7, 0] dX5_add_72 hN (by decide) rfl ?_
          refine sx_aload_n (pc := 74) hG dX5_add_74 rfl 0 rfl ?_
          refine sx_iconst (pc := 75) (v := nI 2) hG dX5_add_75 (by decide +kernel) ?_
          refine sx_aload_n (pc := 76) hG dX5_add_76 rfl 0 rfl ?_
          refine sx_get (pc := 77) (v2 := .int (nI n)) (ci := 5) hG i_X5_add_5 0 m_X5_add_f9 dX5_add_77 rfl (by decide) 1 rfl rfl (congrArg Value.int h1) ?_
          refine sx_imul (pc := 80) (v := (nI (2 * n))) hG dX5_add_80 (pk_mul 2 n) ?_
          refine sx_iload_n (pc := 81) hG dX5_add_81 rfl 1 rfl ?_
          refine sx_iload_n (pc := 82) hG dX5_add_82 rfl 2 rfl ?_
          refine sx_iload (pc := 83) hG dX5_add_83 7 rfl ?_
          refine sx_callVvw (pc := 85) (n9 := 4) (As := [.int (nI (2 * n)), .int (nI a), .int (nI b), .int (nI (sx_dir a b c d))]) (st := []) (b := (ad 1)) (ci := 5) hG (c_X5_setStep l X ad sc av (2 * n) a b (sx_dir a b c d) (by omega)) gX5_add_X5_setStep rfl (by decide +kernel) rfl 1 rfl rfl rfl dX5_add_85 ⟨rfl, rfl⟩ ⟨Nat.le_of_ble_eq_true rfl, Nat.le_of_ble_eq_true rfl⟩ (Nat.le_of_ble_eq_true rfl) ⟨Nat.le_of_ble_eq_true rfl, Nat.le_of_ble_eq_true rfl⟩ (fun w1 hp => ?_)
          refine sx_weq hp ?_
          refine sx_weq (w2 := (sw X ad sc (va_up (va_up (va_up av 8 (va_up (av 8) (2 * n) a)) 9 (va_up (av 9) (2 * n) b)) 10 (va_up (av 10) (2 * n) (sx_dir a b c d))))) rfl ?_
          refine sx_aload_n (pc := 88) hG dX5_add_88 rfl 0 rfl ?_
          refine sx_iconst (pc := 89) (v := nI 2) hG dX5_add_89 (by decide +kernel) ?_
          refine sx_aload_n (pc := 90) hG dX5_add_90 rfl 0 rfl ?_
          refine sx_get (pc := 91) (v2 := .int (nI n)) (ci := 5) hG i_X5_add_5 0 m_X5_add_f9 dX5_add_91 rfl (by decide) 1 rfl rfl (congrArg Value.int h1) ?_
          refine sx_imul (pc := 94) (v := (nI (2 * n))) hG dX5_add_94 (pk_mul 2 n) ?_
          refine sx_iconst (pc := 95) (v := nI 1) hG dX5_add_95 (by decide +kernel) ?_
          refine sx_iadd (pc := 96) (v := (nI (2 * n + 1))) hG dX5_add_96 (nI_add (2 * n) 1) ?_
          refine sx_iload_n (pc := 97) hG dX5_add_97 rfl 3 rfl ?_
          refine sx_iload (pc := 98) hG dX5_add_98 4 rfl ?_
          refine sx_iload (pc := 100) hG dX5_add_100 7 rfl ?_
          refine sx_iconst (pc := 102) (v := nI 4) hG dX5_add_102 (by decide +kernel) ?_
          refine sx_iadd (pc := 103) (v := (nI (sx_dir a b c d + 4))) hG dX5_add_103 (nI_add (sx_dir a b c d) 4) ?_
          refine sx_bipush (pc := 104) (v := nI 8) hG dX5_add_104 (by decide +kernel) ?_
          refine sx_irem (pc := 106) (v := (nI ((sx_dir a b c d + 4) % 8))) hG dX5_add_106 (nI_ne0 (by decide) (by decide)) (pk_rem (by omega) (by decide) (by decide)) ?_
          refine sx_callVvw (pc := 107) (n9 := 4) (As := [.int (nI (2 * n + 1)), .int (nI c), .int (nI d), .int (nI ((sx_dir a b c d + 4) % 8))]) (st := []) (b := (ad 1)) (ci := 5) hG (c_X5_setStep l X ad sc (va_up (va_up (va_up av 8 (va_up (av 8) (2 * n) a)) 9 (va_up (av 9) (2 * n) b)) 10 (va_up (av 10) (2 * n) (sx_dir a b c d))) (2 * n + 1) c d ((sx_dir a b c d + 4) % 8) (by omega)) gX5_add_X5_setStep rfl (by decide +kernel) rfl 1 rfl rfl rfl dX5_add_107 ⟨rfl, rfl⟩ ⟨Nat.le_of_ble_eq_true rfl, Nat.le_of_ble_eq_true rfl⟩ (Nat.le_of_ble_eq_true rfl) ⟨Nat.le_of_ble_eq_true rfl, Nat.le_of_ble_eq_true rfl⟩ (fun w1 hp => ?_)
          refine sx_weq hp ?_
          refine sx_weq (w2 := (sw X ad sc (va_up (va_up (va_up av 8 (va_up (va_up (av 8) (2 * n) a) (2 * n + 1) c)) 9 (va_up (va_up (av 9) (2 * n) b) (2 * n + 1) d)) 10 (va_up (va_up (av 10) (2 * n) (sx_dir a b c d)) (2 * n + 1) ((sx_dir a b c d + 4) % 8))))) rfl ?_
          refine sx_aload_n (pc := 110) hG dX5_add_110 rfl 0 rfl ?_
          refine sx_get (pc := 111) (v2 := .ref (ad 11)) (ci := 5) hG i_X5_add_5 4 m_X5_add_f25 dX5_add_111 rfl (by decide) 1 rfl rfl rfl ?_
          refine sx_aload_n (pc := 114) hG dX5_add_114 rfl 0 rfl ?_
          refine sx_get (pc := 115) (v2 := .int (nI n)) (ci := 5) hG i_X5_add_5 0 m_X5_add_f9 dX5_add_115 rfl (by decide) 1 rfl rfl (congrArg Value.int h1) ?_
          refine sx_iload (pc := 118) hG dX5_add_118 5 rfl ?_
          refine sx_iload (pc := 120) hG dX5_add_120 6 rfl ?_
          refine sx_callSNiw (pc := 122) (n9 := 2) (As := [.int (nI c - nI a), .int (nI d - nI b)]) (st := [.int (nI n), .ref (ad 11)]) hG (c_X7_distance l X (sw X ad sc (va_up (va_up (va_up av 8 (va_up (va_up (av 8) (2 * n) a) (2 * n + 1) c)) 9 (va_up (va_up (av 9) (2 * n) b) (2 * n + 1) d)) 10 (va_up (va_up (av 10) (2 * n) (sx_dir a b c d)) (2 * n + 1) ((sx_dir a b c d + 4) % 8)))) c a d b (by omega) (by omega) (by omega) (by omega)) gX5_add_X7_distance_n48 rfl m_X5_add_l48 m_X5_add_s48 (by decide +kernel) rfl dX5_add_122 ⟨rfl, rfl⟩ ⟨Nat.le_of_ble_eq_true rfl, Nat.le_of_ble_eq_true rfl⟩ (Nat.le_of_ble_eq_true rfl) ⟨Nat.le_of_ble_eq_true rfl, Nat.le_of_ble_eq_true rfl⟩ (fun r w1 hp => ?_)
          obtain ⟨hr9, hw9⟩ := hp
          have hr9 : r = (nI (sx_piece (sx_far c a) (sx_far d b))) := hr9
          subst hr9
          refine sx_weq hw9 ?_
          refine sx_iastN (pc := 125) (w2 := (sw X ad sc (va_up (va_up (va_up (va_up av 8 (va_up (va_up (av 8) (2 * n) a) (2 * n + 1) c)) 9 (va_up (va_up (av 9) (2 * n) b) (2 * n + 1) d)) 10 (va_up (va_up (av 10) (2 * n) (sx_dir a b c d)) (2 * n + 1) ((sx_dir a b c d + 4) % 8))) 11 (va_up (av 11) n (sx_piece (sx_far c a) (sx_far d b)))))) hG 11 dX5_add_125 rfl (by decide) (by omega) rfl ?_
          refine sx_aload_n (pc := 126) hG dX5_add_126 rfl 0 rfl ?_
          refine sx_dup (pc := 127) hG dX5_add_127 rfl ?_
          refine sx_get (pc := 128) (v2 := .int (nI n)) (ci := 5) hG i_X5_add_5 0 m_X5_add_f9 dX5_add_128 rfl (by decide) 1 rfl rfl (congrArg Value.int h1) ?_
          refine sx_iconst (pc := 131) (v := nI 1) hG dX5_add_131 (by decide +kernel) ?_
          refine sx_iadd (pc := 132) (v := (nI (n + 1))) hG dX5_add_132 (nI_add n 1) ?_
          refine sx_put (pc := 133) (v := .int (nI (n + 1))) (ci := 5) (w2 := (sw X ad (va_up sc 1 (nI (n + 1))) (va_up (va_up (va_up (va_up av 8 (va_up (va_up (av 8) (2 * n) a) (2 * n + 1) c)) 9 (va_up (va_up (av 9) (2 * n) b) (2 * n + 1) d)) 10 (va_up (va_up (av 10) (2 * n) (sx_dir a b c d)) (2 * n + 1) ((sx_dir a b c d + 4) % 8))) 11 (va_up (av 11) n (sx_piece (sx_far c a) (sx_far d b)))))) hG i_X5_add_5 tyX5 tyX5_ok nmX5 0 m_X5_add_f9 dX5_add_133 rfl (by decide) 1 rfl rfl rfl rfl (Nat.le_of_ble_eq_true rfl) rfl ?_
          refine sx_aload_n (pc := 136) hG dX5_add_136 rfl 0 rfl ?_
          refine sx_get (pc := 137) (v2 := .int (nI (n + 1))) (ci := 5) hG i_X5_add_5 0 m_X5_add_f9 dX5_add_137 rfl (by decide) 1 rfl rfl rfl ?_
          refine sx_iconst (pc := 140) (v := nI 1) hG dX5_add_140 (by decide +kernel) ?_
          refine sx_isub (pc := 141) (v := (nI ((n + 1) - 1))) hG dX5_add_141 (pk_sub (by omega)) ?_
          exact hret _ _ _ _ dX5_add_142 rfl ⟨congrArg nI (by omega), rfl⟩
        · skip
          exact absurd c46 (by decide)
      · skip
        exact absurd c23 (by decide)

set_option maxHeartbeats 4000000 in
set_option maxRecDepth 100000 in
theorem c_X5_add_no (l : Launch) (X : sx_X) (ad : Nat → Nat) (sc : Nat → Int32) (av : Nat → Nat → Nat) (a b c d : Int32) (n : Nat) (hn : n ≤ 9) (h1 : sc 1 = nI n) (hno : sx_no n a b c d) : sx_Mi l yX5_add wsX5_add { frames := 2, cells := 0, slots := 0, locals := 42 } X [.ref (ad 1), .int a, .int b, .int c, .int d] (sw X ad sc av) (fun r w => r = -1 ∧ w = sw X ad sc av) 0 0 := by
  refine sx_entI (own := RX5) (nL := 8) (by decide +kernel) rfl rfl (Nat.le_of_ble_eq_true rfl) ?_
  intro G hG hN hret
  show sx_W l X G 0 0 0 [(0, .ref (ad 1)), (1, .int a), (2, .int b), (3, .int c), (4, .int d)] [] (sw X ad sc av)
  have hl1 := sx_ptN_le a b
  have hl2 := sx_ptN_le c d
  refine sx_aload_n (pc := 0) hG dX5_add_0 rfl 0 rfl ?_
  refine sx_get (pc := 1) (v2 := .int (nI n)) (ci := 5) hG i_X5_add_5 0 m_X5_add_f9 dX5_add_1 rfl (by decide) 1 rfl rfl (congrArg Value.int h1) ?_
  refine sx_bipush (pc := 4) (v := nI 9) hG dX5_add_4 (by decide +kernel) ?_
  refine sx_icmp_ge (pc := 6) (tgt := 26) (B := 9 ≤ n) hG dX5_add_6 (by decide) (nI_leI (by omega) (by omega)) (fun c6 => ?_) (fun c6 => ?_)
  · skip
    refine sx_iconst (pc := 26) (v := (-1)) hG dX5_add_26 (by decide +kernel) ?_
    exact hret _ _ _ _ dX5_add_27 rfl ⟨rfl, rfl⟩
  · skip
    refine sx_iload_n (pc := 9) hG dX5_add_9 rfl 1 rfl ?_
    refine sx_iload_n (pc := 10) hG dX5_add_10 rfl 2 rfl ?_
    refine sx_callSiw (pc := 11) (n9 := 2) (As := [.int a, .int b]) (st := []) hG (c_X5_onGrid l X (sw X ad sc av) a b) gX5_add_X5_onGrid rfl (by decide +kernel) rfl dX5_add_11 ⟨rfl, rfl⟩ ⟨Nat.le_of_ble_eq_true rfl, Nat.le_of_ble_eq_true rfl⟩ (Nat.le_of_ble_eq_true rfl) ⟨Nat.le_of_ble_eq_true rfl, Nat.le_of_ble_eq_true rfl⟩ (fun r w1 hp => ?_)
    obtain ⟨hr9, hw9⟩ := hp
    have hr9 : r = (nI (sx_ptN a b)) := hr9
    subst hr9
    refine sx_weq hw9 ?_
    refine sx_if_eq (pc := 14) (tgt := 26) (B := (sx_ptN a b) = 0) hG dX5_add_14 (by decide) (sx_eq0 (by omega)) (fun c14 => ?_) (fun c14 => ?_)
    · skip
      refine sx_iconst (pc := 26) (v := (-1)) hG dX5_add_26 (by decide +kernel) ?_
      exact hret _ _ _ _ dX5_add_27 rfl ⟨rfl, rfl⟩
    · skip
      refine sx_iload_n (pc := 17) hG dX5_add_17 rfl 3 rfl ?_
      refine sx_iload (pc := 18) hG dX5_add_18 4 rfl ?_
      refine sx_callSiw (pc := 20) (n9 := 2) (As := [.int c, .int d]) (st := []) hG (c_X5_onGrid l X (sw X ad sc av) c d) gX5_add_X5_onGrid rfl (by decide +kernel) rfl dX5_add_20 ⟨rfl, rfl⟩ ⟨Nat.le_of_ble_eq_true rfl, Nat.le_of_ble_eq_true rfl⟩ (Nat.le_of_ble_eq_true rfl) ⟨Nat.le_of_ble_eq_true rfl, Nat.le_of_ble_eq_true rfl⟩ (fun r w1 hp => ?_)
      obtain ⟨hr9, hw9⟩ := hp
      have hr9 : r = (nI (sx_ptN c d)) := hr9
      subst hr9
      refine sx_weq hw9 ?_
      refine sx_if_ne (pc := 23) (tgt := 28) (B := (sx_ptN c d) = 0) hG dX5_add_23 (by decide) (sx_eq0 (by omega)) (fun c23 => ?_) (fun c23 => ?_)
      · skip
        obtain ⟨⟨p, rfl, hp⟩, ⟨q, rfl, hq⟩⟩ := sx_ptN_ne c14
        obtain ⟨⟨u, rfl, hu⟩, ⟨v, rfl, hv⟩⟩ := sx_ptN_ne c23
        refine sx_iload_n (pc := 28) hG dX5_add_28 rfl 3 rfl ?_
        refine sx_iload_n (pc := 29) hG dX5_add_29 rfl 1 rfl ?_
        refine sx_isub (pc := 30) (v := (nI u - nI p)) hG dX5_add_30 rfl ?_
        refine sx_istore (pc := 31) (lv2 := [(0, .ref (ad 1)), (1, .int (nI p)), (2, .int (nI q)), (3, .int (nI u)), (4, .int (nI v)), (5, .int (nI u - nI p))]) hG [1, 2, 3, 4, 5, 0] dX5_add_31 hN (by decide) rfl ?_
        refine sx_iload (pc := 33) hG dX5_add_33 4 rfl ?_
        refine sx_iload_n (pc := 35) hG dX5_add_35 rfl 2 rfl ?_
        refine sx_isub (pc := 36) (v := (nI v - nI q)) hG dX5_add_36 rfl ?_
        refine sx_istore (pc := 37) (lv2 := [(0, .ref (ad 1)), (1, .int (nI p)), (2, .int (nI q)), (3, .int (nI u)), (4, .int (nI v)), (5, .int (nI u - nI p)), (6, .int (nI v - nI q))]) hG [1, 2, 3, 4, 5, 6, 0] dX5_add_37 hN (by decide) rfl ?_
        refine sx_iload (pc := 39) hG dX5_add_39 5 rfl ?_
        refine sx_iload (pc := 41) hG dX5_add_41 6 rfl ?_
        refine sx_callSiw (pc := 43) (n9 := 2) (As := [.int (nI u - nI p), .int (nI v - nI q)]) (st := []) hG (c_X5_isStraight l X (sw X ad sc av) p q u v (by omega) (by omega) (by omega) (by omega)) gX5_add_X5_isStraight rfl (by decide +kernel) rfl dX5_add_43 ⟨rfl, rfl⟩ ⟨Nat.le_of_ble_eq_true rfl, Nat.le_of_ble_eq_true rfl⟩ (Nat.le_of_ble_eq_true rfl) ⟨Nat.le_of_ble_eq_true rfl, Nat.le_of_ble_eq_true rfl⟩ (fun r w1 hp => ?_)
        obtain ⟨hr9, hw9⟩ := hp
        have hr9 : r = (nI (sx_strN p q u v)) := hr9
        subst hr9
        refine sx_weq hw9 ?_
        have hsl := sx_strN_le p q u v
        refine sx_if_ne (pc := 46) (tgt := 51) (B := (sx_strN p q u v) = 0) hG dX5_add_46 (by decide) (sx_eq0 (by omega)) (fun c46 => ?_) (fun c46 => ?_)
        · skip
          exact absurd (sx_strN_ne c46) (hno p q u v rfl rfl rfl rfl hp hq hu hv (by omega))
        · skip
          refine sx_iconst (pc := 49) (v := (-1)) hG dX5_add_49 (by decide +kernel) ?_
          exact hret _ _ _ _ dX5_add_50 rfl ⟨rfl, rfl⟩
      · skip
        refine sx_iconst (pc := 26) (v := (-1)) hG dX5_add_26 (by decide +kernel) ?_
        exact hret _ _ _ _ dX5_add_27 rfl ⟨rfl, rfl⟩

theorem i_X5_all_5 : ∀ w ∈ u_ws RX5 TX5 5, w ∈ wsX5_all := by decide +kernel
theorem m_X5_all_f9 : Cond.fieldLink RX5 9 (TX5 0).1 (TX5 0).2.1 (TX5 0).2.2.1 ∈ wsX5_all := by decide +kernel
set_option maxHeartbeats 4000000 in
set_option maxRecDepth 100000 in
theorem c_X5_all (l : Launch) (X : sx_X) (ad : Nat → Nat) (sc : Nat → Int32) (av : Nat → Nat → Nat) (n : Nat) (hn : n ≤ 9) (h1 : sc 1 = nI n) : sx_Mi l yX5_all wsX5_all { frames := 0, cells := 0, slots := 0, locals := 0 } X [.ref (ad 1)] (sw X ad sc av) (fun r w => r = nI (2 ^ n - 1) ∧ w = sw X ad sc av) 0 0 := by
  refine sx_entI (own := RX5) (nL := 1) (by decide +kernel) rfl rfl (Nat.le_of_ble_eq_true rfl) ?_
  intro G hG hN hret
  show sx_W l X G 0 0 0 [(0, .ref (ad 1))] [] (sw X ad sc av)
  have hp := sx_p9 hn
  have hp1 : 1 ≤ 2 ^ n := Nat.one_le_two_pow
  refine sx_iconst (pc := 0) (v := nI 1) hG dX5_all_0 (by decide +kernel) ?_
  refine sx_aload_n (pc := 1) hG dX5_all_1 rfl 0 rfl ?_
  refine sx_get (pc := 2) (v2 := .int (nI n)) (ci := 5) hG i_X5_all_5 0 m_X5_all_f9 dX5_all_2 rfl (by decide) 1 rfl rfl (congrArg Value.int h1) ?_
  refine sx_ishl (pc := 5) (v := (nI (2 ^ n))) hG dX5_all_5 (sx_one (by omega)) ?_
  refine sx_iconst (pc := 6) (v := nI 1) hG dX5_all_6 (by decide +kernel) ?_
  refine sx_isub (pc := 7) (v := (nI ((2 ^ n) - 1))) hG dX5_all_7 (pk_sub (by omega)) ?_
  exact hret _ _ _ _ dX5_all_8 rfl ⟨rfl, rfl⟩

set_option maxHeartbeats 4000000 in
set_option maxRecDepth 100000 in
theorem c_X5_holds (l : Launch) (X : sx_X) (ad : Nat → Nat) (sc : Nat → Int32) (av : Nat → Nat → Nat) (x : Int32) (n : Nat) (hn : n ≤ 9) (h1 : sc 1 = nI n) : sx_Mi l yX5_holds wsX5_holds { frames := 1, cells := 0, slots := 0, locals := 20 } X [.ref (ad 1), .int x] (sw X ad sc av) (fun r w => r = nI (sx_isSet n x) ∧ w = sw X ad sc av) 0 0 := by
  refine sx_entI (own := RX5) (nL := 2) (by decide +kernel) rfl rfl (Nat.le_of_ble_eq_true rfl) ?_
  intro G hG hN hret
  show sx_W l X G 0 0 0 [(0, .ref (ad 1)), (1, .int x)] [] (sw X ad sc av)
  have hp9 := sx_p9 hn
  have hp1 : 1 ≤ 2 ^ n := Nat.one_le_two_pow
  refine sx_iload_n (pc := 0) hG dX5_holds_0 rfl 1 rfl ?_
  refine sx_iconst (pc := 1) (v := nI 1) hG dX5_holds_1 (by decide +kernel) ?_
  refine sx_icmp_lt (pc := 2) (tgt := 17) (B := x.toInt < (1 : Int)) hG dX5_holds_2 (by decide) (sx_rlt rfl (nI_toInt (by omega))) (fun c2 => ?_) (fun c2 => ?_)
  · skip
    refine sx_iconst (pc := 17) (v := nI 0) hG dX5_holds_17 (by decide +kernel) ?_
    exact hret _ _ _ _ dX5_holds_18 (by decide +kernel) ⟨congrArg nI (by unfold sx_isSet; first | (rw [if_pos (by omega)]) | (rw [if_neg (by omega)])), rfl⟩
  · skip
    refine sx_iload_n (pc := 5) hG dX5_holds_5 rfl 1 rfl ?_
    refine sx_aload_n (pc := 6) hG dX5_holds_6 rfl 0 rfl ?_
    refine sx_callViw (pc := 7) (n9 := 0) (As := []) (st := [.int x]) (b := (ad 1)) (ci := 5) hG (c_X5_all l X ad sc av n hn h1) gX5_holds_X5_all rfl (by decide +kernel) rfl 1 rfl rfl rfl dX5_holds_7 ⟨rfl, rfl⟩ ⟨Nat.le_of_ble_eq_true rfl, Nat.le_of_ble_eq_true rfl⟩ (Nat.le_of_ble_eq_true rfl) ⟨Nat.le_of_ble_eq_true rfl, Nat.le_of_ble_eq_true rfl⟩ (fun r w1 hp => ?_)
    obtain ⟨hr9, hw9⟩ := hp
    have hr9 : r = (nI (2 ^ n - 1)) := hr9
    subst hr9
    refine sx_weq hw9 ?_
    refine sx_icmp_gt (pc := 10) (tgt := 17) (B := ((2 ^ n - 1 : Nat) : Int) < x.toInt) hG dX5_holds_10 (by decide) (sx_rlt (nI_toInt (by omega)) rfl) (fun c10 => ?_) (fun c10 => ?_)
    · skip
      refine sx_iconst (pc := 17) (v := nI 0) hG dX5_holds_17 (by decide +kernel) ?_
      exact hret _ _ _ _ dX5_holds_18 (by decide +kernel) ⟨congrArg nI (by unfold sx_isSet; first | (rw [if_pos (by omega)]) | (rw [if_neg (by omega)])), rfl⟩
    · skip
      refine sx_iconst (pc := 13) (v := nI 1) hG dX5_holds_13 (by decide +kernel) ?_
      refine sx_goto (pc := 14) (tgt := 18) hG dX5_holds_14 (by decide) ?_
      exact hret _ _ _ _ dX5_holds_18 (by decide +kernel) ⟨congrArg nI (by unfold sx_isSet; first | (rw [if_pos (by omega)]) | (rw [if_neg (by omega)])), rfl⟩

theorem i_X5_wholeLength_5 : ∀ w ∈ u_ws RX5 TX5 5, w ∈ wsX5_wholeLength := by decide +kernel
theorem m_X5_wholeLength_f9 : Cond.fieldLink RX5 9 (TX5 0).1 (TX5 0).2.1 (TX5 0).2.2.1 ∈ wsX5_wholeLength := by decide +kernel
theorem m_X5_wholeLength_f25 : Cond.fieldLink RX5 25 (TX5 4).1 (TX5 4).2.1 (TX5 4).2.2.1 ∈ wsX5_wholeLength := by decide +kernel
set_option maxHeartbeats 4000000 in
set_option maxRecDepth 100000 in
theorem c_X5_wholeLength (l : Launch) (X : sx_X) (ad : Nat → Nat) (sc : Nat → Int32) (av : Nat → Nat → Nat) (n : Nat) (hn : n ≤ 9) (h1 : sc 1 = nI n) (hg : sG av) : sx_Mi l yX5_wholeLength wsX5_wholeLength { frames := 0, cells := 0, slots := 0, locals := 0 } X [.ref (ad 1)] (sw X ad sc av) (fun r w => r = nI (sx_sum (av 11) n) ∧ w = sw X ad sc av) 0 0 := by
  refine sx_entI (own := RX5) (nL := 3) (by decide +kernel) rfl rfl (Nat.le_of_ble_eq_true rfl) ?_
  intro G hG hN hret
  show sx_W l X G 0 0 0 [(0, .ref (ad 1))] [] (sw X ad sc av)
  have loop_k : ∀ (fuel : Nat), ∀ (k : Nat), (k ≤ n) → n - k < fuel → sx_W l X G 0 0 4 [(0, .ref (ad 1)), (1, .int (nI (sx_sum (av 11) k))), (2, .int (nI k))] [] (sw X ad sc av) := by
    intro fuel
    induction fuel with
    | zero => intro k hk hm; exact absurd hm (Nat.not_lt_zero _)
    | succ fuel ih_k =>
      intro k hk hm_k
      have hs1 := sx_sum_le hg.2.2.2.1 k
      have hs2 := hg.2.2.2.1 k
      refine sx_iload_n (pc := 4) hG dX5_wholeLength_4 rfl 2 rfl ?_
      refine sx_aload_n (pc := 5) hG dX5_wholeLength_5 rfl 0 rfl ?_
      refine sx_get (pc := 6) (v2 := .int (nI n)) (ci := 5) hG i_X5_wholeLength_5 0 m_X5_wholeLength_f9 dX5_wholeLength_6 rfl (by decide) 1 rfl rfl (congrArg Value.int h1) ?_
      refine sx_icmp_ge (pc := 9) (tgt := 27) (B := n ≤ k) hG dX5_wholeLength_9 (by decide) (nI_leI (by omega) (by omega)) (fun c9 => ?_) (fun c9 => ?_)
      · skip
        have hkn : k = n := by omega
        subst hkn
        refine sx_iload_n (pc := 27) hG dX5_wholeLength_27 rfl 1 rfl ?_
        exact hret _ _ _ _ dX5_wholeLength_28 rfl ⟨rfl, rfl⟩
      · skip
        refine sx_iload_n (pc := 12) hG dX5_wholeLength_12 rfl 1 rfl ?_
        refine sx_aload_n (pc := 13) hG dX5_wholeLength_13 rfl 0 rfl ?_
        refine sx_get (pc := 14) (v2 := .ref (ad 11)) (ci := 5) hG i_X5_wholeLength_5 4 m_X5_wholeLength_f25 dX5_wholeLength_14 rfl (by decide) 1 rfl rfl rfl ?_
        refine sx_iload_n (pc := 17) hG dX5_wholeLength_17 rfl 2 rfl ?_
        refine sx_iald (pc := 18) (v := nI ((av 11) k)) hG 11 dX5_wholeLength_18 rfl (by decide) (by omega) rfl ?_
        refine sx_iadd (pc := 19) (v := (nI (sx_sum (av 11) k + ((av 11) k)))) hG dX5_wholeLength_19 (nI_add (sx_sum (av 11) k) ((av 11) k)) ?_
        refine sx_istore_n (pc := 20) (lv2 := [(0, .ref (ad 1)), (1, .int (nI (sx_sum (av 11) k + ((av 11) k)))), (2, .int (nI k))]) hG [1, 0, 2] dX5_wholeLength_20 rfl hN (by decide) rfl ?_
        refine sx_iinc (pc := 21) (v := (nI (k + 1))) (lv2 := [(0, .ref (ad 1)), (1, .int (nI (sx_sum (av 11) k + ((av 11) k)))), (2, .int (nI (k + 1)))]) hG [1, 2, 0] dX5_wholeLength_21 2 rfl (sx_inc k) hN (by decide) rfl ?_
        refine sx_goto (pc := 24) (tgt := 4) hG dX5_wholeLength_24 (by decide) ?_
        refine ih_k (k + 1) (by omega) (by omega)
  refine sx_iconst (pc := 0) (v := nI 0) hG dX5_wholeLength_0 (by decide +kernel) ?_
  refine sx_istore_n (pc := 1) (lv2 := [(0, .ref (ad 1)), (1, .int (nI 0))]) hG [1, 0] dX5_wholeLength_1 rfl hN (by decide) rfl ?_
  refine sx_iconst (pc := 2) (v := nI 0) hG dX5_wholeLength_2 (by decide +kernel) ?_
  refine sx_istore_n (pc := 3) (lv2 := [(0, .ref (ad 1)), (1, .int (nI 0)), (2, .int (nI 0))]) hG [1, 2, 0] dX5_wholeLength_3 rfl hN (by decide) rfl ?_
  refine loop_k _ 0 (by omega) (Nat.lt_succ_self _)

theorem i_X3_ofBend_3 : ∀ w ∈ u_ws RX3 TX3 1, w ∈ wsX3_ofBend := by decide +kernel
theorem m_X3_ofBend_f18 : Cond.fieldLink RX3 18 (TX3 0).1 (TX3 0).2.1 (TX3 0).2.2.1 ∈ wsX3_ofBend := by decide +kernel
set_option maxHeartbeats 4000000 in
set_option maxRecDepth 100000 in
theorem c_X3_ofBend (l : Launch) (X : sx_X) (ad : Nat → Nat) (sc : Nat → Int32) (av : Nat → Nat → Nat) (k : Nat) (hk : k < 7) : sx_Mi l yX3_ofBend wsX3_ofBend { frames := 0, cells := 0, slots := 0, locals := 0 } X [.ref (ad 2), .int (nI k)] (sw X ad sc av) (fun r w => r = nI (av 12 k) ∧ w = sw X ad sc av) 0 0 := by
  refine sx_entI (own := RX3) (nL := 2) (by decide +kernel) rfl rfl (Nat.le_of_ble_eq_true rfl) ?_
  intro G hG hN hret
  show sx_W l X G 0 0 0 [(0, .ref (ad 2)), (1, .int (nI k))] [] (sw X ad sc av)
  refine sx_aload_n (pc := 0) hG dX3_ofBend_0 rfl 0 rfl ?_
  refine sx_get (pc := 1) (v2 := .ref (ad 12)) (ci := 3) hG i_X3_ofBend_3 0 m_X3_ofBend_f18 dX3_ofBend_1 rfl (by decide) 2 rfl rfl rfl ?_
  refine sx_iload_n (pc := 4) hG dX3_ofBend_4 rfl 1 rfl ?_
  refine sx_iald (pc := 5) (v := nI ((av 12) k)) hG 12 dX3_ofBend_5 rfl (by decide) (by omega) rfl ?_
  exact hret _ _ _ _ dX3_ofBend_6 rfl ⟨rfl, rfl⟩

theorem i_X3_ofJump_3 : ∀ w ∈ u_ws RX3 TX3 1, w ∈ wsX3_ofJump := by decide +kernel
theorem m_X3_ofJump_f18 : Cond.fieldLink RX3 18 (TX3 0).1 (TX3 0).2.1 (TX3 0).2.2.1 ∈ wsX3_ofJump := by decide +kernel
set_option maxHeartbeats 4000000 in
set_option maxRecDepth 100000 in
theorem c_X3_ofJump (l : Launch) (X : sx_X) (ad : Nat → Nat) (sc : Nat → Int32) (av : Nat → Nat → Nat)  : sx_Mi l yX3_ofJump wsX3_ofJump { frames := 0, cells := 0, slots := 0, locals := 0 } X [.ref (ad 2)] (sw X ad sc av) (fun r w => r = nI (av 12 5) ∧ w = sw X ad sc av) 0 0 := by
  refine sx_entI (own := RX3) (nL := 1) (by decide +kernel) rfl rfl (Nat.le_of_ble_eq_true rfl) ?_
  intro G hG hN hret
  show sx_W l X G 0 0 0 [(0, .ref (ad 2))] [] (sw X ad sc av)
  refine sx_aload_n (pc := 0) hG dX3_ofJump_0 rfl 0 rfl ?_
  refine sx_get (pc := 1) (v2 := .ref (ad 12)) (ci := 3) hG i_X3_ofJump_3 0 m_X3_ofJump_f18 dX3_ofJump_1 rfl (by decide) 2 rfl rfl rfl ?_
  refine sx_iconst (pc := 4) (v := nI 5) hG dX3_ofJump_4 (by decide +kernel) ?_
  refine sx_iald (pc := 5) (v := nI ((av 12) 5)) hG 12 dX3_ofJump_5 rfl (by decide) (by omega) rfl ?_
  exact hret _ _ _ _ dX3_ofJump_6 rfl ⟨rfl, rfl⟩

theorem m_X3_ofRun_l21 : Cond.methodLinkNest RX3 21 yX7_payOf "TubeShop" ∈ sx_nest := by decide +kernel
theorem m_X3_ofRun_s21 : Cond.static yX7_payOf ∈ wsX3_ofRun ∧ Cond.initialized yX7_payOf.cls ∈ wsX3_ofRun := by decide +kernel
theorem i_X3_ofRun_3 : ∀ w ∈ u_ws RX3 TX3 1, w ∈ wsX3_ofRun := by decide +kernel
theorem m_X3_ofRun_f18 : Cond.fieldLink RX3 18 (TX3 0).1 (TX3 0).2.1 (TX3 0).2.2.1 ∈ wsX3_ofRun := by decide +kernel
theorem m_X3_ofRun_l27 : Cond.methodLinkNest RX3 27 yX7_lengthOf "TubeShop" ∈ sx_nest := by decide +kernel
theorem m_X3_ofRun_s27 : Cond.static yX7_lengthOf ∈ wsX3_ofRun ∧ Cond.initialized yX7_lengthOf.cls ∈ wsX3_ofRun := by decide +kernel
set_option maxHeartbeats 4000000 in
set_option maxRecDepth 100000 in
theorem c_X3_ofRun (l : Launch) (X : sx_X) (ad : Nat → Nat) (sc : Nat → Int32) (av : Nat → Nat → Nat) (c : Nat) (hc : c < 2 ^ 31) (hg : sG av) : sx_Mi l yX3_ofRun wsX3_ofRun { frames := 1, cells := 0, slots := 0, locals := 20 } X [.ref (ad 2), .int (nI c)] (sw X ad sc av) (fun r w => r = nI (c / 4096 + av 12 6 * (c % 4096) / 10) ∧ w = sw X ad sc av) 0 0 := by
  refine sx_entI (own := RX3) (nL := 2) (by decide +kernel) rfl rfl (Nat.le_of_ble_eq_true rfl) ?_
  intro G hG hN hret
  show sx_W l X G 0 0 0 [(0, .ref (ad 2)), (1, .int (nI c))] [] (sw X ad sc av)
  have h6 := hg.2.2.2.2.1 6
  have hm : av 12 6 * (c % 4096) ≤ 99 * 4095 := Nat.mul_le_mul h6 (by omega)
  refine sx_iload_n (pc := 0) hG dX3_ofRun_0 rfl 1 rfl ?_
  refine sx_callSNiw (pc := 1) (n9 := 1) (As := [.int (nI c)]) (st := []) hG (c_X7_payOf l X (sw X ad sc av) c (by omega)) gX3_ofRun_X7_payOf_n21 rfl m_X3_ofRun_l21 m_X3_ofRun_s21 (by decide +kernel) rfl dX3_ofRun_1 ⟨rfl, rfl⟩ ⟨Nat.le_of_ble_eq_true rfl, Nat.le_of_ble_eq_true rfl⟩ (Nat.le_of_ble_eq_true rfl) ⟨Nat.le_of_ble_eq_true rfl, Nat.le_of_ble_eq_true rfl⟩ (fun r w1 hp => ?_)
  obtain ⟨hr9, hw9⟩ := hp
  have hr9 : r = (nI (c / 4096)) := hr9
  subst hr9
  refine sx_weq hw9 ?_
  refine sx_aload_n (pc := 4) hG dX3_ofRun_4 rfl 0 rfl ?_
  refine sx_get (pc := 5) (v2 := .ref (ad 12)) (ci := 3) hG i_X3_ofRun_3 0 m_X3_ofRun_f18 dX3_ofRun_5 rfl (by decide) 2 rfl rfl rfl ?_
  refine sx_bipush (pc := 8) (v := nI 6) hG dX3_ofRun_8 (by decide +kernel) ?_
  refine sx_iald (pc := 10) (v := nI ((av 12) 6)) hG 12 dX3_ofRun_10 rfl (by decide) (by omega) rfl ?_
  refine sx_iload_n (pc := 11) hG dX3_ofRun_11 rfl 1 rfl ?_
  refine sx_callSNiw (pc := 12) (n9 := 1) (As := [.int (nI c)]) (st := [.int (nI ((av 12) 6)), .int (nI (c / 4096))]) hG (c_X7_lengthOf l X (sw X ad sc av) c (by omega)) gX3_ofRun_X7_lengthOf_n27 rfl m_X3_ofRun_l27 m_X3_ofRun_s27 (by decide +kernel) rfl dX3_ofRun_12 ⟨rfl, rfl⟩ ⟨Nat.le_of_ble_eq_true rfl, Nat.le_of_ble_eq_true rfl⟩ (Nat.le_of_ble_eq_true rfl) ⟨Nat.le_of_ble_eq_true rfl, Nat.le_of_ble_eq_true rfl⟩ (fun r w1 hp => ?_)
  obtain ⟨hr9, hw9⟩ := hp
  have hr9 : r = (nI (c % 4096)) := hr9
  subst hr9
  refine sx_weq hw9 ?_
  refine sx_imul (pc := 15) (v := (nI (((av 12) 6) * (c % 4096)))) hG dX3_ofRun_15 (pk_mul ((av 12) 6) (c % 4096)) ?_
  refine sx_bipush (pc := 16) (v := nI 10) hG dX3_ofRun_16 (by decide +kernel) ?_
  refine sx_idiv (pc := 18) (v := (nI ((((av 12) 6) * (c % 4096)) / 10))) hG dX3_ofRun_18 (nI_ne0 (by decide) (by decide)) (pk_div (by omega) (by decide) (by decide)) ?_
  refine sx_iadd (pc := 19) (v := (nI (c / 4096 + ((((av 12) 6) * (c % 4096)) / 10)))) hG dX3_ofRun_19 (nI_add (c / 4096) ((((av 12) 6) * (c % 4096)) / 10)) ?_
  exact hret _ _ _ _ dX3_ofRun_20 rfl ⟨rfl, rfl⟩

theorem i_X3_put_3 : ∀ w ∈ u_ws RX3 TX3 1, w ∈ wsX3_put := by decide +kernel
theorem m_X3_put_f18 : Cond.fieldLink RX3 18 (TX3 0).1 (TX3 0).2.1 (TX3 0).2.2.1 ∈ wsX3_put := by decide +kernel
set_option maxHeartbeats 4000000 in
set_option maxRecDepth 100000 in
theorem c_X3_put_ok (l : Launch) (X : sx_X) (ad : Nat → Nat) (sc : Nat → Int32) (av : Nat → Nat → Nat) (a v : Nat) (ha : a ≤ 6) (hv : v ≤ 99) : sx_Mi l yX3_put wsX3_put { frames := 0, cells := 0, slots := 0, locals := 0 } X [.ref (ad 2), .int (nI a), .int (nI v)] (sw X ad sc av) (fun r w => r = nI 1 ∧ w = sw X ad sc (va_up av 12 (va_up (av 12) a v))) 0 0 := by
  refine sx_entI (own := RX3) (nL := 3) (by decide +kernel) rfl rfl (Nat.le_of_ble_eq_true rfl) ?_
  intro G hG hN hret
  show sx_W l X G 0 0 0 [(0, .ref (ad 2)), (1, .int (nI a)), (2, .int (nI v))] [] (sw X ad sc av)
  refine sx_iload_n (pc := 0) hG dX3_put_0 rfl 1 rfl ?_
  refine sx_if_lt (pc := 1) (tgt := 23) (B := False) hG dX3_put_1 (by decide) (sx_lt0 (by omega)) (fun c1 => ?_) (fun c1 => ?_)
  · skip
    exact absurd c1 (by decide)
  · skip
    refine sx_iload_n (pc := 4) hG dX3_put_4 rfl 1 rfl ?_
    refine sx_aload_n (pc := 5) hG dX3_put_5 rfl 0 rfl ?_
    refine sx_get (pc := 6) (v2 := .ref (ad 12)) (ci := 3) hG i_X3_put_3 0 m_X3_put_f18 dX3_put_6 rfl (by decide) 2 rfl rfl rfl ?_
    refine sx_alen (pc := 9) hG 12 dX3_put_9 rfl ?_
    refine sx_icmp_ge (pc := 10) (tgt := 23) (B := 7 ≤ a) hG dX3_put_10 (by decide) (nI_leI (by omega) (by omega)) (fun c10 => ?_) (fun c10 => ?_)
    · skip
      exact absurd c10 (by omega)
    · skip
      refine sx_iload_n (pc := 13) hG dX3_put_13 rfl 2 rfl ?_
      refine sx_if_lt (pc := 14) (tgt := 23) (B := False) hG dX3_put_14 (by decide) (sx_lt0 (by omega)) (fun c14 => ?_) (fun c14 => ?_)
      · skip
        exact absurd c14 (by decide)
      · skip
        refine sx_iload_n (pc := 17) hG dX3_put_17 rfl 2 rfl ?_
        refine sx_bipush (pc := 18) (v := nI 99) hG dX3_put_18 (by decide +kernel) ?_
        refine sx_icmp_le (pc := 20) (tgt := 25) (B := v ≤ 99) hG dX3_put_20 (by decide) (nI_leI (by omega) (by omega)) (fun c20 => ?_) (fun c20 => ?_)
        · skip
          refine sx_aload_n (pc := 25) hG dX3_put_25 rfl 0 rfl ?_
          refine sx_get (pc := 26) (v2 := .ref (ad 12)) (ci := 3) hG i_X3_put_3 0 m_X3_put_f18 dX3_put_26 rfl (by decide) 2 rfl rfl rfl ?_
          refine sx_iload_n (pc := 29) hG dX3_put_29 rfl 1 rfl ?_
          refine sx_iload_n (pc := 30) hG dX3_put_30 rfl 2 rfl ?_
          refine sx_iastN (pc := 31) (w2 := (sw X ad sc (va_up av 12 (va_up (av 12) a v)))) hG 12 dX3_put_31 rfl (by decide) (by omega) rfl ?_
          refine sx_iconst (pc := 32) (v := nI 1) hG dX3_put_32 (by decide +kernel) ?_
          exact hret _ _ _ _ dX3_put_33 (by decide +kernel) ⟨rfl, rfl⟩
        · skip
          exact absurd c20 (by omega)

set_option maxHeartbeats 4000000 in
set_option maxRecDepth 100000 in
theorem c_X3_put_no (l : Launch) (X : sx_X) (ad : Nat → Nat) (sc : Nat → Int32) (av : Nat → Nat → Nat) (a v : Int32) (hno : ¬ (0 ≤ a.toInt ∧ a.toInt ≤ 6 ∧ 0 ≤ v.toInt ∧ v.toInt ≤ 99)) : sx_Mi l yX3_put wsX3_put { frames := 0, cells := 0, slots := 0, locals := 0 } X [.ref (ad 2), .int a, .int v] (sw X ad sc av) (fun r w => r = nI 0 ∧ w = sw X ad sc av) 0 0 := by
  refine sx_entI (own := RX3) (nL := 3) (by decide +kernel) rfl rfl (Nat.le_of_ble_eq_true rfl) ?_
  intro G hG hN hret
  show sx_W l X G 0 0 0 [(0, .ref (ad 2)), (1, .int a), (2, .int v)] [] (sw X ad sc av)
  refine sx_iload_n (pc := 0) hG dX3_put_0 rfl 1 rfl ?_
  refine sx_if_lt (pc := 1) (tgt := 23) (B := a.toInt < 0) hG dX3_put_1 (by decide) (sx_rlt0 _) (fun c1 => ?_) (fun c1 => ?_)
  · skip
    refine sx_iconst (pc := 23) (v := nI 0) hG dX3_put_23 (by decide +kernel) ?_
    exact hret _ _ _ _ dX3_put_24 (by decide +kernel) ⟨rfl, rfl⟩
  · skip
    refine sx_iload_n (pc := 4) hG dX3_put_4 rfl 1 rfl ?_
    refine sx_aload_n (pc := 5) hG dX3_put_5 rfl 0 rfl ?_
    refine sx_get (pc := 6) (v2 := .ref (ad 12)) (ci := 3) hG i_X3_put_3 0 m_X3_put_f18 dX3_put_6 rfl (by decide) 2 rfl rfl rfl ?_
    refine sx_alen (pc := 9) hG 12 dX3_put_9 rfl ?_
    refine sx_icmp_ge (pc := 10) (tgt := 23) (B := (7 : Int) ≤ a.toInt) hG dX3_put_10 (by decide) (sx_rle (nI_toInt (by omega)) rfl) (fun c10 => ?_) (fun c10 => ?_)
    · skip
      refine sx_iconst (pc := 23) (v := nI 0) hG dX3_put_23 (by decide +kernel) ?_
      exact hret _ _ _ _ dX3_put_24 (by decide +kernel) ⟨rfl, rfl⟩
    · skip
      refine sx_iload_n (pc := 13) hG dX3_put_13 rfl 2 rfl ?_
      refine sx_if_lt (pc := 14) (tgt := 23) (B := v.toInt < 0) hG dX3_put_14 (by decide) (sx_rlt0 _) (fun c14 => ?_) (fun c14 => ?_)
      · skip
        refine sx_iconst (pc := 23) (v := nI 0) hG dX3_put_23 (by decide +kernel) ?_
        exact hret _ _ _ _ dX3_put_24 (by decide +kernel) ⟨rfl, rfl⟩
      · skip
        refine sx_iload_n (pc := 17) hG dX3_put_17 rfl 2 rfl ?_
        refine sx_bipush (pc := 18) (v := nI 99) hG dX3_put_18 (by decide +kernel) ?_
        refine sx_icmp_le (pc := 20) (tgt := 25) (B := v.toInt ≤ (99 : Int)) hG dX3_put_20 (by decide) (sx_rle rfl (nI_toInt (by omega))) (fun c20 => ?_) (fun c20 => ?_)
        · skip
          exact absurd ⟨by omega, by omega, by omega, by omega⟩ hno
        · skip
          refine sx_iconst (pc := 23) (v := nI 0) hG dX3_put_23 (by decide +kernel) ?_
          exact hret _ _ _ _ dX3_put_24 (by decide +kernel) ⟨rfl, rfl⟩

theorem i_X5_linkCost_5 : ∀ w ∈ u_ws RX5 TX5 5, w ∈ wsX5_linkCost := by decide +kernel
theorem m_X5_linkCost_f15 : Cond.fieldLink RX5 15 (TX5 1).1 (TX5 1).2.1 (TX5 1).2.2.1 ∈ wsX5_linkCost := by decide +kernel
theorem m_X5_linkCost_f19 : Cond.fieldLink RX5 19 (TX5 2).1 (TX5 2).2.1 (TX5 2).2.2.1 ∈ wsX5_linkCost := by decide +kernel
theorem m_X5_linkCost_l48 : Cond.methodLinkNest RX5 48 yX7_distance "TubeShop" ∈ sx_nest := by decide +kernel
theorem m_X5_linkCost_s48 : Cond.static yX7_distance ∈ wsX5_linkCost ∧ Cond.initialized yX7_distance.cls ∈ wsX5_linkCost := by decide +kernel
theorem m_X5_linkCost_f22 : Cond.fieldLink RX5 22 (TX5 3).1 (TX5 3).2.1 (TX5 3).2.2.1 ∈ wsX5_linkCost := by decide +kernel
theorem m_X5_linkCost_j52 : Cond.methodLink RX5 52 Lib.Math.abs.name ∈ wsX5_linkCost ∧ Cond.static Lib.Math.abs.name ∈ wsX5_linkCost ∧ Cond.initialized "java/lang/Math" ∈ wsX5_linkCost ∧ Cond.code Lib.Math.abs.name Lib.Math.abs.code 1 (some .int) ∈ wsX5_linkCost := by decide +kernel
theorem m_X5_linkCost_j66 : Cond.methodLink RX5 66 Lib.Math.min.name ∈ wsX5_linkCost ∧ Cond.static Lib.Math.min.name ∈ wsX5_linkCost ∧ Cond.initialized "java/lang/Math" ∈ wsX5_linkCost ∧ Cond.code Lib.Math.min.name Lib.Math.min.code 2 (some .int) ∈ wsX5_linkCost := by decide +kernel
set_option maxHeartbeats 4000000 in
set_option maxRecDepth 100000 in
theorem c_X5_linkCost (l : Launch) (X : sx_X) (ad : Nat → Nat) (sc : Nat → Int32) (av : Nat → Nat → Nat) (f t : Nat) (hf : f < 18) (ht : t < 18) (hg : sG av) : sx_Mi l yX5_linkCost wsX5_linkCost { frames := 2, cells := 0, slots := 0, locals := 45 } X [.ref (ad 1), .ref (ad 2), .int (nI f), .int (nI t)] (sw X ad sc av) (fun r w => r = nI (sLk av f t) ∧ w = sw X ad sc av) 0 0 := by
  refine sx_entI (own := RX5) (nL := 7) (by decide +kernel) rfl rfl (Nat.le_of_ble_eq_true rfl) ?_
  intro G hG hN hret
  show sx_W l X G 0 0 0 [(0, .ref (ad 1)), (1, .ref (ad 2)), (2, .int (nI f)), (3, .int (nI t))] [] (sw X ad sc av)
  have hx1 := sx_x1 f hf
  have g1 := hg.1 t
  have g2 := hg.1 (f ^^^ 1)
  have g3 := hg.2.1 t
  have g4 := hg.2.1 (f ^^^ 1)
  have g5 := hg.2.2.1 t
  have g6 := hg.2.2.1 f
  have g7 := hg.2.2.2.2.1 5
  have e0 : (nI (av 8 t) - nI (av 8 (f ^^^ 1))).toInt = (av 8 t : Int) - av 8 (f ^^^ 1) := pk_sub_toInt (by omega) (by omega)
  have e1 : (nI (av 9 t) - nI (av 9 (f ^^^ 1))).toInt = (av 9 t : Int) - av 9 (f ^^^ 1) := pk_sub_toInt (by omega) (by omega)
  have hf8 := sx_far_le (av 10 t) (av 10 f) 8 g5 g6
  have hmn : min (sx_far (av 10 t) (av 10 f)) (8 - sx_far (av 10 t) (av 10 f)) ≤ sx_far (av 10 t) (av 10 f) := Nat.min_le_left _ _
  refine sx_aload_n (pc := 0) hG dX5_linkCost_0 rfl 0 rfl ?_
  refine sx_get (pc := 1) (v2 := .ref (ad 8)) (ci := 5) hG i_X5_linkCost_5 1 m_X5_linkCost_f15 dX5_linkCost_1 rfl (by decide) 1 rfl rfl rfl ?_
  refine sx_iload_n (pc := 4) hG dX5_linkCost_4 rfl 3 rfl ?_
  refine sx_iald (pc := 5) (v := nI ((av 8) t)) hG 8 dX5_linkCost_5 rfl (by decide) (by omega) rfl ?_
  refine sx_aload_n (pc := 6) hG dX5_linkCost_6 rfl 0 rfl ?_
  refine sx_get (pc := 7) (v2 := .ref (ad 8)) (ci := 5) hG i_X5_linkCost_5 1 m_X5_linkCost_f15 dX5_linkCost_7 rfl (by decide) 1 rfl rfl rfl ?_
  refine sx_iload_n (pc := 10) hG dX5_linkCost_10 rfl 2 rfl ?_
  refine sx_iconst (pc := 11) (v := nI 1) hG dX5_linkCost_11 (by decide +kernel) ?_
  refine sx_ixor (pc := 12) (v := (nI (f ^^^ 1))) hG dX5_linkCost_12 (sx_xor (by omega) (by omega)) ?_
  refine sx_iald (pc := 13) (v := nI ((av 8) (f ^^^ 1))) hG 8 dX5_linkCost_13 rfl (by decide) (by omega) rfl ?_
  refine sx_isub (pc := 14) (v := (nI ((av 8) t) - nI ((av 8) (f ^^^ 1)))) hG dX5_linkCost_14 rfl ?_
  refine sx_istore (pc := 15) (lv2 := [(0, .ref (ad 1)), (1, .ref (ad 2)), (2, .int (nI f)), (3, .int (nI t)), (4, .int (nI ((av 8) t) - nI ((av 8) (f ^^^ 1))))]) hG [1, 2, 3, 4, 0] dX5_linkCost_15 hN (by decide) rfl ?_
  refine sx_aload_n (pc := 17) hG dX5_linkCost_17 rfl 0 rfl ?_
  refine sx_get (pc := 18) (v2 := .ref (ad 9)) (ci := 5) hG i_X5_linkCost_5 2 m_X5_linkCost_f19 dX5_linkCost_18 rfl (by decide) 1 rfl rfl rfl ?_
  refine sx_iload_n (pc := 21) hG dX5_linkCost_21 rfl 3 rfl ?_
  refine sx_iald (pc := 22) (v := nI ((av 9) t)) hG 9 dX5_linkCost_22 rfl (by decide) (by omega) rfl ?_
  refine sx_aload_n (pc := 23) hG dX5_linkCost_23 rfl 0 rfl ?_
  refine sx_get (pc := 24) (v2 := .ref (ad 9)) (ci := 5) hG i_X5_linkCost_5 2 m_X5_linkCost_f19 dX5_linkCost_24 rfl (by decide) 1 rfl rfl rfl ?_
  refine sx_iload_n (pc := 27) hG dX5_linkCost_27 rfl 2 rfl ?_
  refine sx_iconst (pc := 28) (v := nI 1) hG dX5_linkCost_28 (by decide +kernel) ?_
  refine sx_ixor (pc := 29) (v := (nI (f ^^^ 1))) hG dX5_linkCost_29 (sx_xor (by omega) (by omega)) ?_
  refine sx_iald (pc := 30) (v := nI ((av 9) (f ^^^ 1))) hG 9 dX5_linkCost_30 rfl (by decide) (by omega) rfl ?_
  refine sx_isub (pc := 31) (v := (nI ((av 9) t) - nI ((av 9) (f ^^^ 1)))) hG dX5_linkCost_31 rfl ?_
  refine sx_istore (pc := 32) (lv2 := [(0, .ref (ad 1)), (1, .ref (ad 2)), (2, .int (nI f)), (3, .int (nI t)), (4, .int (nI ((av 8) t) - nI ((av 8) (f ^^^ 1)))), (5, .int (nI ((av 9) t) - nI ((av 9) (f ^^^ 1))))]) hG [1, 2, 3, 4, 5, 0] dX5_linkCost_32 hN (by decide) rfl ?_
  refine sx_iload (pc := 34) hG dX5_linkCost_34 4 rfl ?_
  refine sx_if_ne (pc := 36) (tgt := 44) (B := (nI ((av 8) t) - nI ((av 8) (f ^^^ 1))).toInt = 0) hG dX5_linkCost_36 (by decide) (sx_req0 _) (fun c36 => ?_) (fun c36 => ?_)
  · skip
    refine sx_aload_n (pc := 44) hG dX5_linkCost_44 rfl 1 rfl ?_
    refine sx_callViw (pc := 45) (n9 := 0) (As := []) (st := []) (b := (ad 2)) (ci := 3) hG (c_X3_ofJump l X ad sc av) gX5_linkCost_X3_ofJump rfl (by decide +kernel) rfl 2 rfl rfl rfl dX5_linkCost_45 ⟨rfl, rfl⟩ ⟨Nat.le_of_ble_eq_true rfl, Nat.le_of_ble_eq_true rfl⟩ (Nat.le_of_ble_eq_true rfl) ⟨Nat.le_of_ble_eq_true rfl, Nat.le_of_ble_eq_true rfl⟩ (fun r w1 hp => ?_)
    obtain ⟨hr9, hw9⟩ := hp
    have hr9 : r = (nI (av 12 5)) := hr9
    subst hr9
    refine sx_weq hw9 ?_
    refine sx_sipush (pc := 48) (v := nI 4096) hG dX5_linkCost_48 (by decide +kernel) ?_
    refine sx_imul (pc := 51) (v := (nI ((av 12 5) * 4096))) hG dX5_linkCost_51 (pk_mul (av 12 5) 4096) ?_
    refine sx_iload (pc := 52) hG dX5_linkCost_52 4 rfl ?_
    refine sx_iload (pc := 54) hG dX5_linkCost_54 5 rfl ?_
    refine sx_callSNiw (pc := 56) (n9 := 2) (As := [.int (nI ((av 8) t) - nI ((av 8) (f ^^^ 1))), .int (nI ((av 9) t) - nI ((av 9) (f ^^^ 1)))]) (st := [.int (nI ((av 12 5) * 4096))]) hG (c_X7_distance l X (sw X ad sc av) (av 8 t) (av 8 (f ^^^ 1)) (av 9 t) (av 9 (f ^^^ 1)) (by omega) (by omega) (by omega) (by omega)) gX5_linkCost_X7_distance_n48 rfl m_X5_linkCost_l48 m_X5_linkCost_s48 (by decide +kernel) rfl dX5_linkCost_56 ⟨rfl, rfl⟩ ⟨Nat.le_of_ble_eq_true rfl, Nat.le_of_ble_eq_true rfl⟩ (Nat.le_of_ble_eq_true rfl) ⟨Nat.le_of_ble_eq_true rfl, Nat.le_of_ble_eq_true rfl⟩ (fun r w1 hp => ?_)
    obtain ⟨hr9, hw9⟩ := hp
    have hr9 : r = (nI (sx_piece (sx_far (av 8 t) (av 8 (f ^^^ 1))) (sx_far (av 9 t) (av 9 (f ^^^ 1))))) := hr9
    subst hr9
    refine sx_weq hw9 ?_
    refine sx_iadd (pc := 59) (v := (nI ((av 12 5) * 4096 + (sx_piece (sx_far (av 8 t) (av 8 (f ^^^ 1))) (sx_far (av 9 t) (av 9 (f ^^^ 1))))))) hG dX5_linkCost_59 (nI_add ((av 12 5) * 4096) (sx_piece (sx_far (av 8 t) (av 8 (f ^^^ 1))) (sx_far (av 9 t) (av 9 (f ^^^ 1))))) ?_
    exact hret _ _ _ _ dX5_linkCost_60 rfl ⟨congrArg nI (by unfold sLk; rw [if_neg (by unfold sJ sx_jmp; rw [if_neg (by omega)]; decide)]), rfl⟩
  · skip
    refine sx_iload (pc := 39) hG dX5_linkCost_39 5 rfl ?_
    refine sx_if_eq (pc := 41) (tgt := 61) (B := (nI ((av 9) t) - nI ((av 9) (f ^^^ 1))).toInt = 0) hG dX5_linkCost_41 (by decide) (sx_req0 _) (fun c41 => ?_) (fun c41 => ?_)
    · skip
      refine sx_aload_n (pc := 61) hG dX5_linkCost_61 rfl 0 rfl ?_
      refine sx_get (pc := 62) (v2 := .ref (ad 10)) (ci := 5) hG i_X5_linkCost_5 3 m_X5_linkCost_f22 dX5_linkCost_62 rfl (by decide) 1 rfl rfl rfl ?_
      refine sx_iload_n (pc := 65) hG dX5_linkCost_65 rfl 3 rfl ?_
      refine sx_iald (pc := 66) (v := nI ((av 10) t)) hG 10 dX5_linkCost_66 rfl (by decide) (by omega) rfl ?_
      refine sx_aload_n (pc := 67) hG dX5_linkCost_67 rfl 0 rfl ?_
      refine sx_get (pc := 68) (v2 := .ref (ad 10)) (ci := 5) hG i_X5_linkCost_5 3 m_X5_linkCost_f22 dX5_linkCost_68 rfl (by decide) 1 rfl rfl rfl ?_
      refine sx_iload_n (pc := 71) hG dX5_linkCost_71 rfl 2 rfl ?_
      refine sx_iald (pc := 72) (v := nI ((av 10) f)) hG 10 dX5_linkCost_72 rfl (by decide) (by omega) rfl ?_
      refine sx_isub (pc := 73) (v := (nI ((av 10) t) - nI ((av 10) f))) hG dX5_linkCost_73 rfl ?_
      refine sx_mabs (pc := 74) (v := (nI (sx_far (av 10 t) (av 10 f)))) hG m_X5_linkCost_j52 dX5_linkCost_74 (Nat.le_of_ble_eq_true rfl) (Nat.le_of_ble_eq_true rfl) (Nat.le_of_ble_eq_true rfl) (Nat.le_of_ble_eq_true rfl) (sx_abs (by omega) (by omega)) ?_
      refine sx_istore (pc := 77) (lv2 := [(0, .ref (ad 1)), (1, .ref (ad 2)), (2, .int (nI f)), (3, .int (nI t)), (4, .int (nI ((av 8) t) - nI ((av 8) (f ^^^ 1)))), (5, .int (nI ((av 9) t) - nI ((av 9) (f ^^^ 1)))), (6, .int (nI (sx_far (av 10 t) (av 10 f))))]) hG [1, 2, 3, 4, 5, 6, 0] dX5_linkCost_77 hN (by decide) rfl ?_
      refine sx_aload_n (pc := 79) hG dX5_linkCost_79 rfl 1 rfl ?_
      refine sx_iload (pc := 80) hG dX5_linkCost_80 6 rfl ?_
      refine sx_bipush (pc := 82) (v := nI 8) hG dX5_linkCost_82 (by decide +kernel) ?_
      refine sx_iload (pc := 84) hG dX5_linkCost_84 6 rfl ?_
      refine sx_isub (pc := 86) (v := (nI (8 - (sx_far (av 10 t) (av 10 f))))) hG dX5_linkCost_86 (pk_sub (by omega)) ?_
      refine sx_mmin (pc := 87) (v := (nI (min (sx_far (av 10 t) (av 10 f)) (8 - (sx_far (av 10 t) (av 10 f)))))) hG m_X5_linkCost_j66 dX5_linkCost_87 (Nat.le_of_ble_eq_true rfl) (Nat.le_of_ble_eq_true rfl) (Nat.le_of_ble_eq_true rfl) (Nat.le_of_ble_eq_true rfl) (sx_min (by omega) (by omega)) ?_
      refine sx_callViw (pc := 90) (n9 := 1) (As := [.int (nI (min (sx_far (av 10 t) (av 10 f)) (8 - (sx_far (av 10 t) (av 10 f)))))]) (st := []) (b := (ad 2)) (ci := 3) hG (c_X3_ofBend l X ad sc av (min (sx_far (av 10 t) (av 10 f)) (8 - sx_far (av 10 t) (av 10 f))) (by omega)) gX5_linkCost_X3_ofBend rfl (by decide +kernel) rfl 2 rfl rfl rfl dX5_linkCost_90 ⟨rfl, rfl⟩ ⟨Nat.le_of_ble_eq_true rfl, Nat.le_of_ble_eq_true rfl⟩ (Nat.le_of_ble_eq_true rfl) ⟨Nat.le_of_ble_eq_true rfl, Nat.le_of_ble_eq_true rfl⟩ (fun r w1 hp => ?_)
      obtain ⟨hr9, hw9⟩ := hp
      have hr9 : r = (nI (av 12 (min (sx_far (av 10 t) (av 10 f)) (8 - sx_far (av 10 t) (av 10 f))))) := hr9
      subst hr9
      refine sx_weq hw9 ?_
      refine sx_sipush (pc := 93) (v := nI 4096) hG dX5_linkCost_93 (by decide +kernel) ?_
      refine sx_imul (pc := 96) (v := (nI ((av 12 (min (sx_far (av 10 t) (av 10 f)) (8 - sx_far (av 10 t) (av 10 f)))) * 4096))) hG dX5_linkCost_96 (pk_mul (av 12 (min (sx_far (av 10 t) (av 10 f)) (8 - sx_far (av 10 t) (av 10 f)))) 4096) ?_
      exact hret _ _ _ _ dX5_linkCost_97 rfl ⟨congrArg nI (by unfold sLk; rw [if_pos (by unfold sJ sx_jmp; rw [if_pos (by omega)])]; rfl), rfl⟩
    · skip
      refine sx_aload_n (pc := 44) hG dX5_linkCost_44 rfl 1 rfl ?_
      refine sx_callViw (pc := 45) (n9 := 0) (As := []) (st := []) (b := (ad 2)) (ci := 3) hG (c_X3_ofJump l X ad sc av) gX5_linkCost_X3_ofJump rfl (by decide +kernel) rfl 2 rfl rfl rfl dX5_linkCost_45 ⟨rfl, rfl⟩ ⟨Nat.le_of_ble_eq_true rfl, Nat.le_of_ble_eq_true rfl⟩ (Nat.le_of_ble_eq_true rfl) ⟨Nat.le_of_ble_eq_true rfl, Nat.le_of_ble_eq_true rfl⟩ (fun r w1 hp => ?_)
      obtain ⟨hr9, hw9⟩ := hp
      have hr9 : r = (nI (av 12 5)) := hr9
      subst hr9
      refine sx_weq hw9 ?_
      refine sx_sipush (pc := 48) (v := nI 4096) hG dX5_linkCost_48 (by decide +kernel) ?_
      refine sx_imul (pc := 51) (v := (nI ((av 12 5) * 4096))) hG dX5_linkCost_51 (pk_mul (av 12 5) 4096) ?_
      refine sx_iload (pc := 52) hG dX5_linkCost_52 4 rfl ?_
      refine sx_iload (pc := 54) hG dX5_linkCost_54 5 rfl ?_
      refine sx_callSNiw (pc := 56) (n9 := 2) (As := [.int (nI ((av 8) t) - nI ((av 8) (f ^^^ 1))), .int (nI ((av 9) t) - nI ((av 9) (f ^^^ 1)))]) (st := [.int (nI ((av 12 5) * 4096))]) hG (c_X7_distance l X (sw X ad sc av) (av 8 t) (av 8 (f ^^^ 1)) (av 9 t) (av 9 (f ^^^ 1)) (by omega) (by omega) (by omega) (by omega)) gX5_linkCost_X7_distance_n48 rfl m_X5_linkCost_l48 m_X5_linkCost_s48 (by decide +kernel) rfl dX5_linkCost_56 ⟨rfl, rfl⟩ ⟨Nat.le_of_ble_eq_true rfl, Nat.le_of_ble_eq_true rfl⟩ (Nat.le_of_ble_eq_true rfl) ⟨Nat.le_of_ble_eq_true rfl, Nat.le_of_ble_eq_true rfl⟩ (fun r w1 hp => ?_)
      obtain ⟨hr9, hw9⟩ := hp
      have hr9 : r = (nI (sx_piece (sx_far (av 8 t) (av 8 (f ^^^ 1))) (sx_far (av 9 t) (av 9 (f ^^^ 1))))) := hr9
      subst hr9
      refine sx_weq hw9 ?_
      refine sx_iadd (pc := 59) (v := (nI ((av 12 5) * 4096 + (sx_piece (sx_far (av 8 t) (av 8 (f ^^^ 1))) (sx_far (av 9 t) (av 9 (f ^^^ 1))))))) hG dX5_linkCost_59 (nI_add ((av 12 5) * 4096) (sx_piece (sx_far (av 8 t) (av 8 (f ^^^ 1))) (sx_far (av 9 t) (av 9 (f ^^^ 1))))) ?_
      exact hret _ _ _ _ dX5_linkCost_60 rfl ⟨congrArg nI (by unfold sLk; rw [if_neg (by unfold sJ sx_jmp; rw [if_neg (by omega)]; decide)]), rfl⟩
