/-! THE CLASS: Parts, Splitter -/
theorem sx_xsub {s t : Nat} (h : sx_diff t s = 0) : s ^^^ t = sx_diff s t := by
  apply Nat.eq_of_testBit_eq
  intro i
  have h1 := sx_diff_bit t s i
  rw [h, Nat.zero_testBit] at h1
  rw [Nat.testBit_xor, sx_diff_bit]
  cases ht : t.testBit i <;> cases hs : s.testBit i <;> rw [ht, hs] at h1 <;> first | rfl | exact absurd h1 (by decide)
def cPr (av : Nat → Nat → Nat) (c : Nat) : Nat := c / 4096 + av 12 6 * (c % 4096) / 10
theorem cPr_le {av : Nat → Nat → Nat} (hg : sG av) {c : Nat} (hc : c ≤ 5000000) : cPr av c ≤ 42000 := by
  have h6 := hg.2.2.2.2.1 6
  have hm : av 12 6 * (c % 4096) ≤ 99 * 4095 := Nat.mul_le_mul h6 (by omega)
  unfold cPr; omega
def cSw (av : Nat → Nat → Nat) (B U : Nat → Nat) (lg s t : Nat) : Nat := if U (sx_diff s t) = sx_MX ∨ lg < B t % 4096 then sx_MX else 1048576 + cPr av (B t) + U (sx_diff s t)
def cOk (s t : Nat) : Nat := if sx_diff t s = 0 ∧ ¬ t &&& sx_low s = 0 then 1 else 0
def cUv (av : Nat → Nat → Nat) (B U : Nat → Nat) (lg s k : Nat) : Nat := sx_mn sx_MX (cOk s) (cSw av B U lg s) k
def sx_rs (s : Nat) : Nat := s ^^^ sx_low s
theorem sx_lo0 : ∀ s, s < 512 → ¬ s = 0 → ∀ i, i < 2 ^ sx_pc (sx_rs s) → sx_low s ||| sx_pd (sx_rs s) i = sx_low s + sx_pd (sx_rs s) i ∧ sx_diff (sx_low s + sx_pd (sx_rs s) i) s = 0 ∧ ¬ (sx_low s + sx_pd (sx_rs s) i) &&& sx_low s = 0 := by decide +kernel
theorem sx_lo1 {s t : Nat} (hs : s < 512) (h : ¬ cOk s t = 0) : sx_low s ≤ t ∧ sx_diff (t - sx_low s) (sx_rs s) = 0 := by
  have h2 : sx_diff t s = 0 ∧ ¬ t &&& sx_low s = 0 := by
    rcases Classical.em (sx_diff t s = 0 ∧ ¬ t &&& sx_low s = 0) with q | q
    · exact q
    · exact absurd (by unfold cOk; rw [if_neg q]) h
  have h0 : ¬ s = 0 := fun q => by
    subst q
    have := sx_sub_le h2.1
    exact h2.2 (by rw [show t = 0 by omega]; rfl)
  obtain ⟨-, -, i, hi, hli⟩ := sx_low1 s hs h0
  have hrs := sx_rest0 s hs
  -- t's bit i is there; without it, it's a subset of the rest
  have hti : t.testBit i = true := sx_and_test (by rw [← hli]; exact h2.2)
  have hge : 2 ^ i ≤ t := Nat.ge_two_pow_of_testBit hti
  have hsub : t - 2 ^ i = sx_diff t (2 ^ i) := by
    have e : t = sx_diff t (2 ^ i) + 2 ^ i := by
      have h9 : ∀ t, t < 512 → ∀ i, i < 9 → ¬ t &&& 2 ^ i = 0 → t = sx_diff t (2 ^ i) + 2 ^ i := by decide +kernel
      exact h9 t (by have := sx_sub_le h2.1; omega) i hi (by rw [← hli]; exact h2.2)
    omega
  rw [hli]
  refine ⟨hge, ?_⟩
  rw [hsub]
  unfold sx_rs
  rw [hrs.1, hli]
  apply Nat.eq_of_testBit_eq; intro j
  have h3 := sx_diff_bit t s j
  rw [h2.1, Nat.zero_testBit] at h3
  rw [sx_diff_bit, sx_diff_bit, sx_diff_bit, Nat.zero_testBit]
  cases ht : t.testBit j <;> cases hs2 : s.testBit j <;> cases (2 ^ i).testBit j <;> rw [ht, hs2] at h3 <;> first | rfl | exact absurd h3 (by decide)
theorem i_X2_drop_2 : ∀ w ∈ u_ws RX2 TX2 4, w ∈ wsX2_drop := by decide +kernel
theorem m_X2_drop_f9 : Cond.fieldLink RX2 9 (TX2 0).1 (TX2 0).2.1 (TX2 0).2.2.1 ∈ wsX2_drop := by decide +kernel
set_option maxHeartbeats 4000000 in
set_option maxRecDepth 100000 in
theorem c_X2_drop (l : Launch) (X : sx_X) (ad : Nat → Nat) (sc : Nat → Int32) (av : Nat → Nat → Nat)  : sx_Mv l yX2_drop wsX2_drop { frames := 0, cells := 0, slots := 0, locals := 0 } X [.ref (ad 5)] (sw X ad sc av) (fun w => w = sw X ad (va_up sc 5 (-1)) av) 0 0 := by
  refine sx_entV (own := RX2) (nL := 1) (by decide +kernel) rfl rfl (Nat.le_of_ble_eq_true rfl) ?_
  intro G hG hN hini hret
  show sx_W l X G 0 0 0 [(0, .ref (ad 5))] [] (sw X ad sc av)
  refine sx_aload_n (pc := 0) hG dX2_drop_0 rfl 0 rfl ?_
  refine sx_iconst (pc := 1) (v := (-1)) hG dX2_drop_1 (by decide +kernel) ?_
  refine sx_put (pc := 2) (v := .int (-1)) (ci := 2) (w2 := (sw X ad (va_up sc 5 (-1)) av)) hG i_X2_drop_2 tyX2 tyX2_ok nmX2 0 m_X2_drop_f9 dX2_drop_2 rfl (by decide) 5 rfl rfl rfl rfl (Nat.le_of_ble_eq_true rfl) rfl ?_
  exact hret _ _ _ dX2_drop_5 rfl

theorem i_X2_begin_2 : ∀ w ∈ u_ws RX2 TX2 4, w ∈ wsX2_begin := by decide +kernel
theorem m_X2_begin_f9 : Cond.fieldLink RX2 9 (TX2 0).1 (TX2 0).2.1 (TX2 0).2.2.1 ∈ wsX2_begin := by decide +kernel
set_option maxHeartbeats 4000000 in
set_option maxRecDepth 100000 in
theorem c_X2_begin (l : Launch) (X : sx_X) (ad : Nat → Nat) (sc : Nat → Int32) (av : Nat → Nat → Nat)  : sx_Mv l yX2_begin wsX2_begin { frames := 0, cells := 0, slots := 0, locals := 0 } X [.ref (ad 5)] (sw X ad sc av) (fun w => w = sw X ad (va_up sc 5 (nI 0)) av) 0 0 := by
  refine sx_entV (own := RX2) (nL := 1) (by decide +kernel) rfl rfl (Nat.le_of_ble_eq_true rfl) ?_
  intro G hG hN hini hret
  show sx_W l X G 0 0 0 [(0, .ref (ad 5))] [] (sw X ad sc av)
  refine sx_aload_n (pc := 0) hG dX2_begin_0 rfl 0 rfl ?_
  refine sx_iconst (pc := 1) (v := nI 0) hG dX2_begin_1 (by decide +kernel) ?_
  refine sx_put (pc := 2) (v := .int (nI 0)) (ci := 2) (w2 := (sw X ad (va_up sc 5 (nI 0)) av)) hG i_X2_begin_2 tyX2 tyX2_ok nmX2 0 m_X2_begin_f9 dX2_begin_2 rfl (by decide) 5 rfl rfl rfl rfl (Nat.le_of_ble_eq_true rfl) rfl ?_
  exact hret _ _ _ dX2_begin_5 rfl

theorem i_X2_add_2 : ∀ w ∈ u_ws RX2 TX2 4, w ∈ wsX2_add := by decide +kernel
theorem m_X2_add_f9 : Cond.fieldLink RX2 9 (TX2 0).1 (TX2 0).2.1 (TX2 0).2.2.1 ∈ wsX2_add := by decide +kernel
theorem m_X2_add_f15 : Cond.fieldLink RX2 15 (TX2 1).1 (TX2 1).2.1 (TX2 1).2.2.1 ∈ wsX2_add := by decide +kernel
theorem m_X2_add_f19 : Cond.fieldLink RX2 19 (TX2 2).1 (TX2 2).2.1 (TX2 2).2.2.1 ∈ wsX2_add := by decide +kernel
theorem m_X2_add_f22 : Cond.fieldLink RX2 22 (TX2 3).1 (TX2 3).2.1 (TX2 3).2.2.1 ∈ wsX2_add := by decide +kernel
set_option maxHeartbeats 4000000 in
set_option maxRecDepth 100000 in
theorem c_X2_add (l : Launch) (X : sx_X) (ad : Nat → Nat) (sc : Nat → Int32) (av : Nat → Nat → Nat) (a b c k : Nat) (hk : k < 9) (h5 : sc 5 = nI k) : sx_Mv l yX2_add wsX2_add { frames := 0, cells := 0, slots := 0, locals := 0 } X [.ref (ad 5), .int (nI a), .int (nI b), .int (nI c)] (sw X ad sc av) (fun w => w = sw X ad (va_up sc 5 (nI (k + 1))) (va_up (va_up (va_up av 19 (va_up (av 19) k a)) 20 (va_up (av 20) k b)) 21 (va_up (av 21) k c))) 0 0 := by
  refine sx_entV (own := RX2) (nL := 4) (by decide +kernel) rfl rfl (Nat.le_of_ble_eq_true rfl) ?_
  intro G hG hN hini hret
  show sx_W l X G 0 0 0 [(0, .ref (ad 5)), (1, .int (nI a)), (2, .int (nI b)), (3, .int (nI c))] [] (sw X ad sc av)
  refine sx_aload_n (pc := 0) hG dX2_add_0 rfl 0 rfl ?_
  refine sx_get (pc := 1) (v2 := .int (nI k)) (ci := 2) hG i_X2_add_2 0 m_X2_add_f9 dX2_add_1 rfl (by decide) 5 rfl rfl (congrArg Value.int h5) ?_
  refine sx_if_lt (pc := 4) (tgt := 56) (B := False) hG dX2_add_4 (by decide) (sx_lt0 (by omega)) (fun c4 => ?_) (fun c4 => ?_)
  · skip
    exact absurd c4 (by decide)
  · skip
    refine sx_aload_n (pc := 7) hG dX2_add_7 rfl 0 rfl ?_
    refine sx_get (pc := 8) (v2 := .int (nI k)) (ci := 2) hG i_X2_add_2 0 m_X2_add_f9 dX2_add_8 rfl (by decide) 5 rfl rfl (congrArg Value.int h5) ?_
    refine sx_bipush (pc := 11) (v := nI 9) hG dX2_add_11 (by decide +kernel) ?_
    refine sx_icmp_ge (pc := 13) (tgt := 56) (B := 9 ≤ k) hG dX2_add_13 (by decide) (nI_leI (by omega) (by omega)) (fun c13 => ?_) (fun c13 => ?_)
    · skip
      exact absurd c13 (by omega)
    · skip
      refine sx_aload_n (pc := 16) hG dX2_add_16 rfl 0 rfl ?_
      refine sx_get (pc := 17) (v2 := .ref (ad 19)) (ci := 2) hG i_X2_add_2 1 m_X2_add_f15 dX2_add_17 rfl (by decide) 5 rfl rfl rfl ?_
      refine sx_aload_n (pc := 20) hG dX2_add_20 rfl 0 rfl ?_
      refine sx_get (pc := 21) (v2 := .int (nI k)) (ci := 2) hG i_X2_add_2 0 m_X2_add_f9 dX2_add_21 rfl (by decide) 5 rfl rfl (congrArg Value.int h5) ?_
      refine sx_iload_n (pc := 24) hG dX2_add_24 rfl 1 rfl ?_
      refine sx_iastN (pc := 25) (w2 := (sw X ad sc (va_up av 19 (va_up (av 19) k a)))) hG 19 dX2_add_25 rfl (by decide) (by omega) rfl ?_
      refine sx_aload_n (pc := 26) hG dX2_add_26 rfl 0 rfl ?_
      refine sx_get (pc := 27) (v2 := .ref (ad 20)) (ci := 2) hG i_X2_add_2 2 m_X2_add_f19 dX2_add_27 rfl (by decide) 5 rfl rfl rfl ?_
      refine sx_aload_n (pc := 30) hG dX2_add_30 rfl 0 rfl ?_
      refine sx_get (pc := 31) (v2 := .int (nI k)) (ci := 2) hG i_X2_add_2 0 m_X2_add_f9 dX2_add_31 rfl (by decide) 5 rfl rfl (congrArg Value.int h5) ?_
      refine sx_iload_n (pc := 34) hG dX2_add_34 rfl 2 rfl ?_
      refine sx_iastN (pc := 35) (w2 := (sw X ad sc (va_up (va_up av 19 (va_up (av 19) k a)) 20 (va_up (av 20) k b)))) hG 20 dX2_add_35 rfl (by decide) (by omega) rfl ?_
      refine sx_aload_n (pc := 36) hG dX2_add_36 rfl 0 rfl ?_
      refine sx_get (pc := 37) (v2 := .ref (ad 21)) (ci := 2) hG i_X2_add_2 3 m_X2_add_f22 dX2_add_37 rfl (by decide) 5 rfl rfl rfl ?_
      refine sx_aload_n (pc := 40) hG dX2_add_40 rfl 0 rfl ?_
      refine sx_get (pc := 41) (v2 := .int (nI k)) (ci := 2) hG i_X2_add_2 0 m_X2_add_f9 dX2_add_41 rfl (by decide) 5 rfl rfl (congrArg Value.int h5) ?_
      refine sx_iload_n (pc := 44) hG dX2_add_44 rfl 3 rfl ?_
      refine sx_iastN (pc := 45) (w2 := (sw X ad sc (va_up (va_up (va_up av 19 (va_up (av 19) k a)) 20 (va_up (av 20) k b)) 21 (va_up (av 21) k c)))) hG 21 dX2_add_45 rfl (by decide) (by omega) rfl ?_
      refine sx_aload_n (pc := 46) hG dX2_add_46 rfl 0 rfl ?_
      refine sx_dup (pc := 47) hG dX2_add_47 rfl ?_
      refine sx_get (pc := 48) (v2 := .int (nI k)) (ci := 2) hG i_X2_add_2 0 m_X2_add_f9 dX2_add_48 rfl (by decide) 5 rfl rfl (congrArg Value.int h5) ?_
      refine sx_iconst (pc := 51) (v := nI 1) hG dX2_add_51 (by decide +kernel) ?_
      refine sx_iadd (pc := 52) (v := (nI (k + 1))) hG dX2_add_52 (nI_add k 1) ?_
      refine sx_put (pc := 53) (v := .int (nI (k + 1))) (ci := 2) (w2 := (sw X ad (va_up sc 5 (nI (k + 1))) (va_up (va_up (va_up av 19 (va_up (av 19) k a)) 20 (va_up (av 20) k b)) 21 (va_up (av 21) k c)))) hG i_X2_add_2 tyX2 tyX2_ok nmX2 0 m_X2_add_f9 dX2_add_53 rfl (by decide) 5 rfl rfl rfl rfl (Nat.le_of_ble_eq_true rfl) rfl ?_
      exact hret _ _ _ dX2_add_56 rfl

theorem i_X2_areThere_2 : ∀ w ∈ u_ws RX2 TX2 4, w ∈ wsX2_areThere := by decide +kernel
theorem m_X2_areThere_f9 : Cond.fieldLink RX2 9 (TX2 0).1 (TX2 0).2.1 (TX2 0).2.2.1 ∈ wsX2_areThere := by decide +kernel
set_option maxHeartbeats 4000000 in
set_option maxRecDepth 100000 in
theorem c_X2_areThere_n (l : Launch) (X : sx_X) (ad : Nat → Nat) (sc : Nat → Int32) (av : Nat → Nat → Nat) (h5 : sc 5 = -1) : sx_Mi l yX2_areThere wsX2_areThere { frames := 0, cells := 0, slots := 0, locals := 0 } X [.ref (ad 5)] (sw X ad sc av) (fun r w => r = nI 0 ∧ w = sw X ad sc av) 0 0 := by
  refine sx_entI (own := RX2) (nL := 1) (by decide +kernel) rfl rfl (Nat.le_of_ble_eq_true rfl) ?_
  intro G hG hN hret
  show sx_W l X G 0 0 0 [(0, .ref (ad 5))] [] (sw X ad sc av)
  refine sx_aload_n (pc := 0) hG dX2_areThere_0 rfl 0 rfl ?_
  refine sx_get (pc := 1) (v2 := .int (-1)) (ci := 2) hG i_X2_areThere_2 0 m_X2_areThere_f9 dX2_areThere_1 rfl (by decide) 5 rfl rfl (congrArg Value.int h5) ?_
  refine sx_iconst (pc := 4) (v := (-1)) hG dX2_areThere_4 (by decide +kernel) ?_
  refine sx_icmp_eq (pc := 5) (tgt := 12) (B := True) hG dX2_areThere_5 (by decide) (iff_of_true rfl trivial) (fun c5 => ?_) (fun c5 => ?_)
  · skip
    refine sx_iconst (pc := 12) (v := nI 0) hG dX2_areThere_12 (by decide +kernel) ?_
    exact hret _ _ _ _ dX2_areThere_13 (by decide +kernel) ⟨rfl, rfl⟩
  · skip
    exact absurd (by decide) c5

set_option maxHeartbeats 4000000 in
set_option maxRecDepth 100000 in
theorem c_X2_areThere_y (l : Launch) (X : sx_X) (ad : Nat → Nat) (sc : Nat → Int32) (av : Nat → Nat → Nat) (k : Nat) (hk : k ≤ 9) (h5 : sc 5 = nI k) : sx_Mi l yX2_areThere wsX2_areThere { frames := 0, cells := 0, slots := 0, locals := 0 } X [.ref (ad 5)] (sw X ad sc av) (fun r w => r = nI 1 ∧ w = sw X ad sc av) 0 0 := by
  refine sx_entI (own := RX2) (nL := 1) (by decide +kernel) rfl rfl (Nat.le_of_ble_eq_true rfl) ?_
  intro G hG hN hret
  show sx_W l X G 0 0 0 [(0, .ref (ad 5))] [] (sw X ad sc av)
  refine sx_aload_n (pc := 0) hG dX2_areThere_0 rfl 0 rfl ?_
  refine sx_get (pc := 1) (v2 := .int (nI k)) (ci := 2) hG i_X2_areThere_2 0 m_X2_areThere_f9 dX2_areThere_1 rfl (by decide) 5 rfl rfl (congrArg Value.int h5) ?_
  refine sx_iconst (pc := 4) (v := (-1)) hG dX2_areThere_4 (by decide +kernel) ?_
  refine sx_icmp_eq (pc := 5) (tgt := 12) (B := False) hG dX2_areThere_5 (by decide) (sx_eqm1 (by omega)) (fun c5 => ?_) (fun c5 => ?_)
  · skip
    exact absurd c5 (by decide)
  · skip
    refine sx_iconst (pc := 8) (v := nI 1) hG dX2_areThere_8 (by decide +kernel) ?_
    refine sx_goto (pc := 9) (tgt := 13) hG dX2_areThere_9 (by decide) ?_
    exact hret _ _ _ _ dX2_areThere_13 (by decide +kernel) ⟨rfl, rfl⟩

set_option maxHeartbeats 4000000 in
set_option maxRecDepth 100000 in
theorem c_X2_wholePrice_n (l : Launch) (X : sx_X) (ad : Nat → Nat) (sc : Nat → Int32) (av : Nat → Nat → Nat) (h5 : sc 5 = -1) : sx_Mi l yX2_wholePrice wsX2_wholePrice { frames := 1, cells := 0, slots := 0, locals := 20 } X [.ref (ad 5)] (sw X ad sc av) (fun r w => r = -1 ∧ w = sw X ad sc av) 0 0 := by
  refine sx_entI (own := RX2) (nL := 3) (by decide +kernel) rfl rfl (Nat.le_of_ble_eq_true rfl) ?_
  intro G hG hN hret
  show sx_W l X G 0 0 0 [(0, .ref (ad 5))] [] (sw X ad sc av)
  refine sx_aload_n (pc := 0) hG dX2_wholePrice_0 rfl 0 rfl ?_
  refine sx_callViw (pc := 1) (n9 := 0) (As := []) (st := []) (b := (ad 5)) (ci := 2) hG (c_X2_areThere_n l X ad sc av h5) gX2_wholePrice_X2_areThere rfl (by decide +kernel) rfl 5 rfl rfl rfl dX2_wholePrice_1 ⟨rfl, rfl⟩ ⟨Nat.le_of_ble_eq_true rfl, Nat.le_of_ble_eq_true rfl⟩ (Nat.le_of_ble_eq_true rfl) ⟨Nat.le_of_ble_eq_true rfl, Nat.le_of_ble_eq_true rfl⟩ (fun r w1 hp => ?_)
  obtain ⟨hr9, hw9⟩ := hp
  have hr9 : r = (nI 0) := hr9
  subst hr9
  refine sx_weq hw9 ?_
  refine sx_if_ne (pc := 4) (tgt := 9) (B := 0 = 0) hG dX2_wholePrice_4 (by decide) (sx_eq0 (by omega)) (fun c4 => ?_) (fun c4 => ?_)
  · skip
    exact absurd (by decide) c4
  · skip
    refine sx_iconst (pc := 7) (v := (-1)) hG dX2_wholePrice_7 (by decide +kernel) ?_
    exact hret _ _ _ _ dX2_wholePrice_8 rfl ⟨rfl, rfl⟩

theorem i_X2_wholePrice_2 : ∀ w ∈ u_ws RX2 TX2 4, w ∈ wsX2_wholePrice := by decide +kernel
theorem m_X2_wholePrice_f9 : Cond.fieldLink RX2 9 (TX2 0).1 (TX2 0).2.1 (TX2 0).2.2.1 ∈ wsX2_wholePrice := by decide +kernel
theorem m_X2_wholePrice_f22 : Cond.fieldLink RX2 22 (TX2 3).1 (TX2 3).2.1 (TX2 3).2.2.1 ∈ wsX2_wholePrice := by decide +kernel
set_option maxHeartbeats 4000000 in
set_option maxRecDepth 100000 in
theorem c_X2_wholePrice_y (l : Launch) (X : sx_X) (ad : Nat → Nat) (sc : Nat → Int32) (av : Nat → Nat → Nat) (k : Nat) (hk : k ≤ 9) (h5 : sc 5 = nI k) (hq : ∀ j, av 21 j ≤ 1100000) : sx_Mi l yX2_wholePrice wsX2_wholePrice { frames := 1, cells := 0, slots := 0, locals := 20 } X [.ref (ad 5)] (sw X ad sc av) (fun r w => r = nI (sx_sum (av 21) k) ∧ w = sw X ad sc av) 0 0 := by
  refine sx_entI (own := RX2) (nL := 3) (by decide +kernel) rfl rfl (Nat.le_of_ble_eq_true rfl) ?_
  intro G hG hN hret
  show sx_W l X G 0 0 0 [(0, .ref (ad 5))] [] (sw X ad sc av)
  have loop_j : ∀ (fuel : Nat), ∀ (j : Nat), (j ≤ k) → k - j < fuel → sx_W l X G 0 0 13 [(0, .ref (ad 5)), (1, .int (nI (sx_sum (av 21) j))), (2, .int (nI j))] [] (sw X ad sc av) := by
    intro fuel
    induction fuel with
    | zero => intro j hj hm; exact absurd hm (Nat.not_lt_zero _)
    | succ fuel ih_j =>
      intro j hj hm_j
      have hs1 := sx_sum_le hq j
      have hs2 := hq j
      refine sx_iload_n (pc := 13) hG dX2_wholePrice_13 rfl 2 rfl ?_
      refine sx_aload_n (pc := 14) hG dX2_wholePrice_14 rfl 0 rfl ?_
      refine sx_get (pc := 15) (v2 := .int (nI k)) (ci := 2) hG i_X2_wholePrice_2 0 m_X2_wholePrice_f9 dX2_wholePrice_15 rfl (by decide) 5 rfl rfl (congrArg Value.int h5) ?_
      refine sx_icmp_ge (pc := 18) (tgt := 36) (B := k ≤ j) hG dX2_wholePrice_18 (by decide) (nI_leI (by omega) (by omega)) (fun c18 => ?_) (fun c18 => ?_)
      · skip
        have hjk : j = k := by omega
        subst hjk
        refine sx_iload_n (pc := 36) hG dX2_wholePrice_36 rfl 1 rfl ?_
        exact hret _ _ _ _ dX2_wholePrice_37 rfl ⟨rfl, rfl⟩
      · skip
        refine sx_iload_n (pc := 21) hG dX2_wholePrice_21 rfl 1 rfl ?_
        refine sx_aload_n (pc := 22) hG dX2_wholePrice_22 rfl 0 rfl ?_
        refine sx_get (pc := 23) (v2 := .ref (ad 21)) (ci := 2) hG i_X2_wholePrice_2 3 m_X2_wholePrice_f22 dX2_wholePrice_23 rfl (by decide) 5 rfl rfl rfl ?_
        refine sx_iload_n (pc := 26) hG dX2_wholePrice_26 rfl 2 rfl ?_
        refine sx_iald (pc := 27) (v := nI ((av 21) j)) hG 21 dX2_wholePrice_27 rfl (by decide) (by omega) rfl ?_
        refine sx_iadd (pc := 28) (v := (nI (sx_sum (av 21) j + ((av 21) j)))) hG dX2_wholePrice_28 (nI_add (sx_sum (av 21) j) ((av 21) j)) ?_
        refine sx_istore_n (pc := 29) (lv2 := [(0, .ref (ad 5)), (1, .int (nI (sx_sum (av 21) j + ((av 21) j)))), (2, .int (nI j))]) hG [1, 0, 2] dX2_wholePrice_29 rfl hN (by decide) rfl ?_
        refine sx_iinc (pc := 30) (v := (nI (j + 1))) (lv2 := [(0, .ref (ad 5)), (1, .int (nI (sx_sum (av 21) j + ((av 21) j)))), (2, .int (nI (j + 1)))]) hG [1, 2, 0] dX2_wholePrice_30 2 rfl (sx_inc j) hN (by decide) rfl ?_
        refine sx_goto (pc := 33) (tgt := 13) hG dX2_wholePrice_33 (by decide) ?_
        refine ih_j (j + 1) (by omega) (by omega)
  refine sx_aload_n (pc := 0) hG dX2_wholePrice_0 rfl 0 rfl ?_
  refine sx_callViw (pc := 1) (n9 := 0) (As := []) (st := []) (b := (ad 5)) (ci := 2) hG (c_X2_areThere_y l X ad sc av k hk h5) gX2_wholePrice_X2_areThere rfl (by decide +kernel) rfl 5 rfl rfl rfl dX2_wholePrice_1 ⟨rfl, rfl⟩ ⟨Nat.le_of_ble_eq_true rfl, Nat.le_of_ble_eq_true rfl⟩ (Nat.le_of_ble_eq_true rfl) ⟨Nat.le_of_ble_eq_true rfl, Nat.le_of_ble_eq_true rfl⟩ (fun r w1 hp => ?_)
  obtain ⟨hr9, hw9⟩ := hp
  have hr9 : r = (nI 1) := hr9
  subst hr9
  refine sx_weq hw9 ?_
  refine sx_if_ne (pc := 4) (tgt := 9) (B := 1 = 0) hG dX2_wholePrice_4 (by decide) (sx_eq0 (by omega)) (fun c4 => ?_) (fun c4 => ?_)
  · skip
    refine sx_iconst (pc := 9) (v := nI 0) hG dX2_wholePrice_9 (by decide +kernel) ?_
    refine sx_istore_n (pc := 10) (lv2 := [(0, .ref (ad 5)), (1, .int (nI 0))]) hG [1, 0] dX2_wholePrice_10 rfl hN (by decide) rfl ?_
    refine sx_iconst (pc := 11) (v := nI 0) hG dX2_wholePrice_11 (by decide +kernel) ?_
    refine sx_istore_n (pc := 12) (lv2 := [(0, .ref (ad 5)), (1, .int (nI 0)), (2, .int (nI 0))]) hG [1, 2, 0] dX2_wholePrice_12 rfl hN (by decide) rfl ?_
    refine loop_j _ 0 (by omega) (Nat.lt_succ_self _)
  · skip
    exact absurd c4 (by decide)

set_option maxHeartbeats 4000000 in
set_option maxRecDepth 100000 in
theorem c_X6_nextWithin (l : Launch) (X : sx_X) (ws : va_W) (o r : Nat) (ho : o < 512) (hr : r < 512) : sx_Mi l yX6_nextWithin wsX6_nextWithin { frames := 0, cells := 0, slots := 0, locals := 0 } X [.int (nI o), .int (nI r)] ws (fun r9 w => r9 = nI (((o + 512 - r) % 512) &&& r) ∧ w = ws) 0 0 := by
  refine sx_entI (own := RX6) (nL := 2) (by decide +kernel) rfl rfl (Nat.le_of_ble_eq_true rfl) ?_
  intro G hG hN hret
  show sx_W l X G 0 0 0 [(0, .int (nI o)), (1, .int (nI r))] [] ws
  refine sx_iload_n (pc := 0) hG dX6_nextWithin_0 rfl 0 rfl ?_
  refine sx_iload_n (pc := 1) hG dX6_nextWithin_1 rfl 1 rfl ?_
  refine sx_isub (pc := 2) (v := (nI o - nI r)) hG dX6_nextWithin_2 rfl ?_
  refine sx_iload_n (pc := 3) hG dX6_nextWithin_3 rfl 1 rfl ?_
  refine sx_iand (pc := 4) (v := ((nI o - nI r) &&& (nI r))) hG dX6_nextWithin_4 rfl ?_
  exact hret _ _ _ _ dX6_nextWithin_5 rfl ⟨sx_nw ho hr, rfl⟩

theorem i_X6_sumWith_6 : ∀ w ∈ u_ws RX6 TX6 2, w ∈ wsX6_sumWith := by decide +kernel
theorem m_X6_sumWith_f11 : Cond.fieldLink RX6 11 (TX6 0).1 (TX6 0).2.1 (TX6 0).2.2.1 ∈ wsX6_sumWith := by decide +kernel
theorem m_X6_sumWith_c25 : Cond.constant RX6 25 (2147483647) ∈ wsX6_sumWith := by decide +kernel
theorem m_X6_sumWith_l48 : Cond.methodLinkNest RX6 48 yX7_lengthOf "TubeShop" ∈ sx_nest := by decide +kernel
theorem m_X6_sumWith_s48 : Cond.static yX7_lengthOf ∈ wsX6_sumWith ∧ Cond.initialized yX7_lengthOf.cls ∈ wsX6_sumWith := by decide +kernel
theorem m_X6_sumWith_f17 : Cond.fieldLink RX6 17 (TX6 1).1 (TX6 1).2.1 (TX6 1).2.2.1 ∈ wsX6_sumWith := by decide +kernel
theorem m_X6_sumWith_c51 : Cond.constant RX6 51 (1048576) ∈ wsX6_sumWith := by decide +kernel
set_option maxHeartbeats 4000000 in
set_option maxRecDepth 100000 in
theorem c_X6_sumWith (l : Launch) (X : sx_X) (ad : Nat → Nat) (sc : Nat → Int32) (av : Nat → Nat → Nat) (lg : Nat) (hlg : lg ≤ 9999) (h4 : sc 4 = nI lg) (hg : sG av) (s t : Nat) (hs : s < 512) (ht : sx_diff t s = 0) (hB : av 16 t ≤ 5000000) (hU : av 18 (sx_diff s t) = 2147483647 ∨ av 18 (sx_diff s t) ≤ 10000000) : sx_Mi l yX6_sumWith wsX6_sumWith { frames := 2, cells := 0, slots := 0, locals := 41 } X [.ref (ad 4), .ref (ad 3), .ref (ad 2), .int (nI s), .int (nI t)] (sw X ad sc av) (fun r w => r = nI (cSw av (av 16) (av 18) lg s t) ∧ w = sw X ad sc av) 0 0 := by
  refine sx_entI (own := RX6) (nL := 7) (by decide +kernel) rfl rfl (Nat.le_of_ble_eq_true rfl) ?_
  intro G hG hN hret
  show sx_W l X G 0 0 0 [(0, .ref (ad 4)), (1, .ref (ad 3)), (2, .ref (ad 2)), (3, .int (nI s)), (4, .int (nI t))] [] (sw X ad sc av)
  have htl := sx_sub_le ht
  have hd := sx_diff_le s t
  have hpr := cPr_le hg hB
  have hprd : cPr av (av 16 t) = av 16 t / 4096 + av 12 6 * (av 16 t % 4096) / 10 := rfl
  refine sx_aload_n (pc := 0) hG dX6_sumWith_0 rfl 1 rfl ?_
  refine sx_iload (pc := 1) hG dX6_sumWith_1 4 rfl ?_
  refine sx_callViw (pc := 3) (n9 := 1) (As := [.int (nI t)]) (st := []) (b := (ad 3)) (ci := 4) hG (c_X4_costOf l X ad sc av t (by omega)) gX6_sumWith_X4_costOf rfl (by decide +kernel) rfl 3 rfl rfl rfl dX6_sumWith_3 ⟨rfl, rfl⟩ ⟨Nat.le_of_ble_eq_true rfl, Nat.le_of_ble_eq_true rfl⟩ (Nat.le_of_ble_eq_true rfl) ⟨Nat.le_of_ble_eq_true rfl, Nat.le_of_ble_eq_true rfl⟩ (fun r w1 hp => ?_)
  obtain ⟨hr9, hw9⟩ := hp
  have hr9 : r = (nI (av 16 t)) := hr9
  subst hr9
  refine sx_weq hw9 ?_
  refine sx_istore (pc := 6) (lv2 := [(0, .ref (ad 4)), (1, .ref (ad 3)), (2, .ref (ad 2)), (3, .int (nI s)), (4, .int (nI t)), (5, .int (nI (av 16 t)))]) hG [1, 2, 3, 4, 5, 0] dX6_sumWith_6 hN (by decide) rfl ?_
  refine sx_aload_n (pc := 8) hG dX6_sumWith_8 rfl 0 rfl ?_
  refine sx_get (pc := 9) (v2 := .ref (ad 18)) (ci := 6) hG i_X6_sumWith_6 0 m_X6_sumWith_f11 dX6_sumWith_9 rfl (by decide) 4 rfl rfl rfl ?_
  refine sx_iload_n (pc := 12) hG dX6_sumWith_12 rfl 3 rfl ?_
  refine sx_iload (pc := 13) hG dX6_sumWith_13 4 rfl ?_
  refine sx_ixor (pc := 15) (v := (nI (sx_diff s t))) hG dX6_sumWith_15 (by rw [sx_xor (by omega) (by omega), sx_xsub ht]) ?_
  refine sx_iald (pc := 16) (v := nI ((av 18) (sx_diff s t))) hG 18 dX6_sumWith_16 rfl (by decide) (by omega) rfl ?_
  refine sx_istore (pc := 17) (lv2 := [(0, .ref (ad 4)), (1, .ref (ad 3)), (2, .ref (ad 2)), (3, .int (nI s)), (4, .int (nI t)), (5, .int (nI (av 16 t))), (6, .int (nI ((av 18) (sx_diff s t))))]) hG [1, 2, 3, 4, 5, 6, 0] dX6_sumWith_17 hN (by decide) rfl ?_
  refine sx_iload (pc := 19) hG dX6_sumWith_19 6 rfl ?_
  refine sx_ldc (pc := 21) (v2 := nI 2147483647) hG m_X6_sumWith_c25 dX6_sumWith_21 (by decide +kernel) ?_
  refine sx_icmp_eq (pc := 23) (tgt := 38) (B := ((av 18) (sx_diff s t)) = 2147483647) hG dX6_sumWith_23 (by decide) (nI_eq (by omega) (by omega)) (fun c23 => ?_) (fun c23 => ?_)
  · skip
    refine sx_ldc (pc := 38) (v2 := nI 2147483647) hG m_X6_sumWith_c25 dX6_sumWith_38 (by decide +kernel) ?_
    exact hret _ _ _ _ dX6_sumWith_40 rfl ⟨congrArg nI (by unfold cSw sx_MX; rw [if_pos (by omega)]), rfl⟩
  · skip
    refine sx_iload (pc := 26) hG dX6_sumWith_26 5 rfl ?_
    refine sx_callSNiw (pc := 28) (n9 := 1) (As := [.int (nI (av 16 t))]) (st := []) hG (c_X7_lengthOf l X (sw X ad sc av) (av 16 t) (by omega)) gX6_sumWith_X7_lengthOf_n48 rfl m_X6_sumWith_l48 m_X6_sumWith_s48 (by decide +kernel) rfl dX6_sumWith_28 ⟨rfl, rfl⟩ ⟨Nat.le_of_ble_eq_true rfl, Nat.le_of_ble_eq_true rfl⟩ (Nat.le_of_ble_eq_true rfl) ⟨Nat.le_of_ble_eq_true rfl, Nat.le_of_ble_eq_true rfl⟩ (fun r w1 hp => ?_)
    obtain ⟨hr9, hw9⟩ := hp
    have hr9 : r = (nI (av 16 t % 4096)) := hr9
    subst hr9
    refine sx_weq hw9 ?_
    refine sx_aload_n (pc := 31) hG dX6_sumWith_31 rfl 0 rfl ?_
    refine sx_get (pc := 32) (v2 := .int (nI lg)) (ci := 6) hG i_X6_sumWith_6 1 m_X6_sumWith_f17 dX6_sumWith_32 rfl (by decide) 4 rfl rfl (congrArg Value.int h4) ?_
    refine sx_icmp_le (pc := 35) (tgt := 41) (B := (av 16 t % 4096) ≤ lg) hG dX6_sumWith_35 (by decide) (nI_leI (by omega) (by omega)) (fun c35 => ?_) (fun c35 => ?_)
    · skip
      refine sx_ldc (pc := 41) (v2 := nI 1048576) hG m_X6_sumWith_c51 dX6_sumWith_41 (by decide +kernel) ?_
      refine sx_aload_n (pc := 43) hG dX6_sumWith_43 rfl 2 rfl ?_
      refine sx_iload (pc := 44) hG dX6_sumWith_44 5 rfl ?_
      refine sx_callViw (pc := 46) (n9 := 1) (As := [.int (nI (av 16 t))]) (st := [.int (nI 1048576)]) (b := (ad 2)) (ci := 3) hG (c_X3_ofRun l X ad sc av (av 16 t) (by omega) hg) gX6_sumWith_X3_ofRun rfl (by decide +kernel) rfl 2 rfl rfl rfl dX6_sumWith_46 ⟨rfl, rfl⟩ ⟨Nat.le_of_ble_eq_true rfl, Nat.le_of_ble_eq_true rfl⟩ (Nat.le_of_ble_eq_true rfl) ⟨Nat.le_of_ble_eq_true rfl, Nat.le_of_ble_eq_true rfl⟩ (fun r w1 hp => ?_)
      obtain ⟨hr9, hw9⟩ := hp
      have hr9 : r = (nI (cPr av (av 16 t))) := hr9
      subst hr9
      refine sx_weq hw9 ?_
      refine sx_iadd (pc := 49) (v := (nI (1048576 + (cPr av (av 16 t))))) hG dX6_sumWith_49 (nI_add 1048576 (cPr av (av 16 t))) ?_
      refine sx_iload (pc := 50) hG dX6_sumWith_50 6 rfl ?_
      refine sx_iadd (pc := 52) (v := (nI (1048576 + (cPr av (av 16 t)) + ((av 18) (sx_diff s t))))) hG dX6_sumWith_52 (nI_add (1048576 + (cPr av (av 16 t))) ((av 18) (sx_diff s t))) ?_
      exact hret _ _ _ _ dX6_sumWith_53 rfl ⟨congrArg nI (by unfold cSw sx_MX; rw [if_neg (by omega)]), rfl⟩
    · skip
      refine sx_ldc (pc := 38) (v2 := nI 2147483647) hG m_X6_sumWith_c25 dX6_sumWith_38 (by decide +kernel) ?_
      exact hret _ _ _ _ dX6_sumWith_40 rfl ⟨congrArg nI (by unfold cSw sx_MX; rw [if_pos (by omega)]), rfl⟩
