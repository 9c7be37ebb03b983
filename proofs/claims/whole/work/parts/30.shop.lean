/-! THE CLASS: its own methods -/
theorem rB_le {ln : Nat → Nat} {lk : Nat → Nat → Nat} {K B : Nat → Nat} {n s : Nat} (hn : n ≤ 9) (hK : ∀ j, K j ≤ 5000000) (hT : cT ln lk K B (2 ^ n)) (h1 : 1 ≤ s) (hs : s < 2 ^ n) : B s ≤ 5000000 := by
  have hp9 := sx_p9 hn
  have hb : ∃ i, i < 9 ∧ ¬ sx_bit s i = 0 := by
    rcases Classical.em (∃ i, i < 9 ∧ ¬ sx_bit s i = 0) with q | q
    · exact q
    · exfalso
      have h2 : ∀ i, i < 9 → sx_bit s i = 0 := fun i hi9 => by
        rcases Nat.eq_zero_or_pos (sx_bit s i) with h3 | h3
        · exact h3
        · exact absurd ⟨i, hi9, by omega⟩ q
      have h4 : s = 0 := sx_pc_z0 s (by omega) (by unfold sx_pc; simp only [sx_sum]; rw [h2 0, h2 1, h2 2, h2 3, h2 4, h2 5, h2 6, h2 7, h2 8] <;> decide)
      omega
  obtain ⟨i, hi, hbi⟩ := hb
  rw [(hT s h1 hs).2]
  exact Nat.le_trans (sx_mn_lb (b := 2 * i) (by omega) (by show ¬ sx_bit s (2 * i / 2) = 0; rw [Nat.mul_div_cancel_left i (by decide)]; exact hbi)) (hK _)
theorem i_X7_anew_7 : ∀ w ∈ u_ws RX7 TX7 8, w ∈ wsX7_anew := by decide +kernel
theorem m_X7_anew_f12 : Cond.fieldLink RX7 12 (TX7 0).1 (TX7 0).2.1 (TX7 0).2.2.1 ∈ wsX7_anew := by decide +kernel
theorem m_X7_anew_f26 : Cond.fieldLink RX7 26 (TX7 2).1 (TX7 2).2.1 (TX7 2).2.2.1 ∈ wsX7_anew := by decide +kernel
theorem m_X7_anew_f40 : Cond.fieldLink RX7 40 (TX7 4).1 (TX7 4).2.1 (TX7 4).2.2.1 ∈ wsX7_anew := by decide +kernel
set_option maxHeartbeats 4000000 in
set_option maxRecDepth 100000 in
theorem c_X7_anew (l : Launch) (X : sx_X) (ad : Nat → Nat) (sc : Nat → Int32) (av : Nat → Nat → Nat)  : sx_Mv l yX7_anew wsX7_anew { frames := 1, cells := 0, slots := 0, locals := 20 } X [.ref (ad 0)] (sw X ad sc av) (fun w => w = sw X ad (va_up (va_up (va_up sc 1 (nI 0)) 3 (nI 1)) 5 (-1)) av) 0 0 := by
  refine sx_entV (own := RX7) (nL := 1) (by decide +kernel) rfl rfl (Nat.le_of_ble_eq_true rfl) ?_
  intro G hG hN hini hret
  show sx_W l X G 0 0 0 [(0, .ref (ad 0))] [] (sw X ad sc av)
  refine sx_aload_n (pc := 0) hG dX7_anew_0 rfl 0 rfl ?_
  refine sx_get (pc := 1) (v2 := .ref (ad 1)) (ci := 7) hG i_X7_anew_7 0 m_X7_anew_f12 dX7_anew_1 rfl (by decide) 0 rfl rfl rfl ?_
  refine sx_callVvw (pc := 4) (n9 := 0) (As := []) (st := []) (b := (ad 1)) (ci := 5) hG (c_X5_clear l X ad sc av) gX7_anew_X5_clear rfl (by decide +kernel) rfl 1 rfl rfl rfl dX7_anew_4 ⟨rfl, rfl⟩ ⟨Nat.le_of_ble_eq_true rfl, Nat.le_of_ble_eq_true rfl⟩ (Nat.le_of_ble_eq_true rfl) ⟨Nat.le_of_ble_eq_true rfl, Nat.le_of_ble_eq_true rfl⟩ (fun w1 hp => ?_)
  refine sx_weq hp ?_
  refine sx_weq (w2 := (sw X ad (va_up sc 1 (nI 0)) av)) rfl ?_
  refine sx_aload_n (pc := 7) hG dX7_anew_7 rfl 0 rfl ?_
  refine sx_get (pc := 8) (v2 := .ref (ad 3)) (ci := 7) hG i_X7_anew_7 2 m_X7_anew_f26 dX7_anew_8 rfl (by decide) 0 rfl rfl rfl ?_
  refine sx_callVvw (pc := 11) (n9 := 0) (As := []) (st := []) (b := (ad 3)) (ci := 4) hG (c_X4_forget l X ad (va_up sc 1 (nI 0)) av) gX7_anew_X4_forget rfl (by decide +kernel) rfl 3 rfl rfl rfl dX7_anew_11 ⟨rfl, rfl⟩ ⟨Nat.le_of_ble_eq_true rfl, Nat.le_of_ble_eq_true rfl⟩ (Nat.le_of_ble_eq_true rfl) ⟨Nat.le_of_ble_eq_true rfl, Nat.le_of_ble_eq_true rfl⟩ (fun w1 hp => ?_)
  refine sx_weq hp ?_
  refine sx_weq (w2 := (sw X ad (va_up (va_up sc 1 (nI 0)) 3 (nI 1)) av)) rfl ?_
  refine sx_aload_n (pc := 14) hG dX7_anew_14 rfl 0 rfl ?_
  refine sx_get (pc := 15) (v2 := .ref (ad 5)) (ci := 7) hG i_X7_anew_7 4 m_X7_anew_f40 dX7_anew_15 rfl (by decide) 0 rfl rfl rfl ?_
  refine sx_callVvw (pc := 18) (n9 := 0) (As := []) (st := []) (b := (ad 5)) (ci := 2) hG (c_X2_drop l X ad (va_up (va_up sc 1 (nI 0)) 3 (nI 1)) av) gX7_anew_X2_drop rfl (by decide +kernel) rfl 5 rfl rfl rfl dX7_anew_18 ⟨rfl, rfl⟩ ⟨Nat.le_of_ble_eq_true rfl, Nat.le_of_ble_eq_true rfl⟩ (Nat.le_of_ble_eq_true rfl) ⟨Nat.le_of_ble_eq_true rfl, Nat.le_of_ble_eq_true rfl⟩ (fun w1 hp => ?_)
  refine sx_weq hp ?_
  refine sx_weq (w2 := (sw X ad (va_up (va_up (va_up sc 1 (nI 0)) 3 (nI 1)) 5 (-1)) av)) rfl ?_
  exact hret _ _ _ dX7_anew_21 rfl

theorem i_X7_stroke_7 : ∀ w ∈ u_ws RX7 TX7 8, w ∈ wsX7_stroke := by decide +kernel
theorem m_X7_stroke_f12 : Cond.fieldLink RX7 12 (TX7 0).1 (TX7 0).2.1 (TX7 0).2.2.1 ∈ wsX7_stroke := by decide +kernel
set_option maxHeartbeats 4000000 in
set_option maxRecDepth 100000 in
theorem c_X7_stroke_ok (l : Launch) (X : sx_X) (ad : Nat → Nat) (sc : Nat → Int32) (av : Nat → Nat → Nat) (n a b c d : Nat) (hn : n < 9) (h1 : sc 1 = nI n) (ha : a ≤ 9) (hb : b ≤ 9) (hc : c ≤ 9) (hd : d ≤ 9) (hs : sx_str a b c d) : sx_Mi l yX7_stroke wsX7_stroke { frames := 3, cells := 0, slots := 0, locals := 72 } X [.ref (ad 0), .int (nI a), .int (nI b), .int (nI c), .int (nI d)] (sw X ad sc av) (fun r w => r = nI n ∧ w = sw X ad (va_up sc 1 (nI (n + 1))) (sAdd av n a b c d)) 0 0 := by
  refine sx_entI (own := RX7) (nL := 5) (by decide +kernel) rfl rfl (Nat.le_of_ble_eq_true rfl) ?_
  intro G hG hN hret
  show sx_W l X G 0 0 0 [(0, .ref (ad 0)), (1, .int (nI a)), (2, .int (nI b)), (3, .int (nI c)), (4, .int (nI d))] [] (sw X ad sc av)
  refine sx_aload_n (pc := 0) hG dX7_stroke_0 rfl 0 rfl ?_
  refine sx_get (pc := 1) (v2 := .ref (ad 1)) (ci := 7) hG i_X7_stroke_7 0 m_X7_stroke_f12 dX7_stroke_1 rfl (by decide) 0 rfl rfl rfl ?_
  refine sx_iload_n (pc := 4) hG dX7_stroke_4 rfl 1 rfl ?_
  refine sx_iload_n (pc := 5) hG dX7_stroke_5 rfl 2 rfl ?_
  refine sx_iload_n (pc := 6) hG dX7_stroke_6 rfl 3 rfl ?_
  refine sx_iload (pc := 7) hG dX7_stroke_7 4 rfl ?_
  refine sx_callViw (pc := 9) (n9 := 4) (As := [.int (nI a), .int (nI b), .int (nI c), .int (nI d)]) (st := []) (b := (ad 1)) (ci := 5) hG (c_X5_add_ok l X ad sc av n a b c d hn h1 ha hb hc hd hs) gX7_stroke_X5_add rfl (by decide +kernel) rfl 1 rfl rfl rfl dX7_stroke_9 ⟨rfl, rfl⟩ ⟨Nat.le_of_ble_eq_true rfl, Nat.le_of_ble_eq_true rfl⟩ (Nat.le_of_ble_eq_true rfl) ⟨Nat.le_of_ble_eq_true rfl, Nat.le_of_ble_eq_true rfl⟩ (fun r w1 hp => ?_)
  obtain ⟨hr9, hw9⟩ := hp
  have hr9 : r = (nI n) := hr9
  subst hr9
  refine sx_weq hw9 ?_
  exact hret _ _ _ _ dX7_stroke_12 rfl ⟨rfl, rfl⟩

set_option maxHeartbeats 4000000 in
set_option maxRecDepth 100000 in
theorem c_X7_stroke_no (l : Launch) (X : sx_X) (ad : Nat → Nat) (sc : Nat → Int32) (av : Nat → Nat → Nat) (a b c d : Int32) (n : Nat) (hn : n ≤ 9) (h1 : sc 1 = nI n) (hno : sx_no n a b c d) : sx_Mi l yX7_stroke wsX7_stroke { frames := 3, cells := 0, slots := 0, locals := 69 } X [.ref (ad 0), .int a, .int b, .int c, .int d] (sw X ad sc av) (fun r w => r = -1 ∧ w = sw X ad sc av) 0 0 := by
  refine sx_entI (own := RX7) (nL := 5) (by decide +kernel) rfl rfl (Nat.le_of_ble_eq_true rfl) ?_
  intro G hG hN hret
  show sx_W l X G 0 0 0 [(0, .ref (ad 0)), (1, .int a), (2, .int b), (3, .int c), (4, .int d)] [] (sw X ad sc av)
  refine sx_aload_n (pc := 0) hG dX7_stroke_0 rfl 0 rfl ?_
  refine sx_get (pc := 1) (v2 := .ref (ad 1)) (ci := 7) hG i_X7_stroke_7 0 m_X7_stroke_f12 dX7_stroke_1 rfl (by decide) 0 rfl rfl rfl ?_
  refine sx_iload_n (pc := 4) hG dX7_stroke_4 rfl 1 rfl ?_
  refine sx_iload_n (pc := 5) hG dX7_stroke_5 rfl 2 rfl ?_
  refine sx_iload_n (pc := 6) hG dX7_stroke_6 rfl 3 rfl ?_
  refine sx_iload (pc := 7) hG dX7_stroke_7 4 rfl ?_
  refine sx_callViw (pc := 9) (n9 := 4) (As := [.int a, .int b, .int c, .int d]) (st := []) (b := (ad 1)) (ci := 5) hG (c_X5_add_no l X ad sc av a b c d n hn h1 hno) gX7_stroke_X5_add rfl (by decide +kernel) rfl 1 rfl rfl rfl dX7_stroke_9 ⟨rfl, rfl⟩ ⟨Nat.le_of_ble_eq_true rfl, Nat.le_of_ble_eq_true rfl⟩ (Nat.le_of_ble_eq_true rfl) ⟨Nat.le_of_ble_eq_true rfl, Nat.le_of_ble_eq_true rfl⟩ (fun r w1 hp => ?_)
  obtain ⟨hr9, hw9⟩ := hp
  have hr9 : r = (-1) := hr9
  subst hr9
  refine sx_weq hw9 ?_
  exact hret _ _ _ _ dX7_stroke_12 rfl ⟨rfl, rfl⟩

theorem i_X7_price_7 : ∀ w ∈ u_ws RX7 TX7 8, w ∈ wsX7_price := by decide +kernel
theorem m_X7_price_f19 : Cond.fieldLink RX7 19 (TX7 1).1 (TX7 1).2.1 (TX7 1).2.2.1 ∈ wsX7_price := by decide +kernel
theorem m_X7_price_f26 : Cond.fieldLink RX7 26 (TX7 2).1 (TX7 2).2.1 (TX7 2).2.2.1 ∈ wsX7_price := by decide +kernel
set_option maxHeartbeats 4000000 in
set_option maxRecDepth 100000 in
theorem c_X7_price_ok (l : Launch) (X : sx_X) (ad : Nat → Nat) (sc : Nat → Int32) (av : Nat → Nat → Nat) (a v : Nat) (ha : a ≤ 6) (hv : v ≤ 99) : sx_Mi l yX7_price wsX7_price { frames := 1, cells := 0, slots := 0, locals := 22 } X [.ref (ad 0), .int (nI a), .int (nI v)] (sw X ad sc av) (fun r w => r = nI 1 ∧ w = sw X ad (va_up sc 3 (nI 1)) (va_up av 12 (va_up (av 12) a v))) 0 0 := by
  refine sx_entI (own := RX7) (nL := 3) (by decide +kernel) rfl rfl (Nat.le_of_ble_eq_true rfl) ?_
  intro G hG hN hret
  show sx_W l X G 0 0 0 [(0, .ref (ad 0)), (1, .int (nI a)), (2, .int (nI v))] [] (sw X ad sc av)
  refine sx_aload_n (pc := 0) hG dX7_price_0 rfl 0 rfl ?_
  refine sx_get (pc := 1) (v2 := .ref (ad 2)) (ci := 7) hG i_X7_price_7 1 m_X7_price_f19 dX7_price_1 rfl (by decide) 0 rfl rfl rfl ?_
  refine sx_iload_n (pc := 4) hG dX7_price_4 rfl 1 rfl ?_
  refine sx_iload_n (pc := 5) hG dX7_price_5 rfl 2 rfl ?_
  refine sx_callViw (pc := 6) (n9 := 2) (As := [.int (nI a), .int (nI v)]) (st := []) (b := (ad 2)) (ci := 3) hG (c_X3_put_ok l X ad sc av a v ha hv) gX7_price_X3_put rfl (by decide +kernel) rfl 2 rfl rfl rfl dX7_price_6 ⟨rfl, rfl⟩ ⟨Nat.le_of_ble_eq_true rfl, Nat.le_of_ble_eq_true rfl⟩ (Nat.le_of_ble_eq_true rfl) ⟨Nat.le_of_ble_eq_true rfl, Nat.le_of_ble_eq_true rfl⟩ (fun r w1 hp => ?_)
  obtain ⟨hr9, hw9⟩ := hp
  have hr9 : r = (nI 1) := hr9
  subst hr9
  refine sx_weq hw9 ?_
  refine sx_weq (w2 := (sw X ad sc (va_up av 12 (va_up (av 12) a v)))) rfl ?_
  refine sx_if_ne (pc := 9) (tgt := 14) (B := 1 = 0) hG dX7_price_9 (by decide) (sx_eq0 (by omega)) (fun c9 => ?_) (fun c9 => ?_)
  · skip
    refine sx_aload_n (pc := 14) hG dX7_price_14 rfl 0 rfl ?_
    refine sx_get (pc := 15) (v2 := .ref (ad 3)) (ci := 7) hG i_X7_price_7 2 m_X7_price_f26 dX7_price_15 rfl (by decide) 0 rfl rfl rfl ?_
    refine sx_callVvw (pc := 18) (n9 := 0) (As := []) (st := []) (b := (ad 3)) (ci := 4) hG (c_X4_forget l X ad sc (va_up av 12 (va_up (av 12) a v))) gX7_price_X4_forget rfl (by decide +kernel) rfl 3 rfl rfl rfl dX7_price_18 ⟨rfl, rfl⟩ ⟨Nat.le_of_ble_eq_true rfl, Nat.le_of_ble_eq_true rfl⟩ (Nat.le_of_ble_eq_true rfl) ⟨Nat.le_of_ble_eq_true rfl, Nat.le_of_ble_eq_true rfl⟩ (fun w1 hp => ?_)
    refine sx_weq hp ?_
    refine sx_weq (w2 := (sw X ad (va_up sc 3 (nI 1)) (va_up av 12 (va_up (av 12) a v)))) rfl ?_
    refine sx_iconst (pc := 21) (v := nI 1) hG dX7_price_21 (by decide +kernel) ?_
    exact hret _ _ _ _ dX7_price_22 (by decide +kernel) ⟨rfl, rfl⟩
  · skip
    exact absurd c9 (by decide)

set_option maxHeartbeats 4000000 in
set_option maxRecDepth 100000 in
theorem c_X7_price_no (l : Launch) (X : sx_X) (ad : Nat → Nat) (sc : Nat → Int32) (av : Nat → Nat → Nat) (a v : Int32) (hno : ¬ (0 ≤ a.toInt ∧ a.toInt ≤ 6 ∧ 0 ≤ v.toInt ∧ v.toInt ≤ 99)) : sx_Mi l yX7_price wsX7_price { frames := 1, cells := 0, slots := 0, locals := 22 } X [.ref (ad 0), .int a, .int v] (sw X ad sc av) (fun r w => r = nI 0 ∧ w = sw X ad sc av) 0 0 := by
  refine sx_entI (own := RX7) (nL := 3) (by decide +kernel) rfl rfl (Nat.le_of_ble_eq_true rfl) ?_
  intro G hG hN hret
  show sx_W l X G 0 0 0 [(0, .ref (ad 0)), (1, .int a), (2, .int v)] [] (sw X ad sc av)
  refine sx_aload_n (pc := 0) hG dX7_price_0 rfl 0 rfl ?_
  refine sx_get (pc := 1) (v2 := .ref (ad 2)) (ci := 7) hG i_X7_price_7 1 m_X7_price_f19 dX7_price_1 rfl (by decide) 0 rfl rfl rfl ?_
  refine sx_iload_n (pc := 4) hG dX7_price_4 rfl 1 rfl ?_
  refine sx_iload_n (pc := 5) hG dX7_price_5 rfl 2 rfl ?_
  refine sx_callViw (pc := 6) (n9 := 2) (As := [.int a, .int v]) (st := []) (b := (ad 2)) (ci := 3) hG (c_X3_put_no l X ad sc av a v hno) gX7_price_X3_put rfl (by decide +kernel) rfl 2 rfl rfl rfl dX7_price_6 ⟨rfl, rfl⟩ ⟨Nat.le_of_ble_eq_true rfl, Nat.le_of_ble_eq_true rfl⟩ (Nat.le_of_ble_eq_true rfl) ⟨Nat.le_of_ble_eq_true rfl, Nat.le_of_ble_eq_true rfl⟩ (fun r w1 hp => ?_)
  obtain ⟨hr9, hw9⟩ := hp
  have hr9 : r = (nI 0) := hr9
  subst hr9
  refine sx_weq hw9 ?_
  refine sx_if_ne (pc := 9) (tgt := 14) (B := 0 = 0) hG dX7_price_9 (by decide) (sx_eq0 (by omega)) (fun c9 => ?_) (fun c9 => ?_)
  · skip
    exact absurd (by decide) c9
  · skip
    refine sx_iconst (pc := 12) (v := nI 0) hG dX7_price_12 (by decide +kernel) ?_
    exact hret _ _ _ _ dX7_price_13 (by decide +kernel) ⟨rfl, rfl⟩

theorem i_X7_longest_7 : ∀ w ∈ u_ws RX7 TX7 8, w ∈ wsX7_longest := by decide +kernel
theorem m_X7_longest_f58 : Cond.fieldLink RX7 58 (TX7 7).1 (TX7 7).2.1 (TX7 7).2.2.1 ∈ wsX7_longest := by decide +kernel
set_option maxHeartbeats 4000000 in
set_option maxRecDepth 100000 in
theorem c_X7_longest_ok (l : Launch) (X : sx_X) (ad : Nat → Nat) (sc : Nat → Int32) (av : Nat → Nat → Nat) (v : Nat) (h1 : 1 ≤ v) (h2 : v ≤ 9999) : sx_Mi l yX7_longest wsX7_longest { frames := 0, cells := 0, slots := 0, locals := 0 } X [.ref (ad 0), .int (nI v)] (sw X ad sc av) (fun r w => r = nI 1 ∧ w = sw X ad (va_up sc 0 (nI v)) av) 0 0 := by
  refine sx_entI (own := RX7) (nL := 2) (by decide +kernel) rfl rfl (Nat.le_of_ble_eq_true rfl) ?_
  intro G hG hN hret
  show sx_W l X G 0 0 0 [(0, .ref (ad 0)), (1, .int (nI v))] [] (sw X ad sc av)
  refine sx_iload_n (pc := 0) hG dX7_longest_0 rfl 1 rfl ?_
  refine sx_iconst (pc := 1) (v := nI 1) hG dX7_longest_1 (by decide +kernel) ?_
  refine sx_icmp_lt (pc := 2) (tgt := 12) (B := v < 1) hG dX7_longest_2 (by decide) (nI_ltI (by omega) (by omega)) (fun c2 => ?_) (fun c2 => ?_)
  · skip
    exact absurd c2 (by omega)
  · skip
    refine sx_iload_n (pc := 5) hG dX7_longest_5 rfl 1 rfl ?_
    refine sx_sipush (pc := 6) (v := nI 9999) hG dX7_longest_6 (by decide +kernel) ?_
    refine sx_icmp_le (pc := 9) (tgt := 14) (B := v ≤ 9999) hG dX7_longest_9 (by decide) (nI_leI (by omega) (by omega)) (fun c9 => ?_) (fun c9 => ?_)
    · skip
      refine sx_aload_n (pc := 14) hG dX7_longest_14 rfl 0 rfl ?_
      refine sx_iload_n (pc := 15) hG dX7_longest_15 rfl 1 rfl ?_
      refine sx_put (pc := 16) (v := .int (nI v)) (ci := 7) (w2 := (sw X ad (va_up sc 0 (nI v)) av)) hG i_X7_longest_7 tyX7 tyX7_ok nmX7 7 m_X7_longest_f58 dX7_longest_16 rfl (by decide) 0 rfl rfl rfl rfl (Nat.le_of_ble_eq_true rfl) rfl ?_
      refine sx_iconst (pc := 19) (v := nI 1) hG dX7_longest_19 (by decide +kernel) ?_
      exact hret _ _ _ _ dX7_longest_20 (by decide +kernel) ⟨rfl, rfl⟩
    · skip
      exact absurd c9 (by omega)

set_option maxHeartbeats 4000000 in
set_option maxRecDepth 100000 in
theorem c_X7_longest_no (l : Launch) (X : sx_X) (ad : Nat → Nat) (sc : Nat → Int32) (av : Nat → Nat → Nat) (v : Int32) (hno : ¬ (1 ≤ v.toInt ∧ v.toInt ≤ 9999)) : sx_Mi l yX7_longest wsX7_longest { frames := 0, cells := 0, slots := 0, locals := 0 } X [.ref (ad 0), .int v] (sw X ad sc av) (fun r w => r = nI 0 ∧ w = sw X ad sc av) 0 0 := by
  refine sx_entI (own := RX7) (nL := 2) (by decide +kernel) rfl rfl (Nat.le_of_ble_eq_true rfl) ?_
  intro G hG hN hret
  show sx_W l X G 0 0 0 [(0, .ref (ad 0)), (1, .int v)] [] (sw X ad sc av)
  refine sx_iload_n (pc := 0) hG dX7_longest_0 rfl 1 rfl ?_
  refine sx_iconst (pc := 1) (v := nI 1) hG dX7_longest_1 (by decide +kernel) ?_
  refine sx_icmp_lt (pc := 2) (tgt := 12) (B := v.toInt < (1 : Int)) hG dX7_longest_2 (by decide) (sx_rlt rfl (nI_toInt (by omega))) (fun c2 => ?_) (fun c2 => ?_)
  · skip
    refine sx_iconst (pc := 12) (v := nI 0) hG dX7_longest_12 (by decide +kernel) ?_
    exact hret _ _ _ _ dX7_longest_13 (by decide +kernel) ⟨rfl, rfl⟩
  · skip
    refine sx_iload_n (pc := 5) hG dX7_longest_5 rfl 1 rfl ?_
    refine sx_sipush (pc := 6) (v := nI 9999) hG dX7_longest_6 (by decide +kernel) ?_
    refine sx_icmp_le (pc := 9) (tgt := 14) (B := v.toInt ≤ (9999 : Int)) hG dX7_longest_9 (by decide) (sx_rle rfl (nI_toInt (by omega))) (fun c9 => ?_) (fun c9 => ?_)
    · skip
      exact absurd ⟨by omega, by omega⟩ hno
    · skip
      refine sx_iconst (pc := 12) (v := nI 0) hG dX7_longest_12 (by decide +kernel) ?_
      exact hret _ _ _ _ dX7_longest_13 (by decide +kernel) ⟨rfl, rfl⟩

theorem i_X7_count_7 : ∀ w ∈ u_ws RX7 TX7 8, w ∈ wsX7_count := by decide +kernel
theorem m_X7_count_f12 : Cond.fieldLink RX7 12 (TX7 0).1 (TX7 0).2.1 (TX7 0).2.2.1 ∈ wsX7_count := by decide +kernel
theorem i_X7_count_5 : ∀ w ∈ u_ws RX5 TX5 5, w ∈ wsX7_count := by decide +kernel
theorem m_X7_count_n163 : Cond.fieldLinkNest RX7 163 (TX5 0).1 (TX5 0).2.1 (TX5 0).2.2.1 "TubeShop" ∈ sx_nest := by decide +kernel
set_option maxHeartbeats 4000000 in
set_option maxRecDepth 100000 in
theorem c_X7_count_0 (l : Launch) (X : sx_X) (ad : Nat → Nat) (sc : Nat → Int32) (av : Nat → Nat → Nat)  : sx_Mi l yX7_count wsX7_count { frames := 0, cells := 0, slots := 0, locals := 0 } X [.ref (ad 0), .int (nI 0)] (sw X ad sc av) (fun r w => r = sc 1 ∧ w = sw X ad sc av) 0 0 := by
  refine sx_entI (own := RX7) (nL := 2) (by decide +kernel) rfl rfl (Nat.le_of_ble_eq_true rfl) ?_
  intro G hG hN hret
  show sx_W l X G 0 0 0 [(0, .ref (ad 0)), (1, .int (nI 0))] [] (sw X ad sc av)
  refine sx_iload_n (pc := 0) hG dX7_count_0 rfl 1 rfl ?_
  refine sx_tswIn (pc := 1) (off := 35) (tgt := 36) hG dX7_count_1 (by decide) (by decide) (by decide +kernel) (by decide) ?_
  refine sx_aload_n (pc := 36) hG dX7_count_36 rfl 0 rfl ?_
  refine sx_get (pc := 37) (v2 := .ref (ad 1)) (ci := 7) hG i_X7_count_7 0 m_X7_count_f12 dX7_count_37 rfl (by decide) 0 rfl rfl rfl ?_
  refine sx_getN (pc := 40) (v2 := .int (sc 1)) (ci := 5) hG i_X7_count_5 0 m_X7_count_n163 dX7_count_40 rfl (by decide) 1 rfl rfl rfl ?_
  exact hret _ _ _ _ dX7_count_43 rfl ⟨rfl, rfl⟩

theorem m_X7_count_f40 : Cond.fieldLink RX7 40 (TX7 4).1 (TX7 4).2.1 (TX7 4).2.2.1 ∈ wsX7_count := by decide +kernel
theorem i_X7_count_2 : ∀ w ∈ u_ws RX2 TX2 4, w ∈ wsX7_count := by decide +kernel
theorem m_X7_count_n119 : Cond.fieldLinkNest RX7 119 (TX2 0).1 (TX2 0).2.1 (TX2 0).2.2.1 "TubeShop" ∈ sx_nest := by decide +kernel
set_option maxHeartbeats 4000000 in
set_option maxRecDepth 100000 in
theorem c_X7_count_1 (l : Launch) (X : sx_X) (ad : Nat → Nat) (sc : Nat → Int32) (av : Nat → Nat → Nat)  : sx_Mi l yX7_count wsX7_count { frames := 0, cells := 0, slots := 0, locals := 0 } X [.ref (ad 0), .int (nI 1)] (sw X ad sc av) (fun r w => r = sc 5 ∧ w = sw X ad sc av) 0 0 := by
  refine sx_entI (own := RX7) (nL := 2) (by decide +kernel) rfl rfl (Nat.le_of_ble_eq_true rfl) ?_
  intro G hG hN hret
  show sx_W l X G 0 0 0 [(0, .ref (ad 0)), (1, .int (nI 1))] [] (sw X ad sc av)
  refine sx_iload_n (pc := 0) hG dX7_count_0 rfl 1 rfl ?_
  refine sx_tswIn (pc := 1) (off := 43) (tgt := 44) hG dX7_count_1 (by decide) (by decide) (by decide +kernel) (by decide) ?_
  refine sx_aload_n (pc := 44) hG dX7_count_44 rfl 0 rfl ?_
  refine sx_get (pc := 45) (v2 := .ref (ad 5)) (ci := 7) hG i_X7_count_7 4 m_X7_count_f40 dX7_count_45 rfl (by decide) 0 rfl rfl rfl ?_
  refine sx_getN (pc := 48) (v2 := .int (sc 5)) (ci := 2) hG i_X7_count_2 0 m_X7_count_n119 dX7_count_48 rfl (by decide) 5 rfl rfl rfl ?_
  exact hret _ _ _ _ dX7_count_51 rfl ⟨rfl, rfl⟩

set_option maxHeartbeats 4000000 in
set_option maxRecDepth 100000 in
theorem c_X7_count_2 (l : Launch) (X : sx_X) (ad : Nat → Nat) (sc : Nat → Int32) (av : Nat → Nat → Nat) (n : Nat) (hn : n ≤ 9) (h1 : sc 1 = nI n) (hg : sG av) : sx_Mi l yX7_count wsX7_count { frames := 1, cells := 0, slots := 0, locals := 22 } X [.ref (ad 0), .int (nI 2)] (sw X ad sc av) (fun r w => r = nI (sx_sum (av 11) n) ∧ w = sw X ad sc av) 0 0 := by
  refine sx_entI (own := RX7) (nL := 2) (by decide +kernel) rfl rfl (Nat.le_of_ble_eq_true rfl) ?_
  intro G hG hN hret
  show sx_W l X G 0 0 0 [(0, .ref (ad 0)), (1, .int (nI 2))] [] (sw X ad sc av)
  refine sx_iload_n (pc := 0) hG dX7_count_0 rfl 1 rfl ?_
  refine sx_tswIn (pc := 1) (off := 51) (tgt := 52) hG dX7_count_1 (by decide) (by decide) (by decide +kernel) (by decide) ?_
  refine sx_aload_n (pc := 52) hG dX7_count_52 rfl 0 rfl ?_
  refine sx_get (pc := 53) (v2 := .ref (ad 1)) (ci := 7) hG i_X7_count_7 0 m_X7_count_f12 dX7_count_53 rfl (by decide) 0 rfl rfl rfl ?_
  refine sx_callViw (pc := 56) (n9 := 0) (As := []) (st := []) (b := (ad 1)) (ci := 5) hG (c_X5_wholeLength l X ad sc av n hn h1 hg) gX7_count_X5_wholeLength rfl (by decide +kernel) rfl 1 rfl rfl rfl dX7_count_56 ⟨rfl, rfl⟩ ⟨Nat.le_of_ble_eq_true rfl, Nat.le_of_ble_eq_true rfl⟩ (Nat.le_of_ble_eq_true rfl) ⟨Nat.le_of_ble_eq_true rfl, Nat.le_of_ble_eq_true rfl⟩ (fun r w1 hp => ?_)
  obtain ⟨hr9, hw9⟩ := hp
  have hr9 : r = (nI (sx_sum (av 11) n)) := hr9
  subst hr9
  refine sx_weq hw9 ?_
  exact hret _ _ _ _ dX7_count_59 rfl ⟨rfl, rfl⟩

set_option maxHeartbeats 4000000 in
set_option maxRecDepth 100000 in
theorem c_X7_count_3n (l : Launch) (X : sx_X) (ad : Nat → Nat) (sc : Nat → Int32) (av : Nat → Nat → Nat) (h5 : sc 5 = -1) : sx_Mi l yX7_count wsX7_count { frames := 2, cells := 0, slots := 0, locals := 42 } X [.ref (ad 0), .int (nI 3)] (sw X ad sc av) (fun r w => r = -1 ∧ w = sw X ad sc av) 0 0 := by
  refine sx_entI (own := RX7) (nL := 2) (by decide +kernel) rfl rfl (Nat.le_of_ble_eq_true rfl) ?_
  intro G hG hN hret
  show sx_W l X G 0 0 0 [(0, .ref (ad 0)), (1, .int (nI 3))] [] (sw X ad sc av)
  refine sx_iload_n (pc := 0) hG dX7_count_0 rfl 1 rfl ?_
  refine sx_tswIn (pc := 1) (off := 59) (tgt := 60) hG dX7_count_1 (by decide) (by decide) (by decide +kernel) (by decide) ?_
  refine sx_aload_n (pc := 60) hG dX7_count_60 rfl 0 rfl ?_
  refine sx_get (pc := 61) (v2 := .ref (ad 5)) (ci := 7) hG i_X7_count_7 4 m_X7_count_f40 dX7_count_61 rfl (by decide) 0 rfl rfl rfl ?_
  refine sx_callViw (pc := 64) (n9 := 0) (As := []) (st := []) (b := (ad 5)) (ci := 2) hG (c_X2_wholePrice_n l X ad sc av h5) gX7_count_X2_wholePrice rfl (by decide +kernel) rfl 5 rfl rfl rfl dX7_count_64 ⟨rfl, rfl⟩ ⟨Nat.le_of_ble_eq_true rfl, Nat.le_of_ble_eq_true rfl⟩ (Nat.le_of_ble_eq_true rfl) ⟨Nat.le_of_ble_eq_true rfl, Nat.le_of_ble_eq_true rfl⟩ (fun r w1 hp => ?_)
  obtain ⟨hr9, hw9⟩ := hp
  have hr9 : r = (-1) := hr9
  subst hr9
  refine sx_weq hw9 ?_
  exact hret _ _ _ _ dX7_count_67 rfl ⟨rfl, rfl⟩

set_option maxHeartbeats 4000000 in
set_option maxRecDepth 100000 in
theorem c_X7_count_3 (l : Launch) (X : sx_X) (ad : Nat → Nat) (sc : Nat → Int32) (av : Nat → Nat → Nat) (k : Nat) (hk : k ≤ 9) (h5 : sc 5 = nI k) (hq : ∀ j, av 21 j ≤ 1100000) : sx_Mi l yX7_count wsX7_count { frames := 2, cells := 0, slots := 0, locals := 42 } X [.ref (ad 0), .int (nI 3)] (sw X ad sc av) (fun r w => r = nI (sx_sum (av 21) k) ∧ w = sw X ad sc av) 0 0 := by
  refine sx_entI (own := RX7) (nL := 2) (by decide +kernel) rfl rfl (Nat.le_of_ble_eq_true rfl) ?_
  intro G hG hN hret
  show sx_W l X G 0 0 0 [(0, .ref (ad 0)), (1, .int (nI 3))] [] (sw X ad sc av)
  refine sx_iload_n (pc := 0) hG dX7_count_0 rfl 1 rfl ?_
  refine sx_tswIn (pc := 1) (off := 59) (tgt := 60) hG dX7_count_1 (by decide) (by decide) (by decide +kernel) (by decide) ?_
  refine sx_aload_n (pc := 60) hG dX7_count_60 rfl 0 rfl ?_
  refine sx_get (pc := 61) (v2 := .ref (ad 5)) (ci := 7) hG i_X7_count_7 4 m_X7_count_f40 dX7_count_61 rfl (by decide) 0 rfl rfl rfl ?_
  refine sx_callViw (pc := 64) (n9 := 0) (As := []) (st := []) (b := (ad 5)) (ci := 2) hG (c_X2_wholePrice_y l X ad sc av k hk h5 hq) gX7_count_X2_wholePrice rfl (by decide +kernel) rfl 5 rfl rfl rfl dX7_count_64 ⟨rfl, rfl⟩ ⟨Nat.le_of_ble_eq_true rfl, Nat.le_of_ble_eq_true rfl⟩ (Nat.le_of_ble_eq_true rfl) ⟨Nat.le_of_ble_eq_true rfl, Nat.le_of_ble_eq_true rfl⟩ (fun r w1 hp => ?_)
  obtain ⟨hr9, hw9⟩ := hp
  have hr9 : r = (nI (sx_sum (av 21) k)) := hr9
  subst hr9
  refine sx_weq hw9 ?_
  exact hret _ _ _ _ dX7_count_67 rfl ⟨rfl, rfl⟩

theorem m_X7_count_f58 : Cond.fieldLink RX7 58 (TX7 7).1 (TX7 7).2.1 (TX7 7).2.2.1 ∈ wsX7_count := by decide +kernel
set_option maxHeartbeats 4000000 in
set_option maxRecDepth 100000 in
theorem c_X7_count_4 (l : Launch) (X : sx_X) (ad : Nat → Nat) (sc : Nat → Int32) (av : Nat → Nat → Nat)  : sx_Mi l yX7_count wsX7_count { frames := 0, cells := 0, slots := 0, locals := 0 } X [.ref (ad 0), .int (nI 4)] (sw X ad sc av) (fun r w => r = sc 0 ∧ w = sw X ad sc av) 0 0 := by
  refine sx_entI (own := RX7) (nL := 2) (by decide +kernel) rfl rfl (Nat.le_of_ble_eq_true rfl) ?_
  intro G hG hN hret
  show sx_W l X G 0 0 0 [(0, .ref (ad 0)), (1, .int (nI 4))] [] (sw X ad sc av)
  refine sx_iload_n (pc := 0) hG dX7_count_0 rfl 1 rfl ?_
  refine sx_tswIn (pc := 1) (off := 67) (tgt := 68) hG dX7_count_1 (by decide) (by decide) (by decide +kernel) (by decide) ?_
  refine sx_aload_n (pc := 68) hG dX7_count_68 rfl 0 rfl ?_
  refine sx_get (pc := 69) (v2 := .int (sc 0)) (ci := 7) hG i_X7_count_7 7 m_X7_count_f58 dX7_count_69 rfl (by decide) 0 rfl rfl rfl ?_
  exact hret _ _ _ _ dX7_count_72 rfl ⟨rfl, rfl⟩

set_option maxHeartbeats 4000000 in
set_option maxRecDepth 100000 in
theorem c_X7_count_o (l : Launch) (X : sx_X) (ad : Nat → Nat) (sc : Nat → Int32) (av : Nat → Nat → Nat) (a : Int32) (ha : a.toInt < 0 ∨ 4 < a.toInt) : sx_Mi l yX7_count wsX7_count { frames := 0, cells := 0, slots := 0, locals := 0 } X [.ref (ad 0), .int a] (sw X ad sc av) (fun r w => r = -1 ∧ w = sw X ad sc av) 0 0 := by
  refine sx_entI (own := RX7) (nL := 2) (by decide +kernel) rfl rfl (Nat.le_of_ble_eq_true rfl) ?_
  intro G hG hN hret
  show sx_W l X G 0 0 0 [(0, .ref (ad 0)), (1, .int a)] [] (sw X ad sc av)
  refine sx_iload_n (pc := 0) hG dX7_count_0 rfl 1 rfl ?_
  refine sx_tswOut (pc := 1) (tgt := 73) hG dX7_count_1 ha (by decide) ?_
  refine sx_iconst (pc := 73) (v := (-1)) hG dX7_count_73 (by decide +kernel) ?_
  exact hret _ _ _ _ dX7_count_74 rfl ⟨rfl, rfl⟩
