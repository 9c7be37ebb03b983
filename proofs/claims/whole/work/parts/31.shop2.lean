/-! THE CLASS: run, step, split, feed, dead -/
theorem i_X7_run_7 : ∀ w ∈ u_ws RX7 TX7 8, w ∈ wsX7_run := by decide +kernel
theorem m_X7_run_f12 : Cond.fieldLink RX7 12 (TX7 0).1 (TX7 0).2.1 (TX7 0).2.2.1 ∈ wsX7_run := by decide +kernel
theorem m_X7_run_f26 : Cond.fieldLink RX7 26 (TX7 2).1 (TX7 2).2.1 (TX7 2).2.2.1 ∈ wsX7_run := by decide +kernel
theorem m_X7_run_f19 : Cond.fieldLink RX7 19 (TX7 1).1 (TX7 1).2.1 (TX7 1).2.2.1 ∈ wsX7_run := by decide +kernel
set_option maxHeartbeats 4000000 in
set_option maxRecDepth 100000 in
theorem c_X7_run_0 (l : Launch) (X : sx_X) (ad : Nat → Nat) (sc : Nat → Int32) (av : Nat → Nat → Nat) (n J : Nat) (hn : n ≤ 9) (hJ : J ≤ n) (h1 : sc 1 = nI n) (h3 : sc 3 = nI (2 ^ J)) (hg : sG av) (hR : rTab av J (sc 2) (av 13) (av 14) (av 15) (av 16)) (s : Nat) (hs1 : 1 ≤ s) (hs : s < 2 ^ n) : sx_Mi l yX7_run wsX7_run { frames := 5, cells := 0, slots := 0, locals := 119 } X [.ref (ad 0), .int (nI s), .int (nI 0)] (sw X ad sc av) (fun r w => ∃ (v2 v3 : Int32) (A13 A14 A15 A16 : Nat → Nat), r = nI (A16 s / 4096) ∧ w = sw X ad (va_up (va_up sc 2 v2) 3 v3) (va_up (va_up (va_up (va_up av 13 A13) 14 A14) 15 A15) 16 A16) ∧ v3 = nI (2 ^ n) ∧ rTab av n v2 A13 A14 A15 A16) 0 0 := by
  refine sx_entI (own := RX7) (nL := 3) (by decide +kernel) rfl rfl (Nat.le_of_ble_eq_true rfl) ?_
  intro G hG hN hret
  show sx_W l X G 0 0 0 [(0, .ref (ad 0)), (1, .int (nI s)), (2, .int (nI 0))] [] (sw X ad sc av)
  have hp9 := sx_p9 hn
  have hn0 : ¬ n = 0 := fun q => by subst q; omega
  refine sx_aload_n (pc := 0) hG dX7_run_0 rfl 0 rfl ?_
  refine sx_get (pc := 1) (v2 := .ref (ad 1)) (ci := 7) hG i_X7_run_7 0 m_X7_run_f12 dX7_run_1 rfl (by decide) 0 rfl rfl rfl ?_
  refine sx_iload_n (pc := 4) hG dX7_run_4 rfl 1 rfl ?_
  refine sx_callViw (pc := 5) (n9 := 1) (As := [.int (nI s)]) (st := []) (b := (ad 1)) (ci := 5) hG (c_X5_holds l X ad sc av (nI s) n hn h1) gX7_run_X5_holds rfl (by decide +kernel) rfl 1 rfl rfl rfl dX7_run_5 ⟨rfl, rfl⟩ ⟨Nat.le_of_ble_eq_true rfl, Nat.le_of_ble_eq_true rfl⟩ (Nat.le_of_ble_eq_true rfl) ⟨Nat.le_of_ble_eq_true rfl, Nat.le_of_ble_eq_true rfl⟩ (fun r w1 hp => ?_)
  obtain ⟨hr9, hw9⟩ := hp
  rw [sx_isSet_1 hn hs1 hs] at hr9
  subst hr9
  refine sx_weq hw9 ?_
  refine sx_if_ne (pc := 8) (tgt := 13) (B := 1 = 0) hG dX7_run_8 (by decide) (sx_eq0 (by omega)) (fun c8 => ?_) (fun c8 => ?_)
  · skip
    refine sx_aload_n (pc := 13) hG dX7_run_13 rfl 0 rfl ?_
    refine sx_get (pc := 14) (v2 := .ref (ad 3)) (ci := 7) hG i_X7_run_7 2 m_X7_run_f26 dX7_run_14 rfl (by decide) 0 rfl rfl rfl ?_
    refine sx_aload_n (pc := 17) hG dX7_run_17 rfl 0 rfl ?_
    refine sx_get (pc := 18) (v2 := .ref (ad 1)) (ci := 7) hG i_X7_run_7 0 m_X7_run_f12 dX7_run_18 rfl (by decide) 0 rfl rfl rfl ?_
    refine sx_aload_n (pc := 21) hG dX7_run_21 rfl 0 rfl ?_
    refine sx_get (pc := 22) (v2 := .ref (ad 2)) (ci := 7) hG i_X7_run_7 1 m_X7_run_f19 dX7_run_22 rfl (by decide) 0 rfl rfl rfl ?_
    refine sx_callVvw (pc := 25) (n9 := 2) (As := [.ref (ad 1), .ref (ad 2)]) (st := []) (b := (ad 3)) (ci := 4) hG (c_X4_refresh l X ad sc av n J hn hJ h1 h3 hg hR) gX7_run_X4_refresh rfl (by decide +kernel) rfl 3 rfl rfl rfl dX7_run_25 ⟨rfl, rfl⟩ ⟨Nat.le_of_ble_eq_true rfl, Nat.le_of_ble_eq_true rfl⟩ (Nat.le_of_ble_eq_true rfl) ⟨Nat.le_of_ble_eq_true rfl, Nat.le_of_ble_eq_true rfl⟩ (fun w1 hp => ?_)
    obtain ⟨v2, v3, A13, A14, A15, A16, hw9, hv3, hR2⟩ := hp
    refine sx_weq hw9 ?_
    obtain ⟨r1, r2, r3, r4, r5, r6, r7⟩ := id hR2
    have hBb := rB_le hn r6 r7 hs1 hs
    refine sx_iload_n (pc := 28) hG dX7_run_28 rfl 2 rfl ?_
    refine sx_tswIn (pc := 29) (off := 31) (tgt := 60) hG dX7_run_29 (by decide) (by decide) (by decide +kernel) (by decide) ?_
    refine sx_aload_n (pc := 60) hG dX7_run_60 rfl 0 rfl ?_
    refine sx_get (pc := 61) (v2 := .ref (ad 3)) (ci := 7) hG i_X7_run_7 2 m_X7_run_f26 dX7_run_61 rfl (by decide) 0 rfl rfl rfl ?_
    refine sx_iload_n (pc := 64) hG dX7_run_64 rfl 1 rfl ?_
    refine sx_callViw (pc := 65) (n9 := 1) (As := [.int (nI s)]) (st := []) (b := (ad 3)) (ci := 4) hG (c_X4_costOf l X ad (va_up (va_up sc 2 v2) 3 v3) (va_up (va_up (va_up (va_up av 13 A13) 14 A14) 15 A15) 16 A16) s (by omega)) gX7_run_X4_costOf rfl (by decide +kernel) rfl 3 rfl rfl rfl dX7_run_65 ⟨rfl, rfl⟩ ⟨Nat.le_of_ble_eq_true rfl, Nat.le_of_ble_eq_true rfl⟩ (Nat.le_of_ble_eq_true rfl) ⟨Nat.le_of_ble_eq_true rfl, Nat.le_of_ble_eq_true rfl⟩ (fun r w1 hp => ?_)
    obtain ⟨hr9, hw9⟩ := hp
    have hr9 : r = (nI (A16 s)) := hr9
    subst hr9
    refine sx_weq hw9 ?_
    refine sx_callSiw (pc := 68) (n9 := 1) (As := [.int (nI (A16 s))]) (st := []) hG (c_X7_payOf l X (sw X ad (va_up (va_up sc 2 v2) 3 v3) (va_up (va_up (va_up (va_up av 13 A13) 14 A14) 15 A15) 16 A16)) (A16 s) (by omega)) gX7_run_X7_payOf rfl (by decide +kernel) rfl dX7_run_68 ⟨rfl, rfl⟩ ⟨Nat.le_of_ble_eq_true rfl, Nat.le_of_ble_eq_true rfl⟩ (Nat.le_of_ble_eq_true rfl) ⟨Nat.le_of_ble_eq_true rfl, Nat.le_of_ble_eq_true rfl⟩ (fun r w1 hp => ?_)
    obtain ⟨hr9, hw9⟩ := hp
    have hr9 : r = (nI (A16 s / 4096)) := hr9
    subst hr9
    refine sx_weq hw9 ?_
    exact hret _ _ _ _ dX7_run_71 rfl ⟨v2, v3, A13, A14, A15, A16, rfl, rfl, hv3, hR2⟩
  · skip
    exact absurd c8 (by decide)

set_option maxHeartbeats 4000000 in
set_option maxRecDepth 100000 in
theorem c_X7_run_1 (l : Launch) (X : sx_X) (ad : Nat → Nat) (sc : Nat → Int32) (av : Nat → Nat → Nat) (n J : Nat) (hn : n ≤ 9) (hJ : J ≤ n) (h1 : sc 1 = nI n) (h3 : sc 3 = nI (2 ^ J)) (hg : sG av) (hR : rTab av J (sc 2) (av 13) (av 14) (av 15) (av 16)) (s : Nat) (hs1 : 1 ≤ s) (hs : s < 2 ^ n) : sx_Mi l yX7_run wsX7_run { frames := 5, cells := 0, slots := 0, locals := 119 } X [.ref (ad 0), .int (nI s), .int (nI 1)] (sw X ad sc av) (fun r w => ∃ (v2 v3 : Int32) (A13 A14 A15 A16 : Nat → Nat), r = nI (A16 s % 4096) ∧ w = sw X ad (va_up (va_up sc 2 v2) 3 v3) (va_up (va_up (va_up (va_up av 13 A13) 14 A14) 15 A15) 16 A16) ∧ v3 = nI (2 ^ n) ∧ rTab av n v2 A13 A14 A15 A16) 0 0 := by
  refine sx_entI (own := RX7) (nL := 3) (by decide +kernel) rfl rfl (Nat.le_of_ble_eq_true rfl) ?_
  intro G hG hN hret
  show sx_W l X G 0 0 0 [(0, .ref (ad 0)), (1, .int (nI s)), (2, .int (nI 1))] [] (sw X ad sc av)
  have hp9 := sx_p9 hn
  have hn0 : ¬ n = 0 := fun q => by subst q; omega
  refine sx_aload_n (pc := 0) hG dX7_run_0 rfl 0 rfl ?_
  refine sx_get (pc := 1) (v2 := .ref (ad 1)) (ci := 7) hG i_X7_run_7 0 m_X7_run_f12 dX7_run_1 rfl (by decide) 0 rfl rfl rfl ?_
  refine sx_iload_n (pc := 4) hG dX7_run_4 rfl 1 rfl ?_
  refine sx_callViw (pc := 5) (n9 := 1) (As := [.int (nI s)]) (st := []) (b := (ad 1)) (ci := 5) hG (c_X5_holds l X ad sc av (nI s) n hn h1) gX7_run_X5_holds rfl (by decide +kernel) rfl 1 rfl rfl rfl dX7_run_5 ⟨rfl, rfl⟩ ⟨Nat.le_of_ble_eq_true rfl, Nat.le_of_ble_eq_true rfl⟩ (Nat.le_of_ble_eq_true rfl) ⟨Nat.le_of_ble_eq_true rfl, Nat.le_of_ble_eq_true rfl⟩ (fun r w1 hp => ?_)
  obtain ⟨hr9, hw9⟩ := hp
  rw [sx_isSet_1 hn hs1 hs] at hr9
  subst hr9
  refine sx_weq hw9 ?_
  refine sx_if_ne (pc := 8) (tgt := 13) (B := 1 = 0) hG dX7_run_8 (by decide) (sx_eq0 (by omega)) (fun c8 => ?_) (fun c8 => ?_)
  · skip
    refine sx_aload_n (pc := 13) hG dX7_run_13 rfl 0 rfl ?_
    refine sx_get (pc := 14) (v2 := .ref (ad 3)) (ci := 7) hG i_X7_run_7 2 m_X7_run_f26 dX7_run_14 rfl (by decide) 0 rfl rfl rfl ?_
    refine sx_aload_n (pc := 17) hG dX7_run_17 rfl 0 rfl ?_
    refine sx_get (pc := 18) (v2 := .ref (ad 1)) (ci := 7) hG i_X7_run_7 0 m_X7_run_f12 dX7_run_18 rfl (by decide) 0 rfl rfl rfl ?_
    refine sx_aload_n (pc := 21) hG dX7_run_21 rfl 0 rfl ?_
    refine sx_get (pc := 22) (v2 := .ref (ad 2)) (ci := 7) hG i_X7_run_7 1 m_X7_run_f19 dX7_run_22 rfl (by decide) 0 rfl rfl rfl ?_
    refine sx_callVvw (pc := 25) (n9 := 2) (As := [.ref (ad 1), .ref (ad 2)]) (st := []) (b := (ad 3)) (ci := 4) hG (c_X4_refresh l X ad sc av n J hn hJ h1 h3 hg hR) gX7_run_X4_refresh rfl (by decide +kernel) rfl 3 rfl rfl rfl dX7_run_25 ⟨rfl, rfl⟩ ⟨Nat.le_of_ble_eq_true rfl, Nat.le_of_ble_eq_true rfl⟩ (Nat.le_of_ble_eq_true rfl) ⟨Nat.le_of_ble_eq_true rfl, Nat.le_of_ble_eq_true rfl⟩ (fun w1 hp => ?_)
    obtain ⟨v2, v3, A13, A14, A15, A16, hw9, hv3, hR2⟩ := hp
    refine sx_weq hw9 ?_
    obtain ⟨r1, r2, r3, r4, r5, r6, r7⟩ := id hR2
    have hBb := rB_le hn r6 r7 hs1 hs
    refine sx_iload_n (pc := 28) hG dX7_run_28 rfl 2 rfl ?_
    refine sx_tswIn (pc := 29) (off := 43) (tgt := 72) hG dX7_run_29 (by decide) (by decide) (by decide +kernel) (by decide) ?_
    refine sx_aload_n (pc := 72) hG dX7_run_72 rfl 0 rfl ?_
    refine sx_get (pc := 73) (v2 := .ref (ad 3)) (ci := 7) hG i_X7_run_7 2 m_X7_run_f26 dX7_run_73 rfl (by decide) 0 rfl rfl rfl ?_
    refine sx_iload_n (pc := 76) hG dX7_run_76 rfl 1 rfl ?_
    refine sx_callViw (pc := 77) (n9 := 1) (As := [.int (nI s)]) (st := []) (b := (ad 3)) (ci := 4) hG (c_X4_costOf l X ad (va_up (va_up sc 2 v2) 3 v3) (va_up (va_up (va_up (va_up av 13 A13) 14 A14) 15 A15) 16 A16) s (by omega)) gX7_run_X4_costOf rfl (by decide +kernel) rfl 3 rfl rfl rfl dX7_run_77 ⟨rfl, rfl⟩ ⟨Nat.le_of_ble_eq_true rfl, Nat.le_of_ble_eq_true rfl⟩ (Nat.le_of_ble_eq_true rfl) ⟨Nat.le_of_ble_eq_true rfl, Nat.le_of_ble_eq_true rfl⟩ (fun r w1 hp => ?_)
    obtain ⟨hr9, hw9⟩ := hp
    have hr9 : r = (nI (A16 s)) := hr9
    subst hr9
    refine sx_weq hw9 ?_
    refine sx_callSiw (pc := 80) (n9 := 1) (As := [.int (nI (A16 s))]) (st := []) hG (c_X7_lengthOf l X (sw X ad (va_up (va_up sc 2 v2) 3 v3) (va_up (va_up (va_up (va_up av 13 A13) 14 A14) 15 A15) 16 A16)) (A16 s) (by omega)) gX7_run_X7_lengthOf rfl (by decide +kernel) rfl dX7_run_80 ⟨rfl, rfl⟩ ⟨Nat.le_of_ble_eq_true rfl, Nat.le_of_ble_eq_true rfl⟩ (Nat.le_of_ble_eq_true rfl) ⟨Nat.le_of_ble_eq_true rfl, Nat.le_of_ble_eq_true rfl⟩ (fun r w1 hp => ?_)
    obtain ⟨hr9, hw9⟩ := hp
    have hr9 : r = (nI (A16 s % 4096)) := hr9
    subst hr9
    refine sx_weq hw9 ?_
    exact hret _ _ _ _ dX7_run_83 rfl ⟨v2, v3, A13, A14, A15, A16, rfl, rfl, hv3, hR2⟩
  · skip
    exact absurd c8 (by decide)

set_option maxHeartbeats 4000000 in
set_option maxRecDepth 100000 in
theorem c_X7_run_2 (l : Launch) (X : sx_X) (ad : Nat → Nat) (sc : Nat → Int32) (av : Nat → Nat → Nat) (n J : Nat) (hn : n ≤ 9) (hJ : J ≤ n) (h1 : sc 1 = nI n) (h3 : sc 3 = nI (2 ^ J)) (hg : sG av) (hR : rTab av J (sc 2) (av 13) (av 14) (av 15) (av 16)) (s : Nat) (hs1 : 1 ≤ s) (hs : s < 2 ^ n) : sx_Mi l yX7_run wsX7_run { frames := 5, cells := 0, slots := 0, locals := 119 } X [.ref (ad 0), .int (nI s), .int (nI 2)] (sw X ad sc av) (fun r w => ∃ (v2 v3 : Int32) (A13 A14 A15 A16 : Nat → Nat), r = nI (cPr av (A16 s)) ∧ w = sw X ad (va_up (va_up sc 2 v2) 3 v3) (va_up (va_up (va_up (va_up av 13 A13) 14 A14) 15 A15) 16 A16) ∧ v3 = nI (2 ^ n) ∧ rTab av n v2 A13 A14 A15 A16) 0 0 := by
  refine sx_entI (own := RX7) (nL := 3) (by decide +kernel) rfl rfl (Nat.le_of_ble_eq_true rfl) ?_
  intro G hG hN hret
  show sx_W l X G 0 0 0 [(0, .ref (ad 0)), (1, .int (nI s)), (2, .int (nI 2))] [] (sw X ad sc av)
  have hp9 := sx_p9 hn
  have hn0 : ¬ n = 0 := fun q => by subst q; omega
  refine sx_aload_n (pc := 0) hG dX7_run_0 rfl 0 rfl ?_
  refine sx_get (pc := 1) (v2 := .ref (ad 1)) (ci := 7) hG i_X7_run_7 0 m_X7_run_f12 dX7_run_1 rfl (by decide) 0 rfl rfl rfl ?_
  refine sx_iload_n (pc := 4) hG dX7_run_4 rfl 1 rfl ?_
  refine sx_callViw (pc := 5) (n9 := 1) (As := [.int (nI s)]) (st := []) (b := (ad 1)) (ci := 5) hG (c_X5_holds l X ad sc av (nI s) n hn h1) gX7_run_X5_holds rfl (by decide +kernel) rfl 1 rfl rfl rfl dX7_run_5 ⟨rfl, rfl⟩ ⟨Nat.le_of_ble_eq_true rfl, Nat.le_of_ble_eq_true rfl⟩ (Nat.le_of_ble_eq_true rfl) ⟨Nat.le_of_ble_eq_true rfl, Nat.le_of_ble_eq_true rfl⟩ (fun r w1 hp => ?_)
  obtain ⟨hr9, hw9⟩ := hp
  rw [sx_isSet_1 hn hs1 hs] at hr9
  subst hr9
  refine sx_weq hw9 ?_
  refine sx_if_ne (pc := 8) (tgt := 13) (B := 1 = 0) hG dX7_run_8 (by decide) (sx_eq0 (by omega)) (fun c8 => ?_) (fun c8 => ?_)
  · skip
    refine sx_aload_n (pc := 13) hG dX7_run_13 rfl 0 rfl ?_
    refine sx_get (pc := 14) (v2 := .ref (ad 3)) (ci := 7) hG i_X7_run_7 2 m_X7_run_f26 dX7_run_14 rfl (by decide) 0 rfl rfl rfl ?_
    refine sx_aload_n (pc := 17) hG dX7_run_17 rfl 0 rfl ?_
    refine sx_get (pc := 18) (v2 := .ref (ad 1)) (ci := 7) hG i_X7_run_7 0 m_X7_run_f12 dX7_run_18 rfl (by decide) 0 rfl rfl rfl ?_
    refine sx_aload_n (pc := 21) hG dX7_run_21 rfl 0 rfl ?_
    refine sx_get (pc := 22) (v2 := .ref (ad 2)) (ci := 7) hG i_X7_run_7 1 m_X7_run_f19 dX7_run_22 rfl (by decide) 0 rfl rfl rfl ?_
    refine sx_callVvw (pc := 25) (n9 := 2) (As := [.ref (ad 1), .ref (ad 2)]) (st := []) (b := (ad 3)) (ci := 4) hG (c_X4_refresh l X ad sc av n J hn hJ h1 h3 hg hR) gX7_run_X4_refresh rfl (by decide +kernel) rfl 3 rfl rfl rfl dX7_run_25 ⟨rfl, rfl⟩ ⟨Nat.le_of_ble_eq_true rfl, Nat.le_of_ble_eq_true rfl⟩ (Nat.le_of_ble_eq_true rfl) ⟨Nat.le_of_ble_eq_true rfl, Nat.le_of_ble_eq_true rfl⟩ (fun w1 hp => ?_)
    obtain ⟨v2, v3, A13, A14, A15, A16, hw9, hv3, hR2⟩ := hp
    refine sx_weq hw9 ?_
    obtain ⟨r1, r2, r3, r4, r5, r6, r7⟩ := id hR2
    have hBb := rB_le hn r6 r7 hs1 hs
    refine sx_iload_n (pc := 28) hG dX7_run_28 rfl 2 rfl ?_
    refine sx_tswIn (pc := 29) (off := 55) (tgt := 84) hG dX7_run_29 (by decide) (by decide) (by decide +kernel) (by decide) ?_
    refine sx_aload_n (pc := 84) hG dX7_run_84 rfl 0 rfl ?_
    refine sx_get (pc := 85) (v2 := .ref (ad 2)) (ci := 7) hG i_X7_run_7 1 m_X7_run_f19 dX7_run_85 rfl (by decide) 0 rfl rfl rfl ?_
    refine sx_aload_n (pc := 88) hG dX7_run_88 rfl 0 rfl ?_
    refine sx_get (pc := 89) (v2 := .ref (ad 3)) (ci := 7) hG i_X7_run_7 2 m_X7_run_f26 dX7_run_89 rfl (by decide) 0 rfl rfl rfl ?_
    refine sx_iload_n (pc := 92) hG dX7_run_92 rfl 1 rfl ?_
    refine sx_callViw (pc := 93) (n9 := 1) (As := [.int (nI s)]) (st := [.ref (ad 2)]) (b := (ad 3)) (ci := 4) hG (c_X4_costOf l X ad (va_up (va_up sc 2 v2) 3 v3) (va_up (va_up (va_up (va_up av 13 A13) 14 A14) 15 A15) 16 A16) s (by omega)) gX7_run_X4_costOf rfl (by decide +kernel) rfl 3 rfl rfl rfl dX7_run_93 ⟨rfl, rfl⟩ ⟨Nat.le_of_ble_eq_true rfl, Nat.le_of_ble_eq_true rfl⟩ (Nat.le_of_ble_eq_true rfl) ⟨Nat.le_of_ble_eq_true rfl, Nat.le_of_ble_eq_true rfl⟩ (fun r w1 hp => ?_)
    obtain ⟨hr9, hw9⟩ := hp
    have hr9 : r = (nI (A16 s)) := hr9
    subst hr9
    refine sx_weq hw9 ?_
    refine sx_callViw (pc := 96) (n9 := 1) (As := [.int (nI (A16 s))]) (st := []) (b := (ad 2)) (ci := 3) hG (c_X3_ofRun l X ad (va_up (va_up sc 2 v2) 3 v3) (va_up (va_up (va_up (va_up av 13 A13) 14 A14) 15 A15) 16 A16) (A16 s) (by omega) ⟨hg.1, hg.2.1, hg.2.2.1, hg.2.2.2.1, hg.2.2.2.2.1, r3⟩) gX7_run_X3_ofRun rfl (by decide +kernel) rfl 2 rfl rfl rfl dX7_run_96 ⟨rfl, rfl⟩ ⟨Nat.le_of_ble_eq_true rfl, Nat.le_of_ble_eq_true rfl⟩ (Nat.le_of_ble_eq_true rfl) ⟨Nat.le_of_ble_eq_true rfl, Nat.le_of_ble_eq_true rfl⟩ (fun r w1 hp => ?_)
    obtain ⟨hr9, hw9⟩ := hp
    have hr9 : r = (nI (cPr av (A16 s))) := hr9
    subst hr9
    refine sx_weq hw9 ?_
    exact hret _ _ _ _ dX7_run_99 rfl ⟨v2, v3, A13, A14, A15, A16, rfl, rfl, hv3, hR2⟩
  · skip
    exact absurd c8 (by decide)

set_option maxHeartbeats 4000000 in
set_option maxRecDepth 100000 in
theorem c_X7_run_3 (l : Launch) (X : sx_X) (ad : Nat → Nat) (sc : Nat → Int32) (av : Nat → Nat → Nat) (n J : Nat) (hn : n ≤ 9) (hJ : J ≤ n) (h1 : sc 1 = nI n) (h3 : sc 3 = nI (2 ^ J)) (hg : sG av) (hR : rTab av J (sc 2) (av 13) (av 14) (av 15) (av 16)) (hW0 : ∀ j, av 17 j < 18) (s : Nat) (hs1 : 1 ≤ s) (hs : s < 2 ^ n) : sx_Mi l yX7_run wsX7_run { frames := 5, cells := 0, slots := 0, locals := 119 } X [.ref (ad 0), .int (nI s), .int (nI 3)] (sw X ad sc av) (fun r w => ∃ (v2 v3 : Int32) (A13 A14 A15 A16 Wy : Nat → Nat), r = nI (sx_sum (fun j => if A14 (Wy j * 18 + Wy (j + 1)) % 4096 = 0 then 0 else 1) (sx_pc s - 1)) ∧ w = sw X ad (va_up (va_up sc 2 v2) 3 v3) (va_up (va_up (va_up (va_up (va_up av 13 A13) 14 A14) 15 A15) 16 A16) 17 Wy) ∧ v3 = nI (2 ^ n) ∧ rTab av n v2 A13 A14 A15 A16 ∧ (∀ j, Wy j < 18) ∧ cPth (sLk av) A15 A16 n s Wy (sx_pc s) 0) 0 0 := by
  refine sx_entI (own := RX7) (nL := 3) (by decide +kernel) rfl rfl (Nat.le_of_ble_eq_true rfl) ?_
  intro G hG hN hret
  show sx_W l X G 0 0 0 [(0, .ref (ad 0)), (1, .int (nI s)), (2, .int (nI 3))] [] (sw X ad sc av)
  have hp9 := sx_p9 hn
  have hn0 : ¬ n = 0 := fun q => by subst q; omega
  refine sx_aload_n (pc := 0) hG dX7_run_0 rfl 0 rfl ?_
  refine sx_get (pc := 1) (v2 := .ref (ad 1)) (ci := 7) hG i_X7_run_7 0 m_X7_run_f12 dX7_run_1 rfl (by decide) 0 rfl rfl rfl ?_
  refine sx_iload_n (pc := 4) hG dX7_run_4 rfl 1 rfl ?_
  refine sx_callViw (pc := 5) (n9 := 1) (As := [.int (nI s)]) (st := []) (b := (ad 1)) (ci := 5) hG (c_X5_holds l X ad sc av (nI s) n hn h1) gX7_run_X5_holds rfl (by decide +kernel) rfl 1 rfl rfl rfl dX7_run_5 ⟨rfl, rfl⟩ ⟨Nat.le_of_ble_eq_true rfl, Nat.le_of_ble_eq_true rfl⟩ (Nat.le_of_ble_eq_true rfl) ⟨Nat.le_of_ble_eq_true rfl, Nat.le_of_ble_eq_true rfl⟩ (fun r w1 hp => ?_)
  obtain ⟨hr9, hw9⟩ := hp
  rw [sx_isSet_1 hn hs1 hs] at hr9
  subst hr9
  refine sx_weq hw9 ?_
  refine sx_if_ne (pc := 8) (tgt := 13) (B := 1 = 0) hG dX7_run_8 (by decide) (sx_eq0 (by omega)) (fun c8 => ?_) (fun c8 => ?_)
  · skip
    refine sx_aload_n (pc := 13) hG dX7_run_13 rfl 0 rfl ?_
    refine sx_get (pc := 14) (v2 := .ref (ad 3)) (ci := 7) hG i_X7_run_7 2 m_X7_run_f26 dX7_run_14 rfl (by decide) 0 rfl rfl rfl ?_
    refine sx_aload_n (pc := 17) hG dX7_run_17 rfl 0 rfl ?_
    refine sx_get (pc := 18) (v2 := .ref (ad 1)) (ci := 7) hG i_X7_run_7 0 m_X7_run_f12 dX7_run_18 rfl (by decide) 0 rfl rfl rfl ?_
    refine sx_aload_n (pc := 21) hG dX7_run_21 rfl 0 rfl ?_
    refine sx_get (pc := 22) (v2 := .ref (ad 2)) (ci := 7) hG i_X7_run_7 1 m_X7_run_f19 dX7_run_22 rfl (by decide) 0 rfl rfl rfl ?_
    refine sx_callVvw (pc := 25) (n9 := 2) (As := [.ref (ad 1), .ref (ad 2)]) (st := []) (b := (ad 3)) (ci := 4) hG (c_X4_refresh l X ad sc av n J hn hJ h1 h3 hg hR) gX7_run_X4_refresh rfl (by decide +kernel) rfl 3 rfl rfl rfl dX7_run_25 ⟨rfl, rfl⟩ ⟨Nat.le_of_ble_eq_true rfl, Nat.le_of_ble_eq_true rfl⟩ (Nat.le_of_ble_eq_true rfl) ⟨Nat.le_of_ble_eq_true rfl, Nat.le_of_ble_eq_true rfl⟩ (fun w1 hp => ?_)
    obtain ⟨v2, v3, A13, A14, A15, A16, hw9, hv3, hR2⟩ := hp
    refine sx_weq hw9 ?_
    obtain ⟨r1, r2, r3, r4, r5, r6, r7⟩ := id hR2
    have hv2 : v2 = nI (2 * n) := r1.resolve_left hn0
    refine sx_iload_n (pc := 28) hG dX7_run_28 rfl 2 rfl ?_
    refine sx_tswIn (pc := 29) (off := 71) (tgt := 100) hG dX7_run_29 (by decide) (by decide) (by decide +kernel) (by decide) ?_
    refine sx_aload_n (pc := 100) hG dX7_run_100 rfl 0 rfl ?_
    refine sx_get (pc := 101) (v2 := .ref (ad 3)) (ci := 7) hG i_X7_run_7 2 m_X7_run_f26 dX7_run_101 rfl (by decide) 0 rfl rfl rfl ?_
    refine sx_iload_n (pc := 104) hG dX7_run_104 rfl 1 rfl ?_
    refine sx_callViw (pc := 105) (n9 := 1) (As := [.int (nI s)]) (st := []) (b := (ad 3)) (ci := 4) hG (c_X4_jumpsOf l X ad (va_up (va_up sc 2 v2) 3 v3) (va_up (va_up (va_up (va_up av 13 A13) 14 A14) 15 A15) 16 A16) n hn hv2 (av 11) r2 hg.2.2.2.1 (sLk av) r4 (sLk_le hg) r5 r6 r7 hW0 s hs1 hs) gX7_run_X4_jumpsOf rfl (by decide +kernel) rfl 3 rfl rfl rfl dX7_run_105 ⟨rfl, rfl⟩ ⟨Nat.le_of_ble_eq_true rfl, Nat.le_of_ble_eq_true rfl⟩ (Nat.le_of_ble_eq_true rfl) ⟨Nat.le_of_ble_eq_true rfl, Nat.le_of_ble_eq_true rfl⟩ (fun r w1 hp => ?_)
    obtain ⟨Wy, hr9, hw9, hW, hpth⟩ := hp
    subst hr9
    refine sx_weq hw9 ?_
    have hpth : cPth (sLk av) A15 A16 n s Wy (sx_pc s) 0 := hpth
    refine sx_weq (w2 := (sw X ad (va_up (va_up sc 2 v2) 3 v3) (va_up (va_up (va_up (va_up (va_up av 13 A13) 14 A14) 15 A15) 16 A16) 17 Wy))) rfl ?_
    exact hret _ _ _ _ dX7_run_108 rfl ⟨v2, v3, A13, A14, A15, A16, Wy, rfl, rfl, hv3, hR2, hW, hpth⟩
  · skip
    exact absurd c8 (by decide)

set_option maxHeartbeats 4000000 in
set_option maxRecDepth 100000 in
theorem c_X7_run_no (l : Launch) (X : sx_X) (ad : Nat → Nat) (sc : Nat → Int32) (av : Nat → Nat → Nat) (n J : Nat) (hn : n ≤ 9) (hJ : J ≤ n) (h1 : sc 1 = nI n) (h3 : sc 3 = nI (2 ^ J)) (hg : sG av) (hR : rTab av J (sc 2) (av 13) (av 14) (av 15) (av 16)) (x a : Int32) (hno : sx_isSet n x = 0) : sx_Mi l yX7_run wsX7_run { frames := 2, cells := 0, slots := 0, locals := 41 } X [.ref (ad 0), .int x, .int a] (sw X ad sc av) (fun r w => r = -1 ∧ w = sw X ad sc av) 0 0 := by
  refine sx_entI (own := RX7) (nL := 3) (by decide +kernel) rfl rfl (Nat.le_of_ble_eq_true rfl) ?_
  intro G hG hN hret
  show sx_W l X G 0 0 0 [(0, .ref (ad 0)), (1, .int x), (2, .int a)] [] (sw X ad sc av)
  refine sx_aload_n (pc := 0) hG dX7_run_0 rfl 0 rfl ?_
  refine sx_get (pc := 1) (v2 := .ref (ad 1)) (ci := 7) hG i_X7_run_7 0 m_X7_run_f12 dX7_run_1 rfl (by decide) 0 rfl rfl rfl ?_
  refine sx_iload_n (pc := 4) hG dX7_run_4 rfl 1 rfl ?_
  refine sx_callViw (pc := 5) (n9 := 1) (As := [.int x]) (st := []) (b := (ad 1)) (ci := 5) hG (c_X5_holds l X ad sc av x n hn h1) gX7_run_X5_holds rfl (by decide +kernel) rfl 1 rfl rfl rfl dX7_run_5 ⟨rfl, rfl⟩ ⟨Nat.le_of_ble_eq_true rfl, Nat.le_of_ble_eq_true rfl⟩ (Nat.le_of_ble_eq_true rfl) ⟨Nat.le_of_ble_eq_true rfl, Nat.le_of_ble_eq_true rfl⟩ (fun r w1 hp => ?_)
  obtain ⟨hr9, hw9⟩ := hp
  rw [hno] at hr9
  subst hr9
  refine sx_weq hw9 ?_
  refine sx_if_ne (pc := 8) (tgt := 13) (B := 0 = 0) hG dX7_run_8 (by decide) (sx_eq0 (by omega)) (fun c8 => ?_) (fun c8 => ?_)
  · skip
    exact absurd (by decide) c8
  · skip
    refine sx_iconst (pc := 11) (v := (-1)) hG dX7_run_11 (by decide +kernel) ?_
    exact hret _ _ _ _ dX7_run_12 rfl ⟨rfl, rfl⟩

set_option maxHeartbeats 4000000 in
set_option maxRecDepth 100000 in
theorem c_X7_run_o (l : Launch) (X : sx_X) (ad : Nat → Nat) (sc : Nat → Int32) (av : Nat → Nat → Nat) (n J : Nat) (hn : n ≤ 9) (hJ : J ≤ n) (h1 : sc 1 = nI n) (h3 : sc 3 = nI (2 ^ J)) (hg : sG av) (hR : rTab av J (sc 2) (av 13) (av 14) (av 15) (av 16)) (s : Nat) (hs1 : 1 ≤ s) (hs : s < 2 ^ n) (a : Int32) (ha : a.toInt < 0 ∨ 3 < a.toInt) : sx_Mi l yX7_run wsX7_run { frames := 5, cells := 0, slots := 0, locals := 119 } X [.ref (ad 0), .int (nI s), .int a] (sw X ad sc av) (fun r w => ∃ (v2 v3 : Int32) (A13 A14 A15 A16 : Nat → Nat), r = -1 ∧ w = sw X ad (va_up (va_up sc 2 v2) 3 v3) (va_up (va_up (va_up (va_up av 13 A13) 14 A14) 15 A15) 16 A16) ∧ v3 = nI (2 ^ n) ∧ rTab av n v2 A13 A14 A15 A16) 0 0 := by
  refine sx_entI (own := RX7) (nL := 3) (by decide +kernel) rfl rfl (Nat.le_of_ble_eq_true rfl) ?_
  intro G hG hN hret
  show sx_W l X G 0 0 0 [(0, .ref (ad 0)), (1, .int (nI s)), (2, .int a)] [] (sw X ad sc av)
  have hp9 := sx_p9 hn
  have hn0 : ¬ n = 0 := fun q => by subst q; omega
  refine sx_aload_n (pc := 0) hG dX7_run_0 rfl 0 rfl ?_
  refine sx_get (pc := 1) (v2 := .ref (ad 1)) (ci := 7) hG i_X7_run_7 0 m_X7_run_f12 dX7_run_1 rfl (by decide) 0 rfl rfl rfl ?_
  refine sx_iload_n (pc := 4) hG dX7_run_4 rfl 1 rfl ?_
  refine sx_callViw (pc := 5) (n9 := 1) (As := [.int (nI s)]) (st := []) (b := (ad 1)) (ci := 5) hG (c_X5_holds l X ad sc av (nI s) n hn h1) gX7_run_X5_holds rfl (by decide +kernel) rfl 1 rfl rfl rfl dX7_run_5 ⟨rfl, rfl⟩ ⟨Nat.le_of_ble_eq_true rfl, Nat.le_of_ble_eq_true rfl⟩ (Nat.le_of_ble_eq_true rfl) ⟨Nat.le_of_ble_eq_true rfl, Nat.le_of_ble_eq_true rfl⟩ (fun r w1 hp => ?_)
  obtain ⟨hr9, hw9⟩ := hp
  rw [sx_isSet_1 hn hs1 hs] at hr9
  subst hr9
  refine sx_weq hw9 ?_
  refine sx_if_ne (pc := 8) (tgt := 13) (B := 1 = 0) hG dX7_run_8 (by decide) (sx_eq0 (by omega)) (fun c8 => ?_) (fun c8 => ?_)
  · skip
    refine sx_aload_n (pc := 13) hG dX7_run_13 rfl 0 rfl ?_
    refine sx_get (pc := 14) (v2 := .ref (ad 3)) (ci := 7) hG i_X7_run_7 2 m_X7_run_f26 dX7_run_14 rfl (by decide) 0 rfl rfl rfl ?_
    refine sx_aload_n (pc := 17) hG dX7_run_17 rfl 0 rfl ?_
    refine sx_get (pc := 18) (v2 := .ref (ad 1)) (ci := 7) hG i_X7_run_7 0 m_X7_run_f12 dX7_run_18 rfl (by decide) 0 rfl rfl rfl ?_
    refine sx_aload_n (pc := 21) hG dX7_run_21 rfl 0 rfl ?_
    refine sx_get (pc := 22) (v2 := .ref (ad 2)) (ci := 7) hG i_X7_run_7 1 m_X7_run_f19 dX7_run_22 rfl (by decide) 0 rfl rfl rfl ?_
    refine sx_callVvw (pc := 25) (n9 := 2) (As := [.ref (ad 1), .ref (ad 2)]) (st := []) (b := (ad 3)) (ci := 4) hG (c_X4_refresh l X ad sc av n J hn hJ h1 h3 hg hR) gX7_run_X4_refresh rfl (by decide +kernel) rfl 3 rfl rfl rfl dX7_run_25 ⟨rfl, rfl⟩ ⟨Nat.le_of_ble_eq_true rfl, Nat.le_of_ble_eq_true rfl⟩ (Nat.le_of_ble_eq_true rfl) ⟨Nat.le_of_ble_eq_true rfl, Nat.le_of_ble_eq_true rfl⟩ (fun w1 hp => ?_)
    obtain ⟨v2, v3, A13, A14, A15, A16, hw9, hv3, hR2⟩ := hp
    refine sx_weq hw9 ?_
    obtain ⟨r1, r2, r3, r4, r5, r6, r7⟩ := id hR2
    refine sx_iload_n (pc := 28) hG dX7_run_28 rfl 2 rfl ?_
    refine sx_tswOut (pc := 29) (tgt := 109) hG dX7_run_29 ha (by decide) ?_
    refine sx_iconst (pc := 109) (v := (-1)) hG dX7_run_109 (by decide +kernel) ?_
    exact hret _ _ _ _ dX7_run_110 rfl ⟨v2, v3, A13, A14, A15, A16, rfl, rfl, hv3, hR2⟩
  · skip
    exact absurd c8 (by decide)

theorem i_X7_step_7 : ∀ w ∈ u_ws RX7 TX7 8, w ∈ wsX7_step := by decide +kernel
theorem m_X7_step_f12 : Cond.fieldLink RX7 12 (TX7 0).1 (TX7 0).2.1 (TX7 0).2.2.1 ∈ wsX7_step := by decide +kernel
set_option maxHeartbeats 4000000 in
set_option maxRecDepth 100000 in
theorem c_X7_step_no (l : Launch) (X : sx_X) (ad : Nat → Nat) (sc : Nat → Int32) (av : Nat → Nat → Nat) (n J : Nat) (hn : n ≤ 9) (hJ : J ≤ n) (h1 : sc 1 = nI n) (h3 : sc 3 = nI (2 ^ J)) (hg : sG av) (hR : rTab av J (sc 2) (av 13) (av 14) (av 15) (av 16)) (x a : Int32) (hno : sx_isSet n x = 0) : sx_Mi l yX7_step wsX7_step { frames := 2, cells := 0, slots := 0, locals := 41 } X [.ref (ad 0), .int x, .int a] (sw X ad sc av) (fun r w => r = -1 ∧ w = sw X ad sc av) 0 0 := by
  refine sx_entI (own := RX7) (nL := 3) (by decide +kernel) rfl rfl (Nat.le_of_ble_eq_true rfl) ?_
  intro G hG hN hret
  show sx_W l X G 0 0 0 [(0, .ref (ad 0)), (1, .int x), (2, .int a)] [] (sw X ad sc av)
  refine sx_aload_n (pc := 0) hG dX7_step_0 rfl 0 rfl ?_
  refine sx_get (pc := 1) (v2 := .ref (ad 1)) (ci := 7) hG i_X7_step_7 0 m_X7_step_f12 dX7_step_1 rfl (by decide) 0 rfl rfl rfl ?_
  refine sx_iload_n (pc := 4) hG dX7_step_4 rfl 1 rfl ?_
  refine sx_callViw (pc := 5) (n9 := 1) (As := [.int x]) (st := []) (b := (ad 1)) (ci := 5) hG (c_X5_holds l X ad sc av x n hn h1) gX7_step_X5_holds rfl (by decide +kernel) rfl 1 rfl rfl rfl dX7_step_5 ⟨rfl, rfl⟩ ⟨Nat.le_of_ble_eq_true rfl, Nat.le_of_ble_eq_true rfl⟩ (Nat.le_of_ble_eq_true rfl) ⟨Nat.le_of_ble_eq_true rfl, Nat.le_of_ble_eq_true rfl⟩ (fun r w1 hp => ?_)
  obtain ⟨hr9, hw9⟩ := hp
  rw [hno] at hr9
  subst hr9
  refine sx_weq hw9 ?_
  refine sx_if_ne (pc := 8) (tgt := 13) (B := 0 = 0) hG dX7_step_8 (by decide) (sx_eq0 (by omega)) (fun c8 => ?_) (fun c8 => ?_)
  · skip
    exact absurd (by decide) c8
  · skip
    refine sx_iconst (pc := 11) (v := (-1)) hG dX7_step_11 (by decide +kernel) ?_
    exact hret _ _ _ _ dX7_step_12 rfl ⟨rfl, rfl⟩

theorem m_X7_step_f26 : Cond.fieldLink RX7 26 (TX7 2).1 (TX7 2).2.1 (TX7 2).2.2.1 ∈ wsX7_step := by decide +kernel
theorem m_X7_step_f19 : Cond.fieldLink RX7 19 (TX7 1).1 (TX7 1).2.1 (TX7 1).2.2.1 ∈ wsX7_step := by decide +kernel
set_option maxHeartbeats 4000000 in
set_option maxRecDepth 100000 in
theorem c_X7_step_k (l : Launch) (X : sx_X) (ad : Nat → Nat) (sc : Nat → Int32) (av : Nat → Nat → Nat) (n J : Nat) (hn : n ≤ 9) (hJ : J ≤ n) (h1 : sc 1 = nI n) (h3 : sc 3 = nI (2 ^ J)) (hg : sG av) (hR : rTab av J (sc 2) (av 13) (av 14) (av 15) (av 16)) (hW0 : ∀ j, av 17 j < 18) (s : Nat) (hs1 : 1 ≤ s) (hs : s < 2 ^ n) (k : Nat) (hk : k < 2 ^ 31) : sx_Mi l yX7_step wsX7_step { frames := 5, cells := 0, slots := 0, locals := 119 } X [.ref (ad 0), .int (nI s), .int (nI k)] (sw X ad sc av) (fun r w => ∃ (v2 v3 : Int32) (A13 A14 A15 A16 Wy : Nat → Nat), (r = if k < sx_pc s then nI (Wy k) else -1) ∧ w = sw X ad (va_up (va_up sc 2 v2) 3 v3) (va_up (va_up (va_up (va_up (va_up av 13 A13) 14 A14) 15 A15) 16 A16) 17 Wy) ∧ v3 = nI (2 ^ n) ∧ rTab av n v2 A13 A14 A15 A16 ∧ (∀ j, Wy j < 18) ∧ cPth (sLk av) A15 A16 n s Wy (sx_pc s) 0) 0 0 := by
  refine sx_entI (own := RX7) (nL := 3) (by decide +kernel) rfl rfl (Nat.le_of_ble_eq_true rfl) ?_
  intro G hG hN hret
  show sx_W l X G 0 0 0 [(0, .ref (ad 0)), (1, .int (nI s)), (2, .int (nI k))] [] (sw X ad sc av)
  have hp9 := sx_p9 hn
  have hn0 : ¬ n = 0 := fun q => by subst q; omega
  refine sx_aload_n (pc := 0) hG dX7_step_0 rfl 0 rfl ?_
  refine sx_get (pc := 1) (v2 := .ref (ad 1)) (ci := 7) hG i_X7_step_7 0 m_X7_step_f12 dX7_step_1 rfl (by decide) 0 rfl rfl rfl ?_
  refine sx_iload_n (pc := 4) hG dX7_step_4 rfl 1 rfl ?_
  refine sx_callViw (pc := 5) (n9 := 1) (As := [.int (nI s)]) (st := []) (b := (ad 1)) (ci := 5) hG (c_X5_holds l X ad sc av (nI s) n hn h1) gX7_step_X5_holds rfl (by decide +kernel) rfl 1 rfl rfl rfl dX7_step_5 ⟨rfl, rfl⟩ ⟨Nat.le_of_ble_eq_true rfl, Nat.le_of_ble_eq_true rfl⟩ (Nat.le_of_ble_eq_true rfl) ⟨Nat.le_of_ble_eq_true rfl, Nat.le_of_ble_eq_true rfl⟩ (fun r w1 hp => ?_)
  obtain ⟨hr9, hw9⟩ := hp
  rw [sx_isSet_1 hn hs1 hs] at hr9
  subst hr9
  refine sx_weq hw9 ?_
  refine sx_if_ne (pc := 8) (tgt := 13) (B := 1 = 0) hG dX7_step_8 (by decide) (sx_eq0 (by omega)) (fun c8 => ?_) (fun c8 => ?_)
  · skip
    refine sx_aload_n (pc := 13) hG dX7_step_13 rfl 0 rfl ?_
    refine sx_get (pc := 14) (v2 := .ref (ad 3)) (ci := 7) hG i_X7_step_7 2 m_X7_step_f26 dX7_step_14 rfl (by decide) 0 rfl rfl rfl ?_
    refine sx_aload_n (pc := 17) hG dX7_step_17 rfl 0 rfl ?_
    refine sx_get (pc := 18) (v2 := .ref (ad 1)) (ci := 7) hG i_X7_step_7 0 m_X7_step_f12 dX7_step_18 rfl (by decide) 0 rfl rfl rfl ?_
    refine sx_aload_n (pc := 21) hG dX7_step_21 rfl 0 rfl ?_
    refine sx_get (pc := 22) (v2 := .ref (ad 2)) (ci := 7) hG i_X7_step_7 1 m_X7_step_f19 dX7_step_22 rfl (by decide) 0 rfl rfl rfl ?_
    refine sx_callVvw (pc := 25) (n9 := 2) (As := [.ref (ad 1), .ref (ad 2)]) (st := []) (b := (ad 3)) (ci := 4) hG (c_X4_refresh l X ad sc av n J hn hJ h1 h3 hg hR) gX7_step_X4_refresh rfl (by decide +kernel) rfl 3 rfl rfl rfl dX7_step_25 ⟨rfl, rfl⟩ ⟨Nat.le_of_ble_eq_true rfl, Nat.le_of_ble_eq_true rfl⟩ (Nat.le_of_ble_eq_true rfl) ⟨Nat.le_of_ble_eq_true rfl, Nat.le_of_ble_eq_true rfl⟩ (fun w1 hp => ?_)
    obtain ⟨v2, v3, A13, A14, A15, A16, hw9, hv3, hR2⟩ := hp
    refine sx_weq hw9 ?_
    obtain ⟨r1, r2, r3, r4, r5, r6, r7⟩ := id hR2
    have hv2 : v2 = nI (2 * n) := r1.resolve_left hn0
    refine sx_aload_n (pc := 28) hG dX7_step_28 rfl 0 rfl ?_
    refine sx_get (pc := 29) (v2 := .ref (ad 3)) (ci := 7) hG i_X7_step_7 2 m_X7_step_f26 dX7_step_29 rfl (by decide) 0 rfl rfl rfl ?_
    refine sx_iload_n (pc := 32) hG dX7_step_32 rfl 1 rfl ?_
    refine sx_iload_n (pc := 33) hG dX7_step_33 rfl 2 rfl ?_
    refine sx_callViw (pc := 34) (n9 := 2) (As := [.int (nI s), .int (nI k)]) (st := []) (b := (ad 3)) (ci := 4) hG (c_X4_stepOf_k l X ad (va_up (va_up sc 2 v2) 3 v3) (va_up (va_up (va_up (va_up av 13 A13) 14 A14) 15 A15) 16 A16) n hn hv2 (av 11) r2 hg.2.2.2.1 (sLk av) r4 (sLk_le hg) r5 r6 r7 hW0 s hs1 hs k hk) gX7_step_X4_stepOf rfl (by decide +kernel) rfl 3 rfl rfl rfl dX7_step_34 ⟨rfl, rfl⟩ ⟨Nat.le_of_ble_eq_true rfl, Nat.le_of_ble_eq_true rfl⟩ (Nat.le_of_ble_eq_true rfl) ⟨Nat.le_of_ble_eq_true rfl, Nat.le_of_ble_eq_true rfl⟩ (fun r w1 hp => ?_)
    obtain ⟨Wy, hr9, hw9, hW, hpth⟩ := hp
    subst hr9
    refine sx_weq hw9 ?_
    have hpth : cPth (sLk av) A15 A16 n s Wy (sx_pc s) 0 := hpth
    refine sx_weq (w2 := (sw X ad (va_up (va_up sc 2 v2) 3 v3) (va_up (va_up (va_up (va_up (va_up av 13 A13) 14 A14) 15 A15) 16 A16) 17 Wy))) rfl ?_
    exact hret _ _ _ _ dX7_step_37 rfl ⟨v2, v3, A13, A14, A15, A16, Wy, rfl, rfl, hv3, hR2, hW, hpth⟩
  · skip
    exact absurd c8 (by decide)

set_option maxHeartbeats 4000000 in
set_option maxRecDepth 100000 in
theorem c_X7_step_n (l : Launch) (X : sx_X) (ad : Nat → Nat) (sc : Nat → Int32) (av : Nat → Nat → Nat) (n J : Nat) (hn : n ≤ 9) (hJ : J ≤ n) (h1 : sc 1 = nI n) (h3 : sc 3 = nI (2 ^ J)) (hg : sG av) (hR : rTab av J (sc 2) (av 13) (av 14) (av 15) (av 16)) (hW0 : ∀ j, av 17 j < 18) (s : Nat) (hs1 : 1 ≤ s) (hs : s < 2 ^ n) (k : Int32) (hk : k.toInt < 0) : sx_Mi l yX7_step wsX7_step { frames := 5, cells := 0, slots := 0, locals := 119 } X [.ref (ad 0), .int (nI s), .int k] (sw X ad sc av) (fun r w => ∃ (v2 v3 : Int32) (A13 A14 A15 A16 Wy : Nat → Nat), r = -1 ∧ w = sw X ad (va_up (va_up sc 2 v2) 3 v3) (va_up (va_up (va_up (va_up (va_up av 13 A13) 14 A14) 15 A15) 16 A16) 17 Wy) ∧ v3 = nI (2 ^ n) ∧ rTab av n v2 A13 A14 A15 A16 ∧ (∀ j, Wy j < 18) ∧ cPth (sLk av) A15 A16 n s Wy (sx_pc s) 0) 0 0 := by
  refine sx_entI (own := RX7) (nL := 3) (by decide +kernel) rfl rfl (Nat.le_of_ble_eq_true rfl) ?_
  intro G hG hN hret
  show sx_W l X G 0 0 0 [(0, .ref (ad 0)), (1, .int (nI s)), (2, .int k)] [] (sw X ad sc av)
  have hp9 := sx_p9 hn
  have hn0 : ¬ n = 0 := fun q => by subst q; omega
  refine sx_aload_n (pc := 0) hG dX7_step_0 rfl 0 rfl ?_
  refine sx_get (pc := 1) (v2 := .ref (ad 1)) (ci := 7) hG i_X7_step_7 0 m_X7_step_f12 dX7_step_1 rfl (by decide) 0 rfl rfl rfl ?_
  refine sx_iload_n (pc := 4) hG dX7_step_4 rfl 1 rfl ?_
  refine sx_callViw (pc := 5) (n9 := 1) (As := [.int (nI s)]) (st := []) (b := (ad 1)) (ci := 5) hG (c_X5_holds l X ad sc av (nI s) n hn h1) gX7_step_X5_holds rfl (by decide +kernel) rfl 1 rfl rfl rfl dX7_step_5 ⟨rfl, rfl⟩ ⟨Nat.le_of_ble_eq_true rfl, Nat.le_of_ble_eq_true rfl⟩ (Nat.le_of_ble_eq_true rfl) ⟨Nat.le_of_ble_eq_true rfl, Nat.le_of_ble_eq_true rfl⟩ (fun r w1 hp => ?_)
  obtain ⟨hr9, hw9⟩ := hp
  rw [sx_isSet_1 hn hs1 hs] at hr9
  subst hr9
  refine sx_weq hw9 ?_
  refine sx_if_ne (pc := 8) (tgt := 13) (B := 1 = 0) hG dX7_step_8 (by decide) (sx_eq0 (by omega)) (fun c8 => ?_) (fun c8 => ?_)
  · skip
    refine sx_aload_n (pc := 13) hG dX7_step_13 rfl 0 rfl ?_
    refine sx_get (pc := 14) (v2 := .ref (ad 3)) (ci := 7) hG i_X7_step_7 2 m_X7_step_f26 dX7_step_14 rfl (by decide) 0 rfl rfl rfl ?_
    refine sx_aload_n (pc := 17) hG dX7_step_17 rfl 0 rfl ?_
    refine sx_get (pc := 18) (v2 := .ref (ad 1)) (ci := 7) hG i_X7_step_7 0 m_X7_step_f12 dX7_step_18 rfl (by decide) 0 rfl rfl rfl ?_
    refine sx_aload_n (pc := 21) hG dX7_step_21 rfl 0 rfl ?_
    refine sx_get (pc := 22) (v2 := .ref (ad 2)) (ci := 7) hG i_X7_step_7 1 m_X7_step_f19 dX7_step_22 rfl (by decide) 0 rfl rfl rfl ?_
    refine sx_callVvw (pc := 25) (n9 := 2) (As := [.ref (ad 1), .ref (ad 2)]) (st := []) (b := (ad 3)) (ci := 4) hG (c_X4_refresh l X ad sc av n J hn hJ h1 h3 hg hR) gX7_step_X4_refresh rfl (by decide +kernel) rfl 3 rfl rfl rfl dX7_step_25 ⟨rfl, rfl⟩ ⟨Nat.le_of_ble_eq_true rfl, Nat.le_of_ble_eq_true rfl⟩ (Nat.le_of_ble_eq_true rfl) ⟨Nat.le_of_ble_eq_true rfl, Nat.le_of_ble_eq_true rfl⟩ (fun w1 hp => ?_)
    obtain ⟨v2, v3, A13, A14, A15, A16, hw9, hv3, hR2⟩ := hp
    refine sx_weq hw9 ?_
    obtain ⟨r1, r2, r3, r4, r5, r6, r7⟩ := id hR2
    have hv2 : v2 = nI (2 * n) := r1.resolve_left hn0
    refine sx_aload_n (pc := 28) hG dX7_step_28 rfl 0 rfl ?_
    refine sx_get (pc := 29) (v2 := .ref (ad 3)) (ci := 7) hG i_X7_step_7 2 m_X7_step_f26 dX7_step_29 rfl (by decide) 0 rfl rfl rfl ?_
    refine sx_iload_n (pc := 32) hG dX7_step_32 rfl 1 rfl ?_
    refine sx_iload_n (pc := 33) hG dX7_step_33 rfl 2 rfl ?_
    refine sx_callViw (pc := 34) (n9 := 2) (As := [.int (nI s), .int k]) (st := []) (b := (ad 3)) (ci := 4) hG (c_X4_stepOf_n l X ad (va_up (va_up sc 2 v2) 3 v3) (va_up (va_up (va_up (va_up av 13 A13) 14 A14) 15 A15) 16 A16) n hn hv2 (av 11) r2 hg.2.2.2.1 (sLk av) r4 (sLk_le hg) r5 r6 r7 hW0 s hs1 hs k hk) gX7_step_X4_stepOf rfl (by decide +kernel) rfl 3 rfl rfl rfl dX7_step_34 ⟨rfl, rfl⟩ ⟨Nat.le_of_ble_eq_true rfl, Nat.le_of_ble_eq_true rfl⟩ (Nat.le_of_ble_eq_true rfl) ⟨Nat.le_of_ble_eq_true rfl, Nat.le_of_ble_eq_true rfl⟩ (fun r w1 hp => ?_)
    obtain ⟨Wy, hr9, hw9, hW, hpth⟩ := hp
    subst hr9
    refine sx_weq hw9 ?_
    have hpth : cPth (sLk av) A15 A16 n s Wy (sx_pc s) 0 := hpth
    refine sx_weq (w2 := (sw X ad (va_up (va_up sc 2 v2) 3 v3) (va_up (va_up (va_up (va_up (va_up av 13 A13) 14 A14) 15 A15) 16 A16) 17 Wy))) rfl ?_
    exact hret _ _ _ _ dX7_step_37 rfl ⟨v2, v3, A13, A14, A15, A16, Wy, rfl, rfl, hv3, hR2, hW, hpth⟩
  · skip
    exact absurd c8 (by decide)

theorem m_X7_feed_c144 : Cond.constant RX7 144 (99999) ∈ wsX7_feed := by decide +kernel
theorem i_X7_feed_7 : ∀ w ∈ u_ws RX7 TX7 8, w ∈ wsX7_feed := by decide +kernel
theorem m_X7_feed_f40 : Cond.fieldLink RX7 40 (TX7 4).1 (TX7 4).2.1 (TX7 4).2.2.1 ∈ wsX7_feed := by decide +kernel
set_option maxHeartbeats 4000000 in
set_option maxRecDepth 100000 in
theorem c_X7_feed_n (l : Launch) (X : sx_X) (ad : Nat → Nat) (sc : Nat → Int32) (av : Nat → Nat → Nat) (a b : Int32) (h5 : sc 5 = -1) : sx_Mi l yX7_feed wsX7_feed { frames := 1, cells := 0, slots := 0, locals := 20 } X [.ref (ad 0), .int a, .int b] (sw X ad sc av) (fun r w => r = -1 ∧ w = sw X ad sc av) 0 0 := by
  refine sx_entI (own := RX7) (nL := 3) (by decide +kernel) rfl rfl (Nat.le_of_ble_eq_true rfl) ?_
  intro G hG hN hret
  show sx_W l X G 0 0 0 [(0, .ref (ad 0)), (1, .int a), (2, .int b)] [] (sw X ad sc av)
  refine sx_iload_n (pc := 0) hG dX7_feed_0 rfl 1 rfl ?_
  refine sx_if_lt (pc := 1) (tgt := 31) (B := a.toInt < 0) hG dX7_feed_1 (by decide) (sx_rlt0 _) (fun c1 => ?_) (fun c1 => ?_)
  · skip
    refine sx_iconst (pc := 31) (v := (-1)) hG dX7_feed_31 (by decide +kernel) ?_
    exact hret _ _ _ _ dX7_feed_32 rfl ⟨rfl, rfl⟩
  · skip
    refine sx_iload_n (pc := 4) hG dX7_feed_4 rfl 1 rfl ?_
    refine sx_bipush (pc := 5) (v := nI 99) hG dX7_feed_5 (by decide +kernel) ?_
    refine sx_icmp_gt (pc := 7) (tgt := 31) (B := (99 : Int) < a.toInt) hG dX7_feed_7 (by decide) (sx_rlt (nI_toInt (by omega)) rfl) (fun c7 => ?_) (fun c7 => ?_)
    · skip
      refine sx_iconst (pc := 31) (v := (-1)) hG dX7_feed_31 (by decide +kernel) ?_
      exact hret _ _ _ _ dX7_feed_32 rfl ⟨rfl, rfl⟩
    · skip
      refine sx_iload_n (pc := 10) hG dX7_feed_10 rfl 2 rfl ?_
      refine sx_iconst (pc := 11) (v := nI 1) hG dX7_feed_11 (by decide +kernel) ?_
      refine sx_icmp_lt (pc := 12) (tgt := 31) (B := b.toInt < (1 : Int)) hG dX7_feed_12 (by decide) (sx_rlt rfl (nI_toInt (by omega))) (fun c12 => ?_) (fun c12 => ?_)
      · skip
        refine sx_iconst (pc := 31) (v := (-1)) hG dX7_feed_31 (by decide +kernel) ?_
        exact hret _ _ _ _ dX7_feed_32 rfl ⟨rfl, rfl⟩
      · skip
        refine sx_iload_n (pc := 15) hG dX7_feed_15 rfl 2 rfl ?_
        refine sx_ldc (pc := 16) (v2 := nI 99999) hG m_X7_feed_c144 dX7_feed_16 (by decide +kernel) ?_
        refine sx_icmp_gt (pc := 18) (tgt := 31) (B := (99999 : Int) < b.toInt) hG dX7_feed_18 (by decide) (sx_rlt (nI_toInt (by omega)) rfl) (fun c18 => ?_) (fun c18 => ?_)
        · skip
          refine sx_iconst (pc := 31) (v := (-1)) hG dX7_feed_31 (by decide +kernel) ?_
          exact hret _ _ _ _ dX7_feed_32 rfl ⟨rfl, rfl⟩
        · skip
          refine sx_aload_n (pc := 21) hG dX7_feed_21 rfl 0 rfl ?_
          refine sx_get (pc := 22) (v2 := .ref (ad 5)) (ci := 7) hG i_X7_feed_7 4 m_X7_feed_f40 dX7_feed_22 rfl (by decide) 0 rfl rfl rfl ?_
          refine sx_callViw (pc := 25) (n9 := 0) (As := []) (st := []) (b := (ad 5)) (ci := 2) hG (c_X2_areThere_n l X ad sc av h5) gX7_feed_X2_areThere rfl (by decide +kernel) rfl 5 rfl rfl rfl dX7_feed_25 ⟨rfl, rfl⟩ ⟨Nat.le_of_ble_eq_true rfl, Nat.le_of_ble_eq_true rfl⟩ (Nat.le_of_ble_eq_true rfl) ⟨Nat.le_of_ble_eq_true rfl, Nat.le_of_ble_eq_true rfl⟩ (fun r w1 hp => ?_)
          obtain ⟨hr9, hw9⟩ := hp
          have hr9 : r = (nI 0) := hr9
          subst hr9
          refine sx_weq hw9 ?_
          refine sx_if_ne (pc := 28) (tgt := 33) (B := 0 = 0) hG dX7_feed_28 (by decide) (sx_eq0 (by omega)) (fun c28 => ?_) (fun c28 => ?_)
          · skip
            exact absurd (by decide) c28
          · skip
            refine sx_iconst (pc := 31) (v := (-1)) hG dX7_feed_31 (by decide +kernel) ?_
            exact hret _ _ _ _ dX7_feed_32 rfl ⟨rfl, rfl⟩

set_option maxHeartbeats 4000000 in
set_option maxRecDepth 100000 in
theorem c_X7_feed_no (l : Launch) (X : sx_X) (ad : Nat → Nat) (sc : Nat → Int32) (av : Nat → Nat → Nat) (a b : Int32) (hno : ¬ (0 ≤ a.toInt ∧ a.toInt ≤ 99 ∧ 1 ≤ b.toInt ∧ b.toInt ≤ 99999)) : sx_Mi l yX7_feed wsX7_feed { frames := 0, cells := 0, slots := 0, locals := 0 } X [.ref (ad 0), .int a, .int b] (sw X ad sc av) (fun r w => r = -1 ∧ w = sw X ad sc av) 0 0 := by
  refine sx_entI (own := RX7) (nL := 3) (by decide +kernel) rfl rfl (Nat.le_of_ble_eq_true rfl) ?_
  intro G hG hN hret
  show sx_W l X G 0 0 0 [(0, .ref (ad 0)), (1, .int a), (2, .int b)] [] (sw X ad sc av)
  refine sx_iload_n (pc := 0) hG dX7_feed_0 rfl 1 rfl ?_
  refine sx_if_lt (pc := 1) (tgt := 31) (B := a.toInt < 0) hG dX7_feed_1 (by decide) (sx_rlt0 _) (fun c1 => ?_) (fun c1 => ?_)
  · skip
    refine sx_iconst (pc := 31) (v := (-1)) hG dX7_feed_31 (by decide +kernel) ?_
    exact hret _ _ _ _ dX7_feed_32 rfl ⟨rfl, rfl⟩
  · skip
    refine sx_iload_n (pc := 4) hG dX7_feed_4 rfl 1 rfl ?_
    refine sx_bipush (pc := 5) (v := nI 99) hG dX7_feed_5 (by decide +kernel) ?_
    refine sx_icmp_gt (pc := 7) (tgt := 31) (B := (99 : Int) < a.toInt) hG dX7_feed_7 (by decide) (sx_rlt (nI_toInt (by omega)) rfl) (fun c7 => ?_) (fun c7 => ?_)
    · skip
      refine sx_iconst (pc := 31) (v := (-1)) hG dX7_feed_31 (by decide +kernel) ?_
      exact hret _ _ _ _ dX7_feed_32 rfl ⟨rfl, rfl⟩
    · skip
      refine sx_iload_n (pc := 10) hG dX7_feed_10 rfl 2 rfl ?_
      refine sx_iconst (pc := 11) (v := nI 1) hG dX7_feed_11 (by decide +kernel) ?_
      refine sx_icmp_lt (pc := 12) (tgt := 31) (B := b.toInt < (1 : Int)) hG dX7_feed_12 (by decide) (sx_rlt rfl (nI_toInt (by omega))) (fun c12 => ?_) (fun c12 => ?_)
      · skip
        refine sx_iconst (pc := 31) (v := (-1)) hG dX7_feed_31 (by decide +kernel) ?_
        exact hret _ _ _ _ dX7_feed_32 rfl ⟨rfl, rfl⟩
      · skip
        refine sx_iload_n (pc := 15) hG dX7_feed_15 rfl 2 rfl ?_
        refine sx_ldc (pc := 16) (v2 := nI 99999) hG m_X7_feed_c144 dX7_feed_16 (by decide +kernel) ?_
        refine sx_icmp_gt (pc := 18) (tgt := 31) (B := (99999 : Int) < b.toInt) hG dX7_feed_18 (by decide) (sx_rlt (nI_toInt (by omega)) rfl) (fun c18 => ?_) (fun c18 => ?_)
        · skip
          refine sx_iconst (pc := 31) (v := (-1)) hG dX7_feed_31 (by decide +kernel) ?_
          exact hret _ _ _ _ dX7_feed_32 rfl ⟨rfl, rfl⟩
        · skip
          exact absurd ⟨by omega, by omega, by omega, by omega⟩ hno

theorem m_X7_feed_f47 : Cond.fieldLink RX7 47 (TX7 5).1 (TX7 5).2.1 (TX7 5).2.2.1 ∈ wsX7_feed := by decide +kernel
set_option maxHeartbeats 4000000 in
set_option maxRecDepth 100000 in
theorem c_X7_feed_ok (l : Launch) (X : sx_X) (ad : Nat → Nat) (sc : Nat → Int32) (av : Nat → Nat → Nat) (m : Nat) (hm : m ≤ 9) (h5 : sc 5 = nI m) (hZ : ∀ j, av 20 j ≤ 4095) (rate v : Nat) (hr : rate ≤ 99) (hv1 : 1 ≤ v) (hv2 : v ≤ 99999) : sx_Mi l yX7_feed wsX7_feed { frames := 3, cells := 0, slots := 0, locals := 72 } X [.ref (ad 0), .int (nI rate), .int (nI v)] (sw X ad sc av) (fun r w => (∃ j, j < m ∧ v < av 20 j * rate + 50 ∧ r = -1 ∧ ∃ Vo : Nat → Nat, w = sw X ad sc (va_up av 22 Vo)) ∨ ((∀ j, j < m → av 20 j * rate + 50 ≤ v) ∧ ∃ Vo Fi : Nat → Nat, r = nI (Fi (2 ^ m - 1) / 131072) ∧ w = sw X ad sc (va_up (va_up av 22 Vo) 23 Fi) ∧ (∀ j, j < m → Vo j = av 20 j * rate + 50) ∧ bT Vo Fi m v (2 ^ m))) 0 0 := by
  refine sx_entI (own := RX7) (nL := 3) (by decide +kernel) rfl rfl (Nat.le_of_ble_eq_true rfl) ?_
  intro G hG hN hret
  show sx_W l X G 0 0 0 [(0, .ref (ad 0)), (1, .int (nI rate)), (2, .int (nI v))] [] (sw X ad sc av)
  refine sx_iload_n (pc := 0) hG dX7_feed_0 rfl 1 rfl ?_
  refine sx_if_lt (pc := 1) (tgt := 31) (B := False) hG dX7_feed_1 (by decide) (sx_lt0 (by omega)) (fun c1 => ?_) (fun c1 => ?_)
  · skip
    exact absurd c1 (by decide)
  · skip
    refine sx_iload_n (pc := 4) hG dX7_feed_4 rfl 1 rfl ?_
    refine sx_bipush (pc := 5) (v := nI 99) hG dX7_feed_5 (by decide +kernel) ?_
    refine sx_icmp_gt (pc := 7) (tgt := 31) (B := 99 < rate) hG dX7_feed_7 (by decide) (nI_ltI (by omega) (by omega)) (fun c7 => ?_) (fun c7 => ?_)
    · skip
      exact absurd c7 (by omega)
    · skip
      refine sx_iload_n (pc := 10) hG dX7_feed_10 rfl 2 rfl ?_
      refine sx_iconst (pc := 11) (v := nI 1) hG dX7_feed_11 (by decide +kernel) ?_
      refine sx_icmp_lt (pc := 12) (tgt := 31) (B := v < 1) hG dX7_feed_12 (by decide) (nI_ltI (by omega) (by omega)) (fun c12 => ?_) (fun c12 => ?_)
      · skip
        exact absurd c12 (by omega)
      · skip
        refine sx_iload_n (pc := 15) hG dX7_feed_15 rfl 2 rfl ?_
        refine sx_ldc (pc := 16) (v2 := nI 99999) hG m_X7_feed_c144 dX7_feed_16 (by decide +kernel) ?_
        refine sx_icmp_gt (pc := 18) (tgt := 31) (B := 99999 < v) hG dX7_feed_18 (by decide) (nI_ltI (by omega) (by omega)) (fun c18 => ?_) (fun c18 => ?_)
        · skip
          exact absurd c18 (by omega)
        · skip
          refine sx_aload_n (pc := 21) hG dX7_feed_21 rfl 0 rfl ?_
          refine sx_get (pc := 22) (v2 := .ref (ad 5)) (ci := 7) hG i_X7_feed_7 4 m_X7_feed_f40 dX7_feed_22 rfl (by decide) 0 rfl rfl rfl ?_
          refine sx_callViw (pc := 25) (n9 := 0) (As := []) (st := []) (b := (ad 5)) (ci := 2) hG (c_X2_areThere_y l X ad sc av m hm h5) gX7_feed_X2_areThere rfl (by decide +kernel) rfl 5 rfl rfl rfl dX7_feed_25 ⟨rfl, rfl⟩ ⟨Nat.le_of_ble_eq_true rfl, Nat.le_of_ble_eq_true rfl⟩ (Nat.le_of_ble_eq_true rfl) ⟨Nat.le_of_ble_eq_true rfl, Nat.le_of_ble_eq_true rfl⟩ (fun r w1 hp => ?_)
          obtain ⟨hr9, hw9⟩ := hp
          have hr9 : r = (nI 1) := hr9
          subst hr9
          refine sx_weq hw9 ?_
          refine sx_if_ne (pc := 28) (tgt := 33) (B := 1 = 0) hG dX7_feed_28 (by decide) (sx_eq0 (by omega)) (fun c28 => ?_) (fun c28 => ?_)
          · skip
            refine sx_aload_n (pc := 33) hG dX7_feed_33 rfl 0 rfl ?_
            refine sx_get (pc := 34) (v2 := .ref (ad 6)) (ci := 7) hG i_X7_feed_7 5 m_X7_feed_f47 dX7_feed_34 rfl (by decide) 0 rfl rfl rfl ?_
            refine sx_aload_n (pc := 37) hG dX7_feed_37 rfl 0 rfl ?_
            refine sx_get (pc := 38) (v2 := .ref (ad 5)) (ci := 7) hG i_X7_feed_7 4 m_X7_feed_f40 dX7_feed_38 rfl (by decide) 0 rfl rfl rfl ?_
            refine sx_iload_n (pc := 41) hG dX7_feed_41 rfl 1 rfl ?_
            refine sx_iload_n (pc := 42) hG dX7_feed_42 rfl 2 rfl ?_
            refine sx_callViw (pc := 43) (n9 := 3) (As := [.ref (ad 5), .int (nI rate), .int (nI v)]) (st := []) (b := (ad 6)) (ci := 0) hG (c_X0_fewest l X ad sc av m hm h5 hZ rate v hr hv1 hv2) gX7_feed_X0_fewest rfl (by decide +kernel) rfl 6 rfl rfl rfl dX7_feed_43 ⟨rfl, rfl⟩ ⟨Nat.le_of_ble_eq_true rfl, Nat.le_of_ble_eq_true rfl⟩ (Nat.le_of_ble_eq_true rfl) ⟨Nat.le_of_ble_eq_true rfl, Nat.le_of_ble_eq_true rfl⟩ (fun r w1 hp => ?_)
            have hfp := hp
            exact hret _ _ _ _ dX7_feed_46 rfl hfp
          · skip
            exact absurd c28 (by decide)

theorem i_X7_dead_7 : ∀ w ∈ u_ws RX7 TX7 8, w ∈ wsX7_dead := by decide +kernel
theorem m_X7_dead_f40 : Cond.fieldLink RX7 40 (TX7 4).1 (TX7 4).2.1 (TX7 4).2.2.1 ∈ wsX7_dead := by decide +kernel
set_option maxHeartbeats 4000000 in
set_option maxRecDepth 100000 in
theorem c_X7_dead_n (l : Launch) (X : sx_X) (ad : Nat → Nat) (sc : Nat → Int32) (av : Nat → Nat → Nat) (a : Int32) (h5 : sc 5 = -1) : sx_Mi l yX7_dead wsX7_dead { frames := 1, cells := 0, slots := 0, locals := 20 } X [.ref (ad 0), .int a] (sw X ad sc av) (fun r w => r = -1 ∧ w = sw X ad sc av) 0 0 := by
  refine sx_entI (own := RX7) (nL := 2) (by decide +kernel) rfl rfl (Nat.le_of_ble_eq_true rfl) ?_
  intro G hG hN hret
  show sx_W l X G 0 0 0 [(0, .ref (ad 0)), (1, .int a)] [] (sw X ad sc av)
  refine sx_aload_n (pc := 0) hG dX7_dead_0 rfl 0 rfl ?_
  refine sx_get (pc := 1) (v2 := .ref (ad 5)) (ci := 7) hG i_X7_dead_7 4 m_X7_dead_f40 dX7_dead_1 rfl (by decide) 0 rfl rfl rfl ?_
  refine sx_callViw (pc := 4) (n9 := 0) (As := []) (st := []) (b := (ad 5)) (ci := 2) hG (c_X2_areThere_n l X ad sc av h5) gX7_dead_X2_areThere rfl (by decide +kernel) rfl 5 rfl rfl rfl dX7_dead_4 ⟨rfl, rfl⟩ ⟨Nat.le_of_ble_eq_true rfl, Nat.le_of_ble_eq_true rfl⟩ (Nat.le_of_ble_eq_true rfl) ⟨Nat.le_of_ble_eq_true rfl, Nat.le_of_ble_eq_true rfl⟩ (fun r w1 hp => ?_)
  obtain ⟨hr9, hw9⟩ := hp
  have hr9 : r = (nI 0) := hr9
  subst hr9
  refine sx_weq hw9 ?_
  refine sx_if_eq (pc := 7) (tgt := 19) (B := 0 = 0) hG dX7_dead_7 (by decide) (sx_eq0 (by omega)) (fun c7 => ?_) (fun c7 => ?_)
  · skip
    refine sx_iconst (pc := 19) (v := (-1)) hG dX7_dead_19 (by decide +kernel) ?_
    exact hret _ _ _ _ dX7_dead_20 rfl ⟨rfl, rfl⟩
  · skip
    exact absurd (by decide) c7

set_option maxHeartbeats 4000000 in
set_option maxRecDepth 100000 in
theorem c_X7_dead_no (l : Launch) (X : sx_X) (ad : Nat → Nat) (sc : Nat → Int32) (av : Nat → Nat → Nat) (a : Int32) (m : Nat) (hm : m ≤ 9) (h5 : sc 5 = nI m) (hno : a.toInt < 0 ∨ 1 < a.toInt) : sx_Mi l yX7_dead wsX7_dead { frames := 1, cells := 0, slots := 0, locals := 20 } X [.ref (ad 0), .int a] (sw X ad sc av) (fun r w => r = -1 ∧ w = sw X ad sc av) 0 0 := by
  refine sx_entI (own := RX7) (nL := 2) (by decide +kernel) rfl rfl (Nat.le_of_ble_eq_true rfl) ?_
  intro G hG hN hret
  show sx_W l X G 0 0 0 [(0, .ref (ad 0)), (1, .int a)] [] (sw X ad sc av)
  refine sx_aload_n (pc := 0) hG dX7_dead_0 rfl 0 rfl ?_
  refine sx_get (pc := 1) (v2 := .ref (ad 5)) (ci := 7) hG i_X7_dead_7 4 m_X7_dead_f40 dX7_dead_1 rfl (by decide) 0 rfl rfl rfl ?_
  refine sx_callViw (pc := 4) (n9 := 0) (As := []) (st := []) (b := (ad 5)) (ci := 2) hG (c_X2_areThere_y l X ad sc av m hm h5) gX7_dead_X2_areThere rfl (by decide +kernel) rfl 5 rfl rfl rfl dX7_dead_4 ⟨rfl, rfl⟩ ⟨Nat.le_of_ble_eq_true rfl, Nat.le_of_ble_eq_true rfl⟩ (Nat.le_of_ble_eq_true rfl) ⟨Nat.le_of_ble_eq_true rfl, Nat.le_of_ble_eq_true rfl⟩ (fun r w1 hp => ?_)
  obtain ⟨hr9, hw9⟩ := hp
  have hr9 : r = (nI 1) := hr9
  subst hr9
  refine sx_weq hw9 ?_
  refine sx_if_eq (pc := 7) (tgt := 19) (B := 1 = 0) hG dX7_dead_7 (by decide) (sx_eq0 (by omega)) (fun c7 => ?_) (fun c7 => ?_)
  · skip
    exact absurd c7 (by decide)
  · skip
    refine sx_iload_n (pc := 10) hG dX7_dead_10 rfl 1 rfl ?_
    refine sx_if_lt (pc := 11) (tgt := 19) (B := a.toInt < 0) hG dX7_dead_11 (by decide) (sx_rlt0 _) (fun c11 => ?_) (fun c11 => ?_)
    · skip
      refine sx_iconst (pc := 19) (v := (-1)) hG dX7_dead_19 (by decide +kernel) ?_
      exact hret _ _ _ _ dX7_dead_20 rfl ⟨rfl, rfl⟩
    · skip
      refine sx_iload_n (pc := 14) hG dX7_dead_14 rfl 1 rfl ?_
      refine sx_iconst (pc := 15) (v := nI 1) hG dX7_dead_15 (by decide +kernel) ?_
      refine sx_icmp_le (pc := 16) (tgt := 21) (B := a.toInt ≤ (1 : Int)) hG dX7_dead_16 (by decide) (sx_rle rfl (nI_toInt (by omega))) (fun c16 => ?_) (fun c16 => ?_)
      · skip
        exact absurd c16 (by omega)
      · skip
        refine sx_iconst (pc := 19) (v := (-1)) hG dX7_dead_19 (by decide +kernel) ?_
        exact hret _ _ _ _ dX7_dead_20 rfl ⟨rfl, rfl⟩

theorem m_X7_dead_f54 : Cond.fieldLink RX7 54 (TX7 6).1 (TX7 6).2.1 (TX7 6).2.2.1 ∈ wsX7_dead := by decide +kernel
theorem i_X7_dead_1 : ∀ w ∈ u_ws RX1 TX1 3, w ∈ wsX7_dead := by decide +kernel
theorem m_X7_dead_n157 : Cond.fieldLinkNest RX7 157 (TX1 0).1 (TX1 0).2.1 (TX1 0).2.2.1 "TubeShop" ∈ sx_nest := by decide +kernel
set_option maxHeartbeats 4000000 in
set_option maxRecDepth 100000 in
theorem c_X7_dead_0 (l : Launch) (X : sx_X) (ad : Nat → Nat) (sc : Nat → Int32) (av : Nat → Nat → Nat) (m : Nat) (hm : m ≤ 9) (h5 : sc 5 = nI m) (hZ : ∀ j, av 20 j ≤ 4095) (hY0 : ∀ j, av 24 j ≤ 10000000) : sx_Mi l yX7_dead wsX7_dead { frames := 3, cells := 0, slots := 0, locals := 72 } X [.ref (ad 0), .int (nI 0)] (sw X ad sc av) (fun r w => ∃ (Y : Nat → Nat) (u6 u7 : Int32), (∀ j, Y j ≤ 10000000) ∧ jT (av 20) Y m 0 ∧ w = sw X ad (va_up (va_up sc 6 u6) 7 u7) (va_up av 24 Y) ∧ ((m ≤ 1 ∧ r = nI 0) ∨ (2 ≤ m ∧ r = nI (Y (m - 1))))) 0 0 := by
  refine sx_entI (own := RX7) (nL := 2) (by decide +kernel) rfl rfl (Nat.le_of_ble_eq_true rfl) ?_
  intro G hG hN hret
  show sx_W l X G 0 0 0 [(0, .ref (ad 0)), (1, .int (nI 0))] [] (sw X ad sc av)
  refine sx_aload_n (pc := 0) hG dX7_dead_0 rfl 0 rfl ?_
  refine sx_get (pc := 1) (v2 := .ref (ad 5)) (ci := 7) hG i_X7_dead_7 4 m_X7_dead_f40 dX7_dead_1 rfl (by decide) 0 rfl rfl rfl ?_
  refine sx_callViw (pc := 4) (n9 := 0) (As := []) (st := []) (b := (ad 5)) (ci := 2) hG (c_X2_areThere_y l X ad sc av m hm h5) gX7_dead_X2_areThere rfl (by decide +kernel) rfl 5 rfl rfl rfl dX7_dead_4 ⟨rfl, rfl⟩ ⟨Nat.le_of_ble_eq_true rfl, Nat.le_of_ble_eq_true rfl⟩ (Nat.le_of_ble_eq_true rfl) ⟨Nat.le_of_ble_eq_true rfl, Nat.le_of_ble_eq_true rfl⟩ (fun r w1 hp => ?_)
  obtain ⟨hr9, hw9⟩ := hp
  have hr9 : r = (nI 1) := hr9
  subst hr9
  refine sx_weq hw9 ?_
  refine sx_if_eq (pc := 7) (tgt := 19) (B := 1 = 0) hG dX7_dead_7 (by decide) (sx_eq0 (by omega)) (fun c7 => ?_) (fun c7 => ?_)
  · skip
    exact absurd c7 (by decide)
  · skip
    refine sx_iload_n (pc := 10) hG dX7_dead_10 rfl 1 rfl ?_
    refine sx_if_lt (pc := 11) (tgt := 19) (B := False) hG dX7_dead_11 (by decide) (sx_lt0 (by omega)) (fun c11 => ?_) (fun c11 => ?_)
    · skip
      exact absurd c11 (by decide)
    · skip
      refine sx_iload_n (pc := 14) hG dX7_dead_14 rfl 1 rfl ?_
      refine sx_iconst (pc := 15) (v := nI 1) hG dX7_dead_15 (by decide +kernel) ?_
      refine sx_icmp_le (pc := 16) (tgt := 21) (B := 0 ≤ 1) hG dX7_dead_16 (by decide) (nI_leI (by omega) (by omega)) (fun c16 => ?_) (fun c16 => ?_)
      · skip
        refine sx_aload_n (pc := 21) hG dX7_dead_21 rfl 0 rfl ?_
        refine sx_get (pc := 22) (v2 := .ref (ad 7)) (ci := 7) hG i_X7_dead_7 6 m_X7_dead_f54 dX7_dead_22 rfl (by decide) 0 rfl rfl rfl ?_
        refine sx_aload_n (pc := 25) hG dX7_dead_25 rfl 0 rfl ?_
        refine sx_get (pc := 26) (v2 := .ref (ad 5)) (ci := 7) hG i_X7_dead_7 4 m_X7_dead_f40 dX7_dead_26 rfl (by decide) 0 rfl rfl rfl ?_
        refine sx_callVvw (pc := 29) (n9 := 1) (As := [.ref (ad 5)]) (st := []) (b := (ad 7)) (ci := 1) hG (c_X1_weigh l X ad sc av m hm h5 hZ hY0) gX7_dead_X1_weigh rfl (by decide +kernel) rfl 7 rfl rfl rfl dX7_dead_29 ⟨rfl, rfl⟩ ⟨Nat.le_of_ble_eq_true rfl, Nat.le_of_ble_eq_true rfl⟩ (Nat.le_of_ble_eq_true rfl) ⟨Nat.le_of_ble_eq_true rfl, Nat.le_of_ble_eq_true rfl⟩ (fun w1 hp => ?_)
        obtain ⟨Y, hYb, hT, hp⟩ := hp
        rcases hp with ⟨hm1, hw9⟩ | ⟨hm2, q, hw9, hq⟩
        · skip
          refine sx_weq hw9 ?_
          refine sx_iload_n (pc := 32) hG dX7_dead_32 rfl 1 rfl ?_
          refine sx_if_ne (pc := 33) (tgt := 46) (B := 0 = 0) hG dX7_dead_33 (by decide) (sx_eq0 (by omega)) (fun c33 => ?_) (fun c33 => ?_)
          · skip
            exact absurd (by decide) c33
          · skip
            refine sx_aload_n (pc := 36) hG dX7_dead_36 rfl 0 rfl ?_
            refine sx_get (pc := 37) (v2 := .ref (ad 7)) (ci := 7) hG i_X7_dead_7 6 m_X7_dead_f54 dX7_dead_37 rfl (by decide) 0 rfl rfl rfl ?_
            refine sx_getN (pc := 40) (v2 := .int (nI 0)) (ci := 1) hG i_X7_dead_1 0 m_X7_dead_n157 dX7_dead_40 rfl (by decide) 7 rfl rfl rfl ?_
            refine sx_goto (pc := 43) (tgt := 53) hG dX7_dead_43 (by decide) ?_
            exact hret _ _ _ _ dX7_dead_53 rfl ⟨Y, _, _, hYb, hT, rfl, Or.inl ⟨hm1, rfl⟩⟩
        · skip
          refine sx_weq hw9 ?_
          refine sx_iload_n (pc := 32) hG dX7_dead_32 rfl 1 rfl ?_
          refine sx_if_ne (pc := 33) (tgt := 46) (B := 0 = 0) hG dX7_dead_33 (by decide) (sx_eq0 (by omega)) (fun c33 => ?_) (fun c33 => ?_)
          · skip
            exact absurd (by decide) c33
          · skip
            refine sx_aload_n (pc := 36) hG dX7_dead_36 rfl 0 rfl ?_
            refine sx_get (pc := 37) (v2 := .ref (ad 7)) (ci := 7) hG i_X7_dead_7 6 m_X7_dead_f54 dX7_dead_37 rfl (by decide) 0 rfl rfl rfl ?_
            refine sx_getN (pc := 40) (v2 := .int (nI (Y (m - 1)))) (ci := 1) hG i_X7_dead_1 0 m_X7_dead_n157 dX7_dead_40 rfl (by decide) 7 rfl rfl rfl ?_
            refine sx_goto (pc := 43) (tgt := 53) hG dX7_dead_43 (by decide) ?_
            exact hret _ _ _ _ dX7_dead_53 rfl ⟨Y, _, _, hYb, hT, rfl, Or.inr ⟨hm2, rfl⟩⟩
      · skip
        exact absurd (by decide) c16

theorem m_X7_dead_n160 : Cond.fieldLinkNest RX7 160 (TX1 1).1 (TX1 1).2.1 (TX1 1).2.2.1 "TubeShop" ∈ sx_nest := by decide +kernel
set_option maxHeartbeats 4000000 in
set_option maxRecDepth 100000 in
theorem c_X7_dead_1 (l : Launch) (X : sx_X) (ad : Nat → Nat) (sc : Nat → Int32) (av : Nat → Nat → Nat) (m : Nat) (hm : m ≤ 9) (h5 : sc 5 = nI m) (hZ : ∀ j, av 20 j ≤ 4095) (hY0 : ∀ j, av 24 j ≤ 10000000) : sx_Mi l yX7_dead wsX7_dead { frames := 3, cells := 0, slots := 0, locals := 72 } X [.ref (ad 0), .int (nI 1)] (sw X ad sc av) (fun r w => ∃ (Y : Nat → Nat) (u6 u7 : Int32), (∀ j, Y j ≤ 10000000) ∧ jT (av 20) Y m 0 ∧ w = sw X ad (va_up (va_up sc 6 u6) 7 u7) (va_up av 24 Y) ∧ ((m ≤ 1 ∧ r = -1) ∨ (2 ≤ m ∧ ∃ q, r = nI q ∧ jB Y 0 (m - 1) (m - 1) q))) 0 0 := by
  refine sx_entI (own := RX7) (nL := 2) (by decide +kernel) rfl rfl (Nat.le_of_ble_eq_true rfl) ?_
  intro G hG hN hret
  show sx_W l X G 0 0 0 [(0, .ref (ad 0)), (1, .int (nI 1))] [] (sw X ad sc av)
  refine sx_aload_n (pc := 0) hG dX7_dead_0 rfl 0 rfl ?_
  refine sx_get (pc := 1) (v2 := .ref (ad 5)) (ci := 7) hG i_X7_dead_7 4 m_X7_dead_f40 dX7_dead_1 rfl (by decide) 0 rfl rfl rfl ?_
  refine sx_callViw (pc := 4) (n9 := 0) (As := []) (st := []) (b := (ad 5)) (ci := 2) hG (c_X2_areThere_y l X ad sc av m hm h5) gX7_dead_X2_areThere rfl (by decide +kernel) rfl 5 rfl rfl rfl dX7_dead_4 ⟨rfl, rfl⟩ ⟨Nat.le_of_ble_eq_true rfl, Nat.le_of_ble_eq_true rfl⟩ (Nat.le_of_ble_eq_true rfl) ⟨Nat.le_of_ble_eq_true rfl, Nat.le_of_ble_eq_true rfl⟩ (fun r w1 hp => ?_)
  obtain ⟨hr9, hw9⟩ := hp
  have hr9 : r = (nI 1) := hr9
  subst hr9
  refine sx_weq hw9 ?_
  refine sx_if_eq (pc := 7) (tgt := 19) (B := 1 = 0) hG dX7_dead_7 (by decide) (sx_eq0 (by omega)) (fun c7 => ?_) (fun c7 => ?_)
  · skip
    exact absurd c7 (by decide)
  · skip
    refine sx_iload_n (pc := 10) hG dX7_dead_10 rfl 1 rfl ?_
    refine sx_if_lt (pc := 11) (tgt := 19) (B := False) hG dX7_dead_11 (by decide) (sx_lt0 (by omega)) (fun c11 => ?_) (fun c11 => ?_)
    · skip
      exact absurd c11 (by decide)
    · skip
      refine sx_iload_n (pc := 14) hG dX7_dead_14 rfl 1 rfl ?_
      refine sx_iconst (pc := 15) (v := nI 1) hG dX7_dead_15 (by decide +kernel) ?_
      refine sx_icmp_le (pc := 16) (tgt := 21) (B := 1 ≤ 1) hG dX7_dead_16 (by decide) (nI_leI (by omega) (by omega)) (fun c16 => ?_) (fun c16 => ?_)
      · skip
        refine sx_aload_n (pc := 21) hG dX7_dead_21 rfl 0 rfl ?_
        refine sx_get (pc := 22) (v2 := .ref (ad 7)) (ci := 7) hG i_X7_dead_7 6 m_X7_dead_f54 dX7_dead_22 rfl (by decide) 0 rfl rfl rfl ?_
        refine sx_aload_n (pc := 25) hG dX7_dead_25 rfl 0 rfl ?_
        refine sx_get (pc := 26) (v2 := .ref (ad 5)) (ci := 7) hG i_X7_dead_7 4 m_X7_dead_f40 dX7_dead_26 rfl (by decide) 0 rfl rfl rfl ?_
        refine sx_callVvw (pc := 29) (n9 := 1) (As := [.ref (ad 5)]) (st := []) (b := (ad 7)) (ci := 1) hG (c_X1_weigh l X ad sc av m hm h5 hZ hY0) gX7_dead_X1_weigh rfl (by decide +kernel) rfl 7 rfl rfl rfl dX7_dead_29 ⟨rfl, rfl⟩ ⟨Nat.le_of_ble_eq_true rfl, Nat.le_of_ble_eq_true rfl⟩ (Nat.le_of_ble_eq_true rfl) ⟨Nat.le_of_ble_eq_true rfl, Nat.le_of_ble_eq_true rfl⟩ (fun w1 hp => ?_)
        obtain ⟨Y, hYb, hT, hp⟩ := hp
        rcases hp with ⟨hm1, hw9⟩ | ⟨hm2, q, hw9, hq⟩
        · skip
          refine sx_weq hw9 ?_
          refine sx_iload_n (pc := 32) hG dX7_dead_32 rfl 1 rfl ?_
          refine sx_if_ne (pc := 33) (tgt := 46) (B := 1 = 0) hG dX7_dead_33 (by decide) (sx_eq0 (by omega)) (fun c33 => ?_) (fun c33 => ?_)
          · skip
            refine sx_aload_n (pc := 46) hG dX7_dead_46 rfl 0 rfl ?_
            refine sx_get (pc := 47) (v2 := .ref (ad 7)) (ci := 7) hG i_X7_dead_7 6 m_X7_dead_f54 dX7_dead_47 rfl (by decide) 0 rfl rfl rfl ?_
            refine sx_getN (pc := 50) (v2 := .int (-1)) (ci := 1) hG i_X7_dead_1 1 m_X7_dead_n160 dX7_dead_50 rfl (by decide) 7 rfl rfl rfl ?_
            exact hret _ _ _ _ dX7_dead_53 rfl ⟨Y, _, _, hYb, hT, rfl, Or.inl ⟨hm1, rfl⟩⟩
          · skip
            exact absurd c33 (by decide)
        · skip
          refine sx_weq hw9 ?_
          refine sx_iload_n (pc := 32) hG dX7_dead_32 rfl 1 rfl ?_
          refine sx_if_ne (pc := 33) (tgt := 46) (B := 1 = 0) hG dX7_dead_33 (by decide) (sx_eq0 (by omega)) (fun c33 => ?_) (fun c33 => ?_)
          · skip
            refine sx_aload_n (pc := 46) hG dX7_dead_46 rfl 0 rfl ?_
            refine sx_get (pc := 47) (v2 := .ref (ad 7)) (ci := 7) hG i_X7_dead_7 6 m_X7_dead_f54 dX7_dead_47 rfl (by decide) 0 rfl rfl rfl ?_
            refine sx_getN (pc := 50) (v2 := .int (nI q)) (ci := 1) hG i_X7_dead_1 1 m_X7_dead_n160 dX7_dead_50 rfl (by decide) 7 rfl rfl rfl ?_
            exact hret _ _ _ _ dX7_dead_53 rfl ⟨Y, _, _, hYb, hT, rfl, Or.inr ⟨hm2, q, rfl, hq⟩⟩
          · skip
            exact absurd c33 (by decide)
      · skip
        exact absurd (by decide) c16
