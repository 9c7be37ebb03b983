/-! THE CLASS: split -/
theorem cSpl_av {av av2 : Nat → Nat → Nat} {B U : Nat → Nat} {lg all : Nat} {S : Nat → Nat} (h : ∀ c, cPr av c = cPr av2 c) : ∀ {k left : Nat}, cSpl av B U lg all S k left → cSpl av2 B U lg all S k left := by
  have e : ∀ s, cSw av B U lg s = cSw av2 B U lg s := fun s => funext fun t => by unfold cSw; rw [h]
  intro k
  induction k with
  | zero => intro left q; exact q
  | succ k ih =>
    intro left q
    obtain ⟨l0, p1, p2, p3, p4⟩ := q
    exact ⟨l0, ih p1, p2, by rw [← e]; exact p3, p4⟩
theorem i_X7_split_7 : ∀ w ∈ u_ws RX7 TX7 8, w ∈ wsX7_split := by decide +kernel
theorem m_X7_split_f26 : Cond.fieldLink RX7 26 (TX7 2).1 (TX7 2).2.1 (TX7 2).2.2.1 ∈ wsX7_split := by decide +kernel
theorem m_X7_split_f12 : Cond.fieldLink RX7 12 (TX7 0).1 (TX7 0).2.1 (TX7 0).2.2.1 ∈ wsX7_split := by decide +kernel
theorem m_X7_split_f19 : Cond.fieldLink RX7 19 (TX7 1).1 (TX7 1).2.1 (TX7 1).2.2.1 ∈ wsX7_split := by decide +kernel
theorem m_X7_split_f33 : Cond.fieldLink RX7 33 (TX7 3).1 (TX7 3).2.1 (TX7 3).2.2.1 ∈ wsX7_split := by decide +kernel
theorem m_X7_split_f58 : Cond.fieldLink RX7 58 (TX7 7).1 (TX7 7).2.1 (TX7 7).2.2.1 ∈ wsX7_split := by decide +kernel
theorem m_X7_split_f40 : Cond.fieldLink RX7 40 (TX7 4).1 (TX7 4).2.1 (TX7 4).2.2.1 ∈ wsX7_split := by decide +kernel
theorem i_X7_split_2 : ∀ w ∈ u_ws RX2 TX2 4, w ∈ wsX7_split := by decide +kernel
theorem m_X7_split_n119 : Cond.fieldLinkNest RX7 119 (TX2 0).1 (TX2 0).2.1 (TX2 0).2.2.1 "TubeShop" ∈ sx_nest := by decide +kernel
set_option maxHeartbeats 4000000 in
set_option maxRecDepth 100000 in
theorem c_X7_split (l : Launch) (X : sx_X) (ad : Nat → Nat) (sc : Nat → Int32) (av : Nat → Nat → Nat) (n J : Nat) (hn : n ≤ 9) (hJ : J ≤ n) (h1 : sc 1 = nI n) (h3 : sc 3 = nI (2 ^ J)) (hg : sG av) (hR : rTab av J (sc 2) (av 13) (av 14) (av 15) (av 16)) (lg : Nat) (hlg : lg ≤ 9999) (h0 : sc 0 = nI lg) : sx_Mi l yX7_split wsX7_split { frames := 5, cells := 0, slots := 0, locals := 122 } X [.ref (ad 0)] (sw X ad sc av) (fun r w => ∃ (v2 v3 : Int32) (A13 A14 A15 A16 U : Nat → Nat), v3 = nI (2 ^ n) ∧ rTab av n v2 A13 A14 A15 A16 ∧ cUT av A16 U lg (2 ^ n) ∧ ((U (2 ^ n - 1) = 2147483647 ∧ r = -1 ∧ w = sw X ad (va_up (va_up (va_up sc 2 v2) 3 v3) 4 (nI lg)) (va_up (va_up (va_up (va_up (va_up av 13 A13) 14 A14) 15 A15) 16 A16) 18 U)) ∨ (U (2 ^ n - 1) < 2147483647 ∧ ∃ (k : Nat) (S Z Q : Nat → Nat), r = nI k ∧ k ≤ 9 ∧ w = sw X ad (va_up (va_up (va_up (va_up sc 2 v2) 3 v3) 4 (nI lg)) 5 (nI k)) (va_up (va_up (va_up (va_up (va_up (va_up (va_up (va_up av 13 A13) 14 A14) 15 A15) 16 A16) 18 U) 19 S) 20 Z) 21 Q) ∧ cSpl av A16 U lg (2 ^ n - 1) S k 0 ∧ (∀ j, j < k → Z j = A16 (S j) % 4096 ∧ Q j = cPr av (A16 (S j))) ∧ ∀ j, k ≤ j → S j = av 19 j ∧ Z j = av 20 j ∧ Q j = av 21 j))) 0 0 := by
  refine sx_entI (own := RX7) (nL := 1) (by decide +kernel) rfl rfl (Nat.le_of_ble_eq_true rfl) ?_
  intro G hG hN hret
  show sx_W l X G 0 0 0 [(0, .ref (ad 0))] [] (sw X ad sc av)
  have hp9 := sx_p9 hn
  have hp1 : 1 ≤ 2 ^ n := Nat.one_le_two_pow
  refine sx_aload_n (pc := 0) hG dX7_split_0 rfl 0 rfl ?_
  refine sx_get (pc := 1) (v2 := .ref (ad 3)) (ci := 7) hG i_X7_split_7 2 m_X7_split_f26 dX7_split_1 rfl (by decide) 0 rfl rfl rfl ?_
  refine sx_aload_n (pc := 4) hG dX7_split_4 rfl 0 rfl ?_
  refine sx_get (pc := 5) (v2 := .ref (ad 1)) (ci := 7) hG i_X7_split_7 0 m_X7_split_f12 dX7_split_5 rfl (by decide) 0 rfl rfl rfl ?_
  refine sx_aload_n (pc := 8) hG dX7_split_8 rfl 0 rfl ?_
  refine sx_get (pc := 9) (v2 := .ref (ad 2)) (ci := 7) hG i_X7_split_7 1 m_X7_split_f19 dX7_split_9 rfl (by decide) 0 rfl rfl rfl ?_
  refine sx_callVvw (pc := 12) (n9 := 2) (As := [.ref (ad 1), .ref (ad 2)]) (st := []) (b := (ad 3)) (ci := 4) hG (c_X4_refresh l X ad sc av n J hn hJ h1 h3 hg hR) gX7_split_X4_refresh rfl (by decide +kernel) rfl 3 rfl rfl rfl dX7_split_12 ⟨rfl, rfl⟩ ⟨Nat.le_of_ble_eq_true rfl, Nat.le_of_ble_eq_true rfl⟩ (Nat.le_of_ble_eq_true rfl) ⟨Nat.le_of_ble_eq_true rfl, Nat.le_of_ble_eq_true rfl⟩ (fun w1 hp => ?_)
  obtain ⟨v2, v3, A13, A14, A15, A16, hw9, hv3, hR2⟩ := hp
  refine sx_weq hw9 ?_
  obtain ⟨r1, r2, r3, r4, r5, r6, r7⟩ := id hR2
  refine sx_aload_n (pc := 15) hG dX7_split_15 rfl 0 rfl ?_
  refine sx_get (pc := 16) (v2 := .ref (ad 4)) (ci := 7) hG i_X7_split_7 3 m_X7_split_f33 dX7_split_16 rfl (by decide) 0 rfl rfl rfl ?_
  refine sx_aload_n (pc := 19) hG dX7_split_19 rfl 0 rfl ?_
  refine sx_get (pc := 20) (v2 := .ref (ad 3)) (ci := 7) hG i_X7_split_7 2 m_X7_split_f26 dX7_split_20 rfl (by decide) 0 rfl rfl rfl ?_
  refine sx_aload_n (pc := 23) hG dX7_split_23 rfl 0 rfl ?_
  refine sx_get (pc := 24) (v2 := .ref (ad 2)) (ci := 7) hG i_X7_split_7 1 m_X7_split_f19 dX7_split_24 rfl (by decide) 0 rfl rfl rfl ?_
  refine sx_aload_n (pc := 27) hG dX7_split_27 rfl 0 rfl ?_
  refine sx_get (pc := 28) (v2 := .ref (ad 1)) (ci := 7) hG i_X7_split_7 0 m_X7_split_f12 dX7_split_28 rfl (by decide) 0 rfl rfl rfl ?_
  refine sx_callViw (pc := 31) (n9 := 0) (As := []) (st := [.ref (ad 2), .ref (ad 3), .ref (ad 4)]) (b := (ad 1)) (ci := 5) hG (c_X5_all l X ad (va_up (va_up sc 2 v2) 3 v3) (va_up (va_up (va_up (va_up av 13 A13) 14 A14) 15 A15) 16 A16) n hn h1) gX7_split_X5_all rfl (by decide +kernel) rfl 1 rfl rfl rfl dX7_split_31 ⟨rfl, rfl⟩ ⟨Nat.le_of_ble_eq_true rfl, Nat.le_of_ble_eq_true rfl⟩ (Nat.le_of_ble_eq_true rfl) ⟨Nat.le_of_ble_eq_true rfl, Nat.le_of_ble_eq_true rfl⟩ (fun r w1 hp => ?_)
  obtain ⟨hr9, hw9⟩ := hp
  have hr9 : r = (nI (2 ^ n - 1)) := hr9
  subst hr9
  refine sx_weq hw9 ?_
  refine sx_aload_n (pc := 34) hG dX7_split_34 rfl 0 rfl ?_
  refine sx_get (pc := 35) (v2 := .int (nI lg)) (ci := 7) hG i_X7_split_7 7 m_X7_split_f58 dX7_split_35 rfl (by decide) 0 rfl rfl (congrArg Value.int h0) ?_
  refine sx_callViw (pc := 38) (n9 := 4) (As := [.ref (ad 3), .ref (ad 2), .int (nI (2 ^ n - 1)), .int (nI lg)]) (st := []) (b := (ad 4)) (ci := 6) hG (c_X6_search l X ad (va_up (va_up sc 2 v2) 3 v3) (va_up (va_up (va_up (va_up av 13 A13) 14 A14) 15 A15) 16 A16) n lg hn hlg ⟨hg.1, hg.2.1, hg.2.2.1, hg.2.2.2.1, hg.2.2.2.2.1, r3⟩ (fun j q1 q2 => rB_le hn r6 r7 q1 q2)) gX7_split_X6_search rfl (by decide +kernel) rfl 4 rfl rfl rfl dX7_split_38 ⟨rfl, rfl⟩ ⟨Nat.le_of_ble_eq_true rfl, Nat.le_of_ble_eq_true rfl⟩ (Nat.le_of_ble_eq_true rfl) ⟨Nat.le_of_ble_eq_true rfl, Nat.le_of_ble_eq_true rfl⟩ (fun r w1 hp => ?_)
  obtain ⟨U, hr9, hw9, hUT⟩ := hp
  subst hr9
  refine sx_weq hw9 ?_
  have hUT : cUT av A16 U lg (2 ^ n) := hUT
  have hubd := cUT_bd (by omega) hUT (show 2 ^ n - 1 < 2 ^ n by omega)
  refine sx_weq (w2 := (sw X ad (va_up (va_up (va_up sc 2 v2) 3 v3) 4 (nI lg)) (va_up (va_up (va_up (va_up (va_up av 13 A13) 14 A14) 15 A15) 16 A16) 18 U))) rfl ?_
  by_cases hUm : U (2 ^ n - 1) = 2147483647
  · skip
    rw [if_pos hUm]
    refine sx_if_ne (pc := 41) (tgt := 46) (B := 0 = 0) hG dX7_split_41 (by decide) (sx_eq0 (by omega)) (fun c41 => ?_) (fun c41 => ?_)
    · skip
      exact absurd (by decide) c41
    · skip
      refine sx_iconst (pc := 44) (v := (-1)) hG dX7_split_44 (by decide +kernel) ?_
      exact hret _ _ _ _ dX7_split_45 rfl ⟨v2, v3, A13, A14, A15, A16, U, hv3, hR2, hUT, Or.inl ⟨hUm, rfl, rfl⟩⟩
  · skip
    rw [if_neg hUm]
    refine sx_if_ne (pc := 41) (tgt := 46) (B := 1 = 0) hG dX7_split_41 (by decide) (sx_eq0 (by omega)) (fun c41 => ?_) (fun c41 => ?_)
    · skip
      refine sx_aload_n (pc := 46) hG dX7_split_46 rfl 0 rfl ?_
      refine sx_get (pc := 47) (v2 := .ref (ad 4)) (ci := 7) hG i_X7_split_7 3 m_X7_split_f33 dX7_split_47 rfl (by decide) 0 rfl rfl rfl ?_
      refine sx_aload_n (pc := 50) hG dX7_split_50 rfl 0 rfl ?_
      refine sx_get (pc := 51) (v2 := .ref (ad 3)) (ci := 7) hG i_X7_split_7 2 m_X7_split_f26 dX7_split_51 rfl (by decide) 0 rfl rfl rfl ?_
      refine sx_aload_n (pc := 54) hG dX7_split_54 rfl 0 rfl ?_
      refine sx_get (pc := 55) (v2 := .ref (ad 2)) (ci := 7) hG i_X7_split_7 1 m_X7_split_f19 dX7_split_55 rfl (by decide) 0 rfl rfl rfl ?_
      refine sx_aload_n (pc := 58) hG dX7_split_58 rfl 0 rfl ?_
      refine sx_get (pc := 59) (v2 := .ref (ad 1)) (ci := 7) hG i_X7_split_7 0 m_X7_split_f12 dX7_split_59 rfl (by decide) 0 rfl rfl rfl ?_
      refine sx_callViw (pc := 62) (n9 := 0) (As := []) (st := [.ref (ad 2), .ref (ad 3), .ref (ad 4)]) (b := (ad 1)) (ci := 5) hG (c_X5_all l X ad (va_up (va_up (va_up sc 2 v2) 3 v3) 4 (nI lg)) (va_up (va_up (va_up (va_up (va_up av 13 A13) 14 A14) 15 A15) 16 A16) 18 U) n hn h1) gX7_split_X5_all rfl (by decide +kernel) rfl 1 rfl rfl rfl dX7_split_62 ⟨rfl, rfl⟩ ⟨Nat.le_of_ble_eq_true rfl, Nat.le_of_ble_eq_true rfl⟩ (Nat.le_of_ble_eq_true rfl) ⟨Nat.le_of_ble_eq_true rfl, Nat.le_of_ble_eq_true rfl⟩ (fun r w1 hp => ?_)
      obtain ⟨hr9, hw9⟩ := hp
      have hr9 : r = (nI (2 ^ n - 1)) := hr9
      subst hr9
      refine sx_weq hw9 ?_
      refine sx_aload_n (pc := 65) hG dX7_split_65 rfl 0 rfl ?_
      refine sx_get (pc := 66) (v2 := .ref (ad 5)) (ci := 7) hG i_X7_split_7 4 m_X7_split_f40 dX7_split_66 rfl (by decide) 0 rfl rfl rfl ?_
      refine sx_callVvw (pc := 69) (n9 := 4) (As := [.ref (ad 3), .ref (ad 2), .int (nI (2 ^ n - 1)), .ref (ad 5)]) (st := []) (b := (ad 4)) (ci := 6) hG (c_X6_tell l X ad (va_up (va_up (va_up sc 2 v2) 3 v3) 4 (nI lg)) (va_up (va_up (va_up (va_up (va_up av 13 A13) 14 A14) 15 A15) 16 A16) 18 U) n hn lg hlg rfl ⟨hg.1, hg.2.1, hg.2.2.1, hg.2.2.2.1, hg.2.2.2.2.1, r3⟩ (fun j q1 q2 => rB_le hn r6 r7 q1 q2) hUT (show U (2 ^ n - 1) < 2147483647 by omega)) gX7_split_X6_tell rfl (by decide +kernel) rfl 4 rfl rfl rfl dX7_split_69 ⟨rfl, rfl⟩ ⟨Nat.le_of_ble_eq_true rfl, Nat.le_of_ble_eq_true rfl⟩ (Nat.le_of_ble_eq_true rfl) ⟨Nat.le_of_ble_eq_true rfl, Nat.le_of_ble_eq_true rfl⟩ (fun w1 hp => ?_)
      obtain ⟨k, S, Z, Q, hw9, hk9, hspl, hzq, hrest⟩ := hp
      have hspl : cSpl av A16 U lg (2 ^ n - 1) S k 0 := cSpl_av (av := (va_up (va_up (va_up (va_up (va_up av 13 A13) 14 A14) 15 A15) 16 A16) 18 U)) (av2 := av) (B := A16) (U := U) (fun _ => rfl) hspl
      refine sx_weq hw9 ?_
      refine sx_weq (w2 := (sw X ad (va_up (va_up (va_up (va_up sc 2 v2) 3 v3) 4 (nI lg)) 5 (nI k)) (va_up (va_up (va_up (va_up (va_up (va_up (va_up (va_up av 13 A13) 14 A14) 15 A15) 16 A16) 18 U) 19 S) 20 Z) 21 Q))) rfl ?_
      refine sx_aload_n (pc := 72) hG dX7_split_72 rfl 0 rfl ?_
      refine sx_get (pc := 73) (v2 := .ref (ad 5)) (ci := 7) hG i_X7_split_7 4 m_X7_split_f40 dX7_split_73 rfl (by decide) 0 rfl rfl rfl ?_
      refine sx_getN (pc := 76) (v2 := .int (nI k)) (ci := 2) hG i_X7_split_2 0 m_X7_split_n119 dX7_split_76 rfl (by decide) 5 rfl rfl rfl ?_
      exact hret _ _ _ _ dX7_split_79 rfl ⟨v2, v3, A13, A14, A15, A16, U, hv3, hR2, hUT, Or.inr ⟨by omega, k, S, Z, Q, rfl, hk9, rfl, hspl, hzq, hrest⟩⟩
    · skip
      exact absurd c41 (by decide)
