/-! THE CLASS: fewest; Joints -/
theorem sx_dec1 (a : Nat) : nI a + Int32.ofInt (-1) = nI a - nI 1 := by rw [Int32.sub_eq_add_neg]; rfl
/-- both sides of a joint -/
def jF (Y : Nat → Nat) (a z j : Nat) : Nat := Y (9 * a + j) + Y (9 * j + 9 + z)
/-- the first joint with the least -/
def jB (Y : Nat → Nat) (a z k q : Nat) : Prop := a ≤ q ∧ q < k ∧ (∀ u, a ≤ u → u < k → jF Y a z q ≤ jF Y a z u) ∧ ∀ u, a ≤ u → u < q → jF Y a z q < jF Y a z u
theorem jB_dV {Z Y : Nat → Nat} {a z q : Nat} (hq : jB Y a z z q) (hz : ¬ z = a) (hlt : dF Z Y a z q < 2000000000) : dV Z Y a z z = dF Z Y a z q ∧ sx_fi (dP a) (dF Z Y a z) q (dV Z Y a z z) := by
  obtain ⟨h1, h2, h3, h4⟩ := hq
  have hp : ¬ dP a q = 0 := by unfold dP; rw [if_pos h1]; decide
  have hle : dV Z Y a z z ≤ dF Z Y a z q := sx_mn_lb h2 hp
  have hi : (if z = a then 0 else 2000000000) = 2000000000 := if_neg hz
  have hge : dF Z Y a z q ≤ dV Z Y a z z := by
    have h5 : dV Z Y a z z < 2000000000 := by omega
    unfold dV at h5 ⊢
    rw [hi] at h5 ⊢
    obtain ⟨b, b1, b2, b3⟩ := sx_mn_at h5
    have hb : a ≤ b := by unfold dP at b2; rcases Nat.lt_or_ge b a with w | w; exact absurd (if_neg (by omega)) b2; exact w
    rw [← b3]
    have := h3 b hb b1
    unfold dF; unfold jF at this; omega
  have e : dV Z Y a z z = dF Z Y a z q := Nat.le_antisymm hle hge
  refine ⟨e, hp, e.symm, fun u hu hpu => ?_⟩
  have hb : a ≤ u := by unfold dP at hpu; rcases Nat.lt_or_ge u a with w | w; exact absurd (if_neg (by omega)) hpu; exact w
  have := h4 u hb hu
  rw [e]; unfold dF; unfold jF at this; omega
theorem i_X0_fewest_0 : ∀ w ∈ u_ws RX0 TX0 2, w ∈ wsX0_fewest := by decide +kernel
theorem m_X0_fewest_f15 : Cond.fieldLink RX0 15 (TX0 1).1 (TX0 1).2.1 (TX0 1).2.2.1 ∈ wsX0_fewest := by decide +kernel
theorem m_X0_fewest_c31 : Cond.constant RX0 31 (131072) ∈ wsX0_fewest := by decide +kernel
theorem i_X0_fewest_2 : ∀ w ∈ u_ws RX2 TX2 4, w ∈ wsX0_fewest := by decide +kernel
theorem m_X0_fewest_n18 : Cond.fieldLinkNest RX0 18 (TX2 0).1 (TX2 0).2.1 (TX2 0).2.2.1 "TubeShop" ∈ sx_nest := by decide +kernel
theorem m_X0_fewest_f9 : Cond.fieldLink RX0 9 (TX0 0).1 (TX0 0).2.1 (TX0 0).2.2.1 ∈ wsX0_fewest := by decide +kernel
theorem m_X0_fewest_n24 : Cond.fieldLinkNest RX0 24 (TX2 2).1 (TX2 2).2.1 (TX2 2).2.2.1 "TubeShop" ∈ sx_nest := by decide +kernel
set_option maxHeartbeats 4000000 in
set_option maxRecDepth 100000 in
theorem c_X0_fewest (l : Launch) (X : sx_X) (ad : Nat → Nat) (sc : Nat → Int32) (av : Nat → Nat → Nat) (m : Nat) (hm : m ≤ 9) (h5 : sc 5 = nI m) (hZ : ∀ j, av 20 j ≤ 4095) (rate v : Nat) (hr : rate ≤ 99) (hv1 : 1 ≤ v) (hv2 : v ≤ 99999) : sx_Mi l yX0_fewest wsX0_fewest { frames := 2, cells := 0, slots := 0, locals := 47 } X [.ref (ad 6), .ref (ad 5), .int (nI rate), .int (nI v)] (sw X ad sc av) (fun r w => (∃ j, j < m ∧ v < av 20 j * rate + 50 ∧ r = -1 ∧ ∃ Vo : Nat → Nat, w = sw X ad sc (va_up av 22 Vo)) ∨ ((∀ j, j < m → av 20 j * rate + 50 ≤ v) ∧ ∃ Vo Fi : Nat → Nat, r = nI (Fi (2 ^ m - 1) / 131072) ∧ w = sw X ad sc (va_up (va_up av 22 Vo) 23 Fi) ∧ (∀ j, j < m → Vo j = av 20 j * rate + 50) ∧ bT Vo Fi m v (2 ^ m))) 0 0 := by
  refine sx_entI (own := RX0) (nL := 6) (by decide +kernel) rfl rfl (Nat.le_of_ble_eq_true rfl) ?_
  intro G hG hN hret
  show sx_W l X G 0 0 0 [(0, .ref (ad 6)), (1, .ref (ad 5)), (2, .int (nI rate)), (3, .int (nI v))] [] (sw X ad sc av)
  have hp9 := sx_p9 hm
  have hp1 : 1 ≤ 2 ^ m := Nat.one_le_two_pow
  have loop_k : ∀ (fuel : Nat), ∀ (k : Nat) (Vo : Nat → Nat), (k ≤ m) → (∀ j, j < k → Vo j = av 20 j * rate + 50 ∧ av 20 j * rate + 50 ≤ v) → m - k < fuel → sx_W l X G 0 0 3 [(0, .ref (ad 6)), (1, .ref (ad 5)), (2, .int (nI rate)), (3, .int (nI v)), (4, .int (nI k))] [] (sw X ad sc (va_up av 22 Vo)) := by
    intro fuel
    induction fuel with
    | zero => intro k Vo hk hA hm; exact absurd hm (Nat.not_lt_zero _)
    | succ fuel ih_k =>
      intro k Vo hk hA hm_k
      have hZk := hZ k
      have hzm := Nat.mul_le_mul hZk hr
      have loop_s : ∀ (fuel : Nat), ∀ (s : Nat) (Fi : Nat → Nat), (k = m) → (1 ≤ s) → (s ≤ 2 ^ m) → (bT Vo Fi m v s) → 2 ^ m - s < fuel → sx_W l X G 0 0 70 [(0, .ref (ad 6)), (1, .ref (ad 5)), (2, .int (nI rate)), (3, .int (nI v)), (4, .int (nI (2 ^ m - 1))), (5, .int (nI s))] [] (sw X ad sc (va_up (va_up av 22 Vo) 23 Fi)) := by
        intro fuel
        induction fuel with
        | zero => intro s Fi hkm hs1 hs hT hm; exact absurd hm (Nat.not_lt_zero _)
        | succ fuel ih_s =>
          intro s Fi hkm hs1 hs hT hm_s
          refine sx_iload (pc := 70) hG dX0_fewest_70 5 rfl ?_
          refine sx_iload (pc := 72) hG dX0_fewest_72 4 rfl ?_
          refine sx_icmp_gt (pc := 74) (tgt := 101) (B := (2 ^ m - 1) < s) hG dX0_fewest_74 (by decide) (nI_ltI (by omega) (by omega)) (fun c74 => ?_) (fun c74 => ?_)
          · skip
            have hs9 : s = 2 ^ m := by omega
            have hFb := bT_bd hv2 (by omega) hT (show 2 ^ m - 1 < s by omega)
            have hFp := sx_pc_n0 9 (by decide) (2 ^ m - 1) (show _ < 2 ^ 9 by omega)
            refine sx_aload_n (pc := 101) hG dX0_fewest_101 rfl 0 rfl ?_
            refine sx_get (pc := 102) (v2 := .ref (ad 23)) (ci := 0) hG i_X0_fewest_0 1 m_X0_fewest_f15 dX0_fewest_102 rfl (by decide) 6 rfl rfl rfl ?_
            refine sx_iload (pc := 105) hG dX0_fewest_105 4 rfl ?_
            refine sx_iald (pc := 107) (v := nI (Fi (2 ^ m - 1))) hG 23 dX0_fewest_107 rfl (by decide) (by omega) rfl ?_
            refine sx_ldc (pc := 108) (v2 := nI 131072) hG m_X0_fewest_c31 dX0_fewest_108 (by decide +kernel) ?_
            refine sx_idiv (pc := 110) (v := (nI ((Fi (2 ^ m - 1)) / 131072))) hG dX0_fewest_110 (nI_ne0 (by decide) (by decide)) (pk_div (by omega) (by decide) (by decide)) ?_
            exact hret _ _ _ _ dX0_fewest_111 rfl (Or.inr ⟨fun j hj => (hA j (by omega)).2, Vo, Fi, rfl, rfl, fun j hj => (hA j (by omega)).1, by rw [← hs9]; exact hT⟩)
          · skip
            refine sx_aload_n (pc := 77) hG dX0_fewest_77 rfl 0 rfl ?_
            refine sx_get (pc := 78) (v2 := .ref (ad 23)) (ci := 0) hG i_X0_fewest_0 1 m_X0_fewest_f15 dX0_fewest_78 rfl (by decide) 6 rfl rfl rfl ?_
            refine sx_iload (pc := 81) hG dX0_fewest_81 5 rfl ?_
            refine sx_aload_n (pc := 83) hG dX0_fewest_83 rfl 0 rfl ?_
            refine sx_aload_n (pc := 84) hG dX0_fewest_84 rfl 1 rfl ?_
            refine sx_getN (pc := 85) (v2 := .int (nI m)) (ci := 2) hG i_X0_fewest_2 0 m_X0_fewest_n18 dX0_fewest_85 rfl (by decide) 5 rfl rfl (congrArg Value.int h5) ?_
            refine sx_iload (pc := 88) hG dX0_fewest_88 5 rfl ?_
            refine sx_iload_n (pc := 90) hG dX0_fewest_90 rfl 3 rfl ?_
            refine sx_callViw (pc := 91) (n9 := 3) (As := [.int (nI m), .int (nI s), .int (nI v)]) (st := [.int (nI s), .ref (ad 23)]) (b := (ad 6)) (ci := 0) hG (c_X0_leastFill l X ad sc (va_up (va_up av 22 Vo) 23 Fi) m s v hm hs1 (by omega) hv2 (fun j hj => by rw [show (va_up (va_up av 22 Vo) 23 Fi) 22 j = Vo j from rfl, (hA j (by omega)).1]; exact (hA j (by omega)).2) (fun j hj => by have h9 := bT_bd hv2 (by omega) hT hj; have hp := sx_pc_n0 9 (by decide) j (show j < 2 ^ 9 by omega); show Fi j ≤ 2500000; omega)) gX0_fewest_X0_leastFill rfl (by decide +kernel) rfl 6 rfl rfl rfl dX0_fewest_91 ⟨rfl, rfl⟩ ⟨Nat.le_of_ble_eq_true rfl, Nat.le_of_ble_eq_true rfl⟩ (Nat.le_of_ble_eq_true rfl) ⟨Nat.le_of_ble_eq_true rfl, Nat.le_of_ble_eq_true rfl⟩ (fun r w1 hp => ?_)
            obtain ⟨hr9, hw9⟩ := hp
            have hr9 : r = (nI (bLv Vo Fi v s m)) := hr9
            subst hr9
            refine sx_weq hw9 ?_
            refine sx_iastN (pc := 94) (w2 := (sw X ad sc (va_up (va_up av 22 Vo) 23 (va_up Fi s (bLv Vo Fi v s m))))) hG 23 dX0_fewest_94 rfl (by decide) (by omega) rfl ?_
            refine sx_iinc (pc := 95) (v := (nI (s + 1))) (lv2 := [(0, .ref (ad 6)), (1, .ref (ad 5)), (2, .int (nI rate)), (3, .int (nI v)), (4, .int (nI (2 ^ m - 1))), (5, .int (nI (s + 1)))]) hG [1, 2, 3, 4, 5, 0] dX0_fewest_95 5 rfl (sx_inc s) hN (by decide) rfl ?_
            refine sx_goto (pc := 98) (tgt := 70) hG dX0_fewest_98 (by decide) ?_
            refine ih_s (s + 1) _ hkm (by omega) (by omega) (bT_next hm hv2 (fun j hj => by rw [(hA j (by omega)).1]; exact (hA j (by omega)).2) hs1 (by omega) hT) (by omega)
      refine sx_iload (pc := 3) hG dX0_fewest_3 4 rfl ?_
      refine sx_aload_n (pc := 5) hG dX0_fewest_5 rfl 1 rfl ?_
      refine sx_getN (pc := 6) (v2 := .int (nI m)) (ci := 2) hG i_X0_fewest_2 0 m_X0_fewest_n18 dX0_fewest_6 rfl (by decide) 5 rfl rfl (congrArg Value.int h5) ?_
      refine sx_icmp_ge (pc := 9) (tgt := 50) (B := m ≤ k) hG dX0_fewest_9 (by decide) (nI_leI (by omega) (by omega)) (fun c9 => ?_) (fun c9 => ?_)
      · skip
        refine sx_iconst (pc := 50) (v := nI 1) hG dX0_fewest_50 (by decide +kernel) ?_
        refine sx_aload_n (pc := 51) hG dX0_fewest_51 rfl 1 rfl ?_
        refine sx_getN (pc := 52) (v2 := .int (nI m)) (ci := 2) hG i_X0_fewest_2 0 m_X0_fewest_n18 dX0_fewest_52 rfl (by decide) 5 rfl rfl (congrArg Value.int h5) ?_
        refine sx_ishl (pc := 55) (v := (nI (2 ^ m))) hG dX0_fewest_55 (sx_one (by omega)) ?_
        refine sx_iconst (pc := 56) (v := nI 1) hG dX0_fewest_56 (by decide +kernel) ?_
        refine sx_isub (pc := 57) (v := (nI ((2 ^ m) - 1))) hG dX0_fewest_57 (pk_sub (by omega)) ?_
        refine sx_istore (pc := 58) (lv2 := [(0, .ref (ad 6)), (1, .ref (ad 5)), (2, .int (nI rate)), (3, .int (nI v)), (4, .int (nI ((2 ^ m) - 1)))]) hG [1, 2, 3, 4, 0] dX0_fewest_58 hN (by decide) rfl ?_
        refine sx_aload_n (pc := 60) hG dX0_fewest_60 rfl 0 rfl ?_
        refine sx_get (pc := 61) (v2 := .ref (ad 23)) (ci := 0) hG i_X0_fewest_0 1 m_X0_fewest_f15 dX0_fewest_61 rfl (by decide) 6 rfl rfl rfl ?_
        refine sx_iconst (pc := 64) (v := nI 0) hG dX0_fewest_64 (by decide +kernel) ?_
        refine sx_iload_n (pc := 65) hG dX0_fewest_65 rfl 3 rfl ?_
        refine sx_iastN (pc := 66) (w2 := (sw X ad sc (va_up (va_up av 22 Vo) 23 (va_up (av 23) 0 v)))) hG 23 dX0_fewest_66 rfl (by decide) (by omega) rfl ?_
        refine sx_iconst (pc := 67) (v := nI 1) hG dX0_fewest_67 (by decide +kernel) ?_
        refine sx_istore (pc := 68) (lv2 := [(0, .ref (ad 6)), (1, .ref (ad 5)), (2, .int (nI rate)), (3, .int (nI v)), (4, .int (nI ((2 ^ m) - 1))), (5, .int (nI 1))]) hG [1, 2, 3, 4, 5, 0] dX0_fewest_68 hN (by decide) rfl ?_
        refine loop_s _ 1 _ (by omega) (Nat.le_refl _) hp1 ⟨rfl, fun q h1 h2 => absurd h2 (by omega)⟩ (Nat.lt_succ_self _)
      · skip
        refine sx_aload_n (pc := 12) hG dX0_fewest_12 rfl 0 rfl ?_
        refine sx_get (pc := 13) (v2 := .ref (ad 22)) (ci := 0) hG i_X0_fewest_0 0 m_X0_fewest_f9 dX0_fewest_13 rfl (by decide) 6 rfl rfl rfl ?_
        refine sx_iload (pc := 16) hG dX0_fewest_16 4 rfl ?_
        refine sx_aload_n (pc := 18) hG dX0_fewest_18 rfl 1 rfl ?_
        refine sx_getN (pc := 19) (v2 := .ref (ad 20)) (ci := 2) hG i_X0_fewest_2 2 m_X0_fewest_n24 dX0_fewest_19 rfl (by decide) 5 rfl rfl rfl ?_
        refine sx_iload (pc := 22) hG dX0_fewest_22 4 rfl ?_
        refine sx_iald (pc := 24) (v := nI ((av 20) k)) hG 20 dX0_fewest_24 rfl (by decide) (by omega) rfl ?_
        refine sx_iload_n (pc := 25) hG dX0_fewest_25 rfl 2 rfl ?_
        refine sx_imul (pc := 26) (v := (nI (((av 20) k) * rate))) hG dX0_fewest_26 (pk_mul ((av 20) k) rate) ?_
        refine sx_bipush (pc := 27) (v := nI 50) hG dX0_fewest_27 (by decide +kernel) ?_
        refine sx_iadd (pc := 29) (v := (nI (((av 20) k) * rate + 50))) hG dX0_fewest_29 (nI_add (((av 20) k) * rate) 50) ?_
        refine sx_iastN (pc := 30) (w2 := (sw X ad sc (va_up av 22 (va_up Vo k (((av 20) k) * rate + 50))))) hG 22 dX0_fewest_30 rfl (by decide) (by omega) rfl ?_
        refine sx_aload_n (pc := 31) hG dX0_fewest_31 rfl 0 rfl ?_
        refine sx_get (pc := 32) (v2 := .ref (ad 22)) (ci := 0) hG i_X0_fewest_0 0 m_X0_fewest_f9 dX0_fewest_32 rfl (by decide) 6 rfl rfl rfl ?_
        refine sx_iload (pc := 35) hG dX0_fewest_35 4 rfl ?_
        refine sx_iald (pc := 37) (v := nI (((av 20) k) * rate + 50)) hG 22 dX0_fewest_37 rfl (by decide) (by omega) (congrArg nI (if_pos rfl)) ?_
        refine sx_iload_n (pc := 38) hG dX0_fewest_38 rfl 3 rfl ?_
        refine sx_icmp_le (pc := 39) (tgt := 44) (B := (((av 20) k) * rate + 50) ≤ v) hG dX0_fewest_39 (by decide) (nI_leI (by omega) (by omega)) (fun c39 => ?_) (fun c39 => ?_)
        · skip
          refine sx_iinc (pc := 44) (v := (nI (k + 1))) (lv2 := [(0, .ref (ad 6)), (1, .ref (ad 5)), (2, .int (nI rate)), (3, .int (nI v)), (4, .int (nI (k + 1)))]) hG [1, 2, 3, 4, 0] dX0_fewest_44 4 rfl (sx_inc k) hN (by decide) rfl ?_
          refine sx_goto (pc := 47) (tgt := 3) hG dX0_fewest_47 (by decide) ?_
          refine ih_k (k + 1) _ (by omega) (fun j hj => by unfold va_up; by_cases e : j = k; (subst e; rw [if_pos rfl]; exact ⟨rfl, c39⟩); (rw [if_neg e]; exact hA j (by omega))) (by omega)
        · skip
          refine sx_iconst (pc := 42) (v := (-1)) hG dX0_fewest_42 (by decide +kernel) ?_
          exact hret _ _ _ _ dX0_fewest_43 rfl (Or.inl ⟨k, by omega, by omega, rfl, _, rfl⟩)
  refine sx_iconst (pc := 0) (v := nI 0) hG dX0_fewest_0 (by decide +kernel) ?_
  refine sx_istore (pc := 1) (lv2 := [(0, .ref (ad 6)), (1, .ref (ad 5)), (2, .int (nI rate)), (3, .int (nI v)), (4, .int (nI 0))]) hG [1, 2, 3, 4, 0] dX0_fewest_1 hN (by decide) rfl ?_
  refine sx_weq (w2 := (sw X ad sc (va_up av 22 (av 22)))) rfl ?_
  refine loop_k _ 0 (av 22) (Nat.zero_le _) (fun j h => absurd h (Nat.not_lt_zero _)) (Nat.lt_succ_self _)

theorem i_X1_bothSides_1 : ∀ w ∈ u_ws RX1 TX1 3, w ∈ wsX1_bothSides := by decide +kernel
theorem m_X1_bothSides_f18 : Cond.fieldLink RX1 18 (TX1 2).1 (TX1 2).2.1 (TX1 2).2.2.1 ∈ wsX1_bothSides := by decide +kernel
set_option maxHeartbeats 4000000 in
set_option maxRecDepth 100000 in
theorem c_X1_bothSides (l : Launch) (X : sx_X) (ad : Nat → Nat) (sc : Nat → Int32) (av : Nat → Nat → Nat) (a j z : Nat) (hz : z < 9) (ha : a ≤ j) (hj : j < z) (hY : ∀ j, av 24 j ≤ 10000000) : sx_Mi l yX1_bothSides wsX1_bothSides { frames := 0, cells := 0, slots := 0, locals := 0 } X [.ref (ad 7), .int (nI a), .int (nI j), .int (nI z)] (sw X ad sc av) (fun r w => r = nI (jF (av 24) a z j) ∧ w = sw X ad sc av) 0 0 := by
  refine sx_entI (own := RX1) (nL := 4) (by decide +kernel) rfl rfl (Nat.le_of_ble_eq_true rfl) ?_
  intro G hG hN hret
  show sx_W l X G 0 0 0 [(0, .ref (ad 7)), (1, .int (nI a)), (2, .int (nI j)), (3, .int (nI z))] [] (sw X ad sc av)
  have y1 := hY (a * 9 + j)
  have y2 := hY ((j + 1) * 9 + z)
  refine sx_aload_n (pc := 0) hG dX1_bothSides_0 rfl 0 rfl ?_
  refine sx_get (pc := 1) (v2 := .ref (ad 24)) (ci := 1) hG i_X1_bothSides_1 2 m_X1_bothSides_f18 dX1_bothSides_1 rfl (by decide) 7 rfl rfl rfl ?_
  refine sx_iload_n (pc := 4) hG dX1_bothSides_4 rfl 1 rfl ?_
  refine sx_bipush (pc := 5) (v := nI 9) hG dX1_bothSides_5 (by decide +kernel) ?_
  refine sx_imul (pc := 7) (v := (nI (a * 9))) hG dX1_bothSides_7 (pk_mul a 9) ?_
  refine sx_iload_n (pc := 8) hG dX1_bothSides_8 rfl 2 rfl ?_
  refine sx_iadd (pc := 9) (v := (nI (a * 9 + j))) hG dX1_bothSides_9 (nI_add (a * 9) j) ?_
  refine sx_iald (pc := 10) (v := nI ((av 24) (a * 9 + j))) hG 24 dX1_bothSides_10 rfl (by decide) (by omega) rfl ?_
  refine sx_aload_n (pc := 11) hG dX1_bothSides_11 rfl 0 rfl ?_
  refine sx_get (pc := 12) (v2 := .ref (ad 24)) (ci := 1) hG i_X1_bothSides_1 2 m_X1_bothSides_f18 dX1_bothSides_12 rfl (by decide) 7 rfl rfl rfl ?_
  refine sx_iload_n (pc := 15) hG dX1_bothSides_15 rfl 2 rfl ?_
  refine sx_iconst (pc := 16) (v := nI 1) hG dX1_bothSides_16 (by decide +kernel) ?_
  refine sx_iadd (pc := 17) (v := (nI (j + 1))) hG dX1_bothSides_17 (nI_add j 1) ?_
  refine sx_bipush (pc := 18) (v := nI 9) hG dX1_bothSides_18 (by decide +kernel) ?_
  refine sx_imul (pc := 20) (v := (nI ((j + 1) * 9))) hG dX1_bothSides_20 (pk_mul (j + 1) 9) ?_
  refine sx_iload_n (pc := 21) hG dX1_bothSides_21 rfl 3 rfl ?_
  refine sx_iadd (pc := 22) (v := (nI ((j + 1) * 9 + z))) hG dX1_bothSides_22 (nI_add ((j + 1) * 9) z) ?_
  refine sx_iald (pc := 23) (v := nI ((av 24) ((j + 1) * 9 + z))) hG 24 dX1_bothSides_23 rfl (by decide) (by omega) rfl ?_
  refine sx_iadd (pc := 24) (v := (nI ((av 24) (a * 9 + j) + ((av 24) ((j + 1) * 9 + z))))) hG dX1_bothSides_24 (nI_add ((av 24) (a * 9 + j)) ((av 24) ((j + 1) * 9 + z))) ?_
  exact hret _ _ _ _ dX1_bothSides_25 rfl ⟨congrArg nI (by unfold jF; rw [show 9 * a + j = a * 9 + j by omega, show 9 * j + 9 + z = (j + 1) * 9 + z by omega]), rfl⟩

set_option maxHeartbeats 4000000 in
set_option maxRecDepth 100000 in
theorem c_X1_bestJoint (l : Launch) (X : sx_X) (ad : Nat → Nat) (sc : Nat → Int32) (av : Nat → Nat → Nat) (a z : Nat) (hz : z < 9) (haz : a < z) (hY : ∀ j, av 24 j ≤ 10000000) : sx_Mi l yX1_bestJoint wsX1_bestJoint { frames := 1, cells := 0, slots := 0, locals := 23 } X [.ref (ad 7), .int (nI a), .int (nI z)] (sw X ad sc av) (fun r w => ∃ q, r = nI q ∧ w = sw X ad sc av ∧ jB (av 24) a z z q) 0 0 := by
  refine sx_entI (own := RX1) (nL := 5) (by decide +kernel) rfl rfl (Nat.le_of_ble_eq_true rfl) ?_
  intro G hG hN hret
  show sx_W l X G 0 0 0 [(0, .ref (ad 7)), (1, .int (nI a)), (2, .int (nI z))] [] (sw X ad sc av)
  have loop_j : ∀ (fuel : Nat), ∀ (j q : Nat), (j ≤ z) → (jB (av 24) a z j q) → z - j < fuel → sx_W l X G 0 0 7 [(0, .ref (ad 7)), (1, .int (nI a)), (2, .int (nI z)), (3, .int (nI q)), (4, .int (nI j))] [] (sw X ad sc av) := by
    intro fuel
    induction fuel with
    | zero => intro j q hj hq hm; exact absurd hm (Nat.not_lt_zero _)
    | succ fuel ih_j =>
      intro j q hj hq hm_j
      obtain ⟨q1, q2, q3, q4⟩ := id hq
      have hb : ∀ u, jF (av 24) a z u ≤ 20000000 := fun u => by have h1 := hY (9 * a + u); have h2 := hY (9 * u + 9 + z); unfold jF; omega
      have hb1 := hb j
      have hb2 := hb q
      refine sx_iload (pc := 7) hG dX1_bestJoint_7 4 rfl ?_
      refine sx_iload_n (pc := 9) hG dX1_bestJoint_9 rfl 2 rfl ?_
      refine sx_icmp_ge (pc := 10) (tgt := 40) (B := z ≤ j) hG dX1_bestJoint_10 (by decide) (nI_leI (by omega) (by omega)) (fun c10 => ?_) (fun c10 => ?_)
      · skip
        refine sx_iload_n (pc := 40) hG dX1_bestJoint_40 rfl 3 rfl ?_
        have hjz : j = z := by omega
        subst hjz
        exact hret _ _ _ _ dX1_bestJoint_41 rfl ⟨q, rfl, rfl, hq⟩
      · skip
        refine sx_aload_n (pc := 13) hG dX1_bestJoint_13 rfl 0 rfl ?_
        refine sx_iload_n (pc := 14) hG dX1_bestJoint_14 rfl 1 rfl ?_
        refine sx_iload (pc := 15) hG dX1_bestJoint_15 4 rfl ?_
        refine sx_iload_n (pc := 17) hG dX1_bestJoint_17 rfl 2 rfl ?_
        refine sx_callViw (pc := 18) (n9 := 3) (As := [.int (nI a), .int (nI j), .int (nI z)]) (st := []) (b := (ad 7)) (ci := 1) hG (c_X1_bothSides l X ad sc av a j z (by omega) (by omega) (by omega) hY) gX1_bestJoint_X1_bothSides rfl (by decide +kernel) rfl 7 rfl rfl rfl dX1_bestJoint_18 ⟨rfl, rfl⟩ ⟨Nat.le_of_ble_eq_true rfl, Nat.le_of_ble_eq_true rfl⟩ (Nat.le_of_ble_eq_true rfl) ⟨Nat.le_of_ble_eq_true rfl, Nat.le_of_ble_eq_true rfl⟩ (fun r w1 hp => ?_)
        obtain ⟨hr9, hw9⟩ := hp
        have hr9 : r = (nI (jF (av 24) a z j)) := hr9
        subst hr9
        refine sx_weq hw9 ?_
        refine sx_aload_n (pc := 21) hG dX1_bestJoint_21 rfl 0 rfl ?_
        refine sx_iload_n (pc := 22) hG dX1_bestJoint_22 rfl 1 rfl ?_
        refine sx_iload_n (pc := 23) hG dX1_bestJoint_23 rfl 3 rfl ?_
        refine sx_iload_n (pc := 24) hG dX1_bestJoint_24 rfl 2 rfl ?_
        refine sx_callViw (pc := 25) (n9 := 3) (As := [.int (nI a), .int (nI q), .int (nI z)]) (st := [.int (nI (jF (av 24) a z j))]) (b := (ad 7)) (ci := 1) hG (c_X1_bothSides l X ad sc av a q z (by omega) (by omega) (by omega) hY) gX1_bestJoint_X1_bothSides rfl (by decide +kernel) rfl 7 rfl rfl rfl dX1_bestJoint_25 ⟨rfl, rfl⟩ ⟨Nat.le_of_ble_eq_true rfl, Nat.le_of_ble_eq_true rfl⟩ (Nat.le_of_ble_eq_true rfl) ⟨Nat.le_of_ble_eq_true rfl, Nat.le_of_ble_eq_true rfl⟩ (fun r w1 hp => ?_)
        obtain ⟨hr9, hw9⟩ := hp
        have hr9 : r = (nI (jF (av 24) a z q)) := hr9
        subst hr9
        refine sx_weq hw9 ?_
        refine sx_icmp_ge (pc := 28) (tgt := 34) (B := (jF (av 24) a z q) ≤ (jF (av 24) a z j)) hG dX1_bestJoint_28 (by decide) (nI_leI (by omega) (by omega)) (fun c28 => ?_) (fun c28 => ?_)
        · skip
          refine sx_iinc (pc := 34) (v := (nI (j + 1))) (lv2 := [(0, .ref (ad 7)), (1, .int (nI a)), (2, .int (nI z)), (3, .int (nI q)), (4, .int (nI (j + 1)))]) hG [1, 2, 3, 4, 0] dX1_bestJoint_34 4 rfl (sx_inc j) hN (by decide) rfl ?_
          refine sx_goto (pc := 37) (tgt := 7) hG dX1_bestJoint_37 (by decide) ?_
          refine ih_j (j + 1) q (by omega) ⟨q1, by omega, fun u h1 h2 => by rcases Nat.lt_or_ge u j with h | h; exact q3 u h1 h; (have e : u = j := (by omega); subst e; exact c28), q4⟩ (by omega)
        · skip
          refine sx_iload (pc := 31) hG dX1_bestJoint_31 4 rfl ?_
          refine sx_istore_n (pc := 33) (lv2 := [(0, .ref (ad 7)), (1, .int (nI a)), (2, .int (nI z)), (3, .int (nI j)), (4, .int (nI j))]) hG [1, 2, 3, 0, 4] dX1_bestJoint_33 rfl hN (by decide) rfl ?_
          refine sx_iinc (pc := 34) (v := (nI (j + 1))) (lv2 := [(0, .ref (ad 7)), (1, .int (nI a)), (2, .int (nI z)), (3, .int (nI j)), (4, .int (nI (j + 1)))]) hG [1, 2, 3, 4, 0] dX1_bestJoint_34 4 rfl (sx_inc j) hN (by decide) rfl ?_
          refine sx_goto (pc := 37) (tgt := 7) hG dX1_bestJoint_37 (by decide) ?_
          refine ih_j (j + 1) j (by omega) ⟨by omega, by omega, fun u h1 h2 => by rcases Nat.lt_or_ge u j with h | h; (have := q3 u h1 h; omega); (have e : u = j := (by omega); subst e; exact Nat.le_refl _), fun u h1 h2 => by have := q3 u h1 h2; omega⟩ (by omega)
  refine sx_iload_n (pc := 0) hG dX1_bestJoint_0 rfl 1 rfl ?_
  refine sx_istore_n (pc := 1) (lv2 := [(0, .ref (ad 7)), (1, .int (nI a)), (2, .int (nI z)), (3, .int (nI a))]) hG [1, 2, 3, 0] dX1_bestJoint_1 rfl hN (by decide) rfl ?_
  refine sx_iload_n (pc := 2) hG dX1_bestJoint_2 rfl 1 rfl ?_
  refine sx_iconst (pc := 3) (v := nI 1) hG dX1_bestJoint_3 (by decide +kernel) ?_
  refine sx_iadd (pc := 4) (v := (nI (a + 1))) hG dX1_bestJoint_4 (nI_add a 1) ?_
  refine sx_istore (pc := 5) (lv2 := [(0, .ref (ad 7)), (1, .int (nI a)), (2, .int (nI z)), (3, .int (nI a)), (4, .int (nI (a + 1)))]) hG [1, 2, 3, 4, 0] dX1_bestJoint_5 hN (by decide) rfl ?_
  refine loop_j _ (a + 1) a (by omega) ⟨Nat.le_refl _, by omega, fun u h1 h2 => by have e : u = a := (by omega); subst e; exact Nat.le_refl _, fun u h1 h2 => absurd h2 (by omega)⟩ (Nat.lt_succ_self _)
