/-! STATIC METHODS OF NUMBERS, of both sides -/
def sx_piece (dx dy : Nat) : Nat := if dx < dy then 14 * dx + 10 * (dy - dx) else 14 * dy + 10 * (dx - dy)
theorem sx_far_le (a b n : Nat) (ha : a < n) (hb : b < n) : sx_far a b < n := by unfold sx_far; split <;> omega
set_option maxHeartbeats 4000000 in
set_option maxRecDepth 100000 in
/-- far(a, b) -/
theorem c_X8_far (l : Launch) (X : sx_X) (ws : va_W) (a b : Nat) (ha : a < 2 ^ 30) (hb : b < 2 ^ 30) : sx_Mi l yX8_far wsX8_far { frames := 0, cells := 0, slots := 0, locals := 0 } X [.int (nI a), .int (nI b)] ws (fun r w => r = nI (sx_far a b) ∧ w = ws) 0 0 := by
  refine sx_entI (own := RX8) (nL := 2) (by decide +kernel) rfl rfl (Nat.le_of_ble_eq_true rfl) ?_
  intro G hG hN hret
  show sx_W l X G 0 0 0 [(0, .int (nI a)), (1, .int (nI b))] [] ws
  refine sx_iload_n (pc := 0) hG dX8_far_0 rfl 0 rfl ?_
  refine sx_iload_n (pc := 1) hG dX8_far_1 rfl 1 rfl ?_
  refine sx_icmp_ge (pc := 2) (tgt := 11) (B := b ≤ a) hG dX8_far_2 (by decide) (nI_leI (by omega) (by omega)) (fun c2 => ?_) (fun c2 => ?_)
  · skip
    refine sx_iload_n (pc := 11) hG dX8_far_11 rfl 0 rfl ?_
    refine sx_iload_n (pc := 12) hG dX8_far_12 rfl 1 rfl ?_
    refine sx_isub (pc := 13) (v := (nI (a - b))) hG dX8_far_13 (pk_sub (by omega)) ?_
    exact hret _ _ _ _ dX8_far_14 rfl ⟨congrArg nI (by unfold sx_far; split <;> omega), rfl⟩
  · skip
    refine sx_iload_n (pc := 5) hG dX8_far_5 rfl 1 rfl ?_
    refine sx_iload_n (pc := 6) hG dX8_far_6 rfl 0 rfl ?_
    refine sx_isub (pc := 7) (v := (nI (b - a))) hG dX8_far_7 (pk_sub (by omega)) ?_
    refine sx_goto (pc := 8) (tgt := 14) hG dX8_far_8 (by decide) ?_
    exact hret _ _ _ _ dX8_far_14 rfl ⟨congrArg nI (by unfold sx_far; split <;> omega), rfl⟩

set_option maxHeartbeats 4000000 in
set_option maxRecDepth 100000 in
theorem c_X7_payOf (l : Launch) (X : sx_X) (ws : va_W) (a : Nat) (ha : a < 2 ^ 31) : sx_Mi l yX7_payOf wsX7_payOf { frames := 0, cells := 0, slots := 0, locals := 0 } X [.int (nI a)] ws (fun r w => r = nI (a / 4096) ∧ w = ws) 0 0 := by
  refine sx_entI (own := RX7) (nL := 1) (by decide +kernel) rfl rfl (Nat.le_of_ble_eq_true rfl) ?_
  intro G hG hN hret
  show sx_W l X G 0 0 0 [(0, .int (nI a))] [] ws
  refine sx_iload_n (pc := 0) hG dX7_payOf_0 rfl 0 rfl ?_
  refine sx_sipush (pc := 1) (v := nI 4096) hG dX7_payOf_1 (by decide +kernel) ?_
  refine sx_idiv (pc := 4) (v := (nI (a / 4096))) hG dX7_payOf_4 (nI_ne0 (by decide) (by decide)) (pk_div (by omega) (by decide) (by decide)) ?_
  exact hret _ _ _ _ dX7_payOf_5 rfl ⟨rfl, rfl⟩

set_option maxHeartbeats 4000000 in
set_option maxRecDepth 100000 in
theorem c_X7_lengthOf (l : Launch) (X : sx_X) (ws : va_W) (a : Nat) (ha : a < 2 ^ 31) : sx_Mi l yX7_lengthOf wsX7_lengthOf { frames := 0, cells := 0, slots := 0, locals := 0 } X [.int (nI a)] ws (fun r w => r = nI (a % 4096) ∧ w = ws) 0 0 := by
  refine sx_entI (own := RX7) (nL := 1) (by decide +kernel) rfl rfl (Nat.le_of_ble_eq_true rfl) ?_
  intro G hG hN hret
  show sx_W l X G 0 0 0 [(0, .int (nI a))] [] ws
  refine sx_iload_n (pc := 0) hG dX7_lengthOf_0 rfl 0 rfl ?_
  refine sx_sipush (pc := 1) (v := nI 4096) hG dX7_lengthOf_1 (by decide +kernel) ?_
  refine sx_irem (pc := 4) (v := (nI (a % 4096))) hG dX7_lengthOf_4 (nI_ne0 (by decide) (by decide)) (pk_rem (by omega) (by decide) (by decide)) ?_
  exact hret _ _ _ _ dX7_lengthOf_5 rfl ⟨rfl, rfl⟩

set_option maxHeartbeats 4000000 in
set_option maxRecDepth 100000 in
theorem c_X7_bitOf (l : Launch) (X : sx_X) (ws : va_W) (a : Nat) (ha : a < 18) : sx_Mi l yX7_bitOf wsX7_bitOf { frames := 0, cells := 0, slots := 0, locals := 0 } X [.int (nI a)] ws (fun r w => r = nI (2 ^ (a / 2)) ∧ w = ws) 0 0 := by
  refine sx_entI (own := RX7) (nL := 1) (by decide +kernel) rfl rfl (Nat.le_of_ble_eq_true rfl) ?_
  intro G hG hN hret
  show sx_W l X G 0 0 0 [(0, .int (nI a))] [] ws
  refine sx_iconst (pc := 0) (v := nI 1) hG dX7_bitOf_0 (by decide +kernel) ?_
  refine sx_iload_n (pc := 1) hG dX7_bitOf_1 rfl 0 rfl ?_
  refine sx_iconst (pc := 2) (v := nI 1) hG dX7_bitOf_2 (by decide +kernel) ?_
  refine sx_ishr (pc := 3) (v := (nI (a / 2 ^ 1))) hG dX7_bitOf_3 (sx_shr (by omega) (by omega)) ?_
  refine sx_ishl (pc := 4) (v := (nI (2 ^ (a / 2 ^ 1)))) hG dX7_bitOf_4 (sx_one (by omega)) ?_
  exact hret _ _ _ _ dX7_bitOf_5 rfl ⟨by rw [Nat.pow_one], rfl⟩

theorem m_X0_putInto_c31 : Cond.constant RX0 31 (131072) ∈ wsX0_putInto := by decide +kernel
set_option maxHeartbeats 4000000 in
set_option maxRecDepth 100000 in
theorem c_X0_putInto (l : Launch) (X : sx_X) (ws : va_W) (f v u : Nat) (hf : f < 2 ^ 30) (hv : v < 2 ^ 20) (hu : u < 2 ^ 17) : sx_Mi l yX0_putInto wsX0_putInto { frames := 0, cells := 0, slots := 0, locals := 0 } X [.int (nI f), .int (nI v), .int (nI u)] ws (fun r w => r = nI (if f % 131072 + v ≤ u then f + v else (f / 131072 + 1) * 131072 + v) ∧ w = ws) 0 0 := by
  refine sx_entI (own := RX0) (nL := 3) (by decide +kernel) rfl rfl (Nat.le_of_ble_eq_true rfl) ?_
  intro G hG hN hret
  show sx_W l X G 0 0 0 [(0, .int (nI f)), (1, .int (nI v)), (2, .int (nI u))] [] ws
  refine sx_iload_n (pc := 0) hG dX0_putInto_0 rfl 0 rfl ?_
  refine sx_ldc (pc := 1) (v2 := nI 131072) hG m_X0_putInto_c31 dX0_putInto_1 (by decide +kernel) ?_
  refine sx_irem (pc := 3) (v := (nI (f % 131072))) hG dX0_putInto_3 (nI_ne0 (by decide) (by decide)) (pk_rem (by omega) (by decide) (by decide)) ?_
  refine sx_iload_n (pc := 4) hG dX0_putInto_4 rfl 1 rfl ?_
  refine sx_iadd (pc := 5) (v := (nI (f % 131072 + v))) hG dX0_putInto_5 (nI_add (f % 131072) v) ?_
  refine sx_iload_n (pc := 6) hG dX0_putInto_6 rfl 2 rfl ?_
  refine sx_icmp_gt (pc := 7) (tgt := 14) (B := u < (f % 131072 + v)) hG dX0_putInto_7 (by decide) (nI_ltI (by omega) (by omega)) (fun c7 => ?_) (fun c7 => ?_)
  · skip
    refine sx_iload_n (pc := 14) hG dX0_putInto_14 rfl 0 rfl ?_
    refine sx_ldc (pc := 15) (v2 := nI 131072) hG m_X0_putInto_c31 dX0_putInto_15 (by decide +kernel) ?_
    refine sx_idiv (pc := 17) (v := (nI (f / 131072))) hG dX0_putInto_17 (nI_ne0 (by decide) (by decide)) (pk_div (by omega) (by decide) (by decide)) ?_
    refine sx_iconst (pc := 18) (v := nI 1) hG dX0_putInto_18 (by decide +kernel) ?_
    refine sx_iadd (pc := 19) (v := (nI (f / 131072 + 1))) hG dX0_putInto_19 (nI_add (f / 131072) 1) ?_
    refine sx_ldc (pc := 20) (v2 := nI 131072) hG m_X0_putInto_c31 dX0_putInto_20 (by decide +kernel) ?_
    refine sx_imul (pc := 22) (v := (nI ((f / 131072 + 1) * 131072))) hG dX0_putInto_22 (pk_mul (f / 131072 + 1) 131072) ?_
    refine sx_iload_n (pc := 23) hG dX0_putInto_23 rfl 1 rfl ?_
    refine sx_iadd (pc := 24) (v := (nI ((f / 131072 + 1) * 131072 + v))) hG dX0_putInto_24 (nI_add ((f / 131072 + 1) * 131072) v) ?_
    exact hret _ _ _ _ dX0_putInto_25 rfl ⟨congrArg nI (by split <;> omega), rfl⟩
  · skip
    refine sx_iload_n (pc := 10) hG dX0_putInto_10 rfl 0 rfl ?_
    refine sx_iload_n (pc := 11) hG dX0_putInto_11 rfl 1 rfl ?_
    refine sx_iadd (pc := 12) (v := (nI (f + v))) hG dX0_putInto_12 (nI_add f v) ?_
    exact hret _ _ _ _ dX0_putInto_13 rfl ⟨congrArg nI (by split <;> omega), rfl⟩

set_option maxHeartbeats 4000000 in
set_option maxRecDepth 100000 in
theorem c_X8_piece (l : Launch) (X : sx_X) (ws : va_W) (ax ay bx by_ : Nat) (h1 : ax < 2 ^ 20) (h2 : ay < 2 ^ 20) (h3 : bx < 2 ^ 20) (h4 : by_ < 2 ^ 20) : sx_Mi l yX8_piece wsX8_piece { frames := 1, cells := 0, slots := 0, locals := 21 } X [.int (nI ax), .int (nI ay), .int (nI bx), .int (nI by_)] ws (fun r w => r = nI (sx_piece (sx_far ax bx) (sx_far ay by_)) ∧ w = ws) 0 0 := by
  refine sx_entI (own := RX8) (nL := 6) (by decide +kernel) rfl rfl (Nat.le_of_ble_eq_true rfl) ?_
  intro G hG hN hret
  show sx_W l X G 0 0 0 [(0, .int (nI ax)), (1, .int (nI ay)), (2, .int (nI bx)), (3, .int (nI by_))] [] ws
  have hfx := sx_far_le ax bx (2 ^ 20) h1 h3
  have hfy := sx_far_le ay by_ (2 ^ 20) h2 h4
  refine sx_iload_n (pc := 0) hG dX8_piece_0 rfl 0 rfl ?_
  refine sx_iload_n (pc := 1) hG dX8_piece_1 rfl 2 rfl ?_
  refine sx_callSiw (pc := 2) (n9 := 2) (As := [.int (nI ax), .int (nI bx)]) (st := []) hG (c_X8_far l X ws ax bx (by omega) (by omega)) gX8_piece_X8_far rfl (by decide +kernel) rfl dX8_piece_2 ⟨rfl, rfl⟩ ⟨Nat.le_of_ble_eq_true rfl, Nat.le_of_ble_eq_true rfl⟩ (Nat.le_of_ble_eq_true rfl) ⟨Nat.le_of_ble_eq_true rfl, Nat.le_of_ble_eq_true rfl⟩ (fun r w1 hp => ?_)
  obtain ⟨hr9, hw9⟩ := hp
  have hr9 : r = (nI (sx_far ax bx)) := hr9
  subst hr9
  refine sx_weq hw9 ?_
  refine sx_istore (pc := 5) (lv2 := [(0, .int (nI ax)), (1, .int (nI ay)), (2, .int (nI bx)), (3, .int (nI by_)), (4, .int (nI (sx_far ax bx)))]) hG [1, 2, 3, 4, 0] dX8_piece_5 hN (by decide) rfl ?_
  refine sx_iload_n (pc := 7) hG dX8_piece_7 rfl 1 rfl ?_
  refine sx_iload_n (pc := 8) hG dX8_piece_8 rfl 3 rfl ?_
  refine sx_callSiw (pc := 9) (n9 := 2) (As := [.int (nI ay), .int (nI by_)]) (st := []) hG (c_X8_far l X ws ay by_ (by omega) (by omega)) gX8_piece_X8_far rfl (by decide +kernel) rfl dX8_piece_9 ⟨rfl, rfl⟩ ⟨Nat.le_of_ble_eq_true rfl, Nat.le_of_ble_eq_true rfl⟩ (Nat.le_of_ble_eq_true rfl) ⟨Nat.le_of_ble_eq_true rfl, Nat.le_of_ble_eq_true rfl⟩ (fun r w1 hp => ?_)
  obtain ⟨hr9, hw9⟩ := hp
  have hr9 : r = (nI (sx_far ay by_)) := hr9
  subst hr9
  refine sx_weq hw9 ?_
  refine sx_istore (pc := 12) (lv2 := [(0, .int (nI ax)), (1, .int (nI ay)), (2, .int (nI bx)), (3, .int (nI by_)), (4, .int (nI (sx_far ax bx))), (5, .int (nI (sx_far ay by_)))]) hG [1, 2, 3, 4, 5, 0] dX8_piece_12 hN (by decide) rfl ?_
  refine sx_iload (pc := 14) hG dX8_piece_14 4 rfl ?_
  refine sx_iload (pc := 16) hG dX8_piece_16 5 rfl ?_
  refine sx_icmp_ge (pc := 18) (tgt := 38) (B := (sx_far ay by_) ≤ (sx_far ax bx)) hG dX8_piece_18 (by decide) (nI_leI (by omega) (by omega)) (fun c18 => ?_) (fun c18 => ?_)
  · skip
    refine sx_bipush (pc := 38) (v := nI 14) hG dX8_piece_38 (by decide +kernel) ?_
    refine sx_iload (pc := 40) hG dX8_piece_40 5 rfl ?_
    refine sx_imul (pc := 42) (v := (nI (14 * (sx_far ay by_)))) hG dX8_piece_42 (pk_mul 14 (sx_far ay by_)) ?_
    refine sx_bipush (pc := 43) (v := nI 10) hG dX8_piece_43 (by decide +kernel) ?_
    refine sx_iload (pc := 45) hG dX8_piece_45 4 rfl ?_
    refine sx_iload (pc := 47) hG dX8_piece_47 5 rfl ?_
    refine sx_isub (pc := 49) (v := (nI ((sx_far ax bx) - (sx_far ay by_)))) hG dX8_piece_49 (pk_sub (by omega)) ?_
    refine sx_imul (pc := 50) (v := (nI (10 * ((sx_far ax bx) - (sx_far ay by_))))) hG dX8_piece_50 (pk_mul 10 ((sx_far ax bx) - (sx_far ay by_))) ?_
    refine sx_iadd (pc := 51) (v := (nI (14 * (sx_far ay by_) + (10 * ((sx_far ax bx) - (sx_far ay by_)))))) hG dX8_piece_51 (nI_add (14 * (sx_far ay by_)) (10 * ((sx_far ax bx) - (sx_far ay by_)))) ?_
    exact hret _ _ _ _ dX8_piece_52 rfl ⟨congrArg nI (by unfold sx_piece; split <;> omega), rfl⟩
  · skip
    refine sx_bipush (pc := 21) (v := nI 14) hG dX8_piece_21 (by decide +kernel) ?_
    refine sx_iload (pc := 23) hG dX8_piece_23 4 rfl ?_
    refine sx_imul (pc := 25) (v := (nI (14 * (sx_far ax bx)))) hG dX8_piece_25 (pk_mul 14 (sx_far ax bx)) ?_
    refine sx_bipush (pc := 26) (v := nI 10) hG dX8_piece_26 (by decide +kernel) ?_
    refine sx_iload (pc := 28) hG dX8_piece_28 5 rfl ?_
    refine sx_iload (pc := 30) hG dX8_piece_30 4 rfl ?_
    refine sx_isub (pc := 32) (v := (nI ((sx_far ay by_) - (sx_far ax bx)))) hG dX8_piece_32 (pk_sub (by omega)) ?_
    refine sx_imul (pc := 33) (v := (nI (10 * ((sx_far ay by_) - (sx_far ax bx))))) hG dX8_piece_33 (pk_mul 10 ((sx_far ay by_) - (sx_far ax bx))) ?_
    refine sx_iadd (pc := 34) (v := (nI (14 * (sx_far ax bx) + (10 * ((sx_far ay by_) - (sx_far ax bx)))))) hG dX8_piece_34 (nI_add (14 * (sx_far ax bx)) (10 * ((sx_far ay by_) - (sx_far ax bx)))) ?_
    refine sx_goto (pc := 35) (tgt := 52) hG dX8_piece_35 (by decide) ?_
    exact hret _ _ _ _ dX8_piece_52 rfl ⟨congrArg nI (by unfold sx_piece; split <;> omega), rfl⟩
