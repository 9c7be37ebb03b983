/-! THE REFERENCE'S SMALL METHODS -/
/-- what its rows hold -/
def mG (av : Nat → Nat → Nat) : Prop := (∀ j, av 1 j ≤ 9) ∧ (∀ j, av 2 j ≤ 9) ∧ (∀ j, av 3 j ≤ 9) ∧ (∀ j, av 4 j ≤ 9) ∧ (∀ j, av 5 j < 8) ∧ (∀ j, av 6 j ≤ 126) ∧ (∀ j, av 7 j ≤ 99)
def mXe (av : Nat → Nat → Nat) (a : Nat) : Nat := if a % 2 = 0 then av 3 (a / 2) else av 1 (a / 2)
def mXb (av : Nat → Nat → Nat) (a : Nat) : Nat := if a % 2 = 0 then av 1 (a / 2) else av 3 (a / 2)
def mYe (av : Nat → Nat → Nat) (a : Nat) : Nat := if a % 2 = 0 then av 4 (a / 2) else av 2 (a / 2)
def mYb (av : Nat → Nat → Nat) (a : Nat) : Nat := if a % 2 = 0 then av 2 (a / 2) else av 4 (a / 2)
def mTw (av : Nat → Nat → Nat) (a : Nat) : Nat := (av 5 (a / 2) + 4 * (a % 2)) % 8
def sx_jmp (p q u v : Nat) : Nat := if p = q ∧ u = v then 0 else 1
def mJ (av : Nat → Nat → Nat) (a b : Nat) : Nat := sx_jmp (mXe av a) (mXb av b) (mYe av a) (mYb av b)
def sx_turn (p q : Nat) : Nat := if 4 < (q + 8 - p) % 8 then 8 - (q + 8 - p) % 8 else (q + 8 - p) % 8
/-- what lies between two steps: its pay, its length -/
def mLp (av : Nat → Nat → Nat) (a b : Nat) : Nat := if mJ av a b = 0 then av 7 (sx_turn (mTw av a) (mTw av b)) else av 7 5
def mLl (av : Nat → Nat → Nat) (a b : Nat) : Nat := if mJ av a b = 0 then 0 else sx_piece (sx_far (mXe av a) (mXb av b)) (sx_far (mYe av a) (mYb av b))
def mGo (av : Nat → Nat → Nat) (a b : Nat) : Nat := 100000 * mLp av a b + av 6 (b / 2) + mLl av a b
def mFrom (av : Nat → Nat → Nat) (L : Nat → Nat) (s a : Nat) : Nat := av 6 (a / 2) + L (18 * sx_diff s (2 ^ (a / 2)) + a)
theorem mXe_le {av : Nat → Nat → Nat} (h : mG av) (a : Nat) : mXe av a ≤ 9 := by unfold mXe; split; exact h.2.2.1 _; exact h.1 _
theorem mXb_le {av : Nat → Nat → Nat} (h : mG av) (a : Nat) : mXb av a ≤ 9 := by unfold mXb; split; exact h.1 _; exact h.2.2.1 _
theorem mYe_le {av : Nat → Nat → Nat} (h : mG av) (a : Nat) : mYe av a ≤ 9 := by unfold mYe; split; exact h.2.2.2.1 _; exact h.2.1 _
theorem mYb_le {av : Nat → Nat → Nat} (h : mG av) (a : Nat) : mYb av a ≤ 9 := by unfold mYb; split; exact h.2.1 _; exact h.2.2.2.1 _
theorem mTw_lt (av : Nat → Nat → Nat) (a : Nat) : mTw av a < 8 := Nat.mod_lt _ (by decide)
theorem sx_turn_le (p q : Nat) : sx_turn p q ≤ 4 := by unfold sx_turn; split <;> omega
theorem sx_piece_le {p q : Nat} (hp : p ≤ 9) (hq : q ≤ 9) : sx_piece p q ≤ 126 := by unfold sx_piece; split <;> omega
theorem mLp_le {av : Nat → Nat → Nat} (h : mG av) (a b : Nat) : mLp av a b ≤ 99 := by unfold mLp; split <;> exact h.2.2.2.2.2.2 _
theorem mLl_le {av : Nat → Nat → Nat} (h : mG av) (a b : Nat) : mLl av a b ≤ 126 := by
  unfold mLl; split
  · omega
  · exact sx_piece_le (by have := sx_far_le _ _ 10 (Nat.lt_succ_of_le (mXe_le h a)) (Nat.lt_succ_of_le (mXb_le h b)); omega) (by have := sx_far_le _ _ 10 (Nat.lt_succ_of_le (mYe_le h a)) (Nat.lt_succ_of_le (mYb_le h b)); omega)
theorem mGo_le {av : Nat → Nat → Nat} (h : mG av) (a b : Nat) : mGo av a b ≤ 9900252 := by
  have h1 := mLp_le h a b
  have h2 := mLl_le h a b
  have h3 := h.2.2.2.2.2.1 (b / 2)
  unfold mGo; omega
def sx_pt (x y : Int32) : Prop := 0 ≤ x.toInt ∧ x.toInt ≤ 9 ∧ 0 ≤ y.toInt ∧ y.toInt ≤ 9
def sx_ptN (x y : Int32) : Nat := if 0 ≤ x.toInt ∧ x.toInt ≤ 9 ∧ 0 ≤ y.toInt ∧ y.toInt ≤ 9 then 1 else 0
def sx_sgn (a c : Nat) : Int32 := if c < a then -1 else if a < c then nI 1 else nI 0
theorem sx_sgn_int (a c : Nat) : (c < a ∧ (sx_sgn a c).toInt = -1) ∨ (a < c ∧ (sx_sgn a c).toInt = 1) ∨ (c = a ∧ (sx_sgn a c).toInt = 0) := by
  unfold sx_sgn
  by_cases h : c < a
  · rw [if_pos h]; exact Or.inl ⟨h, by decide⟩
  · rw [if_neg h]
    by_cases h2 : a < c
    · rw [if_pos h2]; exact Or.inr (Or.inl ⟨h2, by decide⟩)
    · rw [if_neg h2]; exact Or.inr (Or.inr ⟨by omega, by decide⟩)
def sx_dir (a b c d : Nat) : Nat := if d = b then (if a < c then 0 else 4) else if c = a then (if b < d then 2 else 6) else if b < d then (if a < c then 1 else 3) else if a < c then 7 else 5
/-- straight, and from a point to another -/
def sx_str (a b c d : Nat) : Prop := ¬ (a = c ∧ b = d) ∧ (a = c ∨ b = d ∨ sx_far a c = sx_far b d)
/-- no stroke can be made of these -/
def sx_no (n : Nat) (a b c d : Int32) : Prop := ∀ p q u v : Nat, a = nI p → b = nI q → c = nI u → d = nI v → p ≤ 9 → q ≤ 9 → u ≤ 9 → v ≤ 9 → n < 9 → ¬ sx_str p q u v
def sx_isSet (n : Nat) (x : Int32) : Nat := if 0 < x.toInt ∧ x.toInt < (2 ^ n : Nat) then 1 else 0
theorem sx_sub8 {p q : Nat} (h : p < 8) : nI q - nI p + nI 8 = nI (q + 8 - p) := by
  rw [← pk_sub (by omega), ← nI_add, Int32.sub_eq_add_neg, Int32.sub_eq_add_neg, Int32.add_assoc, Int32.add_assoc, Int32.add_comm (-nI p)]
def sx_sum (f : Nat → Nat) : Nat → Nat
  | 0 => 0
  | k + 1 => sx_sum f k + f k
theorem sx_sum_le {f : Nat → Nat} {b : Nat} (h : ∀ j, f j ≤ b) (k : Nat) : sx_sum f k ≤ k * b := by
  induction k with
  | zero => exact Nat.zero_le _
  | succ k ih => have := h k; unfold sx_sum; rw [Nat.succ_mul]; omega
set_option maxHeartbeats 4000000 in
set_option maxRecDepth 100000 in
theorem c_X8_isPoint (l : Launch) (X : sx_X) (ws : va_W) (x y : Int32) : sx_Mi l yX8_isPoint wsX8_isPoint { frames := 0, cells := 0, slots := 0, locals := 0 } X [.int x, .int y] ws (fun r w => r = nI (sx_ptN x y) ∧ w = ws) 0 0 := by
  refine sx_entI (own := RX8) (nL := 2) (by decide +kernel) rfl rfl (Nat.le_of_ble_eq_true rfl) ?_
  intro G hG hN hret
  show sx_W l X G 0 0 0 [(0, .int x), (1, .int y)] [] ws
  refine sx_iload_n (pc := 0) hG dX8_isPoint_0 rfl 0 rfl ?_
  refine sx_if_lt (pc := 1) (tgt := 24) (B := x.toInt < 0) hG dX8_isPoint_1 (by decide) (sx_rlt0 _) (fun c1 => ?_) (fun c1 => ?_)
  · skip
    refine sx_iconst (pc := 24) (v := nI 0) hG dX8_isPoint_24 (by decide +kernel) ?_
    exact hret _ _ _ _ dX8_isPoint_25 (by decide +kernel) ⟨congrArg nI (by unfold sx_ptN; first | (rw [if_pos (by omega)]) | (rw [if_neg (by omega)])), rfl⟩
  · skip
    refine sx_iload_n (pc := 4) hG dX8_isPoint_4 rfl 0 rfl ?_
    refine sx_bipush (pc := 5) (v := nI 9) hG dX8_isPoint_5 (by decide +kernel) ?_
    refine sx_icmp_gt (pc := 7) (tgt := 24) (B := (9 : Int) < x.toInt) hG dX8_isPoint_7 (by decide) (sx_rlt (nI_toInt (by omega)) rfl) (fun c7 => ?_) (fun c7 => ?_)
    · skip
      refine sx_iconst (pc := 24) (v := nI 0) hG dX8_isPoint_24 (by decide +kernel) ?_
      exact hret _ _ _ _ dX8_isPoint_25 (by decide +kernel) ⟨congrArg nI (by unfold sx_ptN; first | (rw [if_pos (by omega)]) | (rw [if_neg (by omega)])), rfl⟩
    · skip
      refine sx_iload_n (pc := 10) hG dX8_isPoint_10 rfl 1 rfl ?_
      refine sx_if_lt (pc := 11) (tgt := 24) (B := y.toInt < 0) hG dX8_isPoint_11 (by decide) (sx_rlt0 _) (fun c11 => ?_) (fun c11 => ?_)
      · skip
        refine sx_iconst (pc := 24) (v := nI 0) hG dX8_isPoint_24 (by decide +kernel) ?_
        exact hret _ _ _ _ dX8_isPoint_25 (by decide +kernel) ⟨congrArg nI (by unfold sx_ptN; first | (rw [if_pos (by omega)]) | (rw [if_neg (by omega)])), rfl⟩
      · skip
        refine sx_iload_n (pc := 14) hG dX8_isPoint_14 rfl 1 rfl ?_
        refine sx_bipush (pc := 15) (v := nI 9) hG dX8_isPoint_15 (by decide +kernel) ?_
        refine sx_icmp_gt (pc := 17) (tgt := 24) (B := (9 : Int) < y.toInt) hG dX8_isPoint_17 (by decide) (sx_rlt (nI_toInt (by omega)) rfl) (fun c17 => ?_) (fun c17 => ?_)
        · skip
          refine sx_iconst (pc := 24) (v := nI 0) hG dX8_isPoint_24 (by decide +kernel) ?_
          exact hret _ _ _ _ dX8_isPoint_25 (by decide +kernel) ⟨congrArg nI (by unfold sx_ptN; first | (rw [if_pos (by omega)]) | (rw [if_neg (by omega)])), rfl⟩
        · skip
          refine sx_iconst (pc := 20) (v := nI 1) hG dX8_isPoint_20 (by decide +kernel) ?_
          refine sx_goto (pc := 21) (tgt := 25) hG dX8_isPoint_21 (by decide) ?_
          exact hret _ _ _ _ dX8_isPoint_25 (by decide +kernel) ⟨congrArg nI (by unfold sx_ptN; first | (rw [if_pos (by omega)]) | (rw [if_neg (by omega)])), rfl⟩

set_option maxHeartbeats 4000000 in
set_option maxRecDepth 100000 in
theorem c_X8_sign (l : Launch) (X : sx_X) (ws : va_W) (a c : Nat) (ha : a < 2 ^ 20) (hc : c < 2 ^ 20) : sx_Mi l yX8_sign wsX8_sign { frames := 0, cells := 0, slots := 0, locals := 0 } X [.int (nI c - nI a)] ws (fun r w => r = sx_sgn a c ∧ w = ws) 0 0 := by
  refine sx_entI (own := RX8) (nL := 1) (by decide +kernel) rfl rfl (Nat.le_of_ble_eq_true rfl) ?_
  intro G hG hN hret
  show sx_W l X G 0 0 0 [(0, .int (nI c - nI a))] [] ws
  have e0 : (nI c - nI a).toInt = (c : Int) - a := pk_sub_toInt (by omega) (by omega)
  refine sx_iload_n (pc := 0) hG dX8_sign_0 rfl 0 rfl ?_
  refine sx_if_ge (pc := 1) (tgt := 8) (B := 0 ≤ (nI c - nI a).toInt) hG dX8_sign_1 (by decide) (sx_rge0 _) (fun c1 => ?_) (fun c1 => ?_)
  · skip
    refine sx_iload_n (pc := 8) hG dX8_sign_8 rfl 0 rfl ?_
    refine sx_if_le (pc := 9) (tgt := 16) (B := (nI c - nI a).toInt ≤ 0) hG dX8_sign_9 (by decide) (sx_rle0 _) (fun c9 => ?_) (fun c9 => ?_)
    · skip
      refine sx_iconst (pc := 16) (v := nI 0) hG dX8_sign_16 (by decide +kernel) ?_
      exact hret _ _ _ _ dX8_sign_17 rfl ⟨by unfold sx_sgn; first | (rw [if_pos (by omega)]) | (rw [if_neg (by omega), if_pos (by omega)]) | (rw [if_neg (by omega), if_neg (by omega)]), rfl⟩
    · skip
      refine sx_iconst (pc := 12) (v := nI 1) hG dX8_sign_12 (by decide +kernel) ?_
      refine sx_goto (pc := 13) (tgt := 17) hG dX8_sign_13 (by decide) ?_
      exact hret _ _ _ _ dX8_sign_17 rfl ⟨by unfold sx_sgn; first | (rw [if_pos (by omega)]) | (rw [if_neg (by omega), if_pos (by omega)]) | (rw [if_neg (by omega), if_neg (by omega)]), rfl⟩
  · skip
    refine sx_iconst (pc := 4) (v := (-1)) hG dX8_sign_4 (by decide +kernel) ?_
    refine sx_goto (pc := 5) (tgt := 17) hG dX8_sign_5 (by decide) ?_
    exact hret _ _ _ _ dX8_sign_17 rfl ⟨by unfold sx_sgn; first | (rw [if_pos (by omega)]) | (rw [if_neg (by omega), if_pos (by omega)]) | (rw [if_neg (by omega), if_neg (by omega)]), rfl⟩

set_option maxHeartbeats 4000000 in
set_option maxRecDepth 100000 in
theorem c_X8_towards (l : Launch) (X : sx_X) (ws : va_W) (a b c d : Nat) : sx_Mi l yX8_towards wsX8_towards { frames := 0, cells := 0, slots := 0, locals := 0 } X [.int (sx_sgn a c), .int (sx_sgn b d)] ws (fun r w => r = nI (sx_dir a b c d) ∧ w = ws) 0 0 := by
  refine sx_entI (own := RX8) (nL := 2) (by decide +kernel) rfl rfl (Nat.le_of_ble_eq_true rfl) ?_
  intro G hG hN hret
  show sx_W l X G 0 0 0 [(0, .int (sx_sgn a c)), (1, .int (sx_sgn b d))] [] ws
  have e1 := sx_sgn_int a c
  have e2 := sx_sgn_int b d
  refine sx_iload_n (pc := 0) hG dX8_towards_0 rfl 1 rfl ?_
  refine sx_if_ne (pc := 1) (tgt := 14) (B := (sx_sgn b d).toInt = 0) hG dX8_towards_1 (by decide) (sx_req0 _) (fun c1 => ?_) (fun c1 => ?_)
  · skip
    refine sx_iload_n (pc := 14) hG dX8_towards_14 rfl 0 rfl ?_
    refine sx_if_ne (pc := 15) (tgt := 29) (B := (sx_sgn a c).toInt = 0) hG dX8_towards_15 (by decide) (sx_req0 _) (fun c15 => ?_) (fun c15 => ?_)
    · skip
      refine sx_iload_n (pc := 29) hG dX8_towards_29 rfl 1 rfl ?_
      refine sx_if_le (pc := 30) (tgt := 45) (B := (sx_sgn b d).toInt ≤ 0) hG dX8_towards_30 (by decide) (sx_rle0 _) (fun c30 => ?_) (fun c30 => ?_)
      · skip
        refine sx_iload_n (pc := 45) hG dX8_towards_45 rfl 0 rfl ?_
        refine sx_if_le (pc := 46) (tgt := 54) (B := (sx_sgn a c).toInt ≤ 0) hG dX8_towards_46 (by decide) (sx_rle0 _) (fun c46 => ?_) (fun c46 => ?_)
        · skip
          refine sx_iconst (pc := 54) (v := nI 5) hG dX8_towards_54 (by decide +kernel) ?_
          exact hret _ _ _ _ dX8_towards_55 rfl ⟨congrArg nI (by unfold sx_dir; (repeat' split) <;> omega), rfl⟩
        · skip
          refine sx_bipush (pc := 49) (v := nI 7) hG dX8_towards_49 (by decide +kernel) ?_
          refine sx_goto (pc := 51) (tgt := 55) hG dX8_towards_51 (by decide) ?_
          exact hret _ _ _ _ dX8_towards_55 rfl ⟨congrArg nI (by unfold sx_dir; (repeat' split) <;> omega), rfl⟩
      · skip
        refine sx_iload_n (pc := 33) hG dX8_towards_33 rfl 0 rfl ?_
        refine sx_if_le (pc := 34) (tgt := 41) (B := (sx_sgn a c).toInt ≤ 0) hG dX8_towards_34 (by decide) (sx_rle0 _) (fun c34 => ?_) (fun c34 => ?_)
        · skip
          refine sx_iconst (pc := 41) (v := nI 3) hG dX8_towards_41 (by decide +kernel) ?_
          refine sx_goto (pc := 42) (tgt := 55) hG dX8_towards_42 (by decide) ?_
          exact hret _ _ _ _ dX8_towards_55 rfl ⟨congrArg nI (by unfold sx_dir; (repeat' split) <;> omega), rfl⟩
        · skip
          refine sx_iconst (pc := 37) (v := nI 1) hG dX8_towards_37 (by decide +kernel) ?_
          refine sx_goto (pc := 38) (tgt := 55) hG dX8_towards_38 (by decide) ?_
          exact hret _ _ _ _ dX8_towards_55 rfl ⟨congrArg nI (by unfold sx_dir; (repeat' split) <;> omega), rfl⟩
    · skip
      refine sx_iload_n (pc := 18) hG dX8_towards_18 rfl 1 rfl ?_
      refine sx_if_le (pc := 19) (tgt := 26) (B := (sx_sgn b d).toInt ≤ 0) hG dX8_towards_19 (by decide) (sx_rle0 _) (fun c19 => ?_) (fun c19 => ?_)
      · skip
        refine sx_bipush (pc := 26) (v := nI 6) hG dX8_towards_26 (by decide +kernel) ?_
        exact hret _ _ _ _ dX8_towards_28 rfl ⟨congrArg nI (by unfold sx_dir; (repeat' split) <;> omega), rfl⟩
      · skip
        refine sx_iconst (pc := 22) (v := nI 2) hG dX8_towards_22 (by decide +kernel) ?_
        refine sx_goto (pc := 23) (tgt := 28) hG dX8_towards_23 (by decide) ?_
        exact hret _ _ _ _ dX8_towards_28 rfl ⟨congrArg nI (by unfold sx_dir; (repeat' split) <;> omega), rfl⟩
  · skip
    refine sx_iload_n (pc := 4) hG dX8_towards_4 rfl 0 rfl ?_
    refine sx_if_le (pc := 5) (tgt := 12) (B := (sx_sgn a c).toInt ≤ 0) hG dX8_towards_5 (by decide) (sx_rle0 _) (fun c5 => ?_) (fun c5 => ?_)
    · skip
      refine sx_iconst (pc := 12) (v := nI 4) hG dX8_towards_12 (by decide +kernel) ?_
      exact hret _ _ _ _ dX8_towards_13 rfl ⟨congrArg nI (by unfold sx_dir; (repeat' split) <;> omega), rfl⟩
    · skip
      refine sx_iconst (pc := 8) (v := nI 0) hG dX8_towards_8 (by decide +kernel) ?_
      refine sx_goto (pc := 9) (tgt := 13) hG dX8_towards_9 (by decide) ?_
      exact hret _ _ _ _ dX8_towards_13 rfl ⟨congrArg nI (by unfold sx_dir; (repeat' split) <;> omega), rfl⟩

theorem i_X8_atX_8 : ∀ w ∈ u_ws RX8 TX8 24, w ∈ wsX8_atX := by decide +kernel
theorem m_X8_atX_f7 : Cond.fieldLink RX8 7 (TX8 1).1 (TX8 1).2.1 (TX8 1).2.2.1 ∈ wsX8_atX := by decide +kernel
theorem m_X8_atX_f16 : Cond.fieldLink RX8 16 (TX8 3).1 (TX8 3).2.1 (TX8 3).2.2.1 ∈ wsX8_atX := by decide +kernel
set_option maxHeartbeats 4000000 in
set_option maxRecDepth 100000 in
theorem c_X8_atX1 (l : Launch) (X : sx_X) (bd : Nat → Nat) (sc : Nat → Int32) (av : Nat → Nat → Nat) (a : Nat) (ha : a < 18) : sx_Mi l yX8_atX wsX8_atX { frames := 0, cells := 0, slots := 0, locals := 0 } X [.ref (bd 0), .int (nI a), .int (nI 1)] (mw X bd sc av) (fun r w => r = nI (mXe av a) ∧ w = mw X bd sc av) 0 0 := by
  refine sx_entI (own := RX8) (nL := 3) (by decide +kernel) rfl rfl (Nat.le_of_ble_eq_true rfl) ?_
  intro G hG hN hret
  show sx_W l X G 0 0 0 [(0, .ref (bd 0)), (1, .int (nI a)), (2, .int (nI 1))] [] (mw X bd sc av)
  refine sx_iload_n (pc := 0) hG dX8_atX_0 rfl 1 rfl ?_
  refine sx_iconst (pc := 1) (v := nI 2) hG dX8_atX_1 (by decide +kernel) ?_
  refine sx_irem (pc := 2) (v := (nI (a % 2))) hG dX8_atX_2 (nI_ne0 (by decide) (by decide)) (pk_rem (by omega) (by decide) (by decide)) ?_
  refine sx_if_ne (pc := 3) (tgt := 10) (B := (a % 2) = 0) hG dX8_atX_3 (by decide) (sx_eq0 (by omega)) (fun c3 => ?_) (fun c3 => ?_)
  · skip
    refine sx_iconst (pc := 10) (v := nI 0) hG dX8_atX_10 (by decide +kernel) ?_
    refine sx_iload_n (pc := 11) hG dX8_atX_11 rfl 2 rfl ?_
    refine sx_icmp_ne (pc := 12) (tgt := 26) (B := 0 = 1) hG dX8_atX_12 (by decide) (nI_eq (by omega) (by omega)) (fun c12 => ?_) (fun c12 => ?_)
    · skip
      refine sx_aload_n (pc := 26) hG dX8_atX_26 rfl 0 rfl ?_
      refine sx_get (pc := 27) (v2 := .ref (bd 1)) (ci := 8) hG i_X8_atX_8 1 m_X8_atX_f7 dX8_atX_27 rfl (by decide) 0 rfl rfl rfl ?_
      refine sx_iload_n (pc := 30) hG dX8_atX_30 rfl 1 rfl ?_
      refine sx_iconst (pc := 31) (v := nI 2) hG dX8_atX_31 (by decide +kernel) ?_
      refine sx_idiv (pc := 32) (v := (nI (a / 2))) hG dX8_atX_32 (nI_ne0 (by decide) (by decide)) (pk_div (by omega) (by decide) (by decide)) ?_
      refine sx_iald (pc := 33) (v := nI ((av 1) (a / 2))) hG 1 dX8_atX_33 rfl (by decide) (by omega) rfl ?_
      exact hret _ _ _ _ dX8_atX_34 rfl ⟨congrArg nI (by unfold mXe; split <;> first | rfl | omega), rfl⟩
    · skip
      exact absurd c12 (by decide)
  · skip
    refine sx_iconst (pc := 6) (v := nI 1) hG dX8_atX_6 (by decide +kernel) ?_
    refine sx_goto (pc := 7) (tgt := 11) hG dX8_atX_7 (by decide) ?_
    refine sx_iload_n (pc := 11) hG dX8_atX_11 rfl 2 rfl ?_
    refine sx_icmp_ne (pc := 12) (tgt := 26) (B := 1 = 1) hG dX8_atX_12 (by decide) (nI_eq (by omega) (by omega)) (fun c12 => ?_) (fun c12 => ?_)
    · skip
      exact absurd (by decide) c12
    · skip
      refine sx_aload_n (pc := 15) hG dX8_atX_15 rfl 0 rfl ?_
      refine sx_get (pc := 16) (v2 := .ref (bd 3)) (ci := 8) hG i_X8_atX_8 3 m_X8_atX_f16 dX8_atX_16 rfl (by decide) 0 rfl rfl rfl ?_
      refine sx_iload_n (pc := 19) hG dX8_atX_19 rfl 1 rfl ?_
      refine sx_iconst (pc := 20) (v := nI 2) hG dX8_atX_20 (by decide +kernel) ?_
      refine sx_idiv (pc := 21) (v := (nI (a / 2))) hG dX8_atX_21 (nI_ne0 (by decide) (by decide)) (pk_div (by omega) (by decide) (by decide)) ?_
      refine sx_iald (pc := 22) (v := nI ((av 3) (a / 2))) hG 3 dX8_atX_22 rfl (by decide) (by omega) rfl ?_
      refine sx_goto (pc := 23) (tgt := 34) hG dX8_atX_23 (by decide) ?_
      exact hret _ _ _ _ dX8_atX_34 rfl ⟨congrArg nI (by unfold mXe; split <;> first | rfl | omega), rfl⟩

set_option maxHeartbeats 4000000 in
set_option maxRecDepth 100000 in
theorem c_X8_atX0 (l : Launch) (X : sx_X) (bd : Nat → Nat) (sc : Nat → Int32) (av : Nat → Nat → Nat) (a : Nat) (ha : a < 18) : sx_Mi l yX8_atX wsX8_atX { frames := 0, cells := 0, slots := 0, locals := 0 } X [.ref (bd 0), .int (nI a), .int (nI 0)] (mw X bd sc av) (fun r w => r = nI (mXb av a) ∧ w = mw X bd sc av) 0 0 := by
  refine sx_entI (own := RX8) (nL := 3) (by decide +kernel) rfl rfl (Nat.le_of_ble_eq_true rfl) ?_
  intro G hG hN hret
  show sx_W l X G 0 0 0 [(0, .ref (bd 0)), (1, .int (nI a)), (2, .int (nI 0))] [] (mw X bd sc av)
  refine sx_iload_n (pc := 0) hG dX8_atX_0 rfl 1 rfl ?_
  refine sx_iconst (pc := 1) (v := nI 2) hG dX8_atX_1 (by decide +kernel) ?_
  refine sx_irem (pc := 2) (v := (nI (a % 2))) hG dX8_atX_2 (nI_ne0 (by decide) (by decide)) (pk_rem (by omega) (by decide) (by decide)) ?_
  refine sx_if_ne (pc := 3) (tgt := 10) (B := (a % 2) = 0) hG dX8_atX_3 (by decide) (sx_eq0 (by omega)) (fun c3 => ?_) (fun c3 => ?_)
  · skip
    refine sx_iconst (pc := 10) (v := nI 0) hG dX8_atX_10 (by decide +kernel) ?_
    refine sx_iload_n (pc := 11) hG dX8_atX_11 rfl 2 rfl ?_
    refine sx_icmp_ne (pc := 12) (tgt := 26) (B := 0 = 0) hG dX8_atX_12 (by decide) (nI_eq (by omega) (by omega)) (fun c12 => ?_) (fun c12 => ?_)
    · skip
      exact absurd (by decide) c12
    · skip
      refine sx_aload_n (pc := 15) hG dX8_atX_15 rfl 0 rfl ?_
      refine sx_get (pc := 16) (v2 := .ref (bd 3)) (ci := 8) hG i_X8_atX_8 3 m_X8_atX_f16 dX8_atX_16 rfl (by decide) 0 rfl rfl rfl ?_
      refine sx_iload_n (pc := 19) hG dX8_atX_19 rfl 1 rfl ?_
      refine sx_iconst (pc := 20) (v := nI 2) hG dX8_atX_20 (by decide +kernel) ?_
      refine sx_idiv (pc := 21) (v := (nI (a / 2))) hG dX8_atX_21 (nI_ne0 (by decide) (by decide)) (pk_div (by omega) (by decide) (by decide)) ?_
      refine sx_iald (pc := 22) (v := nI ((av 3) (a / 2))) hG 3 dX8_atX_22 rfl (by decide) (by omega) rfl ?_
      refine sx_goto (pc := 23) (tgt := 34) hG dX8_atX_23 (by decide) ?_
      exact hret _ _ _ _ dX8_atX_34 rfl ⟨congrArg nI (by unfold mXb; split <;> first | rfl | omega), rfl⟩
  · skip
    refine sx_iconst (pc := 6) (v := nI 1) hG dX8_atX_6 (by decide +kernel) ?_
    refine sx_goto (pc := 7) (tgt := 11) hG dX8_atX_7 (by decide) ?_
    refine sx_iload_n (pc := 11) hG dX8_atX_11 rfl 2 rfl ?_
    refine sx_icmp_ne (pc := 12) (tgt := 26) (B := 1 = 0) hG dX8_atX_12 (by decide) (nI_eq (by omega) (by omega)) (fun c12 => ?_) (fun c12 => ?_)
    · skip
      refine sx_aload_n (pc := 26) hG dX8_atX_26 rfl 0 rfl ?_
      refine sx_get (pc := 27) (v2 := .ref (bd 1)) (ci := 8) hG i_X8_atX_8 1 m_X8_atX_f7 dX8_atX_27 rfl (by decide) 0 rfl rfl rfl ?_
      refine sx_iload_n (pc := 30) hG dX8_atX_30 rfl 1 rfl ?_
      refine sx_iconst (pc := 31) (v := nI 2) hG dX8_atX_31 (by decide +kernel) ?_
      refine sx_idiv (pc := 32) (v := (nI (a / 2))) hG dX8_atX_32 (nI_ne0 (by decide) (by decide)) (pk_div (by omega) (by decide) (by decide)) ?_
      refine sx_iald (pc := 33) (v := nI ((av 1) (a / 2))) hG 1 dX8_atX_33 rfl (by decide) (by omega) rfl ?_
      exact hret _ _ _ _ dX8_atX_34 rfl ⟨congrArg nI (by unfold mXb; split <;> first | rfl | omega), rfl⟩
    · skip
      exact absurd c12 (by decide)

theorem i_X8_atY_8 : ∀ w ∈ u_ws RX8 TX8 24, w ∈ wsX8_atY := by decide +kernel
theorem m_X8_atY_f13 : Cond.fieldLink RX8 13 (TX8 2).1 (TX8 2).2.1 (TX8 2).2.2.1 ∈ wsX8_atY := by decide +kernel
theorem m_X8_atY_f19 : Cond.fieldLink RX8 19 (TX8 4).1 (TX8 4).2.1 (TX8 4).2.2.1 ∈ wsX8_atY := by decide +kernel
set_option maxHeartbeats 4000000 in
set_option maxRecDepth 100000 in
theorem c_X8_atY1 (l : Launch) (X : sx_X) (bd : Nat → Nat) (sc : Nat → Int32) (av : Nat → Nat → Nat) (a : Nat) (ha : a < 18) : sx_Mi l yX8_atY wsX8_atY { frames := 0, cells := 0, slots := 0, locals := 0 } X [.ref (bd 0), .int (nI a), .int (nI 1)] (mw X bd sc av) (fun r w => r = nI (mYe av a) ∧ w = mw X bd sc av) 0 0 := by
  refine sx_entI (own := RX8) (nL := 3) (by decide +kernel) rfl rfl (Nat.le_of_ble_eq_true rfl) ?_
  intro G hG hN hret
  show sx_W l X G 0 0 0 [(0, .ref (bd 0)), (1, .int (nI a)), (2, .int (nI 1))] [] (mw X bd sc av)
  refine sx_iload_n (pc := 0) hG dX8_atY_0 rfl 1 rfl ?_
  refine sx_iconst (pc := 1) (v := nI 2) hG dX8_atY_1 (by decide +kernel) ?_
  refine sx_irem (pc := 2) (v := (nI (a % 2))) hG dX8_atY_2 (nI_ne0 (by decide) (by decide)) (pk_rem (by omega) (by decide) (by decide)) ?_
  refine sx_if_ne (pc := 3) (tgt := 10) (B := (a % 2) = 0) hG dX8_atY_3 (by decide) (sx_eq0 (by omega)) (fun c3 => ?_) (fun c3 => ?_)
  · skip
    refine sx_iconst (pc := 10) (v := nI 0) hG dX8_atY_10 (by decide +kernel) ?_
    refine sx_iload_n (pc := 11) hG dX8_atY_11 rfl 2 rfl ?_
    refine sx_icmp_ne (pc := 12) (tgt := 26) (B := 0 = 1) hG dX8_atY_12 (by decide) (nI_eq (by omega) (by omega)) (fun c12 => ?_) (fun c12 => ?_)
    · skip
      refine sx_aload_n (pc := 26) hG dX8_atY_26 rfl 0 rfl ?_
      refine sx_get (pc := 27) (v2 := .ref (bd 2)) (ci := 8) hG i_X8_atY_8 2 m_X8_atY_f13 dX8_atY_27 rfl (by decide) 0 rfl rfl rfl ?_
      refine sx_iload_n (pc := 30) hG dX8_atY_30 rfl 1 rfl ?_
      refine sx_iconst (pc := 31) (v := nI 2) hG dX8_atY_31 (by decide +kernel) ?_
      refine sx_idiv (pc := 32) (v := (nI (a / 2))) hG dX8_atY_32 (nI_ne0 (by decide) (by decide)) (pk_div (by omega) (by decide) (by decide)) ?_
      refine sx_iald (pc := 33) (v := nI ((av 2) (a / 2))) hG 2 dX8_atY_33 rfl (by decide) (by omega) rfl ?_
      exact hret _ _ _ _ dX8_atY_34 rfl ⟨congrArg nI (by unfold mYe; split <;> first | rfl | omega), rfl⟩
    · skip
      exact absurd c12 (by decide)
  · skip
    refine sx_iconst (pc := 6) (v := nI 1) hG dX8_atY_6 (by decide +kernel) ?_
    refine sx_goto (pc := 7) (tgt := 11) hG dX8_atY_7 (by decide) ?_
    refine sx_iload_n (pc := 11) hG dX8_atY_11 rfl 2 rfl ?_
    refine sx_icmp_ne (pc := 12) (tgt := 26) (B := 1 = 1) hG dX8_atY_12 (by decide) (nI_eq (by omega) (by omega)) (fun c12 => ?_) (fun c12 => ?_)
    · skip
      exact absurd (by decide) c12
    · skip
      refine sx_aload_n (pc := 15) hG dX8_atY_15 rfl 0 rfl ?_
      refine sx_get (pc := 16) (v2 := .ref (bd 4)) (ci := 8) hG i_X8_atY_8 4 m_X8_atY_f19 dX8_atY_16 rfl (by decide) 0 rfl rfl rfl ?_
      refine sx_iload_n (pc := 19) hG dX8_atY_19 rfl 1 rfl ?_
      refine sx_iconst (pc := 20) (v := nI 2) hG dX8_atY_20 (by decide +kernel) ?_
      refine sx_idiv (pc := 21) (v := (nI (a / 2))) hG dX8_atY_21 (nI_ne0 (by decide) (by decide)) (pk_div (by omega) (by decide) (by decide)) ?_
      refine sx_iald (pc := 22) (v := nI ((av 4) (a / 2))) hG 4 dX8_atY_22 rfl (by decide) (by omega) rfl ?_
      refine sx_goto (pc := 23) (tgt := 34) hG dX8_atY_23 (by decide) ?_
      exact hret _ _ _ _ dX8_atY_34 rfl ⟨congrArg nI (by unfold mYe; split <;> first | rfl | omega), rfl⟩

set_option maxHeartbeats 4000000 in
set_option maxRecDepth 100000 in
theorem c_X8_atY0 (l : Launch) (X : sx_X) (bd : Nat → Nat) (sc : Nat → Int32) (av : Nat → Nat → Nat) (a : Nat) (ha : a < 18) : sx_Mi l yX8_atY wsX8_atY { frames := 0, cells := 0, slots := 0, locals := 0 } X [.ref (bd 0), .int (nI a), .int (nI 0)] (mw X bd sc av) (fun r w => r = nI (mYb av a) ∧ w = mw X bd sc av) 0 0 := by
  refine sx_entI (own := RX8) (nL := 3) (by decide +kernel) rfl rfl (Nat.le_of_ble_eq_true rfl) ?_
  intro G hG hN hret
  show sx_W l X G 0 0 0 [(0, .ref (bd 0)), (1, .int (nI a)), (2, .int (nI 0))] [] (mw X bd sc av)
  refine sx_iload_n (pc := 0) hG dX8_atY_0 rfl 1 rfl ?_
  refine sx_iconst (pc := 1) (v := nI 2) hG dX8_atY_1 (by decide +kernel) ?_
  refine sx_irem (pc := 2) (v := (nI (a % 2))) hG dX8_atY_2 (nI_ne0 (by decide) (by decide)) (pk_rem (by omega) (by decide) (by decide)) ?_
  refine sx_if_ne (pc := 3) (tgt := 10) (B := (a % 2) = 0) hG dX8_atY_3 (by decide) (sx_eq0 (by omega)) (fun c3 => ?_) (fun c3 => ?_)
  · skip
    refine sx_iconst (pc := 10) (v := nI 0) hG dX8_atY_10 (by decide +kernel) ?_
    refine sx_iload_n (pc := 11) hG dX8_atY_11 rfl 2 rfl ?_
    refine sx_icmp_ne (pc := 12) (tgt := 26) (B := 0 = 0) hG dX8_atY_12 (by decide) (nI_eq (by omega) (by omega)) (fun c12 => ?_) (fun c12 => ?_)
    · skip
      exact absurd (by decide) c12
    · skip
      refine sx_aload_n (pc := 15) hG dX8_atY_15 rfl 0 rfl ?_
      refine sx_get (pc := 16) (v2 := .ref (bd 4)) (ci := 8) hG i_X8_atY_8 4 m_X8_atY_f19 dX8_atY_16 rfl (by decide) 0 rfl rfl rfl ?_
      refine sx_iload_n (pc := 19) hG dX8_atY_19 rfl 1 rfl ?_
      refine sx_iconst (pc := 20) (v := nI 2) hG dX8_atY_20 (by decide +kernel) ?_
      refine sx_idiv (pc := 21) (v := (nI (a / 2))) hG dX8_atY_21 (nI_ne0 (by decide) (by decide)) (pk_div (by omega) (by decide) (by decide)) ?_
      refine sx_iald (pc := 22) (v := nI ((av 4) (a / 2))) hG 4 dX8_atY_22 rfl (by decide) (by omega) rfl ?_
      refine sx_goto (pc := 23) (tgt := 34) hG dX8_atY_23 (by decide) ?_
      exact hret _ _ _ _ dX8_atY_34 rfl ⟨congrArg nI (by unfold mYb; split <;> first | rfl | omega), rfl⟩
  · skip
    refine sx_iconst (pc := 6) (v := nI 1) hG dX8_atY_6 (by decide +kernel) ?_
    refine sx_goto (pc := 7) (tgt := 11) hG dX8_atY_7 (by decide) ?_
    refine sx_iload_n (pc := 11) hG dX8_atY_11 rfl 2 rfl ?_
    refine sx_icmp_ne (pc := 12) (tgt := 26) (B := 1 = 0) hG dX8_atY_12 (by decide) (nI_eq (by omega) (by omega)) (fun c12 => ?_) (fun c12 => ?_)
    · skip
      refine sx_aload_n (pc := 26) hG dX8_atY_26 rfl 0 rfl ?_
      refine sx_get (pc := 27) (v2 := .ref (bd 2)) (ci := 8) hG i_X8_atY_8 2 m_X8_atY_f13 dX8_atY_27 rfl (by decide) 0 rfl rfl rfl ?_
      refine sx_iload_n (pc := 30) hG dX8_atY_30 rfl 1 rfl ?_
      refine sx_iconst (pc := 31) (v := nI 2) hG dX8_atY_31 (by decide +kernel) ?_
      refine sx_idiv (pc := 32) (v := (nI (a / 2))) hG dX8_atY_32 (nI_ne0 (by decide) (by decide)) (pk_div (by omega) (by decide) (by decide)) ?_
      refine sx_iald (pc := 33) (v := nI ((av 2) (a / 2))) hG 2 dX8_atY_33 rfl (by decide) (by omega) rfl ?_
      exact hret _ _ _ _ dX8_atY_34 rfl ⟨congrArg nI (by unfold mYb; split <;> first | rfl | omega), rfl⟩
    · skip
      exact absurd c12 (by decide)

theorem i_X8_towardsOf_8 : ∀ w ∈ u_ws RX8 TX8 24, w ∈ wsX8_towardsOf := by decide +kernel
theorem m_X8_towardsOf_f22 : Cond.fieldLink RX8 22 (TX8 5).1 (TX8 5).2.1 (TX8 5).2.2.1 ∈ wsX8_towardsOf := by decide +kernel
set_option maxHeartbeats 4000000 in
set_option maxRecDepth 100000 in
theorem c_X8_towardsOf (l : Launch) (X : sx_X) (bd : Nat → Nat) (sc : Nat → Int32) (av : Nat → Nat → Nat) (a : Nat) (ha : a < 18) (hg : mG av) : sx_Mi l yX8_towardsOf wsX8_towardsOf { frames := 0, cells := 0, slots := 0, locals := 0 } X [.ref (bd 0), .int (nI a)] (mw X bd sc av) (fun r w => r = nI (mTw av a) ∧ w = mw X bd sc av) 0 0 := by
  refine sx_entI (own := RX8) (nL := 2) (by decide +kernel) rfl rfl (Nat.le_of_ble_eq_true rfl) ?_
  intro G hG hN hret
  show sx_W l X G 0 0 0 [(0, .ref (bd 0)), (1, .int (nI a))] [] (mw X bd sc av)
  have hw := hg.2.2.2.2.1 (a / 2)
  refine sx_aload_n (pc := 0) hG dX8_towardsOf_0 rfl 0 rfl ?_
  refine sx_get (pc := 1) (v2 := .ref (bd 5)) (ci := 8) hG i_X8_towardsOf_8 5 m_X8_towardsOf_f22 dX8_towardsOf_1 rfl (by decide) 0 rfl rfl rfl ?_
  refine sx_iload_n (pc := 4) hG dX8_towardsOf_4 rfl 1 rfl ?_
  refine sx_iconst (pc := 5) (v := nI 2) hG dX8_towardsOf_5 (by decide +kernel) ?_
  refine sx_idiv (pc := 6) (v := (nI (a / 2))) hG dX8_towardsOf_6 (nI_ne0 (by decide) (by decide)) (pk_div (by omega) (by decide) (by decide)) ?_
  refine sx_iald (pc := 7) (v := nI ((av 5) (a / 2))) hG 5 dX8_towardsOf_7 rfl (by decide) (by omega) rfl ?_
  refine sx_iconst (pc := 8) (v := nI 4) hG dX8_towardsOf_8 (by decide +kernel) ?_
  refine sx_iload_n (pc := 9) hG dX8_towardsOf_9 rfl 1 rfl ?_
  refine sx_iconst (pc := 10) (v := nI 2) hG dX8_towardsOf_10 (by decide +kernel) ?_
  refine sx_irem (pc := 11) (v := (nI (a % 2))) hG dX8_towardsOf_11 (nI_ne0 (by decide) (by decide)) (pk_rem (by omega) (by decide) (by decide)) ?_
  refine sx_imul (pc := 12) (v := (nI (4 * (a % 2)))) hG dX8_towardsOf_12 (pk_mul 4 (a % 2)) ?_
  refine sx_iadd (pc := 13) (v := (nI ((av 5) (a / 2) + (4 * (a % 2))))) hG dX8_towardsOf_13 (nI_add ((av 5) (a / 2)) (4 * (a % 2))) ?_
  refine sx_bipush (pc := 14) (v := nI 8) hG dX8_towardsOf_14 (by decide +kernel) ?_
  refine sx_irem (pc := 16) (v := (nI (((av 5) (a / 2) + (4 * (a % 2))) % 8))) hG dX8_towardsOf_16 (nI_ne0 (by decide) (by decide)) (pk_rem (by omega) (by decide) (by decide)) ?_
  exact hret _ _ _ _ dX8_towardsOf_17 rfl ⟨rfl, rfl⟩

set_option maxHeartbeats 4000000 in
set_option maxRecDepth 100000 in
theorem c_X8_isJump (l : Launch) (X : sx_X) (bd : Nat → Nat) (sc : Nat → Int32) (av : Nat → Nat → Nat) (a b : Nat) (ha : a < 18) (hb : b < 18) (hg : mG av) : sx_Mi l yX8_isJump wsX8_isJump { frames := 1, cells := 0, slots := 0, locals := 22 } X [.ref (bd 0), .int (nI a), .int (nI b)] (mw X bd sc av) (fun r w => r = nI (mJ av a b) ∧ w = mw X bd sc av) 0 0 := by
  refine sx_entI (own := RX8) (nL := 3) (by decide +kernel) rfl rfl (Nat.le_of_ble_eq_true rfl) ?_
  intro G hG hN hret
  show sx_W l X G 0 0 0 [(0, .ref (bd 0)), (1, .int (nI a)), (2, .int (nI b))] [] (mw X bd sc av)
  have hxa := mXe_le hg a
  have hxb := mXb_le hg b
  have hya := mYe_le hg a
  have hyb := mYb_le hg b
  refine sx_aload_n (pc := 0) hG dX8_isJump_0 rfl 0 rfl ?_
  refine sx_iload_n (pc := 1) hG dX8_isJump_1 rfl 1 rfl ?_
  refine sx_iconst (pc := 2) (v := nI 1) hG dX8_isJump_2 (by decide +kernel) ?_
  refine sx_callViw (pc := 3) (n9 := 2) (As := [.int (nI a), .int (nI 1)]) (st := []) (b := (bd 0)) (ci := 8) hG (c_X8_atX1 l X bd sc av a (by omega)) gX8_isJump_X8_atX rfl (by decide +kernel) rfl 0 rfl rfl rfl dX8_isJump_3 ⟨rfl, rfl⟩ ⟨Nat.le_of_ble_eq_true rfl, Nat.le_of_ble_eq_true rfl⟩ (Nat.le_of_ble_eq_true rfl) ⟨Nat.le_of_ble_eq_true rfl, Nat.le_of_ble_eq_true rfl⟩ (fun r w1 hp => ?_)
  obtain ⟨hr9, hw9⟩ := hp
  have hr9 : r = (nI (mXe av a)) := hr9
  subst hr9
  refine sx_weq hw9 ?_
  refine sx_aload_n (pc := 6) hG dX8_isJump_6 rfl 0 rfl ?_
  refine sx_iload_n (pc := 7) hG dX8_isJump_7 rfl 2 rfl ?_
  refine sx_iconst (pc := 8) (v := nI 0) hG dX8_isJump_8 (by decide +kernel) ?_
  refine sx_callViw (pc := 9) (n9 := 2) (As := [.int (nI b), .int (nI 0)]) (st := [.int (nI (mXe av a))]) (b := (bd 0)) (ci := 8) hG (c_X8_atX0 l X bd sc av b (by omega)) gX8_isJump_X8_atX rfl (by decide +kernel) rfl 0 rfl rfl rfl dX8_isJump_9 ⟨rfl, rfl⟩ ⟨Nat.le_of_ble_eq_true rfl, Nat.le_of_ble_eq_true rfl⟩ (Nat.le_of_ble_eq_true rfl) ⟨Nat.le_of_ble_eq_true rfl, Nat.le_of_ble_eq_true rfl⟩ (fun r w1 hp => ?_)
  obtain ⟨hr9, hw9⟩ := hp
  have hr9 : r = (nI (mXb av b)) := hr9
  subst hr9
  refine sx_weq hw9 ?_
  refine sx_icmp_ne (pc := 12) (tgt := 30) (B := (mXe av a) = (mXb av b)) hG dX8_isJump_12 (by decide) (nI_eq (by omega) (by omega)) (fun c12 => ?_) (fun c12 => ?_)
  · skip
    refine sx_iconst (pc := 30) (v := nI 1) hG dX8_isJump_30 (by decide +kernel) ?_
    refine sx_goto (pc := 31) (tgt := 35) hG dX8_isJump_31 (by decide) ?_
    exact hret _ _ _ _ dX8_isJump_35 (by decide +kernel) ⟨congrArg nI (by unfold mJ sx_jmp; first | (rw [if_pos (by omega)]) | (rw [if_neg (by omega)])), rfl⟩
  · skip
    refine sx_aload_n (pc := 15) hG dX8_isJump_15 rfl 0 rfl ?_
    refine sx_iload_n (pc := 16) hG dX8_isJump_16 rfl 1 rfl ?_
    refine sx_iconst (pc := 17) (v := nI 1) hG dX8_isJump_17 (by decide +kernel) ?_
    refine sx_callViw (pc := 18) (n9 := 2) (As := [.int (nI a), .int (nI 1)]) (st := []) (b := (bd 0)) (ci := 8) hG (c_X8_atY1 l X bd sc av a (by omega)) gX8_isJump_X8_atY rfl (by decide +kernel) rfl 0 rfl rfl rfl dX8_isJump_18 ⟨rfl, rfl⟩ ⟨Nat.le_of_ble_eq_true rfl, Nat.le_of_ble_eq_true rfl⟩ (Nat.le_of_ble_eq_true rfl) ⟨Nat.le_of_ble_eq_true rfl, Nat.le_of_ble_eq_true rfl⟩ (fun r w1 hp => ?_)
    obtain ⟨hr9, hw9⟩ := hp
    have hr9 : r = (nI (mYe av a)) := hr9
    subst hr9
    refine sx_weq hw9 ?_
    refine sx_aload_n (pc := 21) hG dX8_isJump_21 rfl 0 rfl ?_
    refine sx_iload_n (pc := 22) hG dX8_isJump_22 rfl 2 rfl ?_
    refine sx_iconst (pc := 23) (v := nI 0) hG dX8_isJump_23 (by decide +kernel) ?_
    refine sx_callViw (pc := 24) (n9 := 2) (As := [.int (nI b), .int (nI 0)]) (st := [.int (nI (mYe av a))]) (b := (bd 0)) (ci := 8) hG (c_X8_atY0 l X bd sc av b (by omega)) gX8_isJump_X8_atY rfl (by decide +kernel) rfl 0 rfl rfl rfl dX8_isJump_24 ⟨rfl, rfl⟩ ⟨Nat.le_of_ble_eq_true rfl, Nat.le_of_ble_eq_true rfl⟩ (Nat.le_of_ble_eq_true rfl) ⟨Nat.le_of_ble_eq_true rfl, Nat.le_of_ble_eq_true rfl⟩ (fun r w1 hp => ?_)
    obtain ⟨hr9, hw9⟩ := hp
    have hr9 : r = (nI (mYb av b)) := hr9
    subst hr9
    refine sx_weq hw9 ?_
    refine sx_icmp_eq (pc := 27) (tgt := 34) (B := (mYe av a) = (mYb av b)) hG dX8_isJump_27 (by decide) (nI_eq (by omega) (by omega)) (fun c27 => ?_) (fun c27 => ?_)
    · skip
      refine sx_iconst (pc := 34) (v := nI 0) hG dX8_isJump_34 (by decide +kernel) ?_
      exact hret _ _ _ _ dX8_isJump_35 (by decide +kernel) ⟨congrArg nI (by unfold mJ sx_jmp; first | (rw [if_pos (by omega)]) | (rw [if_neg (by omega)])), rfl⟩
    · skip
      refine sx_iconst (pc := 30) (v := nI 1) hG dX8_isJump_30 (by decide +kernel) ?_
      refine sx_goto (pc := 31) (tgt := 35) hG dX8_isJump_31 (by decide) ?_
      exact hret _ _ _ _ dX8_isJump_35 (by decide +kernel) ⟨congrArg nI (by unfold mJ sx_jmp; first | (rw [if_pos (by omega)]) | (rw [if_neg (by omega)])), rfl⟩

theorem i_X8_goes_8 : ∀ w ∈ u_ws RX8 TX8 24, w ∈ wsX8_goes := by decide +kernel
theorem m_X8_goes_f25 : Cond.fieldLink RX8 25 (TX8 6).1 (TX8 6).2.1 (TX8 6).2.2.1 ∈ wsX8_goes := by decide +kernel
theorem m_X8_goes_c107 : Cond.constant RX8 107 (100000) ∈ wsX8_goes := by decide +kernel
theorem m_X8_goes_f28 : Cond.fieldLink RX8 28 (TX8 7).1 (TX8 7).2.1 (TX8 7).2.2.1 ∈ wsX8_goes := by decide +kernel
set_option maxHeartbeats 4000000 in
set_option maxRecDepth 100000 in
theorem c_X8_goes (l : Launch) (X : sx_X) (bd : Nat → Nat) (sc : Nat → Int32) (av : Nat → Nat → Nat) (a b : Nat) (ha : a < 18) (hb : b < 18) (hg : mG av) : sx_Mi l yX8_goes wsX8_goes { frames := 2, cells := 0, slots := 0, locals := 46 } X [.ref (bd 0), .int (nI a), .int (nI b)] (mw X bd sc av) (fun r w => r = nI (mGo av a b) ∧ w = mw X bd sc av) 0 0 := by
  refine sx_entI (own := RX8) (nL := 5) (by decide +kernel) rfl rfl (Nat.le_of_ble_eq_true rfl) ?_
  intro G hG hN hret
  show sx_W l X G 0 0 0 [(0, .ref (bd 0)), (1, .int (nI a)), (2, .int (nI b))] [] (mw X bd sc av)
  have hxa := mXe_le hg a
  have hxb := mXb_le hg b
  have hya := mYe_le hg a
  have hyb := mYb_le hg b
  have hta := mTw_lt av a
  have htb := mTw_lt av b
  have hs := hg.2.2.2.2.2.1 (b / 2)
  have hp5 := hg.2.2.2.2.2.2 5
  have hjl : mJ av a b ≤ 1 := by unfold mJ sx_jmp; split <;> omega
  have join_t : ∀ (t : Nat), (t = sx_turn (mTw av a) (mTw av b)) → (mJ av a b = 0) → sx_W l X G 0 0 99 [(0, .ref (bd 0)), (1, .int (nI a)), (2, .int (nI b)), (3, .int (nI (av 6 (b / 2)))), (4, .int (nI ((mTw av b + 8 - mTw av a) % 8)))] [.int (nI t), .ref (bd 7), .int (nI 100000)] (mw X bd sc av) := by
    intro t ht hj
    have ht4 := sx_turn_le (mTw av a) (mTw av b)
    have hpt := hg.2.2.2.2.2.2 t
    refine sx_iald (pc := 99) (v := nI ((av 7) t)) hG 7 dX8_goes_99 rfl (by decide) (by omega) rfl ?_
    refine sx_imul (pc := 100) (v := (nI (100000 * ((av 7) t)))) hG dX8_goes_100 (pk_mul 100000 ((av 7) t)) ?_
    refine sx_iload_n (pc := 101) hG dX8_goes_101 rfl 3 rfl ?_
    refine sx_iadd (pc := 102) (v := (nI (100000 * ((av 7) t) + (av 6 (b / 2))))) hG dX8_goes_102 (nI_add (100000 * ((av 7) t)) (av 6 (b / 2))) ?_
    exact hret _ _ _ _ dX8_goes_103 rfl ⟨congrArg nI (by subst ht; unfold mGo mLp mLl; rw [if_pos hj, if_pos hj]; omega), rfl⟩
  refine sx_aload_n (pc := 0) hG dX8_goes_0 rfl 0 rfl ?_
  refine sx_get (pc := 1) (v2 := .ref (bd 6)) (ci := 8) hG i_X8_goes_8 6 m_X8_goes_f25 dX8_goes_1 rfl (by decide) 0 rfl rfl rfl ?_
  refine sx_iload_n (pc := 4) hG dX8_goes_4 rfl 2 rfl ?_
  refine sx_iconst (pc := 5) (v := nI 2) hG dX8_goes_5 (by decide +kernel) ?_
  refine sx_idiv (pc := 6) (v := (nI (b / 2))) hG dX8_goes_6 (nI_ne0 (by decide) (by decide)) (pk_div (by omega) (by decide) (by decide)) ?_
  refine sx_iald (pc := 7) (v := nI ((av 6) (b / 2))) hG 6 dX8_goes_7 rfl (by decide) (by omega) rfl ?_
  refine sx_istore_n (pc := 8) (lv2 := [(0, .ref (bd 0)), (1, .int (nI a)), (2, .int (nI b)), (3, .int (nI ((av 6) (b / 2))))]) hG [1, 2, 3, 0] dX8_goes_8 rfl hN (by decide) rfl ?_
  refine sx_aload_n (pc := 9) hG dX8_goes_9 rfl 0 rfl ?_
  refine sx_iload_n (pc := 10) hG dX8_goes_10 rfl 1 rfl ?_
  refine sx_iload_n (pc := 11) hG dX8_goes_11 rfl 2 rfl ?_
  refine sx_callViw (pc := 12) (n9 := 2) (As := [.int (nI a), .int (nI b)]) (st := []) (b := (bd 0)) (ci := 8) hG (c_X8_isJump l X bd sc av a b (by omega) (by omega) hg) gX8_goes_X8_isJump rfl (by decide +kernel) rfl 0 rfl rfl rfl dX8_goes_12 ⟨rfl, rfl⟩ ⟨Nat.le_of_ble_eq_true rfl, Nat.le_of_ble_eq_true rfl⟩ (Nat.le_of_ble_eq_true rfl) ⟨Nat.le_of_ble_eq_true rfl, Nat.le_of_ble_eq_true rfl⟩ (fun r w1 hp => ?_)
  obtain ⟨hr9, hw9⟩ := hp
  have hr9 : r = (nI (mJ av a b)) := hr9
  subst hr9
  refine sx_weq hw9 ?_
  refine sx_if_eq (pc := 15) (tgt := 58) (B := (mJ av a b) = 0) hG dX8_goes_15 (by decide) (sx_eq0 (by omega)) (fun c15 => ?_) (fun c15 => ?_)
  · skip
    refine sx_aload_n (pc := 58) hG dX8_goes_58 rfl 0 rfl ?_
    refine sx_iload_n (pc := 59) hG dX8_goes_59 rfl 2 rfl ?_
    refine sx_callViw (pc := 60) (n9 := 1) (As := [.int (nI b)]) (st := []) (b := (bd 0)) (ci := 8) hG (c_X8_towardsOf l X bd sc av b (by omega) hg) gX8_goes_X8_towardsOf rfl (by decide +kernel) rfl 0 rfl rfl rfl dX8_goes_60 ⟨rfl, rfl⟩ ⟨Nat.le_of_ble_eq_true rfl, Nat.le_of_ble_eq_true rfl⟩ (Nat.le_of_ble_eq_true rfl) ⟨Nat.le_of_ble_eq_true rfl, Nat.le_of_ble_eq_true rfl⟩ (fun r w1 hp => ?_)
    obtain ⟨hr9, hw9⟩ := hp
    have hr9 : r = (nI (mTw av b)) := hr9
    subst hr9
    refine sx_weq hw9 ?_
    refine sx_aload_n (pc := 63) hG dX8_goes_63 rfl 0 rfl ?_
    refine sx_iload_n (pc := 64) hG dX8_goes_64 rfl 1 rfl ?_
    refine sx_callViw (pc := 65) (n9 := 1) (As := [.int (nI a)]) (st := [.int (nI (mTw av b))]) (b := (bd 0)) (ci := 8) hG (c_X8_towardsOf l X bd sc av a (by omega) hg) gX8_goes_X8_towardsOf rfl (by decide +kernel) rfl 0 rfl rfl rfl dX8_goes_65 ⟨rfl, rfl⟩ ⟨Nat.le_of_ble_eq_true rfl, Nat.le_of_ble_eq_true rfl⟩ (Nat.le_of_ble_eq_true rfl) ⟨Nat.le_of_ble_eq_true rfl, Nat.le_of_ble_eq_true rfl⟩ (fun r w1 hp => ?_)
    obtain ⟨hr9, hw9⟩ := hp
    have hr9 : r = (nI (mTw av a)) := hr9
    subst hr9
    refine sx_weq hw9 ?_
    refine sx_isub (pc := 68) (v := (nI (mTw av b) - nI (mTw av a))) hG dX8_goes_68 rfl ?_
    refine sx_bipush (pc := 69) (v := nI 8) hG dX8_goes_69 (by decide +kernel) ?_
    refine sx_iadd (pc := 71) (v := (nI (mTw av b + 8 - mTw av a))) hG dX8_goes_71 (sx_sub8 hta) ?_
    refine sx_bipush (pc := 72) (v := nI 8) hG dX8_goes_72 (by decide +kernel) ?_
    refine sx_irem (pc := 74) (v := (nI ((mTw av b + 8 - mTw av a) % 8))) hG dX8_goes_74 (nI_ne0 (by decide) (by decide)) (pk_rem (by omega) (by decide) (by decide)) ?_
    refine sx_istore (pc := 75) (lv2 := [(0, .ref (bd 0)), (1, .int (nI a)), (2, .int (nI b)), (3, .int (nI ((av 6) (b / 2)))), (4, .int (nI ((mTw av b + 8 - mTw av a) % 8)))]) hG [1, 2, 3, 4, 0] dX8_goes_75 hN (by decide) rfl ?_
    refine sx_ldc (pc := 77) (v2 := nI 100000) hG m_X8_goes_c107 dX8_goes_77 (by decide +kernel) ?_
    refine sx_aload_n (pc := 79) hG dX8_goes_79 rfl 0 rfl ?_
    refine sx_get (pc := 80) (v2 := .ref (bd 7)) (ci := 8) hG i_X8_goes_8 7 m_X8_goes_f28 dX8_goes_80 rfl (by decide) 0 rfl rfl rfl ?_
    refine sx_iload (pc := 83) hG dX8_goes_83 4 rfl ?_
    refine sx_iconst (pc := 85) (v := nI 4) hG dX8_goes_85 (by decide +kernel) ?_
    refine sx_icmp_le (pc := 86) (tgt := 97) (B := ((mTw av b + 8 - mTw av a) % 8) ≤ 4) hG dX8_goes_86 (by decide) (nI_leI (by omega) (by omega)) (fun c86 => ?_) (fun c86 => ?_)
    · skip
      refine sx_iload (pc := 97) hG dX8_goes_97 4 rfl ?_
      refine join_t _ (by unfold sx_turn; split <;> omega) c15
    · skip
      refine sx_bipush (pc := 89) (v := nI 8) hG dX8_goes_89 (by decide +kernel) ?_
      refine sx_iload (pc := 91) hG dX8_goes_91 4 rfl ?_
      refine sx_isub (pc := 93) (v := (nI (8 - ((mTw av b + 8 - mTw av a) % 8)))) hG dX8_goes_93 (pk_sub (by omega)) ?_
      refine sx_goto (pc := 94) (tgt := 99) hG dX8_goes_94 (by decide) ?_
      refine join_t _ (by unfold sx_turn; split <;> omega) c15
  · skip
    refine sx_ldc (pc := 18) (v2 := nI 100000) hG m_X8_goes_c107 dX8_goes_18 (by decide +kernel) ?_
    refine sx_aload_n (pc := 20) hG dX8_goes_20 rfl 0 rfl ?_
    refine sx_get (pc := 21) (v2 := .ref (bd 7)) (ci := 8) hG i_X8_goes_8 7 m_X8_goes_f28 dX8_goes_21 rfl (by decide) 0 rfl rfl rfl ?_
    refine sx_iconst (pc := 24) (v := nI 5) hG dX8_goes_24 (by decide +kernel) ?_
    refine sx_iald (pc := 25) (v := nI ((av 7) 5)) hG 7 dX8_goes_25 rfl (by decide) (by omega) rfl ?_
    refine sx_imul (pc := 26) (v := (nI (100000 * ((av 7) 5)))) hG dX8_goes_26 (pk_mul 100000 ((av 7) 5)) ?_
    refine sx_iload_n (pc := 27) hG dX8_goes_27 rfl 3 rfl ?_
    refine sx_iadd (pc := 28) (v := (nI (100000 * ((av 7) 5) + ((av 6) (b / 2))))) hG dX8_goes_28 (nI_add (100000 * ((av 7) 5)) ((av 6) (b / 2))) ?_
    refine sx_aload_n (pc := 29) hG dX8_goes_29 rfl 0 rfl ?_
    refine sx_iload_n (pc := 30) hG dX8_goes_30 rfl 1 rfl ?_
    refine sx_iconst (pc := 31) (v := nI 1) hG dX8_goes_31 (by decide +kernel) ?_
    refine sx_callViw (pc := 32) (n9 := 2) (As := [.int (nI a), .int (nI 1)]) (st := [.int (nI (100000 * ((av 7) 5) + ((av 6) (b / 2))))]) (b := (bd 0)) (ci := 8) hG (c_X8_atX1 l X bd sc av a (by omega)) gX8_goes_X8_atX rfl (by decide +kernel) rfl 0 rfl rfl rfl dX8_goes_32 ⟨rfl, rfl⟩ ⟨Nat.le_of_ble_eq_true rfl, Nat.le_of_ble_eq_true rfl⟩ (Nat.le_of_ble_eq_true rfl) ⟨Nat.le_of_ble_eq_true rfl, Nat.le_of_ble_eq_true rfl⟩ (fun r w1 hp => ?_)
    obtain ⟨hr9, hw9⟩ := hp
    have hr9 : r = (nI (mXe av a)) := hr9
    subst hr9
    refine sx_weq hw9 ?_
    refine sx_aload_n (pc := 35) hG dX8_goes_35 rfl 0 rfl ?_
    refine sx_iload_n (pc := 36) hG dX8_goes_36 rfl 1 rfl ?_
    refine sx_iconst (pc := 37) (v := nI 1) hG dX8_goes_37 (by decide +kernel) ?_
    refine sx_callViw (pc := 38) (n9 := 2) (As := [.int (nI a), .int (nI 1)]) (st := [.int (nI (mXe av a)), .int (nI (100000 * ((av 7) 5) + ((av 6) (b / 2))))]) (b := (bd 0)) (ci := 8) hG (c_X8_atY1 l X bd sc av a (by omega)) gX8_goes_X8_atY rfl (by decide +kernel) rfl 0 rfl rfl rfl dX8_goes_38 ⟨rfl, rfl⟩ ⟨Nat.le_of_ble_eq_true rfl, Nat.le_of_ble_eq_true rfl⟩ (Nat.le_of_ble_eq_true rfl) ⟨Nat.le_of_ble_eq_true rfl, Nat.le_of_ble_eq_true rfl⟩ (fun r w1 hp => ?_)
    obtain ⟨hr9, hw9⟩ := hp
    have hr9 : r = (nI (mYe av a)) := hr9
    subst hr9
    refine sx_weq hw9 ?_
    refine sx_aload_n (pc := 41) hG dX8_goes_41 rfl 0 rfl ?_
    refine sx_iload_n (pc := 42) hG dX8_goes_42 rfl 2 rfl ?_
    refine sx_iconst (pc := 43) (v := nI 0) hG dX8_goes_43 (by decide +kernel) ?_
    refine sx_callViw (pc := 44) (n9 := 2) (As := [.int (nI b), .int (nI 0)]) (st := [.int (nI (mYe av a)), .int (nI (mXe av a)), .int (nI (100000 * ((av 7) 5) + ((av 6) (b / 2))))]) (b := (bd 0)) (ci := 8) hG (c_X8_atX0 l X bd sc av b (by omega)) gX8_goes_X8_atX rfl (by decide +kernel) rfl 0 rfl rfl rfl dX8_goes_44 ⟨rfl, rfl⟩ ⟨Nat.le_of_ble_eq_true rfl, Nat.le_of_ble_eq_true rfl⟩ (Nat.le_of_ble_eq_true rfl) ⟨Nat.le_of_ble_eq_true rfl, Nat.le_of_ble_eq_true rfl⟩ (fun r w1 hp => ?_)
    obtain ⟨hr9, hw9⟩ := hp
    have hr9 : r = (nI (mXb av b)) := hr9
    subst hr9
    refine sx_weq hw9 ?_
    refine sx_aload_n (pc := 47) hG dX8_goes_47 rfl 0 rfl ?_
    refine sx_iload_n (pc := 48) hG dX8_goes_48 rfl 2 rfl ?_
    refine sx_iconst (pc := 49) (v := nI 0) hG dX8_goes_49 (by decide +kernel) ?_
    refine sx_callViw (pc := 50) (n9 := 2) (As := [.int (nI b), .int (nI 0)]) (st := [.int (nI (mXb av b)), .int (nI (mYe av a)), .int (nI (mXe av a)), .int (nI (100000 * ((av 7) 5) + ((av 6) (b / 2))))]) (b := (bd 0)) (ci := 8) hG (c_X8_atY0 l X bd sc av b (by omega)) gX8_goes_X8_atY rfl (by decide +kernel) rfl 0 rfl rfl rfl dX8_goes_50 ⟨rfl, rfl⟩ ⟨Nat.le_of_ble_eq_true rfl, Nat.le_of_ble_eq_true rfl⟩ (Nat.le_of_ble_eq_true rfl) ⟨Nat.le_of_ble_eq_true rfl, Nat.le_of_ble_eq_true rfl⟩ (fun r w1 hp => ?_)
    obtain ⟨hr9, hw9⟩ := hp
    have hr9 : r = (nI (mYb av b)) := hr9
    subst hr9
    refine sx_weq hw9 ?_
    refine sx_callSiw (pc := 53) (n9 := 4) (As := [.int (nI (mXe av a)), .int (nI (mYe av a)), .int (nI (mXb av b)), .int (nI (mYb av b))]) (st := [.int (nI (100000 * ((av 7) 5) + ((av 6) (b / 2))))]) hG (c_X8_piece l X (mw X bd sc av) (mXe av a) (mYe av a) (mXb av b) (mYb av b) (by omega) (by omega) (by omega) (by omega)) gX8_goes_X8_piece rfl (by decide +kernel) rfl dX8_goes_53 ⟨rfl, rfl⟩ ⟨Nat.le_of_ble_eq_true rfl, Nat.le_of_ble_eq_true rfl⟩ (Nat.le_of_ble_eq_true rfl) ⟨Nat.le_of_ble_eq_true rfl, Nat.le_of_ble_eq_true rfl⟩ (fun r w1 hp => ?_)
    obtain ⟨hr9, hw9⟩ := hp
    have hr9 : r = (nI (sx_piece (sx_far (mXe av a) (mXb av b)) (sx_far (mYe av a) (mYb av b)))) := hr9
    subst hr9
    refine sx_weq hw9 ?_
    refine sx_iadd (pc := 56) (v := (nI (100000 * ((av 7) 5) + ((av 6) (b / 2)) + (sx_piece (sx_far (mXe av a) (mXb av b)) (sx_far (mYe av a) (mYb av b)))))) hG dX8_goes_56 (nI_add (100000 * ((av 7) 5) + ((av 6) (b / 2))) (sx_piece (sx_far (mXe av a) (mXb av b)) (sx_far (mYe av a) (mYb av b)))) ?_
    exact hret _ _ _ _ dX8_goes_57 rfl ⟨congrArg nI (by unfold mGo mLp mLl; rw [if_neg c15, if_neg c15]), rfl⟩

theorem i_X8_from_8 : ∀ w ∈ u_ws RX8 TX8 24, w ∈ wsX8_from := by decide +kernel
theorem m_X8_from_f25 : Cond.fieldLink RX8 25 (TX8 6).1 (TX8 6).2.1 (TX8 6).2.2.1 ∈ wsX8_from := by decide +kernel
theorem m_X8_from_f35 : Cond.fieldLink RX8 35 (TX8 10).1 (TX8 10).2.1 (TX8 10).2.2.1 ∈ wsX8_from := by decide +kernel
set_option maxHeartbeats 4000000 in
set_option maxRecDepth 100000 in
theorem c_X8_from (l : Launch) (X : sx_X) (bd : Nat → Nat) (sc : Nat → Int32) (av : Nat → Nat → Nat) (s a : Nat) (hs : s < 512) (ha : a < 18) (hg : mG av) (hL : ∀ j, av 8 j ≤ 2000000000) : sx_Mi l yX8_from wsX8_from { frames := 0, cells := 0, slots := 0, locals := 0 } X [.ref (bd 0), .int (nI s), .int (nI a)] (mw X bd sc av) (fun r w => r = nI (mFrom av (av 8) s a) ∧ w = mw X bd sc av) 0 0 := by
  refine sx_entI (own := RX8) (nL := 3) (by decide +kernel) rfl rfl (Nat.le_of_ble_eq_true rfl) ?_
  intro G hG hN hret
  show sx_W l X G 0 0 0 [(0, .ref (bd 0)), (1, .int (nI s)), (2, .int (nI a))] [] (mw X bd sc av)
  have hd9 := sx_diff_le s (2 ^ (a / 2))
  have h6 := hg.2.2.2.2.2.1 (a / 2)
  refine sx_aload_n (pc := 0) hG dX8_from_0 rfl 0 rfl ?_
  refine sx_get (pc := 1) (v2 := .ref (bd 6)) (ci := 8) hG i_X8_from_8 6 m_X8_from_f25 dX8_from_1 rfl (by decide) 0 rfl rfl rfl ?_
  refine sx_iload_n (pc := 4) hG dX8_from_4 rfl 2 rfl ?_
  refine sx_iconst (pc := 5) (v := nI 2) hG dX8_from_5 (by decide +kernel) ?_
  refine sx_idiv (pc := 6) (v := (nI (a / 2))) hG dX8_from_6 (nI_ne0 (by decide) (by decide)) (pk_div (by omega) (by decide) (by decide)) ?_
  refine sx_iald (pc := 7) (v := nI ((av 6) (a / 2))) hG 6 dX8_from_7 rfl (by decide) (by omega) rfl ?_
  refine sx_aload_n (pc := 8) hG dX8_from_8 rfl 0 rfl ?_
  refine sx_get (pc := 9) (v2 := .ref (bd 8)) (ci := 8) hG i_X8_from_8 10 m_X8_from_f35 dX8_from_9 rfl (by decide) 0 rfl rfl rfl ?_
  refine sx_bipush (pc := 12) (v := nI 18) hG dX8_from_12 (by decide +kernel) ?_
  refine sx_iload_n (pc := 14) hG dX8_from_14 rfl 1 rfl ?_
  refine sx_iconst (pc := 15) (v := nI 1) hG dX8_from_15 (by decide +kernel) ?_
  refine sx_iload_n (pc := 16) hG dX8_from_16 rfl 2 rfl ?_
  refine sx_iconst (pc := 17) (v := nI 2) hG dX8_from_17 (by decide +kernel) ?_
  refine sx_idiv (pc := 18) (v := (nI (a / 2))) hG dX8_from_18 (nI_ne0 (by decide) (by decide)) (pk_div (by omega) (by decide) (by decide)) ?_
  refine sx_ishl (pc := 19) (v := (nI (2 ^ (a / 2)))) hG dX8_from_19 (sx_one (by omega)) ?_
  refine sx_iconst (pc := 20) (v := (-1)) hG dX8_from_20 (by decide +kernel) ?_
  refine sx_ixor (pc := 21) (v := (nI (2 ^ (a / 2)) ^^^ (-1))) hG dX8_from_21 rfl ?_
  refine sx_iand (pc := 22) (v := (nI (sx_diff s (2 ^ (a / 2))))) hG dX8_from_22 (sx_andnot (by omega) (sx_p2 (by omega))) ?_
  refine sx_imul (pc := 23) (v := (nI (18 * (sx_diff s (2 ^ (a / 2)))))) hG dX8_from_23 (pk_mul 18 (sx_diff s (2 ^ (a / 2)))) ?_
  refine sx_iload_n (pc := 24) hG dX8_from_24 rfl 2 rfl ?_
  refine sx_iadd (pc := 25) (v := (nI (18 * (sx_diff s (2 ^ (a / 2))) + a))) hG dX8_from_25 (nI_add (18 * (sx_diff s (2 ^ (a / 2)))) a) ?_
  refine sx_iald (pc := 26) (v := nI ((av 8) (18 * (sx_diff s (2 ^ (a / 2))) + a))) hG 8 dX8_from_26 rfl (by decide) (by omega) rfl ?_
  refine sx_iadd (pc := 27) (v := (nI ((av 6) (a / 2) + ((av 8) (18 * (sx_diff s (2 ^ (a / 2))) + a))))) hG dX8_from_27 (nI_add ((av 6) (a / 2)) ((av 8) (18 * (sx_diff s (2 ^ (a / 2))) + a))) ?_
  exact hret _ _ _ _ dX8_from_28 rfl ⟨rfl, rfl⟩

theorem i_X8_priceOf_8 : ∀ w ∈ u_ws RX8 TX8 24, w ∈ wsX8_priceOf := by decide +kernel
theorem m_X8_priceOf_f38 : Cond.fieldLink RX8 38 (TX8 11).1 (TX8 11).2.1 (TX8 11).2.2.1 ∈ wsX8_priceOf := by decide +kernel
theorem m_X8_priceOf_c107 : Cond.constant RX8 107 (100000) ∈ wsX8_priceOf := by decide +kernel
theorem m_X8_priceOf_f28 : Cond.fieldLink RX8 28 (TX8 7).1 (TX8 7).2.1 (TX8 7).2.2.1 ∈ wsX8_priceOf := by decide +kernel
set_option maxHeartbeats 4000000 in
set_option maxRecDepth 100000 in
theorem c_X8_priceOf (l : Launch) (X : sx_X) (bd : Nat → Nat) (sc : Nat → Int32) (av : Nat → Nat → Nat) (s : Nat) (hs : s < 512) (hg : mG av) (hB : ∀ j, av 9 j ≤ 2000000000) : sx_Mi l yX8_priceOf wsX8_priceOf { frames := 0, cells := 0, slots := 0, locals := 0 } X [.ref (bd 0), .int (nI s)] (mw X bd sc av) (fun r w => r = nI (av 9 s / 100000 + av 9 s % 100000 * av 7 6 / 10) ∧ w = mw X bd sc av) 0 0 := by
  refine sx_entI (own := RX8) (nL := 2) (by decide +kernel) rfl rfl (Nat.le_of_ble_eq_true rfl) ?_
  intro G hG hN hret
  show sx_W l X G 0 0 0 [(0, .ref (bd 0)), (1, .int (nI s))] [] (mw X bd sc av)
  have h9 := hB s
  have h7 := hg.2.2.2.2.2.2 6
  have hm : av 9 s % 100000 * av 7 6 ≤ 99999 * 99 := Nat.mul_le_mul (by omega) h7
  refine sx_aload_n (pc := 0) hG dX8_priceOf_0 rfl 0 rfl ?_
  refine sx_get (pc := 1) (v2 := .ref (bd 9)) (ci := 8) hG i_X8_priceOf_8 11 m_X8_priceOf_f38 dX8_priceOf_1 rfl (by decide) 0 rfl rfl rfl ?_
  refine sx_iload_n (pc := 4) hG dX8_priceOf_4 rfl 1 rfl ?_
  refine sx_iald (pc := 5) (v := nI ((av 9) s)) hG 9 dX8_priceOf_5 rfl (by decide) (by omega) rfl ?_
  refine sx_ldc (pc := 6) (v2 := nI 100000) hG m_X8_priceOf_c107 dX8_priceOf_6 (by decide +kernel) ?_
  refine sx_idiv (pc := 8) (v := (nI (((av 9) s) / 100000))) hG dX8_priceOf_8 (nI_ne0 (by decide) (by decide)) (pk_div (by omega) (by decide) (by decide)) ?_
  refine sx_aload_n (pc := 9) hG dX8_priceOf_9 rfl 0 rfl ?_
  refine sx_get (pc := 10) (v2 := .ref (bd 9)) (ci := 8) hG i_X8_priceOf_8 11 m_X8_priceOf_f38 dX8_priceOf_10 rfl (by decide) 0 rfl rfl rfl ?_
  refine sx_iload_n (pc := 13) hG dX8_priceOf_13 rfl 1 rfl ?_
  refine sx_iald (pc := 14) (v := nI ((av 9) s)) hG 9 dX8_priceOf_14 rfl (by decide) (by omega) rfl ?_
  refine sx_ldc (pc := 15) (v2 := nI 100000) hG m_X8_priceOf_c107 dX8_priceOf_15 (by decide +kernel) ?_
  refine sx_irem (pc := 17) (v := (nI (((av 9) s) % 100000))) hG dX8_priceOf_17 (nI_ne0 (by decide) (by decide)) (pk_rem (by omega) (by decide) (by decide)) ?_
  refine sx_aload_n (pc := 18) hG dX8_priceOf_18 rfl 0 rfl ?_
  refine sx_get (pc := 19) (v2 := .ref (bd 7)) (ci := 8) hG i_X8_priceOf_8 7 m_X8_priceOf_f28 dX8_priceOf_19 rfl (by decide) 0 rfl rfl rfl ?_
  refine sx_bipush (pc := 22) (v := nI 6) hG dX8_priceOf_22 (by decide +kernel) ?_
  refine sx_iald (pc := 24) (v := nI ((av 7) 6)) hG 7 dX8_priceOf_24 rfl (by decide) (by omega) rfl ?_
  refine sx_imul (pc := 25) (v := (nI ((((av 9) s) % 100000) * ((av 7) 6)))) hG dX8_priceOf_25 (pk_mul (((av 9) s) % 100000) ((av 7) 6)) ?_
  refine sx_bipush (pc := 26) (v := nI 10) hG dX8_priceOf_26 (by decide +kernel) ?_
  refine sx_idiv (pc := 28) (v := (nI (((((av 9) s) % 100000) * ((av 7) 6)) / 10))) hG dX8_priceOf_28 (nI_ne0 (by decide) (by decide)) (pk_div (by omega) (by decide) (by decide)) ?_
  refine sx_iadd (pc := 29) (v := (nI (((av 9) s) / 100000 + (((((av 9) s) % 100000) * ((av 7) 6)) / 10)))) hG dX8_priceOf_29 (nI_add (((av 9) s) / 100000) (((((av 9) s) % 100000) * ((av 7) 6)) / 10)) ?_
  exact hret _ _ _ _ dX8_priceOf_30 rfl ⟨rfl, rfl⟩

theorem i_X8_isSet_8 : ∀ w ∈ u_ws RX8 TX8 24, w ∈ wsX8_isSet := by decide +kernel
theorem m_X8_isSet_f71 : Cond.fieldLink RX8 71 (TX8 0).1 (TX8 0).2.1 (TX8 0).2.2.1 ∈ wsX8_isSet := by decide +kernel
set_option maxHeartbeats 4000000 in
set_option maxRecDepth 100000 in
theorem c_X8_isSet (l : Launch) (X : sx_X) (bd : Nat → Nat) (sc : Nat → Int32) (av : Nat → Nat → Nat) (x : Int32) (n : Nat) (hn : n ≤ 9) (h0 : sc 0 = nI n) : sx_Mi l yX8_isSet wsX8_isSet { frames := 0, cells := 0, slots := 0, locals := 0 } X [.ref (bd 0), .int x] (mw X bd sc av) (fun r w => r = nI (sx_isSet n x) ∧ w = mw X bd sc av) 0 0 := by
  refine sx_entI (own := RX8) (nL := 2) (by decide +kernel) rfl rfl (Nat.le_of_ble_eq_true rfl) ?_
  intro G hG hN hret
  show sx_W l X G 0 0 0 [(0, .ref (bd 0)), (1, .int x)] [] (mw X bd sc av)
  have hp := sx_p9 hn
  refine sx_iload_n (pc := 0) hG dX8_isSet_0 rfl 1 rfl ?_
  refine sx_if_le (pc := 1) (tgt := 18) (B := x.toInt ≤ 0) hG dX8_isSet_1 (by decide) (sx_rle0 _) (fun c1 => ?_) (fun c1 => ?_)
  · skip
    refine sx_iconst (pc := 18) (v := nI 0) hG dX8_isSet_18 (by decide +kernel) ?_
    exact hret _ _ _ _ dX8_isSet_19 (by decide +kernel) ⟨congrArg nI (by unfold sx_isSet; first | (rw [if_pos (by omega)]) | (rw [if_neg (by omega)])), rfl⟩
  · skip
    refine sx_iload_n (pc := 4) hG dX8_isSet_4 rfl 1 rfl ?_
    refine sx_iconst (pc := 5) (v := nI 1) hG dX8_isSet_5 (by decide +kernel) ?_
    refine sx_aload_n (pc := 6) hG dX8_isSet_6 rfl 0 rfl ?_
    refine sx_get (pc := 7) (v2 := .int (nI n)) (ci := 8) hG i_X8_isSet_8 0 m_X8_isSet_f71 dX8_isSet_7 rfl (by decide) 0 rfl rfl (congrArg Value.int h0) ?_
    refine sx_ishl (pc := 10) (v := (nI (2 ^ n))) hG dX8_isSet_10 (sx_one (by omega)) ?_
    refine sx_icmp_ge (pc := 11) (tgt := 18) (B := ((2 ^ n : Nat) : Int) ≤ x.toInt) hG dX8_isSet_11 (by decide) (sx_rle (nI_toInt (by omega)) rfl) (fun c11 => ?_) (fun c11 => ?_)
    · skip
      refine sx_iconst (pc := 18) (v := nI 0) hG dX8_isSet_18 (by decide +kernel) ?_
      exact hret _ _ _ _ dX8_isSet_19 (by decide +kernel) ⟨congrArg nI (by unfold sx_isSet; first | (rw [if_pos (by omega)]) | (rw [if_neg (by omega)])), rfl⟩
    · skip
      refine sx_iconst (pc := 14) (v := nI 1) hG dX8_isSet_14 (by decide +kernel) ?_
      refine sx_goto (pc := 15) (tgt := 19) hG dX8_isSet_15 (by decide) ?_
      exact hret _ _ _ _ dX8_isSet_19 (by decide +kernel) ⟨congrArg nI (by unfold sx_isSet; first | (rw [if_pos (by omega)]) | (rw [if_neg (by omega)])), rfl⟩

theorem i_X8_fails_8 : ∀ w ∈ u_ws RX8 TX8 24, w ∈ wsX8_fails := by decide +kernel
theorem m_X8_fails_f68 : Cond.fieldLink RX8 68 (TX8 9).1 (TX8 9).2.1 (TX8 9).2.2.1 ∈ wsX8_fails := by decide +kernel
set_option maxHeartbeats 4000000 in
set_option maxRecDepth 100000 in
theorem c_X8_fails (l : Launch) (X : sx_X) (bd : Nat → Nat) (sc : Nat → Int32) (av : Nat → Nat → Nat) (t : Nat) : sx_Mi l yX8_fails wsX8_fails { frames := 0, cells := 0, slots := 0, locals := 0 } X [.ref (bd 0), .int (nI t)] (mw X bd sc av) (fun r w => r = nI 0 ∧ w = mw X bd (va_up sc 2 (nI t)) av) 0 0 := by
  refine sx_entI (own := RX8) (nL := 2) (by decide +kernel) rfl rfl (Nat.le_of_ble_eq_true rfl) ?_
  intro G hG hN hret
  show sx_W l X G 0 0 0 [(0, .ref (bd 0)), (1, .int (nI t))] [] (mw X bd sc av)
  refine sx_aload_n (pc := 0) hG dX8_fails_0 rfl 0 rfl ?_
  refine sx_iload_n (pc := 1) hG dX8_fails_1 rfl 1 rfl ?_
  refine sx_put (pc := 2) (v := .int (nI t)) (ci := 8) (w2 := (mw X bd (va_up sc 2 (nI t)) av)) hG i_X8_fails_8 tyX8 tyX8_ok nmX8 9 m_X8_fails_f68 dX8_fails_2 rfl (by decide) 0 rfl rfl rfl rfl (Nat.le_of_ble_eq_true rfl) rfl ?_
  refine sx_iconst (pc := 5) (v := nI 0) hG dX8_fails_5 (by decide +kernel) ?_
  exact hret _ _ _ _ dX8_fails_6 rfl ⟨rfl, rfl⟩

theorem i_X8_thrown_8 : ∀ w ∈ u_ws RX8 TX8 24, w ∈ wsX8_thrown := by decide +kernel
theorem m_X8_thrown_f68 : Cond.fieldLink RX8 68 (TX8 9).1 (TX8 9).2.1 (TX8 9).2.2.1 ∈ wsX8_thrown := by decide +kernel
set_option maxHeartbeats 4000000 in
set_option maxRecDepth 100000 in
theorem c_X8_thrown (l : Launch) (X : sx_X) (bd : Nat → Nat) (sc : Nat → Int32) (av : Nat → Nat → Nat)  : sx_Mi l yX8_thrown wsX8_thrown { frames := 0, cells := 0, slots := 0, locals := 0 } X [.ref (bd 0)] (mw X bd sc av) (fun r w => r = sc 2 ∧ w = mw X bd sc av) 0 0 := by
  refine sx_entI (own := RX8) (nL := 1) (by decide +kernel) rfl rfl (Nat.le_of_ble_eq_true rfl) ?_
  intro G hG hN hret
  show sx_W l X G 0 0 0 [(0, .ref (bd 0))] [] (mw X bd sc av)
  refine sx_aload_n (pc := 0) hG dX8_thrown_0 rfl 0 rfl ?_
  refine sx_get (pc := 1) (v2 := .int (sc 2)) (ci := 8) hG i_X8_thrown_8 9 m_X8_thrown_f68 dX8_thrown_1 rfl (by decide) 0 rfl rfl rfl ?_
  exact hret _ _ _ _ dX8_thrown_4 rfl ⟨rfl, rfl⟩

theorem i_X8_anew_8 : ∀ w ∈ u_ws RX8 TX8 24, w ∈ wsX8_anew := by decide +kernel
theorem m_X8_anew_f68 : Cond.fieldLink RX8 68 (TX8 9).1 (TX8 9).2.1 (TX8 9).2.2.1 ∈ wsX8_anew := by decide +kernel
theorem m_X8_anew_f71 : Cond.fieldLink RX8 71 (TX8 0).1 (TX8 0).2.1 (TX8 0).2.2.1 ∈ wsX8_anew := by decide +kernel
theorem m_X8_anew_f74 : Cond.fieldLink RX8 74 (TX8 13).1 (TX8 13).2.1 (TX8 13).2.2.1 ∈ wsX8_anew := by decide +kernel
set_option maxHeartbeats 4000000 in
set_option maxRecDepth 100000 in
theorem c_X8_anew (l : Launch) (X : sx_X) (bd : Nat → Nat) (sc : Nat → Int32) (av : Nat → Nat → Nat)  : sx_Mv l yX8_anew wsX8_anew { frames := 0, cells := 0, slots := 0, locals := 0 } X [.ref (bd 0)] (mw X bd sc av) (fun w => w = mw X bd (va_up (va_up (va_up sc 0 (nI 0)) 2 (nI 0)) 3 (nI 0)) av) 0 0 := by
  refine sx_entV (own := RX8) (nL := 1) (by decide +kernel) rfl rfl (Nat.le_of_ble_eq_true rfl) ?_
  intro G hG hN hini hret
  show sx_W l X G 0 0 0 [(0, .ref (bd 0))] [] (mw X bd sc av)
  refine sx_aload_n (pc := 0) hG dX8_anew_0 rfl 0 rfl ?_
  refine sx_iconst (pc := 1) (v := nI 0) hG dX8_anew_1 (by decide +kernel) ?_
  refine sx_put (pc := 2) (v := .int (nI 0)) (ci := 8) (w2 := (mw X bd (va_up sc 2 (nI 0)) av)) hG i_X8_anew_8 tyX8 tyX8_ok nmX8 9 m_X8_anew_f68 dX8_anew_2 rfl (by decide) 0 rfl rfl rfl rfl (Nat.le_of_ble_eq_true rfl) rfl ?_
  refine sx_aload_n (pc := 5) hG dX8_anew_5 rfl 0 rfl ?_
  refine sx_iconst (pc := 6) (v := nI 0) hG dX8_anew_6 (by decide +kernel) ?_
  refine sx_put (pc := 7) (v := .int (nI 0)) (ci := 8) (w2 := (mw X bd (va_up (va_up sc 0 (nI 0)) 2 (nI 0)) av)) hG i_X8_anew_8 tyX8 tyX8_ok nmX8 0 m_X8_anew_f71 dX8_anew_7 rfl (by decide) 0 rfl rfl rfl rfl (Nat.le_of_ble_eq_true rfl) rfl ?_
  refine sx_aload_n (pc := 10) hG dX8_anew_10 rfl 0 rfl ?_
  refine sx_iconst (pc := 11) (v := nI 0) hG dX8_anew_11 (by decide +kernel) ?_
  refine sx_put (pc := 12) (v := .int (nI 0)) (ci := 8) (w2 := (mw X bd (va_up (va_up (va_up sc 0 (nI 0)) 2 (nI 0)) 3 (nI 0)) av)) hG i_X8_anew_8 tyX8 tyX8_ok nmX8 13 m_X8_anew_f74 dX8_anew_12 rfl (by decide) 0 rfl rfl (by decide) (by decide) (Nat.le_of_ble_eq_true rfl) rfl ?_
  exact hret _ _ _ dX8_anew_15 rfl

theorem i_X8_price_8 : ∀ w ∈ u_ws RX8 TX8 24, w ∈ wsX8_price := by decide +kernel
theorem m_X8_price_f68 : Cond.fieldLink RX8 68 (TX8 9).1 (TX8 9).2.1 (TX8 9).2.2.1 ∈ wsX8_price := by decide +kernel
theorem m_X8_price_f28 : Cond.fieldLink RX8 28 (TX8 7).1 (TX8 7).2.1 (TX8 7).2.2.1 ∈ wsX8_price := by decide +kernel
set_option maxHeartbeats 4000000 in
set_option maxRecDepth 100000 in
theorem c_X8_price_ok (l : Launch) (X : sx_X) (bd : Nat → Nat) (sc : Nat → Int32) (av : Nat → Nat → Nat) (a v : Nat) (ha : a ≤ 6) (hv : v ≤ 99) : sx_Mi l yX8_price wsX8_price { frames := 0, cells := 0, slots := 0, locals := 0 } X [.ref (bd 0), .int (nI a), .int (nI v)] (mw X bd sc av) (fun r w => r = nI 1 ∧ w = mw X bd (va_up sc 2 (nI 0)) (va_up av 7 (va_up (av 7) a v))) 0 0 := by
  refine sx_entI (own := RX8) (nL := 3) (by decide +kernel) rfl rfl (Nat.le_of_ble_eq_true rfl) ?_
  intro G hG hN hret
  show sx_W l X G 0 0 0 [(0, .ref (bd 0)), (1, .int (nI a)), (2, .int (nI v))] [] (mw X bd sc av)
  refine sx_aload_n (pc := 0) hG dX8_price_0 rfl 0 rfl ?_
  refine sx_iconst (pc := 1) (v := nI 0) hG dX8_price_1 (by decide +kernel) ?_
  refine sx_put (pc := 2) (v := .int (nI 0)) (ci := 8) (w2 := (mw X bd (va_up sc 2 (nI 0)) av)) hG i_X8_price_8 tyX8 tyX8_ok nmX8 9 m_X8_price_f68 dX8_price_2 rfl (by decide) 0 rfl rfl rfl rfl (Nat.le_of_ble_eq_true rfl) rfl ?_
  refine sx_iload_n (pc := 5) hG dX8_price_5 rfl 1 rfl ?_
  refine sx_if_lt (pc := 6) (tgt := 25) (B := False) hG dX8_price_6 (by decide) (sx_lt0 (by omega)) (fun c6 => ?_) (fun c6 => ?_)
  · skip
    exact absurd c6 (by decide)
  · skip
    refine sx_iload_n (pc := 9) hG dX8_price_9 rfl 1 rfl ?_
    refine sx_bipush (pc := 10) (v := nI 6) hG dX8_price_10 (by decide +kernel) ?_
    refine sx_icmp_gt (pc := 12) (tgt := 25) (B := 6 < a) hG dX8_price_12 (by decide) (nI_ltI (by omega) (by omega)) (fun c12 => ?_) (fun c12 => ?_)
    · skip
      exact absurd c12 (by omega)
    · skip
      refine sx_iload_n (pc := 15) hG dX8_price_15 rfl 2 rfl ?_
      refine sx_if_lt (pc := 16) (tgt := 25) (B := False) hG dX8_price_16 (by decide) (sx_lt0 (by omega)) (fun c16 => ?_) (fun c16 => ?_)
      · skip
        exact absurd c16 (by decide)
      · skip
        refine sx_iload_n (pc := 19) hG dX8_price_19 rfl 2 rfl ?_
        refine sx_bipush (pc := 20) (v := nI 99) hG dX8_price_20 (by decide +kernel) ?_
        refine sx_icmp_le (pc := 22) (tgt := 27) (B := v ≤ 99) hG dX8_price_22 (by decide) (nI_leI (by omega) (by omega)) (fun c22 => ?_) (fun c22 => ?_)
        · skip
          refine sx_aload_n (pc := 27) hG dX8_price_27 rfl 0 rfl ?_
          refine sx_get (pc := 28) (v2 := .ref (bd 7)) (ci := 8) hG i_X8_price_8 7 m_X8_price_f28 dX8_price_28 rfl (by decide) 0 rfl rfl rfl ?_
          refine sx_iload_n (pc := 31) hG dX8_price_31 rfl 1 rfl ?_
          refine sx_iload_n (pc := 32) hG dX8_price_32 rfl 2 rfl ?_
          refine sx_iastN (pc := 33) (w2 := (mw X bd (va_up sc 2 (nI 0)) (va_up av 7 (va_up (av 7) a v)))) hG 7 dX8_price_33 rfl (by decide) (by omega) rfl ?_
          refine sx_iconst (pc := 34) (v := nI 1) hG dX8_price_34 (by decide +kernel) ?_
          exact hret _ _ _ _ dX8_price_35 (by decide +kernel) ⟨rfl, rfl⟩
        · skip
          exact absurd c22 (by omega)

set_option maxHeartbeats 4000000 in
set_option maxRecDepth 100000 in
theorem c_X8_price_no (l : Launch) (X : sx_X) (bd : Nat → Nat) (sc : Nat → Int32) (av : Nat → Nat → Nat) (a v : Int32) (hno : ¬ (0 ≤ a.toInt ∧ a.toInt ≤ 6 ∧ 0 ≤ v.toInt ∧ v.toInt ≤ 99)) : sx_Mi l yX8_price wsX8_price { frames := 0, cells := 0, slots := 0, locals := 0 } X [.ref (bd 0), .int a, .int v] (mw X bd sc av) (fun r w => r = nI 0 ∧ w = mw X bd (va_up sc 2 (nI 0)) av) 0 0 := by
  refine sx_entI (own := RX8) (nL := 3) (by decide +kernel) rfl rfl (Nat.le_of_ble_eq_true rfl) ?_
  intro G hG hN hret
  show sx_W l X G 0 0 0 [(0, .ref (bd 0)), (1, .int a), (2, .int v)] [] (mw X bd sc av)
  refine sx_aload_n (pc := 0) hG dX8_price_0 rfl 0 rfl ?_
  refine sx_iconst (pc := 1) (v := nI 0) hG dX8_price_1 (by decide +kernel) ?_
  refine sx_put (pc := 2) (v := .int (nI 0)) (ci := 8) (w2 := (mw X bd (va_up sc 2 (nI 0)) av)) hG i_X8_price_8 tyX8 tyX8_ok nmX8 9 m_X8_price_f68 dX8_price_2 rfl (by decide) 0 rfl rfl rfl rfl (Nat.le_of_ble_eq_true rfl) rfl ?_
  refine sx_iload_n (pc := 5) hG dX8_price_5 rfl 1 rfl ?_
  refine sx_if_lt (pc := 6) (tgt := 25) (B := a.toInt < 0) hG dX8_price_6 (by decide) (sx_rlt0 _) (fun c6 => ?_) (fun c6 => ?_)
  · skip
    refine sx_iconst (pc := 25) (v := nI 0) hG dX8_price_25 (by decide +kernel) ?_
    exact hret _ _ _ _ dX8_price_26 (by decide +kernel) ⟨rfl, rfl⟩
  · skip
    refine sx_iload_n (pc := 9) hG dX8_price_9 rfl 1 rfl ?_
    refine sx_bipush (pc := 10) (v := nI 6) hG dX8_price_10 (by decide +kernel) ?_
    refine sx_icmp_gt (pc := 12) (tgt := 25) (B := (6 : Int) < a.toInt) hG dX8_price_12 (by decide) (sx_rlt (nI_toInt (by omega)) rfl) (fun c12 => ?_) (fun c12 => ?_)
    · skip
      refine sx_iconst (pc := 25) (v := nI 0) hG dX8_price_25 (by decide +kernel) ?_
      exact hret _ _ _ _ dX8_price_26 (by decide +kernel) ⟨rfl, rfl⟩
    · skip
      refine sx_iload_n (pc := 15) hG dX8_price_15 rfl 2 rfl ?_
      refine sx_if_lt (pc := 16) (tgt := 25) (B := v.toInt < 0) hG dX8_price_16 (by decide) (sx_rlt0 _) (fun c16 => ?_) (fun c16 => ?_)
      · skip
        refine sx_iconst (pc := 25) (v := nI 0) hG dX8_price_25 (by decide +kernel) ?_
        exact hret _ _ _ _ dX8_price_26 (by decide +kernel) ⟨rfl, rfl⟩
      · skip
        refine sx_iload_n (pc := 19) hG dX8_price_19 rfl 2 rfl ?_
        refine sx_bipush (pc := 20) (v := nI 99) hG dX8_price_20 (by decide +kernel) ?_
        refine sx_icmp_le (pc := 22) (tgt := 27) (B := v.toInt ≤ (99 : Int)) hG dX8_price_22 (by decide) (sx_rle rfl (nI_toInt (by omega))) (fun c22 => ?_) (fun c22 => ?_)
        · skip
          exact absurd ⟨by omega, by omega, by omega, by omega⟩ hno
        · skip
          refine sx_iconst (pc := 25) (v := nI 0) hG dX8_price_25 (by decide +kernel) ?_
          exact hret _ _ _ _ dX8_price_26 (by decide +kernel) ⟨rfl, rfl⟩

theorem i_X8_longest_8 : ∀ w ∈ u_ws RX8 TX8 24, w ∈ wsX8_longest := by decide +kernel
theorem m_X8_longest_f68 : Cond.fieldLink RX8 68 (TX8 9).1 (TX8 9).2.1 (TX8 9).2.2.1 ∈ wsX8_longest := by decide +kernel
theorem m_X8_longest_f31 : Cond.fieldLink RX8 31 (TX8 8).1 (TX8 8).2.1 (TX8 8).2.2.1 ∈ wsX8_longest := by decide +kernel
set_option maxHeartbeats 4000000 in
set_option maxRecDepth 100000 in
theorem c_X8_longest_ok (l : Launch) (X : sx_X) (bd : Nat → Nat) (sc : Nat → Int32) (av : Nat → Nat → Nat) (v : Nat) (h1 : 1 ≤ v) (h2 : v ≤ 9999) : sx_Mi l yX8_longest wsX8_longest { frames := 0, cells := 0, slots := 0, locals := 0 } X [.ref (bd 0), .int (nI v)] (mw X bd sc av) (fun r w => r = nI 1 ∧ w = mw X bd (va_up (va_up sc 1 (nI v)) 2 (nI 0)) av) 0 0 := by
  refine sx_entI (own := RX8) (nL := 2) (by decide +kernel) rfl rfl (Nat.le_of_ble_eq_true rfl) ?_
  intro G hG hN hret
  show sx_W l X G 0 0 0 [(0, .ref (bd 0)), (1, .int (nI v))] [] (mw X bd sc av)
  refine sx_aload_n (pc := 0) hG dX8_longest_0 rfl 0 rfl ?_
  refine sx_iconst (pc := 1) (v := nI 0) hG dX8_longest_1 (by decide +kernel) ?_
  refine sx_put (pc := 2) (v := .int (nI 0)) (ci := 8) (w2 := (mw X bd (va_up sc 2 (nI 0)) av)) hG i_X8_longest_8 tyX8 tyX8_ok nmX8 9 m_X8_longest_f68 dX8_longest_2 rfl (by decide) 0 rfl rfl rfl rfl (Nat.le_of_ble_eq_true rfl) rfl ?_
  refine sx_iload_n (pc := 5) hG dX8_longest_5 rfl 1 rfl ?_
  refine sx_iconst (pc := 6) (v := nI 1) hG dX8_longest_6 (by decide +kernel) ?_
  refine sx_icmp_lt (pc := 7) (tgt := 17) (B := v < 1) hG dX8_longest_7 (by decide) (nI_ltI (by omega) (by omega)) (fun c7 => ?_) (fun c7 => ?_)
  · skip
    exact absurd c7 (by omega)
  · skip
    refine sx_iload_n (pc := 10) hG dX8_longest_10 rfl 1 rfl ?_
    refine sx_sipush (pc := 11) (v := nI 9999) hG dX8_longest_11 (by decide +kernel) ?_
    refine sx_icmp_le (pc := 14) (tgt := 19) (B := v ≤ 9999) hG dX8_longest_14 (by decide) (nI_leI (by omega) (by omega)) (fun c14 => ?_) (fun c14 => ?_)
    · skip
      refine sx_aload_n (pc := 19) hG dX8_longest_19 rfl 0 rfl ?_
      refine sx_iload_n (pc := 20) hG dX8_longest_20 rfl 1 rfl ?_
      refine sx_put (pc := 21) (v := .int (nI v)) (ci := 8) (w2 := (mw X bd (va_up (va_up sc 1 (nI v)) 2 (nI 0)) av)) hG i_X8_longest_8 tyX8 tyX8_ok nmX8 8 m_X8_longest_f31 dX8_longest_21 rfl (by decide) 0 rfl rfl rfl rfl (Nat.le_of_ble_eq_true rfl) rfl ?_
      refine sx_iconst (pc := 24) (v := nI 1) hG dX8_longest_24 (by decide +kernel) ?_
      exact hret _ _ _ _ dX8_longest_25 (by decide +kernel) ⟨rfl, rfl⟩
    · skip
      exact absurd c14 (by omega)

set_option maxHeartbeats 4000000 in
set_option maxRecDepth 100000 in
theorem c_X8_longest_no (l : Launch) (X : sx_X) (bd : Nat → Nat) (sc : Nat → Int32) (av : Nat → Nat → Nat) (v : Int32) (hno : ¬ (1 ≤ v.toInt ∧ v.toInt ≤ 9999)) : sx_Mi l yX8_longest wsX8_longest { frames := 0, cells := 0, slots := 0, locals := 0 } X [.ref (bd 0), .int v] (mw X bd sc av) (fun r w => r = nI 0 ∧ w = mw X bd (va_up sc 2 (nI 0)) av) 0 0 := by
  refine sx_entI (own := RX8) (nL := 2) (by decide +kernel) rfl rfl (Nat.le_of_ble_eq_true rfl) ?_
  intro G hG hN hret
  show sx_W l X G 0 0 0 [(0, .ref (bd 0)), (1, .int v)] [] (mw X bd sc av)
  refine sx_aload_n (pc := 0) hG dX8_longest_0 rfl 0 rfl ?_
  refine sx_iconst (pc := 1) (v := nI 0) hG dX8_longest_1 (by decide +kernel) ?_
  refine sx_put (pc := 2) (v := .int (nI 0)) (ci := 8) (w2 := (mw X bd (va_up sc 2 (nI 0)) av)) hG i_X8_longest_8 tyX8 tyX8_ok nmX8 9 m_X8_longest_f68 dX8_longest_2 rfl (by decide) 0 rfl rfl rfl rfl (Nat.le_of_ble_eq_true rfl) rfl ?_
  refine sx_iload_n (pc := 5) hG dX8_longest_5 rfl 1 rfl ?_
  refine sx_iconst (pc := 6) (v := nI 1) hG dX8_longest_6 (by decide +kernel) ?_
  refine sx_icmp_lt (pc := 7) (tgt := 17) (B := v.toInt < (1 : Int)) hG dX8_longest_7 (by decide) (sx_rlt rfl (nI_toInt (by omega))) (fun c7 => ?_) (fun c7 => ?_)
  · skip
    refine sx_iconst (pc := 17) (v := nI 0) hG dX8_longest_17 (by decide +kernel) ?_
    exact hret _ _ _ _ dX8_longest_18 (by decide +kernel) ⟨rfl, rfl⟩
  · skip
    refine sx_iload_n (pc := 10) hG dX8_longest_10 rfl 1 rfl ?_
    refine sx_sipush (pc := 11) (v := nI 9999) hG dX8_longest_11 (by decide +kernel) ?_
    refine sx_icmp_le (pc := 14) (tgt := 19) (B := v.toInt ≤ (9999 : Int)) hG dX8_longest_14 (by decide) (sx_rle rfl (nI_toInt (by omega))) (fun c14 => ?_) (fun c14 => ?_)
    · skip
      exact absurd ⟨by omega, by omega⟩ hno
    · skip
      refine sx_iconst (pc := 17) (v := nI 0) hG dX8_longest_17 (by decide +kernel) ?_
      exact hret _ _ _ _ dX8_longest_18 (by decide +kernel) ⟨rfl, rfl⟩

theorem i_X8_part_8 : ∀ w ∈ u_ws RX8 TX8 24, w ∈ wsX8_part := by decide +kernel
theorem m_X8_part_f68 : Cond.fieldLink RX8 68 (TX8 9).1 (TX8 9).2.1 (TX8 9).2.2.1 ∈ wsX8_part := by decide +kernel
theorem m_X8_part_f74 : Cond.fieldLink RX8 74 (TX8 13).1 (TX8 13).2.1 (TX8 13).2.2.1 ∈ wsX8_part := by decide +kernel
set_option maxHeartbeats 4000000 in
set_option maxRecDepth 100000 in
theorem c_X8_part_n (l : Launch) (X : sx_X) (bd : Nat → Nat) (sc : Nat → Int32) (av : Nat → Nat → Nat) (k a : Int32) (h3 : sc 3 = nI 0) : sx_Mi l yX8_part wsX8_part { frames := 1, cells := 0, slots := 0, locals := 21 } X [.ref (bd 0), .int k, .int a] (mw X bd sc av) (fun r w => r = nI 0 ∧ w = mw X bd (va_up sc 2 (nI 1)) av) 0 0 := by
  refine sx_entI (own := RX8) (nL := 3) (by decide +kernel) rfl rfl (Nat.le_of_ble_eq_true rfl) ?_
  intro G hG hN hret
  show sx_W l X G 0 0 0 [(0, .ref (bd 0)), (1, .int k), (2, .int a)] [] (mw X bd sc av)
  refine sx_aload_n (pc := 0) hG dX8_part_0 rfl 0 rfl ?_
  refine sx_iconst (pc := 1) (v := nI 0) hG dX8_part_1 (by decide +kernel) ?_
  refine sx_put (pc := 2) (v := .int (nI 0)) (ci := 8) (w2 := (mw X bd (va_up sc 2 (nI 0)) av)) hG i_X8_part_8 tyX8 tyX8_ok nmX8 9 m_X8_part_f68 dX8_part_2 rfl (by decide) 0 rfl rfl rfl rfl (Nat.le_of_ble_eq_true rfl) rfl ?_
  refine sx_aload_n (pc := 5) hG dX8_part_5 rfl 0 rfl ?_
  refine sx_get (pc := 6) (v2 := .int (nI 0)) (ci := 8) hG i_X8_part_8 13 m_X8_part_f74 dX8_part_6 rfl (by decide) 0 rfl rfl (congrArg Value.int h3) ?_
  refine sx_if_eq (pc := 9) (tgt := 24) (B := 0 = 0) hG dX8_part_9 (by decide) (sx_eq0 (by omega)) (fun c9 => ?_) (fun c9 => ?_)
  · skip
    refine sx_aload_n (pc := 24) hG dX8_part_24 rfl 0 rfl ?_
    refine sx_iconst (pc := 25) (v := nI 1) hG dX8_part_25 (by decide +kernel) ?_
    refine sx_callViw (pc := 26) (n9 := 1) (As := [.int (nI 1)]) (st := []) (b := (bd 0)) (ci := 8) hG (c_X8_fails l X bd (va_up sc 2 (nI 0)) av 1) gX8_part_X8_fails rfl (by decide +kernel) rfl 0 rfl rfl rfl dX8_part_26 ⟨rfl, rfl⟩ ⟨Nat.le_of_ble_eq_true rfl, Nat.le_of_ble_eq_true rfl⟩ (Nat.le_of_ble_eq_true rfl) ⟨Nat.le_of_ble_eq_true rfl, Nat.le_of_ble_eq_true rfl⟩ (fun r w1 hp => ?_)
    obtain ⟨hr9, hw9⟩ := hp
    have hr9 : r = (nI 0) := hr9
    subst hr9
    refine sx_weq hw9 ?_
    refine sx_weq (w2 := (mw X bd (va_up sc 2 (nI 1)) av)) rfl ?_
    exact hret _ _ _ _ dX8_part_29 rfl ⟨rfl, rfl⟩
  · skip
    exact absurd (by decide) c9

theorem m_X8_part_f131 : Cond.fieldLink RX8 131 (TX8 14).1 (TX8 14).2.1 (TX8 14).2.2.1 ∈ wsX8_part := by decide +kernel
set_option maxHeartbeats 4000000 in
set_option maxRecDepth 100000 in
theorem c_X8_part_k (l : Launch) (X : sx_X) (bd : Nat → Nat) (sc : Nat → Int32) (av : Nat → Nat → Nat) (k a : Int32) (m : Nat) (hm : m ≤ 9) (h3 : sc 3 = nI 1) (h4 : sc 4 = nI m) (hk : k.toInt < 0 ∨ m ≤ k.toInt) : sx_Mi l yX8_part wsX8_part { frames := 1, cells := 0, slots := 0, locals := 21 } X [.ref (bd 0), .int k, .int a] (mw X bd sc av) (fun r w => r = nI 0 ∧ w = mw X bd (va_up sc 2 (nI 1)) av) 0 0 := by
  refine sx_entI (own := RX8) (nL := 3) (by decide +kernel) rfl rfl (Nat.le_of_ble_eq_true rfl) ?_
  intro G hG hN hret
  show sx_W l X G 0 0 0 [(0, .ref (bd 0)), (1, .int k), (2, .int a)] [] (mw X bd sc av)
  refine sx_aload_n (pc := 0) hG dX8_part_0 rfl 0 rfl ?_
  refine sx_iconst (pc := 1) (v := nI 0) hG dX8_part_1 (by decide +kernel) ?_
  refine sx_put (pc := 2) (v := .int (nI 0)) (ci := 8) (w2 := (mw X bd (va_up sc 2 (nI 0)) av)) hG i_X8_part_8 tyX8 tyX8_ok nmX8 9 m_X8_part_f68 dX8_part_2 rfl (by decide) 0 rfl rfl rfl rfl (Nat.le_of_ble_eq_true rfl) rfl ?_
  refine sx_aload_n (pc := 5) hG dX8_part_5 rfl 0 rfl ?_
  refine sx_get (pc := 6) (v2 := .int (nI 1)) (ci := 8) hG i_X8_part_8 13 m_X8_part_f74 dX8_part_6 rfl (by decide) 0 rfl rfl (congrArg Value.int h3) ?_
  refine sx_if_eq (pc := 9) (tgt := 24) (B := 1 = 0) hG dX8_part_9 (by decide) (sx_eq0 (by omega)) (fun c9 => ?_) (fun c9 => ?_)
  · skip
    exact absurd c9 (by decide)
  · skip
    refine sx_iload_n (pc := 12) hG dX8_part_12 rfl 1 rfl ?_
    refine sx_if_lt (pc := 13) (tgt := 24) (B := k.toInt < 0) hG dX8_part_13 (by decide) (sx_rlt0 _) (fun c13 => ?_) (fun c13 => ?_)
    · skip
      refine sx_aload_n (pc := 24) hG dX8_part_24 rfl 0 rfl ?_
      refine sx_iconst (pc := 25) (v := nI 1) hG dX8_part_25 (by decide +kernel) ?_
      refine sx_callViw (pc := 26) (n9 := 1) (As := [.int (nI 1)]) (st := []) (b := (bd 0)) (ci := 8) hG (c_X8_fails l X bd (va_up sc 2 (nI 0)) av 1) gX8_part_X8_fails rfl (by decide +kernel) rfl 0 rfl rfl rfl dX8_part_26 ⟨rfl, rfl⟩ ⟨Nat.le_of_ble_eq_true rfl, Nat.le_of_ble_eq_true rfl⟩ (Nat.le_of_ble_eq_true rfl) ⟨Nat.le_of_ble_eq_true rfl, Nat.le_of_ble_eq_true rfl⟩ (fun r w1 hp => ?_)
      obtain ⟨hr9, hw9⟩ := hp
      have hr9 : r = (nI 0) := hr9
      subst hr9
      refine sx_weq hw9 ?_
      refine sx_weq (w2 := (mw X bd (va_up sc 2 (nI 1)) av)) rfl ?_
      exact hret _ _ _ _ dX8_part_29 rfl ⟨rfl, rfl⟩
    · skip
      refine sx_iload_n (pc := 16) hG dX8_part_16 rfl 1 rfl ?_
      refine sx_aload_n (pc := 17) hG dX8_part_17 rfl 0 rfl ?_
      refine sx_get (pc := 18) (v2 := .int (nI m)) (ci := 8) hG i_X8_part_8 14 m_X8_part_f131 dX8_part_18 rfl (by decide) 0 rfl rfl (congrArg Value.int h4) ?_
      refine sx_icmp_lt (pc := 21) (tgt := 30) (B := k.toInt < ((m : Nat) : Int)) hG dX8_part_21 (by decide) (sx_rlt rfl (nI_toInt (by omega))) (fun c21 => ?_) (fun c21 => ?_)
      · skip
        exact absurd c21 (by omega)
      · skip
        refine sx_aload_n (pc := 24) hG dX8_part_24 rfl 0 rfl ?_
        refine sx_iconst (pc := 25) (v := nI 1) hG dX8_part_25 (by decide +kernel) ?_
        refine sx_callViw (pc := 26) (n9 := 1) (As := [.int (nI 1)]) (st := []) (b := (bd 0)) (ci := 8) hG (c_X8_fails l X bd (va_up sc 2 (nI 0)) av 1) gX8_part_X8_fails rfl (by decide +kernel) rfl 0 rfl rfl rfl dX8_part_26 ⟨rfl, rfl⟩ ⟨Nat.le_of_ble_eq_true rfl, Nat.le_of_ble_eq_true rfl⟩ (Nat.le_of_ble_eq_true rfl) ⟨Nat.le_of_ble_eq_true rfl, Nat.le_of_ble_eq_true rfl⟩ (fun r w1 hp => ?_)
        obtain ⟨hr9, hw9⟩ := hp
        have hr9 : r = (nI 0) := hr9
        subst hr9
        refine sx_weq hw9 ?_
        refine sx_weq (w2 := (mw X bd (va_up sc 2 (nI 1)) av)) rfl ?_
        exact hret _ _ _ _ dX8_part_29 rfl ⟨rfl, rfl⟩

set_option maxHeartbeats 4000000 in
set_option maxRecDepth 100000 in
theorem c_X8_part_w (l : Launch) (X : sx_X) (bd : Nat → Nat) (sc : Nat → Int32) (av : Nat → Nat → Nat) (k m : Nat) (a : Int32) (hm : m ≤ 9) (h3 : sc 3 = nI 1) (h4 : sc 4 = nI m) (hk : k < m) (ha : a.toInt < 0 ∨ 2 < a.toInt) : sx_Mi l yX8_part wsX8_part { frames := 1, cells := 0, slots := 0, locals := 21 } X [.ref (bd 0), .int (nI k), .int a] (mw X bd sc av) (fun r w => r = nI 0 ∧ w = mw X bd (va_up sc 2 (nI 2)) av) 0 0 := by
  refine sx_entI (own := RX8) (nL := 3) (by decide +kernel) rfl rfl (Nat.le_of_ble_eq_true rfl) ?_
  intro G hG hN hret
  show sx_W l X G 0 0 0 [(0, .ref (bd 0)), (1, .int (nI k)), (2, .int a)] [] (mw X bd sc av)
  refine sx_aload_n (pc := 0) hG dX8_part_0 rfl 0 rfl ?_
  refine sx_iconst (pc := 1) (v := nI 0) hG dX8_part_1 (by decide +kernel) ?_
  refine sx_put (pc := 2) (v := .int (nI 0)) (ci := 8) (w2 := (mw X bd (va_up sc 2 (nI 0)) av)) hG i_X8_part_8 tyX8 tyX8_ok nmX8 9 m_X8_part_f68 dX8_part_2 rfl (by decide) 0 rfl rfl rfl rfl (Nat.le_of_ble_eq_true rfl) rfl ?_
  refine sx_aload_n (pc := 5) hG dX8_part_5 rfl 0 rfl ?_
  refine sx_get (pc := 6) (v2 := .int (nI 1)) (ci := 8) hG i_X8_part_8 13 m_X8_part_f74 dX8_part_6 rfl (by decide) 0 rfl rfl (congrArg Value.int h3) ?_
  refine sx_if_eq (pc := 9) (tgt := 24) (B := 1 = 0) hG dX8_part_9 (by decide) (sx_eq0 (by omega)) (fun c9 => ?_) (fun c9 => ?_)
  · skip
    exact absurd c9 (by decide)
  · skip
    refine sx_iload_n (pc := 12) hG dX8_part_12 rfl 1 rfl ?_
    refine sx_if_lt (pc := 13) (tgt := 24) (B := False) hG dX8_part_13 (by decide) (sx_lt0 (by omega)) (fun c13 => ?_) (fun c13 => ?_)
    · skip
      exact absurd c13 (by decide)
    · skip
      refine sx_iload_n (pc := 16) hG dX8_part_16 rfl 1 rfl ?_
      refine sx_aload_n (pc := 17) hG dX8_part_17 rfl 0 rfl ?_
      refine sx_get (pc := 18) (v2 := .int (nI m)) (ci := 8) hG i_X8_part_8 14 m_X8_part_f131 dX8_part_18 rfl (by decide) 0 rfl rfl (congrArg Value.int h4) ?_
      refine sx_icmp_lt (pc := 21) (tgt := 30) (B := k < m) hG dX8_part_21 (by decide) (nI_ltI (by omega) (by omega)) (fun c21 => ?_) (fun c21 => ?_)
      · skip
        refine sx_iload_n (pc := 30) hG dX8_part_30 rfl 2 rfl ?_
        refine sx_if_ne (pc := 31) (tgt := 43) (B := a.toInt = 0) hG dX8_part_31 (by decide) (sx_req0 _) (fun c31 => ?_) (fun c31 => ?_)
        · skip
          refine sx_iload_n (pc := 43) hG dX8_part_43 rfl 2 rfl ?_
          refine sx_iconst (pc := 44) (v := nI 1) hG dX8_part_44 (by decide +kernel) ?_
          refine sx_icmp_ne (pc := 45) (tgt := 57) (B := a.toInt = (1 : Int)) hG dX8_part_45 (by decide) (sx_req rfl (nI_toInt (by omega))) (fun c45 => ?_) (fun c45 => ?_)
          · skip
            refine sx_iload_n (pc := 57) hG dX8_part_57 rfl 2 rfl ?_
            refine sx_iconst (pc := 58) (v := nI 2) hG dX8_part_58 (by decide +kernel) ?_
            refine sx_icmp_ne (pc := 59) (tgt := 71) (B := a.toInt = (2 : Int)) hG dX8_part_59 (by decide) (sx_req rfl (nI_toInt (by omega))) (fun c59 => ?_) (fun c59 => ?_)
            · skip
              refine sx_aload_n (pc := 71) hG dX8_part_71 rfl 0 rfl ?_
              refine sx_iconst (pc := 72) (v := nI 2) hG dX8_part_72 (by decide +kernel) ?_
              refine sx_callViw (pc := 73) (n9 := 1) (As := [.int (nI 2)]) (st := []) (b := (bd 0)) (ci := 8) hG (c_X8_fails l X bd (va_up sc 2 (nI 0)) av 2) gX8_part_X8_fails rfl (by decide +kernel) rfl 0 rfl rfl rfl dX8_part_73 ⟨rfl, rfl⟩ ⟨Nat.le_of_ble_eq_true rfl, Nat.le_of_ble_eq_true rfl⟩ (Nat.le_of_ble_eq_true rfl) ⟨Nat.le_of_ble_eq_true rfl, Nat.le_of_ble_eq_true rfl⟩ (fun r w1 hp => ?_)
              obtain ⟨hr9, hw9⟩ := hp
              have hr9 : r = (nI 0) := hr9
              subst hr9
              refine sx_weq hw9 ?_
              refine sx_weq (w2 := (mw X bd (va_up sc 2 (nI 2)) av)) rfl ?_
              exact hret _ _ _ _ dX8_part_76 rfl ⟨rfl, rfl⟩
            · skip
              exact absurd c59 (by omega)
          · skip
            exact absurd c45 (by omega)
        · skip
          exact absurd c31 (by omega)
      · skip
        exact absurd hk c21

theorem m_X8_part_f44 : Cond.fieldLink RX8 44 (TX8 16).1 (TX8 16).2.1 (TX8 16).2.2.1 ∈ wsX8_part := by decide +kernel
set_option maxHeartbeats 4000000 in
set_option maxRecDepth 100000 in
theorem c_X8_part_0 (l : Launch) (X : sx_X) (bd : Nat → Nat) (sc : Nat → Int32) (av : Nat → Nat → Nat) (k m : Nat) (hm : m ≤ 9) (h3 : sc 3 = nI 1) (h4 : sc 4 = nI m) (hk : k < m) : sx_Mi l yX8_part wsX8_part { frames := 0, cells := 0, slots := 0, locals := 0 } X [.ref (bd 0), .int (nI k), .int (nI 0)] (mw X bd sc av) (fun r w => r = nI (av 11 k) ∧ w = mw X bd (va_up sc 2 (nI 0)) av) 0 0 := by
  refine sx_entI (own := RX8) (nL := 3) (by decide +kernel) rfl rfl (Nat.le_of_ble_eq_true rfl) ?_
  intro G hG hN hret
  show sx_W l X G 0 0 0 [(0, .ref (bd 0)), (1, .int (nI k)), (2, .int (nI 0))] [] (mw X bd sc av)
  refine sx_aload_n (pc := 0) hG dX8_part_0 rfl 0 rfl ?_
  refine sx_iconst (pc := 1) (v := nI 0) hG dX8_part_1 (by decide +kernel) ?_
  refine sx_put (pc := 2) (v := .int (nI 0)) (ci := 8) (w2 := (mw X bd (va_up sc 2 (nI 0)) av)) hG i_X8_part_8 tyX8 tyX8_ok nmX8 9 m_X8_part_f68 dX8_part_2 rfl (by decide) 0 rfl rfl rfl rfl (Nat.le_of_ble_eq_true rfl) rfl ?_
  refine sx_aload_n (pc := 5) hG dX8_part_5 rfl 0 rfl ?_
  refine sx_get (pc := 6) (v2 := .int (nI 1)) (ci := 8) hG i_X8_part_8 13 m_X8_part_f74 dX8_part_6 rfl (by decide) 0 rfl rfl (congrArg Value.int h3) ?_
  refine sx_if_eq (pc := 9) (tgt := 24) (B := 1 = 0) hG dX8_part_9 (by decide) (sx_eq0 (by omega)) (fun c9 => ?_) (fun c9 => ?_)
  · skip
    exact absurd c9 (by decide)
  · skip
    refine sx_iload_n (pc := 12) hG dX8_part_12 rfl 1 rfl ?_
    refine sx_if_lt (pc := 13) (tgt := 24) (B := False) hG dX8_part_13 (by decide) (sx_lt0 (by omega)) (fun c13 => ?_) (fun c13 => ?_)
    · skip
      exact absurd c13 (by decide)
    · skip
      refine sx_iload_n (pc := 16) hG dX8_part_16 rfl 1 rfl ?_
      refine sx_aload_n (pc := 17) hG dX8_part_17 rfl 0 rfl ?_
      refine sx_get (pc := 18) (v2 := .int (nI m)) (ci := 8) hG i_X8_part_8 14 m_X8_part_f131 dX8_part_18 rfl (by decide) 0 rfl rfl (congrArg Value.int h4) ?_
      refine sx_icmp_lt (pc := 21) (tgt := 30) (B := k < m) hG dX8_part_21 (by decide) (nI_ltI (by omega) (by omega)) (fun c21 => ?_) (fun c21 => ?_)
      · skip
        refine sx_iload_n (pc := 30) hG dX8_part_30 rfl 2 rfl ?_
        refine sx_if_ne (pc := 31) (tgt := 43) (B := 0 = 0) hG dX8_part_31 (by decide) (sx_eq0 (by omega)) (fun c31 => ?_) (fun c31 => ?_)
        · skip
          exact absurd (by decide) c31
        · skip
          refine sx_aload_n (pc := 34) hG dX8_part_34 rfl 0 rfl ?_
          refine sx_get (pc := 35) (v2 := .ref (bd 11)) (ci := 8) hG i_X8_part_8 16 m_X8_part_f44 dX8_part_35 rfl (by decide) 0 rfl rfl rfl ?_
          refine sx_iload_n (pc := 38) hG dX8_part_38 rfl 1 rfl ?_
          refine sx_iald (pc := 39) (v := nI ((av 11) k)) hG 11 dX8_part_39 rfl (by decide) (by omega) rfl ?_
          refine sx_goto (pc := 40) (tgt := 76) hG dX8_part_40 (by decide) ?_
          exact hret _ _ _ _ dX8_part_76 rfl ⟨rfl, rfl⟩
      · skip
        exact absurd hk c21

theorem m_X8_part_f47 : Cond.fieldLink RX8 47 (TX8 17).1 (TX8 17).2.1 (TX8 17).2.2.1 ∈ wsX8_part := by decide +kernel
set_option maxHeartbeats 4000000 in
set_option maxRecDepth 100000 in
theorem c_X8_part_1 (l : Launch) (X : sx_X) (bd : Nat → Nat) (sc : Nat → Int32) (av : Nat → Nat → Nat) (k m : Nat) (hm : m ≤ 9) (h3 : sc 3 = nI 1) (h4 : sc 4 = nI m) (hk : k < m) : sx_Mi l yX8_part wsX8_part { frames := 0, cells := 0, slots := 0, locals := 0 } X [.ref (bd 0), .int (nI k), .int (nI 1)] (mw X bd sc av) (fun r w => r = nI (av 12 k) ∧ w = mw X bd (va_up sc 2 (nI 0)) av) 0 0 := by
  refine sx_entI (own := RX8) (nL := 3) (by decide +kernel) rfl rfl (Nat.le_of_ble_eq_true rfl) ?_
  intro G hG hN hret
  show sx_W l X G 0 0 0 [(0, .ref (bd 0)), (1, .int (nI k)), (2, .int (nI 1))] [] (mw X bd sc av)
  refine sx_aload_n (pc := 0) hG dX8_part_0 rfl 0 rfl ?_
  refine sx_iconst (pc := 1) (v := nI 0) hG dX8_part_1 (by decide +kernel) ?_
  refine sx_put (pc := 2) (v := .int (nI 0)) (ci := 8) (w2 := (mw X bd (va_up sc 2 (nI 0)) av)) hG i_X8_part_8 tyX8 tyX8_ok nmX8 9 m_X8_part_f68 dX8_part_2 rfl (by decide) 0 rfl rfl rfl rfl (Nat.le_of_ble_eq_true rfl) rfl ?_
  refine sx_aload_n (pc := 5) hG dX8_part_5 rfl 0 rfl ?_
  refine sx_get (pc := 6) (v2 := .int (nI 1)) (ci := 8) hG i_X8_part_8 13 m_X8_part_f74 dX8_part_6 rfl (by decide) 0 rfl rfl (congrArg Value.int h3) ?_
  refine sx_if_eq (pc := 9) (tgt := 24) (B := 1 = 0) hG dX8_part_9 (by decide) (sx_eq0 (by omega)) (fun c9 => ?_) (fun c9 => ?_)
  · skip
    exact absurd c9 (by decide)
  · skip
    refine sx_iload_n (pc := 12) hG dX8_part_12 rfl 1 rfl ?_
    refine sx_if_lt (pc := 13) (tgt := 24) (B := False) hG dX8_part_13 (by decide) (sx_lt0 (by omega)) (fun c13 => ?_) (fun c13 => ?_)
    · skip
      exact absurd c13 (by decide)
    · skip
      refine sx_iload_n (pc := 16) hG dX8_part_16 rfl 1 rfl ?_
      refine sx_aload_n (pc := 17) hG dX8_part_17 rfl 0 rfl ?_
      refine sx_get (pc := 18) (v2 := .int (nI m)) (ci := 8) hG i_X8_part_8 14 m_X8_part_f131 dX8_part_18 rfl (by decide) 0 rfl rfl (congrArg Value.int h4) ?_
      refine sx_icmp_lt (pc := 21) (tgt := 30) (B := k < m) hG dX8_part_21 (by decide) (nI_ltI (by omega) (by omega)) (fun c21 => ?_) (fun c21 => ?_)
      · skip
        refine sx_iload_n (pc := 30) hG dX8_part_30 rfl 2 rfl ?_
        refine sx_if_ne (pc := 31) (tgt := 43) (B := 1 = 0) hG dX8_part_31 (by decide) (sx_eq0 (by omega)) (fun c31 => ?_) (fun c31 => ?_)
        · skip
          refine sx_iload_n (pc := 43) hG dX8_part_43 rfl 2 rfl ?_
          refine sx_iconst (pc := 44) (v := nI 1) hG dX8_part_44 (by decide +kernel) ?_
          refine sx_icmp_ne (pc := 45) (tgt := 57) (B := 1 = 1) hG dX8_part_45 (by decide) (nI_eq (by omega) (by omega)) (fun c45 => ?_) (fun c45 => ?_)
          · skip
            exact absurd (by decide) c45
          · skip
            refine sx_aload_n (pc := 48) hG dX8_part_48 rfl 0 rfl ?_
            refine sx_get (pc := 49) (v2 := .ref (bd 12)) (ci := 8) hG i_X8_part_8 17 m_X8_part_f47 dX8_part_49 rfl (by decide) 0 rfl rfl rfl ?_
            refine sx_iload_n (pc := 52) hG dX8_part_52 rfl 1 rfl ?_
            refine sx_iald (pc := 53) (v := nI ((av 12) k)) hG 12 dX8_part_53 rfl (by decide) (by omega) rfl ?_
            refine sx_goto (pc := 54) (tgt := 76) hG dX8_part_54 (by decide) ?_
            exact hret _ _ _ _ dX8_part_76 rfl ⟨rfl, rfl⟩
        · skip
          exact absurd c31 (by decide)
      · skip
        exact absurd hk c21

theorem m_X8_part_f50 : Cond.fieldLink RX8 50 (TX8 18).1 (TX8 18).2.1 (TX8 18).2.2.1 ∈ wsX8_part := by decide +kernel
set_option maxHeartbeats 4000000 in
set_option maxRecDepth 100000 in
theorem c_X8_part_2 (l : Launch) (X : sx_X) (bd : Nat → Nat) (sc : Nat → Int32) (av : Nat → Nat → Nat) (k m : Nat) (hm : m ≤ 9) (h3 : sc 3 = nI 1) (h4 : sc 4 = nI m) (hk : k < m) : sx_Mi l yX8_part wsX8_part { frames := 0, cells := 0, slots := 0, locals := 0 } X [.ref (bd 0), .int (nI k), .int (nI 2)] (mw X bd sc av) (fun r w => r = nI (av 13 k) ∧ w = mw X bd (va_up sc 2 (nI 0)) av) 0 0 := by
  refine sx_entI (own := RX8) (nL := 3) (by decide +kernel) rfl rfl (Nat.le_of_ble_eq_true rfl) ?_
  intro G hG hN hret
  show sx_W l X G 0 0 0 [(0, .ref (bd 0)), (1, .int (nI k)), (2, .int (nI 2))] [] (mw X bd sc av)
  refine sx_aload_n (pc := 0) hG dX8_part_0 rfl 0 rfl ?_
  refine sx_iconst (pc := 1) (v := nI 0) hG dX8_part_1 (by decide +kernel) ?_
  refine sx_put (pc := 2) (v := .int (nI 0)) (ci := 8) (w2 := (mw X bd (va_up sc 2 (nI 0)) av)) hG i_X8_part_8 tyX8 tyX8_ok nmX8 9 m_X8_part_f68 dX8_part_2 rfl (by decide) 0 rfl rfl rfl rfl (Nat.le_of_ble_eq_true rfl) rfl ?_
  refine sx_aload_n (pc := 5) hG dX8_part_5 rfl 0 rfl ?_
  refine sx_get (pc := 6) (v2 := .int (nI 1)) (ci := 8) hG i_X8_part_8 13 m_X8_part_f74 dX8_part_6 rfl (by decide) 0 rfl rfl (congrArg Value.int h3) ?_
  refine sx_if_eq (pc := 9) (tgt := 24) (B := 1 = 0) hG dX8_part_9 (by decide) (sx_eq0 (by omega)) (fun c9 => ?_) (fun c9 => ?_)
  · skip
    exact absurd c9 (by decide)
  · skip
    refine sx_iload_n (pc := 12) hG dX8_part_12 rfl 1 rfl ?_
    refine sx_if_lt (pc := 13) (tgt := 24) (B := False) hG dX8_part_13 (by decide) (sx_lt0 (by omega)) (fun c13 => ?_) (fun c13 => ?_)
    · skip
      exact absurd c13 (by decide)
    · skip
      refine sx_iload_n (pc := 16) hG dX8_part_16 rfl 1 rfl ?_
      refine sx_aload_n (pc := 17) hG dX8_part_17 rfl 0 rfl ?_
      refine sx_get (pc := 18) (v2 := .int (nI m)) (ci := 8) hG i_X8_part_8 14 m_X8_part_f131 dX8_part_18 rfl (by decide) 0 rfl rfl (congrArg Value.int h4) ?_
      refine sx_icmp_lt (pc := 21) (tgt := 30) (B := k < m) hG dX8_part_21 (by decide) (nI_ltI (by omega) (by omega)) (fun c21 => ?_) (fun c21 => ?_)
      · skip
        refine sx_iload_n (pc := 30) hG dX8_part_30 rfl 2 rfl ?_
        refine sx_if_ne (pc := 31) (tgt := 43) (B := 2 = 0) hG dX8_part_31 (by decide) (sx_eq0 (by omega)) (fun c31 => ?_) (fun c31 => ?_)
        · skip
          refine sx_iload_n (pc := 43) hG dX8_part_43 rfl 2 rfl ?_
          refine sx_iconst (pc := 44) (v := nI 1) hG dX8_part_44 (by decide +kernel) ?_
          refine sx_icmp_ne (pc := 45) (tgt := 57) (B := 2 = 1) hG dX8_part_45 (by decide) (nI_eq (by omega) (by omega)) (fun c45 => ?_) (fun c45 => ?_)
          · skip
            refine sx_iload_n (pc := 57) hG dX8_part_57 rfl 2 rfl ?_
            refine sx_iconst (pc := 58) (v := nI 2) hG dX8_part_58 (by decide +kernel) ?_
            refine sx_icmp_ne (pc := 59) (tgt := 71) (B := 2 = 2) hG dX8_part_59 (by decide) (nI_eq (by omega) (by omega)) (fun c59 => ?_) (fun c59 => ?_)
            · skip
              exact absurd (by decide) c59
            · skip
              refine sx_aload_n (pc := 62) hG dX8_part_62 rfl 0 rfl ?_
              refine sx_get (pc := 63) (v2 := .ref (bd 13)) (ci := 8) hG i_X8_part_8 18 m_X8_part_f50 dX8_part_63 rfl (by decide) 0 rfl rfl rfl ?_
              refine sx_iload_n (pc := 66) hG dX8_part_66 rfl 1 rfl ?_
              refine sx_iald (pc := 67) (v := nI ((av 13) k)) hG 13 dX8_part_67 rfl (by decide) (by omega) rfl ?_
              refine sx_goto (pc := 68) (tgt := 76) hG dX8_part_68 (by decide) ?_
              exact hret _ _ _ _ dX8_part_76 rfl ⟨rfl, rfl⟩
          · skip
            exact absurd c45 (by decide)
        · skip
          exact absurd c31 (by decide)
      · skip
        exact absurd hk c21

theorem i_X8_look_8 : ∀ w ∈ u_ws RX8 TX8 24, w ∈ wsX8_look := by decide +kernel
theorem m_X8_look_f68 : Cond.fieldLink RX8 68 (TX8 9).1 (TX8 9).2.1 (TX8 9).2.2.1 ∈ wsX8_look := by decide +kernel
theorem m_X8_look_f71 : Cond.fieldLink RX8 71 (TX8 0).1 (TX8 0).2.1 (TX8 0).2.2.1 ∈ wsX8_look := by decide +kernel
set_option maxHeartbeats 4000000 in
set_option maxRecDepth 100000 in
theorem c_X8_look_k (l : Launch) (X : sx_X) (bd : Nat → Nat) (sc : Nat → Int32) (av : Nat → Nat → Nat) (k a : Int32) (n : Nat) (hn : n ≤ 9) (h0 : sc 0 = nI n) (hk : k.toInt < 0 ∨ n ≤ k.toInt) : sx_Mi l yX8_look wsX8_look { frames := 1, cells := 0, slots := 0, locals := 21 } X [.ref (bd 0), .int k, .int a] (mw X bd sc av) (fun r w => r = nI 0 ∧ w = mw X bd (va_up sc 2 (nI 1)) av) 0 0 := by
  refine sx_entI (own := RX8) (nL := 3) (by decide +kernel) rfl rfl (Nat.le_of_ble_eq_true rfl) ?_
  intro G hG hN hret
  show sx_W l X G 0 0 0 [(0, .ref (bd 0)), (1, .int k), (2, .int a)] [] (mw X bd sc av)
  refine sx_aload_n (pc := 0) hG dX8_look_0 rfl 0 rfl ?_
  refine sx_iconst (pc := 1) (v := nI 0) hG dX8_look_1 (by decide +kernel) ?_
  refine sx_put (pc := 2) (v := .int (nI 0)) (ci := 8) (w2 := (mw X bd (va_up sc 2 (nI 0)) av)) hG i_X8_look_8 tyX8 tyX8_ok nmX8 9 m_X8_look_f68 dX8_look_2 rfl (by decide) 0 rfl rfl rfl rfl (Nat.le_of_ble_eq_true rfl) rfl ?_
  refine sx_iload_n (pc := 5) hG dX8_look_5 rfl 1 rfl ?_
  refine sx_if_lt (pc := 6) (tgt := 17) (B := k.toInt < 0) hG dX8_look_6 (by decide) (sx_rlt0 _) (fun c6 => ?_) (fun c6 => ?_)
  · skip
    refine sx_aload_n (pc := 17) hG dX8_look_17 rfl 0 rfl ?_
    refine sx_iconst (pc := 18) (v := nI 1) hG dX8_look_18 (by decide +kernel) ?_
    refine sx_callViw (pc := 19) (n9 := 1) (As := [.int (nI 1)]) (st := []) (b := (bd 0)) (ci := 8) hG (c_X8_fails l X bd (va_up sc 2 (nI 0)) av 1) gX8_look_X8_fails rfl (by decide +kernel) rfl 0 rfl rfl rfl dX8_look_19 ⟨rfl, rfl⟩ ⟨Nat.le_of_ble_eq_true rfl, Nat.le_of_ble_eq_true rfl⟩ (Nat.le_of_ble_eq_true rfl) ⟨Nat.le_of_ble_eq_true rfl, Nat.le_of_ble_eq_true rfl⟩ (fun r w1 hp => ?_)
    obtain ⟨hr9, hw9⟩ := hp
    have hr9 : r = (nI 0) := hr9
    subst hr9
    refine sx_weq hw9 ?_
    refine sx_weq (w2 := (mw X bd (va_up sc 2 (nI 1)) av)) rfl ?_
    exact hret _ _ _ _ dX8_look_22 rfl ⟨rfl, rfl⟩
  · skip
    refine sx_iload_n (pc := 9) hG dX8_look_9 rfl 1 rfl ?_
    refine sx_aload_n (pc := 10) hG dX8_look_10 rfl 0 rfl ?_
    refine sx_get (pc := 11) (v2 := .int (nI n)) (ci := 8) hG i_X8_look_8 0 m_X8_look_f71 dX8_look_11 rfl (by decide) 0 rfl rfl (congrArg Value.int h0) ?_
    refine sx_icmp_lt (pc := 14) (tgt := 23) (B := k.toInt < ((n : Nat) : Int)) hG dX8_look_14 (by decide) (sx_rlt rfl (nI_toInt (by omega))) (fun c14 => ?_) (fun c14 => ?_)
    · skip
      exact absurd c14 (by omega)
    · skip
      refine sx_aload_n (pc := 17) hG dX8_look_17 rfl 0 rfl ?_
      refine sx_iconst (pc := 18) (v := nI 1) hG dX8_look_18 (by decide +kernel) ?_
      refine sx_callViw (pc := 19) (n9 := 1) (As := [.int (nI 1)]) (st := []) (b := (bd 0)) (ci := 8) hG (c_X8_fails l X bd (va_up sc 2 (nI 0)) av 1) gX8_look_X8_fails rfl (by decide +kernel) rfl 0 rfl rfl rfl dX8_look_19 ⟨rfl, rfl⟩ ⟨Nat.le_of_ble_eq_true rfl, Nat.le_of_ble_eq_true rfl⟩ (Nat.le_of_ble_eq_true rfl) ⟨Nat.le_of_ble_eq_true rfl, Nat.le_of_ble_eq_true rfl⟩ (fun r w1 hp => ?_)
      obtain ⟨hr9, hw9⟩ := hp
      have hr9 : r = (nI 0) := hr9
      subst hr9
      refine sx_weq hw9 ?_
      refine sx_weq (w2 := (mw X bd (va_up sc 2 (nI 1)) av)) rfl ?_
      exact hret _ _ _ _ dX8_look_22 rfl ⟨rfl, rfl⟩

set_option maxHeartbeats 4000000 in
set_option maxRecDepth 100000 in
theorem c_X8_look_w (l : Launch) (X : sx_X) (bd : Nat → Nat) (sc : Nat → Int32) (av : Nat → Nat → Nat) (k : Nat) (a : Int32) (n : Nat) (hn : n ≤ 9) (h0 : sc 0 = nI n) (hk : k < n) (ha : a.toInt < 0 ∨ 1 < a.toInt) : sx_Mi l yX8_look wsX8_look { frames := 1, cells := 0, slots := 0, locals := 21 } X [.ref (bd 0), .int (nI k), .int a] (mw X bd sc av) (fun r w => r = nI 0 ∧ w = mw X bd (va_up sc 2 (nI 2)) av) 0 0 := by
  refine sx_entI (own := RX8) (nL := 3) (by decide +kernel) rfl rfl (Nat.le_of_ble_eq_true rfl) ?_
  intro G hG hN hret
  show sx_W l X G 0 0 0 [(0, .ref (bd 0)), (1, .int (nI k)), (2, .int a)] [] (mw X bd sc av)
  refine sx_aload_n (pc := 0) hG dX8_look_0 rfl 0 rfl ?_
  refine sx_iconst (pc := 1) (v := nI 0) hG dX8_look_1 (by decide +kernel) ?_
  refine sx_put (pc := 2) (v := .int (nI 0)) (ci := 8) (w2 := (mw X bd (va_up sc 2 (nI 0)) av)) hG i_X8_look_8 tyX8 tyX8_ok nmX8 9 m_X8_look_f68 dX8_look_2 rfl (by decide) 0 rfl rfl rfl rfl (Nat.le_of_ble_eq_true rfl) rfl ?_
  refine sx_iload_n (pc := 5) hG dX8_look_5 rfl 1 rfl ?_
  refine sx_if_lt (pc := 6) (tgt := 17) (B := False) hG dX8_look_6 (by decide) (sx_lt0 (by omega)) (fun c6 => ?_) (fun c6 => ?_)
  · skip
    exact absurd c6 (by decide)
  · skip
    refine sx_iload_n (pc := 9) hG dX8_look_9 rfl 1 rfl ?_
    refine sx_aload_n (pc := 10) hG dX8_look_10 rfl 0 rfl ?_
    refine sx_get (pc := 11) (v2 := .int (nI n)) (ci := 8) hG i_X8_look_8 0 m_X8_look_f71 dX8_look_11 rfl (by decide) 0 rfl rfl (congrArg Value.int h0) ?_
    refine sx_icmp_lt (pc := 14) (tgt := 23) (B := k < n) hG dX8_look_14 (by decide) (nI_ltI (by omega) (by omega)) (fun c14 => ?_) (fun c14 => ?_)
    · skip
      refine sx_iload_n (pc := 23) hG dX8_look_23 rfl 2 rfl ?_
      refine sx_if_ne (pc := 24) (tgt := 36) (B := a.toInt = 0) hG dX8_look_24 (by decide) (sx_req0 _) (fun c24 => ?_) (fun c24 => ?_)
      · skip
        refine sx_iload_n (pc := 36) hG dX8_look_36 rfl 2 rfl ?_
        refine sx_iconst (pc := 37) (v := nI 1) hG dX8_look_37 (by decide +kernel) ?_
        refine sx_icmp_ne (pc := 38) (tgt := 50) (B := a.toInt = (1 : Int)) hG dX8_look_38 (by decide) (sx_req rfl (nI_toInt (by omega))) (fun c38 => ?_) (fun c38 => ?_)
        · skip
          refine sx_aload_n (pc := 50) hG dX8_look_50 rfl 0 rfl ?_
          refine sx_iconst (pc := 51) (v := nI 2) hG dX8_look_51 (by decide +kernel) ?_
          refine sx_callViw (pc := 52) (n9 := 1) (As := [.int (nI 2)]) (st := []) (b := (bd 0)) (ci := 8) hG (c_X8_fails l X bd (va_up sc 2 (nI 0)) av 2) gX8_look_X8_fails rfl (by decide +kernel) rfl 0 rfl rfl rfl dX8_look_52 ⟨rfl, rfl⟩ ⟨Nat.le_of_ble_eq_true rfl, Nat.le_of_ble_eq_true rfl⟩ (Nat.le_of_ble_eq_true rfl) ⟨Nat.le_of_ble_eq_true rfl, Nat.le_of_ble_eq_true rfl⟩ (fun r w1 hp => ?_)
          obtain ⟨hr9, hw9⟩ := hp
          have hr9 : r = (nI 0) := hr9
          subst hr9
          refine sx_weq hw9 ?_
          refine sx_weq (w2 := (mw X bd (va_up sc 2 (nI 2)) av)) rfl ?_
          exact hret _ _ _ _ dX8_look_55 rfl ⟨rfl, rfl⟩
        · skip
          exact absurd c38 (by omega)
      · skip
        exact absurd c24 (by omega)
    · skip
      exact absurd hk c14

theorem m_X8_look_f25 : Cond.fieldLink RX8 25 (TX8 6).1 (TX8 6).2.1 (TX8 6).2.2.1 ∈ wsX8_look := by decide +kernel
set_option maxHeartbeats 4000000 in
set_option maxRecDepth 100000 in
theorem c_X8_look_0 (l : Launch) (X : sx_X) (bd : Nat → Nat) (sc : Nat → Int32) (av : Nat → Nat → Nat) (k : Nat) (n : Nat) (hn : n ≤ 9) (h0 : sc 0 = nI n) (hk : k < n) : sx_Mi l yX8_look wsX8_look { frames := 0, cells := 0, slots := 0, locals := 0 } X [.ref (bd 0), .int (nI k), .int (nI 0)] (mw X bd sc av) (fun r w => r = nI (av 6 k) ∧ w = mw X bd (va_up sc 2 (nI 0)) av) 0 0 := by
  refine sx_entI (own := RX8) (nL := 3) (by decide +kernel) rfl rfl (Nat.le_of_ble_eq_true rfl) ?_
  intro G hG hN hret
  show sx_W l X G 0 0 0 [(0, .ref (bd 0)), (1, .int (nI k)), (2, .int (nI 0))] [] (mw X bd sc av)
  refine sx_aload_n (pc := 0) hG dX8_look_0 rfl 0 rfl ?_
  refine sx_iconst (pc := 1) (v := nI 0) hG dX8_look_1 (by decide +kernel) ?_
  refine sx_put (pc := 2) (v := .int (nI 0)) (ci := 8) (w2 := (mw X bd (va_up sc 2 (nI 0)) av)) hG i_X8_look_8 tyX8 tyX8_ok nmX8 9 m_X8_look_f68 dX8_look_2 rfl (by decide) 0 rfl rfl rfl rfl (Nat.le_of_ble_eq_true rfl) rfl ?_
  refine sx_iload_n (pc := 5) hG dX8_look_5 rfl 1 rfl ?_
  refine sx_if_lt (pc := 6) (tgt := 17) (B := False) hG dX8_look_6 (by decide) (sx_lt0 (by omega)) (fun c6 => ?_) (fun c6 => ?_)
  · skip
    exact absurd c6 (by decide)
  · skip
    refine sx_iload_n (pc := 9) hG dX8_look_9 rfl 1 rfl ?_
    refine sx_aload_n (pc := 10) hG dX8_look_10 rfl 0 rfl ?_
    refine sx_get (pc := 11) (v2 := .int (nI n)) (ci := 8) hG i_X8_look_8 0 m_X8_look_f71 dX8_look_11 rfl (by decide) 0 rfl rfl (congrArg Value.int h0) ?_
    refine sx_icmp_lt (pc := 14) (tgt := 23) (B := k < n) hG dX8_look_14 (by decide) (nI_ltI (by omega) (by omega)) (fun c14 => ?_) (fun c14 => ?_)
    · skip
      refine sx_iload_n (pc := 23) hG dX8_look_23 rfl 2 rfl ?_
      refine sx_if_ne (pc := 24) (tgt := 36) (B := 0 = 0) hG dX8_look_24 (by decide) (sx_eq0 (by omega)) (fun c24 => ?_) (fun c24 => ?_)
      · skip
        exact absurd (by decide) c24
      · skip
        refine sx_aload_n (pc := 27) hG dX8_look_27 rfl 0 rfl ?_
        refine sx_get (pc := 28) (v2 := .ref (bd 6)) (ci := 8) hG i_X8_look_8 6 m_X8_look_f25 dX8_look_28 rfl (by decide) 0 rfl rfl rfl ?_
        refine sx_iload_n (pc := 31) hG dX8_look_31 rfl 1 rfl ?_
        refine sx_iald (pc := 32) (v := nI ((av 6) k)) hG 6 dX8_look_32 rfl (by decide) (by omega) rfl ?_
        refine sx_goto (pc := 33) (tgt := 55) hG dX8_look_33 (by decide) ?_
        exact hret _ _ _ _ dX8_look_55 rfl ⟨rfl, rfl⟩
    · skip
      exact absurd hk c14

theorem m_X8_look_f22 : Cond.fieldLink RX8 22 (TX8 5).1 (TX8 5).2.1 (TX8 5).2.2.1 ∈ wsX8_look := by decide +kernel
set_option maxHeartbeats 4000000 in
set_option maxRecDepth 100000 in
theorem c_X8_look_1 (l : Launch) (X : sx_X) (bd : Nat → Nat) (sc : Nat → Int32) (av : Nat → Nat → Nat) (k : Nat) (n : Nat) (hn : n ≤ 9) (h0 : sc 0 = nI n) (hk : k < n) : sx_Mi l yX8_look wsX8_look { frames := 0, cells := 0, slots := 0, locals := 0 } X [.ref (bd 0), .int (nI k), .int (nI 1)] (mw X bd sc av) (fun r w => r = nI (av 5 k) ∧ w = mw X bd (va_up sc 2 (nI 0)) av) 0 0 := by
  refine sx_entI (own := RX8) (nL := 3) (by decide +kernel) rfl rfl (Nat.le_of_ble_eq_true rfl) ?_
  intro G hG hN hret
  show sx_W l X G 0 0 0 [(0, .ref (bd 0)), (1, .int (nI k)), (2, .int (nI 1))] [] (mw X bd sc av)
  refine sx_aload_n (pc := 0) hG dX8_look_0 rfl 0 rfl ?_
  refine sx_iconst (pc := 1) (v := nI 0) hG dX8_look_1 (by decide +kernel) ?_
  refine sx_put (pc := 2) (v := .int (nI 0)) (ci := 8) (w2 := (mw X bd (va_up sc 2 (nI 0)) av)) hG i_X8_look_8 tyX8 tyX8_ok nmX8 9 m_X8_look_f68 dX8_look_2 rfl (by decide) 0 rfl rfl rfl rfl (Nat.le_of_ble_eq_true rfl) rfl ?_
  refine sx_iload_n (pc := 5) hG dX8_look_5 rfl 1 rfl ?_
  refine sx_if_lt (pc := 6) (tgt := 17) (B := False) hG dX8_look_6 (by decide) (sx_lt0 (by omega)) (fun c6 => ?_) (fun c6 => ?_)
  · skip
    exact absurd c6 (by decide)
  · skip
    refine sx_iload_n (pc := 9) hG dX8_look_9 rfl 1 rfl ?_
    refine sx_aload_n (pc := 10) hG dX8_look_10 rfl 0 rfl ?_
    refine sx_get (pc := 11) (v2 := .int (nI n)) (ci := 8) hG i_X8_look_8 0 m_X8_look_f71 dX8_look_11 rfl (by decide) 0 rfl rfl (congrArg Value.int h0) ?_
    refine sx_icmp_lt (pc := 14) (tgt := 23) (B := k < n) hG dX8_look_14 (by decide) (nI_ltI (by omega) (by omega)) (fun c14 => ?_) (fun c14 => ?_)
    · skip
      refine sx_iload_n (pc := 23) hG dX8_look_23 rfl 2 rfl ?_
      refine sx_if_ne (pc := 24) (tgt := 36) (B := 1 = 0) hG dX8_look_24 (by decide) (sx_eq0 (by omega)) (fun c24 => ?_) (fun c24 => ?_)
      · skip
        refine sx_iload_n (pc := 36) hG dX8_look_36 rfl 2 rfl ?_
        refine sx_iconst (pc := 37) (v := nI 1) hG dX8_look_37 (by decide +kernel) ?_
        refine sx_icmp_ne (pc := 38) (tgt := 50) (B := 1 = 1) hG dX8_look_38 (by decide) (nI_eq (by omega) (by omega)) (fun c38 => ?_) (fun c38 => ?_)
        · skip
          exact absurd (by decide) c38
        · skip
          refine sx_aload_n (pc := 41) hG dX8_look_41 rfl 0 rfl ?_
          refine sx_get (pc := 42) (v2 := .ref (bd 5)) (ci := 8) hG i_X8_look_8 5 m_X8_look_f22 dX8_look_42 rfl (by decide) 0 rfl rfl rfl ?_
          refine sx_iload_n (pc := 45) hG dX8_look_45 rfl 1 rfl ?_
          refine sx_iald (pc := 46) (v := nI ((av 5) k)) hG 5 dX8_look_46 rfl (by decide) (by omega) rfl ?_
          refine sx_goto (pc := 47) (tgt := 55) hG dX8_look_47 (by decide) ?_
          exact hret _ _ _ _ dX8_look_55 rfl ⟨rfl, rfl⟩
      · skip
        exact absurd c24 (by decide)
    · skip
      exact absurd hk c14

theorem i_X8_count_8 : ∀ w ∈ u_ws RX8 TX8 24, w ∈ wsX8_count := by decide +kernel
theorem m_X8_count_f68 : Cond.fieldLink RX8 68 (TX8 9).1 (TX8 9).2.1 (TX8 9).2.2.1 ∈ wsX8_count := by decide +kernel
theorem m_X8_count_f71 : Cond.fieldLink RX8 71 (TX8 0).1 (TX8 0).2.1 (TX8 0).2.2.1 ∈ wsX8_count := by decide +kernel
set_option maxHeartbeats 4000000 in
set_option maxRecDepth 100000 in
theorem c_X8_count_0 (l : Launch) (X : sx_X) (bd : Nat → Nat) (sc : Nat → Int32) (av : Nat → Nat → Nat) (n : Nat) (hn : n ≤ 9) (h0 : sc 0 = nI n) : sx_Mi l yX8_count wsX8_count { frames := 0, cells := 0, slots := 0, locals := 0 } X [.ref (bd 0), .int (nI 0)] (mw X bd sc av) (fun r w => r = nI n ∧ w = mw X bd (va_up sc 2 (nI 0)) av) 0 0 := by
  refine sx_entI (own := RX8) (nL := 4) (by decide +kernel) rfl rfl (Nat.le_of_ble_eq_true rfl) ?_
  intro G hG hN hret
  show sx_W l X G 0 0 0 [(0, .ref (bd 0)), (1, .int (nI 0))] [] (mw X bd sc av)
  refine sx_aload_n (pc := 0) hG dX8_count_0 rfl 0 rfl ?_
  refine sx_iconst (pc := 1) (v := nI 0) hG dX8_count_1 (by decide +kernel) ?_
  refine sx_put (pc := 2) (v := .int (nI 0)) (ci := 8) (w2 := (mw X bd (va_up sc 2 (nI 0)) av)) hG i_X8_count_8 tyX8 tyX8_ok nmX8 9 m_X8_count_f68 dX8_count_2 rfl (by decide) 0 rfl rfl rfl rfl (Nat.le_of_ble_eq_true rfl) rfl ?_
  refine sx_iconst (pc := 5) (v := nI 0) hG dX8_count_5 (by decide +kernel) ?_
  refine sx_istore_n (pc := 6) (lv2 := [(0, .ref (bd 0)), (1, .int (nI 0)), (2, .int (nI 0))]) hG [1, 2, 0] dX8_count_6 rfl hN (by decide) rfl ?_
  refine sx_iload_n (pc := 7) hG dX8_count_7 rfl 1 rfl ?_
  refine sx_tswIn (pc := 8) (off := 36) (tgt := 44) hG dX8_count_8 (by decide) (by decide) (by decide +kernel) (by decide) ?_
  refine sx_aload_n (pc := 44) hG dX8_count_44 rfl 0 rfl ?_
  refine sx_get (pc := 45) (v2 := .int (nI n)) (ci := 8) hG i_X8_count_8 0 m_X8_count_f71 dX8_count_45 rfl (by decide) 0 rfl rfl (congrArg Value.int h0) ?_
  exact hret _ _ _ _ dX8_count_48 rfl ⟨rfl, rfl⟩

theorem m_X8_count_f74 : Cond.fieldLink RX8 74 (TX8 13).1 (TX8 13).2.1 (TX8 13).2.2.1 ∈ wsX8_count := by decide +kernel
set_option maxHeartbeats 4000000 in
set_option maxRecDepth 100000 in
theorem c_X8_count_1n (l : Launch) (X : sx_X) (bd : Nat → Nat) (sc : Nat → Int32) (av : Nat → Nat → Nat) (h3 : sc 3 = nI 0) : sx_Mi l yX8_count wsX8_count { frames := 0, cells := 0, slots := 0, locals := 0 } X [.ref (bd 0), .int (nI 1)] (mw X bd sc av) (fun r w => r = -1 ∧ w = mw X bd (va_up sc 2 (nI 0)) av) 0 0 := by
  refine sx_entI (own := RX8) (nL := 4) (by decide +kernel) rfl rfl (Nat.le_of_ble_eq_true rfl) ?_
  intro G hG hN hret
  show sx_W l X G 0 0 0 [(0, .ref (bd 0)), (1, .int (nI 1))] [] (mw X bd sc av)
  refine sx_aload_n (pc := 0) hG dX8_count_0 rfl 0 rfl ?_
  refine sx_iconst (pc := 1) (v := nI 0) hG dX8_count_1 (by decide +kernel) ?_
  refine sx_put (pc := 2) (v := .int (nI 0)) (ci := 8) (w2 := (mw X bd (va_up sc 2 (nI 0)) av)) hG i_X8_count_8 tyX8 tyX8_ok nmX8 9 m_X8_count_f68 dX8_count_2 rfl (by decide) 0 rfl rfl rfl rfl (Nat.le_of_ble_eq_true rfl) rfl ?_
  refine sx_iconst (pc := 5) (v := nI 0) hG dX8_count_5 (by decide +kernel) ?_
  refine sx_istore_n (pc := 6) (lv2 := [(0, .ref (bd 0)), (1, .int (nI 1)), (2, .int (nI 0))]) hG [1, 2, 0] dX8_count_6 rfl hN (by decide) rfl ?_
  refine sx_iload_n (pc := 7) hG dX8_count_7 rfl 1 rfl ?_
  refine sx_tswIn (pc := 8) (off := 41) (tgt := 49) hG dX8_count_8 (by decide) (by decide) (by decide +kernel) (by decide) ?_
  refine sx_aload_n (pc := 49) hG dX8_count_49 rfl 0 rfl ?_
  refine sx_get (pc := 50) (v2 := .int (nI 0)) (ci := 8) hG i_X8_count_8 13 m_X8_count_f74 dX8_count_50 rfl (by decide) 0 rfl rfl (congrArg Value.int h3) ?_
  refine sx_if_eq (pc := 53) (tgt := 63) (B := 0 = 0) hG dX8_count_53 (by decide) (sx_eq0 (by omega)) (fun c53 => ?_) (fun c53 => ?_)
  · skip
    refine sx_iconst (pc := 63) (v := (-1)) hG dX8_count_63 (by decide +kernel) ?_
    exact hret _ _ _ _ dX8_count_64 rfl ⟨rfl, rfl⟩
  · skip
    exact absurd (by decide) c53

theorem m_X8_count_f131 : Cond.fieldLink RX8 131 (TX8 14).1 (TX8 14).2.1 (TX8 14).2.2.1 ∈ wsX8_count := by decide +kernel
set_option maxHeartbeats 4000000 in
set_option maxRecDepth 100000 in
theorem c_X8_count_1 (l : Launch) (X : sx_X) (bd : Nat → Nat) (sc : Nat → Int32) (av : Nat → Nat → Nat) (h3 : sc 3 = nI 1) : sx_Mi l yX8_count wsX8_count { frames := 0, cells := 0, slots := 0, locals := 0 } X [.ref (bd 0), .int (nI 1)] (mw X bd sc av) (fun r w => r = sc 4 ∧ w = mw X bd (va_up sc 2 (nI 0)) av) 0 0 := by
  refine sx_entI (own := RX8) (nL := 4) (by decide +kernel) rfl rfl (Nat.le_of_ble_eq_true rfl) ?_
  intro G hG hN hret
  show sx_W l X G 0 0 0 [(0, .ref (bd 0)), (1, .int (nI 1))] [] (mw X bd sc av)
  refine sx_aload_n (pc := 0) hG dX8_count_0 rfl 0 rfl ?_
  refine sx_iconst (pc := 1) (v := nI 0) hG dX8_count_1 (by decide +kernel) ?_
  refine sx_put (pc := 2) (v := .int (nI 0)) (ci := 8) (w2 := (mw X bd (va_up sc 2 (nI 0)) av)) hG i_X8_count_8 tyX8 tyX8_ok nmX8 9 m_X8_count_f68 dX8_count_2 rfl (by decide) 0 rfl rfl rfl rfl (Nat.le_of_ble_eq_true rfl) rfl ?_
  refine sx_iconst (pc := 5) (v := nI 0) hG dX8_count_5 (by decide +kernel) ?_
  refine sx_istore_n (pc := 6) (lv2 := [(0, .ref (bd 0)), (1, .int (nI 1)), (2, .int (nI 0))]) hG [1, 2, 0] dX8_count_6 rfl hN (by decide) rfl ?_
  refine sx_iload_n (pc := 7) hG dX8_count_7 rfl 1 rfl ?_
  refine sx_tswIn (pc := 8) (off := 41) (tgt := 49) hG dX8_count_8 (by decide) (by decide) (by decide +kernel) (by decide) ?_
  refine sx_aload_n (pc := 49) hG dX8_count_49 rfl 0 rfl ?_
  refine sx_get (pc := 50) (v2 := .int (nI 1)) (ci := 8) hG i_X8_count_8 13 m_X8_count_f74 dX8_count_50 rfl (by decide) 0 rfl rfl (congrArg Value.int h3) ?_
  refine sx_if_eq (pc := 53) (tgt := 63) (B := 1 = 0) hG dX8_count_53 (by decide) (sx_eq0 (by omega)) (fun c53 => ?_) (fun c53 => ?_)
  · skip
    exact absurd c53 (by decide)
  · skip
    refine sx_aload_n (pc := 56) hG dX8_count_56 rfl 0 rfl ?_
    refine sx_get (pc := 57) (v2 := .int (sc 4)) (ci := 8) hG i_X8_count_8 14 m_X8_count_f131 dX8_count_57 rfl (by decide) 0 rfl rfl rfl ?_
    refine sx_goto (pc := 60) (tgt := 64) hG dX8_count_60 (by decide) ?_
    exact hret _ _ _ _ dX8_count_64 rfl ⟨rfl, rfl⟩

set_option maxHeartbeats 4000000 in
set_option maxRecDepth 100000 in
theorem c_X8_count_3n (l : Launch) (X : sx_X) (bd : Nat → Nat) (sc : Nat → Int32) (av : Nat → Nat → Nat) (h3 : sc 3 = nI 0) : sx_Mi l yX8_count wsX8_count { frames := 0, cells := 0, slots := 0, locals := 0 } X [.ref (bd 0), .int (nI 3)] (mw X bd sc av) (fun r w => r = -1 ∧ w = mw X bd (va_up sc 2 (nI 0)) av) 0 0 := by
  refine sx_entI (own := RX8) (nL := 4) (by decide +kernel) rfl rfl (Nat.le_of_ble_eq_true rfl) ?_
  intro G hG hN hret
  show sx_W l X G 0 0 0 [(0, .ref (bd 0)), (1, .int (nI 3))] [] (mw X bd sc av)
  refine sx_aload_n (pc := 0) hG dX8_count_0 rfl 0 rfl ?_
  refine sx_iconst (pc := 1) (v := nI 0) hG dX8_count_1 (by decide +kernel) ?_
  refine sx_put (pc := 2) (v := .int (nI 0)) (ci := 8) (w2 := (mw X bd (va_up sc 2 (nI 0)) av)) hG i_X8_count_8 tyX8 tyX8_ok nmX8 9 m_X8_count_f68 dX8_count_2 rfl (by decide) 0 rfl rfl rfl rfl (Nat.le_of_ble_eq_true rfl) rfl ?_
  refine sx_iconst (pc := 5) (v := nI 0) hG dX8_count_5 (by decide +kernel) ?_
  refine sx_istore_n (pc := 6) (lv2 := [(0, .ref (bd 0)), (1, .int (nI 3)), (2, .int (nI 0))]) hG [1, 2, 0] dX8_count_6 rfl hN (by decide) rfl ?_
  refine sx_iload_n (pc := 7) hG dX8_count_7 rfl 1 rfl ?_
  refine sx_tswIn (pc := 8) (off := 84) (tgt := 92) hG dX8_count_8 (by decide) (by decide) (by decide +kernel) (by decide) ?_
  refine sx_aload_n (pc := 92) hG dX8_count_92 rfl 0 rfl ?_
  refine sx_get (pc := 93) (v2 := .int (nI 0)) (ci := 8) hG i_X8_count_8 13 m_X8_count_f74 dX8_count_93 rfl (by decide) 0 rfl rfl (congrArg Value.int h3) ?_
  refine sx_if_eq (pc := 96) (tgt := 106) (B := 0 = 0) hG dX8_count_96 (by decide) (sx_eq0 (by omega)) (fun c96 => ?_) (fun c96 => ?_)
  · skip
    refine sx_iconst (pc := 106) (v := (-1)) hG dX8_count_106 (by decide +kernel) ?_
    exact hret _ _ _ _ dX8_count_107 rfl ⟨rfl, rfl⟩
  · skip
    exact absurd (by decide) c96

theorem m_X8_count_f134 : Cond.fieldLink RX8 134 (TX8 15).1 (TX8 15).2.1 (TX8 15).2.2.1 ∈ wsX8_count := by decide +kernel
set_option maxHeartbeats 4000000 in
set_option maxRecDepth 100000 in
theorem c_X8_count_3 (l : Launch) (X : sx_X) (bd : Nat → Nat) (sc : Nat → Int32) (av : Nat → Nat → Nat) (h3 : sc 3 = nI 1) : sx_Mi l yX8_count wsX8_count { frames := 0, cells := 0, slots := 0, locals := 0 } X [.ref (bd 0), .int (nI 3)] (mw X bd sc av) (fun r w => r = sc 5 ∧ w = mw X bd (va_up sc 2 (nI 0)) av) 0 0 := by
  refine sx_entI (own := RX8) (nL := 4) (by decide +kernel) rfl rfl (Nat.le_of_ble_eq_true rfl) ?_
  intro G hG hN hret
  show sx_W l X G 0 0 0 [(0, .ref (bd 0)), (1, .int (nI 3))] [] (mw X bd sc av)
  refine sx_aload_n (pc := 0) hG dX8_count_0 rfl 0 rfl ?_
  refine sx_iconst (pc := 1) (v := nI 0) hG dX8_count_1 (by decide +kernel) ?_
  refine sx_put (pc := 2) (v := .int (nI 0)) (ci := 8) (w2 := (mw X bd (va_up sc 2 (nI 0)) av)) hG i_X8_count_8 tyX8 tyX8_ok nmX8 9 m_X8_count_f68 dX8_count_2 rfl (by decide) 0 rfl rfl rfl rfl (Nat.le_of_ble_eq_true rfl) rfl ?_
  refine sx_iconst (pc := 5) (v := nI 0) hG dX8_count_5 (by decide +kernel) ?_
  refine sx_istore_n (pc := 6) (lv2 := [(0, .ref (bd 0)), (1, .int (nI 3)), (2, .int (nI 0))]) hG [1, 2, 0] dX8_count_6 rfl hN (by decide) rfl ?_
  refine sx_iload_n (pc := 7) hG dX8_count_7 rfl 1 rfl ?_
  refine sx_tswIn (pc := 8) (off := 84) (tgt := 92) hG dX8_count_8 (by decide) (by decide) (by decide +kernel) (by decide) ?_
  refine sx_aload_n (pc := 92) hG dX8_count_92 rfl 0 rfl ?_
  refine sx_get (pc := 93) (v2 := .int (nI 1)) (ci := 8) hG i_X8_count_8 13 m_X8_count_f74 dX8_count_93 rfl (by decide) 0 rfl rfl (congrArg Value.int h3) ?_
  refine sx_if_eq (pc := 96) (tgt := 106) (B := 1 = 0) hG dX8_count_96 (by decide) (sx_eq0 (by omega)) (fun c96 => ?_) (fun c96 => ?_)
  · skip
    exact absurd c96 (by decide)
  · skip
    refine sx_aload_n (pc := 99) hG dX8_count_99 rfl 0 rfl ?_
    refine sx_get (pc := 100) (v2 := .int (sc 5)) (ci := 8) hG i_X8_count_8 15 m_X8_count_f134 dX8_count_100 rfl (by decide) 0 rfl rfl rfl ?_
    refine sx_goto (pc := 103) (tgt := 107) hG dX8_count_103 (by decide) ?_
    exact hret _ _ _ _ dX8_count_107 rfl ⟨rfl, rfl⟩

theorem m_X8_count_f25 : Cond.fieldLink RX8 25 (TX8 6).1 (TX8 6).2.1 (TX8 6).2.2.1 ∈ wsX8_count := by decide +kernel
set_option maxHeartbeats 4000000 in
set_option maxRecDepth 100000 in
theorem c_X8_count_2 (l : Launch) (X : sx_X) (bd : Nat → Nat) (sc : Nat → Int32) (av : Nat → Nat → Nat) (n : Nat) (hn : n ≤ 9) (h0 : sc 0 = nI n) (hg : mG av) : sx_Mi l yX8_count wsX8_count { frames := 0, cells := 0, slots := 0, locals := 0 } X [.ref (bd 0), .int (nI 2)] (mw X bd sc av) (fun r w => r = nI (sx_sum (av 6) n) ∧ w = mw X bd (va_up sc 2 (nI 0)) av) 0 0 := by
  refine sx_entI (own := RX8) (nL := 4) (by decide +kernel) rfl rfl (Nat.le_of_ble_eq_true rfl) ?_
  intro G hG hN hret
  show sx_W l X G 0 0 0 [(0, .ref (bd 0)), (1, .int (nI 2))] [] (mw X bd sc av)
  have loop_k : ∀ (fuel : Nat), ∀ (k : Nat), (k ≤ n) → n - k < fuel → sx_W l X G 0 0 67 [(0, .ref (bd 0)), (1, .int (nI 2)), (2, .int (nI (sx_sum (av 6) k))), (3, .int (nI k))] [] (mw X bd (va_up sc 2 (nI 0)) av) := by
    intro fuel
    induction fuel with
    | zero => intro k hk hm; exact absurd hm (Nat.not_lt_zero _)
    | succ fuel ih_k =>
      intro k hk hm_k
      have hs1 := sx_sum_le hg.2.2.2.2.2.1 k
      have hs2 := hg.2.2.2.2.2.1 k
      refine sx_iload_n (pc := 67) hG dX8_count_67 rfl 3 rfl ?_
      refine sx_aload_n (pc := 68) hG dX8_count_68 rfl 0 rfl ?_
      refine sx_get (pc := 69) (v2 := .int (nI n)) (ci := 8) hG i_X8_count_8 0 m_X8_count_f71 dX8_count_69 rfl (by decide) 0 rfl rfl (congrArg Value.int h0) ?_
      refine sx_icmp_ge (pc := 72) (tgt := 90) (B := n ≤ k) hG dX8_count_72 (by decide) (nI_leI (by omega) (by omega)) (fun c72 => ?_) (fun c72 => ?_)
      · skip
        have hkn : k = n := by omega
        subst hkn
        refine sx_iload_n (pc := 90) hG dX8_count_90 rfl 2 rfl ?_
        exact hret _ _ _ _ dX8_count_91 rfl ⟨rfl, rfl⟩
      · skip
        refine sx_iload_n (pc := 75) hG dX8_count_75 rfl 2 rfl ?_
        refine sx_aload_n (pc := 76) hG dX8_count_76 rfl 0 rfl ?_
        refine sx_get (pc := 77) (v2 := .ref (bd 6)) (ci := 8) hG i_X8_count_8 6 m_X8_count_f25 dX8_count_77 rfl (by decide) 0 rfl rfl rfl ?_
        refine sx_iload_n (pc := 80) hG dX8_count_80 rfl 3 rfl ?_
        refine sx_iald (pc := 81) (v := nI ((av 6) k)) hG 6 dX8_count_81 rfl (by decide) (by omega) rfl ?_
        refine sx_iadd (pc := 82) (v := (nI (sx_sum (av 6) k + ((av 6) k)))) hG dX8_count_82 (nI_add (sx_sum (av 6) k) ((av 6) k)) ?_
        refine sx_istore_n (pc := 83) (lv2 := [(0, .ref (bd 0)), (1, .int (nI 2)), (2, .int (nI (sx_sum (av 6) k + ((av 6) k)))), (3, .int (nI k))]) hG [1, 2, 0, 3] dX8_count_83 rfl hN (by decide) rfl ?_
        refine sx_iinc (pc := 84) (v := (nI (k + 1))) (lv2 := [(0, .ref (bd 0)), (1, .int (nI 2)), (2, .int (nI (sx_sum (av 6) k + ((av 6) k)))), (3, .int (nI (k + 1)))]) hG [1, 2, 3, 0] dX8_count_84 3 rfl (sx_inc k) hN (by decide) rfl ?_
        refine sx_goto (pc := 87) (tgt := 67) hG dX8_count_87 (by decide) ?_
        refine ih_k (k + 1) (by omega) (by omega)
  refine sx_aload_n (pc := 0) hG dX8_count_0 rfl 0 rfl ?_
  refine sx_iconst (pc := 1) (v := nI 0) hG dX8_count_1 (by decide +kernel) ?_
  refine sx_put (pc := 2) (v := .int (nI 0)) (ci := 8) (w2 := (mw X bd (va_up sc 2 (nI 0)) av)) hG i_X8_count_8 tyX8 tyX8_ok nmX8 9 m_X8_count_f68 dX8_count_2 rfl (by decide) 0 rfl rfl rfl rfl (Nat.le_of_ble_eq_true rfl) rfl ?_
  refine sx_iconst (pc := 5) (v := nI 0) hG dX8_count_5 (by decide +kernel) ?_
  refine sx_istore_n (pc := 6) (lv2 := [(0, .ref (bd 0)), (1, .int (nI 2)), (2, .int (nI 0))]) hG [1, 2, 0] dX8_count_6 rfl hN (by decide) rfl ?_
  refine sx_iload_n (pc := 7) hG dX8_count_7 rfl 1 rfl ?_
  refine sx_tswIn (pc := 8) (off := 57) (tgt := 65) hG dX8_count_8 (by decide) (by decide) (by decide +kernel) (by decide) ?_
  refine sx_iconst (pc := 65) (v := nI 0) hG dX8_count_65 (by decide +kernel) ?_
  refine sx_istore_n (pc := 66) (lv2 := [(0, .ref (bd 0)), (1, .int (nI 2)), (2, .int (nI 0)), (3, .int (nI 0))]) hG [1, 2, 3, 0] dX8_count_66 rfl hN (by decide) rfl ?_
  refine loop_k _ 0 (by omega) (Nat.lt_succ_self _)

theorem m_X8_count_f31 : Cond.fieldLink RX8 31 (TX8 8).1 (TX8 8).2.1 (TX8 8).2.2.1 ∈ wsX8_count := by decide +kernel
set_option maxHeartbeats 4000000 in
set_option maxRecDepth 100000 in
theorem c_X8_count_4 (l : Launch) (X : sx_X) (bd : Nat → Nat) (sc : Nat → Int32) (av : Nat → Nat → Nat)  : sx_Mi l yX8_count wsX8_count { frames := 0, cells := 0, slots := 0, locals := 0 } X [.ref (bd 0), .int (nI 4)] (mw X bd sc av) (fun r w => r = sc 1 ∧ w = mw X bd (va_up sc 2 (nI 0)) av) 0 0 := by
  refine sx_entI (own := RX8) (nL := 4) (by decide +kernel) rfl rfl (Nat.le_of_ble_eq_true rfl) ?_
  intro G hG hN hret
  show sx_W l X G 0 0 0 [(0, .ref (bd 0)), (1, .int (nI 4))] [] (mw X bd sc av)
  refine sx_aload_n (pc := 0) hG dX8_count_0 rfl 0 rfl ?_
  refine sx_iconst (pc := 1) (v := nI 0) hG dX8_count_1 (by decide +kernel) ?_
  refine sx_put (pc := 2) (v := .int (nI 0)) (ci := 8) (w2 := (mw X bd (va_up sc 2 (nI 0)) av)) hG i_X8_count_8 tyX8 tyX8_ok nmX8 9 m_X8_count_f68 dX8_count_2 rfl (by decide) 0 rfl rfl rfl rfl (Nat.le_of_ble_eq_true rfl) rfl ?_
  refine sx_iconst (pc := 5) (v := nI 0) hG dX8_count_5 (by decide +kernel) ?_
  refine sx_istore_n (pc := 6) (lv2 := [(0, .ref (bd 0)), (1, .int (nI 4)), (2, .int (nI 0))]) hG [1, 2, 0] dX8_count_6 rfl hN (by decide) rfl ?_
  refine sx_iload_n (pc := 7) hG dX8_count_7 rfl 1 rfl ?_
  refine sx_tswIn (pc := 8) (off := 100) (tgt := 108) hG dX8_count_8 (by decide) (by decide) (by decide +kernel) (by decide) ?_
  refine sx_aload_n (pc := 108) hG dX8_count_108 rfl 0 rfl ?_
  refine sx_get (pc := 109) (v2 := .int (sc 1)) (ci := 8) hG i_X8_count_8 8 m_X8_count_f31 dX8_count_109 rfl (by decide) 0 rfl rfl rfl ?_
  exact hret _ _ _ _ dX8_count_112 rfl ⟨rfl, rfl⟩

set_option maxHeartbeats 4000000 in
set_option maxRecDepth 100000 in
theorem c_X8_count_o (l : Launch) (X : sx_X) (bd : Nat → Nat) (sc : Nat → Int32) (av : Nat → Nat → Nat) (a : Int32) (ha : a.toInt < 0 ∨ 4 < a.toInt) : sx_Mi l yX8_count wsX8_count { frames := 0, cells := 0, slots := 0, locals := 0 } X [.ref (bd 0), .int a] (mw X bd sc av) (fun r w => r = -1 ∧ w = mw X bd (va_up sc 2 (nI 0)) av) 0 0 := by
  refine sx_entI (own := RX8) (nL := 4) (by decide +kernel) rfl rfl (Nat.le_of_ble_eq_true rfl) ?_
  intro G hG hN hret
  show sx_W l X G 0 0 0 [(0, .ref (bd 0)), (1, .int a)] [] (mw X bd sc av)
  refine sx_aload_n (pc := 0) hG dX8_count_0 rfl 0 rfl ?_
  refine sx_iconst (pc := 1) (v := nI 0) hG dX8_count_1 (by decide +kernel) ?_
  refine sx_put (pc := 2) (v := .int (nI 0)) (ci := 8) (w2 := (mw X bd (va_up sc 2 (nI 0)) av)) hG i_X8_count_8 tyX8 tyX8_ok nmX8 9 m_X8_count_f68 dX8_count_2 rfl (by decide) 0 rfl rfl rfl rfl (Nat.le_of_ble_eq_true rfl) rfl ?_
  refine sx_iconst (pc := 5) (v := nI 0) hG dX8_count_5 (by decide +kernel) ?_
  refine sx_istore_n (pc := 6) (lv2 := [(0, .ref (bd 0)), (1, .int a), (2, .int (nI 0))]) hG [1, 2, 0] dX8_count_6 rfl hN (by decide) rfl ?_
  refine sx_iload_n (pc := 7) hG dX8_count_7 rfl 1 rfl ?_
  refine sx_tswOut (pc := 8) (tgt := 113) hG dX8_count_8 ha (by decide) ?_
  refine sx_iconst (pc := 113) (v := (-1)) hG dX8_count_113 (by decide +kernel) ?_
  exact hret _ _ _ _ dX8_count_114 rfl ⟨rfl, rfl⟩
