/-! THE CLASS: firstStep, trace, stepOf, jumpsOf -/
def cCand (lk : Nat → Nat → Nat) (K : Nat → Nat) (k left prev t : Nat) : Nat := if k = 0 then K (18 * left + t) else lk prev t + K (18 * left + t)
def cTgt (lk : Nat → Nat → Nat) (K B : Nat → Nat) (s k left prev : Nat) : Nat := if k = 0 then B s else cLB lk K left prev
def cSel (lk : Nat → Nat → Nat) (K B : Nat → Nat) (n s k left prev a : Nat) : Prop := a < 2 * n ∧ ¬ sx_bit left (a / 2) = 0 ∧ cCand lk K k left prev a = cTgt lk K B s k left prev ∧ ∀ b, b < a → ¬ sx_bit left (b / 2) = 0 → ¬ cCand lk K k left prev b = cTgt lk K B s k left prev
def cPth (lk : Nat → Nat → Nat) (K B : Nat → Nat) (n s : Nat) (R : Nat → Nat) : Nat → Nat → Prop
  | 0, left => left = s
  | k + 1, left => ∃ l0, cPth lk K B n s R k l0 ∧ ¬ l0 = 0 ∧ cSel lk K B n s k l0 (R (k - 1)) (R k) ∧ left = sx_diff l0 (2 ^ (R k / 2))
theorem cPth_lt {lk : Nat → Nat → Nat} {K B : Nat → Nat} {n s : Nat} {R : Nat → Nat} {k left : Nat} (h : cPth lk K B n s R k left) (hk : ¬ k = 0) : R (k - 1) < 2 * n := by
  cases k with
  | zero => exact absurd rfl hk
  | succ k => obtain ⟨r0, -, -, h1, -⟩ := h; exact h1.1
theorem cPth_0 {lk : Nat → Nat → Nat} {K B : Nat → Nat} {n s : Nat} {R : Nat → Nat} {k left : Nat} (h : cPth lk K B n s R k left) (hk : k = 0) : left = s := by subst hk; exact h
theorem cPth_up {lk : Nat → Nat → Nat} {K B : Nat → Nat} {n s : Nat} {R : Nat → Nat} {i v : Nat} : ∀ {k left : Nat}, k ≤ i → cPth lk K B n s R k left → cPth lk K B n s (va_up R i v) k left := by
  intro k
  induction k with
  | zero => intro left _ h; exact h
  | succ k ih =>
    intro left hk h
    obtain ⟨r0, h1, h2, h3, h4⟩ := h
    have e1 : va_up R i v k = R k := by unfold va_up; rw [if_neg (by omega)]
    have e2 : va_up R i v (k - 1) = R (k - 1) := by unfold va_up; rw [if_neg (by omega)]
    exact ⟨r0, ih (by omega) h1, h2, by rw [e1, e2]; exact h3, by rw [e1]; exact h4⟩
theorem cSel_up {lk : Nat → Nat → Nat} {K B : Nat → Nat} {n s k left : Nat} {R : Nat → Nat} {a v : Nat} (h : cSel lk K B n s k left (R (k - 1)) a) : cSel lk K B n s k left (va_up R k v (k - 1)) a := by
  by_cases hk : k = 0
  · subst hk
    obtain ⟨h1, h2, h3, h4⟩ := h
    exact ⟨h1, h2, h3, h4⟩
  · have e : va_up R k v (k - 1) = R (k - 1) := by unfold va_up; rw [if_neg (by omega)]
    rw [e]; exact h
/-- there is a step that keeps to the least -/
theorem cEx {ln : Nat → Nat} {lk : Nat → Nat → Nat} {K B : Nat → Nat} {n s k left prev : Nat} (hn : n ≤ 9) (hlk : ∀ a b, lk a b ≤ 405630) (hK : ∀ j, K j ≤ 5000000) (hT : cT ln lk K B (2 ^ n)) (hl : left < 2 ^ n) (h0 : ¬ left = 0) (hk0 : k = 0 → left = s) : ∃ a, a < 2 * n ∧ ¬ sx_bit left (a / 2) = 0 ∧ cCand lk K k left prev a = cTgt lk K B s k left prev := by
  have hp9 := sx_p9 hn
  have hb : ∃ i, i < n ∧ ¬ sx_bit left i = 0 := by
    rcases Classical.em (∃ i, i < n ∧ ¬ sx_bit left i = 0) with q | q
    · exact q
    · exfalso; apply h0; apply sx_pc_z0 left (by omega)
      have h2 : ∀ i, i < 9 → sx_bit left i = 0 := fun i hi9 => by
        rcases Nat.eq_zero_or_pos (sx_bit left i) with h3 | h3
        · exact h3
        · exact absurd ⟨i, sx_bitn0 n (by omega) left hl i hi9 (by omega), by omega⟩ q
      unfold sx_pc; simp only [sx_sum]; rw [h2 0, h2 1, h2 2, h2 3, h2 4, h2 5, h2 6, h2 7, h2 8] <;> decide
  obtain ⟨i, hi, hbi⟩ := hb
  have hbi' : ¬ sx_bit left (2 * i / 2) = 0 := by rw [Nat.mul_div_cancel_left i (by decide)]; exact hbi
  by_cases hk : k = 0
  · have hls := hk0 hk
    subst hls
    have ht : cTgt lk K B left k left prev = cBs K left (2 * n) := by unfold cTgt; rw [if_pos hk, (hT left (by omega) hl).2]; unfold cBs; rw [sx_mn_18 hn hl]
    have h1 : cBs K left (2 * n) ≤ K (18 * left + 2 * i) := sx_mn_lb (b := 2 * i) (by omega) hbi'
    have h2 := hK (18 * left + 2 * i)
    have hlt : cBs K left (2 * n) < sx_MX := Nat.lt_of_le_of_lt (Nat.le_trans h1 h2) (by decide)
    obtain ⟨a, ha, hb2, hc⟩ := sx_mn_at hlt
    exact ⟨a, ha, hb2, by rw [ht]; unfold cCand; rw [if_pos hk]; exact hc⟩
  · have ht : cTgt lk K B s k left prev = cBv lk K left prev (2 * n) := by unfold cTgt; rw [if_neg hk]; unfold cLB cBv; rw [if_neg h0, sx_mn_18 hn hl]
    have h1 : cBv lk K left prev (2 * n) ≤ lk prev (2 * i) + K (18 * left + 2 * i) := sx_mn_lb (b := 2 * i) (by omega) hbi'
    have h2 := hK (18 * left + 2 * i)
    have h3 := hlk prev (2 * i)
    have hlt : cBv lk K left prev (2 * n) < sx_MX := Nat.lt_of_le_of_lt h1 (Nat.lt_of_le_of_lt (Nat.add_le_add h3 h2) (by decide))
    obtain ⟨a, ha, hb2, hc⟩ := sx_mn_at hlt
    exact ⟨a, ha, hb2, by rw [ht]; unfold cCand; rw [if_neg hk]; exact hc⟩
theorem cTgt_le {ln : Nat → Nat} {lk : Nat → Nat → Nat} {K B : Nat → Nat} {n s k left prev : Nat} (hlk : ∀ a b, lk a b ≤ 405630) (hK : ∀ j, K j ≤ 5000000) (h : ∃ a, a < 2 * n ∧ ¬ sx_bit left (a / 2) = 0 ∧ cCand lk K k left prev a = cTgt lk K B s k left prev) : cTgt lk K B s k left prev ≤ 5405630 := by
  obtain ⟨a, -, -, h1⟩ := h
  rw [← h1]
  have h2 := hK (18 * left + a)
  have h3 := hlk prev a
  unfold cCand; split <;> omega
/-- what a step may cost, where one is due; the step before, as the class holds it -/
def cDue (lk : Nat → Nat → Nat) (K B : Nat → Nat) (s k left prev due : Nat) : Prop := ¬ left = 0 → due = cTgt lk K B s k left prev
def cBf (W : Nat → Nat) (k : Nat) (bf : Int32) : Prop := (k = 0 → bf = -1) ∧ (¬ k = 0 → bf = nI (W (k - 1)))
theorem i_X4_firstStep_4 : ∀ w ∈ u_ws RX4 TX4 7, w ∈ wsX4_firstStep := by decide +kernel
theorem m_X4_firstStep_f9 : Cond.fieldLink RX4 9 (TX4 0).1 (TX4 0).2.1 (TX4 0).2.2.1 ∈ wsX4_firstStep := by decide +kernel
theorem m_X4_firstStep_l65 : Cond.methodLinkNest RX4 65 yX7_bitOf "TubeShop" ∈ sx_nest := by decide +kernel
theorem m_X4_firstStep_s65 : Cond.static yX7_bitOf ∈ wsX4_firstStep ∧ Cond.initialized yX7_bitOf.cls ∈ wsX4_firstStep := by decide +kernel
theorem m_X4_firstStep_f22 : Cond.fieldLink RX4 22 (TX4 3).1 (TX4 3).2.1 (TX4 3).2.2.1 ∈ wsX4_firstStep := by decide +kernel
set_option maxHeartbeats 4000000 in
set_option maxRecDepth 100000 in
theorem c_X4_firstStep_0 (l : Launch) (X : sx_X) (ad : Nat → Nat) (sc : Nat → Int32) (av : Nat → Nat → Nat) (n : Nat) (hn : n ≤ 9) (h2 : sc 2 = nI (2 * n)) (lk : Nat → Nat → Nat) (hlk : ∀ f, f < 2 * n → ∀ t, t < 2 * n → av 14 (18 * f + t) = lk f t) (hl9 : ∀ f t, lk f t ≤ 405630) (hb14 : ∀ j, av 14 j ≤ 405630) (hb15 : ∀ j, av 15 j ≤ 5000000) (left due : Nat) (hl : left < 2 ^ n) (hd : due ≤ 5405630) (hex : ∃ a, a < 2 * n ∧ ¬ sx_bit left (a / 2) = 0 ∧ av 15 (18 * left + a) = due) : sx_Mi l yX4_firstStep wsX4_firstStep { frames := 1, cells := 0, slots := 0, locals := 20 } X [.ref (ad 3), .int (-1), .int (nI left), .int (nI due)] (sw X ad sc av) (fun r w => ∃ a, r = nI a ∧ w = sw X ad sc av ∧ a < 2 * n ∧ ¬ sx_bit left (a / 2) = 0 ∧ av 15 (18 * left + a) = due ∧ ∀ b, b < a → ¬ sx_bit left (b / 2) = 0 → ¬ av 15 (18 * left + b) = due) 0 0 := by
  refine sx_entI (own := RX4) (nL := 6) (by decide +kernel) rfl rfl (Nat.le_of_ble_eq_true rfl) ?_
  intro G hG hN hret
  show sx_W l X G 0 0 0 [(0, .ref (ad 3)), (1, .int (-1)), (2, .int (nI left)), (3, .int (nI due))] [] (sw X ad sc av)
  have hp9 := sx_p9 hn
  have loop_t : ∀ (fuel : Nat), ∀ (t : Nat), (t ≤ 2 * n) → (∀ b, b < t → ¬ sx_bit left (b / 2) = 0 → ¬ av 15 (18 * left + b) = due) → 2 * n - t < fuel → sx_W l X G 0 0 3 [(0, .ref (ad 3)), (1, .int (-1)), (2, .int (nI left)), (3, .int (nI due)), (4, .int (nI t))] [] (sw X ad sc av) := by
    intro fuel
    induction fuel with
    | zero => intro t ht hnx hm; exact absurd hm (Nat.not_lt_zero _)
    | succ fuel ih_t =>
      intro t ht hnx hm_t
      have hale := Nat.and_le_left (n := left) (m := 2 ^ (t / 2))
      have hab := fun h => sx_ab0 left (by omega) (t / 2) h
      have hpt := sx_p9 (k := t / 2) (by omega)
      have k3 := hb15 (left * 18 + t)
      have e18 : 18 * left + t = left * 18 + t := by omega
      refine sx_iload (pc := 3) hG dX4_firstStep_3 4 rfl ?_
      refine sx_aload_n (pc := 5) hG dX4_firstStep_5 rfl 0 rfl ?_
      refine sx_get (pc := 6) (v2 := .int (nI (2 * n))) (ci := 4) hG i_X4_firstStep_4 0 m_X4_firstStep_f9 dX4_firstStep_6 rfl (by decide) 3 rfl rfl (congrArg Value.int h2) ?_
      refine sx_icmp_ge (pc := 9) (tgt := 73) (B := (2 * n) ≤ t) hG dX4_firstStep_9 (by decide) (nI_leI (by omega) (by omega)) (fun c9 => ?_) (fun c9 => ?_)
      · skip
        (obtain ⟨a0, p1, p2, p3⟩ := hex; exact absurd p3 (hnx a0 (by omega) p2))
      · skip
        refine sx_iload_n (pc := 12) hG dX4_firstStep_12 rfl 2 rfl ?_
        refine sx_iload (pc := 13) hG dX4_firstStep_13 4 rfl ?_
        refine sx_callSNiw (pc := 15) (n9 := 1) (As := [.int (nI t)]) (st := [.int (nI left)]) hG (c_X7_bitOf l X (sw X ad sc av) t (by omega)) gX4_firstStep_X7_bitOf_n65 rfl m_X4_firstStep_l65 m_X4_firstStep_s65 (by decide +kernel) rfl dX4_firstStep_15 ⟨rfl, rfl⟩ ⟨Nat.le_of_ble_eq_true rfl, Nat.le_of_ble_eq_true rfl⟩ (Nat.le_of_ble_eq_true rfl) ⟨Nat.le_of_ble_eq_true rfl, Nat.le_of_ble_eq_true rfl⟩ (fun r w1 hp => ?_)
        obtain ⟨hr9, hw9⟩ := hp
        have hr9 : r = (nI (2 ^ (t / 2))) := hr9
        subst hr9
        refine sx_weq hw9 ?_
        refine sx_iand (pc := 18) (v := (nI (left &&& (2 ^ (t / 2))))) hG dX4_firstStep_18 (sx_and (by omega) (sx_p2 (by omega))) ?_
        refine sx_if_eq (pc := 19) (tgt := 67) (B := (left &&& (2 ^ (t / 2))) = 0) hG dX4_firstStep_19 (by decide) (sx_eq0 (by omega)) (fun c19 => ?_) (fun c19 => ?_)
        · skip
          refine sx_iinc (pc := 67) (v := (nI (t + 1))) (lv2 := [(0, .ref (ad 3)), (1, .int (-1)), (2, .int (nI left)), (3, .int (nI due)), (4, .int (nI (t + 1)))]) hG [1, 2, 3, 4, 0] dX4_firstStep_67 4 rfl (sx_inc t) hN (by decide) rfl ?_
          refine sx_goto (pc := 70) (tgt := 3) hG dX4_firstStep_70 (by decide) ?_
          refine ih_t (t + 1) (by omega) (fun b hb hbt => by rcases Nat.lt_or_ge b t with h | h; exact hnx b h hbt; (have e : b = t := (by omega); subst e; exact absurd ((hab (by omega)).mp c19) hbt)) (by omega)
        · skip
          refine sx_iload_n (pc := 22) hG dX4_firstStep_22 rfl 1 rfl ?_
          refine sx_iconst (pc := 23) (v := (-1)) hG dX4_firstStep_23 (by decide +kernel) ?_
          refine sx_icmp_ne (pc := 24) (tgt := 31) (B := True) hG dX4_firstStep_24 (by decide) (iff_of_true rfl trivial) (fun c24 => ?_) (fun c24 => ?_)
          · skip
            exact absurd (by decide) c24
          · skip
            refine sx_iconst (pc := 27) (v := nI 0) hG dX4_firstStep_27 (by decide +kernel) ?_
            refine sx_goto (pc := 28) (tgt := 43) hG dX4_firstStep_28 (by decide) ?_
            refine sx_istore (pc := 43) (lv2 := [(0, .ref (ad 3)), (1, .int (-1)), (2, .int (nI left)), (3, .int (nI due)), (4, .int (nI t)), (5, .int (nI 0))]) hG [1, 2, 3, 4, 5, 0] dX4_firstStep_43 hN (by decide) rfl ?_
            refine sx_iload (pc := 45) hG dX4_firstStep_45 5 rfl ?_
            refine sx_aload_n (pc := 47) hG dX4_firstStep_47 rfl 0 rfl ?_
            refine sx_get (pc := 48) (v2 := .ref (ad 15)) (ci := 4) hG i_X4_firstStep_4 3 m_X4_firstStep_f22 dX4_firstStep_48 rfl (by decide) 3 rfl rfl rfl ?_
            refine sx_iload_n (pc := 51) hG dX4_firstStep_51 rfl 2 rfl ?_
            refine sx_bipush (pc := 52) (v := nI 18) hG dX4_firstStep_52 (by decide +kernel) ?_
            refine sx_imul (pc := 54) (v := (nI (left * 18))) hG dX4_firstStep_54 (pk_mul left 18) ?_
            refine sx_iload (pc := 55) hG dX4_firstStep_55 4 rfl ?_
            refine sx_iadd (pc := 57) (v := (nI (left * 18 + t))) hG dX4_firstStep_57 (nI_add (left * 18) t) ?_
            refine sx_iald (pc := 58) (v := nI ((av 15) (left * 18 + t))) hG 15 dX4_firstStep_58 rfl (by decide) (by omega) rfl ?_
            refine sx_iadd (pc := 59) (v := (nI (0 + ((av 15) (left * 18 + t))))) hG dX4_firstStep_59 (nI_add 0 ((av 15) (left * 18 + t))) ?_
            refine sx_iload_n (pc := 60) hG dX4_firstStep_60 rfl 3 rfl ?_
            refine sx_icmp_ne (pc := 61) (tgt := 67) (B := (0 + ((av 15) (left * 18 + t))) = due) hG dX4_firstStep_61 (by decide) (nI_eq (by omega) (by omega)) (fun c61 => ?_) (fun c61 => ?_)
            · skip
              refine sx_iinc (pc := 67) (v := (nI (t + 1))) (lv2 := [(0, .ref (ad 3)), (1, .int (-1)), (2, .int (nI left)), (3, .int (nI due)), (4, .int (nI (t + 1))), (5, .int (nI 0))]) hG [1, 2, 3, 4, 0, 5] dX4_firstStep_67 4 rfl (sx_inc t) hN (by decide) rfl ?_
              refine sx_goto (pc := 70) (tgt := 3) hG dX4_firstStep_70 (by decide) ?_
              refine sx_lsub [0, 1, 2, 3, 4] rfl ?_
              refine ih_t (t + 1) (by omega) (fun b hb hbt => by rcases Nat.lt_or_ge b t with h | h; exact hnx b h hbt; (have e : b = t := (by omega); subst e; rw [e18]; omega)) (by omega)
            · skip
              refine sx_iload (pc := 64) hG dX4_firstStep_64 4 rfl ?_
              exact hret _ _ _ _ dX4_firstStep_66 rfl ⟨t, rfl, rfl, by omega, fun h => c19 ((hab (by omega)).mpr h), by rw [e18]; omega, hnx⟩
  refine sx_iconst (pc := 0) (v := nI 0) hG dX4_firstStep_0 (by decide +kernel) ?_
  refine sx_istore (pc := 1) (lv2 := [(0, .ref (ad 3)), (1, .int (-1)), (2, .int (nI left)), (3, .int (nI due)), (4, .int (nI 0))]) hG [1, 2, 3, 4, 0] dX4_firstStep_1 hN (by decide) rfl ?_
  refine loop_t _ 0 (Nat.zero_le _) (fun b h => absurd h (Nat.not_lt_zero _)) (Nat.lt_succ_self _)

theorem m_X4_firstStep_f19 : Cond.fieldLink RX4 19 (TX4 2).1 (TX4 2).2.1 (TX4 2).2.2.1 ∈ wsX4_firstStep := by decide +kernel
set_option maxHeartbeats 4000000 in
set_option maxRecDepth 100000 in
theorem c_X4_firstStep_1 (l : Launch) (X : sx_X) (ad : Nat → Nat) (sc : Nat → Int32) (av : Nat → Nat → Nat) (n : Nat) (hn : n ≤ 9) (h2 : sc 2 = nI (2 * n)) (lk : Nat → Nat → Nat) (hlk : ∀ f, f < 2 * n → ∀ t, t < 2 * n → av 14 (18 * f + t) = lk f t) (hl9 : ∀ f t, lk f t ≤ 405630) (hb14 : ∀ j, av 14 j ≤ 405630) (hb15 : ∀ j, av 15 j ≤ 5000000) (left due : Nat) (hl : left < 2 ^ n) (hd : due ≤ 5405630) (prev : Nat) (hpv : prev < 2 * n) (hex : ∃ a, a < 2 * n ∧ ¬ sx_bit left (a / 2) = 0 ∧ lk prev a + av 15 (18 * left + a) = due) : sx_Mi l yX4_firstStep wsX4_firstStep { frames := 1, cells := 0, slots := 0, locals := 20 } X [.ref (ad 3), .int (nI prev), .int (nI left), .int (nI due)] (sw X ad sc av) (fun r w => ∃ a, r = nI a ∧ w = sw X ad sc av ∧ a < 2 * n ∧ ¬ sx_bit left (a / 2) = 0 ∧ lk prev a + av 15 (18 * left + a) = due ∧ ∀ b, b < a → ¬ sx_bit left (b / 2) = 0 → ¬ lk prev b + av 15 (18 * left + b) = due) 0 0 := by
  refine sx_entI (own := RX4) (nL := 6) (by decide +kernel) rfl rfl (Nat.le_of_ble_eq_true rfl) ?_
  intro G hG hN hret
  show sx_W l X G 0 0 0 [(0, .ref (ad 3)), (1, .int (nI prev)), (2, .int (nI left)), (3, .int (nI due))] [] (sw X ad sc av)
  have hp9 := sx_p9 hn
  have loop_t : ∀ (fuel : Nat), ∀ (t : Nat), (t ≤ 2 * n) → (∀ b, b < t → ¬ sx_bit left (b / 2) = 0 → ¬ lk prev b + av 15 (18 * left + b) = due) → 2 * n - t < fuel → sx_W l X G 0 0 3 [(0, .ref (ad 3)), (1, .int (nI prev)), (2, .int (nI left)), (3, .int (nI due)), (4, .int (nI t))] [] (sw X ad sc av) := by
    intro fuel
    induction fuel with
    | zero => intro t ht hnx hm; exact absurd hm (Nat.not_lt_zero _)
    | succ fuel ih_t =>
      intro t ht hnx hm_t
      have hale := Nat.and_le_left (n := left) (m := 2 ^ (t / 2))
      have hab := fun h => sx_ab0 left (by omega) (t / 2) h
      have hpt := sx_p9 (k := t / 2) (by omega)
      have k3 := hb15 (left * 18 + t)
      have e18 : 18 * left + t = left * 18 + t := by omega
      have k1 := hb14 (prev * 18 + t)
      have e19 : t < 2 * n → av 14 (prev * 18 + t) = lk prev t := fun h => by rw [← hlk prev hpv t h, show 18 * prev + t = prev * 18 + t by omega]
      refine sx_iload (pc := 3) hG dX4_firstStep_3 4 rfl ?_
      refine sx_aload_n (pc := 5) hG dX4_firstStep_5 rfl 0 rfl ?_
      refine sx_get (pc := 6) (v2 := .int (nI (2 * n))) (ci := 4) hG i_X4_firstStep_4 0 m_X4_firstStep_f9 dX4_firstStep_6 rfl (by decide) 3 rfl rfl (congrArg Value.int h2) ?_
      refine sx_icmp_ge (pc := 9) (tgt := 73) (B := (2 * n) ≤ t) hG dX4_firstStep_9 (by decide) (nI_leI (by omega) (by omega)) (fun c9 => ?_) (fun c9 => ?_)
      · skip
        (obtain ⟨a0, p1, p2, p3⟩ := hex; exact absurd p3 (hnx a0 (by omega) p2))
      · skip
        refine sx_iload_n (pc := 12) hG dX4_firstStep_12 rfl 2 rfl ?_
        refine sx_iload (pc := 13) hG dX4_firstStep_13 4 rfl ?_
        refine sx_callSNiw (pc := 15) (n9 := 1) (As := [.int (nI t)]) (st := [.int (nI left)]) hG (c_X7_bitOf l X (sw X ad sc av) t (by omega)) gX4_firstStep_X7_bitOf_n65 rfl m_X4_firstStep_l65 m_X4_firstStep_s65 (by decide +kernel) rfl dX4_firstStep_15 ⟨rfl, rfl⟩ ⟨Nat.le_of_ble_eq_true rfl, Nat.le_of_ble_eq_true rfl⟩ (Nat.le_of_ble_eq_true rfl) ⟨Nat.le_of_ble_eq_true rfl, Nat.le_of_ble_eq_true rfl⟩ (fun r w1 hp => ?_)
        obtain ⟨hr9, hw9⟩ := hp
        have hr9 : r = (nI (2 ^ (t / 2))) := hr9
        subst hr9
        refine sx_weq hw9 ?_
        refine sx_iand (pc := 18) (v := (nI (left &&& (2 ^ (t / 2))))) hG dX4_firstStep_18 (sx_and (by omega) (sx_p2 (by omega))) ?_
        refine sx_if_eq (pc := 19) (tgt := 67) (B := (left &&& (2 ^ (t / 2))) = 0) hG dX4_firstStep_19 (by decide) (sx_eq0 (by omega)) (fun c19 => ?_) (fun c19 => ?_)
        · skip
          refine sx_iinc (pc := 67) (v := (nI (t + 1))) (lv2 := [(0, .ref (ad 3)), (1, .int (nI prev)), (2, .int (nI left)), (3, .int (nI due)), (4, .int (nI (t + 1)))]) hG [1, 2, 3, 4, 0] dX4_firstStep_67 4 rfl (sx_inc t) hN (by decide) rfl ?_
          refine sx_goto (pc := 70) (tgt := 3) hG dX4_firstStep_70 (by decide) ?_
          refine ih_t (t + 1) (by omega) (fun b hb hbt => by rcases Nat.lt_or_ge b t with h | h; exact hnx b h hbt; (have e : b = t := (by omega); subst e; exact absurd ((hab (by omega)).mp c19) hbt)) (by omega)
        · skip
          refine sx_iload_n (pc := 22) hG dX4_firstStep_22 rfl 1 rfl ?_
          refine sx_iconst (pc := 23) (v := (-1)) hG dX4_firstStep_23 (by decide +kernel) ?_
          refine sx_icmp_ne (pc := 24) (tgt := 31) (B := False) hG dX4_firstStep_24 (by decide) (sx_eqm1 (by omega)) (fun c24 => ?_) (fun c24 => ?_)
          · skip
            refine sx_aload_n (pc := 31) hG dX4_firstStep_31 rfl 0 rfl ?_
            refine sx_get (pc := 32) (v2 := .ref (ad 14)) (ci := 4) hG i_X4_firstStep_4 2 m_X4_firstStep_f19 dX4_firstStep_32 rfl (by decide) 3 rfl rfl rfl ?_
            refine sx_iload_n (pc := 35) hG dX4_firstStep_35 rfl 1 rfl ?_
            refine sx_bipush (pc := 36) (v := nI 18) hG dX4_firstStep_36 (by decide +kernel) ?_
            refine sx_imul (pc := 38) (v := (nI (prev * 18))) hG dX4_firstStep_38 (pk_mul prev 18) ?_
            refine sx_iload (pc := 39) hG dX4_firstStep_39 4 rfl ?_
            refine sx_iadd (pc := 41) (v := (nI (prev * 18 + t))) hG dX4_firstStep_41 (nI_add (prev * 18) t) ?_
            refine sx_iald (pc := 42) (v := nI ((av 14) (prev * 18 + t))) hG 14 dX4_firstStep_42 rfl (by decide) (by omega) rfl ?_
            refine sx_istore (pc := 43) (lv2 := [(0, .ref (ad 3)), (1, .int (nI prev)), (2, .int (nI left)), (3, .int (nI due)), (4, .int (nI t)), (5, .int (nI ((av 14) (prev * 18 + t))))]) hG [1, 2, 3, 4, 5, 0] dX4_firstStep_43 hN (by decide) rfl ?_
            refine sx_iload (pc := 45) hG dX4_firstStep_45 5 rfl ?_
            refine sx_aload_n (pc := 47) hG dX4_firstStep_47 rfl 0 rfl ?_
            refine sx_get (pc := 48) (v2 := .ref (ad 15)) (ci := 4) hG i_X4_firstStep_4 3 m_X4_firstStep_f22 dX4_firstStep_48 rfl (by decide) 3 rfl rfl rfl ?_
            refine sx_iload_n (pc := 51) hG dX4_firstStep_51 rfl 2 rfl ?_
            refine sx_bipush (pc := 52) (v := nI 18) hG dX4_firstStep_52 (by decide +kernel) ?_
            refine sx_imul (pc := 54) (v := (nI (left * 18))) hG dX4_firstStep_54 (pk_mul left 18) ?_
            refine sx_iload (pc := 55) hG dX4_firstStep_55 4 rfl ?_
            refine sx_iadd (pc := 57) (v := (nI (left * 18 + t))) hG dX4_firstStep_57 (nI_add (left * 18) t) ?_
            refine sx_iald (pc := 58) (v := nI ((av 15) (left * 18 + t))) hG 15 dX4_firstStep_58 rfl (by decide) (by omega) rfl ?_
            refine sx_iadd (pc := 59) (v := (nI ((av 14) (prev * 18 + t) + ((av 15) (left * 18 + t))))) hG dX4_firstStep_59 (nI_add ((av 14) (prev * 18 + t)) ((av 15) (left * 18 + t))) ?_
            refine sx_iload_n (pc := 60) hG dX4_firstStep_60 rfl 3 rfl ?_
            refine sx_icmp_ne (pc := 61) (tgt := 67) (B := ((av 14) (prev * 18 + t) + ((av 15) (left * 18 + t))) = due) hG dX4_firstStep_61 (by decide) (nI_eq (by omega) (by omega)) (fun c61 => ?_) (fun c61 => ?_)
            · skip
              refine sx_iinc (pc := 67) (v := (nI (t + 1))) (lv2 := [(0, .ref (ad 3)), (1, .int (nI prev)), (2, .int (nI left)), (3, .int (nI due)), (4, .int (nI (t + 1))), (5, .int (nI ((av 14) (prev * 18 + t))))]) hG [1, 2, 3, 4, 0, 5] dX4_firstStep_67 4 rfl (sx_inc t) hN (by decide) rfl ?_
              refine sx_goto (pc := 70) (tgt := 3) hG dX4_firstStep_70 (by decide) ?_
              refine sx_lsub [0, 1, 2, 3, 4] rfl ?_
              refine ih_t (t + 1) (by omega) (fun b hb hbt => by rcases Nat.lt_or_ge b t with h | h; exact hnx b h hbt; (have e : b = t := (by omega); subst e; rw [e18, ← e19 (by omega)]; omega)) (by omega)
            · skip
              refine sx_iload (pc := 64) hG dX4_firstStep_64 4 rfl ?_
              exact hret _ _ _ _ dX4_firstStep_66 rfl ⟨t, rfl, rfl, by omega, fun h => c19 ((hab (by omega)).mpr h), by rw [e18, ← e19 (by omega)]; omega, hnx⟩
          · skip
            exact absurd c24 (by decide)
  refine sx_iconst (pc := 0) (v := nI 0) hG dX4_firstStep_0 (by decide +kernel) ?_
  refine sx_istore (pc := 1) (lv2 := [(0, .ref (ad 3)), (1, .int (nI prev)), (2, .int (nI left)), (3, .int (nI due)), (4, .int (nI 0))]) hG [1, 2, 3, 4, 0] dX4_firstStep_1 hN (by decide) rfl ?_
  refine loop_t _ 0 (Nat.zero_le _) (fun b h => absurd h (Nat.not_lt_zero _)) (Nat.lt_succ_self _)

theorem i_X4_trace_4 : ∀ w ∈ u_ws RX4 TX4 7, w ∈ wsX4_trace := by decide +kernel
theorem m_X4_trace_f22 : Cond.fieldLink RX4 22 (TX4 3).1 (TX4 3).2.1 (TX4 3).2.2.1 ∈ wsX4_trace := by decide +kernel
theorem m_X4_trace_f15 : Cond.fieldLink RX4 15 (TX4 1).1 (TX4 1).2.1 (TX4 1).2.2.1 ∈ wsX4_trace := by decide +kernel
theorem m_X4_trace_l65 : Cond.methodLinkNest RX4 65 yX7_bitOf "TubeShop" ∈ sx_nest := by decide +kernel
theorem m_X4_trace_s65 : Cond.static yX7_bitOf ∈ wsX4_trace ∧ Cond.initialized yX7_bitOf.cls ∈ wsX4_trace := by decide +kernel
theorem m_X4_trace_f28 : Cond.fieldLink RX4 28 (TX4 5).1 (TX4 5).2.1 (TX4 5).2.2.1 ∈ wsX4_trace := by decide +kernel
theorem m_X4_trace_f25 : Cond.fieldLink RX4 25 (TX4 4).1 (TX4 4).2.1 (TX4 4).2.2.1 ∈ wsX4_trace := by decide +kernel
set_option maxHeartbeats 4000000 in
set_option maxRecDepth 100000 in
theorem c_X4_trace (l : Launch) (X : sx_X) (ad : Nat → Nat) (sc : Nat → Int32) (av : Nat → Nat → Nat) (n : Nat) (hn : n ≤ 9) (h2 : sc 2 = nI (2 * n)) (ln : Nat → Nat) (hln : ∀ i, i < n → av 13 i = ln i) (hl1 : ∀ i, ln i ≤ 126) (lk : Nat → Nat → Nat) (hlk : ∀ f, f < 2 * n → ∀ t, t < 2 * n → av 14 (18 * f + t) = lk f t) (hl9 : ∀ f t, lk f t ≤ 405630) (hb14 : ∀ j, av 14 j ≤ 405630) (hb15 : ∀ j, av 15 j ≤ 5000000) (hT : cT ln lk (av 15) (av 16) (2 ^ n)) (hW0 : ∀ j, av 17 j < 18) (s : Nat) (hs1 : 1 ≤ s) (hs : s < 2 ^ n) : sx_Mi l yX4_trace wsX4_trace { frames := 2, cells := 0, slots := 0, locals := 45 } X [.ref (ad 3), .int (nI s)] (sw X ad sc av) (fun r w => ∃ Wy : Nat → Nat, r = nI (sx_pc s) ∧ w = sw X ad sc (va_up av 17 Wy) ∧ (∀ j, Wy j < 18) ∧ cPth lk (av 15) (av 16) n s Wy (sx_pc s) 0) 0 0 := by
  refine sx_entI (own := RX4) (nL := 7) (by decide +kernel) rfl rfl (Nat.le_of_ble_eq_true rfl) ?_
  intro G hG hN hret
  show sx_W l X G 0 0 0 [(0, .ref (ad 3)), (1, .int (nI s))] [] (sw X ad sc av)
  have hp9 := sx_p9 hn
  have hpc := sx_pc_n0 n (by omega) s hs
  have loop_k : ∀ (fuel : Nat), ∀ (k left due : Nat) (bf : Int32) (Wy : Nat → Nat), (left < 2 ^ n) → (k + sx_pc left = sx_pc s) → (cDue lk (av 15) (av 16) s k left (Wy (k - 1)) due) → (cBf Wy k bf) → (cPth lk (av 15) (av 16) n s Wy k left) → (∀ j, Wy j < 18) → 9 - k < fuel → sx_W l X G 0 0 15 [(0, .ref (ad 3)), (1, .int (nI s)), (2, .int (nI left)), (3, .int (nI due)), (4, .int bf), (5, .int (nI k))] [] (sw X ad sc (va_up av 17 Wy)) := by
    intro fuel
    induction fuel with
    | zero => intro k left due bf Wy hl hk hdue hbf hpth hW hm; exact absurd hm (Nat.not_lt_zero _)
    | succ fuel ih_k =>
      intro k left due bf Wy hl hk hdue hbf hpth hW hm_k
      have hkl := sx_pc_n0 n (by omega) left hl
      have hez := sx_pc_zero
      have hz0 := sx_pc_z0 left (by omega)
      refine sx_iload (pc := 15) hG dX4_trace_15 5 rfl ?_
      refine sx_bipush (pc := 17) (v := nI 9) hG dX4_trace_17 (by decide +kernel) ?_
      refine sx_icmp_ge (pc := 19) (tgt := 99) (B := 9 ≤ k) hG dX4_trace_19 (by decide) (nI_leI (by omega) (by omega)) (fun c19 => ?_) (fun c19 => ?_)
      · skip
        refine sx_bipush (pc := 99) (v := nI 9) hG dX4_trace_99 (by decide +kernel) ?_
        have hlz : left = 0 := hz0 (by omega)
        subst hlz
        have hkk : k = sx_pc s := by omega
        have h9 : sx_pc s = 9 := by omega
        exact hret _ _ _ _ dX4_trace_101 rfl ⟨Wy, by rw [h9], rfl, hW, by rw [hkk] at hpth; exact hpth⟩
      · skip
        refine sx_iload_n (pc := 22) hG dX4_trace_22 rfl 2 rfl ?_
        refine sx_if_ne (pc := 23) (tgt := 30) (B := left = 0) hG dX4_trace_23 (by decide) (sx_eq0 (by omega)) (fun c23 => ?_) (fun c23 => ?_)
        · skip
          have hdue := hdue c23
          have hex := cEx (prev := Wy (k - 1)) hn hl9 hb15 hT hl c23 (cPth_0 hpth)
          by_cases hk0 : k = 0
          · skip
            have hbf0 := hbf.1 hk0
            subst hbf0
            refine sx_aload_n (pc := 30) hG dX4_trace_30 rfl 0 rfl ?_
            refine sx_iload (pc := 31) hG dX4_trace_31 4 rfl ?_
            refine sx_iload_n (pc := 33) hG dX4_trace_33 rfl 2 rfl ?_
            refine sx_iload_n (pc := 34) hG dX4_trace_34 rfl 3 rfl ?_
            refine sx_callViw (pc := 35) (n9 := 3) (As := [.int (-1), .int (nI left), .int (nI due)]) (st := []) (b := (ad 3)) (ci := 4) hG (c_X4_firstStep_0 l X ad sc (va_up av 17 Wy) n hn h2 lk hlk hl9 hb14 hb15 left due hl (by rw [hdue]; exact cTgt_le (ln := ln) hl9 hb15 hex) (by obtain ⟨a, p1, p2, p3⟩ := hex; exact ⟨a, p1, p2, by rw [hdue, ← p3]; unfold cCand; rw [if_pos hk0] <;> rfl⟩)) gX4_trace_X4_firstStep rfl (by decide +kernel) rfl 3 rfl rfl rfl dX4_trace_35 ⟨rfl, rfl⟩ ⟨Nat.le_of_ble_eq_true rfl, Nat.le_of_ble_eq_true rfl⟩ (Nat.le_of_ble_eq_true rfl) ⟨Nat.le_of_ble_eq_true rfl, Nat.le_of_ble_eq_true rfl⟩ (fun r w1 hp => ?_)
            obtain ⟨a, hr9, hw9, a1, a2, a3, a4⟩ := hp
            subst hr9
            refine sx_weq hw9 ?_
            have hsel : cSel lk (av 15) (av 16) n s k left (Wy (k - 1)) a := ⟨a1, a2, by rw [← hdue, ← a3]; unfold cCand; rw [if_pos hk0] <;> rfl, fun b h1 h2 => by rw [← hdue]; unfold cCand; rw [if_pos hk0]; exact a4 b h1 h2⟩
            refine sx_istore (pc := 38) (lv2 := [(0, .ref (ad 3)), (1, .int (nI s)), (2, .int (nI left)), (3, .int (nI due)), (4, .int (-1)), (5, .int (nI k)), (6, .int (nI a))]) hG [1, 2, 3, 4, 5, 6, 0] dX4_trace_38 hN (by decide) rfl ?_
            refine sx_iload (pc := 40) hG dX4_trace_40 6 rfl ?_
            refine sx_iconst (pc := 42) (v := (-1)) hG dX4_trace_42 (by decide +kernel) ?_
            refine sx_icmp_ne (pc := 43) (tgt := 49) (B := False) hG dX4_trace_43 (by decide) (sx_eqm1 (by omega)) (fun c43 => ?_) (fun c43 => ?_)
            · skip
              obtain ⟨s1, s2, -, -⟩ := id hsel
              have hdl := sx_dlt (s := left) (k := a / 2) (by omega) (by omega) s2
              have hpd := sx_pc_d0 left (by omega) (a / 2) (by omega) s2
              have hrow := ((hT left (by omega) hl).1 a (by omega) s2)
              have hle := hln (a / 2) (by omega)
              have hc19 : ¬ left &&& 2 ^ (a / 2) = 0 := fun h => s2 ((sx_ab0 left (by omega) (a / 2) (by omega)).mp h)
              refine sx_aload_n (pc := 49) hG dX4_trace_49 rfl 0 rfl ?_
              refine sx_get (pc := 50) (v2 := .ref (ad 15)) (ci := 4) hG i_X4_trace_4 3 m_X4_trace_f22 dX4_trace_50 rfl (by decide) 3 rfl rfl rfl ?_
              refine sx_iload_n (pc := 53) hG dX4_trace_53 rfl 2 rfl ?_
              refine sx_bipush (pc := 54) (v := nI 18) hG dX4_trace_54 (by decide +kernel) ?_
              refine sx_imul (pc := 56) (v := (nI (left * 18))) hG dX4_trace_56 (pk_mul left 18) ?_
              refine sx_iload (pc := 57) hG dX4_trace_57 6 rfl ?_
              refine sx_iadd (pc := 59) (v := (nI (left * 18 + a))) hG dX4_trace_59 (nI_add (left * 18) a) ?_
              refine sx_iald (pc := 60) (v := nI ((av 15) (left * 18 + a))) hG 15 dX4_trace_60 rfl (by decide) (by omega) rfl ?_
              refine sx_aload_n (pc := 61) hG dX4_trace_61 rfl 0 rfl ?_
              refine sx_get (pc := 62) (v2 := .ref (ad 13)) (ci := 4) hG i_X4_trace_4 1 m_X4_trace_f15 dX4_trace_62 rfl (by decide) 3 rfl rfl rfl ?_
              refine sx_iload (pc := 65) hG dX4_trace_65 6 rfl ?_
              refine sx_iconst (pc := 67) (v := nI 1) hG dX4_trace_67 (by decide +kernel) ?_
              refine sx_ishr (pc := 68) (v := (nI (a / 2))) hG dX4_trace_68 (sx_shr1 (by omega)) ?_
              refine sx_iald (pc := 69) (v := nI ((av 13) (a / 2))) hG 13 dX4_trace_69 rfl (by decide) (by omega) rfl ?_
              refine sx_isub (pc := 70) (v := (nI (cLB lk (av 15) (sx_diff left (2 ^ (a / 2))) a))) hG dX4_trace_70 (by rw [pk_sub (by rw [show left * 18 + a = 18 * left + a by omega, hrow.1, hle]; omega)]; congr 1; rw [show left * 18 + a = 18 * left + a by omega, hrow.1, hle]; omega) ?_
              refine sx_istore_n (pc := 71) (lv2 := [(0, .ref (ad 3)), (1, .int (nI s)), (2, .int (nI left)), (3, .int (nI (cLB lk (av 15) (sx_diff left (2 ^ (a / 2))) a))), (4, .int (-1)), (5, .int (nI k)), (6, .int (nI a))]) hG [1, 2, 3, 0, 4, 5, 6] dX4_trace_71 rfl hN (by decide) rfl ?_
              refine sx_iload_n (pc := 72) hG dX4_trace_72 rfl 2 rfl ?_
              refine sx_iload (pc := 73) hG dX4_trace_73 6 rfl ?_
              refine sx_callSNiw (pc := 75) (n9 := 1) (As := [.int (nI a)]) (st := [.int (nI left)]) hG (c_X7_bitOf l X (sw X ad sc (va_up av 17 Wy)) a (by omega)) gX4_trace_X7_bitOf_n65 rfl m_X4_trace_l65 m_X4_trace_s65 (by decide +kernel) rfl dX4_trace_75 ⟨rfl, rfl⟩ ⟨Nat.le_of_ble_eq_true rfl, Nat.le_of_ble_eq_true rfl⟩ (Nat.le_of_ble_eq_true rfl) ⟨Nat.le_of_ble_eq_true rfl, Nat.le_of_ble_eq_true rfl⟩ (fun r w1 hp => ?_)
              obtain ⟨hr9, hw9⟩ := hp
              have hr9 : r = (nI (2 ^ (a / 2))) := hr9
              subst hr9
              refine sx_weq hw9 ?_
              refine sx_ixor (pc := 78) (v := (nI (sx_diff left (2 ^ (a / 2))))) hG dX4_trace_78 (sx_xd (by omega) (by omega) hc19) ?_
              refine sx_istore_n (pc := 79) (lv2 := [(0, .ref (ad 3)), (1, .int (nI s)), (2, .int (nI (sx_diff left (2 ^ (a / 2))))), (3, .int (nI (cLB lk (av 15) (sx_diff left (2 ^ (a / 2))) a))), (4, .int (-1)), (5, .int (nI k)), (6, .int (nI a))]) hG [1, 2, 0, 3, 4, 5, 6] dX4_trace_79 rfl hN (by decide) rfl ?_
              refine sx_aload_n (pc := 80) hG dX4_trace_80 rfl 0 rfl ?_
              refine sx_get (pc := 81) (v2 := .ref (ad 17)) (ci := 4) hG i_X4_trace_4 5 m_X4_trace_f28 dX4_trace_81 rfl (by decide) 3 rfl rfl rfl ?_
              refine sx_iload (pc := 84) hG dX4_trace_84 5 rfl ?_
              refine sx_iload (pc := 86) hG dX4_trace_86 6 rfl ?_
              refine sx_iastN (pc := 88) (w2 := (sw X ad sc (va_up av 17 (va_up Wy k a)))) hG 17 dX4_trace_88 rfl (by decide) (by omega) rfl ?_
              refine sx_iload (pc := 89) hG dX4_trace_89 6 rfl ?_
              refine sx_istore (pc := 91) (lv2 := [(0, .ref (ad 3)), (1, .int (nI s)), (2, .int (nI (sx_diff left (2 ^ (a / 2))))), (3, .int (nI (cLB lk (av 15) (sx_diff left (2 ^ (a / 2))) a))), (4, .int (nI a)), (5, .int (nI k)), (6, .int (nI a))]) hG [1, 2, 3, 4, 0, 5, 6] dX4_trace_91 hN (by decide) rfl ?_
              refine sx_iinc (pc := 93) (v := (nI (k + 1))) (lv2 := [(0, .ref (ad 3)), (1, .int (nI s)), (2, .int (nI (sx_diff left (2 ^ (a / 2))))), (3, .int (nI (cLB lk (av 15) (sx_diff left (2 ^ (a / 2))) a))), (4, .int (nI a)), (5, .int (nI (k + 1))), (6, .int (nI a))]) hG [1, 2, 3, 4, 5, 0, 6] dX4_trace_93 5 rfl (sx_inc k) hN (by decide) rfl ?_
              refine sx_goto (pc := 96) (tgt := 15) hG dX4_trace_96 (by decide) ?_
              refine sx_lsub [0, 1, 2, 3, 4, 5] rfl ?_
              refine ih_k (k + 1) (sx_diff left (2 ^ (a / 2))) (cLB lk (av 15) (sx_diff left (2 ^ (a / 2))) a) (nI a) (va_up Wy k a) (by omega) (by omega) (fun _ => by unfold cTgt; rw [if_neg (by omega), show k + 1 - 1 = k from rfl, show va_up Wy k a k = a from if_pos rfl]) ⟨fun h => absurd h (by omega), fun _ => by rw [show k + 1 - 1 = k from rfl, show va_up Wy k a k = a from if_pos rfl]⟩ ⟨left, cPth_up (Nat.le_refl _) hpth, c23, by rw [show va_up Wy k a k = a from if_pos rfl]; exact cSel_up hsel, by rw [show va_up Wy k a k = a from if_pos rfl]⟩ (fun j => by unfold va_up; split; omega; exact hW j) (by omega)
            · skip
              exact absurd c43 (by decide)
          · skip
            have hbf1 := hbf.2 hk0
            subst hbf1
            refine sx_aload_n (pc := 30) hG dX4_trace_30 rfl 0 rfl ?_
            refine sx_iload (pc := 31) hG dX4_trace_31 4 rfl ?_
            refine sx_iload_n (pc := 33) hG dX4_trace_33 rfl 2 rfl ?_
            refine sx_iload_n (pc := 34) hG dX4_trace_34 rfl 3 rfl ?_
            refine sx_callViw (pc := 35) (n9 := 3) (As := [.int (nI (Wy (k - 1))), .int (nI left), .int (nI due)]) (st := []) (b := (ad 3)) (ci := 4) hG (c_X4_firstStep_1 l X ad sc (va_up av 17 Wy) n hn h2 lk hlk hl9 hb14 hb15 left due hl (by rw [hdue]; exact cTgt_le (ln := ln) hl9 hb15 hex) (Wy (k - 1)) (cPth_lt hpth hk0) (by obtain ⟨a, p1, p2, p3⟩ := hex; exact ⟨a, p1, p2, by rw [hdue, ← p3]; unfold cCand; rw [if_neg hk0] <;> rfl⟩)) gX4_trace_X4_firstStep rfl (by decide +kernel) rfl 3 rfl rfl rfl dX4_trace_35 ⟨rfl, rfl⟩ ⟨Nat.le_of_ble_eq_true rfl, Nat.le_of_ble_eq_true rfl⟩ (Nat.le_of_ble_eq_true rfl) ⟨Nat.le_of_ble_eq_true rfl, Nat.le_of_ble_eq_true rfl⟩ (fun r w1 hp => ?_)
            obtain ⟨a, hr9, hw9, a1, a2, a3, a4⟩ := hp
            subst hr9
            refine sx_weq hw9 ?_
            have hsel : cSel lk (av 15) (av 16) n s k left (Wy (k - 1)) a := ⟨a1, a2, by rw [← hdue, ← a3]; unfold cCand; rw [if_neg hk0] <;> rfl, fun b h1 h2 => by rw [← hdue]; unfold cCand; rw [if_neg hk0]; exact a4 b h1 h2⟩
            refine sx_istore (pc := 38) (lv2 := [(0, .ref (ad 3)), (1, .int (nI s)), (2, .int (nI left)), (3, .int (nI due)), (4, .int (nI (Wy (k - 1)))), (5, .int (nI k)), (6, .int (nI a))]) hG [1, 2, 3, 4, 5, 6, 0] dX4_trace_38 hN (by decide) rfl ?_
            refine sx_iload (pc := 40) hG dX4_trace_40 6 rfl ?_
            refine sx_iconst (pc := 42) (v := (-1)) hG dX4_trace_42 (by decide +kernel) ?_
            refine sx_icmp_ne (pc := 43) (tgt := 49) (B := False) hG dX4_trace_43 (by decide) (sx_eqm1 (by omega)) (fun c43 => ?_) (fun c43 => ?_)
            · skip
              obtain ⟨s1, s2, -, -⟩ := id hsel
              have hdl := sx_dlt (s := left) (k := a / 2) (by omega) (by omega) s2
              have hpd := sx_pc_d0 left (by omega) (a / 2) (by omega) s2
              have hrow := ((hT left (by omega) hl).1 a (by omega) s2)
              have hle := hln (a / 2) (by omega)
              have hc19 : ¬ left &&& 2 ^ (a / 2) = 0 := fun h => s2 ((sx_ab0 left (by omega) (a / 2) (by omega)).mp h)
              refine sx_aload_n (pc := 49) hG dX4_trace_49 rfl 0 rfl ?_
              refine sx_get (pc := 50) (v2 := .ref (ad 15)) (ci := 4) hG i_X4_trace_4 3 m_X4_trace_f22 dX4_trace_50 rfl (by decide) 3 rfl rfl rfl ?_
              refine sx_iload_n (pc := 53) hG dX4_trace_53 rfl 2 rfl ?_
              refine sx_bipush (pc := 54) (v := nI 18) hG dX4_trace_54 (by decide +kernel) ?_
              refine sx_imul (pc := 56) (v := (nI (left * 18))) hG dX4_trace_56 (pk_mul left 18) ?_
              refine sx_iload (pc := 57) hG dX4_trace_57 6 rfl ?_
              refine sx_iadd (pc := 59) (v := (nI (left * 18 + a))) hG dX4_trace_59 (nI_add (left * 18) a) ?_
              refine sx_iald (pc := 60) (v := nI ((av 15) (left * 18 + a))) hG 15 dX4_trace_60 rfl (by decide) (by omega) rfl ?_
              refine sx_aload_n (pc := 61) hG dX4_trace_61 rfl 0 rfl ?_
              refine sx_get (pc := 62) (v2 := .ref (ad 13)) (ci := 4) hG i_X4_trace_4 1 m_X4_trace_f15 dX4_trace_62 rfl (by decide) 3 rfl rfl rfl ?_
              refine sx_iload (pc := 65) hG dX4_trace_65 6 rfl ?_
              refine sx_iconst (pc := 67) (v := nI 1) hG dX4_trace_67 (by decide +kernel) ?_
              refine sx_ishr (pc := 68) (v := (nI (a / 2))) hG dX4_trace_68 (sx_shr1 (by omega)) ?_
              refine sx_iald (pc := 69) (v := nI ((av 13) (a / 2))) hG 13 dX4_trace_69 rfl (by decide) (by omega) rfl ?_
              refine sx_isub (pc := 70) (v := (nI (cLB lk (av 15) (sx_diff left (2 ^ (a / 2))) a))) hG dX4_trace_70 (by rw [pk_sub (by rw [show left * 18 + a = 18 * left + a by omega, hrow.1, hle]; omega)]; congr 1; rw [show left * 18 + a = 18 * left + a by omega, hrow.1, hle]; omega) ?_
              refine sx_istore_n (pc := 71) (lv2 := [(0, .ref (ad 3)), (1, .int (nI s)), (2, .int (nI left)), (3, .int (nI (cLB lk (av 15) (sx_diff left (2 ^ (a / 2))) a))), (4, .int (nI (Wy (k - 1)))), (5, .int (nI k)), (6, .int (nI a))]) hG [1, 2, 3, 0, 4, 5, 6] dX4_trace_71 rfl hN (by decide) rfl ?_
              refine sx_iload_n (pc := 72) hG dX4_trace_72 rfl 2 rfl ?_
              refine sx_iload (pc := 73) hG dX4_trace_73 6 rfl ?_
              refine sx_callSNiw (pc := 75) (n9 := 1) (As := [.int (nI a)]) (st := [.int (nI left)]) hG (c_X7_bitOf l X (sw X ad sc (va_up av 17 Wy)) a (by omega)) gX4_trace_X7_bitOf_n65 rfl m_X4_trace_l65 m_X4_trace_s65 (by decide +kernel) rfl dX4_trace_75 ⟨rfl, rfl⟩ ⟨Nat.le_of_ble_eq_true rfl, Nat.le_of_ble_eq_true rfl⟩ (Nat.le_of_ble_eq_true rfl) ⟨Nat.le_of_ble_eq_true rfl, Nat.le_of_ble_eq_true rfl⟩ (fun r w1 hp => ?_)
              obtain ⟨hr9, hw9⟩ := hp
              have hr9 : r = (nI (2 ^ (a / 2))) := hr9
              subst hr9
              refine sx_weq hw9 ?_
              refine sx_ixor (pc := 78) (v := (nI (sx_diff left (2 ^ (a / 2))))) hG dX4_trace_78 (sx_xd (by omega) (by omega) hc19) ?_
              refine sx_istore_n (pc := 79) (lv2 := [(0, .ref (ad 3)), (1, .int (nI s)), (2, .int (nI (sx_diff left (2 ^ (a / 2))))), (3, .int (nI (cLB lk (av 15) (sx_diff left (2 ^ (a / 2))) a))), (4, .int (nI (Wy (k - 1)))), (5, .int (nI k)), (6, .int (nI a))]) hG [1, 2, 0, 3, 4, 5, 6] dX4_trace_79 rfl hN (by decide) rfl ?_
              refine sx_aload_n (pc := 80) hG dX4_trace_80 rfl 0 rfl ?_
              refine sx_get (pc := 81) (v2 := .ref (ad 17)) (ci := 4) hG i_X4_trace_4 5 m_X4_trace_f28 dX4_trace_81 rfl (by decide) 3 rfl rfl rfl ?_
              refine sx_iload (pc := 84) hG dX4_trace_84 5 rfl ?_
              refine sx_iload (pc := 86) hG dX4_trace_86 6 rfl ?_
              refine sx_iastN (pc := 88) (w2 := (sw X ad sc (va_up av 17 (va_up Wy k a)))) hG 17 dX4_trace_88 rfl (by decide) (by omega) rfl ?_
              refine sx_iload (pc := 89) hG dX4_trace_89 6 rfl ?_
              refine sx_istore (pc := 91) (lv2 := [(0, .ref (ad 3)), (1, .int (nI s)), (2, .int (nI (sx_diff left (2 ^ (a / 2))))), (3, .int (nI (cLB lk (av 15) (sx_diff left (2 ^ (a / 2))) a))), (4, .int (nI a)), (5, .int (nI k)), (6, .int (nI a))]) hG [1, 2, 3, 4, 0, 5, 6] dX4_trace_91 hN (by decide) rfl ?_
              refine sx_iinc (pc := 93) (v := (nI (k + 1))) (lv2 := [(0, .ref (ad 3)), (1, .int (nI s)), (2, .int (nI (sx_diff left (2 ^ (a / 2))))), (3, .int (nI (cLB lk (av 15) (sx_diff left (2 ^ (a / 2))) a))), (4, .int (nI a)), (5, .int (nI (k + 1))), (6, .int (nI a))]) hG [1, 2, 3, 4, 5, 0, 6] dX4_trace_93 5 rfl (sx_inc k) hN (by decide) rfl ?_
              refine sx_goto (pc := 96) (tgt := 15) hG dX4_trace_96 (by decide) ?_
              refine sx_lsub [0, 1, 2, 3, 4, 5] rfl ?_
              refine ih_k (k + 1) (sx_diff left (2 ^ (a / 2))) (cLB lk (av 15) (sx_diff left (2 ^ (a / 2))) a) (nI a) (va_up Wy k a) (by omega) (by omega) (fun _ => by unfold cTgt; rw [if_neg (by omega), show k + 1 - 1 = k from rfl, show va_up Wy k a k = a from if_pos rfl]) ⟨fun h => absurd h (by omega), fun _ => by rw [show k + 1 - 1 = k from rfl, show va_up Wy k a k = a from if_pos rfl]⟩ ⟨left, cPth_up (Nat.le_refl _) hpth, c23, by rw [show va_up Wy k a k = a from if_pos rfl]; exact cSel_up hsel, by rw [show va_up Wy k a k = a from if_pos rfl]⟩ (fun j => by unfold va_up; split; omega; exact hW j) (by omega)
            · skip
              exact absurd c43 (by decide)
        · skip
          refine sx_iconst (pc := 26) (v := (-1)) hG dX4_trace_26 (by decide +kernel) ?_
          refine sx_goto (pc := 27) (tgt := 38) hG dX4_trace_27 (by decide) ?_
          refine sx_istore (pc := 38) (lv2 := [(0, .ref (ad 3)), (1, .int (nI s)), (2, .int (nI left)), (3, .int (nI due)), (4, .int bf), (5, .int (nI k)), (6, .int (-1))]) hG [1, 2, 3, 4, 5, 6, 0] dX4_trace_38 hN (by decide) rfl ?_
          refine sx_iload (pc := 40) hG dX4_trace_40 6 rfl ?_
          refine sx_iconst (pc := 42) (v := (-1)) hG dX4_trace_42 (by decide +kernel) ?_
          refine sx_icmp_ne (pc := 43) (tgt := 49) (B := True) hG dX4_trace_43 (by decide) (iff_of_true rfl trivial) (fun c43 => ?_) (fun c43 => ?_)
          · skip
            exact absurd (by decide) c43
          · skip
            refine sx_iload (pc := 46) hG dX4_trace_46 5 rfl ?_
            have hlz : left = 0 := c23
            subst hlz
            have hkk : k = sx_pc s := by omega
            subst hkk
            exact hret _ _ _ _ dX4_trace_48 rfl ⟨Wy, rfl, rfl, hW, hpth⟩
  refine sx_iload_n (pc := 0) hG dX4_trace_0 rfl 1 rfl ?_
  refine sx_istore_n (pc := 1) (lv2 := [(0, .ref (ad 3)), (1, .int (nI s)), (2, .int (nI s))]) hG [1, 2, 0] dX4_trace_1 rfl hN (by decide) rfl ?_
  refine sx_aload_n (pc := 2) hG dX4_trace_2 rfl 0 rfl ?_
  refine sx_get (pc := 3) (v2 := .ref (ad 16)) (ci := 4) hG i_X4_trace_4 4 m_X4_trace_f25 dX4_trace_3 rfl (by decide) 3 rfl rfl rfl ?_
  refine sx_iload_n (pc := 6) hG dX4_trace_6 rfl 1 rfl ?_
  refine sx_iald (pc := 7) (v := nI ((av 16) s)) hG 16 dX4_trace_7 rfl (by decide) (by omega) rfl ?_
  refine sx_istore_n (pc := 8) (lv2 := [(0, .ref (ad 3)), (1, .int (nI s)), (2, .int (nI s)), (3, .int (nI ((av 16) s)))]) hG [1, 2, 3, 0] dX4_trace_8 rfl hN (by decide) rfl ?_
  refine sx_iconst (pc := 9) (v := (-1)) hG dX4_trace_9 (by decide +kernel) ?_
  refine sx_istore (pc := 10) (lv2 := [(0, .ref (ad 3)), (1, .int (nI s)), (2, .int (nI s)), (3, .int (nI ((av 16) s))), (4, .int (-1))]) hG [1, 2, 3, 4, 0] dX4_trace_10 hN (by decide) rfl ?_
  refine sx_iconst (pc := 12) (v := nI 0) hG dX4_trace_12 (by decide +kernel) ?_
  refine sx_istore (pc := 13) (lv2 := [(0, .ref (ad 3)), (1, .int (nI s)), (2, .int (nI s)), (3, .int (nI ((av 16) s))), (4, .int (-1)), (5, .int (nI 0))]) hG [1, 2, 3, 4, 5, 0] dX4_trace_13 hN (by decide) rfl ?_
  refine sx_weq (w2 := (sw X ad sc (va_up av 17 (av 17)))) rfl ?_
  refine loop_k _ 0 s (av 16 s) (-1) (av 17) hs (Nat.zero_add _) (fun _ => rfl) ⟨fun _ => rfl, fun h => absurd rfl h⟩ rfl hW0 (Nat.lt_succ_self _)

theorem i_X4_stepOf_4 : ∀ w ∈ u_ws RX4 TX4 7, w ∈ wsX4_stepOf := by decide +kernel
theorem m_X4_stepOf_f28 : Cond.fieldLink RX4 28 (TX4 5).1 (TX4 5).2.1 (TX4 5).2.2.1 ∈ wsX4_stepOf := by decide +kernel
set_option maxHeartbeats 4000000 in
set_option maxRecDepth 100000 in
theorem c_X4_stepOf_k (l : Launch) (X : sx_X) (ad : Nat → Nat) (sc : Nat → Int32) (av : Nat → Nat → Nat) (n : Nat) (hn : n ≤ 9) (h2 : sc 2 = nI (2 * n)) (ln : Nat → Nat) (hln : ∀ i, i < n → av 13 i = ln i) (hl1 : ∀ i, ln i ≤ 126) (lk : Nat → Nat → Nat) (hlk : ∀ f, f < 2 * n → ∀ t, t < 2 * n → av 14 (18 * f + t) = lk f t) (hl9 : ∀ f t, lk f t ≤ 405630) (hb14 : ∀ j, av 14 j ≤ 405630) (hb15 : ∀ j, av 15 j ≤ 5000000) (hT : cT ln lk (av 15) (av 16) (2 ^ n)) (hW0 : ∀ j, av 17 j < 18) (s : Nat) (hs1 : 1 ≤ s) (hs : s < 2 ^ n) (k : Nat) (hk : k < 2 ^ 31) : sx_Mi l yX4_stepOf wsX4_stepOf { frames := 3, cells := 0, slots := 0, locals := 71 } X [.ref (ad 3), .int (nI s), .int (nI k)] (sw X ad sc av) (fun r w => ∃ Wy : Nat → Nat, (r = if k < sx_pc s then nI (Wy k) else -1) ∧ w = sw X ad sc (va_up av 17 Wy) ∧ (∀ j, Wy j < 18) ∧ cPth lk (av 15) (av 16) n s Wy (sx_pc s) 0) 0 0 := by
  refine sx_entI (own := RX4) (nL := 4) (by decide +kernel) rfl rfl (Nat.le_of_ble_eq_true rfl) ?_
  intro G hG hN hret
  show sx_W l X G 0 0 0 [(0, .ref (ad 3)), (1, .int (nI s)), (2, .int (nI k))] [] (sw X ad sc av)
  have hp9 := sx_p9 hn
  have hpc := sx_pc_n0 n (by omega) s hs
  refine sx_aload_n (pc := 0) hG dX4_stepOf_0 rfl 0 rfl ?_
  refine sx_iload_n (pc := 1) hG dX4_stepOf_1 rfl 1 rfl ?_
  refine sx_callViw (pc := 2) (n9 := 1) (As := [.int (nI s)]) (st := []) (b := (ad 3)) (ci := 4) hG (c_X4_trace l X ad sc av n hn h2 ln hln hl1 lk hlk hl9 hb14 hb15 hT hW0 s hs1 hs) gX4_stepOf_X4_trace rfl (by decide +kernel) rfl 3 rfl rfl rfl dX4_stepOf_2 ⟨rfl, rfl⟩ ⟨Nat.le_of_ble_eq_true rfl, Nat.le_of_ble_eq_true rfl⟩ (Nat.le_of_ble_eq_true rfl) ⟨Nat.le_of_ble_eq_true rfl, Nat.le_of_ble_eq_true rfl⟩ (fun r w1 hp => ?_)
  obtain ⟨Wy, hr9, hw9, hW, hpth⟩ := hp
  subst hr9
  refine sx_weq hw9 ?_
  refine sx_istore_n (pc := 5) (lv2 := [(0, .ref (ad 3)), (1, .int (nI s)), (2, .int (nI k)), (3, .int (nI (sx_pc s)))]) hG [1, 2, 3, 0] dX4_stepOf_5 rfl hN (by decide) rfl ?_
  refine sx_iload_n (pc := 6) hG dX4_stepOf_6 rfl 2 rfl ?_
  refine sx_if_lt (pc := 7) (tgt := 15) (B := False) hG dX4_stepOf_7 (by decide) (sx_lt0 (by omega)) (fun c7 => ?_) (fun c7 => ?_)
  · skip
    exact absurd c7 (by decide)
  · skip
    refine sx_iload_n (pc := 10) hG dX4_stepOf_10 rfl 2 rfl ?_
    refine sx_iload_n (pc := 11) hG dX4_stepOf_11 rfl 3 rfl ?_
    refine sx_icmp_lt (pc := 12) (tgt := 19) (B := k < (sx_pc s)) hG dX4_stepOf_12 (by decide) (nI_ltI (by omega) (by omega)) (fun c12 => ?_) (fun c12 => ?_)
    · skip
      refine sx_aload_n (pc := 19) hG dX4_stepOf_19 rfl 0 rfl ?_
      refine sx_get (pc := 20) (v2 := .ref (ad 17)) (ci := 4) hG i_X4_stepOf_4 5 m_X4_stepOf_f28 dX4_stepOf_20 rfl (by decide) 3 rfl rfl rfl ?_
      refine sx_iload_n (pc := 23) hG dX4_stepOf_23 rfl 2 rfl ?_
      refine sx_iald (pc := 24) (v := nI (Wy k)) hG 17 dX4_stepOf_24 rfl (by decide) (by omega) rfl ?_
      exact hret _ _ _ _ dX4_stepOf_25 rfl ⟨Wy, (if_pos c12).symm, rfl, hW, hpth⟩
    · skip
      refine sx_iconst (pc := 15) (v := (-1)) hG dX4_stepOf_15 (by decide +kernel) ?_
      refine sx_goto (pc := 16) (tgt := 25) hG dX4_stepOf_16 (by decide) ?_
      exact hret _ _ _ _ dX4_stepOf_25 rfl ⟨Wy, (if_neg c12).symm, rfl, hW, hpth⟩

set_option maxHeartbeats 4000000 in
set_option maxRecDepth 100000 in
theorem c_X4_stepOf_n (l : Launch) (X : sx_X) (ad : Nat → Nat) (sc : Nat → Int32) (av : Nat → Nat → Nat) (n : Nat) (hn : n ≤ 9) (h2 : sc 2 = nI (2 * n)) (ln : Nat → Nat) (hln : ∀ i, i < n → av 13 i = ln i) (hl1 : ∀ i, ln i ≤ 126) (lk : Nat → Nat → Nat) (hlk : ∀ f, f < 2 * n → ∀ t, t < 2 * n → av 14 (18 * f + t) = lk f t) (hl9 : ∀ f t, lk f t ≤ 405630) (hb14 : ∀ j, av 14 j ≤ 405630) (hb15 : ∀ j, av 15 j ≤ 5000000) (hT : cT ln lk (av 15) (av 16) (2 ^ n)) (hW0 : ∀ j, av 17 j < 18) (s : Nat) (hs1 : 1 ≤ s) (hs : s < 2 ^ n) (k : Int32) (hk : k.toInt < 0) : sx_Mi l yX4_stepOf wsX4_stepOf { frames := 3, cells := 0, slots := 0, locals := 71 } X [.ref (ad 3), .int (nI s), .int k] (sw X ad sc av) (fun r w => ∃ Wy : Nat → Nat, r = -1 ∧ w = sw X ad sc (va_up av 17 Wy) ∧ (∀ j, Wy j < 18) ∧ cPth lk (av 15) (av 16) n s Wy (sx_pc s) 0) 0 0 := by
  refine sx_entI (own := RX4) (nL := 4) (by decide +kernel) rfl rfl (Nat.le_of_ble_eq_true rfl) ?_
  intro G hG hN hret
  show sx_W l X G 0 0 0 [(0, .ref (ad 3)), (1, .int (nI s)), (2, .int k)] [] (sw X ad sc av)
  have hp9 := sx_p9 hn
  have hpc := sx_pc_n0 n (by omega) s hs
  refine sx_aload_n (pc := 0) hG dX4_stepOf_0 rfl 0 rfl ?_
  refine sx_iload_n (pc := 1) hG dX4_stepOf_1 rfl 1 rfl ?_
  refine sx_callViw (pc := 2) (n9 := 1) (As := [.int (nI s)]) (st := []) (b := (ad 3)) (ci := 4) hG (c_X4_trace l X ad sc av n hn h2 ln hln hl1 lk hlk hl9 hb14 hb15 hT hW0 s hs1 hs) gX4_stepOf_X4_trace rfl (by decide +kernel) rfl 3 rfl rfl rfl dX4_stepOf_2 ⟨rfl, rfl⟩ ⟨Nat.le_of_ble_eq_true rfl, Nat.le_of_ble_eq_true rfl⟩ (Nat.le_of_ble_eq_true rfl) ⟨Nat.le_of_ble_eq_true rfl, Nat.le_of_ble_eq_true rfl⟩ (fun r w1 hp => ?_)
  obtain ⟨Wy, hr9, hw9, hW, hpth⟩ := hp
  subst hr9
  refine sx_weq hw9 ?_
  refine sx_istore_n (pc := 5) (lv2 := [(0, .ref (ad 3)), (1, .int (nI s)), (2, .int k), (3, .int (nI (sx_pc s)))]) hG [1, 2, 3, 0] dX4_stepOf_5 rfl hN (by decide) rfl ?_
  refine sx_iload_n (pc := 6) hG dX4_stepOf_6 rfl 2 rfl ?_
  refine sx_if_lt (pc := 7) (tgt := 15) (B := k.toInt < 0) hG dX4_stepOf_7 (by decide) (sx_rlt0 _) (fun c7 => ?_) (fun c7 => ?_)
  · skip
    refine sx_iconst (pc := 15) (v := (-1)) hG dX4_stepOf_15 (by decide +kernel) ?_
    refine sx_goto (pc := 16) (tgt := 25) hG dX4_stepOf_16 (by decide) ?_
    exact hret _ _ _ _ dX4_stepOf_25 rfl ⟨Wy, rfl, rfl, hW, hpth⟩
  · skip
    exact absurd hk c7

theorem i_X4_jumpsOf_4 : ∀ w ∈ u_ws RX4 TX4 7, w ∈ wsX4_jumpsOf := by decide +kernel
theorem m_X4_jumpsOf_f19 : Cond.fieldLink RX4 19 (TX4 2).1 (TX4 2).2.1 (TX4 2).2.2.1 ∈ wsX4_jumpsOf := by decide +kernel
theorem m_X4_jumpsOf_f28 : Cond.fieldLink RX4 28 (TX4 5).1 (TX4 5).2.1 (TX4 5).2.2.1 ∈ wsX4_jumpsOf := by decide +kernel
theorem m_X4_jumpsOf_l81 : Cond.methodLinkNest RX4 81 yX7_lengthOf "TubeShop" ∈ sx_nest := by decide +kernel
theorem m_X4_jumpsOf_s81 : Cond.static yX7_lengthOf ∈ wsX4_jumpsOf ∧ Cond.initialized yX7_lengthOf.cls ∈ wsX4_jumpsOf := by decide +kernel
set_option maxHeartbeats 4000000 in
set_option maxRecDepth 100000 in
theorem c_X4_jumpsOf (l : Launch) (X : sx_X) (ad : Nat → Nat) (sc : Nat → Int32) (av : Nat → Nat → Nat) (n : Nat) (hn : n ≤ 9) (h2 : sc 2 = nI (2 * n)) (ln : Nat → Nat) (hln : ∀ i, i < n → av 13 i = ln i) (hl1 : ∀ i, ln i ≤ 126) (lk : Nat → Nat → Nat) (hlk : ∀ f, f < 2 * n → ∀ t, t < 2 * n → av 14 (18 * f + t) = lk f t) (hl9 : ∀ f t, lk f t ≤ 405630) (hb14 : ∀ j, av 14 j ≤ 405630) (hb15 : ∀ j, av 15 j ≤ 5000000) (hT : cT ln lk (av 15) (av 16) (2 ^ n)) (hW0 : ∀ j, av 17 j < 18) (s : Nat) (hs1 : 1 ≤ s) (hs : s < 2 ^ n) : sx_Mi l yX4_jumpsOf wsX4_jumpsOf { frames := 3, cells := 0, slots := 0, locals := 71 } X [.ref (ad 3), .int (nI s)] (sw X ad sc av) (fun r w => ∃ Wy : Nat → Nat, r = nI (sx_sum (fun j => if av 14 (Wy j * 18 + Wy (j + 1)) % 4096 = 0 then 0 else 1) (sx_pc s - 1)) ∧ w = sw X ad sc (va_up av 17 Wy) ∧ (∀ j, Wy j < 18) ∧ cPth lk (av 15) (av 16) n s Wy (sx_pc s) 0) 0 0 := by
  refine sx_entI (own := RX4) (nL := 5) (by decide +kernel) rfl rfl (Nat.le_of_ble_eq_true rfl) ?_
  intro G hG hN hret
  show sx_W l X G 0 0 0 [(0, .ref (ad 3)), (1, .int (nI s))] [] (sw X ad sc av)
  have hp9 := sx_p9 hn
  have hpc := sx_pc_n0 n (by omega) s hs
  refine sx_aload_n (pc := 0) hG dX4_jumpsOf_0 rfl 0 rfl ?_
  refine sx_iload_n (pc := 1) hG dX4_jumpsOf_1 rfl 1 rfl ?_
  refine sx_callViw (pc := 2) (n9 := 1) (As := [.int (nI s)]) (st := []) (b := (ad 3)) (ci := 4) hG (c_X4_trace l X ad sc av n hn h2 ln hln hl1 lk hlk hl9 hb14 hb15 hT hW0 s hs1 hs) gX4_jumpsOf_X4_trace rfl (by decide +kernel) rfl 3 rfl rfl rfl dX4_jumpsOf_2 ⟨rfl, rfl⟩ ⟨Nat.le_of_ble_eq_true rfl, Nat.le_of_ble_eq_true rfl⟩ (Nat.le_of_ble_eq_true rfl) ⟨Nat.le_of_ble_eq_true rfl, Nat.le_of_ble_eq_true rfl⟩ (fun r w1 hp => ?_)
  obtain ⟨Wy, hr9, hw9, hW, hpth⟩ := hp
  subst hr9
  refine sx_weq hw9 ?_
  refine sx_istore_n (pc := 5) (lv2 := [(0, .ref (ad 3)), (1, .int (nI s)), (2, .int (nI (sx_pc s)))]) hG [1, 2, 0] dX4_jumpsOf_5 rfl hN (by decide) rfl ?_
  refine sx_iconst (pc := 6) (v := nI 0) hG dX4_jumpsOf_6 (by decide +kernel) ?_
  refine sx_istore_n (pc := 7) (lv2 := [(0, .ref (ad 3)), (1, .int (nI s)), (2, .int (nI (sx_pc s))), (3, .int (nI 0))]) hG [1, 2, 3, 0] dX4_jumpsOf_7 rfl hN (by decide) rfl ?_
  refine sx_iconst (pc := 8) (v := nI 1) hG dX4_jumpsOf_8 (by decide +kernel) ?_
  refine sx_istore (pc := 9) (lv2 := [(0, .ref (ad 3)), (1, .int (nI s)), (2, .int (nI (sx_pc s))), (3, .int (nI 0)), (4, .int (nI 1))]) hG [1, 2, 3, 4, 0] dX4_jumpsOf_9 hN (by decide) rfl ?_
  have loop_j : ∀ (fuel : Nat), ∀ (k jn : Nat), (1 ≤ k) → (k ≤ 10) → (jn = sx_sum (fun j => if av 14 (Wy j * 18 + Wy (j + 1)) % 4096 = 0 then 0 else 1) (k - 1)) → (k ≤ sx_pc s ∨ k = 1) → 10 - k < fuel → sx_W l X G 0 0 11 [(0, .ref (ad 3)), (1, .int (nI s)), (2, .int (nI (sx_pc s))), (3, .int (nI jn)), (4, .int (nI k))] [] (sw X ad sc (va_up av 17 Wy)) := by
    intro fuel
    induction fuel with
    | zero => intro k jn hk1 hk2 hj hk3 hm; exact absurd hm (Nat.not_lt_zero _)
    | succ fuel ih_j =>
      intro k jn hk1 hk2 hj hk3 hm_j
      have hw1 := hW (k - 1)
      have hw2 := hW k
      have hlk9 := hb14 (Wy (k - 1) * 18 + Wy k)
      have hsl : jn ≤ 10 := by have := sx_sum_le (f := fun j => if av 14 (Wy j * 18 + Wy (j + 1)) % 4096 = 0 then 0 else 1) (b := 1) (fun j => by show (if _ then _ else _) ≤ 1; split <;> omega) (k - 1); omega
      refine sx_iload (pc := 11) hG dX4_jumpsOf_11 4 rfl ?_
      refine sx_iload_n (pc := 13) hG dX4_jumpsOf_13 rfl 2 rfl ?_
      refine sx_icmp_ge (pc := 14) (tgt := 57) (B := (sx_pc s) ≤ k) hG dX4_jumpsOf_14 (by decide) (nI_leI (by omega) (by omega)) (fun c14 => ?_) (fun c14 => ?_)
      · skip
        refine sx_iload_n (pc := 57) hG dX4_jumpsOf_57 rfl 3 rfl ?_
        exact hret _ _ _ _ dX4_jumpsOf_58 rfl ⟨Wy, by rw [hj, show k - 1 = sx_pc s - 1 by omega], rfl, hW, hpth⟩
      · skip
        refine sx_aload_n (pc := 17) hG dX4_jumpsOf_17 rfl 0 rfl ?_
        refine sx_get (pc := 18) (v2 := .ref (ad 14)) (ci := 4) hG i_X4_jumpsOf_4 2 m_X4_jumpsOf_f19 dX4_jumpsOf_18 rfl (by decide) 3 rfl rfl rfl ?_
        refine sx_aload_n (pc := 21) hG dX4_jumpsOf_21 rfl 0 rfl ?_
        refine sx_get (pc := 22) (v2 := .ref (ad 17)) (ci := 4) hG i_X4_jumpsOf_4 5 m_X4_jumpsOf_f28 dX4_jumpsOf_22 rfl (by decide) 3 rfl rfl rfl ?_
        refine sx_iload (pc := 25) hG dX4_jumpsOf_25 4 rfl ?_
        refine sx_iconst (pc := 27) (v := nI 1) hG dX4_jumpsOf_27 (by decide +kernel) ?_
        refine sx_isub (pc := 28) (v := (nI (k - 1))) hG dX4_jumpsOf_28 (pk_sub (by omega)) ?_
        refine sx_iald (pc := 29) (v := nI (Wy (k - 1))) hG 17 dX4_jumpsOf_29 rfl (by decide) (by omega) rfl ?_
        refine sx_bipush (pc := 30) (v := nI 18) hG dX4_jumpsOf_30 (by decide +kernel) ?_
        refine sx_imul (pc := 32) (v := (nI ((Wy (k - 1)) * 18))) hG dX4_jumpsOf_32 (pk_mul (Wy (k - 1)) 18) ?_
        refine sx_aload_n (pc := 33) hG dX4_jumpsOf_33 rfl 0 rfl ?_
        refine sx_get (pc := 34) (v2 := .ref (ad 17)) (ci := 4) hG i_X4_jumpsOf_4 5 m_X4_jumpsOf_f28 dX4_jumpsOf_34 rfl (by decide) 3 rfl rfl rfl ?_
        refine sx_iload (pc := 37) hG dX4_jumpsOf_37 4 rfl ?_
        refine sx_iald (pc := 39) (v := nI (Wy k)) hG 17 dX4_jumpsOf_39 rfl (by decide) (by omega) rfl ?_
        refine sx_iadd (pc := 40) (v := (nI ((Wy (k - 1)) * 18 + (Wy k)))) hG dX4_jumpsOf_40 (nI_add ((Wy (k - 1)) * 18) (Wy k)) ?_
        refine sx_iald (pc := 41) (v := nI ((av 14) ((Wy (k - 1)) * 18 + (Wy k)))) hG 14 dX4_jumpsOf_41 rfl (by decide) (by omega) rfl ?_
        refine sx_callSNiw (pc := 42) (n9 := 1) (As := [.int (nI ((av 14) ((Wy (k - 1)) * 18 + (Wy k))))]) (st := []) hG (c_X7_lengthOf l X (sw X ad sc (va_up av 17 Wy)) (av 14 (Wy (k - 1) * 18 + Wy k)) (by omega)) gX4_jumpsOf_X7_lengthOf_n81 rfl m_X4_jumpsOf_l81 m_X4_jumpsOf_s81 (by decide +kernel) rfl dX4_jumpsOf_42 ⟨rfl, rfl⟩ ⟨Nat.le_of_ble_eq_true rfl, Nat.le_of_ble_eq_true rfl⟩ (Nat.le_of_ble_eq_true rfl) ⟨Nat.le_of_ble_eq_true rfl, Nat.le_of_ble_eq_true rfl⟩ (fun r w1 hp => ?_)
        obtain ⟨hr9, hw9⟩ := hp
        have hr9 : r = (nI (av 14 (Wy (k - 1) * 18 + Wy k) % 4096)) := hr9
        subst hr9
        refine sx_weq hw9 ?_
        refine sx_if_le (pc := 45) (tgt := 51) (B := (av 14 (Wy (k - 1) * 18 + Wy k) % 4096) = 0) hG dX4_jumpsOf_45 (by decide) (sx_le0 (by omega)) (fun c45 => ?_) (fun c45 => ?_)
        · skip
          refine sx_iinc (pc := 51) (v := (nI (k + 1))) (lv2 := [(0, .ref (ad 3)), (1, .int (nI s)), (2, .int (nI (sx_pc s))), (3, .int (nI jn)), (4, .int (nI (k + 1)))]) hG [1, 2, 3, 4, 0] dX4_jumpsOf_51 4 rfl (sx_inc k) hN (by decide) rfl ?_
          refine sx_goto (pc := 54) (tgt := 11) hG dX4_jumpsOf_54 (by decide) ?_
          refine ih_j (k + 1) _ (by omega) (by omega) (by rw [show k + 1 - 1 = (k - 1) + 1 by omega]; unfold sx_sum; rw [← hj, show k - 1 + 1 = k by omega]; rw [if_pos (by omega), Nat.add_zero]) (by omega) (by omega)
        · skip
          refine sx_iinc (pc := 48) (v := (nI (jn + 1))) (lv2 := [(0, .ref (ad 3)), (1, .int (nI s)), (2, .int (nI (sx_pc s))), (3, .int (nI (jn + 1))), (4, .int (nI k))]) hG [1, 2, 3, 0, 4] dX4_jumpsOf_48 3 rfl (sx_inc jn) hN (by decide) rfl ?_
          refine sx_iinc (pc := 51) (v := (nI (k + 1))) (lv2 := [(0, .ref (ad 3)), (1, .int (nI s)), (2, .int (nI (sx_pc s))), (3, .int (nI (jn + 1))), (4, .int (nI (k + 1)))]) hG [1, 2, 3, 4, 0] dX4_jumpsOf_51 4 rfl (sx_inc k) hN (by decide) rfl ?_
          refine sx_goto (pc := 54) (tgt := 11) hG dX4_jumpsOf_54 (by decide) ?_
          refine ih_j (k + 1) _ (by omega) (by omega) (by rw [show k + 1 - 1 = (k - 1) + 1 by omega]; unfold sx_sum; rw [← hj, show k - 1 + 1 = k by omega]; rw [if_neg (by omega)]) (by omega) (by omega)
  refine loop_j _ 1 0 (by omega) (by omega) rfl (by omega) (Nat.lt_succ_self _)
