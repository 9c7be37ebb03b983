/-! THE CLASS: RunTable: takeOver, refresh, firstStep, trace, stepOf, jumpsOf -/
theorem sLk_le {av : Nat → Nat → Nat} (hg : sG av) (f t : Nat) : sLk av f t ≤ 405630 := by
  unfold sLk
  split
  · have := hg.2.2.2.2.1 (sx_trn (av 10 t) (av 10 f)); omega
  · have h1 := hg.2.2.2.2.1 5
    have h2 := sx_piece_le (p := sx_far (av 8 t) (av 8 (f ^^^ 1))) (q := sx_far (av 9 t) (av 9 (f ^^^ 1))) (by have := sx_far_le _ _ 10 (Nat.lt_succ_of_le (hg.1 t)) (Nat.lt_succ_of_le (hg.1 (f ^^^ 1))); omega) (by have := sx_far_le _ _ 10 (Nat.lt_succ_of_le (hg.2.1 t)) (Nat.lt_succ_of_le (hg.2.1 (f ^^^ 1))); omega)
    omega
def sCp (av : Nat → Nat → Nat) : Nat → Nat := va_cpy (av 11) (av 13) 0 0 9
theorem sCp_le {av : Nat → Nat → Nat} (hg : sG av) (j : Nat) : sCp av j ≤ 126 := by
  unfold sCp va_cpy; split
  · exact hg.2.2.2.1 _
  · exact hg.2.2.2.2.2 _
theorem sCp_eq (av : Nat → Nat → Nat) {i : Nat} (h : i < 9) : sCp av i = av 11 i := by
  unfold sCp va_cpy; rw [if_pos (by omega)]; congr 1; omega
/-- the class's tables over n strokes -/
def rTab (av : Nat → Nat → Nat) (n : Nat) (v2 : Int32) (A13 A14 A15 A16 : Nat → Nat) : Prop := (n = 0 ∨ v2 = nI (2 * n)) ∧ (∀ i, i < n → A13 i = av 11 i) ∧ (∀ j, A13 j ≤ 126) ∧ (∀ f, f < 2 * n → ∀ t, t < 2 * n → A14 (18 * f + t) = sLk av f t) ∧ (∀ j, A14 j ≤ 405630) ∧ (∀ j, A15 j ≤ 5000000) ∧ cT (av 11) (sLk av) A15 A16 (2 ^ n)
def cLinks (av : Nat → Nat → Nat) (n : Nat) (Lk : Nat → Nat) : Prop := ∀ f, f < 2 * n → ∀ t, t < 2 * n → Lk (18 * f + t) = sLk av f t
theorem i_X4_takeOver_4 : ∀ w ∈ u_ws RX4 TX4 7, w ∈ wsX4_takeOver := by decide +kernel
theorem m_X4_takeOver_f9 : Cond.fieldLink RX4 9 (TX4 0).1 (TX4 0).2.1 (TX4 0).2.2.1 ∈ wsX4_takeOver := by decide +kernel
theorem m_X4_takeOver_f19 : Cond.fieldLink RX4 19 (TX4 2).1 (TX4 2).2.1 (TX4 2).2.2.1 ∈ wsX4_takeOver := by decide +kernel
theorem i_X4_takeOver_5 : ∀ w ∈ u_ws RX5 TX5 5, w ∈ wsX4_takeOver := by decide +kernel
theorem m_X4_takeOver_n48 : Cond.fieldLinkNest RX4 48 (TX5 0).1 (TX5 0).2.1 (TX5 0).2.2.1 "TubeShop" ∈ sx_nest := by decide +kernel
theorem m_X4_takeOver_n51 : Cond.fieldLinkNest RX4 51 (TX5 4).1 (TX5 4).2.1 (TX5 4).2.2.1 "TubeShop" ∈ sx_nest := by decide +kernel
theorem m_X4_takeOver_f15 : Cond.fieldLink RX4 15 (TX4 1).1 (TX4 1).2.1 (TX4 1).2.2.1 ∈ wsX4_takeOver := by decide +kernel
theorem m_X4_takeOver_j52 : Cond.methodLink RX4 52 arraycopyName ∈ wsX4_takeOver ∧ Cond.native arraycopyName ∈ wsX4_takeOver ∧ Cond.static arraycopyName ∈ wsX4_takeOver ∧ Cond.initialized "java/lang/System" ∈ wsX4_takeOver := by decide +kernel
set_option maxHeartbeats 4000000 in
set_option maxRecDepth 100000 in
theorem c_X4_takeOver (l : Launch) (X : sx_X) (ad : Nat → Nat) (sc : Nat → Int32) (av : Nat → Nat → Nat) (n : Nat) (hn : n ≤ 9) (h1 : sc 1 = nI n) (hg : sG av) (hb0 : ∀ j, av 14 j ≤ 405630) : sx_Mv l yX4_takeOver wsX4_takeOver { frames := 3, cells := 0, slots := 0, locals := 71 } X [.ref (ad 3), .ref (ad 1), .ref (ad 2)] (sw X ad sc av) (fun w => ∃ Lk : Nat → Nat, w = sw X ad (va_up sc 2 (nI (2 * n))) (va_up (va_up av 13 (sCp av)) 14 Lk) ∧ cLinks av n Lk ∧ ∀ j, Lk j ≤ 405630) 0 0 := by
  refine sx_entV (own := RX4) (nL := 5) (by decide +kernel) rfl rfl (Nat.le_of_ble_eq_true rfl) ?_
  intro G hG hN hini hret
  show sx_W l X G 0 0 0 [(0, .ref (ad 3)), (1, .ref (ad 1)), (2, .ref (ad 2))] [] (sw X ad sc av)
  have loop_f : ∀ (fuel : Nat), ∀ (f : Nat) (Lk : Nat → Nat), (f ≤ 2 * n) → (∀ p, p < f → ∀ q, q < 2 * n → Lk (18 * p + q) = sLk av p q) → (∀ j, Lk j ≤ 405630) → 2 * n - f < fuel → sx_W l X G 0 0 27 [(0, .ref (ad 3)), (1, .ref (ad 1)), (2, .ref (ad 2)), (3, .int (nI f))] [] (sw X ad (va_up sc 2 (nI (2 * n))) (va_up (va_up av 13 (va_cpy (av 11) (av 13) 0 0 9)) 14 Lk)) := by
    intro fuel
    induction fuel with
    | zero => intro f Lk hf hA hLb hm; exact absurd hm (Nat.not_lt_zero _)
    | succ fuel ih_f =>
      intro f Lk hf hA hLb hm_f
      have loop_t : ∀ (fuel : Nat), ∀ (t : Nat) (Lk1 : Nat → Nat), (f < 2 * n) → (t ≤ 2 * n) → (∀ p, p < f → ∀ q, q < 2 * n → Lk1 (18 * p + q) = sLk av p q) → (∀ q, q < t → Lk1 (18 * f + q) = sLk av f q) → (∀ j, Lk1 j ≤ 405630) → 2 * n - t < fuel → sx_W l X G 0 0 38 [(0, .ref (ad 3)), (1, .ref (ad 1)), (2, .ref (ad 2)), (3, .int (nI f)), (4, .int (nI t))] [] (sw X ad (va_up sc 2 (nI (2 * n))) (va_up (va_up av 13 (va_cpy (av 11) (av 13) 0 0 9)) 14 Lk1)) := by
        intro fuel
        induction fuel with
        | zero => intro t Lk1 hf2 ht hA1 hB1 hLb1 hm; exact absurd hm (Nat.not_lt_zero _)
        | succ fuel ih_t =>
          intro t Lk1 hf2 ht hA1 hB1 hLb1 hm_t
          refine sx_iload (pc := 38) hG dX4_takeOver_38 4 rfl ?_
          refine sx_aload_n (pc := 40) hG dX4_takeOver_40 rfl 0 rfl ?_
          refine sx_get (pc := 41) (v2 := .int (nI (2 * n))) (ci := 4) hG i_X4_takeOver_4 0 m_X4_takeOver_f9 dX4_takeOver_41 rfl (by decide) 3 rfl rfl rfl ?_
          refine sx_icmp_ge (pc := 44) (tgt := 73) (B := (2 * n) ≤ t) hG dX4_takeOver_44 (by decide) (nI_leI (by omega) (by omega)) (fun c44 => ?_) (fun c44 => ?_)
          · skip
            refine sx_iinc (pc := 73) (v := (nI (f + 1))) (lv2 := [(0, .ref (ad 3)), (1, .ref (ad 1)), (2, .ref (ad 2)), (3, .int (nI (f + 1))), (4, .int (nI t))]) hG [1, 2, 3, 0, 4] dX4_takeOver_73 3 rfl (sx_inc f) hN (by decide) rfl ?_
            refine sx_goto (pc := 76) (tgt := 27) hG dX4_takeOver_76 (by decide) ?_
            refine sx_lsub [0, 1, 2, 3] rfl ?_
            refine ih_f (f + 1) Lk1 (by omega) (fun p hp q hq => by rcases Nat.lt_or_ge p f with h | h; exact hA1 p h q hq; (have e : p = f := (by omega); subst e; exact hB1 q (by omega))) hLb1 (by omega)
          · skip
            refine sx_aload_n (pc := 47) hG dX4_takeOver_47 rfl 0 rfl ?_
            refine sx_get (pc := 48) (v2 := .ref (ad 14)) (ci := 4) hG i_X4_takeOver_4 2 m_X4_takeOver_f19 dX4_takeOver_48 rfl (by decide) 3 rfl rfl rfl ?_
            refine sx_iload_n (pc := 51) hG dX4_takeOver_51 rfl 3 rfl ?_
            refine sx_bipush (pc := 52) (v := nI 18) hG dX4_takeOver_52 (by decide +kernel) ?_
            refine sx_imul (pc := 54) (v := (nI (f * 18))) hG dX4_takeOver_54 (pk_mul f 18) ?_
            refine sx_iload (pc := 55) hG dX4_takeOver_55 4 rfl ?_
            refine sx_iadd (pc := 57) (v := (nI (f * 18 + t))) hG dX4_takeOver_57 (nI_add (f * 18) t) ?_
            refine sx_aload_n (pc := 58) hG dX4_takeOver_58 rfl 1 rfl ?_
            refine sx_aload_n (pc := 59) hG dX4_takeOver_59 rfl 2 rfl ?_
            refine sx_iload_n (pc := 60) hG dX4_takeOver_60 rfl 3 rfl ?_
            refine sx_iload (pc := 61) hG dX4_takeOver_61 4 rfl ?_
            refine sx_callViw (pc := 63) (n9 := 3) (As := [.ref (ad 2), .int (nI f), .int (nI t)]) (st := [.int (nI (f * 18 + t)), .ref (ad 14)]) (b := (ad 1)) (ci := 5) hG (c_X5_linkCost l X ad (va_up sc 2 (nI (2 * n))) (va_up (va_up av 13 (va_cpy (av 11) (av 13) 0 0 9)) 14 Lk1) f t (by omega) (by omega) ⟨hg.1, hg.2.1, hg.2.2.1, hg.2.2.2.1, hg.2.2.2.2.1, sCp_le hg⟩) gX4_takeOver_X5_linkCost rfl (by decide +kernel) rfl 1 rfl rfl rfl dX4_takeOver_63 ⟨rfl, rfl⟩ ⟨Nat.le_of_ble_eq_true rfl, Nat.le_of_ble_eq_true rfl⟩ (Nat.le_of_ble_eq_true rfl) ⟨Nat.le_of_ble_eq_true rfl, Nat.le_of_ble_eq_true rfl⟩ (fun r w1 hp => ?_)
            obtain ⟨hr9, hw9⟩ := hp
            have hr9 : r = (nI (sLk av f t)) := hr9
            subst hr9
            refine sx_weq hw9 ?_
            refine sx_iastN (pc := 66) (w2 := (sw X ad (va_up sc 2 (nI (2 * n))) (va_up (va_up av 13 (va_cpy (av 11) (av 13) 0 0 9)) 14 (va_up Lk1 (f * 18 + t) (sLk av f t))))) hG 14 dX4_takeOver_66 rfl (by decide) (by omega) rfl ?_
            refine sx_iinc (pc := 67) (v := (nI (t + 1))) (lv2 := [(0, .ref (ad 3)), (1, .ref (ad 1)), (2, .ref (ad 2)), (3, .int (nI f)), (4, .int (nI (t + 1)))]) hG [1, 2, 3, 4, 0] dX4_takeOver_67 4 rfl (sx_inc t) hN (by decide) rfl ?_
            refine sx_goto (pc := 70) (tgt := 38) hG dX4_takeOver_70 (by decide) ?_
            refine ih_t (t + 1) _ hf2 (by omega) (fun p hp q hq => by unfold va_up; rw [if_neg (by omega)]; exact hA1 p hp q hq) (fun q hq => by unfold va_up; by_cases e : q = t; (subst e; rw [if_pos (by omega)]); (rw [if_neg (by omega)]; exact hB1 q (by omega))) (fun j => by unfold va_up; split; exact sLk_le hg f t; exact hLb1 j) (by omega)
      refine sx_iload_n (pc := 27) hG dX4_takeOver_27 rfl 3 rfl ?_
      refine sx_aload_n (pc := 28) hG dX4_takeOver_28 rfl 0 rfl ?_
      refine sx_get (pc := 29) (v2 := .int (nI (2 * n))) (ci := 4) hG i_X4_takeOver_4 0 m_X4_takeOver_f9 dX4_takeOver_29 rfl (by decide) 3 rfl rfl rfl ?_
      refine sx_icmp_ge (pc := 32) (tgt := 79) (B := (2 * n) ≤ f) hG dX4_takeOver_32 (by decide) (nI_leI (by omega) (by omega)) (fun c32 => ?_) (fun c32 => ?_)
      · skip
        exact hret _ _ _ dX4_takeOver_79 ⟨Lk, rfl, fun p hp q hq => hA p (by omega) q hq, hLb⟩
      · skip
        refine sx_iconst (pc := 35) (v := nI 0) hG dX4_takeOver_35 (by decide +kernel) ?_
        refine sx_istore (pc := 36) (lv2 := [(0, .ref (ad 3)), (1, .ref (ad 1)), (2, .ref (ad 2)), (3, .int (nI f)), (4, .int (nI 0))]) hG [1, 2, 3, 4, 0] dX4_takeOver_36 hN (by decide) rfl ?_
        refine loop_t _ 0 Lk (by omega) (Nat.zero_le _) hA (fun q h => absurd h (Nat.not_lt_zero _)) hLb (Nat.lt_succ_self _)
  refine sx_aload_n (pc := 0) hG dX4_takeOver_0 rfl 0 rfl ?_
  refine sx_iconst (pc := 1) (v := nI 2) hG dX4_takeOver_1 (by decide +kernel) ?_
  refine sx_aload_n (pc := 2) hG dX4_takeOver_2 rfl 1 rfl ?_
  refine sx_getN (pc := 3) (v2 := .int (nI n)) (ci := 5) hG i_X4_takeOver_5 0 m_X4_takeOver_n48 dX4_takeOver_3 rfl (by decide) 1 rfl rfl (congrArg Value.int h1) ?_
  refine sx_imul (pc := 6) (v := (nI (2 * n))) hG dX4_takeOver_6 (pk_mul 2 n) ?_
  refine sx_put (pc := 7) (v := .int (nI (2 * n))) (ci := 4) (w2 := (sw X ad (va_up sc 2 (nI (2 * n))) av)) hG i_X4_takeOver_4 tyX4 tyX4_ok nmX4 0 m_X4_takeOver_f9 dX4_takeOver_7 rfl (by decide) 3 rfl rfl rfl rfl (Nat.le_of_ble_eq_true rfl) rfl ?_
  refine sx_aload_n (pc := 10) hG dX4_takeOver_10 rfl 1 rfl ?_
  refine sx_getN (pc := 11) (v2 := .ref (ad 11)) (ci := 5) hG i_X4_takeOver_5 4 m_X4_takeOver_n51 dX4_takeOver_11 rfl (by decide) 1 rfl rfl rfl ?_
  refine sx_iconst (pc := 14) (v := nI 0) hG dX4_takeOver_14 (by decide +kernel) ?_
  refine sx_aload_n (pc := 15) hG dX4_takeOver_15 rfl 0 rfl ?_
  refine sx_get (pc := 16) (v2 := .ref (ad 13)) (ci := 4) hG i_X4_takeOver_4 1 m_X4_takeOver_f15 dX4_takeOver_16 rfl (by decide) 3 rfl rfl rfl ?_
  refine sx_iconst (pc := 19) (v := nI 0) hG dX4_takeOver_19 (by decide +kernel) ?_
  refine sx_bipush (pc := 20) (v := nI 9) hG dX4_takeOver_20 (by decide +kernel) ?_
  refine sx_copy (pc := 22) (w2 := (sw X ad (va_up sc 2 (nI (2 * n))) (va_up av 13 (va_cpy (av 11) (av 13) 0 0 9)))) hG 11 13 m_X4_takeOver_j52 dX4_takeOver_22 rfl rfl (by decide) (by decide) (by decide) (Nat.le_of_ble_eq_true rfl) (by decide +kernel) rfl ?_
  refine sx_iconst (pc := 25) (v := nI 0) hG dX4_takeOver_25 (by decide +kernel) ?_
  refine sx_istore_n (pc := 26) (lv2 := [(0, .ref (ad 3)), (1, .ref (ad 1)), (2, .ref (ad 2)), (3, .int (nI 0))]) hG [1, 2, 3, 0] dX4_takeOver_26 rfl hN (by decide) rfl ?_
  refine sx_weq (w2 := (sw X ad (va_up sc 2 (nI (2 * n))) (va_up (va_up av 13 (va_cpy (av 11) (av 13) 0 0 9)) 14 (av 14)))) rfl ?_
  refine loop_f _ 0 (av 14) (Nat.zero_le _) (fun p h => absurd h (Nat.not_lt_zero _)) hb0 (Nat.lt_succ_self _)

theorem i_X4_refresh_4 : ∀ w ∈ u_ws RX4 TX4 7, w ∈ wsX4_refresh := by decide +kernel
theorem m_X4_refresh_f31 : Cond.fieldLink RX4 31 (TX4 6).1 (TX4 6).2.1 (TX4 6).2.2.1 ∈ wsX4_refresh := by decide +kernel
set_option maxHeartbeats 4000000 in
set_option maxRecDepth 100000 in
theorem c_X4_refresh (l : Launch) (X : sx_X) (ad : Nat → Nat) (sc : Nat → Int32) (av : Nat → Nat → Nat) (n J : Nat) (hn : n ≤ 9) (hJ : J ≤ n) (h1 : sc 1 = nI n) (h3 : sc 3 = nI (2 ^ J)) (hg : sG av) (hR : rTab av J (sc 2) (av 13) (av 14) (av 15) (av 16)) : sx_Mv l yX4_refresh wsX4_refresh { frames := 4, cells := 0, slots := 0, locals := 95 } X [.ref (ad 3), .ref (ad 1), .ref (ad 2)] (sw X ad sc av) (fun w => ∃ (v2 v3 : Int32) (A13 A14 A15 A16 : Nat → Nat), w = sw X ad (va_up (va_up sc 2 v2) 3 v3) (va_up (va_up (va_up (va_up av 13 A13) 14 A14) 15 A15) 16 A16) ∧ v3 = nI (2 ^ n) ∧ rTab av n v2 A13 A14 A15 A16) 0 0 := by
  refine sx_entV (own := RX4) (nL := 5) (by decide +kernel) rfl rfl (Nat.le_of_ble_eq_true rfl) ?_
  intro G hG hN hini hret
  show sx_W l X G 0 0 0 [(0, .ref (ad 3)), (1, .ref (ad 1)), (2, .ref (ad 2))] [] (sw X ad sc av)
  have hp9 := sx_p9 hn
  have hp1 : 1 ≤ 2 ^ n := Nat.one_le_two_pow
  have hpJ := sx_p9 (show J ≤ 9 by omega)
  have hpJ1 : 1 ≤ 2 ^ J := Nat.one_le_two_pow
  obtain ⟨-, -, -, -, hb14, hb15, hT⟩ := id hR
  refine sx_aload_n (pc := 0) hG dX4_refresh_0 rfl 1 rfl ?_
  refine sx_callViw (pc := 1) (n9 := 0) (As := []) (st := []) (b := (ad 1)) (ci := 5) hG (c_X5_all l X ad sc av n hn h1) gX4_refresh_X5_all rfl (by decide +kernel) rfl 1 rfl rfl rfl dX4_refresh_1 ⟨rfl, rfl⟩ ⟨Nat.le_of_ble_eq_true rfl, Nat.le_of_ble_eq_true rfl⟩ (Nat.le_of_ble_eq_true rfl) ⟨Nat.le_of_ble_eq_true rfl, Nat.le_of_ble_eq_true rfl⟩ (fun r w1 hp => ?_)
  obtain ⟨hr9, hw9⟩ := hp
  have hr9 : r = (nI (2 ^ n - 1)) := hr9
  subst hr9
  refine sx_weq hw9 ?_
  refine sx_iconst (pc := 4) (v := nI 1) hG dX4_refresh_4 (by decide +kernel) ?_
  refine sx_iadd (pc := 5) (v := (nI (2 ^ n))) hG dX4_refresh_5 ((nI_add (2 ^ n - 1) 1).trans (congrArg nI (by omega))) ?_
  refine sx_istore_n (pc := 6) (lv2 := [(0, .ref (ad 3)), (1, .ref (ad 1)), (2, .ref (ad 2)), (3, .int (nI (2 ^ n)))]) hG [1, 2, 3, 0] dX4_refresh_6 rfl hN (by decide) rfl ?_
  refine sx_aload_n (pc := 7) hG dX4_refresh_7 rfl 0 rfl ?_
  refine sx_get (pc := 8) (v2 := .int (nI (2 ^ J))) (ci := 4) hG i_X4_refresh_4 6 m_X4_refresh_f31 dX4_refresh_8 rfl (by decide) 3 rfl rfl (congrArg Value.int h3) ?_
  refine sx_iload_n (pc := 11) hG dX4_refresh_11 rfl 3 rfl ?_
  refine sx_icmp_lt (pc := 12) (tgt := 16) (B := (2 ^ J) < (2 ^ n)) hG dX4_refresh_12 (by decide) (nI_ltI (by omega) (by omega)) (fun c12 => ?_) (fun c12 => ?_)
  · skip
    refine sx_aload_n (pc := 16) hG dX4_refresh_16 rfl 0 rfl ?_
    refine sx_aload_n (pc := 17) hG dX4_refresh_17 rfl 1 rfl ?_
    refine sx_aload_n (pc := 18) hG dX4_refresh_18 rfl 2 rfl ?_
    refine sx_callVvw (pc := 19) (n9 := 2) (As := [.ref (ad 1), .ref (ad 2)]) (st := []) (b := (ad 3)) (ci := 4) hG (c_X4_takeOver l X ad sc av n hn h1 hg hb14) gX4_refresh_X4_takeOver rfl (by decide +kernel) rfl 3 rfl rfl rfl dX4_refresh_19 ⟨rfl, rfl⟩ ⟨Nat.le_of_ble_eq_true rfl, Nat.le_of_ble_eq_true rfl⟩ (Nat.le_of_ble_eq_true rfl) ⟨Nat.le_of_ble_eq_true rfl, Nat.le_of_ble_eq_true rfl⟩ (fun w1 hp => ?_)
    obtain ⟨Lk, hw9, hlk, hlb⟩ := hp
    refine sx_weq hw9 ?_
    refine sx_aload_n (pc := 22) hG dX4_refresh_22 rfl 0 rfl ?_
    refine sx_get (pc := 23) (v2 := .int (nI (2 ^ J))) (ci := 4) hG i_X4_refresh_4 6 m_X4_refresh_f31 dX4_refresh_23 rfl (by decide) 3 rfl rfl (congrArg Value.int h3) ?_
    refine sx_istore (pc := 26) (lv2 := [(0, .ref (ad 3)), (1, .ref (ad 1)), (2, .ref (ad 2)), (3, .int (nI (2 ^ n))), (4, .int (nI (2 ^ J)))]) hG [1, 2, 3, 4, 0] dX4_refresh_26 hN (by decide) rfl ?_
    have loop_s : ∀ (fuel : Nat), ∀ (s : Nat) (K B : Nat → Nat), (1 ≤ s) → (s ≤ 2 ^ n) → (cT (av 11) (sLk av) K B s) → (∀ j, K j ≤ 5000000) → 2 ^ n - s < fuel → sx_W l X G 0 0 28 [(0, .ref (ad 3)), (1, .ref (ad 1)), (2, .ref (ad 2)), (3, .int (nI (2 ^ n))), (4, .int (nI s))] [] (sw X ad (va_up sc 2 (nI (2 * n))) (va_up (va_up (va_up (va_up av 13 (sCp av)) 14 Lk) 15 K) 16 B)) := by
      intro fuel
      induction fuel with
      | zero => intro s K B hs1 hs hT1 hKb hm; exact absurd hm (Nat.not_lt_zero _)
      | succ fuel ih_s =>
        intro s K B hs1 hs hT1 hKb hm_s
        refine sx_iload (pc := 28) hG dX4_refresh_28 4 rfl ?_
        refine sx_iload_n (pc := 30) hG dX4_refresh_30 rfl 3 rfl ?_
        refine sx_icmp_ge (pc := 31) (tgt := 46) (B := (2 ^ n) ≤ s) hG dX4_refresh_31 (by decide) (nI_leI (by omega) (by omega)) (fun c31 => ?_) (fun c31 => ?_)
        · skip
          refine sx_aload_n (pc := 46) hG dX4_refresh_46 rfl 0 rfl ?_
          refine sx_iload_n (pc := 47) hG dX4_refresh_47 rfl 3 rfl ?_
          refine sx_put (pc := 48) (v := .int (nI (2 ^ n))) (ci := 4) (w2 := (sw X ad (va_up (va_up sc 2 (nI (2 * n))) 3 (nI (2 ^ n))) (va_up (va_up (va_up (va_up av 13 (sCp av)) 14 Lk) 15 K) 16 B))) hG i_X4_refresh_4 tyX4 tyX4_ok nmX4 6 m_X4_refresh_f31 dX4_refresh_48 rfl (by decide) 3 rfl rfl rfl rfl (Nat.le_of_ble_eq_true rfl) rfl ?_
          exact hret _ _ _ dX4_refresh_51 ⟨_, _, _, Lk, K, B, rfl, rfl, Or.inr rfl, fun i hi => sCp_eq av (by omega), sCp_le hg, hlk, hlb, hKb, by rw [show 2 ^ n = s by omega]; exact hT1⟩
        · skip
          refine sx_aload_n (pc := 34) hG dX4_refresh_34 rfl 0 rfl ?_
          refine sx_iload (pc := 35) hG dX4_refresh_35 4 rfl ?_
          refine sx_callVvw (pc := 37) (n9 := 1) (As := [.int (nI s)]) (st := []) (b := (ad 3)) (ci := 4) hG (c_X4_fill l X ad (va_up sc 2 (nI (2 * n))) (va_up (va_up (va_up (va_up av 13 (sCp av)) 14 Lk) 15 K) 16 B) n hn rfl (av 11) (sLk av) (fun i hi => sCp_eq av (by omega)) hg.2.2.2.1 hlk (sLk_le hg) hlb hKb s (by omega) (by omega) hT1) gX4_refresh_X4_fill rfl (by decide +kernel) rfl 3 rfl rfl rfl dX4_refresh_37 ⟨rfl, rfl⟩ ⟨Nat.le_of_ble_eq_true rfl, Nat.le_of_ble_eq_true rfl⟩ (Nat.le_of_ble_eq_true rfl) ⟨Nat.le_of_ble_eq_true rfl, Nat.le_of_ble_eq_true rfl⟩ (fun w1 hp => ?_)
          obtain ⟨K1, B1, hw9, hT2, hKb1, -⟩ := hp
          refine sx_weq hw9 ?_
          refine sx_weq (w2 := (sw X ad (va_up sc 2 (nI (2 * n))) (va_up (va_up (va_up (va_up av 13 (sCp av)) 14 Lk) 15 K1) 16 B1))) rfl ?_
          refine sx_iinc (pc := 40) (v := (nI (s + 1))) (lv2 := [(0, .ref (ad 3)), (1, .ref (ad 1)), (2, .ref (ad 2)), (3, .int (nI (2 ^ n))), (4, .int (nI (s + 1)))]) hG [1, 2, 3, 4, 0] dX4_refresh_40 4 rfl (sx_inc s) hN (by decide) rfl ?_
          refine sx_goto (pc := 43) (tgt := 28) hG dX4_refresh_43 (by decide) ?_
          refine ih_s (s + 1) K1 B1 (by omega) (by omega) hT2 hKb1 (by omega)
    refine sx_weq (w2 := (sw X ad (va_up sc 2 (nI (2 * n))) (va_up (va_up (va_up (va_up av 13 (sCp av)) 14 Lk) 15 (av 15)) 16 (av 16)))) rfl ?_
    refine loop_s _ (2 ^ J) (av 15) (av 16) (by omega) (by omega) hT hb15 (Nat.lt_succ_self _)
  · skip
    have hJn : J = n := by rcases Nat.lt_or_ge J n with h | h; exact absurd (Nat.pow_lt_pow_right (a := 2) (by decide) h) (by omega); omega
    subst hJn
    exact hret _ _ _ dX4_refresh_15 ⟨sc 2, sc 3, av 13, av 14, av 15, av 16, rfl, h3, hR⟩
