/-! THE CLASS: weigh -/
/-- the class's table of looks, from its last rows on -/
def jT (Z Y : Nat → Nat) (m f : Nat) : Prop := ∀ a z, f ≤ a → a ≤ z → z < m → Y (9 * a + z) = dV Z Y a z z ∧ Y (9 * a + z) ≤ 1000000 * (z - a)
def jR (Z Y : Nat → Nat) (a t : Nat) : Prop := ∀ z, a ≤ z → z < t → Y (9 * a + z) = dV Z Y a z z ∧ Y (9 * a + z) ≤ 1000000 * (z - a)
theorem jV_up {Z Y : Nat → Nat} {m a t p z v k : Nat} (hm : m ≤ 9) (ht : t < m) (hp : (a + 1 ≤ p) ∨ (p = a ∧ z ≤ t)) (hpz : p ≤ z) (hz : z < m) (hk : k ≤ z) : dV Z (va_up Y (a * 9 + t) v) p z k = dV Z Y p z k := by
  refine dV_congr hk (fun j j1 j2 => ⟨?_, ?_⟩)
  · unfold va_up; rw [if_neg (by omega)]
  · unfold va_up; rw [if_neg (by omega)]
theorem jT_up {Z Y : Nat → Nat} {m a t v : Nat} (hm : m ≤ 9) (ht : t < m) (h : jT Z Y m (a + 1)) : jT Z (va_up Y (a * 9 + t) v) m (a + 1) := by
  intro p z h1 h2 h3
  rw [jV_up hm ht (Or.inl h1) h2 h3 (Nat.le_refl _), show va_up Y (a * 9 + t) v (9 * p + z) = Y (9 * p + z) by unfold va_up; rw [if_neg (by omega)]]
  exact h p z h1 h2 h3
theorem jR_up {Z Y : Nat → Nat} {m a t v : Nat} (hm : m ≤ 9) (hat : a ≤ t) (ht : t < m) (h : jR Z Y a t) (hv : v = dV Z Y a t t) (hb : v ≤ 1000000 * (t - a)) : jR Z (va_up Y (a * 9 + t) v) a (t + 1) := by
  intro z h1 h2
  rw [jV_up hm ht (Or.inr ⟨rfl, by omega⟩) h1 (by omega) (Nat.le_refl _)]
  by_cases e : z = t
  · subst e
    rw [show va_up Y (a * 9 + z) v (9 * a + z) = v by unfold va_up; rw [if_pos (by omega)]]
    exact ⟨hv, hb⟩
  · rw [show va_up Y (a * 9 + t) v (9 * a + z) = Y (9 * a + z) by unfold va_up; rw [if_neg (by omega)]]
    exact h z h1 (by omega)
theorem jT_next {Z Y : Nat → Nat} {m a : Nat} (h : jT Z Y m (a + 1)) (hr : jR Z Y a m) : jT Z Y m a := by
  intro p z h1 h2 h3
  by_cases e : p = a
  · subst e; exact hr z h2 h3
  · exact h p z (by omega) h2 h3
/-- what stands at a new place: the length and both sides of the best joint -/
theorem jNew {Z Y : Nat → Nat} {m a t q len : Nat} (hZ : ∀ j, Z j ≤ 4095) (hm : m ≤ 9) (hat : a < t) (ht : t < m) (hT : jT Z Y m (a + 1)) (hR : jR Z Y a t) (hl : len = dS Z a (t + 1 - a)) (hq : jB Y a t t q) : len + jF Y a t q = dV Z Y a t t ∧ len + jF Y a t q ≤ 1000000 * (t - a) := by
  obtain ⟨q1, q2, -, -⟩ := id hq
  have h1 := (hR q q1 q2).2
  have h2 := (hT (q + 1) t (by omega) (by omega) ht).2
  rw [show 9 * (q + 1) + t = 9 * q + 9 + t by omega] at h2
  have h3 := dS_le (Z := Z) (fun j => Nat.le_trans (hZ j) (by decide)) a (t + 1 - a)
  have h4 : (t + 1 - a) * 99999 ≤ 9 * 99999 := Nat.mul_le_mul_right 99999 (by omega)
  have e : len + jF Y a t q = dF Z Y a t q := by rw [hl]; unfold dF jF; omega
  have hlt : dF Z Y a t q < 2000000000 := by rw [← e]; unfold jF; omega
  have hv := (jB_dV hq (by omega) hlt).1
  refine ⟨e.trans hv.symm, ?_⟩
  unfold jF; omega
theorem i_X1_weigh_2 : ∀ w ∈ u_ws RX2 TX2 4, w ∈ wsX1_weigh := by decide +kernel
theorem m_X1_weigh_n22 : Cond.fieldLinkNest RX1 22 (TX2 0).1 (TX2 0).2.1 (TX2 0).2.2.1 "TubeShop" ∈ sx_nest := by decide +kernel
theorem m_X1_weigh_n27 : Cond.fieldLinkNest RX1 27 (TX2 2).1 (TX2 2).2.1 (TX2 2).2.2.1 "TubeShop" ∈ sx_nest := by decide +kernel
theorem i_X1_weigh_1 : ∀ w ∈ u_ws RX1 TX1 3, w ∈ wsX1_weigh := by decide +kernel
theorem m_X1_weigh_f18 : Cond.fieldLink RX1 18 (TX1 2).1 (TX1 2).2.1 (TX1 2).2.2.1 ∈ wsX1_weigh := by decide +kernel
theorem m_X1_weigh_f9 : Cond.fieldLink RX1 9 (TX1 0).1 (TX1 0).2.1 (TX1 0).2.2.1 ∈ wsX1_weigh := by decide +kernel
theorem m_X1_weigh_f15 : Cond.fieldLink RX1 15 (TX1 1).1 (TX1 1).2.1 (TX1 1).2.2.1 ∈ wsX1_weigh := by decide +kernel
set_option maxHeartbeats 4000000 in
set_option maxRecDepth 100000 in
theorem c_X1_weigh (l : Launch) (X : sx_X) (ad : Nat → Nat) (sc : Nat → Int32) (av : Nat → Nat → Nat) (m : Nat) (hm : m ≤ 9) (h5 : sc 5 = nI m) (hZ : ∀ j, av 20 j ≤ 4095) (hY0 : ∀ j, av 24 j ≤ 10000000) : sx_Mv l yX1_weigh wsX1_weigh { frames := 2, cells := 0, slots := 0, locals := 47 } X [.ref (ad 7), .ref (ad 5)] (sw X ad sc av) (fun w => ∃ Y : Nat → Nat, (∀ j, Y j ≤ 10000000) ∧ jT (av 20) Y m 0 ∧ ((m ≤ 1 ∧ w = sw X ad (va_up (va_up sc 6 (nI 0)) 7 (-1)) (va_up av 24 Y)) ∨ (2 ≤ m ∧ ∃ q, w = sw X ad (va_up (va_up sc 6 (nI (Y (m - 1)))) 7 (nI q)) (va_up av 24 Y) ∧ jB Y 0 (m - 1) (m - 1) q))) 0 0 := by
  refine sx_entV (own := RX1) (nL := 6) (by decide +kernel) rfl rfl (Nat.le_of_ble_eq_true rfl) ?_
  intro G hG hN hini hret
  show sx_W l X G 0 0 0 [(0, .ref (ad 7)), (1, .ref (ad 5))] [] (sw X ad sc av)
  have loop_f : ∀ (fuel : Nat), ∀ (f : Nat) (Y : Nat → Nat), (f ≤ m) → (jT (av 20) Y m f) → (∀ j, Y j ≤ 10000000) → f < fuel → sx_W l X G 0 0 17 [(0, .ref (ad 7)), (1, .ref (ad 5)), (2, .int (nI f - nI 1))] [] (sw X ad (va_up (va_up sc 6 (nI 0)) 7 (-1)) (va_up av 24 Y)) := by
    intro fuel
    induction fuel with
    | zero => intro f Y hf hT hYb hm; exact absurd hm (Nat.not_lt_zero _)
    | succ fuel ih_f =>
      intro f Y hf hT hYb hm_f
      have e0 : (nI f - nI 1).toInt = (f : Int) - 1 := pk_sub_toInt (by omega) (by decide)
      have loop_t : ∀ (fuel : Nat), ∀ (a t len : Nat) (Y1 : Nat → Nat), (a + 1 = f) → (a + 1 ≤ t) → (t ≤ m) → (len = dS (av 20) a (t - a)) → (jT (av 20) Y1 m (a + 1)) → (jR (av 20) Y1 a t) → (∀ j, Y1 j ≤ 10000000) → m - t < fuel → sx_W l X G 0 0 45 [(0, .ref (ad 7)), (1, .ref (ad 5)), (2, .int (nI a)), (3, .int (nI len)), (4, .int (nI t))] [] (sw X ad (va_up (va_up sc 6 (nI 0)) 7 (-1)) (va_up av 24 Y1)) := by
        intro fuel
        induction fuel with
        | zero => intro a t len Y1 haf hat ht hlen hT1 hR hYb1 hm; exact absurd hm (Nat.not_lt_zero _)
        | succ fuel ih_t =>
          intro a t len Y1 haf hat ht hlen hT1 hR hYb1 hm_t
          refine sx_iload (pc := 45) hG dX1_weigh_45 4 rfl ?_
          refine sx_aload_n (pc := 47) hG dX1_weigh_47 rfl 1 rfl ?_
          refine sx_getN (pc := 48) (v2 := .int (nI m)) (ci := 2) hG i_X1_weigh_2 0 m_X1_weigh_n22 dX1_weigh_48 rfl (by decide) 5 rfl rfl (congrArg Value.int h5) ?_
          refine sx_icmp_ge (pc := 51) (tgt := 102) (B := m ≤ t) hG dX1_weigh_51 (by decide) (nI_leI (by omega) (by omega)) (fun c51 => ?_) (fun c51 => ?_)
          · skip
            refine sx_iinc (pc := 102) (v := (nI a - nI 1)) (lv2 := [(0, .ref (ad 7)), (1, .ref (ad 5)), (2, .int (nI a - nI 1)), (3, .int (nI len)), (4, .int (nI t))]) hG [1, 2, 0, 3, 4] dX1_weigh_102 2 rfl (sx_dec1 a) hN (by decide) rfl ?_
            refine sx_goto (pc := 105) (tgt := 17) hG dX1_weigh_105 (by decide) ?_
            refine sx_lsub [0, 1, 2] rfl ?_
            refine ih_f a Y1 (by omega) (jT_next hT1 (by rw [show m = t by omega]; exact hR)) hYb1 (by omega)
          · skip
            have hZt := hZ t
            have hlb := dS_le (Z := av 20) (fun j => Nat.le_trans (hZ j) (by decide)) a (t - a)
            have hlc : (t - a) * 99999 ≤ 9 * 99999 := Nat.mul_le_mul_right 99999 (by omega)
            refine sx_iload_n (pc := 54) hG dX1_weigh_54 rfl 3 rfl ?_
            refine sx_aload_n (pc := 55) hG dX1_weigh_55 rfl 1 rfl ?_
            refine sx_getN (pc := 56) (v2 := .ref (ad 20)) (ci := 2) hG i_X1_weigh_2 2 m_X1_weigh_n27 dX1_weigh_56 rfl (by decide) 5 rfl rfl rfl ?_
            refine sx_iload (pc := 59) hG dX1_weigh_59 4 rfl ?_
            refine sx_iald (pc := 61) (v := nI ((av 20) t)) hG 20 dX1_weigh_61 rfl (by decide) (by omega) rfl ?_
            refine sx_iadd (pc := 62) (v := (nI (len + ((av 20) t)))) hG dX1_weigh_62 (nI_add len ((av 20) t)) ?_
            refine sx_istore_n (pc := 63) (lv2 := [(0, .ref (ad 7)), (1, .ref (ad 5)), (2, .int (nI a)), (3, .int (nI (len + ((av 20) t)))), (4, .int (nI t))]) hG [1, 2, 3, 0, 4] dX1_weigh_63 rfl hN (by decide) rfl ?_
            refine sx_aload_n (pc := 64) hG dX1_weigh_64 rfl 0 rfl ?_
            refine sx_iload_n (pc := 65) hG dX1_weigh_65 rfl 2 rfl ?_
            refine sx_iload (pc := 66) hG dX1_weigh_66 4 rfl ?_
            refine sx_callViw (pc := 68) (n9 := 2) (As := [.int (nI a), .int (nI t)]) (st := []) (b := (ad 7)) (ci := 1) hG (c_X1_bestJoint l X ad (va_up (va_up sc 6 (nI 0)) 7 (-1)) (va_up av 24 Y1) a t (by omega) (by omega) hYb1) gX1_weigh_X1_bestJoint rfl (by decide +kernel) rfl 7 rfl rfl rfl dX1_weigh_68 ⟨rfl, rfl⟩ ⟨Nat.le_of_ble_eq_true rfl, Nat.le_of_ble_eq_true rfl⟩ (Nat.le_of_ble_eq_true rfl) ⟨Nat.le_of_ble_eq_true rfl, Nat.le_of_ble_eq_true rfl⟩ (fun r w1 hp => ?_)
            obtain ⟨q, hr9, hw9, hq⟩ := hp
            subst hr9
            refine sx_weq hw9 ?_
            have hq : jB Y1 a t t q := hq
            obtain ⟨q1, q2, -, -⟩ := id hq
            obtain ⟨n1, n2⟩ := jNew (len := len + av 20 t) hZ hm (by omega) (by omega) hT1 hR (by rw [hlen, show t + 1 - a = (t - a) + 1 by omega, dS_step, show a + (t - a) = t by omega]) hq
            refine sx_istore (pc := 71) (lv2 := [(0, .ref (ad 7)), (1, .ref (ad 5)), (2, .int (nI a)), (3, .int (nI (len + ((av 20) t)))), (4, .int (nI t)), (5, .int (nI q))]) hG [1, 2, 3, 4, 5, 0] dX1_weigh_71 hN (by decide) rfl ?_
            refine sx_aload_n (pc := 73) hG dX1_weigh_73 rfl 0 rfl ?_
            refine sx_get (pc := 74) (v2 := .ref (ad 24)) (ci := 1) hG i_X1_weigh_1 2 m_X1_weigh_f18 dX1_weigh_74 rfl (by decide) 7 rfl rfl rfl ?_
            refine sx_iload_n (pc := 77) hG dX1_weigh_77 rfl 2 rfl ?_
            refine sx_bipush (pc := 78) (v := nI 9) hG dX1_weigh_78 (by decide +kernel) ?_
            refine sx_imul (pc := 80) (v := (nI (a * 9))) hG dX1_weigh_80 (pk_mul a 9) ?_
            refine sx_iload (pc := 81) hG dX1_weigh_81 4 rfl ?_
            refine sx_iadd (pc := 83) (v := (nI (a * 9 + t))) hG dX1_weigh_83 (nI_add (a * 9) t) ?_
            refine sx_iload_n (pc := 84) hG dX1_weigh_84 rfl 3 rfl ?_
            refine sx_aload_n (pc := 85) hG dX1_weigh_85 rfl 0 rfl ?_
            refine sx_iload_n (pc := 86) hG dX1_weigh_86 rfl 2 rfl ?_
            refine sx_iload (pc := 87) hG dX1_weigh_87 5 rfl ?_
            refine sx_iload (pc := 89) hG dX1_weigh_89 4 rfl ?_
            refine sx_callViw (pc := 91) (n9 := 3) (As := [.int (nI a), .int (nI q), .int (nI t)]) (st := [.int (nI (len + ((av 20) t))), .int (nI (a * 9 + t)), .ref (ad 24)]) (b := (ad 7)) (ci := 1) hG (c_X1_bothSides l X ad (va_up (va_up sc 6 (nI 0)) 7 (-1)) (va_up av 24 Y1) a q t (by omega) q1 q2 hYb1) gX1_weigh_X1_bothSides rfl (by decide +kernel) rfl 7 rfl rfl rfl dX1_weigh_91 ⟨rfl, rfl⟩ ⟨Nat.le_of_ble_eq_true rfl, Nat.le_of_ble_eq_true rfl⟩ (Nat.le_of_ble_eq_true rfl) ⟨Nat.le_of_ble_eq_true rfl, Nat.le_of_ble_eq_true rfl⟩ (fun r w1 hp => ?_)
            obtain ⟨hr9, hw9⟩ := hp
            have hr9 : r = (nI (jF Y1 a t q)) := hr9
            subst hr9
            refine sx_weq hw9 ?_
            refine sx_iadd (pc := 94) (v := (nI (len + ((av 20) t) + (jF Y1 a t q)))) hG dX1_weigh_94 (nI_add (len + ((av 20) t)) (jF Y1 a t q)) ?_
            refine sx_iastN (pc := 95) (w2 := (sw X ad (va_up (va_up sc 6 (nI 0)) 7 (-1)) (va_up av 24 (va_up Y1 (a * 9 + t) (len + ((av 20) t) + (jF Y1 a t q)))))) hG 24 dX1_weigh_95 rfl (by decide) (by omega) rfl ?_
            refine sx_iinc (pc := 96) (v := (nI (t + 1))) (lv2 := [(0, .ref (ad 7)), (1, .ref (ad 5)), (2, .int (nI a)), (3, .int (nI (len + ((av 20) t)))), (4, .int (nI (t + 1))), (5, .int (nI q))]) hG [1, 2, 3, 4, 0, 5] dX1_weigh_96 4 rfl (sx_inc t) hN (by decide) rfl ?_
            refine sx_goto (pc := 99) (tgt := 45) hG dX1_weigh_99 (by decide) ?_
            refine sx_lsub [0, 1, 2, 3, 4] rfl ?_
            refine ih_t a (t + 1) _ _ haf (by omega) (by omega) (by rw [hlen, show t + 1 - a = (t - a) + 1 by omega, dS_step, show a + (t - a) = t by omega]) (jT_up hm (by omega) hT1) (jR_up hm (by omega) (by omega) hR n1 n2) (fun j => by unfold va_up; split; omega; exact hYb1 j) (by omega)
      refine sx_iload_n (pc := 17) hG dX1_weigh_17 rfl 2 rfl ?_
      refine sx_if_lt (pc := 18) (tgt := 108) (B := (nI f - nI 1).toInt < 0) hG dX1_weigh_18 (by decide) (sx_rlt0 _) (fun c18 => ?_) (fun c18 => ?_)
      · skip
        have hf0 : f = 0 := by omega
        subst hf0
        refine sx_aload_n (pc := 108) hG dX1_weigh_108 rfl 1 rfl ?_
        refine sx_getN (pc := 109) (v2 := .int (nI m)) (ci := 2) hG i_X1_weigh_2 0 m_X1_weigh_n22 dX1_weigh_109 rfl (by decide) 5 rfl rfl (congrArg Value.int h5) ?_
        refine sx_iconst (pc := 112) (v := nI 1) hG dX1_weigh_112 (by decide +kernel) ?_
        refine sx_icmp_le (pc := 113) (tgt := 146) (B := m ≤ 1) hG dX1_weigh_113 (by decide) (nI_leI (by omega) (by omega)) (fun c113 => ?_) (fun c113 => ?_)
        · skip
          exact hret _ _ _ dX1_weigh_146 ⟨Y, hYb, hT, Or.inl ⟨by omega, rfl⟩⟩
        · skip
          have hYm := hYb (m - 1)
          refine sx_aload_n (pc := 116) hG dX1_weigh_116 rfl 0 rfl ?_
          refine sx_aload_n (pc := 117) hG dX1_weigh_117 rfl 0 rfl ?_
          refine sx_get (pc := 118) (v2 := .ref (ad 24)) (ci := 1) hG i_X1_weigh_1 2 m_X1_weigh_f18 dX1_weigh_118 rfl (by decide) 7 rfl rfl rfl ?_
          refine sx_aload_n (pc := 121) hG dX1_weigh_121 rfl 1 rfl ?_
          refine sx_getN (pc := 122) (v2 := .int (nI m)) (ci := 2) hG i_X1_weigh_2 0 m_X1_weigh_n22 dX1_weigh_122 rfl (by decide) 5 rfl rfl (congrArg Value.int h5) ?_
          refine sx_iconst (pc := 125) (v := nI 1) hG dX1_weigh_125 (by decide +kernel) ?_
          refine sx_isub (pc := 126) (v := (nI (m - 1))) hG dX1_weigh_126 (pk_sub (by omega)) ?_
          refine sx_iald (pc := 127) (v := nI (Y (m - 1))) hG 24 dX1_weigh_127 rfl (by decide) (by omega) rfl ?_
          refine sx_put (pc := 128) (v := .int (nI (Y (m - 1)))) (ci := 1) (w2 := (sw X ad (va_up (va_up sc 6 (nI (Y (m - 1)))) 7 (-1)) (va_up av 24 Y))) hG i_X1_weigh_1 tyX1 tyX1_ok nmX1 0 m_X1_weigh_f9 dX1_weigh_128 rfl (by decide) 7 rfl rfl rfl rfl (Nat.le_of_ble_eq_true rfl) rfl ?_
          refine sx_aload_n (pc := 131) hG dX1_weigh_131 rfl 0 rfl ?_
          refine sx_aload_n (pc := 132) hG dX1_weigh_132 rfl 0 rfl ?_
          refine sx_iconst (pc := 133) (v := nI 0) hG dX1_weigh_133 (by decide +kernel) ?_
          refine sx_aload_n (pc := 134) hG dX1_weigh_134 rfl 1 rfl ?_
          refine sx_getN (pc := 135) (v2 := .int (nI m)) (ci := 2) hG i_X1_weigh_2 0 m_X1_weigh_n22 dX1_weigh_135 rfl (by decide) 5 rfl rfl (congrArg Value.int h5) ?_
          refine sx_iconst (pc := 138) (v := nI 1) hG dX1_weigh_138 (by decide +kernel) ?_
          refine sx_isub (pc := 139) (v := (nI (m - 1))) hG dX1_weigh_139 (pk_sub (by omega)) ?_
          refine sx_callViw (pc := 140) (n9 := 2) (As := [.int (nI 0), .int (nI (m - 1))]) (st := [.ref (ad 7)]) (b := (ad 7)) (ci := 1) hG (c_X1_bestJoint l X ad (va_up (va_up sc 6 (nI (Y (m - 1)))) 7 (-1)) (va_up av 24 Y) 0 (m - 1) (by omega) (by omega) hYb) gX1_weigh_X1_bestJoint rfl (by decide +kernel) rfl 7 rfl rfl rfl dX1_weigh_140 ⟨rfl, rfl⟩ ⟨Nat.le_of_ble_eq_true rfl, Nat.le_of_ble_eq_true rfl⟩ (Nat.le_of_ble_eq_true rfl) ⟨Nat.le_of_ble_eq_true rfl, Nat.le_of_ble_eq_true rfl⟩ (fun r w1 hp => ?_)
          obtain ⟨q, hr9, hw9, hq⟩ := hp
          subst hr9
          refine sx_weq hw9 ?_
          have hq : jB Y 0 (m - 1) (m - 1) q := hq
          refine sx_put (pc := 143) (v := .int (nI q)) (ci := 1) (w2 := (sw X ad (va_up (va_up sc 6 (nI (Y (m - 1)))) 7 (nI q)) (va_up av 24 Y))) hG i_X1_weigh_1 tyX1 tyX1_ok nmX1 1 m_X1_weigh_f15 dX1_weigh_143 rfl (by decide) 7 rfl rfl rfl rfl (Nat.le_of_ble_eq_true rfl) rfl ?_
          exact hret _ _ _ dX1_weigh_146 ⟨Y, hYb, hT, Or.inr ⟨by omega, q, rfl, hq⟩⟩
      · skip
        obtain ⟨a, rfl⟩ : ∃ a, f = a + 1 := ⟨f - 1, by omega⟩
        rw [show nI (a + 1) - nI 1 = nI a from (pk_sub (by omega)).trans (congrArg nI (by omega))]
        have hZa := hZ a
        have hYa := hYb (a * 9 + a)
        refine sx_aload_n (pc := 21) hG dX1_weigh_21 rfl 0 rfl ?_
        refine sx_get (pc := 22) (v2 := .ref (ad 24)) (ci := 1) hG i_X1_weigh_1 2 m_X1_weigh_f18 dX1_weigh_22 rfl (by decide) 7 rfl rfl rfl ?_
        refine sx_iload_n (pc := 25) hG dX1_weigh_25 rfl 2 rfl ?_
        refine sx_bipush (pc := 26) (v := nI 9) hG dX1_weigh_26 (by decide +kernel) ?_
        refine sx_imul (pc := 28) (v := (nI (a * 9))) hG dX1_weigh_28 (pk_mul a 9) ?_
        refine sx_iload_n (pc := 29) hG dX1_weigh_29 rfl 2 rfl ?_
        refine sx_iadd (pc := 30) (v := (nI (a * 9 + a))) hG dX1_weigh_30 (nI_add (a * 9) a) ?_
        refine sx_iconst (pc := 31) (v := nI 0) hG dX1_weigh_31 (by decide +kernel) ?_
        refine sx_iastN (pc := 32) (w2 := (sw X ad (va_up (va_up sc 6 (nI 0)) 7 (-1)) (va_up av 24 (va_up Y (a * 9 + a) 0)))) hG 24 dX1_weigh_32 rfl (by decide) (by omega) rfl ?_
        refine sx_aload_n (pc := 33) hG dX1_weigh_33 rfl 1 rfl ?_
        refine sx_getN (pc := 34) (v2 := .ref (ad 20)) (ci := 2) hG i_X1_weigh_2 2 m_X1_weigh_n27 dX1_weigh_34 rfl (by decide) 5 rfl rfl rfl ?_
        refine sx_iload_n (pc := 37) hG dX1_weigh_37 rfl 2 rfl ?_
        refine sx_iald (pc := 38) (v := nI ((av 20) a)) hG 20 dX1_weigh_38 rfl (by decide) (by omega) rfl ?_
        refine sx_istore_n (pc := 39) (lv2 := [(0, .ref (ad 7)), (1, .ref (ad 5)), (2, .int (nI a)), (3, .int (nI ((av 20) a)))]) hG [1, 2, 3, 0] dX1_weigh_39 rfl hN (by decide) rfl ?_
        refine sx_iload_n (pc := 40) hG dX1_weigh_40 rfl 2 rfl ?_
        refine sx_iconst (pc := 41) (v := nI 1) hG dX1_weigh_41 (by decide +kernel) ?_
        refine sx_iadd (pc := 42) (v := (nI (a + 1))) hG dX1_weigh_42 (nI_add a 1) ?_
        refine sx_istore (pc := 43) (lv2 := [(0, .ref (ad 7)), (1, .ref (ad 5)), (2, .int (nI a)), (3, .int (nI ((av 20) a))), (4, .int (nI (a + 1)))]) hG [1, 2, 3, 4, 0] dX1_weigh_43 hN (by decide) rfl ?_
        refine loop_t _ a (a + 1) _ _ rfl (Nat.le_refl _) (by omega) (by rw [show a + 1 - a = 0 + 1 by omega, dS_step]; exact (Nat.zero_add _).symm) (jT_up hm (by omega) hT) (jR_up hm (Nat.le_refl _) (by omega) (fun z h1 h2 => absurd h2 (by omega)) (by unfold dV; rw [sx_mn_init (fun u hu => by unfold dP; rw [if_neg (by omega)]), if_pos rfl]) (by omega)) (fun j => by unfold va_up; split; omega; exact hYb j) (Nat.lt_succ_self _)
  refine sx_aload_n (pc := 0) hG dX1_weigh_0 rfl 0 rfl ?_
  refine sx_iconst (pc := 1) (v := nI 0) hG dX1_weigh_1 (by decide +kernel) ?_
  refine sx_put (pc := 2) (v := .int (nI 0)) (ci := 1) (w2 := (sw X ad (va_up sc 6 (nI 0)) av)) hG i_X1_weigh_1 tyX1 tyX1_ok nmX1 0 m_X1_weigh_f9 dX1_weigh_2 rfl (by decide) 7 rfl rfl rfl rfl (Nat.le_of_ble_eq_true rfl) rfl ?_
  refine sx_aload_n (pc := 5) hG dX1_weigh_5 rfl 0 rfl ?_
  refine sx_iconst (pc := 6) (v := (-1)) hG dX1_weigh_6 (by decide +kernel) ?_
  refine sx_put (pc := 7) (v := .int (-1)) (ci := 1) (w2 := (sw X ad (va_up (va_up sc 6 (nI 0)) 7 (-1)) av)) hG i_X1_weigh_1 tyX1 tyX1_ok nmX1 1 m_X1_weigh_f15 dX1_weigh_7 rfl (by decide) 7 rfl rfl rfl rfl (Nat.le_of_ble_eq_true rfl) rfl ?_
  refine sx_aload_n (pc := 10) hG dX1_weigh_10 rfl 1 rfl ?_
  refine sx_getN (pc := 11) (v2 := .int (nI m)) (ci := 2) hG i_X1_weigh_2 0 m_X1_weigh_n22 dX1_weigh_11 rfl (by decide) 5 rfl rfl (congrArg Value.int h5) ?_
  refine sx_iconst (pc := 14) (v := nI 1) hG dX1_weigh_14 (by decide +kernel) ?_
  refine sx_isub (pc := 15) (v := (nI m - nI 1)) hG dX1_weigh_15 rfl ?_
  refine sx_istore_n (pc := 16) (lv2 := [(0, .ref (ad 7)), (1, .ref (ad 5)), (2, .int (nI m - nI 1))]) hG [1, 2, 0] dX1_weigh_16 rfl hN (by decide) rfl ?_
  refine sx_weq (w2 := (sw X ad (va_up (va_up sc 6 (nI 0)) 7 (-1)) (va_up av 24 (av 24)))) rfl ?_
  refine loop_f _ m (av 24) (Nat.le_refl _) (fun a z h1 h2 h3 => absurd h3 (by omega)) hY0 (Nat.lt_succ_self _)
