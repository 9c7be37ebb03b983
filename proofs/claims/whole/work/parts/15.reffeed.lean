/-! THE REFERENCE: feed, dead -/
theorem sx_sub_lt {s o : Nat} (h0 : ¬ o = 0) (h : sx_diff o s = 0) : sx_diff s o < s := by
  rcases Nat.lt_or_ge (sx_diff s o) s with q | q
  · exact q
  · have e : sx_diff s o = s := Nat.le_antisymm (sx_diff_le s o) q
    exfalso; apply h0
    apply Nat.eq_of_testBit_eq
    intro i
    have h1 := sx_diff_bit s o i
    have h2 := sx_diff_bit o s i
    rw [e] at h1
    rw [h, Nat.zero_testBit] at h2
    rw [Nat.zero_testBit]
    cases hs : s.testBit i <;> cases ho : o.testBit i <;> rw [hs, ho] at h1 h2 <;> first | rfl | exact absurd h1 (by decide) | exact absurd h2 (by decide)
def fVol (Z : Nat → Nat) (rate o m : Nat) : Nat := sx_sum (fun k => if sx_bit o k = 0 then 0 else Z k * rate + 50) m
theorem fVol_step (Z : Nat → Nat) (rate o k : Nat) : fVol Z rate o (k + 1) = fVol Z rate o k + (if sx_bit o k = 0 then 0 else Z k * rate + 50) := rfl
def fOk (Z Y : Nat → Nat) (m rate v s o : Nat) : Nat := if ¬ o = 0 ∧ sx_diff o s = 0 ∧ ¬ Y (sx_diff s o) = 99 ∧ fVol Z rate o m ≤ v then 1 else 0
def fV (Z Y : Nat → Nat) (m rate v s k : Nat) : Nat := sx_mn 99 (fOk Z Y m rate v s) (fun o => Y (sx_diff s o) + 1) k
def fT (Z Y : Nat → Nat) (m rate v K : Nat) : Prop := Y 0 = 0 ∧ ∀ s, 1 ≤ s → s < K → Y s = fV Z Y m rate v s (s + 1)
theorem fV_congr {Z Y Y2 : Nat → Nat} {m rate v s k : Nat} (h : ∀ j, j < s → Y2 j = Y j) : fV Z Y2 m rate v s k = fV Z Y m rate v s k := by
  have e1 : fOk Z Y2 m rate v s = fOk Z Y m rate v s := funext fun o => by
    unfold fOk
    by_cases h0 : ¬ o = 0 ∧ sx_diff o s = 0
    · rw [h _ (sx_sub_lt h0.1 h0.2)]
    · rw [if_neg (fun z => h0 ⟨z.1, z.2.1⟩), if_neg (fun z => h0 ⟨z.1, z.2.1⟩)]
  unfold fV
  rw [e1]
  refine sx_mn_congr (fun o _ hp => ?_)
  have h0 : ¬ o = 0 ∧ sx_diff o s = 0 := by
    rcases Classical.em (¬ o = 0 ∧ sx_diff o s = 0) with q | q
    · exact q
    · exact absurd (by unfold fOk; rw [if_neg (fun z => q ⟨z.1, z.2.1⟩)]) hp
  show Y2 _ + 1 = Y _ + 1
  rw [h _ (sx_sub_lt h0.1 h0.2)]
theorem fT_next {Z Y Y2 : Nat → Nat} {m rate v s : Nat} (h1 : 1 ≤ s) (hT : fT Z Y m rate v s) (ho : ∀ j, ¬ j = s → Y2 j = Y j) (hs : Y2 s = fV Z Y m rate v s (s + 1)) : fT Z Y2 m rate v (s + 1) := by
  refine ⟨by rw [ho 0 (by omega)]; exact hT.1, fun q q1 q2 => ?_⟩
  by_cases e : q = s
  · subst e; rw [hs]; exact (fV_congr (fun j hj => ho j (by omega))).symm
  · rw [ho q e, hT.2 q q1 (by omega)]; exact (fV_congr (fun j hj => ho j (by omega))).symm
theorem fVol_le {Z : Nat → Nat} (hZ : ∀ j, Z j ≤ 99999) {rate : Nat} (hr : rate ≤ 99) (o m : Nat) : fVol Z rate o m ≤ m * 9899951 := sx_sum_le (fun k => by
  show (if sx_bit o k = 0 then 0 else Z k * rate + 50) ≤ 9899951
  split
  · omega
  · have := Nat.mul_le_mul (hZ k) hr; omega) m
def dS (Z : Nat → Nat) (a k : Nat) : Nat := sx_sum (fun i => Z (a + i)) k
theorem dS_step (Z : Nat → Nat) (a k : Nat) : dS Z a (k + 1) = dS Z a k + Z (a + k) := rfl
theorem dS_le {Z : Nat → Nat} (hZ : ∀ j, Z j ≤ 99999) (a k : Nat) : dS Z a k ≤ k * 99999 := sx_sum_le (fun i => hZ (a + i)) k
def dP (a j : Nat) : Nat := if a ≤ j then 1 else 0
def dF (Z Y : Nat → Nat) (a z j : Nat) : Nat := dS Z a (z + 1 - a) + Y (9 * a + j) + Y (9 * j + 9 + z)
def dV (Z Y : Nat → Nat) (a z k : Nat) : Nat := sx_mn (if z = a then 0 else 2000000000) (dP a) (dF Z Y a z) k
/-- the table of looks, for the stretches of fewer than K runs of m -/
def dT (Z Y : Nat → Nat) (m K : Nat) : Prop := ∀ a z, a ≤ z → z < m → z - a + 1 < K → Y (9 * a + z) = dV Z Y a z z ∧ Y (9 * a + z) ≤ 1000000 * (z - a)
def dFi (Z Y : Nat → Nat) (m : Nat) (fv : Int32) : Prop := ∃ q, fv = nI q ∧ q < m - 1 ∧ sx_fi (dP 0) (dF Z Y 0 (m - 1)) q (dV Z Y 0 (m - 1) (m - 1))
theorem dV_congr {Z Y Y2 : Nat → Nat} {a z k : Nat} (hk : k ≤ z) (h : ∀ j, a ≤ j → j < z → Y2 (9 * a + j) = Y (9 * a + j) ∧ Y2 (9 * j + 9 + z) = Y (9 * j + 9 + z)) : dV Z Y2 a z k = dV Z Y a z k :=
  sx_mn_congr fun j hj hp => by
    have hp2 : a ≤ j := by unfold dP at hp; rcases Nat.lt_or_ge j a with q | q; exact absurd (if_neg (by omega)) hp; exact q
    obtain ⟨h1, h2⟩ := h j hp2 (by omega)
    unfold dF; rw [h1, h2]
theorem dFi_congr {Z Y Y2 : Nat → Nat} {m : Nat} {fv : Int32} (h : ∀ j, j < m - 1 → Y2 (9 * 0 + j) = Y (9 * 0 + j) ∧ Y2 (9 * j + 9 + (m - 1)) = Y (9 * j + 9 + (m - 1))) (hf : dFi Z Y m fv) : dFi Z Y2 m fv := by
  obtain ⟨q, h1, h2, h3, h4, h5⟩ := hf
  have e : ∀ j, j < m - 1 → dF Z Y2 0 (m - 1) j = dF Z Y 0 (m - 1) j := fun j hj => by obtain ⟨a1, a2⟩ := h j hj; unfold dF; rw [a1, a2]
  have e2 : dV Z Y2 0 (m - 1) (m - 1) = dV Z Y 0 (m - 1) (m - 1) := dV_congr (Nat.le_refl _) (fun j _ hj => h j hj)
  exact ⟨q, h1, h2, h3, by rw [e q h2, e2]; exact h4, fun u hu hp => by rw [e u (by omega), e2]; exact h5 u hu hp⟩
def dFq (Z Y : Nat → Nat) (a z many j best : Nat) (fv : Int32) : Prop := best < 2000000000 → 2 ≤ many → ∃ q, fv = nI q ∧ q < j ∧ sx_fi (dP a) (dF Z Y a z) q best
theorem dT_up {Z Y : Nat → Nat} {m K a z v : Nat} (hm : m ≤ 9) (hz : z < m) (haz : a ≤ z) (hK : z - a + 1 = K) (hT : dT Z Y m K) : dT Z (va_up Y (9 * a + z) v) m K := by
  have key : ∀ p q, p ≤ q → q < m → ¬ (p = a ∧ q = z) → va_up Y (9 * a + z) v (9 * p + q) = Y (9 * p + q) := fun p q h1 h2 h3 => by unfold va_up; rw [if_neg (by omega)]
  intro p q h1 h2 h3
  rw [key p q h1 h2 (by omega)]
  refine ⟨?_, (hT p q h1 h2 h3).2⟩
  rw [(hT p q h1 h2 h3).1]
  refine (dV_congr (Nat.le_refl _) (fun j j1 j2 => ⟨key p j j1 (by omega) (by omega), ?_⟩)).symm
  have := key (j + 1) q (by omega) h2 (by omega)
  rw [show 9 * (j + 1) + q = 9 * j + 9 + q by omega] at this
  exact this
theorem dV_up {Z Y : Nat → Nat} {m a z p q v k : Nat} (hm : m ≤ 9) (hz : z < m) (haz : a ≤ z) (hpq : p ≤ q) (hq : q < m) (hl : q - p = z - a) (hk : k ≤ q) : dV Z (va_up Y (9 * a + z) v) p q k = dV Z Y p q k := by
  refine dV_congr hk (fun j j1 j2 => ⟨?_, ?_⟩)
  · unfold va_up; rw [if_neg (by omega)]
  · unfold va_up; rw [if_neg (by omega)]
theorem dT_next {Z Y : Nat → Nat} {m many : Nat} (h1 : 1 ≤ many) (hT : dT Z Y m many) (hA : ∀ q, q + many ≤ m → Y (9 * q + (q + many - 1)) = dV Z Y q (q + many - 1) (q + many - 1) ∧ Y (9 * q + (q + many - 1)) ≤ 1000000 * (many - 1)) : dT Z Y m (many + 1) := by
  intro a z haz hz hl
  by_cases e : z - a + 1 = many
  · have h := hA a (by omega)
    rw [show a + many - 1 = z by omega, show many - 1 = z - a by omega] at h
    exact h
  · exact hT a z haz hz (by omega)
theorem dBest {Z Y : Nat → Nat} {m a z : Nat} (hZ : ∀ j, Z j ≤ 99999) (hm : m ≤ 9) (hz : z < m) (haz : a ≤ z) (hT : dT Z Y m (z - a + 1)) : dV Z Y a z z ≤ 1000000 * (z - a) := by
  by_cases e : z = a
  · subst e
    refine Nat.le_trans (sx_mn_le _ _ _ _) ?_
    rw [if_pos rfl]; omega
  · have h1 : dV Z Y a z z ≤ dF Z Y a z a := sx_mn_lb (by omega) (by unfold dP; rw [if_pos (Nat.le_refl _)]; decide)
    have h2 := (hT a a (Nat.le_refl _) (by omega) (by omega)).2
    have h3 := (hT (a + 1) z (by omega) hz (by omega)).2
    rw [show 9 * (a + 1) + z = 9 * a + 9 + z by omega] at h3
    have h4 := dS_le hZ a (z + 1 - a)
    have h5 : (z + 1 - a) * 99999 ≤ 9 * 99999 := Nat.mul_le_mul_right 99999 (by omega)
    unfold dF at h1
    omega
theorem dA_up {Z Y : Nat → Nat} {m many a z v : Nat} (hm : m ≤ 9) (h1 : 1 ≤ many) (hz : z + 1 = a + many) (ham : a + many ≤ m) (hA : ∀ q, q < a → Y (9 * q + (q + many - 1)) = dV Z Y q (q + many - 1) (q + many - 1) ∧ Y (9 * q + (q + many - 1)) ≤ 1000000 * (many - 1)) (hv : v = dV Z Y a z z) (hb : v ≤ 1000000 * (z - a)) : ∀ q, q < a + 1 → va_up Y (9 * a + z) v (9 * q + (q + many - 1)) = dV Z (va_up Y (9 * a + z) v) q (q + many - 1) (q + many - 1) ∧ va_up Y (9 * a + z) v (9 * q + (q + many - 1)) ≤ 1000000 * (many - 1) := by
  intro q hq
  rw [dV_up (m := m) hm (by omega) (by omega) (by omega) (by omega) (by omega) (Nat.le_refl _)]
  by_cases e : q = a
  · subst e
    rw [show q + many - 1 = z by omega]
    have e2 : va_up Y (9 * q + z) v (9 * q + z) = v := if_pos rfl
    rw [e2]
    exact ⟨hv, by omega⟩
  · have e2 : va_up Y (9 * a + z) v (9 * q + (q + many - 1)) = Y (9 * q + (q + many - 1)) := if_neg (by omega)
    rw [e2]
    exact hA q (by omega)
theorem dFi_new {Z Y : Nat → Nat} {m z v : Nat} {fv : Int32} (hZ : ∀ j, Z j ≤ 99999) (hm : m ≤ 9) (h2 : 2 ≤ m) (hz : z + 1 = m) (hv : v = dV Z Y 0 z z) (hb : v ≤ 1000000 * (z - 0)) (hfi : v < 2000000000 → 2 ≤ m → ∃ q, fv = nI q ∧ q < z ∧ sx_fi (dP 0) (dF Z Y 0 z) q v) : dFi Z (va_up Y (9 * 0 + z) v) m fv := by
  have hz2 : m - 1 = z := by omega
  obtain ⟨q, q1, q2, q3, q4, q5⟩ := hfi (by omega) h2
  have h0 : dFi Z Y m fv := by
    unfold dFi
    rw [hz2, ← hv]
    exact ⟨q, q1, q2, q3, q4, q5⟩
  refine dFi_congr (fun j hj => ⟨?_, ?_⟩) h0
  · unfold va_up; rw [if_neg (by omega)]
  · unfold va_up; rw [if_neg (by omega)]
theorem sx_l6 {l : Launch} {X : sx_X} {G : sx_g} {kc ks pc x y : Nat} {v0 v1 v2 v3 v4 v5 v7 : Nat × Value} {st : List Value} {ws : va_W} (h : x = y) (kk : sx_W l X G kc ks pc [v0, v1, v2, v3, v4, v5, (6, .int (nI y)), v7] st ws) : sx_W l X G kc ks pc [v0, v1, v2, v3, v4, v5, (6, .int (nI x)), v7] st ws := by subst h; exact kk
theorem i_X8_feed_8 : ∀ w ∈ u_ws RX8 TX8 24, w ∈ wsX8_feed := by decide +kernel
theorem m_X8_feed_f68 : Cond.fieldLink RX8 68 (TX8 9).1 (TX8 9).2.1 (TX8 9).2.2.1 ∈ wsX8_feed := by decide +kernel
theorem m_X8_feed_f74 : Cond.fieldLink RX8 74 (TX8 13).1 (TX8 13).2.1 (TX8 13).2.2.1 ∈ wsX8_feed := by decide +kernel
set_option maxHeartbeats 4000000 in
set_option maxRecDepth 100000 in
theorem c_X8_feed_n (l : Launch) (X : sx_X) (bd : Nat → Nat) (sc : Nat → Int32) (av : Nat → Nat → Nat) (a b : Int32) (h3 : sc 3 = nI 0) : sx_Mi l yX8_feed wsX8_feed { frames := 0, cells := 0, slots := 0, locals := 0 } X [.ref (bd 0), .int a, .int b] (mw X bd sc av) (fun r w => r = -1 ∧ w = mw X bd (va_up sc 2 (nI 0)) av) 0 0 := by
  refine sx_entI (own := RX8) (nL := 7) (by decide +kernel) rfl rfl (Nat.le_of_ble_eq_true rfl) ?_
  intro G hG hN hret
  show sx_W l X G 0 0 0 [(0, .ref (bd 0)), (1, .int a), (2, .int b)] [] (mw X bd sc av)
  refine sx_aload_n (pc := 0) hG dX8_feed_0 rfl 0 rfl ?_
  refine sx_iconst (pc := 1) (v := nI 0) hG dX8_feed_1 (by decide +kernel) ?_
  refine sx_put (pc := 2) (v := .int (nI 0)) (ci := 8) (w2 := (mw X bd (va_up sc 2 (nI 0)) av)) hG i_X8_feed_8 tyX8 tyX8_ok nmX8 9 m_X8_feed_f68 dX8_feed_2 rfl (by decide) 0 rfl rfl rfl rfl (Nat.le_of_ble_eq_true rfl) rfl ?_
  refine sx_aload_n (pc := 5) hG dX8_feed_5 rfl 0 rfl ?_
  refine sx_get (pc := 6) (v2 := .int (nI 0)) (ci := 8) hG i_X8_feed_8 13 m_X8_feed_f74 dX8_feed_6 rfl (by decide) 0 rfl rfl (congrArg Value.int h3) ?_
  refine sx_if_eq (pc := 9) (tgt := 33) (B := 0 = 0) hG dX8_feed_9 (by decide) (sx_eq0 (by omega)) (fun c9 => ?_) (fun c9 => ?_)
  · skip
    refine sx_iconst (pc := 33) (v := (-1)) hG dX8_feed_33 (by decide +kernel) ?_
    exact hret _ _ _ _ dX8_feed_34 rfl ⟨rfl, rfl⟩
  · skip
    exact absurd (by decide) c9

theorem m_X8_feed_c140 : Cond.constant RX8 140 (99999) ∈ wsX8_feed := by decide +kernel
set_option maxHeartbeats 4000000 in
set_option maxRecDepth 100000 in
theorem c_X8_feed_no (l : Launch) (X : sx_X) (bd : Nat → Nat) (sc : Nat → Int32) (av : Nat → Nat → Nat) (a b : Int32) (h3 : sc 3 = nI 1) (hno : ¬ (0 ≤ a.toInt ∧ a.toInt ≤ 99 ∧ 1 ≤ b.toInt ∧ b.toInt ≤ 99999)) : sx_Mi l yX8_feed wsX8_feed { frames := 0, cells := 0, slots := 0, locals := 0 } X [.ref (bd 0), .int a, .int b] (mw X bd sc av) (fun r w => r = -1 ∧ w = mw X bd (va_up sc 2 (nI 0)) av) 0 0 := by
  refine sx_entI (own := RX8) (nL := 7) (by decide +kernel) rfl rfl (Nat.le_of_ble_eq_true rfl) ?_
  intro G hG hN hret
  show sx_W l X G 0 0 0 [(0, .ref (bd 0)), (1, .int a), (2, .int b)] [] (mw X bd sc av)
  refine sx_aload_n (pc := 0) hG dX8_feed_0 rfl 0 rfl ?_
  refine sx_iconst (pc := 1) (v := nI 0) hG dX8_feed_1 (by decide +kernel) ?_
  refine sx_put (pc := 2) (v := .int (nI 0)) (ci := 8) (w2 := (mw X bd (va_up sc 2 (nI 0)) av)) hG i_X8_feed_8 tyX8 tyX8_ok nmX8 9 m_X8_feed_f68 dX8_feed_2 rfl (by decide) 0 rfl rfl rfl rfl (Nat.le_of_ble_eq_true rfl) rfl ?_
  refine sx_aload_n (pc := 5) hG dX8_feed_5 rfl 0 rfl ?_
  refine sx_get (pc := 6) (v2 := .int (nI 1)) (ci := 8) hG i_X8_feed_8 13 m_X8_feed_f74 dX8_feed_6 rfl (by decide) 0 rfl rfl (congrArg Value.int h3) ?_
  refine sx_if_eq (pc := 9) (tgt := 33) (B := 1 = 0) hG dX8_feed_9 (by decide) (sx_eq0 (by omega)) (fun c9 => ?_) (fun c9 => ?_)
  · skip
    exact absurd c9 (by decide)
  · skip
    refine sx_iload_n (pc := 12) hG dX8_feed_12 rfl 1 rfl ?_
    refine sx_if_lt (pc := 13) (tgt := 33) (B := a.toInt < 0) hG dX8_feed_13 (by decide) (sx_rlt0 _) (fun c13 => ?_) (fun c13 => ?_)
    · skip
      refine sx_iconst (pc := 33) (v := (-1)) hG dX8_feed_33 (by decide +kernel) ?_
      exact hret _ _ _ _ dX8_feed_34 rfl ⟨rfl, rfl⟩
    · skip
      refine sx_iload_n (pc := 16) hG dX8_feed_16 rfl 1 rfl ?_
      refine sx_bipush (pc := 17) (v := nI 99) hG dX8_feed_17 (by decide +kernel) ?_
      refine sx_icmp_gt (pc := 19) (tgt := 33) (B := (99 : Int) < a.toInt) hG dX8_feed_19 (by decide) (sx_rlt (nI_toInt (by omega)) rfl) (fun c19 => ?_) (fun c19 => ?_)
      · skip
        refine sx_iconst (pc := 33) (v := (-1)) hG dX8_feed_33 (by decide +kernel) ?_
        exact hret _ _ _ _ dX8_feed_34 rfl ⟨rfl, rfl⟩
      · skip
        refine sx_iload_n (pc := 22) hG dX8_feed_22 rfl 2 rfl ?_
        refine sx_iconst (pc := 23) (v := nI 1) hG dX8_feed_23 (by decide +kernel) ?_
        refine sx_icmp_lt (pc := 24) (tgt := 33) (B := b.toInt < (1 : Int)) hG dX8_feed_24 (by decide) (sx_rlt rfl (nI_toInt (by omega))) (fun c24 => ?_) (fun c24 => ?_)
        · skip
          refine sx_iconst (pc := 33) (v := (-1)) hG dX8_feed_33 (by decide +kernel) ?_
          exact hret _ _ _ _ dX8_feed_34 rfl ⟨rfl, rfl⟩
        · skip
          refine sx_iload_n (pc := 27) hG dX8_feed_27 rfl 2 rfl ?_
          refine sx_ldc (pc := 28) (v2 := nI 99999) hG m_X8_feed_c140 dX8_feed_28 (by decide +kernel) ?_
          refine sx_icmp_le (pc := 30) (tgt := 35) (B := b.toInt ≤ (99999 : Int)) hG dX8_feed_30 (by decide) (sx_rle rfl (nI_toInt (by omega))) (fun c30 => ?_) (fun c30 => ?_)
          · skip
            exact absurd ⟨by omega, by omega, by omega, by omega⟩ hno
          · skip
            refine sx_iconst (pc := 33) (v := (-1)) hG dX8_feed_33 (by decide +kernel) ?_
            exact hret _ _ _ _ dX8_feed_34 rfl ⟨rfl, rfl⟩

theorem m_X8_feed_f131 : Cond.fieldLink RX8 131 (TX8 14).1 (TX8 14).2.1 (TX8 14).2.2.1 ∈ wsX8_feed := by decide +kernel
theorem m_X8_feed_f62 : Cond.fieldLink RX8 62 (TX8 22).1 (TX8 22).2.1 (TX8 22).2.2.1 ∈ wsX8_feed := by decide +kernel
theorem m_X8_feed_f47 : Cond.fieldLink RX8 47 (TX8 17).1 (TX8 17).2.1 (TX8 17).2.2.1 ∈ wsX8_feed := by decide +kernel
set_option maxHeartbeats 4000000 in
set_option maxRecDepth 100000 in
theorem c_X8_feed_ok (l : Launch) (X : sx_X) (bd : Nat → Nat) (sc : Nat → Int32) (av : Nat → Nat → Nat) (m : Nat) (hm : m ≤ 9) (h3 : sc 3 = nI 1) (h4 : sc 4 = nI m) (hZ : ∀ j, av 12 j ≤ 99999) (rate v : Nat) (hr : rate ≤ 99) (hv1 : 1 ≤ v) (hv2 : v ≤ 99999) (hY0 : ∀ j, av 17 j ≤ 99) : sx_Mi l yX8_feed wsX8_feed { frames := 0, cells := 0, slots := 0, locals := 0 } X [.ref (bd 0), .int (nI rate), .int (nI v)] (mw X bd sc av) (fun r w => ∃ Y : Nat → Nat, (∀ j, Y j ≤ 99) ∧ fT (av 12) Y m rate v (2 ^ m) ∧ (r = if Y (2 ^ m - 1) = 99 then -1 else nI (Y (2 ^ m - 1))) ∧ w = mw X bd (va_up sc 2 (nI 0)) (va_up av 17 Y)) 0 0 := by
  refine sx_entI (own := RX8) (nL := 7) (by decide +kernel) rfl rfl (Nat.le_of_ble_eq_true rfl) ?_
  intro G hG hN hret
  show sx_W l X G 0 0 0 [(0, .ref (bd 0)), (1, .int (nI rate)), (2, .int (nI v))] [] (mw X bd sc av)
  have hp9 := sx_p9 hm
  have hp1 : 1 ≤ 2 ^ m := Nat.one_le_two_pow
  have loop_s : ∀ (fuel : Nat), ∀ (s : Nat) (Y : Nat → Nat), (1 ≤ s) → (s ≤ 2 ^ m) → (fT (av 12) Y m rate v s) → (∀ j, Y j ≤ 99) → 2 ^ m - s < fuel → sx_W l X G 0 0 44 [(0, .ref (bd 0)), (1, .int (nI rate)), (2, .int (nI v)), (3, .int (nI s))] [] (mw X bd (va_up sc 2 (nI 0)) (va_up av 17 Y)) := by
    intro fuel
    induction fuel with
    | zero => intro s Y hs1 hs hT hYb hm; exact absurd hm (Nat.not_lt_zero _)
    | succ fuel ih_s =>
      intro s Y hs1 hs hT hYb hm_s
      have loop_o : ∀ (fuel : Nat), ∀ (o : Nat) (Y1 : Nat → Nat), (s < 2 ^ m) → (1 ≤ o) → (o ≤ s + 1) → (Y1 s = fV (av 12) Y m rate v s o) → (∀ j, ¬ j = s → Y1 j = Y j) → (∀ j, Y1 j ≤ 99) → s + 1 - o < fuel → sx_W l X G 0 0 65 [(0, .ref (bd 0)), (1, .int (nI rate)), (2, .int (nI v)), (3, .int (nI s)), (4, .int (nI o))] [] (mw X bd (va_up sc 2 (nI 0)) (va_up av 17 Y1)) := by
        intro fuel
        induction fuel with
        | zero => intro o Y1 hs2 ho1 ho hYs hYo hY9 hm; exact absurd hm (Nat.not_lt_zero _)
        | succ fuel ih_o =>
          intro o Y1 hs2 ho1 ho hYs hYo hY9 hm_o
          have hd1 := sx_diff_le o s
          have hd2 := sx_diff_le s o
          have hYa := hY9 s
          have hYc := hY9 (sx_diff s o)
          have hvl := fVol_le hZ hr o m
          have hYd0 : sx_diff o s = 0 → Y1 (sx_diff s o) = Y (sx_diff s o) := fun q => hYo _ (by have := sx_sub_lt (show ¬ o = 0 by omega) q; omega)
          have loop_k : ∀ (fuel : Nat), ∀ (k : Nat), (sx_diff o s = 0) → (¬ Y1 (sx_diff s o) = 99) → (o ≤ s) → (k ≤ m) → m - k < fuel → sx_W l X G 0 0 105 [(0, .ref (bd 0)), (1, .int (nI rate)), (2, .int (nI v)), (3, .int (nI s)), (4, .int (nI o)), (5, .int (nI (fVol (av 12) rate o k))), (6, .int (nI k))] [] (mw X bd (va_up sc 2 (nI 0)) (va_up av 17 Y1)) := by
            intro fuel
            induction fuel with
            | zero => intro k c77 c93 c68 hk hm; exact absurd hm (Nat.not_lt_zero _)
            | succ fuel ih_k =>
              intro k c77 c93 c68 hk hm_k
              have hYd := hYd0 c77
              have hZk := hZ k
              have hb1 := sx_bit_le o k
              have hdv := sx_div_lt k (show o < 512 by omega)
              have hvk := fVol_le hZ hr o k
              have hzm := Nat.mul_le_mul hZk hr
              refine sx_iload (pc := 105) hG dX8_feed_105 6 rfl ?_
              refine sx_aload_n (pc := 107) hG dX8_feed_107 rfl 0 rfl ?_
              refine sx_get (pc := 108) (v2 := .int (nI m)) (ci := 8) hG i_X8_feed_8 14 m_X8_feed_f131 dX8_feed_108 rfl (by decide) 0 rfl rfl (congrArg Value.int h4) ?_
              refine sx_icmp_ge (pc := 111) (tgt := 152) (B := m ≤ k) hG dX8_feed_111 (by decide) (nI_leI (by omega) (by omega)) (fun c111 => ?_) (fun c111 => ?_)
              · skip
                have hkm : k = m := by omega
                subst hkm
                refine sx_iload (pc := 152) hG dX8_feed_152 5 rfl ?_
                refine sx_iload_n (pc := 154) hG dX8_feed_154 rfl 2 rfl ?_
                refine sx_icmp_gt (pc := 155) (tgt := 199) (B := v < (fVol (av 12) rate o k)) hG dX8_feed_155 (by decide) (nI_ltI (by omega) (by omega)) (fun c155 => ?_) (fun c155 => ?_)
                · skip
                  refine sx_iinc (pc := 199) (v := (nI (o + 1))) (lv2 := [(0, .ref (bd 0)), (1, .int (nI rate)), (2, .int (nI v)), (3, .int (nI s)), (4, .int (nI (o + 1))), (5, .int (nI (fVol (av 12) rate o k))), (6, .int (nI k))]) hG [1, 2, 3, 4, 0, 5, 6] dX8_feed_199 4 rfl (sx_inc o) hN (by decide) rfl ?_
                  refine sx_goto (pc := 202) (tgt := 65) hG dX8_feed_202 (by decide) ?_
                  refine sx_lsub [0, 1, 2, 3, 4] rfl ?_
                  refine ih_o (o + 1) _ hs2 (by omega) (by omega) (by unfold fV at hYs ⊢; rw [sx_mn_skip (Or.inl (by unfold fOk; rw [if_neg (fun z => absurd z.2.2.2 (by omega))]))]; exact hYs) hYo hY9 (by omega)
                · skip
                  refine sx_aload_n (pc := 158) hG dX8_feed_158 rfl 0 rfl ?_
                  refine sx_get (pc := 159) (v2 := .ref (bd 17)) (ci := 8) hG i_X8_feed_8 22 m_X8_feed_f62 dX8_feed_159 rfl (by decide) 0 rfl rfl rfl ?_
                  refine sx_iload_n (pc := 162) hG dX8_feed_162 rfl 3 rfl ?_
                  refine sx_iload (pc := 163) hG dX8_feed_163 4 rfl ?_
                  refine sx_iconst (pc := 165) (v := (-1)) hG dX8_feed_165 (by decide +kernel) ?_
                  refine sx_ixor (pc := 166) (v := (nI o ^^^ (-1))) hG dX8_feed_166 rfl ?_
                  refine sx_iand (pc := 167) (v := (nI (sx_diff s o))) hG dX8_feed_167 (sx_andnot (by omega) (by omega)) ?_
                  refine sx_iald (pc := 168) (v := nI (Y1 (sx_diff s o))) hG 17 dX8_feed_168 rfl (by decide) (by omega) rfl ?_
                  refine sx_iconst (pc := 169) (v := nI 1) hG dX8_feed_169 (by decide +kernel) ?_
                  refine sx_iadd (pc := 170) (v := (nI (Y1 (sx_diff s o) + 1))) hG dX8_feed_170 (nI_add (Y1 (sx_diff s o)) 1) ?_
                  refine sx_aload_n (pc := 171) hG dX8_feed_171 rfl 0 rfl ?_
                  refine sx_get (pc := 172) (v2 := .ref (bd 17)) (ci := 8) hG i_X8_feed_8 22 m_X8_feed_f62 dX8_feed_172 rfl (by decide) 0 rfl rfl rfl ?_
                  refine sx_iload_n (pc := 175) hG dX8_feed_175 rfl 3 rfl ?_
                  refine sx_iald (pc := 176) (v := nI (Y1 s)) hG 17 dX8_feed_176 rfl (by decide) (by omega) rfl ?_
                  refine sx_icmp_ge (pc := 177) (tgt := 199) (B := (Y1 s) ≤ (Y1 (sx_diff s o) + 1)) hG dX8_feed_177 (by decide) (nI_leI (by omega) (by omega)) (fun c177 => ?_) (fun c177 => ?_)
                  · skip
                    refine sx_iinc (pc := 199) (v := (nI (o + 1))) (lv2 := [(0, .ref (bd 0)), (1, .int (nI rate)), (2, .int (nI v)), (3, .int (nI s)), (4, .int (nI (o + 1))), (5, .int (nI (fVol (av 12) rate o k))), (6, .int (nI k))]) hG [1, 2, 3, 4, 0, 5, 6] dX8_feed_199 4 rfl (sx_inc o) hN (by decide) rfl ?_
                    refine sx_goto (pc := 202) (tgt := 65) hG dX8_feed_202 (by decide) ?_
                    refine sx_lsub [0, 1, 2, 3, 4] rfl ?_
                    refine ih_o (o + 1) _ hs2 (by omega) (by omega) (by unfold fV at hYs ⊢; rw [sx_mn_skip (Or.inr (by show ¬ Y (sx_diff s o) + 1 < _; rw [← hYs, ← hYd]; omega))]; exact hYs) hYo hY9 (by omega)
                  · skip
                    refine sx_aload_n (pc := 180) hG dX8_feed_180 rfl 0 rfl ?_
                    refine sx_get (pc := 181) (v2 := .ref (bd 17)) (ci := 8) hG i_X8_feed_8 22 m_X8_feed_f62 dX8_feed_181 rfl (by decide) 0 rfl rfl rfl ?_
                    refine sx_iload_n (pc := 184) hG dX8_feed_184 rfl 3 rfl ?_
                    refine sx_aload_n (pc := 185) hG dX8_feed_185 rfl 0 rfl ?_
                    refine sx_get (pc := 186) (v2 := .ref (bd 17)) (ci := 8) hG i_X8_feed_8 22 m_X8_feed_f62 dX8_feed_186 rfl (by decide) 0 rfl rfl rfl ?_
                    refine sx_iload_n (pc := 189) hG dX8_feed_189 rfl 3 rfl ?_
                    refine sx_iload (pc := 190) hG dX8_feed_190 4 rfl ?_
                    refine sx_iconst (pc := 192) (v := (-1)) hG dX8_feed_192 (by decide +kernel) ?_
                    refine sx_ixor (pc := 193) (v := (nI o ^^^ (-1))) hG dX8_feed_193 rfl ?_
                    refine sx_iand (pc := 194) (v := (nI (sx_diff s o))) hG dX8_feed_194 (sx_andnot (by omega) (by omega)) ?_
                    refine sx_iald (pc := 195) (v := nI (Y1 (sx_diff s o))) hG 17 dX8_feed_195 rfl (by decide) (by omega) rfl ?_
                    refine sx_iconst (pc := 196) (v := nI 1) hG dX8_feed_196 (by decide +kernel) ?_
                    refine sx_iadd (pc := 197) (v := (nI (Y1 (sx_diff s o) + 1))) hG dX8_feed_197 (nI_add (Y1 (sx_diff s o)) 1) ?_
                    refine sx_iastN (pc := 198) (w2 := (mw X bd (va_up sc 2 (nI 0)) (va_up av 17 (va_up Y1 s (Y1 (sx_diff s o) + 1))))) hG 17 dX8_feed_198 rfl (by decide) (by omega) rfl ?_
                    refine sx_iinc (pc := 199) (v := (nI (o + 1))) (lv2 := [(0, .ref (bd 0)), (1, .int (nI rate)), (2, .int (nI v)), (3, .int (nI s)), (4, .int (nI (o + 1))), (5, .int (nI (fVol (av 12) rate o k))), (6, .int (nI k))]) hG [1, 2, 3, 4, 0, 5, 6] dX8_feed_199 4 rfl (sx_inc o) hN (by decide) rfl ?_
                    refine sx_goto (pc := 202) (tgt := 65) hG dX8_feed_202 (by decide) ?_
                    refine sx_lsub [0, 1, 2, 3, 4] rfl ?_
                    refine ih_o (o + 1) _ hs2 (by omega) (by omega) (by simp only [va_up, if_pos]; unfold fV at hYs ⊢; rw [sx_mn_take (by unfold fOk; rw [if_pos ⟨by omega, c77, by rw [← hYd]; exact c93, by omega⟩]; decide) (by show Y (sx_diff s o) + 1 < _; rw [← hYs, ← hYd]; omega), hYd]) (fun j hj => by unfold va_up; rw [if_neg hj]; exact hYo j hj) (fun j => by unfold va_up; split; omega; exact hY9 j) (by omega)
              · skip
                refine sx_iload (pc := 114) hG dX8_feed_114 5 rfl ?_
                refine sx_iload (pc := 116) hG dX8_feed_116 4 rfl ?_
                refine sx_iload (pc := 118) hG dX8_feed_118 6 rfl ?_
                refine sx_ishr (pc := 120) (v := (nI (o / 2 ^ k))) hG dX8_feed_120 (sx_shr (by omega) (by omega)) ?_
                refine sx_iconst (pc := 121) (v := nI 1) hG dX8_feed_121 (by decide +kernel) ?_
                refine sx_iand (pc := 122) (v := (nI (sx_bit o k))) hG dX8_feed_122 (sx_bit1 (by omega)) ?_
                refine sx_iconst (pc := 123) (v := nI 1) hG dX8_feed_123 (by decide +kernel) ?_
                refine sx_icmp_ne (pc := 124) (tgt := 142) (B := (sx_bit o k) = 1) hG dX8_feed_124 (by decide) (nI_eq (by omega) (by omega)) (fun c124 => ?_) (fun c124 => ?_)
                · skip
                  refine sx_iconst (pc := 142) (v := nI 0) hG dX8_feed_142 (by decide +kernel) ?_
                  refine sx_iadd (pc := 143) (v := (nI (fVol (av 12) rate o (k + 1)))) hG dX8_feed_143 (by rw [nI_add, fVol_step, if_pos (show sx_bit o k = 0 by omega)]) ?_
                  refine sx_istore (pc := 144) (lv2 := [(0, .ref (bd 0)), (1, .int (nI rate)), (2, .int (nI v)), (3, .int (nI s)), (4, .int (nI o)), (5, .int (nI (fVol (av 12) rate o (k + 1)))), (6, .int (nI k))]) hG [1, 2, 3, 4, 5, 0, 6] dX8_feed_144 hN (by decide) rfl ?_
                  refine sx_iinc (pc := 146) (v := (nI (k + 1))) (lv2 := [(0, .ref (bd 0)), (1, .int (nI rate)), (2, .int (nI v)), (3, .int (nI s)), (4, .int (nI o)), (5, .int (nI (fVol (av 12) rate o (k + 1)))), (6, .int (nI (k + 1)))]) hG [1, 2, 3, 4, 5, 6, 0] dX8_feed_146 6 rfl (sx_inc k) hN (by decide) rfl ?_
                  refine sx_goto (pc := 149) (tgt := 105) hG dX8_feed_149 (by decide) ?_
                  refine ih_k (k + 1) c77 c93 c68 (by omega) (by omega)
                · skip
                  refine sx_aload_n (pc := 127) hG dX8_feed_127 rfl 0 rfl ?_
                  refine sx_get (pc := 128) (v2 := .ref (bd 12)) (ci := 8) hG i_X8_feed_8 17 m_X8_feed_f47 dX8_feed_128 rfl (by decide) 0 rfl rfl rfl ?_
                  refine sx_iload (pc := 131) hG dX8_feed_131 6 rfl ?_
                  refine sx_iald (pc := 133) (v := nI ((av 12) k)) hG 12 dX8_feed_133 rfl (by decide) (by omega) rfl ?_
                  refine sx_iload_n (pc := 134) hG dX8_feed_134 rfl 1 rfl ?_
                  refine sx_imul (pc := 135) (v := (nI (((av 12) k) * rate))) hG dX8_feed_135 (pk_mul ((av 12) k) rate) ?_
                  refine sx_bipush (pc := 136) (v := nI 50) hG dX8_feed_136 (by decide +kernel) ?_
                  refine sx_iadd (pc := 138) (v := (nI (((av 12) k) * rate + 50))) hG dX8_feed_138 (nI_add (((av 12) k) * rate) 50) ?_
                  refine sx_goto (pc := 139) (tgt := 143) hG dX8_feed_139 (by decide) ?_
                  refine sx_iadd (pc := 143) (v := (nI (fVol (av 12) rate o (k + 1)))) hG dX8_feed_143 (by rw [nI_add, fVol_step, if_neg (show ¬ sx_bit o k = 0 by omega)]) ?_
                  refine sx_istore (pc := 144) (lv2 := [(0, .ref (bd 0)), (1, .int (nI rate)), (2, .int (nI v)), (3, .int (nI s)), (4, .int (nI o)), (5, .int (nI (fVol (av 12) rate o (k + 1)))), (6, .int (nI k))]) hG [1, 2, 3, 4, 5, 0, 6] dX8_feed_144 hN (by decide) rfl ?_
                  refine sx_iinc (pc := 146) (v := (nI (k + 1))) (lv2 := [(0, .ref (bd 0)), (1, .int (nI rate)), (2, .int (nI v)), (3, .int (nI s)), (4, .int (nI o)), (5, .int (nI (fVol (av 12) rate o (k + 1)))), (6, .int (nI (k + 1)))]) hG [1, 2, 3, 4, 5, 6, 0] dX8_feed_146 6 rfl (sx_inc k) hN (by decide) rfl ?_
                  refine sx_goto (pc := 149) (tgt := 105) hG dX8_feed_149 (by decide) ?_
                  refine ih_k (k + 1) c77 c93 c68 (by omega) (by omega)
          refine sx_iload (pc := 65) hG dX8_feed_65 4 rfl ?_
          refine sx_iload_n (pc := 67) hG dX8_feed_67 rfl 3 rfl ?_
          refine sx_icmp_gt (pc := 68) (tgt := 205) (B := s < o) hG dX8_feed_68 (by decide) (nI_ltI (by omega) (by omega)) (fun c68 => ?_) (fun c68 => ?_)
          · skip
            refine sx_iinc (pc := 205) (v := (nI (s + 1))) (lv2 := [(0, .ref (bd 0)), (1, .int (nI rate)), (2, .int (nI v)), (3, .int (nI (s + 1))), (4, .int (nI o))]) hG [1, 2, 3, 0, 4] dX8_feed_205 3 rfl (sx_inc s) hN (by decide) rfl ?_
            refine sx_goto (pc := 208) (tgt := 44) hG dX8_feed_208 (by decide) ?_
            refine sx_lsub [0, 1, 2, 3] rfl ?_
            refine ih_s (s + 1) Y1 (by omega) (by omega) (fT_next hs1 hT hYo (by rw [hYs, show o = s + 1 by omega])) hY9 (by omega)
          · skip
            refine sx_iload (pc := 71) hG dX8_feed_71 4 rfl ?_
            refine sx_iload_n (pc := 73) hG dX8_feed_73 rfl 3 rfl ?_
            refine sx_iconst (pc := 74) (v := (-1)) hG dX8_feed_74 (by decide +kernel) ?_
            refine sx_ixor (pc := 75) (v := (nI s ^^^ (-1))) hG dX8_feed_75 rfl ?_
            refine sx_iand (pc := 76) (v := (nI (sx_diff o s))) hG dX8_feed_76 (sx_andnot (by omega) (by omega)) ?_
            refine sx_if_ne (pc := 77) (tgt := 199) (B := (sx_diff o s) = 0) hG dX8_feed_77 (by decide) (sx_eq0 (by omega)) (fun c77 => ?_) (fun c77 => ?_)
            · skip
              refine sx_iinc (pc := 199) (v := (nI (o + 1))) (lv2 := [(0, .ref (bd 0)), (1, .int (nI rate)), (2, .int (nI v)), (3, .int (nI s)), (4, .int (nI (o + 1)))]) hG [1, 2, 3, 4, 0] dX8_feed_199 4 rfl (sx_inc o) hN (by decide) rfl ?_
              refine sx_goto (pc := 202) (tgt := 65) hG dX8_feed_202 (by decide) ?_
              refine ih_o (o + 1) _ hs2 (by omega) (by omega) (by unfold fV at hYs ⊢; rw [sx_mn_skip (Or.inl (by unfold fOk; rw [if_neg (fun z => c77 z.2.1)]))]; exact hYs) hYo hY9 (by omega)
            · skip
              refine sx_aload_n (pc := 80) hG dX8_feed_80 rfl 0 rfl ?_
              refine sx_get (pc := 81) (v2 := .ref (bd 17)) (ci := 8) hG i_X8_feed_8 22 m_X8_feed_f62 dX8_feed_81 rfl (by decide) 0 rfl rfl rfl ?_
              refine sx_iload_n (pc := 84) hG dX8_feed_84 rfl 3 rfl ?_
              refine sx_iload (pc := 85) hG dX8_feed_85 4 rfl ?_
              refine sx_iconst (pc := 87) (v := (-1)) hG dX8_feed_87 (by decide +kernel) ?_
              refine sx_ixor (pc := 88) (v := (nI o ^^^ (-1))) hG dX8_feed_88 rfl ?_
              refine sx_iand (pc := 89) (v := (nI (sx_diff s o))) hG dX8_feed_89 (sx_andnot (by omega) (by omega)) ?_
              refine sx_iald (pc := 90) (v := nI (Y1 (sx_diff s o))) hG 17 dX8_feed_90 rfl (by decide) (by omega) rfl ?_
              refine sx_bipush (pc := 91) (v := nI 99) hG dX8_feed_91 (by decide +kernel) ?_
              have hYd := hYd0 c77
              refine sx_icmp_ne (pc := 93) (tgt := 99) (B := (Y1 (sx_diff s o)) = 99) hG dX8_feed_93 (by decide) (nI_eq (by omega) (by omega)) (fun c93 => ?_) (fun c93 => ?_)
              · skip
                refine sx_iconst (pc := 99) (v := nI 0) hG dX8_feed_99 (by decide +kernel) ?_
                refine sx_istore (pc := 100) (lv2 := [(0, .ref (bd 0)), (1, .int (nI rate)), (2, .int (nI v)), (3, .int (nI s)), (4, .int (nI o)), (5, .int (nI 0))]) hG [1, 2, 3, 4, 5, 0] dX8_feed_100 hN (by decide) rfl ?_
                refine sx_iconst (pc := 102) (v := nI 0) hG dX8_feed_102 (by decide +kernel) ?_
                refine sx_istore (pc := 103) (lv2 := [(0, .ref (bd 0)), (1, .int (nI rate)), (2, .int (nI v)), (3, .int (nI s)), (4, .int (nI o)), (5, .int (nI 0)), (6, .int (nI 0))]) hG [1, 2, 3, 4, 5, 6, 0] dX8_feed_103 hN (by decide) rfl ?_
                refine loop_k _ 0 c77 c93 (by omega) (Nat.zero_le _) (Nat.lt_succ_self _)
              · skip
                refine sx_goto (pc := 96) (tgt := 199) hG dX8_feed_96 (by decide) ?_
                refine sx_iinc (pc := 199) (v := (nI (o + 1))) (lv2 := [(0, .ref (bd 0)), (1, .int (nI rate)), (2, .int (nI v)), (3, .int (nI s)), (4, .int (nI (o + 1)))]) hG [1, 2, 3, 4, 0] dX8_feed_199 4 rfl (sx_inc o) hN (by decide) rfl ?_
                refine sx_goto (pc := 202) (tgt := 65) hG dX8_feed_202 (by decide) ?_
                refine ih_o (o + 1) _ hs2 (by omega) (by omega) (by unfold fV at hYs ⊢; rw [sx_mn_skip (Or.inl (by unfold fOk; rw [if_neg (fun z => z.2.2.1 (by rw [← hYd]; exact c93))]))]; exact hYs) hYo hY9 (by omega)
      refine sx_iload_n (pc := 44) hG dX8_feed_44 rfl 3 rfl ?_
      refine sx_iconst (pc := 45) (v := nI 1) hG dX8_feed_45 (by decide +kernel) ?_
      refine sx_aload_n (pc := 46) hG dX8_feed_46 rfl 0 rfl ?_
      refine sx_get (pc := 47) (v2 := .int (nI m)) (ci := 8) hG i_X8_feed_8 14 m_X8_feed_f131 dX8_feed_47 rfl (by decide) 0 rfl rfl (congrArg Value.int h4) ?_
      refine sx_ishl (pc := 50) (v := (nI (2 ^ m))) hG dX8_feed_50 (sx_one (by omega)) ?_
      refine sx_icmp_ge (pc := 51) (tgt := 211) (B := (2 ^ m) ≤ s) hG dX8_feed_51 (by decide) (nI_leI (by omega) (by omega)) (fun c51 => ?_) (fun c51 => ?_)
      · skip
        refine sx_aload_n (pc := 211) hG dX8_feed_211 rfl 0 rfl ?_
        refine sx_get (pc := 212) (v2 := .ref (bd 17)) (ci := 8) hG i_X8_feed_8 22 m_X8_feed_f62 dX8_feed_212 rfl (by decide) 0 rfl rfl rfl ?_
        refine sx_iconst (pc := 215) (v := nI 1) hG dX8_feed_215 (by decide +kernel) ?_
        refine sx_aload_n (pc := 216) hG dX8_feed_216 rfl 0 rfl ?_
        refine sx_get (pc := 217) (v2 := .int (nI m)) (ci := 8) hG i_X8_feed_8 14 m_X8_feed_f131 dX8_feed_217 rfl (by decide) 0 rfl rfl (congrArg Value.int h4) ?_
        refine sx_ishl (pc := 220) (v := (nI (2 ^ m))) hG dX8_feed_220 (sx_one (by omega)) ?_
        refine sx_iconst (pc := 221) (v := nI 1) hG dX8_feed_221 (by decide +kernel) ?_
        refine sx_isub (pc := 222) (v := (nI ((2 ^ m) - 1))) hG dX8_feed_222 (pk_sub (by omega)) ?_
        refine sx_iald (pc := 223) (v := nI (Y ((2 ^ m) - 1))) hG 17 dX8_feed_223 rfl (by decide) (by omega) rfl ?_
        refine sx_istore_n (pc := 224) (lv2 := [(0, .ref (bd 0)), (1, .int (nI rate)), (2, .int (nI v)), (3, .int (nI (Y ((2 ^ m) - 1))))]) hG [1, 2, 3, 0] dX8_feed_224 rfl hN (by decide) rfl ?_
        refine sx_iload_n (pc := 225) hG dX8_feed_225 rfl 3 rfl ?_
        refine sx_bipush (pc := 226) (v := nI 99) hG dX8_feed_226 (by decide +kernel) ?_
        have hYz := hYb (2 ^ m - 1)
        refine sx_icmp_ne (pc := 228) (tgt := 235) (B := (Y ((2 ^ m) - 1)) = 99) hG dX8_feed_228 (by decide) (nI_eq (by omega) (by omega)) (fun c228 => ?_) (fun c228 => ?_)
        · skip
          refine sx_iload_n (pc := 235) hG dX8_feed_235 rfl 3 rfl ?_
          have hsm : s = 2 ^ m := by omega
          have hT2 : fT (av 12) Y m rate v (2 ^ m) := by rw [← hsm]; exact hT
          exact hret _ _ _ _ dX8_feed_236 rfl ⟨Y, hYb, hT2, (by first | exact (if_pos c228).symm | exact (if_neg c228).symm), rfl⟩
        · skip
          refine sx_iconst (pc := 231) (v := (-1)) hG dX8_feed_231 (by decide +kernel) ?_
          refine sx_goto (pc := 232) (tgt := 236) hG dX8_feed_232 (by decide) ?_
          have hsm : s = 2 ^ m := by omega
          have hT2 : fT (av 12) Y m rate v (2 ^ m) := by rw [← hsm]; exact hT
          exact hret _ _ _ _ dX8_feed_236 rfl ⟨Y, hYb, hT2, (by first | exact (if_pos c228).symm | exact (if_neg c228).symm), rfl⟩
      · skip
        refine sx_aload_n (pc := 54) hG dX8_feed_54 rfl 0 rfl ?_
        refine sx_get (pc := 55) (v2 := .ref (bd 17)) (ci := 8) hG i_X8_feed_8 22 m_X8_feed_f62 dX8_feed_55 rfl (by decide) 0 rfl rfl rfl ?_
        refine sx_iload_n (pc := 58) hG dX8_feed_58 rfl 3 rfl ?_
        refine sx_bipush (pc := 59) (v := nI 99) hG dX8_feed_59 (by decide +kernel) ?_
        refine sx_iastN (pc := 61) (w2 := (mw X bd (va_up sc 2 (nI 0)) (va_up av 17 (va_up Y s 99)))) hG 17 dX8_feed_61 rfl (by decide) (by omega) rfl ?_
        refine sx_iconst (pc := 62) (v := nI 1) hG dX8_feed_62 (by decide +kernel) ?_
        refine sx_istore (pc := 63) (lv2 := [(0, .ref (bd 0)), (1, .int (nI rate)), (2, .int (nI v)), (3, .int (nI s)), (4, .int (nI 1))]) hG [1, 2, 3, 4, 0] dX8_feed_63 hN (by decide) rfl ?_
        refine loop_o _ 1 _ (by omega) (Nat.le_refl _) (by omega) (by simp only [va_up, if_pos]; unfold fV; rw [sx_mn_init]; intro u hu; unfold fOk; rw [if_neg (fun z => z.1 (by omega))]) (fun j hj => by unfold va_up; rw [if_neg hj]) (fun j => by unfold va_up; split; omega; exact hYb j) (Nat.lt_succ_self _)
  refine sx_aload_n (pc := 0) hG dX8_feed_0 rfl 0 rfl ?_
  refine sx_iconst (pc := 1) (v := nI 0) hG dX8_feed_1 (by decide +kernel) ?_
  refine sx_put (pc := 2) (v := .int (nI 0)) (ci := 8) (w2 := (mw X bd (va_up sc 2 (nI 0)) av)) hG i_X8_feed_8 tyX8 tyX8_ok nmX8 9 m_X8_feed_f68 dX8_feed_2 rfl (by decide) 0 rfl rfl rfl rfl (Nat.le_of_ble_eq_true rfl) rfl ?_
  refine sx_aload_n (pc := 5) hG dX8_feed_5 rfl 0 rfl ?_
  refine sx_get (pc := 6) (v2 := .int (nI 1)) (ci := 8) hG i_X8_feed_8 13 m_X8_feed_f74 dX8_feed_6 rfl (by decide) 0 rfl rfl (congrArg Value.int h3) ?_
  refine sx_if_eq (pc := 9) (tgt := 33) (B := 1 = 0) hG dX8_feed_9 (by decide) (sx_eq0 (by omega)) (fun c9 => ?_) (fun c9 => ?_)
  · skip
    exact absurd c9 (by decide)
  · skip
    refine sx_iload_n (pc := 12) hG dX8_feed_12 rfl 1 rfl ?_
    refine sx_if_lt (pc := 13) (tgt := 33) (B := False) hG dX8_feed_13 (by decide) (sx_lt0 (by omega)) (fun c13 => ?_) (fun c13 => ?_)
    · skip
      exact absurd c13 (by decide)
    · skip
      refine sx_iload_n (pc := 16) hG dX8_feed_16 rfl 1 rfl ?_
      refine sx_bipush (pc := 17) (v := nI 99) hG dX8_feed_17 (by decide +kernel) ?_
      refine sx_icmp_gt (pc := 19) (tgt := 33) (B := 99 < rate) hG dX8_feed_19 (by decide) (nI_ltI (by omega) (by omega)) (fun c19 => ?_) (fun c19 => ?_)
      · skip
        exact absurd c19 (by omega)
      · skip
        refine sx_iload_n (pc := 22) hG dX8_feed_22 rfl 2 rfl ?_
        refine sx_iconst (pc := 23) (v := nI 1) hG dX8_feed_23 (by decide +kernel) ?_
        refine sx_icmp_lt (pc := 24) (tgt := 33) (B := v < 1) hG dX8_feed_24 (by decide) (nI_ltI (by omega) (by omega)) (fun c24 => ?_) (fun c24 => ?_)
        · skip
          exact absurd c24 (by omega)
        · skip
          refine sx_iload_n (pc := 27) hG dX8_feed_27 rfl 2 rfl ?_
          refine sx_ldc (pc := 28) (v2 := nI 99999) hG m_X8_feed_c140 dX8_feed_28 (by decide +kernel) ?_
          refine sx_icmp_le (pc := 30) (tgt := 35) (B := v ≤ 99999) hG dX8_feed_30 (by decide) (nI_leI (by omega) (by omega)) (fun c30 => ?_) (fun c30 => ?_)
          · skip
            refine sx_aload_n (pc := 35) hG dX8_feed_35 rfl 0 rfl ?_
            refine sx_get (pc := 36) (v2 := .ref (bd 17)) (ci := 8) hG i_X8_feed_8 22 m_X8_feed_f62 dX8_feed_36 rfl (by decide) 0 rfl rfl rfl ?_
            refine sx_iconst (pc := 39) (v := nI 0) hG dX8_feed_39 (by decide +kernel) ?_
            refine sx_iconst (pc := 40) (v := nI 0) hG dX8_feed_40 (by decide +kernel) ?_
            refine sx_iastN (pc := 41) (w2 := (mw X bd (va_up sc 2 (nI 0)) (va_up av 17 (va_up (av 17) 0 0)))) hG 17 dX8_feed_41 rfl (by decide) (by omega) rfl ?_
            refine sx_iconst (pc := 42) (v := nI 1) hG dX8_feed_42 (by decide +kernel) ?_
            refine sx_istore_n (pc := 43) (lv2 := [(0, .ref (bd 0)), (1, .int (nI rate)), (2, .int (nI v)), (3, .int (nI 1))]) hG [1, 2, 3, 0] dX8_feed_43 rfl hN (by decide) rfl ?_
            refine loop_s _ 1 _ (Nat.le_refl _) hp1 ⟨rfl, fun q h1 h2 => absurd h2 (by omega)⟩ (fun j => by unfold va_up; split; omega; exact hY0 j) (Nat.lt_succ_self _)
          · skip
            exact absurd c30 (by omega)

theorem i_X8_dead_8 : ∀ w ∈ u_ws RX8 TX8 24, w ∈ wsX8_dead := by decide +kernel
theorem m_X8_dead_f68 : Cond.fieldLink RX8 68 (TX8 9).1 (TX8 9).2.1 (TX8 9).2.2.1 ∈ wsX8_dead := by decide +kernel
theorem m_X8_dead_f74 : Cond.fieldLink RX8 74 (TX8 13).1 (TX8 13).2.1 (TX8 13).2.2.1 ∈ wsX8_dead := by decide +kernel
set_option maxHeartbeats 4000000 in
set_option maxRecDepth 100000 in
theorem c_X8_dead_n (l : Launch) (X : sx_X) (bd : Nat → Nat) (sc : Nat → Int32) (av : Nat → Nat → Nat) (a : Int32) (h3 : sc 3 = nI 0) : sx_Mi l yX8_dead wsX8_dead { frames := 0, cells := 0, slots := 0, locals := 0 } X [.ref (bd 0), .int a] (mw X bd sc av) (fun r w => r = -1 ∧ w = mw X bd (va_up sc 2 (nI 0)) av) 0 0 := by
  refine sx_entI (own := RX8) (nL := 10) (by decide +kernel) rfl rfl (Nat.le_of_ble_eq_true rfl) ?_
  intro G hG hN hret
  show sx_W l X G 0 0 0 [(0, .ref (bd 0)), (1, .int a)] [] (mw X bd sc av)
  refine sx_aload_n (pc := 0) hG dX8_dead_0 rfl 0 rfl ?_
  refine sx_iconst (pc := 1) (v := nI 0) hG dX8_dead_1 (by decide +kernel) ?_
  refine sx_put (pc := 2) (v := .int (nI 0)) (ci := 8) (w2 := (mw X bd (va_up sc 2 (nI 0)) av)) hG i_X8_dead_8 tyX8 tyX8_ok nmX8 9 m_X8_dead_f68 dX8_dead_2 rfl (by decide) 0 rfl rfl rfl rfl (Nat.le_of_ble_eq_true rfl) rfl ?_
  refine sx_aload_n (pc := 5) hG dX8_dead_5 rfl 0 rfl ?_
  refine sx_get (pc := 6) (v2 := .int (nI 0)) (ci := 8) hG i_X8_dead_8 13 m_X8_dead_f74 dX8_dead_6 rfl (by decide) 0 rfl rfl (congrArg Value.int h3) ?_
  refine sx_if_eq (pc := 9) (tgt := 21) (B := 0 = 0) hG dX8_dead_9 (by decide) (sx_eq0 (by omega)) (fun c9 => ?_) (fun c9 => ?_)
  · skip
    refine sx_iconst (pc := 21) (v := (-1)) hG dX8_dead_21 (by decide +kernel) ?_
    exact hret _ _ _ _ dX8_dead_22 rfl ⟨rfl, rfl⟩
  · skip
    exact absurd (by decide) c9

set_option maxHeartbeats 4000000 in
set_option maxRecDepth 100000 in
theorem c_X8_dead_no (l : Launch) (X : sx_X) (bd : Nat → Nat) (sc : Nat → Int32) (av : Nat → Nat → Nat) (a : Int32) (h3 : sc 3 = nI 1) (hno : a.toInt < 0 ∨ 1 < a.toInt) : sx_Mi l yX8_dead wsX8_dead { frames := 0, cells := 0, slots := 0, locals := 0 } X [.ref (bd 0), .int a] (mw X bd sc av) (fun r w => r = -1 ∧ w = mw X bd (va_up sc 2 (nI 0)) av) 0 0 := by
  refine sx_entI (own := RX8) (nL := 10) (by decide +kernel) rfl rfl (Nat.le_of_ble_eq_true rfl) ?_
  intro G hG hN hret
  show sx_W l X G 0 0 0 [(0, .ref (bd 0)), (1, .int a)] [] (mw X bd sc av)
  refine sx_aload_n (pc := 0) hG dX8_dead_0 rfl 0 rfl ?_
  refine sx_iconst (pc := 1) (v := nI 0) hG dX8_dead_1 (by decide +kernel) ?_
  refine sx_put (pc := 2) (v := .int (nI 0)) (ci := 8) (w2 := (mw X bd (va_up sc 2 (nI 0)) av)) hG i_X8_dead_8 tyX8 tyX8_ok nmX8 9 m_X8_dead_f68 dX8_dead_2 rfl (by decide) 0 rfl rfl rfl rfl (Nat.le_of_ble_eq_true rfl) rfl ?_
  refine sx_aload_n (pc := 5) hG dX8_dead_5 rfl 0 rfl ?_
  refine sx_get (pc := 6) (v2 := .int (nI 1)) (ci := 8) hG i_X8_dead_8 13 m_X8_dead_f74 dX8_dead_6 rfl (by decide) 0 rfl rfl (congrArg Value.int h3) ?_
  refine sx_if_eq (pc := 9) (tgt := 21) (B := 1 = 0) hG dX8_dead_9 (by decide) (sx_eq0 (by omega)) (fun c9 => ?_) (fun c9 => ?_)
  · skip
    exact absurd c9 (by decide)
  · skip
    refine sx_iload_n (pc := 12) hG dX8_dead_12 rfl 1 rfl ?_
    refine sx_if_lt (pc := 13) (tgt := 21) (B := a.toInt < 0) hG dX8_dead_13 (by decide) (sx_rlt0 _) (fun c13 => ?_) (fun c13 => ?_)
    · skip
      refine sx_iconst (pc := 21) (v := (-1)) hG dX8_dead_21 (by decide +kernel) ?_
      exact hret _ _ _ _ dX8_dead_22 rfl ⟨rfl, rfl⟩
    · skip
      refine sx_iload_n (pc := 16) hG dX8_dead_16 rfl 1 rfl ?_
      refine sx_iconst (pc := 17) (v := nI 1) hG dX8_dead_17 (by decide +kernel) ?_
      refine sx_icmp_le (pc := 18) (tgt := 23) (B := a.toInt ≤ (1 : Int)) hG dX8_dead_18 (by decide) (sx_rle rfl (nI_toInt (by omega))) (fun c18 => ?_) (fun c18 => ?_)
      · skip
        exact absurd c18 (by omega)
      · skip
        refine sx_iconst (pc := 21) (v := (-1)) hG dX8_dead_21 (by decide +kernel) ?_
        exact hret _ _ _ _ dX8_dead_22 rfl ⟨rfl, rfl⟩

theorem m_X8_dead_f65 : Cond.fieldLink RX8 65 (TX8 23).1 (TX8 23).2.1 (TX8 23).2.2.1 ∈ wsX8_dead := by decide +kernel
theorem m_X8_dead_c111 : Cond.constant RX8 111 (2000000000) ∈ wsX8_dead := by decide +kernel
theorem m_X8_dead_f47 : Cond.fieldLink RX8 47 (TX8 17).1 (TX8 17).2.1 (TX8 17).2.2.1 ∈ wsX8_dead := by decide +kernel
theorem m_X8_dead_f131 : Cond.fieldLink RX8 131 (TX8 14).1 (TX8 14).2.1 (TX8 14).2.2.1 ∈ wsX8_dead := by decide +kernel
set_option maxHeartbeats 4000000 in
set_option maxRecDepth 100000 in
theorem c_X8_dead_0 (l : Launch) (X : sx_X) (bd : Nat → Nat) (sc : Nat → Int32) (av : Nat → Nat → Nat) (m : Nat) (hm : m ≤ 9) (h3 : sc 3 = nI 1) (h4 : sc 4 = nI m) (hZ : ∀ j, av 12 j ≤ 99999) (hY0 : ∀ j, av 18 j ≤ 2000000000) : sx_Mi l yX8_dead wsX8_dead { frames := 0, cells := 0, slots := 0, locals := 0 } X [.ref (bd 0), .int (nI 0)] (mw X bd sc av) (fun r w => ∃ Y : Nat → Nat, (∀ j, Y j ≤ 2000000000) ∧ dT (av 12) Y m (m + 1) ∧ (r = if m = 0 then nI 0 else nI (Y (m - 1))) ∧ w = mw X bd (va_up sc 2 (nI 0)) (va_up av 18 Y)) 0 0 := by
  refine sx_entI (own := RX8) (nL := 10) (by decide +kernel) rfl rfl (Nat.le_of_ble_eq_true rfl) ?_
  intro G hG hN hret
  show sx_W l X G 0 0 0 [(0, .ref (bd 0)), (1, .int (nI 0))] [] (mw X bd sc av)
  have loop_M : ∀ (fuel : Nat), ∀ (many : Nat) (fv : Int32) (Y : Nat → Nat), (1 ≤ many) → (many ≤ m + 1) → (dT (av 12) Y m many) → (∀ j, Y j ≤ 2000000000) → (m < many → 2 ≤ m → dFi (av 12) Y m fv) → m + 1 - many < fuel → sx_W l X G 0 0 27 [(0, .ref (bd 0)), (1, .int (nI 0)), (2, .int fv), (3, .int (nI many))] [] (mw X bd (va_up sc 2 (nI 0)) (va_up av 18 Y)) := by
    intro fuel
    induction fuel with
    | zero => intro many fv Y hm1 hm2 hT hYb hf hm; exact absurd hm (Nat.not_lt_zero _)
    | succ fuel ih_M =>
      intro many fv Y hm1 hm2 hT hYb hf hm_M
      have loop_A : ∀ (fuel : Nat), ∀ (a : Nat) (fv1 : Int32) (Y1 : Nat → Nat), (many ≤ m) → (a + many ≤ m + 1) → (dT (av 12) Y1 m many) → (∀ q, q < a → Y1 (9 * q + (q + many - 1)) = dV (av 12) Y1 q (q + many - 1) (q + many - 1) ∧ Y1 (9 * q + (q + many - 1)) ≤ 1000000 * (many - 1)) → (∀ j, Y1 j ≤ 2000000000) → (many = m → 1 ≤ a → 2 ≤ m → dFi (av 12) Y1 m fv1) → m + 1 - a < fuel → sx_W l X G 0 0 38 [(0, .ref (bd 0)), (1, .int (nI 0)), (2, .int fv1), (3, .int (nI many)), (4, .int (nI a))] [] (mw X bd (va_up sc 2 (nI 0)) (va_up av 18 Y1)) := by
        intro fuel
        induction fuel with
        | zero => intro a fv1 Y1 hmm ha hT1 hA hYb1 hf1 hm; exact absurd hm (Nat.not_lt_zero _)
        | succ fuel ih_A =>
          intro a fv1 Y1 hmm ha hT1 hA hYb1 hf1 hm_A
          have loop_J : ∀ (fuel : Nat), ∀ (j best z : Nat) (fv2 : Int32), (z + 1 = a + many) → (a + many ≤ m) → (a ≤ j) → (j ≤ z) → (best = dV (av 12) Y1 a z j) → (dFq (av 12) Y1 a z many j best fv2) → z - j < fuel → sx_W l X G 0 0 106 [(0, .ref (bd 0)), (1, .int (nI 0)), (2, .int fv2), (3, .int (nI many)), (4, .int (nI a)), (5, .int (nI z)), (6, .int (nI (dS (av 12) a many))), (7, .int (nI best)), (8, .int (nI j))] [] (mw X bd (va_up sc 2 (nI 0)) (va_up av 18 Y1)) := by
            intro fuel
            induction fuel with
            | zero => intro j best z fv2 hz1 ham hj1 hj2 hb hfi hm; exact absurd hm (Nat.not_lt_zero _)
            | succ fuel ih_J =>
              intro j best z fv2 hz1 ham hj1 hj2 hb hfi hm_J
              have hbl : best ≤ 2000000000 := by subst hb; refine Nat.le_trans (sx_mn_le _ _ _ _) ?_; split <;> omega
              have hsl := dS_le hZ a many
              have hs9 : many * 99999 ≤ 9 * 99999 := Nat.mul_le_mul_right 99999 (by omega)
              have hdf : dF (av 12) Y1 a z j = dS (av 12) a many + Y1 (9 * a + j) + Y1 (9 * j + 9 + z) := by unfold dF; rw [show z + 1 - a = many by omega]
              have hy1 : j < z → Y1 (9 * a + j) ≤ 1000000 * (j - a) ∧ Y1 (9 * j + 9 + z) ≤ 1000000 * (z - (j + 1)) := fun q => ⟨(hT1 a j hj1 (by omega) (by omega)).2, by have h9 := (hT1 (j + 1) z (by omega) (by omega) (by omega)).2; rw [show 9 * (j + 1) + z = 9 * j + 9 + z by omega] at h9; exact h9⟩
              refine sx_iload (pc := 106) hG dX8_dead_106 8 rfl ?_
              refine sx_iload (pc := 108) hG dX8_dead_108 5 rfl ?_
              refine sx_icmp_ge (pc := 110) (tgt := 171) (B := z ≤ j) hG dX8_dead_110 (by decide) (nI_leI (by omega) (by omega)) (fun c110 => ?_) (fun c110 => ?_)
              · skip
                have hjz : j = z := by omega
                clear hy1
                subst hjz
                have hbz := hb
                have hbb : best ≤ 1000000 * (j - a) := by rw [hb]; exact dBest hZ hm (by omega) hj1 (by rw [show j - a + 1 = many by omega]; exact hT1)
                have hnew : many = m → 2 ≤ m → dFi (av 12) (va_up Y1 (9 * a + j) best) m fv2 := fun h1 h3 => by have h0 : a = 0 := (by omega); subst h0; exact dFi_new hZ hm h3 (by omega) hbz hbb (fun h4 _ => hfi h4 (by omega))
                refine sx_aload_n (pc := 171) hG dX8_dead_171 rfl 0 rfl ?_
                refine sx_get (pc := 172) (v2 := .ref (bd 18)) (ci := 8) hG i_X8_dead_8 23 m_X8_dead_f65 dX8_dead_172 rfl (by decide) 0 rfl rfl rfl ?_
                refine sx_bipush (pc := 175) (v := nI 9) hG dX8_dead_175 (by decide +kernel) ?_
                refine sx_iload (pc := 177) hG dX8_dead_177 4 rfl ?_
                refine sx_imul (pc := 179) (v := (nI (9 * a))) hG dX8_dead_179 (pk_mul 9 a) ?_
                refine sx_iload (pc := 180) hG dX8_dead_180 5 rfl ?_
                refine sx_iadd (pc := 182) (v := (nI (9 * a + j))) hG dX8_dead_182 (nI_add (9 * a) j) ?_
                refine sx_iload (pc := 183) hG dX8_dead_183 7 rfl ?_
                refine sx_iastN (pc := 185) (w2 := (mw X bd (va_up sc 2 (nI 0)) (va_up av 18 (va_up Y1 (9 * a + j) best)))) hG 18 dX8_dead_185 rfl (by decide) (by omega) rfl ?_
                refine sx_iinc (pc := 186) (v := (nI (a + 1))) (lv2 := [(0, .ref (bd 0)), (1, .int (nI 0)), (2, .int fv2), (3, .int (nI many)), (4, .int (nI (a + 1))), (5, .int (nI j)), (6, .int (nI (dS (av 12) a many))), (7, .int (nI best)), (8, .int (nI j))]) hG [1, 2, 3, 4, 0, 5, 6, 7, 8] dX8_dead_186 4 rfl (sx_inc a) hN (by decide) rfl ?_
                refine sx_goto (pc := 189) (tgt := 38) hG dX8_dead_189 (by decide) ?_
                refine sx_lsub [0, 1, 2, 3, 4] rfl ?_
                refine ih_A (a + 1) fv2 (va_up Y1 (9 * a + j) best) hmm (by omega) (dT_up hm (by omega) (by omega) (by omega) hT1) (dA_up hm hm1 hz1 ham hA hbz hbb) (fun j => by unfold va_up; split; omega; exact hYb1 j) (fun h1 h2 h3 => hnew h1 h3) (by omega)
              · skip
                refine sx_iload (pc := 113) hG dX8_dead_113 6 rfl ?_
                refine sx_aload_n (pc := 115) hG dX8_dead_115 rfl 0 rfl ?_
                refine sx_get (pc := 116) (v2 := .ref (bd 18)) (ci := 8) hG i_X8_dead_8 23 m_X8_dead_f65 dX8_dead_116 rfl (by decide) 0 rfl rfl rfl ?_
                refine sx_bipush (pc := 119) (v := nI 9) hG dX8_dead_119 (by decide +kernel) ?_
                refine sx_iload (pc := 121) hG dX8_dead_121 4 rfl ?_
                refine sx_imul (pc := 123) (v := (nI (9 * a))) hG dX8_dead_123 (pk_mul 9 a) ?_
                refine sx_iload (pc := 124) hG dX8_dead_124 8 rfl ?_
                refine sx_iadd (pc := 126) (v := (nI (9 * a + j))) hG dX8_dead_126 (nI_add (9 * a) j) ?_
                refine sx_iald (pc := 127) (v := nI (Y1 (9 * a + j))) hG 18 dX8_dead_127 rfl (by decide) (by omega) rfl ?_
                refine sx_iadd (pc := 128) (v := (nI (dS (av 12) a many + (Y1 (9 * a + j))))) hG dX8_dead_128 (nI_add (dS (av 12) a many) (Y1 (9 * a + j))) ?_
                refine sx_aload_n (pc := 129) hG dX8_dead_129 rfl 0 rfl ?_
                refine sx_get (pc := 130) (v2 := .ref (bd 18)) (ci := 8) hG i_X8_dead_8 23 m_X8_dead_f65 dX8_dead_130 rfl (by decide) 0 rfl rfl rfl ?_
                refine sx_bipush (pc := 133) (v := nI 9) hG dX8_dead_133 (by decide +kernel) ?_
                refine sx_iload (pc := 135) hG dX8_dead_135 8 rfl ?_
                refine sx_imul (pc := 137) (v := (nI (9 * j))) hG dX8_dead_137 (pk_mul 9 j) ?_
                refine sx_bipush (pc := 138) (v := nI 9) hG dX8_dead_138 (by decide +kernel) ?_
                refine sx_iadd (pc := 140) (v := (nI (9 * j + 9))) hG dX8_dead_140 (nI_add (9 * j) 9) ?_
                refine sx_iload (pc := 141) hG dX8_dead_141 5 rfl ?_
                refine sx_iadd (pc := 143) (v := (nI (9 * j + 9 + z))) hG dX8_dead_143 (nI_add (9 * j + 9) z) ?_
                refine sx_iald (pc := 144) (v := nI (Y1 (9 * j + 9 + z))) hG 18 dX8_dead_144 rfl (by decide) (by omega) rfl ?_
                refine sx_iadd (pc := 145) (v := (nI (dS (av 12) a many + (Y1 (9 * a + j)) + (Y1 (9 * j + 9 + z))))) hG dX8_dead_145 (nI_add (dS (av 12) a many + (Y1 (9 * a + j))) (Y1 (9 * j + 9 + z))) ?_
                refine sx_istore (pc := 146) (lv2 := [(0, .ref (bd 0)), (1, .int (nI 0)), (2, .int fv2), (3, .int (nI many)), (4, .int (nI a)), (5, .int (nI z)), (6, .int (nI (dS (av 12) a many))), (7, .int (nI best)), (8, .int (nI j)), (9, .int (nI (dS (av 12) a many + (Y1 (9 * a + j)) + (Y1 (9 * j + 9 + z)))))]) hG [1, 2, 3, 4, 5, 6, 7, 8, 9, 0] dX8_dead_146 hN (by decide) rfl ?_
                refine sx_iload (pc := 148) hG dX8_dead_148 9 rfl ?_
                refine sx_iload (pc := 150) hG dX8_dead_150 7 rfl ?_
                refine sx_icmp_lt (pc := 152) (tgt := 158) (B := (dS (av 12) a many + (Y1 (9 * a + j)) + (Y1 (9 * j + 9 + z))) < best) hG dX8_dead_152 (by decide) (nI_ltI (by omega) (by omega)) (fun c152 => ?_) (fun c152 => ?_)
                · skip
                  refine sx_iload (pc := 158) hG dX8_dead_158 9 rfl ?_
                  refine sx_istore (pc := 160) (lv2 := [(0, .ref (bd 0)), (1, .int (nI 0)), (2, .int fv2), (3, .int (nI many)), (4, .int (nI a)), (5, .int (nI z)), (6, .int (nI (dS (av 12) a many))), (7, .int (nI (dS (av 12) a many + (Y1 (9 * a + j)) + (Y1 (9 * j + 9 + z))))), (8, .int (nI j)), (9, .int (nI (dS (av 12) a many + (Y1 (9 * a + j)) + (Y1 (9 * j + 9 + z)))))]) hG [1, 2, 3, 4, 5, 6, 7, 0, 8, 9] dX8_dead_160 hN (by decide) rfl ?_
                  refine sx_iload (pc := 162) hG dX8_dead_162 8 rfl ?_
                  refine sx_istore_n (pc := 164) (lv2 := [(0, .ref (bd 0)), (1, .int (nI 0)), (2, .int (nI j)), (3, .int (nI many)), (4, .int (nI a)), (5, .int (nI z)), (6, .int (nI (dS (av 12) a many))), (7, .int (nI (dS (av 12) a many + (Y1 (9 * a + j)) + (Y1 (9 * j + 9 + z))))), (8, .int (nI j)), (9, .int (nI (dS (av 12) a many + (Y1 (9 * a + j)) + (Y1 (9 * j + 9 + z)))))]) hG [1, 2, 0, 3, 4, 5, 6, 7, 8, 9] dX8_dead_164 rfl hN (by decide) rfl ?_
                  refine sx_iinc (pc := 165) (v := (nI (j + 1))) (lv2 := [(0, .ref (bd 0)), (1, .int (nI 0)), (2, .int (nI j)), (3, .int (nI many)), (4, .int (nI a)), (5, .int (nI z)), (6, .int (nI (dS (av 12) a many))), (7, .int (nI (dS (av 12) a many + (Y1 (9 * a + j)) + (Y1 (9 * j + 9 + z))))), (8, .int (nI (j + 1))), (9, .int (nI (dS (av 12) a many + (Y1 (9 * a + j)) + (Y1 (9 * j + 9 + z)))))]) hG [1, 2, 3, 4, 5, 6, 7, 8, 0, 9] dX8_dead_165 8 rfl (sx_inc j) hN (by decide) rfl ?_
                  refine sx_goto (pc := 168) (tgt := 106) hG dX8_dead_168 (by decide) ?_
                  refine sx_lsub [0, 1, 2, 3, 4, 5, 6, 7, 8] rfl ?_
                  refine ih_J (j + 1) _ z _ hz1 ham (by omega) (by omega) (by unfold dV at hb ⊢; rw [sx_mn_take (by unfold dP; rw [if_pos hj1]; decide) (by rw [← hb, hdf]; omega), hdf]) (fun h1 h2 => ⟨j, rfl, by omega, by unfold dP; rw [if_pos hj1]; decide, hdf, fun u hu hp => Nat.lt_of_lt_of_le (show _ < best by omega) (by rw [hb]; exact sx_mn_lb hu hp)⟩) (by omega)
                · skip
                  refine sx_goto (pc := 155) (tgt := 165) hG dX8_dead_155 (by decide) ?_
                  refine sx_iinc (pc := 165) (v := (nI (j + 1))) (lv2 := [(0, .ref (bd 0)), (1, .int (nI 0)), (2, .int fv2), (3, .int (nI many)), (4, .int (nI a)), (5, .int (nI z)), (6, .int (nI (dS (av 12) a many))), (7, .int (nI best)), (8, .int (nI (j + 1))), (9, .int (nI (dS (av 12) a many + (Y1 (9 * a + j)) + (Y1 (9 * j + 9 + z)))))]) hG [1, 2, 3, 4, 5, 6, 7, 8, 0, 9] dX8_dead_165 8 rfl (sx_inc j) hN (by decide) rfl ?_
                  refine sx_goto (pc := 168) (tgt := 106) hG dX8_dead_168 (by decide) ?_
                  refine sx_lsub [0, 1, 2, 3, 4, 5, 6, 7, 8] rfl ?_
                  refine ih_J (j + 1) _ z _ hz1 ham (by omega) (by omega) (by unfold dV at hb ⊢; rw [sx_mn_skip (Or.inr (by rw [← hb, hdf]; omega))]; exact hb) (fun h1 h2 => by obtain ⟨q, q1, q2, q3⟩ := hfi h1 h2; exact ⟨q, q1, by omega, q3⟩) (by omega)
          have loop_K : ∀ (fuel : Nat), ∀ (k z : Nat), (z + 1 = a + many) → (a + many ≤ m) → (a ≤ k) → (k ≤ a + many) → a + many - k < fuel → sx_W l X G 0 0 64 [(0, .ref (bd 0)), (1, .int (nI 0)), (2, .int fv1), (3, .int (nI many)), (4, .int (nI a)), (5, .int (nI z)), (6, .int (nI (dS (av 12) a (k - a)))), (7, .int (nI k))] [] (mw X bd (va_up sc 2 (nI 0)) (va_up av 18 Y1)) := by
            intro fuel
            induction fuel with
            | zero => intro k z hz1 ham hk1 hk2 hm; exact absurd hm (Nat.not_lt_zero _)
            | succ fuel ih_K =>
              intro k z hz1 ham hk1 hk2 hm_K
              have hsl := dS_le hZ a (k - a)
              have hs9 : (k - a) * 99999 ≤ 9 * 99999 := Nat.mul_le_mul_right 99999 (by omega)
              have hZk := hZ k
              refine sx_iload (pc := 64) hG dX8_dead_64 7 rfl ?_
              refine sx_iload (pc := 66) hG dX8_dead_66 5 rfl ?_
              refine sx_icmp_gt (pc := 68) (tgt := 89) (B := z < k) hG dX8_dead_68 (by decide) (nI_ltI (by omega) (by omega)) (fun c68 => ?_) (fun c68 => ?_)
              · skip
                have hk9 : k - a = many := by omega
                rw [hk9]
                refine sx_iload_n (pc := 89) hG dX8_dead_89 rfl 3 rfl ?_
                refine sx_iconst (pc := 90) (v := nI 1) hG dX8_dead_90 (by decide +kernel) ?_
                refine sx_icmp_ne (pc := 91) (tgt := 98) (B := many = 1) hG dX8_dead_91 (by decide) (nI_eq (by omega) (by omega)) (fun c91 => ?_) (fun c91 => ?_)
                · skip
                  refine sx_ldc (pc := 98) (v2 := nI 2000000000) hG m_X8_dead_c111 dX8_dead_98 (by decide +kernel) ?_
                  refine sx_istore (pc := 100) (lv2 := [(0, .ref (bd 0)), (1, .int (nI 0)), (2, .int fv1), (3, .int (nI many)), (4, .int (nI a)), (5, .int (nI z)), (6, .int (nI (dS (av 12) a many))), (7, .int (nI 2000000000))]) hG [1, 2, 3, 4, 5, 6, 7, 0] dX8_dead_100 hN (by decide) rfl ?_
                  refine sx_iload (pc := 102) hG dX8_dead_102 4 rfl ?_
                  refine sx_istore (pc := 104) (lv2 := [(0, .ref (bd 0)), (1, .int (nI 0)), (2, .int fv1), (3, .int (nI many)), (4, .int (nI a)), (5, .int (nI z)), (6, .int (nI (dS (av 12) a many))), (7, .int (nI 2000000000)), (8, .int (nI a))]) hG [1, 2, 3, 4, 5, 6, 7, 8, 0] dX8_dead_104 hN (by decide) rfl ?_
                  refine loop_J _ a _ z fv1 hz1 (by omega) (Nat.le_refl _) (by omega) (by unfold dV; rw [sx_mn_init (fun u hu => by unfold dP; rw [if_neg (by omega)])]; rw [if_neg (by omega)]) (fun h1 h2 => absurd h1 (by omega)) (Nat.lt_succ_self _)
                · skip
                  refine sx_iconst (pc := 94) (v := nI 0) hG dX8_dead_94 (by decide +kernel) ?_
                  refine sx_goto (pc := 95) (tgt := 100) hG dX8_dead_95 (by decide) ?_
                  refine sx_istore (pc := 100) (lv2 := [(0, .ref (bd 0)), (1, .int (nI 0)), (2, .int fv1), (3, .int (nI many)), (4, .int (nI a)), (5, .int (nI z)), (6, .int (nI (dS (av 12) a many))), (7, .int (nI 0))]) hG [1, 2, 3, 4, 5, 6, 7, 0] dX8_dead_100 hN (by decide) rfl ?_
                  refine sx_iload (pc := 102) hG dX8_dead_102 4 rfl ?_
                  refine sx_istore (pc := 104) (lv2 := [(0, .ref (bd 0)), (1, .int (nI 0)), (2, .int fv1), (3, .int (nI many)), (4, .int (nI a)), (5, .int (nI z)), (6, .int (nI (dS (av 12) a many))), (7, .int (nI 0)), (8, .int (nI a))]) hG [1, 2, 3, 4, 5, 6, 7, 8, 0] dX8_dead_104 hN (by decide) rfl ?_
                  refine loop_J _ a _ z fv1 hz1 (by omega) (Nat.le_refl _) (by omega) (by unfold dV; rw [sx_mn_init (fun u hu => by unfold dP; rw [if_neg (by omega)])]; rw [if_pos (by omega)]) (fun h1 h2 => absurd h1 (by omega)) (Nat.lt_succ_self _)
              · skip
                refine sx_iload (pc := 71) hG dX8_dead_71 6 rfl ?_
                refine sx_aload_n (pc := 73) hG dX8_dead_73 rfl 0 rfl ?_
                refine sx_get (pc := 74) (v2 := .ref (bd 12)) (ci := 8) hG i_X8_dead_8 17 m_X8_dead_f47 dX8_dead_74 rfl (by decide) 0 rfl rfl rfl ?_
                refine sx_iload (pc := 77) hG dX8_dead_77 7 rfl ?_
                refine sx_iald (pc := 79) (v := nI ((av 12) k)) hG 12 dX8_dead_79 rfl (by decide) (by omega) rfl ?_
                refine sx_iadd (pc := 80) (v := (nI (dS (av 12) a (k + 1 - a)))) hG dX8_dead_80 (by rw [nI_add, show k + 1 - a = (k - a) + 1 by omega, dS_step, show a + (k - a) = k by omega]) ?_
                refine sx_istore (pc := 81) (lv2 := [(0, .ref (bd 0)), (1, .int (nI 0)), (2, .int fv1), (3, .int (nI many)), (4, .int (nI a)), (5, .int (nI z)), (6, .int (nI (dS (av 12) a (k + 1 - a)))), (7, .int (nI k))]) hG [1, 2, 3, 4, 5, 6, 0, 7] dX8_dead_81 hN (by decide) rfl ?_
                refine sx_iinc (pc := 83) (v := (nI (k + 1))) (lv2 := [(0, .ref (bd 0)), (1, .int (nI 0)), (2, .int fv1), (3, .int (nI many)), (4, .int (nI a)), (5, .int (nI z)), (6, .int (nI (dS (av 12) a (k + 1 - a)))), (7, .int (nI (k + 1)))]) hG [1, 2, 3, 4, 5, 6, 7, 0] dX8_dead_83 7 rfl (sx_inc k) hN (by decide) rfl ?_
                refine sx_goto (pc := 86) (tgt := 64) hG dX8_dead_86 (by decide) ?_
                refine ih_K (k + 1) z hz1 ham (by omega) (by omega) (by omega)
          refine sx_iload (pc := 38) hG dX8_dead_38 4 rfl ?_
          refine sx_iload_n (pc := 40) hG dX8_dead_40 rfl 3 rfl ?_
          refine sx_iadd (pc := 41) (v := (nI (a + many))) hG dX8_dead_41 (nI_add a many) ?_
          refine sx_aload_n (pc := 42) hG dX8_dead_42 rfl 0 rfl ?_
          refine sx_get (pc := 43) (v2 := .int (nI m)) (ci := 8) hG i_X8_dead_8 14 m_X8_dead_f131 dX8_dead_43 rfl (by decide) 0 rfl rfl (congrArg Value.int h4) ?_
          refine sx_icmp_gt (pc := 46) (tgt := 192) (B := m < (a + many)) hG dX8_dead_46 (by decide) (nI_ltI (by omega) (by omega)) (fun c46 => ?_) (fun c46 => ?_)
          · skip
            refine sx_iinc (pc := 192) (v := (nI (many + 1))) (lv2 := [(0, .ref (bd 0)), (1, .int (nI 0)), (2, .int fv1), (3, .int (nI (many + 1))), (4, .int (nI a))]) hG [1, 2, 3, 0, 4] dX8_dead_192 3 rfl (sx_inc many) hN (by decide) rfl ?_
            refine sx_goto (pc := 195) (tgt := 27) hG dX8_dead_195 (by decide) ?_
            refine sx_lsub [0, 1, 2, 3] rfl ?_
            refine ih_M (many + 1) fv1 Y1 (by omega) (by omega) (dT_next hm1 hT1 (fun q h1 => hA q (by omega))) hYb1 (fun h1 h2 => hf1 (by omega) (by omega) h2) (by omega)
          · skip
            refine sx_iload (pc := 49) hG dX8_dead_49 4 rfl ?_
            refine sx_iload_n (pc := 51) hG dX8_dead_51 rfl 3 rfl ?_
            refine sx_iadd (pc := 52) (v := (nI (a + many))) hG dX8_dead_52 (nI_add a many) ?_
            refine sx_iconst (pc := 53) (v := nI 1) hG dX8_dead_53 (by decide +kernel) ?_
            refine sx_isub (pc := 54) (v := (nI ((a + many) - 1))) hG dX8_dead_54 (pk_sub (by omega)) ?_
            refine sx_istore (pc := 55) (lv2 := [(0, .ref (bd 0)), (1, .int (nI 0)), (2, .int fv1), (3, .int (nI many)), (4, .int (nI a)), (5, .int (nI ((a + many) - 1)))]) hG [1, 2, 3, 4, 5, 0] dX8_dead_55 hN (by decide) rfl ?_
            obtain ⟨z, hz⟩ : ∃ z : Nat, z = a + many - 1 := ⟨_, rfl⟩
            rw [← hz]
            have hz1 : z + 1 = a + many := by omega
            refine sx_iconst (pc := 57) (v := nI 0) hG dX8_dead_57 (by decide +kernel) ?_
            refine sx_istore (pc := 58) (lv2 := [(0, .ref (bd 0)), (1, .int (nI 0)), (2, .int fv1), (3, .int (nI many)), (4, .int (nI a)), (5, .int (nI z)), (6, .int (nI 0))]) hG [1, 2, 3, 4, 5, 6, 0] dX8_dead_58 hN (by decide) rfl ?_
            refine sx_iload (pc := 60) hG dX8_dead_60 4 rfl ?_
            refine sx_istore (pc := 62) (lv2 := [(0, .ref (bd 0)), (1, .int (nI 0)), (2, .int fv1), (3, .int (nI many)), (4, .int (nI a)), (5, .int (nI z)), (6, .int (nI 0)), (7, .int (nI a))]) hG [1, 2, 3, 4, 5, 6, 7, 0] dX8_dead_62 hN (by decide) rfl ?_
            have e60 : 0 = dS (av 12) a (a - a) := by rw [Nat.sub_self]; rfl
            refine sx_l6 e60 ?_
            refine loop_K _ a z hz1 (by omega) (Nat.le_refl _) (by omega) (Nat.lt_succ_self _)
      refine sx_iload_n (pc := 27) hG dX8_dead_27 rfl 3 rfl ?_
      refine sx_aload_n (pc := 28) hG dX8_dead_28 rfl 0 rfl ?_
      refine sx_get (pc := 29) (v2 := .int (nI m)) (ci := 8) hG i_X8_dead_8 14 m_X8_dead_f131 dX8_dead_29 rfl (by decide) 0 rfl rfl (congrArg Value.int h4) ?_
      refine sx_icmp_gt (pc := 32) (tgt := 198) (B := m < many) hG dX8_dead_32 (by decide) (nI_ltI (by omega) (by omega)) (fun c32 => ?_) (fun c32 => ?_)
      · skip
        refine sx_iload_n (pc := 198) hG dX8_dead_198 rfl 1 rfl ?_
        refine sx_iconst (pc := 199) (v := nI 1) hG dX8_dead_199 (by decide +kernel) ?_
        refine sx_icmp_ne (pc := 200) (tgt := 217) (B := 0 = 1) hG dX8_dead_200 (by decide) (nI_eq (by omega) (by omega)) (fun c200 => ?_) (fun c200 => ?_)
        · skip
          refine sx_aload_n (pc := 217) hG dX8_dead_217 rfl 0 rfl ?_
          refine sx_get (pc := 218) (v2 := .int (nI m)) (ci := 8) hG i_X8_dead_8 14 m_X8_dead_f131 dX8_dead_218 rfl (by decide) 0 rfl rfl (congrArg Value.int h4) ?_
          refine sx_if_ne (pc := 221) (tgt := 228) (B := m = 0) hG dX8_dead_221 (by decide) (sx_eq0 (by omega)) (fun c221 => ?_) (fun c221 => ?_)
          · skip
            refine sx_aload_n (pc := 228) hG dX8_dead_228 rfl 0 rfl ?_
            refine sx_get (pc := 229) (v2 := .ref (bd 18)) (ci := 8) hG i_X8_dead_8 23 m_X8_dead_f65 dX8_dead_229 rfl (by decide) 0 rfl rfl rfl ?_
            refine sx_aload_n (pc := 232) hG dX8_dead_232 rfl 0 rfl ?_
            refine sx_get (pc := 233) (v2 := .int (nI m)) (ci := 8) hG i_X8_dead_8 14 m_X8_dead_f131 dX8_dead_233 rfl (by decide) 0 rfl rfl (congrArg Value.int h4) ?_
            refine sx_iconst (pc := 236) (v := nI 1) hG dX8_dead_236 (by decide +kernel) ?_
            refine sx_isub (pc := 237) (v := (nI (m - 1))) hG dX8_dead_237 (pk_sub (by omega)) ?_
            refine sx_iald (pc := 238) (v := nI (Y (m - 1))) hG 18 dX8_dead_238 rfl (by decide) (by omega) rfl ?_
            have hmm2 : many = m + 1 := by omega
            have hT2 : dT (av 12) Y m (m + 1) := by rw [← hmm2]; exact hT
            exact hret _ _ _ _ dX8_dead_239 rfl ⟨Y, hYb, hT2, (if_neg c221).symm, rfl⟩
          · skip
            refine sx_iconst (pc := 224) (v := nI 0) hG dX8_dead_224 (by decide +kernel) ?_
            refine sx_goto (pc := 225) (tgt := 239) hG dX8_dead_225 (by decide) ?_
            have hmm2 : many = m + 1 := by omega
            have hT2 : dT (av 12) Y m (m + 1) := by rw [← hmm2]; exact hT
            exact hret _ _ _ _ dX8_dead_239 rfl ⟨Y, hYb, hT2, (if_pos c221).symm, rfl⟩
        · skip
          exact absurd c200 (by decide)
      · skip
        refine sx_iconst (pc := 35) (v := nI 0) hG dX8_dead_35 (by decide +kernel) ?_
        refine sx_istore (pc := 36) (lv2 := [(0, .ref (bd 0)), (1, .int (nI 0)), (2, .int fv), (3, .int (nI many)), (4, .int (nI 0))]) hG [1, 2, 3, 4, 0] dX8_dead_36 hN (by decide) rfl ?_
        refine loop_A _ 0 fv Y (by omega) (by omega) hT (fun q h => absurd h (Nat.not_lt_zero _)) hYb (fun h1 h2 => absurd h2 (by decide)) (Nat.lt_succ_self _)
  refine sx_aload_n (pc := 0) hG dX8_dead_0 rfl 0 rfl ?_
  refine sx_iconst (pc := 1) (v := nI 0) hG dX8_dead_1 (by decide +kernel) ?_
  refine sx_put (pc := 2) (v := .int (nI 0)) (ci := 8) (w2 := (mw X bd (va_up sc 2 (nI 0)) av)) hG i_X8_dead_8 tyX8 tyX8_ok nmX8 9 m_X8_dead_f68 dX8_dead_2 rfl (by decide) 0 rfl rfl rfl rfl (Nat.le_of_ble_eq_true rfl) rfl ?_
  refine sx_aload_n (pc := 5) hG dX8_dead_5 rfl 0 rfl ?_
  refine sx_get (pc := 6) (v2 := .int (nI 1)) (ci := 8) hG i_X8_dead_8 13 m_X8_dead_f74 dX8_dead_6 rfl (by decide) 0 rfl rfl (congrArg Value.int h3) ?_
  refine sx_if_eq (pc := 9) (tgt := 21) (B := 1 = 0) hG dX8_dead_9 (by decide) (sx_eq0 (by omega)) (fun c9 => ?_) (fun c9 => ?_)
  · skip
    exact absurd c9 (by decide)
  · skip
    refine sx_iload_n (pc := 12) hG dX8_dead_12 rfl 1 rfl ?_
    refine sx_if_lt (pc := 13) (tgt := 21) (B := False) hG dX8_dead_13 (by decide) (sx_lt0 (by omega)) (fun c13 => ?_) (fun c13 => ?_)
    · skip
      exact absurd c13 (by decide)
    · skip
      refine sx_iload_n (pc := 16) hG dX8_dead_16 rfl 1 rfl ?_
      refine sx_iconst (pc := 17) (v := nI 1) hG dX8_dead_17 (by decide +kernel) ?_
      refine sx_icmp_le (pc := 18) (tgt := 23) (B := 0 ≤ 1) hG dX8_dead_18 (by decide) (nI_leI (by omega) (by omega)) (fun c18 => ?_) (fun c18 => ?_)
      · skip
        refine sx_iconst (pc := 23) (v := (-1)) hG dX8_dead_23 (by decide +kernel) ?_
        refine sx_istore_n (pc := 24) (lv2 := [(0, .ref (bd 0)), (1, .int (nI 0)), (2, .int (-1))]) hG [1, 2, 0] dX8_dead_24 rfl hN (by decide) rfl ?_
        refine sx_iconst (pc := 25) (v := nI 1) hG dX8_dead_25 (by decide +kernel) ?_
        refine sx_istore_n (pc := 26) (lv2 := [(0, .ref (bd 0)), (1, .int (nI 0)), (2, .int (-1)), (3, .int (nI 1))]) hG [1, 2, 3, 0] dX8_dead_26 rfl hN (by decide) rfl ?_
        refine sx_weq (w2 := (mw X bd (va_up sc 2 (nI 0)) (va_up av 18 (av 18)))) rfl ?_
        refine loop_M _ 1 (-1) (av 18) (Nat.le_refl _) (by omega) (fun a z h1 h2 h3 => absurd h3 (by omega)) hY0 (fun h1 h2 => absurd h1 (by omega)) (Nat.lt_succ_self _)
      · skip
        exact absurd (by decide) c18

set_option maxHeartbeats 4000000 in
set_option maxRecDepth 100000 in
theorem c_X8_dead_1 (l : Launch) (X : sx_X) (bd : Nat → Nat) (sc : Nat → Int32) (av : Nat → Nat → Nat) (m : Nat) (hm : m ≤ 9) (h3 : sc 3 = nI 1) (h4 : sc 4 = nI m) (hZ : ∀ j, av 12 j ≤ 99999) (hY0 : ∀ j, av 18 j ≤ 2000000000) : sx_Mi l yX8_dead wsX8_dead { frames := 0, cells := 0, slots := 0, locals := 0 } X [.ref (bd 0), .int (nI 1)] (mw X bd sc av) (fun r w => ∃ Y : Nat → Nat, (∀ j, Y j ≤ 2000000000) ∧ dT (av 12) Y m (m + 1) ∧ ((m < 2 ∧ r = -1) ∨ (2 ≤ m ∧ dFi (av 12) Y m r)) ∧ w = mw X bd (va_up sc 2 (nI 0)) (va_up av 18 Y)) 0 0 := by
  refine sx_entI (own := RX8) (nL := 10) (by decide +kernel) rfl rfl (Nat.le_of_ble_eq_true rfl) ?_
  intro G hG hN hret
  show sx_W l X G 0 0 0 [(0, .ref (bd 0)), (1, .int (nI 1))] [] (mw X bd sc av)
  have loop_M : ∀ (fuel : Nat), ∀ (many : Nat) (fv : Int32) (Y : Nat → Nat), (1 ≤ many) → (many ≤ m + 1) → (dT (av 12) Y m many) → (∀ j, Y j ≤ 2000000000) → (m < many → 2 ≤ m → dFi (av 12) Y m fv) → m + 1 - many < fuel → sx_W l X G 0 0 27 [(0, .ref (bd 0)), (1, .int (nI 1)), (2, .int fv), (3, .int (nI many))] [] (mw X bd (va_up sc 2 (nI 0)) (va_up av 18 Y)) := by
    intro fuel
    induction fuel with
    | zero => intro many fv Y hm1 hm2 hT hYb hf hm; exact absurd hm (Nat.not_lt_zero _)
    | succ fuel ih_M =>
      intro many fv Y hm1 hm2 hT hYb hf hm_M
      have loop_A : ∀ (fuel : Nat), ∀ (a : Nat) (fv1 : Int32) (Y1 : Nat → Nat), (many ≤ m) → (a + many ≤ m + 1) → (dT (av 12) Y1 m many) → (∀ q, q < a → Y1 (9 * q + (q + many - 1)) = dV (av 12) Y1 q (q + many - 1) (q + many - 1) ∧ Y1 (9 * q + (q + many - 1)) ≤ 1000000 * (many - 1)) → (∀ j, Y1 j ≤ 2000000000) → (many = m → 1 ≤ a → 2 ≤ m → dFi (av 12) Y1 m fv1) → m + 1 - a < fuel → sx_W l X G 0 0 38 [(0, .ref (bd 0)), (1, .int (nI 1)), (2, .int fv1), (3, .int (nI many)), (4, .int (nI a))] [] (mw X bd (va_up sc 2 (nI 0)) (va_up av 18 Y1)) := by
        intro fuel
        induction fuel with
        | zero => intro a fv1 Y1 hmm ha hT1 hA hYb1 hf1 hm; exact absurd hm (Nat.not_lt_zero _)
        | succ fuel ih_A =>
          intro a fv1 Y1 hmm ha hT1 hA hYb1 hf1 hm_A
          have loop_J : ∀ (fuel : Nat), ∀ (j best z : Nat) (fv2 : Int32), (z + 1 = a + many) → (a + many ≤ m) → (a ≤ j) → (j ≤ z) → (best = dV (av 12) Y1 a z j) → (dFq (av 12) Y1 a z many j best fv2) → z - j < fuel → sx_W l X G 0 0 106 [(0, .ref (bd 0)), (1, .int (nI 1)), (2, .int fv2), (3, .int (nI many)), (4, .int (nI a)), (5, .int (nI z)), (6, .int (nI (dS (av 12) a many))), (7, .int (nI best)), (8, .int (nI j))] [] (mw X bd (va_up sc 2 (nI 0)) (va_up av 18 Y1)) := by
            intro fuel
            induction fuel with
            | zero => intro j best z fv2 hz1 ham hj1 hj2 hb hfi hm; exact absurd hm (Nat.not_lt_zero _)
            | succ fuel ih_J =>
              intro j best z fv2 hz1 ham hj1 hj2 hb hfi hm_J
              have hbl : best ≤ 2000000000 := by subst hb; refine Nat.le_trans (sx_mn_le _ _ _ _) ?_; split <;> omega
              have hsl := dS_le hZ a many
              have hs9 : many * 99999 ≤ 9 * 99999 := Nat.mul_le_mul_right 99999 (by omega)
              have hdf : dF (av 12) Y1 a z j = dS (av 12) a many + Y1 (9 * a + j) + Y1 (9 * j + 9 + z) := by unfold dF; rw [show z + 1 - a = many by omega]
              have hy1 : j < z → Y1 (9 * a + j) ≤ 1000000 * (j - a) ∧ Y1 (9 * j + 9 + z) ≤ 1000000 * (z - (j + 1)) := fun q => ⟨(hT1 a j hj1 (by omega) (by omega)).2, by have h9 := (hT1 (j + 1) z (by omega) (by omega) (by omega)).2; rw [show 9 * (j + 1) + z = 9 * j + 9 + z by omega] at h9; exact h9⟩
              refine sx_iload (pc := 106) hG dX8_dead_106 8 rfl ?_
              refine sx_iload (pc := 108) hG dX8_dead_108 5 rfl ?_
              refine sx_icmp_ge (pc := 110) (tgt := 171) (B := z ≤ j) hG dX8_dead_110 (by decide) (nI_leI (by omega) (by omega)) (fun c110 => ?_) (fun c110 => ?_)
              · skip
                have hjz : j = z := by omega
                clear hy1
                subst hjz
                have hbz := hb
                have hbb : best ≤ 1000000 * (j - a) := by rw [hb]; exact dBest hZ hm (by omega) hj1 (by rw [show j - a + 1 = many by omega]; exact hT1)
                have hnew : many = m → 2 ≤ m → dFi (av 12) (va_up Y1 (9 * a + j) best) m fv2 := fun h1 h3 => by have h0 : a = 0 := (by omega); subst h0; exact dFi_new hZ hm h3 (by omega) hbz hbb (fun h4 _ => hfi h4 (by omega))
                refine sx_aload_n (pc := 171) hG dX8_dead_171 rfl 0 rfl ?_
                refine sx_get (pc := 172) (v2 := .ref (bd 18)) (ci := 8) hG i_X8_dead_8 23 m_X8_dead_f65 dX8_dead_172 rfl (by decide) 0 rfl rfl rfl ?_
                refine sx_bipush (pc := 175) (v := nI 9) hG dX8_dead_175 (by decide +kernel) ?_
                refine sx_iload (pc := 177) hG dX8_dead_177 4 rfl ?_
                refine sx_imul (pc := 179) (v := (nI (9 * a))) hG dX8_dead_179 (pk_mul 9 a) ?_
                refine sx_iload (pc := 180) hG dX8_dead_180 5 rfl ?_
                refine sx_iadd (pc := 182) (v := (nI (9 * a + j))) hG dX8_dead_182 (nI_add (9 * a) j) ?_
                refine sx_iload (pc := 183) hG dX8_dead_183 7 rfl ?_
                refine sx_iastN (pc := 185) (w2 := (mw X bd (va_up sc 2 (nI 0)) (va_up av 18 (va_up Y1 (9 * a + j) best)))) hG 18 dX8_dead_185 rfl (by decide) (by omega) rfl ?_
                refine sx_iinc (pc := 186) (v := (nI (a + 1))) (lv2 := [(0, .ref (bd 0)), (1, .int (nI 1)), (2, .int fv2), (3, .int (nI many)), (4, .int (nI (a + 1))), (5, .int (nI j)), (6, .int (nI (dS (av 12) a many))), (7, .int (nI best)), (8, .int (nI j))]) hG [1, 2, 3, 4, 0, 5, 6, 7, 8] dX8_dead_186 4 rfl (sx_inc a) hN (by decide) rfl ?_
                refine sx_goto (pc := 189) (tgt := 38) hG dX8_dead_189 (by decide) ?_
                refine sx_lsub [0, 1, 2, 3, 4] rfl ?_
                refine ih_A (a + 1) fv2 (va_up Y1 (9 * a + j) best) hmm (by omega) (dT_up hm (by omega) (by omega) (by omega) hT1) (dA_up hm hm1 hz1 ham hA hbz hbb) (fun j => by unfold va_up; split; omega; exact hYb1 j) (fun h1 h2 h3 => hnew h1 h3) (by omega)
              · skip
                refine sx_iload (pc := 113) hG dX8_dead_113 6 rfl ?_
                refine sx_aload_n (pc := 115) hG dX8_dead_115 rfl 0 rfl ?_
                refine sx_get (pc := 116) (v2 := .ref (bd 18)) (ci := 8) hG i_X8_dead_8 23 m_X8_dead_f65 dX8_dead_116 rfl (by decide) 0 rfl rfl rfl ?_
                refine sx_bipush (pc := 119) (v := nI 9) hG dX8_dead_119 (by decide +kernel) ?_
                refine sx_iload (pc := 121) hG dX8_dead_121 4 rfl ?_
                refine sx_imul (pc := 123) (v := (nI (9 * a))) hG dX8_dead_123 (pk_mul 9 a) ?_
                refine sx_iload (pc := 124) hG dX8_dead_124 8 rfl ?_
                refine sx_iadd (pc := 126) (v := (nI (9 * a + j))) hG dX8_dead_126 (nI_add (9 * a) j) ?_
                refine sx_iald (pc := 127) (v := nI (Y1 (9 * a + j))) hG 18 dX8_dead_127 rfl (by decide) (by omega) rfl ?_
                refine sx_iadd (pc := 128) (v := (nI (dS (av 12) a many + (Y1 (9 * a + j))))) hG dX8_dead_128 (nI_add (dS (av 12) a many) (Y1 (9 * a + j))) ?_
                refine sx_aload_n (pc := 129) hG dX8_dead_129 rfl 0 rfl ?_
                refine sx_get (pc := 130) (v2 := .ref (bd 18)) (ci := 8) hG i_X8_dead_8 23 m_X8_dead_f65 dX8_dead_130 rfl (by decide) 0 rfl rfl rfl ?_
                refine sx_bipush (pc := 133) (v := nI 9) hG dX8_dead_133 (by decide +kernel) ?_
                refine sx_iload (pc := 135) hG dX8_dead_135 8 rfl ?_
                refine sx_imul (pc := 137) (v := (nI (9 * j))) hG dX8_dead_137 (pk_mul 9 j) ?_
                refine sx_bipush (pc := 138) (v := nI 9) hG dX8_dead_138 (by decide +kernel) ?_
                refine sx_iadd (pc := 140) (v := (nI (9 * j + 9))) hG dX8_dead_140 (nI_add (9 * j) 9) ?_
                refine sx_iload (pc := 141) hG dX8_dead_141 5 rfl ?_
                refine sx_iadd (pc := 143) (v := (nI (9 * j + 9 + z))) hG dX8_dead_143 (nI_add (9 * j + 9) z) ?_
                refine sx_iald (pc := 144) (v := nI (Y1 (9 * j + 9 + z))) hG 18 dX8_dead_144 rfl (by decide) (by omega) rfl ?_
                refine sx_iadd (pc := 145) (v := (nI (dS (av 12) a many + (Y1 (9 * a + j)) + (Y1 (9 * j + 9 + z))))) hG dX8_dead_145 (nI_add (dS (av 12) a many + (Y1 (9 * a + j))) (Y1 (9 * j + 9 + z))) ?_
                refine sx_istore (pc := 146) (lv2 := [(0, .ref (bd 0)), (1, .int (nI 1)), (2, .int fv2), (3, .int (nI many)), (4, .int (nI a)), (5, .int (nI z)), (6, .int (nI (dS (av 12) a many))), (7, .int (nI best)), (8, .int (nI j)), (9, .int (nI (dS (av 12) a many + (Y1 (9 * a + j)) + (Y1 (9 * j + 9 + z)))))]) hG [1, 2, 3, 4, 5, 6, 7, 8, 9, 0] dX8_dead_146 hN (by decide) rfl ?_
                refine sx_iload (pc := 148) hG dX8_dead_148 9 rfl ?_
                refine sx_iload (pc := 150) hG dX8_dead_150 7 rfl ?_
                refine sx_icmp_lt (pc := 152) (tgt := 158) (B := (dS (av 12) a many + (Y1 (9 * a + j)) + (Y1 (9 * j + 9 + z))) < best) hG dX8_dead_152 (by decide) (nI_ltI (by omega) (by omega)) (fun c152 => ?_) (fun c152 => ?_)
                · skip
                  refine sx_iload (pc := 158) hG dX8_dead_158 9 rfl ?_
                  refine sx_istore (pc := 160) (lv2 := [(0, .ref (bd 0)), (1, .int (nI 1)), (2, .int fv2), (3, .int (nI many)), (4, .int (nI a)), (5, .int (nI z)), (6, .int (nI (dS (av 12) a many))), (7, .int (nI (dS (av 12) a many + (Y1 (9 * a + j)) + (Y1 (9 * j + 9 + z))))), (8, .int (nI j)), (9, .int (nI (dS (av 12) a many + (Y1 (9 * a + j)) + (Y1 (9 * j + 9 + z)))))]) hG [1, 2, 3, 4, 5, 6, 7, 0, 8, 9] dX8_dead_160 hN (by decide) rfl ?_
                  refine sx_iload (pc := 162) hG dX8_dead_162 8 rfl ?_
                  refine sx_istore_n (pc := 164) (lv2 := [(0, .ref (bd 0)), (1, .int (nI 1)), (2, .int (nI j)), (3, .int (nI many)), (4, .int (nI a)), (5, .int (nI z)), (6, .int (nI (dS (av 12) a many))), (7, .int (nI (dS (av 12) a many + (Y1 (9 * a + j)) + (Y1 (9 * j + 9 + z))))), (8, .int (nI j)), (9, .int (nI (dS (av 12) a many + (Y1 (9 * a + j)) + (Y1 (9 * j + 9 + z)))))]) hG [1, 2, 0, 3, 4, 5, 6, 7, 8, 9] dX8_dead_164 rfl hN (by decide) rfl ?_
                  refine sx_iinc (pc := 165) (v := (nI (j + 1))) (lv2 := [(0, .ref (bd 0)), (1, .int (nI 1)), (2, .int (nI j)), (3, .int (nI many)), (4, .int (nI a)), (5, .int (nI z)), (6, .int (nI (dS (av 12) a many))), (7, .int (nI (dS (av 12) a many + (Y1 (9 * a + j)) + (Y1 (9 * j + 9 + z))))), (8, .int (nI (j + 1))), (9, .int (nI (dS (av 12) a many + (Y1 (9 * a + j)) + (Y1 (9 * j + 9 + z)))))]) hG [1, 2, 3, 4, 5, 6, 7, 8, 0, 9] dX8_dead_165 8 rfl (sx_inc j) hN (by decide) rfl ?_
                  refine sx_goto (pc := 168) (tgt := 106) hG dX8_dead_168 (by decide) ?_
                  refine sx_lsub [0, 1, 2, 3, 4, 5, 6, 7, 8] rfl ?_
                  refine ih_J (j + 1) _ z _ hz1 ham (by omega) (by omega) (by unfold dV at hb ⊢; rw [sx_mn_take (by unfold dP; rw [if_pos hj1]; decide) (by rw [← hb, hdf]; omega), hdf]) (fun h1 h2 => ⟨j, rfl, by omega, by unfold dP; rw [if_pos hj1]; decide, hdf, fun u hu hp => Nat.lt_of_lt_of_le (show _ < best by omega) (by rw [hb]; exact sx_mn_lb hu hp)⟩) (by omega)
                · skip
                  refine sx_goto (pc := 155) (tgt := 165) hG dX8_dead_155 (by decide) ?_
                  refine sx_iinc (pc := 165) (v := (nI (j + 1))) (lv2 := [(0, .ref (bd 0)), (1, .int (nI 1)), (2, .int fv2), (3, .int (nI many)), (4, .int (nI a)), (5, .int (nI z)), (6, .int (nI (dS (av 12) a many))), (7, .int (nI best)), (8, .int (nI (j + 1))), (9, .int (nI (dS (av 12) a many + (Y1 (9 * a + j)) + (Y1 (9 * j + 9 + z)))))]) hG [1, 2, 3, 4, 5, 6, 7, 8, 0, 9] dX8_dead_165 8 rfl (sx_inc j) hN (by decide) rfl ?_
                  refine sx_goto (pc := 168) (tgt := 106) hG dX8_dead_168 (by decide) ?_
                  refine sx_lsub [0, 1, 2, 3, 4, 5, 6, 7, 8] rfl ?_
                  refine ih_J (j + 1) _ z _ hz1 ham (by omega) (by omega) (by unfold dV at hb ⊢; rw [sx_mn_skip (Or.inr (by rw [← hb, hdf]; omega))]; exact hb) (fun h1 h2 => by obtain ⟨q, q1, q2, q3⟩ := hfi h1 h2; exact ⟨q, q1, by omega, q3⟩) (by omega)
          have loop_K : ∀ (fuel : Nat), ∀ (k z : Nat), (z + 1 = a + many) → (a + many ≤ m) → (a ≤ k) → (k ≤ a + many) → a + many - k < fuel → sx_W l X G 0 0 64 [(0, .ref (bd 0)), (1, .int (nI 1)), (2, .int fv1), (3, .int (nI many)), (4, .int (nI a)), (5, .int (nI z)), (6, .int (nI (dS (av 12) a (k - a)))), (7, .int (nI k))] [] (mw X bd (va_up sc 2 (nI 0)) (va_up av 18 Y1)) := by
            intro fuel
            induction fuel with
            | zero => intro k z hz1 ham hk1 hk2 hm; exact absurd hm (Nat.not_lt_zero _)
            | succ fuel ih_K =>
              intro k z hz1 ham hk1 hk2 hm_K
              have hsl := dS_le hZ a (k - a)
              have hs9 : (k - a) * 99999 ≤ 9 * 99999 := Nat.mul_le_mul_right 99999 (by omega)
              have hZk := hZ k
              refine sx_iload (pc := 64) hG dX8_dead_64 7 rfl ?_
              refine sx_iload (pc := 66) hG dX8_dead_66 5 rfl ?_
              refine sx_icmp_gt (pc := 68) (tgt := 89) (B := z < k) hG dX8_dead_68 (by decide) (nI_ltI (by omega) (by omega)) (fun c68 => ?_) (fun c68 => ?_)
              · skip
                have hk9 : k - a = many := by omega
                rw [hk9]
                refine sx_iload_n (pc := 89) hG dX8_dead_89 rfl 3 rfl ?_
                refine sx_iconst (pc := 90) (v := nI 1) hG dX8_dead_90 (by decide +kernel) ?_
                refine sx_icmp_ne (pc := 91) (tgt := 98) (B := many = 1) hG dX8_dead_91 (by decide) (nI_eq (by omega) (by omega)) (fun c91 => ?_) (fun c91 => ?_)
                · skip
                  refine sx_ldc (pc := 98) (v2 := nI 2000000000) hG m_X8_dead_c111 dX8_dead_98 (by decide +kernel) ?_
                  refine sx_istore (pc := 100) (lv2 := [(0, .ref (bd 0)), (1, .int (nI 1)), (2, .int fv1), (3, .int (nI many)), (4, .int (nI a)), (5, .int (nI z)), (6, .int (nI (dS (av 12) a many))), (7, .int (nI 2000000000))]) hG [1, 2, 3, 4, 5, 6, 7, 0] dX8_dead_100 hN (by decide) rfl ?_
                  refine sx_iload (pc := 102) hG dX8_dead_102 4 rfl ?_
                  refine sx_istore (pc := 104) (lv2 := [(0, .ref (bd 0)), (1, .int (nI 1)), (2, .int fv1), (3, .int (nI many)), (4, .int (nI a)), (5, .int (nI z)), (6, .int (nI (dS (av 12) a many))), (7, .int (nI 2000000000)), (8, .int (nI a))]) hG [1, 2, 3, 4, 5, 6, 7, 8, 0] dX8_dead_104 hN (by decide) rfl ?_
                  refine loop_J _ a _ z fv1 hz1 (by omega) (Nat.le_refl _) (by omega) (by unfold dV; rw [sx_mn_init (fun u hu => by unfold dP; rw [if_neg (by omega)])]; rw [if_neg (by omega)]) (fun h1 h2 => absurd h1 (by omega)) (Nat.lt_succ_self _)
                · skip
                  refine sx_iconst (pc := 94) (v := nI 0) hG dX8_dead_94 (by decide +kernel) ?_
                  refine sx_goto (pc := 95) (tgt := 100) hG dX8_dead_95 (by decide) ?_
                  refine sx_istore (pc := 100) (lv2 := [(0, .ref (bd 0)), (1, .int (nI 1)), (2, .int fv1), (3, .int (nI many)), (4, .int (nI a)), (5, .int (nI z)), (6, .int (nI (dS (av 12) a many))), (7, .int (nI 0))]) hG [1, 2, 3, 4, 5, 6, 7, 0] dX8_dead_100 hN (by decide) rfl ?_
                  refine sx_iload (pc := 102) hG dX8_dead_102 4 rfl ?_
                  refine sx_istore (pc := 104) (lv2 := [(0, .ref (bd 0)), (1, .int (nI 1)), (2, .int fv1), (3, .int (nI many)), (4, .int (nI a)), (5, .int (nI z)), (6, .int (nI (dS (av 12) a many))), (7, .int (nI 0)), (8, .int (nI a))]) hG [1, 2, 3, 4, 5, 6, 7, 8, 0] dX8_dead_104 hN (by decide) rfl ?_
                  refine loop_J _ a _ z fv1 hz1 (by omega) (Nat.le_refl _) (by omega) (by unfold dV; rw [sx_mn_init (fun u hu => by unfold dP; rw [if_neg (by omega)])]; rw [if_pos (by omega)]) (fun h1 h2 => absurd h1 (by omega)) (Nat.lt_succ_self _)
              · skip
                refine sx_iload (pc := 71) hG dX8_dead_71 6 rfl ?_
                refine sx_aload_n (pc := 73) hG dX8_dead_73 rfl 0 rfl ?_
                refine sx_get (pc := 74) (v2 := .ref (bd 12)) (ci := 8) hG i_X8_dead_8 17 m_X8_dead_f47 dX8_dead_74 rfl (by decide) 0 rfl rfl rfl ?_
                refine sx_iload (pc := 77) hG dX8_dead_77 7 rfl ?_
                refine sx_iald (pc := 79) (v := nI ((av 12) k)) hG 12 dX8_dead_79 rfl (by decide) (by omega) rfl ?_
                refine sx_iadd (pc := 80) (v := (nI (dS (av 12) a (k + 1 - a)))) hG dX8_dead_80 (by rw [nI_add, show k + 1 - a = (k - a) + 1 by omega, dS_step, show a + (k - a) = k by omega]) ?_
                refine sx_istore (pc := 81) (lv2 := [(0, .ref (bd 0)), (1, .int (nI 1)), (2, .int fv1), (3, .int (nI many)), (4, .int (nI a)), (5, .int (nI z)), (6, .int (nI (dS (av 12) a (k + 1 - a)))), (7, .int (nI k))]) hG [1, 2, 3, 4, 5, 6, 0, 7] dX8_dead_81 hN (by decide) rfl ?_
                refine sx_iinc (pc := 83) (v := (nI (k + 1))) (lv2 := [(0, .ref (bd 0)), (1, .int (nI 1)), (2, .int fv1), (3, .int (nI many)), (4, .int (nI a)), (5, .int (nI z)), (6, .int (nI (dS (av 12) a (k + 1 - a)))), (7, .int (nI (k + 1)))]) hG [1, 2, 3, 4, 5, 6, 7, 0] dX8_dead_83 7 rfl (sx_inc k) hN (by decide) rfl ?_
                refine sx_goto (pc := 86) (tgt := 64) hG dX8_dead_86 (by decide) ?_
                refine ih_K (k + 1) z hz1 ham (by omega) (by omega) (by omega)
          refine sx_iload (pc := 38) hG dX8_dead_38 4 rfl ?_
          refine sx_iload_n (pc := 40) hG dX8_dead_40 rfl 3 rfl ?_
          refine sx_iadd (pc := 41) (v := (nI (a + many))) hG dX8_dead_41 (nI_add a many) ?_
          refine sx_aload_n (pc := 42) hG dX8_dead_42 rfl 0 rfl ?_
          refine sx_get (pc := 43) (v2 := .int (nI m)) (ci := 8) hG i_X8_dead_8 14 m_X8_dead_f131 dX8_dead_43 rfl (by decide) 0 rfl rfl (congrArg Value.int h4) ?_
          refine sx_icmp_gt (pc := 46) (tgt := 192) (B := m < (a + many)) hG dX8_dead_46 (by decide) (nI_ltI (by omega) (by omega)) (fun c46 => ?_) (fun c46 => ?_)
          · skip
            refine sx_iinc (pc := 192) (v := (nI (many + 1))) (lv2 := [(0, .ref (bd 0)), (1, .int (nI 1)), (2, .int fv1), (3, .int (nI (many + 1))), (4, .int (nI a))]) hG [1, 2, 3, 0, 4] dX8_dead_192 3 rfl (sx_inc many) hN (by decide) rfl ?_
            refine sx_goto (pc := 195) (tgt := 27) hG dX8_dead_195 (by decide) ?_
            refine sx_lsub [0, 1, 2, 3] rfl ?_
            refine ih_M (many + 1) fv1 Y1 (by omega) (by omega) (dT_next hm1 hT1 (fun q h1 => hA q (by omega))) hYb1 (fun h1 h2 => hf1 (by omega) (by omega) h2) (by omega)
          · skip
            refine sx_iload (pc := 49) hG dX8_dead_49 4 rfl ?_
            refine sx_iload_n (pc := 51) hG dX8_dead_51 rfl 3 rfl ?_
            refine sx_iadd (pc := 52) (v := (nI (a + many))) hG dX8_dead_52 (nI_add a many) ?_
            refine sx_iconst (pc := 53) (v := nI 1) hG dX8_dead_53 (by decide +kernel) ?_
            refine sx_isub (pc := 54) (v := (nI ((a + many) - 1))) hG dX8_dead_54 (pk_sub (by omega)) ?_
            refine sx_istore (pc := 55) (lv2 := [(0, .ref (bd 0)), (1, .int (nI 1)), (2, .int fv1), (3, .int (nI many)), (4, .int (nI a)), (5, .int (nI ((a + many) - 1)))]) hG [1, 2, 3, 4, 5, 0] dX8_dead_55 hN (by decide) rfl ?_
            obtain ⟨z, hz⟩ : ∃ z : Nat, z = a + many - 1 := ⟨_, rfl⟩
            rw [← hz]
            have hz1 : z + 1 = a + many := by omega
            refine sx_iconst (pc := 57) (v := nI 0) hG dX8_dead_57 (by decide +kernel) ?_
            refine sx_istore (pc := 58) (lv2 := [(0, .ref (bd 0)), (1, .int (nI 1)), (2, .int fv1), (3, .int (nI many)), (4, .int (nI a)), (5, .int (nI z)), (6, .int (nI 0))]) hG [1, 2, 3, 4, 5, 6, 0] dX8_dead_58 hN (by decide) rfl ?_
            refine sx_iload (pc := 60) hG dX8_dead_60 4 rfl ?_
            refine sx_istore (pc := 62) (lv2 := [(0, .ref (bd 0)), (1, .int (nI 1)), (2, .int fv1), (3, .int (nI many)), (4, .int (nI a)), (5, .int (nI z)), (6, .int (nI 0)), (7, .int (nI a))]) hG [1, 2, 3, 4, 5, 6, 7, 0] dX8_dead_62 hN (by decide) rfl ?_
            have e60 : 0 = dS (av 12) a (a - a) := by rw [Nat.sub_self]; rfl
            refine sx_l6 e60 ?_
            refine loop_K _ a z hz1 (by omega) (Nat.le_refl _) (by omega) (Nat.lt_succ_self _)
      refine sx_iload_n (pc := 27) hG dX8_dead_27 rfl 3 rfl ?_
      refine sx_aload_n (pc := 28) hG dX8_dead_28 rfl 0 rfl ?_
      refine sx_get (pc := 29) (v2 := .int (nI m)) (ci := 8) hG i_X8_dead_8 14 m_X8_dead_f131 dX8_dead_29 rfl (by decide) 0 rfl rfl (congrArg Value.int h4) ?_
      refine sx_icmp_gt (pc := 32) (tgt := 198) (B := m < many) hG dX8_dead_32 (by decide) (nI_ltI (by omega) (by omega)) (fun c32 => ?_) (fun c32 => ?_)
      · skip
        refine sx_iload_n (pc := 198) hG dX8_dead_198 rfl 1 rfl ?_
        refine sx_iconst (pc := 199) (v := nI 1) hG dX8_dead_199 (by decide +kernel) ?_
        refine sx_icmp_ne (pc := 200) (tgt := 217) (B := 1 = 1) hG dX8_dead_200 (by decide) (nI_eq (by omega) (by omega)) (fun c200 => ?_) (fun c200 => ?_)
        · skip
          exact absurd (by decide) c200
        · skip
          refine sx_aload_n (pc := 203) hG dX8_dead_203 rfl 0 rfl ?_
          refine sx_get (pc := 204) (v2 := .int (nI m)) (ci := 8) hG i_X8_dead_8 14 m_X8_dead_f131 dX8_dead_204 rfl (by decide) 0 rfl rfl (congrArg Value.int h4) ?_
          refine sx_iconst (pc := 207) (v := nI 2) hG dX8_dead_207 (by decide +kernel) ?_
          refine sx_icmp_ge (pc := 208) (tgt := 215) (B := 2 ≤ m) hG dX8_dead_208 (by decide) (nI_leI (by omega) (by omega)) (fun c208 => ?_) (fun c208 => ?_)
          · skip
            refine sx_iload_n (pc := 215) hG dX8_dead_215 rfl 2 rfl ?_
            have hmm2 : many = m + 1 := by omega
            have hT2 : dT (av 12) Y m (m + 1) := by rw [← hmm2]; exact hT
            exact hret _ _ _ _ dX8_dead_216 rfl ⟨Y, hYb, hT2, Or.inr ⟨c208, hf (by omega) c208⟩, rfl⟩
          · skip
            refine sx_iconst (pc := 211) (v := (-1)) hG dX8_dead_211 (by decide +kernel) ?_
            refine sx_goto (pc := 212) (tgt := 216) hG dX8_dead_212 (by decide) ?_
            have hmm2 : many = m + 1 := by omega
            have hT2 : dT (av 12) Y m (m + 1) := by rw [← hmm2]; exact hT
            exact hret _ _ _ _ dX8_dead_216 rfl ⟨Y, hYb, hT2, Or.inl ⟨by omega, rfl⟩, rfl⟩
      · skip
        refine sx_iconst (pc := 35) (v := nI 0) hG dX8_dead_35 (by decide +kernel) ?_
        refine sx_istore (pc := 36) (lv2 := [(0, .ref (bd 0)), (1, .int (nI 1)), (2, .int fv), (3, .int (nI many)), (4, .int (nI 0))]) hG [1, 2, 3, 4, 0] dX8_dead_36 hN (by decide) rfl ?_
        refine loop_A _ 0 fv Y (by omega) (by omega) hT (fun q h => absurd h (Nat.not_lt_zero _)) hYb (fun h1 h2 => absurd h2 (by decide)) (Nat.lt_succ_self _)
  refine sx_aload_n (pc := 0) hG dX8_dead_0 rfl 0 rfl ?_
  refine sx_iconst (pc := 1) (v := nI 0) hG dX8_dead_1 (by decide +kernel) ?_
  refine sx_put (pc := 2) (v := .int (nI 0)) (ci := 8) (w2 := (mw X bd (va_up sc 2 (nI 0)) av)) hG i_X8_dead_8 tyX8 tyX8_ok nmX8 9 m_X8_dead_f68 dX8_dead_2 rfl (by decide) 0 rfl rfl rfl rfl (Nat.le_of_ble_eq_true rfl) rfl ?_
  refine sx_aload_n (pc := 5) hG dX8_dead_5 rfl 0 rfl ?_
  refine sx_get (pc := 6) (v2 := .int (nI 1)) (ci := 8) hG i_X8_dead_8 13 m_X8_dead_f74 dX8_dead_6 rfl (by decide) 0 rfl rfl (congrArg Value.int h3) ?_
  refine sx_if_eq (pc := 9) (tgt := 21) (B := 1 = 0) hG dX8_dead_9 (by decide) (sx_eq0 (by omega)) (fun c9 => ?_) (fun c9 => ?_)
  · skip
    exact absurd c9 (by decide)
  · skip
    refine sx_iload_n (pc := 12) hG dX8_dead_12 rfl 1 rfl ?_
    refine sx_if_lt (pc := 13) (tgt := 21) (B := False) hG dX8_dead_13 (by decide) (sx_lt0 (by omega)) (fun c13 => ?_) (fun c13 => ?_)
    · skip
      exact absurd c13 (by decide)
    · skip
      refine sx_iload_n (pc := 16) hG dX8_dead_16 rfl 1 rfl ?_
      refine sx_iconst (pc := 17) (v := nI 1) hG dX8_dead_17 (by decide +kernel) ?_
      refine sx_icmp_le (pc := 18) (tgt := 23) (B := 1 ≤ 1) hG dX8_dead_18 (by decide) (nI_leI (by omega) (by omega)) (fun c18 => ?_) (fun c18 => ?_)
      · skip
        refine sx_iconst (pc := 23) (v := (-1)) hG dX8_dead_23 (by decide +kernel) ?_
        refine sx_istore_n (pc := 24) (lv2 := [(0, .ref (bd 0)), (1, .int (nI 1)), (2, .int (-1))]) hG [1, 2, 0] dX8_dead_24 rfl hN (by decide) rfl ?_
        refine sx_iconst (pc := 25) (v := nI 1) hG dX8_dead_25 (by decide +kernel) ?_
        refine sx_istore_n (pc := 26) (lv2 := [(0, .ref (bd 0)), (1, .int (nI 1)), (2, .int (-1)), (3, .int (nI 1))]) hG [1, 2, 3, 0] dX8_dead_26 rfl hN (by decide) rfl ?_
        refine sx_weq (w2 := (mw X bd (va_up sc 2 (nI 0)) (va_up av 18 (av 18)))) rfl ?_
        refine loop_M _ 1 (-1) (av 18) (Nat.le_refl _) (by omega) (fun a z h1 h2 h3 => absurd h3 (by omega)) hY0 (fun h1 h2 => absurd h1 (by omega)) (Nat.lt_succ_self _)
      · skip
        exact absurd (by decide) c18
