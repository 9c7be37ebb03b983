/-! THE REFERENCE: steps, run, step -/
theorem sx_mn_lb {i0 : Nat} {p f : Nat → Nat} {k b : Nat} (hb : b < k) (hp : ¬ p b = 0) : sx_mn i0 p f k ≤ f b := by
  induction k with
  | zero => exact absurd hb (Nat.not_lt_zero _)
  | succ k ih =>
    unfold sx_mn
    by_cases e : b = k
    · subst e; rw [if_neg hp]; split <;> omega
    · have h := ih (by omega)
      split
      · exact h
      · split <;> omega
theorem sx_mn_at {i0 : Nat} {p f : Nat → Nat} {k : Nat} (h : sx_mn i0 p f k < i0) : ∃ b, b < k ∧ ¬ p b = 0 ∧ f b = sx_mn i0 p f k := by
  induction k with
  | zero => exact absurd h (Nat.lt_irrefl _)
  | succ k ih =>
    unfold sx_mn at h ⊢
    by_cases hp : p k = 0
    · rw [if_pos hp] at h ⊢
      obtain ⟨b, h1, h2, h3⟩ := ih h
      exact ⟨b, by omega, h2, h3⟩
    · rw [if_neg hp] at h ⊢
      by_cases hf : f k < sx_mn i0 p f k
      · rw [if_pos hf]; exact ⟨k, by omega, hp, rfl⟩
      · rw [if_neg hf] at h ⊢
        obtain ⟨b, h1, h2, h3⟩ := ih h
        exact ⟨b, by omega, h2, h3⟩
/-- how many are in a set -/
def sx_pc (s : Nat) : Nat := sx_sum (fun i => sx_bit s i) 9
theorem sx_pc_d0 : ∀ s, s < 512 → ∀ k, k < 9 → ¬ sx_bit s k = 0 → sx_pc (sx_diff s (2 ^ k)) + 1 = sx_pc s := by decide +kernel
theorem sx_pc_z0 : ∀ s, s < 512 → sx_pc s = 0 → s = 0 := by decide +kernel
theorem sx_pc_n0 : ∀ n, n < 10 → ∀ s, s < 2 ^ n → sx_pc s ≤ n := by decide +kernel
theorem sx_hi0 : ∀ k, k < 9 → ∀ s, s < 2 ^ (k + 1) → ¬ s < 2 ^ k → ¬ sx_bit s k = 0 ∧ sx_diff s (2 ^ k) < 2 ^ k := by decide +kernel
theorem sx_bitn0 : ∀ n, n < 10 → ∀ s, s < 2 ^ n → ∀ k, k < 9 → ¬ sx_bit s k = 0 → k < n := by decide +kernel
theorem sx_pc_zero : sx_pc 0 = 0 := by decide
theorem mL_small {av : Nat → Nat → Nat} {n : Nat} {L B : Nat → Nat} (hg : mG av) (hn : n ≤ 9) (hT : mT av n L B (2 ^ n)) : ∀ k, k ≤ n → ∀ s, s < 2 ^ k → ∀ a, a < 2 * n → L (18 * s + a) ≤ 10000000 * k := by
  intro k
  induction k with
  | zero =>
    intro _ s hs a ha
    have hs0 : s = 0 := by omega
    subst hs0
    rw [hT.1 0 (Nat.pow_pos (by decide)) a ha]
    exact Nat.le_trans (sx_mn_le _ _ _ _) (by decide)
  | succ k ih =>
    intro hk s hs a ha
    have h2 : 2 ^ (k + 1) ≤ 2 ^ n := Nat.pow_le_pow_right (by decide) hk
    by_cases h : s < 2 ^ k
    · have := ih (by omega) s h a ha; omega
    · obtain ⟨h3, h4⟩ := sx_hi0 k (by omega) s hs h
      rw [hT.1 s (by omega) a ha]
      have h5 : mLv av L s a (2 * n) ≤ mGo av a (2 * k) + L (18 * sx_diff s (2 ^ (2 * k / 2)) + 2 * k) := sx_mn_lb (b := 2 * k) (by omega) (by show ¬ sx_bit s (2 * k / 2) = 0; rw [Nat.mul_div_cancel_left k (by decide)]; exact h3)
      rw [Nat.mul_div_cancel_left k (by decide)] at h5
      have h6 := ih (by omega) _ h4 (2 * k) (by omega)
      have h7 := mGo_le hg a (2 * k)
      omega
/-- what the k-th step a of a row costs with all behind it, and what it may cost -/
def mCand (av : Nat → Nat → Nat) (L : Nat → Nat) (k rest prev a : Nat) : Nat := if sx_bit rest (a / 2) = 0 then 2000000000 else if k = 0 then mFrom av L rest a else mGo av prev a + L (18 * sx_diff rest (2 ^ (a / 2)) + a)
def mTgt (L B : Nat → Nat) (s k rest prev : Nat) : Nat := if k = 0 then B s else L (18 * rest + prev)
def mSel (av : Nat → Nat → Nat) (L B : Nat → Nat) (n s k rest prev a : Nat) : Prop := a < 2 * n ∧ ¬ sx_bit rest (a / 2) = 0 ∧ mCand av L k rest prev a = mTgt L B s k rest prev ∧ ∀ b, b < a → ¬ mCand av L k rest prev b = mTgt L B s k rest prev
/-- R's first k steps are the first ones that keep to the least; 'rest' is left -/
def mPth (av : Nat → Nat → Nat) (L B : Nat → Nat) (n s : Nat) (R : Nat → Nat) : Nat → Nat → Prop
  | 0, rest => rest = s
  | k + 1, rest => ∃ r0, mPth av L B n s R k r0 ∧ ¬ r0 = 0 ∧ mSel av L B n s k r0 (R (k - 1)) (R k) ∧ rest = sx_diff r0 (2 ^ (R k / 2))
theorem mPth_lt {av : Nat → Nat → Nat} {L B : Nat → Nat} {n s : Nat} {R : Nat → Nat} {k rest : Nat} (h : mPth av L B n s R k rest) (hk : ¬ k = 0) : R (k - 1) < 2 * n := by
  cases k with
  | zero => exact absurd rfl hk
  | succ k => obtain ⟨r0, -, -, h1, -⟩ := h; exact h1.1
theorem mPth_0 {av : Nat → Nat → Nat} {L B : Nat → Nat} {n s : Nat} {R : Nat → Nat} {k rest : Nat} (h : mPth av L B n s R k rest) (hk : k = 0) : rest = s := by subst hk; exact h
theorem mPth_up {av : Nat → Nat → Nat} {L B : Nat → Nat} {n s : Nat} {R : Nat → Nat} {i v : Nat} : ∀ {k rest : Nat}, k ≤ i → mPth av L B n s R k rest → mPth av L B n s (va_up R i v) k rest := by
  intro k
  induction k with
  | zero => intro rest _ h; exact h
  | succ k ih =>
    intro rest hk h
    obtain ⟨r0, h1, h2, h3, h4⟩ := h
    have e1 : va_up R i v k = R k := by unfold va_up; rw [if_neg (by omega)]
    have e2 : va_up R i v (k - 1) = R (k - 1) := by unfold va_up; rw [if_neg (by omega)]
    exact ⟨r0, ih (by omega) h1, h2, by rw [e1, e2]; exact h3, by rw [e1]; exact h4⟩
/-- there is a step that keeps to the least -/
theorem mEx {av : Nat → Nat → Nat} {n : Nat} {L B : Nat → Nat} (hg : mG av) (hn : n ≤ 9) (hT : mT av n L B (2 ^ n)) {s k rest prev : Nat} (hr : rest < 2 ^ n) (h0 : ¬ rest = 0) (hk0 : k = 0 → rest = s) (hp : ¬ k = 0 → prev < 2 * n) : (∃ a, a < 2 * n ∧ ¬ sx_bit rest (a / 2) = 0 ∧ mCand av L k rest prev a = mTgt L B s k rest prev) ∧ mTgt L B s k rest prev < 2000000000 := by
  have hp9 := sx_p9 hn
  have hsm := mL_small hg hn hT
  have hi : mI rest = 2000000000 := by unfold mI; rw [if_neg h0]
  -- some bit is there
  have hbit : ∃ i, i < n ∧ ¬ sx_bit rest i = 0 := by
    have h1 : ¬ sx_pc rest = 0 := fun h => h0 (sx_pc_z0 rest (by omega) h)
    rcases Classical.em (∃ i, i < n ∧ ¬ sx_bit rest i = 0) with h | h
    · exact h
    · have h2 : ∀ i, i < 9 → sx_bit rest i = 0 := fun i hi9 => by
        rcases Nat.eq_zero_or_pos (sx_bit rest i) with h3 | h3
        · exact h3
        · exact absurd ⟨i, sx_bitn0 n (by omega) rest hr i hi9 (by omega), by omega⟩ h
      have h4 : sx_pc rest = 0 := by unfold sx_pc; simp only [sx_sum]; rw [h2 0, h2 1, h2 2, h2 3, h2 4, h2 5, h2 6, h2 7, h2 8] <;> decide
      exact absurd h4 h1
  obtain ⟨i, hi1, hi2⟩ := hbit
  have hi2' : ¬ sx_bit rest (2 * i / 2) = 0 := by rw [Nat.mul_div_cancel_left i (by decide)]; exact hi2
  have hd := sx_dlt (s := rest) (k := i) (by omega) (by omega) hi2
  have hd' : sx_diff rest (2 ^ (2 * i / 2)) < rest := by rw [Nat.mul_div_cancel_left i (by decide)]; exact hd
  have hLs := hsm n (Nat.le_refl _) (sx_diff rest (2 ^ (2 * i / 2))) (by omega) (2 * i) (by omega)
  by_cases hk : k = 0
  · have hrs := hk0 hk
    subst hrs
    have ht : mTgt L B rest k rest prev = mBv av L rest (2 * n) := by unfold mTgt; rw [if_pos hk]; exact hT.2 rest hr
    have h1 : mBv av L rest (2 * n) ≤ mFrom av L rest (2 * i) := sx_mn_lb (b := 2 * i) (by omega) hi2'
    have h6 := hg.2.2.2.2.2.1 (2 * i / 2)
    have hlt : mBv av L rest (2 * n) < mI rest := by rw [hi]; unfold mFrom at h1; omega
    obtain ⟨a, ha, hb, hc⟩ := sx_mn_at hlt
    refine ⟨⟨a, ha, hb, ?_⟩, by rw [ht]; omega⟩
    rw [ht]
    unfold mCand
    rw [if_neg hb, if_pos hk]
    exact hc
  · have ht : mTgt L B s k rest prev = mLv av L rest prev (2 * n) := by unfold mTgt; rw [if_neg hk]; exact hT.1 rest hr prev (hp hk)
    have h1 : mLv av L rest prev (2 * n) ≤ mGo av prev (2 * i) + L (18 * sx_diff rest (2 ^ (2 * i / 2)) + 2 * i) := sx_mn_lb (b := 2 * i) (by omega) hi2'
    have h6 := mGo_le hg prev (2 * i)
    have hlt : mLv av L rest prev (2 * n) < mI rest := by rw [hi]; omega
    obtain ⟨a, ha, hb, hc⟩ := sx_mn_at hlt
    refine ⟨⟨a, ha, hb, ?_⟩, by rw [ht]; omega⟩
    rw [ht]
    unfold mCand
    rw [if_neg hb, if_neg hk]
    exact hc
theorem mSel_up {av : Nat → Nat → Nat} {L B : Nat → Nat} {n s k rest : Nat} {R : Nat → Nat} {a v : Nat} (h : mSel av L B n s k rest (R (k - 1)) a) : mSel av L B n s k rest (va_up R k v (k - 1)) a := by
  by_cases hk : k = 0
  · subst hk
    obtain ⟨h1, h2, h3, h4⟩ := h
    have e : ∀ b, mCand av L 0 rest (va_up R 0 v (0 - 1)) b = mCand av L 0 rest (R (0 - 1)) b := fun b => by unfold mCand; rw [if_pos rfl, if_pos rfl]
    have e2 : mTgt L B s 0 rest (va_up R 0 v (0 - 1)) = mTgt L B s 0 rest (R (0 - 1)) := by unfold mTgt; rw [if_pos rfl, if_pos rfl]
    exact ⟨h1, h2, by rw [e, e2]; exact h3, fun b hb => by rw [e, e2]; exact h4 b hb⟩
  · have e : va_up R k v (k - 1) = R (k - 1) := by unfold va_up; rw [if_neg (by omega)]
    rw [e]; exact h
theorem mPth_av {av av2 : Nat → Nat → Nat} {L B : Nat → Nat} {n s : Nat} {R : Nat → Nat} (h1 : ∀ a b, mGo av a b = mGo av2 a b) (h2 : ∀ L s a, mFrom av L s a = mFrom av2 L s a) : ∀ {k rest : Nat}, mPth av L B n s R k rest → mPth av2 L B n s R k rest := by
  have e : ∀ k rest prev a, mCand av L k rest prev a = mCand av2 L k rest prev a := fun k rest prev a => by unfold mCand; rw [h1, h2]
  intro k
  induction k with
  | zero => intro rest h; exact h
  | succ k ih =>
    intro rest h
    obtain ⟨r0, p1, p2, ⟨q1, q2, q3, q4⟩, p4⟩ := h
    exact ⟨r0, ih p1, p2, ⟨q1, q2, by rw [← e]; exact q3, fun b hb => by rw [← e]; exact q4 b hb⟩, p4⟩
theorem sx_isSet_1 {n s : Nat} (hn : n ≤ 9) (h1 : 1 ≤ s) (h2 : s < 2 ^ n) : sx_isSet n (nI s) = 1 := by
  have hp := sx_p9 hn
  have h : (nI s).toInt = s := nI_toInt (by omega)
  unfold sx_isSet; rw [if_pos (by omega)]
theorem sx_isSet_le (n : Nat) (x : Int32) : sx_isSet n x ≤ 1 := by unfold sx_isSet; split <;> omega
theorem i_X8_steps_8 : ∀ w ∈ u_ws RX8 TX8 24, w ∈ wsX8_steps := by decide +kernel
theorem m_X8_steps_f35 : Cond.fieldLink RX8 35 (TX8 10).1 (TX8 10).2.1 (TX8 10).2.2.1 ∈ wsX8_steps := by decide +kernel
theorem m_X8_steps_f41 : Cond.fieldLink RX8 41 (TX8 12).1 (TX8 12).2.1 (TX8 12).2.2.1 ∈ wsX8_steps := by decide +kernel
theorem m_X8_steps_f38 : Cond.fieldLink RX8 38 (TX8 11).1 (TX8 11).2.1 (TX8 11).2.2.1 ∈ wsX8_steps := by decide +kernel
theorem m_X8_steps_c111 : Cond.constant RX8 111 (2000000000) ∈ wsX8_steps := by decide +kernel
set_option maxHeartbeats 4000000 in
set_option maxRecDepth 100000 in
theorem c_X8_steps (l : Launch) (X : sx_X) (bd : Nat → Nat) (sc : Nat → Int32) (av : Nat → Nat → Nat) (n : Nat) (hn : n ≤ 9) (h0 : sc 0 = nI n) (hg : mG av) (s : Nat) (hs : s < 2 ^ n) (hL : ∀ j, av 8 j ≤ 2000000000) (hB : ∀ j, av 9 j ≤ 2000000000) (hT : mT av n (av 8) (av 9) (2 ^ n)) (hR0 : ∀ j, av 10 j < 18) : sx_Mi l yX8_steps wsX8_steps { frames := 3, cells := 0, slots := 0, locals := 70 } X [.ref (bd 0), .int (nI s)] (mw X bd sc av) (fun r w => ∃ Rw : Nat → Nat, r = nI (sx_pc s) ∧ w = mw X bd sc (va_up av 10 Rw) ∧ (∀ j, Rw j < 18) ∧ mPth av (av 8) (av 9) n s Rw (sx_pc s) 0) 0 0 := by
  refine sx_entI (own := RX8) (nL := 8) (by decide +kernel) rfl rfl (Nat.le_of_ble_eq_true rfl) ?_
  intro G hG hN hret
  show sx_W l X G 0 0 0 [(0, .ref (bd 0)), (1, .int (nI s))] [] (mw X bd sc av)
  have hp9 := sx_p9 hn
  have hpc := sx_pc_n0 n (by omega) s hs
  have loop_K : ∀ (fuel : Nat), ∀ (k rest : Nat) (Rw : Nat → Nat), (rest < 2 ^ n) → (k + sx_pc rest = sx_pc s) → (mPth av (av 8) (av 9) n s Rw k rest) → (∀ j, Rw j < 18) → 9 - k < fuel → sx_W l X G 0 0 4 [(0, .ref (bd 0)), (1, .int (nI s)), (2, .int (nI k)), (3, .int (nI rest))] [] (mw X bd sc (va_up av 10 Rw)) := by
    intro fuel
    induction fuel with
    | zero => intro k rest Rw hr hk hpth hR hm; exact absurd hm (Nat.not_lt_zero _)
    | succ fuel ih_K =>
      intro k rest Rw hr hk hpth hR hm_K
      have hk9 := sx_pc_n0 n (by omega) rest hr
      have loop_a : ∀ (fuel : Nat), ∀ (a more : Nat), (¬ rest = 0) → (k < 9) → (a < 2 * n) → (more ≤ 1) → (∀ b, b < a → ¬ mCand av (av 8) k rest (Rw (k - 1)) b = mTgt (av 8) (av 9) s k rest (Rw (k - 1))) → (more = 0 → mSel av (av 8) (av 9) n s k rest (Rw (k - 1)) a) → 2 * (2 * n - a) + more < fuel → sx_W l X G 0 0 14 [(0, .ref (bd 0)), (1, .int (nI s)), (2, .int (nI k)), (3, .int (nI rest)), (4, .int (nI a)), (5, .int (nI more))] [] (mw X bd sc (va_up av 10 Rw)) := by
        intro fuel
        induction fuel with
        | zero => intro a more hr0 hk8 ha hm1 hnx hm0 hm; exact absurd hm (Nat.not_lt_zero _)
        | succ fuel ih_a =>
          intro a more hr0 hk8 ha hm1 hnx hm0 hm_a
          obtain ⟨⟨a0, ha0, hb0, hc0⟩, hTl⟩ := mEx hg hn hT (s := s) (prev := Rw (k - 1)) hr hr0 (mPth_0 hpth) (mPth_lt hpth)
          have hd9 := sx_diff_le rest (2 ^ (a / 2))
          have hb1 := sx_bit_le rest (a / 2)
          have hdv := sx_div_lt (a / 2) (show rest < 512 by omega)
          have hgo := mGo_le hg (Rw (k - 1)) a
          have hL9 := hL (18 * sx_diff rest (2 ^ (a / 2)) + a)
          have hL8 := hL (18 * rest + Rw (k - 1))
          have hR9 := hR (k - 1)
          have hB9 := hB s
          have hfl : mFrom av (av 8) rest a ≤ 2000000126 := by have h6 := hg.2.2.2.2.2.1 (a / 2); unfold mFrom; omega
          have join_v : ∀ (v can : Nat), (more = 1) → (v = mCand av (av 8) k rest (Rw (k - 1)) a) → sx_W l X G 0 0 98 [(0, .ref (bd 0)), (1, .int (nI s)), (2, .int (nI k)), (3, .int (nI rest)), (4, .int (nI a)), (5, .int (nI more)), (6, .int (nI can))] [.int (nI v)] (mw X bd sc (va_up av 10 Rw)) := by
            intro v can hmo hv
            have hvl : v ≤ 2147483646 := by subst hv; unfold mCand; split; decide; split <;> omega
            refine sx_istore (pc := 98) (lv2 := [(0, .ref (bd 0)), (1, .int (nI s)), (2, .int (nI k)), (3, .int (nI rest)), (4, .int (nI a)), (5, .int (nI more)), (6, .int (nI can)), (7, .int (nI v))]) hG [1, 2, 3, 4, 5, 6, 7, 0] dX8_steps_98 hN (by decide) rfl ?_
            refine sx_iload (pc := 100) hG dX8_steps_100 7 rfl ?_
            refine sx_iload_n (pc := 102) hG dX8_steps_102 rfl 2 rfl ?_
            refine sx_if_ne (pc := 103) (tgt := 115) (B := k = 0) hG dX8_steps_103 (by decide) (sx_eq0 (by omega)) (fun c103 => ?_) (fun c103 => ?_)
            · skip
              refine sx_aload_n (pc := 115) hG dX8_steps_115 rfl 0 rfl ?_
              refine sx_get (pc := 116) (v2 := .ref (bd 8)) (ci := 8) hG i_X8_steps_8 10 m_X8_steps_f35 dX8_steps_116 rfl (by decide) 0 rfl rfl rfl ?_
              refine sx_bipush (pc := 119) (v := nI 18) hG dX8_steps_119 (by decide +kernel) ?_
              refine sx_iload_n (pc := 121) hG dX8_steps_121 rfl 3 rfl ?_
              refine sx_imul (pc := 122) (v := (nI (18 * rest))) hG dX8_steps_122 (pk_mul 18 rest) ?_
              refine sx_aload_n (pc := 123) hG dX8_steps_123 rfl 0 rfl ?_
              refine sx_get (pc := 124) (v2 := .ref (bd 10)) (ci := 8) hG i_X8_steps_8 12 m_X8_steps_f41 dX8_steps_124 rfl (by decide) 0 rfl rfl rfl ?_
              refine sx_iload_n (pc := 127) hG dX8_steps_127 rfl 2 rfl ?_
              refine sx_iconst (pc := 128) (v := nI 1) hG dX8_steps_128 (by decide +kernel) ?_
              refine sx_isub (pc := 129) (v := (nI (k - 1))) hG dX8_steps_129 (pk_sub (by omega)) ?_
              refine sx_iald (pc := 130) (v := nI (Rw (k - 1))) hG 10 dX8_steps_130 rfl (by decide) (by omega) rfl ?_
              refine sx_iadd (pc := 131) (v := (nI (18 * rest + (Rw (k - 1))))) hG dX8_steps_131 (nI_add (18 * rest) (Rw (k - 1))) ?_
              refine sx_iald (pc := 132) (v := nI ((av 8) (18 * rest + (Rw (k - 1))))) hG 8 dX8_steps_132 rfl (by decide) (by omega) rfl ?_
              refine sx_icmp_eq (pc := 133) (tgt := 140) (B := v = ((av 8) (18 * rest + (Rw (k - 1))))) hG dX8_steps_133 (by decide) (nI_eq (by omega) (by omega)) (fun c133 => ?_) (fun c133 => ?_)
              · skip
                have heq : mCand av (av 8) k rest (Rw (k - 1)) a = mTgt (av 8) (av 9) s k rest (Rw (k - 1)) := by rw [← hv, c133]; unfold mTgt; first | (rw [if_pos c103]; done) | (rw [if_neg c103]; done)
                have hbz : ¬ sx_bit rest (a / 2) = 0 := fun h => by unfold mCand at heq; rw [if_pos h] at heq; omega
                refine sx_iconst (pc := 140) (v := nI 0) hG dX8_steps_140 (by decide +kernel) ?_
                refine sx_istore (pc := 141) (lv2 := [(0, .ref (bd 0)), (1, .int (nI s)), (2, .int (nI k)), (3, .int (nI rest)), (4, .int (nI a)), (5, .int (nI 0)), (6, .int (nI can)), (7, .int (nI v))]) hG [1, 2, 3, 4, 5, 0, 6, 7] dX8_steps_141 hN (by decide) rfl ?_
                refine sx_iload (pc := 143) hG dX8_steps_143 5 rfl ?_
                refine sx_if_eq (pc := 145) (tgt := 151) (B := 0 = 0) hG dX8_steps_145 (by decide) (sx_eq0 (by omega)) (fun c145 => ?_) (fun c145 => ?_)
                · skip
                  refine sx_goto (pc := 151) (tgt := 14) hG dX8_steps_151 (by decide) ?_
                  refine sx_lsub [0, 1, 2, 3, 4, 5] rfl ?_
                  refine ih_a _ _ hr0 hk8 ha (Nat.zero_le _) hnx (fun _ => ⟨ha, hbz, heq, hnx⟩) (by omega)
                · skip
                  exact absurd (by decide) c145
              · skip
                have hne : ¬ mCand av (av 8) k rest (Rw (k - 1)) a = mTgt (av 8) (av 9) s k rest (Rw (k - 1)) := fun h => c133 (by rw [hv, h]; unfold mTgt; first | (rw [if_pos c103]; done) | (rw [if_neg c103]; done))
                refine sx_iconst (pc := 136) (v := nI 1) hG dX8_steps_136 (by decide +kernel) ?_
                refine sx_goto (pc := 137) (tgt := 141) hG dX8_steps_137 (by decide) ?_
                refine sx_istore (pc := 141) (lv2 := [(0, .ref (bd 0)), (1, .int (nI s)), (2, .int (nI k)), (3, .int (nI rest)), (4, .int (nI a)), (5, .int (nI 1)), (6, .int (nI can)), (7, .int (nI v))]) hG [1, 2, 3, 4, 5, 0, 6, 7] dX8_steps_141 hN (by decide) rfl ?_
                refine sx_iload (pc := 143) hG dX8_steps_143 5 rfl ?_
                refine sx_if_eq (pc := 145) (tgt := 151) (B := 1 = 0) hG dX8_steps_145 (by decide) (sx_eq0 (by omega)) (fun c145 => ?_) (fun c145 => ?_)
                · skip
                  exact absurd c145 (by decide)
                · skip
                  refine sx_iinc (pc := 148) (v := (nI (a + 1))) (lv2 := [(0, .ref (bd 0)), (1, .int (nI s)), (2, .int (nI k)), (3, .int (nI rest)), (4, .int (nI (a + 1))), (5, .int (nI 1)), (6, .int (nI can)), (7, .int (nI v))]) hG [1, 2, 3, 4, 0, 5, 6, 7] dX8_steps_148 4 rfl (sx_inc a) hN (by decide) rfl ?_
                  refine sx_goto (pc := 151) (tgt := 14) hG dX8_steps_151 (by decide) ?_
                  refine sx_lsub [0, 1, 2, 3, 4, 5] rfl ?_
                  refine ih_a _ _ hr0 hk8 (by rcases Nat.lt_or_ge (a + 1) (2 * n) with h | h; exact h; exact absurd hc0 (by rcases Nat.lt_or_ge a0 a with h2 | h2; exact hnx a0 h2; have e : a0 = a := (by omega); subst e; exact hne)) (Nat.le_refl _) (fun b h => by rcases Nat.lt_or_ge b a with h2 | h2; exact hnx b h2; have e : b = a := (by omega); subst e; exact hne) (fun h => absurd h (by decide)) (by omega)
            · skip
              refine sx_aload_n (pc := 106) hG dX8_steps_106 rfl 0 rfl ?_
              refine sx_get (pc := 107) (v2 := .ref (bd 9)) (ci := 8) hG i_X8_steps_8 11 m_X8_steps_f38 dX8_steps_107 rfl (by decide) 0 rfl rfl rfl ?_
              refine sx_iload_n (pc := 110) hG dX8_steps_110 rfl 1 rfl ?_
              refine sx_iald (pc := 111) (v := nI ((av 9) s)) hG 9 dX8_steps_111 rfl (by decide) (by omega) rfl ?_
              refine sx_goto (pc := 112) (tgt := 133) hG dX8_steps_112 (by decide) ?_
              refine sx_icmp_eq (pc := 133) (tgt := 140) (B := v = ((av 9) s)) hG dX8_steps_133 (by decide) (nI_eq (by omega) (by omega)) (fun c133 => ?_) (fun c133 => ?_)
              · skip
                have heq : mCand av (av 8) k rest (Rw (k - 1)) a = mTgt (av 8) (av 9) s k rest (Rw (k - 1)) := by rw [← hv, c133]; unfold mTgt; first | (rw [if_pos c103]; done) | (rw [if_neg c103]; done)
                have hbz : ¬ sx_bit rest (a / 2) = 0 := fun h => by unfold mCand at heq; rw [if_pos h] at heq; omega
                refine sx_iconst (pc := 140) (v := nI 0) hG dX8_steps_140 (by decide +kernel) ?_
                refine sx_istore (pc := 141) (lv2 := [(0, .ref (bd 0)), (1, .int (nI s)), (2, .int (nI k)), (3, .int (nI rest)), (4, .int (nI a)), (5, .int (nI 0)), (6, .int (nI can)), (7, .int (nI v))]) hG [1, 2, 3, 4, 5, 0, 6, 7] dX8_steps_141 hN (by decide) rfl ?_
                refine sx_iload (pc := 143) hG dX8_steps_143 5 rfl ?_
                refine sx_if_eq (pc := 145) (tgt := 151) (B := 0 = 0) hG dX8_steps_145 (by decide) (sx_eq0 (by omega)) (fun c145 => ?_) (fun c145 => ?_)
                · skip
                  refine sx_goto (pc := 151) (tgt := 14) hG dX8_steps_151 (by decide) ?_
                  refine sx_lsub [0, 1, 2, 3, 4, 5] rfl ?_
                  refine ih_a _ _ hr0 hk8 ha (Nat.zero_le _) hnx (fun _ => ⟨ha, hbz, heq, hnx⟩) (by omega)
                · skip
                  exact absurd (by decide) c145
              · skip
                have hne : ¬ mCand av (av 8) k rest (Rw (k - 1)) a = mTgt (av 8) (av 9) s k rest (Rw (k - 1)) := fun h => c133 (by rw [hv, h]; unfold mTgt; first | (rw [if_pos c103]; done) | (rw [if_neg c103]; done))
                refine sx_iconst (pc := 136) (v := nI 1) hG dX8_steps_136 (by decide +kernel) ?_
                refine sx_goto (pc := 137) (tgt := 141) hG dX8_steps_137 (by decide) ?_
                refine sx_istore (pc := 141) (lv2 := [(0, .ref (bd 0)), (1, .int (nI s)), (2, .int (nI k)), (3, .int (nI rest)), (4, .int (nI a)), (5, .int (nI 1)), (6, .int (nI can)), (7, .int (nI v))]) hG [1, 2, 3, 4, 5, 0, 6, 7] dX8_steps_141 hN (by decide) rfl ?_
                refine sx_iload (pc := 143) hG dX8_steps_143 5 rfl ?_
                refine sx_if_eq (pc := 145) (tgt := 151) (B := 1 = 0) hG dX8_steps_145 (by decide) (sx_eq0 (by omega)) (fun c145 => ?_) (fun c145 => ?_)
                · skip
                  exact absurd c145 (by decide)
                · skip
                  refine sx_iinc (pc := 148) (v := (nI (a + 1))) (lv2 := [(0, .ref (bd 0)), (1, .int (nI s)), (2, .int (nI k)), (3, .int (nI rest)), (4, .int (nI (a + 1))), (5, .int (nI 1)), (6, .int (nI can)), (7, .int (nI v))]) hG [1, 2, 3, 4, 0, 5, 6, 7] dX8_steps_148 4 rfl (sx_inc a) hN (by decide) rfl ?_
                  refine sx_goto (pc := 151) (tgt := 14) hG dX8_steps_151 (by decide) ?_
                  refine sx_lsub [0, 1, 2, 3, 4, 5] rfl ?_
                  refine ih_a _ _ hr0 hk8 (by rcases Nat.lt_or_ge (a + 1) (2 * n) with h | h; exact h; exact absurd hc0 (by rcases Nat.lt_or_ge a0 a with h2 | h2; exact hnx a0 h2; have e : a0 = a := (by omega); subst e; exact hne)) (Nat.le_refl _) (fun b h => by rcases Nat.lt_or_ge b a with h2 | h2; exact hnx b h2; have e : b = a := (by omega); subst e; exact hne) (fun h => absurd h (by decide)) (by omega)
          refine sx_iload (pc := 14) hG dX8_steps_14 5 rfl ?_
          refine sx_if_eq (pc := 16) (tgt := 154) (B := more = 0) hG dX8_steps_16 (by decide) (sx_eq0 (by omega)) (fun c16 => ?_) (fun c16 => ?_)
          · skip
            refine sx_aload_n (pc := 154) hG dX8_steps_154 rfl 0 rfl ?_
            refine sx_get (pc := 155) (v2 := .ref (bd 10)) (ci := 8) hG i_X8_steps_8 12 m_X8_steps_f41 dX8_steps_155 rfl (by decide) 0 rfl rfl rfl ?_
            refine sx_iload_n (pc := 158) hG dX8_steps_158 rfl 2 rfl ?_
            refine sx_iload (pc := 159) hG dX8_steps_159 4 rfl ?_
            refine sx_iastN (pc := 161) (w2 := (mw X bd sc (va_up av 10 (va_up Rw k a)))) hG 10 dX8_steps_161 rfl (by decide) (by omega) rfl ?_
            refine sx_iinc (pc := 162) (v := (nI (k + 1))) (lv2 := [(0, .ref (bd 0)), (1, .int (nI s)), (2, .int (nI (k + 1))), (3, .int (nI rest)), (4, .int (nI a)), (5, .int (nI more))]) hG [1, 2, 0, 3, 4, 5] dX8_steps_162 2 rfl (sx_inc k) hN (by decide) rfl ?_
            refine sx_iload_n (pc := 165) hG dX8_steps_165 rfl 3 rfl ?_
            refine sx_iconst (pc := 166) (v := nI 1) hG dX8_steps_166 (by decide +kernel) ?_
            refine sx_iload (pc := 167) hG dX8_steps_167 4 rfl ?_
            refine sx_iconst (pc := 169) (v := nI 2) hG dX8_steps_169 (by decide +kernel) ?_
            refine sx_idiv (pc := 170) (v := (nI (a / 2))) hG dX8_steps_170 (nI_ne0 (by decide) (by decide)) (pk_div (by omega) (by decide) (by decide)) ?_
            refine sx_ishl (pc := 171) (v := (nI (2 ^ (a / 2)))) hG dX8_steps_171 (sx_one (by omega)) ?_
            refine sx_iconst (pc := 172) (v := (-1)) hG dX8_steps_172 (by decide +kernel) ?_
            refine sx_ixor (pc := 173) (v := (nI (2 ^ (a / 2)) ^^^ (-1))) hG dX8_steps_173 rfl ?_
            refine sx_iand (pc := 174) (v := (nI (sx_diff rest (2 ^ (a / 2))))) hG dX8_steps_174 (sx_andnot (by omega) (sx_p2 (by omega))) ?_
            refine sx_istore_n (pc := 175) (lv2 := [(0, .ref (bd 0)), (1, .int (nI s)), (2, .int (nI (k + 1))), (3, .int (nI (sx_diff rest (2 ^ (a / 2))))), (4, .int (nI a)), (5, .int (nI more))]) hG [1, 2, 3, 0, 4, 5] dX8_steps_175 rfl hN (by decide) rfl ?_
            refine sx_goto (pc := 176) (tgt := 4) hG dX8_steps_176 (by decide) ?_
            refine sx_lsub [0, 1, 2, 3] rfl ?_
            refine ih_K (k + 1) (sx_diff rest (2 ^ (a / 2))) (va_up Rw k a) (by have := sx_diff_le rest (2 ^ (a / 2)); omega) (by have := sx_pc_d0 rest (by omega) (a / 2) (by omega) (hm0 c16).2.1; omega) ⟨rest, mPth_up (Nat.le_refl _) hpth, hr0, by rw [show va_up Rw k a k = a by simp [va_up]]; exact mSel_up (hm0 c16), by rw [show va_up Rw k a k = a by simp [va_up]]⟩ (fun j => by unfold va_up; split; omega; exact hR j) (by omega)
          · skip
            refine sx_iload_n (pc := 19) hG dX8_steps_19 rfl 3 rfl ?_
            refine sx_iload (pc := 20) hG dX8_steps_20 4 rfl ?_
            refine sx_iconst (pc := 22) (v := nI 2) hG dX8_steps_22 (by decide +kernel) ?_
            refine sx_idiv (pc := 23) (v := (nI (a / 2))) hG dX8_steps_23 (nI_ne0 (by decide) (by decide)) (pk_div (by omega) (by decide) (by decide)) ?_
            refine sx_ishr (pc := 24) (v := (nI (rest / 2 ^ (a / 2)))) hG dX8_steps_24 (sx_shr (by omega) (by omega)) ?_
            refine sx_iconst (pc := 25) (v := nI 1) hG dX8_steps_25 (by decide +kernel) ?_
            refine sx_iand (pc := 26) (v := (nI (sx_bit rest (a / 2)))) hG dX8_steps_26 (sx_bit1 (by omega)) ?_
            refine sx_iconst (pc := 27) (v := nI 1) hG dX8_steps_27 (by decide +kernel) ?_
            refine sx_icmp_ne (pc := 28) (tgt := 35) (B := (sx_bit rest (a / 2)) = 1) hG dX8_steps_28 (by decide) (nI_eq (by omega) (by omega)) (fun c28 => ?_) (fun c28 => ?_)
            · skip
              refine sx_iconst (pc := 35) (v := nI 0) hG dX8_steps_35 (by decide +kernel) ?_
              refine sx_istore (pc := 36) (lv2 := [(0, .ref (bd 0)), (1, .int (nI s)), (2, .int (nI k)), (3, .int (nI rest)), (4, .int (nI a)), (5, .int (nI more)), (6, .int (nI 0))]) hG [1, 2, 3, 4, 5, 6, 0] dX8_steps_36 hN (by decide) rfl ?_
              refine sx_iload (pc := 38) hG dX8_steps_38 6 rfl ?_
              refine sx_if_ne (pc := 40) (tgt := 48) (B := 0 = 0) hG dX8_steps_40 (by decide) (sx_eq0 (by omega)) (fun c40 => ?_) (fun c40 => ?_)
              · skip
                exact absurd (by decide) c40
              · skip
                refine sx_ldc (pc := 43) (v2 := nI 2000000000) hG m_X8_steps_c111 dX8_steps_43 (by decide +kernel) ?_
                refine sx_goto (pc := 45) (tgt := 98) hG dX8_steps_45 (by decide) ?_
                refine join_v _ _ (by omega) (by unfold mCand; rw [if_pos (by omega)])
            · skip
              refine sx_iconst (pc := 31) (v := nI 1) hG dX8_steps_31 (by decide +kernel) ?_
              refine sx_goto (pc := 32) (tgt := 36) hG dX8_steps_32 (by decide) ?_
              refine sx_istore (pc := 36) (lv2 := [(0, .ref (bd 0)), (1, .int (nI s)), (2, .int (nI k)), (3, .int (nI rest)), (4, .int (nI a)), (5, .int (nI more)), (6, .int (nI 1))]) hG [1, 2, 3, 4, 5, 6, 0] dX8_steps_36 hN (by decide) rfl ?_
              refine sx_iload (pc := 38) hG dX8_steps_38 6 rfl ?_
              refine sx_if_ne (pc := 40) (tgt := 48) (B := 1 = 0) hG dX8_steps_40 (by decide) (sx_eq0 (by omega)) (fun c40 => ?_) (fun c40 => ?_)
              · skip
                refine sx_iload_n (pc := 48) hG dX8_steps_48 rfl 2 rfl ?_
                refine sx_if_ne (pc := 49) (tgt := 62) (B := k = 0) hG dX8_steps_49 (by decide) (sx_eq0 (by omega)) (fun c49 => ?_) (fun c49 => ?_)
                · skip
                  refine sx_aload_n (pc := 62) hG dX8_steps_62 rfl 0 rfl ?_
                  refine sx_aload_n (pc := 63) hG dX8_steps_63 rfl 0 rfl ?_
                  refine sx_get (pc := 64) (v2 := .ref (bd 10)) (ci := 8) hG i_X8_steps_8 12 m_X8_steps_f41 dX8_steps_64 rfl (by decide) 0 rfl rfl rfl ?_
                  refine sx_iload_n (pc := 67) hG dX8_steps_67 rfl 2 rfl ?_
                  refine sx_iconst (pc := 68) (v := nI 1) hG dX8_steps_68 (by decide +kernel) ?_
                  refine sx_isub (pc := 69) (v := (nI (k - 1))) hG dX8_steps_69 (pk_sub (by omega)) ?_
                  refine sx_iald (pc := 70) (v := nI (Rw (k - 1))) hG 10 dX8_steps_70 rfl (by decide) (by omega) rfl ?_
                  refine sx_iload (pc := 71) hG dX8_steps_71 4 rfl ?_
                  refine sx_callViw (pc := 73) (n9 := 2) (As := [.int (nI (Rw (k - 1))), .int (nI a)]) (st := []) (b := (bd 0)) (ci := 8) hG (c_X8_goes l X bd sc (va_up av 10 Rw) (Rw (k - 1)) a (hR _) (by omega) hg) gX8_steps_X8_goes rfl (by decide +kernel) rfl 0 rfl rfl rfl dX8_steps_73 ⟨rfl, rfl⟩ ⟨Nat.le_of_ble_eq_true rfl, Nat.le_of_ble_eq_true rfl⟩ (Nat.le_of_ble_eq_true rfl) ⟨Nat.le_of_ble_eq_true rfl, Nat.le_of_ble_eq_true rfl⟩ (fun r w1 hp => ?_)
                  obtain ⟨hr9, hw9⟩ := hp
                  have hr9 : r = (nI (mGo av (Rw (k - 1)) a)) := hr9
                  subst hr9
                  refine sx_weq hw9 ?_
                  refine sx_aload_n (pc := 76) hG dX8_steps_76 rfl 0 rfl ?_
                  refine sx_get (pc := 77) (v2 := .ref (bd 8)) (ci := 8) hG i_X8_steps_8 10 m_X8_steps_f35 dX8_steps_77 rfl (by decide) 0 rfl rfl rfl ?_
                  refine sx_bipush (pc := 80) (v := nI 18) hG dX8_steps_80 (by decide +kernel) ?_
                  refine sx_iload_n (pc := 82) hG dX8_steps_82 rfl 3 rfl ?_
                  refine sx_iconst (pc := 83) (v := nI 1) hG dX8_steps_83 (by decide +kernel) ?_
                  refine sx_iload (pc := 84) hG dX8_steps_84 4 rfl ?_
                  refine sx_iconst (pc := 86) (v := nI 2) hG dX8_steps_86 (by decide +kernel) ?_
                  refine sx_idiv (pc := 87) (v := (nI (a / 2))) hG dX8_steps_87 (nI_ne0 (by decide) (by decide)) (pk_div (by omega) (by decide) (by decide)) ?_
                  refine sx_ishl (pc := 88) (v := (nI (2 ^ (a / 2)))) hG dX8_steps_88 (sx_one (by omega)) ?_
                  refine sx_iconst (pc := 89) (v := (-1)) hG dX8_steps_89 (by decide +kernel) ?_
                  refine sx_ixor (pc := 90) (v := (nI (2 ^ (a / 2)) ^^^ (-1))) hG dX8_steps_90 rfl ?_
                  refine sx_iand (pc := 91) (v := (nI (sx_diff rest (2 ^ (a / 2))))) hG dX8_steps_91 (sx_andnot (by omega) (sx_p2 (by omega))) ?_
                  refine sx_imul (pc := 92) (v := (nI (18 * (sx_diff rest (2 ^ (a / 2)))))) hG dX8_steps_92 (pk_mul 18 (sx_diff rest (2 ^ (a / 2)))) ?_
                  refine sx_iload (pc := 93) hG dX8_steps_93 4 rfl ?_
                  refine sx_iadd (pc := 95) (v := (nI (18 * (sx_diff rest (2 ^ (a / 2))) + a))) hG dX8_steps_95 (nI_add (18 * (sx_diff rest (2 ^ (a / 2)))) a) ?_
                  refine sx_iald (pc := 96) (v := nI ((av 8) (18 * (sx_diff rest (2 ^ (a / 2))) + a))) hG 8 dX8_steps_96 rfl (by decide) (by omega) rfl ?_
                  refine sx_iadd (pc := 97) (v := (nI (mGo av (Rw (k - 1)) a + ((av 8) (18 * (sx_diff rest (2 ^ (a / 2))) + a))))) hG dX8_steps_97 (nI_add (mGo av (Rw (k - 1)) a) ((av 8) (18 * (sx_diff rest (2 ^ (a / 2))) + a))) ?_
                  refine join_v _ _ (by omega) (by unfold mCand; rw [if_neg (by omega), if_neg c49])
                · skip
                  refine sx_aload_n (pc := 52) hG dX8_steps_52 rfl 0 rfl ?_
                  refine sx_iload_n (pc := 53) hG dX8_steps_53 rfl 3 rfl ?_
                  refine sx_iload (pc := 54) hG dX8_steps_54 4 rfl ?_
                  refine sx_callViw (pc := 56) (n9 := 2) (As := [.int (nI rest), .int (nI a)]) (st := []) (b := (bd 0)) (ci := 8) hG (c_X8_from l X bd sc (va_up av 10 Rw) rest a (by omega) (by omega) hg hL) gX8_steps_X8_from rfl (by decide +kernel) rfl 0 rfl rfl rfl dX8_steps_56 ⟨rfl, rfl⟩ ⟨Nat.le_of_ble_eq_true rfl, Nat.le_of_ble_eq_true rfl⟩ (Nat.le_of_ble_eq_true rfl) ⟨Nat.le_of_ble_eq_true rfl, Nat.le_of_ble_eq_true rfl⟩ (fun r w1 hp => ?_)
                  obtain ⟨hr9, hw9⟩ := hp
                  have hr9 : r = (nI (mFrom av (av 8) rest a)) := hr9
                  subst hr9
                  refine sx_weq hw9 ?_
                  refine sx_goto (pc := 59) (tgt := 98) hG dX8_steps_59 (by decide) ?_
                  refine join_v _ _ (by omega) (by unfold mCand; rw [if_neg (by omega), if_pos c49])
              · skip
                exact absurd c40 (by decide)
      refine sx_iload_n (pc := 4) hG dX8_steps_4 rfl 3 rfl ?_
      refine sx_if_eq (pc := 5) (tgt := 179) (B := rest = 0) hG dX8_steps_5 (by decide) (sx_eq0 (by omega)) (fun c5 => ?_) (fun c5 => ?_)
      · skip
        refine sx_iload_n (pc := 179) hG dX8_steps_179 rfl 2 rfl ?_
        have hz : rest = 0 := c5
        subst hz
        have hkk : k = sx_pc s := by have := sx_pc_zero; omega
        subst hkk
        exact hret _ _ _ _ dX8_steps_180 rfl ⟨Rw, rfl, rfl, hR, hpth⟩
      · skip
        refine sx_iconst (pc := 8) (v := nI 0) hG dX8_steps_8 (by decide +kernel) ?_
        refine sx_istore (pc := 9) (lv2 := [(0, .ref (bd 0)), (1, .int (nI s)), (2, .int (nI k)), (3, .int (nI rest)), (4, .int (nI 0))]) hG [1, 2, 3, 4, 0] dX8_steps_9 hN (by decide) rfl ?_
        refine sx_iconst (pc := 11) (v := nI 1) hG dX8_steps_11 (by decide +kernel) ?_
        refine sx_istore (pc := 12) (lv2 := [(0, .ref (bd 0)), (1, .int (nI s)), (2, .int (nI k)), (3, .int (nI rest)), (4, .int (nI 0)), (5, .int (nI 1))]) hG [1, 2, 3, 4, 5, 0] dX8_steps_12 hN (by decide) rfl ?_
        refine loop_a _ 0 1 c5 (by have := sx_pc_z0 rest (by omega); omega) (by have := sx_pc_z0 rest (by omega); omega) (Nat.le_refl _) (fun b h => absurd h (Nat.not_lt_zero _)) (fun h => absurd h (by decide)) (Nat.lt_succ_self _)
  refine sx_iconst (pc := 0) (v := nI 0) hG dX8_steps_0 (by decide +kernel) ?_
  refine sx_istore_n (pc := 1) (lv2 := [(0, .ref (bd 0)), (1, .int (nI s)), (2, .int (nI 0))]) hG [1, 2, 0] dX8_steps_1 rfl hN (by decide) rfl ?_
  refine sx_iload_n (pc := 2) hG dX8_steps_2 rfl 1 rfl ?_
  refine sx_istore_n (pc := 3) (lv2 := [(0, .ref (bd 0)), (1, .int (nI s)), (2, .int (nI 0)), (3, .int (nI s))]) hG [1, 2, 3, 0] dX8_steps_3 rfl hN (by decide) rfl ?_
  refine sx_weq (w2 := (mw X bd sc (va_up av 10 (av 10)))) rfl ?_
  refine loop_K _ 0 s (av 10) hs (Nat.zero_add _) rfl hR0 (Nat.lt_succ_self _)

theorem i_X8_run_8 : ∀ w ∈ u_ws RX8 TX8 24, w ∈ wsX8_run := by decide +kernel
theorem m_X8_run_f68 : Cond.fieldLink RX8 68 (TX8 9).1 (TX8 9).2.1 (TX8 9).2.2.1 ∈ wsX8_run := by decide +kernel
theorem m_X8_run_f38 : Cond.fieldLink RX8 38 (TX8 11).1 (TX8 11).2.1 (TX8 11).2.2.1 ∈ wsX8_run := by decide +kernel
theorem m_X8_run_c107 : Cond.constant RX8 107 (100000) ∈ wsX8_run := by decide +kernel
set_option maxHeartbeats 4000000 in
set_option maxRecDepth 100000 in
theorem c_X8_run_0 (l : Launch) (X : sx_X) (bd : Nat → Nat) (sc : Nat → Int32) (av : Nat → Nat → Nat) (n : Nat) (hn : n ≤ 9) (h0 : sc 0 = nI n) (hg : mG av) (hL0 : ∀ j, av 8 j ≤ 2000000000) (hB0 : ∀ j, av 9 j ≤ 2000000000) (s : Nat) (hs1 : 1 ≤ s) (hs : s < 2 ^ n) : sx_Mi l yX8_run wsX8_run { frames := 4, cells := 0, slots := 0, locals := 95 } X [.ref (bd 0), .int (nI s), .int (nI 0)] (mw X bd sc av) (fun r w => ∃ L B : Nat → Nat, r = nI (B s / 100000) ∧ w = mw X bd (va_up sc 2 (nI 0)) (va_up (va_up av 8 L) 9 B) ∧ (∀ j, L j ≤ 2000000000) ∧ (∀ j, B j ≤ 2000000000) ∧ mT av n L B (2 ^ n)) 0 0 := by
  refine sx_entI (own := RX8) (nL := 6) (by decide +kernel) rfl rfl (Nat.le_of_ble_eq_true rfl) ?_
  intro G hG hN hret
  show sx_W l X G 0 0 0 [(0, .ref (bd 0)), (1, .int (nI s)), (2, .int (nI 0))] [] (mw X bd sc av)
  have hp9 := sx_p9 hn
  refine sx_aload_n (pc := 0) hG dX8_run_0 rfl 0 rfl ?_
  refine sx_iconst (pc := 1) (v := nI 0) hG dX8_run_1 (by decide +kernel) ?_
  refine sx_put (pc := 2) (v := .int (nI 0)) (ci := 8) (w2 := (mw X bd (va_up sc 2 (nI 0)) av)) hG i_X8_run_8 tyX8 tyX8_ok nmX8 9 m_X8_run_f68 dX8_run_2 rfl (by decide) 0 rfl rfl rfl rfl (Nat.le_of_ble_eq_true rfl) rfl ?_
  refine sx_aload_n (pc := 5) hG dX8_run_5 rfl 0 rfl ?_
  refine sx_iload_n (pc := 6) hG dX8_run_6 rfl 1 rfl ?_
  refine sx_callViw (pc := 7) (n9 := 1) (As := [.int (nI s)]) (st := []) (b := (bd 0)) (ci := 8) hG (c_X8_isSet l X bd (va_up sc 2 (nI 0)) av (nI s) n hn h0) gX8_run_X8_isSet rfl (by decide +kernel) rfl 0 rfl rfl rfl dX8_run_7 ⟨rfl, rfl⟩ ⟨Nat.le_of_ble_eq_true rfl, Nat.le_of_ble_eq_true rfl⟩ (Nat.le_of_ble_eq_true rfl) ⟨Nat.le_of_ble_eq_true rfl, Nat.le_of_ble_eq_true rfl⟩ (fun r w1 hp => ?_)
  obtain ⟨hr9, hw9⟩ := hp
  rw [sx_isSet_1 hn hs1 hs] at hr9
  subst hr9
  refine sx_weq hw9 ?_
  refine sx_if_eq (pc := 10) (tgt := 22) (B := 1 = 0) hG dX8_run_10 (by decide) (sx_eq0 (by omega)) (fun c10 => ?_) (fun c10 => ?_)
  · skip
    exact absurd c10 (by decide)
  · skip
    refine sx_iload_n (pc := 13) hG dX8_run_13 rfl 2 rfl ?_
    refine sx_if_lt (pc := 14) (tgt := 22) (B := False) hG dX8_run_14 (by decide) (sx_lt0 (by omega)) (fun c14 => ?_) (fun c14 => ?_)
    · skip
      exact absurd c14 (by decide)
    · skip
      refine sx_iload_n (pc := 17) hG dX8_run_17 rfl 2 rfl ?_
      refine sx_iconst (pc := 18) (v := nI 3) hG dX8_run_18 (by decide +kernel) ?_
      refine sx_icmp_le (pc := 19) (tgt := 24) (B := 0 ≤ 3) hG dX8_run_19 (by decide) (nI_leI (by omega) (by omega)) (fun c19 => ?_) (fun c19 => ?_)
      · skip
        refine sx_aload_n (pc := 24) hG dX8_run_24 rfl 0 rfl ?_
        refine sx_callVvw (pc := 25) (n9 := 0) (As := []) (st := []) (b := (bd 0)) (ci := 8) hG (c_X8_work l X bd (va_up sc 2 (nI 0)) av n hn h0 hg hL0 hB0) gX8_run_X8_work rfl (by decide +kernel) rfl 0 rfl rfl rfl dX8_run_25 ⟨rfl, rfl⟩ ⟨Nat.le_of_ble_eq_true rfl, Nat.le_of_ble_eq_true rfl⟩ (Nat.le_of_ble_eq_true rfl) ⟨Nat.le_of_ble_eq_true rfl, Nat.le_of_ble_eq_true rfl⟩ (fun w1 hp => ?_)
        obtain ⟨L, B, hw9, hT, hLb, hBb⟩ := hp
        refine sx_weq hw9 ?_
        refine sx_iload_n (pc := 28) hG dX8_run_28 rfl 2 rfl ?_
        refine sx_iconst (pc := 29) (v := nI 2) hG dX8_run_29 (by decide +kernel) ?_
        refine sx_icmp_ge (pc := 30) (tgt := 59) (B := 2 ≤ 0) hG dX8_run_30 (by decide) (nI_leI (by omega) (by omega)) (fun c30 => ?_) (fun c30 => ?_)
        · skip
          exact absurd c30 (by decide)
        · skip
          refine sx_iload_n (pc := 33) hG dX8_run_33 rfl 2 rfl ?_
          refine sx_if_ne (pc := 34) (tgt := 49) (B := 0 = 0) hG dX8_run_34 (by decide) (sx_eq0 (by omega)) (fun c34 => ?_) (fun c34 => ?_)
          · skip
            exact absurd (by decide) c34
          · skip
            refine sx_aload_n (pc := 37) hG dX8_run_37 rfl 0 rfl ?_
            refine sx_get (pc := 38) (v2 := .ref (bd 9)) (ci := 8) hG i_X8_run_8 11 m_X8_run_f38 dX8_run_38 rfl (by decide) 0 rfl rfl rfl ?_
            refine sx_iload_n (pc := 41) hG dX8_run_41 rfl 1 rfl ?_
            have hB9 := hBb s
            refine sx_iald (pc := 42) (v := nI (B s)) hG 9 dX8_run_42 rfl (by decide) (by omega) rfl ?_
            refine sx_ldc (pc := 43) (v2 := nI 100000) hG m_X8_run_c107 dX8_run_43 (by decide +kernel) ?_
            refine sx_idiv (pc := 45) (v := (nI ((B s) / 100000))) hG dX8_run_45 (nI_ne0 (by decide) (by decide)) (pk_div (by omega) (by decide) (by decide)) ?_
            refine sx_goto (pc := 46) (tgt := 58) hG dX8_run_46 (by decide) ?_
            exact hret _ _ _ _ dX8_run_58 rfl ⟨L, B, rfl, rfl, hLb, hBb, hT⟩
      · skip
        exact absurd (by decide) c19

set_option maxHeartbeats 4000000 in
set_option maxRecDepth 100000 in
theorem c_X8_run_1 (l : Launch) (X : sx_X) (bd : Nat → Nat) (sc : Nat → Int32) (av : Nat → Nat → Nat) (n : Nat) (hn : n ≤ 9) (h0 : sc 0 = nI n) (hg : mG av) (hL0 : ∀ j, av 8 j ≤ 2000000000) (hB0 : ∀ j, av 9 j ≤ 2000000000) (s : Nat) (hs1 : 1 ≤ s) (hs : s < 2 ^ n) : sx_Mi l yX8_run wsX8_run { frames := 4, cells := 0, slots := 0, locals := 95 } X [.ref (bd 0), .int (nI s), .int (nI 1)] (mw X bd sc av) (fun r w => ∃ L B : Nat → Nat, r = nI (B s % 100000) ∧ w = mw X bd (va_up sc 2 (nI 0)) (va_up (va_up av 8 L) 9 B) ∧ (∀ j, L j ≤ 2000000000) ∧ (∀ j, B j ≤ 2000000000) ∧ mT av n L B (2 ^ n)) 0 0 := by
  refine sx_entI (own := RX8) (nL := 6) (by decide +kernel) rfl rfl (Nat.le_of_ble_eq_true rfl) ?_
  intro G hG hN hret
  show sx_W l X G 0 0 0 [(0, .ref (bd 0)), (1, .int (nI s)), (2, .int (nI 1))] [] (mw X bd sc av)
  have hp9 := sx_p9 hn
  refine sx_aload_n (pc := 0) hG dX8_run_0 rfl 0 rfl ?_
  refine sx_iconst (pc := 1) (v := nI 0) hG dX8_run_1 (by decide +kernel) ?_
  refine sx_put (pc := 2) (v := .int (nI 0)) (ci := 8) (w2 := (mw X bd (va_up sc 2 (nI 0)) av)) hG i_X8_run_8 tyX8 tyX8_ok nmX8 9 m_X8_run_f68 dX8_run_2 rfl (by decide) 0 rfl rfl rfl rfl (Nat.le_of_ble_eq_true rfl) rfl ?_
  refine sx_aload_n (pc := 5) hG dX8_run_5 rfl 0 rfl ?_
  refine sx_iload_n (pc := 6) hG dX8_run_6 rfl 1 rfl ?_
  refine sx_callViw (pc := 7) (n9 := 1) (As := [.int (nI s)]) (st := []) (b := (bd 0)) (ci := 8) hG (c_X8_isSet l X bd (va_up sc 2 (nI 0)) av (nI s) n hn h0) gX8_run_X8_isSet rfl (by decide +kernel) rfl 0 rfl rfl rfl dX8_run_7 ⟨rfl, rfl⟩ ⟨Nat.le_of_ble_eq_true rfl, Nat.le_of_ble_eq_true rfl⟩ (Nat.le_of_ble_eq_true rfl) ⟨Nat.le_of_ble_eq_true rfl, Nat.le_of_ble_eq_true rfl⟩ (fun r w1 hp => ?_)
  obtain ⟨hr9, hw9⟩ := hp
  rw [sx_isSet_1 hn hs1 hs] at hr9
  subst hr9
  refine sx_weq hw9 ?_
  refine sx_if_eq (pc := 10) (tgt := 22) (B := 1 = 0) hG dX8_run_10 (by decide) (sx_eq0 (by omega)) (fun c10 => ?_) (fun c10 => ?_)
  · skip
    exact absurd c10 (by decide)
  · skip
    refine sx_iload_n (pc := 13) hG dX8_run_13 rfl 2 rfl ?_
    refine sx_if_lt (pc := 14) (tgt := 22) (B := False) hG dX8_run_14 (by decide) (sx_lt0 (by omega)) (fun c14 => ?_) (fun c14 => ?_)
    · skip
      exact absurd c14 (by decide)
    · skip
      refine sx_iload_n (pc := 17) hG dX8_run_17 rfl 2 rfl ?_
      refine sx_iconst (pc := 18) (v := nI 3) hG dX8_run_18 (by decide +kernel) ?_
      refine sx_icmp_le (pc := 19) (tgt := 24) (B := 1 ≤ 3) hG dX8_run_19 (by decide) (nI_leI (by omega) (by omega)) (fun c19 => ?_) (fun c19 => ?_)
      · skip
        refine sx_aload_n (pc := 24) hG dX8_run_24 rfl 0 rfl ?_
        refine sx_callVvw (pc := 25) (n9 := 0) (As := []) (st := []) (b := (bd 0)) (ci := 8) hG (c_X8_work l X bd (va_up sc 2 (nI 0)) av n hn h0 hg hL0 hB0) gX8_run_X8_work rfl (by decide +kernel) rfl 0 rfl rfl rfl dX8_run_25 ⟨rfl, rfl⟩ ⟨Nat.le_of_ble_eq_true rfl, Nat.le_of_ble_eq_true rfl⟩ (Nat.le_of_ble_eq_true rfl) ⟨Nat.le_of_ble_eq_true rfl, Nat.le_of_ble_eq_true rfl⟩ (fun w1 hp => ?_)
        obtain ⟨L, B, hw9, hT, hLb, hBb⟩ := hp
        refine sx_weq hw9 ?_
        refine sx_iload_n (pc := 28) hG dX8_run_28 rfl 2 rfl ?_
        refine sx_iconst (pc := 29) (v := nI 2) hG dX8_run_29 (by decide +kernel) ?_
        refine sx_icmp_ge (pc := 30) (tgt := 59) (B := 2 ≤ 1) hG dX8_run_30 (by decide) (nI_leI (by omega) (by omega)) (fun c30 => ?_) (fun c30 => ?_)
        · skip
          exact absurd c30 (by decide)
        · skip
          refine sx_iload_n (pc := 33) hG dX8_run_33 rfl 2 rfl ?_
          refine sx_if_ne (pc := 34) (tgt := 49) (B := 1 = 0) hG dX8_run_34 (by decide) (sx_eq0 (by omega)) (fun c34 => ?_) (fun c34 => ?_)
          · skip
            refine sx_aload_n (pc := 49) hG dX8_run_49 rfl 0 rfl ?_
            refine sx_get (pc := 50) (v2 := .ref (bd 9)) (ci := 8) hG i_X8_run_8 11 m_X8_run_f38 dX8_run_50 rfl (by decide) 0 rfl rfl rfl ?_
            refine sx_iload_n (pc := 53) hG dX8_run_53 rfl 1 rfl ?_
            have hB9 := hBb s
            refine sx_iald (pc := 54) (v := nI (B s)) hG 9 dX8_run_54 rfl (by decide) (by omega) rfl ?_
            refine sx_ldc (pc := 55) (v2 := nI 100000) hG m_X8_run_c107 dX8_run_55 (by decide +kernel) ?_
            refine sx_irem (pc := 57) (v := (nI ((B s) % 100000))) hG dX8_run_57 (nI_ne0 (by decide) (by decide)) (pk_rem (by omega) (by decide) (by decide)) ?_
            exact hret _ _ _ _ dX8_run_58 rfl ⟨L, B, rfl, rfl, hLb, hBb, hT⟩
          · skip
            exact absurd c34 (by decide)
      · skip
        exact absurd (by decide) c19

set_option maxHeartbeats 4000000 in
set_option maxRecDepth 100000 in
theorem c_X8_run_2 (l : Launch) (X : sx_X) (bd : Nat → Nat) (sc : Nat → Int32) (av : Nat → Nat → Nat) (n : Nat) (hn : n ≤ 9) (h0 : sc 0 = nI n) (hg : mG av) (hL0 : ∀ j, av 8 j ≤ 2000000000) (hB0 : ∀ j, av 9 j ≤ 2000000000) (s : Nat) (hs1 : 1 ≤ s) (hs : s < 2 ^ n) : sx_Mi l yX8_run wsX8_run { frames := 4, cells := 0, slots := 0, locals := 95 } X [.ref (bd 0), .int (nI s), .int (nI 2)] (mw X bd sc av) (fun r w => ∃ L B : Nat → Nat, r = nI (B s / 100000 + B s % 100000 * av 7 6 / 10) ∧ w = mw X bd (va_up sc 2 (nI 0)) (va_up (va_up av 8 L) 9 B) ∧ (∀ j, L j ≤ 2000000000) ∧ (∀ j, B j ≤ 2000000000) ∧ mT av n L B (2 ^ n)) 0 0 := by
  refine sx_entI (own := RX8) (nL := 6) (by decide +kernel) rfl rfl (Nat.le_of_ble_eq_true rfl) ?_
  intro G hG hN hret
  show sx_W l X G 0 0 0 [(0, .ref (bd 0)), (1, .int (nI s)), (2, .int (nI 2))] [] (mw X bd sc av)
  have hp9 := sx_p9 hn
  refine sx_aload_n (pc := 0) hG dX8_run_0 rfl 0 rfl ?_
  refine sx_iconst (pc := 1) (v := nI 0) hG dX8_run_1 (by decide +kernel) ?_
  refine sx_put (pc := 2) (v := .int (nI 0)) (ci := 8) (w2 := (mw X bd (va_up sc 2 (nI 0)) av)) hG i_X8_run_8 tyX8 tyX8_ok nmX8 9 m_X8_run_f68 dX8_run_2 rfl (by decide) 0 rfl rfl rfl rfl (Nat.le_of_ble_eq_true rfl) rfl ?_
  refine sx_aload_n (pc := 5) hG dX8_run_5 rfl 0 rfl ?_
  refine sx_iload_n (pc := 6) hG dX8_run_6 rfl 1 rfl ?_
  refine sx_callViw (pc := 7) (n9 := 1) (As := [.int (nI s)]) (st := []) (b := (bd 0)) (ci := 8) hG (c_X8_isSet l X bd (va_up sc 2 (nI 0)) av (nI s) n hn h0) gX8_run_X8_isSet rfl (by decide +kernel) rfl 0 rfl rfl rfl dX8_run_7 ⟨rfl, rfl⟩ ⟨Nat.le_of_ble_eq_true rfl, Nat.le_of_ble_eq_true rfl⟩ (Nat.le_of_ble_eq_true rfl) ⟨Nat.le_of_ble_eq_true rfl, Nat.le_of_ble_eq_true rfl⟩ (fun r w1 hp => ?_)
  obtain ⟨hr9, hw9⟩ := hp
  rw [sx_isSet_1 hn hs1 hs] at hr9
  subst hr9
  refine sx_weq hw9 ?_
  refine sx_if_eq (pc := 10) (tgt := 22) (B := 1 = 0) hG dX8_run_10 (by decide) (sx_eq0 (by omega)) (fun c10 => ?_) (fun c10 => ?_)
  · skip
    exact absurd c10 (by decide)
  · skip
    refine sx_iload_n (pc := 13) hG dX8_run_13 rfl 2 rfl ?_
    refine sx_if_lt (pc := 14) (tgt := 22) (B := False) hG dX8_run_14 (by decide) (sx_lt0 (by omega)) (fun c14 => ?_) (fun c14 => ?_)
    · skip
      exact absurd c14 (by decide)
    · skip
      refine sx_iload_n (pc := 17) hG dX8_run_17 rfl 2 rfl ?_
      refine sx_iconst (pc := 18) (v := nI 3) hG dX8_run_18 (by decide +kernel) ?_
      refine sx_icmp_le (pc := 19) (tgt := 24) (B := 2 ≤ 3) hG dX8_run_19 (by decide) (nI_leI (by omega) (by omega)) (fun c19 => ?_) (fun c19 => ?_)
      · skip
        refine sx_aload_n (pc := 24) hG dX8_run_24 rfl 0 rfl ?_
        refine sx_callVvw (pc := 25) (n9 := 0) (As := []) (st := []) (b := (bd 0)) (ci := 8) hG (c_X8_work l X bd (va_up sc 2 (nI 0)) av n hn h0 hg hL0 hB0) gX8_run_X8_work rfl (by decide +kernel) rfl 0 rfl rfl rfl dX8_run_25 ⟨rfl, rfl⟩ ⟨Nat.le_of_ble_eq_true rfl, Nat.le_of_ble_eq_true rfl⟩ (Nat.le_of_ble_eq_true rfl) ⟨Nat.le_of_ble_eq_true rfl, Nat.le_of_ble_eq_true rfl⟩ (fun w1 hp => ?_)
        obtain ⟨L, B, hw9, hT, hLb, hBb⟩ := hp
        refine sx_weq hw9 ?_
        refine sx_iload_n (pc := 28) hG dX8_run_28 rfl 2 rfl ?_
        refine sx_iconst (pc := 29) (v := nI 2) hG dX8_run_29 (by decide +kernel) ?_
        refine sx_icmp_ge (pc := 30) (tgt := 59) (B := 2 ≤ 2) hG dX8_run_30 (by decide) (nI_leI (by omega) (by omega)) (fun c30 => ?_) (fun c30 => ?_)
        · skip
          refine sx_iload_n (pc := 59) hG dX8_run_59 rfl 2 rfl ?_
          refine sx_iconst (pc := 60) (v := nI 2) hG dX8_run_60 (by decide +kernel) ?_
          refine sx_icmp_ne (pc := 61) (tgt := 70) (B := 2 = 2) hG dX8_run_61 (by decide) (nI_eq (by omega) (by omega)) (fun c61 => ?_) (fun c61 => ?_)
          · skip
            exact absurd (by decide) c61
          · skip
            refine sx_aload_n (pc := 64) hG dX8_run_64 rfl 0 rfl ?_
            refine sx_iload_n (pc := 65) hG dX8_run_65 rfl 1 rfl ?_
            refine sx_callViw (pc := 66) (n9 := 1) (As := [.int (nI s)]) (st := []) (b := (bd 0)) (ci := 8) hG (c_X8_priceOf l X bd (va_up sc 2 (nI 0)) (va_up (va_up av 8 L) 9 B) s (by omega) hg hBb) gX8_run_X8_priceOf rfl (by decide +kernel) rfl 0 rfl rfl rfl dX8_run_66 ⟨rfl, rfl⟩ ⟨Nat.le_of_ble_eq_true rfl, Nat.le_of_ble_eq_true rfl⟩ (Nat.le_of_ble_eq_true rfl) ⟨Nat.le_of_ble_eq_true rfl, Nat.le_of_ble_eq_true rfl⟩ (fun r w1 hp => ?_)
            obtain ⟨hr9, hw9⟩ := hp
            have hr9 : r = (nI (B s / 100000 + B s % 100000 * av 7 6 / 10)) := hr9
            subst hr9
            refine sx_weq hw9 ?_
            exact hret _ _ _ _ dX8_run_69 rfl ⟨L, B, rfl, rfl, hLb, hBb, hT⟩
        · skip
          exact absurd (by decide) c30
      · skip
        exact absurd (by decide) c19

theorem m_X8_run_f41 : Cond.fieldLink RX8 41 (TX8 12).1 (TX8 12).2.1 (TX8 12).2.2.1 ∈ wsX8_run := by decide +kernel
set_option maxHeartbeats 4000000 in
set_option maxRecDepth 100000 in
theorem c_X8_run_3 (l : Launch) (X : sx_X) (bd : Nat → Nat) (sc : Nat → Int32) (av : Nat → Nat → Nat) (n : Nat) (hn : n ≤ 9) (h0 : sc 0 = nI n) (hg : mG av) (hL0 : ∀ j, av 8 j ≤ 2000000000) (hB0 : ∀ j, av 9 j ≤ 2000000000) (hR0 : ∀ j, av 10 j < 18) (s : Nat) (hs1 : 1 ≤ s) (hs : s < 2 ^ n) : sx_Mi l yX8_run wsX8_run { frames := 4, cells := 0, slots := 0, locals := 97 } X [.ref (bd 0), .int (nI s), .int (nI 3)] (mw X bd sc av) (fun r w => ∃ L B Rw : Nat → Nat, r = nI (sx_sum (fun j => mJ av (Rw j) (Rw (j + 1))) (sx_pc s - 1)) ∧ w = mw X bd (va_up sc 2 (nI 0)) (va_up (va_up (va_up av 8 L) 9 B) 10 Rw) ∧ (∀ j, L j ≤ 2000000000) ∧ (∀ j, B j ≤ 2000000000) ∧ mT av n L B (2 ^ n) ∧ (∀ j, Rw j < 18) ∧ mPth av L B n s Rw (sx_pc s) 0) 0 0 := by
  refine sx_entI (own := RX8) (nL := 6) (by decide +kernel) rfl rfl (Nat.le_of_ble_eq_true rfl) ?_
  intro G hG hN hret
  show sx_W l X G 0 0 0 [(0, .ref (bd 0)), (1, .int (nI s)), (2, .int (nI 3))] [] (mw X bd sc av)
  have hp9 := sx_p9 hn
  have hpc := sx_pc_n0 n (by omega) s hs
  refine sx_aload_n (pc := 0) hG dX8_run_0 rfl 0 rfl ?_
  refine sx_iconst (pc := 1) (v := nI 0) hG dX8_run_1 (by decide +kernel) ?_
  refine sx_put (pc := 2) (v := .int (nI 0)) (ci := 8) (w2 := (mw X bd (va_up sc 2 (nI 0)) av)) hG i_X8_run_8 tyX8 tyX8_ok nmX8 9 m_X8_run_f68 dX8_run_2 rfl (by decide) 0 rfl rfl rfl rfl (Nat.le_of_ble_eq_true rfl) rfl ?_
  refine sx_aload_n (pc := 5) hG dX8_run_5 rfl 0 rfl ?_
  refine sx_iload_n (pc := 6) hG dX8_run_6 rfl 1 rfl ?_
  refine sx_callViw (pc := 7) (n9 := 1) (As := [.int (nI s)]) (st := []) (b := (bd 0)) (ci := 8) hG (c_X8_isSet l X bd (va_up sc 2 (nI 0)) av (nI s) n hn h0) gX8_run_X8_isSet rfl (by decide +kernel) rfl 0 rfl rfl rfl dX8_run_7 ⟨rfl, rfl⟩ ⟨Nat.le_of_ble_eq_true rfl, Nat.le_of_ble_eq_true rfl⟩ (Nat.le_of_ble_eq_true rfl) ⟨Nat.le_of_ble_eq_true rfl, Nat.le_of_ble_eq_true rfl⟩ (fun r w1 hp => ?_)
  obtain ⟨hr9, hw9⟩ := hp
  rw [sx_isSet_1 hn hs1 hs] at hr9
  subst hr9
  refine sx_weq hw9 ?_
  refine sx_if_eq (pc := 10) (tgt := 22) (B := 1 = 0) hG dX8_run_10 (by decide) (sx_eq0 (by omega)) (fun c10 => ?_) (fun c10 => ?_)
  · skip
    exact absurd c10 (by decide)
  · skip
    refine sx_iload_n (pc := 13) hG dX8_run_13 rfl 2 rfl ?_
    refine sx_if_lt (pc := 14) (tgt := 22) (B := False) hG dX8_run_14 (by decide) (sx_lt0 (by omega)) (fun c14 => ?_) (fun c14 => ?_)
    · skip
      exact absurd c14 (by decide)
    · skip
      refine sx_iload_n (pc := 17) hG dX8_run_17 rfl 2 rfl ?_
      refine sx_iconst (pc := 18) (v := nI 3) hG dX8_run_18 (by decide +kernel) ?_
      refine sx_icmp_le (pc := 19) (tgt := 24) (B := 3 ≤ 3) hG dX8_run_19 (by decide) (nI_leI (by omega) (by omega)) (fun c19 => ?_) (fun c19 => ?_)
      · skip
        refine sx_aload_n (pc := 24) hG dX8_run_24 rfl 0 rfl ?_
        refine sx_callVvw (pc := 25) (n9 := 0) (As := []) (st := []) (b := (bd 0)) (ci := 8) hG (c_X8_work l X bd (va_up sc 2 (nI 0)) av n hn h0 hg hL0 hB0) gX8_run_X8_work rfl (by decide +kernel) rfl 0 rfl rfl rfl dX8_run_25 ⟨rfl, rfl⟩ ⟨Nat.le_of_ble_eq_true rfl, Nat.le_of_ble_eq_true rfl⟩ (Nat.le_of_ble_eq_true rfl) ⟨Nat.le_of_ble_eq_true rfl, Nat.le_of_ble_eq_true rfl⟩ (fun w1 hp => ?_)
        obtain ⟨L, B, hw9, hT, hLb, hBb⟩ := hp
        refine sx_weq hw9 ?_
        refine sx_iload_n (pc := 28) hG dX8_run_28 rfl 2 rfl ?_
        refine sx_iconst (pc := 29) (v := nI 2) hG dX8_run_29 (by decide +kernel) ?_
        refine sx_icmp_ge (pc := 30) (tgt := 59) (B := 2 ≤ 3) hG dX8_run_30 (by decide) (nI_leI (by omega) (by omega)) (fun c30 => ?_) (fun c30 => ?_)
        · skip
          refine sx_iload_n (pc := 59) hG dX8_run_59 rfl 2 rfl ?_
          refine sx_iconst (pc := 60) (v := nI 2) hG dX8_run_60 (by decide +kernel) ?_
          refine sx_icmp_ne (pc := 61) (tgt := 70) (B := 3 = 2) hG dX8_run_61 (by decide) (nI_eq (by omega) (by omega)) (fun c61 => ?_) (fun c61 => ?_)
          · skip
            refine sx_aload_n (pc := 70) hG dX8_run_70 rfl 0 rfl ?_
            refine sx_iload_n (pc := 71) hG dX8_run_71 rfl 1 rfl ?_
            refine sx_callViw (pc := 72) (n9 := 1) (As := [.int (nI s)]) (st := []) (b := (bd 0)) (ci := 8) hG (c_X8_steps l X bd (va_up sc 2 (nI 0)) (va_up (va_up av 8 L) 9 B) n hn h0 hg s hs hLb hBb hT hR0) gX8_run_X8_steps rfl (by decide +kernel) rfl 0 rfl rfl rfl dX8_run_72 ⟨rfl, rfl⟩ ⟨Nat.le_of_ble_eq_true rfl, Nat.le_of_ble_eq_true rfl⟩ (Nat.le_of_ble_eq_true rfl) ⟨Nat.le_of_ble_eq_true rfl, Nat.le_of_ble_eq_true rfl⟩ (fun r w1 hp => ?_)
            obtain ⟨Rw, hr9, hw9, hR, hpth⟩ := hp
            subst hr9
            have hpth : mPth av L B n s Rw (sx_pc s) 0 := mPth_av (av := (va_up (va_up av 8 L) 9 B)) (av2 := av) (L := L) (B := B) (fun _ _ => rfl) (fun _ _ _ => rfl) hpth
            refine sx_weq hw9 ?_
            refine sx_weq (w2 := (mw X bd (va_up sc 2 (nI 0)) (va_up (va_up (va_up av 8 L) 9 B) 10 Rw))) rfl ?_
            refine sx_istore_n (pc := 75) (lv2 := [(0, .ref (bd 0)), (1, .int (nI s)), (2, .int (nI 3)), (3, .int (nI (sx_pc s)))]) hG [1, 2, 3, 0] dX8_run_75 rfl hN (by decide) rfl ?_
            refine sx_iconst (pc := 76) (v := nI 0) hG dX8_run_76 (by decide +kernel) ?_
            refine sx_istore (pc := 77) (lv2 := [(0, .ref (bd 0)), (1, .int (nI s)), (2, .int (nI 3)), (3, .int (nI (sx_pc s))), (4, .int (nI 0))]) hG [1, 2, 3, 4, 0] dX8_run_77 hN (by decide) rfl ?_
            have hjl : ∀ j, mJ av (Rw j) (Rw (j + 1)) ≤ 1 := fun j => (by unfold mJ sx_jmp; split <;> omega)
            refine sx_iconst (pc := 79) (v := nI 1) hG dX8_run_79 (by decide +kernel) ?_
            refine sx_istore (pc := 80) (lv2 := [(0, .ref (bd 0)), (1, .int (nI s)), (2, .int (nI 3)), (3, .int (nI (sx_pc s))), (4, .int (nI 0)), (5, .int (nI 1))]) hG [1, 2, 3, 4, 5, 0] dX8_run_80 hN (by decide) rfl ?_
            have loop_j : ∀ (fuel : Nat), ∀ (k jn : Nat), (1 ≤ k) → (k ≤ 10) → (jn = sx_sum (fun j => mJ av (Rw j) (Rw (j + 1))) (k - 1)) → (k ≤ sx_pc s ∨ k = 1) → 10 - k < fuel → sx_W l X G 0 0 82 [(0, .ref (bd 0)), (1, .int (nI s)), (2, .int (nI 3)), (3, .int (nI (sx_pc s))), (4, .int (nI jn)), (5, .int (nI k))] [] (mw X bd (va_up sc 2 (nI 0)) (va_up (va_up (va_up av 8 L) 9 B) 10 Rw)) := by
              intro fuel
              induction fuel with
              | zero => intro k jn hk1 hk2 hj hk3 hm; exact absurd hm (Nat.not_lt_zero _)
              | succ fuel ih_j =>
                intro k jn hk1 hk2 hj hk3 hm_j
                have hs1 := sx_sum_le hjl (k - 1)
                have hj1 : mJ av (Rw (k - 1)) (Rw k) ≤ 1 := by have := hjl (k - 1); rw [show k - 1 + 1 = k by omega] at this; exact this
                refine sx_iload (pc := 82) hG dX8_run_82 5 rfl ?_
                refine sx_iload_n (pc := 84) hG dX8_run_84 rfl 3 rfl ?_
                refine sx_icmp_ge (pc := 85) (tgt := 127) (B := (sx_pc s) ≤ k) hG dX8_run_85 (by decide) (nI_leI (by omega) (by omega)) (fun c85 => ?_) (fun c85 => ?_)
                · skip
                  refine sx_iload (pc := 127) hG dX8_run_127 4 rfl ?_
                  exact hret _ _ _ _ dX8_run_129 rfl ⟨L, B, Rw, (by rw [hj, show k - 1 = sx_pc s - 1 by omega]), rfl, hLb, hBb, hT, hR, hpth⟩
                · skip
                  refine sx_iload (pc := 88) hG dX8_run_88 4 rfl ?_
                  refine sx_aload_n (pc := 90) hG dX8_run_90 rfl 0 rfl ?_
                  refine sx_aload_n (pc := 91) hG dX8_run_91 rfl 0 rfl ?_
                  refine sx_get (pc := 92) (v2 := .ref (bd 10)) (ci := 8) hG i_X8_run_8 12 m_X8_run_f41 dX8_run_92 rfl (by decide) 0 rfl rfl rfl ?_
                  refine sx_iload (pc := 95) hG dX8_run_95 5 rfl ?_
                  refine sx_iconst (pc := 97) (v := nI 1) hG dX8_run_97 (by decide +kernel) ?_
                  refine sx_isub (pc := 98) (v := (nI (k - 1))) hG dX8_run_98 (pk_sub (by omega)) ?_
                  refine sx_iald (pc := 99) (v := nI (Rw (k - 1))) hG 10 dX8_run_99 rfl (by decide) (by omega) rfl ?_
                  refine sx_aload_n (pc := 100) hG dX8_run_100 rfl 0 rfl ?_
                  refine sx_get (pc := 101) (v2 := .ref (bd 10)) (ci := 8) hG i_X8_run_8 12 m_X8_run_f41 dX8_run_101 rfl (by decide) 0 rfl rfl rfl ?_
                  refine sx_iload (pc := 104) hG dX8_run_104 5 rfl ?_
                  refine sx_iald (pc := 106) (v := nI (Rw k)) hG 10 dX8_run_106 rfl (by decide) (by omega) rfl ?_
                  refine sx_callViw (pc := 107) (n9 := 2) (As := [.int (nI (Rw (k - 1))), .int (nI (Rw k))]) (st := [.int (nI jn)]) (b := (bd 0)) (ci := 8) hG (c_X8_isJump l X bd (va_up sc 2 (nI 0)) (va_up (va_up (va_up av 8 L) 9 B) 10 Rw) (Rw (k - 1)) (Rw k) (hR _) (hR _) hg) gX8_run_X8_isJump rfl (by decide +kernel) rfl 0 rfl rfl rfl dX8_run_107 ⟨rfl, rfl⟩ ⟨Nat.le_of_ble_eq_true rfl, Nat.le_of_ble_eq_true rfl⟩ (Nat.le_of_ble_eq_true rfl) ⟨Nat.le_of_ble_eq_true rfl, Nat.le_of_ble_eq_true rfl⟩ (fun r w1 hp => ?_)
                  obtain ⟨hr9, hw9⟩ := hp
                  have hr9 : r = (nI (mJ av (Rw (k - 1)) (Rw k))) := hr9
                  subst hr9
                  refine sx_weq hw9 ?_
                  refine sx_if_eq (pc := 110) (tgt := 117) (B := (mJ av (Rw (k - 1)) (Rw k)) = 0) hG dX8_run_110 (by decide) (sx_eq0 (by omega)) (fun c110 => ?_) (fun c110 => ?_)
                  · skip
                    refine sx_iconst (pc := 117) (v := nI 0) hG dX8_run_117 (by decide +kernel) ?_
                    refine sx_iadd (pc := 118) (v := (nI (jn + 0))) hG dX8_run_118 (nI_add jn 0) ?_
                    refine sx_istore (pc := 119) (lv2 := [(0, .ref (bd 0)), (1, .int (nI s)), (2, .int (nI 3)), (3, .int (nI (sx_pc s))), (4, .int (nI (jn + 0))), (5, .int (nI k))]) hG [1, 2, 3, 4, 0, 5] dX8_run_119 hN (by decide) rfl ?_
                    refine sx_iinc (pc := 121) (v := (nI (k + 1))) (lv2 := [(0, .ref (bd 0)), (1, .int (nI s)), (2, .int (nI 3)), (3, .int (nI (sx_pc s))), (4, .int (nI (jn + 0))), (5, .int (nI (k + 1)))]) hG [1, 2, 3, 4, 5, 0] dX8_run_121 5 rfl (sx_inc k) hN (by decide) rfl ?_
                    refine sx_goto (pc := 124) (tgt := 82) hG dX8_run_124 (by decide) ?_
                    refine ih_j (k + 1) _ (by omega) (by omega) (by rw [show k + 1 - 1 = (k - 1) + 1 by omega]; unfold sx_sum; rw [← hj, show k - 1 + 1 = k by omega]; omega) (by omega) (by omega)
                  · skip
                    refine sx_iconst (pc := 113) (v := nI 1) hG dX8_run_113 (by decide +kernel) ?_
                    refine sx_goto (pc := 114) (tgt := 118) hG dX8_run_114 (by decide) ?_
                    refine sx_iadd (pc := 118) (v := (nI (jn + 1))) hG dX8_run_118 (nI_add jn 1) ?_
                    refine sx_istore (pc := 119) (lv2 := [(0, .ref (bd 0)), (1, .int (nI s)), (2, .int (nI 3)), (3, .int (nI (sx_pc s))), (4, .int (nI (jn + 1))), (5, .int (nI k))]) hG [1, 2, 3, 4, 0, 5] dX8_run_119 hN (by decide) rfl ?_
                    refine sx_iinc (pc := 121) (v := (nI (k + 1))) (lv2 := [(0, .ref (bd 0)), (1, .int (nI s)), (2, .int (nI 3)), (3, .int (nI (sx_pc s))), (4, .int (nI (jn + 1))), (5, .int (nI (k + 1)))]) hG [1, 2, 3, 4, 5, 0] dX8_run_121 5 rfl (sx_inc k) hN (by decide) rfl ?_
                    refine sx_goto (pc := 124) (tgt := 82) hG dX8_run_124 (by decide) ?_
                    refine ih_j (k + 1) _ (by omega) (by omega) (by rw [show k + 1 - 1 = (k - 1) + 1 by omega]; unfold sx_sum; rw [← hj, show k - 1 + 1 = k by omega]; omega) (by omega) (by omega)
            refine loop_j _ 1 0 (by omega) (by omega) rfl (by omega) (Nat.lt_succ_self _)
          · skip
            exact absurd c61 (by decide)
        · skip
          exact absurd (by decide) c30
      · skip
        exact absurd (by decide) c19

set_option maxHeartbeats 4000000 in
set_option maxRecDepth 100000 in
theorem c_X8_run_no (l : Launch) (X : sx_X) (bd : Nat → Nat) (sc : Nat → Int32) (av : Nat → Nat → Nat) (n : Nat) (hn : n ≤ 9) (h0 : sc 0 = nI n) (hg : mG av) (x a : Int32) (hno : sx_isSet n x = 0 ∨ a.toInt < 0 ∨ 3 < a.toInt) : sx_Mi l yX8_run wsX8_run { frames := 1, cells := 0, slots := 0, locals := 21 } X [.ref (bd 0), .int x, .int a] (mw X bd sc av) (fun r w => r = -1 ∧ w = mw X bd (va_up sc 2 (nI 0)) av) 0 0 := by
  refine sx_entI (own := RX8) (nL := 6) (by decide +kernel) rfl rfl (Nat.le_of_ble_eq_true rfl) ?_
  intro G hG hN hret
  show sx_W l X G 0 0 0 [(0, .ref (bd 0)), (1, .int x), (2, .int a)] [] (mw X bd sc av)
  have hl1 := sx_isSet_le n x
  refine sx_aload_n (pc := 0) hG dX8_run_0 rfl 0 rfl ?_
  refine sx_iconst (pc := 1) (v := nI 0) hG dX8_run_1 (by decide +kernel) ?_
  refine sx_put (pc := 2) (v := .int (nI 0)) (ci := 8) (w2 := (mw X bd (va_up sc 2 (nI 0)) av)) hG i_X8_run_8 tyX8 tyX8_ok nmX8 9 m_X8_run_f68 dX8_run_2 rfl (by decide) 0 rfl rfl rfl rfl (Nat.le_of_ble_eq_true rfl) rfl ?_
  refine sx_aload_n (pc := 5) hG dX8_run_5 rfl 0 rfl ?_
  refine sx_iload_n (pc := 6) hG dX8_run_6 rfl 1 rfl ?_
  refine sx_callViw (pc := 7) (n9 := 1) (As := [.int x]) (st := []) (b := (bd 0)) (ci := 8) hG (c_X8_isSet l X bd (va_up sc 2 (nI 0)) av x n hn h0) gX8_run_X8_isSet rfl (by decide +kernel) rfl 0 rfl rfl rfl dX8_run_7 ⟨rfl, rfl⟩ ⟨Nat.le_of_ble_eq_true rfl, Nat.le_of_ble_eq_true rfl⟩ (Nat.le_of_ble_eq_true rfl) ⟨Nat.le_of_ble_eq_true rfl, Nat.le_of_ble_eq_true rfl⟩ (fun r w1 hp => ?_)
  obtain ⟨hr9, hw9⟩ := hp
  have hr9 : r = (nI (sx_isSet n x)) := hr9
  subst hr9
  refine sx_weq hw9 ?_
  refine sx_if_eq (pc := 10) (tgt := 22) (B := (sx_isSet n x) = 0) hG dX8_run_10 (by decide) (sx_eq0 (by omega)) (fun c10 => ?_) (fun c10 => ?_)
  · skip
    refine sx_iconst (pc := 22) (v := (-1)) hG dX8_run_22 (by decide +kernel) ?_
    exact hret _ _ _ _ dX8_run_23 rfl ⟨rfl, rfl⟩
  · skip
    refine sx_iload_n (pc := 13) hG dX8_run_13 rfl 2 rfl ?_
    refine sx_if_lt (pc := 14) (tgt := 22) (B := a.toInt < 0) hG dX8_run_14 (by decide) (sx_rlt0 _) (fun c14 => ?_) (fun c14 => ?_)
    · skip
      refine sx_iconst (pc := 22) (v := (-1)) hG dX8_run_22 (by decide +kernel) ?_
      exact hret _ _ _ _ dX8_run_23 rfl ⟨rfl, rfl⟩
    · skip
      refine sx_iload_n (pc := 17) hG dX8_run_17 rfl 2 rfl ?_
      refine sx_iconst (pc := 18) (v := nI 3) hG dX8_run_18 (by decide +kernel) ?_
      refine sx_icmp_le (pc := 19) (tgt := 24) (B := a.toInt ≤ (3 : Int)) hG dX8_run_19 (by decide) (sx_rle rfl (nI_toInt (by omega))) (fun c19 => ?_) (fun c19 => ?_)
      · skip
        exact absurd hno (by omega)
      · skip
        refine sx_iconst (pc := 22) (v := (-1)) hG dX8_run_22 (by decide +kernel) ?_
        exact hret _ _ _ _ dX8_run_23 rfl ⟨rfl, rfl⟩

theorem i_X8_step_8 : ∀ w ∈ u_ws RX8 TX8 24, w ∈ wsX8_step := by decide +kernel
theorem m_X8_step_f68 : Cond.fieldLink RX8 68 (TX8 9).1 (TX8 9).2.1 (TX8 9).2.2.1 ∈ wsX8_step := by decide +kernel
set_option maxHeartbeats 4000000 in
set_option maxRecDepth 100000 in
theorem c_X8_step_no (l : Launch) (X : sx_X) (bd : Nat → Nat) (sc : Nat → Int32) (av : Nat → Nat → Nat) (n : Nat) (hn : n ≤ 9) (h0 : sc 0 = nI n) (hg : mG av) (x a : Int32) (hno : sx_isSet n x = 0 ∨ a.toInt < 0) : sx_Mi l yX8_step wsX8_step { frames := 1, cells := 0, slots := 0, locals := 21 } X [.ref (bd 0), .int x, .int a] (mw X bd sc av) (fun r w => r = -1 ∧ w = mw X bd (va_up sc 2 (nI 0)) av) 0 0 := by
  refine sx_entI (own := RX8) (nL := 3) (by decide +kernel) rfl rfl (Nat.le_of_ble_eq_true rfl) ?_
  intro G hG hN hret
  show sx_W l X G 0 0 0 [(0, .ref (bd 0)), (1, .int x), (2, .int a)] [] (mw X bd sc av)
  have hl1 := sx_isSet_le n x
  refine sx_aload_n (pc := 0) hG dX8_step_0 rfl 0 rfl ?_
  refine sx_iconst (pc := 1) (v := nI 0) hG dX8_step_1 (by decide +kernel) ?_
  refine sx_put (pc := 2) (v := .int (nI 0)) (ci := 8) (w2 := (mw X bd (va_up sc 2 (nI 0)) av)) hG i_X8_step_8 tyX8 tyX8_ok nmX8 9 m_X8_step_f68 dX8_step_2 rfl (by decide) 0 rfl rfl rfl rfl (Nat.le_of_ble_eq_true rfl) rfl ?_
  refine sx_aload_n (pc := 5) hG dX8_step_5 rfl 0 rfl ?_
  refine sx_iload_n (pc := 6) hG dX8_step_6 rfl 1 rfl ?_
  refine sx_callViw (pc := 7) (n9 := 1) (As := [.int x]) (st := []) (b := (bd 0)) (ci := 8) hG (c_X8_isSet l X bd (va_up sc 2 (nI 0)) av x n hn h0) gX8_step_X8_isSet rfl (by decide +kernel) rfl 0 rfl rfl rfl dX8_step_7 ⟨rfl, rfl⟩ ⟨Nat.le_of_ble_eq_true rfl, Nat.le_of_ble_eq_true rfl⟩ (Nat.le_of_ble_eq_true rfl) ⟨Nat.le_of_ble_eq_true rfl, Nat.le_of_ble_eq_true rfl⟩ (fun r w1 hp => ?_)
  obtain ⟨hr9, hw9⟩ := hp
  have hr9 : r = (nI (sx_isSet n x)) := hr9
  subst hr9
  refine sx_weq hw9 ?_
  refine sx_if_eq (pc := 10) (tgt := 17) (B := (sx_isSet n x) = 0) hG dX8_step_10 (by decide) (sx_eq0 (by omega)) (fun c10 => ?_) (fun c10 => ?_)
  · skip
    refine sx_iconst (pc := 17) (v := (-1)) hG dX8_step_17 (by decide +kernel) ?_
    exact hret _ _ _ _ dX8_step_18 rfl ⟨rfl, rfl⟩
  · skip
    refine sx_iload_n (pc := 13) hG dX8_step_13 rfl 2 rfl ?_
    refine sx_if_ge (pc := 14) (tgt := 19) (B := 0 ≤ a.toInt) hG dX8_step_14 (by decide) (sx_rge0 _) (fun c14 => ?_) (fun c14 => ?_)
    · skip
      exact absurd hno (by omega)
    · skip
      refine sx_iconst (pc := 17) (v := (-1)) hG dX8_step_17 (by decide +kernel) ?_
      exact hret _ _ _ _ dX8_step_18 rfl ⟨rfl, rfl⟩

theorem m_X8_step_f41 : Cond.fieldLink RX8 41 (TX8 12).1 (TX8 12).2.1 (TX8 12).2.2.1 ∈ wsX8_step := by decide +kernel
set_option maxHeartbeats 4000000 in
set_option maxRecDepth 100000 in
theorem c_X8_step_ok (l : Launch) (X : sx_X) (bd : Nat → Nat) (sc : Nat → Int32) (av : Nat → Nat → Nat) (n : Nat) (hn : n ≤ 9) (h0 : sc 0 = nI n) (hg : mG av) (hL0 : ∀ j, av 8 j ≤ 2000000000) (hB0 : ∀ j, av 9 j ≤ 2000000000) (hR0 : ∀ j, av 10 j < 18) (s k : Nat) (hs1 : 1 ≤ s) (hs : s < 2 ^ n) (hk : k < 2 ^ 31) : sx_Mi l yX8_step wsX8_step { frames := 4, cells := 0, slots := 0, locals := 97 } X [.ref (bd 0), .int (nI s), .int (nI k)] (mw X bd sc av) (fun r w => ∃ L B Rw : Nat → Nat, (r = if k < sx_pc s then nI (Rw k) else -1) ∧ w = mw X bd (va_up sc 2 (nI 0)) (va_up (va_up (va_up av 8 L) 9 B) 10 Rw) ∧ (∀ j, L j ≤ 2000000000) ∧ (∀ j, B j ≤ 2000000000) ∧ mT av n L B (2 ^ n) ∧ (∀ j, Rw j < 18) ∧ mPth av L B n s Rw (sx_pc s) 0) 0 0 := by
  refine sx_entI (own := RX8) (nL := 3) (by decide +kernel) rfl rfl (Nat.le_of_ble_eq_true rfl) ?_
  intro G hG hN hret
  show sx_W l X G 0 0 0 [(0, .ref (bd 0)), (1, .int (nI s)), (2, .int (nI k))] [] (mw X bd sc av)
  have hp9 := sx_p9 hn
  have hpc := sx_pc_n0 n (by omega) s hs
  refine sx_aload_n (pc := 0) hG dX8_step_0 rfl 0 rfl ?_
  refine sx_iconst (pc := 1) (v := nI 0) hG dX8_step_1 (by decide +kernel) ?_
  refine sx_put (pc := 2) (v := .int (nI 0)) (ci := 8) (w2 := (mw X bd (va_up sc 2 (nI 0)) av)) hG i_X8_step_8 tyX8 tyX8_ok nmX8 9 m_X8_step_f68 dX8_step_2 rfl (by decide) 0 rfl rfl rfl rfl (Nat.le_of_ble_eq_true rfl) rfl ?_
  refine sx_aload_n (pc := 5) hG dX8_step_5 rfl 0 rfl ?_
  refine sx_iload_n (pc := 6) hG dX8_step_6 rfl 1 rfl ?_
  refine sx_callViw (pc := 7) (n9 := 1) (As := [.int (nI s)]) (st := []) (b := (bd 0)) (ci := 8) hG (c_X8_isSet l X bd (va_up sc 2 (nI 0)) av (nI s) n hn h0) gX8_step_X8_isSet rfl (by decide +kernel) rfl 0 rfl rfl rfl dX8_step_7 ⟨rfl, rfl⟩ ⟨Nat.le_of_ble_eq_true rfl, Nat.le_of_ble_eq_true rfl⟩ (Nat.le_of_ble_eq_true rfl) ⟨Nat.le_of_ble_eq_true rfl, Nat.le_of_ble_eq_true rfl⟩ (fun r w1 hp => ?_)
  obtain ⟨hr9, hw9⟩ := hp
  rw [sx_isSet_1 hn hs1 hs] at hr9
  subst hr9
  refine sx_weq hw9 ?_
  refine sx_if_eq (pc := 10) (tgt := 17) (B := 1 = 0) hG dX8_step_10 (by decide) (sx_eq0 (by omega)) (fun c10 => ?_) (fun c10 => ?_)
  · skip
    exact absurd c10 (by decide)
  · skip
    refine sx_iload_n (pc := 13) hG dX8_step_13 rfl 2 rfl ?_
    refine sx_if_ge (pc := 14) (tgt := 19) (B := True) hG dX8_step_14 (by decide) (sx_ge0 (by omega)) (fun c14 => ?_) (fun c14 => ?_)
    · skip
      refine sx_aload_n (pc := 19) hG dX8_step_19 rfl 0 rfl ?_
      refine sx_callVvw (pc := 20) (n9 := 0) (As := []) (st := []) (b := (bd 0)) (ci := 8) hG (c_X8_work l X bd (va_up sc 2 (nI 0)) av n hn h0 hg hL0 hB0) gX8_step_X8_work rfl (by decide +kernel) rfl 0 rfl rfl rfl dX8_step_20 ⟨rfl, rfl⟩ ⟨Nat.le_of_ble_eq_true rfl, Nat.le_of_ble_eq_true rfl⟩ (Nat.le_of_ble_eq_true rfl) ⟨Nat.le_of_ble_eq_true rfl, Nat.le_of_ble_eq_true rfl⟩ (fun w1 hp => ?_)
      obtain ⟨L, B, hw9, hT, hLb, hBb⟩ := hp
      refine sx_weq hw9 ?_
      refine sx_iload_n (pc := 23) hG dX8_step_23 rfl 2 rfl ?_
      refine sx_aload_n (pc := 24) hG dX8_step_24 rfl 0 rfl ?_
      refine sx_iload_n (pc := 25) hG dX8_step_25 rfl 1 rfl ?_
      refine sx_callViw (pc := 26) (n9 := 1) (As := [.int (nI s)]) (st := [.int (nI k)]) (b := (bd 0)) (ci := 8) hG (c_X8_steps l X bd (va_up sc 2 (nI 0)) (va_up (va_up av 8 L) 9 B) n hn h0 hg s hs hLb hBb hT hR0) gX8_step_X8_steps rfl (by decide +kernel) rfl 0 rfl rfl rfl dX8_step_26 ⟨rfl, rfl⟩ ⟨Nat.le_of_ble_eq_true rfl, Nat.le_of_ble_eq_true rfl⟩ (Nat.le_of_ble_eq_true rfl) ⟨Nat.le_of_ble_eq_true rfl, Nat.le_of_ble_eq_true rfl⟩ (fun r w1 hp => ?_)
      obtain ⟨Rw, hr9, hw9, hR, hpth⟩ := hp
      subst hr9
      have hpth : mPth av L B n s Rw (sx_pc s) 0 := mPth_av (av := (va_up (va_up av 8 L) 9 B)) (av2 := av) (L := L) (B := B) (fun _ _ => rfl) (fun _ _ _ => rfl) hpth
      refine sx_weq hw9 ?_
      refine sx_weq (w2 := (mw X bd (va_up sc 2 (nI 0)) (va_up (va_up (va_up av 8 L) 9 B) 10 Rw))) rfl ?_
      refine sx_icmp_ge (pc := 29) (tgt := 41) (B := (sx_pc s) ≤ k) hG dX8_step_29 (by decide) (nI_leI (by omega) (by omega)) (fun c29 => ?_) (fun c29 => ?_)
      · skip
        refine sx_iconst (pc := 41) (v := (-1)) hG dX8_step_41 (by decide +kernel) ?_
        exact hret _ _ _ _ dX8_step_42 rfl ⟨L, B, Rw, (by first | (rw [if_pos (by omega)]) | (rw [if_neg (by omega)])), rfl, hLb, hBb, hT, hR, hpth⟩
      · skip
        refine sx_aload_n (pc := 32) hG dX8_step_32 rfl 0 rfl ?_
        refine sx_get (pc := 33) (v2 := .ref (bd 10)) (ci := 8) hG i_X8_step_8 12 m_X8_step_f41 dX8_step_33 rfl (by decide) 0 rfl rfl rfl ?_
        refine sx_iload_n (pc := 36) hG dX8_step_36 rfl 2 rfl ?_
        refine sx_iald (pc := 37) (v := nI (Rw k)) hG 10 dX8_step_37 rfl (by decide) (by omega) rfl ?_
        refine sx_goto (pc := 38) (tgt := 42) hG dX8_step_38 (by decide) ?_
        exact hret _ _ _ _ dX8_step_42 rfl ⟨L, B, Rw, (by first | (rw [if_pos (by omega)]) | (rw [if_neg (by omega)])), rfl, hLb, hBb, hT, hR, hpth⟩
    · skip
      exact absurd (by decide) c14
