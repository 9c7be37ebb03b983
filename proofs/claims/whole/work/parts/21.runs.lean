/-! THE CLASS: RunTable -/
theorem sx_shr1 {n : Nat} (h : n < 2 ^ 31) : nI n >>> (nI 1 &&& 31) = nI (n / 2) := (sx_shr (by decide) h).trans (by rw [Nat.pow_one])
theorem sx_xd0 : ∀ s, s < 512 → ∀ k, k < 9 → ¬ s &&& 2 ^ k = 0 → s ^^^ 2 ^ k = sx_diff s (2 ^ k) := by decide +kernel
theorem sx_ab0 : ∀ s, s < 512 → ∀ k, k < 9 → (s &&& 2 ^ k = 0 ↔ sx_bit s k = 0) := by decide +kernel
theorem sx_xd {s k : Nat} (hs : s < 512) (hk : k < 9) (h : ¬ s &&& 2 ^ k = 0) : nI s ^^^ nI (2 ^ k) = nI (sx_diff s (2 ^ k)) := by
  rw [sx_xor (by omega) (sx_p2 (by omega)), sx_xd0 s hs k hk h]
def sx_MX : Nat := 2147483647
theorem sx_mn_ext {i0 : Nat} {p f : Nat → Nat} {k : Nat} : ∀ {d : Nat}, (∀ b, k ≤ b → b < k + d → p b = 0) → sx_mn i0 p f (k + d) = sx_mn i0 p f k := by
  intro d
  induction d with
  | zero => intro _; rfl
  | succ d ih => intro h; rw [← Nat.add_assoc, sx_mn_skip (Or.inl (h (k + d) (by omega) (by omega))), ih (fun b h1 h2 => h b h1 (by omega))]
theorem sx_mn_18 {i0 : Nat} {f : Nat → Nat} {n s : Nat} (hn : n ≤ 9) (hs : s < 2 ^ n) : sx_mn i0 (fun b => sx_bit s (b / 2)) f 18 = sx_mn i0 (fun b => sx_bit s (b / 2)) f (2 * n) := by
  have h := sx_mn_ext (i0 := i0) (p := fun b => sx_bit s (b / 2)) (f := f) (k := 2 * n) (d := 18 - 2 * n) (fun b h1 h2 => by
    show sx_bit s (b / 2) = 0
    rcases Nat.eq_zero_or_pos (sx_bit s (b / 2)) with q | q
    · exact q
    · have := sx_bitn0 n (by omega) s hs (b / 2) (by omega) (by omega); omega)
  rw [show 2 * n + (18 - 2 * n) = 18 by omega] at h
  exact h
/-- the class's table: what a run over s that begins with t costs, all behind t -/
def cBv (lk : Nat → Nat → Nat) (K : Nat → Nat) (rest t k : Nat) : Nat := sx_mn sx_MX (fun b => sx_bit rest (b / 2)) (fun b => lk t b + K (18 * rest + b)) k
def cLB (lk : Nat → Nat → Nat) (K : Nat → Nat) (rest t : Nat) : Nat := if rest = 0 then 0 else cBv lk K rest t 18
def cRow (ln : Nat → Nat) (lk : Nat → Nat → Nat) (K : Nat → Nat) (s t : Nat) : Prop := ¬ sx_bit s (t / 2) = 0 → K (18 * s + t) = ln (t / 2) + cLB lk K (sx_diff s (2 ^ (t / 2))) t ∧ K (18 * s + t) ≤ 500000 * sx_pc s
def cBs (K : Nat → Nat) (s k : Nat) : Nat := sx_mn sx_MX (fun b => sx_bit s (b / 2)) (fun b => K (18 * s + b)) k
def cT (ln : Nat → Nat) (lk : Nat → Nat → Nat) (K B : Nat → Nat) (M : Nat) : Prop := ∀ s, 1 ≤ s → s < M → (∀ t, t < 18 → cRow ln lk K s t) ∧ B s = cBs K s 18
theorem cBv_step2 {lk : Nat → Nat → Nat} {K : Nat → Nat} {rest t b : Nat} (he : b % 2 = 0) (hb : ¬ sx_bit rest (b / 2) = 0) : cBv lk K rest t (b + 2) = min (cBv lk K rest t b) (min (lk t b + K (18 * rest + b)) (lk t (b + 1) + K (18 * rest + (b + 1)))) := by
  have hb2 : ¬ sx_bit rest ((b + 1) / 2) = 0 := by rw [show (b + 1) / 2 = b / 2 by omega]; exact hb
  unfold cBv
  show sx_mn _ _ _ (b + 1 + 1) = _
  conv => lhs; unfold sx_mn
  rw [if_neg hb2]
  have e : sx_mn sx_MX (fun b => sx_bit rest (b / 2)) (fun b => lk t b + K (18 * rest + b)) (b + 1) = if lk t b + K (18 * rest + b) < sx_mn sx_MX (fun b => sx_bit rest (b / 2)) (fun b => lk t b + K (18 * rest + b)) b then lk t b + K (18 * rest + b) else sx_mn sx_MX (fun b => sx_bit rest (b / 2)) (fun b => lk t b + K (18 * rest + b)) b := by
    conv => lhs; unfold sx_mn
    rw [if_neg hb]
  rw [e]
  generalize sx_mn sx_MX (fun b => sx_bit rest (b / 2)) (fun b => lk t b + K (18 * rest + b)) b = m
  simp only [Nat.min_def]
  (repeat' split) <;> omega
theorem cBv_skip2 {lk : Nat → Nat → Nat} {K : Nat → Nat} {rest t b : Nat} (he : b % 2 = 0) (hb : sx_bit rest (b / 2) = 0) : cBv lk K rest t (b + 2) = cBv lk K rest t b := by
  unfold cBv
  exact (sx_mn_skip (p := fun b => sx_bit rest (b / 2)) (t := b + 1) (Or.inl (by show sx_bit rest ((b + 1) / 2) = 0; rw [show (b + 1) / 2 = b / 2 by omega]; exact hb))).trans (sx_mn_skip (p := fun b => sx_bit rest (b / 2)) (t := b) (Or.inl hb))
theorem cLB_congr {lk lk2 : Nat → Nat → Nat} {K K2 : Nat → Nat} {n rest t : Nat} (hn : n ≤ 9) (hr : rest < 2 ^ n) (h1 : ∀ b, b < 2 * n → lk2 t b = lk t b) (h2 : ∀ b, b < 18 → K2 (18 * rest + b) = K (18 * rest + b)) : cLB lk2 K2 rest t = cLB lk K rest t := by
  unfold cLB cBv
  by_cases h : rest = 0
  · rw [if_pos h, if_pos h]
  · rw [if_neg h, if_neg h, sx_mn_18 hn hr, sx_mn_18 hn hr]
    exact sx_mn_congr (fun b hb _ => by show lk2 t b + K2 _ = lk t b + K _; rw [h1 b hb, h2 b (by omega)])
theorem cT_up {ln : Nat → Nat} {lk : Nat → Nat → Nat} {K B : Nat → Nat} {M i v : Nat} (hM : M ≤ 512) (hi : 18 * M ≤ i) (h : cT ln lk K B M) : cT ln lk (va_up K i v) B M := by
  have key : ∀ s, s < M → ∀ j, j < 18 * s + 18 → va_up K i v j = K j := fun s hs j hj => by unfold va_up; rw [if_neg (by omega)]
  intro s h1 h2
  obtain ⟨a1, a2⟩ := h s h1 h2
  refine ⟨fun t ht hb => ?_, ?_⟩
  · obtain ⟨b1, b2⟩ := a1 t ht hb
    have hd := sx_dlt (s := s) (k := t / 2) (by omega) (by omega) hb
    rw [key s h2 _ (by omega)]
    refine ⟨?_, b2⟩
    rw [b1, cLB_congr (n := 9) (lk := lk) (lk2 := lk) (K := K) (K2 := va_up K i v) (by decide) (show _ < 2 ^ 9 by omega) (fun _ _ => rfl) (fun b hb2 => key s h2 _ (by omega))]
  · rw [a2]
    exact sx_mn_congr (fun b hb _ => (key s h2 _ (by omega)).symm)
/-- what is behind a step costs little -/
theorem cLB_le {ln : Nat → Nat} {lk : Nat → Nat → Nat} {K B : Nat → Nat} {M rest t : Nat} (hlk : ∀ a b, lk a b ≤ 405630) (hM : M ≤ 512) (hT : cT ln lk K B M) (hr : rest < M) : cLB lk K rest t ≤ 405630 + 500000 * sx_pc rest := by
  unfold cLB
  by_cases h : rest = 0
  · rw [if_pos h]; omega
  · rw [if_neg h]
    have hb : ∃ i, i < 9 ∧ ¬ sx_bit rest i = 0 := by
      rcases Classical.em (∃ i, i < 9 ∧ ¬ sx_bit rest i = 0) with q | q
      · exact q
      · exfalso; apply h; apply sx_pc_z0 rest (by omega)
        have h2 : ∀ i, i < 9 → sx_bit rest i = 0 := fun i hi9 => by
          rcases Nat.eq_zero_or_pos (sx_bit rest i) with h3 | h3
          · exact h3
          · exact absurd ⟨i, hi9, by omega⟩ q
        unfold sx_pc; simp only [sx_sum]; rw [h2 0, h2 1, h2 2, h2 3, h2 4, h2 5, h2 6, h2 7, h2 8] <;> decide
    obtain ⟨i, hi, hbi⟩ := hb
    have hbi' : ¬ sx_bit rest (2 * i / 2) = 0 := by rw [Nat.mul_div_cancel_left i (by decide)]; exact hbi
    have h1 : cBv lk K rest t 18 ≤ lk t (2 * i) + K (18 * rest + 2 * i) := sx_mn_lb (b := 2 * i) (by omega) hbi'
    have h2 := ((hT rest (by omega) hr).1 (2 * i) (by omega) hbi').2
    have h3 := hlk t (2 * i)
    omega
theorem cBs_skip {K : Nat → Nat} {s t : Nat} (h : sx_bit s (t / 2) = 0) : cBs K s (t + 1) = cBs K s t := sx_mn_skip (p := fun b => sx_bit s (b / 2)) (t := t) (Or.inl h)
theorem cA_up {ln : Nat → Nat} {lk : Nat → Nat → Nat} {K : Nat → Nat} {s t v : Nat} (hs : s < 512) (ht : t < 18) (hA : ∀ q, q < t → cRow ln lk K s q) (hv : ¬ sx_bit s (t / 2) = 0 → v = ln (t / 2) + cLB lk K (sx_diff s (2 ^ (t / 2))) t ∧ v ≤ 500000 * sx_pc s) : ∀ q, q < t + 1 → cRow ln lk (va_up K (s * 18 + t) v) s q := by
  intro q hq hb
  have hd := sx_dlt (s := s) (k := q / 2) hs (by omega) hb
  rw [cLB_congr (n := 9) (lk := lk) (lk2 := lk) (K := K) (K2 := va_up K (s * 18 + t) v) (by decide) (show _ < 2 ^ 9 by omega) (fun _ _ => rfl) (fun b hb2 => by unfold va_up; rw [if_neg (by omega)])]
  by_cases e : q = t
  · subst e
    have e2 : va_up K (s * 18 + q) v (18 * s + q) = v := by unfold va_up; rw [if_pos (by omega)]
    rw [e2]; exact hv hb
  · have e2 : va_up K (s * 18 + t) v (18 * s + q) = K (18 * s + q) := by unfold va_up; rw [if_neg (by omega)]
    rw [e2]; exact hA q (by omega) hb
theorem cBs_up {K : Nat → Nat} {s t v : Nat} (hb : ¬ sx_bit s (t / 2) = 0) : cBs (va_up K (s * 18 + t) v) s (t + 1) = min (cBs K s t) v := by
  have e : sx_mn sx_MX (fun b => sx_bit s (b / 2)) (fun b => va_up K (s * 18 + t) v (18 * s + b)) t = sx_mn sx_MX (fun b => sx_bit s (b / 2)) (fun b => K (18 * s + b)) t := sx_mn_congr (fun b hb2 _ => by show va_up K (s * 18 + t) v (18 * s + b) = K (18 * s + b); unfold va_up; rw [if_neg (by omega)])
  have e2 : va_up K (s * 18 + t) v (18 * s + t) = v := by unfold va_up; rw [if_pos (by omega)]
  unfold cBs
  conv => lhs; unfold sx_mn
  rw [if_neg hb, e, e2]
  simp only [Nat.min_def]
  split <;> split <;> omega
theorem cRow_ext {ln : Nat → Nat} {lk : Nat → Nat → Nat} {K : Nat → Nat} {n s : Nat} (hn : n ≤ 9) (hs : s < 2 ^ n) (hA : ∀ q, q < 2 * n → cRow ln lk K s q) : ∀ q, q < 18 → cRow ln lk K s q := by
  intro q hq hb
  have := sx_bitn0 n (by omega) s hs (q / 2) (by omega) hb
  exact hA q (by omega) hb
theorem cT_next {ln : Nat → Nat} {lk : Nat → Nat → Nat} {K B : Nat → Nat} {s v : Nat} (hs : s < 512) (hk : True ∨ True) (h1 : 1 ≤ s) (hT : cT ln lk K B s) (hA : ∀ q, q < 18 → cRow ln lk K s q) (hv : v = cBs K s 18) : cT ln lk K (va_up B s v) (s + 1) := by
  intro q q1 q2
  by_cases e : q = s
  · subst e; exact ⟨hA, by rw [show va_up B q v q = v from if_pos rfl]; exact hv⟩
  · rw [show va_up B s v q = B q from if_neg e]; exact hT q q1 (by omega)
theorem i_X4_forget_4 : ∀ w ∈ u_ws RX4 TX4 7, w ∈ wsX4_forget := by decide +kernel
theorem m_X4_forget_f31 : Cond.fieldLink RX4 31 (TX4 6).1 (TX4 6).2.1 (TX4 6).2.2.1 ∈ wsX4_forget := by decide +kernel
set_option maxHeartbeats 4000000 in
set_option maxRecDepth 100000 in
theorem c_X4_forget (l : Launch) (X : sx_X) (ad : Nat → Nat) (sc : Nat → Int32) (av : Nat → Nat → Nat)  : sx_Mv l yX4_forget wsX4_forget { frames := 0, cells := 0, slots := 0, locals := 0 } X [.ref (ad 3)] (sw X ad sc av) (fun w => w = sw X ad (va_up sc 3 (nI 1)) av) 0 0 := by
  refine sx_entV (own := RX4) (nL := 1) (by decide +kernel) rfl rfl (Nat.le_of_ble_eq_true rfl) ?_
  intro G hG hN hini hret
  show sx_W l X G 0 0 0 [(0, .ref (ad 3))] [] (sw X ad sc av)
  refine sx_aload_n (pc := 0) hG dX4_forget_0 rfl 0 rfl ?_
  refine sx_iconst (pc := 1) (v := nI 1) hG dX4_forget_1 (by decide +kernel) ?_
  refine sx_put (pc := 2) (v := .int (nI 1)) (ci := 4) (w2 := (sw X ad (va_up sc 3 (nI 1)) av)) hG i_X4_forget_4 tyX4 tyX4_ok nmX4 6 m_X4_forget_f31 dX4_forget_2 rfl (by decide) 3 rfl rfl rfl rfl (Nat.le_of_ble_eq_true rfl) rfl ?_
  exact hret _ _ _ dX4_forget_5 rfl

theorem i_X4_costOf_4 : ∀ w ∈ u_ws RX4 TX4 7, w ∈ wsX4_costOf := by decide +kernel
theorem m_X4_costOf_f25 : Cond.fieldLink RX4 25 (TX4 4).1 (TX4 4).2.1 (TX4 4).2.2.1 ∈ wsX4_costOf := by decide +kernel
set_option maxHeartbeats 4000000 in
set_option maxRecDepth 100000 in
theorem c_X4_costOf (l : Launch) (X : sx_X) (ad : Nat → Nat) (sc : Nat → Int32) (av : Nat → Nat → Nat) (s : Nat) (hs : s < 512) : sx_Mi l yX4_costOf wsX4_costOf { frames := 0, cells := 0, slots := 0, locals := 0 } X [.ref (ad 3), .int (nI s)] (sw X ad sc av) (fun r w => r = nI (av 16 s) ∧ w = sw X ad sc av) 0 0 := by
  refine sx_entI (own := RX4) (nL := 2) (by decide +kernel) rfl rfl (Nat.le_of_ble_eq_true rfl) ?_
  intro G hG hN hret
  show sx_W l X G 0 0 0 [(0, .ref (ad 3)), (1, .int (nI s))] [] (sw X ad sc av)
  refine sx_aload_n (pc := 0) hG dX4_costOf_0 rfl 0 rfl ?_
  refine sx_get (pc := 1) (v2 := .ref (ad 16)) (ci := 4) hG i_X4_costOf_4 4 m_X4_costOf_f25 dX4_costOf_1 rfl (by decide) 3 rfl rfl rfl ?_
  refine sx_iload_n (pc := 4) hG dX4_costOf_4 rfl 1 rfl ?_
  refine sx_iald (pc := 5) (v := nI ((av 16) s)) hG 16 dX4_costOf_5 rfl (by decide) (by omega) rfl ?_
  exact hret _ _ _ _ dX4_costOf_6 rfl ⟨rfl, rfl⟩

theorem i_X4_leastBehind_4 : ∀ w ∈ u_ws RX4 TX4 7, w ∈ wsX4_leastBehind := by decide +kernel
theorem m_X4_leastBehind_f9 : Cond.fieldLink RX4 9 (TX4 0).1 (TX4 0).2.1 (TX4 0).2.2.1 ∈ wsX4_leastBehind := by decide +kernel
theorem m_X4_leastBehind_f19 : Cond.fieldLink RX4 19 (TX4 2).1 (TX4 2).2.1 (TX4 2).2.2.1 ∈ wsX4_leastBehind := by decide +kernel
theorem m_X4_leastBehind_f22 : Cond.fieldLink RX4 22 (TX4 3).1 (TX4 3).2.1 (TX4 3).2.2.1 ∈ wsX4_leastBehind := by decide +kernel
theorem m_X4_leastBehind_j73 : Cond.methodLink RX4 73 Lib.Math.min.name ∈ wsX4_leastBehind ∧ Cond.static Lib.Math.min.name ∈ wsX4_leastBehind ∧ Cond.initialized "java/lang/Math" ∈ wsX4_leastBehind ∧ Cond.code Lib.Math.min.name Lib.Math.min.code 2 (some .int) ∈ wsX4_leastBehind := by decide +kernel
theorem m_X4_leastBehind_c64 : Cond.constant RX4 64 (2147483647) ∈ wsX4_leastBehind := by decide +kernel
set_option maxHeartbeats 4000000 in
set_option maxRecDepth 100000 in
theorem c_X4_leastBehind (l : Launch) (X : sx_X) (ad : Nat → Nat) (sc : Nat → Int32) (av : Nat → Nat → Nat) (n : Nat) (hn : n ≤ 9) (h2 : sc 2 = nI (2 * n)) (lk : Nat → Nat → Nat) (hlk : ∀ f, f < 2 * n → ∀ t, t < 2 * n → av 14 (18 * f + t) = lk f t) (hl9 : ∀ f t, lk f t ≤ 405630) (hb14 : ∀ j, av 14 j ≤ 405630) (hb15 : ∀ j, av 15 j ≤ 5000000) (t rest : Nat) (ht : t < 2 * n) (hr : rest < 2 ^ n) : sx_Mi l yX4_leastBehind wsX4_leastBehind { frames := 1, cells := 0, slots := 0, locals := 21 } X [.ref (ad 3), .int (nI t), .int (nI rest)] (sw X ad sc av) (fun r w => r = nI (cLB lk (av 15) rest t) ∧ w = sw X ad sc av) 0 0 := by
  refine sx_entI (own := RX4) (nL := 9) (by decide +kernel) rfl rfl (Nat.le_of_ble_eq_true rfl) ?_
  intro G hG hN hret
  show sx_W l X G 0 0 0 [(0, .ref (ad 3)), (1, .int (nI t)), (2, .int (nI rest))] [] (sw X ad sc av)
  have hp9 := sx_p9 hn
  have loop_b : ∀ (fuel : Nat), ∀ (b least : Nat), (¬ rest = 0) → (b ≤ 2 * n) → (b % 2 = 0) → (least = cBv lk (av 15) rest t b) → 2 * n - b < fuel → sx_W l X G 0 0 24 [(0, .ref (ad 3)), (1, .int (nI t)), (2, .int (nI rest)), (3, .int (nI least)), (4, .int (nI (t * 18))), (5, .int (nI (rest * 18))), (6, .int (nI b))] [] (sw X ad sc av) := by
    intro fuel
    induction fuel with
    | zero => intro b least hr0 hb he hls hm; exact absurd hm (Nat.not_lt_zero _)
    | succ fuel ih_b =>
      intro b least hr0 hb he hls hm_b
      have hll : least ≤ 2147483647 := by subst hls; exact sx_mn_le _ _ _ _
      have hdv := sx_div_lt (b / 2) (show rest < 512 by omega)
      have hb1 := sx_bit_le rest (b / 2)
      have k1 := hb14 (t * 18 + b)
      have k2 := hb14 (t * 18 + b + 1)
      have k3 := hb15 (rest * 18 + b)
      have k4 := hb15 (rest * 18 + b + 1)
      refine sx_iload (pc := 24) hG dX4_leastBehind_24 6 rfl ?_
      refine sx_aload_n (pc := 26) hG dX4_leastBehind_26 rfl 0 rfl ?_
      refine sx_get (pc := 27) (v2 := .int (nI (2 * n))) (ci := 4) hG i_X4_leastBehind_4 0 m_X4_leastBehind_f9 dX4_leastBehind_27 rfl (by decide) 3 rfl rfl (congrArg Value.int h2) ?_
      refine sx_icmp_ge (pc := 30) (tgt := 112) (B := (2 * n) ≤ b) hG dX4_leastBehind_30 (by decide) (nI_leI (by omega) (by omega)) (fun c30 => ?_) (fun c30 => ?_)
      · skip
        refine sx_iload_n (pc := 112) hG dX4_leastBehind_112 rfl 3 rfl ?_
        exact hret _ _ _ _ dX4_leastBehind_113 rfl ⟨by unfold cLB; rw [if_neg hr0, hls, show b = 2 * n by omega]; unfold cBv; rw [sx_mn_18 hn hr], rfl⟩
      · skip
        refine sx_iload_n (pc := 33) hG dX4_leastBehind_33 rfl 2 rfl ?_
        refine sx_iload (pc := 34) hG dX4_leastBehind_34 6 rfl ?_
        refine sx_iconst (pc := 36) (v := nI 1) hG dX4_leastBehind_36 (by decide +kernel) ?_
        refine sx_ishr (pc := 37) (v := (nI (b / 2))) hG dX4_leastBehind_37 (sx_shr1 (by omega)) ?_
        refine sx_ishr (pc := 38) (v := (nI (rest / 2 ^ (b / 2)))) hG dX4_leastBehind_38 (sx_shr (by omega) (by omega)) ?_
        refine sx_iconst (pc := 39) (v := nI 1) hG dX4_leastBehind_39 (by decide +kernel) ?_
        refine sx_iand (pc := 40) (v := (nI (sx_bit rest (b / 2)))) hG dX4_leastBehind_40 (sx_bit1 (by omega)) ?_
        refine sx_if_eq (pc := 41) (tgt := 106) (B := (sx_bit rest (b / 2)) = 0) hG dX4_leastBehind_41 (by decide) (sx_eq0 (by omega)) (fun c41 => ?_) (fun c41 => ?_)
        · skip
          refine sx_iinc (pc := 106) (v := (nI (b + 2))) (lv2 := [(0, .ref (ad 3)), (1, .int (nI t)), (2, .int (nI rest)), (3, .int (nI least)), (4, .int (nI (t * 18))), (5, .int (nI (rest * 18))), (6, .int (nI (b + 2)))]) hG [1, 2, 3, 4, 5, 6, 0] dX4_leastBehind_106 6 rfl (sx_inc2 b) hN (by decide) rfl ?_
          refine sx_goto (pc := 109) (tgt := 24) hG dX4_leastBehind_109 (by decide) ?_
          refine ih_b (b + 2) _ hr0 (by omega) (by omega) (by rw [cBv_skip2 he (by omega)]; exact hls) (by omega)
        · skip
          refine sx_aload_n (pc := 44) hG dX4_leastBehind_44 rfl 0 rfl ?_
          refine sx_get (pc := 45) (v2 := .ref (ad 14)) (ci := 4) hG i_X4_leastBehind_4 2 m_X4_leastBehind_f19 dX4_leastBehind_45 rfl (by decide) 3 rfl rfl rfl ?_
          refine sx_iload (pc := 48) hG dX4_leastBehind_48 4 rfl ?_
          refine sx_iload (pc := 50) hG dX4_leastBehind_50 6 rfl ?_
          refine sx_iadd (pc := 52) (v := (nI (t * 18 + b))) hG dX4_leastBehind_52 (nI_add (t * 18) b) ?_
          refine sx_iald (pc := 53) (v := nI ((av 14) (t * 18 + b))) hG 14 dX4_leastBehind_53 rfl (by decide) (by omega) rfl ?_
          refine sx_aload_n (pc := 54) hG dX4_leastBehind_54 rfl 0 rfl ?_
          refine sx_get (pc := 55) (v2 := .ref (ad 15)) (ci := 4) hG i_X4_leastBehind_4 3 m_X4_leastBehind_f22 dX4_leastBehind_55 rfl (by decide) 3 rfl rfl rfl ?_
          refine sx_iload (pc := 58) hG dX4_leastBehind_58 5 rfl ?_
          refine sx_iload (pc := 60) hG dX4_leastBehind_60 6 rfl ?_
          refine sx_iadd (pc := 62) (v := (nI (rest * 18 + b))) hG dX4_leastBehind_62 (nI_add (rest * 18) b) ?_
          refine sx_iald (pc := 63) (v := nI ((av 15) (rest * 18 + b))) hG 15 dX4_leastBehind_63 rfl (by decide) (by omega) rfl ?_
          refine sx_iadd (pc := 64) (v := (nI ((av 14) (t * 18 + b) + ((av 15) (rest * 18 + b))))) hG dX4_leastBehind_64 (nI_add ((av 14) (t * 18 + b)) ((av 15) (rest * 18 + b))) ?_
          refine sx_istore (pc := 65) (lv2 := [(0, .ref (ad 3)), (1, .int (nI t)), (2, .int (nI rest)), (3, .int (nI least)), (4, .int (nI (t * 18))), (5, .int (nI (rest * 18))), (6, .int (nI b)), (7, .int (nI ((av 14) (t * 18 + b) + ((av 15) (rest * 18 + b)))))]) hG [1, 2, 3, 4, 5, 6, 7, 0] dX4_leastBehind_65 hN (by decide) rfl ?_
          refine sx_aload_n (pc := 67) hG dX4_leastBehind_67 rfl 0 rfl ?_
          refine sx_get (pc := 68) (v2 := .ref (ad 14)) (ci := 4) hG i_X4_leastBehind_4 2 m_X4_leastBehind_f19 dX4_leastBehind_68 rfl (by decide) 3 rfl rfl rfl ?_
          refine sx_iload (pc := 71) hG dX4_leastBehind_71 4 rfl ?_
          refine sx_iload (pc := 73) hG dX4_leastBehind_73 6 rfl ?_
          refine sx_iadd (pc := 75) (v := (nI (t * 18 + b))) hG dX4_leastBehind_75 (nI_add (t * 18) b) ?_
          refine sx_iconst (pc := 76) (v := nI 1) hG dX4_leastBehind_76 (by decide +kernel) ?_
          refine sx_iadd (pc := 77) (v := (nI (t * 18 + b + 1))) hG dX4_leastBehind_77 (nI_add (t * 18 + b) 1) ?_
          refine sx_iald (pc := 78) (v := nI ((av 14) (t * 18 + b + 1))) hG 14 dX4_leastBehind_78 rfl (by decide) (by omega) rfl ?_
          refine sx_aload_n (pc := 79) hG dX4_leastBehind_79 rfl 0 rfl ?_
          refine sx_get (pc := 80) (v2 := .ref (ad 15)) (ci := 4) hG i_X4_leastBehind_4 3 m_X4_leastBehind_f22 dX4_leastBehind_80 rfl (by decide) 3 rfl rfl rfl ?_
          refine sx_iload (pc := 83) hG dX4_leastBehind_83 5 rfl ?_
          refine sx_iload (pc := 85) hG dX4_leastBehind_85 6 rfl ?_
          refine sx_iadd (pc := 87) (v := (nI (rest * 18 + b))) hG dX4_leastBehind_87 (nI_add (rest * 18) b) ?_
          refine sx_iconst (pc := 88) (v := nI 1) hG dX4_leastBehind_88 (by decide +kernel) ?_
          refine sx_iadd (pc := 89) (v := (nI (rest * 18 + b + 1))) hG dX4_leastBehind_89 (nI_add (rest * 18 + b) 1) ?_
          refine sx_iald (pc := 90) (v := nI ((av 15) (rest * 18 + b + 1))) hG 15 dX4_leastBehind_90 rfl (by decide) (by omega) rfl ?_
          refine sx_iadd (pc := 91) (v := (nI ((av 14) (t * 18 + b + 1) + ((av 15) (rest * 18 + b + 1))))) hG dX4_leastBehind_91 (nI_add ((av 14) (t * 18 + b + 1)) ((av 15) (rest * 18 + b + 1))) ?_
          refine sx_istore (pc := 92) (lv2 := [(0, .ref (ad 3)), (1, .int (nI t)), (2, .int (nI rest)), (3, .int (nI least)), (4, .int (nI (t * 18))), (5, .int (nI (rest * 18))), (6, .int (nI b)), (7, .int (nI ((av 14) (t * 18 + b) + ((av 15) (rest * 18 + b))))), (8, .int (nI ((av 14) (t * 18 + b + 1) + ((av 15) (rest * 18 + b + 1)))))]) hG [1, 2, 3, 4, 5, 6, 7, 8, 0] dX4_leastBehind_92 hN (by decide) rfl ?_
          refine sx_iload_n (pc := 94) hG dX4_leastBehind_94 rfl 3 rfl ?_
          refine sx_iload (pc := 95) hG dX4_leastBehind_95 7 rfl ?_
          refine sx_iload (pc := 97) hG dX4_leastBehind_97 8 rfl ?_
          refine sx_mmin (pc := 99) (v := (nI (min ((av 14) (t * 18 + b) + ((av 15) (rest * 18 + b))) ((av 14) (t * 18 + b + 1) + ((av 15) (rest * 18 + b + 1)))))) hG m_X4_leastBehind_j73 dX4_leastBehind_99 (Nat.le_of_ble_eq_true rfl) (Nat.le_of_ble_eq_true rfl) (Nat.le_of_ble_eq_true rfl) (Nat.le_of_ble_eq_true rfl) (sx_min (by omega) (by omega)) ?_
          have hmi : min (av 14 (t * 18 + b) + av 15 (rest * 18 + b)) (av 14 (t * 18 + b + 1) + av 15 (rest * 18 + b + 1)) ≤ av 14 (t * 18 + b) + av 15 (rest * 18 + b) := Nat.min_le_left _ _
          refine sx_mmin (pc := 102) (v := (nI (min least (min ((av 14) (t * 18 + b) + ((av 15) (rest * 18 + b))) ((av 14) (t * 18 + b + 1) + ((av 15) (rest * 18 + b + 1))))))) hG m_X4_leastBehind_j73 dX4_leastBehind_102 (Nat.le_of_ble_eq_true rfl) (Nat.le_of_ble_eq_true rfl) (Nat.le_of_ble_eq_true rfl) (Nat.le_of_ble_eq_true rfl) (sx_min (by omega) (by omega)) ?_
          refine sx_istore_n (pc := 105) (lv2 := [(0, .ref (ad 3)), (1, .int (nI t)), (2, .int (nI rest)), (3, .int (nI (min least (min ((av 14) (t * 18 + b) + ((av 15) (rest * 18 + b))) ((av 14) (t * 18 + b + 1) + ((av 15) (rest * 18 + b + 1))))))), (4, .int (nI (t * 18))), (5, .int (nI (rest * 18))), (6, .int (nI b)), (7, .int (nI ((av 14) (t * 18 + b) + ((av 15) (rest * 18 + b))))), (8, .int (nI ((av 14) (t * 18 + b + 1) + ((av 15) (rest * 18 + b + 1)))))]) hG [1, 2, 3, 0, 4, 5, 6, 7, 8] dX4_leastBehind_105 rfl hN (by decide) rfl ?_
          refine sx_iinc (pc := 106) (v := (nI (b + 2))) (lv2 := [(0, .ref (ad 3)), (1, .int (nI t)), (2, .int (nI rest)), (3, .int (nI (min least (min ((av 14) (t * 18 + b) + ((av 15) (rest * 18 + b))) ((av 14) (t * 18 + b + 1) + ((av 15) (rest * 18 + b + 1))))))), (4, .int (nI (t * 18))), (5, .int (nI (rest * 18))), (6, .int (nI (b + 2))), (7, .int (nI ((av 14) (t * 18 + b) + ((av 15) (rest * 18 + b))))), (8, .int (nI ((av 14) (t * 18 + b + 1) + ((av 15) (rest * 18 + b + 1)))))]) hG [1, 2, 3, 4, 5, 6, 0, 7, 8] dX4_leastBehind_106 6 rfl (sx_inc2 b) hN (by decide) rfl ?_
          refine sx_goto (pc := 109) (tgt := 24) hG dX4_leastBehind_109 (by decide) ?_
          refine sx_lsub [0, 1, 2, 3, 4, 5, 6] rfl ?_
          refine ih_b (b + 2) _ hr0 (by omega) (by omega) (by rw [cBv_step2 he c41, ← hls, ← hlk t ht b (by omega), ← hlk t ht (b + 1) (by omega), show 18 * t + b = t * 18 + b by omega, show 18 * t + (b + 1) = t * 18 + b + 1 by omega, show 18 * rest + b = rest * 18 + b by omega, show 18 * rest + (b + 1) = rest * 18 + b + 1 by omega]) (by omega)
  refine sx_iload_n (pc := 0) hG dX4_leastBehind_0 rfl 2 rfl ?_
  refine sx_if_ne (pc := 1) (tgt := 6) (B := rest = 0) hG dX4_leastBehind_1 (by decide) (sx_eq0 (by omega)) (fun c1 => ?_) (fun c1 => ?_)
  · skip
    refine sx_ldc (pc := 6) (v2 := nI 2147483647) hG m_X4_leastBehind_c64 dX4_leastBehind_6 (by decide +kernel) ?_
    refine sx_istore_n (pc := 8) (lv2 := [(0, .ref (ad 3)), (1, .int (nI t)), (2, .int (nI rest)), (3, .int (nI 2147483647))]) hG [1, 2, 3, 0] dX4_leastBehind_8 rfl hN (by decide) rfl ?_
    refine sx_iload_n (pc := 9) hG dX4_leastBehind_9 rfl 1 rfl ?_
    refine sx_bipush (pc := 10) (v := nI 18) hG dX4_leastBehind_10 (by decide +kernel) ?_
    refine sx_imul (pc := 12) (v := (nI (t * 18))) hG dX4_leastBehind_12 (pk_mul t 18) ?_
    refine sx_istore (pc := 13) (lv2 := [(0, .ref (ad 3)), (1, .int (nI t)), (2, .int (nI rest)), (3, .int (nI 2147483647)), (4, .int (nI (t * 18)))]) hG [1, 2, 3, 4, 0] dX4_leastBehind_13 hN (by decide) rfl ?_
    refine sx_iload_n (pc := 15) hG dX4_leastBehind_15 rfl 2 rfl ?_
    refine sx_bipush (pc := 16) (v := nI 18) hG dX4_leastBehind_16 (by decide +kernel) ?_
    refine sx_imul (pc := 18) (v := (nI (rest * 18))) hG dX4_leastBehind_18 (pk_mul rest 18) ?_
    refine sx_istore (pc := 19) (lv2 := [(0, .ref (ad 3)), (1, .int (nI t)), (2, .int (nI rest)), (3, .int (nI 2147483647)), (4, .int (nI (t * 18))), (5, .int (nI (rest * 18)))]) hG [1, 2, 3, 4, 5, 0] dX4_leastBehind_19 hN (by decide) rfl ?_
    refine sx_iconst (pc := 21) (v := nI 0) hG dX4_leastBehind_21 (by decide +kernel) ?_
    refine sx_istore (pc := 22) (lv2 := [(0, .ref (ad 3)), (1, .int (nI t)), (2, .int (nI rest)), (3, .int (nI 2147483647)), (4, .int (nI (t * 18))), (5, .int (nI (rest * 18))), (6, .int (nI 0))]) hG [1, 2, 3, 4, 5, 6, 0] dX4_leastBehind_22 hN (by decide) rfl ?_
    refine loop_b _ 0 2147483647 c1 (Nat.zero_le _) rfl rfl (Nat.lt_succ_self _)
  · skip
    refine sx_iconst (pc := 4) (v := nI 0) hG dX4_leastBehind_4 (by decide +kernel) ?_
    exact hret _ _ _ _ dX4_leastBehind_5 rfl ⟨by unfold cLB; rw [if_pos c1], rfl⟩

theorem i_X4_fill_4 : ∀ w ∈ u_ws RX4 TX4 7, w ∈ wsX4_fill := by decide +kernel
theorem m_X4_fill_f9 : Cond.fieldLink RX4 9 (TX4 0).1 (TX4 0).2.1 (TX4 0).2.2.1 ∈ wsX4_fill := by decide +kernel
theorem m_X4_fill_f25 : Cond.fieldLink RX4 25 (TX4 4).1 (TX4 4).2.1 (TX4 4).2.2.1 ∈ wsX4_fill := by decide +kernel
theorem m_X4_fill_l65 : Cond.methodLinkNest RX4 65 yX7_bitOf "TubeShop" ∈ sx_nest := by decide +kernel
theorem m_X4_fill_s65 : Cond.static yX7_bitOf ∈ wsX4_fill ∧ Cond.initialized yX7_bitOf.cls ∈ wsX4_fill := by decide +kernel
theorem m_X4_fill_f15 : Cond.fieldLink RX4 15 (TX4 1).1 (TX4 1).2.1 (TX4 1).2.2.1 ∈ wsX4_fill := by decide +kernel
theorem m_X4_fill_f22 : Cond.fieldLink RX4 22 (TX4 3).1 (TX4 3).2.1 (TX4 3).2.2.1 ∈ wsX4_fill := by decide +kernel
theorem m_X4_fill_j73 : Cond.methodLink RX4 73 Lib.Math.min.name ∈ wsX4_fill ∧ Cond.static Lib.Math.min.name ∈ wsX4_fill ∧ Cond.initialized "java/lang/Math" ∈ wsX4_fill ∧ Cond.code Lib.Math.min.name Lib.Math.min.code 2 (some .int) ∈ wsX4_fill := by decide +kernel
theorem m_X4_fill_c64 : Cond.constant RX4 64 (2147483647) ∈ wsX4_fill := by decide +kernel
set_option maxHeartbeats 4000000 in
set_option maxRecDepth 100000 in
theorem c_X4_fill (l : Launch) (X : sx_X) (ad : Nat → Nat) (sc : Nat → Int32) (av : Nat → Nat → Nat) (n : Nat) (hn : n ≤ 9) (h2 : sc 2 = nI (2 * n)) (ln : Nat → Nat) (lk : Nat → Nat → Nat) (hln : ∀ i, i < n → av 13 i = ln i) (hl1 : ∀ i, ln i ≤ 126) (hlk : ∀ f, f < 2 * n → ∀ t, t < 2 * n → av 14 (18 * f + t) = lk f t) (hl9 : ∀ f t, lk f t ≤ 405630) (hb14 : ∀ j, av 14 j ≤ 405630) (hb15 : ∀ j, av 15 j ≤ 5000000) (s : Nat) (hs1 : 1 ≤ s) (hs : s < 2 ^ n) (hT : cT ln lk (av 15) (av 16) s) : sx_Mv l yX4_fill wsX4_fill { frames := 2, cells := 0, slots := 0, locals := 49 } X [.ref (ad 3), .int (nI s)] (sw X ad sc av) (fun w => ∃ K B : Nat → Nat, w = sw X ad sc (va_up (va_up av 15 K) 16 B) ∧ cT ln lk K B (s + 1) ∧ (∀ j, K j ≤ 5000000) ∧ ∀ j, ¬ j = s → B j = av 16 j) 0 0 := by
  refine sx_entV (own := RX4) (nL := 5) (by decide +kernel) rfl rfl (Nat.le_of_ble_eq_true rfl) ?_
  intro G hG hN hini hret
  show sx_W l X G 0 0 0 [(0, .ref (ad 3)), (1, .int (nI s))] [] (sw X ad sc av)
  have hp9 := sx_p9 hn
  have hpc := sx_pc_n0 n (by omega) s hs
  have loop_t : ∀ (fuel : Nat), ∀ (t least : Nat) (K : Nat → Nat), (t ≤ 2 * n) → (cT ln lk K (av 16) s) → (∀ q, q < t → cRow ln lk K s q) → (least = cBs K s t) → (∀ j, K j ≤ 5000000) → 2 * n - t < fuel → sx_W l X G 0 0 5 [(0, .ref (ad 3)), (1, .int (nI s)), (2, .int (nI least)), (3, .int (nI t))] [] (sw X ad sc (va_up av 15 K)) := by
    intro fuel
    induction fuel with
    | zero => intro t least K ht hT1 hA hls hKb hm; exact absurd hm (Nat.not_lt_zero _)
    | succ fuel ih_t =>
      intro t least K ht hT1 hA hls hKb hm_t
      have hll : least ≤ 2147483647 := by subst hls; exact sx_mn_le _ _ _ _
      have hale := Nat.and_le_left (n := s) (m := 2 ^ (t / 2))
      have hab := fun h => sx_ab0 s (by omega) (t / 2) h
      have hpt := sx_p9 (k := t / 2) (by omega)
      refine sx_iload_n (pc := 5) hG dX4_fill_5 rfl 3 rfl ?_
      refine sx_aload_n (pc := 6) hG dX4_fill_6 rfl 0 rfl ?_
      refine sx_get (pc := 7) (v2 := .int (nI (2 * n))) (ci := 4) hG i_X4_fill_4 0 m_X4_fill_f9 dX4_fill_7 rfl (by decide) 3 rfl rfl (congrArg Value.int h2) ?_
      refine sx_icmp_ge (pc := 10) (tgt := 70) (B := (2 * n) ≤ t) hG dX4_fill_10 (by decide) (nI_leI (by omega) (by omega)) (fun c10 => ?_) (fun c10 => ?_)
      · skip
        refine sx_aload_n (pc := 70) hG dX4_fill_70 rfl 0 rfl ?_
        refine sx_get (pc := 71) (v2 := .ref (ad 16)) (ci := 4) hG i_X4_fill_4 4 m_X4_fill_f25 dX4_fill_71 rfl (by decide) 3 rfl rfl rfl ?_
        refine sx_iload_n (pc := 74) hG dX4_fill_74 rfl 1 rfl ?_
        refine sx_iload_n (pc := 75) hG dX4_fill_75 rfl 2 rfl ?_
        refine sx_iastN (pc := 76) (w2 := (sw X ad sc (va_up (va_up av 15 K) 16 (va_up (av 16) s least)))) hG 16 dX4_fill_76 rfl (by decide) (by omega) rfl ?_
        have htn : t = 2 * n := by omega
        exact hret _ _ _ dX4_fill_77 ⟨K, va_up (av 16) s least, rfl, cT_next (by omega) (Or.inl trivial) hs1 hT1 (fun q hq => cRow_ext hn hs (fun q2 h2 => hA q2 (by omega)) q hq) (by rw [hls, htn]; unfold cBs; rw [sx_mn_18 hn hs]), hKb, fun j hj => by unfold va_up; rw [if_neg hj]⟩
      · skip
        refine sx_iload_n (pc := 13) hG dX4_fill_13 rfl 1 rfl ?_
        refine sx_iload_n (pc := 14) hG dX4_fill_14 rfl 3 rfl ?_
        refine sx_callSNiw (pc := 15) (n9 := 1) (As := [.int (nI t)]) (st := [.int (nI s)]) hG (c_X7_bitOf l X (sw X ad sc (va_up av 15 K)) t (by omega)) gX4_fill_X7_bitOf_n65 rfl m_X4_fill_l65 m_X4_fill_s65 (by decide +kernel) rfl dX4_fill_15 ⟨rfl, rfl⟩ ⟨Nat.le_of_ble_eq_true rfl, Nat.le_of_ble_eq_true rfl⟩ (Nat.le_of_ble_eq_true rfl) ⟨Nat.le_of_ble_eq_true rfl, Nat.le_of_ble_eq_true rfl⟩ (fun r w1 hp => ?_)
        obtain ⟨hr9, hw9⟩ := hp
        have hr9 : r = (nI (2 ^ (t / 2))) := hr9
        subst hr9
        refine sx_weq hw9 ?_
        refine sx_iand (pc := 18) (v := (nI (s &&& (2 ^ (t / 2))))) hG dX4_fill_18 (sx_and (by omega) (sx_p2 (by omega))) ?_
        refine sx_if_eq (pc := 19) (tgt := 64) (B := (s &&& (2 ^ (t / 2))) = 0) hG dX4_fill_19 (by decide) (sx_eq0 (by omega)) (fun c19 => ?_) (fun c19 => ?_)
        · skip
          refine sx_iinc (pc := 64) (v := (nI (t + 1))) (lv2 := [(0, .ref (ad 3)), (1, .int (nI s)), (2, .int (nI least)), (3, .int (nI (t + 1)))]) hG [1, 2, 3, 0] dX4_fill_64 3 rfl (sx_inc t) hN (by decide) rfl ?_
          refine sx_goto (pc := 67) (tgt := 5) hG dX4_fill_67 (by decide) ?_
          refine ih_t (t + 1) _ _ (by omega) hT1 (fun q hq => by rcases Nat.lt_or_ge q t with h | h; exact hA q h; (have e : q = t := (by omega); subst e; exact fun h9 => absurd ((hab (by omega)).mp c19) h9)) (by rw [cBs_skip ((hab (by omega)).mp c19)]; exact hls) hKb (by omega)
        · skip
          have hbt : ¬ sx_bit s (t / 2) = 0 := fun h => c19 ((hab (by omega)).mpr h)
          have hdl := sx_dlt (s := s) (k := t / 2) (by omega) (by omega) hbt
          have hpd := sx_pc_d0 s (by omega) (t / 2) (by omega) hbt
          have hcl := cLB_le (t := t) hl9 (by omega) hT1 hdl
          have hli := hl1 (t / 2)
          have hle := hln (t / 2) (by omega)
          have hvrow : ¬ sx_bit s (t / 2) = 0 → av 13 (t / 2) + cLB lk K (sx_diff s (2 ^ (t / 2))) t = ln (t / 2) + cLB lk K (sx_diff s (2 ^ (t / 2))) t ∧ av 13 (t / 2) + cLB lk K (sx_diff s (2 ^ (t / 2))) t ≤ 500000 * sx_pc s := fun _ => ⟨by rw [hle], by omega⟩
          have hcv : cBs K s (t + 1) = cBs K s (t + 1) := rfl
          refine sx_aload_n (pc := 22) hG dX4_fill_22 rfl 0 rfl ?_
          refine sx_get (pc := 23) (v2 := .ref (ad 13)) (ci := 4) hG i_X4_fill_4 1 m_X4_fill_f15 dX4_fill_23 rfl (by decide) 3 rfl rfl rfl ?_
          refine sx_iload_n (pc := 26) hG dX4_fill_26 rfl 3 rfl ?_
          refine sx_iconst (pc := 27) (v := nI 1) hG dX4_fill_27 (by decide +kernel) ?_
          refine sx_ishr (pc := 28) (v := (nI (t / 2))) hG dX4_fill_28 (sx_shr1 (by omega)) ?_
          refine sx_iald (pc := 29) (v := nI ((av 13) (t / 2))) hG 13 dX4_fill_29 rfl (by decide) (by omega) rfl ?_
          refine sx_aload_n (pc := 30) hG dX4_fill_30 rfl 0 rfl ?_
          refine sx_iload_n (pc := 31) hG dX4_fill_31 rfl 3 rfl ?_
          refine sx_iload_n (pc := 32) hG dX4_fill_32 rfl 1 rfl ?_
          refine sx_iload_n (pc := 33) hG dX4_fill_33 rfl 3 rfl ?_
          refine sx_callSNiw (pc := 34) (n9 := 1) (As := [.int (nI t)]) (st := [.int (nI s), .int (nI t), .ref (ad 3), .int (nI ((av 13) (t / 2)))]) hG (c_X7_bitOf l X (sw X ad sc (va_up av 15 K)) t (by omega)) gX4_fill_X7_bitOf_n65 rfl m_X4_fill_l65 m_X4_fill_s65 (by decide +kernel) rfl dX4_fill_34 ⟨rfl, rfl⟩ ⟨Nat.le_of_ble_eq_true rfl, Nat.le_of_ble_eq_true rfl⟩ (Nat.le_of_ble_eq_true rfl) ⟨Nat.le_of_ble_eq_true rfl, Nat.le_of_ble_eq_true rfl⟩ (fun r w1 hp => ?_)
          obtain ⟨hr9, hw9⟩ := hp
          have hr9 : r = (nI (2 ^ (t / 2))) := hr9
          subst hr9
          refine sx_weq hw9 ?_
          refine sx_ixor (pc := 37) (v := (nI (sx_diff s (2 ^ (t / 2))))) hG dX4_fill_37 (sx_xd (by omega) (by omega) c19) ?_
          refine sx_callViw (pc := 38) (n9 := 2) (As := [.int (nI t), .int (nI (sx_diff s (2 ^ (t / 2))))]) (st := [.int (nI ((av 13) (t / 2)))]) (b := (ad 3)) (ci := 4) hG (c_X4_leastBehind l X ad sc (va_up av 15 K) n hn h2 lk hlk hl9 hb14 hKb t (sx_diff s (2 ^ (t / 2))) (by omega) (by omega)) gX4_fill_X4_leastBehind rfl (by decide +kernel) rfl 3 rfl rfl rfl dX4_fill_38 ⟨rfl, rfl⟩ ⟨Nat.le_of_ble_eq_true rfl, Nat.le_of_ble_eq_true rfl⟩ (Nat.le_of_ble_eq_true rfl) ⟨Nat.le_of_ble_eq_true rfl, Nat.le_of_ble_eq_true rfl⟩ (fun r w1 hp => ?_)
          obtain ⟨hr9, hw9⟩ := hp
          have hr9 : r = (nI (cLB lk K (sx_diff s (2 ^ (t / 2))) t)) := hr9
          subst hr9
          refine sx_weq hw9 ?_
          refine sx_iadd (pc := 41) (v := (nI ((av 13) (t / 2) + (cLB lk K (sx_diff s (2 ^ (t / 2))) t)))) hG dX4_fill_41 (nI_add ((av 13) (t / 2)) (cLB lk K (sx_diff s (2 ^ (t / 2))) t)) ?_
          refine sx_istore (pc := 42) (lv2 := [(0, .ref (ad 3)), (1, .int (nI s)), (2, .int (nI least)), (3, .int (nI t)), (4, .int (nI ((av 13) (t / 2) + (cLB lk K (sx_diff s (2 ^ (t / 2))) t))))]) hG [1, 2, 3, 4, 0] dX4_fill_42 hN (by decide) rfl ?_
          refine sx_aload_n (pc := 44) hG dX4_fill_44 rfl 0 rfl ?_
          refine sx_get (pc := 45) (v2 := .ref (ad 15)) (ci := 4) hG i_X4_fill_4 3 m_X4_fill_f22 dX4_fill_45 rfl (by decide) 3 rfl rfl rfl ?_
          refine sx_iload_n (pc := 48) hG dX4_fill_48 rfl 1 rfl ?_
          refine sx_bipush (pc := 49) (v := nI 18) hG dX4_fill_49 (by decide +kernel) ?_
          refine sx_imul (pc := 51) (v := (nI (s * 18))) hG dX4_fill_51 (pk_mul s 18) ?_
          refine sx_iload_n (pc := 52) hG dX4_fill_52 rfl 3 rfl ?_
          refine sx_iadd (pc := 53) (v := (nI (s * 18 + t))) hG dX4_fill_53 (nI_add (s * 18) t) ?_
          refine sx_iload (pc := 54) hG dX4_fill_54 4 rfl ?_
          refine sx_iastN (pc := 56) (w2 := (sw X ad sc (va_up av 15 (va_up K (s * 18 + t) ((av 13) (t / 2) + (cLB lk K (sx_diff s (2 ^ (t / 2))) t)))))) hG 15 dX4_fill_56 rfl (by decide) (by omega) rfl ?_
          refine sx_iload_n (pc := 57) hG dX4_fill_57 rfl 2 rfl ?_
          refine sx_iload (pc := 58) hG dX4_fill_58 4 rfl ?_
          refine sx_mmin (pc := 60) (v := (nI (min least ((av 13) (t / 2) + (cLB lk K (sx_diff s (2 ^ (t / 2))) t))))) hG m_X4_fill_j73 dX4_fill_60 (Nat.le_of_ble_eq_true rfl) (Nat.le_of_ble_eq_true rfl) (Nat.le_of_ble_eq_true rfl) (Nat.le_of_ble_eq_true rfl) (sx_min (by omega) (by omega)) ?_
          refine sx_istore_n (pc := 63) (lv2 := [(0, .ref (ad 3)), (1, .int (nI s)), (2, .int (nI (min least ((av 13) (t / 2) + (cLB lk K (sx_diff s (2 ^ (t / 2))) t))))), (3, .int (nI t)), (4, .int (nI ((av 13) (t / 2) + (cLB lk K (sx_diff s (2 ^ (t / 2))) t))))]) hG [1, 2, 0, 3, 4] dX4_fill_63 rfl hN (by decide) rfl ?_
          refine sx_iinc (pc := 64) (v := (nI (t + 1))) (lv2 := [(0, .ref (ad 3)), (1, .int (nI s)), (2, .int (nI (min least ((av 13) (t / 2) + (cLB lk K (sx_diff s (2 ^ (t / 2))) t))))), (3, .int (nI (t + 1))), (4, .int (nI ((av 13) (t / 2) + (cLB lk K (sx_diff s (2 ^ (t / 2))) t))))]) hG [1, 2, 3, 0, 4] dX4_fill_64 3 rfl (sx_inc t) hN (by decide) rfl ?_
          refine sx_goto (pc := 67) (tgt := 5) hG dX4_fill_67 (by decide) ?_
          refine sx_lsub [0, 1, 2, 3] rfl ?_
          refine ih_t (t + 1) _ _ (by omega) (cT_up (by omega) (by omega) hT1) (cA_up (by omega) (by omega) hA hvrow) (by rw [cBs_up hbt, hls]) (fun j => by unfold va_up; split; omega; exact hKb j) (by omega)
  refine sx_ldc (pc := 0) (v2 := nI 2147483647) hG m_X4_fill_c64 dX4_fill_0 (by decide +kernel) ?_
  refine sx_istore_n (pc := 2) (lv2 := [(0, .ref (ad 3)), (1, .int (nI s)), (2, .int (nI 2147483647))]) hG [1, 2, 0] dX4_fill_2 rfl hN (by decide) rfl ?_
  refine sx_iconst (pc := 3) (v := nI 0) hG dX4_fill_3 (by decide +kernel) ?_
  refine sx_istore_n (pc := 4) (lv2 := [(0, .ref (ad 3)), (1, .int (nI s)), (2, .int (nI 2147483647)), (3, .int (nI 0))]) hG [1, 2, 3, 0] dX4_fill_4 rfl hN (by decide) rfl ?_
  refine sx_weq (w2 := (sw X ad sc (va_up av 15 (av 15)))) rfl ?_
  refine loop_t _ 0 2147483647 (av 15) (Nat.zero_le _) hT (fun q h => absurd h (Nat.not_lt_zero _)) rfl hb15 (Nat.lt_succ_self _)
