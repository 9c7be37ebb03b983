/-! THE CLASS: leastSum, search, firstSet -/
theorem sx_mn_min {i0 : Nat} {p f : Nat → Nat} {t : Nat} (hp : ¬ p t = 0) : sx_mn i0 p f (t + 1) = min (sx_mn i0 p f t) (f t) := by
  conv => lhs; unfold sx_mn
  rw [if_neg hp]
  simp only [Nat.min_def]
  split <;> split <;> omega
def cLs (av : Nat → Nat → Nat) (B U : Nat → Nat) (lg s i o least : Nat) : Prop := (i < 2 ^ sx_pc (sx_rs s) → o = sx_pd (sx_rs s) i ∧ least = cUv av B U lg s (sx_low s + sx_pd (sx_rs s) i)) ∧ (i = 2 ^ sx_pc (sx_rs s) → least = cUv av B U lg s (s + 1))
theorem sx_rs_lt {s : Nat} (hs : s < 512) : sx_rs s < 512 := by have := (sx_rest0 s hs).2.1; unfold sx_rs; omega
theorem cOk_gap {s i u : Nat} (hs : s < 512) (hi : i + 1 < 2 ^ sx_pc (sx_rs s)) (h1 : sx_low s + sx_pd (sx_rs s) i < u) (h2 : u < sx_low s + sx_pd (sx_rs s) (i + 1)) : cOk s u = 0 := by
  rcases Nat.eq_zero_or_pos (cOk s u) with q | q
  · exact q
  · obtain ⟨h3, h4⟩ := sx_lo1 hs (show ¬ cOk s u = 0 by omega)
    exact absurd h4 (sx_pd_gap (sx_rs_lt hs) hi (by omega) (by omega))
theorem cOk_1 {s i : Nat} (hs : s < 512) (h0 : ¬ s = 0) (hi : i < 2 ^ sx_pc (sx_rs s)) : ¬ cOk s (sx_low s + sx_pd (sx_rs s) i) = 0 := by
  obtain ⟨-, p2, p3⟩ := sx_lo0 s hs h0 i hi
  unfold cOk; rw [if_pos ⟨p2, p3⟩]; decide
theorem cOk_low {s u : Nat} (hs : s < 512) (h0 : ¬ s = 0) (hu : u < sx_low s) : cOk s u = 0 := by
  obtain ⟨-, -, i, hi, hli⟩ := sx_low1 s hs h0
  unfold cOk
  rw [if_neg (fun z => z.2 (by rw [hli]; exact sx_below0 i hi u (by omega)))]
theorem cLs_next {av : Nat → Nat → Nat} {B U : Nat → Nat} {lg s i least : Nat} (hs : s < 512) (h0 : ¬ s = 0) (hi : i < 2 ^ sx_pc (sx_rs s)) (hl : least = cUv av B U lg s (sx_low s + sx_pd (sx_rs s) i)) : cLs av B U lg s (i + 1) (((sx_pd (sx_rs s) i + 512 - sx_rs s) % 512) &&& sx_rs s) (min least (cSw av B U lg s (sx_low s + sx_pd (sx_rs s) i))) := by
  have hr := sx_rs_lt hs
  have hstep : min least (cSw av B U lg s (sx_low s + sx_pd (sx_rs s) i)) = cUv av B U lg s (sx_low s + sx_pd (sx_rs s) i + 1) := by
    unfold cUv at hl ⊢; rw [sx_mn_min (cOk_1 hs h0 hi), ← hl]
  rw [hstep]
  refine ⟨fun h => ?_, fun h => ?_⟩
  · obtain ⟨n1, n2⟩ := sx_pd_next0 (sx_rs s) hr i (by omega)
    refine ⟨n1, ?_⟩
    have h9 := sx_mn_ext (i0 := sx_MX) (p := cOk s) (f := cSw av B U lg s) (k := sx_low s + sx_pd (sx_rs s) i + 1) (d := sx_pd (sx_rs s) (i + 1) - sx_pd (sx_rs s) i - 1) (fun b h1 h2 => cOk_gap hs h (by omega) (by omega))
    rw [show sx_low s + sx_pd (sx_rs s) i + 1 + (sx_pd (sx_rs s) (i + 1) - sx_pd (sx_rs s) i - 1) = sx_low s + sx_pd (sx_rs s) (i + 1) by omega] at h9
    exact h9.symm
  · have he := (sx_pd_end0 (sx_rs s) hr).2
    have h2 := (sx_rest0 s hs).2.1
    rw [show 2 ^ sx_pc (sx_rs s) - 1 = i by omega] at he
    rw [he, show sx_low s + sx_rs s = s by unfold sx_rs; omega]
theorem cSw_le {av : Nat → Nat → Nat} {B U : Nat → Nat} {lg s t : Nat} (hg : sG av) (hB : B t ≤ 5000000) (hU : U (sx_diff s t) = 2147483647 ∨ U (sx_diff s t) ≤ 10000000) : cSw av B U lg s t ≤ 2147483647 := by
  have := cPr_le hg hB
  unfold cSw sx_MX; split <;> omega
def cUT (av : Nat → Nat → Nat) (B U : Nat → Nat) (lg M : Nat) : Prop := U 0 = 0 ∧ ∀ s, 1 ≤ s → s < M → U s = cUv av B U lg s (s + 1) ∧ (U s = 2147483647 ∨ U s ≤ 1100000 * sx_pc s)
theorem cUT_bd {av : Nat → Nat → Nat} {B U : Nat → Nat} {lg M j : Nat} (hM : M ≤ 512) (h : cUT av B U lg M) (hj : j < M) : U j = 2147483647 ∨ U j ≤ 10000000 := by
  by_cases e : j = 0
  · subst e; rw [h.1]; omega
  · have hp := sx_pc_n0 9 (by decide) j (show j < 2 ^ 9 by omega)
    rcases (h.2 j (by omega) hj).2 with q | q <;> omega
theorem cOk_lt {s t : Nat} (h : ¬ cOk s t = 0) : sx_diff t s = 0 ∧ ¬ t &&& sx_low s = 0 ∧ t ≤ s ∧ ¬ t = 0 := by
  have h2 : sx_diff t s = 0 ∧ ¬ t &&& sx_low s = 0 := by
    rcases Classical.em (sx_diff t s = 0 ∧ ¬ t &&& sx_low s = 0) with q | q
    · exact q
    · exact absurd (by unfold cOk; rw [if_neg q]) h
  exact ⟨h2.1, h2.2, sx_sub_le h2.1, fun q => h2.2 (by rw [q]; exact Nat.zero_and _)⟩
theorem cUv_congr {av : Nat → Nat → Nat} {B U U2 : Nat → Nat} {lg s k : Nat} (h : ∀ j, j < s → U2 j = U j) : cUv av B U2 lg s k = cUv av B U lg s k :=
  sx_mn_congr fun t _ hp => by
    obtain ⟨h1, -, -, h4⟩ := cOk_lt hp
    unfold cSw; rw [h _ (sx_sub_lt h4 h1)]
theorem cUT_next {av : Nat → Nat → Nat} {B U : Nat → Nat} {lg s : Nat} (hg : sG av) (hs : s < 512) (h1 : 1 ≤ s) (hB : ∀ j, 1 ≤ j → j ≤ s → B j ≤ 5000000) (hT : cUT av B U lg s) : cUT av B (va_up U s (cUv av B U lg s (s + 1))) lg (s + 1) := by
  have hlt : ∀ j, j < s → va_up U s (cUv av B U lg s (s + 1)) j = U j := fun j hj => by unfold va_up; rw [if_neg (by omega)]
  refine ⟨by rw [hlt 0 (by omega)]; exact hT.1, fun q q1 q2 => ?_⟩
  by_cases e : q = s
  · subst e
    rw [cUv_congr hlt, show va_up U q (cUv av B U lg q (q + 1)) q = cUv av B U lg q (q + 1) from if_pos rfl]
    refine ⟨rfl, ?_⟩
    by_cases hm : cUv av B U lg q (q + 1) < sx_MX
    · obtain ⟨t, t1, t2, t3⟩ := sx_mn_at hm
      obtain ⟨u1, u2, u3, u4⟩ := cOk_lt t2
      obtain ⟨w1, w2⟩ := mSub hs (by omega) u2
      have hb := hB t (by omega) u3
      have hpr := cPr_le hg hb
      have hv : cUv av B U lg q (q + 1) = cSw av B U lg q t := t3.symm
      rw [hv] at hm ⊢
      unfold cSw at hm ⊢
      by_cases hc : U (sx_diff q t) = sx_MX ∨ lg < B t % 4096
      · rw [if_pos hc] at hm; exact absurd hm (Nat.lt_irrefl _)
      · rw [if_neg hc]
        right
        by_cases hz : sx_diff q t = 0
        · rw [hz, hT.1]; rw [hz] at w2; have := sx_pc_zero; omega
        · rcases (hT.2 (sx_diff q t) (by omega) w1).2 with z | z
          · exact absurd (Or.inl z) hc
          · omega
    · left
      have := sx_mn_le sx_MX (cOk q) (cSw av B U lg q) (q + 1)
      have e2 : cUv av B U lg q (q + 1) = sx_mn sx_MX (cOk q) (cSw av B U lg q) (q + 1) := rfl
      unfold sx_MX at hm this e2
      omega
  · rw [cUv_congr (fun j hj => hlt j (by omega)), hlt q (by omega)]
    exact hT.2 q q1 (by omega)
def cNf (av : Nat → Nat → Nat) (B U : Nat → Nat) (lg s i o : Nat) : Prop := (i < 2 ^ sx_pc (sx_rs s) → o = sx_pd (sx_rs s) i ∧ ∀ u, u < sx_low s + sx_pd (sx_rs s) i → ¬ cOk s u = 0 → ¬ cSw av B U lg s u = U s) ∧ (i = 2 ^ sx_pc (sx_rs s) → ∀ u, u < s + 1 → ¬ cOk s u = 0 → ¬ cSw av B U lg s u = U s)
theorem cNf_next {av : Nat → Nat → Nat} {B U : Nat → Nat} {lg s i : Nat} (hs : s < 512) (h0 : ¬ s = 0) (hi : i < 2 ^ sx_pc (sx_rs s)) (h : ∀ u, u < sx_low s + sx_pd (sx_rs s) i → ¬ cOk s u = 0 → ¬ cSw av B U lg s u = U s) (hn : ¬ cSw av B U lg s (sx_low s + sx_pd (sx_rs s) i) = U s) : cNf av B U lg s (i + 1) (((sx_pd (sx_rs s) i + 512 - sx_rs s) % 512) &&& sx_rs s) := by
  have hr := sx_rs_lt hs
  have h1 : ∀ u, u < sx_low s + sx_pd (sx_rs s) i + 1 → ¬ cOk s u = 0 → ¬ cSw av B U lg s u = U s := fun u hu hp => by
    rcases Nat.lt_or_ge u (sx_low s + sx_pd (sx_rs s) i) with q | q
    · exact h u q hp
    · have e : u = sx_low s + sx_pd (sx_rs s) i := by omega
      subst e; exact hn
  refine ⟨fun h2 => ?_, fun h2 => ?_⟩
  · obtain ⟨n1, n2⟩ := sx_pd_next0 (sx_rs s) hr i (by omega)
    refine ⟨n1, fun u hu hp => ?_⟩
    rcases Nat.lt_or_ge u (sx_low s + sx_pd (sx_rs s) i + 1) with q | q
    · exact h1 u q hp
    · exact absurd (cOk_gap hs h2 (by omega) hu) hp
  · have he := (sx_pd_end0 (sx_rs s) hr).2
    have h3 := (sx_rest0 s hs).2.1
    rw [show 2 ^ sx_pc (sx_rs s) - 1 = i by omega] at he
    rw [he, show sx_low s + sx_rs s = s by unfold sx_rs; omega] at h1
    exact h1
theorem m_X6_leastSum_j34 : Cond.methodLink RX6 34 Lib.Math.min.name ∈ wsX6_leastSum ∧ Cond.static Lib.Math.min.name ∈ wsX6_leastSum ∧ Cond.initialized "java/lang/Math" ∈ wsX6_leastSum ∧ Cond.code Lib.Math.min.name Lib.Math.min.code 2 (some .int) ∈ wsX6_leastSum := by decide +kernel
theorem m_X6_leastSum_c25 : Cond.constant RX6 25 (2147483647) ∈ wsX6_leastSum := by decide +kernel
set_option maxHeartbeats 4000000 in
set_option maxRecDepth 100000 in
theorem c_X6_leastSum (l : Launch) (X : sx_X) (ad : Nat → Nat) (sc : Nat → Int32) (av : Nat → Nat → Nat) (lg : Nat) (hlg : lg ≤ 9999) (h4 : sc 4 = nI lg) (hg : sG av) (s : Nat) (hs1 : 1 ≤ s) (hs : s < 512) (hB : ∀ j, 1 ≤ j → j ≤ s → av 16 j ≤ 5000000) (hU : ∀ j, j < s → av 18 j = 2147483647 ∨ av 18 j ≤ 10000000) : sx_Mi l yX6_leastSum wsX6_leastSum { frames := 3, cells := 0, slots := 0, locals := 67 } X [.ref (ad 4), .ref (ad 3), .ref (ad 2), .int (nI s)] (sw X ad sc av) (fun r w => r = nI (cUv av (av 16) (av 18) lg s (s + 1)) ∧ w = sw X ad sc av) 0 0 := by
  refine sx_entI (own := RX6) (nL := 9) (by decide +kernel) rfl rfl (Nat.le_of_ble_eq_true rfl) ?_
  intro G hG hN hret
  show sx_W l X G 0 0 0 [(0, .ref (ad 4)), (1, .ref (ad 3)), (2, .ref (ad 2)), (3, .int (nI s))] [] (sw X ad sc av)
  have hs0 : ¬ s = 0 := by omega
  have hlw := sx_low1 s hs hs0
  have hrl := sx_rs_lt hs
  have hpcr := sx_pc_n0 9 (by decide) (sx_rs s) (show _ < 2 ^ 9 by omega)
  have hpp := sx_p9 hpcr
  have loop_i : ∀ (fuel : Nat), ∀ (i left o least : Nat), (i + left = 2 ^ sx_pc (sx_rs s)) → (o < 512) → (least ≤ 2147483647) → (cLs av (av 16) (av 18) lg s i o least) → left < fuel → sx_W l X G 0 0 28 [(0, .ref (ad 4)), (1, .ref (ad 3)), (2, .ref (ad 2)), (3, .int (nI s)), (4, .int (nI (sx_low s))), (5, .int (nI (sx_rs s))), (6, .int (nI least)), (7, .int (nI o)), (8, .int (nI left))] [] (sw X ad sc av) := by
    intro fuel
    induction fuel with
    | zero => intro i left o least hi ho hll hst hm; exact absurd hm (Nat.not_lt_zero _)
    | succ fuel ih_i =>
      intro i left o least hi ho hll hst hm_i
      refine sx_iload (pc := 28) hG dX6_leastSum_28 8 rfl ?_
      refine sx_if_le (pc := 30) (tgt := 67) (B := left = 0) hG dX6_leastSum_30 (by decide) (sx_le0 (by omega)) (fun c30 => ?_) (fun c30 => ?_)
      · skip
        refine sx_iload (pc := 67) hG dX6_leastSum_67 6 rfl ?_
        exact hret _ _ _ _ dX6_leastSum_69 rfl ⟨congrArg nI (hst.2 (by omega)), rfl⟩
      · skip
        have hi2 : i < 2 ^ sx_pc (sx_rs s) := by omega
        obtain ⟨ho2, hl2⟩ := hst.1 hi2
        subst ho2
        obtain ⟨p1, p2, p3⟩ := sx_lo0 s hs hs0 i hi2
        have hts := sx_sub_le p2
        have hud : av 18 (sx_diff s (sx_low s + sx_pd (sx_rs s) i)) = 2147483647 ∨ av 18 (sx_diff s (sx_low s + sx_pd (sx_rs s) i)) ≤ 10000000 := hU _ (sx_sub_lt (by omega) p2)
        have hbt := hB (sx_low s + sx_pd (sx_rs s) i) (by omega) hts
        have hsw := cSw_le (lg := lg) (U := av 18) hg hbt hud
        refine sx_iload (pc := 33) hG dX6_leastSum_33 6 rfl ?_
        refine sx_aload_n (pc := 35) hG dX6_leastSum_35 rfl 0 rfl ?_
        refine sx_aload_n (pc := 36) hG dX6_leastSum_36 rfl 1 rfl ?_
        refine sx_aload_n (pc := 37) hG dX6_leastSum_37 rfl 2 rfl ?_
        refine sx_iload_n (pc := 38) hG dX6_leastSum_38 rfl 3 rfl ?_
        refine sx_iload (pc := 39) hG dX6_leastSum_39 4 rfl ?_
        refine sx_iload (pc := 41) hG dX6_leastSum_41 7 rfl ?_
        refine sx_ior (pc := 43) (v := (nI (sx_low s + sx_pd (sx_rs s) i))) hG dX6_leastSum_43 (by rw [sx_or (by omega) (by omega), p1]) ?_
        refine sx_callViw (pc := 44) (n9 := 4) (As := [.ref (ad 3), .ref (ad 2), .int (nI s), .int (nI (sx_low s + sx_pd (sx_rs s) i))]) (st := [.int (nI least)]) (b := (ad 4)) (ci := 6) hG (c_X6_sumWith l X ad sc av lg hlg h4 hg s (sx_low s + sx_pd (sx_rs s) i) (by omega) p2 hbt hud) gX6_leastSum_X6_sumWith rfl (by decide +kernel) rfl 4 rfl rfl rfl dX6_leastSum_44 ⟨rfl, rfl⟩ ⟨Nat.le_of_ble_eq_true rfl, Nat.le_of_ble_eq_true rfl⟩ (Nat.le_of_ble_eq_true rfl) ⟨Nat.le_of_ble_eq_true rfl, Nat.le_of_ble_eq_true rfl⟩ (fun r w1 hp => ?_)
        obtain ⟨hr9, hw9⟩ := hp
        have hr9 : r = (nI (cSw av (av 16) (av 18) lg s (sx_low s + sx_pd (sx_rs s) i))) := hr9
        subst hr9
        refine sx_weq hw9 ?_
        refine sx_mmin (pc := 47) (v := (nI (min least (cSw av (av 16) (av 18) lg s (sx_low s + sx_pd (sx_rs s) i))))) hG m_X6_leastSum_j34 dX6_leastSum_47 (Nat.le_of_ble_eq_true rfl) (Nat.le_of_ble_eq_true rfl) (Nat.le_of_ble_eq_true rfl) (Nat.le_of_ble_eq_true rfl) (sx_min (by omega) (by omega)) ?_
        refine sx_istore (pc := 50) (lv2 := [(0, .ref (ad 4)), (1, .ref (ad 3)), (2, .ref (ad 2)), (3, .int (nI s)), (4, .int (nI (sx_low s))), (5, .int (nI (sx_rs s))), (6, .int (nI (min least (cSw av (av 16) (av 18) lg s (sx_low s + sx_pd (sx_rs s) i))))), (7, .int (nI (sx_pd (sx_rs s) i))), (8, .int (nI left))]) hG [1, 2, 3, 4, 5, 6, 0, 7, 8] dX6_leastSum_50 hN (by decide) rfl ?_
        refine sx_iload (pc := 52) hG dX6_leastSum_52 7 rfl ?_
        refine sx_iload (pc := 54) hG dX6_leastSum_54 5 rfl ?_
        refine sx_callSiw (pc := 56) (n9 := 2) (As := [.int (nI (sx_pd (sx_rs s) i)), .int (nI (sx_rs s))]) (st := []) hG (c_X6_nextWithin l X (sw X ad sc av) (sx_pd (sx_rs s) i) (sx_rs s) (by omega) (by omega)) gX6_leastSum_X6_nextWithin rfl (by decide +kernel) rfl dX6_leastSum_56 ⟨rfl, rfl⟩ ⟨Nat.le_of_ble_eq_true rfl, Nat.le_of_ble_eq_true rfl⟩ (Nat.le_of_ble_eq_true rfl) ⟨Nat.le_of_ble_eq_true rfl, Nat.le_of_ble_eq_true rfl⟩ (fun r w1 hp => ?_)
        obtain ⟨hr9, hw9⟩ := hp
        have hr9 : r = (nI (((sx_pd (sx_rs s) i + 512 - sx_rs s) % 512) &&& sx_rs s)) := hr9
        subst hr9
        refine sx_weq hw9 ?_
        refine sx_istore (pc := 59) (lv2 := [(0, .ref (ad 4)), (1, .ref (ad 3)), (2, .ref (ad 2)), (3, .int (nI s)), (4, .int (nI (sx_low s))), (5, .int (nI (sx_rs s))), (6, .int (nI (min least (cSw av (av 16) (av 18) lg s (sx_low s + sx_pd (sx_rs s) i))))), (7, .int (nI (((sx_pd (sx_rs s) i + 512 - sx_rs s) % 512) &&& sx_rs s))), (8, .int (nI left))]) hG [1, 2, 3, 4, 5, 6, 7, 0, 8] dX6_leastSum_59 hN (by decide) rfl ?_
        refine sx_iinc (pc := 61) (v := (nI (left - 1))) (lv2 := [(0, .ref (ad 4)), (1, .ref (ad 3)), (2, .ref (ad 2)), (3, .int (nI s)), (4, .int (nI (sx_low s))), (5, .int (nI (sx_rs s))), (6, .int (nI (min least (cSw av (av 16) (av 18) lg s (sx_low s + sx_pd (sx_rs s) i))))), (7, .int (nI (((sx_pd (sx_rs s) i + 512 - sx_rs s) % 512) &&& sx_rs s))), (8, .int (nI (left - 1)))]) hG [1, 2, 3, 4, 5, 6, 7, 8, 0] dX6_leastSum_61 8 rfl (sx_dec (by omega)) hN (by decide) rfl ?_
        refine sx_goto (pc := 64) (tgt := 28) hG dX6_leastSum_64 (by decide) ?_
        refine ih_i (i + 1) (left - 1) _ _ (by omega) (Nat.lt_of_le_of_lt Nat.and_le_right hrl) (Nat.le_trans (Nat.min_le_left _ _) hll) (cLs_next hs hs0 hi2 hl2) (by omega)
  refine sx_iload_n (pc := 0) hG dX6_leastSum_0 rfl 3 rfl ?_
  refine sx_iload_n (pc := 1) hG dX6_leastSum_1 rfl 3 rfl ?_
  refine sx_ineg (pc := 2) hG dX6_leastSum_2 rfl ?_
  refine sx_iand (pc := 3) (v := (nI (sx_low s))) hG dX6_leastSum_3 (sx_low2 s (by omega)) ?_
  refine sx_istore (pc := 4) (lv2 := [(0, .ref (ad 4)), (1, .ref (ad 3)), (2, .ref (ad 2)), (3, .int (nI s)), (4, .int (nI (sx_low s)))]) hG [1, 2, 3, 4, 0] dX6_leastSum_4 hN (by decide) rfl ?_
  refine sx_iload_n (pc := 6) hG dX6_leastSum_6 rfl 3 rfl ?_
  refine sx_iload (pc := 7) hG dX6_leastSum_7 4 rfl ?_
  refine sx_ixor (pc := 9) (v := (nI (sx_rs s))) hG dX6_leastSum_9 (sx_xor (by omega) (by omega)) ?_
  refine sx_istore (pc := 10) (lv2 := [(0, .ref (ad 4)), (1, .ref (ad 3)), (2, .ref (ad 2)), (3, .int (nI s)), (4, .int (nI (sx_low s))), (5, .int (nI (sx_rs s)))]) hG [1, 2, 3, 4, 5, 0] dX6_leastSum_10 hN (by decide) rfl ?_
  refine sx_ldc (pc := 12) (v2 := nI 2147483647) hG m_X6_leastSum_c25 dX6_leastSum_12 (by decide +kernel) ?_
  refine sx_istore (pc := 14) (lv2 := [(0, .ref (ad 4)), (1, .ref (ad 3)), (2, .ref (ad 2)), (3, .int (nI s)), (4, .int (nI (sx_low s))), (5, .int (nI (sx_rs s))), (6, .int (nI 2147483647))]) hG [1, 2, 3, 4, 5, 6, 0] dX6_leastSum_14 hN (by decide) rfl ?_
  refine sx_iconst (pc := 16) (v := nI 0) hG dX6_leastSum_16 (by decide +kernel) ?_
  refine sx_istore (pc := 17) (lv2 := [(0, .ref (ad 4)), (1, .ref (ad 3)), (2, .ref (ad 2)), (3, .int (nI s)), (4, .int (nI (sx_low s))), (5, .int (nI (sx_rs s))), (6, .int (nI 2147483647)), (7, .int (nI 0))]) hG [1, 2, 3, 4, 5, 6, 7, 0] dX6_leastSum_17 hN (by decide) rfl ?_
  refine sx_iconst (pc := 19) (v := nI 1) hG dX6_leastSum_19 (by decide +kernel) ?_
  refine sx_iload (pc := 20) hG dX6_leastSum_20 5 rfl ?_
  refine sx_callSiw (pc := 22) (n9 := 1) (As := [.int (nI (sx_rs s))]) (st := [.int (nI 1)]) hG (c_J6_bitCount_0f7a4 l X (sw X ad sc av) (sx_rs s) (by omega)) gX6_leastSum_J6_bitCount_0f7a4 rfl (by decide +kernel) rfl dX6_leastSum_22 ⟨rfl, rfl⟩ ⟨Nat.le_of_ble_eq_true rfl, Nat.le_of_ble_eq_true rfl⟩ (Nat.le_of_ble_eq_true rfl) ⟨Nat.le_of_ble_eq_true rfl, Nat.le_of_ble_eq_true rfl⟩ (fun r w1 hp => ?_)
  obtain ⟨hr9, hw9⟩ := hp
  have hr9 : r = (nI (sx_pc (sx_rs s))) := hr9
  subst hr9
  refine sx_weq hw9 ?_
  refine sx_ishl (pc := 25) (v := (nI (2 ^ (sx_pc (sx_rs s))))) hG dX6_leastSum_25 (sx_one (by omega)) ?_
  refine sx_istore (pc := 26) (lv2 := [(0, .ref (ad 4)), (1, .ref (ad 3)), (2, .ref (ad 2)), (3, .int (nI s)), (4, .int (nI (sx_low s))), (5, .int (nI (sx_rs s))), (6, .int (nI 2147483647)), (7, .int (nI 0)), (8, .int (nI (2 ^ (sx_pc (sx_rs s)))))]) hG [1, 2, 3, 4, 5, 6, 7, 8, 0] dX6_leastSum_26 hN (by decide) rfl ?_
  refine loop_i _ 0 (2 ^ sx_pc (sx_rs s)) 0 2147483647 (Nat.zero_add _) (by decide) (Nat.le_refl _) ⟨fun h => ⟨(sx_pd_end0 _ hrl).1.symm, by rw [(sx_pd_end0 _ hrl).1]; exact (sx_mn_init (i0 := sx_MX) (p := cOk s) (f := cSw av (av 16) (av 18) lg s) (fun u hu => cOk_low hs hs0 (by omega))).symm⟩, fun h => absurd h (by have := Nat.one_le_two_pow (n := sx_pc (sx_rs s)); omega)⟩ (Nat.lt_succ_self _)

theorem i_X6_firstSet_6 : ∀ w ∈ u_ws RX6 TX6 2, w ∈ wsX6_firstSet := by decide +kernel
theorem m_X6_firstSet_f11 : Cond.fieldLink RX6 11 (TX6 0).1 (TX6 0).2.1 (TX6 0).2.2.1 ∈ wsX6_firstSet := by decide +kernel
set_option maxHeartbeats 4000000 in
set_option maxRecDepth 100000 in
theorem c_X6_firstSet (l : Launch) (X : sx_X) (ad : Nat → Nat) (sc : Nat → Int32) (av : Nat → Nat → Nat) (lg : Nat) (hlg : lg ≤ 9999) (h4 : sc 4 = nI lg) (hg : sG av) (s : Nat) (hs1 : 1 ≤ s) (hs : s < 512) (hB : ∀ j, 1 ≤ j → j ≤ s → av 16 j ≤ 5000000) (hU : ∀ j, j < s → av 18 j = 2147483647 ∨ av 18 j ≤ 10000000) (hUs : av 18 s = cUv av (av 16) (av 18) lg s (s + 1)) (hU9 : av 18 s < 2147483647) : sx_Mi l yX6_firstSet wsX6_firstSet { frames := 3, cells := 0, slots := 0, locals := 67 } X [.ref (ad 4), .ref (ad 3), .ref (ad 2), .int (nI s)] (sw X ad sc av) (fun r w => ∃ t, r = nI t ∧ w = sw X ad sc av ∧ sx_fi (cOk s) (cSw av (av 16) (av 18) lg s) t (av 18 s)) 0 0 := by
  refine sx_entI (own := RX6) (nL := 8) (by decide +kernel) rfl rfl (Nat.le_of_ble_eq_true rfl) ?_
  intro G hG hN hret
  show sx_W l X G 0 0 0 [(0, .ref (ad 4)), (1, .ref (ad 3)), (2, .ref (ad 2)), (3, .int (nI s))] [] (sw X ad sc av)
  have hs0 : ¬ s = 0 := by omega
  have hlw := sx_low1 s hs hs0
  have hrl := sx_rs_lt hs
  have hpcr := sx_pc_n0 9 (by decide) (sx_rs s) (show _ < 2 ^ 9 by omega)
  have hpp := sx_p9 hpcr
  have loop_i : ∀ (fuel : Nat), ∀ (i left o : Nat), (i + left = 2 ^ sx_pc (sx_rs s)) → (o < 512) → (cNf av (av 16) (av 18) lg s i o) → left < fuel → sx_W l X G 0 0 24 [(0, .ref (ad 4)), (1, .ref (ad 3)), (2, .ref (ad 2)), (3, .int (nI s)), (4, .int (nI (sx_low s))), (5, .int (nI (sx_rs s))), (6, .int (nI o)), (7, .int (nI left))] [] (sw X ad sc av) := by
    intro fuel
    induction fuel with
    | zero => intro i left o hi ho hst hm; exact absurd hm (Nat.not_lt_zero _)
    | succ fuel ih_i =>
      intro i left o hi ho hst hm_i
      refine sx_iload (pc := 24) hG dX6_firstSet_24 7 rfl ?_
      refine sx_if_le (pc := 26) (tgt := 71) (B := left = 0) hG dX6_firstSet_26 (by decide) (sx_le0 (by omega)) (fun c26 => ?_) (fun c26 => ?_)
      · skip
        (obtain ⟨t, t1, t2, t3⟩ := sx_mn_at (show sx_mn sx_MX (cOk s) (cSw av (av 16) (av 18) lg s) (s + 1) < sx_MX by have e := hUs; unfold cUv at e; rw [← e]; exact hU9); exact absurd (t3.trans hUs.symm) (hst.2 (by omega) t t1 t2))
      · skip
        have hi2 : i < 2 ^ sx_pc (sx_rs s) := by omega
        obtain ⟨ho2, hl2⟩ := hst.1 hi2
        subst ho2
        obtain ⟨p1, p2, p3⟩ := sx_lo0 s hs hs0 i hi2
        have hts := sx_sub_le p2
        have hud : av 18 (sx_diff s (sx_low s + sx_pd (sx_rs s) i)) = 2147483647 ∨ av 18 (sx_diff s (sx_low s + sx_pd (sx_rs s) i)) ≤ 10000000 := hU _ (sx_sub_lt (by omega) p2)
        have hbt := hB (sx_low s + sx_pd (sx_rs s) i) (by omega) hts
        have hsw := cSw_le (lg := lg) (U := av 18) hg hbt hud
        refine sx_aload_n (pc := 29) hG dX6_firstSet_29 rfl 0 rfl ?_
        refine sx_aload_n (pc := 30) hG dX6_firstSet_30 rfl 1 rfl ?_
        refine sx_aload_n (pc := 31) hG dX6_firstSet_31 rfl 2 rfl ?_
        refine sx_iload_n (pc := 32) hG dX6_firstSet_32 rfl 3 rfl ?_
        refine sx_iload (pc := 33) hG dX6_firstSet_33 4 rfl ?_
        refine sx_iload (pc := 35) hG dX6_firstSet_35 6 rfl ?_
        refine sx_ior (pc := 37) (v := (nI (sx_low s + sx_pd (sx_rs s) i))) hG dX6_firstSet_37 (by rw [sx_or (by omega) (by omega), p1]) ?_
        refine sx_callViw (pc := 38) (n9 := 4) (As := [.ref (ad 3), .ref (ad 2), .int (nI s), .int (nI (sx_low s + sx_pd (sx_rs s) i))]) (st := []) (b := (ad 4)) (ci := 6) hG (c_X6_sumWith l X ad sc av lg hlg h4 hg s (sx_low s + sx_pd (sx_rs s) i) (by omega) p2 hbt hud) gX6_firstSet_X6_sumWith rfl (by decide +kernel) rfl 4 rfl rfl rfl dX6_firstSet_38 ⟨rfl, rfl⟩ ⟨Nat.le_of_ble_eq_true rfl, Nat.le_of_ble_eq_true rfl⟩ (Nat.le_of_ble_eq_true rfl) ⟨Nat.le_of_ble_eq_true rfl, Nat.le_of_ble_eq_true rfl⟩ (fun r w1 hp => ?_)
        obtain ⟨hr9, hw9⟩ := hp
        have hr9 : r = (nI (cSw av (av 16) (av 18) lg s (sx_low s + sx_pd (sx_rs s) i))) := hr9
        subst hr9
        refine sx_weq hw9 ?_
        refine sx_aload_n (pc := 41) hG dX6_firstSet_41 rfl 0 rfl ?_
        refine sx_get (pc := 42) (v2 := .ref (ad 18)) (ci := 6) hG i_X6_firstSet_6 0 m_X6_firstSet_f11 dX6_firstSet_42 rfl (by decide) 4 rfl rfl rfl ?_
        refine sx_iload_n (pc := 45) hG dX6_firstSet_45 rfl 3 rfl ?_
        refine sx_iald (pc := 46) (v := nI ((av 18) s)) hG 18 dX6_firstSet_46 rfl (by decide) (by omega) rfl ?_
        refine sx_icmp_ne (pc := 47) (tgt := 56) (B := (cSw av (av 16) (av 18) lg s (sx_low s + sx_pd (sx_rs s) i)) = ((av 18) s)) hG dX6_firstSet_47 (by decide) (nI_eq (by omega) (by omega)) (fun c47 => ?_) (fun c47 => ?_)
        · skip
          refine sx_iload (pc := 56) hG dX6_firstSet_56 6 rfl ?_
          refine sx_iload (pc := 58) hG dX6_firstSet_58 5 rfl ?_
          refine sx_callSiw (pc := 60) (n9 := 2) (As := [.int (nI (sx_pd (sx_rs s) i)), .int (nI (sx_rs s))]) (st := []) hG (c_X6_nextWithin l X (sw X ad sc av) (sx_pd (sx_rs s) i) (sx_rs s) (by omega) (by omega)) gX6_firstSet_X6_nextWithin rfl (by decide +kernel) rfl dX6_firstSet_60 ⟨rfl, rfl⟩ ⟨Nat.le_of_ble_eq_true rfl, Nat.le_of_ble_eq_true rfl⟩ (Nat.le_of_ble_eq_true rfl) ⟨Nat.le_of_ble_eq_true rfl, Nat.le_of_ble_eq_true rfl⟩ (fun r w1 hp => ?_)
          obtain ⟨hr9, hw9⟩ := hp
          have hr9 : r = (nI (((sx_pd (sx_rs s) i + 512 - sx_rs s) % 512) &&& sx_rs s)) := hr9
          subst hr9
          refine sx_weq hw9 ?_
          refine sx_istore (pc := 63) (lv2 := [(0, .ref (ad 4)), (1, .ref (ad 3)), (2, .ref (ad 2)), (3, .int (nI s)), (4, .int (nI (sx_low s))), (5, .int (nI (sx_rs s))), (6, .int (nI (((sx_pd (sx_rs s) i + 512 - sx_rs s) % 512) &&& sx_rs s))), (7, .int (nI left))]) hG [1, 2, 3, 4, 5, 6, 0, 7] dX6_firstSet_63 hN (by decide) rfl ?_
          refine sx_iinc (pc := 65) (v := (nI (left - 1))) (lv2 := [(0, .ref (ad 4)), (1, .ref (ad 3)), (2, .ref (ad 2)), (3, .int (nI s)), (4, .int (nI (sx_low s))), (5, .int (nI (sx_rs s))), (6, .int (nI (((sx_pd (sx_rs s) i + 512 - sx_rs s) % 512) &&& sx_rs s))), (7, .int (nI (left - 1)))]) hG [1, 2, 3, 4, 5, 6, 7, 0] dX6_firstSet_65 7 rfl (sx_dec (by omega)) hN (by decide) rfl ?_
          refine sx_goto (pc := 68) (tgt := 24) hG dX6_firstSet_68 (by decide) ?_
          refine ih_i (i + 1) (left - 1) _ (by omega) (Nat.lt_of_le_of_lt Nat.and_le_right hrl) (cNf_next hs hs0 hi2 hl2 c47) (by omega)
        · skip
          refine sx_iload (pc := 50) hG dX6_firstSet_50 4 rfl ?_
          refine sx_iload (pc := 52) hG dX6_firstSet_52 6 rfl ?_
          refine sx_ior (pc := 54) (v := (nI (sx_low s + sx_pd (sx_rs s) i))) hG dX6_firstSet_54 (by rw [sx_or (by omega) (by omega), p1]) ?_
          exact hret _ _ _ _ dX6_firstSet_55 rfl ⟨sx_low s + sx_pd (sx_rs s) i, rfl, rfl, cOk_1 hs hs0 hi2, c47, fun u hu hp => Nat.lt_of_le_of_ne (by rw [hUs]; exact sx_mn_lb (by omega) hp) (fun q => hl2 u hu hp q.symm)⟩
  refine sx_iload_n (pc := 0) hG dX6_firstSet_0 rfl 3 rfl ?_
  refine sx_iload_n (pc := 1) hG dX6_firstSet_1 rfl 3 rfl ?_
  refine sx_ineg (pc := 2) hG dX6_firstSet_2 rfl ?_
  refine sx_iand (pc := 3) (v := (nI (sx_low s))) hG dX6_firstSet_3 (sx_low2 s (by omega)) ?_
  refine sx_istore (pc := 4) (lv2 := [(0, .ref (ad 4)), (1, .ref (ad 3)), (2, .ref (ad 2)), (3, .int (nI s)), (4, .int (nI (sx_low s)))]) hG [1, 2, 3, 4, 0] dX6_firstSet_4 hN (by decide) rfl ?_
  refine sx_iload_n (pc := 6) hG dX6_firstSet_6 rfl 3 rfl ?_
  refine sx_iload (pc := 7) hG dX6_firstSet_7 4 rfl ?_
  refine sx_ixor (pc := 9) (v := (nI (sx_rs s))) hG dX6_firstSet_9 (sx_xor (by omega) (by omega)) ?_
  refine sx_istore (pc := 10) (lv2 := [(0, .ref (ad 4)), (1, .ref (ad 3)), (2, .ref (ad 2)), (3, .int (nI s)), (4, .int (nI (sx_low s))), (5, .int (nI (sx_rs s)))]) hG [1, 2, 3, 4, 5, 0] dX6_firstSet_10 hN (by decide) rfl ?_
  refine sx_iconst (pc := 12) (v := nI 0) hG dX6_firstSet_12 (by decide +kernel) ?_
  refine sx_istore (pc := 13) (lv2 := [(0, .ref (ad 4)), (1, .ref (ad 3)), (2, .ref (ad 2)), (3, .int (nI s)), (4, .int (nI (sx_low s))), (5, .int (nI (sx_rs s))), (6, .int (nI 0))]) hG [1, 2, 3, 4, 5, 6, 0] dX6_firstSet_13 hN (by decide) rfl ?_
  refine sx_iconst (pc := 15) (v := nI 1) hG dX6_firstSet_15 (by decide +kernel) ?_
  refine sx_iload (pc := 16) hG dX6_firstSet_16 5 rfl ?_
  refine sx_callSiw (pc := 18) (n9 := 1) (As := [.int (nI (sx_rs s))]) (st := [.int (nI 1)]) hG (c_J6_bitCount_0f7a4 l X (sw X ad sc av) (sx_rs s) (by omega)) gX6_firstSet_J6_bitCount_0f7a4 rfl (by decide +kernel) rfl dX6_firstSet_18 ⟨rfl, rfl⟩ ⟨Nat.le_of_ble_eq_true rfl, Nat.le_of_ble_eq_true rfl⟩ (Nat.le_of_ble_eq_true rfl) ⟨Nat.le_of_ble_eq_true rfl, Nat.le_of_ble_eq_true rfl⟩ (fun r w1 hp => ?_)
  obtain ⟨hr9, hw9⟩ := hp
  have hr9 : r = (nI (sx_pc (sx_rs s))) := hr9
  subst hr9
  refine sx_weq hw9 ?_
  refine sx_ishl (pc := 21) (v := (nI (2 ^ (sx_pc (sx_rs s))))) hG dX6_firstSet_21 (sx_one (by omega)) ?_
  refine sx_istore (pc := 22) (lv2 := [(0, .ref (ad 4)), (1, .ref (ad 3)), (2, .ref (ad 2)), (3, .int (nI s)), (4, .int (nI (sx_low s))), (5, .int (nI (sx_rs s))), (6, .int (nI 0)), (7, .int (nI (2 ^ (sx_pc (sx_rs s)))))]) hG [1, 2, 3, 4, 5, 6, 7, 0] dX6_firstSet_22 hN (by decide) rfl ?_
  refine loop_i _ 0 (2 ^ sx_pc (sx_rs s)) 0 (Nat.zero_add _) (by decide) ⟨fun h => ⟨(sx_pd_end0 _ hrl).1.symm, fun u hu hp => absurd (cOk_low hs hs0 (by rw [(sx_pd_end0 _ hrl).1] at hu; omega)) hp⟩, fun h => absurd h (by have := Nat.one_le_two_pow (n := sx_pc (sx_rs s)); omega)⟩ (Nat.lt_succ_self _)

theorem i_X6_search_6 : ∀ w ∈ u_ws RX6 TX6 2, w ∈ wsX6_search := by decide +kernel
theorem m_X6_search_f11 : Cond.fieldLink RX6 11 (TX6 0).1 (TX6 0).2.1 (TX6 0).2.2.1 ∈ wsX6_search := by decide +kernel
theorem m_X6_search_c25 : Cond.constant RX6 25 (2147483647) ∈ wsX6_search := by decide +kernel
theorem m_X6_search_f17 : Cond.fieldLink RX6 17 (TX6 1).1 (TX6 1).2.1 (TX6 1).2.2.1 ∈ wsX6_search := by decide +kernel
set_option maxHeartbeats 4000000 in
set_option maxRecDepth 100000 in
theorem c_X6_search (l : Launch) (X : sx_X) (ad : Nat → Nat) (sc : Nat → Int32) (av : Nat → Nat → Nat) (n lg : Nat) (hn : n ≤ 9) (hlg : lg ≤ 9999) (hg : sG av) (hB : ∀ j, 1 ≤ j → j < 2 ^ n → av 16 j ≤ 5000000) : sx_Mi l yX6_search wsX6_search { frames := 4, cells := 0, slots := 0, locals := 95 } X [.ref (ad 4), .ref (ad 3), .ref (ad 2), .int (nI (2 ^ n - 1)), .int (nI lg)] (sw X ad sc av) (fun r w => ∃ U : Nat → Nat, (r = if U (2 ^ n - 1) = 2147483647 then nI 0 else nI 1) ∧ w = sw X ad (va_up sc 4 (nI lg)) (va_up av 18 U) ∧ cUT av (av 16) U lg (2 ^ n)) 0 0 := by
  refine sx_entI (own := RX6) (nL := 6) (by decide +kernel) rfl rfl (Nat.le_of_ble_eq_true rfl) ?_
  intro G hG hN hret
  show sx_W l X G 0 0 0 [(0, .ref (ad 4)), (1, .ref (ad 3)), (2, .ref (ad 2)), (3, .int (nI (2 ^ n - 1))), (4, .int (nI lg))] [] (sw X ad sc av)
  have hp9 := sx_p9 hn
  have hp1 : 1 ≤ 2 ^ n := Nat.one_le_two_pow
  have loop_s : ∀ (fuel : Nat), ∀ (s : Nat) (U : Nat → Nat), (1 ≤ s) → (s ≤ 2 ^ n) → (cUT av (av 16) U lg s) → 2 ^ n - s < fuel → sx_W l X G 0 0 16 [(0, .ref (ad 4)), (1, .ref (ad 3)), (2, .ref (ad 2)), (3, .int (nI (2 ^ n - 1))), (4, .int (nI lg)), (5, .int (nI s))] [] (sw X ad (va_up sc 4 (nI lg)) (va_up av 18 U)) := by
    intro fuel
    induction fuel with
    | zero => intro s U hs1 hs hT hm; exact absurd hm (Nat.not_lt_zero _)
    | succ fuel ih_s =>
      intro s U hs1 hs hT hm_s
      refine sx_iload (pc := 16) hG dX6_search_16 5 rfl ?_
      refine sx_iload_n (pc := 18) hG dX6_search_18 rfl 3 rfl ?_
      refine sx_icmp_gt (pc := 19) (tgt := 43) (B := (2 ^ n - 1) < s) hG dX6_search_19 (by decide) (nI_ltI (by omega) (by omega)) (fun c19 => ?_) (fun c19 => ?_)
      · skip
        have hs9 : s = 2 ^ n := by omega
        have hbd := cUT_bd (by omega) hT (show 2 ^ n - 1 < s by omega)
        refine sx_aload_n (pc := 43) hG dX6_search_43 rfl 0 rfl ?_
        refine sx_get (pc := 44) (v2 := .ref (ad 18)) (ci := 6) hG i_X6_search_6 0 m_X6_search_f11 dX6_search_44 rfl (by decide) 4 rfl rfl rfl ?_
        refine sx_iload_n (pc := 47) hG dX6_search_47 rfl 3 rfl ?_
        refine sx_iald (pc := 48) (v := nI (U (2 ^ n - 1))) hG 18 dX6_search_48 rfl (by decide) (by omega) rfl ?_
        refine sx_ldc (pc := 49) (v2 := nI 2147483647) hG m_X6_search_c25 dX6_search_49 (by decide +kernel) ?_
        refine sx_icmp_eq (pc := 51) (tgt := 58) (B := (U (2 ^ n - 1)) = 2147483647) hG dX6_search_51 (by decide) (nI_eq (by omega) (by omega)) (fun c51 => ?_) (fun c51 => ?_)
        · skip
          refine sx_iconst (pc := 58) (v := nI 0) hG dX6_search_58 (by decide +kernel) ?_
          exact hret _ _ _ _ dX6_search_59 (by decide +kernel) ⟨U, (if_pos c51).symm, rfl, by rw [← hs9]; exact hT⟩
        · skip
          refine sx_iconst (pc := 54) (v := nI 1) hG dX6_search_54 (by decide +kernel) ?_
          refine sx_goto (pc := 55) (tgt := 59) hG dX6_search_55 (by decide) ?_
          exact hret _ _ _ _ dX6_search_59 (by decide +kernel) ⟨U, (if_neg c51).symm, rfl, by rw [← hs9]; exact hT⟩
      · skip
        refine sx_aload_n (pc := 22) hG dX6_search_22 rfl 0 rfl ?_
        refine sx_get (pc := 23) (v2 := .ref (ad 18)) (ci := 6) hG i_X6_search_6 0 m_X6_search_f11 dX6_search_23 rfl (by decide) 4 rfl rfl rfl ?_
        refine sx_iload (pc := 26) hG dX6_search_26 5 rfl ?_
        refine sx_aload_n (pc := 28) hG dX6_search_28 rfl 0 rfl ?_
        refine sx_aload_n (pc := 29) hG dX6_search_29 rfl 1 rfl ?_
        refine sx_aload_n (pc := 30) hG dX6_search_30 rfl 2 rfl ?_
        refine sx_iload (pc := 31) hG dX6_search_31 5 rfl ?_
        refine sx_callViw (pc := 33) (n9 := 3) (As := [.ref (ad 3), .ref (ad 2), .int (nI s)]) (st := [.int (nI s), .ref (ad 18)]) (b := (ad 4)) (ci := 6) hG (c_X6_leastSum l X ad (va_up sc 4 (nI lg)) (va_up av 18 U) lg hlg rfl hg s hs1 (by omega) (fun j h1 h2 => hB j h1 (by omega)) (fun j hj => cUT_bd (by omega) hT hj)) gX6_search_X6_leastSum rfl (by decide +kernel) rfl 4 rfl rfl rfl dX6_search_33 ⟨rfl, rfl⟩ ⟨Nat.le_of_ble_eq_true rfl, Nat.le_of_ble_eq_true rfl⟩ (Nat.le_of_ble_eq_true rfl) ⟨Nat.le_of_ble_eq_true rfl, Nat.le_of_ble_eq_true rfl⟩ (fun r w1 hp => ?_)
        obtain ⟨hr9, hw9⟩ := hp
        have hr9 : r = (nI (cUv av (av 16) U lg s (s + 1))) := hr9
        subst hr9
        refine sx_weq hw9 ?_
        refine sx_iastN (pc := 36) (w2 := (sw X ad (va_up sc 4 (nI lg)) (va_up av 18 (va_up U s (cUv av (av 16) U lg s (s + 1)))))) hG 18 dX6_search_36 rfl (by decide) (by omega) rfl ?_
        refine sx_iinc (pc := 37) (v := (nI (s + 1))) (lv2 := [(0, .ref (ad 4)), (1, .ref (ad 3)), (2, .ref (ad 2)), (3, .int (nI (2 ^ n - 1))), (4, .int (nI lg)), (5, .int (nI (s + 1)))]) hG [1, 2, 3, 4, 5, 0] dX6_search_37 5 rfl (sx_inc s) hN (by decide) rfl ?_
        refine sx_goto (pc := 40) (tgt := 16) hG dX6_search_40 (by decide) ?_
        refine ih_s (s + 1) _ (by omega) (by omega) (cUT_next hg (by omega) hs1 (fun j h1 h2 => hB j h1 (by omega)) hT) (by omega)
  refine sx_aload_n (pc := 0) hG dX6_search_0 rfl 0 rfl ?_
  refine sx_iload (pc := 1) hG dX6_search_1 4 rfl ?_
  refine sx_put (pc := 3) (v := .int (nI lg)) (ci := 6) (w2 := (sw X ad (va_up sc 4 (nI lg)) av)) hG i_X6_search_6 tyX6 tyX6_ok nmX6 1 m_X6_search_f17 dX6_search_3 rfl (by decide) 4 rfl rfl rfl rfl (Nat.le_of_ble_eq_true rfl) rfl ?_
  refine sx_aload_n (pc := 6) hG dX6_search_6 rfl 0 rfl ?_
  refine sx_get (pc := 7) (v2 := .ref (ad 18)) (ci := 6) hG i_X6_search_6 0 m_X6_search_f11 dX6_search_7 rfl (by decide) 4 rfl rfl rfl ?_
  refine sx_iconst (pc := 10) (v := nI 0) hG dX6_search_10 (by decide +kernel) ?_
  refine sx_iconst (pc := 11) (v := nI 0) hG dX6_search_11 (by decide +kernel) ?_
  refine sx_iastN (pc := 12) (w2 := (sw X ad (va_up sc 4 (nI lg)) (va_up av 18 (va_up (av 18) 0 0)))) hG 18 dX6_search_12 rfl (by decide) (by omega) rfl ?_
  refine sx_iconst (pc := 13) (v := nI 1) hG dX6_search_13 (by decide +kernel) ?_
  refine sx_istore (pc := 14) (lv2 := [(0, .ref (ad 4)), (1, .ref (ad 3)), (2, .ref (ad 2)), (3, .int (nI (2 ^ n - 1))), (4, .int (nI lg)), (5, .int (nI 1))]) hG [1, 2, 3, 4, 5, 0] dX6_search_14 hN (by decide) rfl ?_
  refine loop_s _ 1 _ (Nat.le_refl _) hp1 ⟨rfl, fun q h1 h2 => absurd h2 (by omega)⟩ (Nat.lt_succ_self _)
