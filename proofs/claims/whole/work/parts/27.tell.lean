/-! THE CLASS: tell; Boxes -/
def cSpl (av : Nat → Nat → Nat) (B U : Nat → Nat) (lg all : Nat) (S : Nat → Nat) : Nat → Nat → Prop
  | 0, left => left = all
  | k + 1, left => ∃ l0, cSpl av B U lg all S k l0 ∧ ¬ l0 = 0 ∧ sx_fi (cOk l0) (cSw av B U lg l0) (S k) (U l0) ∧ left = sx_diff l0 (S k)
theorem cSpl_up {av : Nat → Nat → Nat} {B U : Nat → Nat} {lg all : Nat} {S : Nat → Nat} {i v : Nat} : ∀ {k left : Nat}, k ≤ i → cSpl av B U lg all S k left → cSpl av B U lg all (va_up S i v) k left := by
  intro k
  induction k with
  | zero => intro left _ h; exact h
  | succ k ih =>
    intro left hk h
    obtain ⟨r0, h1, h2, h3, h4⟩ := h
    have e : va_up S i v k = S k := by unfold va_up; rw [if_neg (by omega)]
    exact ⟨r0, ih (by omega) h1, h2, by rw [e]; exact h3, by rw [e]; exact h4⟩
theorem cSw_ne {av : Nat → Nat → Nat} {B U : Nat → Nat} {lg s t v : Nat} (h : cSw av B U lg s t = v) (hv : v < 2147483647) : ¬ U (sx_diff s t) = 2147483647 := by
  intro q
  unfold cSw sx_MX at h
  rw [if_pos (Or.inl q)] at h
  omega
def bPut (f v u : Nat) : Nat := if f % 131072 + v ≤ u then f + v else (f / 131072 + 1) * 131072 + v
theorem bPut_le (f v u : Nat) : bPut f v u ≤ f + 131072 + v := by unfold bPut; split <;> omega
def bLv (Vo Fi : Nat → Nat) (u s k : Nat) : Nat := sx_mn sx_MX (fun k => sx_bit s k) (fun k => bPut (Fi (sx_diff s (2 ^ k))) (Vo k) u) k
def bT (Vo Fi : Nat → Nat) (m u K : Nat) : Prop := Fi 0 = u ∧ ∀ s, 1 ≤ s → s < K → Fi s = bLv Vo Fi u s m ∧ Fi s ≤ 99999 + 231071 * sx_pc s
theorem bT_bd {Vo Fi : Nat → Nat} {m u K j : Nat} (hu : u ≤ 99999) (hK : K ≤ 512) (h : bT Vo Fi m u K) (hj : j < K) : Fi j ≤ 99999 + 231071 * sx_pc j := by
  by_cases e : j = 0
  · subst e; rw [h.1]; omega
  · exact (h.2 j (by omega) hj).2
theorem bLv_congr {Vo Fi Fi2 : Nat → Nat} {u s k : Nat} (hs : s < 512) (hk : k ≤ 9) (h : ∀ j, j < s → Fi2 j = Fi j) : bLv Vo Fi2 u s k = bLv Vo Fi u s k :=
  sx_mn_congr fun t ht hp => by
    have := sx_dlt (s := s) (k := t) hs (by omega) hp
    show bPut (Fi2 _) _ _ = bPut (Fi _) _ _
    rw [h _ this]
theorem bT_next {Vo Fi : Nat → Nat} {m u s : Nat} (hm : m ≤ 9) (hu : u ≤ 99999) (hV : ∀ j, j < m → Vo j ≤ u) (h1 : 1 ≤ s) (hs : s < 2 ^ m) (hT : bT Vo Fi m u s) : bT Vo (va_up Fi s (bLv Vo Fi u s m)) m u (s + 1) := by
  have hp9 := sx_p9 hm
  have hlt : ∀ j, j < s → va_up Fi s (bLv Vo Fi u s m) j = Fi j := fun j hj => by unfold va_up; rw [if_neg (by omega)]
  refine ⟨by rw [hlt 0 (by omega)]; exact hT.1, fun q q1 q2 => ?_⟩
  by_cases e : q = s
  · subst e
    rw [bLv_congr (by omega) hm hlt, show va_up Fi q (bLv Vo Fi u q m) q = bLv Vo Fi u q m from if_pos rfl]
    refine ⟨rfl, ?_⟩
    have hb : ∃ i, i < m ∧ ¬ sx_bit q i = 0 := by
      rcases Classical.em (∃ i, i < m ∧ ¬ sx_bit q i = 0) with z | z
      · exact z
      · exfalso
        have h2 : ∀ i, i < 9 → sx_bit q i = 0 := fun i hi9 => by
          rcases Nat.eq_zero_or_pos (sx_bit q i) with h3 | h3
          · exact h3
          · exact absurd ⟨i, sx_bitn0 m (by omega) q hs i hi9 (by omega), by omega⟩ z
        have h4 : q = 0 := sx_pc_z0 q (by omega) (by unfold sx_pc; simp only [sx_sum]; rw [h2 0, h2 1, h2 2, h2 3, h2 4, h2 5, h2 6, h2 7, h2 8] <;> decide)
        omega
    obtain ⟨i, hi, hbi⟩ := hb
    have h3 : bLv Vo Fi u q m ≤ bPut (Fi (sx_diff q (2 ^ i))) (Vo i) u := sx_mn_lb hi hbi
    have h4 := bPut_le (Fi (sx_diff q (2 ^ i))) (Vo i) u
    have h5 := bT_bd hu (by omega) hT (sx_dlt (s := q) (k := i) (by omega) (by omega) hbi)
    have h6 := sx_pc_d0 q (by omega) i (by omega) hbi
    have h7 := hV i hi
    omega
  · rw [bLv_congr (by omega) hm (fun j hj => hlt j (by omega)), hlt q (by omega)]
    exact hT.2 q q1 (by omega)
theorem m_X6_tell_l48 : Cond.methodLinkNest RX6 48 yX7_lengthOf "TubeShop" ∈ sx_nest := by decide +kernel
theorem m_X6_tell_s48 : Cond.static yX7_lengthOf ∈ wsX6_tell ∧ Cond.initialized yX7_lengthOf.cls ∈ wsX6_tell := by decide +kernel
set_option maxHeartbeats 4000000 in
set_option maxRecDepth 100000 in
theorem c_X6_tell (l : Launch) (X : sx_X) (ad : Nat → Nat) (sc : Nat → Int32) (av : Nat → Nat → Nat) (n : Nat) (hn : n ≤ 9) (lg : Nat) (hlg : lg ≤ 9999) (h4 : sc 4 = nI lg) (hg : sG av) (hB : ∀ j, 1 ≤ j → j < 2 ^ n → av 16 j ≤ 5000000) (hT : cUT av (av 16) (av 18) lg (2 ^ n)) (hU9 : av 18 (2 ^ n - 1) < 2147483647) : sx_Mv l yX6_tell wsX6_tell { frames := 4, cells := 0, slots := 0, locals := 94 } X [.ref (ad 4), .ref (ad 3), .ref (ad 2), .int (nI (2 ^ n - 1)), .ref (ad 5)] (sw X ad sc av) (fun w => ∃ (k : Nat) (S Z Q : Nat → Nat), w = sw X ad (va_up sc 5 (nI k)) (va_up (va_up (va_up av 19 S) 20 Z) 21 Q) ∧ k ≤ 9 ∧ cSpl av (av 16) (av 18) lg (2 ^ n - 1) S k 0 ∧ (∀ j, j < k → Z j = av 16 (S j) % 4096 ∧ Q j = cPr av (av 16 (S j))) ∧ (∀ j, k ≤ j → S j = av 19 j ∧ Z j = av 20 j ∧ Q j = av 21 j)) 0 0 := by
  refine sx_entV (own := RX6) (nL := 9) (by decide +kernel) rfl rfl (Nat.le_of_ble_eq_true rfl) ?_
  intro G hG hN hini hret
  show sx_W l X G 0 0 0 [(0, .ref (ad 4)), (1, .ref (ad 3)), (2, .ref (ad 2)), (3, .int (nI (2 ^ n - 1))), (4, .ref (ad 5))] [] (sw X ad sc av)
  have hp9 := sx_p9 hn
  have hp1 : 1 ≤ 2 ^ n := Nat.one_le_two_pow
  have loop_k : ∀ (fuel : Nat), ∀ (k left : Nat) (S Z Q : Nat → Nat), (left < 2 ^ n) → (k + sx_pc left ≤ 9) → (av 18 left < 2147483647) → (cSpl av (av 16) (av 18) lg (2 ^ n - 1) S k left) → (∀ j, j < k → Z j = av 16 (S j) % 4096 ∧ Q j = cPr av (av 16 (S j))) → (∀ j, k ≤ j → S j = av 19 j ∧ Z j = av 20 j ∧ Q j = av 21 j) → 9 - k < fuel → sx_W l X G 0 0 11 [(0, .ref (ad 4)), (1, .ref (ad 3)), (2, .ref (ad 2)), (3, .int (nI (2 ^ n - 1))), (4, .ref (ad 5)), (5, .int (nI left)), (6, .int (nI k))] [] (sw X ad (va_up sc 5 (nI k)) (va_up (va_up (va_up av 19 S) 20 Z) 21 Q)) := by
    intro fuel
    induction fuel with
    | zero => intro k left S Z Q hl hk hul hsp hzq hrest hm; exact absurd hm (Nat.not_lt_zero _)
    | succ fuel ih_k =>
      intro k left S Z Q hl hk hul hsp hzq hrest hm_k
      have hz0 := sx_pc_z0 left (by omega)
      refine sx_iload (pc := 11) hG dX6_tell_11 6 rfl ?_
      refine sx_bipush (pc := 13) (v := nI 9) hG dX6_tell_13 (by decide +kernel) ?_
      refine sx_icmp_ge (pc := 15) (tgt := 72) (B := 9 ≤ k) hG dX6_tell_15 (by decide) (nI_leI (by omega) (by omega)) (fun c15 => ?_) (fun c15 => ?_)
      · skip
        have hlz : left = 0 := by rcases Nat.eq_zero_or_pos left with h | h; exact h; (have : ¬ sx_pc left = 0 := fun q => by have := hz0 q; omega); omega
        subst hlz
        exact hret _ _ _ dX6_tell_72 ⟨k, S, Z, Q, rfl, by omega, hsp, hzq, hrest⟩
      · skip
        refine sx_iload (pc := 18) hG dX6_tell_18 5 rfl ?_
        refine sx_if_eq (pc := 20) (tgt := 72) (B := left = 0) hG dX6_tell_20 (by decide) (sx_eq0 (by omega)) (fun c20 => ?_) (fun c20 => ?_)
        · skip
          have hlz : left = 0 := by rcases Nat.eq_zero_or_pos left with h | h; exact h; (have : ¬ sx_pc left = 0 := fun q => by have := hz0 q; omega); omega
          subst hlz
          exact hret _ _ _ dX6_tell_72 ⟨k, S, Z, Q, rfl, by omega, hsp, hzq, hrest⟩
        · skip
          refine sx_aload_n (pc := 23) hG dX6_tell_23 rfl 0 rfl ?_
          refine sx_aload_n (pc := 24) hG dX6_tell_24 rfl 1 rfl ?_
          refine sx_aload_n (pc := 25) hG dX6_tell_25 rfl 2 rfl ?_
          refine sx_iload (pc := 26) hG dX6_tell_26 5 rfl ?_
          refine sx_callViw (pc := 28) (n9 := 3) (As := [.ref (ad 3), .ref (ad 2), .int (nI left)]) (st := []) (b := (ad 4)) (ci := 6) hG (c_X6_firstSet l X ad (va_up sc 5 (nI k)) (va_up (va_up (va_up av 19 S) 20 Z) 21 Q) lg hlg h4 hg left (by omega) (by omega) (fun j h1 h2 => hB j h1 (by omega)) (fun j hj => cUT_bd (by omega) hT (by omega)) (hT.2 left (by omega) hl).1 hul) gX6_tell_X6_firstSet rfl (by decide +kernel) rfl 4 rfl rfl rfl dX6_tell_28 ⟨rfl, rfl⟩ ⟨Nat.le_of_ble_eq_true rfl, Nat.le_of_ble_eq_true rfl⟩ (Nat.le_of_ble_eq_true rfl) ⟨Nat.le_of_ble_eq_true rfl, Nat.le_of_ble_eq_true rfl⟩ (fun r w1 hp => ?_)
          obtain ⟨t, hr9, hw9, hfi⟩ := hp
          subst hr9
          refine sx_weq hw9 ?_
          have hfi : sx_fi (cOk left) (cSw av (av 16) (av 18) lg left) t (av 18 left) := hfi
          obtain ⟨o1, o2, o3, o4⟩ := cOk_lt hfi.1
          have hlt := sx_sub_lt o4 o1
          have hbt := hB t (by omega) (by omega)
          have hmp := mSub (show left < 512 by omega) c20 o2
          have hune := cSw_ne hfi.2.1 hul
          have hubd := cUT_bd (by omega) hT (show sx_diff left t < 2 ^ n by omega)
          refine sx_istore (pc := 31) (lv2 := [(0, .ref (ad 4)), (1, .ref (ad 3)), (2, .ref (ad 2)), (3, .int (nI (2 ^ n - 1))), (4, .ref (ad 5)), (5, .int (nI left)), (6, .int (nI k)), (7, .int (nI t))]) hG [1, 2, 3, 4, 5, 6, 7, 0] dX6_tell_31 hN (by decide) rfl ?_
          refine sx_aload_n (pc := 33) hG dX6_tell_33 rfl 1 rfl ?_
          refine sx_iload (pc := 34) hG dX6_tell_34 7 rfl ?_
          refine sx_callViw (pc := 36) (n9 := 1) (As := [.int (nI t)]) (st := []) (b := (ad 3)) (ci := 4) hG (c_X4_costOf l X ad (va_up sc 5 (nI k)) (va_up (va_up (va_up av 19 S) 20 Z) 21 Q) t (by omega)) gX6_tell_X4_costOf rfl (by decide +kernel) rfl 3 rfl rfl rfl dX6_tell_36 ⟨rfl, rfl⟩ ⟨Nat.le_of_ble_eq_true rfl, Nat.le_of_ble_eq_true rfl⟩ (Nat.le_of_ble_eq_true rfl) ⟨Nat.le_of_ble_eq_true rfl, Nat.le_of_ble_eq_true rfl⟩ (fun r w1 hp => ?_)
          obtain ⟨hr9, hw9⟩ := hp
          have hr9 : r = (nI (av 16 t)) := hr9
          subst hr9
          refine sx_weq hw9 ?_
          refine sx_istore (pc := 39) (lv2 := [(0, .ref (ad 4)), (1, .ref (ad 3)), (2, .ref (ad 2)), (3, .int (nI (2 ^ n - 1))), (4, .ref (ad 5)), (5, .int (nI left)), (6, .int (nI k)), (7, .int (nI t)), (8, .int (nI (av 16 t)))]) hG [1, 2, 3, 4, 5, 6, 7, 8, 0] dX6_tell_39 hN (by decide) rfl ?_
          refine sx_aload (pc := 41) hG dX6_tell_41 4 rfl ?_
          refine sx_iload (pc := 43) hG dX6_tell_43 7 rfl ?_
          refine sx_iload (pc := 45) hG dX6_tell_45 8 rfl ?_
          refine sx_callSNiw (pc := 47) (n9 := 1) (As := [.int (nI (av 16 t))]) (st := [.int (nI t), .ref (ad 5)]) hG (c_X7_lengthOf l X (sw X ad (va_up sc 5 (nI k)) (va_up (va_up (va_up av 19 S) 20 Z) 21 Q)) (av 16 t) (by omega)) gX6_tell_X7_lengthOf_n48 rfl m_X6_tell_l48 m_X6_tell_s48 (by decide +kernel) rfl dX6_tell_47 ⟨rfl, rfl⟩ ⟨Nat.le_of_ble_eq_true rfl, Nat.le_of_ble_eq_true rfl⟩ (Nat.le_of_ble_eq_true rfl) ⟨Nat.le_of_ble_eq_true rfl, Nat.le_of_ble_eq_true rfl⟩ (fun r w1 hp => ?_)
          obtain ⟨hr9, hw9⟩ := hp
          have hr9 : r = (nI (av 16 t % 4096)) := hr9
          subst hr9
          refine sx_weq hw9 ?_
          refine sx_aload_n (pc := 50) hG dX6_tell_50 rfl 2 rfl ?_
          refine sx_iload (pc := 51) hG dX6_tell_51 8 rfl ?_
          refine sx_callViw (pc := 53) (n9 := 1) (As := [.int (nI (av 16 t))]) (st := [.int (nI (av 16 t % 4096)), .int (nI t), .ref (ad 5)]) (b := (ad 2)) (ci := 3) hG (c_X3_ofRun l X ad (va_up sc 5 (nI k)) (va_up (va_up (va_up av 19 S) 20 Z) 21 Q) (av 16 t) (by omega) hg) gX6_tell_X3_ofRun rfl (by decide +kernel) rfl 2 rfl rfl rfl dX6_tell_53 ⟨rfl, rfl⟩ ⟨Nat.le_of_ble_eq_true rfl, Nat.le_of_ble_eq_true rfl⟩ (Nat.le_of_ble_eq_true rfl) ⟨Nat.le_of_ble_eq_true rfl, Nat.le_of_ble_eq_true rfl⟩ (fun r w1 hp => ?_)
          obtain ⟨hr9, hw9⟩ := hp
          have hr9 : r = (nI (cPr av (av 16 t))) := hr9
          subst hr9
          refine sx_weq hw9 ?_
          refine sx_callVvw (pc := 56) (n9 := 3) (As := [.int (nI t), .int (nI (av 16 t % 4096)), .int (nI (cPr av (av 16 t)))]) (st := []) (b := (ad 5)) (ci := 2) hG (c_X2_add l X ad (va_up sc 5 (nI k)) (va_up (va_up (va_up av 19 S) 20 Z) 21 Q) t (av 16 t % 4096) (cPr av (av 16 t)) k (by omega) rfl) gX6_tell_X2_add rfl (by decide +kernel) rfl 5 rfl rfl rfl dX6_tell_56 ⟨rfl, rfl⟩ ⟨Nat.le_of_ble_eq_true rfl, Nat.le_of_ble_eq_true rfl⟩ (Nat.le_of_ble_eq_true rfl) ⟨Nat.le_of_ble_eq_true rfl, Nat.le_of_ble_eq_true rfl⟩ (fun w1 hp => ?_)
          refine sx_weq hp ?_
          refine sx_weq (w2 := (sw X ad (va_up sc 5 (nI (k + 1))) (va_up (va_up (va_up av 19 (va_up S k t)) 20 (va_up Z k (av 16 t % 4096))) 21 (va_up Q k (cPr av (av 16 t)))))) rfl ?_
          refine sx_iload (pc := 59) hG dX6_tell_59 5 rfl ?_
          refine sx_iload (pc := 61) hG dX6_tell_61 7 rfl ?_
          refine sx_ixor (pc := 63) (v := (nI (sx_diff left t))) hG dX6_tell_63 (by rw [sx_xor (by omega) (by omega), sx_xsub o1]) ?_
          refine sx_istore (pc := 64) (lv2 := [(0, .ref (ad 4)), (1, .ref (ad 3)), (2, .ref (ad 2)), (3, .int (nI (2 ^ n - 1))), (4, .ref (ad 5)), (5, .int (nI (sx_diff left t))), (6, .int (nI k)), (7, .int (nI t)), (8, .int (nI (av 16 t)))]) hG [1, 2, 3, 4, 5, 0, 6, 7, 8] dX6_tell_64 hN (by decide) rfl ?_
          refine sx_iinc (pc := 66) (v := (nI (k + 1))) (lv2 := [(0, .ref (ad 4)), (1, .ref (ad 3)), (2, .ref (ad 2)), (3, .int (nI (2 ^ n - 1))), (4, .ref (ad 5)), (5, .int (nI (sx_diff left t))), (6, .int (nI (k + 1))), (7, .int (nI t)), (8, .int (nI (av 16 t)))]) hG [1, 2, 3, 4, 5, 6, 0, 7, 8] dX6_tell_66 6 rfl (sx_inc k) hN (by decide) rfl ?_
          refine sx_goto (pc := 69) (tgt := 11) hG dX6_tell_69 (by decide) ?_
          refine sx_lsub [0, 1, 2, 3, 4, 5, 6] rfl ?_
          refine ih_k (k + 1) (sx_diff left t) _ _ _ (by omega) (by omega) (by omega) ⟨left, cSpl_up (Nat.le_refl _) hsp, c20, by rw [show va_up S k t k = t from if_pos rfl]; exact hfi, by rw [show va_up S k t k = t from if_pos rfl]⟩ (fun j hj => by unfold va_up; by_cases e : j = k; (rw [if_pos e, if_pos e, if_pos e]; exact ⟨rfl, rfl⟩); (rw [if_neg e, if_neg e, if_neg e]; exact hzq j (by omega))) (fun j hj => by unfold va_up; rw [if_neg (by omega), if_neg (by omega), if_neg (by omega)]; exact hrest j (by omega)) (by omega)
  refine sx_aload (pc := 0) hG dX6_tell_0 4 rfl ?_
  refine sx_callVvw (pc := 2) (n9 := 0) (As := []) (st := []) (b := (ad 5)) (ci := 2) hG (c_X2_begin l X ad sc av) gX6_tell_X2_begin rfl (by decide +kernel) rfl 5 rfl rfl rfl dX6_tell_2 ⟨rfl, rfl⟩ ⟨Nat.le_of_ble_eq_true rfl, Nat.le_of_ble_eq_true rfl⟩ (Nat.le_of_ble_eq_true rfl) ⟨Nat.le_of_ble_eq_true rfl, Nat.le_of_ble_eq_true rfl⟩ (fun w1 hp => ?_)
  refine sx_weq hp ?_
  refine sx_iload_n (pc := 5) hG dX6_tell_5 rfl 3 rfl ?_
  refine sx_istore (pc := 6) (lv2 := [(0, .ref (ad 4)), (1, .ref (ad 3)), (2, .ref (ad 2)), (3, .int (nI (2 ^ n - 1))), (4, .ref (ad 5)), (5, .int (nI (2 ^ n - 1)))]) hG [1, 2, 3, 4, 5, 0] dX6_tell_6 hN (by decide) rfl ?_
  refine sx_iconst (pc := 8) (v := nI 0) hG dX6_tell_8 (by decide +kernel) ?_
  refine sx_istore (pc := 9) (lv2 := [(0, .ref (ad 4)), (1, .ref (ad 3)), (2, .ref (ad 2)), (3, .int (nI (2 ^ n - 1))), (4, .ref (ad 5)), (5, .int (nI (2 ^ n - 1))), (6, .int (nI 0))]) hG [1, 2, 3, 4, 5, 6, 0] dX6_tell_9 hN (by decide) rfl ?_
  refine sx_weq (w2 := (sw X ad (va_up sc 5 (nI 0)) (va_up (va_up (va_up av 19 (av 19)) 20 (av 20)) 21 (av 21)))) rfl ?_
  refine loop_k _ 0 (2 ^ n - 1) (av 19) (av 20) (av 21) (by omega) (by have := sx_pc_n0 n (by omega) (2 ^ n - 1) (by omega); omega) hU9 rfl (fun j h => absurd h (Nat.not_lt_zero _)) (fun j _ => ⟨rfl, rfl, rfl⟩) (Nat.lt_succ_self _)

theorem i_X0_leastFill_0 : ∀ w ∈ u_ws RX0 TX0 2, w ∈ wsX0_leastFill := by decide +kernel
theorem m_X0_leastFill_f15 : Cond.fieldLink RX0 15 (TX0 1).1 (TX0 1).2.1 (TX0 1).2.2.1 ∈ wsX0_leastFill := by decide +kernel
theorem m_X0_leastFill_f9 : Cond.fieldLink RX0 9 (TX0 0).1 (TX0 0).2.1 (TX0 0).2.2.1 ∈ wsX0_leastFill := by decide +kernel
theorem m_X0_leastFill_j38 : Cond.methodLink RX0 38 Lib.Math.min.name ∈ wsX0_leastFill ∧ Cond.static Lib.Math.min.name ∈ wsX0_leastFill ∧ Cond.initialized "java/lang/Math" ∈ wsX0_leastFill ∧ Cond.code Lib.Math.min.name Lib.Math.min.code 2 (some .int) ∈ wsX0_leastFill := by decide +kernel
theorem m_X0_leastFill_c34 : Cond.constant RX0 34 (2147483647) ∈ wsX0_leastFill := by decide +kernel
set_option maxHeartbeats 4000000 in
set_option maxRecDepth 100000 in
theorem c_X0_leastFill (l : Launch) (X : sx_X) (ad : Nat → Nat) (sc : Nat → Int32) (av : Nat → Nat → Nat) (m s u : Nat) (hm : m ≤ 9) (hs1 : 1 ≤ s) (hs : s < 2 ^ m) (hu : u ≤ 99999) (hV : ∀ j, j < m → av 22 j ≤ u) (hF : ∀ j, j < s → av 23 j ≤ 2500000) : sx_Mi l yX0_leastFill wsX0_leastFill { frames := 1, cells := 0, slots := 0, locals := 22 } X [.ref (ad 6), .int (nI m), .int (nI s), .int (nI u)] (sw X ad sc av) (fun r w => r = nI (bLv (av 22) (av 23) u s m) ∧ w = sw X ad sc av) 0 0 := by
  refine sx_entI (own := RX0) (nL := 6) (by decide +kernel) rfl rfl (Nat.le_of_ble_eq_true rfl) ?_
  intro G hG hN hret
  show sx_W l X G 0 0 0 [(0, .ref (ad 6)), (1, .int (nI m)), (2, .int (nI s)), (3, .int (nI u))] [] (sw X ad sc av)
  have hp9 := sx_p9 hm
  have loop_k : ∀ (fuel : Nat), ∀ (k least : Nat), (k ≤ m) → (least = bLv (av 22) (av 23) u s k) → m - k < fuel → sx_W l X G 0 0 7 [(0, .ref (ad 6)), (1, .int (nI m)), (2, .int (nI s)), (3, .int (nI u)), (4, .int (nI least)), (5, .int (nI k))] [] (sw X ad sc av) := by
    intro fuel
    induction fuel with
    | zero => intro k least hk hls hm; exact absurd hm (Nat.not_lt_zero _)
    | succ fuel ih_k =>
      intro k least hk hls hm_k
      have hll : least ≤ 2147483647 := by subst hls; exact sx_mn_le _ _ _ _
      have hale := Nat.and_le_left (n := s) (m := 2 ^ k)
      have hab := fun h => sx_ab0 s (by omega) k h
      have hpt := sx_p9 (k := k) (by omega)
      refine sx_iload (pc := 7) hG dX0_leastFill_7 5 rfl ?_
      refine sx_iload_n (pc := 9) hG dX0_leastFill_9 rfl 1 rfl ?_
      refine sx_icmp_ge (pc := 10) (tgt := 57) (B := m ≤ k) hG dX0_leastFill_10 (by decide) (nI_leI (by omega) (by omega)) (fun c10 => ?_) (fun c10 => ?_)
      · skip
        refine sx_iload (pc := 57) hG dX0_leastFill_57 4 rfl ?_
        exact hret _ _ _ _ dX0_leastFill_59 rfl ⟨congrArg nI (by rw [hls, show k = m by omega]), rfl⟩
      · skip
        refine sx_iload_n (pc := 13) hG dX0_leastFill_13 rfl 2 rfl ?_
        refine sx_iconst (pc := 14) (v := nI 1) hG dX0_leastFill_14 (by decide +kernel) ?_
        refine sx_iload (pc := 15) hG dX0_leastFill_15 5 rfl ?_
        refine sx_ishl (pc := 17) (v := (nI (2 ^ k))) hG dX0_leastFill_17 (sx_one (by omega)) ?_
        refine sx_iand (pc := 18) (v := (nI (s &&& (2 ^ k)))) hG dX0_leastFill_18 (sx_and (by omega) (sx_p2 (by omega))) ?_
        refine sx_if_eq (pc := 19) (tgt := 51) (B := (s &&& (2 ^ k)) = 0) hG dX0_leastFill_19 (by decide) (sx_eq0 (by omega)) (fun c19 => ?_) (fun c19 => ?_)
        · skip
          refine sx_iinc (pc := 51) (v := (nI (k + 1))) (lv2 := [(0, .ref (ad 6)), (1, .int (nI m)), (2, .int (nI s)), (3, .int (nI u)), (4, .int (nI least)), (5, .int (nI (k + 1)))]) hG [1, 2, 3, 4, 5, 0] dX0_leastFill_51 5 rfl (sx_inc k) hN (by decide) rfl ?_
          refine sx_goto (pc := 54) (tgt := 7) hG dX0_leastFill_54 (by decide) ?_
          refine ih_k (k + 1) _ (by omega) (by rw [hls]; exact (sx_mn_skip (p := fun k => sx_bit s k) (t := k) (Or.inl ((hab (by omega)).mp c19))).symm) (by omega)
        · skip
          have hbt : ¬ sx_bit s k = 0 := fun h => c19 ((hab (by omega)).mpr h)
          have hdl := sx_dlt (s := s) (k := k) (by omega) (by omega) hbt
          have hFd := hF _ hdl
          have hVk := hV k (by omega)
          have hpl := bPut_le (av 23 (sx_diff s (2 ^ k))) (av 22 k) u
          refine sx_iload (pc := 22) hG dX0_leastFill_22 4 rfl ?_
          refine sx_aload_n (pc := 24) hG dX0_leastFill_24 rfl 0 rfl ?_
          refine sx_get (pc := 25) (v2 := .ref (ad 23)) (ci := 0) hG i_X0_leastFill_0 1 m_X0_leastFill_f15 dX0_leastFill_25 rfl (by decide) 6 rfl rfl rfl ?_
          refine sx_iload_n (pc := 28) hG dX0_leastFill_28 rfl 2 rfl ?_
          refine sx_iconst (pc := 29) (v := nI 1) hG dX0_leastFill_29 (by decide +kernel) ?_
          refine sx_iload (pc := 30) hG dX0_leastFill_30 5 rfl ?_
          refine sx_ishl (pc := 32) (v := (nI (2 ^ k))) hG dX0_leastFill_32 (sx_one (by omega)) ?_
          refine sx_ixor (pc := 33) (v := (nI (sx_diff s (2 ^ k)))) hG dX0_leastFill_33 (sx_xd (by omega) (by omega) c19) ?_
          refine sx_iald (pc := 34) (v := nI ((av 23) (sx_diff s (2 ^ k)))) hG 23 dX0_leastFill_34 rfl (by decide) (by omega) rfl ?_
          refine sx_aload_n (pc := 35) hG dX0_leastFill_35 rfl 0 rfl ?_
          refine sx_get (pc := 36) (v2 := .ref (ad 22)) (ci := 0) hG i_X0_leastFill_0 0 m_X0_leastFill_f9 dX0_leastFill_36 rfl (by decide) 6 rfl rfl rfl ?_
          refine sx_iload (pc := 39) hG dX0_leastFill_39 5 rfl ?_
          refine sx_iald (pc := 41) (v := nI ((av 22) k)) hG 22 dX0_leastFill_41 rfl (by decide) (by omega) rfl ?_
          refine sx_iload_n (pc := 42) hG dX0_leastFill_42 rfl 3 rfl ?_
          refine sx_callSiw (pc := 43) (n9 := 3) (As := [.int (nI ((av 23) (sx_diff s (2 ^ k)))), .int (nI ((av 22) k)), .int (nI u)]) (st := [.int (nI least)]) hG (c_X0_putInto l X (sw X ad sc av) (av 23 (sx_diff s (2 ^ k))) (av 22 k) u (by omega) (by omega) (by omega)) gX0_leastFill_X0_putInto rfl (by decide +kernel) rfl dX0_leastFill_43 ⟨rfl, rfl⟩ ⟨Nat.le_of_ble_eq_true rfl, Nat.le_of_ble_eq_true rfl⟩ (Nat.le_of_ble_eq_true rfl) ⟨Nat.le_of_ble_eq_true rfl, Nat.le_of_ble_eq_true rfl⟩ (fun r w1 hp => ?_)
          obtain ⟨hr9, hw9⟩ := hp
          have hr9 : r = (nI (bPut (av 23 (sx_diff s (2 ^ k))) (av 22 k) u)) := hr9
          subst hr9
          refine sx_weq hw9 ?_
          refine sx_mmin (pc := 46) (v := (nI (min least (bPut (av 23 (sx_diff s (2 ^ k))) (av 22 k) u)))) hG m_X0_leastFill_j38 dX0_leastFill_46 (Nat.le_of_ble_eq_true rfl) (Nat.le_of_ble_eq_true rfl) (Nat.le_of_ble_eq_true rfl) (Nat.le_of_ble_eq_true rfl) (sx_min (by omega) (by omega)) ?_
          refine sx_istore (pc := 49) (lv2 := [(0, .ref (ad 6)), (1, .int (nI m)), (2, .int (nI s)), (3, .int (nI u)), (4, .int (nI (min least (bPut (av 23 (sx_diff s (2 ^ k))) (av 22 k) u)))), (5, .int (nI k))]) hG [1, 2, 3, 4, 0, 5] dX0_leastFill_49 hN (by decide) rfl ?_
          refine sx_iinc (pc := 51) (v := (nI (k + 1))) (lv2 := [(0, .ref (ad 6)), (1, .int (nI m)), (2, .int (nI s)), (3, .int (nI u)), (4, .int (nI (min least (bPut (av 23 (sx_diff s (2 ^ k))) (av 22 k) u)))), (5, .int (nI (k + 1)))]) hG [1, 2, 3, 4, 5, 0] dX0_leastFill_51 5 rfl (sx_inc k) hN (by decide) rfl ?_
          refine sx_goto (pc := 54) (tgt := 7) hG dX0_leastFill_54 (by decide) ?_
          refine ih_k (k + 1) _ (by omega) (by rw [hls]; exact (sx_mn_min (p := fun k => sx_bit s k) (t := k) hbt).symm) (by omega)
  refine sx_ldc (pc := 0) (v2 := nI 2147483647) hG m_X0_leastFill_c34 dX0_leastFill_0 (by decide +kernel) ?_
  refine sx_istore (pc := 2) (lv2 := [(0, .ref (ad 6)), (1, .int (nI m)), (2, .int (nI s)), (3, .int (nI u)), (4, .int (nI 2147483647))]) hG [1, 2, 3, 4, 0] dX0_leastFill_2 hN (by decide) rfl ?_
  refine sx_iconst (pc := 4) (v := nI 0) hG dX0_leastFill_4 (by decide +kernel) ?_
  refine sx_istore (pc := 5) (lv2 := [(0, .ref (ad 6)), (1, .int (nI m)), (2, .int (nI s)), (3, .int (nI u)), (4, .int (nI 2147483647)), (5, .int (nI 0))]) hG [1, 2, 3, 4, 5, 0] dX0_leastFill_5 hN (by decide) rfl ?_
  refine loop_k _ 0 2147483647 (Nat.zero_le _) rfl (Nat.lt_succ_self _)
