/-! THE REFERENCE: stroke, work -/
theorem sx_ptN_ok {a b : Nat} (ha : a ≤ 9) (hb : b ≤ 9) : sx_ptN (nI a) (nI b) = 1 := by
  have h1 : (nI a).toInt = a := nI_toInt (by omega)
  have h2 : (nI b).toInt = b := nI_toInt (by omega)
  unfold sx_ptN
  rw [if_pos (by omega)]
theorem sx_ptN_le (x y : Int32) : sx_ptN x y ≤ 1 := by unfold sx_ptN; split <;> omega
theorem sx_ptN_ne {x y : Int32} (h : ¬ sx_ptN x y = 0) : (∃ p : Nat, x = nI p ∧ p ≤ 9) ∧ ∃ q : Nat, y = nI q ∧ q ≤ 9 := by
  unfold sx_ptN at h
  by_cases hc : 0 ≤ x.toInt ∧ x.toInt ≤ 9 ∧ 0 ≤ y.toInt ∧ y.toInt ≤ 9
  · obtain ⟨h1, h2, h3, h4⟩ := hc
    exact ⟨⟨_, (sx_of h1).1, by omega⟩, ⟨_, (sx_of h3).1, by omega⟩⟩
  · rw [if_neg hc] at h; exact absurd rfl h
def mAdd (av : Nat → Nat → Nat) (n a b c d : Nat) : Nat → Nat → Nat := va_up (va_up (va_up (va_up (va_up (va_up av 1 (va_up (av 1) n a)) 2 (va_up (av 2) n b)) 3 (va_up (av 3) n c)) 4 (va_up (av 4) n d)) 5 (va_up (av 5) n (sx_dir a b c d))) 6 (va_up (av 6) n (sx_piece (sx_far a c) (sx_far b d)))
/-- the least of those that are counted -/
def sx_mn (i0 : Nat) (p f : Nat → Nat) : Nat → Nat
  | 0 => i0
  | k + 1 => if p k = 0 then sx_mn i0 p f k else if f k < sx_mn i0 p f k then f k else sx_mn i0 p f k
theorem sx_mn_le (i0 : Nat) (p f : Nat → Nat) (k : Nat) : sx_mn i0 p f k ≤ i0 := by
  induction k with
  | zero => exact Nat.le_refl _
  | succ k ih => unfold sx_mn; split; exact ih; split <;> omega
theorem sx_mn_congr {i0 : Nat} {p f g : Nat → Nat} {k : Nat} (h : ∀ b, b < k → ¬ p b = 0 → f b = g b) : sx_mn i0 p f k = sx_mn i0 p g k := by
  induction k with
  | zero => rfl
  | succ k ih =>
    unfold sx_mn
    rw [ih (fun b hb => h b (by omega))]
    by_cases hp : p k = 0
    · rw [if_pos hp, if_pos hp]
    · rw [if_neg hp, if_neg hp, h k (by omega) hp]
def mI (s : Nat) : Nat := if s = 0 then 0 else 2000000000
theorem mI_le (s : Nat) : mI s ≤ 2000000000 := by unfold mI; split <;> omega
/-- the reference's two tables: what it costs to go on from a over the set s; the best of a set -/
def mLv (av : Nat → Nat → Nat) (L : Nat → Nat) (s a k : Nat) : Nat := sx_mn (mI s) (fun b => sx_bit s (b / 2)) (fun b => mGo av a b + L (18 * sx_diff s (2 ^ (b / 2)) + b)) k
def mBv (av : Nat → Nat → Nat) (L : Nat → Nat) (s k : Nat) : Nat := sx_mn (mI s) (fun a => sx_bit s (a / 2)) (fun a => mFrom av L s a) k
def mT (av : Nat → Nat → Nat) (n : Nat) (L B : Nat → Nat) (K : Nat) : Prop := (∀ s, s < K → ∀ a, a < 2 * n → L (18 * s + a) = mLv av L s a (2 * n)) ∧ ∀ s, s < K → B s = mBv av L s (2 * n)
theorem sx_dlt0 : ∀ s, s < 512 → ∀ k, k < 9 → ¬ sx_bit s k = 0 → sx_diff s (2 ^ k) < s := by decide +kernel
theorem sx_dlt {s k : Nat} (hs : s < 512) (hk : k < 9) (h : ¬ sx_bit s k = 0) : sx_diff s (2 ^ k) < s := sx_dlt0 s hs k hk h
theorem mLv_congr {av : Nat → Nat → Nat} {L L2 : Nat → Nat} {s a k : Nat} (hs : s < 512) (hk : k ≤ 18) (h : ∀ j, j < 18 * s → L j = L2 j) : mLv av L s a k = mLv av L2 s a k :=
  sx_mn_congr fun b hb hp => by
    have := sx_dlt hs (k := b / 2) (by omega) hp
    show _ + L _ = _ + L2 _
    rw [h _ (by omega)]
theorem mBv_congr {av : Nat → Nat → Nat} {L L2 : Nat → Nat} {s k : Nat} (hs : s < 512) (hk : k ≤ 18) (h : ∀ j, j < 18 * s → L j = L2 j) : mBv av L s k = mBv av L2 s k :=
  sx_mn_congr fun b hb hp => by
    have := sx_dlt hs (k := b / 2) (by omega) hp
    show _ + L _ = _ + L2 _
    rw [h _ (by omega)]
theorem mT_up {av : Nat → Nat → Nat} {n K : Nat} {L B : Nat → Nat} {i v : Nat} (hn : n ≤ 9) (hK : K ≤ 512) (hi : 18 * K ≤ i) (h : mT av n L B K) : mT av n (va_up L i v) B K := by
  have key : ∀ s, s < K → ∀ j, j < 18 * s + 18 → va_up L i v j = L j := fun s hs j hj => by unfold va_up; rw [if_neg (by omega)]
  refine ⟨fun s hs a ha => ?_, fun s hs => ?_⟩
  · rw [key s hs _ (by omega), h.1 s hs a ha]
    exact mLv_congr (by omega) (by omega) (fun j hj => (key s hs j (by omega)).symm)
  · rw [h.2 s hs]
    exact mBv_congr (by omega) (by omega) (fun j hj => (key s hs j (by omega)).symm)
theorem mLv_step (av : Nat → Nat → Nat) (L : Nat → Nat) (s a k : Nat) : mLv av L s a (k + 1) = if sx_bit s (k / 2) = 0 then mLv av L s a k else if mGo av a k + L (18 * sx_diff s (2 ^ (k / 2)) + k) < mLv av L s a k then mGo av a k + L (18 * sx_diff s (2 ^ (k / 2)) + k) else mLv av L s a k := rfl
theorem mBv_step (av : Nat → Nat → Nat) (L : Nat → Nat) (s k : Nat) : mBv av L s (k + 1) = if sx_bit s (k / 2) = 0 then mBv av L s k else if mFrom av L s k < mBv av L s k then mFrom av L s k else mBv av L s k := rfl
theorem mA_up {av : Nat → Nat → Nat} {n s a v : Nat} {L : Nat → Nat} (hn : n ≤ 9) (hs : s < 512) (h : ∀ q, q < a → L (18 * s + q) = mLv av L s q (2 * n)) (hv : v = mLv av L s a (2 * n)) : ∀ q, q < a + 1 → va_up L (18 * s + a) v (18 * s + q) = mLv av (va_up L (18 * s + a) v) s q (2 * n) := by
  intro q hq
  have e : mLv av (va_up L (18 * s + a) v) s q (2 * n) = mLv av L s q (2 * n) := mLv_congr hs (by omega) (fun j hj => by unfold va_up; rw [if_neg (by omega)])
  rw [e]
  unfold va_up
  by_cases h1 : q = a
  · subst h1; rw [if_pos rfl]; exact hv
  · rw [if_neg (by omega)]; exact h q (by omega)
theorem mT_next {av : Nat → Nat → Nat} {n s : Nat} {L B B2 : Nat → Nat} (hT : mT av n L B s) (hA : ∀ q, q < 2 * n → L (18 * s + q) = mLv av L s q (2 * n)) (h1 : B2 s = mBv av L s (2 * n)) (h2 : ∀ j, ¬ j = s → B2 j = B j) : mT av n L B2 (s + 1) := by
  refine ⟨fun t ht a ha => ?_, fun t ht => ?_⟩
  · by_cases e : t = s
    · subst e; exact hA a ha
    · exact hT.1 t (by omega) a ha
  · by_cases e : t = s
    · subst e; exact h1
    · rw [h2 t e]; exact hT.2 t (by omega)
theorem i_X8_stroke_8 : ∀ w ∈ u_ws RX8 TX8 24, w ∈ wsX8_stroke := by decide +kernel
theorem m_X8_stroke_f7 : Cond.fieldLink RX8 7 (TX8 1).1 (TX8 1).2.1 (TX8 1).2.2.1 ∈ wsX8_stroke := by decide +kernel
theorem m_X8_stroke_f71 : Cond.fieldLink RX8 71 (TX8 0).1 (TX8 0).2.1 (TX8 0).2.2.1 ∈ wsX8_stroke := by decide +kernel
theorem m_X8_stroke_f13 : Cond.fieldLink RX8 13 (TX8 2).1 (TX8 2).2.1 (TX8 2).2.2.1 ∈ wsX8_stroke := by decide +kernel
theorem m_X8_stroke_f16 : Cond.fieldLink RX8 16 (TX8 3).1 (TX8 3).2.1 (TX8 3).2.2.1 ∈ wsX8_stroke := by decide +kernel
theorem m_X8_stroke_f19 : Cond.fieldLink RX8 19 (TX8 4).1 (TX8 4).2.1 (TX8 4).2.2.1 ∈ wsX8_stroke := by decide +kernel
theorem m_X8_stroke_f22 : Cond.fieldLink RX8 22 (TX8 5).1 (TX8 5).2.1 (TX8 5).2.2.1 ∈ wsX8_stroke := by decide +kernel
theorem m_X8_stroke_f25 : Cond.fieldLink RX8 25 (TX8 6).1 (TX8 6).2.1 (TX8 6).2.2.1 ∈ wsX8_stroke := by decide +kernel
theorem m_X8_stroke_f68 : Cond.fieldLink RX8 68 (TX8 9).1 (TX8 9).2.1 (TX8 9).2.2.1 ∈ wsX8_stroke := by decide +kernel
set_option maxHeartbeats 4000000 in
set_option maxRecDepth 100000 in
theorem c_X8_stroke_ok (l : Launch) (X : sx_X) (bd : Nat → Nat) (sc : Nat → Int32) (av : Nat → Nat → Nat) (n a b c d : Nat) (hn : n < 9) (h0 : sc 0 = nI n) (ha : a ≤ 9) (hb : b ≤ 9) (hc : c ≤ 9) (hd : d ≤ 9) (hs : sx_str a b c d) : sx_Mi l yX8_stroke wsX8_stroke { frames := 2, cells := 0, slots := 0, locals := 46 } X [.ref (bd 0), .int (nI a), .int (nI b), .int (nI c), .int (nI d)] (mw X bd sc av) (fun r w => r = nI n ∧ w = mw X bd (va_up (va_up sc 0 (nI (n + 1))) 2 (nI 0)) (mAdd av n a b c d)) 0 0 := by
  refine sx_entI (own := RX8) (nL := 5) (by decide +kernel) rfl rfl (Nat.le_of_ble_eq_true rfl) ?_
  intro G hG hN hret
  show sx_W l X G 0 0 0 [(0, .ref (bd 0)), (1, .int (nI a)), (2, .int (nI b)), (3, .int (nI c)), (4, .int (nI d))] [] (mw X bd sc av)
  have hs2 := hs
  unfold sx_str at hs2
  have hf1 := sx_far_le a c 10 (by omega) (by omega)
  have hf2 := sx_far_le b d 10 (by omega) (by omega)
  have join_s : sx_W l X G 0 0 69 [(0, .ref (bd 0)), (1, .int (nI a)), (2, .int (nI b)), (3, .int (nI c)), (4, .int (nI d))] [] (mw X bd (va_up sc 2 (nI 0)) av) := by
    refine sx_aload_n (pc := 69) hG dX8_stroke_69 rfl 0 rfl ?_
    refine sx_get (pc := 70) (v2 := .ref (bd 1)) (ci := 8) hG i_X8_stroke_8 1 m_X8_stroke_f7 dX8_stroke_70 rfl (by decide) 0 rfl rfl rfl ?_
    refine sx_aload_n (pc := 73) hG dX8_stroke_73 rfl 0 rfl ?_
    refine sx_get (pc := 74) (v2 := .int (nI n)) (ci := 8) hG i_X8_stroke_8 0 m_X8_stroke_f71 dX8_stroke_74 rfl (by decide) 0 rfl rfl (congrArg Value.int h0) ?_
    refine sx_iload_n (pc := 77) hG dX8_stroke_77 rfl 1 rfl ?_
    refine sx_iastN (pc := 78) (w2 := (mw X bd (va_up sc 2 (nI 0)) (va_up av 1 (va_up (av 1) n a)))) hG 1 dX8_stroke_78 rfl (by decide) (by omega) rfl ?_
    refine sx_aload_n (pc := 79) hG dX8_stroke_79 rfl 0 rfl ?_
    refine sx_get (pc := 80) (v2 := .ref (bd 2)) (ci := 8) hG i_X8_stroke_8 2 m_X8_stroke_f13 dX8_stroke_80 rfl (by decide) 0 rfl rfl rfl ?_
    refine sx_aload_n (pc := 83) hG dX8_stroke_83 rfl 0 rfl ?_
    refine sx_get (pc := 84) (v2 := .int (nI n)) (ci := 8) hG i_X8_stroke_8 0 m_X8_stroke_f71 dX8_stroke_84 rfl (by decide) 0 rfl rfl (congrArg Value.int h0) ?_
    refine sx_iload_n (pc := 87) hG dX8_stroke_87 rfl 2 rfl ?_
    refine sx_iastN (pc := 88) (w2 := (mw X bd (va_up sc 2 (nI 0)) (va_up (va_up av 1 (va_up (av 1) n a)) 2 (va_up (av 2) n b)))) hG 2 dX8_stroke_88 rfl (by decide) (by omega) rfl ?_
    refine sx_aload_n (pc := 89) hG dX8_stroke_89 rfl 0 rfl ?_
    refine sx_get (pc := 90) (v2 := .ref (bd 3)) (ci := 8) hG i_X8_stroke_8 3 m_X8_stroke_f16 dX8_stroke_90 rfl (by decide) 0 rfl rfl rfl ?_
    refine sx_aload_n (pc := 93) hG dX8_stroke_93 rfl 0 rfl ?_
    refine sx_get (pc := 94) (v2 := .int (nI n)) (ci := 8) hG i_X8_stroke_8 0 m_X8_stroke_f71 dX8_stroke_94 rfl (by decide) 0 rfl rfl (congrArg Value.int h0) ?_
    refine sx_iload_n (pc := 97) hG dX8_stroke_97 rfl 3 rfl ?_
    refine sx_iastN (pc := 98) (w2 := (mw X bd (va_up sc 2 (nI 0)) (va_up (va_up (va_up av 1 (va_up (av 1) n a)) 2 (va_up (av 2) n b)) 3 (va_up (av 3) n c)))) hG 3 dX8_stroke_98 rfl (by decide) (by omega) rfl ?_
    refine sx_aload_n (pc := 99) hG dX8_stroke_99 rfl 0 rfl ?_
    refine sx_get (pc := 100) (v2 := .ref (bd 4)) (ci := 8) hG i_X8_stroke_8 4 m_X8_stroke_f19 dX8_stroke_100 rfl (by decide) 0 rfl rfl rfl ?_
    refine sx_aload_n (pc := 103) hG dX8_stroke_103 rfl 0 rfl ?_
    refine sx_get (pc := 104) (v2 := .int (nI n)) (ci := 8) hG i_X8_stroke_8 0 m_X8_stroke_f71 dX8_stroke_104 rfl (by decide) 0 rfl rfl (congrArg Value.int h0) ?_
    refine sx_iload (pc := 107) hG dX8_stroke_107 4 rfl ?_
    refine sx_iastN (pc := 109) (w2 := (mw X bd (va_up sc 2 (nI 0)) (va_up (va_up (va_up (va_up av 1 (va_up (av 1) n a)) 2 (va_up (av 2) n b)) 3 (va_up (av 3) n c)) 4 (va_up (av 4) n d)))) hG 4 dX8_stroke_109 rfl (by decide) (by omega) rfl ?_
    refine sx_aload_n (pc := 110) hG dX8_stroke_110 rfl 0 rfl ?_
    refine sx_get (pc := 111) (v2 := .ref (bd 5)) (ci := 8) hG i_X8_stroke_8 5 m_X8_stroke_f22 dX8_stroke_111 rfl (by decide) 0 rfl rfl rfl ?_
    refine sx_aload_n (pc := 114) hG dX8_stroke_114 rfl 0 rfl ?_
    refine sx_get (pc := 115) (v2 := .int (nI n)) (ci := 8) hG i_X8_stroke_8 0 m_X8_stroke_f71 dX8_stroke_115 rfl (by decide) 0 rfl rfl (congrArg Value.int h0) ?_
    refine sx_iload_n (pc := 118) hG dX8_stroke_118 rfl 3 rfl ?_
    refine sx_iload_n (pc := 119) hG dX8_stroke_119 rfl 1 rfl ?_
    refine sx_isub (pc := 120) (v := (nI c - nI a)) hG dX8_stroke_120 rfl ?_
    refine sx_callSiw (pc := 121) (n9 := 1) (As := [.int (nI c - nI a)]) (st := [.int (nI n), .ref (bd 5)]) hG (c_X8_sign l X (mw X bd (va_up sc 2 (nI 0)) (va_up (va_up (va_up (va_up av 1 (va_up (av 1) n a)) 2 (va_up (av 2) n b)) 3 (va_up (av 3) n c)) 4 (va_up (av 4) n d))) a c (by omega) (by omega)) gX8_stroke_X8_sign rfl (by decide +kernel) rfl dX8_stroke_121 ⟨rfl, rfl⟩ ⟨Nat.le_of_ble_eq_true rfl, Nat.le_of_ble_eq_true rfl⟩ (Nat.le_of_ble_eq_true rfl) ⟨Nat.le_of_ble_eq_true rfl, Nat.le_of_ble_eq_true rfl⟩ (fun r w1 hp => ?_)
    obtain ⟨hr9, hw9⟩ := hp
    have hr9 : r = (sx_sgn a c) := hr9
    subst hr9
    refine sx_weq hw9 ?_
    refine sx_iload (pc := 124) hG dX8_stroke_124 4 rfl ?_
    refine sx_iload_n (pc := 126) hG dX8_stroke_126 rfl 2 rfl ?_
    refine sx_isub (pc := 127) (v := (nI d - nI b)) hG dX8_stroke_127 rfl ?_
    refine sx_callSiw (pc := 128) (n9 := 1) (As := [.int (nI d - nI b)]) (st := [.int (sx_sgn a c), .int (nI n), .ref (bd 5)]) hG (c_X8_sign l X (mw X bd (va_up sc 2 (nI 0)) (va_up (va_up (va_up (va_up av 1 (va_up (av 1) n a)) 2 (va_up (av 2) n b)) 3 (va_up (av 3) n c)) 4 (va_up (av 4) n d))) b d (by omega) (by omega)) gX8_stroke_X8_sign rfl (by decide +kernel) rfl dX8_stroke_128 ⟨rfl, rfl⟩ ⟨Nat.le_of_ble_eq_true rfl, Nat.le_of_ble_eq_true rfl⟩ (Nat.le_of_ble_eq_true rfl) ⟨Nat.le_of_ble_eq_true rfl, Nat.le_of_ble_eq_true rfl⟩ (fun r w1 hp => ?_)
    obtain ⟨hr9, hw9⟩ := hp
    have hr9 : r = (sx_sgn b d) := hr9
    subst hr9
    refine sx_weq hw9 ?_
    refine sx_callSiw (pc := 131) (n9 := 2) (As := [.int (sx_sgn a c), .int (sx_sgn b d)]) (st := [.int (nI n), .ref (bd 5)]) hG (c_X8_towards l X (mw X bd (va_up sc 2 (nI 0)) (va_up (va_up (va_up (va_up av 1 (va_up (av 1) n a)) 2 (va_up (av 2) n b)) 3 (va_up (av 3) n c)) 4 (va_up (av 4) n d))) a b c d) gX8_stroke_X8_towards rfl (by decide +kernel) rfl dX8_stroke_131 ⟨rfl, rfl⟩ ⟨Nat.le_of_ble_eq_true rfl, Nat.le_of_ble_eq_true rfl⟩ (Nat.le_of_ble_eq_true rfl) ⟨Nat.le_of_ble_eq_true rfl, Nat.le_of_ble_eq_true rfl⟩ (fun r w1 hp => ?_)
    obtain ⟨hr9, hw9⟩ := hp
    have hr9 : r = (nI (sx_dir a b c d)) := hr9
    subst hr9
    refine sx_weq hw9 ?_
    refine sx_iastN (pc := 134) (w2 := (mw X bd (va_up sc 2 (nI 0)) (va_up (va_up (va_up (va_up (va_up av 1 (va_up (av 1) n a)) 2 (va_up (av 2) n b)) 3 (va_up (av 3) n c)) 4 (va_up (av 4) n d)) 5 (va_up (av 5) n (sx_dir a b c d))))) hG 5 dX8_stroke_134 rfl (by decide) (by omega) rfl ?_
    refine sx_aload_n (pc := 135) hG dX8_stroke_135 rfl 0 rfl ?_
    refine sx_get (pc := 136) (v2 := .ref (bd 6)) (ci := 8) hG i_X8_stroke_8 6 m_X8_stroke_f25 dX8_stroke_136 rfl (by decide) 0 rfl rfl rfl ?_
    refine sx_aload_n (pc := 139) hG dX8_stroke_139 rfl 0 rfl ?_
    refine sx_get (pc := 140) (v2 := .int (nI n)) (ci := 8) hG i_X8_stroke_8 0 m_X8_stroke_f71 dX8_stroke_140 rfl (by decide) 0 rfl rfl (congrArg Value.int h0) ?_
    refine sx_iload_n (pc := 143) hG dX8_stroke_143 rfl 1 rfl ?_
    refine sx_iload_n (pc := 144) hG dX8_stroke_144 rfl 2 rfl ?_
    refine sx_iload_n (pc := 145) hG dX8_stroke_145 rfl 3 rfl ?_
    refine sx_iload (pc := 146) hG dX8_stroke_146 4 rfl ?_
    refine sx_callSiw (pc := 148) (n9 := 4) (As := [.int (nI a), .int (nI b), .int (nI c), .int (nI d)]) (st := [.int (nI n), .ref (bd 6)]) hG (c_X8_piece l X (mw X bd (va_up sc 2 (nI 0)) (va_up (va_up (va_up (va_up (va_up av 1 (va_up (av 1) n a)) 2 (va_up (av 2) n b)) 3 (va_up (av 3) n c)) 4 (va_up (av 4) n d)) 5 (va_up (av 5) n (sx_dir a b c d)))) a b c d (by omega) (by omega) (by omega) (by omega)) gX8_stroke_X8_piece rfl (by decide +kernel) rfl dX8_stroke_148 ⟨rfl, rfl⟩ ⟨Nat.le_of_ble_eq_true rfl, Nat.le_of_ble_eq_true rfl⟩ (Nat.le_of_ble_eq_true rfl) ⟨Nat.le_of_ble_eq_true rfl, Nat.le_of_ble_eq_true rfl⟩ (fun r w1 hp => ?_)
    obtain ⟨hr9, hw9⟩ := hp
    have hr9 : r = (nI (sx_piece (sx_far a c) (sx_far b d))) := hr9
    subst hr9
    refine sx_weq hw9 ?_
    refine sx_iastN (pc := 151) (w2 := (mw X bd (va_up sc 2 (nI 0)) (va_up (va_up (va_up (va_up (va_up (va_up av 1 (va_up (av 1) n a)) 2 (va_up (av 2) n b)) 3 (va_up (av 3) n c)) 4 (va_up (av 4) n d)) 5 (va_up (av 5) n (sx_dir a b c d))) 6 (va_up (av 6) n (sx_piece (sx_far a c) (sx_far b d)))))) hG 6 dX8_stroke_151 rfl (by decide) (by omega) rfl ?_
    refine sx_aload_n (pc := 152) hG dX8_stroke_152 rfl 0 rfl ?_
    refine sx_dup (pc := 153) hG dX8_stroke_153 rfl ?_
    refine sx_get (pc := 154) (v2 := .int (nI n)) (ci := 8) hG i_X8_stroke_8 0 m_X8_stroke_f71 dX8_stroke_154 rfl (by decide) 0 rfl rfl (congrArg Value.int h0) ?_
    refine sx_iconst (pc := 157) (v := nI 1) hG dX8_stroke_157 (by decide +kernel) ?_
    refine sx_iadd (pc := 158) (v := (nI (n + 1))) hG dX8_stroke_158 (nI_add n 1) ?_
    refine sx_put (pc := 159) (v := .int (nI (n + 1))) (ci := 8) (w2 := (mw X bd (va_up (va_up sc 0 (nI (n + 1))) 2 (nI 0)) (va_up (va_up (va_up (va_up (va_up (va_up av 1 (va_up (av 1) n a)) 2 (va_up (av 2) n b)) 3 (va_up (av 3) n c)) 4 (va_up (av 4) n d)) 5 (va_up (av 5) n (sx_dir a b c d))) 6 (va_up (av 6) n (sx_piece (sx_far a c) (sx_far b d)))))) hG i_X8_stroke_8 tyX8 tyX8_ok nmX8 0 m_X8_stroke_f71 dX8_stroke_159 rfl (by decide) 0 rfl rfl rfl rfl (Nat.le_of_ble_eq_true rfl) rfl ?_
    refine sx_aload_n (pc := 162) hG dX8_stroke_162 rfl 0 rfl ?_
    refine sx_get (pc := 163) (v2 := .int (nI (n + 1))) (ci := 8) hG i_X8_stroke_8 0 m_X8_stroke_f71 dX8_stroke_163 rfl (by decide) 0 rfl rfl rfl ?_
    refine sx_iconst (pc := 166) (v := nI 1) hG dX8_stroke_166 (by decide +kernel) ?_
    refine sx_isub (pc := 167) (v := (nI ((n + 1) - 1))) hG dX8_stroke_167 (pk_sub (by omega)) ?_
    exact hret _ _ _ _ dX8_stroke_168 rfl ⟨congrArg nI (by omega), rfl⟩
  refine sx_aload_n (pc := 0) hG dX8_stroke_0 rfl 0 rfl ?_
  refine sx_iconst (pc := 1) (v := nI 0) hG dX8_stroke_1 (by decide +kernel) ?_
  refine sx_put (pc := 2) (v := .int (nI 0)) (ci := 8) (w2 := (mw X bd (va_up sc 2 (nI 0)) av)) hG i_X8_stroke_8 tyX8 tyX8_ok nmX8 9 m_X8_stroke_f68 dX8_stroke_2 rfl (by decide) 0 rfl rfl rfl rfl (Nat.le_of_ble_eq_true rfl) rfl ?_
  refine sx_aload_n (pc := 5) hG dX8_stroke_5 rfl 0 rfl ?_
  refine sx_get (pc := 6) (v2 := .int (nI n)) (ci := 8) hG i_X8_stroke_8 0 m_X8_stroke_f71 dX8_stroke_6 rfl (by decide) 0 rfl rfl (congrArg Value.int h0) ?_
  refine sx_bipush (pc := 9) (v := nI 9) hG dX8_stroke_9 (by decide +kernel) ?_
  refine sx_icmp_eq (pc := 11) (tgt := 67) (B := n = 9) hG dX8_stroke_11 (by decide) (nI_eq (by omega) (by omega)) (fun c11 => ?_) (fun c11 => ?_)
  · skip
    exact absurd c11 (by omega)
  · skip
    refine sx_iload_n (pc := 14) hG dX8_stroke_14 rfl 1 rfl ?_
    refine sx_iload_n (pc := 15) hG dX8_stroke_15 rfl 2 rfl ?_
    refine sx_callSiw (pc := 16) (n9 := 2) (As := [.int (nI a), .int (nI b)]) (st := []) hG (c_X8_isPoint l X (mw X bd (va_up sc 2 (nI 0)) av) (nI a) (nI b)) gX8_stroke_X8_isPoint rfl (by decide +kernel) rfl dX8_stroke_16 ⟨rfl, rfl⟩ ⟨Nat.le_of_ble_eq_true rfl, Nat.le_of_ble_eq_true rfl⟩ (Nat.le_of_ble_eq_true rfl) ⟨Nat.le_of_ble_eq_true rfl, Nat.le_of_ble_eq_true rfl⟩ (fun r w1 hp => ?_)
    obtain ⟨hr9, hw9⟩ := hp
    rw [sx_ptN_ok (by omega) (by omega)] at hr9
    subst hr9
    refine sx_weq hw9 ?_
    refine sx_if_eq (pc := 19) (tgt := 67) (B := 1 = 0) hG dX8_stroke_19 (by decide) (sx_eq0 (by omega)) (fun c19 => ?_) (fun c19 => ?_)
    · skip
      exact absurd c19 (by decide)
    · skip
      refine sx_iload_n (pc := 22) hG dX8_stroke_22 rfl 3 rfl ?_
      refine sx_iload (pc := 23) hG dX8_stroke_23 4 rfl ?_
      refine sx_callSiw (pc := 25) (n9 := 2) (As := [.int (nI c), .int (nI d)]) (st := []) hG (c_X8_isPoint l X (mw X bd (va_up sc 2 (nI 0)) av) (nI c) (nI d)) gX8_stroke_X8_isPoint rfl (by decide +kernel) rfl dX8_stroke_25 ⟨rfl, rfl⟩ ⟨Nat.le_of_ble_eq_true rfl, Nat.le_of_ble_eq_true rfl⟩ (Nat.le_of_ble_eq_true rfl) ⟨Nat.le_of_ble_eq_true rfl, Nat.le_of_ble_eq_true rfl⟩ (fun r w1 hp => ?_)
      obtain ⟨hr9, hw9⟩ := hp
      rw [sx_ptN_ok (by omega) (by omega)] at hr9
      subst hr9
      refine sx_weq hw9 ?_
      refine sx_if_eq (pc := 28) (tgt := 67) (B := 1 = 0) hG dX8_stroke_28 (by decide) (sx_eq0 (by omega)) (fun c28 => ?_) (fun c28 => ?_)
      · skip
        exact absurd c28 (by decide)
      · skip
        refine sx_iload_n (pc := 31) hG dX8_stroke_31 rfl 1 rfl ?_
        refine sx_iload_n (pc := 32) hG dX8_stroke_32 rfl 3 rfl ?_
        refine sx_icmp_ne (pc := 33) (tgt := 42) (B := a = c) hG dX8_stroke_33 (by decide) (nI_eq (by omega) (by omega)) (fun c33 => ?_) (fun c33 => ?_)
        · skip
          refine sx_iload_n (pc := 42) hG dX8_stroke_42 rfl 1 rfl ?_
          refine sx_iload_n (pc := 43) hG dX8_stroke_43 rfl 3 rfl ?_
          refine sx_icmp_eq (pc := 44) (tgt := 69) (B := a = c) hG dX8_stroke_44 (by decide) (nI_eq (by omega) (by omega)) (fun c44 => ?_) (fun c44 => ?_)
          · skip
            refine join_s
          · skip
            refine sx_iload_n (pc := 47) hG dX8_stroke_47 rfl 2 rfl ?_
            refine sx_iload (pc := 48) hG dX8_stroke_48 4 rfl ?_
            refine sx_icmp_eq (pc := 50) (tgt := 69) (B := b = d) hG dX8_stroke_50 (by decide) (nI_eq (by omega) (by omega)) (fun c50 => ?_) (fun c50 => ?_)
            · skip
              refine join_s
            · skip
              refine sx_iload_n (pc := 53) hG dX8_stroke_53 rfl 1 rfl ?_
              refine sx_iload_n (pc := 54) hG dX8_stroke_54 rfl 3 rfl ?_
              refine sx_callSiw (pc := 55) (n9 := 2) (As := [.int (nI a), .int (nI c)]) (st := []) hG (c_X8_far l X (mw X bd (va_up sc 2 (nI 0)) av) a c (by omega) (by omega)) gX8_stroke_X8_far rfl (by decide +kernel) rfl dX8_stroke_55 ⟨rfl, rfl⟩ ⟨Nat.le_of_ble_eq_true rfl, Nat.le_of_ble_eq_true rfl⟩ (Nat.le_of_ble_eq_true rfl) ⟨Nat.le_of_ble_eq_true rfl, Nat.le_of_ble_eq_true rfl⟩ (fun r w1 hp => ?_)
              obtain ⟨hr9, hw9⟩ := hp
              have hr9 : r = (nI (sx_far a c)) := hr9
              subst hr9
              refine sx_weq hw9 ?_
              refine sx_iload_n (pc := 58) hG dX8_stroke_58 rfl 2 rfl ?_
              refine sx_iload (pc := 59) hG dX8_stroke_59 4 rfl ?_
              refine sx_callSiw (pc := 61) (n9 := 2) (As := [.int (nI b), .int (nI d)]) (st := [.int (nI (sx_far a c))]) hG (c_X8_far l X (mw X bd (va_up sc 2 (nI 0)) av) b d (by omega) (by omega)) gX8_stroke_X8_far rfl (by decide +kernel) rfl dX8_stroke_61 ⟨rfl, rfl⟩ ⟨Nat.le_of_ble_eq_true rfl, Nat.le_of_ble_eq_true rfl⟩ (Nat.le_of_ble_eq_true rfl) ⟨Nat.le_of_ble_eq_true rfl, Nat.le_of_ble_eq_true rfl⟩ (fun r w1 hp => ?_)
              obtain ⟨hr9, hw9⟩ := hp
              have hr9 : r = (nI (sx_far b d)) := hr9
              subst hr9
              refine sx_weq hw9 ?_
              refine sx_icmp_eq (pc := 64) (tgt := 69) (B := (sx_far a c) = (sx_far b d)) hG dX8_stroke_64 (by decide) (nI_eq (by omega) (by omega)) (fun c64 => ?_) (fun c64 => ?_)
              · skip
                refine join_s
              · skip
                exact absurd c64 (by omega)
        · skip
          refine sx_iload_n (pc := 36) hG dX8_stroke_36 rfl 2 rfl ?_
          refine sx_iload (pc := 37) hG dX8_stroke_37 4 rfl ?_
          refine sx_icmp_eq (pc := 39) (tgt := 67) (B := b = d) hG dX8_stroke_39 (by decide) (nI_eq (by omega) (by omega)) (fun c39 => ?_) (fun c39 => ?_)
          · skip
            exact absurd ⟨c33, c39⟩ hs2.1
          · skip
            refine sx_iload_n (pc := 42) hG dX8_stroke_42 rfl 1 rfl ?_
            refine sx_iload_n (pc := 43) hG dX8_stroke_43 rfl 3 rfl ?_
            refine sx_icmp_eq (pc := 44) (tgt := 69) (B := a = c) hG dX8_stroke_44 (by decide) (nI_eq (by omega) (by omega)) (fun c44 => ?_) (fun c44 => ?_)
            · skip
              refine join_s
            · skip
              refine sx_iload_n (pc := 47) hG dX8_stroke_47 rfl 2 rfl ?_
              refine sx_iload (pc := 48) hG dX8_stroke_48 4 rfl ?_
              refine sx_icmp_eq (pc := 50) (tgt := 69) (B := b = d) hG dX8_stroke_50 (by decide) (nI_eq (by omega) (by omega)) (fun c50 => ?_) (fun c50 => ?_)
              · skip
                refine join_s
              · skip
                refine sx_iload_n (pc := 53) hG dX8_stroke_53 rfl 1 rfl ?_
                refine sx_iload_n (pc := 54) hG dX8_stroke_54 rfl 3 rfl ?_
                refine sx_callSiw (pc := 55) (n9 := 2) (As := [.int (nI a), .int (nI c)]) (st := []) hG (c_X8_far l X (mw X bd (va_up sc 2 (nI 0)) av) a c (by omega) (by omega)) gX8_stroke_X8_far rfl (by decide +kernel) rfl dX8_stroke_55 ⟨rfl, rfl⟩ ⟨Nat.le_of_ble_eq_true rfl, Nat.le_of_ble_eq_true rfl⟩ (Nat.le_of_ble_eq_true rfl) ⟨Nat.le_of_ble_eq_true rfl, Nat.le_of_ble_eq_true rfl⟩ (fun r w1 hp => ?_)
                obtain ⟨hr9, hw9⟩ := hp
                have hr9 : r = (nI (sx_far a c)) := hr9
                subst hr9
                refine sx_weq hw9 ?_
                refine sx_iload_n (pc := 58) hG dX8_stroke_58 rfl 2 rfl ?_
                refine sx_iload (pc := 59) hG dX8_stroke_59 4 rfl ?_
                refine sx_callSiw (pc := 61) (n9 := 2) (As := [.int (nI b), .int (nI d)]) (st := [.int (nI (sx_far a c))]) hG (c_X8_far l X (mw X bd (va_up sc 2 (nI 0)) av) b d (by omega) (by omega)) gX8_stroke_X8_far rfl (by decide +kernel) rfl dX8_stroke_61 ⟨rfl, rfl⟩ ⟨Nat.le_of_ble_eq_true rfl, Nat.le_of_ble_eq_true rfl⟩ (Nat.le_of_ble_eq_true rfl) ⟨Nat.le_of_ble_eq_true rfl, Nat.le_of_ble_eq_true rfl⟩ (fun r w1 hp => ?_)
                obtain ⟨hr9, hw9⟩ := hp
                have hr9 : r = (nI (sx_far b d)) := hr9
                subst hr9
                refine sx_weq hw9 ?_
                refine sx_icmp_eq (pc := 64) (tgt := 69) (B := (sx_far a c) = (sx_far b d)) hG dX8_stroke_64 (by decide) (nI_eq (by omega) (by omega)) (fun c64 => ?_) (fun c64 => ?_)
                · skip
                  refine join_s
                · skip
                  exact absurd c64 (by omega)

set_option maxHeartbeats 4000000 in
set_option maxRecDepth 100000 in
theorem c_X8_stroke_no (l : Launch) (X : sx_X) (bd : Nat → Nat) (sc : Nat → Int32) (av : Nat → Nat → Nat) (a b c d : Int32) (n : Nat) (hn : n ≤ 9) (h0 : sc 0 = nI n) (hno : sx_no n a b c d) : sx_Mi l yX8_stroke wsX8_stroke { frames := 1, cells := 0, slots := 0, locals := 21 } X [.ref (bd 0), .int a, .int b, .int c, .int d] (mw X bd sc av) (fun r w => r = -1 ∧ w = mw X bd (va_up sc 2 (nI 0)) av) 0 0 := by
  refine sx_entI (own := RX8) (nL := 5) (by decide +kernel) rfl rfl (Nat.le_of_ble_eq_true rfl) ?_
  intro G hG hN hret
  show sx_W l X G 0 0 0 [(0, .ref (bd 0)), (1, .int a), (2, .int b), (3, .int c), (4, .int d)] [] (mw X bd sc av)
  have hl1 := sx_ptN_le a b
  have hl2 := sx_ptN_le c d
  refine sx_aload_n (pc := 0) hG dX8_stroke_0 rfl 0 rfl ?_
  refine sx_iconst (pc := 1) (v := nI 0) hG dX8_stroke_1 (by decide +kernel) ?_
  refine sx_put (pc := 2) (v := .int (nI 0)) (ci := 8) (w2 := (mw X bd (va_up sc 2 (nI 0)) av)) hG i_X8_stroke_8 tyX8 tyX8_ok nmX8 9 m_X8_stroke_f68 dX8_stroke_2 rfl (by decide) 0 rfl rfl rfl rfl (Nat.le_of_ble_eq_true rfl) rfl ?_
  refine sx_aload_n (pc := 5) hG dX8_stroke_5 rfl 0 rfl ?_
  refine sx_get (pc := 6) (v2 := .int (nI n)) (ci := 8) hG i_X8_stroke_8 0 m_X8_stroke_f71 dX8_stroke_6 rfl (by decide) 0 rfl rfl (congrArg Value.int h0) ?_
  refine sx_bipush (pc := 9) (v := nI 9) hG dX8_stroke_9 (by decide +kernel) ?_
  refine sx_icmp_eq (pc := 11) (tgt := 67) (B := n = 9) hG dX8_stroke_11 (by decide) (nI_eq (by omega) (by omega)) (fun c11 => ?_) (fun c11 => ?_)
  · skip
    refine sx_iconst (pc := 67) (v := (-1)) hG dX8_stroke_67 (by decide +kernel) ?_
    exact hret _ _ _ _ dX8_stroke_68 rfl ⟨rfl, rfl⟩
  · skip
    refine sx_iload_n (pc := 14) hG dX8_stroke_14 rfl 1 rfl ?_
    refine sx_iload_n (pc := 15) hG dX8_stroke_15 rfl 2 rfl ?_
    refine sx_callSiw (pc := 16) (n9 := 2) (As := [.int a, .int b]) (st := []) hG (c_X8_isPoint l X (mw X bd (va_up sc 2 (nI 0)) av) a b) gX8_stroke_X8_isPoint rfl (by decide +kernel) rfl dX8_stroke_16 ⟨rfl, rfl⟩ ⟨Nat.le_of_ble_eq_true rfl, Nat.le_of_ble_eq_true rfl⟩ (Nat.le_of_ble_eq_true rfl) ⟨Nat.le_of_ble_eq_true rfl, Nat.le_of_ble_eq_true rfl⟩ (fun r w1 hp => ?_)
    obtain ⟨hr9, hw9⟩ := hp
    have hr9 : r = (nI (sx_ptN a b)) := hr9
    subst hr9
    refine sx_weq hw9 ?_
    refine sx_if_eq (pc := 19) (tgt := 67) (B := (sx_ptN a b) = 0) hG dX8_stroke_19 (by decide) (sx_eq0 (by omega)) (fun c19 => ?_) (fun c19 => ?_)
    · skip
      refine sx_iconst (pc := 67) (v := (-1)) hG dX8_stroke_67 (by decide +kernel) ?_
      exact hret _ _ _ _ dX8_stroke_68 rfl ⟨rfl, rfl⟩
    · skip
      refine sx_iload_n (pc := 22) hG dX8_stroke_22 rfl 3 rfl ?_
      refine sx_iload (pc := 23) hG dX8_stroke_23 4 rfl ?_
      refine sx_callSiw (pc := 25) (n9 := 2) (As := [.int c, .int d]) (st := []) hG (c_X8_isPoint l X (mw X bd (va_up sc 2 (nI 0)) av) c d) gX8_stroke_X8_isPoint rfl (by decide +kernel) rfl dX8_stroke_25 ⟨rfl, rfl⟩ ⟨Nat.le_of_ble_eq_true rfl, Nat.le_of_ble_eq_true rfl⟩ (Nat.le_of_ble_eq_true rfl) ⟨Nat.le_of_ble_eq_true rfl, Nat.le_of_ble_eq_true rfl⟩ (fun r w1 hp => ?_)
      obtain ⟨hr9, hw9⟩ := hp
      have hr9 : r = (nI (sx_ptN c d)) := hr9
      subst hr9
      refine sx_weq hw9 ?_
      refine sx_if_eq (pc := 28) (tgt := 67) (B := (sx_ptN c d) = 0) hG dX8_stroke_28 (by decide) (sx_eq0 (by omega)) (fun c28 => ?_) (fun c28 => ?_)
      · skip
        refine sx_iconst (pc := 67) (v := (-1)) hG dX8_stroke_67 (by decide +kernel) ?_
        exact hret _ _ _ _ dX8_stroke_68 rfl ⟨rfl, rfl⟩
      · skip
        obtain ⟨⟨p, rfl, hp⟩, ⟨q, rfl, hq⟩⟩ := sx_ptN_ne c19
        obtain ⟨⟨u, rfl, hu⟩, ⟨v, rfl, hv⟩⟩ := sx_ptN_ne c28
        refine sx_iload_n (pc := 31) hG dX8_stroke_31 rfl 1 rfl ?_
        refine sx_iload_n (pc := 32) hG dX8_stroke_32 rfl 3 rfl ?_
        refine sx_icmp_ne (pc := 33) (tgt := 42) (B := p = u) hG dX8_stroke_33 (by decide) (nI_eq (by omega) (by omega)) (fun c33 => ?_) (fun c33 => ?_)
        · skip
          refine sx_iload_n (pc := 42) hG dX8_stroke_42 rfl 1 rfl ?_
          refine sx_iload_n (pc := 43) hG dX8_stroke_43 rfl 3 rfl ?_
          refine sx_icmp_eq (pc := 44) (tgt := 69) (B := p = u) hG dX8_stroke_44 (by decide) (nI_eq (by omega) (by omega)) (fun c44 => ?_) (fun c44 => ?_)
          · skip
            exact absurd (by unfold sx_str; omega) (hno p q u v rfl rfl rfl rfl hp hq hu hv (by omega))
          · skip
            refine sx_iload_n (pc := 47) hG dX8_stroke_47 rfl 2 rfl ?_
            refine sx_iload (pc := 48) hG dX8_stroke_48 4 rfl ?_
            refine sx_icmp_eq (pc := 50) (tgt := 69) (B := q = v) hG dX8_stroke_50 (by decide) (nI_eq (by omega) (by omega)) (fun c50 => ?_) (fun c50 => ?_)
            · skip
              exact absurd (by unfold sx_str; omega) (hno p q u v rfl rfl rfl rfl hp hq hu hv (by omega))
            · skip
              have hf1 := sx_far_le p u 10 (by omega) (by omega)
              have hf2 := sx_far_le q v 10 (by omega) (by omega)
              refine sx_iload_n (pc := 53) hG dX8_stroke_53 rfl 1 rfl ?_
              refine sx_iload_n (pc := 54) hG dX8_stroke_54 rfl 3 rfl ?_
              refine sx_callSiw (pc := 55) (n9 := 2) (As := [.int (nI p), .int (nI u)]) (st := []) hG (c_X8_far l X (mw X bd (va_up sc 2 (nI 0)) av) p u (by omega) (by omega)) gX8_stroke_X8_far rfl (by decide +kernel) rfl dX8_stroke_55 ⟨rfl, rfl⟩ ⟨Nat.le_of_ble_eq_true rfl, Nat.le_of_ble_eq_true rfl⟩ (Nat.le_of_ble_eq_true rfl) ⟨Nat.le_of_ble_eq_true rfl, Nat.le_of_ble_eq_true rfl⟩ (fun r w1 hp => ?_)
              obtain ⟨hr9, hw9⟩ := hp
              have hr9 : r = (nI (sx_far p u)) := hr9
              subst hr9
              refine sx_weq hw9 ?_
              refine sx_iload_n (pc := 58) hG dX8_stroke_58 rfl 2 rfl ?_
              refine sx_iload (pc := 59) hG dX8_stroke_59 4 rfl ?_
              refine sx_callSiw (pc := 61) (n9 := 2) (As := [.int (nI q), .int (nI v)]) (st := [.int (nI (sx_far p u))]) hG (c_X8_far l X (mw X bd (va_up sc 2 (nI 0)) av) q v (by omega) (by omega)) gX8_stroke_X8_far rfl (by decide +kernel) rfl dX8_stroke_61 ⟨rfl, rfl⟩ ⟨Nat.le_of_ble_eq_true rfl, Nat.le_of_ble_eq_true rfl⟩ (Nat.le_of_ble_eq_true rfl) ⟨Nat.le_of_ble_eq_true rfl, Nat.le_of_ble_eq_true rfl⟩ (fun r w1 hp => ?_)
              obtain ⟨hr9, hw9⟩ := hp
              have hr9 : r = (nI (sx_far q v)) := hr9
              subst hr9
              refine sx_weq hw9 ?_
              refine sx_icmp_eq (pc := 64) (tgt := 69) (B := (sx_far p u) = (sx_far q v)) hG dX8_stroke_64 (by decide) (nI_eq (by omega) (by omega)) (fun c64 => ?_) (fun c64 => ?_)
              · skip
                exact absurd (by unfold sx_str; omega) (hno p q u v rfl rfl rfl rfl hp hq hu hv (by omega))
              · skip
                refine sx_iconst (pc := 67) (v := (-1)) hG dX8_stroke_67 (by decide +kernel) ?_
                exact hret _ _ _ _ dX8_stroke_68 rfl ⟨rfl, rfl⟩
        · skip
          refine sx_iload_n (pc := 36) hG dX8_stroke_36 rfl 2 rfl ?_
          refine sx_iload (pc := 37) hG dX8_stroke_37 4 rfl ?_
          refine sx_icmp_eq (pc := 39) (tgt := 67) (B := q = v) hG dX8_stroke_39 (by decide) (nI_eq (by omega) (by omega)) (fun c39 => ?_) (fun c39 => ?_)
          · skip
            refine sx_iconst (pc := 67) (v := (-1)) hG dX8_stroke_67 (by decide +kernel) ?_
            exact hret _ _ _ _ dX8_stroke_68 rfl ⟨rfl, rfl⟩
          · skip
            refine sx_iload_n (pc := 42) hG dX8_stroke_42 rfl 1 rfl ?_
            refine sx_iload_n (pc := 43) hG dX8_stroke_43 rfl 3 rfl ?_
            refine sx_icmp_eq (pc := 44) (tgt := 69) (B := p = u) hG dX8_stroke_44 (by decide) (nI_eq (by omega) (by omega)) (fun c44 => ?_) (fun c44 => ?_)
            · skip
              exact absurd (by unfold sx_str; omega) (hno p q u v rfl rfl rfl rfl hp hq hu hv (by omega))
            · skip
              refine sx_iload_n (pc := 47) hG dX8_stroke_47 rfl 2 rfl ?_
              refine sx_iload (pc := 48) hG dX8_stroke_48 4 rfl ?_
              refine sx_icmp_eq (pc := 50) (tgt := 69) (B := q = v) hG dX8_stroke_50 (by decide) (nI_eq (by omega) (by omega)) (fun c50 => ?_) (fun c50 => ?_)
              · skip
                exact absurd (by unfold sx_str; omega) (hno p q u v rfl rfl rfl rfl hp hq hu hv (by omega))
              · skip
                have hf1 := sx_far_le p u 10 (by omega) (by omega)
                have hf2 := sx_far_le q v 10 (by omega) (by omega)
                refine sx_iload_n (pc := 53) hG dX8_stroke_53 rfl 1 rfl ?_
                refine sx_iload_n (pc := 54) hG dX8_stroke_54 rfl 3 rfl ?_
                refine sx_callSiw (pc := 55) (n9 := 2) (As := [.int (nI p), .int (nI u)]) (st := []) hG (c_X8_far l X (mw X bd (va_up sc 2 (nI 0)) av) p u (by omega) (by omega)) gX8_stroke_X8_far rfl (by decide +kernel) rfl dX8_stroke_55 ⟨rfl, rfl⟩ ⟨Nat.le_of_ble_eq_true rfl, Nat.le_of_ble_eq_true rfl⟩ (Nat.le_of_ble_eq_true rfl) ⟨Nat.le_of_ble_eq_true rfl, Nat.le_of_ble_eq_true rfl⟩ (fun r w1 hp => ?_)
                obtain ⟨hr9, hw9⟩ := hp
                have hr9 : r = (nI (sx_far p u)) := hr9
                subst hr9
                refine sx_weq hw9 ?_
                refine sx_iload_n (pc := 58) hG dX8_stroke_58 rfl 2 rfl ?_
                refine sx_iload (pc := 59) hG dX8_stroke_59 4 rfl ?_
                refine sx_callSiw (pc := 61) (n9 := 2) (As := [.int (nI q), .int (nI v)]) (st := [.int (nI (sx_far p u))]) hG (c_X8_far l X (mw X bd (va_up sc 2 (nI 0)) av) q v (by omega) (by omega)) gX8_stroke_X8_far rfl (by decide +kernel) rfl dX8_stroke_61 ⟨rfl, rfl⟩ ⟨Nat.le_of_ble_eq_true rfl, Nat.le_of_ble_eq_true rfl⟩ (Nat.le_of_ble_eq_true rfl) ⟨Nat.le_of_ble_eq_true rfl, Nat.le_of_ble_eq_true rfl⟩ (fun r w1 hp => ?_)
                obtain ⟨hr9, hw9⟩ := hp
                have hr9 : r = (nI (sx_far q v)) := hr9
                subst hr9
                refine sx_weq hw9 ?_
                refine sx_icmp_eq (pc := 64) (tgt := 69) (B := (sx_far p u) = (sx_far q v)) hG dX8_stroke_64 (by decide) (nI_eq (by omega) (by omega)) (fun c64 => ?_) (fun c64 => ?_)
                · skip
                  exact absurd (by unfold sx_str; omega) (hno p q u v rfl rfl rfl rfl hp hq hu hv (by omega))
                · skip
                  refine sx_iconst (pc := 67) (v := (-1)) hG dX8_stroke_67 (by decide +kernel) ?_
                  exact hret _ _ _ _ dX8_stroke_68 rfl ⟨rfl, rfl⟩

theorem i_X8_work_8 : ∀ w ∈ u_ws RX8 TX8 24, w ∈ wsX8_work := by decide +kernel
theorem m_X8_work_f71 : Cond.fieldLink RX8 71 (TX8 0).1 (TX8 0).2.1 (TX8 0).2.2.1 ∈ wsX8_work := by decide +kernel
theorem m_X8_work_f35 : Cond.fieldLink RX8 35 (TX8 10).1 (TX8 10).2.1 (TX8 10).2.2.1 ∈ wsX8_work := by decide +kernel
theorem m_X8_work_f38 : Cond.fieldLink RX8 38 (TX8 11).1 (TX8 11).2.1 (TX8 11).2.2.1 ∈ wsX8_work := by decide +kernel
theorem m_X8_work_c111 : Cond.constant RX8 111 (2000000000) ∈ wsX8_work := by decide +kernel
set_option maxHeartbeats 4000000 in
set_option maxRecDepth 100000 in
theorem c_X8_work (l : Launch) (X : sx_X) (bd : Nat → Nat) (sc : Nat → Int32) (av : Nat → Nat → Nat) (n : Nat) (hn : n ≤ 9) (h0 : sc 0 = nI n) (hg : mG av) (hL0 : ∀ j, av 8 j ≤ 2000000000) (hB0 : ∀ j, av 9 j ≤ 2000000000) : sx_Mv l yX8_work wsX8_work { frames := 3, cells := 0, slots := 0, locals := 70 } X [.ref (bd 0)] (mw X bd sc av) (fun w => ∃ L B : Nat → Nat, w = mw X bd sc (va_up (va_up av 8 L) 9 B) ∧ mT av n L B (2 ^ n) ∧ (∀ j, L j ≤ 2000000000) ∧ ∀ j, B j ≤ 2000000000) 0 0 := by
  refine sx_entV (own := RX8) (nL := 6) (by decide +kernel) rfl rfl (Nat.le_of_ble_eq_true rfl) ?_
  intro G hG hN hini hret
  show sx_W l X G 0 0 0 [(0, .ref (bd 0))] [] (mw X bd sc av)
  have hp := sx_p9 hn
  have loop_S : ∀ (fuel : Nat), ∀ (s : Nat) (L B : Nat → Nat), (s ≤ 2 ^ n) → (mT av n L B s) → (∀ j, L j ≤ 2000000000) → (∀ j, B j ≤ 2000000000) → 2 ^ n - s < fuel → sx_W l X G 0 0 2 [(0, .ref (bd 0)), (1, .int (nI s))] [] (mw X bd sc (va_up (va_up av 8 L) 9 B)) := by
    intro fuel
    induction fuel with
    | zero => intro s L B hs hT hLb hBb hm; exact absurd hm (Nat.not_lt_zero _)
    | succ fuel ih_S =>
      intro s L B hs hT hLb hBb hm_S
      have loop_A : ∀ (fuel : Nat), ∀ (a : Nat) (L1 : Nat → Nat), (s < 2 ^ n) → (a ≤ 2 * n) → (mT av n L1 B s) → (∀ q, q < a → L1 (18 * s + q) = mLv av L1 s q (2 * n)) → (∀ j, L1 j ≤ 2000000000) → 2 * n - a < fuel → sx_W l X G 0 0 14 [(0, .ref (bd 0)), (1, .int (nI s)), (2, .int (nI a))] [] (mw X bd sc (va_up (va_up av 8 L1) 9 B)) := by
        intro fuel
        induction fuel with
        | zero => intro a L1 hs2 ha hT1 hA1 hLb1 hm; exact absurd hm (Nat.not_lt_zero _)
        | succ fuel ih_A =>
          intro a L1 hs2 ha hT1 hA1 hLb1 hm_A
          have loop_b : ∀ (fuel : Nat), ∀ (b best : Nat), (a < 2 * n) → (b ≤ 2 * n) → (best = mLv av L1 s a b) → 2 * n - b < fuel → sx_W l X G 0 0 38 [(0, .ref (bd 0)), (1, .int (nI s)), (2, .int (nI a)), (3, .int (nI best)), (4, .int (nI b))] [] (mw X bd sc (va_up (va_up av 8 L1) 9 B)) := by
            intro fuel
            induction fuel with
            | zero => intro b best ha2 hb hbest hm; exact absurd hm (Nat.not_lt_zero _)
            | succ fuel ih_b =>
              intro b best ha2 hb hbest hm_b
              have hbl : best ≤ 2000000000 := by subst hbest; exact Nat.le_trans (sx_mn_le _ _ _ _) (mI_le s)
              have hd9 := sx_diff_le s (2 ^ (b / 2))
              have hb1 := sx_bit_le s (b / 2)
              have hgo := mGo_le hg a b
              have hL9 := hLb1 (18 * sx_diff s (2 ^ (b / 2)) + b)
              have hdv := sx_div_lt (b / 2) (show s < 512 by omega)
              refine sx_iload (pc := 38) hG dX8_work_38 4 rfl ?_
              refine sx_iconst (pc := 40) (v := nI 2) hG dX8_work_40 (by decide +kernel) ?_
              refine sx_aload_n (pc := 41) hG dX8_work_41 rfl 0 rfl ?_
              refine sx_get (pc := 42) (v2 := .int (nI n)) (ci := 8) hG i_X8_work_8 0 m_X8_work_f71 dX8_work_42 rfl (by decide) 0 rfl rfl (congrArg Value.int h0) ?_
              refine sx_imul (pc := 45) (v := (nI (2 * n))) hG dX8_work_45 (pk_mul 2 n) ?_
              refine sx_icmp_ge (pc := 46) (tgt := 113) (B := (2 * n) ≤ b) hG dX8_work_46 (by decide) (nI_leI (by omega) (by omega)) (fun c46 => ?_) (fun c46 => ?_)
              · skip
                refine sx_aload_n (pc := 113) hG dX8_work_113 rfl 0 rfl ?_
                refine sx_get (pc := 114) (v2 := .ref (bd 8)) (ci := 8) hG i_X8_work_8 10 m_X8_work_f35 dX8_work_114 rfl (by decide) 0 rfl rfl rfl ?_
                refine sx_bipush (pc := 117) (v := nI 18) hG dX8_work_117 (by decide +kernel) ?_
                refine sx_iload_n (pc := 119) hG dX8_work_119 rfl 1 rfl ?_
                refine sx_imul (pc := 120) (v := (nI (18 * s))) hG dX8_work_120 (pk_mul 18 s) ?_
                refine sx_iload_n (pc := 121) hG dX8_work_121 rfl 2 rfl ?_
                refine sx_iadd (pc := 122) (v := (nI (18 * s + a))) hG dX8_work_122 (nI_add (18 * s) a) ?_
                refine sx_iload_n (pc := 123) hG dX8_work_123 rfl 3 rfl ?_
                refine sx_iastN (pc := 124) (w2 := (mw X bd sc (va_up (va_up av 8 (va_up L1 (18 * s + a) best)) 9 B))) hG 8 dX8_work_124 rfl (by decide) (by omega) rfl ?_
                refine sx_iinc (pc := 125) (v := (nI (a + 1))) (lv2 := [(0, .ref (bd 0)), (1, .int (nI s)), (2, .int (nI (a + 1))), (3, .int (nI best)), (4, .int (nI b))]) hG [1, 2, 0, 3, 4] dX8_work_125 2 rfl (sx_inc a) hN (by decide) rfl ?_
                refine sx_goto (pc := 128) (tgt := 14) hG dX8_work_128 (by decide) ?_
                refine sx_lsub [0, 1, 2] rfl ?_
                refine ih_A (a + 1) (va_up L1 (18 * s + a) best) hs2 (by omega) (mT_up hn (by omega) (by omega) hT1) (mA_up hn (by omega) hA1 (by subst hbest; rw [show 2 * n = b by omega])) (fun j => by unfold va_up; split; subst hbest; exact Nat.le_trans (sx_mn_le _ _ _ _) (mI_le s); exact hLb1 j) (by omega)
              · skip
                refine sx_iload_n (pc := 49) hG dX8_work_49 rfl 1 rfl ?_
                refine sx_iload (pc := 50) hG dX8_work_50 4 rfl ?_
                refine sx_iconst (pc := 52) (v := nI 2) hG dX8_work_52 (by decide +kernel) ?_
                refine sx_idiv (pc := 53) (v := (nI (b / 2))) hG dX8_work_53 (nI_ne0 (by decide) (by decide)) (pk_div (by omega) (by decide) (by decide)) ?_
                refine sx_ishr (pc := 54) (v := (nI (s / 2 ^ (b / 2)))) hG dX8_work_54 (sx_shr (by omega) (by omega)) ?_
                refine sx_iconst (pc := 55) (v := nI 1) hG dX8_work_55 (by decide +kernel) ?_
                refine sx_iand (pc := 56) (v := (nI (sx_bit s (b / 2)))) hG dX8_work_56 (sx_bit1 (by omega)) ?_
                refine sx_if_ne (pc := 57) (tgt := 63) (B := (sx_bit s (b / 2)) = 0) hG dX8_work_57 (by decide) (sx_eq0 (by omega)) (fun c57 => ?_) (fun c57 => ?_)
                · skip
                  refine sx_aload_n (pc := 63) hG dX8_work_63 rfl 0 rfl ?_
                  refine sx_iload_n (pc := 64) hG dX8_work_64 rfl 2 rfl ?_
                  refine sx_iload (pc := 65) hG dX8_work_65 4 rfl ?_
                  refine sx_callViw (pc := 67) (n9 := 2) (As := [.int (nI a), .int (nI b)]) (st := []) (b := (bd 0)) (ci := 8) hG (c_X8_goes l X bd sc (va_up (va_up av 8 L1) 9 B) a b (by omega) (by omega) hg) gX8_work_X8_goes rfl (by decide +kernel) rfl 0 rfl rfl rfl dX8_work_67 ⟨rfl, rfl⟩ ⟨Nat.le_of_ble_eq_true rfl, Nat.le_of_ble_eq_true rfl⟩ (Nat.le_of_ble_eq_true rfl) ⟨Nat.le_of_ble_eq_true rfl, Nat.le_of_ble_eq_true rfl⟩ (fun r w1 hp => ?_)
                  obtain ⟨hr9, hw9⟩ := hp
                  have hr9 : r = (nI (mGo av a b)) := hr9
                  subst hr9
                  refine sx_weq hw9 ?_
                  refine sx_aload_n (pc := 70) hG dX8_work_70 rfl 0 rfl ?_
                  refine sx_get (pc := 71) (v2 := .ref (bd 8)) (ci := 8) hG i_X8_work_8 10 m_X8_work_f35 dX8_work_71 rfl (by decide) 0 rfl rfl rfl ?_
                  refine sx_bipush (pc := 74) (v := nI 18) hG dX8_work_74 (by decide +kernel) ?_
                  refine sx_iload_n (pc := 76) hG dX8_work_76 rfl 1 rfl ?_
                  refine sx_iconst (pc := 77) (v := nI 1) hG dX8_work_77 (by decide +kernel) ?_
                  refine sx_iload (pc := 78) hG dX8_work_78 4 rfl ?_
                  refine sx_iconst (pc := 80) (v := nI 2) hG dX8_work_80 (by decide +kernel) ?_
                  refine sx_idiv (pc := 81) (v := (nI (b / 2))) hG dX8_work_81 (nI_ne0 (by decide) (by decide)) (pk_div (by omega) (by decide) (by decide)) ?_
                  refine sx_ishl (pc := 82) (v := (nI (2 ^ (b / 2)))) hG dX8_work_82 (sx_one (by omega)) ?_
                  refine sx_iconst (pc := 83) (v := (-1)) hG dX8_work_83 (by decide +kernel) ?_
                  refine sx_ixor (pc := 84) (v := (nI (2 ^ (b / 2)) ^^^ (-1))) hG dX8_work_84 rfl ?_
                  refine sx_iand (pc := 85) (v := (nI (sx_diff s (2 ^ (b / 2))))) hG dX8_work_85 (sx_andnot (by omega) (sx_p2 (by omega))) ?_
                  refine sx_imul (pc := 86) (v := (nI (18 * (sx_diff s (2 ^ (b / 2)))))) hG dX8_work_86 (pk_mul 18 (sx_diff s (2 ^ (b / 2)))) ?_
                  refine sx_iload (pc := 87) hG dX8_work_87 4 rfl ?_
                  refine sx_iadd (pc := 89) (v := (nI (18 * (sx_diff s (2 ^ (b / 2))) + b))) hG dX8_work_89 (nI_add (18 * (sx_diff s (2 ^ (b / 2)))) b) ?_
                  refine sx_iald (pc := 90) (v := nI (L1 (18 * (sx_diff s (2 ^ (b / 2))) + b))) hG 8 dX8_work_90 rfl (by decide) (by omega) rfl ?_
                  refine sx_iadd (pc := 91) (v := (nI (mGo av a b + (L1 (18 * (sx_diff s (2 ^ (b / 2))) + b))))) hG dX8_work_91 (nI_add (mGo av a b) (L1 (18 * (sx_diff s (2 ^ (b / 2))) + b))) ?_
                  refine sx_istore (pc := 92) (lv2 := [(0, .ref (bd 0)), (1, .int (nI s)), (2, .int (nI a)), (3, .int (nI best)), (4, .int (nI b)), (5, .int (nI (mGo av a b + (L1 (18 * (sx_diff s (2 ^ (b / 2))) + b)))))]) hG [1, 2, 3, 4, 5, 0] dX8_work_92 hN (by decide) rfl ?_
                  refine sx_iload (pc := 94) hG dX8_work_94 5 rfl ?_
                  refine sx_iload_n (pc := 96) hG dX8_work_96 rfl 3 rfl ?_
                  refine sx_icmp_ge (pc := 97) (tgt := 105) (B := best ≤ (mGo av a b + (L1 (18 * (sx_diff s (2 ^ (b / 2))) + b)))) hG dX8_work_97 (by decide) (nI_leI (by omega) (by omega)) (fun c97 => ?_) (fun c97 => ?_)
                  · skip
                    refine sx_iload_n (pc := 105) hG dX8_work_105 rfl 3 rfl ?_
                    refine sx_istore_n (pc := 106) (lv2 := [(0, .ref (bd 0)), (1, .int (nI s)), (2, .int (nI a)), (3, .int (nI best)), (4, .int (nI b)), (5, .int (nI (mGo av a b + (L1 (18 * (sx_diff s (2 ^ (b / 2))) + b)))))]) hG [1, 2, 3, 0, 4, 5] dX8_work_106 rfl hN (by decide) rfl ?_
                    refine sx_iinc (pc := 107) (v := (nI (b + 1))) (lv2 := [(0, .ref (bd 0)), (1, .int (nI s)), (2, .int (nI a)), (3, .int (nI best)), (4, .int (nI (b + 1))), (5, .int (nI (mGo av a b + (L1 (18 * (sx_diff s (2 ^ (b / 2))) + b)))))]) hG [1, 2, 3, 4, 0, 5] dX8_work_107 4 rfl (sx_inc b) hN (by decide) rfl ?_
                    refine sx_goto (pc := 110) (tgt := 38) hG dX8_work_110 (by decide) ?_
                    refine sx_lsub [0, 1, 2, 3, 4] rfl ?_
                    refine ih_b (b + 1) _ (by omega) (by omega) (by rw [mLv_step]; first | (rw [if_pos c57]; exact hbest) | (rw [if_neg c57, ← hbest, if_neg (by omega)]) | (rw [if_neg c57, ← hbest, if_pos (by omega)])) (by omega)
                  · skip
                    refine sx_iload (pc := 100) hG dX8_work_100 5 rfl ?_
                    refine sx_goto (pc := 102) (tgt := 106) hG dX8_work_102 (by decide) ?_
                    refine sx_istore_n (pc := 106) (lv2 := [(0, .ref (bd 0)), (1, .int (nI s)), (2, .int (nI a)), (3, .int (nI (mGo av a b + (L1 (18 * (sx_diff s (2 ^ (b / 2))) + b))))), (4, .int (nI b)), (5, .int (nI (mGo av a b + (L1 (18 * (sx_diff s (2 ^ (b / 2))) + b)))))]) hG [1, 2, 3, 0, 4, 5] dX8_work_106 rfl hN (by decide) rfl ?_
                    refine sx_iinc (pc := 107) (v := (nI (b + 1))) (lv2 := [(0, .ref (bd 0)), (1, .int (nI s)), (2, .int (nI a)), (3, .int (nI (mGo av a b + (L1 (18 * (sx_diff s (2 ^ (b / 2))) + b))))), (4, .int (nI (b + 1))), (5, .int (nI (mGo av a b + (L1 (18 * (sx_diff s (2 ^ (b / 2))) + b)))))]) hG [1, 2, 3, 4, 0, 5] dX8_work_107 4 rfl (sx_inc b) hN (by decide) rfl ?_
                    refine sx_goto (pc := 110) (tgt := 38) hG dX8_work_110 (by decide) ?_
                    refine sx_lsub [0, 1, 2, 3, 4] rfl ?_
                    refine ih_b (b + 1) _ (by omega) (by omega) (by rw [mLv_step]; first | (rw [if_pos c57]; exact hbest) | (rw [if_neg c57, ← hbest, if_neg (by omega)]) | (rw [if_neg c57, ← hbest, if_pos (by omega)])) (by omega)
                · skip
                  refine sx_goto (pc := 60) (tgt := 107) hG dX8_work_60 (by decide) ?_
                  refine sx_iinc (pc := 107) (v := (nI (b + 1))) (lv2 := [(0, .ref (bd 0)), (1, .int (nI s)), (2, .int (nI a)), (3, .int (nI best)), (4, .int (nI (b + 1)))]) hG [1, 2, 3, 4, 0] dX8_work_107 4 rfl (sx_inc b) hN (by decide) rfl ?_
                  refine sx_goto (pc := 110) (tgt := 38) hG dX8_work_110 (by decide) ?_
                  refine ih_b (b + 1) _ (by omega) (by omega) (by rw [mLv_step]; first | (rw [if_pos c57]; exact hbest) | (rw [if_neg c57, ← hbest, if_neg (by omega)]) | (rw [if_neg c57, ← hbest, if_pos (by omega)])) (by omega)
          have loop_r : ∀ (fuel : Nat), ∀ (a2 : Nat) (B1 : Nat → Nat), (a = 2 * n) → (a2 ≤ 2 * n) → (B1 s = mBv av L1 s a2) → (∀ j, ¬ j = s → B1 j = B j) → (∀ j, B1 j ≤ 2000000000) → 2 * n - a2 < fuel → sx_W l X G 0 0 149 [(0, .ref (bd 0)), (1, .int (nI s)), (2, .int (nI a2))] [] (mw X bd sc (va_up (va_up av 8 L1) 9 B1)) := by
            intro fuel
            induction fuel with
            | zero => intro a2 B1 he ha2 hBs hBo hBb1 hm; exact absurd hm (Nat.not_lt_zero _)
            | succ fuel ih_r =>
              intro a2 B1 he ha2 hBs hBo hBb1 hm_r
              have hB9 := hBb1 s
              have hb1 := sx_bit_le s (a2 / 2)
              have hdv := sx_div_lt (a2 / 2) (show s < 512 by omega)
              have hfl : mFrom av L1 s a2 ≤ 2000000126 := by have h6 := hg.2.2.2.2.2.1 (a2 / 2); have h8 := hLb1 (18 * sx_diff s (2 ^ (a2 / 2)) + a2); unfold mFrom; omega
              have hfin : ∀ B2 : Nat → Nat, B2 s = mBv av L1 s a2 → (∀ j, ¬ j = s → B2 j = B j) → 2 * n ≤ a2 → mT av n L1 B2 (s + 1) := fun B2 h1 h2 h3 => mT_next hT1 (by subst he; exact hA1) (by rw [h1, show 2 * n = a2 by omega]) h2
              refine sx_iload_n (pc := 149) hG dX8_work_149 rfl 2 rfl ?_
              refine sx_iconst (pc := 150) (v := nI 2) hG dX8_work_150 (by decide +kernel) ?_
              refine sx_aload_n (pc := 151) hG dX8_work_151 rfl 0 rfl ?_
              refine sx_get (pc := 152) (v2 := .int (nI n)) (ci := 8) hG i_X8_work_8 0 m_X8_work_f71 dX8_work_152 rfl (by decide) 0 rfl rfl (congrArg Value.int h0) ?_
              refine sx_imul (pc := 155) (v := (nI (2 * n))) hG dX8_work_155 (pk_mul 2 n) ?_
              refine sx_icmp_ge (pc := 156) (tgt := 203) (B := (2 * n) ≤ a2) hG dX8_work_156 (by decide) (nI_leI (by omega) (by omega)) (fun c156 => ?_) (fun c156 => ?_)
              · skip
                refine sx_iinc (pc := 203) (v := (nI (s + 1))) (lv2 := [(0, .ref (bd 0)), (1, .int (nI (s + 1))), (2, .int (nI a2))]) hG [1, 0, 2] dX8_work_203 1 rfl (sx_inc s) hN (by decide) rfl ?_
                refine sx_goto (pc := 206) (tgt := 2) hG dX8_work_206 (by decide) ?_
                refine sx_lsub [0, 1] rfl ?_
                refine ih_S (s + 1) L1 B1 (by omega) (hfin B1 hBs hBo (by omega)) hLb1 hBb1 (by omega)
              · skip
                refine sx_iload_n (pc := 159) hG dX8_work_159 rfl 1 rfl ?_
                refine sx_iload_n (pc := 160) hG dX8_work_160 rfl 2 rfl ?_
                refine sx_iconst (pc := 161) (v := nI 2) hG dX8_work_161 (by decide +kernel) ?_
                refine sx_idiv (pc := 162) (v := (nI (a2 / 2))) hG dX8_work_162 (nI_ne0 (by decide) (by decide)) (pk_div (by omega) (by decide) (by decide)) ?_
                refine sx_ishr (pc := 163) (v := (nI (s / 2 ^ (a2 / 2)))) hG dX8_work_163 (sx_shr (by omega) (by omega)) ?_
                refine sx_iconst (pc := 164) (v := nI 1) hG dX8_work_164 (by decide +kernel) ?_
                refine sx_iand (pc := 165) (v := (nI (sx_bit s (a2 / 2)))) hG dX8_work_165 (sx_bit1 (by omega)) ?_
                refine sx_iconst (pc := 166) (v := nI 1) hG dX8_work_166 (by decide +kernel) ?_
                refine sx_icmp_ne (pc := 167) (tgt := 197) (B := (sx_bit s (a2 / 2)) = 1) hG dX8_work_167 (by decide) (nI_eq (by omega) (by omega)) (fun c167 => ?_) (fun c167 => ?_)
                · skip
                  refine sx_iinc (pc := 197) (v := (nI (a2 + 1))) (lv2 := [(0, .ref (bd 0)), (1, .int (nI s)), (2, .int (nI (a2 + 1)))]) hG [1, 2, 0] dX8_work_197 2 rfl (sx_inc a2) hN (by decide) rfl ?_
                  refine sx_goto (pc := 200) (tgt := 149) hG dX8_work_200 (by decide) ?_
                  refine ih_r (a2 + 1) _ he (by omega) (by first | (rw [mBv_step]; first | rw [if_pos (by omega), hBs] | (rw [if_neg (by omega), if_neg (by omega), hBs]) | (rw [if_neg (by omega), if_pos (by omega)]; unfold va_up; rw [if_pos rfl])) | skip) (fun j hj => by first | exact hBo j hj | (unfold va_up; rw [if_neg hj]; exact hBo j hj)) (fun j => by first | exact hBb1 j | (unfold va_up; split; omega; exact hBb1 j)) (by omega)
                · skip
                  refine sx_aload_n (pc := 170) hG dX8_work_170 rfl 0 rfl ?_
                  refine sx_iload_n (pc := 171) hG dX8_work_171 rfl 1 rfl ?_
                  refine sx_iload_n (pc := 172) hG dX8_work_172 rfl 2 rfl ?_
                  refine sx_callViw (pc := 173) (n9 := 2) (As := [.int (nI s), .int (nI a2)]) (st := []) (b := (bd 0)) (ci := 8) hG (c_X8_from l X bd sc (va_up (va_up av 8 L1) 9 B1) s a2 (by omega) (by omega) hg hLb1) gX8_work_X8_from rfl (by decide +kernel) rfl 0 rfl rfl rfl dX8_work_173 ⟨rfl, rfl⟩ ⟨Nat.le_of_ble_eq_true rfl, Nat.le_of_ble_eq_true rfl⟩ (Nat.le_of_ble_eq_true rfl) ⟨Nat.le_of_ble_eq_true rfl, Nat.le_of_ble_eq_true rfl⟩ (fun r w1 hp => ?_)
                  obtain ⟨hr9, hw9⟩ := hp
                  have hr9 : r = (nI (mFrom av L1 s a2)) := hr9
                  subst hr9
                  refine sx_weq hw9 ?_
                  refine sx_aload_n (pc := 176) hG dX8_work_176 rfl 0 rfl ?_
                  refine sx_get (pc := 177) (v2 := .ref (bd 9)) (ci := 8) hG i_X8_work_8 11 m_X8_work_f38 dX8_work_177 rfl (by decide) 0 rfl rfl rfl ?_
                  refine sx_iload_n (pc := 180) hG dX8_work_180 rfl 1 rfl ?_
                  refine sx_iald (pc := 181) (v := nI (B1 s)) hG 9 dX8_work_181 rfl (by decide) (by omega) rfl ?_
                  refine sx_icmp_ge (pc := 182) (tgt := 197) (B := (B1 s) ≤ (mFrom av L1 s a2)) hG dX8_work_182 (by decide) (nI_leI (by omega) (by omega)) (fun c182 => ?_) (fun c182 => ?_)
                  · skip
                    refine sx_iinc (pc := 197) (v := (nI (a2 + 1))) (lv2 := [(0, .ref (bd 0)), (1, .int (nI s)), (2, .int (nI (a2 + 1)))]) hG [1, 2, 0] dX8_work_197 2 rfl (sx_inc a2) hN (by decide) rfl ?_
                    refine sx_goto (pc := 200) (tgt := 149) hG dX8_work_200 (by decide) ?_
                    refine ih_r (a2 + 1) _ he (by omega) (by first | (rw [mBv_step]; first | rw [if_pos (by omega), hBs] | (rw [if_neg (by omega), if_neg (by omega), hBs]) | (rw [if_neg (by omega), if_pos (by omega)]; unfold va_up; rw [if_pos rfl])) | skip) (fun j hj => by first | exact hBo j hj | (unfold va_up; rw [if_neg hj]; exact hBo j hj)) (fun j => by first | exact hBb1 j | (unfold va_up; split; omega; exact hBb1 j)) (by omega)
                  · skip
                    refine sx_aload_n (pc := 185) hG dX8_work_185 rfl 0 rfl ?_
                    refine sx_get (pc := 186) (v2 := .ref (bd 9)) (ci := 8) hG i_X8_work_8 11 m_X8_work_f38 dX8_work_186 rfl (by decide) 0 rfl rfl rfl ?_
                    refine sx_iload_n (pc := 189) hG dX8_work_189 rfl 1 rfl ?_
                    refine sx_aload_n (pc := 190) hG dX8_work_190 rfl 0 rfl ?_
                    refine sx_iload_n (pc := 191) hG dX8_work_191 rfl 1 rfl ?_
                    refine sx_iload_n (pc := 192) hG dX8_work_192 rfl 2 rfl ?_
                    refine sx_callViw (pc := 193) (n9 := 2) (As := [.int (nI s), .int (nI a2)]) (st := [.int (nI s), .ref (bd 9)]) (b := (bd 0)) (ci := 8) hG (c_X8_from l X bd sc (va_up (va_up av 8 L1) 9 B1) s a2 (by omega) (by omega) hg hLb1) gX8_work_X8_from rfl (by decide +kernel) rfl 0 rfl rfl rfl dX8_work_193 ⟨rfl, rfl⟩ ⟨Nat.le_of_ble_eq_true rfl, Nat.le_of_ble_eq_true rfl⟩ (Nat.le_of_ble_eq_true rfl) ⟨Nat.le_of_ble_eq_true rfl, Nat.le_of_ble_eq_true rfl⟩ (fun r w1 hp => ?_)
                    obtain ⟨hr9, hw9⟩ := hp
                    have hr9 : r = (nI (mFrom av L1 s a2)) := hr9
                    subst hr9
                    refine sx_weq hw9 ?_
                    refine sx_iastN (pc := 196) (w2 := (mw X bd sc (va_up (va_up av 8 L1) 9 (va_up B1 s (mFrom av L1 s a2))))) hG 9 dX8_work_196 rfl (by decide) (by omega) rfl ?_
                    refine sx_iinc (pc := 197) (v := (nI (a2 + 1))) (lv2 := [(0, .ref (bd 0)), (1, .int (nI s)), (2, .int (nI (a2 + 1)))]) hG [1, 2, 0] dX8_work_197 2 rfl (sx_inc a2) hN (by decide) rfl ?_
                    refine sx_goto (pc := 200) (tgt := 149) hG dX8_work_200 (by decide) ?_
                    refine ih_r (a2 + 1) _ he (by omega) (by first | (rw [mBv_step]; first | rw [if_pos (by omega), hBs] | (rw [if_neg (by omega), if_neg (by omega), hBs]) | (rw [if_neg (by omega), if_pos (by omega)]; unfold va_up; rw [if_pos rfl])) | skip) (fun j hj => by first | exact hBo j hj | (unfold va_up; rw [if_neg hj]; exact hBo j hj)) (fun j => by first | exact hBb1 j | (unfold va_up; split; omega; exact hBb1 j)) (by omega)
          refine sx_iload_n (pc := 14) hG dX8_work_14 rfl 2 rfl ?_
          refine sx_iconst (pc := 15) (v := nI 2) hG dX8_work_15 (by decide +kernel) ?_
          refine sx_aload_n (pc := 16) hG dX8_work_16 rfl 0 rfl ?_
          refine sx_get (pc := 17) (v2 := .int (nI n)) (ci := 8) hG i_X8_work_8 0 m_X8_work_f71 dX8_work_17 rfl (by decide) 0 rfl rfl (congrArg Value.int h0) ?_
          refine sx_imul (pc := 20) (v := (nI (2 * n))) hG dX8_work_20 (pk_mul 2 n) ?_
          refine sx_icmp_ge (pc := 21) (tgt := 131) (B := (2 * n) ≤ a) hG dX8_work_21 (by decide) (nI_leI (by omega) (by omega)) (fun c21 => ?_) (fun c21 => ?_)
          · skip
            refine sx_aload_n (pc := 131) hG dX8_work_131 rfl 0 rfl ?_
            refine sx_get (pc := 132) (v2 := .ref (bd 9)) (ci := 8) hG i_X8_work_8 11 m_X8_work_f38 dX8_work_132 rfl (by decide) 0 rfl rfl rfl ?_
            refine sx_iload_n (pc := 135) hG dX8_work_135 rfl 1 rfl ?_
            refine sx_iload_n (pc := 136) hG dX8_work_136 rfl 1 rfl ?_
            refine sx_if_ne (pc := 137) (tgt := 144) (B := s = 0) hG dX8_work_137 (by decide) (sx_eq0 (by omega)) (fun c137 => ?_) (fun c137 => ?_)
            · skip
              refine sx_ldc (pc := 144) (v2 := nI 2000000000) hG m_X8_work_c111 dX8_work_144 (by decide +kernel) ?_
              refine sx_iastN (pc := 146) (w2 := (mw X bd sc (va_up (va_up av 8 L1) 9 (va_up B s 2000000000)))) hG 9 dX8_work_146 rfl (by decide) (by omega) rfl ?_
              refine sx_iconst (pc := 147) (v := nI 0) hG dX8_work_147 (by decide +kernel) ?_
              refine sx_istore_n (pc := 148) (lv2 := [(0, .ref (bd 0)), (1, .int (nI s)), (2, .int (nI 0))]) hG [1, 2, 0] dX8_work_148 rfl hN (by decide) rfl ?_
              refine loop_r _ 0 _ (by omega) (by omega) (by unfold mBv sx_mn mI va_up; rw [if_pos rfl]; first | (rw [if_pos c137]) | (rw [if_neg c137])) (fun j hj => by unfold va_up; rw [if_neg hj]) (fun j => by unfold va_up; split; omega; exact hBb j) (Nat.lt_succ_self _)
            · skip
              refine sx_iconst (pc := 140) (v := nI 0) hG dX8_work_140 (by decide +kernel) ?_
              refine sx_goto (pc := 141) (tgt := 146) hG dX8_work_141 (by decide) ?_
              refine sx_iastN (pc := 146) (w2 := (mw X bd sc (va_up (va_up av 8 L1) 9 (va_up B s 0)))) hG 9 dX8_work_146 rfl (by decide) (by omega) rfl ?_
              refine sx_iconst (pc := 147) (v := nI 0) hG dX8_work_147 (by decide +kernel) ?_
              refine sx_istore_n (pc := 148) (lv2 := [(0, .ref (bd 0)), (1, .int (nI s)), (2, .int (nI 0))]) hG [1, 2, 0] dX8_work_148 rfl hN (by decide) rfl ?_
              refine loop_r _ 0 _ (by omega) (by omega) (by unfold mBv sx_mn mI va_up; rw [if_pos rfl]; first | (rw [if_pos c137]) | (rw [if_neg c137])) (fun j hj => by unfold va_up; rw [if_neg hj]) (fun j => by unfold va_up; split; omega; exact hBb j) (Nat.lt_succ_self _)
          · skip
            refine sx_iload_n (pc := 24) hG dX8_work_24 rfl 1 rfl ?_
            refine sx_if_ne (pc := 25) (tgt := 32) (B := s = 0) hG dX8_work_25 (by decide) (sx_eq0 (by omega)) (fun c25 => ?_) (fun c25 => ?_)
            · skip
              refine sx_ldc (pc := 32) (v2 := nI 2000000000) hG m_X8_work_c111 dX8_work_32 (by decide +kernel) ?_
              refine sx_istore_n (pc := 34) (lv2 := [(0, .ref (bd 0)), (1, .int (nI s)), (2, .int (nI a)), (3, .int (nI 2000000000))]) hG [1, 2, 3, 0] dX8_work_34 rfl hN (by decide) rfl ?_
              refine sx_iconst (pc := 35) (v := nI 0) hG dX8_work_35 (by decide +kernel) ?_
              refine sx_istore (pc := 36) (lv2 := [(0, .ref (bd 0)), (1, .int (nI s)), (2, .int (nI a)), (3, .int (nI 2000000000)), (4, .int (nI 0))]) hG [1, 2, 3, 4, 0] dX8_work_36 hN (by decide) rfl ?_
              refine loop_b _ 0 _ (by omega) (by omega) (by unfold mLv sx_mn mI; first | (rw [if_pos c25]) | (rw [if_neg c25])) (Nat.lt_succ_self _)
            · skip
              refine sx_iconst (pc := 28) (v := nI 0) hG dX8_work_28 (by decide +kernel) ?_
              refine sx_goto (pc := 29) (tgt := 34) hG dX8_work_29 (by decide) ?_
              refine sx_istore_n (pc := 34) (lv2 := [(0, .ref (bd 0)), (1, .int (nI s)), (2, .int (nI a)), (3, .int (nI 0))]) hG [1, 2, 3, 0] dX8_work_34 rfl hN (by decide) rfl ?_
              refine sx_iconst (pc := 35) (v := nI 0) hG dX8_work_35 (by decide +kernel) ?_
              refine sx_istore (pc := 36) (lv2 := [(0, .ref (bd 0)), (1, .int (nI s)), (2, .int (nI a)), (3, .int (nI 0)), (4, .int (nI 0))]) hG [1, 2, 3, 4, 0] dX8_work_36 hN (by decide) rfl ?_
              refine loop_b _ 0 _ (by omega) (by omega) (by unfold mLv sx_mn mI; first | (rw [if_pos c25]) | (rw [if_neg c25])) (Nat.lt_succ_self _)
      refine sx_iload_n (pc := 2) hG dX8_work_2 rfl 1 rfl ?_
      refine sx_iconst (pc := 3) (v := nI 1) hG dX8_work_3 (by decide +kernel) ?_
      refine sx_aload_n (pc := 4) hG dX8_work_4 rfl 0 rfl ?_
      refine sx_get (pc := 5) (v2 := .int (nI n)) (ci := 8) hG i_X8_work_8 0 m_X8_work_f71 dX8_work_5 rfl (by decide) 0 rfl rfl (congrArg Value.int h0) ?_
      refine sx_ishl (pc := 8) (v := (nI (2 ^ n))) hG dX8_work_8 (sx_one (by omega)) ?_
      refine sx_icmp_ge (pc := 9) (tgt := 209) (B := (2 ^ n) ≤ s) hG dX8_work_9 (by decide) (nI_leI (by omega) (by omega)) (fun c9 => ?_) (fun c9 => ?_)
      · skip
        exact hret _ _ _ dX8_work_209 ⟨L, B, rfl, (by rw [show 2 ^ n = s by omega]; exact hT), hLb, hBb⟩
      · skip
        refine sx_iconst (pc := 12) (v := nI 0) hG dX8_work_12 (by decide +kernel) ?_
        refine sx_istore_n (pc := 13) (lv2 := [(0, .ref (bd 0)), (1, .int (nI s)), (2, .int (nI 0))]) hG [1, 2, 0] dX8_work_13 rfl hN (by decide) rfl ?_
        refine loop_A _ 0 L (by omega) (by omega) hT (fun _ h => absurd h (Nat.not_lt_zero _)) hLb (Nat.lt_succ_self _)
  refine sx_iconst (pc := 0) (v := nI 0) hG dX8_work_0 (by decide +kernel) ?_
  refine sx_istore_n (pc := 1) (lv2 := [(0, .ref (bd 0)), (1, .int (nI 0))]) hG [1, 0] dX8_work_1 rfl hN (by decide) rfl ?_
  refine sx_weq (w2 := (mw X bd sc (va_up (va_up av 8 (av 8)) 9 (av 9)))) rfl ?_
  refine loop_S _ 0 (av 8) (av 9) (Nat.zero_le _) ⟨fun _ h => absurd h (Nat.not_lt_zero _), fun _ h => absurd h (Nat.not_lt_zero _)⟩ hL0 hB0 (Nat.lt_succ_self _)
