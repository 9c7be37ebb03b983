/-! BOTH SIDES: the best run's steps -/
set_option maxRecDepth 100000 in
theorem tab_go {sa ma : Nat → Nat → Nat} {n : Nat} {L B K Bs : Nat → Nat} (hrel : sRel sa ma n) (hg : mG ma) (hn : n ≤ 9) (hT : mT ma n L B (2 ^ n)) (hC : cT (sa 11) (sLk sa) K Bs (2 ^ n)) (hK : ∀ j, K j ≤ 5000000) {s a b : Nat} (hs : s < 2 ^ n) (ha : a < 2 * n) (hb : b < 2 * n) (hpb : ¬ sx_bit s (b / 2) = 0) : sLk sa a b + K (18 * s + b) = cv (mGo ma a b + L (18 * sx_diff s (2 ^ (b / 2)) + b)) ∧ (mGo ma a b + L (18 * sx_diff s (2 ^ (b / 2)) + b)) % 100000 < 4096 := by
  have hp9 := sx_p9 hn
  have hd := sx_dlt (s := s) (k := b / 2) (by omega) (by omega) hpb
  obtain ⟨P, Q, f1, f2, f3⟩ := mL_two hg hn hT (sx_diff s (2 ^ (b / 2))) (by omega) b hb
  have h4 := sx_pc_d0 s (by omega) (b / 2) (by omega) hpb
  have h5 := sx_pc_n0 n (by omega) s hs
  have h6 := hg.2.2.2.2.2.1 (b / 2)
  have h7 := ((tab_rel hrel hg hn hT hC hK s hs).1 b hb hpb).1
  have h8 := sLk_eq hrel ha hb
  have h9 := mLp_le hg a b
  have h10 := mLl_le hg a b
  rw [h8]
  refine ⟨?_, ?_⟩
  · rw [h7]; unfold mFrom mGo cv; rw [f1]; omega
  · unfold mGo; rw [f1]; omega
theorem cPth_le {lk : Nat → Nat → Nat} {K B : Nat → Nat} {n s : Nat} {R : Nat → Nat} : ∀ {k left : Nat}, cPth lk K B n s R k left → left ≤ s := by
  intro k
  induction k with
  | zero => intro left h; exact Nat.le_of_eq h
  | succ k ih =>
    intro left h
    obtain ⟨l0, h1, -, -, h4⟩ := h
    have := ih h1
    have := sx_diff_le l0 (2 ^ (R k / 2))
    omega
theorem path_rel {sa ma : Nat → Nat → Nat} {n : Nat} {L B K Bs : Nat → Nat} (hrel : sRel sa ma n) (hg : mG ma) (hn : n ≤ 9) (hT : mT ma n L B (2 ^ n)) (hC : cT (sa 11) (sLk sa) K Bs (2 ^ n)) (hK : ∀ j, K j ≤ 5000000) {s : Nat} (hs1 : 1 ≤ s) (hs : s < 2 ^ n) {Wy Rw : Nat → Nat} : ∀ {k left rest : Nat}, cPth (sLk sa) K Bs n s Wy k left → mPth ma L B n s Rw k rest → left = rest ∧ ∀ j, j < k → Wy j = Rw j := by
  intro k
  induction k with
  | zero => intro left rest h1 h2; exact ⟨h1.trans h2.symm, fun j hj => absurd hj (Nat.not_lt_zero _)⟩
  | succ k ih =>
    intro left rest h1 h2
    obtain ⟨l0, c1, c2, c3, c4⟩ := h1
    obtain ⟨r0, m1, m2, m3, m4⟩ := h2
    obtain ⟨e0, hj⟩ := ih c1 m1
    subst e0
    have hl : l0 < 2 ^ n := Nat.lt_of_le_of_lt (cPth_le c1) hs
    obtain ⟨t1, t2, -⟩ := tab_rel hrel hg hn hT hC hK l0 hl
    have hB := (tab_rel hrel hg hn hT hC hK s hs).2.2 (by omega)
    -- the same candidates keep to the least
    have key : ∀ t, t < 2 * n → ¬ sx_bit l0 (t / 2) = 0 → (cCand (sLk sa) K k l0 (Wy (k - 1)) t = cTgt (sLk sa) K Bs s k l0 (Wy (k - 1)) ↔ mCand ma L k l0 (Rw (k - 1)) t = mTgt L B s k l0 (Rw (k - 1))) := by
      intro t ht hb
      by_cases hk : k = 0
      · unfold cCand cTgt mCand mTgt
        rw [if_pos hk, if_pos hk, if_neg hb, if_pos hk, if_pos hk, (t1 t ht hb).1, hB.1]
        exact ⟨fun q => cv_inj (t1 t ht hb).2.1 hB.2 q, fun q => by rw [q]⟩
      · have hpv := cPth_lt c1 hk
        have e1 := hj (k - 1) (by omega)
        unfold cCand cTgt mCand mTgt
        rw [if_neg hk, if_neg hk, if_neg hb, if_neg hk, if_neg hk, ← e1]
        obtain ⟨g1, g2⟩ := tab_go hrel hg hn hT hC hK hl hpv ht hb
        obtain ⟨u1, u2⟩ := t2 (Wy (k - 1)) hpv
        rw [g1, u1]
        exact ⟨fun q => cv_inj g2 u2 q, fun q => by rw [q]⟩
    obtain ⟨p1, p2, p3, p4⟩ := c3
    obtain ⟨q1, q2, q3, q4⟩ := m3
    have he : Wy k = Rw k := by
      rcases Nat.lt_trichotomy (Wy k) (Rw k) with z | z | z
      · exact absurd ((key _ p1 p2).mp p3) (q4 _ z)
      · exact z
      · exact absurd ((key _ q1 q2).mpr q3) (p4 _ z q2)
    refine ⟨by rw [c4, m4, he], fun j hj2 => ?_⟩
    rcases Nat.lt_or_ge j k with z | z
    · exact hj j z
    · have e : j = k := by omega
      subst e; exact he
