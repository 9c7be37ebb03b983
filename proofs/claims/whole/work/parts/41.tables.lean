/-! BOTH SIDES: the tables of runs -/
theorem sx_hasbit {n s : Nat} (hn : n ≤ 9) (hs : s < 2 ^ n) (h0 : ¬ s = 0) : ∃ b, b < 2 * n ∧ ¬ sx_bit s (b / 2) = 0 := by
  have hp9 := sx_p9 hn
  rcases Classical.em (∃ i, i < n ∧ ¬ sx_bit s i = 0) with ⟨i, hi, hb⟩ | q
  · exact ⟨2 * i, by omega, by rw [Nat.mul_div_cancel_left i (by decide)]; exact hb⟩
  · exfalso; apply h0; apply sx_pc_z0 s (by omega)
    have h2 : ∀ i, i < 9 → sx_bit s i = 0 := fun i hi9 => by
      rcases Nat.eq_zero_or_pos (sx_bit s i) with h3 | h3
      · exact h3
      · exact absurd ⟨i, sx_bitn0 n (by omega) s hs i hi9 (by omega), by omega⟩ q
    unfold sx_pc; simp only [sx_sum]; rw [h2 0, h2 1, h2 2, h2 3, h2 4, h2 5, h2 6, h2 7, h2 8] <;> decide
set_option maxRecDepth 100000 in
theorem tab_rel {sa ma : Nat → Nat → Nat} {n : Nat} {L B K Bs : Nat → Nat} (hrel : sRel sa ma n) (hg : mG ma) (hn : n ≤ 9) (hT : mT ma n L B (2 ^ n)) (hC : cT (sa 11) (sLk sa) K Bs (2 ^ n)) (hK : ∀ j, K j ≤ 5000000) : ∀ s, s < 2 ^ n → (∀ t, t < 2 * n → ¬ sx_bit s (t / 2) = 0 → K (18 * s + t) = cv (mFrom ma L s t) ∧ mFrom ma L s t % 100000 < 4096 ∧ mFrom ma L s t < 2000000000) ∧ (∀ a, a < 2 * n → cLB (sLk sa) K s a = cv (L (18 * s + a)) ∧ L (18 * s + a) % 100000 < 4096) ∧ (¬ s = 0 → Bs s = cv (B s) ∧ B s % 100000 < 4096) := by
  have hp9 := sx_p9 hn
  intro s
  induction s using Nat.strongRecOn with
  | _ s ih =>
    intro hs
    have hA : ∀ t, t < 2 * n → ¬ sx_bit s (t / 2) = 0 → K (18 * s + t) = cv (mFrom ma L s t) ∧ mFrom ma L s t % 100000 < 4096 ∧ mFrom ma L s t < 2000000000 := by
      intro t ht hb
      have h1s : 1 ≤ s := by rcases Nat.eq_zero_or_pos s with q | q; (subst q; exact absurd (by unfold sx_bit; rw [Nat.zero_div]) hb); exact q
      have hd := sx_dlt (s := s) (k := t / 2) (by omega) (by omega) hb
      obtain ⟨P, Q, e1, e2, e3⟩ := mL_two hg hn hT (sx_diff s (2 ^ (t / 2))) (by omega) t ht
      have h4 := sx_pc_d0 s (by omega) (t / 2) (by omega) hb
      have h5 := sx_pc_n0 n (by omega) s hs
      have h6 := hg.2.2.2.2.2.1 (t / 2)
      have h7 := ((hC s h1s hs).1 t (by omega) hb).1
      have h8 := ((ih _ hd (by omega)).2.1 t ht).1
      have h9 := hrel.2.1 (t / 2) (by omega)
      rw [h7, h8, h9, e1]
      unfold mFrom cv
      rw [e1]
      refine ⟨?_, ?_, ?_⟩ <;> omega
    have hI : ¬ s = 0 → mI s = 2000000000 := fun h0 => by unfold mI; rw [if_neg h0]
    refine ⟨hA, fun a ha => ?_, fun h0 => ?_⟩
    · by_cases h0 : s = 0
      · subst h0
        have e : L (18 * 0 + a) = 0 := by rw [hT.1 0 hs a ha]; exact Nat.le_zero.mp (Nat.le_trans (sx_mn_le _ _ _ _) (by decide))
        rw [e]
        exact ⟨rfl, by decide⟩
      · have e1 : cLB (sLk sa) K s a = sx_mn sx_MX (fun b => sx_bit s (b / 2)) (fun b => sLk sa a b + K (18 * s + b)) (2 * n) := by unfold cLB cBv; rw [if_neg h0, sx_mn_18 hn hs]
        have e2 : L (18 * s + a) = sx_mn 2000000000 (fun b => sx_bit s (b / 2)) (fun b => mGo ma a b + L (18 * sx_diff s (2 ^ (b / 2)) + b)) (2 * n) := by rw [hT.1 s hs a ha]; unfold mLv; rw [hI h0]
        rw [e1, e2]
        refine sx_mn_map (fun b hb hpb => ?_) (sx_hasbit hn hs h0)
        have hpb2 : ¬ sx_bit s (b / 2) = 0 := hpb
        have hd := sx_dlt (s := s) (k := b / 2) (by omega) (by omega) hpb2
        obtain ⟨P, Q, f1, f2, f3⟩ := mL_two hg hn hT (sx_diff s (2 ^ (b / 2))) (by omega) b hb
        have h4 := sx_pc_d0 s (by omega) (b / 2) (by omega) hpb2
        have h5 := sx_pc_n0 n (by omega) s hs
        have h6 := hg.2.2.2.2.2.1 (b / 2)
        have h7 := (hA b hb hpb2).1
        have h8 := sLk_eq hrel ha hb
        have h9 := mLp_le hg a b
        have h10 := mLl_le hg a b
        have h11 := hK (18 * s + b)
        show sLk sa a b + K (18 * s + b) = cv (mGo ma a b + L (18 * sx_diff s (2 ^ (b / 2)) + b)) ∧ (mGo ma a b + L (18 * sx_diff s (2 ^ (b / 2)) + b)) % 100000 < 4096 ∧ mGo ma a b + L (18 * sx_diff s (2 ^ (b / 2)) + b) < 2000000000 ∧ sLk sa a b + K (18 * s + b) < sx_MX
        rw [h8] at *
        unfold sx_MX
        refine ⟨?_, ?_, ?_, by omega⟩
        · rw [h7]; unfold mFrom mGo cv; rw [f1]; omega
        · unfold mGo; rw [f1]; omega
        · unfold mGo; rw [f1]; omega
    · have e1 : Bs s = sx_mn sx_MX (fun b => sx_bit s (b / 2)) (fun b => K (18 * s + b)) (2 * n) := by rw [(hC s (by omega) hs).2]; unfold cBs; rw [sx_mn_18 hn hs]
      have e2 : B s = sx_mn 2000000000 (fun b => sx_bit s (b / 2)) (fun b => mFrom ma L s b) (2 * n) := by rw [hT.2 s hs]; unfold mBv; rw [hI h0]
      rw [e1, e2]
      refine sx_mn_map (fun b hb hpb => ?_) (sx_hasbit hn hs h0)
      obtain ⟨q1, q2, q3⟩ := hA b hb hpb
      exact ⟨q1, q2, q3, Nat.lt_of_le_of_lt (hK _) (by decide)⟩
