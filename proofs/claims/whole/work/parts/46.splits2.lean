/-! BOTH SIDES: the tables of splits -/
theorem mOk_of {B M : Nat → Nat} {lg r t : Nat} (h : ¬ mOk B M lg r t = 0) : sx_diff t r = 0 ∧ ¬ t &&& sx_low r = 0 ∧ B t % 100000 ≤ lg ∧ ¬ M (sx_diff r t) = 99 := by
  rcases Classical.em (sx_diff t r = 0 ∧ ¬ t &&& sx_low r = 0 ∧ B t % 100000 ≤ lg ∧ ¬ M (sx_diff r t) = 99) with q | q
  · exact q
  · exact absurd (by unfold mOk; rw [if_neg q]) h
theorem split_rel {sa ma : Nat → Nat → Nat} {n lg : Nat} {B Bs M C F U : Nat → Nat} (hrel : sRel sa ma n) (hn : n ≤ 9) (hB : ∀ s, 1 ≤ s → s < 2 ^ n → Bs s = cv (B s) ∧ B s % 100000 < 4096) (hpr : ∀ t, ¬ t = 0 → t < 2 ^ n → mPr ma B t ≤ 22000) (hV : mVT ma B M C F lg (2 ^ n)) (hU : cUT sa Bs U lg (2 ^ n)) : ∀ s, s < 2 ^ n → (M s = 99 ∧ C s = 0 ∧ U s = 2147483647) ∨ (M s ≤ 9 ∧ C s ≤ 198000 ∧ U s = 1048576 * M s + C s) := by
  have hp9 := sx_p9 hn
  intro s
  induction s using Nat.strongRecOn with
  | _ s ih =>
    intro hs
    by_cases h0 : s = 0
    · subst h0; right; rw [hV.1, hV.2.1, hU.1]; omega
    · obtain ⟨v1, v2⟩ := hV.2.2 s (by omega) hs
      obtain ⟨u1, -⟩ := hU.2 s (by omega) hs
      have hpc := sx_pc_n0 9 (by decide) s (show s < 2 ^ 9 by omega)
      have hcases := sx_mn_two (i := 103809024) (j := sx_MX) (p := mOk B M lg s) (f := mVf ma B M C s) (q := cOk s) (g := cSw sa Bs U lg s) (k := s + 1)
        (fun t ht hp => by
          obtain ⟨o1, o2, o3, o4⟩ := mOk_of hp
          obtain ⟨w1, -⟩ := mSub (show s < 512 by omega) h0 o2
          have ht0 : ¬ t = 0 := fun q => o2 (by rw [q]; exact Nat.zero_and _)
          obtain ⟨b1, b2⟩ := hB t (by omega) (by omega)
          have hp1 := hpr t ht0 (by omega)
          have hpe := price_rel hrel b1 b2
          have hl := (cv_div b2).2
          rcases ih _ w1 (by omega) with ⟨z, -⟩ | ⟨z1, z2, z3⟩
          · exact absurd z o4
          · have hne : ¬ (U (sx_diff s t) = sx_MX ∨ lg < Bs t % 4096) := fun q => by
              rcases q with q | q
              · unfold sx_MX at q; omega
              · rw [b1, hl] at q; omega
            refine ⟨by unfold cOk; rw [if_pos ⟨o1, o2⟩]; decide, ?_, ?_, ?_⟩
            · unfold cSw mVf; rw [if_neg hne, hpe, z3]; omega
            · unfold mVf; omega
            · unfold mVf sx_MX; omega)
        (fun t ht hq hp => by
          obtain ⟨o1, o2, o3, o4⟩ := cOk_lt hq
          obtain ⟨b1, b2⟩ := hB t (by omega) (by omega)
          have hl := (cv_div b2).2
          obtain ⟨w1, -⟩ := mSub (show s < 512 by omega) h0 o2
          unfold cSw
          rw [if_pos]
          · exact Nat.le_refl _
          · rcases Classical.em (M (sx_diff s t) = 99) with z | z
            · left
              rcases ih _ w1 (by omega) with ⟨-, -, y⟩ | ⟨y, -⟩
              · exact y
              · omega
            · right
              rcases Nat.lt_or_ge lg (B t % 100000) with y | y
              · rw [b1, hl]; exact y
              · exact absurd hp (by unfold mOk; rw [if_pos ⟨o1, o2, y, z⟩]; decide))
      have e1 : mV ma B M C lg s (s + 1) = sx_mn 103809024 (mOk B M lg s) (mVf ma B M C s) (s + 1) := rfl
      have e2 : cUv sa Bs U lg s (s + 1) = sx_mn sx_MX (cOk s) (cSw sa Bs U lg s) (s + 1) := rfl
      rw [← e1, ← e2] at hcases
      rcases hcases with ⟨x1, x2⟩ | ⟨x1, x2⟩
      · left
        rcases v2 with ⟨y1, y2⟩ | ⟨y1, y2, y3, -⟩
        · exact ⟨y1, y2, by rw [u1, x2]; rfl⟩
        · omega
      · right
        rcases v2 with ⟨y1, y2⟩ | ⟨y1, y2, y3, -⟩
        · omega
        · exact ⟨by omega, by omega, by rw [u1, x2, ← v1]⟩
