/-! BOTH SIDES: the first set of a split -/
theorem first_set {sa ma : Nat → Nat → Nat} {n lg : Nat} {B Bs M C F U : Nat → Nat} (hrel : sRel sa ma n) (hn : n ≤ 9) (hB : ∀ s, 1 ≤ s → s < 2 ^ n → Bs s = cv (B s) ∧ B s % 100000 < 4096) (hpr : ∀ t, ¬ t = 0 → t < 2 ^ n → mPr ma B t ≤ 22000) (hV : mVT ma B M C F lg (2 ^ n)) (hU : cUT sa Bs U lg (2 ^ n)) {s : Nat} (hs : s < 2 ^ n) (h0 : ¬ s = 0) (hM : ¬ M s = 99) : sx_fi (cOk s) (cSw sa Bs U lg s) (F s) (U s) := by
  have hp9 := sx_p9 hn
  have hrl := split_rel hrel hn hB hpr hV hU
  obtain ⟨v1, v2⟩ := hV.2.2 s (by omega) hs
  have hUs : U s = 1048576 * M s + C s ∧ U s < 2147483647 := by
    rcases hrl s hs with ⟨z, -⟩ | ⟨z1, z2, z3⟩
    · exact absurd z hM
    · exact ⟨z3, by omega⟩
  have key : ∀ t, ¬ cOk s t = 0 → (¬ mOk B M lg s t = 0 ∧ cSw sa Bs U lg s t = mVf ma B M C s t) ∨ cSw sa Bs U lg s t = 2147483647 := by
    intro t hq
    obtain ⟨o1, o2, o3, o4⟩ := cOk_lt hq
    obtain ⟨b1, b2⟩ := hB t (by omega) (by omega)
    have hl := (cv_div b2).2
    obtain ⟨w1, -⟩ := mSub (show s < 512 by omega) h0 o2
    have hpe := price_rel hrel b1 b2
    by_cases hc : U (sx_diff s t) = sx_MX ∨ lg < Bs t % 4096
    · right; unfold cSw; rw [if_pos hc]; rfl
    · left
      rcases hrl _ (show sx_diff s t < 2 ^ n by omega) with ⟨-, -, z⟩ | ⟨z1, z2, z3⟩
      · exact absurd (Or.inl z) hc
      · have hlg : B t % 100000 ≤ lg := by
          rcases Nat.lt_or_ge lg (B t % 100000) with y | y
          · exact absurd (Or.inr (by rw [b1, hl]; exact y)) hc
          · exact y
        exact ⟨by unfold mOk; rw [if_pos ⟨o1, o2, hlg, by omega⟩]; decide, by unfold cSw mVf; rw [if_neg hc, hpe, z3]; omega⟩
  rcases v2 with ⟨y1, -⟩ | ⟨-, -, -, -, f1, f2, f3⟩
  · exact absurd y1 hM
  · obtain ⟨o1, o2, o3, o4⟩ := mOk_of f1
    have hq : ¬ cOk s (F s) = 0 := by unfold cOk; rw [if_pos ⟨o1, o2⟩]; decide
    have ht0 : ¬ F s = 0 := fun q => o2 (by rw [q]; exact Nat.zero_and _)
    have hle := sx_sub_le o1
    refine ⟨hq, ?_, fun u hu hp => ?_⟩
    · rcases key _ hq with ⟨-, e⟩ | e
      · rw [e, f2, hUs.1]
      · exfalso
        obtain ⟨w1, -⟩ := mSub (show s < 512 by omega) h0 o2
        obtain ⟨b1, b2⟩ := hB (F s) (by omega) (by omega)
        have hl := (cv_div b2).2
        have hpe := price_rel hrel b1 b2
        have hp1 := hpr (F s) ht0 (by omega)
        unfold cSw sx_MX at e
        rcases hrl _ (show sx_diff s (F s) < 2 ^ n by omega) with ⟨z, -⟩ | ⟨z1, z2, z3⟩
        · exact o4 z
        · rw [if_neg (fun q => by rcases q with q | q; omega; (rw [b1, hl] at q; omega)), hpe] at e
          omega
    · rcases key u hp with ⟨g1, g2⟩ | g
      · rw [g2, hUs.1]; exact f3 u hu g1
      · rw [g]; exact hUs.2
theorem spl_rel {sa ma : Nat → Nat → Nat} {n lg : Nat} {B Bs M C F U : Nat → Nat} (hrel : sRel sa ma n) (hn : n ≤ 9) (hB : ∀ s, 1 ≤ s → s < 2 ^ n → Bs s = cv (B s) ∧ B s % 100000 < 4096) (hpr : ∀ t, ¬ t = 0 → t < 2 ^ n → mPr ma B t ≤ 22000) (hV : mVT ma B M C F lg (2 ^ n)) (hU : cUT sa Bs U lg (2 ^ n)) (hall : ¬ M (2 ^ n - 1) = 99) {Sc : Nat → Nat} : ∀ {k left : Nat}, cSpl sa Bs U lg (2 ^ n - 1) Sc k left → mSpl F (2 ^ n - 1) Sc k left ∧ left < 2 ^ n ∧ ¬ M left = 99 ∧ k + M left = M (2 ^ n - 1) := by
  have hp9 := sx_p9 hn
  have hp1 : 1 ≤ 2 ^ n := Nat.one_le_two_pow
  intro k
  induction k with
  | zero =>
    intro left h
    have e : left = 2 ^ n - 1 := h
    subst e
    exact ⟨rfl, by omega, hall, Nat.zero_add _⟩
  | succ k ih =>
    intro left h
    obtain ⟨l0, c1, c2, c3, c4⟩ := h
    obtain ⟨i1, i2, i3, i4⟩ := ih c1
    have he := sx_fi_one c3 (first_set hrel hn hB hpr hV hU i2 c2 i3)
    obtain ⟨a1, a2, a3, a4, a5, a6, a7, a8⟩ := mVT_at (by omega) hV hpr (show 1 ≤ l0 by omega) i2 i3
    rw [he] at c4
    refine ⟨⟨l0, i1, c2, he, by rw [c4, he]⟩, by omega, by rw [c4]; omega, by rw [c4]; omega⟩
