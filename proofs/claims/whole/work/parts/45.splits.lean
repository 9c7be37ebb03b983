/-! BOTH SIDES: splits, first rows -/
theorem price_rel {sa ma : Nat → Nat → Nat} {n s : Nat} {B Bs : Nat → Nat} (hrel : sRel sa ma n) (h : Bs s = cv (B s)) (h2 : B s % 100000 < 4096) : cPr sa (Bs s) = mPr ma B s := by
  obtain ⟨e1, e2⟩ := cv_div h2
  unfold cPr mPr
  rw [h, e1, e2, hrel.2.2 6 (by decide), Nat.mul_comm]
/-- the same least, whatever it begins with, where those that are counted lie below -/
theorem sx_mn_two {i j : Nat} {p f q g : Nat → Nat} {k : Nat} (h1 : ∀ t, t < k → ¬ p t = 0 → ¬ q t = 0 ∧ g t = f t ∧ f t < i ∧ f t < j) (h2 : ∀ t, t < k → ¬ q t = 0 → p t = 0 → j ≤ g t) : (sx_mn i p f k = i ∧ sx_mn j q g k = j) ∨ (sx_mn i p f k < i ∧ sx_mn j q g k = sx_mn i p f k) := by
  rcases Nat.lt_or_ge (sx_mn i p f k) i with z | z
  · right
    obtain ⟨b, b1, b2, b3⟩ := sx_mn_at z
    obtain ⟨c1, c2, c3, c4⟩ := h1 b b1 b2
    refine ⟨z, Nat.le_antisymm ?_ ?_⟩
    · rw [← b3, ← c2]; exact sx_mn_lb b1 c1
    · have hlt : sx_mn j q g k < j := Nat.lt_of_le_of_lt (sx_mn_lb b1 c1) (by omega)
      obtain ⟨d, d1, d2, d3⟩ := sx_mn_at hlt
      rcases Nat.eq_zero_or_pos (p d) with w | w
      · have := h2 d d1 d2 w; omega
      · obtain ⟨-, e2, -, -⟩ := h1 d d1 (by omega)
        rw [← d3, e2]; exact sx_mn_lb d1 (by omega)
  · left
    have e := sx_mn_le i p f k
    refine ⟨by omega, ?_⟩
    rcases Nat.lt_or_ge (sx_mn j q g k) j with w | w
    · obtain ⟨d, d1, d2, d3⟩ := sx_mn_at w
      rcases Nat.eq_zero_or_pos (p d) with v | v
      · have := h2 d d1 d2 v; omega
      · obtain ⟨-, -, e3, -⟩ := h1 d d1 (by omega)
        have := sx_mn_lb (i0 := i) (p := p) (f := f) d1 (show ¬ p d = 0 by omega)
        omega
    · have := sx_mn_le j q g k; omega
