/-! BOTH SIDES: the strokes, what lies between two steps, costs -/
/-- the class's rows of the strokes against the reference's -/
def sRel (sa ma : Nat → Nat → Nat) (n : Nat) : Prop := (∀ t, t < 2 * n → sa 8 t = mXb ma t ∧ sa 8 (t ^^^ 1) = mXe ma t ∧ sa 9 t = mYb ma t ∧ sa 9 (t ^^^ 1) = mYe ma t ∧ sa 10 t = mTw ma t) ∧ (∀ i, i < n → sa 11 i = ma 6 i) ∧ ∀ j, j < 7 → sa 12 j = ma 7 j
theorem sx_jmp_comm (p q u v : Nat) : sx_jmp p q u v = sx_jmp q p v u := by
  unfold sx_jmp
  by_cases h : p = q ∧ u = v
  · rw [if_pos h, if_pos ⟨h.1.symm, h.2.symm⟩]
  · rw [if_neg h, if_neg (fun z => h ⟨z.1.symm, z.2.symm⟩)]
theorem sx_trn0 : ∀ p, p < 8 → ∀ q, q < 8 → sx_trn q p = sx_turn p q := by decide +kernel
theorem sLk_eq {sa ma : Nat → Nat → Nat} {n f t : Nat} (h : sRel sa ma n) (hf : f < 2 * n) (ht : t < 2 * n) : sLk sa f t = mLp ma f t * 4096 + mLl ma f t := by
  obtain ⟨a1, -, a3, -, a5⟩ := h.1 t ht
  obtain ⟨-, b2, -, b4, b5⟩ := h.1 f hf
  have hj : sJ sa f t = mJ ma f t := by unfold sJ mJ; rw [a1, b2, a3, b4, sx_jmp_comm]
  unfold sLk mLp mLl
  rw [hj]
  by_cases h0 : mJ ma f t = 0
  · rw [if_pos h0, if_pos h0, if_pos h0, a5, b5, sx_trn0 _ (mTw_lt ma f) _ (mTw_lt ma t), h.2.2 _ (by have := sx_turn_le (mTw ma f) (mTw ma t); omega)]
    omega
  · rw [if_neg h0, if_neg h0, if_neg h0, a1, b2, a3, b4, h.2.2 5 (by decide), sx_far_comm (mXb ma t), sx_far_comm (mYb ma t)]
/-- a cost of the reference's as the class holds it -/
def cv (v : Nat) : Nat := v / 100000 * 4096 + v % 100000
theorem cv_add {x y : Nat} (h : x % 100000 + y % 100000 < 100000) : cv (x + y) = cv x + cv y := by
  unfold cv
  have h1 : (x + y) / 100000 = x / 100000 + y / 100000 := by omega
  have h2 : (x + y) % 100000 = x % 100000 + y % 100000 := by omega
  rw [h1, h2, Nat.add_mul]; omega
theorem cv_le {x y : Nat} (hx : x % 100000 < 4096) (h : x ≤ y) : cv x ≤ cv y := by
  unfold cv
  have h1 : x / 100000 ≤ y / 100000 := Nat.div_le_div_right h
  rcases Nat.lt_or_ge (x / 100000) (y / 100000) with q | q
  · have := Nat.mul_le_mul_right 4096 (show x / 100000 + 1 ≤ y / 100000 by omega); omega
  · have e : x / 100000 = y / 100000 := by omega
    rw [e]; omega
theorem cv_lt {x y : Nat} (hx : x % 100000 < 4096) (h : x < y) : cv x < cv y := by
  unfold cv
  have h1 : x / 100000 ≤ y / 100000 := Nat.div_le_div_right (Nat.le_of_lt h)
  rcases Nat.lt_or_ge (x / 100000) (y / 100000) with q | q
  · have := Nat.mul_le_mul_right 4096 (show x / 100000 + 1 ≤ y / 100000 by omega); omega
  · have e : x / 100000 = y / 100000 := by omega
    rw [e]; omega
theorem cv_inj {x y : Nat} (hx : x % 100000 < 4096) (hy : y % 100000 < 4096) (h : cv x = cv y) : x = y := by
  rcases Nat.lt_trichotomy x y with q | q | q
  · have := cv_lt hx q; omega
  · exact q
  · have := cv_lt hy q; omega
theorem cv_div {v : Nat} (h : v % 100000 < 4096) : cv v / 4096 = v / 100000 ∧ cv v % 4096 = v % 100000 := by unfold cv; omega
/-- the least of costs, on both sides -/
theorem sx_mn_map {p f g : Nat → Nat} {k : Nat} (h : ∀ b, b < k → ¬ p b = 0 → g b = cv (f b) ∧ f b % 100000 < 4096 ∧ f b < 2000000000 ∧ g b < sx_MX) (hex : ∃ b, b < k ∧ ¬ p b = 0) : sx_mn sx_MX p g k = cv (sx_mn 2000000000 p f k) ∧ sx_mn 2000000000 p f k % 100000 < 4096 := by
  obtain ⟨b, hb, hpb⟩ := hex
  obtain ⟨-, -, c3, c4⟩ := h b hb hpb
  obtain ⟨b0, d1, d2, d3⟩ := sx_mn_at (i0 := 2000000000) (p := p) (f := f) (k := k) (Nat.lt_of_le_of_lt (sx_mn_lb hb hpb) c3)
  obtain ⟨b1, e1, e2, e3⟩ := sx_mn_at (i0 := sx_MX) (p := p) (f := g) (k := k) (Nat.lt_of_le_of_lt (sx_mn_lb hb hpb) c4)
  obtain ⟨g1, g2, -, -⟩ := h b0 d1 d2
  obtain ⟨k1, k2, -, -⟩ := h b1 e1 e2
  rw [← d3]
  refine ⟨Nat.le_antisymm ?_ ?_, g2⟩
  · rw [← g1]; exact sx_mn_lb d1 d2
  · rw [← e3, k1]; exact cv_le g2 (by rw [d3]; exact sx_mn_lb e1 e2)
