/-! BOTH SIDES: boxes, first rows: a run more in a box -/
theorem sx_bit_diff (o k i : Nat) : sx_bit (sx_diff o (2 ^ k)) i = if i = k then 0 else sx_bit o i := by
  rw [sx_bit_test, sx_bit_test, sx_diff_bit, Nat.testBit_two_pow]
  by_cases h : i = k
  · subst h; rw [if_pos rfl]; simp
  · rw [if_neg h]
    have h2 : ¬ k = i := fun q => h q.symm
    simp [h2]
theorem sx_sum_one {f g : Nat → Nat} {c k : Nat} : ∀ {m : Nat}, k < m → (∀ i, ¬ i = k → f i = g i) → f k = g k + c → sx_sum f m = sx_sum g m + c := by
  intro m
  induction m with
  | zero => intro h; exact absurd h (Nat.not_lt_zero _)
  | succ m ih =>
    intro hk h1 h2
    unfold sx_sum
    by_cases e : k = m
    · subst e
      rw [h2, sx_sum_congr (f := f) (g := g) (fun i hi => h1 i (by omega))]; omega
    · rw [ih (by omega) h1 h2, h1 m (fun q => e q.symm)]; omega
/-- a run taken out of a box -/
theorem fVol_out {Z : Nat → Nat} {rate o m k : Nat} (hk : k < m) (hb : ¬ sx_bit o k = 0) : fVol Z rate o m = fVol Z rate (sx_diff o (2 ^ k)) m + (Z k * rate + 50) := by
  unfold fVol
  refine sx_sum_one hk (fun i hi => ?_) ?_
  · show (if sx_bit o i = 0 then _ else _) = if sx_bit (sx_diff o (2 ^ k)) i = 0 then _ else _
    rw [sx_bit_diff, if_neg hi]
  · show (if sx_bit o k = 0 then _ else _) = (if sx_bit (sx_diff o (2 ^ k)) k = 0 then _ else _) + _
    rw [sx_bit_diff, if_pos rfl, if_neg hb, if_pos rfl, Nat.zero_add]
