/-! SUBSETS, one behind another: the i-th subset of a set, the place of a subset -/
def sx_pdg (r : Nat) : Nat → Nat → Nat → Nat
  | 0, _, _ => 0
  | k + 1, i, j => if sx_bit r j = 0 then sx_pdg r k i (j + 1) else (i % 2) * 2 ^ j + sx_pdg r k (i / 2) (j + 1)
def sx_pd (r i : Nat) : Nat := sx_pdg r 9 i 0
def sx_rkg (r t : Nat) : Nat → Nat → Nat
  | 0, _ => 0
  | k + 1, j => if sx_bit r j = 0 then sx_rkg r t k (j + 1) else sx_bit t j + 2 * sx_rkg r t k (j + 1)
def sx_rk (r t : Nat) : Nat := sx_rkg r t 9 0
theorem sx_pd_next0 : ∀ r, r < 512 → ∀ i, i < 2 ^ sx_pc r - 1 → ((sx_pd r i + 512 - r) % 512) &&& r = sx_pd r (i + 1) ∧ sx_pd r i < sx_pd r (i + 1) := by decide +kernel
theorem sx_pd_sub0 : ∀ r, r < 512 → ∀ i, i < 2 ^ sx_pc r → sx_diff (sx_pd r i) r = 0 := by decide +kernel
def sx_tsg (t : Nat) : Nat → Nat → Nat
  | 0, _ => 0
  | k + 1, j => sx_bit t j * 2 ^ j + sx_tsg t k (j + 1)
def sx_cg (r : Nat) : Nat → Nat → Nat
  | 0, _ => 0
  | k + 1, j => if sx_bit r j = 0 then sx_cg r k (j + 1) else 1 + sx_cg r k (j + 1)
theorem sx_ts0 : ∀ t, t < 512 → sx_tsg t 9 0 = t := by decide +kernel
theorem sx_cg0 : ∀ r, r < 512 → sx_cg r 9 0 = sx_pc r := by decide +kernel
theorem sx_sub_bit {t r j : Nat} (h : sx_diff t r = 0) (hr : sx_bit r j = 0) : sx_bit t j = 0 := by
  have h1 := sx_diff_bit t r j
  rw [h, Nat.zero_testBit] at h1
  rw [sx_bit_test] at hr ⊢
  cases ht : t.testBit j <;> cases hj : r.testBit j <;> rw [hj] at hr <;> rw [ht, hj] at h1 <;> first | rfl | exact absurd hr (by decide) | exact absurd h1 (by decide)
theorem sx_pd_rkg {t r : Nat} (h : sx_diff t r = 0) : ∀ k j, sx_pdg r k (sx_rkg r t k j) j = sx_tsg t k j ∧ sx_rkg r t k j < 2 ^ sx_cg r k j := by
  intro k
  induction k with
  | zero => intro j; exact ⟨rfl, Nat.lt_succ_self 0⟩
  | succ k ih =>
    intro j
    obtain ⟨h1, h2⟩ := ih (j + 1)
    unfold sx_pdg sx_rkg sx_tsg sx_cg
    by_cases hb : sx_bit r j = 0
    · rw [if_pos hb, if_pos hb, if_pos hb, h1, sx_sub_bit h hb, Nat.zero_mul, Nat.zero_add]
      exact ⟨rfl, h2⟩
    · rw [if_neg hb, if_neg hb, if_neg hb]
      have hl := sx_bit_le t j
      rw [show (sx_bit t j + 2 * sx_rkg r t k (j + 1)) % 2 = sx_bit t j by omega, show (sx_bit t j + 2 * sx_rkg r t k (j + 1)) / 2 = sx_rkg r t k (j + 1) by omega, h1]
      refine ⟨rfl, ?_⟩
      rw [Nat.add_comm 1, Nat.pow_succ]
      omega
theorem sx_pd_rk0 (r : Nat) (hr : r < 512) (t : Nat) (ht : t < r + 1) (h : sx_diff t r = 0) : sx_pd r (sx_rk r t) = t ∧ sx_rk r t < 2 ^ sx_pc r := by
  obtain ⟨h1, h2⟩ := sx_pd_rkg h 9 0
  rw [sx_ts0 t (by omega)] at h1
  rw [sx_cg0 r hr] at h2
  exact ⟨h1, h2⟩
theorem sx_pd_end0 : ∀ r, r < 512 → sx_pd r 0 = 0 ∧ sx_pd r (2 ^ sx_pc r - 1) = r := by decide +kernel
theorem sx_sub_le {t r : Nat} (h : sx_diff t r = 0) : t ≤ r := by
  have e : t = t &&& r := by
    have h2 : ∀ i, t.testBit i = (t &&& r).testBit i := fun i => by
      have h1 := sx_diff_bit t r i
      rw [h, Nat.zero_testBit] at h1
      rw [Nat.testBit_and]
      cases ht : t.testBit i <;> cases hr : r.testBit i <;> rw [ht, hr] at h1 <;> first | rfl | exact absurd h1 (by decide)
    exact Nat.eq_of_testBit_eq h2
  rw [e]; exact Nat.and_le_right
theorem sx_pd_mono {r : Nat} (hr : r < 512) {i : Nat} : ∀ {d : Nat}, i + (d + 1) < 2 ^ sx_pc r → sx_pd r i < sx_pd r (i + (d + 1)) := by
  intro d
  induction d with
  | zero => intro h; exact (sx_pd_next0 r hr i (by omega)).2
  | succ d ih => intro h; exact Nat.lt_trans (ih (by omega)) (sx_pd_next0 r hr (i + (d + 1)) (by omega)).2
/-- nothing lies between a subset and the next one -/
theorem sx_pd_gap {r i t : Nat} (hr : r < 512) (hi : i + 1 < 2 ^ sx_pc r) (h1 : sx_pd r i < t) (h2 : t < sx_pd r (i + 1)) : ¬ sx_diff t r = 0 := by
  intro h
  obtain ⟨e, hl⟩ := sx_pd_rk0 r hr t (Nat.lt_succ_of_le (sx_sub_le h)) h
  rcases Nat.lt_trichotomy (sx_rk r t) i with q | q | q
  · have := sx_pd_mono hr (i := sx_rk r t) (d := i - sx_rk r t - 1) (by omega)
    rw [show sx_rk r t + (i - sx_rk r t - 1 + 1) = i by omega, e] at this
    omega
  · rw [q] at e; omega
  · rcases Nat.lt_or_ge (i + 1) (sx_rk r t) with q2 | q2
    · have := sx_pd_mono hr (i := i + 1) (d := sx_rk r t - (i + 1) - 1) (by omega)
      rw [show i + 1 + (sx_rk r t - (i + 1) - 1 + 1) = sx_rk r t by omega, e] at this
      omega
    · have e2 : sx_rk r t = i + 1 := by omega
      rw [e2] at e; omega
theorem sx_low2 : ∀ s, s < 512 → nI s &&& -nI s = nI (sx_low s) := by decide +kernel
theorem sx_rest0 : ∀ s, s < 512 → s ^^^ sx_low s = sx_diff s (sx_low s) ∧ (s ^^^ sx_low s) + sx_low s = s ∧ sx_diff (sx_low s) s = 0 := by decide +kernel
theorem sx_nw {o r : Nat} (ho : o < 512) (hr : r < 512) : nI o - nI r &&& nI r = nI (((o + 512 - r) % 512) &&& r) := by
  have h1 : nI o - nI r = nI (o + (2 ^ 32 - r)) := by
    have e : nI (o + (2 ^ 32 - r)) = nI o + nI (2 ^ 32 - r) := (nI_add _ _).symm
    have e2 : nI (2 ^ 32 - r) = nI (2 ^ 32) - nI r := (pk_sub (by omega)).symm
    have e3 : nI (2 ^ 32) = 0 := by decide
    rw [e, e2, e3, Int32.zero_sub, Int32.sub_eq_add_neg]
  have h2 : nI (o + (2 ^ 32 - r)) = nI ((o + (2 ^ 32 - r)) % 2 ^ 32) := by
    apply sx_ext
    rw [sx_bv, sx_bv]
    apply BitVec.eq_of_toNat_eq
    rw [BitVec.toNat_ofNat, BitVec.toNat_ofNat, Nat.mod_mod]
  rw [h1, h2, sx_and (Nat.mod_lt _ (by decide)) (by omega)]
  congr 1
  have h3 : ∀ x : Nat, x &&& r = x % 2 ^ 9 &&& r := fun x => by
    have e := Nat.and_mod_two_pow (a := x) (b := r) (n := 9)
    rw [Nat.mod_eq_of_lt (Nat.lt_of_le_of_lt Nat.and_le_right (show r < 2 ^ 9 by omega)), Nat.mod_eq_of_lt (show r < 2 ^ 9 by omega)] at e
    exact e
  rw [h3 ((o + (2 ^ 32 - r)) % 2 ^ 32), show (o + (2 ^ 32 - r)) % 2 ^ 32 % 2 ^ 9 = (o + 512 - r) % 512 by omega]
