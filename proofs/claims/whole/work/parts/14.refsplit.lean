/-! THE REFERENCE: split -/
/-- a cost's two parts are small -/
theorem mL_two {av : Nat → Nat → Nat} {n : Nat} {L B : Nat → Nat} (hg : mG av) (hn : n ≤ 9) (hT : mT av n L B (2 ^ n)) : ∀ s, s < 2 ^ n → ∀ a, a < 2 * n → ∃ P Q, L (18 * s + a) = 100000 * P + Q ∧ P ≤ 99 * sx_pc s ∧ Q ≤ 252 * sx_pc s := by
  have hp9 := sx_p9 hn
  intro s
  induction s using Nat.strongRecOn with
  | _ s ih =>
    intro hs a ha
    by_cases h0 : s = 0
    · subst h0
      refine ⟨0, 0, ?_, Nat.zero_le _, Nat.zero_le _⟩
      rw [hT.1 0 hs a ha]
      exact Nat.le_zero.mp (Nat.le_trans (sx_mn_le _ _ _ _) (by decide))
    · obtain ⟨⟨b, hb, hbit, hc⟩, -⟩ := mEx hg hn hT (s := s) (k := 1) (rest := s) (prev := a) hs h0 (fun h => absurd h (by decide)) (fun _ => ha)
      unfold mCand mTgt at hc
      rw [if_neg hbit, if_neg (by decide), if_neg (by decide)] at hc
      have hd := sx_dlt (s := s) (k := b / 2) (by omega) (by omega) hbit
      obtain ⟨P, Q, h1, h2, h3⟩ := ih _ hd (by omega) b hb
      have h4 := sx_pc_d0 s (by omega) (b / 2) (by omega) hbit
      have h5 := mLp_le hg a b
      have h6 := mLl_le hg a b
      have h7 := hg.2.2.2.2.2.1 (b / 2)
      refine ⟨mLp av a b + P, av 6 (b / 2) + mLl av a b + Q, ?_, by omega, by omega⟩
      rw [← hc, h1]
      unfold mGo
      omega
theorem mB_two {av : Nat → Nat → Nat} {n : Nat} {L B : Nat → Nat} (hg : mG av) (hn : n ≤ 9) (hT : mT av n L B (2 ^ n)) {s : Nat} (hs : s < 2 ^ n) (h0 : ¬ s = 0) : B s / 100000 ≤ 792 ∧ B s % 100000 ≤ 2142 := by
  have hp9 := sx_p9 hn
  obtain ⟨⟨b, hb, hbit, hc⟩, -⟩ := mEx hg hn hT (s := s) (k := 0) (rest := s) (prev := 0) hs h0 (fun _ => rfl) (fun h => absurd rfl h)
  unfold mCand mTgt at hc
  rw [if_neg hbit, if_pos rfl, if_pos rfl] at hc
  have hd := sx_dlt (s := s) (k := b / 2) (by omega) (by omega) hbit
  obtain ⟨P, Q, h1, h2, h3⟩ := mL_two hg hn hT _ (show sx_diff s (2 ^ (b / 2)) < 2 ^ n by omega) b hb
  have h4 := sx_pc_d0 s (by omega) (b / 2) (by omega) hbit
  have h5 := sx_pc_n0 n (by omega) s hs
  have h7 := hg.2.2.2.2.2.1 (b / 2)
  have h8 : B s = 100000 * P + (av 6 (b / 2) + Q) := by rw [← hc]; unfold mFrom; omega
  omega
/-- the price of a set's best run -/
def mPr (av : Nat → Nat → Nat) (B : Nat → Nat) (s : Nat) : Nat := B s / 100000 + B s % 100000 * av 7 6 / 10
theorem mPr_le {av : Nat → Nat → Nat} {n : Nat} {L B : Nat → Nat} (hg : mG av) (hn : n ≤ 9) (hT : mT av n L B (2 ^ n)) {s : Nat} (hs : s < 2 ^ n) (h0 : ¬ s = 0) : mPr av B s ≤ 22000 := by
  obtain ⟨h1, h2⟩ := mB_two hg hn hT hs h0
  have h3 := hg.2.2.2.2.2.2 6
  have h4 : B s % 100000 * av 7 6 ≤ 2142 * 99 := Nat.mul_le_mul h2 h3
  unfold mPr
  omega
def sx_low (r : Nat) : Nat := r &&& (512 - r)
theorem sx_low0 : ∀ r, r < 512 → ∀ i, i < 9 → ¬ r &&& 2 ^ i = 0 → (∀ j, j < i → r &&& 2 ^ j = 0) → 2 ^ i = sx_low r := by decide +kernel
theorem sx_some0 : ∀ r, r < 512 → ¬ r = 0 → ¬ ∀ j, j < 9 → r &&& 2 ^ j = 0 := by decide +kernel
theorem sx_low1 : ∀ r, r < 512 → ¬ r = 0 → 1 ≤ sx_low r ∧ sx_low r ≤ r ∧ ∃ i, i < 9 ∧ sx_low r = 2 ^ i := by decide +kernel
theorem sx_below0 : ∀ i, i < 9 → ∀ u, u < 2 ^ i → u &&& 2 ^ i = 0 := by decide +kernel
theorem sx_sub_lt0 : ∀ i, i < 9 → ∀ r, r < 512 → ∀ t, t < 512 → ¬ t &&& 2 ^ i = 0 → ¬ r &&& 2 ^ i = 0 → sx_bit r i = 1 := by
  intro i hi r hr t ht h1 h2
  have h : ∀ r, r < 512 → ∀ i, i < 9 → ¬ r &&& 2 ^ i = 0 → sx_bit r i = 1 := by decide +kernel
  exact h r hr i hi h2
theorem sx_diff_bit (r t k : Nat) : (sx_diff r t).testBit k = (r.testBit k && !t.testBit k) := by
  unfold sx_diff
  rw [Nat.testBit_xor, Nat.testBit_and]
  cases r.testBit k <;> cases t.testBit k <;> rfl
theorem sx_bit_test (s k : Nat) : sx_bit s k = (s.testBit k).toNat := by
  unfold sx_bit
  rw [Nat.testBit_eq_decide_div_mod_eq]
  have h : s / 2 ^ k % 2 = 0 ∨ s / 2 ^ k % 2 = 1 := by omega
  rcases h with h | h <;> rw [h] <;> rfl
theorem sx_and_test {s i : Nat} (h : ¬ s &&& 2 ^ i = 0) : s.testBit i = true := by
  cases hb : s.testBit i with
  | true => rfl
  | false =>
    exfalso; apply h
    apply Nat.eq_of_testBit_eq
    intro j
    rw [Nat.testBit_and, Nat.testBit_two_pow, Nat.zero_testBit]
    by_cases e : i = j
    · subst e; rw [hb]; rfl
    · simp [e]
/-- to take out what has a bit in common leaves less, and fewer -/
theorem sx_diff_lt {r t i : Nat} (hr : r.testBit i = true) (ht : t.testBit i = true) : sx_diff r t < r := by
  rcases Nat.lt_or_ge (sx_diff r t) r with h | h
  · exact h
  · have e : sx_diff r t = r := Nat.le_antisymm (sx_diff_le r t) h
    have h1 := sx_diff_bit r t i
    rw [e, hr, ht] at h1
    cases h1
theorem sx_pc_bits (s : Nat) : sx_pc s = sx_sum (fun i => (s.testBit i).toNat) 9 := by
  unfold sx_pc
  have : (fun i => sx_bit s i) = fun i => (s.testBit i).toNat := funext fun i => sx_bit_test s i
  rw [this]
theorem sx_sum_mono {f g : Nat → Nat} {k : Nat} (h : ∀ i, i < k → f i ≤ g i) : sx_sum f k ≤ sx_sum g k := by
  induction k with
  | zero => exact Nat.le_refl _
  | succ k ih => unfold sx_sum; have := ih (fun i hi => h i (by omega)); have := h k (by omega); omega
theorem sx_sum_lt {f g : Nat → Nat} {k i : Nat} (h : ∀ i, i < k → f i ≤ g i) (hi : i < k) (hl : f i < g i) : sx_sum f k < sx_sum g k := by
  induction k with
  | zero => exact absurd hi (Nat.not_lt_zero _)
  | succ k ih =>
    unfold sx_sum
    by_cases e : i = k
    · subst e; have := sx_sum_mono (k := i) (fun j hj => h j (by omega)); omega
    · have := ih (fun j hj => h j (by omega)) (by omega); have := h k (by omega); omega
theorem sx_pc_sub {r t i : Nat} (hi : i < 9) (hr : r.testBit i = true) (ht : t.testBit i = true) : sx_pc (sx_diff r t) < sx_pc r := by
  rw [sx_pc_bits, sx_pc_bits]
  refine sx_sum_lt (i := i) (fun j _ => ?_) hi ?_
  · show ((sx_diff r t).testBit j).toNat ≤ (r.testBit j).toNat
    rw [sx_diff_bit]; cases r.testBit j <;> cases t.testBit j <;> decide
  · show ((sx_diff r t).testBit i).toNat < (r.testBit i).toNat
    rw [sx_diff_bit, hr, ht]; decide
/-- which sets may be the first of a split of r; what the split costs then, runs ahead of prices -/
def mOk (B M : Nat → Nat) (lg r t : Nat) : Nat := if sx_diff t r = 0 ∧ ¬ t &&& sx_low r = 0 ∧ B t % 100000 ≤ lg ∧ ¬ M (sx_diff r t) = 99 then 1 else 0
def mVf (av : Nat → Nat → Nat) (B M C : Nat → Nat) (r t : Nat) : Nat := 1048576 * (1 + M (sx_diff r t)) + (mPr av B t + C (sx_diff r t))
def mV (av : Nat → Nat → Nat) (B M C : Nat → Nat) (lg r k : Nat) : Nat := sx_mn 103809024 (mOk B M lg r) (mVf av B M C r) k
/-- k is the first of those that have the value v -/
def sx_fi (p f : Nat → Nat) (k v : Nat) : Prop := ¬ p k = 0 ∧ f k = v ∧ ∀ u, u < k → ¬ p u = 0 → v < f u
def mRow (av : Nat → Nat → Nat) (B M C : Nat → Nat) (lg r m c f k : Nat) : Prop := 1048576 * m + c = mV av B M C lg r k ∧ ((m = 99 ∧ c = 0) ∨ (1 ≤ m ∧ m ≤ sx_pc r ∧ c ≤ 22000 * m ∧ f < k ∧ sx_fi (mOk B M lg r) (mVf av B M C r) f (1048576 * m + c)))
def mVT (av : Nat → Nat → Nat) (B M C F : Nat → Nat) (lg K : Nat) : Prop := M 0 = 0 ∧ C 0 = 0 ∧ ∀ r, 1 ≤ r → r < K → mRow av B M C lg r (M r) (C r) (F r) (r + 1)
theorem sx_mn_skip {i0 : Nat} {p f : Nat → Nat} {t : Nat} (h : p t = 0 ∨ ¬ f t < sx_mn i0 p f t) : sx_mn i0 p f (t + 1) = sx_mn i0 p f t := by
  conv => lhs; unfold sx_mn
  rcases h with h | h
  · rw [if_pos h]
  · by_cases hp : p t = 0
    · rw [if_pos hp]
    · rw [if_neg hp, if_neg h]
theorem sx_mn_take {i0 : Nat} {p f : Nat → Nat} {t : Nat} (hp : ¬ p t = 0) (h : f t < sx_mn i0 p f t) : sx_mn i0 p f (t + 1) = f t := by
  conv => lhs; unfold sx_mn
  rw [if_neg hp, if_pos h]
theorem sx_mn_init {i0 : Nat} {p f : Nat → Nat} {k : Nat} (h : ∀ u, u < k → p u = 0) : sx_mn i0 p f k = i0 := by
  induction k with
  | zero => rfl
  | succ k ih => rw [sx_mn_skip (Or.inl (h k (by omega))), ih (fun u hu => h u (by omega))]
theorem mRow_skip {av : Nat → Nat → Nat} {B M C : Nat → Nat} {lg r m c f t : Nat} (h : mRow av B M C lg r m c f t) (hs : mOk B M lg r t = 0 ∨ ¬ mVf av B M C r t < 1048576 * m + c) : mRow av B M C lg r m c f (t + 1) := by
  obtain ⟨h1, h2⟩ := h
  refine ⟨?_, ?_⟩
  · rw [h1]; unfold mV; rw [sx_mn_skip]
    rcases hs with hs | hs
    · exact Or.inl hs
    · exact Or.inr (by rw [h1] at hs; exact hs)
  · rcases h2 with h2 | ⟨a1, a2, a3, a4, a5⟩
    · exact Or.inl h2
    · exact Or.inr ⟨a1, a2, a3, by omega, a5⟩
theorem mRow_take {av : Nat → Nat → Nat} {B M C : Nat → Nat} {lg r m c f t : Nat} (h : mRow av B M C lg r m c f t) (hp : ¬ mOk B M lg r t = 0) (hl : mVf av B M C r t < 1048576 * m + c) (hm : 1 + M (sx_diff r t) ≤ sx_pc r) (hc : mPr av B t + C (sx_diff r t) ≤ 22000 * (1 + M (sx_diff r t))) : mRow av B M C lg r (1 + M (sx_diff r t)) (mPr av B t + C (sx_diff r t)) t (t + 1) := by
  obtain ⟨h1, -⟩ := h
  rw [h1] at hl
  refine ⟨?_, Or.inr ⟨by omega, hm, hc, by omega, hp, rfl, fun u hu hpu => ?_⟩⟩
  · unfold mV; rw [sx_mn_take hp hl]; rfl
  · have h3 : mV av B M C lg r t ≤ mVf av B M C r u := sx_mn_lb hu hpu
    have h4 : mVf av B M C r t = 1048576 * (1 + M (sx_diff r t)) + (mPr av B t + C (sx_diff r t)) := rfl
    omega
/-- only smaller sets are asked -/
theorem mRow_congr {av : Nat → Nat → Nat} {B M C M2 C2 : Nat → Nat} {lg r m c f k : Nat} (hr : r < 512) (h0 : ¬ r = 0) (hM : ∀ j, j < r → M2 j = M j) (hC : ∀ j, j < r → C2 j = C j) (h : mRow av B M C lg r m c f k) : mRow av B M2 C2 lg r m c f k := by
  obtain ⟨hl1, hl2, i, hi9, hli⟩ := sx_low1 r hr h0
  have hrb : r.testBit i = true := sx_and_test (by rw [← hli]; unfold sx_low; intro q; have h9 : ∀ r, r < 512 → ¬ r = 0 → ¬ r &&& (r &&& (512 - r)) = 0 := by decide +kernel
                                                   exact h9 r hr h0 q)
  have hlt : ∀ t, ¬ t &&& sx_low r = 0 → sx_diff r t < r := fun t ht => sx_diff_lt hrb (sx_and_test (by rw [← hli]; exact ht))
  have e1 : ∀ t, mOk B M2 lg r t = mOk B M lg r t := fun t => by
    unfold mOk
    by_cases ht : t &&& sx_low r = 0
    · rw [if_neg (fun q => q.2.1 ht), if_neg (fun q => q.2.1 ht)]
    · rw [hM _ (hlt t ht)]
  have e2 : ∀ t, ¬ mOk B M lg r t = 0 → mVf av B M2 C2 r t = mVf av B M C r t := fun t hp => by
    have ht : ¬ t &&& sx_low r = 0 := fun q => hp (by unfold mOk; rw [if_neg (fun z => z.2.1 q)])
    unfold mVf; rw [hM _ (hlt t ht), hC _ (hlt t ht)]
  have e1' : mOk B M2 lg r = mOk B M lg r := funext e1
  obtain ⟨h1, h2⟩ := h
  refine ⟨?_, ?_⟩
  · rw [h1]; unfold mV; rw [e1']; exact sx_mn_congr (fun b _ hb => (e2 b hb).symm)
  · rcases h2 with h2 | ⟨a1, a2, a3, a4, b1, b2, b3⟩
    · exact Or.inl h2
    · exact Or.inr ⟨a1, a2, a3, a4, by rw [e1']; exact b1, by rw [e2 _ b1]; exact b2, fun u hu hp => by rw [e1'] at hp; rw [e2 u hp]; exact b3 u hu hp⟩
theorem mVT_next {av : Nat → Nat → Nat} {B M C F M2 C2 F2 : Nat → Nat} {lg r : Nat} (h1r : 1 ≤ r) (hr : r < 512) (hM : ∀ j, ¬ j = r → M2 j = M j) (hC : ∀ j, ¬ j = r → C2 j = C j) (hF : ∀ j, ¬ j = r → F2 j = F j) (h : mVT av B M C F lg r) (hr2 : mRow av B M C lg r (M2 r) (C2 r) (F2 r) (r + 1)) : mVT av B M2 C2 F2 lg (r + 1) := by
  obtain ⟨a1, a2, a3⟩ := h
  refine ⟨by rw [hM 0 (by omega)]; exact a1, by rw [hC 0 (by omega)]; exact a2, fun q h1 h2 => ?_⟩
  by_cases e : q = r
  · subst e
    exact mRow_congr hr (by omega) (fun j hj => hM j (by omega)) (fun j hj => hC j (by omega)) hr2
  · rw [hM q e, hC q e, hF q e]
    exact mRow_congr (by omega) (by omega) (fun j hj => hM j (by omega)) (fun j hj => hC j (by omega)) (a3 q h1 (by omega))
/-- the sets of a split, taken one by one from what is left -/
def mSpl (F : Nat → Nat) (all : Nat) (S : Nat → Nat) : Nat → Nat → Prop
  | 0, r => r = all
  | k + 1, r => ∃ r0, mSpl F all S k r0 ∧ ¬ r0 = 0 ∧ S k = F r0 ∧ r = sx_diff r0 (S k)
theorem mSpl_up {F : Nat → Nat} {all : Nat} {S : Nat → Nat} {i v : Nat} : ∀ {k r : Nat}, k ≤ i → mSpl F all S k r → mSpl F all (va_up S i v) k r := by
  intro k
  induction k with
  | zero => intro r _ h; exact h
  | succ k ih =>
    intro r hk h
    obtain ⟨r0, h1, h2, h3, h4⟩ := h
    have e : va_up S i v k = S k := by unfold va_up; rw [if_neg (by omega)]
    exact ⟨r0, ih (by omega) h1, h2, by rw [e]; exact h3, by rw [e]; exact h4⟩
theorem sx_sum_up {f : Nat → Nat} {i v : Nat} : ∀ {k : Nat}, k ≤ i → sx_sum (va_up f i v) k = sx_sum f k := by
  intro k
  induction k with
  | zero => intro _; rfl
  | succ k ih => intro h; unfold sx_sum; rw [ih (by omega)]; unfold va_up; rw [if_neg (by omega)]
/-- what a row of the table that has a way says of its first set -/
theorem mVT_at {av : Nat → Nat → Nat} {B M C F : Nat → Nat} {lg K r : Nat} (hK : K ≤ 512) (h : mVT av B M C F lg K) (hpr : ∀ t, ¬ t = 0 → t < K → mPr av B t ≤ 22000) (h1 : 1 ≤ r) (h2 : r < K) (h3 : ¬ M r = 99) : 1 ≤ M r ∧ M r ≤ 9 ∧ C r ≤ 22000 * M r ∧ F r ≤ r ∧ ¬ F r = 0 ∧ sx_diff r (F r) < r ∧ M r = 1 + M (sx_diff r (F r)) ∧ C r = mPr av B (F r) + C (sx_diff r (F r)) := by
  obtain ⟨a1, a2, a3⟩ := h
  obtain ⟨-, h5⟩ := a3 r h1 h2
  rcases h5 with h5 | ⟨b1, b2, b3, b4, b5, b6, -⟩
  · exact absurd h5.1 h3
  · have hpc : sx_pc r ≤ 9 := by have := sx_pc_n0 9 (by decide) r (show r < 2 ^ 9 by omega); exact this
    obtain ⟨hl1, hl2, i, hi9, hli⟩ := sx_low1 r (by omega) (by omega)
    have hrb : r.testBit i = true := sx_and_test (by rw [← hli]; unfold sx_low; intro q; have h9 : ∀ r, r < 512 → ¬ r = 0 → ¬ r &&& (r &&& (512 - r)) = 0 := by decide +kernel
                                                     exact h9 r (by omega) (by omega) q)
    have hok : sx_diff (F r) r = 0 ∧ ¬ F r &&& sx_low r = 0 ∧ B (F r) % 100000 ≤ lg ∧ ¬ M (sx_diff r (F r)) = 99 := by
      rcases Classical.em (sx_diff (F r) r = 0 ∧ ¬ F r &&& sx_low r = 0 ∧ B (F r) % 100000 ≤ lg ∧ ¬ M (sx_diff r (F r)) = 99) with q | q
      · exact q
      · exact absurd (by unfold mOk; rw [if_neg q]) b5
    have hd : sx_diff r (F r) < r := sx_diff_lt hrb (sx_and_test (by rw [← hli]; exact hok.2.1))
    have hF0 : ¬ F r = 0 := fun q => hok.2.1 (by rw [q]; exact Nat.zero_and _)
    have hcd : C (sx_diff r (F r)) < 1048576 - 22000 * 9 ∧ M (sx_diff r (F r)) ≤ 9 := by
      by_cases hz : sx_diff r (F r) = 0
      · rw [hz, a1, a2]; omega
      · obtain ⟨-, h6⟩ := a3 _ (by omega) (show sx_diff r (F r) < K by omega)
        rcases h6 with h6 | ⟨c1, c2, c3, -⟩
        · exact absurd h6.1 hok.2.2.2
        · have := sx_pc_n0 9 (by decide) (sx_diff r (F r)) (show _ < 2 ^ 9 by omega); omega
    have hv : 1048576 * (1 + M (sx_diff r (F r))) + (mPr av B (F r) + C (sx_diff r (F r))) = 1048576 * M r + C r := b6
    have hp2 := hpr (F r) hF0 (by omega)
    refine ⟨b1, by omega, b3, by omega, hF0, hd, ?_, ?_⟩ <;> omega
theorem mVT_bd0 {av : Nat → Nat → Nat} {B M C F : Nat → Nat} {lg K j : Nat} (h : mVT av B M C F lg K) (hj : j < K) (hK : K ≤ 512) : M j ≤ 99 ∧ C j ≤ 198000 := by
  by_cases e : j = 0
  · subst e; rw [h.1, h.2.1]; omega
  · have hp := sx_pc_n0 9 (by decide) j (show j < 2 ^ 9 by omega)
    obtain ⟨-, q | ⟨q1, q2, q3, -⟩⟩ := h.2.2 j (by omega) hj
    · omega
    · omega
theorem mVT_bd1 {av : Nat → Nat → Nat} {B M C F : Nat → Nat} {lg K j : Nat} (h : mVT av B M C F lg K) (hj : j < K) (hK : K ≤ 512) (h9 : ¬ M j = 99) : M j ≤ sx_pc j ∧ C j ≤ 22000 * M j := by
  by_cases e : j = 0
  · subst e; rw [h.1, h.2.1]; omega
  · obtain ⟨-, q | ⟨q1, q2, q3, -⟩⟩ := h.2.2 j (by omega) hj
    · exact absurd q.1 h9
    · exact ⟨q2, q3⟩
theorem mVT_bd {av : Nat → Nat → Nat} {B M C F M1 C1 : Nat → Nat} {lg r j : Nat} (h : mVT av B M C F lg r) (hMo : ∀ j, ¬ j = r → M1 j = M j) (hCo : ∀ j, ¬ j = r → C1 j = C j) (hm : M1 r ≤ 99 ∧ C1 r ≤ 198000) (hj : j ≤ r) (hr : r ≤ 512) : M1 j ≤ 99 ∧ C1 j ≤ 198000 := by
  by_cases e : j = r
  · subst e; exact hm
  · rw [hMo j e, hCo j e]; exact mVT_bd0 h (by omega) hr
theorem mSub {r t : Nat} (hr : r < 512) (h0 : ¬ r = 0) (ht : ¬ t &&& sx_low r = 0) : sx_diff r t < r ∧ sx_pc (sx_diff r t) < sx_pc r := by
  obtain ⟨hl1, hl2, i, hi9, hli⟩ := sx_low1 r hr h0
  have hrb : r.testBit i = true := sx_and_test (by rw [← hli]; unfold sx_low; intro q; have h9 : ∀ r, r < 512 → ¬ r = 0 → ¬ r &&& (r &&& (512 - r)) = 0 := by decide +kernel
                                                   exact h9 r hr h0 q)
  have htb := sx_and_test (show ¬ t &&& 2 ^ i = 0 by rw [← hli]; exact ht)
  exact ⟨sx_diff_lt hrb htb, sx_pc_sub hi9 hrb htb⟩
theorem mRow_0 {av : Nat → Nat → Nat} {B M C : Nat → Nat} {lg r m c f : Nat} (hr : r < 512) (h0 : ¬ r = 0) (hm : m = 99) (hc : c = 0) : mRow av B M C lg r m c f (sx_low r) := by
  obtain ⟨hl1, hl2, i, hi9, hli⟩ := sx_low1 r hr h0
  refine ⟨?_, Or.inl ⟨hm, hc⟩⟩
  rw [hm, hc]
  unfold mV
  rw [sx_mn_init]
  intro u hu
  unfold mOk
  rw [if_neg (fun z => z.2.1 (by rw [hli]; exact sx_below0 i hi9 u (by omega)))]
theorem i_X8_split_8 : ∀ w ∈ u_ws RX8 TX8 24, w ∈ wsX8_split := by decide +kernel
theorem m_X8_split_f68 : Cond.fieldLink RX8 68 (TX8 9).1 (TX8 9).2.1 (TX8 9).2.2.1 ∈ wsX8_split := by decide +kernel
theorem m_X8_split_f71 : Cond.fieldLink RX8 71 (TX8 0).1 (TX8 0).2.1 (TX8 0).2.2.1 ∈ wsX8_split := by decide +kernel
theorem m_X8_split_f53 : Cond.fieldLink RX8 53 (TX8 19).1 (TX8 19).2.1 (TX8 19).2.2.1 ∈ wsX8_split := by decide +kernel
theorem m_X8_split_f56 : Cond.fieldLink RX8 56 (TX8 20).1 (TX8 20).2.1 (TX8 20).2.2.1 ∈ wsX8_split := by decide +kernel
theorem m_X8_split_f38 : Cond.fieldLink RX8 38 (TX8 11).1 (TX8 11).2.1 (TX8 11).2.2.1 ∈ wsX8_split := by decide +kernel
theorem m_X8_split_c107 : Cond.constant RX8 107 (100000) ∈ wsX8_split := by decide +kernel
theorem m_X8_split_f31 : Cond.fieldLink RX8 31 (TX8 8).1 (TX8 8).2.1 (TX8 8).2.2.1 ∈ wsX8_split := by decide +kernel
theorem m_X8_split_f59 : Cond.fieldLink RX8 59 (TX8 21).1 (TX8 21).2.1 (TX8 21).2.2.1 ∈ wsX8_split := by decide +kernel
theorem m_X8_split_f74 : Cond.fieldLink RX8 74 (TX8 13).1 (TX8 13).2.1 (TX8 13).2.2.1 ∈ wsX8_split := by decide +kernel
theorem m_X8_split_f131 : Cond.fieldLink RX8 131 (TX8 14).1 (TX8 14).2.1 (TX8 14).2.2.1 ∈ wsX8_split := by decide +kernel
theorem m_X8_split_f134 : Cond.fieldLink RX8 134 (TX8 15).1 (TX8 15).2.1 (TX8 15).2.2.1 ∈ wsX8_split := by decide +kernel
theorem m_X8_split_f44 : Cond.fieldLink RX8 44 (TX8 16).1 (TX8 16).2.1 (TX8 16).2.2.1 ∈ wsX8_split := by decide +kernel
theorem m_X8_split_f47 : Cond.fieldLink RX8 47 (TX8 17).1 (TX8 17).2.1 (TX8 17).2.2.1 ∈ wsX8_split := by decide +kernel
theorem m_X8_split_f50 : Cond.fieldLink RX8 50 (TX8 18).1 (TX8 18).2.1 (TX8 18).2.2.1 ∈ wsX8_split := by decide +kernel
set_option maxHeartbeats 4000000 in
set_option maxRecDepth 100000 in
theorem c_X8_split (l : Launch) (X : sx_X) (bd : Nat → Nat) (sc : Nat → Int32) (av : Nat → Nat → Nat) (n : Nat) (hn : n ≤ 9) (h0 : sc 0 = nI n) (hg : mG av) (hL0 : ∀ j, av 8 j ≤ 2000000000) (hB0 : ∀ j, av 9 j ≤ 2000000000) (lg : Nat) (hlg : lg ≤ 9999) (h1 : sc 1 = nI lg) (hF0 : ∀ j, av 16 j < 512) : sx_Mi l yX8_split wsX8_split { frames := 4, cells := 0, slots := 0, locals := 95 } X [.ref (bd 0)] (mw X bd sc av) (fun r w => ∃ L B M C F : Nat → Nat, (∀ j, L j ≤ 2000000000) ∧ (∀ j, B j ≤ 2000000000) ∧ mT av n L B (2 ^ n) ∧ mVT av B M C F lg (2 ^ n) ∧ (∀ j, F j < 512) ∧ ((M (2 ^ n - 1) = 99 ∧ r = -1 ∧ w = mw X bd (va_up sc 2 (nI 0)) (va_up (va_up (va_up (va_up (va_up av 8 L) 9 B) 14 M) 15 C) 16 F)) ∨ (¬ M (2 ^ n - 1) = 99 ∧ r = nI (M (2 ^ n - 1)) ∧ ∃ S Z Q : Nat → Nat, w = mw X bd (va_up (va_up (va_up (va_up sc 2 (nI 0)) 3 (nI 1)) 4 (nI (M (2 ^ n - 1)))) 5 (nI (C (2 ^ n - 1)))) (va_up (va_up (va_up (va_up (va_up (va_up (va_up (va_up av 8 L) 9 B) 11 S) 12 Z) 13 Q) 14 M) 15 C) 16 F) ∧ mSpl F (2 ^ n - 1) S (M (2 ^ n - 1)) 0 ∧ (∀ j, j < M (2 ^ n - 1) → Z j = B (S j) % 100000 ∧ Q j = mPr av B (S j)) ∧ (∀ j, M (2 ^ n - 1) ≤ j → Z j = av 12 j) ∧ sx_sum Q (M (2 ^ n - 1)) = C (2 ^ n - 1)))) 0 0 := by
  refine sx_entI (own := RX8) (nL := 7) (by decide +kernel) rfl rfl (Nat.le_of_ble_eq_true rfl) ?_
  intro G hG hN hret
  show sx_W l X G 0 0 0 [(0, .ref (bd 0))] [] (mw X bd sc av)
  have hp9 := sx_p9 hn
  have hp1 : 1 ≤ 2 ^ n := Nat.one_le_two_pow
  refine sx_aload_n (pc := 0) hG dX8_split_0 rfl 0 rfl ?_
  refine sx_iconst (pc := 1) (v := nI 0) hG dX8_split_1 (by decide +kernel) ?_
  refine sx_put (pc := 2) (v := .int (nI 0)) (ci := 8) (w2 := (mw X bd (va_up sc 2 (nI 0)) av)) hG i_X8_split_8 tyX8 tyX8_ok nmX8 9 m_X8_split_f68 dX8_split_2 rfl (by decide) 0 rfl rfl rfl rfl (Nat.le_of_ble_eq_true rfl) rfl ?_
  refine sx_aload_n (pc := 5) hG dX8_split_5 rfl 0 rfl ?_
  refine sx_callVvw (pc := 6) (n9 := 0) (As := []) (st := []) (b := (bd 0)) (ci := 8) hG (c_X8_work l X bd (va_up sc 2 (nI 0)) av n hn h0 hg hL0 hB0) gX8_split_X8_work rfl (by decide +kernel) rfl 0 rfl rfl rfl dX8_split_6 ⟨rfl, rfl⟩ ⟨Nat.le_of_ble_eq_true rfl, Nat.le_of_ble_eq_true rfl⟩ (Nat.le_of_ble_eq_true rfl) ⟨Nat.le_of_ble_eq_true rfl, Nat.le_of_ble_eq_true rfl⟩ (fun w1 hp => ?_)
  obtain ⟨L, B, hw9, hT, hLb, hBb⟩ := hp
  refine sx_weq hw9 ?_
  refine sx_iconst (pc := 9) (v := nI 1) hG dX8_split_9 (by decide +kernel) ?_
  refine sx_aload_n (pc := 10) hG dX8_split_10 rfl 0 rfl ?_
  refine sx_get (pc := 11) (v2 := .int (nI n)) (ci := 8) hG i_X8_split_8 0 m_X8_split_f71 dX8_split_11 rfl (by decide) 0 rfl rfl (congrArg Value.int h0) ?_
  refine sx_ishl (pc := 14) (v := (nI (2 ^ n))) hG dX8_split_14 (sx_one (by omega)) ?_
  refine sx_iconst (pc := 15) (v := nI 1) hG dX8_split_15 (by decide +kernel) ?_
  refine sx_isub (pc := 16) (v := (nI ((2 ^ n) - 1))) hG dX8_split_16 (pk_sub (by omega)) ?_
  refine sx_istore_n (pc := 17) (lv2 := [(0, .ref (bd 0)), (1, .int (nI ((2 ^ n) - 1)))]) hG [1, 0] dX8_split_17 rfl hN (by decide) rfl ?_
  refine sx_aload_n (pc := 18) hG dX8_split_18 rfl 0 rfl ?_
  refine sx_get (pc := 19) (v2 := .ref (bd 14)) (ci := 8) hG i_X8_split_8 19 m_X8_split_f53 dX8_split_19 rfl (by decide) 0 rfl rfl rfl ?_
  refine sx_iconst (pc := 22) (v := nI 0) hG dX8_split_22 (by decide +kernel) ?_
  refine sx_iconst (pc := 23) (v := nI 0) hG dX8_split_23 (by decide +kernel) ?_
  refine sx_iastN (pc := 24) (w2 := (mw X bd (va_up sc 2 (nI 0)) (va_up (va_up (va_up av 8 L) 9 B) 14 (va_up (av 14) 0 0)))) hG 14 dX8_split_24 rfl (by decide) (by omega) rfl ?_
  refine sx_aload_n (pc := 25) hG dX8_split_25 rfl 0 rfl ?_
  refine sx_get (pc := 26) (v2 := .ref (bd 15)) (ci := 8) hG i_X8_split_8 20 m_X8_split_f56 dX8_split_26 rfl (by decide) 0 rfl rfl rfl ?_
  refine sx_iconst (pc := 29) (v := nI 0) hG dX8_split_29 (by decide +kernel) ?_
  refine sx_iconst (pc := 30) (v := nI 0) hG dX8_split_30 (by decide +kernel) ?_
  refine sx_iastN (pc := 31) (w2 := (mw X bd (va_up sc 2 (nI 0)) (va_up (va_up (va_up (va_up av 8 L) 9 B) 14 (va_up (av 14) 0 0)) 15 (va_up (av 15) 0 0)))) hG 15 dX8_split_31 rfl (by decide) (by omega) rfl ?_
  refine sx_iconst (pc := 32) (v := nI 1) hG dX8_split_32 (by decide +kernel) ?_
  refine sx_istore_n (pc := 33) (lv2 := [(0, .ref (bd 0)), (1, .int (nI ((2 ^ n) - 1))), (2, .int (nI 1))]) hG [1, 2, 0] dX8_split_33 rfl hN (by decide) rfl ?_
  have loop_r : ∀ (fuel : Nat), ∀ (r : Nat) (M C F : Nat → Nat), (1 ≤ r) → (r ≤ 2 ^ n) → (mVT av B M C F lg r) → (∀ j, F j < 512) → 2 ^ n - r < fuel → sx_W l X G 0 0 34 [(0, .ref (bd 0)), (1, .int (nI (2 ^ n - 1))), (2, .int (nI r))] [] (mw X bd (va_up sc 2 (nI 0)) (va_up (va_up (va_up (va_up (va_up av 8 L) 9 B) 14 M) 15 C) 16 F)) := by
    intro fuel
    induction fuel with
    | zero => intro r M C F hr1 hr hVT hF5 hm; exact absurd hm (Nat.not_lt_zero _)
    | succ fuel ih_r =>
      intro r M C F hr1 hr hVT hF5 hm_r
      have loop_t : ∀ (fuel : Nat), ∀ (t : Nat) (M1 C1 F1 : Nat → Nat), (r < 2 ^ n) → (t ≤ r + 1) → (mRow av B M C lg r (M1 r) (C1 r) (F1 r) t) → (∀ j, ¬ j = r → M1 j = M j) → (∀ j, ¬ j = r → C1 j = C j) → (∀ j, ¬ j = r → F1 j = F j) → (∀ j, F1 j < 512) → r + 1 - t < fuel → sx_W l X G 0 0 72 [(0, .ref (bd 0)), (1, .int (nI (2 ^ n - 1))), (2, .int (nI r)), (3, .int (nI (sx_low r))), (4, .int (nI t))] [] (mw X bd (va_up sc 2 (nI 0)) (va_up (va_up (va_up (va_up (va_up av 8 L) 9 B) 14 M1) 15 C1) 16 F1)) := by
        intro fuel
        induction fuel with
        | zero => intro t M1 C1 F1 hrn ht hrow hMo hCo hFo hF6 hm; exact absurd hm (Nat.not_lt_zero _)
        | succ fuel ih_t =>
          intro t M1 C1 F1 hrn ht hrow hMo hCo hFo hF6 hm_t
          have hdle := sx_diff_le t r
          have hdle2 := sx_diff_le r t
          have hlw := sx_low1 r (by omega) (by omega)
          have hale := Nat.and_le_left (n := t) (m := sx_low r)
          have hB9 := hBb t
          have hpc := sx_pc_n0 n (by omega) r hrn
          have hm100 : M1 r ≤ 99 ∧ C1 r ≤ 198000 := by obtain ⟨-, q | ⟨q1, q2, q3, -⟩⟩ := hrow; exact ⟨by omega, by omega⟩; exact ⟨by omega, by omega⟩
          have hMd99 : M1 (sx_diff r t) ≤ 99 ∧ C1 (sx_diff r t) ≤ 198000 := mVT_bd hVT hMo hCo hm100 (by omega) (by omega)
          have hsub : ¬ t &&& sx_low r = 0 → sx_diff r t < r ∧ sx_pc (sx_diff r t) < sx_pc r := mSub (by omega) (by omega)
          have hprl : ¬ t = 0 → t < 2 ^ n → mPr av B t ≤ 22000 := fun q1 q2 => mPr_le hg hn hT q2 q1
          refine sx_iload (pc := 72) hG dX8_split_72 4 rfl ?_
          refine sx_iload_n (pc := 74) hG dX8_split_74 rfl 2 rfl ?_
          refine sx_icmp_gt (pc := 75) (tgt := 231) (B := r < t) hG dX8_split_75 (by decide) (nI_ltI (by omega) (by omega)) (fun c75 => ?_) (fun c75 => ?_)
          · skip
            refine sx_iinc (pc := 231) (v := (nI (r + 1))) (lv2 := [(0, .ref (bd 0)), (1, .int (nI (2 ^ n - 1))), (2, .int (nI (r + 1))), (3, .int (nI (sx_low r))), (4, .int (nI t))]) hG [1, 2, 0, 3, 4] dX8_split_231 2 rfl (sx_inc r) hN (by decide) rfl ?_
            refine sx_goto (pc := 234) (tgt := 34) hG dX8_split_234 (by decide) ?_
            refine sx_lsub [0, 1, 2] rfl ?_
            refine ih_r (r + 1) M1 C1 F1 (by omega) (by omega) (mVT_next hr1 (by omega) hMo hCo hFo hVT (by rw [show r + 1 = t by omega]; exact hrow)) hF6 (by omega)
          · skip
            refine sx_iload (pc := 78) hG dX8_split_78 4 rfl ?_
            refine sx_iload_n (pc := 80) hG dX8_split_80 rfl 2 rfl ?_
            refine sx_iconst (pc := 81) (v := (-1)) hG dX8_split_81 (by decide +kernel) ?_
            refine sx_ixor (pc := 82) (v := (nI r ^^^ (-1))) hG dX8_split_82 rfl ?_
            refine sx_iand (pc := 83) (v := (nI (sx_diff t r))) hG dX8_split_83 (sx_andnot (by omega) (by omega)) ?_
            refine sx_if_ne (pc := 84) (tgt := 225) (B := (sx_diff t r) = 0) hG dX8_split_84 (by decide) (sx_eq0 (by omega)) (fun c84 => ?_) (fun c84 => ?_)
            · skip
              refine sx_iinc (pc := 225) (v := (nI (t + 1))) (lv2 := [(0, .ref (bd 0)), (1, .int (nI (2 ^ n - 1))), (2, .int (nI r)), (3, .int (nI (sx_low r))), (4, .int (nI (t + 1)))]) hG [1, 2, 3, 4, 0] dX8_split_225 4 rfl (sx_inc t) hN (by decide) rfl ?_
              refine sx_goto (pc := 228) (tgt := 72) hG dX8_split_228 (by decide) ?_
              refine ih_t (t + 1) _ _ _ hrn (by omega) (mRow_skip hrow (Or.inl (by unfold mOk; rw [if_neg (fun z => c84 z.1)]))) hMo hCo hFo hF6 (by omega)
            · skip
              refine sx_iload (pc := 87) hG dX8_split_87 4 rfl ?_
              refine sx_iload_n (pc := 89) hG dX8_split_89 rfl 3 rfl ?_
              refine sx_iand (pc := 90) (v := (nI (t &&& (sx_low r)))) hG dX8_split_90 (sx_and (by omega) (by omega)) ?_
              refine sx_if_eq (pc := 91) (tgt := 225) (B := (t &&& (sx_low r)) = 0) hG dX8_split_91 (by decide) (sx_eq0 (by omega)) (fun c91 => ?_) (fun c91 => ?_)
              · skip
                refine sx_iinc (pc := 225) (v := (nI (t + 1))) (lv2 := [(0, .ref (bd 0)), (1, .int (nI (2 ^ n - 1))), (2, .int (nI r)), (3, .int (nI (sx_low r))), (4, .int (nI (t + 1)))]) hG [1, 2, 3, 4, 0] dX8_split_225 4 rfl (sx_inc t) hN (by decide) rfl ?_
                refine sx_goto (pc := 228) (tgt := 72) hG dX8_split_228 (by decide) ?_
                refine ih_t (t + 1) _ _ _ hrn (by omega) (mRow_skip hrow (Or.inl (by unfold mOk; rw [if_neg (fun z => z.2.1 c91)]))) hMo hCo hFo hF6 (by omega)
              · skip
                refine sx_aload_n (pc := 94) hG dX8_split_94 rfl 0 rfl ?_
                refine sx_get (pc := 95) (v2 := .ref (bd 9)) (ci := 8) hG i_X8_split_8 11 m_X8_split_f38 dX8_split_95 rfl (by decide) 0 rfl rfl rfl ?_
                refine sx_iload (pc := 98) hG dX8_split_98 4 rfl ?_
                refine sx_iald (pc := 100) (v := nI (B t)) hG 9 dX8_split_100 rfl (by decide) (by omega) rfl ?_
                refine sx_ldc (pc := 101) (v2 := nI 100000) hG m_X8_split_c107 dX8_split_101 (by decide +kernel) ?_
                refine sx_irem (pc := 103) (v := (nI ((B t) % 100000))) hG dX8_split_103 (nI_ne0 (by decide) (by decide)) (pk_rem (by omega) (by decide) (by decide)) ?_
                refine sx_aload_n (pc := 104) hG dX8_split_104 rfl 0 rfl ?_
                refine sx_get (pc := 105) (v2 := .int (nI lg)) (ci := 8) hG i_X8_split_8 8 m_X8_split_f31 dX8_split_105 rfl (by decide) 0 rfl rfl (congrArg Value.int h1) ?_
                refine sx_icmp_gt (pc := 108) (tgt := 225) (B := lg < ((B t) % 100000)) hG dX8_split_108 (by decide) (nI_ltI (by omega) (by omega)) (fun c108 => ?_) (fun c108 => ?_)
                · skip
                  refine sx_iinc (pc := 225) (v := (nI (t + 1))) (lv2 := [(0, .ref (bd 0)), (1, .int (nI (2 ^ n - 1))), (2, .int (nI r)), (3, .int (nI (sx_low r))), (4, .int (nI (t + 1)))]) hG [1, 2, 3, 4, 0] dX8_split_225 4 rfl (sx_inc t) hN (by decide) rfl ?_
                  refine sx_goto (pc := 228) (tgt := 72) hG dX8_split_228 (by decide) ?_
                  refine ih_t (t + 1) _ _ _ hrn (by omega) (mRow_skip hrow (Or.inl (by unfold mOk; rw [if_neg (fun z => absurd z.2.2.1 (by omega))]))) hMo hCo hFo hF6 (by omega)
                · skip
                  refine sx_aload_n (pc := 111) hG dX8_split_111 rfl 0 rfl ?_
                  refine sx_get (pc := 112) (v2 := .ref (bd 14)) (ci := 8) hG i_X8_split_8 19 m_X8_split_f53 dX8_split_112 rfl (by decide) 0 rfl rfl rfl ?_
                  refine sx_iload_n (pc := 115) hG dX8_split_115 rfl 2 rfl ?_
                  refine sx_iload (pc := 116) hG dX8_split_116 4 rfl ?_
                  refine sx_iconst (pc := 118) (v := (-1)) hG dX8_split_118 (by decide +kernel) ?_
                  refine sx_ixor (pc := 119) (v := (nI t ^^^ (-1))) hG dX8_split_119 rfl ?_
                  refine sx_iand (pc := 120) (v := (nI (sx_diff r t))) hG dX8_split_120 (sx_andnot (by omega) (by omega)) ?_
                  refine sx_iald (pc := 121) (v := nI (M1 (sx_diff r t))) hG 14 dX8_split_121 rfl (by decide) (by omega) rfl ?_
                  refine sx_bipush (pc := 122) (v := nI 99) hG dX8_split_122 (by decide +kernel) ?_
                  refine sx_icmp_ne (pc := 124) (tgt := 130) (B := (M1 (sx_diff r t)) = 99) hG dX8_split_124 (by decide) (nI_eq (by omega) (by omega)) (fun c124 => ?_) (fun c124 => ?_)
                  · skip
                    refine sx_iconst (pc := 130) (v := nI 1) hG dX8_split_130 (by decide +kernel) ?_
                    refine sx_aload_n (pc := 131) hG dX8_split_131 rfl 0 rfl ?_
                    refine sx_get (pc := 132) (v2 := .ref (bd 14)) (ci := 8) hG i_X8_split_8 19 m_X8_split_f53 dX8_split_132 rfl (by decide) 0 rfl rfl rfl ?_
                    refine sx_iload_n (pc := 135) hG dX8_split_135 rfl 2 rfl ?_
                    refine sx_iload (pc := 136) hG dX8_split_136 4 rfl ?_
                    refine sx_iconst (pc := 138) (v := (-1)) hG dX8_split_138 (by decide +kernel) ?_
                    refine sx_ixor (pc := 139) (v := (nI t ^^^ (-1))) hG dX8_split_139 rfl ?_
                    refine sx_iand (pc := 140) (v := (nI (sx_diff r t))) hG dX8_split_140 (sx_andnot (by omega) (by omega)) ?_
                    refine sx_iald (pc := 141) (v := nI (M1 (sx_diff r t))) hG 14 dX8_split_141 rfl (by decide) (by omega) rfl ?_
                    refine sx_iadd (pc := 142) (v := (nI (1 + (M1 (sx_diff r t))))) hG dX8_split_142 (nI_add 1 (M1 (sx_diff r t))) ?_
                    refine sx_istore (pc := 143) (lv2 := [(0, .ref (bd 0)), (1, .int (nI (2 ^ n - 1))), (2, .int (nI r)), (3, .int (nI (sx_low r))), (4, .int (nI t)), (5, .int (nI (1 + (M1 (sx_diff r t)))))]) hG [1, 2, 3, 4, 5, 0] dX8_split_143 hN (by decide) rfl ?_
                    obtain ⟨hsub1, hsub2⟩ := hsub c91
                    have hMd := hMo (sx_diff r t) (by omega)
                    have hCd := hCo (sx_diff r t) (by omega)
                    have hvf : mVf av B M C r t = 1048576 * (1 + M1 (sx_diff r t)) + (mPr av B t + C1 (sx_diff r t)) := by unfold mVf; rw [hMd, hCd]
                    have hprl2 := hprl (fun q => c91 (by rw [q]; exact Nat.zero_and _)) (by omega)
                    have hbd := mVT_bd1 hVT (show sx_diff r t < r by omega) (by omega) (by rw [← hMd]; exact c124)
                    have hprd : mPr av B t = B t / 100000 + B t % 100000 * av 7 6 / 10 := rfl
                    refine sx_aload_n (pc := 145) hG dX8_split_145 rfl 0 rfl ?_
                    refine sx_iload (pc := 146) hG dX8_split_146 4 rfl ?_
                    refine sx_callViw (pc := 148) (n9 := 1) (As := [.int (nI t)]) (st := []) (b := (bd 0)) (ci := 8) hG (c_X8_priceOf l X bd (va_up sc 2 (nI 0)) (va_up (va_up (va_up (va_up (va_up av 8 L) 9 B) 14 M1) 15 C1) 16 F1) t (by omega) hg hBb) gX8_split_X8_priceOf rfl (by decide +kernel) rfl 0 rfl rfl rfl dX8_split_148 ⟨rfl, rfl⟩ ⟨Nat.le_of_ble_eq_true rfl, Nat.le_of_ble_eq_true rfl⟩ (Nat.le_of_ble_eq_true rfl) ⟨Nat.le_of_ble_eq_true rfl, Nat.le_of_ble_eq_true rfl⟩ (fun r w1 hp => ?_)
                    obtain ⟨hr9, hw9⟩ := hp
                    have hr9 : r = (nI (B t / 100000 + B t % 100000 * av 7 6 / 10)) := hr9
                    subst hr9
                    refine sx_weq hw9 ?_
                    refine sx_aload_n (pc := 151) hG dX8_split_151 rfl 0 rfl ?_
                    refine sx_get (pc := 152) (v2 := .ref (bd 15)) (ci := 8) hG i_X8_split_8 20 m_X8_split_f56 dX8_split_152 rfl (by decide) 0 rfl rfl rfl ?_
                    refine sx_iload_n (pc := 155) hG dX8_split_155 rfl 2 rfl ?_
                    refine sx_iload (pc := 156) hG dX8_split_156 4 rfl ?_
                    refine sx_iconst (pc := 158) (v := (-1)) hG dX8_split_158 (by decide +kernel) ?_
                    refine sx_ixor (pc := 159) (v := (nI t ^^^ (-1))) hG dX8_split_159 rfl ?_
                    refine sx_iand (pc := 160) (v := (nI (sx_diff r t))) hG dX8_split_160 (sx_andnot (by omega) (by omega)) ?_
                    refine sx_iald (pc := 161) (v := nI (C1 (sx_diff r t))) hG 15 dX8_split_161 rfl (by decide) (by omega) rfl ?_
                    refine sx_iadd (pc := 162) (v := (nI (B t / 100000 + B t % 100000 * av 7 6 / 10 + (C1 (sx_diff r t))))) hG dX8_split_162 (nI_add (B t / 100000 + B t % 100000 * av 7 6 / 10) (C1 (sx_diff r t))) ?_
                    refine sx_istore (pc := 163) (lv2 := [(0, .ref (bd 0)), (1, .int (nI (2 ^ n - 1))), (2, .int (nI r)), (3, .int (nI (sx_low r))), (4, .int (nI t)), (5, .int (nI (1 + (M1 (sx_diff r t))))), (6, .int (nI (B t / 100000 + B t % 100000 * av 7 6 / 10 + (C1 (sx_diff r t)))))]) hG [1, 2, 3, 4, 5, 6, 0] dX8_split_163 hN (by decide) rfl ?_
                    refine sx_iload (pc := 165) hG dX8_split_165 5 rfl ?_
                    refine sx_aload_n (pc := 167) hG dX8_split_167 rfl 0 rfl ?_
                    refine sx_get (pc := 168) (v2 := .ref (bd 14)) (ci := 8) hG i_X8_split_8 19 m_X8_split_f53 dX8_split_168 rfl (by decide) 0 rfl rfl rfl ?_
                    refine sx_iload_n (pc := 171) hG dX8_split_171 rfl 2 rfl ?_
                    refine sx_iald (pc := 172) (v := nI (M1 r)) hG 14 dX8_split_172 rfl (by decide) (by omega) rfl ?_
                    refine sx_icmp_gt (pc := 173) (tgt := 225) (B := (M1 r) < (1 + (M1 (sx_diff r t)))) hG dX8_split_173 (by decide) (nI_ltI (by omega) (by omega)) (fun c173 => ?_) (fun c173 => ?_)
                    · skip
                      refine sx_iinc (pc := 225) (v := (nI (t + 1))) (lv2 := [(0, .ref (bd 0)), (1, .int (nI (2 ^ n - 1))), (2, .int (nI r)), (3, .int (nI (sx_low r))), (4, .int (nI (t + 1))), (5, .int (nI (1 + (M1 (sx_diff r t))))), (6, .int (nI (B t / 100000 + B t % 100000 * av 7 6 / 10 + (C1 (sx_diff r t)))))]) hG [1, 2, 3, 4, 0, 5, 6] dX8_split_225 4 rfl (sx_inc t) hN (by decide) rfl ?_
                      refine sx_goto (pc := 228) (tgt := 72) hG dX8_split_228 (by decide) ?_
                      refine sx_lsub [0, 1, 2, 3, 4] rfl ?_
                      refine ih_t (t + 1) _ _ _ hrn (by omega) (mRow_skip hrow (Or.inr (by rw [hvf]; omega))) hMo hCo hFo hF6 (by omega)
                    · skip
                      refine sx_iload (pc := 176) hG dX8_split_176 5 rfl ?_
                      refine sx_aload_n (pc := 178) hG dX8_split_178 rfl 0 rfl ?_
                      refine sx_get (pc := 179) (v2 := .ref (bd 14)) (ci := 8) hG i_X8_split_8 19 m_X8_split_f53 dX8_split_179 rfl (by decide) 0 rfl rfl rfl ?_
                      refine sx_iload_n (pc := 182) hG dX8_split_182 rfl 2 rfl ?_
                      refine sx_iald (pc := 183) (v := nI (M1 r)) hG 14 dX8_split_183 rfl (by decide) (by omega) rfl ?_
                      refine sx_icmp_ne (pc := 184) (tgt := 201) (B := (1 + (M1 (sx_diff r t))) = (M1 r)) hG dX8_split_184 (by decide) (nI_eq (by omega) (by omega)) (fun c184 => ?_) (fun c184 => ?_)
                      · skip
                        refine sx_aload_n (pc := 201) hG dX8_split_201 rfl 0 rfl ?_
                        refine sx_get (pc := 202) (v2 := .ref (bd 14)) (ci := 8) hG i_X8_split_8 19 m_X8_split_f53 dX8_split_202 rfl (by decide) 0 rfl rfl rfl ?_
                        refine sx_iload_n (pc := 205) hG dX8_split_205 rfl 2 rfl ?_
                        refine sx_iload (pc := 206) hG dX8_split_206 5 rfl ?_
                        refine sx_iastN (pc := 208) (w2 := (mw X bd (va_up sc 2 (nI 0)) (va_up (va_up (va_up (va_up (va_up av 8 L) 9 B) 14 (va_up M1 r (1 + (M1 (sx_diff r t))))) 15 C1) 16 F1))) hG 14 dX8_split_208 rfl (by decide) (by omega) rfl ?_
                        refine sx_aload_n (pc := 209) hG dX8_split_209 rfl 0 rfl ?_
                        refine sx_get (pc := 210) (v2 := .ref (bd 15)) (ci := 8) hG i_X8_split_8 20 m_X8_split_f56 dX8_split_210 rfl (by decide) 0 rfl rfl rfl ?_
                        refine sx_iload_n (pc := 213) hG dX8_split_213 rfl 2 rfl ?_
                        refine sx_iload (pc := 214) hG dX8_split_214 6 rfl ?_
                        refine sx_iastN (pc := 216) (w2 := (mw X bd (va_up sc 2 (nI 0)) (va_up (va_up (va_up (va_up (va_up av 8 L) 9 B) 14 (va_up M1 r (1 + (M1 (sx_diff r t))))) 15 (va_up C1 r (B t / 100000 + B t % 100000 * av 7 6 / 10 + (C1 (sx_diff r t))))) 16 F1))) hG 15 dX8_split_216 rfl (by decide) (by omega) rfl ?_
                        refine sx_aload_n (pc := 217) hG dX8_split_217 rfl 0 rfl ?_
                        refine sx_get (pc := 218) (v2 := .ref (bd 16)) (ci := 8) hG i_X8_split_8 21 m_X8_split_f59 dX8_split_218 rfl (by decide) 0 rfl rfl rfl ?_
                        refine sx_iload_n (pc := 221) hG dX8_split_221 rfl 2 rfl ?_
                        refine sx_iload (pc := 222) hG dX8_split_222 4 rfl ?_
                        refine sx_iastN (pc := 224) (w2 := (mw X bd (va_up sc 2 (nI 0)) (va_up (va_up (va_up (va_up (va_up av 8 L) 9 B) 14 (va_up M1 r (1 + (M1 (sx_diff r t))))) 15 (va_up C1 r (B t / 100000 + B t % 100000 * av 7 6 / 10 + (C1 (sx_diff r t))))) 16 (va_up F1 r t)))) hG 16 dX8_split_224 rfl (by decide) (by omega) rfl ?_
                        refine sx_iinc (pc := 225) (v := (nI (t + 1))) (lv2 := [(0, .ref (bd 0)), (1, .int (nI (2 ^ n - 1))), (2, .int (nI r)), (3, .int (nI (sx_low r))), (4, .int (nI (t + 1))), (5, .int (nI (1 + (M1 (sx_diff r t))))), (6, .int (nI (B t / 100000 + B t % 100000 * av 7 6 / 10 + (C1 (sx_diff r t)))))]) hG [1, 2, 3, 4, 0, 5, 6] dX8_split_225 4 rfl (sx_inc t) hN (by decide) rfl ?_
                        refine sx_goto (pc := 228) (tgt := 72) hG dX8_split_228 (by decide) ?_
                        refine sx_lsub [0, 1, 2, 3, 4] rfl ?_
                        refine ih_t (t + 1) _ _ _ hrn (by omega) (by have hq := mRow_take hrow (by unfold mOk; rw [if_pos ⟨c84, c91, by omega, by rw [← hMd]; exact c124⟩]; decide) (by rw [hvf]; omega) (by omega) (by omega); rw [show va_up M1 r (1 + M1 (sx_diff r t)) r = 1 + M (sx_diff r t) by simp only [va_up, if_pos]; rw [hMd], show va_up C1 r (B t / 100000 + B t % 100000 * av 7 6 / 10 + C1 (sx_diff r t)) r = mPr av B t + C (sx_diff r t) by simp only [va_up, if_pos]; rw [hCd]; rfl, show va_up F1 r t r = t by simp only [va_up, if_pos]]; exact hq) (fun j hj => by unfold va_up; rw [if_neg hj]; exact hMo j hj) (fun j hj => by unfold va_up; rw [if_neg hj]; exact hCo j hj) (fun j hj => by unfold va_up; rw [if_neg hj]; exact hFo j hj) (fun j => by unfold va_up; split; omega; exact hF6 j) (by omega)
                      · skip
                        refine sx_iload (pc := 187) hG dX8_split_187 6 rfl ?_
                        refine sx_aload_n (pc := 189) hG dX8_split_189 rfl 0 rfl ?_
                        refine sx_get (pc := 190) (v2 := .ref (bd 15)) (ci := 8) hG i_X8_split_8 20 m_X8_split_f56 dX8_split_190 rfl (by decide) 0 rfl rfl rfl ?_
                        refine sx_iload_n (pc := 193) hG dX8_split_193 rfl 2 rfl ?_
                        refine sx_iald (pc := 194) (v := nI (C1 r)) hG 15 dX8_split_194 rfl (by decide) (by omega) rfl ?_
                        refine sx_icmp_lt (pc := 195) (tgt := 201) (B := (B t / 100000 + B t % 100000 * av 7 6 / 10 + (C1 (sx_diff r t))) < (C1 r)) hG dX8_split_195 (by decide) (nI_ltI (by omega) (by omega)) (fun c195 => ?_) (fun c195 => ?_)
                        · skip
                          refine sx_aload_n (pc := 201) hG dX8_split_201 rfl 0 rfl ?_
                          refine sx_get (pc := 202) (v2 := .ref (bd 14)) (ci := 8) hG i_X8_split_8 19 m_X8_split_f53 dX8_split_202 rfl (by decide) 0 rfl rfl rfl ?_
                          refine sx_iload_n (pc := 205) hG dX8_split_205 rfl 2 rfl ?_
                          refine sx_iload (pc := 206) hG dX8_split_206 5 rfl ?_
                          refine sx_iastN (pc := 208) (w2 := (mw X bd (va_up sc 2 (nI 0)) (va_up (va_up (va_up (va_up (va_up av 8 L) 9 B) 14 (va_up M1 r (1 + (M1 (sx_diff r t))))) 15 C1) 16 F1))) hG 14 dX8_split_208 rfl (by decide) (by omega) rfl ?_
                          refine sx_aload_n (pc := 209) hG dX8_split_209 rfl 0 rfl ?_
                          refine sx_get (pc := 210) (v2 := .ref (bd 15)) (ci := 8) hG i_X8_split_8 20 m_X8_split_f56 dX8_split_210 rfl (by decide) 0 rfl rfl rfl ?_
                          refine sx_iload_n (pc := 213) hG dX8_split_213 rfl 2 rfl ?_
                          refine sx_iload (pc := 214) hG dX8_split_214 6 rfl ?_
                          refine sx_iastN (pc := 216) (w2 := (mw X bd (va_up sc 2 (nI 0)) (va_up (va_up (va_up (va_up (va_up av 8 L) 9 B) 14 (va_up M1 r (1 + (M1 (sx_diff r t))))) 15 (va_up C1 r (B t / 100000 + B t % 100000 * av 7 6 / 10 + (C1 (sx_diff r t))))) 16 F1))) hG 15 dX8_split_216 rfl (by decide) (by omega) rfl ?_
                          refine sx_aload_n (pc := 217) hG dX8_split_217 rfl 0 rfl ?_
                          refine sx_get (pc := 218) (v2 := .ref (bd 16)) (ci := 8) hG i_X8_split_8 21 m_X8_split_f59 dX8_split_218 rfl (by decide) 0 rfl rfl rfl ?_
                          refine sx_iload_n (pc := 221) hG dX8_split_221 rfl 2 rfl ?_
                          refine sx_iload (pc := 222) hG dX8_split_222 4 rfl ?_
                          refine sx_iastN (pc := 224) (w2 := (mw X bd (va_up sc 2 (nI 0)) (va_up (va_up (va_up (va_up (va_up av 8 L) 9 B) 14 (va_up M1 r (1 + (M1 (sx_diff r t))))) 15 (va_up C1 r (B t / 100000 + B t % 100000 * av 7 6 / 10 + (C1 (sx_diff r t))))) 16 (va_up F1 r t)))) hG 16 dX8_split_224 rfl (by decide) (by omega) rfl ?_
                          refine sx_iinc (pc := 225) (v := (nI (t + 1))) (lv2 := [(0, .ref (bd 0)), (1, .int (nI (2 ^ n - 1))), (2, .int (nI r)), (3, .int (nI (sx_low r))), (4, .int (nI (t + 1))), (5, .int (nI (1 + (M1 (sx_diff r t))))), (6, .int (nI (B t / 100000 + B t % 100000 * av 7 6 / 10 + (C1 (sx_diff r t)))))]) hG [1, 2, 3, 4, 0, 5, 6] dX8_split_225 4 rfl (sx_inc t) hN (by decide) rfl ?_
                          refine sx_goto (pc := 228) (tgt := 72) hG dX8_split_228 (by decide) ?_
                          refine sx_lsub [0, 1, 2, 3, 4] rfl ?_
                          refine ih_t (t + 1) _ _ _ hrn (by omega) (by have hq := mRow_take hrow (by unfold mOk; rw [if_pos ⟨c84, c91, by omega, by rw [← hMd]; exact c124⟩]; decide) (by rw [hvf]; omega) (by omega) (by omega); rw [show va_up M1 r (1 + M1 (sx_diff r t)) r = 1 + M (sx_diff r t) by simp only [va_up, if_pos]; rw [hMd], show va_up C1 r (B t / 100000 + B t % 100000 * av 7 6 / 10 + C1 (sx_diff r t)) r = mPr av B t + C (sx_diff r t) by simp only [va_up, if_pos]; rw [hCd]; rfl, show va_up F1 r t r = t by simp only [va_up, if_pos]]; exact hq) (fun j hj => by unfold va_up; rw [if_neg hj]; exact hMo j hj) (fun j hj => by unfold va_up; rw [if_neg hj]; exact hCo j hj) (fun j hj => by unfold va_up; rw [if_neg hj]; exact hFo j hj) (fun j => by unfold va_up; split; omega; exact hF6 j) (by omega)
                        · skip
                          refine sx_goto (pc := 198) (tgt := 225) hG dX8_split_198 (by decide) ?_
                          refine sx_iinc (pc := 225) (v := (nI (t + 1))) (lv2 := [(0, .ref (bd 0)), (1, .int (nI (2 ^ n - 1))), (2, .int (nI r)), (3, .int (nI (sx_low r))), (4, .int (nI (t + 1))), (5, .int (nI (1 + (M1 (sx_diff r t))))), (6, .int (nI (B t / 100000 + B t % 100000 * av 7 6 / 10 + (C1 (sx_diff r t)))))]) hG [1, 2, 3, 4, 0, 5, 6] dX8_split_225 4 rfl (sx_inc t) hN (by decide) rfl ?_
                          refine sx_goto (pc := 228) (tgt := 72) hG dX8_split_228 (by decide) ?_
                          refine sx_lsub [0, 1, 2, 3, 4] rfl ?_
                          refine ih_t (t + 1) _ _ _ hrn (by omega) (mRow_skip hrow (Or.inr (by rw [hvf]; omega))) hMo hCo hFo hF6 (by omega)
                  · skip
                    obtain ⟨hsub1, hsub2⟩ := hsub c91
                    have hMd := hMo (sx_diff r t) (by omega)
                    refine sx_goto (pc := 127) (tgt := 225) hG dX8_split_127 (by decide) ?_
                    refine sx_iinc (pc := 225) (v := (nI (t + 1))) (lv2 := [(0, .ref (bd 0)), (1, .int (nI (2 ^ n - 1))), (2, .int (nI r)), (3, .int (nI (sx_low r))), (4, .int (nI (t + 1)))]) hG [1, 2, 3, 4, 0] dX8_split_225 4 rfl (sx_inc t) hN (by decide) rfl ?_
                    refine sx_goto (pc := 228) (tgt := 72) hG dX8_split_228 (by decide) ?_
                    refine ih_t (t + 1) _ _ _ hrn (by omega) (mRow_skip hrow (Or.inl (by unfold mOk; rw [if_neg (fun z => z.2.2.2 (by rw [← hMd]; exact c124))]))) hMo hCo hFo hF6 (by omega)
      have loop_i : ∀ (fuel : Nat), ∀ (i : Nat), (r < 2 ^ n) → (i ≤ 9) → (∀ j, j < i → r &&& 2 ^ j = 0) → 10 - i < fuel → sx_W l X G 0 0 56 [(0, .ref (bd 0)), (1, .int (nI (2 ^ n - 1))), (2, .int (nI r)), (3, .int (nI (2 ^ i)))] [] (mw X bd (va_up sc 2 (nI 0)) (va_up (va_up (va_up (va_up (va_up av 8 L) 9 B) 14 (va_up M r 99)) 15 (va_up C r 0)) 16 F)) := by
        intro fuel
        induction fuel with
        | zero => intro i hrn hi hz hm; exact absurd hm (Nat.not_lt_zero _)
        | succ fuel ih_i =>
          intro i hrn hi hz hm_i
          have hi8 : i < 9 := by rcases Nat.lt_or_ge i 9 with h | h; exact h; exact absurd (fun j hj => hz j (by omega)) (sx_some0 r (by omega) (by omega))
          have hpi := sx_p9 (show i ≤ 9 by omega)
          have hale := Nat.and_le_left (n := r) (m := 2 ^ i)
          refine sx_iload_n (pc := 56) hG dX8_split_56 rfl 2 rfl ?_
          refine sx_iload_n (pc := 57) hG dX8_split_57 rfl 3 rfl ?_
          refine sx_iand (pc := 58) (v := (nI (r &&& (2 ^ i)))) hG dX8_split_58 (sx_and (by omega) (by omega)) ?_
          refine sx_if_ne (pc := 59) (tgt := 69) (B := (r &&& (2 ^ i)) = 0) hG dX8_split_59 (by decide) (sx_eq0 (by omega)) (fun c59 => ?_) (fun c59 => ?_)
          · skip
            have hlow : 2 ^ i = sx_low r := sx_low0 r (by omega) i (by omega) c59 hz
            rw [hlow]
            refine sx_iload_n (pc := 69) hG dX8_split_69 rfl 3 rfl ?_
            refine sx_istore (pc := 70) (lv2 := [(0, .ref (bd 0)), (1, .int (nI (2 ^ n - 1))), (2, .int (nI r)), (3, .int (nI (sx_low r))), (4, .int (nI (sx_low r)))]) hG [1, 2, 3, 4, 0] dX8_split_70 hN (by decide) rfl ?_
            refine loop_t _ (sx_low r) _ _ _ (by omega) (by have := sx_low1 r (by omega) (by omega); omega) (mRow_0 (by omega) (by omega) (by simp [va_up]) (by simp [va_up])) (fun j hj => by unfold va_up; rw [if_neg hj]) (fun j hj => by unfold va_up; rw [if_neg hj]) (fun _ _ => rfl) hF5 (Nat.lt_succ_self _)
          · skip
            refine sx_iload_n (pc := 62) hG dX8_split_62 rfl 3 rfl ?_
            refine sx_iconst (pc := 63) (v := nI 2) hG dX8_split_63 (by decide +kernel) ?_
            refine sx_imul (pc := 64) (v := (nI (2 ^ (i + 1)))) hG dX8_split_64 (by rw [pk_mul, Nat.pow_succ]) ?_
            refine sx_istore_n (pc := 65) (lv2 := [(0, .ref (bd 0)), (1, .int (nI (2 ^ n - 1))), (2, .int (nI r)), (3, .int (nI (2 ^ (i + 1))))]) hG [1, 2, 3, 0] dX8_split_65 rfl hN (by decide) rfl ?_
            refine sx_goto (pc := 66) (tgt := 56) hG dX8_split_66 (by decide) ?_
            refine ih_i (i + 1) hrn (by omega) (fun j hj => by rcases Nat.lt_or_ge j i with h | h; exact hz j h; (have e : j = i := (by omega); subst e; exact c59)) (by omega)
      refine sx_iload_n (pc := 34) hG dX8_split_34 rfl 2 rfl ?_
      refine sx_iload_n (pc := 35) hG dX8_split_35 rfl 1 rfl ?_
      refine sx_icmp_gt (pc := 36) (tgt := 237) (B := (2 ^ n - 1) < r) hG dX8_split_36 (by decide) (nI_ltI (by omega) (by omega)) (fun c36 => ?_) (fun c36 => ?_)
      · skip
        have hrr : r = 2 ^ n := by omega
        have hVT2 : mVT av B M C F lg (2 ^ n) := by rw [← hrr]; exact hVT
        have hMb := mVT_bd0 hVT2 (show 2 ^ n - 1 < 2 ^ n by omega) (by omega)
        refine sx_aload_n (pc := 237) hG dX8_split_237 rfl 0 rfl ?_
        refine sx_get (pc := 238) (v2 := .ref (bd 14)) (ci := 8) hG i_X8_split_8 19 m_X8_split_f53 dX8_split_238 rfl (by decide) 0 rfl rfl rfl ?_
        refine sx_iload_n (pc := 241) hG dX8_split_241 rfl 1 rfl ?_
        refine sx_iald (pc := 242) (v := nI (M (2 ^ n - 1))) hG 14 dX8_split_242 rfl (by decide) (by omega) rfl ?_
        refine sx_bipush (pc := 243) (v := nI 99) hG dX8_split_243 (by decide +kernel) ?_
        refine sx_icmp_ne (pc := 245) (tgt := 250) (B := (M (2 ^ n - 1)) = 99) hG dX8_split_245 (by decide) (nI_eq (by omega) (by omega)) (fun c245 => ?_) (fun c245 => ?_)
        · skip
          have hM9 : M (2 ^ n - 1) ≤ 9 := by rcases Nat.eq_zero_or_pos (2 ^ n - 1) with h | h; (rw [h, hVT2.1]; decide); exact (mVT_at (by omega) hVT2 (fun t q1 q2 => mPr_le hg hn hT q2 q1) h (by omega) c245).2.1
          refine sx_aload_n (pc := 250) hG dX8_split_250 rfl 0 rfl ?_
          refine sx_iconst (pc := 251) (v := nI 1) hG dX8_split_251 (by decide +kernel) ?_
          refine sx_put (pc := 252) (v := .int (nI 1)) (ci := 8) (w2 := (mw X bd (va_up (va_up sc 2 (nI 0)) 3 (nI 1)) (va_up (va_up (va_up (va_up (va_up av 8 L) 9 B) 14 M) 15 C) 16 F))) hG i_X8_split_8 tyX8 tyX8_ok nmX8 13 m_X8_split_f74 dX8_split_252 rfl (by decide) 0 rfl rfl (by decide) (by decide) (Nat.le_of_ble_eq_true rfl) rfl ?_
          refine sx_aload_n (pc := 255) hG dX8_split_255 rfl 0 rfl ?_
          refine sx_aload_n (pc := 256) hG dX8_split_256 rfl 0 rfl ?_
          refine sx_get (pc := 257) (v2 := .ref (bd 14)) (ci := 8) hG i_X8_split_8 19 m_X8_split_f53 dX8_split_257 rfl (by decide) 0 rfl rfl rfl ?_
          refine sx_iload_n (pc := 260) hG dX8_split_260 rfl 1 rfl ?_
          refine sx_iald (pc := 261) (v := nI (M (2 ^ n - 1))) hG 14 dX8_split_261 rfl (by decide) (by omega) rfl ?_
          refine sx_put (pc := 262) (v := .int (nI (M (2 ^ n - 1)))) (ci := 8) (w2 := (mw X bd (va_up (va_up (va_up sc 2 (nI 0)) 3 (nI 1)) 4 (nI (M (2 ^ n - 1)))) (va_up (va_up (va_up (va_up (va_up av 8 L) 9 B) 14 M) 15 C) 16 F))) hG i_X8_split_8 tyX8 tyX8_ok nmX8 14 m_X8_split_f131 dX8_split_262 rfl (by decide) 0 rfl rfl rfl rfl (Nat.le_of_ble_eq_true rfl) rfl ?_
          refine sx_aload_n (pc := 265) hG dX8_split_265 rfl 0 rfl ?_
          refine sx_aload_n (pc := 266) hG dX8_split_266 rfl 0 rfl ?_
          refine sx_get (pc := 267) (v2 := .ref (bd 15)) (ci := 8) hG i_X8_split_8 20 m_X8_split_f56 dX8_split_267 rfl (by decide) 0 rfl rfl rfl ?_
          refine sx_iload_n (pc := 270) hG dX8_split_270 rfl 1 rfl ?_
          refine sx_iald (pc := 271) (v := nI (C (2 ^ n - 1))) hG 15 dX8_split_271 rfl (by decide) (by omega) rfl ?_
          refine sx_put (pc := 272) (v := .int (nI (C (2 ^ n - 1)))) (ci := 8) (w2 := (mw X bd (va_up (va_up (va_up (va_up sc 2 (nI 0)) 3 (nI 1)) 4 (nI (M (2 ^ n - 1)))) 5 (nI (C (2 ^ n - 1)))) (va_up (va_up (va_up (va_up (va_up av 8 L) 9 B) 14 M) 15 C) 16 F))) hG i_X8_split_8 tyX8 tyX8_ok nmX8 15 m_X8_split_f134 dX8_split_272 rfl (by decide) 0 rfl rfl rfl rfl (Nat.le_of_ble_eq_true rfl) rfl ?_
          refine sx_iload_n (pc := 275) hG dX8_split_275 rfl 1 rfl ?_
          refine sx_istore_n (pc := 276) (lv2 := [(0, .ref (bd 0)), (1, .int (nI (2 ^ n - 1))), (2, .int (nI (2 ^ n - 1)))]) hG [1, 2, 0] dX8_split_276 rfl hN (by decide) rfl ?_
          refine sx_iconst (pc := 277) (v := nI 0) hG dX8_split_277 (by decide +kernel) ?_
          refine sx_istore_n (pc := 278) (lv2 := [(0, .ref (bd 0)), (1, .int (nI (2 ^ n - 1))), (2, .int (nI (2 ^ n - 1))), (3, .int (nI 0))]) hG [1, 2, 3, 0] dX8_split_278 rfl hN (by decide) rfl ?_
          have loop_k : ∀ (fuel : Nat), ∀ (k rest2 : Nat) (S Z Q : Nat → Nat), (k + M rest2 = M (2 ^ n - 1)) → (rest2 < 2 ^ n) → (mSpl F (2 ^ n - 1) S k rest2) → (∀ j, j < k → Z j = B (S j) % 100000 ∧ Q j = mPr av B (S j)) → (∀ j, k ≤ j → Z j = av 12 j) → (sx_sum Q k + C rest2 = C (2 ^ n - 1)) → (M (2 ^ n - 1) ≤ 9) → (¬ M rest2 = 99) → 9 - k < fuel → sx_W l X G 0 0 279 [(0, .ref (bd 0)), (1, .int (nI (2 ^ n - 1))), (2, .int (nI rest2)), (3, .int (nI k))] [] (mw X bd (va_up (va_up (va_up (va_up sc 2 (nI 0)) 3 (nI 1)) 4 (nI (M (2 ^ n - 1)))) 5 (nI (C (2 ^ n - 1)))) (va_up (va_up (va_up (va_up (va_up (va_up (va_up (va_up av 8 L) 9 B) 11 S) 12 Z) 13 Q) 14 M) 15 C) 16 F)) := by
            intro fuel
            induction fuel with
            | zero => intro k rest2 S Z Q hk hr2 hspl hzq hzo hsum hM9 hMr hm; exact absurd hm (Nat.not_lt_zero _)
            | succ fuel ih_k =>
              intro k rest2 S Z Q hk hr2 hspl hzq hzo hsum hM9 hMr hm_k
              have hat : ¬ rest2 = 0 → _ := fun h => mVT_at (by omega) hVT2 (fun t q1 q2 => mPr_le hg hn hT q2 q1) (show 1 ≤ rest2 by omega) hr2 hMr
              have hF9 := hF5 rest2
              refine sx_iload_n (pc := 279) hG dX8_split_279 rfl 3 rfl ?_
              refine sx_aload_n (pc := 280) hG dX8_split_280 rfl 0 rfl ?_
              refine sx_get (pc := 281) (v2 := .int (nI (M (2 ^ n - 1)))) (ci := 8) hG i_X8_split_8 14 m_X8_split_f131 dX8_split_281 rfl (by decide) 0 rfl rfl rfl ?_
              refine sx_icmp_ge (pc := 284) (tgt := 352) (B := (M (2 ^ n - 1)) ≤ k) hG dX8_split_284 (by decide) (nI_leI (by omega) (by omega)) (fun c284 => ?_) (fun c284 => ?_)
              · skip
                refine sx_aload_n (pc := 352) hG dX8_split_352 rfl 0 rfl ?_
                refine sx_get (pc := 353) (v2 := .int (nI (M (2 ^ n - 1)))) (ci := 8) hG i_X8_split_8 14 m_X8_split_f131 dX8_split_353 rfl (by decide) 0 rfl rfl rfl ?_
                have hz9 : rest2 = 0 := by rcases Nat.eq_zero_or_pos rest2 with h | h; exact h; exact absurd (hat (by omega)).1 (by omega)
                subst hz9
                have hkm : k = M (2 ^ n - 1) := by have := hVT2.1; omega
                subst hkm
                exact hret _ _ _ _ dX8_split_356 rfl ⟨L, B, M, C, F, hLb, hBb, hT, hVT2, hF5, Or.inr ⟨c245, rfl, S, Z, Q, rfl, hspl, hzq, hzo, by have := hVT2.2.1; omega⟩⟩
              · skip
                have hz0 : ¬ rest2 = 0 := fun q => by have h9 := hVT2.1; rw [q] at hk; omega
                obtain ⟨b1, b2, b3, b4, b5, b6, b7, b8⟩ := hat hz0
                have hB9 := hBb (F rest2)
                refine sx_aload_n (pc := 287) hG dX8_split_287 rfl 0 rfl ?_
                refine sx_get (pc := 288) (v2 := .ref (bd 11)) (ci := 8) hG i_X8_split_8 16 m_X8_split_f44 dX8_split_288 rfl (by decide) 0 rfl rfl rfl ?_
                refine sx_iload_n (pc := 291) hG dX8_split_291 rfl 3 rfl ?_
                refine sx_aload_n (pc := 292) hG dX8_split_292 rfl 0 rfl ?_
                refine sx_get (pc := 293) (v2 := .ref (bd 16)) (ci := 8) hG i_X8_split_8 21 m_X8_split_f59 dX8_split_293 rfl (by decide) 0 rfl rfl rfl ?_
                refine sx_iload_n (pc := 296) hG dX8_split_296 rfl 2 rfl ?_
                refine sx_iald (pc := 297) (v := nI (F rest2)) hG 16 dX8_split_297 rfl (by decide) (by omega) rfl ?_
                refine sx_iastN (pc := 298) (w2 := (mw X bd (va_up (va_up (va_up (va_up sc 2 (nI 0)) 3 (nI 1)) 4 (nI (M (2 ^ n - 1)))) 5 (nI (C (2 ^ n - 1)))) (va_up (va_up (va_up (va_up (va_up (va_up (va_up (va_up av 8 L) 9 B) 11 (va_up S k (F rest2))) 12 Z) 13 Q) 14 M) 15 C) 16 F))) hG 11 dX8_split_298 rfl (by decide) (by omega) rfl ?_
                refine sx_aload_n (pc := 299) hG dX8_split_299 rfl 0 rfl ?_
                refine sx_get (pc := 300) (v2 := .ref (bd 12)) (ci := 8) hG i_X8_split_8 17 m_X8_split_f47 dX8_split_300 rfl (by decide) 0 rfl rfl rfl ?_
                refine sx_iload_n (pc := 303) hG dX8_split_303 rfl 3 rfl ?_
                refine sx_aload_n (pc := 304) hG dX8_split_304 rfl 0 rfl ?_
                refine sx_get (pc := 305) (v2 := .ref (bd 9)) (ci := 8) hG i_X8_split_8 11 m_X8_split_f38 dX8_split_305 rfl (by decide) 0 rfl rfl rfl ?_
                refine sx_aload_n (pc := 308) hG dX8_split_308 rfl 0 rfl ?_
                refine sx_get (pc := 309) (v2 := .ref (bd 11)) (ci := 8) hG i_X8_split_8 16 m_X8_split_f44 dX8_split_309 rfl (by decide) 0 rfl rfl rfl ?_
                refine sx_iload_n (pc := 312) hG dX8_split_312 rfl 3 rfl ?_
                refine sx_iald (pc := 313) (v := nI (F rest2)) hG 11 dX8_split_313 rfl (by decide) (by omega) (congrArg nI (if_pos rfl)) ?_
                refine sx_iald (pc := 314) (v := nI (B (F rest2))) hG 9 dX8_split_314 rfl (by decide) (by omega) rfl ?_
                refine sx_ldc (pc := 315) (v2 := nI 100000) hG m_X8_split_c107 dX8_split_315 (by decide +kernel) ?_
                refine sx_irem (pc := 317) (v := (nI ((B (F rest2)) % 100000))) hG dX8_split_317 (nI_ne0 (by decide) (by decide)) (pk_rem (by omega) (by decide) (by decide)) ?_
                refine sx_iastN (pc := 318) (w2 := (mw X bd (va_up (va_up (va_up (va_up sc 2 (nI 0)) 3 (nI 1)) 4 (nI (M (2 ^ n - 1)))) 5 (nI (C (2 ^ n - 1)))) (va_up (va_up (va_up (va_up (va_up (va_up (va_up (va_up av 8 L) 9 B) 11 (va_up S k (F rest2))) 12 (va_up Z k ((B (F rest2)) % 100000))) 13 Q) 14 M) 15 C) 16 F))) hG 12 dX8_split_318 rfl (by decide) (by omega) rfl ?_
                refine sx_aload_n (pc := 319) hG dX8_split_319 rfl 0 rfl ?_
                refine sx_get (pc := 320) (v2 := .ref (bd 13)) (ci := 8) hG i_X8_split_8 18 m_X8_split_f50 dX8_split_320 rfl (by decide) 0 rfl rfl rfl ?_
                refine sx_iload_n (pc := 323) hG dX8_split_323 rfl 3 rfl ?_
                refine sx_aload_n (pc := 324) hG dX8_split_324 rfl 0 rfl ?_
                refine sx_aload_n (pc := 325) hG dX8_split_325 rfl 0 rfl ?_
                refine sx_get (pc := 326) (v2 := .ref (bd 11)) (ci := 8) hG i_X8_split_8 16 m_X8_split_f44 dX8_split_326 rfl (by decide) 0 rfl rfl rfl ?_
                refine sx_iload_n (pc := 329) hG dX8_split_329 rfl 3 rfl ?_
                refine sx_iald (pc := 330) (v := nI (F rest2)) hG 11 dX8_split_330 rfl (by decide) (by omega) (congrArg nI (if_pos rfl)) ?_
                refine sx_callViw (pc := 331) (n9 := 1) (As := [.int (nI (F rest2))]) (st := [.int (nI k), .ref (bd 13)]) (b := (bd 0)) (ci := 8) hG (c_X8_priceOf l X bd (va_up (va_up (va_up (va_up sc 2 (nI 0)) 3 (nI 1)) 4 (nI (M (2 ^ n - 1)))) 5 (nI (C (2 ^ n - 1)))) (va_up (va_up (va_up (va_up (va_up (va_up (va_up (va_up av 8 L) 9 B) 11 (va_up S k (F rest2))) 12 (va_up Z k ((B (F rest2)) % 100000))) 13 Q) 14 M) 15 C) 16 F) (F rest2) (by omega) hg hBb) gX8_split_X8_priceOf rfl (by decide +kernel) rfl 0 rfl rfl rfl dX8_split_331 ⟨rfl, rfl⟩ ⟨Nat.le_of_ble_eq_true rfl, Nat.le_of_ble_eq_true rfl⟩ (Nat.le_of_ble_eq_true rfl) ⟨Nat.le_of_ble_eq_true rfl, Nat.le_of_ble_eq_true rfl⟩ (fun r w1 hp => ?_)
                obtain ⟨hr9, hw9⟩ := hp
                have hr9 : r = (nI (B (F rest2) / 100000 + B (F rest2) % 100000 * av 7 6 / 10)) := hr9
                subst hr9
                refine sx_weq hw9 ?_
                refine sx_iastN (pc := 334) (w2 := (mw X bd (va_up (va_up (va_up (va_up sc 2 (nI 0)) 3 (nI 1)) 4 (nI (M (2 ^ n - 1)))) 5 (nI (C (2 ^ n - 1)))) (va_up (va_up (va_up (va_up (va_up (va_up (va_up (va_up av 8 L) 9 B) 11 (va_up S k (F rest2))) 12 (va_up Z k ((B (F rest2)) % 100000))) 13 (va_up Q k (B (F rest2) / 100000 + B (F rest2) % 100000 * av 7 6 / 10))) 14 M) 15 C) 16 F))) hG 13 dX8_split_334 rfl (by decide) (by omega) rfl ?_
                refine sx_iload_n (pc := 335) hG dX8_split_335 rfl 2 rfl ?_
                refine sx_aload_n (pc := 336) hG dX8_split_336 rfl 0 rfl ?_
                refine sx_get (pc := 337) (v2 := .ref (bd 11)) (ci := 8) hG i_X8_split_8 16 m_X8_split_f44 dX8_split_337 rfl (by decide) 0 rfl rfl rfl ?_
                refine sx_iload_n (pc := 340) hG dX8_split_340 rfl 3 rfl ?_
                refine sx_iald (pc := 341) (v := nI (F rest2)) hG 11 dX8_split_341 rfl (by decide) (by omega) (congrArg nI (if_pos rfl)) ?_
                refine sx_iconst (pc := 342) (v := (-1)) hG dX8_split_342 (by decide +kernel) ?_
                refine sx_ixor (pc := 343) (v := (nI (F rest2) ^^^ (-1))) hG dX8_split_343 rfl ?_
                refine sx_iand (pc := 344) (v := (nI (sx_diff rest2 (F rest2)))) hG dX8_split_344 (sx_andnot (by omega) (by omega)) ?_
                refine sx_istore_n (pc := 345) (lv2 := [(0, .ref (bd 0)), (1, .int (nI (2 ^ n - 1))), (2, .int (nI (sx_diff rest2 (F rest2)))), (3, .int (nI k))]) hG [1, 2, 0, 3] dX8_split_345 rfl hN (by decide) rfl ?_
                refine sx_iinc (pc := 346) (v := (nI (k + 1))) (lv2 := [(0, .ref (bd 0)), (1, .int (nI (2 ^ n - 1))), (2, .int (nI (sx_diff rest2 (F rest2)))), (3, .int (nI (k + 1)))]) hG [1, 2, 3, 0] dX8_split_346 3 rfl (sx_inc k) hN (by decide) rfl ?_
                refine sx_goto (pc := 349) (tgt := 279) hG dX8_split_349 (by decide) ?_
                refine ih_k (k + 1) (sx_diff rest2 (F rest2)) _ _ _ (by omega) (by omega) ⟨rest2, mSpl_up (Nat.le_refl _) hspl, hz0, by simp [va_up], by simp [va_up]⟩ (fun j hj => by unfold va_up; by_cases e : j = k; (rw [if_pos e, if_pos e, if_pos e]; exact ⟨rfl, rfl⟩); (rw [if_neg e, if_neg e, if_neg e]; exact hzq j (by omega))) (fun j hj => by unfold va_up; rw [if_neg (by omega)]; exact hzo j (by omega)) (by unfold sx_sum; rw [sx_sum_up (Nat.le_refl _)]; simp only [va_up, if_pos]; unfold mPr at b8; omega) hM9 (by omega) (by omega)
          refine sx_weq (w2 := (mw X bd (va_up (va_up (va_up (va_up sc 2 (nI 0)) 3 (nI 1)) 4 (nI (M (2 ^ n - 1)))) 5 (nI (C (2 ^ n - 1)))) (va_up (va_up (va_up (va_up (va_up (va_up (va_up (va_up av 8 L) 9 B) 11 (av 11)) 12 (av 12)) 13 (av 13)) 14 M) 15 C) 16 F))) rfl ?_
          refine loop_k _ 0 (2 ^ n - 1) _ _ _ (Nat.zero_add _) (by omega) rfl (fun j h => absurd h (Nat.not_lt_zero _)) (fun _ _ => rfl) (Nat.zero_add _) hM9 c245 (Nat.lt_succ_self _)
        · skip
          refine sx_iconst (pc := 248) (v := (-1)) hG dX8_split_248 (by decide +kernel) ?_
          exact hret _ _ _ _ dX8_split_249 rfl ⟨L, B, M, C, F, hLb, hBb, hT, hVT2, hF5, Or.inl ⟨c245, rfl, rfl⟩⟩
      · skip
        refine sx_aload_n (pc := 39) hG dX8_split_39 rfl 0 rfl ?_
        refine sx_get (pc := 40) (v2 := .ref (bd 14)) (ci := 8) hG i_X8_split_8 19 m_X8_split_f53 dX8_split_40 rfl (by decide) 0 rfl rfl rfl ?_
        refine sx_iload_n (pc := 43) hG dX8_split_43 rfl 2 rfl ?_
        refine sx_bipush (pc := 44) (v := nI 99) hG dX8_split_44 (by decide +kernel) ?_
        refine sx_iastN (pc := 46) (w2 := (mw X bd (va_up sc 2 (nI 0)) (va_up (va_up (va_up (va_up (va_up av 8 L) 9 B) 14 (va_up M r 99)) 15 C) 16 F))) hG 14 dX8_split_46 rfl (by decide) (by omega) rfl ?_
        refine sx_aload_n (pc := 47) hG dX8_split_47 rfl 0 rfl ?_
        refine sx_get (pc := 48) (v2 := .ref (bd 15)) (ci := 8) hG i_X8_split_8 20 m_X8_split_f56 dX8_split_48 rfl (by decide) 0 rfl rfl rfl ?_
        refine sx_iload_n (pc := 51) hG dX8_split_51 rfl 2 rfl ?_
        refine sx_iconst (pc := 52) (v := nI 0) hG dX8_split_52 (by decide +kernel) ?_
        refine sx_iastN (pc := 53) (w2 := (mw X bd (va_up sc 2 (nI 0)) (va_up (va_up (va_up (va_up (va_up av 8 L) 9 B) 14 (va_up M r 99)) 15 (va_up C r 0)) 16 F))) hG 15 dX8_split_53 rfl (by decide) (by omega) rfl ?_
        refine sx_iconst (pc := 54) (v := nI 1) hG dX8_split_54 (by decide +kernel) ?_
        refine sx_istore_n (pc := 55) (lv2 := [(0, .ref (bd 0)), (1, .int (nI (2 ^ n - 1))), (2, .int (nI r)), (3, .int (nI 1))]) hG [1, 2, 3, 0] dX8_split_55 rfl hN (by decide) rfl ?_
        refine loop_i _ 0 (by omega) (by omega) (fun j h => absurd h (Nat.not_lt_zero _)) (Nat.lt_succ_self _)
  refine sx_weq (w2 := (mw X bd (va_up sc 2 (nI 0)) (va_up (va_up (va_up (va_up (va_up av 8 L) 9 B) 14 (va_up (av 14) 0 0)) 15 (va_up (av 15) 0 0)) 16 (av 16)))) rfl ?_
  refine loop_r _ 1 _ _ _ (Nat.le_refl _) (by omega) ⟨rfl, rfl, fun q h1 h2 => absurd h2 (by omega)⟩ hF0 (Nat.lt_succ_self _)
