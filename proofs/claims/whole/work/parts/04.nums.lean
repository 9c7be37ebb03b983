/-! NUMBERS: what the machine's ints do, said of numbers -/
theorem sx_tn {n : Nat} (h : n < 2 ^ 32) : (nI n).toBitVec.toNat = n := pk_tn h
theorem sx_bv (n : Nat) : (nI n).toBitVec = BitVec.ofNat 32 n := rfl
theorem sx_ext {a b : Int32} (h : a.toBitVec = b.toBitVec) : a = b := Int32.toBitVec_inj.mp h
theorem sx_and31 {k : Nat} (hk : k < 32) : ((nI k &&& 31).toBitVec.smod 32).toNat = k := by
  have h : ∀ k, k < 32 → ((nI k &&& 31).toBitVec.smod 32).toNat = k := by decide +kernel
  exact h k hk
theorem sx_shl {n k : Nat} (hk : k < 32) (h : n * 2 ^ k < 2 ^ 32) : nI n <<< (nI k &&& 31) = nI (n * 2 ^ k) := pk_shlN (nI k &&& 31) k (sx_and31 hk) h
theorem sx_shr {n k : Nat} (hk : k < 32) (h : n < 2 ^ 31) : nI n >>> (nI k &&& 31) = nI (n / 2 ^ k) := pk_shrN h (nI k &&& 31) k (sx_and31 hk)
theorem sx_and {a b : Nat} (ha : a < 2 ^ 32) (hb : b < 2 ^ 32) : nI a &&& nI b = nI (a &&& b) := by
  apply sx_ext
  rw [Int32.toBitVec_and, sx_bv, sx_bv, sx_bv]
  apply BitVec.eq_of_toNat_eq
  rw [BitVec.toNat_and, BitVec.toNat_ofNat, BitVec.toNat_ofNat, BitVec.toNat_ofNat, Nat.mod_eq_of_lt ha, Nat.mod_eq_of_lt hb, Nat.mod_eq_of_lt (Nat.lt_of_le_of_lt Nat.and_le_left ha)]
theorem sx_or {a b : Nat} (ha : a < 2 ^ 32) (hb : b < 2 ^ 32) : nI a ||| nI b = nI (a ||| b) := by
  apply sx_ext
  rw [Int32.toBitVec_or, sx_bv, sx_bv, sx_bv]
  apply BitVec.eq_of_toNat_eq
  rw [BitVec.toNat_or, BitVec.toNat_ofNat, BitVec.toNat_ofNat, BitVec.toNat_ofNat, Nat.mod_eq_of_lt ha, Nat.mod_eq_of_lt hb, Nat.mod_eq_of_lt (Nat.or_lt_two_pow ha hb)]
theorem sx_xor {a b : Nat} (ha : a < 2 ^ 32) (hb : b < 2 ^ 32) : nI a ^^^ nI b = nI (a ^^^ b) := by
  apply sx_ext
  rw [Int32.toBitVec_xor, sx_bv, sx_bv, sx_bv]
  apply BitVec.eq_of_toNat_eq
  rw [BitVec.toNat_xor, BitVec.toNat_ofNat, BitVec.toNat_ofNat, BitVec.toNat_ofNat, Nat.mod_eq_of_lt ha, Nat.mod_eq_of_lt hb, Nat.mod_eq_of_lt (Nat.xor_lt_two_pow ha hb)]
/-- a set without what is in another -/
def sx_diff (a b : Nat) : Nat := a ^^^ (a &&& b)
theorem sx_bvdiff (x y : BitVec 32) : x &&& (y ^^^ (-1)) = x ^^^ (x &&& y) := by
  apply BitVec.eq_of_getLsbD_eq
  intro i hi
  have h1 : (-1 : BitVec 32) = BitVec.allOnes 32 := by decide
  rw [h1]
  simp only [BitVec.getLsbD_and, BitVec.getLsbD_xor, BitVec.getLsbD_allOnes, hi, decide_true]
  cases x.getLsbD i <;> cases y.getLsbD i <;> rfl
theorem sx_andnot {a b : Nat} (ha : a < 2 ^ 32) (hb : b < 2 ^ 32) : nI a &&& (nI b ^^^ (-1)) = nI (sx_diff a b) := by
  have h1 : nI a &&& (nI b ^^^ (-1)) = nI a ^^^ (nI a &&& nI b) := by
    apply sx_ext
    rw [Int32.toBitVec_and, Int32.toBitVec_xor, Int32.toBitVec_xor, Int32.toBitVec_and]
    exact sx_bvdiff _ _
  rw [h1, sx_and ha hb, sx_xor ha (Nat.lt_of_le_of_lt Nat.and_le_left ha)]
  rfl
theorem sx_inc (a : Nat) : nI a + Int32.ofInt 1 = nI (a + 1) := nI_1 a
theorem sx_inc2 (a : Nat) : nI a + Int32.ofInt 2 = nI (a + 2) := nI_add a 2
theorem sx_inc5 (a : Nat) : nI a + Int32.ofInt 5 = nI (a + 5) := nI_add a 5
theorem sx_dec {a : Nat} (h : 1 ≤ a) : nI a + Int32.ofInt (-1) = nI (a - 1) := sb_m1 h
theorem sx_eq0 {a : Nat} (h : a < 2 ^ 31) : nI a = 0 ↔ a = 0 := nI_eq (b := 0) h (by decide)
theorem sx_ge0 {a : Nat} (h : a < 2 ^ 31) : 0 ≤ nI a ↔ True := ⟨fun _ => trivial, fun _ => nI_pos' h⟩
theorem sx_lt0 {a : Nat} (h : a < 2 ^ 31) : nI a < 0 ↔ False := ⟨fun q => nI_pos h q, fun q => q.elim⟩
theorem sx_gt0 {a : Nat} (h : a < 2 ^ 31) : 0 < nI a ↔ 0 < a := nI_ltI (a := 0) (by decide) h
theorem sx_le0 {a : Nat} (h : a < 2 ^ 31) : nI a ≤ 0 ↔ a = 0 := (nI_leI (b := 0) h (by decide)).trans (by omega)
theorem sx_eqm1 {a : Nat} (h : a < 2 ^ 31) : nI a = -1 ↔ False := by
  refine ⟨fun q => ?_, fun q => q.elim⟩
  have h1 : (nI a).toInt = (a : Int) := nI_toInt h
  rw [q] at h1
  have h2 : (-1 : Int32).toInt = -1 := by decide
  omega
theorem sx_min {a b : Nat} (ha : a < 2 ^ 31) (hb : b < 2 ^ 31) : (if nI b < nI a then nI b else nI a) = nI (min a b) := by
  by_cases h : b < a
  · rw [if_pos ((nI_ltI hb ha).mpr h), Nat.min_eq_right (by omega)]
  · rw [if_neg (fun q => h ((nI_ltI hb ha).mp q)), Nat.min_eq_left (by omega)]
theorem sx_max {a b : Nat} (ha : a < 2 ^ 31) (hb : b < 2 ^ 31) : (if nI a < nI b then nI b else nI a) = nI (max a b) := by
  by_cases h : a < b
  · rw [if_pos ((nI_ltI ha hb).mpr h), Nat.max_eq_right (by omega)]
  · rw [if_neg (fun q => h ((nI_ltI ha hb).mp q)), Nat.max_eq_left (by omega)]
/-- how far two numbers are apart -/
def sx_far (a b : Nat) : Nat := if a < b then b - a else a - b
theorem sx_abs {a b : Nat} (ha : a < 2 ^ 30) (hb : b < 2 ^ 30) : (if 0 ≤ nI a - nI b then nI a - nI b else 0 - (nI a - nI b)) = nI (sx_far a b) := by
  by_cases h : a < b
  · have h1 : ¬ 0 ≤ nI a - nI b := fun q => by
      have h2 := pk_sneg hb h
      exact absurd h2 (Int32.not_lt.mpr q)
    rw [if_neg h1, sx_far, if_pos h, ← pk_sub (Nat.le_of_lt h)]
    rw [Int32.zero_sub, Int32.neg_sub]
  · rw [sx_far, if_neg h, pk_sub (by omega), if_pos (nI_pos' (by omega))]
theorem sx_c (n : Nat) : Int32.ofInt (n : Int) = nI n := rfl
theorem sx_rlt {x y : Int32} {p q : Int} (hp : x.toInt = p) (hq : y.toInt = q) : x < y ↔ p < q := by rw [Int32.lt_iff_toInt_lt, hp, hq]
theorem sx_rle {x y : Int32} {p q : Int} (hp : x.toInt = p) (hq : y.toInt = q) : x ≤ y ↔ p ≤ q := by rw [Int32.le_iff_toInt_le, hp, hq]
theorem sx_req {x y : Int32} {p q : Int} (hp : x.toInt = p) (hq : y.toInt = q) : x = y ↔ p = q := by rw [← Int32.toInt_inj, hp, hq]
theorem sx_t0 : (0 : Int32).toInt = 0 := by decide
theorem sx_req0 (x : Int32) : x = 0 ↔ x.toInt = 0 := sx_req rfl sx_t0
theorem sx_rlt0 (x : Int32) : x < 0 ↔ x.toInt < 0 := sx_rlt rfl sx_t0
theorem sx_rge0 (x : Int32) : 0 ≤ x ↔ 0 ≤ x.toInt := sx_rle sx_t0 rfl
theorem sx_rgt0 (x : Int32) : 0 < x ↔ 0 < x.toInt := sx_rlt sx_t0 rfl
theorem sx_rle0 (x : Int32) : x ≤ 0 ↔ x.toInt ≤ 0 := sx_rle rfl sx_t0
theorem sx_rne {x : Int32} {k : Nat} (h : ¬ x = nI k) (hk : k < 2 ^ 31) : ¬ x.toInt = (k : Int) := fun q => h ((sx_req rfl (nI_toInt hk)).mpr q)
/-- a number that isn't below 0 -/
theorem sx_of {x : Int32} (h : 0 ≤ x.toInt) : x = nI x.toInt.toNat ∧ (x.toInt.toNat : Int) = x.toInt ∧ x.toInt.toNat < 2 ^ 31 := by
  have h1 : x.toInt < 2 ^ 31 := by have := Int32.toInt_lt x; omega
  have h2 : (x.toInt.toNat : Int) = x.toInt := by omega
  have h3 : x.toInt.toNat < 2 ^ 31 := by omega
  exact ⟨(sx_req rfl (nI_toInt h3)).mpr h2.symm, h2, h3⟩
/-- a bit of a number -/
def sx_bit (s k : Nat) : Nat := s / 2 ^ k % 2
theorem sx_bit_le (s k : Nat) : sx_bit s k ≤ 1 := by unfold sx_bit; omega
theorem sx_bit1 {s k : Nat} (h : s / 2 ^ k < 2 ^ 32) : nI (s / 2 ^ k) &&& nI 1 = nI (sx_bit s k) := by
  rw [sx_and h (by decide), Nat.and_one_is_mod]
  rfl
theorem sx_p9 {k : Nat} (h : k ≤ 9) : 2 ^ k ≤ 512 := Nat.pow_le_pow_right (n := 2) (by decide) h
theorem sx_p2 {k : Nat} (h : k ≤ 9) : 2 ^ k < 2 ^ 32 := by have := sx_p9 h; omega
theorem sx_p3 {k : Nat} (h : k ≤ 9) : 2 ^ k < 2 ^ 31 := by have := sx_p9 h; omega
theorem sx_one {k : Nat} (h : k ≤ 9) : nI 1 <<< (nI k &&& 31) = nI (2 ^ k) := by
  rw [sx_shl (by omega) (by have := sx_p9 h; omega), Nat.one_mul]
theorem sx_diff_le (a b : Nat) : sx_diff a b ≤ a := by
  have h : a ^^^ (a &&& b) = a &&& (a ^^^ (a &&& b)) := by
    apply Nat.eq_of_testBit_eq
    intro i
    simp only [Nat.testBit_xor, Nat.testBit_and]
    cases a.testBit i <;> cases b.testBit i <;> rfl
  unfold sx_diff
  rw [h]
  exact Nat.and_le_left
theorem sx_div_lt {s n : Nat} (k : Nat) (h : s < n) : s / 2 ^ k < n := Nat.lt_of_le_of_lt (Nat.div_le_self _ _) h
