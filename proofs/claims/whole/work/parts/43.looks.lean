/-! BOTH SIDES: looks -/
theorem sx_sum_congr {f g : Nat → Nat} {k : Nat} (h : ∀ i, i < k → f i = g i) : sx_sum f k = sx_sum g k := by
  induction k with
  | zero => rfl
  | succ k ih => unfold sx_sum; rw [ih (fun i hi => h i (by omega)), h k (by omega)]
theorem dF_rel {Zc Zm Yc Ym : Nat → Nat} {m a z j : Nat} (hZ : ∀ j, j < m → Zc j = Zm j) (hz : z < m) (h1 : Yc (9 * a + j) = Ym (9 * a + j)) (h2 : Yc (9 * j + 9 + z) = Ym (9 * j + 9 + z)) : dF Zc Yc a z j = dF Zm Ym a z j := by
  unfold dF dS
  rw [h1, h2, sx_sum_congr (f := fun i => Zc (a + i)) (g := fun i => Zm (a + i)) (fun i hi => hZ _ (by omega))]
theorem look_rel {Zc Zm Yc Ym : Nat → Nat} {m : Nat} (hZ : ∀ j, j < m → Zc j = Zm j) (hJ : jT Zc Yc m 0) (hD : dT Zm Ym m (m + 1)) : ∀ d a z, a ≤ z → z < m → z - a ≤ d → Yc (9 * a + z) = Ym (9 * a + z) ∧ dV Zc Yc a z z = dV Zm Ym a z z := by
  intro d
  induction d with
  | zero =>
    intro a z h1 h2 h3
    have e : z = a := by omega
    subst e
    have hc : ∀ (Z Y : Nat → Nat), dV Z Y z z z = 0 := fun Z Y => Nat.le_zero.mp (Nat.le_trans (sx_mn_le _ _ _ _) (by rw [if_pos rfl]; exact Nat.le_refl _))
    rw [(hJ z z (by omega) h1 h2).1, (hD z z h1 h2 (by omega)).1, hc, hc]
    exact ⟨rfl, rfl⟩
  | succ d ih =>
    intro a z h1 h2 h3
    have e : dV Zc Yc a z z = dV Zm Ym a z z := by
      unfold dV
      refine sx_mn_congr (fun j hj hp => ?_)
      have hb : a ≤ j := by unfold dP at hp; rcases Nat.lt_or_ge j a with w | w; exact absurd (if_neg (by omega)) hp; exact w
      have q1 := (ih a j hb (by omega) (by omega)).1
      have q2 := (ih (j + 1) z (by omega) h2 (by omega)).1
      rw [show 9 * (j + 1) + z = 9 * j + 9 + z by omega] at q2
      exact dF_rel hZ h2 q1 q2
    rw [(hJ a z (by omega) h1 h2).1, (hD a z h1 h2 (by omega)).1, e]
    exact ⟨rfl, rfl⟩
theorem sx_fi_one {p f : Nat → Nat} {a b v : Nat} (ha : sx_fi p f a v) (hb : sx_fi p f b v) : a = b := by
  obtain ⟨a1, a2, a3⟩ := ha
  obtain ⟨b1, b2, b3⟩ := hb
  rcases Nat.lt_trichotomy a b with q | q | q
  · have := b3 a q a1; omega
  · exact q
  · have := a3 b q b1; omega
theorem first_rel {Zc Zm Yc Ym : Nat → Nat} {m q : Nat} {fv : Int32} (hZ : ∀ j, j < m → Zc j = Zm j) (hz : ∀ j, Zc j ≤ 4095) (hm : m ≤ 9) (h2 : 2 ≤ m) (hJ : jT Zc Yc m 0) (hD : dT Zm Ym m (m + 1)) (hq : jB Yc 0 (m - 1) (m - 1) q) (hf : dFi Zm Ym m fv) : fv = nI q := by
  obtain ⟨q1, r1, r2, r3⟩ := hf
  obtain ⟨b1, b2, -, -⟩ := id hq
  have hy1 := (hJ 0 q (by omega) (by omega) (by omega)).2
  have hy2 := (hJ (q + 1) (m - 1) (by omega) (by omega) (by omega)).2
  rw [show 9 * (q + 1) + (m - 1) = 9 * q + 9 + (m - 1) by omega] at hy2
  have h3 := dS_le (Z := Zc) (fun j => Nat.le_trans (hz j) (by decide)) 0 (m - 1 + 1 - 0)
  have h4 : (m - 1 + 1 - 0) * 99999 ≤ 9 * 99999 := Nat.mul_le_mul_right 99999 (by omega)
  obtain ⟨-, s2⟩ := jB_dV (Z := Zc) hq (by omega) (by unfold dF; omega)
  have hrel := look_rel hZ hJ hD
  have eV := (hrel m 0 (m - 1) (by omega) (by omega) (by omega)).2
  have eF : ∀ j, j < m - 1 → dF Zc Yc 0 (m - 1) j = dF Zm Ym 0 (m - 1) j := fun j hj => by
    have g2 := (hrel m (j + 1) (m - 1) (by omega) (by omega) (by omega)).1
    rw [show 9 * (j + 1) + (m - 1) = 9 * j + 9 + (m - 1) by omega] at g2
    exact dF_rel hZ (by omega) (hrel m 0 j (by omega) (by omega) (by omega)).1 g2
  obtain ⟨t1, t2, t3⟩ := s2
  have hfi : sx_fi (dP 0) (dF Zm Ym 0 (m - 1)) q (dV Zm Ym 0 (m - 1) (m - 1)) := ⟨t1, by rw [← eF q b2, ← eV]; exact t2, fun u hu hp => by rw [← eF u (by omega), ← eV]; exact t3 u hu hp⟩
  rw [r1, sx_fi_one r3 hfi]
