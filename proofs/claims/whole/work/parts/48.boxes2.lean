/-! BOTH SIDES: the fewest boxes agree -/
theorem sx_bit_tb {s k : Nat} (h : ¬ sx_bit s k = 0) : s.testBit k = true := by
  rw [sx_bit_test] at h
  cases hb : s.testBit k
  · rw [hb] at h; exact absurd rfl h
  · rfl
theorem sx_tb_bit {s k : Nat} (h : s.testBit k = true) : ¬ sx_bit s k = 0 := by
  rw [sx_bit_test, h]; decide
theorem sx_subb {o s i : Nat} (h : sx_diff o s = 0) (hb : o.testBit i = true) : s.testBit i = true := by
  have h1 := sx_diff_bit o s i
  rw [h, Nat.zero_testBit, hb] at h1
  cases hs : s.testBit i
  · rw [hs] at h1; exact absurd h1 (by decide)
  · rfl
theorem sx_sub_of {o s : Nat} (h : ∀ i, o.testBit i = true → s.testBit i = true) : sx_diff o s = 0 := by
  apply Nat.eq_of_testBit_eq
  intro i
  rw [sx_diff_bit, Nat.zero_testBit]
  cases ho : o.testBit i
  · rfl
  · rw [h i ho]; rfl
theorem sx_sble {o s : Nat} (h : sx_diff o s = 0) : o ≤ s := by
  have e : o &&& s = o := by
    apply Nat.eq_of_testBit_eq
    intro i
    rw [Nat.testBit_and]
    cases ho : o.testBit i
    · rfl
    · rw [sx_subb h ho]; rfl
  rw [← e]
  exact Nat.and_le_right
/-- a bit of a set below 2 ^ m -/
theorem sx_hasb {m s : Nat} (hm : m ≤ 9) (hs : s < 2 ^ m) (h0 : ¬ s = 0) : ∃ k, k < m ∧ s.testBit k = true := by
  obtain ⟨b, hb, hp⟩ := sx_hasbit hm hs h0
  exact ⟨b / 2, by omega, sx_bit_tb hp⟩
/-- k taken out of both -/
theorem sx_out2 {s o k : Nat} (hk : o.testBit k = true) : sx_diff (sx_diff s (2 ^ k)) (sx_diff o (2 ^ k)) = sx_diff s o := by
  apply Nat.eq_of_testBit_eq
  intro i
  simp only [sx_diff_bit, Nat.testBit_two_pow]
  by_cases e : k = i
  · subst e; rw [hk]; simp
  · simp [e]
theorem sx_out3 {s o k : Nat} (h : sx_diff o s = 0) : sx_diff (sx_diff o (2 ^ k)) (sx_diff s (2 ^ k)) = 0 := by
  refine sx_sub_of (fun i hi => ?_)
  rw [sx_diff_bit] at hi ⊢
  cases ho : o.testBit i
  · rw [ho] at hi; simp at hi
  · rw [ho] at hi; rw [sx_subb h ho]; exact hi
/-- where a run wants more than a box holds -/
theorem box_none {Z Y : Nat → Nat} {m rate v j : Nat} (hT : fT Z Y m rate v (2 ^ m)) (hj : j < m) (hv : v < Z j * rate + 50) : ∀ s, s < 2 ^ m → s.testBit j = true → Y s = 99 := by
  intro s
  induction s using Nat.strongRecOn with
  | ind s ih =>
    intro hs hb
    have h0 : ¬ s = 0 := fun q => by rw [q, Nat.zero_testBit] at hb; exact absurd hb (by decide)
    rw [hT.2 s (by omega) hs]
    have hz : ∀ o, fOk Z Y m rate v s o = 0 := fun o => by
      unfold fOk
      by_cases hc : ¬ o = 0 ∧ sx_diff o s = 0 ∧ ¬ Y (sx_diff s o) = 99 ∧ fVol Z rate o m ≤ v
      · obtain ⟨c1, c2, c3, c4⟩ := hc
        exfalso
        cases ho : o.testBit j
        · have hlt := sx_sub_lt c1 c2
          exact c3 (ih _ hlt (by omega) (by rw [sx_diff_bit, hb, ho]; rfl))
        · have := fVol_out (Z := Z) (rate := rate) hj (sx_tb_bit ho)
          omega
      · rw [if_neg hc]
    unfold fV
    have hm : ∀ k, sx_mn 99 (fOk Z Y m rate v s) (fun o => Y (sx_diff s o) + 1) k = 99 := fun k => by
      induction k with
      | zero => rfl
      | succ k ihk => unfold sx_mn; rw [if_pos (hz k)]; exact ihk
    exact hm _
theorem fVol_one {Z : Nat → Nat} {rate m k : Nat} (hk : k < m) : fVol Z rate (2 ^ k) m = Z k * rate + 50 := by
  have h := fVol_out (Z := Z) (rate := rate) (o := 2 ^ k) hk (sx_tb_bit (by rw [Nat.testBit_two_pow]; simp))
  have e : sx_diff (2 ^ k) (2 ^ k) = 0 := sx_sub_of (fun i hi => hi)
  have e2 : fVol Z rate 0 m = 0 := by
    unfold fVol
    have : ∀ m, sx_sum (fun k => if sx_bit 0 k = 0 then 0 else Z k * rate + 50) m = 0 := fun m => by
      induction m with
      | zero => rfl
      | succ m ih => unfold sx_sum; rw [ih]; simp [sx_bit]
    exact this m
  rw [e, e2] at h
  omega
set_option maxRecDepth 100000 in
theorem bPut_1 {f v u q : Nat} (h : f / 131072 = q) : bPut f v u ≤ (q + 1) * 131072 + v := by
  unfold bPut
  split <;> omega
set_option maxRecDepth 100000 in
theorem bPut_2 {f v u q w : Nat} (hu : u ≤ 99999) (h : f ≤ (q + 1) * 131072 + w) (hw : w + v ≤ u) : bPut f v u ≤ (q + 1) * 131072 + (w + v) := by
  unfold bPut
  split <;> omega
/-- (b): a box more is enough for what fits in one -/
theorem box_put {Z Vo Fi : Nat → Nat} {m rate u : Nat} (hm : m ≤ 9) (hu : u ≤ 99999) (hVo : ∀ j, j < m → Vo j = Z j * rate + 50) (hB : bT Vo Fi m u (2 ^ m)) : ∀ o s, s < 2 ^ m → ¬ o = 0 → sx_diff o s = 0 → fVol Z rate o m ≤ u → Fi s ≤ (Fi (sx_diff s o) / 131072 + 1) * 131072 + fVol Z rate o m := by
  intro o
  induction o using Nat.strongRecOn with
  | ind o ih =>
    intro s hs h0 hsub hvol
    have hos : o ≤ s := sx_sble hsub
    obtain ⟨k, hk, hbk⟩ := sx_hasb hm (Nat.lt_of_le_of_lt hos hs) h0
    have hsk : s.testBit k = true := sx_subb hsub hbk
    have hF : Fi s ≤ bPut (Fi (sx_diff s (2 ^ k))) (Vo k) u := by
      rw [(hB.2 s (by omega) hs).1]
      exact sx_mn_lb (p := fun k => sx_bit s k) (f := fun k => bPut (Fi (sx_diff s (2 ^ k))) (Vo k) u) hk (sx_tb_bit hsk)
    rw [hVo k hk] at hF
    have hout := fVol_out (Z := Z) (rate := rate) hk (sx_tb_bit hbk)
    by_cases e : sx_diff o (2 ^ k) = 0
    · have hvz : fVol Z rate (sx_diff o (2 ^ k)) m = 0 := by
        have := fVol_one (Z := Z) (rate := rate) hk
        have e9 : o = 2 ^ k := by
          apply Nat.eq_of_testBit_eq
          intro i
          rw [Nat.testBit_two_pow]
          by_cases q : k = i
          · subst q; rw [hbk]; simp
          · have h1 := sx_diff_bit o (2 ^ k) i
            rw [e, Nat.zero_testBit, Nat.testBit_two_pow] at h1
            cases ho : o.testBit i
            · simp [q]
            · rw [ho] at h1; simp [q] at h1
        rw [e9] at hout ⊢
        omega
      have e2 : sx_diff s o = sx_diff s (2 ^ k) := by
        have h1 := sx_out2 (s := s) hbk
        rw [e] at h1
        rw [← h1]
        apply Nat.eq_of_testBit_eq
        intro i
        rw [sx_diff_bit, Nat.zero_testBit]; simp
      rw [e2]
      have := bPut_1 (f := Fi (sx_diff s (2 ^ k))) (v := Z k * rate + 50) (u := u) rfl
      omega
    · have hlt : sx_diff o (2 ^ k) < o := sx_diff_lt (i := k) hbk (by rw [Nat.testBit_two_pow]; simp)
      have hle := sx_diff_le s (2 ^ k)
      have hi := ih _ hlt (sx_diff s (2 ^ k)) (by omega) e (sx_out3 hsub) (by omega)
      rw [sx_out2 hbk] at hi
      rw [hout] at hvol ⊢
      exact Nat.le_trans hF (bPut_2 hu hi hvol)
theorem pc_le {m s : Nat} (hm : m ≤ 9) (hs : s < 2 ^ m) : sx_pc s ≤ 9 := Nat.le_trans (sx_pc_n0 m (by omega) s hs) hm
/-- (a): what is in the last box, and that the rest needs no more than the boxes before -/
theorem box_last {Z Vo Fi Y : Nat → Nat} {m rate u : Nat} (hm : m ≤ 9) (hu : u ≤ 99999) (hVo : ∀ j, j < m → Vo j = Z j * rate + 50) (hV : ∀ j, j < m → Vo j ≤ u) (hB : bT Vo Fi m u (2 ^ m)) (hT : fT Z Y m rate u (2 ^ m)) : ∀ s, s < 2 ^ m → ¬ s = 0 → (∃ o, ¬ o = 0 ∧ sx_diff o s = 0 ∧ fVol Z rate o m = Fi s % 131072 ∧ Fi s % 131072 ≤ u ∧ Y (sx_diff s o) + 1 ≤ Fi s / 131072) ∧ Y s ≤ Fi s / 131072 ∧ Fi s / 131072 ≤ 19 := by
  intro s
  induction s using Nat.strongRecOn with
  | ind s ih =>
    intro hs h0
    obtain ⟨hFs, hbd⟩ := hB.2 s (by omega) hs
    have hpc := pc_le hm hs
    have hex : ∃ o, ¬ o = 0 ∧ sx_diff o s = 0 ∧ fVol Z rate o m = Fi s % 131072 ∧ Fi s % 131072 ≤ u ∧ Y (sx_diff s o) + 1 ≤ Fi s / 131072 := by
      obtain ⟨k, hk, hbk, hat⟩ := sx_mn_at (i0 := sx_MX) (p := fun k => sx_bit s k) (f := fun k => bPut (Fi (sx_diff s (2 ^ k))) (Vo k) u) (k := m) (by
        have : Fi s = sx_mn sx_MX (fun k => sx_bit s k) (fun k => bPut (Fi (sx_diff s (2 ^ k))) (Vo k) u) m := hFs
        rw [← this]; unfold sx_MX; omega)
      have hFe : Fi s = bPut (Fi (sx_diff s (2 ^ k))) (Vo k) u := hFs.trans hat.symm
      have hbt : s.testBit k = true := sx_bit_tb hbk
      have hlt : sx_diff s (2 ^ k) < s := sx_diff_lt (i := k) hbt (by rw [Nat.testBit_two_pow]; simp)
      have hVk := hV k hk
      rw [hVo k hk] at hFe hVk
      have hpow : ¬ 2 ^ k = 0 := by have := Nat.pow_pos (n := k) (show 0 < 2 by decide); omega
      have hone := fVol_one (Z := Z) (rate := rate) hk
      by_cases hc : Fi (sx_diff s (2 ^ k)) % 131072 + (Z k * rate + 50) ≤ u
      · unfold bPut at hFe
        rw [if_pos hc] at hFe
        by_cases e : sx_diff s (2 ^ k) = 0
        · rw [e, hB.1] at hc; omega
        · obtain ⟨⟨o, o1, o2, o3, o4, o5⟩, -, -⟩ := ih _ hlt (by omega) e
          have hok : o.testBit k = false := by
            cases q : o.testBit k
            · rfl
            · have h1 := sx_subb o2 q
              rw [sx_diff_bit, Nat.testBit_two_pow] at h1
              simp at h1
          have hb9 : (o ||| 2 ^ k).testBit k = true := by rw [Nat.testBit_or, Nat.testBit_two_pow]; simp
          have hd9 : sx_diff (o ||| 2 ^ k) (2 ^ k) = o := by
            apply Nat.eq_of_testBit_eq
            intro i
            rw [sx_diff_bit, Nat.testBit_or, Nat.testBit_two_pow]
            by_cases q : k = i
            · subst q; rw [hok]; simp
            · simp [q]
          have hv9 := fVol_out (Z := Z) (rate := rate) hk (sx_tb_bit hb9)
          rw [hd9] at hv9
          have hs9 : sx_diff (o ||| 2 ^ k) s = 0 := by
            refine sx_sub_of (fun i hi => ?_)
            rw [Nat.testBit_or, Nat.testBit_two_pow] at hi
            by_cases q : k = i
            · subst q; exact hbt
            · simp [q] at hi
              have h1 := sx_subb o2 hi
              rw [sx_diff_bit] at h1
              cases hsi : s.testBit i
              · rw [hsi] at h1; simp at h1
              · rfl
          have hr9 : sx_diff s (o ||| 2 ^ k) = sx_diff (sx_diff s (2 ^ k)) o := by
            rw [← sx_out2 hb9, hd9]
          exact ⟨o ||| 2 ^ k, fun q => by rw [q, Nat.zero_testBit] at hb9; exact absurd hb9 (by decide), hs9, by omega, by omega, by rw [hr9]; omega⟩
      · unfold bPut at hFe
        rw [if_neg hc] at hFe
        refine ⟨2 ^ k, hpow, sx_sub_of (fun i hi => ?_), by omega, by omega, ?_⟩
        · rw [Nat.testBit_two_pow] at hi
          have : k = i := of_decide_eq_true hi
          rw [← this]; exact hbt
        · by_cases e : sx_diff s (2 ^ k) = 0
          · rw [e, hT.1]; omega
          · obtain ⟨-, h2, -⟩ := ih _ hlt (by omega) e
            omega
    obtain ⟨o, o1, o2, o3, o4, o5⟩ := hex
    refine ⟨⟨o, o1, o2, o3, o4, o5⟩, ?_, by omega⟩
    rw [hT.2 s (by omega) hs]
    have hle : fV Z Y m rate u s (s + 1) ≤ Y (sx_diff s o) + 1 := sx_mn_lb (p := fOk Z Y m rate u s) (f := fun o => Y (sx_diff s o) + 1) (b := o) (by have := sx_sble o2; omega) (by unfold fOk; rw [if_pos ⟨o1, o2, by omega, by omega⟩]; decide)
    omega
theorem box_rel {Z Vo Fi Y : Nat → Nat} {m rate u : Nat} (hm : m ≤ 9) (hu : u ≤ 99999) (hVo : ∀ j, j < m → Vo j = Z j * rate + 50) (hV : ∀ j, j < m → Vo j ≤ u) (hB : bT Vo Fi m u (2 ^ m)) (hT : fT Z Y m rate u (2 ^ m)) : ∀ s, s < 2 ^ m → Fi s / 131072 = Y s ∧ ¬ Y s = 99 := by
  intro s
  induction s using Nat.strongRecOn with
  | ind s ih =>
    intro hs
    by_cases h0 : s = 0
    · subst h0; rw [hB.1, hT.1]; omega
    · obtain ⟨-, h2, h3⟩ := box_last hm hu hVo hV hB hT s hs h0
      refine ⟨Nat.le_antisymm ?_ h2, by omega⟩
      have hY : Y s = fV Z Y m rate u s (s + 1) := hT.2 s (by omega) hs
      obtain ⟨o, ho, hp, hat⟩ := sx_mn_at (i0 := 99) (p := fOk Z Y m rate u s) (f := fun o => Y (sx_diff s o) + 1) (k := s + 1) (by
        have : Y s = sx_mn 99 (fOk Z Y m rate u s) (fun o => Y (sx_diff s o) + 1) (s + 1) := hY
        rw [← this]; omega)
      have hYe : Y s = Y (sx_diff s o) + 1 := hY.trans hat.symm
      have hc : ¬ o = 0 ∧ sx_diff o s = 0 ∧ ¬ Y (sx_diff s o) = 99 ∧ fVol Z rate o m ≤ u := by
        rcases Classical.em (¬ o = 0 ∧ sx_diff o s = 0 ∧ ¬ Y (sx_diff s o) = 99 ∧ fVol Z rate o m ≤ u) with q | q
        · exact q
        · exact absurd (by unfold fOk; rw [if_neg q]) hp
      obtain ⟨c1, c2, c3, c4⟩ := hc
      have hlt := sx_sub_lt c1 c2
      have hI := (ih _ hlt (by omega)).1
      have hput := box_put hm hu hVo hB o s hs c1 c2 c4
      omega
