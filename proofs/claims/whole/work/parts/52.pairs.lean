/-! BOTH SIDES: a call of the law's, on the class and on the reference: equal answers, and the worlds belong together again -/
def RMs : Room := { frames := 5, cells := 0, slots := 0, locals := 122 }
def RMm : Room := { frames := 4, cells := 0, slots := 0, locals := 97 }
def Nx (X : sx_X) (ad bd : Nat → Nat) (w w2 : va_W) : Prop := ∃ (n J lg : Nat) (sc : Nat → Int32) (av : Nat → Nat → Nat) (sm : Nat → Int32) (am : Nat → Nat → Nat), w = sw X ad sc av ∧ w2 = mw X bd sm am ∧ Rel n J lg sc av sm am
def Pair (l : Launch) (X : sx_X) (ad bd : Nat → Nat) (W1 W2 : va_W) (y7 : MethodName) (w7 : List Cond) (y8 : MethodName) (w8 : List Cond) (as : List Value) : Prop :=
  ∃ PS PM : Int32 → va_W → Prop, sx_Mi l y7 w7 RMs X (.ref (ad 0) :: as) W1 PS 0 0 ∧ sx_Mi l y8 w8 RMm X (.ref (bd 0) :: as) W2 PM 0 0 ∧ ∀ r w r2 w2, PS r w → PM r2 w2 → r = r2 ∧ Nx X ad bd w w2
section PAIRS
variable {l : Launch} {X : sx_X} {ad bd : Nat → Nat} {n J lg : Nat} {sc : Nat → Int32} {av : Nat → Nat → Nat} {sm : Nat → Int32} {am : Nat → Nat → Nat}
theorem rel_thr (h : Rel n J lg sc av sm am) (v : Int32) : Rel n J lg sc av (va_up sm 2 v) am := h
/-- behind a call that changes nothing but what was thrown last -/
theorem nx_same (h : Rel n J lg sc av sm am) : Nx X ad bd (sw X ad sc av) (mw X bd (va_up sm 2 (nI 0)) am) := ⟨n, J, lg, sc, av, _, am, rfl, rfl, rel_thr h _⟩
theorem p_anew (h : Rel n J lg sc av sm am) : ∃ PS PM : va_W → Prop, sx_Mv l yX7_anew wsX7_anew RMs X [.ref (ad 0)] (sw X ad sc av) PS 0 0 ∧ sx_Mv l yX8_anew wsX8_anew RMm X [.ref (bd 0)] (mw X bd sm am) PM 0 0 ∧ ∀ w w2, PS w → PM w2 → Nx X ad bd w w2 := by
  refine ⟨_, _, sx_moreV (c_X7_anew l X ad sc av) (by decide), sx_moreV (c_X8_anew l X bd sm am) (by decide), ?_⟩
  rintro w w2 rfl rfl
  obtain ⟨⟨hn, hJ, h1, m0, h3⟩, hlg, hg, mg, hr, hR, hb, hc, hS⟩ := h
  refine ⟨0, 0, lg, _, _, _, _, rfl, rfl, ⟨Nat.zero_le _, Nat.le_refl _, rfl, rfl, rfl⟩, hlg, hg, mg, ⟨fun t ht => absurd ht (Nat.not_lt_zero _), fun i hi => absurd hi (Nat.not_lt_zero _), hr.2.2⟩, rTab_0 hR, hb, hc, Or.inl ⟨rfl, rfl⟩⟩
theorem p_stroke (h : Rel n J lg sc av sm am) (a b c d : Int32) : Pair l X ad bd (sw X ad sc av) (mw X bd sm am) yX7_stroke wsX7_stroke yX8_stroke wsX8_stroke [.int a, .int b, .int c, .int d] := by
  have h' := h
  obtain ⟨⟨hn, hJ, h1, m0, h3⟩, hlg, hg, mg, hr, hR, hb, hc, hS⟩ := h
  rcases Classical.em (sx_no n a b c d) with q | q
  · refine ⟨_, _, sx_moreI (c_X7_stroke_no l X ad sc av a b c d n hn h1 q) (by decide), sx_moreI (c_X8_stroke_no l X bd sm am a b c d n hn m0 q) (by decide), ?_⟩
    rintro r w r2 w2 ⟨rfl, rfl⟩ ⟨rfl, rfl⟩
    exact ⟨rfl, nx_same h'⟩
  · have q2 : ∃ p q u v : Nat, a = nI p ∧ b = nI q ∧ c = nI u ∧ d = nI v ∧ p ≤ 9 ∧ q ≤ 9 ∧ u ≤ 9 ∧ v ≤ 9 ∧ n < 9 ∧ sx_str p q u v := by
      rcases Classical.em (∃ p q u v : Nat, a = nI p ∧ b = nI q ∧ c = nI u ∧ d = nI v ∧ p ≤ 9 ∧ q ≤ 9 ∧ u ≤ 9 ∧ v ≤ 9 ∧ n < 9 ∧ sx_str p q u v) with z | z
      · exact z
      · exact absurd (fun p q u v e1 e2 e3 e4 b1 b2 b3 b4 b5 b6 => z ⟨p, q, u, v, e1, e2, e3, e4, b1, b2, b3, b4, b5, b6⟩) q
    obtain ⟨p1, p2, p3, p4, rfl, rfl, rfl, rfl, b1, b2, b3, b4, b5, b6⟩ := q2
    refine ⟨_, _, sx_moreI (c_X7_stroke_ok l X ad sc av n p1 p2 p3 p4 b5 h1 b1 b2 b3 b4 b6) (by decide), sx_moreI (c_X8_stroke_ok l X bd sm am n p1 p2 p3 p4 b5 m0 b1 b2 b3 b4 b6) (by decide), ?_⟩
    rintro r w r2 w2 ⟨rfl, rfl⟩ ⟨rfl, rfl⟩
    exact ⟨rfl, n + 1, J, lg, _, _, _, _, rfl, rfl, ⟨b5, by omega, rfl, rfl, h3⟩, hlg, sG_add b1 b2 b3 b4 hg, mG_add b1 b2 b3 b4 mg, sRel_add b5 hr, rTab_add hn hJ hR, hb, hc, hS⟩
theorem p_price (h : Rel n J lg sc av sm am) (a b : Int32) : Pair l X ad bd (sw X ad sc av) (mw X bd sm am) yX7_price wsX7_price yX8_price wsX8_price [.int a, .int b] := by
  have h' := h
  obtain ⟨⟨hn, hJ, h1, m0, h3⟩, hlg, hg, mg, hr, hR, hb, hc, hS⟩ := h
  rcases Classical.em (0 ≤ a.toInt ∧ a.toInt ≤ 6 ∧ 0 ≤ b.toInt ∧ b.toInt ≤ 99) with q | q
  · obtain ⟨q1, q2, q3, q4⟩ := q
    obtain ⟨ea, e1, e2⟩ := sx_of q1
    obtain ⟨eb, e3, e4⟩ := sx_of q3
    have la : a.toInt.toNat ≤ 6 := by omega
    have lb : b.toInt.toNat ≤ 99 := by omega
    generalize a.toInt.toNat = p at ea la
    generalize b.toInt.toNat = v at eb lb
    subst ea; subst eb
    refine ⟨_, _, sx_moreI (c_X7_price_ok l X ad sc av p v la lb) (by decide), sx_moreI (c_X8_price_ok l X bd sm am p v la lb) (by decide), ?_⟩
    rintro r w r2 w2 ⟨rfl, rfl⟩ ⟨rfl, rfl⟩
    obtain ⟨g1, g2, g3, g4, g5, g6⟩ := hg
    obtain ⟨k1, k2, k3, k4, k5, k6, k7⟩ := mg
    exact ⟨rfl, n, 0, lg, _, _, _, _, rfl, rfl, ⟨hn, Nat.zero_le _, h1, m0, rfl⟩, hlg, ⟨g1, g2, g3, g4, up_le g5 lb, g6⟩, ⟨k1, k2, k3, k4, k5, k6, up_le k7 lb⟩, sRel_price hr, rTab_0 hR, hb, hc, hS⟩
  · refine ⟨_, _, sx_moreI (c_X7_price_no l X ad sc av a b q) (by decide), sx_moreI (c_X8_price_no l X bd sm am a b q) (by decide), ?_⟩
    rintro r w r2 w2 ⟨rfl, rfl⟩ ⟨rfl, rfl⟩
    exact ⟨rfl, nx_same h'⟩
theorem p_longest (h : Rel n J lg sc av sm am) (a : Int32) : Pair l X ad bd (sw X ad sc av) (mw X bd sm am) yX7_longest wsX7_longest yX8_longest wsX8_longest [.int a] := by
  have h' := h
  obtain ⟨hn, hlg, hg, mg, hr, hR, hb, hc, hS⟩ := h
  rcases Classical.em (1 ≤ a.toInt ∧ a.toInt ≤ 9999) with q | q
  · obtain ⟨q1, q2⟩ := q
    obtain ⟨ea, e1, e2⟩ := sx_of (x := a) (by omega)
    have la : 1 ≤ a.toInt.toNat := by omega
    have lb : a.toInt.toNat ≤ 9999 := by omega
    generalize a.toInt.toNat = p at ea la lb
    subst ea
    refine ⟨_, _, sx_moreI (c_X7_longest_ok l X ad sc av p la lb) (by decide), sx_moreI (c_X8_longest_ok l X bd sm am p la lb) (by decide), ?_⟩
    rintro r w r2 w2 ⟨rfl, rfl⟩ ⟨rfl, rfl⟩
    exact ⟨rfl, n, J, p, _, _, _, _, rfl, rfl, hn, ⟨la, lb, rfl, rfl⟩, hg, mg, hr, hR, hb, hc, hS⟩
  · refine ⟨_, _, sx_moreI (c_X7_longest_no l X ad sc av a q) (by decide), sx_moreI (c_X8_longest_no l X bd sm am a q) (by decide), ?_⟩
    rintro r w r2 w2 ⟨rfl, rfl⟩ ⟨rfl, rfl⟩
    exact ⟨rfl, nx_same h'⟩
theorem p_count (h : Rel n J lg sc av sm am) (a : Int32) : Pair l X ad bd (sw X ad sc av) (mw X bd sm am) yX7_count wsX7_count yX8_count wsX8_count [.int a] := by
  have h' := h
  obtain ⟨⟨hn, hJ, h1, m0, h3⟩, ⟨l1, l2, l3, l4⟩, hg, mg, hr, hR, hb, hc, hS⟩ := h
  rcases sx_pick a 4 (by decide) with q | ⟨k, hk, rfl⟩
  · refine ⟨_, _, sx_moreI (c_X7_count_o l X ad sc av a q) (by decide), sx_moreI (c_X8_count_o l X bd sm am a q) (by decide), ?_⟩
    rintro r w r2 w2 ⟨rfl, rfl⟩ ⟨rfl, rfl⟩
    exact ⟨rfl, nx_same h'⟩
  · rcases (show k = 0 ∨ k = 1 ∨ k = 2 ∨ k = 3 ∨ k = 4 by omega) with rfl | rfl | rfl | rfl | rfl
    · refine ⟨_, _, sx_moreI (c_X7_count_0 l X ad sc av) (by decide), sx_moreI (c_X8_count_0 l X bd sm am n hn m0) (by decide), ?_⟩
      rintro r w r2 w2 ⟨rfl, rfl⟩ ⟨rfl, rfl⟩
      exact ⟨h1, nx_same h'⟩
    · rcases hS with ⟨s1, s2⟩ | ⟨m, s0, s1, s2, s3, s4, s5⟩
      · refine ⟨_, _, sx_moreI (c_X7_count_1 l X ad sc av) (by decide), sx_moreI (c_X8_count_1n l X bd sm am s2) (by decide), ?_⟩
        rintro r w r2 w2 ⟨rfl, rfl⟩ ⟨rfl, rfl⟩
        exact ⟨s1, nx_same h'⟩
      · refine ⟨_, _, sx_moreI (c_X7_count_1 l X ad sc av) (by decide), sx_moreI (c_X8_count_1 l X bd sm am s2) (by decide), ?_⟩
        rintro r w r2 w2 ⟨rfl, rfl⟩ ⟨rfl, rfl⟩
        exact ⟨s1.trans s3.symm, nx_same h'⟩
    · refine ⟨_, _, sx_moreI (c_X7_count_2 l X ad sc av n hn h1 hg) (by decide), sx_moreI (c_X8_count_2 l X bd sm am n hn m0 mg) (by decide), ?_⟩
      rintro r w r2 w2 ⟨rfl, rfl⟩ ⟨rfl, rfl⟩
      exact ⟨by rw [sx_sum_congr hr.2.1], nx_same h'⟩
    · rcases hS with ⟨s1, s2⟩ | ⟨m, s0, s1, s2, s3, s4, s5⟩
      · refine ⟨_, _, sx_moreI (c_X7_count_3n l X ad sc av s1) (by decide), sx_moreI (c_X8_count_3n l X bd sm am s2) (by decide), ?_⟩
        rintro r w r2 w2 ⟨rfl, rfl⟩ ⟨rfl, rfl⟩
        exact ⟨rfl, nx_same h'⟩
      · refine ⟨_, _, sx_moreI (c_X7_count_3 l X ad sc av m s0 s1 hc.2.2.2) (by decide), sx_moreI (c_X8_count_3 l X bd sm am s2) (by decide), ?_⟩
        rintro r w r2 w2 ⟨rfl, rfl⟩ ⟨rfl, rfl⟩
        exact ⟨s4.symm, nx_same h'⟩
    · refine ⟨_, _, sx_moreI (c_X7_count_4 l X ad sc av) (by decide), sx_moreI (c_X8_count_4 l X bd sm am) (by decide), ?_⟩
      rintro r w r2 w2 ⟨rfl, rfl⟩ ⟨rfl, rfl⟩
      exact ⟨l3.trans l4.symm, nx_same h'⟩
/-- the tables made anew -/
theorem rel_tab (h : Rel n J lg sc av sm am) {v2 : Int32} {A13 A14 A15 A16 L B : Nat → Nat} (hT : rTab av n v2 A13 A14 A15 A16) (hL : ∀ j, L j ≤ 2000000000) (hB : ∀ j, B j ≤ 2000000000) : Rel n n lg (va_up (va_up sc 2 v2) 3 (nI (2 ^ n))) (va_up (va_up (va_up (va_up av 13 A13) 14 A14) 15 A15) 16 A16) (va_up sm 2 (nI 0)) (va_up (va_up am 8 L) 9 B) := by
  obtain ⟨⟨hn, hJ, h1, m0, h3⟩, hlg, ⟨g1, g2, g3, g4, g5, g6⟩, mg, hr, hR, ⟨b8, b9, b10, b16, b17, b18, b12⟩, hc, hS⟩ := h
  exact ⟨⟨hn, Nat.le_refl _, h1, m0, rfl⟩, hlg, ⟨g1, g2, g3, g4, g5, hT.2.2.1⟩, mg, hr, hT, ⟨hL, hB, b10, b16, b17, b18, b12⟩, hc, hS⟩
/-- .. the class's alone -/
theorem rel_tab1 (h : Rel n J lg sc av sm am) {v2 : Int32} {A13 A14 A15 A16 : Nat → Nat} (hT : rTab av n v2 A13 A14 A15 A16) : Rel n n lg (va_up (va_up sc 2 v2) 3 (nI (2 ^ n))) (va_up (va_up (va_up (va_up av 13 A13) 14 A14) 15 A15) 16 A16) (va_up sm 2 (nI 0)) am := by
  obtain ⟨⟨hn, hJ, h1, m0, h3⟩, hlg, ⟨g1, g2, g3, g4, g5, g6⟩, mg, hr, hR, hb, hc, hS⟩ := h
  exact ⟨⟨hn, Nat.le_refl _, h1, m0, rfl⟩, hlg, ⟨g1, g2, g3, g4, g5, hT.2.2.1⟩, mg, hr, hT, hb, hc, hS⟩
theorem rel_way (h : Rel n J lg sc av sm am) {Wy Rw : Nat → Nat} (h1 : ∀ j, Wy j < 18) (h2 : ∀ j, Rw j < 18) : Rel n J lg sc (va_up av 17 Wy) sm (va_up am 10 Rw) := by
  obtain ⟨hn, hlg, hg, mg, hr, hR, ⟨b8, b9, b10, b16, b17, b18, b12⟩, ⟨c17, c24, c20, c21⟩, hS⟩ := h
  exact ⟨hn, hlg, hg, mg, hr, hR, ⟨b8, b9, h2, b16, b17, b18, b12⟩, ⟨h1, c24, c20, c21⟩, hS⟩
theorem rel_way1 (h : Rel n J lg sc av sm am) {Wy : Nat → Nat} (h1 : ∀ j, Wy j < 18) : Rel n J lg sc (va_up av 17 Wy) sm am := by
  obtain ⟨hn, hlg, hg, mg, hr, hR, hb, ⟨c17, c24, c20, c21⟩, hS⟩ := h
  exact ⟨hn, hlg, hg, mg, hr, hR, hb, ⟨h1, c24, c20, c21⟩, hS⟩
theorem p_run (h : Rel n J lg sc av sm am) (x a : Int32) : Pair l X ad bd (sw X ad sc av) (mw X bd sm am) yX7_run wsX7_run yX8_run wsX8_run [.int x, .int a] := by
  have h' := h
  obtain ⟨⟨hn, hJ, h1, m0, h3⟩, hlg, hg, mg, hr, hR, ⟨b8, b9, b10, b16, b17, b18, b12⟩, ⟨c17, c24, c20, c21⟩, hS⟩ := h
  rcases Classical.em (sx_isSet n x = 0) with q | q
  · refine ⟨_, _, sx_moreI (c_X7_run_no l X ad sc av n J hn hJ h1 h3 hg hR x a q) (by decide), sx_moreI (c_X8_run_no l X bd sm am n hn m0 mg x a (Or.inl q)) (by decide), ?_⟩
    rintro r w r2 w2 ⟨rfl, rfl⟩ ⟨rfl, rfl⟩
    exact ⟨rfl, nx_same h'⟩
  · obtain ⟨s, s1, s2, rfl⟩ := sx_isSet_of q
    rcases sx_pick a 3 (by decide) with ho | ⟨k, hk, rfl⟩
    · refine ⟨_, _, sx_moreI (c_X7_run_o l X ad sc av n J hn hJ h1 h3 hg hR s s1 s2 a ho) (by decide), sx_moreI (c_X8_run_no l X bd sm am n hn m0 mg (nI s) a (Or.inr ho)) (by decide), ?_⟩
      rintro r w r2 w2 ⟨v2, v3, A13, A14, A15, A16, rfl, rfl, rfl, hT⟩ ⟨rfl, rfl⟩
      exact ⟨rfl, n, n, lg, _, _, _, _, rfl, rfl, rel_tab1 h' hT⟩
    · rcases (show k = 0 ∨ k = 1 ∨ k = 2 ∨ k = 3 by omega) with rfl | rfl | rfl | rfl
      · refine ⟨_, _, sx_moreI (c_X7_run_0 l X ad sc av n J hn hJ h1 h3 hg hR s s1 s2) (by decide), sx_moreI (c_X8_run_0 l X bd sm am n hn m0 mg b8 b9 s s1 s2) (by decide), ?_⟩
        rintro r w r2 w2 ⟨v2, v3, A13, A14, A15, A16, rfl, rfl, rfl, hT⟩ ⟨L, B, rfl, rfl, hL, hB, hM⟩
        obtain ⟨e1, e2⟩ := (tab_rel hr mg hn hM hT.2.2.2.2.2.2 hT.2.2.2.2.2.1 s s2).2.2 (by omega)
        exact ⟨by rw [e1, (cv_div e2).1], n, n, lg, _, _, _, _, rfl, rfl, rel_tab h' hT hL hB⟩
      · refine ⟨_, _, sx_moreI (c_X7_run_1 l X ad sc av n J hn hJ h1 h3 hg hR s s1 s2) (by decide), sx_moreI (c_X8_run_1 l X bd sm am n hn m0 mg b8 b9 s s1 s2) (by decide), ?_⟩
        rintro r w r2 w2 ⟨v2, v3, A13, A14, A15, A16, rfl, rfl, rfl, hT⟩ ⟨L, B, rfl, rfl, hL, hB, hM⟩
        obtain ⟨e1, e2⟩ := (tab_rel hr mg hn hM hT.2.2.2.2.2.2 hT.2.2.2.2.2.1 s s2).2.2 (by omega)
        exact ⟨by rw [e1, (cv_div e2).2], n, n, lg, _, _, _, _, rfl, rfl, rel_tab h' hT hL hB⟩
      · refine ⟨_, _, sx_moreI (c_X7_run_2 l X ad sc av n J hn hJ h1 h3 hg hR s s1 s2) (by decide), sx_moreI (c_X8_run_2 l X bd sm am n hn m0 mg b8 b9 s s1 s2) (by decide), ?_⟩
        rintro r w r2 w2 ⟨v2, v3, A13, A14, A15, A16, rfl, rfl, rfl, hT⟩ ⟨L, B, rfl, rfl, hL, hB, hM⟩
        obtain ⟨e1, e2⟩ := (tab_rel hr mg hn hM hT.2.2.2.2.2.2 hT.2.2.2.2.2.1 s s2).2.2 (by omega)
        exact ⟨by rw [price_rel hr e1 e2]; rfl, n, n, lg, _, _, _, _, rfl, rfl, rel_tab h' hT hL hB⟩
      · refine ⟨_, _, sx_moreI (c_X7_run_3 l X ad sc av n J hn hJ h1 h3 hg hR c17 s s1 s2) (by decide), sx_moreI (c_X8_run_3 l X bd sm am n hn m0 mg b8 b9 b10 s s1 s2) (by decide), ?_⟩
        rintro r w r2 w2 ⟨v2, v3, A13, A14, A15, A16, Wy, rfl, rfl, rfl, hT, hW, hP⟩ ⟨L, B, Rw, rfl, rfl, hL, hB, hM, hRw, hQ⟩
        obtain ⟨-, hj⟩ := path_rel hr mg hn hM hT.2.2.2.2.2.2 hT.2.2.2.2.2.1 s1 s2 hP hQ
        have hlt := cPth_all hP
        refine ⟨?_, n, n, lg, _, _, _, _, rfl, rfl, rel_way (rel_tab h' hT hL hB) hW hRw⟩
        rw [sx_sum_congr (f := fun j => if A14 (Wy j * 18 + Wy (j + 1)) % 4096 = 0 then 0 else 1) (g := fun j => mJ am (Rw j) (Rw (j + 1)))]
        intro i hi
        show (if A14 (Wy i * 18 + Wy (i + 1)) % 4096 = 0 then 0 else 1) = mJ am (Rw i) (Rw (i + 1))
        have w1 := hlt i (by omega)
        have w2 := hlt (i + 1) (by omega)
        rw [show Wy i * 18 + Wy (i + 1) = 18 * Wy i + Wy (i + 1) by omega, hT.2.2.2.1 _ w1 _ w2, link_jump hr mg w1 w2, hj i (by omega), hj (i + 1) (by omega)]
theorem p_step (h : Rel n J lg sc av sm am) (x a : Int32) : Pair l X ad bd (sw X ad sc av) (mw X bd sm am) yX7_step wsX7_step yX8_step wsX8_step [.int x, .int a] := by
  have h' := h
  obtain ⟨⟨hn, hJ, h1, m0, h3⟩, hlg, hg, mg, hr, hR, ⟨b8, b9, b10, b16, b17, b18, b12⟩, ⟨c17, c24, c20, c21⟩, hS⟩ := h
  rcases Classical.em (sx_isSet n x = 0) with q | q
  · refine ⟨_, _, sx_moreI (c_X7_step_no l X ad sc av n J hn hJ h1 h3 hg hR x a q) (by decide), sx_moreI (c_X8_step_no l X bd sm am n hn m0 mg x a (Or.inl q)) (by decide), ?_⟩
    rintro r w r2 w2 ⟨rfl, rfl⟩ ⟨rfl, rfl⟩
    exact ⟨rfl, nx_same h'⟩
  · obtain ⟨s, s1, s2, rfl⟩ := sx_isSet_of q
    by_cases hk : a.toInt < 0
    · refine ⟨_, _, sx_moreI (c_X7_step_n l X ad sc av n J hn hJ h1 h3 hg hR c17 s s1 s2 a hk) (by decide), sx_moreI (c_X8_step_no l X bd sm am n hn m0 mg (nI s) a (Or.inr hk)) (by decide), ?_⟩
      rintro r w r2 w2 ⟨v2, v3, A13, A14, A15, A16, Wy, rfl, rfl, rfl, hT, hW, hP⟩ ⟨rfl, rfl⟩
      exact ⟨rfl, n, n, lg, _, _, _, _, rfl, rfl, rel_way1 (rel_tab1 h' hT) hW⟩
    · obtain ⟨ea, e1, e2⟩ := sx_of (x := a) (by omega)
      generalize a.toInt.toNat = k at ea e2
      clear e1 hk
      subst ea
      refine ⟨_, _, sx_moreI (c_X7_step_k l X ad sc av n J hn hJ h1 h3 hg hR c17 s s1 s2 k e2) (by decide), sx_moreI (c_X8_step_ok l X bd sm am n hn m0 mg b8 b9 b10 s k s1 s2 e2) (by decide), ?_⟩
      rintro r w r2 w2 ⟨v2, v3, A13, A14, A15, A16, Wy, rfl, rfl, rfl, hT, hW, hP⟩ ⟨L, B, Rw, rfl, rfl, hL, hB, hM, hRw, hQ⟩
      obtain ⟨-, hj⟩ := path_rel hr mg hn hM hT.2.2.2.2.2.2 hT.2.2.2.2.2.1 s1 s2 hP hQ
      refine ⟨?_, n, n, lg, _, _, _, _, rfl, rfl, rel_way (rel_tab h' hT hL hB) hW hRw⟩
      by_cases e : k < sx_pc s
      · rw [if_pos e, if_pos e, hj k e]
      · rw [if_neg e, if_neg e]
theorem p_feed (h : Rel n J lg sc av sm am) (a b : Int32) : Pair l X ad bd (sw X ad sc av) (mw X bd sm am) yX7_feed wsX7_feed yX8_feed wsX8_feed [.int a, .int b] := by
  have h' := h
  obtain ⟨hn, hlg, hg, mg, hr, hR, ⟨b8, b9, b10, b16, b17, b18, b12⟩, ⟨c17, c24, c20, c21⟩, hS⟩ := h
  have hS' := hS
  rcases hS with ⟨s1, s2⟩ | ⟨m, s0, s1, s2, s3, s4, s5⟩
  · refine ⟨_, _, sx_moreI (c_X7_feed_n l X ad sc av a b s1) (by decide), sx_moreI (c_X8_feed_n l X bd sm am a b s2) (by decide), ?_⟩
    rintro r w r2 w2 ⟨rfl, rfl⟩ ⟨rfl, rfl⟩
    exact ⟨rfl, nx_same h'⟩
  · rcases Classical.em (0 ≤ a.toInt ∧ a.toInt ≤ 99 ∧ 1 ≤ b.toInt ∧ b.toInt ≤ 99999) with q | q
    · obtain ⟨q1, q2, q3, q4⟩ := q
      obtain ⟨ea, e1, e2⟩ := sx_of q1
      obtain ⟨eb, e3, e4⟩ := sx_of (x := b) (by omega)
      have la : a.toInt.toNat ≤ 99 := by omega
      have lb : 1 ≤ b.toInt.toNat := by omega
      have lc : b.toInt.toNat ≤ 99999 := by omega
      generalize a.toInt.toNat = rate at ea la
      generalize b.toInt.toNat = v at eb lb lc
      clear e1 e2 e3 e4 q1 q2 q3 q4
      subst ea; subst eb
      refine ⟨_, _, sx_moreI (c_X7_feed_ok l X ad sc av m s0 s1 c20 rate v la lb lc) (by decide), sx_moreI (c_X8_feed_ok l X bd sm am m s0 s2 s3 b12 rate v la lb lc b17) (by decide), ?_⟩
      rintro r w r2 w2 hp ⟨Y, hY, hT, rfl, rfl⟩
      have hp1 : 1 ≤ 2 ^ m := Nat.one_le_two_pow
      rcases hp with ⟨j, hj, hv, rfl, Vo, rfl⟩ | ⟨hall, Vo, Fi, rfl, rfl, hVo, hB⟩
      · have hb : (2 ^ m - 1).testBit j = true := by rw [Nat.testBit_two_pow_sub_one]; exact decide_eq_true hj
        have hY9 := box_none hT hj (by rw [← (s5 j hj).2.1]; exact hv) (2 ^ m - 1) (by omega) hb
        refine ⟨by rw [if_pos hY9], n, J, lg, _, _, _, _, rfl, rfl, ?_⟩
        exact ⟨hn, hlg, hg, mg, hr, hR, ⟨b8, b9, b10, b16, hY, b18, b12⟩, ⟨c17, c24, c20, c21⟩, hS'⟩
      · have hV2 : ∀ j, j < m → Vo j = am 12 j * rate + 50 := fun j hj => by rw [hVo j hj, (s5 j hj).2.1]
        obtain ⟨e1, e2⟩ := box_rel s0 lc hV2 (fun j hj => by rw [hVo j hj]; exact hall j hj) hB hT (2 ^ m - 1) (by omega)
        refine ⟨by rw [if_neg e2, e1], n, J, lg, _, _, _, _, rfl, rfl, ?_⟩
        exact ⟨hn, hlg, hg, mg, hr, hR, ⟨b8, b9, b10, b16, hY, b18, b12⟩, ⟨c17, c24, c20, c21⟩, hS'⟩
    · refine ⟨_, _, sx_moreI (c_X7_feed_no l X ad sc av a b q) (by decide), sx_moreI (c_X8_feed_no l X bd sm am a b s2 q) (by decide), ?_⟩
      rintro r w r2 w2 ⟨rfl, rfl⟩ ⟨rfl, rfl⟩
      exact ⟨rfl, nx_same h'⟩
theorem p_dead (h : Rel n J lg sc av sm am) (a : Int32) : Pair l X ad bd (sw X ad sc av) (mw X bd sm am) yX7_dead wsX7_dead yX8_dead wsX8_dead [.int a] := by
  have h' := h
  obtain ⟨hn, hlg, hg, mg, hr, hR, ⟨b8, b9, b10, b16, b17, b18, b12⟩, ⟨c17, c24, c20, c21⟩, hS⟩ := h
  have hS' := hS
  rcases hS with ⟨s1, s2⟩ | ⟨m, s0, s1, s2, s3, s4, s5⟩
  · refine ⟨_, _, sx_moreI (c_X7_dead_n l X ad sc av a s1) (by decide), sx_moreI (c_X8_dead_n l X bd sm am a s2) (by decide), ?_⟩
    rintro r w r2 w2 ⟨rfl, rfl⟩ ⟨rfl, rfl⟩
    exact ⟨rfl, nx_same h'⟩
  · have hZ : ∀ j, j < m → av 20 j = am 12 j := fun j hj => (s5 j hj).2.1
    rcases sx_pick a 1 (by decide) with q | ⟨k, hk, rfl⟩
    · refine ⟨_, _, sx_moreI (c_X7_dead_no l X ad sc av a m s0 s1 q) (by decide), sx_moreI (c_X8_dead_no l X bd sm am a s2 q) (by decide), ?_⟩
      rintro r w r2 w2 ⟨rfl, rfl⟩ ⟨rfl, rfl⟩
      exact ⟨rfl, nx_same h'⟩
    · rcases (show k = 0 ∨ k = 1 by omega) with rfl | rfl
      · refine ⟨_, _, sx_moreI (c_X7_dead_0 l X ad sc av m s0 s1 c20 c24) (by decide), sx_moreI (c_X8_dead_0 l X bd sm am m s0 s2 s3 b12 b18) (by decide), ?_⟩
        rintro r w r2 w2 ⟨Y, u6, u7, hY, hJT, rfl, hv⟩ ⟨Y2, hY2, hDT, rfl, rfl⟩
        refine ⟨?_, n, J, lg, _, _, _, _, rfl, rfl, hn, hlg, hg, mg, hr, hR, ⟨b8, b9, b10, b16, b17, hY2, b12⟩, ⟨c17, hY, c20, c21⟩, hS'⟩
        rcases hv with ⟨g1, rfl⟩ | ⟨g1, rfl⟩
        · by_cases e : m = 0
          · rw [if_pos e]
          · have e1 : m = 1 := by omega
            subst e1
            obtain ⟨-, z⟩ := hDT 0 0 (Nat.le_refl _) (by decide) (by decide)
            rw [if_neg e]
            have z2 : Y2 (1 - 1) = 0 := by
              have z3 : Y2 0 ≤ 0 := z
              exact Nat.le_zero.mp z3
            rw [z2]
        · rw [if_neg (by omega)]
          have z := (look_rel hZ hJT hDT m 0 (m - 1) (by omega) (by omega) (by omega)).1
          have z2 : Y (m - 1) = Y2 (m - 1) := by
            have e9 : 9 * 0 + (m - 1) = m - 1 := by omega
            rw [e9] at z; exact z
          rw [z2]
      · refine ⟨_, _, sx_moreI (c_X7_dead_1 l X ad sc av m s0 s1 c20 c24) (by decide), sx_moreI (c_X8_dead_1 l X bd sm am m s0 s2 s3 b12 b18) (by decide), ?_⟩
        rintro r w r2 w2 ⟨Y, u6, u7, hY, hJT, rfl, hv⟩ ⟨Y2, hY2, hDT, hv2, rfl⟩
        refine ⟨?_, n, J, lg, _, _, _, _, rfl, rfl, hn, hlg, hg, mg, hr, hR, ⟨b8, b9, b10, b16, b17, hY2, b12⟩, ⟨c17, hY, c20, c21⟩, hS'⟩
        rcases hv with ⟨g1, rfl⟩ | ⟨g1, q, rfl, hq⟩ <;> rcases hv2 with ⟨g2, rfl⟩ | ⟨g2, hf⟩
        · rfl
        · omega
        · omega
        · exact (first_rel hZ c20 s0 g1 hJT hDT hq hf).symm
theorem p_split (h : Rel n J lg sc av sm am) : Pair l X ad bd (sw X ad sc av) (mw X bd sm am) yX7_split wsX7_split yX8_split wsX8_split [] := by
  have h' := h
  obtain ⟨⟨hn, hJ, h1, m0, h3⟩, ⟨l1, l2, l3, l4⟩, hg, mg, hr, hR, ⟨b8, b9, b10, b16, b17, b18, b12⟩, ⟨c17, c24, c20, c21⟩, hS⟩ := h
  refine ⟨_, _, sx_moreI (c_X7_split l X ad sc av n J hn hJ h1 h3 hg hR lg l2 l3) (by decide), sx_moreI (c_X8_split l X bd sm am n hn m0 mg b8 b9 lg l2 l4 b16) (by decide), ?_⟩
  rintro r w r2 w2 ⟨v2, v3, A13, A14, A15, A16, U, rfl, hT, hU, hp⟩ ⟨L, B, M, C, F, hL, hB, hM, hV, hF, hp2⟩
  have hp1 : 1 ≤ 2 ^ n := Nat.one_le_two_pow
  have hBs : ∀ s, 1 ≤ s → s < 2 ^ n → A16 s = cv (B s) ∧ B s % 100000 < 4096 := fun s q1 q2 => (tab_rel hr mg hn hM hT.2.2.2.2.2.2 hT.2.2.2.2.2.1 s q2).2.2 (by omega)
  have hpr : ∀ t, ¬ t = 0 → t < 2 ^ n → mPr am B t ≤ 22000 := fun t q1 q2 => mPr_le mg hn hM q2 q1
  have hall := split_rel hr hn hBs hpr hV hU (2 ^ n - 1) (by omega)
  obtain ⟨g1, g2, g3, g4, g5, g6⟩ := hg
  rcases hp with ⟨hu, rfl, rfl⟩ | ⟨hu, k, S, Z, Q, rfl, hk9, rfl, hspl, hzq, hrest⟩ <;> rcases hp2 with ⟨hm9, rfl, rfl⟩ | ⟨hm9, rfl, S2, Z2, Q2, rfl, hspl2, hzq2, hzo, hsum⟩
  · exact ⟨rfl, n, n, lg, _, _, _, _, rfl, rfl, ⟨hn, Nat.le_refl _, h1, m0, rfl⟩, ⟨l1, l2, l3, l4⟩, ⟨g1, g2, g3, g4, g5, hT.2.2.1⟩, mg, hr, hT, ⟨hL, hB, b10, hF, b17, b18, b12⟩, ⟨c17, c24, c20, c21⟩, hS⟩
  · rcases hall with ⟨z, -, -⟩ | ⟨z1, z2, z3⟩
    · exact absurd z hm9
    · omega
  · rcases hall with ⟨-, -, z⟩ | ⟨z1, z2, z3⟩
    · omega
    · omega
  · obtain ⟨sp1, sp2, sp3, sp4⟩ := spl_rel hr hn hBs hpr hV hU hm9 hspl
    rw [hV.1] at sp4
    have hkM : k = M (2 ^ n - 1) := by omega
    rw [← hkM] at hspl2 hzq2 hzo hsum ⊢
    obtain ⟨-, hSS⟩ := mSpl_one sp1 hspl2
    obtain ⟨-, hin⟩ := cSpl_in hspl
    have hZ : ∀ j, j < k → S j = S2 j ∧ Z j = Z2 j ∧ Q j = Q2 j ∧ Q j ≤ 22000 := fun j hj => by
      obtain ⟨i1, i2⟩ := hin j hj
      obtain ⟨e1, e2⟩ := hBs (S j) (by omega) (by omega)
      obtain ⟨z1, z2⟩ := hzq j hj
      obtain ⟨y1, y2⟩ := hzq2 j hj
      have hp9 := hpr (S j) i1 (by omega)
      have es := hSS j hj
      rw [price_rel hr e1 e2] at z2
      refine ⟨es, ?_, ?_, by omega⟩
      · rw [z1, y1, ← es, e1, (cv_div e2).2]
      · rw [z2, y2, ← es]
    have hsum2 : sx_sum Q k = C (2 ^ n - 1) := by rw [← hsum]; exact sx_sum_congr (fun i hi => (hZ i hi).2.2.1)
    refine ⟨rfl, n, n, lg, _, _, _, _, rfl, rfl, ⟨hn, Nat.le_refl _, h1, m0, rfl⟩, ⟨l1, l2, l3, l4⟩, ⟨g1, g2, g3, g4, g5, hT.2.2.1⟩, mg, hr, hT, ⟨hL, hB, b10, hF, b17, b18, fun j => ?_⟩, ⟨c17, c24, fun j => ?_, fun j => ?_⟩, Or.inr ⟨k, hk9, rfl, rfl, rfl, ?_, fun j hj => ⟨(hZ j hj).1, (hZ j hj).2.1, (hZ j hj).2.2.1⟩⟩⟩
    · show Z2 j ≤ 99999
      by_cases e : j < k
      · rw [(hzq2 j e).1]; omega
      · rw [hzo j (by omega)]; exact b12 j
    · show Z j ≤ 4095
      by_cases e : j < k
      · rw [(hzq j e).1]; omega
      · rw [(hrest j (by omega)).2.1]; exact c20 j
    · show Q j ≤ 1100000
      by_cases e : j < k
      · have := (hZ j e).2.2.2; omega
      · rw [(hrest j (by omega)).2.2]; exact c21 j
    · show nI (C (2 ^ n - 1)) = nI (sx_sum Q k)
      rw [hsum2]
end PAIRS
