/-! BOTH SIDES: how the class's world and the reference's belong together -/
theorem sx_hasRoom {s : State} {pl : Platform} {r r' : Room} (h9 : r.frames ≤ r'.frames ∧ r.locals ≤ r'.locals ∧ r.cells ≤ r'.cells ∧ r.slots ≤ r'.slots) (h : s.hasRoom pl r' = true) : s.hasRoom pl r = true := by
  obtain ⟨hf, hl, hc, hs⟩ := h9
  simp only [State.hasRoom, Bool.and_eq_true, decide_eq_true_eq] at h ⊢
  obtain ⟨⟨⟨⟨y, a, b, c, d, e⟩, f⟩, g⟩, i⟩ := h
  exact ⟨⟨⟨⟨by omega, by omega, by omega, by omega, by omega, e⟩, by omega⟩, by omega⟩, i⟩
theorem sx_more {l : Launch} {x : MethodName} {ws : List Cond} {rm rm2 : Room} {P : Array Value → State → Prop} {K : Program → Env → List Frame → State → Array Value → Prop} {Q : Array Value → State → Outcome → State → Prop}
    (h : MetFree l x (headSpec ws rm) P K Q) (h9 : rm.frames ≤ rm2.frames ∧ rm.locals ≤ rm2.locals ∧ rm.cells ≤ rm2.cells ∧ rm.slots ≤ rm2.slots) : MetFree l x (headSpec ws rm2) P K Q := by
  intro p e ha hcs hk s m args below hfr happ hP hK
  obtain ⟨a1, a2, a3, a4, a5, a6, a7, a8⟩ := (Spec.appliesLoose_iff hfr).mp happ
  exact h p e ha hcs hk s m args below hfr ((Spec.appliesLoose_iff hfr).mpr ⟨a1, a2, a3, a4, a5, a6, sx_hasRoom h9 a7, a8⟩) hP hK
theorem sx_moreI {l : Launch} {y : MethodName} {ws : List Cond} {rm rm2 : Room} {X : sx_X} {av : List Value} {W0 : va_W} {post : Int32 → va_W → Prop} {mc ms : Nat} (h : sx_Mi l y ws rm X av W0 post mc ms) (h9 : rm.frames ≤ rm2.frames ∧ rm.locals ≤ rm2.locals ∧ rm.cells ≤ rm2.cells ∧ rm.slots ≤ rm2.slots) : sx_Mi l y ws rm2 X av W0 post mc ms := fun sz => sx_more (h sz) h9
theorem sx_moreV {l : Launch} {y : MethodName} {ws : List Cond} {rm rm2 : Room} {X : sx_X} {av : List Value} {W0 : va_W} {post : va_W → Prop} {mc ms : Nat} (h : sx_Mv l y ws rm X av W0 post mc ms) (h9 : rm.frames ≤ rm2.frames ∧ rm.locals ≤ rm2.locals ∧ rm.cells ≤ rm2.cells ∧ rm.slots ≤ rm2.slots) : sx_Mv l y ws rm2 X av W0 post mc ms := fun sz => sx_more (h sz) h9
/-- a number of a few, or none of them -/
theorem sx_pick (a : Int32) (m : Nat) (hm : m < 2 ^ 30) : (a.toInt < 0 ∨ (m : Int) < a.toInt) ∨ ∃ k : Nat, k ≤ m ∧ a = nI k := by
  by_cases h1 : a.toInt < 0
  · exact Or.inl (Or.inl h1)
  · by_cases h2 : (m : Int) < a.toInt
    · exact Or.inl (Or.inr h2)
    · obtain ⟨h3, h4, h5⟩ := sx_of (x := a) (by omega)
      exact Or.inr ⟨_, by omega, h3⟩
theorem sx_isSet_of {n : Nat} {x : Int32} (h : ¬ sx_isSet n x = 0) : ∃ s : Nat, 1 ≤ s ∧ s < 2 ^ n ∧ x = nI s := by
  unfold sx_isSet at h
  by_cases hc : 0 < x.toInt ∧ x.toInt < (2 ^ n : Nat)
  · obtain ⟨h3, h4, h5⟩ := sx_of (x := x) (by omega)
    exact ⟨_, by omega, by omega, h3⟩
  · rw [if_neg hc] at h; exact absurd rfl h
theorem up_le {f : Nat → Nat} {k v b : Nat} (h : ∀ j, f j ≤ b) (hv : v ≤ b) : ∀ j, va_up f k v j ≤ b := fun j => by
  unfold va_up; split
  · exact hv
  · exact h j
theorem up_lt {f : Nat → Nat} {k v b : Nat} (h : ∀ j, f j < b) (hv : v < b) : ∀ j, va_up f k v j < b := fun j => by
  unfold va_up; split
  · exact hv
  · exact h j
theorem cT_congr {ln ln2 : Nat → Nat} {lk lk2 : Nat → Nat → Nat} {K B : Nat → Nat} {n : Nat} (hn : n ≤ 9) (h1 : ∀ i, i < n → ln2 i = ln i) (h2 : ∀ f, f < 2 * n → ∀ t, t < 2 * n → lk2 f t = lk f t) (h : cT ln lk K B (2 ^ n)) : cT ln2 lk2 K B (2 ^ n) := by
  intro s s1 s2
  obtain ⟨h3, h4⟩ := h s s1 s2
  refine ⟨fun t ht hb => ?_, h4⟩
  have ht2 := sx_bitn0 n (by omega) s s2 (t / 2) (by omega) hb
  obtain ⟨h5, h6⟩ := h3 t ht hb
  refine ⟨?_, h6⟩
  rw [h5, h1 _ ht2]
  have e : cLB lk2 K (sx_diff s (2 ^ (t / 2))) t = cLB lk K (sx_diff s (2 ^ (t / 2))) t := by
    unfold cLB
    by_cases h0 : sx_diff s (2 ^ (t / 2)) = 0
    · rw [if_pos h0, if_pos h0]
    · rw [if_neg h0, if_neg h0]
      unfold cBv
      refine sx_mn_congr (fun b hb9 hp => ?_)
      have hle := sx_diff_le s (2 ^ (t / 2))
      have hb2 := sx_bitn0 n (by omega) _ (show sx_diff s (2 ^ (t / 2)) < 2 ^ n by omega) (b / 2) (by omega) hp
      show lk2 t b + _ = lk t b + _
      rw [h2 t (by omega) b (by omega)]
  rw [e]
theorem sx_xor1 : ∀ f, f < 18 → f ^^^ 1 = (if f % 2 = 0 then f + 1 else f - 1) := by decide +kernel
theorem sx_xor1e {n : Nat} (h : n < 9) : (2 * n) ^^^ 1 = 2 * n + 1 := by
  rw [sx_xor1 _ (by omega), if_pos (by omega)]
theorem sx_xor1o {n : Nat} (h : n < 9) : (2 * n + 1) ^^^ 1 = 2 * n := by
  rw [sx_xor1 _ (by omega), if_neg (by omega)]; omega
theorem sx_xor1lt {n t : Nat} (hn : n ≤ 9) (h : t < 2 * n) : t ^^^ 1 < 2 * n := by
  rw [sx_xor1 _ (by omega)]; split <;> omega
theorem up2 {f : Nat → Nat} {n a c t : Nat} (h : t < 2 * n) : va_up (va_up f (2 * n) a) (2 * n + 1) c t = f t := by
  rw [va_up_ne _ _ (by omega), va_up_ne _ _ (by omega)]
theorem up2e (f : Nat → Nat) (n a c : Nat) : va_up (va_up f (2 * n) a) (2 * n + 1) c (2 * n) = a := by
  rw [va_up_ne _ _ (by omega), va_up_self]
theorem up2o (f : Nat → Nat) (n a c : Nat) : va_up (va_up f (2 * n) a) (2 * n + 1) c (2 * n + 1) = c := va_up_self _ _ _
theorem sLk_add {av : Nat → Nat → Nat} {n J a b c d f t : Nat} (hn : n ≤ 9) (hJ : J ≤ n) (hf : f < 2 * J) (ht : t < 2 * J) : sLk (sAdd av n a b c d) f t = sLk av f t := by
  have hx := sx_xor1lt (n := J) (by omega) hf
  have e8 : ∀ t, t < 2 * J → sAdd av n a b c d 8 t = av 8 t := fun t ht => up2 (f := av 8) (by omega)
  have e9 : ∀ t, t < 2 * J → sAdd av n a b c d 9 t = av 9 t := fun t ht => up2 (f := av 9) (by omega)
  have e10 : ∀ t, t < 2 * J → sAdd av n a b c d 10 t = av 10 t := fun t ht => up2 (f := av 10) (by omega)
  have e12 : sAdd av n a b c d 12 = av 12 := rfl
  unfold sLk sJ
  rw [e8 t ht, e8 _ hx, e9 t ht, e9 _ hx, e10 t ht, e10 f hf, e12]
theorem rTab_add {av : Nat → Nat → Nat} {n J a b c d : Nat} {v2 : Int32} {A13 A14 A15 A16 : Nat → Nat} (hn : n ≤ 9) (hJ : J ≤ n) (h : rTab av J v2 A13 A14 A15 A16) : rTab (sAdd av n a b c d) J v2 A13 A14 A15 A16 := by
  obtain ⟨h1, h2, h3, h4, h5, h6, h7⟩ := h
  have e11 : ∀ i, i < J → sAdd av n a b c d 11 i = av 11 i := fun i hi => va_up_ne (av 11) _ (by omega)
  refine ⟨h1, fun i hi => by rw [e11 i hi]; exact h2 i hi, h3, fun f hf t ht => by rw [sLk_add hn hJ hf ht]; exact h4 f hf t ht, h5, h6, ?_⟩
  exact cT_congr (by omega) e11 (fun f hf t ht => sLk_add hn hJ hf ht) h7
theorem sRel_add {sa ma : Nat → Nat → Nat} {n a b c d : Nat} (hn : n < 9) (h : sRel sa ma n) : sRel (sAdd sa n a b c d) (mAdd ma n a b c d) (n + 1) := by
  obtain ⟨h1, h2, h3⟩ := h
  have hdl := sx_dir_lt a b c d
  refine ⟨fun t ht => ?_, fun i hi => ?_, h3⟩
  · show va_up (va_up (sa 8) (2 * n) a) (2 * n + 1) c t = (if t % 2 = 0 then va_up (ma 1) n a (t / 2) else va_up (ma 3) n c (t / 2)) ∧ va_up (va_up (sa 8) (2 * n) a) (2 * n + 1) c (t ^^^ 1) = (if t % 2 = 0 then va_up (ma 3) n c (t / 2) else va_up (ma 1) n a (t / 2)) ∧ va_up (va_up (sa 9) (2 * n) b) (2 * n + 1) d t = (if t % 2 = 0 then va_up (ma 2) n b (t / 2) else va_up (ma 4) n d (t / 2)) ∧ va_up (va_up (sa 9) (2 * n) b) (2 * n + 1) d (t ^^^ 1) = (if t % 2 = 0 then va_up (ma 4) n d (t / 2) else va_up (ma 2) n b (t / 2)) ∧ va_up (va_up (sa 10) (2 * n) (sx_dir a b c d)) (2 * n + 1) ((sx_dir a b c d + 4) % 8) t = (va_up (ma 5) n (sx_dir a b c d) (t / 2) + 4 * (t % 2)) % 8
    by_cases e : t < 2 * n
    · have hx := sx_xor1lt (by omega) e
      rw [up2 e, up2 hx, up2 e, up2 hx, up2 e, va_up_ne _ _ (show t / 2 ≠ n by omega), va_up_ne _ _ (show t / 2 ≠ n by omega), va_up_ne _ _ (show t / 2 ≠ n by omega), va_up_ne _ _ (show t / 2 ≠ n by omega), va_up_ne _ _ (show t / 2 ≠ n by omega)]
      exact h1 t e
    · by_cases e2 : t = 2 * n
      · subst e2
        have e3 : 2 * n / 2 = n := by omega
        have e4 : 2 * n % 2 = 0 := by omega
        rw [sx_xor1e hn, up2e, up2o, up2e, up2o, up2e, e3, e4, if_pos rfl, if_pos rfl, if_pos rfl, if_pos rfl, va_up_self, va_up_self, va_up_self, va_up_self, va_up_self]
        exact ⟨rfl, rfl, rfl, rfl, by omega⟩
      · have e5 : t = 2 * n + 1 := by omega
        subst e5
        have e3 : (2 * n + 1) / 2 = n := by omega
        have e4 : ¬ (2 * n + 1) % 2 = 0 := by omega
        have e6 : (2 * n + 1) % 2 = 1 := by omega
        rw [sx_xor1o hn, up2e, up2o, up2e, up2o, up2o, e3, if_neg e4, if_neg e4, if_neg e4, if_neg e4, e6, va_up_self, va_up_self, va_up_self, va_up_self, va_up_self]
        exact ⟨rfl, rfl, rfl, rfl, by omega⟩
  · show va_up (sa 11) n (sx_piece (sx_far c a) (sx_far d b)) i = va_up (ma 6) n (sx_piece (sx_far a c) (sx_far b d)) i
    by_cases e : i = n
    · subst e; rw [va_up_self, va_up_self, sx_far_comm c a, sx_far_comm d b]
    · rw [va_up_ne _ _ e, va_up_ne _ _ e]; exact h2 i (by omega)
theorem sx_pf_le {a b c d : Nat} (ha : a ≤ 9) (hb : b ≤ 9) (hc : c ≤ 9) (hd : d ≤ 9) : sx_piece (sx_far a c) (sx_far b d) ≤ 126 :=
  sx_piece_le (by have := sx_far_le a c 10 (by omega) (by omega); omega) (by have := sx_far_le b d 10 (by omega) (by omega); omega)
theorem sG_add {av : Nat → Nat → Nat} {n a b c d : Nat} (ha : a ≤ 9) (hb : b ≤ 9) (hc : c ≤ 9) (hd : d ≤ 9) (h : sG av) : sG (sAdd av n a b c d) := by
  obtain ⟨h1, h2, h3, h4, h5, h6⟩ := h
  exact ⟨up_le (up_le h1 ha) hc, up_le (up_le h2 hb) hd, up_lt (up_lt h3 (sx_dir_lt a b c d)) (by omega), up_le h4 (sx_pf_le hc hd ha hb), h5, h6⟩
theorem mG_add {av : Nat → Nat → Nat} {n a b c d : Nat} (ha : a ≤ 9) (hb : b ≤ 9) (hc : c ≤ 9) (hd : d ≤ 9) (h : mG av) : mG (mAdd av n a b c d) := by
  obtain ⟨h1, h2, h3, h4, h5, h6, h7⟩ := h
  exact ⟨up_le h1 ha, up_le h2 hb, up_le h3 hc, up_le h4 hd, up_lt h5 (sx_dir_lt a b c d), up_le h6 (sx_pf_le ha hb hc hd), h7⟩
theorem sRel_price {sa ma : Nat → Nat → Nat} {n a v : Nat} (h : sRel sa ma n) : sRel (va_up sa 12 (va_up (sa 12) a v)) (va_up ma 7 (va_up (ma 7) a v)) n := by
  obtain ⟨h1, h2, h3⟩ := h
  refine ⟨h1, h2, fun j hj => ?_⟩
  show va_up (sa 12) a v j = va_up (ma 7) a v j
  by_cases e : j = a
  · subst e; rw [va_up_self, va_up_self]
  · rw [va_up_ne _ _ e, va_up_ne _ _ e]; exact h3 j hj
/-- a table over no stroke: bounds alone -/
theorem rTab_0 {av av2 : Nat → Nat → Nat} {J : Nat} {v2 : Int32} {A13 A14 A15 A16 : Nat → Nat} (h : rTab av J v2 A13 A14 A15 A16) : rTab av2 0 v2 A13 A14 A15 A16 := by
  obtain ⟨h1, h2, h3, h4, h5, h6, h7⟩ := h
  exact ⟨Or.inl rfl, fun i hi => absurd hi (Nat.not_lt_zero _), h3, fun f hf => absurd hf (Nat.not_lt_zero _), h5, h6, fun s s1 s2 => absurd s2 (by omega)⟩
/-- the split at hand -/
def RelS (sc : Nat → Int32) (av : Nat → Nat → Nat) (sm : Nat → Int32) (am : Nat → Nat → Nat) : Prop :=
  (sc 5 = -1 ∧ sm 3 = nI 0) ∨ ∃ m : Nat, m ≤ 9 ∧ sc 5 = nI m ∧ sm 3 = nI 1 ∧ sm 4 = nI m ∧ sm 5 = nI (sx_sum (av 21) m) ∧ ∀ j, j < m → av 19 j = am 11 j ∧ av 20 j = am 12 j ∧ av 21 j = am 13 j
def Rel (n J lg : Nat) (sc : Nat → Int32) (av : Nat → Nat → Nat) (sm : Nat → Int32) (am : Nat → Nat → Nat) : Prop :=
  (n ≤ 9 ∧ J ≤ n ∧ sc 1 = nI n ∧ sm 0 = nI n ∧ sc 3 = nI (2 ^ J)) ∧ (1 ≤ lg ∧ lg ≤ 9999 ∧ sc 0 = nI lg ∧ sm 1 = nI lg) ∧ sG av ∧ mG am ∧ sRel av am n ∧ rTab av J (sc 2) (av 13) (av 14) (av 15) (av 16) ∧
  ((∀ j, am 8 j ≤ 2000000000) ∧ (∀ j, am 9 j ≤ 2000000000) ∧ (∀ j, am 10 j < 18) ∧ (∀ j, am 16 j < 512) ∧ (∀ j, am 17 j ≤ 99) ∧ (∀ j, am 18 j ≤ 2000000000) ∧ ∀ j, am 12 j ≤ 99999) ∧
  ((∀ j, av 17 j < 18) ∧ (∀ j, av 24 j ≤ 10000000) ∧ (∀ j, av 20 j ≤ 4095) ∧ ∀ j, av 21 j ≤ 1100000) ∧ RelS sc av sm am
theorem cPth_all {lk : Nat → Nat → Nat} {K B : Nat → Nat} {n s : Nat} {R : Nat → Nat} : ∀ {k left : Nat}, cPth lk K B n s R k left → ∀ j, j < k → R j < 2 * n := by
  intro k
  induction k with
  | zero => intro left _ j hj; exact absurd hj (Nat.not_lt_zero _)
  | succ k ih =>
    intro left h j hj
    obtain ⟨l0, h1, h2⟩ := h
    by_cases e : j = k
    · subst e
      exact h2.2.1.1
    · exact ih h1 j (by omega)
theorem mSpl_one {F : Nat → Nat} {all : Nat} {S S2 : Nat → Nat} : ∀ {k r r2 : Nat}, mSpl F all S k r → mSpl F all S2 k r2 → r = r2 ∧ ∀ j, j < k → S j = S2 j := by
  intro k
  induction k with
  | zero => intro r r2 h h2; exact ⟨h.trans h2.symm, fun j hj => absurd hj (Nat.not_lt_zero _)⟩
  | succ k ih =>
    intro r r2 h h2
    obtain ⟨r0, a1, a2, a3, a4⟩ := h
    obtain ⟨q0, b1, b2, b3, b4⟩ := h2
    obtain ⟨e, hj⟩ := ih a1 b1
    subst e
    have es : S k = S2 k := a3.trans b3.symm
    refine ⟨by rw [a4, b4, es], fun j hj9 => ?_⟩
    by_cases e : j = k
    · subst e; exact es
    · exact hj j (by omega)
theorem cSpl_in {av : Nat → Nat → Nat} {B U : Nat → Nat} {lg all : Nat} {S : Nat → Nat} : ∀ {k left : Nat}, cSpl av B U lg all S k left → left ≤ all ∧ ∀ j, j < k → ¬ S j = 0 ∧ S j ≤ all := by
  intro k
  induction k with
  | zero => intro left h; exact ⟨Nat.le_of_eq h, fun j hj => absurd hj (Nat.not_lt_zero _)⟩
  | succ k ih =>
    intro left h
    obtain ⟨l0, h1, h2, h3, h4⟩ := h
    obtain ⟨i1, i2⟩ := ih h1
    have hok : sx_diff (S k) l0 = 0 ∧ ¬ S k &&& sx_low l0 = 0 := by
      rcases Classical.em (sx_diff (S k) l0 = 0 ∧ ¬ S k &&& sx_low l0 = 0) with q | q
      · exact q
      · exact absurd (by unfold cOk; rw [if_neg q]) h3.1
    have hle := sx_sub_le hok.1
    have hne : ¬ S k = 0 := fun q => hok.2 (by rw [q]; exact Nat.zero_and _)
    refine ⟨by rw [h4]; exact Nat.le_trans (sx_diff_le _ _) i1, fun j hj => ?_⟩
    by_cases e : j = k
    · subst e; exact ⟨hne, by omega⟩
    · exact i2 j (by omega)
/-- a jump has a length, a bend has none -/
theorem link_jump {sa ma : Nat → Nat → Nat} {n f t : Nat} (h : sRel sa ma n) (hg : mG ma) (hf : f < 2 * n) (ht : t < 2 * n) : (if sLk sa f t % 4096 = 0 then 0 else 1) = mJ ma f t := by
  rw [sLk_eq h hf ht]
  obtain ⟨g1, g2, g3, g4, -⟩ := hg
  have x1 : mXe ma f ≤ 9 := by unfold mXe; split; exact g3 _; exact g1 _
  have x2 : mXb ma t ≤ 9 := by unfold mXb; split; exact g1 _; exact g3 _
  have x3 : mYe ma f ≤ 9 := by unfold mYe; split; exact g4 _; exact g2 _
  have x4 : mYb ma t ≤ 9 := by unfold mYb; split; exact g2 _; exact g4 _
  have hle := sx_pf_le x1 x3 x2 x4
  by_cases h0 : mJ ma f t = 0
  · have e : mLl ma f t = 0 := by unfold mLl; rw [if_pos h0]
    rw [e, h0, if_pos (by omega)]
  · have e : mLl ma f t = sx_piece (sx_far (mXe ma f) (mXb ma t)) (sx_far (mYe ma f) (mYb ma t)) := by unfold mLl; rw [if_neg h0]
    have e1 : mJ ma f t = 1 := by unfold mJ sx_jmp at h0 ⊢; split; (rename_i q; rw [if_pos q] at h0; exact absurd rfl h0); rfl
    have hpos : 0 < sx_piece (sx_far (mXe ma f) (mXb ma t)) (sx_far (mYe ma f) (mYb ma t)) := by
      have hne : ¬ (mXe ma f = mXb ma t ∧ mYe ma f = mYb ma t) := fun q => h0 (by unfold mJ sx_jmp; rw [if_pos q])
      unfold sx_piece sx_far
      (repeat' split) <;> omega
    rw [e, e1, if_neg (by omega)]
