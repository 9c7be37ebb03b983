/-! MORE ROWS OF MY OWN: static tables, wide constants, arraycopy -/
section SXS
variable {l : Launch} {X : sx_X} {G : sx_g} {cc : ByteArray} {own : String} {Ts : List Cond} {rm : Room} {kc ks pc : Nat} {lv : List (Nat × Value)} {st : List Value} {ws : va_W}
theorem sx_cmpGet (hG : sx_ok l X G cc own Ts rm) {index : Nat} (hm : Cond.fieldLink own index "TubeShop$Sign" "COMPASS" "[I" ∈ Ts) (hd : decode cc pc = .ok (.getstatic index, 3)) (kk : sx_W l X G kc ks (pc + 3) lv (.ref X.2.2.1 :: st) ws) : sx_W l X G kc ks (pc) lv (st) ws := by
  obtain ⟨D, cI, tC, tA⟩ := X
  obtain ⟨p, e, R, s, m, args, below, meth, c, Q, A, nL⟩ := G
  obtain ⟨hx, hb, hml, hown, hts, hK, hA, rfl, hE⟩ := hG
  intro H locs ls hP hD hS hl
  exact va_gets hx hb hE.2.1 hS hown (hts _ hm) (fun _ h => h) hd (kk H locs ls hP hD hS hl)
theorem sx_cmpLd (hG : sx_ok l X G cc own Ts rm) {k : Nat} {v : Int32} (hd : decode cc pc = .ok (.iaload, 1)) (hk : k < 9) (hv : sx_compass k = .int v) (kk : sx_W l X G kc ks (pc + 1) lv (.int v :: st) ws) : sx_W l X G kc ks (pc) lv (.int (nI k) :: .ref X.2.2.1 :: st) ws := by
  obtain ⟨D, cI, tC, tA⟩ := X
  obtain ⟨p, e, R, s, m, args, below, meth, c, Q, A, nL⟩ := G
  obtain ⟨hx, hb, hml, hown, hts, hK, hA, rfl, hE⟩ := hG
  intro H locs ls hP hD hS hl
  exact va_ti hx hb hE.2.2.1 hS (vp_in_nI hk (by decide)) (by rw [nI_clamp (Nat.lt_trans hk (by decide))]; exact hv) hd (kk H locs ls hP hD hS hl)
theorem sx_ldcw (hG : sx_ok l X G cc own Ts rm) {index : Nat} {v v2 : Int32} (hm : Cond.constant own index v ∈ Ts) (hd : decode cc pc = .ok (.ldc_w index, 3)) (hv : v = v2) (kk : sx_W l X G kc ks (pc + 3) lv (.int v2 :: st) ws) : sx_W l X G kc ks (pc) lv (st) ws := by
  obtain ⟨D, cI, tC, tA⟩ := X
  obtain ⟨p, e, R, s, m, args, below, meth, c, Q, A, nL⟩ := G
  obtain ⟨hx, hb, hml, hown, hts, hK, hA, rfl, hE⟩ := hG
  intro H locs ls hP hD hS hl
  subst hv; exact lv_ldcw hx hb hown (hts _ hm) hd (kk H locs ls hP hD hS hl)
theorem sx_copy (hG : sx_ok l X G cc own Ts rm) (q0 q1 : Nat) {index a0 a1 n0 n1 cn : Nat} {f g : Nat → Nat} {w2 : va_W} (hm : Cond.methodLink own index arraycopyName ∈ Ts ∧ Cond.native arraycopyName ∈ Ts ∧ Cond.static arraycopyName ∈ Ts ∧ Cond.initialized "java/lang/System" ∈ Ts) (hd : decode cc pc = .ok (.invokestatic index, 3)) (ha0 : ws[q0]? = some (a0, .inl (X.2.1, n0, .inl (fun j => nI (f j))))) (ha1 : ws[q1]? = some (a1, .inl (X.2.1, n1, .inl (fun j => nI (g j))))) (hc : cn < 2 ^ 31) (h0 : cn ≤ n0) (h1 : cn ≤ n1) (hr1 : 1 ≤ rm.frames) (hr2 : (st.map fun v => v.category).sum + (nativeFrameWords "java/lang/System" "arraycopy" 5 + 11) ≤ rm.locals) (hw : ws.set q1 (a1, .inl (X.2.1, n1, .inl (fun j => nI (va_cpy f g 0 0 cn j)))) = w2) (kk : sx_W l X G kc ks (pc + 3) lv (st) w2) : sx_W l X G kc ks (pc) lv (.int (nI cn) :: .int (nI 0) :: .ref a1 :: .int (nI 0) :: .ref a0 :: st) ws := by
  obtain ⟨D, cI, tC, tA⟩ := X
  obtain ⟨p, e, R, s, m, args, below, meth, c, Q, A, nL⟩ := G
  obtain ⟨hx, hb, hml, hown, hts, hK, hA, rfl, hE⟩ := hG
  intro H locs ls hP hD hS hl
  subst hw
  have hz : (nI 0).toNatClampNeg = 0 := nI_clamp (by decide)
  have hcc : (nI cn).toNatClampNeg = cn := nI_clamp hc
  refine va_copyi hx hb (by rw [hml]; exact hl.1.symm) hown (hts _ hm.1) (hts _ hm.2.1) (hts _ hm.2.2.1) (hts _ hm.2.2.2) hK hP hD hS q0 q1 0 0 ha0 ha1 rfl rfl rfl (nI_pos (by decide)) (nI_pos (by decide)) (nI_pos hc) (by rw [hz, hcc]; omega) (by rw [hz, hcc]; omega) (fun i _ => rfl) hr1 hr2 hd (fun H1 locs1 hP1 hD1 hS1 => ?_)
  rw [hz, hcc] at hP1 hD1
  have e : va_cpy (fun j => nI (f j)) (fun j => nI (g j)) 0 0 cn = fun j => nI (va_cpy f g 0 0 cn j) := by
    funext j
    unfold va_cpy
    by_cases h : 0 ≤ j ∧ j < 0 + cn
    · rw [if_pos h, if_pos h]
    · rw [if_neg h, if_neg h]
  rw [e] at hP1 hD1
  exact kk H1 locs1 ls hP1 hD1 hS1 hl
end SXS
