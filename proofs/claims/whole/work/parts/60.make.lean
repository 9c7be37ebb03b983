/-! ROWS OF MY OWN: making objects and arrays; the clone of a static array -/
def sx_first7 : Nat → Nat := fun j => [0, 1, 2, 4, 8, 5, 1].getD j 0
theorem sx_first_eq : ∀ j, j < 7 → sx_first j = .int (nI (sx_first7 j)) := fun j hj => by
  rcases (show j = 0 ∨ j = 1 ∨ j = 2 ∨ j = 3 ∨ j = 4 ∨ j = 5 ∨ j = 6 by omega) with rfl | rfl | rfl | rfl | rfl | rfl | rfl <;> rfl
/-- what is wanted of the static array that is cloned: its class, its seven numbers, that it isn't among the cells at hand (the class is what the start's premises don't say) -/
def sx_F (cI : ClassId) (tA : Nat) (A : Nat → Prop) (U : State) (H : Heap) : Prop :=
  (∃ cC : ClassId, U.vm.findClass "java/lang/Cloneable" = some cC ∧ U.vm.assignable cI cC = true) ∧ ∃ cell : Cell, H[tA]? = some cell ∧ cell.cls = cI ∧ cell.slots.size = 7 ∧ (∀ j, j < 7 → cell.slots[j]? = some (sx_first j)) ∧ cell.vm ≠ .unknown ∧ (∀ k, cell.vm ≠ .statics k) ∧ ¬ A tA
theorem sx_F.to {cI : ClassId} {A B : Nat → Prop} {tA : Nat} {s U : State} {H0 H : Heap} (h : sx_F cI tA A s H0) (hW : s.WarmedH U.vm) (hq : ∀ q : Nat, q < H0.size → ¬ A q → H[q]? = H0[q]?) (hB : ∀ q, B q → A q) : sx_F cI tA B U H := by
  obtain ⟨⟨cC, h1, h2⟩, cell, h3, h4, h5, h6, h7, h8, h9⟩ := h
  refine ⟨⟨cC, by rw [hW.alike.findClass]; exact h1, by rw [hW.alike.assignable]; exact h2⟩, cell, ?_, h4, h5, h6, h7, h8, fun q => h9 (hB _ q)⟩
  rw [hq tA (Array.getElem?_eq_some_iff.mp h3).1 h9]; exact h3
def sx_Fg (X : sx_X) (G : sx_g) : Prop :=
  match X, G with
  | (D, cI, tC, tA), (p, e, R, s, m, args, below, meth, c, Q, A, nL) => sx_F cI tA A s s.heap
def sx_PreF (X : sx_X) (av : List Value) (W0 : va_W) (sz : Nat) : Array Value → State → Prop :=
  va_Pc av (fun U => (U.heap.size = sz ∧ va_P X.1 vwCl W0 U.heap ∧ va_K X.1 vwCl [(X.2.1, .int)] U ∧ va_D (fun _ => True) W0 ∧ sx_E (va_A W0 sz) X.2.2.1 X.2.2.2 U U.heap) ∧ sx_F X.2.1 X.2.2.2 (va_A W0 sz) U U.heap)
def sx_MvF (l : Launch) (y : MethodName) (ws : List Cond) (rm : Room) (X : sx_X) (av : List Value) (W0 : va_W) (post : va_W → Prop) (mc ms : Nat) : Prop :=
  ∀ sz : Nat, Met l y ws rm (sx_PreF X av W0 sz) (va_Qv post (sx_B X (va_A W0 sz)) (va_A W0 sz)) mc ms (va_A W0 sz)
theorem sx_blindF (X : sx_X) (av : List Value) (W0 : va_W) (sz : Nat) : FrameBlind (sx_PreF X av W0 sz) := by
  intro a U g mk q
  obtain ⟨q0, ⟨q1, qP, qK, qD, qE⟩, qF⟩ := q
  exact ⟨q0, ⟨q1, qP, va_K.moved (u := U) (U := U.calling g mk a) (Vm.Alike.refl U.vm) qK, qD, qE.same rfl⟩, qF⟩
theorem sx_entVF {l : Launch} {y : MethodName} {cc : ByteArray} {nL : Nat} {ws ws' : List Cond} {rm : Room} {X : sx_X} {av : List Value} {W0 : va_W} {post : va_W → Prop} {mc ms : Nat} {own : String} (hy : plainName y.cls = true) (ho : y.cls = own) (hw : ws = Cond.code y cc nL none :: ws') (hav : (lg_sl av).length ≤ nL)
    (body : ∀ G : sx_g, sx_ok l X G cc own ws rm → G.2.2.2.2.2.2.2.2.2.2.2 = nL → (y.name = "<init>" → G.2.2.2.2.2.2.2.1.name = "<init>") → sx_Fg X G → (∀ (pc : Nat) (lv : List (Nat × Value)) (w : va_W), decode cc pc = .ok (.return_, 1) → post w → sx_W l X G mc ms pc lv [] w) → sx_W l X G 0 0 0 (lv_args 0 av) [] W0) :
    sx_MvF l y ws rm X av W0 post mc ms := by
  intro sz
  refine Met.ofW (cc := cc) (maxL := nL) (ret := none) hy hw ?_
  intro p e s m args below meth c s₁ B hml hv
  obtain ⟨rfl, ⟨hsz, hP, hK, hD0, hE⟩, hF⟩ := hv
  have hown : s.vm.findClass own = some m.cls := by rw [← ho]; exact findClass_of_methodNamed B.named
  have hts := atoms_spec (ws := ws) B.pre
  have hx := B.exec
  have hb := B.bytes
  have hr := B.returns
  have hlocks := B.notSynchronized
  have hnm := (name_of_methodNamed B.named B.method).1
  subst hsz
  obtain ⟨D, cI, tC, tA⟩ := X
  have hD := hD0.self (sz := s.heap.size)
  have hb2 := body (p, e, (headSpec ws rm).room, s, m, av.toArray, below, meth, c, MQ below (va_Qv post (sx_B (D, cI, tC, tA) (va_A W0 s.heap.size)) (va_A W0 s.heap.size)) av.toArray s mc ms (va_A W0 s.heap.size), va_A W0 s.heap.size, nL)
    ⟨hx, hb, hml, hown, hts, hK, fun q h => Or.inr h, rfl, hE⟩ rfl (fun h => hnm.trans h) hF
    (fun pc lv w hd hp H locs ls hP1 hD1 hS1 hl => W.vret hx hb hr (fun t ht hW => ⟨⟨w, rfl, hp, by show va_P _ _ _ t.heap; rw [ht]; exact hP1, va_K.moved hW.alike hK, hD1⟩, hS1.F ht⟩) hS1.2.2 hd)
  rw [lg_entry_eq]
  exact hb2 s.heap [] _ hP hD va_S.rf (lv_entry av hav)
section SXM
variable {l : Launch} {X : sx_X} {G : sx_g} {cc : ByteArray} {own : String} {Ts : List Cond} {rm : Room} {kc ks pc : Nat} {lv : List (Nat × Value)} {st : List Value} {ws : va_W}
theorem sx_objInit (hG : sx_ok l X G cc own Ts rm) {index a : Nat} (hm : Cond.methodLink own index objectInit ∈ Ts ∧ Cond.instanceMethod objectInit ∈ Ts ∧ Cond.code objectInit ⟨#[0xb1]⟩ 1 none ∈ Ts) (hd : decode cc pc = .ok (.invokespecial index, 3)) (hR : 1 ≤ rm.frames ∧ (st.map fun v => v.category).sum + 12 ≤ rm.locals) (kk : sx_W l X G kc ks (pc + 3) lv st ws) : sx_W l X G kc ks pc lv (.ref a :: st) ws := by
  obtain ⟨D, cI, tC, tA⟩ := X
  obtain ⟨p, e, R, s, m, args, below, meth, c, Q, A, nL⟩ := G
  obtain ⟨hx, hb, hml, hown, hts, hK, hA, rfl, hE⟩ := hG
  intro H locs ls hP hD hS hl
  exact W.objInit hx hb hown (hts _ hm.1) (hts _ hm.2.1) (hts _ hm.2.2) rfl (by rw [hml]; exact hl.1) rfl hd hR.1 (by have h9 := hR.2; show 2 * 0 + _ + 12 ≤ _; omega) (kk H locs ls hP hD hS hl)
theorem sx_new (hG : sx_ok l X G cc own Ts rm) {C : String} {T : u_T} {N ci index : Nat} (hin : ∀ w ∈ u_ws C T N, w ∈ Ts) (ty : Nat → FieldType) (hty : ∀ k, k < N → parseFieldDescriptor (T k).2.2.1 = some (ty k)) (hm : Cond.classLink own index C ∈ Ts ∧ Cond.instantiable C N ∈ Ts ∧ Cond.initialized C ∈ Ts) (hc : vwCl[ci]? = some (C, T, N)) {fs : List Value} (hfs : ∀ j, j < N → defaultValue (ty j) = vp_V fs j) (hroom : kc + 1 ≤ rm.cells ∧ ks + N ≤ rm.slots) (hd : decode cc pc = .ok (.new index, 3)) (kk : ∀ q : Nat, sx_W l X G (kc + 1) (ks + N) (pc + 3) lv (.ref q :: st) (ws ++ [(q, .inr (ci, fs))])) : sx_W l X G kc ks pc lv st ws := by
  obtain ⟨D, cI, tC, tA⟩ := X
  obtain ⟨p, e, R, s, m, args, below, meth, c, Q, A, nL⟩ := G
  obtain ⟨hx, hb, hml, hown, hts, hK, hA, rfl, hE⟩ := hG
  intro H locs ls hP hD hS hl
  exact va_new hx hb hts hin ty hty hown (hts _ hm.1) (hts _ hm.2.1) (hts _ hm.2.2) hK hP hD hS hA hc hfs hroom.1 hroom.2 hd (fun q H1 hP1 hD1 hS1 => kk q H1 locs ls hP1 hD1 hS1 hl)
theorem sx_newI (hG : sx_ok l X G cc own Ts rm) {N : Nat} (hm : Cond.arrayClass .int ∈ Ts) (hN : N < 2 ^ 20) (hroom : kc + 1 ≤ rm.cells ∧ ks + N ≤ rm.slots) (hd : decode cc pc = .ok (.newarray .int, 2)) (kk : ∀ q : Nat, sx_W l X G (kc + 1) (ks + N) (pc + 2) lv (.ref q :: st) (ws ++ [(q, .inl (X.2.1, N, .inl (fun _ => nI 0)))])) : sx_W l X G kc ks pc lv (.int (nI N) :: st) ws := by
  obtain ⟨D, cI, tC, tA⟩ := X
  obtain ⟨p, e, R, s, m, args, below, meth, c, Q, A, nL⟩ := G
  obtain ⟨hx, hb, hml, hown, hts, hK, hA, rfl, hE⟩ := hG
  intro H locs ls hP hD hS hl
  refine va_newa (atype := .int) (ty := .int) (a0 := (N, .inl (fun _ => nI 0))) hx hb (hts _ hm) rfl hK hP hD hS hA (fun cA => rfl) (nI_pos (by omega)) (nI_clamp (by omega)) (by show N * 4 ≤ _; omega) hroom.1 hroom.2 hd (fun q cA H1 hK1 hP1 hD1 hS1 => ?_)
  have e1 : s.vm.findClass ("[" ++ FieldType.int.toString) = some cA := (hK1.2 1 (cA, .int) rfl).2
  have e2 : s.vm.findClass ("[" ++ FieldType.int.toString) = some cI := (hK.2 0 (cI, .int) rfl).2
  have e3 : cA = cI := Option.some.inj (e1.symm.trans e2)
  subst e3
  exact kk q H1 locs ls hP1 hD1 hS1 hl
theorem sx_fstGet (hG : sx_ok l X G cc own Ts rm) {index : Nat} (hm : Cond.fieldLink own index "TubeShop$PriceList" "AT_FIRST" "[I" ∈ Ts) (hd : decode cc pc = .ok (.getstatic index, 3)) (kk : sx_W l X G kc ks (pc + 3) lv (.ref X.2.2.2 :: st) ws) : sx_W l X G kc ks (pc) lv (st) ws := by
  obtain ⟨D, cI, tC, tA⟩ := X
  obtain ⟨p, e, R, s, m, args, below, meth, c, Q, A, nL⟩ := G
  obtain ⟨hx, hb, hml, hown, hts, hK, hA, rfl, hE⟩ := hG
  intro H locs ls hP hD hS hl
  exact va_gets hx hb hE.2.2.2.1 hS hown (hts _ hm) (fun _ h => h) hd (kk H locs ls hP hD hS hl)
theorem sx_castI (hG : sx_ok l X G cc own Ts rm) (q0 : Nat) {index a : Nat} {x : vp_A} (hm : Cond.classLink own index "[I" ∈ Ts) (ha : ws[q0]? = some (a, .inl (X.2.1, x))) (hd : decode cc pc = .ok (.checkcast index, 3)) (kk : sx_W l X G kc ks (pc + 3) lv (.ref a :: st) ws) : sx_W l X G kc ks (pc) lv (.ref a :: st) ws := by
  obtain ⟨D, cI, tC, tA⟩ := X
  obtain ⟨p, e, R, s, m, args, below, meth, c, Q, A, nL⟩ := G
  obtain ⟨hx, hb, hml, hown, hts, hK, hA, rfl, hE⟩ := hG
  intro H locs ls hP hD hS hl
  exact va_castA hx hb hown (hts _ hm) hP q0 ha (hK.2 0 (cI, .int) rfl).2 hd (kk H locs ls hP hD hS hl)
theorem sx_cloneF (hG : sx_ok l X G cc own Ts rm) (hF : sx_Fg X G) {index : Nat} (hm : Cond.methodLink own index ⟨"[I", "clone", "()Ljava/lang/Object;"⟩ ∈ Ts ∧ Cond.sameMethod "[I" "java/lang/Object" "clone" "()Ljava/lang/Object;" ∈ Ts ∧ Cond.native ⟨"java/lang/Object", "clone", "()Ljava/lang/Object;"⟩ ∈ Ts ∧ Cond.instanceMethod ⟨"java/lang/Object", "clone", "()Ljava/lang/Object;"⟩ ∈ Ts ∧ Cond.selects "[I" ⟨"[I", "clone", "()Ljava/lang/Object;"⟩ ⟨"java/lang/Object", "clone", "()Ljava/lang/Object;"⟩ ∈ Ts) (hR : 1 ≤ rm.frames ∧ (st.map fun v => v.category).sum + 14 ≤ rm.locals) (hroom : kc + 1 ≤ rm.cells ∧ ks + 7 ≤ rm.slots) (hd : decode cc pc = .ok (.invokevirtual index, 3)) (kk : ∀ q : Nat, sx_W l X G (kc + 1) (ks + 7) (pc + 3) lv (.ref q :: st) (ws ++ [(q, .inl (X.2.1, 7, .inl (fun j => nI (sx_first7 j))))])) : sx_W l X G kc ks (pc) lv (.ref X.2.2.2 :: st) ws := by
  obtain ⟨D, cI, tC, tA⟩ := X
  obtain ⟨p, e, R, s, m, args, below, meth, c, Q, A, nL⟩ := G
  obtain ⟨hx, hb, hml, hown, hts, hK, hA, rfl, hE⟩ := hG
  intro H locs ls hP hD hS hl
  obtain ⟨⟨cC, hC, hasg⟩, cell, hc0, hcls, hsz, hel, hunk, hst9, hnA⟩ := hF
  have hcH : H[tA]? = some cell := by rw [hS.2.1 tA (Array.getElem?_eq_some_iff.mp hc0).1 hnA]; exact hc0
  have hnm : s.vm.findClass "[I" = some cell.cls := by rw [hcls]; exact (hK.2 0 (cI, .int) rfl).2
  have hE9 : ({ cls := cell.cls, slots := cell.slots } : Cell) = vp_cell cI (7, .inl (fun j => nI (sx_first7 j))) := by
    have hs : cell.slots = (arrV cI 7 (fun j => .int (nI (sx_first7 j)))).slots := Array.ext_getElem? (fun i => by
      by_cases h : i < 7
      · rw [hel i h, arrV_read _ _ h, sx_first_eq i h]
      · rw [Array.getElem?_eq_none (by omega), Array.getElem?_eq_none (by rw [arrV_size]; omega)])
    rw [hcls, hs]; rfl
  intro T hT X0
  have hcellT : T.heap[tA]? = some cell := by rw [hT]; exact hcH
  obtain ⟨-, kA, hkA, comp, hkind⟩ := State.isArrayOf_alike X0.warmed.alike ((hK.2 0 (cI, .int) rfl).1 0 (fun _ => .null))
  obtain ⟨-, kS, hkS, compS, hkindS⟩ := (hK.2 0 (cI, .int) rfl).1 0 (fun _ => .null)
  obtain ⟨vm', X', stp⟩ := X0.cloneArray hx hown (hts _ hm.1) (hts _ hm.2.1) (hts _ hm.2.2.1) (hts _ hm.2.2.2.1) (hts _ hm.2.2.2.2) (a := tA) (cell := cell) hcellT hst9 hunk hnm hC (by rw [hcls]; exact hasg)
    (fun i v hv => by
      have hi : i < 7 := by
        rcases Nat.lt_or_ge i 7 with q | q
        · exact q
        · rw [Array.getElem?_eq_none (by omega)] at hv; cases hv
      rw [hel i hi, sx_first_eq i hi] at hv
      cases hv
      rw [hcls]
      have hk' : T.vm.classes[cI]? = some kA := hkA
      simp [State.fitsSlot, State.slotType?, hk', hkind, fits])
    (g := F0 m pc ls (.ref tA :: st)) rfl (by rw [hml]; exact hl.1) rfl (by rw [hb]; exact hd) hR.1 (by have h9 := hR.2; show 2 * 0 + _ + 14 ≤ _; omega) hroom.1 (by rw [hsz]; exact hroom.2) (hloader := by rw [hcls]; exact Vm.clonesLoader_of_array hkS hkindS)
  rw [hE9, hsz] at X'
  generalize hH1 : H.push (vp_cell cI (7, .inl (fun j => nI (sx_first7 j)))) = H1
  have z1 : H1.size = H.size + 1 := by rw [← hH1, Array.size_push]
  have e1 : H1[H.size]? = some (vp_cell cI (7, .inl (fun j => nI (sx_first7 j)))) := by rw [← hH1, Array.getElem?_push_size]
  have o1 : ∀ q : Nat, q < H.size → H1[q]? = H[q]? := fun q hq => by rw [← hH1, Array.getElem?_push, if_neg (Nat.ne_of_lt hq)]
  have hk : ∀ (k : Nat) (y : Nat × va_E), ws[k]? = some y → H1[y.1]? = H[y.1]? := fun k y hy => o1 y.1 ((hP k y hy).lt)
  obtain ⟨t, b1, b2⟩ := kk H.size H1 locs ls ((hP.kept hk).app (fun k y hy => by
      have hz : k < 1 := (List.getElem?_eq_some_iff.mp hy).1
      rw [show k = 0 by omega] at hy
      cases hy
      exact e1)) (hD.push hP rfl (hA _ hS.1)) ⟨Nat.le_trans hS.1 (by omega), fun y h1 h2 => (o1 y (Nat.lt_of_lt_of_le h1 hS.1)).trans (hS.2.1 y h1 h2), hS.2.2⟩ hl
    ((T.setVm vm').pushCell (vp_cell cI (7, .inl (fun j => nI (sx_first7 j))))) (by rw [← hH1, ← hT]; rfl) X'
  refine ⟨t, stp t ?_, b2⟩
  rw [hE9, hT]
  exact b1
theorem sx_callIvF (hG : sx_ok l X G cc own Ts rm) (hF : sx_Fg X G) {y : MethodName} {wsY wsY2 : List Cond} {rmY : Room} {As : List Value} {post : va_W → Prop} {mc ms index maxL n9 : Nat} {bytes : ByteArray} {Wc wr : va_W} {b : Nat} (hM : sx_MvF l y wsY rmY X (.ref b :: As) Wc post mc ms) (hg : GoodIn Ts wsY) (hw : wsY = Cond.code y bytes maxL none :: wsY2) (hli : Cond.initialized y.cls ∈ Ts ∧ Cond.methodLink own index y ∈ Ts ∧ Cond.instanceMethod y ∈ Ts) (hyn : y.name = "<init>") (hd2 : y.cls ≠ "java/lang/invoke/MethodHandle" ∧ y.cls ≠ "java/lang/invoke/VarHandle" ∧ (parseMethodDescriptor y.desc).map (fun d => d.parameters.length) = some n9) (hn9 : As.length = n9) (hd : decode cc pc = .ok (.invokespecial index, 3)) (hrm : rmY.cells = mc ∧ rmY.slots = ms) (hRm : rmY.frames + 1 ≤ rm.frames ∧ 8 + (maxL + 11) + rmY.locals ≤ rm.locals) (hst : (st.map fun v => v.category).sum ≤ 8) (hroom : kc + mc ≤ rm.cells ∧ ks + ms ≤ rm.slots) (isC isR : List Nat) (hC : isC.map (fun i => ws[i]?) = Wc.map some) (hR2 : isR.map (fun i => ws[i]?) = wr.map some) (hndC : va_nd isC = true) (hnd : va_nd isR = true) (hdis : ∀ i ∈ isR, i ∉ isC) (kk : ∀ (w1 : va_W), post w1 → sx_W l X G (kc + mc) (ks + ms) (pc + 3) lv (st) (wr ++ w1)) : sx_W l X G kc ks (pc) lv (As.reverse ++ .ref b :: st) ws := by
  obtain ⟨D, cI, tC, tA⟩ := X
  obtain ⟨p, e, R, s, m, args, below, meth, c, Q, A, nL⟩ := G
  obtain ⟨hx, hb, hml, hown, hts, hK, hA, rfl, hE⟩ := hG
  have hF : sx_F cI tA A s s.heap := hF
  intro H locs ls hP hD hS hl
  have hPc := hP.sub (ws' := Wc) isC (by
    have e1 : isC.filterMap (fun i => ws[i]?) = (isC.map (fun i => ws[i]?)).filterMap id := by rw [List.filterMap_map]; rfl
    rw [e1, hC, List.filterMap_map]; simp)
  have hFc := va_free (wc := Wc) hD hS hA isC hC
  have hEc : ∀ U : State, U.heap = H → s.WarmedH U.vm → sx_E (va_A Wc H.size) tC tA U U.heap := fun U hU hW => hE.to hW (fun q h1 h2 => by rw [hU]; exact hS.2.1 q h1 h2) hFc
  have hFc2 : ∀ U : State, U.heap = H → s.WarmedH U.vm → sx_F cI tA (va_A Wc H.size) U U.heap := fun U hU hW => hF.to hW (fun q h1 h2 => by rw [hU]; exact hS.2.1 q h1 h2) hFc
  have hDt : va_D (fun _ => True) Wc := (hD.sub isC hndC hC).weaken (fun _ _ _ _ => trivial)
  refine va_callv (va_runI (As := As) (rest := st) ⟨hx, hb, hml, hown, hts⟩ (hM H.size) (cwI n9 hts hg hw hrm.1 hrm.2 (hts _ hli.1) (hts _ hli.2.1) (hts _ hli.2.2) hyn hd2 hRm) ⟨sx_blindF _ _ _ _, fun U hU hW => ⟨rfl, ⟨by rw [hU], by rw [hU]; exact hPc, va_K.moved hW.alike hK, hDt, hEc U hU hW⟩, hFc2 U hU hW⟩⟩ rfl hn9 hl.1 rfl (lv_room hst) hd hroom) hS (fun q _ h => hFc q h) hFc (fun w1 t H1 locs1 ht hvm hp hB hz1 hk1 hS1 => ?_)
  obtain ⟨hP1, hK1, hD1⟩ := hB
  rw [ht] at hP1
  obtain ⟨hP2, hD2⟩ := va_join (wr := wr) (w1 := w1) hP hD isC isR hC hR2 hnd hdis hk1 hFc hP1 hD1
  exact kk w1 hp H1 locs1 ls hP2 hD2 hS1 hl
theorem sx_callINvF (hG : sx_ok l X G cc own Ts rm) (hF : sx_Fg X G) {y : MethodName} {wsY wsY2 : List Cond} {rmY : Room} {As : List Value} {post : va_W → Prop} {mc ms index maxL n9 : Nat} {bytes : ByteArray} {Wc wr : va_W} {b : Nat} (hM : sx_MvF l y wsY rmY X (.ref b :: As) Wc post mc ms) {host : String} (hg : GoodIn Ts wsY) (hw : wsY = Cond.code y bytes maxL none :: wsY2) (hni : Cond.methodLinkNest own index y host ∈ sx_nest) (hli : Cond.initialized y.cls ∈ Ts ∧ Cond.instanceMethod y ∈ Ts) (hyn : y.name = "<init>") (hd2 : y.cls ≠ "java/lang/invoke/MethodHandle" ∧ y.cls ≠ "java/lang/invoke/VarHandle" ∧ (parseMethodDescriptor y.desc).map (fun d => d.parameters.length) = some n9) (hn9 : As.length = n9) (hd : decode cc pc = .ok (.invokespecial index, 3)) (hrm : rmY.cells = mc ∧ rmY.slots = ms) (hRm : rmY.frames + 1 ≤ rm.frames ∧ 8 + (maxL + 11) + rmY.locals ≤ rm.locals) (hst : (st.map fun v => v.category).sum ≤ 8) (hroom : kc + mc ≤ rm.cells ∧ ks + ms ≤ rm.slots) (isC isR : List Nat) (hC : isC.map (fun i => ws[i]?) = Wc.map some) (hR2 : isR.map (fun i => ws[i]?) = wr.map some) (hndC : va_nd isC = true) (hnd : va_nd isR = true) (hdis : ∀ i ∈ isR, i ∉ isC) (kk : ∀ (w1 : va_W), post w1 → sx_W l X G (kc + mc) (ks + ms) (pc + 3) lv (st) (wr ++ w1)) : sx_W l X G kc ks (pc) lv (As.reverse ++ .ref b :: st) ws := by
  obtain ⟨D, cI, tC, tA⟩ := X
  obtain ⟨p, e, R, s, m, args, below, meth, c, Q, A, nL⟩ := G
  obtain ⟨hx, hb, hml, hown, hts, hK, hA, rfl, hE⟩ := hG
  have hF : sx_F cI tA A s s.heap := hF
  intro H locs ls hP hD hS hl
  have hPc := hP.sub (ws' := Wc) isC (by
    have e1 : isC.filterMap (fun i => ws[i]?) = (isC.map (fun i => ws[i]?)).filterMap id := by rw [List.filterMap_map]; rfl
    rw [e1, hC, List.filterMap_map]; simp)
  have hFc := va_free (wc := Wc) hD hS hA isC hC
  have hEc : ∀ U : State, U.heap = H → s.WarmedH U.vm → sx_E (va_A Wc H.size) tC tA U U.heap := fun U hU hW => hE.to hW (fun q h1 h2 => by rw [hU]; exact hS.2.1 q h1 h2) hFc
  have hFc2 : ∀ U : State, U.heap = H → s.WarmedH U.vm → sx_F cI tA (va_A Wc H.size) U U.heap := fun U hU hW => hF.to hW (fun q h1 h2 => by rw [hU]; exact hS.2.1 q h1 h2) hFc
  have hDt : va_D (fun _ => True) Wc := (hD.sub isC hndC hC).weaken (fun _ _ _ _ => trivial)
  refine va_callv (va_runIN (As := As) (rest := st) ⟨hx, hb, hml, hown, hts⟩ (hM H.size) ⟨va_cnB n9 hts hg hw hrm.1 hrm.2 (hE.1 _ hni) (hts _ hli.1) hd2 hRm, hyn, hts _ hli.2⟩ ⟨sx_blindF _ _ _ _, fun U hU hW => ⟨rfl, ⟨by rw [hU], by rw [hU]; exact hPc, va_K.moved hW.alike hK, hDt, hEc U hU hW⟩, hFc2 U hU hW⟩⟩ rfl hn9 hl.1 rfl (lv_room hst) hd hroom) hS (fun q _ h => hFc q h) hFc (fun w1 t H1 locs1 ht hvm hp hB hz1 hk1 hS1 => ?_)
  obtain ⟨hP1, hK1, hD1⟩ := hB
  rw [ht] at hP1
  obtain ⟨hP2, hD2⟩ := va_join (wr := wr) (w1 := w1) hP hD isC isR hC hR2 hnd hdis hk1 hFc hP1 hD1
  exact kk w1 hp H1 locs1 ls hP2 hD2 hS1 hl
end SXM
