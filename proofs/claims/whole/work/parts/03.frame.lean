/-! ROWS OF MY OWN: a walk over worlds. X: the classes' numbers, the int arrays' class, the two static tables. G: what stands still in a method's walk. -/
abbrev sx_X : Type := va_G × ClassId × Nat × Nat
abbrev sx_g : Type := Program × Env × Room × State × MethodId × Array Value × List Frame × Method × Code × (State → Prop) × (Nat → Prop) × Nat
def sx_compass : Nat → Value := fun j => .int ([5, 6, 7, 4, -1, 0, 3, 2, 1].getD j 0)
def sx_first : Nat → Value := fun j => .int ([0, 1, 2, 4, 8, 5, 1].getD j 0)
def sx_isNest : Cond → Bool
  | .fieldLinkNest .. => true
  | .methodLinkNest .. => true
  | _ => false
def sx_nest : List Cond := [.fieldLinkNest "TubeShop" (119 : Nat) "TubeShop$Parts" "size" "I" "TubeShop",
  .fieldLinkNest "TubeShop" (129 : Nat) "TubeShop$Parts" "sets" "[I" "TubeShop",
  .fieldLinkNest "TubeShop" (133 : Nat) "TubeShop$Parts" "lengths" "[I" "TubeShop",
  .fieldLinkNest "TubeShop" (136 : Nat) "TubeShop$Parts" "amounts" "[I" "TubeShop",
  .fieldLinkNest "TubeShop" (157 : Nat) "TubeShop$Joints" "looks" "I" "TubeShop",
  .fieldLinkNest "TubeShop" (160 : Nat) "TubeShop$Joints" "first" "I" "TubeShop",
  .fieldLinkNest "TubeShop" (163 : Nat) "TubeShop$Sign" "size" "I" "TubeShop",
  .fieldLinkNest "TubeShop" (166 : Nat) "TubeShop$Sign" "lengths" "[I" "TubeShop",
  .fieldLinkNest "TubeShop" (167 : Nat) "TubeShop$Sign" "directions" "[I" "TubeShop",
  .fieldLinkNest "TubeShop$Boxes" (18 : Nat) "TubeShop$Parts" "size" "I" "TubeShop",
  .fieldLinkNest "TubeShop$Boxes" (24 : Nat) "TubeShop$Parts" "lengths" "[I" "TubeShop",
  .fieldLinkNest "TubeShop$Joints" (22 : Nat) "TubeShop$Parts" "size" "I" "TubeShop",
  .fieldLinkNest "TubeShop$Joints" (27 : Nat) "TubeShop$Parts" "lengths" "[I" "TubeShop",
  .fieldLinkNest "TubeShop$RunTable" (48 : Nat) "TubeShop$Sign" "size" "I" "TubeShop",
  .fieldLinkNest "TubeShop$RunTable" (51 : Nat) "TubeShop$Sign" "lengths" "[I" "TubeShop",
  .methodLinkNest "TubeShop" 11 ⟨"TubeShop$Sign", "<init>", "()V"⟩ "TubeShop",
  .methodLinkNest "TubeShop" 18 ⟨"TubeShop$PriceList", "<init>", "()V"⟩ "TubeShop",
  .methodLinkNest "TubeShop" 25 ⟨"TubeShop$RunTable", "<init>", "()V"⟩ "TubeShop",
  .methodLinkNest "TubeShop" 32 ⟨"TubeShop$Splitter", "<init>", "()V"⟩ "TubeShop",
  .methodLinkNest "TubeShop" 39 ⟨"TubeShop$Parts", "<init>", "()V"⟩ "TubeShop",
  .methodLinkNest "TubeShop" 46 ⟨"TubeShop$Boxes", "<init>", "()V"⟩ "TubeShop",
  .methodLinkNest "TubeShop" 53 ⟨"TubeShop$Joints", "<init>", "()V"⟩ "TubeShop",
  .methodLinkNest "TubeShop$PriceList" 21 ⟨"TubeShop", "payOf", "(I)I"⟩ "TubeShop",
  .methodLinkNest "TubeShop$PriceList" 27 ⟨"TubeShop", "lengthOf", "(I)I"⟩ "TubeShop",
  .methodLinkNest "TubeShop$RunTable" 65 ⟨"TubeShop", "bitOf", "(I)I"⟩ "TubeShop",
  .methodLinkNest "TubeShop$RunTable" 81 ⟨"TubeShop", "lengthOf", "(I)I"⟩ "TubeShop",
  .methodLinkNest "TubeShop$Sign" 48 ⟨"TubeShop", "distance", "(II)I"⟩ "TubeShop",
  .methodLinkNest "TubeShop$Splitter" 48 ⟨"TubeShop", "lengthOf", "(I)I"⟩ "TubeShop"]
theorem sx_nest_all : ∀ w ∈ sx_nest, sx_isNest w = true := by decide +kernel
theorem sx_warm {w : Cond} (hw : sx_isNest w = true) {s U : State} (hW : s.WarmedH U.vm) (h : va_Nw w s) : va_Nw w U := by
  cases w <;> first | exact va_Nw.warmF hW h | exact va_Nw.warmM hW h | cases hw
theorem sx_onT {w : Cond} (hw : sx_isNest w = true) : w.onTables = true := by
  cases w <;> first | rfl | cases hw
/-- what stands beside a world: links between nest mates, the two static tables that nobody writes -/
def sx_E (A : Nat → Prop) (tC tA : Nat) (U : State) (H : Heap) : Prop := (∀ w ∈ sx_nest, va_Nw w U) ∧ va_Z "TubeShop$Sign" "COMPASS" "[I" (.ref tC) A U H ∧ va_T .int tC 9 sx_compass A U H ∧ va_Z "TubeShop$PriceList" "AT_FIRST" "[I" (.ref tA) A U H ∧ va_T .int tA 7 sx_first A U H
theorem sx_E.to {A B : Nat → Prop} {tC tA : Nat} {s U : State} {H0 H : Heap} (h : sx_E A tC tA s H0) (hW : s.WarmedH U.vm) (hq : ∀ q : Nat, q < H0.size → ¬ A q → H[q]? = H0[q]?) (hB : ∀ q, B q → A q) : sx_E B tC tA U H := by
  obtain ⟨h1, h2, h3, h4, h5⟩ := h
  exact ⟨fun w hw => sx_warm (sx_nest_all w hw) hW (h1 w hw), ((h2.kept hq).moved hW.alike).narrow hB, ((h3.kept hq).moved hW.alike).narrow hB, ((h4.kept hq).moved hW.alike).narrow hB, ((h5.kept hq).moved hW.alike).narrow hB⟩
theorem sx_E.same {A : Nat → Prop} {tC tA : Nat} {u U : State} {H : Heap} (h : sx_E A tC tA u H) (hv : u.vm = U.vm) : sx_E A tC tA U H := by
  obtain ⟨h1, h2, h3, h4, h5⟩ := h
  have ha : u.vm.Alike U.vm := by rw [hv]; exact Vm.Alike.refl _
  exact ⟨fun w hw => va_Nw.same (sx_onT (sx_nest_all w hw)) hv (h1 w hw), h2.moved ha, h3.moved ha, h4.moved ha, h5.moved ha⟩
/-- the walk: at pc, with these locals, this stack and this world, the method comes to its end -/
def sx_W (l : Launch) (X : sx_X) (G : sx_g) (kc ks pc : Nat) (lv : List (Nat × Value)) (st : List Value) (ws : va_W) : Prop :=
  match X, G with
  | (D, cI, tC, tA), (p, e, R, s, m, args, below, meth, c, Q, A, nL) =>
    ∀ (H : Heap) (locs : List Loc) (ls : Array Slot), va_P D vwCl ws H → va_D A ws → va_S A s.heap H locs → lv_has ls nL lv → W p l e R s m args below meth c H locs kc ks Q (F0 m pc ls st)
def sx_ok (l : Launch) (X : sx_X) (G : sx_g) (cc : ByteArray) (own : String) (Ts : List Cond) (rm : Room) : Prop :=
  match X, G with
  | (D, cI, tC, tA), (p, e, R, s, m, args, below, meth, c, Q, A, nL) =>
    p.tables.exec = Jvm.exec ∧ c.code = cc ∧ c.maxLocals = nL ∧ s.vm.findClass own = some m.cls ∧ (∀ w ∈ Ts, w.before args s = true) ∧ va_K D vwCl [(cI, .int)] s ∧ (∀ q, s.heap.size ≤ q → A q) ∧ R = rm ∧ sx_E A tC tA s s.heap
def sx_Pre (X : sx_X) (av : List Value) (W0 : va_W) (sz : Nat) : Array Value → State → Prop :=
  va_Pc av (fun U => U.heap.size = sz ∧ va_P X.1 vwCl W0 U.heap ∧ va_K X.1 vwCl [(X.2.1, .int)] U ∧ va_D (fun _ => True) W0 ∧ sx_E (va_A W0 sz) X.2.2.1 X.2.2.2 U U.heap)
def sx_B (X : sx_X) (A : Nat → Prop) (w : va_W) (t : State) : Prop := va_P X.1 vwCl w t.heap ∧ va_K X.1 vwCl [(X.2.1, .int)] t ∧ va_D A w
/-- contracts: from the world W0 with these arguments the method returns, the answer and the new world as 'post' says -/
def sx_Mi (l : Launch) (y : MethodName) (ws : List Cond) (rm : Room) (X : sx_X) (av : List Value) (W0 : va_W) (post : Int32 → va_W → Prop) (mc ms : Nat) : Prop :=
  ∀ sz : Nat, Met l y ws rm (sx_Pre X av W0 sz) (va_Qi post (sx_B X (va_A W0 sz)) (va_A W0 sz)) mc ms (va_A W0 sz)
def sx_Mv (l : Launch) (y : MethodName) (ws : List Cond) (rm : Room) (X : sx_X) (av : List Value) (W0 : va_W) (post : va_W → Prop) (mc ms : Nat) : Prop :=
  ∀ sz : Nat, Met l y ws rm (sx_Pre X av W0 sz) (va_Qv post (sx_B X (va_A W0 sz)) (va_A W0 sz)) mc ms (va_A W0 sz)
theorem sx_blind (X : sx_X) (av : List Value) (W0 : va_W) (sz : Nat) : FrameBlind (sx_Pre X av W0 sz) := by
  intro a U g mk q
  obtain ⟨q0, q1, qP, qK, qD, qE⟩ := q
  exact ⟨q0, q1, qP, va_K.moved (u := U) (U := U.calling g mk a) (Vm.Alike.refl U.vm) qK, qD, qE.same rfl⟩
/-- the body's walk gives the contract -/
theorem sx_entI {l : Launch} {y : MethodName} {cc : ByteArray} {nL : Nat} {ty : FieldType} {ws ws' : List Cond} {rm : Room} {X : sx_X} {av : List Value} {W0 : va_W} {post : Int32 → va_W → Prop} {mc ms : Nat} {own : String} (hy : plainName y.cls = true) (ho : y.cls = own) (hw : ws = Cond.code y cc nL (some ty) :: ws') (hav : (lg_sl av).length ≤ nL)
    (body : ∀ G : sx_g, sx_ok l X G cc own ws rm → G.2.2.2.2.2.2.2.2.2.2.2 = nL → (∀ (pc : Nat) (lv : List (Nat × Value)) (v : Int32) (w : va_W), decode cc pc = .ok (.ireturn, 1) → narrow ty (.int v) = .int v → post v w → sx_W l X G mc ms pc lv [.int v] w) → sx_W l X G 0 0 0 (lv_args 0 av) [] W0) :
    sx_Mi l y ws rm X av W0 post mc ms := by
  intro sz
  refine Met.ofW (cc := cc) (maxL := nL) (ret := some ty) hy hw ?_
  intro p e s m args below meth c s₁ B hml hv
  obtain ⟨rfl, hsz, hP, hK, hD0, hE⟩ := hv
  have hown : s.vm.findClass own = some m.cls := by rw [← ho]; exact findClass_of_methodNamed B.named
  have hts := atoms_spec (ws := ws) B.pre
  have hx := B.exec
  have hb := B.bytes
  have hr := B.returns
  have hlocks := B.notSynchronized
  subst hsz
  obtain ⟨D, cI, tC, tA⟩ := X
  have hD := hD0.self (sz := s.heap.size)
  have hb2 := body (p, e, (headSpec ws rm).room, s, m, av.toArray, below, meth, c, MQ below (va_Qi post (sx_B (D, cI, tC, tA) (va_A W0 s.heap.size)) (va_A W0 s.heap.size)) av.toArray s mc ms (va_A W0 s.heap.size), va_A W0 s.heap.size, nL)
    ⟨hx, hb, hml, hown, hts, hK, fun q h => Or.inr h, rfl, hE⟩ rfl
    (fun pc lv v w hd hn hp H locs ls hP1 hD1 hS1 hl => W.zret (v := v) hx hb hr hn (fun t ht hW => ⟨⟨v, w, rfl, hp, by show va_P _ _ _ t.heap; rw [ht]; exact hP1, va_K.moved hW.alike hK, hD1⟩, hS1.F ht⟩) hS1.2.2 hd)
  rw [lg_entry_eq]
  exact hb2 s.heap [] _ hP hD va_S.rf (lv_entry av hav)
theorem sx_entV {l : Launch} {y : MethodName} {cc : ByteArray} {nL : Nat} {ws ws' : List Cond} {rm : Room} {X : sx_X} {av : List Value} {W0 : va_W} {post : va_W → Prop} {mc ms : Nat} {own : String} (hy : plainName y.cls = true) (ho : y.cls = own) (hw : ws = Cond.code y cc nL none :: ws') (hav : (lg_sl av).length ≤ nL)
    (body : ∀ G : sx_g, sx_ok l X G cc own ws rm → G.2.2.2.2.2.2.2.2.2.2.2 = nL → (y.name = "<init>" → G.2.2.2.2.2.2.2.1.name = "<init>") → (∀ (pc : Nat) (lv : List (Nat × Value)) (w : va_W), decode cc pc = .ok (.return_, 1) → post w → sx_W l X G mc ms pc lv [] w) → sx_W l X G 0 0 0 (lv_args 0 av) [] W0) :
    sx_Mv l y ws rm X av W0 post mc ms := by
  intro sz
  refine Met.ofW (cc := cc) (maxL := nL) (ret := none) hy hw ?_
  intro p e s m args below meth c s₁ B hml hv
  obtain ⟨rfl, hsz, hP, hK, hD0, hE⟩ := hv
  have hown : s.vm.findClass own = some m.cls := by rw [← ho]; exact findClass_of_methodNamed B.named
  have hts := atoms_spec (ws := ws) B.pre
  have hx := B.exec
  have hb := B.bytes
  have hr := B.returns
  have hlocks := B.notSynchronized
  have hnm := (name_of_methodNamed B.named B.method).1
  subst hsz
  obtain ⟨D, cI, tC, tA⟩ := X
  have hD := hD0.self (sz := s.heap.size)
  have hb2 := body (p, e, (headSpec ws rm).room, s, m, av.toArray, below, meth, c, MQ below (va_Qv post (sx_B (D, cI, tC, tA) (va_A W0 s.heap.size)) (va_A W0 s.heap.size)) av.toArray s mc ms (va_A W0 s.heap.size), va_A W0 s.heap.size, nL)
    ⟨hx, hb, hml, hown, hts, hK, fun q h => Or.inr h, rfl, hE⟩ rfl (fun h => hnm.trans h)
    (fun pc lv w hd hp H locs ls hP1 hD1 hS1 hl => W.vret hx hb hr (fun t ht hW => ⟨⟨w, rfl, hp, by show va_P _ _ _ t.heap; rw [ht]; exact hP1, va_K.moved hW.alike hK, hD1⟩, hS1.F ht⟩) hS1.2.2 hd)
  rw [lg_entry_eq]
  exact hb2 s.heap [] _ hP hD va_S.rf (lv_entry av hav)
theorem sx_updN (f : Nat → Nat) (k x : Nat) : upd (fun j => nI (f j)) k (nI x) = fun j => nI (va_up f k x j) := by
  funext j
  by_cases h : j = k <;> simp [upd, va_up, h]
section SXR
variable {l : Launch} {X : sx_X} {G : sx_g} {cc : ByteArray} {own : String} {Ts : List Cond} {rm : Room} {kc ks pc : Nat} {lv : List (Nat × Value)} {st : List Value} {ws : va_W}
theorem sx_iconst (hG : sx_ok l X G cc own Ts rm) {n : Int} {v : Int32} (hd : decode cc pc = .ok (.iconst n, 1)) (hv : Int32.ofInt n = v) (kk : sx_W l X G kc ks (pc + 1) lv (.int v :: st) ws) : sx_W l X G kc ks (pc) lv (st) ws := by
  obtain ⟨D, cI, tC, tA⟩ := X
  obtain ⟨p, e, R, s, m, args, below, meth, c, Q, A, nL⟩ := G
  obtain ⟨hx, hb, hml, hown, hts, hK, hA, rfl, hE⟩ := hG
  intro H locs ls hP hD hS hl
  exact lv_iconst hx hb hd hv (kk H locs ls hP hD hS hl)
theorem sx_bipush (hG : sx_ok l X G cc own Ts rm) {n : Int} {v : Int32} (hd : decode cc pc = .ok (.bipush n, 2)) (hv : (Int8.ofInt n).toInt32 = v) (kk : sx_W l X G kc ks (pc + 2) lv (.int v :: st) ws) : sx_W l X G kc ks (pc) lv (st) ws := by
  obtain ⟨D, cI, tC, tA⟩ := X
  obtain ⟨p, e, R, s, m, args, below, meth, c, Q, A, nL⟩ := G
  obtain ⟨hx, hb, hml, hown, hts, hK, hA, rfl, hE⟩ := hG
  intro H locs ls hP hD hS hl
  exact lv_bipush hx hb hd hv (kk H locs ls hP hD hS hl)
theorem sx_sipush (hG : sx_ok l X G cc own Ts rm) {n : Int} {v : Int32} (hd : decode cc pc = .ok (.sipush n, 3)) (hv : (Int16.ofInt n).toInt32 = v) (kk : sx_W l X G kc ks (pc + 3) lv (.int v :: st) ws) : sx_W l X G kc ks (pc) lv (st) ws := by
  obtain ⟨D, cI, tC, tA⟩ := X
  obtain ⟨p, e, R, s, m, args, below, meth, c, Q, A, nL⟩ := G
  obtain ⟨hx, hb, hml, hown, hts, hK, hA, rfl, hE⟩ := hG
  intro H locs ls hP hD hS hl
  exact lv_sipush hx hb hd hv (kk H locs ls hP hD hS hl)
theorem sx_ldc (hG : sx_ok l X G cc own Ts rm) {index : Nat} {v v2 : Int32} (hm : Cond.constant own index v ∈ Ts) (hd : decode cc pc = .ok (.ldc index, 2)) (hv : v = v2) (kk : sx_W l X G kc ks (pc + 2) lv (.int v2 :: st) ws) : sx_W l X G kc ks (pc) lv (st) ws := by
  obtain ⟨D, cI, tC, tA⟩ := X
  obtain ⟨p, e, R, s, m, args, below, meth, c, Q, A, nL⟩ := G
  obtain ⟨hx, hb, hml, hown, hts, hK, hA, rfl, hE⟩ := hG
  intro H locs ls hP hD hS hl
  subst hv; exact lv_ldc hx hb hown (hts _ hm) hd (kk H locs ls hP hD hS hl)
theorem sx_iload_n (hG : sx_ok l X G cc own Ts rm) {k : Fin 4} {i : Nat} {x : Int32} (hd : decode cc pc = .ok (.iload_n k, 1)) (hi : (k : Nat) = i) (j : Nat) (hj : lv[j]? = some (i, .int x)) (kk : sx_W l X G kc ks (pc + 1) lv (.int x :: st) ws) : sx_W l X G kc ks (pc) lv (st) ws := by
  obtain ⟨D, cI, tC, tA⟩ := X
  obtain ⟨p, e, R, s, m, args, below, meth, c, Q, A, nL⟩ := G
  obtain ⟨hx, hb, hml, hown, hts, hK, hA, rfl, hE⟩ := hG
  intro H locs ls hP hD hS hl
  exact lv_iload_n hx hb hd hi (lv_at hl j hj) (kk H locs ls hP hD hS hl)
theorem sx_iload (hG : sx_ok l X G cc own Ts rm) {i : Nat} {x : Int32} (hd : decode cc pc = .ok (.iload i, 2)) (j : Nat) (hj : lv[j]? = some (i, .int x)) (kk : sx_W l X G kc ks (pc + 2) lv (.int x :: st) ws) : sx_W l X G kc ks (pc) lv (st) ws := by
  obtain ⟨D, cI, tC, tA⟩ := X
  obtain ⟨p, e, R, s, m, args, below, meth, c, Q, A, nL⟩ := G
  obtain ⟨hx, hb, hml, hown, hts, hK, hA, rfl, hE⟩ := hG
  intro H locs ls hP hD hS hl
  exact lv_iload hx hb hd (lv_at hl j hj) (kk H locs ls hP hD hS hl)
theorem sx_istore_n (hG : sx_ok l X G cc own Ts rm) {k : Fin 4} {i : Nat} {x : Int32} {lv2 : List (Nat × Value)} (ks2 : List Nat) (hd : decode cc pc = .ok (.istore_n k, 1)) (hi : (k : Nat) = i) {N9 : Nat} (hn : G.2.2.2.2.2.2.2.2.2.2.2 = N9) (hi2 : i < N9) (hl2 : lv_pick ((i, Value.int x) :: lv.filter (fun q => !(q.1 == i) && !(q.1 + 1 == i && q.2.category == 2))) ks2 = lv2) (kk : sx_W l X G kc ks (pc + 1) lv2 (st) ws) : sx_W l X G kc ks (pc) lv (.int x :: st) ws := by
  obtain ⟨D, cI, tC, tA⟩ := X
  obtain ⟨p, e, R, s, m, args, below, meth, c, Q, A, nL⟩ := G
  obtain ⟨hx, hb, hml, hown, hts, hK, hA, rfl, hE⟩ := hG
  intro H locs ls hP hD hS hl
  exact lv_istore_n hx hb hd hi hl (by rw [show nL = N9 from hn]; exact hi2) rfl (fun ls hl => kk H locs ls hP hD hS (lv_sub hl ks2 hl2))
theorem sx_istore (hG : sx_ok l X G cc own Ts rm) {i : Nat} {x : Int32} {lv2 : List (Nat × Value)} (ks2 : List Nat) (hd : decode cc pc = .ok (.istore i, 2)) {N9 : Nat} (hn : G.2.2.2.2.2.2.2.2.2.2.2 = N9) (hi2 : i < N9) (hl2 : lv_pick ((i, Value.int x) :: lv.filter (fun q => !(q.1 == i) && !(q.1 + 1 == i && q.2.category == 2))) ks2 = lv2) (kk : sx_W l X G kc ks (pc + 2) lv2 (st) ws) : sx_W l X G kc ks (pc) lv (.int x :: st) ws := by
  obtain ⟨D, cI, tC, tA⟩ := X
  obtain ⟨p, e, R, s, m, args, below, meth, c, Q, A, nL⟩ := G
  obtain ⟨hx, hb, hml, hown, hts, hK, hA, rfl, hE⟩ := hG
  intro H locs ls hP hD hS hl
  exact lv_istore hx hb hd hl (by rw [show nL = N9 from hn]; exact hi2) rfl (fun ls hl => kk H locs ls hP hD hS (lv_sub hl ks2 hl2))
theorem sx_aload_n (hG : sx_ok l X G cc own Ts rm) {k : Fin 4} {i : Nat} {x : Nat} (hd : decode cc pc = .ok (.aload_n k, 1)) (hi : (k : Nat) = i) (j : Nat) (hj : lv[j]? = some (i, .ref x)) (kk : sx_W l X G kc ks (pc + 1) lv (.ref x :: st) ws) : sx_W l X G kc ks (pc) lv (st) ws := by
  obtain ⟨D, cI, tC, tA⟩ := X
  obtain ⟨p, e, R, s, m, args, below, meth, c, Q, A, nL⟩ := G
  obtain ⟨hx, hb, hml, hown, hts, hK, hA, rfl, hE⟩ := hG
  intro H locs ls hP hD hS hl
  exact lv_aload_n hx hb hd hi (lv_at hl j hj) (kk H locs ls hP hD hS hl)
theorem sx_aload (hG : sx_ok l X G cc own Ts rm) {i : Nat} {x : Nat} (hd : decode cc pc = .ok (.aload i, 2)) (j : Nat) (hj : lv[j]? = some (i, .ref x)) (kk : sx_W l X G kc ks (pc + 2) lv (.ref x :: st) ws) : sx_W l X G kc ks (pc) lv (st) ws := by
  obtain ⟨D, cI, tC, tA⟩ := X
  obtain ⟨p, e, R, s, m, args, below, meth, c, Q, A, nL⟩ := G
  obtain ⟨hx, hb, hml, hown, hts, hK, hA, rfl, hE⟩ := hG
  intro H locs ls hP hD hS hl
  exact lv_aload hx hb hd (lv_at hl j hj) (kk H locs ls hP hD hS hl)
theorem sx_astore_n (hG : sx_ok l X G cc own Ts rm) {k : Fin 4} {i : Nat} {x : Nat} {lv2 : List (Nat × Value)} (ks2 : List Nat) (hd : decode cc pc = .ok (.astore_n k, 1)) (hi : (k : Nat) = i) {N9 : Nat} (hn : G.2.2.2.2.2.2.2.2.2.2.2 = N9) (hi2 : i < N9) (hl2 : lv_pick ((i, Value.ref x) :: lv.filter (fun q => !(q.1 == i) && !(q.1 + 1 == i && q.2.category == 2))) ks2 = lv2) (kk : sx_W l X G kc ks (pc + 1) lv2 (st) ws) : sx_W l X G kc ks (pc) lv (.ref x :: st) ws := by
  obtain ⟨D, cI, tC, tA⟩ := X
  obtain ⟨p, e, R, s, m, args, below, meth, c, Q, A, nL⟩ := G
  obtain ⟨hx, hb, hml, hown, hts, hK, hA, rfl, hE⟩ := hG
  intro H locs ls hP hD hS hl
  exact lv_astore_n hx hb hd hi hl (by rw [show nL = N9 from hn]; exact hi2) rfl (fun ls hl => kk H locs ls hP hD hS (lv_sub hl ks2 hl2))
theorem sx_astore (hG : sx_ok l X G cc own Ts rm) {i : Nat} {x : Nat} {lv2 : List (Nat × Value)} (ks2 : List Nat) (hd : decode cc pc = .ok (.astore i, 2)) {N9 : Nat} (hn : G.2.2.2.2.2.2.2.2.2.2.2 = N9) (hi2 : i < N9) (hl2 : lv_pick ((i, Value.ref x) :: lv.filter (fun q => !(q.1 == i) && !(q.1 + 1 == i && q.2.category == 2))) ks2 = lv2) (kk : sx_W l X G kc ks (pc + 2) lv2 (st) ws) : sx_W l X G kc ks (pc) lv (.ref x :: st) ws := by
  obtain ⟨D, cI, tC, tA⟩ := X
  obtain ⟨p, e, R, s, m, args, below, meth, c, Q, A, nL⟩ := G
  obtain ⟨hx, hb, hml, hown, hts, hK, hA, rfl, hE⟩ := hG
  intro H locs ls hP hD hS hl
  exact lv_astore hx hb hd hl (by rw [show nL = N9 from hn]; exact hi2) rfl (fun ls hl => kk H locs ls hP hD hS (lv_sub hl ks2 hl2))
theorem sx_iinc (hG : sx_ok l X G cc own Ts rm) {i : Nat} {n : Int} {x v : Int32} {lv2 : List (Nat × Value)} {N9 : Nat} (ks2 : List Nat) (hd : decode cc pc = .ok (.iinc i n, 3)) (j : Nat) (hj : lv[j]? = some (i, .int x)) (hv : x + Int32.ofInt n = v) (hn : G.2.2.2.2.2.2.2.2.2.2.2 = N9) (hi2 : i < N9) (hl2 : lv_pick ((i, Value.int v) :: lv.filter (fun q => !(q.1 == i) && !(q.1 + 1 == i && q.2.category == 2))) ks2 = lv2) (kk : sx_W l X G kc ks (pc + 3) lv2 (st) ws) : sx_W l X G kc ks (pc) lv (st) ws := by
  obtain ⟨D, cI, tC, tA⟩ := X
  obtain ⟨p, e, R, s, m, args, below, meth, c, Q, A, nL⟩ := G
  obtain ⟨hx, hb, hml, hown, hts, hK, hA, rfl, hE⟩ := hG
  intro H locs ls hP hD hS hl
  exact lv_iinc hx hb hd hl hj hv (by rw [show nL = N9 from hn]; exact hi2) rfl (fun ls hl => kk H locs ls hP hD hS (lv_sub hl ks2 hl2))
theorem sx_iadd (hG : sx_ok l X G cc own Ts rm) {x y v : Int32} (hd : decode cc pc = .ok (.iadd, 1)) (hv : x + y = v) (kk : sx_W l X G kc ks (pc + 1) lv (.int v :: st) ws) : sx_W l X G kc ks (pc) lv (.int y :: .int x :: st) ws := by
  obtain ⟨D, cI, tC, tA⟩ := X
  obtain ⟨p, e, R, s, m, args, below, meth, c, Q, A, nL⟩ := G
  obtain ⟨hx, hb, hml, hown, hts, hK, hA, rfl, hE⟩ := hG
  intro H locs ls hP hD hS hl
  subst hv; exact lv_iadd hx hb hd (kk H locs ls hP hD hS hl)
theorem sx_isub (hG : sx_ok l X G cc own Ts rm) {x y v : Int32} (hd : decode cc pc = .ok (.isub, 1)) (hv : x - y = v) (kk : sx_W l X G kc ks (pc + 1) lv (.int v :: st) ws) : sx_W l X G kc ks (pc) lv (.int y :: .int x :: st) ws := by
  obtain ⟨D, cI, tC, tA⟩ := X
  obtain ⟨p, e, R, s, m, args, below, meth, c, Q, A, nL⟩ := G
  obtain ⟨hx, hb, hml, hown, hts, hK, hA, rfl, hE⟩ := hG
  intro H locs ls hP hD hS hl
  subst hv; exact lv_isub hx hb hd (kk H locs ls hP hD hS hl)
theorem sx_imul (hG : sx_ok l X G cc own Ts rm) {x y v : Int32} (hd : decode cc pc = .ok (.imul, 1)) (hv : x * y = v) (kk : sx_W l X G kc ks (pc + 1) lv (.int v :: st) ws) : sx_W l X G kc ks (pc) lv (.int y :: .int x :: st) ws := by
  obtain ⟨D, cI, tC, tA⟩ := X
  obtain ⟨p, e, R, s, m, args, below, meth, c, Q, A, nL⟩ := G
  obtain ⟨hx, hb, hml, hown, hts, hK, hA, rfl, hE⟩ := hG
  intro H locs ls hP hD hS hl
  subst hv; exact lv_imul hx hb hd (kk H locs ls hP hD hS hl)
theorem sx_iand (hG : sx_ok l X G cc own Ts rm) {x y v : Int32} (hd : decode cc pc = .ok (.iand, 1)) (hv : x &&& y = v) (kk : sx_W l X G kc ks (pc + 1) lv (.int v :: st) ws) : sx_W l X G kc ks (pc) lv (.int y :: .int x :: st) ws := by
  obtain ⟨D, cI, tC, tA⟩ := X
  obtain ⟨p, e, R, s, m, args, below, meth, c, Q, A, nL⟩ := G
  obtain ⟨hx, hb, hml, hown, hts, hK, hA, rfl, hE⟩ := hG
  intro H locs ls hP hD hS hl
  subst hv; exact lv_iand hx hb hd (kk H locs ls hP hD hS hl)
theorem sx_ior (hG : sx_ok l X G cc own Ts rm) {x y v : Int32} (hd : decode cc pc = .ok (.ior, 1)) (hv : x ||| y = v) (kk : sx_W l X G kc ks (pc + 1) lv (.int v :: st) ws) : sx_W l X G kc ks (pc) lv (.int y :: .int x :: st) ws := by
  obtain ⟨D, cI, tC, tA⟩ := X
  obtain ⟨p, e, R, s, m, args, below, meth, c, Q, A, nL⟩ := G
  obtain ⟨hx, hb, hml, hown, hts, hK, hA, rfl, hE⟩ := hG
  intro H locs ls hP hD hS hl
  subst hv; exact lv_ior hx hb hd (kk H locs ls hP hD hS hl)
theorem sx_ixor (hG : sx_ok l X G cc own Ts rm) {x y v : Int32} (hd : decode cc pc = .ok (.ixor, 1)) (hv : x ^^^ y = v) (kk : sx_W l X G kc ks (pc + 1) lv (.int v :: st) ws) : sx_W l X G kc ks (pc) lv (.int y :: .int x :: st) ws := by
  obtain ⟨D, cI, tC, tA⟩ := X
  obtain ⟨p, e, R, s, m, args, below, meth, c, Q, A, nL⟩ := G
  obtain ⟨hx, hb, hml, hown, hts, hK, hA, rfl, hE⟩ := hG
  intro H locs ls hP hD hS hl
  subst hv; exact lv_ixor hx hb hd (kk H locs ls hP hD hS hl)
theorem sx_idiv (hG : sx_ok l X G cc own Ts rm) {x y v : Int32} (hd : decode cc pc = .ok (.idiv, 1)) (hne : ¬ y = 0) (hv : x / y = v) (kk : sx_W l X G kc ks (pc + 1) lv (.int v :: st) ws) : sx_W l X G kc ks (pc) lv (.int y :: .int x :: st) ws := by
  obtain ⟨D, cI, tC, tA⟩ := X
  obtain ⟨p, e, R, s, m, args, below, meth, c, Q, A, nL⟩ := G
  obtain ⟨hx, hb, hml, hown, hts, hK, hA, rfl, hE⟩ := hG
  intro H locs ls hP hD hS hl
  subst hv; exact lv_idiv hx hb hd hne (kk H locs ls hP hD hS hl)
theorem sx_irem (hG : sx_ok l X G cc own Ts rm) {x y v : Int32} (hd : decode cc pc = .ok (.irem, 1)) (hne : ¬ y = 0) (hv : x - x / y * y = v) (kk : sx_W l X G kc ks (pc + 1) lv (.int v :: st) ws) : sx_W l X G kc ks (pc) lv (.int y :: .int x :: st) ws := by
  obtain ⟨D, cI, tC, tA⟩ := X
  obtain ⟨p, e, R, s, m, args, below, meth, c, Q, A, nL⟩ := G
  obtain ⟨hx, hb, hml, hown, hts, hK, hA, rfl, hE⟩ := hG
  intro H locs ls hP hD hS hl
  subst hv; exact lv_irem hx hb hd hne (kk H locs ls hP hD hS hl)
theorem sx_ishl (hG : sx_ok l X G cc own Ts rm) {x y v : Int32} (hd : decode cc pc = .ok (.ishl, 1)) (hv : x <<< (y &&& 31) = v) (kk : sx_W l X G kc ks (pc + 1) lv (.int v :: st) ws) : sx_W l X G kc ks (pc) lv (.int y :: .int x :: st) ws := by
  obtain ⟨D, cI, tC, tA⟩ := X
  obtain ⟨p, e, R, s, m, args, below, meth, c, Q, A, nL⟩ := G
  obtain ⟨hx, hb, hml, hown, hts, hK, hA, rfl, hE⟩ := hG
  intro H locs ls hP hD hS hl
  subst hv; exact lv_ishl hx hb hd (kk H locs ls hP hD hS hl)
theorem sx_ishr (hG : sx_ok l X G cc own Ts rm) {x y v : Int32} (hd : decode cc pc = .ok (.ishr, 1)) (hv : x >>> (y &&& 31) = v) (kk : sx_W l X G kc ks (pc + 1) lv (.int v :: st) ws) : sx_W l X G kc ks (pc) lv (.int y :: .int x :: st) ws := by
  obtain ⟨D, cI, tC, tA⟩ := X
  obtain ⟨p, e, R, s, m, args, below, meth, c, Q, A, nL⟩ := G
  obtain ⟨hx, hb, hml, hown, hts, hK, hA, rfl, hE⟩ := hG
  intro H locs ls hP hD hS hl
  subst hv; exact lv_ishr hx hb hd (kk H locs ls hP hD hS hl)
theorem sx_iushr (hG : sx_ok l X G cc own Ts rm) {x y v : Int32} (hd : decode cc pc = .ok (.iushr, 1)) (hv : (x.toUInt32 >>> (y.toUInt32 &&& Int32.toUInt32 31)).toInt32 = v) (kk : sx_W l X G kc ks (pc + 1) lv (.int v :: st) ws) : sx_W l X G kc ks (pc) lv (.int y :: .int x :: st) ws := by
  obtain ⟨D, cI, tC, tA⟩ := X
  obtain ⟨p, e, R, s, m, args, below, meth, c, Q, A, nL⟩ := G
  obtain ⟨hx, hb, hml, hown, hts, hK, hA, rfl, hE⟩ := hG
  intro H locs ls hP hD hS hl
  exact lv_iushr hx hb hd hv (kk H locs ls hP hD hS hl)
theorem sx_ineg (hG : sx_ok l X G cc own Ts rm) {x v : Int32} (hd : decode cc pc = .ok (.ineg, 1)) (hv : -x = v) (kk : sx_W l X G kc ks (pc + 1) lv (.int v :: st) ws) : sx_W l X G kc ks (pc) lv (.int x :: st) ws := by
  obtain ⟨D, cI, tC, tA⟩ := X
  obtain ⟨p, e, R, s, m, args, below, meth, c, Q, A, nL⟩ := G
  obtain ⟨hx, hb, hml, hown, hts, hK, hA, rfl, hE⟩ := hG
  intro H locs ls hP hD hS hl
  subst hv; exact lv_ineg hx hb hd (kk H locs ls hP hD hS hl)
theorem sx_dup (hG : sx_ok l X G cc own Ts rm) {v : Value} (hd : decode cc pc = .ok (.dup, 1)) (hc : v.category = 1) (kk : sx_W l X G kc ks (pc + 1) lv (v :: v :: st) ws) : sx_W l X G kc ks (pc) lv (v :: st) ws := by
  obtain ⟨D, cI, tC, tA⟩ := X
  obtain ⟨p, e, R, s, m, args, below, meth, c, Q, A, nL⟩ := G
  obtain ⟨hx, hb, hml, hown, hts, hK, hA, rfl, hE⟩ := hG
  intro H locs ls hP hD hS hl
  exact lv_dup hx hb hd hc (kk H locs ls hP hD hS hl)
theorem sx_pop (hG : sx_ok l X G cc own Ts rm) {v : Value} (hd : decode cc pc = .ok (.pop, 1)) (hc : v.category = 1) (kk : sx_W l X G kc ks (pc + 1) lv (st) ws) : sx_W l X G kc ks (pc) lv (v :: st) ws := by
  obtain ⟨D, cI, tC, tA⟩ := X
  obtain ⟨p, e, R, s, m, args, below, meth, c, Q, A, nL⟩ := G
  obtain ⟨hx, hb, hml, hown, hts, hK, hA, rfl, hE⟩ := hG
  intro H locs ls hP hD hS hl
  exact lv_pop hx hb hd hc (kk H locs ls hP hD hS hl)
theorem sx_if_eq (hG : sx_ok l X G cc own Ts rm) {x : Int32} {off : Int} {tgt : Nat} {B : Prop} (hd : decode cc pc = .ok (.ifCond .eq off, 3)) (ht : (pc : Int) + off = (tgt : Int)) (hi : (x = 0) ↔ B) (kt : B → sx_W l X G kc ks (tgt) lv (st) ws) (kf : ¬ B → sx_W l X G kc ks (pc + 3) lv (st) ws) : sx_W l X G kc ks (pc) lv (.int x :: st) ws := by
  obtain ⟨D, cI, tC, tA⟩ := X
  obtain ⟨p, e, R, s, m, args, below, meth, c, Q, A, nL⟩ := G
  obtain ⟨hx, hb, hml, hown, hts, hK, hA, rfl, hE⟩ := hG
  intro H locs ls hP hD hS hl
  exact lv_if_eq hx hb hd ht (fun h => kt (hi.mp h) H locs ls hP hD hS hl) (fun h => kf (fun b => h (hi.mpr b)) H locs ls hP hD hS hl)
theorem sx_icmp_eq (hG : sx_ok l X G cc own Ts rm) {x y : Int32} {off : Int} {tgt : Nat} {B : Prop} (hd : decode cc pc = .ok (.if_icmp .eq off, 3)) (ht : (pc : Int) + off = (tgt : Int)) (hi : (x = y) ↔ B) (kt : B → sx_W l X G kc ks (tgt) lv (st) ws) (kf : ¬ B → sx_W l X G kc ks (pc + 3) lv (st) ws) : sx_W l X G kc ks (pc) lv (.int y :: .int x :: st) ws := by
  obtain ⟨D, cI, tC, tA⟩ := X
  obtain ⟨p, e, R, s, m, args, below, meth, c, Q, A, nL⟩ := G
  obtain ⟨hx, hb, hml, hown, hts, hK, hA, rfl, hE⟩ := hG
  intro H locs ls hP hD hS hl
  exact lv_icmp_eq hx hb hd ht (fun h => kt (hi.mp h) H locs ls hP hD hS hl) (fun h => kf (fun b => h (hi.mpr b)) H locs ls hP hD hS hl)
theorem sx_if_ne (hG : sx_ok l X G cc own Ts rm) {x : Int32} {off : Int} {tgt : Nat} {B : Prop} (hd : decode cc pc = .ok (.ifCond .ne off, 3)) (ht : (pc : Int) + off = (tgt : Int)) (hi : (x = 0) ↔ B) (kt : ¬ B → sx_W l X G kc ks (tgt) lv (st) ws) (kf : B → sx_W l X G kc ks (pc + 3) lv (st) ws) : sx_W l X G kc ks (pc) lv (.int x :: st) ws := by
  obtain ⟨D, cI, tC, tA⟩ := X
  obtain ⟨p, e, R, s, m, args, below, meth, c, Q, A, nL⟩ := G
  obtain ⟨hx, hb, hml, hown, hts, hK, hA, rfl, hE⟩ := hG
  intro H locs ls hP hD hS hl
  exact lv_if_ne hx hb hd ht (fun h => kt (fun b => h (hi.mpr b)) H locs ls hP hD hS hl) (fun h => kf (hi.mp h) H locs ls hP hD hS hl)
theorem sx_icmp_ne (hG : sx_ok l X G cc own Ts rm) {x y : Int32} {off : Int} {tgt : Nat} {B : Prop} (hd : decode cc pc = .ok (.if_icmp .ne off, 3)) (ht : (pc : Int) + off = (tgt : Int)) (hi : (x = y) ↔ B) (kt : ¬ B → sx_W l X G kc ks (tgt) lv (st) ws) (kf : B → sx_W l X G kc ks (pc + 3) lv (st) ws) : sx_W l X G kc ks (pc) lv (.int y :: .int x :: st) ws := by
  obtain ⟨D, cI, tC, tA⟩ := X
  obtain ⟨p, e, R, s, m, args, below, meth, c, Q, A, nL⟩ := G
  obtain ⟨hx, hb, hml, hown, hts, hK, hA, rfl, hE⟩ := hG
  intro H locs ls hP hD hS hl
  exact lv_icmp_ne hx hb hd ht (fun h => kt (fun b => h (hi.mpr b)) H locs ls hP hD hS hl) (fun h => kf (hi.mp h) H locs ls hP hD hS hl)
theorem sx_if_lt (hG : sx_ok l X G cc own Ts rm) {x : Int32} {off : Int} {tgt : Nat} {B : Prop} (hd : decode cc pc = .ok (.ifCond .lt off, 3)) (ht : (pc : Int) + off = (tgt : Int)) (hi : (x < 0) ↔ B) (kt : B → sx_W l X G kc ks (tgt) lv (st) ws) (kf : ¬ B → sx_W l X G kc ks (pc + 3) lv (st) ws) : sx_W l X G kc ks (pc) lv (.int x :: st) ws := by
  obtain ⟨D, cI, tC, tA⟩ := X
  obtain ⟨p, e, R, s, m, args, below, meth, c, Q, A, nL⟩ := G
  obtain ⟨hx, hb, hml, hown, hts, hK, hA, rfl, hE⟩ := hG
  intro H locs ls hP hD hS hl
  exact lv_if_lt hx hb hd ht (fun h => kt (hi.mp h) H locs ls hP hD hS hl) (fun h => kf (fun b => h (hi.mpr b)) H locs ls hP hD hS hl)
theorem sx_icmp_lt (hG : sx_ok l X G cc own Ts rm) {x y : Int32} {off : Int} {tgt : Nat} {B : Prop} (hd : decode cc pc = .ok (.if_icmp .lt off, 3)) (ht : (pc : Int) + off = (tgt : Int)) (hi : (x < y) ↔ B) (kt : B → sx_W l X G kc ks (tgt) lv (st) ws) (kf : ¬ B → sx_W l X G kc ks (pc + 3) lv (st) ws) : sx_W l X G kc ks (pc) lv (.int y :: .int x :: st) ws := by
  obtain ⟨D, cI, tC, tA⟩ := X
  obtain ⟨p, e, R, s, m, args, below, meth, c, Q, A, nL⟩ := G
  obtain ⟨hx, hb, hml, hown, hts, hK, hA, rfl, hE⟩ := hG
  intro H locs ls hP hD hS hl
  exact lv_icmp_lt hx hb hd ht (fun h => kt (hi.mp h) H locs ls hP hD hS hl) (fun h => kf (fun b => h (hi.mpr b)) H locs ls hP hD hS hl)
theorem sx_if_ge (hG : sx_ok l X G cc own Ts rm) {x : Int32} {off : Int} {tgt : Nat} {B : Prop} (hd : decode cc pc = .ok (.ifCond .ge off, 3)) (ht : (pc : Int) + off = (tgt : Int)) (hi : (0 ≤ x) ↔ B) (kt : B → sx_W l X G kc ks (tgt) lv (st) ws) (kf : ¬ B → sx_W l X G kc ks (pc + 3) lv (st) ws) : sx_W l X G kc ks (pc) lv (.int x :: st) ws := by
  obtain ⟨D, cI, tC, tA⟩ := X
  obtain ⟨p, e, R, s, m, args, below, meth, c, Q, A, nL⟩ := G
  obtain ⟨hx, hb, hml, hown, hts, hK, hA, rfl, hE⟩ := hG
  intro H locs ls hP hD hS hl
  exact lv_if_ge hx hb hd ht (fun h => kt (hi.mp h) H locs ls hP hD hS hl) (fun h => kf (fun b => h (hi.mpr b)) H locs ls hP hD hS hl)
theorem sx_icmp_ge (hG : sx_ok l X G cc own Ts rm) {x y : Int32} {off : Int} {tgt : Nat} {B : Prop} (hd : decode cc pc = .ok (.if_icmp .ge off, 3)) (ht : (pc : Int) + off = (tgt : Int)) (hi : (y ≤ x) ↔ B) (kt : B → sx_W l X G kc ks (tgt) lv (st) ws) (kf : ¬ B → sx_W l X G kc ks (pc + 3) lv (st) ws) : sx_W l X G kc ks (pc) lv (.int y :: .int x :: st) ws := by
  obtain ⟨D, cI, tC, tA⟩ := X
  obtain ⟨p, e, R, s, m, args, below, meth, c, Q, A, nL⟩ := G
  obtain ⟨hx, hb, hml, hown, hts, hK, hA, rfl, hE⟩ := hG
  intro H locs ls hP hD hS hl
  exact lv_icmp_ge hx hb hd ht (fun h => kt (hi.mp h) H locs ls hP hD hS hl) (fun h => kf (fun b => h (hi.mpr b)) H locs ls hP hD hS hl)
theorem sx_if_gt (hG : sx_ok l X G cc own Ts rm) {x : Int32} {off : Int} {tgt : Nat} {B : Prop} (hd : decode cc pc = .ok (.ifCond .gt off, 3)) (ht : (pc : Int) + off = (tgt : Int)) (hi : (0 < x) ↔ B) (kt : B → sx_W l X G kc ks (tgt) lv (st) ws) (kf : ¬ B → sx_W l X G kc ks (pc + 3) lv (st) ws) : sx_W l X G kc ks (pc) lv (.int x :: st) ws := by
  obtain ⟨D, cI, tC, tA⟩ := X
  obtain ⟨p, e, R, s, m, args, below, meth, c, Q, A, nL⟩ := G
  obtain ⟨hx, hb, hml, hown, hts, hK, hA, rfl, hE⟩ := hG
  intro H locs ls hP hD hS hl
  exact lv_if_gt hx hb hd ht (fun h => kt (hi.mp h) H locs ls hP hD hS hl) (fun h => kf (fun b => h (hi.mpr b)) H locs ls hP hD hS hl)
theorem sx_icmp_gt (hG : sx_ok l X G cc own Ts rm) {x y : Int32} {off : Int} {tgt : Nat} {B : Prop} (hd : decode cc pc = .ok (.if_icmp .gt off, 3)) (ht : (pc : Int) + off = (tgt : Int)) (hi : (y < x) ↔ B) (kt : B → sx_W l X G kc ks (tgt) lv (st) ws) (kf : ¬ B → sx_W l X G kc ks (pc + 3) lv (st) ws) : sx_W l X G kc ks (pc) lv (.int y :: .int x :: st) ws := by
  obtain ⟨D, cI, tC, tA⟩ := X
  obtain ⟨p, e, R, s, m, args, below, meth, c, Q, A, nL⟩ := G
  obtain ⟨hx, hb, hml, hown, hts, hK, hA, rfl, hE⟩ := hG
  intro H locs ls hP hD hS hl
  exact lv_icmp_gt hx hb hd ht (fun h => kt (hi.mp h) H locs ls hP hD hS hl) (fun h => kf (fun b => h (hi.mpr b)) H locs ls hP hD hS hl)
theorem sx_if_le (hG : sx_ok l X G cc own Ts rm) {x : Int32} {off : Int} {tgt : Nat} {B : Prop} (hd : decode cc pc = .ok (.ifCond .le off, 3)) (ht : (pc : Int) + off = (tgt : Int)) (hi : (x ≤ 0) ↔ B) (kt : B → sx_W l X G kc ks (tgt) lv (st) ws) (kf : ¬ B → sx_W l X G kc ks (pc + 3) lv (st) ws) : sx_W l X G kc ks (pc) lv (.int x :: st) ws := by
  obtain ⟨D, cI, tC, tA⟩ := X
  obtain ⟨p, e, R, s, m, args, below, meth, c, Q, A, nL⟩ := G
  obtain ⟨hx, hb, hml, hown, hts, hK, hA, rfl, hE⟩ := hG
  intro H locs ls hP hD hS hl
  exact lv_if_le hx hb hd ht (fun h => kt (hi.mp h) H locs ls hP hD hS hl) (fun h => kf (fun b => h (hi.mpr b)) H locs ls hP hD hS hl)
theorem sx_icmp_le (hG : sx_ok l X G cc own Ts rm) {x y : Int32} {off : Int} {tgt : Nat} {B : Prop} (hd : decode cc pc = .ok (.if_icmp .le off, 3)) (ht : (pc : Int) + off = (tgt : Int)) (hi : (x ≤ y) ↔ B) (kt : B → sx_W l X G kc ks (tgt) lv (st) ws) (kf : ¬ B → sx_W l X G kc ks (pc + 3) lv (st) ws) : sx_W l X G kc ks (pc) lv (.int y :: .int x :: st) ws := by
  obtain ⟨D, cI, tC, tA⟩ := X
  obtain ⟨p, e, R, s, m, args, below, meth, c, Q, A, nL⟩ := G
  obtain ⟨hx, hb, hml, hown, hts, hK, hA, rfl, hE⟩ := hG
  intro H locs ls hP hD hS hl
  exact lv_icmp_le hx hb hd ht (fun h => kt (hi.mp h) H locs ls hP hD hS hl) (fun h => kf (fun b => h (hi.mpr b)) H locs ls hP hD hS hl)
theorem sx_goto (hG : sx_ok l X G cc own Ts rm) {off : Int} {tgt : Nat} (hd : decode cc pc = .ok (.goto off, 3)) (ht : (pc : Int) + off = (tgt : Int)) (kk : sx_W l X G kc ks (tgt) lv (st) ws) : sx_W l X G kc ks (pc) lv (st) ws := by
  obtain ⟨D, cI, tC, tA⟩ := X
  obtain ⟨p, e, R, s, m, args, below, meth, c, Q, A, nL⟩ := G
  obtain ⟨hx, hb, hml, hown, hts, hK, hA, rfl, hE⟩ := hG
  intro H locs ls hP hD hS hl
  exact lv_goto hx hb hd ht (kk H locs ls hP hD hS hl)
theorem sx_tswOut (hG : sx_ok l X G cc own Ts rm) {dflt lo hi : Int} {offs : Array Int} {len : Nat} {x : Int32} {tgt : Nat} (hd : decode cc pc = .ok (.tableswitch dflt lo hi offs, len)) (h : x.toInt < lo ∨ hi < x.toInt) (ht : (pc : Int) + dflt = (tgt : Int)) (kk : sx_W l X G kc ks (tgt) lv (st) ws) : sx_W l X G kc ks (pc) lv (.int x :: st) ws := by
  obtain ⟨D, cI, tC, tA⟩ := X
  obtain ⟨p, e, R, s, m, args, below, meth, c, Q, A, nL⟩ := G
  obtain ⟨hx, hb, hml, hown, hts, hK, hA, rfl, hE⟩ := hG
  intro H locs ls hP hD hS hl
  exact lv_tableOut hx hb hd h ht (kk H locs ls hP hD hS hl)
theorem sx_tswIn (hG : sx_ok l X G cc own Ts rm) {dflt lo hi off : Int} {offs : Array Int} {len : Nat} {x : Int32} {tgt : Nat} (hd : decode cc pc = .ok (.tableswitch dflt lo hi offs, len)) (h1 : ¬ x.toInt < lo) (h2 : ¬ hi < x.toInt) (ho : offs[(x.toInt - lo).toNat]? = some off) (ht : (pc : Int) + off = (tgt : Int)) (kk : sx_W l X G kc ks (tgt) lv (st) ws) : sx_W l X G kc ks (pc) lv (.int x :: st) ws := by
  obtain ⟨D, cI, tC, tA⟩ := X
  obtain ⟨p, e, R, s, m, args, below, meth, c, Q, A, nL⟩ := G
  obtain ⟨hx, hb, hml, hown, hts, hK, hA, rfl, hE⟩ := hG
  intro H locs ls hP hD hS hl
  exact lv_tableIn hx hb hd h1 h2 ho ht (kk H locs ls hP hD hS hl)
theorem sx_lookup (hG : sx_ok l X G cc own Ts rm) {dflt off : Int} {ps : Array (Int × Int)} {len : Nat} {x : Int32} {tgt : Nat} (hd : decode cc pc = .ok (.lookupswitch dflt ps, len)) (hp : (ps.toList.zip (ps.toList.drop 1)).all (fun (a, next) => a.1 < next.1) = true) (ho : Op.lookupswitch.offset ps.toList dflt x.toInt = off) (ht : (pc : Int) + off = (tgt : Int)) (kk : sx_W l X G kc ks (tgt) lv (st) ws) : sx_W l X G kc ks (pc) lv (.int x :: st) ws := by
  obtain ⟨D, cI, tC, tA⟩ := X
  obtain ⟨p, e, R, s, m, args, below, meth, c, Q, A, nL⟩ := G
  obtain ⟨hx, hb, hml, hown, hts, hK, hA, rfl, hE⟩ := hG
  intro H locs ls hP hD hS hl
  exact lv_lookup hx hb hd hp ho ht (kk H locs ls hP hD hS hl)
theorem sx_get (hG : sx_ok l X G cc own Ts rm) {C : String} {T : u_T} {N ci index : Nat} (hin : ∀ w ∈ u_ws C T N, w ∈ Ts) (k : Nat) (hfl : Cond.fieldLink own index (T k).1 (T k).2.1 (T k).2.2.1 ∈ Ts) (hd : decode cc pc = .ok (.getfield index, 3)) (hc : vwCl[ci]? = some (C, T, N)) (hk : k < N) (q0 : Nat) {a : Nat} {fs : List Value} (he : ws[q0]? = some (a, .inr (ci, fs))) {v v2 : Value} (hv : fs[k]? = some v) (hv2 : v = v2) (kk : sx_W l X G kc ks (pc + 3) lv (v2 :: st) ws) : sx_W l X G kc ks (pc) lv (.ref a :: st) ws := by
  obtain ⟨D, cI, tC, tA⟩ := X
  obtain ⟨p, e, R, s, m, args, below, meth, c, Q, A, nL⟩ := G
  obtain ⟨hx, hb, hml, hown, hts, hK, hA, rfl, hE⟩ := hG
  intro H locs ls hP hD hS hl
  subst hv2; exact va_get hx hb hts hin hown hK hP q0 he hc k hk (hts _ hfl) (fun _ h => h) hv hd (kk H locs ls hP hD hS hl)
theorem sx_getN (hG : sx_ok l X G cc own Ts rm) {C : String} {T : u_T} {N ci index : Nat} {host : String} (hin : ∀ w ∈ u_ws C T N, w ∈ Ts) (k : Nat) (hfl : Cond.fieldLinkNest own index (T k).1 (T k).2.1 (T k).2.2.1 host ∈ sx_nest) (hd : decode cc pc = .ok (.getfield index, 3)) (hc : vwCl[ci]? = some (C, T, N)) (hk : k < N) (q0 : Nat) {a : Nat} {fs : List Value} (he : ws[q0]? = some (a, .inr (ci, fs))) {v v2 : Value} (hv : fs[k]? = some v) (hv2 : v = v2) (kk : sx_W l X G kc ks (pc + 3) lv (v2 :: st) ws) : sx_W l X G kc ks (pc) lv (.ref a :: st) ws := by
  obtain ⟨D, cI, tC, tA⟩ := X
  obtain ⟨p, e, R, s, m, args, below, meth, c, Q, A, nL⟩ := G
  obtain ⟨hx, hb, hml, hown, hts, hK, hA, rfl, hE⟩ := hG
  intro H locs ls hP hD hS hl
  subst hv2; exact va_getN hx hb hts hin hown hK hP q0 he hc k hk (va_Nw.use rfl (hE.1 _ hfl)) (fun _ h => h) hv hd (kk H locs ls hP hD hS hl)
theorem sx_put (hG : sx_ok l X G cc own Ts rm) {C : String} {T : u_T} {N ci index : Nat} (hin : ∀ w ∈ u_ws C T N, w ∈ Ts) (ty0 : Nat → FieldType) (hty : ∀ k, k < N → parseFieldDescriptor (T k).2.2.1 = some (ty0 k)) (hnm : ∀ a, a < N → ∀ b, b < N → a ≠ b → (T a).2.1 ≠ (T b).2.1) (k : Nat) (hfl : Cond.fieldLink own index (T k).1 (T k).2.1 (T k).2.2.1 ∈ Ts) (hd : decode cc pc = .ok (.putfield index, 3)) (hc : vwCl[ci]? = some (C, T, N)) (hk : k < N) (q0 : Nat) {a : Nat} {fs : List Value} (he : ws[q0]? = some (a, .inr (ci, fs))) {v : Value} {w2 : va_W} (hfin : (T k).2.2.2 = false) (hn : narrow (ty0 k) v = v) (hfit : fits (ty0 k) v = true) (hl2 : k < fs.length) (hw : ws.set q0 (a, .inr (ci, fs.set k v)) = w2) (kk : sx_W l X G kc ks (pc + 3) lv (st) w2) : sx_W l X G kc ks (pc) lv (v :: .ref a :: st) ws := by
  obtain ⟨D, cI, tC, tA⟩ := X
  obtain ⟨p, e, R, s, m, args, below, meth, c, Q, A, nL⟩ := G
  obtain ⟨hx, hb, hml, hown, hts, hK, hA, rfl, hE⟩ := hG
  intro H locs ls hP hD hS hl
  subst hw; exact va_put hx hb hts hin ty0 hty hnm hown hK hP hD hS q0 he hc k hk (hts _ hfl) (fun _ h => h) hfin (hty k hk) hn hfit hl2 hd (fun H1 locs1 hP1 hD1 hS1 => kk H1 locs1 ls hP1 hD1 hS1 hl)
theorem sx_putF (hG : sx_ok l X G cc own Ts rm) {C : String} {T : u_T} {N ci index : Nat} (hin : ∀ w ∈ u_ws C T N, w ∈ Ts) (ty0 : Nat → FieldType) (hty : ∀ k, k < N → parseFieldDescriptor (T k).2.2.1 = some (ty0 k)) (hnm : ∀ a, a < N → ∀ b, b < N → a ≠ b → (T a).2.1 ≠ (T b).2.1) (k : Nat) (hfl : Cond.fieldLink own index (T k).1 (T k).2.1 (T k).2.2.1 ∈ Ts) (hd : decode cc pc = .ok (.putfield index, 3)) (hc : vwCl[ci]? = some (C, T, N)) (hk : k < N) (q0 : Nat) {a : Nat} {fs : List Value} (he : ws[q0]? = some (a, .inr (ci, fs))) {v : Value} {w2 : va_W} (hfin : (T k).2.2.2 = true) (hini : G.2.2.2.2.2.2.2.1.name = "<init>") (hdecl : (T k).1 = own) (hn : narrow (ty0 k) v = v) (hfit : fits (ty0 k) v = true) (hl2 : k < fs.length) (hw : ws.set q0 (a, .inr (ci, fs.set k v)) = w2) (kk : sx_W l X G kc ks (pc + 3) lv (st) w2) : sx_W l X G kc ks (pc) lv (v :: .ref a :: st) ws := by
  obtain ⟨D, cI, tC, tA⟩ := X
  obtain ⟨p, e, R, s, m, args, below, meth, c, Q, A, nL⟩ := G
  obtain ⟨hx, hb, hml, hown, hts, hK, hA, rfl, hE⟩ := hG
  intro H locs ls hP hD hS hl
  subst hw; exact va_putF hx hb hts hin ty0 hty hnm hown hK hP hD hS q0 he hc k hk (hts _ hfl) (fun _ h => h) hfin hini hdecl (hty k hk) hn hfit hl2 hd (fun H1 locs1 hP1 hD1 hS1 => kk H1 locs1 ls hP1 hD1 hS1 hl)
theorem sx_iald (hG : sx_ok l X G cc own Ts rm) (q0 : Nat) {a n k : Nat} {f : Nat → Int32} {v : Int32} (hd : decode cc pc = .ok (.iaload, 1)) (ha : ws[q0]? = some (a, .inl (X.2.1, n, .inl f))) (hn : n < 2 ^ 31) (hk : k < n) (hv : f k = v) (kk : sx_W l X G kc ks (pc + 1) lv (.int v :: st) ws) : sx_W l X G kc ks (pc) lv (.int (nI k) :: .ref a :: st) ws := by
  obtain ⟨D, cI, tC, tA⟩ := X
  obtain ⟨p, e, R, s, m, args, below, meth, c, Q, A, nL⟩ := G
  obtain ⟨hx, hb, hml, hown, hts, hK, hA, rfl, hE⟩ := hG
  intro H locs ls hP hD hS hl
  exact va_iald hx hb hK hP q0 0 ha rfl (vp_in_nI hk hn) hd (by rw [nI_clamp (Nat.lt_trans hk hn), hv]; exact kk H locs ls hP hD hS hl)
theorem sx_iast (hG : sx_ok l X G cc own Ts rm) (q0 : Nat) {a n k : Nat} {f : Nat → Int32} {x : Int32} {w2 : va_W} (hd : decode cc pc = .ok (.iastore, 1)) (ha : ws[q0]? = some (a, .inl (X.2.1, n, .inl f))) (hn : n < 2 ^ 31) (hk : k < n) (hw : ws.set q0 (a, .inl (X.2.1, n, .inl (upd f k x))) = w2) (kk : sx_W l X G kc ks (pc + 1) lv (st) w2) : sx_W l X G kc ks (pc) lv (.int x :: .int (nI k) :: .ref a :: st) ws := by
  obtain ⟨D, cI, tC, tA⟩ := X
  obtain ⟨p, e, R, s, m, args, below, meth, c, Q, A, nL⟩ := G
  obtain ⟨hx, hb, hml, hown, hts, hK, hA, rfl, hE⟩ := hG
  intro H locs ls hP hD hS hl
  subst hw; exact va_iast hx hb hK hP hD hS q0 0 ha rfl (vp_in_nI hk hn) hd (fun H1 locs1 hP1 hD1 hS1 => by rw [nI_clamp (Nat.lt_trans hk hn)] at hP1 hD1; exact kk H1 locs1 ls hP1 hD1 hS1 hl)
theorem sx_iastN (hG : sx_ok l X G cc own Ts rm) (q0 : Nat) {a n k x : Nat} {f : Nat → Nat} {w2 : va_W} (hd : decode cc pc = .ok (.iastore, 1)) (ha : ws[q0]? = some (a, .inl (X.2.1, n, .inl (fun j => nI (f j))))) (hn : n < 2 ^ 31) (hk : k < n) (hw : ws.set q0 (a, .inl (X.2.1, n, .inl (fun j => nI (va_up f k x j)))) = w2) (kk : sx_W l X G kc ks (pc + 1) lv (st) w2) : sx_W l X G kc ks (pc) lv (.int (nI x) :: .int (nI k) :: .ref a :: st) ws := by
  obtain ⟨D, cI, tC, tA⟩ := X
  obtain ⟨p, e, R, s, m, args, below, meth, c, Q, A, nL⟩ := G
  obtain ⟨hx, hb, hml, hown, hts, hK, hA, rfl, hE⟩ := hG
  intro H locs ls hP hD hS hl
  subst hw; exact va_iast hx hb hK hP hD hS q0 0 ha rfl (vp_in_nI hk hn) hd (fun H1 locs1 hP1 hD1 hS1 => by rw [nI_clamp (Nat.lt_trans hk hn), sx_updN] at hP1 hD1; exact kk H1 locs1 ls hP1 hD1 hS1 hl)
theorem sx_alen (hG : sx_ok l X G cc own Ts rm) (q0 : Nat) {a n : Nat} {f : Nat → Int32} (hd : decode cc pc = .ok (.arraylength, 1)) (ha : ws[q0]? = some (a, .inl (X.2.1, n, .inl f))) (kk : sx_W l X G kc ks (pc + 1) lv (.int (nI n) :: st) ws) : sx_W l X G kc ks (pc) lv (.ref a :: st) ws := by
  obtain ⟨D, cI, tC, tA⟩ := X
  obtain ⟨p, e, R, s, m, args, below, meth, c, Q, A, nL⟩ := G
  obtain ⟨hx, hb, hml, hown, hts, hK, hA, rfl, hE⟩ := hG
  intro H locs ls hP hD hS hl
  exact va_alen hx hb hK hP q0 0 ha rfl rfl hd (kk H locs ls hP hD hS hl)
theorem sx_top {x y : Int32} (h : x = y) (kk : sx_W l X G kc ks pc lv (.int y :: st) ws) : sx_W l X G kc ks pc lv (.int x :: st) ws := by subst h; exact kk
theorem sx_weq {w2 : va_W} (h : ws = w2) (kk : sx_W l X G kc ks pc lv st w2) : sx_W l X G kc ks pc lv st ws := by subst h; exact kk
theorem sx_lsub {lv2 : List (Nat × Value)} (ks2 : List Nat) (h : lv_pick lv ks2 = lv2) (kk : sx_W l X G kc ks pc lv2 st ws) : sx_W l X G kc ks pc lv st ws := by
  obtain ⟨D, cI, tC, tA⟩ := X
  obtain ⟨p, e, R, s, m, args, below, meth, c, Q, A, nL⟩ := G
  intro H locs ls hP hD hS hl
  exact kk H locs ls hP hD hS (lv_sub hl ks2 h)
theorem sx_widen {k2 n2 : Nat} (h1 : kc ≤ k2) (h2 : ks ≤ n2) (kk : sx_W l X G k2 n2 pc lv st ws) : sx_W l X G kc ks pc lv st ws := by
  obtain ⟨D, cI, tC, tA⟩ := X
  obtain ⟨p, e, R, s, m, args, below, meth, c, Q, A, nL⟩ := G
  intro H locs ls hP hD hS hl
  exact W.widen h1 h2 (kk H locs ls hP hD hS hl)
theorem sx_wsub {w2 : va_W} (is : List Nat) (hn : va_nd is = true) (h : is.map (fun i => ws[i]?) = w2.map some) (kk : sx_W l X G kc ks pc lv st w2) : sx_W l X G kc ks pc lv st ws := by
  obtain ⟨D, cI, tC, tA⟩ := X
  obtain ⟨p, e, R, s, m, args, below, meth, c, Q, A, nL⟩ := G
  intro H locs ls hP hD hS hl
  refine kk H locs ls (hP.sub is ?_) (hD.sub is hn h) hS hl
  have e1 : is.filterMap (fun i => ws[i]?) = (is.map (fun i => ws[i]?)).filterMap id := by rw [List.filterMap_map]; rfl
  rw [e1, h, List.filterMap_map]
  simp
theorem sx_mmax (hG : sx_ok l X G cc own Ts rm) {x y v : Int32} {index : Nat} (hm : Cond.methodLink own index Lib.Math.max.name ∈ Ts ∧ Cond.static Lib.Math.max.name ∈ Ts ∧ Cond.initialized "java/lang/Math" ∈ Ts ∧ Cond.code Lib.Math.max.name Lib.Math.max.code 2 (some .int) ∈ Ts) (hd : decode cc pc = .ok (.invokestatic index, 3)) (hr1 : 1 ≤ rm.frames) (hr2 : (st.map fun v => v.category).sum + 13 ≤ rm.locals) (hr3 : kc ≤ rm.cells) (hr4 : ks ≤ rm.slots) (hv : (if x < y then y else x) = v) (kk : sx_W l X G kc ks (pc + 3) lv (.int v :: st) ws) : sx_W l X G kc ks (pc) lv (.int y :: .int x :: st) ws := by
  obtain ⟨D, cI, tC, tA⟩ := X
  obtain ⟨p, e, R, s, m, args, below, meth, c, Q, A, nL⟩ := G
  obtain ⟨hx, hb, hml, hown, hts, hK, hA, rfl, hE⟩ := hG
  intro H locs ls hP hD hS hl
  subst hv; exact va_mmax hx hb (by rw [hml]; exact hl.1.symm) hown (hts _ hm.1) (hts _ hm.2.1) (hts _ hm.2.2.1) (hts _ hm.2.2.2) hr1 hr2 hr3 hr4 hd (kk H locs ls hP hD hS hl)
theorem sx_mmin (hG : sx_ok l X G cc own Ts rm) {x y v : Int32} {index : Nat} (hm : Cond.methodLink own index Lib.Math.min.name ∈ Ts ∧ Cond.static Lib.Math.min.name ∈ Ts ∧ Cond.initialized "java/lang/Math" ∈ Ts ∧ Cond.code Lib.Math.min.name Lib.Math.min.code 2 (some .int) ∈ Ts) (hd : decode cc pc = .ok (.invokestatic index, 3)) (hr1 : 1 ≤ rm.frames) (hr2 : (st.map fun v => v.category).sum + 13 ≤ rm.locals) (hr3 : kc ≤ rm.cells) (hr4 : ks ≤ rm.slots) (hv : (if y < x then y else x) = v) (kk : sx_W l X G kc ks (pc + 3) lv (.int v :: st) ws) : sx_W l X G kc ks (pc) lv (.int y :: .int x :: st) ws := by
  obtain ⟨D, cI, tC, tA⟩ := X
  obtain ⟨p, e, R, s, m, args, below, meth, c, Q, A, nL⟩ := G
  obtain ⟨hx, hb, hml, hown, hts, hK, hA, rfl, hE⟩ := hG
  intro H locs ls hP hD hS hl
  subst hv; exact va_mmin hx hb (by rw [hml]; exact hl.1.symm) hown (hts _ hm.1) (hts _ hm.2.1) (hts _ hm.2.2.1) (hts _ hm.2.2.2) hr1 hr2 hr3 hr4 hd (kk H locs ls hP hD hS hl)
theorem sx_mabs (hG : sx_ok l X G cc own Ts rm) {x v : Int32} {index : Nat} (hm : Cond.methodLink own index Lib.Math.abs.name ∈ Ts ∧ Cond.static Lib.Math.abs.name ∈ Ts ∧ Cond.initialized "java/lang/Math" ∈ Ts ∧ Cond.code Lib.Math.abs.name Lib.Math.abs.code 1 (some .int) ∈ Ts) (hd : decode cc pc = .ok (.invokestatic index, 3)) (hr1 : 1 ≤ rm.frames) (hr2 : (st.map fun v => v.category).sum + 13 ≤ rm.locals) (hr3 : kc ≤ rm.cells) (hr4 : ks ≤ rm.slots) (hv : (if 0 ≤ x then x else 0 - x) = v) (kk : sx_W l X G kc ks (pc + 3) lv (.int v :: st) ws) : sx_W l X G kc ks (pc) lv (.int x :: st) ws := by
  obtain ⟨D, cI, tC, tA⟩ := X
  obtain ⟨p, e, R, s, m, args, below, meth, c, Q, A, nL⟩ := G
  obtain ⟨hx, hb, hml, hown, hts, hK, hA, rfl, hE⟩ := hG
  intro H locs ls hP hD hS hl
  subst hv; exact va_mabs hx hb (by rw [hml]; exact hl.1.symm) hown (hts _ hm.1) (hts _ hm.2.1) (hts _ hm.2.2.1) (hts _ hm.2.2.2) hr1 hr2 hr3 hr4 hd (kk H locs ls hP hD hS hl)
theorem sx_nd_range (n : Nat) : va_nd (List.range n) = true := by
  have key : ∀ l : List Nat, l.Nodup → va_nd l = true := by
    intro l
    induction l with
    | nil => intro _; rfl
    | cons a l ih =>
      intro h
      have h2 := List.nodup_cons.mp h
      simp [va_nd, h2.1, ih h2.2]
  exact key _ List.nodup_range
theorem sx_range {α : Type} (ws : List α) : (List.range ws.length).map (fun i => ws[i]?) = ws.map some := by
  apply List.ext_getElem?
  intro i
  by_cases h : i < ws.length
  · simp [h]
  · simp [h]
theorem sx_callVi (hG : sx_ok l X G cc own Ts rm) {y : MethodName} {wsY wsY2 : List Cond} {rmY : Room} {As : List Value} {post : Int32 → va_W → Prop} {mc ms index maxL n9 : Nat} {bytes : ByteArray} {ret : Option FieldType} {Wc wr : va_W} {b : Nat} {C : String} {ci : Nat} {fs : List Value} {q : vw_C} (hM : sx_Mi l y wsY rmY X (.ref b :: As) Wc post mc ms) (hg : GoodIn Ts (wsV own index C y wsY)) (hw : wsY = Cond.code y bytes maxL ret :: wsY2) (hd2 : y.cls = C ∧ y.cls ≠ "java/lang/invoke/MethodHandle" ∧ y.cls ≠ "java/lang/invoke/VarHandle" ∧ (parseMethodDescriptor y.desc).map (fun d => d.parameters.length) = some n9) (hn9 : As.length = n9) (q0 : Nat) (he : Wc[q0]? = some (b, .inr (ci, fs))) (hc : vwCl[ci]? = some q) (hq : q.1 = C) (hd : decode cc pc = .ok (.invokevirtual index, 3)) (hrm : rmY.cells = mc ∧ rmY.slots = ms) (hRm : rmY.frames + 1 ≤ rm.frames ∧ 8 + (maxL + 11) + rmY.locals ≤ rm.locals) (hst : (st.map fun v => v.category).sum ≤ 8) (hroom : kc + mc ≤ rm.cells ∧ ks + ms ≤ rm.slots) (isC isR : List Nat) (hC : isC.map (fun i => ws[i]?) = Wc.map some) (hR2 : isR.map (fun i => ws[i]?) = wr.map some) (hndC : va_nd isC = true) (hnd : va_nd isR = true) (hdis : ∀ i ∈ isR, i ∉ isC) (kk : ∀ (r : Int32) (w1 : va_W), post r w1 → sx_W l X G (kc + mc) (ks + ms) (pc + 3) lv (.int r :: st) (wr ++ w1)) : sx_W l X G kc ks (pc) lv (As.reverse ++ .ref b :: st) ws := by
  obtain ⟨D, cI, tC, tA⟩ := X
  obtain ⟨p, e, R, s, m, args, below, meth, c, Q, A, nL⟩ := G
  obtain ⟨hx, hb, hml, hown, hts, hK, hA, rfl, hE⟩ := hG
  intro H locs ls hP hD hS hl
  have hPc := hP.sub (ws' := Wc) isC (by
    have e1 : isC.filterMap (fun i => ws[i]?) = (isC.map (fun i => ws[i]?)).filterMap id := by rw [List.filterMap_map]; rfl
    rw [e1, hC, List.filterMap_map]; simp)
  have hFc := va_free (wc := Wc) hD hS hA isC hC
  have hEc : ∀ U : State, U.heap = H → s.WarmedH U.vm → sx_E (va_A Wc H.size) tC tA U U.heap := fun U hU hW => hE.to hW (fun q h1 h2 => by rw [hU]; exact hS.2.1 q h1 h2) hFc
  have hDt : va_D (fun _ => True) Wc := (hD.sub isC hndC hC).weaken (fun _ _ _ _ => trivial)
  refine va_calli (va_runV (As := As) (rest := st) ⟨hx, hb, hml, hown, hts⟩ (hM H.size) (cwV n9 hts hg hw hrm.1 hrm.2 hd2 hRm) ⟨sx_blind _ _ _ _, by have hz := va_recv hK hPc hc he; rw [hq] at hz; exact hz, fun U hU hW => ⟨rfl, by rw [hU], by rw [hU]; exact hPc, va_K.moved hW.alike hK, hDt, hEc U hU hW⟩⟩ rfl hn9 hl.1 rfl (lv_room hst) hd hroom) hS (fun q _ h => hFc q h) hFc (fun r w1 t H1 locs1 ht hvm hp hB hz1 hk1 hS1 => ?_)
  obtain ⟨hP1, hK1, hD1⟩ := hB
  rw [ht] at hP1
  obtain ⟨hP2, hD2⟩ := va_join (wr := wr) (w1 := w1) hP hD isC isR hC hR2 hnd hdis hk1 hFc hP1 hD1
  exact kk r w1 hp H1 locs1 ls hP2 hD2 hS1 hl
theorem sx_callViw (hG : sx_ok l X G cc own Ts rm) {y : MethodName} {wsY wsY2 : List Cond} {rmY : Room} {As : List Value} {post : Int32 → va_W → Prop} {mc ms index maxL n9 : Nat} {bytes : ByteArray} {ret : Option FieldType} {b : Nat} {C : String} {ci : Nat} {fs : List Value} {q : vw_C} (hM : sx_Mi l y wsY rmY X (.ref b :: As) ws post mc ms) (hg : GoodIn Ts (wsV own index C y wsY)) (hw : wsY = Cond.code y bytes maxL ret :: wsY2) (hd2 : y.cls = C ∧ y.cls ≠ "java/lang/invoke/MethodHandle" ∧ y.cls ≠ "java/lang/invoke/VarHandle" ∧ (parseMethodDescriptor y.desc).map (fun d => d.parameters.length) = some n9) (hn9 : As.length = n9) (q0 : Nat) (he : ws[q0]? = some (b, .inr (ci, fs))) (hc : vwCl[ci]? = some q) (hq : q.1 = C) (hd : decode cc pc = .ok (.invokevirtual index, 3)) (hrm : rmY.cells = mc ∧ rmY.slots = ms) (hRm : rmY.frames + 1 ≤ rm.frames ∧ 8 + (maxL + 11) + rmY.locals ≤ rm.locals) (hst : (st.map fun v => v.category).sum ≤ 8) (hroom : kc + mc ≤ rm.cells ∧ ks + ms ≤ rm.slots) (kk : ∀ (r : Int32) (w1 : va_W), post r w1 → sx_W l X G (kc + mc) (ks + ms) (pc + 3) lv (.int r :: st) w1) : sx_W l X G kc ks (pc) lv (As.reverse ++ .ref b :: st) ws :=
  sx_callVi hG hM hg hw hd2 hn9 q0 he hc hq hd hrm hRm hst hroom (Wc := ws) (wr := []) (List.range ws.length) [] (sx_range ws) rfl (sx_nd_range _) rfl (fun i h => by cases h) (fun r w1 hp => kk r w1 hp)
theorem sx_callVv (hG : sx_ok l X G cc own Ts rm) {y : MethodName} {wsY wsY2 : List Cond} {rmY : Room} {As : List Value} {post : va_W → Prop} {mc ms index maxL n9 : Nat} {bytes : ByteArray} {ret : Option FieldType} {Wc wr : va_W} {b : Nat} {C : String} {ci : Nat} {fs : List Value} {q : vw_C} (hM : sx_Mv l y wsY rmY X (.ref b :: As) Wc post mc ms) (hg : GoodIn Ts (wsV own index C y wsY)) (hw : wsY = Cond.code y bytes maxL ret :: wsY2) (hd2 : y.cls = C ∧ y.cls ≠ "java/lang/invoke/MethodHandle" ∧ y.cls ≠ "java/lang/invoke/VarHandle" ∧ (parseMethodDescriptor y.desc).map (fun d => d.parameters.length) = some n9) (hn9 : As.length = n9) (q0 : Nat) (he : Wc[q0]? = some (b, .inr (ci, fs))) (hc : vwCl[ci]? = some q) (hq : q.1 = C) (hd : decode cc pc = .ok (.invokevirtual index, 3)) (hrm : rmY.cells = mc ∧ rmY.slots = ms) (hRm : rmY.frames + 1 ≤ rm.frames ∧ 8 + (maxL + 11) + rmY.locals ≤ rm.locals) (hst : (st.map fun v => v.category).sum ≤ 8) (hroom : kc + mc ≤ rm.cells ∧ ks + ms ≤ rm.slots) (isC isR : List Nat) (hC : isC.map (fun i => ws[i]?) = Wc.map some) (hR2 : isR.map (fun i => ws[i]?) = wr.map some) (hndC : va_nd isC = true) (hnd : va_nd isR = true) (hdis : ∀ i ∈ isR, i ∉ isC) (kk : ∀ (w1 : va_W), post w1 → sx_W l X G (kc + mc) (ks + ms) (pc + 3) lv (st) (wr ++ w1)) : sx_W l X G kc ks (pc) lv (As.reverse ++ .ref b :: st) ws := by
  obtain ⟨D, cI, tC, tA⟩ := X
  obtain ⟨p, e, R, s, m, args, below, meth, c, Q, A, nL⟩ := G
  obtain ⟨hx, hb, hml, hown, hts, hK, hA, rfl, hE⟩ := hG
  intro H locs ls hP hD hS hl
  have hPc := hP.sub (ws' := Wc) isC (by
    have e1 : isC.filterMap (fun i => ws[i]?) = (isC.map (fun i => ws[i]?)).filterMap id := by rw [List.filterMap_map]; rfl
    rw [e1, hC, List.filterMap_map]; simp)
  have hFc := va_free (wc := Wc) hD hS hA isC hC
  have hEc : ∀ U : State, U.heap = H → s.WarmedH U.vm → sx_E (va_A Wc H.size) tC tA U U.heap := fun U hU hW => hE.to hW (fun q h1 h2 => by rw [hU]; exact hS.2.1 q h1 h2) hFc
  have hDt : va_D (fun _ => True) Wc := (hD.sub isC hndC hC).weaken (fun _ _ _ _ => trivial)
  refine va_callv (va_runV (As := As) (rest := st) ⟨hx, hb, hml, hown, hts⟩ (hM H.size) (cwV n9 hts hg hw hrm.1 hrm.2 hd2 hRm) ⟨sx_blind _ _ _ _, by have hz := va_recv hK hPc hc he; rw [hq] at hz; exact hz, fun U hU hW => ⟨rfl, by rw [hU], by rw [hU]; exact hPc, va_K.moved hW.alike hK, hDt, hEc U hU hW⟩⟩ rfl hn9 hl.1 rfl (lv_room hst) hd hroom) hS (fun q _ h => hFc q h) hFc (fun w1 t H1 locs1 ht hvm hp hB hz1 hk1 hS1 => ?_)
  obtain ⟨hP1, hK1, hD1⟩ := hB
  rw [ht] at hP1
  obtain ⟨hP2, hD2⟩ := va_join (wr := wr) (w1 := w1) hP hD isC isR hC hR2 hnd hdis hk1 hFc hP1 hD1
  exact kk w1 hp H1 locs1 ls hP2 hD2 hS1 hl
theorem sx_callVvw (hG : sx_ok l X G cc own Ts rm) {y : MethodName} {wsY wsY2 : List Cond} {rmY : Room} {As : List Value} {post : va_W → Prop} {mc ms index maxL n9 : Nat} {bytes : ByteArray} {ret : Option FieldType} {b : Nat} {C : String} {ci : Nat} {fs : List Value} {q : vw_C} (hM : sx_Mv l y wsY rmY X (.ref b :: As) ws post mc ms) (hg : GoodIn Ts (wsV own index C y wsY)) (hw : wsY = Cond.code y bytes maxL ret :: wsY2) (hd2 : y.cls = C ∧ y.cls ≠ "java/lang/invoke/MethodHandle" ∧ y.cls ≠ "java/lang/invoke/VarHandle" ∧ (parseMethodDescriptor y.desc).map (fun d => d.parameters.length) = some n9) (hn9 : As.length = n9) (q0 : Nat) (he : ws[q0]? = some (b, .inr (ci, fs))) (hc : vwCl[ci]? = some q) (hq : q.1 = C) (hd : decode cc pc = .ok (.invokevirtual index, 3)) (hrm : rmY.cells = mc ∧ rmY.slots = ms) (hRm : rmY.frames + 1 ≤ rm.frames ∧ 8 + (maxL + 11) + rmY.locals ≤ rm.locals) (hst : (st.map fun v => v.category).sum ≤ 8) (hroom : kc + mc ≤ rm.cells ∧ ks + ms ≤ rm.slots) (kk : ∀ (w1 : va_W), post w1 → sx_W l X G (kc + mc) (ks + ms) (pc + 3) lv (st) w1) : sx_W l X G kc ks (pc) lv (As.reverse ++ .ref b :: st) ws :=
  sx_callVv hG hM hg hw hd2 hn9 q0 he hc hq hd hrm hRm hst hroom (Wc := ws) (wr := []) (List.range ws.length) [] (sx_range ws) rfl (sx_nd_range _) rfl (fun i h => by cases h) (fun w1 hp => kk w1 hp)
theorem sx_callSi (hG : sx_ok l X G cc own Ts rm) {y : MethodName} {wsY wsY2 : List Cond} {rmY : Room} {As : List Value} {post : Int32 → va_W → Prop} {mc ms index maxL n9 : Nat} {bytes : ByteArray} {ret : Option FieldType} {Wc wr : va_W} (hM : sx_Mi l y wsY rmY X As Wc post mc ms) (hg : GoodIn Ts (va_wsS own index y wsY)) (hw : wsY = Cond.code y bytes maxL ret :: wsY2) (hd2 : y.cls ≠ "java/lang/invoke/MethodHandle" ∧ y.cls ≠ "java/lang/invoke/VarHandle" ∧ (parseMethodDescriptor y.desc).map (fun d => d.parameters.length) = some n9) (hn9 : As.length = n9) (hd : decode cc pc = .ok (.invokestatic index, 3)) (hrm : rmY.cells = mc ∧ rmY.slots = ms) (hRm : rmY.frames + 1 ≤ rm.frames ∧ 8 + (maxL + 11) + rmY.locals ≤ rm.locals) (hst : (st.map fun v => v.category).sum ≤ 8) (hroom : kc + mc ≤ rm.cells ∧ ks + ms ≤ rm.slots) (isC isR : List Nat) (hC : isC.map (fun i => ws[i]?) = Wc.map some) (hR2 : isR.map (fun i => ws[i]?) = wr.map some) (hndC : va_nd isC = true) (hnd : va_nd isR = true) (hdis : ∀ i ∈ isR, i ∉ isC) (kk : ∀ (r : Int32) (w1 : va_W), post r w1 → sx_W l X G (kc + mc) (ks + ms) (pc + 3) lv (.int r :: st) (wr ++ w1)) : sx_W l X G kc ks (pc) lv (As.reverse ++ st) ws := by
  obtain ⟨D, cI, tC, tA⟩ := X
  obtain ⟨p, e, R, s, m, args, below, meth, c, Q, A, nL⟩ := G
  obtain ⟨hx, hb, hml, hown, hts, hK, hA, rfl, hE⟩ := hG
  intro H locs ls hP hD hS hl
  have hPc := hP.sub (ws' := Wc) isC (by
    have e1 : isC.filterMap (fun i => ws[i]?) = (isC.map (fun i => ws[i]?)).filterMap id := by rw [List.filterMap_map]; rfl
    rw [e1, hC, List.filterMap_map]; simp)
  have hFc := va_free (wc := Wc) hD hS hA isC hC
  have hEc : ∀ U : State, U.heap = H → s.WarmedH U.vm → sx_E (va_A Wc H.size) tC tA U U.heap := fun U hU hW => hE.to hW (fun q h1 h2 => by rw [hU]; exact hS.2.1 q h1 h2) hFc
  have hDt : va_D (fun _ => True) Wc := (hD.sub isC hndC hC).weaken (fun _ _ _ _ => trivial)
  refine va_calli (va_runS (As := As) (rest := st) ⟨hx, hb, hml, hown, hts⟩ (hM H.size) (va_cwS n9 hts hg hw hrm.1 hrm.2 hd2 hRm) ⟨sx_blind _ _ _ _, fun U hU hW => ⟨rfl, by rw [hU], by rw [hU]; exact hPc, va_K.moved hW.alike hK, hDt, hEc U hU hW⟩⟩ rfl hn9 hl.1 rfl (lv_room hst) hd hroom) hS (fun q _ h => hFc q h) hFc (fun r w1 t H1 locs1 ht hvm hp hB hz1 hk1 hS1 => ?_)
  obtain ⟨hP1, hK1, hD1⟩ := hB
  rw [ht] at hP1
  obtain ⟨hP2, hD2⟩ := va_join (wr := wr) (w1 := w1) hP hD isC isR hC hR2 hnd hdis hk1 hFc hP1 hD1
  exact kk r w1 hp H1 locs1 ls hP2 hD2 hS1 hl
theorem sx_callSiw (hG : sx_ok l X G cc own Ts rm) {y : MethodName} {wsY wsY2 : List Cond} {rmY : Room} {As : List Value} {post : Int32 → va_W → Prop} {mc ms index maxL n9 : Nat} {bytes : ByteArray} {ret : Option FieldType} (hM : sx_Mi l y wsY rmY X As ws post mc ms) (hg : GoodIn Ts (va_wsS own index y wsY)) (hw : wsY = Cond.code y bytes maxL ret :: wsY2) (hd2 : y.cls ≠ "java/lang/invoke/MethodHandle" ∧ y.cls ≠ "java/lang/invoke/VarHandle" ∧ (parseMethodDescriptor y.desc).map (fun d => d.parameters.length) = some n9) (hn9 : As.length = n9) (hd : decode cc pc = .ok (.invokestatic index, 3)) (hrm : rmY.cells = mc ∧ rmY.slots = ms) (hRm : rmY.frames + 1 ≤ rm.frames ∧ 8 + (maxL + 11) + rmY.locals ≤ rm.locals) (hst : (st.map fun v => v.category).sum ≤ 8) (hroom : kc + mc ≤ rm.cells ∧ ks + ms ≤ rm.slots) (kk : ∀ (r : Int32) (w1 : va_W), post r w1 → sx_W l X G (kc + mc) (ks + ms) (pc + 3) lv (.int r :: st) w1) : sx_W l X G kc ks (pc) lv (As.reverse ++ st) ws :=
  sx_callSi hG hM hg hw hd2 hn9 hd hrm hRm hst hroom (Wc := ws) (wr := []) (List.range ws.length) [] (sx_range ws) rfl (sx_nd_range _) rfl (fun i h => by cases h) (fun r w1 hp => kk r w1 hp)
theorem sx_callSv (hG : sx_ok l X G cc own Ts rm) {y : MethodName} {wsY wsY2 : List Cond} {rmY : Room} {As : List Value} {post : va_W → Prop} {mc ms index maxL n9 : Nat} {bytes : ByteArray} {ret : Option FieldType} {Wc wr : va_W} (hM : sx_Mv l y wsY rmY X As Wc post mc ms) (hg : GoodIn Ts (va_wsS own index y wsY)) (hw : wsY = Cond.code y bytes maxL ret :: wsY2) (hd2 : y.cls ≠ "java/lang/invoke/MethodHandle" ∧ y.cls ≠ "java/lang/invoke/VarHandle" ∧ (parseMethodDescriptor y.desc).map (fun d => d.parameters.length) = some n9) (hn9 : As.length = n9) (hd : decode cc pc = .ok (.invokestatic index, 3)) (hrm : rmY.cells = mc ∧ rmY.slots = ms) (hRm : rmY.frames + 1 ≤ rm.frames ∧ 8 + (maxL + 11) + rmY.locals ≤ rm.locals) (hst : (st.map fun v => v.category).sum ≤ 8) (hroom : kc + mc ≤ rm.cells ∧ ks + ms ≤ rm.slots) (isC isR : List Nat) (hC : isC.map (fun i => ws[i]?) = Wc.map some) (hR2 : isR.map (fun i => ws[i]?) = wr.map some) (hndC : va_nd isC = true) (hnd : va_nd isR = true) (hdis : ∀ i ∈ isR, i ∉ isC) (kk : ∀ (w1 : va_W), post w1 → sx_W l X G (kc + mc) (ks + ms) (pc + 3) lv (st) (wr ++ w1)) : sx_W l X G kc ks (pc) lv (As.reverse ++ st) ws := by
  obtain ⟨D, cI, tC, tA⟩ := X
  obtain ⟨p, e, R, s, m, args, below, meth, c, Q, A, nL⟩ := G
  obtain ⟨hx, hb, hml, hown, hts, hK, hA, rfl, hE⟩ := hG
  intro H locs ls hP hD hS hl
  have hPc := hP.sub (ws' := Wc) isC (by
    have e1 : isC.filterMap (fun i => ws[i]?) = (isC.map (fun i => ws[i]?)).filterMap id := by rw [List.filterMap_map]; rfl
    rw [e1, hC, List.filterMap_map]; simp)
  have hFc := va_free (wc := Wc) hD hS hA isC hC
  have hEc : ∀ U : State, U.heap = H → s.WarmedH U.vm → sx_E (va_A Wc H.size) tC tA U U.heap := fun U hU hW => hE.to hW (fun q h1 h2 => by rw [hU]; exact hS.2.1 q h1 h2) hFc
  have hDt : va_D (fun _ => True) Wc := (hD.sub isC hndC hC).weaken (fun _ _ _ _ => trivial)
  refine va_callv (va_runS (As := As) (rest := st) ⟨hx, hb, hml, hown, hts⟩ (hM H.size) (va_cwS n9 hts hg hw hrm.1 hrm.2 hd2 hRm) ⟨sx_blind _ _ _ _, fun U hU hW => ⟨rfl, by rw [hU], by rw [hU]; exact hPc, va_K.moved hW.alike hK, hDt, hEc U hU hW⟩⟩ rfl hn9 hl.1 rfl (lv_room hst) hd hroom) hS (fun q _ h => hFc q h) hFc (fun w1 t H1 locs1 ht hvm hp hB hz1 hk1 hS1 => ?_)
  obtain ⟨hP1, hK1, hD1⟩ := hB
  rw [ht] at hP1
  obtain ⟨hP2, hD2⟩ := va_join (wr := wr) (w1 := w1) hP hD isC isR hC hR2 hnd hdis hk1 hFc hP1 hD1
  exact kk w1 hp H1 locs1 ls hP2 hD2 hS1 hl
theorem sx_callSvw (hG : sx_ok l X G cc own Ts rm) {y : MethodName} {wsY wsY2 : List Cond} {rmY : Room} {As : List Value} {post : va_W → Prop} {mc ms index maxL n9 : Nat} {bytes : ByteArray} {ret : Option FieldType} (hM : sx_Mv l y wsY rmY X As ws post mc ms) (hg : GoodIn Ts (va_wsS own index y wsY)) (hw : wsY = Cond.code y bytes maxL ret :: wsY2) (hd2 : y.cls ≠ "java/lang/invoke/MethodHandle" ∧ y.cls ≠ "java/lang/invoke/VarHandle" ∧ (parseMethodDescriptor y.desc).map (fun d => d.parameters.length) = some n9) (hn9 : As.length = n9) (hd : decode cc pc = .ok (.invokestatic index, 3)) (hrm : rmY.cells = mc ∧ rmY.slots = ms) (hRm : rmY.frames + 1 ≤ rm.frames ∧ 8 + (maxL + 11) + rmY.locals ≤ rm.locals) (hst : (st.map fun v => v.category).sum ≤ 8) (hroom : kc + mc ≤ rm.cells ∧ ks + ms ≤ rm.slots) (kk : ∀ (w1 : va_W), post w1 → sx_W l X G (kc + mc) (ks + ms) (pc + 3) lv (st) w1) : sx_W l X G kc ks (pc) lv (As.reverse ++ st) ws :=
  sx_callSv hG hM hg hw hd2 hn9 hd hrm hRm hst hroom (Wc := ws) (wr := []) (List.range ws.length) [] (sx_range ws) rfl (sx_nd_range _) rfl (fun i h => by cases h) (fun w1 hp => kk w1 hp)
theorem sx_callSNi (hG : sx_ok l X G cc own Ts rm) {y : MethodName} {wsY wsY2 : List Cond} {rmY : Room} {As : List Value} {post : Int32 → va_W → Prop} {mc ms index maxL n9 : Nat} {bytes : ByteArray} {ret : Option FieldType} {Wc wr : va_W} (hM : sx_Mi l y wsY rmY X As Wc post mc ms) {host : String} (hg : GoodIn Ts wsY) (hw : wsY = Cond.code y bytes maxL ret :: wsY2) (hni : Cond.methodLinkNest own index y host ∈ sx_nest) (hsi : Cond.static y ∈ Ts ∧ Cond.initialized y.cls ∈ Ts) (hd2 : y.cls ≠ "java/lang/invoke/MethodHandle" ∧ y.cls ≠ "java/lang/invoke/VarHandle" ∧ (parseMethodDescriptor y.desc).map (fun d => d.parameters.length) = some n9) (hn9 : As.length = n9) (hd : decode cc pc = .ok (.invokestatic index, 3)) (hrm : rmY.cells = mc ∧ rmY.slots = ms) (hRm : rmY.frames + 1 ≤ rm.frames ∧ 8 + (maxL + 11) + rmY.locals ≤ rm.locals) (hst : (st.map fun v => v.category).sum ≤ 8) (hroom : kc + mc ≤ rm.cells ∧ ks + ms ≤ rm.slots) (isC isR : List Nat) (hC : isC.map (fun i => ws[i]?) = Wc.map some) (hR2 : isR.map (fun i => ws[i]?) = wr.map some) (hndC : va_nd isC = true) (hnd : va_nd isR = true) (hdis : ∀ i ∈ isR, i ∉ isC) (kk : ∀ (r : Int32) (w1 : va_W), post r w1 → sx_W l X G (kc + mc) (ks + ms) (pc + 3) lv (.int r :: st) (wr ++ w1)) : sx_W l X G kc ks (pc) lv (As.reverse ++ st) ws := by
  obtain ⟨D, cI, tC, tA⟩ := X
  obtain ⟨p, e, R, s, m, args, below, meth, c, Q, A, nL⟩ := G
  obtain ⟨hx, hb, hml, hown, hts, hK, hA, rfl, hE⟩ := hG
  intro H locs ls hP hD hS hl
  have hPc := hP.sub (ws' := Wc) isC (by
    have e1 : isC.filterMap (fun i => ws[i]?) = (isC.map (fun i => ws[i]?)).filterMap id := by rw [List.filterMap_map]; rfl
    rw [e1, hC, List.filterMap_map]; simp)
  have hFc := va_free (wc := Wc) hD hS hA isC hC
  have hEc : ∀ U : State, U.heap = H → s.WarmedH U.vm → sx_E (va_A Wc H.size) tC tA U U.heap := fun U hU hW => hE.to hW (fun q h1 h2 => by rw [hU]; exact hS.2.1 q h1 h2) hFc
  have hDt : va_D (fun _ => True) Wc := (hD.sub isC hndC hC).weaken (fun _ _ _ _ => trivial)
  refine va_calli (va_runSN (As := As) (rest := st) ⟨hx, hb, hml, hown, hts⟩ (hM H.size) ⟨va_cnB n9 hts hg hw hrm.1 hrm.2 (hE.1 _ hni) (hts _ hsi.2) hd2 hRm, hts _ hsi.1, trivial⟩ ⟨sx_blind _ _ _ _, fun U hU hW => ⟨rfl, by rw [hU], by rw [hU]; exact hPc, va_K.moved hW.alike hK, hDt, hEc U hU hW⟩⟩ rfl hn9 hl.1 rfl (lv_room hst) hd hroom) hS (fun q _ h => hFc q h) hFc (fun r w1 t H1 locs1 ht hvm hp hB hz1 hk1 hS1 => ?_)
  obtain ⟨hP1, hK1, hD1⟩ := hB
  rw [ht] at hP1
  obtain ⟨hP2, hD2⟩ := va_join (wr := wr) (w1 := w1) hP hD isC isR hC hR2 hnd hdis hk1 hFc hP1 hD1
  exact kk r w1 hp H1 locs1 ls hP2 hD2 hS1 hl
theorem sx_callSNiw (hG : sx_ok l X G cc own Ts rm) {y : MethodName} {wsY wsY2 : List Cond} {rmY : Room} {As : List Value} {post : Int32 → va_W → Prop} {mc ms index maxL n9 : Nat} {bytes : ByteArray} {ret : Option FieldType} (hM : sx_Mi l y wsY rmY X As ws post mc ms) {host : String} (hg : GoodIn Ts wsY) (hw : wsY = Cond.code y bytes maxL ret :: wsY2) (hni : Cond.methodLinkNest own index y host ∈ sx_nest) (hsi : Cond.static y ∈ Ts ∧ Cond.initialized y.cls ∈ Ts) (hd2 : y.cls ≠ "java/lang/invoke/MethodHandle" ∧ y.cls ≠ "java/lang/invoke/VarHandle" ∧ (parseMethodDescriptor y.desc).map (fun d => d.parameters.length) = some n9) (hn9 : As.length = n9) (hd : decode cc pc = .ok (.invokestatic index, 3)) (hrm : rmY.cells = mc ∧ rmY.slots = ms) (hRm : rmY.frames + 1 ≤ rm.frames ∧ 8 + (maxL + 11) + rmY.locals ≤ rm.locals) (hst : (st.map fun v => v.category).sum ≤ 8) (hroom : kc + mc ≤ rm.cells ∧ ks + ms ≤ rm.slots) (kk : ∀ (r : Int32) (w1 : va_W), post r w1 → sx_W l X G (kc + mc) (ks + ms) (pc + 3) lv (.int r :: st) w1) : sx_W l X G kc ks (pc) lv (As.reverse ++ st) ws :=
  sx_callSNi hG hM hg hw hni hsi hd2 hn9 hd hrm hRm hst hroom (Wc := ws) (wr := []) (List.range ws.length) [] (sx_range ws) rfl (sx_nd_range _) rfl (fun i h => by cases h) (fun r w1 hp => kk r w1 hp)
theorem sx_callSNv (hG : sx_ok l X G cc own Ts rm) {y : MethodName} {wsY wsY2 : List Cond} {rmY : Room} {As : List Value} {post : va_W → Prop} {mc ms index maxL n9 : Nat} {bytes : ByteArray} {ret : Option FieldType} {Wc wr : va_W} (hM : sx_Mv l y wsY rmY X As Wc post mc ms) {host : String} (hg : GoodIn Ts wsY) (hw : wsY = Cond.code y bytes maxL ret :: wsY2) (hni : Cond.methodLinkNest own index y host ∈ sx_nest) (hsi : Cond.static y ∈ Ts ∧ Cond.initialized y.cls ∈ Ts) (hd2 : y.cls ≠ "java/lang/invoke/MethodHandle" ∧ y.cls ≠ "java/lang/invoke/VarHandle" ∧ (parseMethodDescriptor y.desc).map (fun d => d.parameters.length) = some n9) (hn9 : As.length = n9) (hd : decode cc pc = .ok (.invokestatic index, 3)) (hrm : rmY.cells = mc ∧ rmY.slots = ms) (hRm : rmY.frames + 1 ≤ rm.frames ∧ 8 + (maxL + 11) + rmY.locals ≤ rm.locals) (hst : (st.map fun v => v.category).sum ≤ 8) (hroom : kc + mc ≤ rm.cells ∧ ks + ms ≤ rm.slots) (isC isR : List Nat) (hC : isC.map (fun i => ws[i]?) = Wc.map some) (hR2 : isR.map (fun i => ws[i]?) = wr.map some) (hndC : va_nd isC = true) (hnd : va_nd isR = true) (hdis : ∀ i ∈ isR, i ∉ isC) (kk : ∀ (w1 : va_W), post w1 → sx_W l X G (kc + mc) (ks + ms) (pc + 3) lv (st) (wr ++ w1)) : sx_W l X G kc ks (pc) lv (As.reverse ++ st) ws := by
  obtain ⟨D, cI, tC, tA⟩ := X
  obtain ⟨p, e, R, s, m, args, below, meth, c, Q, A, nL⟩ := G
  obtain ⟨hx, hb, hml, hown, hts, hK, hA, rfl, hE⟩ := hG
  intro H locs ls hP hD hS hl
  have hPc := hP.sub (ws' := Wc) isC (by
    have e1 : isC.filterMap (fun i => ws[i]?) = (isC.map (fun i => ws[i]?)).filterMap id := by rw [List.filterMap_map]; rfl
    rw [e1, hC, List.filterMap_map]; simp)
  have hFc := va_free (wc := Wc) hD hS hA isC hC
  have hEc : ∀ U : State, U.heap = H → s.WarmedH U.vm → sx_E (va_A Wc H.size) tC tA U U.heap := fun U hU hW => hE.to hW (fun q h1 h2 => by rw [hU]; exact hS.2.1 q h1 h2) hFc
  have hDt : va_D (fun _ => True) Wc := (hD.sub isC hndC hC).weaken (fun _ _ _ _ => trivial)
  refine va_callv (va_runSN (As := As) (rest := st) ⟨hx, hb, hml, hown, hts⟩ (hM H.size) ⟨va_cnB n9 hts hg hw hrm.1 hrm.2 (hE.1 _ hni) (hts _ hsi.2) hd2 hRm, hts _ hsi.1, trivial⟩ ⟨sx_blind _ _ _ _, fun U hU hW => ⟨rfl, by rw [hU], by rw [hU]; exact hPc, va_K.moved hW.alike hK, hDt, hEc U hU hW⟩⟩ rfl hn9 hl.1 rfl (lv_room hst) hd hroom) hS (fun q _ h => hFc q h) hFc (fun w1 t H1 locs1 ht hvm hp hB hz1 hk1 hS1 => ?_)
  obtain ⟨hP1, hK1, hD1⟩ := hB
  rw [ht] at hP1
  obtain ⟨hP2, hD2⟩ := va_join (wr := wr) (w1 := w1) hP hD isC isR hC hR2 hnd hdis hk1 hFc hP1 hD1
  exact kk w1 hp H1 locs1 ls hP2 hD2 hS1 hl
theorem sx_callSNvw (hG : sx_ok l X G cc own Ts rm) {y : MethodName} {wsY wsY2 : List Cond} {rmY : Room} {As : List Value} {post : va_W → Prop} {mc ms index maxL n9 : Nat} {bytes : ByteArray} {ret : Option FieldType} (hM : sx_Mv l y wsY rmY X As ws post mc ms) {host : String} (hg : GoodIn Ts wsY) (hw : wsY = Cond.code y bytes maxL ret :: wsY2) (hni : Cond.methodLinkNest own index y host ∈ sx_nest) (hsi : Cond.static y ∈ Ts ∧ Cond.initialized y.cls ∈ Ts) (hd2 : y.cls ≠ "java/lang/invoke/MethodHandle" ∧ y.cls ≠ "java/lang/invoke/VarHandle" ∧ (parseMethodDescriptor y.desc).map (fun d => d.parameters.length) = some n9) (hn9 : As.length = n9) (hd : decode cc pc = .ok (.invokestatic index, 3)) (hrm : rmY.cells = mc ∧ rmY.slots = ms) (hRm : rmY.frames + 1 ≤ rm.frames ∧ 8 + (maxL + 11) + rmY.locals ≤ rm.locals) (hst : (st.map fun v => v.category).sum ≤ 8) (hroom : kc + mc ≤ rm.cells ∧ ks + ms ≤ rm.slots) (kk : ∀ (w1 : va_W), post w1 → sx_W l X G (kc + mc) (ks + ms) (pc + 3) lv (st) w1) : sx_W l X G kc ks (pc) lv (As.reverse ++ st) ws :=
  sx_callSNv hG hM hg hw hni hsi hd2 hn9 hd hrm hRm hst hroom (Wc := ws) (wr := []) (List.range ws.length) [] (sx_range ws) rfl (sx_nd_range _) rfl (fun i h => by cases h) (fun w1 hp => kk w1 hp)
theorem sx_callIv (hG : sx_ok l X G cc own Ts rm) {y : MethodName} {wsY wsY2 : List Cond} {rmY : Room} {As : List Value} {post : va_W → Prop} {mc ms index maxL n9 : Nat} {bytes : ByteArray} {Wc wr : va_W} {b : Nat} (hM : sx_Mv l y wsY rmY X (.ref b :: As) Wc post mc ms) (hg : GoodIn Ts wsY) (hw : wsY = Cond.code y bytes maxL none :: wsY2) (hli : Cond.initialized y.cls ∈ Ts ∧ Cond.methodLink own index y ∈ Ts ∧ Cond.instanceMethod y ∈ Ts) (hyn : y.name = "<init>") (hd2 : y.cls ≠ "java/lang/invoke/MethodHandle" ∧ y.cls ≠ "java/lang/invoke/VarHandle" ∧ (parseMethodDescriptor y.desc).map (fun d => d.parameters.length) = some n9) (hn9 : As.length = n9) (hd : decode cc pc = .ok (.invokespecial index, 3)) (hrm : rmY.cells = mc ∧ rmY.slots = ms) (hRm : rmY.frames + 1 ≤ rm.frames ∧ 8 + (maxL + 11) + rmY.locals ≤ rm.locals) (hst : (st.map fun v => v.category).sum ≤ 8) (hroom : kc + mc ≤ rm.cells ∧ ks + ms ≤ rm.slots) (isC isR : List Nat) (hC : isC.map (fun i => ws[i]?) = Wc.map some) (hR2 : isR.map (fun i => ws[i]?) = wr.map some) (hndC : va_nd isC = true) (hnd : va_nd isR = true) (hdis : ∀ i ∈ isR, i ∉ isC) (kk : ∀ (w1 : va_W), post w1 → sx_W l X G (kc + mc) (ks + ms) (pc + 3) lv (st) (wr ++ w1)) : sx_W l X G kc ks (pc) lv (As.reverse ++ .ref b :: st) ws := by
  obtain ⟨D, cI, tC, tA⟩ := X
  obtain ⟨p, e, R, s, m, args, below, meth, c, Q, A, nL⟩ := G
  obtain ⟨hx, hb, hml, hown, hts, hK, hA, rfl, hE⟩ := hG
  intro H locs ls hP hD hS hl
  have hPc := hP.sub (ws' := Wc) isC (by
    have e1 : isC.filterMap (fun i => ws[i]?) = (isC.map (fun i => ws[i]?)).filterMap id := by rw [List.filterMap_map]; rfl
    rw [e1, hC, List.filterMap_map]; simp)
  have hFc := va_free (wc := Wc) hD hS hA isC hC
  have hEc : ∀ U : State, U.heap = H → s.WarmedH U.vm → sx_E (va_A Wc H.size) tC tA U U.heap := fun U hU hW => hE.to hW (fun q h1 h2 => by rw [hU]; exact hS.2.1 q h1 h2) hFc
  have hDt : va_D (fun _ => True) Wc := (hD.sub isC hndC hC).weaken (fun _ _ _ _ => trivial)
  refine va_callv (va_runI (As := As) (rest := st) ⟨hx, hb, hml, hown, hts⟩ (hM H.size) (cwI n9 hts hg hw hrm.1 hrm.2 (hts _ hli.1) (hts _ hli.2.1) (hts _ hli.2.2) hyn hd2 hRm) ⟨sx_blind _ _ _ _, fun U hU hW => ⟨rfl, by rw [hU], by rw [hU]; exact hPc, va_K.moved hW.alike hK, hDt, hEc U hU hW⟩⟩ rfl hn9 hl.1 rfl (lv_room hst) hd hroom) hS (fun q _ h => hFc q h) hFc (fun w1 t H1 locs1 ht hvm hp hB hz1 hk1 hS1 => ?_)
  obtain ⟨hP1, hK1, hD1⟩ := hB
  rw [ht] at hP1
  obtain ⟨hP2, hD2⟩ := va_join (wr := wr) (w1 := w1) hP hD isC isR hC hR2 hnd hdis hk1 hFc hP1 hD1
  exact kk w1 hp H1 locs1 ls hP2 hD2 hS1 hl
theorem sx_callINv (hG : sx_ok l X G cc own Ts rm) {y : MethodName} {wsY wsY2 : List Cond} {rmY : Room} {As : List Value} {post : va_W → Prop} {mc ms index maxL n9 : Nat} {bytes : ByteArray} {Wc wr : va_W} {b : Nat} (hM : sx_Mv l y wsY rmY X (.ref b :: As) Wc post mc ms) {host : String} (hg : GoodIn Ts wsY) (hw : wsY = Cond.code y bytes maxL none :: wsY2) (hni : Cond.methodLinkNest own index y host ∈ sx_nest) (hli : Cond.initialized y.cls ∈ Ts ∧ Cond.instanceMethod y ∈ Ts) (hyn : y.name = "<init>") (hd2 : y.cls ≠ "java/lang/invoke/MethodHandle" ∧ y.cls ≠ "java/lang/invoke/VarHandle" ∧ (parseMethodDescriptor y.desc).map (fun d => d.parameters.length) = some n9) (hn9 : As.length = n9) (hd : decode cc pc = .ok (.invokespecial index, 3)) (hrm : rmY.cells = mc ∧ rmY.slots = ms) (hRm : rmY.frames + 1 ≤ rm.frames ∧ 8 + (maxL + 11) + rmY.locals ≤ rm.locals) (hst : (st.map fun v => v.category).sum ≤ 8) (hroom : kc + mc ≤ rm.cells ∧ ks + ms ≤ rm.slots) (isC isR : List Nat) (hC : isC.map (fun i => ws[i]?) = Wc.map some) (hR2 : isR.map (fun i => ws[i]?) = wr.map some) (hndC : va_nd isC = true) (hnd : va_nd isR = true) (hdis : ∀ i ∈ isR, i ∉ isC) (kk : ∀ (w1 : va_W), post w1 → sx_W l X G (kc + mc) (ks + ms) (pc + 3) lv (st) (wr ++ w1)) : sx_W l X G kc ks (pc) lv (As.reverse ++ .ref b :: st) ws := by
  obtain ⟨D, cI, tC, tA⟩ := X
  obtain ⟨p, e, R, s, m, args, below, meth, c, Q, A, nL⟩ := G
  obtain ⟨hx, hb, hml, hown, hts, hK, hA, rfl, hE⟩ := hG
  intro H locs ls hP hD hS hl
  have hPc := hP.sub (ws' := Wc) isC (by
    have e1 : isC.filterMap (fun i => ws[i]?) = (isC.map (fun i => ws[i]?)).filterMap id := by rw [List.filterMap_map]; rfl
    rw [e1, hC, List.filterMap_map]; simp)
  have hFc := va_free (wc := Wc) hD hS hA isC hC
  have hEc : ∀ U : State, U.heap = H → s.WarmedH U.vm → sx_E (va_A Wc H.size) tC tA U U.heap := fun U hU hW => hE.to hW (fun q h1 h2 => by rw [hU]; exact hS.2.1 q h1 h2) hFc
  have hDt : va_D (fun _ => True) Wc := (hD.sub isC hndC hC).weaken (fun _ _ _ _ => trivial)
  refine va_callv (va_runIN (As := As) (rest := st) ⟨hx, hb, hml, hown, hts⟩ (hM H.size) ⟨va_cnB n9 hts hg hw hrm.1 hrm.2 (hE.1 _ hni) (hts _ hli.1) hd2 hRm, hyn, hts _ hli.2⟩ ⟨sx_blind _ _ _ _, fun U hU hW => ⟨rfl, by rw [hU], by rw [hU]; exact hPc, va_K.moved hW.alike hK, hDt, hEc U hU hW⟩⟩ rfl hn9 hl.1 rfl (lv_room hst) hd hroom) hS (fun q _ h => hFc q h) hFc (fun w1 t H1 locs1 ht hvm hp hB hz1 hk1 hS1 => ?_)
  obtain ⟨hP1, hK1, hD1⟩ := hB
  rw [ht] at hP1
  obtain ⟨hP2, hD2⟩ := va_join (wr := wr) (w1 := w1) hP hD isC isR hC hR2 hnd hdis hk1 hFc hP1 hD1
  exact kk w1 hp H1 locs1 ls hP2 hD2 hS1 hl
end SXR
