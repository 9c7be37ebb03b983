section
-- ===== PART A: goes FIRST, ahead of the names: the tables' words, and 'selects' of the private methods out of them =====
/-- a private method of a class that the tables say can be made, by its rows of tables_1 -/
def lw_okq (q : MethodName × Nat) : Prop := (q.1.cls ≠ "java/lang/invoke/MethodHandle" ∧ q.1.cls ≠ "java/lang/invoke/VarHandle") ∧ Cond.instantiable q.1.cls q.2 ∈ tables_1 ∧ Cond.privateMethod q.1 ∈ tables_1 ∧ Cond.instanceMethod q.1 ∈ tables_1
theorem lw_p0 : lw_okq (⟨"TubeShop$Sign", "setStep", "(IIII)V"⟩, 5) := ⟨⟨by decide +kernel, by decide +kernel⟩, List.mem_of_getElem? (i := 27) (by decide +kernel), List.mem_of_getElem? (i := 236) (by decide +kernel), List.mem_of_getElem? (i := 237) (by decide +kernel)⟩
theorem lw_p1 : lw_okq (⟨"TubeShop$RunTable", "takeOver", "(LTubeShop$Sign;LTubeShop$PriceList;)V"⟩, 7) := ⟨⟨by decide +kernel, by decide +kernel⟩, List.mem_of_getElem? (i := 74) (by decide +kernel), List.mem_of_getElem? (i := 279) (by decide +kernel), List.mem_of_getElem? (i := 280) (by decide +kernel)⟩
theorem lw_p2 : lw_okq (⟨"TubeShop$RunTable", "fill", "(I)V"⟩, 7) := ⟨⟨by decide +kernel, by decide +kernel⟩, List.mem_of_getElem? (i := 74) (by decide +kernel), List.mem_of_getElem? (i := 299) (by decide +kernel), List.mem_of_getElem? (i := 300) (by decide +kernel)⟩
theorem lw_p3 : lw_okq (⟨"TubeShop$RunTable", "leastBehind", "(II)I"⟩, 7) := ⟨⟨by decide +kernel, by decide +kernel⟩, List.mem_of_getElem? (i := 74) (by decide +kernel), List.mem_of_getElem? (i := 307) (by decide +kernel), List.mem_of_getElem? (i := 308) (by decide +kernel)⟩
theorem lw_p4 : lw_okq (⟨"TubeShop$RunTable", "trace", "(I)I"⟩, 7) := ⟨⟨by decide +kernel, by decide +kernel⟩, List.mem_of_getElem? (i := 74) (by decide +kernel), List.mem_of_getElem? (i := 332) (by decide +kernel), List.mem_of_getElem? (i := 333) (by decide +kernel)⟩
theorem lw_p5 : lw_okq (⟨"TubeShop$RunTable", "firstStep", "(III)I"⟩, 7) := ⟨⟨by decide +kernel, by decide +kernel⟩, List.mem_of_getElem? (i := 74) (by decide +kernel), List.mem_of_getElem? (i := 336) (by decide +kernel), List.mem_of_getElem? (i := 337) (by decide +kernel)⟩
theorem lw_p6 : lw_okq (⟨"TubeShop$Splitter", "leastSum", "(LTubeShop$RunTable;LTubeShop$PriceList;I)I"⟩, 2) := ⟨⟨by decide +kernel, by decide +kernel⟩, List.mem_of_getElem? (i := 102) (by decide +kernel), List.mem_of_getElem? (i := 358) (by decide +kernel), List.mem_of_getElem? (i := 359) (by decide +kernel)⟩
theorem lw_p7 : lw_okq (⟨"TubeShop$Splitter", "sumWith", "(LTubeShop$RunTable;LTubeShop$PriceList;II)I"⟩, 2) := ⟨⟨by decide +kernel, by decide +kernel⟩, List.mem_of_getElem? (i := 102) (by decide +kernel), List.mem_of_getElem? (i := 369) (by decide +kernel), List.mem_of_getElem? (i := 370) (by decide +kernel)⟩
theorem lw_p8 : lw_okq (⟨"TubeShop$Splitter", "firstSet", "(LTubeShop$RunTable;LTubeShop$PriceList;I)I"⟩, 2) := ⟨⟨by decide +kernel, by decide +kernel⟩, List.mem_of_getElem? (i := 102) (by decide +kernel), List.mem_of_getElem? (i := 389) (by decide +kernel), List.mem_of_getElem? (i := 390) (by decide +kernel)⟩
theorem lw_p9 : lw_okq (⟨"TubeShop$Boxes", "leastFill", "(III)I"⟩, 2) := ⟨⟨by decide +kernel, by decide +kernel⟩, List.mem_of_getElem? (i := 142) (by decide +kernel), List.mem_of_getElem? (i := 410) (by decide +kernel), List.mem_of_getElem? (i := 411) (by decide +kernel)⟩
theorem lw_p10 : lw_okq (⟨"TubeShop$Joints", "bestJoint", "(II)I"⟩, 3) := ⟨⟨by decide +kernel, by decide +kernel⟩, List.mem_of_getElem? (i := 155) (by decide +kernel), List.mem_of_getElem? (i := 428) (by decide +kernel), List.mem_of_getElem? (i := 429) (by decide +kernel)⟩
theorem lw_p11 : lw_okq (⟨"TubeShop$Joints", "bothSides", "(III)I"⟩, 3) := ⟨⟨by decide +kernel, by decide +kernel⟩, List.mem_of_getElem? (i := 155) (by decide +kernel), List.mem_of_getElem? (i := 432) (by decide +kernel), List.mem_of_getElem? (i := 433) (by decide +kernel)⟩
theorem lw_p12 : lw_okq (⟨"java/lang/Throwable", "fillInStackTrace", "(I)Ljava/lang/Throwable;"⟩, 6) := ⟨⟨by decide +kernel, by decide +kernel⟩, List.mem_of_getElem? (i := 495) (by decide +kernel), List.mem_of_getElem? (i := 493) (by decide +kernel), List.mem_of_getElem? (i := 494) (by decide +kernel)⟩
theorem lw_p13 : lw_okq (⟨"TubeShopModel", "isSet", "(I)Z"⟩, 24) := ⟨⟨by decide +kernel, by decide +kernel⟩, List.mem_of_getElem? (i := 550) (by decide +kernel), List.mem_of_getElem? (i := 668) (by decide +kernel), List.mem_of_getElem? (i := 669) (by decide +kernel)⟩
theorem lw_p14 : lw_okq (⟨"TubeShopModel", "work", "()V"⟩, 24) := ⟨⟨by decide +kernel, by decide +kernel⟩, List.mem_of_getElem? (i := 550) (by decide +kernel), List.mem_of_getElem? (i := 672) (by decide +kernel), List.mem_of_getElem? (i := 673) (by decide +kernel)⟩
theorem lw_p15 : lw_okq (⟨"TubeShopModel", "goes", "(II)I"⟩, 24) := ⟨⟨by decide +kernel, by decide +kernel⟩, List.mem_of_getElem? (i := 550) (by decide +kernel), List.mem_of_getElem? (i := 677) (by decide +kernel), List.mem_of_getElem? (i := 678) (by decide +kernel)⟩
def lw_privs_1 : List (MethodName × Nat) := [(⟨"TubeShop$Sign", "setStep", "(IIII)V"⟩, 5), (⟨"TubeShop$RunTable", "takeOver", "(LTubeShop$Sign;LTubeShop$PriceList;)V"⟩, 7), (⟨"TubeShop$RunTable", "fill", "(I)V"⟩, 7), (⟨"TubeShop$RunTable", "leastBehind", "(II)I"⟩, 7), (⟨"TubeShop$RunTable", "trace", "(I)I"⟩, 7), (⟨"TubeShop$RunTable", "firstStep", "(III)I"⟩, 7), (⟨"TubeShop$Splitter", "leastSum", "(LTubeShop$RunTable;LTubeShop$PriceList;I)I"⟩, 2), (⟨"TubeShop$Splitter", "sumWith", "(LTubeShop$RunTable;LTubeShop$PriceList;II)I"⟩, 2), (⟨"TubeShop$Splitter", "firstSet", "(LTubeShop$RunTable;LTubeShop$PriceList;I)I"⟩, 2), (⟨"TubeShop$Boxes", "leastFill", "(III)I"⟩, 2), (⟨"TubeShop$Joints", "bestJoint", "(II)I"⟩, 3), (⟨"TubeShop$Joints", "bothSides", "(III)I"⟩, 3), (⟨"java/lang/Throwable", "fillInStackTrace", "(I)Ljava/lang/Throwable;"⟩, 6), (⟨"TubeShopModel", "isSet", "(I)Z"⟩, 24), (⟨"TubeShopModel", "work", "()V"⟩, 24), (⟨"TubeShopModel", "goes", "(II)I"⟩, 24)]
theorem lw_r1 : ∀ q ∈ lw_privs_1, lw_okq q := List.forall_mem_cons.mpr ⟨lw_p0, List.forall_mem_cons.mpr ⟨lw_p1, List.forall_mem_cons.mpr ⟨lw_p2, List.forall_mem_cons.mpr ⟨lw_p3, List.forall_mem_cons.mpr ⟨lw_p4, List.forall_mem_cons.mpr ⟨lw_p5, List.forall_mem_cons.mpr ⟨lw_p6, List.forall_mem_cons.mpr ⟨lw_p7, List.forall_mem_cons.mpr ⟨lw_p8, List.forall_mem_cons.mpr ⟨lw_p9, List.forall_mem_cons.mpr ⟨lw_p10, List.forall_mem_cons.mpr ⟨lw_p11, List.forall_mem_cons.mpr ⟨lw_p12, List.forall_mem_cons.mpr ⟨lw_p13, List.forall_mem_cons.mpr ⟨lw_p14, List.forall_mem_cons.mpr ⟨lw_p15, fun _ h => absurd h List.not_mem_nil⟩⟩⟩⟩⟩⟩⟩⟩⟩⟩⟩⟩⟩⟩⟩⟩
theorem lw_p16 : lw_okq (⟨"TubeShopModel", "isJump", "(II)Z"⟩, 24) := ⟨⟨by decide +kernel, by decide +kernel⟩, List.mem_of_getElem? (i := 550) (by decide +kernel), List.mem_of_getElem? (i := 681) (by decide +kernel), List.mem_of_getElem? (i := 682) (by decide +kernel)⟩
theorem lw_p17 : lw_okq (⟨"TubeShopModel", "atX", "(IZ)I"⟩, 24) := ⟨⟨by decide +kernel, by decide +kernel⟩, List.mem_of_getElem? (i := 550) (by decide +kernel), List.mem_of_getElem? (i := 685) (by decide +kernel), List.mem_of_getElem? (i := 686) (by decide +kernel)⟩
theorem lw_p18 : lw_okq (⟨"TubeShopModel", "atY", "(IZ)I"⟩, 24) := ⟨⟨by decide +kernel, by decide +kernel⟩, List.mem_of_getElem? (i := 550) (by decide +kernel), List.mem_of_getElem? (i := 689) (by decide +kernel), List.mem_of_getElem? (i := 690) (by decide +kernel)⟩
theorem lw_p19 : lw_okq (⟨"TubeShopModel", "towardsOf", "(I)I"⟩, 24) := ⟨⟨by decide +kernel, by decide +kernel⟩, List.mem_of_getElem? (i := 550) (by decide +kernel), List.mem_of_getElem? (i := 694) (by decide +kernel), List.mem_of_getElem? (i := 695) (by decide +kernel)⟩
theorem lw_p20 : lw_okq (⟨"TubeShopModel", "from", "(II)I"⟩, 24) := ⟨⟨by decide +kernel, by decide +kernel⟩, List.mem_of_getElem? (i := 550) (by decide +kernel), List.mem_of_getElem? (i := 698) (by decide +kernel), List.mem_of_getElem? (i := 699) (by decide +kernel)⟩
theorem lw_p21 : lw_okq (⟨"TubeShopModel", "priceOf", "(I)I"⟩, 24) := ⟨⟨by decide +kernel, by decide +kernel⟩, List.mem_of_getElem? (i := 550) (by decide +kernel), List.mem_of_getElem? (i := 702) (by decide +kernel), List.mem_of_getElem? (i := 703) (by decide +kernel)⟩
theorem lw_p22 : lw_okq (⟨"TubeShopModel", "steps", "(I)I"⟩, 24) := ⟨⟨by decide +kernel, by decide +kernel⟩, List.mem_of_getElem? (i := 550) (by decide +kernel), List.mem_of_getElem? (i := 706) (by decide +kernel), List.mem_of_getElem? (i := 707) (by decide +kernel)⟩
theorem lw_p23 : lw_okq (⟨"TubeShopModel", "fails", "(I)I"⟩, 24) := ⟨⟨by decide +kernel, by decide +kernel⟩, List.mem_of_getElem? (i := 550) (by decide +kernel), List.mem_of_getElem? (i := 722) (by decide +kernel), List.mem_of_getElem? (i := 723) (by decide +kernel)⟩
def lw_privs_2 : List (MethodName × Nat) := [(⟨"TubeShopModel", "isJump", "(II)Z"⟩, 24), (⟨"TubeShopModel", "atX", "(IZ)I"⟩, 24), (⟨"TubeShopModel", "atY", "(IZ)I"⟩, 24), (⟨"TubeShopModel", "towardsOf", "(I)I"⟩, 24), (⟨"TubeShopModel", "from", "(II)I"⟩, 24), (⟨"TubeShopModel", "priceOf", "(I)I"⟩, 24), (⟨"TubeShopModel", "steps", "(I)I"⟩, 24), (⟨"TubeShopModel", "fails", "(I)I"⟩, 24)]
theorem lw_r2 : ∀ q ∈ lw_privs_2, lw_okq q := List.forall_mem_cons.mpr ⟨lw_p16, List.forall_mem_cons.mpr ⟨lw_p17, List.forall_mem_cons.mpr ⟨lw_p18, List.forall_mem_cons.mpr ⟨lw_p19, List.forall_mem_cons.mpr ⟨lw_p20, List.forall_mem_cons.mpr ⟨lw_p21, List.forall_mem_cons.mpr ⟨lw_p22, List.forall_mem_cons.mpr ⟨lw_p23, fun _ h => absurd h List.not_mem_nil⟩⟩⟩⟩⟩⟩⟩⟩
def lw_privs : List (MethodName × Nat) := lw_privs_1 ++ (lw_privs_2)
def lw_tbl : List Cond := k2_sels lw_privs ++ tables_1
theorem lw_privs_ok : ∀ q ∈ lw_privs, lw_okq q := by
  show ∀ q ∈ lw_privs_1 ++ (lw_privs_2), lw_okq q
  exact List.forall_mem_append.mpr ⟨lw_r1, lw_r2⟩
end
section
/-! ===== BEGIN words of one list among another's, by their places ===== -/
theorem goodIn_r {big : List Cond} (ws : List Cond) (ps : List Nat) (hp : ws = ps.filterMap (fun i => big[i]?)) (h : ws.all goodWord = true) : GoodIn big ws := by
  intro w hw
  have h1 := List.all_eq_true.mp h w hw
  rw [hp] at hw
  obtain ⟨i, -, hi⟩ := List.mem_filterMap.mp hw
  have hm : w ∈ big := by first | exact List.mem_of_getElem? hi | exact List.getElem?_mem hi
  exact ⟨hm, good_of_word h1⟩
theorem goodIn_app {big a b : List Cond} (ha : GoodIn big a) (hb : GoodIn big b) : GoodIn big (a ++ b) := fun w h => (List.mem_append.mp h).elim (ha w) (hb w)
theorem goodIn_ca {big a b : List Cond} {c : Cond} (ha : GoodIn big (c :: a)) (hb : GoodIn big b) : GoodIn big (c :: (a ++ b)) := fun w h => (List.mem_cons.mp h).elim (fun e => ha w (List.mem_cons.mpr (Or.inl e))) (fun h => (List.mem_append.mp h).elim (fun h => ha w (List.mem_cons.mpr (Or.inr h))) (hb w))
theorem goodIn_sub {big ws : List Cond} (hm : ∀ w ∈ ws, w ∈ big) (h : ws.all goodWord = true) : GoodIn big ws := fun w hw => ⟨hm w hw, good_of_word (List.all_eq_true.mp h w hw)⟩
/-! ===== END ===== -/
end
section
/-! ===== BEGIN printed: names, fields, word lists, decode rows ===== -/
def RX0 : String := "TubeShop$Boxes"
def TX0 : u_T := fun k => match k with
  | 0 => ("TubeShop$Boxes", "volts", "[I", true)
  | _ => ("TubeShop$Boxes", "fills", "[I", true)
def tyX0 : Nat → FieldType := fun k => match k with
  | 0 => .array .int
  | _ => .array .int
abbrev wsX00 : List Cond := u_ws RX0 TX0 2
theorem nmX0 : ∀ a, a < 2 → ∀ b, b < 2 → a ≠ b → (TX0 a).2.1 ≠ (TX0 b).2.1 := by decide +kernel
theorem tyX0_ok : ∀ k, k < 2 → parseFieldDescriptor (TX0 k).2.2.1 = some (tyX0 k) := by decide +kernel
abbrev cX0_init : ByteArray := prog_2_method_1_code
def yX0_init : MethodName := ⟨RX0, "<init>", "()V"⟩
abbrev cX0_fewest : ByteArray := prog_2_method_2_code
def yX0_fewest : MethodName := ⟨RX0, "fewest", "(LTubeShop$Parts;II)I"⟩
abbrev cX0_leastFill : ByteArray := prog_2_method_3_code
def yX0_leastFill : MethodName := ⟨RX0, "leastFill", "(III)I"⟩
abbrev cX0_putInto : ByteArray := prog_2_method_4_code
def yX0_putInto : MethodName := ⟨RX0, "putInto", "(III)I"⟩
def RX1 : String := "TubeShop$Joints"
def TX1 : u_T := fun k => match k with
  | 0 => ("TubeShop$Joints", "looks", "I", false)
  | 1 => ("TubeShop$Joints", "first", "I", false)
  | _ => ("TubeShop$Joints", "least", "[I", true)
def tyX1 : Nat → FieldType := fun k => match k with
  | 0 => .int
  | 1 => .int
  | _ => .array .int
abbrev wsX10 : List Cond := u_ws RX1 TX1 3
theorem nmX1 : ∀ a, a < 3 → ∀ b, b < 3 → a ≠ b → (TX1 a).2.1 ≠ (TX1 b).2.1 := by decide +kernel
theorem tyX1_ok : ∀ k, k < 3 → parseFieldDescriptor (TX1 k).2.2.1 = some (tyX1 k) := by decide +kernel
abbrev cX1_init : ByteArray := prog_3_method_1_code
def yX1_init : MethodName := ⟨RX1, "<init>", "()V"⟩
abbrev cX1_weigh : ByteArray := prog_3_method_2_code
def yX1_weigh : MethodName := ⟨RX1, "weigh", "(LTubeShop$Parts;)V"⟩
abbrev cX1_bestJoint : ByteArray := prog_3_method_3_code
def yX1_bestJoint : MethodName := ⟨RX1, "bestJoint", "(II)I"⟩
abbrev cX1_bothSides : ByteArray := prog_3_method_4_code
def yX1_bothSides : MethodName := ⟨RX1, "bothSides", "(III)I"⟩
def RX2 : String := "TubeShop$Parts"
def TX2 : u_T := fun k => match k with
  | 0 => ("TubeShop$Parts", "size", "I", false)
  | 1 => ("TubeShop$Parts", "sets", "[I", true)
  | 2 => ("TubeShop$Parts", "lengths", "[I", true)
  | _ => ("TubeShop$Parts", "amounts", "[I", true)
def tyX2 : Nat → FieldType := fun k => match k with
  | 0 => .int
  | 1 => .array .int
  | 2 => .array .int
  | _ => .array .int
abbrev wsX20 : List Cond := u_ws RX2 TX2 4
theorem nmX2 : ∀ a, a < 4 → ∀ b, b < 4 → a ≠ b → (TX2 a).2.1 ≠ (TX2 b).2.1 := by decide +kernel
theorem tyX2_ok : ∀ k, k < 4 → parseFieldDescriptor (TX2 k).2.2.1 = some (tyX2 k) := by decide +kernel
abbrev cX2_init : ByteArray := prog_4_method_1_code
def yX2_init : MethodName := ⟨RX2, "<init>", "()V"⟩
abbrev cX2_drop : ByteArray := prog_4_method_2_code
def yX2_drop : MethodName := ⟨RX2, "drop", "()V"⟩
abbrev cX2_begin : ByteArray := prog_4_method_3_code
def yX2_begin : MethodName := ⟨RX2, "begin", "()V"⟩
abbrev cX2_add : ByteArray := prog_4_method_4_code
def yX2_add : MethodName := ⟨RX2, "add", "(III)V"⟩
abbrev cX2_areThere : ByteArray := prog_4_method_5_code
def yX2_areThere : MethodName := ⟨RX2, "areThere", "()Z"⟩
abbrev cX2_wholePrice : ByteArray := prog_4_method_6_code
def yX2_wholePrice : MethodName := ⟨RX2, "wholePrice", "()I"⟩
def RX3 : String := "TubeShop$PriceList"
def TX3 : u_T := fun k => match k with
  | _ => ("TubeShop$PriceList", "amounts", "[I", true)
def tyX3 : Nat → FieldType := fun k => match k with
  | _ => .array .int
abbrev wsX30 : List Cond := u_ws RX3 TX3 1
theorem nmX3 : ∀ a, a < 1 → ∀ b, b < 1 → a ≠ b → (TX3 a).2.1 ≠ (TX3 b).2.1 := by decide +kernel
theorem tyX3_ok : ∀ k, k < 1 → parseFieldDescriptor (TX3 k).2.2.1 = some (tyX3 k) := by decide +kernel
abbrev cX3_init : ByteArray := prog_5_method_1_code
def yX3_init : MethodName := ⟨RX3, "<init>", "()V"⟩
abbrev cX3_put : ByteArray := prog_5_method_2_code
def yX3_put : MethodName := ⟨RX3, "put", "(II)Z"⟩
abbrev cX3_ofBend : ByteArray := prog_5_method_3_code
def yX3_ofBend : MethodName := ⟨RX3, "ofBend", "(I)I"⟩
abbrev cX3_ofJump : ByteArray := prog_5_method_4_code
def yX3_ofJump : MethodName := ⟨RX3, "ofJump", "()I"⟩
abbrev cX3_ofRun : ByteArray := prog_5_method_5_code
def yX3_ofRun : MethodName := ⟨RX3, "ofRun", "(I)I"⟩
def RX4 : String := "TubeShop$RunTable"
def TX4 : u_T := fun k => match k with
  | 0 => ("TubeShop$RunTable", "steps", "I", false)
  | 1 => ("TubeShop$RunTable", "lengths", "[I", true)
  | 2 => ("TubeShop$RunTable", "links", "[I", true)
  | 3 => ("TubeShop$RunTable", "costs", "[I", true)
  | 4 => ("TubeShop$RunTable", "best", "[I", true)
  | 5 => ("TubeShop$RunTable", "way", "[I", true)
  | _ => ("TubeShop$RunTable", "filled", "I", false)
def tyX4 : Nat → FieldType := fun k => match k with
  | 0 => .int
  | 1 => .array .int
  | 2 => .array .int
  | 3 => .array .int
  | 4 => .array .int
  | 5 => .array .int
  | _ => .int
abbrev wsX40 : List Cond := u_ws RX4 TX4 7
theorem nmX4 : ∀ a, a < 7 → ∀ b, b < 7 → a ≠ b → (TX4 a).2.1 ≠ (TX4 b).2.1 := by decide +kernel
theorem tyX4_ok : ∀ k, k < 7 → parseFieldDescriptor (TX4 k).2.2.1 = some (tyX4 k) := by decide +kernel
abbrev cX4_init : ByteArray := prog_6_method_1_code
def yX4_init : MethodName := ⟨RX4, "<init>", "()V"⟩
abbrev cX4_forget : ByteArray := prog_6_method_2_code
def yX4_forget : MethodName := ⟨RX4, "forget", "()V"⟩
abbrev cX4_refresh : ByteArray := prog_6_method_3_code
def yX4_refresh : MethodName := ⟨RX4, "refresh", "(LTubeShop$Sign;LTubeShop$PriceList;)V"⟩
abbrev cX4_takeOver : ByteArray := prog_6_method_4_code
def yX4_takeOver : MethodName := ⟨RX4, "takeOver", "(LTubeShop$Sign;LTubeShop$PriceList;)V"⟩
abbrev cX4_fill : ByteArray := prog_6_method_5_code
def yX4_fill : MethodName := ⟨RX4, "fill", "(I)V"⟩
abbrev cX4_leastBehind : ByteArray := prog_6_method_6_code
def yX4_leastBehind : MethodName := ⟨RX4, "leastBehind", "(II)I"⟩
abbrev cX4_costOf : ByteArray := prog_6_method_7_code
def yX4_costOf : MethodName := ⟨RX4, "costOf", "(I)I"⟩
abbrev cX4_stepOf : ByteArray := prog_6_method_8_code
def yX4_stepOf : MethodName := ⟨RX4, "stepOf", "(II)I"⟩
abbrev cX4_jumpsOf : ByteArray := prog_6_method_9_code
def yX4_jumpsOf : MethodName := ⟨RX4, "jumpsOf", "(I)I"⟩
abbrev cX4_trace : ByteArray := prog_6_method_10_code
def yX4_trace : MethodName := ⟨RX4, "trace", "(I)I"⟩
abbrev cX4_firstStep : ByteArray := prog_6_method_11_code
def yX4_firstStep : MethodName := ⟨RX4, "firstStep", "(III)I"⟩
def RX5 : String := "TubeShop$Sign"
def TX5 : u_T := fun k => match k with
  | 0 => ("TubeShop$Sign", "size", "I", false)
  | 1 => ("TubeShop$Sign", "x", "[I", true)
  | 2 => ("TubeShop$Sign", "y", "[I", true)
  | 3 => ("TubeShop$Sign", "directions", "[I", true)
  | _ => ("TubeShop$Sign", "lengths", "[I", true)
def tyX5 : Nat → FieldType := fun k => match k with
  | 0 => .int
  | 1 => .array .int
  | 2 => .array .int
  | 3 => .array .int
  | _ => .array .int
abbrev wsX50 : List Cond := u_ws RX5 TX5 5
theorem nmX5 : ∀ a, a < 5 → ∀ b, b < 5 → a ≠ b → (TX5 a).2.1 ≠ (TX5 b).2.1 := by decide +kernel
theorem tyX5_ok : ∀ k, k < 5 → parseFieldDescriptor (TX5 k).2.2.1 = some (tyX5 k) := by decide +kernel
abbrev cX5_init : ByteArray := prog_7_method_1_code
def yX5_init : MethodName := ⟨RX5, "<init>", "()V"⟩
abbrev cX5_clear : ByteArray := prog_7_method_2_code
def yX5_clear : MethodName := ⟨RX5, "clear", "()V"⟩
abbrev cX5_add : ByteArray := prog_7_method_3_code
def yX5_add : MethodName := ⟨RX5, "add", "(IIII)I"⟩
abbrev cX5_setStep : ByteArray := prog_7_method_4_code
def yX5_setStep : MethodName := ⟨RX5, "setStep", "(IIII)V"⟩
abbrev cX5_onGrid : ByteArray := prog_7_method_5_code
def yX5_onGrid : MethodName := ⟨RX5, "onGrid", "(II)Z"⟩
abbrev cX5_isStraight : ByteArray := prog_7_method_6_code
def yX5_isStraight : MethodName := ⟨RX5, "isStraight", "(II)Z"⟩
abbrev cX5_all : ByteArray := prog_7_method_7_code
def yX5_all : MethodName := ⟨RX5, "all", "()I"⟩
abbrev cX5_holds : ByteArray := prog_7_method_8_code
def yX5_holds : MethodName := ⟨RX5, "holds", "(I)Z"⟩
abbrev cX5_wholeLength : ByteArray := prog_7_method_9_code
def yX5_wholeLength : MethodName := ⟨RX5, "wholeLength", "()I"⟩
abbrev cX5_linkCost : ByteArray := prog_7_method_10_code
def yX5_linkCost : MethodName := ⟨RX5, "linkCost", "(LTubeShop$PriceList;II)I"⟩
def RX6 : String := "TubeShop$Splitter"
def TX6 : u_T := fun k => match k with
  | 0 => ("TubeShop$Splitter", "sums", "[I", true)
  | _ => ("TubeShop$Splitter", "mostLength", "I", false)
def tyX6 : Nat → FieldType := fun k => match k with
  | 0 => .array .int
  | _ => .int
abbrev wsX60 : List Cond := u_ws RX6 TX6 2
theorem nmX6 : ∀ a, a < 2 → ∀ b, b < 2 → a ≠ b → (TX6 a).2.1 ≠ (TX6 b).2.1 := by decide +kernel
theorem tyX6_ok : ∀ k, k < 2 → parseFieldDescriptor (TX6 k).2.2.1 = some (tyX6 k) := by decide +kernel
abbrev cX6_init : ByteArray := prog_8_method_1_code
def yX6_init : MethodName := ⟨RX6, "<init>", "()V"⟩
abbrev cX6_search : ByteArray := prog_8_method_2_code
def yX6_search : MethodName := ⟨RX6, "search", "(LTubeShop$RunTable;LTubeShop$PriceList;II)Z"⟩
abbrev cX6_leastSum : ByteArray := prog_8_method_3_code
def yX6_leastSum : MethodName := ⟨RX6, "leastSum", "(LTubeShop$RunTable;LTubeShop$PriceList;I)I"⟩
abbrev cX6_sumWith : ByteArray := prog_8_method_4_code
def yX6_sumWith : MethodName := ⟨RX6, "sumWith", "(LTubeShop$RunTable;LTubeShop$PriceList;II)I"⟩
abbrev cX6_nextWithin : ByteArray := prog_8_method_5_code
def yX6_nextWithin : MethodName := ⟨RX6, "nextWithin", "(II)I"⟩
abbrev cX6_tell : ByteArray := prog_8_method_6_code
def yX6_tell : MethodName := ⟨RX6, "tell", "(LTubeShop$RunTable;LTubeShop$PriceList;ILTubeShop$Parts;)V"⟩
abbrev cX6_firstSet : ByteArray := prog_8_method_7_code
def yX6_firstSet : MethodName := ⟨RX6, "firstSet", "(LTubeShop$RunTable;LTubeShop$PriceList;I)I"⟩
def RX7 : String := "TubeShop"
def TX7 : u_T := fun k => match k with
  | 0 => ("TubeShop", "sign", "LTubeShop$Sign;", true)
  | 1 => ("TubeShop", "prices", "LTubeShop$PriceList;", true)
  | 2 => ("TubeShop", "runs", "LTubeShop$RunTable;", true)
  | 3 => ("TubeShop", "splitter", "LTubeShop$Splitter;", true)
  | 4 => ("TubeShop", "parts", "LTubeShop$Parts;", true)
  | 5 => ("TubeShop", "boxes", "LTubeShop$Boxes;", true)
  | 6 => ("TubeShop", "joints", "LTubeShop$Joints;", true)
  | _ => ("TubeShop", "mostLength", "I", false)
def tyX7 : Nat → FieldType := fun k => match k with
  | 0 => .object "TubeShop$Sign"
  | 1 => .object "TubeShop$PriceList"
  | 2 => .object "TubeShop$RunTable"
  | 3 => .object "TubeShop$Splitter"
  | 4 => .object "TubeShop$Parts"
  | 5 => .object "TubeShop$Boxes"
  | 6 => .object "TubeShop$Joints"
  | _ => .int
abbrev wsX70 : List Cond := u_ws RX7 TX7 8
theorem nmX7 : ∀ a, a < 8 → ∀ b, b < 8 → a ≠ b → (TX7 a).2.1 ≠ (TX7 b).2.1 := by decide +kernel
theorem tyX7_ok : ∀ k, k < 8 → parseFieldDescriptor (TX7 k).2.2.1 = some (tyX7 k) := by decide +kernel
abbrev cX7_init : ByteArray := prog_1_method_1_code
def yX7_init : MethodName := ⟨RX7, "<init>", "()V"⟩
abbrev cX7_anew : ByteArray := prog_1_method_2_code
def yX7_anew : MethodName := ⟨RX7, "anew", "()V"⟩
abbrev cX7_stroke : ByteArray := prog_1_method_3_code
def yX7_stroke : MethodName := ⟨RX7, "stroke", "(IIII)I"⟩
abbrev cX7_price : ByteArray := prog_1_method_4_code
def yX7_price : MethodName := ⟨RX7, "price", "(II)Z"⟩
abbrev cX7_longest : ByteArray := prog_1_method_5_code
def yX7_longest : MethodName := ⟨RX7, "longest", "(I)Z"⟩
abbrev cX7_run : ByteArray := prog_1_method_6_code
def yX7_run : MethodName := ⟨RX7, "run", "(II)I"⟩
abbrev cX7_step : ByteArray := prog_1_method_7_code
def yX7_step : MethodName := ⟨RX7, "step", "(II)I"⟩
abbrev cX7_split : ByteArray := prog_1_method_8_code
def yX7_split : MethodName := ⟨RX7, "split", "()I"⟩
abbrev cX7_part : ByteArray := prog_1_method_9_code
def yX7_part : MethodName := ⟨RX7, "part", "(II)I"⟩
abbrev cX7_feed : ByteArray := prog_1_method_10_code
def yX7_feed : MethodName := ⟨RX7, "feed", "(II)I"⟩
abbrev cX7_dead : ByteArray := prog_1_method_11_code
def yX7_dead : MethodName := ⟨RX7, "dead", "(I)I"⟩
abbrev cX7_look : ByteArray := prog_1_method_12_code
def yX7_look : MethodName := ⟨RX7, "look", "(II)I"⟩
abbrev cX7_count : ByteArray := prog_1_method_13_code
def yX7_count : MethodName := ⟨RX7, "count", "(I)I"⟩
abbrev cX7_payOf : ByteArray := prog_1_method_14_code
def yX7_payOf : MethodName := ⟨RX7, "payOf", "(I)I"⟩
abbrev cX7_lengthOf : ByteArray := prog_1_method_15_code
def yX7_lengthOf : MethodName := ⟨RX7, "lengthOf", "(I)I"⟩
abbrev cX7_bitOf : ByteArray := prog_1_method_16_code
def yX7_bitOf : MethodName := ⟨RX7, "bitOf", "(I)I"⟩
abbrev cX7_distance : ByteArray := prog_1_method_17_code
def yX7_distance : MethodName := ⟨RX7, "distance", "(II)I"⟩
def RX8 : String := "TubeShopModel"
def TX8 : u_T := fun k => match k with
  | 0 => ("TubeShopModel", "strokes", "I", false)
  | 1 => ("TubeShopModel", "x0", "[I", true)
  | 2 => ("TubeShopModel", "y0", "[I", true)
  | 3 => ("TubeShopModel", "x1", "[I", true)
  | 4 => ("TubeShopModel", "y1", "[I", true)
  | 5 => ("TubeShopModel", "way", "[I", true)
  | 6 => ("TubeShopModel", "size", "[I", true)
  | 7 => ("TubeShopModel", "price", "[I", true)
  | 8 => ("TubeShopModel", "longest", "I", false)
  | 9 => ("TubeShopModel", "thrown", "I", false)
  | 10 => ("TubeShopModel", "left", "[I", true)
  | 11 => ("TubeShopModel", "bests", "[I", true)
  | 12 => ("TubeShopModel", "row", "[I", true)
  | 13 => ("TubeShopModel", "isSplit", "Z", false)
  | 14 => ("TubeShopModel", "splitMany", "I", false)
  | 15 => ("TubeShopModel", "splitPrice", "I", false)
  | 16 => ("TubeShopModel", "splitSet", "[I", true)
  | 17 => ("TubeShopModel", "splitSize", "[I", true)
  | 18 => ("TubeShopModel", "splitCost", "[I", true)
  | 19 => ("TubeShopModel", "manyOf", "[I", true)
  | 20 => ("TubeShopModel", "costOf", "[I", true)
  | 21 => ("TubeShopModel", "firstOf", "[I", true)
  | 22 => ("TubeShopModel", "boxes", "[I", true)
  | _ => ("TubeShopModel", "looks", "[I", true)
def tyX8 : Nat → FieldType := fun k => match k with
  | 0 => .int
  | 1 => .array .int
  | 2 => .array .int
  | 3 => .array .int
  | 4 => .array .int
  | 5 => .array .int
  | 6 => .array .int
  | 7 => .array .int
  | 8 => .int
  | 9 => .int
  | 10 => .array .int
  | 11 => .array .int
  | 12 => .array .int
  | 13 => .boolean
  | 14 => .int
  | 15 => .int
  | 16 => .array .int
  | 17 => .array .int
  | 18 => .array .int
  | 19 => .array .int
  | 20 => .array .int
  | 21 => .array .int
  | 22 => .array .int
  | _ => .array .int
abbrev wsX80 : List Cond := u_ws RX8 TX8 24
theorem nmX8 : ∀ a, a < 24 → ∀ b, b < 24 → a ≠ b → (TX8 a).2.1 ≠ (TX8 b).2.1 := by decide +kernel
theorem tyX8_ok : ∀ k, k < 24 → parseFieldDescriptor (TX8 k).2.2.1 = some (tyX8 k) := by decide +kernel
abbrev cX8_init : ByteArray := prog_10_method_1_code
def yX8_init : MethodName := ⟨RX8, "<init>", "()V"⟩
abbrev cX8_thrown : ByteArray := prog_10_method_2_code
def yX8_thrown : MethodName := ⟨RX8, "thrown", "()I"⟩
abbrev cX8_anew : ByteArray := prog_10_method_3_code
def yX8_anew : MethodName := ⟨RX8, "anew", "()V"⟩
abbrev cX8_isPoint : ByteArray := prog_10_method_4_code
def yX8_isPoint : MethodName := ⟨RX8, "isPoint", "(II)Z"⟩
abbrev cX8_far : ByteArray := prog_10_method_5_code
def yX8_far : MethodName := ⟨RX8, "far", "(II)I"⟩
abbrev cX8_sign : ByteArray := prog_10_method_6_code
def yX8_sign : MethodName := ⟨RX8, "sign", "(I)I"⟩
abbrev cX8_towards : ByteArray := prog_10_method_7_code
def yX8_towards : MethodName := ⟨RX8, "towards", "(II)I"⟩
abbrev cX8_piece : ByteArray := prog_10_method_8_code
def yX8_piece : MethodName := ⟨RX8, "piece", "(IIII)I"⟩
abbrev cX8_stroke : ByteArray := prog_10_method_9_code
def yX8_stroke : MethodName := ⟨RX8, "stroke", "(IIII)I"⟩
abbrev cX8_price : ByteArray := prog_10_method_10_code
def yX8_price : MethodName := ⟨RX8, "price", "(II)Z"⟩
abbrev cX8_longest : ByteArray := prog_10_method_11_code
def yX8_longest : MethodName := ⟨RX8, "longest", "(I)Z"⟩
abbrev cX8_atX : ByteArray := prog_10_method_12_code
def yX8_atX : MethodName := ⟨RX8, "atX", "(IZ)I"⟩
abbrev cX8_atY : ByteArray := prog_10_method_13_code
def yX8_atY : MethodName := ⟨RX8, "atY", "(IZ)I"⟩
abbrev cX8_towardsOf : ByteArray := prog_10_method_14_code
def yX8_towardsOf : MethodName := ⟨RX8, "towardsOf", "(I)I"⟩
abbrev cX8_isJump : ByteArray := prog_10_method_15_code
def yX8_isJump : MethodName := ⟨RX8, "isJump", "(II)Z"⟩
abbrev cX8_goes : ByteArray := prog_10_method_16_code
def yX8_goes : MethodName := ⟨RX8, "goes", "(II)I"⟩
abbrev cX8_from : ByteArray := prog_10_method_17_code
def yX8_from : MethodName := ⟨RX8, "from", "(II)I"⟩
abbrev cX8_work : ByteArray := prog_10_method_18_code
def yX8_work : MethodName := ⟨RX8, "work", "()V"⟩
abbrev cX8_priceOf : ByteArray := prog_10_method_19_code
def yX8_priceOf : MethodName := ⟨RX8, "priceOf", "(I)I"⟩
abbrev cX8_steps : ByteArray := prog_10_method_20_code
def yX8_steps : MethodName := ⟨RX8, "steps", "(I)I"⟩
abbrev cX8_isSet : ByteArray := prog_10_method_21_code
def yX8_isSet : MethodName := ⟨RX8, "isSet", "(I)Z"⟩
abbrev cX8_run : ByteArray := prog_10_method_22_code
def yX8_run : MethodName := ⟨RX8, "run", "(II)I"⟩
abbrev cX8_step : ByteArray := prog_10_method_23_code
def yX8_step : MethodName := ⟨RX8, "step", "(II)I"⟩
abbrev cX8_split : ByteArray := prog_10_method_24_code
def yX8_split : MethodName := ⟨RX8, "split", "()I"⟩
abbrev cX8_fails : ByteArray := prog_10_method_25_code
def yX8_fails : MethodName := ⟨RX8, "fails", "(I)I"⟩
abbrev cX8_part : ByteArray := prog_10_method_26_code
def yX8_part : MethodName := ⟨RX8, "part", "(II)I"⟩
abbrev cX8_feed : ByteArray := prog_10_method_27_code
def yX8_feed : MethodName := ⟨RX8, "feed", "(II)I"⟩
abbrev cX8_dead : ByteArray := prog_10_method_28_code
def yX8_dead : MethodName := ⟨RX8, "dead", "(I)I"⟩
abbrev cX8_look : ByteArray := prog_10_method_29_code
def yX8_look : MethodName := ⟨RX8, "look", "(II)I"⟩
abbrev cX8_count : ByteArray := prog_10_method_30_code
def yX8_count : MethodName := ⟨RX8, "count", "(I)I"⟩
def RJx8e188 : String := "java/lang/Cloneable"
def TJx8e188 : u_T := fun k => match k with
  | _ => ("", "", "", false)
def tyJx8e188 : Nat → FieldType := fun k => match k with
  | _ => .int
abbrev wsJx8e1880 : List Cond := u_ws RJx8e188 TJx8e188 0
theorem nmJx8e188 : ∀ a, a < 0 → ∀ b, b < 0 → a ≠ b → (TJx8e188 a).2.1 ≠ (TJx8e188 b).2.1 := by decide +kernel
theorem tyJx8e188_ok : ∀ k, k < 0 → parseFieldDescriptor (TJx8e188 k).2.2.1 = some (tyJx8e188 k) := by decide +kernel
def RJ6 : String := "java/lang/Integer"
def TJ6 : u_T := fun k => match k with
  | _ => ("", "", "", false)
def tyJ6 : Nat → FieldType := fun k => match k with
  | _ => .int
abbrev wsJ60 : List Cond := u_ws RJ6 TJ6 0
theorem nmJ6 : ∀ a, a < 0 → ∀ b, b < 0 → a ≠ b → (TJ6 a).2.1 ≠ (TJ6 b).2.1 := by decide +kernel
theorem tyJ6_ok : ∀ k, k < 0 → parseFieldDescriptor (TJ6 k).2.2.1 = some (tyJ6 k) := by decide +kernel
abbrev cJ6_bitCount_0f7a4 : ByteArray := prog_14_method_49_code
def yJ6_bitCount_0f7a4 : MethodName := ⟨RJ6, "bitCount", "(I)I"⟩
abbrev cJ6_signum_0f7a4 : ByteArray := prog_14_method_56_code
def yJ6_signum_0f7a4 : MethodName := ⟨RJ6, "signum", "(I)I"⟩
def RJ9 : String := "java/lang/Math"
def TJ9 : u_T := fun k => match k with
  | _ => ("", "", "", false)
def tyJ9 : Nat → FieldType := fun k => match k with
  | _ => .int
abbrev wsJ90 : List Cond := u_ws RJ9 TJ9 0
theorem nmJ9 : ∀ a, a < 0 → ∀ b, b < 0 → a ≠ b → (TJ9 a).2.1 ≠ (TJ9 b).2.1 := by decide +kernel
theorem tyJ9_ok : ∀ k, k < 0 → parseFieldDescriptor (TJ9 k).2.2.1 = some (tyJ9 k) := by decide +kernel
abbrev cJ9_abs_0f7a4 : ByteArray := prog_15_method_59_code
def yJ9_abs_0f7a4 : MethodName := ⟨RJ9, "abs", "(I)I"⟩
abbrev cJ9_max_7cf53 : ByteArray := prog_15_method_65_code
def yJ9_max_7cf53 : MethodName := ⟨RJ9, "max", "(II)I"⟩
abbrev cJ9_min_7cf53 : ByteArray := prog_15_method_69_code
def yJ9_min_7cf53 : MethodName := ⟨RJ9, "min", "(II)I"⟩
def RJ0 : String := "java/lang/String"
def TJ0 : u_T := fun k => match k with
  | _ => ("", "", "", false)
def tyJ0 : Nat → FieldType := fun k => match k with
  | _ => .int
abbrev wsJ00 : List Cond := u_ws RJ0 TJ0 0
theorem nmJ0 : ∀ a, a < 0 → ∀ b, b < 0 → a ≠ b → (TJ0 a).2.1 ≠ (TJ0 b).2.1 := by decide +kernel
theorem tyJ0_ok : ∀ k, k < 0 → parseFieldDescriptor (TJ0 k).2.2.1 = some (tyJ0 k) := by decide +kernel
def RJ10 : String := "java/lang/System"
def TJ10 : u_T := fun k => match k with
  | _ => ("", "", "", false)
def tyJ10 : Nat → FieldType := fun k => match k with
  | _ => .int
abbrev wsJ100 : List Cond := u_ws RJ10 TJ10 0
theorem nmJ10 : ∀ a, a < 0 → ∀ b, b < 0 → a ≠ b → (TJ10 a).2.1 ≠ (TJ10 b).2.1 := by decide +kernel
theorem tyJ10_ok : ∀ k, k < 0 → parseFieldDescriptor (TJ10 k).2.2.1 = some (tyJ10 k) := by decide +kernel
def RL : String := "TubeShopLaw"
abbrev cL_part : ByteArray := method_3_code
def yL_part : MethodName := ⟨RL, "part", "(LTubeShop;II[J)I"⟩
abbrev cL_look : ByteArray := method_4_code
def yL_look : MethodName := ⟨RL, "look", "(LTubeShop;II[J)I"⟩
abbrev cL_law : ByteArray := code
def yL_law : MethodName := ⟨RL, "law", "([I)Z"⟩
def wsX0_init : List Cond := .code yX0_init cX0_init 1 none :: ([.methodLink RX0 3 objectInit, .instanceMethod objectInit, .code objectInit ⟨#[0xb1]⟩ 1 none, .arrayClass .int, .fieldLink RX0 9 "TubeShop$Boxes" "volts" "[I", .fieldLink RX0 15 "TubeShop$Boxes" "fills" "[I"] ++ wsX00)
def wsX0_putInto : List Cond := .code yX0_putInto cX0_putInto 3 (some .int) :: ([.constant RX0 31 (131072)])
def wsX0_leastFill : List Cond := .code yX0_leastFill cX0_leastFill 6 (some .int) :: ([.constant RX0 34 (2147483647), .fieldLink RX0 15 "TubeShop$Boxes" "fills" "[I", .fieldLink RX0 9 "TubeShop$Boxes" "volts" "[I", .methodLink RX0 38 Lib.Math.min.name, .static Lib.Math.min.name, .initialized "java/lang/Math", .code Lib.Math.min.name Lib.Math.min.code 2 (some .int), .methodLink RX0 35 yX0_putInto, .static yX0_putInto, .initialized RX0, .code yX0_putInto cX0_putInto 3 (some .int), .constant RX0 31 (131072)] ++ wsX00)
def wsX0_fewest : List Cond := .code yX0_fewest cX0_fewest 6 (some .int) :: ([.fieldLink RX0 9 "TubeShop$Boxes" "volts" "[I", .fieldLink RX0 15 "TubeShop$Boxes" "fills" "[I", .constant RX0 31 (131072), .methodLink RX0 27 yX0_leastFill, .instanceMethod yX0_leastFill, .selects RX0 yX0_leastFill yX0_leastFill, .initialized RX0, .code yX0_leastFill cX0_leastFill 6 (some .int), .constant RX0 34 (2147483647), .methodLink RX0 38 Lib.Math.min.name, .static Lib.Math.min.name, .initialized "java/lang/Math", .code Lib.Math.min.name Lib.Math.min.code 2 (some .int), .methodLink RX0 35 yX0_putInto, .static yX0_putInto, .code yX0_putInto cX0_putInto 3 (some .int)] ++ wsX20 ++ wsX00)
def wsX1_init : List Cond := .code yX1_init cX1_init 1 none :: ([.methodLink RX1 3 objectInit, .instanceMethod objectInit, .code objectInit ⟨#[0xb1]⟩ 1 none, .fieldLink RX1 9 "TubeShop$Joints" "looks" "I", .fieldLink RX1 15 "TubeShop$Joints" "first" "I", .arrayClass .int, .fieldLink RX1 18 "TubeShop$Joints" "least" "[I"] ++ wsX10)
def wsX1_bothSides : List Cond := .code yX1_bothSides cX1_bothSides 4 (some .int) :: ([.fieldLink RX1 18 "TubeShop$Joints" "least" "[I"] ++ wsX10)
def wsX1_bestJoint : List Cond := .code yX1_bestJoint cX1_bestJoint 5 (some .int) :: ([.methodLink RX1 34 yX1_bothSides, .instanceMethod yX1_bothSides, .selects RX1 yX1_bothSides yX1_bothSides, .initialized RX1, .code yX1_bothSides cX1_bothSides 4 (some .int), .fieldLink RX1 18 "TubeShop$Joints" "least" "[I"] ++ wsX10)
def wsX1_weigh : List Cond := .code yX1_weigh cX1_weigh 6 none :: ([.fieldLink RX1 9 "TubeShop$Joints" "looks" "I", .fieldLink RX1 15 "TubeShop$Joints" "first" "I", .fieldLink RX1 18 "TubeShop$Joints" "least" "[I", .methodLink RX1 30 yX1_bestJoint, .instanceMethod yX1_bestJoint, .selects RX1 yX1_bestJoint yX1_bestJoint, .initialized RX1, .code yX1_bestJoint cX1_bestJoint 5 (some .int), .methodLink RX1 34 yX1_bothSides, .instanceMethod yX1_bothSides, .selects RX1 yX1_bothSides yX1_bothSides, .code yX1_bothSides cX1_bothSides 4 (some .int)] ++ wsX10 ++ wsX20)
def wsX2_init : List Cond := .code yX2_init cX2_init 1 none :: ([.methodLink RX2 3 objectInit, .instanceMethod objectInit, .code objectInit ⟨#[0xb1]⟩ 1 none, .fieldLink RX2 9 "TubeShop$Parts" "size" "I", .arrayClass .int, .fieldLink RX2 15 "TubeShop$Parts" "sets" "[I", .fieldLink RX2 19 "TubeShop$Parts" "lengths" "[I", .fieldLink RX2 22 "TubeShop$Parts" "amounts" "[I"] ++ wsX20)
def wsX2_drop : List Cond := .code yX2_drop cX2_drop 1 none :: ([.fieldLink RX2 9 "TubeShop$Parts" "size" "I"] ++ wsX20)
def wsX2_begin : List Cond := .code yX2_begin cX2_begin 1 none :: ([.fieldLink RX2 9 "TubeShop$Parts" "size" "I"] ++ wsX20)
def wsX2_add : List Cond := .code yX2_add cX2_add 4 none :: ([.fieldLink RX2 9 "TubeShop$Parts" "size" "I", .fieldLink RX2 15 "TubeShop$Parts" "sets" "[I", .fieldLink RX2 19 "TubeShop$Parts" "lengths" "[I", .fieldLink RX2 22 "TubeShop$Parts" "amounts" "[I"] ++ wsX20)
def wsX2_areThere : List Cond := .code yX2_areThere cX2_areThere 1 (some .boolean) :: ([.fieldLink RX2 9 "TubeShop$Parts" "size" "I"] ++ wsX20)
def wsX2_wholePrice : List Cond := .code yX2_wholePrice cX2_wholePrice 3 (some .int) :: ([.fieldLink RX2 9 "TubeShop$Parts" "size" "I", .fieldLink RX2 22 "TubeShop$Parts" "amounts" "[I", .methodLink RX2 25 yX2_areThere, .instanceMethod yX2_areThere, .selects RX2 yX2_areThere yX2_areThere, .initialized RX2, .code yX2_areThere cX2_areThere 1 (some .boolean)] ++ wsX20)
def wsX3_init : List Cond := .code yX3_init cX3_init 1 none :: ([.methodLink RX3 1 objectInit, .instanceMethod objectInit, .code objectInit ⟨#[0xb1]⟩ 1 none, .fieldLink RX3 7 "TubeShop$PriceList" "AT_FIRST" "[I", .methodLink RX3 13 ⟨"[I", "clone", "()Ljava/lang/Object;"⟩, .sameMethod "[I" "java/lang/Object" "clone" "()Ljava/lang/Object;", .native ⟨"java/lang/Object", "clone", "()Ljava/lang/Object;"⟩, .instanceMethod ⟨"java/lang/Object", "clone", "()Ljava/lang/Object;"⟩, .selects "[I" ⟨"[I", "clone", "()Ljava/lang/Object;"⟩ ⟨"java/lang/Object", "clone", "()Ljava/lang/Object;"⟩, .classLink RX3 14 "[I", .fieldLink RX3 18 "TubeShop$PriceList" "amounts" "[I"] ++ wsX30)
def wsX3_put : List Cond := .code yX3_put cX3_put 3 (some .boolean) :: ([.fieldLink RX3 18 "TubeShop$PriceList" "amounts" "[I"] ++ wsX30)
def wsX3_ofBend : List Cond := .code yX3_ofBend cX3_ofBend 2 (some .int) :: ([.fieldLink RX3 18 "TubeShop$PriceList" "amounts" "[I"] ++ wsX30)
def wsX3_ofJump : List Cond := .code yX3_ofJump cX3_ofJump 1 (some .int) :: ([.fieldLink RX3 18 "TubeShop$PriceList" "amounts" "[I"] ++ wsX30)
def wsX7_payOf : List Cond := .code yX7_payOf cX7_payOf 1 (some .int) :: ([])
def wsX7_lengthOf : List Cond := .code yX7_lengthOf cX7_lengthOf 1 (some .int) :: ([])
def wsX3_ofRun : List Cond := .code yX3_ofRun cX3_ofRun 2 (some .int) :: ([.fieldLink RX3 18 "TubeShop$PriceList" "amounts" "[I", .static yX7_payOf, .initialized RX7, .code yX7_payOf cX7_payOf 1 (some .int), .static yX7_lengthOf, .code yX7_lengthOf cX7_lengthOf 1 (some .int)] ++ wsX30)
def wsX4_init : List Cond := .code yX4_init cX4_init 1 none :: ([.methodLink RX4 3 objectInit, .instanceMethod objectInit, .code objectInit ⟨#[0xb1]⟩ 1 none, .fieldLink RX4 9 "TubeShop$RunTable" "steps" "I", .arrayClass .int, .fieldLink RX4 15 "TubeShop$RunTable" "lengths" "[I", .fieldLink RX4 19 "TubeShop$RunTable" "links" "[I", .fieldLink RX4 22 "TubeShop$RunTable" "costs" "[I", .fieldLink RX4 25 "TubeShop$RunTable" "best" "[I", .fieldLink RX4 28 "TubeShop$RunTable" "way" "[I", .fieldLink RX4 31 "TubeShop$RunTable" "filled" "I"] ++ wsX40)
def wsX4_forget : List Cond := .code yX4_forget cX4_forget 1 none :: ([.fieldLink RX4 31 "TubeShop$RunTable" "filled" "I"] ++ wsX40)
def wsX5_all : List Cond := .code yX5_all cX5_all 1 (some .int) :: ([.fieldLink RX5 9 "TubeShop$Sign" "size" "I"] ++ wsX50)
def wsX7_distance : List Cond := .code yX7_distance cX7_distance 5 (some .int) :: ([.methodLink RX7 178 Lib.Math.abs.name, .static Lib.Math.abs.name, .initialized "java/lang/Math", .code Lib.Math.abs.name Lib.Math.abs.code 1 (some .int), .methodLink RX7 183 Lib.Math.min.name, .static Lib.Math.min.name, .code Lib.Math.min.name Lib.Math.min.code 2 (some .int), .methodLink RX7 186 Lib.Math.max.name, .static Lib.Math.max.name, .code Lib.Math.max.name Lib.Math.max.code 2 (some .int)])
def wsX5_linkCost_r1 : List Cond := [Cond.fieldLink RX5 15 "TubeShop$Sign" "x" "[I", Cond.fieldLink RX5 19 "TubeShop$Sign" "y" "[I", Cond.fieldLink RX5 22 "TubeShop$Sign" "directions" "[I", Cond.methodLink RX5 52 Lib.Math.abs.name, Cond.static Lib.Math.abs.name, Cond.initialized "java/lang/Math", Cond.code Lib.Math.abs.name Lib.Math.abs.code 1 (some .int), Cond.methodLink RX5 66 Lib.Math.min.name, Cond.static Lib.Math.min.name, Cond.code Lib.Math.min.name Lib.Math.min.code 2 (some .int), Cond.methodLink RX5 61 yX3_ofJump, Cond.instanceMethod yX3_ofJump, Cond.selects RX3 yX3_ofJump yX3_ofJump, Cond.initialized RX3, Cond.code yX3_ofJump cX3_ofJump 1 (some .int), Cond.fieldLink RX3 18 "TubeShop$PriceList" "amounts" "[I", Cond.static yX7_distance, Cond.initialized RX7, Cond.code yX7_distance cX7_distance 5 (some .int), Cond.methodLink RX7 178 Lib.Math.abs.name, Cond.methodLink RX7 183 Lib.Math.min.name, Cond.methodLink RX7 186 Lib.Math.max.name, Cond.static Lib.Math.max.name, Cond.code Lib.Math.max.name Lib.Math.max.code 2 (some .int)]
def wsX5_linkCost_r2 : List Cond := [Cond.methodLink RX5 69 yX3_ofBend, Cond.instanceMethod yX3_ofBend, Cond.selects RX3 yX3_ofBend yX3_ofBend, Cond.code yX3_ofBend cX3_ofBend 2 (some .int)]
def wsX5_linkCost : List Cond := .code yX5_linkCost cX5_linkCost 7 (some .int) :: ((wsX5_linkCost_r1 ++ wsX5_linkCost_r2) ++ wsX50 ++ wsX30)
def wsX4_takeOver_r1 : List Cond := [Cond.fieldLink RX4 9 "TubeShop$RunTable" "steps" "I", Cond.fieldLink RX4 15 "TubeShop$RunTable" "lengths" "[I", Cond.methodLink RX4 52 arraycopyName, Cond.native arraycopyName, Cond.static arraycopyName, Cond.initialized "java/lang/System", Cond.fieldLink RX4 19 "TubeShop$RunTable" "links" "[I", Cond.methodLink RX4 58 yX5_linkCost, Cond.instanceMethod yX5_linkCost, Cond.selects RX5 yX5_linkCost yX5_linkCost, Cond.initialized RX5, Cond.code yX5_linkCost cX5_linkCost 7 (some .int), Cond.fieldLink RX5 15 "TubeShop$Sign" "x" "[I", Cond.fieldLink RX5 19 "TubeShop$Sign" "y" "[I", Cond.fieldLink RX5 22 "TubeShop$Sign" "directions" "[I", Cond.methodLink RX5 52 Lib.Math.abs.name, Cond.static Lib.Math.abs.name, Cond.initialized "java/lang/Math", Cond.code Lib.Math.abs.name Lib.Math.abs.code 1 (some .int), Cond.methodLink RX5 66 Lib.Math.min.name, Cond.static Lib.Math.min.name, Cond.code Lib.Math.min.name Lib.Math.min.code 2 (some .int), Cond.methodLink RX5 61 yX3_ofJump, Cond.instanceMethod yX3_ofJump]
def wsX4_takeOver_r2 : List Cond := [Cond.selects RX3 yX3_ofJump yX3_ofJump, Cond.initialized RX3, Cond.code yX3_ofJump cX3_ofJump 1 (some .int), Cond.fieldLink RX3 18 "TubeShop$PriceList" "amounts" "[I", Cond.static yX7_distance, Cond.initialized RX7, Cond.code yX7_distance cX7_distance 5 (some .int), Cond.methodLink RX7 178 Lib.Math.abs.name, Cond.methodLink RX7 183 Lib.Math.min.name, Cond.methodLink RX7 186 Lib.Math.max.name, Cond.static Lib.Math.max.name, Cond.code Lib.Math.max.name Lib.Math.max.code 2 (some .int), Cond.methodLink RX5 69 yX3_ofBend, Cond.instanceMethod yX3_ofBend, Cond.selects RX3 yX3_ofBend yX3_ofBend, Cond.code yX3_ofBend cX3_ofBend 2 (some .int)]
def wsX4_takeOver : List Cond := .code yX4_takeOver cX4_takeOver 5 none :: ((wsX4_takeOver_r1 ++ wsX4_takeOver_r2) ++ wsX50 ++ wsX40 ++ wsX30)
def wsX7_bitOf : List Cond := .code yX7_bitOf cX7_bitOf 1 (some .int) :: ([])
def wsX4_leastBehind : List Cond := .code yX4_leastBehind cX4_leastBehind 9 (some .int) :: ([.constant RX4 64 (2147483647), .fieldLink RX4 9 "TubeShop$RunTable" "steps" "I", .fieldLink RX4 19 "TubeShop$RunTable" "links" "[I", .fieldLink RX4 22 "TubeShop$RunTable" "costs" "[I", .methodLink RX4 73 Lib.Math.min.name, .static Lib.Math.min.name, .initialized "java/lang/Math", .code Lib.Math.min.name Lib.Math.min.code 2 (some .int)] ++ wsX40)
def wsX4_fill : List Cond := .code yX4_fill cX4_fill 5 none :: ([.constant RX4 64 (2147483647), .fieldLink RX4 9 "TubeShop$RunTable" "steps" "I", .fieldLink RX4 15 "TubeShop$RunTable" "lengths" "[I", .fieldLink RX4 22 "TubeShop$RunTable" "costs" "[I", .methodLink RX4 73 Lib.Math.min.name, .static Lib.Math.min.name, .initialized "java/lang/Math", .code Lib.Math.min.name Lib.Math.min.code 2 (some .int), .fieldLink RX4 25 "TubeShop$RunTable" "best" "[I", .static yX7_bitOf, .initialized RX7, .code yX7_bitOf cX7_bitOf 1 (some .int), .methodLink RX4 69 yX4_leastBehind, .instanceMethod yX4_leastBehind, .selects RX4 yX4_leastBehind yX4_leastBehind, .initialized RX4, .code yX4_leastBehind cX4_leastBehind 9 (some .int), .fieldLink RX4 19 "TubeShop$RunTable" "links" "[I"] ++ wsX40)
def wsX4_refresh_r1 : List Cond := [Cond.fieldLink RX4 31 "TubeShop$RunTable" "filled" "I", Cond.methodLink RX4 34 yX5_all, Cond.instanceMethod yX5_all, Cond.selects RX5 yX5_all yX5_all, Cond.initialized RX5, Cond.code yX5_all cX5_all 1 (some .int), Cond.fieldLink RX5 9 "TubeShop$Sign" "size" "I", Cond.methodLink RX4 40 yX4_takeOver, Cond.instanceMethod yX4_takeOver, Cond.selects RX4 yX4_takeOver yX4_takeOver, Cond.initialized RX4, Cond.code yX4_takeOver cX4_takeOver 5 none, Cond.fieldLink RX4 9 "TubeShop$RunTable" "steps" "I", Cond.fieldLink RX4 15 "TubeShop$RunTable" "lengths" "[I", Cond.methodLink RX4 52 arraycopyName, Cond.native arraycopyName, Cond.static arraycopyName, Cond.initialized "java/lang/System", Cond.fieldLink RX4 19 "TubeShop$RunTable" "links" "[I", Cond.methodLink RX4 58 yX5_linkCost, Cond.instanceMethod yX5_linkCost, Cond.selects RX5 yX5_linkCost yX5_linkCost, Cond.code yX5_linkCost cX5_linkCost 7 (some .int), Cond.fieldLink RX5 15 "TubeShop$Sign" "x" "[I"]
def wsX4_refresh_r2 : List Cond := [Cond.fieldLink RX5 19 "TubeShop$Sign" "y" "[I", Cond.fieldLink RX5 22 "TubeShop$Sign" "directions" "[I", Cond.methodLink RX5 52 Lib.Math.abs.name, Cond.static Lib.Math.abs.name, Cond.initialized "java/lang/Math", Cond.code Lib.Math.abs.name Lib.Math.abs.code 1 (some .int), Cond.methodLink RX5 66 Lib.Math.min.name, Cond.static Lib.Math.min.name, Cond.code Lib.Math.min.name Lib.Math.min.code 2 (some .int), Cond.methodLink RX5 61 yX3_ofJump, Cond.instanceMethod yX3_ofJump, Cond.selects RX3 yX3_ofJump yX3_ofJump, Cond.initialized RX3, Cond.code yX3_ofJump cX3_ofJump 1 (some .int), Cond.fieldLink RX3 18 "TubeShop$PriceList" "amounts" "[I", Cond.static yX7_distance, Cond.initialized RX7, Cond.code yX7_distance cX7_distance 5 (some .int), Cond.methodLink RX7 178 Lib.Math.abs.name, Cond.methodLink RX7 183 Lib.Math.min.name, Cond.methodLink RX7 186 Lib.Math.max.name, Cond.static Lib.Math.max.name, Cond.code Lib.Math.max.name Lib.Math.max.code 2 (some .int), Cond.methodLink RX5 69 yX3_ofBend]
def wsX4_refresh_r3 : List Cond := [Cond.instanceMethod yX3_ofBend, Cond.selects RX3 yX3_ofBend yX3_ofBend, Cond.code yX3_ofBend cX3_ofBend 2 (some .int), Cond.methodLink RX4 44 yX4_fill, Cond.instanceMethod yX4_fill, Cond.selects RX4 yX4_fill yX4_fill, Cond.code yX4_fill cX4_fill 5 none, Cond.constant RX4 64 (2147483647), Cond.fieldLink RX4 22 "TubeShop$RunTable" "costs" "[I", Cond.methodLink RX4 73 Lib.Math.min.name, Cond.fieldLink RX4 25 "TubeShop$RunTable" "best" "[I", Cond.static yX7_bitOf, Cond.code yX7_bitOf cX7_bitOf 1 (some .int), Cond.methodLink RX4 69 yX4_leastBehind, Cond.instanceMethod yX4_leastBehind, Cond.selects RX4 yX4_leastBehind yX4_leastBehind, Cond.code yX4_leastBehind cX4_leastBehind 9 (some .int)]
def wsX4_refresh : List Cond := .code yX4_refresh cX4_refresh 5 none :: ((wsX4_refresh_r1 ++ (wsX4_refresh_r2 ++ wsX4_refresh_r3)) ++ wsX40 ++ wsX50 ++ wsX30)
def wsX4_costOf : List Cond := .code yX4_costOf cX4_costOf 2 (some .int) :: ([.fieldLink RX4 25 "TubeShop$RunTable" "best" "[I"] ++ wsX40)
def wsX4_firstStep : List Cond := .code yX4_firstStep cX4_firstStep 6 (some .int) :: ([.fieldLink RX4 9 "TubeShop$RunTable" "steps" "I", .fieldLink RX4 19 "TubeShop$RunTable" "links" "[I", .fieldLink RX4 22 "TubeShop$RunTable" "costs" "[I", .static yX7_bitOf, .initialized RX7, .code yX7_bitOf cX7_bitOf 1 (some .int)] ++ wsX40)
def wsX4_trace : List Cond := .code yX4_trace cX4_trace 7 (some .int) :: ([.fieldLink RX4 25 "TubeShop$RunTable" "best" "[I", .fieldLink RX4 22 "TubeShop$RunTable" "costs" "[I", .fieldLink RX4 15 "TubeShop$RunTable" "lengths" "[I", .fieldLink RX4 28 "TubeShop$RunTable" "way" "[I", .methodLink RX4 84 yX4_firstStep, .instanceMethod yX4_firstStep, .selects RX4 yX4_firstStep yX4_firstStep, .initialized RX4, .code yX4_firstStep cX4_firstStep 6 (some .int), .fieldLink RX4 9 "TubeShop$RunTable" "steps" "I", .fieldLink RX4 19 "TubeShop$RunTable" "links" "[I", .static yX7_bitOf, .initialized RX7, .code yX7_bitOf cX7_bitOf 1 (some .int)] ++ wsX40)
def wsX4_stepOf : List Cond := .code yX4_stepOf cX4_stepOf 4 (some .int) :: ([.fieldLink RX4 28 "TubeShop$RunTable" "way" "[I", .methodLink RX4 78 yX4_trace, .instanceMethod yX4_trace, .selects RX4 yX4_trace yX4_trace, .initialized RX4, .code yX4_trace cX4_trace 7 (some .int), .fieldLink RX4 25 "TubeShop$RunTable" "best" "[I", .fieldLink RX4 22 "TubeShop$RunTable" "costs" "[I", .fieldLink RX4 15 "TubeShop$RunTable" "lengths" "[I", .methodLink RX4 84 yX4_firstStep, .instanceMethod yX4_firstStep, .selects RX4 yX4_firstStep yX4_firstStep, .code yX4_firstStep cX4_firstStep 6 (some .int), .fieldLink RX4 9 "TubeShop$RunTable" "steps" "I", .fieldLink RX4 19 "TubeShop$RunTable" "links" "[I", .static yX7_bitOf, .initialized RX7, .code yX7_bitOf cX7_bitOf 1 (some .int)] ++ wsX40)
def wsX4_jumpsOf : List Cond := .code yX4_jumpsOf cX4_jumpsOf 5 (some .int) :: ([.fieldLink RX4 19 "TubeShop$RunTable" "links" "[I", .fieldLink RX4 28 "TubeShop$RunTable" "way" "[I", .methodLink RX4 78 yX4_trace, .instanceMethod yX4_trace, .selects RX4 yX4_trace yX4_trace, .initialized RX4, .code yX4_trace cX4_trace 7 (some .int), .fieldLink RX4 25 "TubeShop$RunTable" "best" "[I", .fieldLink RX4 22 "TubeShop$RunTable" "costs" "[I", .fieldLink RX4 15 "TubeShop$RunTable" "lengths" "[I", .methodLink RX4 84 yX4_firstStep, .instanceMethod yX4_firstStep, .selects RX4 yX4_firstStep yX4_firstStep, .code yX4_firstStep cX4_firstStep 6 (some .int), .fieldLink RX4 9 "TubeShop$RunTable" "steps" "I", .static yX7_bitOf, .initialized RX7, .code yX7_bitOf cX7_bitOf 1 (some .int), .static yX7_lengthOf, .code yX7_lengthOf cX7_lengthOf 1 (some .int)] ++ wsX40)
def wsX5_init : List Cond := .code yX5_init cX5_init 1 none :: ([.methodLink RX5 3 objectInit, .instanceMethod objectInit, .code objectInit ⟨#[0xb1]⟩ 1 none, .fieldLink RX5 9 "TubeShop$Sign" "size" "I", .arrayClass .int, .fieldLink RX5 15 "TubeShop$Sign" "x" "[I", .fieldLink RX5 19 "TubeShop$Sign" "y" "[I", .fieldLink RX5 22 "TubeShop$Sign" "directions" "[I", .fieldLink RX5 25 "TubeShop$Sign" "lengths" "[I"] ++ wsX50)
def wsX5_clear : List Cond := .code yX5_clear cX5_clear 1 none :: ([.fieldLink RX5 9 "TubeShop$Sign" "size" "I"] ++ wsX50)
def wsX5_onGrid : List Cond := .code yX5_onGrid cX5_onGrid 2 (some .boolean) :: ([])
def wsX5_isStraight : List Cond := .code yX5_isStraight cX5_isStraight 2 (some .boolean) :: ([.methodLink RX5 52 Lib.Math.abs.name, .static Lib.Math.abs.name, .initialized "java/lang/Math", .code Lib.Math.abs.name Lib.Math.abs.code 1 (some .int)])
def wsJ6_signum_0f7a4 : List Cond := .code yJ6_signum_0f7a4 cJ6_signum_0f7a4 1 (some .int) :: ([])
def wsX5_setStep : List Cond := .code yX5_setStep cX5_setStep 5 none :: ([.fieldLink RX5 15 "TubeShop$Sign" "x" "[I", .fieldLink RX5 19 "TubeShop$Sign" "y" "[I", .fieldLink RX5 22 "TubeShop$Sign" "directions" "[I"] ++ wsX50)
def wsX5_add_r1 : List Cond := [Cond.fieldLink RX5 9 "TubeShop$Sign" "size" "I", Cond.fieldLink RX5 35 "TubeShop$Sign" "COMPASS" "[I", Cond.fieldLink RX5 25 "TubeShop$Sign" "lengths" "[I", Cond.methodLink RX5 28 yX5_onGrid, Cond.static yX5_onGrid, Cond.initialized RX5, Cond.code yX5_onGrid cX5_onGrid 2 (some .boolean), Cond.methodLink RX5 32 yX5_isStraight, Cond.static yX5_isStraight, Cond.code yX5_isStraight cX5_isStraight 2 (some .boolean), Cond.methodLink RX5 52 Lib.Math.abs.name, Cond.static Lib.Math.abs.name, Cond.initialized "java/lang/Math", Cond.code Lib.Math.abs.name Lib.Math.abs.code 1 (some .int), Cond.methodLink RX5 38 yJ6_signum_0f7a4, Cond.static yJ6_signum_0f7a4, Cond.initialized RJ6, Cond.code yJ6_signum_0f7a4 cJ6_signum_0f7a4 1 (some .int), Cond.methodLink RX5 44 yX5_setStep, Cond.instanceMethod yX5_setStep, Cond.selects RX5 yX5_setStep yX5_setStep, Cond.code yX5_setStep cX5_setStep 5 none, Cond.fieldLink RX5 15 "TubeShop$Sign" "x" "[I", Cond.fieldLink RX5 19 "TubeShop$Sign" "y" "[I"]
def wsX5_add_r2 : List Cond := [Cond.fieldLink RX5 22 "TubeShop$Sign" "directions" "[I", Cond.static yX7_distance, Cond.initialized RX7, Cond.code yX7_distance cX7_distance 5 (some .int), Cond.methodLink RX7 178 Lib.Math.abs.name, Cond.methodLink RX7 183 Lib.Math.min.name, Cond.static Lib.Math.min.name, Cond.code Lib.Math.min.name Lib.Math.min.code 2 (some .int), Cond.methodLink RX7 186 Lib.Math.max.name, Cond.static Lib.Math.max.name, Cond.code Lib.Math.max.name Lib.Math.max.code 2 (some .int)]
def wsX5_add : List Cond := .code yX5_add cX5_add 8 (some .int) :: ((wsX5_add_r1 ++ wsX5_add_r2) ++ wsX50)
def wsX5_holds : List Cond := .code yX5_holds cX5_holds 2 (some .boolean) :: ([.methodLink RX5 57 yX5_all, .instanceMethod yX5_all, .selects RX5 yX5_all yX5_all, .initialized RX5, .code yX5_all cX5_all 1 (some .int), .fieldLink RX5 9 "TubeShop$Sign" "size" "I"] ++ wsX50)
def wsX5_wholeLength : List Cond := .code yX5_wholeLength cX5_wholeLength 3 (some .int) :: ([.fieldLink RX5 9 "TubeShop$Sign" "size" "I", .fieldLink RX5 25 "TubeShop$Sign" "lengths" "[I"] ++ wsX50)
def wsX6_init : List Cond := .code yX6_init cX6_init 1 none :: ([.methodLink RX6 5 objectInit, .instanceMethod objectInit, .code objectInit ⟨#[0xb1]⟩ 1 none, .arrayClass .int, .fieldLink RX6 11 "TubeShop$Splitter" "sums" "[I", .fieldLink RX6 17 "TubeShop$Splitter" "mostLength" "I"] ++ wsX60)
def wsJ6_bitCount_0f7a4 : List Cond := .code yJ6_bitCount_0f7a4 cJ6_bitCount_0f7a4 1 (some .int) :: ([.constant RJ6 265 (1431655765), .constant RJ6 266 (858993459), .constant RJ6 267 (252645135)])
def wsX6_sumWith : List Cond := .code yX6_sumWith cX6_sumWith 7 (some .int) :: ([.fieldLink RX6 11 "TubeShop$Splitter" "sums" "[I", .constant RX6 25 (2147483647), .fieldLink RX6 17 "TubeShop$Splitter" "mostLength" "I", .constant RX6 51 (1048576), .methodLink RX6 43 yX4_costOf, .instanceMethod yX4_costOf, .selects RX4 yX4_costOf yX4_costOf, .initialized RX4, .code yX4_costOf cX4_costOf 2 (some .int), .fieldLink RX4 25 "TubeShop$RunTable" "best" "[I", .static yX7_lengthOf, .initialized RX7, .code yX7_lengthOf cX7_lengthOf 1 (some .int), .methodLink RX6 52 yX3_ofRun, .instanceMethod yX3_ofRun, .selects RX3 yX3_ofRun yX3_ofRun, .initialized RX3, .code yX3_ofRun cX3_ofRun 2 (some .int), .fieldLink RX3 18 "TubeShop$PriceList" "amounts" "[I", .static yX7_payOf, .code yX7_payOf cX7_payOf 1 (some .int)] ++ wsX60 ++ wsX40 ++ wsX30)
def wsX6_nextWithin : List Cond := .code yX6_nextWithin cX6_nextWithin 2 (some .int) :: ([])
def wsX6_leastSum_r1 : List Cond := [Cond.constant RX6 25 (2147483647), Cond.methodLink RX6 34 Lib.Math.min.name, Cond.static Lib.Math.min.name, Cond.initialized "java/lang/Math", Cond.code Lib.Math.min.name Lib.Math.min.code 2 (some .int), Cond.methodLink RX6 26 yJ6_bitCount_0f7a4, Cond.static yJ6_bitCount_0f7a4, Cond.initialized RJ6, Cond.code yJ6_bitCount_0f7a4 cJ6_bitCount_0f7a4 1 (some .int), Cond.constant RJ6 265 (1431655765), Cond.constant RJ6 266 (858993459), Cond.constant RJ6 267 (252645135), Cond.methodLink RX6 30 yX6_sumWith, Cond.instanceMethod yX6_sumWith, Cond.selects RX6 yX6_sumWith yX6_sumWith, Cond.initialized RX6, Cond.code yX6_sumWith cX6_sumWith 7 (some .int), Cond.fieldLink RX6 11 "TubeShop$Splitter" "sums" "[I", Cond.fieldLink RX6 17 "TubeShop$Splitter" "mostLength" "I", Cond.constant RX6 51 (1048576), Cond.methodLink RX6 43 yX4_costOf, Cond.instanceMethod yX4_costOf, Cond.selects RX4 yX4_costOf yX4_costOf, Cond.initialized RX4]
def wsX6_leastSum_r2 : List Cond := [Cond.code yX4_costOf cX4_costOf 2 (some .int), Cond.fieldLink RX4 25 "TubeShop$RunTable" "best" "[I", Cond.static yX7_lengthOf, Cond.initialized RX7, Cond.code yX7_lengthOf cX7_lengthOf 1 (some .int), Cond.methodLink RX6 52 yX3_ofRun, Cond.instanceMethod yX3_ofRun, Cond.selects RX3 yX3_ofRun yX3_ofRun, Cond.initialized RX3, Cond.code yX3_ofRun cX3_ofRun 2 (some .int), Cond.fieldLink RX3 18 "TubeShop$PriceList" "amounts" "[I", Cond.static yX7_payOf, Cond.code yX7_payOf cX7_payOf 1 (some .int), Cond.methodLink RX6 40 yX6_nextWithin, Cond.static yX6_nextWithin, Cond.code yX6_nextWithin cX6_nextWithin 2 (some .int)]
def wsX6_leastSum : List Cond := .code yX6_leastSum cX6_leastSum 9 (some .int) :: ((wsX6_leastSum_r1 ++ wsX6_leastSum_r2) ++ wsX60 ++ wsX40 ++ wsX30)
def wsX6_search_r1 : List Cond := [Cond.fieldLink RX6 17 "TubeShop$Splitter" "mostLength" "I", Cond.fieldLink RX6 11 "TubeShop$Splitter" "sums" "[I", Cond.constant RX6 25 (2147483647), Cond.methodLink RX6 21 yX6_leastSum, Cond.instanceMethod yX6_leastSum, Cond.selects RX6 yX6_leastSum yX6_leastSum, Cond.initialized RX6, Cond.code yX6_leastSum cX6_leastSum 9 (some .int), Cond.methodLink RX6 34 Lib.Math.min.name, Cond.static Lib.Math.min.name, Cond.initialized "java/lang/Math", Cond.code Lib.Math.min.name Lib.Math.min.code 2 (some .int), Cond.methodLink RX6 26 yJ6_bitCount_0f7a4, Cond.static yJ6_bitCount_0f7a4, Cond.initialized RJ6, Cond.code yJ6_bitCount_0f7a4 cJ6_bitCount_0f7a4 1 (some .int), Cond.constant RJ6 265 (1431655765), Cond.constant RJ6 266 (858993459), Cond.constant RJ6 267 (252645135), Cond.methodLink RX6 30 yX6_sumWith, Cond.instanceMethod yX6_sumWith, Cond.selects RX6 yX6_sumWith yX6_sumWith, Cond.code yX6_sumWith cX6_sumWith 7 (some .int), Cond.constant RX6 51 (1048576)]
def wsX6_search_r2 : List Cond := [Cond.methodLink RX6 43 yX4_costOf, Cond.instanceMethod yX4_costOf, Cond.selects RX4 yX4_costOf yX4_costOf, Cond.initialized RX4, Cond.code yX4_costOf cX4_costOf 2 (some .int), Cond.fieldLink RX4 25 "TubeShop$RunTable" "best" "[I", Cond.static yX7_lengthOf, Cond.initialized RX7, Cond.code yX7_lengthOf cX7_lengthOf 1 (some .int), Cond.methodLink RX6 52 yX3_ofRun, Cond.instanceMethod yX3_ofRun, Cond.selects RX3 yX3_ofRun yX3_ofRun, Cond.initialized RX3, Cond.code yX3_ofRun cX3_ofRun 2 (some .int), Cond.fieldLink RX3 18 "TubeShop$PriceList" "amounts" "[I", Cond.static yX7_payOf, Cond.code yX7_payOf cX7_payOf 1 (some .int), Cond.methodLink RX6 40 yX6_nextWithin, Cond.static yX6_nextWithin, Cond.code yX6_nextWithin cX6_nextWithin 2 (some .int)]
def wsX6_search : List Cond := .code yX6_search cX6_search 6 (some .boolean) :: ((wsX6_search_r1 ++ wsX6_search_r2) ++ wsX60 ++ wsX40 ++ wsX30)
def wsX6_firstSet_r1 : List Cond := [Cond.fieldLink RX6 11 "TubeShop$Splitter" "sums" "[I", Cond.methodLink RX6 26 yJ6_bitCount_0f7a4, Cond.static yJ6_bitCount_0f7a4, Cond.initialized RJ6, Cond.code yJ6_bitCount_0f7a4 cJ6_bitCount_0f7a4 1 (some .int), Cond.constant RJ6 265 (1431655765), Cond.constant RJ6 266 (858993459), Cond.constant RJ6 267 (252645135), Cond.methodLink RX6 30 yX6_sumWith, Cond.instanceMethod yX6_sumWith, Cond.selects RX6 yX6_sumWith yX6_sumWith, Cond.initialized RX6, Cond.code yX6_sumWith cX6_sumWith 7 (some .int), Cond.constant RX6 25 (2147483647), Cond.fieldLink RX6 17 "TubeShop$Splitter" "mostLength" "I", Cond.constant RX6 51 (1048576), Cond.methodLink RX6 43 yX4_costOf, Cond.instanceMethod yX4_costOf, Cond.selects RX4 yX4_costOf yX4_costOf, Cond.initialized RX4, Cond.code yX4_costOf cX4_costOf 2 (some .int), Cond.fieldLink RX4 25 "TubeShop$RunTable" "best" "[I", Cond.static yX7_lengthOf, Cond.initialized RX7]
def wsX6_firstSet_r2 : List Cond := [Cond.code yX7_lengthOf cX7_lengthOf 1 (some .int), Cond.methodLink RX6 52 yX3_ofRun, Cond.instanceMethod yX3_ofRun, Cond.selects RX3 yX3_ofRun yX3_ofRun, Cond.initialized RX3, Cond.code yX3_ofRun cX3_ofRun 2 (some .int), Cond.fieldLink RX3 18 "TubeShop$PriceList" "amounts" "[I", Cond.static yX7_payOf, Cond.code yX7_payOf cX7_payOf 1 (some .int), Cond.methodLink RX6 40 yX6_nextWithin, Cond.static yX6_nextWithin, Cond.code yX6_nextWithin cX6_nextWithin 2 (some .int)]
def wsX6_firstSet : List Cond := .code yX6_firstSet cX6_firstSet 8 (some .int) :: ((wsX6_firstSet_r1 ++ wsX6_firstSet_r2) ++ wsX60 ++ wsX40 ++ wsX30)
def wsX6_tell_r1 : List Cond := [Cond.methodLink RX6 57 yX2_begin, Cond.instanceMethod yX2_begin, Cond.selects RX2 yX2_begin yX2_begin, Cond.initialized RX2, Cond.code yX2_begin cX2_begin 1 none, Cond.fieldLink RX2 9 "TubeShop$Parts" "size" "I", Cond.methodLink RX6 62 yX6_firstSet, Cond.instanceMethod yX6_firstSet, Cond.selects RX6 yX6_firstSet yX6_firstSet, Cond.initialized RX6, Cond.code yX6_firstSet cX6_firstSet 8 (some .int), Cond.fieldLink RX6 11 "TubeShop$Splitter" "sums" "[I", Cond.methodLink RX6 26 yJ6_bitCount_0f7a4, Cond.static yJ6_bitCount_0f7a4, Cond.initialized RJ6, Cond.code yJ6_bitCount_0f7a4 cJ6_bitCount_0f7a4 1 (some .int), Cond.constant RJ6 265 (1431655765), Cond.constant RJ6 266 (858993459), Cond.constant RJ6 267 (252645135), Cond.methodLink RX6 30 yX6_sumWith, Cond.instanceMethod yX6_sumWith, Cond.selects RX6 yX6_sumWith yX6_sumWith, Cond.code yX6_sumWith cX6_sumWith 7 (some .int), Cond.constant RX6 25 (2147483647)]
def wsX6_tell_r2 : List Cond := [Cond.fieldLink RX6 17 "TubeShop$Splitter" "mostLength" "I", Cond.constant RX6 51 (1048576), Cond.methodLink RX6 43 yX4_costOf, Cond.instanceMethod yX4_costOf, Cond.selects RX4 yX4_costOf yX4_costOf, Cond.initialized RX4, Cond.code yX4_costOf cX4_costOf 2 (some .int), Cond.fieldLink RX4 25 "TubeShop$RunTable" "best" "[I", Cond.static yX7_lengthOf, Cond.initialized RX7, Cond.code yX7_lengthOf cX7_lengthOf 1 (some .int), Cond.methodLink RX6 52 yX3_ofRun, Cond.instanceMethod yX3_ofRun, Cond.selects RX3 yX3_ofRun yX3_ofRun, Cond.initialized RX3, Cond.code yX3_ofRun cX3_ofRun 2 (some .int), Cond.fieldLink RX3 18 "TubeShop$PriceList" "amounts" "[I", Cond.static yX7_payOf, Cond.code yX7_payOf cX7_payOf 1 (some .int), Cond.methodLink RX6 40 yX6_nextWithin, Cond.static yX6_nextWithin, Cond.code yX6_nextWithin cX6_nextWithin 2 (some .int), Cond.methodLink RX6 65 yX2_add, Cond.instanceMethod yX2_add]
def wsX6_tell_r3 : List Cond := [Cond.selects RX2 yX2_add yX2_add, Cond.code yX2_add cX2_add 4 none, Cond.fieldLink RX2 15 "TubeShop$Parts" "sets" "[I", Cond.fieldLink RX2 19 "TubeShop$Parts" "lengths" "[I", Cond.fieldLink RX2 22 "TubeShop$Parts" "amounts" "[I"]
def wsX6_tell : List Cond := .code yX6_tell cX6_tell 9 none :: ((wsX6_tell_r1 ++ (wsX6_tell_r2 ++ wsX6_tell_r3)) ++ wsX20 ++ wsX60 ++ wsX40 ++ wsX30)
def wsX7_init_r1 : List Cond := [Cond.methodLink RX7 3 objectInit, Cond.instanceMethod objectInit, Cond.code objectInit ⟨#[0xb1]⟩ 1 none, Cond.classLink RX7 9 RX5, Cond.instantiable RX5 5, Cond.initialized RX5, Cond.fieldLink RX7 12 "TubeShop" "sign" "LTubeShop$Sign;", Cond.classLink RX7 16 RX3, Cond.instantiable RX3 1, Cond.initialized RX3, Cond.fieldLink RX7 19 "TubeShop" "prices" "LTubeShop$PriceList;", Cond.classLink RX7 23 RX4, Cond.instantiable RX4 7, Cond.initialized RX4, Cond.fieldLink RX7 26 "TubeShop" "runs" "LTubeShop$RunTable;", Cond.classLink RX7 30 RX6, Cond.instantiable RX6 2, Cond.initialized RX6, Cond.fieldLink RX7 33 "TubeShop" "splitter" "LTubeShop$Splitter;", Cond.classLink RX7 37 RX2, Cond.instantiable RX2 4, Cond.initialized RX2, Cond.fieldLink RX7 40 "TubeShop" "parts" "LTubeShop$Parts;", Cond.classLink RX7 44 RX0]
def wsX7_init_r2 : List Cond := [Cond.instantiable RX0 2, Cond.initialized RX0, Cond.fieldLink RX7 47 "TubeShop" "boxes" "LTubeShop$Boxes;", Cond.classLink RX7 51 RX1, Cond.instantiable RX1 3, Cond.initialized RX1, Cond.fieldLink RX7 54 "TubeShop" "joints" "LTubeShop$Joints;", Cond.fieldLink RX7 58 "TubeShop" "mostLength" "I", Cond.instanceMethod yX5_init, Cond.code yX5_init cX5_init 1 none, Cond.methodLink RX5 3 objectInit, Cond.fieldLink RX5 9 "TubeShop$Sign" "size" "I", Cond.arrayClass .int, Cond.fieldLink RX5 15 "TubeShop$Sign" "x" "[I", Cond.fieldLink RX5 19 "TubeShop$Sign" "y" "[I", Cond.fieldLink RX5 22 "TubeShop$Sign" "directions" "[I", Cond.fieldLink RX5 25 "TubeShop$Sign" "lengths" "[I", Cond.instanceMethod yX3_init, Cond.code yX3_init cX3_init 1 none, Cond.methodLink RX3 1 objectInit, Cond.fieldLink RX3 7 "TubeShop$PriceList" "AT_FIRST" "[I", Cond.methodLink RX3 13 ⟨"[I", "clone", "()Ljava/lang/Object;"⟩, Cond.sameMethod "[I" "java/lang/Object" "clone" "()Ljava/lang/Object;", Cond.native ⟨"java/lang/Object", "clone", "()Ljava/lang/Object;"⟩]
def wsX7_init_r3 : List Cond := [Cond.instanceMethod ⟨"java/lang/Object", "clone", "()Ljava/lang/Object;"⟩, Cond.selects "[I" ⟨"[I", "clone", "()Ljava/lang/Object;"⟩ ⟨"java/lang/Object", "clone", "()Ljava/lang/Object;"⟩, Cond.classLink RX3 14 "[I", Cond.fieldLink RX3 18 "TubeShop$PriceList" "amounts" "[I", Cond.instanceMethod yX4_init, Cond.code yX4_init cX4_init 1 none, Cond.methodLink RX4 3 objectInit, Cond.fieldLink RX4 9 "TubeShop$RunTable" "steps" "I", Cond.fieldLink RX4 15 "TubeShop$RunTable" "lengths" "[I", Cond.fieldLink RX4 19 "TubeShop$RunTable" "links" "[I", Cond.fieldLink RX4 22 "TubeShop$RunTable" "costs" "[I", Cond.fieldLink RX4 25 "TubeShop$RunTable" "best" "[I", Cond.fieldLink RX4 28 "TubeShop$RunTable" "way" "[I", Cond.fieldLink RX4 31 "TubeShop$RunTable" "filled" "I", Cond.instanceMethod yX6_init, Cond.code yX6_init cX6_init 1 none, Cond.methodLink RX6 5 objectInit, Cond.fieldLink RX6 11 "TubeShop$Splitter" "sums" "[I", Cond.fieldLink RX6 17 "TubeShop$Splitter" "mostLength" "I", Cond.instanceMethod yX2_init, Cond.code yX2_init cX2_init 1 none, Cond.methodLink RX2 3 objectInit, Cond.fieldLink RX2 9 "TubeShop$Parts" "size" "I", Cond.fieldLink RX2 15 "TubeShop$Parts" "sets" "[I"]
def wsX7_init_r4 : List Cond := [Cond.fieldLink RX2 19 "TubeShop$Parts" "lengths" "[I", Cond.fieldLink RX2 22 "TubeShop$Parts" "amounts" "[I", Cond.instanceMethod yX0_init, Cond.code yX0_init cX0_init 1 none, Cond.methodLink RX0 3 objectInit, Cond.fieldLink RX0 9 "TubeShop$Boxes" "volts" "[I", Cond.fieldLink RX0 15 "TubeShop$Boxes" "fills" "[I", Cond.instanceMethod yX1_init, Cond.code yX1_init cX1_init 1 none, Cond.methodLink RX1 3 objectInit, Cond.fieldLink RX1 9 "TubeShop$Joints" "looks" "I", Cond.fieldLink RX1 15 "TubeShop$Joints" "first" "I", Cond.fieldLink RX1 18 "TubeShop$Joints" "least" "[I"]
def wsX7_init : List Cond := .code yX7_init cX7_init 1 none :: ((wsX7_init_r1 ++ (wsX7_init_r2 ++ (wsX7_init_r3 ++ wsX7_init_r4))) ++ wsX50 ++ wsX70 ++ wsX30 ++ wsX40 ++ wsX60 ++ wsX20 ++ wsX00 ++ wsX10)
def wsX7_anew : List Cond := .code yX7_anew cX7_anew 1 none :: ([.fieldLink RX7 12 "TubeShop" "sign" "LTubeShop$Sign;", .fieldLink RX7 26 "TubeShop" "runs" "LTubeShop$RunTable;", .fieldLink RX7 40 "TubeShop" "parts" "LTubeShop$Parts;", .methodLink RX7 62 yX5_clear, .instanceMethod yX5_clear, .selects RX5 yX5_clear yX5_clear, .initialized RX5, .code yX5_clear cX5_clear 1 none, .fieldLink RX5 9 "TubeShop$Sign" "size" "I", .methodLink RX7 65 yX4_forget, .instanceMethod yX4_forget, .selects RX4 yX4_forget yX4_forget, .initialized RX4, .code yX4_forget cX4_forget 1 none, .fieldLink RX4 31 "TubeShop$RunTable" "filled" "I", .methodLink RX7 68 yX2_drop, .instanceMethod yX2_drop, .selects RX2 yX2_drop yX2_drop, .initialized RX2, .code yX2_drop cX2_drop 1 none, .fieldLink RX2 9 "TubeShop$Parts" "size" "I"] ++ wsX70 ++ wsX50 ++ wsX40 ++ wsX20)
def wsX7_stroke_r1 : List Cond := [Cond.fieldLink RX7 12 "TubeShop" "sign" "LTubeShop$Sign;", Cond.methodLink RX7 71 yX5_add, Cond.instanceMethod yX5_add, Cond.selects RX5 yX5_add yX5_add, Cond.initialized RX5, Cond.code yX5_add cX5_add 8 (some .int), Cond.fieldLink RX5 9 "TubeShop$Sign" "size" "I", Cond.fieldLink RX5 35 "TubeShop$Sign" "COMPASS" "[I", Cond.fieldLink RX5 25 "TubeShop$Sign" "lengths" "[I", Cond.methodLink RX5 28 yX5_onGrid, Cond.static yX5_onGrid, Cond.code yX5_onGrid cX5_onGrid 2 (some .boolean), Cond.methodLink RX5 32 yX5_isStraight, Cond.static yX5_isStraight, Cond.code yX5_isStraight cX5_isStraight 2 (some .boolean), Cond.methodLink RX5 52 Lib.Math.abs.name, Cond.static Lib.Math.abs.name, Cond.initialized "java/lang/Math", Cond.code Lib.Math.abs.name Lib.Math.abs.code 1 (some .int), Cond.methodLink RX5 38 yJ6_signum_0f7a4, Cond.static yJ6_signum_0f7a4, Cond.initialized RJ6, Cond.code yJ6_signum_0f7a4 cJ6_signum_0f7a4 1 (some .int), Cond.methodLink RX5 44 yX5_setStep]
def wsX7_stroke_r2 : List Cond := [Cond.instanceMethod yX5_setStep, Cond.selects RX5 yX5_setStep yX5_setStep, Cond.code yX5_setStep cX5_setStep 5 none, Cond.fieldLink RX5 15 "TubeShop$Sign" "x" "[I", Cond.fieldLink RX5 19 "TubeShop$Sign" "y" "[I", Cond.fieldLink RX5 22 "TubeShop$Sign" "directions" "[I", Cond.static yX7_distance, Cond.initialized RX7, Cond.code yX7_distance cX7_distance 5 (some .int), Cond.methodLink RX7 178 Lib.Math.abs.name, Cond.methodLink RX7 183 Lib.Math.min.name, Cond.static Lib.Math.min.name, Cond.code Lib.Math.min.name Lib.Math.min.code 2 (some .int), Cond.methodLink RX7 186 Lib.Math.max.name, Cond.static Lib.Math.max.name, Cond.code Lib.Math.max.name Lib.Math.max.code 2 (some .int)]
def wsX7_stroke : List Cond := .code yX7_stroke cX7_stroke 5 (some .int) :: ((wsX7_stroke_r1 ++ wsX7_stroke_r2) ++ wsX70 ++ wsX50)
def wsX7_price : List Cond := .code yX7_price cX7_price 3 (some .boolean) :: ([.fieldLink RX7 19 "TubeShop" "prices" "LTubeShop$PriceList;", .fieldLink RX7 26 "TubeShop" "runs" "LTubeShop$RunTable;", .methodLink RX7 75 yX3_put, .instanceMethod yX3_put, .selects RX3 yX3_put yX3_put, .initialized RX3, .code yX3_put cX3_put 3 (some .boolean), .fieldLink RX3 18 "TubeShop$PriceList" "amounts" "[I", .methodLink RX7 65 yX4_forget, .instanceMethod yX4_forget, .selects RX4 yX4_forget yX4_forget, .initialized RX4, .code yX4_forget cX4_forget 1 none, .fieldLink RX4 31 "TubeShop$RunTable" "filled" "I"] ++ wsX70 ++ wsX30 ++ wsX40)
def wsX7_longest : List Cond := .code yX7_longest cX7_longest 2 (some .boolean) :: ([.fieldLink RX7 58 "TubeShop" "mostLength" "I"] ++ wsX70)
def wsX7_run_r1 : List Cond := [Cond.fieldLink RX7 12 "TubeShop" "sign" "LTubeShop$Sign;", Cond.fieldLink RX7 26 "TubeShop" "runs" "LTubeShop$RunTable;", Cond.fieldLink RX7 19 "TubeShop" "prices" "LTubeShop$PriceList;", Cond.methodLink RX7 79 yX5_holds, Cond.instanceMethod yX5_holds, Cond.selects RX5 yX5_holds yX5_holds, Cond.initialized RX5, Cond.code yX5_holds cX5_holds 2 (some .boolean), Cond.methodLink RX5 57 yX5_all, Cond.instanceMethod yX5_all, Cond.selects RX5 yX5_all yX5_all, Cond.code yX5_all cX5_all 1 (some .int), Cond.fieldLink RX5 9 "TubeShop$Sign" "size" "I", Cond.methodLink RX7 83 yX4_refresh, Cond.instanceMethod yX4_refresh, Cond.selects RX4 yX4_refresh yX4_refresh, Cond.initialized RX4, Cond.code yX4_refresh cX4_refresh 5 none, Cond.fieldLink RX4 31 "TubeShop$RunTable" "filled" "I", Cond.methodLink RX4 34 yX5_all, Cond.methodLink RX4 40 yX4_takeOver, Cond.instanceMethod yX4_takeOver, Cond.selects RX4 yX4_takeOver yX4_takeOver, Cond.code yX4_takeOver cX4_takeOver 5 none]
def wsX7_run_r2 : List Cond := [Cond.fieldLink RX4 9 "TubeShop$RunTable" "steps" "I", Cond.fieldLink RX4 15 "TubeShop$RunTable" "lengths" "[I", Cond.methodLink RX4 52 arraycopyName, Cond.native arraycopyName, Cond.static arraycopyName, Cond.initialized "java/lang/System", Cond.fieldLink RX4 19 "TubeShop$RunTable" "links" "[I", Cond.methodLink RX4 58 yX5_linkCost, Cond.instanceMethod yX5_linkCost, Cond.selects RX5 yX5_linkCost yX5_linkCost, Cond.code yX5_linkCost cX5_linkCost 7 (some .int), Cond.fieldLink RX5 15 "TubeShop$Sign" "x" "[I", Cond.fieldLink RX5 19 "TubeShop$Sign" "y" "[I", Cond.fieldLink RX5 22 "TubeShop$Sign" "directions" "[I", Cond.methodLink RX5 52 Lib.Math.abs.name, Cond.static Lib.Math.abs.name, Cond.initialized "java/lang/Math", Cond.code Lib.Math.abs.name Lib.Math.abs.code 1 (some .int), Cond.methodLink RX5 66 Lib.Math.min.name, Cond.static Lib.Math.min.name, Cond.code Lib.Math.min.name Lib.Math.min.code 2 (some .int), Cond.methodLink RX5 61 yX3_ofJump, Cond.instanceMethod yX3_ofJump, Cond.selects RX3 yX3_ofJump yX3_ofJump]
def wsX7_run_r3 : List Cond := [Cond.initialized RX3, Cond.code yX3_ofJump cX3_ofJump 1 (some .int), Cond.fieldLink RX3 18 "TubeShop$PriceList" "amounts" "[I", Cond.static yX7_distance, Cond.initialized RX7, Cond.code yX7_distance cX7_distance 5 (some .int), Cond.methodLink RX7 178 Lib.Math.abs.name, Cond.methodLink RX7 183 Lib.Math.min.name, Cond.methodLink RX7 186 Lib.Math.max.name, Cond.static Lib.Math.max.name, Cond.code Lib.Math.max.name Lib.Math.max.code 2 (some .int), Cond.methodLink RX5 69 yX3_ofBend, Cond.instanceMethod yX3_ofBend, Cond.selects RX3 yX3_ofBend yX3_ofBend, Cond.code yX3_ofBend cX3_ofBend 2 (some .int), Cond.methodLink RX4 44 yX4_fill, Cond.instanceMethod yX4_fill, Cond.selects RX4 yX4_fill yX4_fill, Cond.code yX4_fill cX4_fill 5 none, Cond.constant RX4 64 (2147483647), Cond.fieldLink RX4 22 "TubeShop$RunTable" "costs" "[I", Cond.methodLink RX4 73 Lib.Math.min.name, Cond.fieldLink RX4 25 "TubeShop$RunTable" "best" "[I", Cond.static yX7_bitOf]
def wsX7_run_r4 : List Cond := [Cond.code yX7_bitOf cX7_bitOf 1 (some .int), Cond.methodLink RX4 69 yX4_leastBehind, Cond.instanceMethod yX4_leastBehind, Cond.selects RX4 yX4_leastBehind yX4_leastBehind, Cond.code yX4_leastBehind cX4_leastBehind 9 (some .int), Cond.methodLink RX7 87 yX4_costOf, Cond.instanceMethod yX4_costOf, Cond.selects RX4 yX4_costOf yX4_costOf, Cond.code yX4_costOf cX4_costOf 2 (some .int), Cond.methodLink RX7 91 yX7_payOf, Cond.static yX7_payOf, Cond.code yX7_payOf cX7_payOf 1 (some .int), Cond.methodLink RX7 94 yX7_lengthOf, Cond.static yX7_lengthOf, Cond.code yX7_lengthOf cX7_lengthOf 1 (some .int), Cond.methodLink RX7 97 yX3_ofRun, Cond.instanceMethod yX3_ofRun, Cond.selects RX3 yX3_ofRun yX3_ofRun, Cond.code yX3_ofRun cX3_ofRun 2 (some .int), Cond.methodLink RX7 100 yX4_jumpsOf, Cond.instanceMethod yX4_jumpsOf, Cond.selects RX4 yX4_jumpsOf yX4_jumpsOf, Cond.code yX4_jumpsOf cX4_jumpsOf 5 (some .int), Cond.fieldLink RX4 28 "TubeShop$RunTable" "way" "[I"]
def wsX7_run_r5 : List Cond := [Cond.methodLink RX4 78 yX4_trace, Cond.instanceMethod yX4_trace, Cond.selects RX4 yX4_trace yX4_trace, Cond.code yX4_trace cX4_trace 7 (some .int), Cond.methodLink RX4 84 yX4_firstStep, Cond.instanceMethod yX4_firstStep, Cond.selects RX4 yX4_firstStep yX4_firstStep, Cond.code yX4_firstStep cX4_firstStep 6 (some .int)]
def wsX7_run : List Cond := .code yX7_run cX7_run 3 (some .int) :: ((wsX7_run_r1 ++ (wsX7_run_r2 ++ (wsX7_run_r3 ++ (wsX7_run_r4 ++ wsX7_run_r5)))) ++ wsX70 ++ wsX50 ++ wsX40 ++ wsX30)
def wsX7_step_r1 : List Cond := [Cond.fieldLink RX7 12 "TubeShop" "sign" "LTubeShop$Sign;", Cond.fieldLink RX7 26 "TubeShop" "runs" "LTubeShop$RunTable;", Cond.fieldLink RX7 19 "TubeShop" "prices" "LTubeShop$PriceList;", Cond.methodLink RX7 79 yX5_holds, Cond.instanceMethod yX5_holds, Cond.selects RX5 yX5_holds yX5_holds, Cond.initialized RX5, Cond.code yX5_holds cX5_holds 2 (some .boolean), Cond.methodLink RX5 57 yX5_all, Cond.instanceMethod yX5_all, Cond.selects RX5 yX5_all yX5_all, Cond.code yX5_all cX5_all 1 (some .int), Cond.fieldLink RX5 9 "TubeShop$Sign" "size" "I", Cond.methodLink RX7 83 yX4_refresh, Cond.instanceMethod yX4_refresh, Cond.selects RX4 yX4_refresh yX4_refresh, Cond.initialized RX4, Cond.code yX4_refresh cX4_refresh 5 none, Cond.fieldLink RX4 31 "TubeShop$RunTable" "filled" "I", Cond.methodLink RX4 34 yX5_all, Cond.methodLink RX4 40 yX4_takeOver, Cond.instanceMethod yX4_takeOver, Cond.selects RX4 yX4_takeOver yX4_takeOver, Cond.code yX4_takeOver cX4_takeOver 5 none]
def wsX7_step_r2 : List Cond := [Cond.fieldLink RX4 9 "TubeShop$RunTable" "steps" "I", Cond.fieldLink RX4 15 "TubeShop$RunTable" "lengths" "[I", Cond.methodLink RX4 52 arraycopyName, Cond.native arraycopyName, Cond.static arraycopyName, Cond.initialized "java/lang/System", Cond.fieldLink RX4 19 "TubeShop$RunTable" "links" "[I", Cond.methodLink RX4 58 yX5_linkCost, Cond.instanceMethod yX5_linkCost, Cond.selects RX5 yX5_linkCost yX5_linkCost, Cond.code yX5_linkCost cX5_linkCost 7 (some .int), Cond.fieldLink RX5 15 "TubeShop$Sign" "x" "[I", Cond.fieldLink RX5 19 "TubeShop$Sign" "y" "[I", Cond.fieldLink RX5 22 "TubeShop$Sign" "directions" "[I", Cond.methodLink RX5 52 Lib.Math.abs.name, Cond.static Lib.Math.abs.name, Cond.initialized "java/lang/Math", Cond.code Lib.Math.abs.name Lib.Math.abs.code 1 (some .int), Cond.methodLink RX5 66 Lib.Math.min.name, Cond.static Lib.Math.min.name, Cond.code Lib.Math.min.name Lib.Math.min.code 2 (some .int), Cond.methodLink RX5 61 yX3_ofJump, Cond.instanceMethod yX3_ofJump, Cond.selects RX3 yX3_ofJump yX3_ofJump]
def wsX7_step_r3 : List Cond := [Cond.initialized RX3, Cond.code yX3_ofJump cX3_ofJump 1 (some .int), Cond.fieldLink RX3 18 "TubeShop$PriceList" "amounts" "[I", Cond.static yX7_distance, Cond.initialized RX7, Cond.code yX7_distance cX7_distance 5 (some .int), Cond.methodLink RX7 178 Lib.Math.abs.name, Cond.methodLink RX7 183 Lib.Math.min.name, Cond.methodLink RX7 186 Lib.Math.max.name, Cond.static Lib.Math.max.name, Cond.code Lib.Math.max.name Lib.Math.max.code 2 (some .int), Cond.methodLink RX5 69 yX3_ofBend, Cond.instanceMethod yX3_ofBend, Cond.selects RX3 yX3_ofBend yX3_ofBend, Cond.code yX3_ofBend cX3_ofBend 2 (some .int), Cond.methodLink RX4 44 yX4_fill, Cond.instanceMethod yX4_fill, Cond.selects RX4 yX4_fill yX4_fill, Cond.code yX4_fill cX4_fill 5 none, Cond.constant RX4 64 (2147483647), Cond.fieldLink RX4 22 "TubeShop$RunTable" "costs" "[I", Cond.methodLink RX4 73 Lib.Math.min.name, Cond.fieldLink RX4 25 "TubeShop$RunTable" "best" "[I", Cond.static yX7_bitOf]
def wsX7_step_r4 : List Cond := [Cond.code yX7_bitOf cX7_bitOf 1 (some .int), Cond.methodLink RX4 69 yX4_leastBehind, Cond.instanceMethod yX4_leastBehind, Cond.selects RX4 yX4_leastBehind yX4_leastBehind, Cond.code yX4_leastBehind cX4_leastBehind 9 (some .int), Cond.methodLink RX7 103 yX4_stepOf, Cond.instanceMethod yX4_stepOf, Cond.selects RX4 yX4_stepOf yX4_stepOf, Cond.code yX4_stepOf cX4_stepOf 4 (some .int), Cond.fieldLink RX4 28 "TubeShop$RunTable" "way" "[I", Cond.methodLink RX4 78 yX4_trace, Cond.instanceMethod yX4_trace, Cond.selects RX4 yX4_trace yX4_trace, Cond.code yX4_trace cX4_trace 7 (some .int), Cond.methodLink RX4 84 yX4_firstStep, Cond.instanceMethod yX4_firstStep, Cond.selects RX4 yX4_firstStep yX4_firstStep, Cond.code yX4_firstStep cX4_firstStep 6 (some .int)]
def wsX7_step : List Cond := .code yX7_step cX7_step 3 (some .int) :: ((wsX7_step_r1 ++ (wsX7_step_r2 ++ (wsX7_step_r3 ++ wsX7_step_r4))) ++ wsX70 ++ wsX50 ++ wsX40 ++ wsX30)
def wsX7_split_r1 : List Cond := [Cond.fieldLink RX7 26 "TubeShop" "runs" "LTubeShop$RunTable;", Cond.fieldLink RX7 12 "TubeShop" "sign" "LTubeShop$Sign;", Cond.fieldLink RX7 19 "TubeShop" "prices" "LTubeShop$PriceList;", Cond.fieldLink RX7 33 "TubeShop" "splitter" "LTubeShop$Splitter;", Cond.fieldLink RX7 58 "TubeShop" "mostLength" "I", Cond.fieldLink RX7 40 "TubeShop" "parts" "LTubeShop$Parts;", Cond.methodLink RX7 83 yX4_refresh, Cond.instanceMethod yX4_refresh, Cond.selects RX4 yX4_refresh yX4_refresh, Cond.initialized RX4, Cond.code yX4_refresh cX4_refresh 5 none, Cond.fieldLink RX4 31 "TubeShop$RunTable" "filled" "I", Cond.methodLink RX4 34 yX5_all, Cond.instanceMethod yX5_all, Cond.selects RX5 yX5_all yX5_all, Cond.initialized RX5, Cond.code yX5_all cX5_all 1 (some .int), Cond.fieldLink RX5 9 "TubeShop$Sign" "size" "I", Cond.methodLink RX4 40 yX4_takeOver, Cond.instanceMethod yX4_takeOver, Cond.selects RX4 yX4_takeOver yX4_takeOver, Cond.code yX4_takeOver cX4_takeOver 5 none, Cond.fieldLink RX4 9 "TubeShop$RunTable" "steps" "I", Cond.fieldLink RX4 15 "TubeShop$RunTable" "lengths" "[I"]
def wsX7_split_r2 : List Cond := [Cond.methodLink RX4 52 arraycopyName, Cond.native arraycopyName, Cond.static arraycopyName, Cond.initialized "java/lang/System", Cond.fieldLink RX4 19 "TubeShop$RunTable" "links" "[I", Cond.methodLink RX4 58 yX5_linkCost, Cond.instanceMethod yX5_linkCost, Cond.selects RX5 yX5_linkCost yX5_linkCost, Cond.code yX5_linkCost cX5_linkCost 7 (some .int), Cond.fieldLink RX5 15 "TubeShop$Sign" "x" "[I", Cond.fieldLink RX5 19 "TubeShop$Sign" "y" "[I", Cond.fieldLink RX5 22 "TubeShop$Sign" "directions" "[I", Cond.methodLink RX5 52 Lib.Math.abs.name, Cond.static Lib.Math.abs.name, Cond.initialized "java/lang/Math", Cond.code Lib.Math.abs.name Lib.Math.abs.code 1 (some .int), Cond.methodLink RX5 66 Lib.Math.min.name, Cond.static Lib.Math.min.name, Cond.code Lib.Math.min.name Lib.Math.min.code 2 (some .int), Cond.methodLink RX5 61 yX3_ofJump, Cond.instanceMethod yX3_ofJump, Cond.selects RX3 yX3_ofJump yX3_ofJump, Cond.initialized RX3, Cond.code yX3_ofJump cX3_ofJump 1 (some .int)]
def wsX7_split_r3 : List Cond := [Cond.fieldLink RX3 18 "TubeShop$PriceList" "amounts" "[I", Cond.static yX7_distance, Cond.initialized RX7, Cond.code yX7_distance cX7_distance 5 (some .int), Cond.methodLink RX7 178 Lib.Math.abs.name, Cond.methodLink RX7 183 Lib.Math.min.name, Cond.methodLink RX7 186 Lib.Math.max.name, Cond.static Lib.Math.max.name, Cond.code Lib.Math.max.name Lib.Math.max.code 2 (some .int), Cond.methodLink RX5 69 yX3_ofBend, Cond.instanceMethod yX3_ofBend, Cond.selects RX3 yX3_ofBend yX3_ofBend, Cond.code yX3_ofBend cX3_ofBend 2 (some .int), Cond.methodLink RX4 44 yX4_fill, Cond.instanceMethod yX4_fill, Cond.selects RX4 yX4_fill yX4_fill, Cond.code yX4_fill cX4_fill 5 none, Cond.constant RX4 64 (2147483647), Cond.fieldLink RX4 22 "TubeShop$RunTable" "costs" "[I", Cond.methodLink RX4 73 Lib.Math.min.name, Cond.fieldLink RX4 25 "TubeShop$RunTable" "best" "[I", Cond.static yX7_bitOf, Cond.code yX7_bitOf cX7_bitOf 1 (some .int), Cond.methodLink RX4 69 yX4_leastBehind]
def wsX7_split_r4 : List Cond := [Cond.instanceMethod yX4_leastBehind, Cond.selects RX4 yX4_leastBehind yX4_leastBehind, Cond.code yX4_leastBehind cX4_leastBehind 9 (some .int), Cond.methodLink RX7 107 yX5_all, Cond.methodLink RX7 111 yX6_search, Cond.instanceMethod yX6_search, Cond.selects RX6 yX6_search yX6_search, Cond.initialized RX6, Cond.code yX6_search cX6_search 6 (some .boolean), Cond.fieldLink RX6 17 "TubeShop$Splitter" "mostLength" "I", Cond.fieldLink RX6 11 "TubeShop$Splitter" "sums" "[I", Cond.constant RX6 25 (2147483647), Cond.methodLink RX6 21 yX6_leastSum, Cond.instanceMethod yX6_leastSum, Cond.selects RX6 yX6_leastSum yX6_leastSum, Cond.code yX6_leastSum cX6_leastSum 9 (some .int), Cond.methodLink RX6 34 Lib.Math.min.name, Cond.methodLink RX6 26 yJ6_bitCount_0f7a4, Cond.static yJ6_bitCount_0f7a4, Cond.initialized RJ6, Cond.code yJ6_bitCount_0f7a4 cJ6_bitCount_0f7a4 1 (some .int), Cond.constant RJ6 265 (1431655765), Cond.constant RJ6 266 (858993459), Cond.constant RJ6 267 (252645135)]
def wsX7_split_r5 : List Cond := [Cond.methodLink RX6 30 yX6_sumWith, Cond.instanceMethod yX6_sumWith, Cond.selects RX6 yX6_sumWith yX6_sumWith, Cond.code yX6_sumWith cX6_sumWith 7 (some .int), Cond.constant RX6 51 (1048576), Cond.methodLink RX6 43 yX4_costOf, Cond.instanceMethod yX4_costOf, Cond.selects RX4 yX4_costOf yX4_costOf, Cond.code yX4_costOf cX4_costOf 2 (some .int), Cond.static yX7_lengthOf, Cond.code yX7_lengthOf cX7_lengthOf 1 (some .int), Cond.methodLink RX6 52 yX3_ofRun, Cond.instanceMethod yX3_ofRun, Cond.selects RX3 yX3_ofRun yX3_ofRun, Cond.code yX3_ofRun cX3_ofRun 2 (some .int), Cond.static yX7_payOf, Cond.code yX7_payOf cX7_payOf 1 (some .int), Cond.methodLink RX6 40 yX6_nextWithin, Cond.static yX6_nextWithin, Cond.code yX6_nextWithin cX6_nextWithin 2 (some .int), Cond.methodLink RX7 115 yX6_tell, Cond.instanceMethod yX6_tell, Cond.selects RX6 yX6_tell yX6_tell, Cond.code yX6_tell cX6_tell 9 none]
def wsX7_split_r6 : List Cond := [Cond.methodLink RX6 57 yX2_begin, Cond.instanceMethod yX2_begin, Cond.selects RX2 yX2_begin yX2_begin, Cond.initialized RX2, Cond.code yX2_begin cX2_begin 1 none, Cond.fieldLink RX2 9 "TubeShop$Parts" "size" "I", Cond.methodLink RX6 62 yX6_firstSet, Cond.instanceMethod yX6_firstSet, Cond.selects RX6 yX6_firstSet yX6_firstSet, Cond.code yX6_firstSet cX6_firstSet 8 (some .int), Cond.methodLink RX6 65 yX2_add, Cond.instanceMethod yX2_add, Cond.selects RX2 yX2_add yX2_add, Cond.code yX2_add cX2_add 4 none, Cond.fieldLink RX2 15 "TubeShop$Parts" "sets" "[I", Cond.fieldLink RX2 19 "TubeShop$Parts" "lengths" "[I", Cond.fieldLink RX2 22 "TubeShop$Parts" "amounts" "[I"]
def wsX7_split : List Cond := .code yX7_split cX7_split 1 (some .int) :: ((wsX7_split_r1 ++ (wsX7_split_r2 ++ (wsX7_split_r3 ++ (wsX7_split_r4 ++ (wsX7_split_r5 ++ wsX7_split_r6))))) ++ wsX70 ++ wsX20 ++ wsX40 ++ wsX50 ++ wsX30 ++ wsX60)
def wsX7_feed_r1 : List Cond := [Cond.constant RX7 144 (99999), Cond.fieldLink RX7 40 "TubeShop" "parts" "LTubeShop$Parts;", Cond.fieldLink RX7 47 "TubeShop" "boxes" "LTubeShop$Boxes;", Cond.methodLink RX7 145 yX2_areThere, Cond.instanceMethod yX2_areThere, Cond.selects RX2 yX2_areThere yX2_areThere, Cond.initialized RX2, Cond.code yX2_areThere cX2_areThere 1 (some .boolean), Cond.fieldLink RX2 9 "TubeShop$Parts" "size" "I", Cond.methodLink RX7 149 yX0_fewest, Cond.instanceMethod yX0_fewest, Cond.selects RX0 yX0_fewest yX0_fewest, Cond.initialized RX0, Cond.code yX0_fewest cX0_fewest 6 (some .int), Cond.fieldLink RX0 9 "TubeShop$Boxes" "volts" "[I", Cond.fieldLink RX0 15 "TubeShop$Boxes" "fills" "[I", Cond.constant RX0 31 (131072), Cond.methodLink RX0 27 yX0_leastFill, Cond.instanceMethod yX0_leastFill, Cond.selects RX0 yX0_leastFill yX0_leastFill, Cond.code yX0_leastFill cX0_leastFill 6 (some .int), Cond.constant RX0 34 (2147483647), Cond.methodLink RX0 38 Lib.Math.min.name, Cond.static Lib.Math.min.name]
def wsX7_feed_r2 : List Cond := [Cond.initialized "java/lang/Math", Cond.code Lib.Math.min.name Lib.Math.min.code 2 (some .int), Cond.methodLink RX0 35 yX0_putInto, Cond.static yX0_putInto, Cond.code yX0_putInto cX0_putInto 3 (some .int)]
def wsX7_feed : List Cond := .code yX7_feed cX7_feed 3 (some .int) :: ((wsX7_feed_r1 ++ wsX7_feed_r2) ++ wsX70 ++ wsX20 ++ wsX00)
def wsX7_dead : List Cond := .code yX7_dead cX7_dead 2 (some .int) :: ([.fieldLink RX7 40 "TubeShop" "parts" "LTubeShop$Parts;", .fieldLink RX7 54 "TubeShop" "joints" "LTubeShop$Joints;", .methodLink RX7 145 yX2_areThere, .instanceMethod yX2_areThere, .selects RX2 yX2_areThere yX2_areThere, .initialized RX2, .code yX2_areThere cX2_areThere 1 (some .boolean), .fieldLink RX2 9 "TubeShop$Parts" "size" "I", .methodLink RX7 153 yX1_weigh, .instanceMethod yX1_weigh, .selects RX1 yX1_weigh yX1_weigh, .initialized RX1, .code yX1_weigh cX1_weigh 6 none, .fieldLink RX1 9 "TubeShop$Joints" "looks" "I", .fieldLink RX1 15 "TubeShop$Joints" "first" "I", .fieldLink RX1 18 "TubeShop$Joints" "least" "[I", .methodLink RX1 30 yX1_bestJoint, .instanceMethod yX1_bestJoint, .selects RX1 yX1_bestJoint yX1_bestJoint, .code yX1_bestJoint cX1_bestJoint 5 (some .int), .methodLink RX1 34 yX1_bothSides, .instanceMethod yX1_bothSides, .selects RX1 yX1_bothSides yX1_bothSides, .code yX1_bothSides cX1_bothSides 4 (some .int)] ++ wsX70 ++ wsX10 ++ wsX20)
def wsX7_count : List Cond := .code yX7_count cX7_count 2 (some .int) :: ([.fieldLink RX7 12 "TubeShop" "sign" "LTubeShop$Sign;", .fieldLink RX7 40 "TubeShop" "parts" "LTubeShop$Parts;", .fieldLink RX7 58 "TubeShop" "mostLength" "I", .methodLink RX7 172 yX5_wholeLength, .instanceMethod yX5_wholeLength, .selects RX5 yX5_wholeLength yX5_wholeLength, .initialized RX5, .code yX5_wholeLength cX5_wholeLength 3 (some .int), .fieldLink RX5 9 "TubeShop$Sign" "size" "I", .fieldLink RX5 25 "TubeShop$Sign" "lengths" "[I", .methodLink RX7 175 yX2_wholePrice, .instanceMethod yX2_wholePrice, .selects RX2 yX2_wholePrice yX2_wholePrice, .initialized RX2, .code yX2_wholePrice cX2_wholePrice 3 (some .int), .fieldLink RX2 9 "TubeShop$Parts" "size" "I", .fieldLink RX2 22 "TubeShop$Parts" "amounts" "[I", .methodLink RX2 25 yX2_areThere, .instanceMethod yX2_areThere, .selects RX2 yX2_areThere yX2_areThere, .code yX2_areThere cX2_areThere 1 (some .boolean)] ++ wsX70 ++ wsX50 ++ wsX20)
def wsX8_init : List Cond := .code yX8_init cX8_init 1 none :: ([.methodLink RX8 1 objectInit, .instanceMethod objectInit, .code objectInit ⟨#[0xb1]⟩ 1 none, .arrayClass .int, .fieldLink RX8 7 "TubeShopModel" "x0" "[I", .fieldLink RX8 13 "TubeShopModel" "y0" "[I", .fieldLink RX8 16 "TubeShopModel" "x1" "[I", .fieldLink RX8 19 "TubeShopModel" "y1" "[I", .fieldLink RX8 22 "TubeShopModel" "way" "[I", .fieldLink RX8 25 "TubeShopModel" "size" "[I", .fieldLink RX8 28 "TubeShopModel" "price" "[I", .fieldLink RX8 31 "TubeShopModel" "longest" "I", .fieldLink RX8 35 "TubeShopModel" "left" "[I", .fieldLink RX8 38 "TubeShopModel" "bests" "[I", .fieldLink RX8 41 "TubeShopModel" "row" "[I", .fieldLink RX8 44 "TubeShopModel" "splitSet" "[I", .fieldLink RX8 47 "TubeShopModel" "splitSize" "[I", .fieldLink RX8 50 "TubeShopModel" "splitCost" "[I", .fieldLink RX8 53 "TubeShopModel" "manyOf" "[I", .fieldLink RX8 56 "TubeShopModel" "costOf" "[I", .fieldLink RX8 59 "TubeShopModel" "firstOf" "[I", .fieldLink RX8 62 "TubeShopModel" "boxes" "[I", .fieldLink RX8 65 "TubeShopModel" "looks" "[I"] ++ wsX80)
def wsX8_thrown : List Cond := .code yX8_thrown cX8_thrown 1 (some .int) :: ([.fieldLink RX8 68 "TubeShopModel" "thrown" "I"] ++ wsX80)
def wsX8_anew : List Cond := .code yX8_anew cX8_anew 1 none :: ([.fieldLink RX8 68 "TubeShopModel" "thrown" "I", .fieldLink RX8 71 "TubeShopModel" "strokes" "I", .fieldLink RX8 74 "TubeShopModel" "isSplit" "Z"] ++ wsX80)
def wsX8_isPoint : List Cond := .code yX8_isPoint cX8_isPoint 2 (some .boolean) :: ([])
def wsX8_far : List Cond := .code yX8_far cX8_far 2 (some .int) :: ([])
def wsX8_sign : List Cond := .code yX8_sign cX8_sign 1 (some .int) :: ([])
def wsX8_towards : List Cond := .code yX8_towards cX8_towards 2 (some .int) :: ([])
def wsX8_piece : List Cond := .code yX8_piece cX8_piece 6 (some .int) :: ([.methodLink RX8 78 yX8_far, .static yX8_far, .initialized RX8, .code yX8_far cX8_far 2 (some .int)])
def wsX8_stroke : List Cond := .code yX8_stroke cX8_stroke 5 (some .int) :: ([.fieldLink RX8 68 "TubeShopModel" "thrown" "I", .fieldLink RX8 71 "TubeShopModel" "strokes" "I", .fieldLink RX8 7 "TubeShopModel" "x0" "[I", .fieldLink RX8 13 "TubeShopModel" "y0" "[I", .fieldLink RX8 16 "TubeShopModel" "x1" "[I", .fieldLink RX8 19 "TubeShopModel" "y1" "[I", .fieldLink RX8 22 "TubeShopModel" "way" "[I", .fieldLink RX8 25 "TubeShopModel" "size" "[I", .methodLink RX8 82 yX8_isPoint, .static yX8_isPoint, .initialized RX8, .code yX8_isPoint cX8_isPoint 2 (some .boolean), .methodLink RX8 78 yX8_far, .static yX8_far, .code yX8_far cX8_far 2 (some .int), .methodLink RX8 86 yX8_sign, .static yX8_sign, .code yX8_sign cX8_sign 1 (some .int), .methodLink RX8 90 yX8_towards, .static yX8_towards, .code yX8_towards cX8_towards 2 (some .int), .methodLink RX8 93 yX8_piece, .static yX8_piece, .code yX8_piece cX8_piece 6 (some .int)] ++ wsX80)
def wsX8_price : List Cond := .code yX8_price cX8_price 3 (some .boolean) :: ([.fieldLink RX8 68 "TubeShopModel" "thrown" "I", .fieldLink RX8 28 "TubeShopModel" "price" "[I"] ++ wsX80)
def wsX8_longest : List Cond := .code yX8_longest cX8_longest 2 (some .boolean) :: ([.fieldLink RX8 68 "TubeShopModel" "thrown" "I", .fieldLink RX8 31 "TubeShopModel" "longest" "I"] ++ wsX80)
def wsX8_atX : List Cond := .code yX8_atX cX8_atX 3 (some .int) :: ([.fieldLink RX8 16 "TubeShopModel" "x1" "[I", .fieldLink RX8 7 "TubeShopModel" "x0" "[I"] ++ wsX80)
def wsX8_atY : List Cond := .code yX8_atY cX8_atY 3 (some .int) :: ([.fieldLink RX8 19 "TubeShopModel" "y1" "[I", .fieldLink RX8 13 "TubeShopModel" "y0" "[I"] ++ wsX80)
def wsX8_towardsOf : List Cond := .code yX8_towardsOf cX8_towardsOf 2 (some .int) :: ([.fieldLink RX8 22 "TubeShopModel" "way" "[I"] ++ wsX80)
def wsX8_isJump : List Cond := .code yX8_isJump cX8_isJump 3 (some .boolean) :: ([.methodLink RX8 97 yX8_atX, .instanceMethod yX8_atX, .selects RX8 yX8_atX yX8_atX, .initialized RX8, .code yX8_atX cX8_atX 3 (some .int), .fieldLink RX8 16 "TubeShopModel" "x1" "[I", .fieldLink RX8 7 "TubeShopModel" "x0" "[I", .methodLink RX8 101 yX8_atY, .instanceMethod yX8_atY, .selects RX8 yX8_atY yX8_atY, .code yX8_atY cX8_atY 3 (some .int), .fieldLink RX8 19 "TubeShopModel" "y1" "[I", .fieldLink RX8 13 "TubeShopModel" "y0" "[I"] ++ wsX80)
def wsX8_goes_r1 : List Cond := [Cond.fieldLink RX8 25 "TubeShopModel" "size" "[I", Cond.constant RX8 107 (100000), Cond.fieldLink RX8 28 "TubeShopModel" "price" "[I", Cond.methodLink RX8 104 yX8_isJump, Cond.instanceMethod yX8_isJump, Cond.selects RX8 yX8_isJump yX8_isJump, Cond.initialized RX8, Cond.code yX8_isJump cX8_isJump 3 (some .boolean), Cond.methodLink RX8 97 yX8_atX, Cond.instanceMethod yX8_atX, Cond.selects RX8 yX8_atX yX8_atX, Cond.code yX8_atX cX8_atX 3 (some .int), Cond.fieldLink RX8 16 "TubeShopModel" "x1" "[I", Cond.fieldLink RX8 7 "TubeShopModel" "x0" "[I", Cond.methodLink RX8 101 yX8_atY, Cond.instanceMethod yX8_atY, Cond.selects RX8 yX8_atY yX8_atY, Cond.code yX8_atY cX8_atY 3 (some .int), Cond.fieldLink RX8 19 "TubeShopModel" "y1" "[I", Cond.fieldLink RX8 13 "TubeShopModel" "y0" "[I", Cond.methodLink RX8 93 yX8_piece, Cond.static yX8_piece, Cond.code yX8_piece cX8_piece 6 (some .int), Cond.methodLink RX8 78 yX8_far]
def wsX8_goes_r2 : List Cond := [Cond.static yX8_far, Cond.code yX8_far cX8_far 2 (some .int), Cond.methodLink RX8 108 yX8_towardsOf, Cond.instanceMethod yX8_towardsOf, Cond.selects RX8 yX8_towardsOf yX8_towardsOf, Cond.code yX8_towardsOf cX8_towardsOf 2 (some .int), Cond.fieldLink RX8 22 "TubeShopModel" "way" "[I"]
def wsX8_goes : List Cond := .code yX8_goes cX8_goes 5 (some .int) :: ((wsX8_goes_r1 ++ wsX8_goes_r2) ++ wsX80)
def wsX8_from : List Cond := .code yX8_from cX8_from 3 (some .int) :: ([.fieldLink RX8 25 "TubeShopModel" "size" "[I", .fieldLink RX8 35 "TubeShopModel" "left" "[I"] ++ wsX80)
def wsX8_work_r1 : List Cond := [Cond.fieldLink RX8 71 "TubeShopModel" "strokes" "I", Cond.constant RX8 111 (2000000000), Cond.fieldLink RX8 35 "TubeShopModel" "left" "[I", Cond.fieldLink RX8 38 "TubeShopModel" "bests" "[I", Cond.methodLink RX8 112 yX8_goes, Cond.instanceMethod yX8_goes, Cond.selects RX8 yX8_goes yX8_goes, Cond.initialized RX8, Cond.code yX8_goes cX8_goes 5 (some .int), Cond.fieldLink RX8 25 "TubeShopModel" "size" "[I", Cond.constant RX8 107 (100000), Cond.fieldLink RX8 28 "TubeShopModel" "price" "[I", Cond.methodLink RX8 104 yX8_isJump, Cond.instanceMethod yX8_isJump, Cond.selects RX8 yX8_isJump yX8_isJump, Cond.code yX8_isJump cX8_isJump 3 (some .boolean), Cond.methodLink RX8 97 yX8_atX, Cond.instanceMethod yX8_atX, Cond.selects RX8 yX8_atX yX8_atX, Cond.code yX8_atX cX8_atX 3 (some .int), Cond.fieldLink RX8 16 "TubeShopModel" "x1" "[I", Cond.fieldLink RX8 7 "TubeShopModel" "x0" "[I", Cond.methodLink RX8 101 yX8_atY, Cond.instanceMethod yX8_atY]
def wsX8_work_r2 : List Cond := [Cond.selects RX8 yX8_atY yX8_atY, Cond.code yX8_atY cX8_atY 3 (some .int), Cond.fieldLink RX8 19 "TubeShopModel" "y1" "[I", Cond.fieldLink RX8 13 "TubeShopModel" "y0" "[I", Cond.methodLink RX8 93 yX8_piece, Cond.static yX8_piece, Cond.code yX8_piece cX8_piece 6 (some .int), Cond.methodLink RX8 78 yX8_far, Cond.static yX8_far, Cond.code yX8_far cX8_far 2 (some .int), Cond.methodLink RX8 108 yX8_towardsOf, Cond.instanceMethod yX8_towardsOf, Cond.selects RX8 yX8_towardsOf yX8_towardsOf, Cond.code yX8_towardsOf cX8_towardsOf 2 (some .int), Cond.fieldLink RX8 22 "TubeShopModel" "way" "[I", Cond.methodLink RX8 115 yX8_from, Cond.instanceMethod yX8_from, Cond.selects RX8 yX8_from yX8_from, Cond.code yX8_from cX8_from 3 (some .int)]
def wsX8_work : List Cond := .code yX8_work cX8_work 6 none :: ((wsX8_work_r1 ++ wsX8_work_r2) ++ wsX80)
def wsX8_priceOf : List Cond := .code yX8_priceOf cX8_priceOf 2 (some .int) :: ([.fieldLink RX8 38 "TubeShopModel" "bests" "[I", .constant RX8 107 (100000), .fieldLink RX8 28 "TubeShopModel" "price" "[I"] ++ wsX80)
def wsX8_steps_r1 : List Cond := [Cond.constant RX8 111 (2000000000), Cond.fieldLink RX8 41 "TubeShopModel" "row" "[I", Cond.fieldLink RX8 35 "TubeShopModel" "left" "[I", Cond.fieldLink RX8 38 "TubeShopModel" "bests" "[I", Cond.methodLink RX8 115 yX8_from, Cond.instanceMethod yX8_from, Cond.selects RX8 yX8_from yX8_from, Cond.initialized RX8, Cond.code yX8_from cX8_from 3 (some .int), Cond.fieldLink RX8 25 "TubeShopModel" "size" "[I", Cond.methodLink RX8 112 yX8_goes, Cond.instanceMethod yX8_goes, Cond.selects RX8 yX8_goes yX8_goes, Cond.code yX8_goes cX8_goes 5 (some .int), Cond.constant RX8 107 (100000), Cond.fieldLink RX8 28 "TubeShopModel" "price" "[I", Cond.methodLink RX8 104 yX8_isJump, Cond.instanceMethod yX8_isJump, Cond.selects RX8 yX8_isJump yX8_isJump, Cond.code yX8_isJump cX8_isJump 3 (some .boolean), Cond.methodLink RX8 97 yX8_atX, Cond.instanceMethod yX8_atX, Cond.selects RX8 yX8_atX yX8_atX, Cond.code yX8_atX cX8_atX 3 (some .int)]
def wsX8_steps_r2 : List Cond := [Cond.fieldLink RX8 16 "TubeShopModel" "x1" "[I", Cond.fieldLink RX8 7 "TubeShopModel" "x0" "[I", Cond.methodLink RX8 101 yX8_atY, Cond.instanceMethod yX8_atY, Cond.selects RX8 yX8_atY yX8_atY, Cond.code yX8_atY cX8_atY 3 (some .int), Cond.fieldLink RX8 19 "TubeShopModel" "y1" "[I", Cond.fieldLink RX8 13 "TubeShopModel" "y0" "[I", Cond.methodLink RX8 93 yX8_piece, Cond.static yX8_piece, Cond.code yX8_piece cX8_piece 6 (some .int), Cond.methodLink RX8 78 yX8_far, Cond.static yX8_far, Cond.code yX8_far cX8_far 2 (some .int), Cond.methodLink RX8 108 yX8_towardsOf, Cond.instanceMethod yX8_towardsOf, Cond.selects RX8 yX8_towardsOf yX8_towardsOf, Cond.code yX8_towardsOf cX8_towardsOf 2 (some .int), Cond.fieldLink RX8 22 "TubeShopModel" "way" "[I"]
def wsX8_steps : List Cond := .code yX8_steps cX8_steps 8 (some .int) :: ((wsX8_steps_r1 ++ wsX8_steps_r2) ++ wsX80)
def wsX8_isSet : List Cond := .code yX8_isSet cX8_isSet 2 (some .boolean) :: ([.fieldLink RX8 71 "TubeShopModel" "strokes" "I"] ++ wsX80)
def wsX8_run_r1 : List Cond := [Cond.fieldLink RX8 68 "TubeShopModel" "thrown" "I", Cond.fieldLink RX8 38 "TubeShopModel" "bests" "[I", Cond.constant RX8 107 (100000), Cond.fieldLink RX8 41 "TubeShopModel" "row" "[I", Cond.methodLink RX8 118 yX8_isSet, Cond.instanceMethod yX8_isSet, Cond.selects RX8 yX8_isSet yX8_isSet, Cond.initialized RX8, Cond.code yX8_isSet cX8_isSet 2 (some .boolean), Cond.fieldLink RX8 71 "TubeShopModel" "strokes" "I", Cond.methodLink RX8 122 yX8_work, Cond.instanceMethod yX8_work, Cond.selects RX8 yX8_work yX8_work, Cond.code yX8_work cX8_work 6 none, Cond.constant RX8 111 (2000000000), Cond.fieldLink RX8 35 "TubeShopModel" "left" "[I", Cond.methodLink RX8 112 yX8_goes, Cond.instanceMethod yX8_goes, Cond.selects RX8 yX8_goes yX8_goes, Cond.code yX8_goes cX8_goes 5 (some .int), Cond.fieldLink RX8 25 "TubeShopModel" "size" "[I", Cond.fieldLink RX8 28 "TubeShopModel" "price" "[I", Cond.methodLink RX8 104 yX8_isJump, Cond.instanceMethod yX8_isJump]
def wsX8_run_r2 : List Cond := [Cond.selects RX8 yX8_isJump yX8_isJump, Cond.code yX8_isJump cX8_isJump 3 (some .boolean), Cond.methodLink RX8 97 yX8_atX, Cond.instanceMethod yX8_atX, Cond.selects RX8 yX8_atX yX8_atX, Cond.code yX8_atX cX8_atX 3 (some .int), Cond.fieldLink RX8 16 "TubeShopModel" "x1" "[I", Cond.fieldLink RX8 7 "TubeShopModel" "x0" "[I", Cond.methodLink RX8 101 yX8_atY, Cond.instanceMethod yX8_atY, Cond.selects RX8 yX8_atY yX8_atY, Cond.code yX8_atY cX8_atY 3 (some .int), Cond.fieldLink RX8 19 "TubeShopModel" "y1" "[I", Cond.fieldLink RX8 13 "TubeShopModel" "y0" "[I", Cond.methodLink RX8 93 yX8_piece, Cond.static yX8_piece, Cond.code yX8_piece cX8_piece 6 (some .int), Cond.methodLink RX8 78 yX8_far, Cond.static yX8_far, Cond.code yX8_far cX8_far 2 (some .int), Cond.methodLink RX8 108 yX8_towardsOf, Cond.instanceMethod yX8_towardsOf, Cond.selects RX8 yX8_towardsOf yX8_towardsOf, Cond.code yX8_towardsOf cX8_towardsOf 2 (some .int)]
def wsX8_run_r3 : List Cond := [Cond.fieldLink RX8 22 "TubeShopModel" "way" "[I", Cond.methodLink RX8 115 yX8_from, Cond.instanceMethod yX8_from, Cond.selects RX8 yX8_from yX8_from, Cond.code yX8_from cX8_from 3 (some .int), Cond.methodLink RX8 125 yX8_priceOf, Cond.instanceMethod yX8_priceOf, Cond.selects RX8 yX8_priceOf yX8_priceOf, Cond.code yX8_priceOf cX8_priceOf 2 (some .int), Cond.methodLink RX8 128 yX8_steps, Cond.instanceMethod yX8_steps, Cond.selects RX8 yX8_steps yX8_steps, Cond.code yX8_steps cX8_steps 8 (some .int)]
def wsX8_run : List Cond := .code yX8_run cX8_run 6 (some .int) :: ((wsX8_run_r1 ++ (wsX8_run_r2 ++ wsX8_run_r3)) ++ wsX80)
def wsX8_step_r1 : List Cond := [Cond.fieldLink RX8 68 "TubeShopModel" "thrown" "I", Cond.fieldLink RX8 41 "TubeShopModel" "row" "[I", Cond.methodLink RX8 118 yX8_isSet, Cond.instanceMethod yX8_isSet, Cond.selects RX8 yX8_isSet yX8_isSet, Cond.initialized RX8, Cond.code yX8_isSet cX8_isSet 2 (some .boolean), Cond.fieldLink RX8 71 "TubeShopModel" "strokes" "I", Cond.methodLink RX8 122 yX8_work, Cond.instanceMethod yX8_work, Cond.selects RX8 yX8_work yX8_work, Cond.code yX8_work cX8_work 6 none, Cond.constant RX8 111 (2000000000), Cond.fieldLink RX8 35 "TubeShopModel" "left" "[I", Cond.fieldLink RX8 38 "TubeShopModel" "bests" "[I", Cond.methodLink RX8 112 yX8_goes, Cond.instanceMethod yX8_goes, Cond.selects RX8 yX8_goes yX8_goes, Cond.code yX8_goes cX8_goes 5 (some .int), Cond.fieldLink RX8 25 "TubeShopModel" "size" "[I", Cond.constant RX8 107 (100000), Cond.fieldLink RX8 28 "TubeShopModel" "price" "[I", Cond.methodLink RX8 104 yX8_isJump, Cond.instanceMethod yX8_isJump]
def wsX8_step_r2 : List Cond := [Cond.selects RX8 yX8_isJump yX8_isJump, Cond.code yX8_isJump cX8_isJump 3 (some .boolean), Cond.methodLink RX8 97 yX8_atX, Cond.instanceMethod yX8_atX, Cond.selects RX8 yX8_atX yX8_atX, Cond.code yX8_atX cX8_atX 3 (some .int), Cond.fieldLink RX8 16 "TubeShopModel" "x1" "[I", Cond.fieldLink RX8 7 "TubeShopModel" "x0" "[I", Cond.methodLink RX8 101 yX8_atY, Cond.instanceMethod yX8_atY, Cond.selects RX8 yX8_atY yX8_atY, Cond.code yX8_atY cX8_atY 3 (some .int), Cond.fieldLink RX8 19 "TubeShopModel" "y1" "[I", Cond.fieldLink RX8 13 "TubeShopModel" "y0" "[I", Cond.methodLink RX8 93 yX8_piece, Cond.static yX8_piece, Cond.code yX8_piece cX8_piece 6 (some .int), Cond.methodLink RX8 78 yX8_far, Cond.static yX8_far, Cond.code yX8_far cX8_far 2 (some .int), Cond.methodLink RX8 108 yX8_towardsOf, Cond.instanceMethod yX8_towardsOf, Cond.selects RX8 yX8_towardsOf yX8_towardsOf, Cond.code yX8_towardsOf cX8_towardsOf 2 (some .int)]
def wsX8_step_r3 : List Cond := [Cond.fieldLink RX8 22 "TubeShopModel" "way" "[I", Cond.methodLink RX8 115 yX8_from, Cond.instanceMethod yX8_from, Cond.selects RX8 yX8_from yX8_from, Cond.code yX8_from cX8_from 3 (some .int), Cond.methodLink RX8 128 yX8_steps, Cond.instanceMethod yX8_steps, Cond.selects RX8 yX8_steps yX8_steps, Cond.code yX8_steps cX8_steps 8 (some .int)]
def wsX8_step : List Cond := .code yX8_step cX8_step 3 (some .int) :: ((wsX8_step_r1 ++ (wsX8_step_r2 ++ wsX8_step_r3)) ++ wsX80)
def wsX8_split_r1 : List Cond := [Cond.fieldLink RX8 68 "TubeShopModel" "thrown" "I", Cond.fieldLink RX8 71 "TubeShopModel" "strokes" "I", Cond.fieldLink RX8 53 "TubeShopModel" "manyOf" "[I", Cond.fieldLink RX8 56 "TubeShopModel" "costOf" "[I", Cond.fieldLink RX8 38 "TubeShopModel" "bests" "[I", Cond.constant RX8 107 (100000), Cond.fieldLink RX8 31 "TubeShopModel" "longest" "I", Cond.fieldLink RX8 59 "TubeShopModel" "firstOf" "[I", Cond.fieldLink RX8 74 "TubeShopModel" "isSplit" "Z", Cond.fieldLink RX8 131 "TubeShopModel" "splitMany" "I", Cond.fieldLink RX8 134 "TubeShopModel" "splitPrice" "I", Cond.fieldLink RX8 44 "TubeShopModel" "splitSet" "[I", Cond.fieldLink RX8 47 "TubeShopModel" "splitSize" "[I", Cond.fieldLink RX8 50 "TubeShopModel" "splitCost" "[I", Cond.methodLink RX8 122 yX8_work, Cond.instanceMethod yX8_work, Cond.selects RX8 yX8_work yX8_work, Cond.initialized RX8, Cond.code yX8_work cX8_work 6 none, Cond.constant RX8 111 (2000000000), Cond.fieldLink RX8 35 "TubeShopModel" "left" "[I", Cond.methodLink RX8 112 yX8_goes, Cond.instanceMethod yX8_goes, Cond.selects RX8 yX8_goes yX8_goes]
def wsX8_split_r2 : List Cond := [Cond.code yX8_goes cX8_goes 5 (some .int), Cond.fieldLink RX8 25 "TubeShopModel" "size" "[I", Cond.fieldLink RX8 28 "TubeShopModel" "price" "[I", Cond.methodLink RX8 104 yX8_isJump, Cond.instanceMethod yX8_isJump, Cond.selects RX8 yX8_isJump yX8_isJump, Cond.code yX8_isJump cX8_isJump 3 (some .boolean), Cond.methodLink RX8 97 yX8_atX, Cond.instanceMethod yX8_atX, Cond.selects RX8 yX8_atX yX8_atX, Cond.code yX8_atX cX8_atX 3 (some .int), Cond.fieldLink RX8 16 "TubeShopModel" "x1" "[I", Cond.fieldLink RX8 7 "TubeShopModel" "x0" "[I", Cond.methodLink RX8 101 yX8_atY, Cond.instanceMethod yX8_atY, Cond.selects RX8 yX8_atY yX8_atY, Cond.code yX8_atY cX8_atY 3 (some .int), Cond.fieldLink RX8 19 "TubeShopModel" "y1" "[I", Cond.fieldLink RX8 13 "TubeShopModel" "y0" "[I", Cond.methodLink RX8 93 yX8_piece, Cond.static yX8_piece, Cond.code yX8_piece cX8_piece 6 (some .int), Cond.methodLink RX8 78 yX8_far, Cond.static yX8_far]
def wsX8_split_r3 : List Cond := [Cond.code yX8_far cX8_far 2 (some .int), Cond.methodLink RX8 108 yX8_towardsOf, Cond.instanceMethod yX8_towardsOf, Cond.selects RX8 yX8_towardsOf yX8_towardsOf, Cond.code yX8_towardsOf cX8_towardsOf 2 (some .int), Cond.fieldLink RX8 22 "TubeShopModel" "way" "[I", Cond.methodLink RX8 115 yX8_from, Cond.instanceMethod yX8_from, Cond.selects RX8 yX8_from yX8_from, Cond.code yX8_from cX8_from 3 (some .int), Cond.methodLink RX8 125 yX8_priceOf, Cond.instanceMethod yX8_priceOf, Cond.selects RX8 yX8_priceOf yX8_priceOf, Cond.code yX8_priceOf cX8_priceOf 2 (some .int)]
def wsX8_split : List Cond := .code yX8_split cX8_split 7 (some .int) :: ((wsX8_split_r1 ++ (wsX8_split_r2 ++ wsX8_split_r3)) ++ wsX80)
def wsX8_fails : List Cond := .code yX8_fails cX8_fails 2 (some .int) :: ([.fieldLink RX8 68 "TubeShopModel" "thrown" "I"] ++ wsX80)
def wsX8_part : List Cond := .code yX8_part cX8_part 3 (some .int) :: ([.fieldLink RX8 68 "TubeShopModel" "thrown" "I", .fieldLink RX8 74 "TubeShopModel" "isSplit" "Z", .fieldLink RX8 131 "TubeShopModel" "splitMany" "I", .fieldLink RX8 44 "TubeShopModel" "splitSet" "[I", .fieldLink RX8 47 "TubeShopModel" "splitSize" "[I", .fieldLink RX8 50 "TubeShopModel" "splitCost" "[I", .methodLink RX8 137 yX8_fails, .instanceMethod yX8_fails, .selects RX8 yX8_fails yX8_fails, .initialized RX8, .code yX8_fails cX8_fails 2 (some .int)] ++ wsX80)
def wsX8_feed : List Cond := .code yX8_feed cX8_feed 7 (some .int) :: ([.fieldLink RX8 68 "TubeShopModel" "thrown" "I", .fieldLink RX8 74 "TubeShopModel" "isSplit" "Z", .constant RX8 140 (99999), .fieldLink RX8 62 "TubeShopModel" "boxes" "[I", .fieldLink RX8 131 "TubeShopModel" "splitMany" "I", .fieldLink RX8 47 "TubeShopModel" "splitSize" "[I"] ++ wsX80)
def wsX8_dead : List Cond := .code yX8_dead cX8_dead 10 (some .int) :: ([.fieldLink RX8 68 "TubeShopModel" "thrown" "I", .fieldLink RX8 74 "TubeShopModel" "isSplit" "Z", .fieldLink RX8 131 "TubeShopModel" "splitMany" "I", .fieldLink RX8 47 "TubeShopModel" "splitSize" "[I", .constant RX8 111 (2000000000), .fieldLink RX8 65 "TubeShopModel" "looks" "[I"] ++ wsX80)
def wsX8_look : List Cond := .code yX8_look cX8_look 3 (some .int) :: ([.fieldLink RX8 68 "TubeShopModel" "thrown" "I", .fieldLink RX8 71 "TubeShopModel" "strokes" "I", .fieldLink RX8 25 "TubeShopModel" "size" "[I", .fieldLink RX8 22 "TubeShopModel" "way" "[I", .methodLink RX8 137 yX8_fails, .instanceMethod yX8_fails, .selects RX8 yX8_fails yX8_fails, .initialized RX8, .code yX8_fails cX8_fails 2 (some .int)] ++ wsX80)
def wsX8_count : List Cond := .code yX8_count cX8_count 4 (some .int) :: ([.fieldLink RX8 68 "TubeShopModel" "thrown" "I", .fieldLink RX8 71 "TubeShopModel" "strokes" "I", .fieldLink RX8 74 "TubeShopModel" "isSplit" "Z", .fieldLink RX8 131 "TubeShopModel" "splitMany" "I", .fieldLink RX8 25 "TubeShopModel" "size" "[I", .fieldLink RX8 134 "TubeShopModel" "splitPrice" "I", .fieldLink RX8 31 "TubeShopModel" "longest" "I"] ++ wsX80)
def wsJ9_abs_0f7a4 : List Cond := .code yJ9_abs_0f7a4 cJ9_abs_0f7a4 1 (some .int) :: ([])
def wsJ9_max_7cf53 : List Cond := .code yJ9_max_7cf53 cJ9_max_7cf53 2 (some .int) :: ([])
def wsJ9_min_7cf53 : List Cond := .code yJ9_min_7cf53 cJ9_min_7cf53 2 (some .int) :: ([])
theorem inJx8e188 : ∀ w ∈ wsJx8e1880, w ∈ lw_tbl := by decide +kernel
theorem inJ6 : ∀ w ∈ wsJ60, w ∈ lw_tbl := by decide +kernel
theorem inJ9 : ∀ w ∈ wsJ90, w ∈ lw_tbl := by decide +kernel
theorem inJ0 : ∀ w ∈ wsJ00, w ∈ lw_tbl := by decide +kernel
theorem inJ10 : ∀ w ∈ wsJ100, w ∈ lw_tbl := by decide +kernel
theorem dX0_init_0 : decode cX0_init 0 = .ok (.aload_n 0, 1) := by decide +kernel
theorem dX0_init_1 : decode cX0_init 1 = .ok (.invokespecial 3, 3) := by decide +kernel
theorem dX0_init_4 : decode cX0_init 4 = .ok (.aload_n 0, 1) := by decide +kernel
theorem dX0_init_5 : decode cX0_init 5 = .ok (.bipush 9, 2) := by decide +kernel
theorem dX0_init_7 : decode cX0_init 7 = .ok (.newarray .int, 2) := by decide +kernel
theorem dX0_init_9 : decode cX0_init 9 = .ok (.putfield 9, 3) := by decide +kernel
theorem dX0_init_12 : decode cX0_init 12 = .ok (.aload_n 0, 1) := by decide +kernel
theorem dX0_init_13 : decode cX0_init 13 = .ok (.sipush 512, 3) := by decide +kernel
theorem dX0_init_16 : decode cX0_init 16 = .ok (.newarray .int, 2) := by decide +kernel
theorem dX0_init_18 : decode cX0_init 18 = .ok (.putfield 15, 3) := by decide +kernel
theorem dX0_init_21 : decode cX0_init 21 = .ok (.return_, 1) := by decide +kernel
set_option maxRecDepth 20000 in
theorem ggX0_fewest_X0_leastFill : GoodIn wsX0_fewest wsX0_leastFill := goodIn_r _ [8, 9, 2, 1, 10, 11, 12, 13, 14, 15, 7, 16, 3, 21, 22] (by decide +kernel) (by decide +kernel)
set_option maxRecDepth 20000 in
theorem gX0_fewest_X0_leastFill : GoodIn wsX0_fewest (wsV RX0 27 RX0 yX0_leastFill wsX0_leastFill) := goodIn_app (goodIn_of _ (by decide +kernel)) ggX0_fewest_X0_leastFill
theorem dX0_fewest_0 : decode cX0_fewest 0 = .ok (.iconst 0, 1) := by decide +kernel
theorem dX0_fewest_1 : decode cX0_fewest 1 = .ok (.istore 4, 2) := by decide +kernel
theorem dX0_fewest_3 : decode cX0_fewest 3 = .ok (.iload 4, 2) := by decide +kernel
theorem dX0_fewest_5 : decode cX0_fewest 5 = .ok (.aload_n 1, 1) := by decide +kernel
theorem dX0_fewest_6 : decode cX0_fewest 6 = .ok (.getfield 18, 3) := by decide +kernel
theorem dX0_fewest_9 : decode cX0_fewest 9 = .ok (.if_icmp .ge 41, 3) := by decide +kernel
theorem dX0_fewest_12 : decode cX0_fewest 12 = .ok (.aload_n 0, 1) := by decide +kernel
theorem dX0_fewest_13 : decode cX0_fewest 13 = .ok (.getfield 9, 3) := by decide +kernel
theorem dX0_fewest_16 : decode cX0_fewest 16 = .ok (.iload 4, 2) := by decide +kernel
theorem dX0_fewest_18 : decode cX0_fewest 18 = .ok (.aload_n 1, 1) := by decide +kernel
theorem dX0_fewest_19 : decode cX0_fewest 19 = .ok (.getfield 24, 3) := by decide +kernel
theorem dX0_fewest_22 : decode cX0_fewest 22 = .ok (.iload 4, 2) := by decide +kernel
theorem dX0_fewest_24 : decode cX0_fewest 24 = .ok (.iaload, 1) := by decide +kernel
theorem dX0_fewest_25 : decode cX0_fewest 25 = .ok (.iload_n 2, 1) := by decide +kernel
theorem dX0_fewest_26 : decode cX0_fewest 26 = .ok (.imul, 1) := by decide +kernel
theorem dX0_fewest_27 : decode cX0_fewest 27 = .ok (.bipush 50, 2) := by decide +kernel
theorem dX0_fewest_29 : decode cX0_fewest 29 = .ok (.iadd, 1) := by decide +kernel
theorem dX0_fewest_30 : decode cX0_fewest 30 = .ok (.iastore, 1) := by decide +kernel
theorem dX0_fewest_31 : decode cX0_fewest 31 = .ok (.aload_n 0, 1) := by decide +kernel
theorem dX0_fewest_32 : decode cX0_fewest 32 = .ok (.getfield 9, 3) := by decide +kernel
theorem dX0_fewest_35 : decode cX0_fewest 35 = .ok (.iload 4, 2) := by decide +kernel
theorem dX0_fewest_37 : decode cX0_fewest 37 = .ok (.iaload, 1) := by decide +kernel
theorem dX0_fewest_38 : decode cX0_fewest 38 = .ok (.iload_n 3, 1) := by decide +kernel
theorem dX0_fewest_39 : decode cX0_fewest 39 = .ok (.if_icmp .le 5, 3) := by decide +kernel
theorem dX0_fewest_42 : decode cX0_fewest 42 = .ok (.iconst (-1), 1) := by decide +kernel
theorem dX0_fewest_43 : decode cX0_fewest 43 = .ok (.ireturn, 1) := by decide +kernel
theorem dX0_fewest_44 : decode cX0_fewest 44 = .ok (.iinc 4 1, 3) := by decide +kernel
theorem dX0_fewest_47 : decode cX0_fewest 47 = .ok (.goto (-44), 3) := by decide +kernel
theorem dX0_fewest_50 : decode cX0_fewest 50 = .ok (.iconst 1, 1) := by decide +kernel
theorem dX0_fewest_51 : decode cX0_fewest 51 = .ok (.aload_n 1, 1) := by decide +kernel
theorem dX0_fewest_52 : decode cX0_fewest 52 = .ok (.getfield 18, 3) := by decide +kernel
theorem dX0_fewest_55 : decode cX0_fewest 55 = .ok (.ishl, 1) := by decide +kernel
theorem dX0_fewest_56 : decode cX0_fewest 56 = .ok (.iconst 1, 1) := by decide +kernel
theorem dX0_fewest_57 : decode cX0_fewest 57 = .ok (.isub, 1) := by decide +kernel
theorem dX0_fewest_58 : decode cX0_fewest 58 = .ok (.istore 4, 2) := by decide +kernel
theorem dX0_fewest_60 : decode cX0_fewest 60 = .ok (.aload_n 0, 1) := by decide +kernel
theorem dX0_fewest_61 : decode cX0_fewest 61 = .ok (.getfield 15, 3) := by decide +kernel
theorem dX0_fewest_64 : decode cX0_fewest 64 = .ok (.iconst 0, 1) := by decide +kernel
theorem dX0_fewest_65 : decode cX0_fewest 65 = .ok (.iload_n 3, 1) := by decide +kernel
theorem dX0_fewest_66 : decode cX0_fewest 66 = .ok (.iastore, 1) := by decide +kernel
theorem dX0_fewest_67 : decode cX0_fewest 67 = .ok (.iconst 1, 1) := by decide +kernel
theorem dX0_fewest_68 : decode cX0_fewest 68 = .ok (.istore 5, 2) := by decide +kernel
theorem dX0_fewest_70 : decode cX0_fewest 70 = .ok (.iload 5, 2) := by decide +kernel
theorem dX0_fewest_72 : decode cX0_fewest 72 = .ok (.iload 4, 2) := by decide +kernel
theorem dX0_fewest_74 : decode cX0_fewest 74 = .ok (.if_icmp .gt 27, 3) := by decide +kernel
theorem dX0_fewest_77 : decode cX0_fewest 77 = .ok (.aload_n 0, 1) := by decide +kernel
theorem dX0_fewest_78 : decode cX0_fewest 78 = .ok (.getfield 15, 3) := by decide +kernel
theorem dX0_fewest_81 : decode cX0_fewest 81 = .ok (.iload 5, 2) := by decide +kernel
theorem dX0_fewest_83 : decode cX0_fewest 83 = .ok (.aload_n 0, 1) := by decide +kernel
theorem dX0_fewest_84 : decode cX0_fewest 84 = .ok (.aload_n 1, 1) := by decide +kernel
theorem dX0_fewest_85 : decode cX0_fewest 85 = .ok (.getfield 18, 3) := by decide +kernel
theorem dX0_fewest_88 : decode cX0_fewest 88 = .ok (.iload 5, 2) := by decide +kernel
theorem dX0_fewest_90 : decode cX0_fewest 90 = .ok (.iload_n 3, 1) := by decide +kernel
theorem dX0_fewest_91 : decode cX0_fewest 91 = .ok (.invokevirtual 27, 3) := by decide +kernel
theorem dX0_fewest_94 : decode cX0_fewest 94 = .ok (.iastore, 1) := by decide +kernel
theorem dX0_fewest_95 : decode cX0_fewest 95 = .ok (.iinc 5 1, 3) := by decide +kernel
theorem dX0_fewest_98 : decode cX0_fewest 98 = .ok (.goto (-28), 3) := by decide +kernel
theorem dX0_fewest_101 : decode cX0_fewest 101 = .ok (.aload_n 0, 1) := by decide +kernel
theorem dX0_fewest_102 : decode cX0_fewest 102 = .ok (.getfield 15, 3) := by decide +kernel
theorem dX0_fewest_105 : decode cX0_fewest 105 = .ok (.iload 4, 2) := by decide +kernel
theorem dX0_fewest_107 : decode cX0_fewest 107 = .ok (.iaload, 1) := by decide +kernel
theorem dX0_fewest_108 : decode cX0_fewest 108 = .ok (.ldc 31, 2) := by decide +kernel
theorem dX0_fewest_110 : decode cX0_fewest 110 = .ok (.idiv, 1) := by decide +kernel
theorem dX0_fewest_111 : decode cX0_fewest 111 = .ok (.ireturn, 1) := by decide +kernel
set_option maxRecDepth 20000 in
theorem ggX0_leastFill_X0_putInto : GoodIn wsX0_leastFill wsX0_putInto := goodIn_r _ [11, 12] (by decide +kernel) (by decide +kernel)
set_option maxRecDepth 20000 in
theorem gX0_leastFill_X0_putInto : GoodIn wsX0_leastFill (va_wsS RX0 35 yX0_putInto wsX0_putInto) := goodIn_app (goodIn_of _ (by decide +kernel)) ggX0_leastFill_X0_putInto
theorem dX0_leastFill_0 : decode cX0_leastFill 0 = .ok (.ldc 34, 2) := by decide +kernel
theorem dX0_leastFill_2 : decode cX0_leastFill 2 = .ok (.istore 4, 2) := by decide +kernel
theorem dX0_leastFill_4 : decode cX0_leastFill 4 = .ok (.iconst 0, 1) := by decide +kernel
theorem dX0_leastFill_5 : decode cX0_leastFill 5 = .ok (.istore 5, 2) := by decide +kernel
theorem dX0_leastFill_7 : decode cX0_leastFill 7 = .ok (.iload 5, 2) := by decide +kernel
theorem dX0_leastFill_9 : decode cX0_leastFill 9 = .ok (.iload_n 1, 1) := by decide +kernel
theorem dX0_leastFill_10 : decode cX0_leastFill 10 = .ok (.if_icmp .ge 47, 3) := by decide +kernel
theorem dX0_leastFill_13 : decode cX0_leastFill 13 = .ok (.iload_n 2, 1) := by decide +kernel
theorem dX0_leastFill_14 : decode cX0_leastFill 14 = .ok (.iconst 1, 1) := by decide +kernel
theorem dX0_leastFill_15 : decode cX0_leastFill 15 = .ok (.iload 5, 2) := by decide +kernel
theorem dX0_leastFill_17 : decode cX0_leastFill 17 = .ok (.ishl, 1) := by decide +kernel
theorem dX0_leastFill_18 : decode cX0_leastFill 18 = .ok (.iand, 1) := by decide +kernel
theorem dX0_leastFill_19 : decode cX0_leastFill 19 = .ok (.ifCond .eq 32, 3) := by decide +kernel
theorem dX0_leastFill_22 : decode cX0_leastFill 22 = .ok (.iload 4, 2) := by decide +kernel
theorem dX0_leastFill_24 : decode cX0_leastFill 24 = .ok (.aload_n 0, 1) := by decide +kernel
theorem dX0_leastFill_25 : decode cX0_leastFill 25 = .ok (.getfield 15, 3) := by decide +kernel
theorem dX0_leastFill_28 : decode cX0_leastFill 28 = .ok (.iload_n 2, 1) := by decide +kernel
theorem dX0_leastFill_29 : decode cX0_leastFill 29 = .ok (.iconst 1, 1) := by decide +kernel
theorem dX0_leastFill_30 : decode cX0_leastFill 30 = .ok (.iload 5, 2) := by decide +kernel
theorem dX0_leastFill_32 : decode cX0_leastFill 32 = .ok (.ishl, 1) := by decide +kernel
theorem dX0_leastFill_33 : decode cX0_leastFill 33 = .ok (.ixor, 1) := by decide +kernel
theorem dX0_leastFill_34 : decode cX0_leastFill 34 = .ok (.iaload, 1) := by decide +kernel
theorem dX0_leastFill_35 : decode cX0_leastFill 35 = .ok (.aload_n 0, 1) := by decide +kernel
theorem dX0_leastFill_36 : decode cX0_leastFill 36 = .ok (.getfield 9, 3) := by decide +kernel
theorem dX0_leastFill_39 : decode cX0_leastFill 39 = .ok (.iload 5, 2) := by decide +kernel
theorem dX0_leastFill_41 : decode cX0_leastFill 41 = .ok (.iaload, 1) := by decide +kernel
theorem dX0_leastFill_42 : decode cX0_leastFill 42 = .ok (.iload_n 3, 1) := by decide +kernel
theorem dX0_leastFill_43 : decode cX0_leastFill 43 = .ok (.invokestatic 35, 3) := by decide +kernel
theorem dX0_leastFill_46 : decode cX0_leastFill 46 = .ok (.invokestatic 38, 3) := by decide +kernel
theorem dX0_leastFill_49 : decode cX0_leastFill 49 = .ok (.istore 4, 2) := by decide +kernel
theorem dX0_leastFill_51 : decode cX0_leastFill 51 = .ok (.iinc 5 1, 3) := by decide +kernel
theorem dX0_leastFill_54 : decode cX0_leastFill 54 = .ok (.goto (-47), 3) := by decide +kernel
theorem dX0_leastFill_57 : decode cX0_leastFill 57 = .ok (.iload 4, 2) := by decide +kernel
theorem dX0_leastFill_59 : decode cX0_leastFill 59 = .ok (.ireturn, 1) := by decide +kernel
theorem dX0_putInto_0 : decode cX0_putInto 0 = .ok (.iload_n 0, 1) := by decide +kernel
theorem dX0_putInto_1 : decode cX0_putInto 1 = .ok (.ldc 31, 2) := by decide +kernel
theorem dX0_putInto_3 : decode cX0_putInto 3 = .ok (.irem, 1) := by decide +kernel
theorem dX0_putInto_4 : decode cX0_putInto 4 = .ok (.iload_n 1, 1) := by decide +kernel
theorem dX0_putInto_5 : decode cX0_putInto 5 = .ok (.iadd, 1) := by decide +kernel
theorem dX0_putInto_6 : decode cX0_putInto 6 = .ok (.iload_n 2, 1) := by decide +kernel
theorem dX0_putInto_7 : decode cX0_putInto 7 = .ok (.if_icmp .gt 7, 3) := by decide +kernel
theorem dX0_putInto_10 : decode cX0_putInto 10 = .ok (.iload_n 0, 1) := by decide +kernel
theorem dX0_putInto_11 : decode cX0_putInto 11 = .ok (.iload_n 1, 1) := by decide +kernel
theorem dX0_putInto_12 : decode cX0_putInto 12 = .ok (.iadd, 1) := by decide +kernel
theorem dX0_putInto_13 : decode cX0_putInto 13 = .ok (.ireturn, 1) := by decide +kernel
theorem dX0_putInto_14 : decode cX0_putInto 14 = .ok (.iload_n 0, 1) := by decide +kernel
theorem dX0_putInto_15 : decode cX0_putInto 15 = .ok (.ldc 31, 2) := by decide +kernel
theorem dX0_putInto_17 : decode cX0_putInto 17 = .ok (.idiv, 1) := by decide +kernel
theorem dX0_putInto_18 : decode cX0_putInto 18 = .ok (.iconst 1, 1) := by decide +kernel
theorem dX0_putInto_19 : decode cX0_putInto 19 = .ok (.iadd, 1) := by decide +kernel
theorem dX0_putInto_20 : decode cX0_putInto 20 = .ok (.ldc 31, 2) := by decide +kernel
theorem dX0_putInto_22 : decode cX0_putInto 22 = .ok (.imul, 1) := by decide +kernel
theorem dX0_putInto_23 : decode cX0_putInto 23 = .ok (.iload_n 1, 1) := by decide +kernel
theorem dX0_putInto_24 : decode cX0_putInto 24 = .ok (.iadd, 1) := by decide +kernel
theorem dX0_putInto_25 : decode cX0_putInto 25 = .ok (.ireturn, 1) := by decide +kernel
theorem dX1_init_0 : decode cX1_init 0 = .ok (.aload_n 0, 1) := by decide +kernel
theorem dX1_init_1 : decode cX1_init 1 = .ok (.invokespecial 3, 3) := by decide +kernel
theorem dX1_init_4 : decode cX1_init 4 = .ok (.aload_n 0, 1) := by decide +kernel
theorem dX1_init_5 : decode cX1_init 5 = .ok (.iconst 0, 1) := by decide +kernel
theorem dX1_init_6 : decode cX1_init 6 = .ok (.putfield 9, 3) := by decide +kernel
theorem dX1_init_9 : decode cX1_init 9 = .ok (.aload_n 0, 1) := by decide +kernel
theorem dX1_init_10 : decode cX1_init 10 = .ok (.iconst (-1), 1) := by decide +kernel
theorem dX1_init_11 : decode cX1_init 11 = .ok (.putfield 15, 3) := by decide +kernel
theorem dX1_init_14 : decode cX1_init 14 = .ok (.aload_n 0, 1) := by decide +kernel
theorem dX1_init_15 : decode cX1_init 15 = .ok (.bipush 81, 2) := by decide +kernel
theorem dX1_init_17 : decode cX1_init 17 = .ok (.newarray .int, 2) := by decide +kernel
theorem dX1_init_19 : decode cX1_init 19 = .ok (.putfield 18, 3) := by decide +kernel
theorem dX1_init_22 : decode cX1_init 22 = .ok (.return_, 1) := by decide +kernel
set_option maxRecDepth 20000 in
theorem ggX1_weigh_X1_bestJoint : GoodIn wsX1_weigh wsX1_bestJoint := goodIn_r _ [8, 9, 10, 11, 7, 12, 3, 13, 14, 15] (by decide +kernel) (by decide +kernel)
set_option maxRecDepth 20000 in
theorem gX1_weigh_X1_bestJoint : GoodIn wsX1_weigh (wsV RX1 30 RX1 yX1_bestJoint wsX1_bestJoint) := goodIn_app (goodIn_of _ (by decide +kernel)) ggX1_weigh_X1_bestJoint
set_option maxRecDepth 20000 in
theorem ggX1_weigh_X1_bothSides : GoodIn wsX1_weigh wsX1_bothSides := goodIn_r _ [12, 3, 13, 14, 15] (by decide +kernel) (by decide +kernel)
set_option maxRecDepth 20000 in
theorem gX1_weigh_X1_bothSides : GoodIn wsX1_weigh (wsV RX1 34 RX1 yX1_bothSides wsX1_bothSides) := goodIn_app (goodIn_of _ (by decide +kernel)) ggX1_weigh_X1_bothSides
theorem dX1_weigh_0 : decode cX1_weigh 0 = .ok (.aload_n 0, 1) := by decide +kernel
theorem dX1_weigh_1 : decode cX1_weigh 1 = .ok (.iconst 0, 1) := by decide +kernel
theorem dX1_weigh_2 : decode cX1_weigh 2 = .ok (.putfield 9, 3) := by decide +kernel
theorem dX1_weigh_5 : decode cX1_weigh 5 = .ok (.aload_n 0, 1) := by decide +kernel
theorem dX1_weigh_6 : decode cX1_weigh 6 = .ok (.iconst (-1), 1) := by decide +kernel
theorem dX1_weigh_7 : decode cX1_weigh 7 = .ok (.putfield 15, 3) := by decide +kernel
theorem dX1_weigh_10 : decode cX1_weigh 10 = .ok (.aload_n 1, 1) := by decide +kernel
theorem dX1_weigh_11 : decode cX1_weigh 11 = .ok (.getfield 22, 3) := by decide +kernel
theorem dX1_weigh_14 : decode cX1_weigh 14 = .ok (.iconst 1, 1) := by decide +kernel
theorem dX1_weigh_15 : decode cX1_weigh 15 = .ok (.isub, 1) := by decide +kernel
theorem dX1_weigh_16 : decode cX1_weigh 16 = .ok (.istore_n 2, 1) := by decide +kernel
theorem dX1_weigh_17 : decode cX1_weigh 17 = .ok (.iload_n 2, 1) := by decide +kernel
theorem dX1_weigh_18 : decode cX1_weigh 18 = .ok (.ifCond .lt 90, 3) := by decide +kernel
theorem dX1_weigh_21 : decode cX1_weigh 21 = .ok (.aload_n 0, 1) := by decide +kernel
theorem dX1_weigh_22 : decode cX1_weigh 22 = .ok (.getfield 18, 3) := by decide +kernel
theorem dX1_weigh_25 : decode cX1_weigh 25 = .ok (.iload_n 2, 1) := by decide +kernel
theorem dX1_weigh_26 : decode cX1_weigh 26 = .ok (.bipush 9, 2) := by decide +kernel
theorem dX1_weigh_28 : decode cX1_weigh 28 = .ok (.imul, 1) := by decide +kernel
theorem dX1_weigh_29 : decode cX1_weigh 29 = .ok (.iload_n 2, 1) := by decide +kernel
theorem dX1_weigh_30 : decode cX1_weigh 30 = .ok (.iadd, 1) := by decide +kernel
theorem dX1_weigh_31 : decode cX1_weigh 31 = .ok (.iconst 0, 1) := by decide +kernel
theorem dX1_weigh_32 : decode cX1_weigh 32 = .ok (.iastore, 1) := by decide +kernel
theorem dX1_weigh_33 : decode cX1_weigh 33 = .ok (.aload_n 1, 1) := by decide +kernel
theorem dX1_weigh_34 : decode cX1_weigh 34 = .ok (.getfield 27, 3) := by decide +kernel
theorem dX1_weigh_37 : decode cX1_weigh 37 = .ok (.iload_n 2, 1) := by decide +kernel
theorem dX1_weigh_38 : decode cX1_weigh 38 = .ok (.iaload, 1) := by decide +kernel
theorem dX1_weigh_39 : decode cX1_weigh 39 = .ok (.istore_n 3, 1) := by decide +kernel
theorem dX1_weigh_40 : decode cX1_weigh 40 = .ok (.iload_n 2, 1) := by decide +kernel
theorem dX1_weigh_41 : decode cX1_weigh 41 = .ok (.iconst 1, 1) := by decide +kernel
theorem dX1_weigh_42 : decode cX1_weigh 42 = .ok (.iadd, 1) := by decide +kernel
theorem dX1_weigh_43 : decode cX1_weigh 43 = .ok (.istore 4, 2) := by decide +kernel
theorem dX1_weigh_45 : decode cX1_weigh 45 = .ok (.iload 4, 2) := by decide +kernel
theorem dX1_weigh_47 : decode cX1_weigh 47 = .ok (.aload_n 1, 1) := by decide +kernel
theorem dX1_weigh_48 : decode cX1_weigh 48 = .ok (.getfield 22, 3) := by decide +kernel
theorem dX1_weigh_51 : decode cX1_weigh 51 = .ok (.if_icmp .ge 51, 3) := by decide +kernel
theorem dX1_weigh_54 : decode cX1_weigh 54 = .ok (.iload_n 3, 1) := by decide +kernel
theorem dX1_weigh_55 : decode cX1_weigh 55 = .ok (.aload_n 1, 1) := by decide +kernel
theorem dX1_weigh_56 : decode cX1_weigh 56 = .ok (.getfield 27, 3) := by decide +kernel
theorem dX1_weigh_59 : decode cX1_weigh 59 = .ok (.iload 4, 2) := by decide +kernel
theorem dX1_weigh_61 : decode cX1_weigh 61 = .ok (.iaload, 1) := by decide +kernel
theorem dX1_weigh_62 : decode cX1_weigh 62 = .ok (.iadd, 1) := by decide +kernel
theorem dX1_weigh_63 : decode cX1_weigh 63 = .ok (.istore_n 3, 1) := by decide +kernel
theorem dX1_weigh_64 : decode cX1_weigh 64 = .ok (.aload_n 0, 1) := by decide +kernel
theorem dX1_weigh_65 : decode cX1_weigh 65 = .ok (.iload_n 2, 1) := by decide +kernel
theorem dX1_weigh_66 : decode cX1_weigh 66 = .ok (.iload 4, 2) := by decide +kernel
theorem dX1_weigh_68 : decode cX1_weigh 68 = .ok (.invokevirtual 30, 3) := by decide +kernel
theorem dX1_weigh_71 : decode cX1_weigh 71 = .ok (.istore 5, 2) := by decide +kernel
theorem dX1_weigh_73 : decode cX1_weigh 73 = .ok (.aload_n 0, 1) := by decide +kernel
theorem dX1_weigh_74 : decode cX1_weigh 74 = .ok (.getfield 18, 3) := by decide +kernel
theorem dX1_weigh_77 : decode cX1_weigh 77 = .ok (.iload_n 2, 1) := by decide +kernel
theorem dX1_weigh_78 : decode cX1_weigh 78 = .ok (.bipush 9, 2) := by decide +kernel
theorem dX1_weigh_80 : decode cX1_weigh 80 = .ok (.imul, 1) := by decide +kernel
theorem dX1_weigh_81 : decode cX1_weigh 81 = .ok (.iload 4, 2) := by decide +kernel
theorem dX1_weigh_83 : decode cX1_weigh 83 = .ok (.iadd, 1) := by decide +kernel
theorem dX1_weigh_84 : decode cX1_weigh 84 = .ok (.iload_n 3, 1) := by decide +kernel
theorem dX1_weigh_85 : decode cX1_weigh 85 = .ok (.aload_n 0, 1) := by decide +kernel
theorem dX1_weigh_86 : decode cX1_weigh 86 = .ok (.iload_n 2, 1) := by decide +kernel
theorem dX1_weigh_87 : decode cX1_weigh 87 = .ok (.iload 5, 2) := by decide +kernel
theorem dX1_weigh_89 : decode cX1_weigh 89 = .ok (.iload 4, 2) := by decide +kernel
theorem dX1_weigh_91 : decode cX1_weigh 91 = .ok (.invokevirtual 34, 3) := by decide +kernel
theorem dX1_weigh_94 : decode cX1_weigh 94 = .ok (.iadd, 1) := by decide +kernel
theorem dX1_weigh_95 : decode cX1_weigh 95 = .ok (.iastore, 1) := by decide +kernel
theorem dX1_weigh_96 : decode cX1_weigh 96 = .ok (.iinc 4 1, 3) := by decide +kernel
theorem dX1_weigh_99 : decode cX1_weigh 99 = .ok (.goto (-54), 3) := by decide +kernel
theorem dX1_weigh_102 : decode cX1_weigh 102 = .ok (.iinc 2 (-1), 3) := by decide +kernel
theorem dX1_weigh_105 : decode cX1_weigh 105 = .ok (.goto (-88), 3) := by decide +kernel
theorem dX1_weigh_108 : decode cX1_weigh 108 = .ok (.aload_n 1, 1) := by decide +kernel
theorem dX1_weigh_109 : decode cX1_weigh 109 = .ok (.getfield 22, 3) := by decide +kernel
theorem dX1_weigh_112 : decode cX1_weigh 112 = .ok (.iconst 1, 1) := by decide +kernel
theorem dX1_weigh_113 : decode cX1_weigh 113 = .ok (.if_icmp .le 33, 3) := by decide +kernel
theorem dX1_weigh_116 : decode cX1_weigh 116 = .ok (.aload_n 0, 1) := by decide +kernel
theorem dX1_weigh_117 : decode cX1_weigh 117 = .ok (.aload_n 0, 1) := by decide +kernel
theorem dX1_weigh_118 : decode cX1_weigh 118 = .ok (.getfield 18, 3) := by decide +kernel
theorem dX1_weigh_121 : decode cX1_weigh 121 = .ok (.aload_n 1, 1) := by decide +kernel
theorem dX1_weigh_122 : decode cX1_weigh 122 = .ok (.getfield 22, 3) := by decide +kernel
theorem dX1_weigh_125 : decode cX1_weigh 125 = .ok (.iconst 1, 1) := by decide +kernel
theorem dX1_weigh_126 : decode cX1_weigh 126 = .ok (.isub, 1) := by decide +kernel
theorem dX1_weigh_127 : decode cX1_weigh 127 = .ok (.iaload, 1) := by decide +kernel
theorem dX1_weigh_128 : decode cX1_weigh 128 = .ok (.putfield 9, 3) := by decide +kernel
theorem dX1_weigh_131 : decode cX1_weigh 131 = .ok (.aload_n 0, 1) := by decide +kernel
theorem dX1_weigh_132 : decode cX1_weigh 132 = .ok (.aload_n 0, 1) := by decide +kernel
theorem dX1_weigh_133 : decode cX1_weigh 133 = .ok (.iconst 0, 1) := by decide +kernel
theorem dX1_weigh_134 : decode cX1_weigh 134 = .ok (.aload_n 1, 1) := by decide +kernel
theorem dX1_weigh_135 : decode cX1_weigh 135 = .ok (.getfield 22, 3) := by decide +kernel
theorem dX1_weigh_138 : decode cX1_weigh 138 = .ok (.iconst 1, 1) := by decide +kernel
theorem dX1_weigh_139 : decode cX1_weigh 139 = .ok (.isub, 1) := by decide +kernel
theorem dX1_weigh_140 : decode cX1_weigh 140 = .ok (.invokevirtual 30, 3) := by decide +kernel
theorem dX1_weigh_143 : decode cX1_weigh 143 = .ok (.putfield 15, 3) := by decide +kernel
theorem dX1_weigh_146 : decode cX1_weigh 146 = .ok (.return_, 1) := by decide +kernel
set_option maxRecDepth 20000 in
theorem ggX1_bestJoint_X1_bothSides : GoodIn wsX1_bestJoint wsX1_bothSides := goodIn_r _ [5, 6, 7, 8, 9] (by decide +kernel) (by decide +kernel)
set_option maxRecDepth 20000 in
theorem gX1_bestJoint_X1_bothSides : GoodIn wsX1_bestJoint (wsV RX1 34 RX1 yX1_bothSides wsX1_bothSides) := goodIn_app (goodIn_of _ (by decide +kernel)) ggX1_bestJoint_X1_bothSides
theorem dX1_bestJoint_0 : decode cX1_bestJoint 0 = .ok (.iload_n 1, 1) := by decide +kernel
theorem dX1_bestJoint_1 : decode cX1_bestJoint 1 = .ok (.istore_n 3, 1) := by decide +kernel
theorem dX1_bestJoint_2 : decode cX1_bestJoint 2 = .ok (.iload_n 1, 1) := by decide +kernel
theorem dX1_bestJoint_3 : decode cX1_bestJoint 3 = .ok (.iconst 1, 1) := by decide +kernel
theorem dX1_bestJoint_4 : decode cX1_bestJoint 4 = .ok (.iadd, 1) := by decide +kernel
theorem dX1_bestJoint_5 : decode cX1_bestJoint 5 = .ok (.istore 4, 2) := by decide +kernel
theorem dX1_bestJoint_7 : decode cX1_bestJoint 7 = .ok (.iload 4, 2) := by decide +kernel
theorem dX1_bestJoint_9 : decode cX1_bestJoint 9 = .ok (.iload_n 2, 1) := by decide +kernel
theorem dX1_bestJoint_10 : decode cX1_bestJoint 10 = .ok (.if_icmp .ge 30, 3) := by decide +kernel
theorem dX1_bestJoint_13 : decode cX1_bestJoint 13 = .ok (.aload_n 0, 1) := by decide +kernel
theorem dX1_bestJoint_14 : decode cX1_bestJoint 14 = .ok (.iload_n 1, 1) := by decide +kernel
theorem dX1_bestJoint_15 : decode cX1_bestJoint 15 = .ok (.iload 4, 2) := by decide +kernel
theorem dX1_bestJoint_17 : decode cX1_bestJoint 17 = .ok (.iload_n 2, 1) := by decide +kernel
theorem dX1_bestJoint_18 : decode cX1_bestJoint 18 = .ok (.invokevirtual 34, 3) := by decide +kernel
theorem dX1_bestJoint_21 : decode cX1_bestJoint 21 = .ok (.aload_n 0, 1) := by decide +kernel
theorem dX1_bestJoint_22 : decode cX1_bestJoint 22 = .ok (.iload_n 1, 1) := by decide +kernel
theorem dX1_bestJoint_23 : decode cX1_bestJoint 23 = .ok (.iload_n 3, 1) := by decide +kernel
theorem dX1_bestJoint_24 : decode cX1_bestJoint 24 = .ok (.iload_n 2, 1) := by decide +kernel
theorem dX1_bestJoint_25 : decode cX1_bestJoint 25 = .ok (.invokevirtual 34, 3) := by decide +kernel
theorem dX1_bestJoint_28 : decode cX1_bestJoint 28 = .ok (.if_icmp .ge 6, 3) := by decide +kernel
theorem dX1_bestJoint_31 : decode cX1_bestJoint 31 = .ok (.iload 4, 2) := by decide +kernel
theorem dX1_bestJoint_33 : decode cX1_bestJoint 33 = .ok (.istore_n 3, 1) := by decide +kernel
theorem dX1_bestJoint_34 : decode cX1_bestJoint 34 = .ok (.iinc 4 1, 3) := by decide +kernel
theorem dX1_bestJoint_37 : decode cX1_bestJoint 37 = .ok (.goto (-30), 3) := by decide +kernel
theorem dX1_bestJoint_40 : decode cX1_bestJoint 40 = .ok (.iload_n 3, 1) := by decide +kernel
theorem dX1_bestJoint_41 : decode cX1_bestJoint 41 = .ok (.ireturn, 1) := by decide +kernel
theorem dX1_bothSides_0 : decode cX1_bothSides 0 = .ok (.aload_n 0, 1) := by decide +kernel
theorem dX1_bothSides_1 : decode cX1_bothSides 1 = .ok (.getfield 18, 3) := by decide +kernel
theorem dX1_bothSides_4 : decode cX1_bothSides 4 = .ok (.iload_n 1, 1) := by decide +kernel
theorem dX1_bothSides_5 : decode cX1_bothSides 5 = .ok (.bipush 9, 2) := by decide +kernel
theorem dX1_bothSides_7 : decode cX1_bothSides 7 = .ok (.imul, 1) := by decide +kernel
theorem dX1_bothSides_8 : decode cX1_bothSides 8 = .ok (.iload_n 2, 1) := by decide +kernel
theorem dX1_bothSides_9 : decode cX1_bothSides 9 = .ok (.iadd, 1) := by decide +kernel
theorem dX1_bothSides_10 : decode cX1_bothSides 10 = .ok (.iaload, 1) := by decide +kernel
theorem dX1_bothSides_11 : decode cX1_bothSides 11 = .ok (.aload_n 0, 1) := by decide +kernel
theorem dX1_bothSides_12 : decode cX1_bothSides 12 = .ok (.getfield 18, 3) := by decide +kernel
theorem dX1_bothSides_15 : decode cX1_bothSides 15 = .ok (.iload_n 2, 1) := by decide +kernel
theorem dX1_bothSides_16 : decode cX1_bothSides 16 = .ok (.iconst 1, 1) := by decide +kernel
theorem dX1_bothSides_17 : decode cX1_bothSides 17 = .ok (.iadd, 1) := by decide +kernel
theorem dX1_bothSides_18 : decode cX1_bothSides 18 = .ok (.bipush 9, 2) := by decide +kernel
theorem dX1_bothSides_20 : decode cX1_bothSides 20 = .ok (.imul, 1) := by decide +kernel
theorem dX1_bothSides_21 : decode cX1_bothSides 21 = .ok (.iload_n 3, 1) := by decide +kernel
theorem dX1_bothSides_22 : decode cX1_bothSides 22 = .ok (.iadd, 1) := by decide +kernel
theorem dX1_bothSides_23 : decode cX1_bothSides 23 = .ok (.iaload, 1) := by decide +kernel
theorem dX1_bothSides_24 : decode cX1_bothSides 24 = .ok (.iadd, 1) := by decide +kernel
theorem dX1_bothSides_25 : decode cX1_bothSides 25 = .ok (.ireturn, 1) := by decide +kernel
theorem dX2_init_0 : decode cX2_init 0 = .ok (.aload_n 0, 1) := by decide +kernel
theorem dX2_init_1 : decode cX2_init 1 = .ok (.invokespecial 3, 3) := by decide +kernel
theorem dX2_init_4 : decode cX2_init 4 = .ok (.aload_n 0, 1) := by decide +kernel
theorem dX2_init_5 : decode cX2_init 5 = .ok (.iconst (-1), 1) := by decide +kernel
theorem dX2_init_6 : decode cX2_init 6 = .ok (.putfield 9, 3) := by decide +kernel
theorem dX2_init_9 : decode cX2_init 9 = .ok (.aload_n 0, 1) := by decide +kernel
theorem dX2_init_10 : decode cX2_init 10 = .ok (.bipush 9, 2) := by decide +kernel
theorem dX2_init_12 : decode cX2_init 12 = .ok (.newarray .int, 2) := by decide +kernel
theorem dX2_init_14 : decode cX2_init 14 = .ok (.putfield 15, 3) := by decide +kernel
theorem dX2_init_17 : decode cX2_init 17 = .ok (.aload_n 0, 1) := by decide +kernel
theorem dX2_init_18 : decode cX2_init 18 = .ok (.bipush 9, 2) := by decide +kernel
theorem dX2_init_20 : decode cX2_init 20 = .ok (.newarray .int, 2) := by decide +kernel
theorem dX2_init_22 : decode cX2_init 22 = .ok (.putfield 19, 3) := by decide +kernel
theorem dX2_init_25 : decode cX2_init 25 = .ok (.aload_n 0, 1) := by decide +kernel
theorem dX2_init_26 : decode cX2_init 26 = .ok (.bipush 9, 2) := by decide +kernel
theorem dX2_init_28 : decode cX2_init 28 = .ok (.newarray .int, 2) := by decide +kernel
theorem dX2_init_30 : decode cX2_init 30 = .ok (.putfield 22, 3) := by decide +kernel
theorem dX2_init_33 : decode cX2_init 33 = .ok (.return_, 1) := by decide +kernel
theorem dX2_drop_0 : decode cX2_drop 0 = .ok (.aload_n 0, 1) := by decide +kernel
theorem dX2_drop_1 : decode cX2_drop 1 = .ok (.iconst (-1), 1) := by decide +kernel
theorem dX2_drop_2 : decode cX2_drop 2 = .ok (.putfield 9, 3) := by decide +kernel
theorem dX2_drop_5 : decode cX2_drop 5 = .ok (.return_, 1) := by decide +kernel
theorem dX2_begin_0 : decode cX2_begin 0 = .ok (.aload_n 0, 1) := by decide +kernel
theorem dX2_begin_1 : decode cX2_begin 1 = .ok (.iconst 0, 1) := by decide +kernel
theorem dX2_begin_2 : decode cX2_begin 2 = .ok (.putfield 9, 3) := by decide +kernel
theorem dX2_begin_5 : decode cX2_begin 5 = .ok (.return_, 1) := by decide +kernel
theorem dX2_add_0 : decode cX2_add 0 = .ok (.aload_n 0, 1) := by decide +kernel
theorem dX2_add_1 : decode cX2_add 1 = .ok (.getfield 9, 3) := by decide +kernel
theorem dX2_add_4 : decode cX2_add 4 = .ok (.ifCond .lt 52, 3) := by decide +kernel
theorem dX2_add_7 : decode cX2_add 7 = .ok (.aload_n 0, 1) := by decide +kernel
theorem dX2_add_8 : decode cX2_add 8 = .ok (.getfield 9, 3) := by decide +kernel
theorem dX2_add_11 : decode cX2_add 11 = .ok (.bipush 9, 2) := by decide +kernel
theorem dX2_add_13 : decode cX2_add 13 = .ok (.if_icmp .ge 43, 3) := by decide +kernel
theorem dX2_add_16 : decode cX2_add 16 = .ok (.aload_n 0, 1) := by decide +kernel
theorem dX2_add_17 : decode cX2_add 17 = .ok (.getfield 15, 3) := by decide +kernel
theorem dX2_add_20 : decode cX2_add 20 = .ok (.aload_n 0, 1) := by decide +kernel
theorem dX2_add_21 : decode cX2_add 21 = .ok (.getfield 9, 3) := by decide +kernel
theorem dX2_add_24 : decode cX2_add 24 = .ok (.iload_n 1, 1) := by decide +kernel
theorem dX2_add_25 : decode cX2_add 25 = .ok (.iastore, 1) := by decide +kernel
theorem dX2_add_26 : decode cX2_add 26 = .ok (.aload_n 0, 1) := by decide +kernel
theorem dX2_add_27 : decode cX2_add 27 = .ok (.getfield 19, 3) := by decide +kernel
theorem dX2_add_30 : decode cX2_add 30 = .ok (.aload_n 0, 1) := by decide +kernel
theorem dX2_add_31 : decode cX2_add 31 = .ok (.getfield 9, 3) := by decide +kernel
theorem dX2_add_34 : decode cX2_add 34 = .ok (.iload_n 2, 1) := by decide +kernel
theorem dX2_add_35 : decode cX2_add 35 = .ok (.iastore, 1) := by decide +kernel
theorem dX2_add_36 : decode cX2_add 36 = .ok (.aload_n 0, 1) := by decide +kernel
theorem dX2_add_37 : decode cX2_add 37 = .ok (.getfield 22, 3) := by decide +kernel
theorem dX2_add_40 : decode cX2_add 40 = .ok (.aload_n 0, 1) := by decide +kernel
theorem dX2_add_41 : decode cX2_add 41 = .ok (.getfield 9, 3) := by decide +kernel
theorem dX2_add_44 : decode cX2_add 44 = .ok (.iload_n 3, 1) := by decide +kernel
theorem dX2_add_45 : decode cX2_add 45 = .ok (.iastore, 1) := by decide +kernel
theorem dX2_add_46 : decode cX2_add 46 = .ok (.aload_n 0, 1) := by decide +kernel
theorem dX2_add_47 : decode cX2_add 47 = .ok (.dup, 1) := by decide +kernel
theorem dX2_add_48 : decode cX2_add 48 = .ok (.getfield 9, 3) := by decide +kernel
theorem dX2_add_51 : decode cX2_add 51 = .ok (.iconst 1, 1) := by decide +kernel
theorem dX2_add_52 : decode cX2_add 52 = .ok (.iadd, 1) := by decide +kernel
theorem dX2_add_53 : decode cX2_add 53 = .ok (.putfield 9, 3) := by decide +kernel
theorem dX2_add_56 : decode cX2_add 56 = .ok (.return_, 1) := by decide +kernel
theorem dX2_areThere_0 : decode cX2_areThere 0 = .ok (.aload_n 0, 1) := by decide +kernel
theorem dX2_areThere_1 : decode cX2_areThere 1 = .ok (.getfield 9, 3) := by decide +kernel
theorem dX2_areThere_4 : decode cX2_areThere 4 = .ok (.iconst (-1), 1) := by decide +kernel
theorem dX2_areThere_5 : decode cX2_areThere 5 = .ok (.if_icmp .eq 7, 3) := by decide +kernel
theorem dX2_areThere_8 : decode cX2_areThere 8 = .ok (.iconst 1, 1) := by decide +kernel
theorem dX2_areThere_9 : decode cX2_areThere 9 = .ok (.goto 4, 3) := by decide +kernel
theorem dX2_areThere_12 : decode cX2_areThere 12 = .ok (.iconst 0, 1) := by decide +kernel
theorem dX2_areThere_13 : decode cX2_areThere 13 = .ok (.ireturn, 1) := by decide +kernel
set_option maxRecDepth 20000 in
theorem ggX2_wholePrice_X2_areThere : GoodIn wsX2_wholePrice wsX2_areThere := goodIn_r _ [7, 1, 8, 9, 10, 11] (by decide +kernel) (by decide +kernel)
set_option maxRecDepth 20000 in
theorem gX2_wholePrice_X2_areThere : GoodIn wsX2_wholePrice (wsV RX2 25 RX2 yX2_areThere wsX2_areThere) := goodIn_app (goodIn_of _ (by decide +kernel)) ggX2_wholePrice_X2_areThere
theorem dX2_wholePrice_0 : decode cX2_wholePrice 0 = .ok (.aload_n 0, 1) := by decide +kernel
theorem dX2_wholePrice_1 : decode cX2_wholePrice 1 = .ok (.invokevirtual 25, 3) := by decide +kernel
theorem dX2_wholePrice_4 : decode cX2_wholePrice 4 = .ok (.ifCond .ne 5, 3) := by decide +kernel
theorem dX2_wholePrice_7 : decode cX2_wholePrice 7 = .ok (.iconst (-1), 1) := by decide +kernel
theorem dX2_wholePrice_8 : decode cX2_wholePrice 8 = .ok (.ireturn, 1) := by decide +kernel
theorem dX2_wholePrice_9 : decode cX2_wholePrice 9 = .ok (.iconst 0, 1) := by decide +kernel
theorem dX2_wholePrice_10 : decode cX2_wholePrice 10 = .ok (.istore_n 1, 1) := by decide +kernel
theorem dX2_wholePrice_11 : decode cX2_wholePrice 11 = .ok (.iconst 0, 1) := by decide +kernel
theorem dX2_wholePrice_12 : decode cX2_wholePrice 12 = .ok (.istore_n 2, 1) := by decide +kernel
theorem dX2_wholePrice_13 : decode cX2_wholePrice 13 = .ok (.iload_n 2, 1) := by decide +kernel
theorem dX2_wholePrice_14 : decode cX2_wholePrice 14 = .ok (.aload_n 0, 1) := by decide +kernel
theorem dX2_wholePrice_15 : decode cX2_wholePrice 15 = .ok (.getfield 9, 3) := by decide +kernel
theorem dX2_wholePrice_18 : decode cX2_wholePrice 18 = .ok (.if_icmp .ge 18, 3) := by decide +kernel
theorem dX2_wholePrice_21 : decode cX2_wholePrice 21 = .ok (.iload_n 1, 1) := by decide +kernel
theorem dX2_wholePrice_22 : decode cX2_wholePrice 22 = .ok (.aload_n 0, 1) := by decide +kernel
theorem dX2_wholePrice_23 : decode cX2_wholePrice 23 = .ok (.getfield 22, 3) := by decide +kernel
theorem dX2_wholePrice_26 : decode cX2_wholePrice 26 = .ok (.iload_n 2, 1) := by decide +kernel
theorem dX2_wholePrice_27 : decode cX2_wholePrice 27 = .ok (.iaload, 1) := by decide +kernel
theorem dX2_wholePrice_28 : decode cX2_wholePrice 28 = .ok (.iadd, 1) := by decide +kernel
theorem dX2_wholePrice_29 : decode cX2_wholePrice 29 = .ok (.istore_n 1, 1) := by decide +kernel
theorem dX2_wholePrice_30 : decode cX2_wholePrice 30 = .ok (.iinc 2 1, 3) := by decide +kernel
theorem dX2_wholePrice_33 : decode cX2_wholePrice 33 = .ok (.goto (-20), 3) := by decide +kernel
theorem dX2_wholePrice_36 : decode cX2_wholePrice 36 = .ok (.iload_n 1, 1) := by decide +kernel
theorem dX2_wholePrice_37 : decode cX2_wholePrice 37 = .ok (.ireturn, 1) := by decide +kernel
theorem dX3_init_0 : decode cX3_init 0 = .ok (.aload_n 0, 1) := by decide +kernel
theorem dX3_init_1 : decode cX3_init 1 = .ok (.invokespecial 1, 3) := by decide +kernel
theorem dX3_init_4 : decode cX3_init 4 = .ok (.aload_n 0, 1) := by decide +kernel
theorem dX3_init_5 : decode cX3_init 5 = .ok (.getstatic 7, 3) := by decide +kernel
theorem dX3_init_8 : decode cX3_init 8 = .ok (.invokevirtual 13, 3) := by decide +kernel
theorem dX3_init_11 : decode cX3_init 11 = .ok (.checkcast 14, 3) := by decide +kernel
theorem dX3_init_14 : decode cX3_init 14 = .ok (.putfield 18, 3) := by decide +kernel
theorem dX3_init_17 : decode cX3_init 17 = .ok (.return_, 1) := by decide +kernel
theorem dX3_put_0 : decode cX3_put 0 = .ok (.iload_n 1, 1) := by decide +kernel
theorem dX3_put_1 : decode cX3_put 1 = .ok (.ifCond .lt 22, 3) := by decide +kernel
theorem dX3_put_4 : decode cX3_put 4 = .ok (.iload_n 1, 1) := by decide +kernel
theorem dX3_put_5 : decode cX3_put 5 = .ok (.aload_n 0, 1) := by decide +kernel
theorem dX3_put_6 : decode cX3_put 6 = .ok (.getfield 18, 3) := by decide +kernel
theorem dX3_put_9 : decode cX3_put 9 = .ok (.arraylength, 1) := by decide +kernel
theorem dX3_put_10 : decode cX3_put 10 = .ok (.if_icmp .ge 13, 3) := by decide +kernel
theorem dX3_put_13 : decode cX3_put 13 = .ok (.iload_n 2, 1) := by decide +kernel
theorem dX3_put_14 : decode cX3_put 14 = .ok (.ifCond .lt 9, 3) := by decide +kernel
theorem dX3_put_17 : decode cX3_put 17 = .ok (.iload_n 2, 1) := by decide +kernel
theorem dX3_put_18 : decode cX3_put 18 = .ok (.bipush 99, 2) := by decide +kernel
theorem dX3_put_20 : decode cX3_put 20 = .ok (.if_icmp .le 5, 3) := by decide +kernel
theorem dX3_put_23 : decode cX3_put 23 = .ok (.iconst 0, 1) := by decide +kernel
theorem dX3_put_24 : decode cX3_put 24 = .ok (.ireturn, 1) := by decide +kernel
theorem dX3_put_25 : decode cX3_put 25 = .ok (.aload_n 0, 1) := by decide +kernel
theorem dX3_put_26 : decode cX3_put 26 = .ok (.getfield 18, 3) := by decide +kernel
theorem dX3_put_29 : decode cX3_put 29 = .ok (.iload_n 1, 1) := by decide +kernel
theorem dX3_put_30 : decode cX3_put 30 = .ok (.iload_n 2, 1) := by decide +kernel
theorem dX3_put_31 : decode cX3_put 31 = .ok (.iastore, 1) := by decide +kernel
theorem dX3_put_32 : decode cX3_put 32 = .ok (.iconst 1, 1) := by decide +kernel
theorem dX3_put_33 : decode cX3_put 33 = .ok (.ireturn, 1) := by decide +kernel
theorem dX3_ofBend_0 : decode cX3_ofBend 0 = .ok (.aload_n 0, 1) := by decide +kernel
theorem dX3_ofBend_1 : decode cX3_ofBend 1 = .ok (.getfield 18, 3) := by decide +kernel
theorem dX3_ofBend_4 : decode cX3_ofBend 4 = .ok (.iload_n 1, 1) := by decide +kernel
theorem dX3_ofBend_5 : decode cX3_ofBend 5 = .ok (.iaload, 1) := by decide +kernel
theorem dX3_ofBend_6 : decode cX3_ofBend 6 = .ok (.ireturn, 1) := by decide +kernel
theorem dX3_ofJump_0 : decode cX3_ofJump 0 = .ok (.aload_n 0, 1) := by decide +kernel
theorem dX3_ofJump_1 : decode cX3_ofJump 1 = .ok (.getfield 18, 3) := by decide +kernel
theorem dX3_ofJump_4 : decode cX3_ofJump 4 = .ok (.iconst 5, 1) := by decide +kernel
theorem dX3_ofJump_5 : decode cX3_ofJump 5 = .ok (.iaload, 1) := by decide +kernel
theorem dX3_ofJump_6 : decode cX3_ofJump 6 = .ok (.ireturn, 1) := by decide +kernel
set_option maxRecDepth 20000 in
theorem ggX3_ofRun_X7_payOf : GoodIn wsX3_ofRun wsX7_payOf := goodIn_r _ [4] (by decide +kernel) (by decide +kernel)
set_option maxRecDepth 20000 in
theorem gX3_ofRun_X7_payOf_n21 : GoodIn wsX3_ofRun (wsX7_payOf) := ggX3_ofRun_X7_payOf
set_option maxRecDepth 20000 in
theorem ggX3_ofRun_X7_lengthOf : GoodIn wsX3_ofRun wsX7_lengthOf := goodIn_r _ [6] (by decide +kernel) (by decide +kernel)
set_option maxRecDepth 20000 in
theorem gX3_ofRun_X7_lengthOf_n27 : GoodIn wsX3_ofRun (wsX7_lengthOf) := ggX3_ofRun_X7_lengthOf
theorem dX3_ofRun_0 : decode cX3_ofRun 0 = .ok (.iload_n 1, 1) := by decide +kernel
theorem dX3_ofRun_1 : decode cX3_ofRun 1 = .ok (.invokestatic 21, 3) := by decide +kernel
theorem dX3_ofRun_4 : decode cX3_ofRun 4 = .ok (.aload_n 0, 1) := by decide +kernel
theorem dX3_ofRun_5 : decode cX3_ofRun 5 = .ok (.getfield 18, 3) := by decide +kernel
theorem dX3_ofRun_8 : decode cX3_ofRun 8 = .ok (.bipush 6, 2) := by decide +kernel
theorem dX3_ofRun_10 : decode cX3_ofRun 10 = .ok (.iaload, 1) := by decide +kernel
theorem dX3_ofRun_11 : decode cX3_ofRun 11 = .ok (.iload_n 1, 1) := by decide +kernel
theorem dX3_ofRun_12 : decode cX3_ofRun 12 = .ok (.invokestatic 27, 3) := by decide +kernel
theorem dX3_ofRun_15 : decode cX3_ofRun 15 = .ok (.imul, 1) := by decide +kernel
theorem dX3_ofRun_16 : decode cX3_ofRun 16 = .ok (.bipush 10, 2) := by decide +kernel
theorem dX3_ofRun_18 : decode cX3_ofRun 18 = .ok (.idiv, 1) := by decide +kernel
theorem dX3_ofRun_19 : decode cX3_ofRun 19 = .ok (.iadd, 1) := by decide +kernel
theorem dX3_ofRun_20 : decode cX3_ofRun 20 = .ok (.ireturn, 1) := by decide +kernel
theorem dX4_init_0 : decode cX4_init 0 = .ok (.aload_n 0, 1) := by decide +kernel
theorem dX4_init_1 : decode cX4_init 1 = .ok (.invokespecial 3, 3) := by decide +kernel
theorem dX4_init_4 : decode cX4_init 4 = .ok (.aload_n 0, 1) := by decide +kernel
theorem dX4_init_5 : decode cX4_init 5 = .ok (.iconst 0, 1) := by decide +kernel
theorem dX4_init_6 : decode cX4_init 6 = .ok (.putfield 9, 3) := by decide +kernel
theorem dX4_init_9 : decode cX4_init 9 = .ok (.aload_n 0, 1) := by decide +kernel
theorem dX4_init_10 : decode cX4_init 10 = .ok (.bipush 9, 2) := by decide +kernel
theorem dX4_init_12 : decode cX4_init 12 = .ok (.newarray .int, 2) := by decide +kernel
theorem dX4_init_14 : decode cX4_init 14 = .ok (.putfield 15, 3) := by decide +kernel
theorem dX4_init_17 : decode cX4_init 17 = .ok (.aload_n 0, 1) := by decide +kernel
theorem dX4_init_18 : decode cX4_init 18 = .ok (.sipush 324, 3) := by decide +kernel
theorem dX4_init_21 : decode cX4_init 21 = .ok (.newarray .int, 2) := by decide +kernel
theorem dX4_init_23 : decode cX4_init 23 = .ok (.putfield 19, 3) := by decide +kernel
theorem dX4_init_26 : decode cX4_init 26 = .ok (.aload_n 0, 1) := by decide +kernel
theorem dX4_init_27 : decode cX4_init 27 = .ok (.sipush 9216, 3) := by decide +kernel
theorem dX4_init_30 : decode cX4_init 30 = .ok (.newarray .int, 2) := by decide +kernel
theorem dX4_init_32 : decode cX4_init 32 = .ok (.putfield 22, 3) := by decide +kernel
theorem dX4_init_35 : decode cX4_init 35 = .ok (.aload_n 0, 1) := by decide +kernel
theorem dX4_init_36 : decode cX4_init 36 = .ok (.sipush 512, 3) := by decide +kernel
theorem dX4_init_39 : decode cX4_init 39 = .ok (.newarray .int, 2) := by decide +kernel
theorem dX4_init_41 : decode cX4_init 41 = .ok (.putfield 25, 3) := by decide +kernel
theorem dX4_init_44 : decode cX4_init 44 = .ok (.aload_n 0, 1) := by decide +kernel
theorem dX4_init_45 : decode cX4_init 45 = .ok (.bipush 9, 2) := by decide +kernel
theorem dX4_init_47 : decode cX4_init 47 = .ok (.newarray .int, 2) := by decide +kernel
theorem dX4_init_49 : decode cX4_init 49 = .ok (.putfield 28, 3) := by decide +kernel
theorem dX4_init_52 : decode cX4_init 52 = .ok (.aload_n 0, 1) := by decide +kernel
theorem dX4_init_53 : decode cX4_init 53 = .ok (.iconst 1, 1) := by decide +kernel
theorem dX4_init_54 : decode cX4_init 54 = .ok (.putfield 31, 3) := by decide +kernel
theorem dX4_init_57 : decode cX4_init 57 = .ok (.return_, 1) := by decide +kernel
theorem dX4_forget_0 : decode cX4_forget 0 = .ok (.aload_n 0, 1) := by decide +kernel
theorem dX4_forget_1 : decode cX4_forget 1 = .ok (.iconst 1, 1) := by decide +kernel
theorem dX4_forget_2 : decode cX4_forget 2 = .ok (.putfield 31, 3) := by decide +kernel
theorem dX4_forget_5 : decode cX4_forget 5 = .ok (.return_, 1) := by decide +kernel
set_option maxRecDepth 20000 in
theorem ggX4_refresh_X5_all : GoodIn wsX4_refresh wsX5_all := goodIn_r _ [6, 7, 73, 74, 75, 76, 77] (by decide +kernel) (by decide +kernel)
set_option maxRecDepth 20000 in
theorem gX4_refresh_X5_all : GoodIn wsX4_refresh (wsV RX4 34 RX5 yX5_all wsX5_all) := goodIn_app (goodIn_of _ (by decide +kernel)) ggX4_refresh_X5_all
set_option maxRecDepth 20000 in
theorem ggX4_refresh_X4_takeOver : GoodIn wsX4_refresh wsX4_takeOver := goodIn_r _ [12, 13, 14, 15, 16, 17, 18, 19, 20, 21, 22, 5, 23, 24, 25, 26, 27, 28, 29, 30, 31, 32, 33, 34, 35, 36, 37, 38, 39, 40, 41, 42, 43, 44, 45, 46, 47, 48, 49, 50, 51, 73, 74, 75, 76, 77, 66, 67, 68, 69, 70, 71, 72, 78] (by decide +kernel) (by decide +kernel)
set_option maxRecDepth 20000 in
theorem gX4_refresh_X4_takeOver : GoodIn wsX4_refresh (wsV RX4 40 RX4 yX4_takeOver wsX4_takeOver) := goodIn_app (goodIn_of _ (by decide +kernel)) ggX4_refresh_X4_takeOver
set_option maxRecDepth 20000 in
theorem ggX4_refresh_X4_fill : GoodIn wsX4_refresh wsX4_fill := goodIn_r _ [55, 56, 13, 14, 57, 58, 32, 29, 33, 59, 60, 41, 61, 62, 63, 64, 11, 65, 19, 66, 67, 68, 69, 70, 71, 72] (by decide +kernel) (by decide +kernel)
set_option maxRecDepth 20000 in
theorem gX4_refresh_X4_fill : GoodIn wsX4_refresh (wsV RX4 44 RX4 yX4_fill wsX4_fill) := goodIn_app (goodIn_of _ (by decide +kernel)) ggX4_refresh_X4_fill
theorem dX4_refresh_0 : decode cX4_refresh 0 = .ok (.aload_n 1, 1) := by decide +kernel
theorem dX4_refresh_1 : decode cX4_refresh 1 = .ok (.invokevirtual 34, 3) := by decide +kernel
theorem dX4_refresh_4 : decode cX4_refresh 4 = .ok (.iconst 1, 1) := by decide +kernel
theorem dX4_refresh_5 : decode cX4_refresh 5 = .ok (.iadd, 1) := by decide +kernel
theorem dX4_refresh_6 : decode cX4_refresh 6 = .ok (.istore_n 3, 1) := by decide +kernel
theorem dX4_refresh_7 : decode cX4_refresh 7 = .ok (.aload_n 0, 1) := by decide +kernel
theorem dX4_refresh_8 : decode cX4_refresh 8 = .ok (.getfield 31, 3) := by decide +kernel
theorem dX4_refresh_11 : decode cX4_refresh 11 = .ok (.iload_n 3, 1) := by decide +kernel
theorem dX4_refresh_12 : decode cX4_refresh 12 = .ok (.if_icmp .lt 4, 3) := by decide +kernel
theorem dX4_refresh_15 : decode cX4_refresh 15 = .ok (.return_, 1) := by decide +kernel
theorem dX4_refresh_16 : decode cX4_refresh 16 = .ok (.aload_n 0, 1) := by decide +kernel
theorem dX4_refresh_17 : decode cX4_refresh 17 = .ok (.aload_n 1, 1) := by decide +kernel
theorem dX4_refresh_18 : decode cX4_refresh 18 = .ok (.aload_n 2, 1) := by decide +kernel
theorem dX4_refresh_19 : decode cX4_refresh 19 = .ok (.invokevirtual 40, 3) := by decide +kernel
theorem dX4_refresh_22 : decode cX4_refresh 22 = .ok (.aload_n 0, 1) := by decide +kernel
theorem dX4_refresh_23 : decode cX4_refresh 23 = .ok (.getfield 31, 3) := by decide +kernel
theorem dX4_refresh_26 : decode cX4_refresh 26 = .ok (.istore 4, 2) := by decide +kernel
theorem dX4_refresh_28 : decode cX4_refresh 28 = .ok (.iload 4, 2) := by decide +kernel
theorem dX4_refresh_30 : decode cX4_refresh 30 = .ok (.iload_n 3, 1) := by decide +kernel
theorem dX4_refresh_31 : decode cX4_refresh 31 = .ok (.if_icmp .ge 15, 3) := by decide +kernel
theorem dX4_refresh_34 : decode cX4_refresh 34 = .ok (.aload_n 0, 1) := by decide +kernel
theorem dX4_refresh_35 : decode cX4_refresh 35 = .ok (.iload 4, 2) := by decide +kernel
theorem dX4_refresh_37 : decode cX4_refresh 37 = .ok (.invokevirtual 44, 3) := by decide +kernel
theorem dX4_refresh_40 : decode cX4_refresh 40 = .ok (.iinc 4 1, 3) := by decide +kernel
theorem dX4_refresh_43 : decode cX4_refresh 43 = .ok (.goto (-15), 3) := by decide +kernel
theorem dX4_refresh_46 : decode cX4_refresh 46 = .ok (.aload_n 0, 1) := by decide +kernel
theorem dX4_refresh_47 : decode cX4_refresh 47 = .ok (.iload_n 3, 1) := by decide +kernel
theorem dX4_refresh_48 : decode cX4_refresh 48 = .ok (.putfield 31, 3) := by decide +kernel
theorem dX4_refresh_51 : decode cX4_refresh 51 = .ok (.return_, 1) := by decide +kernel
set_option maxRecDepth 20000 in
theorem ggX4_takeOver_X5_linkCost : GoodIn wsX4_takeOver wsX5_linkCost := goodIn_r _ [12, 13, 14, 15, 16, 17, 18, 19, 20, 21, 22, 23, 24, 25, 26, 27, 28, 29, 30, 31, 32, 33, 34, 35, 36, 37, 38, 39, 40, 41, 42, 43, 44, 45, 53] (by decide +kernel) (by decide +kernel)
set_option maxRecDepth 20000 in
theorem gX4_takeOver_X5_linkCost : GoodIn wsX4_takeOver (wsV RX4 58 RX5 yX5_linkCost wsX5_linkCost) := goodIn_app (goodIn_of _ (by decide +kernel)) ggX4_takeOver_X5_linkCost
theorem dX4_takeOver_0 : decode cX4_takeOver 0 = .ok (.aload_n 0, 1) := by decide +kernel
theorem dX4_takeOver_1 : decode cX4_takeOver 1 = .ok (.iconst 2, 1) := by decide +kernel
theorem dX4_takeOver_2 : decode cX4_takeOver 2 = .ok (.aload_n 1, 1) := by decide +kernel
theorem dX4_takeOver_3 : decode cX4_takeOver 3 = .ok (.getfield 48, 3) := by decide +kernel
theorem dX4_takeOver_6 : decode cX4_takeOver 6 = .ok (.imul, 1) := by decide +kernel
theorem dX4_takeOver_7 : decode cX4_takeOver 7 = .ok (.putfield 9, 3) := by decide +kernel
theorem dX4_takeOver_10 : decode cX4_takeOver 10 = .ok (.aload_n 1, 1) := by decide +kernel
theorem dX4_takeOver_11 : decode cX4_takeOver 11 = .ok (.getfield 51, 3) := by decide +kernel
theorem dX4_takeOver_14 : decode cX4_takeOver 14 = .ok (.iconst 0, 1) := by decide +kernel
theorem dX4_takeOver_15 : decode cX4_takeOver 15 = .ok (.aload_n 0, 1) := by decide +kernel
theorem dX4_takeOver_16 : decode cX4_takeOver 16 = .ok (.getfield 15, 3) := by decide +kernel
theorem dX4_takeOver_19 : decode cX4_takeOver 19 = .ok (.iconst 0, 1) := by decide +kernel
theorem dX4_takeOver_20 : decode cX4_takeOver 20 = .ok (.bipush 9, 2) := by decide +kernel
theorem dX4_takeOver_22 : decode cX4_takeOver 22 = .ok (.invokestatic 52, 3) := by decide +kernel
theorem dX4_takeOver_25 : decode cX4_takeOver 25 = .ok (.iconst 0, 1) := by decide +kernel
theorem dX4_takeOver_26 : decode cX4_takeOver 26 = .ok (.istore_n 3, 1) := by decide +kernel
theorem dX4_takeOver_27 : decode cX4_takeOver 27 = .ok (.iload_n 3, 1) := by decide +kernel
theorem dX4_takeOver_28 : decode cX4_takeOver 28 = .ok (.aload_n 0, 1) := by decide +kernel
theorem dX4_takeOver_29 : decode cX4_takeOver 29 = .ok (.getfield 9, 3) := by decide +kernel
theorem dX4_takeOver_32 : decode cX4_takeOver 32 = .ok (.if_icmp .ge 47, 3) := by decide +kernel
theorem dX4_takeOver_35 : decode cX4_takeOver 35 = .ok (.iconst 0, 1) := by decide +kernel
theorem dX4_takeOver_36 : decode cX4_takeOver 36 = .ok (.istore 4, 2) := by decide +kernel
theorem dX4_takeOver_38 : decode cX4_takeOver 38 = .ok (.iload 4, 2) := by decide +kernel
theorem dX4_takeOver_40 : decode cX4_takeOver 40 = .ok (.aload_n 0, 1) := by decide +kernel
theorem dX4_takeOver_41 : decode cX4_takeOver 41 = .ok (.getfield 9, 3) := by decide +kernel
theorem dX4_takeOver_44 : decode cX4_takeOver 44 = .ok (.if_icmp .ge 29, 3) := by decide +kernel
theorem dX4_takeOver_47 : decode cX4_takeOver 47 = .ok (.aload_n 0, 1) := by decide +kernel
theorem dX4_takeOver_48 : decode cX4_takeOver 48 = .ok (.getfield 19, 3) := by decide +kernel
theorem dX4_takeOver_51 : decode cX4_takeOver 51 = .ok (.iload_n 3, 1) := by decide +kernel
theorem dX4_takeOver_52 : decode cX4_takeOver 52 = .ok (.bipush 18, 2) := by decide +kernel
theorem dX4_takeOver_54 : decode cX4_takeOver 54 = .ok (.imul, 1) := by decide +kernel
theorem dX4_takeOver_55 : decode cX4_takeOver 55 = .ok (.iload 4, 2) := by decide +kernel
theorem dX4_takeOver_57 : decode cX4_takeOver 57 = .ok (.iadd, 1) := by decide +kernel
theorem dX4_takeOver_58 : decode cX4_takeOver 58 = .ok (.aload_n 1, 1) := by decide +kernel
theorem dX4_takeOver_59 : decode cX4_takeOver 59 = .ok (.aload_n 2, 1) := by decide +kernel
theorem dX4_takeOver_60 : decode cX4_takeOver 60 = .ok (.iload_n 3, 1) := by decide +kernel
theorem dX4_takeOver_61 : decode cX4_takeOver 61 = .ok (.iload 4, 2) := by decide +kernel
theorem dX4_takeOver_63 : decode cX4_takeOver 63 = .ok (.invokevirtual 58, 3) := by decide +kernel
theorem dX4_takeOver_66 : decode cX4_takeOver 66 = .ok (.iastore, 1) := by decide +kernel
theorem dX4_takeOver_67 : decode cX4_takeOver 67 = .ok (.iinc 4 1, 3) := by decide +kernel
theorem dX4_takeOver_70 : decode cX4_takeOver 70 = .ok (.goto (-32), 3) := by decide +kernel
theorem dX4_takeOver_73 : decode cX4_takeOver 73 = .ok (.iinc 3 1, 3) := by decide +kernel
theorem dX4_takeOver_76 : decode cX4_takeOver 76 = .ok (.goto (-49), 3) := by decide +kernel
theorem dX4_takeOver_79 : decode cX4_takeOver 79 = .ok (.return_, 1) := by decide +kernel
set_option maxRecDepth 20000 in
theorem ggX4_fill_X7_bitOf : GoodIn wsX4_fill wsX7_bitOf := goodIn_r _ [12] (by decide +kernel) (by decide +kernel)
set_option maxRecDepth 20000 in
theorem gX4_fill_X7_bitOf_n65 : GoodIn wsX4_fill (wsX7_bitOf) := ggX4_fill_X7_bitOf
set_option maxRecDepth 20000 in
theorem ggX4_fill_X4_leastBehind : GoodIn wsX4_fill wsX4_leastBehind := goodIn_r _ [17, 1, 2, 18, 4, 5, 6, 7, 8, 19, 20, 21, 22, 23, 24, 25] (by decide +kernel) (by decide +kernel)
set_option maxRecDepth 20000 in
theorem gX4_fill_X4_leastBehind : GoodIn wsX4_fill (wsV RX4 69 RX4 yX4_leastBehind wsX4_leastBehind) := goodIn_app (goodIn_of _ (by decide +kernel)) ggX4_fill_X4_leastBehind
theorem dX4_fill_0 : decode cX4_fill 0 = .ok (.ldc 64, 2) := by decide +kernel
theorem dX4_fill_2 : decode cX4_fill 2 = .ok (.istore_n 2, 1) := by decide +kernel
theorem dX4_fill_3 : decode cX4_fill 3 = .ok (.iconst 0, 1) := by decide +kernel
theorem dX4_fill_4 : decode cX4_fill 4 = .ok (.istore_n 3, 1) := by decide +kernel
theorem dX4_fill_5 : decode cX4_fill 5 = .ok (.iload_n 3, 1) := by decide +kernel
theorem dX4_fill_6 : decode cX4_fill 6 = .ok (.aload_n 0, 1) := by decide +kernel
theorem dX4_fill_7 : decode cX4_fill 7 = .ok (.getfield 9, 3) := by decide +kernel
theorem dX4_fill_10 : decode cX4_fill 10 = .ok (.if_icmp .ge 60, 3) := by decide +kernel
theorem dX4_fill_13 : decode cX4_fill 13 = .ok (.iload_n 1, 1) := by decide +kernel
theorem dX4_fill_14 : decode cX4_fill 14 = .ok (.iload_n 3, 1) := by decide +kernel
theorem dX4_fill_15 : decode cX4_fill 15 = .ok (.invokestatic 65, 3) := by decide +kernel
theorem dX4_fill_18 : decode cX4_fill 18 = .ok (.iand, 1) := by decide +kernel
theorem dX4_fill_19 : decode cX4_fill 19 = .ok (.ifCond .eq 45, 3) := by decide +kernel
theorem dX4_fill_22 : decode cX4_fill 22 = .ok (.aload_n 0, 1) := by decide +kernel
theorem dX4_fill_23 : decode cX4_fill 23 = .ok (.getfield 15, 3) := by decide +kernel
theorem dX4_fill_26 : decode cX4_fill 26 = .ok (.iload_n 3, 1) := by decide +kernel
theorem dX4_fill_27 : decode cX4_fill 27 = .ok (.iconst 1, 1) := by decide +kernel
theorem dX4_fill_28 : decode cX4_fill 28 = .ok (.ishr, 1) := by decide +kernel
theorem dX4_fill_29 : decode cX4_fill 29 = .ok (.iaload, 1) := by decide +kernel
theorem dX4_fill_30 : decode cX4_fill 30 = .ok (.aload_n 0, 1) := by decide +kernel
theorem dX4_fill_31 : decode cX4_fill 31 = .ok (.iload_n 3, 1) := by decide +kernel
theorem dX4_fill_32 : decode cX4_fill 32 = .ok (.iload_n 1, 1) := by decide +kernel
theorem dX4_fill_33 : decode cX4_fill 33 = .ok (.iload_n 3, 1) := by decide +kernel
theorem dX4_fill_34 : decode cX4_fill 34 = .ok (.invokestatic 65, 3) := by decide +kernel
theorem dX4_fill_37 : decode cX4_fill 37 = .ok (.ixor, 1) := by decide +kernel
theorem dX4_fill_38 : decode cX4_fill 38 = .ok (.invokevirtual 69, 3) := by decide +kernel
theorem dX4_fill_41 : decode cX4_fill 41 = .ok (.iadd, 1) := by decide +kernel
theorem dX4_fill_42 : decode cX4_fill 42 = .ok (.istore 4, 2) := by decide +kernel
theorem dX4_fill_44 : decode cX4_fill 44 = .ok (.aload_n 0, 1) := by decide +kernel
theorem dX4_fill_45 : decode cX4_fill 45 = .ok (.getfield 22, 3) := by decide +kernel
theorem dX4_fill_48 : decode cX4_fill 48 = .ok (.iload_n 1, 1) := by decide +kernel
theorem dX4_fill_49 : decode cX4_fill 49 = .ok (.bipush 18, 2) := by decide +kernel
theorem dX4_fill_51 : decode cX4_fill 51 = .ok (.imul, 1) := by decide +kernel
theorem dX4_fill_52 : decode cX4_fill 52 = .ok (.iload_n 3, 1) := by decide +kernel
theorem dX4_fill_53 : decode cX4_fill 53 = .ok (.iadd, 1) := by decide +kernel
theorem dX4_fill_54 : decode cX4_fill 54 = .ok (.iload 4, 2) := by decide +kernel
theorem dX4_fill_56 : decode cX4_fill 56 = .ok (.iastore, 1) := by decide +kernel
theorem dX4_fill_57 : decode cX4_fill 57 = .ok (.iload_n 2, 1) := by decide +kernel
theorem dX4_fill_58 : decode cX4_fill 58 = .ok (.iload 4, 2) := by decide +kernel
theorem dX4_fill_60 : decode cX4_fill 60 = .ok (.invokestatic 73, 3) := by decide +kernel
theorem dX4_fill_63 : decode cX4_fill 63 = .ok (.istore_n 2, 1) := by decide +kernel
theorem dX4_fill_64 : decode cX4_fill 64 = .ok (.iinc 3 1, 3) := by decide +kernel
theorem dX4_fill_67 : decode cX4_fill 67 = .ok (.goto (-62), 3) := by decide +kernel
theorem dX4_fill_70 : decode cX4_fill 70 = .ok (.aload_n 0, 1) := by decide +kernel
theorem dX4_fill_71 : decode cX4_fill 71 = .ok (.getfield 25, 3) := by decide +kernel
theorem dX4_fill_74 : decode cX4_fill 74 = .ok (.iload_n 1, 1) := by decide +kernel
theorem dX4_fill_75 : decode cX4_fill 75 = .ok (.iload_n 2, 1) := by decide +kernel
theorem dX4_fill_76 : decode cX4_fill 76 = .ok (.iastore, 1) := by decide +kernel
theorem dX4_fill_77 : decode cX4_fill 77 = .ok (.return_, 1) := by decide +kernel
theorem dX4_leastBehind_0 : decode cX4_leastBehind 0 = .ok (.iload_n 2, 1) := by decide +kernel
theorem dX4_leastBehind_1 : decode cX4_leastBehind 1 = .ok (.ifCond .ne 5, 3) := by decide +kernel
theorem dX4_leastBehind_4 : decode cX4_leastBehind 4 = .ok (.iconst 0, 1) := by decide +kernel
theorem dX4_leastBehind_5 : decode cX4_leastBehind 5 = .ok (.ireturn, 1) := by decide +kernel
theorem dX4_leastBehind_6 : decode cX4_leastBehind 6 = .ok (.ldc 64, 2) := by decide +kernel
theorem dX4_leastBehind_8 : decode cX4_leastBehind 8 = .ok (.istore_n 3, 1) := by decide +kernel
theorem dX4_leastBehind_9 : decode cX4_leastBehind 9 = .ok (.iload_n 1, 1) := by decide +kernel
theorem dX4_leastBehind_10 : decode cX4_leastBehind 10 = .ok (.bipush 18, 2) := by decide +kernel
theorem dX4_leastBehind_12 : decode cX4_leastBehind 12 = .ok (.imul, 1) := by decide +kernel
theorem dX4_leastBehind_13 : decode cX4_leastBehind 13 = .ok (.istore 4, 2) := by decide +kernel
theorem dX4_leastBehind_15 : decode cX4_leastBehind 15 = .ok (.iload_n 2, 1) := by decide +kernel
theorem dX4_leastBehind_16 : decode cX4_leastBehind 16 = .ok (.bipush 18, 2) := by decide +kernel
theorem dX4_leastBehind_18 : decode cX4_leastBehind 18 = .ok (.imul, 1) := by decide +kernel
theorem dX4_leastBehind_19 : decode cX4_leastBehind 19 = .ok (.istore 5, 2) := by decide +kernel
theorem dX4_leastBehind_21 : decode cX4_leastBehind 21 = .ok (.iconst 0, 1) := by decide +kernel
theorem dX4_leastBehind_22 : decode cX4_leastBehind 22 = .ok (.istore 6, 2) := by decide +kernel
theorem dX4_leastBehind_24 : decode cX4_leastBehind 24 = .ok (.iload 6, 2) := by decide +kernel
theorem dX4_leastBehind_26 : decode cX4_leastBehind 26 = .ok (.aload_n 0, 1) := by decide +kernel
theorem dX4_leastBehind_27 : decode cX4_leastBehind 27 = .ok (.getfield 9, 3) := by decide +kernel
theorem dX4_leastBehind_30 : decode cX4_leastBehind 30 = .ok (.if_icmp .ge 82, 3) := by decide +kernel
theorem dX4_leastBehind_33 : decode cX4_leastBehind 33 = .ok (.iload_n 2, 1) := by decide +kernel
theorem dX4_leastBehind_34 : decode cX4_leastBehind 34 = .ok (.iload 6, 2) := by decide +kernel
theorem dX4_leastBehind_36 : decode cX4_leastBehind 36 = .ok (.iconst 1, 1) := by decide +kernel
theorem dX4_leastBehind_37 : decode cX4_leastBehind 37 = .ok (.ishr, 1) := by decide +kernel
theorem dX4_leastBehind_38 : decode cX4_leastBehind 38 = .ok (.ishr, 1) := by decide +kernel
theorem dX4_leastBehind_39 : decode cX4_leastBehind 39 = .ok (.iconst 1, 1) := by decide +kernel
theorem dX4_leastBehind_40 : decode cX4_leastBehind 40 = .ok (.iand, 1) := by decide +kernel
theorem dX4_leastBehind_41 : decode cX4_leastBehind 41 = .ok (.ifCond .eq 65, 3) := by decide +kernel
theorem dX4_leastBehind_44 : decode cX4_leastBehind 44 = .ok (.aload_n 0, 1) := by decide +kernel
theorem dX4_leastBehind_45 : decode cX4_leastBehind 45 = .ok (.getfield 19, 3) := by decide +kernel
theorem dX4_leastBehind_48 : decode cX4_leastBehind 48 = .ok (.iload 4, 2) := by decide +kernel
theorem dX4_leastBehind_50 : decode cX4_leastBehind 50 = .ok (.iload 6, 2) := by decide +kernel
theorem dX4_leastBehind_52 : decode cX4_leastBehind 52 = .ok (.iadd, 1) := by decide +kernel
theorem dX4_leastBehind_53 : decode cX4_leastBehind 53 = .ok (.iaload, 1) := by decide +kernel
theorem dX4_leastBehind_54 : decode cX4_leastBehind 54 = .ok (.aload_n 0, 1) := by decide +kernel
theorem dX4_leastBehind_55 : decode cX4_leastBehind 55 = .ok (.getfield 22, 3) := by decide +kernel
theorem dX4_leastBehind_58 : decode cX4_leastBehind 58 = .ok (.iload 5, 2) := by decide +kernel
theorem dX4_leastBehind_60 : decode cX4_leastBehind 60 = .ok (.iload 6, 2) := by decide +kernel
theorem dX4_leastBehind_62 : decode cX4_leastBehind 62 = .ok (.iadd, 1) := by decide +kernel
theorem dX4_leastBehind_63 : decode cX4_leastBehind 63 = .ok (.iaload, 1) := by decide +kernel
theorem dX4_leastBehind_64 : decode cX4_leastBehind 64 = .ok (.iadd, 1) := by decide +kernel
theorem dX4_leastBehind_65 : decode cX4_leastBehind 65 = .ok (.istore 7, 2) := by decide +kernel
theorem dX4_leastBehind_67 : decode cX4_leastBehind 67 = .ok (.aload_n 0, 1) := by decide +kernel
theorem dX4_leastBehind_68 : decode cX4_leastBehind 68 = .ok (.getfield 19, 3) := by decide +kernel
theorem dX4_leastBehind_71 : decode cX4_leastBehind 71 = .ok (.iload 4, 2) := by decide +kernel
theorem dX4_leastBehind_73 : decode cX4_leastBehind 73 = .ok (.iload 6, 2) := by decide +kernel
theorem dX4_leastBehind_75 : decode cX4_leastBehind 75 = .ok (.iadd, 1) := by decide +kernel
theorem dX4_leastBehind_76 : decode cX4_leastBehind 76 = .ok (.iconst 1, 1) := by decide +kernel
theorem dX4_leastBehind_77 : decode cX4_leastBehind 77 = .ok (.iadd, 1) := by decide +kernel
theorem dX4_leastBehind_78 : decode cX4_leastBehind 78 = .ok (.iaload, 1) := by decide +kernel
theorem dX4_leastBehind_79 : decode cX4_leastBehind 79 = .ok (.aload_n 0, 1) := by decide +kernel
theorem dX4_leastBehind_80 : decode cX4_leastBehind 80 = .ok (.getfield 22, 3) := by decide +kernel
theorem dX4_leastBehind_83 : decode cX4_leastBehind 83 = .ok (.iload 5, 2) := by decide +kernel
theorem dX4_leastBehind_85 : decode cX4_leastBehind 85 = .ok (.iload 6, 2) := by decide +kernel
theorem dX4_leastBehind_87 : decode cX4_leastBehind 87 = .ok (.iadd, 1) := by decide +kernel
theorem dX4_leastBehind_88 : decode cX4_leastBehind 88 = .ok (.iconst 1, 1) := by decide +kernel
theorem dX4_leastBehind_89 : decode cX4_leastBehind 89 = .ok (.iadd, 1) := by decide +kernel
theorem dX4_leastBehind_90 : decode cX4_leastBehind 90 = .ok (.iaload, 1) := by decide +kernel
theorem dX4_leastBehind_91 : decode cX4_leastBehind 91 = .ok (.iadd, 1) := by decide +kernel
theorem dX4_leastBehind_92 : decode cX4_leastBehind 92 = .ok (.istore 8, 2) := by decide +kernel
theorem dX4_leastBehind_94 : decode cX4_leastBehind 94 = .ok (.iload_n 3, 1) := by decide +kernel
theorem dX4_leastBehind_95 : decode cX4_leastBehind 95 = .ok (.iload 7, 2) := by decide +kernel
theorem dX4_leastBehind_97 : decode cX4_leastBehind 97 = .ok (.iload 8, 2) := by decide +kernel
theorem dX4_leastBehind_99 : decode cX4_leastBehind 99 = .ok (.invokestatic 73, 3) := by decide +kernel
theorem dX4_leastBehind_102 : decode cX4_leastBehind 102 = .ok (.invokestatic 73, 3) := by decide +kernel
theorem dX4_leastBehind_105 : decode cX4_leastBehind 105 = .ok (.istore_n 3, 1) := by decide +kernel
theorem dX4_leastBehind_106 : decode cX4_leastBehind 106 = .ok (.iinc 6 2, 3) := by decide +kernel
theorem dX4_leastBehind_109 : decode cX4_leastBehind 109 = .ok (.goto (-85), 3) := by decide +kernel
theorem dX4_leastBehind_112 : decode cX4_leastBehind 112 = .ok (.iload_n 3, 1) := by decide +kernel
theorem dX4_leastBehind_113 : decode cX4_leastBehind 113 = .ok (.ireturn, 1) := by decide +kernel
theorem dX4_costOf_0 : decode cX4_costOf 0 = .ok (.aload_n 0, 1) := by decide +kernel
theorem dX4_costOf_1 : decode cX4_costOf 1 = .ok (.getfield 25, 3) := by decide +kernel
theorem dX4_costOf_4 : decode cX4_costOf 4 = .ok (.iload_n 1, 1) := by decide +kernel
theorem dX4_costOf_5 : decode cX4_costOf 5 = .ok (.iaload, 1) := by decide +kernel
theorem dX4_costOf_6 : decode cX4_costOf 6 = .ok (.ireturn, 1) := by decide +kernel
set_option maxRecDepth 20000 in
theorem ggX4_stepOf_X4_trace : GoodIn wsX4_stepOf wsX4_trace := goodIn_r _ [6, 7, 8, 9, 1, 10, 11, 12, 5, 13, 14, 15, 16, 17, 18, 19, 20, 21, 22, 23, 24, 25] (by decide +kernel) (by decide +kernel)
set_option maxRecDepth 20000 in
theorem gX4_stepOf_X4_trace : GoodIn wsX4_stepOf (wsV RX4 78 RX4 yX4_trace wsX4_trace) := goodIn_app (goodIn_of _ (by decide +kernel)) ggX4_stepOf_X4_trace
theorem dX4_stepOf_0 : decode cX4_stepOf 0 = .ok (.aload_n 0, 1) := by decide +kernel
theorem dX4_stepOf_1 : decode cX4_stepOf 1 = .ok (.iload_n 1, 1) := by decide +kernel
theorem dX4_stepOf_2 : decode cX4_stepOf 2 = .ok (.invokevirtual 78, 3) := by decide +kernel
theorem dX4_stepOf_5 : decode cX4_stepOf 5 = .ok (.istore_n 3, 1) := by decide +kernel
theorem dX4_stepOf_6 : decode cX4_stepOf 6 = .ok (.iload_n 2, 1) := by decide +kernel
theorem dX4_stepOf_7 : decode cX4_stepOf 7 = .ok (.ifCond .lt 8, 3) := by decide +kernel
theorem dX4_stepOf_10 : decode cX4_stepOf 10 = .ok (.iload_n 2, 1) := by decide +kernel
theorem dX4_stepOf_11 : decode cX4_stepOf 11 = .ok (.iload_n 3, 1) := by decide +kernel
theorem dX4_stepOf_12 : decode cX4_stepOf 12 = .ok (.if_icmp .lt 7, 3) := by decide +kernel
theorem dX4_stepOf_15 : decode cX4_stepOf 15 = .ok (.iconst (-1), 1) := by decide +kernel
theorem dX4_stepOf_16 : decode cX4_stepOf 16 = .ok (.goto 9, 3) := by decide +kernel
theorem dX4_stepOf_19 : decode cX4_stepOf 19 = .ok (.aload_n 0, 1) := by decide +kernel
theorem dX4_stepOf_20 : decode cX4_stepOf 20 = .ok (.getfield 28, 3) := by decide +kernel
theorem dX4_stepOf_23 : decode cX4_stepOf 23 = .ok (.iload_n 2, 1) := by decide +kernel
theorem dX4_stepOf_24 : decode cX4_stepOf 24 = .ok (.iaload, 1) := by decide +kernel
theorem dX4_stepOf_25 : decode cX4_stepOf 25 = .ok (.ireturn, 1) := by decide +kernel
set_option maxRecDepth 20000 in
theorem ggX4_jumpsOf_X4_trace : GoodIn wsX4_jumpsOf wsX4_trace := goodIn_r _ [7, 8, 9, 10, 2, 11, 12, 13, 6, 14, 15, 1, 16, 17, 18, 21, 22, 23, 24, 25, 26, 27] (by decide +kernel) (by decide +kernel)
set_option maxRecDepth 20000 in
theorem gX4_jumpsOf_X4_trace : GoodIn wsX4_jumpsOf (wsV RX4 78 RX4 yX4_trace wsX4_trace) := goodIn_app (goodIn_of _ (by decide +kernel)) ggX4_jumpsOf_X4_trace
set_option maxRecDepth 20000 in
theorem ggX4_jumpsOf_X7_lengthOf : GoodIn wsX4_jumpsOf wsX7_lengthOf := goodIn_r _ [20] (by decide +kernel) (by decide +kernel)
set_option maxRecDepth 20000 in
theorem gX4_jumpsOf_X7_lengthOf_n81 : GoodIn wsX4_jumpsOf (wsX7_lengthOf) := ggX4_jumpsOf_X7_lengthOf
theorem dX4_jumpsOf_0 : decode cX4_jumpsOf 0 = .ok (.aload_n 0, 1) := by decide +kernel
theorem dX4_jumpsOf_1 : decode cX4_jumpsOf 1 = .ok (.iload_n 1, 1) := by decide +kernel
theorem dX4_jumpsOf_2 : decode cX4_jumpsOf 2 = .ok (.invokevirtual 78, 3) := by decide +kernel
theorem dX4_jumpsOf_5 : decode cX4_jumpsOf 5 = .ok (.istore_n 2, 1) := by decide +kernel
theorem dX4_jumpsOf_6 : decode cX4_jumpsOf 6 = .ok (.iconst 0, 1) := by decide +kernel
theorem dX4_jumpsOf_7 : decode cX4_jumpsOf 7 = .ok (.istore_n 3, 1) := by decide +kernel
theorem dX4_jumpsOf_8 : decode cX4_jumpsOf 8 = .ok (.iconst 1, 1) := by decide +kernel
theorem dX4_jumpsOf_9 : decode cX4_jumpsOf 9 = .ok (.istore 4, 2) := by decide +kernel
theorem dX4_jumpsOf_11 : decode cX4_jumpsOf 11 = .ok (.iload 4, 2) := by decide +kernel
theorem dX4_jumpsOf_13 : decode cX4_jumpsOf 13 = .ok (.iload_n 2, 1) := by decide +kernel
theorem dX4_jumpsOf_14 : decode cX4_jumpsOf 14 = .ok (.if_icmp .ge 43, 3) := by decide +kernel
theorem dX4_jumpsOf_17 : decode cX4_jumpsOf 17 = .ok (.aload_n 0, 1) := by decide +kernel
theorem dX4_jumpsOf_18 : decode cX4_jumpsOf 18 = .ok (.getfield 19, 3) := by decide +kernel
theorem dX4_jumpsOf_21 : decode cX4_jumpsOf 21 = .ok (.aload_n 0, 1) := by decide +kernel
theorem dX4_jumpsOf_22 : decode cX4_jumpsOf 22 = .ok (.getfield 28, 3) := by decide +kernel
theorem dX4_jumpsOf_25 : decode cX4_jumpsOf 25 = .ok (.iload 4, 2) := by decide +kernel
theorem dX4_jumpsOf_27 : decode cX4_jumpsOf 27 = .ok (.iconst 1, 1) := by decide +kernel
theorem dX4_jumpsOf_28 : decode cX4_jumpsOf 28 = .ok (.isub, 1) := by decide +kernel
theorem dX4_jumpsOf_29 : decode cX4_jumpsOf 29 = .ok (.iaload, 1) := by decide +kernel
theorem dX4_jumpsOf_30 : decode cX4_jumpsOf 30 = .ok (.bipush 18, 2) := by decide +kernel
theorem dX4_jumpsOf_32 : decode cX4_jumpsOf 32 = .ok (.imul, 1) := by decide +kernel
theorem dX4_jumpsOf_33 : decode cX4_jumpsOf 33 = .ok (.aload_n 0, 1) := by decide +kernel
theorem dX4_jumpsOf_34 : decode cX4_jumpsOf 34 = .ok (.getfield 28, 3) := by decide +kernel
theorem dX4_jumpsOf_37 : decode cX4_jumpsOf 37 = .ok (.iload 4, 2) := by decide +kernel
theorem dX4_jumpsOf_39 : decode cX4_jumpsOf 39 = .ok (.iaload, 1) := by decide +kernel
theorem dX4_jumpsOf_40 : decode cX4_jumpsOf 40 = .ok (.iadd, 1) := by decide +kernel
theorem dX4_jumpsOf_41 : decode cX4_jumpsOf 41 = .ok (.iaload, 1) := by decide +kernel
theorem dX4_jumpsOf_42 : decode cX4_jumpsOf 42 = .ok (.invokestatic 81, 3) := by decide +kernel
theorem dX4_jumpsOf_45 : decode cX4_jumpsOf 45 = .ok (.ifCond .le 6, 3) := by decide +kernel
theorem dX4_jumpsOf_48 : decode cX4_jumpsOf 48 = .ok (.iinc 3 1, 3) := by decide +kernel
theorem dX4_jumpsOf_51 : decode cX4_jumpsOf 51 = .ok (.iinc 4 1, 3) := by decide +kernel
theorem dX4_jumpsOf_54 : decode cX4_jumpsOf 54 = .ok (.goto (-43), 3) := by decide +kernel
theorem dX4_jumpsOf_57 : decode cX4_jumpsOf 57 = .ok (.iload_n 3, 1) := by decide +kernel
theorem dX4_jumpsOf_58 : decode cX4_jumpsOf 58 = .ok (.ireturn, 1) := by decide +kernel
set_option maxRecDepth 20000 in
theorem ggX4_trace_X4_firstStep : GoodIn wsX4_trace wsX4_firstStep := goodIn_r _ [9, 10, 11, 2, 12, 13, 14, 15, 16, 17, 18, 19, 20, 21] (by decide +kernel) (by decide +kernel)
set_option maxRecDepth 20000 in
theorem gX4_trace_X4_firstStep : GoodIn wsX4_trace (wsV RX4 84 RX4 yX4_firstStep wsX4_firstStep) := goodIn_app (goodIn_of _ (by decide +kernel)) ggX4_trace_X4_firstStep
set_option maxRecDepth 20000 in
theorem ggX4_trace_X7_bitOf : GoodIn wsX4_trace wsX7_bitOf := goodIn_r _ [14] (by decide +kernel) (by decide +kernel)
set_option maxRecDepth 20000 in
theorem gX4_trace_X7_bitOf_n65 : GoodIn wsX4_trace (wsX7_bitOf) := ggX4_trace_X7_bitOf
theorem dX4_trace_0 : decode cX4_trace 0 = .ok (.iload_n 1, 1) := by decide +kernel
theorem dX4_trace_1 : decode cX4_trace 1 = .ok (.istore_n 2, 1) := by decide +kernel
theorem dX4_trace_2 : decode cX4_trace 2 = .ok (.aload_n 0, 1) := by decide +kernel
theorem dX4_trace_3 : decode cX4_trace 3 = .ok (.getfield 25, 3) := by decide +kernel
theorem dX4_trace_6 : decode cX4_trace 6 = .ok (.iload_n 1, 1) := by decide +kernel
theorem dX4_trace_7 : decode cX4_trace 7 = .ok (.iaload, 1) := by decide +kernel
theorem dX4_trace_8 : decode cX4_trace 8 = .ok (.istore_n 3, 1) := by decide +kernel
theorem dX4_trace_9 : decode cX4_trace 9 = .ok (.iconst (-1), 1) := by decide +kernel
theorem dX4_trace_10 : decode cX4_trace 10 = .ok (.istore 4, 2) := by decide +kernel
theorem dX4_trace_12 : decode cX4_trace 12 = .ok (.iconst 0, 1) := by decide +kernel
theorem dX4_trace_13 : decode cX4_trace 13 = .ok (.istore 5, 2) := by decide +kernel
theorem dX4_trace_15 : decode cX4_trace 15 = .ok (.iload 5, 2) := by decide +kernel
theorem dX4_trace_17 : decode cX4_trace 17 = .ok (.bipush 9, 2) := by decide +kernel
theorem dX4_trace_19 : decode cX4_trace 19 = .ok (.if_icmp .ge 80, 3) := by decide +kernel
theorem dX4_trace_22 : decode cX4_trace 22 = .ok (.iload_n 2, 1) := by decide +kernel
theorem dX4_trace_23 : decode cX4_trace 23 = .ok (.ifCond .ne 7, 3) := by decide +kernel
theorem dX4_trace_26 : decode cX4_trace 26 = .ok (.iconst (-1), 1) := by decide +kernel
theorem dX4_trace_27 : decode cX4_trace 27 = .ok (.goto 11, 3) := by decide +kernel
theorem dX4_trace_30 : decode cX4_trace 30 = .ok (.aload_n 0, 1) := by decide +kernel
theorem dX4_trace_31 : decode cX4_trace 31 = .ok (.iload 4, 2) := by decide +kernel
theorem dX4_trace_33 : decode cX4_trace 33 = .ok (.iload_n 2, 1) := by decide +kernel
theorem dX4_trace_34 : decode cX4_trace 34 = .ok (.iload_n 3, 1) := by decide +kernel
theorem dX4_trace_35 : decode cX4_trace 35 = .ok (.invokevirtual 84, 3) := by decide +kernel
theorem dX4_trace_38 : decode cX4_trace 38 = .ok (.istore 6, 2) := by decide +kernel
theorem dX4_trace_40 : decode cX4_trace 40 = .ok (.iload 6, 2) := by decide +kernel
theorem dX4_trace_42 : decode cX4_trace 42 = .ok (.iconst (-1), 1) := by decide +kernel
theorem dX4_trace_43 : decode cX4_trace 43 = .ok (.if_icmp .ne 6, 3) := by decide +kernel
theorem dX4_trace_46 : decode cX4_trace 46 = .ok (.iload 5, 2) := by decide +kernel
theorem dX4_trace_48 : decode cX4_trace 48 = .ok (.ireturn, 1) := by decide +kernel
theorem dX4_trace_49 : decode cX4_trace 49 = .ok (.aload_n 0, 1) := by decide +kernel
theorem dX4_trace_50 : decode cX4_trace 50 = .ok (.getfield 22, 3) := by decide +kernel
theorem dX4_trace_53 : decode cX4_trace 53 = .ok (.iload_n 2, 1) := by decide +kernel
theorem dX4_trace_54 : decode cX4_trace 54 = .ok (.bipush 18, 2) := by decide +kernel
theorem dX4_trace_56 : decode cX4_trace 56 = .ok (.imul, 1) := by decide +kernel
theorem dX4_trace_57 : decode cX4_trace 57 = .ok (.iload 6, 2) := by decide +kernel
theorem dX4_trace_59 : decode cX4_trace 59 = .ok (.iadd, 1) := by decide +kernel
theorem dX4_trace_60 : decode cX4_trace 60 = .ok (.iaload, 1) := by decide +kernel
theorem dX4_trace_61 : decode cX4_trace 61 = .ok (.aload_n 0, 1) := by decide +kernel
theorem dX4_trace_62 : decode cX4_trace 62 = .ok (.getfield 15, 3) := by decide +kernel
theorem dX4_trace_65 : decode cX4_trace 65 = .ok (.iload 6, 2) := by decide +kernel
theorem dX4_trace_67 : decode cX4_trace 67 = .ok (.iconst 1, 1) := by decide +kernel
theorem dX4_trace_68 : decode cX4_trace 68 = .ok (.ishr, 1) := by decide +kernel
theorem dX4_trace_69 : decode cX4_trace 69 = .ok (.iaload, 1) := by decide +kernel
theorem dX4_trace_70 : decode cX4_trace 70 = .ok (.isub, 1) := by decide +kernel
theorem dX4_trace_71 : decode cX4_trace 71 = .ok (.istore_n 3, 1) := by decide +kernel
theorem dX4_trace_72 : decode cX4_trace 72 = .ok (.iload_n 2, 1) := by decide +kernel
theorem dX4_trace_73 : decode cX4_trace 73 = .ok (.iload 6, 2) := by decide +kernel
theorem dX4_trace_75 : decode cX4_trace 75 = .ok (.invokestatic 65, 3) := by decide +kernel
theorem dX4_trace_78 : decode cX4_trace 78 = .ok (.ixor, 1) := by decide +kernel
theorem dX4_trace_79 : decode cX4_trace 79 = .ok (.istore_n 2, 1) := by decide +kernel
theorem dX4_trace_80 : decode cX4_trace 80 = .ok (.aload_n 0, 1) := by decide +kernel
theorem dX4_trace_81 : decode cX4_trace 81 = .ok (.getfield 28, 3) := by decide +kernel
theorem dX4_trace_84 : decode cX4_trace 84 = .ok (.iload 5, 2) := by decide +kernel
theorem dX4_trace_86 : decode cX4_trace 86 = .ok (.iload 6, 2) := by decide +kernel
theorem dX4_trace_88 : decode cX4_trace 88 = .ok (.iastore, 1) := by decide +kernel
theorem dX4_trace_89 : decode cX4_trace 89 = .ok (.iload 6, 2) := by decide +kernel
theorem dX4_trace_91 : decode cX4_trace 91 = .ok (.istore 4, 2) := by decide +kernel
theorem dX4_trace_93 : decode cX4_trace 93 = .ok (.iinc 5 1, 3) := by decide +kernel
theorem dX4_trace_96 : decode cX4_trace 96 = .ok (.goto (-81), 3) := by decide +kernel
theorem dX4_trace_99 : decode cX4_trace 99 = .ok (.bipush 9, 2) := by decide +kernel
theorem dX4_trace_101 : decode cX4_trace 101 = .ok (.ireturn, 1) := by decide +kernel
set_option maxRecDepth 20000 in
theorem ggX4_firstStep_X7_bitOf : GoodIn wsX4_firstStep wsX7_bitOf := goodIn_r _ [6] (by decide +kernel) (by decide +kernel)
set_option maxRecDepth 20000 in
theorem gX4_firstStep_X7_bitOf_n65 : GoodIn wsX4_firstStep (wsX7_bitOf) := ggX4_firstStep_X7_bitOf
theorem dX4_firstStep_0 : decode cX4_firstStep 0 = .ok (.iconst 0, 1) := by decide +kernel
theorem dX4_firstStep_1 : decode cX4_firstStep 1 = .ok (.istore 4, 2) := by decide +kernel
theorem dX4_firstStep_3 : decode cX4_firstStep 3 = .ok (.iload 4, 2) := by decide +kernel
theorem dX4_firstStep_5 : decode cX4_firstStep 5 = .ok (.aload_n 0, 1) := by decide +kernel
theorem dX4_firstStep_6 : decode cX4_firstStep 6 = .ok (.getfield 9, 3) := by decide +kernel
theorem dX4_firstStep_9 : decode cX4_firstStep 9 = .ok (.if_icmp .ge 64, 3) := by decide +kernel
theorem dX4_firstStep_12 : decode cX4_firstStep 12 = .ok (.iload_n 2, 1) := by decide +kernel
theorem dX4_firstStep_13 : decode cX4_firstStep 13 = .ok (.iload 4, 2) := by decide +kernel
theorem dX4_firstStep_15 : decode cX4_firstStep 15 = .ok (.invokestatic 65, 3) := by decide +kernel
theorem dX4_firstStep_18 : decode cX4_firstStep 18 = .ok (.iand, 1) := by decide +kernel
theorem dX4_firstStep_19 : decode cX4_firstStep 19 = .ok (.ifCond .eq 48, 3) := by decide +kernel
theorem dX4_firstStep_22 : decode cX4_firstStep 22 = .ok (.iload_n 1, 1) := by decide +kernel
theorem dX4_firstStep_23 : decode cX4_firstStep 23 = .ok (.iconst (-1), 1) := by decide +kernel
theorem dX4_firstStep_24 : decode cX4_firstStep 24 = .ok (.if_icmp .ne 7, 3) := by decide +kernel
theorem dX4_firstStep_27 : decode cX4_firstStep 27 = .ok (.iconst 0, 1) := by decide +kernel
theorem dX4_firstStep_28 : decode cX4_firstStep 28 = .ok (.goto 15, 3) := by decide +kernel
theorem dX4_firstStep_31 : decode cX4_firstStep 31 = .ok (.aload_n 0, 1) := by decide +kernel
theorem dX4_firstStep_32 : decode cX4_firstStep 32 = .ok (.getfield 19, 3) := by decide +kernel
theorem dX4_firstStep_35 : decode cX4_firstStep 35 = .ok (.iload_n 1, 1) := by decide +kernel
theorem dX4_firstStep_36 : decode cX4_firstStep 36 = .ok (.bipush 18, 2) := by decide +kernel
theorem dX4_firstStep_38 : decode cX4_firstStep 38 = .ok (.imul, 1) := by decide +kernel
theorem dX4_firstStep_39 : decode cX4_firstStep 39 = .ok (.iload 4, 2) := by decide +kernel
theorem dX4_firstStep_41 : decode cX4_firstStep 41 = .ok (.iadd, 1) := by decide +kernel
theorem dX4_firstStep_42 : decode cX4_firstStep 42 = .ok (.iaload, 1) := by decide +kernel
theorem dX4_firstStep_43 : decode cX4_firstStep 43 = .ok (.istore 5, 2) := by decide +kernel
theorem dX4_firstStep_45 : decode cX4_firstStep 45 = .ok (.iload 5, 2) := by decide +kernel
theorem dX4_firstStep_47 : decode cX4_firstStep 47 = .ok (.aload_n 0, 1) := by decide +kernel
theorem dX4_firstStep_48 : decode cX4_firstStep 48 = .ok (.getfield 22, 3) := by decide +kernel
theorem dX4_firstStep_51 : decode cX4_firstStep 51 = .ok (.iload_n 2, 1) := by decide +kernel
theorem dX4_firstStep_52 : decode cX4_firstStep 52 = .ok (.bipush 18, 2) := by decide +kernel
theorem dX4_firstStep_54 : decode cX4_firstStep 54 = .ok (.imul, 1) := by decide +kernel
theorem dX4_firstStep_55 : decode cX4_firstStep 55 = .ok (.iload 4, 2) := by decide +kernel
theorem dX4_firstStep_57 : decode cX4_firstStep 57 = .ok (.iadd, 1) := by decide +kernel
theorem dX4_firstStep_58 : decode cX4_firstStep 58 = .ok (.iaload, 1) := by decide +kernel
theorem dX4_firstStep_59 : decode cX4_firstStep 59 = .ok (.iadd, 1) := by decide +kernel
theorem dX4_firstStep_60 : decode cX4_firstStep 60 = .ok (.iload_n 3, 1) := by decide +kernel
theorem dX4_firstStep_61 : decode cX4_firstStep 61 = .ok (.if_icmp .ne 6, 3) := by decide +kernel
theorem dX4_firstStep_64 : decode cX4_firstStep 64 = .ok (.iload 4, 2) := by decide +kernel
theorem dX4_firstStep_66 : decode cX4_firstStep 66 = .ok (.ireturn, 1) := by decide +kernel
theorem dX4_firstStep_67 : decode cX4_firstStep 67 = .ok (.iinc 4 1, 3) := by decide +kernel
theorem dX4_firstStep_70 : decode cX4_firstStep 70 = .ok (.goto (-67), 3) := by decide +kernel
theorem dX4_firstStep_73 : decode cX4_firstStep 73 = .ok (.iconst (-1), 1) := by decide +kernel
theorem dX4_firstStep_74 : decode cX4_firstStep 74 = .ok (.ireturn, 1) := by decide +kernel
theorem dX5_init_0 : decode cX5_init 0 = .ok (.aload_n 0, 1) := by decide +kernel
theorem dX5_init_1 : decode cX5_init 1 = .ok (.invokespecial 3, 3) := by decide +kernel
theorem dX5_init_4 : decode cX5_init 4 = .ok (.aload_n 0, 1) := by decide +kernel
theorem dX5_init_5 : decode cX5_init 5 = .ok (.iconst 0, 1) := by decide +kernel
theorem dX5_init_6 : decode cX5_init 6 = .ok (.putfield 9, 3) := by decide +kernel
theorem dX5_init_9 : decode cX5_init 9 = .ok (.aload_n 0, 1) := by decide +kernel
theorem dX5_init_10 : decode cX5_init 10 = .ok (.bipush 18, 2) := by decide +kernel
theorem dX5_init_12 : decode cX5_init 12 = .ok (.newarray .int, 2) := by decide +kernel
theorem dX5_init_14 : decode cX5_init 14 = .ok (.putfield 15, 3) := by decide +kernel
theorem dX5_init_17 : decode cX5_init 17 = .ok (.aload_n 0, 1) := by decide +kernel
theorem dX5_init_18 : decode cX5_init 18 = .ok (.bipush 18, 2) := by decide +kernel
theorem dX5_init_20 : decode cX5_init 20 = .ok (.newarray .int, 2) := by decide +kernel
theorem dX5_init_22 : decode cX5_init 22 = .ok (.putfield 19, 3) := by decide +kernel
theorem dX5_init_25 : decode cX5_init 25 = .ok (.aload_n 0, 1) := by decide +kernel
theorem dX5_init_26 : decode cX5_init 26 = .ok (.bipush 18, 2) := by decide +kernel
theorem dX5_init_28 : decode cX5_init 28 = .ok (.newarray .int, 2) := by decide +kernel
theorem dX5_init_30 : decode cX5_init 30 = .ok (.putfield 22, 3) := by decide +kernel
theorem dX5_init_33 : decode cX5_init 33 = .ok (.aload_n 0, 1) := by decide +kernel
theorem dX5_init_34 : decode cX5_init 34 = .ok (.bipush 9, 2) := by decide +kernel
theorem dX5_init_36 : decode cX5_init 36 = .ok (.newarray .int, 2) := by decide +kernel
theorem dX5_init_38 : decode cX5_init 38 = .ok (.putfield 25, 3) := by decide +kernel
theorem dX5_init_41 : decode cX5_init 41 = .ok (.return_, 1) := by decide +kernel
theorem dX5_clear_0 : decode cX5_clear 0 = .ok (.aload_n 0, 1) := by decide +kernel
theorem dX5_clear_1 : decode cX5_clear 1 = .ok (.iconst 0, 1) := by decide +kernel
theorem dX5_clear_2 : decode cX5_clear 2 = .ok (.putfield 9, 3) := by decide +kernel
theorem dX5_clear_5 : decode cX5_clear 5 = .ok (.return_, 1) := by decide +kernel
set_option maxRecDepth 20000 in
theorem ggX5_add_X5_onGrid : GoodIn wsX5_add wsX5_onGrid := goodIn_r _ [7] (by decide +kernel) (by decide +kernel)
set_option maxRecDepth 20000 in
theorem gX5_add_X5_onGrid : GoodIn wsX5_add (va_wsS RX5 28 yX5_onGrid wsX5_onGrid) := goodIn_app (goodIn_of _ (by decide +kernel)) ggX5_add_X5_onGrid
set_option maxRecDepth 20000 in
theorem ggX5_add_X5_isStraight : GoodIn wsX5_add wsX5_isStraight := goodIn_r _ [10, 11, 12, 13, 14] (by decide +kernel) (by decide +kernel)
set_option maxRecDepth 20000 in
theorem gX5_add_X5_isStraight : GoodIn wsX5_add (va_wsS RX5 32 yX5_isStraight wsX5_isStraight) := goodIn_app (goodIn_of _ (by decide +kernel)) ggX5_add_X5_isStraight
set_option maxRecDepth 20000 in
theorem ggX5_add_J6_signum_0f7a4 : GoodIn wsX5_add wsJ6_signum_0f7a4 := goodIn_r _ [18] (by decide +kernel) (by decide +kernel)
set_option maxRecDepth 20000 in
theorem gX5_add_J6_signum_0f7a4 : GoodIn wsX5_add (va_wsS RX5 38 yJ6_signum_0f7a4 wsJ6_signum_0f7a4) := goodIn_app (goodIn_of _ (by decide +kernel)) ggX5_add_J6_signum_0f7a4
set_option maxRecDepth 20000 in
theorem ggX5_add_X5_setStep : GoodIn wsX5_add wsX5_setStep := goodIn_r _ [22, 23, 24, 25, 36, 37, 38, 39, 40] (by decide +kernel) (by decide +kernel)
set_option maxRecDepth 20000 in
theorem gX5_add_X5_setStep : GoodIn wsX5_add (wsV RX5 44 RX5 yX5_setStep wsX5_setStep) := goodIn_app (goodIn_of _ (by decide +kernel)) ggX5_add_X5_setStep
set_option maxRecDepth 20000 in
theorem ggX5_add_X7_distance : GoodIn wsX5_add wsX7_distance := goodIn_r _ [28, 29, 12, 13, 14, 30, 31, 32, 33, 34, 35] (by decide +kernel) (by decide +kernel)
set_option maxRecDepth 20000 in
theorem gX5_add_X7_distance_n48 : GoodIn wsX5_add (wsX7_distance) := ggX5_add_X7_distance
theorem dX5_add_0 : decode cX5_add 0 = .ok (.aload_n 0, 1) := by decide +kernel
theorem dX5_add_1 : decode cX5_add 1 = .ok (.getfield 9, 3) := by decide +kernel
theorem dX5_add_4 : decode cX5_add 4 = .ok (.bipush 9, 2) := by decide +kernel
theorem dX5_add_6 : decode cX5_add 6 = .ok (.if_icmp .ge 20, 3) := by decide +kernel
theorem dX5_add_9 : decode cX5_add 9 = .ok (.iload_n 1, 1) := by decide +kernel
theorem dX5_add_10 : decode cX5_add 10 = .ok (.iload_n 2, 1) := by decide +kernel
theorem dX5_add_11 : decode cX5_add 11 = .ok (.invokestatic 28, 3) := by decide +kernel
theorem dX5_add_14 : decode cX5_add 14 = .ok (.ifCond .eq 12, 3) := by decide +kernel
theorem dX5_add_17 : decode cX5_add 17 = .ok (.iload_n 3, 1) := by decide +kernel
theorem dX5_add_18 : decode cX5_add 18 = .ok (.iload 4, 2) := by decide +kernel
theorem dX5_add_20 : decode cX5_add 20 = .ok (.invokestatic 28, 3) := by decide +kernel
theorem dX5_add_23 : decode cX5_add 23 = .ok (.ifCond .ne 5, 3) := by decide +kernel
theorem dX5_add_26 : decode cX5_add 26 = .ok (.iconst (-1), 1) := by decide +kernel
theorem dX5_add_27 : decode cX5_add 27 = .ok (.ireturn, 1) := by decide +kernel
theorem dX5_add_28 : decode cX5_add 28 = .ok (.iload_n 3, 1) := by decide +kernel
theorem dX5_add_29 : decode cX5_add 29 = .ok (.iload_n 1, 1) := by decide +kernel
theorem dX5_add_30 : decode cX5_add 30 = .ok (.isub, 1) := by decide +kernel
theorem dX5_add_31 : decode cX5_add 31 = .ok (.istore 5, 2) := by decide +kernel
theorem dX5_add_33 : decode cX5_add 33 = .ok (.iload 4, 2) := by decide +kernel
theorem dX5_add_35 : decode cX5_add 35 = .ok (.iload_n 2, 1) := by decide +kernel
theorem dX5_add_36 : decode cX5_add 36 = .ok (.isub, 1) := by decide +kernel
theorem dX5_add_37 : decode cX5_add 37 = .ok (.istore 6, 2) := by decide +kernel
theorem dX5_add_39 : decode cX5_add 39 = .ok (.iload 5, 2) := by decide +kernel
theorem dX5_add_41 : decode cX5_add 41 = .ok (.iload 6, 2) := by decide +kernel
theorem dX5_add_43 : decode cX5_add 43 = .ok (.invokestatic 32, 3) := by decide +kernel
theorem dX5_add_46 : decode cX5_add 46 = .ok (.ifCond .ne 5, 3) := by decide +kernel
theorem dX5_add_49 : decode cX5_add 49 = .ok (.iconst (-1), 1) := by decide +kernel
theorem dX5_add_50 : decode cX5_add 50 = .ok (.ireturn, 1) := by decide +kernel
theorem dX5_add_51 : decode cX5_add 51 = .ok (.getstatic 35, 3) := by decide +kernel
theorem dX5_add_54 : decode cX5_add 54 = .ok (.iconst 3, 1) := by decide +kernel
theorem dX5_add_55 : decode cX5_add 55 = .ok (.iload 6, 2) := by decide +kernel
theorem dX5_add_57 : decode cX5_add 57 = .ok (.invokestatic 38, 3) := by decide +kernel
theorem dX5_add_60 : decode cX5_add 60 = .ok (.iconst 1, 1) := by decide +kernel
theorem dX5_add_61 : decode cX5_add 61 = .ok (.iadd, 1) := by decide +kernel
theorem dX5_add_62 : decode cX5_add 62 = .ok (.imul, 1) := by decide +kernel
theorem dX5_add_63 : decode cX5_add 63 = .ok (.iload 5, 2) := by decide +kernel
theorem dX5_add_65 : decode cX5_add 65 = .ok (.invokestatic 38, 3) := by decide +kernel
theorem dX5_add_68 : decode cX5_add 68 = .ok (.iadd, 1) := by decide +kernel
theorem dX5_add_69 : decode cX5_add 69 = .ok (.iconst 1, 1) := by decide +kernel
theorem dX5_add_70 : decode cX5_add 70 = .ok (.iadd, 1) := by decide +kernel
theorem dX5_add_71 : decode cX5_add 71 = .ok (.iaload, 1) := by decide +kernel
theorem dX5_add_72 : decode cX5_add 72 = .ok (.istore 7, 2) := by decide +kernel
theorem dX5_add_74 : decode cX5_add 74 = .ok (.aload_n 0, 1) := by decide +kernel
theorem dX5_add_75 : decode cX5_add 75 = .ok (.iconst 2, 1) := by decide +kernel
theorem dX5_add_76 : decode cX5_add 76 = .ok (.aload_n 0, 1) := by decide +kernel
theorem dX5_add_77 : decode cX5_add 77 = .ok (.getfield 9, 3) := by decide +kernel
theorem dX5_add_80 : decode cX5_add 80 = .ok (.imul, 1) := by decide +kernel
theorem dX5_add_81 : decode cX5_add 81 = .ok (.iload_n 1, 1) := by decide +kernel
theorem dX5_add_82 : decode cX5_add 82 = .ok (.iload_n 2, 1) := by decide +kernel
theorem dX5_add_83 : decode cX5_add 83 = .ok (.iload 7, 2) := by decide +kernel
theorem dX5_add_85 : decode cX5_add 85 = .ok (.invokevirtual 44, 3) := by decide +kernel
theorem dX5_add_88 : decode cX5_add 88 = .ok (.aload_n 0, 1) := by decide +kernel
theorem dX5_add_89 : decode cX5_add 89 = .ok (.iconst 2, 1) := by decide +kernel
theorem dX5_add_90 : decode cX5_add 90 = .ok (.aload_n 0, 1) := by decide +kernel
theorem dX5_add_91 : decode cX5_add 91 = .ok (.getfield 9, 3) := by decide +kernel
theorem dX5_add_94 : decode cX5_add 94 = .ok (.imul, 1) := by decide +kernel
theorem dX5_add_95 : decode cX5_add 95 = .ok (.iconst 1, 1) := by decide +kernel
theorem dX5_add_96 : decode cX5_add 96 = .ok (.iadd, 1) := by decide +kernel
theorem dX5_add_97 : decode cX5_add 97 = .ok (.iload_n 3, 1) := by decide +kernel
theorem dX5_add_98 : decode cX5_add 98 = .ok (.iload 4, 2) := by decide +kernel
theorem dX5_add_100 : decode cX5_add 100 = .ok (.iload 7, 2) := by decide +kernel
theorem dX5_add_102 : decode cX5_add 102 = .ok (.iconst 4, 1) := by decide +kernel
theorem dX5_add_103 : decode cX5_add 103 = .ok (.iadd, 1) := by decide +kernel
theorem dX5_add_104 : decode cX5_add 104 = .ok (.bipush 8, 2) := by decide +kernel
theorem dX5_add_106 : decode cX5_add 106 = .ok (.irem, 1) := by decide +kernel
theorem dX5_add_107 : decode cX5_add 107 = .ok (.invokevirtual 44, 3) := by decide +kernel
theorem dX5_add_110 : decode cX5_add 110 = .ok (.aload_n 0, 1) := by decide +kernel
theorem dX5_add_111 : decode cX5_add 111 = .ok (.getfield 25, 3) := by decide +kernel
theorem dX5_add_114 : decode cX5_add 114 = .ok (.aload_n 0, 1) := by decide +kernel
theorem dX5_add_115 : decode cX5_add 115 = .ok (.getfield 9, 3) := by decide +kernel
theorem dX5_add_118 : decode cX5_add 118 = .ok (.iload 5, 2) := by decide +kernel
theorem dX5_add_120 : decode cX5_add 120 = .ok (.iload 6, 2) := by decide +kernel
theorem dX5_add_122 : decode cX5_add 122 = .ok (.invokestatic 48, 3) := by decide +kernel
theorem dX5_add_125 : decode cX5_add 125 = .ok (.iastore, 1) := by decide +kernel
theorem dX5_add_126 : decode cX5_add 126 = .ok (.aload_n 0, 1) := by decide +kernel
theorem dX5_add_127 : decode cX5_add 127 = .ok (.dup, 1) := by decide +kernel
theorem dX5_add_128 : decode cX5_add 128 = .ok (.getfield 9, 3) := by decide +kernel
theorem dX5_add_131 : decode cX5_add 131 = .ok (.iconst 1, 1) := by decide +kernel
theorem dX5_add_132 : decode cX5_add 132 = .ok (.iadd, 1) := by decide +kernel
theorem dX5_add_133 : decode cX5_add 133 = .ok (.putfield 9, 3) := by decide +kernel
theorem dX5_add_136 : decode cX5_add 136 = .ok (.aload_n 0, 1) := by decide +kernel
theorem dX5_add_137 : decode cX5_add 137 = .ok (.getfield 9, 3) := by decide +kernel
theorem dX5_add_140 : decode cX5_add 140 = .ok (.iconst 1, 1) := by decide +kernel
theorem dX5_add_141 : decode cX5_add 141 = .ok (.isub, 1) := by decide +kernel
theorem dX5_add_142 : decode cX5_add 142 = .ok (.ireturn, 1) := by decide +kernel
theorem dX5_setStep_0 : decode cX5_setStep 0 = .ok (.aload_n 0, 1) := by decide +kernel
theorem dX5_setStep_1 : decode cX5_setStep 1 = .ok (.getfield 15, 3) := by decide +kernel
theorem dX5_setStep_4 : decode cX5_setStep 4 = .ok (.iload_n 1, 1) := by decide +kernel
theorem dX5_setStep_5 : decode cX5_setStep 5 = .ok (.iload_n 2, 1) := by decide +kernel
theorem dX5_setStep_6 : decode cX5_setStep 6 = .ok (.iastore, 1) := by decide +kernel
theorem dX5_setStep_7 : decode cX5_setStep 7 = .ok (.aload_n 0, 1) := by decide +kernel
theorem dX5_setStep_8 : decode cX5_setStep 8 = .ok (.getfield 19, 3) := by decide +kernel
theorem dX5_setStep_11 : decode cX5_setStep 11 = .ok (.iload_n 1, 1) := by decide +kernel
theorem dX5_setStep_12 : decode cX5_setStep 12 = .ok (.iload_n 3, 1) := by decide +kernel
theorem dX5_setStep_13 : decode cX5_setStep 13 = .ok (.iastore, 1) := by decide +kernel
theorem dX5_setStep_14 : decode cX5_setStep 14 = .ok (.aload_n 0, 1) := by decide +kernel
theorem dX5_setStep_15 : decode cX5_setStep 15 = .ok (.getfield 22, 3) := by decide +kernel
theorem dX5_setStep_18 : decode cX5_setStep 18 = .ok (.iload_n 1, 1) := by decide +kernel
theorem dX5_setStep_19 : decode cX5_setStep 19 = .ok (.iload 4, 2) := by decide +kernel
theorem dX5_setStep_21 : decode cX5_setStep 21 = .ok (.iastore, 1) := by decide +kernel
theorem dX5_setStep_22 : decode cX5_setStep 22 = .ok (.return_, 1) := by decide +kernel
theorem dX5_onGrid_0 : decode cX5_onGrid 0 = .ok (.iload_n 0, 1) := by decide +kernel
theorem dX5_onGrid_1 : decode cX5_onGrid 1 = .ok (.ifCond .lt 23, 3) := by decide +kernel
theorem dX5_onGrid_4 : decode cX5_onGrid 4 = .ok (.iload_n 0, 1) := by decide +kernel
theorem dX5_onGrid_5 : decode cX5_onGrid 5 = .ok (.bipush 10, 2) := by decide +kernel
theorem dX5_onGrid_7 : decode cX5_onGrid 7 = .ok (.if_icmp .ge 17, 3) := by decide +kernel
theorem dX5_onGrid_10 : decode cX5_onGrid 10 = .ok (.iload_n 1, 1) := by decide +kernel
theorem dX5_onGrid_11 : decode cX5_onGrid 11 = .ok (.ifCond .lt 13, 3) := by decide +kernel
theorem dX5_onGrid_14 : decode cX5_onGrid 14 = .ok (.iload_n 1, 1) := by decide +kernel
theorem dX5_onGrid_15 : decode cX5_onGrid 15 = .ok (.bipush 10, 2) := by decide +kernel
theorem dX5_onGrid_17 : decode cX5_onGrid 17 = .ok (.if_icmp .ge 7, 3) := by decide +kernel
theorem dX5_onGrid_20 : decode cX5_onGrid 20 = .ok (.iconst 1, 1) := by decide +kernel
theorem dX5_onGrid_21 : decode cX5_onGrid 21 = .ok (.goto 4, 3) := by decide +kernel
theorem dX5_onGrid_24 : decode cX5_onGrid 24 = .ok (.iconst 0, 1) := by decide +kernel
theorem dX5_onGrid_25 : decode cX5_onGrid 25 = .ok (.ireturn, 1) := by decide +kernel
theorem dX5_isStraight_0 : decode cX5_isStraight 0 = .ok (.iload_n 0, 1) := by decide +kernel
theorem dX5_isStraight_1 : decode cX5_isStraight 1 = .ok (.ifCond .eq 7, 3) := by decide +kernel
theorem dX5_isStraight_4 : decode cX5_isStraight 4 = .ok (.iload_n 1, 1) := by decide +kernel
theorem dX5_isStraight_5 : decode cX5_isStraight 5 = .ok (.ifCond .ne 14, 3) := by decide +kernel
theorem dX5_isStraight_8 : decode cX5_isStraight 8 = .ok (.iload_n 0, 1) := by decide +kernel
theorem dX5_isStraight_9 : decode cX5_isStraight 9 = .ok (.iload_n 1, 1) := by decide +kernel
theorem dX5_isStraight_10 : decode cX5_isStraight 10 = .ok (.if_icmp .eq 7, 3) := by decide +kernel
theorem dX5_isStraight_13 : decode cX5_isStraight 13 = .ok (.iconst 1, 1) := by decide +kernel
theorem dX5_isStraight_14 : decode cX5_isStraight 14 = .ok (.goto 4, 3) := by decide +kernel
theorem dX5_isStraight_17 : decode cX5_isStraight 17 = .ok (.iconst 0, 1) := by decide +kernel
theorem dX5_isStraight_18 : decode cX5_isStraight 18 = .ok (.ireturn, 1) := by decide +kernel
theorem dX5_isStraight_19 : decode cX5_isStraight 19 = .ok (.iload_n 0, 1) := by decide +kernel
theorem dX5_isStraight_20 : decode cX5_isStraight 20 = .ok (.invokestatic 52, 3) := by decide +kernel
theorem dX5_isStraight_23 : decode cX5_isStraight 23 = .ok (.iload_n 1, 1) := by decide +kernel
theorem dX5_isStraight_24 : decode cX5_isStraight 24 = .ok (.invokestatic 52, 3) := by decide +kernel
theorem dX5_isStraight_27 : decode cX5_isStraight 27 = .ok (.if_icmp .ne 7, 3) := by decide +kernel
theorem dX5_isStraight_30 : decode cX5_isStraight 30 = .ok (.iconst 1, 1) := by decide +kernel
theorem dX5_isStraight_31 : decode cX5_isStraight 31 = .ok (.goto 4, 3) := by decide +kernel
theorem dX5_isStraight_34 : decode cX5_isStraight 34 = .ok (.iconst 0, 1) := by decide +kernel
theorem dX5_isStraight_35 : decode cX5_isStraight 35 = .ok (.ireturn, 1) := by decide +kernel
theorem dX5_all_0 : decode cX5_all 0 = .ok (.iconst 1, 1) := by decide +kernel
theorem dX5_all_1 : decode cX5_all 1 = .ok (.aload_n 0, 1) := by decide +kernel
theorem dX5_all_2 : decode cX5_all 2 = .ok (.getfield 9, 3) := by decide +kernel
theorem dX5_all_5 : decode cX5_all 5 = .ok (.ishl, 1) := by decide +kernel
theorem dX5_all_6 : decode cX5_all 6 = .ok (.iconst 1, 1) := by decide +kernel
theorem dX5_all_7 : decode cX5_all 7 = .ok (.isub, 1) := by decide +kernel
theorem dX5_all_8 : decode cX5_all 8 = .ok (.ireturn, 1) := by decide +kernel
set_option maxRecDepth 20000 in
theorem ggX5_holds_X5_all : GoodIn wsX5_holds wsX5_all := goodIn_r _ [5, 6, 7, 8, 9, 10, 11] (by decide +kernel) (by decide +kernel)
set_option maxRecDepth 20000 in
theorem gX5_holds_X5_all : GoodIn wsX5_holds (wsV RX5 57 RX5 yX5_all wsX5_all) := goodIn_app (goodIn_of _ (by decide +kernel)) ggX5_holds_X5_all
theorem dX5_holds_0 : decode cX5_holds 0 = .ok (.iload_n 1, 1) := by decide +kernel
theorem dX5_holds_1 : decode cX5_holds 1 = .ok (.iconst 1, 1) := by decide +kernel
theorem dX5_holds_2 : decode cX5_holds 2 = .ok (.if_icmp .lt 15, 3) := by decide +kernel
theorem dX5_holds_5 : decode cX5_holds 5 = .ok (.iload_n 1, 1) := by decide +kernel
theorem dX5_holds_6 : decode cX5_holds 6 = .ok (.aload_n 0, 1) := by decide +kernel
theorem dX5_holds_7 : decode cX5_holds 7 = .ok (.invokevirtual 57, 3) := by decide +kernel
theorem dX5_holds_10 : decode cX5_holds 10 = .ok (.if_icmp .gt 7, 3) := by decide +kernel
theorem dX5_holds_13 : decode cX5_holds 13 = .ok (.iconst 1, 1) := by decide +kernel
theorem dX5_holds_14 : decode cX5_holds 14 = .ok (.goto 4, 3) := by decide +kernel
theorem dX5_holds_17 : decode cX5_holds 17 = .ok (.iconst 0, 1) := by decide +kernel
theorem dX5_holds_18 : decode cX5_holds 18 = .ok (.ireturn, 1) := by decide +kernel
theorem dX5_wholeLength_0 : decode cX5_wholeLength 0 = .ok (.iconst 0, 1) := by decide +kernel
theorem dX5_wholeLength_1 : decode cX5_wholeLength 1 = .ok (.istore_n 1, 1) := by decide +kernel
theorem dX5_wholeLength_2 : decode cX5_wholeLength 2 = .ok (.iconst 0, 1) := by decide +kernel
theorem dX5_wholeLength_3 : decode cX5_wholeLength 3 = .ok (.istore_n 2, 1) := by decide +kernel
theorem dX5_wholeLength_4 : decode cX5_wholeLength 4 = .ok (.iload_n 2, 1) := by decide +kernel
theorem dX5_wholeLength_5 : decode cX5_wholeLength 5 = .ok (.aload_n 0, 1) := by decide +kernel
theorem dX5_wholeLength_6 : decode cX5_wholeLength 6 = .ok (.getfield 9, 3) := by decide +kernel
theorem dX5_wholeLength_9 : decode cX5_wholeLength 9 = .ok (.if_icmp .ge 18, 3) := by decide +kernel
theorem dX5_wholeLength_12 : decode cX5_wholeLength 12 = .ok (.iload_n 1, 1) := by decide +kernel
theorem dX5_wholeLength_13 : decode cX5_wholeLength 13 = .ok (.aload_n 0, 1) := by decide +kernel
theorem dX5_wholeLength_14 : decode cX5_wholeLength 14 = .ok (.getfield 25, 3) := by decide +kernel
theorem dX5_wholeLength_17 : decode cX5_wholeLength 17 = .ok (.iload_n 2, 1) := by decide +kernel
theorem dX5_wholeLength_18 : decode cX5_wholeLength 18 = .ok (.iaload, 1) := by decide +kernel
theorem dX5_wholeLength_19 : decode cX5_wholeLength 19 = .ok (.iadd, 1) := by decide +kernel
theorem dX5_wholeLength_20 : decode cX5_wholeLength 20 = .ok (.istore_n 1, 1) := by decide +kernel
theorem dX5_wholeLength_21 : decode cX5_wholeLength 21 = .ok (.iinc 2 1, 3) := by decide +kernel
theorem dX5_wholeLength_24 : decode cX5_wholeLength 24 = .ok (.goto (-20), 3) := by decide +kernel
theorem dX5_wholeLength_27 : decode cX5_wholeLength 27 = .ok (.iload_n 1, 1) := by decide +kernel
theorem dX5_wholeLength_28 : decode cX5_wholeLength 28 = .ok (.ireturn, 1) := by decide +kernel
set_option maxRecDepth 20000 in
theorem ggX5_linkCost_X3_ofJump : GoodIn wsX5_linkCost wsX3_ofJump := goodIn_r _ [15, 16, 34] (by decide +kernel) (by decide +kernel)
set_option maxRecDepth 20000 in
theorem gX5_linkCost_X3_ofJump : GoodIn wsX5_linkCost (wsV RX5 61 RX3 yX3_ofJump wsX3_ofJump) := goodIn_app (goodIn_of _ (by decide +kernel)) ggX5_linkCost_X3_ofJump
set_option maxRecDepth 20000 in
theorem ggX5_linkCost_X7_distance : GoodIn wsX5_linkCost wsX7_distance := goodIn_r _ [19, 20, 5, 6, 7, 21, 9, 10, 22, 23, 24] (by decide +kernel) (by decide +kernel)
set_option maxRecDepth 20000 in
theorem gX5_linkCost_X7_distance_n48 : GoodIn wsX5_linkCost (wsX7_distance) := ggX5_linkCost_X7_distance
set_option maxRecDepth 20000 in
theorem ggX5_linkCost_X3_ofBend : GoodIn wsX5_linkCost wsX3_ofBend := goodIn_r _ [28, 16, 34] (by decide +kernel) (by decide +kernel)
set_option maxRecDepth 20000 in
theorem gX5_linkCost_X3_ofBend : GoodIn wsX5_linkCost (wsV RX5 69 RX3 yX3_ofBend wsX3_ofBend) := goodIn_app (goodIn_of _ (by decide +kernel)) ggX5_linkCost_X3_ofBend
theorem dX5_linkCost_0 : decode cX5_linkCost 0 = .ok (.aload_n 0, 1) := by decide +kernel
theorem dX5_linkCost_1 : decode cX5_linkCost 1 = .ok (.getfield 15, 3) := by decide +kernel
theorem dX5_linkCost_4 : decode cX5_linkCost 4 = .ok (.iload_n 3, 1) := by decide +kernel
theorem dX5_linkCost_5 : decode cX5_linkCost 5 = .ok (.iaload, 1) := by decide +kernel
theorem dX5_linkCost_6 : decode cX5_linkCost 6 = .ok (.aload_n 0, 1) := by decide +kernel
theorem dX5_linkCost_7 : decode cX5_linkCost 7 = .ok (.getfield 15, 3) := by decide +kernel
theorem dX5_linkCost_10 : decode cX5_linkCost 10 = .ok (.iload_n 2, 1) := by decide +kernel
theorem dX5_linkCost_11 : decode cX5_linkCost 11 = .ok (.iconst 1, 1) := by decide +kernel
theorem dX5_linkCost_12 : decode cX5_linkCost 12 = .ok (.ixor, 1) := by decide +kernel
theorem dX5_linkCost_13 : decode cX5_linkCost 13 = .ok (.iaload, 1) := by decide +kernel
theorem dX5_linkCost_14 : decode cX5_linkCost 14 = .ok (.isub, 1) := by decide +kernel
theorem dX5_linkCost_15 : decode cX5_linkCost 15 = .ok (.istore 4, 2) := by decide +kernel
theorem dX5_linkCost_17 : decode cX5_linkCost 17 = .ok (.aload_n 0, 1) := by decide +kernel
theorem dX5_linkCost_18 : decode cX5_linkCost 18 = .ok (.getfield 19, 3) := by decide +kernel
theorem dX5_linkCost_21 : decode cX5_linkCost 21 = .ok (.iload_n 3, 1) := by decide +kernel
theorem dX5_linkCost_22 : decode cX5_linkCost 22 = .ok (.iaload, 1) := by decide +kernel
theorem dX5_linkCost_23 : decode cX5_linkCost 23 = .ok (.aload_n 0, 1) := by decide +kernel
theorem dX5_linkCost_24 : decode cX5_linkCost 24 = .ok (.getfield 19, 3) := by decide +kernel
theorem dX5_linkCost_27 : decode cX5_linkCost 27 = .ok (.iload_n 2, 1) := by decide +kernel
theorem dX5_linkCost_28 : decode cX5_linkCost 28 = .ok (.iconst 1, 1) := by decide +kernel
theorem dX5_linkCost_29 : decode cX5_linkCost 29 = .ok (.ixor, 1) := by decide +kernel
theorem dX5_linkCost_30 : decode cX5_linkCost 30 = .ok (.iaload, 1) := by decide +kernel
theorem dX5_linkCost_31 : decode cX5_linkCost 31 = .ok (.isub, 1) := by decide +kernel
theorem dX5_linkCost_32 : decode cX5_linkCost 32 = .ok (.istore 5, 2) := by decide +kernel
theorem dX5_linkCost_34 : decode cX5_linkCost 34 = .ok (.iload 4, 2) := by decide +kernel
theorem dX5_linkCost_36 : decode cX5_linkCost 36 = .ok (.ifCond .ne 8, 3) := by decide +kernel
theorem dX5_linkCost_39 : decode cX5_linkCost 39 = .ok (.iload 5, 2) := by decide +kernel
theorem dX5_linkCost_41 : decode cX5_linkCost 41 = .ok (.ifCond .eq 20, 3) := by decide +kernel
theorem dX5_linkCost_44 : decode cX5_linkCost 44 = .ok (.aload_n 1, 1) := by decide +kernel
theorem dX5_linkCost_45 : decode cX5_linkCost 45 = .ok (.invokevirtual 61, 3) := by decide +kernel
theorem dX5_linkCost_48 : decode cX5_linkCost 48 = .ok (.sipush 4096, 3) := by decide +kernel
theorem dX5_linkCost_51 : decode cX5_linkCost 51 = .ok (.imul, 1) := by decide +kernel
theorem dX5_linkCost_52 : decode cX5_linkCost 52 = .ok (.iload 4, 2) := by decide +kernel
theorem dX5_linkCost_54 : decode cX5_linkCost 54 = .ok (.iload 5, 2) := by decide +kernel
theorem dX5_linkCost_56 : decode cX5_linkCost 56 = .ok (.invokestatic 48, 3) := by decide +kernel
theorem dX5_linkCost_59 : decode cX5_linkCost 59 = .ok (.iadd, 1) := by decide +kernel
theorem dX5_linkCost_60 : decode cX5_linkCost 60 = .ok (.ireturn, 1) := by decide +kernel
theorem dX5_linkCost_61 : decode cX5_linkCost 61 = .ok (.aload_n 0, 1) := by decide +kernel
theorem dX5_linkCost_62 : decode cX5_linkCost 62 = .ok (.getfield 22, 3) := by decide +kernel
theorem dX5_linkCost_65 : decode cX5_linkCost 65 = .ok (.iload_n 3, 1) := by decide +kernel
theorem dX5_linkCost_66 : decode cX5_linkCost 66 = .ok (.iaload, 1) := by decide +kernel
theorem dX5_linkCost_67 : decode cX5_linkCost 67 = .ok (.aload_n 0, 1) := by decide +kernel
theorem dX5_linkCost_68 : decode cX5_linkCost 68 = .ok (.getfield 22, 3) := by decide +kernel
theorem dX5_linkCost_71 : decode cX5_linkCost 71 = .ok (.iload_n 2, 1) := by decide +kernel
theorem dX5_linkCost_72 : decode cX5_linkCost 72 = .ok (.iaload, 1) := by decide +kernel
theorem dX5_linkCost_73 : decode cX5_linkCost 73 = .ok (.isub, 1) := by decide +kernel
theorem dX5_linkCost_74 : decode cX5_linkCost 74 = .ok (.invokestatic 52, 3) := by decide +kernel
theorem dX5_linkCost_77 : decode cX5_linkCost 77 = .ok (.istore 6, 2) := by decide +kernel
theorem dX5_linkCost_79 : decode cX5_linkCost 79 = .ok (.aload_n 1, 1) := by decide +kernel
theorem dX5_linkCost_80 : decode cX5_linkCost 80 = .ok (.iload 6, 2) := by decide +kernel
theorem dX5_linkCost_82 : decode cX5_linkCost 82 = .ok (.bipush 8, 2) := by decide +kernel
theorem dX5_linkCost_84 : decode cX5_linkCost 84 = .ok (.iload 6, 2) := by decide +kernel
theorem dX5_linkCost_86 : decode cX5_linkCost 86 = .ok (.isub, 1) := by decide +kernel
theorem dX5_linkCost_87 : decode cX5_linkCost 87 = .ok (.invokestatic 66, 3) := by decide +kernel
theorem dX5_linkCost_90 : decode cX5_linkCost 90 = .ok (.invokevirtual 69, 3) := by decide +kernel
theorem dX5_linkCost_93 : decode cX5_linkCost 93 = .ok (.sipush 4096, 3) := by decide +kernel
theorem dX5_linkCost_96 : decode cX5_linkCost 96 = .ok (.imul, 1) := by decide +kernel
theorem dX5_linkCost_97 : decode cX5_linkCost 97 = .ok (.ireturn, 1) := by decide +kernel
theorem dX6_init_0 : decode cX6_init 0 = .ok (.aload_n 0, 1) := by decide +kernel
theorem dX6_init_1 : decode cX6_init 1 = .ok (.invokespecial 5, 3) := by decide +kernel
theorem dX6_init_4 : decode cX6_init 4 = .ok (.aload_n 0, 1) := by decide +kernel
theorem dX6_init_5 : decode cX6_init 5 = .ok (.sipush 512, 3) := by decide +kernel
theorem dX6_init_8 : decode cX6_init 8 = .ok (.newarray .int, 2) := by decide +kernel
theorem dX6_init_10 : decode cX6_init 10 = .ok (.putfield 11, 3) := by decide +kernel
theorem dX6_init_13 : decode cX6_init 13 = .ok (.aload_n 0, 1) := by decide +kernel
theorem dX6_init_14 : decode cX6_init 14 = .ok (.iconst 0, 1) := by decide +kernel
theorem dX6_init_15 : decode cX6_init 15 = .ok (.putfield 17, 3) := by decide +kernel
theorem dX6_init_18 : decode cX6_init 18 = .ok (.return_, 1) := by decide +kernel
set_option maxRecDepth 20000 in
theorem ggX6_search_X6_leastSum : GoodIn wsX6_search wsX6_leastSum := goodIn_r _ [8, 3, 9, 10, 11, 12, 13, 14, 15, 16, 17, 18, 19, 20, 21, 22, 7, 23, 2, 1, 24, 25, 26, 27, 28, 29, 30, 31, 32, 33, 34, 35, 36, 37, 38, 39, 40, 41, 42, 43, 44, 45, 46, 47, 48, 49, 50, 51, 52, 53, 54] (by decide +kernel) (by decide +kernel)
set_option maxRecDepth 20000 in
theorem gX6_search_X6_leastSum : GoodIn wsX6_search (wsV RX6 21 RX6 yX6_leastSum wsX6_leastSum) := goodIn_app (goodIn_of _ (by decide +kernel)) ggX6_search_X6_leastSum
theorem dX6_search_0 : decode cX6_search 0 = .ok (.aload_n 0, 1) := by decide +kernel
theorem dX6_search_1 : decode cX6_search 1 = .ok (.iload 4, 2) := by decide +kernel
theorem dX6_search_3 : decode cX6_search 3 = .ok (.putfield 17, 3) := by decide +kernel
theorem dX6_search_6 : decode cX6_search 6 = .ok (.aload_n 0, 1) := by decide +kernel
theorem dX6_search_7 : decode cX6_search 7 = .ok (.getfield 11, 3) := by decide +kernel
theorem dX6_search_10 : decode cX6_search 10 = .ok (.iconst 0, 1) := by decide +kernel
theorem dX6_search_11 : decode cX6_search 11 = .ok (.iconst 0, 1) := by decide +kernel
theorem dX6_search_12 : decode cX6_search 12 = .ok (.iastore, 1) := by decide +kernel
theorem dX6_search_13 : decode cX6_search 13 = .ok (.iconst 1, 1) := by decide +kernel
theorem dX6_search_14 : decode cX6_search 14 = .ok (.istore 5, 2) := by decide +kernel
theorem dX6_search_16 : decode cX6_search 16 = .ok (.iload 5, 2) := by decide +kernel
theorem dX6_search_18 : decode cX6_search 18 = .ok (.iload_n 3, 1) := by decide +kernel
theorem dX6_search_19 : decode cX6_search 19 = .ok (.if_icmp .gt 24, 3) := by decide +kernel
theorem dX6_search_22 : decode cX6_search 22 = .ok (.aload_n 0, 1) := by decide +kernel
theorem dX6_search_23 : decode cX6_search 23 = .ok (.getfield 11, 3) := by decide +kernel
theorem dX6_search_26 : decode cX6_search 26 = .ok (.iload 5, 2) := by decide +kernel
theorem dX6_search_28 : decode cX6_search 28 = .ok (.aload_n 0, 1) := by decide +kernel
theorem dX6_search_29 : decode cX6_search 29 = .ok (.aload_n 1, 1) := by decide +kernel
theorem dX6_search_30 : decode cX6_search 30 = .ok (.aload_n 2, 1) := by decide +kernel
theorem dX6_search_31 : decode cX6_search 31 = .ok (.iload 5, 2) := by decide +kernel
theorem dX6_search_33 : decode cX6_search 33 = .ok (.invokevirtual 21, 3) := by decide +kernel
theorem dX6_search_36 : decode cX6_search 36 = .ok (.iastore, 1) := by decide +kernel
theorem dX6_search_37 : decode cX6_search 37 = .ok (.iinc 5 1, 3) := by decide +kernel
theorem dX6_search_40 : decode cX6_search 40 = .ok (.goto (-24), 3) := by decide +kernel
theorem dX6_search_43 : decode cX6_search 43 = .ok (.aload_n 0, 1) := by decide +kernel
theorem dX6_search_44 : decode cX6_search 44 = .ok (.getfield 11, 3) := by decide +kernel
theorem dX6_search_47 : decode cX6_search 47 = .ok (.iload_n 3, 1) := by decide +kernel
theorem dX6_search_48 : decode cX6_search 48 = .ok (.iaload, 1) := by decide +kernel
theorem dX6_search_49 : decode cX6_search 49 = .ok (.ldc 25, 2) := by decide +kernel
theorem dX6_search_51 : decode cX6_search 51 = .ok (.if_icmp .eq 7, 3) := by decide +kernel
theorem dX6_search_54 : decode cX6_search 54 = .ok (.iconst 1, 1) := by decide +kernel
theorem dX6_search_55 : decode cX6_search 55 = .ok (.goto 4, 3) := by decide +kernel
theorem dX6_search_58 : decode cX6_search 58 = .ok (.iconst 0, 1) := by decide +kernel
theorem dX6_search_59 : decode cX6_search 59 = .ok (.ireturn, 1) := by decide +kernel
set_option maxRecDepth 20000 in
theorem ggX6_leastSum_J6_bitCount_0f7a4 : GoodIn wsX6_leastSum wsJ6_bitCount_0f7a4 := goodIn_r _ [9, 10, 11, 12] (by decide +kernel) (by decide +kernel)
set_option maxRecDepth 20000 in
theorem gX6_leastSum_J6_bitCount_0f7a4 : GoodIn wsX6_leastSum (va_wsS RX6 26 yJ6_bitCount_0f7a4 wsJ6_bitCount_0f7a4) := goodIn_app (goodIn_of _ (by decide +kernel)) ggX6_leastSum_J6_bitCount_0f7a4
set_option maxRecDepth 20000 in
theorem ggX6_leastSum_X6_sumWith : GoodIn wsX6_leastSum wsX6_sumWith := goodIn_r _ [17, 18, 1, 19, 20, 21, 22, 23, 24, 25, 26, 27, 28, 29, 30, 31, 32, 33, 34, 35, 36, 37, 41, 42, 43, 44, 45, 46, 47, 48, 49, 50] (by decide +kernel) (by decide +kernel)
set_option maxRecDepth 20000 in
theorem gX6_leastSum_X6_sumWith : GoodIn wsX6_leastSum (wsV RX6 30 RX6 yX6_sumWith wsX6_sumWith) := goodIn_app (goodIn_of _ (by decide +kernel)) ggX6_leastSum_X6_sumWith
set_option maxRecDepth 20000 in
theorem ggX6_leastSum_X6_nextWithin : GoodIn wsX6_leastSum wsX6_nextWithin := goodIn_r _ [40] (by decide +kernel) (by decide +kernel)
set_option maxRecDepth 20000 in
theorem gX6_leastSum_X6_nextWithin : GoodIn wsX6_leastSum (va_wsS RX6 40 yX6_nextWithin wsX6_nextWithin) := goodIn_app (goodIn_of _ (by decide +kernel)) ggX6_leastSum_X6_nextWithin
theorem dX6_leastSum_0 : decode cX6_leastSum 0 = .ok (.iload_n 3, 1) := by decide +kernel
theorem dX6_leastSum_1 : decode cX6_leastSum 1 = .ok (.iload_n 3, 1) := by decide +kernel
theorem dX6_leastSum_2 : decode cX6_leastSum 2 = .ok (.ineg, 1) := by decide +kernel
theorem dX6_leastSum_3 : decode cX6_leastSum 3 = .ok (.iand, 1) := by decide +kernel
theorem dX6_leastSum_4 : decode cX6_leastSum 4 = .ok (.istore 4, 2) := by decide +kernel
theorem dX6_leastSum_6 : decode cX6_leastSum 6 = .ok (.iload_n 3, 1) := by decide +kernel
theorem dX6_leastSum_7 : decode cX6_leastSum 7 = .ok (.iload 4, 2) := by decide +kernel
theorem dX6_leastSum_9 : decode cX6_leastSum 9 = .ok (.ixor, 1) := by decide +kernel
theorem dX6_leastSum_10 : decode cX6_leastSum 10 = .ok (.istore 5, 2) := by decide +kernel
theorem dX6_leastSum_12 : decode cX6_leastSum 12 = .ok (.ldc 25, 2) := by decide +kernel
theorem dX6_leastSum_14 : decode cX6_leastSum 14 = .ok (.istore 6, 2) := by decide +kernel
theorem dX6_leastSum_16 : decode cX6_leastSum 16 = .ok (.iconst 0, 1) := by decide +kernel
theorem dX6_leastSum_17 : decode cX6_leastSum 17 = .ok (.istore 7, 2) := by decide +kernel
theorem dX6_leastSum_19 : decode cX6_leastSum 19 = .ok (.iconst 1, 1) := by decide +kernel
theorem dX6_leastSum_20 : decode cX6_leastSum 20 = .ok (.iload 5, 2) := by decide +kernel
theorem dX6_leastSum_22 : decode cX6_leastSum 22 = .ok (.invokestatic 26, 3) := by decide +kernel
theorem dX6_leastSum_25 : decode cX6_leastSum 25 = .ok (.ishl, 1) := by decide +kernel
theorem dX6_leastSum_26 : decode cX6_leastSum 26 = .ok (.istore 8, 2) := by decide +kernel
theorem dX6_leastSum_28 : decode cX6_leastSum 28 = .ok (.iload 8, 2) := by decide +kernel
theorem dX6_leastSum_30 : decode cX6_leastSum 30 = .ok (.ifCond .le 37, 3) := by decide +kernel
theorem dX6_leastSum_33 : decode cX6_leastSum 33 = .ok (.iload 6, 2) := by decide +kernel
theorem dX6_leastSum_35 : decode cX6_leastSum 35 = .ok (.aload_n 0, 1) := by decide +kernel
theorem dX6_leastSum_36 : decode cX6_leastSum 36 = .ok (.aload_n 1, 1) := by decide +kernel
theorem dX6_leastSum_37 : decode cX6_leastSum 37 = .ok (.aload_n 2, 1) := by decide +kernel
theorem dX6_leastSum_38 : decode cX6_leastSum 38 = .ok (.iload_n 3, 1) := by decide +kernel
theorem dX6_leastSum_39 : decode cX6_leastSum 39 = .ok (.iload 4, 2) := by decide +kernel
theorem dX6_leastSum_41 : decode cX6_leastSum 41 = .ok (.iload 7, 2) := by decide +kernel
theorem dX6_leastSum_43 : decode cX6_leastSum 43 = .ok (.ior, 1) := by decide +kernel
theorem dX6_leastSum_44 : decode cX6_leastSum 44 = .ok (.invokevirtual 30, 3) := by decide +kernel
theorem dX6_leastSum_47 : decode cX6_leastSum 47 = .ok (.invokestatic 34, 3) := by decide +kernel
theorem dX6_leastSum_50 : decode cX6_leastSum 50 = .ok (.istore 6, 2) := by decide +kernel
theorem dX6_leastSum_52 : decode cX6_leastSum 52 = .ok (.iload 7, 2) := by decide +kernel
theorem dX6_leastSum_54 : decode cX6_leastSum 54 = .ok (.iload 5, 2) := by decide +kernel
theorem dX6_leastSum_56 : decode cX6_leastSum 56 = .ok (.invokestatic 40, 3) := by decide +kernel
theorem dX6_leastSum_59 : decode cX6_leastSum 59 = .ok (.istore 7, 2) := by decide +kernel
theorem dX6_leastSum_61 : decode cX6_leastSum 61 = .ok (.iinc 8 (-1), 3) := by decide +kernel
theorem dX6_leastSum_64 : decode cX6_leastSum 64 = .ok (.goto (-36), 3) := by decide +kernel
theorem dX6_leastSum_67 : decode cX6_leastSum 67 = .ok (.iload 6, 2) := by decide +kernel
theorem dX6_leastSum_69 : decode cX6_leastSum 69 = .ok (.ireturn, 1) := by decide +kernel
set_option maxRecDepth 20000 in
theorem ggX6_sumWith_X4_costOf : GoodIn wsX6_sumWith wsX4_costOf := goodIn_r _ [9, 10, 24, 25, 26, 27, 28, 29, 30] (by decide +kernel) (by decide +kernel)
set_option maxRecDepth 20000 in
theorem gX6_sumWith_X4_costOf : GoodIn wsX6_sumWith (wsV RX6 43 RX4 yX4_costOf wsX4_costOf) := goodIn_app (goodIn_of _ (by decide +kernel)) ggX6_sumWith_X4_costOf
set_option maxRecDepth 20000 in
theorem ggX6_sumWith_X7_lengthOf : GoodIn wsX6_sumWith wsX7_lengthOf := goodIn_r _ [13] (by decide +kernel) (by decide +kernel)
set_option maxRecDepth 20000 in
theorem gX6_sumWith_X7_lengthOf_n48 : GoodIn wsX6_sumWith (wsX7_lengthOf) := ggX6_sumWith_X7_lengthOf
set_option maxRecDepth 20000 in
theorem ggX6_sumWith_X3_ofRun : GoodIn wsX6_sumWith wsX3_ofRun := goodIn_r _ [18, 19, 20, 12, 21, 11, 13, 31] (by decide +kernel) (by decide +kernel)
set_option maxRecDepth 20000 in
theorem gX6_sumWith_X3_ofRun : GoodIn wsX6_sumWith (wsV RX6 52 RX3 yX3_ofRun wsX3_ofRun) := goodIn_app (goodIn_of _ (by decide +kernel)) ggX6_sumWith_X3_ofRun
theorem dX6_sumWith_0 : decode cX6_sumWith 0 = .ok (.aload_n 1, 1) := by decide +kernel
theorem dX6_sumWith_1 : decode cX6_sumWith 1 = .ok (.iload 4, 2) := by decide +kernel
theorem dX6_sumWith_3 : decode cX6_sumWith 3 = .ok (.invokevirtual 43, 3) := by decide +kernel
theorem dX6_sumWith_6 : decode cX6_sumWith 6 = .ok (.istore 5, 2) := by decide +kernel
theorem dX6_sumWith_8 : decode cX6_sumWith 8 = .ok (.aload_n 0, 1) := by decide +kernel
theorem dX6_sumWith_9 : decode cX6_sumWith 9 = .ok (.getfield 11, 3) := by decide +kernel
theorem dX6_sumWith_12 : decode cX6_sumWith 12 = .ok (.iload_n 3, 1) := by decide +kernel
theorem dX6_sumWith_13 : decode cX6_sumWith 13 = .ok (.iload 4, 2) := by decide +kernel
theorem dX6_sumWith_15 : decode cX6_sumWith 15 = .ok (.ixor, 1) := by decide +kernel
theorem dX6_sumWith_16 : decode cX6_sumWith 16 = .ok (.iaload, 1) := by decide +kernel
theorem dX6_sumWith_17 : decode cX6_sumWith 17 = .ok (.istore 6, 2) := by decide +kernel
theorem dX6_sumWith_19 : decode cX6_sumWith 19 = .ok (.iload 6, 2) := by decide +kernel
theorem dX6_sumWith_21 : decode cX6_sumWith 21 = .ok (.ldc 25, 2) := by decide +kernel
theorem dX6_sumWith_23 : decode cX6_sumWith 23 = .ok (.if_icmp .eq 15, 3) := by decide +kernel
theorem dX6_sumWith_26 : decode cX6_sumWith 26 = .ok (.iload 5, 2) := by decide +kernel
theorem dX6_sumWith_28 : decode cX6_sumWith 28 = .ok (.invokestatic 48, 3) := by decide +kernel
theorem dX6_sumWith_31 : decode cX6_sumWith 31 = .ok (.aload_n 0, 1) := by decide +kernel
theorem dX6_sumWith_32 : decode cX6_sumWith 32 = .ok (.getfield 17, 3) := by decide +kernel
theorem dX6_sumWith_35 : decode cX6_sumWith 35 = .ok (.if_icmp .le 6, 3) := by decide +kernel
theorem dX6_sumWith_38 : decode cX6_sumWith 38 = .ok (.ldc 25, 2) := by decide +kernel
theorem dX6_sumWith_40 : decode cX6_sumWith 40 = .ok (.ireturn, 1) := by decide +kernel
theorem dX6_sumWith_41 : decode cX6_sumWith 41 = .ok (.ldc 51, 2) := by decide +kernel
theorem dX6_sumWith_43 : decode cX6_sumWith 43 = .ok (.aload_n 2, 1) := by decide +kernel
theorem dX6_sumWith_44 : decode cX6_sumWith 44 = .ok (.iload 5, 2) := by decide +kernel
theorem dX6_sumWith_46 : decode cX6_sumWith 46 = .ok (.invokevirtual 52, 3) := by decide +kernel
theorem dX6_sumWith_49 : decode cX6_sumWith 49 = .ok (.iadd, 1) := by decide +kernel
theorem dX6_sumWith_50 : decode cX6_sumWith 50 = .ok (.iload 6, 2) := by decide +kernel
theorem dX6_sumWith_52 : decode cX6_sumWith 52 = .ok (.iadd, 1) := by decide +kernel
theorem dX6_sumWith_53 : decode cX6_sumWith 53 = .ok (.ireturn, 1) := by decide +kernel
theorem dX6_nextWithin_0 : decode cX6_nextWithin 0 = .ok (.iload_n 0, 1) := by decide +kernel
theorem dX6_nextWithin_1 : decode cX6_nextWithin 1 = .ok (.iload_n 1, 1) := by decide +kernel
theorem dX6_nextWithin_2 : decode cX6_nextWithin 2 = .ok (.isub, 1) := by decide +kernel
theorem dX6_nextWithin_3 : decode cX6_nextWithin 3 = .ok (.iload_n 1, 1) := by decide +kernel
theorem dX6_nextWithin_4 : decode cX6_nextWithin 4 = .ok (.iand, 1) := by decide +kernel
theorem dX6_nextWithin_5 : decode cX6_nextWithin 5 = .ok (.ireturn, 1) := by decide +kernel
set_option maxRecDepth 20000 in
theorem ggX6_tell_X2_begin : GoodIn wsX6_tell wsX2_begin := goodIn_r _ [5, 6, 54, 55, 56, 57] (by decide +kernel) (by decide +kernel)
set_option maxRecDepth 20000 in
theorem gX6_tell_X2_begin : GoodIn wsX6_tell (wsV RX6 57 RX2 yX2_begin wsX2_begin) := goodIn_app (goodIn_of _ (by decide +kernel)) ggX6_tell_X2_begin
set_option maxRecDepth 20000 in
theorem ggX6_tell_X6_firstSet : GoodIn wsX6_tell wsX6_firstSet := goodIn_r _ [11, 12, 13, 14, 15, 16, 17, 18, 19, 20, 21, 22, 10, 23, 24, 25, 26, 27, 28, 29, 30, 31, 32, 33, 34, 35, 36, 37, 38, 39, 40, 41, 42, 43, 44, 45, 46, 58, 59, 60, 61, 62, 63, 64, 65, 66, 67] (by decide +kernel) (by decide +kernel)
set_option maxRecDepth 20000 in
theorem gX6_tell_X6_firstSet : GoodIn wsX6_tell (wsV RX6 62 RX6 yX6_firstSet wsX6_firstSet) := goodIn_app (goodIn_of _ (by decide +kernel)) ggX6_tell_X6_firstSet
set_option maxRecDepth 20000 in
theorem ggX6_tell_X4_costOf : GoodIn wsX6_tell wsX4_costOf := goodIn_r _ [31, 32, 60, 61, 62, 63, 64, 65, 66] (by decide +kernel) (by decide +kernel)
set_option maxRecDepth 20000 in
theorem gX6_tell_X4_costOf : GoodIn wsX6_tell (wsV RX6 43 RX4 yX4_costOf wsX4_costOf) := goodIn_app (goodIn_of _ (by decide +kernel)) ggX6_tell_X4_costOf
set_option maxRecDepth 20000 in
theorem ggX6_tell_X7_lengthOf : GoodIn wsX6_tell wsX7_lengthOf := goodIn_r _ [35] (by decide +kernel) (by decide +kernel)
set_option maxRecDepth 20000 in
theorem gX6_tell_X7_lengthOf_n48 : GoodIn wsX6_tell (wsX7_lengthOf) := ggX6_tell_X7_lengthOf
set_option maxRecDepth 20000 in
theorem ggX6_tell_X3_ofRun : GoodIn wsX6_tell wsX3_ofRun := goodIn_r _ [40, 41, 42, 34, 43, 33, 35, 67] (by decide +kernel) (by decide +kernel)
set_option maxRecDepth 20000 in
theorem gX6_tell_X3_ofRun : GoodIn wsX6_tell (wsV RX6 52 RX3 yX3_ofRun wsX3_ofRun) := goodIn_app (goodIn_of _ (by decide +kernel)) ggX6_tell_X3_ofRun
set_option maxRecDepth 20000 in
theorem ggX6_tell_X2_add : GoodIn wsX6_tell wsX2_add := goodIn_r _ [50, 6, 51, 52, 53, 54, 55, 56, 57] (by decide +kernel) (by decide +kernel)
set_option maxRecDepth 20000 in
theorem gX6_tell_X2_add : GoodIn wsX6_tell (wsV RX6 65 RX2 yX2_add wsX2_add) := goodIn_app (goodIn_of _ (by decide +kernel)) ggX6_tell_X2_add
theorem dX6_tell_0 : decode cX6_tell 0 = .ok (.aload 4, 2) := by decide +kernel
theorem dX6_tell_2 : decode cX6_tell 2 = .ok (.invokevirtual 57, 3) := by decide +kernel
theorem dX6_tell_5 : decode cX6_tell 5 = .ok (.iload_n 3, 1) := by decide +kernel
theorem dX6_tell_6 : decode cX6_tell 6 = .ok (.istore 5, 2) := by decide +kernel
theorem dX6_tell_8 : decode cX6_tell 8 = .ok (.iconst 0, 1) := by decide +kernel
theorem dX6_tell_9 : decode cX6_tell 9 = .ok (.istore 6, 2) := by decide +kernel
theorem dX6_tell_11 : decode cX6_tell 11 = .ok (.iload 6, 2) := by decide +kernel
theorem dX6_tell_13 : decode cX6_tell 13 = .ok (.bipush 9, 2) := by decide +kernel
theorem dX6_tell_15 : decode cX6_tell 15 = .ok (.if_icmp .ge 57, 3) := by decide +kernel
theorem dX6_tell_18 : decode cX6_tell 18 = .ok (.iload 5, 2) := by decide +kernel
theorem dX6_tell_20 : decode cX6_tell 20 = .ok (.ifCond .eq 52, 3) := by decide +kernel
theorem dX6_tell_23 : decode cX6_tell 23 = .ok (.aload_n 0, 1) := by decide +kernel
theorem dX6_tell_24 : decode cX6_tell 24 = .ok (.aload_n 1, 1) := by decide +kernel
theorem dX6_tell_25 : decode cX6_tell 25 = .ok (.aload_n 2, 1) := by decide +kernel
theorem dX6_tell_26 : decode cX6_tell 26 = .ok (.iload 5, 2) := by decide +kernel
theorem dX6_tell_28 : decode cX6_tell 28 = .ok (.invokevirtual 62, 3) := by decide +kernel
theorem dX6_tell_31 : decode cX6_tell 31 = .ok (.istore 7, 2) := by decide +kernel
theorem dX6_tell_33 : decode cX6_tell 33 = .ok (.aload_n 1, 1) := by decide +kernel
theorem dX6_tell_34 : decode cX6_tell 34 = .ok (.iload 7, 2) := by decide +kernel
theorem dX6_tell_36 : decode cX6_tell 36 = .ok (.invokevirtual 43, 3) := by decide +kernel
theorem dX6_tell_39 : decode cX6_tell 39 = .ok (.istore 8, 2) := by decide +kernel
theorem dX6_tell_41 : decode cX6_tell 41 = .ok (.aload 4, 2) := by decide +kernel
theorem dX6_tell_43 : decode cX6_tell 43 = .ok (.iload 7, 2) := by decide +kernel
theorem dX6_tell_45 : decode cX6_tell 45 = .ok (.iload 8, 2) := by decide +kernel
theorem dX6_tell_47 : decode cX6_tell 47 = .ok (.invokestatic 48, 3) := by decide +kernel
theorem dX6_tell_50 : decode cX6_tell 50 = .ok (.aload_n 2, 1) := by decide +kernel
theorem dX6_tell_51 : decode cX6_tell 51 = .ok (.iload 8, 2) := by decide +kernel
theorem dX6_tell_53 : decode cX6_tell 53 = .ok (.invokevirtual 52, 3) := by decide +kernel
theorem dX6_tell_56 : decode cX6_tell 56 = .ok (.invokevirtual 65, 3) := by decide +kernel
theorem dX6_tell_59 : decode cX6_tell 59 = .ok (.iload 5, 2) := by decide +kernel
theorem dX6_tell_61 : decode cX6_tell 61 = .ok (.iload 7, 2) := by decide +kernel
theorem dX6_tell_63 : decode cX6_tell 63 = .ok (.ixor, 1) := by decide +kernel
theorem dX6_tell_64 : decode cX6_tell 64 = .ok (.istore 5, 2) := by decide +kernel
theorem dX6_tell_66 : decode cX6_tell 66 = .ok (.iinc 6 1, 3) := by decide +kernel
theorem dX6_tell_69 : decode cX6_tell 69 = .ok (.goto (-58), 3) := by decide +kernel
theorem dX6_tell_72 : decode cX6_tell 72 = .ok (.return_, 1) := by decide +kernel
set_option maxRecDepth 20000 in
theorem ggX6_firstSet_J6_bitCount_0f7a4 : GoodIn wsX6_firstSet wsJ6_bitCount_0f7a4 := goodIn_r _ [5, 6, 7, 8] (by decide +kernel) (by decide +kernel)
set_option maxRecDepth 20000 in
theorem gX6_firstSet_J6_bitCount_0f7a4 : GoodIn wsX6_firstSet (va_wsS RX6 26 yJ6_bitCount_0f7a4 wsJ6_bitCount_0f7a4) := goodIn_app (goodIn_of _ (by decide +kernel)) ggX6_firstSet_J6_bitCount_0f7a4
set_option maxRecDepth 20000 in
theorem ggX6_firstSet_X6_sumWith : GoodIn wsX6_firstSet wsX6_sumWith := goodIn_r _ [13, 1, 14, 15, 16, 17, 18, 19, 20, 21, 22, 23, 24, 25, 26, 27, 28, 29, 30, 31, 32, 33, 37, 38, 39, 40, 41, 42, 43, 44, 45, 46] (by decide +kernel) (by decide +kernel)
set_option maxRecDepth 20000 in
theorem gX6_firstSet_X6_sumWith : GoodIn wsX6_firstSet (wsV RX6 30 RX6 yX6_sumWith wsX6_sumWith) := goodIn_app (goodIn_of _ (by decide +kernel)) ggX6_firstSet_X6_sumWith
set_option maxRecDepth 20000 in
theorem ggX6_firstSet_X6_nextWithin : GoodIn wsX6_firstSet wsX6_nextWithin := goodIn_r _ [36] (by decide +kernel) (by decide +kernel)
set_option maxRecDepth 20000 in
theorem gX6_firstSet_X6_nextWithin : GoodIn wsX6_firstSet (va_wsS RX6 40 yX6_nextWithin wsX6_nextWithin) := goodIn_app (goodIn_of _ (by decide +kernel)) ggX6_firstSet_X6_nextWithin
theorem dX6_firstSet_0 : decode cX6_firstSet 0 = .ok (.iload_n 3, 1) := by decide +kernel
theorem dX6_firstSet_1 : decode cX6_firstSet 1 = .ok (.iload_n 3, 1) := by decide +kernel
theorem dX6_firstSet_2 : decode cX6_firstSet 2 = .ok (.ineg, 1) := by decide +kernel
theorem dX6_firstSet_3 : decode cX6_firstSet 3 = .ok (.iand, 1) := by decide +kernel
theorem dX6_firstSet_4 : decode cX6_firstSet 4 = .ok (.istore 4, 2) := by decide +kernel
theorem dX6_firstSet_6 : decode cX6_firstSet 6 = .ok (.iload_n 3, 1) := by decide +kernel
theorem dX6_firstSet_7 : decode cX6_firstSet 7 = .ok (.iload 4, 2) := by decide +kernel
theorem dX6_firstSet_9 : decode cX6_firstSet 9 = .ok (.ixor, 1) := by decide +kernel
theorem dX6_firstSet_10 : decode cX6_firstSet 10 = .ok (.istore 5, 2) := by decide +kernel
theorem dX6_firstSet_12 : decode cX6_firstSet 12 = .ok (.iconst 0, 1) := by decide +kernel
theorem dX6_firstSet_13 : decode cX6_firstSet 13 = .ok (.istore 6, 2) := by decide +kernel
theorem dX6_firstSet_15 : decode cX6_firstSet 15 = .ok (.iconst 1, 1) := by decide +kernel
theorem dX6_firstSet_16 : decode cX6_firstSet 16 = .ok (.iload 5, 2) := by decide +kernel
theorem dX6_firstSet_18 : decode cX6_firstSet 18 = .ok (.invokestatic 26, 3) := by decide +kernel
theorem dX6_firstSet_21 : decode cX6_firstSet 21 = .ok (.ishl, 1) := by decide +kernel
theorem dX6_firstSet_22 : decode cX6_firstSet 22 = .ok (.istore 7, 2) := by decide +kernel
theorem dX6_firstSet_24 : decode cX6_firstSet 24 = .ok (.iload 7, 2) := by decide +kernel
theorem dX6_firstSet_26 : decode cX6_firstSet 26 = .ok (.ifCond .le 45, 3) := by decide +kernel
theorem dX6_firstSet_29 : decode cX6_firstSet 29 = .ok (.aload_n 0, 1) := by decide +kernel
theorem dX6_firstSet_30 : decode cX6_firstSet 30 = .ok (.aload_n 1, 1) := by decide +kernel
theorem dX6_firstSet_31 : decode cX6_firstSet 31 = .ok (.aload_n 2, 1) := by decide +kernel
theorem dX6_firstSet_32 : decode cX6_firstSet 32 = .ok (.iload_n 3, 1) := by decide +kernel
theorem dX6_firstSet_33 : decode cX6_firstSet 33 = .ok (.iload 4, 2) := by decide +kernel
theorem dX6_firstSet_35 : decode cX6_firstSet 35 = .ok (.iload 6, 2) := by decide +kernel
theorem dX6_firstSet_37 : decode cX6_firstSet 37 = .ok (.ior, 1) := by decide +kernel
theorem dX6_firstSet_38 : decode cX6_firstSet 38 = .ok (.invokevirtual 30, 3) := by decide +kernel
theorem dX6_firstSet_41 : decode cX6_firstSet 41 = .ok (.aload_n 0, 1) := by decide +kernel
theorem dX6_firstSet_42 : decode cX6_firstSet 42 = .ok (.getfield 11, 3) := by decide +kernel
theorem dX6_firstSet_45 : decode cX6_firstSet 45 = .ok (.iload_n 3, 1) := by decide +kernel
theorem dX6_firstSet_46 : decode cX6_firstSet 46 = .ok (.iaload, 1) := by decide +kernel
theorem dX6_firstSet_47 : decode cX6_firstSet 47 = .ok (.if_icmp .ne 9, 3) := by decide +kernel
theorem dX6_firstSet_50 : decode cX6_firstSet 50 = .ok (.iload 4, 2) := by decide +kernel
theorem dX6_firstSet_52 : decode cX6_firstSet 52 = .ok (.iload 6, 2) := by decide +kernel
theorem dX6_firstSet_54 : decode cX6_firstSet 54 = .ok (.ior, 1) := by decide +kernel
theorem dX6_firstSet_55 : decode cX6_firstSet 55 = .ok (.ireturn, 1) := by decide +kernel
theorem dX6_firstSet_56 : decode cX6_firstSet 56 = .ok (.iload 6, 2) := by decide +kernel
theorem dX6_firstSet_58 : decode cX6_firstSet 58 = .ok (.iload 5, 2) := by decide +kernel
theorem dX6_firstSet_60 : decode cX6_firstSet 60 = .ok (.invokestatic 40, 3) := by decide +kernel
theorem dX6_firstSet_63 : decode cX6_firstSet 63 = .ok (.istore 6, 2) := by decide +kernel
theorem dX6_firstSet_65 : decode cX6_firstSet 65 = .ok (.iinc 7 (-1), 3) := by decide +kernel
theorem dX6_firstSet_68 : decode cX6_firstSet 68 = .ok (.goto (-44), 3) := by decide +kernel
theorem dX6_firstSet_71 : decode cX6_firstSet 71 = .ok (.iload_n 3, 1) := by decide +kernel
theorem dX6_firstSet_72 : decode cX6_firstSet 72 = .ok (.ireturn, 1) := by decide +kernel
set_option maxRecDepth 20000 in
theorem ggX7_init_X5_init : GoodIn wsX7_init wsX5_init := goodIn_r _ [34, 35, 2, 3, 36, 37, 38, 39, 40, 41, 86, 87, 88, 89, 90] (by decide +kernel) (by decide +kernel)
set_option maxRecDepth 20000 in
theorem gX7_init_X5_init_n11 : GoodIn wsX7_init (wsX5_init) := ggX7_init_X5_init
set_option maxRecDepth 20000 in
theorem ggX7_init_X3_init : GoodIn wsX7_init wsX3_init := goodIn_r _ [43, 44, 2, 3, 45, 46, 47, 48, 49, 50, 51, 52, 99] (by decide +kernel) (by decide +kernel)
set_option maxRecDepth 20000 in
theorem gX7_init_X3_init_n18 : GoodIn wsX7_init (wsX3_init) := ggX7_init_X3_init
set_option maxRecDepth 20000 in
theorem ggX7_init_X4_init : GoodIn wsX7_init wsX4_init := goodIn_r _ [54, 55, 2, 3, 56, 37, 57, 58, 59, 60, 61, 62, 100, 101, 102, 103, 104, 105, 106] (by decide +kernel) (by decide +kernel)
set_option maxRecDepth 20000 in
theorem gX7_init_X4_init_n25 : GoodIn wsX7_init (wsX4_init) := ggX7_init_X4_init
set_option maxRecDepth 20000 in
theorem ggX7_init_X6_init : GoodIn wsX7_init wsX6_init := goodIn_r _ [64, 65, 2, 3, 37, 66, 67, 107, 108] (by decide +kernel) (by decide +kernel)
set_option maxRecDepth 20000 in
theorem gX7_init_X6_init_n32 : GoodIn wsX7_init (wsX6_init) := ggX7_init_X6_init
set_option maxRecDepth 20000 in
theorem ggX7_init_X2_init : GoodIn wsX7_init wsX2_init := goodIn_r _ [69, 70, 2, 3, 71, 37, 72, 73, 74, 109, 110, 111, 112] (by decide +kernel) (by decide +kernel)
set_option maxRecDepth 20000 in
theorem gX7_init_X2_init_n39 : GoodIn wsX7_init (wsX2_init) := ggX7_init_X2_init
set_option maxRecDepth 20000 in
theorem ggX7_init_X0_init : GoodIn wsX7_init wsX0_init := goodIn_r _ [76, 77, 2, 3, 37, 78, 79, 113, 114] (by decide +kernel) (by decide +kernel)
set_option maxRecDepth 20000 in
theorem gX7_init_X0_init_n46 : GoodIn wsX7_init (wsX0_init) := ggX7_init_X0_init
set_option maxRecDepth 20000 in
theorem ggX7_init_X1_init : GoodIn wsX7_init wsX1_init := goodIn_r _ [81, 82, 2, 3, 83, 84, 37, 85, 115, 116, 117] (by decide +kernel) (by decide +kernel)
set_option maxRecDepth 20000 in
theorem gX7_init_X1_init_n53 : GoodIn wsX7_init (wsX1_init) := ggX7_init_X1_init
theorem dX7_init_0 : decode cX7_init 0 = .ok (.aload_n 0, 1) := by decide +kernel
theorem dX7_init_1 : decode cX7_init 1 = .ok (.invokespecial 3, 3) := by decide +kernel
theorem dX7_init_4 : decode cX7_init 4 = .ok (.aload_n 0, 1) := by decide +kernel
theorem dX7_init_5 : decode cX7_init 5 = .ok (.new 9, 3) := by decide +kernel
theorem dX7_init_8 : decode cX7_init 8 = .ok (.dup, 1) := by decide +kernel
theorem dX7_init_9 : decode cX7_init 9 = .ok (.invokespecial 11, 3) := by decide +kernel
theorem dX7_init_12 : decode cX7_init 12 = .ok (.putfield 12, 3) := by decide +kernel
theorem dX7_init_15 : decode cX7_init 15 = .ok (.aload_n 0, 1) := by decide +kernel
theorem dX7_init_16 : decode cX7_init 16 = .ok (.new 16, 3) := by decide +kernel
theorem dX7_init_19 : decode cX7_init 19 = .ok (.dup, 1) := by decide +kernel
theorem dX7_init_20 : decode cX7_init 20 = .ok (.invokespecial 18, 3) := by decide +kernel
theorem dX7_init_23 : decode cX7_init 23 = .ok (.putfield 19, 3) := by decide +kernel
theorem dX7_init_26 : decode cX7_init 26 = .ok (.aload_n 0, 1) := by decide +kernel
theorem dX7_init_27 : decode cX7_init 27 = .ok (.new 23, 3) := by decide +kernel
theorem dX7_init_30 : decode cX7_init 30 = .ok (.dup, 1) := by decide +kernel
theorem dX7_init_31 : decode cX7_init 31 = .ok (.invokespecial 25, 3) := by decide +kernel
theorem dX7_init_34 : decode cX7_init 34 = .ok (.putfield 26, 3) := by decide +kernel
theorem dX7_init_37 : decode cX7_init 37 = .ok (.aload_n 0, 1) := by decide +kernel
theorem dX7_init_38 : decode cX7_init 38 = .ok (.new 30, 3) := by decide +kernel
theorem dX7_init_41 : decode cX7_init 41 = .ok (.dup, 1) := by decide +kernel
theorem dX7_init_42 : decode cX7_init 42 = .ok (.invokespecial 32, 3) := by decide +kernel
theorem dX7_init_45 : decode cX7_init 45 = .ok (.putfield 33, 3) := by decide +kernel
theorem dX7_init_48 : decode cX7_init 48 = .ok (.aload_n 0, 1) := by decide +kernel
theorem dX7_init_49 : decode cX7_init 49 = .ok (.new 37, 3) := by decide +kernel
theorem dX7_init_52 : decode cX7_init 52 = .ok (.dup, 1) := by decide +kernel
theorem dX7_init_53 : decode cX7_init 53 = .ok (.invokespecial 39, 3) := by decide +kernel
theorem dX7_init_56 : decode cX7_init 56 = .ok (.putfield 40, 3) := by decide +kernel
theorem dX7_init_59 : decode cX7_init 59 = .ok (.aload_n 0, 1) := by decide +kernel
theorem dX7_init_60 : decode cX7_init 60 = .ok (.new 44, 3) := by decide +kernel
theorem dX7_init_63 : decode cX7_init 63 = .ok (.dup, 1) := by decide +kernel
theorem dX7_init_64 : decode cX7_init 64 = .ok (.invokespecial 46, 3) := by decide +kernel
theorem dX7_init_67 : decode cX7_init 67 = .ok (.putfield 47, 3) := by decide +kernel
theorem dX7_init_70 : decode cX7_init 70 = .ok (.aload_n 0, 1) := by decide +kernel
theorem dX7_init_71 : decode cX7_init 71 = .ok (.new 51, 3) := by decide +kernel
theorem dX7_init_74 : decode cX7_init 74 = .ok (.dup, 1) := by decide +kernel
theorem dX7_init_75 : decode cX7_init 75 = .ok (.invokespecial 53, 3) := by decide +kernel
theorem dX7_init_78 : decode cX7_init 78 = .ok (.putfield 54, 3) := by decide +kernel
theorem dX7_init_81 : decode cX7_init 81 = .ok (.aload_n 0, 1) := by decide +kernel
theorem dX7_init_82 : decode cX7_init 82 = .ok (.sipush 9999, 3) := by decide +kernel
theorem dX7_init_85 : decode cX7_init 85 = .ok (.putfield 58, 3) := by decide +kernel
theorem dX7_init_88 : decode cX7_init 88 = .ok (.return_, 1) := by decide +kernel
set_option maxRecDepth 20000 in
theorem ggX7_anew_X5_clear : GoodIn wsX7_anew wsX5_clear := goodIn_r _ [8, 9, 30, 31, 32, 33, 34] (by decide +kernel) (by decide +kernel)
set_option maxRecDepth 20000 in
theorem gX7_anew_X5_clear : GoodIn wsX7_anew (wsV RX7 62 RX5 yX5_clear wsX5_clear) := goodIn_app (goodIn_of _ (by decide +kernel)) ggX7_anew_X5_clear
set_option maxRecDepth 20000 in
theorem ggX7_anew_X4_forget : GoodIn wsX7_anew wsX4_forget := goodIn_r _ [14, 15, 35, 36, 37, 38, 39, 40, 41] (by decide +kernel) (by decide +kernel)
set_option maxRecDepth 20000 in
theorem gX7_anew_X4_forget : GoodIn wsX7_anew (wsV RX7 65 RX4 yX4_forget wsX4_forget) := goodIn_app (goodIn_of _ (by decide +kernel)) ggX7_anew_X4_forget
set_option maxRecDepth 20000 in
theorem ggX7_anew_X2_drop : GoodIn wsX7_anew wsX2_drop := goodIn_r _ [20, 21, 42, 43, 44, 45] (by decide +kernel) (by decide +kernel)
set_option maxRecDepth 20000 in
theorem gX7_anew_X2_drop : GoodIn wsX7_anew (wsV RX7 68 RX2 yX2_drop wsX2_drop) := goodIn_app (goodIn_of _ (by decide +kernel)) ggX7_anew_X2_drop
theorem dX7_anew_0 : decode cX7_anew 0 = .ok (.aload_n 0, 1) := by decide +kernel
theorem dX7_anew_1 : decode cX7_anew 1 = .ok (.getfield 12, 3) := by decide +kernel
theorem dX7_anew_4 : decode cX7_anew 4 = .ok (.invokevirtual 62, 3) := by decide +kernel
theorem dX7_anew_7 : decode cX7_anew 7 = .ok (.aload_n 0, 1) := by decide +kernel
theorem dX7_anew_8 : decode cX7_anew 8 = .ok (.getfield 26, 3) := by decide +kernel
theorem dX7_anew_11 : decode cX7_anew 11 = .ok (.invokevirtual 65, 3) := by decide +kernel
theorem dX7_anew_14 : decode cX7_anew 14 = .ok (.aload_n 0, 1) := by decide +kernel
theorem dX7_anew_15 : decode cX7_anew 15 = .ok (.getfield 40, 3) := by decide +kernel
theorem dX7_anew_18 : decode cX7_anew 18 = .ok (.invokevirtual 68, 3) := by decide +kernel
theorem dX7_anew_21 : decode cX7_anew 21 = .ok (.return_, 1) := by decide +kernel
set_option maxRecDepth 20000 in
theorem ggX7_stroke_X5_add : GoodIn wsX7_stroke wsX5_add := goodIn_r _ [6, 7, 8, 9, 10, 11, 5, 12, 13, 14, 15, 16, 17, 18, 19, 20, 21, 22, 23, 24, 25, 26, 27, 28, 29, 30, 31, 32, 33, 34, 35, 36, 37, 38, 39, 40, 49, 50, 51, 52, 53] (by decide +kernel) (by decide +kernel)
set_option maxRecDepth 20000 in
theorem gX7_stroke_X5_add : GoodIn wsX7_stroke (wsV RX7 71 RX5 yX5_add wsX5_add) := goodIn_app (goodIn_of _ (by decide +kernel)) ggX7_stroke_X5_add
theorem dX7_stroke_0 : decode cX7_stroke 0 = .ok (.aload_n 0, 1) := by decide +kernel
theorem dX7_stroke_1 : decode cX7_stroke 1 = .ok (.getfield 12, 3) := by decide +kernel
theorem dX7_stroke_4 : decode cX7_stroke 4 = .ok (.iload_n 1, 1) := by decide +kernel
theorem dX7_stroke_5 : decode cX7_stroke 5 = .ok (.iload_n 2, 1) := by decide +kernel
theorem dX7_stroke_6 : decode cX7_stroke 6 = .ok (.iload_n 3, 1) := by decide +kernel
theorem dX7_stroke_7 : decode cX7_stroke 7 = .ok (.iload 4, 2) := by decide +kernel
theorem dX7_stroke_9 : decode cX7_stroke 9 = .ok (.invokevirtual 71, 3) := by decide +kernel
theorem dX7_stroke_12 : decode cX7_stroke 12 = .ok (.ireturn, 1) := by decide +kernel
set_option maxRecDepth 20000 in
theorem ggX7_price_X3_put : GoodIn wsX7_price wsX3_put := goodIn_r _ [7, 8, 23] (by decide +kernel) (by decide +kernel)
set_option maxRecDepth 20000 in
theorem gX7_price_X3_put : GoodIn wsX7_price (wsV RX7 75 RX3 yX3_put wsX3_put) := goodIn_app (goodIn_of _ (by decide +kernel)) ggX7_price_X3_put
set_option maxRecDepth 20000 in
theorem ggX7_price_X4_forget : GoodIn wsX7_price wsX4_forget := goodIn_r _ [13, 14, 24, 25, 26, 27, 28, 29, 30] (by decide +kernel) (by decide +kernel)
set_option maxRecDepth 20000 in
theorem gX7_price_X4_forget : GoodIn wsX7_price (wsV RX7 65 RX4 yX4_forget wsX4_forget) := goodIn_app (goodIn_of _ (by decide +kernel)) ggX7_price_X4_forget
theorem dX7_price_0 : decode cX7_price 0 = .ok (.aload_n 0, 1) := by decide +kernel
theorem dX7_price_1 : decode cX7_price 1 = .ok (.getfield 19, 3) := by decide +kernel
theorem dX7_price_4 : decode cX7_price 4 = .ok (.iload_n 1, 1) := by decide +kernel
theorem dX7_price_5 : decode cX7_price 5 = .ok (.iload_n 2, 1) := by decide +kernel
theorem dX7_price_6 : decode cX7_price 6 = .ok (.invokevirtual 75, 3) := by decide +kernel
theorem dX7_price_9 : decode cX7_price 9 = .ok (.ifCond .ne 5, 3) := by decide +kernel
theorem dX7_price_12 : decode cX7_price 12 = .ok (.iconst 0, 1) := by decide +kernel
theorem dX7_price_13 : decode cX7_price 13 = .ok (.ireturn, 1) := by decide +kernel
theorem dX7_price_14 : decode cX7_price 14 = .ok (.aload_n 0, 1) := by decide +kernel
theorem dX7_price_15 : decode cX7_price 15 = .ok (.getfield 26, 3) := by decide +kernel
theorem dX7_price_18 : decode cX7_price 18 = .ok (.invokevirtual 65, 3) := by decide +kernel
theorem dX7_price_21 : decode cX7_price 21 = .ok (.iconst 1, 1) := by decide +kernel
theorem dX7_price_22 : decode cX7_price 22 = .ok (.ireturn, 1) := by decide +kernel
theorem dX7_longest_0 : decode cX7_longest 0 = .ok (.iload_n 1, 1) := by decide +kernel
theorem dX7_longest_1 : decode cX7_longest 1 = .ok (.iconst 1, 1) := by decide +kernel
theorem dX7_longest_2 : decode cX7_longest 2 = .ok (.if_icmp .lt 10, 3) := by decide +kernel
theorem dX7_longest_5 : decode cX7_longest 5 = .ok (.iload_n 1, 1) := by decide +kernel
theorem dX7_longest_6 : decode cX7_longest 6 = .ok (.sipush 9999, 3) := by decide +kernel
theorem dX7_longest_9 : decode cX7_longest 9 = .ok (.if_icmp .le 5, 3) := by decide +kernel
theorem dX7_longest_12 : decode cX7_longest 12 = .ok (.iconst 0, 1) := by decide +kernel
theorem dX7_longest_13 : decode cX7_longest 13 = .ok (.ireturn, 1) := by decide +kernel
theorem dX7_longest_14 : decode cX7_longest 14 = .ok (.aload_n 0, 1) := by decide +kernel
theorem dX7_longest_15 : decode cX7_longest 15 = .ok (.iload_n 1, 1) := by decide +kernel
theorem dX7_longest_16 : decode cX7_longest 16 = .ok (.putfield 58, 3) := by decide +kernel
theorem dX7_longest_19 : decode cX7_longest 19 = .ok (.iconst 1, 1) := by decide +kernel
theorem dX7_longest_20 : decode cX7_longest 20 = .ok (.ireturn, 1) := by decide +kernel
set_option maxRecDepth 20000 in
theorem ggX7_run_X5_holds : GoodIn wsX7_run wsX5_holds := goodIn_r _ [8, 9, 10, 11, 7, 12, 13, 113, 114, 115, 116, 117] (by decide +kernel) (by decide +kernel)
set_option maxRecDepth 20000 in
theorem gX7_run_X5_holds : GoodIn wsX7_run (wsV RX7 79 RX5 yX5_holds wsX5_holds) := goodIn_app (goodIn_of _ (by decide +kernel)) ggX7_run_X5_holds
set_option maxRecDepth 20000 in
theorem ggX7_run_X4_refresh : GoodIn wsX7_run wsX4_refresh := goodIn_r _ [18, 19, 20, 10, 11, 7, 12, 13, 21, 22, 23, 17, 24, 25, 26, 27, 28, 29, 30, 31, 32, 33, 34, 35, 36, 37, 38, 39, 40, 41, 42, 43, 44, 45, 46, 47, 48, 49, 50, 51, 52, 53, 54, 55, 56, 57, 58, 59, 60, 61, 62, 63, 64, 65, 66, 67, 68, 69, 70, 71, 72, 73, 74, 75, 76, 77, 118, 119, 120, 121, 122, 123, 124, 113, 114, 115, 116, 117, 125] (by decide +kernel) (by decide +kernel)
set_option maxRecDepth 20000 in
theorem gX7_run_X4_refresh : GoodIn wsX7_run (wsV RX7 83 RX4 yX4_refresh wsX4_refresh) := goodIn_app (goodIn_of _ (by decide +kernel)) ggX7_run_X4_refresh
set_option maxRecDepth 20000 in
theorem ggX7_run_X4_costOf : GoodIn wsX7_run wsX4_costOf := goodIn_r _ [81, 71, 118, 119, 120, 121, 122, 123, 124] (by decide +kernel) (by decide +kernel)
set_option maxRecDepth 20000 in
theorem gX7_run_X4_costOf : GoodIn wsX7_run (wsV RX7 87 RX4 yX4_costOf wsX4_costOf) := goodIn_app (goodIn_of _ (by decide +kernel)) ggX7_run_X4_costOf
set_option maxRecDepth 20000 in
theorem ggX7_run_X7_payOf : GoodIn wsX7_run wsX7_payOf := goodIn_r _ [84] (by decide +kernel) (by decide +kernel)
set_option maxRecDepth 20000 in
theorem gX7_run_X7_payOf : GoodIn wsX7_run (va_wsS RX7 91 yX7_payOf wsX7_payOf) := goodIn_app (goodIn_of _ (by decide +kernel)) ggX7_run_X7_payOf
set_option maxRecDepth 20000 in
theorem ggX7_run_X7_lengthOf : GoodIn wsX7_run wsX7_lengthOf := goodIn_r _ [87] (by decide +kernel) (by decide +kernel)
set_option maxRecDepth 20000 in
theorem gX7_run_X7_lengthOf : GoodIn wsX7_run (va_wsS RX7 94 yX7_lengthOf wsX7_lengthOf) := goodIn_app (goodIn_of _ (by decide +kernel)) ggX7_run_X7_lengthOf
set_option maxRecDepth 20000 in
theorem ggX7_run_X3_ofRun : GoodIn wsX7_run wsX3_ofRun := goodIn_r _ [91, 51, 83, 53, 84, 86, 87, 125] (by decide +kernel) (by decide +kernel)
set_option maxRecDepth 20000 in
theorem gX7_run_X3_ofRun : GoodIn wsX7_run (wsV RX7 97 RX3 yX3_ofRun wsX3_ofRun) := goodIn_app (goodIn_of _ (by decide +kernel)) ggX7_run_X3_ofRun
set_option maxRecDepth 20000 in
theorem ggX7_run_X4_jumpsOf : GoodIn wsX7_run wsX4_jumpsOf := goodIn_r _ [95, 31, 96, 97, 98, 99, 17, 100, 71, 69, 26, 101, 102, 103, 104, 25, 72, 53, 73, 86, 87, 118, 119, 120, 121, 122, 123, 124] (by decide +kernel) (by decide +kernel)
set_option maxRecDepth 20000 in
theorem gX7_run_X4_jumpsOf : GoodIn wsX7_run (wsV RX7 100 RX4 yX4_jumpsOf wsX4_jumpsOf) := goodIn_app (goodIn_of _ (by decide +kernel)) ggX7_run_X4_jumpsOf
theorem dX7_run_0 : decode cX7_run 0 = .ok (.aload_n 0, 1) := by decide +kernel
theorem dX7_run_1 : decode cX7_run 1 = .ok (.getfield 12, 3) := by decide +kernel
theorem dX7_run_4 : decode cX7_run 4 = .ok (.iload_n 1, 1) := by decide +kernel
theorem dX7_run_5 : decode cX7_run 5 = .ok (.invokevirtual 79, 3) := by decide +kernel
theorem dX7_run_8 : decode cX7_run 8 = .ok (.ifCond .ne 5, 3) := by decide +kernel
theorem dX7_run_11 : decode cX7_run 11 = .ok (.iconst (-1), 1) := by decide +kernel
theorem dX7_run_12 : decode cX7_run 12 = .ok (.ireturn, 1) := by decide +kernel
theorem dX7_run_13 : decode cX7_run 13 = .ok (.aload_n 0, 1) := by decide +kernel
theorem dX7_run_14 : decode cX7_run 14 = .ok (.getfield 26, 3) := by decide +kernel
theorem dX7_run_17 : decode cX7_run 17 = .ok (.aload_n 0, 1) := by decide +kernel
theorem dX7_run_18 : decode cX7_run 18 = .ok (.getfield 12, 3) := by decide +kernel
theorem dX7_run_21 : decode cX7_run 21 = .ok (.aload_n 0, 1) := by decide +kernel
theorem dX7_run_22 : decode cX7_run 22 = .ok (.getfield 19, 3) := by decide +kernel
theorem dX7_run_25 : decode cX7_run 25 = .ok (.invokevirtual 83, 3) := by decide +kernel
theorem dX7_run_28 : decode cX7_run 28 = .ok (.iload_n 2, 1) := by decide +kernel
theorem dX7_run_29 : decode cX7_run 29 = .ok (.tableswitch 80 0 3 #[31, 43, 55, 71], 31) := by decide +kernel
theorem dX7_run_60 : decode cX7_run 60 = .ok (.aload_n 0, 1) := by decide +kernel
theorem dX7_run_61 : decode cX7_run 61 = .ok (.getfield 26, 3) := by decide +kernel
theorem dX7_run_64 : decode cX7_run 64 = .ok (.iload_n 1, 1) := by decide +kernel
theorem dX7_run_65 : decode cX7_run 65 = .ok (.invokevirtual 87, 3) := by decide +kernel
theorem dX7_run_68 : decode cX7_run 68 = .ok (.invokestatic 91, 3) := by decide +kernel
theorem dX7_run_71 : decode cX7_run 71 = .ok (.ireturn, 1) := by decide +kernel
theorem dX7_run_72 : decode cX7_run 72 = .ok (.aload_n 0, 1) := by decide +kernel
theorem dX7_run_73 : decode cX7_run 73 = .ok (.getfield 26, 3) := by decide +kernel
theorem dX7_run_76 : decode cX7_run 76 = .ok (.iload_n 1, 1) := by decide +kernel
theorem dX7_run_77 : decode cX7_run 77 = .ok (.invokevirtual 87, 3) := by decide +kernel
theorem dX7_run_80 : decode cX7_run 80 = .ok (.invokestatic 94, 3) := by decide +kernel
theorem dX7_run_83 : decode cX7_run 83 = .ok (.ireturn, 1) := by decide +kernel
theorem dX7_run_84 : decode cX7_run 84 = .ok (.aload_n 0, 1) := by decide +kernel
theorem dX7_run_85 : decode cX7_run 85 = .ok (.getfield 19, 3) := by decide +kernel
theorem dX7_run_88 : decode cX7_run 88 = .ok (.aload_n 0, 1) := by decide +kernel
theorem dX7_run_89 : decode cX7_run 89 = .ok (.getfield 26, 3) := by decide +kernel
theorem dX7_run_92 : decode cX7_run 92 = .ok (.iload_n 1, 1) := by decide +kernel
theorem dX7_run_93 : decode cX7_run 93 = .ok (.invokevirtual 87, 3) := by decide +kernel
theorem dX7_run_96 : decode cX7_run 96 = .ok (.invokevirtual 97, 3) := by decide +kernel
theorem dX7_run_99 : decode cX7_run 99 = .ok (.ireturn, 1) := by decide +kernel
theorem dX7_run_100 : decode cX7_run 100 = .ok (.aload_n 0, 1) := by decide +kernel
theorem dX7_run_101 : decode cX7_run 101 = .ok (.getfield 26, 3) := by decide +kernel
theorem dX7_run_104 : decode cX7_run 104 = .ok (.iload_n 1, 1) := by decide +kernel
theorem dX7_run_105 : decode cX7_run 105 = .ok (.invokevirtual 100, 3) := by decide +kernel
theorem dX7_run_108 : decode cX7_run 108 = .ok (.ireturn, 1) := by decide +kernel
theorem dX7_run_109 : decode cX7_run 109 = .ok (.iconst (-1), 1) := by decide +kernel
theorem dX7_run_110 : decode cX7_run 110 = .ok (.ireturn, 1) := by decide +kernel
set_option maxRecDepth 20000 in
theorem ggX7_step_X5_holds : GoodIn wsX7_step wsX5_holds := goodIn_r _ [8, 9, 10, 11, 7, 12, 13, 99, 100, 101, 102, 103] (by decide +kernel) (by decide +kernel)
set_option maxRecDepth 20000 in
theorem gX7_step_X5_holds : GoodIn wsX7_step (wsV RX7 79 RX5 yX5_holds wsX5_holds) := goodIn_app (goodIn_of _ (by decide +kernel)) ggX7_step_X5_holds
set_option maxRecDepth 20000 in
theorem ggX7_step_X4_refresh : GoodIn wsX7_step wsX4_refresh := goodIn_r _ [18, 19, 20, 10, 11, 7, 12, 13, 21, 22, 23, 17, 24, 25, 26, 27, 28, 29, 30, 31, 32, 33, 34, 35, 36, 37, 38, 39, 40, 41, 42, 43, 44, 45, 46, 47, 48, 49, 50, 51, 52, 53, 54, 55, 56, 57, 58, 59, 60, 61, 62, 63, 64, 65, 66, 67, 68, 69, 70, 71, 72, 73, 74, 75, 76, 77, 104, 105, 106, 107, 108, 109, 110, 99, 100, 101, 102, 103, 111] (by decide +kernel) (by decide +kernel)
set_option maxRecDepth 20000 in
theorem gX7_step_X4_refresh : GoodIn wsX7_step (wsV RX7 83 RX4 yX4_refresh wsX4_refresh) := goodIn_app (goodIn_of _ (by decide +kernel)) ggX7_step_X4_refresh
set_option maxRecDepth 20000 in
theorem ggX7_step_X4_stepOf : GoodIn wsX7_step wsX4_stepOf := goodIn_r _ [81, 82, 83, 84, 85, 17, 86, 71, 69, 26, 87, 88, 89, 90, 25, 31, 72, 53, 73, 104, 105, 106, 107, 108, 109, 110] (by decide +kernel) (by decide +kernel)
set_option maxRecDepth 20000 in
theorem gX7_step_X4_stepOf : GoodIn wsX7_step (wsV RX7 103 RX4 yX4_stepOf wsX4_stepOf) := goodIn_app (goodIn_of _ (by decide +kernel)) ggX7_step_X4_stepOf
theorem dX7_step_0 : decode cX7_step 0 = .ok (.aload_n 0, 1) := by decide +kernel
theorem dX7_step_1 : decode cX7_step 1 = .ok (.getfield 12, 3) := by decide +kernel
theorem dX7_step_4 : decode cX7_step 4 = .ok (.iload_n 1, 1) := by decide +kernel
theorem dX7_step_5 : decode cX7_step 5 = .ok (.invokevirtual 79, 3) := by decide +kernel
theorem dX7_step_8 : decode cX7_step 8 = .ok (.ifCond .ne 5, 3) := by decide +kernel
theorem dX7_step_11 : decode cX7_step 11 = .ok (.iconst (-1), 1) := by decide +kernel
theorem dX7_step_12 : decode cX7_step 12 = .ok (.ireturn, 1) := by decide +kernel
theorem dX7_step_13 : decode cX7_step 13 = .ok (.aload_n 0, 1) := by decide +kernel
theorem dX7_step_14 : decode cX7_step 14 = .ok (.getfield 26, 3) := by decide +kernel
theorem dX7_step_17 : decode cX7_step 17 = .ok (.aload_n 0, 1) := by decide +kernel
theorem dX7_step_18 : decode cX7_step 18 = .ok (.getfield 12, 3) := by decide +kernel
theorem dX7_step_21 : decode cX7_step 21 = .ok (.aload_n 0, 1) := by decide +kernel
theorem dX7_step_22 : decode cX7_step 22 = .ok (.getfield 19, 3) := by decide +kernel
theorem dX7_step_25 : decode cX7_step 25 = .ok (.invokevirtual 83, 3) := by decide +kernel
theorem dX7_step_28 : decode cX7_step 28 = .ok (.aload_n 0, 1) := by decide +kernel
theorem dX7_step_29 : decode cX7_step 29 = .ok (.getfield 26, 3) := by decide +kernel
theorem dX7_step_32 : decode cX7_step 32 = .ok (.iload_n 1, 1) := by decide +kernel
theorem dX7_step_33 : decode cX7_step 33 = .ok (.iload_n 2, 1) := by decide +kernel
theorem dX7_step_34 : decode cX7_step 34 = .ok (.invokevirtual 103, 3) := by decide +kernel
theorem dX7_step_37 : decode cX7_step 37 = .ok (.ireturn, 1) := by decide +kernel
set_option maxRecDepth 20000 in
theorem ggX7_split_X4_refresh : GoodIn wsX7_split wsX4_refresh := goodIn_r _ [11, 12, 13, 14, 15, 16, 17, 18, 19, 20, 21, 10, 22, 23, 24, 25, 26, 27, 28, 29, 30, 31, 32, 33, 34, 35, 36, 37, 38, 39, 40, 41, 42, 43, 44, 45, 46, 47, 48, 49, 50, 51, 52, 53, 54, 55, 56, 57, 58, 59, 60, 61, 62, 63, 64, 65, 66, 67, 68, 69, 70, 71, 72, 73, 74, 75, 150, 151, 152, 153, 154, 155, 156, 157, 158, 159, 160, 161, 162] (by decide +kernel) (by decide +kernel)
set_option maxRecDepth 20000 in
theorem gX7_split_X4_refresh : GoodIn wsX7_split (wsV RX7 83 RX4 yX4_refresh wsX4_refresh) := goodIn_app (goodIn_of _ (by decide +kernel)) ggX7_split_X4_refresh
set_option maxRecDepth 20000 in
theorem ggX7_split_X5_all : GoodIn wsX7_split wsX5_all := goodIn_r _ [17, 18, 157, 158, 159, 160, 161] (by decide +kernel) (by decide +kernel)
set_option maxRecDepth 20000 in
theorem gX7_split_X5_all : GoodIn wsX7_split (wsV RX7 107 RX5 yX5_all wsX5_all) := goodIn_app (goodIn_of _ (by decide +kernel)) ggX7_split_X5_all
set_option maxRecDepth 20000 in
theorem ggX7_split_X6_search : GoodIn wsX7_split wsX6_search := goodIn_r _ [81, 82, 83, 84, 85, 86, 87, 80, 88, 89, 42, 39, 43, 90, 91, 92, 93, 94, 95, 96, 97, 98, 99, 100, 101, 102, 103, 104, 10, 105, 69, 106, 51, 107, 108, 109, 110, 47, 111, 49, 112, 113, 114, 115, 116, 163, 164, 150, 151, 152, 153, 154, 155, 156, 162] (by decide +kernel) (by decide +kernel)
set_option maxRecDepth 20000 in
theorem gX7_split_X6_search : GoodIn wsX7_split (wsV RX7 111 RX6 yX6_search wsX6_search) := goodIn_app (goodIn_of _ (by decide +kernel)) ggX7_split_X6_search
set_option maxRecDepth 20000 in
theorem ggX7_split_X6_tell : GoodIn wsX7_split wsX6_tell := goodIn_r _ [120, 121, 122, 123, 124, 125, 126, 127, 128, 129, 80, 130, 83, 90, 91, 92, 93, 94, 95, 96, 97, 98, 99, 100, 84, 82, 101, 102, 103, 104, 10, 105, 69, 106, 51, 107, 108, 109, 110, 47, 111, 49, 112, 113, 114, 115, 116, 131, 132, 133, 134, 135, 136, 137, 146, 147, 148, 149, 163, 164, 150, 151, 152, 153, 154, 155, 156, 162] (by decide +kernel) (by decide +kernel)
set_option maxRecDepth 20000 in
theorem gX7_split_X6_tell : GoodIn wsX7_split (wsV RX7 115 RX6 yX6_tell wsX6_tell) := goodIn_app (goodIn_of _ (by decide +kernel)) ggX7_split_X6_tell
theorem dX7_split_0 : decode cX7_split 0 = .ok (.aload_n 0, 1) := by decide +kernel
theorem dX7_split_1 : decode cX7_split 1 = .ok (.getfield 26, 3) := by decide +kernel
theorem dX7_split_4 : decode cX7_split 4 = .ok (.aload_n 0, 1) := by decide +kernel
theorem dX7_split_5 : decode cX7_split 5 = .ok (.getfield 12, 3) := by decide +kernel
theorem dX7_split_8 : decode cX7_split 8 = .ok (.aload_n 0, 1) := by decide +kernel
theorem dX7_split_9 : decode cX7_split 9 = .ok (.getfield 19, 3) := by decide +kernel
theorem dX7_split_12 : decode cX7_split 12 = .ok (.invokevirtual 83, 3) := by decide +kernel
theorem dX7_split_15 : decode cX7_split 15 = .ok (.aload_n 0, 1) := by decide +kernel
theorem dX7_split_16 : decode cX7_split 16 = .ok (.getfield 33, 3) := by decide +kernel
theorem dX7_split_19 : decode cX7_split 19 = .ok (.aload_n 0, 1) := by decide +kernel
theorem dX7_split_20 : decode cX7_split 20 = .ok (.getfield 26, 3) := by decide +kernel
theorem dX7_split_23 : decode cX7_split 23 = .ok (.aload_n 0, 1) := by decide +kernel
theorem dX7_split_24 : decode cX7_split 24 = .ok (.getfield 19, 3) := by decide +kernel
theorem dX7_split_27 : decode cX7_split 27 = .ok (.aload_n 0, 1) := by decide +kernel
theorem dX7_split_28 : decode cX7_split 28 = .ok (.getfield 12, 3) := by decide +kernel
theorem dX7_split_31 : decode cX7_split 31 = .ok (.invokevirtual 107, 3) := by decide +kernel
theorem dX7_split_34 : decode cX7_split 34 = .ok (.aload_n 0, 1) := by decide +kernel
theorem dX7_split_35 : decode cX7_split 35 = .ok (.getfield 58, 3) := by decide +kernel
theorem dX7_split_38 : decode cX7_split 38 = .ok (.invokevirtual 111, 3) := by decide +kernel
theorem dX7_split_41 : decode cX7_split 41 = .ok (.ifCond .ne 5, 3) := by decide +kernel
theorem dX7_split_44 : decode cX7_split 44 = .ok (.iconst (-1), 1) := by decide +kernel
theorem dX7_split_45 : decode cX7_split 45 = .ok (.ireturn, 1) := by decide +kernel
theorem dX7_split_46 : decode cX7_split 46 = .ok (.aload_n 0, 1) := by decide +kernel
theorem dX7_split_47 : decode cX7_split 47 = .ok (.getfield 33, 3) := by decide +kernel
theorem dX7_split_50 : decode cX7_split 50 = .ok (.aload_n 0, 1) := by decide +kernel
theorem dX7_split_51 : decode cX7_split 51 = .ok (.getfield 26, 3) := by decide +kernel
theorem dX7_split_54 : decode cX7_split 54 = .ok (.aload_n 0, 1) := by decide +kernel
theorem dX7_split_55 : decode cX7_split 55 = .ok (.getfield 19, 3) := by decide +kernel
theorem dX7_split_58 : decode cX7_split 58 = .ok (.aload_n 0, 1) := by decide +kernel
theorem dX7_split_59 : decode cX7_split 59 = .ok (.getfield 12, 3) := by decide +kernel
theorem dX7_split_62 : decode cX7_split 62 = .ok (.invokevirtual 107, 3) := by decide +kernel
theorem dX7_split_65 : decode cX7_split 65 = .ok (.aload_n 0, 1) := by decide +kernel
theorem dX7_split_66 : decode cX7_split 66 = .ok (.getfield 40, 3) := by decide +kernel
theorem dX7_split_69 : decode cX7_split 69 = .ok (.invokevirtual 115, 3) := by decide +kernel
theorem dX7_split_72 : decode cX7_split 72 = .ok (.aload_n 0, 1) := by decide +kernel
theorem dX7_split_73 : decode cX7_split 73 = .ok (.getfield 40, 3) := by decide +kernel
theorem dX7_split_76 : decode cX7_split 76 = .ok (.getfield 119, 3) := by decide +kernel
theorem dX7_split_79 : decode cX7_split 79 = .ok (.ireturn, 1) := by decide +kernel
theorem dX7_part_0 : decode cX7_part 0 = .ok (.iload_n 1, 1) := by decide +kernel
theorem dX7_part_1 : decode cX7_part 1 = .ok (.ifCond .lt 14, 3) := by decide +kernel
theorem dX7_part_4 : decode cX7_part 4 = .ok (.iload_n 1, 1) := by decide +kernel
theorem dX7_part_5 : decode cX7_part 5 = .ok (.aload_n 0, 1) := by decide +kernel
theorem dX7_part_6 : decode cX7_part 6 = .ok (.getfield 40, 3) := by decide +kernel
theorem dX7_part_9 : decode cX7_part 9 = .ok (.getfield 119, 3) := by decide +kernel
theorem dX7_part_12 : decode cX7_part 12 = .ok (.if_icmp .lt 13, 3) := by decide +kernel
theorem dX7_part_15 : decode cX7_part 15 = .ok (.new 122, 3) := by decide +kernel
theorem dX7_part_18 : decode cX7_part 18 = .ok (.dup, 1) := by decide +kernel
theorem dX7_part_19 : decode cX7_part 19 = .ok (.ldc 124, 2) := by decide +kernel
theorem dX7_part_21 : decode cX7_part 21 = .ok (.invokespecial 126, 3) := by decide +kernel
theorem dX7_part_24 : decode cX7_part 24 = .ok (.athrow, 1) := by decide +kernel
theorem dX7_part_25 : decode cX7_part 25 = .ok (.iload_n 2, 1) := by decide +kernel
theorem dX7_part_26 : decode cX7_part 26 = .ok (.tableswitch 56 0 2 #[26, 36, 46], 26) := by decide +kernel
theorem dX7_part_52 : decode cX7_part 52 = .ok (.aload_n 0, 1) := by decide +kernel
theorem dX7_part_53 : decode cX7_part 53 = .ok (.getfield 40, 3) := by decide +kernel
theorem dX7_part_56 : decode cX7_part 56 = .ok (.getfield 129, 3) := by decide +kernel
theorem dX7_part_59 : decode cX7_part 59 = .ok (.iload_n 1, 1) := by decide +kernel
theorem dX7_part_60 : decode cX7_part 60 = .ok (.iaload, 1) := by decide +kernel
theorem dX7_part_61 : decode cX7_part 61 = .ok (.ireturn, 1) := by decide +kernel
theorem dX7_part_62 : decode cX7_part 62 = .ok (.aload_n 0, 1) := by decide +kernel
theorem dX7_part_63 : decode cX7_part 63 = .ok (.getfield 40, 3) := by decide +kernel
theorem dX7_part_66 : decode cX7_part 66 = .ok (.getfield 133, 3) := by decide +kernel
theorem dX7_part_69 : decode cX7_part 69 = .ok (.iload_n 1, 1) := by decide +kernel
theorem dX7_part_70 : decode cX7_part 70 = .ok (.iaload, 1) := by decide +kernel
theorem dX7_part_71 : decode cX7_part 71 = .ok (.ireturn, 1) := by decide +kernel
theorem dX7_part_72 : decode cX7_part 72 = .ok (.aload_n 0, 1) := by decide +kernel
theorem dX7_part_73 : decode cX7_part 73 = .ok (.getfield 40, 3) := by decide +kernel
theorem dX7_part_76 : decode cX7_part 76 = .ok (.getfield 136, 3) := by decide +kernel
theorem dX7_part_79 : decode cX7_part 79 = .ok (.iload_n 1, 1) := by decide +kernel
theorem dX7_part_80 : decode cX7_part 80 = .ok (.iaload, 1) := by decide +kernel
theorem dX7_part_81 : decode cX7_part 81 = .ok (.ireturn, 1) := by decide +kernel
theorem dX7_part_82 : decode cX7_part 82 = .ok (.new 139, 3) := by decide +kernel
theorem dX7_part_85 : decode cX7_part 85 = .ok (.dup, 1) := by decide +kernel
theorem dX7_part_86 : decode cX7_part 86 = .ok (.ldc 141, 2) := by decide +kernel
theorem dX7_part_88 : decode cX7_part 88 = .ok (.invokespecial 143, 3) := by decide +kernel
theorem dX7_part_91 : decode cX7_part 91 = .ok (.athrow, 1) := by decide +kernel
set_option maxRecDepth 20000 in
theorem ggX7_feed_X2_areThere : GoodIn wsX7_feed wsX2_areThere := goodIn_r _ [8, 9, 38, 39, 40, 41] (by decide +kernel) (by decide +kernel)
set_option maxRecDepth 20000 in
theorem gX7_feed_X2_areThere : GoodIn wsX7_feed (wsV RX7 145 RX2 yX2_areThere wsX2_areThere) := goodIn_app (goodIn_of _ (by decide +kernel)) ggX7_feed_X2_areThere
set_option maxRecDepth 20000 in
theorem ggX7_feed_X0_fewest : GoodIn wsX7_feed wsX0_fewest := goodIn_r _ [14, 15, 16, 17, 18, 19, 20, 13, 21, 22, 23, 24, 25, 26, 27, 28, 29, 38, 39, 40, 41, 42, 43] (by decide +kernel) (by decide +kernel)
set_option maxRecDepth 20000 in
theorem gX7_feed_X0_fewest : GoodIn wsX7_feed (wsV RX7 149 RX0 yX0_fewest wsX0_fewest) := goodIn_app (goodIn_of _ (by decide +kernel)) ggX7_feed_X0_fewest
theorem dX7_feed_0 : decode cX7_feed 0 = .ok (.iload_n 1, 1) := by decide +kernel
theorem dX7_feed_1 : decode cX7_feed 1 = .ok (.ifCond .lt 30, 3) := by decide +kernel
theorem dX7_feed_4 : decode cX7_feed 4 = .ok (.iload_n 1, 1) := by decide +kernel
theorem dX7_feed_5 : decode cX7_feed 5 = .ok (.bipush 99, 2) := by decide +kernel
theorem dX7_feed_7 : decode cX7_feed 7 = .ok (.if_icmp .gt 24, 3) := by decide +kernel
theorem dX7_feed_10 : decode cX7_feed 10 = .ok (.iload_n 2, 1) := by decide +kernel
theorem dX7_feed_11 : decode cX7_feed 11 = .ok (.iconst 1, 1) := by decide +kernel
theorem dX7_feed_12 : decode cX7_feed 12 = .ok (.if_icmp .lt 19, 3) := by decide +kernel
theorem dX7_feed_15 : decode cX7_feed 15 = .ok (.iload_n 2, 1) := by decide +kernel
theorem dX7_feed_16 : decode cX7_feed 16 = .ok (.ldc 144, 2) := by decide +kernel
theorem dX7_feed_18 : decode cX7_feed 18 = .ok (.if_icmp .gt 13, 3) := by decide +kernel
theorem dX7_feed_21 : decode cX7_feed 21 = .ok (.aload_n 0, 1) := by decide +kernel
theorem dX7_feed_22 : decode cX7_feed 22 = .ok (.getfield 40, 3) := by decide +kernel
theorem dX7_feed_25 : decode cX7_feed 25 = .ok (.invokevirtual 145, 3) := by decide +kernel
theorem dX7_feed_28 : decode cX7_feed 28 = .ok (.ifCond .ne 5, 3) := by decide +kernel
theorem dX7_feed_31 : decode cX7_feed 31 = .ok (.iconst (-1), 1) := by decide +kernel
theorem dX7_feed_32 : decode cX7_feed 32 = .ok (.ireturn, 1) := by decide +kernel
theorem dX7_feed_33 : decode cX7_feed 33 = .ok (.aload_n 0, 1) := by decide +kernel
theorem dX7_feed_34 : decode cX7_feed 34 = .ok (.getfield 47, 3) := by decide +kernel
theorem dX7_feed_37 : decode cX7_feed 37 = .ok (.aload_n 0, 1) := by decide +kernel
theorem dX7_feed_38 : decode cX7_feed 38 = .ok (.getfield 40, 3) := by decide +kernel
theorem dX7_feed_41 : decode cX7_feed 41 = .ok (.iload_n 1, 1) := by decide +kernel
theorem dX7_feed_42 : decode cX7_feed 42 = .ok (.iload_n 2, 1) := by decide +kernel
theorem dX7_feed_43 : decode cX7_feed 43 = .ok (.invokevirtual 149, 3) := by decide +kernel
theorem dX7_feed_46 : decode cX7_feed 46 = .ok (.ireturn, 1) := by decide +kernel
set_option maxRecDepth 20000 in
theorem ggX7_dead_X2_areThere : GoodIn wsX7_dead wsX2_areThere := goodIn_r _ [7, 8, 36, 37, 38, 39] (by decide +kernel) (by decide +kernel)
set_option maxRecDepth 20000 in
theorem gX7_dead_X2_areThere : GoodIn wsX7_dead (wsV RX7 145 RX2 yX2_areThere wsX2_areThere) := goodIn_app (goodIn_of _ (by decide +kernel)) ggX7_dead_X2_areThere
set_option maxRecDepth 20000 in
theorem ggX7_dead_X1_weigh : GoodIn wsX7_dead wsX1_weigh := goodIn_r _ [13, 14, 15, 16, 17, 18, 19, 12, 20, 21, 22, 23, 24, 33, 34, 35, 36, 37, 38, 39] (by decide +kernel) (by decide +kernel)
set_option maxRecDepth 20000 in
theorem gX7_dead_X1_weigh : GoodIn wsX7_dead (wsV RX7 153 RX1 yX1_weigh wsX1_weigh) := goodIn_app (goodIn_of _ (by decide +kernel)) ggX7_dead_X1_weigh
theorem dX7_dead_0 : decode cX7_dead 0 = .ok (.aload_n 0, 1) := by decide +kernel
theorem dX7_dead_1 : decode cX7_dead 1 = .ok (.getfield 40, 3) := by decide +kernel
theorem dX7_dead_4 : decode cX7_dead 4 = .ok (.invokevirtual 145, 3) := by decide +kernel
theorem dX7_dead_7 : decode cX7_dead 7 = .ok (.ifCond .eq 12, 3) := by decide +kernel
theorem dX7_dead_10 : decode cX7_dead 10 = .ok (.iload_n 1, 1) := by decide +kernel
theorem dX7_dead_11 : decode cX7_dead 11 = .ok (.ifCond .lt 8, 3) := by decide +kernel
theorem dX7_dead_14 : decode cX7_dead 14 = .ok (.iload_n 1, 1) := by decide +kernel
theorem dX7_dead_15 : decode cX7_dead 15 = .ok (.iconst 1, 1) := by decide +kernel
theorem dX7_dead_16 : decode cX7_dead 16 = .ok (.if_icmp .le 5, 3) := by decide +kernel
theorem dX7_dead_19 : decode cX7_dead 19 = .ok (.iconst (-1), 1) := by decide +kernel
theorem dX7_dead_20 : decode cX7_dead 20 = .ok (.ireturn, 1) := by decide +kernel
theorem dX7_dead_21 : decode cX7_dead 21 = .ok (.aload_n 0, 1) := by decide +kernel
theorem dX7_dead_22 : decode cX7_dead 22 = .ok (.getfield 54, 3) := by decide +kernel
theorem dX7_dead_25 : decode cX7_dead 25 = .ok (.aload_n 0, 1) := by decide +kernel
theorem dX7_dead_26 : decode cX7_dead 26 = .ok (.getfield 40, 3) := by decide +kernel
theorem dX7_dead_29 : decode cX7_dead 29 = .ok (.invokevirtual 153, 3) := by decide +kernel
theorem dX7_dead_32 : decode cX7_dead 32 = .ok (.iload_n 1, 1) := by decide +kernel
theorem dX7_dead_33 : decode cX7_dead 33 = .ok (.ifCond .ne 13, 3) := by decide +kernel
theorem dX7_dead_36 : decode cX7_dead 36 = .ok (.aload_n 0, 1) := by decide +kernel
theorem dX7_dead_37 : decode cX7_dead 37 = .ok (.getfield 54, 3) := by decide +kernel
theorem dX7_dead_40 : decode cX7_dead 40 = .ok (.getfield 157, 3) := by decide +kernel
theorem dX7_dead_43 : decode cX7_dead 43 = .ok (.goto 10, 3) := by decide +kernel
theorem dX7_dead_46 : decode cX7_dead 46 = .ok (.aload_n 0, 1) := by decide +kernel
theorem dX7_dead_47 : decode cX7_dead 47 = .ok (.getfield 54, 3) := by decide +kernel
theorem dX7_dead_50 : decode cX7_dead 50 = .ok (.getfield 160, 3) := by decide +kernel
theorem dX7_dead_53 : decode cX7_dead 53 = .ok (.ireturn, 1) := by decide +kernel
theorem dX7_look_0 : decode cX7_look 0 = .ok (.iload_n 1, 1) := by decide +kernel
theorem dX7_look_1 : decode cX7_look 1 = .ok (.ifCond .lt 14, 3) := by decide +kernel
theorem dX7_look_4 : decode cX7_look 4 = .ok (.iload_n 1, 1) := by decide +kernel
theorem dX7_look_5 : decode cX7_look 5 = .ok (.aload_n 0, 1) := by decide +kernel
theorem dX7_look_6 : decode cX7_look 6 = .ok (.getfield 12, 3) := by decide +kernel
theorem dX7_look_9 : decode cX7_look 9 = .ok (.getfield 163, 3) := by decide +kernel
theorem dX7_look_12 : decode cX7_look 12 = .ok (.if_icmp .lt 13, 3) := by decide +kernel
theorem dX7_look_15 : decode cX7_look 15 = .ok (.new 122, 3) := by decide +kernel
theorem dX7_look_18 : decode cX7_look 18 = .ok (.dup, 1) := by decide +kernel
theorem dX7_look_19 : decode cX7_look 19 = .ok (.ldc 164, 2) := by decide +kernel
theorem dX7_look_21 : decode cX7_look 21 = .ok (.invokespecial 126, 3) := by decide +kernel
theorem dX7_look_24 : decode cX7_look 24 = .ok (.athrow, 1) := by decide +kernel
theorem dX7_look_25 : decode cX7_look 25 = .ok (.iload_n 2, 1) := by decide +kernel
theorem dX7_look_26 : decode cX7_look 26 = .ok (.lookupswitch 48 #[(0, 26), (1, 36)], 26) := by decide +kernel
theorem dX7_look_52 : decode cX7_look 52 = .ok (.aload_n 0, 1) := by decide +kernel
theorem dX7_look_53 : decode cX7_look 53 = .ok (.getfield 12, 3) := by decide +kernel
theorem dX7_look_56 : decode cX7_look 56 = .ok (.getfield 166, 3) := by decide +kernel
theorem dX7_look_59 : decode cX7_look 59 = .ok (.iload_n 1, 1) := by decide +kernel
theorem dX7_look_60 : decode cX7_look 60 = .ok (.iaload, 1) := by decide +kernel
theorem dX7_look_61 : decode cX7_look 61 = .ok (.ireturn, 1) := by decide +kernel
theorem dX7_look_62 : decode cX7_look 62 = .ok (.aload_n 0, 1) := by decide +kernel
theorem dX7_look_63 : decode cX7_look 63 = .ok (.getfield 12, 3) := by decide +kernel
theorem dX7_look_66 : decode cX7_look 66 = .ok (.getfield 167, 3) := by decide +kernel
theorem dX7_look_69 : decode cX7_look 69 = .ok (.iconst 2, 1) := by decide +kernel
theorem dX7_look_70 : decode cX7_look 70 = .ok (.iload_n 1, 1) := by decide +kernel
theorem dX7_look_71 : decode cX7_look 71 = .ok (.imul, 1) := by decide +kernel
theorem dX7_look_72 : decode cX7_look 72 = .ok (.iaload, 1) := by decide +kernel
theorem dX7_look_73 : decode cX7_look 73 = .ok (.ireturn, 1) := by decide +kernel
theorem dX7_look_74 : decode cX7_look 74 = .ok (.new 139, 3) := by decide +kernel
theorem dX7_look_77 : decode cX7_look 77 = .ok (.dup, 1) := by decide +kernel
theorem dX7_look_78 : decode cX7_look 78 = .ok (.ldc 170, 2) := by decide +kernel
theorem dX7_look_80 : decode cX7_look 80 = .ok (.invokespecial 143, 3) := by decide +kernel
theorem dX7_look_83 : decode cX7_look 83 = .ok (.athrow, 1) := by decide +kernel
set_option maxRecDepth 20000 in
theorem ggX7_count_X5_wholeLength : GoodIn wsX7_count wsX5_wholeLength := goodIn_r _ [8, 9, 10, 30, 31, 32, 33, 34] (by decide +kernel) (by decide +kernel)
set_option maxRecDepth 20000 in
theorem gX7_count_X5_wholeLength : GoodIn wsX7_count (wsV RX7 172 RX5 yX5_wholeLength wsX5_wholeLength) := goodIn_app (goodIn_of _ (by decide +kernel)) ggX7_count_X5_wholeLength
set_option maxRecDepth 20000 in
theorem ggX7_count_X2_wholePrice : GoodIn wsX7_count wsX2_wholePrice := goodIn_r _ [15, 16, 17, 18, 19, 20, 14, 21, 35, 36, 37, 38] (by decide +kernel) (by decide +kernel)
set_option maxRecDepth 20000 in
theorem gX7_count_X2_wholePrice : GoodIn wsX7_count (wsV RX7 175 RX2 yX2_wholePrice wsX2_wholePrice) := goodIn_app (goodIn_of _ (by decide +kernel)) ggX7_count_X2_wholePrice
theorem dX7_count_0 : decode cX7_count 0 = .ok (.iload_n 1, 1) := by decide +kernel
theorem dX7_count_1 : decode cX7_count 1 = .ok (.tableswitch 72 0 4 #[35, 43, 51, 59, 67], 35) := by decide +kernel
theorem dX7_count_36 : decode cX7_count 36 = .ok (.aload_n 0, 1) := by decide +kernel
theorem dX7_count_37 : decode cX7_count 37 = .ok (.getfield 12, 3) := by decide +kernel
theorem dX7_count_40 : decode cX7_count 40 = .ok (.getfield 163, 3) := by decide +kernel
theorem dX7_count_43 : decode cX7_count 43 = .ok (.ireturn, 1) := by decide +kernel
theorem dX7_count_44 : decode cX7_count 44 = .ok (.aload_n 0, 1) := by decide +kernel
theorem dX7_count_45 : decode cX7_count 45 = .ok (.getfield 40, 3) := by decide +kernel
theorem dX7_count_48 : decode cX7_count 48 = .ok (.getfield 119, 3) := by decide +kernel
theorem dX7_count_51 : decode cX7_count 51 = .ok (.ireturn, 1) := by decide +kernel
theorem dX7_count_52 : decode cX7_count 52 = .ok (.aload_n 0, 1) := by decide +kernel
theorem dX7_count_53 : decode cX7_count 53 = .ok (.getfield 12, 3) := by decide +kernel
theorem dX7_count_56 : decode cX7_count 56 = .ok (.invokevirtual 172, 3) := by decide +kernel
theorem dX7_count_59 : decode cX7_count 59 = .ok (.ireturn, 1) := by decide +kernel
theorem dX7_count_60 : decode cX7_count 60 = .ok (.aload_n 0, 1) := by decide +kernel
theorem dX7_count_61 : decode cX7_count 61 = .ok (.getfield 40, 3) := by decide +kernel
theorem dX7_count_64 : decode cX7_count 64 = .ok (.invokevirtual 175, 3) := by decide +kernel
theorem dX7_count_67 : decode cX7_count 67 = .ok (.ireturn, 1) := by decide +kernel
theorem dX7_count_68 : decode cX7_count 68 = .ok (.aload_n 0, 1) := by decide +kernel
theorem dX7_count_69 : decode cX7_count 69 = .ok (.getfield 58, 3) := by decide +kernel
theorem dX7_count_72 : decode cX7_count 72 = .ok (.ireturn, 1) := by decide +kernel
theorem dX7_count_73 : decode cX7_count 73 = .ok (.iconst (-1), 1) := by decide +kernel
theorem dX7_count_74 : decode cX7_count 74 = .ok (.ireturn, 1) := by decide +kernel
theorem dX7_payOf_0 : decode cX7_payOf 0 = .ok (.iload_n 0, 1) := by decide +kernel
theorem dX7_payOf_1 : decode cX7_payOf 1 = .ok (.sipush 4096, 3) := by decide +kernel
theorem dX7_payOf_4 : decode cX7_payOf 4 = .ok (.idiv, 1) := by decide +kernel
theorem dX7_payOf_5 : decode cX7_payOf 5 = .ok (.ireturn, 1) := by decide +kernel
theorem dX7_lengthOf_0 : decode cX7_lengthOf 0 = .ok (.iload_n 0, 1) := by decide +kernel
theorem dX7_lengthOf_1 : decode cX7_lengthOf 1 = .ok (.sipush 4096, 3) := by decide +kernel
theorem dX7_lengthOf_4 : decode cX7_lengthOf 4 = .ok (.irem, 1) := by decide +kernel
theorem dX7_lengthOf_5 : decode cX7_lengthOf 5 = .ok (.ireturn, 1) := by decide +kernel
theorem dX7_bitOf_0 : decode cX7_bitOf 0 = .ok (.iconst 1, 1) := by decide +kernel
theorem dX7_bitOf_1 : decode cX7_bitOf 1 = .ok (.iload_n 0, 1) := by decide +kernel
theorem dX7_bitOf_2 : decode cX7_bitOf 2 = .ok (.iconst 1, 1) := by decide +kernel
theorem dX7_bitOf_3 : decode cX7_bitOf 3 = .ok (.ishr, 1) := by decide +kernel
theorem dX7_bitOf_4 : decode cX7_bitOf 4 = .ok (.ishl, 1) := by decide +kernel
theorem dX7_bitOf_5 : decode cX7_bitOf 5 = .ok (.ireturn, 1) := by decide +kernel
theorem dX7_distance_0 : decode cX7_distance 0 = .ok (.iload_n 0, 1) := by decide +kernel
theorem dX7_distance_1 : decode cX7_distance 1 = .ok (.invokestatic 178, 3) := by decide +kernel
theorem dX7_distance_4 : decode cX7_distance 4 = .ok (.istore_n 2, 1) := by decide +kernel
theorem dX7_distance_5 : decode cX7_distance 5 = .ok (.iload_n 1, 1) := by decide +kernel
theorem dX7_distance_6 : decode cX7_distance 6 = .ok (.invokestatic 178, 3) := by decide +kernel
theorem dX7_distance_9 : decode cX7_distance 9 = .ok (.istore_n 3, 1) := by decide +kernel
theorem dX7_distance_10 : decode cX7_distance 10 = .ok (.iload_n 2, 1) := by decide +kernel
theorem dX7_distance_11 : decode cX7_distance 11 = .ok (.iload_n 3, 1) := by decide +kernel
theorem dX7_distance_12 : decode cX7_distance 12 = .ok (.invokestatic 183, 3) := by decide +kernel
theorem dX7_distance_15 : decode cX7_distance 15 = .ok (.istore 4, 2) := by decide +kernel
theorem dX7_distance_17 : decode cX7_distance 17 = .ok (.bipush 14, 2) := by decide +kernel
theorem dX7_distance_19 : decode cX7_distance 19 = .ok (.iload 4, 2) := by decide +kernel
theorem dX7_distance_21 : decode cX7_distance 21 = .ok (.imul, 1) := by decide +kernel
theorem dX7_distance_22 : decode cX7_distance 22 = .ok (.bipush 10, 2) := by decide +kernel
theorem dX7_distance_24 : decode cX7_distance 24 = .ok (.iload_n 2, 1) := by decide +kernel
theorem dX7_distance_25 : decode cX7_distance 25 = .ok (.iload_n 3, 1) := by decide +kernel
theorem dX7_distance_26 : decode cX7_distance 26 = .ok (.invokestatic 186, 3) := by decide +kernel
theorem dX7_distance_29 : decode cX7_distance 29 = .ok (.iload 4, 2) := by decide +kernel
theorem dX7_distance_31 : decode cX7_distance 31 = .ok (.isub, 1) := by decide +kernel
theorem dX7_distance_32 : decode cX7_distance 32 = .ok (.imul, 1) := by decide +kernel
theorem dX7_distance_33 : decode cX7_distance 33 = .ok (.iadd, 1) := by decide +kernel
theorem dX7_distance_34 : decode cX7_distance 34 = .ok (.ireturn, 1) := by decide +kernel
theorem dX8_init_0 : decode cX8_init 0 = .ok (.aload_n 0, 1) := by decide +kernel
theorem dX8_init_1 : decode cX8_init 1 = .ok (.invokespecial 1, 3) := by decide +kernel
theorem dX8_init_4 : decode cX8_init 4 = .ok (.aload_n 0, 1) := by decide +kernel
theorem dX8_init_5 : decode cX8_init 5 = .ok (.bipush 9, 2) := by decide +kernel
theorem dX8_init_7 : decode cX8_init 7 = .ok (.newarray .int, 2) := by decide +kernel
theorem dX8_init_9 : decode cX8_init 9 = .ok (.putfield 7, 3) := by decide +kernel
theorem dX8_init_12 : decode cX8_init 12 = .ok (.aload_n 0, 1) := by decide +kernel
theorem dX8_init_13 : decode cX8_init 13 = .ok (.bipush 9, 2) := by decide +kernel
theorem dX8_init_15 : decode cX8_init 15 = .ok (.newarray .int, 2) := by decide +kernel
theorem dX8_init_17 : decode cX8_init 17 = .ok (.putfield 13, 3) := by decide +kernel
theorem dX8_init_20 : decode cX8_init 20 = .ok (.aload_n 0, 1) := by decide +kernel
theorem dX8_init_21 : decode cX8_init 21 = .ok (.bipush 9, 2) := by decide +kernel
theorem dX8_init_23 : decode cX8_init 23 = .ok (.newarray .int, 2) := by decide +kernel
theorem dX8_init_25 : decode cX8_init 25 = .ok (.putfield 16, 3) := by decide +kernel
theorem dX8_init_28 : decode cX8_init 28 = .ok (.aload_n 0, 1) := by decide +kernel
theorem dX8_init_29 : decode cX8_init 29 = .ok (.bipush 9, 2) := by decide +kernel
theorem dX8_init_31 : decode cX8_init 31 = .ok (.newarray .int, 2) := by decide +kernel
theorem dX8_init_33 : decode cX8_init 33 = .ok (.putfield 19, 3) := by decide +kernel
theorem dX8_init_36 : decode cX8_init 36 = .ok (.aload_n 0, 1) := by decide +kernel
theorem dX8_init_37 : decode cX8_init 37 = .ok (.bipush 9, 2) := by decide +kernel
theorem dX8_init_39 : decode cX8_init 39 = .ok (.newarray .int, 2) := by decide +kernel
theorem dX8_init_41 : decode cX8_init 41 = .ok (.putfield 22, 3) := by decide +kernel
theorem dX8_init_44 : decode cX8_init 44 = .ok (.aload_n 0, 1) := by decide +kernel
theorem dX8_init_45 : decode cX8_init 45 = .ok (.bipush 9, 2) := by decide +kernel
theorem dX8_init_47 : decode cX8_init 47 = .ok (.newarray .int, 2) := by decide +kernel
theorem dX8_init_49 : decode cX8_init 49 = .ok (.putfield 25, 3) := by decide +kernel
theorem dX8_init_52 : decode cX8_init 52 = .ok (.aload_n 0, 1) := by decide +kernel
theorem dX8_init_53 : decode cX8_init 53 = .ok (.bipush 7, 2) := by decide +kernel
theorem dX8_init_55 : decode cX8_init 55 = .ok (.newarray .int, 2) := by decide +kernel
theorem dX8_init_57 : decode cX8_init 57 = .ok (.dup, 1) := by decide +kernel
theorem dX8_init_58 : decode cX8_init 58 = .ok (.iconst 0, 1) := by decide +kernel
theorem dX8_init_59 : decode cX8_init 59 = .ok (.iconst 0, 1) := by decide +kernel
theorem dX8_init_60 : decode cX8_init 60 = .ok (.iastore, 1) := by decide +kernel
theorem dX8_init_61 : decode cX8_init 61 = .ok (.dup, 1) := by decide +kernel
theorem dX8_init_62 : decode cX8_init 62 = .ok (.iconst 1, 1) := by decide +kernel
theorem dX8_init_63 : decode cX8_init 63 = .ok (.iconst 1, 1) := by decide +kernel
theorem dX8_init_64 : decode cX8_init 64 = .ok (.iastore, 1) := by decide +kernel
theorem dX8_init_65 : decode cX8_init 65 = .ok (.dup, 1) := by decide +kernel
theorem dX8_init_66 : decode cX8_init 66 = .ok (.iconst 2, 1) := by decide +kernel
theorem dX8_init_67 : decode cX8_init 67 = .ok (.iconst 2, 1) := by decide +kernel
theorem dX8_init_68 : decode cX8_init 68 = .ok (.iastore, 1) := by decide +kernel
theorem dX8_init_69 : decode cX8_init 69 = .ok (.dup, 1) := by decide +kernel
theorem dX8_init_70 : decode cX8_init 70 = .ok (.iconst 3, 1) := by decide +kernel
theorem dX8_init_71 : decode cX8_init 71 = .ok (.iconst 4, 1) := by decide +kernel
theorem dX8_init_72 : decode cX8_init 72 = .ok (.iastore, 1) := by decide +kernel
theorem dX8_init_73 : decode cX8_init 73 = .ok (.dup, 1) := by decide +kernel
theorem dX8_init_74 : decode cX8_init 74 = .ok (.iconst 4, 1) := by decide +kernel
theorem dX8_init_75 : decode cX8_init 75 = .ok (.bipush 8, 2) := by decide +kernel
theorem dX8_init_77 : decode cX8_init 77 = .ok (.iastore, 1) := by decide +kernel
theorem dX8_init_78 : decode cX8_init 78 = .ok (.dup, 1) := by decide +kernel
theorem dX8_init_79 : decode cX8_init 79 = .ok (.iconst 5, 1) := by decide +kernel
theorem dX8_init_80 : decode cX8_init 80 = .ok (.iconst 5, 1) := by decide +kernel
theorem dX8_init_81 : decode cX8_init 81 = .ok (.iastore, 1) := by decide +kernel
theorem dX8_init_82 : decode cX8_init 82 = .ok (.dup, 1) := by decide +kernel
theorem dX8_init_83 : decode cX8_init 83 = .ok (.bipush 6, 2) := by decide +kernel
theorem dX8_init_85 : decode cX8_init 85 = .ok (.iconst 1, 1) := by decide +kernel
theorem dX8_init_86 : decode cX8_init 86 = .ok (.iastore, 1) := by decide +kernel
theorem dX8_init_87 : decode cX8_init 87 = .ok (.putfield 28, 3) := by decide +kernel
theorem dX8_init_90 : decode cX8_init 90 = .ok (.aload_n 0, 1) := by decide +kernel
theorem dX8_init_91 : decode cX8_init 91 = .ok (.sipush 9999, 3) := by decide +kernel
theorem dX8_init_94 : decode cX8_init 94 = .ok (.putfield 31, 3) := by decide +kernel
theorem dX8_init_97 : decode cX8_init 97 = .ok (.aload_n 0, 1) := by decide +kernel
theorem dX8_init_98 : decode cX8_init 98 = .ok (.sipush 9216, 3) := by decide +kernel
theorem dX8_init_101 : decode cX8_init 101 = .ok (.newarray .int, 2) := by decide +kernel
theorem dX8_init_103 : decode cX8_init 103 = .ok (.putfield 35, 3) := by decide +kernel
theorem dX8_init_106 : decode cX8_init 106 = .ok (.aload_n 0, 1) := by decide +kernel
theorem dX8_init_107 : decode cX8_init 107 = .ok (.sipush 512, 3) := by decide +kernel
theorem dX8_init_110 : decode cX8_init 110 = .ok (.newarray .int, 2) := by decide +kernel
theorem dX8_init_112 : decode cX8_init 112 = .ok (.putfield 38, 3) := by decide +kernel
theorem dX8_init_115 : decode cX8_init 115 = .ok (.aload_n 0, 1) := by decide +kernel
theorem dX8_init_116 : decode cX8_init 116 = .ok (.bipush 9, 2) := by decide +kernel
theorem dX8_init_118 : decode cX8_init 118 = .ok (.newarray .int, 2) := by decide +kernel
theorem dX8_init_120 : decode cX8_init 120 = .ok (.putfield 41, 3) := by decide +kernel
theorem dX8_init_123 : decode cX8_init 123 = .ok (.aload_n 0, 1) := by decide +kernel
theorem dX8_init_124 : decode cX8_init 124 = .ok (.bipush 9, 2) := by decide +kernel
theorem dX8_init_126 : decode cX8_init 126 = .ok (.newarray .int, 2) := by decide +kernel
theorem dX8_init_128 : decode cX8_init 128 = .ok (.putfield 44, 3) := by decide +kernel
theorem dX8_init_131 : decode cX8_init 131 = .ok (.aload_n 0, 1) := by decide +kernel
theorem dX8_init_132 : decode cX8_init 132 = .ok (.bipush 9, 2) := by decide +kernel
theorem dX8_init_134 : decode cX8_init 134 = .ok (.newarray .int, 2) := by decide +kernel
theorem dX8_init_136 : decode cX8_init 136 = .ok (.putfield 47, 3) := by decide +kernel
theorem dX8_init_139 : decode cX8_init 139 = .ok (.aload_n 0, 1) := by decide +kernel
theorem dX8_init_140 : decode cX8_init 140 = .ok (.bipush 9, 2) := by decide +kernel
theorem dX8_init_142 : decode cX8_init 142 = .ok (.newarray .int, 2) := by decide +kernel
theorem dX8_init_144 : decode cX8_init 144 = .ok (.putfield 50, 3) := by decide +kernel
theorem dX8_init_147 : decode cX8_init 147 = .ok (.aload_n 0, 1) := by decide +kernel
theorem dX8_init_148 : decode cX8_init 148 = .ok (.sipush 512, 3) := by decide +kernel
theorem dX8_init_151 : decode cX8_init 151 = .ok (.newarray .int, 2) := by decide +kernel
theorem dX8_init_153 : decode cX8_init 153 = .ok (.putfield 53, 3) := by decide +kernel
theorem dX8_init_156 : decode cX8_init 156 = .ok (.aload_n 0, 1) := by decide +kernel
theorem dX8_init_157 : decode cX8_init 157 = .ok (.sipush 512, 3) := by decide +kernel
theorem dX8_init_160 : decode cX8_init 160 = .ok (.newarray .int, 2) := by decide +kernel
theorem dX8_init_162 : decode cX8_init 162 = .ok (.putfield 56, 3) := by decide +kernel
theorem dX8_init_165 : decode cX8_init 165 = .ok (.aload_n 0, 1) := by decide +kernel
theorem dX8_init_166 : decode cX8_init 166 = .ok (.sipush 512, 3) := by decide +kernel
theorem dX8_init_169 : decode cX8_init 169 = .ok (.newarray .int, 2) := by decide +kernel
theorem dX8_init_171 : decode cX8_init 171 = .ok (.putfield 59, 3) := by decide +kernel
theorem dX8_init_174 : decode cX8_init 174 = .ok (.aload_n 0, 1) := by decide +kernel
theorem dX8_init_175 : decode cX8_init 175 = .ok (.sipush 512, 3) := by decide +kernel
theorem dX8_init_178 : decode cX8_init 178 = .ok (.newarray .int, 2) := by decide +kernel
theorem dX8_init_180 : decode cX8_init 180 = .ok (.putfield 62, 3) := by decide +kernel
theorem dX8_init_183 : decode cX8_init 183 = .ok (.aload_n 0, 1) := by decide +kernel
theorem dX8_init_184 : decode cX8_init 184 = .ok (.bipush 81, 2) := by decide +kernel
theorem dX8_init_186 : decode cX8_init 186 = .ok (.newarray .int, 2) := by decide +kernel
theorem dX8_init_188 : decode cX8_init 188 = .ok (.putfield 65, 3) := by decide +kernel
theorem dX8_init_191 : decode cX8_init 191 = .ok (.return_, 1) := by decide +kernel
theorem dX8_thrown_0 : decode cX8_thrown 0 = .ok (.aload_n 0, 1) := by decide +kernel
theorem dX8_thrown_1 : decode cX8_thrown 1 = .ok (.getfield 68, 3) := by decide +kernel
theorem dX8_thrown_4 : decode cX8_thrown 4 = .ok (.ireturn, 1) := by decide +kernel
theorem dX8_anew_0 : decode cX8_anew 0 = .ok (.aload_n 0, 1) := by decide +kernel
theorem dX8_anew_1 : decode cX8_anew 1 = .ok (.iconst 0, 1) := by decide +kernel
theorem dX8_anew_2 : decode cX8_anew 2 = .ok (.putfield 68, 3) := by decide +kernel
theorem dX8_anew_5 : decode cX8_anew 5 = .ok (.aload_n 0, 1) := by decide +kernel
theorem dX8_anew_6 : decode cX8_anew 6 = .ok (.iconst 0, 1) := by decide +kernel
theorem dX8_anew_7 : decode cX8_anew 7 = .ok (.putfield 71, 3) := by decide +kernel
theorem dX8_anew_10 : decode cX8_anew 10 = .ok (.aload_n 0, 1) := by decide +kernel
theorem dX8_anew_11 : decode cX8_anew 11 = .ok (.iconst 0, 1) := by decide +kernel
theorem dX8_anew_12 : decode cX8_anew 12 = .ok (.putfield 74, 3) := by decide +kernel
theorem dX8_anew_15 : decode cX8_anew 15 = .ok (.return_, 1) := by decide +kernel
theorem dX8_isPoint_0 : decode cX8_isPoint 0 = .ok (.iload_n 0, 1) := by decide +kernel
theorem dX8_isPoint_1 : decode cX8_isPoint 1 = .ok (.ifCond .lt 23, 3) := by decide +kernel
theorem dX8_isPoint_4 : decode cX8_isPoint 4 = .ok (.iload_n 0, 1) := by decide +kernel
theorem dX8_isPoint_5 : decode cX8_isPoint 5 = .ok (.bipush 9, 2) := by decide +kernel
theorem dX8_isPoint_7 : decode cX8_isPoint 7 = .ok (.if_icmp .gt 17, 3) := by decide +kernel
theorem dX8_isPoint_10 : decode cX8_isPoint 10 = .ok (.iload_n 1, 1) := by decide +kernel
theorem dX8_isPoint_11 : decode cX8_isPoint 11 = .ok (.ifCond .lt 13, 3) := by decide +kernel
theorem dX8_isPoint_14 : decode cX8_isPoint 14 = .ok (.iload_n 1, 1) := by decide +kernel
theorem dX8_isPoint_15 : decode cX8_isPoint 15 = .ok (.bipush 9, 2) := by decide +kernel
theorem dX8_isPoint_17 : decode cX8_isPoint 17 = .ok (.if_icmp .gt 7, 3) := by decide +kernel
theorem dX8_isPoint_20 : decode cX8_isPoint 20 = .ok (.iconst 1, 1) := by decide +kernel
theorem dX8_isPoint_21 : decode cX8_isPoint 21 = .ok (.goto 4, 3) := by decide +kernel
theorem dX8_isPoint_24 : decode cX8_isPoint 24 = .ok (.iconst 0, 1) := by decide +kernel
theorem dX8_isPoint_25 : decode cX8_isPoint 25 = .ok (.ireturn, 1) := by decide +kernel
theorem dX8_far_0 : decode cX8_far 0 = .ok (.iload_n 0, 1) := by decide +kernel
theorem dX8_far_1 : decode cX8_far 1 = .ok (.iload_n 1, 1) := by decide +kernel
theorem dX8_far_2 : decode cX8_far 2 = .ok (.if_icmp .ge 9, 3) := by decide +kernel
theorem dX8_far_5 : decode cX8_far 5 = .ok (.iload_n 1, 1) := by decide +kernel
theorem dX8_far_6 : decode cX8_far 6 = .ok (.iload_n 0, 1) := by decide +kernel
theorem dX8_far_7 : decode cX8_far 7 = .ok (.isub, 1) := by decide +kernel
theorem dX8_far_8 : decode cX8_far 8 = .ok (.goto 6, 3) := by decide +kernel
theorem dX8_far_11 : decode cX8_far 11 = .ok (.iload_n 0, 1) := by decide +kernel
theorem dX8_far_12 : decode cX8_far 12 = .ok (.iload_n 1, 1) := by decide +kernel
theorem dX8_far_13 : decode cX8_far 13 = .ok (.isub, 1) := by decide +kernel
theorem dX8_far_14 : decode cX8_far 14 = .ok (.ireturn, 1) := by decide +kernel
theorem dX8_sign_0 : decode cX8_sign 0 = .ok (.iload_n 0, 1) := by decide +kernel
theorem dX8_sign_1 : decode cX8_sign 1 = .ok (.ifCond .ge 7, 3) := by decide +kernel
theorem dX8_sign_4 : decode cX8_sign 4 = .ok (.iconst (-1), 1) := by decide +kernel
theorem dX8_sign_5 : decode cX8_sign 5 = .ok (.goto 12, 3) := by decide +kernel
theorem dX8_sign_8 : decode cX8_sign 8 = .ok (.iload_n 0, 1) := by decide +kernel
theorem dX8_sign_9 : decode cX8_sign 9 = .ok (.ifCond .le 7, 3) := by decide +kernel
theorem dX8_sign_12 : decode cX8_sign 12 = .ok (.iconst 1, 1) := by decide +kernel
theorem dX8_sign_13 : decode cX8_sign 13 = .ok (.goto 4, 3) := by decide +kernel
theorem dX8_sign_16 : decode cX8_sign 16 = .ok (.iconst 0, 1) := by decide +kernel
theorem dX8_sign_17 : decode cX8_sign 17 = .ok (.ireturn, 1) := by decide +kernel
theorem dX8_towards_0 : decode cX8_towards 0 = .ok (.iload_n 1, 1) := by decide +kernel
theorem dX8_towards_1 : decode cX8_towards 1 = .ok (.ifCond .ne 13, 3) := by decide +kernel
theorem dX8_towards_4 : decode cX8_towards 4 = .ok (.iload_n 0, 1) := by decide +kernel
theorem dX8_towards_5 : decode cX8_towards 5 = .ok (.ifCond .le 7, 3) := by decide +kernel
theorem dX8_towards_8 : decode cX8_towards 8 = .ok (.iconst 0, 1) := by decide +kernel
theorem dX8_towards_9 : decode cX8_towards 9 = .ok (.goto 4, 3) := by decide +kernel
theorem dX8_towards_12 : decode cX8_towards 12 = .ok (.iconst 4, 1) := by decide +kernel
theorem dX8_towards_13 : decode cX8_towards 13 = .ok (.ireturn, 1) := by decide +kernel
theorem dX8_towards_14 : decode cX8_towards 14 = .ok (.iload_n 0, 1) := by decide +kernel
theorem dX8_towards_15 : decode cX8_towards 15 = .ok (.ifCond .ne 14, 3) := by decide +kernel
theorem dX8_towards_18 : decode cX8_towards 18 = .ok (.iload_n 1, 1) := by decide +kernel
theorem dX8_towards_19 : decode cX8_towards 19 = .ok (.ifCond .le 7, 3) := by decide +kernel
theorem dX8_towards_22 : decode cX8_towards 22 = .ok (.iconst 2, 1) := by decide +kernel
theorem dX8_towards_23 : decode cX8_towards 23 = .ok (.goto 5, 3) := by decide +kernel
theorem dX8_towards_26 : decode cX8_towards 26 = .ok (.bipush 6, 2) := by decide +kernel
theorem dX8_towards_28 : decode cX8_towards 28 = .ok (.ireturn, 1) := by decide +kernel
theorem dX8_towards_29 : decode cX8_towards 29 = .ok (.iload_n 1, 1) := by decide +kernel
theorem dX8_towards_30 : decode cX8_towards 30 = .ok (.ifCond .le 15, 3) := by decide +kernel
theorem dX8_towards_33 : decode cX8_towards 33 = .ok (.iload_n 0, 1) := by decide +kernel
theorem dX8_towards_34 : decode cX8_towards 34 = .ok (.ifCond .le 7, 3) := by decide +kernel
theorem dX8_towards_37 : decode cX8_towards 37 = .ok (.iconst 1, 1) := by decide +kernel
theorem dX8_towards_38 : decode cX8_towards 38 = .ok (.goto 17, 3) := by decide +kernel
theorem dX8_towards_41 : decode cX8_towards 41 = .ok (.iconst 3, 1) := by decide +kernel
theorem dX8_towards_42 : decode cX8_towards 42 = .ok (.goto 13, 3) := by decide +kernel
theorem dX8_towards_45 : decode cX8_towards 45 = .ok (.iload_n 0, 1) := by decide +kernel
theorem dX8_towards_46 : decode cX8_towards 46 = .ok (.ifCond .le 8, 3) := by decide +kernel
theorem dX8_towards_49 : decode cX8_towards 49 = .ok (.bipush 7, 2) := by decide +kernel
theorem dX8_towards_51 : decode cX8_towards 51 = .ok (.goto 4, 3) := by decide +kernel
theorem dX8_towards_54 : decode cX8_towards 54 = .ok (.iconst 5, 1) := by decide +kernel
theorem dX8_towards_55 : decode cX8_towards 55 = .ok (.ireturn, 1) := by decide +kernel
set_option maxRecDepth 20000 in
theorem ggX8_piece_X8_far : GoodIn wsX8_piece wsX8_far := goodIn_r _ [4] (by decide +kernel) (by decide +kernel)
set_option maxRecDepth 20000 in
theorem gX8_piece_X8_far : GoodIn wsX8_piece (va_wsS RX8 78 yX8_far wsX8_far) := goodIn_app (goodIn_of _ (by decide +kernel)) ggX8_piece_X8_far
theorem dX8_piece_0 : decode cX8_piece 0 = .ok (.iload_n 0, 1) := by decide +kernel
theorem dX8_piece_1 : decode cX8_piece 1 = .ok (.iload_n 2, 1) := by decide +kernel
theorem dX8_piece_2 : decode cX8_piece 2 = .ok (.invokestatic 78, 3) := by decide +kernel
theorem dX8_piece_5 : decode cX8_piece 5 = .ok (.istore 4, 2) := by decide +kernel
theorem dX8_piece_7 : decode cX8_piece 7 = .ok (.iload_n 1, 1) := by decide +kernel
theorem dX8_piece_8 : decode cX8_piece 8 = .ok (.iload_n 3, 1) := by decide +kernel
theorem dX8_piece_9 : decode cX8_piece 9 = .ok (.invokestatic 78, 3) := by decide +kernel
theorem dX8_piece_12 : decode cX8_piece 12 = .ok (.istore 5, 2) := by decide +kernel
theorem dX8_piece_14 : decode cX8_piece 14 = .ok (.iload 4, 2) := by decide +kernel
theorem dX8_piece_16 : decode cX8_piece 16 = .ok (.iload 5, 2) := by decide +kernel
theorem dX8_piece_18 : decode cX8_piece 18 = .ok (.if_icmp .ge 20, 3) := by decide +kernel
theorem dX8_piece_21 : decode cX8_piece 21 = .ok (.bipush 14, 2) := by decide +kernel
theorem dX8_piece_23 : decode cX8_piece 23 = .ok (.iload 4, 2) := by decide +kernel
theorem dX8_piece_25 : decode cX8_piece 25 = .ok (.imul, 1) := by decide +kernel
theorem dX8_piece_26 : decode cX8_piece 26 = .ok (.bipush 10, 2) := by decide +kernel
theorem dX8_piece_28 : decode cX8_piece 28 = .ok (.iload 5, 2) := by decide +kernel
theorem dX8_piece_30 : decode cX8_piece 30 = .ok (.iload 4, 2) := by decide +kernel
theorem dX8_piece_32 : decode cX8_piece 32 = .ok (.isub, 1) := by decide +kernel
theorem dX8_piece_33 : decode cX8_piece 33 = .ok (.imul, 1) := by decide +kernel
theorem dX8_piece_34 : decode cX8_piece 34 = .ok (.iadd, 1) := by decide +kernel
theorem dX8_piece_35 : decode cX8_piece 35 = .ok (.goto 17, 3) := by decide +kernel
theorem dX8_piece_38 : decode cX8_piece 38 = .ok (.bipush 14, 2) := by decide +kernel
theorem dX8_piece_40 : decode cX8_piece 40 = .ok (.iload 5, 2) := by decide +kernel
theorem dX8_piece_42 : decode cX8_piece 42 = .ok (.imul, 1) := by decide +kernel
theorem dX8_piece_43 : decode cX8_piece 43 = .ok (.bipush 10, 2) := by decide +kernel
theorem dX8_piece_45 : decode cX8_piece 45 = .ok (.iload 4, 2) := by decide +kernel
theorem dX8_piece_47 : decode cX8_piece 47 = .ok (.iload 5, 2) := by decide +kernel
theorem dX8_piece_49 : decode cX8_piece 49 = .ok (.isub, 1) := by decide +kernel
theorem dX8_piece_50 : decode cX8_piece 50 = .ok (.imul, 1) := by decide +kernel
theorem dX8_piece_51 : decode cX8_piece 51 = .ok (.iadd, 1) := by decide +kernel
theorem dX8_piece_52 : decode cX8_piece 52 = .ok (.ireturn, 1) := by decide +kernel
set_option maxRecDepth 20000 in
theorem ggX8_stroke_X8_isPoint : GoodIn wsX8_stroke wsX8_isPoint := goodIn_r _ [12] (by decide +kernel) (by decide +kernel)
set_option maxRecDepth 20000 in
theorem gX8_stroke_X8_isPoint : GoodIn wsX8_stroke (va_wsS RX8 82 yX8_isPoint wsX8_isPoint) := goodIn_app (goodIn_of _ (by decide +kernel)) ggX8_stroke_X8_isPoint
set_option maxRecDepth 20000 in
theorem ggX8_stroke_X8_far : GoodIn wsX8_stroke wsX8_far := goodIn_r _ [15] (by decide +kernel) (by decide +kernel)
set_option maxRecDepth 20000 in
theorem gX8_stroke_X8_far : GoodIn wsX8_stroke (va_wsS RX8 78 yX8_far wsX8_far) := goodIn_app (goodIn_of _ (by decide +kernel)) ggX8_stroke_X8_far
set_option maxRecDepth 20000 in
theorem ggX8_stroke_X8_sign : GoodIn wsX8_stroke wsX8_sign := goodIn_r _ [18] (by decide +kernel) (by decide +kernel)
set_option maxRecDepth 20000 in
theorem gX8_stroke_X8_sign : GoodIn wsX8_stroke (va_wsS RX8 86 yX8_sign wsX8_sign) := goodIn_app (goodIn_of _ (by decide +kernel)) ggX8_stroke_X8_sign
set_option maxRecDepth 20000 in
theorem ggX8_stroke_X8_towards : GoodIn wsX8_stroke wsX8_towards := goodIn_r _ [21] (by decide +kernel) (by decide +kernel)
set_option maxRecDepth 20000 in
theorem gX8_stroke_X8_towards : GoodIn wsX8_stroke (va_wsS RX8 90 yX8_towards wsX8_towards) := goodIn_app (goodIn_of _ (by decide +kernel)) ggX8_stroke_X8_towards
set_option maxRecDepth 20000 in
theorem ggX8_stroke_X8_piece : GoodIn wsX8_stroke wsX8_piece := goodIn_r _ [24, 13, 14, 11, 15] (by decide +kernel) (by decide +kernel)
set_option maxRecDepth 20000 in
theorem gX8_stroke_X8_piece : GoodIn wsX8_stroke (va_wsS RX8 93 yX8_piece wsX8_piece) := goodIn_app (goodIn_of _ (by decide +kernel)) ggX8_stroke_X8_piece
theorem dX8_stroke_0 : decode cX8_stroke 0 = .ok (.aload_n 0, 1) := by decide +kernel
theorem dX8_stroke_1 : decode cX8_stroke 1 = .ok (.iconst 0, 1) := by decide +kernel
theorem dX8_stroke_2 : decode cX8_stroke 2 = .ok (.putfield 68, 3) := by decide +kernel
theorem dX8_stroke_5 : decode cX8_stroke 5 = .ok (.aload_n 0, 1) := by decide +kernel
theorem dX8_stroke_6 : decode cX8_stroke 6 = .ok (.getfield 71, 3) := by decide +kernel
theorem dX8_stroke_9 : decode cX8_stroke 9 = .ok (.bipush 9, 2) := by decide +kernel
theorem dX8_stroke_11 : decode cX8_stroke 11 = .ok (.if_icmp .eq 56, 3) := by decide +kernel
theorem dX8_stroke_14 : decode cX8_stroke 14 = .ok (.iload_n 1, 1) := by decide +kernel
theorem dX8_stroke_15 : decode cX8_stroke 15 = .ok (.iload_n 2, 1) := by decide +kernel
theorem dX8_stroke_16 : decode cX8_stroke 16 = .ok (.invokestatic 82, 3) := by decide +kernel
theorem dX8_stroke_19 : decode cX8_stroke 19 = .ok (.ifCond .eq 48, 3) := by decide +kernel
theorem dX8_stroke_22 : decode cX8_stroke 22 = .ok (.iload_n 3, 1) := by decide +kernel
theorem dX8_stroke_23 : decode cX8_stroke 23 = .ok (.iload 4, 2) := by decide +kernel
theorem dX8_stroke_25 : decode cX8_stroke 25 = .ok (.invokestatic 82, 3) := by decide +kernel
theorem dX8_stroke_28 : decode cX8_stroke 28 = .ok (.ifCond .eq 39, 3) := by decide +kernel
theorem dX8_stroke_31 : decode cX8_stroke 31 = .ok (.iload_n 1, 1) := by decide +kernel
theorem dX8_stroke_32 : decode cX8_stroke 32 = .ok (.iload_n 3, 1) := by decide +kernel
theorem dX8_stroke_33 : decode cX8_stroke 33 = .ok (.if_icmp .ne 9, 3) := by decide +kernel
theorem dX8_stroke_36 : decode cX8_stroke 36 = .ok (.iload_n 2, 1) := by decide +kernel
theorem dX8_stroke_37 : decode cX8_stroke 37 = .ok (.iload 4, 2) := by decide +kernel
theorem dX8_stroke_39 : decode cX8_stroke 39 = .ok (.if_icmp .eq 28, 3) := by decide +kernel
theorem dX8_stroke_42 : decode cX8_stroke 42 = .ok (.iload_n 1, 1) := by decide +kernel
theorem dX8_stroke_43 : decode cX8_stroke 43 = .ok (.iload_n 3, 1) := by decide +kernel
theorem dX8_stroke_44 : decode cX8_stroke 44 = .ok (.if_icmp .eq 25, 3) := by decide +kernel
theorem dX8_stroke_47 : decode cX8_stroke 47 = .ok (.iload_n 2, 1) := by decide +kernel
theorem dX8_stroke_48 : decode cX8_stroke 48 = .ok (.iload 4, 2) := by decide +kernel
theorem dX8_stroke_50 : decode cX8_stroke 50 = .ok (.if_icmp .eq 19, 3) := by decide +kernel
theorem dX8_stroke_53 : decode cX8_stroke 53 = .ok (.iload_n 1, 1) := by decide +kernel
theorem dX8_stroke_54 : decode cX8_stroke 54 = .ok (.iload_n 3, 1) := by decide +kernel
theorem dX8_stroke_55 : decode cX8_stroke 55 = .ok (.invokestatic 78, 3) := by decide +kernel
theorem dX8_stroke_58 : decode cX8_stroke 58 = .ok (.iload_n 2, 1) := by decide +kernel
theorem dX8_stroke_59 : decode cX8_stroke 59 = .ok (.iload 4, 2) := by decide +kernel
theorem dX8_stroke_61 : decode cX8_stroke 61 = .ok (.invokestatic 78, 3) := by decide +kernel
theorem dX8_stroke_64 : decode cX8_stroke 64 = .ok (.if_icmp .eq 5, 3) := by decide +kernel
theorem dX8_stroke_67 : decode cX8_stroke 67 = .ok (.iconst (-1), 1) := by decide +kernel
theorem dX8_stroke_68 : decode cX8_stroke 68 = .ok (.ireturn, 1) := by decide +kernel
theorem dX8_stroke_69 : decode cX8_stroke 69 = .ok (.aload_n 0, 1) := by decide +kernel
theorem dX8_stroke_70 : decode cX8_stroke 70 = .ok (.getfield 7, 3) := by decide +kernel
theorem dX8_stroke_73 : decode cX8_stroke 73 = .ok (.aload_n 0, 1) := by decide +kernel
theorem dX8_stroke_74 : decode cX8_stroke 74 = .ok (.getfield 71, 3) := by decide +kernel
theorem dX8_stroke_77 : decode cX8_stroke 77 = .ok (.iload_n 1, 1) := by decide +kernel
theorem dX8_stroke_78 : decode cX8_stroke 78 = .ok (.iastore, 1) := by decide +kernel
theorem dX8_stroke_79 : decode cX8_stroke 79 = .ok (.aload_n 0, 1) := by decide +kernel
theorem dX8_stroke_80 : decode cX8_stroke 80 = .ok (.getfield 13, 3) := by decide +kernel
theorem dX8_stroke_83 : decode cX8_stroke 83 = .ok (.aload_n 0, 1) := by decide +kernel
theorem dX8_stroke_84 : decode cX8_stroke 84 = .ok (.getfield 71, 3) := by decide +kernel
theorem dX8_stroke_87 : decode cX8_stroke 87 = .ok (.iload_n 2, 1) := by decide +kernel
theorem dX8_stroke_88 : decode cX8_stroke 88 = .ok (.iastore, 1) := by decide +kernel
theorem dX8_stroke_89 : decode cX8_stroke 89 = .ok (.aload_n 0, 1) := by decide +kernel
theorem dX8_stroke_90 : decode cX8_stroke 90 = .ok (.getfield 16, 3) := by decide +kernel
theorem dX8_stroke_93 : decode cX8_stroke 93 = .ok (.aload_n 0, 1) := by decide +kernel
theorem dX8_stroke_94 : decode cX8_stroke 94 = .ok (.getfield 71, 3) := by decide +kernel
theorem dX8_stroke_97 : decode cX8_stroke 97 = .ok (.iload_n 3, 1) := by decide +kernel
theorem dX8_stroke_98 : decode cX8_stroke 98 = .ok (.iastore, 1) := by decide +kernel
theorem dX8_stroke_99 : decode cX8_stroke 99 = .ok (.aload_n 0, 1) := by decide +kernel
theorem dX8_stroke_100 : decode cX8_stroke 100 = .ok (.getfield 19, 3) := by decide +kernel
theorem dX8_stroke_103 : decode cX8_stroke 103 = .ok (.aload_n 0, 1) := by decide +kernel
theorem dX8_stroke_104 : decode cX8_stroke 104 = .ok (.getfield 71, 3) := by decide +kernel
theorem dX8_stroke_107 : decode cX8_stroke 107 = .ok (.iload 4, 2) := by decide +kernel
theorem dX8_stroke_109 : decode cX8_stroke 109 = .ok (.iastore, 1) := by decide +kernel
theorem dX8_stroke_110 : decode cX8_stroke 110 = .ok (.aload_n 0, 1) := by decide +kernel
theorem dX8_stroke_111 : decode cX8_stroke 111 = .ok (.getfield 22, 3) := by decide +kernel
theorem dX8_stroke_114 : decode cX8_stroke 114 = .ok (.aload_n 0, 1) := by decide +kernel
theorem dX8_stroke_115 : decode cX8_stroke 115 = .ok (.getfield 71, 3) := by decide +kernel
theorem dX8_stroke_118 : decode cX8_stroke 118 = .ok (.iload_n 3, 1) := by decide +kernel
theorem dX8_stroke_119 : decode cX8_stroke 119 = .ok (.iload_n 1, 1) := by decide +kernel
theorem dX8_stroke_120 : decode cX8_stroke 120 = .ok (.isub, 1) := by decide +kernel
theorem dX8_stroke_121 : decode cX8_stroke 121 = .ok (.invokestatic 86, 3) := by decide +kernel
theorem dX8_stroke_124 : decode cX8_stroke 124 = .ok (.iload 4, 2) := by decide +kernel
theorem dX8_stroke_126 : decode cX8_stroke 126 = .ok (.iload_n 2, 1) := by decide +kernel
theorem dX8_stroke_127 : decode cX8_stroke 127 = .ok (.isub, 1) := by decide +kernel
theorem dX8_stroke_128 : decode cX8_stroke 128 = .ok (.invokestatic 86, 3) := by decide +kernel
theorem dX8_stroke_131 : decode cX8_stroke 131 = .ok (.invokestatic 90, 3) := by decide +kernel
theorem dX8_stroke_134 : decode cX8_stroke 134 = .ok (.iastore, 1) := by decide +kernel
theorem dX8_stroke_135 : decode cX8_stroke 135 = .ok (.aload_n 0, 1) := by decide +kernel
theorem dX8_stroke_136 : decode cX8_stroke 136 = .ok (.getfield 25, 3) := by decide +kernel
theorem dX8_stroke_139 : decode cX8_stroke 139 = .ok (.aload_n 0, 1) := by decide +kernel
theorem dX8_stroke_140 : decode cX8_stroke 140 = .ok (.getfield 71, 3) := by decide +kernel
theorem dX8_stroke_143 : decode cX8_stroke 143 = .ok (.iload_n 1, 1) := by decide +kernel
theorem dX8_stroke_144 : decode cX8_stroke 144 = .ok (.iload_n 2, 1) := by decide +kernel
theorem dX8_stroke_145 : decode cX8_stroke 145 = .ok (.iload_n 3, 1) := by decide +kernel
theorem dX8_stroke_146 : decode cX8_stroke 146 = .ok (.iload 4, 2) := by decide +kernel
theorem dX8_stroke_148 : decode cX8_stroke 148 = .ok (.invokestatic 93, 3) := by decide +kernel
theorem dX8_stroke_151 : decode cX8_stroke 151 = .ok (.iastore, 1) := by decide +kernel
theorem dX8_stroke_152 : decode cX8_stroke 152 = .ok (.aload_n 0, 1) := by decide +kernel
theorem dX8_stroke_153 : decode cX8_stroke 153 = .ok (.dup, 1) := by decide +kernel
theorem dX8_stroke_154 : decode cX8_stroke 154 = .ok (.getfield 71, 3) := by decide +kernel
theorem dX8_stroke_157 : decode cX8_stroke 157 = .ok (.iconst 1, 1) := by decide +kernel
theorem dX8_stroke_158 : decode cX8_stroke 158 = .ok (.iadd, 1) := by decide +kernel
theorem dX8_stroke_159 : decode cX8_stroke 159 = .ok (.putfield 71, 3) := by decide +kernel
theorem dX8_stroke_162 : decode cX8_stroke 162 = .ok (.aload_n 0, 1) := by decide +kernel
theorem dX8_stroke_163 : decode cX8_stroke 163 = .ok (.getfield 71, 3) := by decide +kernel
theorem dX8_stroke_166 : decode cX8_stroke 166 = .ok (.iconst 1, 1) := by decide +kernel
theorem dX8_stroke_167 : decode cX8_stroke 167 = .ok (.isub, 1) := by decide +kernel
theorem dX8_stroke_168 : decode cX8_stroke 168 = .ok (.ireturn, 1) := by decide +kernel
theorem dX8_price_0 : decode cX8_price 0 = .ok (.aload_n 0, 1) := by decide +kernel
theorem dX8_price_1 : decode cX8_price 1 = .ok (.iconst 0, 1) := by decide +kernel
theorem dX8_price_2 : decode cX8_price 2 = .ok (.putfield 68, 3) := by decide +kernel
theorem dX8_price_5 : decode cX8_price 5 = .ok (.iload_n 1, 1) := by decide +kernel
theorem dX8_price_6 : decode cX8_price 6 = .ok (.ifCond .lt 19, 3) := by decide +kernel
theorem dX8_price_9 : decode cX8_price 9 = .ok (.iload_n 1, 1) := by decide +kernel
theorem dX8_price_10 : decode cX8_price 10 = .ok (.bipush 6, 2) := by decide +kernel
theorem dX8_price_12 : decode cX8_price 12 = .ok (.if_icmp .gt 13, 3) := by decide +kernel
theorem dX8_price_15 : decode cX8_price 15 = .ok (.iload_n 2, 1) := by decide +kernel
theorem dX8_price_16 : decode cX8_price 16 = .ok (.ifCond .lt 9, 3) := by decide +kernel
theorem dX8_price_19 : decode cX8_price 19 = .ok (.iload_n 2, 1) := by decide +kernel
theorem dX8_price_20 : decode cX8_price 20 = .ok (.bipush 99, 2) := by decide +kernel
theorem dX8_price_22 : decode cX8_price 22 = .ok (.if_icmp .le 5, 3) := by decide +kernel
theorem dX8_price_25 : decode cX8_price 25 = .ok (.iconst 0, 1) := by decide +kernel
theorem dX8_price_26 : decode cX8_price 26 = .ok (.ireturn, 1) := by decide +kernel
theorem dX8_price_27 : decode cX8_price 27 = .ok (.aload_n 0, 1) := by decide +kernel
theorem dX8_price_28 : decode cX8_price 28 = .ok (.getfield 28, 3) := by decide +kernel
theorem dX8_price_31 : decode cX8_price 31 = .ok (.iload_n 1, 1) := by decide +kernel
theorem dX8_price_32 : decode cX8_price 32 = .ok (.iload_n 2, 1) := by decide +kernel
theorem dX8_price_33 : decode cX8_price 33 = .ok (.iastore, 1) := by decide +kernel
theorem dX8_price_34 : decode cX8_price 34 = .ok (.iconst 1, 1) := by decide +kernel
theorem dX8_price_35 : decode cX8_price 35 = .ok (.ireturn, 1) := by decide +kernel
theorem dX8_longest_0 : decode cX8_longest 0 = .ok (.aload_n 0, 1) := by decide +kernel
theorem dX8_longest_1 : decode cX8_longest 1 = .ok (.iconst 0, 1) := by decide +kernel
theorem dX8_longest_2 : decode cX8_longest 2 = .ok (.putfield 68, 3) := by decide +kernel
theorem dX8_longest_5 : decode cX8_longest 5 = .ok (.iload_n 1, 1) := by decide +kernel
theorem dX8_longest_6 : decode cX8_longest 6 = .ok (.iconst 1, 1) := by decide +kernel
theorem dX8_longest_7 : decode cX8_longest 7 = .ok (.if_icmp .lt 10, 3) := by decide +kernel
theorem dX8_longest_10 : decode cX8_longest 10 = .ok (.iload_n 1, 1) := by decide +kernel
theorem dX8_longest_11 : decode cX8_longest 11 = .ok (.sipush 9999, 3) := by decide +kernel
theorem dX8_longest_14 : decode cX8_longest 14 = .ok (.if_icmp .le 5, 3) := by decide +kernel
theorem dX8_longest_17 : decode cX8_longest 17 = .ok (.iconst 0, 1) := by decide +kernel
theorem dX8_longest_18 : decode cX8_longest 18 = .ok (.ireturn, 1) := by decide +kernel
theorem dX8_longest_19 : decode cX8_longest 19 = .ok (.aload_n 0, 1) := by decide +kernel
theorem dX8_longest_20 : decode cX8_longest 20 = .ok (.iload_n 1, 1) := by decide +kernel
theorem dX8_longest_21 : decode cX8_longest 21 = .ok (.putfield 31, 3) := by decide +kernel
theorem dX8_longest_24 : decode cX8_longest 24 = .ok (.iconst 1, 1) := by decide +kernel
theorem dX8_longest_25 : decode cX8_longest 25 = .ok (.ireturn, 1) := by decide +kernel
theorem dX8_atX_0 : decode cX8_atX 0 = .ok (.iload_n 1, 1) := by decide +kernel
theorem dX8_atX_1 : decode cX8_atX 1 = .ok (.iconst 2, 1) := by decide +kernel
theorem dX8_atX_2 : decode cX8_atX 2 = .ok (.irem, 1) := by decide +kernel
theorem dX8_atX_3 : decode cX8_atX 3 = .ok (.ifCond .ne 7, 3) := by decide +kernel
theorem dX8_atX_6 : decode cX8_atX 6 = .ok (.iconst 1, 1) := by decide +kernel
theorem dX8_atX_7 : decode cX8_atX 7 = .ok (.goto 4, 3) := by decide +kernel
theorem dX8_atX_10 : decode cX8_atX 10 = .ok (.iconst 0, 1) := by decide +kernel
theorem dX8_atX_11 : decode cX8_atX 11 = .ok (.iload_n 2, 1) := by decide +kernel
theorem dX8_atX_12 : decode cX8_atX 12 = .ok (.if_icmp .ne 14, 3) := by decide +kernel
theorem dX8_atX_15 : decode cX8_atX 15 = .ok (.aload_n 0, 1) := by decide +kernel
theorem dX8_atX_16 : decode cX8_atX 16 = .ok (.getfield 16, 3) := by decide +kernel
theorem dX8_atX_19 : decode cX8_atX 19 = .ok (.iload_n 1, 1) := by decide +kernel
theorem dX8_atX_20 : decode cX8_atX 20 = .ok (.iconst 2, 1) := by decide +kernel
theorem dX8_atX_21 : decode cX8_atX 21 = .ok (.idiv, 1) := by decide +kernel
theorem dX8_atX_22 : decode cX8_atX 22 = .ok (.iaload, 1) := by decide +kernel
theorem dX8_atX_23 : decode cX8_atX 23 = .ok (.goto 11, 3) := by decide +kernel
theorem dX8_atX_26 : decode cX8_atX 26 = .ok (.aload_n 0, 1) := by decide +kernel
theorem dX8_atX_27 : decode cX8_atX 27 = .ok (.getfield 7, 3) := by decide +kernel
theorem dX8_atX_30 : decode cX8_atX 30 = .ok (.iload_n 1, 1) := by decide +kernel
theorem dX8_atX_31 : decode cX8_atX 31 = .ok (.iconst 2, 1) := by decide +kernel
theorem dX8_atX_32 : decode cX8_atX 32 = .ok (.idiv, 1) := by decide +kernel
theorem dX8_atX_33 : decode cX8_atX 33 = .ok (.iaload, 1) := by decide +kernel
theorem dX8_atX_34 : decode cX8_atX 34 = .ok (.ireturn, 1) := by decide +kernel
theorem dX8_atY_0 : decode cX8_atY 0 = .ok (.iload_n 1, 1) := by decide +kernel
theorem dX8_atY_1 : decode cX8_atY 1 = .ok (.iconst 2, 1) := by decide +kernel
theorem dX8_atY_2 : decode cX8_atY 2 = .ok (.irem, 1) := by decide +kernel
theorem dX8_atY_3 : decode cX8_atY 3 = .ok (.ifCond .ne 7, 3) := by decide +kernel
theorem dX8_atY_6 : decode cX8_atY 6 = .ok (.iconst 1, 1) := by decide +kernel
theorem dX8_atY_7 : decode cX8_atY 7 = .ok (.goto 4, 3) := by decide +kernel
theorem dX8_atY_10 : decode cX8_atY 10 = .ok (.iconst 0, 1) := by decide +kernel
theorem dX8_atY_11 : decode cX8_atY 11 = .ok (.iload_n 2, 1) := by decide +kernel
theorem dX8_atY_12 : decode cX8_atY 12 = .ok (.if_icmp .ne 14, 3) := by decide +kernel
theorem dX8_atY_15 : decode cX8_atY 15 = .ok (.aload_n 0, 1) := by decide +kernel
theorem dX8_atY_16 : decode cX8_atY 16 = .ok (.getfield 19, 3) := by decide +kernel
theorem dX8_atY_19 : decode cX8_atY 19 = .ok (.iload_n 1, 1) := by decide +kernel
theorem dX8_atY_20 : decode cX8_atY 20 = .ok (.iconst 2, 1) := by decide +kernel
theorem dX8_atY_21 : decode cX8_atY 21 = .ok (.idiv, 1) := by decide +kernel
theorem dX8_atY_22 : decode cX8_atY 22 = .ok (.iaload, 1) := by decide +kernel
theorem dX8_atY_23 : decode cX8_atY 23 = .ok (.goto 11, 3) := by decide +kernel
theorem dX8_atY_26 : decode cX8_atY 26 = .ok (.aload_n 0, 1) := by decide +kernel
theorem dX8_atY_27 : decode cX8_atY 27 = .ok (.getfield 13, 3) := by decide +kernel
theorem dX8_atY_30 : decode cX8_atY 30 = .ok (.iload_n 1, 1) := by decide +kernel
theorem dX8_atY_31 : decode cX8_atY 31 = .ok (.iconst 2, 1) := by decide +kernel
theorem dX8_atY_32 : decode cX8_atY 32 = .ok (.idiv, 1) := by decide +kernel
theorem dX8_atY_33 : decode cX8_atY 33 = .ok (.iaload, 1) := by decide +kernel
theorem dX8_atY_34 : decode cX8_atY 34 = .ok (.ireturn, 1) := by decide +kernel
theorem dX8_towardsOf_0 : decode cX8_towardsOf 0 = .ok (.aload_n 0, 1) := by decide +kernel
theorem dX8_towardsOf_1 : decode cX8_towardsOf 1 = .ok (.getfield 22, 3) := by decide +kernel
theorem dX8_towardsOf_4 : decode cX8_towardsOf 4 = .ok (.iload_n 1, 1) := by decide +kernel
theorem dX8_towardsOf_5 : decode cX8_towardsOf 5 = .ok (.iconst 2, 1) := by decide +kernel
theorem dX8_towardsOf_6 : decode cX8_towardsOf 6 = .ok (.idiv, 1) := by decide +kernel
theorem dX8_towardsOf_7 : decode cX8_towardsOf 7 = .ok (.iaload, 1) := by decide +kernel
theorem dX8_towardsOf_8 : decode cX8_towardsOf 8 = .ok (.iconst 4, 1) := by decide +kernel
theorem dX8_towardsOf_9 : decode cX8_towardsOf 9 = .ok (.iload_n 1, 1) := by decide +kernel
theorem dX8_towardsOf_10 : decode cX8_towardsOf 10 = .ok (.iconst 2, 1) := by decide +kernel
theorem dX8_towardsOf_11 : decode cX8_towardsOf 11 = .ok (.irem, 1) := by decide +kernel
theorem dX8_towardsOf_12 : decode cX8_towardsOf 12 = .ok (.imul, 1) := by decide +kernel
theorem dX8_towardsOf_13 : decode cX8_towardsOf 13 = .ok (.iadd, 1) := by decide +kernel
theorem dX8_towardsOf_14 : decode cX8_towardsOf 14 = .ok (.bipush 8, 2) := by decide +kernel
theorem dX8_towardsOf_16 : decode cX8_towardsOf 16 = .ok (.irem, 1) := by decide +kernel
theorem dX8_towardsOf_17 : decode cX8_towardsOf 17 = .ok (.ireturn, 1) := by decide +kernel
set_option maxRecDepth 20000 in
theorem ggX8_isJump_X8_atX : GoodIn wsX8_isJump wsX8_atX := goodIn_r _ [5, 6, 7, 14, 15, 16, 17, 18, 19, 20, 21, 22, 23, 24, 25, 26, 27, 28, 29, 30, 31, 32, 33, 34, 35, 36, 37] (by decide +kernel) (by decide +kernel)
set_option maxRecDepth 20000 in
theorem gX8_isJump_X8_atX : GoodIn wsX8_isJump (wsV RX8 97 RX8 yX8_atX wsX8_atX) := goodIn_app (goodIn_of _ (by decide +kernel)) ggX8_isJump_X8_atX
set_option maxRecDepth 20000 in
theorem ggX8_isJump_X8_atY : GoodIn wsX8_isJump wsX8_atY := goodIn_r _ [11, 12, 13, 14, 15, 16, 17, 18, 19, 20, 21, 22, 23, 24, 25, 26, 27, 28, 29, 30, 31, 32, 33, 34, 35, 36, 37] (by decide +kernel) (by decide +kernel)
set_option maxRecDepth 20000 in
theorem gX8_isJump_X8_atY : GoodIn wsX8_isJump (wsV RX8 101 RX8 yX8_atY wsX8_atY) := goodIn_app (goodIn_of _ (by decide +kernel)) ggX8_isJump_X8_atY
theorem dX8_isJump_0 : decode cX8_isJump 0 = .ok (.aload_n 0, 1) := by decide +kernel
theorem dX8_isJump_1 : decode cX8_isJump 1 = .ok (.iload_n 1, 1) := by decide +kernel
theorem dX8_isJump_2 : decode cX8_isJump 2 = .ok (.iconst 1, 1) := by decide +kernel
theorem dX8_isJump_3 : decode cX8_isJump 3 = .ok (.invokevirtual 97, 3) := by decide +kernel
theorem dX8_isJump_6 : decode cX8_isJump 6 = .ok (.aload_n 0, 1) := by decide +kernel
theorem dX8_isJump_7 : decode cX8_isJump 7 = .ok (.iload_n 2, 1) := by decide +kernel
theorem dX8_isJump_8 : decode cX8_isJump 8 = .ok (.iconst 0, 1) := by decide +kernel
theorem dX8_isJump_9 : decode cX8_isJump 9 = .ok (.invokevirtual 97, 3) := by decide +kernel
theorem dX8_isJump_12 : decode cX8_isJump 12 = .ok (.if_icmp .ne 18, 3) := by decide +kernel
theorem dX8_isJump_15 : decode cX8_isJump 15 = .ok (.aload_n 0, 1) := by decide +kernel
theorem dX8_isJump_16 : decode cX8_isJump 16 = .ok (.iload_n 1, 1) := by decide +kernel
theorem dX8_isJump_17 : decode cX8_isJump 17 = .ok (.iconst 1, 1) := by decide +kernel
theorem dX8_isJump_18 : decode cX8_isJump 18 = .ok (.invokevirtual 101, 3) := by decide +kernel
theorem dX8_isJump_21 : decode cX8_isJump 21 = .ok (.aload_n 0, 1) := by decide +kernel
theorem dX8_isJump_22 : decode cX8_isJump 22 = .ok (.iload_n 2, 1) := by decide +kernel
theorem dX8_isJump_23 : decode cX8_isJump 23 = .ok (.iconst 0, 1) := by decide +kernel
theorem dX8_isJump_24 : decode cX8_isJump 24 = .ok (.invokevirtual 101, 3) := by decide +kernel
theorem dX8_isJump_27 : decode cX8_isJump 27 = .ok (.if_icmp .eq 7, 3) := by decide +kernel
theorem dX8_isJump_30 : decode cX8_isJump 30 = .ok (.iconst 1, 1) := by decide +kernel
theorem dX8_isJump_31 : decode cX8_isJump 31 = .ok (.goto 4, 3) := by decide +kernel
theorem dX8_isJump_34 : decode cX8_isJump 34 = .ok (.iconst 0, 1) := by decide +kernel
theorem dX8_isJump_35 : decode cX8_isJump 35 = .ok (.ireturn, 1) := by decide +kernel
set_option maxRecDepth 20000 in
theorem ggX8_goes_X8_isJump : GoodIn wsX8_goes wsX8_isJump := goodIn_r _ [8, 9, 10, 11, 7, 12, 13, 14, 15, 16, 17, 18, 19, 20, 32, 33, 34, 35, 36, 37, 38, 39, 40, 41, 42, 43, 44, 45, 46, 47, 48, 49, 50, 51, 52, 53, 54, 55] (by decide +kernel) (by decide +kernel)
set_option maxRecDepth 20000 in
theorem gX8_goes_X8_isJump : GoodIn wsX8_goes (wsV RX8 104 RX8 yX8_isJump wsX8_isJump) := goodIn_app (goodIn_of _ (by decide +kernel)) ggX8_goes_X8_isJump
set_option maxRecDepth 20000 in
theorem ggX8_goes_X8_atX : GoodIn wsX8_goes wsX8_atX := goodIn_r _ [12, 13, 14, 32, 33, 34, 35, 36, 37, 38, 39, 40, 41, 42, 43, 44, 45, 46, 47, 48, 49, 50, 51, 52, 53, 54, 55] (by decide +kernel) (by decide +kernel)
set_option maxRecDepth 20000 in
theorem gX8_goes_X8_atX : GoodIn wsX8_goes (wsV RX8 97 RX8 yX8_atX wsX8_atX) := goodIn_app (goodIn_of _ (by decide +kernel)) ggX8_goes_X8_atX
set_option maxRecDepth 20000 in
theorem ggX8_goes_X8_atY : GoodIn wsX8_goes wsX8_atY := goodIn_r _ [18, 19, 20, 32, 33, 34, 35, 36, 37, 38, 39, 40, 41, 42, 43, 44, 45, 46, 47, 48, 49, 50, 51, 52, 53, 54, 55] (by decide +kernel) (by decide +kernel)
set_option maxRecDepth 20000 in
theorem gX8_goes_X8_atY : GoodIn wsX8_goes (wsV RX8 101 RX8 yX8_atY wsX8_atY) := goodIn_app (goodIn_of _ (by decide +kernel)) ggX8_goes_X8_atY
set_option maxRecDepth 20000 in
theorem ggX8_goes_X8_piece : GoodIn wsX8_goes wsX8_piece := goodIn_r _ [23, 24, 25, 7, 26] (by decide +kernel) (by decide +kernel)
set_option maxRecDepth 20000 in
theorem gX8_goes_X8_piece : GoodIn wsX8_goes (va_wsS RX8 93 yX8_piece wsX8_piece) := goodIn_app (goodIn_of _ (by decide +kernel)) ggX8_goes_X8_piece
set_option maxRecDepth 20000 in
theorem ggX8_goes_X8_towardsOf : GoodIn wsX8_goes wsX8_towardsOf := goodIn_r _ [30, 31, 32, 33, 34, 35, 36, 37, 38, 39, 40, 41, 42, 43, 44, 45, 46, 47, 48, 49, 50, 51, 52, 53, 54, 55] (by decide +kernel) (by decide +kernel)
set_option maxRecDepth 20000 in
theorem gX8_goes_X8_towardsOf : GoodIn wsX8_goes (wsV RX8 108 RX8 yX8_towardsOf wsX8_towardsOf) := goodIn_app (goodIn_of _ (by decide +kernel)) ggX8_goes_X8_towardsOf
theorem dX8_goes_0 : decode cX8_goes 0 = .ok (.aload_n 0, 1) := by decide +kernel
theorem dX8_goes_1 : decode cX8_goes 1 = .ok (.getfield 25, 3) := by decide +kernel
theorem dX8_goes_4 : decode cX8_goes 4 = .ok (.iload_n 2, 1) := by decide +kernel
theorem dX8_goes_5 : decode cX8_goes 5 = .ok (.iconst 2, 1) := by decide +kernel
theorem dX8_goes_6 : decode cX8_goes 6 = .ok (.idiv, 1) := by decide +kernel
theorem dX8_goes_7 : decode cX8_goes 7 = .ok (.iaload, 1) := by decide +kernel
theorem dX8_goes_8 : decode cX8_goes 8 = .ok (.istore_n 3, 1) := by decide +kernel
theorem dX8_goes_9 : decode cX8_goes 9 = .ok (.aload_n 0, 1) := by decide +kernel
theorem dX8_goes_10 : decode cX8_goes 10 = .ok (.iload_n 1, 1) := by decide +kernel
theorem dX8_goes_11 : decode cX8_goes 11 = .ok (.iload_n 2, 1) := by decide +kernel
theorem dX8_goes_12 : decode cX8_goes 12 = .ok (.invokevirtual 104, 3) := by decide +kernel
theorem dX8_goes_15 : decode cX8_goes 15 = .ok (.ifCond .eq 43, 3) := by decide +kernel
theorem dX8_goes_18 : decode cX8_goes 18 = .ok (.ldc 107, 2) := by decide +kernel
theorem dX8_goes_20 : decode cX8_goes 20 = .ok (.aload_n 0, 1) := by decide +kernel
theorem dX8_goes_21 : decode cX8_goes 21 = .ok (.getfield 28, 3) := by decide +kernel
theorem dX8_goes_24 : decode cX8_goes 24 = .ok (.iconst 5, 1) := by decide +kernel
theorem dX8_goes_25 : decode cX8_goes 25 = .ok (.iaload, 1) := by decide +kernel
theorem dX8_goes_26 : decode cX8_goes 26 = .ok (.imul, 1) := by decide +kernel
theorem dX8_goes_27 : decode cX8_goes 27 = .ok (.iload_n 3, 1) := by decide +kernel
theorem dX8_goes_28 : decode cX8_goes 28 = .ok (.iadd, 1) := by decide +kernel
theorem dX8_goes_29 : decode cX8_goes 29 = .ok (.aload_n 0, 1) := by decide +kernel
theorem dX8_goes_30 : decode cX8_goes 30 = .ok (.iload_n 1, 1) := by decide +kernel
theorem dX8_goes_31 : decode cX8_goes 31 = .ok (.iconst 1, 1) := by decide +kernel
theorem dX8_goes_32 : decode cX8_goes 32 = .ok (.invokevirtual 97, 3) := by decide +kernel
theorem dX8_goes_35 : decode cX8_goes 35 = .ok (.aload_n 0, 1) := by decide +kernel
theorem dX8_goes_36 : decode cX8_goes 36 = .ok (.iload_n 1, 1) := by decide +kernel
theorem dX8_goes_37 : decode cX8_goes 37 = .ok (.iconst 1, 1) := by decide +kernel
theorem dX8_goes_38 : decode cX8_goes 38 = .ok (.invokevirtual 101, 3) := by decide +kernel
theorem dX8_goes_41 : decode cX8_goes 41 = .ok (.aload_n 0, 1) := by decide +kernel
theorem dX8_goes_42 : decode cX8_goes 42 = .ok (.iload_n 2, 1) := by decide +kernel
theorem dX8_goes_43 : decode cX8_goes 43 = .ok (.iconst 0, 1) := by decide +kernel
theorem dX8_goes_44 : decode cX8_goes 44 = .ok (.invokevirtual 97, 3) := by decide +kernel
theorem dX8_goes_47 : decode cX8_goes 47 = .ok (.aload_n 0, 1) := by decide +kernel
theorem dX8_goes_48 : decode cX8_goes 48 = .ok (.iload_n 2, 1) := by decide +kernel
theorem dX8_goes_49 : decode cX8_goes 49 = .ok (.iconst 0, 1) := by decide +kernel
theorem dX8_goes_50 : decode cX8_goes 50 = .ok (.invokevirtual 101, 3) := by decide +kernel
theorem dX8_goes_53 : decode cX8_goes 53 = .ok (.invokestatic 93, 3) := by decide +kernel
theorem dX8_goes_56 : decode cX8_goes 56 = .ok (.iadd, 1) := by decide +kernel
theorem dX8_goes_57 : decode cX8_goes 57 = .ok (.ireturn, 1) := by decide +kernel
theorem dX8_goes_58 : decode cX8_goes 58 = .ok (.aload_n 0, 1) := by decide +kernel
theorem dX8_goes_59 : decode cX8_goes 59 = .ok (.iload_n 2, 1) := by decide +kernel
theorem dX8_goes_60 : decode cX8_goes 60 = .ok (.invokevirtual 108, 3) := by decide +kernel
theorem dX8_goes_63 : decode cX8_goes 63 = .ok (.aload_n 0, 1) := by decide +kernel
theorem dX8_goes_64 : decode cX8_goes 64 = .ok (.iload_n 1, 1) := by decide +kernel
theorem dX8_goes_65 : decode cX8_goes 65 = .ok (.invokevirtual 108, 3) := by decide +kernel
theorem dX8_goes_68 : decode cX8_goes 68 = .ok (.isub, 1) := by decide +kernel
theorem dX8_goes_69 : decode cX8_goes 69 = .ok (.bipush 8, 2) := by decide +kernel
theorem dX8_goes_71 : decode cX8_goes 71 = .ok (.iadd, 1) := by decide +kernel
theorem dX8_goes_72 : decode cX8_goes 72 = .ok (.bipush 8, 2) := by decide +kernel
theorem dX8_goes_74 : decode cX8_goes 74 = .ok (.irem, 1) := by decide +kernel
theorem dX8_goes_75 : decode cX8_goes 75 = .ok (.istore 4, 2) := by decide +kernel
theorem dX8_goes_77 : decode cX8_goes 77 = .ok (.ldc 107, 2) := by decide +kernel
theorem dX8_goes_79 : decode cX8_goes 79 = .ok (.aload_n 0, 1) := by decide +kernel
theorem dX8_goes_80 : decode cX8_goes 80 = .ok (.getfield 28, 3) := by decide +kernel
theorem dX8_goes_83 : decode cX8_goes 83 = .ok (.iload 4, 2) := by decide +kernel
theorem dX8_goes_85 : decode cX8_goes 85 = .ok (.iconst 4, 1) := by decide +kernel
theorem dX8_goes_86 : decode cX8_goes 86 = .ok (.if_icmp .le 11, 3) := by decide +kernel
theorem dX8_goes_89 : decode cX8_goes 89 = .ok (.bipush 8, 2) := by decide +kernel
theorem dX8_goes_91 : decode cX8_goes 91 = .ok (.iload 4, 2) := by decide +kernel
theorem dX8_goes_93 : decode cX8_goes 93 = .ok (.isub, 1) := by decide +kernel
theorem dX8_goes_94 : decode cX8_goes 94 = .ok (.goto 5, 3) := by decide +kernel
theorem dX8_goes_97 : decode cX8_goes 97 = .ok (.iload 4, 2) := by decide +kernel
theorem dX8_goes_99 : decode cX8_goes 99 = .ok (.iaload, 1) := by decide +kernel
theorem dX8_goes_100 : decode cX8_goes 100 = .ok (.imul, 1) := by decide +kernel
theorem dX8_goes_101 : decode cX8_goes 101 = .ok (.iload_n 3, 1) := by decide +kernel
theorem dX8_goes_102 : decode cX8_goes 102 = .ok (.iadd, 1) := by decide +kernel
theorem dX8_goes_103 : decode cX8_goes 103 = .ok (.ireturn, 1) := by decide +kernel
theorem dX8_from_0 : decode cX8_from 0 = .ok (.aload_n 0, 1) := by decide +kernel
theorem dX8_from_1 : decode cX8_from 1 = .ok (.getfield 25, 3) := by decide +kernel
theorem dX8_from_4 : decode cX8_from 4 = .ok (.iload_n 2, 1) := by decide +kernel
theorem dX8_from_5 : decode cX8_from 5 = .ok (.iconst 2, 1) := by decide +kernel
theorem dX8_from_6 : decode cX8_from 6 = .ok (.idiv, 1) := by decide +kernel
theorem dX8_from_7 : decode cX8_from 7 = .ok (.iaload, 1) := by decide +kernel
theorem dX8_from_8 : decode cX8_from 8 = .ok (.aload_n 0, 1) := by decide +kernel
theorem dX8_from_9 : decode cX8_from 9 = .ok (.getfield 35, 3) := by decide +kernel
theorem dX8_from_12 : decode cX8_from 12 = .ok (.bipush 18, 2) := by decide +kernel
theorem dX8_from_14 : decode cX8_from 14 = .ok (.iload_n 1, 1) := by decide +kernel
theorem dX8_from_15 : decode cX8_from 15 = .ok (.iconst 1, 1) := by decide +kernel
theorem dX8_from_16 : decode cX8_from 16 = .ok (.iload_n 2, 1) := by decide +kernel
theorem dX8_from_17 : decode cX8_from 17 = .ok (.iconst 2, 1) := by decide +kernel
theorem dX8_from_18 : decode cX8_from 18 = .ok (.idiv, 1) := by decide +kernel
theorem dX8_from_19 : decode cX8_from 19 = .ok (.ishl, 1) := by decide +kernel
theorem dX8_from_20 : decode cX8_from 20 = .ok (.iconst (-1), 1) := by decide +kernel
theorem dX8_from_21 : decode cX8_from 21 = .ok (.ixor, 1) := by decide +kernel
theorem dX8_from_22 : decode cX8_from 22 = .ok (.iand, 1) := by decide +kernel
theorem dX8_from_23 : decode cX8_from 23 = .ok (.imul, 1) := by decide +kernel
theorem dX8_from_24 : decode cX8_from 24 = .ok (.iload_n 2, 1) := by decide +kernel
theorem dX8_from_25 : decode cX8_from 25 = .ok (.iadd, 1) := by decide +kernel
theorem dX8_from_26 : decode cX8_from 26 = .ok (.iaload, 1) := by decide +kernel
theorem dX8_from_27 : decode cX8_from 27 = .ok (.iadd, 1) := by decide +kernel
theorem dX8_from_28 : decode cX8_from 28 = .ok (.ireturn, 1) := by decide +kernel
set_option maxRecDepth 20000 in
theorem ggX8_work_X8_goes : GoodIn wsX8_work wsX8_goes := goodIn_r _ [9, 10, 11, 12, 13, 14, 15, 8, 16, 17, 18, 19, 20, 21, 22, 23, 24, 25, 26, 27, 28, 29, 30, 31, 32, 33, 34, 35, 36, 37, 38, 39, 44, 45, 46, 47, 48, 49, 50, 51, 52, 53, 54, 55, 56, 57, 58, 59, 60, 61, 62, 63, 64, 65, 66, 67] (by decide +kernel) (by decide +kernel)
set_option maxRecDepth 20000 in
theorem gX8_work_X8_goes : GoodIn wsX8_work (wsV RX8 112 RX8 yX8_goes wsX8_goes) := goodIn_app (goodIn_of _ (by decide +kernel)) ggX8_work_X8_goes
set_option maxRecDepth 20000 in
theorem ggX8_work_X8_from : GoodIn wsX8_work wsX8_from := goodIn_r _ [43, 10, 3, 44, 45, 46, 47, 48, 49, 50, 51, 52, 53, 54, 55, 56, 57, 58, 59, 60, 61, 62, 63, 64, 65, 66, 67] (by decide +kernel) (by decide +kernel)
set_option maxRecDepth 20000 in
theorem gX8_work_X8_from : GoodIn wsX8_work (wsV RX8 115 RX8 yX8_from wsX8_from) := goodIn_app (goodIn_of _ (by decide +kernel)) ggX8_work_X8_from
theorem dX8_work_0 : decode cX8_work 0 = .ok (.iconst 0, 1) := by decide +kernel
theorem dX8_work_1 : decode cX8_work 1 = .ok (.istore_n 1, 1) := by decide +kernel
theorem dX8_work_2 : decode cX8_work 2 = .ok (.iload_n 1, 1) := by decide +kernel
theorem dX8_work_3 : decode cX8_work 3 = .ok (.iconst 1, 1) := by decide +kernel
theorem dX8_work_4 : decode cX8_work 4 = .ok (.aload_n 0, 1) := by decide +kernel
theorem dX8_work_5 : decode cX8_work 5 = .ok (.getfield 71, 3) := by decide +kernel
theorem dX8_work_8 : decode cX8_work 8 = .ok (.ishl, 1) := by decide +kernel
theorem dX8_work_9 : decode cX8_work 9 = .ok (.if_icmp .ge 200, 3) := by decide +kernel
theorem dX8_work_12 : decode cX8_work 12 = .ok (.iconst 0, 1) := by decide +kernel
theorem dX8_work_13 : decode cX8_work 13 = .ok (.istore_n 2, 1) := by decide +kernel
theorem dX8_work_14 : decode cX8_work 14 = .ok (.iload_n 2, 1) := by decide +kernel
theorem dX8_work_15 : decode cX8_work 15 = .ok (.iconst 2, 1) := by decide +kernel
theorem dX8_work_16 : decode cX8_work 16 = .ok (.aload_n 0, 1) := by decide +kernel
theorem dX8_work_17 : decode cX8_work 17 = .ok (.getfield 71, 3) := by decide +kernel
theorem dX8_work_20 : decode cX8_work 20 = .ok (.imul, 1) := by decide +kernel
theorem dX8_work_21 : decode cX8_work 21 = .ok (.if_icmp .ge 110, 3) := by decide +kernel
theorem dX8_work_24 : decode cX8_work 24 = .ok (.iload_n 1, 1) := by decide +kernel
theorem dX8_work_25 : decode cX8_work 25 = .ok (.ifCond .ne 7, 3) := by decide +kernel
theorem dX8_work_28 : decode cX8_work 28 = .ok (.iconst 0, 1) := by decide +kernel
theorem dX8_work_29 : decode cX8_work 29 = .ok (.goto 5, 3) := by decide +kernel
theorem dX8_work_32 : decode cX8_work 32 = .ok (.ldc 111, 2) := by decide +kernel
theorem dX8_work_34 : decode cX8_work 34 = .ok (.istore_n 3, 1) := by decide +kernel
theorem dX8_work_35 : decode cX8_work 35 = .ok (.iconst 0, 1) := by decide +kernel
theorem dX8_work_36 : decode cX8_work 36 = .ok (.istore 4, 2) := by decide +kernel
theorem dX8_work_38 : decode cX8_work 38 = .ok (.iload 4, 2) := by decide +kernel
theorem dX8_work_40 : decode cX8_work 40 = .ok (.iconst 2, 1) := by decide +kernel
theorem dX8_work_41 : decode cX8_work 41 = .ok (.aload_n 0, 1) := by decide +kernel
theorem dX8_work_42 : decode cX8_work 42 = .ok (.getfield 71, 3) := by decide +kernel
theorem dX8_work_45 : decode cX8_work 45 = .ok (.imul, 1) := by decide +kernel
theorem dX8_work_46 : decode cX8_work 46 = .ok (.if_icmp .ge 67, 3) := by decide +kernel
theorem dX8_work_49 : decode cX8_work 49 = .ok (.iload_n 1, 1) := by decide +kernel
theorem dX8_work_50 : decode cX8_work 50 = .ok (.iload 4, 2) := by decide +kernel
theorem dX8_work_52 : decode cX8_work 52 = .ok (.iconst 2, 1) := by decide +kernel
theorem dX8_work_53 : decode cX8_work 53 = .ok (.idiv, 1) := by decide +kernel
theorem dX8_work_54 : decode cX8_work 54 = .ok (.ishr, 1) := by decide +kernel
theorem dX8_work_55 : decode cX8_work 55 = .ok (.iconst 1, 1) := by decide +kernel
theorem dX8_work_56 : decode cX8_work 56 = .ok (.iand, 1) := by decide +kernel
theorem dX8_work_57 : decode cX8_work 57 = .ok (.ifCond .ne 6, 3) := by decide +kernel
theorem dX8_work_60 : decode cX8_work 60 = .ok (.goto 47, 3) := by decide +kernel
theorem dX8_work_63 : decode cX8_work 63 = .ok (.aload_n 0, 1) := by decide +kernel
theorem dX8_work_64 : decode cX8_work 64 = .ok (.iload_n 2, 1) := by decide +kernel
theorem dX8_work_65 : decode cX8_work 65 = .ok (.iload 4, 2) := by decide +kernel
theorem dX8_work_67 : decode cX8_work 67 = .ok (.invokevirtual 112, 3) := by decide +kernel
theorem dX8_work_70 : decode cX8_work 70 = .ok (.aload_n 0, 1) := by decide +kernel
theorem dX8_work_71 : decode cX8_work 71 = .ok (.getfield 35, 3) := by decide +kernel
theorem dX8_work_74 : decode cX8_work 74 = .ok (.bipush 18, 2) := by decide +kernel
theorem dX8_work_76 : decode cX8_work 76 = .ok (.iload_n 1, 1) := by decide +kernel
theorem dX8_work_77 : decode cX8_work 77 = .ok (.iconst 1, 1) := by decide +kernel
theorem dX8_work_78 : decode cX8_work 78 = .ok (.iload 4, 2) := by decide +kernel
theorem dX8_work_80 : decode cX8_work 80 = .ok (.iconst 2, 1) := by decide +kernel
theorem dX8_work_81 : decode cX8_work 81 = .ok (.idiv, 1) := by decide +kernel
theorem dX8_work_82 : decode cX8_work 82 = .ok (.ishl, 1) := by decide +kernel
theorem dX8_work_83 : decode cX8_work 83 = .ok (.iconst (-1), 1) := by decide +kernel
theorem dX8_work_84 : decode cX8_work 84 = .ok (.ixor, 1) := by decide +kernel
theorem dX8_work_85 : decode cX8_work 85 = .ok (.iand, 1) := by decide +kernel
theorem dX8_work_86 : decode cX8_work 86 = .ok (.imul, 1) := by decide +kernel
theorem dX8_work_87 : decode cX8_work 87 = .ok (.iload 4, 2) := by decide +kernel
theorem dX8_work_89 : decode cX8_work 89 = .ok (.iadd, 1) := by decide +kernel
theorem dX8_work_90 : decode cX8_work 90 = .ok (.iaload, 1) := by decide +kernel
theorem dX8_work_91 : decode cX8_work 91 = .ok (.iadd, 1) := by decide +kernel
theorem dX8_work_92 : decode cX8_work 92 = .ok (.istore 5, 2) := by decide +kernel
theorem dX8_work_94 : decode cX8_work 94 = .ok (.iload 5, 2) := by decide +kernel
theorem dX8_work_96 : decode cX8_work 96 = .ok (.iload_n 3, 1) := by decide +kernel
theorem dX8_work_97 : decode cX8_work 97 = .ok (.if_icmp .ge 8, 3) := by decide +kernel
theorem dX8_work_100 : decode cX8_work 100 = .ok (.iload 5, 2) := by decide +kernel
theorem dX8_work_102 : decode cX8_work 102 = .ok (.goto 4, 3) := by decide +kernel
theorem dX8_work_105 : decode cX8_work 105 = .ok (.iload_n 3, 1) := by decide +kernel
theorem dX8_work_106 : decode cX8_work 106 = .ok (.istore_n 3, 1) := by decide +kernel
theorem dX8_work_107 : decode cX8_work 107 = .ok (.iinc 4 1, 3) := by decide +kernel
theorem dX8_work_110 : decode cX8_work 110 = .ok (.goto (-72), 3) := by decide +kernel
theorem dX8_work_113 : decode cX8_work 113 = .ok (.aload_n 0, 1) := by decide +kernel
theorem dX8_work_114 : decode cX8_work 114 = .ok (.getfield 35, 3) := by decide +kernel
theorem dX8_work_117 : decode cX8_work 117 = .ok (.bipush 18, 2) := by decide +kernel
theorem dX8_work_119 : decode cX8_work 119 = .ok (.iload_n 1, 1) := by decide +kernel
theorem dX8_work_120 : decode cX8_work 120 = .ok (.imul, 1) := by decide +kernel
theorem dX8_work_121 : decode cX8_work 121 = .ok (.iload_n 2, 1) := by decide +kernel
theorem dX8_work_122 : decode cX8_work 122 = .ok (.iadd, 1) := by decide +kernel
theorem dX8_work_123 : decode cX8_work 123 = .ok (.iload_n 3, 1) := by decide +kernel
theorem dX8_work_124 : decode cX8_work 124 = .ok (.iastore, 1) := by decide +kernel
theorem dX8_work_125 : decode cX8_work 125 = .ok (.iinc 2 1, 3) := by decide +kernel
theorem dX8_work_128 : decode cX8_work 128 = .ok (.goto (-114), 3) := by decide +kernel
theorem dX8_work_131 : decode cX8_work 131 = .ok (.aload_n 0, 1) := by decide +kernel
theorem dX8_work_132 : decode cX8_work 132 = .ok (.getfield 38, 3) := by decide +kernel
theorem dX8_work_135 : decode cX8_work 135 = .ok (.iload_n 1, 1) := by decide +kernel
theorem dX8_work_136 : decode cX8_work 136 = .ok (.iload_n 1, 1) := by decide +kernel
theorem dX8_work_137 : decode cX8_work 137 = .ok (.ifCond .ne 7, 3) := by decide +kernel
theorem dX8_work_140 : decode cX8_work 140 = .ok (.iconst 0, 1) := by decide +kernel
theorem dX8_work_141 : decode cX8_work 141 = .ok (.goto 5, 3) := by decide +kernel
theorem dX8_work_144 : decode cX8_work 144 = .ok (.ldc 111, 2) := by decide +kernel
theorem dX8_work_146 : decode cX8_work 146 = .ok (.iastore, 1) := by decide +kernel
theorem dX8_work_147 : decode cX8_work 147 = .ok (.iconst 0, 1) := by decide +kernel
theorem dX8_work_148 : decode cX8_work 148 = .ok (.istore_n 2, 1) := by decide +kernel
theorem dX8_work_149 : decode cX8_work 149 = .ok (.iload_n 2, 1) := by decide +kernel
theorem dX8_work_150 : decode cX8_work 150 = .ok (.iconst 2, 1) := by decide +kernel
theorem dX8_work_151 : decode cX8_work 151 = .ok (.aload_n 0, 1) := by decide +kernel
theorem dX8_work_152 : decode cX8_work 152 = .ok (.getfield 71, 3) := by decide +kernel
theorem dX8_work_155 : decode cX8_work 155 = .ok (.imul, 1) := by decide +kernel
theorem dX8_work_156 : decode cX8_work 156 = .ok (.if_icmp .ge 47, 3) := by decide +kernel
theorem dX8_work_159 : decode cX8_work 159 = .ok (.iload_n 1, 1) := by decide +kernel
theorem dX8_work_160 : decode cX8_work 160 = .ok (.iload_n 2, 1) := by decide +kernel
theorem dX8_work_161 : decode cX8_work 161 = .ok (.iconst 2, 1) := by decide +kernel
theorem dX8_work_162 : decode cX8_work 162 = .ok (.idiv, 1) := by decide +kernel
theorem dX8_work_163 : decode cX8_work 163 = .ok (.ishr, 1) := by decide +kernel
theorem dX8_work_164 : decode cX8_work 164 = .ok (.iconst 1, 1) := by decide +kernel
theorem dX8_work_165 : decode cX8_work 165 = .ok (.iand, 1) := by decide +kernel
theorem dX8_work_166 : decode cX8_work 166 = .ok (.iconst 1, 1) := by decide +kernel
theorem dX8_work_167 : decode cX8_work 167 = .ok (.if_icmp .ne 30, 3) := by decide +kernel
theorem dX8_work_170 : decode cX8_work 170 = .ok (.aload_n 0, 1) := by decide +kernel
theorem dX8_work_171 : decode cX8_work 171 = .ok (.iload_n 1, 1) := by decide +kernel
theorem dX8_work_172 : decode cX8_work 172 = .ok (.iload_n 2, 1) := by decide +kernel
theorem dX8_work_173 : decode cX8_work 173 = .ok (.invokevirtual 115, 3) := by decide +kernel
theorem dX8_work_176 : decode cX8_work 176 = .ok (.aload_n 0, 1) := by decide +kernel
theorem dX8_work_177 : decode cX8_work 177 = .ok (.getfield 38, 3) := by decide +kernel
theorem dX8_work_180 : decode cX8_work 180 = .ok (.iload_n 1, 1) := by decide +kernel
theorem dX8_work_181 : decode cX8_work 181 = .ok (.iaload, 1) := by decide +kernel
theorem dX8_work_182 : decode cX8_work 182 = .ok (.if_icmp .ge 15, 3) := by decide +kernel
theorem dX8_work_185 : decode cX8_work 185 = .ok (.aload_n 0, 1) := by decide +kernel
theorem dX8_work_186 : decode cX8_work 186 = .ok (.getfield 38, 3) := by decide +kernel
theorem dX8_work_189 : decode cX8_work 189 = .ok (.iload_n 1, 1) := by decide +kernel
theorem dX8_work_190 : decode cX8_work 190 = .ok (.aload_n 0, 1) := by decide +kernel
theorem dX8_work_191 : decode cX8_work 191 = .ok (.iload_n 1, 1) := by decide +kernel
theorem dX8_work_192 : decode cX8_work 192 = .ok (.iload_n 2, 1) := by decide +kernel
theorem dX8_work_193 : decode cX8_work 193 = .ok (.invokevirtual 115, 3) := by decide +kernel
theorem dX8_work_196 : decode cX8_work 196 = .ok (.iastore, 1) := by decide +kernel
theorem dX8_work_197 : decode cX8_work 197 = .ok (.iinc 2 1, 3) := by decide +kernel
theorem dX8_work_200 : decode cX8_work 200 = .ok (.goto (-51), 3) := by decide +kernel
theorem dX8_work_203 : decode cX8_work 203 = .ok (.iinc 1 1, 3) := by decide +kernel
theorem dX8_work_206 : decode cX8_work 206 = .ok (.goto (-204), 3) := by decide +kernel
theorem dX8_work_209 : decode cX8_work 209 = .ok (.return_, 1) := by decide +kernel
theorem dX8_priceOf_0 : decode cX8_priceOf 0 = .ok (.aload_n 0, 1) := by decide +kernel
theorem dX8_priceOf_1 : decode cX8_priceOf 1 = .ok (.getfield 38, 3) := by decide +kernel
theorem dX8_priceOf_4 : decode cX8_priceOf 4 = .ok (.iload_n 1, 1) := by decide +kernel
theorem dX8_priceOf_5 : decode cX8_priceOf 5 = .ok (.iaload, 1) := by decide +kernel
theorem dX8_priceOf_6 : decode cX8_priceOf 6 = .ok (.ldc 107, 2) := by decide +kernel
theorem dX8_priceOf_8 : decode cX8_priceOf 8 = .ok (.idiv, 1) := by decide +kernel
theorem dX8_priceOf_9 : decode cX8_priceOf 9 = .ok (.aload_n 0, 1) := by decide +kernel
theorem dX8_priceOf_10 : decode cX8_priceOf 10 = .ok (.getfield 38, 3) := by decide +kernel
theorem dX8_priceOf_13 : decode cX8_priceOf 13 = .ok (.iload_n 1, 1) := by decide +kernel
theorem dX8_priceOf_14 : decode cX8_priceOf 14 = .ok (.iaload, 1) := by decide +kernel
theorem dX8_priceOf_15 : decode cX8_priceOf 15 = .ok (.ldc 107, 2) := by decide +kernel
theorem dX8_priceOf_17 : decode cX8_priceOf 17 = .ok (.irem, 1) := by decide +kernel
theorem dX8_priceOf_18 : decode cX8_priceOf 18 = .ok (.aload_n 0, 1) := by decide +kernel
theorem dX8_priceOf_19 : decode cX8_priceOf 19 = .ok (.getfield 28, 3) := by decide +kernel
theorem dX8_priceOf_22 : decode cX8_priceOf 22 = .ok (.bipush 6, 2) := by decide +kernel
theorem dX8_priceOf_24 : decode cX8_priceOf 24 = .ok (.iaload, 1) := by decide +kernel
theorem dX8_priceOf_25 : decode cX8_priceOf 25 = .ok (.imul, 1) := by decide +kernel
theorem dX8_priceOf_26 : decode cX8_priceOf 26 = .ok (.bipush 10, 2) := by decide +kernel
theorem dX8_priceOf_28 : decode cX8_priceOf 28 = .ok (.idiv, 1) := by decide +kernel
theorem dX8_priceOf_29 : decode cX8_priceOf 29 = .ok (.iadd, 1) := by decide +kernel
theorem dX8_priceOf_30 : decode cX8_priceOf 30 = .ok (.ireturn, 1) := by decide +kernel
set_option maxRecDepth 20000 in
theorem ggX8_steps_X8_from : GoodIn wsX8_steps wsX8_from := goodIn_r _ [9, 10, 3, 44, 45, 46, 47, 48, 49, 50, 51, 52, 53, 54, 55, 56, 57, 58, 59, 60, 61, 62, 63, 64, 65, 66, 67] (by decide +kernel) (by decide +kernel)
set_option maxRecDepth 20000 in
theorem gX8_steps_X8_from : GoodIn wsX8_steps (wsV RX8 115 RX8 yX8_from wsX8_from) := goodIn_app (goodIn_of _ (by decide +kernel)) ggX8_steps_X8_from
set_option maxRecDepth 20000 in
theorem ggX8_steps_X8_goes : GoodIn wsX8_steps wsX8_goes := goodIn_r _ [14, 10, 15, 16, 17, 18, 19, 8, 20, 21, 22, 23, 24, 25, 26, 27, 28, 29, 30, 31, 32, 33, 34, 35, 36, 37, 38, 39, 40, 41, 42, 43, 44, 45, 46, 47, 48, 49, 50, 51, 52, 53, 54, 55, 56, 57, 58, 59, 60, 61, 62, 63, 64, 65, 66, 67] (by decide +kernel) (by decide +kernel)
set_option maxRecDepth 20000 in
theorem gX8_steps_X8_goes : GoodIn wsX8_steps (wsV RX8 112 RX8 yX8_goes wsX8_goes) := goodIn_app (goodIn_of _ (by decide +kernel)) ggX8_steps_X8_goes
theorem dX8_steps_0 : decode cX8_steps 0 = .ok (.iconst 0, 1) := by decide +kernel
theorem dX8_steps_1 : decode cX8_steps 1 = .ok (.istore_n 2, 1) := by decide +kernel
theorem dX8_steps_2 : decode cX8_steps 2 = .ok (.iload_n 1, 1) := by decide +kernel
theorem dX8_steps_3 : decode cX8_steps 3 = .ok (.istore_n 3, 1) := by decide +kernel
theorem dX8_steps_4 : decode cX8_steps 4 = .ok (.iload_n 3, 1) := by decide +kernel
theorem dX8_steps_5 : decode cX8_steps 5 = .ok (.ifCond .eq 174, 3) := by decide +kernel
theorem dX8_steps_8 : decode cX8_steps 8 = .ok (.iconst 0, 1) := by decide +kernel
theorem dX8_steps_9 : decode cX8_steps 9 = .ok (.istore 4, 2) := by decide +kernel
theorem dX8_steps_11 : decode cX8_steps 11 = .ok (.iconst 1, 1) := by decide +kernel
theorem dX8_steps_12 : decode cX8_steps 12 = .ok (.istore 5, 2) := by decide +kernel
theorem dX8_steps_14 : decode cX8_steps 14 = .ok (.iload 5, 2) := by decide +kernel
theorem dX8_steps_16 : decode cX8_steps 16 = .ok (.ifCond .eq 138, 3) := by decide +kernel
theorem dX8_steps_19 : decode cX8_steps 19 = .ok (.iload_n 3, 1) := by decide +kernel
theorem dX8_steps_20 : decode cX8_steps 20 = .ok (.iload 4, 2) := by decide +kernel
theorem dX8_steps_22 : decode cX8_steps 22 = .ok (.iconst 2, 1) := by decide +kernel
theorem dX8_steps_23 : decode cX8_steps 23 = .ok (.idiv, 1) := by decide +kernel
theorem dX8_steps_24 : decode cX8_steps 24 = .ok (.ishr, 1) := by decide +kernel
theorem dX8_steps_25 : decode cX8_steps 25 = .ok (.iconst 1, 1) := by decide +kernel
theorem dX8_steps_26 : decode cX8_steps 26 = .ok (.iand, 1) := by decide +kernel
theorem dX8_steps_27 : decode cX8_steps 27 = .ok (.iconst 1, 1) := by decide +kernel
theorem dX8_steps_28 : decode cX8_steps 28 = .ok (.if_icmp .ne 7, 3) := by decide +kernel
theorem dX8_steps_31 : decode cX8_steps 31 = .ok (.iconst 1, 1) := by decide +kernel
theorem dX8_steps_32 : decode cX8_steps 32 = .ok (.goto 4, 3) := by decide +kernel
theorem dX8_steps_35 : decode cX8_steps 35 = .ok (.iconst 0, 1) := by decide +kernel
theorem dX8_steps_36 : decode cX8_steps 36 = .ok (.istore 6, 2) := by decide +kernel
theorem dX8_steps_38 : decode cX8_steps 38 = .ok (.iload 6, 2) := by decide +kernel
theorem dX8_steps_40 : decode cX8_steps 40 = .ok (.ifCond .ne 8, 3) := by decide +kernel
theorem dX8_steps_43 : decode cX8_steps 43 = .ok (.ldc 111, 2) := by decide +kernel
theorem dX8_steps_45 : decode cX8_steps 45 = .ok (.goto 53, 3) := by decide +kernel
theorem dX8_steps_48 : decode cX8_steps 48 = .ok (.iload_n 2, 1) := by decide +kernel
theorem dX8_steps_49 : decode cX8_steps 49 = .ok (.ifCond .ne 13, 3) := by decide +kernel
theorem dX8_steps_52 : decode cX8_steps 52 = .ok (.aload_n 0, 1) := by decide +kernel
theorem dX8_steps_53 : decode cX8_steps 53 = .ok (.iload_n 3, 1) := by decide +kernel
theorem dX8_steps_54 : decode cX8_steps 54 = .ok (.iload 4, 2) := by decide +kernel
theorem dX8_steps_56 : decode cX8_steps 56 = .ok (.invokevirtual 115, 3) := by decide +kernel
theorem dX8_steps_59 : decode cX8_steps 59 = .ok (.goto 39, 3) := by decide +kernel
theorem dX8_steps_62 : decode cX8_steps 62 = .ok (.aload_n 0, 1) := by decide +kernel
theorem dX8_steps_63 : decode cX8_steps 63 = .ok (.aload_n 0, 1) := by decide +kernel
theorem dX8_steps_64 : decode cX8_steps 64 = .ok (.getfield 41, 3) := by decide +kernel
theorem dX8_steps_67 : decode cX8_steps 67 = .ok (.iload_n 2, 1) := by decide +kernel
theorem dX8_steps_68 : decode cX8_steps 68 = .ok (.iconst 1, 1) := by decide +kernel
theorem dX8_steps_69 : decode cX8_steps 69 = .ok (.isub, 1) := by decide +kernel
theorem dX8_steps_70 : decode cX8_steps 70 = .ok (.iaload, 1) := by decide +kernel
theorem dX8_steps_71 : decode cX8_steps 71 = .ok (.iload 4, 2) := by decide +kernel
theorem dX8_steps_73 : decode cX8_steps 73 = .ok (.invokevirtual 112, 3) := by decide +kernel
theorem dX8_steps_76 : decode cX8_steps 76 = .ok (.aload_n 0, 1) := by decide +kernel
theorem dX8_steps_77 : decode cX8_steps 77 = .ok (.getfield 35, 3) := by decide +kernel
theorem dX8_steps_80 : decode cX8_steps 80 = .ok (.bipush 18, 2) := by decide +kernel
theorem dX8_steps_82 : decode cX8_steps 82 = .ok (.iload_n 3, 1) := by decide +kernel
theorem dX8_steps_83 : decode cX8_steps 83 = .ok (.iconst 1, 1) := by decide +kernel
theorem dX8_steps_84 : decode cX8_steps 84 = .ok (.iload 4, 2) := by decide +kernel
theorem dX8_steps_86 : decode cX8_steps 86 = .ok (.iconst 2, 1) := by decide +kernel
theorem dX8_steps_87 : decode cX8_steps 87 = .ok (.idiv, 1) := by decide +kernel
theorem dX8_steps_88 : decode cX8_steps 88 = .ok (.ishl, 1) := by decide +kernel
theorem dX8_steps_89 : decode cX8_steps 89 = .ok (.iconst (-1), 1) := by decide +kernel
theorem dX8_steps_90 : decode cX8_steps 90 = .ok (.ixor, 1) := by decide +kernel
theorem dX8_steps_91 : decode cX8_steps 91 = .ok (.iand, 1) := by decide +kernel
theorem dX8_steps_92 : decode cX8_steps 92 = .ok (.imul, 1) := by decide +kernel
theorem dX8_steps_93 : decode cX8_steps 93 = .ok (.iload 4, 2) := by decide +kernel
theorem dX8_steps_95 : decode cX8_steps 95 = .ok (.iadd, 1) := by decide +kernel
theorem dX8_steps_96 : decode cX8_steps 96 = .ok (.iaload, 1) := by decide +kernel
theorem dX8_steps_97 : decode cX8_steps 97 = .ok (.iadd, 1) := by decide +kernel
theorem dX8_steps_98 : decode cX8_steps 98 = .ok (.istore 7, 2) := by decide +kernel
theorem dX8_steps_100 : decode cX8_steps 100 = .ok (.iload 7, 2) := by decide +kernel
theorem dX8_steps_102 : decode cX8_steps 102 = .ok (.iload_n 2, 1) := by decide +kernel
theorem dX8_steps_103 : decode cX8_steps 103 = .ok (.ifCond .ne 12, 3) := by decide +kernel
theorem dX8_steps_106 : decode cX8_steps 106 = .ok (.aload_n 0, 1) := by decide +kernel
theorem dX8_steps_107 : decode cX8_steps 107 = .ok (.getfield 38, 3) := by decide +kernel
theorem dX8_steps_110 : decode cX8_steps 110 = .ok (.iload_n 1, 1) := by decide +kernel
theorem dX8_steps_111 : decode cX8_steps 111 = .ok (.iaload, 1) := by decide +kernel
theorem dX8_steps_112 : decode cX8_steps 112 = .ok (.goto 21, 3) := by decide +kernel
theorem dX8_steps_115 : decode cX8_steps 115 = .ok (.aload_n 0, 1) := by decide +kernel
theorem dX8_steps_116 : decode cX8_steps 116 = .ok (.getfield 35, 3) := by decide +kernel
theorem dX8_steps_119 : decode cX8_steps 119 = .ok (.bipush 18, 2) := by decide +kernel
theorem dX8_steps_121 : decode cX8_steps 121 = .ok (.iload_n 3, 1) := by decide +kernel
theorem dX8_steps_122 : decode cX8_steps 122 = .ok (.imul, 1) := by decide +kernel
theorem dX8_steps_123 : decode cX8_steps 123 = .ok (.aload_n 0, 1) := by decide +kernel
theorem dX8_steps_124 : decode cX8_steps 124 = .ok (.getfield 41, 3) := by decide +kernel
theorem dX8_steps_127 : decode cX8_steps 127 = .ok (.iload_n 2, 1) := by decide +kernel
theorem dX8_steps_128 : decode cX8_steps 128 = .ok (.iconst 1, 1) := by decide +kernel
theorem dX8_steps_129 : decode cX8_steps 129 = .ok (.isub, 1) := by decide +kernel
theorem dX8_steps_130 : decode cX8_steps 130 = .ok (.iaload, 1) := by decide +kernel
theorem dX8_steps_131 : decode cX8_steps 131 = .ok (.iadd, 1) := by decide +kernel
theorem dX8_steps_132 : decode cX8_steps 132 = .ok (.iaload, 1) := by decide +kernel
theorem dX8_steps_133 : decode cX8_steps 133 = .ok (.if_icmp .eq 7, 3) := by decide +kernel
theorem dX8_steps_136 : decode cX8_steps 136 = .ok (.iconst 1, 1) := by decide +kernel
theorem dX8_steps_137 : decode cX8_steps 137 = .ok (.goto 4, 3) := by decide +kernel
theorem dX8_steps_140 : decode cX8_steps 140 = .ok (.iconst 0, 1) := by decide +kernel
theorem dX8_steps_141 : decode cX8_steps 141 = .ok (.istore 5, 2) := by decide +kernel
theorem dX8_steps_143 : decode cX8_steps 143 = .ok (.iload 5, 2) := by decide +kernel
theorem dX8_steps_145 : decode cX8_steps 145 = .ok (.ifCond .eq 6, 3) := by decide +kernel
theorem dX8_steps_148 : decode cX8_steps 148 = .ok (.iinc 4 1, 3) := by decide +kernel
theorem dX8_steps_151 : decode cX8_steps 151 = .ok (.goto (-137), 3) := by decide +kernel
theorem dX8_steps_154 : decode cX8_steps 154 = .ok (.aload_n 0, 1) := by decide +kernel
theorem dX8_steps_155 : decode cX8_steps 155 = .ok (.getfield 41, 3) := by decide +kernel
theorem dX8_steps_158 : decode cX8_steps 158 = .ok (.iload_n 2, 1) := by decide +kernel
theorem dX8_steps_159 : decode cX8_steps 159 = .ok (.iload 4, 2) := by decide +kernel
theorem dX8_steps_161 : decode cX8_steps 161 = .ok (.iastore, 1) := by decide +kernel
theorem dX8_steps_162 : decode cX8_steps 162 = .ok (.iinc 2 1, 3) := by decide +kernel
theorem dX8_steps_165 : decode cX8_steps 165 = .ok (.iload_n 3, 1) := by decide +kernel
theorem dX8_steps_166 : decode cX8_steps 166 = .ok (.iconst 1, 1) := by decide +kernel
theorem dX8_steps_167 : decode cX8_steps 167 = .ok (.iload 4, 2) := by decide +kernel
theorem dX8_steps_169 : decode cX8_steps 169 = .ok (.iconst 2, 1) := by decide +kernel
theorem dX8_steps_170 : decode cX8_steps 170 = .ok (.idiv, 1) := by decide +kernel
theorem dX8_steps_171 : decode cX8_steps 171 = .ok (.ishl, 1) := by decide +kernel
theorem dX8_steps_172 : decode cX8_steps 172 = .ok (.iconst (-1), 1) := by decide +kernel
theorem dX8_steps_173 : decode cX8_steps 173 = .ok (.ixor, 1) := by decide +kernel
theorem dX8_steps_174 : decode cX8_steps 174 = .ok (.iand, 1) := by decide +kernel
theorem dX8_steps_175 : decode cX8_steps 175 = .ok (.istore_n 3, 1) := by decide +kernel
theorem dX8_steps_176 : decode cX8_steps 176 = .ok (.goto (-172), 3) := by decide +kernel
theorem dX8_steps_179 : decode cX8_steps 179 = .ok (.iload_n 2, 1) := by decide +kernel
theorem dX8_steps_180 : decode cX8_steps 180 = .ok (.ireturn, 1) := by decide +kernel
theorem dX8_isSet_0 : decode cX8_isSet 0 = .ok (.iload_n 1, 1) := by decide +kernel
theorem dX8_isSet_1 : decode cX8_isSet 1 = .ok (.ifCond .le 17, 3) := by decide +kernel
theorem dX8_isSet_4 : decode cX8_isSet 4 = .ok (.iload_n 1, 1) := by decide +kernel
theorem dX8_isSet_5 : decode cX8_isSet 5 = .ok (.iconst 1, 1) := by decide +kernel
theorem dX8_isSet_6 : decode cX8_isSet 6 = .ok (.aload_n 0, 1) := by decide +kernel
theorem dX8_isSet_7 : decode cX8_isSet 7 = .ok (.getfield 71, 3) := by decide +kernel
theorem dX8_isSet_10 : decode cX8_isSet 10 = .ok (.ishl, 1) := by decide +kernel
theorem dX8_isSet_11 : decode cX8_isSet 11 = .ok (.if_icmp .ge 7, 3) := by decide +kernel
theorem dX8_isSet_14 : decode cX8_isSet 14 = .ok (.iconst 1, 1) := by decide +kernel
theorem dX8_isSet_15 : decode cX8_isSet 15 = .ok (.goto 4, 3) := by decide +kernel
theorem dX8_isSet_18 : decode cX8_isSet 18 = .ok (.iconst 0, 1) := by decide +kernel
theorem dX8_isSet_19 : decode cX8_isSet 19 = .ok (.ireturn, 1) := by decide +kernel
set_option maxRecDepth 20000 in
theorem ggX8_run_X8_isSet : GoodIn wsX8_run wsX8_isSet := goodIn_r _ [9, 10, 62, 63, 64, 65, 66, 67, 68, 69, 70, 71, 72, 73, 74, 75, 76, 77, 78, 79, 80, 81, 82, 83, 84, 85] (by decide +kernel) (by decide +kernel)
set_option maxRecDepth 20000 in
theorem gX8_run_X8_isSet : GoodIn wsX8_run (wsV RX8 118 RX8 yX8_isSet wsX8_isSet) := goodIn_app (goodIn_of _ (by decide +kernel)) ggX8_run_X8_isSet
set_option maxRecDepth 20000 in
theorem ggX8_run_X8_work : GoodIn wsX8_run wsX8_work := goodIn_r _ [14, 10, 15, 16, 2, 17, 18, 19, 8, 20, 21, 3, 22, 23, 24, 25, 26, 27, 28, 29, 30, 31, 32, 33, 34, 35, 36, 37, 38, 39, 40, 41, 42, 43, 44, 45, 46, 47, 48, 49, 50, 51, 52, 53, 62, 63, 64, 65, 66, 67, 68, 69, 70, 71, 72, 73, 74, 75, 76, 77, 78, 79, 80, 81, 82, 83, 84, 85] (by decide +kernel) (by decide +kernel)
set_option maxRecDepth 20000 in
theorem gX8_run_X8_work : GoodIn wsX8_run (wsV RX8 122 RX8 yX8_work wsX8_work) := goodIn_app (goodIn_of _ (by decide +kernel)) ggX8_run_X8_work
set_option maxRecDepth 20000 in
theorem ggX8_run_X8_priceOf : GoodIn wsX8_run wsX8_priceOf := goodIn_r _ [57, 2, 3, 22, 62, 63, 64, 65, 66, 67, 68, 69, 70, 71, 72, 73, 74, 75, 76, 77, 78, 79, 80, 81, 82, 83, 84, 85] (by decide +kernel) (by decide +kernel)
set_option maxRecDepth 20000 in
theorem gX8_run_X8_priceOf : GoodIn wsX8_run (wsV RX8 125 RX8 yX8_priceOf wsX8_priceOf) := goodIn_app (goodIn_of _ (by decide +kernel)) ggX8_run_X8_priceOf
set_option maxRecDepth 20000 in
theorem ggX8_run_X8_steps : GoodIn wsX8_run wsX8_steps := goodIn_r _ [61, 15, 4, 16, 2, 50, 51, 52, 8, 53, 21, 17, 18, 19, 20, 3, 22, 23, 24, 25, 26, 27, 28, 29, 30, 31, 32, 33, 34, 35, 36, 37, 38, 39, 40, 41, 42, 43, 44, 45, 46, 47, 48, 49, 62, 63, 64, 65, 66, 67, 68, 69, 70, 71, 72, 73, 74, 75, 76, 77, 78, 79, 80, 81, 82, 83, 84, 85] (by decide +kernel) (by decide +kernel)
set_option maxRecDepth 20000 in
theorem gX8_run_X8_steps : GoodIn wsX8_run (wsV RX8 128 RX8 yX8_steps wsX8_steps) := goodIn_app (goodIn_of _ (by decide +kernel)) ggX8_run_X8_steps
set_option maxRecDepth 20000 in
theorem ggX8_run_X8_isJump : GoodIn wsX8_run wsX8_isJump := goodIn_r _ [26, 27, 28, 29, 8, 30, 31, 32, 33, 34, 35, 36, 37, 38, 62, 63, 64, 65, 66, 67, 68, 69, 70, 71, 72, 73, 74, 75, 76, 77, 78, 79, 80, 81, 82, 83, 84, 85] (by decide +kernel) (by decide +kernel)
set_option maxRecDepth 20000 in
theorem gX8_run_X8_isJump : GoodIn wsX8_run (wsV RX8 104 RX8 yX8_isJump wsX8_isJump) := goodIn_app (goodIn_of _ (by decide +kernel)) ggX8_run_X8_isJump
theorem dX8_run_0 : decode cX8_run 0 = .ok (.aload_n 0, 1) := by decide +kernel
theorem dX8_run_1 : decode cX8_run 1 = .ok (.iconst 0, 1) := by decide +kernel
theorem dX8_run_2 : decode cX8_run 2 = .ok (.putfield 68, 3) := by decide +kernel
theorem dX8_run_5 : decode cX8_run 5 = .ok (.aload_n 0, 1) := by decide +kernel
theorem dX8_run_6 : decode cX8_run 6 = .ok (.iload_n 1, 1) := by decide +kernel
theorem dX8_run_7 : decode cX8_run 7 = .ok (.invokevirtual 118, 3) := by decide +kernel
theorem dX8_run_10 : decode cX8_run 10 = .ok (.ifCond .eq 12, 3) := by decide +kernel
theorem dX8_run_13 : decode cX8_run 13 = .ok (.iload_n 2, 1) := by decide +kernel
theorem dX8_run_14 : decode cX8_run 14 = .ok (.ifCond .lt 8, 3) := by decide +kernel
theorem dX8_run_17 : decode cX8_run 17 = .ok (.iload_n 2, 1) := by decide +kernel
theorem dX8_run_18 : decode cX8_run 18 = .ok (.iconst 3, 1) := by decide +kernel
theorem dX8_run_19 : decode cX8_run 19 = .ok (.if_icmp .le 5, 3) := by decide +kernel
theorem dX8_run_22 : decode cX8_run 22 = .ok (.iconst (-1), 1) := by decide +kernel
theorem dX8_run_23 : decode cX8_run 23 = .ok (.ireturn, 1) := by decide +kernel
theorem dX8_run_24 : decode cX8_run 24 = .ok (.aload_n 0, 1) := by decide +kernel
theorem dX8_run_25 : decode cX8_run 25 = .ok (.invokevirtual 122, 3) := by decide +kernel
theorem dX8_run_28 : decode cX8_run 28 = .ok (.iload_n 2, 1) := by decide +kernel
theorem dX8_run_29 : decode cX8_run 29 = .ok (.iconst 2, 1) := by decide +kernel
theorem dX8_run_30 : decode cX8_run 30 = .ok (.if_icmp .ge 29, 3) := by decide +kernel
theorem dX8_run_33 : decode cX8_run 33 = .ok (.iload_n 2, 1) := by decide +kernel
theorem dX8_run_34 : decode cX8_run 34 = .ok (.ifCond .ne 15, 3) := by decide +kernel
theorem dX8_run_37 : decode cX8_run 37 = .ok (.aload_n 0, 1) := by decide +kernel
theorem dX8_run_38 : decode cX8_run 38 = .ok (.getfield 38, 3) := by decide +kernel
theorem dX8_run_41 : decode cX8_run 41 = .ok (.iload_n 1, 1) := by decide +kernel
theorem dX8_run_42 : decode cX8_run 42 = .ok (.iaload, 1) := by decide +kernel
theorem dX8_run_43 : decode cX8_run 43 = .ok (.ldc 107, 2) := by decide +kernel
theorem dX8_run_45 : decode cX8_run 45 = .ok (.idiv, 1) := by decide +kernel
theorem dX8_run_46 : decode cX8_run 46 = .ok (.goto 12, 3) := by decide +kernel
theorem dX8_run_49 : decode cX8_run 49 = .ok (.aload_n 0, 1) := by decide +kernel
theorem dX8_run_50 : decode cX8_run 50 = .ok (.getfield 38, 3) := by decide +kernel
theorem dX8_run_53 : decode cX8_run 53 = .ok (.iload_n 1, 1) := by decide +kernel
theorem dX8_run_54 : decode cX8_run 54 = .ok (.iaload, 1) := by decide +kernel
theorem dX8_run_55 : decode cX8_run 55 = .ok (.ldc 107, 2) := by decide +kernel
theorem dX8_run_57 : decode cX8_run 57 = .ok (.irem, 1) := by decide +kernel
theorem dX8_run_58 : decode cX8_run 58 = .ok (.ireturn, 1) := by decide +kernel
theorem dX8_run_59 : decode cX8_run 59 = .ok (.iload_n 2, 1) := by decide +kernel
theorem dX8_run_60 : decode cX8_run 60 = .ok (.iconst 2, 1) := by decide +kernel
theorem dX8_run_61 : decode cX8_run 61 = .ok (.if_icmp .ne 9, 3) := by decide +kernel
theorem dX8_run_64 : decode cX8_run 64 = .ok (.aload_n 0, 1) := by decide +kernel
theorem dX8_run_65 : decode cX8_run 65 = .ok (.iload_n 1, 1) := by decide +kernel
theorem dX8_run_66 : decode cX8_run 66 = .ok (.invokevirtual 125, 3) := by decide +kernel
theorem dX8_run_69 : decode cX8_run 69 = .ok (.ireturn, 1) := by decide +kernel
theorem dX8_run_70 : decode cX8_run 70 = .ok (.aload_n 0, 1) := by decide +kernel
theorem dX8_run_71 : decode cX8_run 71 = .ok (.iload_n 1, 1) := by decide +kernel
theorem dX8_run_72 : decode cX8_run 72 = .ok (.invokevirtual 128, 3) := by decide +kernel
theorem dX8_run_75 : decode cX8_run 75 = .ok (.istore_n 3, 1) := by decide +kernel
theorem dX8_run_76 : decode cX8_run 76 = .ok (.iconst 0, 1) := by decide +kernel
theorem dX8_run_77 : decode cX8_run 77 = .ok (.istore 4, 2) := by decide +kernel
theorem dX8_run_79 : decode cX8_run 79 = .ok (.iconst 1, 1) := by decide +kernel
theorem dX8_run_80 : decode cX8_run 80 = .ok (.istore 5, 2) := by decide +kernel
theorem dX8_run_82 : decode cX8_run 82 = .ok (.iload 5, 2) := by decide +kernel
theorem dX8_run_84 : decode cX8_run 84 = .ok (.iload_n 3, 1) := by decide +kernel
theorem dX8_run_85 : decode cX8_run 85 = .ok (.if_icmp .ge 42, 3) := by decide +kernel
theorem dX8_run_88 : decode cX8_run 88 = .ok (.iload 4, 2) := by decide +kernel
theorem dX8_run_90 : decode cX8_run 90 = .ok (.aload_n 0, 1) := by decide +kernel
theorem dX8_run_91 : decode cX8_run 91 = .ok (.aload_n 0, 1) := by decide +kernel
theorem dX8_run_92 : decode cX8_run 92 = .ok (.getfield 41, 3) := by decide +kernel
theorem dX8_run_95 : decode cX8_run 95 = .ok (.iload 5, 2) := by decide +kernel
theorem dX8_run_97 : decode cX8_run 97 = .ok (.iconst 1, 1) := by decide +kernel
theorem dX8_run_98 : decode cX8_run 98 = .ok (.isub, 1) := by decide +kernel
theorem dX8_run_99 : decode cX8_run 99 = .ok (.iaload, 1) := by decide +kernel
theorem dX8_run_100 : decode cX8_run 100 = .ok (.aload_n 0, 1) := by decide +kernel
theorem dX8_run_101 : decode cX8_run 101 = .ok (.getfield 41, 3) := by decide +kernel
theorem dX8_run_104 : decode cX8_run 104 = .ok (.iload 5, 2) := by decide +kernel
theorem dX8_run_106 : decode cX8_run 106 = .ok (.iaload, 1) := by decide +kernel
theorem dX8_run_107 : decode cX8_run 107 = .ok (.invokevirtual 104, 3) := by decide +kernel
theorem dX8_run_110 : decode cX8_run 110 = .ok (.ifCond .eq 7, 3) := by decide +kernel
theorem dX8_run_113 : decode cX8_run 113 = .ok (.iconst 1, 1) := by decide +kernel
theorem dX8_run_114 : decode cX8_run 114 = .ok (.goto 4, 3) := by decide +kernel
theorem dX8_run_117 : decode cX8_run 117 = .ok (.iconst 0, 1) := by decide +kernel
theorem dX8_run_118 : decode cX8_run 118 = .ok (.iadd, 1) := by decide +kernel
theorem dX8_run_119 : decode cX8_run 119 = .ok (.istore 4, 2) := by decide +kernel
theorem dX8_run_121 : decode cX8_run 121 = .ok (.iinc 5 1, 3) := by decide +kernel
theorem dX8_run_124 : decode cX8_run 124 = .ok (.goto (-42), 3) := by decide +kernel
theorem dX8_run_127 : decode cX8_run 127 = .ok (.iload 4, 2) := by decide +kernel
theorem dX8_run_129 : decode cX8_run 129 = .ok (.ireturn, 1) := by decide +kernel
set_option maxRecDepth 20000 in
theorem ggX8_step_X8_isSet : GoodIn wsX8_step wsX8_isSet := goodIn_r _ [7, 8, 58, 59, 60, 61, 62, 63, 64, 65, 66, 67, 68, 69, 70, 71, 72, 73, 74, 75, 76, 77, 78, 79, 80, 81] (by decide +kernel) (by decide +kernel)
set_option maxRecDepth 20000 in
theorem gX8_step_X8_isSet : GoodIn wsX8_step (wsV RX8 118 RX8 yX8_isSet wsX8_isSet) := goodIn_app (goodIn_of _ (by decide +kernel)) ggX8_step_X8_isSet
set_option maxRecDepth 20000 in
theorem ggX8_step_X8_work : GoodIn wsX8_step wsX8_work := goodIn_r _ [12, 8, 13, 14, 15, 16, 17, 18, 6, 19, 20, 21, 22, 23, 24, 25, 26, 27, 28, 29, 30, 31, 32, 33, 34, 35, 36, 37, 38, 39, 40, 41, 42, 43, 44, 45, 46, 47, 48, 49, 50, 51, 52, 53, 58, 59, 60, 61, 62, 63, 64, 65, 66, 67, 68, 69, 70, 71, 72, 73, 74, 75, 76, 77, 78, 79, 80, 81] (by decide +kernel) (by decide +kernel)
set_option maxRecDepth 20000 in
theorem gX8_step_X8_work : GoodIn wsX8_step (wsV RX8 122 RX8 yX8_work wsX8_work) := goodIn_app (goodIn_of _ (by decide +kernel)) ggX8_step_X8_work
set_option maxRecDepth 20000 in
theorem ggX8_step_X8_steps : GoodIn wsX8_step wsX8_steps := goodIn_r _ [57, 13, 2, 14, 15, 50, 51, 52, 6, 53, 20, 16, 17, 18, 19, 21, 22, 23, 24, 25, 26, 27, 28, 29, 30, 31, 32, 33, 34, 35, 36, 37, 38, 39, 40, 41, 42, 43, 44, 45, 46, 47, 48, 49, 58, 59, 60, 61, 62, 63, 64, 65, 66, 67, 68, 69, 70, 71, 72, 73, 74, 75, 76, 77, 78, 79, 80, 81] (by decide +kernel) (by decide +kernel)
set_option maxRecDepth 20000 in
theorem gX8_step_X8_steps : GoodIn wsX8_step (wsV RX8 128 RX8 yX8_steps wsX8_steps) := goodIn_app (goodIn_of _ (by decide +kernel)) ggX8_step_X8_steps
theorem dX8_step_0 : decode cX8_step 0 = .ok (.aload_n 0, 1) := by decide +kernel
theorem dX8_step_1 : decode cX8_step 1 = .ok (.iconst 0, 1) := by decide +kernel
theorem dX8_step_2 : decode cX8_step 2 = .ok (.putfield 68, 3) := by decide +kernel
theorem dX8_step_5 : decode cX8_step 5 = .ok (.aload_n 0, 1) := by decide +kernel
theorem dX8_step_6 : decode cX8_step 6 = .ok (.iload_n 1, 1) := by decide +kernel
theorem dX8_step_7 : decode cX8_step 7 = .ok (.invokevirtual 118, 3) := by decide +kernel
theorem dX8_step_10 : decode cX8_step 10 = .ok (.ifCond .eq 7, 3) := by decide +kernel
theorem dX8_step_13 : decode cX8_step 13 = .ok (.iload_n 2, 1) := by decide +kernel
theorem dX8_step_14 : decode cX8_step 14 = .ok (.ifCond .ge 5, 3) := by decide +kernel
theorem dX8_step_17 : decode cX8_step 17 = .ok (.iconst (-1), 1) := by decide +kernel
theorem dX8_step_18 : decode cX8_step 18 = .ok (.ireturn, 1) := by decide +kernel
theorem dX8_step_19 : decode cX8_step 19 = .ok (.aload_n 0, 1) := by decide +kernel
theorem dX8_step_20 : decode cX8_step 20 = .ok (.invokevirtual 122, 3) := by decide +kernel
theorem dX8_step_23 : decode cX8_step 23 = .ok (.iload_n 2, 1) := by decide +kernel
theorem dX8_step_24 : decode cX8_step 24 = .ok (.aload_n 0, 1) := by decide +kernel
theorem dX8_step_25 : decode cX8_step 25 = .ok (.iload_n 1, 1) := by decide +kernel
theorem dX8_step_26 : decode cX8_step 26 = .ok (.invokevirtual 128, 3) := by decide +kernel
theorem dX8_step_29 : decode cX8_step 29 = .ok (.if_icmp .ge 12, 3) := by decide +kernel
theorem dX8_step_32 : decode cX8_step 32 = .ok (.aload_n 0, 1) := by decide +kernel
theorem dX8_step_33 : decode cX8_step 33 = .ok (.getfield 41, 3) := by decide +kernel
theorem dX8_step_36 : decode cX8_step 36 = .ok (.iload_n 2, 1) := by decide +kernel
theorem dX8_step_37 : decode cX8_step 37 = .ok (.iaload, 1) := by decide +kernel
theorem dX8_step_38 : decode cX8_step 38 = .ok (.goto 4, 3) := by decide +kernel
theorem dX8_step_41 : decode cX8_step 41 = .ok (.iconst (-1), 1) := by decide +kernel
theorem dX8_step_42 : decode cX8_step 42 = .ok (.ireturn, 1) := by decide +kernel
set_option maxRecDepth 20000 in
theorem ggX8_split_X8_work : GoodIn wsX8_split wsX8_work := goodIn_r _ [19, 2, 20, 21, 5, 22, 23, 24, 18, 25, 26, 6, 27, 28, 29, 30, 31, 32, 33, 34, 35, 36, 37, 38, 39, 40, 41, 42, 43, 44, 45, 46, 47, 48, 49, 50, 51, 52, 53, 54, 55, 56, 57, 58, 63, 64, 65, 66, 67, 68, 69, 70, 71, 72, 73, 74, 75, 76, 77, 78, 79, 80, 81, 82, 83, 84, 85, 86] (by decide +kernel) (by decide +kernel)
set_option maxRecDepth 20000 in
theorem gX8_split_X8_work : GoodIn wsX8_split (wsV RX8 122 RX8 yX8_work wsX8_work) := goodIn_app (goodIn_of _ (by decide +kernel)) ggX8_split_X8_work
set_option maxRecDepth 20000 in
theorem ggX8_split_X8_priceOf : GoodIn wsX8_split wsX8_priceOf := goodIn_r _ [62, 5, 6, 27, 63, 64, 65, 66, 67, 68, 69, 70, 71, 72, 73, 74, 75, 76, 77, 78, 79, 80, 81, 82, 83, 84, 85, 86] (by decide +kernel) (by decide +kernel)
set_option maxRecDepth 20000 in
theorem gX8_split_X8_priceOf : GoodIn wsX8_split (wsV RX8 125 RX8 yX8_priceOf wsX8_priceOf) := goodIn_app (goodIn_of _ (by decide +kernel)) ggX8_split_X8_priceOf
theorem dX8_split_0 : decode cX8_split 0 = .ok (.aload_n 0, 1) := by decide +kernel
theorem dX8_split_1 : decode cX8_split 1 = .ok (.iconst 0, 1) := by decide +kernel
theorem dX8_split_2 : decode cX8_split 2 = .ok (.putfield 68, 3) := by decide +kernel
theorem dX8_split_5 : decode cX8_split 5 = .ok (.aload_n 0, 1) := by decide +kernel
theorem dX8_split_6 : decode cX8_split 6 = .ok (.invokevirtual 122, 3) := by decide +kernel
theorem dX8_split_9 : decode cX8_split 9 = .ok (.iconst 1, 1) := by decide +kernel
theorem dX8_split_10 : decode cX8_split 10 = .ok (.aload_n 0, 1) := by decide +kernel
theorem dX8_split_11 : decode cX8_split 11 = .ok (.getfield 71, 3) := by decide +kernel
theorem dX8_split_14 : decode cX8_split 14 = .ok (.ishl, 1) := by decide +kernel
theorem dX8_split_15 : decode cX8_split 15 = .ok (.iconst 1, 1) := by decide +kernel
theorem dX8_split_16 : decode cX8_split 16 = .ok (.isub, 1) := by decide +kernel
theorem dX8_split_17 : decode cX8_split 17 = .ok (.istore_n 1, 1) := by decide +kernel
theorem dX8_split_18 : decode cX8_split 18 = .ok (.aload_n 0, 1) := by decide +kernel
theorem dX8_split_19 : decode cX8_split 19 = .ok (.getfield 53, 3) := by decide +kernel
theorem dX8_split_22 : decode cX8_split 22 = .ok (.iconst 0, 1) := by decide +kernel
theorem dX8_split_23 : decode cX8_split 23 = .ok (.iconst 0, 1) := by decide +kernel
theorem dX8_split_24 : decode cX8_split 24 = .ok (.iastore, 1) := by decide +kernel
theorem dX8_split_25 : decode cX8_split 25 = .ok (.aload_n 0, 1) := by decide +kernel
theorem dX8_split_26 : decode cX8_split 26 = .ok (.getfield 56, 3) := by decide +kernel
theorem dX8_split_29 : decode cX8_split 29 = .ok (.iconst 0, 1) := by decide +kernel
theorem dX8_split_30 : decode cX8_split 30 = .ok (.iconst 0, 1) := by decide +kernel
theorem dX8_split_31 : decode cX8_split 31 = .ok (.iastore, 1) := by decide +kernel
theorem dX8_split_32 : decode cX8_split 32 = .ok (.iconst 1, 1) := by decide +kernel
theorem dX8_split_33 : decode cX8_split 33 = .ok (.istore_n 2, 1) := by decide +kernel
theorem dX8_split_34 : decode cX8_split 34 = .ok (.iload_n 2, 1) := by decide +kernel
theorem dX8_split_35 : decode cX8_split 35 = .ok (.iload_n 1, 1) := by decide +kernel
theorem dX8_split_36 : decode cX8_split 36 = .ok (.if_icmp .gt 201, 3) := by decide +kernel
theorem dX8_split_39 : decode cX8_split 39 = .ok (.aload_n 0, 1) := by decide +kernel
theorem dX8_split_40 : decode cX8_split 40 = .ok (.getfield 53, 3) := by decide +kernel
theorem dX8_split_43 : decode cX8_split 43 = .ok (.iload_n 2, 1) := by decide +kernel
theorem dX8_split_44 : decode cX8_split 44 = .ok (.bipush 99, 2) := by decide +kernel
theorem dX8_split_46 : decode cX8_split 46 = .ok (.iastore, 1) := by decide +kernel
theorem dX8_split_47 : decode cX8_split 47 = .ok (.aload_n 0, 1) := by decide +kernel
theorem dX8_split_48 : decode cX8_split 48 = .ok (.getfield 56, 3) := by decide +kernel
theorem dX8_split_51 : decode cX8_split 51 = .ok (.iload_n 2, 1) := by decide +kernel
theorem dX8_split_52 : decode cX8_split 52 = .ok (.iconst 0, 1) := by decide +kernel
theorem dX8_split_53 : decode cX8_split 53 = .ok (.iastore, 1) := by decide +kernel
theorem dX8_split_54 : decode cX8_split 54 = .ok (.iconst 1, 1) := by decide +kernel
theorem dX8_split_55 : decode cX8_split 55 = .ok (.istore_n 3, 1) := by decide +kernel
theorem dX8_split_56 : decode cX8_split 56 = .ok (.iload_n 2, 1) := by decide +kernel
theorem dX8_split_57 : decode cX8_split 57 = .ok (.iload_n 3, 1) := by decide +kernel
theorem dX8_split_58 : decode cX8_split 58 = .ok (.iand, 1) := by decide +kernel
theorem dX8_split_59 : decode cX8_split 59 = .ok (.ifCond .ne 10, 3) := by decide +kernel
theorem dX8_split_62 : decode cX8_split 62 = .ok (.iload_n 3, 1) := by decide +kernel
theorem dX8_split_63 : decode cX8_split 63 = .ok (.iconst 2, 1) := by decide +kernel
theorem dX8_split_64 : decode cX8_split 64 = .ok (.imul, 1) := by decide +kernel
theorem dX8_split_65 : decode cX8_split 65 = .ok (.istore_n 3, 1) := by decide +kernel
theorem dX8_split_66 : decode cX8_split 66 = .ok (.goto (-10), 3) := by decide +kernel
theorem dX8_split_69 : decode cX8_split 69 = .ok (.iload_n 3, 1) := by decide +kernel
theorem dX8_split_70 : decode cX8_split 70 = .ok (.istore 4, 2) := by decide +kernel
theorem dX8_split_72 : decode cX8_split 72 = .ok (.iload 4, 2) := by decide +kernel
theorem dX8_split_74 : decode cX8_split 74 = .ok (.iload_n 2, 1) := by decide +kernel
theorem dX8_split_75 : decode cX8_split 75 = .ok (.if_icmp .gt 156, 3) := by decide +kernel
theorem dX8_split_78 : decode cX8_split 78 = .ok (.iload 4, 2) := by decide +kernel
theorem dX8_split_80 : decode cX8_split 80 = .ok (.iload_n 2, 1) := by decide +kernel
theorem dX8_split_81 : decode cX8_split 81 = .ok (.iconst (-1), 1) := by decide +kernel
theorem dX8_split_82 : decode cX8_split 82 = .ok (.ixor, 1) := by decide +kernel
theorem dX8_split_83 : decode cX8_split 83 = .ok (.iand, 1) := by decide +kernel
theorem dX8_split_84 : decode cX8_split 84 = .ok (.ifCond .ne 141, 3) := by decide +kernel
theorem dX8_split_87 : decode cX8_split 87 = .ok (.iload 4, 2) := by decide +kernel
theorem dX8_split_89 : decode cX8_split 89 = .ok (.iload_n 3, 1) := by decide +kernel
theorem dX8_split_90 : decode cX8_split 90 = .ok (.iand, 1) := by decide +kernel
theorem dX8_split_91 : decode cX8_split 91 = .ok (.ifCond .eq 134, 3) := by decide +kernel
theorem dX8_split_94 : decode cX8_split 94 = .ok (.aload_n 0, 1) := by decide +kernel
theorem dX8_split_95 : decode cX8_split 95 = .ok (.getfield 38, 3) := by decide +kernel
theorem dX8_split_98 : decode cX8_split 98 = .ok (.iload 4, 2) := by decide +kernel
theorem dX8_split_100 : decode cX8_split 100 = .ok (.iaload, 1) := by decide +kernel
theorem dX8_split_101 : decode cX8_split 101 = .ok (.ldc 107, 2) := by decide +kernel
theorem dX8_split_103 : decode cX8_split 103 = .ok (.irem, 1) := by decide +kernel
theorem dX8_split_104 : decode cX8_split 104 = .ok (.aload_n 0, 1) := by decide +kernel
theorem dX8_split_105 : decode cX8_split 105 = .ok (.getfield 31, 3) := by decide +kernel
theorem dX8_split_108 : decode cX8_split 108 = .ok (.if_icmp .gt 117, 3) := by decide +kernel
theorem dX8_split_111 : decode cX8_split 111 = .ok (.aload_n 0, 1) := by decide +kernel
theorem dX8_split_112 : decode cX8_split 112 = .ok (.getfield 53, 3) := by decide +kernel
theorem dX8_split_115 : decode cX8_split 115 = .ok (.iload_n 2, 1) := by decide +kernel
theorem dX8_split_116 : decode cX8_split 116 = .ok (.iload 4, 2) := by decide +kernel
theorem dX8_split_118 : decode cX8_split 118 = .ok (.iconst (-1), 1) := by decide +kernel
theorem dX8_split_119 : decode cX8_split 119 = .ok (.ixor, 1) := by decide +kernel
theorem dX8_split_120 : decode cX8_split 120 = .ok (.iand, 1) := by decide +kernel
theorem dX8_split_121 : decode cX8_split 121 = .ok (.iaload, 1) := by decide +kernel
theorem dX8_split_122 : decode cX8_split 122 = .ok (.bipush 99, 2) := by decide +kernel
theorem dX8_split_124 : decode cX8_split 124 = .ok (.if_icmp .ne 6, 3) := by decide +kernel
theorem dX8_split_127 : decode cX8_split 127 = .ok (.goto 98, 3) := by decide +kernel
theorem dX8_split_130 : decode cX8_split 130 = .ok (.iconst 1, 1) := by decide +kernel
theorem dX8_split_131 : decode cX8_split 131 = .ok (.aload_n 0, 1) := by decide +kernel
theorem dX8_split_132 : decode cX8_split 132 = .ok (.getfield 53, 3) := by decide +kernel
theorem dX8_split_135 : decode cX8_split 135 = .ok (.iload_n 2, 1) := by decide +kernel
theorem dX8_split_136 : decode cX8_split 136 = .ok (.iload 4, 2) := by decide +kernel
theorem dX8_split_138 : decode cX8_split 138 = .ok (.iconst (-1), 1) := by decide +kernel
theorem dX8_split_139 : decode cX8_split 139 = .ok (.ixor, 1) := by decide +kernel
theorem dX8_split_140 : decode cX8_split 140 = .ok (.iand, 1) := by decide +kernel
theorem dX8_split_141 : decode cX8_split 141 = .ok (.iaload, 1) := by decide +kernel
theorem dX8_split_142 : decode cX8_split 142 = .ok (.iadd, 1) := by decide +kernel
theorem dX8_split_143 : decode cX8_split 143 = .ok (.istore 5, 2) := by decide +kernel
theorem dX8_split_145 : decode cX8_split 145 = .ok (.aload_n 0, 1) := by decide +kernel
theorem dX8_split_146 : decode cX8_split 146 = .ok (.iload 4, 2) := by decide +kernel
theorem dX8_split_148 : decode cX8_split 148 = .ok (.invokevirtual 125, 3) := by decide +kernel
theorem dX8_split_151 : decode cX8_split 151 = .ok (.aload_n 0, 1) := by decide +kernel
theorem dX8_split_152 : decode cX8_split 152 = .ok (.getfield 56, 3) := by decide +kernel
theorem dX8_split_155 : decode cX8_split 155 = .ok (.iload_n 2, 1) := by decide +kernel
theorem dX8_split_156 : decode cX8_split 156 = .ok (.iload 4, 2) := by decide +kernel
theorem dX8_split_158 : decode cX8_split 158 = .ok (.iconst (-1), 1) := by decide +kernel
theorem dX8_split_159 : decode cX8_split 159 = .ok (.ixor, 1) := by decide +kernel
theorem dX8_split_160 : decode cX8_split 160 = .ok (.iand, 1) := by decide +kernel
theorem dX8_split_161 : decode cX8_split 161 = .ok (.iaload, 1) := by decide +kernel
theorem dX8_split_162 : decode cX8_split 162 = .ok (.iadd, 1) := by decide +kernel
theorem dX8_split_163 : decode cX8_split 163 = .ok (.istore 6, 2) := by decide +kernel
theorem dX8_split_165 : decode cX8_split 165 = .ok (.iload 5, 2) := by decide +kernel
theorem dX8_split_167 : decode cX8_split 167 = .ok (.aload_n 0, 1) := by decide +kernel
theorem dX8_split_168 : decode cX8_split 168 = .ok (.getfield 53, 3) := by decide +kernel
theorem dX8_split_171 : decode cX8_split 171 = .ok (.iload_n 2, 1) := by decide +kernel
theorem dX8_split_172 : decode cX8_split 172 = .ok (.iaload, 1) := by decide +kernel
theorem dX8_split_173 : decode cX8_split 173 = .ok (.if_icmp .gt 52, 3) := by decide +kernel
theorem dX8_split_176 : decode cX8_split 176 = .ok (.iload 5, 2) := by decide +kernel
theorem dX8_split_178 : decode cX8_split 178 = .ok (.aload_n 0, 1) := by decide +kernel
theorem dX8_split_179 : decode cX8_split 179 = .ok (.getfield 53, 3) := by decide +kernel
theorem dX8_split_182 : decode cX8_split 182 = .ok (.iload_n 2, 1) := by decide +kernel
theorem dX8_split_183 : decode cX8_split 183 = .ok (.iaload, 1) := by decide +kernel
theorem dX8_split_184 : decode cX8_split 184 = .ok (.if_icmp .ne 17, 3) := by decide +kernel
theorem dX8_split_187 : decode cX8_split 187 = .ok (.iload 6, 2) := by decide +kernel
theorem dX8_split_189 : decode cX8_split 189 = .ok (.aload_n 0, 1) := by decide +kernel
theorem dX8_split_190 : decode cX8_split 190 = .ok (.getfield 56, 3) := by decide +kernel
theorem dX8_split_193 : decode cX8_split 193 = .ok (.iload_n 2, 1) := by decide +kernel
theorem dX8_split_194 : decode cX8_split 194 = .ok (.iaload, 1) := by decide +kernel
theorem dX8_split_195 : decode cX8_split 195 = .ok (.if_icmp .lt 6, 3) := by decide +kernel
theorem dX8_split_198 : decode cX8_split 198 = .ok (.goto 27, 3) := by decide +kernel
theorem dX8_split_201 : decode cX8_split 201 = .ok (.aload_n 0, 1) := by decide +kernel
theorem dX8_split_202 : decode cX8_split 202 = .ok (.getfield 53, 3) := by decide +kernel
theorem dX8_split_205 : decode cX8_split 205 = .ok (.iload_n 2, 1) := by decide +kernel
theorem dX8_split_206 : decode cX8_split 206 = .ok (.iload 5, 2) := by decide +kernel
theorem dX8_split_208 : decode cX8_split 208 = .ok (.iastore, 1) := by decide +kernel
theorem dX8_split_209 : decode cX8_split 209 = .ok (.aload_n 0, 1) := by decide +kernel
theorem dX8_split_210 : decode cX8_split 210 = .ok (.getfield 56, 3) := by decide +kernel
theorem dX8_split_213 : decode cX8_split 213 = .ok (.iload_n 2, 1) := by decide +kernel
theorem dX8_split_214 : decode cX8_split 214 = .ok (.iload 6, 2) := by decide +kernel
theorem dX8_split_216 : decode cX8_split 216 = .ok (.iastore, 1) := by decide +kernel
theorem dX8_split_217 : decode cX8_split 217 = .ok (.aload_n 0, 1) := by decide +kernel
theorem dX8_split_218 : decode cX8_split 218 = .ok (.getfield 59, 3) := by decide +kernel
theorem dX8_split_221 : decode cX8_split 221 = .ok (.iload_n 2, 1) := by decide +kernel
theorem dX8_split_222 : decode cX8_split 222 = .ok (.iload 4, 2) := by decide +kernel
theorem dX8_split_224 : decode cX8_split 224 = .ok (.iastore, 1) := by decide +kernel
theorem dX8_split_225 : decode cX8_split 225 = .ok (.iinc 4 1, 3) := by decide +kernel
theorem dX8_split_228 : decode cX8_split 228 = .ok (.goto (-156), 3) := by decide +kernel
theorem dX8_split_231 : decode cX8_split 231 = .ok (.iinc 2 1, 3) := by decide +kernel
theorem dX8_split_234 : decode cX8_split 234 = .ok (.goto (-200), 3) := by decide +kernel
theorem dX8_split_237 : decode cX8_split 237 = .ok (.aload_n 0, 1) := by decide +kernel
theorem dX8_split_238 : decode cX8_split 238 = .ok (.getfield 53, 3) := by decide +kernel
theorem dX8_split_241 : decode cX8_split 241 = .ok (.iload_n 1, 1) := by decide +kernel
theorem dX8_split_242 : decode cX8_split 242 = .ok (.iaload, 1) := by decide +kernel
theorem dX8_split_243 : decode cX8_split 243 = .ok (.bipush 99, 2) := by decide +kernel
theorem dX8_split_245 : decode cX8_split 245 = .ok (.if_icmp .ne 5, 3) := by decide +kernel
theorem dX8_split_248 : decode cX8_split 248 = .ok (.iconst (-1), 1) := by decide +kernel
theorem dX8_split_249 : decode cX8_split 249 = .ok (.ireturn, 1) := by decide +kernel
theorem dX8_split_250 : decode cX8_split 250 = .ok (.aload_n 0, 1) := by decide +kernel
theorem dX8_split_251 : decode cX8_split 251 = .ok (.iconst 1, 1) := by decide +kernel
theorem dX8_split_252 : decode cX8_split 252 = .ok (.putfield 74, 3) := by decide +kernel
theorem dX8_split_255 : decode cX8_split 255 = .ok (.aload_n 0, 1) := by decide +kernel
theorem dX8_split_256 : decode cX8_split 256 = .ok (.aload_n 0, 1) := by decide +kernel
theorem dX8_split_257 : decode cX8_split 257 = .ok (.getfield 53, 3) := by decide +kernel
theorem dX8_split_260 : decode cX8_split 260 = .ok (.iload_n 1, 1) := by decide +kernel
theorem dX8_split_261 : decode cX8_split 261 = .ok (.iaload, 1) := by decide +kernel
theorem dX8_split_262 : decode cX8_split 262 = .ok (.putfield 131, 3) := by decide +kernel
theorem dX8_split_265 : decode cX8_split 265 = .ok (.aload_n 0, 1) := by decide +kernel
theorem dX8_split_266 : decode cX8_split 266 = .ok (.aload_n 0, 1) := by decide +kernel
theorem dX8_split_267 : decode cX8_split 267 = .ok (.getfield 56, 3) := by decide +kernel
theorem dX8_split_270 : decode cX8_split 270 = .ok (.iload_n 1, 1) := by decide +kernel
theorem dX8_split_271 : decode cX8_split 271 = .ok (.iaload, 1) := by decide +kernel
theorem dX8_split_272 : decode cX8_split 272 = .ok (.putfield 134, 3) := by decide +kernel
theorem dX8_split_275 : decode cX8_split 275 = .ok (.iload_n 1, 1) := by decide +kernel
theorem dX8_split_276 : decode cX8_split 276 = .ok (.istore_n 2, 1) := by decide +kernel
theorem dX8_split_277 : decode cX8_split 277 = .ok (.iconst 0, 1) := by decide +kernel
theorem dX8_split_278 : decode cX8_split 278 = .ok (.istore_n 3, 1) := by decide +kernel
theorem dX8_split_279 : decode cX8_split 279 = .ok (.iload_n 3, 1) := by decide +kernel
theorem dX8_split_280 : decode cX8_split 280 = .ok (.aload_n 0, 1) := by decide +kernel
theorem dX8_split_281 : decode cX8_split 281 = .ok (.getfield 131, 3) := by decide +kernel
theorem dX8_split_284 : decode cX8_split 284 = .ok (.if_icmp .ge 68, 3) := by decide +kernel
theorem dX8_split_287 : decode cX8_split 287 = .ok (.aload_n 0, 1) := by decide +kernel
theorem dX8_split_288 : decode cX8_split 288 = .ok (.getfield 44, 3) := by decide +kernel
theorem dX8_split_291 : decode cX8_split 291 = .ok (.iload_n 3, 1) := by decide +kernel
theorem dX8_split_292 : decode cX8_split 292 = .ok (.aload_n 0, 1) := by decide +kernel
theorem dX8_split_293 : decode cX8_split 293 = .ok (.getfield 59, 3) := by decide +kernel
theorem dX8_split_296 : decode cX8_split 296 = .ok (.iload_n 2, 1) := by decide +kernel
theorem dX8_split_297 : decode cX8_split 297 = .ok (.iaload, 1) := by decide +kernel
theorem dX8_split_298 : decode cX8_split 298 = .ok (.iastore, 1) := by decide +kernel
theorem dX8_split_299 : decode cX8_split 299 = .ok (.aload_n 0, 1) := by decide +kernel
theorem dX8_split_300 : decode cX8_split 300 = .ok (.getfield 47, 3) := by decide +kernel
theorem dX8_split_303 : decode cX8_split 303 = .ok (.iload_n 3, 1) := by decide +kernel
theorem dX8_split_304 : decode cX8_split 304 = .ok (.aload_n 0, 1) := by decide +kernel
theorem dX8_split_305 : decode cX8_split 305 = .ok (.getfield 38, 3) := by decide +kernel
theorem dX8_split_308 : decode cX8_split 308 = .ok (.aload_n 0, 1) := by decide +kernel
theorem dX8_split_309 : decode cX8_split 309 = .ok (.getfield 44, 3) := by decide +kernel
theorem dX8_split_312 : decode cX8_split 312 = .ok (.iload_n 3, 1) := by decide +kernel
theorem dX8_split_313 : decode cX8_split 313 = .ok (.iaload, 1) := by decide +kernel
theorem dX8_split_314 : decode cX8_split 314 = .ok (.iaload, 1) := by decide +kernel
theorem dX8_split_315 : decode cX8_split 315 = .ok (.ldc 107, 2) := by decide +kernel
theorem dX8_split_317 : decode cX8_split 317 = .ok (.irem, 1) := by decide +kernel
theorem dX8_split_318 : decode cX8_split 318 = .ok (.iastore, 1) := by decide +kernel
theorem dX8_split_319 : decode cX8_split 319 = .ok (.aload_n 0, 1) := by decide +kernel
theorem dX8_split_320 : decode cX8_split 320 = .ok (.getfield 50, 3) := by decide +kernel
theorem dX8_split_323 : decode cX8_split 323 = .ok (.iload_n 3, 1) := by decide +kernel
theorem dX8_split_324 : decode cX8_split 324 = .ok (.aload_n 0, 1) := by decide +kernel
theorem dX8_split_325 : decode cX8_split 325 = .ok (.aload_n 0, 1) := by decide +kernel
theorem dX8_split_326 : decode cX8_split 326 = .ok (.getfield 44, 3) := by decide +kernel
theorem dX8_split_329 : decode cX8_split 329 = .ok (.iload_n 3, 1) := by decide +kernel
theorem dX8_split_330 : decode cX8_split 330 = .ok (.iaload, 1) := by decide +kernel
theorem dX8_split_331 : decode cX8_split 331 = .ok (.invokevirtual 125, 3) := by decide +kernel
theorem dX8_split_334 : decode cX8_split 334 = .ok (.iastore, 1) := by decide +kernel
theorem dX8_split_335 : decode cX8_split 335 = .ok (.iload_n 2, 1) := by decide +kernel
theorem dX8_split_336 : decode cX8_split 336 = .ok (.aload_n 0, 1) := by decide +kernel
theorem dX8_split_337 : decode cX8_split 337 = .ok (.getfield 44, 3) := by decide +kernel
theorem dX8_split_340 : decode cX8_split 340 = .ok (.iload_n 3, 1) := by decide +kernel
theorem dX8_split_341 : decode cX8_split 341 = .ok (.iaload, 1) := by decide +kernel
theorem dX8_split_342 : decode cX8_split 342 = .ok (.iconst (-1), 1) := by decide +kernel
theorem dX8_split_343 : decode cX8_split 343 = .ok (.ixor, 1) := by decide +kernel
theorem dX8_split_344 : decode cX8_split 344 = .ok (.iand, 1) := by decide +kernel
theorem dX8_split_345 : decode cX8_split 345 = .ok (.istore_n 2, 1) := by decide +kernel
theorem dX8_split_346 : decode cX8_split 346 = .ok (.iinc 3 1, 3) := by decide +kernel
theorem dX8_split_349 : decode cX8_split 349 = .ok (.goto (-70), 3) := by decide +kernel
theorem dX8_split_352 : decode cX8_split 352 = .ok (.aload_n 0, 1) := by decide +kernel
theorem dX8_split_353 : decode cX8_split 353 = .ok (.getfield 131, 3) := by decide +kernel
theorem dX8_split_356 : decode cX8_split 356 = .ok (.ireturn, 1) := by decide +kernel
theorem dX8_fails_0 : decode cX8_fails 0 = .ok (.aload_n 0, 1) := by decide +kernel
theorem dX8_fails_1 : decode cX8_fails 1 = .ok (.iload_n 1, 1) := by decide +kernel
theorem dX8_fails_2 : decode cX8_fails 2 = .ok (.putfield 68, 3) := by decide +kernel
theorem dX8_fails_5 : decode cX8_fails 5 = .ok (.iconst 0, 1) := by decide +kernel
theorem dX8_fails_6 : decode cX8_fails 6 = .ok (.ireturn, 1) := by decide +kernel
set_option maxRecDepth 20000 in
theorem ggX8_part_X8_fails : GoodIn wsX8_part wsX8_fails := goodIn_r _ [11, 1, 12, 13, 14, 15, 16, 17, 18, 19, 20, 21, 22, 23, 24, 25, 26, 27, 28, 29, 30, 31, 32, 33, 34, 35] (by decide +kernel) (by decide +kernel)
set_option maxRecDepth 20000 in
theorem gX8_part_X8_fails : GoodIn wsX8_part (wsV RX8 137 RX8 yX8_fails wsX8_fails) := goodIn_app (goodIn_of _ (by decide +kernel)) ggX8_part_X8_fails
theorem dX8_part_0 : decode cX8_part 0 = .ok (.aload_n 0, 1) := by decide +kernel
theorem dX8_part_1 : decode cX8_part 1 = .ok (.iconst 0, 1) := by decide +kernel
theorem dX8_part_2 : decode cX8_part 2 = .ok (.putfield 68, 3) := by decide +kernel
theorem dX8_part_5 : decode cX8_part 5 = .ok (.aload_n 0, 1) := by decide +kernel
theorem dX8_part_6 : decode cX8_part 6 = .ok (.getfield 74, 3) := by decide +kernel
theorem dX8_part_9 : decode cX8_part 9 = .ok (.ifCond .eq 15, 3) := by decide +kernel
theorem dX8_part_12 : decode cX8_part 12 = .ok (.iload_n 1, 1) := by decide +kernel
theorem dX8_part_13 : decode cX8_part 13 = .ok (.ifCond .lt 11, 3) := by decide +kernel
theorem dX8_part_16 : decode cX8_part 16 = .ok (.iload_n 1, 1) := by decide +kernel
theorem dX8_part_17 : decode cX8_part 17 = .ok (.aload_n 0, 1) := by decide +kernel
theorem dX8_part_18 : decode cX8_part 18 = .ok (.getfield 131, 3) := by decide +kernel
theorem dX8_part_21 : decode cX8_part 21 = .ok (.if_icmp .lt 9, 3) := by decide +kernel
theorem dX8_part_24 : decode cX8_part 24 = .ok (.aload_n 0, 1) := by decide +kernel
theorem dX8_part_25 : decode cX8_part 25 = .ok (.iconst 1, 1) := by decide +kernel
theorem dX8_part_26 : decode cX8_part 26 = .ok (.invokevirtual 137, 3) := by decide +kernel
theorem dX8_part_29 : decode cX8_part 29 = .ok (.ireturn, 1) := by decide +kernel
theorem dX8_part_30 : decode cX8_part 30 = .ok (.iload_n 2, 1) := by decide +kernel
theorem dX8_part_31 : decode cX8_part 31 = .ok (.ifCond .ne 12, 3) := by decide +kernel
theorem dX8_part_34 : decode cX8_part 34 = .ok (.aload_n 0, 1) := by decide +kernel
theorem dX8_part_35 : decode cX8_part 35 = .ok (.getfield 44, 3) := by decide +kernel
theorem dX8_part_38 : decode cX8_part 38 = .ok (.iload_n 1, 1) := by decide +kernel
theorem dX8_part_39 : decode cX8_part 39 = .ok (.iaload, 1) := by decide +kernel
theorem dX8_part_40 : decode cX8_part 40 = .ok (.goto 36, 3) := by decide +kernel
theorem dX8_part_43 : decode cX8_part 43 = .ok (.iload_n 2, 1) := by decide +kernel
theorem dX8_part_44 : decode cX8_part 44 = .ok (.iconst 1, 1) := by decide +kernel
theorem dX8_part_45 : decode cX8_part 45 = .ok (.if_icmp .ne 12, 3) := by decide +kernel
theorem dX8_part_48 : decode cX8_part 48 = .ok (.aload_n 0, 1) := by decide +kernel
theorem dX8_part_49 : decode cX8_part 49 = .ok (.getfield 47, 3) := by decide +kernel
theorem dX8_part_52 : decode cX8_part 52 = .ok (.iload_n 1, 1) := by decide +kernel
theorem dX8_part_53 : decode cX8_part 53 = .ok (.iaload, 1) := by decide +kernel
theorem dX8_part_54 : decode cX8_part 54 = .ok (.goto 22, 3) := by decide +kernel
theorem dX8_part_57 : decode cX8_part 57 = .ok (.iload_n 2, 1) := by decide +kernel
theorem dX8_part_58 : decode cX8_part 58 = .ok (.iconst 2, 1) := by decide +kernel
theorem dX8_part_59 : decode cX8_part 59 = .ok (.if_icmp .ne 12, 3) := by decide +kernel
theorem dX8_part_62 : decode cX8_part 62 = .ok (.aload_n 0, 1) := by decide +kernel
theorem dX8_part_63 : decode cX8_part 63 = .ok (.getfield 50, 3) := by decide +kernel
theorem dX8_part_66 : decode cX8_part 66 = .ok (.iload_n 1, 1) := by decide +kernel
theorem dX8_part_67 : decode cX8_part 67 = .ok (.iaload, 1) := by decide +kernel
theorem dX8_part_68 : decode cX8_part 68 = .ok (.goto 8, 3) := by decide +kernel
theorem dX8_part_71 : decode cX8_part 71 = .ok (.aload_n 0, 1) := by decide +kernel
theorem dX8_part_72 : decode cX8_part 72 = .ok (.iconst 2, 1) := by decide +kernel
theorem dX8_part_73 : decode cX8_part 73 = .ok (.invokevirtual 137, 3) := by decide +kernel
theorem dX8_part_76 : decode cX8_part 76 = .ok (.ireturn, 1) := by decide +kernel
theorem dX8_feed_0 : decode cX8_feed 0 = .ok (.aload_n 0, 1) := by decide +kernel
theorem dX8_feed_1 : decode cX8_feed 1 = .ok (.iconst 0, 1) := by decide +kernel
theorem dX8_feed_2 : decode cX8_feed 2 = .ok (.putfield 68, 3) := by decide +kernel
theorem dX8_feed_5 : decode cX8_feed 5 = .ok (.aload_n 0, 1) := by decide +kernel
theorem dX8_feed_6 : decode cX8_feed 6 = .ok (.getfield 74, 3) := by decide +kernel
theorem dX8_feed_9 : decode cX8_feed 9 = .ok (.ifCond .eq 24, 3) := by decide +kernel
theorem dX8_feed_12 : decode cX8_feed 12 = .ok (.iload_n 1, 1) := by decide +kernel
theorem dX8_feed_13 : decode cX8_feed 13 = .ok (.ifCond .lt 20, 3) := by decide +kernel
theorem dX8_feed_16 : decode cX8_feed 16 = .ok (.iload_n 1, 1) := by decide +kernel
theorem dX8_feed_17 : decode cX8_feed 17 = .ok (.bipush 99, 2) := by decide +kernel
theorem dX8_feed_19 : decode cX8_feed 19 = .ok (.if_icmp .gt 14, 3) := by decide +kernel
theorem dX8_feed_22 : decode cX8_feed 22 = .ok (.iload_n 2, 1) := by decide +kernel
theorem dX8_feed_23 : decode cX8_feed 23 = .ok (.iconst 1, 1) := by decide +kernel
theorem dX8_feed_24 : decode cX8_feed 24 = .ok (.if_icmp .lt 9, 3) := by decide +kernel
theorem dX8_feed_27 : decode cX8_feed 27 = .ok (.iload_n 2, 1) := by decide +kernel
theorem dX8_feed_28 : decode cX8_feed 28 = .ok (.ldc 140, 2) := by decide +kernel
theorem dX8_feed_30 : decode cX8_feed 30 = .ok (.if_icmp .le 5, 3) := by decide +kernel
theorem dX8_feed_33 : decode cX8_feed 33 = .ok (.iconst (-1), 1) := by decide +kernel
theorem dX8_feed_34 : decode cX8_feed 34 = .ok (.ireturn, 1) := by decide +kernel
theorem dX8_feed_35 : decode cX8_feed 35 = .ok (.aload_n 0, 1) := by decide +kernel
theorem dX8_feed_36 : decode cX8_feed 36 = .ok (.getfield 62, 3) := by decide +kernel
theorem dX8_feed_39 : decode cX8_feed 39 = .ok (.iconst 0, 1) := by decide +kernel
theorem dX8_feed_40 : decode cX8_feed 40 = .ok (.iconst 0, 1) := by decide +kernel
theorem dX8_feed_41 : decode cX8_feed 41 = .ok (.iastore, 1) := by decide +kernel
theorem dX8_feed_42 : decode cX8_feed 42 = .ok (.iconst 1, 1) := by decide +kernel
theorem dX8_feed_43 : decode cX8_feed 43 = .ok (.istore_n 3, 1) := by decide +kernel
theorem dX8_feed_44 : decode cX8_feed 44 = .ok (.iload_n 3, 1) := by decide +kernel
theorem dX8_feed_45 : decode cX8_feed 45 = .ok (.iconst 1, 1) := by decide +kernel
theorem dX8_feed_46 : decode cX8_feed 46 = .ok (.aload_n 0, 1) := by decide +kernel
theorem dX8_feed_47 : decode cX8_feed 47 = .ok (.getfield 131, 3) := by decide +kernel
theorem dX8_feed_50 : decode cX8_feed 50 = .ok (.ishl, 1) := by decide +kernel
theorem dX8_feed_51 : decode cX8_feed 51 = .ok (.if_icmp .ge 160, 3) := by decide +kernel
theorem dX8_feed_54 : decode cX8_feed 54 = .ok (.aload_n 0, 1) := by decide +kernel
theorem dX8_feed_55 : decode cX8_feed 55 = .ok (.getfield 62, 3) := by decide +kernel
theorem dX8_feed_58 : decode cX8_feed 58 = .ok (.iload_n 3, 1) := by decide +kernel
theorem dX8_feed_59 : decode cX8_feed 59 = .ok (.bipush 99, 2) := by decide +kernel
theorem dX8_feed_61 : decode cX8_feed 61 = .ok (.iastore, 1) := by decide +kernel
theorem dX8_feed_62 : decode cX8_feed 62 = .ok (.iconst 1, 1) := by decide +kernel
theorem dX8_feed_63 : decode cX8_feed 63 = .ok (.istore 4, 2) := by decide +kernel
theorem dX8_feed_65 : decode cX8_feed 65 = .ok (.iload 4, 2) := by decide +kernel
theorem dX8_feed_67 : decode cX8_feed 67 = .ok (.iload_n 3, 1) := by decide +kernel
theorem dX8_feed_68 : decode cX8_feed 68 = .ok (.if_icmp .gt 137, 3) := by decide +kernel
theorem dX8_feed_71 : decode cX8_feed 71 = .ok (.iload 4, 2) := by decide +kernel
theorem dX8_feed_73 : decode cX8_feed 73 = .ok (.iload_n 3, 1) := by decide +kernel
theorem dX8_feed_74 : decode cX8_feed 74 = .ok (.iconst (-1), 1) := by decide +kernel
theorem dX8_feed_75 : decode cX8_feed 75 = .ok (.ixor, 1) := by decide +kernel
theorem dX8_feed_76 : decode cX8_feed 76 = .ok (.iand, 1) := by decide +kernel
theorem dX8_feed_77 : decode cX8_feed 77 = .ok (.ifCond .ne 122, 3) := by decide +kernel
theorem dX8_feed_80 : decode cX8_feed 80 = .ok (.aload_n 0, 1) := by decide +kernel
theorem dX8_feed_81 : decode cX8_feed 81 = .ok (.getfield 62, 3) := by decide +kernel
theorem dX8_feed_84 : decode cX8_feed 84 = .ok (.iload_n 3, 1) := by decide +kernel
theorem dX8_feed_85 : decode cX8_feed 85 = .ok (.iload 4, 2) := by decide +kernel
theorem dX8_feed_87 : decode cX8_feed 87 = .ok (.iconst (-1), 1) := by decide +kernel
theorem dX8_feed_88 : decode cX8_feed 88 = .ok (.ixor, 1) := by decide +kernel
theorem dX8_feed_89 : decode cX8_feed 89 = .ok (.iand, 1) := by decide +kernel
theorem dX8_feed_90 : decode cX8_feed 90 = .ok (.iaload, 1) := by decide +kernel
theorem dX8_feed_91 : decode cX8_feed 91 = .ok (.bipush 99, 2) := by decide +kernel
theorem dX8_feed_93 : decode cX8_feed 93 = .ok (.if_icmp .ne 6, 3) := by decide +kernel
theorem dX8_feed_96 : decode cX8_feed 96 = .ok (.goto 103, 3) := by decide +kernel
theorem dX8_feed_99 : decode cX8_feed 99 = .ok (.iconst 0, 1) := by decide +kernel
theorem dX8_feed_100 : decode cX8_feed 100 = .ok (.istore 5, 2) := by decide +kernel
theorem dX8_feed_102 : decode cX8_feed 102 = .ok (.iconst 0, 1) := by decide +kernel
theorem dX8_feed_103 : decode cX8_feed 103 = .ok (.istore 6, 2) := by decide +kernel
theorem dX8_feed_105 : decode cX8_feed 105 = .ok (.iload 6, 2) := by decide +kernel
theorem dX8_feed_107 : decode cX8_feed 107 = .ok (.aload_n 0, 1) := by decide +kernel
theorem dX8_feed_108 : decode cX8_feed 108 = .ok (.getfield 131, 3) := by decide +kernel
theorem dX8_feed_111 : decode cX8_feed 111 = .ok (.if_icmp .ge 41, 3) := by decide +kernel
theorem dX8_feed_114 : decode cX8_feed 114 = .ok (.iload 5, 2) := by decide +kernel
theorem dX8_feed_116 : decode cX8_feed 116 = .ok (.iload 4, 2) := by decide +kernel
theorem dX8_feed_118 : decode cX8_feed 118 = .ok (.iload 6, 2) := by decide +kernel
theorem dX8_feed_120 : decode cX8_feed 120 = .ok (.ishr, 1) := by decide +kernel
theorem dX8_feed_121 : decode cX8_feed 121 = .ok (.iconst 1, 1) := by decide +kernel
theorem dX8_feed_122 : decode cX8_feed 122 = .ok (.iand, 1) := by decide +kernel
theorem dX8_feed_123 : decode cX8_feed 123 = .ok (.iconst 1, 1) := by decide +kernel
theorem dX8_feed_124 : decode cX8_feed 124 = .ok (.if_icmp .ne 18, 3) := by decide +kernel
theorem dX8_feed_127 : decode cX8_feed 127 = .ok (.aload_n 0, 1) := by decide +kernel
theorem dX8_feed_128 : decode cX8_feed 128 = .ok (.getfield 47, 3) := by decide +kernel
theorem dX8_feed_131 : decode cX8_feed 131 = .ok (.iload 6, 2) := by decide +kernel
theorem dX8_feed_133 : decode cX8_feed 133 = .ok (.iaload, 1) := by decide +kernel
theorem dX8_feed_134 : decode cX8_feed 134 = .ok (.iload_n 1, 1) := by decide +kernel
theorem dX8_feed_135 : decode cX8_feed 135 = .ok (.imul, 1) := by decide +kernel
theorem dX8_feed_136 : decode cX8_feed 136 = .ok (.bipush 50, 2) := by decide +kernel
theorem dX8_feed_138 : decode cX8_feed 138 = .ok (.iadd, 1) := by decide +kernel
theorem dX8_feed_139 : decode cX8_feed 139 = .ok (.goto 4, 3) := by decide +kernel
theorem dX8_feed_142 : decode cX8_feed 142 = .ok (.iconst 0, 1) := by decide +kernel
theorem dX8_feed_143 : decode cX8_feed 143 = .ok (.iadd, 1) := by decide +kernel
theorem dX8_feed_144 : decode cX8_feed 144 = .ok (.istore 5, 2) := by decide +kernel
theorem dX8_feed_146 : decode cX8_feed 146 = .ok (.iinc 6 1, 3) := by decide +kernel
theorem dX8_feed_149 : decode cX8_feed 149 = .ok (.goto (-44), 3) := by decide +kernel
theorem dX8_feed_152 : decode cX8_feed 152 = .ok (.iload 5, 2) := by decide +kernel
theorem dX8_feed_154 : decode cX8_feed 154 = .ok (.iload_n 2, 1) := by decide +kernel
theorem dX8_feed_155 : decode cX8_feed 155 = .ok (.if_icmp .gt 44, 3) := by decide +kernel
theorem dX8_feed_158 : decode cX8_feed 158 = .ok (.aload_n 0, 1) := by decide +kernel
theorem dX8_feed_159 : decode cX8_feed 159 = .ok (.getfield 62, 3) := by decide +kernel
theorem dX8_feed_162 : decode cX8_feed 162 = .ok (.iload_n 3, 1) := by decide +kernel
theorem dX8_feed_163 : decode cX8_feed 163 = .ok (.iload 4, 2) := by decide +kernel
theorem dX8_feed_165 : decode cX8_feed 165 = .ok (.iconst (-1), 1) := by decide +kernel
theorem dX8_feed_166 : decode cX8_feed 166 = .ok (.ixor, 1) := by decide +kernel
theorem dX8_feed_167 : decode cX8_feed 167 = .ok (.iand, 1) := by decide +kernel
theorem dX8_feed_168 : decode cX8_feed 168 = .ok (.iaload, 1) := by decide +kernel
theorem dX8_feed_169 : decode cX8_feed 169 = .ok (.iconst 1, 1) := by decide +kernel
theorem dX8_feed_170 : decode cX8_feed 170 = .ok (.iadd, 1) := by decide +kernel
theorem dX8_feed_171 : decode cX8_feed 171 = .ok (.aload_n 0, 1) := by decide +kernel
theorem dX8_feed_172 : decode cX8_feed 172 = .ok (.getfield 62, 3) := by decide +kernel
theorem dX8_feed_175 : decode cX8_feed 175 = .ok (.iload_n 3, 1) := by decide +kernel
theorem dX8_feed_176 : decode cX8_feed 176 = .ok (.iaload, 1) := by decide +kernel
theorem dX8_feed_177 : decode cX8_feed 177 = .ok (.if_icmp .ge 22, 3) := by decide +kernel
theorem dX8_feed_180 : decode cX8_feed 180 = .ok (.aload_n 0, 1) := by decide +kernel
theorem dX8_feed_181 : decode cX8_feed 181 = .ok (.getfield 62, 3) := by decide +kernel
theorem dX8_feed_184 : decode cX8_feed 184 = .ok (.iload_n 3, 1) := by decide +kernel
theorem dX8_feed_185 : decode cX8_feed 185 = .ok (.aload_n 0, 1) := by decide +kernel
theorem dX8_feed_186 : decode cX8_feed 186 = .ok (.getfield 62, 3) := by decide +kernel
theorem dX8_feed_189 : decode cX8_feed 189 = .ok (.iload_n 3, 1) := by decide +kernel
theorem dX8_feed_190 : decode cX8_feed 190 = .ok (.iload 4, 2) := by decide +kernel
theorem dX8_feed_192 : decode cX8_feed 192 = .ok (.iconst (-1), 1) := by decide +kernel
theorem dX8_feed_193 : decode cX8_feed 193 = .ok (.ixor, 1) := by decide +kernel
theorem dX8_feed_194 : decode cX8_feed 194 = .ok (.iand, 1) := by decide +kernel
theorem dX8_feed_195 : decode cX8_feed 195 = .ok (.iaload, 1) := by decide +kernel
theorem dX8_feed_196 : decode cX8_feed 196 = .ok (.iconst 1, 1) := by decide +kernel
theorem dX8_feed_197 : decode cX8_feed 197 = .ok (.iadd, 1) := by decide +kernel
theorem dX8_feed_198 : decode cX8_feed 198 = .ok (.iastore, 1) := by decide +kernel
theorem dX8_feed_199 : decode cX8_feed 199 = .ok (.iinc 4 1, 3) := by decide +kernel
theorem dX8_feed_202 : decode cX8_feed 202 = .ok (.goto (-137), 3) := by decide +kernel
theorem dX8_feed_205 : decode cX8_feed 205 = .ok (.iinc 3 1, 3) := by decide +kernel
theorem dX8_feed_208 : decode cX8_feed 208 = .ok (.goto (-164), 3) := by decide +kernel
theorem dX8_feed_211 : decode cX8_feed 211 = .ok (.aload_n 0, 1) := by decide +kernel
theorem dX8_feed_212 : decode cX8_feed 212 = .ok (.getfield 62, 3) := by decide +kernel
theorem dX8_feed_215 : decode cX8_feed 215 = .ok (.iconst 1, 1) := by decide +kernel
theorem dX8_feed_216 : decode cX8_feed 216 = .ok (.aload_n 0, 1) := by decide +kernel
theorem dX8_feed_217 : decode cX8_feed 217 = .ok (.getfield 131, 3) := by decide +kernel
theorem dX8_feed_220 : decode cX8_feed 220 = .ok (.ishl, 1) := by decide +kernel
theorem dX8_feed_221 : decode cX8_feed 221 = .ok (.iconst 1, 1) := by decide +kernel
theorem dX8_feed_222 : decode cX8_feed 222 = .ok (.isub, 1) := by decide +kernel
theorem dX8_feed_223 : decode cX8_feed 223 = .ok (.iaload, 1) := by decide +kernel
theorem dX8_feed_224 : decode cX8_feed 224 = .ok (.istore_n 3, 1) := by decide +kernel
theorem dX8_feed_225 : decode cX8_feed 225 = .ok (.iload_n 3, 1) := by decide +kernel
theorem dX8_feed_226 : decode cX8_feed 226 = .ok (.bipush 99, 2) := by decide +kernel
theorem dX8_feed_228 : decode cX8_feed 228 = .ok (.if_icmp .ne 7, 3) := by decide +kernel
theorem dX8_feed_231 : decode cX8_feed 231 = .ok (.iconst (-1), 1) := by decide +kernel
theorem dX8_feed_232 : decode cX8_feed 232 = .ok (.goto 4, 3) := by decide +kernel
theorem dX8_feed_235 : decode cX8_feed 235 = .ok (.iload_n 3, 1) := by decide +kernel
theorem dX8_feed_236 : decode cX8_feed 236 = .ok (.ireturn, 1) := by decide +kernel
theorem dX8_dead_0 : decode cX8_dead 0 = .ok (.aload_n 0, 1) := by decide +kernel
theorem dX8_dead_1 : decode cX8_dead 1 = .ok (.iconst 0, 1) := by decide +kernel
theorem dX8_dead_2 : decode cX8_dead 2 = .ok (.putfield 68, 3) := by decide +kernel
theorem dX8_dead_5 : decode cX8_dead 5 = .ok (.aload_n 0, 1) := by decide +kernel
theorem dX8_dead_6 : decode cX8_dead 6 = .ok (.getfield 74, 3) := by decide +kernel
theorem dX8_dead_9 : decode cX8_dead 9 = .ok (.ifCond .eq 12, 3) := by decide +kernel
theorem dX8_dead_12 : decode cX8_dead 12 = .ok (.iload_n 1, 1) := by decide +kernel
theorem dX8_dead_13 : decode cX8_dead 13 = .ok (.ifCond .lt 8, 3) := by decide +kernel
theorem dX8_dead_16 : decode cX8_dead 16 = .ok (.iload_n 1, 1) := by decide +kernel
theorem dX8_dead_17 : decode cX8_dead 17 = .ok (.iconst 1, 1) := by decide +kernel
theorem dX8_dead_18 : decode cX8_dead 18 = .ok (.if_icmp .le 5, 3) := by decide +kernel
theorem dX8_dead_21 : decode cX8_dead 21 = .ok (.iconst (-1), 1) := by decide +kernel
theorem dX8_dead_22 : decode cX8_dead 22 = .ok (.ireturn, 1) := by decide +kernel
theorem dX8_dead_23 : decode cX8_dead 23 = .ok (.iconst (-1), 1) := by decide +kernel
theorem dX8_dead_24 : decode cX8_dead 24 = .ok (.istore_n 2, 1) := by decide +kernel
theorem dX8_dead_25 : decode cX8_dead 25 = .ok (.iconst 1, 1) := by decide +kernel
theorem dX8_dead_26 : decode cX8_dead 26 = .ok (.istore_n 3, 1) := by decide +kernel
theorem dX8_dead_27 : decode cX8_dead 27 = .ok (.iload_n 3, 1) := by decide +kernel
theorem dX8_dead_28 : decode cX8_dead 28 = .ok (.aload_n 0, 1) := by decide +kernel
theorem dX8_dead_29 : decode cX8_dead 29 = .ok (.getfield 131, 3) := by decide +kernel
theorem dX8_dead_32 : decode cX8_dead 32 = .ok (.if_icmp .gt 166, 3) := by decide +kernel
theorem dX8_dead_35 : decode cX8_dead 35 = .ok (.iconst 0, 1) := by decide +kernel
theorem dX8_dead_36 : decode cX8_dead 36 = .ok (.istore 4, 2) := by decide +kernel
theorem dX8_dead_38 : decode cX8_dead 38 = .ok (.iload 4, 2) := by decide +kernel
theorem dX8_dead_40 : decode cX8_dead 40 = .ok (.iload_n 3, 1) := by decide +kernel
theorem dX8_dead_41 : decode cX8_dead 41 = .ok (.iadd, 1) := by decide +kernel
theorem dX8_dead_42 : decode cX8_dead 42 = .ok (.aload_n 0, 1) := by decide +kernel
theorem dX8_dead_43 : decode cX8_dead 43 = .ok (.getfield 131, 3) := by decide +kernel
theorem dX8_dead_46 : decode cX8_dead 46 = .ok (.if_icmp .gt 146, 3) := by decide +kernel
theorem dX8_dead_49 : decode cX8_dead 49 = .ok (.iload 4, 2) := by decide +kernel
theorem dX8_dead_51 : decode cX8_dead 51 = .ok (.iload_n 3, 1) := by decide +kernel
theorem dX8_dead_52 : decode cX8_dead 52 = .ok (.iadd, 1) := by decide +kernel
theorem dX8_dead_53 : decode cX8_dead 53 = .ok (.iconst 1, 1) := by decide +kernel
theorem dX8_dead_54 : decode cX8_dead 54 = .ok (.isub, 1) := by decide +kernel
theorem dX8_dead_55 : decode cX8_dead 55 = .ok (.istore 5, 2) := by decide +kernel
theorem dX8_dead_57 : decode cX8_dead 57 = .ok (.iconst 0, 1) := by decide +kernel
theorem dX8_dead_58 : decode cX8_dead 58 = .ok (.istore 6, 2) := by decide +kernel
theorem dX8_dead_60 : decode cX8_dead 60 = .ok (.iload 4, 2) := by decide +kernel
theorem dX8_dead_62 : decode cX8_dead 62 = .ok (.istore 7, 2) := by decide +kernel
theorem dX8_dead_64 : decode cX8_dead 64 = .ok (.iload 7, 2) := by decide +kernel
theorem dX8_dead_66 : decode cX8_dead 66 = .ok (.iload 5, 2) := by decide +kernel
theorem dX8_dead_68 : decode cX8_dead 68 = .ok (.if_icmp .gt 21, 3) := by decide +kernel
theorem dX8_dead_71 : decode cX8_dead 71 = .ok (.iload 6, 2) := by decide +kernel
theorem dX8_dead_73 : decode cX8_dead 73 = .ok (.aload_n 0, 1) := by decide +kernel
theorem dX8_dead_74 : decode cX8_dead 74 = .ok (.getfield 47, 3) := by decide +kernel
theorem dX8_dead_77 : decode cX8_dead 77 = .ok (.iload 7, 2) := by decide +kernel
theorem dX8_dead_79 : decode cX8_dead 79 = .ok (.iaload, 1) := by decide +kernel
theorem dX8_dead_80 : decode cX8_dead 80 = .ok (.iadd, 1) := by decide +kernel
theorem dX8_dead_81 : decode cX8_dead 81 = .ok (.istore 6, 2) := by decide +kernel
theorem dX8_dead_83 : decode cX8_dead 83 = .ok (.iinc 7 1, 3) := by decide +kernel
theorem dX8_dead_86 : decode cX8_dead 86 = .ok (.goto (-22), 3) := by decide +kernel
theorem dX8_dead_89 : decode cX8_dead 89 = .ok (.iload_n 3, 1) := by decide +kernel
theorem dX8_dead_90 : decode cX8_dead 90 = .ok (.iconst 1, 1) := by decide +kernel
theorem dX8_dead_91 : decode cX8_dead 91 = .ok (.if_icmp .ne 7, 3) := by decide +kernel
theorem dX8_dead_94 : decode cX8_dead 94 = .ok (.iconst 0, 1) := by decide +kernel
theorem dX8_dead_95 : decode cX8_dead 95 = .ok (.goto 5, 3) := by decide +kernel
theorem dX8_dead_98 : decode cX8_dead 98 = .ok (.ldc 111, 2) := by decide +kernel
theorem dX8_dead_100 : decode cX8_dead 100 = .ok (.istore 7, 2) := by decide +kernel
theorem dX8_dead_102 : decode cX8_dead 102 = .ok (.iload 4, 2) := by decide +kernel
theorem dX8_dead_104 : decode cX8_dead 104 = .ok (.istore 8, 2) := by decide +kernel
theorem dX8_dead_106 : decode cX8_dead 106 = .ok (.iload 8, 2) := by decide +kernel
theorem dX8_dead_108 : decode cX8_dead 108 = .ok (.iload 5, 2) := by decide +kernel
theorem dX8_dead_110 : decode cX8_dead 110 = .ok (.if_icmp .ge 61, 3) := by decide +kernel
theorem dX8_dead_113 : decode cX8_dead 113 = .ok (.iload 6, 2) := by decide +kernel
theorem dX8_dead_115 : decode cX8_dead 115 = .ok (.aload_n 0, 1) := by decide +kernel
theorem dX8_dead_116 : decode cX8_dead 116 = .ok (.getfield 65, 3) := by decide +kernel
theorem dX8_dead_119 : decode cX8_dead 119 = .ok (.bipush 9, 2) := by decide +kernel
theorem dX8_dead_121 : decode cX8_dead 121 = .ok (.iload 4, 2) := by decide +kernel
theorem dX8_dead_123 : decode cX8_dead 123 = .ok (.imul, 1) := by decide +kernel
theorem dX8_dead_124 : decode cX8_dead 124 = .ok (.iload 8, 2) := by decide +kernel
theorem dX8_dead_126 : decode cX8_dead 126 = .ok (.iadd, 1) := by decide +kernel
theorem dX8_dead_127 : decode cX8_dead 127 = .ok (.iaload, 1) := by decide +kernel
theorem dX8_dead_128 : decode cX8_dead 128 = .ok (.iadd, 1) := by decide +kernel
theorem dX8_dead_129 : decode cX8_dead 129 = .ok (.aload_n 0, 1) := by decide +kernel
theorem dX8_dead_130 : decode cX8_dead 130 = .ok (.getfield 65, 3) := by decide +kernel
theorem dX8_dead_133 : decode cX8_dead 133 = .ok (.bipush 9, 2) := by decide +kernel
theorem dX8_dead_135 : decode cX8_dead 135 = .ok (.iload 8, 2) := by decide +kernel
theorem dX8_dead_137 : decode cX8_dead 137 = .ok (.imul, 1) := by decide +kernel
theorem dX8_dead_138 : decode cX8_dead 138 = .ok (.bipush 9, 2) := by decide +kernel
theorem dX8_dead_140 : decode cX8_dead 140 = .ok (.iadd, 1) := by decide +kernel
theorem dX8_dead_141 : decode cX8_dead 141 = .ok (.iload 5, 2) := by decide +kernel
theorem dX8_dead_143 : decode cX8_dead 143 = .ok (.iadd, 1) := by decide +kernel
theorem dX8_dead_144 : decode cX8_dead 144 = .ok (.iaload, 1) := by decide +kernel
theorem dX8_dead_145 : decode cX8_dead 145 = .ok (.iadd, 1) := by decide +kernel
theorem dX8_dead_146 : decode cX8_dead 146 = .ok (.istore 9, 2) := by decide +kernel
theorem dX8_dead_148 : decode cX8_dead 148 = .ok (.iload 9, 2) := by decide +kernel
theorem dX8_dead_150 : decode cX8_dead 150 = .ok (.iload 7, 2) := by decide +kernel
theorem dX8_dead_152 : decode cX8_dead 152 = .ok (.if_icmp .lt 6, 3) := by decide +kernel
theorem dX8_dead_155 : decode cX8_dead 155 = .ok (.goto 10, 3) := by decide +kernel
theorem dX8_dead_158 : decode cX8_dead 158 = .ok (.iload 9, 2) := by decide +kernel
theorem dX8_dead_160 : decode cX8_dead 160 = .ok (.istore 7, 2) := by decide +kernel
theorem dX8_dead_162 : decode cX8_dead 162 = .ok (.iload 8, 2) := by decide +kernel
theorem dX8_dead_164 : decode cX8_dead 164 = .ok (.istore_n 2, 1) := by decide +kernel
theorem dX8_dead_165 : decode cX8_dead 165 = .ok (.iinc 8 1, 3) := by decide +kernel
theorem dX8_dead_168 : decode cX8_dead 168 = .ok (.goto (-62), 3) := by decide +kernel
theorem dX8_dead_171 : decode cX8_dead 171 = .ok (.aload_n 0, 1) := by decide +kernel
theorem dX8_dead_172 : decode cX8_dead 172 = .ok (.getfield 65, 3) := by decide +kernel
theorem dX8_dead_175 : decode cX8_dead 175 = .ok (.bipush 9, 2) := by decide +kernel
theorem dX8_dead_177 : decode cX8_dead 177 = .ok (.iload 4, 2) := by decide +kernel
theorem dX8_dead_179 : decode cX8_dead 179 = .ok (.imul, 1) := by decide +kernel
theorem dX8_dead_180 : decode cX8_dead 180 = .ok (.iload 5, 2) := by decide +kernel
theorem dX8_dead_182 : decode cX8_dead 182 = .ok (.iadd, 1) := by decide +kernel
theorem dX8_dead_183 : decode cX8_dead 183 = .ok (.iload 7, 2) := by decide +kernel
theorem dX8_dead_185 : decode cX8_dead 185 = .ok (.iastore, 1) := by decide +kernel
theorem dX8_dead_186 : decode cX8_dead 186 = .ok (.iinc 4 1, 3) := by decide +kernel
theorem dX8_dead_189 : decode cX8_dead 189 = .ok (.goto (-151), 3) := by decide +kernel
theorem dX8_dead_192 : decode cX8_dead 192 = .ok (.iinc 3 1, 3) := by decide +kernel
theorem dX8_dead_195 : decode cX8_dead 195 = .ok (.goto (-168), 3) := by decide +kernel
theorem dX8_dead_198 : decode cX8_dead 198 = .ok (.iload_n 1, 1) := by decide +kernel
theorem dX8_dead_199 : decode cX8_dead 199 = .ok (.iconst 1, 1) := by decide +kernel
theorem dX8_dead_200 : decode cX8_dead 200 = .ok (.if_icmp .ne 17, 3) := by decide +kernel
theorem dX8_dead_203 : decode cX8_dead 203 = .ok (.aload_n 0, 1) := by decide +kernel
theorem dX8_dead_204 : decode cX8_dead 204 = .ok (.getfield 131, 3) := by decide +kernel
theorem dX8_dead_207 : decode cX8_dead 207 = .ok (.iconst 2, 1) := by decide +kernel
theorem dX8_dead_208 : decode cX8_dead 208 = .ok (.if_icmp .ge 7, 3) := by decide +kernel
theorem dX8_dead_211 : decode cX8_dead 211 = .ok (.iconst (-1), 1) := by decide +kernel
theorem dX8_dead_212 : decode cX8_dead 212 = .ok (.goto 4, 3) := by decide +kernel
theorem dX8_dead_215 : decode cX8_dead 215 = .ok (.iload_n 2, 1) := by decide +kernel
theorem dX8_dead_216 : decode cX8_dead 216 = .ok (.ireturn, 1) := by decide +kernel
theorem dX8_dead_217 : decode cX8_dead 217 = .ok (.aload_n 0, 1) := by decide +kernel
theorem dX8_dead_218 : decode cX8_dead 218 = .ok (.getfield 131, 3) := by decide +kernel
theorem dX8_dead_221 : decode cX8_dead 221 = .ok (.ifCond .ne 7, 3) := by decide +kernel
theorem dX8_dead_224 : decode cX8_dead 224 = .ok (.iconst 0, 1) := by decide +kernel
theorem dX8_dead_225 : decode cX8_dead 225 = .ok (.goto 14, 3) := by decide +kernel
theorem dX8_dead_228 : decode cX8_dead 228 = .ok (.aload_n 0, 1) := by decide +kernel
theorem dX8_dead_229 : decode cX8_dead 229 = .ok (.getfield 65, 3) := by decide +kernel
theorem dX8_dead_232 : decode cX8_dead 232 = .ok (.aload_n 0, 1) := by decide +kernel
theorem dX8_dead_233 : decode cX8_dead 233 = .ok (.getfield 131, 3) := by decide +kernel
theorem dX8_dead_236 : decode cX8_dead 236 = .ok (.iconst 1, 1) := by decide +kernel
theorem dX8_dead_237 : decode cX8_dead 237 = .ok (.isub, 1) := by decide +kernel
theorem dX8_dead_238 : decode cX8_dead 238 = .ok (.iaload, 1) := by decide +kernel
theorem dX8_dead_239 : decode cX8_dead 239 = .ok (.ireturn, 1) := by decide +kernel
set_option maxRecDepth 20000 in
theorem ggX8_look_X8_fails : GoodIn wsX8_look wsX8_fails := goodIn_r _ [9, 1, 10, 11, 12, 13, 14, 15, 16, 17, 18, 19, 20, 21, 22, 23, 24, 25, 26, 27, 28, 29, 30, 31, 32, 33] (by decide +kernel) (by decide +kernel)
set_option maxRecDepth 20000 in
theorem gX8_look_X8_fails : GoodIn wsX8_look (wsV RX8 137 RX8 yX8_fails wsX8_fails) := goodIn_app (goodIn_of _ (by decide +kernel)) ggX8_look_X8_fails
theorem dX8_look_0 : decode cX8_look 0 = .ok (.aload_n 0, 1) := by decide +kernel
theorem dX8_look_1 : decode cX8_look 1 = .ok (.iconst 0, 1) := by decide +kernel
theorem dX8_look_2 : decode cX8_look 2 = .ok (.putfield 68, 3) := by decide +kernel
theorem dX8_look_5 : decode cX8_look 5 = .ok (.iload_n 1, 1) := by decide +kernel
theorem dX8_look_6 : decode cX8_look 6 = .ok (.ifCond .lt 11, 3) := by decide +kernel
theorem dX8_look_9 : decode cX8_look 9 = .ok (.iload_n 1, 1) := by decide +kernel
theorem dX8_look_10 : decode cX8_look 10 = .ok (.aload_n 0, 1) := by decide +kernel
theorem dX8_look_11 : decode cX8_look 11 = .ok (.getfield 71, 3) := by decide +kernel
theorem dX8_look_14 : decode cX8_look 14 = .ok (.if_icmp .lt 9, 3) := by decide +kernel
theorem dX8_look_17 : decode cX8_look 17 = .ok (.aload_n 0, 1) := by decide +kernel
theorem dX8_look_18 : decode cX8_look 18 = .ok (.iconst 1, 1) := by decide +kernel
theorem dX8_look_19 : decode cX8_look 19 = .ok (.invokevirtual 137, 3) := by decide +kernel
theorem dX8_look_22 : decode cX8_look 22 = .ok (.ireturn, 1) := by decide +kernel
theorem dX8_look_23 : decode cX8_look 23 = .ok (.iload_n 2, 1) := by decide +kernel
theorem dX8_look_24 : decode cX8_look 24 = .ok (.ifCond .ne 12, 3) := by decide +kernel
theorem dX8_look_27 : decode cX8_look 27 = .ok (.aload_n 0, 1) := by decide +kernel
theorem dX8_look_28 : decode cX8_look 28 = .ok (.getfield 25, 3) := by decide +kernel
theorem dX8_look_31 : decode cX8_look 31 = .ok (.iload_n 1, 1) := by decide +kernel
theorem dX8_look_32 : decode cX8_look 32 = .ok (.iaload, 1) := by decide +kernel
theorem dX8_look_33 : decode cX8_look 33 = .ok (.goto 22, 3) := by decide +kernel
theorem dX8_look_36 : decode cX8_look 36 = .ok (.iload_n 2, 1) := by decide +kernel
theorem dX8_look_37 : decode cX8_look 37 = .ok (.iconst 1, 1) := by decide +kernel
theorem dX8_look_38 : decode cX8_look 38 = .ok (.if_icmp .ne 12, 3) := by decide +kernel
theorem dX8_look_41 : decode cX8_look 41 = .ok (.aload_n 0, 1) := by decide +kernel
theorem dX8_look_42 : decode cX8_look 42 = .ok (.getfield 22, 3) := by decide +kernel
theorem dX8_look_45 : decode cX8_look 45 = .ok (.iload_n 1, 1) := by decide +kernel
theorem dX8_look_46 : decode cX8_look 46 = .ok (.iaload, 1) := by decide +kernel
theorem dX8_look_47 : decode cX8_look 47 = .ok (.goto 8, 3) := by decide +kernel
theorem dX8_look_50 : decode cX8_look 50 = .ok (.aload_n 0, 1) := by decide +kernel
theorem dX8_look_51 : decode cX8_look 51 = .ok (.iconst 2, 1) := by decide +kernel
theorem dX8_look_52 : decode cX8_look 52 = .ok (.invokevirtual 137, 3) := by decide +kernel
theorem dX8_look_55 : decode cX8_look 55 = .ok (.ireturn, 1) := by decide +kernel
theorem dX8_count_0 : decode cX8_count 0 = .ok (.aload_n 0, 1) := by decide +kernel
theorem dX8_count_1 : decode cX8_count 1 = .ok (.iconst 0, 1) := by decide +kernel
theorem dX8_count_2 : decode cX8_count 2 = .ok (.putfield 68, 3) := by decide +kernel
theorem dX8_count_5 : decode cX8_count 5 = .ok (.iconst 0, 1) := by decide +kernel
theorem dX8_count_6 : decode cX8_count 6 = .ok (.istore_n 2, 1) := by decide +kernel
theorem dX8_count_7 : decode cX8_count 7 = .ok (.iload_n 1, 1) := by decide +kernel
theorem dX8_count_8 : decode cX8_count 8 = .ok (.tableswitch 105 0 4 #[36, 41, 57, 84, 100], 36) := by decide +kernel
theorem dX8_count_44 : decode cX8_count 44 = .ok (.aload_n 0, 1) := by decide +kernel
theorem dX8_count_45 : decode cX8_count 45 = .ok (.getfield 71, 3) := by decide +kernel
theorem dX8_count_48 : decode cX8_count 48 = .ok (.ireturn, 1) := by decide +kernel
theorem dX8_count_49 : decode cX8_count 49 = .ok (.aload_n 0, 1) := by decide +kernel
theorem dX8_count_50 : decode cX8_count 50 = .ok (.getfield 74, 3) := by decide +kernel
theorem dX8_count_53 : decode cX8_count 53 = .ok (.ifCond .eq 10, 3) := by decide +kernel
theorem dX8_count_56 : decode cX8_count 56 = .ok (.aload_n 0, 1) := by decide +kernel
theorem dX8_count_57 : decode cX8_count 57 = .ok (.getfield 131, 3) := by decide +kernel
theorem dX8_count_60 : decode cX8_count 60 = .ok (.goto 4, 3) := by decide +kernel
theorem dX8_count_63 : decode cX8_count 63 = .ok (.iconst (-1), 1) := by decide +kernel
theorem dX8_count_64 : decode cX8_count 64 = .ok (.ireturn, 1) := by decide +kernel
theorem dX8_count_65 : decode cX8_count 65 = .ok (.iconst 0, 1) := by decide +kernel
theorem dX8_count_66 : decode cX8_count 66 = .ok (.istore_n 3, 1) := by decide +kernel
theorem dX8_count_67 : decode cX8_count 67 = .ok (.iload_n 3, 1) := by decide +kernel
theorem dX8_count_68 : decode cX8_count 68 = .ok (.aload_n 0, 1) := by decide +kernel
theorem dX8_count_69 : decode cX8_count 69 = .ok (.getfield 71, 3) := by decide +kernel
theorem dX8_count_72 : decode cX8_count 72 = .ok (.if_icmp .ge 18, 3) := by decide +kernel
theorem dX8_count_75 : decode cX8_count 75 = .ok (.iload_n 2, 1) := by decide +kernel
theorem dX8_count_76 : decode cX8_count 76 = .ok (.aload_n 0, 1) := by decide +kernel
theorem dX8_count_77 : decode cX8_count 77 = .ok (.getfield 25, 3) := by decide +kernel
theorem dX8_count_80 : decode cX8_count 80 = .ok (.iload_n 3, 1) := by decide +kernel
theorem dX8_count_81 : decode cX8_count 81 = .ok (.iaload, 1) := by decide +kernel
theorem dX8_count_82 : decode cX8_count 82 = .ok (.iadd, 1) := by decide +kernel
theorem dX8_count_83 : decode cX8_count 83 = .ok (.istore_n 2, 1) := by decide +kernel
theorem dX8_count_84 : decode cX8_count 84 = .ok (.iinc 3 1, 3) := by decide +kernel
theorem dX8_count_87 : decode cX8_count 87 = .ok (.goto (-20), 3) := by decide +kernel
theorem dX8_count_90 : decode cX8_count 90 = .ok (.iload_n 2, 1) := by decide +kernel
theorem dX8_count_91 : decode cX8_count 91 = .ok (.ireturn, 1) := by decide +kernel
theorem dX8_count_92 : decode cX8_count 92 = .ok (.aload_n 0, 1) := by decide +kernel
theorem dX8_count_93 : decode cX8_count 93 = .ok (.getfield 74, 3) := by decide +kernel
theorem dX8_count_96 : decode cX8_count 96 = .ok (.ifCond .eq 10, 3) := by decide +kernel
theorem dX8_count_99 : decode cX8_count 99 = .ok (.aload_n 0, 1) := by decide +kernel
theorem dX8_count_100 : decode cX8_count 100 = .ok (.getfield 134, 3) := by decide +kernel
theorem dX8_count_103 : decode cX8_count 103 = .ok (.goto 4, 3) := by decide +kernel
theorem dX8_count_106 : decode cX8_count 106 = .ok (.iconst (-1), 1) := by decide +kernel
theorem dX8_count_107 : decode cX8_count 107 = .ok (.ireturn, 1) := by decide +kernel
theorem dX8_count_108 : decode cX8_count 108 = .ok (.aload_n 0, 1) := by decide +kernel
theorem dX8_count_109 : decode cX8_count 109 = .ok (.getfield 31, 3) := by decide +kernel
theorem dX8_count_112 : decode cX8_count 112 = .ok (.ireturn, 1) := by decide +kernel
theorem dX8_count_113 : decode cX8_count 113 = .ok (.iconst (-1), 1) := by decide +kernel
theorem dX8_count_114 : decode cX8_count 114 = .ok (.ireturn, 1) := by decide +kernel
theorem dJ6_bitCount_0f7a4_0 : decode cJ6_bitCount_0f7a4 0 = .ok (.iload_n 0, 1) := by decide +kernel
theorem dJ6_bitCount_0f7a4_1 : decode cJ6_bitCount_0f7a4 1 = .ok (.iload_n 0, 1) := by decide +kernel
theorem dJ6_bitCount_0f7a4_2 : decode cJ6_bitCount_0f7a4 2 = .ok (.iconst 1, 1) := by decide +kernel
theorem dJ6_bitCount_0f7a4_3 : decode cJ6_bitCount_0f7a4 3 = .ok (.iushr, 1) := by decide +kernel
theorem dJ6_bitCount_0f7a4_4 : decode cJ6_bitCount_0f7a4 4 = .ok (.ldc_w 265, 3) := by decide +kernel
theorem dJ6_bitCount_0f7a4_7 : decode cJ6_bitCount_0f7a4 7 = .ok (.iand, 1) := by decide +kernel
theorem dJ6_bitCount_0f7a4_8 : decode cJ6_bitCount_0f7a4 8 = .ok (.isub, 1) := by decide +kernel
theorem dJ6_bitCount_0f7a4_9 : decode cJ6_bitCount_0f7a4 9 = .ok (.istore_n 0, 1) := by decide +kernel
theorem dJ6_bitCount_0f7a4_10 : decode cJ6_bitCount_0f7a4 10 = .ok (.iload_n 0, 1) := by decide +kernel
theorem dJ6_bitCount_0f7a4_11 : decode cJ6_bitCount_0f7a4 11 = .ok (.ldc_w 266, 3) := by decide +kernel
theorem dJ6_bitCount_0f7a4_14 : decode cJ6_bitCount_0f7a4 14 = .ok (.iand, 1) := by decide +kernel
theorem dJ6_bitCount_0f7a4_15 : decode cJ6_bitCount_0f7a4 15 = .ok (.iload_n 0, 1) := by decide +kernel
theorem dJ6_bitCount_0f7a4_16 : decode cJ6_bitCount_0f7a4 16 = .ok (.iconst 2, 1) := by decide +kernel
theorem dJ6_bitCount_0f7a4_17 : decode cJ6_bitCount_0f7a4 17 = .ok (.iushr, 1) := by decide +kernel
theorem dJ6_bitCount_0f7a4_18 : decode cJ6_bitCount_0f7a4 18 = .ok (.ldc_w 266, 3) := by decide +kernel
theorem dJ6_bitCount_0f7a4_21 : decode cJ6_bitCount_0f7a4 21 = .ok (.iand, 1) := by decide +kernel
theorem dJ6_bitCount_0f7a4_22 : decode cJ6_bitCount_0f7a4 22 = .ok (.iadd, 1) := by decide +kernel
theorem dJ6_bitCount_0f7a4_23 : decode cJ6_bitCount_0f7a4 23 = .ok (.istore_n 0, 1) := by decide +kernel
theorem dJ6_bitCount_0f7a4_24 : decode cJ6_bitCount_0f7a4 24 = .ok (.iload_n 0, 1) := by decide +kernel
theorem dJ6_bitCount_0f7a4_25 : decode cJ6_bitCount_0f7a4 25 = .ok (.iload_n 0, 1) := by decide +kernel
theorem dJ6_bitCount_0f7a4_26 : decode cJ6_bitCount_0f7a4 26 = .ok (.iconst 4, 1) := by decide +kernel
theorem dJ6_bitCount_0f7a4_27 : decode cJ6_bitCount_0f7a4 27 = .ok (.iushr, 1) := by decide +kernel
theorem dJ6_bitCount_0f7a4_28 : decode cJ6_bitCount_0f7a4 28 = .ok (.iadd, 1) := by decide +kernel
theorem dJ6_bitCount_0f7a4_29 : decode cJ6_bitCount_0f7a4 29 = .ok (.ldc_w 267, 3) := by decide +kernel
theorem dJ6_bitCount_0f7a4_32 : decode cJ6_bitCount_0f7a4 32 = .ok (.iand, 1) := by decide +kernel
theorem dJ6_bitCount_0f7a4_33 : decode cJ6_bitCount_0f7a4 33 = .ok (.istore_n 0, 1) := by decide +kernel
theorem dJ6_bitCount_0f7a4_34 : decode cJ6_bitCount_0f7a4 34 = .ok (.iload_n 0, 1) := by decide +kernel
theorem dJ6_bitCount_0f7a4_35 : decode cJ6_bitCount_0f7a4 35 = .ok (.iload_n 0, 1) := by decide +kernel
theorem dJ6_bitCount_0f7a4_36 : decode cJ6_bitCount_0f7a4 36 = .ok (.bipush 8, 2) := by decide +kernel
theorem dJ6_bitCount_0f7a4_38 : decode cJ6_bitCount_0f7a4 38 = .ok (.iushr, 1) := by decide +kernel
theorem dJ6_bitCount_0f7a4_39 : decode cJ6_bitCount_0f7a4 39 = .ok (.iadd, 1) := by decide +kernel
theorem dJ6_bitCount_0f7a4_40 : decode cJ6_bitCount_0f7a4 40 = .ok (.istore_n 0, 1) := by decide +kernel
theorem dJ6_bitCount_0f7a4_41 : decode cJ6_bitCount_0f7a4 41 = .ok (.iload_n 0, 1) := by decide +kernel
theorem dJ6_bitCount_0f7a4_42 : decode cJ6_bitCount_0f7a4 42 = .ok (.iload_n 0, 1) := by decide +kernel
theorem dJ6_bitCount_0f7a4_43 : decode cJ6_bitCount_0f7a4 43 = .ok (.bipush 16, 2) := by decide +kernel
theorem dJ6_bitCount_0f7a4_45 : decode cJ6_bitCount_0f7a4 45 = .ok (.iushr, 1) := by decide +kernel
theorem dJ6_bitCount_0f7a4_46 : decode cJ6_bitCount_0f7a4 46 = .ok (.iadd, 1) := by decide +kernel
theorem dJ6_bitCount_0f7a4_47 : decode cJ6_bitCount_0f7a4 47 = .ok (.istore_n 0, 1) := by decide +kernel
theorem dJ6_bitCount_0f7a4_48 : decode cJ6_bitCount_0f7a4 48 = .ok (.iload_n 0, 1) := by decide +kernel
theorem dJ6_bitCount_0f7a4_49 : decode cJ6_bitCount_0f7a4 49 = .ok (.bipush 63, 2) := by decide +kernel
theorem dJ6_bitCount_0f7a4_51 : decode cJ6_bitCount_0f7a4 51 = .ok (.iand, 1) := by decide +kernel
theorem dJ6_bitCount_0f7a4_52 : decode cJ6_bitCount_0f7a4 52 = .ok (.ireturn, 1) := by decide +kernel
theorem dJ6_signum_0f7a4_0 : decode cJ6_signum_0f7a4 0 = .ok (.iload_n 0, 1) := by decide +kernel
theorem dJ6_signum_0f7a4_1 : decode cJ6_signum_0f7a4 1 = .ok (.bipush 31, 2) := by decide +kernel
theorem dJ6_signum_0f7a4_3 : decode cJ6_signum_0f7a4 3 = .ok (.ishr, 1) := by decide +kernel
theorem dJ6_signum_0f7a4_4 : decode cJ6_signum_0f7a4 4 = .ok (.iload_n 0, 1) := by decide +kernel
theorem dJ6_signum_0f7a4_5 : decode cJ6_signum_0f7a4 5 = .ok (.ineg, 1) := by decide +kernel
theorem dJ6_signum_0f7a4_6 : decode cJ6_signum_0f7a4 6 = .ok (.bipush 31, 2) := by decide +kernel
theorem dJ6_signum_0f7a4_8 : decode cJ6_signum_0f7a4 8 = .ok (.iushr, 1) := by decide +kernel
theorem dJ6_signum_0f7a4_9 : decode cJ6_signum_0f7a4 9 = .ok (.ior, 1) := by decide +kernel
theorem dJ6_signum_0f7a4_10 : decode cJ6_signum_0f7a4 10 = .ok (.ireturn, 1) := by decide +kernel
theorem dJ9_abs_0f7a4_0 : decode cJ9_abs_0f7a4 0 = .ok (.iload_n 0, 1) := by decide +kernel
theorem dJ9_abs_0f7a4_1 : decode cJ9_abs_0f7a4 1 = .ok (.ifCond .ge 8, 3) := by decide +kernel
theorem dJ9_abs_0f7a4_4 : decode cJ9_abs_0f7a4 4 = .ok (.iload_n 0, 1) := by decide +kernel
theorem dJ9_abs_0f7a4_5 : decode cJ9_abs_0f7a4 5 = .ok (.ineg, 1) := by decide +kernel
theorem dJ9_abs_0f7a4_6 : decode cJ9_abs_0f7a4 6 = .ok (.goto 4, 3) := by decide +kernel
theorem dJ9_abs_0f7a4_9 : decode cJ9_abs_0f7a4 9 = .ok (.iload_n 0, 1) := by decide +kernel
theorem dJ9_abs_0f7a4_10 : decode cJ9_abs_0f7a4 10 = .ok (.ireturn, 1) := by decide +kernel
theorem dJ9_max_7cf53_0 : decode cJ9_max_7cf53 0 = .ok (.iload_n 0, 1) := by decide +kernel
theorem dJ9_max_7cf53_1 : decode cJ9_max_7cf53 1 = .ok (.iload_n 1, 1) := by decide +kernel
theorem dJ9_max_7cf53_2 : decode cJ9_max_7cf53 2 = .ok (.if_icmp .lt 7, 3) := by decide +kernel
theorem dJ9_max_7cf53_5 : decode cJ9_max_7cf53 5 = .ok (.iload_n 0, 1) := by decide +kernel
theorem dJ9_max_7cf53_6 : decode cJ9_max_7cf53 6 = .ok (.goto 4, 3) := by decide +kernel
theorem dJ9_max_7cf53_9 : decode cJ9_max_7cf53 9 = .ok (.iload_n 1, 1) := by decide +kernel
theorem dJ9_max_7cf53_10 : decode cJ9_max_7cf53 10 = .ok (.ireturn, 1) := by decide +kernel
theorem dJ9_min_7cf53_0 : decode cJ9_min_7cf53 0 = .ok (.iload_n 0, 1) := by decide +kernel
theorem dJ9_min_7cf53_1 : decode cJ9_min_7cf53 1 = .ok (.iload_n 1, 1) := by decide +kernel
theorem dJ9_min_7cf53_2 : decode cJ9_min_7cf53 2 = .ok (.if_icmp .gt 7, 3) := by decide +kernel
theorem dJ9_min_7cf53_5 : decode cJ9_min_7cf53 5 = .ok (.iload_n 0, 1) := by decide +kernel
theorem dJ9_min_7cf53_6 : decode cJ9_min_7cf53 6 = .ok (.goto 4, 3) := by decide +kernel
theorem dJ9_min_7cf53_9 : decode cJ9_min_7cf53 9 = .ok (.iload_n 1, 1) := by decide +kernel
theorem dJ9_min_7cf53_10 : decode cJ9_min_7cf53 10 = .ok (.ireturn, 1) := by decide +kernel
theorem dL_part_0 : decode cL_part 0 = .ok (.aload_n 3, 1) := by decide +kernel
theorem dL_part_1 : decode cL_part 1 = .ok (.iconst 0, 1) := by decide +kernel
theorem dL_part_2 : decode cL_part 2 = .ok (.aload_n 0, 1) := by decide +kernel
theorem dL_part_3 : decode cL_part 3 = .ok (.iload_n 1, 1) := by decide +kernel
theorem dL_part_4 : decode cL_part 4 = .ok (.iload_n 2, 1) := by decide +kernel
theorem dL_part_5 : decode cL_part 5 = .ok (.invokevirtual 7, 3) := by decide +kernel
theorem dL_part_8 : decode cL_part 8 = .ok (.i2l, 1) := by decide +kernel
theorem dL_part_9 : decode cL_part 9 = .ok (.lastore, 1) := by decide +kernel
theorem dL_part_10 : decode cL_part 10 = .ok (.goto 11, 3) := by decide +kernel
theorem dL_part_13 : decode cL_part 13 = .ok (.astore 4, 2) := by decide +kernel
theorem dL_part_15 : decode cL_part 15 = .ok (.iconst 1, 1) := by decide +kernel
theorem dL_part_16 : decode cL_part 16 = .ok (.ireturn, 1) := by decide +kernel
theorem dL_part_17 : decode cL_part 17 = .ok (.astore 4, 2) := by decide +kernel
theorem dL_part_19 : decode cL_part 19 = .ok (.iconst 2, 1) := by decide +kernel
theorem dL_part_20 : decode cL_part 20 = .ok (.ireturn, 1) := by decide +kernel
theorem dL_part_21 : decode cL_part 21 = .ok (.iconst 0, 1) := by decide +kernel
theorem dL_part_22 : decode cL_part 22 = .ok (.ireturn, 1) := by decide +kernel
theorem dL_look_0 : decode cL_look 0 = .ok (.aload_n 3, 1) := by decide +kernel
theorem dL_look_1 : decode cL_look 1 = .ok (.iconst 0, 1) := by decide +kernel
theorem dL_look_2 : decode cL_look 2 = .ok (.aload_n 0, 1) := by decide +kernel
theorem dL_look_3 : decode cL_look 3 = .ok (.iload_n 1, 1) := by decide +kernel
theorem dL_look_4 : decode cL_look 4 = .ok (.iload_n 2, 1) := by decide +kernel
theorem dL_look_5 : decode cL_look 5 = .ok (.invokevirtual 17, 3) := by decide +kernel
theorem dL_look_8 : decode cL_look 8 = .ok (.i2l, 1) := by decide +kernel
theorem dL_look_9 : decode cL_look 9 = .ok (.lastore, 1) := by decide +kernel
theorem dL_look_10 : decode cL_look 10 = .ok (.goto 11, 3) := by decide +kernel
theorem dL_look_13 : decode cL_look 13 = .ok (.astore 4, 2) := by decide +kernel
theorem dL_look_15 : decode cL_look 15 = .ok (.iconst 1, 1) := by decide +kernel
theorem dL_look_16 : decode cL_look 16 = .ok (.ireturn, 1) := by decide +kernel
theorem dL_look_17 : decode cL_look 17 = .ok (.astore 4, 2) := by decide +kernel
theorem dL_look_19 : decode cL_look 19 = .ok (.iconst 2, 1) := by decide +kernel
theorem dL_look_20 : decode cL_look 20 = .ok (.ireturn, 1) := by decide +kernel
theorem dL_look_21 : decode cL_look 21 = .ok (.iconst 0, 1) := by decide +kernel
theorem dL_look_22 : decode cL_look 22 = .ok (.ireturn, 1) := by decide +kernel
theorem dL_law_0 : decode cL_law 0 = .ok (.new 8, 3) := by decide +kernel
theorem dL_law_3 : decode cL_law 3 = .ok (.dup, 1) := by decide +kernel
theorem dL_law_4 : decode cL_law 4 = .ok (.invokespecial 20, 3) := by decide +kernel
theorem dL_law_7 : decode cL_law 7 = .ok (.astore_n 1, 1) := by decide +kernel
theorem dL_law_8 : decode cL_law 8 = .ok (.new 21, 3) := by decide +kernel
theorem dL_law_11 : decode cL_law 11 = .ok (.dup, 1) := by decide +kernel
theorem dL_law_12 : decode cL_law 12 = .ok (.invokespecial 23, 3) := by decide +kernel
theorem dL_law_15 : decode cL_law 15 = .ok (.astore_n 2, 1) := by decide +kernel
theorem dL_law_16 : decode cL_law 16 = .ok (.iconst 1, 1) := by decide +kernel
theorem dL_law_17 : decode cL_law 17 = .ok (.newarray .long, 2) := by decide +kernel
theorem dL_law_19 : decode cL_law 19 = .ok (.astore_n 3, 1) := by decide +kernel
theorem dL_law_20 : decode cL_law 20 = .ok (.iconst 0, 1) := by decide +kernel
theorem dL_law_21 : decode cL_law 21 = .ok (.istore 4, 2) := by decide +kernel
theorem dL_law_23 : decode cL_law 23 = .ok (.iload 4, 2) := by decide +kernel
theorem dL_law_25 : decode cL_law 25 = .ok (.aload_n 0, 1) := by decide +kernel
theorem dL_law_26 : decode cL_law 26 = .ok (.arraylength, 1) := by decide +kernel
theorem dL_law_27 : decode cL_law 27 = .ok (.iconst 5, 1) := by decide +kernel
theorem dL_law_28 : decode cL_law 28 = .ok (.isub, 1) := by decide +kernel
theorem dL_law_29 : decode cL_law 29 = .ok (.if_icmp .gt 521, 3) := by decide +kernel
theorem dL_law_32 : decode cL_law 32 = .ok (.aload_n 0, 1) := by decide +kernel
theorem dL_law_33 : decode cL_law 33 = .ok (.iload 4, 2) := by decide +kernel
theorem dL_law_35 : decode cL_law 35 = .ok (.iaload, 1) := by decide +kernel
theorem dL_law_36 : decode cL_law 36 = .ok (.bipush 15, 2) := by decide +kernel
theorem dL_law_38 : decode cL_law 38 = .ok (.iand, 1) := by decide +kernel
theorem dL_law_39 : decode cL_law 39 = .ok (.tableswitch 505 0 11 #[61, 72, 133, 170, 195, 232, 269, 282, 350, 387, 412, 480], 61) := by decide +kernel
theorem dL_law_100 : decode cL_law 100 = .ok (.aload_n 1, 1) := by decide +kernel
theorem dL_law_101 : decode cL_law 101 = .ok (.invokevirtual 24, 3) := by decide +kernel
theorem dL_law_104 : decode cL_law 104 = .ok (.aload_n 2, 1) := by decide +kernel
theorem dL_law_105 : decode cL_law 105 = .ok (.invokevirtual 27, 3) := by decide +kernel
theorem dL_law_108 : decode cL_law 108 = .ok (.goto 436, 3) := by decide +kernel
theorem dL_law_111 : decode cL_law 111 = .ok (.aload_n 1, 1) := by decide +kernel
theorem dL_law_112 : decode cL_law 112 = .ok (.aload_n 0, 1) := by decide +kernel
theorem dL_law_113 : decode cL_law 113 = .ok (.iload 4, 2) := by decide +kernel
theorem dL_law_115 : decode cL_law 115 = .ok (.iconst 1, 1) := by decide +kernel
theorem dL_law_116 : decode cL_law 116 = .ok (.iadd, 1) := by decide +kernel
theorem dL_law_117 : decode cL_law 117 = .ok (.iaload, 1) := by decide +kernel
theorem dL_law_118 : decode cL_law 118 = .ok (.aload_n 0, 1) := by decide +kernel
theorem dL_law_119 : decode cL_law 119 = .ok (.iload 4, 2) := by decide +kernel
theorem dL_law_121 : decode cL_law 121 = .ok (.iconst 2, 1) := by decide +kernel
theorem dL_law_122 : decode cL_law 122 = .ok (.iadd, 1) := by decide +kernel
theorem dL_law_123 : decode cL_law 123 = .ok (.iaload, 1) := by decide +kernel
theorem dL_law_124 : decode cL_law 124 = .ok (.aload_n 0, 1) := by decide +kernel
theorem dL_law_125 : decode cL_law 125 = .ok (.iload 4, 2) := by decide +kernel
theorem dL_law_127 : decode cL_law 127 = .ok (.iconst 3, 1) := by decide +kernel
theorem dL_law_128 : decode cL_law 128 = .ok (.iadd, 1) := by decide +kernel
theorem dL_law_129 : decode cL_law 129 = .ok (.iaload, 1) := by decide +kernel
theorem dL_law_130 : decode cL_law 130 = .ok (.aload_n 0, 1) := by decide +kernel
theorem dL_law_131 : decode cL_law 131 = .ok (.iload 4, 2) := by decide +kernel
theorem dL_law_133 : decode cL_law 133 = .ok (.iconst 4, 1) := by decide +kernel
theorem dL_law_134 : decode cL_law 134 = .ok (.iadd, 1) := by decide +kernel
theorem dL_law_135 : decode cL_law 135 = .ok (.iaload, 1) := by decide +kernel
theorem dL_law_136 : decode cL_law 136 = .ok (.invokevirtual 28, 3) := by decide +kernel
theorem dL_law_139 : decode cL_law 139 = .ok (.aload_n 2, 1) := by decide +kernel
theorem dL_law_140 : decode cL_law 140 = .ok (.aload_n 0, 1) := by decide +kernel
theorem dL_law_141 : decode cL_law 141 = .ok (.iload 4, 2) := by decide +kernel
theorem dL_law_143 : decode cL_law 143 = .ok (.iconst 1, 1) := by decide +kernel
theorem dL_law_144 : decode cL_law 144 = .ok (.iadd, 1) := by decide +kernel
theorem dL_law_145 : decode cL_law 145 = .ok (.iaload, 1) := by decide +kernel
theorem dL_law_146 : decode cL_law 146 = .ok (.aload_n 0, 1) := by decide +kernel
theorem dL_law_147 : decode cL_law 147 = .ok (.iload 4, 2) := by decide +kernel
theorem dL_law_149 : decode cL_law 149 = .ok (.iconst 2, 1) := by decide +kernel
theorem dL_law_150 : decode cL_law 150 = .ok (.iadd, 1) := by decide +kernel
theorem dL_law_151 : decode cL_law 151 = .ok (.iaload, 1) := by decide +kernel
theorem dL_law_152 : decode cL_law 152 = .ok (.aload_n 0, 1) := by decide +kernel
theorem dL_law_153 : decode cL_law 153 = .ok (.iload 4, 2) := by decide +kernel
theorem dL_law_155 : decode cL_law 155 = .ok (.iconst 3, 1) := by decide +kernel
theorem dL_law_156 : decode cL_law 156 = .ok (.iadd, 1) := by decide +kernel
theorem dL_law_157 : decode cL_law 157 = .ok (.iaload, 1) := by decide +kernel
theorem dL_law_158 : decode cL_law 158 = .ok (.aload_n 0, 1) := by decide +kernel
theorem dL_law_159 : decode cL_law 159 = .ok (.iload 4, 2) := by decide +kernel
theorem dL_law_161 : decode cL_law 161 = .ok (.iconst 4, 1) := by decide +kernel
theorem dL_law_162 : decode cL_law 162 = .ok (.iadd, 1) := by decide +kernel
theorem dL_law_163 : decode cL_law 163 = .ok (.iaload, 1) := by decide +kernel
theorem dL_law_164 : decode cL_law 164 = .ok (.invokevirtual 32, 3) := by decide +kernel
theorem dL_law_167 : decode cL_law 167 = .ok (.if_icmp .eq 377, 3) := by decide +kernel
theorem dL_law_170 : decode cL_law 170 = .ok (.iconst 0, 1) := by decide +kernel
theorem dL_law_171 : decode cL_law 171 = .ok (.ireturn, 1) := by decide +kernel
theorem dL_law_172 : decode cL_law 172 = .ok (.aload_n 1, 1) := by decide +kernel
theorem dL_law_173 : decode cL_law 173 = .ok (.aload_n 0, 1) := by decide +kernel
theorem dL_law_174 : decode cL_law 174 = .ok (.iload 4, 2) := by decide +kernel
theorem dL_law_176 : decode cL_law 176 = .ok (.iconst 1, 1) := by decide +kernel
theorem dL_law_177 : decode cL_law 177 = .ok (.iadd, 1) := by decide +kernel
theorem dL_law_178 : decode cL_law 178 = .ok (.iaload, 1) := by decide +kernel
theorem dL_law_179 : decode cL_law 179 = .ok (.aload_n 0, 1) := by decide +kernel
theorem dL_law_180 : decode cL_law 180 = .ok (.iload 4, 2) := by decide +kernel
theorem dL_law_182 : decode cL_law 182 = .ok (.iconst 2, 1) := by decide +kernel
theorem dL_law_183 : decode cL_law 183 = .ok (.iadd, 1) := by decide +kernel
theorem dL_law_184 : decode cL_law 184 = .ok (.iaload, 1) := by decide +kernel
theorem dL_law_185 : decode cL_law 185 = .ok (.invokevirtual 33, 3) := by decide +kernel
theorem dL_law_188 : decode cL_law 188 = .ok (.aload_n 2, 1) := by decide +kernel
theorem dL_law_189 : decode cL_law 189 = .ok (.aload_n 0, 1) := by decide +kernel
theorem dL_law_190 : decode cL_law 190 = .ok (.iload 4, 2) := by decide +kernel
theorem dL_law_192 : decode cL_law 192 = .ok (.iconst 1, 1) := by decide +kernel
theorem dL_law_193 : decode cL_law 193 = .ok (.iadd, 1) := by decide +kernel
theorem dL_law_194 : decode cL_law 194 = .ok (.iaload, 1) := by decide +kernel
theorem dL_law_195 : decode cL_law 195 = .ok (.aload_n 0, 1) := by decide +kernel
theorem dL_law_196 : decode cL_law 196 = .ok (.iload 4, 2) := by decide +kernel
theorem dL_law_198 : decode cL_law 198 = .ok (.iconst 2, 1) := by decide +kernel
theorem dL_law_199 : decode cL_law 199 = .ok (.iadd, 1) := by decide +kernel
theorem dL_law_200 : decode cL_law 200 = .ok (.iaload, 1) := by decide +kernel
theorem dL_law_201 : decode cL_law 201 = .ok (.invokevirtual 37, 3) := by decide +kernel
theorem dL_law_204 : decode cL_law 204 = .ok (.if_icmp .eq 340, 3) := by decide +kernel
theorem dL_law_207 : decode cL_law 207 = .ok (.iconst 0, 1) := by decide +kernel
theorem dL_law_208 : decode cL_law 208 = .ok (.ireturn, 1) := by decide +kernel
theorem dL_law_209 : decode cL_law 209 = .ok (.aload_n 1, 1) := by decide +kernel
theorem dL_law_210 : decode cL_law 210 = .ok (.aload_n 0, 1) := by decide +kernel
theorem dL_law_211 : decode cL_law 211 = .ok (.iload 4, 2) := by decide +kernel
theorem dL_law_213 : decode cL_law 213 = .ok (.iconst 1, 1) := by decide +kernel
theorem dL_law_214 : decode cL_law 214 = .ok (.iadd, 1) := by decide +kernel
theorem dL_law_215 : decode cL_law 215 = .ok (.iaload, 1) := by decide +kernel
theorem dL_law_216 : decode cL_law 216 = .ok (.invokevirtual 38, 3) := by decide +kernel
theorem dL_law_219 : decode cL_law 219 = .ok (.aload_n 2, 1) := by decide +kernel
theorem dL_law_220 : decode cL_law 220 = .ok (.aload_n 0, 1) := by decide +kernel
theorem dL_law_221 : decode cL_law 221 = .ok (.iload 4, 2) := by decide +kernel
theorem dL_law_223 : decode cL_law 223 = .ok (.iconst 1, 1) := by decide +kernel
theorem dL_law_224 : decode cL_law 224 = .ok (.iadd, 1) := by decide +kernel
theorem dL_law_225 : decode cL_law 225 = .ok (.iaload, 1) := by decide +kernel
theorem dL_law_226 : decode cL_law 226 = .ok (.invokevirtual 42, 3) := by decide +kernel
theorem dL_law_229 : decode cL_law 229 = .ok (.if_icmp .eq 315, 3) := by decide +kernel
theorem dL_law_232 : decode cL_law 232 = .ok (.iconst 0, 1) := by decide +kernel
theorem dL_law_233 : decode cL_law 233 = .ok (.ireturn, 1) := by decide +kernel
theorem dL_law_234 : decode cL_law 234 = .ok (.aload_n 1, 1) := by decide +kernel
theorem dL_law_235 : decode cL_law 235 = .ok (.aload_n 0, 1) := by decide +kernel
theorem dL_law_236 : decode cL_law 236 = .ok (.iload 4, 2) := by decide +kernel
theorem dL_law_238 : decode cL_law 238 = .ok (.iconst 1, 1) := by decide +kernel
theorem dL_law_239 : decode cL_law 239 = .ok (.iadd, 1) := by decide +kernel
theorem dL_law_240 : decode cL_law 240 = .ok (.iaload, 1) := by decide +kernel
theorem dL_law_241 : decode cL_law 241 = .ok (.aload_n 0, 1) := by decide +kernel
theorem dL_law_242 : decode cL_law 242 = .ok (.iload 4, 2) := by decide +kernel
theorem dL_law_244 : decode cL_law 244 = .ok (.iconst 2, 1) := by decide +kernel
theorem dL_law_245 : decode cL_law 245 = .ok (.iadd, 1) := by decide +kernel
theorem dL_law_246 : decode cL_law 246 = .ok (.iaload, 1) := by decide +kernel
theorem dL_law_247 : decode cL_law 247 = .ok (.invokevirtual 43, 3) := by decide +kernel
theorem dL_law_250 : decode cL_law 250 = .ok (.aload_n 2, 1) := by decide +kernel
theorem dL_law_251 : decode cL_law 251 = .ok (.aload_n 0, 1) := by decide +kernel
theorem dL_law_252 : decode cL_law 252 = .ok (.iload 4, 2) := by decide +kernel
theorem dL_law_254 : decode cL_law 254 = .ok (.iconst 1, 1) := by decide +kernel
theorem dL_law_255 : decode cL_law 255 = .ok (.iadd, 1) := by decide +kernel
theorem dL_law_256 : decode cL_law 256 = .ok (.iaload, 1) := by decide +kernel
theorem dL_law_257 : decode cL_law 257 = .ok (.aload_n 0, 1) := by decide +kernel
theorem dL_law_258 : decode cL_law 258 = .ok (.iload 4, 2) := by decide +kernel
theorem dL_law_260 : decode cL_law 260 = .ok (.iconst 2, 1) := by decide +kernel
theorem dL_law_261 : decode cL_law 261 = .ok (.iadd, 1) := by decide +kernel
theorem dL_law_262 : decode cL_law 262 = .ok (.iaload, 1) := by decide +kernel
theorem dL_law_263 : decode cL_law 263 = .ok (.invokevirtual 46, 3) := by decide +kernel
theorem dL_law_266 : decode cL_law 266 = .ok (.if_icmp .eq 278, 3) := by decide +kernel
theorem dL_law_269 : decode cL_law 269 = .ok (.iconst 0, 1) := by decide +kernel
theorem dL_law_270 : decode cL_law 270 = .ok (.ireturn, 1) := by decide +kernel
theorem dL_law_271 : decode cL_law 271 = .ok (.aload_n 1, 1) := by decide +kernel
theorem dL_law_272 : decode cL_law 272 = .ok (.aload_n 0, 1) := by decide +kernel
theorem dL_law_273 : decode cL_law 273 = .ok (.iload 4, 2) := by decide +kernel
theorem dL_law_275 : decode cL_law 275 = .ok (.iconst 1, 1) := by decide +kernel
theorem dL_law_276 : decode cL_law 276 = .ok (.iadd, 1) := by decide +kernel
theorem dL_law_277 : decode cL_law 277 = .ok (.iaload, 1) := by decide +kernel
theorem dL_law_278 : decode cL_law 278 = .ok (.aload_n 0, 1) := by decide +kernel
theorem dL_law_279 : decode cL_law 279 = .ok (.iload 4, 2) := by decide +kernel
theorem dL_law_281 : decode cL_law 281 = .ok (.iconst 2, 1) := by decide +kernel
theorem dL_law_282 : decode cL_law 282 = .ok (.iadd, 1) := by decide +kernel
theorem dL_law_283 : decode cL_law 283 = .ok (.iaload, 1) := by decide +kernel
theorem dL_law_284 : decode cL_law 284 = .ok (.invokevirtual 47, 3) := by decide +kernel
theorem dL_law_287 : decode cL_law 287 = .ok (.aload_n 2, 1) := by decide +kernel
theorem dL_law_288 : decode cL_law 288 = .ok (.aload_n 0, 1) := by decide +kernel
theorem dL_law_289 : decode cL_law 289 = .ok (.iload 4, 2) := by decide +kernel
theorem dL_law_291 : decode cL_law 291 = .ok (.iconst 1, 1) := by decide +kernel
theorem dL_law_292 : decode cL_law 292 = .ok (.iadd, 1) := by decide +kernel
theorem dL_law_293 : decode cL_law 293 = .ok (.iaload, 1) := by decide +kernel
theorem dL_law_294 : decode cL_law 294 = .ok (.aload_n 0, 1) := by decide +kernel
theorem dL_law_295 : decode cL_law 295 = .ok (.iload 4, 2) := by decide +kernel
theorem dL_law_297 : decode cL_law 297 = .ok (.iconst 2, 1) := by decide +kernel
theorem dL_law_298 : decode cL_law 298 = .ok (.iadd, 1) := by decide +kernel
theorem dL_law_299 : decode cL_law 299 = .ok (.iaload, 1) := by decide +kernel
theorem dL_law_300 : decode cL_law 300 = .ok (.invokevirtual 50, 3) := by decide +kernel
theorem dL_law_303 : decode cL_law 303 = .ok (.if_icmp .eq 241, 3) := by decide +kernel
theorem dL_law_306 : decode cL_law 306 = .ok (.iconst 0, 1) := by decide +kernel
theorem dL_law_307 : decode cL_law 307 = .ok (.ireturn, 1) := by decide +kernel
theorem dL_law_308 : decode cL_law 308 = .ok (.aload_n 1, 1) := by decide +kernel
theorem dL_law_309 : decode cL_law 309 = .ok (.invokevirtual 51, 3) := by decide +kernel
theorem dL_law_312 : decode cL_law 312 = .ok (.aload_n 2, 1) := by decide +kernel
theorem dL_law_313 : decode cL_law 313 = .ok (.invokevirtual 55, 3) := by decide +kernel
theorem dL_law_316 : decode cL_law 316 = .ok (.if_icmp .eq 228, 3) := by decide +kernel
theorem dL_law_319 : decode cL_law 319 = .ok (.iconst 0, 1) := by decide +kernel
theorem dL_law_320 : decode cL_law 320 = .ok (.ireturn, 1) := by decide +kernel
theorem dL_law_321 : decode cL_law 321 = .ok (.aload_n 1, 1) := by decide +kernel
theorem dL_law_322 : decode cL_law 322 = .ok (.aload_n 0, 1) := by decide +kernel
theorem dL_law_323 : decode cL_law 323 = .ok (.iload 4, 2) := by decide +kernel
theorem dL_law_325 : decode cL_law 325 = .ok (.iconst 1, 1) := by decide +kernel
theorem dL_law_326 : decode cL_law 326 = .ok (.iadd, 1) := by decide +kernel
theorem dL_law_327 : decode cL_law 327 = .ok (.iaload, 1) := by decide +kernel
theorem dL_law_328 : decode cL_law 328 = .ok (.aload_n 0, 1) := by decide +kernel
theorem dL_law_329 : decode cL_law 329 = .ok (.iload 4, 2) := by decide +kernel
theorem dL_law_331 : decode cL_law 331 = .ok (.iconst 2, 1) := by decide +kernel
theorem dL_law_332 : decode cL_law 332 = .ok (.iadd, 1) := by decide +kernel
theorem dL_law_333 : decode cL_law 333 = .ok (.iaload, 1) := by decide +kernel
theorem dL_law_334 : decode cL_law 334 = .ok (.aload_n 3, 1) := by decide +kernel
theorem dL_law_335 : decode cL_law 335 = .ok (.invokestatic 56, 3) := by decide +kernel
theorem dL_law_338 : decode cL_law 338 = .ok (.istore 5, 2) := by decide +kernel
theorem dL_law_340 : decode cL_law 340 = .ok (.aload_n 2, 1) := by decide +kernel
theorem dL_law_341 : decode cL_law 341 = .ok (.aload_n 0, 1) := by decide +kernel
theorem dL_law_342 : decode cL_law 342 = .ok (.iload 4, 2) := by decide +kernel
theorem dL_law_344 : decode cL_law 344 = .ok (.iconst 1, 1) := by decide +kernel
theorem dL_law_345 : decode cL_law 345 = .ok (.iadd, 1) := by decide +kernel
theorem dL_law_346 : decode cL_law 346 = .ok (.iaload, 1) := by decide +kernel
theorem dL_law_347 : decode cL_law 347 = .ok (.aload_n 0, 1) := by decide +kernel
theorem dL_law_348 : decode cL_law 348 = .ok (.iload 4, 2) := by decide +kernel
theorem dL_law_350 : decode cL_law 350 = .ok (.iconst 2, 1) := by decide +kernel
theorem dL_law_351 : decode cL_law 351 = .ok (.iadd, 1) := by decide +kernel
theorem dL_law_352 : decode cL_law 352 = .ok (.iaload, 1) := by decide +kernel
theorem dL_law_353 : decode cL_law 353 = .ok (.invokevirtual 61, 3) := by decide +kernel
theorem dL_law_356 : decode cL_law 356 = .ok (.istore 6, 2) := by decide +kernel
theorem dL_law_358 : decode cL_law 358 = .ok (.aload_n 2, 1) := by decide +kernel
theorem dL_law_359 : decode cL_law 359 = .ok (.invokevirtual 62, 3) := by decide +kernel
theorem dL_law_362 : decode cL_law 362 = .ok (.iload 5, 2) := by decide +kernel
theorem dL_law_364 : decode cL_law 364 = .ok (.if_icmp .eq 5, 3) := by decide +kernel
theorem dL_law_367 : decode cL_law 367 = .ok (.iconst 0, 1) := by decide +kernel
theorem dL_law_368 : decode cL_law 368 = .ok (.ireturn, 1) := by decide +kernel
theorem dL_law_369 : decode cL_law 369 = .ok (.iload 5, 2) := by decide +kernel
theorem dL_law_371 : decode cL_law 371 = .ok (.ifCond .ne 15, 3) := by decide +kernel
theorem dL_law_374 : decode cL_law 374 = .ok (.aload_n 3, 1) := by decide +kernel
theorem dL_law_375 : decode cL_law 375 = .ok (.iconst 0, 1) := by decide +kernel
theorem dL_law_376 : decode cL_law 376 = .ok (.laload, 1) := by decide +kernel
theorem dL_law_377 : decode cL_law 377 = .ok (.iload 6, 2) := by decide +kernel
theorem dL_law_379 : decode cL_law 379 = .ok (.i2l, 1) := by decide +kernel
theorem dL_law_380 : decode cL_law 380 = .ok (.lcmp, 1) := by decide +kernel
theorem dL_law_381 : decode cL_law 381 = .ok (.ifCond .eq 5, 3) := by decide +kernel
theorem dL_law_384 : decode cL_law 384 = .ok (.iconst 0, 1) := by decide +kernel
theorem dL_law_385 : decode cL_law 385 = .ok (.ireturn, 1) := by decide +kernel
theorem dL_law_386 : decode cL_law 386 = .ok (.goto 158, 3) := by decide +kernel
theorem dL_law_389 : decode cL_law 389 = .ok (.aload_n 1, 1) := by decide +kernel
theorem dL_law_390 : decode cL_law 390 = .ok (.aload_n 0, 1) := by decide +kernel
theorem dL_law_391 : decode cL_law 391 = .ok (.iload 4, 2) := by decide +kernel
theorem dL_law_393 : decode cL_law 393 = .ok (.iconst 1, 1) := by decide +kernel
theorem dL_law_394 : decode cL_law 394 = .ok (.iadd, 1) := by decide +kernel
theorem dL_law_395 : decode cL_law 395 = .ok (.iaload, 1) := by decide +kernel
theorem dL_law_396 : decode cL_law 396 = .ok (.aload_n 0, 1) := by decide +kernel
theorem dL_law_397 : decode cL_law 397 = .ok (.iload 4, 2) := by decide +kernel
theorem dL_law_399 : decode cL_law 399 = .ok (.iconst 2, 1) := by decide +kernel
theorem dL_law_400 : decode cL_law 400 = .ok (.iadd, 1) := by decide +kernel
theorem dL_law_401 : decode cL_law 401 = .ok (.iaload, 1) := by decide +kernel
theorem dL_law_402 : decode cL_law 402 = .ok (.invokevirtual 65, 3) := by decide +kernel
theorem dL_law_405 : decode cL_law 405 = .ok (.aload_n 2, 1) := by decide +kernel
theorem dL_law_406 : decode cL_law 406 = .ok (.aload_n 0, 1) := by decide +kernel
theorem dL_law_407 : decode cL_law 407 = .ok (.iload 4, 2) := by decide +kernel
theorem dL_law_409 : decode cL_law 409 = .ok (.iconst 1, 1) := by decide +kernel
theorem dL_law_410 : decode cL_law 410 = .ok (.iadd, 1) := by decide +kernel
theorem dL_law_411 : decode cL_law 411 = .ok (.iaload, 1) := by decide +kernel
theorem dL_law_412 : decode cL_law 412 = .ok (.aload_n 0, 1) := by decide +kernel
theorem dL_law_413 : decode cL_law 413 = .ok (.iload 4, 2) := by decide +kernel
theorem dL_law_415 : decode cL_law 415 = .ok (.iconst 2, 1) := by decide +kernel
theorem dL_law_416 : decode cL_law 416 = .ok (.iadd, 1) := by decide +kernel
theorem dL_law_417 : decode cL_law 417 = .ok (.iaload, 1) := by decide +kernel
theorem dL_law_418 : decode cL_law 418 = .ok (.invokevirtual 68, 3) := by decide +kernel
theorem dL_law_421 : decode cL_law 421 = .ok (.if_icmp .eq 123, 3) := by decide +kernel
theorem dL_law_424 : decode cL_law 424 = .ok (.iconst 0, 1) := by decide +kernel
theorem dL_law_425 : decode cL_law 425 = .ok (.ireturn, 1) := by decide +kernel
theorem dL_law_426 : decode cL_law 426 = .ok (.aload_n 1, 1) := by decide +kernel
theorem dL_law_427 : decode cL_law 427 = .ok (.aload_n 0, 1) := by decide +kernel
theorem dL_law_428 : decode cL_law 428 = .ok (.iload 4, 2) := by decide +kernel
theorem dL_law_430 : decode cL_law 430 = .ok (.iconst 1, 1) := by decide +kernel
theorem dL_law_431 : decode cL_law 431 = .ok (.iadd, 1) := by decide +kernel
theorem dL_law_432 : decode cL_law 432 = .ok (.iaload, 1) := by decide +kernel
theorem dL_law_433 : decode cL_law 433 = .ok (.invokevirtual 69, 3) := by decide +kernel
theorem dL_law_436 : decode cL_law 436 = .ok (.aload_n 2, 1) := by decide +kernel
theorem dL_law_437 : decode cL_law 437 = .ok (.aload_n 0, 1) := by decide +kernel
theorem dL_law_438 : decode cL_law 438 = .ok (.iload 4, 2) := by decide +kernel
theorem dL_law_440 : decode cL_law 440 = .ok (.iconst 1, 1) := by decide +kernel
theorem dL_law_441 : decode cL_law 441 = .ok (.iadd, 1) := by decide +kernel
theorem dL_law_442 : decode cL_law 442 = .ok (.iaload, 1) := by decide +kernel
theorem dL_law_443 : decode cL_law 443 = .ok (.invokevirtual 73, 3) := by decide +kernel
theorem dL_law_446 : decode cL_law 446 = .ok (.if_icmp .eq 98, 3) := by decide +kernel
theorem dL_law_449 : decode cL_law 449 = .ok (.iconst 0, 1) := by decide +kernel
theorem dL_law_450 : decode cL_law 450 = .ok (.ireturn, 1) := by decide +kernel
theorem dL_law_451 : decode cL_law 451 = .ok (.aload_n 1, 1) := by decide +kernel
theorem dL_law_452 : decode cL_law 452 = .ok (.aload_n 0, 1) := by decide +kernel
theorem dL_law_453 : decode cL_law 453 = .ok (.iload 4, 2) := by decide +kernel
theorem dL_law_455 : decode cL_law 455 = .ok (.iconst 1, 1) := by decide +kernel
theorem dL_law_456 : decode cL_law 456 = .ok (.iadd, 1) := by decide +kernel
theorem dL_law_457 : decode cL_law 457 = .ok (.iaload, 1) := by decide +kernel
theorem dL_law_458 : decode cL_law 458 = .ok (.aload_n 0, 1) := by decide +kernel
theorem dL_law_459 : decode cL_law 459 = .ok (.iload 4, 2) := by decide +kernel
theorem dL_law_461 : decode cL_law 461 = .ok (.iconst 2, 1) := by decide +kernel
theorem dL_law_462 : decode cL_law 462 = .ok (.iadd, 1) := by decide +kernel
theorem dL_law_463 : decode cL_law 463 = .ok (.iaload, 1) := by decide +kernel
theorem dL_law_464 : decode cL_law 464 = .ok (.aload_n 3, 1) := by decide +kernel
theorem dL_law_465 : decode cL_law 465 = .ok (.invokestatic 74, 3) := by decide +kernel
theorem dL_law_468 : decode cL_law 468 = .ok (.istore 5, 2) := by decide +kernel
theorem dL_law_470 : decode cL_law 470 = .ok (.aload_n 2, 1) := by decide +kernel
theorem dL_law_471 : decode cL_law 471 = .ok (.aload_n 0, 1) := by decide +kernel
theorem dL_law_472 : decode cL_law 472 = .ok (.iload 4, 2) := by decide +kernel
theorem dL_law_474 : decode cL_law 474 = .ok (.iconst 1, 1) := by decide +kernel
theorem dL_law_475 : decode cL_law 475 = .ok (.iadd, 1) := by decide +kernel
theorem dL_law_476 : decode cL_law 476 = .ok (.iaload, 1) := by decide +kernel
theorem dL_law_477 : decode cL_law 477 = .ok (.aload_n 0, 1) := by decide +kernel
theorem dL_law_478 : decode cL_law 478 = .ok (.iload 4, 2) := by decide +kernel
theorem dL_law_480 : decode cL_law 480 = .ok (.iconst 2, 1) := by decide +kernel
theorem dL_law_481 : decode cL_law 481 = .ok (.iadd, 1) := by decide +kernel
theorem dL_law_482 : decode cL_law 482 = .ok (.iaload, 1) := by decide +kernel
theorem dL_law_483 : decode cL_law 483 = .ok (.invokevirtual 76, 3) := by decide +kernel
theorem dL_law_486 : decode cL_law 486 = .ok (.istore 6, 2) := by decide +kernel
theorem dL_law_488 : decode cL_law 488 = .ok (.aload_n 2, 1) := by decide +kernel
theorem dL_law_489 : decode cL_law 489 = .ok (.invokevirtual 62, 3) := by decide +kernel
theorem dL_law_492 : decode cL_law 492 = .ok (.iload 5, 2) := by decide +kernel
theorem dL_law_494 : decode cL_law 494 = .ok (.if_icmp .eq 5, 3) := by decide +kernel
theorem dL_law_497 : decode cL_law 497 = .ok (.iconst 0, 1) := by decide +kernel
theorem dL_law_498 : decode cL_law 498 = .ok (.ireturn, 1) := by decide +kernel
theorem dL_law_499 : decode cL_law 499 = .ok (.iload 5, 2) := by decide +kernel
theorem dL_law_501 : decode cL_law 501 = .ok (.ifCond .ne 15, 3) := by decide +kernel
theorem dL_law_504 : decode cL_law 504 = .ok (.aload_n 3, 1) := by decide +kernel
theorem dL_law_505 : decode cL_law 505 = .ok (.iconst 0, 1) := by decide +kernel
theorem dL_law_506 : decode cL_law 506 = .ok (.laload, 1) := by decide +kernel
theorem dL_law_507 : decode cL_law 507 = .ok (.iload 6, 2) := by decide +kernel
theorem dL_law_509 : decode cL_law 509 = .ok (.i2l, 1) := by decide +kernel
theorem dL_law_510 : decode cL_law 510 = .ok (.lcmp, 1) := by decide +kernel
theorem dL_law_511 : decode cL_law 511 = .ok (.ifCond .eq 5, 3) := by decide +kernel
theorem dL_law_514 : decode cL_law 514 = .ok (.iconst 0, 1) := by decide +kernel
theorem dL_law_515 : decode cL_law 515 = .ok (.ireturn, 1) := by decide +kernel
theorem dL_law_516 : decode cL_law 516 = .ok (.goto 28, 3) := by decide +kernel
theorem dL_law_519 : decode cL_law 519 = .ok (.aload_n 1, 1) := by decide +kernel
theorem dL_law_520 : decode cL_law 520 = .ok (.aload_n 0, 1) := by decide +kernel
theorem dL_law_521 : decode cL_law 521 = .ok (.iload 4, 2) := by decide +kernel
theorem dL_law_523 : decode cL_law 523 = .ok (.iconst 1, 1) := by decide +kernel
theorem dL_law_524 : decode cL_law 524 = .ok (.iadd, 1) := by decide +kernel
theorem dL_law_525 : decode cL_law 525 = .ok (.iaload, 1) := by decide +kernel
theorem dL_law_526 : decode cL_law 526 = .ok (.invokevirtual 77, 3) := by decide +kernel
theorem dL_law_529 : decode cL_law 529 = .ok (.aload_n 2, 1) := by decide +kernel
theorem dL_law_530 : decode cL_law 530 = .ok (.aload_n 0, 1) := by decide +kernel
theorem dL_law_531 : decode cL_law 531 = .ok (.iload 4, 2) := by decide +kernel
theorem dL_law_533 : decode cL_law 533 = .ok (.iconst 1, 1) := by decide +kernel
theorem dL_law_534 : decode cL_law 534 = .ok (.iadd, 1) := by decide +kernel
theorem dL_law_535 : decode cL_law 535 = .ok (.iaload, 1) := by decide +kernel
theorem dL_law_536 : decode cL_law 536 = .ok (.invokevirtual 80, 3) := by decide +kernel
theorem dL_law_539 : decode cL_law 539 = .ok (.if_icmp .eq 5, 3) := by decide +kernel
theorem dL_law_542 : decode cL_law 542 = .ok (.iconst 0, 1) := by decide +kernel
theorem dL_law_543 : decode cL_law 543 = .ok (.ireturn, 1) := by decide +kernel
theorem dL_law_544 : decode cL_law 544 = .ok (.iinc 4 5, 3) := by decide +kernel
theorem dL_law_547 : decode cL_law 547 = .ok (.goto (-524), 3) := by decide +kernel
theorem dL_law_550 : decode cL_law 550 = .ok (.iconst 1, 1) := by decide +kernel
theorem dL_law_551 : decode cL_law 551 = .ok (.ireturn, 1) := by decide +kernel
abbrev vwCl : List vw_C := [(RX0, TX0, 2), (RX1, TX1, 3), (RX2, TX2, 4), (RX3, TX3, 1), (RX4, TX4, 7), (RX5, TX5, 5), (RX6, TX6, 2), (RX7, TX7, 8), (RX8, TX8, 24)]
end
section
/-! ROWS OF MY OWN: a walk over worlds. X: the classes' numbers, the int arrays' class, the two static tables. G: what stands still in a method's walk. -/
abbrev sx_X : Type := va_G × ClassId × Nat × Nat
abbrev sx_g : Type := Program × Env × Room × State × MethodId × Array Value × List Frame × Method × Code × (State → Prop) × (Nat → Prop) × Nat
def sx_compass : Nat → Value := fun j => .int ([5, 6, 7, 4, -1, 0, 3, 2, 1].getD j 0)
def sx_first : Nat → Value := fun j => .int ([0, 1, 2, 4, 8, 5, 1].getD j 0)
def sx_isNest : Cond → Bool
  | .fieldLinkNest .. => true
  | .methodLinkNest .. => true
  | _ => false
def sx_nest : List Cond := [.fieldLinkNest "TubeShop" (119 : Nat) "TubeShop$Parts" "size" "I" "TubeShop",
  .fieldLinkNest "TubeShop" (129 : Nat) "TubeShop$Parts" "sets" "[I" "TubeShop",
  .fieldLinkNest "TubeShop" (133 : Nat) "TubeShop$Parts" "lengths" "[I" "TubeShop",
  .fieldLinkNest "TubeShop" (136 : Nat) "TubeShop$Parts" "amounts" "[I" "TubeShop",
  .fieldLinkNest "TubeShop" (157 : Nat) "TubeShop$Joints" "looks" "I" "TubeShop",
  .fieldLinkNest "TubeShop" (160 : Nat) "TubeShop$Joints" "first" "I" "TubeShop",
  .fieldLinkNest "TubeShop" (163 : Nat) "TubeShop$Sign" "size" "I" "TubeShop",
  .fieldLinkNest "TubeShop" (166 : Nat) "TubeShop$Sign" "lengths" "[I" "TubeShop",
  .fieldLinkNest "TubeShop" (167 : Nat) "TubeShop$Sign" "directions" "[I" "TubeShop",
  .fieldLinkNest "TubeShop$Boxes" (18 : Nat) "TubeShop$Parts" "size" "I" "TubeShop",
  .fieldLinkNest "TubeShop$Boxes" (24 : Nat) "TubeShop$Parts" "lengths" "[I" "TubeShop",
  .fieldLinkNest "TubeShop$Joints" (22 : Nat) "TubeShop$Parts" "size" "I" "TubeShop",
  .fieldLinkNest "TubeShop$Joints" (27 : Nat) "TubeShop$Parts" "lengths" "[I" "TubeShop",
  .fieldLinkNest "TubeShop$RunTable" (48 : Nat) "TubeShop$Sign" "size" "I" "TubeShop",
  .fieldLinkNest "TubeShop$RunTable" (51 : Nat) "TubeShop$Sign" "lengths" "[I" "TubeShop"]
theorem sx_nest_all : ∀ w ∈ sx_nest, sx_isNest w = true := by decide +kernel
theorem sx_warm {w : Cond} (hw : sx_isNest w = true) {s U : State} (hW : s.WarmedH U.vm) (h : va_Nw w s) : va_Nw w U := by
  cases w <;> first | exact va_Nw.warmF hW h | exact va_Nw.warmM hW h | cases hw
theorem sx_onT {w : Cond} (hw : sx_isNest w = true) : w.onTables = true := by
  cases w <;> first | rfl | cases hw
/-- what stands beside a world: links between nest mates, the two static tables that nobody writes -/
def sx_E (A : Nat → Prop) (tC tA : Nat) (U : State) (H : Heap) : Prop := (∀ w ∈ sx_nest, va_Nw w U) ∧ va_Z "TubeShop$Sign" "COMPASS" "[I" (.ref tC) A U H ∧ va_T .int tC 9 sx_compass A U H ∧ va_Z "TubeShop$PriceList" "AT_FIRST" "[I" (.ref tA) A U H ∧ va_T .int tA 7 sx_first A U H
theorem sx_E.to {A B : Nat → Prop} {tC tA : Nat} {s U : State} {H0 H : Heap} (h : sx_E A tC tA s H0) (hW : s.WarmedH U.vm) (hq : ∀ q : Nat, q < H0.size → ¬ A q → H[q]? = H0[q]?) (hB : ∀ q, B q → A q) : sx_E B tC tA U H := by
  obtain ⟨h1, h2, h3, h4, h5⟩ := h
  exact ⟨fun w hw => sx_warm (sx_nest_all w hw) hW (h1 w hw), ((h2.kept hq).moved hW.alike).narrow hB, ((h3.kept hq).moved hW.alike).narrow hB, ((h4.kept hq).moved hW.alike).narrow hB, ((h5.kept hq).moved hW.alike).narrow hB⟩
theorem sx_E.same {A : Nat → Prop} {tC tA : Nat} {u U : State} {H : Heap} (h : sx_E A tC tA u H) (hv : u.vm = U.vm) : sx_E A tC tA U H := by
  obtain ⟨h1, h2, h3, h4, h5⟩ := h
  have ha : u.vm.Alike U.vm := by rw [hv]; exact Vm.Alike.refl _
  exact ⟨fun w hw => va_Nw.same (sx_onT (sx_nest_all w hw)) hv (h1 w hw), h2.moved ha, h3.moved ha, h4.moved ha, h5.moved ha⟩
/-- the walk: at pc, with these locals, this stack and this world, the method comes to its end -/
def sx_W (l : Launch) (X : sx_X) (G : sx_g) (kc ks pc : Nat) (lv : List (Nat × Value)) (st : List Value) (ws : va_W) : Prop :=
  match X, G with
  | (D, cI, tC, tA), (p, e, R, s, m, args, below, meth, c, Q, A, nL) =>
    ∀ (H : Heap) (locs : List Loc) (ls : Array Slot), va_P D vwCl ws H → va_D A ws → va_S A s.heap H locs → lv_has ls nL lv → W p l e R s m args below meth c H locs kc ks Q (F0 m pc ls st)
def sx_ok (l : Launch) (X : sx_X) (G : sx_g) (cc : ByteArray) (own : String) (Ts : List Cond) (rm : Room) : Prop :=
  match X, G with
  | (D, cI, tC, tA), (p, e, R, s, m, args, below, meth, c, Q, A, nL) =>
    p.tables.exec = Jvm.exec ∧ c.code = cc ∧ c.maxLocals = nL ∧ s.vm.findClass own = some m.cls ∧ (∀ w ∈ Ts, w.before args s = true) ∧ va_K D vwCl [(cI, .int)] s ∧ (∀ q, s.heap.size ≤ q → A q) ∧ R = rm ∧ sx_E A tC tA s s.heap
def sx_Pre (X : sx_X) (av : List Value) (W0 : va_W) (sz : Nat) : Array Value → State → Prop :=
  va_Pc av (fun U => U.heap.size = sz ∧ va_P X.1 vwCl W0 U.heap ∧ va_K X.1 vwCl [(X.2.1, .int)] U ∧ va_D (fun _ => True) W0 ∧ sx_E (va_A W0 sz) X.2.2.1 X.2.2.2 U U.heap)
def sx_B (X : sx_X) (A : Nat → Prop) (w : va_W) (t : State) : Prop := va_P X.1 vwCl w t.heap ∧ va_K X.1 vwCl [(X.2.1, .int)] t ∧ va_D A w
/-- contracts: from the world W0 with these arguments the method returns, the answer and the new world as 'post' says -/
def sx_Mi (l : Launch) (y : MethodName) (ws : List Cond) (rm : Room) (X : sx_X) (av : List Value) (W0 : va_W) (post : Int32 → va_W → Prop) (mc ms : Nat) : Prop :=
  ∀ sz : Nat, Met l y ws rm (sx_Pre X av W0 sz) (va_Qi post (sx_B X (va_A W0 sz)) (va_A W0 sz)) mc ms (va_A W0 sz)
def sx_Mv (l : Launch) (y : MethodName) (ws : List Cond) (rm : Room) (X : sx_X) (av : List Value) (W0 : va_W) (post : va_W → Prop) (mc ms : Nat) : Prop :=
  ∀ sz : Nat, Met l y ws rm (sx_Pre X av W0 sz) (va_Qv post (sx_B X (va_A W0 sz)) (va_A W0 sz)) mc ms (va_A W0 sz)
theorem sx_blind (X : sx_X) (av : List Value) (W0 : va_W) (sz : Nat) : FrameBlind (sx_Pre X av W0 sz) := by
  intro a U g mk q
  obtain ⟨q0, q1, qP, qK, qD, qE⟩ := q
  exact ⟨q0, q1, qP, va_K.moved (u := U) (U := U.calling g mk a) (Vm.Alike.refl U.vm) qK, qD, qE.same rfl⟩
/-- the body's walk gives the contract -/
theorem sx_entI {l : Launch} {y : MethodName} {cc : ByteArray} {nL : Nat} {ty : FieldType} {ws ws' : List Cond} {rm : Room} {X : sx_X} {av : List Value} {W0 : va_W} {post : Int32 → va_W → Prop} {mc ms : Nat} {own : String} (hy : plainName y.cls = true) (ho : y.cls = own) (hw : ws = Cond.code y cc nL (some ty) :: ws') (hav : (lg_sl av).length ≤ nL)
    (body : ∀ G : sx_g, sx_ok l X G cc own ws rm → G.2.2.2.2.2.2.2.2.2.2.2 = nL → (∀ (pc : Nat) (lv : List (Nat × Value)) (v : Int32) (w : va_W), decode cc pc = .ok (.ireturn, 1) → narrow ty (.int v) = .int v → post v w → sx_W l X G mc ms pc lv [.int v] w) → sx_W l X G 0 0 0 (lv_args 0 av) [] W0) :
    sx_Mi l y ws rm X av W0 post mc ms := by
  intro sz
  refine Met.ofW (cc := cc) (maxL := nL) (ret := some ty) hy hw ?_
  intro p e s m args below meth c s₁ B hml hv
  obtain ⟨rfl, hsz, hP, hK, hD0, hE⟩ := hv
  have hown : s.vm.findClass own = some m.cls := by rw [← ho]; exact findClass_of_methodNamed B.named
  have hts := atoms_spec (ws := ws) B.pre
  have hx := B.exec
  have hb := B.bytes
  have hr := B.returns
  have hlocks := B.notSynchronized
  subst hsz
  obtain ⟨D, cI, tC, tA⟩ := X
  have hD := hD0.self (sz := s.heap.size)
  have hb2 := body (p, e, (headSpec ws rm).room, s, m, av.toArray, below, meth, c, MQ below (va_Qi post (sx_B (D, cI, tC, tA) (va_A W0 s.heap.size)) (va_A W0 s.heap.size)) av.toArray s mc ms (va_A W0 s.heap.size), va_A W0 s.heap.size, nL)
    ⟨hx, hb, hml, hown, hts, hK, fun q h => Or.inr h, rfl, hE⟩ rfl
    (fun pc lv v w hd hn hp H locs ls hP1 hD1 hS1 hl => W.zret (v := v) hx hb hr hn (fun t ht hW => ⟨⟨v, w, rfl, hp, by show va_P _ _ _ t.heap; rw [ht]; exact hP1, va_K.moved hW.alike hK, hD1⟩, hS1.F ht⟩) hS1.2.2 hd)
  rw [lg_entry_eq]
  exact hb2 s.heap [] _ hP hD va_S.rf (lv_entry av hav)
theorem sx_entV {l : Launch} {y : MethodName} {cc : ByteArray} {nL : Nat} {ws ws' : List Cond} {rm : Room} {X : sx_X} {av : List Value} {W0 : va_W} {post : va_W → Prop} {mc ms : Nat} {own : String} (hy : plainName y.cls = true) (ho : y.cls = own) (hw : ws = Cond.code y cc nL none :: ws') (hav : (lg_sl av).length ≤ nL)
    (body : ∀ G : sx_g, sx_ok l X G cc own ws rm → G.2.2.2.2.2.2.2.2.2.2.2 = nL → (y.name = "<init>" → G.2.2.2.2.2.2.2.1.name = "<init>") → (∀ (pc : Nat) (lv : List (Nat × Value)) (w : va_W), decode cc pc = .ok (.return_, 1) → post w → sx_W l X G mc ms pc lv [] w) → sx_W l X G 0 0 0 (lv_args 0 av) [] W0) :
    sx_Mv l y ws rm X av W0 post mc ms := by
  intro sz
  refine Met.ofW (cc := cc) (maxL := nL) (ret := none) hy hw ?_
  intro p e s m args below meth c s₁ B hml hv
  obtain ⟨rfl, hsz, hP, hK, hD0, hE⟩ := hv
  have hown : s.vm.findClass own = some m.cls := by rw [← ho]; exact findClass_of_methodNamed B.named
  have hts := atoms_spec (ws := ws) B.pre
  have hx := B.exec
  have hb := B.bytes
  have hr := B.returns
  have hlocks := B.notSynchronized
  have hnm := (name_of_methodNamed B.named B.method).1
  subst hsz
  obtain ⟨D, cI, tC, tA⟩ := X
  have hD := hD0.self (sz := s.heap.size)
  have hb2 := body (p, e, (headSpec ws rm).room, s, m, av.toArray, below, meth, c, MQ below (va_Qv post (sx_B (D, cI, tC, tA) (va_A W0 s.heap.size)) (va_A W0 s.heap.size)) av.toArray s mc ms (va_A W0 s.heap.size), va_A W0 s.heap.size, nL)
    ⟨hx, hb, hml, hown, hts, hK, fun q h => Or.inr h, rfl, hE⟩ rfl (fun h => hnm.trans h)
    (fun pc lv w hd hp H locs ls hP1 hD1 hS1 hl => W.vret hx hb hr (fun t ht hW => ⟨⟨w, rfl, hp, by show va_P _ _ _ t.heap; rw [ht]; exact hP1, va_K.moved hW.alike hK, hD1⟩, hS1.F ht⟩) hS1.2.2 hd)
  rw [lg_entry_eq]
  exact hb2 s.heap [] _ hP hD va_S.rf (lv_entry av hav)
theorem sx_updN (f : Nat → Nat) (k x : Nat) : upd (fun j => nI (f j)) k (nI x) = fun j => nI (va_up f k x j) := by
  funext j
  by_cases h : j = k <;> simp [upd, va_up, h]
section SXR
variable {l : Launch} {X : sx_X} {G : sx_g} {cc : ByteArray} {own : String} {Ts : List Cond} {rm : Room} {kc ks pc : Nat} {lv : List (Nat × Value)} {st : List Value} {ws : va_W}
theorem sx_iconst (hG : sx_ok l X G cc own Ts rm) {n : Int} {v : Int32} (hd : decode cc pc = .ok (.iconst n, 1)) (hv : Int32.ofInt n = v) (kk : sx_W l X G kc ks (pc + 1) lv (.int v :: st) ws) : sx_W l X G kc ks (pc) lv (st) ws := by
  obtain ⟨D, cI, tC, tA⟩ := X
  obtain ⟨p, e, R, s, m, args, below, meth, c, Q, A, nL⟩ := G
  obtain ⟨hx, hb, hml, hown, hts, hK, hA, rfl, hE⟩ := hG
  intro H locs ls hP hD hS hl
  exact lv_iconst hx hb hd hv (kk H locs ls hP hD hS hl)
theorem sx_bipush (hG : sx_ok l X G cc own Ts rm) {n : Int} {v : Int32} (hd : decode cc pc = .ok (.bipush n, 2)) (hv : (Int8.ofInt n).toInt32 = v) (kk : sx_W l X G kc ks (pc + 2) lv (.int v :: st) ws) : sx_W l X G kc ks (pc) lv (st) ws := by
  obtain ⟨D, cI, tC, tA⟩ := X
  obtain ⟨p, e, R, s, m, args, below, meth, c, Q, A, nL⟩ := G
  obtain ⟨hx, hb, hml, hown, hts, hK, hA, rfl, hE⟩ := hG
  intro H locs ls hP hD hS hl
  exact lv_bipush hx hb hd hv (kk H locs ls hP hD hS hl)
theorem sx_sipush (hG : sx_ok l X G cc own Ts rm) {n : Int} {v : Int32} (hd : decode cc pc = .ok (.sipush n, 3)) (hv : (Int16.ofInt n).toInt32 = v) (kk : sx_W l X G kc ks (pc + 3) lv (.int v :: st) ws) : sx_W l X G kc ks (pc) lv (st) ws := by
  obtain ⟨D, cI, tC, tA⟩ := X
  obtain ⟨p, e, R, s, m, args, below, meth, c, Q, A, nL⟩ := G
  obtain ⟨hx, hb, hml, hown, hts, hK, hA, rfl, hE⟩ := hG
  intro H locs ls hP hD hS hl
  exact lv_sipush hx hb hd hv (kk H locs ls hP hD hS hl)
theorem sx_ldc (hG : sx_ok l X G cc own Ts rm) {index : Nat} {v v2 : Int32} (hm : Cond.constant own index v ∈ Ts) (hd : decode cc pc = .ok (.ldc index, 2)) (hv : v = v2) (kk : sx_W l X G kc ks (pc + 2) lv (.int v2 :: st) ws) : sx_W l X G kc ks (pc) lv (st) ws := by
  obtain ⟨D, cI, tC, tA⟩ := X
  obtain ⟨p, e, R, s, m, args, below, meth, c, Q, A, nL⟩ := G
  obtain ⟨hx, hb, hml, hown, hts, hK, hA, rfl, hE⟩ := hG
  intro H locs ls hP hD hS hl
  subst hv; exact lv_ldc hx hb hown (hts _ hm) hd (kk H locs ls hP hD hS hl)
theorem sx_iload_n (hG : sx_ok l X G cc own Ts rm) {k : Fin 4} {i : Nat} {x : Int32} (hd : decode cc pc = .ok (.iload_n k, 1)) (hi : (k : Nat) = i) (j : Nat) (hj : lv[j]? = some (i, .int x)) (kk : sx_W l X G kc ks (pc + 1) lv (.int x :: st) ws) : sx_W l X G kc ks (pc) lv (st) ws := by
  obtain ⟨D, cI, tC, tA⟩ := X
  obtain ⟨p, e, R, s, m, args, below, meth, c, Q, A, nL⟩ := G
  obtain ⟨hx, hb, hml, hown, hts, hK, hA, rfl, hE⟩ := hG
  intro H locs ls hP hD hS hl
  exact lv_iload_n hx hb hd hi (lv_at hl j hj) (kk H locs ls hP hD hS hl)
theorem sx_iload (hG : sx_ok l X G cc own Ts rm) {i : Nat} {x : Int32} (hd : decode cc pc = .ok (.iload i, 2)) (j : Nat) (hj : lv[j]? = some (i, .int x)) (kk : sx_W l X G kc ks (pc + 2) lv (.int x :: st) ws) : sx_W l X G kc ks (pc) lv (st) ws := by
  obtain ⟨D, cI, tC, tA⟩ := X
  obtain ⟨p, e, R, s, m, args, below, meth, c, Q, A, nL⟩ := G
  obtain ⟨hx, hb, hml, hown, hts, hK, hA, rfl, hE⟩ := hG
  intro H locs ls hP hD hS hl
  exact lv_iload hx hb hd (lv_at hl j hj) (kk H locs ls hP hD hS hl)
theorem sx_istore_n (hG : sx_ok l X G cc own Ts rm) {k : Fin 4} {i : Nat} {x : Int32} {lv2 : List (Nat × Value)} (ks2 : List Nat) (hd : decode cc pc = .ok (.istore_n k, 1)) (hi : (k : Nat) = i) {N9 : Nat} (hn : G.2.2.2.2.2.2.2.2.2.2.2 = N9) (hi2 : i < N9) (hl2 : lv_pick ((i, Value.int x) :: lv.filter (fun q => !(q.1 == i) && !(q.1 + 1 == i && q.2.category == 2))) ks2 = lv2) (kk : sx_W l X G kc ks (pc + 1) lv2 (st) ws) : sx_W l X G kc ks (pc) lv (.int x :: st) ws := by
  obtain ⟨D, cI, tC, tA⟩ := X
  obtain ⟨p, e, R, s, m, args, below, meth, c, Q, A, nL⟩ := G
  obtain ⟨hx, hb, hml, hown, hts, hK, hA, rfl, hE⟩ := hG
  intro H locs ls hP hD hS hl
  exact lv_istore_n hx hb hd hi hl (by rw [show nL = N9 from hn]; exact hi2) rfl (fun ls hl => kk H locs ls hP hD hS (lv_sub hl ks2 hl2))
theorem sx_istore (hG : sx_ok l X G cc own Ts rm) {i : Nat} {x : Int32} {lv2 : List (Nat × Value)} (ks2 : List Nat) (hd : decode cc pc = .ok (.istore i, 2)) {N9 : Nat} (hn : G.2.2.2.2.2.2.2.2.2.2.2 = N9) (hi2 : i < N9) (hl2 : lv_pick ((i, Value.int x) :: lv.filter (fun q => !(q.1 == i) && !(q.1 + 1 == i && q.2.category == 2))) ks2 = lv2) (kk : sx_W l X G kc ks (pc + 2) lv2 (st) ws) : sx_W l X G kc ks (pc) lv (.int x :: st) ws := by
  obtain ⟨D, cI, tC, tA⟩ := X
  obtain ⟨p, e, R, s, m, args, below, meth, c, Q, A, nL⟩ := G
  obtain ⟨hx, hb, hml, hown, hts, hK, hA, rfl, hE⟩ := hG
  intro H locs ls hP hD hS hl
  exact lv_istore hx hb hd hl (by rw [show nL = N9 from hn]; exact hi2) rfl (fun ls hl => kk H locs ls hP hD hS (lv_sub hl ks2 hl2))
theorem sx_aload_n (hG : sx_ok l X G cc own Ts rm) {k : Fin 4} {i : Nat} {x : Nat} (hd : decode cc pc = .ok (.aload_n k, 1)) (hi : (k : Nat) = i) (j : Nat) (hj : lv[j]? = some (i, .ref x)) (kk : sx_W l X G kc ks (pc + 1) lv (.ref x :: st) ws) : sx_W l X G kc ks (pc) lv (st) ws := by
  obtain ⟨D, cI, tC, tA⟩ := X
  obtain ⟨p, e, R, s, m, args, below, meth, c, Q, A, nL⟩ := G
  obtain ⟨hx, hb, hml, hown, hts, hK, hA, rfl, hE⟩ := hG
  intro H locs ls hP hD hS hl
  exact lv_aload_n hx hb hd hi (lv_at hl j hj) (kk H locs ls hP hD hS hl)
theorem sx_aload (hG : sx_ok l X G cc own Ts rm) {i : Nat} {x : Nat} (hd : decode cc pc = .ok (.aload i, 2)) (j : Nat) (hj : lv[j]? = some (i, .ref x)) (kk : sx_W l X G kc ks (pc + 2) lv (.ref x :: st) ws) : sx_W l X G kc ks (pc) lv (st) ws := by
  obtain ⟨D, cI, tC, tA⟩ := X
  obtain ⟨p, e, R, s, m, args, below, meth, c, Q, A, nL⟩ := G
  obtain ⟨hx, hb, hml, hown, hts, hK, hA, rfl, hE⟩ := hG
  intro H locs ls hP hD hS hl
  exact lv_aload hx hb hd (lv_at hl j hj) (kk H locs ls hP hD hS hl)
theorem sx_astore_n (hG : sx_ok l X G cc own Ts rm) {k : Fin 4} {i : Nat} {x : Nat} {lv2 : List (Nat × Value)} (ks2 : List Nat) (hd : decode cc pc = .ok (.astore_n k, 1)) (hi : (k : Nat) = i) {N9 : Nat} (hn : G.2.2.2.2.2.2.2.2.2.2.2 = N9) (hi2 : i < N9) (hl2 : lv_pick ((i, Value.ref x) :: lv.filter (fun q => !(q.1 == i) && !(q.1 + 1 == i && q.2.category == 2))) ks2 = lv2) (kk : sx_W l X G kc ks (pc + 1) lv2 (st) ws) : sx_W l X G kc ks (pc) lv (.ref x :: st) ws := by
  obtain ⟨D, cI, tC, tA⟩ := X
  obtain ⟨p, e, R, s, m, args, below, meth, c, Q, A, nL⟩ := G
  obtain ⟨hx, hb, hml, hown, hts, hK, hA, rfl, hE⟩ := hG
  intro H locs ls hP hD hS hl
  exact lv_astore_n hx hb hd hi hl (by rw [show nL = N9 from hn]; exact hi2) rfl (fun ls hl => kk H locs ls hP hD hS (lv_sub hl ks2 hl2))
theorem sx_astore (hG : sx_ok l X G cc own Ts rm) {i : Nat} {x : Nat} {lv2 : List (Nat × Value)} (ks2 : List Nat) (hd : decode cc pc = .ok (.astore i, 2)) {N9 : Nat} (hn : G.2.2.2.2.2.2.2.2.2.2.2 = N9) (hi2 : i < N9) (hl2 : lv_pick ((i, Value.ref x) :: lv.filter (fun q => !(q.1 == i) && !(q.1 + 1 == i && q.2.category == 2))) ks2 = lv2) (kk : sx_W l X G kc ks (pc + 2) lv2 (st) ws) : sx_W l X G kc ks (pc) lv (.ref x :: st) ws := by
  obtain ⟨D, cI, tC, tA⟩ := X
  obtain ⟨p, e, R, s, m, args, below, meth, c, Q, A, nL⟩ := G
  obtain ⟨hx, hb, hml, hown, hts, hK, hA, rfl, hE⟩ := hG
  intro H locs ls hP hD hS hl
  exact lv_astore hx hb hd hl (by rw [show nL = N9 from hn]; exact hi2) rfl (fun ls hl => kk H locs ls hP hD hS (lv_sub hl ks2 hl2))
theorem sx_iinc (hG : sx_ok l X G cc own Ts rm) {i : Nat} {n : Int} {x v : Int32} {lv2 : List (Nat × Value)} {N9 : Nat} (ks2 : List Nat) (hd : decode cc pc = .ok (.iinc i n, 3)) (j : Nat) (hj : lv[j]? = some (i, .int x)) (hv : x + Int32.ofInt n = v) (hn : G.2.2.2.2.2.2.2.2.2.2.2 = N9) (hi2 : i < N9) (hl2 : lv_pick ((i, Value.int v) :: lv.filter (fun q => !(q.1 == i) && !(q.1 + 1 == i && q.2.category == 2))) ks2 = lv2) (kk : sx_W l X G kc ks (pc + 3) lv2 (st) ws) : sx_W l X G kc ks (pc) lv (st) ws := by
  obtain ⟨D, cI, tC, tA⟩ := X
  obtain ⟨p, e, R, s, m, args, below, meth, c, Q, A, nL⟩ := G
  obtain ⟨hx, hb, hml, hown, hts, hK, hA, rfl, hE⟩ := hG
  intro H locs ls hP hD hS hl
  exact lv_iinc hx hb hd hl hj hv (by rw [show nL = N9 from hn]; exact hi2) rfl (fun ls hl => kk H locs ls hP hD hS (lv_sub hl ks2 hl2))
theorem sx_iadd (hG : sx_ok l X G cc own Ts rm) {x y v : Int32} (hd : decode cc pc = .ok (.iadd, 1)) (hv : x + y = v) (kk : sx_W l X G kc ks (pc + 1) lv (.int v :: st) ws) : sx_W l X G kc ks (pc) lv (.int y :: .int x :: st) ws := by
  obtain ⟨D, cI, tC, tA⟩ := X
  obtain ⟨p, e, R, s, m, args, below, meth, c, Q, A, nL⟩ := G
  obtain ⟨hx, hb, hml, hown, hts, hK, hA, rfl, hE⟩ := hG
  intro H locs ls hP hD hS hl
  subst hv; exact lv_iadd hx hb hd (kk H locs ls hP hD hS hl)
theorem sx_isub (hG : sx_ok l X G cc own Ts rm) {x y v : Int32} (hd : decode cc pc = .ok (.isub, 1)) (hv : x - y = v) (kk : sx_W l X G kc ks (pc + 1) lv (.int v :: st) ws) : sx_W l X G kc ks (pc) lv (.int y :: .int x :: st) ws := by
  obtain ⟨D, cI, tC, tA⟩ := X
  obtain ⟨p, e, R, s, m, args, below, meth, c, Q, A, nL⟩ := G
  obtain ⟨hx, hb, hml, hown, hts, hK, hA, rfl, hE⟩ := hG
  intro H locs ls hP hD hS hl
  subst hv; exact lv_isub hx hb hd (kk H locs ls hP hD hS hl)
theorem sx_imul (hG : sx_ok l X G cc own Ts rm) {x y v : Int32} (hd : decode cc pc = .ok (.imul, 1)) (hv : x * y = v) (kk : sx_W l X G kc ks (pc + 1) lv (.int v :: st) ws) : sx_W l X G kc ks (pc) lv (.int y :: .int x :: st) ws := by
  obtain ⟨D, cI, tC, tA⟩ := X
  obtain ⟨p, e, R, s, m, args, below, meth, c, Q, A, nL⟩ := G
  obtain ⟨hx, hb, hml, hown, hts, hK, hA, rfl, hE⟩ := hG
  intro H locs ls hP hD hS hl
  subst hv; exact lv_imul hx hb hd (kk H locs ls hP hD hS hl)
theorem sx_iand (hG : sx_ok l X G cc own Ts rm) {x y v : Int32} (hd : decode cc pc = .ok (.iand, 1)) (hv : x &&& y = v) (kk : sx_W l X G kc ks (pc + 1) lv (.int v :: st) ws) : sx_W l X G kc ks (pc) lv (.int y :: .int x :: st) ws := by
  obtain ⟨D, cI, tC, tA⟩ := X
  obtain ⟨p, e, R, s, m, args, below, meth, c, Q, A, nL⟩ := G
  obtain ⟨hx, hb, hml, hown, hts, hK, hA, rfl, hE⟩ := hG
  intro H locs ls hP hD hS hl
  subst hv; exact lv_iand hx hb hd (kk H locs ls hP hD hS hl)
theorem sx_ior (hG : sx_ok l X G cc own Ts rm) {x y v : Int32} (hd : decode cc pc = .ok (.ior, 1)) (hv : x ||| y = v) (kk : sx_W l X G kc ks (pc + 1) lv (.int v :: st) ws) : sx_W l X G kc ks (pc) lv (.int y :: .int x :: st) ws := by
  obtain ⟨D, cI, tC, tA⟩ := X
  obtain ⟨p, e, R, s, m, args, below, meth, c, Q, A, nL⟩ := G
  obtain ⟨hx, hb, hml, hown, hts, hK, hA, rfl, hE⟩ := hG
  intro H locs ls hP hD hS hl
  subst hv; exact lv_ior hx hb hd (kk H locs ls hP hD hS hl)
theorem sx_ixor (hG : sx_ok l X G cc own Ts rm) {x y v : Int32} (hd : decode cc pc = .ok (.ixor, 1)) (hv : x ^^^ y = v) (kk : sx_W l X G kc ks (pc + 1) lv (.int v :: st) ws) : sx_W l X G kc ks (pc) lv (.int y :: .int x :: st) ws := by
  obtain ⟨D, cI, tC, tA⟩ := X
  obtain ⟨p, e, R, s, m, args, below, meth, c, Q, A, nL⟩ := G
  obtain ⟨hx, hb, hml, hown, hts, hK, hA, rfl, hE⟩ := hG
  intro H locs ls hP hD hS hl
  subst hv; exact lv_ixor hx hb hd (kk H locs ls hP hD hS hl)
theorem sx_idiv (hG : sx_ok l X G cc own Ts rm) {x y v : Int32} (hd : decode cc pc = .ok (.idiv, 1)) (hne : ¬ y = 0) (hv : x / y = v) (kk : sx_W l X G kc ks (pc + 1) lv (.int v :: st) ws) : sx_W l X G kc ks (pc) lv (.int y :: .int x :: st) ws := by
  obtain ⟨D, cI, tC, tA⟩ := X
  obtain ⟨p, e, R, s, m, args, below, meth, c, Q, A, nL⟩ := G
  obtain ⟨hx, hb, hml, hown, hts, hK, hA, rfl, hE⟩ := hG
  intro H locs ls hP hD hS hl
  subst hv; exact lv_idiv hx hb hd hne (kk H locs ls hP hD hS hl)
theorem sx_irem (hG : sx_ok l X G cc own Ts rm) {x y v : Int32} (hd : decode cc pc = .ok (.irem, 1)) (hne : ¬ y = 0) (hv : x - x / y * y = v) (kk : sx_W l X G kc ks (pc + 1) lv (.int v :: st) ws) : sx_W l X G kc ks (pc) lv (.int y :: .int x :: st) ws := by
  obtain ⟨D, cI, tC, tA⟩ := X
  obtain ⟨p, e, R, s, m, args, below, meth, c, Q, A, nL⟩ := G
  obtain ⟨hx, hb, hml, hown, hts, hK, hA, rfl, hE⟩ := hG
  intro H locs ls hP hD hS hl
  subst hv; exact lv_irem hx hb hd hne (kk H locs ls hP hD hS hl)
theorem sx_ishl (hG : sx_ok l X G cc own Ts rm) {x y v : Int32} (hd : decode cc pc = .ok (.ishl, 1)) (hv : x <<< (y &&& 31) = v) (kk : sx_W l X G kc ks (pc + 1) lv (.int v :: st) ws) : sx_W l X G kc ks (pc) lv (.int y :: .int x :: st) ws := by
  obtain ⟨D, cI, tC, tA⟩ := X
  obtain ⟨p, e, R, s, m, args, below, meth, c, Q, A, nL⟩ := G
  obtain ⟨hx, hb, hml, hown, hts, hK, hA, rfl, hE⟩ := hG
  intro H locs ls hP hD hS hl
  subst hv; exact lv_ishl hx hb hd (kk H locs ls hP hD hS hl)
theorem sx_ishr (hG : sx_ok l X G cc own Ts rm) {x y v : Int32} (hd : decode cc pc = .ok (.ishr, 1)) (hv : x >>> (y &&& 31) = v) (kk : sx_W l X G kc ks (pc + 1) lv (.int v :: st) ws) : sx_W l X G kc ks (pc) lv (.int y :: .int x :: st) ws := by
  obtain ⟨D, cI, tC, tA⟩ := X
  obtain ⟨p, e, R, s, m, args, below, meth, c, Q, A, nL⟩ := G
  obtain ⟨hx, hb, hml, hown, hts, hK, hA, rfl, hE⟩ := hG
  intro H locs ls hP hD hS hl
  subst hv; exact lv_ishr hx hb hd (kk H locs ls hP hD hS hl)
theorem sx_iushr (hG : sx_ok l X G cc own Ts rm) {x y v : Int32} (hd : decode cc pc = .ok (.iushr, 1)) (hv : (x.toUInt32 >>> (y.toUInt32 &&& Int32.toUInt32 31)).toInt32 = v) (kk : sx_W l X G kc ks (pc + 1) lv (.int v :: st) ws) : sx_W l X G kc ks (pc) lv (.int y :: .int x :: st) ws := by
  obtain ⟨D, cI, tC, tA⟩ := X
  obtain ⟨p, e, R, s, m, args, below, meth, c, Q, A, nL⟩ := G
  obtain ⟨hx, hb, hml, hown, hts, hK, hA, rfl, hE⟩ := hG
  intro H locs ls hP hD hS hl
  exact lv_iushr hx hb hd hv (kk H locs ls hP hD hS hl)
theorem sx_ineg (hG : sx_ok l X G cc own Ts rm) {x v : Int32} (hd : decode cc pc = .ok (.ineg, 1)) (hv : -x = v) (kk : sx_W l X G kc ks (pc + 1) lv (.int v :: st) ws) : sx_W l X G kc ks (pc) lv (.int x :: st) ws := by
  obtain ⟨D, cI, tC, tA⟩ := X
  obtain ⟨p, e, R, s, m, args, below, meth, c, Q, A, nL⟩ := G
  obtain ⟨hx, hb, hml, hown, hts, hK, hA, rfl, hE⟩ := hG
  intro H locs ls hP hD hS hl
  subst hv; exact lv_ineg hx hb hd (kk H locs ls hP hD hS hl)
theorem sx_dup (hG : sx_ok l X G cc own Ts rm) {v : Value} (hd : decode cc pc = .ok (.dup, 1)) (hc : v.category = 1) (kk : sx_W l X G kc ks (pc + 1) lv (v :: v :: st) ws) : sx_W l X G kc ks (pc) lv (v :: st) ws := by
  obtain ⟨D, cI, tC, tA⟩ := X
  obtain ⟨p, e, R, s, m, args, below, meth, c, Q, A, nL⟩ := G
  obtain ⟨hx, hb, hml, hown, hts, hK, hA, rfl, hE⟩ := hG
  intro H locs ls hP hD hS hl
  exact lv_dup hx hb hd hc (kk H locs ls hP hD hS hl)
theorem sx_pop (hG : sx_ok l X G cc own Ts rm) {v : Value} (hd : decode cc pc = .ok (.pop, 1)) (hc : v.category = 1) (kk : sx_W l X G kc ks (pc + 1) lv (st) ws) : sx_W l X G kc ks (pc) lv (v :: st) ws := by
  obtain ⟨D, cI, tC, tA⟩ := X
  obtain ⟨p, e, R, s, m, args, below, meth, c, Q, A, nL⟩ := G
  obtain ⟨hx, hb, hml, hown, hts, hK, hA, rfl, hE⟩ := hG
  intro H locs ls hP hD hS hl
  exact lv_pop hx hb hd hc (kk H locs ls hP hD hS hl)
theorem sx_if_eq (hG : sx_ok l X G cc own Ts rm) {x : Int32} {off : Int} {tgt : Nat} {B : Prop} (hd : decode cc pc = .ok (.ifCond .eq off, 3)) (ht : (pc : Int) + off = (tgt : Int)) (hi : (x = 0) ↔ B) (kt : B → sx_W l X G kc ks (tgt) lv (st) ws) (kf : ¬ B → sx_W l X G kc ks (pc + 3) lv (st) ws) : sx_W l X G kc ks (pc) lv (.int x :: st) ws := by
  obtain ⟨D, cI, tC, tA⟩ := X
  obtain ⟨p, e, R, s, m, args, below, meth, c, Q, A, nL⟩ := G
  obtain ⟨hx, hb, hml, hown, hts, hK, hA, rfl, hE⟩ := hG
  intro H locs ls hP hD hS hl
  exact lv_if_eq hx hb hd ht (fun h => kt (hi.mp h) H locs ls hP hD hS hl) (fun h => kf (fun b => h (hi.mpr b)) H locs ls hP hD hS hl)
theorem sx_icmp_eq (hG : sx_ok l X G cc own Ts rm) {x y : Int32} {off : Int} {tgt : Nat} {B : Prop} (hd : decode cc pc = .ok (.if_icmp .eq off, 3)) (ht : (pc : Int) + off = (tgt : Int)) (hi : (x = y) ↔ B) (kt : B → sx_W l X G kc ks (tgt) lv (st) ws) (kf : ¬ B → sx_W l X G kc ks (pc + 3) lv (st) ws) : sx_W l X G kc ks (pc) lv (.int y :: .int x :: st) ws := by
  obtain ⟨D, cI, tC, tA⟩ := X
  obtain ⟨p, e, R, s, m, args, below, meth, c, Q, A, nL⟩ := G
  obtain ⟨hx, hb, hml, hown, hts, hK, hA, rfl, hE⟩ := hG
  intro H locs ls hP hD hS hl
  exact lv_icmp_eq hx hb hd ht (fun h => kt (hi.mp h) H locs ls hP hD hS hl) (fun h => kf (fun b => h (hi.mpr b)) H locs ls hP hD hS hl)
theorem sx_if_ne (hG : sx_ok l X G cc own Ts rm) {x : Int32} {off : Int} {tgt : Nat} {B : Prop} (hd : decode cc pc = .ok (.ifCond .ne off, 3)) (ht : (pc : Int) + off = (tgt : Int)) (hi : (x = 0) ↔ B) (kt : ¬ B → sx_W l X G kc ks (tgt) lv (st) ws) (kf : B → sx_W l X G kc ks (pc + 3) lv (st) ws) : sx_W l X G kc ks (pc) lv (.int x :: st) ws := by
  obtain ⟨D, cI, tC, tA⟩ := X
  obtain ⟨p, e, R, s, m, args, below, meth, c, Q, A, nL⟩ := G
  obtain ⟨hx, hb, hml, hown, hts, hK, hA, rfl, hE⟩ := hG
  intro H locs ls hP hD hS hl
  exact lv_if_ne hx hb hd ht (fun h => kt (fun b => h (hi.mpr b)) H locs ls hP hD hS hl) (fun h => kf (hi.mp h) H locs ls hP hD hS hl)
theorem sx_icmp_ne (hG : sx_ok l X G cc own Ts rm) {x y : Int32} {off : Int} {tgt : Nat} {B : Prop} (hd : decode cc pc = .ok (.if_icmp .ne off, 3)) (ht : (pc : Int) + off = (tgt : Int)) (hi : (x = y) ↔ B) (kt : ¬ B → sx_W l X G kc ks (tgt) lv (st) ws) (kf : B → sx_W l X G kc ks (pc + 3) lv (st) ws) : sx_W l X G kc ks (pc) lv (.int y :: .int x :: st) ws := by
  obtain ⟨D, cI, tC, tA⟩ := X
  obtain ⟨p, e, R, s, m, args, below, meth, c, Q, A, nL⟩ := G
  obtain ⟨hx, hb, hml, hown, hts, hK, hA, rfl, hE⟩ := hG
  intro H locs ls hP hD hS hl
  exact lv_icmp_ne hx hb hd ht (fun h => kt (fun b => h (hi.mpr b)) H locs ls hP hD hS hl) (fun h => kf (hi.mp h) H locs ls hP hD hS hl)
theorem sx_if_lt (hG : sx_ok l X G cc own Ts rm) {x : Int32} {off : Int} {tgt : Nat} {B : Prop} (hd : decode cc pc = .ok (.ifCond .lt off, 3)) (ht : (pc : Int) + off = (tgt : Int)) (hi : (x < 0) ↔ B) (kt : B → sx_W l X G kc ks (tgt) lv (st) ws) (kf : ¬ B → sx_W l X G kc ks (pc + 3) lv (st) ws) : sx_W l X G kc ks (pc) lv (.int x :: st) ws := by
  obtain ⟨D, cI, tC, tA⟩ := X
  obtain ⟨p, e, R, s, m, args, below, meth, c, Q, A, nL⟩ := G
  obtain ⟨hx, hb, hml, hown, hts, hK, hA, rfl, hE⟩ := hG
  intro H locs ls hP hD hS hl
  exact lv_if_lt hx hb hd ht (fun h => kt (hi.mp h) H locs ls hP hD hS hl) (fun h => kf (fun b => h (hi.mpr b)) H locs ls hP hD hS hl)
theorem sx_icmp_lt (hG : sx_ok l X G cc own Ts rm) {x y : Int32} {off : Int} {tgt : Nat} {B : Prop} (hd : decode cc pc = .ok (.if_icmp .lt off, 3)) (ht : (pc : Int) + off = (tgt : Int)) (hi : (x < y) ↔ B) (kt : B → sx_W l X G kc ks (tgt) lv (st) ws) (kf : ¬ B → sx_W l X G kc ks (pc + 3) lv (st) ws) : sx_W l X G kc ks (pc) lv (.int y :: .int x :: st) ws := by
  obtain ⟨D, cI, tC, tA⟩ := X
  obtain ⟨p, e, R, s, m, args, below, meth, c, Q, A, nL⟩ := G
  obtain ⟨hx, hb, hml, hown, hts, hK, hA, rfl, hE⟩ := hG
  intro H locs ls hP hD hS hl
  exact lv_icmp_lt hx hb hd ht (fun h => kt (hi.mp h) H locs ls hP hD hS hl) (fun h => kf (fun b => h (hi.mpr b)) H locs ls hP hD hS hl)
theorem sx_if_ge (hG : sx_ok l X G cc own Ts rm) {x : Int32} {off : Int} {tgt : Nat} {B : Prop} (hd : decode cc pc = .ok (.ifCond .ge off, 3)) (ht : (pc : Int) + off = (tgt : Int)) (hi : (0 ≤ x) ↔ B) (kt : B → sx_W l X G kc ks (tgt) lv (st) ws) (kf : ¬ B → sx_W l X G kc ks (pc + 3) lv (st) ws) : sx_W l X G kc ks (pc) lv (.int x :: st) ws := by
  obtain ⟨D, cI, tC, tA⟩ := X
  obtain ⟨p, e, R, s, m, args, below, meth, c, Q, A, nL⟩ := G
  obtain ⟨hx, hb, hml, hown, hts, hK, hA, rfl, hE⟩ := hG
  intro H locs ls hP hD hS hl
  exact lv_if_ge hx hb hd ht (fun h => kt (hi.mp h) H locs ls hP hD hS hl) (fun h => kf (fun b => h (hi.mpr b)) H locs ls hP hD hS hl)
theorem sx_icmp_ge (hG : sx_ok l X G cc own Ts rm) {x y : Int32} {off : Int} {tgt : Nat} {B : Prop} (hd : decode cc pc = .ok (.if_icmp .ge off, 3)) (ht : (pc : Int) + off = (tgt : Int)) (hi : (y ≤ x) ↔ B) (kt : B → sx_W l X G kc ks (tgt) lv (st) ws) (kf : ¬ B → sx_W l X G kc ks (pc + 3) lv (st) ws) : sx_W l X G kc ks (pc) lv (.int y :: .int x :: st) ws := by
  obtain ⟨D, cI, tC, tA⟩ := X
  obtain ⟨p, e, R, s, m, args, below, meth, c, Q, A, nL⟩ := G
  obtain ⟨hx, hb, hml, hown, hts, hK, hA, rfl, hE⟩ := hG
  intro H locs ls hP hD hS hl
  exact lv_icmp_ge hx hb hd ht (fun h => kt (hi.mp h) H locs ls hP hD hS hl) (fun h => kf (fun b => h (hi.mpr b)) H locs ls hP hD hS hl)
theorem sx_if_gt (hG : sx_ok l X G cc own Ts rm) {x : Int32} {off : Int} {tgt : Nat} {B : Prop} (hd : decode cc pc = .ok (.ifCond .gt off, 3)) (ht : (pc : Int) + off = (tgt : Int)) (hi : (0 < x) ↔ B) (kt : B → sx_W l X G kc ks (tgt) lv (st) ws) (kf : ¬ B → sx_W l X G kc ks (pc + 3) lv (st) ws) : sx_W l X G kc ks (pc) lv (.int x :: st) ws := by
  obtain ⟨D, cI, tC, tA⟩ := X
  obtain ⟨p, e, R, s, m, args, below, meth, c, Q, A, nL⟩ := G
  obtain ⟨hx, hb, hml, hown, hts, hK, hA, rfl, hE⟩ := hG
  intro H locs ls hP hD hS hl
  exact lv_if_gt hx hb hd ht (fun h => kt (hi.mp h) H locs ls hP hD hS hl) (fun h => kf (fun b => h (hi.mpr b)) H locs ls hP hD hS hl)
theorem sx_icmp_gt (hG : sx_ok l X G cc own Ts rm) {x y : Int32} {off : Int} {tgt : Nat} {B : Prop} (hd : decode cc pc = .ok (.if_icmp .gt off, 3)) (ht : (pc : Int) + off = (tgt : Int)) (hi : (y < x) ↔ B) (kt : B → sx_W l X G kc ks (tgt) lv (st) ws) (kf : ¬ B → sx_W l X G kc ks (pc + 3) lv (st) ws) : sx_W l X G kc ks (pc) lv (.int y :: .int x :: st) ws := by
  obtain ⟨D, cI, tC, tA⟩ := X
  obtain ⟨p, e, R, s, m, args, below, meth, c, Q, A, nL⟩ := G
  obtain ⟨hx, hb, hml, hown, hts, hK, hA, rfl, hE⟩ := hG
  intro H locs ls hP hD hS hl
  exact lv_icmp_gt hx hb hd ht (fun h => kt (hi.mp h) H locs ls hP hD hS hl) (fun h => kf (fun b => h (hi.mpr b)) H locs ls hP hD hS hl)
theorem sx_if_le (hG : sx_ok l X G cc own Ts rm) {x : Int32} {off : Int} {tgt : Nat} {B : Prop} (hd : decode cc pc = .ok (.ifCond .le off, 3)) (ht : (pc : Int) + off = (tgt : Int)) (hi : (x ≤ 0) ↔ B) (kt : B → sx_W l X G kc ks (tgt) lv (st) ws) (kf : ¬ B → sx_W l X G kc ks (pc + 3) lv (st) ws) : sx_W l X G kc ks (pc) lv (.int x :: st) ws := by
  obtain ⟨D, cI, tC, tA⟩ := X
  obtain ⟨p, e, R, s, m, args, below, meth, c, Q, A, nL⟩ := G
  obtain ⟨hx, hb, hml, hown, hts, hK, hA, rfl, hE⟩ := hG
  intro H locs ls hP hD hS hl
  exact lv_if_le hx hb hd ht (fun h => kt (hi.mp h) H locs ls hP hD hS hl) (fun h => kf (fun b => h (hi.mpr b)) H locs ls hP hD hS hl)
theorem sx_icmp_le (hG : sx_ok l X G cc own Ts rm) {x y : Int32} {off : Int} {tgt : Nat} {B : Prop} (hd : decode cc pc = .ok (.if_icmp .le off, 3)) (ht : (pc : Int) + off = (tgt : Int)) (hi : (x ≤ y) ↔ B) (kt : B → sx_W l X G kc ks (tgt) lv (st) ws) (kf : ¬ B → sx_W l X G kc ks (pc + 3) lv (st) ws) : sx_W l X G kc ks (pc) lv (.int y :: .int x :: st) ws := by
  obtain ⟨D, cI, tC, tA⟩ := X
  obtain ⟨p, e, R, s, m, args, below, meth, c, Q, A, nL⟩ := G
  obtain ⟨hx, hb, hml, hown, hts, hK, hA, rfl, hE⟩ := hG
  intro H locs ls hP hD hS hl
  exact lv_icmp_le hx hb hd ht (fun h => kt (hi.mp h) H locs ls hP hD hS hl) (fun h => kf (fun b => h (hi.mpr b)) H locs ls hP hD hS hl)
theorem sx_goto (hG : sx_ok l X G cc own Ts rm) {off : Int} {tgt : Nat} (hd : decode cc pc = .ok (.goto off, 3)) (ht : (pc : Int) + off = (tgt : Int)) (kk : sx_W l X G kc ks (tgt) lv (st) ws) : sx_W l X G kc ks (pc) lv (st) ws := by
  obtain ⟨D, cI, tC, tA⟩ := X
  obtain ⟨p, e, R, s, m, args, below, meth, c, Q, A, nL⟩ := G
  obtain ⟨hx, hb, hml, hown, hts, hK, hA, rfl, hE⟩ := hG
  intro H locs ls hP hD hS hl
  exact lv_goto hx hb hd ht (kk H locs ls hP hD hS hl)
theorem sx_tswOut (hG : sx_ok l X G cc own Ts rm) {dflt lo hi : Int} {offs : Array Int} {len : Nat} {x : Int32} {tgt : Nat} (hd : decode cc pc = .ok (.tableswitch dflt lo hi offs, len)) (h : x.toInt < lo ∨ hi < x.toInt) (ht : (pc : Int) + dflt = (tgt : Int)) (kk : sx_W l X G kc ks (tgt) lv (st) ws) : sx_W l X G kc ks (pc) lv (.int x :: st) ws := by
  obtain ⟨D, cI, tC, tA⟩ := X
  obtain ⟨p, e, R, s, m, args, below, meth, c, Q, A, nL⟩ := G
  obtain ⟨hx, hb, hml, hown, hts, hK, hA, rfl, hE⟩ := hG
  intro H locs ls hP hD hS hl
  exact lv_tableOut hx hb hd h ht (kk H locs ls hP hD hS hl)
theorem sx_tswIn (hG : sx_ok l X G cc own Ts rm) {dflt lo hi off : Int} {offs : Array Int} {len : Nat} {x : Int32} {tgt : Nat} (hd : decode cc pc = .ok (.tableswitch dflt lo hi offs, len)) (h1 : ¬ x.toInt < lo) (h2 : ¬ hi < x.toInt) (ho : offs[(x.toInt - lo).toNat]? = some off) (ht : (pc : Int) + off = (tgt : Int)) (kk : sx_W l X G kc ks (tgt) lv (st) ws) : sx_W l X G kc ks (pc) lv (.int x :: st) ws := by
  obtain ⟨D, cI, tC, tA⟩ := X
  obtain ⟨p, e, R, s, m, args, below, meth, c, Q, A, nL⟩ := G
  obtain ⟨hx, hb, hml, hown, hts, hK, hA, rfl, hE⟩ := hG
  intro H locs ls hP hD hS hl
  exact lv_tableIn hx hb hd h1 h2 ho ht (kk H locs ls hP hD hS hl)
theorem sx_lookup (hG : sx_ok l X G cc own Ts rm) {dflt off : Int} {ps : Array (Int × Int)} {len : Nat} {x : Int32} {tgt : Nat} (hd : decode cc pc = .ok (.lookupswitch dflt ps, len)) (hp : (ps.toList.zip (ps.toList.drop 1)).all (fun (a, next) => a.1 < next.1) = true) (ho : Op.lookupswitch.offset ps.toList dflt x.toInt = off) (ht : (pc : Int) + off = (tgt : Int)) (kk : sx_W l X G kc ks (tgt) lv (st) ws) : sx_W l X G kc ks (pc) lv (.int x :: st) ws := by
  obtain ⟨D, cI, tC, tA⟩ := X
  obtain ⟨p, e, R, s, m, args, below, meth, c, Q, A, nL⟩ := G
  obtain ⟨hx, hb, hml, hown, hts, hK, hA, rfl, hE⟩ := hG
  intro H locs ls hP hD hS hl
  exact lv_lookup hx hb hd hp ho ht (kk H locs ls hP hD hS hl)
theorem sx_get (hG : sx_ok l X G cc own Ts rm) {C : String} {T : u_T} {N ci index : Nat} (hin : ∀ w ∈ u_ws C T N, w ∈ Ts) (k : Nat) (hfl : Cond.fieldLink own index (T k).1 (T k).2.1 (T k).2.2.1 ∈ Ts) (hd : decode cc pc = .ok (.getfield index, 3)) (hc : vwCl[ci]? = some (C, T, N)) (hk : k < N) (q0 : Nat) {a : Nat} {fs : List Value} (he : ws[q0]? = some (a, .inr (ci, fs))) {v v2 : Value} (hv : fs[k]? = some v) (hv2 : v = v2) (kk : sx_W l X G kc ks (pc + 3) lv (v2 :: st) ws) : sx_W l X G kc ks (pc) lv (.ref a :: st) ws := by
  obtain ⟨D, cI, tC, tA⟩ := X
  obtain ⟨p, e, R, s, m, args, below, meth, c, Q, A, nL⟩ := G
  obtain ⟨hx, hb, hml, hown, hts, hK, hA, rfl, hE⟩ := hG
  intro H locs ls hP hD hS hl
  subst hv2; exact va_get hx hb hts hin hown hK hP q0 he hc k hk (hts _ hfl) (fun _ h => h) hv hd (kk H locs ls hP hD hS hl)
theorem sx_getN (hG : sx_ok l X G cc own Ts rm) {C : String} {T : u_T} {N ci index : Nat} {host : String} (hin : ∀ w ∈ u_ws C T N, w ∈ Ts) (k : Nat) (hfl : Cond.fieldLinkNest own index (T k).1 (T k).2.1 (T k).2.2.1 host ∈ sx_nest) (hd : decode cc pc = .ok (.getfield index, 3)) (hc : vwCl[ci]? = some (C, T, N)) (hk : k < N) (q0 : Nat) {a : Nat} {fs : List Value} (he : ws[q0]? = some (a, .inr (ci, fs))) {v v2 : Value} (hv : fs[k]? = some v) (hv2 : v = v2) (kk : sx_W l X G kc ks (pc + 3) lv (v2 :: st) ws) : sx_W l X G kc ks (pc) lv (.ref a :: st) ws := by
  obtain ⟨D, cI, tC, tA⟩ := X
  obtain ⟨p, e, R, s, m, args, below, meth, c, Q, A, nL⟩ := G
  obtain ⟨hx, hb, hml, hown, hts, hK, hA, rfl, hE⟩ := hG
  intro H locs ls hP hD hS hl
  subst hv2; exact va_getN hx hb hts hin hown hK hP q0 he hc k hk (va_Nw.use rfl (hE.1 _ hfl)) (fun _ h => h) hv hd (kk H locs ls hP hD hS hl)
theorem sx_put (hG : sx_ok l X G cc own Ts rm) {C : String} {T : u_T} {N ci index : Nat} (hin : ∀ w ∈ u_ws C T N, w ∈ Ts) (ty0 : Nat → FieldType) (hty : ∀ k, k < N → parseFieldDescriptor (T k).2.2.1 = some (ty0 k)) (hnm : ∀ a, a < N → ∀ b, b < N → a ≠ b → (T a).2.1 ≠ (T b).2.1) (k : Nat) (hfl : Cond.fieldLink own index (T k).1 (T k).2.1 (T k).2.2.1 ∈ Ts) (hd : decode cc pc = .ok (.putfield index, 3)) (hc : vwCl[ci]? = some (C, T, N)) (hk : k < N) (q0 : Nat) {a : Nat} {fs : List Value} (he : ws[q0]? = some (a, .inr (ci, fs))) {v : Value} {w2 : va_W} (hfin : (T k).2.2.2 = false) (hn : narrow (ty0 k) v = v) (hfit : fits (ty0 k) v = true) (hl2 : k < fs.length) (hw : ws.set q0 (a, .inr (ci, fs.set k v)) = w2) (kk : sx_W l X G kc ks (pc + 3) lv (st) w2) : sx_W l X G kc ks (pc) lv (v :: .ref a :: st) ws := by
  obtain ⟨D, cI, tC, tA⟩ := X
  obtain ⟨p, e, R, s, m, args, below, meth, c, Q, A, nL⟩ := G
  obtain ⟨hx, hb, hml, hown, hts, hK, hA, rfl, hE⟩ := hG
  intro H locs ls hP hD hS hl
  subst hw; exact va_put hx hb hts hin ty0 hty hnm hown hK hP hD hS q0 he hc k hk (hts _ hfl) (fun _ h => h) hfin (hty k hk) hn hfit hl2 hd (fun H1 locs1 hP1 hD1 hS1 => kk H1 locs1 ls hP1 hD1 hS1 hl)
theorem sx_putF (hG : sx_ok l X G cc own Ts rm) {C : String} {T : u_T} {N ci index : Nat} (hin : ∀ w ∈ u_ws C T N, w ∈ Ts) (ty0 : Nat → FieldType) (hty : ∀ k, k < N → parseFieldDescriptor (T k).2.2.1 = some (ty0 k)) (hnm : ∀ a, a < N → ∀ b, b < N → a ≠ b → (T a).2.1 ≠ (T b).2.1) (k : Nat) (hfl : Cond.fieldLink own index (T k).1 (T k).2.1 (T k).2.2.1 ∈ Ts) (hd : decode cc pc = .ok (.putfield index, 3)) (hc : vwCl[ci]? = some (C, T, N)) (hk : k < N) (q0 : Nat) {a : Nat} {fs : List Value} (he : ws[q0]? = some (a, .inr (ci, fs))) {v : Value} {w2 : va_W} (hfin : (T k).2.2.2 = true) (hini : G.2.2.2.2.2.2.2.1.name = "<init>") (hdecl : (T k).1 = own) (hn : narrow (ty0 k) v = v) (hfit : fits (ty0 k) v = true) (hl2 : k < fs.length) (hw : ws.set q0 (a, .inr (ci, fs.set k v)) = w2) (kk : sx_W l X G kc ks (pc + 3) lv (st) w2) : sx_W l X G kc ks (pc) lv (v :: .ref a :: st) ws := by
  obtain ⟨D, cI, tC, tA⟩ := X
  obtain ⟨p, e, R, s, m, args, below, meth, c, Q, A, nL⟩ := G
  obtain ⟨hx, hb, hml, hown, hts, hK, hA, rfl, hE⟩ := hG
  intro H locs ls hP hD hS hl
  subst hw; exact va_putF hx hb hts hin ty0 hty hnm hown hK hP hD hS q0 he hc k hk (hts _ hfl) (fun _ h => h) hfin hini hdecl (hty k hk) hn hfit hl2 hd (fun H1 locs1 hP1 hD1 hS1 => kk H1 locs1 ls hP1 hD1 hS1 hl)
theorem sx_iald (hG : sx_ok l X G cc own Ts rm) (q0 : Nat) {a n k : Nat} {f : Nat → Int32} {v : Int32} (hd : decode cc pc = .ok (.iaload, 1)) (ha : ws[q0]? = some (a, .inl (X.2.1, n, .inl f))) (hn : n < 2 ^ 31) (hk : k < n) (hv : f k = v) (kk : sx_W l X G kc ks (pc + 1) lv (.int v :: st) ws) : sx_W l X G kc ks (pc) lv (.int (nI k) :: .ref a :: st) ws := by
  obtain ⟨D, cI, tC, tA⟩ := X
  obtain ⟨p, e, R, s, m, args, below, meth, c, Q, A, nL⟩ := G
  obtain ⟨hx, hb, hml, hown, hts, hK, hA, rfl, hE⟩ := hG
  intro H locs ls hP hD hS hl
  exact va_iald hx hb hK hP q0 0 ha rfl (vp_in_nI hk hn) hd (by rw [nI_clamp (Nat.lt_trans hk hn), hv]; exact kk H locs ls hP hD hS hl)
theorem sx_iast (hG : sx_ok l X G cc own Ts rm) (q0 : Nat) {a n k : Nat} {f : Nat → Int32} {x : Int32} {w2 : va_W} (hd : decode cc pc = .ok (.iastore, 1)) (ha : ws[q0]? = some (a, .inl (X.2.1, n, .inl f))) (hn : n < 2 ^ 31) (hk : k < n) (hw : ws.set q0 (a, .inl (X.2.1, n, .inl (upd f k x))) = w2) (kk : sx_W l X G kc ks (pc + 1) lv (st) w2) : sx_W l X G kc ks (pc) lv (.int x :: .int (nI k) :: .ref a :: st) ws := by
  obtain ⟨D, cI, tC, tA⟩ := X
  obtain ⟨p, e, R, s, m, args, below, meth, c, Q, A, nL⟩ := G
  obtain ⟨hx, hb, hml, hown, hts, hK, hA, rfl, hE⟩ := hG
  intro H locs ls hP hD hS hl
  subst hw; exact va_iast hx hb hK hP hD hS q0 0 ha rfl (vp_in_nI hk hn) hd (fun H1 locs1 hP1 hD1 hS1 => by rw [nI_clamp (Nat.lt_trans hk hn)] at hP1 hD1; exact kk H1 locs1 ls hP1 hD1 hS1 hl)
theorem sx_iastN (hG : sx_ok l X G cc own Ts rm) (q0 : Nat) {a n k x : Nat} {f : Nat → Nat} {w2 : va_W} (hd : decode cc pc = .ok (.iastore, 1)) (ha : ws[q0]? = some (a, .inl (X.2.1, n, .inl (fun j => nI (f j))))) (hn : n < 2 ^ 31) (hk : k < n) (hw : ws.set q0 (a, .inl (X.2.1, n, .inl (fun j => nI (va_up f k x j)))) = w2) (kk : sx_W l X G kc ks (pc + 1) lv (st) w2) : sx_W l X G kc ks (pc) lv (.int (nI x) :: .int (nI k) :: .ref a :: st) ws := by
  obtain ⟨D, cI, tC, tA⟩ := X
  obtain ⟨p, e, R, s, m, args, below, meth, c, Q, A, nL⟩ := G
  obtain ⟨hx, hb, hml, hown, hts, hK, hA, rfl, hE⟩ := hG
  intro H locs ls hP hD hS hl
  subst hw; exact va_iast hx hb hK hP hD hS q0 0 ha rfl (vp_in_nI hk hn) hd (fun H1 locs1 hP1 hD1 hS1 => by rw [nI_clamp (Nat.lt_trans hk hn), sx_updN] at hP1 hD1; exact kk H1 locs1 ls hP1 hD1 hS1 hl)
theorem sx_alen (hG : sx_ok l X G cc own Ts rm) (q0 : Nat) {a n : Nat} {f : Nat → Int32} (hd : decode cc pc = .ok (.arraylength, 1)) (ha : ws[q0]? = some (a, .inl (X.2.1, n, .inl f))) (kk : sx_W l X G kc ks (pc + 1) lv (.int (nI n) :: st) ws) : sx_W l X G kc ks (pc) lv (.ref a :: st) ws := by
  obtain ⟨D, cI, tC, tA⟩ := X
  obtain ⟨p, e, R, s, m, args, below, meth, c, Q, A, nL⟩ := G
  obtain ⟨hx, hb, hml, hown, hts, hK, hA, rfl, hE⟩ := hG
  intro H locs ls hP hD hS hl
  exact va_alen hx hb hK hP q0 0 ha rfl rfl hd (kk H locs ls hP hD hS hl)
theorem sx_top {x y : Int32} (h : x = y) (kk : sx_W l X G kc ks pc lv (.int y :: st) ws) : sx_W l X G kc ks pc lv (.int x :: st) ws := by subst h; exact kk
theorem sx_weq {w2 : va_W} (h : ws = w2) (kk : sx_W l X G kc ks pc lv st w2) : sx_W l X G kc ks pc lv st ws := by subst h; exact kk
theorem sx_lsub {lv2 : List (Nat × Value)} (ks2 : List Nat) (h : lv_pick lv ks2 = lv2) (kk : sx_W l X G kc ks pc lv2 st ws) : sx_W l X G kc ks pc lv st ws := by
  obtain ⟨D, cI, tC, tA⟩ := X
  obtain ⟨p, e, R, s, m, args, below, meth, c, Q, A, nL⟩ := G
  intro H locs ls hP hD hS hl
  exact kk H locs ls hP hD hS (lv_sub hl ks2 h)
theorem sx_widen {k2 n2 : Nat} (h1 : kc ≤ k2) (h2 : ks ≤ n2) (kk : sx_W l X G k2 n2 pc lv st ws) : sx_W l X G kc ks pc lv st ws := by
  obtain ⟨D, cI, tC, tA⟩ := X
  obtain ⟨p, e, R, s, m, args, below, meth, c, Q, A, nL⟩ := G
  intro H locs ls hP hD hS hl
  exact W.widen h1 h2 (kk H locs ls hP hD hS hl)
theorem sx_wsub {w2 : va_W} (is : List Nat) (hn : va_nd is = true) (h : is.map (fun i => ws[i]?) = w2.map some) (kk : sx_W l X G kc ks pc lv st w2) : sx_W l X G kc ks pc lv st ws := by
  obtain ⟨D, cI, tC, tA⟩ := X
  obtain ⟨p, e, R, s, m, args, below, meth, c, Q, A, nL⟩ := G
  intro H locs ls hP hD hS hl
  refine kk H locs ls (hP.sub is ?_) (hD.sub is hn h) hS hl
  have e1 : is.filterMap (fun i => ws[i]?) = (is.map (fun i => ws[i]?)).filterMap id := by rw [List.filterMap_map]; rfl
  rw [e1, h, List.filterMap_map]
  simp
theorem sx_mmax (hG : sx_ok l X G cc own Ts rm) {x y v : Int32} {index : Nat} (hm : Cond.methodLink own index Lib.Math.max.name ∈ Ts ∧ Cond.static Lib.Math.max.name ∈ Ts ∧ Cond.initialized "java/lang/Math" ∈ Ts ∧ Cond.code Lib.Math.max.name Lib.Math.max.code 2 (some .int) ∈ Ts) (hd : decode cc pc = .ok (.invokestatic index, 3)) (hr1 : 1 ≤ rm.frames) (hr2 : (st.map fun v => v.category).sum + 13 ≤ rm.locals) (hr3 : kc ≤ rm.cells) (hr4 : ks ≤ rm.slots) (hv : (if x < y then y else x) = v) (kk : sx_W l X G kc ks (pc + 3) lv (.int v :: st) ws) : sx_W l X G kc ks (pc) lv (.int y :: .int x :: st) ws := by
  obtain ⟨D, cI, tC, tA⟩ := X
  obtain ⟨p, e, R, s, m, args, below, meth, c, Q, A, nL⟩ := G
  obtain ⟨hx, hb, hml, hown, hts, hK, hA, rfl, hE⟩ := hG
  intro H locs ls hP hD hS hl
  subst hv; exact va_mmax hx hb (by rw [hml]; exact hl.1.symm) hown (hts _ hm.1) (hts _ hm.2.1) (hts _ hm.2.2.1) (hts _ hm.2.2.2) hr1 hr2 hr3 hr4 hd (kk H locs ls hP hD hS hl)
theorem sx_mmin (hG : sx_ok l X G cc own Ts rm) {x y v : Int32} {index : Nat} (hm : Cond.methodLink own index Lib.Math.min.name ∈ Ts ∧ Cond.static Lib.Math.min.name ∈ Ts ∧ Cond.initialized "java/lang/Math" ∈ Ts ∧ Cond.code Lib.Math.min.name Lib.Math.min.code 2 (some .int) ∈ Ts) (hd : decode cc pc = .ok (.invokestatic index, 3)) (hr1 : 1 ≤ rm.frames) (hr2 : (st.map fun v => v.category).sum + 13 ≤ rm.locals) (hr3 : kc ≤ rm.cells) (hr4 : ks ≤ rm.slots) (hv : (if y < x then y else x) = v) (kk : sx_W l X G kc ks (pc + 3) lv (.int v :: st) ws) : sx_W l X G kc ks (pc) lv (.int y :: .int x :: st) ws := by
  obtain ⟨D, cI, tC, tA⟩ := X
  obtain ⟨p, e, R, s, m, args, below, meth, c, Q, A, nL⟩ := G
  obtain ⟨hx, hb, hml, hown, hts, hK, hA, rfl, hE⟩ := hG
  intro H locs ls hP hD hS hl
  subst hv; exact va_mmin hx hb (by rw [hml]; exact hl.1.symm) hown (hts _ hm.1) (hts _ hm.2.1) (hts _ hm.2.2.1) (hts _ hm.2.2.2) hr1 hr2 hr3 hr4 hd (kk H locs ls hP hD hS hl)
theorem sx_mabs (hG : sx_ok l X G cc own Ts rm) {x v : Int32} {index : Nat} (hm : Cond.methodLink own index Lib.Math.abs.name ∈ Ts ∧ Cond.static Lib.Math.abs.name ∈ Ts ∧ Cond.initialized "java/lang/Math" ∈ Ts ∧ Cond.code Lib.Math.abs.name Lib.Math.abs.code 1 (some .int) ∈ Ts) (hd : decode cc pc = .ok (.invokestatic index, 3)) (hr1 : 1 ≤ rm.frames) (hr2 : (st.map fun v => v.category).sum + 13 ≤ rm.locals) (hr3 : kc ≤ rm.cells) (hr4 : ks ≤ rm.slots) (hv : (if 0 ≤ x then x else 0 - x) = v) (kk : sx_W l X G kc ks (pc + 3) lv (.int v :: st) ws) : sx_W l X G kc ks (pc) lv (.int x :: st) ws := by
  obtain ⟨D, cI, tC, tA⟩ := X
  obtain ⟨p, e, R, s, m, args, below, meth, c, Q, A, nL⟩ := G
  obtain ⟨hx, hb, hml, hown, hts, hK, hA, rfl, hE⟩ := hG
  intro H locs ls hP hD hS hl
  subst hv; exact va_mabs hx hb (by rw [hml]; exact hl.1.symm) hown (hts _ hm.1) (hts _ hm.2.1) (hts _ hm.2.2.1) (hts _ hm.2.2.2) hr1 hr2 hr3 hr4 hd (kk H locs ls hP hD hS hl)
theorem sx_nd_range (n : Nat) : va_nd (List.range n) = true := by
  have key : ∀ l : List Nat, l.Nodup → va_nd l = true := by
    intro l
    induction l with
    | nil => intro _; rfl
    | cons a l ih =>
      intro h
      have h2 := List.nodup_cons.mp h
      simp [va_nd, h2.1, ih h2.2]
  exact key _ List.nodup_range
theorem sx_range {α : Type} (ws : List α) : (List.range ws.length).map (fun i => ws[i]?) = ws.map some := by
  apply List.ext_getElem?
  intro i
  by_cases h : i < ws.length
  · simp [h]
  · simp [h]
theorem sx_callVi (hG : sx_ok l X G cc own Ts rm) {y : MethodName} {wsY wsY2 : List Cond} {rmY : Room} {As : List Value} {post : Int32 → va_W → Prop} {mc ms index maxL n9 : Nat} {bytes : ByteArray} {ret : Option FieldType} {Wc wr : va_W} {b : Nat} {C : String} {ci : Nat} {fs : List Value} {q : vw_C} (hM : sx_Mi l y wsY rmY X (.ref b :: As) Wc post mc ms) (hg : GoodIn Ts (wsV own index C y wsY)) (hw : wsY = Cond.code y bytes maxL ret :: wsY2) (hd2 : y.cls = C ∧ y.cls ≠ "java/lang/invoke/MethodHandle" ∧ y.cls ≠ "java/lang/invoke/VarHandle" ∧ (parseMethodDescriptor y.desc).map (fun d => d.parameters.length) = some n9) (hn9 : As.length = n9) (q0 : Nat) (he : Wc[q0]? = some (b, .inr (ci, fs))) (hc : vwCl[ci]? = some q) (hq : q.1 = C) (hd : decode cc pc = .ok (.invokevirtual index, 3)) (hrm : rmY.cells = mc ∧ rmY.slots = ms) (hRm : rmY.frames + 1 ≤ rm.frames ∧ 8 + (maxL + 11) + rmY.locals ≤ rm.locals) (hst : (st.map fun v => v.category).sum ≤ 8) (hroom : kc + mc ≤ rm.cells ∧ ks + ms ≤ rm.slots) (isC isR : List Nat) (hC : isC.map (fun i => ws[i]?) = Wc.map some) (hR2 : isR.map (fun i => ws[i]?) = wr.map some) (hndC : va_nd isC = true) (hnd : va_nd isR = true) (hdis : ∀ i ∈ isR, i ∉ isC) (kk : ∀ (r : Int32) (w1 : va_W), post r w1 → sx_W l X G (kc + mc) (ks + ms) (pc + 3) lv (.int r :: st) (wr ++ w1)) : sx_W l X G kc ks (pc) lv (As.reverse ++ .ref b :: st) ws := by
  obtain ⟨D, cI, tC, tA⟩ := X
  obtain ⟨p, e, R, s, m, args, below, meth, c, Q, A, nL⟩ := G
  obtain ⟨hx, hb, hml, hown, hts, hK, hA, rfl, hE⟩ := hG
  intro H locs ls hP hD hS hl
  have hPc := hP.sub (ws' := Wc) isC (by
    have e1 : isC.filterMap (fun i => ws[i]?) = (isC.map (fun i => ws[i]?)).filterMap id := by rw [List.filterMap_map]; rfl
    rw [e1, hC, List.filterMap_map]; simp)
  have hFc := va_free (wc := Wc) hD hS hA isC hC
  have hEc : ∀ U : State, U.heap = H → s.WarmedH U.vm → sx_E (va_A Wc H.size) tC tA U U.heap := fun U hU hW => hE.to hW (fun q h1 h2 => by rw [hU]; exact hS.2.1 q h1 h2) hFc
  have hDt : va_D (fun _ => True) Wc := (hD.sub isC hndC hC).weaken (fun _ _ _ _ => trivial)
  refine va_calli (va_runV (As := As) (rest := st) ⟨hx, hb, hml, hown, hts⟩ (hM H.size) (cwV n9 hts hg hw hrm.1 hrm.2 hd2 hRm) ⟨sx_blind _ _ _ _, by have hz := va_recv hK hPc hc he; rw [hq] at hz; exact hz, fun U hU hW => ⟨rfl, by rw [hU], by rw [hU]; exact hPc, va_K.moved hW.alike hK, hDt, hEc U hU hW⟩⟩ rfl hn9 hl.1 rfl (lv_room hst) hd hroom) hS (fun q _ h => hFc q h) hFc (fun r w1 t H1 locs1 ht hvm hp hB hz1 hk1 hS1 => ?_)
  obtain ⟨hP1, hK1, hD1⟩ := hB
  rw [ht] at hP1
  obtain ⟨hP2, hD2⟩ := va_join (wr := wr) (w1 := w1) hP hD isC isR hC hR2 hnd hdis hk1 hFc hP1 hD1
  exact kk r w1 hp H1 locs1 ls hP2 hD2 hS1 hl
theorem sx_callViw (hG : sx_ok l X G cc own Ts rm) {y : MethodName} {wsY wsY2 : List Cond} {rmY : Room} {As : List Value} {post : Int32 → va_W → Prop} {mc ms index maxL n9 : Nat} {bytes : ByteArray} {ret : Option FieldType} {b : Nat} {C : String} {ci : Nat} {fs : List Value} {q : vw_C} (hM : sx_Mi l y wsY rmY X (.ref b :: As) ws post mc ms) (hg : GoodIn Ts (wsV own index C y wsY)) (hw : wsY = Cond.code y bytes maxL ret :: wsY2) (hd2 : y.cls = C ∧ y.cls ≠ "java/lang/invoke/MethodHandle" ∧ y.cls ≠ "java/lang/invoke/VarHandle" ∧ (parseMethodDescriptor y.desc).map (fun d => d.parameters.length) = some n9) (hn9 : As.length = n9) (q0 : Nat) (he : ws[q0]? = some (b, .inr (ci, fs))) (hc : vwCl[ci]? = some q) (hq : q.1 = C) (hd : decode cc pc = .ok (.invokevirtual index, 3)) (hrm : rmY.cells = mc ∧ rmY.slots = ms) (hRm : rmY.frames + 1 ≤ rm.frames ∧ 8 + (maxL + 11) + rmY.locals ≤ rm.locals) (hst : (st.map fun v => v.category).sum ≤ 8) (hroom : kc + mc ≤ rm.cells ∧ ks + ms ≤ rm.slots) (kk : ∀ (r : Int32) (w1 : va_W), post r w1 → sx_W l X G (kc + mc) (ks + ms) (pc + 3) lv (.int r :: st) w1) : sx_W l X G kc ks (pc) lv (As.reverse ++ .ref b :: st) ws :=
  sx_callVi hG hM hg hw hd2 hn9 q0 he hc hq hd hrm hRm hst hroom (Wc := ws) (wr := []) (List.range ws.length) [] (sx_range ws) rfl (sx_nd_range _) rfl (fun i h => by cases h) (fun r w1 hp => kk r w1 hp)
theorem sx_callVv (hG : sx_ok l X G cc own Ts rm) {y : MethodName} {wsY wsY2 : List Cond} {rmY : Room} {As : List Value} {post : va_W → Prop} {mc ms index maxL n9 : Nat} {bytes : ByteArray} {ret : Option FieldType} {Wc wr : va_W} {b : Nat} {C : String} {ci : Nat} {fs : List Value} {q : vw_C} (hM : sx_Mv l y wsY rmY X (.ref b :: As) Wc post mc ms) (hg : GoodIn Ts (wsV own index C y wsY)) (hw : wsY = Cond.code y bytes maxL ret :: wsY2) (hd2 : y.cls = C ∧ y.cls ≠ "java/lang/invoke/MethodHandle" ∧ y.cls ≠ "java/lang/invoke/VarHandle" ∧ (parseMethodDescriptor y.desc).map (fun d => d.parameters.length) = some n9) (hn9 : As.length = n9) (q0 : Nat) (he : Wc[q0]? = some (b, .inr (ci, fs))) (hc : vwCl[ci]? = some q) (hq : q.1 = C) (hd : decode cc pc = .ok (.invokevirtual index, 3)) (hrm : rmY.cells = mc ∧ rmY.slots = ms) (hRm : rmY.frames + 1 ≤ rm.frames ∧ 8 + (maxL + 11) + rmY.locals ≤ rm.locals) (hst : (st.map fun v => v.category).sum ≤ 8) (hroom : kc + mc ≤ rm.cells ∧ ks + ms ≤ rm.slots) (isC isR : List Nat) (hC : isC.map (fun i => ws[i]?) = Wc.map some) (hR2 : isR.map (fun i => ws[i]?) = wr.map some) (hndC : va_nd isC = true) (hnd : va_nd isR = true) (hdis : ∀ i ∈ isR, i ∉ isC) (kk : ∀ (w1 : va_W), post w1 → sx_W l X G (kc + mc) (ks + ms) (pc + 3) lv (st) (wr ++ w1)) : sx_W l X G kc ks (pc) lv (As.reverse ++ .ref b :: st) ws := by
  obtain ⟨D, cI, tC, tA⟩ := X
  obtain ⟨p, e, R, s, m, args, below, meth, c, Q, A, nL⟩ := G
  obtain ⟨hx, hb, hml, hown, hts, hK, hA, rfl, hE⟩ := hG
  intro H locs ls hP hD hS hl
  have hPc := hP.sub (ws' := Wc) isC (by
    have e1 : isC.filterMap (fun i => ws[i]?) = (isC.map (fun i => ws[i]?)).filterMap id := by rw [List.filterMap_map]; rfl
    rw [e1, hC, List.filterMap_map]; simp)
  have hFc := va_free (wc := Wc) hD hS hA isC hC
  have hEc : ∀ U : State, U.heap = H → s.WarmedH U.vm → sx_E (va_A Wc H.size) tC tA U U.heap := fun U hU hW => hE.to hW (fun q h1 h2 => by rw [hU]; exact hS.2.1 q h1 h2) hFc
  have hDt : va_D (fun _ => True) Wc := (hD.sub isC hndC hC).weaken (fun _ _ _ _ => trivial)
  refine va_callv (va_runV (As := As) (rest := st) ⟨hx, hb, hml, hown, hts⟩ (hM H.size) (cwV n9 hts hg hw hrm.1 hrm.2 hd2 hRm) ⟨sx_blind _ _ _ _, by have hz := va_recv hK hPc hc he; rw [hq] at hz; exact hz, fun U hU hW => ⟨rfl, by rw [hU], by rw [hU]; exact hPc, va_K.moved hW.alike hK, hDt, hEc U hU hW⟩⟩ rfl hn9 hl.1 rfl (lv_room hst) hd hroom) hS (fun q _ h => hFc q h) hFc (fun w1 t H1 locs1 ht hvm hp hB hz1 hk1 hS1 => ?_)
  obtain ⟨hP1, hK1, hD1⟩ := hB
  rw [ht] at hP1
  obtain ⟨hP2, hD2⟩ := va_join (wr := wr) (w1 := w1) hP hD isC isR hC hR2 hnd hdis hk1 hFc hP1 hD1
  exact kk w1 hp H1 locs1 ls hP2 hD2 hS1 hl
theorem sx_callVvw (hG : sx_ok l X G cc own Ts rm) {y : MethodName} {wsY wsY2 : List Cond} {rmY : Room} {As : List Value} {post : va_W → Prop} {mc ms index maxL n9 : Nat} {bytes : ByteArray} {ret : Option FieldType} {b : Nat} {C : String} {ci : Nat} {fs : List Value} {q : vw_C} (hM : sx_Mv l y wsY rmY X (.ref b :: As) ws post mc ms) (hg : GoodIn Ts (wsV own index C y wsY)) (hw : wsY = Cond.code y bytes maxL ret :: wsY2) (hd2 : y.cls = C ∧ y.cls ≠ "java/lang/invoke/MethodHandle" ∧ y.cls ≠ "java/lang/invoke/VarHandle" ∧ (parseMethodDescriptor y.desc).map (fun d => d.parameters.length) = some n9) (hn9 : As.length = n9) (q0 : Nat) (he : ws[q0]? = some (b, .inr (ci, fs))) (hc : vwCl[ci]? = some q) (hq : q.1 = C) (hd : decode cc pc = .ok (.invokevirtual index, 3)) (hrm : rmY.cells = mc ∧ rmY.slots = ms) (hRm : rmY.frames + 1 ≤ rm.frames ∧ 8 + (maxL + 11) + rmY.locals ≤ rm.locals) (hst : (st.map fun v => v.category).sum ≤ 8) (hroom : kc + mc ≤ rm.cells ∧ ks + ms ≤ rm.slots) (kk : ∀ (w1 : va_W), post w1 → sx_W l X G (kc + mc) (ks + ms) (pc + 3) lv (st) w1) : sx_W l X G kc ks (pc) lv (As.reverse ++ .ref b :: st) ws :=
  sx_callVv hG hM hg hw hd2 hn9 q0 he hc hq hd hrm hRm hst hroom (Wc := ws) (wr := []) (List.range ws.length) [] (sx_range ws) rfl (sx_nd_range _) rfl (fun i h => by cases h) (fun w1 hp => kk w1 hp)
theorem sx_callSi (hG : sx_ok l X G cc own Ts rm) {y : MethodName} {wsY wsY2 : List Cond} {rmY : Room} {As : List Value} {post : Int32 → va_W → Prop} {mc ms index maxL n9 : Nat} {bytes : ByteArray} {ret : Option FieldType} {Wc wr : va_W} (hM : sx_Mi l y wsY rmY X As Wc post mc ms) (hg : GoodIn Ts (va_wsS own index y wsY)) (hw : wsY = Cond.code y bytes maxL ret :: wsY2) (hd2 : y.cls ≠ "java/lang/invoke/MethodHandle" ∧ y.cls ≠ "java/lang/invoke/VarHandle" ∧ (parseMethodDescriptor y.desc).map (fun d => d.parameters.length) = some n9) (hn9 : As.length = n9) (hd : decode cc pc = .ok (.invokestatic index, 3)) (hrm : rmY.cells = mc ∧ rmY.slots = ms) (hRm : rmY.frames + 1 ≤ rm.frames ∧ 8 + (maxL + 11) + rmY.locals ≤ rm.locals) (hst : (st.map fun v => v.category).sum ≤ 8) (hroom : kc + mc ≤ rm.cells ∧ ks + ms ≤ rm.slots) (isC isR : List Nat) (hC : isC.map (fun i => ws[i]?) = Wc.map some) (hR2 : isR.map (fun i => ws[i]?) = wr.map some) (hndC : va_nd isC = true) (hnd : va_nd isR = true) (hdis : ∀ i ∈ isR, i ∉ isC) (kk : ∀ (r : Int32) (w1 : va_W), post r w1 → sx_W l X G (kc + mc) (ks + ms) (pc + 3) lv (.int r :: st) (wr ++ w1)) : sx_W l X G kc ks (pc) lv (As.reverse ++ st) ws := by
  obtain ⟨D, cI, tC, tA⟩ := X
  obtain ⟨p, e, R, s, m, args, below, meth, c, Q, A, nL⟩ := G
  obtain ⟨hx, hb, hml, hown, hts, hK, hA, rfl, hE⟩ := hG
  intro H locs ls hP hD hS hl
  have hPc := hP.sub (ws' := Wc) isC (by
    have e1 : isC.filterMap (fun i => ws[i]?) = (isC.map (fun i => ws[i]?)).filterMap id := by rw [List.filterMap_map]; rfl
    rw [e1, hC, List.filterMap_map]; simp)
  have hFc := va_free (wc := Wc) hD hS hA isC hC
  have hEc : ∀ U : State, U.heap = H → s.WarmedH U.vm → sx_E (va_A Wc H.size) tC tA U U.heap := fun U hU hW => hE.to hW (fun q h1 h2 => by rw [hU]; exact hS.2.1 q h1 h2) hFc
  have hDt : va_D (fun _ => True) Wc := (hD.sub isC hndC hC).weaken (fun _ _ _ _ => trivial)
  refine va_calli (va_runS (As := As) (rest := st) ⟨hx, hb, hml, hown, hts⟩ (hM H.size) (va_cwS n9 hts hg hw hrm.1 hrm.2 hd2 hRm) ⟨sx_blind _ _ _ _, fun U hU hW => ⟨rfl, by rw [hU], by rw [hU]; exact hPc, va_K.moved hW.alike hK, hDt, hEc U hU hW⟩⟩ rfl hn9 hl.1 rfl (lv_room hst) hd hroom) hS (fun q _ h => hFc q h) hFc (fun r w1 t H1 locs1 ht hvm hp hB hz1 hk1 hS1 => ?_)
  obtain ⟨hP1, hK1, hD1⟩ := hB
  rw [ht] at hP1
  obtain ⟨hP2, hD2⟩ := va_join (wr := wr) (w1 := w1) hP hD isC isR hC hR2 hnd hdis hk1 hFc hP1 hD1
  exact kk r w1 hp H1 locs1 ls hP2 hD2 hS1 hl
theorem sx_callSiw (hG : sx_ok l X G cc own Ts rm) {y : MethodName} {wsY wsY2 : List Cond} {rmY : Room} {As : List Value} {post : Int32 → va_W → Prop} {mc ms index maxL n9 : Nat} {bytes : ByteArray} {ret : Option FieldType} (hM : sx_Mi l y wsY rmY X As ws post mc ms) (hg : GoodIn Ts (va_wsS own index y wsY)) (hw : wsY = Cond.code y bytes maxL ret :: wsY2) (hd2 : y.cls ≠ "java/lang/invoke/MethodHandle" ∧ y.cls ≠ "java/lang/invoke/VarHandle" ∧ (parseMethodDescriptor y.desc).map (fun d => d.parameters.length) = some n9) (hn9 : As.length = n9) (hd : decode cc pc = .ok (.invokestatic index, 3)) (hrm : rmY.cells = mc ∧ rmY.slots = ms) (hRm : rmY.frames + 1 ≤ rm.frames ∧ 8 + (maxL + 11) + rmY.locals ≤ rm.locals) (hst : (st.map fun v => v.category).sum ≤ 8) (hroom : kc + mc ≤ rm.cells ∧ ks + ms ≤ rm.slots) (kk : ∀ (r : Int32) (w1 : va_W), post r w1 → sx_W l X G (kc + mc) (ks + ms) (pc + 3) lv (.int r :: st) w1) : sx_W l X G kc ks (pc) lv (As.reverse ++ st) ws :=
  sx_callSi hG hM hg hw hd2 hn9 hd hrm hRm hst hroom (Wc := ws) (wr := []) (List.range ws.length) [] (sx_range ws) rfl (sx_nd_range _) rfl (fun i h => by cases h) (fun r w1 hp => kk r w1 hp)
theorem sx_callSv (hG : sx_ok l X G cc own Ts rm) {y : MethodName} {wsY wsY2 : List Cond} {rmY : Room} {As : List Value} {post : va_W → Prop} {mc ms index maxL n9 : Nat} {bytes : ByteArray} {ret : Option FieldType} {Wc wr : va_W} (hM : sx_Mv l y wsY rmY X As Wc post mc ms) (hg : GoodIn Ts (va_wsS own index y wsY)) (hw : wsY = Cond.code y bytes maxL ret :: wsY2) (hd2 : y.cls ≠ "java/lang/invoke/MethodHandle" ∧ y.cls ≠ "java/lang/invoke/VarHandle" ∧ (parseMethodDescriptor y.desc).map (fun d => d.parameters.length) = some n9) (hn9 : As.length = n9) (hd : decode cc pc = .ok (.invokestatic index, 3)) (hrm : rmY.cells = mc ∧ rmY.slots = ms) (hRm : rmY.frames + 1 ≤ rm.frames ∧ 8 + (maxL + 11) + rmY.locals ≤ rm.locals) (hst : (st.map fun v => v.category).sum ≤ 8) (hroom : kc + mc ≤ rm.cells ∧ ks + ms ≤ rm.slots) (isC isR : List Nat) (hC : isC.map (fun i => ws[i]?) = Wc.map some) (hR2 : isR.map (fun i => ws[i]?) = wr.map some) (hndC : va_nd isC = true) (hnd : va_nd isR = true) (hdis : ∀ i ∈ isR, i ∉ isC) (kk : ∀ (w1 : va_W), post w1 → sx_W l X G (kc + mc) (ks + ms) (pc + 3) lv (st) (wr ++ w1)) : sx_W l X G kc ks (pc) lv (As.reverse ++ st) ws := by
  obtain ⟨D, cI, tC, tA⟩ := X
  obtain ⟨p, e, R, s, m, args, below, meth, c, Q, A, nL⟩ := G
  obtain ⟨hx, hb, hml, hown, hts, hK, hA, rfl, hE⟩ := hG
  intro H locs ls hP hD hS hl
  have hPc := hP.sub (ws' := Wc) isC (by
    have e1 : isC.filterMap (fun i => ws[i]?) = (isC.map (fun i => ws[i]?)).filterMap id := by rw [List.filterMap_map]; rfl
    rw [e1, hC, List.filterMap_map]; simp)
  have hFc := va_free (wc := Wc) hD hS hA isC hC
  have hEc : ∀ U : State, U.heap = H → s.WarmedH U.vm → sx_E (va_A Wc H.size) tC tA U U.heap := fun U hU hW => hE.to hW (fun q h1 h2 => by rw [hU]; exact hS.2.1 q h1 h2) hFc
  have hDt : va_D (fun _ => True) Wc := (hD.sub isC hndC hC).weaken (fun _ _ _ _ => trivial)
  refine va_callv (va_runS (As := As) (rest := st) ⟨hx, hb, hml, hown, hts⟩ (hM H.size) (va_cwS n9 hts hg hw hrm.1 hrm.2 hd2 hRm) ⟨sx_blind _ _ _ _, fun U hU hW => ⟨rfl, by rw [hU], by rw [hU]; exact hPc, va_K.moved hW.alike hK, hDt, hEc U hU hW⟩⟩ rfl hn9 hl.1 rfl (lv_room hst) hd hroom) hS (fun q _ h => hFc q h) hFc (fun w1 t H1 locs1 ht hvm hp hB hz1 hk1 hS1 => ?_)
  obtain ⟨hP1, hK1, hD1⟩ := hB
  rw [ht] at hP1
  obtain ⟨hP2, hD2⟩ := va_join (wr := wr) (w1 := w1) hP hD isC isR hC hR2 hnd hdis hk1 hFc hP1 hD1
  exact kk w1 hp H1 locs1 ls hP2 hD2 hS1 hl
theorem sx_callSvw (hG : sx_ok l X G cc own Ts rm) {y : MethodName} {wsY wsY2 : List Cond} {rmY : Room} {As : List Value} {post : va_W → Prop} {mc ms index maxL n9 : Nat} {bytes : ByteArray} {ret : Option FieldType} (hM : sx_Mv l y wsY rmY X As ws post mc ms) (hg : GoodIn Ts (va_wsS own index y wsY)) (hw : wsY = Cond.code y bytes maxL ret :: wsY2) (hd2 : y.cls ≠ "java/lang/invoke/MethodHandle" ∧ y.cls ≠ "java/lang/invoke/VarHandle" ∧ (parseMethodDescriptor y.desc).map (fun d => d.parameters.length) = some n9) (hn9 : As.length = n9) (hd : decode cc pc = .ok (.invokestatic index, 3)) (hrm : rmY.cells = mc ∧ rmY.slots = ms) (hRm : rmY.frames + 1 ≤ rm.frames ∧ 8 + (maxL + 11) + rmY.locals ≤ rm.locals) (hst : (st.map fun v => v.category).sum ≤ 8) (hroom : kc + mc ≤ rm.cells ∧ ks + ms ≤ rm.slots) (kk : ∀ (w1 : va_W), post w1 → sx_W l X G (kc + mc) (ks + ms) (pc + 3) lv (st) w1) : sx_W l X G kc ks (pc) lv (As.reverse ++ st) ws :=
  sx_callSv hG hM hg hw hd2 hn9 hd hrm hRm hst hroom (Wc := ws) (wr := []) (List.range ws.length) [] (sx_range ws) rfl (sx_nd_range _) rfl (fun i h => by cases h) (fun w1 hp => kk w1 hp)
theorem sx_callSNi (hG : sx_ok l X G cc own Ts rm) {y : MethodName} {wsY wsY2 : List Cond} {rmY : Room} {As : List Value} {post : Int32 → va_W → Prop} {mc ms index maxL n9 : Nat} {bytes : ByteArray} {ret : Option FieldType} {Wc wr : va_W} (hM : sx_Mi l y wsY rmY X As Wc post mc ms) {host : String} (hg : GoodIn Ts wsY) (hw : wsY = Cond.code y bytes maxL ret :: wsY2) (hni : Cond.methodLinkNest own index y host ∈ sx_nest) (hsi : Cond.static y ∈ Ts ∧ Cond.initialized y.cls ∈ Ts) (hd2 : y.cls ≠ "java/lang/invoke/MethodHandle" ∧ y.cls ≠ "java/lang/invoke/VarHandle" ∧ (parseMethodDescriptor y.desc).map (fun d => d.parameters.length) = some n9) (hn9 : As.length = n9) (hd : decode cc pc = .ok (.invokestatic index, 3)) (hrm : rmY.cells = mc ∧ rmY.slots = ms) (hRm : rmY.frames + 1 ≤ rm.frames ∧ 8 + (maxL + 11) + rmY.locals ≤ rm.locals) (hst : (st.map fun v => v.category).sum ≤ 8) (hroom : kc + mc ≤ rm.cells ∧ ks + ms ≤ rm.slots) (isC isR : List Nat) (hC : isC.map (fun i => ws[i]?) = Wc.map some) (hR2 : isR.map (fun i => ws[i]?) = wr.map some) (hndC : va_nd isC = true) (hnd : va_nd isR = true) (hdis : ∀ i ∈ isR, i ∉ isC) (kk : ∀ (r : Int32) (w1 : va_W), post r w1 → sx_W l X G (kc + mc) (ks + ms) (pc + 3) lv (.int r :: st) (wr ++ w1)) : sx_W l X G kc ks (pc) lv (As.reverse ++ st) ws := by
  obtain ⟨D, cI, tC, tA⟩ := X
  obtain ⟨p, e, R, s, m, args, below, meth, c, Q, A, nL⟩ := G
  obtain ⟨hx, hb, hml, hown, hts, hK, hA, rfl, hE⟩ := hG
  intro H locs ls hP hD hS hl
  have hPc := hP.sub (ws' := Wc) isC (by
    have e1 : isC.filterMap (fun i => ws[i]?) = (isC.map (fun i => ws[i]?)).filterMap id := by rw [List.filterMap_map]; rfl
    rw [e1, hC, List.filterMap_map]; simp)
  have hFc := va_free (wc := Wc) hD hS hA isC hC
  have hEc : ∀ U : State, U.heap = H → s.WarmedH U.vm → sx_E (va_A Wc H.size) tC tA U U.heap := fun U hU hW => hE.to hW (fun q h1 h2 => by rw [hU]; exact hS.2.1 q h1 h2) hFc
  have hDt : va_D (fun _ => True) Wc := (hD.sub isC hndC hC).weaken (fun _ _ _ _ => trivial)
  refine va_calli (va_runSN (As := As) (rest := st) ⟨hx, hb, hml, hown, hts⟩ (hM H.size) ⟨va_cnB n9 hts hg hw hrm.1 hrm.2 (hE.1 _ hni) (hts _ hsi.2) hd2 hRm, hts _ hsi.1, trivial⟩ ⟨sx_blind _ _ _ _, fun U hU hW => ⟨rfl, by rw [hU], by rw [hU]; exact hPc, va_K.moved hW.alike hK, hDt, hEc U hU hW⟩⟩ rfl hn9 hl.1 rfl (lv_room hst) hd hroom) hS (fun q _ h => hFc q h) hFc (fun r w1 t H1 locs1 ht hvm hp hB hz1 hk1 hS1 => ?_)
  obtain ⟨hP1, hK1, hD1⟩ := hB
  rw [ht] at hP1
  obtain ⟨hP2, hD2⟩ := va_join (wr := wr) (w1 := w1) hP hD isC isR hC hR2 hnd hdis hk1 hFc hP1 hD1
  exact kk r w1 hp H1 locs1 ls hP2 hD2 hS1 hl
theorem sx_callSNiw (hG : sx_ok l X G cc own Ts rm) {y : MethodName} {wsY wsY2 : List Cond} {rmY : Room} {As : List Value} {post : Int32 → va_W → Prop} {mc ms index maxL n9 : Nat} {bytes : ByteArray} {ret : Option FieldType} (hM : sx_Mi l y wsY rmY X As ws post mc ms) {host : String} (hg : GoodIn Ts wsY) (hw : wsY = Cond.code y bytes maxL ret :: wsY2) (hni : Cond.methodLinkNest own index y host ∈ sx_nest) (hsi : Cond.static y ∈ Ts ∧ Cond.initialized y.cls ∈ Ts) (hd2 : y.cls ≠ "java/lang/invoke/MethodHandle" ∧ y.cls ≠ "java/lang/invoke/VarHandle" ∧ (parseMethodDescriptor y.desc).map (fun d => d.parameters.length) = some n9) (hn9 : As.length = n9) (hd : decode cc pc = .ok (.invokestatic index, 3)) (hrm : rmY.cells = mc ∧ rmY.slots = ms) (hRm : rmY.frames + 1 ≤ rm.frames ∧ 8 + (maxL + 11) + rmY.locals ≤ rm.locals) (hst : (st.map fun v => v.category).sum ≤ 8) (hroom : kc + mc ≤ rm.cells ∧ ks + ms ≤ rm.slots) (kk : ∀ (r : Int32) (w1 : va_W), post r w1 → sx_W l X G (kc + mc) (ks + ms) (pc + 3) lv (.int r :: st) w1) : sx_W l X G kc ks (pc) lv (As.reverse ++ st) ws :=
  sx_callSNi hG hM hg hw hni hsi hd2 hn9 hd hrm hRm hst hroom (Wc := ws) (wr := []) (List.range ws.length) [] (sx_range ws) rfl (sx_nd_range _) rfl (fun i h => by cases h) (fun r w1 hp => kk r w1 hp)
theorem sx_callSNv (hG : sx_ok l X G cc own Ts rm) {y : MethodName} {wsY wsY2 : List Cond} {rmY : Room} {As : List Value} {post : va_W → Prop} {mc ms index maxL n9 : Nat} {bytes : ByteArray} {ret : Option FieldType} {Wc wr : va_W} (hM : sx_Mv l y wsY rmY X As Wc post mc ms) {host : String} (hg : GoodIn Ts wsY) (hw : wsY = Cond.code y bytes maxL ret :: wsY2) (hni : Cond.methodLinkNest own index y host ∈ sx_nest) (hsi : Cond.static y ∈ Ts ∧ Cond.initialized y.cls ∈ Ts) (hd2 : y.cls ≠ "java/lang/invoke/MethodHandle" ∧ y.cls ≠ "java/lang/invoke/VarHandle" ∧ (parseMethodDescriptor y.desc).map (fun d => d.parameters.length) = some n9) (hn9 : As.length = n9) (hd : decode cc pc = .ok (.invokestatic index, 3)) (hrm : rmY.cells = mc ∧ rmY.slots = ms) (hRm : rmY.frames + 1 ≤ rm.frames ∧ 8 + (maxL + 11) + rmY.locals ≤ rm.locals) (hst : (st.map fun v => v.category).sum ≤ 8) (hroom : kc + mc ≤ rm.cells ∧ ks + ms ≤ rm.slots) (isC isR : List Nat) (hC : isC.map (fun i => ws[i]?) = Wc.map some) (hR2 : isR.map (fun i => ws[i]?) = wr.map some) (hndC : va_nd isC = true) (hnd : va_nd isR = true) (hdis : ∀ i ∈ isR, i ∉ isC) (kk : ∀ (w1 : va_W), post w1 → sx_W l X G (kc + mc) (ks + ms) (pc + 3) lv (st) (wr ++ w1)) : sx_W l X G kc ks (pc) lv (As.reverse ++ st) ws := by
  obtain ⟨D, cI, tC, tA⟩ := X
  obtain ⟨p, e, R, s, m, args, below, meth, c, Q, A, nL⟩ := G
  obtain ⟨hx, hb, hml, hown, hts, hK, hA, rfl, hE⟩ := hG
  intro H locs ls hP hD hS hl
  have hPc := hP.sub (ws' := Wc) isC (by
    have e1 : isC.filterMap (fun i => ws[i]?) = (isC.map (fun i => ws[i]?)).filterMap id := by rw [List.filterMap_map]; rfl
    rw [e1, hC, List.filterMap_map]; simp)
  have hFc := va_free (wc := Wc) hD hS hA isC hC
  have hEc : ∀ U : State, U.heap = H → s.WarmedH U.vm → sx_E (va_A Wc H.size) tC tA U U.heap := fun U hU hW => hE.to hW (fun q h1 h2 => by rw [hU]; exact hS.2.1 q h1 h2) hFc
  have hDt : va_D (fun _ => True) Wc := (hD.sub isC hndC hC).weaken (fun _ _ _ _ => trivial)
  refine va_callv (va_runSN (As := As) (rest := st) ⟨hx, hb, hml, hown, hts⟩ (hM H.size) ⟨va_cnB n9 hts hg hw hrm.1 hrm.2 (hE.1 _ hni) (hts _ hsi.2) hd2 hRm, hts _ hsi.1, trivial⟩ ⟨sx_blind _ _ _ _, fun U hU hW => ⟨rfl, by rw [hU], by rw [hU]; exact hPc, va_K.moved hW.alike hK, hDt, hEc U hU hW⟩⟩ rfl hn9 hl.1 rfl (lv_room hst) hd hroom) hS (fun q _ h => hFc q h) hFc (fun w1 t H1 locs1 ht hvm hp hB hz1 hk1 hS1 => ?_)
  obtain ⟨hP1, hK1, hD1⟩ := hB
  rw [ht] at hP1
  obtain ⟨hP2, hD2⟩ := va_join (wr := wr) (w1 := w1) hP hD isC isR hC hR2 hnd hdis hk1 hFc hP1 hD1
  exact kk w1 hp H1 locs1 ls hP2 hD2 hS1 hl
theorem sx_callSNvw (hG : sx_ok l X G cc own Ts rm) {y : MethodName} {wsY wsY2 : List Cond} {rmY : Room} {As : List Value} {post : va_W → Prop} {mc ms index maxL n9 : Nat} {bytes : ByteArray} {ret : Option FieldType} (hM : sx_Mv l y wsY rmY X As ws post mc ms) {host : String} (hg : GoodIn Ts wsY) (hw : wsY = Cond.code y bytes maxL ret :: wsY2) (hni : Cond.methodLinkNest own index y host ∈ sx_nest) (hsi : Cond.static y ∈ Ts ∧ Cond.initialized y.cls ∈ Ts) (hd2 : y.cls ≠ "java/lang/invoke/MethodHandle" ∧ y.cls ≠ "java/lang/invoke/VarHandle" ∧ (parseMethodDescriptor y.desc).map (fun d => d.parameters.length) = some n9) (hn9 : As.length = n9) (hd : decode cc pc = .ok (.invokestatic index, 3)) (hrm : rmY.cells = mc ∧ rmY.slots = ms) (hRm : rmY.frames + 1 ≤ rm.frames ∧ 8 + (maxL + 11) + rmY.locals ≤ rm.locals) (hst : (st.map fun v => v.category).sum ≤ 8) (hroom : kc + mc ≤ rm.cells ∧ ks + ms ≤ rm.slots) (kk : ∀ (w1 : va_W), post w1 → sx_W l X G (kc + mc) (ks + ms) (pc + 3) lv (st) w1) : sx_W l X G kc ks (pc) lv (As.reverse ++ st) ws :=
  sx_callSNv hG hM hg hw hni hsi hd2 hn9 hd hrm hRm hst hroom (Wc := ws) (wr := []) (List.range ws.length) [] (sx_range ws) rfl (sx_nd_range _) rfl (fun i h => by cases h) (fun w1 hp => kk w1 hp)
theorem sx_callIv (hG : sx_ok l X G cc own Ts rm) {y : MethodName} {wsY wsY2 : List Cond} {rmY : Room} {As : List Value} {post : va_W → Prop} {mc ms index maxL n9 : Nat} {bytes : ByteArray} {Wc wr : va_W} {b : Nat} (hM : sx_Mv l y wsY rmY X (.ref b :: As) Wc post mc ms) (hg : GoodIn Ts wsY) (hw : wsY = Cond.code y bytes maxL none :: wsY2) (hli : Cond.initialized y.cls ∈ Ts ∧ Cond.methodLink own index y ∈ Ts ∧ Cond.instanceMethod y ∈ Ts) (hyn : y.name = "<init>") (hd2 : y.cls ≠ "java/lang/invoke/MethodHandle" ∧ y.cls ≠ "java/lang/invoke/VarHandle" ∧ (parseMethodDescriptor y.desc).map (fun d => d.parameters.length) = some n9) (hn9 : As.length = n9) (hd : decode cc pc = .ok (.invokespecial index, 3)) (hrm : rmY.cells = mc ∧ rmY.slots = ms) (hRm : rmY.frames + 1 ≤ rm.frames ∧ 8 + (maxL + 11) + rmY.locals ≤ rm.locals) (hst : (st.map fun v => v.category).sum ≤ 8) (hroom : kc + mc ≤ rm.cells ∧ ks + ms ≤ rm.slots) (isC isR : List Nat) (hC : isC.map (fun i => ws[i]?) = Wc.map some) (hR2 : isR.map (fun i => ws[i]?) = wr.map some) (hndC : va_nd isC = true) (hnd : va_nd isR = true) (hdis : ∀ i ∈ isR, i ∉ isC) (kk : ∀ (w1 : va_W), post w1 → sx_W l X G (kc + mc) (ks + ms) (pc + 3) lv (st) (wr ++ w1)) : sx_W l X G kc ks (pc) lv (As.reverse ++ .ref b :: st) ws := by
  obtain ⟨D, cI, tC, tA⟩ := X
  obtain ⟨p, e, R, s, m, args, below, meth, c, Q, A, nL⟩ := G
  obtain ⟨hx, hb, hml, hown, hts, hK, hA, rfl, hE⟩ := hG
  intro H locs ls hP hD hS hl
  have hPc := hP.sub (ws' := Wc) isC (by
    have e1 : isC.filterMap (fun i => ws[i]?) = (isC.map (fun i => ws[i]?)).filterMap id := by rw [List.filterMap_map]; rfl
    rw [e1, hC, List.filterMap_map]; simp)
  have hFc := va_free (wc := Wc) hD hS hA isC hC
  have hEc : ∀ U : State, U.heap = H → s.WarmedH U.vm → sx_E (va_A Wc H.size) tC tA U U.heap := fun U hU hW => hE.to hW (fun q h1 h2 => by rw [hU]; exact hS.2.1 q h1 h2) hFc
  have hDt : va_D (fun _ => True) Wc := (hD.sub isC hndC hC).weaken (fun _ _ _ _ => trivial)
  refine va_callv (va_runI (As := As) (rest := st) ⟨hx, hb, hml, hown, hts⟩ (hM H.size) (cwI n9 hts hg hw hrm.1 hrm.2 (hts _ hli.1) (hts _ hli.2.1) (hts _ hli.2.2) hyn hd2 hRm) ⟨sx_blind _ _ _ _, fun U hU hW => ⟨rfl, by rw [hU], by rw [hU]; exact hPc, va_K.moved hW.alike hK, hDt, hEc U hU hW⟩⟩ rfl hn9 hl.1 rfl (lv_room hst) hd hroom) hS (fun q _ h => hFc q h) hFc (fun w1 t H1 locs1 ht hvm hp hB hz1 hk1 hS1 => ?_)
  obtain ⟨hP1, hK1, hD1⟩ := hB
  rw [ht] at hP1
  obtain ⟨hP2, hD2⟩ := va_join (wr := wr) (w1 := w1) hP hD isC isR hC hR2 hnd hdis hk1 hFc hP1 hD1
  exact kk w1 hp H1 locs1 ls hP2 hD2 hS1 hl
theorem sx_callINv (hG : sx_ok l X G cc own Ts rm) {y : MethodName} {wsY wsY2 : List Cond} {rmY : Room} {As : List Value} {post : va_W → Prop} {mc ms index maxL n9 : Nat} {bytes : ByteArray} {Wc wr : va_W} {b : Nat} (hM : sx_Mv l y wsY rmY X (.ref b :: As) Wc post mc ms) {host : String} (hg : GoodIn Ts wsY) (hw : wsY = Cond.code y bytes maxL none :: wsY2) (hni : Cond.methodLinkNest own index y host ∈ sx_nest) (hli : Cond.initialized y.cls ∈ Ts ∧ Cond.instanceMethod y ∈ Ts) (hyn : y.name = "<init>") (hd2 : y.cls ≠ "java/lang/invoke/MethodHandle" ∧ y.cls ≠ "java/lang/invoke/VarHandle" ∧ (parseMethodDescriptor y.desc).map (fun d => d.parameters.length) = some n9) (hn9 : As.length = n9) (hd : decode cc pc = .ok (.invokespecial index, 3)) (hrm : rmY.cells = mc ∧ rmY.slots = ms) (hRm : rmY.frames + 1 ≤ rm.frames ∧ 8 + (maxL + 11) + rmY.locals ≤ rm.locals) (hst : (st.map fun v => v.category).sum ≤ 8) (hroom : kc + mc ≤ rm.cells ∧ ks + ms ≤ rm.slots) (isC isR : List Nat) (hC : isC.map (fun i => ws[i]?) = Wc.map some) (hR2 : isR.map (fun i => ws[i]?) = wr.map some) (hndC : va_nd isC = true) (hnd : va_nd isR = true) (hdis : ∀ i ∈ isR, i ∉ isC) (kk : ∀ (w1 : va_W), post w1 → sx_W l X G (kc + mc) (ks + ms) (pc + 3) lv (st) (wr ++ w1)) : sx_W l X G kc ks (pc) lv (As.reverse ++ .ref b :: st) ws := by
  obtain ⟨D, cI, tC, tA⟩ := X
  obtain ⟨p, e, R, s, m, args, below, meth, c, Q, A, nL⟩ := G
  obtain ⟨hx, hb, hml, hown, hts, hK, hA, rfl, hE⟩ := hG
  intro H locs ls hP hD hS hl
  have hPc := hP.sub (ws' := Wc) isC (by
    have e1 : isC.filterMap (fun i => ws[i]?) = (isC.map (fun i => ws[i]?)).filterMap id := by rw [List.filterMap_map]; rfl
    rw [e1, hC, List.filterMap_map]; simp)
  have hFc := va_free (wc := Wc) hD hS hA isC hC
  have hEc : ∀ U : State, U.heap = H → s.WarmedH U.vm → sx_E (va_A Wc H.size) tC tA U U.heap := fun U hU hW => hE.to hW (fun q h1 h2 => by rw [hU]; exact hS.2.1 q h1 h2) hFc
  have hDt : va_D (fun _ => True) Wc := (hD.sub isC hndC hC).weaken (fun _ _ _ _ => trivial)
  refine va_callv (va_runIN (As := As) (rest := st) ⟨hx, hb, hml, hown, hts⟩ (hM H.size) ⟨va_cnB n9 hts hg hw hrm.1 hrm.2 (hE.1 _ hni) (hts _ hli.1) hd2 hRm, hyn, hts _ hli.2⟩ ⟨sx_blind _ _ _ _, fun U hU hW => ⟨rfl, by rw [hU], by rw [hU]; exact hPc, va_K.moved hW.alike hK, hDt, hEc U hU hW⟩⟩ rfl hn9 hl.1 rfl (lv_room hst) hd hroom) hS (fun q _ h => hFc q h) hFc (fun w1 t H1 locs1 ht hvm hp hB hz1 hk1 hS1 => ?_)
  obtain ⟨hP1, hK1, hD1⟩ := hB
  rw [ht] at hP1
  obtain ⟨hP2, hD2⟩ := va_join (wr := wr) (w1 := w1) hP hD isC isR hC hR2 hnd hdis hk1 hFc hP1 hD1
  exact kk w1 hp H1 locs1 ls hP2 hD2 hS1 hl
end SXR
end
section
/-! NUMBERS: what the machine's ints do, said of numbers -/
theorem sx_tn {n : Nat} (h : n < 2 ^ 32) : (nI n).toBitVec.toNat = n := pk_tn h
theorem sx_bv (n : Nat) : (nI n).toBitVec = BitVec.ofNat 32 n := rfl
theorem sx_ext {a b : Int32} (h : a.toBitVec = b.toBitVec) : a = b := Int32.toBitVec_inj.mp h
theorem sx_and31 {k : Nat} (hk : k < 32) : ((nI k &&& 31).toBitVec.smod 32).toNat = k := by
  have h : ∀ k, k < 32 → ((nI k &&& 31).toBitVec.smod 32).toNat = k := by decide +kernel
  exact h k hk
theorem sx_shl {n k : Nat} (hk : k < 32) (h : n * 2 ^ k < 2 ^ 32) : nI n <<< (nI k &&& 31) = nI (n * 2 ^ k) := pk_shlN (nI k &&& 31) k (sx_and31 hk) h
theorem sx_shr {n k : Nat} (hk : k < 32) (h : n < 2 ^ 31) : nI n >>> (nI k &&& 31) = nI (n / 2 ^ k) := pk_shrN h (nI k &&& 31) k (sx_and31 hk)
theorem sx_and {a b : Nat} (ha : a < 2 ^ 32) (hb : b < 2 ^ 32) : nI a &&& nI b = nI (a &&& b) := by
  apply sx_ext
  rw [Int32.toBitVec_and, sx_bv, sx_bv, sx_bv]
  apply BitVec.eq_of_toNat_eq
  rw [BitVec.toNat_and, BitVec.toNat_ofNat, BitVec.toNat_ofNat, BitVec.toNat_ofNat, Nat.mod_eq_of_lt ha, Nat.mod_eq_of_lt hb, Nat.mod_eq_of_lt (Nat.lt_of_le_of_lt Nat.and_le_left ha)]
theorem sx_or {a b : Nat} (ha : a < 2 ^ 32) (hb : b < 2 ^ 32) : nI a ||| nI b = nI (a ||| b) := by
  apply sx_ext
  rw [Int32.toBitVec_or, sx_bv, sx_bv, sx_bv]
  apply BitVec.eq_of_toNat_eq
  rw [BitVec.toNat_or, BitVec.toNat_ofNat, BitVec.toNat_ofNat, BitVec.toNat_ofNat, Nat.mod_eq_of_lt ha, Nat.mod_eq_of_lt hb, Nat.mod_eq_of_lt (Nat.or_lt_two_pow ha hb)]
theorem sx_xor {a b : Nat} (ha : a < 2 ^ 32) (hb : b < 2 ^ 32) : nI a ^^^ nI b = nI (a ^^^ b) := by
  apply sx_ext
  rw [Int32.toBitVec_xor, sx_bv, sx_bv, sx_bv]
  apply BitVec.eq_of_toNat_eq
  rw [BitVec.toNat_xor, BitVec.toNat_ofNat, BitVec.toNat_ofNat, BitVec.toNat_ofNat, Nat.mod_eq_of_lt ha, Nat.mod_eq_of_lt hb, Nat.mod_eq_of_lt (Nat.xor_lt_two_pow ha hb)]
/-- a set without what is in another -/
def sx_diff (a b : Nat) : Nat := a ^^^ (a &&& b)
theorem sx_bvdiff (x y : BitVec 32) : x &&& (y ^^^ (-1)) = x ^^^ (x &&& y) := by
  apply BitVec.eq_of_getLsbD_eq
  intro i hi
  have h1 : (-1 : BitVec 32) = BitVec.allOnes 32 := by decide
  rw [h1]
  simp only [BitVec.getLsbD_and, BitVec.getLsbD_xor, BitVec.getLsbD_allOnes, hi, decide_true]
  cases x.getLsbD i <;> cases y.getLsbD i <;> rfl
theorem sx_andnot {a b : Nat} (ha : a < 2 ^ 32) (hb : b < 2 ^ 32) : nI a &&& (nI b ^^^ (-1)) = nI (sx_diff a b) := by
  have h1 : nI a &&& (nI b ^^^ (-1)) = nI a ^^^ (nI a &&& nI b) := by
    apply sx_ext
    rw [Int32.toBitVec_and, Int32.toBitVec_xor, Int32.toBitVec_xor, Int32.toBitVec_and]
    exact sx_bvdiff _ _
  rw [h1, sx_and ha hb, sx_xor ha (Nat.lt_of_le_of_lt Nat.and_le_left ha)]
  rfl
theorem sx_inc (a : Nat) : nI a + Int32.ofInt 1 = nI (a + 1) := nI_1 a
theorem sx_inc2 (a : Nat) : nI a + Int32.ofInt 2 = nI (a + 2) := nI_add a 2
theorem sx_inc5 (a : Nat) : nI a + Int32.ofInt 5 = nI (a + 5) := nI_add a 5
theorem sx_dec {a : Nat} (h : 1 ≤ a) : nI a + Int32.ofInt (-1) = nI (a - 1) := sb_m1 h
theorem sx_eq0 {a : Nat} (h : a < 2 ^ 31) : nI a = 0 ↔ a = 0 := nI_eq (b := 0) h (by decide)
theorem sx_ge0 {a : Nat} (h : a < 2 ^ 31) : 0 ≤ nI a ↔ True := ⟨fun _ => trivial, fun _ => nI_pos' h⟩
theorem sx_lt0 {a : Nat} (h : a < 2 ^ 31) : nI a < 0 ↔ False := ⟨fun q => nI_pos h q, fun q => q.elim⟩
theorem sx_gt0 {a : Nat} (h : a < 2 ^ 31) : 0 < nI a ↔ 0 < a := nI_ltI (a := 0) (by decide) h
theorem sx_le0 {a : Nat} (h : a < 2 ^ 31) : nI a ≤ 0 ↔ a = 0 := (nI_leI (b := 0) h (by decide)).trans (by omega)
theorem sx_eqm1 {a : Nat} (h : a < 2 ^ 31) : nI a = -1 ↔ False := by
  refine ⟨fun q => ?_, fun q => q.elim⟩
  have h1 : (nI a).toInt = (a : Int) := nI_toInt h
  rw [q] at h1
  have h2 : (-1 : Int32).toInt = -1 := by decide
  omega
theorem sx_min {a b : Nat} (ha : a < 2 ^ 31) (hb : b < 2 ^ 31) : (if nI b < nI a then nI b else nI a) = nI (min a b) := by
  by_cases h : b < a
  · rw [if_pos ((nI_ltI hb ha).mpr h), Nat.min_eq_right (by omega)]
  · rw [if_neg (fun q => h ((nI_ltI hb ha).mp q)), Nat.min_eq_left (by omega)]
theorem sx_max {a b : Nat} (ha : a < 2 ^ 31) (hb : b < 2 ^ 31) : (if nI a < nI b then nI b else nI a) = nI (max a b) := by
  by_cases h : a < b
  · rw [if_pos ((nI_ltI ha hb).mpr h), Nat.max_eq_right (by omega)]
  · rw [if_neg (fun q => h ((nI_ltI ha hb).mp q)), Nat.max_eq_left (by omega)]
/-- how far two numbers are apart -/
def sx_far (a b : Nat) : Nat := if a < b then b - a else a - b
theorem sx_abs {a b : Nat} (ha : a < 2 ^ 30) (hb : b < 2 ^ 30) : (if 0 ≤ nI a - nI b then nI a - nI b else 0 - (nI a - nI b)) = nI (sx_far a b) := by
  by_cases h : a < b
  · have h1 : ¬ 0 ≤ nI a - nI b := fun q => by
      have h2 := pk_sneg hb h
      exact absurd h2 (Int32.not_lt.mpr q)
    rw [if_neg h1, sx_far, if_pos h, ← pk_sub (Nat.le_of_lt h)]
    rw [Int32.zero_sub, Int32.neg_sub]
  · rw [sx_far, if_neg h, pk_sub (by omega), if_pos (nI_pos' (by omega))]
theorem sx_c (n : Nat) : Int32.ofInt (n : Int) = nI n := rfl
theorem sx_rlt {x y : Int32} {p q : Int} (hp : x.toInt = p) (hq : y.toInt = q) : x < y ↔ p < q := by rw [Int32.lt_iff_toInt_lt, hp, hq]
theorem sx_rle {x y : Int32} {p q : Int} (hp : x.toInt = p) (hq : y.toInt = q) : x ≤ y ↔ p ≤ q := by rw [Int32.le_iff_toInt_le, hp, hq]
theorem sx_req {x y : Int32} {p q : Int} (hp : x.toInt = p) (hq : y.toInt = q) : x = y ↔ p = q := by rw [← Int32.toInt_inj, hp, hq]
theorem sx_t0 : (0 : Int32).toInt = 0 := by decide
theorem sx_req0 (x : Int32) : x = 0 ↔ x.toInt = 0 := sx_req rfl sx_t0
theorem sx_rlt0 (x : Int32) : x < 0 ↔ x.toInt < 0 := sx_rlt rfl sx_t0
theorem sx_rge0 (x : Int32) : 0 ≤ x ↔ 0 ≤ x.toInt := sx_rle sx_t0 rfl
theorem sx_rgt0 (x : Int32) : 0 < x ↔ 0 < x.toInt := sx_rlt sx_t0 rfl
theorem sx_rle0 (x : Int32) : x ≤ 0 ↔ x.toInt ≤ 0 := sx_rle rfl sx_t0
theorem sx_rne {x : Int32} {k : Nat} (h : ¬ x = nI k) (hk : k < 2 ^ 31) : ¬ x.toInt = (k : Int) := fun q => h ((sx_req rfl (nI_toInt hk)).mpr q)
/-- a number that isn't below 0 -/
theorem sx_of {x : Int32} (h : 0 ≤ x.toInt) : x = nI x.toInt.toNat ∧ (x.toInt.toNat : Int) = x.toInt ∧ x.toInt.toNat < 2 ^ 31 := by
  have h1 : x.toInt < 2 ^ 31 := by have := Int32.toInt_lt x; omega
  have h2 : (x.toInt.toNat : Int) = x.toInt := by omega
  have h3 : x.toInt.toNat < 2 ^ 31 := by omega
  exact ⟨(sx_req rfl (nI_toInt h3)).mpr h2.symm, h2, h3⟩
/-- a bit of a number -/
def sx_bit (s k : Nat) : Nat := s / 2 ^ k % 2
theorem sx_bit_le (s k : Nat) : sx_bit s k ≤ 1 := by unfold sx_bit; omega
theorem sx_bit1 {s k : Nat} (h : s / 2 ^ k < 2 ^ 32) : nI (s / 2 ^ k) &&& nI 1 = nI (sx_bit s k) := by
  rw [sx_and h (by decide), Nat.and_one_is_mod]
  rfl
theorem sx_p9 {k : Nat} (h : k ≤ 9) : 2 ^ k ≤ 512 := Nat.pow_le_pow_right (n := 2) (by decide) h
theorem sx_p2 {k : Nat} (h : k ≤ 9) : 2 ^ k < 2 ^ 32 := by have := sx_p9 h; omega
theorem sx_p3 {k : Nat} (h : k ≤ 9) : 2 ^ k < 2 ^ 31 := by have := sx_p9 h; omega
theorem sx_one {k : Nat} (h : k ≤ 9) : nI 1 <<< (nI k &&& 31) = nI (2 ^ k) := by
  rw [sx_shl (by omega) (by have := sx_p9 h; omega), Nat.one_mul]
theorem sx_diff_le (a b : Nat) : sx_diff a b ≤ a := by
  have h : a ^^^ (a &&& b) = a &&& (a ^^^ (a &&& b)) := by
    apply Nat.eq_of_testBit_eq
    intro i
    simp only [Nat.testBit_xor, Nat.testBit_and]
    cases a.testBit i <;> cases b.testBit i <;> rfl
  unfold sx_diff
  rw [h]
  exact Nat.and_le_left
theorem sx_div_lt {s n : Nat} (k : Nat) (h : s < n) : s / 2 ^ k < n := Nat.lt_of_le_of_lt (Nat.div_le_self _ _) h
end
section
/-! THE WORLDS of the shop (sw) and of the reference (mw): addresses, scalars by sc, arrays of numbers by av -/
def sw (X : sx_X) (ad : Nat → Nat) (sc : Nat → Int32) (av : Nat → Nat → Nat) : va_W := [
  (ad 0, .inr (7, [.ref (ad 1), .ref (ad 2), .ref (ad 3), .ref (ad 4), .ref (ad 5), .ref (ad 6), .ref (ad 7), .int (sc 0)])),
  (ad 1, .inr (5, [.int (sc 1), .ref (ad 8), .ref (ad 9), .ref (ad 10), .ref (ad 11)])),
  (ad 2, .inr (3, [.ref (ad 12)])),
  (ad 3, .inr (4, [.int (sc 2), .ref (ad 13), .ref (ad 14), .ref (ad 15), .ref (ad 16), .ref (ad 17), .int (sc 3)])),
  (ad 4, .inr (6, [.ref (ad 18), .int (sc 4)])),
  (ad 5, .inr (2, [.int (sc 5), .ref (ad 19), .ref (ad 20), .ref (ad 21)])),
  (ad 6, .inr (0, [.ref (ad 22), .ref (ad 23)])),
  (ad 7, .inr (1, [.int (sc 6), .int (sc 7), .ref (ad 24)])),
  (ad 8, .inl (X.2.1, 18, .inl (fun j => nI (av 8 j)))),
  (ad 9, .inl (X.2.1, 18, .inl (fun j => nI (av 9 j)))),
  (ad 10, .inl (X.2.1, 18, .inl (fun j => nI (av 10 j)))),
  (ad 11, .inl (X.2.1, 9, .inl (fun j => nI (av 11 j)))),
  (ad 12, .inl (X.2.1, 7, .inl (fun j => nI (av 12 j)))),
  (ad 13, .inl (X.2.1, 9, .inl (fun j => nI (av 13 j)))),
  (ad 14, .inl (X.2.1, 324, .inl (fun j => nI (av 14 j)))),
  (ad 15, .inl (X.2.1, 9216, .inl (fun j => nI (av 15 j)))),
  (ad 16, .inl (X.2.1, 512, .inl (fun j => nI (av 16 j)))),
  (ad 17, .inl (X.2.1, 9, .inl (fun j => nI (av 17 j)))),
  (ad 18, .inl (X.2.1, 512, .inl (fun j => nI (av 18 j)))),
  (ad 19, .inl (X.2.1, 9, .inl (fun j => nI (av 19 j)))),
  (ad 20, .inl (X.2.1, 9, .inl (fun j => nI (av 20 j)))),
  (ad 21, .inl (X.2.1, 9, .inl (fun j => nI (av 21 j)))),
  (ad 22, .inl (X.2.1, 9, .inl (fun j => nI (av 22 j)))),
  (ad 23, .inl (X.2.1, 512, .inl (fun j => nI (av 23 j)))),
  (ad 24, .inl (X.2.1, 81, .inl (fun j => nI (av 24 j))))]
def mw (X : sx_X) (bd : Nat → Nat) (sc : Nat → Int32) (av : Nat → Nat → Nat) : va_W := [
  (bd 0, .inr (8, [.int (sc 0), .ref (bd 1), .ref (bd 2), .ref (bd 3), .ref (bd 4), .ref (bd 5), .ref (bd 6), .ref (bd 7), .int (sc 1), .int (sc 2), .ref (bd 8), .ref (bd 9), .ref (bd 10), .int (sc 3), .int (sc 4), .int (sc 5), .ref (bd 11), .ref (bd 12), .ref (bd 13), .ref (bd 14), .ref (bd 15), .ref (bd 16), .ref (bd 17), .ref (bd 18)])),
  (bd 1, .inl (X.2.1, 9, .inl (fun j => nI (av 1 j)))),
  (bd 2, .inl (X.2.1, 9, .inl (fun j => nI (av 2 j)))),
  (bd 3, .inl (X.2.1, 9, .inl (fun j => nI (av 3 j)))),
  (bd 4, .inl (X.2.1, 9, .inl (fun j => nI (av 4 j)))),
  (bd 5, .inl (X.2.1, 9, .inl (fun j => nI (av 5 j)))),
  (bd 6, .inl (X.2.1, 9, .inl (fun j => nI (av 6 j)))),
  (bd 7, .inl (X.2.1, 7, .inl (fun j => nI (av 7 j)))),
  (bd 8, .inl (X.2.1, 9216, .inl (fun j => nI (av 8 j)))),
  (bd 9, .inl (X.2.1, 512, .inl (fun j => nI (av 9 j)))),
  (bd 10, .inl (X.2.1, 9, .inl (fun j => nI (av 10 j)))),
  (bd 11, .inl (X.2.1, 9, .inl (fun j => nI (av 11 j)))),
  (bd 12, .inl (X.2.1, 9, .inl (fun j => nI (av 12 j)))),
  (bd 13, .inl (X.2.1, 9, .inl (fun j => nI (av 13 j)))),
  (bd 14, .inl (X.2.1, 512, .inl (fun j => nI (av 14 j)))),
  (bd 15, .inl (X.2.1, 512, .inl (fun j => nI (av 15 j)))),
  (bd 16, .inl (X.2.1, 512, .inl (fun j => nI (av 16 j)))),
  (bd 17, .inl (X.2.1, 512, .inl (fun j => nI (av 17 j)))),
  (bd 18, .inl (X.2.1, 81, .inl (fun j => nI (av 18 j))))]
end
section
/-! STATIC METHODS OF NUMBERS, of both sides -/
def sx_piece (dx dy : Nat) : Nat := if dx < dy then 14 * dx + 10 * (dy - dx) else 14 * dy + 10 * (dx - dy)
theorem sx_far_le (a b n : Nat) (ha : a < n) (hb : b < n) : sx_far a b < n := by unfold sx_far; split <;> omega
set_option maxHeartbeats 4000000 in
set_option maxRecDepth 100000 in
/-- far(a, b) -/
theorem c_X8_far (l : Launch) (X : sx_X) (ws : va_W) (a b : Nat) (ha : a < 2 ^ 30) (hb : b < 2 ^ 30) : sx_Mi l yX8_far wsX8_far { frames := 0, cells := 0, slots := 0, locals := 0 } X [.int (nI a), .int (nI b)] ws (fun r w => r = nI (sx_far a b) ∧ w = ws) 0 0 := by
  refine sx_entI (own := RX8) (nL := 2) (by decide +kernel) rfl rfl (Nat.le_of_ble_eq_true rfl) ?_
  intro G hG hN hret
  show sx_W l X G 0 0 0 [(0, .int (nI a)), (1, .int (nI b))] [] ws
  refine sx_iload_n (pc := 0) hG dX8_far_0 rfl 0 rfl ?_
  refine sx_iload_n (pc := 1) hG dX8_far_1 rfl 1 rfl ?_
  refine sx_icmp_ge (pc := 2) (tgt := 11) (B := b ≤ a) hG dX8_far_2 (by decide) (nI_leI (by omega) (by omega)) (fun c2 => ?_) (fun c2 => ?_)
  · skip
    refine sx_iload_n (pc := 11) hG dX8_far_11 rfl 0 rfl ?_
    refine sx_iload_n (pc := 12) hG dX8_far_12 rfl 1 rfl ?_
    refine sx_isub (pc := 13) (v := (nI (a - b))) hG dX8_far_13 (pk_sub (by omega)) ?_
    exact hret _ _ _ _ dX8_far_14 rfl ⟨congrArg nI (by unfold sx_far; split <;> omega), rfl⟩
  · skip
    refine sx_iload_n (pc := 5) hG dX8_far_5 rfl 1 rfl ?_
    refine sx_iload_n (pc := 6) hG dX8_far_6 rfl 0 rfl ?_
    refine sx_isub (pc := 7) (v := (nI (b - a))) hG dX8_far_7 (pk_sub (by omega)) ?_
    refine sx_goto (pc := 8) (tgt := 14) hG dX8_far_8 (by decide) ?_
    exact hret _ _ _ _ dX8_far_14 rfl ⟨congrArg nI (by unfold sx_far; split <;> omega), rfl⟩

set_option maxHeartbeats 4000000 in
set_option maxRecDepth 100000 in
theorem c_X7_payOf (l : Launch) (X : sx_X) (ws : va_W) (a : Nat) (ha : a < 2 ^ 31) : sx_Mi l yX7_payOf wsX7_payOf { frames := 0, cells := 0, slots := 0, locals := 0 } X [.int (nI a)] ws (fun r w => r = nI (a / 4096) ∧ w = ws) 0 0 := by
  refine sx_entI (own := RX7) (nL := 1) (by decide +kernel) rfl rfl (Nat.le_of_ble_eq_true rfl) ?_
  intro G hG hN hret
  show sx_W l X G 0 0 0 [(0, .int (nI a))] [] ws
  refine sx_iload_n (pc := 0) hG dX7_payOf_0 rfl 0 rfl ?_
  refine sx_sipush (pc := 1) (v := nI 4096) hG dX7_payOf_1 (by decide +kernel) ?_
  refine sx_idiv (pc := 4) (v := (nI (a / 4096))) hG dX7_payOf_4 (nI_ne0 (by decide) (by decide)) (pk_div (by omega) (by decide) (by decide)) ?_
  exact hret _ _ _ _ dX7_payOf_5 rfl ⟨rfl, rfl⟩

set_option maxHeartbeats 4000000 in
set_option maxRecDepth 100000 in
theorem c_X7_lengthOf (l : Launch) (X : sx_X) (ws : va_W) (a : Nat) (ha : a < 2 ^ 31) : sx_Mi l yX7_lengthOf wsX7_lengthOf { frames := 0, cells := 0, slots := 0, locals := 0 } X [.int (nI a)] ws (fun r w => r = nI (a % 4096) ∧ w = ws) 0 0 := by
  refine sx_entI (own := RX7) (nL := 1) (by decide +kernel) rfl rfl (Nat.le_of_ble_eq_true rfl) ?_
  intro G hG hN hret
  show sx_W l X G 0 0 0 [(0, .int (nI a))] [] ws
  refine sx_iload_n (pc := 0) hG dX7_lengthOf_0 rfl 0 rfl ?_
  refine sx_sipush (pc := 1) (v := nI 4096) hG dX7_lengthOf_1 (by decide +kernel) ?_
  refine sx_irem (pc := 4) (v := (nI (a % 4096))) hG dX7_lengthOf_4 (nI_ne0 (by decide) (by decide)) (pk_rem (by omega) (by decide) (by decide)) ?_
  exact hret _ _ _ _ dX7_lengthOf_5 rfl ⟨rfl, rfl⟩

set_option maxHeartbeats 4000000 in
set_option maxRecDepth 100000 in
theorem c_X7_bitOf (l : Launch) (X : sx_X) (ws : va_W) (a : Nat) (ha : a < 18) : sx_Mi l yX7_bitOf wsX7_bitOf { frames := 0, cells := 0, slots := 0, locals := 0 } X [.int (nI a)] ws (fun r w => r = nI (2 ^ (a / 2)) ∧ w = ws) 0 0 := by
  refine sx_entI (own := RX7) (nL := 1) (by decide +kernel) rfl rfl (Nat.le_of_ble_eq_true rfl) ?_
  intro G hG hN hret
  show sx_W l X G 0 0 0 [(0, .int (nI a))] [] ws
  refine sx_iconst (pc := 0) (v := nI 1) hG dX7_bitOf_0 (by decide +kernel) ?_
  refine sx_iload_n (pc := 1) hG dX7_bitOf_1 rfl 0 rfl ?_
  refine sx_iconst (pc := 2) (v := nI 1) hG dX7_bitOf_2 (by decide +kernel) ?_
  refine sx_ishr (pc := 3) (v := (nI (a / 2 ^ 1))) hG dX7_bitOf_3 (sx_shr (by omega) (by omega)) ?_
  refine sx_ishl (pc := 4) (v := (nI (2 ^ (a / 2 ^ 1)))) hG dX7_bitOf_4 (sx_one (by omega)) ?_
  exact hret _ _ _ _ dX7_bitOf_5 rfl ⟨by rw [Nat.pow_one], rfl⟩

theorem m_X0_putInto_c31 : Cond.constant RX0 31 (131072) ∈ wsX0_putInto := by decide +kernel
set_option maxHeartbeats 4000000 in
set_option maxRecDepth 100000 in
theorem c_X0_putInto (l : Launch) (X : sx_X) (ws : va_W) (f v u : Nat) (hf : f < 2 ^ 30) (hv : v < 2 ^ 20) (hu : u < 2 ^ 17) : sx_Mi l yX0_putInto wsX0_putInto { frames := 0, cells := 0, slots := 0, locals := 0 } X [.int (nI f), .int (nI v), .int (nI u)] ws (fun r w => r = nI (if f % 131072 + v ≤ u then f + v else (f / 131072 + 1) * 131072 + v) ∧ w = ws) 0 0 := by
  refine sx_entI (own := RX0) (nL := 3) (by decide +kernel) rfl rfl (Nat.le_of_ble_eq_true rfl) ?_
  intro G hG hN hret
  show sx_W l X G 0 0 0 [(0, .int (nI f)), (1, .int (nI v)), (2, .int (nI u))] [] ws
  refine sx_iload_n (pc := 0) hG dX0_putInto_0 rfl 0 rfl ?_
  refine sx_ldc (pc := 1) (v2 := nI 131072) hG m_X0_putInto_c31 dX0_putInto_1 (by decide +kernel) ?_
  refine sx_irem (pc := 3) (v := (nI (f % 131072))) hG dX0_putInto_3 (nI_ne0 (by decide) (by decide)) (pk_rem (by omega) (by decide) (by decide)) ?_
  refine sx_iload_n (pc := 4) hG dX0_putInto_4 rfl 1 rfl ?_
  refine sx_iadd (pc := 5) (v := (nI (f % 131072 + v))) hG dX0_putInto_5 (nI_add (f % 131072) v) ?_
  refine sx_iload_n (pc := 6) hG dX0_putInto_6 rfl 2 rfl ?_
  refine sx_icmp_gt (pc := 7) (tgt := 14) (B := u < (f % 131072 + v)) hG dX0_putInto_7 (by decide) (nI_ltI (by omega) (by omega)) (fun c7 => ?_) (fun c7 => ?_)
  · skip
    refine sx_iload_n (pc := 14) hG dX0_putInto_14 rfl 0 rfl ?_
    refine sx_ldc (pc := 15) (v2 := nI 131072) hG m_X0_putInto_c31 dX0_putInto_15 (by decide +kernel) ?_
    refine sx_idiv (pc := 17) (v := (nI (f / 131072))) hG dX0_putInto_17 (nI_ne0 (by decide) (by decide)) (pk_div (by omega) (by decide) (by decide)) ?_
    refine sx_iconst (pc := 18) (v := nI 1) hG dX0_putInto_18 (by decide +kernel) ?_
    refine sx_iadd (pc := 19) (v := (nI (f / 131072 + 1))) hG dX0_putInto_19 (nI_add (f / 131072) 1) ?_
    refine sx_ldc (pc := 20) (v2 := nI 131072) hG m_X0_putInto_c31 dX0_putInto_20 (by decide +kernel) ?_
    refine sx_imul (pc := 22) (v := (nI ((f / 131072 + 1) * 131072))) hG dX0_putInto_22 (pk_mul (f / 131072 + 1) 131072) ?_
    refine sx_iload_n (pc := 23) hG dX0_putInto_23 rfl 1 rfl ?_
    refine sx_iadd (pc := 24) (v := (nI ((f / 131072 + 1) * 131072 + v))) hG dX0_putInto_24 (nI_add ((f / 131072 + 1) * 131072) v) ?_
    exact hret _ _ _ _ dX0_putInto_25 rfl ⟨congrArg nI (by split <;> omega), rfl⟩
  · skip
    refine sx_iload_n (pc := 10) hG dX0_putInto_10 rfl 0 rfl ?_
    refine sx_iload_n (pc := 11) hG dX0_putInto_11 rfl 1 rfl ?_
    refine sx_iadd (pc := 12) (v := (nI (f + v))) hG dX0_putInto_12 (nI_add f v) ?_
    exact hret _ _ _ _ dX0_putInto_13 rfl ⟨congrArg nI (by split <;> omega), rfl⟩

set_option maxHeartbeats 4000000 in
set_option maxRecDepth 100000 in
theorem c_X8_piece (l : Launch) (X : sx_X) (ws : va_W) (ax ay bx by_ : Nat) (h1 : ax < 2 ^ 20) (h2 : ay < 2 ^ 20) (h3 : bx < 2 ^ 20) (h4 : by_ < 2 ^ 20) : sx_Mi l yX8_piece wsX8_piece { frames := 1, cells := 0, slots := 0, locals := 21 } X [.int (nI ax), .int (nI ay), .int (nI bx), .int (nI by_)] ws (fun r w => r = nI (sx_piece (sx_far ax bx) (sx_far ay by_)) ∧ w = ws) 0 0 := by
  refine sx_entI (own := RX8) (nL := 6) (by decide +kernel) rfl rfl (Nat.le_of_ble_eq_true rfl) ?_
  intro G hG hN hret
  show sx_W l X G 0 0 0 [(0, .int (nI ax)), (1, .int (nI ay)), (2, .int (nI bx)), (3, .int (nI by_))] [] ws
  have hfx := sx_far_le ax bx (2 ^ 20) h1 h3
  have hfy := sx_far_le ay by_ (2 ^ 20) h2 h4
  refine sx_iload_n (pc := 0) hG dX8_piece_0 rfl 0 rfl ?_
  refine sx_iload_n (pc := 1) hG dX8_piece_1 rfl 2 rfl ?_
  refine sx_callSiw (pc := 2) (n9 := 2) (As := [.int (nI ax), .int (nI bx)]) (st := []) hG (c_X8_far l X ws ax bx (by omega) (by omega)) gX8_piece_X8_far rfl (by decide +kernel) rfl dX8_piece_2 ⟨rfl, rfl⟩ ⟨Nat.le_of_ble_eq_true rfl, Nat.le_of_ble_eq_true rfl⟩ (Nat.le_of_ble_eq_true rfl) ⟨Nat.le_of_ble_eq_true rfl, Nat.le_of_ble_eq_true rfl⟩ (fun r w1 hp => ?_)
  obtain ⟨hr9, hw9⟩ := hp
  have hr9 : r = (nI (sx_far ax bx)) := hr9
  subst hr9
  refine sx_weq hw9 ?_
  refine sx_istore (pc := 5) (lv2 := [(0, .int (nI ax)), (1, .int (nI ay)), (2, .int (nI bx)), (3, .int (nI by_)), (4, .int (nI (sx_far ax bx)))]) hG [1, 2, 3, 4, 0] dX8_piece_5 hN (by decide) rfl ?_
  refine sx_iload_n (pc := 7) hG dX8_piece_7 rfl 1 rfl ?_
  refine sx_iload_n (pc := 8) hG dX8_piece_8 rfl 3 rfl ?_
  refine sx_callSiw (pc := 9) (n9 := 2) (As := [.int (nI ay), .int (nI by_)]) (st := []) hG (c_X8_far l X ws ay by_ (by omega) (by omega)) gX8_piece_X8_far rfl (by decide +kernel) rfl dX8_piece_9 ⟨rfl, rfl⟩ ⟨Nat.le_of_ble_eq_true rfl, Nat.le_of_ble_eq_true rfl⟩ (Nat.le_of_ble_eq_true rfl) ⟨Nat.le_of_ble_eq_true rfl, Nat.le_of_ble_eq_true rfl⟩ (fun r w1 hp => ?_)
  obtain ⟨hr9, hw9⟩ := hp
  have hr9 : r = (nI (sx_far ay by_)) := hr9
  subst hr9
  refine sx_weq hw9 ?_
  refine sx_istore (pc := 12) (lv2 := [(0, .int (nI ax)), (1, .int (nI ay)), (2, .int (nI bx)), (3, .int (nI by_)), (4, .int (nI (sx_far ax bx))), (5, .int (nI (sx_far ay by_)))]) hG [1, 2, 3, 4, 5, 0] dX8_piece_12 hN (by decide) rfl ?_
  refine sx_iload (pc := 14) hG dX8_piece_14 4 rfl ?_
  refine sx_iload (pc := 16) hG dX8_piece_16 5 rfl ?_
  refine sx_icmp_ge (pc := 18) (tgt := 38) (B := (sx_far ay by_) ≤ (sx_far ax bx)) hG dX8_piece_18 (by decide) (nI_leI (by omega) (by omega)) (fun c18 => ?_) (fun c18 => ?_)
  · skip
    refine sx_bipush (pc := 38) (v := nI 14) hG dX8_piece_38 (by decide +kernel) ?_
    refine sx_iload (pc := 40) hG dX8_piece_40 5 rfl ?_
    refine sx_imul (pc := 42) (v := (nI (14 * (sx_far ay by_)))) hG dX8_piece_42 (pk_mul 14 (sx_far ay by_)) ?_
    refine sx_bipush (pc := 43) (v := nI 10) hG dX8_piece_43 (by decide +kernel) ?_
    refine sx_iload (pc := 45) hG dX8_piece_45 4 rfl ?_
    refine sx_iload (pc := 47) hG dX8_piece_47 5 rfl ?_
    refine sx_isub (pc := 49) (v := (nI ((sx_far ax bx) - (sx_far ay by_)))) hG dX8_piece_49 (pk_sub (by omega)) ?_
    refine sx_imul (pc := 50) (v := (nI (10 * ((sx_far ax bx) - (sx_far ay by_))))) hG dX8_piece_50 (pk_mul 10 ((sx_far ax bx) - (sx_far ay by_))) ?_
    refine sx_iadd (pc := 51) (v := (nI (14 * (sx_far ay by_) + (10 * ((sx_far ax bx) - (sx_far ay by_)))))) hG dX8_piece_51 (nI_add (14 * (sx_far ay by_)) (10 * ((sx_far ax bx) - (sx_far ay by_)))) ?_
    exact hret _ _ _ _ dX8_piece_52 rfl ⟨congrArg nI (by unfold sx_piece; split <;> omega), rfl⟩
  · skip
    refine sx_bipush (pc := 21) (v := nI 14) hG dX8_piece_21 (by decide +kernel) ?_
    refine sx_iload (pc := 23) hG dX8_piece_23 4 rfl ?_
    refine sx_imul (pc := 25) (v := (nI (14 * (sx_far ax bx)))) hG dX8_piece_25 (pk_mul 14 (sx_far ax bx)) ?_
    refine sx_bipush (pc := 26) (v := nI 10) hG dX8_piece_26 (by decide +kernel) ?_
    refine sx_iload (pc := 28) hG dX8_piece_28 5 rfl ?_
    refine sx_iload (pc := 30) hG dX8_piece_30 4 rfl ?_
    refine sx_isub (pc := 32) (v := (nI ((sx_far ay by_) - (sx_far ax bx)))) hG dX8_piece_32 (pk_sub (by omega)) ?_
    refine sx_imul (pc := 33) (v := (nI (10 * ((sx_far ay by_) - (sx_far ax bx))))) hG dX8_piece_33 (pk_mul 10 ((sx_far ay by_) - (sx_far ax bx))) ?_
    refine sx_iadd (pc := 34) (v := (nI (14 * (sx_far ax bx) + (10 * ((sx_far ay by_) - (sx_far ax bx)))))) hG dX8_piece_34 (nI_add (14 * (sx_far ax bx)) (10 * ((sx_far ay by_) - (sx_far ax bx)))) ?_
    refine sx_goto (pc := 35) (tgt := 52) hG dX8_piece_35 (by decide) ?_
    exact hret _ _ _ _ dX8_piece_52 rfl ⟨congrArg nI (by unfold sx_piece; split <;> omega), rfl⟩
end
section
/-! THE REFERENCE'S SMALL METHODS -/
/-- what its rows hold -/
def mG (av : Nat → Nat → Nat) : Prop := (∀ j, av 1 j ≤ 9) ∧ (∀ j, av 2 j ≤ 9) ∧ (∀ j, av 3 j ≤ 9) ∧ (∀ j, av 4 j ≤ 9) ∧ (∀ j, av 5 j < 8) ∧ (∀ j, av 6 j ≤ 126) ∧ (∀ j, av 7 j ≤ 99)
def mXe (av : Nat → Nat → Nat) (a : Nat) : Nat := if a % 2 = 0 then av 3 (a / 2) else av 1 (a / 2)
def mXb (av : Nat → Nat → Nat) (a : Nat) : Nat := if a % 2 = 0 then av 1 (a / 2) else av 3 (a / 2)
def mYe (av : Nat → Nat → Nat) (a : Nat) : Nat := if a % 2 = 0 then av 4 (a / 2) else av 2 (a / 2)
def mYb (av : Nat → Nat → Nat) (a : Nat) : Nat := if a % 2 = 0 then av 2 (a / 2) else av 4 (a / 2)
def mTw (av : Nat → Nat → Nat) (a : Nat) : Nat := (av 5 (a / 2) + 4 * (a % 2)) % 8
def sx_jmp (p q u v : Nat) : Nat := if p = q ∧ u = v then 0 else 1
def mJ (av : Nat → Nat → Nat) (a b : Nat) : Nat := sx_jmp (mXe av a) (mXb av b) (mYe av a) (mYb av b)
def sx_turn (p q : Nat) : Nat := if 4 < (q + 8 - p) % 8 then 8 - (q + 8 - p) % 8 else (q + 8 - p) % 8
/-- what lies between two steps: its pay, its length -/
def mLp (av : Nat → Nat → Nat) (a b : Nat) : Nat := if mJ av a b = 0 then av 7 (sx_turn (mTw av a) (mTw av b)) else av 7 5
def mLl (av : Nat → Nat → Nat) (a b : Nat) : Nat := if mJ av a b = 0 then 0 else sx_piece (sx_far (mXe av a) (mXb av b)) (sx_far (mYe av a) (mYb av b))
def mGo (av : Nat → Nat → Nat) (a b : Nat) : Nat := 100000 * mLp av a b + av 6 (b / 2) + mLl av a b
def mFrom (av : Nat → Nat → Nat) (L : Nat → Nat) (s a : Nat) : Nat := av 6 (a / 2) + L (18 * sx_diff s (2 ^ (a / 2)) + a)
theorem mXe_le {av : Nat → Nat → Nat} (h : mG av) (a : Nat) : mXe av a ≤ 9 := by unfold mXe; split; exact h.2.2.1 _; exact h.1 _
theorem mXb_le {av : Nat → Nat → Nat} (h : mG av) (a : Nat) : mXb av a ≤ 9 := by unfold mXb; split; exact h.1 _; exact h.2.2.1 _
theorem mYe_le {av : Nat → Nat → Nat} (h : mG av) (a : Nat) : mYe av a ≤ 9 := by unfold mYe; split; exact h.2.2.2.1 _; exact h.2.1 _
theorem mYb_le {av : Nat → Nat → Nat} (h : mG av) (a : Nat) : mYb av a ≤ 9 := by unfold mYb; split; exact h.2.1 _; exact h.2.2.2.1 _
theorem mTw_lt (av : Nat → Nat → Nat) (a : Nat) : mTw av a < 8 := Nat.mod_lt _ (by decide)
theorem sx_turn_le (p q : Nat) : sx_turn p q ≤ 4 := by unfold sx_turn; split <;> omega
theorem sx_piece_le {p q : Nat} (hp : p ≤ 9) (hq : q ≤ 9) : sx_piece p q ≤ 126 := by unfold sx_piece; split <;> omega
theorem mLp_le {av : Nat → Nat → Nat} (h : mG av) (a b : Nat) : mLp av a b ≤ 99 := by unfold mLp; split <;> exact h.2.2.2.2.2.2 _
theorem mLl_le {av : Nat → Nat → Nat} (h : mG av) (a b : Nat) : mLl av a b ≤ 126 := by
  unfold mLl; split
  · omega
  · exact sx_piece_le (by have := sx_far_le _ _ 10 (Nat.lt_succ_of_le (mXe_le h a)) (Nat.lt_succ_of_le (mXb_le h b)); omega) (by have := sx_far_le _ _ 10 (Nat.lt_succ_of_le (mYe_le h a)) (Nat.lt_succ_of_le (mYb_le h b)); omega)
theorem mGo_le {av : Nat → Nat → Nat} (h : mG av) (a b : Nat) : mGo av a b ≤ 9900252 := by
  have h1 := mLp_le h a b
  have h2 := mLl_le h a b
  have h3 := h.2.2.2.2.2.1 (b / 2)
  unfold mGo; omega
def sx_pt (x y : Int32) : Prop := 0 ≤ x.toInt ∧ x.toInt ≤ 9 ∧ 0 ≤ y.toInt ∧ y.toInt ≤ 9
def sx_ptN (x y : Int32) : Nat := if 0 ≤ x.toInt ∧ x.toInt ≤ 9 ∧ 0 ≤ y.toInt ∧ y.toInt ≤ 9 then 1 else 0
def sx_sgn (a c : Nat) : Int32 := if c < a then -1 else if a < c then nI 1 else nI 0
theorem sx_sgn_int (a c : Nat) : (c < a ∧ (sx_sgn a c).toInt = -1) ∨ (a < c ∧ (sx_sgn a c).toInt = 1) ∨ (c = a ∧ (sx_sgn a c).toInt = 0) := by
  unfold sx_sgn
  by_cases h : c < a
  · rw [if_pos h]; exact Or.inl ⟨h, by decide⟩
  · rw [if_neg h]
    by_cases h2 : a < c
    · rw [if_pos h2]; exact Or.inr (Or.inl ⟨h2, by decide⟩)
    · rw [if_neg h2]; exact Or.inr (Or.inr ⟨by omega, by decide⟩)
def sx_dir (a b c d : Nat) : Nat := if d = b then (if a < c then 0 else 4) else if c = a then (if b < d then 2 else 6) else if b < d then (if a < c then 1 else 3) else if a < c then 7 else 5
/-- straight, and from a point to another -/
def sx_str (a b c d : Nat) : Prop := ¬ (a = c ∧ b = d) ∧ (a = c ∨ b = d ∨ sx_far a c = sx_far b d)
/-- no stroke can be made of these -/
def sx_no (n : Nat) (a b c d : Int32) : Prop := ∀ p q u v : Nat, a = nI p → b = nI q → c = nI u → d = nI v → p ≤ 9 → q ≤ 9 → u ≤ 9 → v ≤ 9 → n < 9 → ¬ sx_str p q u v
def sx_isSet (n : Nat) (x : Int32) : Nat := if 0 < x.toInt ∧ x.toInt < (2 ^ n : Nat) then 1 else 0
theorem sx_sub8 {p q : Nat} (h : p < 8) : nI q - nI p + nI 8 = nI (q + 8 - p) := by
  rw [← pk_sub (by omega), ← nI_add, Int32.sub_eq_add_neg, Int32.sub_eq_add_neg, Int32.add_assoc, Int32.add_assoc, Int32.add_comm (-nI p)]
def sx_sum (f : Nat → Nat) : Nat → Nat
  | 0 => 0
  | k + 1 => sx_sum f k + f k
theorem sx_sum_le {f : Nat → Nat} {b : Nat} (h : ∀ j, f j ≤ b) (k : Nat) : sx_sum f k ≤ k * b := by
  induction k with
  | zero => exact Nat.zero_le _
  | succ k ih => have := h k; unfold sx_sum; rw [Nat.succ_mul]; omega
set_option maxHeartbeats 4000000 in
set_option maxRecDepth 100000 in
theorem c_X8_isPoint (l : Launch) (X : sx_X) (ws : va_W) (x y : Int32) : sx_Mi l yX8_isPoint wsX8_isPoint { frames := 0, cells := 0, slots := 0, locals := 0 } X [.int x, .int y] ws (fun r w => r = nI (sx_ptN x y) ∧ w = ws) 0 0 := by
  refine sx_entI (own := RX8) (nL := 2) (by decide +kernel) rfl rfl (Nat.le_of_ble_eq_true rfl) ?_
  intro G hG hN hret
  show sx_W l X G 0 0 0 [(0, .int x), (1, .int y)] [] ws
  refine sx_iload_n (pc := 0) hG dX8_isPoint_0 rfl 0 rfl ?_
  refine sx_if_lt (pc := 1) (tgt := 24) (B := x.toInt < 0) hG dX8_isPoint_1 (by decide) (sx_rlt0 _) (fun c1 => ?_) (fun c1 => ?_)
  · skip
    refine sx_iconst (pc := 24) (v := nI 0) hG dX8_isPoint_24 (by decide +kernel) ?_
    exact hret _ _ _ _ dX8_isPoint_25 (by decide +kernel) ⟨congrArg nI (by unfold sx_ptN; first | (rw [if_pos (by omega)]) | (rw [if_neg (by omega)])), rfl⟩
  · skip
    refine sx_iload_n (pc := 4) hG dX8_isPoint_4 rfl 0 rfl ?_
    refine sx_bipush (pc := 5) (v := nI 9) hG dX8_isPoint_5 (by decide +kernel) ?_
    refine sx_icmp_gt (pc := 7) (tgt := 24) (B := (9 : Int) < x.toInt) hG dX8_isPoint_7 (by decide) (sx_rlt (nI_toInt (by omega)) rfl) (fun c7 => ?_) (fun c7 => ?_)
    · skip
      refine sx_iconst (pc := 24) (v := nI 0) hG dX8_isPoint_24 (by decide +kernel) ?_
      exact hret _ _ _ _ dX8_isPoint_25 (by decide +kernel) ⟨congrArg nI (by unfold sx_ptN; first | (rw [if_pos (by omega)]) | (rw [if_neg (by omega)])), rfl⟩
    · skip
      refine sx_iload_n (pc := 10) hG dX8_isPoint_10 rfl 1 rfl ?_
      refine sx_if_lt (pc := 11) (tgt := 24) (B := y.toInt < 0) hG dX8_isPoint_11 (by decide) (sx_rlt0 _) (fun c11 => ?_) (fun c11 => ?_)
      · skip
        refine sx_iconst (pc := 24) (v := nI 0) hG dX8_isPoint_24 (by decide +kernel) ?_
        exact hret _ _ _ _ dX8_isPoint_25 (by decide +kernel) ⟨congrArg nI (by unfold sx_ptN; first | (rw [if_pos (by omega)]) | (rw [if_neg (by omega)])), rfl⟩
      · skip
        refine sx_iload_n (pc := 14) hG dX8_isPoint_14 rfl 1 rfl ?_
        refine sx_bipush (pc := 15) (v := nI 9) hG dX8_isPoint_15 (by decide +kernel) ?_
        refine sx_icmp_gt (pc := 17) (tgt := 24) (B := (9 : Int) < y.toInt) hG dX8_isPoint_17 (by decide) (sx_rlt (nI_toInt (by omega)) rfl) (fun c17 => ?_) (fun c17 => ?_)
        · skip
          refine sx_iconst (pc := 24) (v := nI 0) hG dX8_isPoint_24 (by decide +kernel) ?_
          exact hret _ _ _ _ dX8_isPoint_25 (by decide +kernel) ⟨congrArg nI (by unfold sx_ptN; first | (rw [if_pos (by omega)]) | (rw [if_neg (by omega)])), rfl⟩
        · skip
          refine sx_iconst (pc := 20) (v := nI 1) hG dX8_isPoint_20 (by decide +kernel) ?_
          refine sx_goto (pc := 21) (tgt := 25) hG dX8_isPoint_21 (by decide) ?_
          exact hret _ _ _ _ dX8_isPoint_25 (by decide +kernel) ⟨congrArg nI (by unfold sx_ptN; first | (rw [if_pos (by omega)]) | (rw [if_neg (by omega)])), rfl⟩

set_option maxHeartbeats 4000000 in
set_option maxRecDepth 100000 in
theorem c_X8_sign (l : Launch) (X : sx_X) (ws : va_W) (a c : Nat) (ha : a < 2 ^ 20) (hc : c < 2 ^ 20) : sx_Mi l yX8_sign wsX8_sign { frames := 0, cells := 0, slots := 0, locals := 0 } X [.int (nI c - nI a)] ws (fun r w => r = sx_sgn a c ∧ w = ws) 0 0 := by
  refine sx_entI (own := RX8) (nL := 1) (by decide +kernel) rfl rfl (Nat.le_of_ble_eq_true rfl) ?_
  intro G hG hN hret
  show sx_W l X G 0 0 0 [(0, .int (nI c - nI a))] [] ws
  have e0 : (nI c - nI a).toInt = (c : Int) - a := pk_sub_toInt (by omega) (by omega)
  refine sx_iload_n (pc := 0) hG dX8_sign_0 rfl 0 rfl ?_
  refine sx_if_ge (pc := 1) (tgt := 8) (B := 0 ≤ (nI c - nI a).toInt) hG dX8_sign_1 (by decide) (sx_rge0 _) (fun c1 => ?_) (fun c1 => ?_)
  · skip
    refine sx_iload_n (pc := 8) hG dX8_sign_8 rfl 0 rfl ?_
    refine sx_if_le (pc := 9) (tgt := 16) (B := (nI c - nI a).toInt ≤ 0) hG dX8_sign_9 (by decide) (sx_rle0 _) (fun c9 => ?_) (fun c9 => ?_)
    · skip
      refine sx_iconst (pc := 16) (v := nI 0) hG dX8_sign_16 (by decide +kernel) ?_
      exact hret _ _ _ _ dX8_sign_17 rfl ⟨by unfold sx_sgn; first | (rw [if_pos (by omega)]) | (rw [if_neg (by omega), if_pos (by omega)]) | (rw [if_neg (by omega), if_neg (by omega)]), rfl⟩
    · skip
      refine sx_iconst (pc := 12) (v := nI 1) hG dX8_sign_12 (by decide +kernel) ?_
      refine sx_goto (pc := 13) (tgt := 17) hG dX8_sign_13 (by decide) ?_
      exact hret _ _ _ _ dX8_sign_17 rfl ⟨by unfold sx_sgn; first | (rw [if_pos (by omega)]) | (rw [if_neg (by omega), if_pos (by omega)]) | (rw [if_neg (by omega), if_neg (by omega)]), rfl⟩
  · skip
    refine sx_iconst (pc := 4) (v := (-1)) hG dX8_sign_4 (by decide +kernel) ?_
    refine sx_goto (pc := 5) (tgt := 17) hG dX8_sign_5 (by decide) ?_
    exact hret _ _ _ _ dX8_sign_17 rfl ⟨by unfold sx_sgn; first | (rw [if_pos (by omega)]) | (rw [if_neg (by omega), if_pos (by omega)]) | (rw [if_neg (by omega), if_neg (by omega)]), rfl⟩

set_option maxHeartbeats 4000000 in
set_option maxRecDepth 100000 in
theorem c_X8_towards (l : Launch) (X : sx_X) (ws : va_W) (a b c d : Nat) : sx_Mi l yX8_towards wsX8_towards { frames := 0, cells := 0, slots := 0, locals := 0 } X [.int (sx_sgn a c), .int (sx_sgn b d)] ws (fun r w => r = nI (sx_dir a b c d) ∧ w = ws) 0 0 := by
  refine sx_entI (own := RX8) (nL := 2) (by decide +kernel) rfl rfl (Nat.le_of_ble_eq_true rfl) ?_
  intro G hG hN hret
  show sx_W l X G 0 0 0 [(0, .int (sx_sgn a c)), (1, .int (sx_sgn b d))] [] ws
  have e1 := sx_sgn_int a c
  have e2 := sx_sgn_int b d
  refine sx_iload_n (pc := 0) hG dX8_towards_0 rfl 1 rfl ?_
  refine sx_if_ne (pc := 1) (tgt := 14) (B := (sx_sgn b d).toInt = 0) hG dX8_towards_1 (by decide) (sx_req0 _) (fun c1 => ?_) (fun c1 => ?_)
  · skip
    refine sx_iload_n (pc := 14) hG dX8_towards_14 rfl 0 rfl ?_
    refine sx_if_ne (pc := 15) (tgt := 29) (B := (sx_sgn a c).toInt = 0) hG dX8_towards_15 (by decide) (sx_req0 _) (fun c15 => ?_) (fun c15 => ?_)
    · skip
      refine sx_iload_n (pc := 29) hG dX8_towards_29 rfl 1 rfl ?_
      refine sx_if_le (pc := 30) (tgt := 45) (B := (sx_sgn b d).toInt ≤ 0) hG dX8_towards_30 (by decide) (sx_rle0 _) (fun c30 => ?_) (fun c30 => ?_)
      · skip
        refine sx_iload_n (pc := 45) hG dX8_towards_45 rfl 0 rfl ?_
        refine sx_if_le (pc := 46) (tgt := 54) (B := (sx_sgn a c).toInt ≤ 0) hG dX8_towards_46 (by decide) (sx_rle0 _) (fun c46 => ?_) (fun c46 => ?_)
        · skip
          refine sx_iconst (pc := 54) (v := nI 5) hG dX8_towards_54 (by decide +kernel) ?_
          exact hret _ _ _ _ dX8_towards_55 rfl ⟨congrArg nI (by unfold sx_dir; (repeat' split) <;> omega), rfl⟩
        · skip
          refine sx_bipush (pc := 49) (v := nI 7) hG dX8_towards_49 (by decide +kernel) ?_
          refine sx_goto (pc := 51) (tgt := 55) hG dX8_towards_51 (by decide) ?_
          exact hret _ _ _ _ dX8_towards_55 rfl ⟨congrArg nI (by unfold sx_dir; (repeat' split) <;> omega), rfl⟩
      · skip
        refine sx_iload_n (pc := 33) hG dX8_towards_33 rfl 0 rfl ?_
        refine sx_if_le (pc := 34) (tgt := 41) (B := (sx_sgn a c).toInt ≤ 0) hG dX8_towards_34 (by decide) (sx_rle0 _) (fun c34 => ?_) (fun c34 => ?_)
        · skip
          refine sx_iconst (pc := 41) (v := nI 3) hG dX8_towards_41 (by decide +kernel) ?_
          refine sx_goto (pc := 42) (tgt := 55) hG dX8_towards_42 (by decide) ?_
          exact hret _ _ _ _ dX8_towards_55 rfl ⟨congrArg nI (by unfold sx_dir; (repeat' split) <;> omega), rfl⟩
        · skip
          refine sx_iconst (pc := 37) (v := nI 1) hG dX8_towards_37 (by decide +kernel) ?_
          refine sx_goto (pc := 38) (tgt := 55) hG dX8_towards_38 (by decide) ?_
          exact hret _ _ _ _ dX8_towards_55 rfl ⟨congrArg nI (by unfold sx_dir; (repeat' split) <;> omega), rfl⟩
    · skip
      refine sx_iload_n (pc := 18) hG dX8_towards_18 rfl 1 rfl ?_
      refine sx_if_le (pc := 19) (tgt := 26) (B := (sx_sgn b d).toInt ≤ 0) hG dX8_towards_19 (by decide) (sx_rle0 _) (fun c19 => ?_) (fun c19 => ?_)
      · skip
        refine sx_bipush (pc := 26) (v := nI 6) hG dX8_towards_26 (by decide +kernel) ?_
        exact hret _ _ _ _ dX8_towards_28 rfl ⟨congrArg nI (by unfold sx_dir; (repeat' split) <;> omega), rfl⟩
      · skip
        refine sx_iconst (pc := 22) (v := nI 2) hG dX8_towards_22 (by decide +kernel) ?_
        refine sx_goto (pc := 23) (tgt := 28) hG dX8_towards_23 (by decide) ?_
        exact hret _ _ _ _ dX8_towards_28 rfl ⟨congrArg nI (by unfold sx_dir; (repeat' split) <;> omega), rfl⟩
  · skip
    refine sx_iload_n (pc := 4) hG dX8_towards_4 rfl 0 rfl ?_
    refine sx_if_le (pc := 5) (tgt := 12) (B := (sx_sgn a c).toInt ≤ 0) hG dX8_towards_5 (by decide) (sx_rle0 _) (fun c5 => ?_) (fun c5 => ?_)
    · skip
      refine sx_iconst (pc := 12) (v := nI 4) hG dX8_towards_12 (by decide +kernel) ?_
      exact hret _ _ _ _ dX8_towards_13 rfl ⟨congrArg nI (by unfold sx_dir; (repeat' split) <;> omega), rfl⟩
    · skip
      refine sx_iconst (pc := 8) (v := nI 0) hG dX8_towards_8 (by decide +kernel) ?_
      refine sx_goto (pc := 9) (tgt := 13) hG dX8_towards_9 (by decide) ?_
      exact hret _ _ _ _ dX8_towards_13 rfl ⟨congrArg nI (by unfold sx_dir; (repeat' split) <;> omega), rfl⟩

theorem i_X8_atX_8 : ∀ w ∈ u_ws RX8 TX8 24, w ∈ wsX8_atX := by decide +kernel
theorem m_X8_atX_f7 : Cond.fieldLink RX8 7 (TX8 1).1 (TX8 1).2.1 (TX8 1).2.2.1 ∈ wsX8_atX := by decide +kernel
theorem m_X8_atX_f16 : Cond.fieldLink RX8 16 (TX8 3).1 (TX8 3).2.1 (TX8 3).2.2.1 ∈ wsX8_atX := by decide +kernel
set_option maxHeartbeats 4000000 in
set_option maxRecDepth 100000 in
theorem c_X8_atX1 (l : Launch) (X : sx_X) (bd : Nat → Nat) (sc : Nat → Int32) (av : Nat → Nat → Nat) (a : Nat) (ha : a < 18) : sx_Mi l yX8_atX wsX8_atX { frames := 0, cells := 0, slots := 0, locals := 0 } X [.ref (bd 0), .int (nI a), .int (nI 1)] (mw X bd sc av) (fun r w => r = nI (mXe av a) ∧ w = mw X bd sc av) 0 0 := by
  refine sx_entI (own := RX8) (nL := 3) (by decide +kernel) rfl rfl (Nat.le_of_ble_eq_true rfl) ?_
  intro G hG hN hret
  show sx_W l X G 0 0 0 [(0, .ref (bd 0)), (1, .int (nI a)), (2, .int (nI 1))] [] (mw X bd sc av)
  refine sx_iload_n (pc := 0) hG dX8_atX_0 rfl 1 rfl ?_
  refine sx_iconst (pc := 1) (v := nI 2) hG dX8_atX_1 (by decide +kernel) ?_
  refine sx_irem (pc := 2) (v := (nI (a % 2))) hG dX8_atX_2 (nI_ne0 (by decide) (by decide)) (pk_rem (by omega) (by decide) (by decide)) ?_
  refine sx_if_ne (pc := 3) (tgt := 10) (B := (a % 2) = 0) hG dX8_atX_3 (by decide) (sx_eq0 (by omega)) (fun c3 => ?_) (fun c3 => ?_)
  · skip
    refine sx_iconst (pc := 10) (v := nI 0) hG dX8_atX_10 (by decide +kernel) ?_
    refine sx_iload_n (pc := 11) hG dX8_atX_11 rfl 2 rfl ?_
    refine sx_icmp_ne (pc := 12) (tgt := 26) (B := 0 = 1) hG dX8_atX_12 (by decide) (nI_eq (by omega) (by omega)) (fun c12 => ?_) (fun c12 => ?_)
    · skip
      refine sx_aload_n (pc := 26) hG dX8_atX_26 rfl 0 rfl ?_
      refine sx_get (pc := 27) (v2 := .ref (bd 1)) (ci := 8) hG i_X8_atX_8 1 m_X8_atX_f7 dX8_atX_27 rfl (by decide) 0 rfl rfl rfl ?_
      refine sx_iload_n (pc := 30) hG dX8_atX_30 rfl 1 rfl ?_
      refine sx_iconst (pc := 31) (v := nI 2) hG dX8_atX_31 (by decide +kernel) ?_
      refine sx_idiv (pc := 32) (v := (nI (a / 2))) hG dX8_atX_32 (nI_ne0 (by decide) (by decide)) (pk_div (by omega) (by decide) (by decide)) ?_
      refine sx_iald (pc := 33) (v := nI ((av 1) (a / 2))) hG 1 dX8_atX_33 rfl (by decide) (by omega) rfl ?_
      exact hret _ _ _ _ dX8_atX_34 rfl ⟨congrArg nI (by unfold mXe; split <;> first | rfl | omega), rfl⟩
    · skip
      exact absurd c12 (by decide)
  · skip
    refine sx_iconst (pc := 6) (v := nI 1) hG dX8_atX_6 (by decide +kernel) ?_
    refine sx_goto (pc := 7) (tgt := 11) hG dX8_atX_7 (by decide) ?_
    refine sx_iload_n (pc := 11) hG dX8_atX_11 rfl 2 rfl ?_
    refine sx_icmp_ne (pc := 12) (tgt := 26) (B := 1 = 1) hG dX8_atX_12 (by decide) (nI_eq (by omega) (by omega)) (fun c12 => ?_) (fun c12 => ?_)
    · skip
      exact absurd (by decide) c12
    · skip
      refine sx_aload_n (pc := 15) hG dX8_atX_15 rfl 0 rfl ?_
      refine sx_get (pc := 16) (v2 := .ref (bd 3)) (ci := 8) hG i_X8_atX_8 3 m_X8_atX_f16 dX8_atX_16 rfl (by decide) 0 rfl rfl rfl ?_
      refine sx_iload_n (pc := 19) hG dX8_atX_19 rfl 1 rfl ?_
      refine sx_iconst (pc := 20) (v := nI 2) hG dX8_atX_20 (by decide +kernel) ?_
      refine sx_idiv (pc := 21) (v := (nI (a / 2))) hG dX8_atX_21 (nI_ne0 (by decide) (by decide)) (pk_div (by omega) (by decide) (by decide)) ?_
      refine sx_iald (pc := 22) (v := nI ((av 3) (a / 2))) hG 3 dX8_atX_22 rfl (by decide) (by omega) rfl ?_
      refine sx_goto (pc := 23) (tgt := 34) hG dX8_atX_23 (by decide) ?_
      exact hret _ _ _ _ dX8_atX_34 rfl ⟨congrArg nI (by unfold mXe; split <;> first | rfl | omega), rfl⟩

set_option maxHeartbeats 4000000 in
set_option maxRecDepth 100000 in
theorem c_X8_atX0 (l : Launch) (X : sx_X) (bd : Nat → Nat) (sc : Nat → Int32) (av : Nat → Nat → Nat) (a : Nat) (ha : a < 18) : sx_Mi l yX8_atX wsX8_atX { frames := 0, cells := 0, slots := 0, locals := 0 } X [.ref (bd 0), .int (nI a), .int (nI 0)] (mw X bd sc av) (fun r w => r = nI (mXb av a) ∧ w = mw X bd sc av) 0 0 := by
  refine sx_entI (own := RX8) (nL := 3) (by decide +kernel) rfl rfl (Nat.le_of_ble_eq_true rfl) ?_
  intro G hG hN hret
  show sx_W l X G 0 0 0 [(0, .ref (bd 0)), (1, .int (nI a)), (2, .int (nI 0))] [] (mw X bd sc av)
  refine sx_iload_n (pc := 0) hG dX8_atX_0 rfl 1 rfl ?_
  refine sx_iconst (pc := 1) (v := nI 2) hG dX8_atX_1 (by decide +kernel) ?_
  refine sx_irem (pc := 2) (v := (nI (a % 2))) hG dX8_atX_2 (nI_ne0 (by decide) (by decide)) (pk_rem (by omega) (by decide) (by decide)) ?_
  refine sx_if_ne (pc := 3) (tgt := 10) (B := (a % 2) = 0) hG dX8_atX_3 (by decide) (sx_eq0 (by omega)) (fun c3 => ?_) (fun c3 => ?_)
  · skip
    refine sx_iconst (pc := 10) (v := nI 0) hG dX8_atX_10 (by decide +kernel) ?_
    refine sx_iload_n (pc := 11) hG dX8_atX_11 rfl 2 rfl ?_
    refine sx_icmp_ne (pc := 12) (tgt := 26) (B := 0 = 0) hG dX8_atX_12 (by decide) (nI_eq (by omega) (by omega)) (fun c12 => ?_) (fun c12 => ?_)
    · skip
      exact absurd (by decide) c12
    · skip
      refine sx_aload_n (pc := 15) hG dX8_atX_15 rfl 0 rfl ?_
      refine sx_get (pc := 16) (v2 := .ref (bd 3)) (ci := 8) hG i_X8_atX_8 3 m_X8_atX_f16 dX8_atX_16 rfl (by decide) 0 rfl rfl rfl ?_
      refine sx_iload_n (pc := 19) hG dX8_atX_19 rfl 1 rfl ?_
      refine sx_iconst (pc := 20) (v := nI 2) hG dX8_atX_20 (by decide +kernel) ?_
      refine sx_idiv (pc := 21) (v := (nI (a / 2))) hG dX8_atX_21 (nI_ne0 (by decide) (by decide)) (pk_div (by omega) (by decide) (by decide)) ?_
      refine sx_iald (pc := 22) (v := nI ((av 3) (a / 2))) hG 3 dX8_atX_22 rfl (by decide) (by omega) rfl ?_
      refine sx_goto (pc := 23) (tgt := 34) hG dX8_atX_23 (by decide) ?_
      exact hret _ _ _ _ dX8_atX_34 rfl ⟨congrArg nI (by unfold mXb; split <;> first | rfl | omega), rfl⟩
  · skip
    refine sx_iconst (pc := 6) (v := nI 1) hG dX8_atX_6 (by decide +kernel) ?_
    refine sx_goto (pc := 7) (tgt := 11) hG dX8_atX_7 (by decide) ?_
    refine sx_iload_n (pc := 11) hG dX8_atX_11 rfl 2 rfl ?_
    refine sx_icmp_ne (pc := 12) (tgt := 26) (B := 1 = 0) hG dX8_atX_12 (by decide) (nI_eq (by omega) (by omega)) (fun c12 => ?_) (fun c12 => ?_)
    · skip
      refine sx_aload_n (pc := 26) hG dX8_atX_26 rfl 0 rfl ?_
      refine sx_get (pc := 27) (v2 := .ref (bd 1)) (ci := 8) hG i_X8_atX_8 1 m_X8_atX_f7 dX8_atX_27 rfl (by decide) 0 rfl rfl rfl ?_
      refine sx_iload_n (pc := 30) hG dX8_atX_30 rfl 1 rfl ?_
      refine sx_iconst (pc := 31) (v := nI 2) hG dX8_atX_31 (by decide +kernel) ?_
      refine sx_idiv (pc := 32) (v := (nI (a / 2))) hG dX8_atX_32 (nI_ne0 (by decide) (by decide)) (pk_div (by omega) (by decide) (by decide)) ?_
      refine sx_iald (pc := 33) (v := nI ((av 1) (a / 2))) hG 1 dX8_atX_33 rfl (by decide) (by omega) rfl ?_
      exact hret _ _ _ _ dX8_atX_34 rfl ⟨congrArg nI (by unfold mXb; split <;> first | rfl | omega), rfl⟩
    · skip
      exact absurd c12 (by decide)

theorem i_X8_atY_8 : ∀ w ∈ u_ws RX8 TX8 24, w ∈ wsX8_atY := by decide +kernel
theorem m_X8_atY_f13 : Cond.fieldLink RX8 13 (TX8 2).1 (TX8 2).2.1 (TX8 2).2.2.1 ∈ wsX8_atY := by decide +kernel
theorem m_X8_atY_f19 : Cond.fieldLink RX8 19 (TX8 4).1 (TX8 4).2.1 (TX8 4).2.2.1 ∈ wsX8_atY := by decide +kernel
set_option maxHeartbeats 4000000 in
set_option maxRecDepth 100000 in
theorem c_X8_atY1 (l : Launch) (X : sx_X) (bd : Nat → Nat) (sc : Nat → Int32) (av : Nat → Nat → Nat) (a : Nat) (ha : a < 18) : sx_Mi l yX8_atY wsX8_atY { frames := 0, cells := 0, slots := 0, locals := 0 } X [.ref (bd 0), .int (nI a), .int (nI 1)] (mw X bd sc av) (fun r w => r = nI (mYe av a) ∧ w = mw X bd sc av) 0 0 := by
  refine sx_entI (own := RX8) (nL := 3) (by decide +kernel) rfl rfl (Nat.le_of_ble_eq_true rfl) ?_
  intro G hG hN hret
  show sx_W l X G 0 0 0 [(0, .ref (bd 0)), (1, .int (nI a)), (2, .int (nI 1))] [] (mw X bd sc av)
  refine sx_iload_n (pc := 0) hG dX8_atY_0 rfl 1 rfl ?_
  refine sx_iconst (pc := 1) (v := nI 2) hG dX8_atY_1 (by decide +kernel) ?_
  refine sx_irem (pc := 2) (v := (nI (a % 2))) hG dX8_atY_2 (nI_ne0 (by decide) (by decide)) (pk_rem (by omega) (by decide) (by decide)) ?_
  refine sx_if_ne (pc := 3) (tgt := 10) (B := (a % 2) = 0) hG dX8_atY_3 (by decide) (sx_eq0 (by omega)) (fun c3 => ?_) (fun c3 => ?_)
  · skip
    refine sx_iconst (pc := 10) (v := nI 0) hG dX8_atY_10 (by decide +kernel) ?_
    refine sx_iload_n (pc := 11) hG dX8_atY_11 rfl 2 rfl ?_
    refine sx_icmp_ne (pc := 12) (tgt := 26) (B := 0 = 1) hG dX8_atY_12 (by decide) (nI_eq (by omega) (by omega)) (fun c12 => ?_) (fun c12 => ?_)
    · skip
      refine sx_aload_n (pc := 26) hG dX8_atY_26 rfl 0 rfl ?_
      refine sx_get (pc := 27) (v2 := .ref (bd 2)) (ci := 8) hG i_X8_atY_8 2 m_X8_atY_f13 dX8_atY_27 rfl (by decide) 0 rfl rfl rfl ?_
      refine sx_iload_n (pc := 30) hG dX8_atY_30 rfl 1 rfl ?_
      refine sx_iconst (pc := 31) (v := nI 2) hG dX8_atY_31 (by decide +kernel) ?_
      refine sx_idiv (pc := 32) (v := (nI (a / 2))) hG dX8_atY_32 (nI_ne0 (by decide) (by decide)) (pk_div (by omega) (by decide) (by decide)) ?_
      refine sx_iald (pc := 33) (v := nI ((av 2) (a / 2))) hG 2 dX8_atY_33 rfl (by decide) (by omega) rfl ?_
      exact hret _ _ _ _ dX8_atY_34 rfl ⟨congrArg nI (by unfold mYe; split <;> first | rfl | omega), rfl⟩
    · skip
      exact absurd c12 (by decide)
  · skip
    refine sx_iconst (pc := 6) (v := nI 1) hG dX8_atY_6 (by decide +kernel) ?_
    refine sx_goto (pc := 7) (tgt := 11) hG dX8_atY_7 (by decide) ?_
    refine sx_iload_n (pc := 11) hG dX8_atY_11 rfl 2 rfl ?_
    refine sx_icmp_ne (pc := 12) (tgt := 26) (B := 1 = 1) hG dX8_atY_12 (by decide) (nI_eq (by omega) (by omega)) (fun c12 => ?_) (fun c12 => ?_)
    · skip
      exact absurd (by decide) c12
    · skip
      refine sx_aload_n (pc := 15) hG dX8_atY_15 rfl 0 rfl ?_
      refine sx_get (pc := 16) (v2 := .ref (bd 4)) (ci := 8) hG i_X8_atY_8 4 m_X8_atY_f19 dX8_atY_16 rfl (by decide) 0 rfl rfl rfl ?_
      refine sx_iload_n (pc := 19) hG dX8_atY_19 rfl 1 rfl ?_
      refine sx_iconst (pc := 20) (v := nI 2) hG dX8_atY_20 (by decide +kernel) ?_
      refine sx_idiv (pc := 21) (v := (nI (a / 2))) hG dX8_atY_21 (nI_ne0 (by decide) (by decide)) (pk_div (by omega) (by decide) (by decide)) ?_
      refine sx_iald (pc := 22) (v := nI ((av 4) (a / 2))) hG 4 dX8_atY_22 rfl (by decide) (by omega) rfl ?_
      refine sx_goto (pc := 23) (tgt := 34) hG dX8_atY_23 (by decide) ?_
      exact hret _ _ _ _ dX8_atY_34 rfl ⟨congrArg nI (by unfold mYe; split <;> first | rfl | omega), rfl⟩

set_option maxHeartbeats 4000000 in
set_option maxRecDepth 100000 in
theorem c_X8_atY0 (l : Launch) (X : sx_X) (bd : Nat → Nat) (sc : Nat → Int32) (av : Nat → Nat → Nat) (a : Nat) (ha : a < 18) : sx_Mi l yX8_atY wsX8_atY { frames := 0, cells := 0, slots := 0, locals := 0 } X [.ref (bd 0), .int (nI a), .int (nI 0)] (mw X bd sc av) (fun r w => r = nI (mYb av a) ∧ w = mw X bd sc av) 0 0 := by
  refine sx_entI (own := RX8) (nL := 3) (by decide +kernel) rfl rfl (Nat.le_of_ble_eq_true rfl) ?_
  intro G hG hN hret
  show sx_W l X G 0 0 0 [(0, .ref (bd 0)), (1, .int (nI a)), (2, .int (nI 0))] [] (mw X bd sc av)
  refine sx_iload_n (pc := 0) hG dX8_atY_0 rfl 1 rfl ?_
  refine sx_iconst (pc := 1) (v := nI 2) hG dX8_atY_1 (by decide +kernel) ?_
  refine sx_irem (pc := 2) (v := (nI (a % 2))) hG dX8_atY_2 (nI_ne0 (by decide) (by decide)) (pk_rem (by omega) (by decide) (by decide)) ?_
  refine sx_if_ne (pc := 3) (tgt := 10) (B := (a % 2) = 0) hG dX8_atY_3 (by decide) (sx_eq0 (by omega)) (fun c3 => ?_) (fun c3 => ?_)
  · skip
    refine sx_iconst (pc := 10) (v := nI 0) hG dX8_atY_10 (by decide +kernel) ?_
    refine sx_iload_n (pc := 11) hG dX8_atY_11 rfl 2 rfl ?_
    refine sx_icmp_ne (pc := 12) (tgt := 26) (B := 0 = 0) hG dX8_atY_12 (by decide) (nI_eq (by omega) (by omega)) (fun c12 => ?_) (fun c12 => ?_)
    · skip
      exact absurd (by decide) c12
    · skip
      refine sx_aload_n (pc := 15) hG dX8_atY_15 rfl 0 rfl ?_
      refine sx_get (pc := 16) (v2 := .ref (bd 4)) (ci := 8) hG i_X8_atY_8 4 m_X8_atY_f19 dX8_atY_16 rfl (by decide) 0 rfl rfl rfl ?_
      refine sx_iload_n (pc := 19) hG dX8_atY_19 rfl 1 rfl ?_
      refine sx_iconst (pc := 20) (v := nI 2) hG dX8_atY_20 (by decide +kernel) ?_
      refine sx_idiv (pc := 21) (v := (nI (a / 2))) hG dX8_atY_21 (nI_ne0 (by decide) (by decide)) (pk_div (by omega) (by decide) (by decide)) ?_
      refine sx_iald (pc := 22) (v := nI ((av 4) (a / 2))) hG 4 dX8_atY_22 rfl (by decide) (by omega) rfl ?_
      refine sx_goto (pc := 23) (tgt := 34) hG dX8_atY_23 (by decide) ?_
      exact hret _ _ _ _ dX8_atY_34 rfl ⟨congrArg nI (by unfold mYb; split <;> first | rfl | omega), rfl⟩
  · skip
    refine sx_iconst (pc := 6) (v := nI 1) hG dX8_atY_6 (by decide +kernel) ?_
    refine sx_goto (pc := 7) (tgt := 11) hG dX8_atY_7 (by decide) ?_
    refine sx_iload_n (pc := 11) hG dX8_atY_11 rfl 2 rfl ?_
    refine sx_icmp_ne (pc := 12) (tgt := 26) (B := 1 = 0) hG dX8_atY_12 (by decide) (nI_eq (by omega) (by omega)) (fun c12 => ?_) (fun c12 => ?_)
    · skip
      refine sx_aload_n (pc := 26) hG dX8_atY_26 rfl 0 rfl ?_
      refine sx_get (pc := 27) (v2 := .ref (bd 2)) (ci := 8) hG i_X8_atY_8 2 m_X8_atY_f13 dX8_atY_27 rfl (by decide) 0 rfl rfl rfl ?_
      refine sx_iload_n (pc := 30) hG dX8_atY_30 rfl 1 rfl ?_
      refine sx_iconst (pc := 31) (v := nI 2) hG dX8_atY_31 (by decide +kernel) ?_
      refine sx_idiv (pc := 32) (v := (nI (a / 2))) hG dX8_atY_32 (nI_ne0 (by decide) (by decide)) (pk_div (by omega) (by decide) (by decide)) ?_
      refine sx_iald (pc := 33) (v := nI ((av 2) (a / 2))) hG 2 dX8_atY_33 rfl (by decide) (by omega) rfl ?_
      exact hret _ _ _ _ dX8_atY_34 rfl ⟨congrArg nI (by unfold mYb; split <;> first | rfl | omega), rfl⟩
    · skip
      exact absurd c12 (by decide)

theorem i_X8_towardsOf_8 : ∀ w ∈ u_ws RX8 TX8 24, w ∈ wsX8_towardsOf := by decide +kernel
theorem m_X8_towardsOf_f22 : Cond.fieldLink RX8 22 (TX8 5).1 (TX8 5).2.1 (TX8 5).2.2.1 ∈ wsX8_towardsOf := by decide +kernel
set_option maxHeartbeats 4000000 in
set_option maxRecDepth 100000 in
theorem c_X8_towardsOf (l : Launch) (X : sx_X) (bd : Nat → Nat) (sc : Nat → Int32) (av : Nat → Nat → Nat) (a : Nat) (ha : a < 18) (hg : mG av) : sx_Mi l yX8_towardsOf wsX8_towardsOf { frames := 0, cells := 0, slots := 0, locals := 0 } X [.ref (bd 0), .int (nI a)] (mw X bd sc av) (fun r w => r = nI (mTw av a) ∧ w = mw X bd sc av) 0 0 := by
  refine sx_entI (own := RX8) (nL := 2) (by decide +kernel) rfl rfl (Nat.le_of_ble_eq_true rfl) ?_
  intro G hG hN hret
  show sx_W l X G 0 0 0 [(0, .ref (bd 0)), (1, .int (nI a))] [] (mw X bd sc av)
  have hw := hg.2.2.2.2.1 (a / 2)
  refine sx_aload_n (pc := 0) hG dX8_towardsOf_0 rfl 0 rfl ?_
  refine sx_get (pc := 1) (v2 := .ref (bd 5)) (ci := 8) hG i_X8_towardsOf_8 5 m_X8_towardsOf_f22 dX8_towardsOf_1 rfl (by decide) 0 rfl rfl rfl ?_
  refine sx_iload_n (pc := 4) hG dX8_towardsOf_4 rfl 1 rfl ?_
  refine sx_iconst (pc := 5) (v := nI 2) hG dX8_towardsOf_5 (by decide +kernel) ?_
  refine sx_idiv (pc := 6) (v := (nI (a / 2))) hG dX8_towardsOf_6 (nI_ne0 (by decide) (by decide)) (pk_div (by omega) (by decide) (by decide)) ?_
  refine sx_iald (pc := 7) (v := nI ((av 5) (a / 2))) hG 5 dX8_towardsOf_7 rfl (by decide) (by omega) rfl ?_
  refine sx_iconst (pc := 8) (v := nI 4) hG dX8_towardsOf_8 (by decide +kernel) ?_
  refine sx_iload_n (pc := 9) hG dX8_towardsOf_9 rfl 1 rfl ?_
  refine sx_iconst (pc := 10) (v := nI 2) hG dX8_towardsOf_10 (by decide +kernel) ?_
  refine sx_irem (pc := 11) (v := (nI (a % 2))) hG dX8_towardsOf_11 (nI_ne0 (by decide) (by decide)) (pk_rem (by omega) (by decide) (by decide)) ?_
  refine sx_imul (pc := 12) (v := (nI (4 * (a % 2)))) hG dX8_towardsOf_12 (pk_mul 4 (a % 2)) ?_
  refine sx_iadd (pc := 13) (v := (nI ((av 5) (a / 2) + (4 * (a % 2))))) hG dX8_towardsOf_13 (nI_add ((av 5) (a / 2)) (4 * (a % 2))) ?_
  refine sx_bipush (pc := 14) (v := nI 8) hG dX8_towardsOf_14 (by decide +kernel) ?_
  refine sx_irem (pc := 16) (v := (nI (((av 5) (a / 2) + (4 * (a % 2))) % 8))) hG dX8_towardsOf_16 (nI_ne0 (by decide) (by decide)) (pk_rem (by omega) (by decide) (by decide)) ?_
  exact hret _ _ _ _ dX8_towardsOf_17 rfl ⟨rfl, rfl⟩

set_option maxHeartbeats 4000000 in
set_option maxRecDepth 100000 in
theorem c_X8_isJump (l : Launch) (X : sx_X) (bd : Nat → Nat) (sc : Nat → Int32) (av : Nat → Nat → Nat) (a b : Nat) (ha : a < 18) (hb : b < 18) (hg : mG av) : sx_Mi l yX8_isJump wsX8_isJump { frames := 1, cells := 0, slots := 0, locals := 22 } X [.ref (bd 0), .int (nI a), .int (nI b)] (mw X bd sc av) (fun r w => r = nI (mJ av a b) ∧ w = mw X bd sc av) 0 0 := by
  refine sx_entI (own := RX8) (nL := 3) (by decide +kernel) rfl rfl (Nat.le_of_ble_eq_true rfl) ?_
  intro G hG hN hret
  show sx_W l X G 0 0 0 [(0, .ref (bd 0)), (1, .int (nI a)), (2, .int (nI b))] [] (mw X bd sc av)
  have hxa := mXe_le hg a
  have hxb := mXb_le hg b
  have hya := mYe_le hg a
  have hyb := mYb_le hg b
  refine sx_aload_n (pc := 0) hG dX8_isJump_0 rfl 0 rfl ?_
  refine sx_iload_n (pc := 1) hG dX8_isJump_1 rfl 1 rfl ?_
  refine sx_iconst (pc := 2) (v := nI 1) hG dX8_isJump_2 (by decide +kernel) ?_
  refine sx_callViw (pc := 3) (n9 := 2) (As := [.int (nI a), .int (nI 1)]) (st := []) (b := (bd 0)) (ci := 8) hG (c_X8_atX1 l X bd sc av a (by omega)) gX8_isJump_X8_atX rfl (by decide +kernel) rfl 0 rfl rfl rfl dX8_isJump_3 ⟨rfl, rfl⟩ ⟨Nat.le_of_ble_eq_true rfl, Nat.le_of_ble_eq_true rfl⟩ (Nat.le_of_ble_eq_true rfl) ⟨Nat.le_of_ble_eq_true rfl, Nat.le_of_ble_eq_true rfl⟩ (fun r w1 hp => ?_)
  obtain ⟨hr9, hw9⟩ := hp
  have hr9 : r = (nI (mXe av a)) := hr9
  subst hr9
  refine sx_weq hw9 ?_
  refine sx_aload_n (pc := 6) hG dX8_isJump_6 rfl 0 rfl ?_
  refine sx_iload_n (pc := 7) hG dX8_isJump_7 rfl 2 rfl ?_
  refine sx_iconst (pc := 8) (v := nI 0) hG dX8_isJump_8 (by decide +kernel) ?_
  refine sx_callViw (pc := 9) (n9 := 2) (As := [.int (nI b), .int (nI 0)]) (st := [.int (nI (mXe av a))]) (b := (bd 0)) (ci := 8) hG (c_X8_atX0 l X bd sc av b (by omega)) gX8_isJump_X8_atX rfl (by decide +kernel) rfl 0 rfl rfl rfl dX8_isJump_9 ⟨rfl, rfl⟩ ⟨Nat.le_of_ble_eq_true rfl, Nat.le_of_ble_eq_true rfl⟩ (Nat.le_of_ble_eq_true rfl) ⟨Nat.le_of_ble_eq_true rfl, Nat.le_of_ble_eq_true rfl⟩ (fun r w1 hp => ?_)
  obtain ⟨hr9, hw9⟩ := hp
  have hr9 : r = (nI (mXb av b)) := hr9
  subst hr9
  refine sx_weq hw9 ?_
  refine sx_icmp_ne (pc := 12) (tgt := 30) (B := (mXe av a) = (mXb av b)) hG dX8_isJump_12 (by decide) (nI_eq (by omega) (by omega)) (fun c12 => ?_) (fun c12 => ?_)
  · skip
    refine sx_iconst (pc := 30) (v := nI 1) hG dX8_isJump_30 (by decide +kernel) ?_
    refine sx_goto (pc := 31) (tgt := 35) hG dX8_isJump_31 (by decide) ?_
    exact hret _ _ _ _ dX8_isJump_35 (by decide +kernel) ⟨congrArg nI (by unfold mJ sx_jmp; first | (rw [if_pos (by omega)]) | (rw [if_neg (by omega)])), rfl⟩
  · skip
    refine sx_aload_n (pc := 15) hG dX8_isJump_15 rfl 0 rfl ?_
    refine sx_iload_n (pc := 16) hG dX8_isJump_16 rfl 1 rfl ?_
    refine sx_iconst (pc := 17) (v := nI 1) hG dX8_isJump_17 (by decide +kernel) ?_
    refine sx_callViw (pc := 18) (n9 := 2) (As := [.int (nI a), .int (nI 1)]) (st := []) (b := (bd 0)) (ci := 8) hG (c_X8_atY1 l X bd sc av a (by omega)) gX8_isJump_X8_atY rfl (by decide +kernel) rfl 0 rfl rfl rfl dX8_isJump_18 ⟨rfl, rfl⟩ ⟨Nat.le_of_ble_eq_true rfl, Nat.le_of_ble_eq_true rfl⟩ (Nat.le_of_ble_eq_true rfl) ⟨Nat.le_of_ble_eq_true rfl, Nat.le_of_ble_eq_true rfl⟩ (fun r w1 hp => ?_)
    obtain ⟨hr9, hw9⟩ := hp
    have hr9 : r = (nI (mYe av a)) := hr9
    subst hr9
    refine sx_weq hw9 ?_
    refine sx_aload_n (pc := 21) hG dX8_isJump_21 rfl 0 rfl ?_
    refine sx_iload_n (pc := 22) hG dX8_isJump_22 rfl 2 rfl ?_
    refine sx_iconst (pc := 23) (v := nI 0) hG dX8_isJump_23 (by decide +kernel) ?_
    refine sx_callViw (pc := 24) (n9 := 2) (As := [.int (nI b), .int (nI 0)]) (st := [.int (nI (mYe av a))]) (b := (bd 0)) (ci := 8) hG (c_X8_atY0 l X bd sc av b (by omega)) gX8_isJump_X8_atY rfl (by decide +kernel) rfl 0 rfl rfl rfl dX8_isJump_24 ⟨rfl, rfl⟩ ⟨Nat.le_of_ble_eq_true rfl, Nat.le_of_ble_eq_true rfl⟩ (Nat.le_of_ble_eq_true rfl) ⟨Nat.le_of_ble_eq_true rfl, Nat.le_of_ble_eq_true rfl⟩ (fun r w1 hp => ?_)
    obtain ⟨hr9, hw9⟩ := hp
    have hr9 : r = (nI (mYb av b)) := hr9
    subst hr9
    refine sx_weq hw9 ?_
    refine sx_icmp_eq (pc := 27) (tgt := 34) (B := (mYe av a) = (mYb av b)) hG dX8_isJump_27 (by decide) (nI_eq (by omega) (by omega)) (fun c27 => ?_) (fun c27 => ?_)
    · skip
      refine sx_iconst (pc := 34) (v := nI 0) hG dX8_isJump_34 (by decide +kernel) ?_
      exact hret _ _ _ _ dX8_isJump_35 (by decide +kernel) ⟨congrArg nI (by unfold mJ sx_jmp; first | (rw [if_pos (by omega)]) | (rw [if_neg (by omega)])), rfl⟩
    · skip
      refine sx_iconst (pc := 30) (v := nI 1) hG dX8_isJump_30 (by decide +kernel) ?_
      refine sx_goto (pc := 31) (tgt := 35) hG dX8_isJump_31 (by decide) ?_
      exact hret _ _ _ _ dX8_isJump_35 (by decide +kernel) ⟨congrArg nI (by unfold mJ sx_jmp; first | (rw [if_pos (by omega)]) | (rw [if_neg (by omega)])), rfl⟩

theorem i_X8_goes_8 : ∀ w ∈ u_ws RX8 TX8 24, w ∈ wsX8_goes := by decide +kernel
theorem m_X8_goes_f25 : Cond.fieldLink RX8 25 (TX8 6).1 (TX8 6).2.1 (TX8 6).2.2.1 ∈ wsX8_goes := by decide +kernel
theorem m_X8_goes_c107 : Cond.constant RX8 107 (100000) ∈ wsX8_goes := by decide +kernel
theorem m_X8_goes_f28 : Cond.fieldLink RX8 28 (TX8 7).1 (TX8 7).2.1 (TX8 7).2.2.1 ∈ wsX8_goes := by decide +kernel
set_option maxHeartbeats 4000000 in
set_option maxRecDepth 100000 in
theorem c_X8_goes (l : Launch) (X : sx_X) (bd : Nat → Nat) (sc : Nat → Int32) (av : Nat → Nat → Nat) (a b : Nat) (ha : a < 18) (hb : b < 18) (hg : mG av) : sx_Mi l yX8_goes wsX8_goes { frames := 2, cells := 0, slots := 0, locals := 46 } X [.ref (bd 0), .int (nI a), .int (nI b)] (mw X bd sc av) (fun r w => r = nI (mGo av a b) ∧ w = mw X bd sc av) 0 0 := by
  refine sx_entI (own := RX8) (nL := 5) (by decide +kernel) rfl rfl (Nat.le_of_ble_eq_true rfl) ?_
  intro G hG hN hret
  show sx_W l X G 0 0 0 [(0, .ref (bd 0)), (1, .int (nI a)), (2, .int (nI b))] [] (mw X bd sc av)
  have hxa := mXe_le hg a
  have hxb := mXb_le hg b
  have hya := mYe_le hg a
  have hyb := mYb_le hg b
  have hta := mTw_lt av a
  have htb := mTw_lt av b
  have hs := hg.2.2.2.2.2.1 (b / 2)
  have hp5 := hg.2.2.2.2.2.2 5
  have hjl : mJ av a b ≤ 1 := by unfold mJ sx_jmp; split <;> omega
  have join_t : ∀ (t : Nat), (t = sx_turn (mTw av a) (mTw av b)) → (mJ av a b = 0) → sx_W l X G 0 0 99 [(0, .ref (bd 0)), (1, .int (nI a)), (2, .int (nI b)), (3, .int (nI (av 6 (b / 2)))), (4, .int (nI ((mTw av b + 8 - mTw av a) % 8)))] [.int (nI t), .ref (bd 7), .int (nI 100000)] (mw X bd sc av) := by
    intro t ht hj
    have ht4 := sx_turn_le (mTw av a) (mTw av b)
    have hpt := hg.2.2.2.2.2.2 t
    refine sx_iald (pc := 99) (v := nI ((av 7) t)) hG 7 dX8_goes_99 rfl (by decide) (by omega) rfl ?_
    refine sx_imul (pc := 100) (v := (nI (100000 * ((av 7) t)))) hG dX8_goes_100 (pk_mul 100000 ((av 7) t)) ?_
    refine sx_iload_n (pc := 101) hG dX8_goes_101 rfl 3 rfl ?_
    refine sx_iadd (pc := 102) (v := (nI (100000 * ((av 7) t) + (av 6 (b / 2))))) hG dX8_goes_102 (nI_add (100000 * ((av 7) t)) (av 6 (b / 2))) ?_
    exact hret _ _ _ _ dX8_goes_103 rfl ⟨congrArg nI (by subst ht; unfold mGo mLp mLl; rw [if_pos hj, if_pos hj]; omega), rfl⟩
  refine sx_aload_n (pc := 0) hG dX8_goes_0 rfl 0 rfl ?_
  refine sx_get (pc := 1) (v2 := .ref (bd 6)) (ci := 8) hG i_X8_goes_8 6 m_X8_goes_f25 dX8_goes_1 rfl (by decide) 0 rfl rfl rfl ?_
  refine sx_iload_n (pc := 4) hG dX8_goes_4 rfl 2 rfl ?_
  refine sx_iconst (pc := 5) (v := nI 2) hG dX8_goes_5 (by decide +kernel) ?_
  refine sx_idiv (pc := 6) (v := (nI (b / 2))) hG dX8_goes_6 (nI_ne0 (by decide) (by decide)) (pk_div (by omega) (by decide) (by decide)) ?_
  refine sx_iald (pc := 7) (v := nI ((av 6) (b / 2))) hG 6 dX8_goes_7 rfl (by decide) (by omega) rfl ?_
  refine sx_istore_n (pc := 8) (lv2 := [(0, .ref (bd 0)), (1, .int (nI a)), (2, .int (nI b)), (3, .int (nI ((av 6) (b / 2))))]) hG [1, 2, 3, 0] dX8_goes_8 rfl hN (by decide) rfl ?_
  refine sx_aload_n (pc := 9) hG dX8_goes_9 rfl 0 rfl ?_
  refine sx_iload_n (pc := 10) hG dX8_goes_10 rfl 1 rfl ?_
  refine sx_iload_n (pc := 11) hG dX8_goes_11 rfl 2 rfl ?_
  refine sx_callViw (pc := 12) (n9 := 2) (As := [.int (nI a), .int (nI b)]) (st := []) (b := (bd 0)) (ci := 8) hG (c_X8_isJump l X bd sc av a b (by omega) (by omega) hg) gX8_goes_X8_isJump rfl (by decide +kernel) rfl 0 rfl rfl rfl dX8_goes_12 ⟨rfl, rfl⟩ ⟨Nat.le_of_ble_eq_true rfl, Nat.le_of_ble_eq_true rfl⟩ (Nat.le_of_ble_eq_true rfl) ⟨Nat.le_of_ble_eq_true rfl, Nat.le_of_ble_eq_true rfl⟩ (fun r w1 hp => ?_)
  obtain ⟨hr9, hw9⟩ := hp
  have hr9 : r = (nI (mJ av a b)) := hr9
  subst hr9
  refine sx_weq hw9 ?_
  refine sx_if_eq (pc := 15) (tgt := 58) (B := (mJ av a b) = 0) hG dX8_goes_15 (by decide) (sx_eq0 (by omega)) (fun c15 => ?_) (fun c15 => ?_)
  · skip
    refine sx_aload_n (pc := 58) hG dX8_goes_58 rfl 0 rfl ?_
    refine sx_iload_n (pc := 59) hG dX8_goes_59 rfl 2 rfl ?_
    refine sx_callViw (pc := 60) (n9 := 1) (As := [.int (nI b)]) (st := []) (b := (bd 0)) (ci := 8) hG (c_X8_towardsOf l X bd sc av b (by omega) hg) gX8_goes_X8_towardsOf rfl (by decide +kernel) rfl 0 rfl rfl rfl dX8_goes_60 ⟨rfl, rfl⟩ ⟨Nat.le_of_ble_eq_true rfl, Nat.le_of_ble_eq_true rfl⟩ (Nat.le_of_ble_eq_true rfl) ⟨Nat.le_of_ble_eq_true rfl, Nat.le_of_ble_eq_true rfl⟩ (fun r w1 hp => ?_)
    obtain ⟨hr9, hw9⟩ := hp
    have hr9 : r = (nI (mTw av b)) := hr9
    subst hr9
    refine sx_weq hw9 ?_
    refine sx_aload_n (pc := 63) hG dX8_goes_63 rfl 0 rfl ?_
    refine sx_iload_n (pc := 64) hG dX8_goes_64 rfl 1 rfl ?_
    refine sx_callViw (pc := 65) (n9 := 1) (As := [.int (nI a)]) (st := [.int (nI (mTw av b))]) (b := (bd 0)) (ci := 8) hG (c_X8_towardsOf l X bd sc av a (by omega) hg) gX8_goes_X8_towardsOf rfl (by decide +kernel) rfl 0 rfl rfl rfl dX8_goes_65 ⟨rfl, rfl⟩ ⟨Nat.le_of_ble_eq_true rfl, Nat.le_of_ble_eq_true rfl⟩ (Nat.le_of_ble_eq_true rfl) ⟨Nat.le_of_ble_eq_true rfl, Nat.le_of_ble_eq_true rfl⟩ (fun r w1 hp => ?_)
    obtain ⟨hr9, hw9⟩ := hp
    have hr9 : r = (nI (mTw av a)) := hr9
    subst hr9
    refine sx_weq hw9 ?_
    refine sx_isub (pc := 68) (v := (nI (mTw av b) - nI (mTw av a))) hG dX8_goes_68 rfl ?_
    refine sx_bipush (pc := 69) (v := nI 8) hG dX8_goes_69 (by decide +kernel) ?_
    refine sx_iadd (pc := 71) (v := (nI (mTw av b + 8 - mTw av a))) hG dX8_goes_71 (sx_sub8 hta) ?_
    refine sx_bipush (pc := 72) (v := nI 8) hG dX8_goes_72 (by decide +kernel) ?_
    refine sx_irem (pc := 74) (v := (nI ((mTw av b + 8 - mTw av a) % 8))) hG dX8_goes_74 (nI_ne0 (by decide) (by decide)) (pk_rem (by omega) (by decide) (by decide)) ?_
    refine sx_istore (pc := 75) (lv2 := [(0, .ref (bd 0)), (1, .int (nI a)), (2, .int (nI b)), (3, .int (nI ((av 6) (b / 2)))), (4, .int (nI ((mTw av b + 8 - mTw av a) % 8)))]) hG [1, 2, 3, 4, 0] dX8_goes_75 hN (by decide) rfl ?_
    refine sx_ldc (pc := 77) (v2 := nI 100000) hG m_X8_goes_c107 dX8_goes_77 (by decide +kernel) ?_
    refine sx_aload_n (pc := 79) hG dX8_goes_79 rfl 0 rfl ?_
    refine sx_get (pc := 80) (v2 := .ref (bd 7)) (ci := 8) hG i_X8_goes_8 7 m_X8_goes_f28 dX8_goes_80 rfl (by decide) 0 rfl rfl rfl ?_
    refine sx_iload (pc := 83) hG dX8_goes_83 4 rfl ?_
    refine sx_iconst (pc := 85) (v := nI 4) hG dX8_goes_85 (by decide +kernel) ?_
    refine sx_icmp_le (pc := 86) (tgt := 97) (B := ((mTw av b + 8 - mTw av a) % 8) ≤ 4) hG dX8_goes_86 (by decide) (nI_leI (by omega) (by omega)) (fun c86 => ?_) (fun c86 => ?_)
    · skip
      refine sx_iload (pc := 97) hG dX8_goes_97 4 rfl ?_
      refine join_t _ (by unfold sx_turn; split <;> omega) c15
    · skip
      refine sx_bipush (pc := 89) (v := nI 8) hG dX8_goes_89 (by decide +kernel) ?_
      refine sx_iload (pc := 91) hG dX8_goes_91 4 rfl ?_
      refine sx_isub (pc := 93) (v := (nI (8 - ((mTw av b + 8 - mTw av a) % 8)))) hG dX8_goes_93 (pk_sub (by omega)) ?_
      refine sx_goto (pc := 94) (tgt := 99) hG dX8_goes_94 (by decide) ?_
      refine join_t _ (by unfold sx_turn; split <;> omega) c15
  · skip
    refine sx_ldc (pc := 18) (v2 := nI 100000) hG m_X8_goes_c107 dX8_goes_18 (by decide +kernel) ?_
    refine sx_aload_n (pc := 20) hG dX8_goes_20 rfl 0 rfl ?_
    refine sx_get (pc := 21) (v2 := .ref (bd 7)) (ci := 8) hG i_X8_goes_8 7 m_X8_goes_f28 dX8_goes_21 rfl (by decide) 0 rfl rfl rfl ?_
    refine sx_iconst (pc := 24) (v := nI 5) hG dX8_goes_24 (by decide +kernel) ?_
    refine sx_iald (pc := 25) (v := nI ((av 7) 5)) hG 7 dX8_goes_25 rfl (by decide) (by omega) rfl ?_
    refine sx_imul (pc := 26) (v := (nI (100000 * ((av 7) 5)))) hG dX8_goes_26 (pk_mul 100000 ((av 7) 5)) ?_
    refine sx_iload_n (pc := 27) hG dX8_goes_27 rfl 3 rfl ?_
    refine sx_iadd (pc := 28) (v := (nI (100000 * ((av 7) 5) + ((av 6) (b / 2))))) hG dX8_goes_28 (nI_add (100000 * ((av 7) 5)) ((av 6) (b / 2))) ?_
    refine sx_aload_n (pc := 29) hG dX8_goes_29 rfl 0 rfl ?_
    refine sx_iload_n (pc := 30) hG dX8_goes_30 rfl 1 rfl ?_
    refine sx_iconst (pc := 31) (v := nI 1) hG dX8_goes_31 (by decide +kernel) ?_
    refine sx_callViw (pc := 32) (n9 := 2) (As := [.int (nI a), .int (nI 1)]) (st := [.int (nI (100000 * ((av 7) 5) + ((av 6) (b / 2))))]) (b := (bd 0)) (ci := 8) hG (c_X8_atX1 l X bd sc av a (by omega)) gX8_goes_X8_atX rfl (by decide +kernel) rfl 0 rfl rfl rfl dX8_goes_32 ⟨rfl, rfl⟩ ⟨Nat.le_of_ble_eq_true rfl, Nat.le_of_ble_eq_true rfl⟩ (Nat.le_of_ble_eq_true rfl) ⟨Nat.le_of_ble_eq_true rfl, Nat.le_of_ble_eq_true rfl⟩ (fun r w1 hp => ?_)
    obtain ⟨hr9, hw9⟩ := hp
    have hr9 : r = (nI (mXe av a)) := hr9
    subst hr9
    refine sx_weq hw9 ?_
    refine sx_aload_n (pc := 35) hG dX8_goes_35 rfl 0 rfl ?_
    refine sx_iload_n (pc := 36) hG dX8_goes_36 rfl 1 rfl ?_
    refine sx_iconst (pc := 37) (v := nI 1) hG dX8_goes_37 (by decide +kernel) ?_
    refine sx_callViw (pc := 38) (n9 := 2) (As := [.int (nI a), .int (nI 1)]) (st := [.int (nI (mXe av a)), .int (nI (100000 * ((av 7) 5) + ((av 6) (b / 2))))]) (b := (bd 0)) (ci := 8) hG (c_X8_atY1 l X bd sc av a (by omega)) gX8_goes_X8_atY rfl (by decide +kernel) rfl 0 rfl rfl rfl dX8_goes_38 ⟨rfl, rfl⟩ ⟨Nat.le_of_ble_eq_true rfl, Nat.le_of_ble_eq_true rfl⟩ (Nat.le_of_ble_eq_true rfl) ⟨Nat.le_of_ble_eq_true rfl, Nat.le_of_ble_eq_true rfl⟩ (fun r w1 hp => ?_)
    obtain ⟨hr9, hw9⟩ := hp
    have hr9 : r = (nI (mYe av a)) := hr9
    subst hr9
    refine sx_weq hw9 ?_
    refine sx_aload_n (pc := 41) hG dX8_goes_41 rfl 0 rfl ?_
    refine sx_iload_n (pc := 42) hG dX8_goes_42 rfl 2 rfl ?_
    refine sx_iconst (pc := 43) (v := nI 0) hG dX8_goes_43 (by decide +kernel) ?_
    refine sx_callViw (pc := 44) (n9 := 2) (As := [.int (nI b), .int (nI 0)]) (st := [.int (nI (mYe av a)), .int (nI (mXe av a)), .int (nI (100000 * ((av 7) 5) + ((av 6) (b / 2))))]) (b := (bd 0)) (ci := 8) hG (c_X8_atX0 l X bd sc av b (by omega)) gX8_goes_X8_atX rfl (by decide +kernel) rfl 0 rfl rfl rfl dX8_goes_44 ⟨rfl, rfl⟩ ⟨Nat.le_of_ble_eq_true rfl, Nat.le_of_ble_eq_true rfl⟩ (Nat.le_of_ble_eq_true rfl) ⟨Nat.le_of_ble_eq_true rfl, Nat.le_of_ble_eq_true rfl⟩ (fun r w1 hp => ?_)
    obtain ⟨hr9, hw9⟩ := hp
    have hr9 : r = (nI (mXb av b)) := hr9
    subst hr9
    refine sx_weq hw9 ?_
    refine sx_aload_n (pc := 47) hG dX8_goes_47 rfl 0 rfl ?_
    refine sx_iload_n (pc := 48) hG dX8_goes_48 rfl 2 rfl ?_
    refine sx_iconst (pc := 49) (v := nI 0) hG dX8_goes_49 (by decide +kernel) ?_
    refine sx_callViw (pc := 50) (n9 := 2) (As := [.int (nI b), .int (nI 0)]) (st := [.int (nI (mXb av b)), .int (nI (mYe av a)), .int (nI (mXe av a)), .int (nI (100000 * ((av 7) 5) + ((av 6) (b / 2))))]) (b := (bd 0)) (ci := 8) hG (c_X8_atY0 l X bd sc av b (by omega)) gX8_goes_X8_atY rfl (by decide +kernel) rfl 0 rfl rfl rfl dX8_goes_50 ⟨rfl, rfl⟩ ⟨Nat.le_of_ble_eq_true rfl, Nat.le_of_ble_eq_true rfl⟩ (Nat.le_of_ble_eq_true rfl) ⟨Nat.le_of_ble_eq_true rfl, Nat.le_of_ble_eq_true rfl⟩ (fun r w1 hp => ?_)
    obtain ⟨hr9, hw9⟩ := hp
    have hr9 : r = (nI (mYb av b)) := hr9
    subst hr9
    refine sx_weq hw9 ?_
    refine sx_callSiw (pc := 53) (n9 := 4) (As := [.int (nI (mXe av a)), .int (nI (mYe av a)), .int (nI (mXb av b)), .int (nI (mYb av b))]) (st := [.int (nI (100000 * ((av 7) 5) + ((av 6) (b / 2))))]) hG (c_X8_piece l X (mw X bd sc av) (mXe av a) (mYe av a) (mXb av b) (mYb av b) (by omega) (by omega) (by omega) (by omega)) gX8_goes_X8_piece rfl (by decide +kernel) rfl dX8_goes_53 ⟨rfl, rfl⟩ ⟨Nat.le_of_ble_eq_true rfl, Nat.le_of_ble_eq_true rfl⟩ (Nat.le_of_ble_eq_true rfl) ⟨Nat.le_of_ble_eq_true rfl, Nat.le_of_ble_eq_true rfl⟩ (fun r w1 hp => ?_)
    obtain ⟨hr9, hw9⟩ := hp
    have hr9 : r = (nI (sx_piece (sx_far (mXe av a) (mXb av b)) (sx_far (mYe av a) (mYb av b)))) := hr9
    subst hr9
    refine sx_weq hw9 ?_
    refine sx_iadd (pc := 56) (v := (nI (100000 * ((av 7) 5) + ((av 6) (b / 2)) + (sx_piece (sx_far (mXe av a) (mXb av b)) (sx_far (mYe av a) (mYb av b)))))) hG dX8_goes_56 (nI_add (100000 * ((av 7) 5) + ((av 6) (b / 2))) (sx_piece (sx_far (mXe av a) (mXb av b)) (sx_far (mYe av a) (mYb av b)))) ?_
    exact hret _ _ _ _ dX8_goes_57 rfl ⟨congrArg nI (by unfold mGo mLp mLl; rw [if_neg c15, if_neg c15]), rfl⟩

theorem i_X8_from_8 : ∀ w ∈ u_ws RX8 TX8 24, w ∈ wsX8_from := by decide +kernel
theorem m_X8_from_f25 : Cond.fieldLink RX8 25 (TX8 6).1 (TX8 6).2.1 (TX8 6).2.2.1 ∈ wsX8_from := by decide +kernel
theorem m_X8_from_f35 : Cond.fieldLink RX8 35 (TX8 10).1 (TX8 10).2.1 (TX8 10).2.2.1 ∈ wsX8_from := by decide +kernel
set_option maxHeartbeats 4000000 in
set_option maxRecDepth 100000 in
theorem c_X8_from (l : Launch) (X : sx_X) (bd : Nat → Nat) (sc : Nat → Int32) (av : Nat → Nat → Nat) (s a : Nat) (hs : s < 512) (ha : a < 18) (hg : mG av) (hL : ∀ j, av 8 j ≤ 2000000000) : sx_Mi l yX8_from wsX8_from { frames := 0, cells := 0, slots := 0, locals := 0 } X [.ref (bd 0), .int (nI s), .int (nI a)] (mw X bd sc av) (fun r w => r = nI (mFrom av (av 8) s a) ∧ w = mw X bd sc av) 0 0 := by
  refine sx_entI (own := RX8) (nL := 3) (by decide +kernel) rfl rfl (Nat.le_of_ble_eq_true rfl) ?_
  intro G hG hN hret
  show sx_W l X G 0 0 0 [(0, .ref (bd 0)), (1, .int (nI s)), (2, .int (nI a))] [] (mw X bd sc av)
  have hd9 := sx_diff_le s (2 ^ (a / 2))
  have h6 := hg.2.2.2.2.2.1 (a / 2)
  refine sx_aload_n (pc := 0) hG dX8_from_0 rfl 0 rfl ?_
  refine sx_get (pc := 1) (v2 := .ref (bd 6)) (ci := 8) hG i_X8_from_8 6 m_X8_from_f25 dX8_from_1 rfl (by decide) 0 rfl rfl rfl ?_
  refine sx_iload_n (pc := 4) hG dX8_from_4 rfl 2 rfl ?_
  refine sx_iconst (pc := 5) (v := nI 2) hG dX8_from_5 (by decide +kernel) ?_
  refine sx_idiv (pc := 6) (v := (nI (a / 2))) hG dX8_from_6 (nI_ne0 (by decide) (by decide)) (pk_div (by omega) (by decide) (by decide)) ?_
  refine sx_iald (pc := 7) (v := nI ((av 6) (a / 2))) hG 6 dX8_from_7 rfl (by decide) (by omega) rfl ?_
  refine sx_aload_n (pc := 8) hG dX8_from_8 rfl 0 rfl ?_
  refine sx_get (pc := 9) (v2 := .ref (bd 8)) (ci := 8) hG i_X8_from_8 10 m_X8_from_f35 dX8_from_9 rfl (by decide) 0 rfl rfl rfl ?_
  refine sx_bipush (pc := 12) (v := nI 18) hG dX8_from_12 (by decide +kernel) ?_
  refine sx_iload_n (pc := 14) hG dX8_from_14 rfl 1 rfl ?_
  refine sx_iconst (pc := 15) (v := nI 1) hG dX8_from_15 (by decide +kernel) ?_
  refine sx_iload_n (pc := 16) hG dX8_from_16 rfl 2 rfl ?_
  refine sx_iconst (pc := 17) (v := nI 2) hG dX8_from_17 (by decide +kernel) ?_
  refine sx_idiv (pc := 18) (v := (nI (a / 2))) hG dX8_from_18 (nI_ne0 (by decide) (by decide)) (pk_div (by omega) (by decide) (by decide)) ?_
  refine sx_ishl (pc := 19) (v := (nI (2 ^ (a / 2)))) hG dX8_from_19 (sx_one (by omega)) ?_
  refine sx_iconst (pc := 20) (v := (-1)) hG dX8_from_20 (by decide +kernel) ?_
  refine sx_ixor (pc := 21) (v := (nI (2 ^ (a / 2)) ^^^ (-1))) hG dX8_from_21 rfl ?_
  refine sx_iand (pc := 22) (v := (nI (sx_diff s (2 ^ (a / 2))))) hG dX8_from_22 (sx_andnot (by omega) (sx_p2 (by omega))) ?_
  refine sx_imul (pc := 23) (v := (nI (18 * (sx_diff s (2 ^ (a / 2)))))) hG dX8_from_23 (pk_mul 18 (sx_diff s (2 ^ (a / 2)))) ?_
  refine sx_iload_n (pc := 24) hG dX8_from_24 rfl 2 rfl ?_
  refine sx_iadd (pc := 25) (v := (nI (18 * (sx_diff s (2 ^ (a / 2))) + a))) hG dX8_from_25 (nI_add (18 * (sx_diff s (2 ^ (a / 2)))) a) ?_
  refine sx_iald (pc := 26) (v := nI ((av 8) (18 * (sx_diff s (2 ^ (a / 2))) + a))) hG 8 dX8_from_26 rfl (by decide) (by omega) rfl ?_
  refine sx_iadd (pc := 27) (v := (nI ((av 6) (a / 2) + ((av 8) (18 * (sx_diff s (2 ^ (a / 2))) + a))))) hG dX8_from_27 (nI_add ((av 6) (a / 2)) ((av 8) (18 * (sx_diff s (2 ^ (a / 2))) + a))) ?_
  exact hret _ _ _ _ dX8_from_28 rfl ⟨rfl, rfl⟩

theorem i_X8_priceOf_8 : ∀ w ∈ u_ws RX8 TX8 24, w ∈ wsX8_priceOf := by decide +kernel
theorem m_X8_priceOf_f38 : Cond.fieldLink RX8 38 (TX8 11).1 (TX8 11).2.1 (TX8 11).2.2.1 ∈ wsX8_priceOf := by decide +kernel
theorem m_X8_priceOf_c107 : Cond.constant RX8 107 (100000) ∈ wsX8_priceOf := by decide +kernel
theorem m_X8_priceOf_f28 : Cond.fieldLink RX8 28 (TX8 7).1 (TX8 7).2.1 (TX8 7).2.2.1 ∈ wsX8_priceOf := by decide +kernel
set_option maxHeartbeats 4000000 in
set_option maxRecDepth 100000 in
theorem c_X8_priceOf (l : Launch) (X : sx_X) (bd : Nat → Nat) (sc : Nat → Int32) (av : Nat → Nat → Nat) (s : Nat) (hs : s < 512) (hg : mG av) (hB : ∀ j, av 9 j ≤ 2000000000) : sx_Mi l yX8_priceOf wsX8_priceOf { frames := 0, cells := 0, slots := 0, locals := 0 } X [.ref (bd 0), .int (nI s)] (mw X bd sc av) (fun r w => r = nI (av 9 s / 100000 + av 9 s % 100000 * av 7 6 / 10) ∧ w = mw X bd sc av) 0 0 := by
  refine sx_entI (own := RX8) (nL := 2) (by decide +kernel) rfl rfl (Nat.le_of_ble_eq_true rfl) ?_
  intro G hG hN hret
  show sx_W l X G 0 0 0 [(0, .ref (bd 0)), (1, .int (nI s))] [] (mw X bd sc av)
  have h9 := hB s
  have h7 := hg.2.2.2.2.2.2 6
  have hm : av 9 s % 100000 * av 7 6 ≤ 99999 * 99 := Nat.mul_le_mul (by omega) h7
  refine sx_aload_n (pc := 0) hG dX8_priceOf_0 rfl 0 rfl ?_
  refine sx_get (pc := 1) (v2 := .ref (bd 9)) (ci := 8) hG i_X8_priceOf_8 11 m_X8_priceOf_f38 dX8_priceOf_1 rfl (by decide) 0 rfl rfl rfl ?_
  refine sx_iload_n (pc := 4) hG dX8_priceOf_4 rfl 1 rfl ?_
  refine sx_iald (pc := 5) (v := nI ((av 9) s)) hG 9 dX8_priceOf_5 rfl (by decide) (by omega) rfl ?_
  refine sx_ldc (pc := 6) (v2 := nI 100000) hG m_X8_priceOf_c107 dX8_priceOf_6 (by decide +kernel) ?_
  refine sx_idiv (pc := 8) (v := (nI (((av 9) s) / 100000))) hG dX8_priceOf_8 (nI_ne0 (by decide) (by decide)) (pk_div (by omega) (by decide) (by decide)) ?_
  refine sx_aload_n (pc := 9) hG dX8_priceOf_9 rfl 0 rfl ?_
  refine sx_get (pc := 10) (v2 := .ref (bd 9)) (ci := 8) hG i_X8_priceOf_8 11 m_X8_priceOf_f38 dX8_priceOf_10 rfl (by decide) 0 rfl rfl rfl ?_
  refine sx_iload_n (pc := 13) hG dX8_priceOf_13 rfl 1 rfl ?_
  refine sx_iald (pc := 14) (v := nI ((av 9) s)) hG 9 dX8_priceOf_14 rfl (by decide) (by omega) rfl ?_
  refine sx_ldc (pc := 15) (v2 := nI 100000) hG m_X8_priceOf_c107 dX8_priceOf_15 (by decide +kernel) ?_
  refine sx_irem (pc := 17) (v := (nI (((av 9) s) % 100000))) hG dX8_priceOf_17 (nI_ne0 (by decide) (by decide)) (pk_rem (by omega) (by decide) (by decide)) ?_
  refine sx_aload_n (pc := 18) hG dX8_priceOf_18 rfl 0 rfl ?_
  refine sx_get (pc := 19) (v2 := .ref (bd 7)) (ci := 8) hG i_X8_priceOf_8 7 m_X8_priceOf_f28 dX8_priceOf_19 rfl (by decide) 0 rfl rfl rfl ?_
  refine sx_bipush (pc := 22) (v := nI 6) hG dX8_priceOf_22 (by decide +kernel) ?_
  refine sx_iald (pc := 24) (v := nI ((av 7) 6)) hG 7 dX8_priceOf_24 rfl (by decide) (by omega) rfl ?_
  refine sx_imul (pc := 25) (v := (nI ((((av 9) s) % 100000) * ((av 7) 6)))) hG dX8_priceOf_25 (pk_mul (((av 9) s) % 100000) ((av 7) 6)) ?_
  refine sx_bipush (pc := 26) (v := nI 10) hG dX8_priceOf_26 (by decide +kernel) ?_
  refine sx_idiv (pc := 28) (v := (nI (((((av 9) s) % 100000) * ((av 7) 6)) / 10))) hG dX8_priceOf_28 (nI_ne0 (by decide) (by decide)) (pk_div (by omega) (by decide) (by decide)) ?_
  refine sx_iadd (pc := 29) (v := (nI (((av 9) s) / 100000 + (((((av 9) s) % 100000) * ((av 7) 6)) / 10)))) hG dX8_priceOf_29 (nI_add (((av 9) s) / 100000) (((((av 9) s) % 100000) * ((av 7) 6)) / 10)) ?_
  exact hret _ _ _ _ dX8_priceOf_30 rfl ⟨rfl, rfl⟩

theorem i_X8_isSet_8 : ∀ w ∈ u_ws RX8 TX8 24, w ∈ wsX8_isSet := by decide +kernel
theorem m_X8_isSet_f71 : Cond.fieldLink RX8 71 (TX8 0).1 (TX8 0).2.1 (TX8 0).2.2.1 ∈ wsX8_isSet := by decide +kernel
set_option maxHeartbeats 4000000 in
set_option maxRecDepth 100000 in
theorem c_X8_isSet (l : Launch) (X : sx_X) (bd : Nat → Nat) (sc : Nat → Int32) (av : Nat → Nat → Nat) (x : Int32) (n : Nat) (hn : n ≤ 9) (h0 : sc 0 = nI n) : sx_Mi l yX8_isSet wsX8_isSet { frames := 0, cells := 0, slots := 0, locals := 0 } X [.ref (bd 0), .int x] (mw X bd sc av) (fun r w => r = nI (sx_isSet n x) ∧ w = mw X bd sc av) 0 0 := by
  refine sx_entI (own := RX8) (nL := 2) (by decide +kernel) rfl rfl (Nat.le_of_ble_eq_true rfl) ?_
  intro G hG hN hret
  show sx_W l X G 0 0 0 [(0, .ref (bd 0)), (1, .int x)] [] (mw X bd sc av)
  have hp := sx_p9 hn
  refine sx_iload_n (pc := 0) hG dX8_isSet_0 rfl 1 rfl ?_
  refine sx_if_le (pc := 1) (tgt := 18) (B := x.toInt ≤ 0) hG dX8_isSet_1 (by decide) (sx_rle0 _) (fun c1 => ?_) (fun c1 => ?_)
  · skip
    refine sx_iconst (pc := 18) (v := nI 0) hG dX8_isSet_18 (by decide +kernel) ?_
    exact hret _ _ _ _ dX8_isSet_19 (by decide +kernel) ⟨congrArg nI (by unfold sx_isSet; first | (rw [if_pos (by omega)]) | (rw [if_neg (by omega)])), rfl⟩
  · skip
    refine sx_iload_n (pc := 4) hG dX8_isSet_4 rfl 1 rfl ?_
    refine sx_iconst (pc := 5) (v := nI 1) hG dX8_isSet_5 (by decide +kernel) ?_
    refine sx_aload_n (pc := 6) hG dX8_isSet_6 rfl 0 rfl ?_
    refine sx_get (pc := 7) (v2 := .int (nI n)) (ci := 8) hG i_X8_isSet_8 0 m_X8_isSet_f71 dX8_isSet_7 rfl (by decide) 0 rfl rfl (congrArg Value.int h0) ?_
    refine sx_ishl (pc := 10) (v := (nI (2 ^ n))) hG dX8_isSet_10 (sx_one (by omega)) ?_
    refine sx_icmp_ge (pc := 11) (tgt := 18) (B := ((2 ^ n : Nat) : Int) ≤ x.toInt) hG dX8_isSet_11 (by decide) (sx_rle (nI_toInt (by omega)) rfl) (fun c11 => ?_) (fun c11 => ?_)
    · skip
      refine sx_iconst (pc := 18) (v := nI 0) hG dX8_isSet_18 (by decide +kernel) ?_
      exact hret _ _ _ _ dX8_isSet_19 (by decide +kernel) ⟨congrArg nI (by unfold sx_isSet; first | (rw [if_pos (by omega)]) | (rw [if_neg (by omega)])), rfl⟩
    · skip
      refine sx_iconst (pc := 14) (v := nI 1) hG dX8_isSet_14 (by decide +kernel) ?_
      refine sx_goto (pc := 15) (tgt := 19) hG dX8_isSet_15 (by decide) ?_
      exact hret _ _ _ _ dX8_isSet_19 (by decide +kernel) ⟨congrArg nI (by unfold sx_isSet; first | (rw [if_pos (by omega)]) | (rw [if_neg (by omega)])), rfl⟩

theorem i_X8_fails_8 : ∀ w ∈ u_ws RX8 TX8 24, w ∈ wsX8_fails := by decide +kernel
theorem m_X8_fails_f68 : Cond.fieldLink RX8 68 (TX8 9).1 (TX8 9).2.1 (TX8 9).2.2.1 ∈ wsX8_fails := by decide +kernel
set_option maxHeartbeats 4000000 in
set_option maxRecDepth 100000 in
theorem c_X8_fails (l : Launch) (X : sx_X) (bd : Nat → Nat) (sc : Nat → Int32) (av : Nat → Nat → Nat) (t : Nat) : sx_Mi l yX8_fails wsX8_fails { frames := 0, cells := 0, slots := 0, locals := 0 } X [.ref (bd 0), .int (nI t)] (mw X bd sc av) (fun r w => r = nI 0 ∧ w = mw X bd (va_up sc 2 (nI t)) av) 0 0 := by
  refine sx_entI (own := RX8) (nL := 2) (by decide +kernel) rfl rfl (Nat.le_of_ble_eq_true rfl) ?_
  intro G hG hN hret
  show sx_W l X G 0 0 0 [(0, .ref (bd 0)), (1, .int (nI t))] [] (mw X bd sc av)
  refine sx_aload_n (pc := 0) hG dX8_fails_0 rfl 0 rfl ?_
  refine sx_iload_n (pc := 1) hG dX8_fails_1 rfl 1 rfl ?_
  refine sx_put (pc := 2) (v := .int (nI t)) (ci := 8) (w2 := (mw X bd (va_up sc 2 (nI t)) av)) hG i_X8_fails_8 tyX8 tyX8_ok nmX8 9 m_X8_fails_f68 dX8_fails_2 rfl (by decide) 0 rfl rfl rfl rfl (Nat.le_of_ble_eq_true rfl) rfl ?_
  refine sx_iconst (pc := 5) (v := nI 0) hG dX8_fails_5 (by decide +kernel) ?_
  exact hret _ _ _ _ dX8_fails_6 rfl ⟨rfl, rfl⟩

theorem i_X8_thrown_8 : ∀ w ∈ u_ws RX8 TX8 24, w ∈ wsX8_thrown := by decide +kernel
theorem m_X8_thrown_f68 : Cond.fieldLink RX8 68 (TX8 9).1 (TX8 9).2.1 (TX8 9).2.2.1 ∈ wsX8_thrown := by decide +kernel
set_option maxHeartbeats 4000000 in
set_option maxRecDepth 100000 in
theorem c_X8_thrown (l : Launch) (X : sx_X) (bd : Nat → Nat) (sc : Nat → Int32) (av : Nat → Nat → Nat)  : sx_Mi l yX8_thrown wsX8_thrown { frames := 0, cells := 0, slots := 0, locals := 0 } X [.ref (bd 0)] (mw X bd sc av) (fun r w => r = sc 2 ∧ w = mw X bd sc av) 0 0 := by
  refine sx_entI (own := RX8) (nL := 1) (by decide +kernel) rfl rfl (Nat.le_of_ble_eq_true rfl) ?_
  intro G hG hN hret
  show sx_W l X G 0 0 0 [(0, .ref (bd 0))] [] (mw X bd sc av)
  refine sx_aload_n (pc := 0) hG dX8_thrown_0 rfl 0 rfl ?_
  refine sx_get (pc := 1) (v2 := .int (sc 2)) (ci := 8) hG i_X8_thrown_8 9 m_X8_thrown_f68 dX8_thrown_1 rfl (by decide) 0 rfl rfl rfl ?_
  exact hret _ _ _ _ dX8_thrown_4 rfl ⟨rfl, rfl⟩

theorem i_X8_anew_8 : ∀ w ∈ u_ws RX8 TX8 24, w ∈ wsX8_anew := by decide +kernel
theorem m_X8_anew_f68 : Cond.fieldLink RX8 68 (TX8 9).1 (TX8 9).2.1 (TX8 9).2.2.1 ∈ wsX8_anew := by decide +kernel
theorem m_X8_anew_f71 : Cond.fieldLink RX8 71 (TX8 0).1 (TX8 0).2.1 (TX8 0).2.2.1 ∈ wsX8_anew := by decide +kernel
theorem m_X8_anew_f74 : Cond.fieldLink RX8 74 (TX8 13).1 (TX8 13).2.1 (TX8 13).2.2.1 ∈ wsX8_anew := by decide +kernel
set_option maxHeartbeats 4000000 in
set_option maxRecDepth 100000 in
theorem c_X8_anew (l : Launch) (X : sx_X) (bd : Nat → Nat) (sc : Nat → Int32) (av : Nat → Nat → Nat)  : sx_Mv l yX8_anew wsX8_anew { frames := 0, cells := 0, slots := 0, locals := 0 } X [.ref (bd 0)] (mw X bd sc av) (fun w => w = mw X bd (va_up (va_up (va_up sc 0 (nI 0)) 2 (nI 0)) 3 (nI 0)) av) 0 0 := by
  refine sx_entV (own := RX8) (nL := 1) (by decide +kernel) rfl rfl (Nat.le_of_ble_eq_true rfl) ?_
  intro G hG hN hini hret
  show sx_W l X G 0 0 0 [(0, .ref (bd 0))] [] (mw X bd sc av)
  refine sx_aload_n (pc := 0) hG dX8_anew_0 rfl 0 rfl ?_
  refine sx_iconst (pc := 1) (v := nI 0) hG dX8_anew_1 (by decide +kernel) ?_
  refine sx_put (pc := 2) (v := .int (nI 0)) (ci := 8) (w2 := (mw X bd (va_up sc 2 (nI 0)) av)) hG i_X8_anew_8 tyX8 tyX8_ok nmX8 9 m_X8_anew_f68 dX8_anew_2 rfl (by decide) 0 rfl rfl rfl rfl (Nat.le_of_ble_eq_true rfl) rfl ?_
  refine sx_aload_n (pc := 5) hG dX8_anew_5 rfl 0 rfl ?_
  refine sx_iconst (pc := 6) (v := nI 0) hG dX8_anew_6 (by decide +kernel) ?_
  refine sx_put (pc := 7) (v := .int (nI 0)) (ci := 8) (w2 := (mw X bd (va_up (va_up sc 0 (nI 0)) 2 (nI 0)) av)) hG i_X8_anew_8 tyX8 tyX8_ok nmX8 0 m_X8_anew_f71 dX8_anew_7 rfl (by decide) 0 rfl rfl rfl rfl (Nat.le_of_ble_eq_true rfl) rfl ?_
  refine sx_aload_n (pc := 10) hG dX8_anew_10 rfl 0 rfl ?_
  refine sx_iconst (pc := 11) (v := nI 0) hG dX8_anew_11 (by decide +kernel) ?_
  refine sx_put (pc := 12) (v := .int (nI 0)) (ci := 8) (w2 := (mw X bd (va_up (va_up (va_up sc 0 (nI 0)) 2 (nI 0)) 3 (nI 0)) av)) hG i_X8_anew_8 tyX8 tyX8_ok nmX8 13 m_X8_anew_f74 dX8_anew_12 rfl (by decide) 0 rfl rfl (by decide) (by decide) (Nat.le_of_ble_eq_true rfl) rfl ?_
  exact hret _ _ _ dX8_anew_15 rfl

theorem i_X8_price_8 : ∀ w ∈ u_ws RX8 TX8 24, w ∈ wsX8_price := by decide +kernel
theorem m_X8_price_f68 : Cond.fieldLink RX8 68 (TX8 9).1 (TX8 9).2.1 (TX8 9).2.2.1 ∈ wsX8_price := by decide +kernel
theorem m_X8_price_f28 : Cond.fieldLink RX8 28 (TX8 7).1 (TX8 7).2.1 (TX8 7).2.2.1 ∈ wsX8_price := by decide +kernel
set_option maxHeartbeats 4000000 in
set_option maxRecDepth 100000 in
theorem c_X8_price_ok (l : Launch) (X : sx_X) (bd : Nat → Nat) (sc : Nat → Int32) (av : Nat → Nat → Nat) (a v : Nat) (ha : a ≤ 6) (hv : v ≤ 99) : sx_Mi l yX8_price wsX8_price { frames := 0, cells := 0, slots := 0, locals := 0 } X [.ref (bd 0), .int (nI a), .int (nI v)] (mw X bd sc av) (fun r w => r = nI 1 ∧ w = mw X bd (va_up sc 2 (nI 0)) (va_up av 7 (va_up (av 7) a v))) 0 0 := by
  refine sx_entI (own := RX8) (nL := 3) (by decide +kernel) rfl rfl (Nat.le_of_ble_eq_true rfl) ?_
  intro G hG hN hret
  show sx_W l X G 0 0 0 [(0, .ref (bd 0)), (1, .int (nI a)), (2, .int (nI v))] [] (mw X bd sc av)
  refine sx_aload_n (pc := 0) hG dX8_price_0 rfl 0 rfl ?_
  refine sx_iconst (pc := 1) (v := nI 0) hG dX8_price_1 (by decide +kernel) ?_
  refine sx_put (pc := 2) (v := .int (nI 0)) (ci := 8) (w2 := (mw X bd (va_up sc 2 (nI 0)) av)) hG i_X8_price_8 tyX8 tyX8_ok nmX8 9 m_X8_price_f68 dX8_price_2 rfl (by decide) 0 rfl rfl rfl rfl (Nat.le_of_ble_eq_true rfl) rfl ?_
  refine sx_iload_n (pc := 5) hG dX8_price_5 rfl 1 rfl ?_
  refine sx_if_lt (pc := 6) (tgt := 25) (B := False) hG dX8_price_6 (by decide) (sx_lt0 (by omega)) (fun c6 => ?_) (fun c6 => ?_)
  · skip
    exact absurd c6 (by decide)
  · skip
    refine sx_iload_n (pc := 9) hG dX8_price_9 rfl 1 rfl ?_
    refine sx_bipush (pc := 10) (v := nI 6) hG dX8_price_10 (by decide +kernel) ?_
    refine sx_icmp_gt (pc := 12) (tgt := 25) (B := 6 < a) hG dX8_price_12 (by decide) (nI_ltI (by omega) (by omega)) (fun c12 => ?_) (fun c12 => ?_)
    · skip
      exact absurd c12 (by omega)
    · skip
      refine sx_iload_n (pc := 15) hG dX8_price_15 rfl 2 rfl ?_
      refine sx_if_lt (pc := 16) (tgt := 25) (B := False) hG dX8_price_16 (by decide) (sx_lt0 (by omega)) (fun c16 => ?_) (fun c16 => ?_)
      · skip
        exact absurd c16 (by decide)
      · skip
        refine sx_iload_n (pc := 19) hG dX8_price_19 rfl 2 rfl ?_
        refine sx_bipush (pc := 20) (v := nI 99) hG dX8_price_20 (by decide +kernel) ?_
        refine sx_icmp_le (pc := 22) (tgt := 27) (B := v ≤ 99) hG dX8_price_22 (by decide) (nI_leI (by omega) (by omega)) (fun c22 => ?_) (fun c22 => ?_)
        · skip
          refine sx_aload_n (pc := 27) hG dX8_price_27 rfl 0 rfl ?_
          refine sx_get (pc := 28) (v2 := .ref (bd 7)) (ci := 8) hG i_X8_price_8 7 m_X8_price_f28 dX8_price_28 rfl (by decide) 0 rfl rfl rfl ?_
          refine sx_iload_n (pc := 31) hG dX8_price_31 rfl 1 rfl ?_
          refine sx_iload_n (pc := 32) hG dX8_price_32 rfl 2 rfl ?_
          refine sx_iastN (pc := 33) (w2 := (mw X bd (va_up sc 2 (nI 0)) (va_up av 7 (va_up (av 7) a v)))) hG 7 dX8_price_33 rfl (by decide) (by omega) rfl ?_
          refine sx_iconst (pc := 34) (v := nI 1) hG dX8_price_34 (by decide +kernel) ?_
          exact hret _ _ _ _ dX8_price_35 (by decide +kernel) ⟨rfl, rfl⟩
        · skip
          exact absurd c22 (by omega)

set_option maxHeartbeats 4000000 in
set_option maxRecDepth 100000 in
theorem c_X8_price_no (l : Launch) (X : sx_X) (bd : Nat → Nat) (sc : Nat → Int32) (av : Nat → Nat → Nat) (a v : Int32) (hno : ¬ (0 ≤ a.toInt ∧ a.toInt ≤ 6 ∧ 0 ≤ v.toInt ∧ v.toInt ≤ 99)) : sx_Mi l yX8_price wsX8_price { frames := 0, cells := 0, slots := 0, locals := 0 } X [.ref (bd 0), .int a, .int v] (mw X bd sc av) (fun r w => r = nI 0 ∧ w = mw X bd (va_up sc 2 (nI 0)) av) 0 0 := by
  refine sx_entI (own := RX8) (nL := 3) (by decide +kernel) rfl rfl (Nat.le_of_ble_eq_true rfl) ?_
  intro G hG hN hret
  show sx_W l X G 0 0 0 [(0, .ref (bd 0)), (1, .int a), (2, .int v)] [] (mw X bd sc av)
  refine sx_aload_n (pc := 0) hG dX8_price_0 rfl 0 rfl ?_
  refine sx_iconst (pc := 1) (v := nI 0) hG dX8_price_1 (by decide +kernel) ?_
  refine sx_put (pc := 2) (v := .int (nI 0)) (ci := 8) (w2 := (mw X bd (va_up sc 2 (nI 0)) av)) hG i_X8_price_8 tyX8 tyX8_ok nmX8 9 m_X8_price_f68 dX8_price_2 rfl (by decide) 0 rfl rfl rfl rfl (Nat.le_of_ble_eq_true rfl) rfl ?_
  refine sx_iload_n (pc := 5) hG dX8_price_5 rfl 1 rfl ?_
  refine sx_if_lt (pc := 6) (tgt := 25) (B := a.toInt < 0) hG dX8_price_6 (by decide) (sx_rlt0 _) (fun c6 => ?_) (fun c6 => ?_)
  · skip
    refine sx_iconst (pc := 25) (v := nI 0) hG dX8_price_25 (by decide +kernel) ?_
    exact hret _ _ _ _ dX8_price_26 (by decide +kernel) ⟨rfl, rfl⟩
  · skip
    refine sx_iload_n (pc := 9) hG dX8_price_9 rfl 1 rfl ?_
    refine sx_bipush (pc := 10) (v := nI 6) hG dX8_price_10 (by decide +kernel) ?_
    refine sx_icmp_gt (pc := 12) (tgt := 25) (B := (6 : Int) < a.toInt) hG dX8_price_12 (by decide) (sx_rlt (nI_toInt (by omega)) rfl) (fun c12 => ?_) (fun c12 => ?_)
    · skip
      refine sx_iconst (pc := 25) (v := nI 0) hG dX8_price_25 (by decide +kernel) ?_
      exact hret _ _ _ _ dX8_price_26 (by decide +kernel) ⟨rfl, rfl⟩
    · skip
      refine sx_iload_n (pc := 15) hG dX8_price_15 rfl 2 rfl ?_
      refine sx_if_lt (pc := 16) (tgt := 25) (B := v.toInt < 0) hG dX8_price_16 (by decide) (sx_rlt0 _) (fun c16 => ?_) (fun c16 => ?_)
      · skip
        refine sx_iconst (pc := 25) (v := nI 0) hG dX8_price_25 (by decide +kernel) ?_
        exact hret _ _ _ _ dX8_price_26 (by decide +kernel) ⟨rfl, rfl⟩
      · skip
        refine sx_iload_n (pc := 19) hG dX8_price_19 rfl 2 rfl ?_
        refine sx_bipush (pc := 20) (v := nI 99) hG dX8_price_20 (by decide +kernel) ?_
        refine sx_icmp_le (pc := 22) (tgt := 27) (B := v.toInt ≤ (99 : Int)) hG dX8_price_22 (by decide) (sx_rle rfl (nI_toInt (by omega))) (fun c22 => ?_) (fun c22 => ?_)
        · skip
          exact absurd ⟨by omega, by omega, by omega, by omega⟩ hno
        · skip
          refine sx_iconst (pc := 25) (v := nI 0) hG dX8_price_25 (by decide +kernel) ?_
          exact hret _ _ _ _ dX8_price_26 (by decide +kernel) ⟨rfl, rfl⟩

theorem i_X8_longest_8 : ∀ w ∈ u_ws RX8 TX8 24, w ∈ wsX8_longest := by decide +kernel
theorem m_X8_longest_f68 : Cond.fieldLink RX8 68 (TX8 9).1 (TX8 9).2.1 (TX8 9).2.2.1 ∈ wsX8_longest := by decide +kernel
theorem m_X8_longest_f31 : Cond.fieldLink RX8 31 (TX8 8).1 (TX8 8).2.1 (TX8 8).2.2.1 ∈ wsX8_longest := by decide +kernel
set_option maxHeartbeats 4000000 in
set_option maxRecDepth 100000 in
theorem c_X8_longest_ok (l : Launch) (X : sx_X) (bd : Nat → Nat) (sc : Nat → Int32) (av : Nat → Nat → Nat) (v : Nat) (h1 : 1 ≤ v) (h2 : v ≤ 9999) : sx_Mi l yX8_longest wsX8_longest { frames := 0, cells := 0, slots := 0, locals := 0 } X [.ref (bd 0), .int (nI v)] (mw X bd sc av) (fun r w => r = nI 1 ∧ w = mw X bd (va_up (va_up sc 1 (nI v)) 2 (nI 0)) av) 0 0 := by
  refine sx_entI (own := RX8) (nL := 2) (by decide +kernel) rfl rfl (Nat.le_of_ble_eq_true rfl) ?_
  intro G hG hN hret
  show sx_W l X G 0 0 0 [(0, .ref (bd 0)), (1, .int (nI v))] [] (mw X bd sc av)
  refine sx_aload_n (pc := 0) hG dX8_longest_0 rfl 0 rfl ?_
  refine sx_iconst (pc := 1) (v := nI 0) hG dX8_longest_1 (by decide +kernel) ?_
  refine sx_put (pc := 2) (v := .int (nI 0)) (ci := 8) (w2 := (mw X bd (va_up sc 2 (nI 0)) av)) hG i_X8_longest_8 tyX8 tyX8_ok nmX8 9 m_X8_longest_f68 dX8_longest_2 rfl (by decide) 0 rfl rfl rfl rfl (Nat.le_of_ble_eq_true rfl) rfl ?_
  refine sx_iload_n (pc := 5) hG dX8_longest_5 rfl 1 rfl ?_
  refine sx_iconst (pc := 6) (v := nI 1) hG dX8_longest_6 (by decide +kernel) ?_
  refine sx_icmp_lt (pc := 7) (tgt := 17) (B := v < 1) hG dX8_longest_7 (by decide) (nI_ltI (by omega) (by omega)) (fun c7 => ?_) (fun c7 => ?_)
  · skip
    exact absurd c7 (by omega)
  · skip
    refine sx_iload_n (pc := 10) hG dX8_longest_10 rfl 1 rfl ?_
    refine sx_sipush (pc := 11) (v := nI 9999) hG dX8_longest_11 (by decide +kernel) ?_
    refine sx_icmp_le (pc := 14) (tgt := 19) (B := v ≤ 9999) hG dX8_longest_14 (by decide) (nI_leI (by omega) (by omega)) (fun c14 => ?_) (fun c14 => ?_)
    · skip
      refine sx_aload_n (pc := 19) hG dX8_longest_19 rfl 0 rfl ?_
      refine sx_iload_n (pc := 20) hG dX8_longest_20 rfl 1 rfl ?_
      refine sx_put (pc := 21) (v := .int (nI v)) (ci := 8) (w2 := (mw X bd (va_up (va_up sc 1 (nI v)) 2 (nI 0)) av)) hG i_X8_longest_8 tyX8 tyX8_ok nmX8 8 m_X8_longest_f31 dX8_longest_21 rfl (by decide) 0 rfl rfl rfl rfl (Nat.le_of_ble_eq_true rfl) rfl ?_
      refine sx_iconst (pc := 24) (v := nI 1) hG dX8_longest_24 (by decide +kernel) ?_
      exact hret _ _ _ _ dX8_longest_25 (by decide +kernel) ⟨rfl, rfl⟩
    · skip
      exact absurd c14 (by omega)

set_option maxHeartbeats 4000000 in
set_option maxRecDepth 100000 in
theorem c_X8_longest_no (l : Launch) (X : sx_X) (bd : Nat → Nat) (sc : Nat → Int32) (av : Nat → Nat → Nat) (v : Int32) (hno : ¬ (1 ≤ v.toInt ∧ v.toInt ≤ 9999)) : sx_Mi l yX8_longest wsX8_longest { frames := 0, cells := 0, slots := 0, locals := 0 } X [.ref (bd 0), .int v] (mw X bd sc av) (fun r w => r = nI 0 ∧ w = mw X bd (va_up sc 2 (nI 0)) av) 0 0 := by
  refine sx_entI (own := RX8) (nL := 2) (by decide +kernel) rfl rfl (Nat.le_of_ble_eq_true rfl) ?_
  intro G hG hN hret
  show sx_W l X G 0 0 0 [(0, .ref (bd 0)), (1, .int v)] [] (mw X bd sc av)
  refine sx_aload_n (pc := 0) hG dX8_longest_0 rfl 0 rfl ?_
  refine sx_iconst (pc := 1) (v := nI 0) hG dX8_longest_1 (by decide +kernel) ?_
  refine sx_put (pc := 2) (v := .int (nI 0)) (ci := 8) (w2 := (mw X bd (va_up sc 2 (nI 0)) av)) hG i_X8_longest_8 tyX8 tyX8_ok nmX8 9 m_X8_longest_f68 dX8_longest_2 rfl (by decide) 0 rfl rfl rfl rfl (Nat.le_of_ble_eq_true rfl) rfl ?_
  refine sx_iload_n (pc := 5) hG dX8_longest_5 rfl 1 rfl ?_
  refine sx_iconst (pc := 6) (v := nI 1) hG dX8_longest_6 (by decide +kernel) ?_
  refine sx_icmp_lt (pc := 7) (tgt := 17) (B := v.toInt < (1 : Int)) hG dX8_longest_7 (by decide) (sx_rlt rfl (nI_toInt (by omega))) (fun c7 => ?_) (fun c7 => ?_)
  · skip
    refine sx_iconst (pc := 17) (v := nI 0) hG dX8_longest_17 (by decide +kernel) ?_
    exact hret _ _ _ _ dX8_longest_18 (by decide +kernel) ⟨rfl, rfl⟩
  · skip
    refine sx_iload_n (pc := 10) hG dX8_longest_10 rfl 1 rfl ?_
    refine sx_sipush (pc := 11) (v := nI 9999) hG dX8_longest_11 (by decide +kernel) ?_
    refine sx_icmp_le (pc := 14) (tgt := 19) (B := v.toInt ≤ (9999 : Int)) hG dX8_longest_14 (by decide) (sx_rle rfl (nI_toInt (by omega))) (fun c14 => ?_) (fun c14 => ?_)
    · skip
      exact absurd ⟨by omega, by omega⟩ hno
    · skip
      refine sx_iconst (pc := 17) (v := nI 0) hG dX8_longest_17 (by decide +kernel) ?_
      exact hret _ _ _ _ dX8_longest_18 (by decide +kernel) ⟨rfl, rfl⟩

theorem i_X8_part_8 : ∀ w ∈ u_ws RX8 TX8 24, w ∈ wsX8_part := by decide +kernel
theorem m_X8_part_f68 : Cond.fieldLink RX8 68 (TX8 9).1 (TX8 9).2.1 (TX8 9).2.2.1 ∈ wsX8_part := by decide +kernel
theorem m_X8_part_f74 : Cond.fieldLink RX8 74 (TX8 13).1 (TX8 13).2.1 (TX8 13).2.2.1 ∈ wsX8_part := by decide +kernel
set_option maxHeartbeats 4000000 in
set_option maxRecDepth 100000 in
theorem c_X8_part_n (l : Launch) (X : sx_X) (bd : Nat → Nat) (sc : Nat → Int32) (av : Nat → Nat → Nat) (k a : Int32) (h3 : sc 3 = nI 0) : sx_Mi l yX8_part wsX8_part { frames := 1, cells := 0, slots := 0, locals := 21 } X [.ref (bd 0), .int k, .int a] (mw X bd sc av) (fun r w => r = nI 0 ∧ w = mw X bd (va_up sc 2 (nI 1)) av) 0 0 := by
  refine sx_entI (own := RX8) (nL := 3) (by decide +kernel) rfl rfl (Nat.le_of_ble_eq_true rfl) ?_
  intro G hG hN hret
  show sx_W l X G 0 0 0 [(0, .ref (bd 0)), (1, .int k), (2, .int a)] [] (mw X bd sc av)
  refine sx_aload_n (pc := 0) hG dX8_part_0 rfl 0 rfl ?_
  refine sx_iconst (pc := 1) (v := nI 0) hG dX8_part_1 (by decide +kernel) ?_
  refine sx_put (pc := 2) (v := .int (nI 0)) (ci := 8) (w2 := (mw X bd (va_up sc 2 (nI 0)) av)) hG i_X8_part_8 tyX8 tyX8_ok nmX8 9 m_X8_part_f68 dX8_part_2 rfl (by decide) 0 rfl rfl rfl rfl (Nat.le_of_ble_eq_true rfl) rfl ?_
  refine sx_aload_n (pc := 5) hG dX8_part_5 rfl 0 rfl ?_
  refine sx_get (pc := 6) (v2 := .int (nI 0)) (ci := 8) hG i_X8_part_8 13 m_X8_part_f74 dX8_part_6 rfl (by decide) 0 rfl rfl (congrArg Value.int h3) ?_
  refine sx_if_eq (pc := 9) (tgt := 24) (B := 0 = 0) hG dX8_part_9 (by decide) (sx_eq0 (by omega)) (fun c9 => ?_) (fun c9 => ?_)
  · skip
    refine sx_aload_n (pc := 24) hG dX8_part_24 rfl 0 rfl ?_
    refine sx_iconst (pc := 25) (v := nI 1) hG dX8_part_25 (by decide +kernel) ?_
    refine sx_callViw (pc := 26) (n9 := 1) (As := [.int (nI 1)]) (st := []) (b := (bd 0)) (ci := 8) hG (c_X8_fails l X bd (va_up sc 2 (nI 0)) av 1) gX8_part_X8_fails rfl (by decide +kernel) rfl 0 rfl rfl rfl dX8_part_26 ⟨rfl, rfl⟩ ⟨Nat.le_of_ble_eq_true rfl, Nat.le_of_ble_eq_true rfl⟩ (Nat.le_of_ble_eq_true rfl) ⟨Nat.le_of_ble_eq_true rfl, Nat.le_of_ble_eq_true rfl⟩ (fun r w1 hp => ?_)
    obtain ⟨hr9, hw9⟩ := hp
    have hr9 : r = (nI 0) := hr9
    subst hr9
    refine sx_weq hw9 ?_
    refine sx_weq (w2 := (mw X bd (va_up sc 2 (nI 1)) av)) rfl ?_
    exact hret _ _ _ _ dX8_part_29 rfl ⟨rfl, rfl⟩
  · skip
    exact absurd (by decide) c9

theorem m_X8_part_f131 : Cond.fieldLink RX8 131 (TX8 14).1 (TX8 14).2.1 (TX8 14).2.2.1 ∈ wsX8_part := by decide +kernel
set_option maxHeartbeats 4000000 in
set_option maxRecDepth 100000 in
theorem c_X8_part_k (l : Launch) (X : sx_X) (bd : Nat → Nat) (sc : Nat → Int32) (av : Nat → Nat → Nat) (k a : Int32) (m : Nat) (hm : m ≤ 9) (h3 : sc 3 = nI 1) (h4 : sc 4 = nI m) (hk : k.toInt < 0 ∨ m ≤ k.toInt) : sx_Mi l yX8_part wsX8_part { frames := 1, cells := 0, slots := 0, locals := 21 } X [.ref (bd 0), .int k, .int a] (mw X bd sc av) (fun r w => r = nI 0 ∧ w = mw X bd (va_up sc 2 (nI 1)) av) 0 0 := by
  refine sx_entI (own := RX8) (nL := 3) (by decide +kernel) rfl rfl (Nat.le_of_ble_eq_true rfl) ?_
  intro G hG hN hret
  show sx_W l X G 0 0 0 [(0, .ref (bd 0)), (1, .int k), (2, .int a)] [] (mw X bd sc av)
  refine sx_aload_n (pc := 0) hG dX8_part_0 rfl 0 rfl ?_
  refine sx_iconst (pc := 1) (v := nI 0) hG dX8_part_1 (by decide +kernel) ?_
  refine sx_put (pc := 2) (v := .int (nI 0)) (ci := 8) (w2 := (mw X bd (va_up sc 2 (nI 0)) av)) hG i_X8_part_8 tyX8 tyX8_ok nmX8 9 m_X8_part_f68 dX8_part_2 rfl (by decide) 0 rfl rfl rfl rfl (Nat.le_of_ble_eq_true rfl) rfl ?_
  refine sx_aload_n (pc := 5) hG dX8_part_5 rfl 0 rfl ?_
  refine sx_get (pc := 6) (v2 := .int (nI 1)) (ci := 8) hG i_X8_part_8 13 m_X8_part_f74 dX8_part_6 rfl (by decide) 0 rfl rfl (congrArg Value.int h3) ?_
  refine sx_if_eq (pc := 9) (tgt := 24) (B := 1 = 0) hG dX8_part_9 (by decide) (sx_eq0 (by omega)) (fun c9 => ?_) (fun c9 => ?_)
  · skip
    exact absurd c9 (by decide)
  · skip
    refine sx_iload_n (pc := 12) hG dX8_part_12 rfl 1 rfl ?_
    refine sx_if_lt (pc := 13) (tgt := 24) (B := k.toInt < 0) hG dX8_part_13 (by decide) (sx_rlt0 _) (fun c13 => ?_) (fun c13 => ?_)
    · skip
      refine sx_aload_n (pc := 24) hG dX8_part_24 rfl 0 rfl ?_
      refine sx_iconst (pc := 25) (v := nI 1) hG dX8_part_25 (by decide +kernel) ?_
      refine sx_callViw (pc := 26) (n9 := 1) (As := [.int (nI 1)]) (st := []) (b := (bd 0)) (ci := 8) hG (c_X8_fails l X bd (va_up sc 2 (nI 0)) av 1) gX8_part_X8_fails rfl (by decide +kernel) rfl 0 rfl rfl rfl dX8_part_26 ⟨rfl, rfl⟩ ⟨Nat.le_of_ble_eq_true rfl, Nat.le_of_ble_eq_true rfl⟩ (Nat.le_of_ble_eq_true rfl) ⟨Nat.le_of_ble_eq_true rfl, Nat.le_of_ble_eq_true rfl⟩ (fun r w1 hp => ?_)
      obtain ⟨hr9, hw9⟩ := hp
      have hr9 : r = (nI 0) := hr9
      subst hr9
      refine sx_weq hw9 ?_
      refine sx_weq (w2 := (mw X bd (va_up sc 2 (nI 1)) av)) rfl ?_
      exact hret _ _ _ _ dX8_part_29 rfl ⟨rfl, rfl⟩
    · skip
      refine sx_iload_n (pc := 16) hG dX8_part_16 rfl 1 rfl ?_
      refine sx_aload_n (pc := 17) hG dX8_part_17 rfl 0 rfl ?_
      refine sx_get (pc := 18) (v2 := .int (nI m)) (ci := 8) hG i_X8_part_8 14 m_X8_part_f131 dX8_part_18 rfl (by decide) 0 rfl rfl (congrArg Value.int h4) ?_
      refine sx_icmp_lt (pc := 21) (tgt := 30) (B := k.toInt < ((m : Nat) : Int)) hG dX8_part_21 (by decide) (sx_rlt rfl (nI_toInt (by omega))) (fun c21 => ?_) (fun c21 => ?_)
      · skip
        exact absurd c21 (by omega)
      · skip
        refine sx_aload_n (pc := 24) hG dX8_part_24 rfl 0 rfl ?_
        refine sx_iconst (pc := 25) (v := nI 1) hG dX8_part_25 (by decide +kernel) ?_
        refine sx_callViw (pc := 26) (n9 := 1) (As := [.int (nI 1)]) (st := []) (b := (bd 0)) (ci := 8) hG (c_X8_fails l X bd (va_up sc 2 (nI 0)) av 1) gX8_part_X8_fails rfl (by decide +kernel) rfl 0 rfl rfl rfl dX8_part_26 ⟨rfl, rfl⟩ ⟨Nat.le_of_ble_eq_true rfl, Nat.le_of_ble_eq_true rfl⟩ (Nat.le_of_ble_eq_true rfl) ⟨Nat.le_of_ble_eq_true rfl, Nat.le_of_ble_eq_true rfl⟩ (fun r w1 hp => ?_)
        obtain ⟨hr9, hw9⟩ := hp
        have hr9 : r = (nI 0) := hr9
        subst hr9
        refine sx_weq hw9 ?_
        refine sx_weq (w2 := (mw X bd (va_up sc 2 (nI 1)) av)) rfl ?_
        exact hret _ _ _ _ dX8_part_29 rfl ⟨rfl, rfl⟩

set_option maxHeartbeats 4000000 in
set_option maxRecDepth 100000 in
theorem c_X8_part_w (l : Launch) (X : sx_X) (bd : Nat → Nat) (sc : Nat → Int32) (av : Nat → Nat → Nat) (k m : Nat) (a : Int32) (hm : m ≤ 9) (h3 : sc 3 = nI 1) (h4 : sc 4 = nI m) (hk : k < m) (ha : a.toInt < 0 ∨ 2 < a.toInt) : sx_Mi l yX8_part wsX8_part { frames := 1, cells := 0, slots := 0, locals := 21 } X [.ref (bd 0), .int (nI k), .int a] (mw X bd sc av) (fun r w => r = nI 0 ∧ w = mw X bd (va_up sc 2 (nI 2)) av) 0 0 := by
  refine sx_entI (own := RX8) (nL := 3) (by decide +kernel) rfl rfl (Nat.le_of_ble_eq_true rfl) ?_
  intro G hG hN hret
  show sx_W l X G 0 0 0 [(0, .ref (bd 0)), (1, .int (nI k)), (2, .int a)] [] (mw X bd sc av)
  refine sx_aload_n (pc := 0) hG dX8_part_0 rfl 0 rfl ?_
  refine sx_iconst (pc := 1) (v := nI 0) hG dX8_part_1 (by decide +kernel) ?_
  refine sx_put (pc := 2) (v := .int (nI 0)) (ci := 8) (w2 := (mw X bd (va_up sc 2 (nI 0)) av)) hG i_X8_part_8 tyX8 tyX8_ok nmX8 9 m_X8_part_f68 dX8_part_2 rfl (by decide) 0 rfl rfl rfl rfl (Nat.le_of_ble_eq_true rfl) rfl ?_
  refine sx_aload_n (pc := 5) hG dX8_part_5 rfl 0 rfl ?_
  refine sx_get (pc := 6) (v2 := .int (nI 1)) (ci := 8) hG i_X8_part_8 13 m_X8_part_f74 dX8_part_6 rfl (by decide) 0 rfl rfl (congrArg Value.int h3) ?_
  refine sx_if_eq (pc := 9) (tgt := 24) (B := 1 = 0) hG dX8_part_9 (by decide) (sx_eq0 (by omega)) (fun c9 => ?_) (fun c9 => ?_)
  · skip
    exact absurd c9 (by decide)
  · skip
    refine sx_iload_n (pc := 12) hG dX8_part_12 rfl 1 rfl ?_
    refine sx_if_lt (pc := 13) (tgt := 24) (B := False) hG dX8_part_13 (by decide) (sx_lt0 (by omega)) (fun c13 => ?_) (fun c13 => ?_)
    · skip
      exact absurd c13 (by decide)
    · skip
      refine sx_iload_n (pc := 16) hG dX8_part_16 rfl 1 rfl ?_
      refine sx_aload_n (pc := 17) hG dX8_part_17 rfl 0 rfl ?_
      refine sx_get (pc := 18) (v2 := .int (nI m)) (ci := 8) hG i_X8_part_8 14 m_X8_part_f131 dX8_part_18 rfl (by decide) 0 rfl rfl (congrArg Value.int h4) ?_
      refine sx_icmp_lt (pc := 21) (tgt := 30) (B := k < m) hG dX8_part_21 (by decide) (nI_ltI (by omega) (by omega)) (fun c21 => ?_) (fun c21 => ?_)
      · skip
        refine sx_iload_n (pc := 30) hG dX8_part_30 rfl 2 rfl ?_
        refine sx_if_ne (pc := 31) (tgt := 43) (B := a.toInt = 0) hG dX8_part_31 (by decide) (sx_req0 _) (fun c31 => ?_) (fun c31 => ?_)
        · skip
          refine sx_iload_n (pc := 43) hG dX8_part_43 rfl 2 rfl ?_
          refine sx_iconst (pc := 44) (v := nI 1) hG dX8_part_44 (by decide +kernel) ?_
          refine sx_icmp_ne (pc := 45) (tgt := 57) (B := a.toInt = (1 : Int)) hG dX8_part_45 (by decide) (sx_req rfl (nI_toInt (by omega))) (fun c45 => ?_) (fun c45 => ?_)
          · skip
            refine sx_iload_n (pc := 57) hG dX8_part_57 rfl 2 rfl ?_
            refine sx_iconst (pc := 58) (v := nI 2) hG dX8_part_58 (by decide +kernel) ?_
            refine sx_icmp_ne (pc := 59) (tgt := 71) (B := a.toInt = (2 : Int)) hG dX8_part_59 (by decide) (sx_req rfl (nI_toInt (by omega))) (fun c59 => ?_) (fun c59 => ?_)
            · skip
              refine sx_aload_n (pc := 71) hG dX8_part_71 rfl 0 rfl ?_
              refine sx_iconst (pc := 72) (v := nI 2) hG dX8_part_72 (by decide +kernel) ?_
              refine sx_callViw (pc := 73) (n9 := 1) (As := [.int (nI 2)]) (st := []) (b := (bd 0)) (ci := 8) hG (c_X8_fails l X bd (va_up sc 2 (nI 0)) av 2) gX8_part_X8_fails rfl (by decide +kernel) rfl 0 rfl rfl rfl dX8_part_73 ⟨rfl, rfl⟩ ⟨Nat.le_of_ble_eq_true rfl, Nat.le_of_ble_eq_true rfl⟩ (Nat.le_of_ble_eq_true rfl) ⟨Nat.le_of_ble_eq_true rfl, Nat.le_of_ble_eq_true rfl⟩ (fun r w1 hp => ?_)
              obtain ⟨hr9, hw9⟩ := hp
              have hr9 : r = (nI 0) := hr9
              subst hr9
              refine sx_weq hw9 ?_
              refine sx_weq (w2 := (mw X bd (va_up sc 2 (nI 2)) av)) rfl ?_
              exact hret _ _ _ _ dX8_part_76 rfl ⟨rfl, rfl⟩
            · skip
              exact absurd c59 (by omega)
          · skip
            exact absurd c45 (by omega)
        · skip
          exact absurd c31 (by omega)
      · skip
        exact absurd hk c21

theorem m_X8_part_f44 : Cond.fieldLink RX8 44 (TX8 16).1 (TX8 16).2.1 (TX8 16).2.2.1 ∈ wsX8_part := by decide +kernel
set_option maxHeartbeats 4000000 in
set_option maxRecDepth 100000 in
theorem c_X8_part_0 (l : Launch) (X : sx_X) (bd : Nat → Nat) (sc : Nat → Int32) (av : Nat → Nat → Nat) (k m : Nat) (hm : m ≤ 9) (h3 : sc 3 = nI 1) (h4 : sc 4 = nI m) (hk : k < m) : sx_Mi l yX8_part wsX8_part { frames := 0, cells := 0, slots := 0, locals := 0 } X [.ref (bd 0), .int (nI k), .int (nI 0)] (mw X bd sc av) (fun r w => r = nI (av 11 k) ∧ w = mw X bd (va_up sc 2 (nI 0)) av) 0 0 := by
  refine sx_entI (own := RX8) (nL := 3) (by decide +kernel) rfl rfl (Nat.le_of_ble_eq_true rfl) ?_
  intro G hG hN hret
  show sx_W l X G 0 0 0 [(0, .ref (bd 0)), (1, .int (nI k)), (2, .int (nI 0))] [] (mw X bd sc av)
  refine sx_aload_n (pc := 0) hG dX8_part_0 rfl 0 rfl ?_
  refine sx_iconst (pc := 1) (v := nI 0) hG dX8_part_1 (by decide +kernel) ?_
  refine sx_put (pc := 2) (v := .int (nI 0)) (ci := 8) (w2 := (mw X bd (va_up sc 2 (nI 0)) av)) hG i_X8_part_8 tyX8 tyX8_ok nmX8 9 m_X8_part_f68 dX8_part_2 rfl (by decide) 0 rfl rfl rfl rfl (Nat.le_of_ble_eq_true rfl) rfl ?_
  refine sx_aload_n (pc := 5) hG dX8_part_5 rfl 0 rfl ?_
  refine sx_get (pc := 6) (v2 := .int (nI 1)) (ci := 8) hG i_X8_part_8 13 m_X8_part_f74 dX8_part_6 rfl (by decide) 0 rfl rfl (congrArg Value.int h3) ?_
  refine sx_if_eq (pc := 9) (tgt := 24) (B := 1 = 0) hG dX8_part_9 (by decide) (sx_eq0 (by omega)) (fun c9 => ?_) (fun c9 => ?_)
  · skip
    exact absurd c9 (by decide)
  · skip
    refine sx_iload_n (pc := 12) hG dX8_part_12 rfl 1 rfl ?_
    refine sx_if_lt (pc := 13) (tgt := 24) (B := False) hG dX8_part_13 (by decide) (sx_lt0 (by omega)) (fun c13 => ?_) (fun c13 => ?_)
    · skip
      exact absurd c13 (by decide)
    · skip
      refine sx_iload_n (pc := 16) hG dX8_part_16 rfl 1 rfl ?_
      refine sx_aload_n (pc := 17) hG dX8_part_17 rfl 0 rfl ?_
      refine sx_get (pc := 18) (v2 := .int (nI m)) (ci := 8) hG i_X8_part_8 14 m_X8_part_f131 dX8_part_18 rfl (by decide) 0 rfl rfl (congrArg Value.int h4) ?_
      refine sx_icmp_lt (pc := 21) (tgt := 30) (B := k < m) hG dX8_part_21 (by decide) (nI_ltI (by omega) (by omega)) (fun c21 => ?_) (fun c21 => ?_)
      · skip
        refine sx_iload_n (pc := 30) hG dX8_part_30 rfl 2 rfl ?_
        refine sx_if_ne (pc := 31) (tgt := 43) (B := 0 = 0) hG dX8_part_31 (by decide) (sx_eq0 (by omega)) (fun c31 => ?_) (fun c31 => ?_)
        · skip
          exact absurd (by decide) c31
        · skip
          refine sx_aload_n (pc := 34) hG dX8_part_34 rfl 0 rfl ?_
          refine sx_get (pc := 35) (v2 := .ref (bd 11)) (ci := 8) hG i_X8_part_8 16 m_X8_part_f44 dX8_part_35 rfl (by decide) 0 rfl rfl rfl ?_
          refine sx_iload_n (pc := 38) hG dX8_part_38 rfl 1 rfl ?_
          refine sx_iald (pc := 39) (v := nI ((av 11) k)) hG 11 dX8_part_39 rfl (by decide) (by omega) rfl ?_
          refine sx_goto (pc := 40) (tgt := 76) hG dX8_part_40 (by decide) ?_
          exact hret _ _ _ _ dX8_part_76 rfl ⟨rfl, rfl⟩
      · skip
        exact absurd hk c21

theorem m_X8_part_f47 : Cond.fieldLink RX8 47 (TX8 17).1 (TX8 17).2.1 (TX8 17).2.2.1 ∈ wsX8_part := by decide +kernel
set_option maxHeartbeats 4000000 in
set_option maxRecDepth 100000 in
theorem c_X8_part_1 (l : Launch) (X : sx_X) (bd : Nat → Nat) (sc : Nat → Int32) (av : Nat → Nat → Nat) (k m : Nat) (hm : m ≤ 9) (h3 : sc 3 = nI 1) (h4 : sc 4 = nI m) (hk : k < m) : sx_Mi l yX8_part wsX8_part { frames := 0, cells := 0, slots := 0, locals := 0 } X [.ref (bd 0), .int (nI k), .int (nI 1)] (mw X bd sc av) (fun r w => r = nI (av 12 k) ∧ w = mw X bd (va_up sc 2 (nI 0)) av) 0 0 := by
  refine sx_entI (own := RX8) (nL := 3) (by decide +kernel) rfl rfl (Nat.le_of_ble_eq_true rfl) ?_
  intro G hG hN hret
  show sx_W l X G 0 0 0 [(0, .ref (bd 0)), (1, .int (nI k)), (2, .int (nI 1))] [] (mw X bd sc av)
  refine sx_aload_n (pc := 0) hG dX8_part_0 rfl 0 rfl ?_
  refine sx_iconst (pc := 1) (v := nI 0) hG dX8_part_1 (by decide +kernel) ?_
  refine sx_put (pc := 2) (v := .int (nI 0)) (ci := 8) (w2 := (mw X bd (va_up sc 2 (nI 0)) av)) hG i_X8_part_8 tyX8 tyX8_ok nmX8 9 m_X8_part_f68 dX8_part_2 rfl (by decide) 0 rfl rfl rfl rfl (Nat.le_of_ble_eq_true rfl) rfl ?_
  refine sx_aload_n (pc := 5) hG dX8_part_5 rfl 0 rfl ?_
  refine sx_get (pc := 6) (v2 := .int (nI 1)) (ci := 8) hG i_X8_part_8 13 m_X8_part_f74 dX8_part_6 rfl (by decide) 0 rfl rfl (congrArg Value.int h3) ?_
  refine sx_if_eq (pc := 9) (tgt := 24) (B := 1 = 0) hG dX8_part_9 (by decide) (sx_eq0 (by omega)) (fun c9 => ?_) (fun c9 => ?_)
  · skip
    exact absurd c9 (by decide)
  · skip
    refine sx_iload_n (pc := 12) hG dX8_part_12 rfl 1 rfl ?_
    refine sx_if_lt (pc := 13) (tgt := 24) (B := False) hG dX8_part_13 (by decide) (sx_lt0 (by omega)) (fun c13 => ?_) (fun c13 => ?_)
    · skip
      exact absurd c13 (by decide)
    · skip
      refine sx_iload_n (pc := 16) hG dX8_part_16 rfl 1 rfl ?_
      refine sx_aload_n (pc := 17) hG dX8_part_17 rfl 0 rfl ?_
      refine sx_get (pc := 18) (v2 := .int (nI m)) (ci := 8) hG i_X8_part_8 14 m_X8_part_f131 dX8_part_18 rfl (by decide) 0 rfl rfl (congrArg Value.int h4) ?_
      refine sx_icmp_lt (pc := 21) (tgt := 30) (B := k < m) hG dX8_part_21 (by decide) (nI_ltI (by omega) (by omega)) (fun c21 => ?_) (fun c21 => ?_)
      · skip
        refine sx_iload_n (pc := 30) hG dX8_part_30 rfl 2 rfl ?_
        refine sx_if_ne (pc := 31) (tgt := 43) (B := 1 = 0) hG dX8_part_31 (by decide) (sx_eq0 (by omega)) (fun c31 => ?_) (fun c31 => ?_)
        · skip
          refine sx_iload_n (pc := 43) hG dX8_part_43 rfl 2 rfl ?_
          refine sx_iconst (pc := 44) (v := nI 1) hG dX8_part_44 (by decide +kernel) ?_
          refine sx_icmp_ne (pc := 45) (tgt := 57) (B := 1 = 1) hG dX8_part_45 (by decide) (nI_eq (by omega) (by omega)) (fun c45 => ?_) (fun c45 => ?_)
          · skip
            exact absurd (by decide) c45
          · skip
            refine sx_aload_n (pc := 48) hG dX8_part_48 rfl 0 rfl ?_
            refine sx_get (pc := 49) (v2 := .ref (bd 12)) (ci := 8) hG i_X8_part_8 17 m_X8_part_f47 dX8_part_49 rfl (by decide) 0 rfl rfl rfl ?_
            refine sx_iload_n (pc := 52) hG dX8_part_52 rfl 1 rfl ?_
            refine sx_iald (pc := 53) (v := nI ((av 12) k)) hG 12 dX8_part_53 rfl (by decide) (by omega) rfl ?_
            refine sx_goto (pc := 54) (tgt := 76) hG dX8_part_54 (by decide) ?_
            exact hret _ _ _ _ dX8_part_76 rfl ⟨rfl, rfl⟩
        · skip
          exact absurd c31 (by decide)
      · skip
        exact absurd hk c21

theorem m_X8_part_f50 : Cond.fieldLink RX8 50 (TX8 18).1 (TX8 18).2.1 (TX8 18).2.2.1 ∈ wsX8_part := by decide +kernel
set_option maxHeartbeats 4000000 in
set_option maxRecDepth 100000 in
theorem c_X8_part_2 (l : Launch) (X : sx_X) (bd : Nat → Nat) (sc : Nat → Int32) (av : Nat → Nat → Nat) (k m : Nat) (hm : m ≤ 9) (h3 : sc 3 = nI 1) (h4 : sc 4 = nI m) (hk : k < m) : sx_Mi l yX8_part wsX8_part { frames := 0, cells := 0, slots := 0, locals := 0 } X [.ref (bd 0), .int (nI k), .int (nI 2)] (mw X bd sc av) (fun r w => r = nI (av 13 k) ∧ w = mw X bd (va_up sc 2 (nI 0)) av) 0 0 := by
  refine sx_entI (own := RX8) (nL := 3) (by decide +kernel) rfl rfl (Nat.le_of_ble_eq_true rfl) ?_
  intro G hG hN hret
  show sx_W l X G 0 0 0 [(0, .ref (bd 0)), (1, .int (nI k)), (2, .int (nI 2))] [] (mw X bd sc av)
  refine sx_aload_n (pc := 0) hG dX8_part_0 rfl 0 rfl ?_
  refine sx_iconst (pc := 1) (v := nI 0) hG dX8_part_1 (by decide +kernel) ?_
  refine sx_put (pc := 2) (v := .int (nI 0)) (ci := 8) (w2 := (mw X bd (va_up sc 2 (nI 0)) av)) hG i_X8_part_8 tyX8 tyX8_ok nmX8 9 m_X8_part_f68 dX8_part_2 rfl (by decide) 0 rfl rfl rfl rfl (Nat.le_of_ble_eq_true rfl) rfl ?_
  refine sx_aload_n (pc := 5) hG dX8_part_5 rfl 0 rfl ?_
  refine sx_get (pc := 6) (v2 := .int (nI 1)) (ci := 8) hG i_X8_part_8 13 m_X8_part_f74 dX8_part_6 rfl (by decide) 0 rfl rfl (congrArg Value.int h3) ?_
  refine sx_if_eq (pc := 9) (tgt := 24) (B := 1 = 0) hG dX8_part_9 (by decide) (sx_eq0 (by omega)) (fun c9 => ?_) (fun c9 => ?_)
  · skip
    exact absurd c9 (by decide)
  · skip
    refine sx_iload_n (pc := 12) hG dX8_part_12 rfl 1 rfl ?_
    refine sx_if_lt (pc := 13) (tgt := 24) (B := False) hG dX8_part_13 (by decide) (sx_lt0 (by omega)) (fun c13 => ?_) (fun c13 => ?_)
    · skip
      exact absurd c13 (by decide)
    · skip
      refine sx_iload_n (pc := 16) hG dX8_part_16 rfl 1 rfl ?_
      refine sx_aload_n (pc := 17) hG dX8_part_17 rfl 0 rfl ?_
      refine sx_get (pc := 18) (v2 := .int (nI m)) (ci := 8) hG i_X8_part_8 14 m_X8_part_f131 dX8_part_18 rfl (by decide) 0 rfl rfl (congrArg Value.int h4) ?_
      refine sx_icmp_lt (pc := 21) (tgt := 30) (B := k < m) hG dX8_part_21 (by decide) (nI_ltI (by omega) (by omega)) (fun c21 => ?_) (fun c21 => ?_)
      · skip
        refine sx_iload_n (pc := 30) hG dX8_part_30 rfl 2 rfl ?_
        refine sx_if_ne (pc := 31) (tgt := 43) (B := 2 = 0) hG dX8_part_31 (by decide) (sx_eq0 (by omega)) (fun c31 => ?_) (fun c31 => ?_)
        · skip
          refine sx_iload_n (pc := 43) hG dX8_part_43 rfl 2 rfl ?_
          refine sx_iconst (pc := 44) (v := nI 1) hG dX8_part_44 (by decide +kernel) ?_
          refine sx_icmp_ne (pc := 45) (tgt := 57) (B := 2 = 1) hG dX8_part_45 (by decide) (nI_eq (by omega) (by omega)) (fun c45 => ?_) (fun c45 => ?_)
          · skip
            refine sx_iload_n (pc := 57) hG dX8_part_57 rfl 2 rfl ?_
            refine sx_iconst (pc := 58) (v := nI 2) hG dX8_part_58 (by decide +kernel) ?_
            refine sx_icmp_ne (pc := 59) (tgt := 71) (B := 2 = 2) hG dX8_part_59 (by decide) (nI_eq (by omega) (by omega)) (fun c59 => ?_) (fun c59 => ?_)
            · skip
              exact absurd (by decide) c59
            · skip
              refine sx_aload_n (pc := 62) hG dX8_part_62 rfl 0 rfl ?_
              refine sx_get (pc := 63) (v2 := .ref (bd 13)) (ci := 8) hG i_X8_part_8 18 m_X8_part_f50 dX8_part_63 rfl (by decide) 0 rfl rfl rfl ?_
              refine sx_iload_n (pc := 66) hG dX8_part_66 rfl 1 rfl ?_
              refine sx_iald (pc := 67) (v := nI ((av 13) k)) hG 13 dX8_part_67 rfl (by decide) (by omega) rfl ?_
              refine sx_goto (pc := 68) (tgt := 76) hG dX8_part_68 (by decide) ?_
              exact hret _ _ _ _ dX8_part_76 rfl ⟨rfl, rfl⟩
          · skip
            exact absurd c45 (by decide)
        · skip
          exact absurd c31 (by decide)
      · skip
        exact absurd hk c21

theorem i_X8_look_8 : ∀ w ∈ u_ws RX8 TX8 24, w ∈ wsX8_look := by decide +kernel
theorem m_X8_look_f68 : Cond.fieldLink RX8 68 (TX8 9).1 (TX8 9).2.1 (TX8 9).2.2.1 ∈ wsX8_look := by decide +kernel
theorem m_X8_look_f71 : Cond.fieldLink RX8 71 (TX8 0).1 (TX8 0).2.1 (TX8 0).2.2.1 ∈ wsX8_look := by decide +kernel
set_option maxHeartbeats 4000000 in
set_option maxRecDepth 100000 in
theorem c_X8_look_k (l : Launch) (X : sx_X) (bd : Nat → Nat) (sc : Nat → Int32) (av : Nat → Nat → Nat) (k a : Int32) (n : Nat) (hn : n ≤ 9) (h0 : sc 0 = nI n) (hk : k.toInt < 0 ∨ n ≤ k.toInt) : sx_Mi l yX8_look wsX8_look { frames := 1, cells := 0, slots := 0, locals := 21 } X [.ref (bd 0), .int k, .int a] (mw X bd sc av) (fun r w => r = nI 0 ∧ w = mw X bd (va_up sc 2 (nI 1)) av) 0 0 := by
  refine sx_entI (own := RX8) (nL := 3) (by decide +kernel) rfl rfl (Nat.le_of_ble_eq_true rfl) ?_
  intro G hG hN hret
  show sx_W l X G 0 0 0 [(0, .ref (bd 0)), (1, .int k), (2, .int a)] [] (mw X bd sc av)
  refine sx_aload_n (pc := 0) hG dX8_look_0 rfl 0 rfl ?_
  refine sx_iconst (pc := 1) (v := nI 0) hG dX8_look_1 (by decide +kernel) ?_
  refine sx_put (pc := 2) (v := .int (nI 0)) (ci := 8) (w2 := (mw X bd (va_up sc 2 (nI 0)) av)) hG i_X8_look_8 tyX8 tyX8_ok nmX8 9 m_X8_look_f68 dX8_look_2 rfl (by decide) 0 rfl rfl rfl rfl (Nat.le_of_ble_eq_true rfl) rfl ?_
  refine sx_iload_n (pc := 5) hG dX8_look_5 rfl 1 rfl ?_
  refine sx_if_lt (pc := 6) (tgt := 17) (B := k.toInt < 0) hG dX8_look_6 (by decide) (sx_rlt0 _) (fun c6 => ?_) (fun c6 => ?_)
  · skip
    refine sx_aload_n (pc := 17) hG dX8_look_17 rfl 0 rfl ?_
    refine sx_iconst (pc := 18) (v := nI 1) hG dX8_look_18 (by decide +kernel) ?_
    refine sx_callViw (pc := 19) (n9 := 1) (As := [.int (nI 1)]) (st := []) (b := (bd 0)) (ci := 8) hG (c_X8_fails l X bd (va_up sc 2 (nI 0)) av 1) gX8_look_X8_fails rfl (by decide +kernel) rfl 0 rfl rfl rfl dX8_look_19 ⟨rfl, rfl⟩ ⟨Nat.le_of_ble_eq_true rfl, Nat.le_of_ble_eq_true rfl⟩ (Nat.le_of_ble_eq_true rfl) ⟨Nat.le_of_ble_eq_true rfl, Nat.le_of_ble_eq_true rfl⟩ (fun r w1 hp => ?_)
    obtain ⟨hr9, hw9⟩ := hp
    have hr9 : r = (nI 0) := hr9
    subst hr9
    refine sx_weq hw9 ?_
    refine sx_weq (w2 := (mw X bd (va_up sc 2 (nI 1)) av)) rfl ?_
    exact hret _ _ _ _ dX8_look_22 rfl ⟨rfl, rfl⟩
  · skip
    refine sx_iload_n (pc := 9) hG dX8_look_9 rfl 1 rfl ?_
    refine sx_aload_n (pc := 10) hG dX8_look_10 rfl 0 rfl ?_
    refine sx_get (pc := 11) (v2 := .int (nI n)) (ci := 8) hG i_X8_look_8 0 m_X8_look_f71 dX8_look_11 rfl (by decide) 0 rfl rfl (congrArg Value.int h0) ?_
    refine sx_icmp_lt (pc := 14) (tgt := 23) (B := k.toInt < ((n : Nat) : Int)) hG dX8_look_14 (by decide) (sx_rlt rfl (nI_toInt (by omega))) (fun c14 => ?_) (fun c14 => ?_)
    · skip
      exact absurd c14 (by omega)
    · skip
      refine sx_aload_n (pc := 17) hG dX8_look_17 rfl 0 rfl ?_
      refine sx_iconst (pc := 18) (v := nI 1) hG dX8_look_18 (by decide +kernel) ?_
      refine sx_callViw (pc := 19) (n9 := 1) (As := [.int (nI 1)]) (st := []) (b := (bd 0)) (ci := 8) hG (c_X8_fails l X bd (va_up sc 2 (nI 0)) av 1) gX8_look_X8_fails rfl (by decide +kernel) rfl 0 rfl rfl rfl dX8_look_19 ⟨rfl, rfl⟩ ⟨Nat.le_of_ble_eq_true rfl, Nat.le_of_ble_eq_true rfl⟩ (Nat.le_of_ble_eq_true rfl) ⟨Nat.le_of_ble_eq_true rfl, Nat.le_of_ble_eq_true rfl⟩ (fun r w1 hp => ?_)
      obtain ⟨hr9, hw9⟩ := hp
      have hr9 : r = (nI 0) := hr9
      subst hr9
      refine sx_weq hw9 ?_
      refine sx_weq (w2 := (mw X bd (va_up sc 2 (nI 1)) av)) rfl ?_
      exact hret _ _ _ _ dX8_look_22 rfl ⟨rfl, rfl⟩

set_option maxHeartbeats 4000000 in
set_option maxRecDepth 100000 in
theorem c_X8_look_w (l : Launch) (X : sx_X) (bd : Nat → Nat) (sc : Nat → Int32) (av : Nat → Nat → Nat) (k : Nat) (a : Int32) (n : Nat) (hn : n ≤ 9) (h0 : sc 0 = nI n) (hk : k < n) (ha : a.toInt < 0 ∨ 1 < a.toInt) : sx_Mi l yX8_look wsX8_look { frames := 1, cells := 0, slots := 0, locals := 21 } X [.ref (bd 0), .int (nI k), .int a] (mw X bd sc av) (fun r w => r = nI 0 ∧ w = mw X bd (va_up sc 2 (nI 2)) av) 0 0 := by
  refine sx_entI (own := RX8) (nL := 3) (by decide +kernel) rfl rfl (Nat.le_of_ble_eq_true rfl) ?_
  intro G hG hN hret
  show sx_W l X G 0 0 0 [(0, .ref (bd 0)), (1, .int (nI k)), (2, .int a)] [] (mw X bd sc av)
  refine sx_aload_n (pc := 0) hG dX8_look_0 rfl 0 rfl ?_
  refine sx_iconst (pc := 1) (v := nI 0) hG dX8_look_1 (by decide +kernel) ?_
  refine sx_put (pc := 2) (v := .int (nI 0)) (ci := 8) (w2 := (mw X bd (va_up sc 2 (nI 0)) av)) hG i_X8_look_8 tyX8 tyX8_ok nmX8 9 m_X8_look_f68 dX8_look_2 rfl (by decide) 0 rfl rfl rfl rfl (Nat.le_of_ble_eq_true rfl) rfl ?_
  refine sx_iload_n (pc := 5) hG dX8_look_5 rfl 1 rfl ?_
  refine sx_if_lt (pc := 6) (tgt := 17) (B := False) hG dX8_look_6 (by decide) (sx_lt0 (by omega)) (fun c6 => ?_) (fun c6 => ?_)
  · skip
    exact absurd c6 (by decide)
  · skip
    refine sx_iload_n (pc := 9) hG dX8_look_9 rfl 1 rfl ?_
    refine sx_aload_n (pc := 10) hG dX8_look_10 rfl 0 rfl ?_
    refine sx_get (pc := 11) (v2 := .int (nI n)) (ci := 8) hG i_X8_look_8 0 m_X8_look_f71 dX8_look_11 rfl (by decide) 0 rfl rfl (congrArg Value.int h0) ?_
    refine sx_icmp_lt (pc := 14) (tgt := 23) (B := k < n) hG dX8_look_14 (by decide) (nI_ltI (by omega) (by omega)) (fun c14 => ?_) (fun c14 => ?_)
    · skip
      refine sx_iload_n (pc := 23) hG dX8_look_23 rfl 2 rfl ?_
      refine sx_if_ne (pc := 24) (tgt := 36) (B := a.toInt = 0) hG dX8_look_24 (by decide) (sx_req0 _) (fun c24 => ?_) (fun c24 => ?_)
      · skip
        refine sx_iload_n (pc := 36) hG dX8_look_36 rfl 2 rfl ?_
        refine sx_iconst (pc := 37) (v := nI 1) hG dX8_look_37 (by decide +kernel) ?_
        refine sx_icmp_ne (pc := 38) (tgt := 50) (B := a.toInt = (1 : Int)) hG dX8_look_38 (by decide) (sx_req rfl (nI_toInt (by omega))) (fun c38 => ?_) (fun c38 => ?_)
        · skip
          refine sx_aload_n (pc := 50) hG dX8_look_50 rfl 0 rfl ?_
          refine sx_iconst (pc := 51) (v := nI 2) hG dX8_look_51 (by decide +kernel) ?_
          refine sx_callViw (pc := 52) (n9 := 1) (As := [.int (nI 2)]) (st := []) (b := (bd 0)) (ci := 8) hG (c_X8_fails l X bd (va_up sc 2 (nI 0)) av 2) gX8_look_X8_fails rfl (by decide +kernel) rfl 0 rfl rfl rfl dX8_look_52 ⟨rfl, rfl⟩ ⟨Nat.le_of_ble_eq_true rfl, Nat.le_of_ble_eq_true rfl⟩ (Nat.le_of_ble_eq_true rfl) ⟨Nat.le_of_ble_eq_true rfl, Nat.le_of_ble_eq_true rfl⟩ (fun r w1 hp => ?_)
          obtain ⟨hr9, hw9⟩ := hp
          have hr9 : r = (nI 0) := hr9
          subst hr9
          refine sx_weq hw9 ?_
          refine sx_weq (w2 := (mw X bd (va_up sc 2 (nI 2)) av)) rfl ?_
          exact hret _ _ _ _ dX8_look_55 rfl ⟨rfl, rfl⟩
        · skip
          exact absurd c38 (by omega)
      · skip
        exact absurd c24 (by omega)
    · skip
      exact absurd hk c14

theorem m_X8_look_f25 : Cond.fieldLink RX8 25 (TX8 6).1 (TX8 6).2.1 (TX8 6).2.2.1 ∈ wsX8_look := by decide +kernel
set_option maxHeartbeats 4000000 in
set_option maxRecDepth 100000 in
theorem c_X8_look_0 (l : Launch) (X : sx_X) (bd : Nat → Nat) (sc : Nat → Int32) (av : Nat → Nat → Nat) (k : Nat) (n : Nat) (hn : n ≤ 9) (h0 : sc 0 = nI n) (hk : k < n) : sx_Mi l yX8_look wsX8_look { frames := 0, cells := 0, slots := 0, locals := 0 } X [.ref (bd 0), .int (nI k), .int (nI 0)] (mw X bd sc av) (fun r w => r = nI (av 6 k) ∧ w = mw X bd (va_up sc 2 (nI 0)) av) 0 0 := by
  refine sx_entI (own := RX8) (nL := 3) (by decide +kernel) rfl rfl (Nat.le_of_ble_eq_true rfl) ?_
  intro G hG hN hret
  show sx_W l X G 0 0 0 [(0, .ref (bd 0)), (1, .int (nI k)), (2, .int (nI 0))] [] (mw X bd sc av)
  refine sx_aload_n (pc := 0) hG dX8_look_0 rfl 0 rfl ?_
  refine sx_iconst (pc := 1) (v := nI 0) hG dX8_look_1 (by decide +kernel) ?_
  refine sx_put (pc := 2) (v := .int (nI 0)) (ci := 8) (w2 := (mw X bd (va_up sc 2 (nI 0)) av)) hG i_X8_look_8 tyX8 tyX8_ok nmX8 9 m_X8_look_f68 dX8_look_2 rfl (by decide) 0 rfl rfl rfl rfl (Nat.le_of_ble_eq_true rfl) rfl ?_
  refine sx_iload_n (pc := 5) hG dX8_look_5 rfl 1 rfl ?_
  refine sx_if_lt (pc := 6) (tgt := 17) (B := False) hG dX8_look_6 (by decide) (sx_lt0 (by omega)) (fun c6 => ?_) (fun c6 => ?_)
  · skip
    exact absurd c6 (by decide)
  · skip
    refine sx_iload_n (pc := 9) hG dX8_look_9 rfl 1 rfl ?_
    refine sx_aload_n (pc := 10) hG dX8_look_10 rfl 0 rfl ?_
    refine sx_get (pc := 11) (v2 := .int (nI n)) (ci := 8) hG i_X8_look_8 0 m_X8_look_f71 dX8_look_11 rfl (by decide) 0 rfl rfl (congrArg Value.int h0) ?_
    refine sx_icmp_lt (pc := 14) (tgt := 23) (B := k < n) hG dX8_look_14 (by decide) (nI_ltI (by omega) (by omega)) (fun c14 => ?_) (fun c14 => ?_)
    · skip
      refine sx_iload_n (pc := 23) hG dX8_look_23 rfl 2 rfl ?_
      refine sx_if_ne (pc := 24) (tgt := 36) (B := 0 = 0) hG dX8_look_24 (by decide) (sx_eq0 (by omega)) (fun c24 => ?_) (fun c24 => ?_)
      · skip
        exact absurd (by decide) c24
      · skip
        refine sx_aload_n (pc := 27) hG dX8_look_27 rfl 0 rfl ?_
        refine sx_get (pc := 28) (v2 := .ref (bd 6)) (ci := 8) hG i_X8_look_8 6 m_X8_look_f25 dX8_look_28 rfl (by decide) 0 rfl rfl rfl ?_
        refine sx_iload_n (pc := 31) hG dX8_look_31 rfl 1 rfl ?_
        refine sx_iald (pc := 32) (v := nI ((av 6) k)) hG 6 dX8_look_32 rfl (by decide) (by omega) rfl ?_
        refine sx_goto (pc := 33) (tgt := 55) hG dX8_look_33 (by decide) ?_
        exact hret _ _ _ _ dX8_look_55 rfl ⟨rfl, rfl⟩
    · skip
      exact absurd hk c14

theorem m_X8_look_f22 : Cond.fieldLink RX8 22 (TX8 5).1 (TX8 5).2.1 (TX8 5).2.2.1 ∈ wsX8_look := by decide +kernel
set_option maxHeartbeats 4000000 in
set_option maxRecDepth 100000 in
theorem c_X8_look_1 (l : Launch) (X : sx_X) (bd : Nat → Nat) (sc : Nat → Int32) (av : Nat → Nat → Nat) (k : Nat) (n : Nat) (hn : n ≤ 9) (h0 : sc 0 = nI n) (hk : k < n) : sx_Mi l yX8_look wsX8_look { frames := 0, cells := 0, slots := 0, locals := 0 } X [.ref (bd 0), .int (nI k), .int (nI 1)] (mw X bd sc av) (fun r w => r = nI (av 5 k) ∧ w = mw X bd (va_up sc 2 (nI 0)) av) 0 0 := by
  refine sx_entI (own := RX8) (nL := 3) (by decide +kernel) rfl rfl (Nat.le_of_ble_eq_true rfl) ?_
  intro G hG hN hret
  show sx_W l X G 0 0 0 [(0, .ref (bd 0)), (1, .int (nI k)), (2, .int (nI 1))] [] (mw X bd sc av)
  refine sx_aload_n (pc := 0) hG dX8_look_0 rfl 0 rfl ?_
  refine sx_iconst (pc := 1) (v := nI 0) hG dX8_look_1 (by decide +kernel) ?_
  refine sx_put (pc := 2) (v := .int (nI 0)) (ci := 8) (w2 := (mw X bd (va_up sc 2 (nI 0)) av)) hG i_X8_look_8 tyX8 tyX8_ok nmX8 9 m_X8_look_f68 dX8_look_2 rfl (by decide) 0 rfl rfl rfl rfl (Nat.le_of_ble_eq_true rfl) rfl ?_
  refine sx_iload_n (pc := 5) hG dX8_look_5 rfl 1 rfl ?_
  refine sx_if_lt (pc := 6) (tgt := 17) (B := False) hG dX8_look_6 (by decide) (sx_lt0 (by omega)) (fun c6 => ?_) (fun c6 => ?_)
  · skip
    exact absurd c6 (by decide)
  · skip
    refine sx_iload_n (pc := 9) hG dX8_look_9 rfl 1 rfl ?_
    refine sx_aload_n (pc := 10) hG dX8_look_10 rfl 0 rfl ?_
    refine sx_get (pc := 11) (v2 := .int (nI n)) (ci := 8) hG i_X8_look_8 0 m_X8_look_f71 dX8_look_11 rfl (by decide) 0 rfl rfl (congrArg Value.int h0) ?_
    refine sx_icmp_lt (pc := 14) (tgt := 23) (B := k < n) hG dX8_look_14 (by decide) (nI_ltI (by omega) (by omega)) (fun c14 => ?_) (fun c14 => ?_)
    · skip
      refine sx_iload_n (pc := 23) hG dX8_look_23 rfl 2 rfl ?_
      refine sx_if_ne (pc := 24) (tgt := 36) (B := 1 = 0) hG dX8_look_24 (by decide) (sx_eq0 (by omega)) (fun c24 => ?_) (fun c24 => ?_)
      · skip
        refine sx_iload_n (pc := 36) hG dX8_look_36 rfl 2 rfl ?_
        refine sx_iconst (pc := 37) (v := nI 1) hG dX8_look_37 (by decide +kernel) ?_
        refine sx_icmp_ne (pc := 38) (tgt := 50) (B := 1 = 1) hG dX8_look_38 (by decide) (nI_eq (by omega) (by omega)) (fun c38 => ?_) (fun c38 => ?_)
        · skip
          exact absurd (by decide) c38
        · skip
          refine sx_aload_n (pc := 41) hG dX8_look_41 rfl 0 rfl ?_
          refine sx_get (pc := 42) (v2 := .ref (bd 5)) (ci := 8) hG i_X8_look_8 5 m_X8_look_f22 dX8_look_42 rfl (by decide) 0 rfl rfl rfl ?_
          refine sx_iload_n (pc := 45) hG dX8_look_45 rfl 1 rfl ?_
          refine sx_iald (pc := 46) (v := nI ((av 5) k)) hG 5 dX8_look_46 rfl (by decide) (by omega) rfl ?_
          refine sx_goto (pc := 47) (tgt := 55) hG dX8_look_47 (by decide) ?_
          exact hret _ _ _ _ dX8_look_55 rfl ⟨rfl, rfl⟩
      · skip
        exact absurd c24 (by decide)
    · skip
      exact absurd hk c14

theorem i_X8_count_8 : ∀ w ∈ u_ws RX8 TX8 24, w ∈ wsX8_count := by decide +kernel
theorem m_X8_count_f68 : Cond.fieldLink RX8 68 (TX8 9).1 (TX8 9).2.1 (TX8 9).2.2.1 ∈ wsX8_count := by decide +kernel
theorem m_X8_count_f71 : Cond.fieldLink RX8 71 (TX8 0).1 (TX8 0).2.1 (TX8 0).2.2.1 ∈ wsX8_count := by decide +kernel
set_option maxHeartbeats 4000000 in
set_option maxRecDepth 100000 in
theorem c_X8_count_0 (l : Launch) (X : sx_X) (bd : Nat → Nat) (sc : Nat → Int32) (av : Nat → Nat → Nat) (n : Nat) (hn : n ≤ 9) (h0 : sc 0 = nI n) : sx_Mi l yX8_count wsX8_count { frames := 0, cells := 0, slots := 0, locals := 0 } X [.ref (bd 0), .int (nI 0)] (mw X bd sc av) (fun r w => r = nI n ∧ w = mw X bd (va_up sc 2 (nI 0)) av) 0 0 := by
  refine sx_entI (own := RX8) (nL := 4) (by decide +kernel) rfl rfl (Nat.le_of_ble_eq_true rfl) ?_
  intro G hG hN hret
  show sx_W l X G 0 0 0 [(0, .ref (bd 0)), (1, .int (nI 0))] [] (mw X bd sc av)
  refine sx_aload_n (pc := 0) hG dX8_count_0 rfl 0 rfl ?_
  refine sx_iconst (pc := 1) (v := nI 0) hG dX8_count_1 (by decide +kernel) ?_
  refine sx_put (pc := 2) (v := .int (nI 0)) (ci := 8) (w2 := (mw X bd (va_up sc 2 (nI 0)) av)) hG i_X8_count_8 tyX8 tyX8_ok nmX8 9 m_X8_count_f68 dX8_count_2 rfl (by decide) 0 rfl rfl rfl rfl (Nat.le_of_ble_eq_true rfl) rfl ?_
  refine sx_iconst (pc := 5) (v := nI 0) hG dX8_count_5 (by decide +kernel) ?_
  refine sx_istore_n (pc := 6) (lv2 := [(0, .ref (bd 0)), (1, .int (nI 0)), (2, .int (nI 0))]) hG [1, 2, 0] dX8_count_6 rfl hN (by decide) rfl ?_
  refine sx_iload_n (pc := 7) hG dX8_count_7 rfl 1 rfl ?_
  refine sx_tswIn (pc := 8) (off := 36) (tgt := 44) hG dX8_count_8 (by decide) (by decide) (by decide +kernel) (by decide) ?_
  refine sx_aload_n (pc := 44) hG dX8_count_44 rfl 0 rfl ?_
  refine sx_get (pc := 45) (v2 := .int (nI n)) (ci := 8) hG i_X8_count_8 0 m_X8_count_f71 dX8_count_45 rfl (by decide) 0 rfl rfl (congrArg Value.int h0) ?_
  exact hret _ _ _ _ dX8_count_48 rfl ⟨rfl, rfl⟩

theorem m_X8_count_f74 : Cond.fieldLink RX8 74 (TX8 13).1 (TX8 13).2.1 (TX8 13).2.2.1 ∈ wsX8_count := by decide +kernel
set_option maxHeartbeats 4000000 in
set_option maxRecDepth 100000 in
theorem c_X8_count_1n (l : Launch) (X : sx_X) (bd : Nat → Nat) (sc : Nat → Int32) (av : Nat → Nat → Nat) (h3 : sc 3 = nI 0) : sx_Mi l yX8_count wsX8_count { frames := 0, cells := 0, slots := 0, locals := 0 } X [.ref (bd 0), .int (nI 1)] (mw X bd sc av) (fun r w => r = -1 ∧ w = mw X bd (va_up sc 2 (nI 0)) av) 0 0 := by
  refine sx_entI (own := RX8) (nL := 4) (by decide +kernel) rfl rfl (Nat.le_of_ble_eq_true rfl) ?_
  intro G hG hN hret
  show sx_W l X G 0 0 0 [(0, .ref (bd 0)), (1, .int (nI 1))] [] (mw X bd sc av)
  refine sx_aload_n (pc := 0) hG dX8_count_0 rfl 0 rfl ?_
  refine sx_iconst (pc := 1) (v := nI 0) hG dX8_count_1 (by decide +kernel) ?_
  refine sx_put (pc := 2) (v := .int (nI 0)) (ci := 8) (w2 := (mw X bd (va_up sc 2 (nI 0)) av)) hG i_X8_count_8 tyX8 tyX8_ok nmX8 9 m_X8_count_f68 dX8_count_2 rfl (by decide) 0 rfl rfl rfl rfl (Nat.le_of_ble_eq_true rfl) rfl ?_
  refine sx_iconst (pc := 5) (v := nI 0) hG dX8_count_5 (by decide +kernel) ?_
  refine sx_istore_n (pc := 6) (lv2 := [(0, .ref (bd 0)), (1, .int (nI 1)), (2, .int (nI 0))]) hG [1, 2, 0] dX8_count_6 rfl hN (by decide) rfl ?_
  refine sx_iload_n (pc := 7) hG dX8_count_7 rfl 1 rfl ?_
  refine sx_tswIn (pc := 8) (off := 41) (tgt := 49) hG dX8_count_8 (by decide) (by decide) (by decide +kernel) (by decide) ?_
  refine sx_aload_n (pc := 49) hG dX8_count_49 rfl 0 rfl ?_
  refine sx_get (pc := 50) (v2 := .int (nI 0)) (ci := 8) hG i_X8_count_8 13 m_X8_count_f74 dX8_count_50 rfl (by decide) 0 rfl rfl (congrArg Value.int h3) ?_
  refine sx_if_eq (pc := 53) (tgt := 63) (B := 0 = 0) hG dX8_count_53 (by decide) (sx_eq0 (by omega)) (fun c53 => ?_) (fun c53 => ?_)
  · skip
    refine sx_iconst (pc := 63) (v := (-1)) hG dX8_count_63 (by decide +kernel) ?_
    exact hret _ _ _ _ dX8_count_64 rfl ⟨rfl, rfl⟩
  · skip
    exact absurd (by decide) c53

theorem m_X8_count_f131 : Cond.fieldLink RX8 131 (TX8 14).1 (TX8 14).2.1 (TX8 14).2.2.1 ∈ wsX8_count := by decide +kernel
set_option maxHeartbeats 4000000 in
set_option maxRecDepth 100000 in
theorem c_X8_count_1 (l : Launch) (X : sx_X) (bd : Nat → Nat) (sc : Nat → Int32) (av : Nat → Nat → Nat) (h3 : sc 3 = nI 1) : sx_Mi l yX8_count wsX8_count { frames := 0, cells := 0, slots := 0, locals := 0 } X [.ref (bd 0), .int (nI 1)] (mw X bd sc av) (fun r w => r = sc 4 ∧ w = mw X bd (va_up sc 2 (nI 0)) av) 0 0 := by
  refine sx_entI (own := RX8) (nL := 4) (by decide +kernel) rfl rfl (Nat.le_of_ble_eq_true rfl) ?_
  intro G hG hN hret
  show sx_W l X G 0 0 0 [(0, .ref (bd 0)), (1, .int (nI 1))] [] (mw X bd sc av)
  refine sx_aload_n (pc := 0) hG dX8_count_0 rfl 0 rfl ?_
  refine sx_iconst (pc := 1) (v := nI 0) hG dX8_count_1 (by decide +kernel) ?_
  refine sx_put (pc := 2) (v := .int (nI 0)) (ci := 8) (w2 := (mw X bd (va_up sc 2 (nI 0)) av)) hG i_X8_count_8 tyX8 tyX8_ok nmX8 9 m_X8_count_f68 dX8_count_2 rfl (by decide) 0 rfl rfl rfl rfl (Nat.le_of_ble_eq_true rfl) rfl ?_
  refine sx_iconst (pc := 5) (v := nI 0) hG dX8_count_5 (by decide +kernel) ?_
  refine sx_istore_n (pc := 6) (lv2 := [(0, .ref (bd 0)), (1, .int (nI 1)), (2, .int (nI 0))]) hG [1, 2, 0] dX8_count_6 rfl hN (by decide) rfl ?_
  refine sx_iload_n (pc := 7) hG dX8_count_7 rfl 1 rfl ?_
  refine sx_tswIn (pc := 8) (off := 41) (tgt := 49) hG dX8_count_8 (by decide) (by decide) (by decide +kernel) (by decide) ?_
  refine sx_aload_n (pc := 49) hG dX8_count_49 rfl 0 rfl ?_
  refine sx_get (pc := 50) (v2 := .int (nI 1)) (ci := 8) hG i_X8_count_8 13 m_X8_count_f74 dX8_count_50 rfl (by decide) 0 rfl rfl (congrArg Value.int h3) ?_
  refine sx_if_eq (pc := 53) (tgt := 63) (B := 1 = 0) hG dX8_count_53 (by decide) (sx_eq0 (by omega)) (fun c53 => ?_) (fun c53 => ?_)
  · skip
    exact absurd c53 (by decide)
  · skip
    refine sx_aload_n (pc := 56) hG dX8_count_56 rfl 0 rfl ?_
    refine sx_get (pc := 57) (v2 := .int (sc 4)) (ci := 8) hG i_X8_count_8 14 m_X8_count_f131 dX8_count_57 rfl (by decide) 0 rfl rfl rfl ?_
    refine sx_goto (pc := 60) (tgt := 64) hG dX8_count_60 (by decide) ?_
    exact hret _ _ _ _ dX8_count_64 rfl ⟨rfl, rfl⟩

set_option maxHeartbeats 4000000 in
set_option maxRecDepth 100000 in
theorem c_X8_count_3n (l : Launch) (X : sx_X) (bd : Nat → Nat) (sc : Nat → Int32) (av : Nat → Nat → Nat) (h3 : sc 3 = nI 0) : sx_Mi l yX8_count wsX8_count { frames := 0, cells := 0, slots := 0, locals := 0 } X [.ref (bd 0), .int (nI 3)] (mw X bd sc av) (fun r w => r = -1 ∧ w = mw X bd (va_up sc 2 (nI 0)) av) 0 0 := by
  refine sx_entI (own := RX8) (nL := 4) (by decide +kernel) rfl rfl (Nat.le_of_ble_eq_true rfl) ?_
  intro G hG hN hret
  show sx_W l X G 0 0 0 [(0, .ref (bd 0)), (1, .int (nI 3))] [] (mw X bd sc av)
  refine sx_aload_n (pc := 0) hG dX8_count_0 rfl 0 rfl ?_
  refine sx_iconst (pc := 1) (v := nI 0) hG dX8_count_1 (by decide +kernel) ?_
  refine sx_put (pc := 2) (v := .int (nI 0)) (ci := 8) (w2 := (mw X bd (va_up sc 2 (nI 0)) av)) hG i_X8_count_8 tyX8 tyX8_ok nmX8 9 m_X8_count_f68 dX8_count_2 rfl (by decide) 0 rfl rfl rfl rfl (Nat.le_of_ble_eq_true rfl) rfl ?_
  refine sx_iconst (pc := 5) (v := nI 0) hG dX8_count_5 (by decide +kernel) ?_
  refine sx_istore_n (pc := 6) (lv2 := [(0, .ref (bd 0)), (1, .int (nI 3)), (2, .int (nI 0))]) hG [1, 2, 0] dX8_count_6 rfl hN (by decide) rfl ?_
  refine sx_iload_n (pc := 7) hG dX8_count_7 rfl 1 rfl ?_
  refine sx_tswIn (pc := 8) (off := 84) (tgt := 92) hG dX8_count_8 (by decide) (by decide) (by decide +kernel) (by decide) ?_
  refine sx_aload_n (pc := 92) hG dX8_count_92 rfl 0 rfl ?_
  refine sx_get (pc := 93) (v2 := .int (nI 0)) (ci := 8) hG i_X8_count_8 13 m_X8_count_f74 dX8_count_93 rfl (by decide) 0 rfl rfl (congrArg Value.int h3) ?_
  refine sx_if_eq (pc := 96) (tgt := 106) (B := 0 = 0) hG dX8_count_96 (by decide) (sx_eq0 (by omega)) (fun c96 => ?_) (fun c96 => ?_)
  · skip
    refine sx_iconst (pc := 106) (v := (-1)) hG dX8_count_106 (by decide +kernel) ?_
    exact hret _ _ _ _ dX8_count_107 rfl ⟨rfl, rfl⟩
  · skip
    exact absurd (by decide) c96

theorem m_X8_count_f134 : Cond.fieldLink RX8 134 (TX8 15).1 (TX8 15).2.1 (TX8 15).2.2.1 ∈ wsX8_count := by decide +kernel
set_option maxHeartbeats 4000000 in
set_option maxRecDepth 100000 in
theorem c_X8_count_3 (l : Launch) (X : sx_X) (bd : Nat → Nat) (sc : Nat → Int32) (av : Nat → Nat → Nat) (h3 : sc 3 = nI 1) : sx_Mi l yX8_count wsX8_count { frames := 0, cells := 0, slots := 0, locals := 0 } X [.ref (bd 0), .int (nI 3)] (mw X bd sc av) (fun r w => r = sc 5 ∧ w = mw X bd (va_up sc 2 (nI 0)) av) 0 0 := by
  refine sx_entI (own := RX8) (nL := 4) (by decide +kernel) rfl rfl (Nat.le_of_ble_eq_true rfl) ?_
  intro G hG hN hret
  show sx_W l X G 0 0 0 [(0, .ref (bd 0)), (1, .int (nI 3))] [] (mw X bd sc av)
  refine sx_aload_n (pc := 0) hG dX8_count_0 rfl 0 rfl ?_
  refine sx_iconst (pc := 1) (v := nI 0) hG dX8_count_1 (by decide +kernel) ?_
  refine sx_put (pc := 2) (v := .int (nI 0)) (ci := 8) (w2 := (mw X bd (va_up sc 2 (nI 0)) av)) hG i_X8_count_8 tyX8 tyX8_ok nmX8 9 m_X8_count_f68 dX8_count_2 rfl (by decide) 0 rfl rfl rfl rfl (Nat.le_of_ble_eq_true rfl) rfl ?_
  refine sx_iconst (pc := 5) (v := nI 0) hG dX8_count_5 (by decide +kernel) ?_
  refine sx_istore_n (pc := 6) (lv2 := [(0, .ref (bd 0)), (1, .int (nI 3)), (2, .int (nI 0))]) hG [1, 2, 0] dX8_count_6 rfl hN (by decide) rfl ?_
  refine sx_iload_n (pc := 7) hG dX8_count_7 rfl 1 rfl ?_
  refine sx_tswIn (pc := 8) (off := 84) (tgt := 92) hG dX8_count_8 (by decide) (by decide) (by decide +kernel) (by decide) ?_
  refine sx_aload_n (pc := 92) hG dX8_count_92 rfl 0 rfl ?_
  refine sx_get (pc := 93) (v2 := .int (nI 1)) (ci := 8) hG i_X8_count_8 13 m_X8_count_f74 dX8_count_93 rfl (by decide) 0 rfl rfl (congrArg Value.int h3) ?_
  refine sx_if_eq (pc := 96) (tgt := 106) (B := 1 = 0) hG dX8_count_96 (by decide) (sx_eq0 (by omega)) (fun c96 => ?_) (fun c96 => ?_)
  · skip
    exact absurd c96 (by decide)
  · skip
    refine sx_aload_n (pc := 99) hG dX8_count_99 rfl 0 rfl ?_
    refine sx_get (pc := 100) (v2 := .int (sc 5)) (ci := 8) hG i_X8_count_8 15 m_X8_count_f134 dX8_count_100 rfl (by decide) 0 rfl rfl rfl ?_
    refine sx_goto (pc := 103) (tgt := 107) hG dX8_count_103 (by decide) ?_
    exact hret _ _ _ _ dX8_count_107 rfl ⟨rfl, rfl⟩

theorem m_X8_count_f25 : Cond.fieldLink RX8 25 (TX8 6).1 (TX8 6).2.1 (TX8 6).2.2.1 ∈ wsX8_count := by decide +kernel
set_option maxHeartbeats 4000000 in
set_option maxRecDepth 100000 in
theorem c_X8_count_2 (l : Launch) (X : sx_X) (bd : Nat → Nat) (sc : Nat → Int32) (av : Nat → Nat → Nat) (n : Nat) (hn : n ≤ 9) (h0 : sc 0 = nI n) (hg : mG av) : sx_Mi l yX8_count wsX8_count { frames := 0, cells := 0, slots := 0, locals := 0 } X [.ref (bd 0), .int (nI 2)] (mw X bd sc av) (fun r w => r = nI (sx_sum (av 6) n) ∧ w = mw X bd (va_up sc 2 (nI 0)) av) 0 0 := by
  refine sx_entI (own := RX8) (nL := 4) (by decide +kernel) rfl rfl (Nat.le_of_ble_eq_true rfl) ?_
  intro G hG hN hret
  show sx_W l X G 0 0 0 [(0, .ref (bd 0)), (1, .int (nI 2))] [] (mw X bd sc av)
  have loop_k : ∀ (fuel : Nat), ∀ (k : Nat), (k ≤ n) → n - k < fuel → sx_W l X G 0 0 67 [(0, .ref (bd 0)), (1, .int (nI 2)), (2, .int (nI (sx_sum (av 6) k))), (3, .int (nI k))] [] (mw X bd (va_up sc 2 (nI 0)) av) := by
    intro fuel
    induction fuel with
    | zero => intro k hk hm; exact absurd hm (Nat.not_lt_zero _)
    | succ fuel ih_k =>
      intro k hk hm_k
      have hs1 := sx_sum_le hg.2.2.2.2.2.1 k
      have hs2 := hg.2.2.2.2.2.1 k
      refine sx_iload_n (pc := 67) hG dX8_count_67 rfl 3 rfl ?_
      refine sx_aload_n (pc := 68) hG dX8_count_68 rfl 0 rfl ?_
      refine sx_get (pc := 69) (v2 := .int (nI n)) (ci := 8) hG i_X8_count_8 0 m_X8_count_f71 dX8_count_69 rfl (by decide) 0 rfl rfl (congrArg Value.int h0) ?_
      refine sx_icmp_ge (pc := 72) (tgt := 90) (B := n ≤ k) hG dX8_count_72 (by decide) (nI_leI (by omega) (by omega)) (fun c72 => ?_) (fun c72 => ?_)
      · skip
        have hkn : k = n := by omega
        subst hkn
        refine sx_iload_n (pc := 90) hG dX8_count_90 rfl 2 rfl ?_
        exact hret _ _ _ _ dX8_count_91 rfl ⟨rfl, rfl⟩
      · skip
        refine sx_iload_n (pc := 75) hG dX8_count_75 rfl 2 rfl ?_
        refine sx_aload_n (pc := 76) hG dX8_count_76 rfl 0 rfl ?_
        refine sx_get (pc := 77) (v2 := .ref (bd 6)) (ci := 8) hG i_X8_count_8 6 m_X8_count_f25 dX8_count_77 rfl (by decide) 0 rfl rfl rfl ?_
        refine sx_iload_n (pc := 80) hG dX8_count_80 rfl 3 rfl ?_
        refine sx_iald (pc := 81) (v := nI ((av 6) k)) hG 6 dX8_count_81 rfl (by decide) (by omega) rfl ?_
        refine sx_iadd (pc := 82) (v := (nI (sx_sum (av 6) k + ((av 6) k)))) hG dX8_count_82 (nI_add (sx_sum (av 6) k) ((av 6) k)) ?_
        refine sx_istore_n (pc := 83) (lv2 := [(0, .ref (bd 0)), (1, .int (nI 2)), (2, .int (nI (sx_sum (av 6) k + ((av 6) k)))), (3, .int (nI k))]) hG [1, 2, 0, 3] dX8_count_83 rfl hN (by decide) rfl ?_
        refine sx_iinc (pc := 84) (v := nI (k + 1)) (lv2 := [(0, .ref (bd 0)), (1, .int (nI 2)), (2, .int (nI (sx_sum (av 6) k + ((av 6) k)))), (3, .int (nI (k + 1)))]) hG [1, 2, 3, 0] dX8_count_84 3 rfl (sx_inc k) hN (by decide) rfl ?_
        refine sx_goto (pc := 87) (tgt := 67) hG dX8_count_87 (by decide) ?_
        refine ih_k (k + 1) (by omega) (by omega)
  refine sx_aload_n (pc := 0) hG dX8_count_0 rfl 0 rfl ?_
  refine sx_iconst (pc := 1) (v := nI 0) hG dX8_count_1 (by decide +kernel) ?_
  refine sx_put (pc := 2) (v := .int (nI 0)) (ci := 8) (w2 := (mw X bd (va_up sc 2 (nI 0)) av)) hG i_X8_count_8 tyX8 tyX8_ok nmX8 9 m_X8_count_f68 dX8_count_2 rfl (by decide) 0 rfl rfl rfl rfl (Nat.le_of_ble_eq_true rfl) rfl ?_
  refine sx_iconst (pc := 5) (v := nI 0) hG dX8_count_5 (by decide +kernel) ?_
  refine sx_istore_n (pc := 6) (lv2 := [(0, .ref (bd 0)), (1, .int (nI 2)), (2, .int (nI 0))]) hG [1, 2, 0] dX8_count_6 rfl hN (by decide) rfl ?_
  refine sx_iload_n (pc := 7) hG dX8_count_7 rfl 1 rfl ?_
  refine sx_tswIn (pc := 8) (off := 57) (tgt := 65) hG dX8_count_8 (by decide) (by decide) (by decide +kernel) (by decide) ?_
  refine sx_iconst (pc := 65) (v := nI 0) hG dX8_count_65 (by decide +kernel) ?_
  refine sx_istore_n (pc := 66) (lv2 := [(0, .ref (bd 0)), (1, .int (nI 2)), (2, .int (nI 0)), (3, .int (nI 0))]) hG [1, 2, 3, 0] dX8_count_66 rfl hN (by decide) rfl ?_
  refine loop_k _ 0 (by omega) (Nat.lt_succ_self _)

theorem m_X8_count_f31 : Cond.fieldLink RX8 31 (TX8 8).1 (TX8 8).2.1 (TX8 8).2.2.1 ∈ wsX8_count := by decide +kernel
set_option maxHeartbeats 4000000 in
set_option maxRecDepth 100000 in
theorem c_X8_count_4 (l : Launch) (X : sx_X) (bd : Nat → Nat) (sc : Nat → Int32) (av : Nat → Nat → Nat)  : sx_Mi l yX8_count wsX8_count { frames := 0, cells := 0, slots := 0, locals := 0 } X [.ref (bd 0), .int (nI 4)] (mw X bd sc av) (fun r w => r = sc 1 ∧ w = mw X bd (va_up sc 2 (nI 0)) av) 0 0 := by
  refine sx_entI (own := RX8) (nL := 4) (by decide +kernel) rfl rfl (Nat.le_of_ble_eq_true rfl) ?_
  intro G hG hN hret
  show sx_W l X G 0 0 0 [(0, .ref (bd 0)), (1, .int (nI 4))] [] (mw X bd sc av)
  refine sx_aload_n (pc := 0) hG dX8_count_0 rfl 0 rfl ?_
  refine sx_iconst (pc := 1) (v := nI 0) hG dX8_count_1 (by decide +kernel) ?_
  refine sx_put (pc := 2) (v := .int (nI 0)) (ci := 8) (w2 := (mw X bd (va_up sc 2 (nI 0)) av)) hG i_X8_count_8 tyX8 tyX8_ok nmX8 9 m_X8_count_f68 dX8_count_2 rfl (by decide) 0 rfl rfl rfl rfl (Nat.le_of_ble_eq_true rfl) rfl ?_
  refine sx_iconst (pc := 5) (v := nI 0) hG dX8_count_5 (by decide +kernel) ?_
  refine sx_istore_n (pc := 6) (lv2 := [(0, .ref (bd 0)), (1, .int (nI 4)), (2, .int (nI 0))]) hG [1, 2, 0] dX8_count_6 rfl hN (by decide) rfl ?_
  refine sx_iload_n (pc := 7) hG dX8_count_7 rfl 1 rfl ?_
  refine sx_tswIn (pc := 8) (off := 100) (tgt := 108) hG dX8_count_8 (by decide) (by decide) (by decide +kernel) (by decide) ?_
  refine sx_aload_n (pc := 108) hG dX8_count_108 rfl 0 rfl ?_
  refine sx_get (pc := 109) (v2 := .int (sc 1)) (ci := 8) hG i_X8_count_8 8 m_X8_count_f31 dX8_count_109 rfl (by decide) 0 rfl rfl rfl ?_
  exact hret _ _ _ _ dX8_count_112 rfl ⟨rfl, rfl⟩

set_option maxHeartbeats 4000000 in
set_option maxRecDepth 100000 in
theorem c_X8_count_o (l : Launch) (X : sx_X) (bd : Nat → Nat) (sc : Nat → Int32) (av : Nat → Nat → Nat) (a : Int32) (ha : a.toInt < 0 ∨ 4 < a.toInt) : sx_Mi l yX8_count wsX8_count { frames := 0, cells := 0, slots := 0, locals := 0 } X [.ref (bd 0), .int a] (mw X bd sc av) (fun r w => r = -1 ∧ w = mw X bd (va_up sc 2 (nI 0)) av) 0 0 := by
  refine sx_entI (own := RX8) (nL := 4) (by decide +kernel) rfl rfl (Nat.le_of_ble_eq_true rfl) ?_
  intro G hG hN hret
  show sx_W l X G 0 0 0 [(0, .ref (bd 0)), (1, .int a)] [] (mw X bd sc av)
  refine sx_aload_n (pc := 0) hG dX8_count_0 rfl 0 rfl ?_
  refine sx_iconst (pc := 1) (v := nI 0) hG dX8_count_1 (by decide +kernel) ?_
  refine sx_put (pc := 2) (v := .int (nI 0)) (ci := 8) (w2 := (mw X bd (va_up sc 2 (nI 0)) av)) hG i_X8_count_8 tyX8 tyX8_ok nmX8 9 m_X8_count_f68 dX8_count_2 rfl (by decide) 0 rfl rfl rfl rfl (Nat.le_of_ble_eq_true rfl) rfl ?_
  refine sx_iconst (pc := 5) (v := nI 0) hG dX8_count_5 (by decide +kernel) ?_
  refine sx_istore_n (pc := 6) (lv2 := [(0, .ref (bd 0)), (1, .int a), (2, .int (nI 0))]) hG [1, 2, 0] dX8_count_6 rfl hN (by decide) rfl ?_
  refine sx_iload_n (pc := 7) hG dX8_count_7 rfl 1 rfl ?_
  refine sx_tswOut (pc := 8) (tgt := 113) hG dX8_count_8 ha (by decide) ?_
  refine sx_iconst (pc := 113) (v := (-1)) hG dX8_count_113 (by decide +kernel) ?_
  exact hret _ _ _ _ dX8_count_114 rfl ⟨rfl, rfl⟩
end
section
/-! THE REFERENCE: stroke, work -/
theorem sx_ptN_ok {a b : Nat} (ha : a ≤ 9) (hb : b ≤ 9) : sx_ptN (nI a) (nI b) = 1 := by
  have h1 : (nI a).toInt = a := nI_toInt (by omega)
  have h2 : (nI b).toInt = b := nI_toInt (by omega)
  unfold sx_ptN
  rw [if_pos (by omega)]
theorem sx_ptN_le (x y : Int32) : sx_ptN x y ≤ 1 := by unfold sx_ptN; split <;> omega
theorem sx_ptN_ne {x y : Int32} (h : ¬ sx_ptN x y = 0) : (∃ p : Nat, x = nI p ∧ p ≤ 9) ∧ ∃ q : Nat, y = nI q ∧ q ≤ 9 := by
  unfold sx_ptN at h
  by_cases hc : 0 ≤ x.toInt ∧ x.toInt ≤ 9 ∧ 0 ≤ y.toInt ∧ y.toInt ≤ 9
  · obtain ⟨h1, h2, h3, h4⟩ := hc
    exact ⟨⟨_, (sx_of h1).1, by omega⟩, ⟨_, (sx_of h3).1, by omega⟩⟩
  · rw [if_neg hc] at h; exact absurd rfl h
def mAdd (av : Nat → Nat → Nat) (n a b c d : Nat) : Nat → Nat → Nat := va_up (va_up (va_up (va_up (va_up (va_up av 1 (va_up (av 1) n a)) 2 (va_up (av 2) n b)) 3 (va_up (av 3) n c)) 4 (va_up (av 4) n d)) 5 (va_up (av 5) n (sx_dir a b c d))) 6 (va_up (av 6) n (sx_piece (sx_far a c) (sx_far b d)))
/-- the least of those that are counted -/
def sx_mn (i0 : Nat) (p f : Nat → Nat) : Nat → Nat
  | 0 => i0
  | k + 1 => if p k = 0 then sx_mn i0 p f k else if f k < sx_mn i0 p f k then f k else sx_mn i0 p f k
theorem sx_mn_le (i0 : Nat) (p f : Nat → Nat) (k : Nat) : sx_mn i0 p f k ≤ i0 := by
  induction k with
  | zero => exact Nat.le_refl _
  | succ k ih => unfold sx_mn; split; exact ih; split <;> omega
theorem sx_mn_congr {i0 : Nat} {p f g : Nat → Nat} {k : Nat} (h : ∀ b, b < k → ¬ p b = 0 → f b = g b) : sx_mn i0 p f k = sx_mn i0 p g k := by
  induction k with
  | zero => rfl
  | succ k ih =>
    unfold sx_mn
    rw [ih (fun b hb => h b (by omega))]
    by_cases hp : p k = 0
    · rw [if_pos hp, if_pos hp]
    · rw [if_neg hp, if_neg hp, h k (by omega) hp]
def mI (s : Nat) : Nat := if s = 0 then 0 else 2000000000
theorem mI_le (s : Nat) : mI s ≤ 2000000000 := by unfold mI; split <;> omega
/-- the reference's two tables: what it costs to go on from a over the set s; the best of a set -/
def mLv (av : Nat → Nat → Nat) (L : Nat → Nat) (s a k : Nat) : Nat := sx_mn (mI s) (fun b => sx_bit s (b / 2)) (fun b => mGo av a b + L (18 * sx_diff s (2 ^ (b / 2)) + b)) k
def mBv (av : Nat → Nat → Nat) (L : Nat → Nat) (s k : Nat) : Nat := sx_mn (mI s) (fun a => sx_bit s (a / 2)) (fun a => mFrom av L s a) k
def mT (av : Nat → Nat → Nat) (n : Nat) (L B : Nat → Nat) (K : Nat) : Prop := (∀ s, s < K → ∀ a, a < 2 * n → L (18 * s + a) = mLv av L s a (2 * n)) ∧ ∀ s, s < K → B s = mBv av L s (2 * n)
theorem sx_dlt0 : ∀ s, s < 512 → ∀ k, k < 9 → ¬ sx_bit s k = 0 → sx_diff s (2 ^ k) < s := by decide +kernel
theorem sx_dlt {s k : Nat} (hs : s < 512) (hk : k < 9) (h : ¬ sx_bit s k = 0) : sx_diff s (2 ^ k) < s := sx_dlt0 s hs k hk h
theorem mLv_congr {av : Nat → Nat → Nat} {L L2 : Nat → Nat} {s a k : Nat} (hs : s < 512) (hk : k ≤ 18) (h : ∀ j, j < 18 * s → L j = L2 j) : mLv av L s a k = mLv av L2 s a k :=
  sx_mn_congr fun b hb hp => by
    have := sx_dlt hs (k := b / 2) (by omega) hp
    show _ + L _ = _ + L2 _
    rw [h _ (by omega)]
theorem mBv_congr {av : Nat → Nat → Nat} {L L2 : Nat → Nat} {s k : Nat} (hs : s < 512) (hk : k ≤ 18) (h : ∀ j, j < 18 * s → L j = L2 j) : mBv av L s k = mBv av L2 s k :=
  sx_mn_congr fun b hb hp => by
    have := sx_dlt hs (k := b / 2) (by omega) hp
    show _ + L _ = _ + L2 _
    rw [h _ (by omega)]
theorem mT_up {av : Nat → Nat → Nat} {n K : Nat} {L B : Nat → Nat} {i v : Nat} (hn : n ≤ 9) (hK : K ≤ 512) (hi : 18 * K ≤ i) (h : mT av n L B K) : mT av n (va_up L i v) B K := by
  have key : ∀ s, s < K → ∀ j, j < 18 * s + 18 → va_up L i v j = L j := fun s hs j hj => by unfold va_up; rw [if_neg (by omega)]
  refine ⟨fun s hs a ha => ?_, fun s hs => ?_⟩
  · rw [key s hs _ (by omega), h.1 s hs a ha]
    exact mLv_congr (by omega) (by omega) (fun j hj => (key s hs j (by omega)).symm)
  · rw [h.2 s hs]
    exact mBv_congr (by omega) (by omega) (fun j hj => (key s hs j (by omega)).symm)
theorem mLv_step (av : Nat → Nat → Nat) (L : Nat → Nat) (s a k : Nat) : mLv av L s a (k + 1) = if sx_bit s (k / 2) = 0 then mLv av L s a k else if mGo av a k + L (18 * sx_diff s (2 ^ (k / 2)) + k) < mLv av L s a k then mGo av a k + L (18 * sx_diff s (2 ^ (k / 2)) + k) else mLv av L s a k := rfl
theorem mBv_step (av : Nat → Nat → Nat) (L : Nat → Nat) (s k : Nat) : mBv av L s (k + 1) = if sx_bit s (k / 2) = 0 then mBv av L s k else if mFrom av L s k < mBv av L s k then mFrom av L s k else mBv av L s k := rfl
theorem mA_up {av : Nat → Nat → Nat} {n s a v : Nat} {L : Nat → Nat} (hn : n ≤ 9) (hs : s < 512) (h : ∀ q, q < a → L (18 * s + q) = mLv av L s q (2 * n)) (hv : v = mLv av L s a (2 * n)) : ∀ q, q < a + 1 → va_up L (18 * s + a) v (18 * s + q) = mLv av (va_up L (18 * s + a) v) s q (2 * n) := by
  intro q hq
  have e : mLv av (va_up L (18 * s + a) v) s q (2 * n) = mLv av L s q (2 * n) := mLv_congr hs (by omega) (fun j hj => by unfold va_up; rw [if_neg (by omega)])
  rw [e]
  unfold va_up
  by_cases h1 : q = a
  · subst h1; rw [if_pos rfl]; exact hv
  · rw [if_neg (by omega)]; exact h q (by omega)
theorem mT_next {av : Nat → Nat → Nat} {n s : Nat} {L B B2 : Nat → Nat} (hT : mT av n L B s) (hA : ∀ q, q < 2 * n → L (18 * s + q) = mLv av L s q (2 * n)) (h1 : B2 s = mBv av L s (2 * n)) (h2 : ∀ j, ¬ j = s → B2 j = B j) : mT av n L B2 (s + 1) := by
  refine ⟨fun t ht a ha => ?_, fun t ht => ?_⟩
  · by_cases e : t = s
    · subst e; exact hA a ha
    · exact hT.1 t (by omega) a ha
  · by_cases e : t = s
    · subst e; exact h1
    · rw [h2 t e]; exact hT.2 t (by omega)
theorem i_X8_stroke_8 : ∀ w ∈ u_ws RX8 TX8 24, w ∈ wsX8_stroke := by decide +kernel
theorem m_X8_stroke_f7 : Cond.fieldLink RX8 7 (TX8 1).1 (TX8 1).2.1 (TX8 1).2.2.1 ∈ wsX8_stroke := by decide +kernel
theorem m_X8_stroke_f71 : Cond.fieldLink RX8 71 (TX8 0).1 (TX8 0).2.1 (TX8 0).2.2.1 ∈ wsX8_stroke := by decide +kernel
theorem m_X8_stroke_f13 : Cond.fieldLink RX8 13 (TX8 2).1 (TX8 2).2.1 (TX8 2).2.2.1 ∈ wsX8_stroke := by decide +kernel
theorem m_X8_stroke_f16 : Cond.fieldLink RX8 16 (TX8 3).1 (TX8 3).2.1 (TX8 3).2.2.1 ∈ wsX8_stroke := by decide +kernel
theorem m_X8_stroke_f19 : Cond.fieldLink RX8 19 (TX8 4).1 (TX8 4).2.1 (TX8 4).2.2.1 ∈ wsX8_stroke := by decide +kernel
theorem m_X8_stroke_f22 : Cond.fieldLink RX8 22 (TX8 5).1 (TX8 5).2.1 (TX8 5).2.2.1 ∈ wsX8_stroke := by decide +kernel
theorem m_X8_stroke_f25 : Cond.fieldLink RX8 25 (TX8 6).1 (TX8 6).2.1 (TX8 6).2.2.1 ∈ wsX8_stroke := by decide +kernel
theorem m_X8_stroke_f68 : Cond.fieldLink RX8 68 (TX8 9).1 (TX8 9).2.1 (TX8 9).2.2.1 ∈ wsX8_stroke := by decide +kernel
set_option maxHeartbeats 4000000 in
set_option maxRecDepth 100000 in
theorem c_X8_stroke_ok (l : Launch) (X : sx_X) (bd : Nat → Nat) (sc : Nat → Int32) (av : Nat → Nat → Nat) (n a b c d : Nat) (hn : n < 9) (h0 : sc 0 = nI n) (ha : a ≤ 9) (hb : b ≤ 9) (hc : c ≤ 9) (hd : d ≤ 9) (hs : sx_str a b c d) : sx_Mi l yX8_stroke wsX8_stroke { frames := 2, cells := 0, slots := 0, locals := 46 } X [.ref (bd 0), .int (nI a), .int (nI b), .int (nI c), .int (nI d)] (mw X bd sc av) (fun r w => r = nI n ∧ w = mw X bd (va_up (va_up sc 0 (nI (n + 1))) 2 (nI 0)) (mAdd av n a b c d)) 0 0 := by
  refine sx_entI (own := RX8) (nL := 5) (by decide +kernel) rfl rfl (Nat.le_of_ble_eq_true rfl) ?_
  intro G hG hN hret
  show sx_W l X G 0 0 0 [(0, .ref (bd 0)), (1, .int (nI a)), (2, .int (nI b)), (3, .int (nI c)), (4, .int (nI d))] [] (mw X bd sc av)
  have hs2 := hs
  unfold sx_str at hs2
  have hf1 := sx_far_le a c 10 (by omega) (by omega)
  have hf2 := sx_far_le b d 10 (by omega) (by omega)
  have join_s : sx_W l X G 0 0 69 [(0, .ref (bd 0)), (1, .int (nI a)), (2, .int (nI b)), (3, .int (nI c)), (4, .int (nI d))] [] (mw X bd (va_up sc 2 (nI 0)) av) := by
    refine sx_aload_n (pc := 69) hG dX8_stroke_69 rfl 0 rfl ?_
    refine sx_get (pc := 70) (v2 := .ref (bd 1)) (ci := 8) hG i_X8_stroke_8 1 m_X8_stroke_f7 dX8_stroke_70 rfl (by decide) 0 rfl rfl rfl ?_
    refine sx_aload_n (pc := 73) hG dX8_stroke_73 rfl 0 rfl ?_
    refine sx_get (pc := 74) (v2 := .int (nI n)) (ci := 8) hG i_X8_stroke_8 0 m_X8_stroke_f71 dX8_stroke_74 rfl (by decide) 0 rfl rfl (congrArg Value.int h0) ?_
    refine sx_iload_n (pc := 77) hG dX8_stroke_77 rfl 1 rfl ?_
    refine sx_iastN (pc := 78) (w2 := (mw X bd (va_up sc 2 (nI 0)) (va_up av 1 (va_up (av 1) n a)))) hG 1 dX8_stroke_78 rfl (by decide) (by omega) rfl ?_
    refine sx_aload_n (pc := 79) hG dX8_stroke_79 rfl 0 rfl ?_
    refine sx_get (pc := 80) (v2 := .ref (bd 2)) (ci := 8) hG i_X8_stroke_8 2 m_X8_stroke_f13 dX8_stroke_80 rfl (by decide) 0 rfl rfl rfl ?_
    refine sx_aload_n (pc := 83) hG dX8_stroke_83 rfl 0 rfl ?_
    refine sx_get (pc := 84) (v2 := .int (nI n)) (ci := 8) hG i_X8_stroke_8 0 m_X8_stroke_f71 dX8_stroke_84 rfl (by decide) 0 rfl rfl (congrArg Value.int h0) ?_
    refine sx_iload_n (pc := 87) hG dX8_stroke_87 rfl 2 rfl ?_
    refine sx_iastN (pc := 88) (w2 := (mw X bd (va_up sc 2 (nI 0)) (va_up (va_up av 1 (va_up (av 1) n a)) 2 (va_up (av 2) n b)))) hG 2 dX8_stroke_88 rfl (by decide) (by omega) rfl ?_
    refine sx_aload_n (pc := 89) hG dX8_stroke_89 rfl 0 rfl ?_
    refine sx_get (pc := 90) (v2 := .ref (bd 3)) (ci := 8) hG i_X8_stroke_8 3 m_X8_stroke_f16 dX8_stroke_90 rfl (by decide) 0 rfl rfl rfl ?_
    refine sx_aload_n (pc := 93) hG dX8_stroke_93 rfl 0 rfl ?_
    refine sx_get (pc := 94) (v2 := .int (nI n)) (ci := 8) hG i_X8_stroke_8 0 m_X8_stroke_f71 dX8_stroke_94 rfl (by decide) 0 rfl rfl (congrArg Value.int h0) ?_
    refine sx_iload_n (pc := 97) hG dX8_stroke_97 rfl 3 rfl ?_
    refine sx_iastN (pc := 98) (w2 := (mw X bd (va_up sc 2 (nI 0)) (va_up (va_up (va_up av 1 (va_up (av 1) n a)) 2 (va_up (av 2) n b)) 3 (va_up (av 3) n c)))) hG 3 dX8_stroke_98 rfl (by decide) (by omega) rfl ?_
    refine sx_aload_n (pc := 99) hG dX8_stroke_99 rfl 0 rfl ?_
    refine sx_get (pc := 100) (v2 := .ref (bd 4)) (ci := 8) hG i_X8_stroke_8 4 m_X8_stroke_f19 dX8_stroke_100 rfl (by decide) 0 rfl rfl rfl ?_
    refine sx_aload_n (pc := 103) hG dX8_stroke_103 rfl 0 rfl ?_
    refine sx_get (pc := 104) (v2 := .int (nI n)) (ci := 8) hG i_X8_stroke_8 0 m_X8_stroke_f71 dX8_stroke_104 rfl (by decide) 0 rfl rfl (congrArg Value.int h0) ?_
    refine sx_iload (pc := 107) hG dX8_stroke_107 4 rfl ?_
    refine sx_iastN (pc := 109) (w2 := (mw X bd (va_up sc 2 (nI 0)) (va_up (va_up (va_up (va_up av 1 (va_up (av 1) n a)) 2 (va_up (av 2) n b)) 3 (va_up (av 3) n c)) 4 (va_up (av 4) n d)))) hG 4 dX8_stroke_109 rfl (by decide) (by omega) rfl ?_
    refine sx_aload_n (pc := 110) hG dX8_stroke_110 rfl 0 rfl ?_
    refine sx_get (pc := 111) (v2 := .ref (bd 5)) (ci := 8) hG i_X8_stroke_8 5 m_X8_stroke_f22 dX8_stroke_111 rfl (by decide) 0 rfl rfl rfl ?_
    refine sx_aload_n (pc := 114) hG dX8_stroke_114 rfl 0 rfl ?_
    refine sx_get (pc := 115) (v2 := .int (nI n)) (ci := 8) hG i_X8_stroke_8 0 m_X8_stroke_f71 dX8_stroke_115 rfl (by decide) 0 rfl rfl (congrArg Value.int h0) ?_
    refine sx_iload_n (pc := 118) hG dX8_stroke_118 rfl 3 rfl ?_
    refine sx_iload_n (pc := 119) hG dX8_stroke_119 rfl 1 rfl ?_
    refine sx_isub (pc := 120) (v := (nI c - nI a)) hG dX8_stroke_120 rfl ?_
    refine sx_callSiw (pc := 121) (n9 := 1) (As := [.int (nI c - nI a)]) (st := [.int (nI n), .ref (bd 5)]) hG (c_X8_sign l X (mw X bd (va_up sc 2 (nI 0)) (va_up (va_up (va_up (va_up av 1 (va_up (av 1) n a)) 2 (va_up (av 2) n b)) 3 (va_up (av 3) n c)) 4 (va_up (av 4) n d))) a c (by omega) (by omega)) gX8_stroke_X8_sign rfl (by decide +kernel) rfl dX8_stroke_121 ⟨rfl, rfl⟩ ⟨Nat.le_of_ble_eq_true rfl, Nat.le_of_ble_eq_true rfl⟩ (Nat.le_of_ble_eq_true rfl) ⟨Nat.le_of_ble_eq_true rfl, Nat.le_of_ble_eq_true rfl⟩ (fun r w1 hp => ?_)
    obtain ⟨hr9, hw9⟩ := hp
    have hr9 : r = (sx_sgn a c) := hr9
    subst hr9
    refine sx_weq hw9 ?_
    refine sx_iload (pc := 124) hG dX8_stroke_124 4 rfl ?_
    refine sx_iload_n (pc := 126) hG dX8_stroke_126 rfl 2 rfl ?_
    refine sx_isub (pc := 127) (v := (nI d - nI b)) hG dX8_stroke_127 rfl ?_
    refine sx_callSiw (pc := 128) (n9 := 1) (As := [.int (nI d - nI b)]) (st := [.int (sx_sgn a c), .int (nI n), .ref (bd 5)]) hG (c_X8_sign l X (mw X bd (va_up sc 2 (nI 0)) (va_up (va_up (va_up (va_up av 1 (va_up (av 1) n a)) 2 (va_up (av 2) n b)) 3 (va_up (av 3) n c)) 4 (va_up (av 4) n d))) b d (by omega) (by omega)) gX8_stroke_X8_sign rfl (by decide +kernel) rfl dX8_stroke_128 ⟨rfl, rfl⟩ ⟨Nat.le_of_ble_eq_true rfl, Nat.le_of_ble_eq_true rfl⟩ (Nat.le_of_ble_eq_true rfl) ⟨Nat.le_of_ble_eq_true rfl, Nat.le_of_ble_eq_true rfl⟩ (fun r w1 hp => ?_)
    obtain ⟨hr9, hw9⟩ := hp
    have hr9 : r = (sx_sgn b d) := hr9
    subst hr9
    refine sx_weq hw9 ?_
    refine sx_callSiw (pc := 131) (n9 := 2) (As := [.int (sx_sgn a c), .int (sx_sgn b d)]) (st := [.int (nI n), .ref (bd 5)]) hG (c_X8_towards l X (mw X bd (va_up sc 2 (nI 0)) (va_up (va_up (va_up (va_up av 1 (va_up (av 1) n a)) 2 (va_up (av 2) n b)) 3 (va_up (av 3) n c)) 4 (va_up (av 4) n d))) a b c d) gX8_stroke_X8_towards rfl (by decide +kernel) rfl dX8_stroke_131 ⟨rfl, rfl⟩ ⟨Nat.le_of_ble_eq_true rfl, Nat.le_of_ble_eq_true rfl⟩ (Nat.le_of_ble_eq_true rfl) ⟨Nat.le_of_ble_eq_true rfl, Nat.le_of_ble_eq_true rfl⟩ (fun r w1 hp => ?_)
    obtain ⟨hr9, hw9⟩ := hp
    have hr9 : r = (nI (sx_dir a b c d)) := hr9
    subst hr9
    refine sx_weq hw9 ?_
    refine sx_iastN (pc := 134) (w2 := (mw X bd (va_up sc 2 (nI 0)) (va_up (va_up (va_up (va_up (va_up av 1 (va_up (av 1) n a)) 2 (va_up (av 2) n b)) 3 (va_up (av 3) n c)) 4 (va_up (av 4) n d)) 5 (va_up (av 5) n (sx_dir a b c d))))) hG 5 dX8_stroke_134 rfl (by decide) (by omega) rfl ?_
    refine sx_aload_n (pc := 135) hG dX8_stroke_135 rfl 0 rfl ?_
    refine sx_get (pc := 136) (v2 := .ref (bd 6)) (ci := 8) hG i_X8_stroke_8 6 m_X8_stroke_f25 dX8_stroke_136 rfl (by decide) 0 rfl rfl rfl ?_
    refine sx_aload_n (pc := 139) hG dX8_stroke_139 rfl 0 rfl ?_
    refine sx_get (pc := 140) (v2 := .int (nI n)) (ci := 8) hG i_X8_stroke_8 0 m_X8_stroke_f71 dX8_stroke_140 rfl (by decide) 0 rfl rfl (congrArg Value.int h0) ?_
    refine sx_iload_n (pc := 143) hG dX8_stroke_143 rfl 1 rfl ?_
    refine sx_iload_n (pc := 144) hG dX8_stroke_144 rfl 2 rfl ?_
    refine sx_iload_n (pc := 145) hG dX8_stroke_145 rfl 3 rfl ?_
    refine sx_iload (pc := 146) hG dX8_stroke_146 4 rfl ?_
    refine sx_callSiw (pc := 148) (n9 := 4) (As := [.int (nI a), .int (nI b), .int (nI c), .int (nI d)]) (st := [.int (nI n), .ref (bd 6)]) hG (c_X8_piece l X (mw X bd (va_up sc 2 (nI 0)) (va_up (va_up (va_up (va_up (va_up av 1 (va_up (av 1) n a)) 2 (va_up (av 2) n b)) 3 (va_up (av 3) n c)) 4 (va_up (av 4) n d)) 5 (va_up (av 5) n (sx_dir a b c d)))) a b c d (by omega) (by omega) (by omega) (by omega)) gX8_stroke_X8_piece rfl (by decide +kernel) rfl dX8_stroke_148 ⟨rfl, rfl⟩ ⟨Nat.le_of_ble_eq_true rfl, Nat.le_of_ble_eq_true rfl⟩ (Nat.le_of_ble_eq_true rfl) ⟨Nat.le_of_ble_eq_true rfl, Nat.le_of_ble_eq_true rfl⟩ (fun r w1 hp => ?_)
    obtain ⟨hr9, hw9⟩ := hp
    have hr9 : r = (nI (sx_piece (sx_far a c) (sx_far b d))) := hr9
    subst hr9
    refine sx_weq hw9 ?_
    refine sx_iastN (pc := 151) (w2 := (mw X bd (va_up sc 2 (nI 0)) (va_up (va_up (va_up (va_up (va_up (va_up av 1 (va_up (av 1) n a)) 2 (va_up (av 2) n b)) 3 (va_up (av 3) n c)) 4 (va_up (av 4) n d)) 5 (va_up (av 5) n (sx_dir a b c d))) 6 (va_up (av 6) n (sx_piece (sx_far a c) (sx_far b d)))))) hG 6 dX8_stroke_151 rfl (by decide) (by omega) rfl ?_
    refine sx_aload_n (pc := 152) hG dX8_stroke_152 rfl 0 rfl ?_
    refine sx_dup (pc := 153) hG dX8_stroke_153 rfl ?_
    refine sx_get (pc := 154) (v2 := .int (nI n)) (ci := 8) hG i_X8_stroke_8 0 m_X8_stroke_f71 dX8_stroke_154 rfl (by decide) 0 rfl rfl (congrArg Value.int h0) ?_
    refine sx_iconst (pc := 157) (v := nI 1) hG dX8_stroke_157 (by decide +kernel) ?_
    refine sx_iadd (pc := 158) (v := (nI (n + 1))) hG dX8_stroke_158 (nI_add n 1) ?_
    refine sx_put (pc := 159) (v := .int (nI (n + 1))) (ci := 8) (w2 := (mw X bd (va_up (va_up sc 0 (nI (n + 1))) 2 (nI 0)) (va_up (va_up (va_up (va_up (va_up (va_up av 1 (va_up (av 1) n a)) 2 (va_up (av 2) n b)) 3 (va_up (av 3) n c)) 4 (va_up (av 4) n d)) 5 (va_up (av 5) n (sx_dir a b c d))) 6 (va_up (av 6) n (sx_piece (sx_far a c) (sx_far b d)))))) hG i_X8_stroke_8 tyX8 tyX8_ok nmX8 0 m_X8_stroke_f71 dX8_stroke_159 rfl (by decide) 0 rfl rfl rfl rfl (Nat.le_of_ble_eq_true rfl) rfl ?_
    refine sx_aload_n (pc := 162) hG dX8_stroke_162 rfl 0 rfl ?_
    refine sx_get (pc := 163) (v2 := .int (nI (n + 1))) (ci := 8) hG i_X8_stroke_8 0 m_X8_stroke_f71 dX8_stroke_163 rfl (by decide) 0 rfl rfl rfl ?_
    refine sx_iconst (pc := 166) (v := nI 1) hG dX8_stroke_166 (by decide +kernel) ?_
    refine sx_isub (pc := 167) (v := (nI ((n + 1) - 1))) hG dX8_stroke_167 (pk_sub (by omega)) ?_
    exact hret _ _ _ _ dX8_stroke_168 rfl ⟨congrArg nI (by omega), rfl⟩
  refine sx_aload_n (pc := 0) hG dX8_stroke_0 rfl 0 rfl ?_
  refine sx_iconst (pc := 1) (v := nI 0) hG dX8_stroke_1 (by decide +kernel) ?_
  refine sx_put (pc := 2) (v := .int (nI 0)) (ci := 8) (w2 := (mw X bd (va_up sc 2 (nI 0)) av)) hG i_X8_stroke_8 tyX8 tyX8_ok nmX8 9 m_X8_stroke_f68 dX8_stroke_2 rfl (by decide) 0 rfl rfl rfl rfl (Nat.le_of_ble_eq_true rfl) rfl ?_
  refine sx_aload_n (pc := 5) hG dX8_stroke_5 rfl 0 rfl ?_
  refine sx_get (pc := 6) (v2 := .int (nI n)) (ci := 8) hG i_X8_stroke_8 0 m_X8_stroke_f71 dX8_stroke_6 rfl (by decide) 0 rfl rfl (congrArg Value.int h0) ?_
  refine sx_bipush (pc := 9) (v := nI 9) hG dX8_stroke_9 (by decide +kernel) ?_
  refine sx_icmp_eq (pc := 11) (tgt := 67) (B := n = 9) hG dX8_stroke_11 (by decide) (nI_eq (by omega) (by omega)) (fun c11 => ?_) (fun c11 => ?_)
  · skip
    exact absurd c11 (by omega)
  · skip
    refine sx_iload_n (pc := 14) hG dX8_stroke_14 rfl 1 rfl ?_
    refine sx_iload_n (pc := 15) hG dX8_stroke_15 rfl 2 rfl ?_
    refine sx_callSiw (pc := 16) (n9 := 2) (As := [.int (nI a), .int (nI b)]) (st := []) hG (c_X8_isPoint l X (mw X bd (va_up sc 2 (nI 0)) av) (nI a) (nI b)) gX8_stroke_X8_isPoint rfl (by decide +kernel) rfl dX8_stroke_16 ⟨rfl, rfl⟩ ⟨Nat.le_of_ble_eq_true rfl, Nat.le_of_ble_eq_true rfl⟩ (Nat.le_of_ble_eq_true rfl) ⟨Nat.le_of_ble_eq_true rfl, Nat.le_of_ble_eq_true rfl⟩ (fun r w1 hp => ?_)
    obtain ⟨hr9, hw9⟩ := hp
    rw [sx_ptN_ok (by omega) (by omega)] at hr9
    subst hr9
    refine sx_weq hw9 ?_
    refine sx_if_eq (pc := 19) (tgt := 67) (B := 1 = 0) hG dX8_stroke_19 (by decide) (sx_eq0 (by omega)) (fun c19 => ?_) (fun c19 => ?_)
    · skip
      exact absurd c19 (by decide)
    · skip
      refine sx_iload_n (pc := 22) hG dX8_stroke_22 rfl 3 rfl ?_
      refine sx_iload (pc := 23) hG dX8_stroke_23 4 rfl ?_
      refine sx_callSiw (pc := 25) (n9 := 2) (As := [.int (nI c), .int (nI d)]) (st := []) hG (c_X8_isPoint l X (mw X bd (va_up sc 2 (nI 0)) av) (nI c) (nI d)) gX8_stroke_X8_isPoint rfl (by decide +kernel) rfl dX8_stroke_25 ⟨rfl, rfl⟩ ⟨Nat.le_of_ble_eq_true rfl, Nat.le_of_ble_eq_true rfl⟩ (Nat.le_of_ble_eq_true rfl) ⟨Nat.le_of_ble_eq_true rfl, Nat.le_of_ble_eq_true rfl⟩ (fun r w1 hp => ?_)
      obtain ⟨hr9, hw9⟩ := hp
      rw [sx_ptN_ok (by omega) (by omega)] at hr9
      subst hr9
      refine sx_weq hw9 ?_
      refine sx_if_eq (pc := 28) (tgt := 67) (B := 1 = 0) hG dX8_stroke_28 (by decide) (sx_eq0 (by omega)) (fun c28 => ?_) (fun c28 => ?_)
      · skip
        exact absurd c28 (by decide)
      · skip
        refine sx_iload_n (pc := 31) hG dX8_stroke_31 rfl 1 rfl ?_
        refine sx_iload_n (pc := 32) hG dX8_stroke_32 rfl 3 rfl ?_
        refine sx_icmp_ne (pc := 33) (tgt := 42) (B := a = c) hG dX8_stroke_33 (by decide) (nI_eq (by omega) (by omega)) (fun c33 => ?_) (fun c33 => ?_)
        · skip
          refine sx_iload_n (pc := 42) hG dX8_stroke_42 rfl 1 rfl ?_
          refine sx_iload_n (pc := 43) hG dX8_stroke_43 rfl 3 rfl ?_
          refine sx_icmp_eq (pc := 44) (tgt := 69) (B := a = c) hG dX8_stroke_44 (by decide) (nI_eq (by omega) (by omega)) (fun c44 => ?_) (fun c44 => ?_)
          · skip
            refine join_s
          · skip
            refine sx_iload_n (pc := 47) hG dX8_stroke_47 rfl 2 rfl ?_
            refine sx_iload (pc := 48) hG dX8_stroke_48 4 rfl ?_
            refine sx_icmp_eq (pc := 50) (tgt := 69) (B := b = d) hG dX8_stroke_50 (by decide) (nI_eq (by omega) (by omega)) (fun c50 => ?_) (fun c50 => ?_)
            · skip
              refine join_s
            · skip
              refine sx_iload_n (pc := 53) hG dX8_stroke_53 rfl 1 rfl ?_
              refine sx_iload_n (pc := 54) hG dX8_stroke_54 rfl 3 rfl ?_
              refine sx_callSiw (pc := 55) (n9 := 2) (As := [.int (nI a), .int (nI c)]) (st := []) hG (c_X8_far l X (mw X bd (va_up sc 2 (nI 0)) av) a c (by omega) (by omega)) gX8_stroke_X8_far rfl (by decide +kernel) rfl dX8_stroke_55 ⟨rfl, rfl⟩ ⟨Nat.le_of_ble_eq_true rfl, Nat.le_of_ble_eq_true rfl⟩ (Nat.le_of_ble_eq_true rfl) ⟨Nat.le_of_ble_eq_true rfl, Nat.le_of_ble_eq_true rfl⟩ (fun r w1 hp => ?_)
              obtain ⟨hr9, hw9⟩ := hp
              have hr9 : r = (nI (sx_far a c)) := hr9
              subst hr9
              refine sx_weq hw9 ?_
              refine sx_iload_n (pc := 58) hG dX8_stroke_58 rfl 2 rfl ?_
              refine sx_iload (pc := 59) hG dX8_stroke_59 4 rfl ?_
              refine sx_callSiw (pc := 61) (n9 := 2) (As := [.int (nI b), .int (nI d)]) (st := [.int (nI (sx_far a c))]) hG (c_X8_far l X (mw X bd (va_up sc 2 (nI 0)) av) b d (by omega) (by omega)) gX8_stroke_X8_far rfl (by decide +kernel) rfl dX8_stroke_61 ⟨rfl, rfl⟩ ⟨Nat.le_of_ble_eq_true rfl, Nat.le_of_ble_eq_true rfl⟩ (Nat.le_of_ble_eq_true rfl) ⟨Nat.le_of_ble_eq_true rfl, Nat.le_of_ble_eq_true rfl⟩ (fun r w1 hp => ?_)
              obtain ⟨hr9, hw9⟩ := hp
              have hr9 : r = (nI (sx_far b d)) := hr9
              subst hr9
              refine sx_weq hw9 ?_
              refine sx_icmp_eq (pc := 64) (tgt := 69) (B := (sx_far a c) = (sx_far b d)) hG dX8_stroke_64 (by decide) (nI_eq (by omega) (by omega)) (fun c64 => ?_) (fun c64 => ?_)
              · skip
                refine join_s
              · skip
                exact absurd c64 (by omega)
        · skip
          refine sx_iload_n (pc := 36) hG dX8_stroke_36 rfl 2 rfl ?_
          refine sx_iload (pc := 37) hG dX8_stroke_37 4 rfl ?_
          refine sx_icmp_eq (pc := 39) (tgt := 67) (B := b = d) hG dX8_stroke_39 (by decide) (nI_eq (by omega) (by omega)) (fun c39 => ?_) (fun c39 => ?_)
          · skip
            exact absurd ⟨c33, c39⟩ hs2.1
          · skip
            refine sx_iload_n (pc := 42) hG dX8_stroke_42 rfl 1 rfl ?_
            refine sx_iload_n (pc := 43) hG dX8_stroke_43 rfl 3 rfl ?_
            refine sx_icmp_eq (pc := 44) (tgt := 69) (B := a = c) hG dX8_stroke_44 (by decide) (nI_eq (by omega) (by omega)) (fun c44 => ?_) (fun c44 => ?_)
            · skip
              refine join_s
            · skip
              refine sx_iload_n (pc := 47) hG dX8_stroke_47 rfl 2 rfl ?_
              refine sx_iload (pc := 48) hG dX8_stroke_48 4 rfl ?_
              refine sx_icmp_eq (pc := 50) (tgt := 69) (B := b = d) hG dX8_stroke_50 (by decide) (nI_eq (by omega) (by omega)) (fun c50 => ?_) (fun c50 => ?_)
              · skip
                refine join_s
              · skip
                refine sx_iload_n (pc := 53) hG dX8_stroke_53 rfl 1 rfl ?_
                refine sx_iload_n (pc := 54) hG dX8_stroke_54 rfl 3 rfl ?_
                refine sx_callSiw (pc := 55) (n9 := 2) (As := [.int (nI a), .int (nI c)]) (st := []) hG (c_X8_far l X (mw X bd (va_up sc 2 (nI 0)) av) a c (by omega) (by omega)) gX8_stroke_X8_far rfl (by decide +kernel) rfl dX8_stroke_55 ⟨rfl, rfl⟩ ⟨Nat.le_of_ble_eq_true rfl, Nat.le_of_ble_eq_true rfl⟩ (Nat.le_of_ble_eq_true rfl) ⟨Nat.le_of_ble_eq_true rfl, Nat.le_of_ble_eq_true rfl⟩ (fun r w1 hp => ?_)
                obtain ⟨hr9, hw9⟩ := hp
                have hr9 : r = (nI (sx_far a c)) := hr9
                subst hr9
                refine sx_weq hw9 ?_
                refine sx_iload_n (pc := 58) hG dX8_stroke_58 rfl 2 rfl ?_
                refine sx_iload (pc := 59) hG dX8_stroke_59 4 rfl ?_
                refine sx_callSiw (pc := 61) (n9 := 2) (As := [.int (nI b), .int (nI d)]) (st := [.int (nI (sx_far a c))]) hG (c_X8_far l X (mw X bd (va_up sc 2 (nI 0)) av) b d (by omega) (by omega)) gX8_stroke_X8_far rfl (by decide +kernel) rfl dX8_stroke_61 ⟨rfl, rfl⟩ ⟨Nat.le_of_ble_eq_true rfl, Nat.le_of_ble_eq_true rfl⟩ (Nat.le_of_ble_eq_true rfl) ⟨Nat.le_of_ble_eq_true rfl, Nat.le_of_ble_eq_true rfl⟩ (fun r w1 hp => ?_)
                obtain ⟨hr9, hw9⟩ := hp
                have hr9 : r = (nI (sx_far b d)) := hr9
                subst hr9
                refine sx_weq hw9 ?_
                refine sx_icmp_eq (pc := 64) (tgt := 69) (B := (sx_far a c) = (sx_far b d)) hG dX8_stroke_64 (by decide) (nI_eq (by omega) (by omega)) (fun c64 => ?_) (fun c64 => ?_)
                · skip
                  refine join_s
                · skip
                  exact absurd c64 (by omega)

set_option maxHeartbeats 4000000 in
set_option maxRecDepth 100000 in
theorem c_X8_stroke_no (l : Launch) (X : sx_X) (bd : Nat → Nat) (sc : Nat → Int32) (av : Nat → Nat → Nat) (a b c d : Int32) (n : Nat) (hn : n ≤ 9) (h0 : sc 0 = nI n) (hno : sx_no n a b c d) : sx_Mi l yX8_stroke wsX8_stroke { frames := 1, cells := 0, slots := 0, locals := 21 } X [.ref (bd 0), .int a, .int b, .int c, .int d] (mw X bd sc av) (fun r w => r = -1 ∧ w = mw X bd (va_up sc 2 (nI 0)) av) 0 0 := by
  refine sx_entI (own := RX8) (nL := 5) (by decide +kernel) rfl rfl (Nat.le_of_ble_eq_true rfl) ?_
  intro G hG hN hret
  show sx_W l X G 0 0 0 [(0, .ref (bd 0)), (1, .int a), (2, .int b), (3, .int c), (4, .int d)] [] (mw X bd sc av)
  have hl1 := sx_ptN_le a b
  have hl2 := sx_ptN_le c d
  refine sx_aload_n (pc := 0) hG dX8_stroke_0 rfl 0 rfl ?_
  refine sx_iconst (pc := 1) (v := nI 0) hG dX8_stroke_1 (by decide +kernel) ?_
  refine sx_put (pc := 2) (v := .int (nI 0)) (ci := 8) (w2 := (mw X bd (va_up sc 2 (nI 0)) av)) hG i_X8_stroke_8 tyX8 tyX8_ok nmX8 9 m_X8_stroke_f68 dX8_stroke_2 rfl (by decide) 0 rfl rfl rfl rfl (Nat.le_of_ble_eq_true rfl) rfl ?_
  refine sx_aload_n (pc := 5) hG dX8_stroke_5 rfl 0 rfl ?_
  refine sx_get (pc := 6) (v2 := .int (nI n)) (ci := 8) hG i_X8_stroke_8 0 m_X8_stroke_f71 dX8_stroke_6 rfl (by decide) 0 rfl rfl (congrArg Value.int h0) ?_
  refine sx_bipush (pc := 9) (v := nI 9) hG dX8_stroke_9 (by decide +kernel) ?_
  refine sx_icmp_eq (pc := 11) (tgt := 67) (B := n = 9) hG dX8_stroke_11 (by decide) (nI_eq (by omega) (by omega)) (fun c11 => ?_) (fun c11 => ?_)
  · skip
    refine sx_iconst (pc := 67) (v := (-1)) hG dX8_stroke_67 (by decide +kernel) ?_
    exact hret _ _ _ _ dX8_stroke_68 rfl ⟨rfl, rfl⟩
  · skip
    refine sx_iload_n (pc := 14) hG dX8_stroke_14 rfl 1 rfl ?_
    refine sx_iload_n (pc := 15) hG dX8_stroke_15 rfl 2 rfl ?_
    refine sx_callSiw (pc := 16) (n9 := 2) (As := [.int a, .int b]) (st := []) hG (c_X8_isPoint l X (mw X bd (va_up sc 2 (nI 0)) av) a b) gX8_stroke_X8_isPoint rfl (by decide +kernel) rfl dX8_stroke_16 ⟨rfl, rfl⟩ ⟨Nat.le_of_ble_eq_true rfl, Nat.le_of_ble_eq_true rfl⟩ (Nat.le_of_ble_eq_true rfl) ⟨Nat.le_of_ble_eq_true rfl, Nat.le_of_ble_eq_true rfl⟩ (fun r w1 hp => ?_)
    obtain ⟨hr9, hw9⟩ := hp
    have hr9 : r = (nI (sx_ptN a b)) := hr9
    subst hr9
    refine sx_weq hw9 ?_
    refine sx_if_eq (pc := 19) (tgt := 67) (B := (sx_ptN a b) = 0) hG dX8_stroke_19 (by decide) (sx_eq0 (by omega)) (fun c19 => ?_) (fun c19 => ?_)
    · skip
      refine sx_iconst (pc := 67) (v := (-1)) hG dX8_stroke_67 (by decide +kernel) ?_
      exact hret _ _ _ _ dX8_stroke_68 rfl ⟨rfl, rfl⟩
    · skip
      refine sx_iload_n (pc := 22) hG dX8_stroke_22 rfl 3 rfl ?_
      refine sx_iload (pc := 23) hG dX8_stroke_23 4 rfl ?_
      refine sx_callSiw (pc := 25) (n9 := 2) (As := [.int c, .int d]) (st := []) hG (c_X8_isPoint l X (mw X bd (va_up sc 2 (nI 0)) av) c d) gX8_stroke_X8_isPoint rfl (by decide +kernel) rfl dX8_stroke_25 ⟨rfl, rfl⟩ ⟨Nat.le_of_ble_eq_true rfl, Nat.le_of_ble_eq_true rfl⟩ (Nat.le_of_ble_eq_true rfl) ⟨Nat.le_of_ble_eq_true rfl, Nat.le_of_ble_eq_true rfl⟩ (fun r w1 hp => ?_)
      obtain ⟨hr9, hw9⟩ := hp
      have hr9 : r = (nI (sx_ptN c d)) := hr9
      subst hr9
      refine sx_weq hw9 ?_
      refine sx_if_eq (pc := 28) (tgt := 67) (B := (sx_ptN c d) = 0) hG dX8_stroke_28 (by decide) (sx_eq0 (by omega)) (fun c28 => ?_) (fun c28 => ?_)
      · skip
        refine sx_iconst (pc := 67) (v := (-1)) hG dX8_stroke_67 (by decide +kernel) ?_
        exact hret _ _ _ _ dX8_stroke_68 rfl ⟨rfl, rfl⟩
      · skip
        obtain ⟨⟨p, rfl, hp⟩, ⟨q, rfl, hq⟩⟩ := sx_ptN_ne c19
        obtain ⟨⟨u, rfl, hu⟩, ⟨v, rfl, hv⟩⟩ := sx_ptN_ne c28
        refine sx_iload_n (pc := 31) hG dX8_stroke_31 rfl 1 rfl ?_
        refine sx_iload_n (pc := 32) hG dX8_stroke_32 rfl 3 rfl ?_
        refine sx_icmp_ne (pc := 33) (tgt := 42) (B := p = u) hG dX8_stroke_33 (by decide) (nI_eq (by omega) (by omega)) (fun c33 => ?_) (fun c33 => ?_)
        · skip
          refine sx_iload_n (pc := 42) hG dX8_stroke_42 rfl 1 rfl ?_
          refine sx_iload_n (pc := 43) hG dX8_stroke_43 rfl 3 rfl ?_
          refine sx_icmp_eq (pc := 44) (tgt := 69) (B := p = u) hG dX8_stroke_44 (by decide) (nI_eq (by omega) (by omega)) (fun c44 => ?_) (fun c44 => ?_)
          · skip
            exact absurd (by unfold sx_str; omega) (hno p q u v rfl rfl rfl rfl hp hq hu hv (by omega))
          · skip
            refine sx_iload_n (pc := 47) hG dX8_stroke_47 rfl 2 rfl ?_
            refine sx_iload (pc := 48) hG dX8_stroke_48 4 rfl ?_
            refine sx_icmp_eq (pc := 50) (tgt := 69) (B := q = v) hG dX8_stroke_50 (by decide) (nI_eq (by omega) (by omega)) (fun c50 => ?_) (fun c50 => ?_)
            · skip
              exact absurd (by unfold sx_str; omega) (hno p q u v rfl rfl rfl rfl hp hq hu hv (by omega))
            · skip
              have hf1 := sx_far_le p u 10 (by omega) (by omega)
              have hf2 := sx_far_le q v 10 (by omega) (by omega)
              refine sx_iload_n (pc := 53) hG dX8_stroke_53 rfl 1 rfl ?_
              refine sx_iload_n (pc := 54) hG dX8_stroke_54 rfl 3 rfl ?_
              refine sx_callSiw (pc := 55) (n9 := 2) (As := [.int (nI p), .int (nI u)]) (st := []) hG (c_X8_far l X (mw X bd (va_up sc 2 (nI 0)) av) p u (by omega) (by omega)) gX8_stroke_X8_far rfl (by decide +kernel) rfl dX8_stroke_55 ⟨rfl, rfl⟩ ⟨Nat.le_of_ble_eq_true rfl, Nat.le_of_ble_eq_true rfl⟩ (Nat.le_of_ble_eq_true rfl) ⟨Nat.le_of_ble_eq_true rfl, Nat.le_of_ble_eq_true rfl⟩ (fun r w1 hp => ?_)
              obtain ⟨hr9, hw9⟩ := hp
              have hr9 : r = (nI (sx_far p u)) := hr9
              subst hr9
              refine sx_weq hw9 ?_
              refine sx_iload_n (pc := 58) hG dX8_stroke_58 rfl 2 rfl ?_
              refine sx_iload (pc := 59) hG dX8_stroke_59 4 rfl ?_
              refine sx_callSiw (pc := 61) (n9 := 2) (As := [.int (nI q), .int (nI v)]) (st := [.int (nI (sx_far p u))]) hG (c_X8_far l X (mw X bd (va_up sc 2 (nI 0)) av) q v (by omega) (by omega)) gX8_stroke_X8_far rfl (by decide +kernel) rfl dX8_stroke_61 ⟨rfl, rfl⟩ ⟨Nat.le_of_ble_eq_true rfl, Nat.le_of_ble_eq_true rfl⟩ (Nat.le_of_ble_eq_true rfl) ⟨Nat.le_of_ble_eq_true rfl, Nat.le_of_ble_eq_true rfl⟩ (fun r w1 hp => ?_)
              obtain ⟨hr9, hw9⟩ := hp
              have hr9 : r = (nI (sx_far q v)) := hr9
              subst hr9
              refine sx_weq hw9 ?_
              refine sx_icmp_eq (pc := 64) (tgt := 69) (B := (sx_far p u) = (sx_far q v)) hG dX8_stroke_64 (by decide) (nI_eq (by omega) (by omega)) (fun c64 => ?_) (fun c64 => ?_)
              · skip
                exact absurd (by unfold sx_str; omega) (hno p q u v rfl rfl rfl rfl hp hq hu hv (by omega))
              · skip
                refine sx_iconst (pc := 67) (v := (-1)) hG dX8_stroke_67 (by decide +kernel) ?_
                exact hret _ _ _ _ dX8_stroke_68 rfl ⟨rfl, rfl⟩
        · skip
          refine sx_iload_n (pc := 36) hG dX8_stroke_36 rfl 2 rfl ?_
          refine sx_iload (pc := 37) hG dX8_stroke_37 4 rfl ?_
          refine sx_icmp_eq (pc := 39) (tgt := 67) (B := q = v) hG dX8_stroke_39 (by decide) (nI_eq (by omega) (by omega)) (fun c39 => ?_) (fun c39 => ?_)
          · skip
            refine sx_iconst (pc := 67) (v := (-1)) hG dX8_stroke_67 (by decide +kernel) ?_
            exact hret _ _ _ _ dX8_stroke_68 rfl ⟨rfl, rfl⟩
          · skip
            refine sx_iload_n (pc := 42) hG dX8_stroke_42 rfl 1 rfl ?_
            refine sx_iload_n (pc := 43) hG dX8_stroke_43 rfl 3 rfl ?_
            refine sx_icmp_eq (pc := 44) (tgt := 69) (B := p = u) hG dX8_stroke_44 (by decide) (nI_eq (by omega) (by omega)) (fun c44 => ?_) (fun c44 => ?_)
            · skip
              exact absurd (by unfold sx_str; omega) (hno p q u v rfl rfl rfl rfl hp hq hu hv (by omega))
            · skip
              refine sx_iload_n (pc := 47) hG dX8_stroke_47 rfl 2 rfl ?_
              refine sx_iload (pc := 48) hG dX8_stroke_48 4 rfl ?_
              refine sx_icmp_eq (pc := 50) (tgt := 69) (B := q = v) hG dX8_stroke_50 (by decide) (nI_eq (by omega) (by omega)) (fun c50 => ?_) (fun c50 => ?_)
              · skip
                exact absurd (by unfold sx_str; omega) (hno p q u v rfl rfl rfl rfl hp hq hu hv (by omega))
              · skip
                have hf1 := sx_far_le p u 10 (by omega) (by omega)
                have hf2 := sx_far_le q v 10 (by omega) (by omega)
                refine sx_iload_n (pc := 53) hG dX8_stroke_53 rfl 1 rfl ?_
                refine sx_iload_n (pc := 54) hG dX8_stroke_54 rfl 3 rfl ?_
                refine sx_callSiw (pc := 55) (n9 := 2) (As := [.int (nI p), .int (nI u)]) (st := []) hG (c_X8_far l X (mw X bd (va_up sc 2 (nI 0)) av) p u (by omega) (by omega)) gX8_stroke_X8_far rfl (by decide +kernel) rfl dX8_stroke_55 ⟨rfl, rfl⟩ ⟨Nat.le_of_ble_eq_true rfl, Nat.le_of_ble_eq_true rfl⟩ (Nat.le_of_ble_eq_true rfl) ⟨Nat.le_of_ble_eq_true rfl, Nat.le_of_ble_eq_true rfl⟩ (fun r w1 hp => ?_)
                obtain ⟨hr9, hw9⟩ := hp
                have hr9 : r = (nI (sx_far p u)) := hr9
                subst hr9
                refine sx_weq hw9 ?_
                refine sx_iload_n (pc := 58) hG dX8_stroke_58 rfl 2 rfl ?_
                refine sx_iload (pc := 59) hG dX8_stroke_59 4 rfl ?_
                refine sx_callSiw (pc := 61) (n9 := 2) (As := [.int (nI q), .int (nI v)]) (st := [.int (nI (sx_far p u))]) hG (c_X8_far l X (mw X bd (va_up sc 2 (nI 0)) av) q v (by omega) (by omega)) gX8_stroke_X8_far rfl (by decide +kernel) rfl dX8_stroke_61 ⟨rfl, rfl⟩ ⟨Nat.le_of_ble_eq_true rfl, Nat.le_of_ble_eq_true rfl⟩ (Nat.le_of_ble_eq_true rfl) ⟨Nat.le_of_ble_eq_true rfl, Nat.le_of_ble_eq_true rfl⟩ (fun r w1 hp => ?_)
                obtain ⟨hr9, hw9⟩ := hp
                have hr9 : r = (nI (sx_far q v)) := hr9
                subst hr9
                refine sx_weq hw9 ?_
                refine sx_icmp_eq (pc := 64) (tgt := 69) (B := (sx_far p u) = (sx_far q v)) hG dX8_stroke_64 (by decide) (nI_eq (by omega) (by omega)) (fun c64 => ?_) (fun c64 => ?_)
                · skip
                  exact absurd (by unfold sx_str; omega) (hno p q u v rfl rfl rfl rfl hp hq hu hv (by omega))
                · skip
                  refine sx_iconst (pc := 67) (v := (-1)) hG dX8_stroke_67 (by decide +kernel) ?_
                  exact hret _ _ _ _ dX8_stroke_68 rfl ⟨rfl, rfl⟩

theorem i_X8_work_8 : ∀ w ∈ u_ws RX8 TX8 24, w ∈ wsX8_work := by decide +kernel
theorem m_X8_work_f71 : Cond.fieldLink RX8 71 (TX8 0).1 (TX8 0).2.1 (TX8 0).2.2.1 ∈ wsX8_work := by decide +kernel
theorem m_X8_work_f35 : Cond.fieldLink RX8 35 (TX8 10).1 (TX8 10).2.1 (TX8 10).2.2.1 ∈ wsX8_work := by decide +kernel
theorem m_X8_work_f38 : Cond.fieldLink RX8 38 (TX8 11).1 (TX8 11).2.1 (TX8 11).2.2.1 ∈ wsX8_work := by decide +kernel
theorem m_X8_work_c111 : Cond.constant RX8 111 (2000000000) ∈ wsX8_work := by decide +kernel
set_option maxHeartbeats 4000000 in
set_option maxRecDepth 100000 in
theorem c_X8_work (l : Launch) (X : sx_X) (bd : Nat → Nat) (sc : Nat → Int32) (av : Nat → Nat → Nat) (n : Nat) (hn : n ≤ 9) (h0 : sc 0 = nI n) (hg : mG av) (hL0 : ∀ j, av 8 j ≤ 2000000000) (hB0 : ∀ j, av 9 j ≤ 2000000000) : sx_Mv l yX8_work wsX8_work { frames := 3, cells := 0, slots := 0, locals := 70 } X [.ref (bd 0)] (mw X bd sc av) (fun w => ∃ L B : Nat → Nat, w = mw X bd sc (va_up (va_up av 8 L) 9 B) ∧ mT av n L B (2 ^ n) ∧ (∀ j, L j ≤ 2000000000) ∧ ∀ j, B j ≤ 2000000000) 0 0 := by
  refine sx_entV (own := RX8) (nL := 6) (by decide +kernel) rfl rfl (Nat.le_of_ble_eq_true rfl) ?_
  intro G hG hN hini hret
  show sx_W l X G 0 0 0 [(0, .ref (bd 0))] [] (mw X bd sc av)
  have hp := sx_p9 hn
  have loop_S : ∀ (fuel : Nat), ∀ (s : Nat) (L B : Nat → Nat), (s ≤ 2 ^ n) → (mT av n L B s) → (∀ j, L j ≤ 2000000000) → (∀ j, B j ≤ 2000000000) → 2 ^ n - s < fuel → sx_W l X G 0 0 2 [(0, .ref (bd 0)), (1, .int (nI s))] [] (mw X bd sc (va_up (va_up av 8 L) 9 B)) := by
    intro fuel
    induction fuel with
    | zero => intro s L B hs hT hLb hBb hm; exact absurd hm (Nat.not_lt_zero _)
    | succ fuel ih_S =>
      intro s L B hs hT hLb hBb hm_S
      have loop_A : ∀ (fuel : Nat), ∀ (a : Nat) (L1 : Nat → Nat), (s < 2 ^ n) → (a ≤ 2 * n) → (mT av n L1 B s) → (∀ q, q < a → L1 (18 * s + q) = mLv av L1 s q (2 * n)) → (∀ j, L1 j ≤ 2000000000) → 2 * n - a < fuel → sx_W l X G 0 0 14 [(0, .ref (bd 0)), (1, .int (nI s)), (2, .int (nI a))] [] (mw X bd sc (va_up (va_up av 8 L1) 9 B)) := by
        intro fuel
        induction fuel with
        | zero => intro a L1 hs2 ha hT1 hA1 hLb1 hm; exact absurd hm (Nat.not_lt_zero _)
        | succ fuel ih_A =>
          intro a L1 hs2 ha hT1 hA1 hLb1 hm_A
          have loop_b : ∀ (fuel : Nat), ∀ (b best : Nat), (a < 2 * n) → (b ≤ 2 * n) → (best = mLv av L1 s a b) → 2 * n - b < fuel → sx_W l X G 0 0 38 [(0, .ref (bd 0)), (1, .int (nI s)), (2, .int (nI a)), (3, .int (nI best)), (4, .int (nI b))] [] (mw X bd sc (va_up (va_up av 8 L1) 9 B)) := by
            intro fuel
            induction fuel with
            | zero => intro b best ha2 hb hbest hm; exact absurd hm (Nat.not_lt_zero _)
            | succ fuel ih_b =>
              intro b best ha2 hb hbest hm_b
              have hbl : best ≤ 2000000000 := by subst hbest; exact Nat.le_trans (sx_mn_le _ _ _ _) (mI_le s)
              have hd9 := sx_diff_le s (2 ^ (b / 2))
              have hb1 := sx_bit_le s (b / 2)
              have hgo := mGo_le hg a b
              have hL9 := hLb1 (18 * sx_diff s (2 ^ (b / 2)) + b)
              have hdv := sx_div_lt (b / 2) (show s < 512 by omega)
              refine sx_iload (pc := 38) hG dX8_work_38 4 rfl ?_
              refine sx_iconst (pc := 40) (v := nI 2) hG dX8_work_40 (by decide +kernel) ?_
              refine sx_aload_n (pc := 41) hG dX8_work_41 rfl 0 rfl ?_
              refine sx_get (pc := 42) (v2 := .int (nI n)) (ci := 8) hG i_X8_work_8 0 m_X8_work_f71 dX8_work_42 rfl (by decide) 0 rfl rfl (congrArg Value.int h0) ?_
              refine sx_imul (pc := 45) (v := (nI (2 * n))) hG dX8_work_45 (pk_mul 2 n) ?_
              refine sx_icmp_ge (pc := 46) (tgt := 113) (B := (2 * n) ≤ b) hG dX8_work_46 (by decide) (nI_leI (by omega) (by omega)) (fun c46 => ?_) (fun c46 => ?_)
              · skip
                refine sx_aload_n (pc := 113) hG dX8_work_113 rfl 0 rfl ?_
                refine sx_get (pc := 114) (v2 := .ref (bd 8)) (ci := 8) hG i_X8_work_8 10 m_X8_work_f35 dX8_work_114 rfl (by decide) 0 rfl rfl rfl ?_
                refine sx_bipush (pc := 117) (v := nI 18) hG dX8_work_117 (by decide +kernel) ?_
                refine sx_iload_n (pc := 119) hG dX8_work_119 rfl 1 rfl ?_
                refine sx_imul (pc := 120) (v := (nI (18 * s))) hG dX8_work_120 (pk_mul 18 s) ?_
                refine sx_iload_n (pc := 121) hG dX8_work_121 rfl 2 rfl ?_
                refine sx_iadd (pc := 122) (v := (nI (18 * s + a))) hG dX8_work_122 (nI_add (18 * s) a) ?_
                refine sx_iload_n (pc := 123) hG dX8_work_123 rfl 3 rfl ?_
                refine sx_iastN (pc := 124) (w2 := (mw X bd sc (va_up (va_up av 8 (va_up L1 (18 * s + a) best)) 9 B))) hG 8 dX8_work_124 rfl (by decide) (by omega) rfl ?_
                refine sx_iinc (pc := 125) (v := nI (a + 1)) (lv2 := [(0, .ref (bd 0)), (1, .int (nI s)), (2, .int (nI (a + 1))), (3, .int (nI best)), (4, .int (nI b))]) hG [1, 2, 0, 3, 4] dX8_work_125 2 rfl (sx_inc a) hN (by decide) rfl ?_
                refine sx_goto (pc := 128) (tgt := 14) hG dX8_work_128 (by decide) ?_
                refine sx_lsub [0, 1, 2] rfl ?_
                refine ih_A (a + 1) (va_up L1 (18 * s + a) best) hs2 (by omega) (mT_up hn (by omega) (by omega) hT1) (mA_up hn (by omega) hA1 (by subst hbest; rw [show 2 * n = b by omega])) (fun j => by unfold va_up; split; subst hbest; exact Nat.le_trans (sx_mn_le _ _ _ _) (mI_le s); exact hLb1 j) (by omega)
              · skip
                refine sx_iload_n (pc := 49) hG dX8_work_49 rfl 1 rfl ?_
                refine sx_iload (pc := 50) hG dX8_work_50 4 rfl ?_
                refine sx_iconst (pc := 52) (v := nI 2) hG dX8_work_52 (by decide +kernel) ?_
                refine sx_idiv (pc := 53) (v := (nI (b / 2))) hG dX8_work_53 (nI_ne0 (by decide) (by decide)) (pk_div (by omega) (by decide) (by decide)) ?_
                refine sx_ishr (pc := 54) (v := (nI (s / 2 ^ (b / 2)))) hG dX8_work_54 (sx_shr (by omega) (by omega)) ?_
                refine sx_iconst (pc := 55) (v := nI 1) hG dX8_work_55 (by decide +kernel) ?_
                refine sx_iand (pc := 56) (v := (nI (sx_bit s (b / 2)))) hG dX8_work_56 (sx_bit1 (by omega)) ?_
                refine sx_if_ne (pc := 57) (tgt := 63) (B := (sx_bit s (b / 2)) = 0) hG dX8_work_57 (by decide) (sx_eq0 (by omega)) (fun c57 => ?_) (fun c57 => ?_)
                · skip
                  refine sx_aload_n (pc := 63) hG dX8_work_63 rfl 0 rfl ?_
                  refine sx_iload_n (pc := 64) hG dX8_work_64 rfl 2 rfl ?_
                  refine sx_iload (pc := 65) hG dX8_work_65 4 rfl ?_
                  refine sx_callViw (pc := 67) (n9 := 2) (As := [.int (nI a), .int (nI b)]) (st := []) (b := (bd 0)) (ci := 8) hG (c_X8_goes l X bd sc (va_up (va_up av 8 L1) 9 B) a b (by omega) (by omega) hg) gX8_work_X8_goes rfl (by decide +kernel) rfl 0 rfl rfl rfl dX8_work_67 ⟨rfl, rfl⟩ ⟨Nat.le_of_ble_eq_true rfl, Nat.le_of_ble_eq_true rfl⟩ (Nat.le_of_ble_eq_true rfl) ⟨Nat.le_of_ble_eq_true rfl, Nat.le_of_ble_eq_true rfl⟩ (fun r w1 hp => ?_)
                  obtain ⟨hr9, hw9⟩ := hp
                  have hr9 : r = (nI (mGo av a b)) := hr9
                  subst hr9
                  refine sx_weq hw9 ?_
                  refine sx_aload_n (pc := 70) hG dX8_work_70 rfl 0 rfl ?_
                  refine sx_get (pc := 71) (v2 := .ref (bd 8)) (ci := 8) hG i_X8_work_8 10 m_X8_work_f35 dX8_work_71 rfl (by decide) 0 rfl rfl rfl ?_
                  refine sx_bipush (pc := 74) (v := nI 18) hG dX8_work_74 (by decide +kernel) ?_
                  refine sx_iload_n (pc := 76) hG dX8_work_76 rfl 1 rfl ?_
                  refine sx_iconst (pc := 77) (v := nI 1) hG dX8_work_77 (by decide +kernel) ?_
                  refine sx_iload (pc := 78) hG dX8_work_78 4 rfl ?_
                  refine sx_iconst (pc := 80) (v := nI 2) hG dX8_work_80 (by decide +kernel) ?_
                  refine sx_idiv (pc := 81) (v := (nI (b / 2))) hG dX8_work_81 (nI_ne0 (by decide) (by decide)) (pk_div (by omega) (by decide) (by decide)) ?_
                  refine sx_ishl (pc := 82) (v := (nI (2 ^ (b / 2)))) hG dX8_work_82 (sx_one (by omega)) ?_
                  refine sx_iconst (pc := 83) (v := (-1)) hG dX8_work_83 (by decide +kernel) ?_
                  refine sx_ixor (pc := 84) (v := (nI (2 ^ (b / 2)) ^^^ (-1))) hG dX8_work_84 rfl ?_
                  refine sx_iand (pc := 85) (v := (nI (sx_diff s (2 ^ (b / 2))))) hG dX8_work_85 (sx_andnot (by omega) (sx_p2 (by omega))) ?_
                  refine sx_imul (pc := 86) (v := (nI (18 * (sx_diff s (2 ^ (b / 2)))))) hG dX8_work_86 (pk_mul 18 (sx_diff s (2 ^ (b / 2)))) ?_
                  refine sx_iload (pc := 87) hG dX8_work_87 4 rfl ?_
                  refine sx_iadd (pc := 89) (v := (nI (18 * (sx_diff s (2 ^ (b / 2))) + b))) hG dX8_work_89 (nI_add (18 * (sx_diff s (2 ^ (b / 2)))) b) ?_
                  refine sx_iald (pc := 90) (v := nI (L1 (18 * (sx_diff s (2 ^ (b / 2))) + b))) hG 8 dX8_work_90 rfl (by decide) (by omega) rfl ?_
                  refine sx_iadd (pc := 91) (v := (nI (mGo av a b + (L1 (18 * (sx_diff s (2 ^ (b / 2))) + b))))) hG dX8_work_91 (nI_add (mGo av a b) (L1 (18 * (sx_diff s (2 ^ (b / 2))) + b))) ?_
                  refine sx_istore (pc := 92) (lv2 := [(0, .ref (bd 0)), (1, .int (nI s)), (2, .int (nI a)), (3, .int (nI best)), (4, .int (nI b)), (5, .int (nI (mGo av a b + (L1 (18 * (sx_diff s (2 ^ (b / 2))) + b)))))]) hG [1, 2, 3, 4, 5, 0] dX8_work_92 hN (by decide) rfl ?_
                  refine sx_iload (pc := 94) hG dX8_work_94 5 rfl ?_
                  refine sx_iload_n (pc := 96) hG dX8_work_96 rfl 3 rfl ?_
                  refine sx_icmp_ge (pc := 97) (tgt := 105) (B := best ≤ (mGo av a b + (L1 (18 * (sx_diff s (2 ^ (b / 2))) + b)))) hG dX8_work_97 (by decide) (nI_leI (by omega) (by omega)) (fun c97 => ?_) (fun c97 => ?_)
                  · skip
                    refine sx_iload_n (pc := 105) hG dX8_work_105 rfl 3 rfl ?_
                    refine sx_istore_n (pc := 106) (lv2 := [(0, .ref (bd 0)), (1, .int (nI s)), (2, .int (nI a)), (3, .int (nI best)), (4, .int (nI b)), (5, .int (nI (mGo av a b + (L1 (18 * (sx_diff s (2 ^ (b / 2))) + b)))))]) hG [1, 2, 3, 0, 4, 5] dX8_work_106 rfl hN (by decide) rfl ?_
                    refine sx_iinc (pc := 107) (v := nI (b + 1)) (lv2 := [(0, .ref (bd 0)), (1, .int (nI s)), (2, .int (nI a)), (3, .int (nI best)), (4, .int (nI (b + 1))), (5, .int (nI (mGo av a b + (L1 (18 * (sx_diff s (2 ^ (b / 2))) + b)))))]) hG [1, 2, 3, 4, 0, 5] dX8_work_107 4 rfl (sx_inc b) hN (by decide) rfl ?_
                    refine sx_goto (pc := 110) (tgt := 38) hG dX8_work_110 (by decide) ?_
                    refine sx_lsub [0, 1, 2, 3, 4] rfl ?_
                    refine ih_b (b + 1) _ (by omega) (by omega) (by rw [mLv_step]; first | (rw [if_pos c57]; exact hbest) | (rw [if_neg c57, ← hbest, if_neg (by omega)]) | (rw [if_neg c57, ← hbest, if_pos (by omega)])) (by omega)
                  · skip
                    refine sx_iload (pc := 100) hG dX8_work_100 5 rfl ?_
                    refine sx_goto (pc := 102) (tgt := 106) hG dX8_work_102 (by decide) ?_
                    refine sx_istore_n (pc := 106) (lv2 := [(0, .ref (bd 0)), (1, .int (nI s)), (2, .int (nI a)), (3, .int (nI (mGo av a b + (L1 (18 * (sx_diff s (2 ^ (b / 2))) + b))))), (4, .int (nI b)), (5, .int (nI (mGo av a b + (L1 (18 * (sx_diff s (2 ^ (b / 2))) + b)))))]) hG [1, 2, 3, 0, 4, 5] dX8_work_106 rfl hN (by decide) rfl ?_
                    refine sx_iinc (pc := 107) (v := nI (b + 1)) (lv2 := [(0, .ref (bd 0)), (1, .int (nI s)), (2, .int (nI a)), (3, .int (nI (mGo av a b + (L1 (18 * (sx_diff s (2 ^ (b / 2))) + b))))), (4, .int (nI (b + 1))), (5, .int (nI (mGo av a b + (L1 (18 * (sx_diff s (2 ^ (b / 2))) + b)))))]) hG [1, 2, 3, 4, 0, 5] dX8_work_107 4 rfl (sx_inc b) hN (by decide) rfl ?_
                    refine sx_goto (pc := 110) (tgt := 38) hG dX8_work_110 (by decide) ?_
                    refine sx_lsub [0, 1, 2, 3, 4] rfl ?_
                    refine ih_b (b + 1) _ (by omega) (by omega) (by rw [mLv_step]; first | (rw [if_pos c57]; exact hbest) | (rw [if_neg c57, ← hbest, if_neg (by omega)]) | (rw [if_neg c57, ← hbest, if_pos (by omega)])) (by omega)
                · skip
                  refine sx_goto (pc := 60) (tgt := 107) hG dX8_work_60 (by decide) ?_
                  refine sx_iinc (pc := 107) (v := nI (b + 1)) (lv2 := [(0, .ref (bd 0)), (1, .int (nI s)), (2, .int (nI a)), (3, .int (nI best)), (4, .int (nI (b + 1)))]) hG [1, 2, 3, 4, 0] dX8_work_107 4 rfl (sx_inc b) hN (by decide) rfl ?_
                  refine sx_goto (pc := 110) (tgt := 38) hG dX8_work_110 (by decide) ?_
                  refine ih_b (b + 1) _ (by omega) (by omega) (by rw [mLv_step]; first | (rw [if_pos c57]; exact hbest) | (rw [if_neg c57, ← hbest, if_neg (by omega)]) | (rw [if_neg c57, ← hbest, if_pos (by omega)])) (by omega)
          have loop_r : ∀ (fuel : Nat), ∀ (a2 : Nat) (B1 : Nat → Nat), (a = 2 * n) → (a2 ≤ 2 * n) → (B1 s = mBv av L1 s a2) → (∀ j, ¬ j = s → B1 j = B j) → (∀ j, B1 j ≤ 2000000000) → 2 * n - a2 < fuel → sx_W l X G 0 0 149 [(0, .ref (bd 0)), (1, .int (nI s)), (2, .int (nI a2))] [] (mw X bd sc (va_up (va_up av 8 L1) 9 B1)) := by
            intro fuel
            induction fuel with
            | zero => intro a2 B1 he ha2 hBs hBo hBb1 hm; exact absurd hm (Nat.not_lt_zero _)
            | succ fuel ih_r =>
              intro a2 B1 he ha2 hBs hBo hBb1 hm_r
              have hB9 := hBb1 s
              have hb1 := sx_bit_le s (a2 / 2)
              have hdv := sx_div_lt (a2 / 2) (show s < 512 by omega)
              have hfl : mFrom av L1 s a2 ≤ 2000000126 := by have h6 := hg.2.2.2.2.2.1 (a2 / 2); have h8 := hLb1 (18 * sx_diff s (2 ^ (a2 / 2)) + a2); unfold mFrom; omega
              have hfin : ∀ B2 : Nat → Nat, B2 s = mBv av L1 s a2 → (∀ j, ¬ j = s → B2 j = B j) → 2 * n ≤ a2 → mT av n L1 B2 (s + 1) := fun B2 h1 h2 h3 => mT_next hT1 (by subst he; exact hA1) (by rw [h1, show 2 * n = a2 by omega]) h2
              refine sx_iload_n (pc := 149) hG dX8_work_149 rfl 2 rfl ?_
              refine sx_iconst (pc := 150) (v := nI 2) hG dX8_work_150 (by decide +kernel) ?_
              refine sx_aload_n (pc := 151) hG dX8_work_151 rfl 0 rfl ?_
              refine sx_get (pc := 152) (v2 := .int (nI n)) (ci := 8) hG i_X8_work_8 0 m_X8_work_f71 dX8_work_152 rfl (by decide) 0 rfl rfl (congrArg Value.int h0) ?_
              refine sx_imul (pc := 155) (v := (nI (2 * n))) hG dX8_work_155 (pk_mul 2 n) ?_
              refine sx_icmp_ge (pc := 156) (tgt := 203) (B := (2 * n) ≤ a2) hG dX8_work_156 (by decide) (nI_leI (by omega) (by omega)) (fun c156 => ?_) (fun c156 => ?_)
              · skip
                refine sx_iinc (pc := 203) (v := nI (s + 1)) (lv2 := [(0, .ref (bd 0)), (1, .int (nI (s + 1))), (2, .int (nI a2))]) hG [1, 0, 2] dX8_work_203 1 rfl (sx_inc s) hN (by decide) rfl ?_
                refine sx_goto (pc := 206) (tgt := 2) hG dX8_work_206 (by decide) ?_
                refine sx_lsub [0, 1] rfl ?_
                refine ih_S (s + 1) L1 B1 (by omega) (hfin B1 hBs hBo (by omega)) hLb1 hBb1 (by omega)
              · skip
                refine sx_iload_n (pc := 159) hG dX8_work_159 rfl 1 rfl ?_
                refine sx_iload_n (pc := 160) hG dX8_work_160 rfl 2 rfl ?_
                refine sx_iconst (pc := 161) (v := nI 2) hG dX8_work_161 (by decide +kernel) ?_
                refine sx_idiv (pc := 162) (v := (nI (a2 / 2))) hG dX8_work_162 (nI_ne0 (by decide) (by decide)) (pk_div (by omega) (by decide) (by decide)) ?_
                refine sx_ishr (pc := 163) (v := (nI (s / 2 ^ (a2 / 2)))) hG dX8_work_163 (sx_shr (by omega) (by omega)) ?_
                refine sx_iconst (pc := 164) (v := nI 1) hG dX8_work_164 (by decide +kernel) ?_
                refine sx_iand (pc := 165) (v := (nI (sx_bit s (a2 / 2)))) hG dX8_work_165 (sx_bit1 (by omega)) ?_
                refine sx_iconst (pc := 166) (v := nI 1) hG dX8_work_166 (by decide +kernel) ?_
                refine sx_icmp_ne (pc := 167) (tgt := 197) (B := (sx_bit s (a2 / 2)) = 1) hG dX8_work_167 (by decide) (nI_eq (by omega) (by omega)) (fun c167 => ?_) (fun c167 => ?_)
                · skip
                  refine sx_iinc (pc := 197) (v := nI (a2 + 1)) (lv2 := [(0, .ref (bd 0)), (1, .int (nI s)), (2, .int (nI (a2 + 1)))]) hG [1, 2, 0] dX8_work_197 2 rfl (sx_inc a2) hN (by decide) rfl ?_
                  refine sx_goto (pc := 200) (tgt := 149) hG dX8_work_200 (by decide) ?_
                  refine ih_r (a2 + 1) _ he (by omega) (by first | (rw [mBv_step]; first | rw [if_pos (by omega), hBs] | (rw [if_neg (by omega), if_neg (by omega), hBs]) | (rw [if_neg (by omega), if_pos (by omega)]; unfold va_up; rw [if_pos rfl])) | skip) (fun j hj => by first | exact hBo j hj | (unfold va_up; rw [if_neg hj]; exact hBo j hj)) (fun j => by first | exact hBb1 j | (unfold va_up; split; omega; exact hBb1 j)) (by omega)
                · skip
                  refine sx_aload_n (pc := 170) hG dX8_work_170 rfl 0 rfl ?_
                  refine sx_iload_n (pc := 171) hG dX8_work_171 rfl 1 rfl ?_
                  refine sx_iload_n (pc := 172) hG dX8_work_172 rfl 2 rfl ?_
                  refine sx_callViw (pc := 173) (n9 := 2) (As := [.int (nI s), .int (nI a2)]) (st := []) (b := (bd 0)) (ci := 8) hG (c_X8_from l X bd sc (va_up (va_up av 8 L1) 9 B1) s a2 (by omega) (by omega) hg hLb1) gX8_work_X8_from rfl (by decide +kernel) rfl 0 rfl rfl rfl dX8_work_173 ⟨rfl, rfl⟩ ⟨Nat.le_of_ble_eq_true rfl, Nat.le_of_ble_eq_true rfl⟩ (Nat.le_of_ble_eq_true rfl) ⟨Nat.le_of_ble_eq_true rfl, Nat.le_of_ble_eq_true rfl⟩ (fun r w1 hp => ?_)
                  obtain ⟨hr9, hw9⟩ := hp
                  have hr9 : r = (nI (mFrom av L1 s a2)) := hr9
                  subst hr9
                  refine sx_weq hw9 ?_
                  refine sx_aload_n (pc := 176) hG dX8_work_176 rfl 0 rfl ?_
                  refine sx_get (pc := 177) (v2 := .ref (bd 9)) (ci := 8) hG i_X8_work_8 11 m_X8_work_f38 dX8_work_177 rfl (by decide) 0 rfl rfl rfl ?_
                  refine sx_iload_n (pc := 180) hG dX8_work_180 rfl 1 rfl ?_
                  refine sx_iald (pc := 181) (v := nI (B1 s)) hG 9 dX8_work_181 rfl (by decide) (by omega) rfl ?_
                  refine sx_icmp_ge (pc := 182) (tgt := 197) (B := (B1 s) ≤ (mFrom av L1 s a2)) hG dX8_work_182 (by decide) (nI_leI (by omega) (by omega)) (fun c182 => ?_) (fun c182 => ?_)
                  · skip
                    refine sx_iinc (pc := 197) (v := nI (a2 + 1)) (lv2 := [(0, .ref (bd 0)), (1, .int (nI s)), (2, .int (nI (a2 + 1)))]) hG [1, 2, 0] dX8_work_197 2 rfl (sx_inc a2) hN (by decide) rfl ?_
                    refine sx_goto (pc := 200) (tgt := 149) hG dX8_work_200 (by decide) ?_
                    refine ih_r (a2 + 1) _ he (by omega) (by first | (rw [mBv_step]; first | rw [if_pos (by omega), hBs] | (rw [if_neg (by omega), if_neg (by omega), hBs]) | (rw [if_neg (by omega), if_pos (by omega)]; unfold va_up; rw [if_pos rfl])) | skip) (fun j hj => by first | exact hBo j hj | (unfold va_up; rw [if_neg hj]; exact hBo j hj)) (fun j => by first | exact hBb1 j | (unfold va_up; split; omega; exact hBb1 j)) (by omega)
                  · skip
                    refine sx_aload_n (pc := 185) hG dX8_work_185 rfl 0 rfl ?_
                    refine sx_get (pc := 186) (v2 := .ref (bd 9)) (ci := 8) hG i_X8_work_8 11 m_X8_work_f38 dX8_work_186 rfl (by decide) 0 rfl rfl rfl ?_
                    refine sx_iload_n (pc := 189) hG dX8_work_189 rfl 1 rfl ?_
                    refine sx_aload_n (pc := 190) hG dX8_work_190 rfl 0 rfl ?_
                    refine sx_iload_n (pc := 191) hG dX8_work_191 rfl 1 rfl ?_
                    refine sx_iload_n (pc := 192) hG dX8_work_192 rfl 2 rfl ?_
                    refine sx_callViw (pc := 193) (n9 := 2) (As := [.int (nI s), .int (nI a2)]) (st := [.int (nI s), .ref (bd 9)]) (b := (bd 0)) (ci := 8) hG (c_X8_from l X bd sc (va_up (va_up av 8 L1) 9 B1) s a2 (by omega) (by omega) hg hLb1) gX8_work_X8_from rfl (by decide +kernel) rfl 0 rfl rfl rfl dX8_work_193 ⟨rfl, rfl⟩ ⟨Nat.le_of_ble_eq_true rfl, Nat.le_of_ble_eq_true rfl⟩ (Nat.le_of_ble_eq_true rfl) ⟨Nat.le_of_ble_eq_true rfl, Nat.le_of_ble_eq_true rfl⟩ (fun r w1 hp => ?_)
                    obtain ⟨hr9, hw9⟩ := hp
                    have hr9 : r = (nI (mFrom av L1 s a2)) := hr9
                    subst hr9
                    refine sx_weq hw9 ?_
                    refine sx_iastN (pc := 196) (w2 := (mw X bd sc (va_up (va_up av 8 L1) 9 (va_up B1 s (mFrom av L1 s a2))))) hG 9 dX8_work_196 rfl (by decide) (by omega) rfl ?_
                    refine sx_iinc (pc := 197) (v := nI (a2 + 1)) (lv2 := [(0, .ref (bd 0)), (1, .int (nI s)), (2, .int (nI (a2 + 1)))]) hG [1, 2, 0] dX8_work_197 2 rfl (sx_inc a2) hN (by decide) rfl ?_
                    refine sx_goto (pc := 200) (tgt := 149) hG dX8_work_200 (by decide) ?_
                    refine ih_r (a2 + 1) _ he (by omega) (by first | (rw [mBv_step]; first | rw [if_pos (by omega), hBs] | (rw [if_neg (by omega), if_neg (by omega), hBs]) | (rw [if_neg (by omega), if_pos (by omega)]; unfold va_up; rw [if_pos rfl])) | skip) (fun j hj => by first | exact hBo j hj | (unfold va_up; rw [if_neg hj]; exact hBo j hj)) (fun j => by first | exact hBb1 j | (unfold va_up; split; omega; exact hBb1 j)) (by omega)
          refine sx_iload_n (pc := 14) hG dX8_work_14 rfl 2 rfl ?_
          refine sx_iconst (pc := 15) (v := nI 2) hG dX8_work_15 (by decide +kernel) ?_
          refine sx_aload_n (pc := 16) hG dX8_work_16 rfl 0 rfl ?_
          refine sx_get (pc := 17) (v2 := .int (nI n)) (ci := 8) hG i_X8_work_8 0 m_X8_work_f71 dX8_work_17 rfl (by decide) 0 rfl rfl (congrArg Value.int h0) ?_
          refine sx_imul (pc := 20) (v := (nI (2 * n))) hG dX8_work_20 (pk_mul 2 n) ?_
          refine sx_icmp_ge (pc := 21) (tgt := 131) (B := (2 * n) ≤ a) hG dX8_work_21 (by decide) (nI_leI (by omega) (by omega)) (fun c21 => ?_) (fun c21 => ?_)
          · skip
            refine sx_aload_n (pc := 131) hG dX8_work_131 rfl 0 rfl ?_
            refine sx_get (pc := 132) (v2 := .ref (bd 9)) (ci := 8) hG i_X8_work_8 11 m_X8_work_f38 dX8_work_132 rfl (by decide) 0 rfl rfl rfl ?_
            refine sx_iload_n (pc := 135) hG dX8_work_135 rfl 1 rfl ?_
            refine sx_iload_n (pc := 136) hG dX8_work_136 rfl 1 rfl ?_
            refine sx_if_ne (pc := 137) (tgt := 144) (B := s = 0) hG dX8_work_137 (by decide) (sx_eq0 (by omega)) (fun c137 => ?_) (fun c137 => ?_)
            · skip
              refine sx_ldc (pc := 144) (v2 := nI 2000000000) hG m_X8_work_c111 dX8_work_144 (by decide +kernel) ?_
              refine sx_iastN (pc := 146) (w2 := (mw X bd sc (va_up (va_up av 8 L1) 9 (va_up B s 2000000000)))) hG 9 dX8_work_146 rfl (by decide) (by omega) rfl ?_
              refine sx_iconst (pc := 147) (v := nI 0) hG dX8_work_147 (by decide +kernel) ?_
              refine sx_istore_n (pc := 148) (lv2 := [(0, .ref (bd 0)), (1, .int (nI s)), (2, .int (nI 0))]) hG [1, 2, 0] dX8_work_148 rfl hN (by decide) rfl ?_
              refine loop_r _ 0 _ (by omega) (by omega) (by unfold mBv sx_mn mI va_up; rw [if_pos rfl]; first | (rw [if_pos c137]) | (rw [if_neg c137])) (fun j hj => by unfold va_up; rw [if_neg hj]) (fun j => by unfold va_up; split; omega; exact hBb j) (Nat.lt_succ_self _)
            · skip
              refine sx_iconst (pc := 140) (v := nI 0) hG dX8_work_140 (by decide +kernel) ?_
              refine sx_goto (pc := 141) (tgt := 146) hG dX8_work_141 (by decide) ?_
              refine sx_iastN (pc := 146) (w2 := (mw X bd sc (va_up (va_up av 8 L1) 9 (va_up B s 0)))) hG 9 dX8_work_146 rfl (by decide) (by omega) rfl ?_
              refine sx_iconst (pc := 147) (v := nI 0) hG dX8_work_147 (by decide +kernel) ?_
              refine sx_istore_n (pc := 148) (lv2 := [(0, .ref (bd 0)), (1, .int (nI s)), (2, .int (nI 0))]) hG [1, 2, 0] dX8_work_148 rfl hN (by decide) rfl ?_
              refine loop_r _ 0 _ (by omega) (by omega) (by unfold mBv sx_mn mI va_up; rw [if_pos rfl]; first | (rw [if_pos c137]) | (rw [if_neg c137])) (fun j hj => by unfold va_up; rw [if_neg hj]) (fun j => by unfold va_up; split; omega; exact hBb j) (Nat.lt_succ_self _)
          · skip
            refine sx_iload_n (pc := 24) hG dX8_work_24 rfl 1 rfl ?_
            refine sx_if_ne (pc := 25) (tgt := 32) (B := s = 0) hG dX8_work_25 (by decide) (sx_eq0 (by omega)) (fun c25 => ?_) (fun c25 => ?_)
            · skip
              refine sx_ldc (pc := 32) (v2 := nI 2000000000) hG m_X8_work_c111 dX8_work_32 (by decide +kernel) ?_
              refine sx_istore_n (pc := 34) (lv2 := [(0, .ref (bd 0)), (1, .int (nI s)), (2, .int (nI a)), (3, .int (nI 2000000000))]) hG [1, 2, 3, 0] dX8_work_34 rfl hN (by decide) rfl ?_
              refine sx_iconst (pc := 35) (v := nI 0) hG dX8_work_35 (by decide +kernel) ?_
              refine sx_istore (pc := 36) (lv2 := [(0, .ref (bd 0)), (1, .int (nI s)), (2, .int (nI a)), (3, .int (nI 2000000000)), (4, .int (nI 0))]) hG [1, 2, 3, 4, 0] dX8_work_36 hN (by decide) rfl ?_
              refine loop_b _ 0 _ (by omega) (by omega) (by unfold mLv sx_mn mI; first | (rw [if_pos c25]) | (rw [if_neg c25])) (Nat.lt_succ_self _)
            · skip
              refine sx_iconst (pc := 28) (v := nI 0) hG dX8_work_28 (by decide +kernel) ?_
              refine sx_goto (pc := 29) (tgt := 34) hG dX8_work_29 (by decide) ?_
              refine sx_istore_n (pc := 34) (lv2 := [(0, .ref (bd 0)), (1, .int (nI s)), (2, .int (nI a)), (3, .int (nI 0))]) hG [1, 2, 3, 0] dX8_work_34 rfl hN (by decide) rfl ?_
              refine sx_iconst (pc := 35) (v := nI 0) hG dX8_work_35 (by decide +kernel) ?_
              refine sx_istore (pc := 36) (lv2 := [(0, .ref (bd 0)), (1, .int (nI s)), (2, .int (nI a)), (3, .int (nI 0)), (4, .int (nI 0))]) hG [1, 2, 3, 4, 0] dX8_work_36 hN (by decide) rfl ?_
              refine loop_b _ 0 _ (by omega) (by omega) (by unfold mLv sx_mn mI; first | (rw [if_pos c25]) | (rw [if_neg c25])) (Nat.lt_succ_self _)
      refine sx_iload_n (pc := 2) hG dX8_work_2 rfl 1 rfl ?_
      refine sx_iconst (pc := 3) (v := nI 1) hG dX8_work_3 (by decide +kernel) ?_
      refine sx_aload_n (pc := 4) hG dX8_work_4 rfl 0 rfl ?_
      refine sx_get (pc := 5) (v2 := .int (nI n)) (ci := 8) hG i_X8_work_8 0 m_X8_work_f71 dX8_work_5 rfl (by decide) 0 rfl rfl (congrArg Value.int h0) ?_
      refine sx_ishl (pc := 8) (v := (nI (2 ^ n))) hG dX8_work_8 (sx_one (by omega)) ?_
      refine sx_icmp_ge (pc := 9) (tgt := 209) (B := (2 ^ n) ≤ s) hG dX8_work_9 (by decide) (nI_leI (by omega) (by omega)) (fun c9 => ?_) (fun c9 => ?_)
      · skip
        exact hret _ _ _ dX8_work_209 ⟨L, B, rfl, (by rw [show 2 ^ n = s by omega]; exact hT), hLb, hBb⟩
      · skip
        refine sx_iconst (pc := 12) (v := nI 0) hG dX8_work_12 (by decide +kernel) ?_
        refine sx_istore_n (pc := 13) (lv2 := [(0, .ref (bd 0)), (1, .int (nI s)), (2, .int (nI 0))]) hG [1, 2, 0] dX8_work_13 rfl hN (by decide) rfl ?_
        refine loop_A _ 0 L (by omega) (by omega) hT (fun _ h => absurd h (Nat.not_lt_zero _)) hLb (Nat.lt_succ_self _)
  refine sx_iconst (pc := 0) (v := nI 0) hG dX8_work_0 (by decide +kernel) ?_
  refine sx_istore_n (pc := 1) (lv2 := [(0, .ref (bd 0)), (1, .int (nI 0))]) hG [1, 0] dX8_work_1 rfl hN (by decide) rfl ?_
  refine sx_weq (w2 := (mw X bd sc (va_up (va_up av 8 (av 8)) 9 (av 9)))) rfl ?_
  refine loop_S _ 0 (av 8) (av 9) (Nat.zero_le _) ⟨fun _ h => absurd h (Nat.not_lt_zero _), fun _ h => absurd h (Nat.not_lt_zero _)⟩ hL0 hB0 (Nat.lt_succ_self _)
end
section
/-! THE REFERENCE: steps, run, step -/
theorem sx_mn_lb {i0 : Nat} {p f : Nat → Nat} {k b : Nat} (hb : b < k) (hp : ¬ p b = 0) : sx_mn i0 p f k ≤ f b := by
  induction k with
  | zero => exact absurd hb (Nat.not_lt_zero _)
  | succ k ih =>
    unfold sx_mn
    by_cases e : b = k
    · subst e; rw [if_neg hp]; split <;> omega
    · have h := ih (by omega)
      split
      · exact h
      · split <;> omega
theorem sx_mn_at {i0 : Nat} {p f : Nat → Nat} {k : Nat} (h : sx_mn i0 p f k < i0) : ∃ b, b < k ∧ ¬ p b = 0 ∧ f b = sx_mn i0 p f k := by
  induction k with
  | zero => exact absurd h (Nat.lt_irrefl _)
  | succ k ih =>
    unfold sx_mn at h ⊢
    by_cases hp : p k = 0
    · rw [if_pos hp] at h ⊢
      obtain ⟨b, h1, h2, h3⟩ := ih h
      exact ⟨b, by omega, h2, h3⟩
    · rw [if_neg hp] at h ⊢
      by_cases hf : f k < sx_mn i0 p f k
      · rw [if_pos hf]; exact ⟨k, by omega, hp, rfl⟩
      · rw [if_neg hf] at h ⊢
        obtain ⟨b, h1, h2, h3⟩ := ih h
        exact ⟨b, by omega, h2, h3⟩
/-- how many are in a set -/
def sx_pc (s : Nat) : Nat := sx_sum (fun i => sx_bit s i) 9
theorem sx_pc_d0 : ∀ s, s < 512 → ∀ k, k < 9 → ¬ sx_bit s k = 0 → sx_pc (sx_diff s (2 ^ k)) + 1 = sx_pc s := by decide +kernel
theorem sx_pc_z0 : ∀ s, s < 512 → sx_pc s = 0 → s = 0 := by decide +kernel
theorem sx_pc_n0 : ∀ n, n < 10 → ∀ s, s < 2 ^ n → sx_pc s ≤ n := by decide +kernel
theorem sx_hi0 : ∀ k, k < 9 → ∀ s, s < 2 ^ (k + 1) → ¬ s < 2 ^ k → ¬ sx_bit s k = 0 ∧ sx_diff s (2 ^ k) < 2 ^ k := by decide +kernel
theorem sx_bitn0 : ∀ n, n < 10 → ∀ s, s < 2 ^ n → ∀ k, k < 9 → ¬ sx_bit s k = 0 → k < n := by decide +kernel
theorem sx_pc_zero : sx_pc 0 = 0 := by decide
theorem mL_small {av : Nat → Nat → Nat} {n : Nat} {L B : Nat → Nat} (hg : mG av) (hn : n ≤ 9) (hT : mT av n L B (2 ^ n)) : ∀ k, k ≤ n → ∀ s, s < 2 ^ k → ∀ a, a < 2 * n → L (18 * s + a) ≤ 10000000 * k := by
  intro k
  induction k with
  | zero =>
    intro _ s hs a ha
    have hs0 : s = 0 := by omega
    subst hs0
    rw [hT.1 0 (Nat.pow_pos (by decide)) a ha]
    exact Nat.le_trans (sx_mn_le _ _ _ _) (by decide)
  | succ k ih =>
    intro hk s hs a ha
    have h2 : 2 ^ (k + 1) ≤ 2 ^ n := Nat.pow_le_pow_right (by decide) hk
    by_cases h : s < 2 ^ k
    · have := ih (by omega) s h a ha; omega
    · obtain ⟨h3, h4⟩ := sx_hi0 k (by omega) s hs h
      rw [hT.1 s (by omega) a ha]
      have h5 : mLv av L s a (2 * n) ≤ mGo av a (2 * k) + L (18 * sx_diff s (2 ^ (2 * k / 2)) + 2 * k) := sx_mn_lb (b := 2 * k) (by omega) (by show ¬ sx_bit s (2 * k / 2) = 0; rw [Nat.mul_div_cancel_left k (by decide)]; exact h3)
      rw [Nat.mul_div_cancel_left k (by decide)] at h5
      have h6 := ih (by omega) _ h4 (2 * k) (by omega)
      have h7 := mGo_le hg a (2 * k)
      omega
/-- what the k-th step a of a row costs with all behind it, and what it may cost -/
def mCand (av : Nat → Nat → Nat) (L : Nat → Nat) (k rest prev a : Nat) : Nat := if sx_bit rest (a / 2) = 0 then 2000000000 else if k = 0 then mFrom av L rest a else mGo av prev a + L (18 * sx_diff rest (2 ^ (a / 2)) + a)
def mTgt (L B : Nat → Nat) (s k rest prev : Nat) : Nat := if k = 0 then B s else L (18 * rest + prev)
def mSel (av : Nat → Nat → Nat) (L B : Nat → Nat) (n s k rest prev a : Nat) : Prop := a < 2 * n ∧ ¬ sx_bit rest (a / 2) = 0 ∧ mCand av L k rest prev a = mTgt L B s k rest prev ∧ ∀ b, b < a → ¬ mCand av L k rest prev b = mTgt L B s k rest prev
/-- R's first k steps are the first ones that keep to the least; 'rest' is left -/
def mPth (av : Nat → Nat → Nat) (L B : Nat → Nat) (n s : Nat) (R : Nat → Nat) : Nat → Nat → Prop
  | 0, rest => rest = s
  | k + 1, rest => ∃ r0, mPth av L B n s R k r0 ∧ ¬ r0 = 0 ∧ mSel av L B n s k r0 (R (k - 1)) (R k) ∧ rest = sx_diff r0 (2 ^ (R k / 2))
theorem mPth_lt {av : Nat → Nat → Nat} {L B : Nat → Nat} {n s : Nat} {R : Nat → Nat} {k rest : Nat} (h : mPth av L B n s R k rest) (hk : ¬ k = 0) : R (k - 1) < 2 * n := by
  cases k with
  | zero => exact absurd rfl hk
  | succ k => obtain ⟨r0, -, -, h1, -⟩ := h; exact h1.1
theorem mPth_0 {av : Nat → Nat → Nat} {L B : Nat → Nat} {n s : Nat} {R : Nat → Nat} {k rest : Nat} (h : mPth av L B n s R k rest) (hk : k = 0) : rest = s := by subst hk; exact h
theorem mPth_up {av : Nat → Nat → Nat} {L B : Nat → Nat} {n s : Nat} {R : Nat → Nat} {i v : Nat} : ∀ {k rest : Nat}, k ≤ i → mPth av L B n s R k rest → mPth av L B n s (va_up R i v) k rest := by
  intro k
  induction k with
  | zero => intro rest _ h; exact h
  | succ k ih =>
    intro rest hk h
    obtain ⟨r0, h1, h2, h3, h4⟩ := h
    have e1 : va_up R i v k = R k := by unfold va_up; rw [if_neg (by omega)]
    have e2 : va_up R i v (k - 1) = R (k - 1) := by unfold va_up; rw [if_neg (by omega)]
    exact ⟨r0, ih (by omega) h1, h2, by rw [e1, e2]; exact h3, by rw [e1]; exact h4⟩
/-- there is a step that keeps to the least -/
theorem mEx {av : Nat → Nat → Nat} {n : Nat} {L B : Nat → Nat} (hg : mG av) (hn : n ≤ 9) (hT : mT av n L B (2 ^ n)) {s k rest prev : Nat} (hr : rest < 2 ^ n) (h0 : ¬ rest = 0) (hk0 : k = 0 → rest = s) (hp : ¬ k = 0 → prev < 2 * n) : (∃ a, a < 2 * n ∧ ¬ sx_bit rest (a / 2) = 0 ∧ mCand av L k rest prev a = mTgt L B s k rest prev) ∧ mTgt L B s k rest prev < 2000000000 := by
  have hp9 := sx_p9 hn
  have hsm := mL_small hg hn hT
  have hi : mI rest = 2000000000 := by unfold mI; rw [if_neg h0]
  -- some bit is there
  have hbit : ∃ i, i < n ∧ ¬ sx_bit rest i = 0 := by
    have h1 : ¬ sx_pc rest = 0 := fun h => h0 (sx_pc_z0 rest (by omega) h)
    rcases Classical.em (∃ i, i < n ∧ ¬ sx_bit rest i = 0) with h | h
    · exact h
    · have h2 : ∀ i, i < 9 → sx_bit rest i = 0 := fun i hi9 => by
        rcases Nat.eq_zero_or_pos (sx_bit rest i) with h3 | h3
        · exact h3
        · exact absurd ⟨i, sx_bitn0 n (by omega) rest hr i hi9 (by omega), by omega⟩ h
      have h4 : sx_pc rest = 0 := by unfold sx_pc; simp only [sx_sum]; rw [h2 0, h2 1, h2 2, h2 3, h2 4, h2 5, h2 6, h2 7, h2 8] <;> decide
      exact absurd h4 h1
  obtain ⟨i, hi1, hi2⟩ := hbit
  have hi2' : ¬ sx_bit rest (2 * i / 2) = 0 := by rw [Nat.mul_div_cancel_left i (by decide)]; exact hi2
  have hd := sx_dlt (s := rest) (k := i) (by omega) (by omega) hi2
  have hd' : sx_diff rest (2 ^ (2 * i / 2)) < rest := by rw [Nat.mul_div_cancel_left i (by decide)]; exact hd
  have hLs := hsm n (Nat.le_refl _) (sx_diff rest (2 ^ (2 * i / 2))) (by omega) (2 * i) (by omega)
  by_cases hk : k = 0
  · have hrs := hk0 hk
    subst hrs
    have ht : mTgt L B rest k rest prev = mBv av L rest (2 * n) := by unfold mTgt; rw [if_pos hk]; exact hT.2 rest hr
    have h1 : mBv av L rest (2 * n) ≤ mFrom av L rest (2 * i) := sx_mn_lb (b := 2 * i) (by omega) hi2'
    have h6 := hg.2.2.2.2.2.1 (2 * i / 2)
    have hlt : mBv av L rest (2 * n) < mI rest := by rw [hi]; unfold mFrom at h1; omega
    obtain ⟨a, ha, hb, hc⟩ := sx_mn_at hlt
    refine ⟨⟨a, ha, hb, ?_⟩, by rw [ht]; omega⟩
    rw [ht]
    unfold mCand
    rw [if_neg hb, if_pos hk]
    exact hc
  · have ht : mTgt L B s k rest prev = mLv av L rest prev (2 * n) := by unfold mTgt; rw [if_neg hk]; exact hT.1 rest hr prev (hp hk)
    have h1 : mLv av L rest prev (2 * n) ≤ mGo av prev (2 * i) + L (18 * sx_diff rest (2 ^ (2 * i / 2)) + 2 * i) := sx_mn_lb (b := 2 * i) (by omega) hi2'
    have h6 := mGo_le hg prev (2 * i)
    have hlt : mLv av L rest prev (2 * n) < mI rest := by rw [hi]; omega
    obtain ⟨a, ha, hb, hc⟩ := sx_mn_at hlt
    refine ⟨⟨a, ha, hb, ?_⟩, by rw [ht]; omega⟩
    rw [ht]
    unfold mCand
    rw [if_neg hb, if_neg hk]
    exact hc
theorem mSel_up {av : Nat → Nat → Nat} {L B : Nat → Nat} {n s k rest : Nat} {R : Nat → Nat} {a v : Nat} (h : mSel av L B n s k rest (R (k - 1)) a) : mSel av L B n s k rest (va_up R k v (k - 1)) a := by
  by_cases hk : k = 0
  · subst hk
    obtain ⟨h1, h2, h3, h4⟩ := h
    have e : ∀ b, mCand av L 0 rest (va_up R 0 v (0 - 1)) b = mCand av L 0 rest (R (0 - 1)) b := fun b => by unfold mCand; rw [if_pos rfl, if_pos rfl]
    have e2 : mTgt L B s 0 rest (va_up R 0 v (0 - 1)) = mTgt L B s 0 rest (R (0 - 1)) := by unfold mTgt; rw [if_pos rfl, if_pos rfl]
    exact ⟨h1, h2, by rw [e, e2]; exact h3, fun b hb => by rw [e, e2]; exact h4 b hb⟩
  · have e : va_up R k v (k - 1) = R (k - 1) := by unfold va_up; rw [if_neg (by omega)]
    rw [e]; exact h
theorem mPth_av {av av2 : Nat → Nat → Nat} {L B : Nat → Nat} {n s : Nat} {R : Nat → Nat} (h1 : ∀ a b, mGo av a b = mGo av2 a b) (h2 : ∀ L s a, mFrom av L s a = mFrom av2 L s a) : ∀ {k rest : Nat}, mPth av L B n s R k rest → mPth av2 L B n s R k rest := by
  have e : ∀ k rest prev a, mCand av L k rest prev a = mCand av2 L k rest prev a := fun k rest prev a => by unfold mCand; rw [h1, h2]
  intro k
  induction k with
  | zero => intro rest h; exact h
  | succ k ih =>
    intro rest h
    obtain ⟨r0, p1, p2, ⟨q1, q2, q3, q4⟩, p4⟩ := h
    exact ⟨r0, ih p1, p2, ⟨q1, q2, by rw [← e]; exact q3, fun b hb => by rw [← e]; exact q4 b hb⟩, p4⟩
theorem sx_isSet_1 {n s : Nat} (hn : n ≤ 9) (h1 : 1 ≤ s) (h2 : s < 2 ^ n) : sx_isSet n (nI s) = 1 := by
  have hp := sx_p9 hn
  have h : (nI s).toInt = s := nI_toInt (by omega)
  unfold sx_isSet; rw [if_pos (by omega)]
theorem sx_isSet_le (n : Nat) (x : Int32) : sx_isSet n x ≤ 1 := by unfold sx_isSet; split <;> omega
theorem i_X8_steps_8 : ∀ w ∈ u_ws RX8 TX8 24, w ∈ wsX8_steps := by decide +kernel
theorem m_X8_steps_f35 : Cond.fieldLink RX8 35 (TX8 10).1 (TX8 10).2.1 (TX8 10).2.2.1 ∈ wsX8_steps := by decide +kernel
theorem m_X8_steps_f41 : Cond.fieldLink RX8 41 (TX8 12).1 (TX8 12).2.1 (TX8 12).2.2.1 ∈ wsX8_steps := by decide +kernel
theorem m_X8_steps_f38 : Cond.fieldLink RX8 38 (TX8 11).1 (TX8 11).2.1 (TX8 11).2.2.1 ∈ wsX8_steps := by decide +kernel
theorem m_X8_steps_c111 : Cond.constant RX8 111 (2000000000) ∈ wsX8_steps := by decide +kernel
set_option maxHeartbeats 4000000 in
set_option maxRecDepth 100000 in
theorem c_X8_steps (l : Launch) (X : sx_X) (bd : Nat → Nat) (sc : Nat → Int32) (av : Nat → Nat → Nat) (n : Nat) (hn : n ≤ 9) (h0 : sc 0 = nI n) (hg : mG av) (s : Nat) (hs : s < 2 ^ n) (hL : ∀ j, av 8 j ≤ 2000000000) (hB : ∀ j, av 9 j ≤ 2000000000) (hT : mT av n (av 8) (av 9) (2 ^ n)) (hR0 : ∀ j, av 10 j < 18) : sx_Mi l yX8_steps wsX8_steps { frames := 3, cells := 0, slots := 0, locals := 70 } X [.ref (bd 0), .int (nI s)] (mw X bd sc av) (fun r w => ∃ Rw : Nat → Nat, r = nI (sx_pc s) ∧ w = mw X bd sc (va_up av 10 Rw) ∧ (∀ j, Rw j < 18) ∧ mPth av (av 8) (av 9) n s Rw (sx_pc s) 0) 0 0 := by
  refine sx_entI (own := RX8) (nL := 8) (by decide +kernel) rfl rfl (Nat.le_of_ble_eq_true rfl) ?_
  intro G hG hN hret
  show sx_W l X G 0 0 0 [(0, .ref (bd 0)), (1, .int (nI s))] [] (mw X bd sc av)
  have hp9 := sx_p9 hn
  have hpc := sx_pc_n0 n (by omega) s hs
  have loop_K : ∀ (fuel : Nat), ∀ (k rest : Nat) (Rw : Nat → Nat), (rest < 2 ^ n) → (k + sx_pc rest = sx_pc s) → (mPth av (av 8) (av 9) n s Rw k rest) → (∀ j, Rw j < 18) → 9 - k < fuel → sx_W l X G 0 0 4 [(0, .ref (bd 0)), (1, .int (nI s)), (2, .int (nI k)), (3, .int (nI rest))] [] (mw X bd sc (va_up av 10 Rw)) := by
    intro fuel
    induction fuel with
    | zero => intro k rest Rw hr hk hpth hR hm; exact absurd hm (Nat.not_lt_zero _)
    | succ fuel ih_K =>
      intro k rest Rw hr hk hpth hR hm_K
      have hk9 := sx_pc_n0 n (by omega) rest hr
      have loop_a : ∀ (fuel : Nat), ∀ (a more : Nat), (¬ rest = 0) → (k < 9) → (a < 2 * n) → (more ≤ 1) → (∀ b, b < a → ¬ mCand av (av 8) k rest (Rw (k - 1)) b = mTgt (av 8) (av 9) s k rest (Rw (k - 1))) → (more = 0 → mSel av (av 8) (av 9) n s k rest (Rw (k - 1)) a) → 2 * (2 * n - a) + more < fuel → sx_W l X G 0 0 14 [(0, .ref (bd 0)), (1, .int (nI s)), (2, .int (nI k)), (3, .int (nI rest)), (4, .int (nI a)), (5, .int (nI more))] [] (mw X bd sc (va_up av 10 Rw)) := by
        intro fuel
        induction fuel with
        | zero => intro a more hr0 hk8 ha hm1 hnx hm0 hm; exact absurd hm (Nat.not_lt_zero _)
        | succ fuel ih_a =>
          intro a more hr0 hk8 ha hm1 hnx hm0 hm_a
          obtain ⟨⟨a0, ha0, hb0, hc0⟩, hTl⟩ := mEx hg hn hT (s := s) (prev := Rw (k - 1)) hr hr0 (mPth_0 hpth) (mPth_lt hpth)
          have hd9 := sx_diff_le rest (2 ^ (a / 2))
          have hb1 := sx_bit_le rest (a / 2)
          have hdv := sx_div_lt (a / 2) (show rest < 512 by omega)
          have hgo := mGo_le hg (Rw (k - 1)) a
          have hL9 := hL (18 * sx_diff rest (2 ^ (a / 2)) + a)
          have hL8 := hL (18 * rest + Rw (k - 1))
          have hR9 := hR (k - 1)
          have hB9 := hB s
          have hfl : mFrom av (av 8) rest a ≤ 2000000126 := by have h6 := hg.2.2.2.2.2.1 (a / 2); unfold mFrom; omega
          have join_v : ∀ (v can : Nat), (more = 1) → (v = mCand av (av 8) k rest (Rw (k - 1)) a) → sx_W l X G 0 0 98 [(0, .ref (bd 0)), (1, .int (nI s)), (2, .int (nI k)), (3, .int (nI rest)), (4, .int (nI a)), (5, .int (nI more)), (6, .int (nI can))] [.int (nI v)] (mw X bd sc (va_up av 10 Rw)) := by
            intro v can hmo hv
            have hvl : v ≤ 2147483646 := by subst hv; unfold mCand; split; decide; split <;> omega
            refine sx_istore (pc := 98) (lv2 := [(0, .ref (bd 0)), (1, .int (nI s)), (2, .int (nI k)), (3, .int (nI rest)), (4, .int (nI a)), (5, .int (nI more)), (6, .int (nI can)), (7, .int (nI v))]) hG [1, 2, 3, 4, 5, 6, 7, 0] dX8_steps_98 hN (by decide) rfl ?_
            refine sx_iload (pc := 100) hG dX8_steps_100 7 rfl ?_
            refine sx_iload_n (pc := 102) hG dX8_steps_102 rfl 2 rfl ?_
            refine sx_if_ne (pc := 103) (tgt := 115) (B := k = 0) hG dX8_steps_103 (by decide) (sx_eq0 (by omega)) (fun c103 => ?_) (fun c103 => ?_)
            · skip
              refine sx_aload_n (pc := 115) hG dX8_steps_115 rfl 0 rfl ?_
              refine sx_get (pc := 116) (v2 := .ref (bd 8)) (ci := 8) hG i_X8_steps_8 10 m_X8_steps_f35 dX8_steps_116 rfl (by decide) 0 rfl rfl rfl ?_
              refine sx_bipush (pc := 119) (v := nI 18) hG dX8_steps_119 (by decide +kernel) ?_
              refine sx_iload_n (pc := 121) hG dX8_steps_121 rfl 3 rfl ?_
              refine sx_imul (pc := 122) (v := (nI (18 * rest))) hG dX8_steps_122 (pk_mul 18 rest) ?_
              refine sx_aload_n (pc := 123) hG dX8_steps_123 rfl 0 rfl ?_
              refine sx_get (pc := 124) (v2 := .ref (bd 10)) (ci := 8) hG i_X8_steps_8 12 m_X8_steps_f41 dX8_steps_124 rfl (by decide) 0 rfl rfl rfl ?_
              refine sx_iload_n (pc := 127) hG dX8_steps_127 rfl 2 rfl ?_
              refine sx_iconst (pc := 128) (v := nI 1) hG dX8_steps_128 (by decide +kernel) ?_
              refine sx_isub (pc := 129) (v := (nI (k - 1))) hG dX8_steps_129 (pk_sub (by omega)) ?_
              refine sx_iald (pc := 130) (v := nI (Rw (k - 1))) hG 10 dX8_steps_130 rfl (by decide) (by omega) rfl ?_
              refine sx_iadd (pc := 131) (v := (nI (18 * rest + (Rw (k - 1))))) hG dX8_steps_131 (nI_add (18 * rest) (Rw (k - 1))) ?_
              refine sx_iald (pc := 132) (v := nI ((av 8) (18 * rest + (Rw (k - 1))))) hG 8 dX8_steps_132 rfl (by decide) (by omega) rfl ?_
              refine sx_icmp_eq (pc := 133) (tgt := 140) (B := v = ((av 8) (18 * rest + (Rw (k - 1))))) hG dX8_steps_133 (by decide) (nI_eq (by omega) (by omega)) (fun c133 => ?_) (fun c133 => ?_)
              · skip
                have heq : mCand av (av 8) k rest (Rw (k - 1)) a = mTgt (av 8) (av 9) s k rest (Rw (k - 1)) := by rw [← hv, c133]; unfold mTgt; first | (rw [if_pos c103]; done) | (rw [if_neg c103]; done)
                have hbz : ¬ sx_bit rest (a / 2) = 0 := fun h => by unfold mCand at heq; rw [if_pos h] at heq; omega
                refine sx_iconst (pc := 140) (v := nI 0) hG dX8_steps_140 (by decide +kernel) ?_
                refine sx_istore (pc := 141) (lv2 := [(0, .ref (bd 0)), (1, .int (nI s)), (2, .int (nI k)), (3, .int (nI rest)), (4, .int (nI a)), (5, .int (nI 0)), (6, .int (nI can)), (7, .int (nI v))]) hG [1, 2, 3, 4, 5, 0, 6, 7] dX8_steps_141 hN (by decide) rfl ?_
                refine sx_iload (pc := 143) hG dX8_steps_143 5 rfl ?_
                refine sx_if_eq (pc := 145) (tgt := 151) (B := 0 = 0) hG dX8_steps_145 (by decide) (sx_eq0 (by omega)) (fun c145 => ?_) (fun c145 => ?_)
                · skip
                  refine sx_goto (pc := 151) (tgt := 14) hG dX8_steps_151 (by decide) ?_
                  refine sx_lsub [0, 1, 2, 3, 4, 5] rfl ?_
                  refine ih_a _ _ hr0 hk8 ha (Nat.zero_le _) hnx (fun _ => ⟨ha, hbz, heq, hnx⟩) (by omega)
                · skip
                  exact absurd (by decide) c145
              · skip
                have hne : ¬ mCand av (av 8) k rest (Rw (k - 1)) a = mTgt (av 8) (av 9) s k rest (Rw (k - 1)) := fun h => c133 (by rw [hv, h]; unfold mTgt; first | (rw [if_pos c103]; done) | (rw [if_neg c103]; done))
                refine sx_iconst (pc := 136) (v := nI 1) hG dX8_steps_136 (by decide +kernel) ?_
                refine sx_goto (pc := 137) (tgt := 141) hG dX8_steps_137 (by decide) ?_
                refine sx_istore (pc := 141) (lv2 := [(0, .ref (bd 0)), (1, .int (nI s)), (2, .int (nI k)), (3, .int (nI rest)), (4, .int (nI a)), (5, .int (nI 1)), (6, .int (nI can)), (7, .int (nI v))]) hG [1, 2, 3, 4, 5, 0, 6, 7] dX8_steps_141 hN (by decide) rfl ?_
                refine sx_iload (pc := 143) hG dX8_steps_143 5 rfl ?_
                refine sx_if_eq (pc := 145) (tgt := 151) (B := 1 = 0) hG dX8_steps_145 (by decide) (sx_eq0 (by omega)) (fun c145 => ?_) (fun c145 => ?_)
                · skip
                  exact absurd c145 (by decide)
                · skip
                  refine sx_iinc (pc := 148) (v := nI (a + 1)) (lv2 := [(0, .ref (bd 0)), (1, .int (nI s)), (2, .int (nI k)), (3, .int (nI rest)), (4, .int (nI (a + 1))), (5, .int (nI 1)), (6, .int (nI can)), (7, .int (nI v))]) hG [1, 2, 3, 4, 0, 5, 6, 7] dX8_steps_148 4 rfl (sx_inc a) hN (by decide) rfl ?_
                  refine sx_goto (pc := 151) (tgt := 14) hG dX8_steps_151 (by decide) ?_
                  refine sx_lsub [0, 1, 2, 3, 4, 5] rfl ?_
                  refine ih_a _ _ hr0 hk8 (by rcases Nat.lt_or_ge (a + 1) (2 * n) with h | h; exact h; exact absurd hc0 (by rcases Nat.lt_or_ge a0 a with h2 | h2; exact hnx a0 h2; have e : a0 = a := (by omega); subst e; exact hne)) (Nat.le_refl _) (fun b h => by rcases Nat.lt_or_ge b a with h2 | h2; exact hnx b h2; have e : b = a := (by omega); subst e; exact hne) (fun h => absurd h (by decide)) (by omega)
            · skip
              refine sx_aload_n (pc := 106) hG dX8_steps_106 rfl 0 rfl ?_
              refine sx_get (pc := 107) (v2 := .ref (bd 9)) (ci := 8) hG i_X8_steps_8 11 m_X8_steps_f38 dX8_steps_107 rfl (by decide) 0 rfl rfl rfl ?_
              refine sx_iload_n (pc := 110) hG dX8_steps_110 rfl 1 rfl ?_
              refine sx_iald (pc := 111) (v := nI ((av 9) s)) hG 9 dX8_steps_111 rfl (by decide) (by omega) rfl ?_
              refine sx_goto (pc := 112) (tgt := 133) hG dX8_steps_112 (by decide) ?_
              refine sx_icmp_eq (pc := 133) (tgt := 140) (B := v = ((av 9) s)) hG dX8_steps_133 (by decide) (nI_eq (by omega) (by omega)) (fun c133 => ?_) (fun c133 => ?_)
              · skip
                have heq : mCand av (av 8) k rest (Rw (k - 1)) a = mTgt (av 8) (av 9) s k rest (Rw (k - 1)) := by rw [← hv, c133]; unfold mTgt; first | (rw [if_pos c103]; done) | (rw [if_neg c103]; done)
                have hbz : ¬ sx_bit rest (a / 2) = 0 := fun h => by unfold mCand at heq; rw [if_pos h] at heq; omega
                refine sx_iconst (pc := 140) (v := nI 0) hG dX8_steps_140 (by decide +kernel) ?_
                refine sx_istore (pc := 141) (lv2 := [(0, .ref (bd 0)), (1, .int (nI s)), (2, .int (nI k)), (3, .int (nI rest)), (4, .int (nI a)), (5, .int (nI 0)), (6, .int (nI can)), (7, .int (nI v))]) hG [1, 2, 3, 4, 5, 0, 6, 7] dX8_steps_141 hN (by decide) rfl ?_
                refine sx_iload (pc := 143) hG dX8_steps_143 5 rfl ?_
                refine sx_if_eq (pc := 145) (tgt := 151) (B := 0 = 0) hG dX8_steps_145 (by decide) (sx_eq0 (by omega)) (fun c145 => ?_) (fun c145 => ?_)
                · skip
                  refine sx_goto (pc := 151) (tgt := 14) hG dX8_steps_151 (by decide) ?_
                  refine sx_lsub [0, 1, 2, 3, 4, 5] rfl ?_
                  refine ih_a _ _ hr0 hk8 ha (Nat.zero_le _) hnx (fun _ => ⟨ha, hbz, heq, hnx⟩) (by omega)
                · skip
                  exact absurd (by decide) c145
              · skip
                have hne : ¬ mCand av (av 8) k rest (Rw (k - 1)) a = mTgt (av 8) (av 9) s k rest (Rw (k - 1)) := fun h => c133 (by rw [hv, h]; unfold mTgt; first | (rw [if_pos c103]; done) | (rw [if_neg c103]; done))
                refine sx_iconst (pc := 136) (v := nI 1) hG dX8_steps_136 (by decide +kernel) ?_
                refine sx_goto (pc := 137) (tgt := 141) hG dX8_steps_137 (by decide) ?_
                refine sx_istore (pc := 141) (lv2 := [(0, .ref (bd 0)), (1, .int (nI s)), (2, .int (nI k)), (3, .int (nI rest)), (4, .int (nI a)), (5, .int (nI 1)), (6, .int (nI can)), (7, .int (nI v))]) hG [1, 2, 3, 4, 5, 0, 6, 7] dX8_steps_141 hN (by decide) rfl ?_
                refine sx_iload (pc := 143) hG dX8_steps_143 5 rfl ?_
                refine sx_if_eq (pc := 145) (tgt := 151) (B := 1 = 0) hG dX8_steps_145 (by decide) (sx_eq0 (by omega)) (fun c145 => ?_) (fun c145 => ?_)
                · skip
                  exact absurd c145 (by decide)
                · skip
                  refine sx_iinc (pc := 148) (v := nI (a + 1)) (lv2 := [(0, .ref (bd 0)), (1, .int (nI s)), (2, .int (nI k)), (3, .int (nI rest)), (4, .int (nI (a + 1))), (5, .int (nI 1)), (6, .int (nI can)), (7, .int (nI v))]) hG [1, 2, 3, 4, 0, 5, 6, 7] dX8_steps_148 4 rfl (sx_inc a) hN (by decide) rfl ?_
                  refine sx_goto (pc := 151) (tgt := 14) hG dX8_steps_151 (by decide) ?_
                  refine sx_lsub [0, 1, 2, 3, 4, 5] rfl ?_
                  refine ih_a _ _ hr0 hk8 (by rcases Nat.lt_or_ge (a + 1) (2 * n) with h | h; exact h; exact absurd hc0 (by rcases Nat.lt_or_ge a0 a with h2 | h2; exact hnx a0 h2; have e : a0 = a := (by omega); subst e; exact hne)) (Nat.le_refl _) (fun b h => by rcases Nat.lt_or_ge b a with h2 | h2; exact hnx b h2; have e : b = a := (by omega); subst e; exact hne) (fun h => absurd h (by decide)) (by omega)
          refine sx_iload (pc := 14) hG dX8_steps_14 5 rfl ?_
          refine sx_if_eq (pc := 16) (tgt := 154) (B := more = 0) hG dX8_steps_16 (by decide) (sx_eq0 (by omega)) (fun c16 => ?_) (fun c16 => ?_)
          · skip
            refine sx_aload_n (pc := 154) hG dX8_steps_154 rfl 0 rfl ?_
            refine sx_get (pc := 155) (v2 := .ref (bd 10)) (ci := 8) hG i_X8_steps_8 12 m_X8_steps_f41 dX8_steps_155 rfl (by decide) 0 rfl rfl rfl ?_
            refine sx_iload_n (pc := 158) hG dX8_steps_158 rfl 2 rfl ?_
            refine sx_iload (pc := 159) hG dX8_steps_159 4 rfl ?_
            refine sx_iastN (pc := 161) (w2 := (mw X bd sc (va_up av 10 (va_up Rw k a)))) hG 10 dX8_steps_161 rfl (by decide) (by omega) rfl ?_
            refine sx_iinc (pc := 162) (v := nI (k + 1)) (lv2 := [(0, .ref (bd 0)), (1, .int (nI s)), (2, .int (nI (k + 1))), (3, .int (nI rest)), (4, .int (nI a)), (5, .int (nI more))]) hG [1, 2, 0, 3, 4, 5] dX8_steps_162 2 rfl (sx_inc k) hN (by decide) rfl ?_
            refine sx_iload_n (pc := 165) hG dX8_steps_165 rfl 3 rfl ?_
            refine sx_iconst (pc := 166) (v := nI 1) hG dX8_steps_166 (by decide +kernel) ?_
            refine sx_iload (pc := 167) hG dX8_steps_167 4 rfl ?_
            refine sx_iconst (pc := 169) (v := nI 2) hG dX8_steps_169 (by decide +kernel) ?_
            refine sx_idiv (pc := 170) (v := (nI (a / 2))) hG dX8_steps_170 (nI_ne0 (by decide) (by decide)) (pk_div (by omega) (by decide) (by decide)) ?_
            refine sx_ishl (pc := 171) (v := (nI (2 ^ (a / 2)))) hG dX8_steps_171 (sx_one (by omega)) ?_
            refine sx_iconst (pc := 172) (v := (-1)) hG dX8_steps_172 (by decide +kernel) ?_
            refine sx_ixor (pc := 173) (v := (nI (2 ^ (a / 2)) ^^^ (-1))) hG dX8_steps_173 rfl ?_
            refine sx_iand (pc := 174) (v := (nI (sx_diff rest (2 ^ (a / 2))))) hG dX8_steps_174 (sx_andnot (by omega) (sx_p2 (by omega))) ?_
            refine sx_istore_n (pc := 175) (lv2 := [(0, .ref (bd 0)), (1, .int (nI s)), (2, .int (nI (k + 1))), (3, .int (nI (sx_diff rest (2 ^ (a / 2))))), (4, .int (nI a)), (5, .int (nI more))]) hG [1, 2, 3, 0, 4, 5] dX8_steps_175 rfl hN (by decide) rfl ?_
            refine sx_goto (pc := 176) (tgt := 4) hG dX8_steps_176 (by decide) ?_
            refine sx_lsub [0, 1, 2, 3] rfl ?_
            refine ih_K (k + 1) (sx_diff rest (2 ^ (a / 2))) (va_up Rw k a) (by have := sx_diff_le rest (2 ^ (a / 2)); omega) (by have := sx_pc_d0 rest (by omega) (a / 2) (by omega) (hm0 c16).2.1; omega) ⟨rest, mPth_up (Nat.le_refl _) hpth, hr0, by rw [show va_up Rw k a k = a by simp [va_up]]; exact mSel_up (hm0 c16), by rw [show va_up Rw k a k = a by simp [va_up]]⟩ (fun j => by unfold va_up; split; omega; exact hR j) (by omega)
          · skip
            refine sx_iload_n (pc := 19) hG dX8_steps_19 rfl 3 rfl ?_
            refine sx_iload (pc := 20) hG dX8_steps_20 4 rfl ?_
            refine sx_iconst (pc := 22) (v := nI 2) hG dX8_steps_22 (by decide +kernel) ?_
            refine sx_idiv (pc := 23) (v := (nI (a / 2))) hG dX8_steps_23 (nI_ne0 (by decide) (by decide)) (pk_div (by omega) (by decide) (by decide)) ?_
            refine sx_ishr (pc := 24) (v := (nI (rest / 2 ^ (a / 2)))) hG dX8_steps_24 (sx_shr (by omega) (by omega)) ?_
            refine sx_iconst (pc := 25) (v := nI 1) hG dX8_steps_25 (by decide +kernel) ?_
            refine sx_iand (pc := 26) (v := (nI (sx_bit rest (a / 2)))) hG dX8_steps_26 (sx_bit1 (by omega)) ?_
            refine sx_iconst (pc := 27) (v := nI 1) hG dX8_steps_27 (by decide +kernel) ?_
            refine sx_icmp_ne (pc := 28) (tgt := 35) (B := (sx_bit rest (a / 2)) = 1) hG dX8_steps_28 (by decide) (nI_eq (by omega) (by omega)) (fun c28 => ?_) (fun c28 => ?_)
            · skip
              refine sx_iconst (pc := 35) (v := nI 0) hG dX8_steps_35 (by decide +kernel) ?_
              refine sx_istore (pc := 36) (lv2 := [(0, .ref (bd 0)), (1, .int (nI s)), (2, .int (nI k)), (3, .int (nI rest)), (4, .int (nI a)), (5, .int (nI more)), (6, .int (nI 0))]) hG [1, 2, 3, 4, 5, 6, 0] dX8_steps_36 hN (by decide) rfl ?_
              refine sx_iload (pc := 38) hG dX8_steps_38 6 rfl ?_
              refine sx_if_ne (pc := 40) (tgt := 48) (B := 0 = 0) hG dX8_steps_40 (by decide) (sx_eq0 (by omega)) (fun c40 => ?_) (fun c40 => ?_)
              · skip
                exact absurd (by decide) c40
              · skip
                refine sx_ldc (pc := 43) (v2 := nI 2000000000) hG m_X8_steps_c111 dX8_steps_43 (by decide +kernel) ?_
                refine sx_goto (pc := 45) (tgt := 98) hG dX8_steps_45 (by decide) ?_
                refine join_v _ _ (by omega) (by unfold mCand; rw [if_pos (by omega)])
            · skip
              refine sx_iconst (pc := 31) (v := nI 1) hG dX8_steps_31 (by decide +kernel) ?_
              refine sx_goto (pc := 32) (tgt := 36) hG dX8_steps_32 (by decide) ?_
              refine sx_istore (pc := 36) (lv2 := [(0, .ref (bd 0)), (1, .int (nI s)), (2, .int (nI k)), (3, .int (nI rest)), (4, .int (nI a)), (5, .int (nI more)), (6, .int (nI 1))]) hG [1, 2, 3, 4, 5, 6, 0] dX8_steps_36 hN (by decide) rfl ?_
              refine sx_iload (pc := 38) hG dX8_steps_38 6 rfl ?_
              refine sx_if_ne (pc := 40) (tgt := 48) (B := 1 = 0) hG dX8_steps_40 (by decide) (sx_eq0 (by omega)) (fun c40 => ?_) (fun c40 => ?_)
              · skip
                refine sx_iload_n (pc := 48) hG dX8_steps_48 rfl 2 rfl ?_
                refine sx_if_ne (pc := 49) (tgt := 62) (B := k = 0) hG dX8_steps_49 (by decide) (sx_eq0 (by omega)) (fun c49 => ?_) (fun c49 => ?_)
                · skip
                  refine sx_aload_n (pc := 62) hG dX8_steps_62 rfl 0 rfl ?_
                  refine sx_aload_n (pc := 63) hG dX8_steps_63 rfl 0 rfl ?_
                  refine sx_get (pc := 64) (v2 := .ref (bd 10)) (ci := 8) hG i_X8_steps_8 12 m_X8_steps_f41 dX8_steps_64 rfl (by decide) 0 rfl rfl rfl ?_
                  refine sx_iload_n (pc := 67) hG dX8_steps_67 rfl 2 rfl ?_
                  refine sx_iconst (pc := 68) (v := nI 1) hG dX8_steps_68 (by decide +kernel) ?_
                  refine sx_isub (pc := 69) (v := (nI (k - 1))) hG dX8_steps_69 (pk_sub (by omega)) ?_
                  refine sx_iald (pc := 70) (v := nI (Rw (k - 1))) hG 10 dX8_steps_70 rfl (by decide) (by omega) rfl ?_
                  refine sx_iload (pc := 71) hG dX8_steps_71 4 rfl ?_
                  refine sx_callViw (pc := 73) (n9 := 2) (As := [.int (nI (Rw (k - 1))), .int (nI a)]) (st := []) (b := (bd 0)) (ci := 8) hG (c_X8_goes l X bd sc (va_up av 10 Rw) (Rw (k - 1)) a (hR _) (by omega) hg) gX8_steps_X8_goes rfl (by decide +kernel) rfl 0 rfl rfl rfl dX8_steps_73 ⟨rfl, rfl⟩ ⟨Nat.le_of_ble_eq_true rfl, Nat.le_of_ble_eq_true rfl⟩ (Nat.le_of_ble_eq_true rfl) ⟨Nat.le_of_ble_eq_true rfl, Nat.le_of_ble_eq_true rfl⟩ (fun r w1 hp => ?_)
                  obtain ⟨hr9, hw9⟩ := hp
                  have hr9 : r = (nI (mGo av (Rw (k - 1)) a)) := hr9
                  subst hr9
                  refine sx_weq hw9 ?_
                  refine sx_aload_n (pc := 76) hG dX8_steps_76 rfl 0 rfl ?_
                  refine sx_get (pc := 77) (v2 := .ref (bd 8)) (ci := 8) hG i_X8_steps_8 10 m_X8_steps_f35 dX8_steps_77 rfl (by decide) 0 rfl rfl rfl ?_
                  refine sx_bipush (pc := 80) (v := nI 18) hG dX8_steps_80 (by decide +kernel) ?_
                  refine sx_iload_n (pc := 82) hG dX8_steps_82 rfl 3 rfl ?_
                  refine sx_iconst (pc := 83) (v := nI 1) hG dX8_steps_83 (by decide +kernel) ?_
                  refine sx_iload (pc := 84) hG dX8_steps_84 4 rfl ?_
                  refine sx_iconst (pc := 86) (v := nI 2) hG dX8_steps_86 (by decide +kernel) ?_
                  refine sx_idiv (pc := 87) (v := (nI (a / 2))) hG dX8_steps_87 (nI_ne0 (by decide) (by decide)) (pk_div (by omega) (by decide) (by decide)) ?_
                  refine sx_ishl (pc := 88) (v := (nI (2 ^ (a / 2)))) hG dX8_steps_88 (sx_one (by omega)) ?_
                  refine sx_iconst (pc := 89) (v := (-1)) hG dX8_steps_89 (by decide +kernel) ?_
                  refine sx_ixor (pc := 90) (v := (nI (2 ^ (a / 2)) ^^^ (-1))) hG dX8_steps_90 rfl ?_
                  refine sx_iand (pc := 91) (v := (nI (sx_diff rest (2 ^ (a / 2))))) hG dX8_steps_91 (sx_andnot (by omega) (sx_p2 (by omega))) ?_
                  refine sx_imul (pc := 92) (v := (nI (18 * (sx_diff rest (2 ^ (a / 2)))))) hG dX8_steps_92 (pk_mul 18 (sx_diff rest (2 ^ (a / 2)))) ?_
                  refine sx_iload (pc := 93) hG dX8_steps_93 4 rfl ?_
                  refine sx_iadd (pc := 95) (v := (nI (18 * (sx_diff rest (2 ^ (a / 2))) + a))) hG dX8_steps_95 (nI_add (18 * (sx_diff rest (2 ^ (a / 2)))) a) ?_
                  refine sx_iald (pc := 96) (v := nI ((av 8) (18 * (sx_diff rest (2 ^ (a / 2))) + a))) hG 8 dX8_steps_96 rfl (by decide) (by omega) rfl ?_
                  refine sx_iadd (pc := 97) (v := (nI (mGo av (Rw (k - 1)) a + ((av 8) (18 * (sx_diff rest (2 ^ (a / 2))) + a))))) hG dX8_steps_97 (nI_add (mGo av (Rw (k - 1)) a) ((av 8) (18 * (sx_diff rest (2 ^ (a / 2))) + a))) ?_
                  refine join_v _ _ (by omega) (by unfold mCand; rw [if_neg (by omega), if_neg c49])
                · skip
                  refine sx_aload_n (pc := 52) hG dX8_steps_52 rfl 0 rfl ?_
                  refine sx_iload_n (pc := 53) hG dX8_steps_53 rfl 3 rfl ?_
                  refine sx_iload (pc := 54) hG dX8_steps_54 4 rfl ?_
                  refine sx_callViw (pc := 56) (n9 := 2) (As := [.int (nI rest), .int (nI a)]) (st := []) (b := (bd 0)) (ci := 8) hG (c_X8_from l X bd sc (va_up av 10 Rw) rest a (by omega) (by omega) hg hL) gX8_steps_X8_from rfl (by decide +kernel) rfl 0 rfl rfl rfl dX8_steps_56 ⟨rfl, rfl⟩ ⟨Nat.le_of_ble_eq_true rfl, Nat.le_of_ble_eq_true rfl⟩ (Nat.le_of_ble_eq_true rfl) ⟨Nat.le_of_ble_eq_true rfl, Nat.le_of_ble_eq_true rfl⟩ (fun r w1 hp => ?_)
                  obtain ⟨hr9, hw9⟩ := hp
                  have hr9 : r = (nI (mFrom av (av 8) rest a)) := hr9
                  subst hr9
                  refine sx_weq hw9 ?_
                  refine sx_goto (pc := 59) (tgt := 98) hG dX8_steps_59 (by decide) ?_
                  refine join_v _ _ (by omega) (by unfold mCand; rw [if_neg (by omega), if_pos c49])
              · skip
                exact absurd c40 (by decide)
      refine sx_iload_n (pc := 4) hG dX8_steps_4 rfl 3 rfl ?_
      refine sx_if_eq (pc := 5) (tgt := 179) (B := rest = 0) hG dX8_steps_5 (by decide) (sx_eq0 (by omega)) (fun c5 => ?_) (fun c5 => ?_)
      · skip
        refine sx_iload_n (pc := 179) hG dX8_steps_179 rfl 2 rfl ?_
        have hz : rest = 0 := c5
        subst hz
        have hkk : k = sx_pc s := by have := sx_pc_zero; omega
        subst hkk
        exact hret _ _ _ _ dX8_steps_180 rfl ⟨Rw, rfl, rfl, hR, hpth⟩
      · skip
        refine sx_iconst (pc := 8) (v := nI 0) hG dX8_steps_8 (by decide +kernel) ?_
        refine sx_istore (pc := 9) (lv2 := [(0, .ref (bd 0)), (1, .int (nI s)), (2, .int (nI k)), (3, .int (nI rest)), (4, .int (nI 0))]) hG [1, 2, 3, 4, 0] dX8_steps_9 hN (by decide) rfl ?_
        refine sx_iconst (pc := 11) (v := nI 1) hG dX8_steps_11 (by decide +kernel) ?_
        refine sx_istore (pc := 12) (lv2 := [(0, .ref (bd 0)), (1, .int (nI s)), (2, .int (nI k)), (3, .int (nI rest)), (4, .int (nI 0)), (5, .int (nI 1))]) hG [1, 2, 3, 4, 5, 0] dX8_steps_12 hN (by decide) rfl ?_
        refine loop_a _ 0 1 c5 (by have := sx_pc_z0 rest (by omega); omega) (by have := sx_pc_z0 rest (by omega); omega) (Nat.le_refl _) (fun b h => absurd h (Nat.not_lt_zero _)) (fun h => absurd h (by decide)) (Nat.lt_succ_self _)
  refine sx_iconst (pc := 0) (v := nI 0) hG dX8_steps_0 (by decide +kernel) ?_
  refine sx_istore_n (pc := 1) (lv2 := [(0, .ref (bd 0)), (1, .int (nI s)), (2, .int (nI 0))]) hG [1, 2, 0] dX8_steps_1 rfl hN (by decide) rfl ?_
  refine sx_iload_n (pc := 2) hG dX8_steps_2 rfl 1 rfl ?_
  refine sx_istore_n (pc := 3) (lv2 := [(0, .ref (bd 0)), (1, .int (nI s)), (2, .int (nI 0)), (3, .int (nI s))]) hG [1, 2, 3, 0] dX8_steps_3 rfl hN (by decide) rfl ?_
  refine sx_weq (w2 := (mw X bd sc (va_up av 10 (av 10)))) rfl ?_
  refine loop_K _ 0 s (av 10) hs (Nat.zero_add _) rfl hR0 (Nat.lt_succ_self _)

theorem i_X8_run_8 : ∀ w ∈ u_ws RX8 TX8 24, w ∈ wsX8_run := by decide +kernel
theorem m_X8_run_f68 : Cond.fieldLink RX8 68 (TX8 9).1 (TX8 9).2.1 (TX8 9).2.2.1 ∈ wsX8_run := by decide +kernel
theorem m_X8_run_f38 : Cond.fieldLink RX8 38 (TX8 11).1 (TX8 11).2.1 (TX8 11).2.2.1 ∈ wsX8_run := by decide +kernel
theorem m_X8_run_c107 : Cond.constant RX8 107 (100000) ∈ wsX8_run := by decide +kernel
set_option maxHeartbeats 4000000 in
set_option maxRecDepth 100000 in
theorem c_X8_run_0 (l : Launch) (X : sx_X) (bd : Nat → Nat) (sc : Nat → Int32) (av : Nat → Nat → Nat) (n : Nat) (hn : n ≤ 9) (h0 : sc 0 = nI n) (hg : mG av) (hL0 : ∀ j, av 8 j ≤ 2000000000) (hB0 : ∀ j, av 9 j ≤ 2000000000) (s : Nat) (hs1 : 1 ≤ s) (hs : s < 2 ^ n) : sx_Mi l yX8_run wsX8_run { frames := 4, cells := 0, slots := 0, locals := 95 } X [.ref (bd 0), .int (nI s), .int (nI 0)] (mw X bd sc av) (fun r w => ∃ L B : Nat → Nat, r = nI (B s / 100000) ∧ w = mw X bd (va_up sc 2 (nI 0)) (va_up (va_up av 8 L) 9 B) ∧ (∀ j, L j ≤ 2000000000) ∧ (∀ j, B j ≤ 2000000000) ∧ mT av n L B (2 ^ n)) 0 0 := by
  refine sx_entI (own := RX8) (nL := 6) (by decide +kernel) rfl rfl (Nat.le_of_ble_eq_true rfl) ?_
  intro G hG hN hret
  show sx_W l X G 0 0 0 [(0, .ref (bd 0)), (1, .int (nI s)), (2, .int (nI 0))] [] (mw X bd sc av)
  have hp9 := sx_p9 hn
  refine sx_aload_n (pc := 0) hG dX8_run_0 rfl 0 rfl ?_
  refine sx_iconst (pc := 1) (v := nI 0) hG dX8_run_1 (by decide +kernel) ?_
  refine sx_put (pc := 2) (v := .int (nI 0)) (ci := 8) (w2 := (mw X bd (va_up sc 2 (nI 0)) av)) hG i_X8_run_8 tyX8 tyX8_ok nmX8 9 m_X8_run_f68 dX8_run_2 rfl (by decide) 0 rfl rfl rfl rfl (Nat.le_of_ble_eq_true rfl) rfl ?_
  refine sx_aload_n (pc := 5) hG dX8_run_5 rfl 0 rfl ?_
  refine sx_iload_n (pc := 6) hG dX8_run_6 rfl 1 rfl ?_
  refine sx_callViw (pc := 7) (n9 := 1) (As := [.int (nI s)]) (st := []) (b := (bd 0)) (ci := 8) hG (c_X8_isSet l X bd (va_up sc 2 (nI 0)) av (nI s) n hn h0) gX8_run_X8_isSet rfl (by decide +kernel) rfl 0 rfl rfl rfl dX8_run_7 ⟨rfl, rfl⟩ ⟨Nat.le_of_ble_eq_true rfl, Nat.le_of_ble_eq_true rfl⟩ (Nat.le_of_ble_eq_true rfl) ⟨Nat.le_of_ble_eq_true rfl, Nat.le_of_ble_eq_true rfl⟩ (fun r w1 hp => ?_)
  obtain ⟨hr9, hw9⟩ := hp
  rw [sx_isSet_1 hn hs1 hs] at hr9
  subst hr9
  refine sx_weq hw9 ?_
  refine sx_if_eq (pc := 10) (tgt := 22) (B := 1 = 0) hG dX8_run_10 (by decide) (sx_eq0 (by omega)) (fun c10 => ?_) (fun c10 => ?_)
  · skip
    exact absurd c10 (by decide)
  · skip
    refine sx_iload_n (pc := 13) hG dX8_run_13 rfl 2 rfl ?_
    refine sx_if_lt (pc := 14) (tgt := 22) (B := False) hG dX8_run_14 (by decide) (sx_lt0 (by omega)) (fun c14 => ?_) (fun c14 => ?_)
    · skip
      exact absurd c14 (by decide)
    · skip
      refine sx_iload_n (pc := 17) hG dX8_run_17 rfl 2 rfl ?_
      refine sx_iconst (pc := 18) (v := nI 3) hG dX8_run_18 (by decide +kernel) ?_
      refine sx_icmp_le (pc := 19) (tgt := 24) (B := 0 ≤ 3) hG dX8_run_19 (by decide) (nI_leI (by omega) (by omega)) (fun c19 => ?_) (fun c19 => ?_)
      · skip
        refine sx_aload_n (pc := 24) hG dX8_run_24 rfl 0 rfl ?_
        refine sx_callVvw (pc := 25) (n9 := 0) (As := []) (st := []) (b := (bd 0)) (ci := 8) hG (c_X8_work l X bd (va_up sc 2 (nI 0)) av n hn h0 hg hL0 hB0) gX8_run_X8_work rfl (by decide +kernel) rfl 0 rfl rfl rfl dX8_run_25 ⟨rfl, rfl⟩ ⟨Nat.le_of_ble_eq_true rfl, Nat.le_of_ble_eq_true rfl⟩ (Nat.le_of_ble_eq_true rfl) ⟨Nat.le_of_ble_eq_true rfl, Nat.le_of_ble_eq_true rfl⟩ (fun w1 hp => ?_)
        obtain ⟨L, B, hw9, hT, hLb, hBb⟩ := hp
        refine sx_weq hw9 ?_
        refine sx_iload_n (pc := 28) hG dX8_run_28 rfl 2 rfl ?_
        refine sx_iconst (pc := 29) (v := nI 2) hG dX8_run_29 (by decide +kernel) ?_
        refine sx_icmp_ge (pc := 30) (tgt := 59) (B := 2 ≤ 0) hG dX8_run_30 (by decide) (nI_leI (by omega) (by omega)) (fun c30 => ?_) (fun c30 => ?_)
        · skip
          exact absurd c30 (by decide)
        · skip
          refine sx_iload_n (pc := 33) hG dX8_run_33 rfl 2 rfl ?_
          refine sx_if_ne (pc := 34) (tgt := 49) (B := 0 = 0) hG dX8_run_34 (by decide) (sx_eq0 (by omega)) (fun c34 => ?_) (fun c34 => ?_)
          · skip
            exact absurd (by decide) c34
          · skip
            refine sx_aload_n (pc := 37) hG dX8_run_37 rfl 0 rfl ?_
            refine sx_get (pc := 38) (v2 := .ref (bd 9)) (ci := 8) hG i_X8_run_8 11 m_X8_run_f38 dX8_run_38 rfl (by decide) 0 rfl rfl rfl ?_
            refine sx_iload_n (pc := 41) hG dX8_run_41 rfl 1 rfl ?_
            have hB9 := hBb s
            refine sx_iald (pc := 42) (v := nI (B s)) hG 9 dX8_run_42 rfl (by decide) (by omega) rfl ?_
            refine sx_ldc (pc := 43) (v2 := nI 100000) hG m_X8_run_c107 dX8_run_43 (by decide +kernel) ?_
            refine sx_idiv (pc := 45) (v := (nI ((B s) / 100000))) hG dX8_run_45 (nI_ne0 (by decide) (by decide)) (pk_div (by omega) (by decide) (by decide)) ?_
            refine sx_goto (pc := 46) (tgt := 58) hG dX8_run_46 (by decide) ?_
            exact hret _ _ _ _ dX8_run_58 rfl ⟨L, B, rfl, rfl, hLb, hBb, hT⟩
      · skip
        exact absurd (by decide) c19

set_option maxHeartbeats 4000000 in
set_option maxRecDepth 100000 in
theorem c_X8_run_1 (l : Launch) (X : sx_X) (bd : Nat → Nat) (sc : Nat → Int32) (av : Nat → Nat → Nat) (n : Nat) (hn : n ≤ 9) (h0 : sc 0 = nI n) (hg : mG av) (hL0 : ∀ j, av 8 j ≤ 2000000000) (hB0 : ∀ j, av 9 j ≤ 2000000000) (s : Nat) (hs1 : 1 ≤ s) (hs : s < 2 ^ n) : sx_Mi l yX8_run wsX8_run { frames := 4, cells := 0, slots := 0, locals := 95 } X [.ref (bd 0), .int (nI s), .int (nI 1)] (mw X bd sc av) (fun r w => ∃ L B : Nat → Nat, r = nI (B s % 100000) ∧ w = mw X bd (va_up sc 2 (nI 0)) (va_up (va_up av 8 L) 9 B) ∧ (∀ j, L j ≤ 2000000000) ∧ (∀ j, B j ≤ 2000000000) ∧ mT av n L B (2 ^ n)) 0 0 := by
  refine sx_entI (own := RX8) (nL := 6) (by decide +kernel) rfl rfl (Nat.le_of_ble_eq_true rfl) ?_
  intro G hG hN hret
  show sx_W l X G 0 0 0 [(0, .ref (bd 0)), (1, .int (nI s)), (2, .int (nI 1))] [] (mw X bd sc av)
  have hp9 := sx_p9 hn
  refine sx_aload_n (pc := 0) hG dX8_run_0 rfl 0 rfl ?_
  refine sx_iconst (pc := 1) (v := nI 0) hG dX8_run_1 (by decide +kernel) ?_
  refine sx_put (pc := 2) (v := .int (nI 0)) (ci := 8) (w2 := (mw X bd (va_up sc 2 (nI 0)) av)) hG i_X8_run_8 tyX8 tyX8_ok nmX8 9 m_X8_run_f68 dX8_run_2 rfl (by decide) 0 rfl rfl rfl rfl (Nat.le_of_ble_eq_true rfl) rfl ?_
  refine sx_aload_n (pc := 5) hG dX8_run_5 rfl 0 rfl ?_
  refine sx_iload_n (pc := 6) hG dX8_run_6 rfl 1 rfl ?_
  refine sx_callViw (pc := 7) (n9 := 1) (As := [.int (nI s)]) (st := []) (b := (bd 0)) (ci := 8) hG (c_X8_isSet l X bd (va_up sc 2 (nI 0)) av (nI s) n hn h0) gX8_run_X8_isSet rfl (by decide +kernel) rfl 0 rfl rfl rfl dX8_run_7 ⟨rfl, rfl⟩ ⟨Nat.le_of_ble_eq_true rfl, Nat.le_of_ble_eq_true rfl⟩ (Nat.le_of_ble_eq_true rfl) ⟨Nat.le_of_ble_eq_true rfl, Nat.le_of_ble_eq_true rfl⟩ (fun r w1 hp => ?_)
  obtain ⟨hr9, hw9⟩ := hp
  rw [sx_isSet_1 hn hs1 hs] at hr9
  subst hr9
  refine sx_weq hw9 ?_
  refine sx_if_eq (pc := 10) (tgt := 22) (B := 1 = 0) hG dX8_run_10 (by decide) (sx_eq0 (by omega)) (fun c10 => ?_) (fun c10 => ?_)
  · skip
    exact absurd c10 (by decide)
  · skip
    refine sx_iload_n (pc := 13) hG dX8_run_13 rfl 2 rfl ?_
    refine sx_if_lt (pc := 14) (tgt := 22) (B := False) hG dX8_run_14 (by decide) (sx_lt0 (by omega)) (fun c14 => ?_) (fun c14 => ?_)
    · skip
      exact absurd c14 (by decide)
    · skip
      refine sx_iload_n (pc := 17) hG dX8_run_17 rfl 2 rfl ?_
      refine sx_iconst (pc := 18) (v := nI 3) hG dX8_run_18 (by decide +kernel) ?_
      refine sx_icmp_le (pc := 19) (tgt := 24) (B := 1 ≤ 3) hG dX8_run_19 (by decide) (nI_leI (by omega) (by omega)) (fun c19 => ?_) (fun c19 => ?_)
      · skip
        refine sx_aload_n (pc := 24) hG dX8_run_24 rfl 0 rfl ?_
        refine sx_callVvw (pc := 25) (n9 := 0) (As := []) (st := []) (b := (bd 0)) (ci := 8) hG (c_X8_work l X bd (va_up sc 2 (nI 0)) av n hn h0 hg hL0 hB0) gX8_run_X8_work rfl (by decide +kernel) rfl 0 rfl rfl rfl dX8_run_25 ⟨rfl, rfl⟩ ⟨Nat.le_of_ble_eq_true rfl, Nat.le_of_ble_eq_true rfl⟩ (Nat.le_of_ble_eq_true rfl) ⟨Nat.le_of_ble_eq_true rfl, Nat.le_of_ble_eq_true rfl⟩ (fun w1 hp => ?_)
        obtain ⟨L, B, hw9, hT, hLb, hBb⟩ := hp
        refine sx_weq hw9 ?_
        refine sx_iload_n (pc := 28) hG dX8_run_28 rfl 2 rfl ?_
        refine sx_iconst (pc := 29) (v := nI 2) hG dX8_run_29 (by decide +kernel) ?_
        refine sx_icmp_ge (pc := 30) (tgt := 59) (B := 2 ≤ 1) hG dX8_run_30 (by decide) (nI_leI (by omega) (by omega)) (fun c30 => ?_) (fun c30 => ?_)
        · skip
          exact absurd c30 (by decide)
        · skip
          refine sx_iload_n (pc := 33) hG dX8_run_33 rfl 2 rfl ?_
          refine sx_if_ne (pc := 34) (tgt := 49) (B := 1 = 0) hG dX8_run_34 (by decide) (sx_eq0 (by omega)) (fun c34 => ?_) (fun c34 => ?_)
          · skip
            refine sx_aload_n (pc := 49) hG dX8_run_49 rfl 0 rfl ?_
            refine sx_get (pc := 50) (v2 := .ref (bd 9)) (ci := 8) hG i_X8_run_8 11 m_X8_run_f38 dX8_run_50 rfl (by decide) 0 rfl rfl rfl ?_
            refine sx_iload_n (pc := 53) hG dX8_run_53 rfl 1 rfl ?_
            have hB9 := hBb s
            refine sx_iald (pc := 54) (v := nI (B s)) hG 9 dX8_run_54 rfl (by decide) (by omega) rfl ?_
            refine sx_ldc (pc := 55) (v2 := nI 100000) hG m_X8_run_c107 dX8_run_55 (by decide +kernel) ?_
            refine sx_irem (pc := 57) (v := (nI ((B s) % 100000))) hG dX8_run_57 (nI_ne0 (by decide) (by decide)) (pk_rem (by omega) (by decide) (by decide)) ?_
            exact hret _ _ _ _ dX8_run_58 rfl ⟨L, B, rfl, rfl, hLb, hBb, hT⟩
          · skip
            exact absurd c34 (by decide)
      · skip
        exact absurd (by decide) c19

set_option maxHeartbeats 4000000 in
set_option maxRecDepth 100000 in
theorem c_X8_run_2 (l : Launch) (X : sx_X) (bd : Nat → Nat) (sc : Nat → Int32) (av : Nat → Nat → Nat) (n : Nat) (hn : n ≤ 9) (h0 : sc 0 = nI n) (hg : mG av) (hL0 : ∀ j, av 8 j ≤ 2000000000) (hB0 : ∀ j, av 9 j ≤ 2000000000) (s : Nat) (hs1 : 1 ≤ s) (hs : s < 2 ^ n) : sx_Mi l yX8_run wsX8_run { frames := 4, cells := 0, slots := 0, locals := 95 } X [.ref (bd 0), .int (nI s), .int (nI 2)] (mw X bd sc av) (fun r w => ∃ L B : Nat → Nat, r = nI (B s / 100000 + B s % 100000 * av 7 6 / 10) ∧ w = mw X bd (va_up sc 2 (nI 0)) (va_up (va_up av 8 L) 9 B) ∧ (∀ j, L j ≤ 2000000000) ∧ (∀ j, B j ≤ 2000000000) ∧ mT av n L B (2 ^ n)) 0 0 := by
  refine sx_entI (own := RX8) (nL := 6) (by decide +kernel) rfl rfl (Nat.le_of_ble_eq_true rfl) ?_
  intro G hG hN hret
  show sx_W l X G 0 0 0 [(0, .ref (bd 0)), (1, .int (nI s)), (2, .int (nI 2))] [] (mw X bd sc av)
  have hp9 := sx_p9 hn
  refine sx_aload_n (pc := 0) hG dX8_run_0 rfl 0 rfl ?_
  refine sx_iconst (pc := 1) (v := nI 0) hG dX8_run_1 (by decide +kernel) ?_
  refine sx_put (pc := 2) (v := .int (nI 0)) (ci := 8) (w2 := (mw X bd (va_up sc 2 (nI 0)) av)) hG i_X8_run_8 tyX8 tyX8_ok nmX8 9 m_X8_run_f68 dX8_run_2 rfl (by decide) 0 rfl rfl rfl rfl (Nat.le_of_ble_eq_true rfl) rfl ?_
  refine sx_aload_n (pc := 5) hG dX8_run_5 rfl 0 rfl ?_
  refine sx_iload_n (pc := 6) hG dX8_run_6 rfl 1 rfl ?_
  refine sx_callViw (pc := 7) (n9 := 1) (As := [.int (nI s)]) (st := []) (b := (bd 0)) (ci := 8) hG (c_X8_isSet l X bd (va_up sc 2 (nI 0)) av (nI s) n hn h0) gX8_run_X8_isSet rfl (by decide +kernel) rfl 0 rfl rfl rfl dX8_run_7 ⟨rfl, rfl⟩ ⟨Nat.le_of_ble_eq_true rfl, Nat.le_of_ble_eq_true rfl⟩ (Nat.le_of_ble_eq_true rfl) ⟨Nat.le_of_ble_eq_true rfl, Nat.le_of_ble_eq_true rfl⟩ (fun r w1 hp => ?_)
  obtain ⟨hr9, hw9⟩ := hp
  rw [sx_isSet_1 hn hs1 hs] at hr9
  subst hr9
  refine sx_weq hw9 ?_
  refine sx_if_eq (pc := 10) (tgt := 22) (B := 1 = 0) hG dX8_run_10 (by decide) (sx_eq0 (by omega)) (fun c10 => ?_) (fun c10 => ?_)
  · skip
    exact absurd c10 (by decide)
  · skip
    refine sx_iload_n (pc := 13) hG dX8_run_13 rfl 2 rfl ?_
    refine sx_if_lt (pc := 14) (tgt := 22) (B := False) hG dX8_run_14 (by decide) (sx_lt0 (by omega)) (fun c14 => ?_) (fun c14 => ?_)
    · skip
      exact absurd c14 (by decide)
    · skip
      refine sx_iload_n (pc := 17) hG dX8_run_17 rfl 2 rfl ?_
      refine sx_iconst (pc := 18) (v := nI 3) hG dX8_run_18 (by decide +kernel) ?_
      refine sx_icmp_le (pc := 19) (tgt := 24) (B := 2 ≤ 3) hG dX8_run_19 (by decide) (nI_leI (by omega) (by omega)) (fun c19 => ?_) (fun c19 => ?_)
      · skip
        refine sx_aload_n (pc := 24) hG dX8_run_24 rfl 0 rfl ?_
        refine sx_callVvw (pc := 25) (n9 := 0) (As := []) (st := []) (b := (bd 0)) (ci := 8) hG (c_X8_work l X bd (va_up sc 2 (nI 0)) av n hn h0 hg hL0 hB0) gX8_run_X8_work rfl (by decide +kernel) rfl 0 rfl rfl rfl dX8_run_25 ⟨rfl, rfl⟩ ⟨Nat.le_of_ble_eq_true rfl, Nat.le_of_ble_eq_true rfl⟩ (Nat.le_of_ble_eq_true rfl) ⟨Nat.le_of_ble_eq_true rfl, Nat.le_of_ble_eq_true rfl⟩ (fun w1 hp => ?_)
        obtain ⟨L, B, hw9, hT, hLb, hBb⟩ := hp
        refine sx_weq hw9 ?_
        refine sx_iload_n (pc := 28) hG dX8_run_28 rfl 2 rfl ?_
        refine sx_iconst (pc := 29) (v := nI 2) hG dX8_run_29 (by decide +kernel) ?_
        refine sx_icmp_ge (pc := 30) (tgt := 59) (B := 2 ≤ 2) hG dX8_run_30 (by decide) (nI_leI (by omega) (by omega)) (fun c30 => ?_) (fun c30 => ?_)
        · skip
          refine sx_iload_n (pc := 59) hG dX8_run_59 rfl 2 rfl ?_
          refine sx_iconst (pc := 60) (v := nI 2) hG dX8_run_60 (by decide +kernel) ?_
          refine sx_icmp_ne (pc := 61) (tgt := 70) (B := 2 = 2) hG dX8_run_61 (by decide) (nI_eq (by omega) (by omega)) (fun c61 => ?_) (fun c61 => ?_)
          · skip
            exact absurd (by decide) c61
          · skip
            refine sx_aload_n (pc := 64) hG dX8_run_64 rfl 0 rfl ?_
            refine sx_iload_n (pc := 65) hG dX8_run_65 rfl 1 rfl ?_
            refine sx_callViw (pc := 66) (n9 := 1) (As := [.int (nI s)]) (st := []) (b := (bd 0)) (ci := 8) hG (c_X8_priceOf l X bd (va_up sc 2 (nI 0)) (va_up (va_up av 8 L) 9 B) s (by omega) hg hBb) gX8_run_X8_priceOf rfl (by decide +kernel) rfl 0 rfl rfl rfl dX8_run_66 ⟨rfl, rfl⟩ ⟨Nat.le_of_ble_eq_true rfl, Nat.le_of_ble_eq_true rfl⟩ (Nat.le_of_ble_eq_true rfl) ⟨Nat.le_of_ble_eq_true rfl, Nat.le_of_ble_eq_true rfl⟩ (fun r w1 hp => ?_)
            obtain ⟨hr9, hw9⟩ := hp
            have hr9 : r = (nI (B s / 100000 + B s % 100000 * av 7 6 / 10)) := hr9
            subst hr9
            refine sx_weq hw9 ?_
            exact hret _ _ _ _ dX8_run_69 rfl ⟨L, B, rfl, rfl, hLb, hBb, hT⟩
        · skip
          exact absurd (by decide) c30
      · skip
        exact absurd (by decide) c19

theorem m_X8_run_f41 : Cond.fieldLink RX8 41 (TX8 12).1 (TX8 12).2.1 (TX8 12).2.2.1 ∈ wsX8_run := by decide +kernel
set_option maxHeartbeats 4000000 in
set_option maxRecDepth 100000 in
theorem c_X8_run_3 (l : Launch) (X : sx_X) (bd : Nat → Nat) (sc : Nat → Int32) (av : Nat → Nat → Nat) (n : Nat) (hn : n ≤ 9) (h0 : sc 0 = nI n) (hg : mG av) (hL0 : ∀ j, av 8 j ≤ 2000000000) (hB0 : ∀ j, av 9 j ≤ 2000000000) (hR0 : ∀ j, av 10 j < 18) (s : Nat) (hs1 : 1 ≤ s) (hs : s < 2 ^ n) : sx_Mi l yX8_run wsX8_run { frames := 4, cells := 0, slots := 0, locals := 97 } X [.ref (bd 0), .int (nI s), .int (nI 3)] (mw X bd sc av) (fun r w => ∃ L B Rw : Nat → Nat, r = nI (sx_sum (fun j => mJ av (Rw j) (Rw (j + 1))) (sx_pc s - 1)) ∧ w = mw X bd (va_up sc 2 (nI 0)) (va_up (va_up (va_up av 8 L) 9 B) 10 Rw) ∧ (∀ j, L j ≤ 2000000000) ∧ (∀ j, B j ≤ 2000000000) ∧ mT av n L B (2 ^ n) ∧ (∀ j, Rw j < 18) ∧ mPth av L B n s Rw (sx_pc s) 0) 0 0 := by
  refine sx_entI (own := RX8) (nL := 6) (by decide +kernel) rfl rfl (Nat.le_of_ble_eq_true rfl) ?_
  intro G hG hN hret
  show sx_W l X G 0 0 0 [(0, .ref (bd 0)), (1, .int (nI s)), (2, .int (nI 3))] [] (mw X bd sc av)
  have hp9 := sx_p9 hn
  have hpc := sx_pc_n0 n (by omega) s hs
  refine sx_aload_n (pc := 0) hG dX8_run_0 rfl 0 rfl ?_
  refine sx_iconst (pc := 1) (v := nI 0) hG dX8_run_1 (by decide +kernel) ?_
  refine sx_put (pc := 2) (v := .int (nI 0)) (ci := 8) (w2 := (mw X bd (va_up sc 2 (nI 0)) av)) hG i_X8_run_8 tyX8 tyX8_ok nmX8 9 m_X8_run_f68 dX8_run_2 rfl (by decide) 0 rfl rfl rfl rfl (Nat.le_of_ble_eq_true rfl) rfl ?_
  refine sx_aload_n (pc := 5) hG dX8_run_5 rfl 0 rfl ?_
  refine sx_iload_n (pc := 6) hG dX8_run_6 rfl 1 rfl ?_
  refine sx_callViw (pc := 7) (n9 := 1) (As := [.int (nI s)]) (st := []) (b := (bd 0)) (ci := 8) hG (c_X8_isSet l X bd (va_up sc 2 (nI 0)) av (nI s) n hn h0) gX8_run_X8_isSet rfl (by decide +kernel) rfl 0 rfl rfl rfl dX8_run_7 ⟨rfl, rfl⟩ ⟨Nat.le_of_ble_eq_true rfl, Nat.le_of_ble_eq_true rfl⟩ (Nat.le_of_ble_eq_true rfl) ⟨Nat.le_of_ble_eq_true rfl, Nat.le_of_ble_eq_true rfl⟩ (fun r w1 hp => ?_)
  obtain ⟨hr9, hw9⟩ := hp
  rw [sx_isSet_1 hn hs1 hs] at hr9
  subst hr9
  refine sx_weq hw9 ?_
  refine sx_if_eq (pc := 10) (tgt := 22) (B := 1 = 0) hG dX8_run_10 (by decide) (sx_eq0 (by omega)) (fun c10 => ?_) (fun c10 => ?_)
  · skip
    exact absurd c10 (by decide)
  · skip
    refine sx_iload_n (pc := 13) hG dX8_run_13 rfl 2 rfl ?_
    refine sx_if_lt (pc := 14) (tgt := 22) (B := False) hG dX8_run_14 (by decide) (sx_lt0 (by omega)) (fun c14 => ?_) (fun c14 => ?_)
    · skip
      exact absurd c14 (by decide)
    · skip
      refine sx_iload_n (pc := 17) hG dX8_run_17 rfl 2 rfl ?_
      refine sx_iconst (pc := 18) (v := nI 3) hG dX8_run_18 (by decide +kernel) ?_
      refine sx_icmp_le (pc := 19) (tgt := 24) (B := 3 ≤ 3) hG dX8_run_19 (by decide) (nI_leI (by omega) (by omega)) (fun c19 => ?_) (fun c19 => ?_)
      · skip
        refine sx_aload_n (pc := 24) hG dX8_run_24 rfl 0 rfl ?_
        refine sx_callVvw (pc := 25) (n9 := 0) (As := []) (st := []) (b := (bd 0)) (ci := 8) hG (c_X8_work l X bd (va_up sc 2 (nI 0)) av n hn h0 hg hL0 hB0) gX8_run_X8_work rfl (by decide +kernel) rfl 0 rfl rfl rfl dX8_run_25 ⟨rfl, rfl⟩ ⟨Nat.le_of_ble_eq_true rfl, Nat.le_of_ble_eq_true rfl⟩ (Nat.le_of_ble_eq_true rfl) ⟨Nat.le_of_ble_eq_true rfl, Nat.le_of_ble_eq_true rfl⟩ (fun w1 hp => ?_)
        obtain ⟨L, B, hw9, hT, hLb, hBb⟩ := hp
        refine sx_weq hw9 ?_
        refine sx_iload_n (pc := 28) hG dX8_run_28 rfl 2 rfl ?_
        refine sx_iconst (pc := 29) (v := nI 2) hG dX8_run_29 (by decide +kernel) ?_
        refine sx_icmp_ge (pc := 30) (tgt := 59) (B := 2 ≤ 3) hG dX8_run_30 (by decide) (nI_leI (by omega) (by omega)) (fun c30 => ?_) (fun c30 => ?_)
        · skip
          refine sx_iload_n (pc := 59) hG dX8_run_59 rfl 2 rfl ?_
          refine sx_iconst (pc := 60) (v := nI 2) hG dX8_run_60 (by decide +kernel) ?_
          refine sx_icmp_ne (pc := 61) (tgt := 70) (B := 3 = 2) hG dX8_run_61 (by decide) (nI_eq (by omega) (by omega)) (fun c61 => ?_) (fun c61 => ?_)
          · skip
            refine sx_aload_n (pc := 70) hG dX8_run_70 rfl 0 rfl ?_
            refine sx_iload_n (pc := 71) hG dX8_run_71 rfl 1 rfl ?_
            refine sx_callViw (pc := 72) (n9 := 1) (As := [.int (nI s)]) (st := []) (b := (bd 0)) (ci := 8) hG (c_X8_steps l X bd (va_up sc 2 (nI 0)) (va_up (va_up av 8 L) 9 B) n hn h0 hg s hs hLb hBb hT hR0) gX8_run_X8_steps rfl (by decide +kernel) rfl 0 rfl rfl rfl dX8_run_72 ⟨rfl, rfl⟩ ⟨Nat.le_of_ble_eq_true rfl, Nat.le_of_ble_eq_true rfl⟩ (Nat.le_of_ble_eq_true rfl) ⟨Nat.le_of_ble_eq_true rfl, Nat.le_of_ble_eq_true rfl⟩ (fun r w1 hp => ?_)
            obtain ⟨Rw, hr9, hw9, hR, hpth⟩ := hp
            subst hr9
            have hpth : mPth av L B n s Rw (sx_pc s) 0 := mPth_av (av := (va_up (va_up av 8 L) 9 B)) (av2 := av) (L := L) (B := B) (fun _ _ => rfl) (fun _ _ _ => rfl) hpth
            refine sx_weq hw9 ?_
            refine sx_weq (w2 := (mw X bd (va_up sc 2 (nI 0)) (va_up (va_up (va_up av 8 L) 9 B) 10 Rw))) rfl ?_
            refine sx_istore_n (pc := 75) (lv2 := [(0, .ref (bd 0)), (1, .int (nI s)), (2, .int (nI 3)), (3, .int (nI (sx_pc s)))]) hG [1, 2, 3, 0] dX8_run_75 rfl hN (by decide) rfl ?_
            refine sx_iconst (pc := 76) (v := nI 0) hG dX8_run_76 (by decide +kernel) ?_
            refine sx_istore (pc := 77) (lv2 := [(0, .ref (bd 0)), (1, .int (nI s)), (2, .int (nI 3)), (3, .int (nI (sx_pc s))), (4, .int (nI 0))]) hG [1, 2, 3, 4, 0] dX8_run_77 hN (by decide) rfl ?_
            have hjl : ∀ j, mJ av (Rw j) (Rw (j + 1)) ≤ 1 := fun j => (by unfold mJ sx_jmp; split <;> omega)
            refine sx_iconst (pc := 79) (v := nI 1) hG dX8_run_79 (by decide +kernel) ?_
            refine sx_istore (pc := 80) (lv2 := [(0, .ref (bd 0)), (1, .int (nI s)), (2, .int (nI 3)), (3, .int (nI (sx_pc s))), (4, .int (nI 0)), (5, .int (nI 1))]) hG [1, 2, 3, 4, 5, 0] dX8_run_80 hN (by decide) rfl ?_
            have loop_j : ∀ (fuel : Nat), ∀ (k jn : Nat), (1 ≤ k) → (k ≤ 10) → (jn = sx_sum (fun j => mJ av (Rw j) (Rw (j + 1))) (k - 1)) → (k ≤ sx_pc s ∨ k = 1) → 10 - k < fuel → sx_W l X G 0 0 82 [(0, .ref (bd 0)), (1, .int (nI s)), (2, .int (nI 3)), (3, .int (nI (sx_pc s))), (4, .int (nI jn)), (5, .int (nI k))] [] (mw X bd (va_up sc 2 (nI 0)) (va_up (va_up (va_up av 8 L) 9 B) 10 Rw)) := by
              intro fuel
              induction fuel with
              | zero => intro k jn hk1 hk2 hj hk3 hm; exact absurd hm (Nat.not_lt_zero _)
              | succ fuel ih_j =>
                intro k jn hk1 hk2 hj hk3 hm_j
                have hs1 := sx_sum_le hjl (k - 1)
                have hj1 : mJ av (Rw (k - 1)) (Rw k) ≤ 1 := by have := hjl (k - 1); rw [show k - 1 + 1 = k by omega] at this; exact this
                refine sx_iload (pc := 82) hG dX8_run_82 5 rfl ?_
                refine sx_iload_n (pc := 84) hG dX8_run_84 rfl 3 rfl ?_
                refine sx_icmp_ge (pc := 85) (tgt := 127) (B := (sx_pc s) ≤ k) hG dX8_run_85 (by decide) (nI_leI (by omega) (by omega)) (fun c85 => ?_) (fun c85 => ?_)
                · skip
                  refine sx_iload (pc := 127) hG dX8_run_127 4 rfl ?_
                  exact hret _ _ _ _ dX8_run_129 rfl ⟨L, B, Rw, (by rw [hj, show k - 1 = sx_pc s - 1 by omega]), rfl, hLb, hBb, hT, hR, hpth⟩
                · skip
                  refine sx_iload (pc := 88) hG dX8_run_88 4 rfl ?_
                  refine sx_aload_n (pc := 90) hG dX8_run_90 rfl 0 rfl ?_
                  refine sx_aload_n (pc := 91) hG dX8_run_91 rfl 0 rfl ?_
                  refine sx_get (pc := 92) (v2 := .ref (bd 10)) (ci := 8) hG i_X8_run_8 12 m_X8_run_f41 dX8_run_92 rfl (by decide) 0 rfl rfl rfl ?_
                  refine sx_iload (pc := 95) hG dX8_run_95 5 rfl ?_
                  refine sx_iconst (pc := 97) (v := nI 1) hG dX8_run_97 (by decide +kernel) ?_
                  refine sx_isub (pc := 98) (v := (nI (k - 1))) hG dX8_run_98 (pk_sub (by omega)) ?_
                  refine sx_iald (pc := 99) (v := nI (Rw (k - 1))) hG 10 dX8_run_99 rfl (by decide) (by omega) rfl ?_
                  refine sx_aload_n (pc := 100) hG dX8_run_100 rfl 0 rfl ?_
                  refine sx_get (pc := 101) (v2 := .ref (bd 10)) (ci := 8) hG i_X8_run_8 12 m_X8_run_f41 dX8_run_101 rfl (by decide) 0 rfl rfl rfl ?_
                  refine sx_iload (pc := 104) hG dX8_run_104 5 rfl ?_
                  refine sx_iald (pc := 106) (v := nI (Rw k)) hG 10 dX8_run_106 rfl (by decide) (by omega) rfl ?_
                  refine sx_callViw (pc := 107) (n9 := 2) (As := [.int (nI (Rw (k - 1))), .int (nI (Rw k))]) (st := [.int (nI jn)]) (b := (bd 0)) (ci := 8) hG (c_X8_isJump l X bd (va_up sc 2 (nI 0)) (va_up (va_up (va_up av 8 L) 9 B) 10 Rw) (Rw (k - 1)) (Rw k) (hR _) (hR _) hg) gX8_run_X8_isJump rfl (by decide +kernel) rfl 0 rfl rfl rfl dX8_run_107 ⟨rfl, rfl⟩ ⟨Nat.le_of_ble_eq_true rfl, Nat.le_of_ble_eq_true rfl⟩ (Nat.le_of_ble_eq_true rfl) ⟨Nat.le_of_ble_eq_true rfl, Nat.le_of_ble_eq_true rfl⟩ (fun r w1 hp => ?_)
                  obtain ⟨hr9, hw9⟩ := hp
                  have hr9 : r = (nI (mJ av (Rw (k - 1)) (Rw k))) := hr9
                  subst hr9
                  refine sx_weq hw9 ?_
                  refine sx_if_eq (pc := 110) (tgt := 117) (B := (mJ av (Rw (k - 1)) (Rw k)) = 0) hG dX8_run_110 (by decide) (sx_eq0 (by omega)) (fun c110 => ?_) (fun c110 => ?_)
                  · skip
                    refine sx_iconst (pc := 117) (v := nI 0) hG dX8_run_117 (by decide +kernel) ?_
                    refine sx_iadd (pc := 118) (v := (nI (jn + 0))) hG dX8_run_118 (nI_add jn 0) ?_
                    refine sx_istore (pc := 119) (lv2 := [(0, .ref (bd 0)), (1, .int (nI s)), (2, .int (nI 3)), (3, .int (nI (sx_pc s))), (4, .int (nI (jn + 0))), (5, .int (nI k))]) hG [1, 2, 3, 4, 0, 5] dX8_run_119 hN (by decide) rfl ?_
                    refine sx_iinc (pc := 121) (v := nI (k + 1)) (lv2 := [(0, .ref (bd 0)), (1, .int (nI s)), (2, .int (nI 3)), (3, .int (nI (sx_pc s))), (4, .int (nI (jn + 0))), (5, .int (nI (k + 1)))]) hG [1, 2, 3, 4, 5, 0] dX8_run_121 5 rfl (sx_inc k) hN (by decide) rfl ?_
                    refine sx_goto (pc := 124) (tgt := 82) hG dX8_run_124 (by decide) ?_
                    refine ih_j (k + 1) _ (by omega) (by omega) (by rw [show k + 1 - 1 = (k - 1) + 1 by omega]; unfold sx_sum; rw [← hj, show k - 1 + 1 = k by omega]; omega) (by omega) (by omega)
                  · skip
                    refine sx_iconst (pc := 113) (v := nI 1) hG dX8_run_113 (by decide +kernel) ?_
                    refine sx_goto (pc := 114) (tgt := 118) hG dX8_run_114 (by decide) ?_
                    refine sx_iadd (pc := 118) (v := (nI (jn + 1))) hG dX8_run_118 (nI_add jn 1) ?_
                    refine sx_istore (pc := 119) (lv2 := [(0, .ref (bd 0)), (1, .int (nI s)), (2, .int (nI 3)), (3, .int (nI (sx_pc s))), (4, .int (nI (jn + 1))), (5, .int (nI k))]) hG [1, 2, 3, 4, 0, 5] dX8_run_119 hN (by decide) rfl ?_
                    refine sx_iinc (pc := 121) (v := nI (k + 1)) (lv2 := [(0, .ref (bd 0)), (1, .int (nI s)), (2, .int (nI 3)), (3, .int (nI (sx_pc s))), (4, .int (nI (jn + 1))), (5, .int (nI (k + 1)))]) hG [1, 2, 3, 4, 5, 0] dX8_run_121 5 rfl (sx_inc k) hN (by decide) rfl ?_
                    refine sx_goto (pc := 124) (tgt := 82) hG dX8_run_124 (by decide) ?_
                    refine ih_j (k + 1) _ (by omega) (by omega) (by rw [show k + 1 - 1 = (k - 1) + 1 by omega]; unfold sx_sum; rw [← hj, show k - 1 + 1 = k by omega]; omega) (by omega) (by omega)
            refine loop_j _ 1 0 (by omega) (by omega) rfl (by omega) (Nat.lt_succ_self _)
          · skip
            exact absurd c61 (by decide)
        · skip
          exact absurd (by decide) c30
      · skip
        exact absurd (by decide) c19

set_option maxHeartbeats 4000000 in
set_option maxRecDepth 100000 in
theorem c_X8_run_no (l : Launch) (X : sx_X) (bd : Nat → Nat) (sc : Nat → Int32) (av : Nat → Nat → Nat) (n : Nat) (hn : n ≤ 9) (h0 : sc 0 = nI n) (hg : mG av) (x a : Int32) (hno : sx_isSet n x = 0 ∨ a.toInt < 0 ∨ 3 < a.toInt) : sx_Mi l yX8_run wsX8_run { frames := 1, cells := 0, slots := 0, locals := 21 } X [.ref (bd 0), .int x, .int a] (mw X bd sc av) (fun r w => r = -1 ∧ w = mw X bd (va_up sc 2 (nI 0)) av) 0 0 := by
  refine sx_entI (own := RX8) (nL := 6) (by decide +kernel) rfl rfl (Nat.le_of_ble_eq_true rfl) ?_
  intro G hG hN hret
  show sx_W l X G 0 0 0 [(0, .ref (bd 0)), (1, .int x), (2, .int a)] [] (mw X bd sc av)
  have hl1 := sx_isSet_le n x
  refine sx_aload_n (pc := 0) hG dX8_run_0 rfl 0 rfl ?_
  refine sx_iconst (pc := 1) (v := nI 0) hG dX8_run_1 (by decide +kernel) ?_
  refine sx_put (pc := 2) (v := .int (nI 0)) (ci := 8) (w2 := (mw X bd (va_up sc 2 (nI 0)) av)) hG i_X8_run_8 tyX8 tyX8_ok nmX8 9 m_X8_run_f68 dX8_run_2 rfl (by decide) 0 rfl rfl rfl rfl (Nat.le_of_ble_eq_true rfl) rfl ?_
  refine sx_aload_n (pc := 5) hG dX8_run_5 rfl 0 rfl ?_
  refine sx_iload_n (pc := 6) hG dX8_run_6 rfl 1 rfl ?_
  refine sx_callViw (pc := 7) (n9 := 1) (As := [.int x]) (st := []) (b := (bd 0)) (ci := 8) hG (c_X8_isSet l X bd (va_up sc 2 (nI 0)) av x n hn h0) gX8_run_X8_isSet rfl (by decide +kernel) rfl 0 rfl rfl rfl dX8_run_7 ⟨rfl, rfl⟩ ⟨Nat.le_of_ble_eq_true rfl, Nat.le_of_ble_eq_true rfl⟩ (Nat.le_of_ble_eq_true rfl) ⟨Nat.le_of_ble_eq_true rfl, Nat.le_of_ble_eq_true rfl⟩ (fun r w1 hp => ?_)
  obtain ⟨hr9, hw9⟩ := hp
  have hr9 : r = (nI (sx_isSet n x)) := hr9
  subst hr9
  refine sx_weq hw9 ?_
  refine sx_if_eq (pc := 10) (tgt := 22) (B := (sx_isSet n x) = 0) hG dX8_run_10 (by decide) (sx_eq0 (by omega)) (fun c10 => ?_) (fun c10 => ?_)
  · skip
    refine sx_iconst (pc := 22) (v := (-1)) hG dX8_run_22 (by decide +kernel) ?_
    exact hret _ _ _ _ dX8_run_23 rfl ⟨rfl, rfl⟩
  · skip
    refine sx_iload_n (pc := 13) hG dX8_run_13 rfl 2 rfl ?_
    refine sx_if_lt (pc := 14) (tgt := 22) (B := a.toInt < 0) hG dX8_run_14 (by decide) (sx_rlt0 _) (fun c14 => ?_) (fun c14 => ?_)
    · skip
      refine sx_iconst (pc := 22) (v := (-1)) hG dX8_run_22 (by decide +kernel) ?_
      exact hret _ _ _ _ dX8_run_23 rfl ⟨rfl, rfl⟩
    · skip
      refine sx_iload_n (pc := 17) hG dX8_run_17 rfl 2 rfl ?_
      refine sx_iconst (pc := 18) (v := nI 3) hG dX8_run_18 (by decide +kernel) ?_
      refine sx_icmp_le (pc := 19) (tgt := 24) (B := a.toInt ≤ (3 : Int)) hG dX8_run_19 (by decide) (sx_rle rfl (nI_toInt (by omega))) (fun c19 => ?_) (fun c19 => ?_)
      · skip
        exact absurd hno (by omega)
      · skip
        refine sx_iconst (pc := 22) (v := (-1)) hG dX8_run_22 (by decide +kernel) ?_
        exact hret _ _ _ _ dX8_run_23 rfl ⟨rfl, rfl⟩

theorem i_X8_step_8 : ∀ w ∈ u_ws RX8 TX8 24, w ∈ wsX8_step := by decide +kernel
theorem m_X8_step_f68 : Cond.fieldLink RX8 68 (TX8 9).1 (TX8 9).2.1 (TX8 9).2.2.1 ∈ wsX8_step := by decide +kernel
set_option maxHeartbeats 4000000 in
set_option maxRecDepth 100000 in
theorem c_X8_step_no (l : Launch) (X : sx_X) (bd : Nat → Nat) (sc : Nat → Int32) (av : Nat → Nat → Nat) (n : Nat) (hn : n ≤ 9) (h0 : sc 0 = nI n) (hg : mG av) (x a : Int32) (hno : sx_isSet n x = 0 ∨ a.toInt < 0) : sx_Mi l yX8_step wsX8_step { frames := 1, cells := 0, slots := 0, locals := 21 } X [.ref (bd 0), .int x, .int a] (mw X bd sc av) (fun r w => r = -1 ∧ w = mw X bd (va_up sc 2 (nI 0)) av) 0 0 := by
  refine sx_entI (own := RX8) (nL := 3) (by decide +kernel) rfl rfl (Nat.le_of_ble_eq_true rfl) ?_
  intro G hG hN hret
  show sx_W l X G 0 0 0 [(0, .ref (bd 0)), (1, .int x), (2, .int a)] [] (mw X bd sc av)
  have hl1 := sx_isSet_le n x
  refine sx_aload_n (pc := 0) hG dX8_step_0 rfl 0 rfl ?_
  refine sx_iconst (pc := 1) (v := nI 0) hG dX8_step_1 (by decide +kernel) ?_
  refine sx_put (pc := 2) (v := .int (nI 0)) (ci := 8) (w2 := (mw X bd (va_up sc 2 (nI 0)) av)) hG i_X8_step_8 tyX8 tyX8_ok nmX8 9 m_X8_step_f68 dX8_step_2 rfl (by decide) 0 rfl rfl rfl rfl (Nat.le_of_ble_eq_true rfl) rfl ?_
  refine sx_aload_n (pc := 5) hG dX8_step_5 rfl 0 rfl ?_
  refine sx_iload_n (pc := 6) hG dX8_step_6 rfl 1 rfl ?_
  refine sx_callViw (pc := 7) (n9 := 1) (As := [.int x]) (st := []) (b := (bd 0)) (ci := 8) hG (c_X8_isSet l X bd (va_up sc 2 (nI 0)) av x n hn h0) gX8_step_X8_isSet rfl (by decide +kernel) rfl 0 rfl rfl rfl dX8_step_7 ⟨rfl, rfl⟩ ⟨Nat.le_of_ble_eq_true rfl, Nat.le_of_ble_eq_true rfl⟩ (Nat.le_of_ble_eq_true rfl) ⟨Nat.le_of_ble_eq_true rfl, Nat.le_of_ble_eq_true rfl⟩ (fun r w1 hp => ?_)
  obtain ⟨hr9, hw9⟩ := hp
  have hr9 : r = (nI (sx_isSet n x)) := hr9
  subst hr9
  refine sx_weq hw9 ?_
  refine sx_if_eq (pc := 10) (tgt := 17) (B := (sx_isSet n x) = 0) hG dX8_step_10 (by decide) (sx_eq0 (by omega)) (fun c10 => ?_) (fun c10 => ?_)
  · skip
    refine sx_iconst (pc := 17) (v := (-1)) hG dX8_step_17 (by decide +kernel) ?_
    exact hret _ _ _ _ dX8_step_18 rfl ⟨rfl, rfl⟩
  · skip
    refine sx_iload_n (pc := 13) hG dX8_step_13 rfl 2 rfl ?_
    refine sx_if_ge (pc := 14) (tgt := 19) (B := 0 ≤ a.toInt) hG dX8_step_14 (by decide) (sx_rge0 _) (fun c14 => ?_) (fun c14 => ?_)
    · skip
      exact absurd hno (by omega)
    · skip
      refine sx_iconst (pc := 17) (v := (-1)) hG dX8_step_17 (by decide +kernel) ?_
      exact hret _ _ _ _ dX8_step_18 rfl ⟨rfl, rfl⟩

theorem m_X8_step_f41 : Cond.fieldLink RX8 41 (TX8 12).1 (TX8 12).2.1 (TX8 12).2.2.1 ∈ wsX8_step := by decide +kernel
set_option maxHeartbeats 4000000 in
set_option maxRecDepth 100000 in
theorem c_X8_step_ok (l : Launch) (X : sx_X) (bd : Nat → Nat) (sc : Nat → Int32) (av : Nat → Nat → Nat) (n : Nat) (hn : n ≤ 9) (h0 : sc 0 = nI n) (hg : mG av) (hL0 : ∀ j, av 8 j ≤ 2000000000) (hB0 : ∀ j, av 9 j ≤ 2000000000) (hR0 : ∀ j, av 10 j < 18) (s k : Nat) (hs1 : 1 ≤ s) (hs : s < 2 ^ n) (hk : k < 2 ^ 31) : sx_Mi l yX8_step wsX8_step { frames := 4, cells := 0, slots := 0, locals := 97 } X [.ref (bd 0), .int (nI s), .int (nI k)] (mw X bd sc av) (fun r w => ∃ L B Rw : Nat → Nat, (r = if k < sx_pc s then nI (Rw k) else -1) ∧ w = mw X bd (va_up sc 2 (nI 0)) (va_up (va_up (va_up av 8 L) 9 B) 10 Rw) ∧ (∀ j, L j ≤ 2000000000) ∧ (∀ j, B j ≤ 2000000000) ∧ mT av n L B (2 ^ n) ∧ (∀ j, Rw j < 18) ∧ mPth av L B n s Rw (sx_pc s) 0) 0 0 := by
  refine sx_entI (own := RX8) (nL := 3) (by decide +kernel) rfl rfl (Nat.le_of_ble_eq_true rfl) ?_
  intro G hG hN hret
  show sx_W l X G 0 0 0 [(0, .ref (bd 0)), (1, .int (nI s)), (2, .int (nI k))] [] (mw X bd sc av)
  have hp9 := sx_p9 hn
  have hpc := sx_pc_n0 n (by omega) s hs
  refine sx_aload_n (pc := 0) hG dX8_step_0 rfl 0 rfl ?_
  refine sx_iconst (pc := 1) (v := nI 0) hG dX8_step_1 (by decide +kernel) ?_
  refine sx_put (pc := 2) (v := .int (nI 0)) (ci := 8) (w2 := (mw X bd (va_up sc 2 (nI 0)) av)) hG i_X8_step_8 tyX8 tyX8_ok nmX8 9 m_X8_step_f68 dX8_step_2 rfl (by decide) 0 rfl rfl rfl rfl (Nat.le_of_ble_eq_true rfl) rfl ?_
  refine sx_aload_n (pc := 5) hG dX8_step_5 rfl 0 rfl ?_
  refine sx_iload_n (pc := 6) hG dX8_step_6 rfl 1 rfl ?_
  refine sx_callViw (pc := 7) (n9 := 1) (As := [.int (nI s)]) (st := []) (b := (bd 0)) (ci := 8) hG (c_X8_isSet l X bd (va_up sc 2 (nI 0)) av (nI s) n hn h0) gX8_step_X8_isSet rfl (by decide +kernel) rfl 0 rfl rfl rfl dX8_step_7 ⟨rfl, rfl⟩ ⟨Nat.le_of_ble_eq_true rfl, Nat.le_of_ble_eq_true rfl⟩ (Nat.le_of_ble_eq_true rfl) ⟨Nat.le_of_ble_eq_true rfl, Nat.le_of_ble_eq_true rfl⟩ (fun r w1 hp => ?_)
  obtain ⟨hr9, hw9⟩ := hp
  rw [sx_isSet_1 hn hs1 hs] at hr9
  subst hr9
  refine sx_weq hw9 ?_
  refine sx_if_eq (pc := 10) (tgt := 17) (B := 1 = 0) hG dX8_step_10 (by decide) (sx_eq0 (by omega)) (fun c10 => ?_) (fun c10 => ?_)
  · skip
    exact absurd c10 (by decide)
  · skip
    refine sx_iload_n (pc := 13) hG dX8_step_13 rfl 2 rfl ?_
    refine sx_if_ge (pc := 14) (tgt := 19) (B := True) hG dX8_step_14 (by decide) (sx_ge0 (by omega)) (fun c14 => ?_) (fun c14 => ?_)
    · skip
      refine sx_aload_n (pc := 19) hG dX8_step_19 rfl 0 rfl ?_
      refine sx_callVvw (pc := 20) (n9 := 0) (As := []) (st := []) (b := (bd 0)) (ci := 8) hG (c_X8_work l X bd (va_up sc 2 (nI 0)) av n hn h0 hg hL0 hB0) gX8_step_X8_work rfl (by decide +kernel) rfl 0 rfl rfl rfl dX8_step_20 ⟨rfl, rfl⟩ ⟨Nat.le_of_ble_eq_true rfl, Nat.le_of_ble_eq_true rfl⟩ (Nat.le_of_ble_eq_true rfl) ⟨Nat.le_of_ble_eq_true rfl, Nat.le_of_ble_eq_true rfl⟩ (fun w1 hp => ?_)
      obtain ⟨L, B, hw9, hT, hLb, hBb⟩ := hp
      refine sx_weq hw9 ?_
      refine sx_iload_n (pc := 23) hG dX8_step_23 rfl 2 rfl ?_
      refine sx_aload_n (pc := 24) hG dX8_step_24 rfl 0 rfl ?_
      refine sx_iload_n (pc := 25) hG dX8_step_25 rfl 1 rfl ?_
      refine sx_callViw (pc := 26) (n9 := 1) (As := [.int (nI s)]) (st := [.int (nI k)]) (b := (bd 0)) (ci := 8) hG (c_X8_steps l X bd (va_up sc 2 (nI 0)) (va_up (va_up av 8 L) 9 B) n hn h0 hg s hs hLb hBb hT hR0) gX8_step_X8_steps rfl (by decide +kernel) rfl 0 rfl rfl rfl dX8_step_26 ⟨rfl, rfl⟩ ⟨Nat.le_of_ble_eq_true rfl, Nat.le_of_ble_eq_true rfl⟩ (Nat.le_of_ble_eq_true rfl) ⟨Nat.le_of_ble_eq_true rfl, Nat.le_of_ble_eq_true rfl⟩ (fun r w1 hp => ?_)
      obtain ⟨Rw, hr9, hw9, hR, hpth⟩ := hp
      subst hr9
      have hpth : mPth av L B n s Rw (sx_pc s) 0 := mPth_av (av := (va_up (va_up av 8 L) 9 B)) (av2 := av) (L := L) (B := B) (fun _ _ => rfl) (fun _ _ _ => rfl) hpth
      refine sx_weq hw9 ?_
      refine sx_weq (w2 := (mw X bd (va_up sc 2 (nI 0)) (va_up (va_up (va_up av 8 L) 9 B) 10 Rw))) rfl ?_
      refine sx_icmp_ge (pc := 29) (tgt := 41) (B := (sx_pc s) ≤ k) hG dX8_step_29 (by decide) (nI_leI (by omega) (by omega)) (fun c29 => ?_) (fun c29 => ?_)
      · skip
        refine sx_iconst (pc := 41) (v := (-1)) hG dX8_step_41 (by decide +kernel) ?_
        exact hret _ _ _ _ dX8_step_42 rfl ⟨L, B, Rw, (by first | (rw [if_pos (by omega)]) | (rw [if_neg (by omega)])), rfl, hLb, hBb, hT, hR, hpth⟩
      · skip
        refine sx_aload_n (pc := 32) hG dX8_step_32 rfl 0 rfl ?_
        refine sx_get (pc := 33) (v2 := .ref (bd 10)) (ci := 8) hG i_X8_step_8 12 m_X8_step_f41 dX8_step_33 rfl (by decide) 0 rfl rfl rfl ?_
        refine sx_iload_n (pc := 36) hG dX8_step_36 rfl 2 rfl ?_
        refine sx_iald (pc := 37) (v := nI (Rw k)) hG 10 dX8_step_37 rfl (by decide) (by omega) rfl ?_
        refine sx_goto (pc := 38) (tgt := 42) hG dX8_step_38 (by decide) ?_
        exact hret _ _ _ _ dX8_step_42 rfl ⟨L, B, Rw, (by first | (rw [if_pos (by omega)]) | (rw [if_neg (by omega)])), rfl, hLb, hBb, hT, hR, hpth⟩
    · skip
      exact absurd (by decide) c14
end
section
/-! THE REFERENCE: split -/
/-- a cost's two parts are small -/
theorem mL_two {av : Nat → Nat → Nat} {n : Nat} {L B : Nat → Nat} (hg : mG av) (hn : n ≤ 9) (hT : mT av n L B (2 ^ n)) : ∀ s, s < 2 ^ n → ∀ a, a < 2 * n → ∃ P Q, L (18 * s + a) = 100000 * P + Q ∧ P ≤ 99 * sx_pc s ∧ Q ≤ 252 * sx_pc s := by
  have hp9 := sx_p9 hn
  intro s
  induction s using Nat.strongRecOn with
  | _ s ih =>
    intro hs a ha
    by_cases h0 : s = 0
    · subst h0
      refine ⟨0, 0, ?_, Nat.zero_le _, Nat.zero_le _⟩
      rw [hT.1 0 hs a ha]
      exact Nat.le_zero.mp (Nat.le_trans (sx_mn_le _ _ _ _) (by decide))
    · obtain ⟨⟨b, hb, hbit, hc⟩, -⟩ := mEx hg hn hT (s := s) (k := 1) (rest := s) (prev := a) hs h0 (fun h => absurd h (by decide)) (fun _ => ha)
      unfold mCand mTgt at hc
      rw [if_neg hbit, if_neg (by decide), if_neg (by decide)] at hc
      have hd := sx_dlt (s := s) (k := b / 2) (by omega) (by omega) hbit
      obtain ⟨P, Q, h1, h2, h3⟩ := ih _ hd (by omega) b hb
      have h4 := sx_pc_d0 s (by omega) (b / 2) (by omega) hbit
      have h5 := mLp_le hg a b
      have h6 := mLl_le hg a b
      have h7 := hg.2.2.2.2.2.1 (b / 2)
      refine ⟨mLp av a b + P, av 6 (b / 2) + mLl av a b + Q, ?_, by omega, by omega⟩
      rw [← hc, h1]
      unfold mGo
      omega
theorem mB_two {av : Nat → Nat → Nat} {n : Nat} {L B : Nat → Nat} (hg : mG av) (hn : n ≤ 9) (hT : mT av n L B (2 ^ n)) {s : Nat} (hs : s < 2 ^ n) (h0 : ¬ s = 0) : B s / 100000 ≤ 792 ∧ B s % 100000 ≤ 2142 := by
  have hp9 := sx_p9 hn
  obtain ⟨⟨b, hb, hbit, hc⟩, -⟩ := mEx hg hn hT (s := s) (k := 0) (rest := s) (prev := 0) hs h0 (fun _ => rfl) (fun h => absurd rfl h)
  unfold mCand mTgt at hc
  rw [if_neg hbit, if_pos rfl, if_pos rfl] at hc
  have hd := sx_dlt (s := s) (k := b / 2) (by omega) (by omega) hbit
  obtain ⟨P, Q, h1, h2, h3⟩ := mL_two hg hn hT _ (show sx_diff s (2 ^ (b / 2)) < 2 ^ n by omega) b hb
  have h4 := sx_pc_d0 s (by omega) (b / 2) (by omega) hbit
  have h5 := sx_pc_n0 n (by omega) s hs
  have h7 := hg.2.2.2.2.2.1 (b / 2)
  have h8 : B s = 100000 * P + (av 6 (b / 2) + Q) := by rw [← hc]; unfold mFrom; omega
  omega
/-- the price of a set's best run -/
def mPr (av : Nat → Nat → Nat) (B : Nat → Nat) (s : Nat) : Nat := B s / 100000 + B s % 100000 * av 7 6 / 10
theorem mPr_le {av : Nat → Nat → Nat} {n : Nat} {L B : Nat → Nat} (hg : mG av) (hn : n ≤ 9) (hT : mT av n L B (2 ^ n)) {s : Nat} (hs : s < 2 ^ n) (h0 : ¬ s = 0) : mPr av B s ≤ 22000 := by
  obtain ⟨h1, h2⟩ := mB_two hg hn hT hs h0
  have h3 := hg.2.2.2.2.2.2 6
  have h4 : B s % 100000 * av 7 6 ≤ 2142 * 99 := Nat.mul_le_mul h2 h3
  unfold mPr
  omega
def sx_low (r : Nat) : Nat := r &&& (512 - r)
theorem sx_low0 : ∀ r, r < 512 → ∀ i, i < 9 → ¬ r &&& 2 ^ i = 0 → (∀ j, j < i → r &&& 2 ^ j = 0) → 2 ^ i = sx_low r := by decide +kernel
theorem sx_some0 : ∀ r, r < 512 → ¬ r = 0 → ¬ ∀ j, j < 9 → r &&& 2 ^ j = 0 := by decide +kernel
theorem sx_low1 : ∀ r, r < 512 → ¬ r = 0 → 1 ≤ sx_low r ∧ sx_low r ≤ r ∧ ∃ i, i < 9 ∧ sx_low r = 2 ^ i := by decide +kernel
theorem sx_below0 : ∀ i, i < 9 → ∀ u, u < 2 ^ i → u &&& 2 ^ i = 0 := by decide +kernel
theorem sx_sub_lt0 : ∀ i, i < 9 → ∀ r, r < 512 → ∀ t, t < 512 → ¬ t &&& 2 ^ i = 0 → ¬ r &&& 2 ^ i = 0 → sx_bit r i = 1 := by
  intro i hi r hr t ht h1 h2
  have h : ∀ r, r < 512 → ∀ i, i < 9 → ¬ r &&& 2 ^ i = 0 → sx_bit r i = 1 := by decide +kernel
  exact h r hr i hi h2
theorem sx_diff_bit (r t k : Nat) : (sx_diff r t).testBit k = (r.testBit k && !t.testBit k) := by
  unfold sx_diff
  rw [Nat.testBit_xor, Nat.testBit_and]
  cases r.testBit k <;> cases t.testBit k <;> rfl
theorem sx_bit_test (s k : Nat) : sx_bit s k = (s.testBit k).toNat := by
  unfold sx_bit
  rw [Nat.testBit_eq_decide_div_mod_eq]
  have h : s / 2 ^ k % 2 = 0 ∨ s / 2 ^ k % 2 = 1 := by omega
  rcases h with h | h <;> rw [h] <;> rfl
theorem sx_and_test {s i : Nat} (h : ¬ s &&& 2 ^ i = 0) : s.testBit i = true := by
  cases hb : s.testBit i with
  | true => rfl
  | false =>
    exfalso; apply h
    apply Nat.eq_of_testBit_eq
    intro j
    rw [Nat.testBit_and, Nat.testBit_two_pow, Nat.zero_testBit]
    by_cases e : i = j
    · subst e; rw [hb]; rfl
    · simp [e]
/-- to take out what has a bit in common leaves less, and fewer -/
theorem sx_diff_lt {r t i : Nat} (hr : r.testBit i = true) (ht : t.testBit i = true) : sx_diff r t < r := by
  rcases Nat.lt_or_ge (sx_diff r t) r with h | h
  · exact h
  · have e : sx_diff r t = r := Nat.le_antisymm (sx_diff_le r t) h
    have h1 := sx_diff_bit r t i
    rw [e, hr, ht] at h1
    cases h1
theorem sx_pc_bits (s : Nat) : sx_pc s = sx_sum (fun i => (s.testBit i).toNat) 9 := by
  unfold sx_pc
  have : (fun i => sx_bit s i) = fun i => (s.testBit i).toNat := funext fun i => sx_bit_test s i
  rw [this]
theorem sx_sum_mono {f g : Nat → Nat} {k : Nat} (h : ∀ i, i < k → f i ≤ g i) : sx_sum f k ≤ sx_sum g k := by
  induction k with
  | zero => exact Nat.le_refl _
  | succ k ih => unfold sx_sum; have := ih (fun i hi => h i (by omega)); have := h k (by omega); omega
theorem sx_sum_lt {f g : Nat → Nat} {k i : Nat} (h : ∀ i, i < k → f i ≤ g i) (hi : i < k) (hl : f i < g i) : sx_sum f k < sx_sum g k := by
  induction k with
  | zero => exact absurd hi (Nat.not_lt_zero _)
  | succ k ih =>
    unfold sx_sum
    by_cases e : i = k
    · subst e; have := sx_sum_mono (k := i) (fun j hj => h j (by omega)); omega
    · have := ih (fun j hj => h j (by omega)) (by omega); have := h k (by omega); omega
theorem sx_pc_sub {r t i : Nat} (hi : i < 9) (hr : r.testBit i = true) (ht : t.testBit i = true) : sx_pc (sx_diff r t) < sx_pc r := by
  rw [sx_pc_bits, sx_pc_bits]
  refine sx_sum_lt (i := i) (fun j _ => ?_) hi ?_
  · show ((sx_diff r t).testBit j).toNat ≤ (r.testBit j).toNat
    rw [sx_diff_bit]; cases r.testBit j <;> cases t.testBit j <;> decide
  · show ((sx_diff r t).testBit i).toNat < (r.testBit i).toNat
    rw [sx_diff_bit, hr, ht]; decide
/-- which sets may be the first of a split of r; what the split costs then, runs ahead of prices -/
def mOk (B M : Nat → Nat) (lg r t : Nat) : Nat := if sx_diff t r = 0 ∧ ¬ t &&& sx_low r = 0 ∧ B t % 100000 ≤ lg ∧ ¬ M (sx_diff r t) = 99 then 1 else 0
def mVf (av : Nat → Nat → Nat) (B M C : Nat → Nat) (r t : Nat) : Nat := 1048576 * (1 + M (sx_diff r t)) + (mPr av B t + C (sx_diff r t))
def mV (av : Nat → Nat → Nat) (B M C : Nat → Nat) (lg r k : Nat) : Nat := sx_mn 103809024 (mOk B M lg r) (mVf av B M C r) k
/-- k is the first of those that have the value v -/
def sx_fi (p f : Nat → Nat) (k v : Nat) : Prop := ¬ p k = 0 ∧ f k = v ∧ ∀ u, u < k → ¬ p u = 0 → v < f u
def mRow (av : Nat → Nat → Nat) (B M C : Nat → Nat) (lg r m c f k : Nat) : Prop := 1048576 * m + c = mV av B M C lg r k ∧ ((m = 99 ∧ c = 0) ∨ (1 ≤ m ∧ m ≤ sx_pc r ∧ c ≤ 22000 * m ∧ f < k ∧ sx_fi (mOk B M lg r) (mVf av B M C r) f (1048576 * m + c)))
def mVT (av : Nat → Nat → Nat) (B M C F : Nat → Nat) (lg K : Nat) : Prop := M 0 = 0 ∧ C 0 = 0 ∧ ∀ r, 1 ≤ r → r < K → mRow av B M C lg r (M r) (C r) (F r) (r + 1)
theorem sx_mn_skip {i0 : Nat} {p f : Nat → Nat} {t : Nat} (h : p t = 0 ∨ ¬ f t < sx_mn i0 p f t) : sx_mn i0 p f (t + 1) = sx_mn i0 p f t := by
  conv => lhs; unfold sx_mn
  rcases h with h | h
  · rw [if_pos h]
  · by_cases hp : p t = 0
    · rw [if_pos hp]
    · rw [if_neg hp, if_neg h]
theorem sx_mn_take {i0 : Nat} {p f : Nat → Nat} {t : Nat} (hp : ¬ p t = 0) (h : f t < sx_mn i0 p f t) : sx_mn i0 p f (t + 1) = f t := by
  conv => lhs; unfold sx_mn
  rw [if_neg hp, if_pos h]
theorem sx_mn_init {i0 : Nat} {p f : Nat → Nat} {k : Nat} (h : ∀ u, u < k → p u = 0) : sx_mn i0 p f k = i0 := by
  induction k with
  | zero => rfl
  | succ k ih => rw [sx_mn_skip (Or.inl (h k (by omega))), ih (fun u hu => h u (by omega))]
theorem mRow_skip {av : Nat → Nat → Nat} {B M C : Nat → Nat} {lg r m c f t : Nat} (h : mRow av B M C lg r m c f t) (hs : mOk B M lg r t = 0 ∨ ¬ mVf av B M C r t < 1048576 * m + c) : mRow av B M C lg r m c f (t + 1) := by
  obtain ⟨h1, h2⟩ := h
  refine ⟨?_, ?_⟩
  · rw [h1]; unfold mV; rw [sx_mn_skip]
    rcases hs with hs | hs
    · exact Or.inl hs
    · exact Or.inr (by rw [h1] at hs; exact hs)
  · rcases h2 with h2 | ⟨a1, a2, a3, a4, a5⟩
    · exact Or.inl h2
    · exact Or.inr ⟨a1, a2, a3, by omega, a5⟩
theorem mRow_take {av : Nat → Nat → Nat} {B M C : Nat → Nat} {lg r m c f t : Nat} (h : mRow av B M C lg r m c f t) (hp : ¬ mOk B M lg r t = 0) (hl : mVf av B M C r t < 1048576 * m + c) (hm : 1 + M (sx_diff r t) ≤ sx_pc r) (hc : mPr av B t + C (sx_diff r t) ≤ 22000 * (1 + M (sx_diff r t))) : mRow av B M C lg r (1 + M (sx_diff r t)) (mPr av B t + C (sx_diff r t)) t (t + 1) := by
  obtain ⟨h1, -⟩ := h
  rw [h1] at hl
  refine ⟨?_, Or.inr ⟨by omega, hm, hc, by omega, hp, rfl, fun u hu hpu => ?_⟩⟩
  · unfold mV; rw [sx_mn_take hp hl]; rfl
  · have h3 : mV av B M C lg r t ≤ mVf av B M C r u := sx_mn_lb hu hpu
    have h4 : mVf av B M C r t = 1048576 * (1 + M (sx_diff r t)) + (mPr av B t + C (sx_diff r t)) := rfl
    omega
/-- only smaller sets are asked -/
theorem mRow_congr {av : Nat → Nat → Nat} {B M C M2 C2 : Nat → Nat} {lg r m c f k : Nat} (hr : r < 512) (h0 : ¬ r = 0) (hM : ∀ j, j < r → M2 j = M j) (hC : ∀ j, j < r → C2 j = C j) (h : mRow av B M C lg r m c f k) : mRow av B M2 C2 lg r m c f k := by
  obtain ⟨hl1, hl2, i, hi9, hli⟩ := sx_low1 r hr h0
  have hrb : r.testBit i = true := sx_and_test (by rw [← hli]; unfold sx_low; intro q; have h9 : ∀ r, r < 512 → ¬ r = 0 → ¬ r &&& (r &&& (512 - r)) = 0 := by decide +kernel
                                                   exact h9 r hr h0 q)
  have hlt : ∀ t, ¬ t &&& sx_low r = 0 → sx_diff r t < r := fun t ht => sx_diff_lt hrb (sx_and_test (by rw [← hli]; exact ht))
  have e1 : ∀ t, mOk B M2 lg r t = mOk B M lg r t := fun t => by
    unfold mOk
    by_cases ht : t &&& sx_low r = 0
    · rw [if_neg (fun q => q.2.1 ht), if_neg (fun q => q.2.1 ht)]
    · rw [hM _ (hlt t ht)]
  have e2 : ∀ t, ¬ mOk B M lg r t = 0 → mVf av B M2 C2 r t = mVf av B M C r t := fun t hp => by
    have ht : ¬ t &&& sx_low r = 0 := fun q => hp (by unfold mOk; rw [if_neg (fun z => z.2.1 q)])
    unfold mVf; rw [hM _ (hlt t ht), hC _ (hlt t ht)]
  have e1' : mOk B M2 lg r = mOk B M lg r := funext e1
  obtain ⟨h1, h2⟩ := h
  refine ⟨?_, ?_⟩
  · rw [h1]; unfold mV; rw [e1']; exact sx_mn_congr (fun b _ hb => (e2 b hb).symm)
  · rcases h2 with h2 | ⟨a1, a2, a3, a4, b1, b2, b3⟩
    · exact Or.inl h2
    · exact Or.inr ⟨a1, a2, a3, a4, by rw [e1']; exact b1, by rw [e2 _ b1]; exact b2, fun u hu hp => by rw [e1'] at hp; rw [e2 u hp]; exact b3 u hu hp⟩
theorem mVT_next {av : Nat → Nat → Nat} {B M C F M2 C2 F2 : Nat → Nat} {lg r : Nat} (h1r : 1 ≤ r) (hr : r < 512) (hM : ∀ j, ¬ j = r → M2 j = M j) (hC : ∀ j, ¬ j = r → C2 j = C j) (hF : ∀ j, ¬ j = r → F2 j = F j) (h : mVT av B M C F lg r) (hr2 : mRow av B M C lg r (M2 r) (C2 r) (F2 r) (r + 1)) : mVT av B M2 C2 F2 lg (r + 1) := by
  obtain ⟨a1, a2, a3⟩ := h
  refine ⟨by rw [hM 0 (by omega)]; exact a1, by rw [hC 0 (by omega)]; exact a2, fun q h1 h2 => ?_⟩
  by_cases e : q = r
  · subst e
    exact mRow_congr hr (by omega) (fun j hj => hM j (by omega)) (fun j hj => hC j (by omega)) hr2
  · rw [hM q e, hC q e, hF q e]
    exact mRow_congr (by omega) (by omega) (fun j hj => hM j (by omega)) (fun j hj => hC j (by omega)) (a3 q h1 (by omega))
/-- the sets of a split, taken one by one from what is left -/
def mSpl (F : Nat → Nat) (all : Nat) (S : Nat → Nat) : Nat → Nat → Prop
  | 0, r => r = all
  | k + 1, r => ∃ r0, mSpl F all S k r0 ∧ ¬ r0 = 0 ∧ S k = F r0 ∧ r = sx_diff r0 (S k)
theorem mSpl_up {F : Nat → Nat} {all : Nat} {S : Nat → Nat} {i v : Nat} : ∀ {k r : Nat}, k ≤ i → mSpl F all S k r → mSpl F all (va_up S i v) k r := by
  intro k
  induction k with
  | zero => intro r _ h; exact h
  | succ k ih =>
    intro r hk h
    obtain ⟨r0, h1, h2, h3, h4⟩ := h
    have e : va_up S i v k = S k := by unfold va_up; rw [if_neg (by omega)]
    exact ⟨r0, ih (by omega) h1, h2, by rw [e]; exact h3, by rw [e]; exact h4⟩
theorem sx_sum_up {f : Nat → Nat} {i v : Nat} : ∀ {k : Nat}, k ≤ i → sx_sum (va_up f i v) k = sx_sum f k := by
  intro k
  induction k with
  | zero => intro _; rfl
  | succ k ih => intro h; unfold sx_sum; rw [ih (by omega)]; unfold va_up; rw [if_neg (by omega)]
/-- what a row of the table that has a way says of its first set -/
theorem mVT_at {av : Nat → Nat → Nat} {B M C F : Nat → Nat} {lg K r : Nat} (hK : K ≤ 512) (h : mVT av B M C F lg K) (hpr : ∀ t, ¬ t = 0 → t < K → mPr av B t ≤ 22000) (h1 : 1 ≤ r) (h2 : r < K) (h3 : ¬ M r = 99) : 1 ≤ M r ∧ M r ≤ 9 ∧ C r ≤ 22000 * M r ∧ F r ≤ r ∧ ¬ F r = 0 ∧ sx_diff r (F r) < r ∧ M r = 1 + M (sx_diff r (F r)) ∧ C r = mPr av B (F r) + C (sx_diff r (F r)) := by
  obtain ⟨a1, a2, a3⟩ := h
  obtain ⟨-, h5⟩ := a3 r h1 h2
  rcases h5 with h5 | ⟨b1, b2, b3, b4, b5, b6, -⟩
  · exact absurd h5.1 h3
  · have hpc : sx_pc r ≤ 9 := by have := sx_pc_n0 9 (by decide) r (show r < 2 ^ 9 by omega); exact this
    obtain ⟨hl1, hl2, i, hi9, hli⟩ := sx_low1 r (by omega) (by omega)
    have hrb : r.testBit i = true := sx_and_test (by rw [← hli]; unfold sx_low; intro q; have h9 : ∀ r, r < 512 → ¬ r = 0 → ¬ r &&& (r &&& (512 - r)) = 0 := by decide +kernel
                                                     exact h9 r (by omega) (by omega) q)
    have hok : sx_diff (F r) r = 0 ∧ ¬ F r &&& sx_low r = 0 ∧ B (F r) % 100000 ≤ lg ∧ ¬ M (sx_diff r (F r)) = 99 := by
      rcases Classical.em (sx_diff (F r) r = 0 ∧ ¬ F r &&& sx_low r = 0 ∧ B (F r) % 100000 ≤ lg ∧ ¬ M (sx_diff r (F r)) = 99) with q | q
      · exact q
      · exact absurd (by unfold mOk; rw [if_neg q]) b5
    have hd : sx_diff r (F r) < r := sx_diff_lt hrb (sx_and_test (by rw [← hli]; exact hok.2.1))
    have hF0 : ¬ F r = 0 := fun q => hok.2.1 (by rw [q]; exact Nat.zero_and _)
    have hcd : C (sx_diff r (F r)) < 1048576 - 22000 * 9 ∧ M (sx_diff r (F r)) ≤ 9 := by
      by_cases hz : sx_diff r (F r) = 0
      · rw [hz, a1, a2]; omega
      · obtain ⟨-, h6⟩ := a3 _ (by omega) (show sx_diff r (F r) < K by omega)
        rcases h6 with h6 | ⟨c1, c2, c3, -⟩
        · exact absurd h6.1 hok.2.2.2
        · have := sx_pc_n0 9 (by decide) (sx_diff r (F r)) (show _ < 2 ^ 9 by omega); omega
    have hv : 1048576 * (1 + M (sx_diff r (F r))) + (mPr av B (F r) + C (sx_diff r (F r))) = 1048576 * M r + C r := b6
    have hp2 := hpr (F r) hF0 (by omega)
    refine ⟨b1, by omega, b3, by omega, hF0, hd, ?_, ?_⟩ <;> omega
theorem mVT_bd0 {av : Nat → Nat → Nat} {B M C F : Nat → Nat} {lg K j : Nat} (h : mVT av B M C F lg K) (hj : j < K) (hK : K ≤ 512) : M j ≤ 99 ∧ C j ≤ 198000 := by
  by_cases e : j = 0
  · subst e; rw [h.1, h.2.1]; omega
  · have hp := sx_pc_n0 9 (by decide) j (show j < 2 ^ 9 by omega)
    obtain ⟨-, q | ⟨q1, q2, q3, -⟩⟩ := h.2.2 j (by omega) hj
    · omega
    · omega
theorem mVT_bd1 {av : Nat → Nat → Nat} {B M C F : Nat → Nat} {lg K j : Nat} (h : mVT av B M C F lg K) (hj : j < K) (hK : K ≤ 512) (h9 : ¬ M j = 99) : M j ≤ sx_pc j ∧ C j ≤ 22000 * M j := by
  by_cases e : j = 0
  · subst e; rw [h.1, h.2.1]; omega
  · obtain ⟨-, q | ⟨q1, q2, q3, -⟩⟩ := h.2.2 j (by omega) hj
    · exact absurd q.1 h9
    · exact ⟨q2, q3⟩
theorem mVT_bd {av : Nat → Nat → Nat} {B M C F M1 C1 : Nat → Nat} {lg r j : Nat} (h : mVT av B M C F lg r) (hMo : ∀ j, ¬ j = r → M1 j = M j) (hCo : ∀ j, ¬ j = r → C1 j = C j) (hm : M1 r ≤ 99 ∧ C1 r ≤ 198000) (hj : j ≤ r) (hr : r ≤ 512) : M1 j ≤ 99 ∧ C1 j ≤ 198000 := by
  by_cases e : j = r
  · subst e; exact hm
  · rw [hMo j e, hCo j e]; exact mVT_bd0 h (by omega) hr
theorem mSub {r t : Nat} (hr : r < 512) (h0 : ¬ r = 0) (ht : ¬ t &&& sx_low r = 0) : sx_diff r t < r ∧ sx_pc (sx_diff r t) < sx_pc r := by
  obtain ⟨hl1, hl2, i, hi9, hli⟩ := sx_low1 r hr h0
  have hrb : r.testBit i = true := sx_and_test (by rw [← hli]; unfold sx_low; intro q; have h9 : ∀ r, r < 512 → ¬ r = 0 → ¬ r &&& (r &&& (512 - r)) = 0 := by decide +kernel
                                                   exact h9 r hr h0 q)
  have htb := sx_and_test (show ¬ t &&& 2 ^ i = 0 by rw [← hli]; exact ht)
  exact ⟨sx_diff_lt hrb htb, sx_pc_sub hi9 hrb htb⟩
theorem mRow_0 {av : Nat → Nat → Nat} {B M C : Nat → Nat} {lg r m c f : Nat} (hr : r < 512) (h0 : ¬ r = 0) (hm : m = 99) (hc : c = 0) : mRow av B M C lg r m c f (sx_low r) := by
  obtain ⟨hl1, hl2, i, hi9, hli⟩ := sx_low1 r hr h0
  refine ⟨?_, Or.inl ⟨hm, hc⟩⟩
  rw [hm, hc]
  unfold mV
  rw [sx_mn_init]
  intro u hu
  unfold mOk
  rw [if_neg (fun z => z.2.1 (by rw [hli]; exact sx_below0 i hi9 u (by omega)))]
theorem i_X8_split_8 : ∀ w ∈ u_ws RX8 TX8 24, w ∈ wsX8_split := by decide +kernel
theorem m_X8_split_f68 : Cond.fieldLink RX8 68 (TX8 9).1 (TX8 9).2.1 (TX8 9).2.2.1 ∈ wsX8_split := by decide +kernel
theorem m_X8_split_f71 : Cond.fieldLink RX8 71 (TX8 0).1 (TX8 0).2.1 (TX8 0).2.2.1 ∈ wsX8_split := by decide +kernel
theorem m_X8_split_f53 : Cond.fieldLink RX8 53 (TX8 19).1 (TX8 19).2.1 (TX8 19).2.2.1 ∈ wsX8_split := by decide +kernel
theorem m_X8_split_f56 : Cond.fieldLink RX8 56 (TX8 20).1 (TX8 20).2.1 (TX8 20).2.2.1 ∈ wsX8_split := by decide +kernel
theorem m_X8_split_f38 : Cond.fieldLink RX8 38 (TX8 11).1 (TX8 11).2.1 (TX8 11).2.2.1 ∈ wsX8_split := by decide +kernel
theorem m_X8_split_c107 : Cond.constant RX8 107 (100000) ∈ wsX8_split := by decide +kernel
theorem m_X8_split_f31 : Cond.fieldLink RX8 31 (TX8 8).1 (TX8 8).2.1 (TX8 8).2.2.1 ∈ wsX8_split := by decide +kernel
theorem m_X8_split_f59 : Cond.fieldLink RX8 59 (TX8 21).1 (TX8 21).2.1 (TX8 21).2.2.1 ∈ wsX8_split := by decide +kernel
theorem m_X8_split_f74 : Cond.fieldLink RX8 74 (TX8 13).1 (TX8 13).2.1 (TX8 13).2.2.1 ∈ wsX8_split := by decide +kernel
theorem m_X8_split_f131 : Cond.fieldLink RX8 131 (TX8 14).1 (TX8 14).2.1 (TX8 14).2.2.1 ∈ wsX8_split := by decide +kernel
theorem m_X8_split_f134 : Cond.fieldLink RX8 134 (TX8 15).1 (TX8 15).2.1 (TX8 15).2.2.1 ∈ wsX8_split := by decide +kernel
theorem m_X8_split_f44 : Cond.fieldLink RX8 44 (TX8 16).1 (TX8 16).2.1 (TX8 16).2.2.1 ∈ wsX8_split := by decide +kernel
theorem m_X8_split_f47 : Cond.fieldLink RX8 47 (TX8 17).1 (TX8 17).2.1 (TX8 17).2.2.1 ∈ wsX8_split := by decide +kernel
theorem m_X8_split_f50 : Cond.fieldLink RX8 50 (TX8 18).1 (TX8 18).2.1 (TX8 18).2.2.1 ∈ wsX8_split := by decide +kernel
set_option maxHeartbeats 4000000 in
set_option maxRecDepth 100000 in
theorem c_X8_split (l : Launch) (X : sx_X) (bd : Nat → Nat) (sc : Nat → Int32) (av : Nat → Nat → Nat) (n : Nat) (hn : n ≤ 9) (h0 : sc 0 = nI n) (hg : mG av) (hL0 : ∀ j, av 8 j ≤ 2000000000) (hB0 : ∀ j, av 9 j ≤ 2000000000) (lg : Nat) (hlg : lg ≤ 9999) (h1 : sc 1 = nI lg) (hF0 : ∀ j, av 16 j < 512) : sx_Mi l yX8_split wsX8_split { frames := 4, cells := 0, slots := 0, locals := 95 } X [.ref (bd 0)] (mw X bd sc av) (fun r w => ∃ L B M C F : Nat → Nat, (∀ j, L j ≤ 2000000000) ∧ (∀ j, B j ≤ 2000000000) ∧ mT av n L B (2 ^ n) ∧ mVT av B M C F lg (2 ^ n) ∧ (∀ j, F j < 512) ∧ ((M (2 ^ n - 1) = 99 ∧ r = -1 ∧ w = mw X bd (va_up sc 2 (nI 0)) (va_up (va_up (va_up (va_up (va_up av 8 L) 9 B) 14 M) 15 C) 16 F)) ∨ (¬ M (2 ^ n - 1) = 99 ∧ r = nI (M (2 ^ n - 1)) ∧ ∃ S Z Q : Nat → Nat, w = mw X bd (va_up (va_up (va_up (va_up sc 2 (nI 0)) 3 (nI 1)) 4 (nI (M (2 ^ n - 1)))) 5 (nI (C (2 ^ n - 1)))) (va_up (va_up (va_up (va_up (va_up (va_up (va_up (va_up av 8 L) 9 B) 11 S) 12 Z) 13 Q) 14 M) 15 C) 16 F) ∧ mSpl F (2 ^ n - 1) S (M (2 ^ n - 1)) 0 ∧ (∀ j, j < M (2 ^ n - 1) → Z j = B (S j) % 100000 ∧ Q j = mPr av B (S j)) ∧ sx_sum Q (M (2 ^ n - 1)) = C (2 ^ n - 1)))) 0 0 := by
  refine sx_entI (own := RX8) (nL := 7) (by decide +kernel) rfl rfl (Nat.le_of_ble_eq_true rfl) ?_
  intro G hG hN hret
  show sx_W l X G 0 0 0 [(0, .ref (bd 0))] [] (mw X bd sc av)
  have hp9 := sx_p9 hn
  have hp1 : 1 ≤ 2 ^ n := Nat.one_le_two_pow
  refine sx_aload_n (pc := 0) hG dX8_split_0 rfl 0 rfl ?_
  refine sx_iconst (pc := 1) (v := nI 0) hG dX8_split_1 (by decide +kernel) ?_
  refine sx_put (pc := 2) (v := .int (nI 0)) (ci := 8) (w2 := (mw X bd (va_up sc 2 (nI 0)) av)) hG i_X8_split_8 tyX8 tyX8_ok nmX8 9 m_X8_split_f68 dX8_split_2 rfl (by decide) 0 rfl rfl rfl rfl (Nat.le_of_ble_eq_true rfl) rfl ?_
  refine sx_aload_n (pc := 5) hG dX8_split_5 rfl 0 rfl ?_
  refine sx_callVvw (pc := 6) (n9 := 0) (As := []) (st := []) (b := (bd 0)) (ci := 8) hG (c_X8_work l X bd (va_up sc 2 (nI 0)) av n hn h0 hg hL0 hB0) gX8_split_X8_work rfl (by decide +kernel) rfl 0 rfl rfl rfl dX8_split_6 ⟨rfl, rfl⟩ ⟨Nat.le_of_ble_eq_true rfl, Nat.le_of_ble_eq_true rfl⟩ (Nat.le_of_ble_eq_true rfl) ⟨Nat.le_of_ble_eq_true rfl, Nat.le_of_ble_eq_true rfl⟩ (fun w1 hp => ?_)
  obtain ⟨L, B, hw9, hT, hLb, hBb⟩ := hp
  refine sx_weq hw9 ?_
  refine sx_iconst (pc := 9) (v := nI 1) hG dX8_split_9 (by decide +kernel) ?_
  refine sx_aload_n (pc := 10) hG dX8_split_10 rfl 0 rfl ?_
  refine sx_get (pc := 11) (v2 := .int (nI n)) (ci := 8) hG i_X8_split_8 0 m_X8_split_f71 dX8_split_11 rfl (by decide) 0 rfl rfl (congrArg Value.int h0) ?_
  refine sx_ishl (pc := 14) (v := (nI (2 ^ n))) hG dX8_split_14 (sx_one (by omega)) ?_
  refine sx_iconst (pc := 15) (v := nI 1) hG dX8_split_15 (by decide +kernel) ?_
  refine sx_isub (pc := 16) (v := (nI ((2 ^ n) - 1))) hG dX8_split_16 (pk_sub (by omega)) ?_
  refine sx_istore_n (pc := 17) (lv2 := [(0, .ref (bd 0)), (1, .int (nI ((2 ^ n) - 1)))]) hG [1, 0] dX8_split_17 rfl hN (by decide) rfl ?_
  refine sx_aload_n (pc := 18) hG dX8_split_18 rfl 0 rfl ?_
  refine sx_get (pc := 19) (v2 := .ref (bd 14)) (ci := 8) hG i_X8_split_8 19 m_X8_split_f53 dX8_split_19 rfl (by decide) 0 rfl rfl rfl ?_
  refine sx_iconst (pc := 22) (v := nI 0) hG dX8_split_22 (by decide +kernel) ?_
  refine sx_iconst (pc := 23) (v := nI 0) hG dX8_split_23 (by decide +kernel) ?_
  refine sx_iastN (pc := 24) (w2 := (mw X bd (va_up sc 2 (nI 0)) (va_up (va_up (va_up av 8 L) 9 B) 14 (va_up (av 14) 0 0)))) hG 14 dX8_split_24 rfl (by decide) (by omega) rfl ?_
  refine sx_aload_n (pc := 25) hG dX8_split_25 rfl 0 rfl ?_
  refine sx_get (pc := 26) (v2 := .ref (bd 15)) (ci := 8) hG i_X8_split_8 20 m_X8_split_f56 dX8_split_26 rfl (by decide) 0 rfl rfl rfl ?_
  refine sx_iconst (pc := 29) (v := nI 0) hG dX8_split_29 (by decide +kernel) ?_
  refine sx_iconst (pc := 30) (v := nI 0) hG dX8_split_30 (by decide +kernel) ?_
  refine sx_iastN (pc := 31) (w2 := (mw X bd (va_up sc 2 (nI 0)) (va_up (va_up (va_up (va_up av 8 L) 9 B) 14 (va_up (av 14) 0 0)) 15 (va_up (av 15) 0 0)))) hG 15 dX8_split_31 rfl (by decide) (by omega) rfl ?_
  refine sx_iconst (pc := 32) (v := nI 1) hG dX8_split_32 (by decide +kernel) ?_
  refine sx_istore_n (pc := 33) (lv2 := [(0, .ref (bd 0)), (1, .int (nI ((2 ^ n) - 1))), (2, .int (nI 1))]) hG [1, 2, 0] dX8_split_33 rfl hN (by decide) rfl ?_
  have loop_r : ∀ (fuel : Nat), ∀ (r : Nat) (M C F : Nat → Nat), (1 ≤ r) → (r ≤ 2 ^ n) → (mVT av B M C F lg r) → (∀ j, F j < 512) → 2 ^ n - r < fuel → sx_W l X G 0 0 34 [(0, .ref (bd 0)), (1, .int (nI (2 ^ n - 1))), (2, .int (nI r))] [] (mw X bd (va_up sc 2 (nI 0)) (va_up (va_up (va_up (va_up (va_up av 8 L) 9 B) 14 M) 15 C) 16 F)) := by
    intro fuel
    induction fuel with
    | zero => intro r M C F hr1 hr hVT hF5 hm; exact absurd hm (Nat.not_lt_zero _)
    | succ fuel ih_r =>
      intro r M C F hr1 hr hVT hF5 hm_r
      have loop_t : ∀ (fuel : Nat), ∀ (t : Nat) (M1 C1 F1 : Nat → Nat), (r < 2 ^ n) → (t ≤ r + 1) → (mRow av B M C lg r (M1 r) (C1 r) (F1 r) t) → (∀ j, ¬ j = r → M1 j = M j) → (∀ j, ¬ j = r → C1 j = C j) → (∀ j, ¬ j = r → F1 j = F j) → (∀ j, F1 j < 512) → r + 1 - t < fuel → sx_W l X G 0 0 72 [(0, .ref (bd 0)), (1, .int (nI (2 ^ n - 1))), (2, .int (nI r)), (3, .int (nI (sx_low r))), (4, .int (nI t))] [] (mw X bd (va_up sc 2 (nI 0)) (va_up (va_up (va_up (va_up (va_up av 8 L) 9 B) 14 M1) 15 C1) 16 F1)) := by
        intro fuel
        induction fuel with
        | zero => intro t M1 C1 F1 hrn ht hrow hMo hCo hFo hF6 hm; exact absurd hm (Nat.not_lt_zero _)
        | succ fuel ih_t =>
          intro t M1 C1 F1 hrn ht hrow hMo hCo hFo hF6 hm_t
          have hdle := sx_diff_le t r
          have hdle2 := sx_diff_le r t
          have hlw := sx_low1 r (by omega) (by omega)
          have hale := Nat.and_le_left (n := t) (m := sx_low r)
          have hB9 := hBb t
          have hpc := sx_pc_n0 n (by omega) r hrn
          have hm100 : M1 r ≤ 99 ∧ C1 r ≤ 198000 := by obtain ⟨-, q | ⟨q1, q2, q3, -⟩⟩ := hrow; exact ⟨by omega, by omega⟩; exact ⟨by omega, by omega⟩
          have hMd99 : M1 (sx_diff r t) ≤ 99 ∧ C1 (sx_diff r t) ≤ 198000 := mVT_bd hVT hMo hCo hm100 (by omega) (by omega)
          have hsub : ¬ t &&& sx_low r = 0 → sx_diff r t < r ∧ sx_pc (sx_diff r t) < sx_pc r := mSub (by omega) (by omega)
          have hprl : ¬ t = 0 → t < 2 ^ n → mPr av B t ≤ 22000 := fun q1 q2 => mPr_le hg hn hT q2 q1
          refine sx_iload (pc := 72) hG dX8_split_72 4 rfl ?_
          refine sx_iload_n (pc := 74) hG dX8_split_74 rfl 2 rfl ?_
          refine sx_icmp_gt (pc := 75) (tgt := 231) (B := r < t) hG dX8_split_75 (by decide) (nI_ltI (by omega) (by omega)) (fun c75 => ?_) (fun c75 => ?_)
          · skip
            refine sx_iinc (pc := 231) (v := nI (r + 1)) (lv2 := [(0, .ref (bd 0)), (1, .int (nI (2 ^ n - 1))), (2, .int (nI (r + 1))), (3, .int (nI (sx_low r))), (4, .int (nI t))]) hG [1, 2, 0, 3, 4] dX8_split_231 2 rfl (sx_inc r) hN (by decide) rfl ?_
            refine sx_goto (pc := 234) (tgt := 34) hG dX8_split_234 (by decide) ?_
            refine sx_lsub [0, 1, 2] rfl ?_
            refine ih_r (r + 1) M1 C1 F1 (by omega) (by omega) (mVT_next hr1 (by omega) hMo hCo hFo hVT (by rw [show r + 1 = t by omega]; exact hrow)) hF6 (by omega)
          · skip
            refine sx_iload (pc := 78) hG dX8_split_78 4 rfl ?_
            refine sx_iload_n (pc := 80) hG dX8_split_80 rfl 2 rfl ?_
            refine sx_iconst (pc := 81) (v := (-1)) hG dX8_split_81 (by decide +kernel) ?_
            refine sx_ixor (pc := 82) (v := (nI r ^^^ (-1))) hG dX8_split_82 rfl ?_
            refine sx_iand (pc := 83) (v := (nI (sx_diff t r))) hG dX8_split_83 (sx_andnot (by omega) (by omega)) ?_
            refine sx_if_ne (pc := 84) (tgt := 225) (B := (sx_diff t r) = 0) hG dX8_split_84 (by decide) (sx_eq0 (by omega)) (fun c84 => ?_) (fun c84 => ?_)
            · skip
              refine sx_iinc (pc := 225) (v := nI (t + 1)) (lv2 := [(0, .ref (bd 0)), (1, .int (nI (2 ^ n - 1))), (2, .int (nI r)), (3, .int (nI (sx_low r))), (4, .int (nI (t + 1)))]) hG [1, 2, 3, 4, 0] dX8_split_225 4 rfl (sx_inc t) hN (by decide) rfl ?_
              refine sx_goto (pc := 228) (tgt := 72) hG dX8_split_228 (by decide) ?_
              refine ih_t (t + 1) _ _ _ hrn (by omega) (mRow_skip hrow (Or.inl (by unfold mOk; rw [if_neg (fun z => c84 z.1)]))) hMo hCo hFo hF6 (by omega)
            · skip
              refine sx_iload (pc := 87) hG dX8_split_87 4 rfl ?_
              refine sx_iload_n (pc := 89) hG dX8_split_89 rfl 3 rfl ?_
              refine sx_iand (pc := 90) (v := (nI (t &&& (sx_low r)))) hG dX8_split_90 (sx_and (by omega) (by omega)) ?_
              refine sx_if_eq (pc := 91) (tgt := 225) (B := (t &&& (sx_low r)) = 0) hG dX8_split_91 (by decide) (sx_eq0 (by omega)) (fun c91 => ?_) (fun c91 => ?_)
              · skip
                refine sx_iinc (pc := 225) (v := nI (t + 1)) (lv2 := [(0, .ref (bd 0)), (1, .int (nI (2 ^ n - 1))), (2, .int (nI r)), (3, .int (nI (sx_low r))), (4, .int (nI (t + 1)))]) hG [1, 2, 3, 4, 0] dX8_split_225 4 rfl (sx_inc t) hN (by decide) rfl ?_
                refine sx_goto (pc := 228) (tgt := 72) hG dX8_split_228 (by decide) ?_
                refine ih_t (t + 1) _ _ _ hrn (by omega) (mRow_skip hrow (Or.inl (by unfold mOk; rw [if_neg (fun z => z.2.1 c91)]))) hMo hCo hFo hF6 (by omega)
              · skip
                refine sx_aload_n (pc := 94) hG dX8_split_94 rfl 0 rfl ?_
                refine sx_get (pc := 95) (v2 := .ref (bd 9)) (ci := 8) hG i_X8_split_8 11 m_X8_split_f38 dX8_split_95 rfl (by decide) 0 rfl rfl rfl ?_
                refine sx_iload (pc := 98) hG dX8_split_98 4 rfl ?_
                refine sx_iald (pc := 100) (v := nI (B t)) hG 9 dX8_split_100 rfl (by decide) (by omega) rfl ?_
                refine sx_ldc (pc := 101) (v2 := nI 100000) hG m_X8_split_c107 dX8_split_101 (by decide +kernel) ?_
                refine sx_irem (pc := 103) (v := (nI ((B t) % 100000))) hG dX8_split_103 (nI_ne0 (by decide) (by decide)) (pk_rem (by omega) (by decide) (by decide)) ?_
                refine sx_aload_n (pc := 104) hG dX8_split_104 rfl 0 rfl ?_
                refine sx_get (pc := 105) (v2 := .int (nI lg)) (ci := 8) hG i_X8_split_8 8 m_X8_split_f31 dX8_split_105 rfl (by decide) 0 rfl rfl (congrArg Value.int h1) ?_
                refine sx_icmp_gt (pc := 108) (tgt := 225) (B := lg < ((B t) % 100000)) hG dX8_split_108 (by decide) (nI_ltI (by omega) (by omega)) (fun c108 => ?_) (fun c108 => ?_)
                · skip
                  refine sx_iinc (pc := 225) (v := nI (t + 1)) (lv2 := [(0, .ref (bd 0)), (1, .int (nI (2 ^ n - 1))), (2, .int (nI r)), (3, .int (nI (sx_low r))), (4, .int (nI (t + 1)))]) hG [1, 2, 3, 4, 0] dX8_split_225 4 rfl (sx_inc t) hN (by decide) rfl ?_
                  refine sx_goto (pc := 228) (tgt := 72) hG dX8_split_228 (by decide) ?_
                  refine ih_t (t + 1) _ _ _ hrn (by omega) (mRow_skip hrow (Or.inl (by unfold mOk; rw [if_neg (fun z => absurd z.2.2.1 (by omega))]))) hMo hCo hFo hF6 (by omega)
                · skip
                  refine sx_aload_n (pc := 111) hG dX8_split_111 rfl 0 rfl ?_
                  refine sx_get (pc := 112) (v2 := .ref (bd 14)) (ci := 8) hG i_X8_split_8 19 m_X8_split_f53 dX8_split_112 rfl (by decide) 0 rfl rfl rfl ?_
                  refine sx_iload_n (pc := 115) hG dX8_split_115 rfl 2 rfl ?_
                  refine sx_iload (pc := 116) hG dX8_split_116 4 rfl ?_
                  refine sx_iconst (pc := 118) (v := (-1)) hG dX8_split_118 (by decide +kernel) ?_
                  refine sx_ixor (pc := 119) (v := (nI t ^^^ (-1))) hG dX8_split_119 rfl ?_
                  refine sx_iand (pc := 120) (v := (nI (sx_diff r t))) hG dX8_split_120 (sx_andnot (by omega) (by omega)) ?_
                  refine sx_iald (pc := 121) (v := nI (M1 (sx_diff r t))) hG 14 dX8_split_121 rfl (by decide) (by omega) rfl ?_
                  refine sx_bipush (pc := 122) (v := nI 99) hG dX8_split_122 (by decide +kernel) ?_
                  refine sx_icmp_ne (pc := 124) (tgt := 130) (B := (M1 (sx_diff r t)) = 99) hG dX8_split_124 (by decide) (nI_eq (by omega) (by omega)) (fun c124 => ?_) (fun c124 => ?_)
                  · skip
                    refine sx_iconst (pc := 130) (v := nI 1) hG dX8_split_130 (by decide +kernel) ?_
                    refine sx_aload_n (pc := 131) hG dX8_split_131 rfl 0 rfl ?_
                    refine sx_get (pc := 132) (v2 := .ref (bd 14)) (ci := 8) hG i_X8_split_8 19 m_X8_split_f53 dX8_split_132 rfl (by decide) 0 rfl rfl rfl ?_
                    refine sx_iload_n (pc := 135) hG dX8_split_135 rfl 2 rfl ?_
                    refine sx_iload (pc := 136) hG dX8_split_136 4 rfl ?_
                    refine sx_iconst (pc := 138) (v := (-1)) hG dX8_split_138 (by decide +kernel) ?_
                    refine sx_ixor (pc := 139) (v := (nI t ^^^ (-1))) hG dX8_split_139 rfl ?_
                    refine sx_iand (pc := 140) (v := (nI (sx_diff r t))) hG dX8_split_140 (sx_andnot (by omega) (by omega)) ?_
                    refine sx_iald (pc := 141) (v := nI (M1 (sx_diff r t))) hG 14 dX8_split_141 rfl (by decide) (by omega) rfl ?_
                    refine sx_iadd (pc := 142) (v := (nI (1 + (M1 (sx_diff r t))))) hG dX8_split_142 (nI_add 1 (M1 (sx_diff r t))) ?_
                    refine sx_istore (pc := 143) (lv2 := [(0, .ref (bd 0)), (1, .int (nI (2 ^ n - 1))), (2, .int (nI r)), (3, .int (nI (sx_low r))), (4, .int (nI t)), (5, .int (nI (1 + (M1 (sx_diff r t)))))]) hG [1, 2, 3, 4, 5, 0] dX8_split_143 hN (by decide) rfl ?_
                    obtain ⟨hsub1, hsub2⟩ := hsub c91
                    have hMd := hMo (sx_diff r t) (by omega)
                    have hCd := hCo (sx_diff r t) (by omega)
                    have hvf : mVf av B M C r t = 1048576 * (1 + M1 (sx_diff r t)) + (mPr av B t + C1 (sx_diff r t)) := by unfold mVf; rw [hMd, hCd]
                    have hprl2 := hprl (fun q => c91 (by rw [q]; exact Nat.zero_and _)) (by omega)
                    have hbd := mVT_bd1 hVT (show sx_diff r t < r by omega) (by omega) (by rw [← hMd]; exact c124)
                    have hprd : mPr av B t = B t / 100000 + B t % 100000 * av 7 6 / 10 := rfl
                    refine sx_aload_n (pc := 145) hG dX8_split_145 rfl 0 rfl ?_
                    refine sx_iload (pc := 146) hG dX8_split_146 4 rfl ?_
                    refine sx_callViw (pc := 148) (n9 := 1) (As := [.int (nI t)]) (st := []) (b := (bd 0)) (ci := 8) hG (c_X8_priceOf l X bd (va_up sc 2 (nI 0)) (va_up (va_up (va_up (va_up (va_up av 8 L) 9 B) 14 M1) 15 C1) 16 F1) t (by omega) hg hBb) gX8_split_X8_priceOf rfl (by decide +kernel) rfl 0 rfl rfl rfl dX8_split_148 ⟨rfl, rfl⟩ ⟨Nat.le_of_ble_eq_true rfl, Nat.le_of_ble_eq_true rfl⟩ (Nat.le_of_ble_eq_true rfl) ⟨Nat.le_of_ble_eq_true rfl, Nat.le_of_ble_eq_true rfl⟩ (fun r w1 hp => ?_)
                    obtain ⟨hr9, hw9⟩ := hp
                    have hr9 : r = (nI (B t / 100000 + B t % 100000 * av 7 6 / 10)) := hr9
                    subst hr9
                    refine sx_weq hw9 ?_
                    refine sx_aload_n (pc := 151) hG dX8_split_151 rfl 0 rfl ?_
                    refine sx_get (pc := 152) (v2 := .ref (bd 15)) (ci := 8) hG i_X8_split_8 20 m_X8_split_f56 dX8_split_152 rfl (by decide) 0 rfl rfl rfl ?_
                    refine sx_iload_n (pc := 155) hG dX8_split_155 rfl 2 rfl ?_
                    refine sx_iload (pc := 156) hG dX8_split_156 4 rfl ?_
                    refine sx_iconst (pc := 158) (v := (-1)) hG dX8_split_158 (by decide +kernel) ?_
                    refine sx_ixor (pc := 159) (v := (nI t ^^^ (-1))) hG dX8_split_159 rfl ?_
                    refine sx_iand (pc := 160) (v := (nI (sx_diff r t))) hG dX8_split_160 (sx_andnot (by omega) (by omega)) ?_
                    refine sx_iald (pc := 161) (v := nI (C1 (sx_diff r t))) hG 15 dX8_split_161 rfl (by decide) (by omega) rfl ?_
                    refine sx_iadd (pc := 162) (v := (nI (B t / 100000 + B t % 100000 * av 7 6 / 10 + (C1 (sx_diff r t))))) hG dX8_split_162 (nI_add (B t / 100000 + B t % 100000 * av 7 6 / 10) (C1 (sx_diff r t))) ?_
                    refine sx_istore (pc := 163) (lv2 := [(0, .ref (bd 0)), (1, .int (nI (2 ^ n - 1))), (2, .int (nI r)), (3, .int (nI (sx_low r))), (4, .int (nI t)), (5, .int (nI (1 + (M1 (sx_diff r t))))), (6, .int (nI (B t / 100000 + B t % 100000 * av 7 6 / 10 + (C1 (sx_diff r t)))))]) hG [1, 2, 3, 4, 5, 6, 0] dX8_split_163 hN (by decide) rfl ?_
                    refine sx_iload (pc := 165) hG dX8_split_165 5 rfl ?_
                    refine sx_aload_n (pc := 167) hG dX8_split_167 rfl 0 rfl ?_
                    refine sx_get (pc := 168) (v2 := .ref (bd 14)) (ci := 8) hG i_X8_split_8 19 m_X8_split_f53 dX8_split_168 rfl (by decide) 0 rfl rfl rfl ?_
                    refine sx_iload_n (pc := 171) hG dX8_split_171 rfl 2 rfl ?_
                    refine sx_iald (pc := 172) (v := nI (M1 r)) hG 14 dX8_split_172 rfl (by decide) (by omega) rfl ?_
                    refine sx_icmp_gt (pc := 173) (tgt := 225) (B := (M1 r) < (1 + (M1 (sx_diff r t)))) hG dX8_split_173 (by decide) (nI_ltI (by omega) (by omega)) (fun c173 => ?_) (fun c173 => ?_)
                    · skip
                      refine sx_iinc (pc := 225) (v := nI (t + 1)) (lv2 := [(0, .ref (bd 0)), (1, .int (nI (2 ^ n - 1))), (2, .int (nI r)), (3, .int (nI (sx_low r))), (4, .int (nI (t + 1))), (5, .int (nI (1 + (M1 (sx_diff r t))))), (6, .int (nI (B t / 100000 + B t % 100000 * av 7 6 / 10 + (C1 (sx_diff r t)))))]) hG [1, 2, 3, 4, 0, 5, 6] dX8_split_225 4 rfl (sx_inc t) hN (by decide) rfl ?_
                      refine sx_goto (pc := 228) (tgt := 72) hG dX8_split_228 (by decide) ?_
                      refine sx_lsub [0, 1, 2, 3, 4] rfl ?_
                      refine ih_t (t + 1) _ _ _ hrn (by omega) (mRow_skip hrow (Or.inr (by rw [hvf]; omega))) hMo hCo hFo hF6 (by omega)
                    · skip
                      refine sx_iload (pc := 176) hG dX8_split_176 5 rfl ?_
                      refine sx_aload_n (pc := 178) hG dX8_split_178 rfl 0 rfl ?_
                      refine sx_get (pc := 179) (v2 := .ref (bd 14)) (ci := 8) hG i_X8_split_8 19 m_X8_split_f53 dX8_split_179 rfl (by decide) 0 rfl rfl rfl ?_
                      refine sx_iload_n (pc := 182) hG dX8_split_182 rfl 2 rfl ?_
                      refine sx_iald (pc := 183) (v := nI (M1 r)) hG 14 dX8_split_183 rfl (by decide) (by omega) rfl ?_
                      refine sx_icmp_ne (pc := 184) (tgt := 201) (B := (1 + (M1 (sx_diff r t))) = (M1 r)) hG dX8_split_184 (by decide) (nI_eq (by omega) (by omega)) (fun c184 => ?_) (fun c184 => ?_)
                      · skip
                        refine sx_aload_n (pc := 201) hG dX8_split_201 rfl 0 rfl ?_
                        refine sx_get (pc := 202) (v2 := .ref (bd 14)) (ci := 8) hG i_X8_split_8 19 m_X8_split_f53 dX8_split_202 rfl (by decide) 0 rfl rfl rfl ?_
                        refine sx_iload_n (pc := 205) hG dX8_split_205 rfl 2 rfl ?_
                        refine sx_iload (pc := 206) hG dX8_split_206 5 rfl ?_
                        refine sx_iastN (pc := 208) (w2 := (mw X bd (va_up sc 2 (nI 0)) (va_up (va_up (va_up (va_up (va_up av 8 L) 9 B) 14 (va_up M1 r (1 + (M1 (sx_diff r t))))) 15 C1) 16 F1))) hG 14 dX8_split_208 rfl (by decide) (by omega) rfl ?_
                        refine sx_aload_n (pc := 209) hG dX8_split_209 rfl 0 rfl ?_
                        refine sx_get (pc := 210) (v2 := .ref (bd 15)) (ci := 8) hG i_X8_split_8 20 m_X8_split_f56 dX8_split_210 rfl (by decide) 0 rfl rfl rfl ?_
                        refine sx_iload_n (pc := 213) hG dX8_split_213 rfl 2 rfl ?_
                        refine sx_iload (pc := 214) hG dX8_split_214 6 rfl ?_
                        refine sx_iastN (pc := 216) (w2 := (mw X bd (va_up sc 2 (nI 0)) (va_up (va_up (va_up (va_up (va_up av 8 L) 9 B) 14 (va_up M1 r (1 + (M1 (sx_diff r t))))) 15 (va_up C1 r (B t / 100000 + B t % 100000 * av 7 6 / 10 + (C1 (sx_diff r t))))) 16 F1))) hG 15 dX8_split_216 rfl (by decide) (by omega) rfl ?_
                        refine sx_aload_n (pc := 217) hG dX8_split_217 rfl 0 rfl ?_
                        refine sx_get (pc := 218) (v2 := .ref (bd 16)) (ci := 8) hG i_X8_split_8 21 m_X8_split_f59 dX8_split_218 rfl (by decide) 0 rfl rfl rfl ?_
                        refine sx_iload_n (pc := 221) hG dX8_split_221 rfl 2 rfl ?_
                        refine sx_iload (pc := 222) hG dX8_split_222 4 rfl ?_
                        refine sx_iastN (pc := 224) (w2 := (mw X bd (va_up sc 2 (nI 0)) (va_up (va_up (va_up (va_up (va_up av 8 L) 9 B) 14 (va_up M1 r (1 + (M1 (sx_diff r t))))) 15 (va_up C1 r (B t / 100000 + B t % 100000 * av 7 6 / 10 + (C1 (sx_diff r t))))) 16 (va_up F1 r t)))) hG 16 dX8_split_224 rfl (by decide) (by omega) rfl ?_
                        refine sx_iinc (pc := 225) (v := nI (t + 1)) (lv2 := [(0, .ref (bd 0)), (1, .int (nI (2 ^ n - 1))), (2, .int (nI r)), (3, .int (nI (sx_low r))), (4, .int (nI (t + 1))), (5, .int (nI (1 + (M1 (sx_diff r t))))), (6, .int (nI (B t / 100000 + B t % 100000 * av 7 6 / 10 + (C1 (sx_diff r t)))))]) hG [1, 2, 3, 4, 0, 5, 6] dX8_split_225 4 rfl (sx_inc t) hN (by decide) rfl ?_
                        refine sx_goto (pc := 228) (tgt := 72) hG dX8_split_228 (by decide) ?_
                        refine sx_lsub [0, 1, 2, 3, 4] rfl ?_
                        refine ih_t (t + 1) _ _ _ hrn (by omega) (by have hq := mRow_take hrow (by unfold mOk; rw [if_pos ⟨c84, c91, by omega, by rw [← hMd]; exact c124⟩]; decide) (by rw [hvf]; omega) (by omega) (by omega); rw [show va_up M1 r (1 + M1 (sx_diff r t)) r = 1 + M (sx_diff r t) by simp only [va_up, if_pos]; rw [hMd], show va_up C1 r (B t / 100000 + B t % 100000 * av 7 6 / 10 + C1 (sx_diff r t)) r = mPr av B t + C (sx_diff r t) by simp only [va_up, if_pos]; rw [hCd]; rfl, show va_up F1 r t r = t by simp only [va_up, if_pos]]; exact hq) (fun j hj => by unfold va_up; rw [if_neg hj]; exact hMo j hj) (fun j hj => by unfold va_up; rw [if_neg hj]; exact hCo j hj) (fun j hj => by unfold va_up; rw [if_neg hj]; exact hFo j hj) (fun j => by unfold va_up; split; omega; exact hF6 j) (by omega)
                      · skip
                        refine sx_iload (pc := 187) hG dX8_split_187 6 rfl ?_
                        refine sx_aload_n (pc := 189) hG dX8_split_189 rfl 0 rfl ?_
                        refine sx_get (pc := 190) (v2 := .ref (bd 15)) (ci := 8) hG i_X8_split_8 20 m_X8_split_f56 dX8_split_190 rfl (by decide) 0 rfl rfl rfl ?_
                        refine sx_iload_n (pc := 193) hG dX8_split_193 rfl 2 rfl ?_
                        refine sx_iald (pc := 194) (v := nI (C1 r)) hG 15 dX8_split_194 rfl (by decide) (by omega) rfl ?_
                        refine sx_icmp_lt (pc := 195) (tgt := 201) (B := (B t / 100000 + B t % 100000 * av 7 6 / 10 + (C1 (sx_diff r t))) < (C1 r)) hG dX8_split_195 (by decide) (nI_ltI (by omega) (by omega)) (fun c195 => ?_) (fun c195 => ?_)
                        · skip
                          refine sx_aload_n (pc := 201) hG dX8_split_201 rfl 0 rfl ?_
                          refine sx_get (pc := 202) (v2 := .ref (bd 14)) (ci := 8) hG i_X8_split_8 19 m_X8_split_f53 dX8_split_202 rfl (by decide) 0 rfl rfl rfl ?_
                          refine sx_iload_n (pc := 205) hG dX8_split_205 rfl 2 rfl ?_
                          refine sx_iload (pc := 206) hG dX8_split_206 5 rfl ?_
                          refine sx_iastN (pc := 208) (w2 := (mw X bd (va_up sc 2 (nI 0)) (va_up (va_up (va_up (va_up (va_up av 8 L) 9 B) 14 (va_up M1 r (1 + (M1 (sx_diff r t))))) 15 C1) 16 F1))) hG 14 dX8_split_208 rfl (by decide) (by omega) rfl ?_
                          refine sx_aload_n (pc := 209) hG dX8_split_209 rfl 0 rfl ?_
                          refine sx_get (pc := 210) (v2 := .ref (bd 15)) (ci := 8) hG i_X8_split_8 20 m_X8_split_f56 dX8_split_210 rfl (by decide) 0 rfl rfl rfl ?_
                          refine sx_iload_n (pc := 213) hG dX8_split_213 rfl 2 rfl ?_
                          refine sx_iload (pc := 214) hG dX8_split_214 6 rfl ?_
                          refine sx_iastN (pc := 216) (w2 := (mw X bd (va_up sc 2 (nI 0)) (va_up (va_up (va_up (va_up (va_up av 8 L) 9 B) 14 (va_up M1 r (1 + (M1 (sx_diff r t))))) 15 (va_up C1 r (B t / 100000 + B t % 100000 * av 7 6 / 10 + (C1 (sx_diff r t))))) 16 F1))) hG 15 dX8_split_216 rfl (by decide) (by omega) rfl ?_
                          refine sx_aload_n (pc := 217) hG dX8_split_217 rfl 0 rfl ?_
                          refine sx_get (pc := 218) (v2 := .ref (bd 16)) (ci := 8) hG i_X8_split_8 21 m_X8_split_f59 dX8_split_218 rfl (by decide) 0 rfl rfl rfl ?_
                          refine sx_iload_n (pc := 221) hG dX8_split_221 rfl 2 rfl ?_
                          refine sx_iload (pc := 222) hG dX8_split_222 4 rfl ?_
                          refine sx_iastN (pc := 224) (w2 := (mw X bd (va_up sc 2 (nI 0)) (va_up (va_up (va_up (va_up (va_up av 8 L) 9 B) 14 (va_up M1 r (1 + (M1 (sx_diff r t))))) 15 (va_up C1 r (B t / 100000 + B t % 100000 * av 7 6 / 10 + (C1 (sx_diff r t))))) 16 (va_up F1 r t)))) hG 16 dX8_split_224 rfl (by decide) (by omega) rfl ?_
                          refine sx_iinc (pc := 225) (v := nI (t + 1)) (lv2 := [(0, .ref (bd 0)), (1, .int (nI (2 ^ n - 1))), (2, .int (nI r)), (3, .int (nI (sx_low r))), (4, .int (nI (t + 1))), (5, .int (nI (1 + (M1 (sx_diff r t))))), (6, .int (nI (B t / 100000 + B t % 100000 * av 7 6 / 10 + (C1 (sx_diff r t)))))]) hG [1, 2, 3, 4, 0, 5, 6] dX8_split_225 4 rfl (sx_inc t) hN (by decide) rfl ?_
                          refine sx_goto (pc := 228) (tgt := 72) hG dX8_split_228 (by decide) ?_
                          refine sx_lsub [0, 1, 2, 3, 4] rfl ?_
                          refine ih_t (t + 1) _ _ _ hrn (by omega) (by have hq := mRow_take hrow (by unfold mOk; rw [if_pos ⟨c84, c91, by omega, by rw [← hMd]; exact c124⟩]; decide) (by rw [hvf]; omega) (by omega) (by omega); rw [show va_up M1 r (1 + M1 (sx_diff r t)) r = 1 + M (sx_diff r t) by simp only [va_up, if_pos]; rw [hMd], show va_up C1 r (B t / 100000 + B t % 100000 * av 7 6 / 10 + C1 (sx_diff r t)) r = mPr av B t + C (sx_diff r t) by simp only [va_up, if_pos]; rw [hCd]; rfl, show va_up F1 r t r = t by simp only [va_up, if_pos]]; exact hq) (fun j hj => by unfold va_up; rw [if_neg hj]; exact hMo j hj) (fun j hj => by unfold va_up; rw [if_neg hj]; exact hCo j hj) (fun j hj => by unfold va_up; rw [if_neg hj]; exact hFo j hj) (fun j => by unfold va_up; split; omega; exact hF6 j) (by omega)
                        · skip
                          refine sx_goto (pc := 198) (tgt := 225) hG dX8_split_198 (by decide) ?_
                          refine sx_iinc (pc := 225) (v := nI (t + 1)) (lv2 := [(0, .ref (bd 0)), (1, .int (nI (2 ^ n - 1))), (2, .int (nI r)), (3, .int (nI (sx_low r))), (4, .int (nI (t + 1))), (5, .int (nI (1 + (M1 (sx_diff r t))))), (6, .int (nI (B t / 100000 + B t % 100000 * av 7 6 / 10 + (C1 (sx_diff r t)))))]) hG [1, 2, 3, 4, 0, 5, 6] dX8_split_225 4 rfl (sx_inc t) hN (by decide) rfl ?_
                          refine sx_goto (pc := 228) (tgt := 72) hG dX8_split_228 (by decide) ?_
                          refine sx_lsub [0, 1, 2, 3, 4] rfl ?_
                          refine ih_t (t + 1) _ _ _ hrn (by omega) (mRow_skip hrow (Or.inr (by rw [hvf]; omega))) hMo hCo hFo hF6 (by omega)
                  · skip
                    obtain ⟨hsub1, hsub2⟩ := hsub c91
                    have hMd := hMo (sx_diff r t) (by omega)
                    refine sx_goto (pc := 127) (tgt := 225) hG dX8_split_127 (by decide) ?_
                    refine sx_iinc (pc := 225) (v := nI (t + 1)) (lv2 := [(0, .ref (bd 0)), (1, .int (nI (2 ^ n - 1))), (2, .int (nI r)), (3, .int (nI (sx_low r))), (4, .int (nI (t + 1)))]) hG [1, 2, 3, 4, 0] dX8_split_225 4 rfl (sx_inc t) hN (by decide) rfl ?_
                    refine sx_goto (pc := 228) (tgt := 72) hG dX8_split_228 (by decide) ?_
                    refine ih_t (t + 1) _ _ _ hrn (by omega) (mRow_skip hrow (Or.inl (by unfold mOk; rw [if_neg (fun z => z.2.2.2 (by rw [← hMd]; exact c124))]))) hMo hCo hFo hF6 (by omega)
      have loop_i : ∀ (fuel : Nat), ∀ (i : Nat), (r < 2 ^ n) → (i ≤ 9) → (∀ j, j < i → r &&& 2 ^ j = 0) → 10 - i < fuel → sx_W l X G 0 0 56 [(0, .ref (bd 0)), (1, .int (nI (2 ^ n - 1))), (2, .int (nI r)), (3, .int (nI (2 ^ i)))] [] (mw X bd (va_up sc 2 (nI 0)) (va_up (va_up (va_up (va_up (va_up av 8 L) 9 B) 14 (va_up M r 99)) 15 (va_up C r 0)) 16 F)) := by
        intro fuel
        induction fuel with
        | zero => intro i hrn hi hz hm; exact absurd hm (Nat.not_lt_zero _)
        | succ fuel ih_i =>
          intro i hrn hi hz hm_i
          have hi8 : i < 9 := by rcases Nat.lt_or_ge i 9 with h | h; exact h; exact absurd (fun j hj => hz j (by omega)) (sx_some0 r (by omega) (by omega))
          have hpi := sx_p9 (show i ≤ 9 by omega)
          have hale := Nat.and_le_left (n := r) (m := 2 ^ i)
          refine sx_iload_n (pc := 56) hG dX8_split_56 rfl 2 rfl ?_
          refine sx_iload_n (pc := 57) hG dX8_split_57 rfl 3 rfl ?_
          refine sx_iand (pc := 58) (v := (nI (r &&& (2 ^ i)))) hG dX8_split_58 (sx_and (by omega) (by omega)) ?_
          refine sx_if_ne (pc := 59) (tgt := 69) (B := (r &&& (2 ^ i)) = 0) hG dX8_split_59 (by decide) (sx_eq0 (by omega)) (fun c59 => ?_) (fun c59 => ?_)
          · skip
            have hlow : 2 ^ i = sx_low r := sx_low0 r (by omega) i (by omega) c59 hz
            rw [hlow]
            refine sx_iload_n (pc := 69) hG dX8_split_69 rfl 3 rfl ?_
            refine sx_istore (pc := 70) (lv2 := [(0, .ref (bd 0)), (1, .int (nI (2 ^ n - 1))), (2, .int (nI r)), (3, .int (nI (sx_low r))), (4, .int (nI (sx_low r)))]) hG [1, 2, 3, 4, 0] dX8_split_70 hN (by decide) rfl ?_
            refine loop_t _ (sx_low r) _ _ _ (by omega) (by have := sx_low1 r (by omega) (by omega); omega) (mRow_0 (by omega) (by omega) (by simp [va_up]) (by simp [va_up])) (fun j hj => by unfold va_up; rw [if_neg hj]) (fun j hj => by unfold va_up; rw [if_neg hj]) (fun _ _ => rfl) hF5 (Nat.lt_succ_self _)
          · skip
            refine sx_iload_n (pc := 62) hG dX8_split_62 rfl 3 rfl ?_
            refine sx_iconst (pc := 63) (v := nI 2) hG dX8_split_63 (by decide +kernel) ?_
            refine sx_imul (pc := 64) (v := (nI (2 ^ (i + 1)))) hG dX8_split_64 (by rw [pk_mul, Nat.pow_succ]) ?_
            refine sx_istore_n (pc := 65) (lv2 := [(0, .ref (bd 0)), (1, .int (nI (2 ^ n - 1))), (2, .int (nI r)), (3, .int (nI (2 ^ (i + 1))))]) hG [1, 2, 3, 0] dX8_split_65 rfl hN (by decide) rfl ?_
            refine sx_goto (pc := 66) (tgt := 56) hG dX8_split_66 (by decide) ?_
            refine ih_i (i + 1) hrn (by omega) (fun j hj => by rcases Nat.lt_or_ge j i with h | h; exact hz j h; (have e : j = i := (by omega); subst e; exact c59)) (by omega)
      refine sx_iload_n (pc := 34) hG dX8_split_34 rfl 2 rfl ?_
      refine sx_iload_n (pc := 35) hG dX8_split_35 rfl 1 rfl ?_
      refine sx_icmp_gt (pc := 36) (tgt := 237) (B := (2 ^ n - 1) < r) hG dX8_split_36 (by decide) (nI_ltI (by omega) (by omega)) (fun c36 => ?_) (fun c36 => ?_)
      · skip
        have hrr : r = 2 ^ n := by omega
        have hVT2 : mVT av B M C F lg (2 ^ n) := by rw [← hrr]; exact hVT
        have hMb := mVT_bd0 hVT2 (show 2 ^ n - 1 < 2 ^ n by omega) (by omega)
        refine sx_aload_n (pc := 237) hG dX8_split_237 rfl 0 rfl ?_
        refine sx_get (pc := 238) (v2 := .ref (bd 14)) (ci := 8) hG i_X8_split_8 19 m_X8_split_f53 dX8_split_238 rfl (by decide) 0 rfl rfl rfl ?_
        refine sx_iload_n (pc := 241) hG dX8_split_241 rfl 1 rfl ?_
        refine sx_iald (pc := 242) (v := nI (M (2 ^ n - 1))) hG 14 dX8_split_242 rfl (by decide) (by omega) rfl ?_
        refine sx_bipush (pc := 243) (v := nI 99) hG dX8_split_243 (by decide +kernel) ?_
        refine sx_icmp_ne (pc := 245) (tgt := 250) (B := (M (2 ^ n - 1)) = 99) hG dX8_split_245 (by decide) (nI_eq (by omega) (by omega)) (fun c245 => ?_) (fun c245 => ?_)
        · skip
          have hM9 : M (2 ^ n - 1) ≤ 9 := by rcases Nat.eq_zero_or_pos (2 ^ n - 1) with h | h; (rw [h, hVT2.1]; decide); exact (mVT_at (by omega) hVT2 (fun t q1 q2 => mPr_le hg hn hT q2 q1) h (by omega) c245).2.1
          refine sx_aload_n (pc := 250) hG dX8_split_250 rfl 0 rfl ?_
          refine sx_iconst (pc := 251) (v := nI 1) hG dX8_split_251 (by decide +kernel) ?_
          refine sx_put (pc := 252) (v := .int (nI 1)) (ci := 8) (w2 := (mw X bd (va_up (va_up sc 2 (nI 0)) 3 (nI 1)) (va_up (va_up (va_up (va_up (va_up av 8 L) 9 B) 14 M) 15 C) 16 F))) hG i_X8_split_8 tyX8 tyX8_ok nmX8 13 m_X8_split_f74 dX8_split_252 rfl (by decide) 0 rfl rfl (by decide) (by decide) (Nat.le_of_ble_eq_true rfl) rfl ?_
          refine sx_aload_n (pc := 255) hG dX8_split_255 rfl 0 rfl ?_
          refine sx_aload_n (pc := 256) hG dX8_split_256 rfl 0 rfl ?_
          refine sx_get (pc := 257) (v2 := .ref (bd 14)) (ci := 8) hG i_X8_split_8 19 m_X8_split_f53 dX8_split_257 rfl (by decide) 0 rfl rfl rfl ?_
          refine sx_iload_n (pc := 260) hG dX8_split_260 rfl 1 rfl ?_
          refine sx_iald (pc := 261) (v := nI (M (2 ^ n - 1))) hG 14 dX8_split_261 rfl (by decide) (by omega) rfl ?_
          refine sx_put (pc := 262) (v := .int (nI (M (2 ^ n - 1)))) (ci := 8) (w2 := (mw X bd (va_up (va_up (va_up sc 2 (nI 0)) 3 (nI 1)) 4 (nI (M (2 ^ n - 1)))) (va_up (va_up (va_up (va_up (va_up av 8 L) 9 B) 14 M) 15 C) 16 F))) hG i_X8_split_8 tyX8 tyX8_ok nmX8 14 m_X8_split_f131 dX8_split_262 rfl (by decide) 0 rfl rfl rfl rfl (Nat.le_of_ble_eq_true rfl) rfl ?_
          refine sx_aload_n (pc := 265) hG dX8_split_265 rfl 0 rfl ?_
          refine sx_aload_n (pc := 266) hG dX8_split_266 rfl 0 rfl ?_
          refine sx_get (pc := 267) (v2 := .ref (bd 15)) (ci := 8) hG i_X8_split_8 20 m_X8_split_f56 dX8_split_267 rfl (by decide) 0 rfl rfl rfl ?_
          refine sx_iload_n (pc := 270) hG dX8_split_270 rfl 1 rfl ?_
          refine sx_iald (pc := 271) (v := nI (C (2 ^ n - 1))) hG 15 dX8_split_271 rfl (by decide) (by omega) rfl ?_
          refine sx_put (pc := 272) (v := .int (nI (C (2 ^ n - 1)))) (ci := 8) (w2 := (mw X bd (va_up (va_up (va_up (va_up sc 2 (nI 0)) 3 (nI 1)) 4 (nI (M (2 ^ n - 1)))) 5 (nI (C (2 ^ n - 1)))) (va_up (va_up (va_up (va_up (va_up av 8 L) 9 B) 14 M) 15 C) 16 F))) hG i_X8_split_8 tyX8 tyX8_ok nmX8 15 m_X8_split_f134 dX8_split_272 rfl (by decide) 0 rfl rfl rfl rfl (Nat.le_of_ble_eq_true rfl) rfl ?_
          refine sx_iload_n (pc := 275) hG dX8_split_275 rfl 1 rfl ?_
          refine sx_istore_n (pc := 276) (lv2 := [(0, .ref (bd 0)), (1, .int (nI (2 ^ n - 1))), (2, .int (nI (2 ^ n - 1)))]) hG [1, 2, 0] dX8_split_276 rfl hN (by decide) rfl ?_
          refine sx_iconst (pc := 277) (v := nI 0) hG dX8_split_277 (by decide +kernel) ?_
          refine sx_istore_n (pc := 278) (lv2 := [(0, .ref (bd 0)), (1, .int (nI (2 ^ n - 1))), (2, .int (nI (2 ^ n - 1))), (3, .int (nI 0))]) hG [1, 2, 3, 0] dX8_split_278 rfl hN (by decide) rfl ?_
          have loop_k : ∀ (fuel : Nat), ∀ (k rest2 : Nat) (S Z Q : Nat → Nat), (k + M rest2 = M (2 ^ n - 1)) → (rest2 < 2 ^ n) → (mSpl F (2 ^ n - 1) S k rest2) → (∀ j, j < k → Z j = B (S j) % 100000 ∧ Q j = mPr av B (S j)) → (sx_sum Q k + C rest2 = C (2 ^ n - 1)) → (M (2 ^ n - 1) ≤ 9) → (¬ M rest2 = 99) → 9 - k < fuel → sx_W l X G 0 0 279 [(0, .ref (bd 0)), (1, .int (nI (2 ^ n - 1))), (2, .int (nI rest2)), (3, .int (nI k))] [] (mw X bd (va_up (va_up (va_up (va_up sc 2 (nI 0)) 3 (nI 1)) 4 (nI (M (2 ^ n - 1)))) 5 (nI (C (2 ^ n - 1)))) (va_up (va_up (va_up (va_up (va_up (va_up (va_up (va_up av 8 L) 9 B) 11 S) 12 Z) 13 Q) 14 M) 15 C) 16 F)) := by
            intro fuel
            induction fuel with
            | zero => intro k rest2 S Z Q hk hr2 hspl hzq hsum hM9 hMr hm; exact absurd hm (Nat.not_lt_zero _)
            | succ fuel ih_k =>
              intro k rest2 S Z Q hk hr2 hspl hzq hsum hM9 hMr hm_k
              have hat : ¬ rest2 = 0 → _ := fun h => mVT_at (by omega) hVT2 (fun t q1 q2 => mPr_le hg hn hT q2 q1) (show 1 ≤ rest2 by omega) hr2 hMr
              have hF9 := hF5 rest2
              refine sx_iload_n (pc := 279) hG dX8_split_279 rfl 3 rfl ?_
              refine sx_aload_n (pc := 280) hG dX8_split_280 rfl 0 rfl ?_
              refine sx_get (pc := 281) (v2 := .int (nI (M (2 ^ n - 1)))) (ci := 8) hG i_X8_split_8 14 m_X8_split_f131 dX8_split_281 rfl (by decide) 0 rfl rfl rfl ?_
              refine sx_icmp_ge (pc := 284) (tgt := 352) (B := (M (2 ^ n - 1)) ≤ k) hG dX8_split_284 (by decide) (nI_leI (by omega) (by omega)) (fun c284 => ?_) (fun c284 => ?_)
              · skip
                refine sx_aload_n (pc := 352) hG dX8_split_352 rfl 0 rfl ?_
                refine sx_get (pc := 353) (v2 := .int (nI (M (2 ^ n - 1)))) (ci := 8) hG i_X8_split_8 14 m_X8_split_f131 dX8_split_353 rfl (by decide) 0 rfl rfl rfl ?_
                have hz9 : rest2 = 0 := by rcases Nat.eq_zero_or_pos rest2 with h | h; exact h; exact absurd (hat (by omega)).1 (by omega)
                subst hz9
                have hkm : k = M (2 ^ n - 1) := by have := hVT2.1; omega
                subst hkm
                exact hret _ _ _ _ dX8_split_356 rfl ⟨L, B, M, C, F, hLb, hBb, hT, hVT2, hF5, Or.inr ⟨c245, rfl, S, Z, Q, rfl, hspl, hzq, by have := hVT2.2.1; omega⟩⟩
              · skip
                have hz0 : ¬ rest2 = 0 := fun q => by have h9 := hVT2.1; rw [q] at hk; omega
                obtain ⟨b1, b2, b3, b4, b5, b6, b7, b8⟩ := hat hz0
                have hB9 := hBb (F rest2)
                refine sx_aload_n (pc := 287) hG dX8_split_287 rfl 0 rfl ?_
                refine sx_get (pc := 288) (v2 := .ref (bd 11)) (ci := 8) hG i_X8_split_8 16 m_X8_split_f44 dX8_split_288 rfl (by decide) 0 rfl rfl rfl ?_
                refine sx_iload_n (pc := 291) hG dX8_split_291 rfl 3 rfl ?_
                refine sx_aload_n (pc := 292) hG dX8_split_292 rfl 0 rfl ?_
                refine sx_get (pc := 293) (v2 := .ref (bd 16)) (ci := 8) hG i_X8_split_8 21 m_X8_split_f59 dX8_split_293 rfl (by decide) 0 rfl rfl rfl ?_
                refine sx_iload_n (pc := 296) hG dX8_split_296 rfl 2 rfl ?_
                refine sx_iald (pc := 297) (v := nI (F rest2)) hG 16 dX8_split_297 rfl (by decide) (by omega) rfl ?_
                refine sx_iastN (pc := 298) (w2 := (mw X bd (va_up (va_up (va_up (va_up sc 2 (nI 0)) 3 (nI 1)) 4 (nI (M (2 ^ n - 1)))) 5 (nI (C (2 ^ n - 1)))) (va_up (va_up (va_up (va_up (va_up (va_up (va_up (va_up av 8 L) 9 B) 11 (va_up S k (F rest2))) 12 Z) 13 Q) 14 M) 15 C) 16 F))) hG 11 dX8_split_298 rfl (by decide) (by omega) rfl ?_
                refine sx_aload_n (pc := 299) hG dX8_split_299 rfl 0 rfl ?_
                refine sx_get (pc := 300) (v2 := .ref (bd 12)) (ci := 8) hG i_X8_split_8 17 m_X8_split_f47 dX8_split_300 rfl (by decide) 0 rfl rfl rfl ?_
                refine sx_iload_n (pc := 303) hG dX8_split_303 rfl 3 rfl ?_
                refine sx_aload_n (pc := 304) hG dX8_split_304 rfl 0 rfl ?_
                refine sx_get (pc := 305) (v2 := .ref (bd 9)) (ci := 8) hG i_X8_split_8 11 m_X8_split_f38 dX8_split_305 rfl (by decide) 0 rfl rfl rfl ?_
                refine sx_aload_n (pc := 308) hG dX8_split_308 rfl 0 rfl ?_
                refine sx_get (pc := 309) (v2 := .ref (bd 11)) (ci := 8) hG i_X8_split_8 16 m_X8_split_f44 dX8_split_309 rfl (by decide) 0 rfl rfl rfl ?_
                refine sx_iload_n (pc := 312) hG dX8_split_312 rfl 3 rfl ?_
                refine sx_iald (pc := 313) (v := nI (F rest2)) hG 11 dX8_split_313 rfl (by decide) (by omega) (congrArg nI (if_pos rfl)) ?_
                refine sx_iald (pc := 314) (v := nI (B (F rest2))) hG 9 dX8_split_314 rfl (by decide) (by omega) rfl ?_
                refine sx_ldc (pc := 315) (v2 := nI 100000) hG m_X8_split_c107 dX8_split_315 (by decide +kernel) ?_
                refine sx_irem (pc := 317) (v := (nI ((B (F rest2)) % 100000))) hG dX8_split_317 (nI_ne0 (by decide) (by decide)) (pk_rem (by omega) (by decide) (by decide)) ?_
                refine sx_iastN (pc := 318) (w2 := (mw X bd (va_up (va_up (va_up (va_up sc 2 (nI 0)) 3 (nI 1)) 4 (nI (M (2 ^ n - 1)))) 5 (nI (C (2 ^ n - 1)))) (va_up (va_up (va_up (va_up (va_up (va_up (va_up (va_up av 8 L) 9 B) 11 (va_up S k (F rest2))) 12 (va_up Z k ((B (F rest2)) % 100000))) 13 Q) 14 M) 15 C) 16 F))) hG 12 dX8_split_318 rfl (by decide) (by omega) rfl ?_
                refine sx_aload_n (pc := 319) hG dX8_split_319 rfl 0 rfl ?_
                refine sx_get (pc := 320) (v2 := .ref (bd 13)) (ci := 8) hG i_X8_split_8 18 m_X8_split_f50 dX8_split_320 rfl (by decide) 0 rfl rfl rfl ?_
                refine sx_iload_n (pc := 323) hG dX8_split_323 rfl 3 rfl ?_
                refine sx_aload_n (pc := 324) hG dX8_split_324 rfl 0 rfl ?_
                refine sx_aload_n (pc := 325) hG dX8_split_325 rfl 0 rfl ?_
                refine sx_get (pc := 326) (v2 := .ref (bd 11)) (ci := 8) hG i_X8_split_8 16 m_X8_split_f44 dX8_split_326 rfl (by decide) 0 rfl rfl rfl ?_
                refine sx_iload_n (pc := 329) hG dX8_split_329 rfl 3 rfl ?_
                refine sx_iald (pc := 330) (v := nI (F rest2)) hG 11 dX8_split_330 rfl (by decide) (by omega) (congrArg nI (if_pos rfl)) ?_
                refine sx_callViw (pc := 331) (n9 := 1) (As := [.int (nI (F rest2))]) (st := [.int (nI k), .ref (bd 13)]) (b := (bd 0)) (ci := 8) hG (c_X8_priceOf l X bd (va_up (va_up (va_up (va_up sc 2 (nI 0)) 3 (nI 1)) 4 (nI (M (2 ^ n - 1)))) 5 (nI (C (2 ^ n - 1)))) (va_up (va_up (va_up (va_up (va_up (va_up (va_up (va_up av 8 L) 9 B) 11 (va_up S k (F rest2))) 12 (va_up Z k ((B (F rest2)) % 100000))) 13 Q) 14 M) 15 C) 16 F) (F rest2) (by omega) hg hBb) gX8_split_X8_priceOf rfl (by decide +kernel) rfl 0 rfl rfl rfl dX8_split_331 ⟨rfl, rfl⟩ ⟨Nat.le_of_ble_eq_true rfl, Nat.le_of_ble_eq_true rfl⟩ (Nat.le_of_ble_eq_true rfl) ⟨Nat.le_of_ble_eq_true rfl, Nat.le_of_ble_eq_true rfl⟩ (fun r w1 hp => ?_)
                obtain ⟨hr9, hw9⟩ := hp
                have hr9 : r = (nI (B (F rest2) / 100000 + B (F rest2) % 100000 * av 7 6 / 10)) := hr9
                subst hr9
                refine sx_weq hw9 ?_
                refine sx_iastN (pc := 334) (w2 := (mw X bd (va_up (va_up (va_up (va_up sc 2 (nI 0)) 3 (nI 1)) 4 (nI (M (2 ^ n - 1)))) 5 (nI (C (2 ^ n - 1)))) (va_up (va_up (va_up (va_up (va_up (va_up (va_up (va_up av 8 L) 9 B) 11 (va_up S k (F rest2))) 12 (va_up Z k ((B (F rest2)) % 100000))) 13 (va_up Q k (B (F rest2) / 100000 + B (F rest2) % 100000 * av 7 6 / 10))) 14 M) 15 C) 16 F))) hG 13 dX8_split_334 rfl (by decide) (by omega) rfl ?_
                refine sx_iload_n (pc := 335) hG dX8_split_335 rfl 2 rfl ?_
                refine sx_aload_n (pc := 336) hG dX8_split_336 rfl 0 rfl ?_
                refine sx_get (pc := 337) (v2 := .ref (bd 11)) (ci := 8) hG i_X8_split_8 16 m_X8_split_f44 dX8_split_337 rfl (by decide) 0 rfl rfl rfl ?_
                refine sx_iload_n (pc := 340) hG dX8_split_340 rfl 3 rfl ?_
                refine sx_iald (pc := 341) (v := nI (F rest2)) hG 11 dX8_split_341 rfl (by decide) (by omega) (congrArg nI (if_pos rfl)) ?_
                refine sx_iconst (pc := 342) (v := (-1)) hG dX8_split_342 (by decide +kernel) ?_
                refine sx_ixor (pc := 343) (v := (nI (F rest2) ^^^ (-1))) hG dX8_split_343 rfl ?_
                refine sx_iand (pc := 344) (v := (nI (sx_diff rest2 (F rest2)))) hG dX8_split_344 (sx_andnot (by omega) (by omega)) ?_
                refine sx_istore_n (pc := 345) (lv2 := [(0, .ref (bd 0)), (1, .int (nI (2 ^ n - 1))), (2, .int (nI (sx_diff rest2 (F rest2)))), (3, .int (nI k))]) hG [1, 2, 0, 3] dX8_split_345 rfl hN (by decide) rfl ?_
                refine sx_iinc (pc := 346) (v := nI (k + 1)) (lv2 := [(0, .ref (bd 0)), (1, .int (nI (2 ^ n - 1))), (2, .int (nI (sx_diff rest2 (F rest2)))), (3, .int (nI (k + 1)))]) hG [1, 2, 3, 0] dX8_split_346 3 rfl (sx_inc k) hN (by decide) rfl ?_
                refine sx_goto (pc := 349) (tgt := 279) hG dX8_split_349 (by decide) ?_
                refine ih_k (k + 1) (sx_diff rest2 (F rest2)) _ _ _ (by omega) (by omega) ⟨rest2, mSpl_up (Nat.le_refl _) hspl, hz0, by simp [va_up], by simp [va_up]⟩ (fun j hj => by unfold va_up; by_cases e : j = k; (rw [if_pos e, if_pos e, if_pos e]; exact ⟨rfl, rfl⟩); (rw [if_neg e, if_neg e, if_neg e]; exact hzq j (by omega))) (by unfold sx_sum; rw [sx_sum_up (Nat.le_refl _)]; simp only [va_up, if_pos]; unfold mPr at b8; omega) hM9 (by omega) (by omega)
          refine sx_weq (w2 := (mw X bd (va_up (va_up (va_up (va_up sc 2 (nI 0)) 3 (nI 1)) 4 (nI (M (2 ^ n - 1)))) 5 (nI (C (2 ^ n - 1)))) (va_up (va_up (va_up (va_up (va_up (va_up (va_up (va_up av 8 L) 9 B) 11 (av 11)) 12 (av 12)) 13 (av 13)) 14 M) 15 C) 16 F))) rfl ?_
          refine loop_k _ 0 (2 ^ n - 1) _ _ _ (Nat.zero_add _) (by omega) rfl (fun j h => absurd h (Nat.not_lt_zero _)) (Nat.zero_add _) hM9 c245 (Nat.lt_succ_self _)
        · skip
          refine sx_iconst (pc := 248) (v := (-1)) hG dX8_split_248 (by decide +kernel) ?_
          exact hret _ _ _ _ dX8_split_249 rfl ⟨L, B, M, C, F, hLb, hBb, hT, hVT2, hF5, Or.inl ⟨c245, rfl, rfl⟩⟩
      · skip
        refine sx_aload_n (pc := 39) hG dX8_split_39 rfl 0 rfl ?_
        refine sx_get (pc := 40) (v2 := .ref (bd 14)) (ci := 8) hG i_X8_split_8 19 m_X8_split_f53 dX8_split_40 rfl (by decide) 0 rfl rfl rfl ?_
        refine sx_iload_n (pc := 43) hG dX8_split_43 rfl 2 rfl ?_
        refine sx_bipush (pc := 44) (v := nI 99) hG dX8_split_44 (by decide +kernel) ?_
        refine sx_iastN (pc := 46) (w2 := (mw X bd (va_up sc 2 (nI 0)) (va_up (va_up (va_up (va_up (va_up av 8 L) 9 B) 14 (va_up M r 99)) 15 C) 16 F))) hG 14 dX8_split_46 rfl (by decide) (by omega) rfl ?_
        refine sx_aload_n (pc := 47) hG dX8_split_47 rfl 0 rfl ?_
        refine sx_get (pc := 48) (v2 := .ref (bd 15)) (ci := 8) hG i_X8_split_8 20 m_X8_split_f56 dX8_split_48 rfl (by decide) 0 rfl rfl rfl ?_
        refine sx_iload_n (pc := 51) hG dX8_split_51 rfl 2 rfl ?_
        refine sx_iconst (pc := 52) (v := nI 0) hG dX8_split_52 (by decide +kernel) ?_
        refine sx_iastN (pc := 53) (w2 := (mw X bd (va_up sc 2 (nI 0)) (va_up (va_up (va_up (va_up (va_up av 8 L) 9 B) 14 (va_up M r 99)) 15 (va_up C r 0)) 16 F))) hG 15 dX8_split_53 rfl (by decide) (by omega) rfl ?_
        refine sx_iconst (pc := 54) (v := nI 1) hG dX8_split_54 (by decide +kernel) ?_
        refine sx_istore_n (pc := 55) (lv2 := [(0, .ref (bd 0)), (1, .int (nI (2 ^ n - 1))), (2, .int (nI r)), (3, .int (nI 1))]) hG [1, 2, 3, 0] dX8_split_55 rfl hN (by decide) rfl ?_
        refine loop_i _ 0 (by omega) (by omega) (fun j h => absurd h (Nat.not_lt_zero _)) (Nat.lt_succ_self _)
  refine sx_weq (w2 := (mw X bd (va_up sc 2 (nI 0)) (va_up (va_up (va_up (va_up (va_up av 8 L) 9 B) 14 (va_up (av 14) 0 0)) 15 (va_up (av 15) 0 0)) 16 (av 16)))) rfl ?_
  refine loop_r _ 1 _ _ _ (Nat.le_refl _) (by omega) ⟨rfl, rfl, fun q h1 h2 => absurd h2 (by omega)⟩ hF0 (Nat.lt_succ_self _)
end
section
/-! THE REFERENCE: feed, dead -/
theorem sx_sub_lt {s o : Nat} (h0 : ¬ o = 0) (h : sx_diff o s = 0) : sx_diff s o < s := by
  rcases Nat.lt_or_ge (sx_diff s o) s with q | q
  · exact q
  · have e : sx_diff s o = s := Nat.le_antisymm (sx_diff_le s o) q
    exfalso; apply h0
    apply Nat.eq_of_testBit_eq
    intro i
    have h1 := sx_diff_bit s o i
    have h2 := sx_diff_bit o s i
    rw [e] at h1
    rw [h, Nat.zero_testBit] at h2
    rw [Nat.zero_testBit]
    cases hs : s.testBit i <;> cases ho : o.testBit i <;> rw [hs, ho] at h1 h2 <;> first | rfl | exact absurd h1 (by decide) | exact absurd h2 (by decide)
def fVol (Z : Nat → Nat) (rate o m : Nat) : Nat := sx_sum (fun k => if sx_bit o k = 0 then 0 else Z k * rate + 50) m
theorem fVol_step (Z : Nat → Nat) (rate o k : Nat) : fVol Z rate o (k + 1) = fVol Z rate o k + (if sx_bit o k = 0 then 0 else Z k * rate + 50) := rfl
def fOk (Z Y : Nat → Nat) (m rate v s o : Nat) : Nat := if ¬ o = 0 ∧ sx_diff o s = 0 ∧ ¬ Y (sx_diff s o) = 99 ∧ fVol Z rate o m ≤ v then 1 else 0
def fV (Z Y : Nat → Nat) (m rate v s k : Nat) : Nat := sx_mn 99 (fOk Z Y m rate v s) (fun o => Y (sx_diff s o) + 1) k
def fT (Z Y : Nat → Nat) (m rate v K : Nat) : Prop := Y 0 = 0 ∧ ∀ s, 1 ≤ s → s < K → Y s = fV Z Y m rate v s (s + 1)
theorem fV_congr {Z Y Y2 : Nat → Nat} {m rate v s k : Nat} (h : ∀ j, j < s → Y2 j = Y j) : fV Z Y2 m rate v s k = fV Z Y m rate v s k := by
  have e1 : fOk Z Y2 m rate v s = fOk Z Y m rate v s := funext fun o => by
    unfold fOk
    by_cases h0 : ¬ o = 0 ∧ sx_diff o s = 0
    · rw [h _ (sx_sub_lt h0.1 h0.2)]
    · rw [if_neg (fun z => h0 ⟨z.1, z.2.1⟩), if_neg (fun z => h0 ⟨z.1, z.2.1⟩)]
  unfold fV
  rw [e1]
  refine sx_mn_congr (fun o _ hp => ?_)
  have h0 : ¬ o = 0 ∧ sx_diff o s = 0 := by
    rcases Classical.em (¬ o = 0 ∧ sx_diff o s = 0) with q | q
    · exact q
    · exact absurd (by unfold fOk; rw [if_neg (fun z => q ⟨z.1, z.2.1⟩)]) hp
  show Y2 _ + 1 = Y _ + 1
  rw [h _ (sx_sub_lt h0.1 h0.2)]
theorem fT_next {Z Y Y2 : Nat → Nat} {m rate v s : Nat} (h1 : 1 ≤ s) (hT : fT Z Y m rate v s) (ho : ∀ j, ¬ j = s → Y2 j = Y j) (hs : Y2 s = fV Z Y m rate v s (s + 1)) : fT Z Y2 m rate v (s + 1) := by
  refine ⟨by rw [ho 0 (by omega)]; exact hT.1, fun q q1 q2 => ?_⟩
  by_cases e : q = s
  · subst e; rw [hs]; exact (fV_congr (fun j hj => ho j (by omega))).symm
  · rw [ho q e, hT.2 q q1 (by omega)]; exact (fV_congr (fun j hj => ho j (by omega))).symm
theorem fVol_le {Z : Nat → Nat} (hZ : ∀ j, Z j ≤ 99999) {rate : Nat} (hr : rate ≤ 99) (o m : Nat) : fVol Z rate o m ≤ m * 9899951 := sx_sum_le (fun k => by
  show (if sx_bit o k = 0 then 0 else Z k * rate + 50) ≤ 9899951
  split
  · omega
  · have := Nat.mul_le_mul (hZ k) hr; omega) m
def dS (Z : Nat → Nat) (a k : Nat) : Nat := sx_sum (fun i => Z (a + i)) k
theorem dS_step (Z : Nat → Nat) (a k : Nat) : dS Z a (k + 1) = dS Z a k + Z (a + k) := rfl
theorem dS_le {Z : Nat → Nat} (hZ : ∀ j, Z j ≤ 99999) (a k : Nat) : dS Z a k ≤ k * 99999 := sx_sum_le (fun i => hZ (a + i)) k
def dP (a j : Nat) : Nat := if a ≤ j then 1 else 0
def dF (Z Y : Nat → Nat) (a z j : Nat) : Nat := dS Z a (z + 1 - a) + Y (9 * a + j) + Y (9 * j + 9 + z)
def dV (Z Y : Nat → Nat) (a z k : Nat) : Nat := sx_mn (if z = a then 0 else 2000000000) (dP a) (dF Z Y a z) k
/-- the table of looks, for the stretches of fewer than K runs of m -/
def dT (Z Y : Nat → Nat) (m K : Nat) : Prop := ∀ a z, a ≤ z → z < m → z - a + 1 < K → Y (9 * a + z) = dV Z Y a z z ∧ Y (9 * a + z) ≤ 1000000 * (z - a)
def dFi (Z Y : Nat → Nat) (m : Nat) (fv : Int32) : Prop := ∃ q, fv = nI q ∧ q < m - 1 ∧ sx_fi (dP 0) (dF Z Y 0 (m - 1)) q (dV Z Y 0 (m - 1) (m - 1))
theorem dV_congr {Z Y Y2 : Nat → Nat} {a z k : Nat} (hk : k ≤ z) (h : ∀ j, a ≤ j → j < z → Y2 (9 * a + j) = Y (9 * a + j) ∧ Y2 (9 * j + 9 + z) = Y (9 * j + 9 + z)) : dV Z Y2 a z k = dV Z Y a z k :=
  sx_mn_congr fun j hj hp => by
    have hp2 : a ≤ j := by unfold dP at hp; rcases Nat.lt_or_ge j a with q | q; exact absurd (if_neg (by omega)) hp; exact q
    obtain ⟨h1, h2⟩ := h j hp2 (by omega)
    unfold dF; rw [h1, h2]
theorem dFi_congr {Z Y Y2 : Nat → Nat} {m : Nat} {fv : Int32} (h : ∀ j, j < m - 1 → Y2 (9 * 0 + j) = Y (9 * 0 + j) ∧ Y2 (9 * j + 9 + (m - 1)) = Y (9 * j + 9 + (m - 1))) (hf : dFi Z Y m fv) : dFi Z Y2 m fv := by
  obtain ⟨q, h1, h2, h3, h4, h5⟩ := hf
  have e : ∀ j, j < m - 1 → dF Z Y2 0 (m - 1) j = dF Z Y 0 (m - 1) j := fun j hj => by obtain ⟨a1, a2⟩ := h j hj; unfold dF; rw [a1, a2]
  have e2 : dV Z Y2 0 (m - 1) (m - 1) = dV Z Y 0 (m - 1) (m - 1) := dV_congr (Nat.le_refl _) (fun j _ hj => h j hj)
  exact ⟨q, h1, h2, h3, by rw [e q h2, e2]; exact h4, fun u hu hp => by rw [e u (by omega), e2]; exact h5 u hu hp⟩
def dFq (Z Y : Nat → Nat) (a z many j best : Nat) (fv : Int32) : Prop := best < 2000000000 → 2 ≤ many → ∃ q, fv = nI q ∧ q < j ∧ sx_fi (dP a) (dF Z Y a z) q best
theorem dT_up {Z Y : Nat → Nat} {m K a z v : Nat} (hm : m ≤ 9) (hz : z < m) (haz : a ≤ z) (hK : z - a + 1 = K) (hT : dT Z Y m K) : dT Z (va_up Y (9 * a + z) v) m K := by
  have key : ∀ p q, p ≤ q → q < m → ¬ (p = a ∧ q = z) → va_up Y (9 * a + z) v (9 * p + q) = Y (9 * p + q) := fun p q h1 h2 h3 => by unfold va_up; rw [if_neg (by omega)]
  intro p q h1 h2 h3
  rw [key p q h1 h2 (by omega)]
  refine ⟨?_, (hT p q h1 h2 h3).2⟩
  rw [(hT p q h1 h2 h3).1]
  refine (dV_congr (Nat.le_refl _) (fun j j1 j2 => ⟨key p j j1 (by omega) (by omega), ?_⟩)).symm
  have := key (j + 1) q (by omega) h2 (by omega)
  rw [show 9 * (j + 1) + q = 9 * j + 9 + q by omega] at this
  exact this
theorem dV_up {Z Y : Nat → Nat} {m a z p q v k : Nat} (hm : m ≤ 9) (hz : z < m) (haz : a ≤ z) (hpq : p ≤ q) (hq : q < m) (hl : q - p = z - a) (hk : k ≤ q) : dV Z (va_up Y (9 * a + z) v) p q k = dV Z Y p q k := by
  refine dV_congr hk (fun j j1 j2 => ⟨?_, ?_⟩)
  · unfold va_up; rw [if_neg (by omega)]
  · unfold va_up; rw [if_neg (by omega)]
theorem dT_next {Z Y : Nat → Nat} {m many : Nat} (h1 : 1 ≤ many) (hT : dT Z Y m many) (hA : ∀ q, q + many ≤ m → Y (9 * q + (q + many - 1)) = dV Z Y q (q + many - 1) (q + many - 1) ∧ Y (9 * q + (q + many - 1)) ≤ 1000000 * (many - 1)) : dT Z Y m (many + 1) := by
  intro a z haz hz hl
  by_cases e : z - a + 1 = many
  · have h := hA a (by omega)
    rw [show a + many - 1 = z by omega, show many - 1 = z - a by omega] at h
    exact h
  · exact hT a z haz hz (by omega)
theorem dBest {Z Y : Nat → Nat} {m a z : Nat} (hZ : ∀ j, Z j ≤ 99999) (hm : m ≤ 9) (hz : z < m) (haz : a ≤ z) (hT : dT Z Y m (z - a + 1)) : dV Z Y a z z ≤ 1000000 * (z - a) := by
  by_cases e : z = a
  · subst e
    refine Nat.le_trans (sx_mn_le _ _ _ _) ?_
    rw [if_pos rfl]; omega
  · have h1 : dV Z Y a z z ≤ dF Z Y a z a := sx_mn_lb (by omega) (by unfold dP; rw [if_pos (Nat.le_refl _)]; decide)
    have h2 := (hT a a (Nat.le_refl _) (by omega) (by omega)).2
    have h3 := (hT (a + 1) z (by omega) hz (by omega)).2
    rw [show 9 * (a + 1) + z = 9 * a + 9 + z by omega] at h3
    have h4 := dS_le hZ a (z + 1 - a)
    have h5 : (z + 1 - a) * 99999 ≤ 9 * 99999 := Nat.mul_le_mul_right 99999 (by omega)
    unfold dF at h1
    omega
theorem dA_up {Z Y : Nat → Nat} {m many a z v : Nat} (hm : m ≤ 9) (h1 : 1 ≤ many) (hz : z + 1 = a + many) (ham : a + many ≤ m) (hA : ∀ q, q < a → Y (9 * q + (q + many - 1)) = dV Z Y q (q + many - 1) (q + many - 1) ∧ Y (9 * q + (q + many - 1)) ≤ 1000000 * (many - 1)) (hv : v = dV Z Y a z z) (hb : v ≤ 1000000 * (z - a)) : ∀ q, q < a + 1 → va_up Y (9 * a + z) v (9 * q + (q + many - 1)) = dV Z (va_up Y (9 * a + z) v) q (q + many - 1) (q + many - 1) ∧ va_up Y (9 * a + z) v (9 * q + (q + many - 1)) ≤ 1000000 * (many - 1) := by
  intro q hq
  rw [dV_up (m := m) hm (by omega) (by omega) (by omega) (by omega) (by omega) (Nat.le_refl _)]
  by_cases e : q = a
  · subst e
    rw [show q + many - 1 = z by omega]
    have e2 : va_up Y (9 * q + z) v (9 * q + z) = v := if_pos rfl
    rw [e2]
    exact ⟨hv, by omega⟩
  · have e2 : va_up Y (9 * a + z) v (9 * q + (q + many - 1)) = Y (9 * q + (q + many - 1)) := if_neg (by omega)
    rw [e2]
    exact hA q (by omega)
theorem dFi_new {Z Y : Nat → Nat} {m z v : Nat} {fv : Int32} (hZ : ∀ j, Z j ≤ 99999) (hm : m ≤ 9) (h2 : 2 ≤ m) (hz : z + 1 = m) (hv : v = dV Z Y 0 z z) (hb : v ≤ 1000000 * (z - 0)) (hfi : v < 2000000000 → 2 ≤ m → ∃ q, fv = nI q ∧ q < z ∧ sx_fi (dP 0) (dF Z Y 0 z) q v) : dFi Z (va_up Y (9 * 0 + z) v) m fv := by
  have hz2 : m - 1 = z := by omega
  obtain ⟨q, q1, q2, q3, q4, q5⟩ := hfi (by omega) h2
  have h0 : dFi Z Y m fv := by
    unfold dFi
    rw [hz2, ← hv]
    exact ⟨q, q1, q2, q3, q4, q5⟩
  refine dFi_congr (fun j hj => ⟨?_, ?_⟩) h0
  · unfold va_up; rw [if_neg (by omega)]
  · unfold va_up; rw [if_neg (by omega)]
theorem sx_l6 {l : Launch} {X : sx_X} {G : sx_g} {kc ks pc x y : Nat} {v0 v1 v2 v3 v4 v5 v7 : Nat × Value} {st : List Value} {ws : va_W} (h : x = y) (kk : sx_W l X G kc ks pc [v0, v1, v2, v3, v4, v5, (6, .int (nI y)), v7] st ws) : sx_W l X G kc ks pc [v0, v1, v2, v3, v4, v5, (6, .int (nI x)), v7] st ws := by subst h; exact kk
theorem i_X8_feed_8 : ∀ w ∈ u_ws RX8 TX8 24, w ∈ wsX8_feed := by decide +kernel
theorem m_X8_feed_f68 : Cond.fieldLink RX8 68 (TX8 9).1 (TX8 9).2.1 (TX8 9).2.2.1 ∈ wsX8_feed := by decide +kernel
theorem m_X8_feed_f74 : Cond.fieldLink RX8 74 (TX8 13).1 (TX8 13).2.1 (TX8 13).2.2.1 ∈ wsX8_feed := by decide +kernel
set_option maxHeartbeats 4000000 in
set_option maxRecDepth 100000 in
theorem c_X8_feed_n (l : Launch) (X : sx_X) (bd : Nat → Nat) (sc : Nat → Int32) (av : Nat → Nat → Nat) (a b : Int32) (h3 : sc 3 = nI 0) : sx_Mi l yX8_feed wsX8_feed { frames := 0, cells := 0, slots := 0, locals := 0 } X [.ref (bd 0), .int a, .int b] (mw X bd sc av) (fun r w => r = -1 ∧ w = mw X bd (va_up sc 2 (nI 0)) av) 0 0 := by
  refine sx_entI (own := RX8) (nL := 7) (by decide +kernel) rfl rfl (Nat.le_of_ble_eq_true rfl) ?_
  intro G hG hN hret
  show sx_W l X G 0 0 0 [(0, .ref (bd 0)), (1, .int a), (2, .int b)] [] (mw X bd sc av)
  refine sx_aload_n (pc := 0) hG dX8_feed_0 rfl 0 rfl ?_
  refine sx_iconst (pc := 1) (v := nI 0) hG dX8_feed_1 (by decide +kernel) ?_
  refine sx_put (pc := 2) (v := .int (nI 0)) (ci := 8) (w2 := (mw X bd (va_up sc 2 (nI 0)) av)) hG i_X8_feed_8 tyX8 tyX8_ok nmX8 9 m_X8_feed_f68 dX8_feed_2 rfl (by decide) 0 rfl rfl rfl rfl (Nat.le_of_ble_eq_true rfl) rfl ?_
  refine sx_aload_n (pc := 5) hG dX8_feed_5 rfl 0 rfl ?_
  refine sx_get (pc := 6) (v2 := .int (nI 0)) (ci := 8) hG i_X8_feed_8 13 m_X8_feed_f74 dX8_feed_6 rfl (by decide) 0 rfl rfl (congrArg Value.int h3) ?_
  refine sx_if_eq (pc := 9) (tgt := 33) (B := 0 = 0) hG dX8_feed_9 (by decide) (sx_eq0 (by omega)) (fun c9 => ?_) (fun c9 => ?_)
  · skip
    refine sx_iconst (pc := 33) (v := (-1)) hG dX8_feed_33 (by decide +kernel) ?_
    exact hret _ _ _ _ dX8_feed_34 rfl ⟨rfl, rfl⟩
  · skip
    exact absurd (by decide) c9

theorem m_X8_feed_c140 : Cond.constant RX8 140 (99999) ∈ wsX8_feed := by decide +kernel
set_option maxHeartbeats 4000000 in
set_option maxRecDepth 100000 in
theorem c_X8_feed_no (l : Launch) (X : sx_X) (bd : Nat → Nat) (sc : Nat → Int32) (av : Nat → Nat → Nat) (a b : Int32) (h3 : sc 3 = nI 1) (hno : ¬ (0 ≤ a.toInt ∧ a.toInt ≤ 99 ∧ 1 ≤ b.toInt ∧ b.toInt ≤ 99999)) : sx_Mi l yX8_feed wsX8_feed { frames := 0, cells := 0, slots := 0, locals := 0 } X [.ref (bd 0), .int a, .int b] (mw X bd sc av) (fun r w => r = -1 ∧ w = mw X bd (va_up sc 2 (nI 0)) av) 0 0 := by
  refine sx_entI (own := RX8) (nL := 7) (by decide +kernel) rfl rfl (Nat.le_of_ble_eq_true rfl) ?_
  intro G hG hN hret
  show sx_W l X G 0 0 0 [(0, .ref (bd 0)), (1, .int a), (2, .int b)] [] (mw X bd sc av)
  refine sx_aload_n (pc := 0) hG dX8_feed_0 rfl 0 rfl ?_
  refine sx_iconst (pc := 1) (v := nI 0) hG dX8_feed_1 (by decide +kernel) ?_
  refine sx_put (pc := 2) (v := .int (nI 0)) (ci := 8) (w2 := (mw X bd (va_up sc 2 (nI 0)) av)) hG i_X8_feed_8 tyX8 tyX8_ok nmX8 9 m_X8_feed_f68 dX8_feed_2 rfl (by decide) 0 rfl rfl rfl rfl (Nat.le_of_ble_eq_true rfl) rfl ?_
  refine sx_aload_n (pc := 5) hG dX8_feed_5 rfl 0 rfl ?_
  refine sx_get (pc := 6) (v2 := .int (nI 1)) (ci := 8) hG i_X8_feed_8 13 m_X8_feed_f74 dX8_feed_6 rfl (by decide) 0 rfl rfl (congrArg Value.int h3) ?_
  refine sx_if_eq (pc := 9) (tgt := 33) (B := 1 = 0) hG dX8_feed_9 (by decide) (sx_eq0 (by omega)) (fun c9 => ?_) (fun c9 => ?_)
  · skip
    exact absurd c9 (by decide)
  · skip
    refine sx_iload_n (pc := 12) hG dX8_feed_12 rfl 1 rfl ?_
    refine sx_if_lt (pc := 13) (tgt := 33) (B := a.toInt < 0) hG dX8_feed_13 (by decide) (sx_rlt0 _) (fun c13 => ?_) (fun c13 => ?_)
    · skip
      refine sx_iconst (pc := 33) (v := (-1)) hG dX8_feed_33 (by decide +kernel) ?_
      exact hret _ _ _ _ dX8_feed_34 rfl ⟨rfl, rfl⟩
    · skip
      refine sx_iload_n (pc := 16) hG dX8_feed_16 rfl 1 rfl ?_
      refine sx_bipush (pc := 17) (v := nI 99) hG dX8_feed_17 (by decide +kernel) ?_
      refine sx_icmp_gt (pc := 19) (tgt := 33) (B := (99 : Int) < a.toInt) hG dX8_feed_19 (by decide) (sx_rlt (nI_toInt (by omega)) rfl) (fun c19 => ?_) (fun c19 => ?_)
      · skip
        refine sx_iconst (pc := 33) (v := (-1)) hG dX8_feed_33 (by decide +kernel) ?_
        exact hret _ _ _ _ dX8_feed_34 rfl ⟨rfl, rfl⟩
      · skip
        refine sx_iload_n (pc := 22) hG dX8_feed_22 rfl 2 rfl ?_
        refine sx_iconst (pc := 23) (v := nI 1) hG dX8_feed_23 (by decide +kernel) ?_
        refine sx_icmp_lt (pc := 24) (tgt := 33) (B := b.toInt < (1 : Int)) hG dX8_feed_24 (by decide) (sx_rlt rfl (nI_toInt (by omega))) (fun c24 => ?_) (fun c24 => ?_)
        · skip
          refine sx_iconst (pc := 33) (v := (-1)) hG dX8_feed_33 (by decide +kernel) ?_
          exact hret _ _ _ _ dX8_feed_34 rfl ⟨rfl, rfl⟩
        · skip
          refine sx_iload_n (pc := 27) hG dX8_feed_27 rfl 2 rfl ?_
          refine sx_ldc (pc := 28) (v2 := nI 99999) hG m_X8_feed_c140 dX8_feed_28 (by decide +kernel) ?_
          refine sx_icmp_le (pc := 30) (tgt := 35) (B := b.toInt ≤ (99999 : Int)) hG dX8_feed_30 (by decide) (sx_rle rfl (nI_toInt (by omega))) (fun c30 => ?_) (fun c30 => ?_)
          · skip
            exact absurd ⟨by omega, by omega, by omega, by omega⟩ hno
          · skip
            refine sx_iconst (pc := 33) (v := (-1)) hG dX8_feed_33 (by decide +kernel) ?_
            exact hret _ _ _ _ dX8_feed_34 rfl ⟨rfl, rfl⟩

theorem m_X8_feed_f131 : Cond.fieldLink RX8 131 (TX8 14).1 (TX8 14).2.1 (TX8 14).2.2.1 ∈ wsX8_feed := by decide +kernel
theorem m_X8_feed_f62 : Cond.fieldLink RX8 62 (TX8 22).1 (TX8 22).2.1 (TX8 22).2.2.1 ∈ wsX8_feed := by decide +kernel
theorem m_X8_feed_f47 : Cond.fieldLink RX8 47 (TX8 17).1 (TX8 17).2.1 (TX8 17).2.2.1 ∈ wsX8_feed := by decide +kernel
set_option maxHeartbeats 4000000 in
set_option maxRecDepth 100000 in
theorem c_X8_feed_ok (l : Launch) (X : sx_X) (bd : Nat → Nat) (sc : Nat → Int32) (av : Nat → Nat → Nat) (m : Nat) (hm : m ≤ 9) (h3 : sc 3 = nI 1) (h4 : sc 4 = nI m) (hZ : ∀ j, av 12 j ≤ 99999) (rate v : Nat) (hr : rate ≤ 99) (hv1 : 1 ≤ v) (hv2 : v ≤ 99999) (hY0 : ∀ j, av 17 j ≤ 99) : sx_Mi l yX8_feed wsX8_feed { frames := 0, cells := 0, slots := 0, locals := 0 } X [.ref (bd 0), .int (nI rate), .int (nI v)] (mw X bd sc av) (fun r w => ∃ Y : Nat → Nat, (∀ j, Y j ≤ 99) ∧ fT (av 12) Y m rate v (2 ^ m) ∧ (r = if Y (2 ^ m - 1) = 99 then -1 else nI (Y (2 ^ m - 1))) ∧ w = mw X bd (va_up sc 2 (nI 0)) (va_up av 17 Y)) 0 0 := by
  refine sx_entI (own := RX8) (nL := 7) (by decide +kernel) rfl rfl (Nat.le_of_ble_eq_true rfl) ?_
  intro G hG hN hret
  show sx_W l X G 0 0 0 [(0, .ref (bd 0)), (1, .int (nI rate)), (2, .int (nI v))] [] (mw X bd sc av)
  have hp9 := sx_p9 hm
  have hp1 : 1 ≤ 2 ^ m := Nat.one_le_two_pow
  have loop_s : ∀ (fuel : Nat), ∀ (s : Nat) (Y : Nat → Nat), (1 ≤ s) → (s ≤ 2 ^ m) → (fT (av 12) Y m rate v s) → (∀ j, Y j ≤ 99) → 2 ^ m - s < fuel → sx_W l X G 0 0 44 [(0, .ref (bd 0)), (1, .int (nI rate)), (2, .int (nI v)), (3, .int (nI s))] [] (mw X bd (va_up sc 2 (nI 0)) (va_up av 17 Y)) := by
    intro fuel
    induction fuel with
    | zero => intro s Y hs1 hs hT hYb hm; exact absurd hm (Nat.not_lt_zero _)
    | succ fuel ih_s =>
      intro s Y hs1 hs hT hYb hm_s
      have loop_o : ∀ (fuel : Nat), ∀ (o : Nat) (Y1 : Nat → Nat), (s < 2 ^ m) → (1 ≤ o) → (o ≤ s + 1) → (Y1 s = fV (av 12) Y m rate v s o) → (∀ j, ¬ j = s → Y1 j = Y j) → (∀ j, Y1 j ≤ 99) → s + 1 - o < fuel → sx_W l X G 0 0 65 [(0, .ref (bd 0)), (1, .int (nI rate)), (2, .int (nI v)), (3, .int (nI s)), (4, .int (nI o))] [] (mw X bd (va_up sc 2 (nI 0)) (va_up av 17 Y1)) := by
        intro fuel
        induction fuel with
        | zero => intro o Y1 hs2 ho1 ho hYs hYo hY9 hm; exact absurd hm (Nat.not_lt_zero _)
        | succ fuel ih_o =>
          intro o Y1 hs2 ho1 ho hYs hYo hY9 hm_o
          have hd1 := sx_diff_le o s
          have hd2 := sx_diff_le s o
          have hYa := hY9 s
          have hYc := hY9 (sx_diff s o)
          have hvl := fVol_le hZ hr o m
          have hYd0 : sx_diff o s = 0 → Y1 (sx_diff s o) = Y (sx_diff s o) := fun q => hYo _ (by have := sx_sub_lt (show ¬ o = 0 by omega) q; omega)
          have loop_k : ∀ (fuel : Nat), ∀ (k : Nat), (sx_diff o s = 0) → (¬ Y1 (sx_diff s o) = 99) → (o ≤ s) → (k ≤ m) → m - k < fuel → sx_W l X G 0 0 105 [(0, .ref (bd 0)), (1, .int (nI rate)), (2, .int (nI v)), (3, .int (nI s)), (4, .int (nI o)), (5, .int (nI (fVol (av 12) rate o k))), (6, .int (nI k))] [] (mw X bd (va_up sc 2 (nI 0)) (va_up av 17 Y1)) := by
            intro fuel
            induction fuel with
            | zero => intro k c77 c93 c68 hk hm; exact absurd hm (Nat.not_lt_zero _)
            | succ fuel ih_k =>
              intro k c77 c93 c68 hk hm_k
              have hYd := hYd0 c77
              have hZk := hZ k
              have hb1 := sx_bit_le o k
              have hdv := sx_div_lt k (show o < 512 by omega)
              have hvk := fVol_le hZ hr o k
              have hzm := Nat.mul_le_mul hZk hr
              refine sx_iload (pc := 105) hG dX8_feed_105 6 rfl ?_
              refine sx_aload_n (pc := 107) hG dX8_feed_107 rfl 0 rfl ?_
              refine sx_get (pc := 108) (v2 := .int (nI m)) (ci := 8) hG i_X8_feed_8 14 m_X8_feed_f131 dX8_feed_108 rfl (by decide) 0 rfl rfl (congrArg Value.int h4) ?_
              refine sx_icmp_ge (pc := 111) (tgt := 152) (B := m ≤ k) hG dX8_feed_111 (by decide) (nI_leI (by omega) (by omega)) (fun c111 => ?_) (fun c111 => ?_)
              · skip
                have hkm : k = m := by omega
                subst hkm
                refine sx_iload (pc := 152) hG dX8_feed_152 5 rfl ?_
                refine sx_iload_n (pc := 154) hG dX8_feed_154 rfl 2 rfl ?_
                refine sx_icmp_gt (pc := 155) (tgt := 199) (B := v < (fVol (av 12) rate o k)) hG dX8_feed_155 (by decide) (nI_ltI (by omega) (by omega)) (fun c155 => ?_) (fun c155 => ?_)
                · skip
                  refine sx_iinc (pc := 199) (v := nI (o + 1)) (lv2 := [(0, .ref (bd 0)), (1, .int (nI rate)), (2, .int (nI v)), (3, .int (nI s)), (4, .int (nI (o + 1))), (5, .int (nI (fVol (av 12) rate o k))), (6, .int (nI k))]) hG [1, 2, 3, 4, 0, 5, 6] dX8_feed_199 4 rfl (sx_inc o) hN (by decide) rfl ?_
                  refine sx_goto (pc := 202) (tgt := 65) hG dX8_feed_202 (by decide) ?_
                  refine sx_lsub [0, 1, 2, 3, 4] rfl ?_
                  refine ih_o (o + 1) _ hs2 (by omega) (by omega) (by unfold fV at hYs ⊢; rw [sx_mn_skip (Or.inl (by unfold fOk; rw [if_neg (fun z => absurd z.2.2.2 (by omega))]))]; exact hYs) hYo hY9 (by omega)
                · skip
                  refine sx_aload_n (pc := 158) hG dX8_feed_158 rfl 0 rfl ?_
                  refine sx_get (pc := 159) (v2 := .ref (bd 17)) (ci := 8) hG i_X8_feed_8 22 m_X8_feed_f62 dX8_feed_159 rfl (by decide) 0 rfl rfl rfl ?_
                  refine sx_iload_n (pc := 162) hG dX8_feed_162 rfl 3 rfl ?_
                  refine sx_iload (pc := 163) hG dX8_feed_163 4 rfl ?_
                  refine sx_iconst (pc := 165) (v := (-1)) hG dX8_feed_165 (by decide +kernel) ?_
                  refine sx_ixor (pc := 166) (v := (nI o ^^^ (-1))) hG dX8_feed_166 rfl ?_
                  refine sx_iand (pc := 167) (v := (nI (sx_diff s o))) hG dX8_feed_167 (sx_andnot (by omega) (by omega)) ?_
                  refine sx_iald (pc := 168) (v := nI (Y1 (sx_diff s o))) hG 17 dX8_feed_168 rfl (by decide) (by omega) rfl ?_
                  refine sx_iconst (pc := 169) (v := nI 1) hG dX8_feed_169 (by decide +kernel) ?_
                  refine sx_iadd (pc := 170) (v := (nI (Y1 (sx_diff s o) + 1))) hG dX8_feed_170 (nI_add (Y1 (sx_diff s o)) 1) ?_
                  refine sx_aload_n (pc := 171) hG dX8_feed_171 rfl 0 rfl ?_
                  refine sx_get (pc := 172) (v2 := .ref (bd 17)) (ci := 8) hG i_X8_feed_8 22 m_X8_feed_f62 dX8_feed_172 rfl (by decide) 0 rfl rfl rfl ?_
                  refine sx_iload_n (pc := 175) hG dX8_feed_175 rfl 3 rfl ?_
                  refine sx_iald (pc := 176) (v := nI (Y1 s)) hG 17 dX8_feed_176 rfl (by decide) (by omega) rfl ?_
                  refine sx_icmp_ge (pc := 177) (tgt := 199) (B := (Y1 s) ≤ (Y1 (sx_diff s o) + 1)) hG dX8_feed_177 (by decide) (nI_leI (by omega) (by omega)) (fun c177 => ?_) (fun c177 => ?_)
                  · skip
                    refine sx_iinc (pc := 199) (v := nI (o + 1)) (lv2 := [(0, .ref (bd 0)), (1, .int (nI rate)), (2, .int (nI v)), (3, .int (nI s)), (4, .int (nI (o + 1))), (5, .int (nI (fVol (av 12) rate o k))), (6, .int (nI k))]) hG [1, 2, 3, 4, 0, 5, 6] dX8_feed_199 4 rfl (sx_inc o) hN (by decide) rfl ?_
                    refine sx_goto (pc := 202) (tgt := 65) hG dX8_feed_202 (by decide) ?_
                    refine sx_lsub [0, 1, 2, 3, 4] rfl ?_
                    refine ih_o (o + 1) _ hs2 (by omega) (by omega) (by unfold fV at hYs ⊢; rw [sx_mn_skip (Or.inr (by show ¬ Y (sx_diff s o) + 1 < _; rw [← hYs, ← hYd]; omega))]; exact hYs) hYo hY9 (by omega)
                  · skip
                    refine sx_aload_n (pc := 180) hG dX8_feed_180 rfl 0 rfl ?_
                    refine sx_get (pc := 181) (v2 := .ref (bd 17)) (ci := 8) hG i_X8_feed_8 22 m_X8_feed_f62 dX8_feed_181 rfl (by decide) 0 rfl rfl rfl ?_
                    refine sx_iload_n (pc := 184) hG dX8_feed_184 rfl 3 rfl ?_
                    refine sx_aload_n (pc := 185) hG dX8_feed_185 rfl 0 rfl ?_
                    refine sx_get (pc := 186) (v2 := .ref (bd 17)) (ci := 8) hG i_X8_feed_8 22 m_X8_feed_f62 dX8_feed_186 rfl (by decide) 0 rfl rfl rfl ?_
                    refine sx_iload_n (pc := 189) hG dX8_feed_189 rfl 3 rfl ?_
                    refine sx_iload (pc := 190) hG dX8_feed_190 4 rfl ?_
                    refine sx_iconst (pc := 192) (v := (-1)) hG dX8_feed_192 (by decide +kernel) ?_
                    refine sx_ixor (pc := 193) (v := (nI o ^^^ (-1))) hG dX8_feed_193 rfl ?_
                    refine sx_iand (pc := 194) (v := (nI (sx_diff s o))) hG dX8_feed_194 (sx_andnot (by omega) (by omega)) ?_
                    refine sx_iald (pc := 195) (v := nI (Y1 (sx_diff s o))) hG 17 dX8_feed_195 rfl (by decide) (by omega) rfl ?_
                    refine sx_iconst (pc := 196) (v := nI 1) hG dX8_feed_196 (by decide +kernel) ?_
                    refine sx_iadd (pc := 197) (v := (nI (Y1 (sx_diff s o) + 1))) hG dX8_feed_197 (nI_add (Y1 (sx_diff s o)) 1) ?_
                    refine sx_iastN (pc := 198) (w2 := (mw X bd (va_up sc 2 (nI 0)) (va_up av 17 (va_up Y1 s (Y1 (sx_diff s o) + 1))))) hG 17 dX8_feed_198 rfl (by decide) (by omega) rfl ?_
                    refine sx_iinc (pc := 199) (v := nI (o + 1)) (lv2 := [(0, .ref (bd 0)), (1, .int (nI rate)), (2, .int (nI v)), (3, .int (nI s)), (4, .int (nI (o + 1))), (5, .int (nI (fVol (av 12) rate o k))), (6, .int (nI k))]) hG [1, 2, 3, 4, 0, 5, 6] dX8_feed_199 4 rfl (sx_inc o) hN (by decide) rfl ?_
                    refine sx_goto (pc := 202) (tgt := 65) hG dX8_feed_202 (by decide) ?_
                    refine sx_lsub [0, 1, 2, 3, 4] rfl ?_
                    refine ih_o (o + 1) _ hs2 (by omega) (by omega) (by simp only [va_up, if_pos]; unfold fV at hYs ⊢; rw [sx_mn_take (by unfold fOk; rw [if_pos ⟨by omega, c77, by rw [← hYd]; exact c93, by omega⟩]; decide) (by show Y (sx_diff s o) + 1 < _; rw [← hYs, ← hYd]; omega), hYd]) (fun j hj => by unfold va_up; rw [if_neg hj]; exact hYo j hj) (fun j => by unfold va_up; split; omega; exact hY9 j) (by omega)
              · skip
                refine sx_iload (pc := 114) hG dX8_feed_114 5 rfl ?_
                refine sx_iload (pc := 116) hG dX8_feed_116 4 rfl ?_
                refine sx_iload (pc := 118) hG dX8_feed_118 6 rfl ?_
                refine sx_ishr (pc := 120) (v := (nI (o / 2 ^ k))) hG dX8_feed_120 (sx_shr (by omega) (by omega)) ?_
                refine sx_iconst (pc := 121) (v := nI 1) hG dX8_feed_121 (by decide +kernel) ?_
                refine sx_iand (pc := 122) (v := (nI (sx_bit o k))) hG dX8_feed_122 (sx_bit1 (by omega)) ?_
                refine sx_iconst (pc := 123) (v := nI 1) hG dX8_feed_123 (by decide +kernel) ?_
                refine sx_icmp_ne (pc := 124) (tgt := 142) (B := (sx_bit o k) = 1) hG dX8_feed_124 (by decide) (nI_eq (by omega) (by omega)) (fun c124 => ?_) (fun c124 => ?_)
                · skip
                  refine sx_iconst (pc := 142) (v := nI 0) hG dX8_feed_142 (by decide +kernel) ?_
                  refine sx_iadd (pc := 143) (v := (nI (fVol (av 12) rate o (k + 1)))) hG dX8_feed_143 (by rw [nI_add, fVol_step, if_pos (show sx_bit o k = 0 by omega)]) ?_
                  refine sx_istore (pc := 144) (lv2 := [(0, .ref (bd 0)), (1, .int (nI rate)), (2, .int (nI v)), (3, .int (nI s)), (4, .int (nI o)), (5, .int (nI (fVol (av 12) rate o (k + 1)))), (6, .int (nI k))]) hG [1, 2, 3, 4, 5, 0, 6] dX8_feed_144 hN (by decide) rfl ?_
                  refine sx_iinc (pc := 146) (v := nI (k + 1)) (lv2 := [(0, .ref (bd 0)), (1, .int (nI rate)), (2, .int (nI v)), (3, .int (nI s)), (4, .int (nI o)), (5, .int (nI (fVol (av 12) rate o (k + 1)))), (6, .int (nI (k + 1)))]) hG [1, 2, 3, 4, 5, 6, 0] dX8_feed_146 6 rfl (sx_inc k) hN (by decide) rfl ?_
                  refine sx_goto (pc := 149) (tgt := 105) hG dX8_feed_149 (by decide) ?_
                  refine ih_k (k + 1) c77 c93 c68 (by omega) (by omega)
                · skip
                  refine sx_aload_n (pc := 127) hG dX8_feed_127 rfl 0 rfl ?_
                  refine sx_get (pc := 128) (v2 := .ref (bd 12)) (ci := 8) hG i_X8_feed_8 17 m_X8_feed_f47 dX8_feed_128 rfl (by decide) 0 rfl rfl rfl ?_
                  refine sx_iload (pc := 131) hG dX8_feed_131 6 rfl ?_
                  refine sx_iald (pc := 133) (v := nI ((av 12) k)) hG 12 dX8_feed_133 rfl (by decide) (by omega) rfl ?_
                  refine sx_iload_n (pc := 134) hG dX8_feed_134 rfl 1 rfl ?_
                  refine sx_imul (pc := 135) (v := (nI (((av 12) k) * rate))) hG dX8_feed_135 (pk_mul ((av 12) k) rate) ?_
                  refine sx_bipush (pc := 136) (v := nI 50) hG dX8_feed_136 (by decide +kernel) ?_
                  refine sx_iadd (pc := 138) (v := (nI (((av 12) k) * rate + 50))) hG dX8_feed_138 (nI_add (((av 12) k) * rate) 50) ?_
                  refine sx_goto (pc := 139) (tgt := 143) hG dX8_feed_139 (by decide) ?_
                  refine sx_iadd (pc := 143) (v := (nI (fVol (av 12) rate o (k + 1)))) hG dX8_feed_143 (by rw [nI_add, fVol_step, if_neg (show ¬ sx_bit o k = 0 by omega)]) ?_
                  refine sx_istore (pc := 144) (lv2 := [(0, .ref (bd 0)), (1, .int (nI rate)), (2, .int (nI v)), (3, .int (nI s)), (4, .int (nI o)), (5, .int (nI (fVol (av 12) rate o (k + 1)))), (6, .int (nI k))]) hG [1, 2, 3, 4, 5, 0, 6] dX8_feed_144 hN (by decide) rfl ?_
                  refine sx_iinc (pc := 146) (v := nI (k + 1)) (lv2 := [(0, .ref (bd 0)), (1, .int (nI rate)), (2, .int (nI v)), (3, .int (nI s)), (4, .int (nI o)), (5, .int (nI (fVol (av 12) rate o (k + 1)))), (6, .int (nI (k + 1)))]) hG [1, 2, 3, 4, 5, 6, 0] dX8_feed_146 6 rfl (sx_inc k) hN (by decide) rfl ?_
                  refine sx_goto (pc := 149) (tgt := 105) hG dX8_feed_149 (by decide) ?_
                  refine ih_k (k + 1) c77 c93 c68 (by omega) (by omega)
          refine sx_iload (pc := 65) hG dX8_feed_65 4 rfl ?_
          refine sx_iload_n (pc := 67) hG dX8_feed_67 rfl 3 rfl ?_
          refine sx_icmp_gt (pc := 68) (tgt := 205) (B := s < o) hG dX8_feed_68 (by decide) (nI_ltI (by omega) (by omega)) (fun c68 => ?_) (fun c68 => ?_)
          · skip
            refine sx_iinc (pc := 205) (v := nI (s + 1)) (lv2 := [(0, .ref (bd 0)), (1, .int (nI rate)), (2, .int (nI v)), (3, .int (nI (s + 1))), (4, .int (nI o))]) hG [1, 2, 3, 0, 4] dX8_feed_205 3 rfl (sx_inc s) hN (by decide) rfl ?_
            refine sx_goto (pc := 208) (tgt := 44) hG dX8_feed_208 (by decide) ?_
            refine sx_lsub [0, 1, 2, 3] rfl ?_
            refine ih_s (s + 1) Y1 (by omega) (by omega) (fT_next hs1 hT hYo (by rw [hYs, show o = s + 1 by omega])) hY9 (by omega)
          · skip
            refine sx_iload (pc := 71) hG dX8_feed_71 4 rfl ?_
            refine sx_iload_n (pc := 73) hG dX8_feed_73 rfl 3 rfl ?_
            refine sx_iconst (pc := 74) (v := (-1)) hG dX8_feed_74 (by decide +kernel) ?_
            refine sx_ixor (pc := 75) (v := (nI s ^^^ (-1))) hG dX8_feed_75 rfl ?_
            refine sx_iand (pc := 76) (v := (nI (sx_diff o s))) hG dX8_feed_76 (sx_andnot (by omega) (by omega)) ?_
            refine sx_if_ne (pc := 77) (tgt := 199) (B := (sx_diff o s) = 0) hG dX8_feed_77 (by decide) (sx_eq0 (by omega)) (fun c77 => ?_) (fun c77 => ?_)
            · skip
              refine sx_iinc (pc := 199) (v := nI (o + 1)) (lv2 := [(0, .ref (bd 0)), (1, .int (nI rate)), (2, .int (nI v)), (3, .int (nI s)), (4, .int (nI (o + 1)))]) hG [1, 2, 3, 4, 0] dX8_feed_199 4 rfl (sx_inc o) hN (by decide) rfl ?_
              refine sx_goto (pc := 202) (tgt := 65) hG dX8_feed_202 (by decide) ?_
              refine ih_o (o + 1) _ hs2 (by omega) (by omega) (by unfold fV at hYs ⊢; rw [sx_mn_skip (Or.inl (by unfold fOk; rw [if_neg (fun z => c77 z.2.1)]))]; exact hYs) hYo hY9 (by omega)
            · skip
              refine sx_aload_n (pc := 80) hG dX8_feed_80 rfl 0 rfl ?_
              refine sx_get (pc := 81) (v2 := .ref (bd 17)) (ci := 8) hG i_X8_feed_8 22 m_X8_feed_f62 dX8_feed_81 rfl (by decide) 0 rfl rfl rfl ?_
              refine sx_iload_n (pc := 84) hG dX8_feed_84 rfl 3 rfl ?_
              refine sx_iload (pc := 85) hG dX8_feed_85 4 rfl ?_
              refine sx_iconst (pc := 87) (v := (-1)) hG dX8_feed_87 (by decide +kernel) ?_
              refine sx_ixor (pc := 88) (v := (nI o ^^^ (-1))) hG dX8_feed_88 rfl ?_
              refine sx_iand (pc := 89) (v := (nI (sx_diff s o))) hG dX8_feed_89 (sx_andnot (by omega) (by omega)) ?_
              refine sx_iald (pc := 90) (v := nI (Y1 (sx_diff s o))) hG 17 dX8_feed_90 rfl (by decide) (by omega) rfl ?_
              refine sx_bipush (pc := 91) (v := nI 99) hG dX8_feed_91 (by decide +kernel) ?_
              have hYd := hYd0 c77
              refine sx_icmp_ne (pc := 93) (tgt := 99) (B := (Y1 (sx_diff s o)) = 99) hG dX8_feed_93 (by decide) (nI_eq (by omega) (by omega)) (fun c93 => ?_) (fun c93 => ?_)
              · skip
                refine sx_iconst (pc := 99) (v := nI 0) hG dX8_feed_99 (by decide +kernel) ?_
                refine sx_istore (pc := 100) (lv2 := [(0, .ref (bd 0)), (1, .int (nI rate)), (2, .int (nI v)), (3, .int (nI s)), (4, .int (nI o)), (5, .int (nI 0))]) hG [1, 2, 3, 4, 5, 0] dX8_feed_100 hN (by decide) rfl ?_
                refine sx_iconst (pc := 102) (v := nI 0) hG dX8_feed_102 (by decide +kernel) ?_
                refine sx_istore (pc := 103) (lv2 := [(0, .ref (bd 0)), (1, .int (nI rate)), (2, .int (nI v)), (3, .int (nI s)), (4, .int (nI o)), (5, .int (nI 0)), (6, .int (nI 0))]) hG [1, 2, 3, 4, 5, 6, 0] dX8_feed_103 hN (by decide) rfl ?_
                refine loop_k _ 0 c77 c93 (by omega) (Nat.zero_le _) (Nat.lt_succ_self _)
              · skip
                refine sx_goto (pc := 96) (tgt := 199) hG dX8_feed_96 (by decide) ?_
                refine sx_iinc (pc := 199) (v := nI (o + 1)) (lv2 := [(0, .ref (bd 0)), (1, .int (nI rate)), (2, .int (nI v)), (3, .int (nI s)), (4, .int (nI (o + 1)))]) hG [1, 2, 3, 4, 0] dX8_feed_199 4 rfl (sx_inc o) hN (by decide) rfl ?_
                refine sx_goto (pc := 202) (tgt := 65) hG dX8_feed_202 (by decide) ?_
                refine ih_o (o + 1) _ hs2 (by omega) (by omega) (by unfold fV at hYs ⊢; rw [sx_mn_skip (Or.inl (by unfold fOk; rw [if_neg (fun z => z.2.2.1 (by rw [← hYd]; exact c93))]))]; exact hYs) hYo hY9 (by omega)
      refine sx_iload_n (pc := 44) hG dX8_feed_44 rfl 3 rfl ?_
      refine sx_iconst (pc := 45) (v := nI 1) hG dX8_feed_45 (by decide +kernel) ?_
      refine sx_aload_n (pc := 46) hG dX8_feed_46 rfl 0 rfl ?_
      refine sx_get (pc := 47) (v2 := .int (nI m)) (ci := 8) hG i_X8_feed_8 14 m_X8_feed_f131 dX8_feed_47 rfl (by decide) 0 rfl rfl (congrArg Value.int h4) ?_
      refine sx_ishl (pc := 50) (v := (nI (2 ^ m))) hG dX8_feed_50 (sx_one (by omega)) ?_
      refine sx_icmp_ge (pc := 51) (tgt := 211) (B := (2 ^ m) ≤ s) hG dX8_feed_51 (by decide) (nI_leI (by omega) (by omega)) (fun c51 => ?_) (fun c51 => ?_)
      · skip
        refine sx_aload_n (pc := 211) hG dX8_feed_211 rfl 0 rfl ?_
        refine sx_get (pc := 212) (v2 := .ref (bd 17)) (ci := 8) hG i_X8_feed_8 22 m_X8_feed_f62 dX8_feed_212 rfl (by decide) 0 rfl rfl rfl ?_
        refine sx_iconst (pc := 215) (v := nI 1) hG dX8_feed_215 (by decide +kernel) ?_
        refine sx_aload_n (pc := 216) hG dX8_feed_216 rfl 0 rfl ?_
        refine sx_get (pc := 217) (v2 := .int (nI m)) (ci := 8) hG i_X8_feed_8 14 m_X8_feed_f131 dX8_feed_217 rfl (by decide) 0 rfl rfl (congrArg Value.int h4) ?_
        refine sx_ishl (pc := 220) (v := (nI (2 ^ m))) hG dX8_feed_220 (sx_one (by omega)) ?_
        refine sx_iconst (pc := 221) (v := nI 1) hG dX8_feed_221 (by decide +kernel) ?_
        refine sx_isub (pc := 222) (v := (nI ((2 ^ m) - 1))) hG dX8_feed_222 (pk_sub (by omega)) ?_
        refine sx_iald (pc := 223) (v := nI (Y ((2 ^ m) - 1))) hG 17 dX8_feed_223 rfl (by decide) (by omega) rfl ?_
        refine sx_istore_n (pc := 224) (lv2 := [(0, .ref (bd 0)), (1, .int (nI rate)), (2, .int (nI v)), (3, .int (nI (Y ((2 ^ m) - 1))))]) hG [1, 2, 3, 0] dX8_feed_224 rfl hN (by decide) rfl ?_
        refine sx_iload_n (pc := 225) hG dX8_feed_225 rfl 3 rfl ?_
        refine sx_bipush (pc := 226) (v := nI 99) hG dX8_feed_226 (by decide +kernel) ?_
        have hYz := hYb (2 ^ m - 1)
        refine sx_icmp_ne (pc := 228) (tgt := 235) (B := (Y ((2 ^ m) - 1)) = 99) hG dX8_feed_228 (by decide) (nI_eq (by omega) (by omega)) (fun c228 => ?_) (fun c228 => ?_)
        · skip
          refine sx_iload_n (pc := 235) hG dX8_feed_235 rfl 3 rfl ?_
          have hsm : s = 2 ^ m := by omega
          have hT2 : fT (av 12) Y m rate v (2 ^ m) := by rw [← hsm]; exact hT
          exact hret _ _ _ _ dX8_feed_236 rfl ⟨Y, hYb, hT2, (by first | exact (if_pos c228).symm | exact (if_neg c228).symm), rfl⟩
        · skip
          refine sx_iconst (pc := 231) (v := (-1)) hG dX8_feed_231 (by decide +kernel) ?_
          refine sx_goto (pc := 232) (tgt := 236) hG dX8_feed_232 (by decide) ?_
          have hsm : s = 2 ^ m := by omega
          have hT2 : fT (av 12) Y m rate v (2 ^ m) := by rw [← hsm]; exact hT
          exact hret _ _ _ _ dX8_feed_236 rfl ⟨Y, hYb, hT2, (by first | exact (if_pos c228).symm | exact (if_neg c228).symm), rfl⟩
      · skip
        refine sx_aload_n (pc := 54) hG dX8_feed_54 rfl 0 rfl ?_
        refine sx_get (pc := 55) (v2 := .ref (bd 17)) (ci := 8) hG i_X8_feed_8 22 m_X8_feed_f62 dX8_feed_55 rfl (by decide) 0 rfl rfl rfl ?_
        refine sx_iload_n (pc := 58) hG dX8_feed_58 rfl 3 rfl ?_
        refine sx_bipush (pc := 59) (v := nI 99) hG dX8_feed_59 (by decide +kernel) ?_
        refine sx_iastN (pc := 61) (w2 := (mw X bd (va_up sc 2 (nI 0)) (va_up av 17 (va_up Y s 99)))) hG 17 dX8_feed_61 rfl (by decide) (by omega) rfl ?_
        refine sx_iconst (pc := 62) (v := nI 1) hG dX8_feed_62 (by decide +kernel) ?_
        refine sx_istore (pc := 63) (lv2 := [(0, .ref (bd 0)), (1, .int (nI rate)), (2, .int (nI v)), (3, .int (nI s)), (4, .int (nI 1))]) hG [1, 2, 3, 4, 0] dX8_feed_63 hN (by decide) rfl ?_
        refine loop_o _ 1 _ (by omega) (Nat.le_refl _) (by omega) (by simp only [va_up, if_pos]; unfold fV; rw [sx_mn_init]; intro u hu; unfold fOk; rw [if_neg (fun z => z.1 (by omega))]) (fun j hj => by unfold va_up; rw [if_neg hj]) (fun j => by unfold va_up; split; omega; exact hYb j) (Nat.lt_succ_self _)
  refine sx_aload_n (pc := 0) hG dX8_feed_0 rfl 0 rfl ?_
  refine sx_iconst (pc := 1) (v := nI 0) hG dX8_feed_1 (by decide +kernel) ?_
  refine sx_put (pc := 2) (v := .int (nI 0)) (ci := 8) (w2 := (mw X bd (va_up sc 2 (nI 0)) av)) hG i_X8_feed_8 tyX8 tyX8_ok nmX8 9 m_X8_feed_f68 dX8_feed_2 rfl (by decide) 0 rfl rfl rfl rfl (Nat.le_of_ble_eq_true rfl) rfl ?_
  refine sx_aload_n (pc := 5) hG dX8_feed_5 rfl 0 rfl ?_
  refine sx_get (pc := 6) (v2 := .int (nI 1)) (ci := 8) hG i_X8_feed_8 13 m_X8_feed_f74 dX8_feed_6 rfl (by decide) 0 rfl rfl (congrArg Value.int h3) ?_
  refine sx_if_eq (pc := 9) (tgt := 33) (B := 1 = 0) hG dX8_feed_9 (by decide) (sx_eq0 (by omega)) (fun c9 => ?_) (fun c9 => ?_)
  · skip
    exact absurd c9 (by decide)
  · skip
    refine sx_iload_n (pc := 12) hG dX8_feed_12 rfl 1 rfl ?_
    refine sx_if_lt (pc := 13) (tgt := 33) (B := False) hG dX8_feed_13 (by decide) (sx_lt0 (by omega)) (fun c13 => ?_) (fun c13 => ?_)
    · skip
      exact absurd c13 (by decide)
    · skip
      refine sx_iload_n (pc := 16) hG dX8_feed_16 rfl 1 rfl ?_
      refine sx_bipush (pc := 17) (v := nI 99) hG dX8_feed_17 (by decide +kernel) ?_
      refine sx_icmp_gt (pc := 19) (tgt := 33) (B := 99 < rate) hG dX8_feed_19 (by decide) (nI_ltI (by omega) (by omega)) (fun c19 => ?_) (fun c19 => ?_)
      · skip
        exact absurd c19 (by omega)
      · skip
        refine sx_iload_n (pc := 22) hG dX8_feed_22 rfl 2 rfl ?_
        refine sx_iconst (pc := 23) (v := nI 1) hG dX8_feed_23 (by decide +kernel) ?_
        refine sx_icmp_lt (pc := 24) (tgt := 33) (B := v < 1) hG dX8_feed_24 (by decide) (nI_ltI (by omega) (by omega)) (fun c24 => ?_) (fun c24 => ?_)
        · skip
          exact absurd c24 (by omega)
        · skip
          refine sx_iload_n (pc := 27) hG dX8_feed_27 rfl 2 rfl ?_
          refine sx_ldc (pc := 28) (v2 := nI 99999) hG m_X8_feed_c140 dX8_feed_28 (by decide +kernel) ?_
          refine sx_icmp_le (pc := 30) (tgt := 35) (B := v ≤ 99999) hG dX8_feed_30 (by decide) (nI_leI (by omega) (by omega)) (fun c30 => ?_) (fun c30 => ?_)
          · skip
            refine sx_aload_n (pc := 35) hG dX8_feed_35 rfl 0 rfl ?_
            refine sx_get (pc := 36) (v2 := .ref (bd 17)) (ci := 8) hG i_X8_feed_8 22 m_X8_feed_f62 dX8_feed_36 rfl (by decide) 0 rfl rfl rfl ?_
            refine sx_iconst (pc := 39) (v := nI 0) hG dX8_feed_39 (by decide +kernel) ?_
            refine sx_iconst (pc := 40) (v := nI 0) hG dX8_feed_40 (by decide +kernel) ?_
            refine sx_iastN (pc := 41) (w2 := (mw X bd (va_up sc 2 (nI 0)) (va_up av 17 (va_up (av 17) 0 0)))) hG 17 dX8_feed_41 rfl (by decide) (by omega) rfl ?_
            refine sx_iconst (pc := 42) (v := nI 1) hG dX8_feed_42 (by decide +kernel) ?_
            refine sx_istore_n (pc := 43) (lv2 := [(0, .ref (bd 0)), (1, .int (nI rate)), (2, .int (nI v)), (3, .int (nI 1))]) hG [1, 2, 3, 0] dX8_feed_43 rfl hN (by decide) rfl ?_
            refine loop_s _ 1 _ (Nat.le_refl _) hp1 ⟨rfl, fun q h1 h2 => absurd h2 (by omega)⟩ (fun j => by unfold va_up; split; omega; exact hY0 j) (Nat.lt_succ_self _)
          · skip
            exact absurd c30 (by omega)

theorem i_X8_dead_8 : ∀ w ∈ u_ws RX8 TX8 24, w ∈ wsX8_dead := by decide +kernel
theorem m_X8_dead_f68 : Cond.fieldLink RX8 68 (TX8 9).1 (TX8 9).2.1 (TX8 9).2.2.1 ∈ wsX8_dead := by decide +kernel
theorem m_X8_dead_f74 : Cond.fieldLink RX8 74 (TX8 13).1 (TX8 13).2.1 (TX8 13).2.2.1 ∈ wsX8_dead := by decide +kernel
set_option maxHeartbeats 4000000 in
set_option maxRecDepth 100000 in
theorem c_X8_dead_n (l : Launch) (X : sx_X) (bd : Nat → Nat) (sc : Nat → Int32) (av : Nat → Nat → Nat) (a : Int32) (h3 : sc 3 = nI 0) : sx_Mi l yX8_dead wsX8_dead { frames := 0, cells := 0, slots := 0, locals := 0 } X [.ref (bd 0), .int a] (mw X bd sc av) (fun r w => r = -1 ∧ w = mw X bd (va_up sc 2 (nI 0)) av) 0 0 := by
  refine sx_entI (own := RX8) (nL := 10) (by decide +kernel) rfl rfl (Nat.le_of_ble_eq_true rfl) ?_
  intro G hG hN hret
  show sx_W l X G 0 0 0 [(0, .ref (bd 0)), (1, .int a)] [] (mw X bd sc av)
  refine sx_aload_n (pc := 0) hG dX8_dead_0 rfl 0 rfl ?_
  refine sx_iconst (pc := 1) (v := nI 0) hG dX8_dead_1 (by decide +kernel) ?_
  refine sx_put (pc := 2) (v := .int (nI 0)) (ci := 8) (w2 := (mw X bd (va_up sc 2 (nI 0)) av)) hG i_X8_dead_8 tyX8 tyX8_ok nmX8 9 m_X8_dead_f68 dX8_dead_2 rfl (by decide) 0 rfl rfl rfl rfl (Nat.le_of_ble_eq_true rfl) rfl ?_
  refine sx_aload_n (pc := 5) hG dX8_dead_5 rfl 0 rfl ?_
  refine sx_get (pc := 6) (v2 := .int (nI 0)) (ci := 8) hG i_X8_dead_8 13 m_X8_dead_f74 dX8_dead_6 rfl (by decide) 0 rfl rfl (congrArg Value.int h3) ?_
  refine sx_if_eq (pc := 9) (tgt := 21) (B := 0 = 0) hG dX8_dead_9 (by decide) (sx_eq0 (by omega)) (fun c9 => ?_) (fun c9 => ?_)
  · skip
    refine sx_iconst (pc := 21) (v := (-1)) hG dX8_dead_21 (by decide +kernel) ?_
    exact hret _ _ _ _ dX8_dead_22 rfl ⟨rfl, rfl⟩
  · skip
    exact absurd (by decide) c9

set_option maxHeartbeats 4000000 in
set_option maxRecDepth 100000 in
theorem c_X8_dead_no (l : Launch) (X : sx_X) (bd : Nat → Nat) (sc : Nat → Int32) (av : Nat → Nat → Nat) (a : Int32) (h3 : sc 3 = nI 1) (hno : a.toInt < 0 ∨ 1 < a.toInt) : sx_Mi l yX8_dead wsX8_dead { frames := 0, cells := 0, slots := 0, locals := 0 } X [.ref (bd 0), .int a] (mw X bd sc av) (fun r w => r = -1 ∧ w = mw X bd (va_up sc 2 (nI 0)) av) 0 0 := by
  refine sx_entI (own := RX8) (nL := 10) (by decide +kernel) rfl rfl (Nat.le_of_ble_eq_true rfl) ?_
  intro G hG hN hret
  show sx_W l X G 0 0 0 [(0, .ref (bd 0)), (1, .int a)] [] (mw X bd sc av)
  refine sx_aload_n (pc := 0) hG dX8_dead_0 rfl 0 rfl ?_
  refine sx_iconst (pc := 1) (v := nI 0) hG dX8_dead_1 (by decide +kernel) ?_
  refine sx_put (pc := 2) (v := .int (nI 0)) (ci := 8) (w2 := (mw X bd (va_up sc 2 (nI 0)) av)) hG i_X8_dead_8 tyX8 tyX8_ok nmX8 9 m_X8_dead_f68 dX8_dead_2 rfl (by decide) 0 rfl rfl rfl rfl (Nat.le_of_ble_eq_true rfl) rfl ?_
  refine sx_aload_n (pc := 5) hG dX8_dead_5 rfl 0 rfl ?_
  refine sx_get (pc := 6) (v2 := .int (nI 1)) (ci := 8) hG i_X8_dead_8 13 m_X8_dead_f74 dX8_dead_6 rfl (by decide) 0 rfl rfl (congrArg Value.int h3) ?_
  refine sx_if_eq (pc := 9) (tgt := 21) (B := 1 = 0) hG dX8_dead_9 (by decide) (sx_eq0 (by omega)) (fun c9 => ?_) (fun c9 => ?_)
  · skip
    exact absurd c9 (by decide)
  · skip
    refine sx_iload_n (pc := 12) hG dX8_dead_12 rfl 1 rfl ?_
    refine sx_if_lt (pc := 13) (tgt := 21) (B := a.toInt < 0) hG dX8_dead_13 (by decide) (sx_rlt0 _) (fun c13 => ?_) (fun c13 => ?_)
    · skip
      refine sx_iconst (pc := 21) (v := (-1)) hG dX8_dead_21 (by decide +kernel) ?_
      exact hret _ _ _ _ dX8_dead_22 rfl ⟨rfl, rfl⟩
    · skip
      refine sx_iload_n (pc := 16) hG dX8_dead_16 rfl 1 rfl ?_
      refine sx_iconst (pc := 17) (v := nI 1) hG dX8_dead_17 (by decide +kernel) ?_
      refine sx_icmp_le (pc := 18) (tgt := 23) (B := a.toInt ≤ (1 : Int)) hG dX8_dead_18 (by decide) (sx_rle rfl (nI_toInt (by omega))) (fun c18 => ?_) (fun c18 => ?_)
      · skip
        exact absurd c18 (by omega)
      · skip
        refine sx_iconst (pc := 21) (v := (-1)) hG dX8_dead_21 (by decide +kernel) ?_
        exact hret _ _ _ _ dX8_dead_22 rfl ⟨rfl, rfl⟩

theorem m_X8_dead_f65 : Cond.fieldLink RX8 65 (TX8 23).1 (TX8 23).2.1 (TX8 23).2.2.1 ∈ wsX8_dead := by decide +kernel
theorem m_X8_dead_c111 : Cond.constant RX8 111 (2000000000) ∈ wsX8_dead := by decide +kernel
theorem m_X8_dead_f47 : Cond.fieldLink RX8 47 (TX8 17).1 (TX8 17).2.1 (TX8 17).2.2.1 ∈ wsX8_dead := by decide +kernel
theorem m_X8_dead_f131 : Cond.fieldLink RX8 131 (TX8 14).1 (TX8 14).2.1 (TX8 14).2.2.1 ∈ wsX8_dead := by decide +kernel
set_option maxHeartbeats 4000000 in
set_option maxRecDepth 100000 in
theorem c_X8_dead_0 (l : Launch) (X : sx_X) (bd : Nat → Nat) (sc : Nat → Int32) (av : Nat → Nat → Nat) (m : Nat) (hm : m ≤ 9) (h3 : sc 3 = nI 1) (h4 : sc 4 = nI m) (hZ : ∀ j, av 12 j ≤ 99999) (hY0 : ∀ j, av 18 j ≤ 2000000000) : sx_Mi l yX8_dead wsX8_dead { frames := 0, cells := 0, slots := 0, locals := 0 } X [.ref (bd 0), .int (nI 0)] (mw X bd sc av) (fun r w => ∃ Y : Nat → Nat, (∀ j, Y j ≤ 2000000000) ∧ dT (av 12) Y m (m + 1) ∧ (r = if m = 0 then nI 0 else nI (Y (m - 1))) ∧ w = mw X bd (va_up sc 2 (nI 0)) (va_up av 18 Y)) 0 0 := by
  refine sx_entI (own := RX8) (nL := 10) (by decide +kernel) rfl rfl (Nat.le_of_ble_eq_true rfl) ?_
  intro G hG hN hret
  show sx_W l X G 0 0 0 [(0, .ref (bd 0)), (1, .int (nI 0))] [] (mw X bd sc av)
  have loop_M : ∀ (fuel : Nat), ∀ (many : Nat) (fv : Int32) (Y : Nat → Nat), (1 ≤ many) → (many ≤ m + 1) → (dT (av 12) Y m many) → (∀ j, Y j ≤ 2000000000) → (m < many → 2 ≤ m → dFi (av 12) Y m fv) → m + 1 - many < fuel → sx_W l X G 0 0 27 [(0, .ref (bd 0)), (1, .int (nI 0)), (2, .int fv), (3, .int (nI many))] [] (mw X bd (va_up sc 2 (nI 0)) (va_up av 18 Y)) := by
    intro fuel
    induction fuel with
    | zero => intro many fv Y hm1 hm2 hT hYb hf hm; exact absurd hm (Nat.not_lt_zero _)
    | succ fuel ih_M =>
      intro many fv Y hm1 hm2 hT hYb hf hm_M
      have loop_A : ∀ (fuel : Nat), ∀ (a : Nat) (fv1 : Int32) (Y1 : Nat → Nat), (many ≤ m) → (a + many ≤ m + 1) → (dT (av 12) Y1 m many) → (∀ q, q < a → Y1 (9 * q + (q + many - 1)) = dV (av 12) Y1 q (q + many - 1) (q + many - 1) ∧ Y1 (9 * q + (q + many - 1)) ≤ 1000000 * (many - 1)) → (∀ j, Y1 j ≤ 2000000000) → (many = m → 1 ≤ a → 2 ≤ m → dFi (av 12) Y1 m fv1) → m + 1 - a < fuel → sx_W l X G 0 0 38 [(0, .ref (bd 0)), (1, .int (nI 0)), (2, .int fv1), (3, .int (nI many)), (4, .int (nI a))] [] (mw X bd (va_up sc 2 (nI 0)) (va_up av 18 Y1)) := by
        intro fuel
        induction fuel with
        | zero => intro a fv1 Y1 hmm ha hT1 hA hYb1 hf1 hm; exact absurd hm (Nat.not_lt_zero _)
        | succ fuel ih_A =>
          intro a fv1 Y1 hmm ha hT1 hA hYb1 hf1 hm_A
          have loop_J : ∀ (fuel : Nat), ∀ (j best z : Nat) (fv2 : Int32), (z + 1 = a + many) → (a + many ≤ m) → (a ≤ j) → (j ≤ z) → (best = dV (av 12) Y1 a z j) → (dFq (av 12) Y1 a z many j best fv2) → z - j < fuel → sx_W l X G 0 0 106 [(0, .ref (bd 0)), (1, .int (nI 0)), (2, .int fv2), (3, .int (nI many)), (4, .int (nI a)), (5, .int (nI z)), (6, .int (nI (dS (av 12) a many))), (7, .int (nI best)), (8, .int (nI j))] [] (mw X bd (va_up sc 2 (nI 0)) (va_up av 18 Y1)) := by
            intro fuel
            induction fuel with
            | zero => intro j best z fv2 hz1 ham hj1 hj2 hb hfi hm; exact absurd hm (Nat.not_lt_zero _)
            | succ fuel ih_J =>
              intro j best z fv2 hz1 ham hj1 hj2 hb hfi hm_J
              have hbl : best ≤ 2000000000 := by subst hb; refine Nat.le_trans (sx_mn_le _ _ _ _) ?_; split <;> omega
              have hsl := dS_le hZ a many
              have hs9 : many * 99999 ≤ 9 * 99999 := Nat.mul_le_mul_right 99999 (by omega)
              have hdf : dF (av 12) Y1 a z j = dS (av 12) a many + Y1 (9 * a + j) + Y1 (9 * j + 9 + z) := by unfold dF; rw [show z + 1 - a = many by omega]
              have hy1 : j < z → Y1 (9 * a + j) ≤ 1000000 * (j - a) ∧ Y1 (9 * j + 9 + z) ≤ 1000000 * (z - (j + 1)) := fun q => ⟨(hT1 a j hj1 (by omega) (by omega)).2, by have h9 := (hT1 (j + 1) z (by omega) (by omega) (by omega)).2; rw [show 9 * (j + 1) + z = 9 * j + 9 + z by omega] at h9; exact h9⟩
              refine sx_iload (pc := 106) hG dX8_dead_106 8 rfl ?_
              refine sx_iload (pc := 108) hG dX8_dead_108 5 rfl ?_
              refine sx_icmp_ge (pc := 110) (tgt := 171) (B := z ≤ j) hG dX8_dead_110 (by decide) (nI_leI (by omega) (by omega)) (fun c110 => ?_) (fun c110 => ?_)
              · skip
                have hjz : j = z := by omega
                clear hy1
                subst hjz
                have hbz := hb
                have hbb : best ≤ 1000000 * (j - a) := by rw [hb]; exact dBest hZ hm (by omega) hj1 (by rw [show j - a + 1 = many by omega]; exact hT1)
                have hnew : many = m → 2 ≤ m → dFi (av 12) (va_up Y1 (9 * a + j) best) m fv2 := fun h1 h3 => by have h0 : a = 0 := (by omega); subst h0; exact dFi_new hZ hm h3 (by omega) hbz hbb (fun h4 _ => hfi h4 (by omega))
                refine sx_aload_n (pc := 171) hG dX8_dead_171 rfl 0 rfl ?_
                refine sx_get (pc := 172) (v2 := .ref (bd 18)) (ci := 8) hG i_X8_dead_8 23 m_X8_dead_f65 dX8_dead_172 rfl (by decide) 0 rfl rfl rfl ?_
                refine sx_bipush (pc := 175) (v := nI 9) hG dX8_dead_175 (by decide +kernel) ?_
                refine sx_iload (pc := 177) hG dX8_dead_177 4 rfl ?_
                refine sx_imul (pc := 179) (v := (nI (9 * a))) hG dX8_dead_179 (pk_mul 9 a) ?_
                refine sx_iload (pc := 180) hG dX8_dead_180 5 rfl ?_
                refine sx_iadd (pc := 182) (v := (nI (9 * a + j))) hG dX8_dead_182 (nI_add (9 * a) j) ?_
                refine sx_iload (pc := 183) hG dX8_dead_183 7 rfl ?_
                refine sx_iastN (pc := 185) (w2 := (mw X bd (va_up sc 2 (nI 0)) (va_up av 18 (va_up Y1 (9 * a + j) best)))) hG 18 dX8_dead_185 rfl (by decide) (by omega) rfl ?_
                refine sx_iinc (pc := 186) (v := nI (a + 1)) (lv2 := [(0, .ref (bd 0)), (1, .int (nI 0)), (2, .int fv2), (3, .int (nI many)), (4, .int (nI (a + 1))), (5, .int (nI j)), (6, .int (nI (dS (av 12) a many))), (7, .int (nI best)), (8, .int (nI j))]) hG [1, 2, 3, 4, 0, 5, 6, 7, 8] dX8_dead_186 4 rfl (sx_inc a) hN (by decide) rfl ?_
                refine sx_goto (pc := 189) (tgt := 38) hG dX8_dead_189 (by decide) ?_
                refine sx_lsub [0, 1, 2, 3, 4] rfl ?_
                refine ih_A (a + 1) fv2 (va_up Y1 (9 * a + j) best) hmm (by omega) (dT_up hm (by omega) (by omega) (by omega) hT1) (dA_up hm hm1 hz1 ham hA hbz hbb) (fun j => by unfold va_up; split; omega; exact hYb1 j) (fun h1 h2 h3 => hnew h1 h3) (by omega)
              · skip
                refine sx_iload (pc := 113) hG dX8_dead_113 6 rfl ?_
                refine sx_aload_n (pc := 115) hG dX8_dead_115 rfl 0 rfl ?_
                refine sx_get (pc := 116) (v2 := .ref (bd 18)) (ci := 8) hG i_X8_dead_8 23 m_X8_dead_f65 dX8_dead_116 rfl (by decide) 0 rfl rfl rfl ?_
                refine sx_bipush (pc := 119) (v := nI 9) hG dX8_dead_119 (by decide +kernel) ?_
                refine sx_iload (pc := 121) hG dX8_dead_121 4 rfl ?_
                refine sx_imul (pc := 123) (v := (nI (9 * a))) hG dX8_dead_123 (pk_mul 9 a) ?_
                refine sx_iload (pc := 124) hG dX8_dead_124 8 rfl ?_
                refine sx_iadd (pc := 126) (v := (nI (9 * a + j))) hG dX8_dead_126 (nI_add (9 * a) j) ?_
                refine sx_iald (pc := 127) (v := nI (Y1 (9 * a + j))) hG 18 dX8_dead_127 rfl (by decide) (by omega) rfl ?_
                refine sx_iadd (pc := 128) (v := (nI (dS (av 12) a many + (Y1 (9 * a + j))))) hG dX8_dead_128 (nI_add (dS (av 12) a many) (Y1 (9 * a + j))) ?_
                refine sx_aload_n (pc := 129) hG dX8_dead_129 rfl 0 rfl ?_
                refine sx_get (pc := 130) (v2 := .ref (bd 18)) (ci := 8) hG i_X8_dead_8 23 m_X8_dead_f65 dX8_dead_130 rfl (by decide) 0 rfl rfl rfl ?_
                refine sx_bipush (pc := 133) (v := nI 9) hG dX8_dead_133 (by decide +kernel) ?_
                refine sx_iload (pc := 135) hG dX8_dead_135 8 rfl ?_
                refine sx_imul (pc := 137) (v := (nI (9 * j))) hG dX8_dead_137 (pk_mul 9 j) ?_
                refine sx_bipush (pc := 138) (v := nI 9) hG dX8_dead_138 (by decide +kernel) ?_
                refine sx_iadd (pc := 140) (v := (nI (9 * j + 9))) hG dX8_dead_140 (nI_add (9 * j) 9) ?_
                refine sx_iload (pc := 141) hG dX8_dead_141 5 rfl ?_
                refine sx_iadd (pc := 143) (v := (nI (9 * j + 9 + z))) hG dX8_dead_143 (nI_add (9 * j + 9) z) ?_
                refine sx_iald (pc := 144) (v := nI (Y1 (9 * j + 9 + z))) hG 18 dX8_dead_144 rfl (by decide) (by omega) rfl ?_
                refine sx_iadd (pc := 145) (v := (nI (dS (av 12) a many + (Y1 (9 * a + j)) + (Y1 (9 * j + 9 + z))))) hG dX8_dead_145 (nI_add (dS (av 12) a many + (Y1 (9 * a + j))) (Y1 (9 * j + 9 + z))) ?_
                refine sx_istore (pc := 146) (lv2 := [(0, .ref (bd 0)), (1, .int (nI 0)), (2, .int fv2), (3, .int (nI many)), (4, .int (nI a)), (5, .int (nI z)), (6, .int (nI (dS (av 12) a many))), (7, .int (nI best)), (8, .int (nI j)), (9, .int (nI (dS (av 12) a many + (Y1 (9 * a + j)) + (Y1 (9 * j + 9 + z)))))]) hG [1, 2, 3, 4, 5, 6, 7, 8, 9, 0] dX8_dead_146 hN (by decide) rfl ?_
                refine sx_iload (pc := 148) hG dX8_dead_148 9 rfl ?_
                refine sx_iload (pc := 150) hG dX8_dead_150 7 rfl ?_
                refine sx_icmp_lt (pc := 152) (tgt := 158) (B := (dS (av 12) a many + (Y1 (9 * a + j)) + (Y1 (9 * j + 9 + z))) < best) hG dX8_dead_152 (by decide) (nI_ltI (by omega) (by omega)) (fun c152 => ?_) (fun c152 => ?_)
                · skip
                  refine sx_iload (pc := 158) hG dX8_dead_158 9 rfl ?_
                  refine sx_istore (pc := 160) (lv2 := [(0, .ref (bd 0)), (1, .int (nI 0)), (2, .int fv2), (3, .int (nI many)), (4, .int (nI a)), (5, .int (nI z)), (6, .int (nI (dS (av 12) a many))), (7, .int (nI (dS (av 12) a many + (Y1 (9 * a + j)) + (Y1 (9 * j + 9 + z))))), (8, .int (nI j)), (9, .int (nI (dS (av 12) a many + (Y1 (9 * a + j)) + (Y1 (9 * j + 9 + z)))))]) hG [1, 2, 3, 4, 5, 6, 7, 0, 8, 9] dX8_dead_160 hN (by decide) rfl ?_
                  refine sx_iload (pc := 162) hG dX8_dead_162 8 rfl ?_
                  refine sx_istore_n (pc := 164) (lv2 := [(0, .ref (bd 0)), (1, .int (nI 0)), (2, .int (nI j)), (3, .int (nI many)), (4, .int (nI a)), (5, .int (nI z)), (6, .int (nI (dS (av 12) a many))), (7, .int (nI (dS (av 12) a many + (Y1 (9 * a + j)) + (Y1 (9 * j + 9 + z))))), (8, .int (nI j)), (9, .int (nI (dS (av 12) a many + (Y1 (9 * a + j)) + (Y1 (9 * j + 9 + z)))))]) hG [1, 2, 0, 3, 4, 5, 6, 7, 8, 9] dX8_dead_164 rfl hN (by decide) rfl ?_
                  refine sx_iinc (pc := 165) (v := nI (j + 1)) (lv2 := [(0, .ref (bd 0)), (1, .int (nI 0)), (2, .int (nI j)), (3, .int (nI many)), (4, .int (nI a)), (5, .int (nI z)), (6, .int (nI (dS (av 12) a many))), (7, .int (nI (dS (av 12) a many + (Y1 (9 * a + j)) + (Y1 (9 * j + 9 + z))))), (8, .int (nI (j + 1))), (9, .int (nI (dS (av 12) a many + (Y1 (9 * a + j)) + (Y1 (9 * j + 9 + z)))))]) hG [1, 2, 3, 4, 5, 6, 7, 8, 0, 9] dX8_dead_165 8 rfl (sx_inc j) hN (by decide) rfl ?_
                  refine sx_goto (pc := 168) (tgt := 106) hG dX8_dead_168 (by decide) ?_
                  refine sx_lsub [0, 1, 2, 3, 4, 5, 6, 7, 8] rfl ?_
                  refine ih_J (j + 1) _ z _ hz1 ham (by omega) (by omega) (by unfold dV at hb ⊢; rw [sx_mn_take (by unfold dP; rw [if_pos hj1]; decide) (by rw [← hb, hdf]; omega), hdf]) (fun h1 h2 => ⟨j, rfl, by omega, by unfold dP; rw [if_pos hj1]; decide, hdf, fun u hu hp => Nat.lt_of_lt_of_le (show _ < best by omega) (by rw [hb]; exact sx_mn_lb hu hp)⟩) (by omega)
                · skip
                  refine sx_goto (pc := 155) (tgt := 165) hG dX8_dead_155 (by decide) ?_
                  refine sx_iinc (pc := 165) (v := nI (j + 1)) (lv2 := [(0, .ref (bd 0)), (1, .int (nI 0)), (2, .int fv2), (3, .int (nI many)), (4, .int (nI a)), (5, .int (nI z)), (6, .int (nI (dS (av 12) a many))), (7, .int (nI best)), (8, .int (nI (j + 1))), (9, .int (nI (dS (av 12) a many + (Y1 (9 * a + j)) + (Y1 (9 * j + 9 + z)))))]) hG [1, 2, 3, 4, 5, 6, 7, 8, 0, 9] dX8_dead_165 8 rfl (sx_inc j) hN (by decide) rfl ?_
                  refine sx_goto (pc := 168) (tgt := 106) hG dX8_dead_168 (by decide) ?_
                  refine sx_lsub [0, 1, 2, 3, 4, 5, 6, 7, 8] rfl ?_
                  refine ih_J (j + 1) _ z _ hz1 ham (by omega) (by omega) (by unfold dV at hb ⊢; rw [sx_mn_skip (Or.inr (by rw [← hb, hdf]; omega))]; exact hb) (fun h1 h2 => by obtain ⟨q, q1, q2, q3⟩ := hfi h1 h2; exact ⟨q, q1, by omega, q3⟩) (by omega)
          have loop_K : ∀ (fuel : Nat), ∀ (k z : Nat), (z + 1 = a + many) → (a + many ≤ m) → (a ≤ k) → (k ≤ a + many) → a + many - k < fuel → sx_W l X G 0 0 64 [(0, .ref (bd 0)), (1, .int (nI 0)), (2, .int fv1), (3, .int (nI many)), (4, .int (nI a)), (5, .int (nI z)), (6, .int (nI (dS (av 12) a (k - a)))), (7, .int (nI k))] [] (mw X bd (va_up sc 2 (nI 0)) (va_up av 18 Y1)) := by
            intro fuel
            induction fuel with
            | zero => intro k z hz1 ham hk1 hk2 hm; exact absurd hm (Nat.not_lt_zero _)
            | succ fuel ih_K =>
              intro k z hz1 ham hk1 hk2 hm_K
              have hsl := dS_le hZ a (k - a)
              have hs9 : (k - a) * 99999 ≤ 9 * 99999 := Nat.mul_le_mul_right 99999 (by omega)
              have hZk := hZ k
              refine sx_iload (pc := 64) hG dX8_dead_64 7 rfl ?_
              refine sx_iload (pc := 66) hG dX8_dead_66 5 rfl ?_
              refine sx_icmp_gt (pc := 68) (tgt := 89) (B := z < k) hG dX8_dead_68 (by decide) (nI_ltI (by omega) (by omega)) (fun c68 => ?_) (fun c68 => ?_)
              · skip
                have hk9 : k - a = many := by omega
                rw [hk9]
                refine sx_iload_n (pc := 89) hG dX8_dead_89 rfl 3 rfl ?_
                refine sx_iconst (pc := 90) (v := nI 1) hG dX8_dead_90 (by decide +kernel) ?_
                refine sx_icmp_ne (pc := 91) (tgt := 98) (B := many = 1) hG dX8_dead_91 (by decide) (nI_eq (by omega) (by omega)) (fun c91 => ?_) (fun c91 => ?_)
                · skip
                  refine sx_ldc (pc := 98) (v2 := nI 2000000000) hG m_X8_dead_c111 dX8_dead_98 (by decide +kernel) ?_
                  refine sx_istore (pc := 100) (lv2 := [(0, .ref (bd 0)), (1, .int (nI 0)), (2, .int fv1), (3, .int (nI many)), (4, .int (nI a)), (5, .int (nI z)), (6, .int (nI (dS (av 12) a many))), (7, .int (nI 2000000000))]) hG [1, 2, 3, 4, 5, 6, 7, 0] dX8_dead_100 hN (by decide) rfl ?_
                  refine sx_iload (pc := 102) hG dX8_dead_102 4 rfl ?_
                  refine sx_istore (pc := 104) (lv2 := [(0, .ref (bd 0)), (1, .int (nI 0)), (2, .int fv1), (3, .int (nI many)), (4, .int (nI a)), (5, .int (nI z)), (6, .int (nI (dS (av 12) a many))), (7, .int (nI 2000000000)), (8, .int (nI a))]) hG [1, 2, 3, 4, 5, 6, 7, 8, 0] dX8_dead_104 hN (by decide) rfl ?_
                  refine loop_J _ a _ z fv1 hz1 (by omega) (Nat.le_refl _) (by omega) (by unfold dV; rw [sx_mn_init (fun u hu => by unfold dP; rw [if_neg (by omega)])]; rw [if_neg (by omega)]) (fun h1 h2 => absurd h1 (by omega)) (Nat.lt_succ_self _)
                · skip
                  refine sx_iconst (pc := 94) (v := nI 0) hG dX8_dead_94 (by decide +kernel) ?_
                  refine sx_goto (pc := 95) (tgt := 100) hG dX8_dead_95 (by decide) ?_
                  refine sx_istore (pc := 100) (lv2 := [(0, .ref (bd 0)), (1, .int (nI 0)), (2, .int fv1), (3, .int (nI many)), (4, .int (nI a)), (5, .int (nI z)), (6, .int (nI (dS (av 12) a many))), (7, .int (nI 0))]) hG [1, 2, 3, 4, 5, 6, 7, 0] dX8_dead_100 hN (by decide) rfl ?_
                  refine sx_iload (pc := 102) hG dX8_dead_102 4 rfl ?_
                  refine sx_istore (pc := 104) (lv2 := [(0, .ref (bd 0)), (1, .int (nI 0)), (2, .int fv1), (3, .int (nI many)), (4, .int (nI a)), (5, .int (nI z)), (6, .int (nI (dS (av 12) a many))), (7, .int (nI 0)), (8, .int (nI a))]) hG [1, 2, 3, 4, 5, 6, 7, 8, 0] dX8_dead_104 hN (by decide) rfl ?_
                  refine loop_J _ a _ z fv1 hz1 (by omega) (Nat.le_refl _) (by omega) (by unfold dV; rw [sx_mn_init (fun u hu => by unfold dP; rw [if_neg (by omega)])]; rw [if_pos (by omega)]) (fun h1 h2 => absurd h1 (by omega)) (Nat.lt_succ_self _)
              · skip
                refine sx_iload (pc := 71) hG dX8_dead_71 6 rfl ?_
                refine sx_aload_n (pc := 73) hG dX8_dead_73 rfl 0 rfl ?_
                refine sx_get (pc := 74) (v2 := .ref (bd 12)) (ci := 8) hG i_X8_dead_8 17 m_X8_dead_f47 dX8_dead_74 rfl (by decide) 0 rfl rfl rfl ?_
                refine sx_iload (pc := 77) hG dX8_dead_77 7 rfl ?_
                refine sx_iald (pc := 79) (v := nI ((av 12) k)) hG 12 dX8_dead_79 rfl (by decide) (by omega) rfl ?_
                refine sx_iadd (pc := 80) (v := (nI (dS (av 12) a (k + 1 - a)))) hG dX8_dead_80 (by rw [nI_add, show k + 1 - a = (k - a) + 1 by omega, dS_step, show a + (k - a) = k by omega]) ?_
                refine sx_istore (pc := 81) (lv2 := [(0, .ref (bd 0)), (1, .int (nI 0)), (2, .int fv1), (3, .int (nI many)), (4, .int (nI a)), (5, .int (nI z)), (6, .int (nI (dS (av 12) a (k + 1 - a)))), (7, .int (nI k))]) hG [1, 2, 3, 4, 5, 6, 0, 7] dX8_dead_81 hN (by decide) rfl ?_
                refine sx_iinc (pc := 83) (v := nI (k + 1)) (lv2 := [(0, .ref (bd 0)), (1, .int (nI 0)), (2, .int fv1), (3, .int (nI many)), (4, .int (nI a)), (5, .int (nI z)), (6, .int (nI (dS (av 12) a (k + 1 - a)))), (7, .int (nI (k + 1)))]) hG [1, 2, 3, 4, 5, 6, 7, 0] dX8_dead_83 7 rfl (sx_inc k) hN (by decide) rfl ?_
                refine sx_goto (pc := 86) (tgt := 64) hG dX8_dead_86 (by decide) ?_
                refine ih_K (k + 1) z hz1 ham (by omega) (by omega) (by omega)
          refine sx_iload (pc := 38) hG dX8_dead_38 4 rfl ?_
          refine sx_iload_n (pc := 40) hG dX8_dead_40 rfl 3 rfl ?_
          refine sx_iadd (pc := 41) (v := (nI (a + many))) hG dX8_dead_41 (nI_add a many) ?_
          refine sx_aload_n (pc := 42) hG dX8_dead_42 rfl 0 rfl ?_
          refine sx_get (pc := 43) (v2 := .int (nI m)) (ci := 8) hG i_X8_dead_8 14 m_X8_dead_f131 dX8_dead_43 rfl (by decide) 0 rfl rfl (congrArg Value.int h4) ?_
          refine sx_icmp_gt (pc := 46) (tgt := 192) (B := m < (a + many)) hG dX8_dead_46 (by decide) (nI_ltI (by omega) (by omega)) (fun c46 => ?_) (fun c46 => ?_)
          · skip
            refine sx_iinc (pc := 192) (v := nI (many + 1)) (lv2 := [(0, .ref (bd 0)), (1, .int (nI 0)), (2, .int fv1), (3, .int (nI (many + 1))), (4, .int (nI a))]) hG [1, 2, 3, 0, 4] dX8_dead_192 3 rfl (sx_inc many) hN (by decide) rfl ?_
            refine sx_goto (pc := 195) (tgt := 27) hG dX8_dead_195 (by decide) ?_
            refine sx_lsub [0, 1, 2, 3] rfl ?_
            refine ih_M (many + 1) fv1 Y1 (by omega) (by omega) (dT_next hm1 hT1 (fun q h1 => hA q (by omega))) hYb1 (fun h1 h2 => hf1 (by omega) (by omega) h2) (by omega)
          · skip
            refine sx_iload (pc := 49) hG dX8_dead_49 4 rfl ?_
            refine sx_iload_n (pc := 51) hG dX8_dead_51 rfl 3 rfl ?_
            refine sx_iadd (pc := 52) (v := (nI (a + many))) hG dX8_dead_52 (nI_add a many) ?_
            refine sx_iconst (pc := 53) (v := nI 1) hG dX8_dead_53 (by decide +kernel) ?_
            refine sx_isub (pc := 54) (v := (nI ((a + many) - 1))) hG dX8_dead_54 (pk_sub (by omega)) ?_
            refine sx_istore (pc := 55) (lv2 := [(0, .ref (bd 0)), (1, .int (nI 0)), (2, .int fv1), (3, .int (nI many)), (4, .int (nI a)), (5, .int (nI ((a + many) - 1)))]) hG [1, 2, 3, 4, 5, 0] dX8_dead_55 hN (by decide) rfl ?_
            obtain ⟨z, hz⟩ : ∃ z : Nat, z = a + many - 1 := ⟨_, rfl⟩
            rw [← hz]
            have hz1 : z + 1 = a + many := by omega
            refine sx_iconst (pc := 57) (v := nI 0) hG dX8_dead_57 (by decide +kernel) ?_
            refine sx_istore (pc := 58) (lv2 := [(0, .ref (bd 0)), (1, .int (nI 0)), (2, .int fv1), (3, .int (nI many)), (4, .int (nI a)), (5, .int (nI z)), (6, .int (nI 0))]) hG [1, 2, 3, 4, 5, 6, 0] dX8_dead_58 hN (by decide) rfl ?_
            refine sx_iload (pc := 60) hG dX8_dead_60 4 rfl ?_
            refine sx_istore (pc := 62) (lv2 := [(0, .ref (bd 0)), (1, .int (nI 0)), (2, .int fv1), (3, .int (nI many)), (4, .int (nI a)), (5, .int (nI z)), (6, .int (nI 0)), (7, .int (nI a))]) hG [1, 2, 3, 4, 5, 6, 7, 0] dX8_dead_62 hN (by decide) rfl ?_
            have e60 : 0 = dS (av 12) a (a - a) := by rw [Nat.sub_self]; rfl
            refine sx_l6 e60 ?_
            refine loop_K _ a z hz1 (by omega) (Nat.le_refl _) (by omega) (Nat.lt_succ_self _)
      refine sx_iload_n (pc := 27) hG dX8_dead_27 rfl 3 rfl ?_
      refine sx_aload_n (pc := 28) hG dX8_dead_28 rfl 0 rfl ?_
      refine sx_get (pc := 29) (v2 := .int (nI m)) (ci := 8) hG i_X8_dead_8 14 m_X8_dead_f131 dX8_dead_29 rfl (by decide) 0 rfl rfl (congrArg Value.int h4) ?_
      refine sx_icmp_gt (pc := 32) (tgt := 198) (B := m < many) hG dX8_dead_32 (by decide) (nI_ltI (by omega) (by omega)) (fun c32 => ?_) (fun c32 => ?_)
      · skip
        refine sx_iload_n (pc := 198) hG dX8_dead_198 rfl 1 rfl ?_
        refine sx_iconst (pc := 199) (v := nI 1) hG dX8_dead_199 (by decide +kernel) ?_
        refine sx_icmp_ne (pc := 200) (tgt := 217) (B := 0 = 1) hG dX8_dead_200 (by decide) (nI_eq (by omega) (by omega)) (fun c200 => ?_) (fun c200 => ?_)
        · skip
          refine sx_aload_n (pc := 217) hG dX8_dead_217 rfl 0 rfl ?_
          refine sx_get (pc := 218) (v2 := .int (nI m)) (ci := 8) hG i_X8_dead_8 14 m_X8_dead_f131 dX8_dead_218 rfl (by decide) 0 rfl rfl (congrArg Value.int h4) ?_
          refine sx_if_ne (pc := 221) (tgt := 228) (B := m = 0) hG dX8_dead_221 (by decide) (sx_eq0 (by omega)) (fun c221 => ?_) (fun c221 => ?_)
          · skip
            refine sx_aload_n (pc := 228) hG dX8_dead_228 rfl 0 rfl ?_
            refine sx_get (pc := 229) (v2 := .ref (bd 18)) (ci := 8) hG i_X8_dead_8 23 m_X8_dead_f65 dX8_dead_229 rfl (by decide) 0 rfl rfl rfl ?_
            refine sx_aload_n (pc := 232) hG dX8_dead_232 rfl 0 rfl ?_
            refine sx_get (pc := 233) (v2 := .int (nI m)) (ci := 8) hG i_X8_dead_8 14 m_X8_dead_f131 dX8_dead_233 rfl (by decide) 0 rfl rfl (congrArg Value.int h4) ?_
            refine sx_iconst (pc := 236) (v := nI 1) hG dX8_dead_236 (by decide +kernel) ?_
            refine sx_isub (pc := 237) (v := (nI (m - 1))) hG dX8_dead_237 (pk_sub (by omega)) ?_
            refine sx_iald (pc := 238) (v := nI (Y (m - 1))) hG 18 dX8_dead_238 rfl (by decide) (by omega) rfl ?_
            have hmm2 : many = m + 1 := by omega
            have hT2 : dT (av 12) Y m (m + 1) := by rw [← hmm2]; exact hT
            exact hret _ _ _ _ dX8_dead_239 rfl ⟨Y, hYb, hT2, (if_neg c221).symm, rfl⟩
          · skip
            refine sx_iconst (pc := 224) (v := nI 0) hG dX8_dead_224 (by decide +kernel) ?_
            refine sx_goto (pc := 225) (tgt := 239) hG dX8_dead_225 (by decide) ?_
            have hmm2 : many = m + 1 := by omega
            have hT2 : dT (av 12) Y m (m + 1) := by rw [← hmm2]; exact hT
            exact hret _ _ _ _ dX8_dead_239 rfl ⟨Y, hYb, hT2, (if_pos c221).symm, rfl⟩
        · skip
          exact absurd c200 (by decide)
      · skip
        refine sx_iconst (pc := 35) (v := nI 0) hG dX8_dead_35 (by decide +kernel) ?_
        refine sx_istore (pc := 36) (lv2 := [(0, .ref (bd 0)), (1, .int (nI 0)), (2, .int fv), (3, .int (nI many)), (4, .int (nI 0))]) hG [1, 2, 3, 4, 0] dX8_dead_36 hN (by decide) rfl ?_
        refine loop_A _ 0 fv Y (by omega) (by omega) hT (fun q h => absurd h (Nat.not_lt_zero _)) hYb (fun h1 h2 => absurd h2 (by decide)) (Nat.lt_succ_self _)
  refine sx_aload_n (pc := 0) hG dX8_dead_0 rfl 0 rfl ?_
  refine sx_iconst (pc := 1) (v := nI 0) hG dX8_dead_1 (by decide +kernel) ?_
  refine sx_put (pc := 2) (v := .int (nI 0)) (ci := 8) (w2 := (mw X bd (va_up sc 2 (nI 0)) av)) hG i_X8_dead_8 tyX8 tyX8_ok nmX8 9 m_X8_dead_f68 dX8_dead_2 rfl (by decide) 0 rfl rfl rfl rfl (Nat.le_of_ble_eq_true rfl) rfl ?_
  refine sx_aload_n (pc := 5) hG dX8_dead_5 rfl 0 rfl ?_
  refine sx_get (pc := 6) (v2 := .int (nI 1)) (ci := 8) hG i_X8_dead_8 13 m_X8_dead_f74 dX8_dead_6 rfl (by decide) 0 rfl rfl (congrArg Value.int h3) ?_
  refine sx_if_eq (pc := 9) (tgt := 21) (B := 1 = 0) hG dX8_dead_9 (by decide) (sx_eq0 (by omega)) (fun c9 => ?_) (fun c9 => ?_)
  · skip
    exact absurd c9 (by decide)
  · skip
    refine sx_iload_n (pc := 12) hG dX8_dead_12 rfl 1 rfl ?_
    refine sx_if_lt (pc := 13) (tgt := 21) (B := False) hG dX8_dead_13 (by decide) (sx_lt0 (by omega)) (fun c13 => ?_) (fun c13 => ?_)
    · skip
      exact absurd c13 (by decide)
    · skip
      refine sx_iload_n (pc := 16) hG dX8_dead_16 rfl 1 rfl ?_
      refine sx_iconst (pc := 17) (v := nI 1) hG dX8_dead_17 (by decide +kernel) ?_
      refine sx_icmp_le (pc := 18) (tgt := 23) (B := 0 ≤ 1) hG dX8_dead_18 (by decide) (nI_leI (by omega) (by omega)) (fun c18 => ?_) (fun c18 => ?_)
      · skip
        refine sx_iconst (pc := 23) (v := (-1)) hG dX8_dead_23 (by decide +kernel) ?_
        refine sx_istore_n (pc := 24) (lv2 := [(0, .ref (bd 0)), (1, .int (nI 0)), (2, .int (-1))]) hG [1, 2, 0] dX8_dead_24 rfl hN (by decide) rfl ?_
        refine sx_iconst (pc := 25) (v := nI 1) hG dX8_dead_25 (by decide +kernel) ?_
        refine sx_istore_n (pc := 26) (lv2 := [(0, .ref (bd 0)), (1, .int (nI 0)), (2, .int (-1)), (3, .int (nI 1))]) hG [1, 2, 3, 0] dX8_dead_26 rfl hN (by decide) rfl ?_
        refine sx_weq (w2 := (mw X bd (va_up sc 2 (nI 0)) (va_up av 18 (av 18)))) rfl ?_
        refine loop_M _ 1 (-1) (av 18) (Nat.le_refl _) (by omega) (fun a z h1 h2 h3 => absurd h3 (by omega)) hY0 (fun h1 h2 => absurd h1 (by omega)) (Nat.lt_succ_self _)
      · skip
        exact absurd (by decide) c18

set_option maxHeartbeats 4000000 in
set_option maxRecDepth 100000 in
theorem c_X8_dead_1 (l : Launch) (X : sx_X) (bd : Nat → Nat) (sc : Nat → Int32) (av : Nat → Nat → Nat) (m : Nat) (hm : m ≤ 9) (h3 : sc 3 = nI 1) (h4 : sc 4 = nI m) (hZ : ∀ j, av 12 j ≤ 99999) (hY0 : ∀ j, av 18 j ≤ 2000000000) : sx_Mi l yX8_dead wsX8_dead { frames := 0, cells := 0, slots := 0, locals := 0 } X [.ref (bd 0), .int (nI 1)] (mw X bd sc av) (fun r w => ∃ Y : Nat → Nat, (∀ j, Y j ≤ 2000000000) ∧ dT (av 12) Y m (m + 1) ∧ ((m < 2 ∧ r = -1) ∨ (2 ≤ m ∧ dFi (av 12) Y m r)) ∧ w = mw X bd (va_up sc 2 (nI 0)) (va_up av 18 Y)) 0 0 := by
  refine sx_entI (own := RX8) (nL := 10) (by decide +kernel) rfl rfl (Nat.le_of_ble_eq_true rfl) ?_
  intro G hG hN hret
  show sx_W l X G 0 0 0 [(0, .ref (bd 0)), (1, .int (nI 1))] [] (mw X bd sc av)
  have loop_M : ∀ (fuel : Nat), ∀ (many : Nat) (fv : Int32) (Y : Nat → Nat), (1 ≤ many) → (many ≤ m + 1) → (dT (av 12) Y m many) → (∀ j, Y j ≤ 2000000000) → (m < many → 2 ≤ m → dFi (av 12) Y m fv) → m + 1 - many < fuel → sx_W l X G 0 0 27 [(0, .ref (bd 0)), (1, .int (nI 1)), (2, .int fv), (3, .int (nI many))] [] (mw X bd (va_up sc 2 (nI 0)) (va_up av 18 Y)) := by
    intro fuel
    induction fuel with
    | zero => intro many fv Y hm1 hm2 hT hYb hf hm; exact absurd hm (Nat.not_lt_zero _)
    | succ fuel ih_M =>
      intro many fv Y hm1 hm2 hT hYb hf hm_M
      have loop_A : ∀ (fuel : Nat), ∀ (a : Nat) (fv1 : Int32) (Y1 : Nat → Nat), (many ≤ m) → (a + many ≤ m + 1) → (dT (av 12) Y1 m many) → (∀ q, q < a → Y1 (9 * q + (q + many - 1)) = dV (av 12) Y1 q (q + many - 1) (q + many - 1) ∧ Y1 (9 * q + (q + many - 1)) ≤ 1000000 * (many - 1)) → (∀ j, Y1 j ≤ 2000000000) → (many = m → 1 ≤ a → 2 ≤ m → dFi (av 12) Y1 m fv1) → m + 1 - a < fuel → sx_W l X G 0 0 38 [(0, .ref (bd 0)), (1, .int (nI 1)), (2, .int fv1), (3, .int (nI many)), (4, .int (nI a))] [] (mw X bd (va_up sc 2 (nI 0)) (va_up av 18 Y1)) := by
        intro fuel
        induction fuel with
        | zero => intro a fv1 Y1 hmm ha hT1 hA hYb1 hf1 hm; exact absurd hm (Nat.not_lt_zero _)
        | succ fuel ih_A =>
          intro a fv1 Y1 hmm ha hT1 hA hYb1 hf1 hm_A
          have loop_J : ∀ (fuel : Nat), ∀ (j best z : Nat) (fv2 : Int32), (z + 1 = a + many) → (a + many ≤ m) → (a ≤ j) → (j ≤ z) → (best = dV (av 12) Y1 a z j) → (dFq (av 12) Y1 a z many j best fv2) → z - j < fuel → sx_W l X G 0 0 106 [(0, .ref (bd 0)), (1, .int (nI 1)), (2, .int fv2), (3, .int (nI many)), (4, .int (nI a)), (5, .int (nI z)), (6, .int (nI (dS (av 12) a many))), (7, .int (nI best)), (8, .int (nI j))] [] (mw X bd (va_up sc 2 (nI 0)) (va_up av 18 Y1)) := by
            intro fuel
            induction fuel with
            | zero => intro j best z fv2 hz1 ham hj1 hj2 hb hfi hm; exact absurd hm (Nat.not_lt_zero _)
            | succ fuel ih_J =>
              intro j best z fv2 hz1 ham hj1 hj2 hb hfi hm_J
              have hbl : best ≤ 2000000000 := by subst hb; refine Nat.le_trans (sx_mn_le _ _ _ _) ?_; split <;> omega
              have hsl := dS_le hZ a many
              have hs9 : many * 99999 ≤ 9 * 99999 := Nat.mul_le_mul_right 99999 (by omega)
              have hdf : dF (av 12) Y1 a z j = dS (av 12) a many + Y1 (9 * a + j) + Y1 (9 * j + 9 + z) := by unfold dF; rw [show z + 1 - a = many by omega]
              have hy1 : j < z → Y1 (9 * a + j) ≤ 1000000 * (j - a) ∧ Y1 (9 * j + 9 + z) ≤ 1000000 * (z - (j + 1)) := fun q => ⟨(hT1 a j hj1 (by omega) (by omega)).2, by have h9 := (hT1 (j + 1) z (by omega) (by omega) (by omega)).2; rw [show 9 * (j + 1) + z = 9 * j + 9 + z by omega] at h9; exact h9⟩
              refine sx_iload (pc := 106) hG dX8_dead_106 8 rfl ?_
              refine sx_iload (pc := 108) hG dX8_dead_108 5 rfl ?_
              refine sx_icmp_ge (pc := 110) (tgt := 171) (B := z ≤ j) hG dX8_dead_110 (by decide) (nI_leI (by omega) (by omega)) (fun c110 => ?_) (fun c110 => ?_)
              · skip
                have hjz : j = z := by omega
                clear hy1
                subst hjz
                have hbz := hb
                have hbb : best ≤ 1000000 * (j - a) := by rw [hb]; exact dBest hZ hm (by omega) hj1 (by rw [show j - a + 1 = many by omega]; exact hT1)
                have hnew : many = m → 2 ≤ m → dFi (av 12) (va_up Y1 (9 * a + j) best) m fv2 := fun h1 h3 => by have h0 : a = 0 := (by omega); subst h0; exact dFi_new hZ hm h3 (by omega) hbz hbb (fun h4 _ => hfi h4 (by omega))
                refine sx_aload_n (pc := 171) hG dX8_dead_171 rfl 0 rfl ?_
                refine sx_get (pc := 172) (v2 := .ref (bd 18)) (ci := 8) hG i_X8_dead_8 23 m_X8_dead_f65 dX8_dead_172 rfl (by decide) 0 rfl rfl rfl ?_
                refine sx_bipush (pc := 175) (v := nI 9) hG dX8_dead_175 (by decide +kernel) ?_
                refine sx_iload (pc := 177) hG dX8_dead_177 4 rfl ?_
                refine sx_imul (pc := 179) (v := (nI (9 * a))) hG dX8_dead_179 (pk_mul 9 a) ?_
                refine sx_iload (pc := 180) hG dX8_dead_180 5 rfl ?_
                refine sx_iadd (pc := 182) (v := (nI (9 * a + j))) hG dX8_dead_182 (nI_add (9 * a) j) ?_
                refine sx_iload (pc := 183) hG dX8_dead_183 7 rfl ?_
                refine sx_iastN (pc := 185) (w2 := (mw X bd (va_up sc 2 (nI 0)) (va_up av 18 (va_up Y1 (9 * a + j) best)))) hG 18 dX8_dead_185 rfl (by decide) (by omega) rfl ?_
                refine sx_iinc (pc := 186) (v := nI (a + 1)) (lv2 := [(0, .ref (bd 0)), (1, .int (nI 1)), (2, .int fv2), (3, .int (nI many)), (4, .int (nI (a + 1))), (5, .int (nI j)), (6, .int (nI (dS (av 12) a many))), (7, .int (nI best)), (8, .int (nI j))]) hG [1, 2, 3, 4, 0, 5, 6, 7, 8] dX8_dead_186 4 rfl (sx_inc a) hN (by decide) rfl ?_
                refine sx_goto (pc := 189) (tgt := 38) hG dX8_dead_189 (by decide) ?_
                refine sx_lsub [0, 1, 2, 3, 4] rfl ?_
                refine ih_A (a + 1) fv2 (va_up Y1 (9 * a + j) best) hmm (by omega) (dT_up hm (by omega) (by omega) (by omega) hT1) (dA_up hm hm1 hz1 ham hA hbz hbb) (fun j => by unfold va_up; split; omega; exact hYb1 j) (fun h1 h2 h3 => hnew h1 h3) (by omega)
              · skip
                refine sx_iload (pc := 113) hG dX8_dead_113 6 rfl ?_
                refine sx_aload_n (pc := 115) hG dX8_dead_115 rfl 0 rfl ?_
                refine sx_get (pc := 116) (v2 := .ref (bd 18)) (ci := 8) hG i_X8_dead_8 23 m_X8_dead_f65 dX8_dead_116 rfl (by decide) 0 rfl rfl rfl ?_
                refine sx_bipush (pc := 119) (v := nI 9) hG dX8_dead_119 (by decide +kernel) ?_
                refine sx_iload (pc := 121) hG dX8_dead_121 4 rfl ?_
                refine sx_imul (pc := 123) (v := (nI (9 * a))) hG dX8_dead_123 (pk_mul 9 a) ?_
                refine sx_iload (pc := 124) hG dX8_dead_124 8 rfl ?_
                refine sx_iadd (pc := 126) (v := (nI (9 * a + j))) hG dX8_dead_126 (nI_add (9 * a) j) ?_
                refine sx_iald (pc := 127) (v := nI (Y1 (9 * a + j))) hG 18 dX8_dead_127 rfl (by decide) (by omega) rfl ?_
                refine sx_iadd (pc := 128) (v := (nI (dS (av 12) a many + (Y1 (9 * a + j))))) hG dX8_dead_128 (nI_add (dS (av 12) a many) (Y1 (9 * a + j))) ?_
                refine sx_aload_n (pc := 129) hG dX8_dead_129 rfl 0 rfl ?_
                refine sx_get (pc := 130) (v2 := .ref (bd 18)) (ci := 8) hG i_X8_dead_8 23 m_X8_dead_f65 dX8_dead_130 rfl (by decide) 0 rfl rfl rfl ?_
                refine sx_bipush (pc := 133) (v := nI 9) hG dX8_dead_133 (by decide +kernel) ?_
                refine sx_iload (pc := 135) hG dX8_dead_135 8 rfl ?_
                refine sx_imul (pc := 137) (v := (nI (9 * j))) hG dX8_dead_137 (pk_mul 9 j) ?_
                refine sx_bipush (pc := 138) (v := nI 9) hG dX8_dead_138 (by decide +kernel) ?_
                refine sx_iadd (pc := 140) (v := (nI (9 * j + 9))) hG dX8_dead_140 (nI_add (9 * j) 9) ?_
                refine sx_iload (pc := 141) hG dX8_dead_141 5 rfl ?_
                refine sx_iadd (pc := 143) (v := (nI (9 * j + 9 + z))) hG dX8_dead_143 (nI_add (9 * j + 9) z) ?_
                refine sx_iald (pc := 144) (v := nI (Y1 (9 * j + 9 + z))) hG 18 dX8_dead_144 rfl (by decide) (by omega) rfl ?_
                refine sx_iadd (pc := 145) (v := (nI (dS (av 12) a many + (Y1 (9 * a + j)) + (Y1 (9 * j + 9 + z))))) hG dX8_dead_145 (nI_add (dS (av 12) a many + (Y1 (9 * a + j))) (Y1 (9 * j + 9 + z))) ?_
                refine sx_istore (pc := 146) (lv2 := [(0, .ref (bd 0)), (1, .int (nI 1)), (2, .int fv2), (3, .int (nI many)), (4, .int (nI a)), (5, .int (nI z)), (6, .int (nI (dS (av 12) a many))), (7, .int (nI best)), (8, .int (nI j)), (9, .int (nI (dS (av 12) a many + (Y1 (9 * a + j)) + (Y1 (9 * j + 9 + z)))))]) hG [1, 2, 3, 4, 5, 6, 7, 8, 9, 0] dX8_dead_146 hN (by decide) rfl ?_
                refine sx_iload (pc := 148) hG dX8_dead_148 9 rfl ?_
                refine sx_iload (pc := 150) hG dX8_dead_150 7 rfl ?_
                refine sx_icmp_lt (pc := 152) (tgt := 158) (B := (dS (av 12) a many + (Y1 (9 * a + j)) + (Y1 (9 * j + 9 + z))) < best) hG dX8_dead_152 (by decide) (nI_ltI (by omega) (by omega)) (fun c152 => ?_) (fun c152 => ?_)
                · skip
                  refine sx_iload (pc := 158) hG dX8_dead_158 9 rfl ?_
                  refine sx_istore (pc := 160) (lv2 := [(0, .ref (bd 0)), (1, .int (nI 1)), (2, .int fv2), (3, .int (nI many)), (4, .int (nI a)), (5, .int (nI z)), (6, .int (nI (dS (av 12) a many))), (7, .int (nI (dS (av 12) a many + (Y1 (9 * a + j)) + (Y1 (9 * j + 9 + z))))), (8, .int (nI j)), (9, .int (nI (dS (av 12) a many + (Y1 (9 * a + j)) + (Y1 (9 * j + 9 + z)))))]) hG [1, 2, 3, 4, 5, 6, 7, 0, 8, 9] dX8_dead_160 hN (by decide) rfl ?_
                  refine sx_iload (pc := 162) hG dX8_dead_162 8 rfl ?_
                  refine sx_istore_n (pc := 164) (lv2 := [(0, .ref (bd 0)), (1, .int (nI 1)), (2, .int (nI j)), (3, .int (nI many)), (4, .int (nI a)), (5, .int (nI z)), (6, .int (nI (dS (av 12) a many))), (7, .int (nI (dS (av 12) a many + (Y1 (9 * a + j)) + (Y1 (9 * j + 9 + z))))), (8, .int (nI j)), (9, .int (nI (dS (av 12) a many + (Y1 (9 * a + j)) + (Y1 (9 * j + 9 + z)))))]) hG [1, 2, 0, 3, 4, 5, 6, 7, 8, 9] dX8_dead_164 rfl hN (by decide) rfl ?_
                  refine sx_iinc (pc := 165) (v := nI (j + 1)) (lv2 := [(0, .ref (bd 0)), (1, .int (nI 1)), (2, .int (nI j)), (3, .int (nI many)), (4, .int (nI a)), (5, .int (nI z)), (6, .int (nI (dS (av 12) a many))), (7, .int (nI (dS (av 12) a many + (Y1 (9 * a + j)) + (Y1 (9 * j + 9 + z))))), (8, .int (nI (j + 1))), (9, .int (nI (dS (av 12) a many + (Y1 (9 * a + j)) + (Y1 (9 * j + 9 + z)))))]) hG [1, 2, 3, 4, 5, 6, 7, 8, 0, 9] dX8_dead_165 8 rfl (sx_inc j) hN (by decide) rfl ?_
                  refine sx_goto (pc := 168) (tgt := 106) hG dX8_dead_168 (by decide) ?_
                  refine sx_lsub [0, 1, 2, 3, 4, 5, 6, 7, 8] rfl ?_
                  refine ih_J (j + 1) _ z _ hz1 ham (by omega) (by omega) (by unfold dV at hb ⊢; rw [sx_mn_take (by unfold dP; rw [if_pos hj1]; decide) (by rw [← hb, hdf]; omega), hdf]) (fun h1 h2 => ⟨j, rfl, by omega, by unfold dP; rw [if_pos hj1]; decide, hdf, fun u hu hp => Nat.lt_of_lt_of_le (show _ < best by omega) (by rw [hb]; exact sx_mn_lb hu hp)⟩) (by omega)
                · skip
                  refine sx_goto (pc := 155) (tgt := 165) hG dX8_dead_155 (by decide) ?_
                  refine sx_iinc (pc := 165) (v := nI (j + 1)) (lv2 := [(0, .ref (bd 0)), (1, .int (nI 1)), (2, .int fv2), (3, .int (nI many)), (4, .int (nI a)), (5, .int (nI z)), (6, .int (nI (dS (av 12) a many))), (7, .int (nI best)), (8, .int (nI (j + 1))), (9, .int (nI (dS (av 12) a many + (Y1 (9 * a + j)) + (Y1 (9 * j + 9 + z)))))]) hG [1, 2, 3, 4, 5, 6, 7, 8, 0, 9] dX8_dead_165 8 rfl (sx_inc j) hN (by decide) rfl ?_
                  refine sx_goto (pc := 168) (tgt := 106) hG dX8_dead_168 (by decide) ?_
                  refine sx_lsub [0, 1, 2, 3, 4, 5, 6, 7, 8] rfl ?_
                  refine ih_J (j + 1) _ z _ hz1 ham (by omega) (by omega) (by unfold dV at hb ⊢; rw [sx_mn_skip (Or.inr (by rw [← hb, hdf]; omega))]; exact hb) (fun h1 h2 => by obtain ⟨q, q1, q2, q3⟩ := hfi h1 h2; exact ⟨q, q1, by omega, q3⟩) (by omega)
          have loop_K : ∀ (fuel : Nat), ∀ (k z : Nat), (z + 1 = a + many) → (a + many ≤ m) → (a ≤ k) → (k ≤ a + many) → a + many - k < fuel → sx_W l X G 0 0 64 [(0, .ref (bd 0)), (1, .int (nI 1)), (2, .int fv1), (3, .int (nI many)), (4, .int (nI a)), (5, .int (nI z)), (6, .int (nI (dS (av 12) a (k - a)))), (7, .int (nI k))] [] (mw X bd (va_up sc 2 (nI 0)) (va_up av 18 Y1)) := by
            intro fuel
            induction fuel with
            | zero => intro k z hz1 ham hk1 hk2 hm; exact absurd hm (Nat.not_lt_zero _)
            | succ fuel ih_K =>
              intro k z hz1 ham hk1 hk2 hm_K
              have hsl := dS_le hZ a (k - a)
              have hs9 : (k - a) * 99999 ≤ 9 * 99999 := Nat.mul_le_mul_right 99999 (by omega)
              have hZk := hZ k
              refine sx_iload (pc := 64) hG dX8_dead_64 7 rfl ?_
              refine sx_iload (pc := 66) hG dX8_dead_66 5 rfl ?_
              refine sx_icmp_gt (pc := 68) (tgt := 89) (B := z < k) hG dX8_dead_68 (by decide) (nI_ltI (by omega) (by omega)) (fun c68 => ?_) (fun c68 => ?_)
              · skip
                have hk9 : k - a = many := by omega
                rw [hk9]
                refine sx_iload_n (pc := 89) hG dX8_dead_89 rfl 3 rfl ?_
                refine sx_iconst (pc := 90) (v := nI 1) hG dX8_dead_90 (by decide +kernel) ?_
                refine sx_icmp_ne (pc := 91) (tgt := 98) (B := many = 1) hG dX8_dead_91 (by decide) (nI_eq (by omega) (by omega)) (fun c91 => ?_) (fun c91 => ?_)
                · skip
                  refine sx_ldc (pc := 98) (v2 := nI 2000000000) hG m_X8_dead_c111 dX8_dead_98 (by decide +kernel) ?_
                  refine sx_istore (pc := 100) (lv2 := [(0, .ref (bd 0)), (1, .int (nI 1)), (2, .int fv1), (3, .int (nI many)), (4, .int (nI a)), (5, .int (nI z)), (6, .int (nI (dS (av 12) a many))), (7, .int (nI 2000000000))]) hG [1, 2, 3, 4, 5, 6, 7, 0] dX8_dead_100 hN (by decide) rfl ?_
                  refine sx_iload (pc := 102) hG dX8_dead_102 4 rfl ?_
                  refine sx_istore (pc := 104) (lv2 := [(0, .ref (bd 0)), (1, .int (nI 1)), (2, .int fv1), (3, .int (nI many)), (4, .int (nI a)), (5, .int (nI z)), (6, .int (nI (dS (av 12) a many))), (7, .int (nI 2000000000)), (8, .int (nI a))]) hG [1, 2, 3, 4, 5, 6, 7, 8, 0] dX8_dead_104 hN (by decide) rfl ?_
                  refine loop_J _ a _ z fv1 hz1 (by omega) (Nat.le_refl _) (by omega) (by unfold dV; rw [sx_mn_init (fun u hu => by unfold dP; rw [if_neg (by omega)])]; rw [if_neg (by omega)]) (fun h1 h2 => absurd h1 (by omega)) (Nat.lt_succ_self _)
                · skip
                  refine sx_iconst (pc := 94) (v := nI 0) hG dX8_dead_94 (by decide +kernel) ?_
                  refine sx_goto (pc := 95) (tgt := 100) hG dX8_dead_95 (by decide) ?_
                  refine sx_istore (pc := 100) (lv2 := [(0, .ref (bd 0)), (1, .int (nI 1)), (2, .int fv1), (3, .int (nI many)), (4, .int (nI a)), (5, .int (nI z)), (6, .int (nI (dS (av 12) a many))), (7, .int (nI 0))]) hG [1, 2, 3, 4, 5, 6, 7, 0] dX8_dead_100 hN (by decide) rfl ?_
                  refine sx_iload (pc := 102) hG dX8_dead_102 4 rfl ?_
                  refine sx_istore (pc := 104) (lv2 := [(0, .ref (bd 0)), (1, .int (nI 1)), (2, .int fv1), (3, .int (nI many)), (4, .int (nI a)), (5, .int (nI z)), (6, .int (nI (dS (av 12) a many))), (7, .int (nI 0)), (8, .int (nI a))]) hG [1, 2, 3, 4, 5, 6, 7, 8, 0] dX8_dead_104 hN (by decide) rfl ?_
                  refine loop_J _ a _ z fv1 hz1 (by omega) (Nat.le_refl _) (by omega) (by unfold dV; rw [sx_mn_init (fun u hu => by unfold dP; rw [if_neg (by omega)])]; rw [if_pos (by omega)]) (fun h1 h2 => absurd h1 (by omega)) (Nat.lt_succ_self _)
              · skip
                refine sx_iload (pc := 71) hG dX8_dead_71 6 rfl ?_
                refine sx_aload_n (pc := 73) hG dX8_dead_73 rfl 0 rfl ?_
                refine sx_get (pc := 74) (v2 := .ref (bd 12)) (ci := 8) hG i_X8_dead_8 17 m_X8_dead_f47 dX8_dead_74 rfl (by decide) 0 rfl rfl rfl ?_
                refine sx_iload (pc := 77) hG dX8_dead_77 7 rfl ?_
                refine sx_iald (pc := 79) (v := nI ((av 12) k)) hG 12 dX8_dead_79 rfl (by decide) (by omega) rfl ?_
                refine sx_iadd (pc := 80) (v := (nI (dS (av 12) a (k + 1 - a)))) hG dX8_dead_80 (by rw [nI_add, show k + 1 - a = (k - a) + 1 by omega, dS_step, show a + (k - a) = k by omega]) ?_
                refine sx_istore (pc := 81) (lv2 := [(0, .ref (bd 0)), (1, .int (nI 1)), (2, .int fv1), (3, .int (nI many)), (4, .int (nI a)), (5, .int (nI z)), (6, .int (nI (dS (av 12) a (k + 1 - a)))), (7, .int (nI k))]) hG [1, 2, 3, 4, 5, 6, 0, 7] dX8_dead_81 hN (by decide) rfl ?_
                refine sx_iinc (pc := 83) (v := nI (k + 1)) (lv2 := [(0, .ref (bd 0)), (1, .int (nI 1)), (2, .int fv1), (3, .int (nI many)), (4, .int (nI a)), (5, .int (nI z)), (6, .int (nI (dS (av 12) a (k + 1 - a)))), (7, .int (nI (k + 1)))]) hG [1, 2, 3, 4, 5, 6, 7, 0] dX8_dead_83 7 rfl (sx_inc k) hN (by decide) rfl ?_
                refine sx_goto (pc := 86) (tgt := 64) hG dX8_dead_86 (by decide) ?_
                refine ih_K (k + 1) z hz1 ham (by omega) (by omega) (by omega)
          refine sx_iload (pc := 38) hG dX8_dead_38 4 rfl ?_
          refine sx_iload_n (pc := 40) hG dX8_dead_40 rfl 3 rfl ?_
          refine sx_iadd (pc := 41) (v := (nI (a + many))) hG dX8_dead_41 (nI_add a many) ?_
          refine sx_aload_n (pc := 42) hG dX8_dead_42 rfl 0 rfl ?_
          refine sx_get (pc := 43) (v2 := .int (nI m)) (ci := 8) hG i_X8_dead_8 14 m_X8_dead_f131 dX8_dead_43 rfl (by decide) 0 rfl rfl (congrArg Value.int h4) ?_
          refine sx_icmp_gt (pc := 46) (tgt := 192) (B := m < (a + many)) hG dX8_dead_46 (by decide) (nI_ltI (by omega) (by omega)) (fun c46 => ?_) (fun c46 => ?_)
          · skip
            refine sx_iinc (pc := 192) (v := nI (many + 1)) (lv2 := [(0, .ref (bd 0)), (1, .int (nI 1)), (2, .int fv1), (3, .int (nI (many + 1))), (4, .int (nI a))]) hG [1, 2, 3, 0, 4] dX8_dead_192 3 rfl (sx_inc many) hN (by decide) rfl ?_
            refine sx_goto (pc := 195) (tgt := 27) hG dX8_dead_195 (by decide) ?_
            refine sx_lsub [0, 1, 2, 3] rfl ?_
            refine ih_M (many + 1) fv1 Y1 (by omega) (by omega) (dT_next hm1 hT1 (fun q h1 => hA q (by omega))) hYb1 (fun h1 h2 => hf1 (by omega) (by omega) h2) (by omega)
          · skip
            refine sx_iload (pc := 49) hG dX8_dead_49 4 rfl ?_
            refine sx_iload_n (pc := 51) hG dX8_dead_51 rfl 3 rfl ?_
            refine sx_iadd (pc := 52) (v := (nI (a + many))) hG dX8_dead_52 (nI_add a many) ?_
            refine sx_iconst (pc := 53) (v := nI 1) hG dX8_dead_53 (by decide +kernel) ?_
            refine sx_isub (pc := 54) (v := (nI ((a + many) - 1))) hG dX8_dead_54 (pk_sub (by omega)) ?_
            refine sx_istore (pc := 55) (lv2 := [(0, .ref (bd 0)), (1, .int (nI 1)), (2, .int fv1), (3, .int (nI many)), (4, .int (nI a)), (5, .int (nI ((a + many) - 1)))]) hG [1, 2, 3, 4, 5, 0] dX8_dead_55 hN (by decide) rfl ?_
            obtain ⟨z, hz⟩ : ∃ z : Nat, z = a + many - 1 := ⟨_, rfl⟩
            rw [← hz]
            have hz1 : z + 1 = a + many := by omega
            refine sx_iconst (pc := 57) (v := nI 0) hG dX8_dead_57 (by decide +kernel) ?_
            refine sx_istore (pc := 58) (lv2 := [(0, .ref (bd 0)), (1, .int (nI 1)), (2, .int fv1), (3, .int (nI many)), (4, .int (nI a)), (5, .int (nI z)), (6, .int (nI 0))]) hG [1, 2, 3, 4, 5, 6, 0] dX8_dead_58 hN (by decide) rfl ?_
            refine sx_iload (pc := 60) hG dX8_dead_60 4 rfl ?_
            refine sx_istore (pc := 62) (lv2 := [(0, .ref (bd 0)), (1, .int (nI 1)), (2, .int fv1), (3, .int (nI many)), (4, .int (nI a)), (5, .int (nI z)), (6, .int (nI 0)), (7, .int (nI a))]) hG [1, 2, 3, 4, 5, 6, 7, 0] dX8_dead_62 hN (by decide) rfl ?_
            have e60 : 0 = dS (av 12) a (a - a) := by rw [Nat.sub_self]; rfl
            refine sx_l6 e60 ?_
            refine loop_K _ a z hz1 (by omega) (Nat.le_refl _) (by omega) (Nat.lt_succ_self _)
      refine sx_iload_n (pc := 27) hG dX8_dead_27 rfl 3 rfl ?_
      refine sx_aload_n (pc := 28) hG dX8_dead_28 rfl 0 rfl ?_
      refine sx_get (pc := 29) (v2 := .int (nI m)) (ci := 8) hG i_X8_dead_8 14 m_X8_dead_f131 dX8_dead_29 rfl (by decide) 0 rfl rfl (congrArg Value.int h4) ?_
      refine sx_icmp_gt (pc := 32) (tgt := 198) (B := m < many) hG dX8_dead_32 (by decide) (nI_ltI (by omega) (by omega)) (fun c32 => ?_) (fun c32 => ?_)
      · skip
        refine sx_iload_n (pc := 198) hG dX8_dead_198 rfl 1 rfl ?_
        refine sx_iconst (pc := 199) (v := nI 1) hG dX8_dead_199 (by decide +kernel) ?_
        refine sx_icmp_ne (pc := 200) (tgt := 217) (B := 1 = 1) hG dX8_dead_200 (by decide) (nI_eq (by omega) (by omega)) (fun c200 => ?_) (fun c200 => ?_)
        · skip
          exact absurd (by decide) c200
        · skip
          refine sx_aload_n (pc := 203) hG dX8_dead_203 rfl 0 rfl ?_
          refine sx_get (pc := 204) (v2 := .int (nI m)) (ci := 8) hG i_X8_dead_8 14 m_X8_dead_f131 dX8_dead_204 rfl (by decide) 0 rfl rfl (congrArg Value.int h4) ?_
          refine sx_iconst (pc := 207) (v := nI 2) hG dX8_dead_207 (by decide +kernel) ?_
          refine sx_icmp_ge (pc := 208) (tgt := 215) (B := 2 ≤ m) hG dX8_dead_208 (by decide) (nI_leI (by omega) (by omega)) (fun c208 => ?_) (fun c208 => ?_)
          · skip
            refine sx_iload_n (pc := 215) hG dX8_dead_215 rfl 2 rfl ?_
            have hmm2 : many = m + 1 := by omega
            have hT2 : dT (av 12) Y m (m + 1) := by rw [← hmm2]; exact hT
            exact hret _ _ _ _ dX8_dead_216 rfl ⟨Y, hYb, hT2, Or.inr ⟨c208, hf (by omega) c208⟩, rfl⟩
          · skip
            refine sx_iconst (pc := 211) (v := (-1)) hG dX8_dead_211 (by decide +kernel) ?_
            refine sx_goto (pc := 212) (tgt := 216) hG dX8_dead_212 (by decide) ?_
            have hmm2 : many = m + 1 := by omega
            have hT2 : dT (av 12) Y m (m + 1) := by rw [← hmm2]; exact hT
            exact hret _ _ _ _ dX8_dead_216 rfl ⟨Y, hYb, hT2, Or.inl ⟨by omega, rfl⟩, rfl⟩
      · skip
        refine sx_iconst (pc := 35) (v := nI 0) hG dX8_dead_35 (by decide +kernel) ?_
        refine sx_istore (pc := 36) (lv2 := [(0, .ref (bd 0)), (1, .int (nI 1)), (2, .int fv), (3, .int (nI many)), (4, .int (nI 0))]) hG [1, 2, 3, 4, 0] dX8_dead_36 hN (by decide) rfl ?_
        refine loop_A _ 0 fv Y (by omega) (by omega) hT (fun q h => absurd h (Nat.not_lt_zero _)) hYb (fun h1 h2 => absurd h2 (by decide)) (Nat.lt_succ_self _)
  refine sx_aload_n (pc := 0) hG dX8_dead_0 rfl 0 rfl ?_
  refine sx_iconst (pc := 1) (v := nI 0) hG dX8_dead_1 (by decide +kernel) ?_
  refine sx_put (pc := 2) (v := .int (nI 0)) (ci := 8) (w2 := (mw X bd (va_up sc 2 (nI 0)) av)) hG i_X8_dead_8 tyX8 tyX8_ok nmX8 9 m_X8_dead_f68 dX8_dead_2 rfl (by decide) 0 rfl rfl rfl rfl (Nat.le_of_ble_eq_true rfl) rfl ?_
  refine sx_aload_n (pc := 5) hG dX8_dead_5 rfl 0 rfl ?_
  refine sx_get (pc := 6) (v2 := .int (nI 1)) (ci := 8) hG i_X8_dead_8 13 m_X8_dead_f74 dX8_dead_6 rfl (by decide) 0 rfl rfl (congrArg Value.int h3) ?_
  refine sx_if_eq (pc := 9) (tgt := 21) (B := 1 = 0) hG dX8_dead_9 (by decide) (sx_eq0 (by omega)) (fun c9 => ?_) (fun c9 => ?_)
  · skip
    exact absurd c9 (by decide)
  · skip
    refine sx_iload_n (pc := 12) hG dX8_dead_12 rfl 1 rfl ?_
    refine sx_if_lt (pc := 13) (tgt := 21) (B := False) hG dX8_dead_13 (by decide) (sx_lt0 (by omega)) (fun c13 => ?_) (fun c13 => ?_)
    · skip
      exact absurd c13 (by decide)
    · skip
      refine sx_iload_n (pc := 16) hG dX8_dead_16 rfl 1 rfl ?_
      refine sx_iconst (pc := 17) (v := nI 1) hG dX8_dead_17 (by decide +kernel) ?_
      refine sx_icmp_le (pc := 18) (tgt := 23) (B := 1 ≤ 1) hG dX8_dead_18 (by decide) (nI_leI (by omega) (by omega)) (fun c18 => ?_) (fun c18 => ?_)
      · skip
        refine sx_iconst (pc := 23) (v := (-1)) hG dX8_dead_23 (by decide +kernel) ?_
        refine sx_istore_n (pc := 24) (lv2 := [(0, .ref (bd 0)), (1, .int (nI 1)), (2, .int (-1))]) hG [1, 2, 0] dX8_dead_24 rfl hN (by decide) rfl ?_
        refine sx_iconst (pc := 25) (v := nI 1) hG dX8_dead_25 (by decide +kernel) ?_
        refine sx_istore_n (pc := 26) (lv2 := [(0, .ref (bd 0)), (1, .int (nI 1)), (2, .int (-1)), (3, .int (nI 1))]) hG [1, 2, 3, 0] dX8_dead_26 rfl hN (by decide) rfl ?_
        refine sx_weq (w2 := (mw X bd (va_up sc 2 (nI 0)) (va_up av 18 (av 18)))) rfl ?_
        refine loop_M _ 1 (-1) (av 18) (Nat.le_refl _) (by omega) (fun a z h1 h2 h3 => absurd h3 (by omega)) hY0 (fun h1 h2 => absurd h1 (by omega)) (Nat.lt_succ_self _)
      · skip
        exact absurd (by decide) c18
end
