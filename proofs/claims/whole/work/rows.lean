section
-- ===== PART A: goes FIRST, ahead of the names: the tables' words, and 'selects' of the private methods out of them =====
/-- a private method of a class that the tables say can be made, by its rows of tables_1 -/
def lw_okq (q : MethodName × Nat) : Prop := (q.1.cls ≠ "java/lang/invoke/MethodHandle" ∧ q.1.cls ≠ "java/lang/invoke/VarHandle") ∧ Cond.instantiable q.1.cls q.2 ∈ tables_1 ∧ Cond.privateMethod q.1 ∈ tables_1 ∧ Cond.instanceMethod q.1 ∈ tables_1
theorem lw_p0 : lw_okq (⟨"SundayMarket", "kindsTold", "(ILSundayMarket$Sheet;II)I"⟩, 8) := ⟨⟨by decide +kernel, by decide +kernel⟩, List.mem_of_getElem? (i := 17) (by decide +kernel), List.mem_of_getElem? (i := 645) (by decide +kernel), List.mem_of_getElem? (i := 646) (by decide +kernel)⟩
theorem lw_p1 : lw_okq (⟨"SundayMarket", "isAsTold", "(IIILSundayMarket$Sheet;II)Z"⟩, 8) := ⟨⟨by decide +kernel, by decide +kernel⟩, List.mem_of_getElem? (i := 17) (by decide +kernel), List.mem_of_getElem? (i := 650) (by decide +kernel), List.mem_of_getElem? (i := 651) (by decide +kernel)⟩
theorem lw_p2 : lw_okq (⟨"SundayMarket", "lovesTold", "(ILSundayMarket$Sheet;II)I"⟩, 8) := ⟨⟨by decide +kernel, by decide +kernel⟩, List.mem_of_getElem? (i := 17) (by decide +kernel), List.mem_of_getElem? (i := 655) (by decide +kernel), List.mem_of_getElem? (i := 656) (by decide +kernel)⟩
theorem lw_p3 : lw_okq (⟨"SundayMarketModel", "personComes", "(III)V"⟩, 19) := ⟨⟨by decide +kernel, by decide +kernel⟩, List.mem_of_getElem? (i := 689) (by decide +kernel), List.mem_of_getElem? (i := 761) (by decide +kernel), List.mem_of_getElem? (i := 762) (by decide +kernel)⟩
theorem lw_p4 : lw_okq (⟨"SundayMarketModel", "isPerson", "(I)Z"⟩, 19) := ⟨⟨by decide +kernel, by decide +kernel⟩, List.mem_of_getElem? (i := 689) (by decide +kernel), List.mem_of_getElem? (i := 769) (by decide +kernel), List.mem_of_getElem? (i := 770) (by decide +kernel)⟩
theorem lw_p5 : lw_okq (⟨"SundayMarketModel", "ofPerson", "(II)I"⟩, 19) := ⟨⟨by decide +kernel, by decide +kernel⟩, List.mem_of_getElem? (i := 689) (by decide +kernel), List.mem_of_getElem? (i := 773) (by decide +kernel), List.mem_of_getElem? (i := 774) (by decide +kernel)⟩
theorem lw_p6 : lw_okq (⟨"SundayMarketModel", "halves", "(I)I"⟩, 19) := ⟨⟨by decide +kernel, by decide +kernel⟩, List.mem_of_getElem? (i := 689) (by decide +kernel), List.mem_of_getElem? (i := 787) (by decide +kernel), List.mem_of_getElem? (i := 788) (by decide +kernel)⟩
theorem lw_p7 : lw_okq (⟨"SundayMarketModel", "hasOne", "(II)Z"⟩, 19) := ⟨⟨by decide +kernel, by decide +kernel⟩, List.mem_of_getElem? (i := 689) (by decide +kernel), List.mem_of_getElem? (i := 791) (by decide +kernel), List.mem_of_getElem? (i := 792) (by decide +kernel)⟩
theorem lw_p8 : lw_okq (⟨"SundayMarketModel", "manyOf", "(II)I"⟩, 19) := ⟨⟨by decide +kernel, by decide +kernel⟩, List.mem_of_getElem? (i := 689) (by decide +kernel), List.mem_of_getElem? (i := 795) (by decide +kernel), List.mem_of_getElem? (i := 796) (by decide +kernel)⟩
theorem lw_p9 : lw_okq (⟨"SundayMarketModel", "manyAll", "(I)I"⟩, 19) := ⟨⟨by decide +kernel, by decide +kernel⟩, List.mem_of_getElem? (i := 689) (by decide +kernel), List.mem_of_getElem? (i := 799) (by decide +kernel), List.mem_of_getElem? (i := 800) (by decide +kernel)⟩
theorem lw_p10 : lw_okq (⟨"SundayMarketModel", "worth", "(I)I"⟩, 19) := ⟨⟨by decide +kernel, by decide +kernel⟩, List.mem_of_getElem? (i := 689) (by decide +kernel), List.mem_of_getElem? (i := 803) (by decide +kernel), List.mem_of_getElem? (i := 804) (by decide +kernel)⟩
theorem lw_p11 : lw_okq (⟨"SundayMarketModel", "worthOf", "(II)I"⟩, 19) := ⟨⟨by decide +kernel, by decide +kernel⟩, List.mem_of_getElem? (i := 689) (by decide +kernel), List.mem_of_getElem? (i := 807) (by decide +kernel), List.mem_of_getElem? (i := 808) (by decide +kernel)⟩
theorem lw_p12 : lw_okq (⟨"SundayMarketModel", "worthIf", "(II)I"⟩, 19) := ⟨⟨by decide +kernel, by decide +kernel⟩, List.mem_of_getElem? (i := 689) (by decide +kernel), List.mem_of_getElem? (i := 811) (by decide +kernel), List.mem_of_getElem? (i := 812) (by decide +kernel)⟩
theorem lw_p13 : lw_okq (⟨"SundayMarketModel", "worthAll", "()I"⟩, 19) := ⟨⟨by decide +kernel, by decide +kernel⟩, List.mem_of_getElem? (i := 689) (by decide +kernel), List.mem_of_getElem? (i := 831) (by decide +kernel), List.mem_of_getElem? (i := 832) (by decide +kernel)⟩
theorem lw_p14 : lw_okq (⟨"SundayMarketModel", "chalkAll", "()I"⟩, 19) := ⟨⟨by decide +kernel, by decide +kernel⟩, List.mem_of_getElem? (i := 689) (by decide +kernel), List.mem_of_getElem? (i := 835) (by decide +kernel), List.mem_of_getElem? (i := 836) (by decide +kernel)⟩
theorem lw_p15 : lw_okq (⟨"SundayMarketModel", "readSundays", "()V"⟩, 19) := ⟨⟨by decide +kernel, by decide +kernel⟩, List.mem_of_getElem? (i := 689) (by decide +kernel), List.mem_of_getElem? (i := 849) (by decide +kernel), List.mem_of_getElem? (i := 850) (by decide +kernel)⟩
def lw_privs_1 : List (MethodName × Nat) := [(⟨"SundayMarket", "kindsTold", "(ILSundayMarket$Sheet;II)I"⟩, 8), (⟨"SundayMarket", "isAsTold", "(IIILSundayMarket$Sheet;II)Z"⟩, 8), (⟨"SundayMarket", "lovesTold", "(ILSundayMarket$Sheet;II)I"⟩, 8), (⟨"SundayMarketModel", "personComes", "(III)V"⟩, 19), (⟨"SundayMarketModel", "isPerson", "(I)Z"⟩, 19), (⟨"SundayMarketModel", "ofPerson", "(II)I"⟩, 19), (⟨"SundayMarketModel", "halves", "(I)I"⟩, 19), (⟨"SundayMarketModel", "hasOne", "(II)Z"⟩, 19), (⟨"SundayMarketModel", "manyOf", "(II)I"⟩, 19), (⟨"SundayMarketModel", "manyAll", "(I)I"⟩, 19), (⟨"SundayMarketModel", "worth", "(I)I"⟩, 19), (⟨"SundayMarketModel", "worthOf", "(II)I"⟩, 19), (⟨"SundayMarketModel", "worthIf", "(II)I"⟩, 19), (⟨"SundayMarketModel", "worthAll", "()I"⟩, 19), (⟨"SundayMarketModel", "chalkAll", "()I"⟩, 19), (⟨"SundayMarketModel", "readSundays", "()V"⟩, 19)]
theorem lw_r1 : ∀ q ∈ lw_privs_1, lw_okq q := List.forall_mem_cons.mpr ⟨lw_p0, List.forall_mem_cons.mpr ⟨lw_p1, List.forall_mem_cons.mpr ⟨lw_p2, List.forall_mem_cons.mpr ⟨lw_p3, List.forall_mem_cons.mpr ⟨lw_p4, List.forall_mem_cons.mpr ⟨lw_p5, List.forall_mem_cons.mpr ⟨lw_p6, List.forall_mem_cons.mpr ⟨lw_p7, List.forall_mem_cons.mpr ⟨lw_p8, List.forall_mem_cons.mpr ⟨lw_p9, List.forall_mem_cons.mpr ⟨lw_p10, List.forall_mem_cons.mpr ⟨lw_p11, List.forall_mem_cons.mpr ⟨lw_p12, List.forall_mem_cons.mpr ⟨lw_p13, List.forall_mem_cons.mpr ⟨lw_p14, List.forall_mem_cons.mpr ⟨lw_p15, fun _ h => absurd h List.not_mem_nil⟩⟩⟩⟩⟩⟩⟩⟩⟩⟩⟩⟩⟩⟩⟩⟩
theorem lw_p16 : lw_okq (⟨"SundayMarketModel", "here", "()I"⟩, 19) := ⟨⟨by decide +kernel, by decide +kernel⟩, List.mem_of_getElem? (i := 689) (by decide +kernel), List.mem_of_getElem? (i := 853) (by decide +kernel), List.mem_of_getElem? (i := 854) (by decide +kernel)⟩
theorem lw_p17 : lw_okq (⟨"SundayMarketModel", "must", "(Z)V"⟩, 19) := ⟨⟨by decide +kernel, by decide +kernel⟩, List.mem_of_getElem? (i := 689) (by decide +kernel), List.mem_of_getElem? (i := 857) (by decide +kernel), List.mem_of_getElem? (i := 858) (by decide +kernel)⟩
theorem lw_p18 : lw_okq (⟨"SundayMarketModel", "readPeople", "()I"⟩, 19) := ⟨⟨by decide +kernel, by decide +kernel⟩, List.mem_of_getElem? (i := 689) (by decide +kernel), List.mem_of_getElem? (i := 861) (by decide +kernel), List.mem_of_getElem? (i := 862) (by decide +kernel)⟩
theorem lw_p19 : lw_okq (⟨"SundayMarketModel", "number", "()I"⟩, 19) := ⟨⟨by decide +kernel, by decide +kernel⟩, List.mem_of_getElem? (i := 689) (by decide +kernel), List.mem_of_getElem? (i := 865) (by decide +kernel), List.mem_of_getElem? (i := 866) (by decide +kernel)⟩
theorem lw_p20 : lw_okq (⟨"SundayMarketModel", "letters", "(I)I"⟩, 19) := ⟨⟨by decide +kernel, by decide +kernel⟩, List.mem_of_getElem? (i := 689) (by decide +kernel), List.mem_of_getElem? (i := 871) (by decide +kernel), List.mem_of_getElem? (i := 872) (by decide +kernel)⟩
theorem lw_p21 : lw_okq (⟨"SundayMarketModel", "areThere", "(I)Z"⟩, 19) := ⟨⟨by decide +kernel, by decide +kernel⟩, List.mem_of_getElem? (i := 689) (by decide +kernel), List.mem_of_getElem? (i := 875) (by decide +kernel), List.mem_of_getElem? (i := 876) (by decide +kernel)⟩
theorem lw_p22 : lw_okq (⟨"SundayMarketModel", "gets", "(III)V"⟩, 19) := ⟨⟨by decide +kernel, by decide +kernel⟩, List.mem_of_getElem? (i := 689) (by decide +kernel), List.mem_of_getElem? (i := 879) (by decide +kernel), List.mem_of_getElem? (i := 880) (by decide +kernel)⟩
theorem lw_p23 : lw_okq (⟨"SundayMarketModel", "areTwo", "(II)Z"⟩, 19) := ⟨⟨by decide +kernel, by decide +kernel⟩, List.mem_of_getElem? (i := 689) (by decide +kernel), List.mem_of_getElem? (i := 887) (by decide +kernel), List.mem_of_getElem? (i := 888) (by decide +kernel)⟩
theorem lw_p24 : lw_okq (⟨"SundayMarketModel", "maySell", "(II)Z"⟩, 19) := ⟨⟨by decide +kernel, by decide +kernel⟩, List.mem_of_getElem? (i := 689) (by decide +kernel), List.mem_of_getElem? (i := 892) (by decide +kernel), List.mem_of_getElem? (i := 893) (by decide +kernel)⟩
theorem lw_p25 : lw_okq (⟨"SundayMarketModel", "notes", "()V"⟩, 19) := ⟨⟨by decide +kernel, by decide +kernel⟩, List.mem_of_getElem? (i := 689) (by decide +kernel), List.mem_of_getElem? (i := 899) (by decide +kernel), List.mem_of_getElem? (i := 900) (by decide +kernel)⟩
theorem lw_p26 : lw_okq (⟨"SundayMarketModel", "goes", "(III)V"⟩, 19) := ⟨⟨by decide +kernel, by decide +kernel⟩, List.mem_of_getElem? (i := 689) (by decide +kernel), List.mem_of_getElem? (i := 903) (by decide +kernel), List.mem_of_getElem? (i := 904) (by decide +kernel)⟩
theorem lw_p27 : lw_okq (⟨"SundayMarketModel", "pays", "(II)V"⟩, 19) := ⟨⟨by decide +kernel, by decide +kernel⟩, List.mem_of_getElem? (i := 689) (by decide +kernel), List.mem_of_getElem? (i := 907) (by decide +kernel), List.mem_of_getElem? (i := 908) (by decide +kernel)⟩
theorem lw_p28 : lw_okq (⟨"SundayMarketModel", "trades", "(III)V"⟩, 19) := ⟨⟨by decide +kernel, by decide +kernel⟩, List.mem_of_getElem? (i := 689) (by decide +kernel), List.mem_of_getElem? (i := 932) (by decide +kernel), List.mem_of_getElem? (i := 933) (by decide +kernel)⟩
theorem lw_p29 : lw_okq (⟨"SundayMarketModel", "middleOf", "(III)I"⟩, 19) := ⟨⟨by decide +kernel, by decide +kernel⟩, List.mem_of_getElem? (i := 689) (by decide +kernel), List.mem_of_getElem? (i := 936) (by decide +kernel), List.mem_of_getElem? (i := 937) (by decide +kernel)⟩
theorem lw_p30 : lw_okq (⟨"SundayMarketModel", "gainOf", "(III)I"⟩, 19) := ⟨⟨by decide +kernel, by decide +kernel⟩, List.mem_of_getElem? (i := 689) (by decide +kernel), List.mem_of_getElem? (i := 952) (by decide +kernel), List.mem_of_getElem? (i := 953) (by decide +kernel)⟩
theorem lw_p31 : lw_okq (⟨"SundayMarketModel", "bestSale", "()I"⟩, 19) := ⟨⟨by decide +kernel, by decide +kernel⟩, List.mem_of_getElem? (i := 689) (by decide +kernel), List.mem_of_getElem? (i := 964) (by decide +kernel), List.mem_of_getElem? (i := 965) (by decide +kernel)⟩
def lw_privs_2 : List (MethodName × Nat) := [(⟨"SundayMarketModel", "here", "()I"⟩, 19), (⟨"SundayMarketModel", "must", "(Z)V"⟩, 19), (⟨"SundayMarketModel", "readPeople", "()I"⟩, 19), (⟨"SundayMarketModel", "number", "()I"⟩, 19), (⟨"SundayMarketModel", "letters", "(I)I"⟩, 19), (⟨"SundayMarketModel", "areThere", "(I)Z"⟩, 19), (⟨"SundayMarketModel", "gets", "(III)V"⟩, 19), (⟨"SundayMarketModel", "areTwo", "(II)Z"⟩, 19), (⟨"SundayMarketModel", "maySell", "(II)Z"⟩, 19), (⟨"SundayMarketModel", "notes", "()V"⟩, 19), (⟨"SundayMarketModel", "goes", "(III)V"⟩, 19), (⟨"SundayMarketModel", "pays", "(II)V"⟩, 19), (⟨"SundayMarketModel", "trades", "(III)V"⟩, 19), (⟨"SundayMarketModel", "middleOf", "(III)I"⟩, 19), (⟨"SundayMarketModel", "gainOf", "(III)I"⟩, 19), (⟨"SundayMarketModel", "bestSale", "()I"⟩, 19)]
theorem lw_r2 : ∀ q ∈ lw_privs_2, lw_okq q := List.forall_mem_cons.mpr ⟨lw_p16, List.forall_mem_cons.mpr ⟨lw_p17, List.forall_mem_cons.mpr ⟨lw_p18, List.forall_mem_cons.mpr ⟨lw_p19, List.forall_mem_cons.mpr ⟨lw_p20, List.forall_mem_cons.mpr ⟨lw_p21, List.forall_mem_cons.mpr ⟨lw_p22, List.forall_mem_cons.mpr ⟨lw_p23, List.forall_mem_cons.mpr ⟨lw_p24, List.forall_mem_cons.mpr ⟨lw_p25, List.forall_mem_cons.mpr ⟨lw_p26, List.forall_mem_cons.mpr ⟨lw_p27, List.forall_mem_cons.mpr ⟨lw_p28, List.forall_mem_cons.mpr ⟨lw_p29, List.forall_mem_cons.mpr ⟨lw_p30, List.forall_mem_cons.mpr ⟨lw_p31, fun _ h => absurd h List.not_mem_nil⟩⟩⟩⟩⟩⟩⟩⟩⟩⟩⟩⟩⟩⟩⟩⟩
theorem lw_p32 : lw_okq (⟨"SundayMarketModel", "asides", "()V"⟩, 19) := ⟨⟨by decide +kernel, by decide +kernel⟩, List.mem_of_getElem? (i := 689) (by decide +kernel), List.mem_of_getElem? (i := 972) (by decide +kernel), List.mem_of_getElem? (i := 973) (by decide +kernel)⟩
theorem lw_p33 : lw_okq (⟨"SundayMarketModel", "backs", "()V"⟩, 19) := ⟨⟨by decide +kernel, by decide +kernel⟩, List.mem_of_getElem? (i := 689) (by decide +kernel), List.mem_of_getElem? (i := 976) (by decide +kernel), List.mem_of_getElem? (i := 977) (by decide +kernel)⟩
theorem lw_p34 : lw_okq (⟨"SundayMarketModel", "why", "(IIII)I"⟩, 19) := ⟨⟨by decide +kernel, by decide +kernel⟩, List.mem_of_getElem? (i := 689) (by decide +kernel), List.mem_of_getElem? (i := 1030) (by decide +kernel), List.mem_of_getElem? (i := 1031) (by decide +kernel)⟩
theorem lw_p35 : lw_okq (⟨"SundayMarketModel", "isSo", "(III)Z"⟩, 19) := ⟨⟨by decide +kernel, by decide +kernel⟩, List.mem_of_getElem? (i := 689) (by decide +kernel), List.mem_of_getElem? (i := 1034) (by decide +kernel), List.mem_of_getElem? (i := 1035) (by decide +kernel)⟩
def lw_privs_3 : List (MethodName × Nat) := [(⟨"SundayMarketModel", "asides", "()V"⟩, 19), (⟨"SundayMarketModel", "backs", "()V"⟩, 19), (⟨"SundayMarketModel", "why", "(IIII)I"⟩, 19), (⟨"SundayMarketModel", "isSo", "(III)Z"⟩, 19)]
theorem lw_r3 : ∀ q ∈ lw_privs_3, lw_okq q := List.forall_mem_cons.mpr ⟨lw_p32, List.forall_mem_cons.mpr ⟨lw_p33, List.forall_mem_cons.mpr ⟨lw_p34, List.forall_mem_cons.mpr ⟨lw_p35, fun _ h => absurd h List.not_mem_nil⟩⟩⟩⟩
def lw_privs : List (MethodName × Nat) := lw_privs_1 ++ (lw_privs_2 ++ (lw_privs_3))
def lw_tbl : List Cond := k2_sels lw_privs ++ tables_1
theorem lw_privs_ok : ∀ q ∈ lw_privs, lw_okq q := by
  show ∀ q ∈ lw_privs_1 ++ (lw_privs_2 ++ (lw_privs_3)), lw_okq q
  exact List.forall_mem_append.mpr ⟨lw_r1, List.forall_mem_append.mpr ⟨lw_r2, lw_r3⟩⟩
def RX0 : String := "SundayMarket$Goods"
def TX0 : u_T := fun k => match k with
  | 0 => ("SundayMarket$Goods", "many", "[I", true)
  | 1 => ("SundayMarket$Goods", "sets", "[I", true)
  | 2 => ("SundayMarket$Goods", "chalk", "[I", true)
  | 3 => ("SundayMarket$Goods", "wet", "I", false)
  | 4 => ("SundayMarket$Goods", "harvest", "I", false)
  | _ => ("SundayMarket$Goods", "draw", "I", false)
def tyX0 : Nat → FieldType := fun k => match k with
  | 0 => .array .int
  | 1 => .array .int
  | 2 => .array .int
  | 3 => .int
  | 4 => .int
  | _ => .int
abbrev wsX00 : List Cond := u_ws RX0 TX0 6
theorem nmX0 : ∀ a, a < 6 → ∀ b, b < 6 → a ≠ b → (TX0 a).2.1 ≠ (TX0 b).2.1 := by decide +kernel
theorem tyX0_ok : ∀ k, k < 6 → parseFieldDescriptor (TX0 k).2.2.1 = some (tyX0 k) := by decide +kernel
abbrev cX0_init : ByteArray := prog_2_method_1_code
def yX0_init : MethodName := ⟨RX0, "<init>", "()V"⟩
abbrev cX0_copyGoods : ByteArray := prog_2_method_2_code
def yX0_copyGoods : MethodName := ⟨RX0, "copyGoods", "(LSundayMarket$Goods;)V"⟩
abbrev cX0_manyOf : ByteArray := prog_2_method_3_code
def yX0_manyOf : MethodName := ⟨RX0, "manyOf", "(II)I"⟩
abbrev cX0_manyInAll : ByteArray := prog_2_method_4_code
def yX0_manyInAll : MethodName := ⟨RX0, "manyInAll", "(I)I"⟩
abbrev cX0_setMany : ByteArray := prog_2_method_5_code
def yX0_setMany : MethodName := ⟨RX0, "setMany", "(III)V"⟩
abbrev cX0_move : ByteArray := prog_2_method_6_code
def yX0_move : MethodName := ⟨RX0, "move", "(III)V"⟩
abbrev cX0_pay : ByteArray := prog_2_method_7_code
def yX0_pay : MethodName := ⟨RX0, "pay", "(III)V"⟩
def RX1 : String := "SundayMarket$Past"
def TX1 : u_T := fun k => match k with
  | 0 => ("SundayMarket$Past", "rows", "[LSundayMarket$Goods;", true)
  | _ => ("SundayMarket$Past", "known", "I", false)
def tyX1 : Nat → FieldType := fun k => match k with
  | 0 => .array (.object "SundayMarket$Goods")
  | _ => .int
abbrev wsX10 : List Cond := u_ws RX1 TX1 2
theorem nmX1 : ∀ a, a < 2 → ∀ b, b < 2 → a ≠ b → (TX1 a).2.1 ≠ (TX1 b).2.1 := by decide +kernel
theorem tyX1_ok : ∀ k, k < 2 → parseFieldDescriptor (TX1 k).2.2.1 = some (tyX1 k) := by decide +kernel
abbrev cX1_init : ByteArray := prog_3_method_1_code
def yX1_init : MethodName := ⟨RX1, "<init>", "()V"⟩
abbrev cX1_copyPast : ByteArray := prog_3_method_2_code
def yX1_copyPast : MethodName := ⟨RX1, "copyPast", "(LSundayMarket$Past;)V"⟩
abbrev cX1_forget : ByteArray := prog_3_method_3_code
def yX1_forget : MethodName := ⟨RX1, "forget", "()V"⟩
abbrev cX1_remember : ByteArray := prog_3_method_4_code
def yX1_remember : MethodName := ⟨RX1, "remember", "(LSundayMarket$Goods;)V"⟩
abbrev cX1_loseOldest : ByteArray := prog_3_method_5_code
def yX1_loseOldest : MethodName := ⟨RX1, "loseOldest", "()V"⟩
abbrev cX1_bringBack : ByteArray := prog_3_method_6_code
def yX1_bringBack : MethodName := ⟨RX1, "bringBack", "(LSundayMarket$Goods;)V"⟩
def RX2 : String := "SundayMarket$Sheet"
def TX2 : u_T := fun k => match k with
  | 0 => ("SundayMarket$Sheet", "items", "[J", true)
  | 1 => ("SundayMarket$Sheet", "lane", "I", false)
  | _ => ("SundayMarket$Sheet", "size", "I", false)
def tyX2 : Nat → FieldType := fun k => match k with
  | 0 => .array .long
  | 1 => .int
  | _ => .int
abbrev wsX20 : List Cond := u_ws RX2 TX2 3
theorem nmX2 : ∀ a, a < 3 → ∀ b, b < 3 → a ≠ b → (TX2 a).2.1 ≠ (TX2 b).2.1 := by decide +kernel
theorem tyX2_ok : ∀ k, k < 3 → parseFieldDescriptor (TX2 k).2.2.1 = some (tyX2 k) := by decide +kernel
abbrev cX2_init : ByteArray := prog_4_method_1_code
def yX2_init : MethodName := ⟨RX2, "<init>", "()V"⟩
abbrev cX2_begin : ByteArray := prog_4_method_2_code
def yX2_begin : MethodName := ⟨RX2, "begin", "(II)V"⟩
abbrev cX2_hasRoom : ByteArray := prog_4_method_3_code
def yX2_hasRoom : MethodName := ⟨RX2, "hasRoom", "(II)Z"⟩
abbrev cX2_troubleOf : ByteArray := prog_4_method_4_code
def yX2_troubleOf : MethodName := ⟨RX2, "troubleOf", "(III)I"⟩
abbrev cX2_put : ByteArray := prog_4_method_5_code
def yX2_put : MethodName := ⟨RX2, "put", "(IJ)V"⟩
def RX3 : String := "SundayMarket$Tape"
def TX3 : u_T := fun k => match k with
  | 0 => ("SundayMarket$Tape", "letters", "[C", true)
  | 1 => ("SundayMarket$Tape", "length", "I", false)
  | _ => ("SundayMarket$Tape", "place", "I", false)
def tyX3 : Nat → FieldType := fun k => match k with
  | 0 => .array .char
  | 1 => .int
  | _ => .int
abbrev wsX30 : List Cond := u_ws RX3 TX3 3
theorem nmX3 : ∀ a, a < 3 → ∀ b, b < 3 → a ≠ b → (TX3 a).2.1 ≠ (TX3 b).2.1 := by decide +kernel
theorem tyX3_ok : ∀ k, k < 3 → parseFieldDescriptor (TX3 k).2.2.1 = some (tyX3 k) := by decide +kernel
abbrev cX3_init : ByteArray := prog_5_method_1_code
def yX3_init : MethodName := ⟨RX3, "<init>", "()V"⟩
abbrev cX3_put : ByteArray := prog_5_method_2_code
def yX3_put : MethodName := ⟨RX3, "put", "(C)I"⟩
abbrev cX3_wipe : ByteArray := prog_5_method_3_code
def yX3_wipe : MethodName := ⟨RX3, "wipe", "()V"⟩
abbrev cX3_tell : ByteArray := prog_5_method_4_code
def yX3_tell : MethodName := ⟨RX3, "tell", "(LSundayMarket$Town;)Z"⟩
abbrev cX3_tellSundays : ByteArray := prog_5_method_5_code
def yX3_tellSundays : MethodName := ⟨RX3, "tellSundays", "(LSundayMarket$Goods;)Z"⟩
abbrev cX3_tellPeople : ByteArray := prog_5_method_6_code
def yX3_tellPeople : MethodName := ⟨RX3, "tellPeople", "(LSundayMarket$Town;)Z"⟩
abbrev cX3_tellOne : ByteArray := prog_5_method_7_code
def yX3_tellOne : MethodName := ⟨RX3, "tellOne", "(LSundayMarket$Town;)Z"⟩
abbrev cX3_tellHalves : ByteArray := prog_5_method_8_code
def yX3_tellHalves : MethodName := ⟨RX3, "tellHalves", "(LSundayMarket$Goods;II)Z"⟩
abbrev cX3_lovesAreThere : ByteArray := prog_5_method_9_code
def yX3_lovesAreThere : MethodName := ⟨RX3, "lovesAreThere", "(LSundayMarket$Town;)Z"⟩
abbrev cX3_next : ByteArray := prog_5_method_10_code
def yX3_next : MethodName := ⟨RX3, "next", "()I"⟩
abbrev cX3_takes : ByteArray := prog_5_method_11_code
def yX3_takes : MethodName := ⟨RX3, "takes", "(C)Z"⟩
abbrev cX3_takeOneOf : ByteArray := prog_5_method_12_code
def yX3_takeOneOf : MethodName := ⟨RX3, "takeOneOf", "(Ljava/lang/String;)I"⟩
abbrev cX3_takeNumber : ByteArray := prog_5_method_13_code
def yX3_takeNumber : MethodName := ⟨RX3, "takeNumber", "()I"⟩
def RX4 : String := "SundayMarket$Town"
def TX4 : u_T := fun k => match k with
  | 0 => ("SundayMarket$Town", "people", "I", false)
  | 1 => ("SundayMarket$Town", "fewest", "I", false)
  | 2 => ("SundayMarket$Town", "kinds", "[I", true)
  | 3 => ("SundayMarket$Town", "loves", "[I", true)
  | _ => ("SundayMarket$Town", "goods", "LSundayMarket$Goods;", true)
def tyX4 : Nat → FieldType := fun k => match k with
  | 0 => .int
  | 1 => .int
  | 2 => .array .int
  | 3 => .array .int
  | _ => .object "SundayMarket$Goods"
abbrev wsX40 : List Cond := u_ws RX4 TX4 5
theorem nmX4 : ∀ a, a < 5 → ∀ b, b < 5 → a ≠ b → (TX4 a).2.1 ≠ (TX4 b).2.1 := by decide +kernel
theorem tyX4_ok : ∀ k, k < 5 → parseFieldDescriptor (TX4 k).2.2.1 = some (tyX4 k) := by decide +kernel
abbrev cX4_init : ByteArray := prog_6_method_1_code
def yX4_init : MethodName := ⟨RX4, "<init>", "()V"⟩
abbrev cX4_copyTown : ByteArray := prog_6_method_2_code
def yX4_copyTown : MethodName := ⟨RX4, "copyTown", "(LSundayMarket$Town;)V"⟩
abbrev cX4_isOne : ByteArray := prog_6_method_3_code
def yX4_isOne : MethodName := ⟨RX4, "isOne", "(I)Z"⟩
abbrev cX4_areTwo : ByteArray := prog_6_method_4_code
def yX4_areTwo : MethodName := ⟨RX4, "areTwo", "(II)Z"⟩
abbrev cX4_settle : ByteArray := prog_6_method_5_code
def yX4_settle : MethodName := ⟨RX4, "settle", "(II)I"⟩
abbrev cX4_lovedSet : ByteArray := prog_6_method_6_code
def yX4_lovedSet : MethodName := ⟨RX4, "lovedSet", "(II)I"⟩
abbrev cX4_worthOfHalf : ByteArray := prog_6_method_7_code
def yX4_worthOfHalf : MethodName := ⟨RX4, "worthOfHalf", "(II)I"⟩
abbrev cX4_worthOf : ByteArray := prog_6_method_8_code
def yX4_worthOf : MethodName := ⟨RX4, "worthOf", "(I)I"⟩
abbrev cX4_worthOfSet : ByteArray := prog_6_method_9_code
def yX4_worthOfSet : MethodName := ⟨RX4, "worthOfSet", "(II)I"⟩
abbrev cX4_worthInRain : ByteArray := prog_6_method_10_code
def yX4_worthInRain : MethodName := ⟨RX4, "worthInRain", "(III)I"⟩
abbrev cX4_worthOfAll : ByteArray := prog_6_method_11_code
def yX4_worthOfAll : MethodName := ⟨RX4, "worthOfAll", "()I"⟩
abbrev cX4_worthOfAllOn : ByteArray := prog_6_method_12_code
def yX4_worthOfAllOn : MethodName := ⟨RX4, "worthOfAllOn", "(I)I"⟩
abbrev cX4_chalkOfAll : ByteArray := prog_6_method_13_code
def yX4_chalkOfAll : MethodName := ⟨RX4, "chalkOfAll", "()I"⟩
abbrev cX4_dearestHalf : ByteArray := prog_6_method_14_code
def yX4_dearestHalf : MethodName := ⟨RX4, "dearestHalf", "(I)I"⟩
abbrev cX4_maySell : ByteArray := prog_6_method_15_code
def yX4_maySell : MethodName := ⟨RX4, "maySell", "(IIII)Z"⟩
abbrev cX4_gainOfSale : ByteArray := prog_6_method_16_code
def yX4_gainOfSale : MethodName := ⟨RX4, "gainOfSale", "(III)I"⟩
abbrev cX4_middleOfSale : ByteArray := prog_6_method_17_code
def yX4_middleOfSale : MethodName := ⟨RX4, "middleOfSale", "(III)I"⟩
abbrev cX4_bestSale : ByteArray := prog_6_method_18_code
def yX4_bestSale : MethodName := ⟨RX4, "bestSale", "()I"⟩
abbrev cX4_mightGain : ByteArray := prog_6_method_19_code
def yX4_mightGain : MethodName := ⟨RX4, "mightGain", "(III)Z"⟩
abbrev cX4_driftOnce : ByteArray := prog_6_method_20_code
def yX4_driftOnce : MethodName := ⟨RX4, "driftOnce", "()V"⟩
abbrev cX4_weightOfRain : ByteArray := prog_6_method_21_code
def yX4_weightOfRain : MethodName := ⟨RX4, "weightOfRain", "(III)I"⟩
def RX5 : String := "SundayMarket"
def TX5 : u_T := fun k => match k with
  | 0 => ("SundayMarket", "now", "LSundayMarket$Town;", true)
  | 1 => ("SundayMarket", "past", "LSundayMarket$Past;", true)
  | 2 => ("SundayMarket", "kept", "LSundayMarket$Town;", true)
  | 3 => ("SundayMarket", "keptPast", "LSundayMarket$Past;", true)
  | 4 => ("SundayMarket", "isKept", "Z", false)
  | 5 => ("SundayMarket", "trial", "LSundayMarket$Town;", true)
  | 6 => ("SundayMarket", "tape", "LSundayMarket$Tape;", true)
  | _ => ("SundayMarket", "sheets", "[LSundayMarket$Sheet;", true)
def tyX5 : Nat → FieldType := fun k => match k with
  | 0 => .object "SundayMarket$Town"
  | 1 => .object "SundayMarket$Past"
  | 2 => .object "SundayMarket$Town"
  | 3 => .object "SundayMarket$Past"
  | 4 => .boolean
  | 5 => .object "SundayMarket$Town"
  | 6 => .object "SundayMarket$Tape"
  | _ => .array (.object "SundayMarket$Sheet")
abbrev wsX50 : List Cond := u_ws RX5 TX5 8
theorem nmX5 : ∀ a, a < 8 → ∀ b, b < 8 → a ≠ b → (TX5 a).2.1 ≠ (TX5 b).2.1 := by decide +kernel
theorem tyX5_ok : ∀ k, k < 8 → parseFieldDescriptor (TX5 k).2.2.1 = some (tyX5 k) := by decide +kernel
abbrev cX5_init : ByteArray := prog_1_method_1_code
def yX5_init : MethodName := ⟨RX5, "<init>", "()V"⟩
abbrev cX5_person : ByteArray := prog_1_method_2_code
def yX5_person : MethodName := ⟨RX5, "person", "(I)I"⟩
abbrev cX5_love : ByteArray := prog_1_method_3_code
def yX5_love : MethodName := ⟨RX5, "love", "(II)I"⟩
abbrev cX5_least : ByteArray := prog_1_method_4_code
def yX5_least : MethodName := ⟨RX5, "least", "(I)I"⟩
abbrev cX5_of : ByteArray := prog_1_method_5_code
def yX5_of : MethodName := ⟨RX5, "of", "(II)I"⟩
abbrev cX5_has : ByteArray := prog_1_method_6_code
def yX5_has : MethodName := ⟨RX5, "has", "(III)I"⟩
abbrev cX5_at : ByteArray := prog_1_method_7_code
def yX5_at : MethodName := ⟨RX5, "at", "(II)I"⟩
abbrev cX5_type : ByteArray := prog_1_method_8_code
def yX5_type : MethodName := ⟨RX5, "type", "(I)I"⟩
abbrev cX5_read : ByteArray := prog_1_method_9_code
def yX5_read : MethodName := ⟨RX5, "read", "()I"⟩
abbrev cX5_count : ByteArray := prog_1_method_10_code
def yX5_count : MethodName := ⟨RX5, "count", "(I)I"⟩
abbrev cX5_sell : ByteArray := prog_1_method_11_code
def yX5_sell : MethodName := ⟨RX5, "sell", "(IIII)I"⟩
abbrev cX5_seize : ByteArray := prog_1_method_12_code
def yX5_seize : MethodName := ⟨RX5, "seize", "(II)I"⟩
abbrev cX5_give : ByteArray := prog_1_method_13_code
def yX5_give : MethodName := ⟨RX5, "give", "(III)I"⟩
abbrev cX5_make : ByteArray := prog_1_method_14_code
def yX5_make : MethodName := ⟨RX5, "make", "(III)I"⟩
abbrev cX5_drift : ByteArray := prog_1_method_15_code
def yX5_drift : MethodName := ⟨RX5, "drift", "(I)I"⟩
abbrev cX5_undo : ByteArray := prog_1_method_16_code
def yX5_undo : MethodName := ⟨RX5, "undo", "()I"⟩
abbrev cX5_seed : ByteArray := prog_1_method_17_code
def yX5_seed : MethodName := ⟨RX5, "seed", "(I)I"⟩
abbrev cX5_gain : ByteArray := prog_1_method_18_code
def yX5_gain : MethodName := ⟨RX5, "gain", "(III)I"⟩
abbrev cX5_middle : ByteArray := prog_1_method_19_code
def yX5_middle : MethodName := ⟨RX5, "middle", "(III)I"⟩
abbrev cX5_best : ByteArray := prog_1_method_20_code
def yX5_best : MethodName := ⟨RX5, "best", "(I)I"⟩
abbrev cX5_market : ByteArray := prog_1_method_21_code
def yX5_market : MethodName := ⟨RX5, "market", "(I)I"⟩
abbrev cX5_longest : ByteArray := prog_1_method_22_code
def yX5_longest : MethodName := ⟨RX5, "longest", "(II)I"⟩
abbrev cX5_stretch : ByteArray := prog_1_method_23_code
def yX5_stretch : MethodName := ⟨RX5, "stretch", "(III)I"⟩
abbrev cX5_more : ByteArray := prog_1_method_24_code
def yX5_more : MethodName := ⟨RX5, "more", "(IIII)I"⟩
abbrev cX5_envy : ByteArray := prog_1_method_25_code
def yX5_envy : MethodName := ⟨RX5, "envy", "(II)I"⟩
abbrev cX5_both : ByteArray := prog_1_method_26_code
def yX5_both : MethodName := ⟨RX5, "both", "(II)I"⟩
abbrev cX5_hands : ByteArray := prog_1_method_27_code
def yX5_hands : MethodName := ⟨RX5, "hands", "(I)I"⟩
abbrev cX5_rain : ByteArray := prog_1_method_28_code
def yX5_rain : MethodName := ⟨RX5, "rain", "(IIII)I"⟩
abbrev cX5_image : ByteArray := prog_1_method_29_code
def yX5_image : MethodName := ⟨RX5, "image", "()I"⟩
abbrev cX5_restore : ByteArray := prog_1_method_30_code
def yX5_restore : MethodName := ⟨RX5, "restore", "()I"⟩
abbrev cX5_told : ByteArray := prog_1_method_31_code
def yX5_told : MethodName := ⟨RX5, "told", "(IIIIII)I"⟩
abbrev cX5_film : ByteArray := prog_1_method_32_code
def yX5_film : MethodName := ⟨RX5, "film", "(IIIII)I"⟩
abbrev cX5_sheet : ByteArray := prog_1_method_33_code
def yX5_sheet : MethodName := ⟨RX5, "sheet", "(III)I"⟩
abbrev cX5_drop : ByteArray := prog_1_method_34_code
def yX5_drop : MethodName := ⟨RX5, "drop", "(I)I"⟩
abbrev cX5_item : ByteArray := prog_1_method_35_code
def yX5_item : MethodName := ⟨RX5, "item", "(IIIJ)I"⟩
abbrev cX5_copy : ByteArray := prog_1_method_36_code
def yX5_copy : MethodName := ⟨RX5, "copy", "(IIIII)I"⟩
abbrev cX5_kindsTold : ByteArray := prog_1_method_37_code
def yX5_kindsTold : MethodName := ⟨RX5, "kindsTold", "(ILSundayMarket$Sheet;II)I"⟩
abbrev cX5_lovesTold : ByteArray := prog_1_method_38_code
def yX5_lovesTold : MethodName := ⟨RX5, "lovesTold", "(ILSundayMarket$Sheet;II)I"⟩
abbrev cX5_isAsTold : ByteArray := prog_1_method_39_code
def yX5_isAsTold : MethodName := ⟨RX5, "isAsTold", "(IIILSundayMarket$Sheet;II)Z"⟩
abbrev cX5_isWithin : ByteArray := prog_1_method_40_code
def yX5_isWithin : MethodName := ⟨RX5, "isWithin", "(III)Z"⟩
abbrev cX5_isFlag : ByteArray := prog_1_method_41_code
def yX5_isFlag : MethodName := ⟨RX5, "isFlag", "(I)Z"⟩
abbrev cX5_isSunday : ByteArray := prog_1_method_42_code
def yX5_isSunday : MethodName := ⟨RX5, "isSunday", "(I)Z"⟩
abbrev cX5_isHalf : ByteArray := prog_1_method_43_code
def yX5_isHalf : MethodName := ⟨RX5, "isHalf", "(I)Z"⟩
abbrev cX5_isSheet : ByteArray := prog_1_method_44_code
def yX5_isSheet : MethodName := ⟨RX5, "isSheet", "(I)Z"⟩
abbrev cX5_isLane : ByteArray := prog_1_method_45_code
def yX5_isLane : MethodName := ⟨RX5, "isLane", "(I)Z"⟩
abbrev cX5_isIn : ByteArray := prog_1_method_46_code
def yX5_isIn : MethodName := ⟨RX5, "isIn", "(II)Z"⟩
abbrev cX5_lengthFrom : ByteArray := prog_1_method_47_code
def yX5_lengthFrom : MethodName := ⟨RX5, "lengthFrom", "(II)I"⟩
abbrev cX5_power : ByteArray := prog_1_method_48_code
def yX5_power : MethodName := ⟨RX5, "power", "(II)I"⟩
abbrev cX5_greatestDivisor : ByteArray := prog_1_method_49_code
def yX5_greatestDivisor : MethodName := ⟨RX5, "greatestDivisor", "(II)I"⟩
abbrev cX5_saleOf : ByteArray := prog_1_method_50_code
def yX5_saleOf : MethodName := ⟨RX5, "saleOf", "(III)I"⟩
abbrev cX5_sellerOf : ByteArray := prog_1_method_51_code
def yX5_sellerOf : MethodName := ⟨RX5, "sellerOf", "(I)I"⟩
abbrev cX5_buyerOf : ByteArray := prog_1_method_52_code
def yX5_buyerOf : MethodName := ⟨RX5, "buyerOf", "(I)I"⟩
abbrev cX5_halfOf : ByteArray := prog_1_method_53_code
def yX5_halfOf : MethodName := ⟨RX5, "halfOf", "(I)I"⟩
abbrev cX5_worthByKind : ByteArray := prog_1_method_54_code
def yX5_worthByKind : MethodName := ⟨RX5, "worthByKind", "(IIIIII)I"⟩
def RX6 : String := "SundayMarketModel"
def TX6 : u_T := fun k => match k with
  | 0 => ("SundayMarketModel", "now", "[I", true)
  | 1 => ("SundayMarketModel", "tape", "[I", true)
  | 2 => ("SundayMarketModel", "typed", "I", false)
  | 3 => ("SundayMarketModel", "place", "I", false)
  | 4 => ("SundayMarketModel", "isFault", "Z", false)
  | 5 => ("SundayMarketModel", "readWet", "I", false)
  | 6 => ("SundayMarketModel", "readHarvest", "I", false)
  | 7 => ("SundayMarketModel", "read", "[I", true)
  | 8 => ("SundayMarketModel", "undone", "[I", true)
  | 9 => ("SundayMarketModel", "undos", "I", false)
  | 10 => ("SundayMarketModel", "bestGain", "I", false)
  | 11 => ("SundayMarketModel", "aside", "[I", true)
  | 12 => ("SundayMarketModel", "kept", "[I", true)
  | 13 => ("SundayMarketModel", "keptUndos", "I", false)
  | 14 => ("SundayMarketModel", "isKept", "Z", false)
  | 15 => ("SundayMarketModel", "lanes", "[I", true)
  | 16 => ("SundayMarketModel", "sizes", "[I", true)
  | 17 => ("SundayMarketModel", "items", "[J", true)
  | _ => ("SundayMarketModel", "moved", "[J", true)
def tyX6 : Nat → FieldType := fun k => match k with
  | 0 => .array .int
  | 1 => .array .int
  | 2 => .int
  | 3 => .int
  | 4 => .boolean
  | 5 => .int
  | 6 => .int
  | 7 => .array .int
  | 8 => .array .int
  | 9 => .int
  | 10 => .int
  | 11 => .array .int
  | 12 => .array .int
  | 13 => .int
  | 14 => .boolean
  | 15 => .array .int
  | 16 => .array .int
  | 17 => .array .long
  | _ => .array .long
abbrev wsX60 : List Cond := u_ws RX6 TX6 19
theorem nmX6 : ∀ a, a < 19 → ∀ b, b < 19 → a ≠ b → (TX6 a).2.1 ≠ (TX6 b).2.1 := by decide +kernel
theorem tyX6_ok : ∀ k, k < 19 → parseFieldDescriptor (TX6 k).2.2.1 = some (tyX6 k) := by decide +kernel
abbrev cX6_in : ByteArray := prog_8_method_2_code
def yX6_in : MethodName := ⟨RX6, "in", "(JJJ)Z"⟩
abbrev cX6_init : ByteArray := prog_8_method_3_code
def yX6_init : MethodName := ⟨RX6, "<init>", "()V"⟩
abbrev cX6_isPerson : ByteArray := prog_8_method_4_code
def yX6_isPerson : MethodName := ⟨RX6, "isPerson", "(I)Z"⟩
abbrev cX6_isHalf : ByteArray := prog_8_method_5_code
def yX6_isHalf : MethodName := ⟨RX6, "isHalf", "(I)Z"⟩
abbrev cX6_ofPerson : ByteArray := prog_8_method_6_code
def yX6_ofPerson : MethodName := ⟨RX6, "ofPerson", "(II)I"⟩
abbrev cX6_manyOf : ByteArray := prog_8_method_7_code
def yX6_manyOf : MethodName := ⟨RX6, "manyOf", "(II)I"⟩
abbrev cX6_hasOne : ByteArray := prog_8_method_8_code
def yX6_hasOne : MethodName := ⟨RX6, "hasOne", "(II)Z"⟩
abbrev cX6_gets : ByteArray := prog_8_method_9_code
def yX6_gets : MethodName := ⟨RX6, "gets", "(III)V"⟩
abbrev cX6_pays : ByteArray := prog_8_method_10_code
def yX6_pays : MethodName := ⟨RX6, "pays", "(II)V"⟩
abbrev cX6_worthIf : ByteArray := prog_8_method_11_code
def yX6_worthIf : MethodName := ⟨RX6, "worthIf", "(II)I"⟩
abbrev cX6_worthOf : ByteArray := prog_8_method_12_code
def yX6_worthOf : MethodName := ⟨RX6, "worthOf", "(II)I"⟩
abbrev cX6_worth : ByteArray := prog_8_method_13_code
def yX6_worth : MethodName := ⟨RX6, "worth", "(I)I"⟩
abbrev cX6_worthAll : ByteArray := prog_8_method_14_code
def yX6_worthAll : MethodName := ⟨RX6, "worthAll", "()I"⟩
abbrev cX6_halves : ByteArray := prog_8_method_15_code
def yX6_halves : MethodName := ⟨RX6, "halves", "(I)I"⟩
abbrev cX6_manyAll : ByteArray := prog_8_method_16_code
def yX6_manyAll : MethodName := ⟨RX6, "manyAll", "(I)I"⟩
abbrev cX6_many : ByteArray := prog_8_method_17_code
def yX6_many : MethodName := ⟨RX6, "many", "(I)I"⟩
abbrev cX6_personComes : ByteArray := prog_8_method_18_code
def yX6_personComes : MethodName := ⟨RX6, "personComes", "(III)V"⟩
abbrev cX6_person : ByteArray := prog_8_method_19_code
def yX6_person : MethodName := ⟨RX6, "person", "(I)I"⟩
abbrev cX6_love : ByteArray := prog_8_method_20_code
def yX6_love : MethodName := ⟨RX6, "love", "(II)I"⟩
abbrev cX6_least : ByteArray := prog_8_method_21_code
def yX6_least : MethodName := ⟨RX6, "least", "(I)I"⟩
abbrev cX6_of : ByteArray := prog_8_method_22_code
def yX6_of : MethodName := ⟨RX6, "of", "(II)I"⟩
abbrev cX6_has : ByteArray := prog_8_method_23_code
def yX6_has : MethodName := ⟨RX6, "has", "(III)I"⟩
abbrev cX6_at : ByteArray := prog_8_method_24_code
def yX6_at : MethodName := ⟨RX6, "at", "(II)I"⟩
abbrev cX6_chalkAll : ByteArray := prog_8_method_25_code
def yX6_chalkAll : MethodName := ⟨RX6, "chalkAll", "()I"⟩
abbrev cX6_count : ByteArray := prog_8_method_26_code
def yX6_count : MethodName := ⟨RX6, "count", "(I)I"⟩
abbrev cX6_type : ByteArray := prog_8_method_27_code
def yX6_type : MethodName := ⟨RX6, "type", "(I)I"⟩
abbrev cX6_here : ByteArray := prog_8_method_28_code
def yX6_here : MethodName := ⟨RX6, "here", "()I"⟩
abbrev cX6_must : ByteArray := prog_8_method_29_code
def yX6_must : MethodName := ⟨RX6, "must", "(Z)V"⟩
abbrev cX6_number : ByteArray := prog_8_method_30_code
def yX6_number : MethodName := ⟨RX6, "number", "()I"⟩
abbrev cX6_letters : ByteArray := prog_8_method_31_code
def yX6_letters : MethodName := ⟨RX6, "letters", "(I)I"⟩
abbrev cX6_readSundays : ByteArray := prog_8_method_32_code
def yX6_readSundays : MethodName := ⟨RX6, "readSundays", "()V"⟩
abbrev cX6_readPeople : ByteArray := prog_8_method_33_code
def yX6_readPeople : MethodName := ⟨RX6, "readPeople", "()I"⟩
abbrev cX6_areThere : ByteArray := prog_8_method_34_code
def yX6_areThere : MethodName := ⟨RX6, "areThere", "(I)Z"⟩
abbrev cX6_read : ByteArray := prog_8_method_35_code
def yX6_read : MethodName := ⟨RX6, "read", "()I"⟩
abbrev cX6_notes : ByteArray := prog_8_method_36_code
def yX6_notes : MethodName := ⟨RX6, "notes", "()V"⟩
abbrev cX6_maySell : ByteArray := prog_8_method_37_code
def yX6_maySell : MethodName := ⟨RX6, "maySell", "(II)Z"⟩
abbrev cX6_goes : ByteArray := prog_8_method_38_code
def yX6_goes : MethodName := ⟨RX6, "goes", "(III)V"⟩
abbrev cX6_areTwo : ByteArray := prog_8_method_39_code
def yX6_areTwo : MethodName := ⟨RX6, "areTwo", "(II)Z"⟩
abbrev cX6_sell : ByteArray := prog_8_method_40_code
def yX6_sell : MethodName := ⟨RX6, "sell", "(IIII)I"⟩
abbrev cX6_seize : ByteArray := prog_8_method_41_code
def yX6_seize : MethodName := ⟨RX6, "seize", "(II)I"⟩
abbrev cX6_give : ByteArray := prog_8_method_42_code
def yX6_give : MethodName := ⟨RX6, "give", "(III)I"⟩
abbrev cX6_make : ByteArray := prog_8_method_43_code
def yX6_make : MethodName := ⟨RX6, "make", "(III)I"⟩
abbrev cX6_middleOf : ByteArray := prog_8_method_44_code
def yX6_middleOf : MethodName := ⟨RX6, "middleOf", "(III)I"⟩
abbrev cX6_trades : ByteArray := prog_8_method_45_code
def yX6_trades : MethodName := ⟨RX6, "trades", "(III)V"⟩
abbrev cX6_drift : ByteArray := prog_8_method_46_code
def yX6_drift : MethodName := ⟨RX6, "drift", "(I)I"⟩
abbrev cX6_undo : ByteArray := prog_8_method_47_code
def yX6_undo : MethodName := ⟨RX6, "undo", "()I"⟩
abbrev cX6_seed : ByteArray := prog_8_method_48_code
def yX6_seed : MethodName := ⟨RX6, "seed", "(I)I"⟩
abbrev cX6_gainOf : ByteArray := prog_8_method_49_code
def yX6_gainOf : MethodName := ⟨RX6, "gainOf", "(III)I"⟩
abbrev cX6_gain : ByteArray := prog_8_method_50_code
def yX6_gain : MethodName := ⟨RX6, "gain", "(III)I"⟩
abbrev cX6_middle : ByteArray := prog_8_method_51_code
def yX6_middle : MethodName := ⟨RX6, "middle", "(III)I"⟩
abbrev cX6_bestSale : ByteArray := prog_8_method_52_code
def yX6_bestSale : MethodName := ⟨RX6, "bestSale", "()I"⟩
abbrev cX6_best : ByteArray := prog_8_method_53_code
def yX6_best : MethodName := ⟨RX6, "best", "(I)I"⟩
abbrev cX6_asides : ByteArray := prog_8_method_54_code
def yX6_asides : MethodName := ⟨RX6, "asides", "()V"⟩
abbrev cX6_backs : ByteArray := prog_8_method_55_code
def yX6_backs : MethodName := ⟨RX6, "backs", "()V"⟩
abbrev cX6_market : ByteArray := prog_8_method_56_code
def yX6_market : MethodName := ⟨RX6, "market", "(I)I"⟩
abbrev cX6_longest : ByteArray := prog_8_method_57_code
def yX6_longest : MethodName := ⟨RX6, "longest", "(II)I"⟩
abbrev cX6_stretch : ByteArray := prog_8_method_58_code
def yX6_stretch : MethodName := ⟨RX6, "stretch", "(III)I"⟩
abbrev cX6_more : ByteArray := prog_8_method_59_code
def yX6_more : MethodName := ⟨RX6, "more", "(IIII)I"⟩
abbrev cX6_envy : ByteArray := prog_8_method_60_code
def yX6_envy : MethodName := ⟨RX6, "envy", "(II)I"⟩
abbrev cX6_both : ByteArray := prog_8_method_61_code
def yX6_both : MethodName := ⟨RX6, "both", "(II)I"⟩
abbrev cX6_hands : ByteArray := prog_8_method_62_code
def yX6_hands : MethodName := ⟨RX6, "hands", "(I)I"⟩
abbrev cX6_rain : ByteArray := prog_8_method_63_code
def yX6_rain : MethodName := ⟨RX6, "rain", "(IIII)I"⟩
abbrev cX6_image : ByteArray := prog_8_method_64_code
def yX6_image : MethodName := ⟨RX6, "image", "()I"⟩
abbrev cX6_restore : ByteArray := prog_8_method_65_code
def yX6_restore : MethodName := ⟨RX6, "restore", "()I"⟩
abbrev cX6_isSheet : ByteArray := prog_8_method_66_code
def yX6_isSheet : MethodName := ⟨RX6, "isSheet", "(I)Z"⟩
abbrev cX6_isLane : ByteArray := prog_8_method_67_code
def yX6_isLane : MethodName := ⟨RX6, "isLane", "(I)Z"⟩
abbrev cX6_why : ByteArray := prog_8_method_68_code
def yX6_why : MethodName := ⟨RX6, "why", "(IIII)I"⟩
abbrev cX6_isSo : ByteArray := prog_8_method_69_code
def yX6_isSo : MethodName := ⟨RX6, "isSo", "(III)Z"⟩
abbrev cX6_told : ByteArray := prog_8_method_70_code
def yX6_told : MethodName := ⟨RX6, "told", "(IIIIII)I"⟩
abbrev cX6_film : ByteArray := prog_8_method_71_code
def yX6_film : MethodName := ⟨RX6, "film", "(IIIII)I"⟩
abbrev cX6_sheet : ByteArray := prog_8_method_72_code
def yX6_sheet : MethodName := ⟨RX6, "sheet", "(III)I"⟩
abbrev cX6_drop : ByteArray := prog_8_method_73_code
def yX6_drop : MethodName := ⟨RX6, "drop", "(I)I"⟩
abbrev cX6_item : ByteArray := prog_8_method_74_code
def yX6_item : MethodName := ⟨RX6, "item", "(IIIJ)I"⟩
abbrev cX6_copy : ByteArray := prog_8_method_75_code
def yX6_copy : MethodName := ⟨RX6, "copy", "(IIIII)I"⟩
def RJ11 : String := "java/lang/Character"
abbrev cJ11_isValidCodePoint_9a6ad : ByteArray := prog_9_method_11_code
def yJ11_isValidCodePoint_9a6ad : MethodName := ⟨RJ11, "isValidCodePoint", "(I)Z"⟩
abbrev cJ11_highSurrogate_5068e : ByteArray := prog_9_method_28_code
def yJ11_highSurrogate_5068e : MethodName := ⟨RJ11, "highSurrogate", "(I)C"⟩
abbrev cJ11_lowSurrogate_5068e : ByteArray := prog_9_method_29_code
def yJ11_lowSurrogate_5068e : MethodName := ⟨RJ11, "lowSurrogate", "(I)C"⟩
def RJ6 : String := "java/lang/Integer"
abbrev cJ6_bitCount_0f7a4 : ByteArray := prog_10_method_49_code
def yJ6_bitCount_0f7a4 : MethodName := ⟨RJ6, "bitCount", "(I)I"⟩
def RJ9 : String := "java/lang/Math"
abbrev cJ9_max_7cf53 : ByteArray := prog_11_method_65_code
def yJ9_max_7cf53 : MethodName := ⟨RJ9, "max", "(II)I"⟩
abbrev cJ9_min_7cf53 : ByteArray := prog_11_method_69_code
def yJ9_min_7cf53 : MethodName := ⟨RJ9, "min", "(II)I"⟩
def RJ0 : String := "java/lang/String"
abbrev cJ0_length_8abf5 : ByteArray := prog_12_method_54_code
def yJ0_length_8abf5 : MethodName := ⟨RJ0, "length", "()I"⟩
abbrev cJ0_indexOf_0f7a4 : ByteArray := prog_12_method_79_code
def yJ0_indexOf_0f7a4 : MethodName := ⟨RJ0, "indexOf", "(I)I"⟩
abbrev cJ0_indexOf_7cf53 : ByteArray := prog_12_method_80_code
def yJ0_indexOf_7cf53 : MethodName := ⟨RJ0, "indexOf", "(II)I"⟩
abbrev cJ0_coder_7d493 : ByteArray := prog_12_method_152_code
def yJ0_coder_7d493 : MethodName := ⟨RJ0, "coder", "()B"⟩
abbrev cJ0_isLatin1_aae02 : ByteArray := prog_12_method_154_code
def yJ0_isLatin1_aae02 : MethodName := ⟨RJ0, "isLatin1", "()Z"⟩
abbrev cJ0_checkBoundsBeginEnd_23922 : ByteArray := prog_12_method_158_code
def yJ0_checkBoundsBeginEnd_23922 : MethodName := ⟨RJ0, "checkBoundsBeginEnd", "(III)V"⟩
def RJ1 : String := "java/lang/StringLatin1"
abbrev cJ1_canEncode_9a6ad : ByteArray := prog_13_method_4_code
def yJ1_canEncode_9a6ad : MethodName := ⟨RJ1, "canEncode", "(I)Z"⟩
abbrev cJ1_indexOf_4cfef : ByteArray := prog_13_method_22_code
def yJ1_indexOf_4cfef : MethodName := ⟨RJ1, "indexOf", "([BIII)I"⟩
abbrev cJ1_indexOfChar_4cfef : ByteArray := prog_13_method_23_code
def yJ1_indexOfChar_4cfef : MethodName := ⟨RJ1, "indexOfChar", "([BIII)I"⟩
def RJ2 : String := "java/lang/StringUTF16"
abbrev cJ2_getChar_3b067 : ByteArray := prog_14_method_5_code
def yJ2_getChar_3b067 : MethodName := ⟨RJ2, "getChar", "([BI)C"⟩
abbrev cJ2_length_9d52b : ByteArray := prog_14_method_6_code
def yJ2_length_9d52b : MethodName := ⟨RJ2, "length", "([B)I"⟩
abbrev cJ2_indexOf_4cfef : ByteArray := prog_14_method_40_code
def yJ2_indexOf_4cfef : MethodName := ⟨RJ2, "indexOf", "([BIII)I"⟩
abbrev cJ2_indexOfChar_4cfef : ByteArray := prog_14_method_47_code
def yJ2_indexOfChar_4cfef : MethodName := ⟨RJ2, "indexOfChar", "([BIII)I"⟩
abbrev cJ2_indexOfCharUnsafe_4cfef : ByteArray := prog_14_method_48_code
def yJ2_indexOfCharUnsafe_4cfef : MethodName := ⟨RJ2, "indexOfCharUnsafe", "([BIII)I"⟩
abbrev cJ2_indexOfSupplementary_4cfef : ByteArray := prog_14_method_49_code
def yJ2_indexOfSupplementary_4cfef : MethodName := ⟨RJ2, "indexOfSupplementary", "([BIII)I"⟩
abbrev cJ2_checkBoundsBeginEnd_d044e : ByteArray := prog_14_method_93_code
def yJ2_checkBoundsBeginEnd_d044e : MethodName := ⟨RJ2, "checkBoundsBeginEnd", "(II[B)V"⟩
def RJ10 : String := "java/lang/System"
def RJ3 : String := "jdk/internal/util/Preconditions"
abbrev cJ3_checkFromToIndex_8c36e : ByteArray := prog_16_method_12_code
def yJ3_checkFromToIndex_8c36e : MethodName := ⟨RJ3, "checkFromToIndex", "(IIILjava/util/function/BiFunction;)I"⟩
def RL : String := "SundayMarketLaw"
abbrev cL_law : ByteArray := code
def yL_law : MethodName := ⟨RL, "law", "([I)Z"⟩
abbrev vwCl : List vw_C := [(RX0, TX0, 6), (RX1, TX1, 2), (RX2, TX2, 3), (RX3, TX3, 3), (RX4, TX4, 5), (RX5, TX5, 8), (RX6, TX6, 19)]
end
section
theorem dX6_in_0 : decode cX6_in 0 = .ok (.lload_n 0, 1) := by decide +kernel
theorem dX6_in_1 : decode cX6_in 1 = .ok (.lload_n 2, 1) := by decide +kernel
theorem dX6_in_2 : decode cX6_in 2 = .ok (.lcmp, 1) := by decide +kernel
theorem dX6_in_3 : decode cX6_in 3 = .ok (.ifCond .lt 14, 3) := by decide +kernel
theorem dX6_in_6 : decode cX6_in 6 = .ok (.lload_n 0, 1) := by decide +kernel
theorem dX6_in_7 : decode cX6_in 7 = .ok (.lload 4, 2) := by decide +kernel
theorem dX6_in_9 : decode cX6_in 9 = .ok (.lcmp, 1) := by decide +kernel
theorem dX6_in_10 : decode cX6_in 10 = .ok (.ifCond .gt 7, 3) := by decide +kernel
theorem dX6_in_13 : decode cX6_in 13 = .ok (.iconst 1, 1) := by decide +kernel
theorem dX6_in_14 : decode cX6_in 14 = .ok (.goto 4, 3) := by decide +kernel
theorem dX6_in_17 : decode cX6_in 17 = .ok (.iconst 0, 1) := by decide +kernel
theorem dX6_in_18 : decode cX6_in 18 = .ok (.ireturn, 1) := by decide +kernel
theorem dX6_init_0 : decode cX6_init 0 = .ok (.aload_n 0, 1) := by decide +kernel
theorem dX6_init_1 : decode cX6_init 1 = .ok (.invokespecial 1, 3) := by decide +kernel
theorem dX6_init_4 : decode cX6_init 4 = .ok (.aload_n 0, 1) := by decide +kernel
theorem dX6_init_5 : decode cX6_init 5 = .ok (.bipush 95, 2) := by decide +kernel
theorem dX6_init_7 : decode cX6_init 7 = .ok (.newarray .int, 2) := by decide +kernel
theorem dX6_init_9 : decode cX6_init 9 = .ok (.putfield 7, 3) := by decide +kernel
theorem dX6_init_12 : decode cX6_init 12 = .ok (.aload_n 0, 1) := by decide +kernel
theorem dX6_init_13 : decode cX6_init 13 = .ok (.bipush 100, 2) := by decide +kernel
theorem dX6_init_15 : decode cX6_init 15 = .ok (.newarray .int, 2) := by decide +kernel
theorem dX6_init_17 : decode cX6_init 17 = .ok (.putfield 13, 3) := by decide +kernel
theorem dX6_init_20 : decode cX6_init 20 = .ok (.aload_n 0, 1) := by decide +kernel
theorem dX6_init_21 : decode cX6_init 21 = .ok (.bipush 30, 2) := by decide +kernel
theorem dX6_init_23 : decode cX6_init 23 = .ok (.newarray .int, 2) := by decide +kernel
theorem dX6_init_25 : decode cX6_init 25 = .ok (.putfield 16, 3) := by decide +kernel
theorem dX6_init_28 : decode cX6_init 28 = .ok (.aload_n 0, 1) := by decide +kernel
theorem dX6_init_29 : decode cX6_init 29 = .ok (.sipush 648, 3) := by decide +kernel
theorem dX6_init_32 : decode cX6_init 32 = .ok (.newarray .int, 2) := by decide +kernel
theorem dX6_init_34 : decode cX6_init 34 = .ok (.putfield 19, 3) := by decide +kernel
theorem dX6_init_37 : decode cX6_init 37 = .ok (.aload_n 0, 1) := by decide +kernel
theorem dX6_init_38 : decode cX6_init 38 = .ok (.bipush 95, 2) := by decide +kernel
theorem dX6_init_40 : decode cX6_init 40 = .ok (.newarray .int, 2) := by decide +kernel
theorem dX6_init_42 : decode cX6_init 42 = .ok (.putfield 22, 3) := by decide +kernel
theorem dX6_init_45 : decode cX6_init 45 = .ok (.aload_n 0, 1) := by decide +kernel
theorem dX6_init_46 : decode cX6_init 46 = .ok (.sipush 743, 3) := by decide +kernel
theorem dX6_init_49 : decode cX6_init 49 = .ok (.newarray .int, 2) := by decide +kernel
theorem dX6_init_51 : decode cX6_init 51 = .ok (.putfield 25, 3) := by decide +kernel
theorem dX6_init_54 : decode cX6_init 54 = .ok (.aload_n 0, 1) := by decide +kernel
theorem dX6_init_55 : decode cX6_init 55 = .ok (.iconst 4, 1) := by decide +kernel
theorem dX6_init_56 : decode cX6_init 56 = .ok (.newarray .int, 2) := by decide +kernel
theorem dX6_init_58 : decode cX6_init 58 = .ok (.putfield 28, 3) := by decide +kernel
theorem dX6_init_61 : decode cX6_init 61 = .ok (.aload_n 0, 1) := by decide +kernel
theorem dX6_init_62 : decode cX6_init 62 = .ok (.iconst 4, 1) := by decide +kernel
theorem dX6_init_63 : decode cX6_init 63 = .ok (.newarray .int, 2) := by decide +kernel
theorem dX6_init_65 : decode cX6_init 65 = .ok (.putfield 31, 3) := by decide +kernel
theorem dX6_init_68 : decode cX6_init 68 = .ok (.aload_n 0, 1) := by decide +kernel
theorem dX6_init_69 : decode cX6_init 69 = .ok (.bipush 96, 2) := by decide +kernel
theorem dX6_init_71 : decode cX6_init 71 = .ok (.newarray .long, 2) := by decide +kernel
theorem dX6_init_73 : decode cX6_init 73 = .ok (.putfield 34, 3) := by decide +kernel
theorem dX6_init_76 : decode cX6_init 76 = .ok (.aload_n 0, 1) := by decide +kernel
theorem dX6_init_77 : decode cX6_init 77 = .ok (.bipush 24, 2) := by decide +kernel
theorem dX6_init_79 : decode cX6_init 79 = .ok (.newarray .long, 2) := by decide +kernel
theorem dX6_init_81 : decode cX6_init 81 = .ok (.putfield 38, 3) := by decide +kernel
theorem dX6_init_84 : decode cX6_init 84 = .ok (.aload_n 0, 1) := by decide +kernel
theorem dX6_init_85 : decode cX6_init 85 = .ok (.getfield 7, 3) := by decide +kernel
theorem dX6_init_88 : decode cX6_init 88 = .ok (.iconst 1, 1) := by decide +kernel
theorem dX6_init_89 : decode cX6_init 89 = .ok (.iconst 2, 1) := by decide +kernel
theorem dX6_init_90 : decode cX6_init 90 = .ok (.iastore, 1) := by decide +kernel
theorem dX6_init_91 : decode cX6_init 91 = .ok (.aload_n 0, 1) := by decide +kernel
theorem dX6_init_92 : decode cX6_init 92 = .ok (.getfield 7, 3) := by decide +kernel
theorem dX6_init_95 : decode cX6_init 95 = .ok (.iconst 4, 1) := by decide +kernel
theorem dX6_init_96 : decode cX6_init 96 = .ok (.iconst 1, 1) := by decide +kernel
theorem dX6_init_97 : decode cX6_init 97 = .ok (.iastore, 1) := by decide +kernel
theorem dX6_init_98 : decode cX6_init 98 = .ok (.iconst 0, 1) := by decide +kernel
theorem dX6_init_99 : decode cX6_init 99 = .ok (.istore_n 1, 1) := by decide +kernel
theorem dX6_init_100 : decode cX6_init 100 = .ok (.iload_n 1, 1) := by decide +kernel
theorem dX6_init_101 : decode cX6_init 101 = .ok (.iconst 4, 1) := by decide +kernel
theorem dX6_init_102 : decode cX6_init 102 = .ok (.if_icmp .ge 16, 3) := by decide +kernel
theorem dX6_init_105 : decode cX6_init 105 = .ok (.aload_n 0, 1) := by decide +kernel
theorem dX6_init_106 : decode cX6_init 106 = .ok (.getfield 28, 3) := by decide +kernel
theorem dX6_init_109 : decode cX6_init 109 = .ok (.iload_n 1, 1) := by decide +kernel
theorem dX6_init_110 : decode cX6_init 110 = .ok (.iconst (-1), 1) := by decide +kernel
theorem dX6_init_111 : decode cX6_init 111 = .ok (.iastore, 1) := by decide +kernel
theorem dX6_init_112 : decode cX6_init 112 = .ok (.iinc 1 1, 3) := by decide +kernel
theorem dX6_init_115 : decode cX6_init 115 = .ok (.goto (-15), 3) := by decide +kernel
theorem dX6_init_118 : decode cX6_init 118 = .ok (.return_, 1) := by decide +kernel
theorem dX6_isPerson_0 : decode cX6_isPerson 0 = .ok (.iload_n 1, 1) := by decide +kernel
theorem dX6_isPerson_1 : decode cX6_isPerson 1 = .ok (.i2l, 1) := by decide +kernel
theorem dX6_isPerson_2 : decode cX6_isPerson 2 = .ok (.lconst 0, 1) := by decide +kernel
theorem dX6_isPerson_3 : decode cX6_isPerson 3 = .ok (.aload_n 0, 1) := by decide +kernel
theorem dX6_isPerson_4 : decode cX6_isPerson 4 = .ok (.getfield 7, 3) := by decide +kernel
theorem dX6_isPerson_7 : decode cX6_isPerson 7 = .ok (.iconst 0, 1) := by decide +kernel
theorem dX6_isPerson_8 : decode cX6_isPerson 8 = .ok (.iaload, 1) := by decide +kernel
theorem dX6_isPerson_9 : decode cX6_isPerson 9 = .ok (.iconst 1, 1) := by decide +kernel
theorem dX6_isPerson_10 : decode cX6_isPerson 10 = .ok (.isub, 1) := by decide +kernel
theorem dX6_isPerson_11 : decode cX6_isPerson 11 = .ok (.i2l, 1) := by decide +kernel
theorem dX6_isPerson_12 : decode cX6_isPerson 12 = .ok (.invokestatic 41, 3) := by decide +kernel
theorem dX6_isPerson_15 : decode cX6_isPerson 15 = .ok (.ireturn, 1) := by decide +kernel
theorem dX6_isHalf_0 : decode cX6_isHalf 0 = .ok (.iload_n 0, 1) := by decide +kernel
theorem dX6_isHalf_1 : decode cX6_isHalf 1 = .ok (.i2l, 1) := by decide +kernel
theorem dX6_isHalf_2 : decode cX6_isHalf 2 = .ok (.lconst 0, 1) := by decide +kernel
theorem dX6_isHalf_3 : decode cX6_isHalf 3 = .ok (.ldc2_w 45, 3) := by decide +kernel
theorem dX6_isHalf_6 : decode cX6_isHalf 6 = .ok (.invokestatic 41, 3) := by decide +kernel
theorem dX6_isHalf_9 : decode cX6_isHalf 9 = .ok (.ireturn, 1) := by decide +kernel
theorem dX6_ofPerson_0 : decode cX6_ofPerson 0 = .ok (.aload_n 0, 1) := by decide +kernel
theorem dX6_ofPerson_1 : decode cX6_ofPerson 1 = .ok (.getfield 7, 3) := by decide +kernel
theorem dX6_ofPerson_4 : decode cX6_ofPerson 4 = .ok (.iconst 5, 1) := by decide +kernel
theorem dX6_ofPerson_5 : decode cX6_ofPerson 5 = .ok (.iconst 3, 1) := by decide +kernel
theorem dX6_ofPerson_6 : decode cX6_ofPerson 6 = .ok (.iload_n 1, 1) := by decide +kernel
theorem dX6_ofPerson_7 : decode cX6_ofPerson 7 = .ok (.imul, 1) := by decide +kernel
theorem dX6_ofPerson_8 : decode cX6_ofPerson 8 = .ok (.iadd, 1) := by decide +kernel
theorem dX6_ofPerson_9 : decode cX6_ofPerson 9 = .ok (.iload_n 2, 1) := by decide +kernel
theorem dX6_ofPerson_10 : decode cX6_ofPerson 10 = .ok (.iadd, 1) := by decide +kernel
theorem dX6_ofPerson_11 : decode cX6_ofPerson 11 = .ok (.iaload, 1) := by decide +kernel
theorem dX6_ofPerson_12 : decode cX6_ofPerson 12 = .ok (.ireturn, 1) := by decide +kernel
theorem dX6_manyOf_0 : decode cX6_manyOf 0 = .ok (.aload_n 0, 1) := by decide +kernel
theorem dX6_manyOf_1 : decode cX6_manyOf 1 = .ok (.getfield 7, 3) := by decide +kernel
theorem dX6_manyOf_4 : decode cX6_manyOf 4 = .ok (.bipush 23, 2) := by decide +kernel
theorem dX6_manyOf_6 : decode cX6_manyOf 6 = .ok (.bipush 12, 2) := by decide +kernel
theorem dX6_manyOf_8 : decode cX6_manyOf 8 = .ok (.iload_n 1, 1) := by decide +kernel
theorem dX6_manyOf_9 : decode cX6_manyOf 9 = .ok (.imul, 1) := by decide +kernel
theorem dX6_manyOf_10 : decode cX6_manyOf 10 = .ok (.iadd, 1) := by decide +kernel
theorem dX6_manyOf_11 : decode cX6_manyOf 11 = .ok (.iload_n 2, 1) := by decide +kernel
theorem dX6_manyOf_12 : decode cX6_manyOf 12 = .ok (.iadd, 1) := by decide +kernel
theorem dX6_manyOf_13 : decode cX6_manyOf 13 = .ok (.iaload, 1) := by decide +kernel
theorem dX6_manyOf_14 : decode cX6_manyOf 14 = .ok (.ireturn, 1) := by decide +kernel
theorem dX6_hasOne_0 : decode cX6_hasOne 0 = .ok (.aload_n 0, 1) := by decide +kernel
theorem dX6_hasOne_1 : decode cX6_hasOne 1 = .ok (.iload_n 1, 1) := by decide +kernel
theorem dX6_hasOne_2 : decode cX6_hasOne 2 = .ok (.iload_n 2, 1) := by decide +kernel
theorem dX6_hasOne_3 : decode cX6_hasOne 3 = .ok (.invokevirtual 47, 3) := by decide +kernel
theorem dX6_hasOne_6 : decode cX6_hasOne 6 = .ok (.ifCond .le 7, 3) := by decide +kernel
theorem dX6_hasOne_9 : decode cX6_hasOne 9 = .ok (.iconst 1, 1) := by decide +kernel
theorem dX6_hasOne_10 : decode cX6_hasOne 10 = .ok (.goto 4, 3) := by decide +kernel
theorem dX6_hasOne_13 : decode cX6_hasOne 13 = .ok (.iconst 0, 1) := by decide +kernel
theorem dX6_hasOne_14 : decode cX6_hasOne 14 = .ok (.ireturn, 1) := by decide +kernel
theorem dX6_gets_0 : decode cX6_gets 0 = .ok (.aload_n 0, 1) := by decide +kernel
theorem dX6_gets_1 : decode cX6_gets 1 = .ok (.getfield 7, 3) := by decide +kernel
theorem dX6_gets_4 : decode cX6_gets 4 = .ok (.bipush 23, 2) := by decide +kernel
theorem dX6_gets_6 : decode cX6_gets 6 = .ok (.bipush 12, 2) := by decide +kernel
theorem dX6_gets_8 : decode cX6_gets 8 = .ok (.iload_n 1, 1) := by decide +kernel
theorem dX6_gets_9 : decode cX6_gets 9 = .ok (.imul, 1) := by decide +kernel
theorem dX6_gets_10 : decode cX6_gets 10 = .ok (.iadd, 1) := by decide +kernel
theorem dX6_gets_11 : decode cX6_gets 11 = .ok (.iload_n 2, 1) := by decide +kernel
theorem dX6_gets_12 : decode cX6_gets 12 = .ok (.iadd, 1) := by decide +kernel
theorem dX6_gets_13 : decode cX6_gets 13 = .ok (.dup2, 1) := by decide +kernel
theorem dX6_gets_14 : decode cX6_gets 14 = .ok (.iaload, 1) := by decide +kernel
theorem dX6_gets_15 : decode cX6_gets 15 = .ok (.iload_n 3, 1) := by decide +kernel
theorem dX6_gets_16 : decode cX6_gets 16 = .ok (.iadd, 1) := by decide +kernel
theorem dX6_gets_17 : decode cX6_gets 17 = .ok (.iastore, 1) := by decide +kernel
theorem dX6_gets_18 : decode cX6_gets 18 = .ok (.return_, 1) := by decide +kernel
theorem dX6_pays_0 : decode cX6_pays 0 = .ok (.aload_n 0, 1) := by decide +kernel
theorem dX6_pays_1 : decode cX6_pays 1 = .ok (.getfield 7, 3) := by decide +kernel
theorem dX6_pays_4 : decode cX6_pays 4 = .ok (.iconst 5, 1) := by decide +kernel
theorem dX6_pays_5 : decode cX6_pays 5 = .ok (.iconst 3, 1) := by decide +kernel
theorem dX6_pays_6 : decode cX6_pays 6 = .ok (.iload_n 1, 1) := by decide +kernel
theorem dX6_pays_7 : decode cX6_pays 7 = .ok (.imul, 1) := by decide +kernel
theorem dX6_pays_8 : decode cX6_pays 8 = .ok (.iadd, 1) := by decide +kernel
theorem dX6_pays_9 : decode cX6_pays 9 = .ok (.iconst 2, 1) := by decide +kernel
theorem dX6_pays_10 : decode cX6_pays 10 = .ok (.iadd, 1) := by decide +kernel
theorem dX6_pays_11 : decode cX6_pays 11 = .ok (.dup2, 1) := by decide +kernel
theorem dX6_pays_12 : decode cX6_pays 12 = .ok (.iaload, 1) := by decide +kernel
theorem dX6_pays_13 : decode cX6_pays 13 = .ok (.iload_n 2, 1) := by decide +kernel
theorem dX6_pays_14 : decode cX6_pays 14 = .ok (.isub, 1) := by decide +kernel
theorem dX6_pays_15 : decode cX6_pays 15 = .ok (.iastore, 1) := by decide +kernel
theorem dX6_pays_16 : decode cX6_pays 16 = .ok (.return_, 1) := by decide +kernel
theorem dX6_worthIf_0 : decode cX6_worthIf 0 = .ok (.iload_n 2, 1) := by decide +kernel
theorem dX6_worthIf_1 : decode cX6_worthIf 1 = .ok (.iconst 2, 1) := by decide +kernel
theorem dX6_worthIf_2 : decode cX6_worthIf 2 = .ok (.idiv, 1) := by decide +kernel
theorem dX6_worthIf_3 : decode cX6_worthIf 3 = .ok (.istore_n 3, 1) := by decide +kernel
theorem dX6_worthIf_4 : decode cX6_worthIf 4 = .ok (.aload_n 0, 1) := by decide +kernel
theorem dX6_worthIf_5 : decode cX6_worthIf 5 = .ok (.getfield 7, 3) := by decide +kernel
theorem dX6_worthIf_8 : decode cX6_worthIf 8 = .ok (.iconst 2, 1) := by decide +kernel
theorem dX6_worthIf_9 : decode cX6_worthIf 9 = .ok (.iaload, 1) := by decide +kernel
theorem dX6_worthIf_10 : decode cX6_worthIf 10 = .ok (.iload_n 3, 1) := by decide +kernel
theorem dX6_worthIf_11 : decode cX6_worthIf 11 = .ok (.ishr, 1) := by decide +kernel
theorem dX6_worthIf_12 : decode cX6_worthIf 12 = .ok (.iconst 1, 1) := by decide +kernel
theorem dX6_worthIf_13 : decode cX6_worthIf 13 = .ok (.iand, 1) := by decide +kernel
theorem dX6_worthIf_14 : decode cX6_worthIf 14 = .ok (.iconst 1, 1) := by decide +kernel
theorem dX6_worthIf_15 : decode cX6_worthIf 15 = .ok (.if_icmp .ne 7, 3) := by decide +kernel
theorem dX6_worthIf_18 : decode cX6_worthIf 18 = .ok (.iconst 3, 1) := by decide +kernel
theorem dX6_worthIf_19 : decode cX6_worthIf 19 = .ok (.goto 5, 3) := by decide +kernel
theorem dX6_worthIf_22 : decode cX6_worthIf 22 = .ok (.bipush 6, 2) := by decide +kernel
theorem dX6_worthIf_24 : decode cX6_worthIf 24 = .ok (.istore 4, 2) := by decide +kernel
theorem dX6_worthIf_26 : decode cX6_worthIf 26 = .ok (.iload 4, 2) := by decide +kernel
theorem dX6_worthIf_28 : decode cX6_worthIf 28 = .ok (.aload_n 0, 1) := by decide +kernel
theorem dX6_worthIf_29 : decode cX6_worthIf 29 = .ok (.getfield 7, 3) := by decide +kernel
theorem dX6_worthIf_32 : decode cX6_worthIf 32 = .ok (.iconst 3, 1) := by decide +kernel
theorem dX6_worthIf_33 : decode cX6_worthIf 33 = .ok (.iaload, 1) := by decide +kernel
theorem dX6_worthIf_34 : decode cX6_worthIf 34 = .ok (.iload_n 3, 1) := by decide +kernel
theorem dX6_worthIf_35 : decode cX6_worthIf 35 = .ok (.ishr, 1) := by decide +kernel
theorem dX6_worthIf_36 : decode cX6_worthIf 36 = .ok (.iconst 1, 1) := by decide +kernel
theorem dX6_worthIf_37 : decode cX6_worthIf 37 = .ok (.iand, 1) := by decide +kernel
theorem dX6_worthIf_38 : decode cX6_worthIf 38 = .ok (.iconst 1, 1) := by decide +kernel
theorem dX6_worthIf_39 : decode cX6_worthIf 39 = .ok (.if_icmp .ne 8, 3) := by decide +kernel
theorem dX6_worthIf_42 : decode cX6_worthIf 42 = .ok (.bipush 9, 2) := by decide +kernel
theorem dX6_worthIf_44 : decode cX6_worthIf 44 = .ok (.goto 4, 3) := by decide +kernel
theorem dX6_worthIf_47 : decode cX6_worthIf 47 = .ok (.iconst 0, 1) := by decide +kernel
theorem dX6_worthIf_48 : decode cX6_worthIf 48 = .ok (.iadd, 1) := by decide +kernel
theorem dX6_worthIf_49 : decode cX6_worthIf 49 = .ok (.istore 5, 2) := by decide +kernel
theorem dX6_worthIf_51 : decode cX6_worthIf 51 = .ok (.iload 4, 2) := by decide +kernel
theorem dX6_worthIf_53 : decode cX6_worthIf 53 = .ok (.aload_n 0, 1) := by decide +kernel
theorem dX6_worthIf_54 : decode cX6_worthIf 54 = .ok (.iload_n 1, 1) := by decide +kernel
theorem dX6_worthIf_55 : decode cX6_worthIf 55 = .ok (.iload_n 2, 1) := by decide +kernel
theorem dX6_worthIf_56 : decode cX6_worthIf 56 = .ok (.iconst 1, 1) := by decide +kernel
theorem dX6_worthIf_57 : decode cX6_worthIf 57 = .ok (.ixor, 1) := by decide +kernel
theorem dX6_worthIf_58 : decode cX6_worthIf 58 = .ok (.invokevirtual 51, 3) := by decide +kernel
theorem dX6_worthIf_61 : decode cX6_worthIf 61 = .ok (.ifCond .eq 7, 3) := by decide +kernel
theorem dX6_worthIf_64 : decode cX6_worthIf 64 = .ok (.iconst 4, 1) := by decide +kernel
theorem dX6_worthIf_65 : decode cX6_worthIf 65 = .ok (.goto 4, 3) := by decide +kernel
theorem dX6_worthIf_68 : decode cX6_worthIf 68 = .ok (.iconst 0, 1) := by decide +kernel
theorem dX6_worthIf_69 : decode cX6_worthIf 69 = .ok (.iadd, 1) := by decide +kernel
theorem dX6_worthIf_70 : decode cX6_worthIf 70 = .ok (.istore 6, 2) := by decide +kernel
theorem dX6_worthIf_72 : decode cX6_worthIf 72 = .ok (.aload_n 0, 1) := by decide +kernel
theorem dX6_worthIf_73 : decode cX6_worthIf 73 = .ok (.iload_n 1, 1) := by decide +kernel
theorem dX6_worthIf_74 : decode cX6_worthIf 74 = .ok (.iconst 1, 1) := by decide +kernel
theorem dX6_worthIf_75 : decode cX6_worthIf 75 = .ok (.invokevirtual 55, 3) := by decide +kernel
theorem dX6_worthIf_78 : decode cX6_worthIf 78 = .ok (.istore 7, 2) := by decide +kernel
theorem dX6_worthIf_80 : decode cX6_worthIf 80 = .ok (.aload_n 0, 1) := by decide +kernel
theorem dX6_worthIf_81 : decode cX6_worthIf 81 = .ok (.iload_n 1, 1) := by decide +kernel
theorem dX6_worthIf_82 : decode cX6_worthIf 82 = .ok (.iconst 0, 1) := by decide +kernel
theorem dX6_worthIf_83 : decode cX6_worthIf 83 = .ok (.invokevirtual 55, 3) := by decide +kernel
theorem dX6_worthIf_86 : decode cX6_worthIf 86 = .ok (.tableswitch 64 0 3 #[30, 33, 36, 39], 30) := by decide +kernel
theorem dX6_worthIf_116 : decode cX6_worthIf 116 = .ok (.iload 4, 2) := by decide +kernel
theorem dX6_worthIf_118 : decode cX6_worthIf 118 = .ok (.ireturn, 1) := by decide +kernel
theorem dX6_worthIf_119 : decode cX6_worthIf 119 = .ok (.iload 5, 2) := by decide +kernel
theorem dX6_worthIf_121 : decode cX6_worthIf 121 = .ok (.ireturn, 1) := by decide +kernel
theorem dX6_worthIf_122 : decode cX6_worthIf 122 = .ok (.iload 6, 2) := by decide +kernel
theorem dX6_worthIf_124 : decode cX6_worthIf 124 = .ok (.ireturn, 1) := by decide +kernel
theorem dX6_worthIf_125 : decode cX6_worthIf 125 = .ok (.iload 5, 2) := by decide +kernel
theorem dX6_worthIf_127 : decode cX6_worthIf 127 = .ok (.iload 7, 2) := by decide +kernel
theorem dX6_worthIf_129 : decode cX6_worthIf 129 = .ok (.iload_n 1, 1) := by decide +kernel
theorem dX6_worthIf_130 : decode cX6_worthIf 130 = .ok (.if_icmp .eq 17, 3) := by decide +kernel
theorem dX6_worthIf_133 : decode cX6_worthIf 133 = .ok (.aload_n 0, 1) := by decide +kernel
theorem dX6_worthIf_134 : decode cX6_worthIf 134 = .ok (.iload 7, 2) := by decide +kernel
theorem dX6_worthIf_136 : decode cX6_worthIf 136 = .ok (.iload_n 2, 1) := by decide +kernel
theorem dX6_worthIf_137 : decode cX6_worthIf 137 = .ok (.invokevirtual 51, 3) := by decide +kernel
theorem dX6_worthIf_140 : decode cX6_worthIf 140 = .ok (.ifCond .eq 7, 3) := by decide +kernel
theorem dX6_worthIf_143 : decode cX6_worthIf 143 = .ok (.iconst 5, 1) := by decide +kernel
theorem dX6_worthIf_144 : decode cX6_worthIf 144 = .ok (.goto 4, 3) := by decide +kernel
theorem dX6_worthIf_147 : decode cX6_worthIf 147 = .ok (.iconst 0, 1) := by decide +kernel
theorem dX6_worthIf_148 : decode cX6_worthIf 148 = .ok (.iadd, 1) := by decide +kernel
theorem dX6_worthIf_149 : decode cX6_worthIf 149 = .ok (.ireturn, 1) := by decide +kernel
theorem dX6_worthIf_150 : decode cX6_worthIf 150 = .ok (.iload_n 2, 1) := by decide +kernel
theorem dX6_worthIf_151 : decode cX6_worthIf 151 = .ok (.iconst 2, 1) := by decide +kernel
theorem dX6_worthIf_152 : decode cX6_worthIf 152 = .ok (.irem, 1) := by decide +kernel
theorem dX6_worthIf_153 : decode cX6_worthIf 153 = .ok (.ifCond .ne 7, 3) := by decide +kernel
theorem dX6_worthIf_156 : decode cX6_worthIf 156 = .ok (.iconst 0, 1) := by decide +kernel
theorem dX6_worthIf_157 : decode cX6_worthIf 157 = .ok (.goto 5, 3) := by decide +kernel
theorem dX6_worthIf_160 : decode cX6_worthIf 160 = .ok (.iload 6, 2) := by decide +kernel
theorem dX6_worthIf_162 : decode cX6_worthIf 162 = .ok (.ireturn, 1) := by decide +kernel
theorem dX6_worthOf_0 : decode cX6_worthOf 0 = .ok (.aload_n 0, 1) := by decide +kernel
theorem dX6_worthOf_1 : decode cX6_worthOf 1 = .ok (.iload_n 1, 1) := by decide +kernel
theorem dX6_worthOf_2 : decode cX6_worthOf 2 = .ok (.iload_n 2, 1) := by decide +kernel
theorem dX6_worthOf_3 : decode cX6_worthOf 3 = .ok (.invokevirtual 51, 3) := by decide +kernel
theorem dX6_worthOf_6 : decode cX6_worthOf 6 = .ok (.ifCond .eq 12, 3) := by decide +kernel
theorem dX6_worthOf_9 : decode cX6_worthOf 9 = .ok (.aload_n 0, 1) := by decide +kernel
theorem dX6_worthOf_10 : decode cX6_worthOf 10 = .ok (.iload_n 1, 1) := by decide +kernel
theorem dX6_worthOf_11 : decode cX6_worthOf 11 = .ok (.iload_n 2, 1) := by decide +kernel
theorem dX6_worthOf_12 : decode cX6_worthOf 12 = .ok (.invokevirtual 58, 3) := by decide +kernel
theorem dX6_worthOf_15 : decode cX6_worthOf 15 = .ok (.goto 4, 3) := by decide +kernel
theorem dX6_worthOf_18 : decode cX6_worthOf 18 = .ok (.iconst 0, 1) := by decide +kernel
theorem dX6_worthOf_19 : decode cX6_worthOf 19 = .ok (.ireturn, 1) := by decide +kernel
theorem dX6_worth_0 : decode cX6_worth 0 = .ok (.iconst 0, 1) := by decide +kernel
theorem dX6_worth_1 : decode cX6_worth 1 = .ok (.istore_n 2, 1) := by decide +kernel
theorem dX6_worth_2 : decode cX6_worth 2 = .ok (.iconst 0, 1) := by decide +kernel
theorem dX6_worth_3 : decode cX6_worth 3 = .ok (.istore_n 3, 1) := by decide +kernel
theorem dX6_worth_4 : decode cX6_worth 4 = .ok (.iload_n 3, 1) := by decide +kernel
theorem dX6_worth_5 : decode cX6_worth 5 = .ok (.bipush 12, 2) := by decide +kernel
theorem dX6_worth_7 : decode cX6_worth 7 = .ok (.if_icmp .ge 18, 3) := by decide +kernel
theorem dX6_worth_10 : decode cX6_worth 10 = .ok (.iload_n 2, 1) := by decide +kernel
theorem dX6_worth_11 : decode cX6_worth 11 = .ok (.aload_n 0, 1) := by decide +kernel
theorem dX6_worth_12 : decode cX6_worth 12 = .ok (.iload_n 1, 1) := by decide +kernel
theorem dX6_worth_13 : decode cX6_worth 13 = .ok (.iload_n 3, 1) := by decide +kernel
theorem dX6_worth_14 : decode cX6_worth 14 = .ok (.invokevirtual 61, 3) := by decide +kernel
theorem dX6_worth_17 : decode cX6_worth 17 = .ok (.iadd, 1) := by decide +kernel
theorem dX6_worth_18 : decode cX6_worth 18 = .ok (.istore_n 2, 1) := by decide +kernel
theorem dX6_worth_19 : decode cX6_worth 19 = .ok (.iinc 3 1, 3) := by decide +kernel
theorem dX6_worth_22 : decode cX6_worth 22 = .ok (.goto (-18), 3) := by decide +kernel
theorem dX6_worth_25 : decode cX6_worth 25 = .ok (.iload_n 2, 1) := by decide +kernel
theorem dX6_worth_26 : decode cX6_worth 26 = .ok (.ireturn, 1) := by decide +kernel
theorem dX6_worthAll_0 : decode cX6_worthAll 0 = .ok (.iconst 0, 1) := by decide +kernel
theorem dX6_worthAll_1 : decode cX6_worthAll 1 = .ok (.istore_n 1, 1) := by decide +kernel
theorem dX6_worthAll_2 : decode cX6_worthAll 2 = .ok (.iconst 0, 1) := by decide +kernel
theorem dX6_worthAll_3 : decode cX6_worthAll 3 = .ok (.istore_n 2, 1) := by decide +kernel
theorem dX6_worthAll_4 : decode cX6_worthAll 4 = .ok (.iload_n 2, 1) := by decide +kernel
theorem dX6_worthAll_5 : decode cX6_worthAll 5 = .ok (.aload_n 0, 1) := by decide +kernel
theorem dX6_worthAll_6 : decode cX6_worthAll 6 = .ok (.getfield 7, 3) := by decide +kernel
theorem dX6_worthAll_9 : decode cX6_worthAll 9 = .ok (.iconst 0, 1) := by decide +kernel
theorem dX6_worthAll_10 : decode cX6_worthAll 10 = .ok (.iaload, 1) := by decide +kernel
theorem dX6_worthAll_11 : decode cX6_worthAll 11 = .ok (.if_icmp .ge 17, 3) := by decide +kernel
theorem dX6_worthAll_14 : decode cX6_worthAll 14 = .ok (.iload_n 1, 1) := by decide +kernel
theorem dX6_worthAll_15 : decode cX6_worthAll 15 = .ok (.aload_n 0, 1) := by decide +kernel
theorem dX6_worthAll_16 : decode cX6_worthAll 16 = .ok (.iload_n 2, 1) := by decide +kernel
theorem dX6_worthAll_17 : decode cX6_worthAll 17 = .ok (.invokevirtual 64, 3) := by decide +kernel
theorem dX6_worthAll_20 : decode cX6_worthAll 20 = .ok (.iadd, 1) := by decide +kernel
theorem dX6_worthAll_21 : decode cX6_worthAll 21 = .ok (.istore_n 1, 1) := by decide +kernel
theorem dX6_worthAll_22 : decode cX6_worthAll 22 = .ok (.iinc 2 1, 3) := by decide +kernel
theorem dX6_worthAll_25 : decode cX6_worthAll 25 = .ok (.goto (-21), 3) := by decide +kernel
theorem dX6_worthAll_28 : decode cX6_worthAll 28 = .ok (.iload_n 1, 1) := by decide +kernel
theorem dX6_worthAll_29 : decode cX6_worthAll 29 = .ok (.ireturn, 1) := by decide +kernel
theorem dX6_halves_0 : decode cX6_halves 0 = .ok (.iconst 0, 1) := by decide +kernel
theorem dX6_halves_1 : decode cX6_halves 1 = .ok (.istore_n 2, 1) := by decide +kernel
theorem dX6_halves_2 : decode cX6_halves 2 = .ok (.iconst 0, 1) := by decide +kernel
theorem dX6_halves_3 : decode cX6_halves 3 = .ok (.istore_n 3, 1) := by decide +kernel
theorem dX6_halves_4 : decode cX6_halves 4 = .ok (.iload_n 3, 1) := by decide +kernel
theorem dX6_halves_5 : decode cX6_halves 5 = .ok (.bipush 12, 2) := by decide +kernel
theorem dX6_halves_7 : decode cX6_halves 7 = .ok (.if_icmp .ge 28, 3) := by decide +kernel
theorem dX6_halves_10 : decode cX6_halves 10 = .ok (.iload_n 2, 1) := by decide +kernel
theorem dX6_halves_11 : decode cX6_halves 11 = .ok (.aload_n 0, 1) := by decide +kernel
theorem dX6_halves_12 : decode cX6_halves 12 = .ok (.iload_n 1, 1) := by decide +kernel
theorem dX6_halves_13 : decode cX6_halves 13 = .ok (.iload_n 3, 1) := by decide +kernel
theorem dX6_halves_14 : decode cX6_halves 14 = .ok (.invokevirtual 51, 3) := by decide +kernel
theorem dX6_halves_17 : decode cX6_halves 17 = .ok (.ifCond .eq 9, 3) := by decide +kernel
theorem dX6_halves_20 : decode cX6_halves 20 = .ok (.iconst 1, 1) := by decide +kernel
theorem dX6_halves_21 : decode cX6_halves 21 = .ok (.iload_n 3, 1) := by decide +kernel
theorem dX6_halves_22 : decode cX6_halves 22 = .ok (.ishl, 1) := by decide +kernel
theorem dX6_halves_23 : decode cX6_halves 23 = .ok (.goto 4, 3) := by decide +kernel
theorem dX6_halves_26 : decode cX6_halves 26 = .ok (.iconst 0, 1) := by decide +kernel
theorem dX6_halves_27 : decode cX6_halves 27 = .ok (.ior, 1) := by decide +kernel
theorem dX6_halves_28 : decode cX6_halves 28 = .ok (.istore_n 2, 1) := by decide +kernel
theorem dX6_halves_29 : decode cX6_halves 29 = .ok (.iinc 3 1, 3) := by decide +kernel
theorem dX6_halves_32 : decode cX6_halves 32 = .ok (.goto (-28), 3) := by decide +kernel
theorem dX6_halves_35 : decode cX6_halves 35 = .ok (.iload_n 2, 1) := by decide +kernel
theorem dX6_halves_36 : decode cX6_halves 36 = .ok (.ireturn, 1) := by decide +kernel
theorem dX6_manyAll_0 : decode cX6_manyAll 0 = .ok (.iconst 0, 1) := by decide +kernel
theorem dX6_manyAll_1 : decode cX6_manyAll 1 = .ok (.istore_n 2, 1) := by decide +kernel
theorem dX6_manyAll_2 : decode cX6_manyAll 2 = .ok (.iconst 0, 1) := by decide +kernel
theorem dX6_manyAll_3 : decode cX6_manyAll 3 = .ok (.istore_n 3, 1) := by decide +kernel
theorem dX6_manyAll_4 : decode cX6_manyAll 4 = .ok (.iload_n 3, 1) := by decide +kernel
theorem dX6_manyAll_5 : decode cX6_manyAll 5 = .ok (.bipush 12, 2) := by decide +kernel
theorem dX6_manyAll_7 : decode cX6_manyAll 7 = .ok (.if_icmp .ge 18, 3) := by decide +kernel
theorem dX6_manyAll_10 : decode cX6_manyAll 10 = .ok (.iload_n 2, 1) := by decide +kernel
theorem dX6_manyAll_11 : decode cX6_manyAll 11 = .ok (.aload_n 0, 1) := by decide +kernel
theorem dX6_manyAll_12 : decode cX6_manyAll 12 = .ok (.iload_n 1, 1) := by decide +kernel
theorem dX6_manyAll_13 : decode cX6_manyAll 13 = .ok (.iload_n 3, 1) := by decide +kernel
theorem dX6_manyAll_14 : decode cX6_manyAll 14 = .ok (.invokevirtual 47, 3) := by decide +kernel
theorem dX6_manyAll_17 : decode cX6_manyAll 17 = .ok (.iadd, 1) := by decide +kernel
theorem dX6_manyAll_18 : decode cX6_manyAll 18 = .ok (.istore_n 2, 1) := by decide +kernel
theorem dX6_manyAll_19 : decode cX6_manyAll 19 = .ok (.iinc 3 1, 3) := by decide +kernel
theorem dX6_manyAll_22 : decode cX6_manyAll 22 = .ok (.goto (-18), 3) := by decide +kernel
theorem dX6_manyAll_25 : decode cX6_manyAll 25 = .ok (.iload_n 2, 1) := by decide +kernel
theorem dX6_manyAll_26 : decode cX6_manyAll 26 = .ok (.ireturn, 1) := by decide +kernel
theorem dX6_many_0 : decode cX6_many 0 = .ok (.iconst 0, 1) := by decide +kernel
theorem dX6_many_1 : decode cX6_many 1 = .ok (.istore_n 1, 1) := by decide +kernel
theorem dX6_many_2 : decode cX6_many 2 = .ok (.iload_n 0, 1) := by decide +kernel
theorem dX6_many_3 : decode cX6_many 3 = .ok (.istore_n 2, 1) := by decide +kernel
theorem dX6_many_4 : decode cX6_many 4 = .ok (.iload_n 2, 1) := by decide +kernel
theorem dX6_many_5 : decode cX6_many 5 = .ok (.ifCond .eq 15, 3) := by decide +kernel
theorem dX6_many_8 : decode cX6_many 8 = .ok (.iinc 1 1, 3) := by decide +kernel
theorem dX6_many_11 : decode cX6_many 11 = .ok (.iload_n 2, 1) := by decide +kernel
theorem dX6_many_12 : decode cX6_many 12 = .ok (.iload_n 2, 1) := by decide +kernel
theorem dX6_many_13 : decode cX6_many 13 = .ok (.iconst 1, 1) := by decide +kernel
theorem dX6_many_14 : decode cX6_many 14 = .ok (.isub, 1) := by decide +kernel
theorem dX6_many_15 : decode cX6_many 15 = .ok (.iand, 1) := by decide +kernel
theorem dX6_many_16 : decode cX6_many 16 = .ok (.istore_n 2, 1) := by decide +kernel
theorem dX6_many_17 : decode cX6_many 17 = .ok (.goto (-13), 3) := by decide +kernel
theorem dX6_many_20 : decode cX6_many 20 = .ok (.iload_n 1, 1) := by decide +kernel
theorem dX6_many_21 : decode cX6_many 21 = .ok (.ireturn, 1) := by decide +kernel
theorem dX6_personComes_0 : decode cX6_personComes 0 = .ok (.iconst 5, 1) := by decide +kernel
theorem dX6_personComes_1 : decode cX6_personComes 1 = .ok (.iconst 3, 1) := by decide +kernel
theorem dX6_personComes_2 : decode cX6_personComes 2 = .ok (.aload_n 0, 1) := by decide +kernel
theorem dX6_personComes_3 : decode cX6_personComes 3 = .ok (.getfield 7, 3) := by decide +kernel
theorem dX6_personComes_6 : decode cX6_personComes 6 = .ok (.iconst 0, 1) := by decide +kernel
theorem dX6_personComes_7 : decode cX6_personComes 7 = .ok (.iaload, 1) := by decide +kernel
theorem dX6_personComes_8 : decode cX6_personComes 8 = .ok (.imul, 1) := by decide +kernel
theorem dX6_personComes_9 : decode cX6_personComes 9 = .ok (.iadd, 1) := by decide +kernel
theorem dX6_personComes_10 : decode cX6_personComes 10 = .ok (.istore 4, 2) := by decide +kernel
theorem dX6_personComes_12 : decode cX6_personComes 12 = .ok (.aload_n 0, 1) := by decide +kernel
theorem dX6_personComes_13 : decode cX6_personComes 13 = .ok (.getfield 7, 3) := by decide +kernel
theorem dX6_personComes_16 : decode cX6_personComes 16 = .ok (.iload 4, 2) := by decide +kernel
theorem dX6_personComes_18 : decode cX6_personComes 18 = .ok (.iload_n 1, 1) := by decide +kernel
theorem dX6_personComes_19 : decode cX6_personComes 19 = .ok (.iastore, 1) := by decide +kernel
theorem dX6_personComes_20 : decode cX6_personComes 20 = .ok (.aload_n 0, 1) := by decide +kernel
theorem dX6_personComes_21 : decode cX6_personComes 21 = .ok (.getfield 7, 3) := by decide +kernel
theorem dX6_personComes_24 : decode cX6_personComes 24 = .ok (.iload 4, 2) := by decide +kernel
theorem dX6_personComes_26 : decode cX6_personComes 26 = .ok (.iconst 1, 1) := by decide +kernel
theorem dX6_personComes_27 : decode cX6_personComes 27 = .ok (.iadd, 1) := by decide +kernel
theorem dX6_personComes_28 : decode cX6_personComes 28 = .ok (.iload_n 2, 1) := by decide +kernel
theorem dX6_personComes_29 : decode cX6_personComes 29 = .ok (.iastore, 1) := by decide +kernel
theorem dX6_personComes_30 : decode cX6_personComes 30 = .ok (.aload_n 0, 1) := by decide +kernel
theorem dX6_personComes_31 : decode cX6_personComes 31 = .ok (.getfield 7, 3) := by decide +kernel
theorem dX6_personComes_34 : decode cX6_personComes 34 = .ok (.iload 4, 2) := by decide +kernel
theorem dX6_personComes_36 : decode cX6_personComes 36 = .ok (.iconst 2, 1) := by decide +kernel
theorem dX6_personComes_37 : decode cX6_personComes 37 = .ok (.iadd, 1) := by decide +kernel
theorem dX6_personComes_38 : decode cX6_personComes 38 = .ok (.iload_n 3, 1) := by decide +kernel
theorem dX6_personComes_39 : decode cX6_personComes 39 = .ok (.iastore, 1) := by decide +kernel
theorem dX6_personComes_40 : decode cX6_personComes 40 = .ok (.iconst 0, 1) := by decide +kernel
theorem dX6_personComes_41 : decode cX6_personComes 41 = .ok (.istore 5, 2) := by decide +kernel
theorem dX6_personComes_43 : decode cX6_personComes 43 = .ok (.iload 5, 2) := by decide +kernel
theorem dX6_personComes_45 : decode cX6_personComes 45 = .ok (.bipush 12, 2) := by decide +kernel
theorem dX6_personComes_47 : decode cX6_personComes 47 = .ok (.if_icmp .ge 30, 3) := by decide +kernel
theorem dX6_personComes_50 : decode cX6_personComes 50 = .ok (.aload_n 0, 1) := by decide +kernel
theorem dX6_personComes_51 : decode cX6_personComes 51 = .ok (.getfield 7, 3) := by decide +kernel
theorem dX6_personComes_54 : decode cX6_personComes 54 = .ok (.bipush 23, 2) := by decide +kernel
theorem dX6_personComes_56 : decode cX6_personComes 56 = .ok (.bipush 12, 2) := by decide +kernel
theorem dX6_personComes_58 : decode cX6_personComes 58 = .ok (.aload_n 0, 1) := by decide +kernel
theorem dX6_personComes_59 : decode cX6_personComes 59 = .ok (.getfield 7, 3) := by decide +kernel
theorem dX6_personComes_62 : decode cX6_personComes 62 = .ok (.iconst 0, 1) := by decide +kernel
theorem dX6_personComes_63 : decode cX6_personComes 63 = .ok (.iaload, 1) := by decide +kernel
theorem dX6_personComes_64 : decode cX6_personComes 64 = .ok (.imul, 1) := by decide +kernel
theorem dX6_personComes_65 : decode cX6_personComes 65 = .ok (.iadd, 1) := by decide +kernel
theorem dX6_personComes_66 : decode cX6_personComes 66 = .ok (.iload 5, 2) := by decide +kernel
theorem dX6_personComes_68 : decode cX6_personComes 68 = .ok (.iadd, 1) := by decide +kernel
theorem dX6_personComes_69 : decode cX6_personComes 69 = .ok (.iconst 1, 1) := by decide +kernel
theorem dX6_personComes_70 : decode cX6_personComes 70 = .ok (.iastore, 1) := by decide +kernel
theorem dX6_personComes_71 : decode cX6_personComes 71 = .ok (.iinc 5 1, 3) := by decide +kernel
theorem dX6_personComes_74 : decode cX6_personComes 74 = .ok (.goto (-31), 3) := by decide +kernel
theorem dX6_personComes_77 : decode cX6_personComes 77 = .ok (.aload_n 0, 1) := by decide +kernel
theorem dX6_personComes_78 : decode cX6_personComes 78 = .ok (.getfield 7, 3) := by decide +kernel
theorem dX6_personComes_81 : decode cX6_personComes 81 = .ok (.iconst 0, 1) := by decide +kernel
theorem dX6_personComes_82 : decode cX6_personComes 82 = .ok (.dup2, 1) := by decide +kernel
theorem dX6_personComes_83 : decode cX6_personComes 83 = .ok (.iaload, 1) := by decide +kernel
theorem dX6_personComes_84 : decode cX6_personComes 84 = .ok (.iconst 1, 1) := by decide +kernel
theorem dX6_personComes_85 : decode cX6_personComes 85 = .ok (.iadd, 1) := by decide +kernel
theorem dX6_personComes_86 : decode cX6_personComes 86 = .ok (.iastore, 1) := by decide +kernel
theorem dX6_personComes_87 : decode cX6_personComes 87 = .ok (.aload_n 0, 1) := by decide +kernel
theorem dX6_personComes_88 : decode cX6_personComes 88 = .ok (.iconst 0, 1) := by decide +kernel
theorem dX6_personComes_89 : decode cX6_personComes 89 = .ok (.putfield 68, 3) := by decide +kernel
theorem dX6_personComes_92 : decode cX6_personComes 92 = .ok (.return_, 1) := by decide +kernel
theorem dX6_person_0 : decode cX6_person 0 = .ok (.iload_n 1, 1) := by decide +kernel
theorem dX6_person_1 : decode cX6_person 1 = .ok (.i2l, 1) := by decide +kernel
theorem dX6_person_2 : decode cX6_person 2 = .ok (.lconst 0, 1) := by decide +kernel
theorem dX6_person_3 : decode cX6_person 3 = .ok (.ldc2_w 72, 3) := by decide +kernel
theorem dX6_person_6 : decode cX6_person 6 = .ok (.invokestatic 41, 3) := by decide +kernel
theorem dX6_person_9 : decode cX6_person 9 = .ok (.ifCond .ne 5, 3) := by decide +kernel
theorem dX6_person_12 : decode cX6_person 12 = .ok (.iconst (-1), 1) := by decide +kernel
theorem dX6_person_13 : decode cX6_person 13 = .ok (.ireturn, 1) := by decide +kernel
theorem dX6_person_14 : decode cX6_person 14 = .ok (.aload_n 0, 1) := by decide +kernel
theorem dX6_person_15 : decode cX6_person 15 = .ok (.getfield 7, 3) := by decide +kernel
theorem dX6_person_18 : decode cX6_person 18 = .ok (.iconst 0, 1) := by decide +kernel
theorem dX6_person_19 : decode cX6_person 19 = .ok (.iaload, 1) := by decide +kernel
theorem dX6_person_20 : decode cX6_person 20 = .ok (.bipush 6, 2) := by decide +kernel
theorem dX6_person_22 : decode cX6_person 22 = .ok (.if_icmp .ne 6, 3) := by decide +kernel
theorem dX6_person_25 : decode cX6_person 25 = .ok (.bipush (-3), 2) := by decide +kernel
theorem dX6_person_27 : decode cX6_person 27 = .ok (.ireturn, 1) := by decide +kernel
theorem dX6_person_28 : decode cX6_person 28 = .ok (.aload_n 0, 1) := by decide +kernel
theorem dX6_person_29 : decode cX6_person 29 = .ok (.iload_n 1, 1) := by decide +kernel
theorem dX6_person_30 : decode cX6_person 30 = .ok (.aload_n 0, 1) := by decide +kernel
theorem dX6_person_31 : decode cX6_person 31 = .ok (.getfield 7, 3) := by decide +kernel
theorem dX6_person_34 : decode cX6_person 34 = .ok (.iconst 0, 1) := by decide +kernel
theorem dX6_person_35 : decode cX6_person 35 = .ok (.iaload, 1) := by decide +kernel
theorem dX6_person_36 : decode cX6_person 36 = .ok (.bipush 50, 2) := by decide +kernel
theorem dX6_person_38 : decode cX6_person 38 = .ok (.invokevirtual 74, 3) := by decide +kernel
theorem dX6_person_41 : decode cX6_person 41 = .ok (.aload_n 0, 1) := by decide +kernel
theorem dX6_person_42 : decode cX6_person 42 = .ok (.getfield 7, 3) := by decide +kernel
theorem dX6_person_45 : decode cX6_person 45 = .ok (.iconst 0, 1) := by decide +kernel
theorem dX6_person_46 : decode cX6_person 46 = .ok (.iaload, 1) := by decide +kernel
theorem dX6_person_47 : decode cX6_person 47 = .ok (.iconst 1, 1) := by decide +kernel
theorem dX6_person_48 : decode cX6_person 48 = .ok (.isub, 1) := by decide +kernel
theorem dX6_person_49 : decode cX6_person 49 = .ok (.ireturn, 1) := by decide +kernel
theorem dX6_love_0 : decode cX6_love 0 = .ok (.aload_n 0, 1) := by decide +kernel
theorem dX6_love_1 : decode cX6_love 1 = .ok (.iload_n 1, 1) := by decide +kernel
theorem dX6_love_2 : decode cX6_love 2 = .ok (.invokevirtual 78, 3) := by decide +kernel
theorem dX6_love_5 : decode cX6_love 5 = .ok (.ifCond .eq 11, 3) := by decide +kernel
theorem dX6_love_8 : decode cX6_love 8 = .ok (.aload_n 0, 1) := by decide +kernel
theorem dX6_love_9 : decode cX6_love 9 = .ok (.iload_n 2, 1) := by decide +kernel
theorem dX6_love_10 : decode cX6_love 10 = .ok (.invokevirtual 78, 3) := by decide +kernel
theorem dX6_love_13 : decode cX6_love 13 = .ok (.ifCond .ne 5, 3) := by decide +kernel
theorem dX6_love_16 : decode cX6_love 16 = .ok (.iconst (-1), 1) := by decide +kernel
theorem dX6_love_17 : decode cX6_love 17 = .ok (.ireturn, 1) := by decide +kernel
theorem dX6_love_18 : decode cX6_love 18 = .ok (.aload_n 0, 1) := by decide +kernel
theorem dX6_love_19 : decode cX6_love 19 = .ok (.iload_n 1, 1) := by decide +kernel
theorem dX6_love_20 : decode cX6_love 20 = .ok (.iconst 1, 1) := by decide +kernel
theorem dX6_love_21 : decode cX6_love 21 = .ok (.invokevirtual 55, 3) := by decide +kernel
theorem dX6_love_24 : decode cX6_love 24 = .ok (.istore_n 3, 1) := by decide +kernel
theorem dX6_love_25 : decode cX6_love 25 = .ok (.aload_n 0, 1) := by decide +kernel
theorem dX6_love_26 : decode cX6_love 26 = .ok (.getfield 7, 3) := by decide +kernel
theorem dX6_love_29 : decode cX6_love 29 = .ok (.iconst 5, 1) := by decide +kernel
theorem dX6_love_30 : decode cX6_love 30 = .ok (.iconst 3, 1) := by decide +kernel
theorem dX6_love_31 : decode cX6_love 31 = .ok (.iload_n 1, 1) := by decide +kernel
theorem dX6_love_32 : decode cX6_love 32 = .ok (.imul, 1) := by decide +kernel
theorem dX6_love_33 : decode cX6_love 33 = .ok (.iadd, 1) := by decide +kernel
theorem dX6_love_34 : decode cX6_love 34 = .ok (.iconst 1, 1) := by decide +kernel
theorem dX6_love_35 : decode cX6_love 35 = .ok (.iadd, 1) := by decide +kernel
theorem dX6_love_36 : decode cX6_love 36 = .ok (.iload_n 2, 1) := by decide +kernel
theorem dX6_love_37 : decode cX6_love 37 = .ok (.iastore, 1) := by decide +kernel
theorem dX6_love_38 : decode cX6_love 38 = .ok (.iload_n 3, 1) := by decide +kernel
theorem dX6_love_39 : decode cX6_love 39 = .ok (.ireturn, 1) := by decide +kernel
theorem dX6_least_0 : decode cX6_least 0 = .ok (.iload_n 1, 1) := by decide +kernel
theorem dX6_least_1 : decode cX6_least 1 = .ok (.i2l, 1) := by decide +kernel
theorem dX6_least_2 : decode cX6_least 2 = .ok (.lconst 0, 1) := by decide +kernel
theorem dX6_least_3 : decode cX6_least 3 = .ok (.ldc2_w 82, 3) := by decide +kernel
theorem dX6_least_6 : decode cX6_least 6 = .ok (.invokestatic 41, 3) := by decide +kernel
theorem dX6_least_9 : decode cX6_least 9 = .ok (.ifCond .ne 5, 3) := by decide +kernel
theorem dX6_least_12 : decode cX6_least 12 = .ok (.iconst (-1), 1) := by decide +kernel
theorem dX6_least_13 : decode cX6_least 13 = .ok (.ireturn, 1) := by decide +kernel
theorem dX6_least_14 : decode cX6_least 14 = .ok (.aload_n 0, 1) := by decide +kernel
theorem dX6_least_15 : decode cX6_least 15 = .ok (.getfield 7, 3) := by decide +kernel
theorem dX6_least_18 : decode cX6_least 18 = .ok (.iconst 1, 1) := by decide +kernel
theorem dX6_least_19 : decode cX6_least 19 = .ok (.iaload, 1) := by decide +kernel
theorem dX6_least_20 : decode cX6_least 20 = .ok (.istore_n 2, 1) := by decide +kernel
theorem dX6_least_21 : decode cX6_least 21 = .ok (.aload_n 0, 1) := by decide +kernel
theorem dX6_least_22 : decode cX6_least 22 = .ok (.getfield 7, 3) := by decide +kernel
theorem dX6_least_25 : decode cX6_least 25 = .ok (.iconst 1, 1) := by decide +kernel
theorem dX6_least_26 : decode cX6_least 26 = .ok (.iload_n 1, 1) := by decide +kernel
theorem dX6_least_27 : decode cX6_least 27 = .ok (.iastore, 1) := by decide +kernel
theorem dX6_least_28 : decode cX6_least 28 = .ok (.iload_n 2, 1) := by decide +kernel
theorem dX6_least_29 : decode cX6_least 29 = .ok (.ireturn, 1) := by decide +kernel
theorem dX6_of_0 : decode cX6_of 0 = .ok (.aload_n 0, 1) := by decide +kernel
theorem dX6_of_1 : decode cX6_of 1 = .ok (.iload_n 1, 1) := by decide +kernel
theorem dX6_of_2 : decode cX6_of 2 = .ok (.invokevirtual 78, 3) := by decide +kernel
theorem dX6_of_5 : decode cX6_of 5 = .ok (.ifCond .eq 15, 3) := by decide +kernel
theorem dX6_of_8 : decode cX6_of 8 = .ok (.iload_n 2, 1) := by decide +kernel
theorem dX6_of_9 : decode cX6_of 9 = .ok (.i2l, 1) := by decide +kernel
theorem dX6_of_10 : decode cX6_of 10 = .ok (.lconst 0, 1) := by decide +kernel
theorem dX6_of_11 : decode cX6_of 11 = .ok (.ldc2_w 84, 3) := by decide +kernel
theorem dX6_of_14 : decode cX6_of 14 = .ok (.invokestatic 41, 3) := by decide +kernel
theorem dX6_of_17 : decode cX6_of 17 = .ok (.ifCond .ne 5, 3) := by decide +kernel
theorem dX6_of_20 : decode cX6_of 20 = .ok (.iconst (-1), 1) := by decide +kernel
theorem dX6_of_21 : decode cX6_of 21 = .ok (.ireturn, 1) := by decide +kernel
theorem dX6_of_22 : decode cX6_of 22 = .ok (.iload_n 2, 1) := by decide +kernel
theorem dX6_of_23 : decode cX6_of 23 = .ok (.iconst 3, 1) := by decide +kernel
theorem dX6_of_24 : decode cX6_of 24 = .ok (.if_icmp .ge 12, 3) := by decide +kernel
theorem dX6_of_27 : decode cX6_of 27 = .ok (.aload_n 0, 1) := by decide +kernel
theorem dX6_of_28 : decode cX6_of 28 = .ok (.iload_n 1, 1) := by decide +kernel
theorem dX6_of_29 : decode cX6_of 29 = .ok (.iload_n 2, 1) := by decide +kernel
theorem dX6_of_30 : decode cX6_of 30 = .ok (.invokevirtual 55, 3) := by decide +kernel
theorem dX6_of_33 : decode cX6_of 33 = .ok (.goto 34, 3) := by decide +kernel
theorem dX6_of_36 : decode cX6_of 36 = .ok (.iload_n 2, 1) := by decide +kernel
theorem dX6_of_37 : decode cX6_of 37 = .ok (.iconst 3, 1) := by decide +kernel
theorem dX6_of_38 : decode cX6_of 38 = .ok (.if_icmp .ne 11, 3) := by decide +kernel
theorem dX6_of_41 : decode cX6_of 41 = .ok (.aload_n 0, 1) := by decide +kernel
theorem dX6_of_42 : decode cX6_of 42 = .ok (.iload_n 1, 1) := by decide +kernel
theorem dX6_of_43 : decode cX6_of 43 = .ok (.invokevirtual 86, 3) := by decide +kernel
theorem dX6_of_46 : decode cX6_of 46 = .ok (.goto 21, 3) := by decide +kernel
theorem dX6_of_49 : decode cX6_of 49 = .ok (.iload_n 2, 1) := by decide +kernel
theorem dX6_of_50 : decode cX6_of 50 = .ok (.iconst 4, 1) := by decide +kernel
theorem dX6_of_51 : decode cX6_of 51 = .ok (.if_icmp .ne 11, 3) := by decide +kernel
theorem dX6_of_54 : decode cX6_of 54 = .ok (.aload_n 0, 1) := by decide +kernel
theorem dX6_of_55 : decode cX6_of 55 = .ok (.iload_n 1, 1) := by decide +kernel
theorem dX6_of_56 : decode cX6_of 56 = .ok (.invokevirtual 89, 3) := by decide +kernel
theorem dX6_of_59 : decode cX6_of 59 = .ok (.goto 8, 3) := by decide +kernel
theorem dX6_of_62 : decode cX6_of 62 = .ok (.aload_n 0, 1) := by decide +kernel
theorem dX6_of_63 : decode cX6_of 63 = .ok (.iload_n 1, 1) := by decide +kernel
theorem dX6_of_64 : decode cX6_of 64 = .ok (.invokevirtual 64, 3) := by decide +kernel
theorem dX6_of_67 : decode cX6_of 67 = .ok (.ireturn, 1) := by decide +kernel
theorem dX6_has_0 : decode cX6_has 0 = .ok (.aload_n 0, 1) := by decide +kernel
theorem dX6_has_1 : decode cX6_has 1 = .ok (.iload_n 1, 1) := by decide +kernel
theorem dX6_has_2 : decode cX6_has 2 = .ok (.invokevirtual 78, 3) := by decide +kernel
theorem dX6_has_5 : decode cX6_has 5 = .ok (.ifCond .eq 20, 3) := by decide +kernel
theorem dX6_has_8 : decode cX6_has 8 = .ok (.iload_n 2, 1) := by decide +kernel
theorem dX6_has_9 : decode cX6_has 9 = .ok (.invokestatic 92, 3) := by decide +kernel
theorem dX6_has_12 : decode cX6_has 12 = .ok (.ifCond .eq 13, 3) := by decide +kernel
theorem dX6_has_15 : decode cX6_has 15 = .ok (.iload_n 3, 1) := by decide +kernel
theorem dX6_has_16 : decode cX6_has 16 = .ok (.i2l, 1) := by decide +kernel
theorem dX6_has_17 : decode cX6_has 17 = .ok (.lconst 0, 1) := by decide +kernel
theorem dX6_has_18 : decode cX6_has 18 = .ok (.lconst 1, 1) := by decide +kernel
theorem dX6_has_19 : decode cX6_has 19 = .ok (.invokestatic 41, 3) := by decide +kernel
theorem dX6_has_22 : decode cX6_has 22 = .ok (.ifCond .ne 5, 3) := by decide +kernel
theorem dX6_has_25 : decode cX6_has 25 = .ok (.iconst (-1), 1) := by decide +kernel
theorem dX6_has_26 : decode cX6_has 26 = .ok (.ireturn, 1) := by decide +kernel
theorem dX6_has_27 : decode cX6_has 27 = .ok (.iload_n 3, 1) := by decide +kernel
theorem dX6_has_28 : decode cX6_has 28 = .ok (.ifCond .ne 12, 3) := by decide +kernel
theorem dX6_has_31 : decode cX6_has 31 = .ok (.aload_n 0, 1) := by decide +kernel
theorem dX6_has_32 : decode cX6_has 32 = .ok (.iload_n 1, 1) := by decide +kernel
theorem dX6_has_33 : decode cX6_has 33 = .ok (.iload_n 2, 1) := by decide +kernel
theorem dX6_has_34 : decode cX6_has 34 = .ok (.invokevirtual 47, 3) := by decide +kernel
theorem dX6_has_37 : decode cX6_has 37 = .ok (.goto 9, 3) := by decide +kernel
theorem dX6_has_40 : decode cX6_has 40 = .ok (.aload_n 0, 1) := by decide +kernel
theorem dX6_has_41 : decode cX6_has 41 = .ok (.iload_n 1, 1) := by decide +kernel
theorem dX6_has_42 : decode cX6_has 42 = .ok (.iload_n 2, 1) := by decide +kernel
theorem dX6_has_43 : decode cX6_has 43 = .ok (.invokevirtual 61, 3) := by decide +kernel
theorem dX6_has_46 : decode cX6_has 46 = .ok (.ireturn, 1) := by decide +kernel
theorem dX6_at_0 : decode cX6_at 0 = .ok (.iload_n 1, 1) := by decide +kernel
theorem dX6_at_1 : decode cX6_at 1 = .ok (.i2l, 1) := by decide +kernel
theorem dX6_at_2 : decode cX6_at 2 = .ok (.lconst 0, 1) := by decide +kernel
theorem dX6_at_3 : decode cX6_at 3 = .ok (.ldc2_w 84, 3) := by decide +kernel
theorem dX6_at_6 : decode cX6_at 6 = .ok (.invokestatic 41, 3) := by decide +kernel
theorem dX6_at_9 : decode cX6_at 9 = .ok (.ifCond .eq 28, 3) := by decide +kernel
theorem dX6_at_12 : decode cX6_at 12 = .ok (.iload_n 2, 1) := by decide +kernel
theorem dX6_at_13 : decode cX6_at 13 = .ok (.i2l, 1) := by decide +kernel
theorem dX6_at_14 : decode cX6_at 14 = .ok (.lconst 0, 1) := by decide +kernel
theorem dX6_at_15 : decode cX6_at 15 = .ok (.lconst 1, 1) := by decide +kernel
theorem dX6_at_16 : decode cX6_at 16 = .ok (.invokestatic 41, 3) := by decide +kernel
theorem dX6_at_19 : decode cX6_at 19 = .ok (.ifCond .eq 18, 3) := by decide +kernel
theorem dX6_at_22 : decode cX6_at 22 = .ok (.aload_n 0, 1) := by decide +kernel
theorem dX6_at_23 : decode cX6_at 23 = .ok (.getfield 7, 3) := by decide +kernel
theorem dX6_at_26 : decode cX6_at 26 = .ok (.iconst 2, 1) := by decide +kernel
theorem dX6_at_27 : decode cX6_at 27 = .ok (.iload_n 2, 1) := by decide +kernel
theorem dX6_at_28 : decode cX6_at 28 = .ok (.iadd, 1) := by decide +kernel
theorem dX6_at_29 : decode cX6_at 29 = .ok (.iaload, 1) := by decide +kernel
theorem dX6_at_30 : decode cX6_at 30 = .ok (.iload_n 1, 1) := by decide +kernel
theorem dX6_at_31 : decode cX6_at 31 = .ok (.ishr, 1) := by decide +kernel
theorem dX6_at_32 : decode cX6_at 32 = .ok (.iconst 1, 1) := by decide +kernel
theorem dX6_at_33 : decode cX6_at 33 = .ok (.iand, 1) := by decide +kernel
theorem dX6_at_34 : decode cX6_at 34 = .ok (.goto 4, 3) := by decide +kernel
theorem dX6_at_37 : decode cX6_at 37 = .ok (.iconst (-1), 1) := by decide +kernel
theorem dX6_at_38 : decode cX6_at 38 = .ok (.ireturn, 1) := by decide +kernel
theorem dX6_chalkAll_0 : decode cX6_chalkAll 0 = .ok (.iconst 0, 1) := by decide +kernel
theorem dX6_chalkAll_1 : decode cX6_chalkAll 1 = .ok (.istore_n 1, 1) := by decide +kernel
theorem dX6_chalkAll_2 : decode cX6_chalkAll 2 = .ok (.iconst 0, 1) := by decide +kernel
theorem dX6_chalkAll_3 : decode cX6_chalkAll 3 = .ok (.istore_n 2, 1) := by decide +kernel
theorem dX6_chalkAll_4 : decode cX6_chalkAll 4 = .ok (.iload_n 2, 1) := by decide +kernel
theorem dX6_chalkAll_5 : decode cX6_chalkAll 5 = .ok (.aload_n 0, 1) := by decide +kernel
theorem dX6_chalkAll_6 : decode cX6_chalkAll 6 = .ok (.getfield 7, 3) := by decide +kernel
theorem dX6_chalkAll_9 : decode cX6_chalkAll 9 = .ok (.iconst 0, 1) := by decide +kernel
theorem dX6_chalkAll_10 : decode cX6_chalkAll 10 = .ok (.iaload, 1) := by decide +kernel
theorem dX6_chalkAll_11 : decode cX6_chalkAll 11 = .ok (.if_icmp .ge 18, 3) := by decide +kernel
theorem dX6_chalkAll_14 : decode cX6_chalkAll 14 = .ok (.iload_n 1, 1) := by decide +kernel
theorem dX6_chalkAll_15 : decode cX6_chalkAll 15 = .ok (.aload_n 0, 1) := by decide +kernel
theorem dX6_chalkAll_16 : decode cX6_chalkAll 16 = .ok (.iload_n 2, 1) := by decide +kernel
theorem dX6_chalkAll_17 : decode cX6_chalkAll 17 = .ok (.iconst 2, 1) := by decide +kernel
theorem dX6_chalkAll_18 : decode cX6_chalkAll 18 = .ok (.invokevirtual 55, 3) := by decide +kernel
theorem dX6_chalkAll_21 : decode cX6_chalkAll 21 = .ok (.iadd, 1) := by decide +kernel
theorem dX6_chalkAll_22 : decode cX6_chalkAll 22 = .ok (.istore_n 1, 1) := by decide +kernel
theorem dX6_chalkAll_23 : decode cX6_chalkAll 23 = .ok (.iinc 2 1, 3) := by decide +kernel
theorem dX6_chalkAll_26 : decode cX6_chalkAll 26 = .ok (.goto (-22), 3) := by decide +kernel
theorem dX6_chalkAll_29 : decode cX6_chalkAll 29 = .ok (.iload_n 1, 1) := by decide +kernel
theorem dX6_chalkAll_30 : decode cX6_chalkAll 30 = .ok (.ireturn, 1) := by decide +kernel
theorem dX6_count_0 : decode cX6_count 0 = .ok (.iload_n 1, 1) := by decide +kernel
theorem dX6_count_1 : decode cX6_count 1 = .ok (.tableswitch 65 0 6 #[43, 43, 43, 43, 50, 55, 60], 43) := by decide +kernel
theorem dX6_count_44 : decode cX6_count 44 = .ok (.aload_n 0, 1) := by decide +kernel
theorem dX6_count_45 : decode cX6_count 45 = .ok (.getfield 7, 3) := by decide +kernel
theorem dX6_count_48 : decode cX6_count 48 = .ok (.iload_n 1, 1) := by decide +kernel
theorem dX6_count_49 : decode cX6_count 49 = .ok (.iaload, 1) := by decide +kernel
theorem dX6_count_50 : decode cX6_count 50 = .ok (.ireturn, 1) := by decide +kernel
theorem dX6_count_51 : decode cX6_count 51 = .ok (.aload_n 0, 1) := by decide +kernel
theorem dX6_count_52 : decode cX6_count 52 = .ok (.invokevirtual 95, 3) := by decide +kernel
theorem dX6_count_55 : decode cX6_count 55 = .ok (.ireturn, 1) := by decide +kernel
theorem dX6_count_56 : decode cX6_count 56 = .ok (.aload_n 0, 1) := by decide +kernel
theorem dX6_count_57 : decode cX6_count 57 = .ok (.invokevirtual 99, 3) := by decide +kernel
theorem dX6_count_60 : decode cX6_count 60 = .ok (.ireturn, 1) := by decide +kernel
theorem dX6_count_61 : decode cX6_count 61 = .ok (.aload_n 0, 1) := by decide +kernel
theorem dX6_count_62 : decode cX6_count 62 = .ok (.getfield 68, 3) := by decide +kernel
theorem dX6_count_65 : decode cX6_count 65 = .ok (.ireturn, 1) := by decide +kernel
theorem dX6_count_66 : decode cX6_count 66 = .ok (.iconst (-1), 1) := by decide +kernel
theorem dX6_count_67 : decode cX6_count 67 = .ok (.ireturn, 1) := by decide +kernel
theorem dX6_type_0 : decode cX6_type 0 = .ok (.iload_n 1, 1) := by decide +kernel
theorem dX6_type_1 : decode cX6_type 1 = .ok (.i2l, 1) := by decide +kernel
theorem dX6_type_2 : decode cX6_type 2 = .ok (.ldc2_w 102, 3) := by decide +kernel
theorem dX6_type_5 : decode cX6_type 5 = .ok (.ldc2_w 104, 3) := by decide +kernel
theorem dX6_type_8 : decode cX6_type 8 = .ok (.invokestatic 41, 3) := by decide +kernel
theorem dX6_type_11 : decode cX6_type 11 = .ok (.ifCond .ne 5, 3) := by decide +kernel
theorem dX6_type_14 : decode cX6_type 14 = .ok (.iconst (-1), 1) := by decide +kernel
theorem dX6_type_15 : decode cX6_type 15 = .ok (.ireturn, 1) := by decide +kernel
theorem dX6_type_16 : decode cX6_type 16 = .ok (.aload_n 0, 1) := by decide +kernel
theorem dX6_type_17 : decode cX6_type 17 = .ok (.getfield 106, 3) := by decide +kernel
theorem dX6_type_20 : decode cX6_type 20 = .ok (.bipush 100, 2) := by decide +kernel
theorem dX6_type_22 : decode cX6_type 22 = .ok (.if_icmp .ne 6, 3) := by decide +kernel
theorem dX6_type_25 : decode cX6_type 25 = .ok (.bipush (-3), 2) := by decide +kernel
theorem dX6_type_27 : decode cX6_type 27 = .ok (.ireturn, 1) := by decide +kernel
theorem dX6_type_28 : decode cX6_type 28 = .ok (.aload_n 0, 1) := by decide +kernel
theorem dX6_type_29 : decode cX6_type 29 = .ok (.getfield 13, 3) := by decide +kernel
theorem dX6_type_32 : decode cX6_type 32 = .ok (.aload_n 0, 1) := by decide +kernel
theorem dX6_type_33 : decode cX6_type 33 = .ok (.getfield 106, 3) := by decide +kernel
theorem dX6_type_36 : decode cX6_type 36 = .ok (.iload_n 1, 1) := by decide +kernel
theorem dX6_type_37 : decode cX6_type 37 = .ok (.iastore, 1) := by decide +kernel
theorem dX6_type_38 : decode cX6_type 38 = .ok (.aload_n 0, 1) := by decide +kernel
theorem dX6_type_39 : decode cX6_type 39 = .ok (.dup, 1) := by decide +kernel
theorem dX6_type_40 : decode cX6_type 40 = .ok (.getfield 106, 3) := by decide +kernel
theorem dX6_type_43 : decode cX6_type 43 = .ok (.iconst 1, 1) := by decide +kernel
theorem dX6_type_44 : decode cX6_type 44 = .ok (.iadd, 1) := by decide +kernel
theorem dX6_type_45 : decode cX6_type 45 = .ok (.putfield 106, 3) := by decide +kernel
theorem dX6_type_48 : decode cX6_type 48 = .ok (.aload_n 0, 1) := by decide +kernel
theorem dX6_type_49 : decode cX6_type 49 = .ok (.getfield 106, 3) := by decide +kernel
theorem dX6_type_52 : decode cX6_type 52 = .ok (.ireturn, 1) := by decide +kernel
theorem dX6_here_0 : decode cX6_here 0 = .ok (.aload_n 0, 1) := by decide +kernel
theorem dX6_here_1 : decode cX6_here 1 = .ok (.getfield 109, 3) := by decide +kernel
theorem dX6_here_4 : decode cX6_here 4 = .ok (.aload_n 0, 1) := by decide +kernel
theorem dX6_here_5 : decode cX6_here 5 = .ok (.getfield 106, 3) := by decide +kernel
theorem dX6_here_8 : decode cX6_here 8 = .ok (.if_icmp .ge 30, 3) := by decide +kernel
theorem dX6_here_11 : decode cX6_here 11 = .ok (.aload_n 0, 1) := by decide +kernel
theorem dX6_here_12 : decode cX6_here 12 = .ok (.getfield 13, 3) := by decide +kernel
theorem dX6_here_15 : decode cX6_here 15 = .ok (.aload_n 0, 1) := by decide +kernel
theorem dX6_here_16 : decode cX6_here 16 = .ok (.getfield 109, 3) := by decide +kernel
theorem dX6_here_19 : decode cX6_here 19 = .ok (.iaload, 1) := by decide +kernel
theorem dX6_here_20 : decode cX6_here 20 = .ok (.bipush 32, 2) := by decide +kernel
theorem dX6_here_22 : decode cX6_here 22 = .ok (.if_icmp .ne 16, 3) := by decide +kernel
theorem dX6_here_25 : decode cX6_here 25 = .ok (.aload_n 0, 1) := by decide +kernel
theorem dX6_here_26 : decode cX6_here 26 = .ok (.dup, 1) := by decide +kernel
theorem dX6_here_27 : decode cX6_here 27 = .ok (.getfield 109, 3) := by decide +kernel
theorem dX6_here_30 : decode cX6_here 30 = .ok (.iconst 1, 1) := by decide +kernel
theorem dX6_here_31 : decode cX6_here 31 = .ok (.iadd, 1) := by decide +kernel
theorem dX6_here_32 : decode cX6_here 32 = .ok (.putfield 109, 3) := by decide +kernel
theorem dX6_here_35 : decode cX6_here 35 = .ok (.goto (-35), 3) := by decide +kernel
theorem dX6_here_38 : decode cX6_here 38 = .ok (.aload_n 0, 1) := by decide +kernel
theorem dX6_here_39 : decode cX6_here 39 = .ok (.getfield 109, 3) := by decide +kernel
theorem dX6_here_42 : decode cX6_here 42 = .ok (.aload_n 0, 1) := by decide +kernel
theorem dX6_here_43 : decode cX6_here 43 = .ok (.getfield 106, 3) := by decide +kernel
theorem dX6_here_46 : decode cX6_here 46 = .ok (.if_icmp .ge 15, 3) := by decide +kernel
theorem dX6_here_49 : decode cX6_here 49 = .ok (.aload_n 0, 1) := by decide +kernel
theorem dX6_here_50 : decode cX6_here 50 = .ok (.getfield 13, 3) := by decide +kernel
theorem dX6_here_53 : decode cX6_here 53 = .ok (.aload_n 0, 1) := by decide +kernel
theorem dX6_here_54 : decode cX6_here 54 = .ok (.getfield 109, 3) := by decide +kernel
theorem dX6_here_57 : decode cX6_here 57 = .ok (.iaload, 1) := by decide +kernel
theorem dX6_here_58 : decode cX6_here 58 = .ok (.goto 4, 3) := by decide +kernel
theorem dX6_here_61 : decode cX6_here 61 = .ok (.iconst 0, 1) := by decide +kernel
theorem dX6_here_62 : decode cX6_here 62 = .ok (.ireturn, 1) := by decide +kernel
theorem dX6_must_0 : decode cX6_must 0 = .ok (.aload_n 0, 1) := by decide +kernel
theorem dX6_must_1 : decode cX6_must 1 = .ok (.aload_n 0, 1) := by decide +kernel
theorem dX6_must_2 : decode cX6_must 2 = .ok (.getfield 112, 3) := by decide +kernel
theorem dX6_must_5 : decode cX6_must 5 = .ok (.ifCond .ne 7, 3) := by decide +kernel
theorem dX6_must_8 : decode cX6_must 8 = .ok (.iload_n 1, 1) := by decide +kernel
theorem dX6_must_9 : decode cX6_must 9 = .ok (.ifCond .ne 7, 3) := by decide +kernel
theorem dX6_must_12 : decode cX6_must 12 = .ok (.iconst 1, 1) := by decide +kernel
theorem dX6_must_13 : decode cX6_must 13 = .ok (.goto 4, 3) := by decide +kernel
theorem dX6_must_16 : decode cX6_must 16 = .ok (.iconst 0, 1) := by decide +kernel
theorem dX6_must_17 : decode cX6_must 17 = .ok (.putfield 112, 3) := by decide +kernel
theorem dX6_must_20 : decode cX6_must 20 = .ok (.aload_n 0, 1) := by decide +kernel
theorem dX6_must_21 : decode cX6_must 21 = .ok (.dup, 1) := by decide +kernel
theorem dX6_must_22 : decode cX6_must 22 = .ok (.getfield 109, 3) := by decide +kernel
theorem dX6_must_25 : decode cX6_must 25 = .ok (.aload_n 0, 1) := by decide +kernel
theorem dX6_must_26 : decode cX6_must 26 = .ok (.getfield 112, 3) := by decide +kernel
theorem dX6_must_29 : decode cX6_must 29 = .ok (.ifCond .eq 7, 3) := by decide +kernel
theorem dX6_must_32 : decode cX6_must 32 = .ok (.iconst 0, 1) := by decide +kernel
theorem dX6_must_33 : decode cX6_must 33 = .ok (.goto 4, 3) := by decide +kernel
theorem dX6_must_36 : decode cX6_must 36 = .ok (.iconst 1, 1) := by decide +kernel
theorem dX6_must_37 : decode cX6_must 37 = .ok (.iadd, 1) := by decide +kernel
theorem dX6_must_38 : decode cX6_must 38 = .ok (.putfield 109, 3) := by decide +kernel
theorem dX6_must_41 : decode cX6_must 41 = .ok (.return_, 1) := by decide +kernel
theorem dX6_number_0 : decode cX6_number 0 = .ok (.aload_n 0, 1) := by decide +kernel
theorem dX6_number_1 : decode cX6_number 1 = .ok (.getfield 112, 3) := by decide +kernel
theorem dX6_number_4 : decode cX6_number 4 = .ok (.ifCond .eq 7, 3) := by decide +kernel
theorem dX6_number_7 : decode cX6_number 7 = .ok (.iconst 0, 1) := by decide +kernel
theorem dX6_number_8 : decode cX6_number 8 = .ok (.goto 7, 3) := by decide +kernel
theorem dX6_number_11 : decode cX6_number 11 = .ok (.aload_n 0, 1) := by decide +kernel
theorem dX6_number_12 : decode cX6_number 12 = .ok (.invokevirtual 116, 3) := by decide +kernel
theorem dX6_number_15 : decode cX6_number 15 = .ok (.istore_n 1, 1) := by decide +kernel
theorem dX6_number_16 : decode cX6_number 16 = .ok (.aload_n 0, 1) := by decide +kernel
theorem dX6_number_17 : decode cX6_number 17 = .ok (.getfield 109, 3) := by decide +kernel
theorem dX6_number_20 : decode cX6_number 20 = .ok (.istore_n 2, 1) := by decide +kernel
theorem dX6_number_21 : decode cX6_number 21 = .ok (.iconst 0, 1) := by decide +kernel
theorem dX6_number_22 : decode cX6_number 22 = .ok (.istore_n 3, 1) := by decide +kernel
theorem dX6_number_23 : decode cX6_number 23 = .ok (.aload_n 0, 1) := by decide +kernel
theorem dX6_number_24 : decode cX6_number 24 = .ok (.aload_n 0, 1) := by decide +kernel
theorem dX6_number_25 : decode cX6_number 25 = .ok (.getfield 112, 3) := by decide +kernel
theorem dX6_number_28 : decode cX6_number 28 = .ok (.ifCond .ne 17, 3) := by decide +kernel
theorem dX6_number_31 : decode cX6_number 31 = .ok (.iload_n 1, 1) := by decide +kernel
theorem dX6_number_32 : decode cX6_number 32 = .ok (.i2l, 1) := by decide +kernel
theorem dX6_number_33 : decode cX6_number 33 = .ok (.ldc2_w 119, 3) := by decide +kernel
theorem dX6_number_36 : decode cX6_number 36 = .ok (.ldc2_w 121, 3) := by decide +kernel
theorem dX6_number_39 : decode cX6_number 39 = .ok (.invokestatic 41, 3) := by decide +kernel
theorem dX6_number_42 : decode cX6_number 42 = .ok (.ifCond .ne 7, 3) := by decide +kernel
theorem dX6_number_45 : decode cX6_number 45 = .ok (.iconst 1, 1) := by decide +kernel
theorem dX6_number_46 : decode cX6_number 46 = .ok (.goto 4, 3) := by decide +kernel
theorem dX6_number_49 : decode cX6_number 49 = .ok (.iconst 0, 1) := by decide +kernel
theorem dX6_number_50 : decode cX6_number 50 = .ok (.putfield 112, 3) := by decide +kernel
theorem dX6_number_53 : decode cX6_number 53 = .ok (.aload_n 0, 1) := by decide +kernel
theorem dX6_number_54 : decode cX6_number 54 = .ok (.getfield 112, 3) := by decide +kernel
theorem dX6_number_57 : decode cX6_number 57 = .ok (.ifCond .ne 77, 3) := by decide +kernel
theorem dX6_number_60 : decode cX6_number 60 = .ok (.aload_n 0, 1) := by decide +kernel
theorem dX6_number_61 : decode cX6_number 61 = .ok (.getfield 109, 3) := by decide +kernel
theorem dX6_number_64 : decode cX6_number 64 = .ok (.aload_n 0, 1) := by decide +kernel
theorem dX6_number_65 : decode cX6_number 65 = .ok (.getfield 106, 3) := by decide +kernel
theorem dX6_number_68 : decode cX6_number 68 = .ok (.if_icmp .ge 66, 3) := by decide +kernel
theorem dX6_number_71 : decode cX6_number 71 = .ok (.aload_n 0, 1) := by decide +kernel
theorem dX6_number_72 : decode cX6_number 72 = .ok (.getfield 109, 3) := by decide +kernel
theorem dX6_number_75 : decode cX6_number 75 = .ok (.iload_n 2, 1) := by decide +kernel
theorem dX6_number_76 : decode cX6_number 76 = .ok (.isub, 1) := by decide +kernel
theorem dX6_number_77 : decode cX6_number 77 = .ok (.iconst 2, 1) := by decide +kernel
theorem dX6_number_78 : decode cX6_number 78 = .ok (.if_icmp .ge 56, 3) := by decide +kernel
theorem dX6_number_81 : decode cX6_number 81 = .ok (.aload_n 0, 1) := by decide +kernel
theorem dX6_number_82 : decode cX6_number 82 = .ok (.getfield 13, 3) := by decide +kernel
theorem dX6_number_85 : decode cX6_number 85 = .ok (.aload_n 0, 1) := by decide +kernel
theorem dX6_number_86 : decode cX6_number 86 = .ok (.getfield 109, 3) := by decide +kernel
theorem dX6_number_89 : decode cX6_number 89 = .ok (.iaload, 1) := by decide +kernel
theorem dX6_number_90 : decode cX6_number 90 = .ok (.i2l, 1) := by decide +kernel
theorem dX6_number_91 : decode cX6_number 91 = .ok (.ldc2_w 119, 3) := by decide +kernel
theorem dX6_number_94 : decode cX6_number 94 = .ok (.ldc2_w 121, 3) := by decide +kernel
theorem dX6_number_97 : decode cX6_number 97 = .ok (.invokestatic 41, 3) := by decide +kernel
theorem dX6_number_100 : decode cX6_number 100 = .ok (.ifCond .eq 34, 3) := by decide +kernel
theorem dX6_number_103 : decode cX6_number 103 = .ok (.bipush 10, 2) := by decide +kernel
theorem dX6_number_105 : decode cX6_number 105 = .ok (.iload_n 3, 1) := by decide +kernel
theorem dX6_number_106 : decode cX6_number 106 = .ok (.imul, 1) := by decide +kernel
theorem dX6_number_107 : decode cX6_number 107 = .ok (.aload_n 0, 1) := by decide +kernel
theorem dX6_number_108 : decode cX6_number 108 = .ok (.getfield 13, 3) := by decide +kernel
theorem dX6_number_111 : decode cX6_number 111 = .ok (.aload_n 0, 1) := by decide +kernel
theorem dX6_number_112 : decode cX6_number 112 = .ok (.getfield 109, 3) := by decide +kernel
theorem dX6_number_115 : decode cX6_number 115 = .ok (.iaload, 1) := by decide +kernel
theorem dX6_number_116 : decode cX6_number 116 = .ok (.iadd, 1) := by decide +kernel
theorem dX6_number_117 : decode cX6_number 117 = .ok (.bipush 48, 2) := by decide +kernel
theorem dX6_number_119 : decode cX6_number 119 = .ok (.isub, 1) := by decide +kernel
theorem dX6_number_120 : decode cX6_number 120 = .ok (.istore_n 3, 1) := by decide +kernel
theorem dX6_number_121 : decode cX6_number 121 = .ok (.aload_n 0, 1) := by decide +kernel
theorem dX6_number_122 : decode cX6_number 122 = .ok (.dup, 1) := by decide +kernel
theorem dX6_number_123 : decode cX6_number 123 = .ok (.getfield 109, 3) := by decide +kernel
theorem dX6_number_126 : decode cX6_number 126 = .ok (.iconst 1, 1) := by decide +kernel
theorem dX6_number_127 : decode cX6_number 127 = .ok (.iadd, 1) := by decide +kernel
theorem dX6_number_128 : decode cX6_number 128 = .ok (.putfield 109, 3) := by decide +kernel
theorem dX6_number_131 : decode cX6_number 131 = .ok (.goto (-78), 3) := by decide +kernel
theorem dX6_number_134 : decode cX6_number 134 = .ok (.iload_n 3, 1) := by decide +kernel
theorem dX6_number_135 : decode cX6_number 135 = .ok (.ireturn, 1) := by decide +kernel
theorem dX6_letters_0 : decode cX6_letters 0 = .ok (.aload_n 0, 1) := by decide +kernel
theorem dX6_letters_1 : decode cX6_letters 1 = .ok (.getfield 112, 3) := by decide +kernel
theorem dX6_letters_4 : decode cX6_letters 4 = .ok (.ifCond .ne 11, 3) := by decide +kernel
theorem dX6_letters_7 : decode cX6_letters 7 = .ok (.aload_n 0, 1) := by decide +kernel
theorem dX6_letters_8 : decode cX6_letters 8 = .ok (.invokevirtual 116, 3) := by decide +kernel
theorem dX6_letters_11 : decode cX6_letters 11 = .ok (.iload_n 1, 1) := by decide +kernel
theorem dX6_letters_12 : decode cX6_letters 12 = .ok (.if_icmp .eq 5, 3) := by decide +kernel
theorem dX6_letters_15 : decode cX6_letters 15 = .ok (.iconst 0, 1) := by decide +kernel
theorem dX6_letters_16 : decode cX6_letters 16 = .ok (.ireturn, 1) := by decide +kernel
theorem dX6_letters_17 : decode cX6_letters 17 = .ok (.aload_n 0, 1) := by decide +kernel
theorem dX6_letters_18 : decode cX6_letters 18 = .ok (.dup, 1) := by decide +kernel
theorem dX6_letters_19 : decode cX6_letters 19 = .ok (.getfield 109, 3) := by decide +kernel
theorem dX6_letters_22 : decode cX6_letters 22 = .ok (.iconst 1, 1) := by decide +kernel
theorem dX6_letters_23 : decode cX6_letters 23 = .ok (.iadd, 1) := by decide +kernel
theorem dX6_letters_24 : decode cX6_letters 24 = .ok (.putfield 109, 3) := by decide +kernel
theorem dX6_letters_27 : decode cX6_letters 27 = .ok (.iconst 0, 1) := by decide +kernel
theorem dX6_letters_28 : decode cX6_letters 28 = .ok (.istore_n 2, 1) := by decide +kernel
theorem dX6_letters_29 : decode cX6_letters 29 = .ok (.aload_n 0, 1) := by decide +kernel
theorem dX6_letters_30 : decode cX6_letters 30 = .ok (.invokevirtual 116, 3) := by decide +kernel
theorem dX6_letters_33 : decode cX6_letters 33 = .ok (.bipush 97, 2) := by decide +kernel
theorem dX6_letters_35 : decode cX6_letters 35 = .ok (.isub, 1) := by decide +kernel
theorem dX6_letters_36 : decode cX6_letters 36 = .ok (.istore_n 3, 1) := by decide +kernel
theorem dX6_letters_37 : decode cX6_letters 37 = .ok (.aload_n 0, 1) := by decide +kernel
theorem dX6_letters_38 : decode cX6_letters 38 = .ok (.iload_n 3, 1) := by decide +kernel
theorem dX6_letters_39 : decode cX6_letters 39 = .ok (.invokestatic 92, 3) := by decide +kernel
theorem dX6_letters_42 : decode cX6_letters 42 = .ok (.ifCond .ne 7, 3) := by decide +kernel
theorem dX6_letters_45 : decode cX6_letters 45 = .ok (.iconst 1, 1) := by decide +kernel
theorem dX6_letters_46 : decode cX6_letters 46 = .ok (.goto 4, 3) := by decide +kernel
theorem dX6_letters_49 : decode cX6_letters 49 = .ok (.iconst 0, 1) := by decide +kernel
theorem dX6_letters_50 : decode cX6_letters 50 = .ok (.putfield 112, 3) := by decide +kernel
theorem dX6_letters_53 : decode cX6_letters 53 = .ok (.aload_n 0, 1) := by decide +kernel
theorem dX6_letters_54 : decode cX6_letters 54 = .ok (.getfield 112, 3) := by decide +kernel
theorem dX6_letters_57 : decode cX6_letters 57 = .ok (.ifCond .ne 44, 3) := by decide +kernel
theorem dX6_letters_60 : decode cX6_letters 60 = .ok (.iload_n 3, 1) := by decide +kernel
theorem dX6_letters_61 : decode cX6_letters 61 = .ok (.invokestatic 92, 3) := by decide +kernel
theorem dX6_letters_64 : decode cX6_letters 64 = .ok (.ifCond .eq 37, 3) := by decide +kernel
theorem dX6_letters_67 : decode cX6_letters 67 = .ok (.iconst 1, 1) := by decide +kernel
theorem dX6_letters_68 : decode cX6_letters 68 = .ok (.iload_n 3, 1) := by decide +kernel
theorem dX6_letters_69 : decode cX6_letters 69 = .ok (.ishl, 1) := by decide +kernel
theorem dX6_letters_70 : decode cX6_letters 70 = .ok (.iload_n 2, 1) := by decide +kernel
theorem dX6_letters_71 : decode cX6_letters 71 = .ok (.if_icmp .le 30, 3) := by decide +kernel
theorem dX6_letters_74 : decode cX6_letters 74 = .ok (.iload_n 2, 1) := by decide +kernel
theorem dX6_letters_75 : decode cX6_letters 75 = .ok (.iconst 1, 1) := by decide +kernel
theorem dX6_letters_76 : decode cX6_letters 76 = .ok (.iload_n 3, 1) := by decide +kernel
theorem dX6_letters_77 : decode cX6_letters 77 = .ok (.ishl, 1) := by decide +kernel
theorem dX6_letters_78 : decode cX6_letters 78 = .ok (.ior, 1) := by decide +kernel
theorem dX6_letters_79 : decode cX6_letters 79 = .ok (.istore_n 2, 1) := by decide +kernel
theorem dX6_letters_80 : decode cX6_letters 80 = .ok (.aload_n 0, 1) := by decide +kernel
theorem dX6_letters_81 : decode cX6_letters 81 = .ok (.dup, 1) := by decide +kernel
theorem dX6_letters_82 : decode cX6_letters 82 = .ok (.getfield 109, 3) := by decide +kernel
theorem dX6_letters_85 : decode cX6_letters 85 = .ok (.iconst 1, 1) := by decide +kernel
theorem dX6_letters_86 : decode cX6_letters 86 = .ok (.iadd, 1) := by decide +kernel
theorem dX6_letters_87 : decode cX6_letters 87 = .ok (.putfield 109, 3) := by decide +kernel
theorem dX6_letters_90 : decode cX6_letters 90 = .ok (.aload_n 0, 1) := by decide +kernel
theorem dX6_letters_91 : decode cX6_letters 91 = .ok (.invokevirtual 116, 3) := by decide +kernel
theorem dX6_letters_94 : decode cX6_letters 94 = .ok (.bipush 97, 2) := by decide +kernel
theorem dX6_letters_96 : decode cX6_letters 96 = .ok (.isub, 1) := by decide +kernel
theorem dX6_letters_97 : decode cX6_letters 97 = .ok (.istore_n 3, 1) := by decide +kernel
theorem dX6_letters_98 : decode cX6_letters 98 = .ok (.goto (-45), 3) := by decide +kernel
theorem dX6_letters_101 : decode cX6_letters 101 = .ok (.iload_n 2, 1) := by decide +kernel
theorem dX6_letters_102 : decode cX6_letters 102 = .ok (.ireturn, 1) := by decide +kernel
theorem dX6_readSundays_0 : decode cX6_readSundays 0 = .ok (.aload_n 0, 1) := by decide +kernel
theorem dX6_readSundays_1 : decode cX6_readSundays 1 = .ok (.iconst 0, 1) := by decide +kernel
theorem dX6_readSundays_2 : decode cX6_readSundays 2 = .ok (.putfield 123, 3) := by decide +kernel
theorem dX6_readSundays_5 : decode cX6_readSundays 5 = .ok (.aload_n 0, 1) := by decide +kernel
theorem dX6_readSundays_6 : decode cX6_readSundays 6 = .ok (.iconst 0, 1) := by decide +kernel
theorem dX6_readSundays_7 : decode cX6_readSundays 7 = .ok (.putfield 126, 3) := by decide +kernel
theorem dX6_readSundays_10 : decode cX6_readSundays 10 = .ok (.iconst 0, 1) := by decide +kernel
theorem dX6_readSundays_11 : decode cX6_readSundays 11 = .ok (.istore_n 1, 1) := by decide +kernel
theorem dX6_readSundays_12 : decode cX6_readSundays 12 = .ok (.iload_n 1, 1) := by decide +kernel
theorem dX6_readSundays_13 : decode cX6_readSundays 13 = .ok (.bipush 6, 2) := by decide +kernel
theorem dX6_readSundays_15 : decode cX6_readSundays 15 = .ok (.if_icmp .ge 114, 3) := by decide +kernel
theorem dX6_readSundays_18 : decode cX6_readSundays 18 = .ok (.aload_n 0, 1) := by decide +kernel
theorem dX6_readSundays_19 : decode cX6_readSundays 19 = .ok (.getfield 112, 3) := by decide +kernel
theorem dX6_readSundays_22 : decode cX6_readSundays 22 = .ok (.ifCond .eq 7, 3) := by decide +kernel
theorem dX6_readSundays_25 : decode cX6_readSundays 25 = .ok (.iconst 0, 1) := by decide +kernel
theorem dX6_readSundays_26 : decode cX6_readSundays 26 = .ok (.goto 7, 3) := by decide +kernel
theorem dX6_readSundays_29 : decode cX6_readSundays 29 = .ok (.aload_n 0, 1) := by decide +kernel
theorem dX6_readSundays_30 : decode cX6_readSundays 30 = .ok (.invokevirtual 116, 3) := by decide +kernel
theorem dX6_readSundays_33 : decode cX6_readSundays 33 = .ok (.istore_n 2, 1) := by decide +kernel
theorem dX6_readSundays_34 : decode cX6_readSundays 34 = .ok (.aload_n 0, 1) := by decide +kernel
theorem dX6_readSundays_35 : decode cX6_readSundays 35 = .ok (.iload_n 2, 1) := by decide +kernel
theorem dX6_readSundays_36 : decode cX6_readSundays 36 = .ok (.bipush 46, 2) := by decide +kernel
theorem dX6_readSundays_38 : decode cX6_readSundays 38 = .ok (.if_icmp .eq 21, 3) := by decide +kernel
theorem dX6_readSundays_41 : decode cX6_readSundays 41 = .ok (.iload_n 2, 1) := by decide +kernel
theorem dX6_readSundays_42 : decode cX6_readSundays 42 = .ok (.bipush 119, 2) := by decide +kernel
theorem dX6_readSundays_44 : decode cX6_readSundays 44 = .ok (.if_icmp .eq 15, 3) := by decide +kernel
theorem dX6_readSundays_47 : decode cX6_readSundays 47 = .ok (.iload_n 2, 1) := by decide +kernel
theorem dX6_readSundays_48 : decode cX6_readSundays 48 = .ok (.bipush 104, 2) := by decide +kernel
theorem dX6_readSundays_50 : decode cX6_readSundays 50 = .ok (.if_icmp .eq 9, 3) := by decide +kernel
theorem dX6_readSundays_53 : decode cX6_readSundays 53 = .ok (.iload_n 2, 1) := by decide +kernel
theorem dX6_readSundays_54 : decode cX6_readSundays 54 = .ok (.bipush 98, 2) := by decide +kernel
theorem dX6_readSundays_56 : decode cX6_readSundays 56 = .ok (.if_icmp .ne 7, 3) := by decide +kernel
theorem dX6_readSundays_59 : decode cX6_readSundays 59 = .ok (.iconst 1, 1) := by decide +kernel
theorem dX6_readSundays_60 : decode cX6_readSundays 60 = .ok (.goto 4, 3) := by decide +kernel
theorem dX6_readSundays_63 : decode cX6_readSundays 63 = .ok (.iconst 0, 1) := by decide +kernel
theorem dX6_readSundays_64 : decode cX6_readSundays 64 = .ok (.invokevirtual 129, 3) := by decide +kernel
theorem dX6_readSundays_67 : decode cX6_readSundays 67 = .ok (.aload_n 0, 1) := by decide +kernel
theorem dX6_readSundays_68 : decode cX6_readSundays 68 = .ok (.dup, 1) := by decide +kernel
theorem dX6_readSundays_69 : decode cX6_readSundays 69 = .ok (.getfield 123, 3) := by decide +kernel
theorem dX6_readSundays_72 : decode cX6_readSundays 72 = .ok (.iload_n 2, 1) := by decide +kernel
theorem dX6_readSundays_73 : decode cX6_readSundays 73 = .ok (.bipush 119, 2) := by decide +kernel
theorem dX6_readSundays_75 : decode cX6_readSundays 75 = .ok (.if_icmp .eq 9, 3) := by decide +kernel
theorem dX6_readSundays_78 : decode cX6_readSundays 78 = .ok (.iload_n 2, 1) := by decide +kernel
theorem dX6_readSundays_79 : decode cX6_readSundays 79 = .ok (.bipush 98, 2) := by decide +kernel
theorem dX6_readSundays_81 : decode cX6_readSundays 81 = .ok (.if_icmp .ne 9, 3) := by decide +kernel
theorem dX6_readSundays_84 : decode cX6_readSundays 84 = .ok (.iconst 1, 1) := by decide +kernel
theorem dX6_readSundays_85 : decode cX6_readSundays 85 = .ok (.iload_n 1, 1) := by decide +kernel
theorem dX6_readSundays_86 : decode cX6_readSundays 86 = .ok (.ishl, 1) := by decide +kernel
theorem dX6_readSundays_87 : decode cX6_readSundays 87 = .ok (.goto 4, 3) := by decide +kernel
theorem dX6_readSundays_90 : decode cX6_readSundays 90 = .ok (.iconst 0, 1) := by decide +kernel
theorem dX6_readSundays_91 : decode cX6_readSundays 91 = .ok (.ior, 1) := by decide +kernel
theorem dX6_readSundays_92 : decode cX6_readSundays 92 = .ok (.putfield 123, 3) := by decide +kernel
theorem dX6_readSundays_95 : decode cX6_readSundays 95 = .ok (.aload_n 0, 1) := by decide +kernel
theorem dX6_readSundays_96 : decode cX6_readSundays 96 = .ok (.dup, 1) := by decide +kernel
theorem dX6_readSundays_97 : decode cX6_readSundays 97 = .ok (.getfield 126, 3) := by decide +kernel
theorem dX6_readSundays_100 : decode cX6_readSundays 100 = .ok (.iload_n 2, 1) := by decide +kernel
theorem dX6_readSundays_101 : decode cX6_readSundays 101 = .ok (.bipush 104, 2) := by decide +kernel
theorem dX6_readSundays_103 : decode cX6_readSundays 103 = .ok (.if_icmp .eq 9, 3) := by decide +kernel
theorem dX6_readSundays_106 : decode cX6_readSundays 106 = .ok (.iload_n 2, 1) := by decide +kernel
theorem dX6_readSundays_107 : decode cX6_readSundays 107 = .ok (.bipush 98, 2) := by decide +kernel
theorem dX6_readSundays_109 : decode cX6_readSundays 109 = .ok (.if_icmp .ne 9, 3) := by decide +kernel
theorem dX6_readSundays_112 : decode cX6_readSundays 112 = .ok (.iconst 1, 1) := by decide +kernel
theorem dX6_readSundays_113 : decode cX6_readSundays 113 = .ok (.iload_n 1, 1) := by decide +kernel
theorem dX6_readSundays_114 : decode cX6_readSundays 114 = .ok (.ishl, 1) := by decide +kernel
theorem dX6_readSundays_115 : decode cX6_readSundays 115 = .ok (.goto 4, 3) := by decide +kernel
theorem dX6_readSundays_118 : decode cX6_readSundays 118 = .ok (.iconst 0, 1) := by decide +kernel
theorem dX6_readSundays_119 : decode cX6_readSundays 119 = .ok (.ior, 1) := by decide +kernel
theorem dX6_readSundays_120 : decode cX6_readSundays 120 = .ok (.putfield 126, 3) := by decide +kernel
theorem dX6_readSundays_123 : decode cX6_readSundays 123 = .ok (.iinc 1 1, 3) := by decide +kernel
theorem dX6_readSundays_126 : decode cX6_readSundays 126 = .ok (.goto (-114), 3) := by decide +kernel
theorem dX6_readSundays_129 : decode cX6_readSundays 129 = .ok (.return_, 1) := by decide +kernel
theorem dX6_readPeople_0 : decode cX6_readPeople 0 = .ok (.iconst 0, 1) := by decide +kernel
theorem dX6_readPeople_1 : decode cX6_readPeople 1 = .ok (.istore_n 1, 1) := by decide +kernel
theorem dX6_readPeople_2 : decode cX6_readPeople 2 = .ok (.aload_n 0, 1) := by decide +kernel
theorem dX6_readPeople_3 : decode cX6_readPeople 3 = .ok (.getfield 112, 3) := by decide +kernel
theorem dX6_readPeople_6 : decode cX6_readPeople 6 = .ok (.ifCond .ne 260, 3) := by decide +kernel
theorem dX6_readPeople_9 : decode cX6_readPeople 9 = .ok (.iload_n 1, 1) := by decide +kernel
theorem dX6_readPeople_10 : decode cX6_readPeople 10 = .ok (.ifCond .eq 12, 3) := by decide +kernel
theorem dX6_readPeople_13 : decode cX6_readPeople 13 = .ok (.aload_n 0, 1) := by decide +kernel
theorem dX6_readPeople_14 : decode cX6_readPeople 14 = .ok (.invokevirtual 116, 3) := by decide +kernel
theorem dX6_readPeople_17 : decode cX6_readPeople 17 = .ok (.bipush 44, 2) := by decide +kernel
theorem dX6_readPeople_19 : decode cX6_readPeople 19 = .ok (.if_icmp .ne 247, 3) := by decide +kernel
theorem dX6_readPeople_22 : decode cX6_readPeople 22 = .ok (.iload_n 1, 1) := by decide +kernel
theorem dX6_readPeople_23 : decode cX6_readPeople 23 = .ok (.ifCond .le 18, 3) := by decide +kernel
theorem dX6_readPeople_26 : decode cX6_readPeople 26 = .ok (.aload_n 0, 1) := by decide +kernel
theorem dX6_readPeople_27 : decode cX6_readPeople 27 = .ok (.iload_n 1, 1) := by decide +kernel
theorem dX6_readPeople_28 : decode cX6_readPeople 28 = .ok (.bipush 6, 2) := by decide +kernel
theorem dX6_readPeople_30 : decode cX6_readPeople 30 = .ok (.if_icmp .ge 7, 3) := by decide +kernel
theorem dX6_readPeople_33 : decode cX6_readPeople 33 = .ok (.iconst 1, 1) := by decide +kernel
theorem dX6_readPeople_34 : decode cX6_readPeople 34 = .ok (.goto 4, 3) := by decide +kernel
theorem dX6_readPeople_37 : decode cX6_readPeople 37 = .ok (.iconst 0, 1) := by decide +kernel
theorem dX6_readPeople_38 : decode cX6_readPeople 38 = .ok (.invokevirtual 129, 3) := by decide +kernel
theorem dX6_readPeople_41 : decode cX6_readPeople 41 = .ok (.aload_n 0, 1) := by decide +kernel
theorem dX6_readPeople_42 : decode cX6_readPeople 42 = .ok (.getfield 112, 3) := by decide +kernel
theorem dX6_readPeople_45 : decode cX6_readPeople 45 = .ok (.ifCond .eq 7, 3) := by decide +kernel
theorem dX6_readPeople_48 : decode cX6_readPeople 48 = .ok (.iconst 0, 1) := by decide +kernel
theorem dX6_readPeople_49 : decode cX6_readPeople 49 = .ok (.goto 7, 3) := by decide +kernel
theorem dX6_readPeople_52 : decode cX6_readPeople 52 = .ok (.aload_n 0, 1) := by decide +kernel
theorem dX6_readPeople_53 : decode cX6_readPeople 53 = .ok (.invokevirtual 116, 3) := by decide +kernel
theorem dX6_readPeople_56 : decode cX6_readPeople 56 = .ok (.istore_n 2, 1) := by decide +kernel
theorem dX6_readPeople_57 : decode cX6_readPeople 57 = .ok (.iload_n 2, 1) := by decide +kernel
theorem dX6_readPeople_58 : decode cX6_readPeople 58 = .ok (.bipush 112, 2) := by decide +kernel
theorem dX6_readPeople_60 : decode cX6_readPeople 60 = .ok (.if_icmp .ne 7, 3) := by decide +kernel
theorem dX6_readPeople_63 : decode cX6_readPeople 63 = .ok (.iconst 0, 1) := by decide +kernel
theorem dX6_readPeople_64 : decode cX6_readPeople 64 = .ok (.goto 44, 3) := by decide +kernel
theorem dX6_readPeople_67 : decode cX6_readPeople 67 = .ok (.iload_n 2, 1) := by decide +kernel
theorem dX6_readPeople_68 : decode cX6_readPeople 68 = .ok (.bipush 102, 2) := by decide +kernel
theorem dX6_readPeople_70 : decode cX6_readPeople 70 = .ok (.if_icmp .ne 7, 3) := by decide +kernel
theorem dX6_readPeople_73 : decode cX6_readPeople 73 = .ok (.iconst 1, 1) := by decide +kernel
theorem dX6_readPeople_74 : decode cX6_readPeople 74 = .ok (.goto 34, 3) := by decide +kernel
theorem dX6_readPeople_77 : decode cX6_readPeople 77 = .ok (.iload_n 2, 1) := by decide +kernel
theorem dX6_readPeople_78 : decode cX6_readPeople 78 = .ok (.bipush 111, 2) := by decide +kernel
theorem dX6_readPeople_80 : decode cX6_readPeople 80 = .ok (.if_icmp .ne 7, 3) := by decide +kernel
theorem dX6_readPeople_83 : decode cX6_readPeople 83 = .ok (.iconst 2, 1) := by decide +kernel
theorem dX6_readPeople_84 : decode cX6_readPeople 84 = .ok (.goto 24, 3) := by decide +kernel
theorem dX6_readPeople_87 : decode cX6_readPeople 87 = .ok (.iload_n 2, 1) := by decide +kernel
theorem dX6_readPeople_88 : decode cX6_readPeople 88 = .ok (.bipush 108, 2) := by decide +kernel
theorem dX6_readPeople_90 : decode cX6_readPeople 90 = .ok (.if_icmp .ne 7, 3) := by decide +kernel
theorem dX6_readPeople_93 : decode cX6_readPeople 93 = .ok (.iconst 3, 1) := by decide +kernel
theorem dX6_readPeople_94 : decode cX6_readPeople 94 = .ok (.goto 14, 3) := by decide +kernel
theorem dX6_readPeople_97 : decode cX6_readPeople 97 = .ok (.iload_n 2, 1) := by decide +kernel
theorem dX6_readPeople_98 : decode cX6_readPeople 98 = .ok (.bipush 114, 2) := by decide +kernel
theorem dX6_readPeople_100 : decode cX6_readPeople 100 = .ok (.if_icmp .ne 7, 3) := by decide +kernel
theorem dX6_readPeople_103 : decode cX6_readPeople 103 = .ok (.iconst 4, 1) := by decide +kernel
theorem dX6_readPeople_104 : decode cX6_readPeople 104 = .ok (.goto 4, 3) := by decide +kernel
theorem dX6_readPeople_107 : decode cX6_readPeople 107 = .ok (.iconst (-1), 1) := by decide +kernel
theorem dX6_readPeople_108 : decode cX6_readPeople 108 = .ok (.istore_n 3, 1) := by decide +kernel
theorem dX6_readPeople_109 : decode cX6_readPeople 109 = .ok (.aload_n 0, 1) := by decide +kernel
theorem dX6_readPeople_110 : decode cX6_readPeople 110 = .ok (.iload_n 3, 1) := by decide +kernel
theorem dX6_readPeople_111 : decode cX6_readPeople 111 = .ok (.ifCond .lt 7, 3) := by decide +kernel
theorem dX6_readPeople_114 : decode cX6_readPeople 114 = .ok (.iconst 1, 1) := by decide +kernel
theorem dX6_readPeople_115 : decode cX6_readPeople 115 = .ok (.goto 4, 3) := by decide +kernel
theorem dX6_readPeople_118 : decode cX6_readPeople 118 = .ok (.iconst 0, 1) := by decide +kernel
theorem dX6_readPeople_119 : decode cX6_readPeople 119 = .ok (.invokevirtual 129, 3) := by decide +kernel
theorem dX6_readPeople_122 : decode cX6_readPeople 122 = .ok (.aload_n 0, 1) := by decide +kernel
theorem dX6_readPeople_123 : decode cX6_readPeople 123 = .ok (.invokevirtual 133, 3) := by decide +kernel
theorem dX6_readPeople_126 : decode cX6_readPeople 126 = .ok (.istore 4, 2) := by decide +kernel
theorem dX6_readPeople_128 : decode cX6_readPeople 128 = .ok (.iload_n 1, 1) := by decide +kernel
theorem dX6_readPeople_129 : decode cX6_readPeople 129 = .ok (.istore 5, 2) := by decide +kernel
theorem dX6_readPeople_131 : decode cX6_readPeople 131 = .ok (.aload_n 0, 1) := by decide +kernel
theorem dX6_readPeople_132 : decode cX6_readPeople 132 = .ok (.getfield 112, 3) := by decide +kernel
theorem dX6_readPeople_135 : decode cX6_readPeople 135 = .ok (.ifCond .ne 45, 3) := by decide +kernel
theorem dX6_readPeople_138 : decode cX6_readPeople 138 = .ok (.aload_n 0, 1) := by decide +kernel
theorem dX6_readPeople_139 : decode cX6_readPeople 139 = .ok (.invokevirtual 116, 3) := by decide +kernel
theorem dX6_readPeople_142 : decode cX6_readPeople 142 = .ok (.bipush 62, 2) := by decide +kernel
theorem dX6_readPeople_144 : decode cX6_readPeople 144 = .ok (.if_icmp .ne 36, 3) := by decide +kernel
theorem dX6_readPeople_147 : decode cX6_readPeople 147 = .ok (.aload_n 0, 1) := by decide +kernel
theorem dX6_readPeople_148 : decode cX6_readPeople 148 = .ok (.dup, 1) := by decide +kernel
theorem dX6_readPeople_149 : decode cX6_readPeople 149 = .ok (.getfield 109, 3) := by decide +kernel
theorem dX6_readPeople_152 : decode cX6_readPeople 152 = .ok (.iconst 1, 1) := by decide +kernel
theorem dX6_readPeople_153 : decode cX6_readPeople 153 = .ok (.iadd, 1) := by decide +kernel
theorem dX6_readPeople_154 : decode cX6_readPeople 154 = .ok (.putfield 109, 3) := by decide +kernel
theorem dX6_readPeople_157 : decode cX6_readPeople 157 = .ok (.aload_n 0, 1) := by decide +kernel
theorem dX6_readPeople_158 : decode cX6_readPeople 158 = .ok (.invokevirtual 116, 3) := by decide +kernel
theorem dX6_readPeople_161 : decode cX6_readPeople 161 = .ok (.bipush 48, 2) := by decide +kernel
theorem dX6_readPeople_163 : decode cX6_readPeople 163 = .ok (.isub, 1) := by decide +kernel
theorem dX6_readPeople_164 : decode cX6_readPeople 164 = .ok (.istore 5, 2) := by decide +kernel
theorem dX6_readPeople_166 : decode cX6_readPeople 166 = .ok (.aload_n 0, 1) := by decide +kernel
theorem dX6_readPeople_167 : decode cX6_readPeople 167 = .ok (.iload 5, 2) := by decide +kernel
theorem dX6_readPeople_169 : decode cX6_readPeople 169 = .ok (.i2l, 1) := by decide +kernel
theorem dX6_readPeople_170 : decode cX6_readPeople 170 = .ok (.lconst 0, 1) := by decide +kernel
theorem dX6_readPeople_171 : decode cX6_readPeople 171 = .ok (.ldc2_w 84, 3) := by decide +kernel
theorem dX6_readPeople_174 : decode cX6_readPeople 174 = .ok (.invokestatic 41, 3) := by decide +kernel
theorem dX6_readPeople_177 : decode cX6_readPeople 177 = .ok (.invokevirtual 129, 3) := by decide +kernel
theorem dX6_readPeople_180 : decode cX6_readPeople 180 = .ok (.aload_n 0, 1) := by decide +kernel
theorem dX6_readPeople_181 : decode cX6_readPeople 181 = .ok (.bipush 45, 2) := by decide +kernel
theorem dX6_readPeople_183 : decode cX6_readPeople 183 = .ok (.invokevirtual 136, 3) := by decide +kernel
theorem dX6_readPeople_186 : decode cX6_readPeople 186 = .ok (.istore 6, 2) := by decide +kernel
theorem dX6_readPeople_188 : decode cX6_readPeople 188 = .ok (.aload_n 0, 1) := by decide +kernel
theorem dX6_readPeople_189 : decode cX6_readPeople 189 = .ok (.bipush 43, 2) := by decide +kernel
theorem dX6_readPeople_191 : decode cX6_readPeople 191 = .ok (.invokevirtual 136, 3) := by decide +kernel
theorem dX6_readPeople_194 : decode cX6_readPeople 194 = .ok (.istore 7, 2) := by decide +kernel
theorem dX6_readPeople_196 : decode cX6_readPeople 196 = .ok (.aload_n 0, 1) := by decide +kernel
theorem dX6_readPeople_197 : decode cX6_readPeople 197 = .ok (.getfield 112, 3) := by decide +kernel
theorem dX6_readPeople_200 : decode cX6_readPeople 200 = .ok (.ifCond .ne 60, 3) := by decide +kernel
theorem dX6_readPeople_203 : decode cX6_readPeople 203 = .ok (.aload_n 0, 1) := by decide +kernel
theorem dX6_readPeople_204 : decode cX6_readPeople 204 = .ok (.getfield 16, 3) := by decide +kernel
theorem dX6_readPeople_207 : decode cX6_readPeople 207 = .ok (.iconst 5, 1) := by decide +kernel
theorem dX6_readPeople_208 : decode cX6_readPeople 208 = .ok (.iload_n 1, 1) := by decide +kernel
theorem dX6_readPeople_209 : decode cX6_readPeople 209 = .ok (.imul, 1) := by decide +kernel
theorem dX6_readPeople_210 : decode cX6_readPeople 210 = .ok (.iload_n 3, 1) := by decide +kernel
theorem dX6_readPeople_211 : decode cX6_readPeople 211 = .ok (.iastore, 1) := by decide +kernel
theorem dX6_readPeople_212 : decode cX6_readPeople 212 = .ok (.aload_n 0, 1) := by decide +kernel
theorem dX6_readPeople_213 : decode cX6_readPeople 213 = .ok (.getfield 16, 3) := by decide +kernel
theorem dX6_readPeople_216 : decode cX6_readPeople 216 = .ok (.iconst 5, 1) := by decide +kernel
theorem dX6_readPeople_217 : decode cX6_readPeople 217 = .ok (.iload_n 1, 1) := by decide +kernel
theorem dX6_readPeople_218 : decode cX6_readPeople 218 = .ok (.imul, 1) := by decide +kernel
theorem dX6_readPeople_219 : decode cX6_readPeople 219 = .ok (.iconst 1, 1) := by decide +kernel
theorem dX6_readPeople_220 : decode cX6_readPeople 220 = .ok (.iadd, 1) := by decide +kernel
theorem dX6_readPeople_221 : decode cX6_readPeople 221 = .ok (.iload 5, 2) := by decide +kernel
theorem dX6_readPeople_223 : decode cX6_readPeople 223 = .ok (.iastore, 1) := by decide +kernel
theorem dX6_readPeople_224 : decode cX6_readPeople 224 = .ok (.aload_n 0, 1) := by decide +kernel
theorem dX6_readPeople_225 : decode cX6_readPeople 225 = .ok (.getfield 16, 3) := by decide +kernel
theorem dX6_readPeople_228 : decode cX6_readPeople 228 = .ok (.iconst 5, 1) := by decide +kernel
theorem dX6_readPeople_229 : decode cX6_readPeople 229 = .ok (.iload_n 1, 1) := by decide +kernel
theorem dX6_readPeople_230 : decode cX6_readPeople 230 = .ok (.imul, 1) := by decide +kernel
theorem dX6_readPeople_231 : decode cX6_readPeople 231 = .ok (.iconst 2, 1) := by decide +kernel
theorem dX6_readPeople_232 : decode cX6_readPeople 232 = .ok (.iadd, 1) := by decide +kernel
theorem dX6_readPeople_233 : decode cX6_readPeople 233 = .ok (.iload 4, 2) := by decide +kernel
theorem dX6_readPeople_235 : decode cX6_readPeople 235 = .ok (.iastore, 1) := by decide +kernel
theorem dX6_readPeople_236 : decode cX6_readPeople 236 = .ok (.aload_n 0, 1) := by decide +kernel
theorem dX6_readPeople_237 : decode cX6_readPeople 237 = .ok (.getfield 16, 3) := by decide +kernel
theorem dX6_readPeople_240 : decode cX6_readPeople 240 = .ok (.iconst 5, 1) := by decide +kernel
theorem dX6_readPeople_241 : decode cX6_readPeople 241 = .ok (.iload_n 1, 1) := by decide +kernel
theorem dX6_readPeople_242 : decode cX6_readPeople 242 = .ok (.imul, 1) := by decide +kernel
theorem dX6_readPeople_243 : decode cX6_readPeople 243 = .ok (.iconst 3, 1) := by decide +kernel
theorem dX6_readPeople_244 : decode cX6_readPeople 244 = .ok (.iadd, 1) := by decide +kernel
theorem dX6_readPeople_245 : decode cX6_readPeople 245 = .ok (.iload 6, 2) := by decide +kernel
theorem dX6_readPeople_247 : decode cX6_readPeople 247 = .ok (.iastore, 1) := by decide +kernel
theorem dX6_readPeople_248 : decode cX6_readPeople 248 = .ok (.aload_n 0, 1) := by decide +kernel
theorem dX6_readPeople_249 : decode cX6_readPeople 249 = .ok (.getfield 16, 3) := by decide +kernel
theorem dX6_readPeople_252 : decode cX6_readPeople 252 = .ok (.iconst 5, 1) := by decide +kernel
theorem dX6_readPeople_253 : decode cX6_readPeople 253 = .ok (.iload_n 1, 1) := by decide +kernel
theorem dX6_readPeople_254 : decode cX6_readPeople 254 = .ok (.imul, 1) := by decide +kernel
theorem dX6_readPeople_255 : decode cX6_readPeople 255 = .ok (.iconst 4, 1) := by decide +kernel
theorem dX6_readPeople_256 : decode cX6_readPeople 256 = .ok (.iadd, 1) := by decide +kernel
theorem dX6_readPeople_257 : decode cX6_readPeople 257 = .ok (.iload 7, 2) := by decide +kernel
theorem dX6_readPeople_259 : decode cX6_readPeople 259 = .ok (.iastore, 1) := by decide +kernel
theorem dX6_readPeople_260 : decode cX6_readPeople 260 = .ok (.iinc 1 1, 3) := by decide +kernel
theorem dX6_readPeople_263 : decode cX6_readPeople 263 = .ok (.goto (-261), 3) := by decide +kernel
theorem dX6_readPeople_266 : decode cX6_readPeople 266 = .ok (.iload_n 1, 1) := by decide +kernel
theorem dX6_readPeople_267 : decode cX6_readPeople 267 = .ok (.ireturn, 1) := by decide +kernel
theorem dX6_areThere_0 : decode cX6_areThere 0 = .ok (.iconst 1, 1) := by decide +kernel
theorem dX6_areThere_1 : decode cX6_areThere 1 = .ok (.istore_n 2, 1) := by decide +kernel
theorem dX6_areThere_2 : decode cX6_areThere 2 = .ok (.iconst 0, 1) := by decide +kernel
theorem dX6_areThere_3 : decode cX6_areThere 3 = .ok (.istore_n 3, 1) := by decide +kernel
theorem dX6_areThere_4 : decode cX6_areThere 4 = .ok (.iload_n 3, 1) := by decide +kernel
theorem dX6_areThere_5 : decode cX6_areThere 5 = .ok (.iload_n 1, 1) := by decide +kernel
theorem dX6_areThere_6 : decode cX6_areThere 6 = .ok (.if_icmp .ge 33, 3) := by decide +kernel
theorem dX6_areThere_9 : decode cX6_areThere 9 = .ok (.iload_n 2, 1) := by decide +kernel
theorem dX6_areThere_10 : decode cX6_areThere 10 = .ok (.ifCond .eq 21, 3) := by decide +kernel
theorem dX6_areThere_13 : decode cX6_areThere 13 = .ok (.aload_n 0, 1) := by decide +kernel
theorem dX6_areThere_14 : decode cX6_areThere 14 = .ok (.getfield 16, 3) := by decide +kernel
theorem dX6_areThere_17 : decode cX6_areThere 17 = .ok (.iconst 5, 1) := by decide +kernel
theorem dX6_areThere_18 : decode cX6_areThere 18 = .ok (.iload_n 3, 1) := by decide +kernel
theorem dX6_areThere_19 : decode cX6_areThere 19 = .ok (.imul, 1) := by decide +kernel
theorem dX6_areThere_20 : decode cX6_areThere 20 = .ok (.iconst 1, 1) := by decide +kernel
theorem dX6_areThere_21 : decode cX6_areThere 21 = .ok (.iadd, 1) := by decide +kernel
theorem dX6_areThere_22 : decode cX6_areThere 22 = .ok (.iaload, 1) := by decide +kernel
theorem dX6_areThere_23 : decode cX6_areThere 23 = .ok (.iload_n 1, 1) := by decide +kernel
theorem dX6_areThere_24 : decode cX6_areThere 24 = .ok (.if_icmp .ge 7, 3) := by decide +kernel
theorem dX6_areThere_27 : decode cX6_areThere 27 = .ok (.iconst 1, 1) := by decide +kernel
theorem dX6_areThere_28 : decode cX6_areThere 28 = .ok (.goto 4, 3) := by decide +kernel
theorem dX6_areThere_31 : decode cX6_areThere 31 = .ok (.iconst 0, 1) := by decide +kernel
theorem dX6_areThere_32 : decode cX6_areThere 32 = .ok (.istore_n 2, 1) := by decide +kernel
theorem dX6_areThere_33 : decode cX6_areThere 33 = .ok (.iinc 3 1, 3) := by decide +kernel
theorem dX6_areThere_36 : decode cX6_areThere 36 = .ok (.goto (-32), 3) := by decide +kernel
theorem dX6_areThere_39 : decode cX6_areThere 39 = .ok (.iload_n 2, 1) := by decide +kernel
theorem dX6_areThere_40 : decode cX6_areThere 40 = .ok (.ireturn, 1) := by decide +kernel
theorem dX6_read_0 : decode cX6_read 0 = .ok (.aload_n 0, 1) := by decide +kernel
theorem dX6_read_1 : decode cX6_read 1 = .ok (.iconst 0, 1) := by decide +kernel
theorem dX6_read_2 : decode cX6_read 2 = .ok (.putfield 109, 3) := by decide +kernel
theorem dX6_read_5 : decode cX6_read 5 = .ok (.aload_n 0, 1) := by decide +kernel
theorem dX6_read_6 : decode cX6_read 6 = .ok (.iconst 0, 1) := by decide +kernel
theorem dX6_read_7 : decode cX6_read 7 = .ok (.putfield 112, 3) := by decide +kernel
theorem dX6_read_10 : decode cX6_read 10 = .ok (.aload_n 0, 1) := by decide +kernel
theorem dX6_read_11 : decode cX6_read 11 = .ok (.invokevirtual 139, 3) := by decide +kernel
theorem dX6_read_14 : decode cX6_read 14 = .ok (.aload_n 0, 1) := by decide +kernel
theorem dX6_read_15 : decode cX6_read 15 = .ok (.aload_n 0, 1) := by decide +kernel
theorem dX6_read_16 : decode cX6_read 16 = .ok (.getfield 112, 3) := by decide +kernel
theorem dX6_read_19 : decode cX6_read 19 = .ok (.ifCond .ne 16, 3) := by decide +kernel
theorem dX6_read_22 : decode cX6_read 22 = .ok (.aload_n 0, 1) := by decide +kernel
theorem dX6_read_23 : decode cX6_read 23 = .ok (.invokevirtual 116, 3) := by decide +kernel
theorem dX6_read_26 : decode cX6_read 26 = .ok (.bipush 59, 2) := by decide +kernel
theorem dX6_read_28 : decode cX6_read 28 = .ok (.if_icmp .ne 7, 3) := by decide +kernel
theorem dX6_read_31 : decode cX6_read 31 = .ok (.iconst 1, 1) := by decide +kernel
theorem dX6_read_32 : decode cX6_read 32 = .ok (.goto 4, 3) := by decide +kernel
theorem dX6_read_35 : decode cX6_read 35 = .ok (.iconst 0, 1) := by decide +kernel
theorem dX6_read_36 : decode cX6_read 36 = .ok (.invokevirtual 129, 3) := by decide +kernel
theorem dX6_read_39 : decode cX6_read 39 = .ok (.aload_n 0, 1) := by decide +kernel
theorem dX6_read_40 : decode cX6_read 40 = .ok (.invokevirtual 142, 3) := by decide +kernel
theorem dX6_read_43 : decode cX6_read 43 = .ok (.istore_n 1, 1) := by decide +kernel
theorem dX6_read_44 : decode cX6_read 44 = .ok (.aload_n 0, 1) := by decide +kernel
theorem dX6_read_45 : decode cX6_read 45 = .ok (.aload_n 0, 1) := by decide +kernel
theorem dX6_read_46 : decode cX6_read 46 = .ok (.getfield 112, 3) := by decide +kernel
theorem dX6_read_49 : decode cX6_read 49 = .ok (.ifCond .ne 10, 3) := by decide +kernel
theorem dX6_read_52 : decode cX6_read 52 = .ok (.aload_n 0, 1) := by decide +kernel
theorem dX6_read_53 : decode cX6_read 53 = .ok (.invokevirtual 116, 3) := by decide +kernel
theorem dX6_read_56 : decode cX6_read 56 = .ok (.ifCond .eq 7, 3) := by decide +kernel
theorem dX6_read_59 : decode cX6_read 59 = .ok (.iconst 1, 1) := by decide +kernel
theorem dX6_read_60 : decode cX6_read 60 = .ok (.goto 4, 3) := by decide +kernel
theorem dX6_read_63 : decode cX6_read 63 = .ok (.iconst 0, 1) := by decide +kernel
theorem dX6_read_64 : decode cX6_read 64 = .ok (.putfield 112, 3) := by decide +kernel
theorem dX6_read_67 : decode cX6_read 67 = .ok (.aload_n 0, 1) := by decide +kernel
theorem dX6_read_68 : decode cX6_read 68 = .ok (.getfield 112, 3) := by decide +kernel
theorem dX6_read_71 : decode cX6_read 71 = .ok (.ifCond .ne 24, 3) := by decide +kernel
theorem dX6_read_74 : decode cX6_read 74 = .ok (.aload_n 0, 1) := by decide +kernel
theorem dX6_read_75 : decode cX6_read 75 = .ok (.iload_n 1, 1) := by decide +kernel
theorem dX6_read_76 : decode cX6_read 76 = .ok (.invokevirtual 145, 3) := by decide +kernel
theorem dX6_read_79 : decode cX6_read 79 = .ok (.ifCond .ne 16, 3) := by decide +kernel
theorem dX6_read_82 : decode cX6_read 82 = .ok (.aload_n 0, 1) := by decide +kernel
theorem dX6_read_83 : decode cX6_read 83 = .ok (.iconst 1, 1) := by decide +kernel
theorem dX6_read_84 : decode cX6_read 84 = .ok (.putfield 112, 3) := by decide +kernel
theorem dX6_read_87 : decode cX6_read 87 = .ok (.aload_n 0, 1) := by decide +kernel
theorem dX6_read_88 : decode cX6_read 88 = .ok (.aload_n 0, 1) := by decide +kernel
theorem dX6_read_89 : decode cX6_read 89 = .ok (.getfield 106, 3) := by decide +kernel
theorem dX6_read_92 : decode cX6_read 92 = .ok (.putfield 109, 3) := by decide +kernel
theorem dX6_read_95 : decode cX6_read 95 = .ok (.aload_n 0, 1) := by decide +kernel
theorem dX6_read_96 : decode cX6_read 96 = .ok (.iconst 0, 1) := by decide +kernel
theorem dX6_read_97 : decode cX6_read 97 = .ok (.putfield 106, 3) := by decide +kernel
theorem dX6_read_100 : decode cX6_read 100 = .ok (.aload_n 0, 1) := by decide +kernel
theorem dX6_read_101 : decode cX6_read 101 = .ok (.getfield 112, 3) := by decide +kernel
theorem dX6_read_104 : decode cX6_read 104 = .ok (.ifCond .eq 11, 3) := by decide +kernel
theorem dX6_read_107 : decode cX6_read 107 = .ok (.bipush (-20), 2) := by decide +kernel
theorem dX6_read_109 : decode cX6_read 109 = .ok (.aload_n 0, 1) := by decide +kernel
theorem dX6_read_110 : decode cX6_read 110 = .ok (.getfield 109, 3) := by decide +kernel
theorem dX6_read_113 : decode cX6_read 113 = .ok (.isub, 1) := by decide +kernel
theorem dX6_read_114 : decode cX6_read 114 = .ok (.ireturn, 1) := by decide +kernel
theorem dX6_read_115 : decode cX6_read 115 = .ok (.aload_n 0, 1) := by decide +kernel
theorem dX6_read_116 : decode cX6_read 116 = .ok (.getfield 7, 3) := by decide +kernel
theorem dX6_read_119 : decode cX6_read 119 = .ok (.iconst 0, 1) := by decide +kernel
theorem dX6_read_120 : decode cX6_read 120 = .ok (.iconst 0, 1) := by decide +kernel
theorem dX6_read_121 : decode cX6_read 121 = .ok (.iastore, 1) := by decide +kernel
theorem dX6_read_122 : decode cX6_read 122 = .ok (.aload_n 0, 1) := by decide +kernel
theorem dX6_read_123 : decode cX6_read 123 = .ok (.getfield 7, 3) := by decide +kernel
theorem dX6_read_126 : decode cX6_read 126 = .ok (.iconst 2, 1) := by decide +kernel
theorem dX6_read_127 : decode cX6_read 127 = .ok (.aload_n 0, 1) := by decide +kernel
theorem dX6_read_128 : decode cX6_read 128 = .ok (.getfield 123, 3) := by decide +kernel
theorem dX6_read_131 : decode cX6_read 131 = .ok (.iastore, 1) := by decide +kernel
theorem dX6_read_132 : decode cX6_read 132 = .ok (.aload_n 0, 1) := by decide +kernel
theorem dX6_read_133 : decode cX6_read 133 = .ok (.getfield 7, 3) := by decide +kernel
theorem dX6_read_136 : decode cX6_read 136 = .ok (.iconst 3, 1) := by decide +kernel
theorem dX6_read_137 : decode cX6_read 137 = .ok (.aload_n 0, 1) := by decide +kernel
theorem dX6_read_138 : decode cX6_read 138 = .ok (.getfield 126, 3) := by decide +kernel
theorem dX6_read_141 : decode cX6_read 141 = .ok (.iastore, 1) := by decide +kernel
theorem dX6_read_142 : decode cX6_read 142 = .ok (.iconst 0, 1) := by decide +kernel
theorem dX6_read_143 : decode cX6_read 143 = .ok (.istore_n 2, 1) := by decide +kernel
theorem dX6_read_144 : decode cX6_read 144 = .ok (.iload_n 2, 1) := by decide +kernel
theorem dX6_read_145 : decode cX6_read 145 = .ok (.iload_n 1, 1) := by decide +kernel
theorem dX6_read_146 : decode cX6_read 146 = .ok (.if_icmp .ge 90, 3) := by decide +kernel
theorem dX6_read_149 : decode cX6_read 149 = .ok (.aload_n 0, 1) := by decide +kernel
theorem dX6_read_150 : decode cX6_read 150 = .ok (.aload_n 0, 1) := by decide +kernel
theorem dX6_read_151 : decode cX6_read 151 = .ok (.getfield 16, 3) := by decide +kernel
theorem dX6_read_154 : decode cX6_read 154 = .ok (.iconst 5, 1) := by decide +kernel
theorem dX6_read_155 : decode cX6_read 155 = .ok (.iload_n 2, 1) := by decide +kernel
theorem dX6_read_156 : decode cX6_read 156 = .ok (.imul, 1) := by decide +kernel
theorem dX6_read_157 : decode cX6_read 157 = .ok (.iaload, 1) := by decide +kernel
theorem dX6_read_158 : decode cX6_read 158 = .ok (.aload_n 0, 1) := by decide +kernel
theorem dX6_read_159 : decode cX6_read 159 = .ok (.getfield 16, 3) := by decide +kernel
theorem dX6_read_162 : decode cX6_read 162 = .ok (.iconst 5, 1) := by decide +kernel
theorem dX6_read_163 : decode cX6_read 163 = .ok (.iload_n 2, 1) := by decide +kernel
theorem dX6_read_164 : decode cX6_read 164 = .ok (.imul, 1) := by decide +kernel
theorem dX6_read_165 : decode cX6_read 165 = .ok (.iconst 1, 1) := by decide +kernel
theorem dX6_read_166 : decode cX6_read 166 = .ok (.iadd, 1) := by decide +kernel
theorem dX6_read_167 : decode cX6_read 167 = .ok (.iaload, 1) := by decide +kernel
theorem dX6_read_168 : decode cX6_read 168 = .ok (.aload_n 0, 1) := by decide +kernel
theorem dX6_read_169 : decode cX6_read 169 = .ok (.getfield 16, 3) := by decide +kernel
theorem dX6_read_172 : decode cX6_read 172 = .ok (.iconst 5, 1) := by decide +kernel
theorem dX6_read_173 : decode cX6_read 173 = .ok (.iload_n 2, 1) := by decide +kernel
theorem dX6_read_174 : decode cX6_read 174 = .ok (.imul, 1) := by decide +kernel
theorem dX6_read_175 : decode cX6_read 175 = .ok (.iconst 2, 1) := by decide +kernel
theorem dX6_read_176 : decode cX6_read 176 = .ok (.iadd, 1) := by decide +kernel
theorem dX6_read_177 : decode cX6_read 177 = .ok (.iaload, 1) := by decide +kernel
theorem dX6_read_178 : decode cX6_read 178 = .ok (.invokevirtual 74, 3) := by decide +kernel
theorem dX6_read_181 : decode cX6_read 181 = .ok (.iconst 0, 1) := by decide +kernel
theorem dX6_read_182 : decode cX6_read 182 = .ok (.istore_n 3, 1) := by decide +kernel
theorem dX6_read_183 : decode cX6_read 183 = .ok (.iload_n 3, 1) := by decide +kernel
theorem dX6_read_184 : decode cX6_read 184 = .ok (.bipush 12, 2) := by decide +kernel
theorem dX6_read_186 : decode cX6_read 186 = .ok (.if_icmp .ge 44, 3) := by decide +kernel
theorem dX6_read_189 : decode cX6_read 189 = .ok (.aload_n 0, 1) := by decide +kernel
theorem dX6_read_190 : decode cX6_read 190 = .ok (.iload_n 2, 1) := by decide +kernel
theorem dX6_read_191 : decode cX6_read 191 = .ok (.iload_n 3, 1) := by decide +kernel
theorem dX6_read_192 : decode cX6_read 192 = .ok (.aload_n 0, 1) := by decide +kernel
theorem dX6_read_193 : decode cX6_read 193 = .ok (.getfield 16, 3) := by decide +kernel
theorem dX6_read_196 : decode cX6_read 196 = .ok (.iconst 5, 1) := by decide +kernel
theorem dX6_read_197 : decode cX6_read 197 = .ok (.iload_n 2, 1) := by decide +kernel
theorem dX6_read_198 : decode cX6_read 198 = .ok (.imul, 1) := by decide +kernel
theorem dX6_read_199 : decode cX6_read 199 = .ok (.iconst 4, 1) := by decide +kernel
theorem dX6_read_200 : decode cX6_read 200 = .ok (.iadd, 1) := by decide +kernel
theorem dX6_read_201 : decode cX6_read 201 = .ok (.iaload, 1) := by decide +kernel
theorem dX6_read_202 : decode cX6_read 202 = .ok (.iload_n 3, 1) := by decide +kernel
theorem dX6_read_203 : decode cX6_read 203 = .ok (.ishr, 1) := by decide +kernel
theorem dX6_read_204 : decode cX6_read 204 = .ok (.iconst 1, 1) := by decide +kernel
theorem dX6_read_205 : decode cX6_read 205 = .ok (.iand, 1) := by decide +kernel
theorem dX6_read_206 : decode cX6_read 206 = .ok (.aload_n 0, 1) := by decide +kernel
theorem dX6_read_207 : decode cX6_read 207 = .ok (.getfield 16, 3) := by decide +kernel
theorem dX6_read_210 : decode cX6_read 210 = .ok (.iconst 5, 1) := by decide +kernel
theorem dX6_read_211 : decode cX6_read 211 = .ok (.iload_n 2, 1) := by decide +kernel
theorem dX6_read_212 : decode cX6_read 212 = .ok (.imul, 1) := by decide +kernel
theorem dX6_read_213 : decode cX6_read 213 = .ok (.iconst 3, 1) := by decide +kernel
theorem dX6_read_214 : decode cX6_read 214 = .ok (.iadd, 1) := by decide +kernel
theorem dX6_read_215 : decode cX6_read 215 = .ok (.iaload, 1) := by decide +kernel
theorem dX6_read_216 : decode cX6_read 216 = .ok (.iload_n 3, 1) := by decide +kernel
theorem dX6_read_217 : decode cX6_read 217 = .ok (.ishr, 1) := by decide +kernel
theorem dX6_read_218 : decode cX6_read 218 = .ok (.iconst 1, 1) := by decide +kernel
theorem dX6_read_219 : decode cX6_read 219 = .ok (.iand, 1) := by decide +kernel
theorem dX6_read_220 : decode cX6_read 220 = .ok (.isub, 1) := by decide +kernel
theorem dX6_read_221 : decode cX6_read 221 = .ok (.invokevirtual 148, 3) := by decide +kernel
theorem dX6_read_224 : decode cX6_read 224 = .ok (.iinc 3 1, 3) := by decide +kernel
theorem dX6_read_227 : decode cX6_read 227 = .ok (.goto (-44), 3) := by decide +kernel
theorem dX6_read_230 : decode cX6_read 230 = .ok (.iinc 2 1, 3) := by decide +kernel
theorem dX6_read_233 : decode cX6_read 233 = .ok (.goto (-89), 3) := by decide +kernel
theorem dX6_read_236 : decode cX6_read 236 = .ok (.iload_n 1, 1) := by decide +kernel
theorem dX6_read_237 : decode cX6_read 237 = .ok (.ireturn, 1) := by decide +kernel
theorem dX6_notes_0 : decode cX6_notes 0 = .ok (.aload_n 0, 1) := by decide +kernel
theorem dX6_notes_1 : decode cX6_notes 1 = .ok (.getfield 68, 3) := by decide +kernel
theorem dX6_notes_4 : decode cX6_notes 4 = .ok (.bipush 8, 2) := by decide +kernel
theorem dX6_notes_6 : decode cX6_notes 6 = .ok (.if_icmp .ne 40, 3) := by decide +kernel
theorem dX6_notes_9 : decode cX6_notes 9 = .ok (.bipush 81, 2) := by decide +kernel
theorem dX6_notes_11 : decode cX6_notes 11 = .ok (.istore_n 1, 1) := by decide +kernel
theorem dX6_notes_12 : decode cX6_notes 12 = .ok (.iload_n 1, 1) := by decide +kernel
theorem dX6_notes_13 : decode cX6_notes 13 = .ok (.sipush 648, 3) := by decide +kernel
theorem dX6_notes_16 : decode cX6_notes 16 = .ok (.if_icmp .ge 24, 3) := by decide +kernel
theorem dX6_notes_19 : decode cX6_notes 19 = .ok (.aload_n 0, 1) := by decide +kernel
theorem dX6_notes_20 : decode cX6_notes 20 = .ok (.getfield 19, 3) := by decide +kernel
theorem dX6_notes_23 : decode cX6_notes 23 = .ok (.iload_n 1, 1) := by decide +kernel
theorem dX6_notes_24 : decode cX6_notes 24 = .ok (.bipush 81, 2) := by decide +kernel
theorem dX6_notes_26 : decode cX6_notes 26 = .ok (.isub, 1) := by decide +kernel
theorem dX6_notes_27 : decode cX6_notes 27 = .ok (.aload_n 0, 1) := by decide +kernel
theorem dX6_notes_28 : decode cX6_notes 28 = .ok (.getfield 19, 3) := by decide +kernel
theorem dX6_notes_31 : decode cX6_notes 31 = .ok (.iload_n 1, 1) := by decide +kernel
theorem dX6_notes_32 : decode cX6_notes 32 = .ok (.iaload, 1) := by decide +kernel
theorem dX6_notes_33 : decode cX6_notes 33 = .ok (.iastore, 1) := by decide +kernel
theorem dX6_notes_34 : decode cX6_notes 34 = .ok (.iinc 1 1, 3) := by decide +kernel
theorem dX6_notes_37 : decode cX6_notes 37 = .ok (.goto (-25), 3) := by decide +kernel
theorem dX6_notes_40 : decode cX6_notes 40 = .ok (.aload_n 0, 1) := by decide +kernel
theorem dX6_notes_41 : decode cX6_notes 41 = .ok (.bipush 7, 2) := by decide +kernel
theorem dX6_notes_43 : decode cX6_notes 43 = .ok (.putfield 68, 3) := by decide +kernel
theorem dX6_notes_46 : decode cX6_notes 46 = .ok (.bipush 81, 2) := by decide +kernel
theorem dX6_notes_48 : decode cX6_notes 48 = .ok (.aload_n 0, 1) := by decide +kernel
theorem dX6_notes_49 : decode cX6_notes 49 = .ok (.getfield 68, 3) := by decide +kernel
theorem dX6_notes_52 : decode cX6_notes 52 = .ok (.imul, 1) := by decide +kernel
theorem dX6_notes_53 : decode cX6_notes 53 = .ok (.istore_n 1, 1) := by decide +kernel
theorem dX6_notes_54 : decode cX6_notes 54 = .ok (.iconst 0, 1) := by decide +kernel
theorem dX6_notes_55 : decode cX6_notes 55 = .ok (.istore_n 2, 1) := by decide +kernel
theorem dX6_notes_56 : decode cX6_notes 56 = .ok (.iload_n 2, 1) := by decide +kernel
theorem dX6_notes_57 : decode cX6_notes 57 = .ok (.iconst 3, 1) := by decide +kernel
theorem dX6_notes_58 : decode cX6_notes 58 = .ok (.if_icmp .ge 25, 3) := by decide +kernel
theorem dX6_notes_61 : decode cX6_notes 61 = .ok (.aload_n 0, 1) := by decide +kernel
theorem dX6_notes_62 : decode cX6_notes 62 = .ok (.getfield 19, 3) := by decide +kernel
theorem dX6_notes_65 : decode cX6_notes 65 = .ok (.iload_n 1, 1) := by decide +kernel
theorem dX6_notes_66 : decode cX6_notes 66 = .ok (.iload_n 2, 1) := by decide +kernel
theorem dX6_notes_67 : decode cX6_notes 67 = .ok (.iadd, 1) := by decide +kernel
theorem dX6_notes_68 : decode cX6_notes 68 = .ok (.aload_n 0, 1) := by decide +kernel
theorem dX6_notes_69 : decode cX6_notes 69 = .ok (.getfield 7, 3) := by decide +kernel
theorem dX6_notes_72 : decode cX6_notes 72 = .ok (.iconst 2, 1) := by decide +kernel
theorem dX6_notes_73 : decode cX6_notes 73 = .ok (.iload_n 2, 1) := by decide +kernel
theorem dX6_notes_74 : decode cX6_notes 74 = .ok (.iadd, 1) := by decide +kernel
theorem dX6_notes_75 : decode cX6_notes 75 = .ok (.iaload, 1) := by decide +kernel
theorem dX6_notes_76 : decode cX6_notes 76 = .ok (.iastore, 1) := by decide +kernel
theorem dX6_notes_77 : decode cX6_notes 77 = .ok (.iinc 2 1, 3) := by decide +kernel
theorem dX6_notes_80 : decode cX6_notes 80 = .ok (.goto (-24), 3) := by decide +kernel
theorem dX6_notes_83 : decode cX6_notes 83 = .ok (.iconst 0, 1) := by decide +kernel
theorem dX6_notes_84 : decode cX6_notes 84 = .ok (.istore_n 2, 1) := by decide +kernel
theorem dX6_notes_85 : decode cX6_notes 85 = .ok (.iload_n 2, 1) := by decide +kernel
theorem dX6_notes_86 : decode cX6_notes 86 = .ok (.bipush 6, 2) := by decide +kernel
theorem dX6_notes_88 : decode cX6_notes 88 = .ok (.if_icmp .ge 25, 3) := by decide +kernel
theorem dX6_notes_91 : decode cX6_notes 91 = .ok (.aload_n 0, 1) := by decide +kernel
theorem dX6_notes_92 : decode cX6_notes 92 = .ok (.getfield 19, 3) := by decide +kernel
theorem dX6_notes_95 : decode cX6_notes 95 = .ok (.iload_n 1, 1) := by decide +kernel
theorem dX6_notes_96 : decode cX6_notes 96 = .ok (.iconst 3, 1) := by decide +kernel
theorem dX6_notes_97 : decode cX6_notes 97 = .ok (.iadd, 1) := by decide +kernel
theorem dX6_notes_98 : decode cX6_notes 98 = .ok (.iload_n 2, 1) := by decide +kernel
theorem dX6_notes_99 : decode cX6_notes 99 = .ok (.iadd, 1) := by decide +kernel
theorem dX6_notes_100 : decode cX6_notes 100 = .ok (.aload_n 0, 1) := by decide +kernel
theorem dX6_notes_101 : decode cX6_notes 101 = .ok (.iload_n 2, 1) := by decide +kernel
theorem dX6_notes_102 : decode cX6_notes 102 = .ok (.iconst 2, 1) := by decide +kernel
theorem dX6_notes_103 : decode cX6_notes 103 = .ok (.invokevirtual 55, 3) := by decide +kernel
theorem dX6_notes_106 : decode cX6_notes 106 = .ok (.iastore, 1) := by decide +kernel
theorem dX6_notes_107 : decode cX6_notes 107 = .ok (.iinc 2 1, 3) := by decide +kernel
theorem dX6_notes_110 : decode cX6_notes 110 = .ok (.goto (-25), 3) := by decide +kernel
theorem dX6_notes_113 : decode cX6_notes 113 = .ok (.iconst 0, 1) := by decide +kernel
theorem dX6_notes_114 : decode cX6_notes 114 = .ok (.istore_n 2, 1) := by decide +kernel
theorem dX6_notes_115 : decode cX6_notes 115 = .ok (.iload_n 2, 1) := by decide +kernel
theorem dX6_notes_116 : decode cX6_notes 116 = .ok (.bipush 72, 2) := by decide +kernel
theorem dX6_notes_118 : decode cX6_notes 118 = .ok (.if_icmp .ge 29, 3) := by decide +kernel
theorem dX6_notes_121 : decode cX6_notes 121 = .ok (.aload_n 0, 1) := by decide +kernel
theorem dX6_notes_122 : decode cX6_notes 122 = .ok (.getfield 19, 3) := by decide +kernel
theorem dX6_notes_125 : decode cX6_notes 125 = .ok (.iload_n 1, 1) := by decide +kernel
theorem dX6_notes_126 : decode cX6_notes 126 = .ok (.bipush 9, 2) := by decide +kernel
theorem dX6_notes_128 : decode cX6_notes 128 = .ok (.iadd, 1) := by decide +kernel
theorem dX6_notes_129 : decode cX6_notes 129 = .ok (.iload_n 2, 1) := by decide +kernel
theorem dX6_notes_130 : decode cX6_notes 130 = .ok (.iadd, 1) := by decide +kernel
theorem dX6_notes_131 : decode cX6_notes 131 = .ok (.aload_n 0, 1) := by decide +kernel
theorem dX6_notes_132 : decode cX6_notes 132 = .ok (.getfield 7, 3) := by decide +kernel
theorem dX6_notes_135 : decode cX6_notes 135 = .ok (.bipush 23, 2) := by decide +kernel
theorem dX6_notes_137 : decode cX6_notes 137 = .ok (.iload_n 2, 1) := by decide +kernel
theorem dX6_notes_138 : decode cX6_notes 138 = .ok (.iadd, 1) := by decide +kernel
theorem dX6_notes_139 : decode cX6_notes 139 = .ok (.iaload, 1) := by decide +kernel
theorem dX6_notes_140 : decode cX6_notes 140 = .ok (.iastore, 1) := by decide +kernel
theorem dX6_notes_141 : decode cX6_notes 141 = .ok (.iinc 2 1, 3) := by decide +kernel
theorem dX6_notes_144 : decode cX6_notes 144 = .ok (.goto (-29), 3) := by decide +kernel
theorem dX6_notes_147 : decode cX6_notes 147 = .ok (.aload_n 0, 1) := by decide +kernel
theorem dX6_notes_148 : decode cX6_notes 148 = .ok (.dup, 1) := by decide +kernel
theorem dX6_notes_149 : decode cX6_notes 149 = .ok (.getfield 68, 3) := by decide +kernel
theorem dX6_notes_152 : decode cX6_notes 152 = .ok (.iconst 1, 1) := by decide +kernel
theorem dX6_notes_153 : decode cX6_notes 153 = .ok (.iadd, 1) := by decide +kernel
theorem dX6_notes_154 : decode cX6_notes 154 = .ok (.putfield 68, 3) := by decide +kernel
theorem dX6_notes_157 : decode cX6_notes 157 = .ok (.return_, 1) := by decide +kernel
theorem dX6_maySell_0 : decode cX6_maySell 0 = .ok (.aload_n 0, 1) := by decide +kernel
theorem dX6_maySell_1 : decode cX6_maySell 1 = .ok (.iload_n 1, 1) := by decide +kernel
theorem dX6_maySell_2 : decode cX6_maySell 2 = .ok (.iload_n 2, 1) := by decide +kernel
theorem dX6_maySell_3 : decode cX6_maySell 3 = .ok (.invokevirtual 51, 3) := by decide +kernel
theorem dX6_maySell_6 : decode cX6_maySell 6 = .ok (.ifCond .eq 34, 3) := by decide +kernel
theorem dX6_maySell_9 : decode cX6_maySell 9 = .ok (.aload_n 0, 1) := by decide +kernel
theorem dX6_maySell_10 : decode cX6_maySell 10 = .ok (.iload_n 1, 1) := by decide +kernel
theorem dX6_maySell_11 : decode cX6_maySell 11 = .ok (.invokevirtual 86, 3) := by decide +kernel
theorem dX6_maySell_14 : decode cX6_maySell 14 = .ok (.invokestatic 151, 3) := by decide +kernel
theorem dX6_maySell_17 : decode cX6_maySell 17 = .ok (.aload_n 0, 1) := by decide +kernel
theorem dX6_maySell_18 : decode cX6_maySell 18 = .ok (.getfield 7, 3) := by decide +kernel
theorem dX6_maySell_21 : decode cX6_maySell 21 = .ok (.iconst 1, 1) := by decide +kernel
theorem dX6_maySell_22 : decode cX6_maySell 22 = .ok (.iaload, 1) := by decide +kernel
theorem dX6_maySell_23 : decode cX6_maySell 23 = .ok (.if_icmp .gt 13, 3) := by decide +kernel
theorem dX6_maySell_26 : decode cX6_maySell 26 = .ok (.aload_n 0, 1) := by decide +kernel
theorem dX6_maySell_27 : decode cX6_maySell 27 = .ok (.iload_n 1, 1) := by decide +kernel
theorem dX6_maySell_28 : decode cX6_maySell 28 = .ok (.iload_n 2, 1) := by decide +kernel
theorem dX6_maySell_29 : decode cX6_maySell 29 = .ok (.invokevirtual 47, 3) := by decide +kernel
theorem dX6_maySell_32 : decode cX6_maySell 32 = .ok (.iconst 1, 1) := by decide +kernel
theorem dX6_maySell_33 : decode cX6_maySell 33 = .ok (.if_icmp .le 7, 3) := by decide +kernel
theorem dX6_maySell_36 : decode cX6_maySell 36 = .ok (.iconst 1, 1) := by decide +kernel
theorem dX6_maySell_37 : decode cX6_maySell 37 = .ok (.goto 4, 3) := by decide +kernel
theorem dX6_maySell_40 : decode cX6_maySell 40 = .ok (.iconst 0, 1) := by decide +kernel
theorem dX6_maySell_41 : decode cX6_maySell 41 = .ok (.ireturn, 1) := by decide +kernel
theorem dX6_goes_0 : decode cX6_goes 0 = .ok (.aload_n 0, 1) := by decide +kernel
theorem dX6_goes_1 : decode cX6_goes 1 = .ok (.iload_n 1, 1) := by decide +kernel
theorem dX6_goes_2 : decode cX6_goes 2 = .ok (.iload_n 3, 1) := by decide +kernel
theorem dX6_goes_3 : decode cX6_goes 3 = .ok (.iconst (-1), 1) := by decide +kernel
theorem dX6_goes_4 : decode cX6_goes 4 = .ok (.invokevirtual 148, 3) := by decide +kernel
theorem dX6_goes_7 : decode cX6_goes 7 = .ok (.aload_n 0, 1) := by decide +kernel
theorem dX6_goes_8 : decode cX6_goes 8 = .ok (.iload_n 2, 1) := by decide +kernel
theorem dX6_goes_9 : decode cX6_goes 9 = .ok (.iload_n 3, 1) := by decide +kernel
theorem dX6_goes_10 : decode cX6_goes 10 = .ok (.iconst 1, 1) := by decide +kernel
theorem dX6_goes_11 : decode cX6_goes 11 = .ok (.invokevirtual 148, 3) := by decide +kernel
theorem dX6_goes_14 : decode cX6_goes 14 = .ok (.return_, 1) := by decide +kernel
theorem dX6_areTwo_0 : decode cX6_areTwo 0 = .ok (.aload_n 0, 1) := by decide +kernel
theorem dX6_areTwo_1 : decode cX6_areTwo 1 = .ok (.iload_n 1, 1) := by decide +kernel
theorem dX6_areTwo_2 : decode cX6_areTwo 2 = .ok (.invokevirtual 78, 3) := by decide +kernel
theorem dX6_areTwo_5 : decode cX6_areTwo 5 = .ok (.ifCond .eq 20, 3) := by decide +kernel
theorem dX6_areTwo_8 : decode cX6_areTwo 8 = .ok (.aload_n 0, 1) := by decide +kernel
theorem dX6_areTwo_9 : decode cX6_areTwo 9 = .ok (.iload_n 2, 1) := by decide +kernel
theorem dX6_areTwo_10 : decode cX6_areTwo 10 = .ok (.invokevirtual 78, 3) := by decide +kernel
theorem dX6_areTwo_13 : decode cX6_areTwo 13 = .ok (.ifCond .eq 12, 3) := by decide +kernel
theorem dX6_areTwo_16 : decode cX6_areTwo 16 = .ok (.iload_n 1, 1) := by decide +kernel
theorem dX6_areTwo_17 : decode cX6_areTwo 17 = .ok (.iload_n 2, 1) := by decide +kernel
theorem dX6_areTwo_18 : decode cX6_areTwo 18 = .ok (.if_icmp .eq 7, 3) := by decide +kernel
theorem dX6_areTwo_21 : decode cX6_areTwo 21 = .ok (.iconst 1, 1) := by decide +kernel
theorem dX6_areTwo_22 : decode cX6_areTwo 22 = .ok (.goto 4, 3) := by decide +kernel
theorem dX6_areTwo_25 : decode cX6_areTwo 25 = .ok (.iconst 0, 1) := by decide +kernel
theorem dX6_areTwo_26 : decode cX6_areTwo 26 = .ok (.ireturn, 1) := by decide +kernel
theorem dX6_sell_0 : decode cX6_sell 0 = .ok (.aload_n 0, 1) := by decide +kernel
theorem dX6_sell_1 : decode cX6_sell 1 = .ok (.iload_n 1, 1) := by decide +kernel
theorem dX6_sell_2 : decode cX6_sell 2 = .ok (.iload_n 2, 1) := by decide +kernel
theorem dX6_sell_3 : decode cX6_sell 3 = .ok (.invokevirtual 154, 3) := by decide +kernel
theorem dX6_sell_6 : decode cX6_sell 6 = .ok (.ifCond .eq 23, 3) := by decide +kernel
theorem dX6_sell_9 : decode cX6_sell 9 = .ok (.iload_n 3, 1) := by decide +kernel
theorem dX6_sell_10 : decode cX6_sell 10 = .ok (.invokestatic 92, 3) := by decide +kernel
theorem dX6_sell_13 : decode cX6_sell 13 = .ok (.ifCond .eq 16, 3) := by decide +kernel
theorem dX6_sell_16 : decode cX6_sell 16 = .ok (.iload 4, 2) := by decide +kernel
theorem dX6_sell_18 : decode cX6_sell 18 = .ok (.i2l, 1) := by decide +kernel
theorem dX6_sell_19 : decode cX6_sell 19 = .ok (.lconst 0, 1) := by decide +kernel
theorem dX6_sell_20 : decode cX6_sell 20 = .ok (.ldc2_w 157, 3) := by decide +kernel
theorem dX6_sell_23 : decode cX6_sell 23 = .ok (.invokestatic 41, 3) := by decide +kernel
theorem dX6_sell_26 : decode cX6_sell 26 = .ok (.ifCond .ne 5, 3) := by decide +kernel
theorem dX6_sell_29 : decode cX6_sell 29 = .ok (.iconst (-1), 1) := by decide +kernel
theorem dX6_sell_30 : decode cX6_sell 30 = .ok (.ireturn, 1) := by decide +kernel
theorem dX6_sell_31 : decode cX6_sell 31 = .ok (.aload_n 0, 1) := by decide +kernel
theorem dX6_sell_32 : decode cX6_sell 32 = .ok (.iload_n 1, 1) := by decide +kernel
theorem dX6_sell_33 : decode cX6_sell 33 = .ok (.iload_n 3, 1) := by decide +kernel
theorem dX6_sell_34 : decode cX6_sell 34 = .ok (.invokevirtual 159, 3) := by decide +kernel
theorem dX6_sell_37 : decode cX6_sell 37 = .ok (.ifCond .eq 14, 3) := by decide +kernel
theorem dX6_sell_40 : decode cX6_sell 40 = .ok (.aload_n 0, 1) := by decide +kernel
theorem dX6_sell_41 : decode cX6_sell 41 = .ok (.iload_n 2, 1) := by decide +kernel
theorem dX6_sell_42 : decode cX6_sell 42 = .ok (.iconst 2, 1) := by decide +kernel
theorem dX6_sell_43 : decode cX6_sell 43 = .ok (.invokevirtual 55, 3) := by decide +kernel
theorem dX6_sell_46 : decode cX6_sell 46 = .ok (.iload 4, 2) := by decide +kernel
theorem dX6_sell_48 : decode cX6_sell 48 = .ok (.if_icmp .ge 6, 3) := by decide +kernel
theorem dX6_sell_51 : decode cX6_sell 51 = .ok (.bipush (-2), 2) := by decide +kernel
theorem dX6_sell_53 : decode cX6_sell 53 = .ok (.ireturn, 1) := by decide +kernel
theorem dX6_sell_54 : decode cX6_sell 54 = .ok (.aload_n 0, 1) := by decide +kernel
theorem dX6_sell_55 : decode cX6_sell 55 = .ok (.invokevirtual 162, 3) := by decide +kernel
theorem dX6_sell_58 : decode cX6_sell 58 = .ok (.aload_n 0, 1) := by decide +kernel
theorem dX6_sell_59 : decode cX6_sell 59 = .ok (.iload_n 1, 1) := by decide +kernel
theorem dX6_sell_60 : decode cX6_sell 60 = .ok (.iload_n 2, 1) := by decide +kernel
theorem dX6_sell_61 : decode cX6_sell 61 = .ok (.iload_n 3, 1) := by decide +kernel
theorem dX6_sell_62 : decode cX6_sell 62 = .ok (.invokevirtual 165, 3) := by decide +kernel
theorem dX6_sell_65 : decode cX6_sell 65 = .ok (.aload_n 0, 1) := by decide +kernel
theorem dX6_sell_66 : decode cX6_sell 66 = .ok (.iload_n 2, 1) := by decide +kernel
theorem dX6_sell_67 : decode cX6_sell 67 = .ok (.iload 4, 2) := by decide +kernel
theorem dX6_sell_69 : decode cX6_sell 69 = .ok (.invokevirtual 168, 3) := by decide +kernel
theorem dX6_sell_72 : decode cX6_sell 72 = .ok (.aload_n 0, 1) := by decide +kernel
theorem dX6_sell_73 : decode cX6_sell 73 = .ok (.iload_n 1, 1) := by decide +kernel
theorem dX6_sell_74 : decode cX6_sell 74 = .ok (.iload 4, 2) := by decide +kernel
theorem dX6_sell_76 : decode cX6_sell 76 = .ok (.ineg, 1) := by decide +kernel
theorem dX6_sell_77 : decode cX6_sell 77 = .ok (.invokevirtual 168, 3) := by decide +kernel
theorem dX6_sell_80 : decode cX6_sell 80 = .ok (.aload_n 0, 1) := by decide +kernel
theorem dX6_sell_81 : decode cX6_sell 81 = .ok (.iload_n 1, 1) := by decide +kernel
theorem dX6_sell_82 : decode cX6_sell 82 = .ok (.iconst 2, 1) := by decide +kernel
theorem dX6_sell_83 : decode cX6_sell 83 = .ok (.invokevirtual 55, 3) := by decide +kernel
theorem dX6_sell_86 : decode cX6_sell 86 = .ok (.ireturn, 1) := by decide +kernel
theorem dX6_seize_0 : decode cX6_seize 0 = .ok (.aload_n 0, 1) := by decide +kernel
theorem dX6_seize_1 : decode cX6_seize 1 = .ok (.iload_n 1, 1) := by decide +kernel
theorem dX6_seize_2 : decode cX6_seize 2 = .ok (.iload_n 2, 1) := by decide +kernel
theorem dX6_seize_3 : decode cX6_seize 3 = .ok (.invokevirtual 154, 3) := by decide +kernel
theorem dX6_seize_6 : decode cX6_seize 6 = .ok (.ifCond .ne 5, 3) := by decide +kernel
theorem dX6_seize_9 : decode cX6_seize 9 = .ok (.iconst (-1), 1) := by decide +kernel
theorem dX6_seize_10 : decode cX6_seize 10 = .ok (.ireturn, 1) := by decide +kernel
theorem dX6_seize_11 : decode cX6_seize 11 = .ok (.bipush (-4), 2) := by decide +kernel
theorem dX6_seize_13 : decode cX6_seize 13 = .ok (.istore_n 3, 1) := by decide +kernel
theorem dX6_seize_14 : decode cX6_seize 14 = .ok (.iconst 0, 1) := by decide +kernel
theorem dX6_seize_15 : decode cX6_seize 15 = .ok (.istore 4, 2) := by decide +kernel
theorem dX6_seize_17 : decode cX6_seize 17 = .ok (.iload 4, 2) := by decide +kernel
theorem dX6_seize_19 : decode cX6_seize 19 = .ok (.bipush 12, 2) := by decide +kernel
theorem dX6_seize_21 : decode cX6_seize 21 = .ok (.if_icmp .ge 48, 3) := by decide +kernel
theorem dX6_seize_24 : decode cX6_seize 24 = .ok (.aload_n 0, 1) := by decide +kernel
theorem dX6_seize_25 : decode cX6_seize 25 = .ok (.iload_n 1, 1) := by decide +kernel
theorem dX6_seize_26 : decode cX6_seize 26 = .ok (.iload 4, 2) := by decide +kernel
theorem dX6_seize_28 : decode cX6_seize 28 = .ok (.invokevirtual 51, 3) := by decide +kernel
theorem dX6_seize_31 : decode cX6_seize 31 = .ok (.ifCond .eq 30, 3) := by decide +kernel
theorem dX6_seize_34 : decode cX6_seize 34 = .ok (.iload_n 3, 1) := by decide +kernel
theorem dX6_seize_35 : decode cX6_seize 35 = .ok (.bipush (-4), 2) := by decide +kernel
theorem dX6_seize_37 : decode cX6_seize 37 = .ok (.if_icmp .eq 19, 3) := by decide +kernel
theorem dX6_seize_40 : decode cX6_seize 40 = .ok (.aload_n 0, 1) := by decide +kernel
theorem dX6_seize_41 : decode cX6_seize 41 = .ok (.iload_n 1, 1) := by decide +kernel
theorem dX6_seize_42 : decode cX6_seize 42 = .ok (.iload 4, 2) := by decide +kernel
theorem dX6_seize_44 : decode cX6_seize 44 = .ok (.invokevirtual 61, 3) := by decide +kernel
theorem dX6_seize_47 : decode cX6_seize 47 = .ok (.aload_n 0, 1) := by decide +kernel
theorem dX6_seize_48 : decode cX6_seize 48 = .ok (.iload_n 1, 1) := by decide +kernel
theorem dX6_seize_49 : decode cX6_seize 49 = .ok (.iload_n 3, 1) := by decide +kernel
theorem dX6_seize_50 : decode cX6_seize 50 = .ok (.invokevirtual 61, 3) := by decide +kernel
theorem dX6_seize_53 : decode cX6_seize 53 = .ok (.if_icmp .le 8, 3) := by decide +kernel
theorem dX6_seize_56 : decode cX6_seize 56 = .ok (.iload 4, 2) := by decide +kernel
theorem dX6_seize_58 : decode cX6_seize 58 = .ok (.goto 4, 3) := by decide +kernel
theorem dX6_seize_61 : decode cX6_seize 61 = .ok (.iload_n 3, 1) := by decide +kernel
theorem dX6_seize_62 : decode cX6_seize 62 = .ok (.istore_n 3, 1) := by decide +kernel
theorem dX6_seize_63 : decode cX6_seize 63 = .ok (.iinc 4 1, 3) := by decide +kernel
theorem dX6_seize_66 : decode cX6_seize 66 = .ok (.goto (-49), 3) := by decide +kernel
theorem dX6_seize_69 : decode cX6_seize 69 = .ok (.iload_n 3, 1) := by decide +kernel
theorem dX6_seize_70 : decode cX6_seize 70 = .ok (.bipush (-4), 2) := by decide +kernel
theorem dX6_seize_72 : decode cX6_seize 72 = .ok (.if_icmp .ne 6, 3) := by decide +kernel
theorem dX6_seize_75 : decode cX6_seize 75 = .ok (.bipush (-2), 2) := by decide +kernel
theorem dX6_seize_77 : decode cX6_seize 77 = .ok (.ireturn, 1) := by decide +kernel
theorem dX6_seize_78 : decode cX6_seize 78 = .ok (.aload_n 0, 1) := by decide +kernel
theorem dX6_seize_79 : decode cX6_seize 79 = .ok (.invokevirtual 162, 3) := by decide +kernel
theorem dX6_seize_82 : decode cX6_seize 82 = .ok (.aload_n 0, 1) := by decide +kernel
theorem dX6_seize_83 : decode cX6_seize 83 = .ok (.iload_n 1, 1) := by decide +kernel
theorem dX6_seize_84 : decode cX6_seize 84 = .ok (.iload_n 2, 1) := by decide +kernel
theorem dX6_seize_85 : decode cX6_seize 85 = .ok (.iload_n 3, 1) := by decide +kernel
theorem dX6_seize_86 : decode cX6_seize 86 = .ok (.invokevirtual 165, 3) := by decide +kernel
theorem dX6_seize_89 : decode cX6_seize 89 = .ok (.iload_n 3, 1) := by decide +kernel
theorem dX6_seize_90 : decode cX6_seize 90 = .ok (.ireturn, 1) := by decide +kernel
theorem dX6_give_0 : decode cX6_give 0 = .ok (.aload_n 0, 1) := by decide +kernel
theorem dX6_give_1 : decode cX6_give 1 = .ok (.iload_n 1, 1) := by decide +kernel
theorem dX6_give_2 : decode cX6_give 2 = .ok (.iload_n 2, 1) := by decide +kernel
theorem dX6_give_3 : decode cX6_give 3 = .ok (.invokevirtual 154, 3) := by decide +kernel
theorem dX6_give_6 : decode cX6_give 6 = .ok (.ifCond .eq 15, 3) := by decide +kernel
theorem dX6_give_9 : decode cX6_give 9 = .ok (.iload_n 3, 1) := by decide +kernel
theorem dX6_give_10 : decode cX6_give 10 = .ok (.i2l, 1) := by decide +kernel
theorem dX6_give_11 : decode cX6_give 11 = .ok (.lconst 1, 1) := by decide +kernel
theorem dX6_give_12 : decode cX6_give 12 = .ok (.ldc2_w 157, 3) := by decide +kernel
theorem dX6_give_15 : decode cX6_give 15 = .ok (.invokestatic 41, 3) := by decide +kernel
theorem dX6_give_18 : decode cX6_give 18 = .ok (.ifCond .ne 5, 3) := by decide +kernel
theorem dX6_give_21 : decode cX6_give 21 = .ok (.iconst (-1), 1) := by decide +kernel
theorem dX6_give_22 : decode cX6_give 22 = .ok (.ireturn, 1) := by decide +kernel
theorem dX6_give_23 : decode cX6_give 23 = .ok (.aload_n 0, 1) := by decide +kernel
theorem dX6_give_24 : decode cX6_give 24 = .ok (.iload_n 1, 1) := by decide +kernel
theorem dX6_give_25 : decode cX6_give 25 = .ok (.iconst 2, 1) := by decide +kernel
theorem dX6_give_26 : decode cX6_give 26 = .ok (.invokevirtual 55, 3) := by decide +kernel
theorem dX6_give_29 : decode cX6_give 29 = .ok (.iload_n 3, 1) := by decide +kernel
theorem dX6_give_30 : decode cX6_give 30 = .ok (.if_icmp .ge 6, 3) := by decide +kernel
theorem dX6_give_33 : decode cX6_give 33 = .ok (.bipush (-2), 2) := by decide +kernel
theorem dX6_give_35 : decode cX6_give 35 = .ok (.ireturn, 1) := by decide +kernel
theorem dX6_give_36 : decode cX6_give 36 = .ok (.aload_n 0, 1) := by decide +kernel
theorem dX6_give_37 : decode cX6_give 37 = .ok (.invokevirtual 162, 3) := by decide +kernel
theorem dX6_give_40 : decode cX6_give 40 = .ok (.aload_n 0, 1) := by decide +kernel
theorem dX6_give_41 : decode cX6_give 41 = .ok (.iload_n 1, 1) := by decide +kernel
theorem dX6_give_42 : decode cX6_give 42 = .ok (.iload_n 3, 1) := by decide +kernel
theorem dX6_give_43 : decode cX6_give 43 = .ok (.invokevirtual 168, 3) := by decide +kernel
theorem dX6_give_46 : decode cX6_give 46 = .ok (.aload_n 0, 1) := by decide +kernel
theorem dX6_give_47 : decode cX6_give 47 = .ok (.iload_n 2, 1) := by decide +kernel
theorem dX6_give_48 : decode cX6_give 48 = .ok (.iload_n 3, 1) := by decide +kernel
theorem dX6_give_49 : decode cX6_give 49 = .ok (.ineg, 1) := by decide +kernel
theorem dX6_give_50 : decode cX6_give 50 = .ok (.invokevirtual 168, 3) := by decide +kernel
theorem dX6_give_53 : decode cX6_give 53 = .ok (.aload_n 0, 1) := by decide +kernel
theorem dX6_give_54 : decode cX6_give 54 = .ok (.iload_n 1, 1) := by decide +kernel
theorem dX6_give_55 : decode cX6_give 55 = .ok (.iconst 2, 1) := by decide +kernel
theorem dX6_give_56 : decode cX6_give 56 = .ok (.invokevirtual 55, 3) := by decide +kernel
theorem dX6_give_59 : decode cX6_give 59 = .ok (.ireturn, 1) := by decide +kernel
theorem dX6_make_0 : decode cX6_make 0 = .ok (.iload_n 1, 1) := by decide +kernel
theorem dX6_make_1 : decode cX6_make 1 = .ok (.i2l, 1) := by decide +kernel
theorem dX6_make_2 : decode cX6_make 2 = .ok (.lconst 0, 1) := by decide +kernel
theorem dX6_make_3 : decode cX6_make 3 = .ok (.ldc2_w 84, 3) := by decide +kernel
theorem dX6_make_6 : decode cX6_make 6 = .ok (.invokestatic 41, 3) := by decide +kernel
theorem dX6_make_9 : decode cX6_make 9 = .ok (.ifCond .eq 23, 3) := by decide +kernel
theorem dX6_make_12 : decode cX6_make 12 = .ok (.iload_n 2, 1) := by decide +kernel
theorem dX6_make_13 : decode cX6_make 13 = .ok (.i2l, 1) := by decide +kernel
theorem dX6_make_14 : decode cX6_make 14 = .ok (.lconst 0, 1) := by decide +kernel
theorem dX6_make_15 : decode cX6_make 15 = .ok (.lconst 1, 1) := by decide +kernel
theorem dX6_make_16 : decode cX6_make 16 = .ok (.invokestatic 41, 3) := by decide +kernel
theorem dX6_make_19 : decode cX6_make 19 = .ok (.ifCond .eq 13, 3) := by decide +kernel
theorem dX6_make_22 : decode cX6_make 22 = .ok (.iload_n 3, 1) := by decide +kernel
theorem dX6_make_23 : decode cX6_make 23 = .ok (.i2l, 1) := by decide +kernel
theorem dX6_make_24 : decode cX6_make 24 = .ok (.lconst 0, 1) := by decide +kernel
theorem dX6_make_25 : decode cX6_make 25 = .ok (.lconst 1, 1) := by decide +kernel
theorem dX6_make_26 : decode cX6_make 26 = .ok (.invokestatic 41, 3) := by decide +kernel
theorem dX6_make_29 : decode cX6_make 29 = .ok (.ifCond .ne 5, 3) := by decide +kernel
theorem dX6_make_32 : decode cX6_make 32 = .ok (.iconst (-1), 1) := by decide +kernel
theorem dX6_make_33 : decode cX6_make 33 = .ok (.ireturn, 1) := by decide +kernel
theorem dX6_make_34 : decode cX6_make 34 = .ok (.aload_n 0, 1) := by decide +kernel
theorem dX6_make_35 : decode cX6_make 35 = .ok (.getfield 7, 3) := by decide +kernel
theorem dX6_make_38 : decode cX6_make 38 = .ok (.iconst 2, 1) := by decide +kernel
theorem dX6_make_39 : decode cX6_make 39 = .ok (.iload_n 2, 1) := by decide +kernel
theorem dX6_make_40 : decode cX6_make 40 = .ok (.iadd, 1) := by decide +kernel
theorem dX6_make_41 : decode cX6_make 41 = .ok (.iaload, 1) := by decide +kernel
theorem dX6_make_42 : decode cX6_make 42 = .ok (.iload_n 1, 1) := by decide +kernel
theorem dX6_make_43 : decode cX6_make 43 = .ok (.ishr, 1) := by decide +kernel
theorem dX6_make_44 : decode cX6_make 44 = .ok (.iconst 1, 1) := by decide +kernel
theorem dX6_make_45 : decode cX6_make 45 = .ok (.iand, 1) := by decide +kernel
theorem dX6_make_46 : decode cX6_make 46 = .ok (.iload_n 3, 1) := by decide +kernel
theorem dX6_make_47 : decode cX6_make 47 = .ok (.if_icmp .ne 6, 3) := by decide +kernel
theorem dX6_make_50 : decode cX6_make 50 = .ok (.bipush (-2), 2) := by decide +kernel
theorem dX6_make_52 : decode cX6_make 52 = .ok (.ireturn, 1) := by decide +kernel
theorem dX6_make_53 : decode cX6_make 53 = .ok (.aload_n 0, 1) := by decide +kernel
theorem dX6_make_54 : decode cX6_make 54 = .ok (.invokevirtual 162, 3) := by decide +kernel
theorem dX6_make_57 : decode cX6_make 57 = .ok (.aload_n 0, 1) := by decide +kernel
theorem dX6_make_58 : decode cX6_make 58 = .ok (.getfield 7, 3) := by decide +kernel
theorem dX6_make_61 : decode cX6_make 61 = .ok (.iconst 2, 1) := by decide +kernel
theorem dX6_make_62 : decode cX6_make 62 = .ok (.iload_n 2, 1) := by decide +kernel
theorem dX6_make_63 : decode cX6_make 63 = .ok (.iadd, 1) := by decide +kernel
theorem dX6_make_64 : decode cX6_make 64 = .ok (.dup2, 1) := by decide +kernel
theorem dX6_make_65 : decode cX6_make 65 = .ok (.iaload, 1) := by decide +kernel
theorem dX6_make_66 : decode cX6_make 66 = .ok (.iconst 1, 1) := by decide +kernel
theorem dX6_make_67 : decode cX6_make 67 = .ok (.iload_n 1, 1) := by decide +kernel
theorem dX6_make_68 : decode cX6_make 68 = .ok (.ishl, 1) := by decide +kernel
theorem dX6_make_69 : decode cX6_make 69 = .ok (.ixor, 1) := by decide +kernel
theorem dX6_make_70 : decode cX6_make 70 = .ok (.iastore, 1) := by decide +kernel
theorem dX6_make_71 : decode cX6_make 71 = .ok (.aload_n 0, 1) := by decide +kernel
theorem dX6_make_72 : decode cX6_make 72 = .ok (.getfield 7, 3) := by decide +kernel
theorem dX6_make_75 : decode cX6_make 75 = .ok (.iconst 2, 1) := by decide +kernel
theorem dX6_make_76 : decode cX6_make 76 = .ok (.iload_n 2, 1) := by decide +kernel
theorem dX6_make_77 : decode cX6_make 77 = .ok (.iadd, 1) := by decide +kernel
theorem dX6_make_78 : decode cX6_make 78 = .ok (.iaload, 1) := by decide +kernel
theorem dX6_make_79 : decode cX6_make 79 = .ok (.ireturn, 1) := by decide +kernel
theorem dX6_middleOf_0 : decode cX6_middleOf 0 = .ok (.aload_n 0, 1) := by decide +kernel
theorem dX6_middleOf_1 : decode cX6_middleOf 1 = .ok (.iload_n 1, 1) := by decide +kernel
theorem dX6_middleOf_2 : decode cX6_middleOf 2 = .ok (.invokevirtual 64, 3) := by decide +kernel
theorem dX6_middleOf_5 : decode cX6_middleOf 5 = .ok (.istore 4, 2) := by decide +kernel
theorem dX6_middleOf_7 : decode cX6_middleOf 7 = .ok (.aload_n 0, 1) := by decide +kernel
theorem dX6_middleOf_8 : decode cX6_middleOf 8 = .ok (.iload_n 2, 1) := by decide +kernel
theorem dX6_middleOf_9 : decode cX6_middleOf 9 = .ok (.invokevirtual 64, 3) := by decide +kernel
theorem dX6_middleOf_12 : decode cX6_middleOf 12 = .ok (.istore 5, 2) := by decide +kernel
theorem dX6_middleOf_14 : decode cX6_middleOf 14 = .ok (.aload_n 0, 1) := by decide +kernel
theorem dX6_middleOf_15 : decode cX6_middleOf 15 = .ok (.iload_n 1, 1) := by decide +kernel
theorem dX6_middleOf_16 : decode cX6_middleOf 16 = .ok (.iload_n 2, 1) := by decide +kernel
theorem dX6_middleOf_17 : decode cX6_middleOf 17 = .ok (.iload_n 3, 1) := by decide +kernel
theorem dX6_middleOf_18 : decode cX6_middleOf 18 = .ok (.invokevirtual 165, 3) := by decide +kernel
theorem dX6_middleOf_21 : decode cX6_middleOf 21 = .ok (.iload 4, 2) := by decide +kernel
theorem dX6_middleOf_23 : decode cX6_middleOf 23 = .ok (.aload_n 0, 1) := by decide +kernel
theorem dX6_middleOf_24 : decode cX6_middleOf 24 = .ok (.iload_n 1, 1) := by decide +kernel
theorem dX6_middleOf_25 : decode cX6_middleOf 25 = .ok (.invokevirtual 64, 3) := by decide +kernel
theorem dX6_middleOf_28 : decode cX6_middleOf 28 = .ok (.isub, 1) := by decide +kernel
theorem dX6_middleOf_29 : decode cX6_middleOf 29 = .ok (.aload_n 0, 1) := by decide +kernel
theorem dX6_middleOf_30 : decode cX6_middleOf 30 = .ok (.iload_n 2, 1) := by decide +kernel
theorem dX6_middleOf_31 : decode cX6_middleOf 31 = .ok (.invokevirtual 64, 3) := by decide +kernel
theorem dX6_middleOf_34 : decode cX6_middleOf 34 = .ok (.iadd, 1) := by decide +kernel
theorem dX6_middleOf_35 : decode cX6_middleOf 35 = .ok (.iload 5, 2) := by decide +kernel
theorem dX6_middleOf_37 : decode cX6_middleOf 37 = .ok (.isub, 1) := by decide +kernel
theorem dX6_middleOf_38 : decode cX6_middleOf 38 = .ok (.iconst 2, 1) := by decide +kernel
theorem dX6_middleOf_39 : decode cX6_middleOf 39 = .ok (.idiv, 1) := by decide +kernel
theorem dX6_middleOf_40 : decode cX6_middleOf 40 = .ok (.istore 6, 2) := by decide +kernel
theorem dX6_middleOf_42 : decode cX6_middleOf 42 = .ok (.aload_n 0, 1) := by decide +kernel
theorem dX6_middleOf_43 : decode cX6_middleOf 43 = .ok (.iload_n 2, 1) := by decide +kernel
theorem dX6_middleOf_44 : decode cX6_middleOf 44 = .ok (.iload_n 1, 1) := by decide +kernel
theorem dX6_middleOf_45 : decode cX6_middleOf 45 = .ok (.iload_n 3, 1) := by decide +kernel
theorem dX6_middleOf_46 : decode cX6_middleOf 46 = .ok (.invokevirtual 165, 3) := by decide +kernel
theorem dX6_middleOf_49 : decode cX6_middleOf 49 = .ok (.iload 6, 2) := by decide +kernel
theorem dX6_middleOf_51 : decode cX6_middleOf 51 = .ok (.ifCond .ge 7, 3) := by decide +kernel
theorem dX6_middleOf_54 : decode cX6_middleOf 54 = .ok (.iconst 0, 1) := by decide +kernel
theorem dX6_middleOf_55 : decode cX6_middleOf 55 = .ok (.goto 5, 3) := by decide +kernel
theorem dX6_middleOf_58 : decode cX6_middleOf 58 = .ok (.iload 6, 2) := by decide +kernel
theorem dX6_middleOf_60 : decode cX6_middleOf 60 = .ok (.ireturn, 1) := by decide +kernel
theorem dX6_trades_0 : decode cX6_trades 0 = .ok (.iload_n 1, 1) := by decide +kernel
theorem dX6_trades_1 : decode cX6_trades 1 = .ok (.iload_n 2, 1) := by decide +kernel
theorem dX6_trades_2 : decode cX6_trades 2 = .ok (.if_icmp .eq 12, 3) := by decide +kernel
theorem dX6_trades_5 : decode cX6_trades 5 = .ok (.aload_n 0, 1) := by decide +kernel
theorem dX6_trades_6 : decode cX6_trades 6 = .ok (.iload_n 1, 1) := by decide +kernel
theorem dX6_trades_7 : decode cX6_trades 7 = .ok (.iload_n 3, 1) := by decide +kernel
theorem dX6_trades_8 : decode cX6_trades 8 = .ok (.invokevirtual 159, 3) := by decide +kernel
theorem dX6_trades_11 : decode cX6_trades 11 = .ok (.ifCond .ne 4, 3) := by decide +kernel
theorem dX6_trades_14 : decode cX6_trades 14 = .ok (.return_, 1) := by decide +kernel
theorem dX6_trades_15 : decode cX6_trades 15 = .ok (.aload_n 0, 1) := by decide +kernel
theorem dX6_trades_16 : decode cX6_trades 16 = .ok (.iload_n 1, 1) := by decide +kernel
theorem dX6_trades_17 : decode cX6_trades 17 = .ok (.iload_n 2, 1) := by decide +kernel
theorem dX6_trades_18 : decode cX6_trades 18 = .ok (.iload_n 3, 1) := by decide +kernel
theorem dX6_trades_19 : decode cX6_trades 19 = .ok (.invokevirtual 172, 3) := by decide +kernel
theorem dX6_trades_22 : decode cX6_trades 22 = .ok (.istore 4, 2) := by decide +kernel
theorem dX6_trades_24 : decode cX6_trades 24 = .ok (.aload_n 0, 1) := by decide +kernel
theorem dX6_trades_25 : decode cX6_trades 25 = .ok (.iload_n 2, 1) := by decide +kernel
theorem dX6_trades_26 : decode cX6_trades 26 = .ok (.iconst 2, 1) := by decide +kernel
theorem dX6_trades_27 : decode cX6_trades 27 = .ok (.invokevirtual 55, 3) := by decide +kernel
theorem dX6_trades_30 : decode cX6_trades 30 = .ok (.iload 4, 2) := by decide +kernel
theorem dX6_trades_32 : decode cX6_trades 32 = .ok (.if_icmp .lt 25, 3) := by decide +kernel
theorem dX6_trades_35 : decode cX6_trades 35 = .ok (.aload_n 0, 1) := by decide +kernel
theorem dX6_trades_36 : decode cX6_trades 36 = .ok (.iload_n 1, 1) := by decide +kernel
theorem dX6_trades_37 : decode cX6_trades 37 = .ok (.iload_n 2, 1) := by decide +kernel
theorem dX6_trades_38 : decode cX6_trades 38 = .ok (.iload_n 3, 1) := by decide +kernel
theorem dX6_trades_39 : decode cX6_trades 39 = .ok (.invokevirtual 165, 3) := by decide +kernel
theorem dX6_trades_42 : decode cX6_trades 42 = .ok (.aload_n 0, 1) := by decide +kernel
theorem dX6_trades_43 : decode cX6_trades 43 = .ok (.iload_n 2, 1) := by decide +kernel
theorem dX6_trades_44 : decode cX6_trades 44 = .ok (.iload 4, 2) := by decide +kernel
theorem dX6_trades_46 : decode cX6_trades 46 = .ok (.invokevirtual 168, 3) := by decide +kernel
theorem dX6_trades_49 : decode cX6_trades 49 = .ok (.aload_n 0, 1) := by decide +kernel
theorem dX6_trades_50 : decode cX6_trades 50 = .ok (.iload_n 1, 1) := by decide +kernel
theorem dX6_trades_51 : decode cX6_trades 51 = .ok (.iload 4, 2) := by decide +kernel
theorem dX6_trades_53 : decode cX6_trades 53 = .ok (.ineg, 1) := by decide +kernel
theorem dX6_trades_54 : decode cX6_trades 54 = .ok (.invokevirtual 168, 3) := by decide +kernel
theorem dX6_trades_57 : decode cX6_trades 57 = .ok (.return_, 1) := by decide +kernel
theorem dX6_drift_0 : decode cX6_drift 0 = .ok (.iload_n 1, 1) := by decide +kernel
theorem dX6_drift_1 : decode cX6_drift 1 = .ok (.i2l, 1) := by decide +kernel
theorem dX6_drift_2 : decode cX6_drift 2 = .ok (.lconst 1, 1) := by decide +kernel
theorem dX6_drift_3 : decode cX6_drift 3 = .ok (.ldc2_w 176, 3) := by decide +kernel
theorem dX6_drift_6 : decode cX6_drift 6 = .ok (.invokestatic 41, 3) := by decide +kernel
theorem dX6_drift_9 : decode cX6_drift 9 = .ok (.ifCond .ne 5, 3) := by decide +kernel
theorem dX6_drift_12 : decode cX6_drift 12 = .ok (.iconst (-1), 1) := by decide +kernel
theorem dX6_drift_13 : decode cX6_drift 13 = .ok (.ireturn, 1) := by decide +kernel
theorem dX6_drift_14 : decode cX6_drift 14 = .ok (.iconst 0, 1) := by decide +kernel
theorem dX6_drift_15 : decode cX6_drift 15 = .ok (.istore_n 2, 1) := by decide +kernel
theorem dX6_drift_16 : decode cX6_drift 16 = .ok (.iload_n 2, 1) := by decide +kernel
theorem dX6_drift_17 : decode cX6_drift 17 = .ok (.iload_n 1, 1) := by decide +kernel
theorem dX6_drift_18 : decode cX6_drift 18 = .ok (.if_icmp .ge 98, 3) := by decide +kernel
theorem dX6_drift_21 : decode cX6_drift 21 = .ok (.aload_n 0, 1) := by decide +kernel
theorem dX6_drift_22 : decode cX6_drift 22 = .ok (.invokevirtual 162, 3) := by decide +kernel
theorem dX6_drift_25 : decode cX6_drift 25 = .ok (.aload_n 0, 1) := by decide +kernel
theorem dX6_drift_26 : decode cX6_drift 26 = .ok (.getfield 7, 3) := by decide +kernel
theorem dX6_drift_29 : decode cX6_drift 29 = .ok (.iconst 4, 1) := by decide +kernel
theorem dX6_drift_30 : decode cX6_drift 30 = .ok (.aload_n 0, 1) := by decide +kernel
theorem dX6_drift_31 : decode cX6_drift 31 = .ok (.getfield 7, 3) := by decide +kernel
theorem dX6_drift_34 : decode cX6_drift 34 = .ok (.iconst 4, 1) := by decide +kernel
theorem dX6_drift_35 : decode cX6_drift 35 = .ok (.iaload, 1) := by decide +kernel
theorem dX6_drift_36 : decode cX6_drift 36 = .ok (.i2l, 1) := by decide +kernel
theorem dX6_drift_37 : decode cX6_drift 37 = .ok (.ldc2_w 178, 3) := by decide +kernel
theorem dX6_drift_40 : decode cX6_drift 40 = .ok (.lmul, 1) := by decide +kernel
theorem dX6_drift_41 : decode cX6_drift 41 = .ok (.ldc2_w 180, 3) := by decide +kernel
theorem dX6_drift_44 : decode cX6_drift 44 = .ok (.ladd, 1) := by decide +kernel
theorem dX6_drift_45 : decode cX6_drift 45 = .ok (.ldc2_w 182, 3) := by decide +kernel
theorem dX6_drift_48 : decode cX6_drift 48 = .ok (.land, 1) := by decide +kernel
theorem dX6_drift_49 : decode cX6_drift 49 = .ok (.l2i, 1) := by decide +kernel
theorem dX6_drift_50 : decode cX6_drift 50 = .ok (.iastore, 1) := by decide +kernel
theorem dX6_drift_51 : decode cX6_drift 51 = .ok (.aload_n 0, 1) := by decide +kernel
theorem dX6_drift_52 : decode cX6_drift 52 = .ok (.getfield 7, 3) := by decide +kernel
theorem dX6_drift_55 : decode cX6_drift 55 = .ok (.iconst 0, 1) := by decide +kernel
theorem dX6_drift_56 : decode cX6_drift 56 = .ok (.iaload, 1) := by decide +kernel
theorem dX6_drift_57 : decode cX6_drift 57 = .ok (.ifCond .le 53, 3) := by decide +kernel
theorem dX6_drift_60 : decode cX6_drift 60 = .ok (.aload_n 0, 1) := by decide +kernel
theorem dX6_drift_61 : decode cX6_drift 61 = .ok (.aload_n 0, 1) := by decide +kernel
theorem dX6_drift_62 : decode cX6_drift 62 = .ok (.getfield 7, 3) := by decide +kernel
theorem dX6_drift_65 : decode cX6_drift 65 = .ok (.iconst 4, 1) := by decide +kernel
theorem dX6_drift_66 : decode cX6_drift 66 = .ok (.iaload, 1) := by decide +kernel
theorem dX6_drift_67 : decode cX6_drift 67 = .ok (.ldc 184, 2) := by decide +kernel
theorem dX6_drift_69 : decode cX6_drift 69 = .ok (.idiv, 1) := by decide +kernel
theorem dX6_drift_70 : decode cX6_drift 70 = .ok (.aload_n 0, 1) := by decide +kernel
theorem dX6_drift_71 : decode cX6_drift 71 = .ok (.getfield 7, 3) := by decide +kernel
theorem dX6_drift_74 : decode cX6_drift 74 = .ok (.iconst 0, 1) := by decide +kernel
theorem dX6_drift_75 : decode cX6_drift 75 = .ok (.iaload, 1) := by decide +kernel
theorem dX6_drift_76 : decode cX6_drift 76 = .ok (.irem, 1) := by decide +kernel
theorem dX6_drift_77 : decode cX6_drift 77 = .ok (.aload_n 0, 1) := by decide +kernel
theorem dX6_drift_78 : decode cX6_drift 78 = .ok (.getfield 7, 3) := by decide +kernel
theorem dX6_drift_81 : decode cX6_drift 81 = .ok (.iconst 4, 1) := by decide +kernel
theorem dX6_drift_82 : decode cX6_drift 82 = .ok (.iaload, 1) := by decide +kernel
theorem dX6_drift_83 : decode cX6_drift 83 = .ok (.sipush 1024, 3) := by decide +kernel
theorem dX6_drift_86 : decode cX6_drift 86 = .ok (.idiv, 1) := by decide +kernel
theorem dX6_drift_87 : decode cX6_drift 87 = .ok (.aload_n 0, 1) := by decide +kernel
theorem dX6_drift_88 : decode cX6_drift 88 = .ok (.getfield 7, 3) := by decide +kernel
theorem dX6_drift_91 : decode cX6_drift 91 = .ok (.iconst 0, 1) := by decide +kernel
theorem dX6_drift_92 : decode cX6_drift 92 = .ok (.iaload, 1) := by decide +kernel
theorem dX6_drift_93 : decode cX6_drift 93 = .ok (.irem, 1) := by decide +kernel
theorem dX6_drift_94 : decode cX6_drift 94 = .ok (.aload_n 0, 1) := by decide +kernel
theorem dX6_drift_95 : decode cX6_drift 95 = .ok (.getfield 7, 3) := by decide +kernel
theorem dX6_drift_98 : decode cX6_drift 98 = .ok (.iconst 4, 1) := by decide +kernel
theorem dX6_drift_99 : decode cX6_drift 99 = .ok (.iaload, 1) := by decide +kernel
theorem dX6_drift_100 : decode cX6_drift 100 = .ok (.sipush 128, 3) := by decide +kernel
theorem dX6_drift_103 : decode cX6_drift 103 = .ok (.idiv, 1) := by decide +kernel
theorem dX6_drift_104 : decode cX6_drift 104 = .ok (.bipush 12, 2) := by decide +kernel
theorem dX6_drift_106 : decode cX6_drift 106 = .ok (.irem, 1) := by decide +kernel
theorem dX6_drift_107 : decode cX6_drift 107 = .ok (.invokevirtual 185, 3) := by decide +kernel
theorem dX6_drift_110 : decode cX6_drift 110 = .ok (.iinc 2 1, 3) := by decide +kernel
theorem dX6_drift_113 : decode cX6_drift 113 = .ok (.goto (-97), 3) := by decide +kernel
theorem dX6_drift_116 : decode cX6_drift 116 = .ok (.aload_n 0, 1) := by decide +kernel
theorem dX6_drift_117 : decode cX6_drift 117 = .ok (.invokevirtual 95, 3) := by decide +kernel
theorem dX6_drift_120 : decode cX6_drift 120 = .ok (.ireturn, 1) := by decide +kernel
theorem dX6_undo_0 : decode cX6_undo 0 = .ok (.aload_n 0, 1) := by decide +kernel
theorem dX6_undo_1 : decode cX6_undo 1 = .ok (.getfield 68, 3) := by decide +kernel
theorem dX6_undo_4 : decode cX6_undo 4 = .ok (.ifCond .ne 6, 3) := by decide +kernel
theorem dX6_undo_7 : decode cX6_undo 7 = .ok (.bipush (-4), 2) := by decide +kernel
theorem dX6_undo_9 : decode cX6_undo 9 = .ok (.ireturn, 1) := by decide +kernel
theorem dX6_undo_10 : decode cX6_undo 10 = .ok (.aload_n 0, 1) := by decide +kernel
theorem dX6_undo_11 : decode cX6_undo 11 = .ok (.dup, 1) := by decide +kernel
theorem dX6_undo_12 : decode cX6_undo 12 = .ok (.getfield 68, 3) := by decide +kernel
theorem dX6_undo_15 : decode cX6_undo 15 = .ok (.iconst 1, 1) := by decide +kernel
theorem dX6_undo_16 : decode cX6_undo 16 = .ok (.isub, 1) := by decide +kernel
theorem dX6_undo_17 : decode cX6_undo 17 = .ok (.putfield 68, 3) := by decide +kernel
theorem dX6_undo_20 : decode cX6_undo 20 = .ok (.bipush 81, 2) := by decide +kernel
theorem dX6_undo_22 : decode cX6_undo 22 = .ok (.aload_n 0, 1) := by decide +kernel
theorem dX6_undo_23 : decode cX6_undo 23 = .ok (.getfield 68, 3) := by decide +kernel
theorem dX6_undo_26 : decode cX6_undo 26 = .ok (.imul, 1) := by decide +kernel
theorem dX6_undo_27 : decode cX6_undo 27 = .ok (.istore_n 1, 1) := by decide +kernel
theorem dX6_undo_28 : decode cX6_undo 28 = .ok (.iconst 0, 1) := by decide +kernel
theorem dX6_undo_29 : decode cX6_undo 29 = .ok (.istore_n 2, 1) := by decide +kernel
theorem dX6_undo_30 : decode cX6_undo 30 = .ok (.iload_n 2, 1) := by decide +kernel
theorem dX6_undo_31 : decode cX6_undo 31 = .ok (.iconst 3, 1) := by decide +kernel
theorem dX6_undo_32 : decode cX6_undo 32 = .ok (.if_icmp .ge 25, 3) := by decide +kernel
theorem dX6_undo_35 : decode cX6_undo 35 = .ok (.aload_n 0, 1) := by decide +kernel
theorem dX6_undo_36 : decode cX6_undo 36 = .ok (.getfield 7, 3) := by decide +kernel
theorem dX6_undo_39 : decode cX6_undo 39 = .ok (.iconst 2, 1) := by decide +kernel
theorem dX6_undo_40 : decode cX6_undo 40 = .ok (.iload_n 2, 1) := by decide +kernel
theorem dX6_undo_41 : decode cX6_undo 41 = .ok (.iadd, 1) := by decide +kernel
theorem dX6_undo_42 : decode cX6_undo 42 = .ok (.aload_n 0, 1) := by decide +kernel
theorem dX6_undo_43 : decode cX6_undo 43 = .ok (.getfield 19, 3) := by decide +kernel
theorem dX6_undo_46 : decode cX6_undo 46 = .ok (.iload_n 1, 1) := by decide +kernel
theorem dX6_undo_47 : decode cX6_undo 47 = .ok (.iload_n 2, 1) := by decide +kernel
theorem dX6_undo_48 : decode cX6_undo 48 = .ok (.iadd, 1) := by decide +kernel
theorem dX6_undo_49 : decode cX6_undo 49 = .ok (.iaload, 1) := by decide +kernel
theorem dX6_undo_50 : decode cX6_undo 50 = .ok (.iastore, 1) := by decide +kernel
theorem dX6_undo_51 : decode cX6_undo 51 = .ok (.iinc 2 1, 3) := by decide +kernel
theorem dX6_undo_54 : decode cX6_undo 54 = .ok (.goto (-24), 3) := by decide +kernel
theorem dX6_undo_57 : decode cX6_undo 57 = .ok (.iconst 0, 1) := by decide +kernel
theorem dX6_undo_58 : decode cX6_undo 58 = .ok (.istore_n 2, 1) := by decide +kernel
theorem dX6_undo_59 : decode cX6_undo 59 = .ok (.iload_n 2, 1) := by decide +kernel
theorem dX6_undo_60 : decode cX6_undo 60 = .ok (.bipush 6, 2) := by decide +kernel
theorem dX6_undo_62 : decode cX6_undo 62 = .ok (.if_icmp .ge 31, 3) := by decide +kernel
theorem dX6_undo_65 : decode cX6_undo 65 = .ok (.aload_n 0, 1) := by decide +kernel
theorem dX6_undo_66 : decode cX6_undo 66 = .ok (.getfield 7, 3) := by decide +kernel
theorem dX6_undo_69 : decode cX6_undo 69 = .ok (.iconst 5, 1) := by decide +kernel
theorem dX6_undo_70 : decode cX6_undo 70 = .ok (.iconst 3, 1) := by decide +kernel
theorem dX6_undo_71 : decode cX6_undo 71 = .ok (.iload_n 2, 1) := by decide +kernel
theorem dX6_undo_72 : decode cX6_undo 72 = .ok (.imul, 1) := by decide +kernel
theorem dX6_undo_73 : decode cX6_undo 73 = .ok (.iadd, 1) := by decide +kernel
theorem dX6_undo_74 : decode cX6_undo 74 = .ok (.iconst 2, 1) := by decide +kernel
theorem dX6_undo_75 : decode cX6_undo 75 = .ok (.iadd, 1) := by decide +kernel
theorem dX6_undo_76 : decode cX6_undo 76 = .ok (.aload_n 0, 1) := by decide +kernel
theorem dX6_undo_77 : decode cX6_undo 77 = .ok (.getfield 19, 3) := by decide +kernel
theorem dX6_undo_80 : decode cX6_undo 80 = .ok (.iload_n 1, 1) := by decide +kernel
theorem dX6_undo_81 : decode cX6_undo 81 = .ok (.iconst 3, 1) := by decide +kernel
theorem dX6_undo_82 : decode cX6_undo 82 = .ok (.iadd, 1) := by decide +kernel
theorem dX6_undo_83 : decode cX6_undo 83 = .ok (.iload_n 2, 1) := by decide +kernel
theorem dX6_undo_84 : decode cX6_undo 84 = .ok (.iadd, 1) := by decide +kernel
theorem dX6_undo_85 : decode cX6_undo 85 = .ok (.iaload, 1) := by decide +kernel
theorem dX6_undo_86 : decode cX6_undo 86 = .ok (.iastore, 1) := by decide +kernel
theorem dX6_undo_87 : decode cX6_undo 87 = .ok (.iinc 2 1, 3) := by decide +kernel
theorem dX6_undo_90 : decode cX6_undo 90 = .ok (.goto (-31), 3) := by decide +kernel
theorem dX6_undo_93 : decode cX6_undo 93 = .ok (.iconst 0, 1) := by decide +kernel
theorem dX6_undo_94 : decode cX6_undo 94 = .ok (.istore_n 2, 1) := by decide +kernel
theorem dX6_undo_95 : decode cX6_undo 95 = .ok (.iload_n 2, 1) := by decide +kernel
theorem dX6_undo_96 : decode cX6_undo 96 = .ok (.bipush 72, 2) := by decide +kernel
theorem dX6_undo_98 : decode cX6_undo 98 = .ok (.if_icmp .ge 29, 3) := by decide +kernel
theorem dX6_undo_101 : decode cX6_undo 101 = .ok (.aload_n 0, 1) := by decide +kernel
theorem dX6_undo_102 : decode cX6_undo 102 = .ok (.getfield 7, 3) := by decide +kernel
theorem dX6_undo_105 : decode cX6_undo 105 = .ok (.bipush 23, 2) := by decide +kernel
theorem dX6_undo_107 : decode cX6_undo 107 = .ok (.iload_n 2, 1) := by decide +kernel
theorem dX6_undo_108 : decode cX6_undo 108 = .ok (.iadd, 1) := by decide +kernel
theorem dX6_undo_109 : decode cX6_undo 109 = .ok (.aload_n 0, 1) := by decide +kernel
theorem dX6_undo_110 : decode cX6_undo 110 = .ok (.getfield 19, 3) := by decide +kernel
theorem dX6_undo_113 : decode cX6_undo 113 = .ok (.iload_n 1, 1) := by decide +kernel
theorem dX6_undo_114 : decode cX6_undo 114 = .ok (.bipush 9, 2) := by decide +kernel
theorem dX6_undo_116 : decode cX6_undo 116 = .ok (.iadd, 1) := by decide +kernel
theorem dX6_undo_117 : decode cX6_undo 117 = .ok (.iload_n 2, 1) := by decide +kernel
theorem dX6_undo_118 : decode cX6_undo 118 = .ok (.iadd, 1) := by decide +kernel
theorem dX6_undo_119 : decode cX6_undo 119 = .ok (.iaload, 1) := by decide +kernel
theorem dX6_undo_120 : decode cX6_undo 120 = .ok (.iastore, 1) := by decide +kernel
theorem dX6_undo_121 : decode cX6_undo 121 = .ok (.iinc 2 1, 3) := by decide +kernel
theorem dX6_undo_124 : decode cX6_undo 124 = .ok (.goto (-29), 3) := by decide +kernel
theorem dX6_undo_127 : decode cX6_undo 127 = .ok (.aload_n 0, 1) := by decide +kernel
theorem dX6_undo_128 : decode cX6_undo 128 = .ok (.getfield 68, 3) := by decide +kernel
theorem dX6_undo_131 : decode cX6_undo 131 = .ok (.ireturn, 1) := by decide +kernel
theorem dX6_seed_0 : decode cX6_seed 0 = .ok (.iload_n 1, 1) := by decide +kernel
theorem dX6_seed_1 : decode cX6_seed 1 = .ok (.ifCond .ge 5, 3) := by decide +kernel
theorem dX6_seed_4 : decode cX6_seed 4 = .ok (.iconst (-1), 1) := by decide +kernel
theorem dX6_seed_5 : decode cX6_seed 5 = .ok (.ireturn, 1) := by decide +kernel
theorem dX6_seed_6 : decode cX6_seed 6 = .ok (.aload_n 0, 1) := by decide +kernel
theorem dX6_seed_7 : decode cX6_seed 7 = .ok (.getfield 7, 3) := by decide +kernel
theorem dX6_seed_10 : decode cX6_seed 10 = .ok (.iconst 4, 1) := by decide +kernel
theorem dX6_seed_11 : decode cX6_seed 11 = .ok (.iaload, 1) := by decide +kernel
theorem dX6_seed_12 : decode cX6_seed 12 = .ok (.istore_n 2, 1) := by decide +kernel
theorem dX6_seed_13 : decode cX6_seed 13 = .ok (.aload_n 0, 1) := by decide +kernel
theorem dX6_seed_14 : decode cX6_seed 14 = .ok (.getfield 7, 3) := by decide +kernel
theorem dX6_seed_17 : decode cX6_seed 17 = .ok (.iconst 4, 1) := by decide +kernel
theorem dX6_seed_18 : decode cX6_seed 18 = .ok (.iload_n 1, 1) := by decide +kernel
theorem dX6_seed_19 : decode cX6_seed 19 = .ok (.iastore, 1) := by decide +kernel
theorem dX6_seed_20 : decode cX6_seed 20 = .ok (.iload_n 2, 1) := by decide +kernel
theorem dX6_seed_21 : decode cX6_seed 21 = .ok (.ireturn, 1) := by decide +kernel
theorem dX6_gainOf_0 : decode cX6_gainOf 0 = .ok (.aload_n 0, 1) := by decide +kernel
theorem dX6_gainOf_1 : decode cX6_gainOf 1 = .ok (.invokevirtual 95, 3) := by decide +kernel
theorem dX6_gainOf_4 : decode cX6_gainOf 4 = .ok (.istore 4, 2) := by decide +kernel
theorem dX6_gainOf_6 : decode cX6_gainOf 6 = .ok (.aload_n 0, 1) := by decide +kernel
theorem dX6_gainOf_7 : decode cX6_gainOf 7 = .ok (.iload_n 1, 1) := by decide +kernel
theorem dX6_gainOf_8 : decode cX6_gainOf 8 = .ok (.iload_n 2, 1) := by decide +kernel
theorem dX6_gainOf_9 : decode cX6_gainOf 9 = .ok (.iload_n 3, 1) := by decide +kernel
theorem dX6_gainOf_10 : decode cX6_gainOf 10 = .ok (.invokevirtual 165, 3) := by decide +kernel
theorem dX6_gainOf_13 : decode cX6_gainOf 13 = .ok (.aload_n 0, 1) := by decide +kernel
theorem dX6_gainOf_14 : decode cX6_gainOf 14 = .ok (.invokevirtual 95, 3) := by decide +kernel
theorem dX6_gainOf_17 : decode cX6_gainOf 17 = .ok (.iload 4, 2) := by decide +kernel
theorem dX6_gainOf_19 : decode cX6_gainOf 19 = .ok (.isub, 1) := by decide +kernel
theorem dX6_gainOf_20 : decode cX6_gainOf 20 = .ok (.istore 5, 2) := by decide +kernel
theorem dX6_gainOf_22 : decode cX6_gainOf 22 = .ok (.aload_n 0, 1) := by decide +kernel
theorem dX6_gainOf_23 : decode cX6_gainOf 23 = .ok (.iload_n 2, 1) := by decide +kernel
theorem dX6_gainOf_24 : decode cX6_gainOf 24 = .ok (.iload_n 1, 1) := by decide +kernel
theorem dX6_gainOf_25 : decode cX6_gainOf 25 = .ok (.iload_n 3, 1) := by decide +kernel
theorem dX6_gainOf_26 : decode cX6_gainOf 26 = .ok (.invokevirtual 165, 3) := by decide +kernel
theorem dX6_gainOf_29 : decode cX6_gainOf 29 = .ok (.iload 5, 2) := by decide +kernel
theorem dX6_gainOf_31 : decode cX6_gainOf 31 = .ok (.ireturn, 1) := by decide +kernel
theorem dX6_gain_0 : decode cX6_gain 0 = .ok (.aload_n 0, 1) := by decide +kernel
theorem dX6_gain_1 : decode cX6_gain 1 = .ok (.iload_n 1, 1) := by decide +kernel
theorem dX6_gain_2 : decode cX6_gain 2 = .ok (.iload_n 2, 1) := by decide +kernel
theorem dX6_gain_3 : decode cX6_gain 3 = .ok (.invokevirtual 154, 3) := by decide +kernel
theorem dX6_gain_6 : decode cX6_gain 6 = .ok (.ifCond .eq 10, 3) := by decide +kernel
theorem dX6_gain_9 : decode cX6_gain 9 = .ok (.iload_n 3, 1) := by decide +kernel
theorem dX6_gain_10 : decode cX6_gain 10 = .ok (.invokestatic 92, 3) := by decide +kernel
theorem dX6_gain_13 : decode cX6_gain 13 = .ok (.ifCond .ne 5, 3) := by decide +kernel
theorem dX6_gain_16 : decode cX6_gain 16 = .ok (.iconst (-1), 1) := by decide +kernel
theorem dX6_gain_17 : decode cX6_gain 17 = .ok (.ireturn, 1) := by decide +kernel
theorem dX6_gain_18 : decode cX6_gain 18 = .ok (.aload_n 0, 1) := by decide +kernel
theorem dX6_gain_19 : decode cX6_gain 19 = .ok (.iload_n 1, 1) := by decide +kernel
theorem dX6_gain_20 : decode cX6_gain 20 = .ok (.iload_n 3, 1) := by decide +kernel
theorem dX6_gain_21 : decode cX6_gain 21 = .ok (.invokevirtual 51, 3) := by decide +kernel
theorem dX6_gain_24 : decode cX6_gain 24 = .ok (.ifCond .eq 17, 3) := by decide +kernel
theorem dX6_gain_27 : decode cX6_gain 27 = .ok (.sipush 1000, 3) := by decide +kernel
theorem dX6_gain_30 : decode cX6_gain 30 = .ok (.aload_n 0, 1) := by decide +kernel
theorem dX6_gain_31 : decode cX6_gain 31 = .ok (.iload_n 1, 1) := by decide +kernel
theorem dX6_gain_32 : decode cX6_gain 32 = .ok (.iload_n 2, 1) := by decide +kernel
theorem dX6_gain_33 : decode cX6_gain 33 = .ok (.iload_n 3, 1) := by decide +kernel
theorem dX6_gain_34 : decode cX6_gain 34 = .ok (.invokevirtual 188, 3) := by decide +kernel
theorem dX6_gain_37 : decode cX6_gain 37 = .ok (.iadd, 1) := by decide +kernel
theorem dX6_gain_38 : decode cX6_gain 38 = .ok (.goto 5, 3) := by decide +kernel
theorem dX6_gain_41 : decode cX6_gain 41 = .ok (.bipush (-2), 2) := by decide +kernel
theorem dX6_gain_43 : decode cX6_gain 43 = .ok (.ireturn, 1) := by decide +kernel
theorem dX6_middle_0 : decode cX6_middle 0 = .ok (.aload_n 0, 1) := by decide +kernel
theorem dX6_middle_1 : decode cX6_middle 1 = .ok (.iload_n 1, 1) := by decide +kernel
theorem dX6_middle_2 : decode cX6_middle 2 = .ok (.iload_n 2, 1) := by decide +kernel
theorem dX6_middle_3 : decode cX6_middle 3 = .ok (.invokevirtual 154, 3) := by decide +kernel
theorem dX6_middle_6 : decode cX6_middle 6 = .ok (.ifCond .eq 10, 3) := by decide +kernel
theorem dX6_middle_9 : decode cX6_middle 9 = .ok (.iload_n 3, 1) := by decide +kernel
theorem dX6_middle_10 : decode cX6_middle 10 = .ok (.invokestatic 92, 3) := by decide +kernel
theorem dX6_middle_13 : decode cX6_middle 13 = .ok (.ifCond .ne 5, 3) := by decide +kernel
theorem dX6_middle_16 : decode cX6_middle 16 = .ok (.iconst (-1), 1) := by decide +kernel
theorem dX6_middle_17 : decode cX6_middle 17 = .ok (.ireturn, 1) := by decide +kernel
theorem dX6_middle_18 : decode cX6_middle 18 = .ok (.aload_n 0, 1) := by decide +kernel
theorem dX6_middle_19 : decode cX6_middle 19 = .ok (.iload_n 1, 1) := by decide +kernel
theorem dX6_middle_20 : decode cX6_middle 20 = .ok (.iload_n 3, 1) := by decide +kernel
theorem dX6_middle_21 : decode cX6_middle 21 = .ok (.invokevirtual 51, 3) := by decide +kernel
theorem dX6_middle_24 : decode cX6_middle 24 = .ok (.ifCond .eq 13, 3) := by decide +kernel
theorem dX6_middle_27 : decode cX6_middle 27 = .ok (.aload_n 0, 1) := by decide +kernel
theorem dX6_middle_28 : decode cX6_middle 28 = .ok (.iload_n 1, 1) := by decide +kernel
theorem dX6_middle_29 : decode cX6_middle 29 = .ok (.iload_n 2, 1) := by decide +kernel
theorem dX6_middle_30 : decode cX6_middle 30 = .ok (.iload_n 3, 1) := by decide +kernel
theorem dX6_middle_31 : decode cX6_middle 31 = .ok (.invokevirtual 172, 3) := by decide +kernel
theorem dX6_middle_34 : decode cX6_middle 34 = .ok (.goto 5, 3) := by decide +kernel
theorem dX6_middle_37 : decode cX6_middle 37 = .ok (.bipush (-2), 2) := by decide +kernel
theorem dX6_middle_39 : decode cX6_middle 39 = .ok (.ireturn, 1) := by decide +kernel
theorem dX6_bestSale_0 : decode cX6_bestSale 0 = .ok (.bipush (-4), 2) := by decide +kernel
theorem dX6_bestSale_2 : decode cX6_bestSale 2 = .ok (.istore_n 1, 1) := by decide +kernel
theorem dX6_bestSale_3 : decode cX6_bestSale 3 = .ok (.aload_n 0, 1) := by decide +kernel
theorem dX6_bestSale_4 : decode cX6_bestSale 4 = .ok (.iconst 0, 1) := by decide +kernel
theorem dX6_bestSale_5 : decode cX6_bestSale 5 = .ok (.putfield 191, 3) := by decide +kernel
theorem dX6_bestSale_8 : decode cX6_bestSale 8 = .ok (.iconst 0, 1) := by decide +kernel
theorem dX6_bestSale_9 : decode cX6_bestSale 9 = .ok (.istore_n 2, 1) := by decide +kernel
theorem dX6_bestSale_10 : decode cX6_bestSale 10 = .ok (.iload_n 2, 1) := by decide +kernel
theorem dX6_bestSale_11 : decode cX6_bestSale 11 = .ok (.aload_n 0, 1) := by decide +kernel
theorem dX6_bestSale_12 : decode cX6_bestSale 12 = .ok (.getfield 7, 3) := by decide +kernel
theorem dX6_bestSale_15 : decode cX6_bestSale 15 = .ok (.iconst 0, 1) := by decide +kernel
theorem dX6_bestSale_16 : decode cX6_bestSale 16 = .ok (.iaload, 1) := by decide +kernel
theorem dX6_bestSale_17 : decode cX6_bestSale 17 = .ok (.if_icmp .ge 121, 3) := by decide +kernel
theorem dX6_bestSale_20 : decode cX6_bestSale 20 = .ok (.iconst 0, 1) := by decide +kernel
theorem dX6_bestSale_21 : decode cX6_bestSale 21 = .ok (.istore_n 3, 1) := by decide +kernel
theorem dX6_bestSale_22 : decode cX6_bestSale 22 = .ok (.iload_n 3, 1) := by decide +kernel
theorem dX6_bestSale_23 : decode cX6_bestSale 23 = .ok (.aload_n 0, 1) := by decide +kernel
theorem dX6_bestSale_24 : decode cX6_bestSale 24 = .ok (.getfield 7, 3) := by decide +kernel
theorem dX6_bestSale_27 : decode cX6_bestSale 27 = .ok (.iconst 0, 1) := by decide +kernel
theorem dX6_bestSale_28 : decode cX6_bestSale 28 = .ok (.iaload, 1) := by decide +kernel
theorem dX6_bestSale_29 : decode cX6_bestSale 29 = .ok (.if_icmp .ge 103, 3) := by decide +kernel
theorem dX6_bestSale_32 : decode cX6_bestSale 32 = .ok (.iconst 0, 1) := by decide +kernel
theorem dX6_bestSale_33 : decode cX6_bestSale 33 = .ok (.istore 4, 2) := by decide +kernel
theorem dX6_bestSale_35 : decode cX6_bestSale 35 = .ok (.iload 4, 2) := by decide +kernel
theorem dX6_bestSale_37 : decode cX6_bestSale 37 = .ok (.bipush 12, 2) := by decide +kernel
theorem dX6_bestSale_39 : decode cX6_bestSale 39 = .ok (.if_icmp .ge 87, 3) := by decide +kernel
theorem dX6_bestSale_42 : decode cX6_bestSale 42 = .ok (.iload_n 2, 1) := by decide +kernel
theorem dX6_bestSale_43 : decode cX6_bestSale 43 = .ok (.iload_n 3, 1) := by decide +kernel
theorem dX6_bestSale_44 : decode cX6_bestSale 44 = .ok (.if_icmp .eq 24, 3) := by decide +kernel
theorem dX6_bestSale_47 : decode cX6_bestSale 47 = .ok (.aload_n 0, 1) := by decide +kernel
theorem dX6_bestSale_48 : decode cX6_bestSale 48 = .ok (.iload_n 2, 1) := by decide +kernel
theorem dX6_bestSale_49 : decode cX6_bestSale 49 = .ok (.iload 4, 2) := by decide +kernel
theorem dX6_bestSale_51 : decode cX6_bestSale 51 = .ok (.invokevirtual 159, 3) := by decide +kernel
theorem dX6_bestSale_54 : decode cX6_bestSale 54 = .ok (.ifCond .eq 14, 3) := by decide +kernel
theorem dX6_bestSale_57 : decode cX6_bestSale 57 = .ok (.aload_n 0, 1) := by decide +kernel
theorem dX6_bestSale_58 : decode cX6_bestSale 58 = .ok (.iload_n 2, 1) := by decide +kernel
theorem dX6_bestSale_59 : decode cX6_bestSale 59 = .ok (.iload_n 3, 1) := by decide +kernel
theorem dX6_bestSale_60 : decode cX6_bestSale 60 = .ok (.iload 4, 2) := by decide +kernel
theorem dX6_bestSale_62 : decode cX6_bestSale 62 = .ok (.invokevirtual 188, 3) := by decide +kernel
theorem dX6_bestSale_65 : decode cX6_bestSale 65 = .ok (.goto 4, 3) := by decide +kernel
theorem dX6_bestSale_68 : decode cX6_bestSale 68 = .ok (.iconst 0, 1) := by decide +kernel
theorem dX6_bestSale_69 : decode cX6_bestSale 69 = .ok (.istore 5, 2) := by decide +kernel
theorem dX6_bestSale_71 : decode cX6_bestSale 71 = .ok (.iload 5, 2) := by decide +kernel
theorem dX6_bestSale_73 : decode cX6_bestSale 73 = .ok (.aload_n 0, 1) := by decide +kernel
theorem dX6_bestSale_74 : decode cX6_bestSale 74 = .ok (.getfield 191, 3) := by decide +kernel
theorem dX6_bestSale_77 : decode cX6_bestSale 77 = .ok (.if_icmp .le 19, 3) := by decide +kernel
theorem dX6_bestSale_80 : decode cX6_bestSale 80 = .ok (.sipush 1000, 3) := by decide +kernel
theorem dX6_bestSale_83 : decode cX6_bestSale 83 = .ok (.iload_n 2, 1) := by decide +kernel
theorem dX6_bestSale_84 : decode cX6_bestSale 84 = .ok (.imul, 1) := by decide +kernel
theorem dX6_bestSale_85 : decode cX6_bestSale 85 = .ok (.bipush 100, 2) := by decide +kernel
theorem dX6_bestSale_87 : decode cX6_bestSale 87 = .ok (.iload_n 3, 1) := by decide +kernel
theorem dX6_bestSale_88 : decode cX6_bestSale 88 = .ok (.imul, 1) := by decide +kernel
theorem dX6_bestSale_89 : decode cX6_bestSale 89 = .ok (.iadd, 1) := by decide +kernel
theorem dX6_bestSale_90 : decode cX6_bestSale 90 = .ok (.iload 4, 2) := by decide +kernel
theorem dX6_bestSale_92 : decode cX6_bestSale 92 = .ok (.iadd, 1) := by decide +kernel
theorem dX6_bestSale_93 : decode cX6_bestSale 93 = .ok (.goto 4, 3) := by decide +kernel
theorem dX6_bestSale_96 : decode cX6_bestSale 96 = .ok (.iload_n 1, 1) := by decide +kernel
theorem dX6_bestSale_97 : decode cX6_bestSale 97 = .ok (.istore_n 1, 1) := by decide +kernel
theorem dX6_bestSale_98 : decode cX6_bestSale 98 = .ok (.aload_n 0, 1) := by decide +kernel
theorem dX6_bestSale_99 : decode cX6_bestSale 99 = .ok (.iload 5, 2) := by decide +kernel
theorem dX6_bestSale_101 : decode cX6_bestSale 101 = .ok (.aload_n 0, 1) := by decide +kernel
theorem dX6_bestSale_102 : decode cX6_bestSale 102 = .ok (.getfield 191, 3) := by decide +kernel
theorem dX6_bestSale_105 : decode cX6_bestSale 105 = .ok (.if_icmp .le 8, 3) := by decide +kernel
theorem dX6_bestSale_108 : decode cX6_bestSale 108 = .ok (.iload 5, 2) := by decide +kernel
theorem dX6_bestSale_110 : decode cX6_bestSale 110 = .ok (.goto 7, 3) := by decide +kernel
theorem dX6_bestSale_113 : decode cX6_bestSale 113 = .ok (.aload_n 0, 1) := by decide +kernel
theorem dX6_bestSale_114 : decode cX6_bestSale 114 = .ok (.getfield 191, 3) := by decide +kernel
theorem dX6_bestSale_117 : decode cX6_bestSale 117 = .ok (.putfield 191, 3) := by decide +kernel
theorem dX6_bestSale_120 : decode cX6_bestSale 120 = .ok (.iinc 4 1, 3) := by decide +kernel
theorem dX6_bestSale_123 : decode cX6_bestSale 123 = .ok (.goto (-88), 3) := by decide +kernel
theorem dX6_bestSale_126 : decode cX6_bestSale 126 = .ok (.iinc 3 1, 3) := by decide +kernel
theorem dX6_bestSale_129 : decode cX6_bestSale 129 = .ok (.goto (-107), 3) := by decide +kernel
theorem dX6_bestSale_132 : decode cX6_bestSale 132 = .ok (.iinc 2 1, 3) := by decide +kernel
theorem dX6_bestSale_135 : decode cX6_bestSale 135 = .ok (.goto (-125), 3) := by decide +kernel
theorem dX6_bestSale_138 : decode cX6_bestSale 138 = .ok (.iload_n 1, 1) := by decide +kernel
theorem dX6_bestSale_139 : decode cX6_bestSale 139 = .ok (.ireturn, 1) := by decide +kernel
theorem dX6_best_0 : decode cX6_best 0 = .ok (.iload_n 1, 1) := by decide +kernel
theorem dX6_best_1 : decode cX6_best 1 = .ok (.i2l, 1) := by decide +kernel
theorem dX6_best_2 : decode cX6_best 2 = .ok (.lconst 0, 1) := by decide +kernel
theorem dX6_best_3 : decode cX6_best 3 = .ok (.lconst 1, 1) := by decide +kernel
theorem dX6_best_4 : decode cX6_best 4 = .ok (.invokestatic 41, 3) := by decide +kernel
theorem dX6_best_7 : decode cX6_best 7 = .ok (.ifCond .ne 5, 3) := by decide +kernel
theorem dX6_best_10 : decode cX6_best 10 = .ok (.iconst (-1), 1) := by decide +kernel
theorem dX6_best_11 : decode cX6_best 11 = .ok (.ireturn, 1) := by decide +kernel
theorem dX6_best_12 : decode cX6_best 12 = .ok (.aload_n 0, 1) := by decide +kernel
theorem dX6_best_13 : decode cX6_best 13 = .ok (.invokevirtual 194, 3) := by decide +kernel
theorem dX6_best_16 : decode cX6_best 16 = .ok (.istore_n 2, 1) := by decide +kernel
theorem dX6_best_17 : decode cX6_best 17 = .ok (.iload_n 1, 1) := by decide +kernel
theorem dX6_best_18 : decode cX6_best 18 = .ok (.ifCond .eq 9, 3) := by decide +kernel
theorem dX6_best_21 : decode cX6_best 21 = .ok (.iload_n 2, 1) := by decide +kernel
theorem dX6_best_22 : decode cX6_best 22 = .ok (.bipush (-4), 2) := by decide +kernel
theorem dX6_best_24 : decode cX6_best 24 = .ok (.if_icmp .ne 7, 3) := by decide +kernel
theorem dX6_best_27 : decode cX6_best 27 = .ok (.iload_n 2, 1) := by decide +kernel
theorem dX6_best_28 : decode cX6_best 28 = .ok (.goto 7, 3) := by decide +kernel
theorem dX6_best_31 : decode cX6_best 31 = .ok (.aload_n 0, 1) := by decide +kernel
theorem dX6_best_32 : decode cX6_best 32 = .ok (.getfield 191, 3) := by decide +kernel
theorem dX6_best_35 : decode cX6_best 35 = .ok (.ireturn, 1) := by decide +kernel
theorem dX6_asides_0 : decode cX6_asides 0 = .ok (.iconst 0, 1) := by decide +kernel
theorem dX6_asides_1 : decode cX6_asides 1 = .ok (.istore_n 1, 1) := by decide +kernel
theorem dX6_asides_2 : decode cX6_asides 2 = .ok (.iload_n 1, 1) := by decide +kernel
theorem dX6_asides_3 : decode cX6_asides 3 = .ok (.bipush 95, 2) := by decide +kernel
theorem dX6_asides_5 : decode cX6_asides 5 = .ok (.if_icmp .ge 21, 3) := by decide +kernel
theorem dX6_asides_8 : decode cX6_asides 8 = .ok (.aload_n 0, 1) := by decide +kernel
theorem dX6_asides_9 : decode cX6_asides 9 = .ok (.getfield 22, 3) := by decide +kernel
theorem dX6_asides_12 : decode cX6_asides 12 = .ok (.iload_n 1, 1) := by decide +kernel
theorem dX6_asides_13 : decode cX6_asides 13 = .ok (.aload_n 0, 1) := by decide +kernel
theorem dX6_asides_14 : decode cX6_asides 14 = .ok (.getfield 7, 3) := by decide +kernel
theorem dX6_asides_17 : decode cX6_asides 17 = .ok (.iload_n 1, 1) := by decide +kernel
theorem dX6_asides_18 : decode cX6_asides 18 = .ok (.iaload, 1) := by decide +kernel
theorem dX6_asides_19 : decode cX6_asides 19 = .ok (.iastore, 1) := by decide +kernel
theorem dX6_asides_20 : decode cX6_asides 20 = .ok (.iinc 1 1, 3) := by decide +kernel
theorem dX6_asides_23 : decode cX6_asides 23 = .ok (.goto (-21), 3) := by decide +kernel
theorem dX6_asides_26 : decode cX6_asides 26 = .ok (.return_, 1) := by decide +kernel
theorem dX6_backs_0 : decode cX6_backs 0 = .ok (.iconst 0, 1) := by decide +kernel
theorem dX6_backs_1 : decode cX6_backs 1 = .ok (.istore_n 1, 1) := by decide +kernel
theorem dX6_backs_2 : decode cX6_backs 2 = .ok (.iload_n 1, 1) := by decide +kernel
theorem dX6_backs_3 : decode cX6_backs 3 = .ok (.bipush 95, 2) := by decide +kernel
theorem dX6_backs_5 : decode cX6_backs 5 = .ok (.if_icmp .ge 21, 3) := by decide +kernel
theorem dX6_backs_8 : decode cX6_backs 8 = .ok (.aload_n 0, 1) := by decide +kernel
theorem dX6_backs_9 : decode cX6_backs 9 = .ok (.getfield 7, 3) := by decide +kernel
theorem dX6_backs_12 : decode cX6_backs 12 = .ok (.iload_n 1, 1) := by decide +kernel
theorem dX6_backs_13 : decode cX6_backs 13 = .ok (.aload_n 0, 1) := by decide +kernel
theorem dX6_backs_14 : decode cX6_backs 14 = .ok (.getfield 22, 3) := by decide +kernel
theorem dX6_backs_17 : decode cX6_backs 17 = .ok (.iload_n 1, 1) := by decide +kernel
theorem dX6_backs_18 : decode cX6_backs 18 = .ok (.iaload, 1) := by decide +kernel
theorem dX6_backs_19 : decode cX6_backs 19 = .ok (.iastore, 1) := by decide +kernel
theorem dX6_backs_20 : decode cX6_backs 20 = .ok (.iinc 1 1, 3) := by decide +kernel
theorem dX6_backs_23 : decode cX6_backs 23 = .ok (.goto (-21), 3) := by decide +kernel
theorem dX6_backs_26 : decode cX6_backs 26 = .ok (.return_, 1) := by decide +kernel
theorem dX6_market_0 : decode cX6_market 0 = .ok (.iload_n 1, 1) := by decide +kernel
theorem dX6_market_1 : decode cX6_market 1 = .ok (.i2l, 1) := by decide +kernel
theorem dX6_market_2 : decode cX6_market 2 = .ok (.lconst 0, 1) := by decide +kernel
theorem dX6_market_3 : decode cX6_market 3 = .ok (.lconst 1, 1) := by decide +kernel
theorem dX6_market_4 : decode cX6_market 4 = .ok (.invokestatic 41, 3) := by decide +kernel
theorem dX6_market_7 : decode cX6_market 7 = .ok (.ifCond .ne 5, 3) := by decide +kernel
theorem dX6_market_10 : decode cX6_market 10 = .ok (.iconst (-1), 1) := by decide +kernel
theorem dX6_market_11 : decode cX6_market 11 = .ok (.ireturn, 1) := by decide +kernel
theorem dX6_market_12 : decode cX6_market 12 = .ok (.aload_n 0, 1) := by decide +kernel
theorem dX6_market_13 : decode cX6_market 13 = .ok (.invokevirtual 197, 3) := by decide +kernel
theorem dX6_market_16 : decode cX6_market 16 = .ok (.iconst 0, 1) := by decide +kernel
theorem dX6_market_17 : decode cX6_market 17 = .ok (.istore_n 2, 1) := by decide +kernel
theorem dX6_market_18 : decode cX6_market 18 = .ok (.aload_n 0, 1) := by decide +kernel
theorem dX6_market_19 : decode cX6_market 19 = .ok (.invokevirtual 194, 3) := by decide +kernel
theorem dX6_market_22 : decode cX6_market 22 = .ok (.istore_n 3, 1) := by decide +kernel
theorem dX6_market_23 : decode cX6_market 23 = .ok (.iload_n 3, 1) := by decide +kernel
theorem dX6_market_24 : decode cX6_market 24 = .ok (.bipush (-4), 2) := by decide +kernel
theorem dX6_market_26 : decode cX6_market 26 = .ok (.if_icmp .eq 34, 3) := by decide +kernel
theorem dX6_market_29 : decode cX6_market 29 = .ok (.aload_n 0, 1) := by decide +kernel
theorem dX6_market_30 : decode cX6_market 30 = .ok (.iload_n 3, 1) := by decide +kernel
theorem dX6_market_31 : decode cX6_market 31 = .ok (.sipush 1000, 3) := by decide +kernel
theorem dX6_market_34 : decode cX6_market 34 = .ok (.idiv, 1) := by decide +kernel
theorem dX6_market_35 : decode cX6_market 35 = .ok (.iload_n 3, 1) := by decide +kernel
theorem dX6_market_36 : decode cX6_market 36 = .ok (.bipush 100, 2) := by decide +kernel
theorem dX6_market_38 : decode cX6_market 38 = .ok (.idiv, 1) := by decide +kernel
theorem dX6_market_39 : decode cX6_market 39 = .ok (.bipush 10, 2) := by decide +kernel
theorem dX6_market_41 : decode cX6_market 41 = .ok (.irem, 1) := by decide +kernel
theorem dX6_market_42 : decode cX6_market 42 = .ok (.iload_n 3, 1) := by decide +kernel
theorem dX6_market_43 : decode cX6_market 43 = .ok (.bipush 100, 2) := by decide +kernel
theorem dX6_market_45 : decode cX6_market 45 = .ok (.irem, 1) := by decide +kernel
theorem dX6_market_46 : decode cX6_market 46 = .ok (.invokevirtual 165, 3) := by decide +kernel
theorem dX6_market_49 : decode cX6_market 49 = .ok (.iinc 2 1, 3) := by decide +kernel
theorem dX6_market_52 : decode cX6_market 52 = .ok (.aload_n 0, 1) := by decide +kernel
theorem dX6_market_53 : decode cX6_market 53 = .ok (.invokevirtual 194, 3) := by decide +kernel
theorem dX6_market_56 : decode cX6_market 56 = .ok (.istore_n 3, 1) := by decide +kernel
theorem dX6_market_57 : decode cX6_market 57 = .ok (.goto (-34), 3) := by decide +kernel
theorem dX6_market_60 : decode cX6_market 60 = .ok (.aload_n 0, 1) := by decide +kernel
theorem dX6_market_61 : decode cX6_market 61 = .ok (.invokevirtual 95, 3) := by decide +kernel
theorem dX6_market_64 : decode cX6_market 64 = .ok (.istore 4, 2) := by decide +kernel
theorem dX6_market_66 : decode cX6_market 66 = .ok (.aload_n 0, 1) := by decide +kernel
theorem dX6_market_67 : decode cX6_market 67 = .ok (.invokevirtual 200, 3) := by decide +kernel
theorem dX6_market_70 : decode cX6_market 70 = .ok (.iload_n 1, 1) := by decide +kernel
theorem dX6_market_71 : decode cX6_market 71 = .ok (.ifCond .ne 7, 3) := by decide +kernel
theorem dX6_market_74 : decode cX6_market 74 = .ok (.iload_n 2, 1) := by decide +kernel
theorem dX6_market_75 : decode cX6_market 75 = .ok (.goto 5, 3) := by decide +kernel
theorem dX6_market_78 : decode cX6_market 78 = .ok (.iload 4, 2) := by decide +kernel
theorem dX6_market_80 : decode cX6_market 80 = .ok (.ireturn, 1) := by decide +kernel
theorem dX6_longest_0 : decode cX6_longest 0 = .ok (.aload_n 0, 1) := by decide +kernel
theorem dX6_longest_1 : decode cX6_longest 1 = .ok (.iload_n 1, 1) := by decide +kernel
theorem dX6_longest_2 : decode cX6_longest 2 = .ok (.invokevirtual 78, 3) := by decide +kernel
theorem dX6_longest_5 : decode cX6_longest 5 = .ok (.ifCond .eq 13, 3) := by decide +kernel
theorem dX6_longest_8 : decode cX6_longest 8 = .ok (.iload_n 2, 1) := by decide +kernel
theorem dX6_longest_9 : decode cX6_longest 9 = .ok (.i2l, 1) := by decide +kernel
theorem dX6_longest_10 : decode cX6_longest 10 = .ok (.lconst 0, 1) := by decide +kernel
theorem dX6_longest_11 : decode cX6_longest 11 = .ok (.lconst 1, 1) := by decide +kernel
theorem dX6_longest_12 : decode cX6_longest 12 = .ok (.invokestatic 41, 3) := by decide +kernel
theorem dX6_longest_15 : decode cX6_longest 15 = .ok (.ifCond .ne 5, 3) := by decide +kernel
theorem dX6_longest_18 : decode cX6_longest 18 = .ok (.iconst (-1), 1) := by decide +kernel
theorem dX6_longest_19 : decode cX6_longest 19 = .ok (.ireturn, 1) := by decide +kernel
theorem dX6_longest_20 : decode cX6_longest 20 = .ok (.iconst 0, 1) := by decide +kernel
theorem dX6_longest_21 : decode cX6_longest 21 = .ok (.istore_n 3, 1) := by decide +kernel
theorem dX6_longest_22 : decode cX6_longest 22 = .ok (.bipush (-4), 2) := by decide +kernel
theorem dX6_longest_24 : decode cX6_longest 24 = .ok (.istore 4, 2) := by decide +kernel
theorem dX6_longest_26 : decode cX6_longest 26 = .ok (.iconst 0, 1) := by decide +kernel
theorem dX6_longest_27 : decode cX6_longest 27 = .ok (.istore 5, 2) := by decide +kernel
theorem dX6_longest_29 : decode cX6_longest 29 = .ok (.iconst 0, 1) := by decide +kernel
theorem dX6_longest_30 : decode cX6_longest 30 = .ok (.istore 6, 2) := by decide +kernel
theorem dX6_longest_32 : decode cX6_longest 32 = .ok (.iload 6, 2) := by decide +kernel
theorem dX6_longest_34 : decode cX6_longest 34 = .ok (.bipush 12, 2) := by decide +kernel
theorem dX6_longest_36 : decode cX6_longest 36 = .ok (.if_icmp .ge 62, 3) := by decide +kernel
theorem dX6_longest_39 : decode cX6_longest 39 = .ok (.aload_n 0, 1) := by decide +kernel
theorem dX6_longest_40 : decode cX6_longest 40 = .ok (.iload_n 1, 1) := by decide +kernel
theorem dX6_longest_41 : decode cX6_longest 41 = .ok (.iload 6, 2) := by decide +kernel
theorem dX6_longest_43 : decode cX6_longest 43 = .ok (.invokevirtual 51, 3) := by decide +kernel
theorem dX6_longest_46 : decode cX6_longest 46 = .ok (.ifCond .eq 10, 3) := by decide +kernel
theorem dX6_longest_49 : decode cX6_longest 49 = .ok (.iload 5, 2) := by decide +kernel
theorem dX6_longest_51 : decode cX6_longest 51 = .ok (.iconst 1, 1) := by decide +kernel
theorem dX6_longest_52 : decode cX6_longest 52 = .ok (.iadd, 1) := by decide +kernel
theorem dX6_longest_53 : decode cX6_longest 53 = .ok (.goto 4, 3) := by decide +kernel
theorem dX6_longest_56 : decode cX6_longest 56 = .ok (.iconst 0, 1) := by decide +kernel
theorem dX6_longest_57 : decode cX6_longest 57 = .ok (.istore 5, 2) := by decide +kernel
theorem dX6_longest_59 : decode cX6_longest 59 = .ok (.iload 5, 2) := by decide +kernel
theorem dX6_longest_61 : decode cX6_longest 61 = .ok (.iload_n 3, 1) := by decide +kernel
theorem dX6_longest_62 : decode cX6_longest 62 = .ok (.if_icmp .le 13, 3) := by decide +kernel
theorem dX6_longest_65 : decode cX6_longest 65 = .ok (.iload 6, 2) := by decide +kernel
theorem dX6_longest_67 : decode cX6_longest 67 = .ok (.iload 5, 2) := by decide +kernel
theorem dX6_longest_69 : decode cX6_longest 69 = .ok (.isub, 1) := by decide +kernel
theorem dX6_longest_70 : decode cX6_longest 70 = .ok (.iconst 1, 1) := by decide +kernel
theorem dX6_longest_71 : decode cX6_longest 71 = .ok (.iadd, 1) := by decide +kernel
theorem dX6_longest_72 : decode cX6_longest 72 = .ok (.goto 5, 3) := by decide +kernel
theorem dX6_longest_75 : decode cX6_longest 75 = .ok (.iload 4, 2) := by decide +kernel
theorem dX6_longest_77 : decode cX6_longest 77 = .ok (.istore 4, 2) := by decide +kernel
theorem dX6_longest_79 : decode cX6_longest 79 = .ok (.iload 5, 2) := by decide +kernel
theorem dX6_longest_81 : decode cX6_longest 81 = .ok (.iload_n 3, 1) := by decide +kernel
theorem dX6_longest_82 : decode cX6_longest 82 = .ok (.if_icmp .le 8, 3) := by decide +kernel
theorem dX6_longest_85 : decode cX6_longest 85 = .ok (.iload 5, 2) := by decide +kernel
theorem dX6_longest_87 : decode cX6_longest 87 = .ok (.goto 4, 3) := by decide +kernel
theorem dX6_longest_90 : decode cX6_longest 90 = .ok (.iload_n 3, 1) := by decide +kernel
theorem dX6_longest_91 : decode cX6_longest 91 = .ok (.istore_n 3, 1) := by decide +kernel
theorem dX6_longest_92 : decode cX6_longest 92 = .ok (.iinc 6 1, 3) := by decide +kernel
theorem dX6_longest_95 : decode cX6_longest 95 = .ok (.goto (-63), 3) := by decide +kernel
theorem dX6_longest_98 : decode cX6_longest 98 = .ok (.iload_n 2, 1) := by decide +kernel
theorem dX6_longest_99 : decode cX6_longest 99 = .ok (.ifCond .ne 7, 3) := by decide +kernel
theorem dX6_longest_102 : decode cX6_longest 102 = .ok (.iload_n 3, 1) := by decide +kernel
theorem dX6_longest_103 : decode cX6_longest 103 = .ok (.goto 5, 3) := by decide +kernel
theorem dX6_longest_106 : decode cX6_longest 106 = .ok (.iload 4, 2) := by decide +kernel
theorem dX6_longest_108 : decode cX6_longest 108 = .ok (.ireturn, 1) := by decide +kernel
theorem dX6_stretch_0 : decode cX6_stretch 0 = .ok (.aload_n 0, 1) := by decide +kernel
theorem dX6_stretch_1 : decode cX6_stretch 1 = .ok (.iload_n 1, 1) := by decide +kernel
theorem dX6_stretch_2 : decode cX6_stretch 2 = .ok (.invokevirtual 78, 3) := by decide +kernel
theorem dX6_stretch_5 : decode cX6_stretch 5 = .ok (.ifCond .eq 25, 3) := by decide +kernel
theorem dX6_stretch_8 : decode cX6_stretch 8 = .ok (.iload_n 2, 1) := by decide +kernel
theorem dX6_stretch_9 : decode cX6_stretch 9 = .ok (.i2l, 1) := by decide +kernel
theorem dX6_stretch_10 : decode cX6_stretch 10 = .ok (.lconst 1, 1) := by decide +kernel
theorem dX6_stretch_11 : decode cX6_stretch 11 = .ok (.ldc2_w 82, 3) := by decide +kernel
theorem dX6_stretch_14 : decode cX6_stretch 14 = .ok (.invokestatic 41, 3) := by decide +kernel
theorem dX6_stretch_17 : decode cX6_stretch 17 = .ok (.ifCond .eq 13, 3) := by decide +kernel
theorem dX6_stretch_20 : decode cX6_stretch 20 = .ok (.iload_n 3, 1) := by decide +kernel
theorem dX6_stretch_21 : decode cX6_stretch 21 = .ok (.i2l, 1) := by decide +kernel
theorem dX6_stretch_22 : decode cX6_stretch 22 = .ok (.lconst 0, 1) := by decide +kernel
theorem dX6_stretch_23 : decode cX6_stretch 23 = .ok (.lconst 1, 1) := by decide +kernel
theorem dX6_stretch_24 : decode cX6_stretch 24 = .ok (.invokestatic 41, 3) := by decide +kernel
theorem dX6_stretch_27 : decode cX6_stretch 27 = .ok (.ifCond .ne 5, 3) := by decide +kernel
theorem dX6_stretch_30 : decode cX6_stretch 30 = .ok (.iconst (-1), 1) := by decide +kernel
theorem dX6_stretch_31 : decode cX6_stretch 31 = .ok (.ireturn, 1) := by decide +kernel
theorem dX6_stretch_32 : decode cX6_stretch 32 = .ok (.aload_n 0, 1) := by decide +kernel
theorem dX6_stretch_33 : decode cX6_stretch 33 = .ok (.iload_n 1, 1) := by decide +kernel
theorem dX6_stretch_34 : decode cX6_stretch 34 = .ok (.invokevirtual 86, 3) := by decide +kernel
theorem dX6_stretch_37 : decode cX6_stretch 37 = .ok (.istore 4, 2) := by decide +kernel
theorem dX6_stretch_39 : decode cX6_stretch 39 = .ok (.bipush 99, 2) := by decide +kernel
theorem dX6_stretch_41 : decode cX6_stretch 41 = .ok (.istore 5, 2) := by decide +kernel
theorem dX6_stretch_43 : decode cX6_stretch 43 = .ok (.iconst 0, 1) := by decide +kernel
theorem dX6_stretch_44 : decode cX6_stretch 44 = .ok (.istore 6, 2) := by decide +kernel
theorem dX6_stretch_46 : decode cX6_stretch 46 = .ok (.iconst 0, 1) := by decide +kernel
theorem dX6_stretch_47 : decode cX6_stretch 47 = .ok (.istore 7, 2) := by decide +kernel
theorem dX6_stretch_49 : decode cX6_stretch 49 = .ok (.iload 7, 2) := by decide +kernel
theorem dX6_stretch_51 : decode cX6_stretch 51 = .ok (.iload_n 2, 1) := by decide +kernel
theorem dX6_stretch_52 : decode cX6_stretch 52 = .ok (.iadd, 1) := by decide +kernel
theorem dX6_stretch_53 : decode cX6_stretch 53 = .ok (.bipush 12, 2) := by decide +kernel
theorem dX6_stretch_55 : decode cX6_stretch 55 = .ok (.if_icmp .gt 63, 3) := by decide +kernel
theorem dX6_stretch_58 : decode cX6_stretch 58 = .ok (.iconst 1, 1) := by decide +kernel
theorem dX6_stretch_59 : decode cX6_stretch 59 = .ok (.iload_n 2, 1) := by decide +kernel
theorem dX6_stretch_60 : decode cX6_stretch 60 = .ok (.ishl, 1) := by decide +kernel
theorem dX6_stretch_61 : decode cX6_stretch 61 = .ok (.iconst 1, 1) := by decide +kernel
theorem dX6_stretch_62 : decode cX6_stretch 62 = .ok (.isub, 1) := by decide +kernel
theorem dX6_stretch_63 : decode cX6_stretch 63 = .ok (.iload 7, 2) := by decide +kernel
theorem dX6_stretch_65 : decode cX6_stretch 65 = .ok (.ishl, 1) := by decide +kernel
theorem dX6_stretch_66 : decode cX6_stretch 66 = .ok (.istore 8, 2) := by decide +kernel
theorem dX6_stretch_68 : decode cX6_stretch 68 = .ok (.iload 8, 2) := by decide +kernel
theorem dX6_stretch_70 : decode cX6_stretch 70 = .ok (.iload 4, 2) := by decide +kernel
theorem dX6_stretch_72 : decode cX6_stretch 72 = .ok (.iconst (-1), 1) := by decide +kernel
theorem dX6_stretch_73 : decode cX6_stretch 73 = .ok (.ixor, 1) := by decide +kernel
theorem dX6_stretch_74 : decode cX6_stretch 74 = .ok (.iand, 1) := by decide +kernel
theorem dX6_stretch_75 : decode cX6_stretch 75 = .ok (.invokestatic 151, 3) := by decide +kernel
theorem dX6_stretch_78 : decode cX6_stretch 78 = .ok (.istore 9, 2) := by decide +kernel
theorem dX6_stretch_80 : decode cX6_stretch 80 = .ok (.iload 9, 2) := by decide +kernel
theorem dX6_stretch_82 : decode cX6_stretch 82 = .ok (.iload 5, 2) := by decide +kernel
theorem dX6_stretch_84 : decode cX6_stretch 84 = .ok (.if_icmp .ge 8, 3) := by decide +kernel
theorem dX6_stretch_87 : decode cX6_stretch 87 = .ok (.iload 7, 2) := by decide +kernel
theorem dX6_stretch_89 : decode cX6_stretch 89 = .ok (.goto 5, 3) := by decide +kernel
theorem dX6_stretch_92 : decode cX6_stretch 92 = .ok (.iload 6, 2) := by decide +kernel
theorem dX6_stretch_94 : decode cX6_stretch 94 = .ok (.istore 6, 2) := by decide +kernel
theorem dX6_stretch_96 : decode cX6_stretch 96 = .ok (.iload 9, 2) := by decide +kernel
theorem dX6_stretch_98 : decode cX6_stretch 98 = .ok (.iload 5, 2) := by decide +kernel
theorem dX6_stretch_100 : decode cX6_stretch 100 = .ok (.if_icmp .ge 8, 3) := by decide +kernel
theorem dX6_stretch_103 : decode cX6_stretch 103 = .ok (.iload 9, 2) := by decide +kernel
theorem dX6_stretch_105 : decode cX6_stretch 105 = .ok (.goto 5, 3) := by decide +kernel
theorem dX6_stretch_108 : decode cX6_stretch 108 = .ok (.iload 5, 2) := by decide +kernel
theorem dX6_stretch_110 : decode cX6_stretch 110 = .ok (.istore 5, 2) := by decide +kernel
theorem dX6_stretch_112 : decode cX6_stretch 112 = .ok (.iinc 7 1, 3) := by decide +kernel
theorem dX6_stretch_115 : decode cX6_stretch 115 = .ok (.goto (-66), 3) := by decide +kernel
theorem dX6_stretch_118 : decode cX6_stretch 118 = .ok (.iload_n 3, 1) := by decide +kernel
theorem dX6_stretch_119 : decode cX6_stretch 119 = .ok (.ifCond .ne 8, 3) := by decide +kernel
theorem dX6_stretch_122 : decode cX6_stretch 122 = .ok (.iload 5, 2) := by decide +kernel
theorem dX6_stretch_124 : decode cX6_stretch 124 = .ok (.goto 5, 3) := by decide +kernel
theorem dX6_stretch_127 : decode cX6_stretch 127 = .ok (.iload 6, 2) := by decide +kernel
theorem dX6_stretch_129 : decode cX6_stretch 129 = .ok (.ireturn, 1) := by decide +kernel
theorem dX6_more_0 : decode cX6_more 0 = .ok (.aload_n 0, 1) := by decide +kernel
theorem dX6_more_1 : decode cX6_more 1 = .ok (.iload_n 1, 1) := by decide +kernel
theorem dX6_more_2 : decode cX6_more 2 = .ok (.invokevirtual 78, 3) := by decide +kernel
theorem dX6_more_5 : decode cX6_more 5 = .ok (.ifCond .eq 38, 3) := by decide +kernel
theorem dX6_more_8 : decode cX6_more 8 = .ok (.iload_n 2, 1) := by decide +kernel
theorem dX6_more_9 : decode cX6_more 9 = .ok (.i2l, 1) := by decide +kernel
theorem dX6_more_10 : decode cX6_more 10 = .ok (.lconst 0, 1) := by decide +kernel
theorem dX6_more_11 : decode cX6_more 11 = .ok (.ldc2_w 72, 3) := by decide +kernel
theorem dX6_more_14 : decode cX6_more 14 = .ok (.invokestatic 41, 3) := by decide +kernel
theorem dX6_more_17 : decode cX6_more 17 = .ok (.ifCond .eq 26, 3) := by decide +kernel
theorem dX6_more_20 : decode cX6_more 20 = .ok (.iload_n 3, 1) := by decide +kernel
theorem dX6_more_21 : decode cX6_more 21 = .ok (.i2l, 1) := by decide +kernel
theorem dX6_more_22 : decode cX6_more 22 = .ok (.lconst 0, 1) := by decide +kernel
theorem dX6_more_23 : decode cX6_more 23 = .ok (.ldc2_w 203, 3) := by decide +kernel
theorem dX6_more_26 : decode cX6_more 26 = .ok (.invokestatic 41, 3) := by decide +kernel
theorem dX6_more_29 : decode cX6_more 29 = .ok (.ifCond .eq 14, 3) := by decide +kernel
theorem dX6_more_32 : decode cX6_more 32 = .ok (.iload 4, 2) := by decide +kernel
theorem dX6_more_34 : decode cX6_more 34 = .ok (.i2l, 1) := by decide +kernel
theorem dX6_more_35 : decode cX6_more 35 = .ok (.lconst 0, 1) := by decide +kernel
theorem dX6_more_36 : decode cX6_more 36 = .ok (.lconst 1, 1) := by decide +kernel
theorem dX6_more_37 : decode cX6_more 37 = .ok (.invokestatic 41, 3) := by decide +kernel
theorem dX6_more_40 : decode cX6_more 40 = .ok (.ifCond .ne 5, 3) := by decide +kernel
theorem dX6_more_43 : decode cX6_more 43 = .ok (.iconst (-1), 1) := by decide +kernel
theorem dX6_more_44 : decode cX6_more 44 = .ok (.ireturn, 1) := by decide +kernel
theorem dX6_more_45 : decode cX6_more 45 = .ok (.aload_n 0, 1) := by decide +kernel
theorem dX6_more_46 : decode cX6_more 46 = .ok (.iload_n 1, 1) := by decide +kernel
theorem dX6_more_47 : decode cX6_more 47 = .ok (.invokevirtual 86, 3) := by decide +kernel
theorem dX6_more_50 : decode cX6_more 50 = .ok (.istore 5, 2) := by decide +kernel
theorem dX6_more_52 : decode cX6_more 52 = .ok (.iconst 0, 1) := by decide +kernel
theorem dX6_more_53 : decode cX6_more 53 = .ok (.istore 6, 2) := by decide +kernel
theorem dX6_more_55 : decode cX6_more 55 = .ok (.aload_n 0, 1) := by decide +kernel
theorem dX6_more_56 : decode cX6_more 56 = .ok (.iload_n 1, 1) := by decide +kernel
theorem dX6_more_57 : decode cX6_more 57 = .ok (.invokevirtual 64, 3) := by decide +kernel
theorem dX6_more_60 : decode cX6_more 60 = .ok (.istore 7, 2) := by decide +kernel
theorem dX6_more_62 : decode cX6_more 62 = .ok (.aload_n 0, 1) := by decide +kernel
theorem dX6_more_63 : decode cX6_more 63 = .ok (.invokevirtual 197, 3) := by decide +kernel
theorem dX6_more_66 : decode cX6_more 66 = .ok (.iconst 1, 1) := by decide +kernel
theorem dX6_more_67 : decode cX6_more 67 = .ok (.istore 8, 2) := by decide +kernel
theorem dX6_more_69 : decode cX6_more 69 = .ok (.iload 8, 2) := by decide +kernel
theorem dX6_more_71 : decode cX6_more 71 = .ok (.sipush 4096, 3) := by decide +kernel
theorem dX6_more_74 : decode cX6_more 74 = .ok (.if_icmp .ge 107, 3) := by decide +kernel
theorem dX6_more_77 : decode cX6_more 77 = .ok (.iload 8, 2) := by decide +kernel
theorem dX6_more_79 : decode cX6_more 79 = .ok (.iload 5, 2) := by decide +kernel
theorem dX6_more_81 : decode cX6_more 81 = .ok (.iand, 1) := by decide +kernel
theorem dX6_more_82 : decode cX6_more 82 = .ok (.ifCond .ne 93, 3) := by decide +kernel
theorem dX6_more_85 : decode cX6_more 85 = .ok (.iload 8, 2) := by decide +kernel
theorem dX6_more_87 : decode cX6_more 87 = .ok (.invokestatic 151, 3) := by decide +kernel
theorem dX6_more_90 : decode cX6_more 90 = .ok (.iload_n 2, 1) := by decide +kernel
theorem dX6_more_91 : decode cX6_more 91 = .ok (.if_icmp .gt 84, 3) := by decide +kernel
theorem dX6_more_94 : decode cX6_more 94 = .ok (.iconst 0, 1) := by decide +kernel
theorem dX6_more_95 : decode cX6_more 95 = .ok (.istore 9, 2) := by decide +kernel
theorem dX6_more_97 : decode cX6_more 97 = .ok (.iload 9, 2) := by decide +kernel
theorem dX6_more_99 : decode cX6_more 99 = .ok (.bipush 12, 2) := by decide +kernel
theorem dX6_more_101 : decode cX6_more 101 = .ok (.if_icmp .ge 23, 3) := by decide +kernel
theorem dX6_more_104 : decode cX6_more 104 = .ok (.aload_n 0, 1) := by decide +kernel
theorem dX6_more_105 : decode cX6_more 105 = .ok (.iload_n 1, 1) := by decide +kernel
theorem dX6_more_106 : decode cX6_more 106 = .ok (.iload 9, 2) := by decide +kernel
theorem dX6_more_108 : decode cX6_more 108 = .ok (.iload 8, 2) := by decide +kernel
theorem dX6_more_110 : decode cX6_more 110 = .ok (.iload 9, 2) := by decide +kernel
theorem dX6_more_112 : decode cX6_more 112 = .ok (.ishr, 1) := by decide +kernel
theorem dX6_more_113 : decode cX6_more 113 = .ok (.iconst 1, 1) := by decide +kernel
theorem dX6_more_114 : decode cX6_more 114 = .ok (.iand, 1) := by decide +kernel
theorem dX6_more_115 : decode cX6_more 115 = .ok (.invokevirtual 148, 3) := by decide +kernel
theorem dX6_more_118 : decode cX6_more 118 = .ok (.iinc 9 1, 3) := by decide +kernel
theorem dX6_more_121 : decode cX6_more 121 = .ok (.goto (-24), 3) := by decide +kernel
theorem dX6_more_124 : decode cX6_more 124 = .ok (.aload_n 0, 1) := by decide +kernel
theorem dX6_more_125 : decode cX6_more 125 = .ok (.iload_n 1, 1) := by decide +kernel
theorem dX6_more_126 : decode cX6_more 126 = .ok (.invokevirtual 64, 3) := by decide +kernel
theorem dX6_more_129 : decode cX6_more 129 = .ok (.iload_n 3, 1) := by decide +kernel
theorem dX6_more_130 : decode cX6_more 130 = .ok (.iload 8, 2) := by decide +kernel
theorem dX6_more_132 : decode cX6_more 132 = .ok (.invokestatic 151, 3) := by decide +kernel
theorem dX6_more_135 : decode cX6_more 135 = .ok (.imul, 1) := by decide +kernel
theorem dX6_more_136 : decode cX6_more 136 = .ok (.isub, 1) := by decide +kernel
theorem dX6_more_137 : decode cX6_more 137 = .ok (.istore 9, 2) := by decide +kernel
theorem dX6_more_139 : decode cX6_more 139 = .ok (.iload 9, 2) := by decide +kernel
theorem dX6_more_141 : decode cX6_more 141 = .ok (.iload 7, 2) := by decide +kernel
theorem dX6_more_143 : decode cX6_more 143 = .ok (.if_icmp .le 8, 3) := by decide +kernel
theorem dX6_more_146 : decode cX6_more 146 = .ok (.iload 8, 2) := by decide +kernel
theorem dX6_more_148 : decode cX6_more 148 = .ok (.goto 5, 3) := by decide +kernel
theorem dX6_more_151 : decode cX6_more 151 = .ok (.iload 6, 2) := by decide +kernel
theorem dX6_more_153 : decode cX6_more 153 = .ok (.istore 6, 2) := by decide +kernel
theorem dX6_more_155 : decode cX6_more 155 = .ok (.iload 9, 2) := by decide +kernel
theorem dX6_more_157 : decode cX6_more 157 = .ok (.iload 7, 2) := by decide +kernel
theorem dX6_more_159 : decode cX6_more 159 = .ok (.if_icmp .le 8, 3) := by decide +kernel
theorem dX6_more_162 : decode cX6_more 162 = .ok (.iload 9, 2) := by decide +kernel
theorem dX6_more_164 : decode cX6_more 164 = .ok (.goto 5, 3) := by decide +kernel
theorem dX6_more_167 : decode cX6_more 167 = .ok (.iload 7, 2) := by decide +kernel
theorem dX6_more_169 : decode cX6_more 169 = .ok (.istore 7, 2) := by decide +kernel
theorem dX6_more_171 : decode cX6_more 171 = .ok (.aload_n 0, 1) := by decide +kernel
theorem dX6_more_172 : decode cX6_more 172 = .ok (.invokevirtual 200, 3) := by decide +kernel
theorem dX6_more_175 : decode cX6_more 175 = .ok (.iinc 8 1, 3) := by decide +kernel
theorem dX6_more_178 : decode cX6_more 178 = .ok (.goto (-109), 3) := by decide +kernel
theorem dX6_more_181 : decode cX6_more 181 = .ok (.iload 4, 2) := by decide +kernel
theorem dX6_more_183 : decode cX6_more 183 = .ok (.ifCond .ne 8, 3) := by decide +kernel
theorem dX6_more_186 : decode cX6_more 186 = .ok (.iload 7, 2) := by decide +kernel
theorem dX6_more_188 : decode cX6_more 188 = .ok (.goto 5, 3) := by decide +kernel
theorem dX6_more_191 : decode cX6_more 191 = .ok (.iload 6, 2) := by decide +kernel
theorem dX6_more_193 : decode cX6_more 193 = .ok (.ireturn, 1) := by decide +kernel
theorem dX6_envy_0 : decode cX6_envy 0 = .ok (.aload_n 0, 1) := by decide +kernel
theorem dX6_envy_1 : decode cX6_envy 1 = .ok (.iload_n 1, 1) := by decide +kernel
theorem dX6_envy_2 : decode cX6_envy 2 = .ok (.invokevirtual 78, 3) := by decide +kernel
theorem dX6_envy_5 : decode cX6_envy 5 = .ok (.ifCond .eq 13, 3) := by decide +kernel
theorem dX6_envy_8 : decode cX6_envy 8 = .ok (.iload_n 2, 1) := by decide +kernel
theorem dX6_envy_9 : decode cX6_envy 9 = .ok (.i2l, 1) := by decide +kernel
theorem dX6_envy_10 : decode cX6_envy 10 = .ok (.lconst 0, 1) := by decide +kernel
theorem dX6_envy_11 : decode cX6_envy 11 = .ok (.lconst 1, 1) := by decide +kernel
theorem dX6_envy_12 : decode cX6_envy 12 = .ok (.invokestatic 41, 3) := by decide +kernel
theorem dX6_envy_15 : decode cX6_envy 15 = .ok (.ifCond .ne 5, 3) := by decide +kernel
theorem dX6_envy_18 : decode cX6_envy 18 = .ok (.iconst (-1), 1) := by decide +kernel
theorem dX6_envy_19 : decode cX6_envy 19 = .ok (.ireturn, 1) := by decide +kernel
theorem dX6_envy_20 : decode cX6_envy 20 = .ok (.aload_n 0, 1) := by decide +kernel
theorem dX6_envy_21 : decode cX6_envy 21 = .ok (.iload_n 1, 1) := by decide +kernel
theorem dX6_envy_22 : decode cX6_envy 22 = .ok (.invokevirtual 64, 3) := by decide +kernel
theorem dX6_envy_25 : decode cX6_envy 25 = .ok (.istore_n 3, 1) := by decide +kernel
theorem dX6_envy_26 : decode cX6_envy 26 = .ok (.bipush (-4), 2) := by decide +kernel
theorem dX6_envy_28 : decode cX6_envy 28 = .ok (.istore 4, 2) := by decide +kernel
theorem dX6_envy_30 : decode cX6_envy 30 = .ok (.aload_n 0, 1) := by decide +kernel
theorem dX6_envy_31 : decode cX6_envy 31 = .ok (.invokevirtual 197, 3) := by decide +kernel
theorem dX6_envy_34 : decode cX6_envy 34 = .ok (.iconst 0, 1) := by decide +kernel
theorem dX6_envy_35 : decode cX6_envy 35 = .ok (.istore 5, 2) := by decide +kernel
theorem dX6_envy_37 : decode cX6_envy 37 = .ok (.iload 5, 2) := by decide +kernel
theorem dX6_envy_39 : decode cX6_envy 39 = .ok (.aload_n 0, 1) := by decide +kernel
theorem dX6_envy_40 : decode cX6_envy 40 = .ok (.getfield 7, 3) := by decide +kernel
theorem dX6_envy_43 : decode cX6_envy 43 = .ok (.iconst 0, 1) := by decide +kernel
theorem dX6_envy_44 : decode cX6_envy 44 = .ok (.iaload, 1) := by decide +kernel
theorem dX6_envy_45 : decode cX6_envy 45 = .ok (.if_icmp .ge 101, 3) := by decide +kernel
theorem dX6_envy_48 : decode cX6_envy 48 = .ok (.iload 5, 2) := by decide +kernel
theorem dX6_envy_50 : decode cX6_envy 50 = .ok (.iload_n 1, 1) := by decide +kernel
theorem dX6_envy_51 : decode cX6_envy 51 = .ok (.if_icmp .eq 89, 3) := by decide +kernel
theorem dX6_envy_54 : decode cX6_envy 54 = .ok (.iconst 0, 1) := by decide +kernel
theorem dX6_envy_55 : decode cX6_envy 55 = .ok (.istore 6, 2) := by decide +kernel
theorem dX6_envy_57 : decode cX6_envy 57 = .ok (.iload 6, 2) := by decide +kernel
theorem dX6_envy_59 : decode cX6_envy 59 = .ok (.bipush 12, 2) := by decide +kernel
theorem dX6_envy_61 : decode cX6_envy 61 = .ok (.if_icmp .ge 40, 3) := by decide +kernel
theorem dX6_envy_64 : decode cX6_envy 64 = .ok (.aload_n 0, 1) := by decide +kernel
theorem dX6_envy_65 : decode cX6_envy 65 = .ok (.getfield 7, 3) := by decide +kernel
theorem dX6_envy_68 : decode cX6_envy 68 = .ok (.bipush 23, 2) := by decide +kernel
theorem dX6_envy_70 : decode cX6_envy 70 = .ok (.bipush 12, 2) := by decide +kernel
theorem dX6_envy_72 : decode cX6_envy 72 = .ok (.iload_n 1, 1) := by decide +kernel
theorem dX6_envy_73 : decode cX6_envy 73 = .ok (.imul, 1) := by decide +kernel
theorem dX6_envy_74 : decode cX6_envy 74 = .ok (.iadd, 1) := by decide +kernel
theorem dX6_envy_75 : decode cX6_envy 75 = .ok (.iload 6, 2) := by decide +kernel
theorem dX6_envy_77 : decode cX6_envy 77 = .ok (.iadd, 1) := by decide +kernel
theorem dX6_envy_78 : decode cX6_envy 78 = .ok (.aload_n 0, 1) := by decide +kernel
theorem dX6_envy_79 : decode cX6_envy 79 = .ok (.getfield 22, 3) := by decide +kernel
theorem dX6_envy_82 : decode cX6_envy 82 = .ok (.bipush 23, 2) := by decide +kernel
theorem dX6_envy_84 : decode cX6_envy 84 = .ok (.bipush 12, 2) := by decide +kernel
theorem dX6_envy_86 : decode cX6_envy 86 = .ok (.iload 5, 2) := by decide +kernel
theorem dX6_envy_88 : decode cX6_envy 88 = .ok (.imul, 1) := by decide +kernel
theorem dX6_envy_89 : decode cX6_envy 89 = .ok (.iadd, 1) := by decide +kernel
theorem dX6_envy_90 : decode cX6_envy 90 = .ok (.iload 6, 2) := by decide +kernel
theorem dX6_envy_92 : decode cX6_envy 92 = .ok (.iadd, 1) := by decide +kernel
theorem dX6_envy_93 : decode cX6_envy 93 = .ok (.iaload, 1) := by decide +kernel
theorem dX6_envy_94 : decode cX6_envy 94 = .ok (.iastore, 1) := by decide +kernel
theorem dX6_envy_95 : decode cX6_envy 95 = .ok (.iinc 6 1, 3) := by decide +kernel
theorem dX6_envy_98 : decode cX6_envy 98 = .ok (.goto (-41), 3) := by decide +kernel
theorem dX6_envy_101 : decode cX6_envy 101 = .ok (.aload_n 0, 1) := by decide +kernel
theorem dX6_envy_102 : decode cX6_envy 102 = .ok (.iload_n 1, 1) := by decide +kernel
theorem dX6_envy_103 : decode cX6_envy 103 = .ok (.invokevirtual 64, 3) := by decide +kernel
theorem dX6_envy_106 : decode cX6_envy 106 = .ok (.istore 6, 2) := by decide +kernel
theorem dX6_envy_108 : decode cX6_envy 108 = .ok (.iload 6, 2) := by decide +kernel
theorem dX6_envy_110 : decode cX6_envy 110 = .ok (.iload_n 3, 1) := by decide +kernel
theorem dX6_envy_111 : decode cX6_envy 111 = .ok (.if_icmp .le 8, 3) := by decide +kernel
theorem dX6_envy_114 : decode cX6_envy 114 = .ok (.iload 5, 2) := by decide +kernel
theorem dX6_envy_116 : decode cX6_envy 116 = .ok (.goto 5, 3) := by decide +kernel
theorem dX6_envy_119 : decode cX6_envy 119 = .ok (.iload 4, 2) := by decide +kernel
theorem dX6_envy_121 : decode cX6_envy 121 = .ok (.istore 4, 2) := by decide +kernel
theorem dX6_envy_123 : decode cX6_envy 123 = .ok (.iload 6, 2) := by decide +kernel
theorem dX6_envy_125 : decode cX6_envy 125 = .ok (.iload_n 3, 1) := by decide +kernel
theorem dX6_envy_126 : decode cX6_envy 126 = .ok (.if_icmp .le 8, 3) := by decide +kernel
theorem dX6_envy_129 : decode cX6_envy 129 = .ok (.iload 6, 2) := by decide +kernel
theorem dX6_envy_131 : decode cX6_envy 131 = .ok (.goto 4, 3) := by decide +kernel
theorem dX6_envy_134 : decode cX6_envy 134 = .ok (.iload_n 3, 1) := by decide +kernel
theorem dX6_envy_135 : decode cX6_envy 135 = .ok (.istore_n 3, 1) := by decide +kernel
theorem dX6_envy_136 : decode cX6_envy 136 = .ok (.aload_n 0, 1) := by decide +kernel
theorem dX6_envy_137 : decode cX6_envy 137 = .ok (.invokevirtual 200, 3) := by decide +kernel
theorem dX6_envy_140 : decode cX6_envy 140 = .ok (.iinc 5 1, 3) := by decide +kernel
theorem dX6_envy_143 : decode cX6_envy 143 = .ok (.goto (-106), 3) := by decide +kernel
theorem dX6_envy_146 : decode cX6_envy 146 = .ok (.iload_n 2, 1) := by decide +kernel
theorem dX6_envy_147 : decode cX6_envy 147 = .ok (.ifCond .eq 10, 3) := by decide +kernel
theorem dX6_envy_150 : decode cX6_envy 150 = .ok (.iload 4, 2) := by decide +kernel
theorem dX6_envy_152 : decode cX6_envy 152 = .ok (.bipush (-4), 2) := by decide +kernel
theorem dX6_envy_154 : decode cX6_envy 154 = .ok (.if_icmp .ne 8, 3) := by decide +kernel
theorem dX6_envy_157 : decode cX6_envy 157 = .ok (.iload 4, 2) := by decide +kernel
theorem dX6_envy_159 : decode cX6_envy 159 = .ok (.goto 4, 3) := by decide +kernel
theorem dX6_envy_162 : decode cX6_envy 162 = .ok (.iload_n 3, 1) := by decide +kernel
theorem dX6_envy_163 : decode cX6_envy 163 = .ok (.ireturn, 1) := by decide +kernel
theorem dX6_both_0 : decode cX6_both 0 = .ok (.aload_n 0, 1) := by decide +kernel
theorem dX6_both_1 : decode cX6_both 1 = .ok (.iload_n 1, 1) := by decide +kernel
theorem dX6_both_2 : decode cX6_both 2 = .ok (.invokevirtual 78, 3) := by decide +kernel
theorem dX6_both_5 : decode cX6_both 5 = .ok (.ifCond .eq 25, 3) := by decide +kernel
theorem dX6_both_8 : decode cX6_both 8 = .ok (.aload_n 0, 1) := by decide +kernel
theorem dX6_both_9 : decode cX6_both 9 = .ok (.iload_n 2, 1) := by decide +kernel
theorem dX6_both_10 : decode cX6_both 10 = .ok (.invokevirtual 78, 3) := by decide +kernel
theorem dX6_both_13 : decode cX6_both 13 = .ok (.ifCond .eq 17, 3) := by decide +kernel
theorem dX6_both_16 : decode cX6_both 16 = .ok (.aload_n 0, 1) := by decide +kernel
theorem dX6_both_17 : decode cX6_both 17 = .ok (.iload_n 1, 1) := by decide +kernel
theorem dX6_both_18 : decode cX6_both 18 = .ok (.invokevirtual 86, 3) := by decide +kernel
theorem dX6_both_21 : decode cX6_both 21 = .ok (.aload_n 0, 1) := by decide +kernel
theorem dX6_both_22 : decode cX6_both 22 = .ok (.iload_n 2, 1) := by decide +kernel
theorem dX6_both_23 : decode cX6_both 23 = .ok (.invokevirtual 86, 3) := by decide +kernel
theorem dX6_both_26 : decode cX6_both 26 = .ok (.iand, 1) := by decide +kernel
theorem dX6_both_27 : decode cX6_both 27 = .ok (.goto 4, 3) := by decide +kernel
theorem dX6_both_30 : decode cX6_both 30 = .ok (.iconst (-1), 1) := by decide +kernel
theorem dX6_both_31 : decode cX6_both 31 = .ok (.ireturn, 1) := by decide +kernel
theorem dX6_hands_0 : decode cX6_hands 0 = .ok (.iload_n 1, 1) := by decide +kernel
theorem dX6_hands_1 : decode cX6_hands 1 = .ok (.invokestatic 92, 3) := by decide +kernel
theorem dX6_hands_4 : decode cX6_hands 4 = .ok (.ifCond .ne 5, 3) := by decide +kernel
theorem dX6_hands_7 : decode cX6_hands 7 = .ok (.iconst (-1), 1) := by decide +kernel
theorem dX6_hands_8 : decode cX6_hands 8 = .ok (.ireturn, 1) := by decide +kernel
theorem dX6_hands_9 : decode cX6_hands 9 = .ok (.iconst 0, 1) := by decide +kernel
theorem dX6_hands_10 : decode cX6_hands 10 = .ok (.istore_n 2, 1) := by decide +kernel
theorem dX6_hands_11 : decode cX6_hands 11 = .ok (.iconst 0, 1) := by decide +kernel
theorem dX6_hands_12 : decode cX6_hands 12 = .ok (.istore_n 3, 1) := by decide +kernel
theorem dX6_hands_13 : decode cX6_hands 13 = .ok (.iload_n 3, 1) := by decide +kernel
theorem dX6_hands_14 : decode cX6_hands 14 = .ok (.aload_n 0, 1) := by decide +kernel
theorem dX6_hands_15 : decode cX6_hands 15 = .ok (.getfield 7, 3) := by decide +kernel
theorem dX6_hands_18 : decode cX6_hands 18 = .ok (.iconst 0, 1) := by decide +kernel
theorem dX6_hands_19 : decode cX6_hands 19 = .ok (.iaload, 1) := by decide +kernel
theorem dX6_hands_20 : decode cX6_hands 20 = .ok (.if_icmp .ge 28, 3) := by decide +kernel
theorem dX6_hands_23 : decode cX6_hands 23 = .ok (.iload_n 2, 1) := by decide +kernel
theorem dX6_hands_24 : decode cX6_hands 24 = .ok (.aload_n 0, 1) := by decide +kernel
theorem dX6_hands_25 : decode cX6_hands 25 = .ok (.iload_n 3, 1) := by decide +kernel
theorem dX6_hands_26 : decode cX6_hands 26 = .ok (.iload_n 1, 1) := by decide +kernel
theorem dX6_hands_27 : decode cX6_hands 27 = .ok (.invokevirtual 51, 3) := by decide +kernel
theorem dX6_hands_30 : decode cX6_hands 30 = .ok (.ifCond .eq 7, 3) := by decide +kernel
theorem dX6_hands_33 : decode cX6_hands 33 = .ok (.iconst 0, 1) := by decide +kernel
theorem dX6_hands_34 : decode cX6_hands 34 = .ok (.goto 6, 3) := by decide +kernel
theorem dX6_hands_37 : decode cX6_hands 37 = .ok (.iconst 1, 1) := by decide +kernel
theorem dX6_hands_38 : decode cX6_hands 38 = .ok (.iload_n 3, 1) := by decide +kernel
theorem dX6_hands_39 : decode cX6_hands 39 = .ok (.ishl, 1) := by decide +kernel
theorem dX6_hands_40 : decode cX6_hands 40 = .ok (.ior, 1) := by decide +kernel
theorem dX6_hands_41 : decode cX6_hands 41 = .ok (.istore_n 2, 1) := by decide +kernel
theorem dX6_hands_42 : decode cX6_hands 42 = .ok (.iinc 3 1, 3) := by decide +kernel
theorem dX6_hands_45 : decode cX6_hands 45 = .ok (.goto (-32), 3) := by decide +kernel
theorem dX6_hands_48 : decode cX6_hands 48 = .ok (.iload_n 2, 1) := by decide +kernel
theorem dX6_hands_49 : decode cX6_hands 49 = .ok (.ireturn, 1) := by decide +kernel
theorem dX6_rain_0 : decode cX6_rain 0 = .ok (.aload_n 0, 1) := by decide +kernel
theorem dX6_rain_1 : decode cX6_rain 1 = .ok (.iload_n 1, 1) := by decide +kernel
theorem dX6_rain_2 : decode cX6_rain 2 = .ok (.invokevirtual 78, 3) := by decide +kernel
theorem dX6_rain_5 : decode cX6_rain 5 = .ok (.ifCond .eq 38, 3) := by decide +kernel
theorem dX6_rain_8 : decode cX6_rain 8 = .ok (.iload_n 2, 1) := by decide +kernel
theorem dX6_rain_9 : decode cX6_rain 9 = .ok (.i2l, 1) := by decide +kernel
theorem dX6_rain_10 : decode cX6_rain 10 = .ok (.lconst 0, 1) := by decide +kernel
theorem dX6_rain_11 : decode cX6_rain 11 = .ok (.ldc2_w 205, 3) := by decide +kernel
theorem dX6_rain_14 : decode cX6_rain 14 = .ok (.invokestatic 41, 3) := by decide +kernel
theorem dX6_rain_17 : decode cX6_rain 17 = .ok (.ifCond .eq 26, 3) := by decide +kernel
theorem dX6_rain_20 : decode cX6_rain 20 = .ok (.iload_n 3, 1) := by decide +kernel
theorem dX6_rain_21 : decode cX6_rain 21 = .ok (.i2l, 1) := by decide +kernel
theorem dX6_rain_22 : decode cX6_rain 22 = .ok (.lconst 0, 1) := by decide +kernel
theorem dX6_rain_23 : decode cX6_rain 23 = .ok (.ldc2_w 207, 3) := by decide +kernel
theorem dX6_rain_26 : decode cX6_rain 26 = .ok (.invokestatic 41, 3) := by decide +kernel
theorem dX6_rain_29 : decode cX6_rain 29 = .ok (.ifCond .eq 14, 3) := by decide +kernel
theorem dX6_rain_32 : decode cX6_rain 32 = .ok (.iload 4, 2) := by decide +kernel
theorem dX6_rain_34 : decode cX6_rain 34 = .ok (.i2l, 1) := by decide +kernel
theorem dX6_rain_35 : decode cX6_rain 35 = .ok (.lconst 0, 1) := by decide +kernel
theorem dX6_rain_36 : decode cX6_rain 36 = .ok (.lconst 1, 1) := by decide +kernel
theorem dX6_rain_37 : decode cX6_rain 37 = .ok (.invokestatic 41, 3) := by decide +kernel
theorem dX6_rain_40 : decode cX6_rain 40 = .ok (.ifCond .ne 5, 3) := by decide +kernel
theorem dX6_rain_43 : decode cX6_rain 43 = .ok (.iconst (-1), 1) := by decide +kernel
theorem dX6_rain_44 : decode cX6_rain 44 = .ok (.ireturn, 1) := by decide +kernel
theorem dX6_rain_45 : decode cX6_rain 45 = .ok (.aload_n 0, 1) := by decide +kernel
theorem dX6_rain_46 : decode cX6_rain 46 = .ok (.getfield 7, 3) := by decide +kernel
theorem dX6_rain_49 : decode cX6_rain 49 = .ok (.iconst 2, 1) := by decide +kernel
theorem dX6_rain_50 : decode cX6_rain 50 = .ok (.iaload, 1) := by decide +kernel
theorem dX6_rain_51 : decode cX6_rain 51 = .ok (.istore 5, 2) := by decide +kernel
theorem dX6_rain_53 : decode cX6_rain 53 = .ok (.iconst 0, 1) := by decide +kernel
theorem dX6_rain_54 : decode cX6_rain 54 = .ok (.istore 6, 2) := by decide +kernel
theorem dX6_rain_56 : decode cX6_rain 56 = .ok (.iconst 0, 1) := by decide +kernel
theorem dX6_rain_57 : decode cX6_rain 57 = .ok (.istore 7, 2) := by decide +kernel
theorem dX6_rain_59 : decode cX6_rain 59 = .ok (.iconst 0, 1) := by decide +kernel
theorem dX6_rain_60 : decode cX6_rain 60 = .ok (.istore 8, 2) := by decide +kernel
theorem dX6_rain_62 : decode cX6_rain 62 = .ok (.iload 8, 2) := by decide +kernel
theorem dX6_rain_64 : decode cX6_rain 64 = .ok (.bipush 64, 2) := by decide +kernel
theorem dX6_rain_66 : decode cX6_rain 66 = .ok (.if_icmp .ge 113, 3) := by decide +kernel
theorem dX6_rain_69 : decode cX6_rain 69 = .ok (.iload 8, 2) := by decide +kernel
theorem dX6_rain_71 : decode cX6_rain 71 = .ok (.iload 5, 2) := by decide +kernel
theorem dX6_rain_73 : decode cX6_rain 73 = .ok (.iand, 1) := by decide +kernel
theorem dX6_rain_74 : decode cX6_rain 74 = .ok (.ifCond .ne 99, 3) := by decide +kernel
theorem dX6_rain_77 : decode cX6_rain 77 = .ok (.iconst 1, 1) := by decide +kernel
theorem dX6_rain_78 : decode cX6_rain 78 = .ok (.istore 9, 2) := by decide +kernel
theorem dX6_rain_80 : decode cX6_rain 80 = .ok (.iconst 0, 1) := by decide +kernel
theorem dX6_rain_81 : decode cX6_rain 81 = .ok (.istore 10, 2) := by decide +kernel
theorem dX6_rain_83 : decode cX6_rain 83 = .ok (.iload 10, 2) := by decide +kernel
theorem dX6_rain_85 : decode cX6_rain 85 = .ok (.bipush 6, 2) := by decide +kernel
theorem dX6_rain_87 : decode cX6_rain 87 = .ok (.if_icmp .ge 48, 3) := by decide +kernel
theorem dX6_rain_90 : decode cX6_rain 90 = .ok (.iload 9, 2) := by decide +kernel
theorem dX6_rain_92 : decode cX6_rain 92 = .ok (.iload 5, 2) := by decide +kernel
theorem dX6_rain_94 : decode cX6_rain 94 = .ok (.iload 10, 2) := by decide +kernel
theorem dX6_rain_96 : decode cX6_rain 96 = .ok (.ishr, 1) := by decide +kernel
theorem dX6_rain_97 : decode cX6_rain 97 = .ok (.iconst 1, 1) := by decide +kernel
theorem dX6_rain_98 : decode cX6_rain 98 = .ok (.iand, 1) := by decide +kernel
theorem dX6_rain_99 : decode cX6_rain 99 = .ok (.iconst 1, 1) := by decide +kernel
theorem dX6_rain_100 : decode cX6_rain 100 = .ok (.if_icmp .ne 7, 3) := by decide +kernel
theorem dX6_rain_103 : decode cX6_rain 103 = .ok (.iconst 1, 1) := by decide +kernel
theorem dX6_rain_104 : decode cX6_rain 104 = .ok (.goto 22, 3) := by decide +kernel
theorem dX6_rain_107 : decode cX6_rain 107 = .ok (.iload 8, 2) := by decide +kernel
theorem dX6_rain_109 : decode cX6_rain 109 = .ok (.iload 10, 2) := by decide +kernel
theorem dX6_rain_111 : decode cX6_rain 111 = .ok (.ishr, 1) := by decide +kernel
theorem dX6_rain_112 : decode cX6_rain 112 = .ok (.iconst 1, 1) := by decide +kernel
theorem dX6_rain_113 : decode cX6_rain 113 = .ok (.iand, 1) := by decide +kernel
theorem dX6_rain_114 : decode cX6_rain 114 = .ok (.iconst 1, 1) := by decide +kernel
theorem dX6_rain_115 : decode cX6_rain 115 = .ok (.if_icmp .ne 7, 3) := by decide +kernel
theorem dX6_rain_118 : decode cX6_rain 118 = .ok (.iload_n 3, 1) := by decide +kernel
theorem dX6_rain_119 : decode cX6_rain 119 = .ok (.goto 7, 3) := by decide +kernel
theorem dX6_rain_122 : decode cX6_rain 122 = .ok (.bipush 10, 2) := by decide +kernel
theorem dX6_rain_124 : decode cX6_rain 124 = .ok (.iload_n 3, 1) := by decide +kernel
theorem dX6_rain_125 : decode cX6_rain 125 = .ok (.isub, 1) := by decide +kernel
theorem dX6_rain_126 : decode cX6_rain 126 = .ok (.imul, 1) := by decide +kernel
theorem dX6_rain_127 : decode cX6_rain 127 = .ok (.istore 9, 2) := by decide +kernel
theorem dX6_rain_129 : decode cX6_rain 129 = .ok (.iinc 10 1, 3) := by decide +kernel
theorem dX6_rain_132 : decode cX6_rain 132 = .ok (.goto (-49), 3) := by decide +kernel
theorem dX6_rain_135 : decode cX6_rain 135 = .ok (.aload_n 0, 1) := by decide +kernel
theorem dX6_rain_136 : decode cX6_rain 136 = .ok (.getfield 7, 3) := by decide +kernel
theorem dX6_rain_139 : decode cX6_rain 139 = .ok (.iconst 2, 1) := by decide +kernel
theorem dX6_rain_140 : decode cX6_rain 140 = .ok (.iload 5, 2) := by decide +kernel
theorem dX6_rain_142 : decode cX6_rain 142 = .ok (.iload 8, 2) := by decide +kernel
theorem dX6_rain_144 : decode cX6_rain 144 = .ok (.ior, 1) := by decide +kernel
theorem dX6_rain_145 : decode cX6_rain 145 = .ok (.iastore, 1) := by decide +kernel
theorem dX6_rain_146 : decode cX6_rain 146 = .ok (.iload 7, 2) := by decide +kernel
theorem dX6_rain_148 : decode cX6_rain 148 = .ok (.iload 9, 2) := by decide +kernel
theorem dX6_rain_150 : decode cX6_rain 150 = .ok (.iadd, 1) := by decide +kernel
theorem dX6_rain_151 : decode cX6_rain 151 = .ok (.istore 7, 2) := by decide +kernel
theorem dX6_rain_153 : decode cX6_rain 153 = .ok (.iload 6, 2) := by decide +kernel
theorem dX6_rain_155 : decode cX6_rain 155 = .ok (.aload_n 0, 1) := by decide +kernel
theorem dX6_rain_156 : decode cX6_rain 156 = .ok (.iload_n 1, 1) := by decide +kernel
theorem dX6_rain_157 : decode cX6_rain 157 = .ok (.invokevirtual 64, 3) := by decide +kernel
theorem dX6_rain_160 : decode cX6_rain 160 = .ok (.iload_n 2, 1) := by decide +kernel
theorem dX6_rain_161 : decode cX6_rain 161 = .ok (.if_icmp .lt 8, 3) := by decide +kernel
theorem dX6_rain_164 : decode cX6_rain 164 = .ok (.iload 9, 2) := by decide +kernel
theorem dX6_rain_166 : decode cX6_rain 166 = .ok (.goto 4, 3) := by decide +kernel
theorem dX6_rain_169 : decode cX6_rain 169 = .ok (.iconst 0, 1) := by decide +kernel
theorem dX6_rain_170 : decode cX6_rain 170 = .ok (.iadd, 1) := by decide +kernel
theorem dX6_rain_171 : decode cX6_rain 171 = .ok (.istore 6, 2) := by decide +kernel
theorem dX6_rain_173 : decode cX6_rain 173 = .ok (.iinc 8 1, 3) := by decide +kernel
theorem dX6_rain_176 : decode cX6_rain 176 = .ok (.goto (-114), 3) := by decide +kernel
theorem dX6_rain_179 : decode cX6_rain 179 = .ok (.aload_n 0, 1) := by decide +kernel
theorem dX6_rain_180 : decode cX6_rain 180 = .ok (.getfield 7, 3) := by decide +kernel
theorem dX6_rain_183 : decode cX6_rain 183 = .ok (.iconst 2, 1) := by decide +kernel
theorem dX6_rain_184 : decode cX6_rain 184 = .ok (.iload 5, 2) := by decide +kernel
theorem dX6_rain_186 : decode cX6_rain 186 = .ok (.iastore, 1) := by decide +kernel
theorem dX6_rain_187 : decode cX6_rain 187 = .ok (.iload 6, 2) := by decide +kernel
theorem dX6_rain_189 : decode cX6_rain 189 = .ok (.istore 8, 2) := by decide +kernel
theorem dX6_rain_191 : decode cX6_rain 191 = .ok (.iload 7, 2) := by decide +kernel
theorem dX6_rain_193 : decode cX6_rain 193 = .ok (.istore 9, 2) := by decide +kernel
theorem dX6_rain_195 : decode cX6_rain 195 = .ok (.iload 9, 2) := by decide +kernel
theorem dX6_rain_197 : decode cX6_rain 197 = .ok (.ifCond .eq 21, 3) := by decide +kernel
theorem dX6_rain_200 : decode cX6_rain 200 = .ok (.iload 8, 2) := by decide +kernel
theorem dX6_rain_202 : decode cX6_rain 202 = .ok (.iload 9, 2) := by decide +kernel
theorem dX6_rain_204 : decode cX6_rain 204 = .ok (.irem, 1) := by decide +kernel
theorem dX6_rain_205 : decode cX6_rain 205 = .ok (.istore 10, 2) := by decide +kernel
theorem dX6_rain_207 : decode cX6_rain 207 = .ok (.iload 9, 2) := by decide +kernel
theorem dX6_rain_209 : decode cX6_rain 209 = .ok (.istore 8, 2) := by decide +kernel
theorem dX6_rain_211 : decode cX6_rain 211 = .ok (.iload 10, 2) := by decide +kernel
theorem dX6_rain_213 : decode cX6_rain 213 = .ok (.istore 9, 2) := by decide +kernel
theorem dX6_rain_215 : decode cX6_rain 215 = .ok (.goto (-20), 3) := by decide +kernel
theorem dX6_rain_218 : decode cX6_rain 218 = .ok (.iload 4, 2) := by decide +kernel
theorem dX6_rain_220 : decode cX6_rain 220 = .ok (.ifCond .ne 11, 3) := by decide +kernel
theorem dX6_rain_223 : decode cX6_rain 223 = .ok (.iload 6, 2) := by decide +kernel
theorem dX6_rain_225 : decode cX6_rain 225 = .ok (.iload 8, 2) := by decide +kernel
theorem dX6_rain_227 : decode cX6_rain 227 = .ok (.idiv, 1) := by decide +kernel
theorem dX6_rain_228 : decode cX6_rain 228 = .ok (.goto 8, 3) := by decide +kernel
theorem dX6_rain_231 : decode cX6_rain 231 = .ok (.iload 7, 2) := by decide +kernel
theorem dX6_rain_233 : decode cX6_rain 233 = .ok (.iload 8, 2) := by decide +kernel
theorem dX6_rain_235 : decode cX6_rain 235 = .ok (.idiv, 1) := by decide +kernel
theorem dX6_rain_236 : decode cX6_rain 236 = .ok (.ireturn, 1) := by decide +kernel
theorem dX6_image_0 : decode cX6_image 0 = .ok (.iconst 0, 1) := by decide +kernel
theorem dX6_image_1 : decode cX6_image 1 = .ok (.istore_n 1, 1) := by decide +kernel
theorem dX6_image_2 : decode cX6_image 2 = .ok (.iload_n 1, 1) := by decide +kernel
theorem dX6_image_3 : decode cX6_image 3 = .ok (.bipush 95, 2) := by decide +kernel
theorem dX6_image_5 : decode cX6_image 5 = .ok (.if_icmp .ge 21, 3) := by decide +kernel
theorem dX6_image_8 : decode cX6_image 8 = .ok (.aload_n 0, 1) := by decide +kernel
theorem dX6_image_9 : decode cX6_image 9 = .ok (.getfield 25, 3) := by decide +kernel
theorem dX6_image_12 : decode cX6_image 12 = .ok (.iload_n 1, 1) := by decide +kernel
theorem dX6_image_13 : decode cX6_image 13 = .ok (.aload_n 0, 1) := by decide +kernel
theorem dX6_image_14 : decode cX6_image 14 = .ok (.getfield 7, 3) := by decide +kernel
theorem dX6_image_17 : decode cX6_image 17 = .ok (.iload_n 1, 1) := by decide +kernel
theorem dX6_image_18 : decode cX6_image 18 = .ok (.iaload, 1) := by decide +kernel
theorem dX6_image_19 : decode cX6_image 19 = .ok (.iastore, 1) := by decide +kernel
theorem dX6_image_20 : decode cX6_image 20 = .ok (.iinc 1 1, 3) := by decide +kernel
theorem dX6_image_23 : decode cX6_image 23 = .ok (.goto (-21), 3) := by decide +kernel
theorem dX6_image_26 : decode cX6_image 26 = .ok (.iconst 0, 1) := by decide +kernel
theorem dX6_image_27 : decode cX6_image 27 = .ok (.istore_n 1, 1) := by decide +kernel
theorem dX6_image_28 : decode cX6_image 28 = .ok (.iload_n 1, 1) := by decide +kernel
theorem dX6_image_29 : decode cX6_image 29 = .ok (.sipush 648, 3) := by decide +kernel
theorem dX6_image_32 : decode cX6_image 32 = .ok (.if_icmp .ge 24, 3) := by decide +kernel
theorem dX6_image_35 : decode cX6_image 35 = .ok (.aload_n 0, 1) := by decide +kernel
theorem dX6_image_36 : decode cX6_image 36 = .ok (.getfield 25, 3) := by decide +kernel
theorem dX6_image_39 : decode cX6_image 39 = .ok (.bipush 95, 2) := by decide +kernel
theorem dX6_image_41 : decode cX6_image 41 = .ok (.iload_n 1, 1) := by decide +kernel
theorem dX6_image_42 : decode cX6_image 42 = .ok (.iadd, 1) := by decide +kernel
theorem dX6_image_43 : decode cX6_image 43 = .ok (.aload_n 0, 1) := by decide +kernel
theorem dX6_image_44 : decode cX6_image 44 = .ok (.getfield 19, 3) := by decide +kernel
theorem dX6_image_47 : decode cX6_image 47 = .ok (.iload_n 1, 1) := by decide +kernel
theorem dX6_image_48 : decode cX6_image 48 = .ok (.iaload, 1) := by decide +kernel
theorem dX6_image_49 : decode cX6_image 49 = .ok (.iastore, 1) := by decide +kernel
theorem dX6_image_50 : decode cX6_image 50 = .ok (.iinc 1 1, 3) := by decide +kernel
theorem dX6_image_53 : decode cX6_image 53 = .ok (.goto (-25), 3) := by decide +kernel
theorem dX6_image_56 : decode cX6_image 56 = .ok (.aload_n 0, 1) := by decide +kernel
theorem dX6_image_57 : decode cX6_image 57 = .ok (.aload_n 0, 1) := by decide +kernel
theorem dX6_image_58 : decode cX6_image 58 = .ok (.getfield 68, 3) := by decide +kernel
theorem dX6_image_61 : decode cX6_image 61 = .ok (.putfield 209, 3) := by decide +kernel
theorem dX6_image_64 : decode cX6_image 64 = .ok (.aload_n 0, 1) := by decide +kernel
theorem dX6_image_65 : decode cX6_image 65 = .ok (.iconst 1, 1) := by decide +kernel
theorem dX6_image_66 : decode cX6_image 66 = .ok (.putfield 212, 3) := by decide +kernel
theorem dX6_image_69 : decode cX6_image 69 = .ok (.iconst 1, 1) := by decide +kernel
theorem dX6_image_70 : decode cX6_image 70 = .ok (.ireturn, 1) := by decide +kernel
theorem dX6_restore_0 : decode cX6_restore 0 = .ok (.aload_n 0, 1) := by decide +kernel
theorem dX6_restore_1 : decode cX6_restore 1 = .ok (.getfield 212, 3) := by decide +kernel
theorem dX6_restore_4 : decode cX6_restore 4 = .ok (.ifCond .ne 6, 3) := by decide +kernel
theorem dX6_restore_7 : decode cX6_restore 7 = .ok (.bipush (-4), 2) := by decide +kernel
theorem dX6_restore_9 : decode cX6_restore 9 = .ok (.ireturn, 1) := by decide +kernel
theorem dX6_restore_10 : decode cX6_restore 10 = .ok (.iconst 0, 1) := by decide +kernel
theorem dX6_restore_11 : decode cX6_restore 11 = .ok (.istore_n 1, 1) := by decide +kernel
theorem dX6_restore_12 : decode cX6_restore 12 = .ok (.iload_n 1, 1) := by decide +kernel
theorem dX6_restore_13 : decode cX6_restore 13 = .ok (.bipush 95, 2) := by decide +kernel
theorem dX6_restore_15 : decode cX6_restore 15 = .ok (.if_icmp .ge 21, 3) := by decide +kernel
theorem dX6_restore_18 : decode cX6_restore 18 = .ok (.aload_n 0, 1) := by decide +kernel
theorem dX6_restore_19 : decode cX6_restore 19 = .ok (.getfield 7, 3) := by decide +kernel
theorem dX6_restore_22 : decode cX6_restore 22 = .ok (.iload_n 1, 1) := by decide +kernel
theorem dX6_restore_23 : decode cX6_restore 23 = .ok (.aload_n 0, 1) := by decide +kernel
theorem dX6_restore_24 : decode cX6_restore 24 = .ok (.getfield 25, 3) := by decide +kernel
theorem dX6_restore_27 : decode cX6_restore 27 = .ok (.iload_n 1, 1) := by decide +kernel
theorem dX6_restore_28 : decode cX6_restore 28 = .ok (.iaload, 1) := by decide +kernel
theorem dX6_restore_29 : decode cX6_restore 29 = .ok (.iastore, 1) := by decide +kernel
theorem dX6_restore_30 : decode cX6_restore 30 = .ok (.iinc 1 1, 3) := by decide +kernel
theorem dX6_restore_33 : decode cX6_restore 33 = .ok (.goto (-21), 3) := by decide +kernel
theorem dX6_restore_36 : decode cX6_restore 36 = .ok (.iconst 0, 1) := by decide +kernel
theorem dX6_restore_37 : decode cX6_restore 37 = .ok (.istore_n 1, 1) := by decide +kernel
theorem dX6_restore_38 : decode cX6_restore 38 = .ok (.iload_n 1, 1) := by decide +kernel
theorem dX6_restore_39 : decode cX6_restore 39 = .ok (.sipush 648, 3) := by decide +kernel
theorem dX6_restore_42 : decode cX6_restore 42 = .ok (.if_icmp .ge 24, 3) := by decide +kernel
theorem dX6_restore_45 : decode cX6_restore 45 = .ok (.aload_n 0, 1) := by decide +kernel
theorem dX6_restore_46 : decode cX6_restore 46 = .ok (.getfield 19, 3) := by decide +kernel
theorem dX6_restore_49 : decode cX6_restore 49 = .ok (.iload_n 1, 1) := by decide +kernel
theorem dX6_restore_50 : decode cX6_restore 50 = .ok (.aload_n 0, 1) := by decide +kernel
theorem dX6_restore_51 : decode cX6_restore 51 = .ok (.getfield 25, 3) := by decide +kernel
theorem dX6_restore_54 : decode cX6_restore 54 = .ok (.bipush 95, 2) := by decide +kernel
theorem dX6_restore_56 : decode cX6_restore 56 = .ok (.iload_n 1, 1) := by decide +kernel
theorem dX6_restore_57 : decode cX6_restore 57 = .ok (.iadd, 1) := by decide +kernel
theorem dX6_restore_58 : decode cX6_restore 58 = .ok (.iaload, 1) := by decide +kernel
theorem dX6_restore_59 : decode cX6_restore 59 = .ok (.iastore, 1) := by decide +kernel
theorem dX6_restore_60 : decode cX6_restore 60 = .ok (.iinc 1 1, 3) := by decide +kernel
theorem dX6_restore_63 : decode cX6_restore 63 = .ok (.goto (-25), 3) := by decide +kernel
theorem dX6_restore_66 : decode cX6_restore 66 = .ok (.aload_n 0, 1) := by decide +kernel
theorem dX6_restore_67 : decode cX6_restore 67 = .ok (.aload_n 0, 1) := by decide +kernel
theorem dX6_restore_68 : decode cX6_restore 68 = .ok (.getfield 209, 3) := by decide +kernel
theorem dX6_restore_71 : decode cX6_restore 71 = .ok (.putfield 68, 3) := by decide +kernel
theorem dX6_restore_74 : decode cX6_restore 74 = .ok (.iconst 1, 1) := by decide +kernel
theorem dX6_restore_75 : decode cX6_restore 75 = .ok (.ireturn, 1) := by decide +kernel
theorem dX6_isSheet_0 : decode cX6_isSheet 0 = .ok (.iload_n 0, 1) := by decide +kernel
theorem dX6_isSheet_1 : decode cX6_isSheet 1 = .ok (.i2l, 1) := by decide +kernel
theorem dX6_isSheet_2 : decode cX6_isSheet 2 = .ok (.lconst 0, 1) := by decide +kernel
theorem dX6_isSheet_3 : decode cX6_isSheet 3 = .ok (.ldc2_w 215, 3) := by decide +kernel
theorem dX6_isSheet_6 : decode cX6_isSheet 6 = .ok (.invokestatic 41, 3) := by decide +kernel
theorem dX6_isSheet_9 : decode cX6_isSheet 9 = .ok (.ireturn, 1) := by decide +kernel
theorem dX6_isLane_0 : decode cX6_isLane 0 = .ok (.iload_n 0, 1) := by decide +kernel
theorem dX6_isLane_1 : decode cX6_isLane 1 = .ok (.i2l, 1) := by decide +kernel
theorem dX6_isLane_2 : decode cX6_isLane 2 = .ok (.lconst 0, 1) := by decide +kernel
theorem dX6_isLane_3 : decode cX6_isLane 3 = .ok (.ldc2_w 215, 3) := by decide +kernel
theorem dX6_isLane_6 : decode cX6_isLane 6 = .ok (.invokestatic 41, 3) := by decide +kernel
theorem dX6_isLane_9 : decode cX6_isLane 9 = .ok (.ireturn, 1) := by decide +kernel
theorem dX6_why_0 : decode cX6_why 0 = .ok (.aload_n 0, 1) := by decide +kernel
theorem dX6_why_1 : decode cX6_why 1 = .ok (.getfield 28, 3) := by decide +kernel
theorem dX6_why_4 : decode cX6_why 4 = .ok (.iload_n 1, 1) := by decide +kernel
theorem dX6_why_5 : decode cX6_why 5 = .ok (.iaload, 1) := by decide +kernel
theorem dX6_why_6 : decode cX6_why 6 = .ok (.ifCond .ge 6, 3) := by decide +kernel
theorem dX6_why_9 : decode cX6_why 9 = .ok (.bipush (-11), 2) := by decide +kernel
theorem dX6_why_11 : decode cX6_why 11 = .ok (.ireturn, 1) := by decide +kernel
theorem dX6_why_12 : decode cX6_why 12 = .ok (.aload_n 0, 1) := by decide +kernel
theorem dX6_why_13 : decode cX6_why 13 = .ok (.getfield 28, 3) := by decide +kernel
theorem dX6_why_16 : decode cX6_why 16 = .ok (.iload_n 1, 1) := by decide +kernel
theorem dX6_why_17 : decode cX6_why 17 = .ok (.iaload, 1) := by decide +kernel
theorem dX6_why_18 : decode cX6_why 18 = .ok (.iload_n 2, 1) := by decide +kernel
theorem dX6_why_19 : decode cX6_why 19 = .ok (.if_icmp .eq 6, 3) := by decide +kernel
theorem dX6_why_22 : decode cX6_why 22 = .ok (.bipush (-12), 2) := by decide +kernel
theorem dX6_why_24 : decode cX6_why 24 = .ok (.ireturn, 1) := by decide +kernel
theorem dX6_why_25 : decode cX6_why 25 = .ok (.iload_n 3, 1) := by decide +kernel
theorem dX6_why_26 : decode cX6_why 26 = .ok (.ifCond .lt 25, 3) := by decide +kernel
theorem dX6_why_29 : decode cX6_why 29 = .ok (.iload 4, 2) := by decide +kernel
theorem dX6_why_31 : decode cX6_why 31 = .ok (.ifCond .lt 20, 3) := by decide +kernel
theorem dX6_why_34 : decode cX6_why 34 = .ok (.iload_n 3, 1) := by decide +kernel
theorem dX6_why_35 : decode cX6_why 35 = .ok (.i2l, 1) := by decide +kernel
theorem dX6_why_36 : decode cX6_why 36 = .ok (.iload 4, 2) := by decide +kernel
theorem dX6_why_38 : decode cX6_why 38 = .ok (.i2l, 1) := by decide +kernel
theorem dX6_why_39 : decode cX6_why 39 = .ok (.ladd, 1) := by decide +kernel
theorem dX6_why_40 : decode cX6_why 40 = .ok (.aload_n 0, 1) := by decide +kernel
theorem dX6_why_41 : decode cX6_why 41 = .ok (.getfield 31, 3) := by decide +kernel
theorem dX6_why_44 : decode cX6_why 44 = .ok (.iload_n 1, 1) := by decide +kernel
theorem dX6_why_45 : decode cX6_why 45 = .ok (.iaload, 1) := by decide +kernel
theorem dX6_why_46 : decode cX6_why 46 = .ok (.i2l, 1) := by decide +kernel
theorem dX6_why_47 : decode cX6_why 47 = .ok (.lcmp, 1) := by decide +kernel
theorem dX6_why_48 : decode cX6_why 48 = .ok (.ifCond .le 8, 3) := by decide +kernel
theorem dX6_why_51 : decode cX6_why 51 = .ok (.bipush (-13), 2) := by decide +kernel
theorem dX6_why_53 : decode cX6_why 53 = .ok (.goto 4, 3) := by decide +kernel
theorem dX6_why_56 : decode cX6_why 56 = .ok (.iconst 0, 1) := by decide +kernel
theorem dX6_why_57 : decode cX6_why 57 = .ok (.ireturn, 1) := by decide +kernel
theorem dX6_isSo_0 : decode cX6_isSo 0 = .ok (.iconst 1, 1) := by decide +kernel
theorem dX6_isSo_1 : decode cX6_isSo 1 = .ok (.istore 4, 2) := by decide +kernel
theorem dX6_isSo_3 : decode cX6_isSo 3 = .ok (.iconst 0, 1) := by decide +kernel
theorem dX6_isSo_4 : decode cX6_isSo 4 = .ok (.istore 5, 2) := by decide +kernel
theorem dX6_isSo_6 : decode cX6_isSo 6 = .ok (.iload 5, 2) := by decide +kernel
theorem dX6_isSo_8 : decode cX6_isSo 8 = .ok (.iload_n 3, 1) := by decide +kernel
theorem dX6_isSo_9 : decode cX6_isSo 9 = .ok (.if_icmp .ge 42, 3) := by decide +kernel
theorem dX6_isSo_12 : decode cX6_isSo 12 = .ok (.iload 4, 2) := by decide +kernel
theorem dX6_isSo_14 : decode cX6_isSo 14 = .ok (.ifCond .eq 28, 3) := by decide +kernel
theorem dX6_isSo_17 : decode cX6_isSo 17 = .ok (.aload_n 0, 1) := by decide +kernel
theorem dX6_isSo_18 : decode cX6_isSo 18 = .ok (.iload_n 1, 1) := by decide +kernel
theorem dX6_isSo_19 : decode cX6_isSo 19 = .ok (.iload 5, 2) := by decide +kernel
theorem dX6_isSo_21 : decode cX6_isSo 21 = .ok (.invokevirtual 61, 3) := by decide +kernel
theorem dX6_isSo_24 : decode cX6_isSo 24 = .ok (.i2l, 1) := by decide +kernel
theorem dX6_isSo_25 : decode cX6_isSo 25 = .ok (.aload_n 0, 1) := by decide +kernel
theorem dX6_isSo_26 : decode cX6_isSo 26 = .ok (.getfield 34, 3) := by decide +kernel
theorem dX6_isSo_29 : decode cX6_isSo 29 = .ok (.iload_n 2, 1) := by decide +kernel
theorem dX6_isSo_30 : decode cX6_isSo 30 = .ok (.iload 5, 2) := by decide +kernel
theorem dX6_isSo_32 : decode cX6_isSo 32 = .ok (.iadd, 1) := by decide +kernel
theorem dX6_isSo_33 : decode cX6_isSo 33 = .ok (.laload, 1) := by decide +kernel
theorem dX6_isSo_34 : decode cX6_isSo 34 = .ok (.lcmp, 1) := by decide +kernel
theorem dX6_isSo_35 : decode cX6_isSo 35 = .ok (.ifCond .ne 7, 3) := by decide +kernel
theorem dX6_isSo_38 : decode cX6_isSo 38 = .ok (.iconst 1, 1) := by decide +kernel
theorem dX6_isSo_39 : decode cX6_isSo 39 = .ok (.goto 4, 3) := by decide +kernel
theorem dX6_isSo_42 : decode cX6_isSo 42 = .ok (.iconst 0, 1) := by decide +kernel
theorem dX6_isSo_43 : decode cX6_isSo 43 = .ok (.istore 4, 2) := by decide +kernel
theorem dX6_isSo_45 : decode cX6_isSo 45 = .ok (.iinc 5 1, 3) := by decide +kernel
theorem dX6_isSo_48 : decode cX6_isSo 48 = .ok (.goto (-42), 3) := by decide +kernel
theorem dX6_isSo_51 : decode cX6_isSo 51 = .ok (.iload 4, 2) := by decide +kernel
theorem dX6_isSo_53 : decode cX6_isSo 53 = .ok (.ireturn, 1) := by decide +kernel
theorem dX6_told_0 : decode cX6_told 0 = .ok (.aload_n 0, 1) := by decide +kernel
theorem dX6_told_1 : decode cX6_told 1 = .ok (.iload_n 1, 1) := by decide +kernel
theorem dX6_told_2 : decode cX6_told 2 = .ok (.invokevirtual 78, 3) := by decide +kernel
theorem dX6_told_5 : decode cX6_told 5 = .ok (.ifCond .eq 41, 3) := by decide +kernel
theorem dX6_told_8 : decode cX6_told 8 = .ok (.iload_n 2, 1) := by decide +kernel
theorem dX6_told_9 : decode cX6_told 9 = .ok (.invokestatic 217, 3) := by decide +kernel
theorem dX6_told_12 : decode cX6_told 12 = .ok (.ifCond .eq 34, 3) := by decide +kernel
theorem dX6_told_15 : decode cX6_told 15 = .ok (.iload_n 3, 1) := by decide +kernel
theorem dX6_told_16 : decode cX6_told 16 = .ok (.invokestatic 220, 3) := by decide +kernel
theorem dX6_told_19 : decode cX6_told 19 = .ok (.ifCond .eq 27, 3) := by decide +kernel
theorem dX6_told_22 : decode cX6_told 22 = .ok (.iload 5, 2) := by decide +kernel
theorem dX6_told_24 : decode cX6_told 24 = .ok (.i2l, 1) := by decide +kernel
theorem dX6_told_25 : decode cX6_told 25 = .ok (.lconst 1, 1) := by decide +kernel
theorem dX6_told_26 : decode cX6_told 26 = .ok (.ldc2_w 82, 3) := by decide +kernel
theorem dX6_told_29 : decode cX6_told 29 = .ok (.invokestatic 41, 3) := by decide +kernel
theorem dX6_told_32 : decode cX6_told 32 = .ok (.ifCond .eq 14, 3) := by decide +kernel
theorem dX6_told_35 : decode cX6_told 35 = .ok (.iload 6, 2) := by decide +kernel
theorem dX6_told_37 : decode cX6_told 37 = .ok (.i2l, 1) := by decide +kernel
theorem dX6_told_38 : decode cX6_told 38 = .ok (.lconst 0, 1) := by decide +kernel
theorem dX6_told_39 : decode cX6_told 39 = .ok (.lconst 1, 1) := by decide +kernel
theorem dX6_told_40 : decode cX6_told 40 = .ok (.invokestatic 41, 3) := by decide +kernel
theorem dX6_told_43 : decode cX6_told 43 = .ok (.ifCond .ne 5, 3) := by decide +kernel
theorem dX6_told_46 : decode cX6_told 46 = .ok (.iconst (-1), 1) := by decide +kernel
theorem dX6_told_47 : decode cX6_told 47 = .ok (.ireturn, 1) := by decide +kernel
theorem dX6_told_48 : decode cX6_told 48 = .ok (.aload_n 0, 1) := by decide +kernel
theorem dX6_told_49 : decode cX6_told 49 = .ok (.iload_n 2, 1) := by decide +kernel
theorem dX6_told_50 : decode cX6_told 50 = .ok (.iload_n 3, 1) := by decide +kernel
theorem dX6_told_51 : decode cX6_told 51 = .ok (.iload 4, 2) := by decide +kernel
theorem dX6_told_53 : decode cX6_told 53 = .ok (.iload 5, 2) := by decide +kernel
theorem dX6_told_55 : decode cX6_told 55 = .ok (.invokevirtual 223, 3) := by decide +kernel
theorem dX6_told_58 : decode cX6_told 58 = .ok (.istore 7, 2) := by decide +kernel
theorem dX6_told_60 : decode cX6_told 60 = .ok (.iload 7, 2) := by decide +kernel
theorem dX6_told_62 : decode cX6_told 62 = .ok (.ifCond .ge 6, 3) := by decide +kernel
theorem dX6_told_65 : decode cX6_told 65 = .ok (.iload 7, 2) := by decide +kernel
theorem dX6_told_67 : decode cX6_told 67 = .ok (.ireturn, 1) := by decide +kernel
theorem dX6_told_68 : decode cX6_told 68 = .ok (.iconst 0, 1) := by decide +kernel
theorem dX6_told_69 : decode cX6_told 69 = .ok (.istore 8, 2) := by decide +kernel
theorem dX6_told_71 : decode cX6_told 71 = .ok (.iconst 5, 1) := by decide +kernel
theorem dX6_told_72 : decode cX6_told 72 = .ok (.iconst 3, 1) := by decide +kernel
theorem dX6_told_73 : decode cX6_told 73 = .ok (.iload_n 1, 1) := by decide +kernel
theorem dX6_told_74 : decode cX6_told 74 = .ok (.imul, 1) := by decide +kernel
theorem dX6_told_75 : decode cX6_told 75 = .ok (.iadd, 1) := by decide +kernel
theorem dX6_told_76 : decode cX6_told 76 = .ok (.iload 6, 2) := by decide +kernel
theorem dX6_told_78 : decode cX6_told 78 = .ok (.iadd, 1) := by decide +kernel
theorem dX6_told_79 : decode cX6_told 79 = .ok (.istore 9, 2) := by decide +kernel
theorem dX6_told_81 : decode cX6_told 81 = .ok (.aload_n 0, 1) := by decide +kernel
theorem dX6_told_82 : decode cX6_told 82 = .ok (.getfield 7, 3) := by decide +kernel
theorem dX6_told_85 : decode cX6_told 85 = .ok (.iload 9, 2) := by decide +kernel
theorem dX6_told_87 : decode cX6_told 87 = .ok (.iaload, 1) := by decide +kernel
theorem dX6_told_88 : decode cX6_told 88 = .ok (.istore 10, 2) := by decide +kernel
theorem dX6_told_90 : decode cX6_told 90 = .ok (.iconst 0, 1) := by decide +kernel
theorem dX6_told_91 : decode cX6_told 91 = .ok (.istore 11, 2) := by decide +kernel
theorem dX6_told_93 : decode cX6_told 93 = .ok (.iload 11, 2) := by decide +kernel
theorem dX6_told_95 : decode cX6_told 95 = .ok (.iload 6, 2) := by decide +kernel
theorem dX6_told_97 : decode cX6_told 97 = .ok (.ifCond .ne 7, 3) := by decide +kernel
theorem dX6_told_100 : decode cX6_told 100 = .ok (.iconst 5, 1) := by decide +kernel
theorem dX6_told_101 : decode cX6_told 101 = .ok (.goto 9, 3) := by decide +kernel
theorem dX6_told_104 : decode cX6_told 104 = .ok (.aload_n 0, 1) := by decide +kernel
theorem dX6_told_105 : decode cX6_told 105 = .ok (.getfield 7, 3) := by decide +kernel
theorem dX6_told_108 : decode cX6_told 108 = .ok (.iconst 0, 1) := by decide +kernel
theorem dX6_told_109 : decode cX6_told 109 = .ok (.iaload, 1) := by decide +kernel
theorem dX6_told_110 : decode cX6_told 110 = .ok (.if_icmp .ge 48, 3) := by decide +kernel
theorem dX6_told_113 : decode cX6_told 113 = .ok (.aload_n 0, 1) := by decide +kernel
theorem dX6_told_114 : decode cX6_told 114 = .ok (.getfield 7, 3) := by decide +kernel
theorem dX6_told_117 : decode cX6_told 117 = .ok (.iload 9, 2) := by decide +kernel
theorem dX6_told_119 : decode cX6_told 119 = .ok (.iload 11, 2) := by decide +kernel
theorem dX6_told_121 : decode cX6_told 121 = .ok (.iastore, 1) := by decide +kernel
theorem dX6_told_122 : decode cX6_told 122 = .ok (.iload 8, 2) := by decide +kernel
theorem dX6_told_124 : decode cX6_told 124 = .ok (.aload_n 0, 1) := by decide +kernel
theorem dX6_told_125 : decode cX6_told 125 = .ok (.iload_n 1, 1) := by decide +kernel
theorem dX6_told_126 : decode cX6_told 126 = .ok (.bipush 24, 2) := by decide +kernel
theorem dX6_told_128 : decode cX6_told 128 = .ok (.iload_n 2, 1) := by decide +kernel
theorem dX6_told_129 : decode cX6_told 129 = .ok (.imul, 1) := by decide +kernel
theorem dX6_told_130 : decode cX6_told 130 = .ok (.iload 4, 2) := by decide +kernel
theorem dX6_told_132 : decode cX6_told 132 = .ok (.iadd, 1) := by decide +kernel
theorem dX6_told_133 : decode cX6_told 133 = .ok (.iload 5, 2) := by decide +kernel
theorem dX6_told_135 : decode cX6_told 135 = .ok (.invokevirtual 227, 3) := by decide +kernel
theorem dX6_told_138 : decode cX6_told 138 = .ok (.ifCond .eq 10, 3) := by decide +kernel
theorem dX6_told_141 : decode cX6_told 141 = .ok (.iconst 1, 1) := by decide +kernel
theorem dX6_told_142 : decode cX6_told 142 = .ok (.iload 11, 2) := by decide +kernel
theorem dX6_told_144 : decode cX6_told 144 = .ok (.ishl, 1) := by decide +kernel
theorem dX6_told_145 : decode cX6_told 145 = .ok (.goto 4, 3) := by decide +kernel
theorem dX6_told_148 : decode cX6_told 148 = .ok (.iconst 0, 1) := by decide +kernel
theorem dX6_told_149 : decode cX6_told 149 = .ok (.ior, 1) := by decide +kernel
theorem dX6_told_150 : decode cX6_told 150 = .ok (.istore 8, 2) := by decide +kernel
theorem dX6_told_152 : decode cX6_told 152 = .ok (.iinc 11 1, 3) := by decide +kernel
theorem dX6_told_155 : decode cX6_told 155 = .ok (.goto (-62), 3) := by decide +kernel
theorem dX6_told_158 : decode cX6_told 158 = .ok (.aload_n 0, 1) := by decide +kernel
theorem dX6_told_159 : decode cX6_told 159 = .ok (.getfield 7, 3) := by decide +kernel
theorem dX6_told_162 : decode cX6_told 162 = .ok (.iload 9, 2) := by decide +kernel
theorem dX6_told_164 : decode cX6_told 164 = .ok (.iload 10, 2) := by decide +kernel
theorem dX6_told_166 : decode cX6_told 166 = .ok (.iastore, 1) := by decide +kernel
theorem dX6_told_167 : decode cX6_told 167 = .ok (.iload 8, 2) := by decide +kernel
theorem dX6_told_169 : decode cX6_told 169 = .ok (.ireturn, 1) := by decide +kernel
theorem dX6_film_0 : decode cX6_film 0 = .ok (.aload_n 0, 1) := by decide +kernel
theorem dX6_film_1 : decode cX6_film 1 = .ok (.iload_n 1, 1) := by decide +kernel
theorem dX6_film_2 : decode cX6_film 2 = .ok (.invokevirtual 78, 3) := by decide +kernel
theorem dX6_film_5 : decode cX6_film 5 = .ok (.ifCond .eq 30, 3) := by decide +kernel
theorem dX6_film_8 : decode cX6_film 8 = .ok (.iload_n 2, 1) := by decide +kernel
theorem dX6_film_9 : decode cX6_film 9 = .ok (.i2l, 1) := by decide +kernel
theorem dX6_film_10 : decode cX6_film 10 = .ok (.lconst 1, 1) := by decide +kernel
theorem dX6_film_11 : decode cX6_film 11 = .ok (.ldc2_w 82, 3) := by decide +kernel
theorem dX6_film_14 : decode cX6_film 14 = .ok (.invokestatic 41, 3) := by decide +kernel
theorem dX6_film_17 : decode cX6_film 17 = .ok (.ifCond .eq 18, 3) := by decide +kernel
theorem dX6_film_20 : decode cX6_film 20 = .ok (.iload_n 3, 1) := by decide +kernel
theorem dX6_film_21 : decode cX6_film 21 = .ok (.invokestatic 217, 3) := by decide +kernel
theorem dX6_film_24 : decode cX6_film 24 = .ok (.ifCond .eq 11, 3) := by decide +kernel
theorem dX6_film_27 : decode cX6_film 27 = .ok (.iload 4, 2) := by decide +kernel
theorem dX6_film_29 : decode cX6_film 29 = .ok (.invokestatic 220, 3) := by decide +kernel
theorem dX6_film_32 : decode cX6_film 32 = .ok (.ifCond .ne 5, 3) := by decide +kernel
theorem dX6_film_35 : decode cX6_film 35 = .ok (.iconst (-1), 1) := by decide +kernel
theorem dX6_film_36 : decode cX6_film 36 = .ok (.ireturn, 1) := by decide +kernel
theorem dX6_film_37 : decode cX6_film 37 = .ok (.aload_n 0, 1) := by decide +kernel
theorem dX6_film_38 : decode cX6_film 38 = .ok (.iload_n 3, 1) := by decide +kernel
theorem dX6_film_39 : decode cX6_film 39 = .ok (.iload 4, 2) := by decide +kernel
theorem dX6_film_41 : decode cX6_film 41 = .ok (.iload 5, 2) := by decide +kernel
theorem dX6_film_43 : decode cX6_film 43 = .ok (.iload_n 2, 1) := by decide +kernel
theorem dX6_film_44 : decode cX6_film 44 = .ok (.invokevirtual 223, 3) := by decide +kernel
theorem dX6_film_47 : decode cX6_film 47 = .ok (.istore 6, 2) := by decide +kernel
theorem dX6_film_49 : decode cX6_film 49 = .ok (.iload 6, 2) := by decide +kernel
theorem dX6_film_51 : decode cX6_film 51 = .ok (.ifCond .ge 6, 3) := by decide +kernel
theorem dX6_film_54 : decode cX6_film 54 = .ok (.iload 6, 2) := by decide +kernel
theorem dX6_film_56 : decode cX6_film 56 = .ok (.ireturn, 1) := by decide +kernel
theorem dX6_film_57 : decode cX6_film 57 = .ok (.iconst 0, 1) := by decide +kernel
theorem dX6_film_58 : decode cX6_film 58 = .ok (.istore 7, 2) := by decide +kernel
theorem dX6_film_60 : decode cX6_film 60 = .ok (.iload 7, 2) := by decide +kernel
theorem dX6_film_62 : decode cX6_film 62 = .ok (.iload_n 2, 1) := by decide +kernel
theorem dX6_film_63 : decode cX6_film 63 = .ok (.if_icmp .ge 32, 3) := by decide +kernel
theorem dX6_film_66 : decode cX6_film 66 = .ok (.aload_n 0, 1) := by decide +kernel
theorem dX6_film_67 : decode cX6_film 67 = .ok (.getfield 34, 3) := by decide +kernel
theorem dX6_film_70 : decode cX6_film 70 = .ok (.bipush 24, 2) := by decide +kernel
theorem dX6_film_72 : decode cX6_film 72 = .ok (.iload_n 3, 1) := by decide +kernel
theorem dX6_film_73 : decode cX6_film 73 = .ok (.imul, 1) := by decide +kernel
theorem dX6_film_74 : decode cX6_film 74 = .ok (.iload 5, 2) := by decide +kernel
theorem dX6_film_76 : decode cX6_film 76 = .ok (.iadd, 1) := by decide +kernel
theorem dX6_film_77 : decode cX6_film 77 = .ok (.iload 7, 2) := by decide +kernel
theorem dX6_film_79 : decode cX6_film 79 = .ok (.iadd, 1) := by decide +kernel
theorem dX6_film_80 : decode cX6_film 80 = .ok (.aload_n 0, 1) := by decide +kernel
theorem dX6_film_81 : decode cX6_film 81 = .ok (.iload_n 1, 1) := by decide +kernel
theorem dX6_film_82 : decode cX6_film 82 = .ok (.iload 7, 2) := by decide +kernel
theorem dX6_film_84 : decode cX6_film 84 = .ok (.invokevirtual 61, 3) := by decide +kernel
theorem dX6_film_87 : decode cX6_film 87 = .ok (.i2l, 1) := by decide +kernel
theorem dX6_film_88 : decode cX6_film 88 = .ok (.lastore, 1) := by decide +kernel
theorem dX6_film_89 : decode cX6_film 89 = .ok (.iinc 7 1, 3) := by decide +kernel
theorem dX6_film_92 : decode cX6_film 92 = .ok (.goto (-32), 3) := by decide +kernel
theorem dX6_film_95 : decode cX6_film 95 = .ok (.iload_n 2, 1) := by decide +kernel
theorem dX6_film_96 : decode cX6_film 96 = .ok (.ireturn, 1) := by decide +kernel
theorem dX6_sheet_0 : decode cX6_sheet 0 = .ok (.iload_n 1, 1) := by decide +kernel
theorem dX6_sheet_1 : decode cX6_sheet 1 = .ok (.invokestatic 217, 3) := by decide +kernel
theorem dX6_sheet_4 : decode cX6_sheet 4 = .ok (.ifCond .eq 16, 3) := by decide +kernel
theorem dX6_sheet_7 : decode cX6_sheet 7 = .ok (.iload_n 2, 1) := by decide +kernel
theorem dX6_sheet_8 : decode cX6_sheet 8 = .ok (.invokestatic 220, 3) := by decide +kernel
theorem dX6_sheet_11 : decode cX6_sheet 11 = .ok (.ifCond .eq 9, 3) := by decide +kernel
theorem dX6_sheet_14 : decode cX6_sheet 14 = .ok (.iload_n 3, 1) := by decide +kernel
theorem dX6_sheet_15 : decode cX6_sheet 15 = .ok (.bipush 24, 2) := by decide +kernel
theorem dX6_sheet_17 : decode cX6_sheet 17 = .ok (.if_icmp .le 5, 3) := by decide +kernel
theorem dX6_sheet_20 : decode cX6_sheet 20 = .ok (.iconst (-1), 1) := by decide +kernel
theorem dX6_sheet_21 : decode cX6_sheet 21 = .ok (.ireturn, 1) := by decide +kernel
theorem dX6_sheet_22 : decode cX6_sheet 22 = .ok (.iload_n 3, 1) := by decide +kernel
theorem dX6_sheet_23 : decode cX6_sheet 23 = .ok (.ifCond .ge 6, 3) := by decide +kernel
theorem dX6_sheet_26 : decode cX6_sheet 26 = .ok (.bipush (-14), 2) := by decide +kernel
theorem dX6_sheet_28 : decode cX6_sheet 28 = .ok (.ireturn, 1) := by decide +kernel
theorem dX6_sheet_29 : decode cX6_sheet 29 = .ok (.aload_n 0, 1) := by decide +kernel
theorem dX6_sheet_30 : decode cX6_sheet 30 = .ok (.getfield 28, 3) := by decide +kernel
theorem dX6_sheet_33 : decode cX6_sheet 33 = .ok (.iload_n 1, 1) := by decide +kernel
theorem dX6_sheet_34 : decode cX6_sheet 34 = .ok (.iload_n 2, 1) := by decide +kernel
theorem dX6_sheet_35 : decode cX6_sheet 35 = .ok (.iastore, 1) := by decide +kernel
theorem dX6_sheet_36 : decode cX6_sheet 36 = .ok (.aload_n 0, 1) := by decide +kernel
theorem dX6_sheet_37 : decode cX6_sheet 37 = .ok (.getfield 31, 3) := by decide +kernel
theorem dX6_sheet_40 : decode cX6_sheet 40 = .ok (.iload_n 1, 1) := by decide +kernel
theorem dX6_sheet_41 : decode cX6_sheet 41 = .ok (.iload_n 3, 1) := by decide +kernel
theorem dX6_sheet_42 : decode cX6_sheet 42 = .ok (.iastore, 1) := by decide +kernel
theorem dX6_sheet_43 : decode cX6_sheet 43 = .ok (.iconst 0, 1) := by decide +kernel
theorem dX6_sheet_44 : decode cX6_sheet 44 = .ok (.istore 4, 2) := by decide +kernel
theorem dX6_sheet_46 : decode cX6_sheet 46 = .ok (.iload 4, 2) := by decide +kernel
theorem dX6_sheet_48 : decode cX6_sheet 48 = .ok (.bipush 24, 2) := by decide +kernel
theorem dX6_sheet_50 : decode cX6_sheet 50 = .ok (.if_icmp .ge 22, 3) := by decide +kernel
theorem dX6_sheet_53 : decode cX6_sheet 53 = .ok (.aload_n 0, 1) := by decide +kernel
theorem dX6_sheet_54 : decode cX6_sheet 54 = .ok (.getfield 34, 3) := by decide +kernel
theorem dX6_sheet_57 : decode cX6_sheet 57 = .ok (.bipush 24, 2) := by decide +kernel
theorem dX6_sheet_59 : decode cX6_sheet 59 = .ok (.iload_n 1, 1) := by decide +kernel
theorem dX6_sheet_60 : decode cX6_sheet 60 = .ok (.imul, 1) := by decide +kernel
theorem dX6_sheet_61 : decode cX6_sheet 61 = .ok (.iload 4, 2) := by decide +kernel
theorem dX6_sheet_63 : decode cX6_sheet 63 = .ok (.iadd, 1) := by decide +kernel
theorem dX6_sheet_64 : decode cX6_sheet 64 = .ok (.lconst 0, 1) := by decide +kernel
theorem dX6_sheet_65 : decode cX6_sheet 65 = .ok (.lastore, 1) := by decide +kernel
theorem dX6_sheet_66 : decode cX6_sheet 66 = .ok (.iinc 4 1, 3) := by decide +kernel
theorem dX6_sheet_69 : decode cX6_sheet 69 = .ok (.goto (-23), 3) := by decide +kernel
theorem dX6_sheet_72 : decode cX6_sheet 72 = .ok (.iload_n 3, 1) := by decide +kernel
theorem dX6_sheet_73 : decode cX6_sheet 73 = .ok (.ireturn, 1) := by decide +kernel
theorem dX6_drop_0 : decode cX6_drop 0 = .ok (.iload_n 1, 1) := by decide +kernel
theorem dX6_drop_1 : decode cX6_drop 1 = .ok (.invokestatic 217, 3) := by decide +kernel
theorem dX6_drop_4 : decode cX6_drop 4 = .ok (.ifCond .ne 5, 3) := by decide +kernel
theorem dX6_drop_7 : decode cX6_drop 7 = .ok (.iconst (-1), 1) := by decide +kernel
theorem dX6_drop_8 : decode cX6_drop 8 = .ok (.ireturn, 1) := by decide +kernel
theorem dX6_drop_9 : decode cX6_drop 9 = .ok (.aload_n 0, 1) := by decide +kernel
theorem dX6_drop_10 : decode cX6_drop 10 = .ok (.getfield 28, 3) := by decide +kernel
theorem dX6_drop_13 : decode cX6_drop 13 = .ok (.iload_n 1, 1) := by decide +kernel
theorem dX6_drop_14 : decode cX6_drop 14 = .ok (.iaload, 1) := by decide +kernel
theorem dX6_drop_15 : decode cX6_drop 15 = .ok (.ifCond .ge 6, 3) := by decide +kernel
theorem dX6_drop_18 : decode cX6_drop 18 = .ok (.bipush (-11), 2) := by decide +kernel
theorem dX6_drop_20 : decode cX6_drop 20 = .ok (.ireturn, 1) := by decide +kernel
theorem dX6_drop_21 : decode cX6_drop 21 = .ok (.aload_n 0, 1) := by decide +kernel
theorem dX6_drop_22 : decode cX6_drop 22 = .ok (.getfield 28, 3) := by decide +kernel
theorem dX6_drop_25 : decode cX6_drop 25 = .ok (.iload_n 1, 1) := by decide +kernel
theorem dX6_drop_26 : decode cX6_drop 26 = .ok (.iconst (-1), 1) := by decide +kernel
theorem dX6_drop_27 : decode cX6_drop 27 = .ok (.iastore, 1) := by decide +kernel
theorem dX6_drop_28 : decode cX6_drop 28 = .ok (.aload_n 0, 1) := by decide +kernel
theorem dX6_drop_29 : decode cX6_drop 29 = .ok (.getfield 31, 3) := by decide +kernel
theorem dX6_drop_32 : decode cX6_drop 32 = .ok (.iload_n 1, 1) := by decide +kernel
theorem dX6_drop_33 : decode cX6_drop 33 = .ok (.iaload, 1) := by decide +kernel
theorem dX6_drop_34 : decode cX6_drop 34 = .ok (.ireturn, 1) := by decide +kernel
theorem dX6_item_0 : decode cX6_item 0 = .ok (.iload_n 1, 1) := by decide +kernel
theorem dX6_item_1 : decode cX6_item 1 = .ok (.invokestatic 217, 3) := by decide +kernel
theorem dX6_item_4 : decode cX6_item 4 = .ok (.ifCond .eq 10, 3) := by decide +kernel
theorem dX6_item_7 : decode cX6_item 7 = .ok (.iload_n 2, 1) := by decide +kernel
theorem dX6_item_8 : decode cX6_item 8 = .ok (.invokestatic 220, 3) := by decide +kernel
theorem dX6_item_11 : decode cX6_item 11 = .ok (.ifCond .ne 5, 3) := by decide +kernel
theorem dX6_item_14 : decode cX6_item 14 = .ok (.iconst (-1), 1) := by decide +kernel
theorem dX6_item_15 : decode cX6_item 15 = .ok (.ireturn, 1) := by decide +kernel
theorem dX6_item_16 : decode cX6_item 16 = .ok (.aload_n 0, 1) := by decide +kernel
theorem dX6_item_17 : decode cX6_item 17 = .ok (.iload_n 1, 1) := by decide +kernel
theorem dX6_item_18 : decode cX6_item 18 = .ok (.iload_n 2, 1) := by decide +kernel
theorem dX6_item_19 : decode cX6_item 19 = .ok (.iload_n 3, 1) := by decide +kernel
theorem dX6_item_20 : decode cX6_item 20 = .ok (.iconst 1, 1) := by decide +kernel
theorem dX6_item_21 : decode cX6_item 21 = .ok (.invokevirtual 223, 3) := by decide +kernel
theorem dX6_item_24 : decode cX6_item 24 = .ok (.istore 6, 2) := by decide +kernel
theorem dX6_item_26 : decode cX6_item 26 = .ok (.iload 6, 2) := by decide +kernel
theorem dX6_item_28 : decode cX6_item 28 = .ok (.ifCond .ge 6, 3) := by decide +kernel
theorem dX6_item_31 : decode cX6_item 31 = .ok (.iload 6, 2) := by decide +kernel
theorem dX6_item_33 : decode cX6_item 33 = .ok (.ireturn, 1) := by decide +kernel
theorem dX6_item_34 : decode cX6_item 34 = .ok (.aload_n 0, 1) := by decide +kernel
theorem dX6_item_35 : decode cX6_item 35 = .ok (.getfield 34, 3) := by decide +kernel
theorem dX6_item_38 : decode cX6_item 38 = .ok (.bipush 24, 2) := by decide +kernel
theorem dX6_item_40 : decode cX6_item 40 = .ok (.iload_n 1, 1) := by decide +kernel
theorem dX6_item_41 : decode cX6_item 41 = .ok (.imul, 1) := by decide +kernel
theorem dX6_item_42 : decode cX6_item 42 = .ok (.iload_n 3, 1) := by decide +kernel
theorem dX6_item_43 : decode cX6_item 43 = .ok (.iadd, 1) := by decide +kernel
theorem dX6_item_44 : decode cX6_item 44 = .ok (.iload_n 2, 1) := by decide +kernel
theorem dX6_item_45 : decode cX6_item 45 = .ok (.ifCond .ne 11, 3) := by decide +kernel
theorem dX6_item_48 : decode cX6_item 48 = .ok (.lload 4, 2) := by decide +kernel
theorem dX6_item_50 : decode cX6_item 50 = .ok (.l2i, 1) := by decide +kernel
theorem dX6_item_51 : decode cX6_item 51 = .ok (.i2b, 1) := by decide +kernel
theorem dX6_item_52 : decode cX6_item 52 = .ok (.i2l, 1) := by decide +kernel
theorem dX6_item_53 : decode cX6_item 53 = .ok (.goto 30, 3) := by decide +kernel
theorem dX6_item_56 : decode cX6_item 56 = .ok (.iload_n 2, 1) := by decide +kernel
theorem dX6_item_57 : decode cX6_item 57 = .ok (.iconst 1, 1) := by decide +kernel
theorem dX6_item_58 : decode cX6_item 58 = .ok (.if_icmp .ne 11, 3) := by decide +kernel
theorem dX6_item_61 : decode cX6_item 61 = .ok (.lload 4, 2) := by decide +kernel
theorem dX6_item_63 : decode cX6_item 63 = .ok (.l2i, 1) := by decide +kernel
theorem dX6_item_64 : decode cX6_item 64 = .ok (.i2s, 1) := by decide +kernel
theorem dX6_item_65 : decode cX6_item 65 = .ok (.i2l, 1) := by decide +kernel
theorem dX6_item_66 : decode cX6_item 66 = .ok (.goto 17, 3) := by decide +kernel
theorem dX6_item_69 : decode cX6_item 69 = .ok (.iload_n 2, 1) := by decide +kernel
theorem dX6_item_70 : decode cX6_item 70 = .ok (.iconst 2, 1) := by decide +kernel
theorem dX6_item_71 : decode cX6_item 71 = .ok (.if_icmp .ne 10, 3) := by decide +kernel
theorem dX6_item_74 : decode cX6_item 74 = .ok (.lload 4, 2) := by decide +kernel
theorem dX6_item_76 : decode cX6_item 76 = .ok (.l2i, 1) := by decide +kernel
theorem dX6_item_77 : decode cX6_item 77 = .ok (.i2l, 1) := by decide +kernel
theorem dX6_item_78 : decode cX6_item 78 = .ok (.goto 5, 3) := by decide +kernel
theorem dX6_item_81 : decode cX6_item 81 = .ok (.lload 4, 2) := by decide +kernel
theorem dX6_item_83 : decode cX6_item 83 = .ok (.lastore, 1) := by decide +kernel
theorem dX6_item_84 : decode cX6_item 84 = .ok (.iconst 1, 1) := by decide +kernel
theorem dX6_item_85 : decode cX6_item 85 = .ok (.ireturn, 1) := by decide +kernel
theorem dX6_copy_0 : decode cX6_copy 0 = .ok (.iload_n 1, 1) := by decide +kernel
theorem dX6_copy_1 : decode cX6_copy 1 = .ok (.invokestatic 217, 3) := by decide +kernel
theorem dX6_copy_4 : decode cX6_copy 4 = .ok (.ifCond .eq 10, 3) := by decide +kernel
theorem dX6_copy_7 : decode cX6_copy 7 = .ok (.iload_n 3, 1) := by decide +kernel
theorem dX6_copy_8 : decode cX6_copy 8 = .ok (.invokestatic 217, 3) := by decide +kernel
theorem dX6_copy_11 : decode cX6_copy 11 = .ok (.ifCond .ne 5, 3) := by decide +kernel
theorem dX6_copy_14 : decode cX6_copy 14 = .ok (.iconst (-1), 1) := by decide +kernel
theorem dX6_copy_15 : decode cX6_copy 15 = .ok (.ireturn, 1) := by decide +kernel
theorem dX6_copy_16 : decode cX6_copy 16 = .ok (.aload_n 0, 1) := by decide +kernel
theorem dX6_copy_17 : decode cX6_copy 17 = .ok (.getfield 28, 3) := by decide +kernel
theorem dX6_copy_20 : decode cX6_copy 20 = .ok (.iload_n 1, 1) := by decide +kernel
theorem dX6_copy_21 : decode cX6_copy 21 = .ok (.iaload, 1) := by decide +kernel
theorem dX6_copy_22 : decode cX6_copy 22 = .ok (.ifCond .lt 12, 3) := by decide +kernel
theorem dX6_copy_25 : decode cX6_copy 25 = .ok (.aload_n 0, 1) := by decide +kernel
theorem dX6_copy_26 : decode cX6_copy 26 = .ok (.getfield 28, 3) := by decide +kernel
theorem dX6_copy_29 : decode cX6_copy 29 = .ok (.iload_n 3, 1) := by decide +kernel
theorem dX6_copy_30 : decode cX6_copy 30 = .ok (.iaload, 1) := by decide +kernel
theorem dX6_copy_31 : decode cX6_copy 31 = .ok (.ifCond .ge 6, 3) := by decide +kernel
theorem dX6_copy_34 : decode cX6_copy 34 = .ok (.bipush (-11), 2) := by decide +kernel
theorem dX6_copy_36 : decode cX6_copy 36 = .ok (.ireturn, 1) := by decide +kernel
theorem dX6_copy_37 : decode cX6_copy 37 = .ok (.aload_n 0, 1) := by decide +kernel
theorem dX6_copy_38 : decode cX6_copy 38 = .ok (.iload_n 3, 1) := by decide +kernel
theorem dX6_copy_39 : decode cX6_copy 39 = .ok (.aload_n 0, 1) := by decide +kernel
theorem dX6_copy_40 : decode cX6_copy 40 = .ok (.getfield 28, 3) := by decide +kernel
theorem dX6_copy_43 : decode cX6_copy 43 = .ok (.iload_n 1, 1) := by decide +kernel
theorem dX6_copy_44 : decode cX6_copy 44 = .ok (.iaload, 1) := by decide +kernel
theorem dX6_copy_45 : decode cX6_copy 45 = .ok (.iload 4, 2) := by decide +kernel
theorem dX6_copy_47 : decode cX6_copy 47 = .ok (.iload 5, 2) := by decide +kernel
theorem dX6_copy_49 : decode cX6_copy 49 = .ok (.invokevirtual 223, 3) := by decide +kernel
theorem dX6_copy_52 : decode cX6_copy 52 = .ok (.istore 6, 2) := by decide +kernel
theorem dX6_copy_54 : decode cX6_copy 54 = .ok (.iload 6, 2) := by decide +kernel
theorem dX6_copy_56 : decode cX6_copy 56 = .ok (.ifCond .ne 20, 3) := by decide +kernel
theorem dX6_copy_59 : decode cX6_copy 59 = .ok (.aload_n 0, 1) := by decide +kernel
theorem dX6_copy_60 : decode cX6_copy 60 = .ok (.iload_n 1, 1) := by decide +kernel
theorem dX6_copy_61 : decode cX6_copy 61 = .ok (.aload_n 0, 1) := by decide +kernel
theorem dX6_copy_62 : decode cX6_copy 62 = .ok (.getfield 28, 3) := by decide +kernel
theorem dX6_copy_65 : decode cX6_copy 65 = .ok (.iload_n 1, 1) := by decide +kernel
theorem dX6_copy_66 : decode cX6_copy 66 = .ok (.iaload, 1) := by decide +kernel
theorem dX6_copy_67 : decode cX6_copy 67 = .ok (.iload_n 2, 1) := by decide +kernel
theorem dX6_copy_68 : decode cX6_copy 68 = .ok (.iload 5, 2) := by decide +kernel
theorem dX6_copy_70 : decode cX6_copy 70 = .ok (.invokevirtual 223, 3) := by decide +kernel
theorem dX6_copy_73 : decode cX6_copy 73 = .ok (.goto 5, 3) := by decide +kernel
theorem dX6_copy_76 : decode cX6_copy 76 = .ok (.iload 6, 2) := by decide +kernel
theorem dX6_copy_78 : decode cX6_copy 78 = .ok (.istore 6, 2) := by decide +kernel
theorem dX6_copy_80 : decode cX6_copy 80 = .ok (.iload 6, 2) := by decide +kernel
theorem dX6_copy_82 : decode cX6_copy 82 = .ok (.ifCond .ge 6, 3) := by decide +kernel
theorem dX6_copy_85 : decode cX6_copy 85 = .ok (.iload 6, 2) := by decide +kernel
theorem dX6_copy_87 : decode cX6_copy 87 = .ok (.ireturn, 1) := by decide +kernel
theorem dX6_copy_88 : decode cX6_copy 88 = .ok (.iconst 0, 1) := by decide +kernel
theorem dX6_copy_89 : decode cX6_copy 89 = .ok (.istore 7, 2) := by decide +kernel
theorem dX6_copy_91 : decode cX6_copy 91 = .ok (.iload 7, 2) := by decide +kernel
theorem dX6_copy_93 : decode cX6_copy 93 = .ok (.iload 5, 2) := by decide +kernel
theorem dX6_copy_95 : decode cX6_copy 95 = .ok (.if_icmp .ge 30, 3) := by decide +kernel
theorem dX6_copy_98 : decode cX6_copy 98 = .ok (.aload_n 0, 1) := by decide +kernel
theorem dX6_copy_99 : decode cX6_copy 99 = .ok (.getfield 38, 3) := by decide +kernel
theorem dX6_copy_102 : decode cX6_copy 102 = .ok (.iload 7, 2) := by decide +kernel
theorem dX6_copy_104 : decode cX6_copy 104 = .ok (.aload_n 0, 1) := by decide +kernel
theorem dX6_copy_105 : decode cX6_copy 105 = .ok (.getfield 34, 3) := by decide +kernel
theorem dX6_copy_108 : decode cX6_copy 108 = .ok (.bipush 24, 2) := by decide +kernel
theorem dX6_copy_110 : decode cX6_copy 110 = .ok (.iload_n 1, 1) := by decide +kernel
theorem dX6_copy_111 : decode cX6_copy 111 = .ok (.imul, 1) := by decide +kernel
theorem dX6_copy_112 : decode cX6_copy 112 = .ok (.iload_n 2, 1) := by decide +kernel
theorem dX6_copy_113 : decode cX6_copy 113 = .ok (.iadd, 1) := by decide +kernel
theorem dX6_copy_114 : decode cX6_copy 114 = .ok (.iload 7, 2) := by decide +kernel
theorem dX6_copy_116 : decode cX6_copy 116 = .ok (.iadd, 1) := by decide +kernel
theorem dX6_copy_117 : decode cX6_copy 117 = .ok (.laload, 1) := by decide +kernel
theorem dX6_copy_118 : decode cX6_copy 118 = .ok (.lastore, 1) := by decide +kernel
theorem dX6_copy_119 : decode cX6_copy 119 = .ok (.iinc 7 1, 3) := by decide +kernel
theorem dX6_copy_122 : decode cX6_copy 122 = .ok (.goto (-31), 3) := by decide +kernel
theorem dX6_copy_125 : decode cX6_copy 125 = .ok (.iconst 0, 1) := by decide +kernel
theorem dX6_copy_126 : decode cX6_copy 126 = .ok (.istore 7, 2) := by decide +kernel
theorem dX6_copy_128 : decode cX6_copy 128 = .ok (.iload 7, 2) := by decide +kernel
theorem dX6_copy_130 : decode cX6_copy 130 = .ok (.iload 5, 2) := by decide +kernel
theorem dX6_copy_132 : decode cX6_copy 132 = .ok (.if_icmp .ge 31, 3) := by decide +kernel
theorem dX6_copy_135 : decode cX6_copy 135 = .ok (.aload_n 0, 1) := by decide +kernel
theorem dX6_copy_136 : decode cX6_copy 136 = .ok (.getfield 34, 3) := by decide +kernel
theorem dX6_copy_139 : decode cX6_copy 139 = .ok (.bipush 24, 2) := by decide +kernel
theorem dX6_copy_141 : decode cX6_copy 141 = .ok (.iload_n 3, 1) := by decide +kernel
theorem dX6_copy_142 : decode cX6_copy 142 = .ok (.imul, 1) := by decide +kernel
theorem dX6_copy_143 : decode cX6_copy 143 = .ok (.iload 4, 2) := by decide +kernel
theorem dX6_copy_145 : decode cX6_copy 145 = .ok (.iadd, 1) := by decide +kernel
theorem dX6_copy_146 : decode cX6_copy 146 = .ok (.iload 7, 2) := by decide +kernel
theorem dX6_copy_148 : decode cX6_copy 148 = .ok (.iadd, 1) := by decide +kernel
theorem dX6_copy_149 : decode cX6_copy 149 = .ok (.aload_n 0, 1) := by decide +kernel
theorem dX6_copy_150 : decode cX6_copy 150 = .ok (.getfield 38, 3) := by decide +kernel
theorem dX6_copy_153 : decode cX6_copy 153 = .ok (.iload 7, 2) := by decide +kernel
theorem dX6_copy_155 : decode cX6_copy 155 = .ok (.laload, 1) := by decide +kernel
theorem dX6_copy_156 : decode cX6_copy 156 = .ok (.lastore, 1) := by decide +kernel
theorem dX6_copy_157 : decode cX6_copy 157 = .ok (.iinc 7 1, 3) := by decide +kernel
theorem dX6_copy_160 : decode cX6_copy 160 = .ok (.goto (-32), 3) := by decide +kernel
theorem dX6_copy_163 : decode cX6_copy 163 = .ok (.iload 5, 2) := by decide +kernel
theorem dX6_copy_165 : decode cX6_copy 165 = .ok (.ireturn, 1) := by decide +kernel
end
section
theorem dX0_init_0 : decode cX0_init 0 = .ok (.aload_n 0, 1) := by decide +kernel
theorem dX0_init_1 : decode cX0_init 1 = .ok (.invokespecial 3, 3) := by decide +kernel
theorem dX0_init_4 : decode cX0_init 4 = .ok (.aload_n 0, 1) := by decide +kernel
theorem dX0_init_5 : decode cX0_init 5 = .ok (.bipush 72, 2) := by decide +kernel
theorem dX0_init_7 : decode cX0_init 7 = .ok (.newarray .int, 2) := by decide +kernel
theorem dX0_init_9 : decode cX0_init 9 = .ok (.putfield 9, 3) := by decide +kernel
theorem dX0_init_12 : decode cX0_init 12 = .ok (.aload_n 0, 1) := by decide +kernel
theorem dX0_init_13 : decode cX0_init 13 = .ok (.bipush 6, 2) := by decide +kernel
theorem dX0_init_15 : decode cX0_init 15 = .ok (.newarray .int, 2) := by decide +kernel
theorem dX0_init_17 : decode cX0_init 17 = .ok (.putfield 15, 3) := by decide +kernel
theorem dX0_init_20 : decode cX0_init 20 = .ok (.aload_n 0, 1) := by decide +kernel
theorem dX0_init_21 : decode cX0_init 21 = .ok (.bipush 6, 2) := by decide +kernel
theorem dX0_init_23 : decode cX0_init 23 = .ok (.newarray .int, 2) := by decide +kernel
theorem dX0_init_25 : decode cX0_init 25 = .ok (.putfield 18, 3) := by decide +kernel
theorem dX0_init_28 : decode cX0_init 28 = .ok (.aload_n 0, 1) := by decide +kernel
theorem dX0_init_29 : decode cX0_init 29 = .ok (.iconst 0, 1) := by decide +kernel
theorem dX0_init_30 : decode cX0_init 30 = .ok (.putfield 21, 3) := by decide +kernel
theorem dX0_init_33 : decode cX0_init 33 = .ok (.aload_n 0, 1) := by decide +kernel
theorem dX0_init_34 : decode cX0_init 34 = .ok (.iconst 0, 1) := by decide +kernel
theorem dX0_init_35 : decode cX0_init 35 = .ok (.putfield 25, 3) := by decide +kernel
theorem dX0_init_38 : decode cX0_init 38 = .ok (.aload_n 0, 1) := by decide +kernel
theorem dX0_init_39 : decode cX0_init 39 = .ok (.iconst 1, 1) := by decide +kernel
theorem dX0_init_40 : decode cX0_init 40 = .ok (.putfield 28, 3) := by decide +kernel
theorem dX0_init_43 : decode cX0_init 43 = .ok (.return_, 1) := by decide +kernel
theorem dX0_copyGoods_0 : decode cX0_copyGoods 0 = .ok (.aload_n 1, 1) := by decide +kernel
theorem dX0_copyGoods_1 : decode cX0_copyGoods 1 = .ok (.getfield 9, 3) := by decide +kernel
theorem dX0_copyGoods_4 : decode cX0_copyGoods 4 = .ok (.iconst 0, 1) := by decide +kernel
theorem dX0_copyGoods_5 : decode cX0_copyGoods 5 = .ok (.aload_n 0, 1) := by decide +kernel
theorem dX0_copyGoods_6 : decode cX0_copyGoods 6 = .ok (.getfield 9, 3) := by decide +kernel
theorem dX0_copyGoods_9 : decode cX0_copyGoods 9 = .ok (.iconst 0, 1) := by decide +kernel
theorem dX0_copyGoods_10 : decode cX0_copyGoods 10 = .ok (.bipush 72, 2) := by decide +kernel
theorem dX0_copyGoods_12 : decode cX0_copyGoods 12 = .ok (.invokestatic 31, 3) := by decide +kernel
theorem dX0_copyGoods_15 : decode cX0_copyGoods 15 = .ok (.aload_n 1, 1) := by decide +kernel
theorem dX0_copyGoods_16 : decode cX0_copyGoods 16 = .ok (.getfield 15, 3) := by decide +kernel
theorem dX0_copyGoods_19 : decode cX0_copyGoods 19 = .ok (.iconst 0, 1) := by decide +kernel
theorem dX0_copyGoods_20 : decode cX0_copyGoods 20 = .ok (.aload_n 0, 1) := by decide +kernel
theorem dX0_copyGoods_21 : decode cX0_copyGoods 21 = .ok (.getfield 15, 3) := by decide +kernel
theorem dX0_copyGoods_24 : decode cX0_copyGoods 24 = .ok (.iconst 0, 1) := by decide +kernel
theorem dX0_copyGoods_25 : decode cX0_copyGoods 25 = .ok (.bipush 6, 2) := by decide +kernel
theorem dX0_copyGoods_27 : decode cX0_copyGoods 27 = .ok (.invokestatic 31, 3) := by decide +kernel
theorem dX0_copyGoods_30 : decode cX0_copyGoods 30 = .ok (.aload_n 1, 1) := by decide +kernel
theorem dX0_copyGoods_31 : decode cX0_copyGoods 31 = .ok (.getfield 18, 3) := by decide +kernel
theorem dX0_copyGoods_34 : decode cX0_copyGoods 34 = .ok (.iconst 0, 1) := by decide +kernel
theorem dX0_copyGoods_35 : decode cX0_copyGoods 35 = .ok (.aload_n 0, 1) := by decide +kernel
theorem dX0_copyGoods_36 : decode cX0_copyGoods 36 = .ok (.getfield 18, 3) := by decide +kernel
theorem dX0_copyGoods_39 : decode cX0_copyGoods 39 = .ok (.iconst 0, 1) := by decide +kernel
theorem dX0_copyGoods_40 : decode cX0_copyGoods 40 = .ok (.bipush 6, 2) := by decide +kernel
theorem dX0_copyGoods_42 : decode cX0_copyGoods 42 = .ok (.invokestatic 31, 3) := by decide +kernel
theorem dX0_copyGoods_45 : decode cX0_copyGoods 45 = .ok (.aload_n 0, 1) := by decide +kernel
theorem dX0_copyGoods_46 : decode cX0_copyGoods 46 = .ok (.aload_n 1, 1) := by decide +kernel
theorem dX0_copyGoods_47 : decode cX0_copyGoods 47 = .ok (.getfield 21, 3) := by decide +kernel
theorem dX0_copyGoods_50 : decode cX0_copyGoods 50 = .ok (.putfield 21, 3) := by decide +kernel
theorem dX0_copyGoods_53 : decode cX0_copyGoods 53 = .ok (.aload_n 0, 1) := by decide +kernel
theorem dX0_copyGoods_54 : decode cX0_copyGoods 54 = .ok (.aload_n 1, 1) := by decide +kernel
theorem dX0_copyGoods_55 : decode cX0_copyGoods 55 = .ok (.getfield 25, 3) := by decide +kernel
theorem dX0_copyGoods_58 : decode cX0_copyGoods 58 = .ok (.putfield 25, 3) := by decide +kernel
theorem dX0_copyGoods_61 : decode cX0_copyGoods 61 = .ok (.aload_n 0, 1) := by decide +kernel
theorem dX0_copyGoods_62 : decode cX0_copyGoods 62 = .ok (.aload_n 1, 1) := by decide +kernel
theorem dX0_copyGoods_63 : decode cX0_copyGoods 63 = .ok (.getfield 28, 3) := by decide +kernel
theorem dX0_copyGoods_66 : decode cX0_copyGoods 66 = .ok (.putfield 28, 3) := by decide +kernel
theorem dX0_copyGoods_69 : decode cX0_copyGoods 69 = .ok (.return_, 1) := by decide +kernel
theorem dX0_manyOf_0 : decode cX0_manyOf 0 = .ok (.aload_n 0, 1) := by decide +kernel
theorem dX0_manyOf_1 : decode cX0_manyOf 1 = .ok (.getfield 9, 3) := by decide +kernel
theorem dX0_manyOf_4 : decode cX0_manyOf 4 = .ok (.iload_n 1, 1) := by decide +kernel
theorem dX0_manyOf_5 : decode cX0_manyOf 5 = .ok (.bipush 12, 2) := by decide +kernel
theorem dX0_manyOf_7 : decode cX0_manyOf 7 = .ok (.imul, 1) := by decide +kernel
theorem dX0_manyOf_8 : decode cX0_manyOf 8 = .ok (.iload_n 2, 1) := by decide +kernel
theorem dX0_manyOf_9 : decode cX0_manyOf 9 = .ok (.iadd, 1) := by decide +kernel
theorem dX0_manyOf_10 : decode cX0_manyOf 10 = .ok (.iaload, 1) := by decide +kernel
theorem dX0_manyOf_11 : decode cX0_manyOf 11 = .ok (.ireturn, 1) := by decide +kernel
theorem dX0_manyInAll_0 : decode cX0_manyInAll 0 = .ok (.iconst 0, 1) := by decide +kernel
theorem dX0_manyInAll_1 : decode cX0_manyInAll 1 = .ok (.istore_n 2, 1) := by decide +kernel
theorem dX0_manyInAll_2 : decode cX0_manyInAll 2 = .ok (.iconst 0, 1) := by decide +kernel
theorem dX0_manyInAll_3 : decode cX0_manyInAll 3 = .ok (.istore_n 3, 1) := by decide +kernel
theorem dX0_manyInAll_4 : decode cX0_manyInAll 4 = .ok (.iload_n 3, 1) := by decide +kernel
theorem dX0_manyInAll_5 : decode cX0_manyInAll 5 = .ok (.bipush 12, 2) := by decide +kernel
theorem dX0_manyInAll_7 : decode cX0_manyInAll 7 = .ok (.if_icmp .ge 18, 3) := by decide +kernel
theorem dX0_manyInAll_10 : decode cX0_manyInAll 10 = .ok (.iload_n 2, 1) := by decide +kernel
theorem dX0_manyInAll_11 : decode cX0_manyInAll 11 = .ok (.aload_n 0, 1) := by decide +kernel
theorem dX0_manyInAll_12 : decode cX0_manyInAll 12 = .ok (.iload_n 1, 1) := by decide +kernel
theorem dX0_manyInAll_13 : decode cX0_manyInAll 13 = .ok (.iload_n 3, 1) := by decide +kernel
theorem dX0_manyInAll_14 : decode cX0_manyInAll 14 = .ok (.invokevirtual 37, 3) := by decide +kernel
theorem dX0_manyInAll_17 : decode cX0_manyInAll 17 = .ok (.iadd, 1) := by decide +kernel
theorem dX0_manyInAll_18 : decode cX0_manyInAll 18 = .ok (.istore_n 2, 1) := by decide +kernel
theorem dX0_manyInAll_19 : decode cX0_manyInAll 19 = .ok (.iinc 3 1, 3) := by decide +kernel
theorem dX0_manyInAll_22 : decode cX0_manyInAll 22 = .ok (.goto (-18), 3) := by decide +kernel
theorem dX0_manyInAll_25 : decode cX0_manyInAll 25 = .ok (.iload_n 2, 1) := by decide +kernel
theorem dX0_manyInAll_26 : decode cX0_manyInAll 26 = .ok (.ireturn, 1) := by decide +kernel
theorem dX0_setMany_0 : decode cX0_setMany 0 = .ok (.aload_n 0, 1) := by decide +kernel
theorem dX0_setMany_1 : decode cX0_setMany 1 = .ok (.getfield 9, 3) := by decide +kernel
theorem dX0_setMany_4 : decode cX0_setMany 4 = .ok (.iload_n 1, 1) := by decide +kernel
theorem dX0_setMany_5 : decode cX0_setMany 5 = .ok (.bipush 12, 2) := by decide +kernel
theorem dX0_setMany_7 : decode cX0_setMany 7 = .ok (.imul, 1) := by decide +kernel
theorem dX0_setMany_8 : decode cX0_setMany 8 = .ok (.iload_n 2, 1) := by decide +kernel
theorem dX0_setMany_9 : decode cX0_setMany 9 = .ok (.iadd, 1) := by decide +kernel
theorem dX0_setMany_10 : decode cX0_setMany 10 = .ok (.iload_n 3, 1) := by decide +kernel
theorem dX0_setMany_11 : decode cX0_setMany 11 = .ok (.iastore, 1) := by decide +kernel
theorem dX0_setMany_12 : decode cX0_setMany 12 = .ok (.iconst 1, 1) := by decide +kernel
theorem dX0_setMany_13 : decode cX0_setMany 13 = .ok (.iload_n 2, 1) := by decide +kernel
theorem dX0_setMany_14 : decode cX0_setMany 14 = .ok (.ishl, 1) := by decide +kernel
theorem dX0_setMany_15 : decode cX0_setMany 15 = .ok (.istore 4, 2) := by decide +kernel
theorem dX0_setMany_17 : decode cX0_setMany 17 = .ok (.aload_n 0, 1) := by decide +kernel
theorem dX0_setMany_18 : decode cX0_setMany 18 = .ok (.getfield 15, 3) := by decide +kernel
theorem dX0_setMany_21 : decode cX0_setMany 21 = .ok (.iload_n 1, 1) := by decide +kernel
theorem dX0_setMany_22 : decode cX0_setMany 22 = .ok (.iload_n 3, 1) := by decide +kernel
theorem dX0_setMany_23 : decode cX0_setMany 23 = .ok (.ifCond .le 15, 3) := by decide +kernel
theorem dX0_setMany_26 : decode cX0_setMany 26 = .ok (.aload_n 0, 1) := by decide +kernel
theorem dX0_setMany_27 : decode cX0_setMany 27 = .ok (.getfield 15, 3) := by decide +kernel
theorem dX0_setMany_30 : decode cX0_setMany 30 = .ok (.iload_n 1, 1) := by decide +kernel
theorem dX0_setMany_31 : decode cX0_setMany 31 = .ok (.iaload, 1) := by decide +kernel
theorem dX0_setMany_32 : decode cX0_setMany 32 = .ok (.iload 4, 2) := by decide +kernel
theorem dX0_setMany_34 : decode cX0_setMany 34 = .ok (.ior, 1) := by decide +kernel
theorem dX0_setMany_35 : decode cX0_setMany 35 = .ok (.goto 14, 3) := by decide +kernel
theorem dX0_setMany_38 : decode cX0_setMany 38 = .ok (.aload_n 0, 1) := by decide +kernel
theorem dX0_setMany_39 : decode cX0_setMany 39 = .ok (.getfield 15, 3) := by decide +kernel
theorem dX0_setMany_42 : decode cX0_setMany 42 = .ok (.iload_n 1, 1) := by decide +kernel
theorem dX0_setMany_43 : decode cX0_setMany 43 = .ok (.iaload, 1) := by decide +kernel
theorem dX0_setMany_44 : decode cX0_setMany 44 = .ok (.iload 4, 2) := by decide +kernel
theorem dX0_setMany_46 : decode cX0_setMany 46 = .ok (.iconst (-1), 1) := by decide +kernel
theorem dX0_setMany_47 : decode cX0_setMany 47 = .ok (.ixor, 1) := by decide +kernel
theorem dX0_setMany_48 : decode cX0_setMany 48 = .ok (.iand, 1) := by decide +kernel
theorem dX0_setMany_49 : decode cX0_setMany 49 = .ok (.iastore, 1) := by decide +kernel
theorem dX0_setMany_50 : decode cX0_setMany 50 = .ok (.return_, 1) := by decide +kernel
theorem dX0_move_0 : decode cX0_move 0 = .ok (.aload_n 0, 1) := by decide +kernel
theorem dX0_move_1 : decode cX0_move 1 = .ok (.iload_n 1, 1) := by decide +kernel
theorem dX0_move_2 : decode cX0_move 2 = .ok (.iload_n 3, 1) := by decide +kernel
theorem dX0_move_3 : decode cX0_move 3 = .ok (.aload_n 0, 1) := by decide +kernel
theorem dX0_move_4 : decode cX0_move 4 = .ok (.iload_n 1, 1) := by decide +kernel
theorem dX0_move_5 : decode cX0_move 5 = .ok (.iload_n 3, 1) := by decide +kernel
theorem dX0_move_6 : decode cX0_move 6 = .ok (.invokevirtual 37, 3) := by decide +kernel
theorem dX0_move_9 : decode cX0_move 9 = .ok (.iconst 1, 1) := by decide +kernel
theorem dX0_move_10 : decode cX0_move 10 = .ok (.isub, 1) := by decide +kernel
theorem dX0_move_11 : decode cX0_move 11 = .ok (.invokevirtual 41, 3) := by decide +kernel
theorem dX0_move_14 : decode cX0_move 14 = .ok (.aload_n 0, 1) := by decide +kernel
theorem dX0_move_15 : decode cX0_move 15 = .ok (.iload_n 2, 1) := by decide +kernel
theorem dX0_move_16 : decode cX0_move 16 = .ok (.iload_n 3, 1) := by decide +kernel
theorem dX0_move_17 : decode cX0_move 17 = .ok (.aload_n 0, 1) := by decide +kernel
theorem dX0_move_18 : decode cX0_move 18 = .ok (.iload_n 2, 1) := by decide +kernel
theorem dX0_move_19 : decode cX0_move 19 = .ok (.iload_n 3, 1) := by decide +kernel
theorem dX0_move_20 : decode cX0_move 20 = .ok (.invokevirtual 37, 3) := by decide +kernel
theorem dX0_move_23 : decode cX0_move 23 = .ok (.iconst 1, 1) := by decide +kernel
theorem dX0_move_24 : decode cX0_move 24 = .ok (.iadd, 1) := by decide +kernel
theorem dX0_move_25 : decode cX0_move 25 = .ok (.invokevirtual 41, 3) := by decide +kernel
theorem dX0_move_28 : decode cX0_move 28 = .ok (.return_, 1) := by decide +kernel
theorem dX0_pay_0 : decode cX0_pay 0 = .ok (.aload_n 0, 1) := by decide +kernel
theorem dX0_pay_1 : decode cX0_pay 1 = .ok (.getfield 18, 3) := by decide +kernel
theorem dX0_pay_4 : decode cX0_pay 4 = .ok (.iload_n 1, 1) := by decide +kernel
theorem dX0_pay_5 : decode cX0_pay 5 = .ok (.dup2, 1) := by decide +kernel
theorem dX0_pay_6 : decode cX0_pay 6 = .ok (.iaload, 1) := by decide +kernel
theorem dX0_pay_7 : decode cX0_pay 7 = .ok (.iload_n 3, 1) := by decide +kernel
theorem dX0_pay_8 : decode cX0_pay 8 = .ok (.isub, 1) := by decide +kernel
theorem dX0_pay_9 : decode cX0_pay 9 = .ok (.iastore, 1) := by decide +kernel
theorem dX0_pay_10 : decode cX0_pay 10 = .ok (.aload_n 0, 1) := by decide +kernel
theorem dX0_pay_11 : decode cX0_pay 11 = .ok (.getfield 18, 3) := by decide +kernel
theorem dX0_pay_14 : decode cX0_pay 14 = .ok (.iload_n 2, 1) := by decide +kernel
theorem dX0_pay_15 : decode cX0_pay 15 = .ok (.dup2, 1) := by decide +kernel
theorem dX0_pay_16 : decode cX0_pay 16 = .ok (.iaload, 1) := by decide +kernel
theorem dX0_pay_17 : decode cX0_pay 17 = .ok (.iload_n 3, 1) := by decide +kernel
theorem dX0_pay_18 : decode cX0_pay 18 = .ok (.iadd, 1) := by decide +kernel
theorem dX0_pay_19 : decode cX0_pay 19 = .ok (.iastore, 1) := by decide +kernel
theorem dX0_pay_20 : decode cX0_pay 20 = .ok (.return_, 1) := by decide +kernel
theorem dX1_init_0 : decode cX1_init 0 = .ok (.aload_n 0, 1) := by decide +kernel
theorem dX1_init_1 : decode cX1_init 1 = .ok (.invokespecial 3, 3) := by decide +kernel
theorem dX1_init_4 : decode cX1_init 4 = .ok (.aload_n 0, 1) := by decide +kernel
theorem dX1_init_5 : decode cX1_init 5 = .ok (.bipush 8, 2) := by decide +kernel
theorem dX1_init_7 : decode cX1_init 7 = .ok (.anewarray 9, 3) := by decide +kernel
theorem dX1_init_10 : decode cX1_init 10 = .ok (.putfield 11, 3) := by decide +kernel
theorem dX1_init_13 : decode cX1_init 13 = .ok (.aload_n 0, 1) := by decide +kernel
theorem dX1_init_14 : decode cX1_init 14 = .ok (.iconst 0, 1) := by decide +kernel
theorem dX1_init_15 : decode cX1_init 15 = .ok (.putfield 17, 3) := by decide +kernel
theorem dX1_init_18 : decode cX1_init 18 = .ok (.iconst 0, 1) := by decide +kernel
theorem dX1_init_19 : decode cX1_init 19 = .ok (.istore_n 1, 1) := by decide +kernel
theorem dX1_init_20 : decode cX1_init 20 = .ok (.iload_n 1, 1) := by decide +kernel
theorem dX1_init_21 : decode cX1_init 21 = .ok (.bipush 8, 2) := by decide +kernel
theorem dX1_init_23 : decode cX1_init 23 = .ok (.if_icmp .ge 22, 3) := by decide +kernel
theorem dX1_init_26 : decode cX1_init 26 = .ok (.aload_n 0, 1) := by decide +kernel
theorem dX1_init_27 : decode cX1_init 27 = .ok (.getfield 11, 3) := by decide +kernel
theorem dX1_init_30 : decode cX1_init 30 = .ok (.iload_n 1, 1) := by decide +kernel
theorem dX1_init_31 : decode cX1_init 31 = .ok (.new 9, 3) := by decide +kernel
theorem dX1_init_34 : decode cX1_init 34 = .ok (.dup, 1) := by decide +kernel
theorem dX1_init_35 : decode cX1_init 35 = .ok (.invokespecial 21, 3) := by decide +kernel
theorem dX1_init_38 : decode cX1_init 38 = .ok (.aastore, 1) := by decide +kernel
theorem dX1_init_39 : decode cX1_init 39 = .ok (.iinc 1 1, 3) := by decide +kernel
theorem dX1_init_42 : decode cX1_init 42 = .ok (.goto (-22), 3) := by decide +kernel
theorem dX1_init_45 : decode cX1_init 45 = .ok (.return_, 1) := by decide +kernel
theorem dX1_copyPast_0 : decode cX1_copyPast 0 = .ok (.aload_n 0, 1) := by decide +kernel
theorem dX1_copyPast_1 : decode cX1_copyPast 1 = .ok (.aload_n 1, 1) := by decide +kernel
theorem dX1_copyPast_2 : decode cX1_copyPast 2 = .ok (.getfield 17, 3) := by decide +kernel
theorem dX1_copyPast_5 : decode cX1_copyPast 5 = .ok (.putfield 17, 3) := by decide +kernel
theorem dX1_copyPast_8 : decode cX1_copyPast 8 = .ok (.iconst 0, 1) := by decide +kernel
theorem dX1_copyPast_9 : decode cX1_copyPast 9 = .ok (.istore_n 2, 1) := by decide +kernel
theorem dX1_copyPast_10 : decode cX1_copyPast 10 = .ok (.iload_n 2, 1) := by decide +kernel
theorem dX1_copyPast_11 : decode cX1_copyPast 11 = .ok (.aload_n 0, 1) := by decide +kernel
theorem dX1_copyPast_12 : decode cX1_copyPast 12 = .ok (.getfield 17, 3) := by decide +kernel
theorem dX1_copyPast_15 : decode cX1_copyPast 15 = .ok (.if_icmp .ge 24, 3) := by decide +kernel
theorem dX1_copyPast_18 : decode cX1_copyPast 18 = .ok (.aload_n 0, 1) := by decide +kernel
theorem dX1_copyPast_19 : decode cX1_copyPast 19 = .ok (.getfield 11, 3) := by decide +kernel
theorem dX1_copyPast_22 : decode cX1_copyPast 22 = .ok (.iload_n 2, 1) := by decide +kernel
theorem dX1_copyPast_23 : decode cX1_copyPast 23 = .ok (.aaload, 1) := by decide +kernel
theorem dX1_copyPast_24 : decode cX1_copyPast 24 = .ok (.aload_n 1, 1) := by decide +kernel
theorem dX1_copyPast_25 : decode cX1_copyPast 25 = .ok (.getfield 11, 3) := by decide +kernel
theorem dX1_copyPast_28 : decode cX1_copyPast 28 = .ok (.iload_n 2, 1) := by decide +kernel
theorem dX1_copyPast_29 : decode cX1_copyPast 29 = .ok (.aaload, 1) := by decide +kernel
theorem dX1_copyPast_30 : decode cX1_copyPast 30 = .ok (.invokevirtual 22, 3) := by decide +kernel
theorem dX1_copyPast_33 : decode cX1_copyPast 33 = .ok (.iinc 2 1, 3) := by decide +kernel
theorem dX1_copyPast_36 : decode cX1_copyPast 36 = .ok (.goto (-26), 3) := by decide +kernel
theorem dX1_copyPast_39 : decode cX1_copyPast 39 = .ok (.return_, 1) := by decide +kernel
theorem dX1_forget_0 : decode cX1_forget 0 = .ok (.aload_n 0, 1) := by decide +kernel
theorem dX1_forget_1 : decode cX1_forget 1 = .ok (.iconst 0, 1) := by decide +kernel
theorem dX1_forget_2 : decode cX1_forget 2 = .ok (.putfield 17, 3) := by decide +kernel
theorem dX1_forget_5 : decode cX1_forget 5 = .ok (.return_, 1) := by decide +kernel
theorem dX1_remember_0 : decode cX1_remember 0 = .ok (.aload_n 0, 1) := by decide +kernel
theorem dX1_remember_1 : decode cX1_remember 1 = .ok (.getfield 17, 3) := by decide +kernel
theorem dX1_remember_4 : decode cX1_remember 4 = .ok (.bipush 8, 2) := by decide +kernel
theorem dX1_remember_6 : decode cX1_remember 6 = .ok (.if_icmp .ne 7, 3) := by decide +kernel
theorem dX1_remember_9 : decode cX1_remember 9 = .ok (.aload_n 0, 1) := by decide +kernel
theorem dX1_remember_10 : decode cX1_remember 10 = .ok (.invokevirtual 26, 3) := by decide +kernel
theorem dX1_remember_13 : decode cX1_remember 13 = .ok (.aload_n 0, 1) := by decide +kernel
theorem dX1_remember_14 : decode cX1_remember 14 = .ok (.getfield 11, 3) := by decide +kernel
theorem dX1_remember_17 : decode cX1_remember 17 = .ok (.aload_n 0, 1) := by decide +kernel
theorem dX1_remember_18 : decode cX1_remember 18 = .ok (.getfield 17, 3) := by decide +kernel
theorem dX1_remember_21 : decode cX1_remember 21 = .ok (.aaload, 1) := by decide +kernel
theorem dX1_remember_22 : decode cX1_remember 22 = .ok (.aload_n 1, 1) := by decide +kernel
theorem dX1_remember_23 : decode cX1_remember 23 = .ok (.invokevirtual 22, 3) := by decide +kernel
theorem dX1_remember_26 : decode cX1_remember 26 = .ok (.aload_n 0, 1) := by decide +kernel
theorem dX1_remember_27 : decode cX1_remember 27 = .ok (.dup, 1) := by decide +kernel
theorem dX1_remember_28 : decode cX1_remember 28 = .ok (.getfield 17, 3) := by decide +kernel
theorem dX1_remember_31 : decode cX1_remember 31 = .ok (.iconst 1, 1) := by decide +kernel
theorem dX1_remember_32 : decode cX1_remember 32 = .ok (.iadd, 1) := by decide +kernel
theorem dX1_remember_33 : decode cX1_remember 33 = .ok (.putfield 17, 3) := by decide +kernel
theorem dX1_remember_36 : decode cX1_remember 36 = .ok (.return_, 1) := by decide +kernel
theorem dX1_loseOldest_0 : decode cX1_loseOldest 0 = .ok (.aload_n 0, 1) := by decide +kernel
theorem dX1_loseOldest_1 : decode cX1_loseOldest 1 = .ok (.getfield 11, 3) := by decide +kernel
theorem dX1_loseOldest_4 : decode cX1_loseOldest 4 = .ok (.iconst 0, 1) := by decide +kernel
theorem dX1_loseOldest_5 : decode cX1_loseOldest 5 = .ok (.aaload, 1) := by decide +kernel
theorem dX1_loseOldest_6 : decode cX1_loseOldest 6 = .ok (.astore_n 1, 1) := by decide +kernel
theorem dX1_loseOldest_7 : decode cX1_loseOldest 7 = .ok (.iconst 1, 1) := by decide +kernel
theorem dX1_loseOldest_8 : decode cX1_loseOldest 8 = .ok (.istore_n 2, 1) := by decide +kernel
theorem dX1_loseOldest_9 : decode cX1_loseOldest 9 = .ok (.iload_n 2, 1) := by decide +kernel
theorem dX1_loseOldest_10 : decode cX1_loseOldest 10 = .ok (.bipush 8, 2) := by decide +kernel
theorem dX1_loseOldest_12 : decode cX1_loseOldest 12 = .ok (.if_icmp .ge 23, 3) := by decide +kernel
theorem dX1_loseOldest_15 : decode cX1_loseOldest 15 = .ok (.aload_n 0, 1) := by decide +kernel
theorem dX1_loseOldest_16 : decode cX1_loseOldest 16 = .ok (.getfield 11, 3) := by decide +kernel
theorem dX1_loseOldest_19 : decode cX1_loseOldest 19 = .ok (.iload_n 2, 1) := by decide +kernel
theorem dX1_loseOldest_20 : decode cX1_loseOldest 20 = .ok (.iconst 1, 1) := by decide +kernel
theorem dX1_loseOldest_21 : decode cX1_loseOldest 21 = .ok (.isub, 1) := by decide +kernel
theorem dX1_loseOldest_22 : decode cX1_loseOldest 22 = .ok (.aload_n 0, 1) := by decide +kernel
theorem dX1_loseOldest_23 : decode cX1_loseOldest 23 = .ok (.getfield 11, 3) := by decide +kernel
theorem dX1_loseOldest_26 : decode cX1_loseOldest 26 = .ok (.iload_n 2, 1) := by decide +kernel
theorem dX1_loseOldest_27 : decode cX1_loseOldest 27 = .ok (.aaload, 1) := by decide +kernel
theorem dX1_loseOldest_28 : decode cX1_loseOldest 28 = .ok (.aastore, 1) := by decide +kernel
theorem dX1_loseOldest_29 : decode cX1_loseOldest 29 = .ok (.iinc 2 1, 3) := by decide +kernel
theorem dX1_loseOldest_32 : decode cX1_loseOldest 32 = .ok (.goto (-23), 3) := by decide +kernel
theorem dX1_loseOldest_35 : decode cX1_loseOldest 35 = .ok (.aload_n 0, 1) := by decide +kernel
theorem dX1_loseOldest_36 : decode cX1_loseOldest 36 = .ok (.getfield 11, 3) := by decide +kernel
theorem dX1_loseOldest_39 : decode cX1_loseOldest 39 = .ok (.bipush 7, 2) := by decide +kernel
theorem dX1_loseOldest_41 : decode cX1_loseOldest 41 = .ok (.aload_n 1, 1) := by decide +kernel
theorem dX1_loseOldest_42 : decode cX1_loseOldest 42 = .ok (.aastore, 1) := by decide +kernel
theorem dX1_loseOldest_43 : decode cX1_loseOldest 43 = .ok (.aload_n 0, 1) := by decide +kernel
theorem dX1_loseOldest_44 : decode cX1_loseOldest 44 = .ok (.bipush 7, 2) := by decide +kernel
theorem dX1_loseOldest_46 : decode cX1_loseOldest 46 = .ok (.putfield 17, 3) := by decide +kernel
theorem dX1_loseOldest_49 : decode cX1_loseOldest 49 = .ok (.return_, 1) := by decide +kernel
theorem dX1_bringBack_0 : decode cX1_bringBack 0 = .ok (.aload_n 0, 1) := by decide +kernel
theorem dX1_bringBack_1 : decode cX1_bringBack 1 = .ok (.getfield 17, 3) := by decide +kernel
theorem dX1_bringBack_4 : decode cX1_bringBack 4 = .ok (.ifCond .le 26, 3) := by decide +kernel
theorem dX1_bringBack_7 : decode cX1_bringBack 7 = .ok (.aload_n 0, 1) := by decide +kernel
theorem dX1_bringBack_8 : decode cX1_bringBack 8 = .ok (.dup, 1) := by decide +kernel
theorem dX1_bringBack_9 : decode cX1_bringBack 9 = .ok (.getfield 17, 3) := by decide +kernel
theorem dX1_bringBack_12 : decode cX1_bringBack 12 = .ok (.iconst 1, 1) := by decide +kernel
theorem dX1_bringBack_13 : decode cX1_bringBack 13 = .ok (.isub, 1) := by decide +kernel
theorem dX1_bringBack_14 : decode cX1_bringBack 14 = .ok (.putfield 17, 3) := by decide +kernel
theorem dX1_bringBack_17 : decode cX1_bringBack 17 = .ok (.aload_n 1, 1) := by decide +kernel
theorem dX1_bringBack_18 : decode cX1_bringBack 18 = .ok (.aload_n 0, 1) := by decide +kernel
theorem dX1_bringBack_19 : decode cX1_bringBack 19 = .ok (.getfield 11, 3) := by decide +kernel
theorem dX1_bringBack_22 : decode cX1_bringBack 22 = .ok (.aload_n 0, 1) := by decide +kernel
theorem dX1_bringBack_23 : decode cX1_bringBack 23 = .ok (.getfield 17, 3) := by decide +kernel
theorem dX1_bringBack_26 : decode cX1_bringBack 26 = .ok (.aaload, 1) := by decide +kernel
theorem dX1_bringBack_27 : decode cX1_bringBack 27 = .ok (.invokevirtual 22, 3) := by decide +kernel
theorem dX1_bringBack_30 : decode cX1_bringBack 30 = .ok (.return_, 1) := by decide +kernel
theorem dX2_init_0 : decode cX2_init 0 = .ok (.aload_n 0, 1) := by decide +kernel
theorem dX2_init_1 : decode cX2_init 1 = .ok (.invokespecial 3, 3) := by decide +kernel
theorem dX2_init_4 : decode cX2_init 4 = .ok (.aload_n 0, 1) := by decide +kernel
theorem dX2_init_5 : decode cX2_init 5 = .ok (.bipush 24, 2) := by decide +kernel
theorem dX2_init_7 : decode cX2_init 7 = .ok (.newarray .long, 2) := by decide +kernel
theorem dX2_init_9 : decode cX2_init 9 = .ok (.putfield 9, 3) := by decide +kernel
theorem dX2_init_12 : decode cX2_init 12 = .ok (.aload_n 0, 1) := by decide +kernel
theorem dX2_init_13 : decode cX2_init 13 = .ok (.iconst (-1), 1) := by decide +kernel
theorem dX2_init_14 : decode cX2_init 14 = .ok (.putfield 15, 3) := by decide +kernel
theorem dX2_init_17 : decode cX2_init 17 = .ok (.aload_n 0, 1) := by decide +kernel
theorem dX2_init_18 : decode cX2_init 18 = .ok (.iconst 0, 1) := by decide +kernel
theorem dX2_init_19 : decode cX2_init 19 = .ok (.putfield 19, 3) := by decide +kernel
theorem dX2_init_22 : decode cX2_init 22 = .ok (.return_, 1) := by decide +kernel
theorem dX2_begin_0 : decode cX2_begin 0 = .ok (.aload_n 0, 1) := by decide +kernel
theorem dX2_begin_1 : decode cX2_begin 1 = .ok (.iload_n 1, 1) := by decide +kernel
theorem dX2_begin_2 : decode cX2_begin 2 = .ok (.putfield 15, 3) := by decide +kernel
theorem dX2_begin_5 : decode cX2_begin 5 = .ok (.aload_n 0, 1) := by decide +kernel
theorem dX2_begin_6 : decode cX2_begin 6 = .ok (.iload_n 2, 1) := by decide +kernel
theorem dX2_begin_7 : decode cX2_begin 7 = .ok (.putfield 19, 3) := by decide +kernel
theorem dX2_begin_10 : decode cX2_begin 10 = .ok (.iconst 0, 1) := by decide +kernel
theorem dX2_begin_11 : decode cX2_begin 11 = .ok (.istore_n 3, 1) := by decide +kernel
theorem dX2_begin_12 : decode cX2_begin 12 = .ok (.iload_n 3, 1) := by decide +kernel
theorem dX2_begin_13 : decode cX2_begin 13 = .ok (.bipush 24, 2) := by decide +kernel
theorem dX2_begin_15 : decode cX2_begin 15 = .ok (.if_icmp .ge 16, 3) := by decide +kernel
theorem dX2_begin_18 : decode cX2_begin 18 = .ok (.aload_n 0, 1) := by decide +kernel
theorem dX2_begin_19 : decode cX2_begin 19 = .ok (.getfield 9, 3) := by decide +kernel
theorem dX2_begin_22 : decode cX2_begin 22 = .ok (.iload_n 3, 1) := by decide +kernel
theorem dX2_begin_23 : decode cX2_begin 23 = .ok (.lconst 0, 1) := by decide +kernel
theorem dX2_begin_24 : decode cX2_begin 24 = .ok (.lastore, 1) := by decide +kernel
theorem dX2_begin_25 : decode cX2_begin 25 = .ok (.iinc 3 1, 3) := by decide +kernel
theorem dX2_begin_28 : decode cX2_begin 28 = .ok (.goto (-16), 3) := by decide +kernel
theorem dX2_begin_31 : decode cX2_begin 31 = .ok (.return_, 1) := by decide +kernel
theorem dX2_hasRoom_0 : decode cX2_hasRoom 0 = .ok (.iload_n 1, 1) := by decide +kernel
theorem dX2_hasRoom_1 : decode cX2_hasRoom 1 = .ok (.ifCond .lt 21, 3) := by decide +kernel
theorem dX2_hasRoom_4 : decode cX2_hasRoom 4 = .ok (.iload_n 2, 1) := by decide +kernel
theorem dX2_hasRoom_5 : decode cX2_hasRoom 5 = .ok (.ifCond .lt 17, 3) := by decide +kernel
theorem dX2_hasRoom_8 : decode cX2_hasRoom 8 = .ok (.iload_n 1, 1) := by decide +kernel
theorem dX2_hasRoom_9 : decode cX2_hasRoom 9 = .ok (.aload_n 0, 1) := by decide +kernel
theorem dX2_hasRoom_10 : decode cX2_hasRoom 10 = .ok (.getfield 19, 3) := by decide +kernel
theorem dX2_hasRoom_13 : decode cX2_hasRoom 13 = .ok (.iload_n 2, 1) := by decide +kernel
theorem dX2_hasRoom_14 : decode cX2_hasRoom 14 = .ok (.isub, 1) := by decide +kernel
theorem dX2_hasRoom_15 : decode cX2_hasRoom 15 = .ok (.if_icmp .gt 7, 3) := by decide +kernel
theorem dX2_hasRoom_18 : decode cX2_hasRoom 18 = .ok (.iconst 1, 1) := by decide +kernel
theorem dX2_hasRoom_19 : decode cX2_hasRoom 19 = .ok (.goto 4, 3) := by decide +kernel
theorem dX2_hasRoom_22 : decode cX2_hasRoom 22 = .ok (.iconst 0, 1) := by decide +kernel
theorem dX2_hasRoom_23 : decode cX2_hasRoom 23 = .ok (.ireturn, 1) := by decide +kernel
theorem dX2_troubleOf_0 : decode cX2_troubleOf 0 = .ok (.aload_n 0, 1) := by decide +kernel
theorem dX2_troubleOf_1 : decode cX2_troubleOf 1 = .ok (.getfield 15, 3) := by decide +kernel
theorem dX2_troubleOf_4 : decode cX2_troubleOf 4 = .ok (.iconst (-1), 1) := by decide +kernel
theorem dX2_troubleOf_5 : decode cX2_troubleOf 5 = .ok (.if_icmp .ne 6, 3) := by decide +kernel
theorem dX2_troubleOf_8 : decode cX2_troubleOf 8 = .ok (.bipush (-11), 2) := by decide +kernel
theorem dX2_troubleOf_10 : decode cX2_troubleOf 10 = .ok (.ireturn, 1) := by decide +kernel
theorem dX2_troubleOf_11 : decode cX2_troubleOf 11 = .ok (.aload_n 0, 1) := by decide +kernel
theorem dX2_troubleOf_12 : decode cX2_troubleOf 12 = .ok (.getfield 15, 3) := by decide +kernel
theorem dX2_troubleOf_15 : decode cX2_troubleOf 15 = .ok (.iload_n 1, 1) := by decide +kernel
theorem dX2_troubleOf_16 : decode cX2_troubleOf 16 = .ok (.if_icmp .eq 6, 3) := by decide +kernel
theorem dX2_troubleOf_19 : decode cX2_troubleOf 19 = .ok (.bipush (-12), 2) := by decide +kernel
theorem dX2_troubleOf_21 : decode cX2_troubleOf 21 = .ok (.ireturn, 1) := by decide +kernel
theorem dX2_troubleOf_22 : decode cX2_troubleOf 22 = .ok (.aload_n 0, 1) := by decide +kernel
theorem dX2_troubleOf_23 : decode cX2_troubleOf 23 = .ok (.iload_n 2, 1) := by decide +kernel
theorem dX2_troubleOf_24 : decode cX2_troubleOf 24 = .ok (.iload_n 3, 1) := by decide +kernel
theorem dX2_troubleOf_25 : decode cX2_troubleOf 25 = .ok (.invokevirtual 22, 3) := by decide +kernel
theorem dX2_troubleOf_28 : decode cX2_troubleOf 28 = .ok (.ifCond .eq 7, 3) := by decide +kernel
theorem dX2_troubleOf_31 : decode cX2_troubleOf 31 = .ok (.iconst 0, 1) := by decide +kernel
theorem dX2_troubleOf_32 : decode cX2_troubleOf 32 = .ok (.goto 5, 3) := by decide +kernel
theorem dX2_troubleOf_35 : decode cX2_troubleOf 35 = .ok (.bipush (-13), 2) := by decide +kernel
theorem dX2_troubleOf_37 : decode cX2_troubleOf 37 = .ok (.ireturn, 1) := by decide +kernel
theorem dX2_put_0 : decode cX2_put 0 = .ok (.aload_n 0, 1) := by decide +kernel
theorem dX2_put_1 : decode cX2_put 1 = .ok (.getfield 15, 3) := by decide +kernel
theorem dX2_put_4 : decode cX2_put 4 = .ok (.tableswitch 66 0 2 #[28, 41, 54], 28) := by decide +kernel
theorem dX2_put_32 : decode cX2_put 32 = .ok (.aload_n 0, 1) := by decide +kernel
theorem dX2_put_33 : decode cX2_put 33 = .ok (.getfield 9, 3) := by decide +kernel
theorem dX2_put_36 : decode cX2_put 36 = .ok (.iload_n 1, 1) := by decide +kernel
theorem dX2_put_37 : decode cX2_put 37 = .ok (.lload_n 2, 1) := by decide +kernel
theorem dX2_put_38 : decode cX2_put 38 = .ok (.l2i, 1) := by decide +kernel
theorem dX2_put_39 : decode cX2_put 39 = .ok (.i2b, 1) := by decide +kernel
theorem dX2_put_40 : decode cX2_put 40 = .ok (.i2l, 1) := by decide +kernel
theorem dX2_put_41 : decode cX2_put 41 = .ok (.lastore, 1) := by decide +kernel
theorem dX2_put_42 : decode cX2_put 42 = .ok (.goto 35, 3) := by decide +kernel
theorem dX2_put_45 : decode cX2_put 45 = .ok (.aload_n 0, 1) := by decide +kernel
theorem dX2_put_46 : decode cX2_put 46 = .ok (.getfield 9, 3) := by decide +kernel
theorem dX2_put_49 : decode cX2_put 49 = .ok (.iload_n 1, 1) := by decide +kernel
theorem dX2_put_50 : decode cX2_put 50 = .ok (.lload_n 2, 1) := by decide +kernel
theorem dX2_put_51 : decode cX2_put 51 = .ok (.l2i, 1) := by decide +kernel
theorem dX2_put_52 : decode cX2_put 52 = .ok (.i2s, 1) := by decide +kernel
theorem dX2_put_53 : decode cX2_put 53 = .ok (.i2l, 1) := by decide +kernel
theorem dX2_put_54 : decode cX2_put 54 = .ok (.lastore, 1) := by decide +kernel
theorem dX2_put_55 : decode cX2_put 55 = .ok (.goto 22, 3) := by decide +kernel
theorem dX2_put_58 : decode cX2_put 58 = .ok (.aload_n 0, 1) := by decide +kernel
theorem dX2_put_59 : decode cX2_put 59 = .ok (.getfield 9, 3) := by decide +kernel
theorem dX2_put_62 : decode cX2_put 62 = .ok (.iload_n 1, 1) := by decide +kernel
theorem dX2_put_63 : decode cX2_put 63 = .ok (.lload_n 2, 1) := by decide +kernel
theorem dX2_put_64 : decode cX2_put 64 = .ok (.l2i, 1) := by decide +kernel
theorem dX2_put_65 : decode cX2_put 65 = .ok (.i2l, 1) := by decide +kernel
theorem dX2_put_66 : decode cX2_put 66 = .ok (.lastore, 1) := by decide +kernel
theorem dX2_put_67 : decode cX2_put 67 = .ok (.goto 10, 3) := by decide +kernel
theorem dX2_put_70 : decode cX2_put 70 = .ok (.aload_n 0, 1) := by decide +kernel
theorem dX2_put_71 : decode cX2_put 71 = .ok (.getfield 9, 3) := by decide +kernel
theorem dX2_put_74 : decode cX2_put 74 = .ok (.iload_n 1, 1) := by decide +kernel
theorem dX2_put_75 : decode cX2_put 75 = .ok (.lload_n 2, 1) := by decide +kernel
theorem dX2_put_76 : decode cX2_put 76 = .ok (.lastore, 1) := by decide +kernel
theorem dX2_put_77 : decode cX2_put 77 = .ok (.return_, 1) := by decide +kernel
theorem dX3_init_0 : decode cX3_init 0 = .ok (.aload_n 0, 1) := by decide +kernel
theorem dX3_init_1 : decode cX3_init 1 = .ok (.invokespecial 3, 3) := by decide +kernel
theorem dX3_init_4 : decode cX3_init 4 = .ok (.aload_n 0, 1) := by decide +kernel
theorem dX3_init_5 : decode cX3_init 5 = .ok (.bipush 100, 2) := by decide +kernel
theorem dX3_init_7 : decode cX3_init 7 = .ok (.newarray .char, 2) := by decide +kernel
theorem dX3_init_9 : decode cX3_init 9 = .ok (.putfield 9, 3) := by decide +kernel
theorem dX3_init_12 : decode cX3_init 12 = .ok (.aload_n 0, 1) := by decide +kernel
theorem dX3_init_13 : decode cX3_init 13 = .ok (.iconst 0, 1) := by decide +kernel
theorem dX3_init_14 : decode cX3_init 14 = .ok (.putfield 15, 3) := by decide +kernel
theorem dX3_init_17 : decode cX3_init 17 = .ok (.aload_n 0, 1) := by decide +kernel
theorem dX3_init_18 : decode cX3_init 18 = .ok (.iconst 0, 1) := by decide +kernel
theorem dX3_init_19 : decode cX3_init 19 = .ok (.putfield 19, 3) := by decide +kernel
theorem dX3_init_22 : decode cX3_init 22 = .ok (.return_, 1) := by decide +kernel
theorem dX3_put_0 : decode cX3_put 0 = .ok (.aload_n 0, 1) := by decide +kernel
theorem dX3_put_1 : decode cX3_put 1 = .ok (.getfield 15, 3) := by decide +kernel
theorem dX3_put_4 : decode cX3_put 4 = .ok (.bipush 100, 2) := by decide +kernel
theorem dX3_put_6 : decode cX3_put 6 = .ok (.if_icmp .ge 23, 3) := by decide +kernel
theorem dX3_put_9 : decode cX3_put 9 = .ok (.aload_n 0, 1) := by decide +kernel
theorem dX3_put_10 : decode cX3_put 10 = .ok (.getfield 9, 3) := by decide +kernel
theorem dX3_put_13 : decode cX3_put 13 = .ok (.aload_n 0, 1) := by decide +kernel
theorem dX3_put_14 : decode cX3_put 14 = .ok (.getfield 15, 3) := by decide +kernel
theorem dX3_put_17 : decode cX3_put 17 = .ok (.iload_n 1, 1) := by decide +kernel
theorem dX3_put_18 : decode cX3_put 18 = .ok (.castore, 1) := by decide +kernel
theorem dX3_put_19 : decode cX3_put 19 = .ok (.aload_n 0, 1) := by decide +kernel
theorem dX3_put_20 : decode cX3_put 20 = .ok (.dup, 1) := by decide +kernel
theorem dX3_put_21 : decode cX3_put 21 = .ok (.getfield 15, 3) := by decide +kernel
theorem dX3_put_24 : decode cX3_put 24 = .ok (.iconst 1, 1) := by decide +kernel
theorem dX3_put_25 : decode cX3_put 25 = .ok (.iadd, 1) := by decide +kernel
theorem dX3_put_26 : decode cX3_put 26 = .ok (.putfield 15, 3) := by decide +kernel
theorem dX3_put_29 : decode cX3_put 29 = .ok (.aload_n 0, 1) := by decide +kernel
theorem dX3_put_30 : decode cX3_put 30 = .ok (.getfield 15, 3) := by decide +kernel
theorem dX3_put_33 : decode cX3_put 33 = .ok (.ireturn, 1) := by decide +kernel
theorem dX3_wipe_0 : decode cX3_wipe 0 = .ok (.aload_n 0, 1) := by decide +kernel
theorem dX3_wipe_1 : decode cX3_wipe 1 = .ok (.iconst 0, 1) := by decide +kernel
theorem dX3_wipe_2 : decode cX3_wipe 2 = .ok (.putfield 15, 3) := by decide +kernel
theorem dX3_wipe_5 : decode cX3_wipe 5 = .ok (.aload_n 0, 1) := by decide +kernel
theorem dX3_wipe_6 : decode cX3_wipe 6 = .ok (.iconst 0, 1) := by decide +kernel
theorem dX3_wipe_7 : decode cX3_wipe 7 = .ok (.putfield 19, 3) := by decide +kernel
theorem dX3_wipe_10 : decode cX3_wipe 10 = .ok (.return_, 1) := by decide +kernel
theorem dX3_tell_0 : decode cX3_tell 0 = .ok (.aload_n 0, 1) := by decide +kernel
theorem dX3_tell_1 : decode cX3_tell 1 = .ok (.iconst 0, 1) := by decide +kernel
theorem dX3_tell_2 : decode cX3_tell 2 = .ok (.putfield 19, 3) := by decide +kernel
theorem dX3_tell_5 : decode cX3_tell 5 = .ok (.aload_n 1, 1) := by decide +kernel
theorem dX3_tell_6 : decode cX3_tell 6 = .ok (.iconst 0, 1) := by decide +kernel
theorem dX3_tell_7 : decode cX3_tell 7 = .ok (.putfield 22, 3) := by decide +kernel
theorem dX3_tell_10 : decode cX3_tell 10 = .ok (.aload_n 0, 1) := by decide +kernel
theorem dX3_tell_11 : decode cX3_tell 11 = .ok (.aload_n 1, 1) := by decide +kernel
theorem dX3_tell_12 : decode cX3_tell 12 = .ok (.getfield 27, 3) := by decide +kernel
theorem dX3_tell_15 : decode cX3_tell 15 = .ok (.invokevirtual 31, 3) := by decide +kernel
theorem dX3_tell_18 : decode cX3_tell 18 = .ok (.ifCond .eq 32, 3) := by decide +kernel
theorem dX3_tell_21 : decode cX3_tell 21 = .ok (.aload_n 0, 1) := by decide +kernel
theorem dX3_tell_22 : decode cX3_tell 22 = .ok (.bipush 59, 2) := by decide +kernel
theorem dX3_tell_24 : decode cX3_tell 24 = .ok (.invokevirtual 35, 3) := by decide +kernel
theorem dX3_tell_27 : decode cX3_tell 27 = .ok (.ifCond .eq 23, 3) := by decide +kernel
theorem dX3_tell_30 : decode cX3_tell 30 = .ok (.aload_n 0, 1) := by decide +kernel
theorem dX3_tell_31 : decode cX3_tell 31 = .ok (.aload_n 1, 1) := by decide +kernel
theorem dX3_tell_32 : decode cX3_tell 32 = .ok (.invokevirtual 39, 3) := by decide +kernel
theorem dX3_tell_35 : decode cX3_tell 35 = .ok (.ifCond .eq 15, 3) := by decide +kernel
theorem dX3_tell_38 : decode cX3_tell 38 = .ok (.aload_n 0, 1) := by decide +kernel
theorem dX3_tell_39 : decode cX3_tell 39 = .ok (.aload_n 1, 1) := by decide +kernel
theorem dX3_tell_40 : decode cX3_tell 40 = .ok (.invokevirtual 43, 3) := by decide +kernel
theorem dX3_tell_43 : decode cX3_tell 43 = .ok (.ifCond .eq 7, 3) := by decide +kernel
theorem dX3_tell_46 : decode cX3_tell 46 = .ok (.iconst 1, 1) := by decide +kernel
theorem dX3_tell_47 : decode cX3_tell 47 = .ok (.goto 4, 3) := by decide +kernel
theorem dX3_tell_50 : decode cX3_tell 50 = .ok (.iconst 0, 1) := by decide +kernel
theorem dX3_tell_51 : decode cX3_tell 51 = .ok (.ireturn, 1) := by decide +kernel
theorem dX3_tellSundays_0 : decode cX3_tellSundays 0 = .ok (.aload_n 1, 1) := by decide +kernel
theorem dX3_tellSundays_1 : decode cX3_tellSundays 1 = .ok (.iconst 0, 1) := by decide +kernel
theorem dX3_tellSundays_2 : decode cX3_tellSundays 2 = .ok (.putfield 46, 3) := by decide +kernel
theorem dX3_tellSundays_5 : decode cX3_tellSundays 5 = .ok (.aload_n 1, 1) := by decide +kernel
theorem dX3_tellSundays_6 : decode cX3_tellSundays 6 = .ok (.iconst 0, 1) := by decide +kernel
theorem dX3_tellSundays_7 : decode cX3_tellSundays 7 = .ok (.putfield 51, 3) := by decide +kernel
theorem dX3_tellSundays_10 : decode cX3_tellSundays 10 = .ok (.iconst 0, 1) := by decide +kernel
theorem dX3_tellSundays_11 : decode cX3_tellSundays 11 = .ok (.istore_n 2, 1) := by decide +kernel
theorem dX3_tellSundays_12 : decode cX3_tellSundays 12 = .ok (.iload_n 2, 1) := by decide +kernel
theorem dX3_tellSundays_13 : decode cX3_tellSundays 13 = .ok (.bipush 6, 2) := by decide +kernel
theorem dX3_tellSundays_15 : decode cX3_tellSundays 15 = .ok (.if_icmp .ge 50, 3) := by decide +kernel
theorem dX3_tellSundays_18 : decode cX3_tellSundays 18 = .ok (.aload_n 0, 1) := by decide +kernel
theorem dX3_tellSundays_19 : decode cX3_tellSundays 19 = .ok (.ldc 54, 2) := by decide +kernel
theorem dX3_tellSundays_21 : decode cX3_tellSundays 21 = .ok (.invokevirtual 56, 3) := by decide +kernel
theorem dX3_tellSundays_24 : decode cX3_tellSundays 24 = .ok (.istore_n 3, 1) := by decide +kernel
theorem dX3_tellSundays_25 : decode cX3_tellSundays 25 = .ok (.iload_n 3, 1) := by decide +kernel
theorem dX3_tellSundays_26 : decode cX3_tellSundays 26 = .ok (.ifCond .ge 5, 3) := by decide +kernel
theorem dX3_tellSundays_29 : decode cX3_tellSundays 29 = .ok (.iconst 0, 1) := by decide +kernel
theorem dX3_tellSundays_30 : decode cX3_tellSundays 30 = .ok (.ireturn, 1) := by decide +kernel
theorem dX3_tellSundays_31 : decode cX3_tellSundays 31 = .ok (.aload_n 1, 1) := by decide +kernel
theorem dX3_tellSundays_32 : decode cX3_tellSundays 32 = .ok (.dup, 1) := by decide +kernel
theorem dX3_tellSundays_33 : decode cX3_tellSundays 33 = .ok (.getfield 46, 3) := by decide +kernel
theorem dX3_tellSundays_36 : decode cX3_tellSundays 36 = .ok (.iload_n 3, 1) := by decide +kernel
theorem dX3_tellSundays_37 : decode cX3_tellSundays 37 = .ok (.iconst 1, 1) := by decide +kernel
theorem dX3_tellSundays_38 : decode cX3_tellSundays 38 = .ok (.iand, 1) := by decide +kernel
theorem dX3_tellSundays_39 : decode cX3_tellSundays 39 = .ok (.iload_n 2, 1) := by decide +kernel
theorem dX3_tellSundays_40 : decode cX3_tellSundays 40 = .ok (.ishl, 1) := by decide +kernel
theorem dX3_tellSundays_41 : decode cX3_tellSundays 41 = .ok (.ior, 1) := by decide +kernel
theorem dX3_tellSundays_42 : decode cX3_tellSundays 42 = .ok (.putfield 46, 3) := by decide +kernel
theorem dX3_tellSundays_45 : decode cX3_tellSundays 45 = .ok (.aload_n 1, 1) := by decide +kernel
theorem dX3_tellSundays_46 : decode cX3_tellSundays 46 = .ok (.dup, 1) := by decide +kernel
theorem dX3_tellSundays_47 : decode cX3_tellSundays 47 = .ok (.getfield 51, 3) := by decide +kernel
theorem dX3_tellSundays_50 : decode cX3_tellSundays 50 = .ok (.iload_n 3, 1) := by decide +kernel
theorem dX3_tellSundays_51 : decode cX3_tellSundays 51 = .ok (.iconst 1, 1) := by decide +kernel
theorem dX3_tellSundays_52 : decode cX3_tellSundays 52 = .ok (.ishr, 1) := by decide +kernel
theorem dX3_tellSundays_53 : decode cX3_tellSundays 53 = .ok (.iload_n 2, 1) := by decide +kernel
theorem dX3_tellSundays_54 : decode cX3_tellSundays 54 = .ok (.ishl, 1) := by decide +kernel
theorem dX3_tellSundays_55 : decode cX3_tellSundays 55 = .ok (.ior, 1) := by decide +kernel
theorem dX3_tellSundays_56 : decode cX3_tellSundays 56 = .ok (.putfield 51, 3) := by decide +kernel
theorem dX3_tellSundays_59 : decode cX3_tellSundays 59 = .ok (.iinc 2 1, 3) := by decide +kernel
theorem dX3_tellSundays_62 : decode cX3_tellSundays 62 = .ok (.goto (-50), 3) := by decide +kernel
theorem dX3_tellSundays_65 : decode cX3_tellSundays 65 = .ok (.iconst 1, 1) := by decide +kernel
theorem dX3_tellSundays_66 : decode cX3_tellSundays 66 = .ok (.ireturn, 1) := by decide +kernel
theorem dX3_tellPeople_0 : decode cX3_tellPeople 0 = .ok (.iconst 0, 1) := by decide +kernel
theorem dX3_tellPeople_1 : decode cX3_tellPeople 1 = .ok (.istore_n 2, 1) := by decide +kernel
theorem dX3_tellPeople_2 : decode cX3_tellPeople 2 = .ok (.iload_n 2, 1) := by decide +kernel
theorem dX3_tellPeople_3 : decode cX3_tellPeople 3 = .ok (.bipush 6, 2) := by decide +kernel
theorem dX3_tellPeople_5 : decode cX3_tellPeople 5 = .ok (.if_icmp .ge 35, 3) := by decide +kernel
theorem dX3_tellPeople_8 : decode cX3_tellPeople 8 = .ok (.iload_n 2, 1) := by decide +kernel
theorem dX3_tellPeople_9 : decode cX3_tellPeople 9 = .ok (.ifCond .le 15, 3) := by decide +kernel
theorem dX3_tellPeople_12 : decode cX3_tellPeople 12 = .ok (.aload_n 0, 1) := by decide +kernel
theorem dX3_tellPeople_13 : decode cX3_tellPeople 13 = .ok (.bipush 44, 2) := by decide +kernel
theorem dX3_tellPeople_15 : decode cX3_tellPeople 15 = .ok (.invokevirtual 35, 3) := by decide +kernel
theorem dX3_tellPeople_18 : decode cX3_tellPeople 18 = .ok (.ifCond .ne 6, 3) := by decide +kernel
theorem dX3_tellPeople_21 : decode cX3_tellPeople 21 = .ok (.goto 19, 3) := by decide +kernel
theorem dX3_tellPeople_24 : decode cX3_tellPeople 24 = .ok (.aload_n 0, 1) := by decide +kernel
theorem dX3_tellPeople_25 : decode cX3_tellPeople 25 = .ok (.aload_n 1, 1) := by decide +kernel
theorem dX3_tellPeople_26 : decode cX3_tellPeople 26 = .ok (.invokevirtual 60, 3) := by decide +kernel
theorem dX3_tellPeople_29 : decode cX3_tellPeople 29 = .ok (.ifCond .ne 5, 3) := by decide +kernel
theorem dX3_tellPeople_32 : decode cX3_tellPeople 32 = .ok (.iconst 0, 1) := by decide +kernel
theorem dX3_tellPeople_33 : decode cX3_tellPeople 33 = .ok (.ireturn, 1) := by decide +kernel
theorem dX3_tellPeople_34 : decode cX3_tellPeople 34 = .ok (.iinc 2 1, 3) := by decide +kernel
theorem dX3_tellPeople_37 : decode cX3_tellPeople 37 = .ok (.goto (-35), 3) := by decide +kernel
theorem dX3_tellPeople_40 : decode cX3_tellPeople 40 = .ok (.aload_n 0, 1) := by decide +kernel
theorem dX3_tellPeople_41 : decode cX3_tellPeople 41 = .ok (.invokevirtual 63, 3) := by decide +kernel
theorem dX3_tellPeople_44 : decode cX3_tellPeople 44 = .ok (.iconst (-1), 1) := by decide +kernel
theorem dX3_tellPeople_45 : decode cX3_tellPeople 45 = .ok (.if_icmp .ne 7, 3) := by decide +kernel
theorem dX3_tellPeople_48 : decode cX3_tellPeople 48 = .ok (.iconst 1, 1) := by decide +kernel
theorem dX3_tellPeople_49 : decode cX3_tellPeople 49 = .ok (.goto 4, 3) := by decide +kernel
theorem dX3_tellPeople_52 : decode cX3_tellPeople 52 = .ok (.iconst 0, 1) := by decide +kernel
theorem dX3_tellPeople_53 : decode cX3_tellPeople 53 = .ok (.ireturn, 1) := by decide +kernel
theorem dX3_tellOne_0 : decode cX3_tellOne 0 = .ok (.aload_n 0, 1) := by decide +kernel
theorem dX3_tellOne_1 : decode cX3_tellOne 1 = .ok (.ldc 67, 2) := by decide +kernel
theorem dX3_tellOne_3 : decode cX3_tellOne 3 = .ok (.invokevirtual 56, 3) := by decide +kernel
theorem dX3_tellOne_6 : decode cX3_tellOne 6 = .ok (.istore_n 2, 1) := by decide +kernel
theorem dX3_tellOne_7 : decode cX3_tellOne 7 = .ok (.iload_n 2, 1) := by decide +kernel
theorem dX3_tellOne_8 : decode cX3_tellOne 8 = .ok (.ifCond .ge 5, 3) := by decide +kernel
theorem dX3_tellOne_11 : decode cX3_tellOne 11 = .ok (.iconst 0, 1) := by decide +kernel
theorem dX3_tellOne_12 : decode cX3_tellOne 12 = .ok (.ireturn, 1) := by decide +kernel
theorem dX3_tellOne_13 : decode cX3_tellOne 13 = .ok (.aload_n 0, 1) := by decide +kernel
theorem dX3_tellOne_14 : decode cX3_tellOne 14 = .ok (.invokevirtual 69, 3) := by decide +kernel
theorem dX3_tellOne_17 : decode cX3_tellOne 17 = .ok (.istore_n 3, 1) := by decide +kernel
theorem dX3_tellOne_18 : decode cX3_tellOne 18 = .ok (.iload_n 3, 1) := by decide +kernel
theorem dX3_tellOne_19 : decode cX3_tellOne 19 = .ok (.ifCond .ge 5, 3) := by decide +kernel
theorem dX3_tellOne_22 : decode cX3_tellOne 22 = .ok (.iconst 0, 1) := by decide +kernel
theorem dX3_tellOne_23 : decode cX3_tellOne 23 = .ok (.ireturn, 1) := by decide +kernel
theorem dX3_tellOne_24 : decode cX3_tellOne 24 = .ok (.aload_n 1, 1) := by decide +kernel
theorem dX3_tellOne_25 : decode cX3_tellOne 25 = .ok (.iload_n 2, 1) := by decide +kernel
theorem dX3_tellOne_26 : decode cX3_tellOne 26 = .ok (.iload_n 3, 1) := by decide +kernel
theorem dX3_tellOne_27 : decode cX3_tellOne 27 = .ok (.invokevirtual 72, 3) := by decide +kernel
theorem dX3_tellOne_30 : decode cX3_tellOne 30 = .ok (.istore 4, 2) := by decide +kernel
theorem dX3_tellOne_32 : decode cX3_tellOne 32 = .ok (.iload 4, 2) := by decide +kernel
theorem dX3_tellOne_34 : decode cX3_tellOne 34 = .ok (.ifCond .ge 5, 3) := by decide +kernel
theorem dX3_tellOne_37 : decode cX3_tellOne 37 = .ok (.iconst 0, 1) := by decide +kernel
theorem dX3_tellOne_38 : decode cX3_tellOne 38 = .ok (.ireturn, 1) := by decide +kernel
theorem dX3_tellOne_39 : decode cX3_tellOne 39 = .ok (.aload_n 0, 1) := by decide +kernel
theorem dX3_tellOne_40 : decode cX3_tellOne 40 = .ok (.bipush 62, 2) := by decide +kernel
theorem dX3_tellOne_42 : decode cX3_tellOne 42 = .ok (.invokevirtual 35, 3) := by decide +kernel
theorem dX3_tellOne_45 : decode cX3_tellOne 45 = .ok (.ifCond .eq 27, 3) := by decide +kernel
theorem dX3_tellOne_48 : decode cX3_tellOne 48 = .ok (.aload_n 0, 1) := by decide +kernel
theorem dX3_tellOne_49 : decode cX3_tellOne 49 = .ok (.ldc 76, 2) := by decide +kernel
theorem dX3_tellOne_51 : decode cX3_tellOne 51 = .ok (.invokevirtual 56, 3) := by decide +kernel
theorem dX3_tellOne_54 : decode cX3_tellOne 54 = .ok (.istore 5, 2) := by decide +kernel
theorem dX3_tellOne_56 : decode cX3_tellOne 56 = .ok (.iload 5, 2) := by decide +kernel
theorem dX3_tellOne_58 : decode cX3_tellOne 58 = .ok (.ifCond .ge 5, 3) := by decide +kernel
theorem dX3_tellOne_61 : decode cX3_tellOne 61 = .ok (.iconst 0, 1) := by decide +kernel
theorem dX3_tellOne_62 : decode cX3_tellOne 62 = .ok (.ireturn, 1) := by decide +kernel
theorem dX3_tellOne_63 : decode cX3_tellOne 63 = .ok (.aload_n 1, 1) := by decide +kernel
theorem dX3_tellOne_64 : decode cX3_tellOne 64 = .ok (.getfield 78, 3) := by decide +kernel
theorem dX3_tellOne_67 : decode cX3_tellOne 67 = .ok (.iload 4, 2) := by decide +kernel
theorem dX3_tellOne_69 : decode cX3_tellOne 69 = .ok (.iload 5, 2) := by decide +kernel
theorem dX3_tellOne_71 : decode cX3_tellOne 71 = .ok (.iastore, 1) := by decide +kernel
theorem dX3_tellOne_72 : decode cX3_tellOne 72 = .ok (.aload_n 0, 1) := by decide +kernel
theorem dX3_tellOne_73 : decode cX3_tellOne 73 = .ok (.bipush 45, 2) := by decide +kernel
theorem dX3_tellOne_75 : decode cX3_tellOne 75 = .ok (.invokevirtual 35, 3) := by decide +kernel
theorem dX3_tellOne_78 : decode cX3_tellOne 78 = .ok (.ifCond .eq 17, 3) := by decide +kernel
theorem dX3_tellOne_81 : decode cX3_tellOne 81 = .ok (.aload_n 0, 1) := by decide +kernel
theorem dX3_tellOne_82 : decode cX3_tellOne 82 = .ok (.aload_n 1, 1) := by decide +kernel
theorem dX3_tellOne_83 : decode cX3_tellOne 83 = .ok (.getfield 27, 3) := by decide +kernel
theorem dX3_tellOne_86 : decode cX3_tellOne 86 = .ok (.iload 4, 2) := by decide +kernel
theorem dX3_tellOne_88 : decode cX3_tellOne 88 = .ok (.iconst (-1), 1) := by decide +kernel
theorem dX3_tellOne_89 : decode cX3_tellOne 89 = .ok (.invokevirtual 82, 3) := by decide +kernel
theorem dX3_tellOne_92 : decode cX3_tellOne 92 = .ok (.ifCond .eq 30, 3) := by decide +kernel
theorem dX3_tellOne_95 : decode cX3_tellOne 95 = .ok (.aload_n 0, 1) := by decide +kernel
theorem dX3_tellOne_96 : decode cX3_tellOne 96 = .ok (.bipush 43, 2) := by decide +kernel
theorem dX3_tellOne_98 : decode cX3_tellOne 98 = .ok (.invokevirtual 35, 3) := by decide +kernel
theorem dX3_tellOne_101 : decode cX3_tellOne 101 = .ok (.ifCond .eq 17, 3) := by decide +kernel
theorem dX3_tellOne_104 : decode cX3_tellOne 104 = .ok (.aload_n 0, 1) := by decide +kernel
theorem dX3_tellOne_105 : decode cX3_tellOne 105 = .ok (.aload_n 1, 1) := by decide +kernel
theorem dX3_tellOne_106 : decode cX3_tellOne 106 = .ok (.getfield 27, 3) := by decide +kernel
theorem dX3_tellOne_109 : decode cX3_tellOne 109 = .ok (.iload 4, 2) := by decide +kernel
theorem dX3_tellOne_111 : decode cX3_tellOne 111 = .ok (.iconst 1, 1) := by decide +kernel
theorem dX3_tellOne_112 : decode cX3_tellOne 112 = .ok (.invokevirtual 82, 3) := by decide +kernel
theorem dX3_tellOne_115 : decode cX3_tellOne 115 = .ok (.ifCond .eq 7, 3) := by decide +kernel
theorem dX3_tellOne_118 : decode cX3_tellOne 118 = .ok (.iconst 1, 1) := by decide +kernel
theorem dX3_tellOne_119 : decode cX3_tellOne 119 = .ok (.goto 4, 3) := by decide +kernel
theorem dX3_tellOne_122 : decode cX3_tellOne 122 = .ok (.iconst 0, 1) := by decide +kernel
theorem dX3_tellOne_123 : decode cX3_tellOne 123 = .ok (.ireturn, 1) := by decide +kernel
theorem dX3_tellHalves_0 : decode cX3_tellHalves 0 = .ok (.iconst (-1), 1) := by decide +kernel
theorem dX3_tellHalves_1 : decode cX3_tellHalves 1 = .ok (.istore 4, 2) := by decide +kernel
theorem dX3_tellHalves_3 : decode cX3_tellHalves 3 = .ok (.iconst 0, 1) := by decide +kernel
theorem dX3_tellHalves_4 : decode cX3_tellHalves 4 = .ok (.istore 5, 2) := by decide +kernel
theorem dX3_tellHalves_6 : decode cX3_tellHalves 6 = .ok (.iload 5, 2) := by decide +kernel
theorem dX3_tellHalves_8 : decode cX3_tellHalves 8 = .ok (.bipush 12, 2) := by decide +kernel
theorem dX3_tellHalves_10 : decode cX3_tellHalves 10 = .ok (.if_icmp .ge 65, 3) := by decide +kernel
theorem dX3_tellHalves_13 : decode cX3_tellHalves 13 = .ok (.aload_n 0, 1) := by decide +kernel
theorem dX3_tellHalves_14 : decode cX3_tellHalves 14 = .ok (.invokevirtual 63, 3) := by decide +kernel
theorem dX3_tellHalves_17 : decode cX3_tellHalves 17 = .ok (.bipush 97, 2) := by decide +kernel
theorem dX3_tellHalves_19 : decode cX3_tellHalves 19 = .ok (.isub, 1) := by decide +kernel
theorem dX3_tellHalves_20 : decode cX3_tellHalves 20 = .ok (.istore 6, 2) := by decide +kernel
theorem dX3_tellHalves_22 : decode cX3_tellHalves 22 = .ok (.iload 6, 2) := by decide +kernel
theorem dX3_tellHalves_24 : decode cX3_tellHalves 24 = .ok (.iload 4, 2) := by decide +kernel
theorem dX3_tellHalves_26 : decode cX3_tellHalves 26 = .ok (.if_icmp .le 49, 3) := by decide +kernel
theorem dX3_tellHalves_29 : decode cX3_tellHalves 29 = .ok (.iload 6, 2) := by decide +kernel
theorem dX3_tellHalves_31 : decode cX3_tellHalves 31 = .ok (.bipush 12, 2) := by decide +kernel
theorem dX3_tellHalves_33 : decode cX3_tellHalves 33 = .ok (.if_icmp .lt 6, 3) := by decide +kernel
theorem dX3_tellHalves_36 : decode cX3_tellHalves 36 = .ok (.goto 39, 3) := by decide +kernel
theorem dX3_tellHalves_39 : decode cX3_tellHalves 39 = .ok (.aload_n 0, 1) := by decide +kernel
theorem dX3_tellHalves_40 : decode cX3_tellHalves 40 = .ok (.dup, 1) := by decide +kernel
theorem dX3_tellHalves_41 : decode cX3_tellHalves 41 = .ok (.getfield 19, 3) := by decide +kernel
theorem dX3_tellHalves_44 : decode cX3_tellHalves 44 = .ok (.iconst 1, 1) := by decide +kernel
theorem dX3_tellHalves_45 : decode cX3_tellHalves 45 = .ok (.iadd, 1) := by decide +kernel
theorem dX3_tellHalves_46 : decode cX3_tellHalves 46 = .ok (.putfield 19, 3) := by decide +kernel
theorem dX3_tellHalves_49 : decode cX3_tellHalves 49 = .ok (.iload 6, 2) := by decide +kernel
theorem dX3_tellHalves_51 : decode cX3_tellHalves 51 = .ok (.istore 4, 2) := by decide +kernel
theorem dX3_tellHalves_53 : decode cX3_tellHalves 53 = .ok (.aload_n 1, 1) := by decide +kernel
theorem dX3_tellHalves_54 : decode cX3_tellHalves 54 = .ok (.iload_n 2, 1) := by decide +kernel
theorem dX3_tellHalves_55 : decode cX3_tellHalves 55 = .ok (.iload 6, 2) := by decide +kernel
theorem dX3_tellHalves_57 : decode cX3_tellHalves 57 = .ok (.aload_n 1, 1) := by decide +kernel
theorem dX3_tellHalves_58 : decode cX3_tellHalves 58 = .ok (.iload_n 2, 1) := by decide +kernel
theorem dX3_tellHalves_59 : decode cX3_tellHalves 59 = .ok (.iload 6, 2) := by decide +kernel
theorem dX3_tellHalves_61 : decode cX3_tellHalves 61 = .ok (.invokevirtual 86, 3) := by decide +kernel
theorem dX3_tellHalves_64 : decode cX3_tellHalves 64 = .ok (.iload_n 3, 1) := by decide +kernel
theorem dX3_tellHalves_65 : decode cX3_tellHalves 65 = .ok (.iadd, 1) := by decide +kernel
theorem dX3_tellHalves_66 : decode cX3_tellHalves 66 = .ok (.invokevirtual 89, 3) := by decide +kernel
theorem dX3_tellHalves_69 : decode cX3_tellHalves 69 = .ok (.iinc 5 1, 3) := by decide +kernel
theorem dX3_tellHalves_72 : decode cX3_tellHalves 72 = .ok (.goto (-66), 3) := by decide +kernel
theorem dX3_tellHalves_75 : decode cX3_tellHalves 75 = .ok (.iload 4, 2) := by decide +kernel
theorem dX3_tellHalves_77 : decode cX3_tellHalves 77 = .ok (.ifCond .lt 7, 3) := by decide +kernel
theorem dX3_tellHalves_80 : decode cX3_tellHalves 80 = .ok (.iconst 1, 1) := by decide +kernel
theorem dX3_tellHalves_81 : decode cX3_tellHalves 81 = .ok (.goto 4, 3) := by decide +kernel
theorem dX3_tellHalves_84 : decode cX3_tellHalves 84 = .ok (.iconst 0, 1) := by decide +kernel
theorem dX3_tellHalves_85 : decode cX3_tellHalves 85 = .ok (.ireturn, 1) := by decide +kernel
theorem dX3_lovesAreThere_0 : decode cX3_lovesAreThere 0 = .ok (.iconst 0, 1) := by decide +kernel
theorem dX3_lovesAreThere_1 : decode cX3_lovesAreThere 1 = .ok (.istore_n 2, 1) := by decide +kernel
theorem dX3_lovesAreThere_2 : decode cX3_lovesAreThere 2 = .ok (.iload_n 2, 1) := by decide +kernel
theorem dX3_lovesAreThere_3 : decode cX3_lovesAreThere 3 = .ok (.aload_n 1, 1) := by decide +kernel
theorem dX3_lovesAreThere_4 : decode cX3_lovesAreThere 4 = .ok (.getfield 22, 3) := by decide +kernel
theorem dX3_lovesAreThere_7 : decode cX3_lovesAreThere 7 = .ok (.if_icmp .ge 24, 3) := by decide +kernel
theorem dX3_lovesAreThere_10 : decode cX3_lovesAreThere 10 = .ok (.aload_n 1, 1) := by decide +kernel
theorem dX3_lovesAreThere_11 : decode cX3_lovesAreThere 11 = .ok (.getfield 78, 3) := by decide +kernel
theorem dX3_lovesAreThere_14 : decode cX3_lovesAreThere 14 = .ok (.iload_n 2, 1) := by decide +kernel
theorem dX3_lovesAreThere_15 : decode cX3_lovesAreThere 15 = .ok (.iaload, 1) := by decide +kernel
theorem dX3_lovesAreThere_16 : decode cX3_lovesAreThere 16 = .ok (.aload_n 1, 1) := by decide +kernel
theorem dX3_lovesAreThere_17 : decode cX3_lovesAreThere 17 = .ok (.getfield 22, 3) := by decide +kernel
theorem dX3_lovesAreThere_20 : decode cX3_lovesAreThere 20 = .ok (.if_icmp .lt 5, 3) := by decide +kernel
theorem dX3_lovesAreThere_23 : decode cX3_lovesAreThere 23 = .ok (.iconst 0, 1) := by decide +kernel
theorem dX3_lovesAreThere_24 : decode cX3_lovesAreThere 24 = .ok (.ireturn, 1) := by decide +kernel
theorem dX3_lovesAreThere_25 : decode cX3_lovesAreThere 25 = .ok (.iinc 2 1, 3) := by decide +kernel
theorem dX3_lovesAreThere_28 : decode cX3_lovesAreThere 28 = .ok (.goto (-26), 3) := by decide +kernel
theorem dX3_lovesAreThere_31 : decode cX3_lovesAreThere 31 = .ok (.iconst 1, 1) := by decide +kernel
theorem dX3_lovesAreThere_32 : decode cX3_lovesAreThere 32 = .ok (.ireturn, 1) := by decide +kernel
theorem dX3_next_0 : decode cX3_next 0 = .ok (.aload_n 0, 1) := by decide +kernel
theorem dX3_next_1 : decode cX3_next 1 = .ok (.getfield 19, 3) := by decide +kernel
theorem dX3_next_4 : decode cX3_next 4 = .ok (.aload_n 0, 1) := by decide +kernel
theorem dX3_next_5 : decode cX3_next 5 = .ok (.getfield 15, 3) := by decide +kernel
theorem dX3_next_8 : decode cX3_next 8 = .ok (.if_icmp .ge 30, 3) := by decide +kernel
theorem dX3_next_11 : decode cX3_next 11 = .ok (.aload_n 0, 1) := by decide +kernel
theorem dX3_next_12 : decode cX3_next 12 = .ok (.getfield 9, 3) := by decide +kernel
theorem dX3_next_15 : decode cX3_next 15 = .ok (.aload_n 0, 1) := by decide +kernel
theorem dX3_next_16 : decode cX3_next 16 = .ok (.getfield 19, 3) := by decide +kernel
theorem dX3_next_19 : decode cX3_next 19 = .ok (.caload, 1) := by decide +kernel
theorem dX3_next_20 : decode cX3_next 20 = .ok (.bipush 32, 2) := by decide +kernel
theorem dX3_next_22 : decode cX3_next 22 = .ok (.if_icmp .ne 16, 3) := by decide +kernel
theorem dX3_next_25 : decode cX3_next 25 = .ok (.aload_n 0, 1) := by decide +kernel
theorem dX3_next_26 : decode cX3_next 26 = .ok (.dup, 1) := by decide +kernel
theorem dX3_next_27 : decode cX3_next 27 = .ok (.getfield 19, 3) := by decide +kernel
theorem dX3_next_30 : decode cX3_next 30 = .ok (.iconst 1, 1) := by decide +kernel
theorem dX3_next_31 : decode cX3_next 31 = .ok (.iadd, 1) := by decide +kernel
theorem dX3_next_32 : decode cX3_next 32 = .ok (.putfield 19, 3) := by decide +kernel
theorem dX3_next_35 : decode cX3_next 35 = .ok (.goto (-35), 3) := by decide +kernel
theorem dX3_next_38 : decode cX3_next 38 = .ok (.aload_n 0, 1) := by decide +kernel
theorem dX3_next_39 : decode cX3_next 39 = .ok (.getfield 19, 3) := by decide +kernel
theorem dX3_next_42 : decode cX3_next 42 = .ok (.aload_n 0, 1) := by decide +kernel
theorem dX3_next_43 : decode cX3_next 43 = .ok (.getfield 15, 3) := by decide +kernel
theorem dX3_next_46 : decode cX3_next 46 = .ok (.if_icmp .ge 15, 3) := by decide +kernel
theorem dX3_next_49 : decode cX3_next 49 = .ok (.aload_n 0, 1) := by decide +kernel
theorem dX3_next_50 : decode cX3_next 50 = .ok (.getfield 9, 3) := by decide +kernel
theorem dX3_next_53 : decode cX3_next 53 = .ok (.aload_n 0, 1) := by decide +kernel
theorem dX3_next_54 : decode cX3_next 54 = .ok (.getfield 19, 3) := by decide +kernel
theorem dX3_next_57 : decode cX3_next 57 = .ok (.caload, 1) := by decide +kernel
theorem dX3_next_58 : decode cX3_next 58 = .ok (.goto 4, 3) := by decide +kernel
theorem dX3_next_61 : decode cX3_next 61 = .ok (.iconst (-1), 1) := by decide +kernel
theorem dX3_next_62 : decode cX3_next 62 = .ok (.ireturn, 1) := by decide +kernel
theorem dX3_takes_0 : decode cX3_takes 0 = .ok (.aload_n 0, 1) := by decide +kernel
theorem dX3_takes_1 : decode cX3_takes 1 = .ok (.invokevirtual 63, 3) := by decide +kernel
theorem dX3_takes_4 : decode cX3_takes 4 = .ok (.iload_n 1, 1) := by decide +kernel
theorem dX3_takes_5 : decode cX3_takes 5 = .ok (.if_icmp .eq 5, 3) := by decide +kernel
theorem dX3_takes_8 : decode cX3_takes 8 = .ok (.iconst 0, 1) := by decide +kernel
theorem dX3_takes_9 : decode cX3_takes 9 = .ok (.ireturn, 1) := by decide +kernel
theorem dX3_takes_10 : decode cX3_takes 10 = .ok (.aload_n 0, 1) := by decide +kernel
theorem dX3_takes_11 : decode cX3_takes 11 = .ok (.dup, 1) := by decide +kernel
theorem dX3_takes_12 : decode cX3_takes 12 = .ok (.getfield 19, 3) := by decide +kernel
theorem dX3_takes_15 : decode cX3_takes 15 = .ok (.iconst 1, 1) := by decide +kernel
theorem dX3_takes_16 : decode cX3_takes 16 = .ok (.iadd, 1) := by decide +kernel
theorem dX3_takes_17 : decode cX3_takes 17 = .ok (.putfield 19, 3) := by decide +kernel
theorem dX3_takes_20 : decode cX3_takes 20 = .ok (.iconst 1, 1) := by decide +kernel
theorem dX3_takes_21 : decode cX3_takes 21 = .ok (.ireturn, 1) := by decide +kernel
theorem dX3_takeOneOf_0 : decode cX3_takeOneOf 0 = .ok (.aload_n 0, 1) := by decide +kernel
theorem dX3_takeOneOf_1 : decode cX3_takeOneOf 1 = .ok (.invokevirtual 63, 3) := by decide +kernel
theorem dX3_takeOneOf_4 : decode cX3_takeOneOf 4 = .ok (.istore_n 2, 1) := by decide +kernel
theorem dX3_takeOneOf_5 : decode cX3_takeOneOf 5 = .ok (.iload_n 2, 1) := by decide +kernel
theorem dX3_takeOneOf_6 : decode cX3_takeOneOf 6 = .ok (.iconst (-1), 1) := by decide +kernel
theorem dX3_takeOneOf_7 : decode cX3_takeOneOf 7 = .ok (.if_icmp .ne 7, 3) := by decide +kernel
theorem dX3_takeOneOf_10 : decode cX3_takeOneOf 10 = .ok (.iconst (-1), 1) := by decide +kernel
theorem dX3_takeOneOf_11 : decode cX3_takeOneOf 11 = .ok (.goto 9, 3) := by decide +kernel
theorem dX3_takeOneOf_14 : decode cX3_takeOneOf 14 = .ok (.aload_n 1, 1) := by decide +kernel
theorem dX3_takeOneOf_15 : decode cX3_takeOneOf 15 = .ok (.iload_n 2, 1) := by decide +kernel
theorem dX3_takeOneOf_16 : decode cX3_takeOneOf 16 = .ok (.i2c, 1) := by decide +kernel
theorem dX3_takeOneOf_17 : decode cX3_takeOneOf 17 = .ok (.invokevirtual 93, 3) := by decide +kernel
theorem dX3_takeOneOf_20 : decode cX3_takeOneOf 20 = .ok (.istore_n 3, 1) := by decide +kernel
theorem dX3_takeOneOf_21 : decode cX3_takeOneOf 21 = .ok (.iload_n 3, 1) := by decide +kernel
theorem dX3_takeOneOf_22 : decode cX3_takeOneOf 22 = .ok (.ifCond .lt 13, 3) := by decide +kernel
theorem dX3_takeOneOf_25 : decode cX3_takeOneOf 25 = .ok (.aload_n 0, 1) := by decide +kernel
theorem dX3_takeOneOf_26 : decode cX3_takeOneOf 26 = .ok (.dup, 1) := by decide +kernel
theorem dX3_takeOneOf_27 : decode cX3_takeOneOf 27 = .ok (.getfield 19, 3) := by decide +kernel
theorem dX3_takeOneOf_30 : decode cX3_takeOneOf 30 = .ok (.iconst 1, 1) := by decide +kernel
theorem dX3_takeOneOf_31 : decode cX3_takeOneOf 31 = .ok (.iadd, 1) := by decide +kernel
theorem dX3_takeOneOf_32 : decode cX3_takeOneOf 32 = .ok (.putfield 19, 3) := by decide +kernel
theorem dX3_takeOneOf_35 : decode cX3_takeOneOf 35 = .ok (.iload_n 3, 1) := by decide +kernel
theorem dX3_takeOneOf_36 : decode cX3_takeOneOf 36 = .ok (.ireturn, 1) := by decide +kernel
theorem dX3_takeNumber_0 : decode cX3_takeNumber 0 = .ok (.aload_n 0, 1) := by decide +kernel
theorem dX3_takeNumber_1 : decode cX3_takeNumber 1 = .ok (.ldc 99, 2) := by decide +kernel
theorem dX3_takeNumber_3 : decode cX3_takeNumber 3 = .ok (.invokevirtual 56, 3) := by decide +kernel
theorem dX3_takeNumber_6 : decode cX3_takeNumber 6 = .ok (.istore_n 1, 1) := by decide +kernel
theorem dX3_takeNumber_7 : decode cX3_takeNumber 7 = .ok (.iload_n 1, 1) := by decide +kernel
theorem dX3_takeNumber_8 : decode cX3_takeNumber 8 = .ok (.ifCond .lt 70, 3) := by decide +kernel
theorem dX3_takeNumber_11 : decode cX3_takeNumber 11 = .ok (.aload_n 0, 1) := by decide +kernel
theorem dX3_takeNumber_12 : decode cX3_takeNumber 12 = .ok (.getfield 19, 3) := by decide +kernel
theorem dX3_takeNumber_15 : decode cX3_takeNumber 15 = .ok (.aload_n 0, 1) := by decide +kernel
theorem dX3_takeNumber_16 : decode cX3_takeNumber 16 = .ok (.getfield 15, 3) := by decide +kernel
theorem dX3_takeNumber_19 : decode cX3_takeNumber 19 = .ok (.if_icmp .ge 59, 3) := by decide +kernel
theorem dX3_takeNumber_22 : decode cX3_takeNumber 22 = .ok (.aload_n 0, 1) := by decide +kernel
theorem dX3_takeNumber_23 : decode cX3_takeNumber 23 = .ok (.getfield 9, 3) := by decide +kernel
theorem dX3_takeNumber_26 : decode cX3_takeNumber 26 = .ok (.aload_n 0, 1) := by decide +kernel
theorem dX3_takeNumber_27 : decode cX3_takeNumber 27 = .ok (.getfield 19, 3) := by decide +kernel
theorem dX3_takeNumber_30 : decode cX3_takeNumber 30 = .ok (.caload, 1) := by decide +kernel
theorem dX3_takeNumber_31 : decode cX3_takeNumber 31 = .ok (.bipush 48, 2) := by decide +kernel
theorem dX3_takeNumber_33 : decode cX3_takeNumber 33 = .ok (.if_icmp .lt 45, 3) := by decide +kernel
theorem dX3_takeNumber_36 : decode cX3_takeNumber 36 = .ok (.aload_n 0, 1) := by decide +kernel
theorem dX3_takeNumber_37 : decode cX3_takeNumber 37 = .ok (.getfield 9, 3) := by decide +kernel
theorem dX3_takeNumber_40 : decode cX3_takeNumber 40 = .ok (.aload_n 0, 1) := by decide +kernel
theorem dX3_takeNumber_41 : decode cX3_takeNumber 41 = .ok (.getfield 19, 3) := by decide +kernel
theorem dX3_takeNumber_44 : decode cX3_takeNumber 44 = .ok (.caload, 1) := by decide +kernel
theorem dX3_takeNumber_45 : decode cX3_takeNumber 45 = .ok (.bipush 57, 2) := by decide +kernel
theorem dX3_takeNumber_47 : decode cX3_takeNumber 47 = .ok (.if_icmp .gt 31, 3) := by decide +kernel
theorem dX3_takeNumber_50 : decode cX3_takeNumber 50 = .ok (.bipush 10, 2) := by decide +kernel
theorem dX3_takeNumber_52 : decode cX3_takeNumber 52 = .ok (.iload_n 1, 1) := by decide +kernel
theorem dX3_takeNumber_53 : decode cX3_takeNumber 53 = .ok (.imul, 1) := by decide +kernel
theorem dX3_takeNumber_54 : decode cX3_takeNumber 54 = .ok (.aload_n 0, 1) := by decide +kernel
theorem dX3_takeNumber_55 : decode cX3_takeNumber 55 = .ok (.getfield 9, 3) := by decide +kernel
theorem dX3_takeNumber_58 : decode cX3_takeNumber 58 = .ok (.aload_n 0, 1) := by decide +kernel
theorem dX3_takeNumber_59 : decode cX3_takeNumber 59 = .ok (.getfield 19, 3) := by decide +kernel
theorem dX3_takeNumber_62 : decode cX3_takeNumber 62 = .ok (.caload, 1) := by decide +kernel
theorem dX3_takeNumber_63 : decode cX3_takeNumber 63 = .ok (.iadd, 1) := by decide +kernel
theorem dX3_takeNumber_64 : decode cX3_takeNumber 64 = .ok (.bipush 48, 2) := by decide +kernel
theorem dX3_takeNumber_66 : decode cX3_takeNumber 66 = .ok (.isub, 1) := by decide +kernel
theorem dX3_takeNumber_67 : decode cX3_takeNumber 67 = .ok (.istore_n 1, 1) := by decide +kernel
theorem dX3_takeNumber_68 : decode cX3_takeNumber 68 = .ok (.aload_n 0, 1) := by decide +kernel
theorem dX3_takeNumber_69 : decode cX3_takeNumber 69 = .ok (.dup, 1) := by decide +kernel
theorem dX3_takeNumber_70 : decode cX3_takeNumber 70 = .ok (.getfield 19, 3) := by decide +kernel
theorem dX3_takeNumber_73 : decode cX3_takeNumber 73 = .ok (.iconst 1, 1) := by decide +kernel
theorem dX3_takeNumber_74 : decode cX3_takeNumber 74 = .ok (.iadd, 1) := by decide +kernel
theorem dX3_takeNumber_75 : decode cX3_takeNumber 75 = .ok (.putfield 19, 3) := by decide +kernel
theorem dX3_takeNumber_78 : decode cX3_takeNumber 78 = .ok (.iload_n 1, 1) := by decide +kernel
theorem dX3_takeNumber_79 : decode cX3_takeNumber 79 = .ok (.ireturn, 1) := by decide +kernel
theorem dX4_init_0 : decode cX4_init 0 = .ok (.aload_n 0, 1) := by decide +kernel
theorem dX4_init_1 : decode cX4_init 1 = .ok (.invokespecial 3, 3) := by decide +kernel
theorem dX4_init_4 : decode cX4_init 4 = .ok (.aload_n 0, 1) := by decide +kernel
theorem dX4_init_5 : decode cX4_init 5 = .ok (.iconst 0, 1) := by decide +kernel
theorem dX4_init_6 : decode cX4_init 6 = .ok (.putfield 9, 3) := by decide +kernel
theorem dX4_init_9 : decode cX4_init 9 = .ok (.aload_n 0, 1) := by decide +kernel
theorem dX4_init_10 : decode cX4_init 10 = .ok (.iconst 2, 1) := by decide +kernel
theorem dX4_init_11 : decode cX4_init 11 = .ok (.putfield 15, 3) := by decide +kernel
theorem dX4_init_14 : decode cX4_init 14 = .ok (.aload_n 0, 1) := by decide +kernel
theorem dX4_init_15 : decode cX4_init 15 = .ok (.bipush 6, 2) := by decide +kernel
theorem dX4_init_17 : decode cX4_init 17 = .ok (.newarray .int, 2) := by decide +kernel
theorem dX4_init_19 : decode cX4_init 19 = .ok (.putfield 18, 3) := by decide +kernel
theorem dX4_init_22 : decode cX4_init 22 = .ok (.aload_n 0, 1) := by decide +kernel
theorem dX4_init_23 : decode cX4_init 23 = .ok (.bipush 6, 2) := by decide +kernel
theorem dX4_init_25 : decode cX4_init 25 = .ok (.newarray .int, 2) := by decide +kernel
theorem dX4_init_27 : decode cX4_init 27 = .ok (.putfield 22, 3) := by decide +kernel
theorem dX4_init_30 : decode cX4_init 30 = .ok (.aload_n 0, 1) := by decide +kernel
theorem dX4_init_31 : decode cX4_init 31 = .ok (.new 25, 3) := by decide +kernel
theorem dX4_init_34 : decode cX4_init 34 = .ok (.dup, 1) := by decide +kernel
theorem dX4_init_35 : decode cX4_init 35 = .ok (.invokespecial 27, 3) := by decide +kernel
theorem dX4_init_38 : decode cX4_init 38 = .ok (.putfield 28, 3) := by decide +kernel
theorem dX4_init_41 : decode cX4_init 41 = .ok (.return_, 1) := by decide +kernel
theorem dX4_copyTown_0 : decode cX4_copyTown 0 = .ok (.aload_n 0, 1) := by decide +kernel
theorem dX4_copyTown_1 : decode cX4_copyTown 1 = .ok (.aload_n 1, 1) := by decide +kernel
theorem dX4_copyTown_2 : decode cX4_copyTown 2 = .ok (.getfield 9, 3) := by decide +kernel
theorem dX4_copyTown_5 : decode cX4_copyTown 5 = .ok (.putfield 9, 3) := by decide +kernel
theorem dX4_copyTown_8 : decode cX4_copyTown 8 = .ok (.aload_n 0, 1) := by decide +kernel
theorem dX4_copyTown_9 : decode cX4_copyTown 9 = .ok (.aload_n 1, 1) := by decide +kernel
theorem dX4_copyTown_10 : decode cX4_copyTown 10 = .ok (.getfield 15, 3) := by decide +kernel
theorem dX4_copyTown_13 : decode cX4_copyTown 13 = .ok (.putfield 15, 3) := by decide +kernel
theorem dX4_copyTown_16 : decode cX4_copyTown 16 = .ok (.aload_n 1, 1) := by decide +kernel
theorem dX4_copyTown_17 : decode cX4_copyTown 17 = .ok (.getfield 18, 3) := by decide +kernel
theorem dX4_copyTown_20 : decode cX4_copyTown 20 = .ok (.iconst 0, 1) := by decide +kernel
theorem dX4_copyTown_21 : decode cX4_copyTown 21 = .ok (.aload_n 0, 1) := by decide +kernel
theorem dX4_copyTown_22 : decode cX4_copyTown 22 = .ok (.getfield 18, 3) := by decide +kernel
theorem dX4_copyTown_25 : decode cX4_copyTown 25 = .ok (.iconst 0, 1) := by decide +kernel
theorem dX4_copyTown_26 : decode cX4_copyTown 26 = .ok (.bipush 6, 2) := by decide +kernel
theorem dX4_copyTown_28 : decode cX4_copyTown 28 = .ok (.invokestatic 32, 3) := by decide +kernel
theorem dX4_copyTown_31 : decode cX4_copyTown 31 = .ok (.aload_n 1, 1) := by decide +kernel
theorem dX4_copyTown_32 : decode cX4_copyTown 32 = .ok (.getfield 22, 3) := by decide +kernel
theorem dX4_copyTown_35 : decode cX4_copyTown 35 = .ok (.iconst 0, 1) := by decide +kernel
theorem dX4_copyTown_36 : decode cX4_copyTown 36 = .ok (.aload_n 0, 1) := by decide +kernel
theorem dX4_copyTown_37 : decode cX4_copyTown 37 = .ok (.getfield 22, 3) := by decide +kernel
theorem dX4_copyTown_40 : decode cX4_copyTown 40 = .ok (.iconst 0, 1) := by decide +kernel
theorem dX4_copyTown_41 : decode cX4_copyTown 41 = .ok (.bipush 6, 2) := by decide +kernel
theorem dX4_copyTown_43 : decode cX4_copyTown 43 = .ok (.invokestatic 32, 3) := by decide +kernel
theorem dX4_copyTown_46 : decode cX4_copyTown 46 = .ok (.aload_n 0, 1) := by decide +kernel
theorem dX4_copyTown_47 : decode cX4_copyTown 47 = .ok (.getfield 28, 3) := by decide +kernel
theorem dX4_copyTown_50 : decode cX4_copyTown 50 = .ok (.aload_n 1, 1) := by decide +kernel
theorem dX4_copyTown_51 : decode cX4_copyTown 51 = .ok (.getfield 28, 3) := by decide +kernel
theorem dX4_copyTown_54 : decode cX4_copyTown 54 = .ok (.invokevirtual 38, 3) := by decide +kernel
theorem dX4_copyTown_57 : decode cX4_copyTown 57 = .ok (.return_, 1) := by decide +kernel
theorem dX4_isOne_0 : decode cX4_isOne 0 = .ok (.iload_n 1, 1) := by decide +kernel
theorem dX4_isOne_1 : decode cX4_isOne 1 = .ok (.ifCond .lt 15, 3) := by decide +kernel
theorem dX4_isOne_4 : decode cX4_isOne 4 = .ok (.iload_n 1, 1) := by decide +kernel
theorem dX4_isOne_5 : decode cX4_isOne 5 = .ok (.aload_n 0, 1) := by decide +kernel
theorem dX4_isOne_6 : decode cX4_isOne 6 = .ok (.getfield 9, 3) := by decide +kernel
theorem dX4_isOne_9 : decode cX4_isOne 9 = .ok (.if_icmp .ge 7, 3) := by decide +kernel
theorem dX4_isOne_12 : decode cX4_isOne 12 = .ok (.iconst 1, 1) := by decide +kernel
theorem dX4_isOne_13 : decode cX4_isOne 13 = .ok (.goto 4, 3) := by decide +kernel
theorem dX4_isOne_16 : decode cX4_isOne 16 = .ok (.iconst 0, 1) := by decide +kernel
theorem dX4_isOne_17 : decode cX4_isOne 17 = .ok (.ireturn, 1) := by decide +kernel
theorem dX4_areTwo_0 : decode cX4_areTwo 0 = .ok (.aload_n 0, 1) := by decide +kernel
theorem dX4_areTwo_1 : decode cX4_areTwo 1 = .ok (.iload_n 1, 1) := by decide +kernel
theorem dX4_areTwo_2 : decode cX4_areTwo 2 = .ok (.invokevirtual 42, 3) := by decide +kernel
theorem dX4_areTwo_5 : decode cX4_areTwo 5 = .ok (.ifCond .eq 20, 3) := by decide +kernel
theorem dX4_areTwo_8 : decode cX4_areTwo 8 = .ok (.aload_n 0, 1) := by decide +kernel
theorem dX4_areTwo_9 : decode cX4_areTwo 9 = .ok (.iload_n 2, 1) := by decide +kernel
theorem dX4_areTwo_10 : decode cX4_areTwo 10 = .ok (.invokevirtual 42, 3) := by decide +kernel
theorem dX4_areTwo_13 : decode cX4_areTwo 13 = .ok (.ifCond .eq 12, 3) := by decide +kernel
theorem dX4_areTwo_16 : decode cX4_areTwo 16 = .ok (.iload_n 1, 1) := by decide +kernel
theorem dX4_areTwo_17 : decode cX4_areTwo 17 = .ok (.iload_n 2, 1) := by decide +kernel
theorem dX4_areTwo_18 : decode cX4_areTwo 18 = .ok (.if_icmp .eq 7, 3) := by decide +kernel
theorem dX4_areTwo_21 : decode cX4_areTwo 21 = .ok (.iconst 1, 1) := by decide +kernel
theorem dX4_areTwo_22 : decode cX4_areTwo 22 = .ok (.goto 4, 3) := by decide +kernel
theorem dX4_areTwo_25 : decode cX4_areTwo 25 = .ok (.iconst 0, 1) := by decide +kernel
theorem dX4_areTwo_26 : decode cX4_areTwo 26 = .ok (.ireturn, 1) := by decide +kernel
theorem dX4_settle_0 : decode cX4_settle 0 = .ok (.aload_n 0, 1) := by decide +kernel
theorem dX4_settle_1 : decode cX4_settle 1 = .ok (.getfield 9, 3) := by decide +kernel
theorem dX4_settle_4 : decode cX4_settle 4 = .ok (.bipush 6, 2) := by decide +kernel
theorem dX4_settle_6 : decode cX4_settle 6 = .ok (.if_icmp .lt 6, 3) := by decide +kernel
theorem dX4_settle_9 : decode cX4_settle 9 = .ok (.bipush (-3), 2) := by decide +kernel
theorem dX4_settle_11 : decode cX4_settle 11 = .ok (.ireturn, 1) := by decide +kernel
theorem dX4_settle_12 : decode cX4_settle 12 = .ok (.aload_n 0, 1) := by decide +kernel
theorem dX4_settle_13 : decode cX4_settle 13 = .ok (.getfield 9, 3) := by decide +kernel
theorem dX4_settle_16 : decode cX4_settle 16 = .ok (.istore_n 3, 1) := by decide +kernel
theorem dX4_settle_17 : decode cX4_settle 17 = .ok (.aload_n 0, 1) := by decide +kernel
theorem dX4_settle_18 : decode cX4_settle 18 = .ok (.dup, 1) := by decide +kernel
theorem dX4_settle_19 : decode cX4_settle 19 = .ok (.getfield 9, 3) := by decide +kernel
theorem dX4_settle_22 : decode cX4_settle 22 = .ok (.iconst 1, 1) := by decide +kernel
theorem dX4_settle_23 : decode cX4_settle 23 = .ok (.iadd, 1) := by decide +kernel
theorem dX4_settle_24 : decode cX4_settle 24 = .ok (.putfield 9, 3) := by decide +kernel
theorem dX4_settle_27 : decode cX4_settle 27 = .ok (.aload_n 0, 1) := by decide +kernel
theorem dX4_settle_28 : decode cX4_settle 28 = .ok (.getfield 18, 3) := by decide +kernel
theorem dX4_settle_31 : decode cX4_settle 31 = .ok (.iload_n 3, 1) := by decide +kernel
theorem dX4_settle_32 : decode cX4_settle 32 = .ok (.iload_n 1, 1) := by decide +kernel
theorem dX4_settle_33 : decode cX4_settle 33 = .ok (.iastore, 1) := by decide +kernel
theorem dX4_settle_34 : decode cX4_settle 34 = .ok (.aload_n 0, 1) := by decide +kernel
theorem dX4_settle_35 : decode cX4_settle 35 = .ok (.getfield 22, 3) := by decide +kernel
theorem dX4_settle_38 : decode cX4_settle 38 = .ok (.iload_n 3, 1) := by decide +kernel
theorem dX4_settle_39 : decode cX4_settle 39 = .ok (.iload_n 3, 1) := by decide +kernel
theorem dX4_settle_40 : decode cX4_settle 40 = .ok (.iastore, 1) := by decide +kernel
theorem dX4_settle_41 : decode cX4_settle 41 = .ok (.aload_n 0, 1) := by decide +kernel
theorem dX4_settle_42 : decode cX4_settle 42 = .ok (.getfield 28, 3) := by decide +kernel
theorem dX4_settle_45 : decode cX4_settle 45 = .ok (.getfield 46, 3) := by decide +kernel
theorem dX4_settle_48 : decode cX4_settle 48 = .ok (.iload_n 3, 1) := by decide +kernel
theorem dX4_settle_49 : decode cX4_settle 49 = .ok (.iload_n 2, 1) := by decide +kernel
theorem dX4_settle_50 : decode cX4_settle 50 = .ok (.iastore, 1) := by decide +kernel
theorem dX4_settle_51 : decode cX4_settle 51 = .ok (.iconst 0, 1) := by decide +kernel
theorem dX4_settle_52 : decode cX4_settle 52 = .ok (.istore 4, 2) := by decide +kernel
theorem dX4_settle_54 : decode cX4_settle 54 = .ok (.iload 4, 2) := by decide +kernel
theorem dX4_settle_56 : decode cX4_settle 56 = .ok (.bipush 12, 2) := by decide +kernel
theorem dX4_settle_58 : decode cX4_settle 58 = .ok (.if_icmp .ge 20, 3) := by decide +kernel
theorem dX4_settle_61 : decode cX4_settle 61 = .ok (.aload_n 0, 1) := by decide +kernel
theorem dX4_settle_62 : decode cX4_settle 62 = .ok (.getfield 28, 3) := by decide +kernel
theorem dX4_settle_65 : decode cX4_settle 65 = .ok (.iload_n 3, 1) := by decide +kernel
theorem dX4_settle_66 : decode cX4_settle 66 = .ok (.iload 4, 2) := by decide +kernel
theorem dX4_settle_68 : decode cX4_settle 68 = .ok (.iconst 1, 1) := by decide +kernel
theorem dX4_settle_69 : decode cX4_settle 69 = .ok (.invokevirtual 49, 3) := by decide +kernel
theorem dX4_settle_72 : decode cX4_settle 72 = .ok (.iinc 4 1, 3) := by decide +kernel
theorem dX4_settle_75 : decode cX4_settle 75 = .ok (.goto (-21), 3) := by decide +kernel
theorem dX4_settle_78 : decode cX4_settle 78 = .ok (.iload_n 3, 1) := by decide +kernel
theorem dX4_settle_79 : decode cX4_settle 79 = .ok (.ireturn, 1) := by decide +kernel
theorem dX4_lovedSet_0 : decode cX4_lovedSet 0 = .ok (.iload_n 2, 1) := by decide +kernel
theorem dX4_lovedSet_1 : decode cX4_lovedSet 1 = .ok (.iload_n 1, 1) := by decide +kernel
theorem dX4_lovedSet_2 : decode cX4_lovedSet 2 = .ok (.if_icmp .ne 7, 3) := by decide +kernel
theorem dX4_lovedSet_5 : decode cX4_lovedSet 5 = .ok (.iconst 0, 1) := by decide +kernel
theorem dX4_lovedSet_6 : decode cX4_lovedSet 6 = .ok (.goto 12, 3) := by decide +kernel
theorem dX4_lovedSet_9 : decode cX4_lovedSet 9 = .ok (.aload_n 0, 1) := by decide +kernel
theorem dX4_lovedSet_10 : decode cX4_lovedSet 10 = .ok (.getfield 28, 3) := by decide +kernel
theorem dX4_lovedSet_13 : decode cX4_lovedSet 13 = .ok (.getfield 53, 3) := by decide +kernel
theorem dX4_lovedSet_16 : decode cX4_lovedSet 16 = .ok (.iload_n 2, 1) := by decide +kernel
theorem dX4_lovedSet_17 : decode cX4_lovedSet 17 = .ok (.iaload, 1) := by decide +kernel
theorem dX4_lovedSet_18 : decode cX4_lovedSet 18 = .ok (.ireturn, 1) := by decide +kernel
theorem dX4_worthOfHalf_0 : decode cX4_worthOfHalf 0 = .ok (.aload_n 0, 1) := by decide +kernel
theorem dX4_worthOfHalf_1 : decode cX4_worthOfHalf 1 = .ok (.iload_n 1, 1) := by decide +kernel
theorem dX4_worthOfHalf_2 : decode cX4_worthOfHalf 2 = .ok (.aload_n 0, 1) := by decide +kernel
theorem dX4_worthOfHalf_3 : decode cX4_worthOfHalf 3 = .ok (.getfield 22, 3) := by decide +kernel
theorem dX4_worthOfHalf_6 : decode cX4_worthOfHalf 6 = .ok (.iload_n 1, 1) := by decide +kernel
theorem dX4_worthOfHalf_7 : decode cX4_worthOfHalf 7 = .ok (.iaload, 1) := by decide +kernel
theorem dX4_worthOfHalf_8 : decode cX4_worthOfHalf 8 = .ok (.invokevirtual 56, 3) := by decide +kernel
theorem dX4_worthOfHalf_11 : decode cX4_worthOfHalf 11 = .ok (.istore_n 3, 1) := by decide +kernel
theorem dX4_worthOfHalf_12 : decode cX4_worthOfHalf 12 = .ok (.aload_n 0, 1) := by decide +kernel
theorem dX4_worthOfHalf_13 : decode cX4_worthOfHalf 13 = .ok (.getfield 18, 3) := by decide +kernel
theorem dX4_worthOfHalf_16 : decode cX4_worthOfHalf 16 = .ok (.iload_n 1, 1) := by decide +kernel
theorem dX4_worthOfHalf_17 : decode cX4_worthOfHalf 17 = .ok (.iaload, 1) := by decide +kernel
theorem dX4_worthOfHalf_18 : decode cX4_worthOfHalf 18 = .ok (.iload_n 2, 1) := by decide +kernel
theorem dX4_worthOfHalf_19 : decode cX4_worthOfHalf 19 = .ok (.aload_n 0, 1) := by decide +kernel
theorem dX4_worthOfHalf_20 : decode cX4_worthOfHalf 20 = .ok (.getfield 28, 3) := by decide +kernel
theorem dX4_worthOfHalf_23 : decode cX4_worthOfHalf 23 = .ok (.getfield 53, 3) := by decide +kernel
theorem dX4_worthOfHalf_26 : decode cX4_worthOfHalf 26 = .ok (.iload_n 1, 1) := by decide +kernel
theorem dX4_worthOfHalf_27 : decode cX4_worthOfHalf 27 = .ok (.iaload, 1) := by decide +kernel
theorem dX4_worthOfHalf_28 : decode cX4_worthOfHalf 28 = .ok (.iload_n 3, 1) := by decide +kernel
theorem dX4_worthOfHalf_29 : decode cX4_worthOfHalf 29 = .ok (.aload_n 0, 1) := by decide +kernel
theorem dX4_worthOfHalf_30 : decode cX4_worthOfHalf 30 = .ok (.getfield 28, 3) := by decide +kernel
theorem dX4_worthOfHalf_33 : decode cX4_worthOfHalf 33 = .ok (.getfield 60, 3) := by decide +kernel
theorem dX4_worthOfHalf_36 : decode cX4_worthOfHalf 36 = .ok (.aload_n 0, 1) := by decide +kernel
theorem dX4_worthOfHalf_37 : decode cX4_worthOfHalf 37 = .ok (.getfield 28, 3) := by decide +kernel
theorem dX4_worthOfHalf_40 : decode cX4_worthOfHalf 40 = .ok (.getfield 63, 3) := by decide +kernel
theorem dX4_worthOfHalf_43 : decode cX4_worthOfHalf 43 = .ok (.invokestatic 66, 3) := by decide +kernel
theorem dX4_worthOfHalf_46 : decode cX4_worthOfHalf 46 = .ok (.ireturn, 1) := by decide +kernel
theorem dX4_worthOf_0 : decode cX4_worthOf 0 = .ok (.aload_n 0, 1) := by decide +kernel
theorem dX4_worthOf_1 : decode cX4_worthOf 1 = .ok (.iload_n 1, 1) := by decide +kernel
theorem dX4_worthOf_2 : decode cX4_worthOf 2 = .ok (.aload_n 0, 1) := by decide +kernel
theorem dX4_worthOf_3 : decode cX4_worthOf 3 = .ok (.getfield 28, 3) := by decide +kernel
theorem dX4_worthOf_6 : decode cX4_worthOf 6 = .ok (.getfield 53, 3) := by decide +kernel
theorem dX4_worthOf_9 : decode cX4_worthOf 9 = .ok (.iload_n 1, 1) := by decide +kernel
theorem dX4_worthOf_10 : decode cX4_worthOf 10 = .ok (.iaload, 1) := by decide +kernel
theorem dX4_worthOf_11 : decode cX4_worthOf 11 = .ok (.aload_n 0, 1) := by decide +kernel
theorem dX4_worthOf_12 : decode cX4_worthOf 12 = .ok (.getfield 28, 3) := by decide +kernel
theorem dX4_worthOf_15 : decode cX4_worthOf 15 = .ok (.getfield 60, 3) := by decide +kernel
theorem dX4_worthOf_18 : decode cX4_worthOf 18 = .ok (.invokevirtual 70, 3) := by decide +kernel
theorem dX4_worthOf_21 : decode cX4_worthOf 21 = .ok (.ireturn, 1) := by decide +kernel
theorem dX4_worthOfSet_0 : decode cX4_worthOfSet 0 = .ok (.aload_n 0, 1) := by decide +kernel
theorem dX4_worthOfSet_1 : decode cX4_worthOfSet 1 = .ok (.iload_n 1, 1) := by decide +kernel
theorem dX4_worthOfSet_2 : decode cX4_worthOfSet 2 = .ok (.iload_n 2, 1) := by decide +kernel
theorem dX4_worthOfSet_3 : decode cX4_worthOfSet 3 = .ok (.aload_n 0, 1) := by decide +kernel
theorem dX4_worthOfSet_4 : decode cX4_worthOfSet 4 = .ok (.getfield 28, 3) := by decide +kernel
theorem dX4_worthOfSet_7 : decode cX4_worthOfSet 7 = .ok (.getfield 60, 3) := by decide +kernel
theorem dX4_worthOfSet_10 : decode cX4_worthOfSet 10 = .ok (.invokevirtual 70, 3) := by decide +kernel
theorem dX4_worthOfSet_13 : decode cX4_worthOfSet 13 = .ok (.ireturn, 1) := by decide +kernel
theorem dX4_worthInRain_0 : decode cX4_worthInRain 0 = .ok (.aload_n 0, 1) := by decide +kernel
theorem dX4_worthInRain_1 : decode cX4_worthInRain 1 = .ok (.iload_n 1, 1) := by decide +kernel
theorem dX4_worthInRain_2 : decode cX4_worthInRain 2 = .ok (.aload_n 0, 1) := by decide +kernel
theorem dX4_worthInRain_3 : decode cX4_worthInRain 3 = .ok (.getfield 22, 3) := by decide +kernel
theorem dX4_worthInRain_6 : decode cX4_worthInRain 6 = .ok (.iload_n 1, 1) := by decide +kernel
theorem dX4_worthInRain_7 : decode cX4_worthInRain 7 = .ok (.iaload, 1) := by decide +kernel
theorem dX4_worthInRain_8 : decode cX4_worthInRain 8 = .ok (.invokevirtual 56, 3) := by decide +kernel
theorem dX4_worthInRain_11 : decode cX4_worthInRain 11 = .ok (.istore 4, 2) := by decide +kernel
theorem dX4_worthInRain_13 : decode cX4_worthInRain 13 = .ok (.iconst 0, 1) := by decide +kernel
theorem dX4_worthInRain_14 : decode cX4_worthInRain 14 = .ok (.istore 5, 2) := by decide +kernel
theorem dX4_worthInRain_16 : decode cX4_worthInRain 16 = .ok (.iconst 0, 1) := by decide +kernel
theorem dX4_worthInRain_17 : decode cX4_worthInRain 17 = .ok (.istore 6, 2) := by decide +kernel
theorem dX4_worthInRain_19 : decode cX4_worthInRain 19 = .ok (.iload 6, 2) := by decide +kernel
theorem dX4_worthInRain_21 : decode cX4_worthInRain 21 = .ok (.bipush 12, 2) := by decide +kernel
theorem dX4_worthInRain_23 : decode cX4_worthInRain 23 = .ok (.if_icmp .ge 36, 3) := by decide +kernel
theorem dX4_worthInRain_26 : decode cX4_worthInRain 26 = .ok (.iload 5, 2) := by decide +kernel
theorem dX4_worthInRain_28 : decode cX4_worthInRain 28 = .ok (.aload_n 0, 1) := by decide +kernel
theorem dX4_worthInRain_29 : decode cX4_worthInRain 29 = .ok (.getfield 18, 3) := by decide +kernel
theorem dX4_worthInRain_32 : decode cX4_worthInRain 32 = .ok (.iload_n 1, 1) := by decide +kernel
theorem dX4_worthInRain_33 : decode cX4_worthInRain 33 = .ok (.iaload, 1) := by decide +kernel
theorem dX4_worthInRain_34 : decode cX4_worthInRain 34 = .ok (.iload 6, 2) := by decide +kernel
theorem dX4_worthInRain_36 : decode cX4_worthInRain 36 = .ok (.iload_n 2, 1) := by decide +kernel
theorem dX4_worthInRain_37 : decode cX4_worthInRain 37 = .ok (.iload 4, 2) := by decide +kernel
theorem dX4_worthInRain_39 : decode cX4_worthInRain 39 = .ok (.iload_n 3, 1) := by decide +kernel
theorem dX4_worthInRain_40 : decode cX4_worthInRain 40 = .ok (.aload_n 0, 1) := by decide +kernel
theorem dX4_worthInRain_41 : decode cX4_worthInRain 41 = .ok (.getfield 28, 3) := by decide +kernel
theorem dX4_worthInRain_44 : decode cX4_worthInRain 44 = .ok (.getfield 63, 3) := by decide +kernel
theorem dX4_worthInRain_47 : decode cX4_worthInRain 47 = .ok (.invokestatic 66, 3) := by decide +kernel
theorem dX4_worthInRain_50 : decode cX4_worthInRain 50 = .ok (.iadd, 1) := by decide +kernel
theorem dX4_worthInRain_51 : decode cX4_worthInRain 51 = .ok (.istore 5, 2) := by decide +kernel
theorem dX4_worthInRain_53 : decode cX4_worthInRain 53 = .ok (.iinc 6 1, 3) := by decide +kernel
theorem dX4_worthInRain_56 : decode cX4_worthInRain 56 = .ok (.goto (-37), 3) := by decide +kernel
theorem dX4_worthInRain_59 : decode cX4_worthInRain 59 = .ok (.iload 5, 2) := by decide +kernel
theorem dX4_worthInRain_61 : decode cX4_worthInRain 61 = .ok (.ireturn, 1) := by decide +kernel
theorem dX4_worthOfAll_0 : decode cX4_worthOfAll 0 = .ok (.iconst 0, 1) := by decide +kernel
theorem dX4_worthOfAll_1 : decode cX4_worthOfAll 1 = .ok (.istore_n 1, 1) := by decide +kernel
theorem dX4_worthOfAll_2 : decode cX4_worthOfAll 2 = .ok (.iconst 0, 1) := by decide +kernel
theorem dX4_worthOfAll_3 : decode cX4_worthOfAll 3 = .ok (.istore_n 2, 1) := by decide +kernel
theorem dX4_worthOfAll_4 : decode cX4_worthOfAll 4 = .ok (.iload_n 2, 1) := by decide +kernel
theorem dX4_worthOfAll_5 : decode cX4_worthOfAll 5 = .ok (.aload_n 0, 1) := by decide +kernel
theorem dX4_worthOfAll_6 : decode cX4_worthOfAll 6 = .ok (.getfield 9, 3) := by decide +kernel
theorem dX4_worthOfAll_9 : decode cX4_worthOfAll 9 = .ok (.if_icmp .ge 17, 3) := by decide +kernel
theorem dX4_worthOfAll_12 : decode cX4_worthOfAll 12 = .ok (.iload_n 1, 1) := by decide +kernel
theorem dX4_worthOfAll_13 : decode cX4_worthOfAll 13 = .ok (.aload_n 0, 1) := by decide +kernel
theorem dX4_worthOfAll_14 : decode cX4_worthOfAll 14 = .ok (.iload_n 2, 1) := by decide +kernel
theorem dX4_worthOfAll_15 : decode cX4_worthOfAll 15 = .ok (.invokevirtual 74, 3) := by decide +kernel
theorem dX4_worthOfAll_18 : decode cX4_worthOfAll 18 = .ok (.iadd, 1) := by decide +kernel
theorem dX4_worthOfAll_19 : decode cX4_worthOfAll 19 = .ok (.istore_n 1, 1) := by decide +kernel
theorem dX4_worthOfAll_20 : decode cX4_worthOfAll 20 = .ok (.iinc 2 1, 3) := by decide +kernel
theorem dX4_worthOfAll_23 : decode cX4_worthOfAll 23 = .ok (.goto (-19), 3) := by decide +kernel
theorem dX4_worthOfAll_26 : decode cX4_worthOfAll 26 = .ok (.iload_n 1, 1) := by decide +kernel
theorem dX4_worthOfAll_27 : decode cX4_worthOfAll 27 = .ok (.ireturn, 1) := by decide +kernel
theorem dX4_worthOfAllOn_0 : decode cX4_worthOfAllOn 0 = .ok (.iconst 0, 1) := by decide +kernel
theorem dX4_worthOfAllOn_1 : decode cX4_worthOfAllOn 1 = .ok (.istore_n 2, 1) := by decide +kernel
theorem dX4_worthOfAllOn_2 : decode cX4_worthOfAllOn 2 = .ok (.iconst 0, 1) := by decide +kernel
theorem dX4_worthOfAllOn_3 : decode cX4_worthOfAllOn 3 = .ok (.istore_n 3, 1) := by decide +kernel
theorem dX4_worthOfAllOn_4 : decode cX4_worthOfAllOn 4 = .ok (.iload_n 3, 1) := by decide +kernel
theorem dX4_worthOfAllOn_5 : decode cX4_worthOfAllOn 5 = .ok (.aload_n 0, 1) := by decide +kernel
theorem dX4_worthOfAllOn_6 : decode cX4_worthOfAllOn 6 = .ok (.getfield 9, 3) := by decide +kernel
theorem dX4_worthOfAllOn_9 : decode cX4_worthOfAllOn 9 = .ok (.if_icmp .ge 31, 3) := by decide +kernel
theorem dX4_worthOfAllOn_12 : decode cX4_worthOfAllOn 12 = .ok (.iload_n 2, 1) := by decide +kernel
theorem dX4_worthOfAllOn_13 : decode cX4_worthOfAllOn 13 = .ok (.aload_n 0, 1) := by decide +kernel
theorem dX4_worthOfAllOn_14 : decode cX4_worthOfAllOn 14 = .ok (.iload_n 3, 1) := by decide +kernel
theorem dX4_worthOfAllOn_15 : decode cX4_worthOfAllOn 15 = .ok (.iconst 2, 1) := by decide +kernel
theorem dX4_worthOfAllOn_16 : decode cX4_worthOfAllOn 16 = .ok (.iload_n 1, 1) := by decide +kernel
theorem dX4_worthOfAllOn_17 : decode cX4_worthOfAllOn 17 = .ok (.imul, 1) := by decide +kernel
theorem dX4_worthOfAllOn_18 : decode cX4_worthOfAllOn 18 = .ok (.invokevirtual 78, 3) := by decide +kernel
theorem dX4_worthOfAllOn_21 : decode cX4_worthOfAllOn 21 = .ok (.aload_n 0, 1) := by decide +kernel
theorem dX4_worthOfAllOn_22 : decode cX4_worthOfAllOn 22 = .ok (.iload_n 3, 1) := by decide +kernel
theorem dX4_worthOfAllOn_23 : decode cX4_worthOfAllOn 23 = .ok (.iconst 2, 1) := by decide +kernel
theorem dX4_worthOfAllOn_24 : decode cX4_worthOfAllOn 24 = .ok (.iload_n 1, 1) := by decide +kernel
theorem dX4_worthOfAllOn_25 : decode cX4_worthOfAllOn 25 = .ok (.imul, 1) := by decide +kernel
theorem dX4_worthOfAllOn_26 : decode cX4_worthOfAllOn 26 = .ok (.iconst 1, 1) := by decide +kernel
theorem dX4_worthOfAllOn_27 : decode cX4_worthOfAllOn 27 = .ok (.iadd, 1) := by decide +kernel
theorem dX4_worthOfAllOn_28 : decode cX4_worthOfAllOn 28 = .ok (.invokevirtual 78, 3) := by decide +kernel
theorem dX4_worthOfAllOn_31 : decode cX4_worthOfAllOn 31 = .ok (.iadd, 1) := by decide +kernel
theorem dX4_worthOfAllOn_32 : decode cX4_worthOfAllOn 32 = .ok (.iadd, 1) := by decide +kernel
theorem dX4_worthOfAllOn_33 : decode cX4_worthOfAllOn 33 = .ok (.istore_n 2, 1) := by decide +kernel
theorem dX4_worthOfAllOn_34 : decode cX4_worthOfAllOn 34 = .ok (.iinc 3 1, 3) := by decide +kernel
theorem dX4_worthOfAllOn_37 : decode cX4_worthOfAllOn 37 = .ok (.goto (-33), 3) := by decide +kernel
theorem dX4_worthOfAllOn_40 : decode cX4_worthOfAllOn 40 = .ok (.iload_n 2, 1) := by decide +kernel
theorem dX4_worthOfAllOn_41 : decode cX4_worthOfAllOn 41 = .ok (.ireturn, 1) := by decide +kernel
theorem dX4_chalkOfAll_0 : decode cX4_chalkOfAll 0 = .ok (.iconst 0, 1) := by decide +kernel
theorem dX4_chalkOfAll_1 : decode cX4_chalkOfAll 1 = .ok (.istore_n 1, 1) := by decide +kernel
theorem dX4_chalkOfAll_2 : decode cX4_chalkOfAll 2 = .ok (.iconst 0, 1) := by decide +kernel
theorem dX4_chalkOfAll_3 : decode cX4_chalkOfAll 3 = .ok (.istore_n 2, 1) := by decide +kernel
theorem dX4_chalkOfAll_4 : decode cX4_chalkOfAll 4 = .ok (.iload_n 2, 1) := by decide +kernel
theorem dX4_chalkOfAll_5 : decode cX4_chalkOfAll 5 = .ok (.aload_n 0, 1) := by decide +kernel
theorem dX4_chalkOfAll_6 : decode cX4_chalkOfAll 6 = .ok (.getfield 9, 3) := by decide +kernel
theorem dX4_chalkOfAll_9 : decode cX4_chalkOfAll 9 = .ok (.if_icmp .ge 21, 3) := by decide +kernel
theorem dX4_chalkOfAll_12 : decode cX4_chalkOfAll 12 = .ok (.iload_n 1, 1) := by decide +kernel
theorem dX4_chalkOfAll_13 : decode cX4_chalkOfAll 13 = .ok (.aload_n 0, 1) := by decide +kernel
theorem dX4_chalkOfAll_14 : decode cX4_chalkOfAll 14 = .ok (.getfield 28, 3) := by decide +kernel
theorem dX4_chalkOfAll_17 : decode cX4_chalkOfAll 17 = .ok (.getfield 46, 3) := by decide +kernel
theorem dX4_chalkOfAll_20 : decode cX4_chalkOfAll 20 = .ok (.iload_n 2, 1) := by decide +kernel
theorem dX4_chalkOfAll_21 : decode cX4_chalkOfAll 21 = .ok (.iaload, 1) := by decide +kernel
theorem dX4_chalkOfAll_22 : decode cX4_chalkOfAll 22 = .ok (.iadd, 1) := by decide +kernel
theorem dX4_chalkOfAll_23 : decode cX4_chalkOfAll 23 = .ok (.istore_n 1, 1) := by decide +kernel
theorem dX4_chalkOfAll_24 : decode cX4_chalkOfAll 24 = .ok (.iinc 2 1, 3) := by decide +kernel
theorem dX4_chalkOfAll_27 : decode cX4_chalkOfAll 27 = .ok (.goto (-23), 3) := by decide +kernel
theorem dX4_chalkOfAll_30 : decode cX4_chalkOfAll 30 = .ok (.iload_n 1, 1) := by decide +kernel
theorem dX4_chalkOfAll_31 : decode cX4_chalkOfAll 31 = .ok (.ireturn, 1) := by decide +kernel
theorem dX4_dearestHalf_0 : decode cX4_dearestHalf 0 = .ok (.bipush (-4), 2) := by decide +kernel
theorem dX4_dearestHalf_2 : decode cX4_dearestHalf 2 = .ok (.istore_n 2, 1) := by decide +kernel
theorem dX4_dearestHalf_3 : decode cX4_dearestHalf 3 = .ok (.iconst (-1), 1) := by decide +kernel
theorem dX4_dearestHalf_4 : decode cX4_dearestHalf 4 = .ok (.istore_n 3, 1) := by decide +kernel
theorem dX4_dearestHalf_5 : decode cX4_dearestHalf 5 = .ok (.iconst 0, 1) := by decide +kernel
theorem dX4_dearestHalf_6 : decode cX4_dearestHalf 6 = .ok (.istore 4, 2) := by decide +kernel
theorem dX4_dearestHalf_8 : decode cX4_dearestHalf 8 = .ok (.iload 4, 2) := by decide +kernel
theorem dX4_dearestHalf_10 : decode cX4_dearestHalf 10 = .ok (.bipush 12, 2) := by decide +kernel
theorem dX4_dearestHalf_12 : decode cX4_dearestHalf 12 = .ok (.if_icmp .ge 44, 3) := by decide +kernel
theorem dX4_dearestHalf_15 : decode cX4_dearestHalf 15 = .ok (.aload_n 0, 1) := by decide +kernel
theorem dX4_dearestHalf_16 : decode cX4_dearestHalf 16 = .ok (.getfield 28, 3) := by decide +kernel
theorem dX4_dearestHalf_19 : decode cX4_dearestHalf 19 = .ok (.iload_n 1, 1) := by decide +kernel
theorem dX4_dearestHalf_20 : decode cX4_dearestHalf 20 = .ok (.iload 4, 2) := by decide +kernel
theorem dX4_dearestHalf_22 : decode cX4_dearestHalf 22 = .ok (.invokevirtual 81, 3) := by decide +kernel
theorem dX4_dearestHalf_25 : decode cX4_dearestHalf 25 = .ok (.ifCond .le 25, 3) := by decide +kernel
theorem dX4_dearestHalf_28 : decode cX4_dearestHalf 28 = .ok (.aload_n 0, 1) := by decide +kernel
theorem dX4_dearestHalf_29 : decode cX4_dearestHalf 29 = .ok (.iload_n 1, 1) := by decide +kernel
theorem dX4_dearestHalf_30 : decode cX4_dearestHalf 30 = .ok (.iload 4, 2) := by decide +kernel
theorem dX4_dearestHalf_32 : decode cX4_dearestHalf 32 = .ok (.invokevirtual 78, 3) := by decide +kernel
theorem dX4_dearestHalf_35 : decode cX4_dearestHalf 35 = .ok (.iload_n 3, 1) := by decide +kernel
theorem dX4_dearestHalf_36 : decode cX4_dearestHalf 36 = .ok (.if_icmp .le 14, 3) := by decide +kernel
theorem dX4_dearestHalf_39 : decode cX4_dearestHalf 39 = .ok (.aload_n 0, 1) := by decide +kernel
theorem dX4_dearestHalf_40 : decode cX4_dearestHalf 40 = .ok (.iload_n 1, 1) := by decide +kernel
theorem dX4_dearestHalf_41 : decode cX4_dearestHalf 41 = .ok (.iload 4, 2) := by decide +kernel
theorem dX4_dearestHalf_43 : decode cX4_dearestHalf 43 = .ok (.invokevirtual 78, 3) := by decide +kernel
theorem dX4_dearestHalf_46 : decode cX4_dearestHalf 46 = .ok (.istore_n 3, 1) := by decide +kernel
theorem dX4_dearestHalf_47 : decode cX4_dearestHalf 47 = .ok (.iload 4, 2) := by decide +kernel
theorem dX4_dearestHalf_49 : decode cX4_dearestHalf 49 = .ok (.istore_n 2, 1) := by decide +kernel
theorem dX4_dearestHalf_50 : decode cX4_dearestHalf 50 = .ok (.iinc 4 1, 3) := by decide +kernel
theorem dX4_dearestHalf_53 : decode cX4_dearestHalf 53 = .ok (.goto (-45), 3) := by decide +kernel
theorem dX4_dearestHalf_56 : decode cX4_dearestHalf 56 = .ok (.iload_n 2, 1) := by decide +kernel
theorem dX4_dearestHalf_57 : decode cX4_dearestHalf 57 = .ok (.ireturn, 1) := by decide +kernel
theorem dX4_maySell_0 : decode cX4_maySell 0 = .ok (.aload_n 0, 1) := by decide +kernel
theorem dX4_maySell_1 : decode cX4_maySell 1 = .ok (.getfield 28, 3) := by decide +kernel
theorem dX4_maySell_4 : decode cX4_maySell 4 = .ok (.iload_n 1, 1) := by decide +kernel
theorem dX4_maySell_5 : decode cX4_maySell 5 = .ok (.iload_n 3, 1) := by decide +kernel
theorem dX4_maySell_6 : decode cX4_maySell 6 = .ok (.invokevirtual 81, 3) := by decide +kernel
theorem dX4_maySell_9 : decode cX4_maySell 9 = .ok (.istore 5, 2) := by decide +kernel
theorem dX4_maySell_11 : decode cX4_maySell 11 = .ok (.iload 5, 2) := by decide +kernel
theorem dX4_maySell_13 : decode cX4_maySell 13 = .ok (.iconst 1, 1) := by decide +kernel
theorem dX4_maySell_14 : decode cX4_maySell 14 = .ok (.if_icmp .gt 22, 3) := by decide +kernel
theorem dX4_maySell_17 : decode cX4_maySell 17 = .ok (.aload_n 0, 1) := by decide +kernel
theorem dX4_maySell_18 : decode cX4_maySell 18 = .ok (.getfield 28, 3) := by decide +kernel
theorem dX4_maySell_21 : decode cX4_maySell 21 = .ok (.getfield 53, 3) := by decide +kernel
theorem dX4_maySell_24 : decode cX4_maySell 24 = .ok (.iload_n 1, 1) := by decide +kernel
theorem dX4_maySell_25 : decode cX4_maySell 25 = .ok (.iaload, 1) := by decide +kernel
theorem dX4_maySell_26 : decode cX4_maySell 26 = .ok (.invokestatic 84, 3) := by decide +kernel
theorem dX4_maySell_29 : decode cX4_maySell 29 = .ok (.aload_n 0, 1) := by decide +kernel
theorem dX4_maySell_30 : decode cX4_maySell 30 = .ok (.getfield 15, 3) := by decide +kernel
theorem dX4_maySell_33 : decode cX4_maySell 33 = .ok (.if_icmp .le 7, 3) := by decide +kernel
theorem dX4_maySell_36 : decode cX4_maySell 36 = .ok (.iconst 1, 1) := by decide +kernel
theorem dX4_maySell_37 : decode cX4_maySell 37 = .ok (.goto 4, 3) := by decide +kernel
theorem dX4_maySell_40 : decode cX4_maySell 40 = .ok (.iconst 0, 1) := by decide +kernel
theorem dX4_maySell_41 : decode cX4_maySell 41 = .ok (.istore 6, 2) := by decide +kernel
theorem dX4_maySell_43 : decode cX4_maySell 43 = .ok (.iload 5, 2) := by decide +kernel
theorem dX4_maySell_45 : decode cX4_maySell 45 = .ok (.ifCond .le 26, 3) := by decide +kernel
theorem dX4_maySell_48 : decode cX4_maySell 48 = .ok (.iload 6, 2) := by decide +kernel
theorem dX4_maySell_50 : decode cX4_maySell 50 = .ok (.ifCond .eq 21, 3) := by decide +kernel
theorem dX4_maySell_53 : decode cX4_maySell 53 = .ok (.aload_n 0, 1) := by decide +kernel
theorem dX4_maySell_54 : decode cX4_maySell 54 = .ok (.getfield 28, 3) := by decide +kernel
theorem dX4_maySell_57 : decode cX4_maySell 57 = .ok (.getfield 46, 3) := by decide +kernel
theorem dX4_maySell_60 : decode cX4_maySell 60 = .ok (.iload_n 2, 1) := by decide +kernel
theorem dX4_maySell_61 : decode cX4_maySell 61 = .ok (.iaload, 1) := by decide +kernel
theorem dX4_maySell_62 : decode cX4_maySell 62 = .ok (.iload 4, 2) := by decide +kernel
theorem dX4_maySell_64 : decode cX4_maySell 64 = .ok (.if_icmp .lt 7, 3) := by decide +kernel
theorem dX4_maySell_67 : decode cX4_maySell 67 = .ok (.iconst 1, 1) := by decide +kernel
theorem dX4_maySell_68 : decode cX4_maySell 68 = .ok (.goto 4, 3) := by decide +kernel
theorem dX4_maySell_71 : decode cX4_maySell 71 = .ok (.iconst 0, 1) := by decide +kernel
theorem dX4_maySell_72 : decode cX4_maySell 72 = .ok (.ireturn, 1) := by decide +kernel
theorem dX4_gainOfSale_0 : decode cX4_gainOfSale 0 = .ok (.aload_n 0, 1) := by decide +kernel
theorem dX4_gainOfSale_1 : decode cX4_gainOfSale 1 = .ok (.iload_n 3, 1) := by decide +kernel
theorem dX4_gainOfSale_2 : decode cX4_gainOfSale 2 = .ok (.iconst 2, 1) := by decide +kernel
theorem dX4_gainOfSale_3 : decode cX4_gainOfSale 3 = .ok (.idiv, 1) := by decide +kernel
theorem dX4_gainOfSale_4 : decode cX4_gainOfSale 4 = .ok (.invokevirtual 89, 3) := by decide +kernel
theorem dX4_gainOfSale_7 : decode cX4_gainOfSale 7 = .ok (.istore 4, 2) := by decide +kernel
theorem dX4_gainOfSale_9 : decode cX4_gainOfSale 9 = .ok (.aload_n 0, 1) := by decide +kernel
theorem dX4_gainOfSale_10 : decode cX4_gainOfSale 10 = .ok (.getfield 28, 3) := by decide +kernel
theorem dX4_gainOfSale_13 : decode cX4_gainOfSale 13 = .ok (.iload_n 1, 1) := by decide +kernel
theorem dX4_gainOfSale_14 : decode cX4_gainOfSale 14 = .ok (.iload_n 2, 1) := by decide +kernel
theorem dX4_gainOfSale_15 : decode cX4_gainOfSale 15 = .ok (.iload_n 3, 1) := by decide +kernel
theorem dX4_gainOfSale_16 : decode cX4_gainOfSale 16 = .ok (.invokevirtual 92, 3) := by decide +kernel
theorem dX4_gainOfSale_19 : decode cX4_gainOfSale 19 = .ok (.aload_n 0, 1) := by decide +kernel
theorem dX4_gainOfSale_20 : decode cX4_gainOfSale 20 = .ok (.iload_n 3, 1) := by decide +kernel
theorem dX4_gainOfSale_21 : decode cX4_gainOfSale 21 = .ok (.iconst 2, 1) := by decide +kernel
theorem dX4_gainOfSale_22 : decode cX4_gainOfSale 22 = .ok (.idiv, 1) := by decide +kernel
theorem dX4_gainOfSale_23 : decode cX4_gainOfSale 23 = .ok (.invokevirtual 89, 3) := by decide +kernel
theorem dX4_gainOfSale_26 : decode cX4_gainOfSale 26 = .ok (.istore 5, 2) := by decide +kernel
theorem dX4_gainOfSale_28 : decode cX4_gainOfSale 28 = .ok (.aload_n 0, 1) := by decide +kernel
theorem dX4_gainOfSale_29 : decode cX4_gainOfSale 29 = .ok (.getfield 28, 3) := by decide +kernel
theorem dX4_gainOfSale_32 : decode cX4_gainOfSale 32 = .ok (.iload_n 2, 1) := by decide +kernel
theorem dX4_gainOfSale_33 : decode cX4_gainOfSale 33 = .ok (.iload_n 1, 1) := by decide +kernel
theorem dX4_gainOfSale_34 : decode cX4_gainOfSale 34 = .ok (.iload_n 3, 1) := by decide +kernel
theorem dX4_gainOfSale_35 : decode cX4_gainOfSale 35 = .ok (.invokevirtual 92, 3) := by decide +kernel
theorem dX4_gainOfSale_38 : decode cX4_gainOfSale 38 = .ok (.iload 5, 2) := by decide +kernel
theorem dX4_gainOfSale_40 : decode cX4_gainOfSale 40 = .ok (.iload 4, 2) := by decide +kernel
theorem dX4_gainOfSale_42 : decode cX4_gainOfSale 42 = .ok (.isub, 1) := by decide +kernel
theorem dX4_gainOfSale_43 : decode cX4_gainOfSale 43 = .ok (.ireturn, 1) := by decide +kernel
theorem dX4_middleOfSale_0 : decode cX4_middleOfSale 0 = .ok (.aload_n 0, 1) := by decide +kernel
theorem dX4_middleOfSale_1 : decode cX4_middleOfSale 1 = .ok (.iload_n 1, 1) := by decide +kernel
theorem dX4_middleOfSale_2 : decode cX4_middleOfSale 2 = .ok (.invokevirtual 74, 3) := by decide +kernel
theorem dX4_middleOfSale_5 : decode cX4_middleOfSale 5 = .ok (.istore 4, 2) := by decide +kernel
theorem dX4_middleOfSale_7 : decode cX4_middleOfSale 7 = .ok (.aload_n 0, 1) := by decide +kernel
theorem dX4_middleOfSale_8 : decode cX4_middleOfSale 8 = .ok (.iload_n 2, 1) := by decide +kernel
theorem dX4_middleOfSale_9 : decode cX4_middleOfSale 9 = .ok (.invokevirtual 74, 3) := by decide +kernel
theorem dX4_middleOfSale_12 : decode cX4_middleOfSale 12 = .ok (.istore 5, 2) := by decide +kernel
theorem dX4_middleOfSale_14 : decode cX4_middleOfSale 14 = .ok (.aload_n 0, 1) := by decide +kernel
theorem dX4_middleOfSale_15 : decode cX4_middleOfSale 15 = .ok (.getfield 28, 3) := by decide +kernel
theorem dX4_middleOfSale_18 : decode cX4_middleOfSale 18 = .ok (.iload_n 1, 1) := by decide +kernel
theorem dX4_middleOfSale_19 : decode cX4_middleOfSale 19 = .ok (.iload_n 2, 1) := by decide +kernel
theorem dX4_middleOfSale_20 : decode cX4_middleOfSale 20 = .ok (.iload_n 3, 1) := by decide +kernel
theorem dX4_middleOfSale_21 : decode cX4_middleOfSale 21 = .ok (.invokevirtual 92, 3) := by decide +kernel
theorem dX4_middleOfSale_24 : decode cX4_middleOfSale 24 = .ok (.iload 4, 2) := by decide +kernel
theorem dX4_middleOfSale_26 : decode cX4_middleOfSale 26 = .ok (.aload_n 0, 1) := by decide +kernel
theorem dX4_middleOfSale_27 : decode cX4_middleOfSale 27 = .ok (.iload_n 1, 1) := by decide +kernel
theorem dX4_middleOfSale_28 : decode cX4_middleOfSale 28 = .ok (.invokevirtual 74, 3) := by decide +kernel
theorem dX4_middleOfSale_31 : decode cX4_middleOfSale 31 = .ok (.isub, 1) := by decide +kernel
theorem dX4_middleOfSale_32 : decode cX4_middleOfSale 32 = .ok (.istore 6, 2) := by decide +kernel
theorem dX4_middleOfSale_34 : decode cX4_middleOfSale 34 = .ok (.aload_n 0, 1) := by decide +kernel
theorem dX4_middleOfSale_35 : decode cX4_middleOfSale 35 = .ok (.iload_n 2, 1) := by decide +kernel
theorem dX4_middleOfSale_36 : decode cX4_middleOfSale 36 = .ok (.invokevirtual 74, 3) := by decide +kernel
theorem dX4_middleOfSale_39 : decode cX4_middleOfSale 39 = .ok (.iload 5, 2) := by decide +kernel
theorem dX4_middleOfSale_41 : decode cX4_middleOfSale 41 = .ok (.isub, 1) := by decide +kernel
theorem dX4_middleOfSale_42 : decode cX4_middleOfSale 42 = .ok (.istore 7, 2) := by decide +kernel
theorem dX4_middleOfSale_44 : decode cX4_middleOfSale 44 = .ok (.aload_n 0, 1) := by decide +kernel
theorem dX4_middleOfSale_45 : decode cX4_middleOfSale 45 = .ok (.getfield 28, 3) := by decide +kernel
theorem dX4_middleOfSale_48 : decode cX4_middleOfSale 48 = .ok (.iload_n 2, 1) := by decide +kernel
theorem dX4_middleOfSale_49 : decode cX4_middleOfSale 49 = .ok (.iload_n 1, 1) := by decide +kernel
theorem dX4_middleOfSale_50 : decode cX4_middleOfSale 50 = .ok (.iload_n 3, 1) := by decide +kernel
theorem dX4_middleOfSale_51 : decode cX4_middleOfSale 51 = .ok (.invokevirtual 92, 3) := by decide +kernel
theorem dX4_middleOfSale_54 : decode cX4_middleOfSale 54 = .ok (.iconst 0, 1) := by decide +kernel
theorem dX4_middleOfSale_55 : decode cX4_middleOfSale 55 = .ok (.iload 6, 2) := by decide +kernel
theorem dX4_middleOfSale_57 : decode cX4_middleOfSale 57 = .ok (.iload 7, 2) := by decide +kernel
theorem dX4_middleOfSale_59 : decode cX4_middleOfSale 59 = .ok (.iadd, 1) := by decide +kernel
theorem dX4_middleOfSale_60 : decode cX4_middleOfSale 60 = .ok (.iconst 2, 1) := by decide +kernel
theorem dX4_middleOfSale_61 : decode cX4_middleOfSale 61 = .ok (.idiv, 1) := by decide +kernel
theorem dX4_middleOfSale_62 : decode cX4_middleOfSale 62 = .ok (.invokestatic 95, 3) := by decide +kernel
theorem dX4_middleOfSale_65 : decode cX4_middleOfSale 65 = .ok (.ireturn, 1) := by decide +kernel
theorem dX4_bestSale_0 : decode cX4_bestSale 0 = .ok (.bipush (-4), 2) := by decide +kernel
theorem dX4_bestSale_2 : decode cX4_bestSale 2 = .ok (.istore_n 1, 1) := by decide +kernel
theorem dX4_bestSale_3 : decode cX4_bestSale 3 = .ok (.iconst 0, 1) := by decide +kernel
theorem dX4_bestSale_4 : decode cX4_bestSale 4 = .ok (.istore_n 2, 1) := by decide +kernel
theorem dX4_bestSale_5 : decode cX4_bestSale 5 = .ok (.iconst 0, 1) := by decide +kernel
theorem dX4_bestSale_6 : decode cX4_bestSale 6 = .ok (.istore_n 3, 1) := by decide +kernel
theorem dX4_bestSale_7 : decode cX4_bestSale 7 = .ok (.iload_n 3, 1) := by decide +kernel
theorem dX4_bestSale_8 : decode cX4_bestSale 8 = .ok (.aload_n 0, 1) := by decide +kernel
theorem dX4_bestSale_9 : decode cX4_bestSale 9 = .ok (.getfield 9, 3) := by decide +kernel
theorem dX4_bestSale_12 : decode cX4_bestSale 12 = .ok (.if_icmp .ge 88, 3) := by decide +kernel
theorem dX4_bestSale_15 : decode cX4_bestSale 15 = .ok (.iconst 0, 1) := by decide +kernel
theorem dX4_bestSale_16 : decode cX4_bestSale 16 = .ok (.istore 4, 2) := by decide +kernel
theorem dX4_bestSale_18 : decode cX4_bestSale 18 = .ok (.iload 4, 2) := by decide +kernel
theorem dX4_bestSale_20 : decode cX4_bestSale 20 = .ok (.aload_n 0, 1) := by decide +kernel
theorem dX4_bestSale_21 : decode cX4_bestSale 21 = .ok (.getfield 9, 3) := by decide +kernel
theorem dX4_bestSale_24 : decode cX4_bestSale 24 = .ok (.if_icmp .ge 70, 3) := by decide +kernel
theorem dX4_bestSale_27 : decode cX4_bestSale 27 = .ok (.iconst 0, 1) := by decide +kernel
theorem dX4_bestSale_28 : decode cX4_bestSale 28 = .ok (.istore 5, 2) := by decide +kernel
theorem dX4_bestSale_30 : decode cX4_bestSale 30 = .ok (.iload 5, 2) := by decide +kernel
theorem dX4_bestSale_32 : decode cX4_bestSale 32 = .ok (.bipush 12, 2) := by decide +kernel
theorem dX4_bestSale_34 : decode cX4_bestSale 34 = .ok (.if_icmp .ge 54, 3) := by decide +kernel
theorem dX4_bestSale_37 : decode cX4_bestSale 37 = .ok (.aload_n 0, 1) := by decide +kernel
theorem dX4_bestSale_38 : decode cX4_bestSale 38 = .ok (.iload_n 3, 1) := by decide +kernel
theorem dX4_bestSale_39 : decode cX4_bestSale 39 = .ok (.iload 4, 2) := by decide +kernel
theorem dX4_bestSale_41 : decode cX4_bestSale 41 = .ok (.iload 5, 2) := by decide +kernel
theorem dX4_bestSale_43 : decode cX4_bestSale 43 = .ok (.invokevirtual 100, 3) := by decide +kernel
theorem dX4_bestSale_46 : decode cX4_bestSale 46 = .ok (.ifCond .eq 15, 3) := by decide +kernel
theorem dX4_bestSale_49 : decode cX4_bestSale 49 = .ok (.aload_n 0, 1) := by decide +kernel
theorem dX4_bestSale_50 : decode cX4_bestSale 50 = .ok (.iload_n 3, 1) := by decide +kernel
theorem dX4_bestSale_51 : decode cX4_bestSale 51 = .ok (.iload 4, 2) := by decide +kernel
theorem dX4_bestSale_53 : decode cX4_bestSale 53 = .ok (.iload 5, 2) := by decide +kernel
theorem dX4_bestSale_55 : decode cX4_bestSale 55 = .ok (.invokevirtual 104, 3) := by decide +kernel
theorem dX4_bestSale_58 : decode cX4_bestSale 58 = .ok (.goto 4, 3) := by decide +kernel
theorem dX4_bestSale_61 : decode cX4_bestSale 61 = .ok (.iconst 0, 1) := by decide +kernel
theorem dX4_bestSale_62 : decode cX4_bestSale 62 = .ok (.istore 6, 2) := by decide +kernel
theorem dX4_bestSale_64 : decode cX4_bestSale 64 = .ok (.iload 6, 2) := by decide +kernel
theorem dX4_bestSale_66 : decode cX4_bestSale 66 = .ok (.iload_n 2, 1) := by decide +kernel
theorem dX4_bestSale_67 : decode cX4_bestSale 67 = .ok (.if_icmp .le 15, 3) := by decide +kernel
theorem dX4_bestSale_70 : decode cX4_bestSale 70 = .ok (.iload 6, 2) := by decide +kernel
theorem dX4_bestSale_72 : decode cX4_bestSale 72 = .ok (.istore_n 2, 1) := by decide +kernel
theorem dX4_bestSale_73 : decode cX4_bestSale 73 = .ok (.iload_n 3, 1) := by decide +kernel
theorem dX4_bestSale_74 : decode cX4_bestSale 74 = .ok (.iload 4, 2) := by decide +kernel
theorem dX4_bestSale_76 : decode cX4_bestSale 76 = .ok (.iload 5, 2) := by decide +kernel
theorem dX4_bestSale_78 : decode cX4_bestSale 78 = .ok (.invokestatic 107, 3) := by decide +kernel
theorem dX4_bestSale_81 : decode cX4_bestSale 81 = .ok (.istore_n 1, 1) := by decide +kernel
theorem dX4_bestSale_82 : decode cX4_bestSale 82 = .ok (.iinc 5 1, 3) := by decide +kernel
theorem dX4_bestSale_85 : decode cX4_bestSale 85 = .ok (.goto (-55), 3) := by decide +kernel
theorem dX4_bestSale_88 : decode cX4_bestSale 88 = .ok (.iinc 4 1, 3) := by decide +kernel
theorem dX4_bestSale_91 : decode cX4_bestSale 91 = .ok (.goto (-73), 3) := by decide +kernel
theorem dX4_bestSale_94 : decode cX4_bestSale 94 = .ok (.iinc 3 1, 3) := by decide +kernel
theorem dX4_bestSale_97 : decode cX4_bestSale 97 = .ok (.goto (-90), 3) := by decide +kernel
theorem dX4_bestSale_100 : decode cX4_bestSale 100 = .ok (.iload_n 1, 1) := by decide +kernel
theorem dX4_bestSale_101 : decode cX4_bestSale 101 = .ok (.ireturn, 1) := by decide +kernel
theorem dX4_mightGain_0 : decode cX4_mightGain 0 = .ok (.iload_n 1, 1) := by decide +kernel
theorem dX4_mightGain_1 : decode cX4_mightGain 1 = .ok (.iload_n 2, 1) := by decide +kernel
theorem dX4_mightGain_2 : decode cX4_mightGain 2 = .ok (.if_icmp .eq 34, 3) := by decide +kernel
theorem dX4_mightGain_5 : decode cX4_mightGain 5 = .ok (.aload_n 0, 1) := by decide +kernel
theorem dX4_mightGain_6 : decode cX4_mightGain 6 = .ok (.getfield 28, 3) := by decide +kernel
theorem dX4_mightGain_9 : decode cX4_mightGain 9 = .ok (.getfield 53, 3) := by decide +kernel
theorem dX4_mightGain_12 : decode cX4_mightGain 12 = .ok (.iload_n 2, 1) := by decide +kernel
theorem dX4_mightGain_13 : decode cX4_mightGain 13 = .ok (.iaload, 1) := by decide +kernel
theorem dX4_mightGain_14 : decode cX4_mightGain 14 = .ok (.iload_n 3, 1) := by decide +kernel
theorem dX4_mightGain_15 : decode cX4_mightGain 15 = .ok (.invokestatic 110, 3) := by decide +kernel
theorem dX4_mightGain_18 : decode cX4_mightGain 18 = .ok (.ifCond .ne 18, 3) := by decide +kernel
theorem dX4_mightGain_21 : decode cX4_mightGain 21 = .ok (.aload_n 0, 1) := by decide +kernel
theorem dX4_mightGain_22 : decode cX4_mightGain 22 = .ok (.iload_n 1, 1) := by decide +kernel
theorem dX4_mightGain_23 : decode cX4_mightGain 23 = .ok (.iload_n 2, 1) := by decide +kernel
theorem dX4_mightGain_24 : decode cX4_mightGain 24 = .ok (.iload_n 3, 1) := by decide +kernel
theorem dX4_mightGain_25 : decode cX4_mightGain 25 = .ok (.iconst 0, 1) := by decide +kernel
theorem dX4_mightGain_26 : decode cX4_mightGain 26 = .ok (.invokevirtual 114, 3) := by decide +kernel
theorem dX4_mightGain_29 : decode cX4_mightGain 29 = .ok (.ifCond .eq 7, 3) := by decide +kernel
theorem dX4_mightGain_32 : decode cX4_mightGain 32 = .ok (.iconst 1, 1) := by decide +kernel
theorem dX4_mightGain_33 : decode cX4_mightGain 33 = .ok (.goto 4, 3) := by decide +kernel
theorem dX4_mightGain_36 : decode cX4_mightGain 36 = .ok (.iconst 0, 1) := by decide +kernel
theorem dX4_mightGain_37 : decode cX4_mightGain 37 = .ok (.ireturn, 1) := by decide +kernel
theorem dX4_driftOnce_0 : decode cX4_driftOnce 0 = .ok (.aload_n 0, 1) := by decide +kernel
theorem dX4_driftOnce_1 : decode cX4_driftOnce 1 = .ok (.getfield 28, 3) := by decide +kernel
theorem dX4_driftOnce_4 : decode cX4_driftOnce 4 = .ok (.aload_n 0, 1) := by decide +kernel
theorem dX4_driftOnce_5 : decode cX4_driftOnce 5 = .ok (.getfield 28, 3) := by decide +kernel
theorem dX4_driftOnce_8 : decode cX4_driftOnce 8 = .ok (.getfield 118, 3) := by decide +kernel
theorem dX4_driftOnce_11 : decode cX4_driftOnce 11 = .ok (.ldc 121, 2) := by decide +kernel
theorem dX4_driftOnce_13 : decode cX4_driftOnce 13 = .ok (.imul, 1) := by decide +kernel
theorem dX4_driftOnce_14 : decode cX4_driftOnce 14 = .ok (.sipush 12345, 3) := by decide +kernel
theorem dX4_driftOnce_17 : decode cX4_driftOnce 17 = .ok (.iadd, 1) := by decide +kernel
theorem dX4_driftOnce_18 : decode cX4_driftOnce 18 = .ok (.ldc 122, 2) := by decide +kernel
theorem dX4_driftOnce_20 : decode cX4_driftOnce 20 = .ok (.iand, 1) := by decide +kernel
theorem dX4_driftOnce_21 : decode cX4_driftOnce 21 = .ok (.putfield 118, 3) := by decide +kernel
theorem dX4_driftOnce_24 : decode cX4_driftOnce 24 = .ok (.aload_n 0, 1) := by decide +kernel
theorem dX4_driftOnce_25 : decode cX4_driftOnce 25 = .ok (.getfield 9, 3) := by decide +kernel
theorem dX4_driftOnce_28 : decode cX4_driftOnce 28 = .ok (.ifCond .ne 4, 3) := by decide +kernel
theorem dX4_driftOnce_31 : decode cX4_driftOnce 31 = .ok (.return_, 1) := by decide +kernel
theorem dX4_driftOnce_32 : decode cX4_driftOnce 32 = .ok (.aload_n 0, 1) := by decide +kernel
theorem dX4_driftOnce_33 : decode cX4_driftOnce 33 = .ok (.getfield 28, 3) := by decide +kernel
theorem dX4_driftOnce_36 : decode cX4_driftOnce 36 = .ok (.getfield 118, 3) := by decide +kernel
theorem dX4_driftOnce_39 : decode cX4_driftOnce 39 = .ok (.ldc 123, 2) := by decide +kernel
theorem dX4_driftOnce_41 : decode cX4_driftOnce 41 = .ok (.idiv, 1) := by decide +kernel
theorem dX4_driftOnce_42 : decode cX4_driftOnce 42 = .ok (.aload_n 0, 1) := by decide +kernel
theorem dX4_driftOnce_43 : decode cX4_driftOnce 43 = .ok (.getfield 9, 3) := by decide +kernel
theorem dX4_driftOnce_46 : decode cX4_driftOnce 46 = .ok (.irem, 1) := by decide +kernel
theorem dX4_driftOnce_47 : decode cX4_driftOnce 47 = .ok (.istore_n 1, 1) := by decide +kernel
theorem dX4_driftOnce_48 : decode cX4_driftOnce 48 = .ok (.aload_n 0, 1) := by decide +kernel
theorem dX4_driftOnce_49 : decode cX4_driftOnce 49 = .ok (.getfield 28, 3) := by decide +kernel
theorem dX4_driftOnce_52 : decode cX4_driftOnce 52 = .ok (.getfield 118, 3) := by decide +kernel
theorem dX4_driftOnce_55 : decode cX4_driftOnce 55 = .ok (.sipush 1024, 3) := by decide +kernel
theorem dX4_driftOnce_58 : decode cX4_driftOnce 58 = .ok (.idiv, 1) := by decide +kernel
theorem dX4_driftOnce_59 : decode cX4_driftOnce 59 = .ok (.aload_n 0, 1) := by decide +kernel
theorem dX4_driftOnce_60 : decode cX4_driftOnce 60 = .ok (.getfield 9, 3) := by decide +kernel
theorem dX4_driftOnce_63 : decode cX4_driftOnce 63 = .ok (.irem, 1) := by decide +kernel
theorem dX4_driftOnce_64 : decode cX4_driftOnce 64 = .ok (.istore_n 2, 1) := by decide +kernel
theorem dX4_driftOnce_65 : decode cX4_driftOnce 65 = .ok (.aload_n 0, 1) := by decide +kernel
theorem dX4_driftOnce_66 : decode cX4_driftOnce 66 = .ok (.getfield 28, 3) := by decide +kernel
theorem dX4_driftOnce_69 : decode cX4_driftOnce 69 = .ok (.getfield 118, 3) := by decide +kernel
theorem dX4_driftOnce_72 : decode cX4_driftOnce 72 = .ok (.sipush 128, 3) := by decide +kernel
theorem dX4_driftOnce_75 : decode cX4_driftOnce 75 = .ok (.idiv, 1) := by decide +kernel
theorem dX4_driftOnce_76 : decode cX4_driftOnce 76 = .ok (.bipush 12, 2) := by decide +kernel
theorem dX4_driftOnce_78 : decode cX4_driftOnce 78 = .ok (.irem, 1) := by decide +kernel
theorem dX4_driftOnce_79 : decode cX4_driftOnce 79 = .ok (.istore_n 3, 1) := by decide +kernel
theorem dX4_driftOnce_80 : decode cX4_driftOnce 80 = .ok (.iload_n 1, 1) := by decide +kernel
theorem dX4_driftOnce_81 : decode cX4_driftOnce 81 = .ok (.iload_n 2, 1) := by decide +kernel
theorem dX4_driftOnce_82 : decode cX4_driftOnce 82 = .ok (.if_icmp .eq 15, 3) := by decide +kernel
theorem dX4_driftOnce_85 : decode cX4_driftOnce 85 = .ok (.aload_n 0, 1) := by decide +kernel
theorem dX4_driftOnce_86 : decode cX4_driftOnce 86 = .ok (.getfield 28, 3) := by decide +kernel
theorem dX4_driftOnce_89 : decode cX4_driftOnce 89 = .ok (.iload_n 1, 1) := by decide +kernel
theorem dX4_driftOnce_90 : decode cX4_driftOnce 90 = .ok (.iload_n 3, 1) := by decide +kernel
theorem dX4_driftOnce_91 : decode cX4_driftOnce 91 = .ok (.invokevirtual 81, 3) := by decide +kernel
theorem dX4_driftOnce_94 : decode cX4_driftOnce 94 = .ok (.ifCond .ne 4, 3) := by decide +kernel
theorem dX4_driftOnce_97 : decode cX4_driftOnce 97 = .ok (.return_, 1) := by decide +kernel
theorem dX4_driftOnce_98 : decode cX4_driftOnce 98 = .ok (.aload_n 0, 1) := by decide +kernel
theorem dX4_driftOnce_99 : decode cX4_driftOnce 99 = .ok (.iload_n 1, 1) := by decide +kernel
theorem dX4_driftOnce_100 : decode cX4_driftOnce 100 = .ok (.iload_n 2, 1) := by decide +kernel
theorem dX4_driftOnce_101 : decode cX4_driftOnce 101 = .ok (.iload_n 3, 1) := by decide +kernel
theorem dX4_driftOnce_102 : decode cX4_driftOnce 102 = .ok (.invokevirtual 124, 3) := by decide +kernel
theorem dX4_driftOnce_105 : decode cX4_driftOnce 105 = .ok (.istore 4, 2) := by decide +kernel
theorem dX4_driftOnce_107 : decode cX4_driftOnce 107 = .ok (.aload_n 0, 1) := by decide +kernel
theorem dX4_driftOnce_108 : decode cX4_driftOnce 108 = .ok (.iload_n 1, 1) := by decide +kernel
theorem dX4_driftOnce_109 : decode cX4_driftOnce 109 = .ok (.iload_n 2, 1) := by decide +kernel
theorem dX4_driftOnce_110 : decode cX4_driftOnce 110 = .ok (.iload_n 3, 1) := by decide +kernel
theorem dX4_driftOnce_111 : decode cX4_driftOnce 111 = .ok (.iload 4, 2) := by decide +kernel
theorem dX4_driftOnce_113 : decode cX4_driftOnce 113 = .ok (.invokevirtual 114, 3) := by decide +kernel
theorem dX4_driftOnce_116 : decode cX4_driftOnce 116 = .ok (.ifCond .eq 24, 3) := by decide +kernel
theorem dX4_driftOnce_119 : decode cX4_driftOnce 119 = .ok (.aload_n 0, 1) := by decide +kernel
theorem dX4_driftOnce_120 : decode cX4_driftOnce 120 = .ok (.getfield 28, 3) := by decide +kernel
theorem dX4_driftOnce_123 : decode cX4_driftOnce 123 = .ok (.iload_n 1, 1) := by decide +kernel
theorem dX4_driftOnce_124 : decode cX4_driftOnce 124 = .ok (.iload_n 2, 1) := by decide +kernel
theorem dX4_driftOnce_125 : decode cX4_driftOnce 125 = .ok (.iload_n 3, 1) := by decide +kernel
theorem dX4_driftOnce_126 : decode cX4_driftOnce 126 = .ok (.invokevirtual 92, 3) := by decide +kernel
theorem dX4_driftOnce_129 : decode cX4_driftOnce 129 = .ok (.aload_n 0, 1) := by decide +kernel
theorem dX4_driftOnce_130 : decode cX4_driftOnce 130 = .ok (.getfield 28, 3) := by decide +kernel
theorem dX4_driftOnce_133 : decode cX4_driftOnce 133 = .ok (.iload_n 2, 1) := by decide +kernel
theorem dX4_driftOnce_134 : decode cX4_driftOnce 134 = .ok (.iload_n 1, 1) := by decide +kernel
theorem dX4_driftOnce_135 : decode cX4_driftOnce 135 = .ok (.iload 4, 2) := by decide +kernel
theorem dX4_driftOnce_137 : decode cX4_driftOnce 137 = .ok (.invokevirtual 127, 3) := by decide +kernel
theorem dX4_driftOnce_140 : decode cX4_driftOnce 140 = .ok (.return_, 1) := by decide +kernel
theorem dX4_weightOfRain_0 : decode cX4_weightOfRain 0 = .ok (.bipush 63, 2) := by decide +kernel
theorem dX4_weightOfRain_2 : decode cX4_weightOfRain 2 = .ok (.aload_n 0, 1) := by decide +kernel
theorem dX4_weightOfRain_3 : decode cX4_weightOfRain 3 = .ok (.getfield 28, 3) := by decide +kernel
theorem dX4_weightOfRain_6 : decode cX4_weightOfRain 6 = .ok (.getfield 60, 3) := by decide +kernel
theorem dX4_weightOfRain_9 : decode cX4_weightOfRain 9 = .ok (.iconst (-1), 1) := by decide +kernel
theorem dX4_weightOfRain_10 : decode cX4_weightOfRain 10 = .ok (.ixor, 1) := by decide +kernel
theorem dX4_weightOfRain_11 : decode cX4_weightOfRain 11 = .ok (.iand, 1) := by decide +kernel
theorem dX4_weightOfRain_12 : decode cX4_weightOfRain 12 = .ok (.istore 4, 2) := by decide +kernel
theorem dX4_weightOfRain_14 : decode cX4_weightOfRain 14 = .ok (.iconst 0, 1) := by decide +kernel
theorem dX4_weightOfRain_15 : decode cX4_weightOfRain 15 = .ok (.istore 5, 2) := by decide +kernel
theorem dX4_weightOfRain_17 : decode cX4_weightOfRain 17 = .ok (.iconst 0, 1) := by decide +kernel
theorem dX4_weightOfRain_18 : decode cX4_weightOfRain 18 = .ok (.istore 6, 2) := by decide +kernel
theorem dX4_weightOfRain_20 : decode cX4_weightOfRain 20 = .ok (.iload 6, 2) := by decide +kernel
theorem dX4_weightOfRain_22 : decode cX4_weightOfRain 22 = .ok (.bipush 63, 2) := by decide +kernel
theorem dX4_weightOfRain_24 : decode cX4_weightOfRain 24 = .ok (.if_icmp .gt 95, 3) := by decide +kernel
theorem dX4_weightOfRain_27 : decode cX4_weightOfRain 27 = .ok (.iload 6, 2) := by decide +kernel
theorem dX4_weightOfRain_29 : decode cX4_weightOfRain 29 = .ok (.iload 4, 2) := by decide +kernel
theorem dX4_weightOfRain_31 : decode cX4_weightOfRain 31 = .ok (.iconst (-1), 1) := by decide +kernel
theorem dX4_weightOfRain_32 : decode cX4_weightOfRain 32 = .ok (.ixor, 1) := by decide +kernel
theorem dX4_weightOfRain_33 : decode cX4_weightOfRain 33 = .ok (.iand, 1) := by decide +kernel
theorem dX4_weightOfRain_34 : decode cX4_weightOfRain 34 = .ok (.ifCond .ne 7, 3) := by decide +kernel
theorem dX4_weightOfRain_37 : decode cX4_weightOfRain 37 = .ok (.iconst 1, 1) := by decide +kernel
theorem dX4_weightOfRain_38 : decode cX4_weightOfRain 38 = .ok (.goto 4, 3) := by decide +kernel
theorem dX4_weightOfRain_41 : decode cX4_weightOfRain 41 = .ok (.iconst 0, 1) := by decide +kernel
theorem dX4_weightOfRain_42 : decode cX4_weightOfRain 42 = .ok (.istore 7, 2) := by decide +kernel
theorem dX4_weightOfRain_44 : decode cX4_weightOfRain 44 = .ok (.iload 7, 2) := by decide +kernel
theorem dX4_weightOfRain_46 : decode cX4_weightOfRain 46 = .ok (.ifCond .eq 67, 3) := by decide +kernel
theorem dX4_weightOfRain_49 : decode cX4_weightOfRain 49 = .ok (.aload_n 0, 1) := by decide +kernel
theorem dX4_weightOfRain_50 : decode cX4_weightOfRain 50 = .ok (.iload_n 1, 1) := by decide +kernel
theorem dX4_weightOfRain_51 : decode cX4_weightOfRain 51 = .ok (.aload_n 0, 1) := by decide +kernel
theorem dX4_weightOfRain_52 : decode cX4_weightOfRain 52 = .ok (.getfield 28, 3) := by decide +kernel
theorem dX4_weightOfRain_55 : decode cX4_weightOfRain 55 = .ok (.getfield 53, 3) := by decide +kernel
theorem dX4_weightOfRain_58 : decode cX4_weightOfRain 58 = .ok (.iload_n 1, 1) := by decide +kernel
theorem dX4_weightOfRain_59 : decode cX4_weightOfRain 59 = .ok (.iaload, 1) := by decide +kernel
theorem dX4_weightOfRain_60 : decode cX4_weightOfRain 60 = .ok (.aload_n 0, 1) := by decide +kernel
theorem dX4_weightOfRain_61 : decode cX4_weightOfRain 61 = .ok (.getfield 28, 3) := by decide +kernel
theorem dX4_weightOfRain_64 : decode cX4_weightOfRain 64 = .ok (.getfield 60, 3) := by decide +kernel
theorem dX4_weightOfRain_67 : decode cX4_weightOfRain 67 = .ok (.iload 6, 2) := by decide +kernel
theorem dX4_weightOfRain_69 : decode cX4_weightOfRain 69 = .ok (.ior, 1) := by decide +kernel
theorem dX4_weightOfRain_70 : decode cX4_weightOfRain 70 = .ok (.invokevirtual 70, 3) := by decide +kernel
theorem dX4_weightOfRain_73 : decode cX4_weightOfRain 73 = .ok (.iload_n 2, 1) := by decide +kernel
theorem dX4_weightOfRain_74 : decode cX4_weightOfRain 74 = .ok (.if_icmp .lt 39, 3) := by decide +kernel
theorem dX4_weightOfRain_77 : decode cX4_weightOfRain 77 = .ok (.iload 4, 2) := by decide +kernel
theorem dX4_weightOfRain_79 : decode cX4_weightOfRain 79 = .ok (.iload 6, 2) := by decide +kernel
theorem dX4_weightOfRain_81 : decode cX4_weightOfRain 81 = .ok (.iconst (-1), 1) := by decide +kernel
theorem dX4_weightOfRain_82 : decode cX4_weightOfRain 82 = .ok (.ixor, 1) := by decide +kernel
theorem dX4_weightOfRain_83 : decode cX4_weightOfRain 83 = .ok (.iand, 1) := by decide +kernel
theorem dX4_weightOfRain_84 : decode cX4_weightOfRain 84 = .ok (.istore 8, 2) := by decide +kernel
theorem dX4_weightOfRain_86 : decode cX4_weightOfRain 86 = .ok (.iload 5, 2) := by decide +kernel
theorem dX4_weightOfRain_88 : decode cX4_weightOfRain 88 = .ok (.iload_n 3, 1) := by decide +kernel
theorem dX4_weightOfRain_89 : decode cX4_weightOfRain 89 = .ok (.iload 6, 2) := by decide +kernel
theorem dX4_weightOfRain_91 : decode cX4_weightOfRain 91 = .ok (.invokestatic 84, 3) := by decide +kernel
theorem dX4_weightOfRain_94 : decode cX4_weightOfRain 94 = .ok (.invokestatic 130, 3) := by decide +kernel
theorem dX4_weightOfRain_97 : decode cX4_weightOfRain 97 = .ok (.bipush 10, 2) := by decide +kernel
theorem dX4_weightOfRain_99 : decode cX4_weightOfRain 99 = .ok (.iload_n 3, 1) := by decide +kernel
theorem dX4_weightOfRain_100 : decode cX4_weightOfRain 100 = .ok (.isub, 1) := by decide +kernel
theorem dX4_weightOfRain_101 : decode cX4_weightOfRain 101 = .ok (.iload 8, 2) := by decide +kernel
theorem dX4_weightOfRain_103 : decode cX4_weightOfRain 103 = .ok (.invokestatic 84, 3) := by decide +kernel
theorem dX4_weightOfRain_106 : decode cX4_weightOfRain 106 = .ok (.invokestatic 130, 3) := by decide +kernel
theorem dX4_weightOfRain_109 : decode cX4_weightOfRain 109 = .ok (.imul, 1) := by decide +kernel
theorem dX4_weightOfRain_110 : decode cX4_weightOfRain 110 = .ok (.iadd, 1) := by decide +kernel
theorem dX4_weightOfRain_111 : decode cX4_weightOfRain 111 = .ok (.istore 5, 2) := by decide +kernel
theorem dX4_weightOfRain_113 : decode cX4_weightOfRain 113 = .ok (.iinc 6 1, 3) := by decide +kernel
theorem dX4_weightOfRain_116 : decode cX4_weightOfRain 116 = .ok (.goto (-96), 3) := by decide +kernel
theorem dX4_weightOfRain_119 : decode cX4_weightOfRain 119 = .ok (.iload 5, 2) := by decide +kernel
theorem dX4_weightOfRain_121 : decode cX4_weightOfRain 121 = .ok (.ireturn, 1) := by decide +kernel
theorem dX5_init_0 : decode cX5_init 0 = .ok (.aload_n 0, 1) := by decide +kernel
theorem dX5_init_1 : decode cX5_init 1 = .ok (.invokespecial 3, 3) := by decide +kernel
theorem dX5_init_4 : decode cX5_init 4 = .ok (.aload_n 0, 1) := by decide +kernel
theorem dX5_init_5 : decode cX5_init 5 = .ok (.new 9, 3) := by decide +kernel
theorem dX5_init_8 : decode cX5_init 8 = .ok (.dup, 1) := by decide +kernel
theorem dX5_init_9 : decode cX5_init 9 = .ok (.invokespecial 11, 3) := by decide +kernel
theorem dX5_init_12 : decode cX5_init 12 = .ok (.putfield 12, 3) := by decide +kernel
theorem dX5_init_15 : decode cX5_init 15 = .ok (.aload_n 0, 1) := by decide +kernel
theorem dX5_init_16 : decode cX5_init 16 = .ok (.new 16, 3) := by decide +kernel
theorem dX5_init_19 : decode cX5_init 19 = .ok (.dup, 1) := by decide +kernel
theorem dX5_init_20 : decode cX5_init 20 = .ok (.invokespecial 18, 3) := by decide +kernel
theorem dX5_init_23 : decode cX5_init 23 = .ok (.putfield 19, 3) := by decide +kernel
theorem dX5_init_26 : decode cX5_init 26 = .ok (.aload_n 0, 1) := by decide +kernel
theorem dX5_init_27 : decode cX5_init 27 = .ok (.new 9, 3) := by decide +kernel
theorem dX5_init_30 : decode cX5_init 30 = .ok (.dup, 1) := by decide +kernel
theorem dX5_init_31 : decode cX5_init 31 = .ok (.invokespecial 11, 3) := by decide +kernel
theorem dX5_init_34 : decode cX5_init 34 = .ok (.putfield 23, 3) := by decide +kernel
theorem dX5_init_37 : decode cX5_init 37 = .ok (.aload_n 0, 1) := by decide +kernel
theorem dX5_init_38 : decode cX5_init 38 = .ok (.new 16, 3) := by decide +kernel
theorem dX5_init_41 : decode cX5_init 41 = .ok (.dup, 1) := by decide +kernel
theorem dX5_init_42 : decode cX5_init 42 = .ok (.invokespecial 18, 3) := by decide +kernel
theorem dX5_init_45 : decode cX5_init 45 = .ok (.putfield 26, 3) := by decide +kernel
theorem dX5_init_48 : decode cX5_init 48 = .ok (.aload_n 0, 1) := by decide +kernel
theorem dX5_init_49 : decode cX5_init 49 = .ok (.iconst 0, 1) := by decide +kernel
theorem dX5_init_50 : decode cX5_init 50 = .ok (.putfield 29, 3) := by decide +kernel
theorem dX5_init_53 : decode cX5_init 53 = .ok (.aload_n 0, 1) := by decide +kernel
theorem dX5_init_54 : decode cX5_init 54 = .ok (.new 9, 3) := by decide +kernel
theorem dX5_init_57 : decode cX5_init 57 = .ok (.dup, 1) := by decide +kernel
theorem dX5_init_58 : decode cX5_init 58 = .ok (.invokespecial 11, 3) := by decide +kernel
theorem dX5_init_61 : decode cX5_init 61 = .ok (.putfield 33, 3) := by decide +kernel
theorem dX5_init_64 : decode cX5_init 64 = .ok (.aload_n 0, 1) := by decide +kernel
theorem dX5_init_65 : decode cX5_init 65 = .ok (.new 36, 3) := by decide +kernel
theorem dX5_init_68 : decode cX5_init 68 = .ok (.dup, 1) := by decide +kernel
theorem dX5_init_69 : decode cX5_init 69 = .ok (.invokespecial 38, 3) := by decide +kernel
theorem dX5_init_72 : decode cX5_init 72 = .ok (.putfield 39, 3) := by decide +kernel
theorem dX5_init_75 : decode cX5_init 75 = .ok (.aload_n 0, 1) := by decide +kernel
theorem dX5_init_76 : decode cX5_init 76 = .ok (.iconst 4, 1) := by decide +kernel
theorem dX5_init_77 : decode cX5_init 77 = .ok (.anewarray 43, 3) := by decide +kernel
theorem dX5_init_80 : decode cX5_init 80 = .ok (.putfield 45, 3) := by decide +kernel
theorem dX5_init_83 : decode cX5_init 83 = .ok (.iconst 0, 1) := by decide +kernel
theorem dX5_init_84 : decode cX5_init 84 = .ok (.istore_n 1, 1) := by decide +kernel
theorem dX5_init_85 : decode cX5_init 85 = .ok (.iload_n 1, 1) := by decide +kernel
theorem dX5_init_86 : decode cX5_init 86 = .ok (.iconst 4, 1) := by decide +kernel
theorem dX5_init_87 : decode cX5_init 87 = .ok (.if_icmp .ge 22, 3) := by decide +kernel
theorem dX5_init_90 : decode cX5_init 90 = .ok (.aload_n 0, 1) := by decide +kernel
theorem dX5_init_91 : decode cX5_init 91 = .ok (.getfield 45, 3) := by decide +kernel
theorem dX5_init_94 : decode cX5_init 94 = .ok (.iload_n 1, 1) := by decide +kernel
theorem dX5_init_95 : decode cX5_init 95 = .ok (.new 43, 3) := by decide +kernel
theorem dX5_init_98 : decode cX5_init 98 = .ok (.dup, 1) := by decide +kernel
theorem dX5_init_99 : decode cX5_init 99 = .ok (.invokespecial 49, 3) := by decide +kernel
theorem dX5_init_102 : decode cX5_init 102 = .ok (.aastore, 1) := by decide +kernel
theorem dX5_init_103 : decode cX5_init 103 = .ok (.iinc 1 1, 3) := by decide +kernel
theorem dX5_init_106 : decode cX5_init 106 = .ok (.goto (-21), 3) := by decide +kernel
theorem dX5_init_109 : decode cX5_init 109 = .ok (.return_, 1) := by decide +kernel
theorem dX5_person_0 : decode cX5_person 0 = .ok (.iload_n 1, 1) := by decide +kernel
theorem dX5_person_1 : decode cX5_person 1 = .ok (.iconst 0, 1) := by decide +kernel
theorem dX5_person_2 : decode cX5_person 2 = .ok (.iconst 4, 1) := by decide +kernel
theorem dX5_person_3 : decode cX5_person 3 = .ok (.invokestatic 50, 3) := by decide +kernel
theorem dX5_person_6 : decode cX5_person 6 = .ok (.ifCond .ne 5, 3) := by decide +kernel
theorem dX5_person_9 : decode cX5_person 9 = .ok (.iconst (-1), 1) := by decide +kernel
theorem dX5_person_10 : decode cX5_person 10 = .ok (.ireturn, 1) := by decide +kernel
theorem dX5_person_11 : decode cX5_person 11 = .ok (.aload_n 0, 1) := by decide +kernel
theorem dX5_person_12 : decode cX5_person 12 = .ok (.getfield 12, 3) := by decide +kernel
theorem dX5_person_15 : decode cX5_person 15 = .ok (.getfield 54, 3) := by decide +kernel
theorem dX5_person_18 : decode cX5_person 18 = .ok (.bipush 6, 2) := by decide +kernel
theorem dX5_person_20 : decode cX5_person 20 = .ok (.if_icmp .lt 6, 3) := by decide +kernel
theorem dX5_person_23 : decode cX5_person 23 = .ok (.bipush (-3), 2) := by decide +kernel
theorem dX5_person_25 : decode cX5_person 25 = .ok (.ireturn, 1) := by decide +kernel
theorem dX5_person_26 : decode cX5_person 26 = .ok (.aload_n 0, 1) := by decide +kernel
theorem dX5_person_27 : decode cX5_person 27 = .ok (.getfield 19, 3) := by decide +kernel
theorem dX5_person_30 : decode cX5_person 30 = .ok (.invokevirtual 58, 3) := by decide +kernel
theorem dX5_person_33 : decode cX5_person 33 = .ok (.aload_n 0, 1) := by decide +kernel
theorem dX5_person_34 : decode cX5_person 34 = .ok (.getfield 12, 3) := by decide +kernel
theorem dX5_person_37 : decode cX5_person 37 = .ok (.iload_n 1, 1) := by decide +kernel
theorem dX5_person_38 : decode cX5_person 38 = .ok (.bipush 50, 2) := by decide +kernel
theorem dX5_person_40 : decode cX5_person 40 = .ok (.invokevirtual 61, 3) := by decide +kernel
theorem dX5_person_43 : decode cX5_person 43 = .ok (.ireturn, 1) := by decide +kernel
theorem dX5_love_0 : decode cX5_love 0 = .ok (.aload_n 0, 1) := by decide +kernel
theorem dX5_love_1 : decode cX5_love 1 = .ok (.getfield 12, 3) := by decide +kernel
theorem dX5_love_4 : decode cX5_love 4 = .ok (.iload_n 1, 1) := by decide +kernel
theorem dX5_love_5 : decode cX5_love 5 = .ok (.invokevirtual 65, 3) := by decide +kernel
theorem dX5_love_8 : decode cX5_love 8 = .ok (.ifCond .eq 14, 3) := by decide +kernel
theorem dX5_love_11 : decode cX5_love 11 = .ok (.aload_n 0, 1) := by decide +kernel
theorem dX5_love_12 : decode cX5_love 12 = .ok (.getfield 12, 3) := by decide +kernel
theorem dX5_love_15 : decode cX5_love 15 = .ok (.iload_n 2, 1) := by decide +kernel
theorem dX5_love_16 : decode cX5_love 16 = .ok (.invokevirtual 65, 3) := by decide +kernel
theorem dX5_love_19 : decode cX5_love 19 = .ok (.ifCond .ne 5, 3) := by decide +kernel
theorem dX5_love_22 : decode cX5_love 22 = .ok (.iconst (-1), 1) := by decide +kernel
theorem dX5_love_23 : decode cX5_love 23 = .ok (.ireturn, 1) := by decide +kernel
theorem dX5_love_24 : decode cX5_love 24 = .ok (.aload_n 0, 1) := by decide +kernel
theorem dX5_love_25 : decode cX5_love 25 = .ok (.getfield 12, 3) := by decide +kernel
theorem dX5_love_28 : decode cX5_love 28 = .ok (.getfield 69, 3) := by decide +kernel
theorem dX5_love_31 : decode cX5_love 31 = .ok (.iload_n 1, 1) := by decide +kernel
theorem dX5_love_32 : decode cX5_love 32 = .ok (.iaload, 1) := by decide +kernel
theorem dX5_love_33 : decode cX5_love 33 = .ok (.istore_n 3, 1) := by decide +kernel
theorem dX5_love_34 : decode cX5_love 34 = .ok (.aload_n 0, 1) := by decide +kernel
theorem dX5_love_35 : decode cX5_love 35 = .ok (.getfield 12, 3) := by decide +kernel
theorem dX5_love_38 : decode cX5_love 38 = .ok (.getfield 69, 3) := by decide +kernel
theorem dX5_love_41 : decode cX5_love 41 = .ok (.iload_n 1, 1) := by decide +kernel
theorem dX5_love_42 : decode cX5_love 42 = .ok (.iload_n 2, 1) := by decide +kernel
theorem dX5_love_43 : decode cX5_love 43 = .ok (.iastore, 1) := by decide +kernel
theorem dX5_love_44 : decode cX5_love 44 = .ok (.iload_n 3, 1) := by decide +kernel
theorem dX5_love_45 : decode cX5_love 45 = .ok (.ireturn, 1) := by decide +kernel
theorem dX5_least_0 : decode cX5_least 0 = .ok (.iload_n 1, 1) := by decide +kernel
theorem dX5_least_1 : decode cX5_least 1 = .ok (.iconst 0, 1) := by decide +kernel
theorem dX5_least_2 : decode cX5_least 2 = .ok (.bipush 12, 2) := by decide +kernel
theorem dX5_least_4 : decode cX5_least 4 = .ok (.invokestatic 50, 3) := by decide +kernel
theorem dX5_least_7 : decode cX5_least 7 = .ok (.ifCond .ne 5, 3) := by decide +kernel
theorem dX5_least_10 : decode cX5_least 10 = .ok (.iconst (-1), 1) := by decide +kernel
theorem dX5_least_11 : decode cX5_least 11 = .ok (.ireturn, 1) := by decide +kernel
theorem dX5_least_12 : decode cX5_least 12 = .ok (.aload_n 0, 1) := by decide +kernel
theorem dX5_least_13 : decode cX5_least 13 = .ok (.getfield 12, 3) := by decide +kernel
theorem dX5_least_16 : decode cX5_least 16 = .ok (.getfield 73, 3) := by decide +kernel
theorem dX5_least_19 : decode cX5_least 19 = .ok (.istore_n 2, 1) := by decide +kernel
theorem dX5_least_20 : decode cX5_least 20 = .ok (.aload_n 0, 1) := by decide +kernel
theorem dX5_least_21 : decode cX5_least 21 = .ok (.getfield 12, 3) := by decide +kernel
theorem dX5_least_24 : decode cX5_least 24 = .ok (.iload_n 1, 1) := by decide +kernel
theorem dX5_least_25 : decode cX5_least 25 = .ok (.putfield 73, 3) := by decide +kernel
theorem dX5_least_28 : decode cX5_least 28 = .ok (.iload_n 2, 1) := by decide +kernel
theorem dX5_least_29 : decode cX5_least 29 = .ok (.ireturn, 1) := by decide +kernel
theorem dX5_of_0 : decode cX5_of 0 = .ok (.aload_n 0, 1) := by decide +kernel
theorem dX5_of_1 : decode cX5_of 1 = .ok (.getfield 12, 3) := by decide +kernel
theorem dX5_of_4 : decode cX5_of 4 = .ok (.iload_n 1, 1) := by decide +kernel
theorem dX5_of_5 : decode cX5_of 5 = .ok (.invokevirtual 65, 3) := by decide +kernel
theorem dX5_of_8 : decode cX5_of 8 = .ok (.ifCond .ne 5, 3) := by decide +kernel
theorem dX5_of_11 : decode cX5_of 11 = .ok (.iconst (-1), 1) := by decide +kernel
theorem dX5_of_12 : decode cX5_of 12 = .ok (.ireturn, 1) := by decide +kernel
theorem dX5_of_13 : decode cX5_of 13 = .ok (.iload_n 2, 1) := by decide +kernel
theorem dX5_of_14 : decode cX5_of 14 = .ok (.tableswitch 105 0 5 #[38, 48, 58, 71, 84, 96], 38) := by decide +kernel
theorem dX5_of_52 : decode cX5_of 52 = .ok (.aload_n 0, 1) := by decide +kernel
theorem dX5_of_53 : decode cX5_of 53 = .ok (.getfield 12, 3) := by decide +kernel
theorem dX5_of_56 : decode cX5_of 56 = .ok (.getfield 76, 3) := by decide +kernel
theorem dX5_of_59 : decode cX5_of 59 = .ok (.iload_n 1, 1) := by decide +kernel
theorem dX5_of_60 : decode cX5_of 60 = .ok (.iaload, 1) := by decide +kernel
theorem dX5_of_61 : decode cX5_of 61 = .ok (.ireturn, 1) := by decide +kernel
theorem dX5_of_62 : decode cX5_of 62 = .ok (.aload_n 0, 1) := by decide +kernel
theorem dX5_of_63 : decode cX5_of 63 = .ok (.getfield 12, 3) := by decide +kernel
theorem dX5_of_66 : decode cX5_of 66 = .ok (.getfield 69, 3) := by decide +kernel
theorem dX5_of_69 : decode cX5_of 69 = .ok (.iload_n 1, 1) := by decide +kernel
theorem dX5_of_70 : decode cX5_of 70 = .ok (.iaload, 1) := by decide +kernel
theorem dX5_of_71 : decode cX5_of 71 = .ok (.ireturn, 1) := by decide +kernel
theorem dX5_of_72 : decode cX5_of 72 = .ok (.aload_n 0, 1) := by decide +kernel
theorem dX5_of_73 : decode cX5_of 73 = .ok (.getfield 12, 3) := by decide +kernel
theorem dX5_of_76 : decode cX5_of 76 = .ok (.getfield 79, 3) := by decide +kernel
theorem dX5_of_79 : decode cX5_of 79 = .ok (.getfield 83, 3) := by decide +kernel
theorem dX5_of_82 : decode cX5_of 82 = .ok (.iload_n 1, 1) := by decide +kernel
theorem dX5_of_83 : decode cX5_of 83 = .ok (.iaload, 1) := by decide +kernel
theorem dX5_of_84 : decode cX5_of 84 = .ok (.ireturn, 1) := by decide +kernel
theorem dX5_of_85 : decode cX5_of 85 = .ok (.aload_n 0, 1) := by decide +kernel
theorem dX5_of_86 : decode cX5_of 86 = .ok (.getfield 12, 3) := by decide +kernel
theorem dX5_of_89 : decode cX5_of 89 = .ok (.getfield 79, 3) := by decide +kernel
theorem dX5_of_92 : decode cX5_of 92 = .ok (.getfield 88, 3) := by decide +kernel
theorem dX5_of_95 : decode cX5_of 95 = .ok (.iload_n 1, 1) := by decide +kernel
theorem dX5_of_96 : decode cX5_of 96 = .ok (.iaload, 1) := by decide +kernel
theorem dX5_of_97 : decode cX5_of 97 = .ok (.ireturn, 1) := by decide +kernel
theorem dX5_of_98 : decode cX5_of 98 = .ok (.aload_n 0, 1) := by decide +kernel
theorem dX5_of_99 : decode cX5_of 99 = .ok (.getfield 12, 3) := by decide +kernel
theorem dX5_of_102 : decode cX5_of 102 = .ok (.getfield 79, 3) := by decide +kernel
theorem dX5_of_105 : decode cX5_of 105 = .ok (.iload_n 1, 1) := by decide +kernel
theorem dX5_of_106 : decode cX5_of 106 = .ok (.invokevirtual 91, 3) := by decide +kernel
theorem dX5_of_109 : decode cX5_of 109 = .ok (.ireturn, 1) := by decide +kernel
theorem dX5_of_110 : decode cX5_of 110 = .ok (.aload_n 0, 1) := by decide +kernel
theorem dX5_of_111 : decode cX5_of 111 = .ok (.getfield 12, 3) := by decide +kernel
theorem dX5_of_114 : decode cX5_of 114 = .ok (.iload_n 1, 1) := by decide +kernel
theorem dX5_of_115 : decode cX5_of 115 = .ok (.invokevirtual 95, 3) := by decide +kernel
theorem dX5_of_118 : decode cX5_of 118 = .ok (.ireturn, 1) := by decide +kernel
theorem dX5_of_119 : decode cX5_of 119 = .ok (.iconst (-1), 1) := by decide +kernel
theorem dX5_of_120 : decode cX5_of 120 = .ok (.ireturn, 1) := by decide +kernel
theorem dX5_has_0 : decode cX5_has 0 = .ok (.aload_n 0, 1) := by decide +kernel
theorem dX5_has_1 : decode cX5_has 1 = .ok (.getfield 12, 3) := by decide +kernel
theorem dX5_has_4 : decode cX5_has 4 = .ok (.iload_n 1, 1) := by decide +kernel
theorem dX5_has_5 : decode cX5_has 5 = .ok (.invokevirtual 65, 3) := by decide +kernel
theorem dX5_has_8 : decode cX5_has 8 = .ok (.ifCond .eq 17, 3) := by decide +kernel
theorem dX5_has_11 : decode cX5_has 11 = .ok (.iload_n 2, 1) := by decide +kernel
theorem dX5_has_12 : decode cX5_has 12 = .ok (.invokestatic 98, 3) := by decide +kernel
theorem dX5_has_15 : decode cX5_has 15 = .ok (.ifCond .eq 10, 3) := by decide +kernel
theorem dX5_has_18 : decode cX5_has 18 = .ok (.iload_n 3, 1) := by decide +kernel
theorem dX5_has_19 : decode cX5_has 19 = .ok (.invokestatic 101, 3) := by decide +kernel
theorem dX5_has_22 : decode cX5_has 22 = .ok (.ifCond .ne 5, 3) := by decide +kernel
theorem dX5_has_25 : decode cX5_has 25 = .ok (.iconst (-1), 1) := by decide +kernel
theorem dX5_has_26 : decode cX5_has 26 = .ok (.ireturn, 1) := by decide +kernel
theorem dX5_has_27 : decode cX5_has 27 = .ok (.iload_n 3, 1) := by decide +kernel
theorem dX5_has_28 : decode cX5_has 28 = .ok (.ifCond .ne 18, 3) := by decide +kernel
theorem dX5_has_31 : decode cX5_has 31 = .ok (.aload_n 0, 1) := by decide +kernel
theorem dX5_has_32 : decode cX5_has 32 = .ok (.getfield 12, 3) := by decide +kernel
theorem dX5_has_35 : decode cX5_has 35 = .ok (.getfield 79, 3) := by decide +kernel
theorem dX5_has_38 : decode cX5_has 38 = .ok (.iload_n 1, 1) := by decide +kernel
theorem dX5_has_39 : decode cX5_has 39 = .ok (.iload_n 2, 1) := by decide +kernel
theorem dX5_has_40 : decode cX5_has 40 = .ok (.invokevirtual 104, 3) := by decide +kernel
theorem dX5_has_43 : decode cX5_has 43 = .ok (.goto 12, 3) := by decide +kernel
theorem dX5_has_46 : decode cX5_has 46 = .ok (.aload_n 0, 1) := by decide +kernel
theorem dX5_has_47 : decode cX5_has 47 = .ok (.getfield 12, 3) := by decide +kernel
theorem dX5_has_50 : decode cX5_has 50 = .ok (.iload_n 1, 1) := by decide +kernel
theorem dX5_has_51 : decode cX5_has 51 = .ok (.iload_n 2, 1) := by decide +kernel
theorem dX5_has_52 : decode cX5_has 52 = .ok (.invokevirtual 107, 3) := by decide +kernel
theorem dX5_has_55 : decode cX5_has 55 = .ok (.ireturn, 1) := by decide +kernel
theorem dX5_at_0 : decode cX5_at 0 = .ok (.iload_n 1, 1) := by decide +kernel
theorem dX5_at_1 : decode cX5_at 1 = .ok (.invokestatic 110, 3) := by decide +kernel
theorem dX5_at_4 : decode cX5_at 4 = .ok (.ifCond .eq 10, 3) := by decide +kernel
theorem dX5_at_7 : decode cX5_at 7 = .ok (.iload_n 2, 1) := by decide +kernel
theorem dX5_at_8 : decode cX5_at 8 = .ok (.invokestatic 101, 3) := by decide +kernel
theorem dX5_at_11 : decode cX5_at 11 = .ok (.ifCond .ne 5, 3) := by decide +kernel
theorem dX5_at_14 : decode cX5_at 14 = .ok (.iconst (-1), 1) := by decide +kernel
theorem dX5_at_15 : decode cX5_at 15 = .ok (.ireturn, 1) := by decide +kernel
theorem dX5_at_16 : decode cX5_at 16 = .ok (.iload_n 2, 1) := by decide +kernel
theorem dX5_at_17 : decode cX5_at 17 = .ok (.ifCond .ne 16, 3) := by decide +kernel
theorem dX5_at_20 : decode cX5_at 20 = .ok (.aload_n 0, 1) := by decide +kernel
theorem dX5_at_21 : decode cX5_at 21 = .ok (.getfield 12, 3) := by decide +kernel
theorem dX5_at_24 : decode cX5_at 24 = .ok (.getfield 79, 3) := by decide +kernel
theorem dX5_at_27 : decode cX5_at 27 = .ok (.getfield 113, 3) := by decide +kernel
theorem dX5_at_30 : decode cX5_at 30 = .ok (.goto 13, 3) := by decide +kernel
theorem dX5_at_33 : decode cX5_at 33 = .ok (.aload_n 0, 1) := by decide +kernel
theorem dX5_at_34 : decode cX5_at 34 = .ok (.getfield 12, 3) := by decide +kernel
theorem dX5_at_37 : decode cX5_at 37 = .ok (.getfield 79, 3) := by decide +kernel
theorem dX5_at_40 : decode cX5_at 40 = .ok (.getfield 116, 3) := by decide +kernel
theorem dX5_at_43 : decode cX5_at 43 = .ok (.iload_n 1, 1) := by decide +kernel
theorem dX5_at_44 : decode cX5_at 44 = .ok (.invokestatic 119, 3) := by decide +kernel
theorem dX5_at_47 : decode cX5_at 47 = .ok (.ifCond .eq 7, 3) := by decide +kernel
theorem dX5_at_50 : decode cX5_at 50 = .ok (.iconst 1, 1) := by decide +kernel
theorem dX5_at_51 : decode cX5_at 51 = .ok (.goto 4, 3) := by decide +kernel
theorem dX5_at_54 : decode cX5_at 54 = .ok (.iconst 0, 1) := by decide +kernel
theorem dX5_at_55 : decode cX5_at 55 = .ok (.ireturn, 1) := by decide +kernel
theorem dX5_type_0 : decode cX5_type 0 = .ok (.iload_n 1, 1) := by decide +kernel
theorem dX5_type_1 : decode cX5_type 1 = .ok (.bipush 32, 2) := by decide +kernel
theorem dX5_type_3 : decode cX5_type 3 = .ok (.bipush 126, 2) := by decide +kernel
theorem dX5_type_5 : decode cX5_type 5 = .ok (.invokestatic 50, 3) := by decide +kernel
theorem dX5_type_8 : decode cX5_type 8 = .ok (.ifCond .ne 5, 3) := by decide +kernel
theorem dX5_type_11 : decode cX5_type 11 = .ok (.iconst (-1), 1) := by decide +kernel
theorem dX5_type_12 : decode cX5_type 12 = .ok (.ireturn, 1) := by decide +kernel
theorem dX5_type_13 : decode cX5_type 13 = .ok (.aload_n 0, 1) := by decide +kernel
theorem dX5_type_14 : decode cX5_type 14 = .ok (.getfield 39, 3) := by decide +kernel
theorem dX5_type_17 : decode cX5_type 17 = .ok (.getfield 123, 3) := by decide +kernel
theorem dX5_type_20 : decode cX5_type 20 = .ok (.bipush 100, 2) := by decide +kernel
theorem dX5_type_22 : decode cX5_type 22 = .ok (.if_icmp .lt 6, 3) := by decide +kernel
theorem dX5_type_25 : decode cX5_type 25 = .ok (.bipush (-3), 2) := by decide +kernel
theorem dX5_type_27 : decode cX5_type 27 = .ok (.ireturn, 1) := by decide +kernel
theorem dX5_type_28 : decode cX5_type 28 = .ok (.aload_n 0, 1) := by decide +kernel
theorem dX5_type_29 : decode cX5_type 29 = .ok (.getfield 39, 3) := by decide +kernel
theorem dX5_type_32 : decode cX5_type 32 = .ok (.iload_n 1, 1) := by decide +kernel
theorem dX5_type_33 : decode cX5_type 33 = .ok (.i2c, 1) := by decide +kernel
theorem dX5_type_34 : decode cX5_type 34 = .ok (.invokevirtual 126, 3) := by decide +kernel
theorem dX5_type_37 : decode cX5_type 37 = .ok (.ireturn, 1) := by decide +kernel
theorem dX5_read_0 : decode cX5_read 0 = .ok (.aload_n 0, 1) := by decide +kernel
theorem dX5_read_1 : decode cX5_read 1 = .ok (.getfield 33, 3) := by decide +kernel
theorem dX5_read_4 : decode cX5_read 4 = .ok (.aload_n 0, 1) := by decide +kernel
theorem dX5_read_5 : decode cX5_read 5 = .ok (.getfield 12, 3) := by decide +kernel
theorem dX5_read_8 : decode cX5_read 8 = .ok (.invokevirtual 130, 3) := by decide +kernel
theorem dX5_read_11 : decode cX5_read 11 = .ok (.aload_n 0, 1) := by decide +kernel
theorem dX5_read_12 : decode cX5_read 12 = .ok (.getfield 39, 3) := by decide +kernel
theorem dX5_read_15 : decode cX5_read 15 = .ok (.aload_n 0, 1) := by decide +kernel
theorem dX5_read_16 : decode cX5_read 16 = .ok (.getfield 33, 3) := by decide +kernel
theorem dX5_read_19 : decode cX5_read 19 = .ok (.invokevirtual 134, 3) := by decide +kernel
theorem dX5_read_22 : decode cX5_read 22 = .ok (.istore_n 1, 1) := by decide +kernel
theorem dX5_read_23 : decode cX5_read 23 = .ok (.aload_n 0, 1) := by decide +kernel
theorem dX5_read_24 : decode cX5_read 24 = .ok (.getfield 39, 3) := by decide +kernel
theorem dX5_read_27 : decode cX5_read 27 = .ok (.getfield 138, 3) := by decide +kernel
theorem dX5_read_30 : decode cX5_read 30 = .ok (.istore_n 2, 1) := by decide +kernel
theorem dX5_read_31 : decode cX5_read 31 = .ok (.aload_n 0, 1) := by decide +kernel
theorem dX5_read_32 : decode cX5_read 32 = .ok (.getfield 39, 3) := by decide +kernel
theorem dX5_read_35 : decode cX5_read 35 = .ok (.invokevirtual 141, 3) := by decide +kernel
theorem dX5_read_38 : decode cX5_read 38 = .ok (.iload_n 1, 1) := by decide +kernel
theorem dX5_read_39 : decode cX5_read 39 = .ok (.ifCond .ne 8, 3) := by decide +kernel
theorem dX5_read_42 : decode cX5_read 42 = .ok (.bipush (-20), 2) := by decide +kernel
theorem dX5_read_44 : decode cX5_read 44 = .ok (.iload_n 2, 1) := by decide +kernel
theorem dX5_read_45 : decode cX5_read 45 = .ok (.isub, 1) := by decide +kernel
theorem dX5_read_46 : decode cX5_read 46 = .ok (.ireturn, 1) := by decide +kernel
theorem dX5_read_47 : decode cX5_read 47 = .ok (.aload_n 0, 1) := by decide +kernel
theorem dX5_read_48 : decode cX5_read 48 = .ok (.getfield 12, 3) := by decide +kernel
theorem dX5_read_51 : decode cX5_read 51 = .ok (.aload_n 0, 1) := by decide +kernel
theorem dX5_read_52 : decode cX5_read 52 = .ok (.getfield 33, 3) := by decide +kernel
theorem dX5_read_55 : decode cX5_read 55 = .ok (.invokevirtual 130, 3) := by decide +kernel
theorem dX5_read_58 : decode cX5_read 58 = .ok (.aload_n 0, 1) := by decide +kernel
theorem dX5_read_59 : decode cX5_read 59 = .ok (.getfield 19, 3) := by decide +kernel
theorem dX5_read_62 : decode cX5_read 62 = .ok (.invokevirtual 58, 3) := by decide +kernel
theorem dX5_read_65 : decode cX5_read 65 = .ok (.aload_n 0, 1) := by decide +kernel
theorem dX5_read_66 : decode cX5_read 66 = .ok (.getfield 12, 3) := by decide +kernel
theorem dX5_read_69 : decode cX5_read 69 = .ok (.getfield 54, 3) := by decide +kernel
theorem dX5_read_72 : decode cX5_read 72 = .ok (.ireturn, 1) := by decide +kernel
theorem dX5_count_0 : decode cX5_count 0 = .ok (.iload_n 1, 1) := by decide +kernel
theorem dX5_count_1 : decode cX5_count 1 = .ok (.tableswitch 105 0 6 #[43, 51, 59, 70, 81, 89, 97], 43) := by decide +kernel
theorem dX5_count_44 : decode cX5_count 44 = .ok (.aload_n 0, 1) := by decide +kernel
theorem dX5_count_45 : decode cX5_count 45 = .ok (.getfield 12, 3) := by decide +kernel
theorem dX5_count_48 : decode cX5_count 48 = .ok (.getfield 54, 3) := by decide +kernel
theorem dX5_count_51 : decode cX5_count 51 = .ok (.ireturn, 1) := by decide +kernel
theorem dX5_count_52 : decode cX5_count 52 = .ok (.aload_n 0, 1) := by decide +kernel
theorem dX5_count_53 : decode cX5_count 53 = .ok (.getfield 12, 3) := by decide +kernel
theorem dX5_count_56 : decode cX5_count 56 = .ok (.getfield 73, 3) := by decide +kernel
theorem dX5_count_59 : decode cX5_count 59 = .ok (.ireturn, 1) := by decide +kernel
theorem dX5_count_60 : decode cX5_count 60 = .ok (.aload_n 0, 1) := by decide +kernel
theorem dX5_count_61 : decode cX5_count 61 = .ok (.getfield 12, 3) := by decide +kernel
theorem dX5_count_64 : decode cX5_count 64 = .ok (.getfield 79, 3) := by decide +kernel
theorem dX5_count_67 : decode cX5_count 67 = .ok (.getfield 113, 3) := by decide +kernel
theorem dX5_count_70 : decode cX5_count 70 = .ok (.ireturn, 1) := by decide +kernel
theorem dX5_count_71 : decode cX5_count 71 = .ok (.aload_n 0, 1) := by decide +kernel
theorem dX5_count_72 : decode cX5_count 72 = .ok (.getfield 12, 3) := by decide +kernel
theorem dX5_count_75 : decode cX5_count 75 = .ok (.getfield 79, 3) := by decide +kernel
theorem dX5_count_78 : decode cX5_count 78 = .ok (.getfield 116, 3) := by decide +kernel
theorem dX5_count_81 : decode cX5_count 81 = .ok (.ireturn, 1) := by decide +kernel
theorem dX5_count_82 : decode cX5_count 82 = .ok (.aload_n 0, 1) := by decide +kernel
theorem dX5_count_83 : decode cX5_count 83 = .ok (.getfield 12, 3) := by decide +kernel
theorem dX5_count_86 : decode cX5_count 86 = .ok (.invokevirtual 144, 3) := by decide +kernel
theorem dX5_count_89 : decode cX5_count 89 = .ok (.ireturn, 1) := by decide +kernel
theorem dX5_count_90 : decode cX5_count 90 = .ok (.aload_n 0, 1) := by decide +kernel
theorem dX5_count_91 : decode cX5_count 91 = .ok (.getfield 12, 3) := by decide +kernel
theorem dX5_count_94 : decode cX5_count 94 = .ok (.invokevirtual 148, 3) := by decide +kernel
theorem dX5_count_97 : decode cX5_count 97 = .ok (.ireturn, 1) := by decide +kernel
theorem dX5_count_98 : decode cX5_count 98 = .ok (.aload_n 0, 1) := by decide +kernel
theorem dX5_count_99 : decode cX5_count 99 = .ok (.getfield 19, 3) := by decide +kernel
theorem dX5_count_102 : decode cX5_count 102 = .ok (.getfield 151, 3) := by decide +kernel
theorem dX5_count_105 : decode cX5_count 105 = .ok (.ireturn, 1) := by decide +kernel
theorem dX5_count_106 : decode cX5_count 106 = .ok (.iconst (-1), 1) := by decide +kernel
theorem dX5_count_107 : decode cX5_count 107 = .ok (.ireturn, 1) := by decide +kernel
theorem dX5_sell_0 : decode cX5_sell 0 = .ok (.aload_n 0, 1) := by decide +kernel
theorem dX5_sell_1 : decode cX5_sell 1 = .ok (.getfield 12, 3) := by decide +kernel
theorem dX5_sell_4 : decode cX5_sell 4 = .ok (.iload_n 1, 1) := by decide +kernel
theorem dX5_sell_5 : decode cX5_sell 5 = .ok (.iload_n 2, 1) := by decide +kernel
theorem dX5_sell_6 : decode cX5_sell 6 = .ok (.invokevirtual 154, 3) := by decide +kernel
theorem dX5_sell_9 : decode cX5_sell 9 = .ok (.ifCond .eq 21, 3) := by decide +kernel
theorem dX5_sell_12 : decode cX5_sell 12 = .ok (.iload_n 3, 1) := by decide +kernel
theorem dX5_sell_13 : decode cX5_sell 13 = .ok (.invokestatic 98, 3) := by decide +kernel
theorem dX5_sell_16 : decode cX5_sell 16 = .ok (.ifCond .eq 14, 3) := by decide +kernel
theorem dX5_sell_19 : decode cX5_sell 19 = .ok (.iload 4, 2) := by decide +kernel
theorem dX5_sell_21 : decode cX5_sell 21 = .ok (.iconst 0, 1) := by decide +kernel
theorem dX5_sell_22 : decode cX5_sell 22 = .ok (.bipush 99, 2) := by decide +kernel
theorem dX5_sell_24 : decode cX5_sell 24 = .ok (.invokestatic 50, 3) := by decide +kernel
theorem dX5_sell_27 : decode cX5_sell 27 = .ok (.ifCond .ne 5, 3) := by decide +kernel
theorem dX5_sell_30 : decode cX5_sell 30 = .ok (.iconst (-1), 1) := by decide +kernel
theorem dX5_sell_31 : decode cX5_sell 31 = .ok (.ireturn, 1) := by decide +kernel
theorem dX5_sell_32 : decode cX5_sell 32 = .ok (.aload_n 0, 1) := by decide +kernel
theorem dX5_sell_33 : decode cX5_sell 33 = .ok (.getfield 12, 3) := by decide +kernel
theorem dX5_sell_36 : decode cX5_sell 36 = .ok (.iload_n 1, 1) := by decide +kernel
theorem dX5_sell_37 : decode cX5_sell 37 = .ok (.iload_n 2, 1) := by decide +kernel
theorem dX5_sell_38 : decode cX5_sell 38 = .ok (.iload_n 3, 1) := by decide +kernel
theorem dX5_sell_39 : decode cX5_sell 39 = .ok (.iload 4, 2) := by decide +kernel
theorem dX5_sell_41 : decode cX5_sell 41 = .ok (.invokevirtual 157, 3) := by decide +kernel
theorem dX5_sell_44 : decode cX5_sell 44 = .ok (.ifCond .ne 6, 3) := by decide +kernel
theorem dX5_sell_47 : decode cX5_sell 47 = .ok (.bipush (-2), 2) := by decide +kernel
theorem dX5_sell_49 : decode cX5_sell 49 = .ok (.ireturn, 1) := by decide +kernel
theorem dX5_sell_50 : decode cX5_sell 50 = .ok (.aload_n 0, 1) := by decide +kernel
theorem dX5_sell_51 : decode cX5_sell 51 = .ok (.getfield 19, 3) := by decide +kernel
theorem dX5_sell_54 : decode cX5_sell 54 = .ok (.aload_n 0, 1) := by decide +kernel
theorem dX5_sell_55 : decode cX5_sell 55 = .ok (.getfield 12, 3) := by decide +kernel
theorem dX5_sell_58 : decode cX5_sell 58 = .ok (.getfield 79, 3) := by decide +kernel
theorem dX5_sell_61 : decode cX5_sell 61 = .ok (.invokevirtual 161, 3) := by decide +kernel
theorem dX5_sell_64 : decode cX5_sell 64 = .ok (.aload_n 0, 1) := by decide +kernel
theorem dX5_sell_65 : decode cX5_sell 65 = .ok (.getfield 12, 3) := by decide +kernel
theorem dX5_sell_68 : decode cX5_sell 68 = .ok (.getfield 79, 3) := by decide +kernel
theorem dX5_sell_71 : decode cX5_sell 71 = .ok (.iload_n 1, 1) := by decide +kernel
theorem dX5_sell_72 : decode cX5_sell 72 = .ok (.iload_n 2, 1) := by decide +kernel
theorem dX5_sell_73 : decode cX5_sell 73 = .ok (.iload_n 3, 1) := by decide +kernel
theorem dX5_sell_74 : decode cX5_sell 74 = .ok (.invokevirtual 165, 3) := by decide +kernel
theorem dX5_sell_77 : decode cX5_sell 77 = .ok (.aload_n 0, 1) := by decide +kernel
theorem dX5_sell_78 : decode cX5_sell 78 = .ok (.getfield 12, 3) := by decide +kernel
theorem dX5_sell_81 : decode cX5_sell 81 = .ok (.getfield 79, 3) := by decide +kernel
theorem dX5_sell_84 : decode cX5_sell 84 = .ok (.iload_n 2, 1) := by decide +kernel
theorem dX5_sell_85 : decode cX5_sell 85 = .ok (.iload_n 1, 1) := by decide +kernel
theorem dX5_sell_86 : decode cX5_sell 86 = .ok (.iload 4, 2) := by decide +kernel
theorem dX5_sell_88 : decode cX5_sell 88 = .ok (.invokevirtual 169, 3) := by decide +kernel
theorem dX5_sell_91 : decode cX5_sell 91 = .ok (.aload_n 0, 1) := by decide +kernel
theorem dX5_sell_92 : decode cX5_sell 92 = .ok (.getfield 12, 3) := by decide +kernel
theorem dX5_sell_95 : decode cX5_sell 95 = .ok (.getfield 79, 3) := by decide +kernel
theorem dX5_sell_98 : decode cX5_sell 98 = .ok (.getfield 83, 3) := by decide +kernel
theorem dX5_sell_101 : decode cX5_sell 101 = .ok (.iload_n 1, 1) := by decide +kernel
theorem dX5_sell_102 : decode cX5_sell 102 = .ok (.iaload, 1) := by decide +kernel
theorem dX5_sell_103 : decode cX5_sell 103 = .ok (.ireturn, 1) := by decide +kernel
theorem dX5_seize_0 : decode cX5_seize 0 = .ok (.aload_n 0, 1) := by decide +kernel
theorem dX5_seize_1 : decode cX5_seize 1 = .ok (.getfield 12, 3) := by decide +kernel
theorem dX5_seize_4 : decode cX5_seize 4 = .ok (.iload_n 1, 1) := by decide +kernel
theorem dX5_seize_5 : decode cX5_seize 5 = .ok (.iload_n 2, 1) := by decide +kernel
theorem dX5_seize_6 : decode cX5_seize 6 = .ok (.invokevirtual 154, 3) := by decide +kernel
theorem dX5_seize_9 : decode cX5_seize 9 = .ok (.ifCond .ne 5, 3) := by decide +kernel
theorem dX5_seize_12 : decode cX5_seize 12 = .ok (.iconst (-1), 1) := by decide +kernel
theorem dX5_seize_13 : decode cX5_seize 13 = .ok (.ireturn, 1) := by decide +kernel
theorem dX5_seize_14 : decode cX5_seize 14 = .ok (.aload_n 0, 1) := by decide +kernel
theorem dX5_seize_15 : decode cX5_seize 15 = .ok (.getfield 12, 3) := by decide +kernel
theorem dX5_seize_18 : decode cX5_seize 18 = .ok (.iload_n 1, 1) := by decide +kernel
theorem dX5_seize_19 : decode cX5_seize 19 = .ok (.invokevirtual 172, 3) := by decide +kernel
theorem dX5_seize_22 : decode cX5_seize 22 = .ok (.istore_n 3, 1) := by decide +kernel
theorem dX5_seize_23 : decode cX5_seize 23 = .ok (.iload_n 3, 1) := by decide +kernel
theorem dX5_seize_24 : decode cX5_seize 24 = .ok (.bipush (-4), 2) := by decide +kernel
theorem dX5_seize_26 : decode cX5_seize 26 = .ok (.if_icmp .ne 6, 3) := by decide +kernel
theorem dX5_seize_29 : decode cX5_seize 29 = .ok (.bipush (-2), 2) := by decide +kernel
theorem dX5_seize_31 : decode cX5_seize 31 = .ok (.ireturn, 1) := by decide +kernel
theorem dX5_seize_32 : decode cX5_seize 32 = .ok (.aload_n 0, 1) := by decide +kernel
theorem dX5_seize_33 : decode cX5_seize 33 = .ok (.getfield 19, 3) := by decide +kernel
theorem dX5_seize_36 : decode cX5_seize 36 = .ok (.aload_n 0, 1) := by decide +kernel
theorem dX5_seize_37 : decode cX5_seize 37 = .ok (.getfield 12, 3) := by decide +kernel
theorem dX5_seize_40 : decode cX5_seize 40 = .ok (.getfield 79, 3) := by decide +kernel
theorem dX5_seize_43 : decode cX5_seize 43 = .ok (.invokevirtual 161, 3) := by decide +kernel
theorem dX5_seize_46 : decode cX5_seize 46 = .ok (.aload_n 0, 1) := by decide +kernel
theorem dX5_seize_47 : decode cX5_seize 47 = .ok (.getfield 12, 3) := by decide +kernel
theorem dX5_seize_50 : decode cX5_seize 50 = .ok (.getfield 79, 3) := by decide +kernel
theorem dX5_seize_53 : decode cX5_seize 53 = .ok (.iload_n 1, 1) := by decide +kernel
theorem dX5_seize_54 : decode cX5_seize 54 = .ok (.iload_n 2, 1) := by decide +kernel
theorem dX5_seize_55 : decode cX5_seize 55 = .ok (.iload_n 3, 1) := by decide +kernel
theorem dX5_seize_56 : decode cX5_seize 56 = .ok (.invokevirtual 165, 3) := by decide +kernel
theorem dX5_seize_59 : decode cX5_seize 59 = .ok (.iload_n 3, 1) := by decide +kernel
theorem dX5_seize_60 : decode cX5_seize 60 = .ok (.ireturn, 1) := by decide +kernel
theorem dX5_give_0 : decode cX5_give 0 = .ok (.aload_n 0, 1) := by decide +kernel
theorem dX5_give_1 : decode cX5_give 1 = .ok (.getfield 12, 3) := by decide +kernel
theorem dX5_give_4 : decode cX5_give 4 = .ok (.iload_n 1, 1) := by decide +kernel
theorem dX5_give_5 : decode cX5_give 5 = .ok (.iload_n 2, 1) := by decide +kernel
theorem dX5_give_6 : decode cX5_give 6 = .ok (.invokevirtual 154, 3) := by decide +kernel
theorem dX5_give_9 : decode cX5_give 9 = .ok (.ifCond .eq 13, 3) := by decide +kernel
theorem dX5_give_12 : decode cX5_give 12 = .ok (.iload_n 3, 1) := by decide +kernel
theorem dX5_give_13 : decode cX5_give 13 = .ok (.iconst 1, 1) := by decide +kernel
theorem dX5_give_14 : decode cX5_give 14 = .ok (.bipush 99, 2) := by decide +kernel
theorem dX5_give_16 : decode cX5_give 16 = .ok (.invokestatic 50, 3) := by decide +kernel
theorem dX5_give_19 : decode cX5_give 19 = .ok (.ifCond .ne 5, 3) := by decide +kernel
theorem dX5_give_22 : decode cX5_give 22 = .ok (.iconst (-1), 1) := by decide +kernel
theorem dX5_give_23 : decode cX5_give 23 = .ok (.ireturn, 1) := by decide +kernel
theorem dX5_give_24 : decode cX5_give 24 = .ok (.aload_n 0, 1) := by decide +kernel
theorem dX5_give_25 : decode cX5_give 25 = .ok (.getfield 12, 3) := by decide +kernel
theorem dX5_give_28 : decode cX5_give 28 = .ok (.getfield 79, 3) := by decide +kernel
theorem dX5_give_31 : decode cX5_give 31 = .ok (.getfield 83, 3) := by decide +kernel
theorem dX5_give_34 : decode cX5_give 34 = .ok (.iload_n 1, 1) := by decide +kernel
theorem dX5_give_35 : decode cX5_give 35 = .ok (.iaload, 1) := by decide +kernel
theorem dX5_give_36 : decode cX5_give 36 = .ok (.iload_n 3, 1) := by decide +kernel
theorem dX5_give_37 : decode cX5_give 37 = .ok (.if_icmp .ge 6, 3) := by decide +kernel
theorem dX5_give_40 : decode cX5_give 40 = .ok (.bipush (-2), 2) := by decide +kernel
theorem dX5_give_42 : decode cX5_give 42 = .ok (.ireturn, 1) := by decide +kernel
theorem dX5_give_43 : decode cX5_give 43 = .ok (.aload_n 0, 1) := by decide +kernel
theorem dX5_give_44 : decode cX5_give 44 = .ok (.getfield 19, 3) := by decide +kernel
theorem dX5_give_47 : decode cX5_give 47 = .ok (.aload_n 0, 1) := by decide +kernel
theorem dX5_give_48 : decode cX5_give 48 = .ok (.getfield 12, 3) := by decide +kernel
theorem dX5_give_51 : decode cX5_give 51 = .ok (.getfield 79, 3) := by decide +kernel
theorem dX5_give_54 : decode cX5_give 54 = .ok (.invokevirtual 161, 3) := by decide +kernel
theorem dX5_give_57 : decode cX5_give 57 = .ok (.aload_n 0, 1) := by decide +kernel
theorem dX5_give_58 : decode cX5_give 58 = .ok (.getfield 12, 3) := by decide +kernel
theorem dX5_give_61 : decode cX5_give 61 = .ok (.getfield 79, 3) := by decide +kernel
theorem dX5_give_64 : decode cX5_give 64 = .ok (.iload_n 1, 1) := by decide +kernel
theorem dX5_give_65 : decode cX5_give 65 = .ok (.iload_n 2, 1) := by decide +kernel
theorem dX5_give_66 : decode cX5_give 66 = .ok (.iload_n 3, 1) := by decide +kernel
theorem dX5_give_67 : decode cX5_give 67 = .ok (.invokevirtual 169, 3) := by decide +kernel
theorem dX5_give_70 : decode cX5_give 70 = .ok (.aload_n 0, 1) := by decide +kernel
theorem dX5_give_71 : decode cX5_give 71 = .ok (.getfield 12, 3) := by decide +kernel
theorem dX5_give_74 : decode cX5_give 74 = .ok (.getfield 79, 3) := by decide +kernel
theorem dX5_give_77 : decode cX5_give 77 = .ok (.getfield 83, 3) := by decide +kernel
theorem dX5_give_80 : decode cX5_give 80 = .ok (.iload_n 1, 1) := by decide +kernel
theorem dX5_give_81 : decode cX5_give 81 = .ok (.iaload, 1) := by decide +kernel
theorem dX5_give_82 : decode cX5_give 82 = .ok (.ireturn, 1) := by decide +kernel
theorem dX5_make_0 : decode cX5_make 0 = .ok (.iload_n 1, 1) := by decide +kernel
theorem dX5_make_1 : decode cX5_make 1 = .ok (.invokestatic 110, 3) := by decide +kernel
theorem dX5_make_4 : decode cX5_make 4 = .ok (.ifCond .eq 17, 3) := by decide +kernel
theorem dX5_make_7 : decode cX5_make 7 = .ok (.iload_n 2, 1) := by decide +kernel
theorem dX5_make_8 : decode cX5_make 8 = .ok (.invokestatic 101, 3) := by decide +kernel
theorem dX5_make_11 : decode cX5_make 11 = .ok (.ifCond .eq 10, 3) := by decide +kernel
theorem dX5_make_14 : decode cX5_make 14 = .ok (.iload_n 3, 1) := by decide +kernel
theorem dX5_make_15 : decode cX5_make 15 = .ok (.invokestatic 101, 3) := by decide +kernel
theorem dX5_make_18 : decode cX5_make 18 = .ok (.ifCond .ne 5, 3) := by decide +kernel
theorem dX5_make_21 : decode cX5_make 21 = .ok (.iconst (-1), 1) := by decide +kernel
theorem dX5_make_22 : decode cX5_make 22 = .ok (.ireturn, 1) := by decide +kernel
theorem dX5_make_23 : decode cX5_make 23 = .ok (.aload_n 0, 1) := by decide +kernel
theorem dX5_make_24 : decode cX5_make 24 = .ok (.getfield 12, 3) := by decide +kernel
theorem dX5_make_27 : decode cX5_make 27 = .ok (.getfield 79, 3) := by decide +kernel
theorem dX5_make_30 : decode cX5_make 30 = .ok (.astore 4, 2) := by decide +kernel
theorem dX5_make_32 : decode cX5_make 32 = .ok (.iload_n 2, 1) := by decide +kernel
theorem dX5_make_33 : decode cX5_make 33 = .ok (.ifCond .ne 11, 3) := by decide +kernel
theorem dX5_make_36 : decode cX5_make 36 = .ok (.aload 4, 2) := by decide +kernel
theorem dX5_make_38 : decode cX5_make 38 = .ok (.getfield 113, 3) := by decide +kernel
theorem dX5_make_41 : decode cX5_make 41 = .ok (.goto 8, 3) := by decide +kernel
theorem dX5_make_44 : decode cX5_make 44 = .ok (.aload 4, 2) := by decide +kernel
theorem dX5_make_46 : decode cX5_make 46 = .ok (.getfield 116, 3) := by decide +kernel
theorem dX5_make_49 : decode cX5_make 49 = .ok (.istore 5, 2) := by decide +kernel
theorem dX5_make_51 : decode cX5_make 51 = .ok (.iload 5, 2) := by decide +kernel
theorem dX5_make_53 : decode cX5_make 53 = .ok (.iload_n 1, 1) := by decide +kernel
theorem dX5_make_54 : decode cX5_make 54 = .ok (.invokestatic 119, 3) := by decide +kernel
theorem dX5_make_57 : decode cX5_make 57 = .ok (.iload_n 3, 1) := by decide +kernel
theorem dX5_make_58 : decode cX5_make 58 = .ok (.iconst 1, 1) := by decide +kernel
theorem dX5_make_59 : decode cX5_make 59 = .ok (.if_icmp .ne 7, 3) := by decide +kernel
theorem dX5_make_62 : decode cX5_make 62 = .ok (.iconst 1, 1) := by decide +kernel
theorem dX5_make_63 : decode cX5_make 63 = .ok (.goto 4, 3) := by decide +kernel
theorem dX5_make_66 : decode cX5_make 66 = .ok (.iconst 0, 1) := by decide +kernel
theorem dX5_make_67 : decode cX5_make 67 = .ok (.if_icmp .ne 6, 3) := by decide +kernel
theorem dX5_make_70 : decode cX5_make 70 = .ok (.bipush (-2), 2) := by decide +kernel
theorem dX5_make_72 : decode cX5_make 72 = .ok (.ireturn, 1) := by decide +kernel
theorem dX5_make_73 : decode cX5_make 73 = .ok (.aload_n 0, 1) := by decide +kernel
theorem dX5_make_74 : decode cX5_make 74 = .ok (.getfield 19, 3) := by decide +kernel
theorem dX5_make_77 : decode cX5_make 77 = .ok (.aload 4, 2) := by decide +kernel
theorem dX5_make_79 : decode cX5_make 79 = .ok (.invokevirtual 161, 3) := by decide +kernel
theorem dX5_make_82 : decode cX5_make 82 = .ok (.iload 5, 2) := by decide +kernel
theorem dX5_make_84 : decode cX5_make 84 = .ok (.iconst 1, 1) := by decide +kernel
theorem dX5_make_85 : decode cX5_make 85 = .ok (.iload_n 1, 1) := by decide +kernel
theorem dX5_make_86 : decode cX5_make 86 = .ok (.ishl, 1) := by decide +kernel
theorem dX5_make_87 : decode cX5_make 87 = .ok (.ixor, 1) := by decide +kernel
theorem dX5_make_88 : decode cX5_make 88 = .ok (.istore 6, 2) := by decide +kernel
theorem dX5_make_90 : decode cX5_make 90 = .ok (.iload_n 2, 1) := by decide +kernel
theorem dX5_make_91 : decode cX5_make 91 = .ok (.ifCond .ne 13, 3) := by decide +kernel
theorem dX5_make_94 : decode cX5_make 94 = .ok (.aload 4, 2) := by decide +kernel
theorem dX5_make_96 : decode cX5_make 96 = .ok (.iload 6, 2) := by decide +kernel
theorem dX5_make_98 : decode cX5_make 98 = .ok (.putfield 113, 3) := by decide +kernel
theorem dX5_make_101 : decode cX5_make 101 = .ok (.goto 10, 3) := by decide +kernel
theorem dX5_make_104 : decode cX5_make 104 = .ok (.aload 4, 2) := by decide +kernel
theorem dX5_make_106 : decode cX5_make 106 = .ok (.iload 6, 2) := by decide +kernel
theorem dX5_make_108 : decode cX5_make 108 = .ok (.putfield 116, 3) := by decide +kernel
theorem dX5_make_111 : decode cX5_make 111 = .ok (.iload 6, 2) := by decide +kernel
theorem dX5_make_113 : decode cX5_make 113 = .ok (.ireturn, 1) := by decide +kernel
theorem dX5_drift_0 : decode cX5_drift 0 = .ok (.iload_n 1, 1) := by decide +kernel
theorem dX5_drift_1 : decode cX5_drift 1 = .ok (.iconst 1, 1) := by decide +kernel
theorem dX5_drift_2 : decode cX5_drift 2 = .ok (.bipush 40, 2) := by decide +kernel
theorem dX5_drift_4 : decode cX5_drift 4 = .ok (.invokestatic 50, 3) := by decide +kernel
theorem dX5_drift_7 : decode cX5_drift 7 = .ok (.ifCond .ne 5, 3) := by decide +kernel
theorem dX5_drift_10 : decode cX5_drift 10 = .ok (.iconst (-1), 1) := by decide +kernel
theorem dX5_drift_11 : decode cX5_drift 11 = .ok (.ireturn, 1) := by decide +kernel
theorem dX5_drift_12 : decode cX5_drift 12 = .ok (.iconst 0, 1) := by decide +kernel
theorem dX5_drift_13 : decode cX5_drift 13 = .ok (.istore_n 2, 1) := by decide +kernel
theorem dX5_drift_14 : decode cX5_drift 14 = .ok (.iload_n 2, 1) := by decide +kernel
theorem dX5_drift_15 : decode cX5_drift 15 = .ok (.iload_n 1, 1) := by decide +kernel
theorem dX5_drift_16 : decode cX5_drift 16 = .ok (.if_icmp .ge 30, 3) := by decide +kernel
theorem dX5_drift_19 : decode cX5_drift 19 = .ok (.aload_n 0, 1) := by decide +kernel
theorem dX5_drift_20 : decode cX5_drift 20 = .ok (.getfield 19, 3) := by decide +kernel
theorem dX5_drift_23 : decode cX5_drift 23 = .ok (.aload_n 0, 1) := by decide +kernel
theorem dX5_drift_24 : decode cX5_drift 24 = .ok (.getfield 12, 3) := by decide +kernel
theorem dX5_drift_27 : decode cX5_drift 27 = .ok (.getfield 79, 3) := by decide +kernel
theorem dX5_drift_30 : decode cX5_drift 30 = .ok (.invokevirtual 161, 3) := by decide +kernel
theorem dX5_drift_33 : decode cX5_drift 33 = .ok (.aload_n 0, 1) := by decide +kernel
theorem dX5_drift_34 : decode cX5_drift 34 = .ok (.getfield 12, 3) := by decide +kernel
theorem dX5_drift_37 : decode cX5_drift 37 = .ok (.invokevirtual 175, 3) := by decide +kernel
theorem dX5_drift_40 : decode cX5_drift 40 = .ok (.iinc 2 1, 3) := by decide +kernel
theorem dX5_drift_43 : decode cX5_drift 43 = .ok (.goto (-29), 3) := by decide +kernel
theorem dX5_drift_46 : decode cX5_drift 46 = .ok (.aload_n 0, 1) := by decide +kernel
theorem dX5_drift_47 : decode cX5_drift 47 = .ok (.getfield 12, 3) := by decide +kernel
theorem dX5_drift_50 : decode cX5_drift 50 = .ok (.invokevirtual 144, 3) := by decide +kernel
theorem dX5_drift_53 : decode cX5_drift 53 = .ok (.ireturn, 1) := by decide +kernel
theorem dX5_undo_0 : decode cX5_undo 0 = .ok (.aload_n 0, 1) := by decide +kernel
theorem dX5_undo_1 : decode cX5_undo 1 = .ok (.getfield 19, 3) := by decide +kernel
theorem dX5_undo_4 : decode cX5_undo 4 = .ok (.getfield 151, 3) := by decide +kernel
theorem dX5_undo_7 : decode cX5_undo 7 = .ok (.ifCond .ne 6, 3) := by decide +kernel
theorem dX5_undo_10 : decode cX5_undo 10 = .ok (.bipush (-4), 2) := by decide +kernel
theorem dX5_undo_12 : decode cX5_undo 12 = .ok (.ireturn, 1) := by decide +kernel
theorem dX5_undo_13 : decode cX5_undo 13 = .ok (.aload_n 0, 1) := by decide +kernel
theorem dX5_undo_14 : decode cX5_undo 14 = .ok (.getfield 19, 3) := by decide +kernel
theorem dX5_undo_17 : decode cX5_undo 17 = .ok (.aload_n 0, 1) := by decide +kernel
theorem dX5_undo_18 : decode cX5_undo 18 = .ok (.getfield 12, 3) := by decide +kernel
theorem dX5_undo_21 : decode cX5_undo 21 = .ok (.getfield 79, 3) := by decide +kernel
theorem dX5_undo_24 : decode cX5_undo 24 = .ok (.invokevirtual 178, 3) := by decide +kernel
theorem dX5_undo_27 : decode cX5_undo 27 = .ok (.aload_n 0, 1) := by decide +kernel
theorem dX5_undo_28 : decode cX5_undo 28 = .ok (.getfield 19, 3) := by decide +kernel
theorem dX5_undo_31 : decode cX5_undo 31 = .ok (.getfield 151, 3) := by decide +kernel
theorem dX5_undo_34 : decode cX5_undo 34 = .ok (.ireturn, 1) := by decide +kernel
theorem dX5_seed_0 : decode cX5_seed 0 = .ok (.iload_n 1, 1) := by decide +kernel
theorem dX5_seed_1 : decode cX5_seed 1 = .ok (.ifCond .ge 5, 3) := by decide +kernel
theorem dX5_seed_4 : decode cX5_seed 4 = .ok (.iconst (-1), 1) := by decide +kernel
theorem dX5_seed_5 : decode cX5_seed 5 = .ok (.ireturn, 1) := by decide +kernel
theorem dX5_seed_6 : decode cX5_seed 6 = .ok (.aload_n 0, 1) := by decide +kernel
theorem dX5_seed_7 : decode cX5_seed 7 = .ok (.getfield 12, 3) := by decide +kernel
theorem dX5_seed_10 : decode cX5_seed 10 = .ok (.getfield 79, 3) := by decide +kernel
theorem dX5_seed_13 : decode cX5_seed 13 = .ok (.getfield 181, 3) := by decide +kernel
theorem dX5_seed_16 : decode cX5_seed 16 = .ok (.istore_n 2, 1) := by decide +kernel
theorem dX5_seed_17 : decode cX5_seed 17 = .ok (.aload_n 0, 1) := by decide +kernel
theorem dX5_seed_18 : decode cX5_seed 18 = .ok (.getfield 12, 3) := by decide +kernel
theorem dX5_seed_21 : decode cX5_seed 21 = .ok (.getfield 79, 3) := by decide +kernel
theorem dX5_seed_24 : decode cX5_seed 24 = .ok (.iload_n 1, 1) := by decide +kernel
theorem dX5_seed_25 : decode cX5_seed 25 = .ok (.putfield 181, 3) := by decide +kernel
theorem dX5_seed_28 : decode cX5_seed 28 = .ok (.iload_n 2, 1) := by decide +kernel
theorem dX5_seed_29 : decode cX5_seed 29 = .ok (.ireturn, 1) := by decide +kernel
theorem dX5_gain_0 : decode cX5_gain 0 = .ok (.aload_n 0, 1) := by decide +kernel
theorem dX5_gain_1 : decode cX5_gain 1 = .ok (.getfield 12, 3) := by decide +kernel
theorem dX5_gain_4 : decode cX5_gain 4 = .ok (.iload_n 1, 1) := by decide +kernel
theorem dX5_gain_5 : decode cX5_gain 5 = .ok (.iload_n 2, 1) := by decide +kernel
theorem dX5_gain_6 : decode cX5_gain 6 = .ok (.invokevirtual 154, 3) := by decide +kernel
theorem dX5_gain_9 : decode cX5_gain 9 = .ok (.ifCond .eq 10, 3) := by decide +kernel
theorem dX5_gain_12 : decode cX5_gain 12 = .ok (.iload_n 3, 1) := by decide +kernel
theorem dX5_gain_13 : decode cX5_gain 13 = .ok (.invokestatic 98, 3) := by decide +kernel
theorem dX5_gain_16 : decode cX5_gain 16 = .ok (.ifCond .ne 5, 3) := by decide +kernel
theorem dX5_gain_19 : decode cX5_gain 19 = .ok (.iconst (-1), 1) := by decide +kernel
theorem dX5_gain_20 : decode cX5_gain 20 = .ok (.ireturn, 1) := by decide +kernel
theorem dX5_gain_21 : decode cX5_gain 21 = .ok (.aload_n 0, 1) := by decide +kernel
theorem dX5_gain_22 : decode cX5_gain 22 = .ok (.getfield 12, 3) := by decide +kernel
theorem dX5_gain_25 : decode cX5_gain 25 = .ok (.getfield 79, 3) := by decide +kernel
theorem dX5_gain_28 : decode cX5_gain 28 = .ok (.iload_n 1, 1) := by decide +kernel
theorem dX5_gain_29 : decode cX5_gain 29 = .ok (.iload_n 3, 1) := by decide +kernel
theorem dX5_gain_30 : decode cX5_gain 30 = .ok (.invokevirtual 104, 3) := by decide +kernel
theorem dX5_gain_33 : decode cX5_gain 33 = .ok (.ifCond .ne 6, 3) := by decide +kernel
theorem dX5_gain_36 : decode cX5_gain 36 = .ok (.bipush (-2), 2) := by decide +kernel
theorem dX5_gain_38 : decode cX5_gain 38 = .ok (.ireturn, 1) := by decide +kernel
theorem dX5_gain_39 : decode cX5_gain 39 = .ok (.sipush 1000, 3) := by decide +kernel
theorem dX5_gain_42 : decode cX5_gain 42 = .ok (.aload_n 0, 1) := by decide +kernel
theorem dX5_gain_43 : decode cX5_gain 43 = .ok (.getfield 12, 3) := by decide +kernel
theorem dX5_gain_46 : decode cX5_gain 46 = .ok (.iload_n 1, 1) := by decide +kernel
theorem dX5_gain_47 : decode cX5_gain 47 = .ok (.iload_n 2, 1) := by decide +kernel
theorem dX5_gain_48 : decode cX5_gain 48 = .ok (.iload_n 3, 1) := by decide +kernel
theorem dX5_gain_49 : decode cX5_gain 49 = .ok (.invokevirtual 184, 3) := by decide +kernel
theorem dX5_gain_52 : decode cX5_gain 52 = .ok (.iadd, 1) := by decide +kernel
theorem dX5_gain_53 : decode cX5_gain 53 = .ok (.ireturn, 1) := by decide +kernel
theorem dX5_middle_0 : decode cX5_middle 0 = .ok (.aload_n 0, 1) := by decide +kernel
theorem dX5_middle_1 : decode cX5_middle 1 = .ok (.getfield 12, 3) := by decide +kernel
theorem dX5_middle_4 : decode cX5_middle 4 = .ok (.iload_n 1, 1) := by decide +kernel
theorem dX5_middle_5 : decode cX5_middle 5 = .ok (.iload_n 2, 1) := by decide +kernel
theorem dX5_middle_6 : decode cX5_middle 6 = .ok (.invokevirtual 154, 3) := by decide +kernel
theorem dX5_middle_9 : decode cX5_middle 9 = .ok (.ifCond .eq 10, 3) := by decide +kernel
theorem dX5_middle_12 : decode cX5_middle 12 = .ok (.iload_n 3, 1) := by decide +kernel
theorem dX5_middle_13 : decode cX5_middle 13 = .ok (.invokestatic 98, 3) := by decide +kernel
theorem dX5_middle_16 : decode cX5_middle 16 = .ok (.ifCond .ne 5, 3) := by decide +kernel
theorem dX5_middle_19 : decode cX5_middle 19 = .ok (.iconst (-1), 1) := by decide +kernel
theorem dX5_middle_20 : decode cX5_middle 20 = .ok (.ireturn, 1) := by decide +kernel
theorem dX5_middle_21 : decode cX5_middle 21 = .ok (.aload_n 0, 1) := by decide +kernel
theorem dX5_middle_22 : decode cX5_middle 22 = .ok (.getfield 12, 3) := by decide +kernel
theorem dX5_middle_25 : decode cX5_middle 25 = .ok (.getfield 79, 3) := by decide +kernel
theorem dX5_middle_28 : decode cX5_middle 28 = .ok (.iload_n 1, 1) := by decide +kernel
theorem dX5_middle_29 : decode cX5_middle 29 = .ok (.iload_n 3, 1) := by decide +kernel
theorem dX5_middle_30 : decode cX5_middle 30 = .ok (.invokevirtual 104, 3) := by decide +kernel
theorem dX5_middle_33 : decode cX5_middle 33 = .ok (.ifCond .ne 6, 3) := by decide +kernel
theorem dX5_middle_36 : decode cX5_middle 36 = .ok (.bipush (-2), 2) := by decide +kernel
theorem dX5_middle_38 : decode cX5_middle 38 = .ok (.ireturn, 1) := by decide +kernel
theorem dX5_middle_39 : decode cX5_middle 39 = .ok (.aload_n 0, 1) := by decide +kernel
theorem dX5_middle_40 : decode cX5_middle 40 = .ok (.getfield 12, 3) := by decide +kernel
theorem dX5_middle_43 : decode cX5_middle 43 = .ok (.iload_n 1, 1) := by decide +kernel
theorem dX5_middle_44 : decode cX5_middle 44 = .ok (.iload_n 2, 1) := by decide +kernel
theorem dX5_middle_45 : decode cX5_middle 45 = .ok (.iload_n 3, 1) := by decide +kernel
theorem dX5_middle_46 : decode cX5_middle 46 = .ok (.invokevirtual 188, 3) := by decide +kernel
theorem dX5_middle_49 : decode cX5_middle 49 = .ok (.ireturn, 1) := by decide +kernel
theorem dX5_best_0 : decode cX5_best 0 = .ok (.iload_n 1, 1) := by decide +kernel
theorem dX5_best_1 : decode cX5_best 1 = .ok (.invokestatic 101, 3) := by decide +kernel
theorem dX5_best_4 : decode cX5_best 4 = .ok (.ifCond .ne 5, 3) := by decide +kernel
theorem dX5_best_7 : decode cX5_best 7 = .ok (.iconst (-1), 1) := by decide +kernel
theorem dX5_best_8 : decode cX5_best 8 = .ok (.ireturn, 1) := by decide +kernel
theorem dX5_best_9 : decode cX5_best 9 = .ok (.aload_n 0, 1) := by decide +kernel
theorem dX5_best_10 : decode cX5_best 10 = .ok (.getfield 12, 3) := by decide +kernel
theorem dX5_best_13 : decode cX5_best 13 = .ok (.invokevirtual 191, 3) := by decide +kernel
theorem dX5_best_16 : decode cX5_best 16 = .ok (.istore_n 2, 1) := by decide +kernel
theorem dX5_best_17 : decode cX5_best 17 = .ok (.iload_n 2, 1) := by decide +kernel
theorem dX5_best_18 : decode cX5_best 18 = .ok (.bipush (-4), 2) := by decide +kernel
theorem dX5_best_20 : decode cX5_best 20 = .ok (.if_icmp .eq 7, 3) := by decide +kernel
theorem dX5_best_23 : decode cX5_best 23 = .ok (.iload_n 1, 1) := by decide +kernel
theorem dX5_best_24 : decode cX5_best 24 = .ok (.ifCond .ne 5, 3) := by decide +kernel
theorem dX5_best_27 : decode cX5_best 27 = .ok (.iload_n 2, 1) := by decide +kernel
theorem dX5_best_28 : decode cX5_best 28 = .ok (.ireturn, 1) := by decide +kernel
theorem dX5_best_29 : decode cX5_best 29 = .ok (.aload_n 0, 1) := by decide +kernel
theorem dX5_best_30 : decode cX5_best 30 = .ok (.getfield 12, 3) := by decide +kernel
theorem dX5_best_33 : decode cX5_best 33 = .ok (.iload_n 2, 1) := by decide +kernel
theorem dX5_best_34 : decode cX5_best 34 = .ok (.invokestatic 194, 3) := by decide +kernel
theorem dX5_best_37 : decode cX5_best 37 = .ok (.iload_n 2, 1) := by decide +kernel
theorem dX5_best_38 : decode cX5_best 38 = .ok (.invokestatic 197, 3) := by decide +kernel
theorem dX5_best_41 : decode cX5_best 41 = .ok (.iload_n 2, 1) := by decide +kernel
theorem dX5_best_42 : decode cX5_best 42 = .ok (.invokestatic 200, 3) := by decide +kernel
theorem dX5_best_45 : decode cX5_best 45 = .ok (.invokevirtual 184, 3) := by decide +kernel
theorem dX5_best_48 : decode cX5_best 48 = .ok (.ireturn, 1) := by decide +kernel
theorem dX5_market_0 : decode cX5_market 0 = .ok (.iload_n 1, 1) := by decide +kernel
theorem dX5_market_1 : decode cX5_market 1 = .ok (.invokestatic 101, 3) := by decide +kernel
theorem dX5_market_4 : decode cX5_market 4 = .ok (.ifCond .ne 5, 3) := by decide +kernel
theorem dX5_market_7 : decode cX5_market 7 = .ok (.iconst (-1), 1) := by decide +kernel
theorem dX5_market_8 : decode cX5_market 8 = .ok (.ireturn, 1) := by decide +kernel
theorem dX5_market_9 : decode cX5_market 9 = .ok (.aload_n 0, 1) := by decide +kernel
theorem dX5_market_10 : decode cX5_market 10 = .ok (.getfield 33, 3) := by decide +kernel
theorem dX5_market_13 : decode cX5_market 13 = .ok (.aload_n 0, 1) := by decide +kernel
theorem dX5_market_14 : decode cX5_market 14 = .ok (.getfield 12, 3) := by decide +kernel
theorem dX5_market_17 : decode cX5_market 17 = .ok (.invokevirtual 130, 3) := by decide +kernel
theorem dX5_market_20 : decode cX5_market 20 = .ok (.iconst 0, 1) := by decide +kernel
theorem dX5_market_21 : decode cX5_market 21 = .ok (.istore_n 2, 1) := by decide +kernel
theorem dX5_market_22 : decode cX5_market 22 = .ok (.aload_n 0, 1) := by decide +kernel
theorem dX5_market_23 : decode cX5_market 23 = .ok (.getfield 33, 3) := by decide +kernel
theorem dX5_market_26 : decode cX5_market 26 = .ok (.invokevirtual 191, 3) := by decide +kernel
theorem dX5_market_29 : decode cX5_market 29 = .ok (.istore_n 3, 1) := by decide +kernel
theorem dX5_market_30 : decode cX5_market 30 = .ok (.iload_n 3, 1) := by decide +kernel
theorem dX5_market_31 : decode cX5_market 31 = .ok (.bipush (-4), 2) := by decide +kernel
theorem dX5_market_33 : decode cX5_market 33 = .ok (.if_icmp .eq 45, 3) := by decide +kernel
theorem dX5_market_36 : decode cX5_market 36 = .ok (.iload_n 2, 1) := by decide +kernel
theorem dX5_market_37 : decode cX5_market 37 = .ok (.ldc 203, 2) := by decide +kernel
theorem dX5_market_39 : decode cX5_market 39 = .ok (.if_icmp .ge 39, 3) := by decide +kernel
theorem dX5_market_42 : decode cX5_market 42 = .ok (.aload_n 0, 1) := by decide +kernel
theorem dX5_market_43 : decode cX5_market 43 = .ok (.getfield 33, 3) := by decide +kernel
theorem dX5_market_46 : decode cX5_market 46 = .ok (.getfield 79, 3) := by decide +kernel
theorem dX5_market_49 : decode cX5_market 49 = .ok (.iload_n 3, 1) := by decide +kernel
theorem dX5_market_50 : decode cX5_market 50 = .ok (.invokestatic 194, 3) := by decide +kernel
theorem dX5_market_53 : decode cX5_market 53 = .ok (.iload_n 3, 1) := by decide +kernel
theorem dX5_market_54 : decode cX5_market 54 = .ok (.invokestatic 197, 3) := by decide +kernel
theorem dX5_market_57 : decode cX5_market 57 = .ok (.iload_n 3, 1) := by decide +kernel
theorem dX5_market_58 : decode cX5_market 58 = .ok (.invokestatic 200, 3) := by decide +kernel
theorem dX5_market_61 : decode cX5_market 61 = .ok (.invokevirtual 165, 3) := by decide +kernel
theorem dX5_market_64 : decode cX5_market 64 = .ok (.iinc 2 1, 3) := by decide +kernel
theorem dX5_market_67 : decode cX5_market 67 = .ok (.aload_n 0, 1) := by decide +kernel
theorem dX5_market_68 : decode cX5_market 68 = .ok (.getfield 33, 3) := by decide +kernel
theorem dX5_market_71 : decode cX5_market 71 = .ok (.invokevirtual 191, 3) := by decide +kernel
theorem dX5_market_74 : decode cX5_market 74 = .ok (.istore_n 3, 1) := by decide +kernel
theorem dX5_market_75 : decode cX5_market 75 = .ok (.goto (-45), 3) := by decide +kernel
theorem dX5_market_78 : decode cX5_market 78 = .ok (.iload_n 1, 1) := by decide +kernel
theorem dX5_market_79 : decode cX5_market 79 = .ok (.ifCond .ne 7, 3) := by decide +kernel
theorem dX5_market_82 : decode cX5_market 82 = .ok (.iload_n 2, 1) := by decide +kernel
theorem dX5_market_83 : decode cX5_market 83 = .ok (.goto 10, 3) := by decide +kernel
theorem dX5_market_86 : decode cX5_market 86 = .ok (.aload_n 0, 1) := by decide +kernel
theorem dX5_market_87 : decode cX5_market 87 = .ok (.getfield 33, 3) := by decide +kernel
theorem dX5_market_90 : decode cX5_market 90 = .ok (.invokevirtual 144, 3) := by decide +kernel
theorem dX5_market_93 : decode cX5_market 93 = .ok (.ireturn, 1) := by decide +kernel
theorem dX5_longest_0 : decode cX5_longest 0 = .ok (.aload_n 0, 1) := by decide +kernel
theorem dX5_longest_1 : decode cX5_longest 1 = .ok (.getfield 12, 3) := by decide +kernel
theorem dX5_longest_4 : decode cX5_longest 4 = .ok (.iload_n 1, 1) := by decide +kernel
theorem dX5_longest_5 : decode cX5_longest 5 = .ok (.invokevirtual 65, 3) := by decide +kernel
theorem dX5_longest_8 : decode cX5_longest 8 = .ok (.ifCond .eq 10, 3) := by decide +kernel
theorem dX5_longest_11 : decode cX5_longest 11 = .ok (.iload_n 2, 1) := by decide +kernel
theorem dX5_longest_12 : decode cX5_longest 12 = .ok (.invokestatic 101, 3) := by decide +kernel
theorem dX5_longest_15 : decode cX5_longest 15 = .ok (.ifCond .ne 5, 3) := by decide +kernel
theorem dX5_longest_18 : decode cX5_longest 18 = .ok (.iconst (-1), 1) := by decide +kernel
theorem dX5_longest_19 : decode cX5_longest 19 = .ok (.ireturn, 1) := by decide +kernel
theorem dX5_longest_20 : decode cX5_longest 20 = .ok (.aload_n 0, 1) := by decide +kernel
theorem dX5_longest_21 : decode cX5_longest 21 = .ok (.getfield 12, 3) := by decide +kernel
theorem dX5_longest_24 : decode cX5_longest 24 = .ok (.getfield 79, 3) := by decide +kernel
theorem dX5_longest_27 : decode cX5_longest 27 = .ok (.getfield 88, 3) := by decide +kernel
theorem dX5_longest_30 : decode cX5_longest 30 = .ok (.iload_n 1, 1) := by decide +kernel
theorem dX5_longest_31 : decode cX5_longest 31 = .ok (.iaload, 1) := by decide +kernel
theorem dX5_longest_32 : decode cX5_longest 32 = .ok (.istore_n 3, 1) := by decide +kernel
theorem dX5_longest_33 : decode cX5_longest 33 = .ok (.iconst 0, 1) := by decide +kernel
theorem dX5_longest_34 : decode cX5_longest 34 = .ok (.istore 4, 2) := by decide +kernel
theorem dX5_longest_36 : decode cX5_longest 36 = .ok (.bipush (-4), 2) := by decide +kernel
theorem dX5_longest_38 : decode cX5_longest 38 = .ok (.istore 5, 2) := by decide +kernel
theorem dX5_longest_40 : decode cX5_longest 40 = .ok (.iconst 0, 1) := by decide +kernel
theorem dX5_longest_41 : decode cX5_longest 41 = .ok (.istore 6, 2) := by decide +kernel
theorem dX5_longest_43 : decode cX5_longest 43 = .ok (.iload 6, 2) := by decide +kernel
theorem dX5_longest_45 : decode cX5_longest 45 = .ok (.bipush 12, 2) := by decide +kernel
theorem dX5_longest_47 : decode cX5_longest 47 = .ok (.if_icmp .ge 32, 3) := by decide +kernel
theorem dX5_longest_50 : decode cX5_longest 50 = .ok (.iload_n 3, 1) := by decide +kernel
theorem dX5_longest_51 : decode cX5_longest 51 = .ok (.iload 6, 2) := by decide +kernel
theorem dX5_longest_53 : decode cX5_longest 53 = .ok (.invokestatic 204, 3) := by decide +kernel
theorem dX5_longest_56 : decode cX5_longest 56 = .ok (.istore 7, 2) := by decide +kernel
theorem dX5_longest_58 : decode cX5_longest 58 = .ok (.iload 7, 2) := by decide +kernel
theorem dX5_longest_60 : decode cX5_longest 60 = .ok (.iload 4, 2) := by decide +kernel
theorem dX5_longest_62 : decode cX5_longest 62 = .ok (.if_icmp .le 11, 3) := by decide +kernel
theorem dX5_longest_65 : decode cX5_longest 65 = .ok (.iload 7, 2) := by decide +kernel
theorem dX5_longest_67 : decode cX5_longest 67 = .ok (.istore 4, 2) := by decide +kernel
theorem dX5_longest_69 : decode cX5_longest 69 = .ok (.iload 6, 2) := by decide +kernel
theorem dX5_longest_71 : decode cX5_longest 71 = .ok (.istore 5, 2) := by decide +kernel
theorem dX5_longest_73 : decode cX5_longest 73 = .ok (.iinc 6 1, 3) := by decide +kernel
theorem dX5_longest_76 : decode cX5_longest 76 = .ok (.goto (-33), 3) := by decide +kernel
theorem dX5_longest_79 : decode cX5_longest 79 = .ok (.iload_n 2, 1) := by decide +kernel
theorem dX5_longest_80 : decode cX5_longest 80 = .ok (.ifCond .ne 8, 3) := by decide +kernel
theorem dX5_longest_83 : decode cX5_longest 83 = .ok (.iload 4, 2) := by decide +kernel
theorem dX5_longest_85 : decode cX5_longest 85 = .ok (.goto 5, 3) := by decide +kernel
theorem dX5_longest_88 : decode cX5_longest 88 = .ok (.iload 5, 2) := by decide +kernel
theorem dX5_longest_90 : decode cX5_longest 90 = .ok (.ireturn, 1) := by decide +kernel
theorem dX5_stretch_0 : decode cX5_stretch 0 = .ok (.aload_n 0, 1) := by decide +kernel
theorem dX5_stretch_1 : decode cX5_stretch 1 = .ok (.getfield 12, 3) := by decide +kernel
theorem dX5_stretch_4 : decode cX5_stretch 4 = .ok (.iload_n 1, 1) := by decide +kernel
theorem dX5_stretch_5 : decode cX5_stretch 5 = .ok (.invokevirtual 65, 3) := by decide +kernel
theorem dX5_stretch_8 : decode cX5_stretch 8 = .ok (.ifCond .eq 20, 3) := by decide +kernel
theorem dX5_stretch_11 : decode cX5_stretch 11 = .ok (.iload_n 2, 1) := by decide +kernel
theorem dX5_stretch_12 : decode cX5_stretch 12 = .ok (.iconst 1, 1) := by decide +kernel
theorem dX5_stretch_13 : decode cX5_stretch 13 = .ok (.bipush 12, 2) := by decide +kernel
theorem dX5_stretch_15 : decode cX5_stretch 15 = .ok (.invokestatic 50, 3) := by decide +kernel
theorem dX5_stretch_18 : decode cX5_stretch 18 = .ok (.ifCond .eq 10, 3) := by decide +kernel
theorem dX5_stretch_21 : decode cX5_stretch 21 = .ok (.iload_n 3, 1) := by decide +kernel
theorem dX5_stretch_22 : decode cX5_stretch 22 = .ok (.invokestatic 101, 3) := by decide +kernel
theorem dX5_stretch_25 : decode cX5_stretch 25 = .ok (.ifCond .ne 5, 3) := by decide +kernel
theorem dX5_stretch_28 : decode cX5_stretch 28 = .ok (.iconst (-1), 1) := by decide +kernel
theorem dX5_stretch_29 : decode cX5_stretch 29 = .ok (.ireturn, 1) := by decide +kernel
theorem dX5_stretch_30 : decode cX5_stretch 30 = .ok (.sipush 4095, 3) := by decide +kernel
theorem dX5_stretch_33 : decode cX5_stretch 33 = .ok (.aload_n 0, 1) := by decide +kernel
theorem dX5_stretch_34 : decode cX5_stretch 34 = .ok (.getfield 12, 3) := by decide +kernel
theorem dX5_stretch_37 : decode cX5_stretch 37 = .ok (.getfield 79, 3) := by decide +kernel
theorem dX5_stretch_40 : decode cX5_stretch 40 = .ok (.getfield 88, 3) := by decide +kernel
theorem dX5_stretch_43 : decode cX5_stretch 43 = .ok (.iload_n 1, 1) := by decide +kernel
theorem dX5_stretch_44 : decode cX5_stretch 44 = .ok (.iaload, 1) := by decide +kernel
theorem dX5_stretch_45 : decode cX5_stretch 45 = .ok (.iconst (-1), 1) := by decide +kernel
theorem dX5_stretch_46 : decode cX5_stretch 46 = .ok (.ixor, 1) := by decide +kernel
theorem dX5_stretch_47 : decode cX5_stretch 47 = .ok (.iand, 1) := by decide +kernel
theorem dX5_stretch_48 : decode cX5_stretch 48 = .ok (.istore 4, 2) := by decide +kernel
theorem dX5_stretch_50 : decode cX5_stretch 50 = .ok (.iconst 1, 1) := by decide +kernel
theorem dX5_stretch_51 : decode cX5_stretch 51 = .ok (.iload_n 2, 1) := by decide +kernel
theorem dX5_stretch_52 : decode cX5_stretch 52 = .ok (.ishl, 1) := by decide +kernel
theorem dX5_stretch_53 : decode cX5_stretch 53 = .ok (.iconst 1, 1) := by decide +kernel
theorem dX5_stretch_54 : decode cX5_stretch 54 = .ok (.isub, 1) := by decide +kernel
theorem dX5_stretch_55 : decode cX5_stretch 55 = .ok (.istore 5, 2) := by decide +kernel
theorem dX5_stretch_57 : decode cX5_stretch 57 = .ok (.bipush 13, 2) := by decide +kernel
theorem dX5_stretch_59 : decode cX5_stretch 59 = .ok (.istore 6, 2) := by decide +kernel
theorem dX5_stretch_61 : decode cX5_stretch 61 = .ok (.iconst 0, 1) := by decide +kernel
theorem dX5_stretch_62 : decode cX5_stretch 62 = .ok (.istore 7, 2) := by decide +kernel
theorem dX5_stretch_64 : decode cX5_stretch 64 = .ok (.iconst 0, 1) := by decide +kernel
theorem dX5_stretch_65 : decode cX5_stretch 65 = .ok (.istore 8, 2) := by decide +kernel
theorem dX5_stretch_67 : decode cX5_stretch 67 = .ok (.iload 8, 2) := by decide +kernel
theorem dX5_stretch_69 : decode cX5_stretch 69 = .ok (.iload_n 2, 1) := by decide +kernel
theorem dX5_stretch_70 : decode cX5_stretch 70 = .ok (.iadd, 1) := by decide +kernel
theorem dX5_stretch_71 : decode cX5_stretch 71 = .ok (.bipush 12, 2) := by decide +kernel
theorem dX5_stretch_73 : decode cX5_stretch 73 = .ok (.if_icmp .gt 37, 3) := by decide +kernel
theorem dX5_stretch_76 : decode cX5_stretch 76 = .ok (.iload 4, 2) := by decide +kernel
theorem dX5_stretch_78 : decode cX5_stretch 78 = .ok (.iload 5, 2) := by decide +kernel
theorem dX5_stretch_80 : decode cX5_stretch 80 = .ok (.iload 8, 2) := by decide +kernel
theorem dX5_stretch_82 : decode cX5_stretch 82 = .ok (.ishl, 1) := by decide +kernel
theorem dX5_stretch_83 : decode cX5_stretch 83 = .ok (.iand, 1) := by decide +kernel
theorem dX5_stretch_84 : decode cX5_stretch 84 = .ok (.invokestatic 207, 3) := by decide +kernel
theorem dX5_stretch_87 : decode cX5_stretch 87 = .ok (.istore 9, 2) := by decide +kernel
theorem dX5_stretch_89 : decode cX5_stretch 89 = .ok (.iload 9, 2) := by decide +kernel
theorem dX5_stretch_91 : decode cX5_stretch 91 = .ok (.iload 6, 2) := by decide +kernel
theorem dX5_stretch_93 : decode cX5_stretch 93 = .ok (.if_icmp .ge 11, 3) := by decide +kernel
theorem dX5_stretch_96 : decode cX5_stretch 96 = .ok (.iload 9, 2) := by decide +kernel
theorem dX5_stretch_98 : decode cX5_stretch 98 = .ok (.istore 6, 2) := by decide +kernel
theorem dX5_stretch_100 : decode cX5_stretch 100 = .ok (.iload 8, 2) := by decide +kernel
theorem dX5_stretch_102 : decode cX5_stretch 102 = .ok (.istore 7, 2) := by decide +kernel
theorem dX5_stretch_104 : decode cX5_stretch 104 = .ok (.iinc 8 1, 3) := by decide +kernel
theorem dX5_stretch_107 : decode cX5_stretch 107 = .ok (.goto (-40), 3) := by decide +kernel
theorem dX5_stretch_110 : decode cX5_stretch 110 = .ok (.iload_n 3, 1) := by decide +kernel
theorem dX5_stretch_111 : decode cX5_stretch 111 = .ok (.ifCond .ne 8, 3) := by decide +kernel
theorem dX5_stretch_114 : decode cX5_stretch 114 = .ok (.iload 6, 2) := by decide +kernel
theorem dX5_stretch_116 : decode cX5_stretch 116 = .ok (.goto 5, 3) := by decide +kernel
theorem dX5_stretch_119 : decode cX5_stretch 119 = .ok (.iload 7, 2) := by decide +kernel
theorem dX5_stretch_121 : decode cX5_stretch 121 = .ok (.ireturn, 1) := by decide +kernel
theorem dX5_more_0 : decode cX5_more 0 = .ok (.aload_n 0, 1) := by decide +kernel
theorem dX5_more_1 : decode cX5_more 1 = .ok (.getfield 12, 3) := by decide +kernel
theorem dX5_more_4 : decode cX5_more 4 = .ok (.iload_n 1, 1) := by decide +kernel
theorem dX5_more_5 : decode cX5_more 5 = .ok (.invokevirtual 65, 3) := by decide +kernel
theorem dX5_more_8 : decode cX5_more 8 = .ok (.ifCond .eq 30, 3) := by decide +kernel
theorem dX5_more_11 : decode cX5_more 11 = .ok (.iload_n 2, 1) := by decide +kernel
theorem dX5_more_12 : decode cX5_more 12 = .ok (.iconst 0, 1) := by decide +kernel
theorem dX5_more_13 : decode cX5_more 13 = .ok (.iconst 4, 1) := by decide +kernel
theorem dX5_more_14 : decode cX5_more 14 = .ok (.invokestatic 50, 3) := by decide +kernel
theorem dX5_more_17 : decode cX5_more 17 = .ok (.ifCond .eq 21, 3) := by decide +kernel
theorem dX5_more_20 : decode cX5_more 20 = .ok (.iload_n 3, 1) := by decide +kernel
theorem dX5_more_21 : decode cX5_more 21 = .ok (.iconst 0, 1) := by decide +kernel
theorem dX5_more_22 : decode cX5_more 22 = .ok (.bipush 20, 2) := by decide +kernel
theorem dX5_more_24 : decode cX5_more 24 = .ok (.invokestatic 50, 3) := by decide +kernel
theorem dX5_more_27 : decode cX5_more 27 = .ok (.ifCond .eq 11, 3) := by decide +kernel
theorem dX5_more_30 : decode cX5_more 30 = .ok (.iload 4, 2) := by decide +kernel
theorem dX5_more_32 : decode cX5_more 32 = .ok (.invokestatic 101, 3) := by decide +kernel
theorem dX5_more_35 : decode cX5_more 35 = .ok (.ifCond .ne 5, 3) := by decide +kernel
theorem dX5_more_38 : decode cX5_more 38 = .ok (.iconst (-1), 1) := by decide +kernel
theorem dX5_more_39 : decode cX5_more 39 = .ok (.ireturn, 1) := by decide +kernel
theorem dX5_more_40 : decode cX5_more 40 = .ok (.aload_n 0, 1) := by decide +kernel
theorem dX5_more_41 : decode cX5_more 41 = .ok (.getfield 12, 3) := by decide +kernel
theorem dX5_more_44 : decode cX5_more 44 = .ok (.getfield 79, 3) := by decide +kernel
theorem dX5_more_47 : decode cX5_more 47 = .ok (.getfield 88, 3) := by decide +kernel
theorem dX5_more_50 : decode cX5_more 50 = .ok (.iload_n 1, 1) := by decide +kernel
theorem dX5_more_51 : decode cX5_more 51 = .ok (.iaload, 1) := by decide +kernel
theorem dX5_more_52 : decode cX5_more 52 = .ok (.istore 5, 2) := by decide +kernel
theorem dX5_more_54 : decode cX5_more 54 = .ok (.aload_n 0, 1) := by decide +kernel
theorem dX5_more_55 : decode cX5_more 55 = .ok (.getfield 12, 3) := by decide +kernel
theorem dX5_more_58 : decode cX5_more 58 = .ok (.iload_n 1, 1) := by decide +kernel
theorem dX5_more_59 : decode cX5_more 59 = .ok (.invokevirtual 95, 3) := by decide +kernel
theorem dX5_more_62 : decode cX5_more 62 = .ok (.istore 6, 2) := by decide +kernel
theorem dX5_more_64 : decode cX5_more 64 = .ok (.iconst 0, 1) := by decide +kernel
theorem dX5_more_65 : decode cX5_more 65 = .ok (.istore 7, 2) := by decide +kernel
theorem dX5_more_67 : decode cX5_more 67 = .ok (.iconst 1, 1) := by decide +kernel
theorem dX5_more_68 : decode cX5_more 68 = .ok (.istore 8, 2) := by decide +kernel
theorem dX5_more_70 : decode cX5_more 70 = .ok (.iload 8, 2) := by decide +kernel
theorem dX5_more_72 : decode cX5_more 72 = .ok (.sipush 4095, 3) := by decide +kernel
theorem dX5_more_75 : decode cX5_more 75 = .ok (.if_icmp .gt 68, 3) := by decide +kernel
theorem dX5_more_78 : decode cX5_more 78 = .ok (.iload 8, 2) := by decide +kernel
theorem dX5_more_80 : decode cX5_more 80 = .ok (.invokestatic 207, 3) := by decide +kernel
theorem dX5_more_83 : decode cX5_more 83 = .ok (.istore 9, 2) := by decide +kernel
theorem dX5_more_85 : decode cX5_more 85 = .ok (.iload 9, 2) := by decide +kernel
theorem dX5_more_87 : decode cX5_more 87 = .ok (.iload_n 2, 1) := by decide +kernel
theorem dX5_more_88 : decode cX5_more 88 = .ok (.if_icmp .gt 49, 3) := by decide +kernel
theorem dX5_more_91 : decode cX5_more 91 = .ok (.iload 8, 2) := by decide +kernel
theorem dX5_more_93 : decode cX5_more 93 = .ok (.iload 5, 2) := by decide +kernel
theorem dX5_more_95 : decode cX5_more 95 = .ok (.iand, 1) := by decide +kernel
theorem dX5_more_96 : decode cX5_more 96 = .ok (.ifCond .eq 6, 3) := by decide +kernel
theorem dX5_more_99 : decode cX5_more 99 = .ok (.goto 38, 3) := by decide +kernel
theorem dX5_more_102 : decode cX5_more 102 = .ok (.aload_n 0, 1) := by decide +kernel
theorem dX5_more_103 : decode cX5_more 103 = .ok (.getfield 12, 3) := by decide +kernel
theorem dX5_more_106 : decode cX5_more 106 = .ok (.iload_n 1, 1) := by decide +kernel
theorem dX5_more_107 : decode cX5_more 107 = .ok (.iload 5, 2) := by decide +kernel
theorem dX5_more_109 : decode cX5_more 109 = .ok (.iload 8, 2) := by decide +kernel
theorem dX5_more_111 : decode cX5_more 111 = .ok (.ior, 1) := by decide +kernel
theorem dX5_more_112 : decode cX5_more 112 = .ok (.invokevirtual 212, 3) := by decide +kernel
theorem dX5_more_115 : decode cX5_more 115 = .ok (.iload 9, 2) := by decide +kernel
theorem dX5_more_117 : decode cX5_more 117 = .ok (.iload_n 3, 1) := by decide +kernel
theorem dX5_more_118 : decode cX5_more 118 = .ok (.imul, 1) := by decide +kernel
theorem dX5_more_119 : decode cX5_more 119 = .ok (.isub, 1) := by decide +kernel
theorem dX5_more_120 : decode cX5_more 120 = .ok (.istore 10, 2) := by decide +kernel
theorem dX5_more_122 : decode cX5_more 122 = .ok (.iload 10, 2) := by decide +kernel
theorem dX5_more_124 : decode cX5_more 124 = .ok (.iload 6, 2) := by decide +kernel
theorem dX5_more_126 : decode cX5_more 126 = .ok (.if_icmp .le 11, 3) := by decide +kernel
theorem dX5_more_129 : decode cX5_more 129 = .ok (.iload 10, 2) := by decide +kernel
theorem dX5_more_131 : decode cX5_more 131 = .ok (.istore 6, 2) := by decide +kernel
theorem dX5_more_133 : decode cX5_more 133 = .ok (.iload 8, 2) := by decide +kernel
theorem dX5_more_135 : decode cX5_more 135 = .ok (.istore 7, 2) := by decide +kernel
theorem dX5_more_137 : decode cX5_more 137 = .ok (.iinc 8 1, 3) := by decide +kernel
theorem dX5_more_140 : decode cX5_more 140 = .ok (.goto (-70), 3) := by decide +kernel
theorem dX5_more_143 : decode cX5_more 143 = .ok (.iload 4, 2) := by decide +kernel
theorem dX5_more_145 : decode cX5_more 145 = .ok (.ifCond .ne 8, 3) := by decide +kernel
theorem dX5_more_148 : decode cX5_more 148 = .ok (.iload 6, 2) := by decide +kernel
theorem dX5_more_150 : decode cX5_more 150 = .ok (.goto 5, 3) := by decide +kernel
theorem dX5_more_153 : decode cX5_more 153 = .ok (.iload 7, 2) := by decide +kernel
theorem dX5_more_155 : decode cX5_more 155 = .ok (.ireturn, 1) := by decide +kernel
theorem dX5_envy_0 : decode cX5_envy 0 = .ok (.aload_n 0, 1) := by decide +kernel
theorem dX5_envy_1 : decode cX5_envy 1 = .ok (.getfield 12, 3) := by decide +kernel
theorem dX5_envy_4 : decode cX5_envy 4 = .ok (.iload_n 1, 1) := by decide +kernel
theorem dX5_envy_5 : decode cX5_envy 5 = .ok (.invokevirtual 65, 3) := by decide +kernel
theorem dX5_envy_8 : decode cX5_envy 8 = .ok (.ifCond .eq 10, 3) := by decide +kernel
theorem dX5_envy_11 : decode cX5_envy 11 = .ok (.iload_n 2, 1) := by decide +kernel
theorem dX5_envy_12 : decode cX5_envy 12 = .ok (.invokestatic 101, 3) := by decide +kernel
theorem dX5_envy_15 : decode cX5_envy 15 = .ok (.ifCond .ne 5, 3) := by decide +kernel
theorem dX5_envy_18 : decode cX5_envy 18 = .ok (.iconst (-1), 1) := by decide +kernel
theorem dX5_envy_19 : decode cX5_envy 19 = .ok (.ireturn, 1) := by decide +kernel
theorem dX5_envy_20 : decode cX5_envy 20 = .ok (.aload_n 0, 1) := by decide +kernel
theorem dX5_envy_21 : decode cX5_envy 21 = .ok (.getfield 12, 3) := by decide +kernel
theorem dX5_envy_24 : decode cX5_envy 24 = .ok (.iload_n 1, 1) := by decide +kernel
theorem dX5_envy_25 : decode cX5_envy 25 = .ok (.invokevirtual 95, 3) := by decide +kernel
theorem dX5_envy_28 : decode cX5_envy 28 = .ok (.istore_n 3, 1) := by decide +kernel
theorem dX5_envy_29 : decode cX5_envy 29 = .ok (.bipush (-4), 2) := by decide +kernel
theorem dX5_envy_31 : decode cX5_envy 31 = .ok (.istore 4, 2) := by decide +kernel
theorem dX5_envy_33 : decode cX5_envy 33 = .ok (.iconst 0, 1) := by decide +kernel
theorem dX5_envy_34 : decode cX5_envy 34 = .ok (.istore 5, 2) := by decide +kernel
theorem dX5_envy_36 : decode cX5_envy 36 = .ok (.iload 5, 2) := by decide +kernel
theorem dX5_envy_38 : decode cX5_envy 38 = .ok (.aload_n 0, 1) := by decide +kernel
theorem dX5_envy_39 : decode cX5_envy 39 = .ok (.getfield 12, 3) := by decide +kernel
theorem dX5_envy_42 : decode cX5_envy 42 = .ok (.getfield 54, 3) := by decide +kernel
theorem dX5_envy_45 : decode cX5_envy 45 = .ok (.if_icmp .ge 45, 3) := by decide +kernel
theorem dX5_envy_48 : decode cX5_envy 48 = .ok (.aload_n 0, 1) := by decide +kernel
theorem dX5_envy_49 : decode cX5_envy 49 = .ok (.getfield 12, 3) := by decide +kernel
theorem dX5_envy_52 : decode cX5_envy 52 = .ok (.iload_n 1, 1) := by decide +kernel
theorem dX5_envy_53 : decode cX5_envy 53 = .ok (.aload_n 0, 1) := by decide +kernel
theorem dX5_envy_54 : decode cX5_envy 54 = .ok (.getfield 12, 3) := by decide +kernel
theorem dX5_envy_57 : decode cX5_envy 57 = .ok (.getfield 79, 3) := by decide +kernel
theorem dX5_envy_60 : decode cX5_envy 60 = .ok (.getfield 88, 3) := by decide +kernel
theorem dX5_envy_63 : decode cX5_envy 63 = .ok (.iload 5, 2) := by decide +kernel
theorem dX5_envy_65 : decode cX5_envy 65 = .ok (.iaload, 1) := by decide +kernel
theorem dX5_envy_66 : decode cX5_envy 66 = .ok (.invokevirtual 212, 3) := by decide +kernel
theorem dX5_envy_69 : decode cX5_envy 69 = .ok (.istore 6, 2) := by decide +kernel
theorem dX5_envy_71 : decode cX5_envy 71 = .ok (.iload 6, 2) := by decide +kernel
theorem dX5_envy_73 : decode cX5_envy 73 = .ok (.iload_n 3, 1) := by decide +kernel
theorem dX5_envy_74 : decode cX5_envy 74 = .ok (.if_icmp .le 10, 3) := by decide +kernel
theorem dX5_envy_77 : decode cX5_envy 77 = .ok (.iload 6, 2) := by decide +kernel
theorem dX5_envy_79 : decode cX5_envy 79 = .ok (.istore_n 3, 1) := by decide +kernel
theorem dX5_envy_80 : decode cX5_envy 80 = .ok (.iload 5, 2) := by decide +kernel
theorem dX5_envy_82 : decode cX5_envy 82 = .ok (.istore 4, 2) := by decide +kernel
theorem dX5_envy_84 : decode cX5_envy 84 = .ok (.iinc 5 1, 3) := by decide +kernel
theorem dX5_envy_87 : decode cX5_envy 87 = .ok (.goto (-51), 3) := by decide +kernel
theorem dX5_envy_90 : decode cX5_envy 90 = .ok (.iload 4, 2) := by decide +kernel
theorem dX5_envy_92 : decode cX5_envy 92 = .ok (.bipush (-4), 2) := by decide +kernel
theorem dX5_envy_94 : decode cX5_envy 94 = .ok (.if_icmp .eq 7, 3) := by decide +kernel
theorem dX5_envy_97 : decode cX5_envy 97 = .ok (.iload_n 2, 1) := by decide +kernel
theorem dX5_envy_98 : decode cX5_envy 98 = .ok (.ifCond .ne 8, 3) := by decide +kernel
theorem dX5_envy_101 : decode cX5_envy 101 = .ok (.iload 4, 2) := by decide +kernel
theorem dX5_envy_103 : decode cX5_envy 103 = .ok (.goto 4, 3) := by decide +kernel
theorem dX5_envy_106 : decode cX5_envy 106 = .ok (.iload_n 3, 1) := by decide +kernel
theorem dX5_envy_107 : decode cX5_envy 107 = .ok (.ireturn, 1) := by decide +kernel
theorem dX5_both_0 : decode cX5_both 0 = .ok (.aload_n 0, 1) := by decide +kernel
theorem dX5_both_1 : decode cX5_both 1 = .ok (.getfield 12, 3) := by decide +kernel
theorem dX5_both_4 : decode cX5_both 4 = .ok (.iload_n 1, 1) := by decide +kernel
theorem dX5_both_5 : decode cX5_both 5 = .ok (.invokevirtual 65, 3) := by decide +kernel
theorem dX5_both_8 : decode cX5_both 8 = .ok (.ifCond .eq 14, 3) := by decide +kernel
theorem dX5_both_11 : decode cX5_both 11 = .ok (.aload_n 0, 1) := by decide +kernel
theorem dX5_both_12 : decode cX5_both 12 = .ok (.getfield 12, 3) := by decide +kernel
theorem dX5_both_15 : decode cX5_both 15 = .ok (.iload_n 2, 1) := by decide +kernel
theorem dX5_both_16 : decode cX5_both 16 = .ok (.invokevirtual 65, 3) := by decide +kernel
theorem dX5_both_19 : decode cX5_both 19 = .ok (.ifCond .ne 5, 3) := by decide +kernel
theorem dX5_both_22 : decode cX5_both 22 = .ok (.iconst (-1), 1) := by decide +kernel
theorem dX5_both_23 : decode cX5_both 23 = .ok (.ireturn, 1) := by decide +kernel
theorem dX5_both_24 : decode cX5_both 24 = .ok (.aload_n 0, 1) := by decide +kernel
theorem dX5_both_25 : decode cX5_both 25 = .ok (.getfield 12, 3) := by decide +kernel
theorem dX5_both_28 : decode cX5_both 28 = .ok (.getfield 79, 3) := by decide +kernel
theorem dX5_both_31 : decode cX5_both 31 = .ok (.getfield 88, 3) := by decide +kernel
theorem dX5_both_34 : decode cX5_both 34 = .ok (.iload_n 1, 1) := by decide +kernel
theorem dX5_both_35 : decode cX5_both 35 = .ok (.iaload, 1) := by decide +kernel
theorem dX5_both_36 : decode cX5_both 36 = .ok (.aload_n 0, 1) := by decide +kernel
theorem dX5_both_37 : decode cX5_both 37 = .ok (.getfield 12, 3) := by decide +kernel
theorem dX5_both_40 : decode cX5_both 40 = .ok (.getfield 79, 3) := by decide +kernel
theorem dX5_both_43 : decode cX5_both 43 = .ok (.getfield 88, 3) := by decide +kernel
theorem dX5_both_46 : decode cX5_both 46 = .ok (.iload_n 2, 1) := by decide +kernel
theorem dX5_both_47 : decode cX5_both 47 = .ok (.iaload, 1) := by decide +kernel
theorem dX5_both_48 : decode cX5_both 48 = .ok (.iand, 1) := by decide +kernel
theorem dX5_both_49 : decode cX5_both 49 = .ok (.ireturn, 1) := by decide +kernel
theorem dX5_hands_0 : decode cX5_hands 0 = .ok (.iload_n 1, 1) := by decide +kernel
theorem dX5_hands_1 : decode cX5_hands 1 = .ok (.invokestatic 98, 3) := by decide +kernel
theorem dX5_hands_4 : decode cX5_hands 4 = .ok (.ifCond .ne 5, 3) := by decide +kernel
theorem dX5_hands_7 : decode cX5_hands 7 = .ok (.iconst (-1), 1) := by decide +kernel
theorem dX5_hands_8 : decode cX5_hands 8 = .ok (.ireturn, 1) := by decide +kernel
theorem dX5_hands_9 : decode cX5_hands 9 = .ok (.iconst 0, 1) := by decide +kernel
theorem dX5_hands_10 : decode cX5_hands 10 = .ok (.istore_n 2, 1) := by decide +kernel
theorem dX5_hands_11 : decode cX5_hands 11 = .ok (.iconst 0, 1) := by decide +kernel
theorem dX5_hands_12 : decode cX5_hands 12 = .ok (.istore_n 3, 1) := by decide +kernel
theorem dX5_hands_13 : decode cX5_hands 13 = .ok (.iload_n 3, 1) := by decide +kernel
theorem dX5_hands_14 : decode cX5_hands 14 = .ok (.aload_n 0, 1) := by decide +kernel
theorem dX5_hands_15 : decode cX5_hands 15 = .ok (.getfield 12, 3) := by decide +kernel
theorem dX5_hands_18 : decode cX5_hands 18 = .ok (.getfield 54, 3) := by decide +kernel
theorem dX5_hands_21 : decode cX5_hands 21 = .ok (.if_icmp .ge 34, 3) := by decide +kernel
theorem dX5_hands_24 : decode cX5_hands 24 = .ok (.aload_n 0, 1) := by decide +kernel
theorem dX5_hands_25 : decode cX5_hands 25 = .ok (.getfield 12, 3) := by decide +kernel
theorem dX5_hands_28 : decode cX5_hands 28 = .ok (.getfield 79, 3) := by decide +kernel
theorem dX5_hands_31 : decode cX5_hands 31 = .ok (.getfield 88, 3) := by decide +kernel
theorem dX5_hands_34 : decode cX5_hands 34 = .ok (.iload_n 3, 1) := by decide +kernel
theorem dX5_hands_35 : decode cX5_hands 35 = .ok (.iaload, 1) := by decide +kernel
theorem dX5_hands_36 : decode cX5_hands 36 = .ok (.iload_n 1, 1) := by decide +kernel
theorem dX5_hands_37 : decode cX5_hands 37 = .ok (.invokestatic 119, 3) := by decide +kernel
theorem dX5_hands_40 : decode cX5_hands 40 = .ok (.ifCond .ne 9, 3) := by decide +kernel
theorem dX5_hands_43 : decode cX5_hands 43 = .ok (.iload_n 2, 1) := by decide +kernel
theorem dX5_hands_44 : decode cX5_hands 44 = .ok (.iconst 1, 1) := by decide +kernel
theorem dX5_hands_45 : decode cX5_hands 45 = .ok (.iload_n 3, 1) := by decide +kernel
theorem dX5_hands_46 : decode cX5_hands 46 = .ok (.ishl, 1) := by decide +kernel
theorem dX5_hands_47 : decode cX5_hands 47 = .ok (.ior, 1) := by decide +kernel
theorem dX5_hands_48 : decode cX5_hands 48 = .ok (.istore_n 2, 1) := by decide +kernel
theorem dX5_hands_49 : decode cX5_hands 49 = .ok (.iinc 3 1, 3) := by decide +kernel
theorem dX5_hands_52 : decode cX5_hands 52 = .ok (.goto (-39), 3) := by decide +kernel
theorem dX5_hands_55 : decode cX5_hands 55 = .ok (.iload_n 2, 1) := by decide +kernel
theorem dX5_hands_56 : decode cX5_hands 56 = .ok (.ireturn, 1) := by decide +kernel
theorem dX5_rain_0 : decode cX5_rain 0 = .ok (.aload_n 0, 1) := by decide +kernel
theorem dX5_rain_1 : decode cX5_rain 1 = .ok (.getfield 12, 3) := by decide +kernel
theorem dX5_rain_4 : decode cX5_rain 4 = .ok (.iload_n 1, 1) := by decide +kernel
theorem dX5_rain_5 : decode cX5_rain 5 = .ok (.invokevirtual 65, 3) := by decide +kernel
theorem dX5_rain_8 : decode cX5_rain 8 = .ok (.ifCond .eq 32, 3) := by decide +kernel
theorem dX5_rain_11 : decode cX5_rain 11 = .ok (.iload_n 2, 1) := by decide +kernel
theorem dX5_rain_12 : decode cX5_rain 12 = .ok (.iconst 0, 1) := by decide +kernel
theorem dX5_rain_13 : decode cX5_rain 13 = .ok (.sipush 300, 3) := by decide +kernel
theorem dX5_rain_16 : decode cX5_rain 16 = .ok (.invokestatic 50, 3) := by decide +kernel
theorem dX5_rain_19 : decode cX5_rain 19 = .ok (.ifCond .eq 21, 3) := by decide +kernel
theorem dX5_rain_22 : decode cX5_rain 22 = .ok (.iload_n 3, 1) := by decide +kernel
theorem dX5_rain_23 : decode cX5_rain 23 = .ok (.iconst 0, 1) := by decide +kernel
theorem dX5_rain_24 : decode cX5_rain 24 = .ok (.bipush 10, 2) := by decide +kernel
theorem dX5_rain_26 : decode cX5_rain 26 = .ok (.invokestatic 50, 3) := by decide +kernel
theorem dX5_rain_29 : decode cX5_rain 29 = .ok (.ifCond .eq 11, 3) := by decide +kernel
theorem dX5_rain_32 : decode cX5_rain 32 = .ok (.iload 4, 2) := by decide +kernel
theorem dX5_rain_34 : decode cX5_rain 34 = .ok (.invokestatic 101, 3) := by decide +kernel
theorem dX5_rain_37 : decode cX5_rain 37 = .ok (.ifCond .ne 5, 3) := by decide +kernel
theorem dX5_rain_40 : decode cX5_rain 40 = .ok (.iconst (-1), 1) := by decide +kernel
theorem dX5_rain_41 : decode cX5_rain 41 = .ok (.ireturn, 1) := by decide +kernel
theorem dX5_rain_42 : decode cX5_rain 42 = .ok (.aload_n 0, 1) := by decide +kernel
theorem dX5_rain_43 : decode cX5_rain 43 = .ok (.getfield 12, 3) := by decide +kernel
theorem dX5_rain_46 : decode cX5_rain 46 = .ok (.iload_n 1, 1) := by decide +kernel
theorem dX5_rain_47 : decode cX5_rain 47 = .ok (.iload_n 2, 1) := by decide +kernel
theorem dX5_rain_48 : decode cX5_rain 48 = .ok (.iload_n 3, 1) := by decide +kernel
theorem dX5_rain_49 : decode cX5_rain 49 = .ok (.invokevirtual 215, 3) := by decide +kernel
theorem dX5_rain_52 : decode cX5_rain 52 = .ok (.istore 5, 2) := by decide +kernel
theorem dX5_rain_54 : decode cX5_rain 54 = .ok (.bipush 10, 2) := by decide +kernel
theorem dX5_rain_56 : decode cX5_rain 56 = .ok (.bipush 63, 2) := by decide +kernel
theorem dX5_rain_58 : decode cX5_rain 58 = .ok (.aload_n 0, 1) := by decide +kernel
theorem dX5_rain_59 : decode cX5_rain 59 = .ok (.getfield 12, 3) := by decide +kernel
theorem dX5_rain_62 : decode cX5_rain 62 = .ok (.getfield 79, 3) := by decide +kernel
theorem dX5_rain_65 : decode cX5_rain 65 = .ok (.getfield 113, 3) := by decide +kernel
theorem dX5_rain_68 : decode cX5_rain 68 = .ok (.iconst (-1), 1) := by decide +kernel
theorem dX5_rain_69 : decode cX5_rain 69 = .ok (.ixor, 1) := by decide +kernel
theorem dX5_rain_70 : decode cX5_rain 70 = .ok (.iand, 1) := by decide +kernel
theorem dX5_rain_71 : decode cX5_rain 71 = .ok (.invokestatic 207, 3) := by decide +kernel
theorem dX5_rain_74 : decode cX5_rain 74 = .ok (.invokestatic 218, 3) := by decide +kernel
theorem dX5_rain_77 : decode cX5_rain 77 = .ok (.istore 6, 2) := by decide +kernel
theorem dX5_rain_79 : decode cX5_rain 79 = .ok (.iconst 1, 1) := by decide +kernel
theorem dX5_rain_80 : decode cX5_rain 80 = .ok (.iload 6, 2) := by decide +kernel
theorem dX5_rain_82 : decode cX5_rain 82 = .ok (.iload 5, 2) := by decide +kernel
theorem dX5_rain_84 : decode cX5_rain 84 = .ok (.invokestatic 221, 3) := by decide +kernel
theorem dX5_rain_87 : decode cX5_rain 87 = .ok (.invokestatic 224, 3) := by decide +kernel
theorem dX5_rain_90 : decode cX5_rain 90 = .ok (.istore 7, 2) := by decide +kernel
theorem dX5_rain_92 : decode cX5_rain 92 = .ok (.iload 4, 2) := by decide +kernel
theorem dX5_rain_94 : decode cX5_rain 94 = .ok (.ifCond .ne 8, 3) := by decide +kernel
theorem dX5_rain_97 : decode cX5_rain 97 = .ok (.iload 5, 2) := by decide +kernel
theorem dX5_rain_99 : decode cX5_rain 99 = .ok (.goto 5, 3) := by decide +kernel
theorem dX5_rain_102 : decode cX5_rain 102 = .ok (.iload 6, 2) := by decide +kernel
theorem dX5_rain_104 : decode cX5_rain 104 = .ok (.iload 7, 2) := by decide +kernel
theorem dX5_rain_106 : decode cX5_rain 106 = .ok (.idiv, 1) := by decide +kernel
theorem dX5_rain_107 : decode cX5_rain 107 = .ok (.ireturn, 1) := by decide +kernel
theorem dX5_image_0 : decode cX5_image 0 = .ok (.aload_n 0, 1) := by decide +kernel
theorem dX5_image_1 : decode cX5_image 1 = .ok (.getfield 23, 3) := by decide +kernel
theorem dX5_image_4 : decode cX5_image 4 = .ok (.aload_n 0, 1) := by decide +kernel
theorem dX5_image_5 : decode cX5_image 5 = .ok (.getfield 12, 3) := by decide +kernel
theorem dX5_image_8 : decode cX5_image 8 = .ok (.invokevirtual 130, 3) := by decide +kernel
theorem dX5_image_11 : decode cX5_image 11 = .ok (.aload_n 0, 1) := by decide +kernel
theorem dX5_image_12 : decode cX5_image 12 = .ok (.getfield 26, 3) := by decide +kernel
theorem dX5_image_15 : decode cX5_image 15 = .ok (.aload_n 0, 1) := by decide +kernel
theorem dX5_image_16 : decode cX5_image 16 = .ok (.getfield 19, 3) := by decide +kernel
theorem dX5_image_19 : decode cX5_image 19 = .ok (.invokevirtual 229, 3) := by decide +kernel
theorem dX5_image_22 : decode cX5_image 22 = .ok (.aload_n 0, 1) := by decide +kernel
theorem dX5_image_23 : decode cX5_image 23 = .ok (.iconst 1, 1) := by decide +kernel
theorem dX5_image_24 : decode cX5_image 24 = .ok (.putfield 29, 3) := by decide +kernel
theorem dX5_image_27 : decode cX5_image 27 = .ok (.iconst 1, 1) := by decide +kernel
theorem dX5_image_28 : decode cX5_image 28 = .ok (.ireturn, 1) := by decide +kernel
theorem dX5_restore_0 : decode cX5_restore 0 = .ok (.aload_n 0, 1) := by decide +kernel
theorem dX5_restore_1 : decode cX5_restore 1 = .ok (.getfield 29, 3) := by decide +kernel
theorem dX5_restore_4 : decode cX5_restore 4 = .ok (.ifCond .ne 6, 3) := by decide +kernel
theorem dX5_restore_7 : decode cX5_restore 7 = .ok (.bipush (-4), 2) := by decide +kernel
theorem dX5_restore_9 : decode cX5_restore 9 = .ok (.ireturn, 1) := by decide +kernel
theorem dX5_restore_10 : decode cX5_restore 10 = .ok (.aload_n 0, 1) := by decide +kernel
theorem dX5_restore_11 : decode cX5_restore 11 = .ok (.getfield 12, 3) := by decide +kernel
theorem dX5_restore_14 : decode cX5_restore 14 = .ok (.aload_n 0, 1) := by decide +kernel
theorem dX5_restore_15 : decode cX5_restore 15 = .ok (.getfield 23, 3) := by decide +kernel
theorem dX5_restore_18 : decode cX5_restore 18 = .ok (.invokevirtual 130, 3) := by decide +kernel
theorem dX5_restore_21 : decode cX5_restore 21 = .ok (.aload_n 0, 1) := by decide +kernel
theorem dX5_restore_22 : decode cX5_restore 22 = .ok (.getfield 19, 3) := by decide +kernel
theorem dX5_restore_25 : decode cX5_restore 25 = .ok (.aload_n 0, 1) := by decide +kernel
theorem dX5_restore_26 : decode cX5_restore 26 = .ok (.getfield 26, 3) := by decide +kernel
theorem dX5_restore_29 : decode cX5_restore 29 = .ok (.invokevirtual 229, 3) := by decide +kernel
theorem dX5_restore_32 : decode cX5_restore 32 = .ok (.iconst 1, 1) := by decide +kernel
theorem dX5_restore_33 : decode cX5_restore 33 = .ok (.ireturn, 1) := by decide +kernel
theorem dX5_told_0 : decode cX5_told 0 = .ok (.aload_n 0, 1) := by decide +kernel
theorem dX5_told_1 : decode cX5_told 1 = .ok (.getfield 12, 3) := by decide +kernel
theorem dX5_told_4 : decode cX5_told 4 = .ok (.iload_n 1, 1) := by decide +kernel
theorem dX5_told_5 : decode cX5_told 5 = .ok (.invokevirtual 65, 3) := by decide +kernel
theorem dX5_told_8 : decode cX5_told 8 = .ok (.ifCond .eq 36, 3) := by decide +kernel
theorem dX5_told_11 : decode cX5_told 11 = .ok (.iload_n 2, 1) := by decide +kernel
theorem dX5_told_12 : decode cX5_told 12 = .ok (.invokestatic 233, 3) := by decide +kernel
theorem dX5_told_15 : decode cX5_told 15 = .ok (.ifCond .eq 29, 3) := by decide +kernel
theorem dX5_told_18 : decode cX5_told 18 = .ok (.iload_n 3, 1) := by decide +kernel
theorem dX5_told_19 : decode cX5_told 19 = .ok (.invokestatic 236, 3) := by decide +kernel
theorem dX5_told_22 : decode cX5_told 22 = .ok (.ifCond .eq 22, 3) := by decide +kernel
theorem dX5_told_25 : decode cX5_told 25 = .ok (.iload 5, 2) := by decide +kernel
theorem dX5_told_27 : decode cX5_told 27 = .ok (.iconst 1, 1) := by decide +kernel
theorem dX5_told_28 : decode cX5_told 28 = .ok (.bipush 12, 2) := by decide +kernel
theorem dX5_told_30 : decode cX5_told 30 = .ok (.invokestatic 50, 3) := by decide +kernel
theorem dX5_told_33 : decode cX5_told 33 = .ok (.ifCond .eq 11, 3) := by decide +kernel
theorem dX5_told_36 : decode cX5_told 36 = .ok (.iload 6, 2) := by decide +kernel
theorem dX5_told_38 : decode cX5_told 38 = .ok (.invokestatic 101, 3) := by decide +kernel
theorem dX5_told_41 : decode cX5_told 41 = .ok (.ifCond .ne 5, 3) := by decide +kernel
theorem dX5_told_44 : decode cX5_told 44 = .ok (.iconst (-1), 1) := by decide +kernel
theorem dX5_told_45 : decode cX5_told 45 = .ok (.ireturn, 1) := by decide +kernel
theorem dX5_told_46 : decode cX5_told 46 = .ok (.aload_n 0, 1) := by decide +kernel
theorem dX5_told_47 : decode cX5_told 47 = .ok (.getfield 45, 3) := by decide +kernel
theorem dX5_told_50 : decode cX5_told 50 = .ok (.iload_n 2, 1) := by decide +kernel
theorem dX5_told_51 : decode cX5_told 51 = .ok (.aaload, 1) := by decide +kernel
theorem dX5_told_52 : decode cX5_told 52 = .ok (.astore 7, 2) := by decide +kernel
theorem dX5_told_54 : decode cX5_told 54 = .ok (.aload 7, 2) := by decide +kernel
theorem dX5_told_56 : decode cX5_told 56 = .ok (.iload_n 3, 1) := by decide +kernel
theorem dX5_told_57 : decode cX5_told 57 = .ok (.iload 4, 2) := by decide +kernel
theorem dX5_told_59 : decode cX5_told 59 = .ok (.iload 5, 2) := by decide +kernel
theorem dX5_told_61 : decode cX5_told 61 = .ok (.invokevirtual 239, 3) := by decide +kernel
theorem dX5_told_64 : decode cX5_told 64 = .ok (.istore 8, 2) := by decide +kernel
theorem dX5_told_66 : decode cX5_told 66 = .ok (.iload 8, 2) := by decide +kernel
theorem dX5_told_68 : decode cX5_told 68 = .ok (.ifCond .eq 6, 3) := by decide +kernel
theorem dX5_told_71 : decode cX5_told 71 = .ok (.iload 8, 2) := by decide +kernel
theorem dX5_told_73 : decode cX5_told 73 = .ok (.ireturn, 1) := by decide +kernel
theorem dX5_told_74 : decode cX5_told 74 = .ok (.iload 6, 2) := by decide +kernel
theorem dX5_told_76 : decode cX5_told 76 = .ok (.ifCond .ne 17, 3) := by decide +kernel
theorem dX5_told_79 : decode cX5_told 79 = .ok (.aload_n 0, 1) := by decide +kernel
theorem dX5_told_80 : decode cX5_told 80 = .ok (.iload_n 1, 1) := by decide +kernel
theorem dX5_told_81 : decode cX5_told 81 = .ok (.aload 7, 2) := by decide +kernel
theorem dX5_told_83 : decode cX5_told 83 = .ok (.iload 4, 2) := by decide +kernel
theorem dX5_told_85 : decode cX5_told 85 = .ok (.iload 5, 2) := by decide +kernel
theorem dX5_told_87 : decode cX5_told 87 = .ok (.invokevirtual 242, 3) := by decide +kernel
theorem dX5_told_90 : decode cX5_told 90 = .ok (.goto 14, 3) := by decide +kernel
theorem dX5_told_93 : decode cX5_told 93 = .ok (.aload_n 0, 1) := by decide +kernel
theorem dX5_told_94 : decode cX5_told 94 = .ok (.iload_n 1, 1) := by decide +kernel
theorem dX5_told_95 : decode cX5_told 95 = .ok (.aload 7, 2) := by decide +kernel
theorem dX5_told_97 : decode cX5_told 97 = .ok (.iload 4, 2) := by decide +kernel
theorem dX5_told_99 : decode cX5_told 99 = .ok (.iload 5, 2) := by decide +kernel
theorem dX5_told_101 : decode cX5_told 101 = .ok (.invokevirtual 246, 3) := by decide +kernel
theorem dX5_told_104 : decode cX5_told 104 = .ok (.ireturn, 1) := by decide +kernel
theorem dX5_film_0 : decode cX5_film 0 = .ok (.aload_n 0, 1) := by decide +kernel
theorem dX5_film_1 : decode cX5_film 1 = .ok (.getfield 12, 3) := by decide +kernel
theorem dX5_film_4 : decode cX5_film 4 = .ok (.iload_n 1, 1) := by decide +kernel
theorem dX5_film_5 : decode cX5_film 5 = .ok (.invokevirtual 65, 3) := by decide +kernel
theorem dX5_film_8 : decode cX5_film 8 = .ok (.ifCond .eq 28, 3) := by decide +kernel
theorem dX5_film_11 : decode cX5_film 11 = .ok (.iload_n 2, 1) := by decide +kernel
theorem dX5_film_12 : decode cX5_film 12 = .ok (.iconst 1, 1) := by decide +kernel
theorem dX5_film_13 : decode cX5_film 13 = .ok (.bipush 12, 2) := by decide +kernel
theorem dX5_film_15 : decode cX5_film 15 = .ok (.invokestatic 50, 3) := by decide +kernel
theorem dX5_film_18 : decode cX5_film 18 = .ok (.ifCond .eq 18, 3) := by decide +kernel
theorem dX5_film_21 : decode cX5_film 21 = .ok (.iload_n 3, 1) := by decide +kernel
theorem dX5_film_22 : decode cX5_film 22 = .ok (.invokestatic 233, 3) := by decide +kernel
theorem dX5_film_25 : decode cX5_film 25 = .ok (.ifCond .eq 11, 3) := by decide +kernel
theorem dX5_film_28 : decode cX5_film 28 = .ok (.iload 4, 2) := by decide +kernel
theorem dX5_film_30 : decode cX5_film 30 = .ok (.invokestatic 236, 3) := by decide +kernel
theorem dX5_film_33 : decode cX5_film 33 = .ok (.ifCond .ne 5, 3) := by decide +kernel
theorem dX5_film_36 : decode cX5_film 36 = .ok (.iconst (-1), 1) := by decide +kernel
theorem dX5_film_37 : decode cX5_film 37 = .ok (.ireturn, 1) := by decide +kernel
theorem dX5_film_38 : decode cX5_film 38 = .ok (.aload_n 0, 1) := by decide +kernel
theorem dX5_film_39 : decode cX5_film 39 = .ok (.getfield 45, 3) := by decide +kernel
theorem dX5_film_42 : decode cX5_film 42 = .ok (.iload_n 3, 1) := by decide +kernel
theorem dX5_film_43 : decode cX5_film 43 = .ok (.aaload, 1) := by decide +kernel
theorem dX5_film_44 : decode cX5_film 44 = .ok (.iload 4, 2) := by decide +kernel
theorem dX5_film_46 : decode cX5_film 46 = .ok (.iload 5, 2) := by decide +kernel
theorem dX5_film_48 : decode cX5_film 48 = .ok (.iload_n 2, 1) := by decide +kernel
theorem dX5_film_49 : decode cX5_film 49 = .ok (.invokevirtual 239, 3) := by decide +kernel
theorem dX5_film_52 : decode cX5_film 52 = .ok (.istore 6, 2) := by decide +kernel
theorem dX5_film_54 : decode cX5_film 54 = .ok (.iload 6, 2) := by decide +kernel
theorem dX5_film_56 : decode cX5_film 56 = .ok (.ifCond .eq 6, 3) := by decide +kernel
theorem dX5_film_59 : decode cX5_film 59 = .ok (.iload 6, 2) := by decide +kernel
theorem dX5_film_61 : decode cX5_film 61 = .ok (.ireturn, 1) := by decide +kernel
theorem dX5_film_62 : decode cX5_film 62 = .ok (.iconst 0, 1) := by decide +kernel
theorem dX5_film_63 : decode cX5_film 63 = .ok (.istore 7, 2) := by decide +kernel
theorem dX5_film_65 : decode cX5_film 65 = .ok (.iload 7, 2) := by decide +kernel
theorem dX5_film_67 : decode cX5_film 67 = .ok (.iload_n 2, 1) := by decide +kernel
theorem dX5_film_68 : decode cX5_film 68 = .ok (.if_icmp .ge 34, 3) := by decide +kernel
theorem dX5_film_71 : decode cX5_film 71 = .ok (.aload_n 0, 1) := by decide +kernel
theorem dX5_film_72 : decode cX5_film 72 = .ok (.getfield 45, 3) := by decide +kernel
theorem dX5_film_75 : decode cX5_film 75 = .ok (.iload_n 3, 1) := by decide +kernel
theorem dX5_film_76 : decode cX5_film 76 = .ok (.aaload, 1) := by decide +kernel
theorem dX5_film_77 : decode cX5_film 77 = .ok (.iload 5, 2) := by decide +kernel
theorem dX5_film_79 : decode cX5_film 79 = .ok (.iload 7, 2) := by decide +kernel
theorem dX5_film_81 : decode cX5_film 81 = .ok (.iadd, 1) := by decide +kernel
theorem dX5_film_82 : decode cX5_film 82 = .ok (.aload_n 0, 1) := by decide +kernel
theorem dX5_film_83 : decode cX5_film 83 = .ok (.getfield 12, 3) := by decide +kernel
theorem dX5_film_86 : decode cX5_film 86 = .ok (.iload_n 1, 1) := by decide +kernel
theorem dX5_film_87 : decode cX5_film 87 = .ok (.iload 7, 2) := by decide +kernel
theorem dX5_film_89 : decode cX5_film 89 = .ok (.invokevirtual 107, 3) := by decide +kernel
theorem dX5_film_92 : decode cX5_film 92 = .ok (.i2l, 1) := by decide +kernel
theorem dX5_film_93 : decode cX5_film 93 = .ok (.invokevirtual 249, 3) := by decide +kernel
theorem dX5_film_96 : decode cX5_film 96 = .ok (.iinc 7 1, 3) := by decide +kernel
theorem dX5_film_99 : decode cX5_film 99 = .ok (.goto (-34), 3) := by decide +kernel
theorem dX5_film_102 : decode cX5_film 102 = .ok (.iload_n 2, 1) := by decide +kernel
theorem dX5_film_103 : decode cX5_film 103 = .ok (.ireturn, 1) := by decide +kernel
theorem dX5_sheet_0 : decode cX5_sheet 0 = .ok (.iload_n 1, 1) := by decide +kernel
theorem dX5_sheet_1 : decode cX5_sheet 1 = .ok (.invokestatic 233, 3) := by decide +kernel
theorem dX5_sheet_4 : decode cX5_sheet 4 = .ok (.ifCond .eq 16, 3) := by decide +kernel
theorem dX5_sheet_7 : decode cX5_sheet 7 = .ok (.iload_n 2, 1) := by decide +kernel
theorem dX5_sheet_8 : decode cX5_sheet 8 = .ok (.invokestatic 236, 3) := by decide +kernel
theorem dX5_sheet_11 : decode cX5_sheet 11 = .ok (.ifCond .eq 9, 3) := by decide +kernel
theorem dX5_sheet_14 : decode cX5_sheet 14 = .ok (.iload_n 3, 1) := by decide +kernel
theorem dX5_sheet_15 : decode cX5_sheet 15 = .ok (.bipush 24, 2) := by decide +kernel
theorem dX5_sheet_17 : decode cX5_sheet 17 = .ok (.if_icmp .le 5, 3) := by decide +kernel
theorem dX5_sheet_20 : decode cX5_sheet 20 = .ok (.iconst (-1), 1) := by decide +kernel
theorem dX5_sheet_21 : decode cX5_sheet 21 = .ok (.ireturn, 1) := by decide +kernel
theorem dX5_sheet_22 : decode cX5_sheet 22 = .ok (.iload_n 3, 1) := by decide +kernel
theorem dX5_sheet_23 : decode cX5_sheet 23 = .ok (.ifCond .ge 6, 3) := by decide +kernel
theorem dX5_sheet_26 : decode cX5_sheet 26 = .ok (.bipush (-14), 2) := by decide +kernel
theorem dX5_sheet_28 : decode cX5_sheet 28 = .ok (.ireturn, 1) := by decide +kernel
theorem dX5_sheet_29 : decode cX5_sheet 29 = .ok (.aload_n 0, 1) := by decide +kernel
theorem dX5_sheet_30 : decode cX5_sheet 30 = .ok (.getfield 45, 3) := by decide +kernel
theorem dX5_sheet_33 : decode cX5_sheet 33 = .ok (.iload_n 1, 1) := by decide +kernel
theorem dX5_sheet_34 : decode cX5_sheet 34 = .ok (.aaload, 1) := by decide +kernel
theorem dX5_sheet_35 : decode cX5_sheet 35 = .ok (.iload_n 2, 1) := by decide +kernel
theorem dX5_sheet_36 : decode cX5_sheet 36 = .ok (.iload_n 3, 1) := by decide +kernel
theorem dX5_sheet_37 : decode cX5_sheet 37 = .ok (.invokevirtual 252, 3) := by decide +kernel
theorem dX5_sheet_40 : decode cX5_sheet 40 = .ok (.iload_n 3, 1) := by decide +kernel
theorem dX5_sheet_41 : decode cX5_sheet 41 = .ok (.ireturn, 1) := by decide +kernel
theorem dX5_drop_0 : decode cX5_drop 0 = .ok (.iload_n 1, 1) := by decide +kernel
theorem dX5_drop_1 : decode cX5_drop 1 = .ok (.invokestatic 233, 3) := by decide +kernel
theorem dX5_drop_4 : decode cX5_drop 4 = .ok (.ifCond .ne 5, 3) := by decide +kernel
theorem dX5_drop_7 : decode cX5_drop 7 = .ok (.iconst (-1), 1) := by decide +kernel
theorem dX5_drop_8 : decode cX5_drop 8 = .ok (.ireturn, 1) := by decide +kernel
theorem dX5_drop_9 : decode cX5_drop 9 = .ok (.aload_n 0, 1) := by decide +kernel
theorem dX5_drop_10 : decode cX5_drop 10 = .ok (.getfield 45, 3) := by decide +kernel
theorem dX5_drop_13 : decode cX5_drop 13 = .ok (.iload_n 1, 1) := by decide +kernel
theorem dX5_drop_14 : decode cX5_drop 14 = .ok (.aaload, 1) := by decide +kernel
theorem dX5_drop_15 : decode cX5_drop 15 = .ok (.getfield 256, 3) := by decide +kernel
theorem dX5_drop_18 : decode cX5_drop 18 = .ok (.iconst (-1), 1) := by decide +kernel
theorem dX5_drop_19 : decode cX5_drop 19 = .ok (.if_icmp .ne 6, 3) := by decide +kernel
theorem dX5_drop_22 : decode cX5_drop 22 = .ok (.bipush (-11), 2) := by decide +kernel
theorem dX5_drop_24 : decode cX5_drop 24 = .ok (.ireturn, 1) := by decide +kernel
theorem dX5_drop_25 : decode cX5_drop 25 = .ok (.aload_n 0, 1) := by decide +kernel
theorem dX5_drop_26 : decode cX5_drop 26 = .ok (.getfield 45, 3) := by decide +kernel
theorem dX5_drop_29 : decode cX5_drop 29 = .ok (.iload_n 1, 1) := by decide +kernel
theorem dX5_drop_30 : decode cX5_drop 30 = .ok (.aaload, 1) := by decide +kernel
theorem dX5_drop_31 : decode cX5_drop 31 = .ok (.getfield 259, 3) := by decide +kernel
theorem dX5_drop_34 : decode cX5_drop 34 = .ok (.istore_n 2, 1) := by decide +kernel
theorem dX5_drop_35 : decode cX5_drop 35 = .ok (.aload_n 0, 1) := by decide +kernel
theorem dX5_drop_36 : decode cX5_drop 36 = .ok (.getfield 45, 3) := by decide +kernel
theorem dX5_drop_39 : decode cX5_drop 39 = .ok (.iload_n 1, 1) := by decide +kernel
theorem dX5_drop_40 : decode cX5_drop 40 = .ok (.aaload, 1) := by decide +kernel
theorem dX5_drop_41 : decode cX5_drop 41 = .ok (.iconst (-1), 1) := by decide +kernel
theorem dX5_drop_42 : decode cX5_drop 42 = .ok (.iconst 0, 1) := by decide +kernel
theorem dX5_drop_43 : decode cX5_drop 43 = .ok (.invokevirtual 252, 3) := by decide +kernel
theorem dX5_drop_46 : decode cX5_drop 46 = .ok (.iload_n 2, 1) := by decide +kernel
theorem dX5_drop_47 : decode cX5_drop 47 = .ok (.ireturn, 1) := by decide +kernel
theorem dX5_item_0 : decode cX5_item 0 = .ok (.iload_n 1, 1) := by decide +kernel
theorem dX5_item_1 : decode cX5_item 1 = .ok (.invokestatic 233, 3) := by decide +kernel
theorem dX5_item_4 : decode cX5_item 4 = .ok (.ifCond .eq 10, 3) := by decide +kernel
theorem dX5_item_7 : decode cX5_item 7 = .ok (.iload_n 2, 1) := by decide +kernel
theorem dX5_item_8 : decode cX5_item 8 = .ok (.invokestatic 236, 3) := by decide +kernel
theorem dX5_item_11 : decode cX5_item 11 = .ok (.ifCond .ne 5, 3) := by decide +kernel
theorem dX5_item_14 : decode cX5_item 14 = .ok (.iconst (-1), 1) := by decide +kernel
theorem dX5_item_15 : decode cX5_item 15 = .ok (.ireturn, 1) := by decide +kernel
theorem dX5_item_16 : decode cX5_item 16 = .ok (.aload_n 0, 1) := by decide +kernel
theorem dX5_item_17 : decode cX5_item 17 = .ok (.getfield 45, 3) := by decide +kernel
theorem dX5_item_20 : decode cX5_item 20 = .ok (.iload_n 1, 1) := by decide +kernel
theorem dX5_item_21 : decode cX5_item 21 = .ok (.aaload, 1) := by decide +kernel
theorem dX5_item_22 : decode cX5_item 22 = .ok (.iload_n 2, 1) := by decide +kernel
theorem dX5_item_23 : decode cX5_item 23 = .ok (.iload_n 3, 1) := by decide +kernel
theorem dX5_item_24 : decode cX5_item 24 = .ok (.iconst 1, 1) := by decide +kernel
theorem dX5_item_25 : decode cX5_item 25 = .ok (.invokevirtual 239, 3) := by decide +kernel
theorem dX5_item_28 : decode cX5_item 28 = .ok (.istore 6, 2) := by decide +kernel
theorem dX5_item_30 : decode cX5_item 30 = .ok (.iload 6, 2) := by decide +kernel
theorem dX5_item_32 : decode cX5_item 32 = .ok (.ifCond .eq 6, 3) := by decide +kernel
theorem dX5_item_35 : decode cX5_item 35 = .ok (.iload 6, 2) := by decide +kernel
theorem dX5_item_37 : decode cX5_item 37 = .ok (.ireturn, 1) := by decide +kernel
theorem dX5_item_38 : decode cX5_item 38 = .ok (.aload_n 0, 1) := by decide +kernel
theorem dX5_item_39 : decode cX5_item 39 = .ok (.getfield 45, 3) := by decide +kernel
theorem dX5_item_42 : decode cX5_item 42 = .ok (.iload_n 1, 1) := by decide +kernel
theorem dX5_item_43 : decode cX5_item 43 = .ok (.aaload, 1) := by decide +kernel
theorem dX5_item_44 : decode cX5_item 44 = .ok (.iload_n 3, 1) := by decide +kernel
theorem dX5_item_45 : decode cX5_item 45 = .ok (.lload 4, 2) := by decide +kernel
theorem dX5_item_47 : decode cX5_item 47 = .ok (.invokevirtual 249, 3) := by decide +kernel
theorem dX5_item_50 : decode cX5_item 50 = .ok (.iconst 1, 1) := by decide +kernel
theorem dX5_item_51 : decode cX5_item 51 = .ok (.ireturn, 1) := by decide +kernel
theorem dX5_copy_0 : decode cX5_copy 0 = .ok (.iload_n 1, 1) := by decide +kernel
theorem dX5_copy_1 : decode cX5_copy 1 = .ok (.invokestatic 233, 3) := by decide +kernel
theorem dX5_copy_4 : decode cX5_copy 4 = .ok (.ifCond .eq 10, 3) := by decide +kernel
theorem dX5_copy_7 : decode cX5_copy 7 = .ok (.iload_n 3, 1) := by decide +kernel
theorem dX5_copy_8 : decode cX5_copy 8 = .ok (.invokestatic 233, 3) := by decide +kernel
theorem dX5_copy_11 : decode cX5_copy 11 = .ok (.ifCond .ne 5, 3) := by decide +kernel
theorem dX5_copy_14 : decode cX5_copy 14 = .ok (.iconst (-1), 1) := by decide +kernel
theorem dX5_copy_15 : decode cX5_copy 15 = .ok (.ireturn, 1) := by decide +kernel
theorem dX5_copy_16 : decode cX5_copy 16 = .ok (.aload_n 0, 1) := by decide +kernel
theorem dX5_copy_17 : decode cX5_copy 17 = .ok (.getfield 45, 3) := by decide +kernel
theorem dX5_copy_20 : decode cX5_copy 20 = .ok (.iload_n 1, 1) := by decide +kernel
theorem dX5_copy_21 : decode cX5_copy 21 = .ok (.aaload, 1) := by decide +kernel
theorem dX5_copy_22 : decode cX5_copy 22 = .ok (.astore 6, 2) := by decide +kernel
theorem dX5_copy_24 : decode cX5_copy 24 = .ok (.aload_n 0, 1) := by decide +kernel
theorem dX5_copy_25 : decode cX5_copy 25 = .ok (.getfield 45, 3) := by decide +kernel
theorem dX5_copy_28 : decode cX5_copy 28 = .ok (.iload_n 3, 1) := by decide +kernel
theorem dX5_copy_29 : decode cX5_copy 29 = .ok (.aaload, 1) := by decide +kernel
theorem dX5_copy_30 : decode cX5_copy 30 = .ok (.astore 7, 2) := by decide +kernel
theorem dX5_copy_32 : decode cX5_copy 32 = .ok (.aload 6, 2) := by decide +kernel
theorem dX5_copy_34 : decode cX5_copy 34 = .ok (.getfield 256, 3) := by decide +kernel
theorem dX5_copy_37 : decode cX5_copy 37 = .ok (.iconst (-1), 1) := by decide +kernel
theorem dX5_copy_38 : decode cX5_copy 38 = .ok (.if_icmp .eq 12, 3) := by decide +kernel
theorem dX5_copy_41 : decode cX5_copy 41 = .ok (.aload 7, 2) := by decide +kernel
theorem dX5_copy_43 : decode cX5_copy 43 = .ok (.getfield 256, 3) := by decide +kernel
theorem dX5_copy_46 : decode cX5_copy 46 = .ok (.iconst (-1), 1) := by decide +kernel
theorem dX5_copy_47 : decode cX5_copy 47 = .ok (.if_icmp .ne 6, 3) := by decide +kernel
theorem dX5_copy_50 : decode cX5_copy 50 = .ok (.bipush (-11), 2) := by decide +kernel
theorem dX5_copy_52 : decode cX5_copy 52 = .ok (.ireturn, 1) := by decide +kernel
theorem dX5_copy_53 : decode cX5_copy 53 = .ok (.aload 6, 2) := by decide +kernel
theorem dX5_copy_55 : decode cX5_copy 55 = .ok (.getfield 256, 3) := by decide +kernel
theorem dX5_copy_58 : decode cX5_copy 58 = .ok (.aload 7, 2) := by decide +kernel
theorem dX5_copy_60 : decode cX5_copy 60 = .ok (.getfield 256, 3) := by decide +kernel
theorem dX5_copy_63 : decode cX5_copy 63 = .ok (.if_icmp .eq 6, 3) := by decide +kernel
theorem dX5_copy_66 : decode cX5_copy 66 = .ok (.bipush (-12), 2) := by decide +kernel
theorem dX5_copy_68 : decode cX5_copy 68 = .ok (.ireturn, 1) := by decide +kernel
theorem dX5_copy_69 : decode cX5_copy 69 = .ok (.aload 6, 2) := by decide +kernel
theorem dX5_copy_71 : decode cX5_copy 71 = .ok (.iload_n 2, 1) := by decide +kernel
theorem dX5_copy_72 : decode cX5_copy 72 = .ok (.iload 5, 2) := by decide +kernel
theorem dX5_copy_74 : decode cX5_copy 74 = .ok (.invokevirtual 262, 3) := by decide +kernel
theorem dX5_copy_77 : decode cX5_copy 77 = .ok (.ifCond .eq 15, 3) := by decide +kernel
theorem dX5_copy_80 : decode cX5_copy 80 = .ok (.aload 7, 2) := by decide +kernel
theorem dX5_copy_82 : decode cX5_copy 82 = .ok (.iload 4, 2) := by decide +kernel
theorem dX5_copy_84 : decode cX5_copy 84 = .ok (.iload 5, 2) := by decide +kernel
theorem dX5_copy_86 : decode cX5_copy 86 = .ok (.invokevirtual 262, 3) := by decide +kernel
theorem dX5_copy_89 : decode cX5_copy 89 = .ok (.ifCond .ne 6, 3) := by decide +kernel
theorem dX5_copy_92 : decode cX5_copy 92 = .ok (.bipush (-13), 2) := by decide +kernel
theorem dX5_copy_94 : decode cX5_copy 94 = .ok (.ireturn, 1) := by decide +kernel
theorem dX5_copy_95 : decode cX5_copy 95 = .ok (.aload 6, 2) := by decide +kernel
theorem dX5_copy_97 : decode cX5_copy 97 = .ok (.getfield 265, 3) := by decide +kernel
theorem dX5_copy_100 : decode cX5_copy 100 = .ok (.iload_n 2, 1) := by decide +kernel
theorem dX5_copy_101 : decode cX5_copy 101 = .ok (.aload 7, 2) := by decide +kernel
theorem dX5_copy_103 : decode cX5_copy 103 = .ok (.getfield 265, 3) := by decide +kernel
theorem dX5_copy_106 : decode cX5_copy 106 = .ok (.iload 4, 2) := by decide +kernel
theorem dX5_copy_108 : decode cX5_copy 108 = .ok (.iload 5, 2) := by decide +kernel
theorem dX5_copy_110 : decode cX5_copy 110 = .ok (.invokestatic 269, 3) := by decide +kernel
theorem dX5_copy_113 : decode cX5_copy 113 = .ok (.iload 5, 2) := by decide +kernel
theorem dX5_copy_115 : decode cX5_copy 115 = .ok (.ireturn, 1) := by decide +kernel
theorem dX5_kindsTold_0 : decode cX5_kindsTold 0 = .ok (.aload_n 0, 1) := by decide +kernel
theorem dX5_kindsTold_1 : decode cX5_kindsTold 1 = .ok (.getfield 12, 3) := by decide +kernel
theorem dX5_kindsTold_4 : decode cX5_kindsTold 4 = .ok (.iload_n 1, 1) := by decide +kernel
theorem dX5_kindsTold_5 : decode cX5_kindsTold 5 = .ok (.aload_n 0, 1) := by decide +kernel
theorem dX5_kindsTold_6 : decode cX5_kindsTold 6 = .ok (.getfield 12, 3) := by decide +kernel
theorem dX5_kindsTold_9 : decode cX5_kindsTold 9 = .ok (.getfield 69, 3) := by decide +kernel
theorem dX5_kindsTold_12 : decode cX5_kindsTold 12 = .ok (.iload_n 1, 1) := by decide +kernel
theorem dX5_kindsTold_13 : decode cX5_kindsTold 13 = .ok (.iaload, 1) := by decide +kernel
theorem dX5_kindsTold_14 : decode cX5_kindsTold 14 = .ok (.invokevirtual 275, 3) := by decide +kernel
theorem dX5_kindsTold_17 : decode cX5_kindsTold 17 = .ok (.istore 5, 2) := by decide +kernel
theorem dX5_kindsTold_19 : decode cX5_kindsTold 19 = .ok (.iconst 0, 1) := by decide +kernel
theorem dX5_kindsTold_20 : decode cX5_kindsTold 20 = .ok (.istore 6, 2) := by decide +kernel
theorem dX5_kindsTold_22 : decode cX5_kindsTold 22 = .ok (.iconst 0, 1) := by decide +kernel
theorem dX5_kindsTold_23 : decode cX5_kindsTold 23 = .ok (.istore 7, 2) := by decide +kernel
theorem dX5_kindsTold_25 : decode cX5_kindsTold 25 = .ok (.iload 7, 2) := by decide +kernel
theorem dX5_kindsTold_27 : decode cX5_kindsTold 27 = .ok (.iconst 5, 1) := by decide +kernel
theorem dX5_kindsTold_28 : decode cX5_kindsTold 28 = .ok (.if_icmp .ge 34, 3) := by decide +kernel
theorem dX5_kindsTold_31 : decode cX5_kindsTold 31 = .ok (.aload_n 0, 1) := by decide +kernel
theorem dX5_kindsTold_32 : decode cX5_kindsTold 32 = .ok (.iload_n 1, 1) := by decide +kernel
theorem dX5_kindsTold_33 : decode cX5_kindsTold 33 = .ok (.iload 7, 2) := by decide +kernel
theorem dX5_kindsTold_35 : decode cX5_kindsTold 35 = .ok (.iload 5, 2) := by decide +kernel
theorem dX5_kindsTold_37 : decode cX5_kindsTold 37 = .ok (.aload_n 2, 1) := by decide +kernel
theorem dX5_kindsTold_38 : decode cX5_kindsTold 38 = .ok (.iload_n 3, 1) := by decide +kernel
theorem dX5_kindsTold_39 : decode cX5_kindsTold 39 = .ok (.iload 4, 2) := by decide +kernel
theorem dX5_kindsTold_41 : decode cX5_kindsTold 41 = .ok (.invokevirtual 278, 3) := by decide +kernel
theorem dX5_kindsTold_44 : decode cX5_kindsTold 44 = .ok (.ifCond .eq 12, 3) := by decide +kernel
theorem dX5_kindsTold_47 : decode cX5_kindsTold 47 = .ok (.iload 6, 2) := by decide +kernel
theorem dX5_kindsTold_49 : decode cX5_kindsTold 49 = .ok (.iconst 1, 1) := by decide +kernel
theorem dX5_kindsTold_50 : decode cX5_kindsTold 50 = .ok (.iload 7, 2) := by decide +kernel
theorem dX5_kindsTold_52 : decode cX5_kindsTold 52 = .ok (.ishl, 1) := by decide +kernel
theorem dX5_kindsTold_53 : decode cX5_kindsTold 53 = .ok (.ior, 1) := by decide +kernel
theorem dX5_kindsTold_54 : decode cX5_kindsTold 54 = .ok (.istore 6, 2) := by decide +kernel
theorem dX5_kindsTold_56 : decode cX5_kindsTold 56 = .ok (.iinc 7 1, 3) := by decide +kernel
theorem dX5_kindsTold_59 : decode cX5_kindsTold 59 = .ok (.goto (-34), 3) := by decide +kernel
theorem dX5_kindsTold_62 : decode cX5_kindsTold 62 = .ok (.iload 6, 2) := by decide +kernel
theorem dX5_kindsTold_64 : decode cX5_kindsTold 64 = .ok (.ireturn, 1) := by decide +kernel
theorem dX5_lovesTold_0 : decode cX5_lovesTold 0 = .ok (.iconst 0, 1) := by decide +kernel
theorem dX5_lovesTold_1 : decode cX5_lovesTold 1 = .ok (.istore 5, 2) := by decide +kernel
theorem dX5_lovesTold_3 : decode cX5_lovesTold 3 = .ok (.iconst 0, 1) := by decide +kernel
theorem dX5_lovesTold_4 : decode cX5_lovesTold 4 = .ok (.istore 6, 2) := by decide +kernel
theorem dX5_lovesTold_6 : decode cX5_lovesTold 6 = .ok (.iload 6, 2) := by decide +kernel
theorem dX5_lovesTold_8 : decode cX5_lovesTold 8 = .ok (.aload_n 0, 1) := by decide +kernel
theorem dX5_lovesTold_9 : decode cX5_lovesTold 9 = .ok (.getfield 12, 3) := by decide +kernel
theorem dX5_lovesTold_12 : decode cX5_lovesTold 12 = .ok (.getfield 54, 3) := by decide +kernel
theorem dX5_lovesTold_15 : decode cX5_lovesTold 15 = .ok (.if_icmp .ge 49, 3) := by decide +kernel
theorem dX5_lovesTold_18 : decode cX5_lovesTold 18 = .ok (.aload_n 0, 1) := by decide +kernel
theorem dX5_lovesTold_19 : decode cX5_lovesTold 19 = .ok (.iload_n 1, 1) := by decide +kernel
theorem dX5_lovesTold_20 : decode cX5_lovesTold 20 = .ok (.aload_n 0, 1) := by decide +kernel
theorem dX5_lovesTold_21 : decode cX5_lovesTold 21 = .ok (.getfield 12, 3) := by decide +kernel
theorem dX5_lovesTold_24 : decode cX5_lovesTold 24 = .ok (.getfield 76, 3) := by decide +kernel
theorem dX5_lovesTold_27 : decode cX5_lovesTold 27 = .ok (.iload_n 1, 1) := by decide +kernel
theorem dX5_lovesTold_28 : decode cX5_lovesTold 28 = .ok (.iaload, 1) := by decide +kernel
theorem dX5_lovesTold_29 : decode cX5_lovesTold 29 = .ok (.aload_n 0, 1) := by decide +kernel
theorem dX5_lovesTold_30 : decode cX5_lovesTold 30 = .ok (.getfield 12, 3) := by decide +kernel
theorem dX5_lovesTold_33 : decode cX5_lovesTold 33 = .ok (.iload_n 1, 1) := by decide +kernel
theorem dX5_lovesTold_34 : decode cX5_lovesTold 34 = .ok (.iload 6, 2) := by decide +kernel
theorem dX5_lovesTold_36 : decode cX5_lovesTold 36 = .ok (.invokevirtual 275, 3) := by decide +kernel
theorem dX5_lovesTold_39 : decode cX5_lovesTold 39 = .ok (.aload_n 2, 1) := by decide +kernel
theorem dX5_lovesTold_40 : decode cX5_lovesTold 40 = .ok (.iload_n 3, 1) := by decide +kernel
theorem dX5_lovesTold_41 : decode cX5_lovesTold 41 = .ok (.iload 4, 2) := by decide +kernel
theorem dX5_lovesTold_43 : decode cX5_lovesTold 43 = .ok (.invokevirtual 278, 3) := by decide +kernel
theorem dX5_lovesTold_46 : decode cX5_lovesTold 46 = .ok (.ifCond .eq 12, 3) := by decide +kernel
theorem dX5_lovesTold_49 : decode cX5_lovesTold 49 = .ok (.iload 5, 2) := by decide +kernel
theorem dX5_lovesTold_51 : decode cX5_lovesTold 51 = .ok (.iconst 1, 1) := by decide +kernel
theorem dX5_lovesTold_52 : decode cX5_lovesTold 52 = .ok (.iload 6, 2) := by decide +kernel
theorem dX5_lovesTold_54 : decode cX5_lovesTold 54 = .ok (.ishl, 1) := by decide +kernel
theorem dX5_lovesTold_55 : decode cX5_lovesTold 55 = .ok (.ior, 1) := by decide +kernel
theorem dX5_lovesTold_56 : decode cX5_lovesTold 56 = .ok (.istore 5, 2) := by decide +kernel
theorem dX5_lovesTold_58 : decode cX5_lovesTold 58 = .ok (.iinc 6 1, 3) := by decide +kernel
theorem dX5_lovesTold_61 : decode cX5_lovesTold 61 = .ok (.goto (-55), 3) := by decide +kernel
theorem dX5_lovesTold_64 : decode cX5_lovesTold 64 = .ok (.iload 5, 2) := by decide +kernel
theorem dX5_lovesTold_66 : decode cX5_lovesTold 66 = .ok (.ireturn, 1) := by decide +kernel
theorem dX5_isAsTold_0 : decode cX5_isAsTold 0 = .ok (.aload_n 0, 1) := by decide +kernel
theorem dX5_isAsTold_1 : decode cX5_isAsTold 1 = .ok (.getfield 12, 3) := by decide +kernel
theorem dX5_isAsTold_4 : decode cX5_isAsTold 4 = .ok (.getfield 79, 3) := by decide +kernel
theorem dX5_isAsTold_7 : decode cX5_isAsTold 7 = .ok (.astore 7, 2) := by decide +kernel
theorem dX5_isAsTold_9 : decode cX5_isAsTold 9 = .ok (.iconst 0, 1) := by decide +kernel
theorem dX5_isAsTold_10 : decode cX5_isAsTold 10 = .ok (.istore 8, 2) := by decide +kernel
theorem dX5_isAsTold_12 : decode cX5_isAsTold 12 = .ok (.iload 8, 2) := by decide +kernel
theorem dX5_isAsTold_14 : decode cX5_isAsTold 14 = .ok (.iload 6, 2) := by decide +kernel
theorem dX5_isAsTold_16 : decode cX5_isAsTold 16 = .ok (.if_icmp .ge 55, 3) := by decide +kernel
theorem dX5_isAsTold_19 : decode cX5_isAsTold 19 = .ok (.iload_n 2, 1) := by decide +kernel
theorem dX5_isAsTold_20 : decode cX5_isAsTold 20 = .ok (.iload 8, 2) := by decide +kernel
theorem dX5_isAsTold_22 : decode cX5_isAsTold 22 = .ok (.aload 7, 2) := by decide +kernel
theorem dX5_isAsTold_24 : decode cX5_isAsTold 24 = .ok (.getfield 88, 3) := by decide +kernel
theorem dX5_isAsTold_27 : decode cX5_isAsTold 27 = .ok (.iload_n 1, 1) := by decide +kernel
theorem dX5_isAsTold_28 : decode cX5_isAsTold 28 = .ok (.iaload, 1) := by decide +kernel
theorem dX5_isAsTold_29 : decode cX5_isAsTold 29 = .ok (.iload_n 3, 1) := by decide +kernel
theorem dX5_isAsTold_30 : decode cX5_isAsTold 30 = .ok (.aload 7, 2) := by decide +kernel
theorem dX5_isAsTold_32 : decode cX5_isAsTold 32 = .ok (.getfield 113, 3) := by decide +kernel
theorem dX5_isAsTold_35 : decode cX5_isAsTold 35 = .ok (.aload 7, 2) := by decide +kernel
theorem dX5_isAsTold_37 : decode cX5_isAsTold 37 = .ok (.getfield 116, 3) := by decide +kernel
theorem dX5_isAsTold_40 : decode cX5_isAsTold 40 = .ok (.invokestatic 282, 3) := by decide +kernel
theorem dX5_isAsTold_43 : decode cX5_isAsTold 43 = .ok (.istore 9, 2) := by decide +kernel
theorem dX5_isAsTold_45 : decode cX5_isAsTold 45 = .ok (.aload 4, 2) := by decide +kernel
theorem dX5_isAsTold_47 : decode cX5_isAsTold 47 = .ok (.getfield 265, 3) := by decide +kernel
theorem dX5_isAsTold_50 : decode cX5_isAsTold 50 = .ok (.iload 5, 2) := by decide +kernel
theorem dX5_isAsTold_52 : decode cX5_isAsTold 52 = .ok (.iload 8, 2) := by decide +kernel
theorem dX5_isAsTold_54 : decode cX5_isAsTold 54 = .ok (.iadd, 1) := by decide +kernel
theorem dX5_isAsTold_55 : decode cX5_isAsTold 55 = .ok (.laload, 1) := by decide +kernel
theorem dX5_isAsTold_56 : decode cX5_isAsTold 56 = .ok (.iload 9, 2) := by decide +kernel
theorem dX5_isAsTold_58 : decode cX5_isAsTold 58 = .ok (.i2l, 1) := by decide +kernel
theorem dX5_isAsTold_59 : decode cX5_isAsTold 59 = .ok (.lcmp, 1) := by decide +kernel
theorem dX5_isAsTold_60 : decode cX5_isAsTold 60 = .ok (.ifCond .eq 5, 3) := by decide +kernel
theorem dX5_isAsTold_63 : decode cX5_isAsTold 63 = .ok (.iconst 0, 1) := by decide +kernel
theorem dX5_isAsTold_64 : decode cX5_isAsTold 64 = .ok (.ireturn, 1) := by decide +kernel
theorem dX5_isAsTold_65 : decode cX5_isAsTold 65 = .ok (.iinc 8 1, 3) := by decide +kernel
theorem dX5_isAsTold_68 : decode cX5_isAsTold 68 = .ok (.goto (-56), 3) := by decide +kernel
theorem dX5_isAsTold_71 : decode cX5_isAsTold 71 = .ok (.iconst 1, 1) := by decide +kernel
theorem dX5_isAsTold_72 : decode cX5_isAsTold 72 = .ok (.ireturn, 1) := by decide +kernel
theorem dX5_isWithin_0 : decode cX5_isWithin 0 = .ok (.iload_n 0, 1) := by decide +kernel
theorem dX5_isWithin_1 : decode cX5_isWithin 1 = .ok (.iload_n 1, 1) := by decide +kernel
theorem dX5_isWithin_2 : decode cX5_isWithin 2 = .ok (.if_icmp .lt 12, 3) := by decide +kernel
theorem dX5_isWithin_5 : decode cX5_isWithin 5 = .ok (.iload_n 0, 1) := by decide +kernel
theorem dX5_isWithin_6 : decode cX5_isWithin 6 = .ok (.iload_n 2, 1) := by decide +kernel
theorem dX5_isWithin_7 : decode cX5_isWithin 7 = .ok (.if_icmp .gt 7, 3) := by decide +kernel
theorem dX5_isWithin_10 : decode cX5_isWithin 10 = .ok (.iconst 1, 1) := by decide +kernel
theorem dX5_isWithin_11 : decode cX5_isWithin 11 = .ok (.goto 4, 3) := by decide +kernel
theorem dX5_isWithin_14 : decode cX5_isWithin 14 = .ok (.iconst 0, 1) := by decide +kernel
theorem dX5_isWithin_15 : decode cX5_isWithin 15 = .ok (.ireturn, 1) := by decide +kernel
theorem dX5_isFlag_0 : decode cX5_isFlag 0 = .ok (.iload_n 0, 1) := by decide +kernel
theorem dX5_isFlag_1 : decode cX5_isFlag 1 = .ok (.ifCond .eq 8, 3) := by decide +kernel
theorem dX5_isFlag_4 : decode cX5_isFlag 4 = .ok (.iload_n 0, 1) := by decide +kernel
theorem dX5_isFlag_5 : decode cX5_isFlag 5 = .ok (.iconst 1, 1) := by decide +kernel
theorem dX5_isFlag_6 : decode cX5_isFlag 6 = .ok (.if_icmp .ne 7, 3) := by decide +kernel
theorem dX5_isFlag_9 : decode cX5_isFlag 9 = .ok (.iconst 1, 1) := by decide +kernel
theorem dX5_isFlag_10 : decode cX5_isFlag 10 = .ok (.goto 4, 3) := by decide +kernel
theorem dX5_isFlag_13 : decode cX5_isFlag 13 = .ok (.iconst 0, 1) := by decide +kernel
theorem dX5_isFlag_14 : decode cX5_isFlag 14 = .ok (.ireturn, 1) := by decide +kernel
theorem dX5_isSunday_0 : decode cX5_isSunday 0 = .ok (.iload_n 0, 1) := by decide +kernel
theorem dX5_isSunday_1 : decode cX5_isSunday 1 = .ok (.iconst 0, 1) := by decide +kernel
theorem dX5_isSunday_2 : decode cX5_isSunday 2 = .ok (.iconst 5, 1) := by decide +kernel
theorem dX5_isSunday_3 : decode cX5_isSunday 3 = .ok (.invokestatic 50, 3) := by decide +kernel
theorem dX5_isSunday_6 : decode cX5_isSunday 6 = .ok (.ireturn, 1) := by decide +kernel
theorem dX5_isHalf_0 : decode cX5_isHalf 0 = .ok (.iload_n 0, 1) := by decide +kernel
theorem dX5_isHalf_1 : decode cX5_isHalf 1 = .ok (.iconst 0, 1) := by decide +kernel
theorem dX5_isHalf_2 : decode cX5_isHalf 2 = .ok (.bipush 11, 2) := by decide +kernel
theorem dX5_isHalf_4 : decode cX5_isHalf 4 = .ok (.invokestatic 50, 3) := by decide +kernel
theorem dX5_isHalf_7 : decode cX5_isHalf 7 = .ok (.ireturn, 1) := by decide +kernel
theorem dX5_isSheet_0 : decode cX5_isSheet 0 = .ok (.iload_n 0, 1) := by decide +kernel
theorem dX5_isSheet_1 : decode cX5_isSheet 1 = .ok (.iconst 0, 1) := by decide +kernel
theorem dX5_isSheet_2 : decode cX5_isSheet 2 = .ok (.iconst 3, 1) := by decide +kernel
theorem dX5_isSheet_3 : decode cX5_isSheet 3 = .ok (.invokestatic 50, 3) := by decide +kernel
theorem dX5_isSheet_6 : decode cX5_isSheet 6 = .ok (.ireturn, 1) := by decide +kernel
theorem dX5_isLane_0 : decode cX5_isLane 0 = .ok (.iload_n 0, 1) := by decide +kernel
theorem dX5_isLane_1 : decode cX5_isLane 1 = .ok (.iconst 0, 1) := by decide +kernel
theorem dX5_isLane_2 : decode cX5_isLane 2 = .ok (.iconst 3, 1) := by decide +kernel
theorem dX5_isLane_3 : decode cX5_isLane 3 = .ok (.invokestatic 50, 3) := by decide +kernel
theorem dX5_isLane_6 : decode cX5_isLane 6 = .ok (.ireturn, 1) := by decide +kernel
theorem dX5_isIn_0 : decode cX5_isIn 0 = .ok (.iload_n 0, 1) := by decide +kernel
theorem dX5_isIn_1 : decode cX5_isIn 1 = .ok (.iload_n 1, 1) := by decide +kernel
theorem dX5_isIn_2 : decode cX5_isIn 2 = .ok (.ishr, 1) := by decide +kernel
theorem dX5_isIn_3 : decode cX5_isIn 3 = .ok (.iconst 1, 1) := by decide +kernel
theorem dX5_isIn_4 : decode cX5_isIn 4 = .ok (.iand, 1) := by decide +kernel
theorem dX5_isIn_5 : decode cX5_isIn 5 = .ok (.ifCond .eq 7, 3) := by decide +kernel
theorem dX5_isIn_8 : decode cX5_isIn 8 = .ok (.iconst 1, 1) := by decide +kernel
theorem dX5_isIn_9 : decode cX5_isIn 9 = .ok (.goto 4, 3) := by decide +kernel
theorem dX5_isIn_12 : decode cX5_isIn 12 = .ok (.iconst 0, 1) := by decide +kernel
theorem dX5_isIn_13 : decode cX5_isIn 13 = .ok (.ireturn, 1) := by decide +kernel
theorem dX5_lengthFrom_0 : decode cX5_lengthFrom 0 = .ok (.iconst 0, 1) := by decide +kernel
theorem dX5_lengthFrom_1 : decode cX5_lengthFrom 1 = .ok (.istore_n 2, 1) := by decide +kernel
theorem dX5_lengthFrom_2 : decode cX5_lengthFrom 2 = .ok (.iload_n 1, 1) := by decide +kernel
theorem dX5_lengthFrom_3 : decode cX5_lengthFrom 3 = .ok (.iload_n 2, 1) := by decide +kernel
theorem dX5_lengthFrom_4 : decode cX5_lengthFrom 4 = .ok (.iadd, 1) := by decide +kernel
theorem dX5_lengthFrom_5 : decode cX5_lengthFrom 5 = .ok (.bipush 12, 2) := by decide +kernel
theorem dX5_lengthFrom_7 : decode cX5_lengthFrom 7 = .ok (.if_icmp .ge 19, 3) := by decide +kernel
theorem dX5_lengthFrom_10 : decode cX5_lengthFrom 10 = .ok (.iload_n 0, 1) := by decide +kernel
theorem dX5_lengthFrom_11 : decode cX5_lengthFrom 11 = .ok (.iload_n 1, 1) := by decide +kernel
theorem dX5_lengthFrom_12 : decode cX5_lengthFrom 12 = .ok (.iload_n 2, 1) := by decide +kernel
theorem dX5_lengthFrom_13 : decode cX5_lengthFrom 13 = .ok (.iadd, 1) := by decide +kernel
theorem dX5_lengthFrom_14 : decode cX5_lengthFrom 14 = .ok (.invokestatic 119, 3) := by decide +kernel
theorem dX5_lengthFrom_17 : decode cX5_lengthFrom 17 = .ok (.ifCond .eq 9, 3) := by decide +kernel
theorem dX5_lengthFrom_20 : decode cX5_lengthFrom 20 = .ok (.iinc 2 1, 3) := by decide +kernel
theorem dX5_lengthFrom_23 : decode cX5_lengthFrom 23 = .ok (.goto (-21), 3) := by decide +kernel
theorem dX5_lengthFrom_26 : decode cX5_lengthFrom 26 = .ok (.iload_n 2, 1) := by decide +kernel
theorem dX5_lengthFrom_27 : decode cX5_lengthFrom 27 = .ok (.ireturn, 1) := by decide +kernel
theorem dX5_power_0 : decode cX5_power 0 = .ok (.iconst 1, 1) := by decide +kernel
theorem dX5_power_1 : decode cX5_power 1 = .ok (.istore_n 2, 1) := by decide +kernel
theorem dX5_power_2 : decode cX5_power 2 = .ok (.iconst 0, 1) := by decide +kernel
theorem dX5_power_3 : decode cX5_power 3 = .ok (.istore_n 3, 1) := by decide +kernel
theorem dX5_power_4 : decode cX5_power 4 = .ok (.iload_n 3, 1) := by decide +kernel
theorem dX5_power_5 : decode cX5_power 5 = .ok (.iload_n 1, 1) := by decide +kernel
theorem dX5_power_6 : decode cX5_power 6 = .ok (.if_icmp .ge 13, 3) := by decide +kernel
theorem dX5_power_9 : decode cX5_power 9 = .ok (.iload_n 2, 1) := by decide +kernel
theorem dX5_power_10 : decode cX5_power 10 = .ok (.iload_n 0, 1) := by decide +kernel
theorem dX5_power_11 : decode cX5_power 11 = .ok (.imul, 1) := by decide +kernel
theorem dX5_power_12 : decode cX5_power 12 = .ok (.istore_n 2, 1) := by decide +kernel
theorem dX5_power_13 : decode cX5_power 13 = .ok (.iinc 3 1, 3) := by decide +kernel
theorem dX5_power_16 : decode cX5_power 16 = .ok (.goto (-12), 3) := by decide +kernel
theorem dX5_power_19 : decode cX5_power 19 = .ok (.iload_n 2, 1) := by decide +kernel
theorem dX5_power_20 : decode cX5_power 20 = .ok (.ireturn, 1) := by decide +kernel
theorem dX5_greatestDivisor_0 : decode cX5_greatestDivisor 0 = .ok (.iconst 0, 1) := by decide +kernel
theorem dX5_greatestDivisor_1 : decode cX5_greatestDivisor 1 = .ok (.istore_n 2, 1) := by decide +kernel
theorem dX5_greatestDivisor_2 : decode cX5_greatestDivisor 2 = .ok (.iload_n 2, 1) := by decide +kernel
theorem dX5_greatestDivisor_3 : decode cX5_greatestDivisor 3 = .ok (.bipush 64, 2) := by decide +kernel
theorem dX5_greatestDivisor_5 : decode cX5_greatestDivisor 5 = .ok (.if_icmp .ge 21, 3) := by decide +kernel
theorem dX5_greatestDivisor_8 : decode cX5_greatestDivisor 8 = .ok (.iload_n 1, 1) := by decide +kernel
theorem dX5_greatestDivisor_9 : decode cX5_greatestDivisor 9 = .ok (.ifCond .eq 17, 3) := by decide +kernel
theorem dX5_greatestDivisor_12 : decode cX5_greatestDivisor 12 = .ok (.iload_n 0, 1) := by decide +kernel
theorem dX5_greatestDivisor_13 : decode cX5_greatestDivisor 13 = .ok (.iload_n 1, 1) := by decide +kernel
theorem dX5_greatestDivisor_14 : decode cX5_greatestDivisor 14 = .ok (.irem, 1) := by decide +kernel
theorem dX5_greatestDivisor_15 : decode cX5_greatestDivisor 15 = .ok (.istore_n 3, 1) := by decide +kernel
theorem dX5_greatestDivisor_16 : decode cX5_greatestDivisor 16 = .ok (.iload_n 1, 1) := by decide +kernel
theorem dX5_greatestDivisor_17 : decode cX5_greatestDivisor 17 = .ok (.istore_n 0, 1) := by decide +kernel
theorem dX5_greatestDivisor_18 : decode cX5_greatestDivisor 18 = .ok (.iload_n 3, 1) := by decide +kernel
theorem dX5_greatestDivisor_19 : decode cX5_greatestDivisor 19 = .ok (.istore_n 1, 1) := by decide +kernel
theorem dX5_greatestDivisor_20 : decode cX5_greatestDivisor 20 = .ok (.iinc 2 1, 3) := by decide +kernel
theorem dX5_greatestDivisor_23 : decode cX5_greatestDivisor 23 = .ok (.goto (-21), 3) := by decide +kernel
theorem dX5_greatestDivisor_26 : decode cX5_greatestDivisor 26 = .ok (.iload_n 0, 1) := by decide +kernel
theorem dX5_greatestDivisor_27 : decode cX5_greatestDivisor 27 = .ok (.ireturn, 1) := by decide +kernel
theorem dX5_saleOf_0 : decode cX5_saleOf 0 = .ok (.sipush 1000, 3) := by decide +kernel
theorem dX5_saleOf_3 : decode cX5_saleOf 3 = .ok (.iload_n 0, 1) := by decide +kernel
theorem dX5_saleOf_4 : decode cX5_saleOf 4 = .ok (.imul, 1) := by decide +kernel
theorem dX5_saleOf_5 : decode cX5_saleOf 5 = .ok (.bipush 100, 2) := by decide +kernel
theorem dX5_saleOf_7 : decode cX5_saleOf 7 = .ok (.iload_n 1, 1) := by decide +kernel
theorem dX5_saleOf_8 : decode cX5_saleOf 8 = .ok (.imul, 1) := by decide +kernel
theorem dX5_saleOf_9 : decode cX5_saleOf 9 = .ok (.iadd, 1) := by decide +kernel
theorem dX5_saleOf_10 : decode cX5_saleOf 10 = .ok (.iload_n 2, 1) := by decide +kernel
theorem dX5_saleOf_11 : decode cX5_saleOf 11 = .ok (.iadd, 1) := by decide +kernel
theorem dX5_saleOf_12 : decode cX5_saleOf 12 = .ok (.ireturn, 1) := by decide +kernel
theorem dX5_sellerOf_0 : decode cX5_sellerOf 0 = .ok (.iload_n 0, 1) := by decide +kernel
theorem dX5_sellerOf_1 : decode cX5_sellerOf 1 = .ok (.sipush 1000, 3) := by decide +kernel
theorem dX5_sellerOf_4 : decode cX5_sellerOf 4 = .ok (.idiv, 1) := by decide +kernel
theorem dX5_sellerOf_5 : decode cX5_sellerOf 5 = .ok (.ireturn, 1) := by decide +kernel
theorem dX5_buyerOf_0 : decode cX5_buyerOf 0 = .ok (.iload_n 0, 1) := by decide +kernel
theorem dX5_buyerOf_1 : decode cX5_buyerOf 1 = .ok (.bipush 100, 2) := by decide +kernel
theorem dX5_buyerOf_3 : decode cX5_buyerOf 3 = .ok (.idiv, 1) := by decide +kernel
theorem dX5_buyerOf_4 : decode cX5_buyerOf 4 = .ok (.bipush 10, 2) := by decide +kernel
theorem dX5_buyerOf_6 : decode cX5_buyerOf 6 = .ok (.irem, 1) := by decide +kernel
theorem dX5_buyerOf_7 : decode cX5_buyerOf 7 = .ok (.ireturn, 1) := by decide +kernel
theorem dX5_halfOf_0 : decode cX5_halfOf 0 = .ok (.iload_n 0, 1) := by decide +kernel
theorem dX5_halfOf_1 : decode cX5_halfOf 1 = .ok (.bipush 100, 2) := by decide +kernel
theorem dX5_halfOf_3 : decode cX5_halfOf 3 = .ok (.irem, 1) := by decide +kernel
theorem dX5_halfOf_4 : decode cX5_halfOf 4 = .ok (.ireturn, 1) := by decide +kernel
theorem dX5_worthByKind_0 : decode cX5_worthByKind 0 = .ok (.iload_n 2, 1) := by decide +kernel
theorem dX5_worthByKind_1 : decode cX5_worthByKind 1 = .ok (.iload_n 1, 1) := by decide +kernel
theorem dX5_worthByKind_2 : decode cX5_worthByKind 2 = .ok (.invokestatic 119, 3) := by decide +kernel
theorem dX5_worthByKind_5 : decode cX5_worthByKind 5 = .ok (.ifCond .ne 5, 3) := by decide +kernel
theorem dX5_worthByKind_8 : decode cX5_worthByKind 8 = .ok (.iconst 0, 1) := by decide +kernel
theorem dX5_worthByKind_9 : decode cX5_worthByKind 9 = .ok (.ireturn, 1) := by decide +kernel
theorem dX5_worthByKind_10 : decode cX5_worthByKind 10 = .ok (.iload_n 1, 1) := by decide +kernel
theorem dX5_worthByKind_11 : decode cX5_worthByKind 11 = .ok (.iconst 2, 1) := by decide +kernel
theorem dX5_worthByKind_12 : decode cX5_worthByKind 12 = .ok (.irem, 1) := by decide +kernel
theorem dX5_worthByKind_13 : decode cX5_worthByKind 13 = .ok (.ifCond .ne 7, 3) := by decide +kernel
theorem dX5_worthByKind_16 : decode cX5_worthByKind 16 = .ok (.iconst 1, 1) := by decide +kernel
theorem dX5_worthByKind_17 : decode cX5_worthByKind 17 = .ok (.goto 4, 3) := by decide +kernel
theorem dX5_worthByKind_20 : decode cX5_worthByKind 20 = .ok (.iconst 0, 1) := by decide +kernel
theorem dX5_worthByKind_21 : decode cX5_worthByKind 21 = .ok (.istore 6, 2) := by decide +kernel
theorem dX5_worthByKind_23 : decode cX5_worthByKind 23 = .ok (.iload_n 0, 1) := by decide +kernel
theorem dX5_worthByKind_24 : decode cX5_worthByKind 24 = .ok (.iconst 4, 1) := by decide +kernel
theorem dX5_worthByKind_25 : decode cX5_worthByKind 25 = .ok (.if_icmp .ne 10, 3) := by decide +kernel
theorem dX5_worthByKind_28 : decode cX5_worthByKind 28 = .ok (.iload 6, 2) := by decide +kernel
theorem dX5_worthByKind_30 : decode cX5_worthByKind 30 = .ok (.ifCond .eq 5, 3) := by decide +kernel
theorem dX5_worthByKind_33 : decode cX5_worthByKind 33 = .ok (.iconst 0, 1) := by decide +kernel
theorem dX5_worthByKind_34 : decode cX5_worthByKind 34 = .ok (.ireturn, 1) := by decide +kernel
theorem dX5_worthByKind_35 : decode cX5_worthByKind 35 = .ok (.iload_n 1, 1) := by decide +kernel
theorem dX5_worthByKind_36 : decode cX5_worthByKind 36 = .ok (.iconst 2, 1) := by decide +kernel
theorem dX5_worthByKind_37 : decode cX5_worthByKind 37 = .ok (.idiv, 1) := by decide +kernel
theorem dX5_worthByKind_38 : decode cX5_worthByKind 38 = .ok (.istore 7, 2) := by decide +kernel
theorem dX5_worthByKind_40 : decode cX5_worthByKind 40 = .ok (.iload 4, 2) := by decide +kernel
theorem dX5_worthByKind_42 : decode cX5_worthByKind 42 = .ok (.iload 7, 2) := by decide +kernel
theorem dX5_worthByKind_44 : decode cX5_worthByKind 44 = .ok (.invokestatic 119, 3) := by decide +kernel
theorem dX5_worthByKind_47 : decode cX5_worthByKind 47 = .ok (.ifCond .eq 7, 3) := by decide +kernel
theorem dX5_worthByKind_50 : decode cX5_worthByKind 50 = .ok (.iconst 3, 1) := by decide +kernel
theorem dX5_worthByKind_51 : decode cX5_worthByKind 51 = .ok (.goto 5, 3) := by decide +kernel
theorem dX5_worthByKind_54 : decode cX5_worthByKind 54 = .ok (.bipush 6, 2) := by decide +kernel
theorem dX5_worthByKind_56 : decode cX5_worthByKind 56 = .ok (.istore 8, 2) := by decide +kernel
theorem dX5_worthByKind_58 : decode cX5_worthByKind 58 = .ok (.iload_n 0, 1) := by decide +kernel
theorem dX5_worthByKind_59 : decode cX5_worthByKind 59 = .ok (.iconst 1, 1) := by decide +kernel
theorem dX5_worthByKind_60 : decode cX5_worthByKind 60 = .ok (.if_icmp .eq 8, 3) := by decide +kernel
theorem dX5_worthByKind_63 : decode cX5_worthByKind 63 = .ok (.iload_n 0, 1) := by decide +kernel
theorem dX5_worthByKind_64 : decode cX5_worthByKind 64 = .ok (.iconst 3, 1) := by decide +kernel
theorem dX5_worthByKind_65 : decode cX5_worthByKind 65 = .ok (.if_icmp .ne 16, 3) := by decide +kernel
theorem dX5_worthByKind_68 : decode cX5_worthByKind 68 = .ok (.iload 5, 2) := by decide +kernel
theorem dX5_worthByKind_70 : decode cX5_worthByKind 70 = .ok (.iload 7, 2) := by decide +kernel
theorem dX5_worthByKind_72 : decode cX5_worthByKind 72 = .ok (.invokestatic 119, 3) := by decide +kernel
theorem dX5_worthByKind_75 : decode cX5_worthByKind 75 = .ok (.ifCond .eq 6, 3) := by decide +kernel
theorem dX5_worthByKind_78 : decode cX5_worthByKind 78 = .ok (.iinc 8 9, 3) := by decide +kernel
theorem dX5_worthByKind_81 : decode cX5_worthByKind 81 = .ok (.iload_n 0, 1) := by decide +kernel
theorem dX5_worthByKind_82 : decode cX5_worthByKind 82 = .ok (.iconst 2, 1) := by decide +kernel
theorem dX5_worthByKind_83 : decode cX5_worthByKind 83 = .ok (.if_icmp .eq 8, 3) := by decide +kernel
theorem dX5_worthByKind_86 : decode cX5_worthByKind 86 = .ok (.iload_n 0, 1) := by decide +kernel
theorem dX5_worthByKind_87 : decode cX5_worthByKind 87 = .ok (.iconst 4, 1) := by decide +kernel
theorem dX5_worthByKind_88 : decode cX5_worthByKind 88 = .ok (.if_icmp .ne 16, 3) := by decide +kernel
theorem dX5_worthByKind_91 : decode cX5_worthByKind 91 = .ok (.iload_n 2, 1) := by decide +kernel
theorem dX5_worthByKind_92 : decode cX5_worthByKind 92 = .ok (.iload_n 1, 1) := by decide +kernel
theorem dX5_worthByKind_93 : decode cX5_worthByKind 93 = .ok (.iconst 1, 1) := by decide +kernel
theorem dX5_worthByKind_94 : decode cX5_worthByKind 94 = .ok (.ixor, 1) := by decide +kernel
theorem dX5_worthByKind_95 : decode cX5_worthByKind 95 = .ok (.invokestatic 119, 3) := by decide +kernel
theorem dX5_worthByKind_98 : decode cX5_worthByKind 98 = .ok (.ifCond .eq 6, 3) := by decide +kernel
theorem dX5_worthByKind_101 : decode cX5_worthByKind 101 = .ok (.iinc 8 4, 3) := by decide +kernel
theorem dX5_worthByKind_104 : decode cX5_worthByKind 104 = .ok (.iload_n 0, 1) := by decide +kernel
theorem dX5_worthByKind_105 : decode cX5_worthByKind 105 = .ok (.iconst 3, 1) := by decide +kernel
theorem dX5_worthByKind_106 : decode cX5_worthByKind 106 = .ok (.if_icmp .ne 14, 3) := by decide +kernel
theorem dX5_worthByKind_109 : decode cX5_worthByKind 109 = .ok (.iload_n 3, 1) := by decide +kernel
theorem dX5_worthByKind_110 : decode cX5_worthByKind 110 = .ok (.iload_n 1, 1) := by decide +kernel
theorem dX5_worthByKind_111 : decode cX5_worthByKind 111 = .ok (.invokestatic 119, 3) := by decide +kernel
theorem dX5_worthByKind_114 : decode cX5_worthByKind 114 = .ok (.ifCond .eq 6, 3) := by decide +kernel
theorem dX5_worthByKind_117 : decode cX5_worthByKind 117 = .ok (.iinc 8 5, 3) := by decide +kernel
theorem dX5_worthByKind_120 : decode cX5_worthByKind 120 = .ok (.iload 8, 2) := by decide +kernel
theorem dX5_worthByKind_122 : decode cX5_worthByKind 122 = .ok (.ireturn, 1) := by decide +kernel
end
section
theorem dJ11_isValidCodePoint_9a6ad_0 : decode cJ11_isValidCodePoint_9a6ad 0 = .ok (.iload_n 0, 1) := by decide +kernel
theorem dJ11_isValidCodePoint_9a6ad_1 : decode cJ11_isValidCodePoint_9a6ad 1 = .ok (.bipush 16, 2) := by decide +kernel
theorem dJ11_isValidCodePoint_9a6ad_3 : decode cJ11_isValidCodePoint_9a6ad 3 = .ok (.iushr, 1) := by decide +kernel
theorem dJ11_isValidCodePoint_9a6ad_4 : decode cJ11_isValidCodePoint_9a6ad 4 = .ok (.istore_n 1, 1) := by decide +kernel
theorem dJ11_isValidCodePoint_9a6ad_5 : decode cJ11_isValidCodePoint_9a6ad 5 = .ok (.iload_n 1, 1) := by decide +kernel
theorem dJ11_isValidCodePoint_9a6ad_6 : decode cJ11_isValidCodePoint_9a6ad 6 = .ok (.bipush 17, 2) := by decide +kernel
theorem dJ11_isValidCodePoint_9a6ad_8 : decode cJ11_isValidCodePoint_9a6ad 8 = .ok (.if_icmp .ge 7, 3) := by decide +kernel
theorem dJ11_isValidCodePoint_9a6ad_11 : decode cJ11_isValidCodePoint_9a6ad 11 = .ok (.iconst 1, 1) := by decide +kernel
theorem dJ11_isValidCodePoint_9a6ad_12 : decode cJ11_isValidCodePoint_9a6ad 12 = .ok (.goto 4, 3) := by decide +kernel
theorem dJ11_isValidCodePoint_9a6ad_15 : decode cJ11_isValidCodePoint_9a6ad 15 = .ok (.iconst 0, 1) := by decide +kernel
theorem dJ11_isValidCodePoint_9a6ad_16 : decode cJ11_isValidCodePoint_9a6ad 16 = .ok (.ireturn, 1) := by decide +kernel
theorem dJ11_highSurrogate_5068e_0 : decode cJ11_highSurrogate_5068e 0 = .ok (.iload_n 0, 1) := by decide +kernel
theorem dJ11_highSurrogate_5068e_1 : decode cJ11_highSurrogate_5068e 1 = .ok (.bipush 10, 2) := by decide +kernel
theorem dJ11_highSurrogate_5068e_3 : decode cJ11_highSurrogate_5068e 3 = .ok (.iushr, 1) := by decide +kernel
theorem dJ11_highSurrogate_5068e_4 : decode cJ11_highSurrogate_5068e 4 = .ok (.ldc 110, 2) := by decide +kernel
theorem dJ11_highSurrogate_5068e_6 : decode cJ11_highSurrogate_5068e 6 = .ok (.iadd, 1) := by decide +kernel
theorem dJ11_highSurrogate_5068e_7 : decode cJ11_highSurrogate_5068e 7 = .ok (.i2c, 1) := by decide +kernel
theorem dJ11_highSurrogate_5068e_8 : decode cJ11_highSurrogate_5068e 8 = .ok (.ireturn, 1) := by decide +kernel
theorem dJ11_lowSurrogate_5068e_0 : decode cJ11_lowSurrogate_5068e 0 = .ok (.iload_n 0, 1) := by decide +kernel
theorem dJ11_lowSurrogate_5068e_1 : decode cJ11_lowSurrogate_5068e 1 = .ok (.sipush 1023, 3) := by decide +kernel
theorem dJ11_lowSurrogate_5068e_4 : decode cJ11_lowSurrogate_5068e 4 = .ok (.iand, 1) := by decide +kernel
theorem dJ11_lowSurrogate_5068e_5 : decode cJ11_lowSurrogate_5068e 5 = .ok (.ldc 76, 2) := by decide +kernel
theorem dJ11_lowSurrogate_5068e_7 : decode cJ11_lowSurrogate_5068e 7 = .ok (.iadd, 1) := by decide +kernel
theorem dJ11_lowSurrogate_5068e_8 : decode cJ11_lowSurrogate_5068e 8 = .ok (.i2c, 1) := by decide +kernel
theorem dJ11_lowSurrogate_5068e_9 : decode cJ11_lowSurrogate_5068e 9 = .ok (.ireturn, 1) := by decide +kernel
theorem dJ6_bitCount_0f7a4_0 : decode cJ6_bitCount_0f7a4 0 = .ok (.iload_n 0, 1) := by decide +kernel
theorem dJ6_bitCount_0f7a4_1 : decode cJ6_bitCount_0f7a4 1 = .ok (.iload_n 0, 1) := by decide +kernel
theorem dJ6_bitCount_0f7a4_2 : decode cJ6_bitCount_0f7a4 2 = .ok (.iconst 1, 1) := by decide +kernel
theorem dJ6_bitCount_0f7a4_3 : decode cJ6_bitCount_0f7a4 3 = .ok (.iushr, 1) := by decide +kernel
theorem dJ6_bitCount_0f7a4_4 : decode cJ6_bitCount_0f7a4 4 = .ok (.ldc_w 265, 3) := by decide +kernel
theorem dJ6_bitCount_0f7a4_7 : decode cJ6_bitCount_0f7a4 7 = .ok (.iand, 1) := by decide +kernel
theorem dJ6_bitCount_0f7a4_8 : decode cJ6_bitCount_0f7a4 8 = .ok (.isub, 1) := by decide +kernel
theorem dJ6_bitCount_0f7a4_9 : decode cJ6_bitCount_0f7a4 9 = .ok (.istore_n 0, 1) := by decide +kernel
theorem dJ6_bitCount_0f7a4_10 : decode cJ6_bitCount_0f7a4 10 = .ok (.iload_n 0, 1) := by decide +kernel
theorem dJ6_bitCount_0f7a4_11 : decode cJ6_bitCount_0f7a4 11 = .ok (.ldc_w 266, 3) := by decide +kernel
theorem dJ6_bitCount_0f7a4_14 : decode cJ6_bitCount_0f7a4 14 = .ok (.iand, 1) := by decide +kernel
theorem dJ6_bitCount_0f7a4_15 : decode cJ6_bitCount_0f7a4 15 = .ok (.iload_n 0, 1) := by decide +kernel
theorem dJ6_bitCount_0f7a4_16 : decode cJ6_bitCount_0f7a4 16 = .ok (.iconst 2, 1) := by decide +kernel
theorem dJ6_bitCount_0f7a4_17 : decode cJ6_bitCount_0f7a4 17 = .ok (.iushr, 1) := by decide +kernel
theorem dJ6_bitCount_0f7a4_18 : decode cJ6_bitCount_0f7a4 18 = .ok (.ldc_w 266, 3) := by decide +kernel
theorem dJ6_bitCount_0f7a4_21 : decode cJ6_bitCount_0f7a4 21 = .ok (.iand, 1) := by decide +kernel
theorem dJ6_bitCount_0f7a4_22 : decode cJ6_bitCount_0f7a4 22 = .ok (.iadd, 1) := by decide +kernel
theorem dJ6_bitCount_0f7a4_23 : decode cJ6_bitCount_0f7a4 23 = .ok (.istore_n 0, 1) := by decide +kernel
theorem dJ6_bitCount_0f7a4_24 : decode cJ6_bitCount_0f7a4 24 = .ok (.iload_n 0, 1) := by decide +kernel
theorem dJ6_bitCount_0f7a4_25 : decode cJ6_bitCount_0f7a4 25 = .ok (.iload_n 0, 1) := by decide +kernel
theorem dJ6_bitCount_0f7a4_26 : decode cJ6_bitCount_0f7a4 26 = .ok (.iconst 4, 1) := by decide +kernel
theorem dJ6_bitCount_0f7a4_27 : decode cJ6_bitCount_0f7a4 27 = .ok (.iushr, 1) := by decide +kernel
theorem dJ6_bitCount_0f7a4_28 : decode cJ6_bitCount_0f7a4 28 = .ok (.iadd, 1) := by decide +kernel
theorem dJ6_bitCount_0f7a4_29 : decode cJ6_bitCount_0f7a4 29 = .ok (.ldc_w 267, 3) := by decide +kernel
theorem dJ6_bitCount_0f7a4_32 : decode cJ6_bitCount_0f7a4 32 = .ok (.iand, 1) := by decide +kernel
theorem dJ6_bitCount_0f7a4_33 : decode cJ6_bitCount_0f7a4 33 = .ok (.istore_n 0, 1) := by decide +kernel
theorem dJ6_bitCount_0f7a4_34 : decode cJ6_bitCount_0f7a4 34 = .ok (.iload_n 0, 1) := by decide +kernel
theorem dJ6_bitCount_0f7a4_35 : decode cJ6_bitCount_0f7a4 35 = .ok (.iload_n 0, 1) := by decide +kernel
theorem dJ6_bitCount_0f7a4_36 : decode cJ6_bitCount_0f7a4 36 = .ok (.bipush 8, 2) := by decide +kernel
theorem dJ6_bitCount_0f7a4_38 : decode cJ6_bitCount_0f7a4 38 = .ok (.iushr, 1) := by decide +kernel
theorem dJ6_bitCount_0f7a4_39 : decode cJ6_bitCount_0f7a4 39 = .ok (.iadd, 1) := by decide +kernel
theorem dJ6_bitCount_0f7a4_40 : decode cJ6_bitCount_0f7a4 40 = .ok (.istore_n 0, 1) := by decide +kernel
theorem dJ6_bitCount_0f7a4_41 : decode cJ6_bitCount_0f7a4 41 = .ok (.iload_n 0, 1) := by decide +kernel
theorem dJ6_bitCount_0f7a4_42 : decode cJ6_bitCount_0f7a4 42 = .ok (.iload_n 0, 1) := by decide +kernel
theorem dJ6_bitCount_0f7a4_43 : decode cJ6_bitCount_0f7a4 43 = .ok (.bipush 16, 2) := by decide +kernel
theorem dJ6_bitCount_0f7a4_45 : decode cJ6_bitCount_0f7a4 45 = .ok (.iushr, 1) := by decide +kernel
theorem dJ6_bitCount_0f7a4_46 : decode cJ6_bitCount_0f7a4 46 = .ok (.iadd, 1) := by decide +kernel
theorem dJ6_bitCount_0f7a4_47 : decode cJ6_bitCount_0f7a4 47 = .ok (.istore_n 0, 1) := by decide +kernel
theorem dJ6_bitCount_0f7a4_48 : decode cJ6_bitCount_0f7a4 48 = .ok (.iload_n 0, 1) := by decide +kernel
theorem dJ6_bitCount_0f7a4_49 : decode cJ6_bitCount_0f7a4 49 = .ok (.bipush 63, 2) := by decide +kernel
theorem dJ6_bitCount_0f7a4_51 : decode cJ6_bitCount_0f7a4 51 = .ok (.iand, 1) := by decide +kernel
theorem dJ6_bitCount_0f7a4_52 : decode cJ6_bitCount_0f7a4 52 = .ok (.ireturn, 1) := by decide +kernel
theorem dJ9_max_7cf53_0 : decode cJ9_max_7cf53 0 = .ok (.iload_n 0, 1) := by decide +kernel
theorem dJ9_max_7cf53_1 : decode cJ9_max_7cf53 1 = .ok (.iload_n 1, 1) := by decide +kernel
theorem dJ9_max_7cf53_2 : decode cJ9_max_7cf53 2 = .ok (.if_icmp .lt 7, 3) := by decide +kernel
theorem dJ9_max_7cf53_5 : decode cJ9_max_7cf53 5 = .ok (.iload_n 0, 1) := by decide +kernel
theorem dJ9_max_7cf53_6 : decode cJ9_max_7cf53 6 = .ok (.goto 4, 3) := by decide +kernel
theorem dJ9_max_7cf53_9 : decode cJ9_max_7cf53 9 = .ok (.iload_n 1, 1) := by decide +kernel
theorem dJ9_max_7cf53_10 : decode cJ9_max_7cf53 10 = .ok (.ireturn, 1) := by decide +kernel
theorem dJ9_min_7cf53_0 : decode cJ9_min_7cf53 0 = .ok (.iload_n 0, 1) := by decide +kernel
theorem dJ9_min_7cf53_1 : decode cJ9_min_7cf53 1 = .ok (.iload_n 1, 1) := by decide +kernel
theorem dJ9_min_7cf53_2 : decode cJ9_min_7cf53 2 = .ok (.if_icmp .gt 7, 3) := by decide +kernel
theorem dJ9_min_7cf53_5 : decode cJ9_min_7cf53 5 = .ok (.iload_n 0, 1) := by decide +kernel
theorem dJ9_min_7cf53_6 : decode cJ9_min_7cf53 6 = .ok (.goto 4, 3) := by decide +kernel
theorem dJ9_min_7cf53_9 : decode cJ9_min_7cf53 9 = .ok (.iload_n 1, 1) := by decide +kernel
theorem dJ9_min_7cf53_10 : decode cJ9_min_7cf53 10 = .ok (.ireturn, 1) := by decide +kernel
theorem dJ0_length_8abf5_0 : decode cJ0_length_8abf5 0 = .ok (.aload_n 0, 1) := by decide +kernel
theorem dJ0_length_8abf5_1 : decode cJ0_length_8abf5 1 = .ok (.getfield 9, 3) := by decide +kernel
theorem dJ0_length_8abf5_4 : decode cJ0_length_8abf5 4 = .ok (.arraylength, 1) := by decide +kernel
theorem dJ0_length_8abf5_5 : decode cJ0_length_8abf5 5 = .ok (.aload_n 0, 1) := by decide +kernel
theorem dJ0_length_8abf5_6 : decode cJ0_length_8abf5 6 = .ok (.invokevirtual 335, 3) := by decide +kernel
theorem dJ0_length_8abf5_9 : decode cJ0_length_8abf5 9 = .ok (.ishr, 1) := by decide +kernel
theorem dJ0_length_8abf5_10 : decode cJ0_length_8abf5 10 = .ok (.ireturn, 1) := by decide +kernel
theorem dJ0_indexOf_0f7a4_0 : decode cJ0_indexOf_0f7a4 0 = .ok (.aload_n 0, 1) := by decide +kernel
theorem dJ0_indexOf_0f7a4_1 : decode cJ0_indexOf_0f7a4 1 = .ok (.iload_n 1, 1) := by decide +kernel
theorem dJ0_indexOf_0f7a4_2 : decode cJ0_indexOf_0f7a4 2 = .ok (.iconst 0, 1) := by decide +kernel
theorem dJ0_indexOf_0f7a4_3 : decode cJ0_indexOf_0f7a4 3 = .ok (.invokevirtual 633, 3) := by decide +kernel
theorem dJ0_indexOf_0f7a4_6 : decode cJ0_indexOf_0f7a4 6 = .ok (.ireturn, 1) := by decide +kernel
theorem dJ0_indexOf_7cf53_0 : decode cJ0_indexOf_7cf53 0 = .ok (.aload_n 0, 1) := by decide +kernel
theorem dJ0_indexOf_7cf53_1 : decode cJ0_indexOf_7cf53 1 = .ok (.invokevirtual 492, 3) := by decide +kernel
theorem dJ0_indexOf_7cf53_4 : decode cJ0_indexOf_7cf53 4 = .ok (.ifCond .eq 19, 3) := by decide +kernel
theorem dJ0_indexOf_7cf53_7 : decode cJ0_indexOf_7cf53 7 = .ok (.aload_n 0, 1) := by decide +kernel
theorem dJ0_indexOf_7cf53_8 : decode cJ0_indexOf_7cf53 8 = .ok (.getfield 9, 3) := by decide +kernel
theorem dJ0_indexOf_7cf53_11 : decode cJ0_indexOf_7cf53 11 = .ok (.iload_n 1, 1) := by decide +kernel
theorem dJ0_indexOf_7cf53_12 : decode cJ0_indexOf_7cf53 12 = .ok (.iload_n 2, 1) := by decide +kernel
theorem dJ0_indexOf_7cf53_13 : decode cJ0_indexOf_7cf53 13 = .ok (.aload_n 0, 1) := by decide +kernel
theorem dJ0_indexOf_7cf53_14 : decode cJ0_indexOf_7cf53 14 = .ok (.invokevirtual 505, 3) := by decide +kernel
theorem dJ0_indexOf_7cf53_17 : decode cJ0_indexOf_7cf53 17 = .ok (.invokestatic 637, 3) := by decide +kernel
theorem dJ0_indexOf_7cf53_20 : decode cJ0_indexOf_7cf53 20 = .ok (.goto 16, 3) := by decide +kernel
theorem dJ0_indexOf_7cf53_23 : decode cJ0_indexOf_7cf53 23 = .ok (.aload_n 0, 1) := by decide +kernel
theorem dJ0_indexOf_7cf53_24 : decode cJ0_indexOf_7cf53 24 = .ok (.getfield 9, 3) := by decide +kernel
theorem dJ0_indexOf_7cf53_27 : decode cJ0_indexOf_7cf53 27 = .ok (.iload_n 1, 1) := by decide +kernel
theorem dJ0_indexOf_7cf53_28 : decode cJ0_indexOf_7cf53 28 = .ok (.iload_n 2, 1) := by decide +kernel
theorem dJ0_indexOf_7cf53_29 : decode cJ0_indexOf_7cf53 29 = .ok (.aload_n 0, 1) := by decide +kernel
theorem dJ0_indexOf_7cf53_30 : decode cJ0_indexOf_7cf53 30 = .ok (.invokevirtual 505, 3) := by decide +kernel
theorem dJ0_indexOf_7cf53_33 : decode cJ0_indexOf_7cf53 33 = .ok (.invokestatic 640, 3) := by decide +kernel
theorem dJ0_indexOf_7cf53_36 : decode cJ0_indexOf_7cf53 36 = .ok (.ireturn, 1) := by decide +kernel
theorem dJ0_coder_7d493_0 : decode cJ0_coder_7d493 0 = .ok (.getstatic 38, 3) := by decide +kernel
theorem dJ0_coder_7d493_3 : decode cJ0_coder_7d493 3 = .ok (.ifCond .eq 10, 3) := by decide +kernel
theorem dJ0_coder_7d493_6 : decode cJ0_coder_7d493 6 = .ok (.aload_n 0, 1) := by decide +kernel
theorem dJ0_coder_7d493_7 : decode cJ0_coder_7d493 7 = .ok (.getfield 15, 3) := by decide +kernel
theorem dJ0_coder_7d493_10 : decode cJ0_coder_7d493 10 = .ok (.goto 4, 3) := by decide +kernel
theorem dJ0_coder_7d493_13 : decode cJ0_coder_7d493 13 = .ok (.iconst 1, 1) := by decide +kernel
theorem dJ0_coder_7d493_14 : decode cJ0_coder_7d493 14 = .ok (.ireturn, 1) := by decide +kernel
theorem dJ0_isLatin1_aae02_0 : decode cJ0_isLatin1_aae02 0 = .ok (.getstatic 38, 3) := by decide +kernel
theorem dJ0_isLatin1_aae02_3 : decode cJ0_isLatin1_aae02 3 = .ok (.ifCond .eq 14, 3) := by decide +kernel
theorem dJ0_isLatin1_aae02_6 : decode cJ0_isLatin1_aae02 6 = .ok (.aload_n 0, 1) := by decide +kernel
theorem dJ0_isLatin1_aae02_7 : decode cJ0_isLatin1_aae02 7 = .ok (.getfield 15, 3) := by decide +kernel
theorem dJ0_isLatin1_aae02_10 : decode cJ0_isLatin1_aae02 10 = .ok (.ifCond .ne 7, 3) := by decide +kernel
theorem dJ0_isLatin1_aae02_13 : decode cJ0_isLatin1_aae02 13 = .ok (.iconst 1, 1) := by decide +kernel
theorem dJ0_isLatin1_aae02_14 : decode cJ0_isLatin1_aae02 14 = .ok (.goto 4, 3) := by decide +kernel
theorem dJ0_isLatin1_aae02_17 : decode cJ0_isLatin1_aae02 17 = .ok (.iconst 0, 1) := by decide +kernel
theorem dJ0_isLatin1_aae02_18 : decode cJ0_isLatin1_aae02 18 = .ok (.ireturn, 1) := by decide +kernel
theorem dJ0_checkBoundsBeginEnd_23922_0 : decode cJ0_checkBoundsBeginEnd_23922 0 = .ok (.iload_n 0, 1) := by decide +kernel
theorem dJ0_checkBoundsBeginEnd_23922_1 : decode cJ0_checkBoundsBeginEnd_23922 1 = .ok (.iload_n 1, 1) := by decide +kernel
theorem dJ0_checkBoundsBeginEnd_23922_2 : decode cJ0_checkBoundsBeginEnd_23922 2 = .ok (.iload_n 2, 1) := by decide +kernel
theorem dJ0_checkBoundsBeginEnd_23922_3 : decode cJ0_checkBoundsBeginEnd_23922 3 = .ok (.getstatic 1053, 3) := by decide +kernel
theorem dJ0_checkBoundsBeginEnd_23922_6 : decode cJ0_checkBoundsBeginEnd_23922 6 = .ok (.invokestatic 1062, 3) := by decide +kernel
theorem dJ0_checkBoundsBeginEnd_23922_9 : decode cJ0_checkBoundsBeginEnd_23922 9 = .ok (.pop, 1) := by decide +kernel
theorem dJ0_checkBoundsBeginEnd_23922_10 : decode cJ0_checkBoundsBeginEnd_23922 10 = .ok (.return_, 1) := by decide +kernel
theorem dJ1_canEncode_9a6ad_0 : decode cJ1_canEncode_9a6ad 0 = .ok (.iload_n 0, 1) := by decide +kernel
theorem dJ1_canEncode_9a6ad_1 : decode cJ1_canEncode_9a6ad 1 = .ok (.ifCond .lt 14, 3) := by decide +kernel
theorem dJ1_canEncode_9a6ad_4 : decode cJ1_canEncode_9a6ad 4 = .ok (.iload_n 0, 1) := by decide +kernel
theorem dJ1_canEncode_9a6ad_5 : decode cJ1_canEncode_9a6ad 5 = .ok (.sipush 255, 3) := by decide +kernel
theorem dJ1_canEncode_9a6ad_8 : decode cJ1_canEncode_9a6ad 8 = .ok (.if_icmp .gt 7, 3) := by decide +kernel
theorem dJ1_canEncode_9a6ad_11 : decode cJ1_canEncode_9a6ad 11 = .ok (.iconst 1, 1) := by decide +kernel
theorem dJ1_canEncode_9a6ad_12 : decode cJ1_canEncode_9a6ad 12 = .ok (.goto 4, 3) := by decide +kernel
theorem dJ1_canEncode_9a6ad_15 : decode cJ1_canEncode_9a6ad 15 = .ok (.iconst 0, 1) := by decide +kernel
theorem dJ1_canEncode_9a6ad_16 : decode cJ1_canEncode_9a6ad 16 = .ok (.ireturn, 1) := by decide +kernel
theorem dJ1_indexOf_4cfef_0 : decode cJ1_indexOf_4cfef 0 = .ok (.iload_n 1, 1) := by decide +kernel
theorem dJ1_indexOf_4cfef_1 : decode cJ1_indexOf_4cfef 1 = .ok (.invokestatic 88, 3) := by decide +kernel
theorem dJ1_indexOf_4cfef_4 : decode cJ1_indexOf_4cfef 4 = .ok (.ifCond .ne 5, 3) := by decide +kernel
theorem dJ1_indexOf_4cfef_7 : decode cJ1_indexOf_4cfef 7 = .ok (.iconst (-1), 1) := by decide +kernel
theorem dJ1_indexOf_4cfef_8 : decode cJ1_indexOf_4cfef 8 = .ok (.ireturn, 1) := by decide +kernel
theorem dJ1_indexOf_4cfef_9 : decode cJ1_indexOf_4cfef 9 = .ok (.iload_n 2, 1) := by decide +kernel
theorem dJ1_indexOf_4cfef_10 : decode cJ1_indexOf_4cfef 10 = .ok (.iconst 0, 1) := by decide +kernel
theorem dJ1_indexOf_4cfef_11 : decode cJ1_indexOf_4cfef 11 = .ok (.invokestatic 92, 3) := by decide +kernel
theorem dJ1_indexOf_4cfef_14 : decode cJ1_indexOf_4cfef 14 = .ok (.istore_n 2, 1) := by decide +kernel
theorem dJ1_indexOf_4cfef_15 : decode cJ1_indexOf_4cfef 15 = .ok (.iload_n 3, 1) := by decide +kernel
theorem dJ1_indexOf_4cfef_16 : decode cJ1_indexOf_4cfef 16 = .ok (.aload_n 0, 1) := by decide +kernel
theorem dJ1_indexOf_4cfef_17 : decode cJ1_indexOf_4cfef 17 = .ok (.arraylength, 1) := by decide +kernel
theorem dJ1_indexOf_4cfef_18 : decode cJ1_indexOf_4cfef 18 = .ok (.invokestatic 38, 3) := by decide +kernel
theorem dJ1_indexOf_4cfef_21 : decode cJ1_indexOf_4cfef 21 = .ok (.istore_n 3, 1) := by decide +kernel
theorem dJ1_indexOf_4cfef_22 : decode cJ1_indexOf_4cfef 22 = .ok (.iload_n 2, 1) := by decide +kernel
theorem dJ1_indexOf_4cfef_23 : decode cJ1_indexOf_4cfef 23 = .ok (.iload_n 3, 1) := by decide +kernel
theorem dJ1_indexOf_4cfef_24 : decode cJ1_indexOf_4cfef 24 = .ok (.if_icmp .lt 5, 3) := by decide +kernel
theorem dJ1_indexOf_4cfef_27 : decode cJ1_indexOf_4cfef 27 = .ok (.iconst (-1), 1) := by decide +kernel
theorem dJ1_indexOf_4cfef_28 : decode cJ1_indexOf_4cfef 28 = .ok (.ireturn, 1) := by decide +kernel
theorem dJ1_indexOf_4cfef_29 : decode cJ1_indexOf_4cfef 29 = .ok (.aload_n 0, 1) := by decide +kernel
theorem dJ1_indexOf_4cfef_30 : decode cJ1_indexOf_4cfef 30 = .ok (.iload_n 1, 1) := by decide +kernel
theorem dJ1_indexOf_4cfef_31 : decode cJ1_indexOf_4cfef 31 = .ok (.iload_n 2, 1) := by decide +kernel
theorem dJ1_indexOf_4cfef_32 : decode cJ1_indexOf_4cfef 32 = .ok (.iload_n 3, 1) := by decide +kernel
theorem dJ1_indexOf_4cfef_33 : decode cJ1_indexOf_4cfef 33 = .ok (.invokestatic 95, 3) := by decide +kernel
theorem dJ1_indexOf_4cfef_36 : decode cJ1_indexOf_4cfef 36 = .ok (.ireturn, 1) := by decide +kernel
theorem dJ1_indexOfChar_4cfef_0 : decode cJ1_indexOfChar_4cfef 0 = .ok (.iload_n 1, 1) := by decide +kernel
theorem dJ1_indexOfChar_4cfef_1 : decode cJ1_indexOfChar_4cfef 1 = .ok (.i2b, 1) := by decide +kernel
theorem dJ1_indexOfChar_4cfef_2 : decode cJ1_indexOfChar_4cfef 2 = .ok (.istore 4, 2) := by decide +kernel
theorem dJ1_indexOfChar_4cfef_4 : decode cJ1_indexOfChar_4cfef 4 = .ok (.iload_n 2, 1) := by decide +kernel
theorem dJ1_indexOfChar_4cfef_5 : decode cJ1_indexOfChar_4cfef 5 = .ok (.istore 5, 2) := by decide +kernel
theorem dJ1_indexOfChar_4cfef_7 : decode cJ1_indexOfChar_4cfef 7 = .ok (.iload 5, 2) := by decide +kernel
theorem dJ1_indexOfChar_4cfef_9 : decode cJ1_indexOfChar_4cfef 9 = .ok (.iload_n 3, 1) := by decide +kernel
theorem dJ1_indexOfChar_4cfef_10 : decode cJ1_indexOfChar_4cfef 10 = .ok (.if_icmp .ge 21, 3) := by decide +kernel
theorem dJ1_indexOfChar_4cfef_13 : decode cJ1_indexOfChar_4cfef 13 = .ok (.aload_n 0, 1) := by decide +kernel
theorem dJ1_indexOfChar_4cfef_14 : decode cJ1_indexOfChar_4cfef 14 = .ok (.iload 5, 2) := by decide +kernel
theorem dJ1_indexOfChar_4cfef_16 : decode cJ1_indexOfChar_4cfef 16 = .ok (.baload, 1) := by decide +kernel
theorem dJ1_indexOfChar_4cfef_17 : decode cJ1_indexOfChar_4cfef 17 = .ok (.iload 4, 2) := by decide +kernel
theorem dJ1_indexOfChar_4cfef_19 : decode cJ1_indexOfChar_4cfef 19 = .ok (.if_icmp .ne 6, 3) := by decide +kernel
theorem dJ1_indexOfChar_4cfef_22 : decode cJ1_indexOfChar_4cfef 22 = .ok (.iload 5, 2) := by decide +kernel
theorem dJ1_indexOfChar_4cfef_24 : decode cJ1_indexOfChar_4cfef 24 = .ok (.ireturn, 1) := by decide +kernel
theorem dJ1_indexOfChar_4cfef_25 : decode cJ1_indexOfChar_4cfef 25 = .ok (.iinc 5 1, 3) := by decide +kernel
theorem dJ1_indexOfChar_4cfef_28 : decode cJ1_indexOfChar_4cfef 28 = .ok (.goto (-21), 3) := by decide +kernel
theorem dJ1_indexOfChar_4cfef_31 : decode cJ1_indexOfChar_4cfef 31 = .ok (.iconst (-1), 1) := by decide +kernel
theorem dJ1_indexOfChar_4cfef_32 : decode cJ1_indexOfChar_4cfef 32 = .ok (.ireturn, 1) := by decide +kernel
theorem dJ2_getChar_3b067_0 : decode cJ2_getChar_3b067 0 = .ok (.getstatic 44, 3) := by decide +kernel
theorem dJ2_getChar_3b067_3 : decode cJ2_getChar_3b067 3 = .ok (.ifCond .ne 25, 3) := by decide +kernel
theorem dJ2_getChar_3b067_6 : decode cJ2_getChar_3b067 6 = .ok (.iload_n 1, 1) := by decide +kernel
theorem dJ2_getChar_3b067_7 : decode cJ2_getChar_3b067 7 = .ok (.ifCond .lt 11, 3) := by decide +kernel
theorem dJ2_getChar_3b067_10 : decode cJ2_getChar_3b067 10 = .ok (.iload_n 1, 1) := by decide +kernel
theorem dJ2_getChar_3b067_11 : decode cJ2_getChar_3b067 11 = .ok (.aload_n 0, 1) := by decide +kernel
theorem dJ2_getChar_3b067_12 : decode cJ2_getChar_3b067 12 = .ok (.invokestatic 48, 3) := by decide +kernel
theorem dJ2_getChar_3b067_15 : decode cJ2_getChar_3b067 15 = .ok (.if_icmp .lt 13, 3) := by decide +kernel
theorem dJ2_getChar_3b067_18 : decode cJ2_getChar_3b067 18 = .ok (.new 52, 3) := by decide +kernel
theorem dJ2_getChar_3b067_21 : decode cJ2_getChar_3b067 21 = .ok (.dup, 1) := by decide +kernel
theorem dJ2_getChar_3b067_22 : decode cJ2_getChar_3b067 22 = .ok (.ldc 54, 2) := by decide +kernel
theorem dJ2_getChar_3b067_24 : decode cJ2_getChar_3b067 24 = .ok (.invokespecial 56, 3) := by decide +kernel
theorem dJ2_getChar_3b067_27 : decode cJ2_getChar_3b067 27 = .ok (.athrow, 1) := by decide +kernel
theorem dJ2_getChar_3b067_28 : decode cJ2_getChar_3b067 28 = .ok (.iload_n 1, 1) := by decide +kernel
theorem dJ2_getChar_3b067_29 : decode cJ2_getChar_3b067 29 = .ok (.iconst 1, 1) := by decide +kernel
theorem dJ2_getChar_3b067_30 : decode cJ2_getChar_3b067 30 = .ok (.ishl, 1) := by decide +kernel
theorem dJ2_getChar_3b067_31 : decode cJ2_getChar_3b067 31 = .ok (.istore_n 1, 1) := by decide +kernel
theorem dJ2_getChar_3b067_32 : decode cJ2_getChar_3b067 32 = .ok (.aload_n 0, 1) := by decide +kernel
theorem dJ2_getChar_3b067_33 : decode cJ2_getChar_3b067 33 = .ok (.iload_n 1, 1) := by decide +kernel
theorem dJ2_getChar_3b067_34 : decode cJ2_getChar_3b067 34 = .ok (.iinc 1 1, 3) := by decide +kernel
theorem dJ2_getChar_3b067_37 : decode cJ2_getChar_3b067 37 = .ok (.baload, 1) := by decide +kernel
theorem dJ2_getChar_3b067_38 : decode cJ2_getChar_3b067 38 = .ok (.sipush 255, 3) := by decide +kernel
theorem dJ2_getChar_3b067_41 : decode cJ2_getChar_3b067 41 = .ok (.iand, 1) := by decide +kernel
theorem dJ2_getChar_3b067_42 : decode cJ2_getChar_3b067 42 = .ok (.getstatic 59, 3) := by decide +kernel
theorem dJ2_getChar_3b067_45 : decode cJ2_getChar_3b067 45 = .ok (.ishl, 1) := by decide +kernel
theorem dJ2_getChar_3b067_46 : decode cJ2_getChar_3b067 46 = .ok (.aload_n 0, 1) := by decide +kernel
theorem dJ2_getChar_3b067_47 : decode cJ2_getChar_3b067 47 = .ok (.iload_n 1, 1) := by decide +kernel
theorem dJ2_getChar_3b067_48 : decode cJ2_getChar_3b067 48 = .ok (.baload, 1) := by decide +kernel
theorem dJ2_getChar_3b067_49 : decode cJ2_getChar_3b067 49 = .ok (.sipush 255, 3) := by decide +kernel
theorem dJ2_getChar_3b067_52 : decode cJ2_getChar_3b067 52 = .ok (.iand, 1) := by decide +kernel
theorem dJ2_getChar_3b067_53 : decode cJ2_getChar_3b067 53 = .ok (.getstatic 63, 3) := by decide +kernel
theorem dJ2_getChar_3b067_56 : decode cJ2_getChar_3b067 56 = .ok (.ishl, 1) := by decide +kernel
theorem dJ2_getChar_3b067_57 : decode cJ2_getChar_3b067 57 = .ok (.ior, 1) := by decide +kernel
theorem dJ2_getChar_3b067_58 : decode cJ2_getChar_3b067 58 = .ok (.i2c, 1) := by decide +kernel
theorem dJ2_getChar_3b067_59 : decode cJ2_getChar_3b067 59 = .ok (.ireturn, 1) := by decide +kernel
theorem dJ2_length_9d52b_0 : decode cJ2_length_9d52b 0 = .ok (.aload_n 0, 1) := by decide +kernel
theorem dJ2_length_9d52b_1 : decode cJ2_length_9d52b 1 = .ok (.arraylength, 1) := by decide +kernel
theorem dJ2_length_9d52b_2 : decode cJ2_length_9d52b 2 = .ok (.iconst 1, 1) := by decide +kernel
theorem dJ2_length_9d52b_3 : decode cJ2_length_9d52b 3 = .ok (.ishr, 1) := by decide +kernel
theorem dJ2_length_9d52b_4 : decode cJ2_length_9d52b 4 = .ok (.ireturn, 1) := by decide +kernel
theorem dJ2_indexOf_4cfef_0 : decode cJ2_indexOf_4cfef 0 = .ok (.iload_n 2, 1) := by decide +kernel
theorem dJ2_indexOf_4cfef_1 : decode cJ2_indexOf_4cfef 1 = .ok (.iconst 0, 1) := by decide +kernel
theorem dJ2_indexOf_4cfef_2 : decode cJ2_indexOf_4cfef 2 = .ok (.invokestatic 224, 3) := by decide +kernel
theorem dJ2_indexOf_4cfef_5 : decode cJ2_indexOf_4cfef 5 = .ok (.istore_n 2, 1) := by decide +kernel
theorem dJ2_indexOf_4cfef_6 : decode cJ2_indexOf_4cfef 6 = .ok (.iload_n 3, 1) := by decide +kernel
theorem dJ2_indexOf_4cfef_7 : decode cJ2_indexOf_4cfef 7 = .ok (.aload_n 0, 1) := by decide +kernel
theorem dJ2_indexOf_4cfef_8 : decode cJ2_indexOf_4cfef 8 = .ok (.arraylength, 1) := by decide +kernel
theorem dJ2_indexOf_4cfef_9 : decode cJ2_indexOf_4cfef 9 = .ok (.iconst 1, 1) := by decide +kernel
theorem dJ2_indexOf_4cfef_10 : decode cJ2_indexOf_4cfef 10 = .ok (.ishr, 1) := by decide +kernel
theorem dJ2_indexOf_4cfef_11 : decode cJ2_indexOf_4cfef 11 = .ok (.invokestatic 183, 3) := by decide +kernel
theorem dJ2_indexOf_4cfef_14 : decode cJ2_indexOf_4cfef 14 = .ok (.istore_n 3, 1) := by decide +kernel
theorem dJ2_indexOf_4cfef_15 : decode cJ2_indexOf_4cfef 15 = .ok (.iload_n 2, 1) := by decide +kernel
theorem dJ2_indexOf_4cfef_16 : decode cJ2_indexOf_4cfef 16 = .ok (.iload_n 3, 1) := by decide +kernel
theorem dJ2_indexOf_4cfef_17 : decode cJ2_indexOf_4cfef 17 = .ok (.if_icmp .lt 5, 3) := by decide +kernel
theorem dJ2_indexOf_4cfef_20 : decode cJ2_indexOf_4cfef 20 = .ok (.iconst (-1), 1) := by decide +kernel
theorem dJ2_indexOf_4cfef_21 : decode cJ2_indexOf_4cfef 21 = .ok (.ireturn, 1) := by decide +kernel
theorem dJ2_indexOf_4cfef_22 : decode cJ2_indexOf_4cfef 22 = .ok (.iload_n 1, 1) := by decide +kernel
theorem dJ2_indexOf_4cfef_23 : decode cJ2_indexOf_4cfef 23 = .ok (.ldc 227, 2) := by decide +kernel
theorem dJ2_indexOf_4cfef_25 : decode cJ2_indexOf_4cfef 25 = .ok (.if_icmp .ge 11, 3) := by decide +kernel
theorem dJ2_indexOf_4cfef_28 : decode cJ2_indexOf_4cfef 28 = .ok (.aload_n 0, 1) := by decide +kernel
theorem dJ2_indexOf_4cfef_29 : decode cJ2_indexOf_4cfef 29 = .ok (.iload_n 1, 1) := by decide +kernel
theorem dJ2_indexOf_4cfef_30 : decode cJ2_indexOf_4cfef 30 = .ok (.iload_n 2, 1) := by decide +kernel
theorem dJ2_indexOf_4cfef_31 : decode cJ2_indexOf_4cfef 31 = .ok (.iload_n 3, 1) := by decide +kernel
theorem dJ2_indexOf_4cfef_32 : decode cJ2_indexOf_4cfef 32 = .ok (.invokestatic 228, 3) := by decide +kernel
theorem dJ2_indexOf_4cfef_35 : decode cJ2_indexOf_4cfef 35 = .ok (.ireturn, 1) := by decide +kernel
theorem dJ2_indexOf_4cfef_36 : decode cJ2_indexOf_4cfef 36 = .ok (.aload_n 0, 1) := by decide +kernel
theorem dJ2_indexOf_4cfef_37 : decode cJ2_indexOf_4cfef 37 = .ok (.iload_n 1, 1) := by decide +kernel
theorem dJ2_indexOf_4cfef_38 : decode cJ2_indexOf_4cfef 38 = .ok (.iload_n 2, 1) := by decide +kernel
theorem dJ2_indexOf_4cfef_39 : decode cJ2_indexOf_4cfef 39 = .ok (.iload_n 3, 1) := by decide +kernel
theorem dJ2_indexOf_4cfef_40 : decode cJ2_indexOf_4cfef 40 = .ok (.invokestatic 232, 3) := by decide +kernel
theorem dJ2_indexOf_4cfef_43 : decode cJ2_indexOf_4cfef 43 = .ok (.ireturn, 1) := by decide +kernel
theorem dJ2_indexOfChar_4cfef_0 : decode cJ2_indexOfChar_4cfef 0 = .ok (.iload_n 2, 1) := by decide +kernel
theorem dJ2_indexOfChar_4cfef_1 : decode cJ2_indexOfChar_4cfef 1 = .ok (.iload_n 3, 1) := by decide +kernel
theorem dJ2_indexOfChar_4cfef_2 : decode cJ2_indexOfChar_4cfef 2 = .ok (.aload_n 0, 1) := by decide +kernel
theorem dJ2_indexOfChar_4cfef_3 : decode cJ2_indexOfChar_4cfef 3 = .ok (.invokestatic 96, 3) := by decide +kernel
theorem dJ2_indexOfChar_4cfef_6 : decode cJ2_indexOfChar_4cfef 6 = .ok (.aload_n 0, 1) := by decide +kernel
theorem dJ2_indexOfChar_4cfef_7 : decode cJ2_indexOfChar_4cfef 7 = .ok (.iload_n 1, 1) := by decide +kernel
theorem dJ2_indexOfChar_4cfef_8 : decode cJ2_indexOfChar_4cfef 8 = .ok (.iload_n 2, 1) := by decide +kernel
theorem dJ2_indexOfChar_4cfef_9 : decode cJ2_indexOfChar_4cfef 9 = .ok (.iload_n 3, 1) := by decide +kernel
theorem dJ2_indexOfChar_4cfef_10 : decode cJ2_indexOfChar_4cfef 10 = .ok (.invokestatic 244, 3) := by decide +kernel
theorem dJ2_indexOfChar_4cfef_13 : decode cJ2_indexOfChar_4cfef 13 = .ok (.ireturn, 1) := by decide +kernel
theorem dJ2_indexOfCharUnsafe_4cfef_0 : decode cJ2_indexOfCharUnsafe_4cfef 0 = .ok (.iload_n 2, 1) := by decide +kernel
theorem dJ2_indexOfCharUnsafe_4cfef_1 : decode cJ2_indexOfCharUnsafe_4cfef 1 = .ok (.istore 4, 2) := by decide +kernel
theorem dJ2_indexOfCharUnsafe_4cfef_3 : decode cJ2_indexOfCharUnsafe_4cfef 3 = .ok (.iload 4, 2) := by decide +kernel
theorem dJ2_indexOfCharUnsafe_4cfef_5 : decode cJ2_indexOfCharUnsafe_4cfef 5 = .ok (.iload_n 3, 1) := by decide +kernel
theorem dJ2_indexOfCharUnsafe_4cfef_6 : decode cJ2_indexOfCharUnsafe_4cfef 6 = .ok (.if_icmp .ge 22, 3) := by decide +kernel
theorem dJ2_indexOfCharUnsafe_4cfef_9 : decode cJ2_indexOfCharUnsafe_4cfef 9 = .ok (.aload_n 0, 1) := by decide +kernel
theorem dJ2_indexOfCharUnsafe_4cfef_10 : decode cJ2_indexOfCharUnsafe_4cfef 10 = .ok (.iload 4, 2) := by decide +kernel
theorem dJ2_indexOfCharUnsafe_4cfef_12 : decode cJ2_indexOfCharUnsafe_4cfef 12 = .ok (.invokestatic 71, 3) := by decide +kernel
theorem dJ2_indexOfCharUnsafe_4cfef_15 : decode cJ2_indexOfCharUnsafe_4cfef 15 = .ok (.iload_n 1, 1) := by decide +kernel
theorem dJ2_indexOfCharUnsafe_4cfef_16 : decode cJ2_indexOfCharUnsafe_4cfef 16 = .ok (.if_icmp .ne 6, 3) := by decide +kernel
theorem dJ2_indexOfCharUnsafe_4cfef_19 : decode cJ2_indexOfCharUnsafe_4cfef 19 = .ok (.iload 4, 2) := by decide +kernel
theorem dJ2_indexOfCharUnsafe_4cfef_21 : decode cJ2_indexOfCharUnsafe_4cfef 21 = .ok (.ireturn, 1) := by decide +kernel
theorem dJ2_indexOfCharUnsafe_4cfef_22 : decode cJ2_indexOfCharUnsafe_4cfef 22 = .ok (.iinc 4 1, 3) := by decide +kernel
theorem dJ2_indexOfCharUnsafe_4cfef_25 : decode cJ2_indexOfCharUnsafe_4cfef 25 = .ok (.goto (-22), 3) := by decide +kernel
theorem dJ2_indexOfCharUnsafe_4cfef_28 : decode cJ2_indexOfCharUnsafe_4cfef 28 = .ok (.iconst (-1), 1) := by decide +kernel
theorem dJ2_indexOfCharUnsafe_4cfef_29 : decode cJ2_indexOfCharUnsafe_4cfef 29 = .ok (.ireturn, 1) := by decide +kernel
theorem dJ2_indexOfSupplementary_4cfef_0 : decode cJ2_indexOfSupplementary_4cfef 0 = .ok (.iload_n 1, 1) := by decide +kernel
theorem dJ2_indexOfSupplementary_4cfef_1 : decode cJ2_indexOfSupplementary_4cfef 1 = .ok (.invokestatic 164, 3) := by decide +kernel
theorem dJ2_indexOfSupplementary_4cfef_4 : decode cJ2_indexOfSupplementary_4cfef 4 = .ok (.ifCond .eq 65, 3) := by decide +kernel
theorem dJ2_indexOfSupplementary_4cfef_7 : decode cJ2_indexOfSupplementary_4cfef 7 = .ok (.iload_n 1, 1) := by decide +kernel
theorem dJ2_indexOfSupplementary_4cfef_8 : decode cJ2_indexOfSupplementary_4cfef 8 = .ok (.invokestatic 157, 3) := by decide +kernel
theorem dJ2_indexOfSupplementary_4cfef_11 : decode cJ2_indexOfSupplementary_4cfef 11 = .ok (.istore 4, 2) := by decide +kernel
theorem dJ2_indexOfSupplementary_4cfef_13 : decode cJ2_indexOfSupplementary_4cfef 13 = .ok (.iload_n 1, 1) := by decide +kernel
theorem dJ2_indexOfSupplementary_4cfef_14 : decode cJ2_indexOfSupplementary_4cfef 14 = .ok (.invokestatic 161, 3) := by decide +kernel
theorem dJ2_indexOfSupplementary_4cfef_17 : decode cJ2_indexOfSupplementary_4cfef 17 = .ok (.istore 5, 2) := by decide +kernel
theorem dJ2_indexOfSupplementary_4cfef_19 : decode cJ2_indexOfSupplementary_4cfef 19 = .ok (.iload_n 2, 1) := by decide +kernel
theorem dJ2_indexOfSupplementary_4cfef_20 : decode cJ2_indexOfSupplementary_4cfef 20 = .ok (.iload_n 3, 1) := by decide +kernel
theorem dJ2_indexOfSupplementary_4cfef_21 : decode cJ2_indexOfSupplementary_4cfef 21 = .ok (.aload_n 0, 1) := by decide +kernel
theorem dJ2_indexOfSupplementary_4cfef_22 : decode cJ2_indexOfSupplementary_4cfef 22 = .ok (.invokestatic 96, 3) := by decide +kernel
theorem dJ2_indexOfSupplementary_4cfef_25 : decode cJ2_indexOfSupplementary_4cfef 25 = .ok (.iload_n 2, 1) := by decide +kernel
theorem dJ2_indexOfSupplementary_4cfef_26 : decode cJ2_indexOfSupplementary_4cfef 26 = .ok (.istore 6, 2) := by decide +kernel
theorem dJ2_indexOfSupplementary_4cfef_28 : decode cJ2_indexOfSupplementary_4cfef 28 = .ok (.iload 6, 2) := by decide +kernel
theorem dJ2_indexOfSupplementary_4cfef_30 : decode cJ2_indexOfSupplementary_4cfef 30 = .ok (.iload_n 3, 1) := by decide +kernel
theorem dJ2_indexOfSupplementary_4cfef_31 : decode cJ2_indexOfSupplementary_4cfef 31 = .ok (.iconst 1, 1) := by decide +kernel
theorem dJ2_indexOfSupplementary_4cfef_32 : decode cJ2_indexOfSupplementary_4cfef 32 = .ok (.isub, 1) := by decide +kernel
theorem dJ2_indexOfSupplementary_4cfef_33 : decode cJ2_indexOfSupplementary_4cfef 33 = .ok (.if_icmp .ge 36, 3) := by decide +kernel
theorem dJ2_indexOfSupplementary_4cfef_36 : decode cJ2_indexOfSupplementary_4cfef 36 = .ok (.aload_n 0, 1) := by decide +kernel
theorem dJ2_indexOfSupplementary_4cfef_37 : decode cJ2_indexOfSupplementary_4cfef 37 = .ok (.iload 6, 2) := by decide +kernel
theorem dJ2_indexOfSupplementary_4cfef_39 : decode cJ2_indexOfSupplementary_4cfef 39 = .ok (.invokestatic 71, 3) := by decide +kernel
theorem dJ2_indexOfSupplementary_4cfef_42 : decode cJ2_indexOfSupplementary_4cfef 42 = .ok (.iload 4, 2) := by decide +kernel
theorem dJ2_indexOfSupplementary_4cfef_44 : decode cJ2_indexOfSupplementary_4cfef 44 = .ok (.if_icmp .ne 19, 3) := by decide +kernel
theorem dJ2_indexOfSupplementary_4cfef_47 : decode cJ2_indexOfSupplementary_4cfef 47 = .ok (.aload_n 0, 1) := by decide +kernel
theorem dJ2_indexOfSupplementary_4cfef_48 : decode cJ2_indexOfSupplementary_4cfef 48 = .ok (.iload 6, 2) := by decide +kernel
theorem dJ2_indexOfSupplementary_4cfef_50 : decode cJ2_indexOfSupplementary_4cfef 50 = .ok (.iconst 1, 1) := by decide +kernel
theorem dJ2_indexOfSupplementary_4cfef_51 : decode cJ2_indexOfSupplementary_4cfef 51 = .ok (.iadd, 1) := by decide +kernel
theorem dJ2_indexOfSupplementary_4cfef_52 : decode cJ2_indexOfSupplementary_4cfef 52 = .ok (.invokestatic 71, 3) := by decide +kernel
theorem dJ2_indexOfSupplementary_4cfef_55 : decode cJ2_indexOfSupplementary_4cfef 55 = .ok (.iload 5, 2) := by decide +kernel
theorem dJ2_indexOfSupplementary_4cfef_57 : decode cJ2_indexOfSupplementary_4cfef 57 = .ok (.if_icmp .ne 6, 3) := by decide +kernel
theorem dJ2_indexOfSupplementary_4cfef_60 : decode cJ2_indexOfSupplementary_4cfef 60 = .ok (.iload 6, 2) := by decide +kernel
theorem dJ2_indexOfSupplementary_4cfef_62 : decode cJ2_indexOfSupplementary_4cfef 62 = .ok (.ireturn, 1) := by decide +kernel
theorem dJ2_indexOfSupplementary_4cfef_63 : decode cJ2_indexOfSupplementary_4cfef 63 = .ok (.iinc 6 1, 3) := by decide +kernel
theorem dJ2_indexOfSupplementary_4cfef_66 : decode cJ2_indexOfSupplementary_4cfef 66 = .ok (.goto (-38), 3) := by decide +kernel
theorem dJ2_indexOfSupplementary_4cfef_69 : decode cJ2_indexOfSupplementary_4cfef 69 = .ok (.iconst (-1), 1) := by decide +kernel
theorem dJ2_indexOfSupplementary_4cfef_70 : decode cJ2_indexOfSupplementary_4cfef 70 = .ok (.ireturn, 1) := by decide +kernel
theorem dJ2_checkBoundsBeginEnd_d044e_0 : decode cJ2_checkBoundsBeginEnd_d044e 0 = .ok (.iload_n 0, 1) := by decide +kernel
theorem dJ2_checkBoundsBeginEnd_d044e_1 : decode cJ2_checkBoundsBeginEnd_d044e 1 = .ok (.iload_n 1, 1) := by decide +kernel
theorem dJ2_checkBoundsBeginEnd_d044e_2 : decode cJ2_checkBoundsBeginEnd_d044e 2 = .ok (.aload_n 2, 1) := by decide +kernel
theorem dJ2_checkBoundsBeginEnd_d044e_3 : decode cJ2_checkBoundsBeginEnd_d044e 3 = .ok (.invokestatic 48, 3) := by decide +kernel
theorem dJ2_checkBoundsBeginEnd_d044e_6 : decode cJ2_checkBoundsBeginEnd_d044e 6 = .ok (.invokestatic 241, 3) := by decide +kernel
theorem dJ2_checkBoundsBeginEnd_d044e_9 : decode cJ2_checkBoundsBeginEnd_d044e 9 = .ok (.return_, 1) := by decide +kernel
theorem dJ3_checkFromToIndex_8c36e_0 : decode cJ3_checkFromToIndex_8c36e 0 = .ok (.iload_n 0, 1) := by decide +kernel
theorem dJ3_checkFromToIndex_8c36e_1 : decode cJ3_checkFromToIndex_8c36e 1 = .ok (.ifCond .lt 13, 3) := by decide +kernel
theorem dJ3_checkFromToIndex_8c36e_4 : decode cJ3_checkFromToIndex_8c36e 4 = .ok (.iload_n 0, 1) := by decide +kernel
theorem dJ3_checkFromToIndex_8c36e_5 : decode cJ3_checkFromToIndex_8c36e 5 = .ok (.iload_n 1, 1) := by decide +kernel
theorem dJ3_checkFromToIndex_8c36e_6 : decode cJ3_checkFromToIndex_8c36e 6 = .ok (.if_icmp .gt 8, 3) := by decide +kernel
theorem dJ3_checkFromToIndex_8c36e_9 : decode cJ3_checkFromToIndex_8c36e 9 = .ok (.iload_n 1, 1) := by decide +kernel
theorem dJ3_checkFromToIndex_8c36e_10 : decode cJ3_checkFromToIndex_8c36e 10 = .ok (.iload_n 2, 1) := by decide +kernel
theorem dJ3_checkFromToIndex_8c36e_11 : decode cJ3_checkFromToIndex_8c36e 11 = .ok (.if_icmp .le 11, 3) := by decide +kernel
theorem dJ3_checkFromToIndex_8c36e_14 : decode cJ3_checkFromToIndex_8c36e 14 = .ok (.aload_n 3, 1) := by decide +kernel
theorem dJ3_checkFromToIndex_8c36e_15 : decode cJ3_checkFromToIndex_8c36e 15 = .ok (.iload_n 0, 1) := by decide +kernel
theorem dJ3_checkFromToIndex_8c36e_16 : decode cJ3_checkFromToIndex_8c36e 16 = .ok (.iload_n 1, 1) := by decide +kernel
theorem dJ3_checkFromToIndex_8c36e_17 : decode cJ3_checkFromToIndex_8c36e 17 = .ok (.iload_n 2, 1) := by decide +kernel
theorem dJ3_checkFromToIndex_8c36e_18 : decode cJ3_checkFromToIndex_8c36e 18 = .ok (.invokestatic 99, 3) := by decide +kernel
theorem dJ3_checkFromToIndex_8c36e_21 : decode cJ3_checkFromToIndex_8c36e 21 = .ok (.athrow, 1) := by decide +kernel
theorem dJ3_checkFromToIndex_8c36e_22 : decode cJ3_checkFromToIndex_8c36e 22 = .ok (.iload_n 0, 1) := by decide +kernel
theorem dJ3_checkFromToIndex_8c36e_23 : decode cJ3_checkFromToIndex_8c36e 23 = .ok (.ireturn, 1) := by decide +kernel
theorem dL_law_0 : decode cL_law 0 = .ok (.new 7, 3) := by decide +kernel
theorem dL_law_3 : decode cL_law 3 = .ok (.dup, 1) := by decide +kernel
theorem dL_law_4 : decode cL_law 4 = .ok (.invokespecial 9, 3) := by decide +kernel
theorem dL_law_7 : decode cL_law 7 = .ok (.astore_n 1, 1) := by decide +kernel
theorem dL_law_8 : decode cL_law 8 = .ok (.new 10, 3) := by decide +kernel
theorem dL_law_11 : decode cL_law 11 = .ok (.dup, 1) := by decide +kernel
theorem dL_law_12 : decode cL_law 12 = .ok (.invokespecial 12, 3) := by decide +kernel
theorem dL_law_15 : decode cL_law 15 = .ok (.astore_n 2, 1) := by decide +kernel
theorem dL_law_16 : decode cL_law 16 = .ok (.iconst 0, 1) := by decide +kernel
theorem dL_law_17 : decode cL_law 17 = .ok (.istore_n 3, 1) := by decide +kernel
theorem dL_law_18 : decode cL_law 18 = .ok (.iload_n 3, 1) := by decide +kernel
theorem dL_law_19 : decode cL_law 19 = .ok (.aload_n 0, 1) := by decide +kernel
theorem dL_law_20 : decode cL_law 20 = .ok (.arraylength, 1) := by decide +kernel
theorem dL_law_21 : decode cL_law 21 = .ok (.bipush 7, 2) := by decide +kernel
theorem dL_law_23 : decode cL_law 23 = .ok (.isub, 1) := by decide +kernel
theorem dL_law_24 : decode cL_law 24 = .ok (.if_icmp .gt 1427, 3) := by decide +kernel
theorem dL_law_27 : decode cL_law 27 = .ok (.aload_n 0, 1) := by decide +kernel
theorem dL_law_28 : decode cL_law 28 = .ok (.iload_n 3, 1) := by decide +kernel
theorem dL_law_29 : decode cL_law 29 = .ok (.iaload, 1) := by decide +kernel
theorem dL_law_30 : decode cL_law 30 = .ok (.bipush 63, 2) := by decide +kernel
theorem dL_law_32 : decode cL_law 32 = .ok (.iand, 1) := by decide +kernel
theorem dL_law_33 : decode cL_law 33 = .ok (.tableswitch 1412 0 34 #[155, 178, 211, 234, 267, 310, 343, 366, 379, 402, 455, 488, 531, 574, 597, 610, 633, 676, 719, 742, 765, 798, 841, 894, 927, 960, 983, 1036, 1049, 1062, 1137, 1200, 1243, 1266, 1349], 155) := by decide +kernel
theorem dL_law_188 : decode cL_law 188 = .ok (.aload_n 1, 1) := by decide +kernel
theorem dL_law_189 : decode cL_law 189 = .ok (.aload_n 0, 1) := by decide +kernel
theorem dL_law_190 : decode cL_law 190 = .ok (.iload_n 3, 1) := by decide +kernel
theorem dL_law_191 : decode cL_law 191 = .ok (.iconst 1, 1) := by decide +kernel
theorem dL_law_192 : decode cL_law 192 = .ok (.iadd, 1) := by decide +kernel
theorem dL_law_193 : decode cL_law 193 = .ok (.iaload, 1) := by decide +kernel
theorem dL_law_194 : decode cL_law 194 = .ok (.invokevirtual 13, 3) := by decide +kernel
theorem dL_law_197 : decode cL_law 197 = .ok (.aload_n 2, 1) := by decide +kernel
theorem dL_law_198 : decode cL_law 198 = .ok (.aload_n 0, 1) := by decide +kernel
theorem dL_law_199 : decode cL_law 199 = .ok (.iload_n 3, 1) := by decide +kernel
theorem dL_law_200 : decode cL_law 200 = .ok (.iconst 1, 1) := by decide +kernel
theorem dL_law_201 : decode cL_law 201 = .ok (.iadd, 1) := by decide +kernel
theorem dL_law_202 : decode cL_law 202 = .ok (.iaload, 1) := by decide +kernel
theorem dL_law_203 : decode cL_law 203 = .ok (.invokevirtual 17, 3) := by decide +kernel
theorem dL_law_206 : decode cL_law 206 = .ok (.if_icmp .eq 1239, 3) := by decide +kernel
theorem dL_law_209 : decode cL_law 209 = .ok (.iconst 0, 1) := by decide +kernel
theorem dL_law_210 : decode cL_law 210 = .ok (.ireturn, 1) := by decide +kernel
theorem dL_law_211 : decode cL_law 211 = .ok (.aload_n 1, 1) := by decide +kernel
theorem dL_law_212 : decode cL_law 212 = .ok (.aload_n 0, 1) := by decide +kernel
theorem dL_law_213 : decode cL_law 213 = .ok (.iload_n 3, 1) := by decide +kernel
theorem dL_law_214 : decode cL_law 214 = .ok (.iconst 1, 1) := by decide +kernel
theorem dL_law_215 : decode cL_law 215 = .ok (.iadd, 1) := by decide +kernel
theorem dL_law_216 : decode cL_law 216 = .ok (.iaload, 1) := by decide +kernel
theorem dL_law_217 : decode cL_law 217 = .ok (.aload_n 0, 1) := by decide +kernel
theorem dL_law_218 : decode cL_law 218 = .ok (.iload_n 3, 1) := by decide +kernel
theorem dL_law_219 : decode cL_law 219 = .ok (.iconst 2, 1) := by decide +kernel
theorem dL_law_220 : decode cL_law 220 = .ok (.iadd, 1) := by decide +kernel
theorem dL_law_221 : decode cL_law 221 = .ok (.iaload, 1) := by decide +kernel
theorem dL_law_222 : decode cL_law 222 = .ok (.invokevirtual 18, 3) := by decide +kernel
theorem dL_law_225 : decode cL_law 225 = .ok (.aload_n 2, 1) := by decide +kernel
theorem dL_law_226 : decode cL_law 226 = .ok (.aload_n 0, 1) := by decide +kernel
theorem dL_law_227 : decode cL_law 227 = .ok (.iload_n 3, 1) := by decide +kernel
theorem dL_law_228 : decode cL_law 228 = .ok (.iconst 1, 1) := by decide +kernel
theorem dL_law_229 : decode cL_law 229 = .ok (.iadd, 1) := by decide +kernel
theorem dL_law_230 : decode cL_law 230 = .ok (.iaload, 1) := by decide +kernel
theorem dL_law_231 : decode cL_law 231 = .ok (.aload_n 0, 1) := by decide +kernel
theorem dL_law_232 : decode cL_law 232 = .ok (.iload_n 3, 1) := by decide +kernel
theorem dL_law_233 : decode cL_law 233 = .ok (.iconst 2, 1) := by decide +kernel
theorem dL_law_234 : decode cL_law 234 = .ok (.iadd, 1) := by decide +kernel
theorem dL_law_235 : decode cL_law 235 = .ok (.iaload, 1) := by decide +kernel
theorem dL_law_236 : decode cL_law 236 = .ok (.invokevirtual 22, 3) := by decide +kernel
theorem dL_law_239 : decode cL_law 239 = .ok (.if_icmp .eq 1206, 3) := by decide +kernel
theorem dL_law_242 : decode cL_law 242 = .ok (.iconst 0, 1) := by decide +kernel
theorem dL_law_243 : decode cL_law 243 = .ok (.ireturn, 1) := by decide +kernel
theorem dL_law_244 : decode cL_law 244 = .ok (.aload_n 1, 1) := by decide +kernel
theorem dL_law_245 : decode cL_law 245 = .ok (.aload_n 0, 1) := by decide +kernel
theorem dL_law_246 : decode cL_law 246 = .ok (.iload_n 3, 1) := by decide +kernel
theorem dL_law_247 : decode cL_law 247 = .ok (.iconst 1, 1) := by decide +kernel
theorem dL_law_248 : decode cL_law 248 = .ok (.iadd, 1) := by decide +kernel
theorem dL_law_249 : decode cL_law 249 = .ok (.iaload, 1) := by decide +kernel
theorem dL_law_250 : decode cL_law 250 = .ok (.invokevirtual 23, 3) := by decide +kernel
theorem dL_law_253 : decode cL_law 253 = .ok (.aload_n 2, 1) := by decide +kernel
theorem dL_law_254 : decode cL_law 254 = .ok (.aload_n 0, 1) := by decide +kernel
theorem dL_law_255 : decode cL_law 255 = .ok (.iload_n 3, 1) := by decide +kernel
theorem dL_law_256 : decode cL_law 256 = .ok (.iconst 1, 1) := by decide +kernel
theorem dL_law_257 : decode cL_law 257 = .ok (.iadd, 1) := by decide +kernel
theorem dL_law_258 : decode cL_law 258 = .ok (.iaload, 1) := by decide +kernel
theorem dL_law_259 : decode cL_law 259 = .ok (.invokevirtual 26, 3) := by decide +kernel
theorem dL_law_262 : decode cL_law 262 = .ok (.if_icmp .eq 1183, 3) := by decide +kernel
theorem dL_law_265 : decode cL_law 265 = .ok (.iconst 0, 1) := by decide +kernel
theorem dL_law_266 : decode cL_law 266 = .ok (.ireturn, 1) := by decide +kernel
theorem dL_law_267 : decode cL_law 267 = .ok (.aload_n 1, 1) := by decide +kernel
theorem dL_law_268 : decode cL_law 268 = .ok (.aload_n 0, 1) := by decide +kernel
theorem dL_law_269 : decode cL_law 269 = .ok (.iload_n 3, 1) := by decide +kernel
theorem dL_law_270 : decode cL_law 270 = .ok (.iconst 1, 1) := by decide +kernel
theorem dL_law_271 : decode cL_law 271 = .ok (.iadd, 1) := by decide +kernel
theorem dL_law_272 : decode cL_law 272 = .ok (.iaload, 1) := by decide +kernel
theorem dL_law_273 : decode cL_law 273 = .ok (.aload_n 0, 1) := by decide +kernel
theorem dL_law_274 : decode cL_law 274 = .ok (.iload_n 3, 1) := by decide +kernel
theorem dL_law_275 : decode cL_law 275 = .ok (.iconst 2, 1) := by decide +kernel
theorem dL_law_276 : decode cL_law 276 = .ok (.iadd, 1) := by decide +kernel
theorem dL_law_277 : decode cL_law 277 = .ok (.iaload, 1) := by decide +kernel
theorem dL_law_278 : decode cL_law 278 = .ok (.invokevirtual 27, 3) := by decide +kernel
theorem dL_law_281 : decode cL_law 281 = .ok (.aload_n 2, 1) := by decide +kernel
theorem dL_law_282 : decode cL_law 282 = .ok (.aload_n 0, 1) := by decide +kernel
theorem dL_law_283 : decode cL_law 283 = .ok (.iload_n 3, 1) := by decide +kernel
theorem dL_law_284 : decode cL_law 284 = .ok (.iconst 1, 1) := by decide +kernel
theorem dL_law_285 : decode cL_law 285 = .ok (.iadd, 1) := by decide +kernel
theorem dL_law_286 : decode cL_law 286 = .ok (.iaload, 1) := by decide +kernel
theorem dL_law_287 : decode cL_law 287 = .ok (.aload_n 0, 1) := by decide +kernel
theorem dL_law_288 : decode cL_law 288 = .ok (.iload_n 3, 1) := by decide +kernel
theorem dL_law_289 : decode cL_law 289 = .ok (.iconst 2, 1) := by decide +kernel
theorem dL_law_290 : decode cL_law 290 = .ok (.iadd, 1) := by decide +kernel
theorem dL_law_291 : decode cL_law 291 = .ok (.iaload, 1) := by decide +kernel
theorem dL_law_292 : decode cL_law 292 = .ok (.invokevirtual 30, 3) := by decide +kernel
theorem dL_law_295 : decode cL_law 295 = .ok (.if_icmp .eq 1150, 3) := by decide +kernel
theorem dL_law_298 : decode cL_law 298 = .ok (.iconst 0, 1) := by decide +kernel
theorem dL_law_299 : decode cL_law 299 = .ok (.ireturn, 1) := by decide +kernel
theorem dL_law_300 : decode cL_law 300 = .ok (.aload_n 1, 1) := by decide +kernel
theorem dL_law_301 : decode cL_law 301 = .ok (.aload_n 0, 1) := by decide +kernel
theorem dL_law_302 : decode cL_law 302 = .ok (.iload_n 3, 1) := by decide +kernel
theorem dL_law_303 : decode cL_law 303 = .ok (.iconst 1, 1) := by decide +kernel
theorem dL_law_304 : decode cL_law 304 = .ok (.iadd, 1) := by decide +kernel
theorem dL_law_305 : decode cL_law 305 = .ok (.iaload, 1) := by decide +kernel
theorem dL_law_306 : decode cL_law 306 = .ok (.aload_n 0, 1) := by decide +kernel
theorem dL_law_307 : decode cL_law 307 = .ok (.iload_n 3, 1) := by decide +kernel
theorem dL_law_308 : decode cL_law 308 = .ok (.iconst 2, 1) := by decide +kernel
theorem dL_law_309 : decode cL_law 309 = .ok (.iadd, 1) := by decide +kernel
theorem dL_law_310 : decode cL_law 310 = .ok (.iaload, 1) := by decide +kernel
theorem dL_law_311 : decode cL_law 311 = .ok (.aload_n 0, 1) := by decide +kernel
theorem dL_law_312 : decode cL_law 312 = .ok (.iload_n 3, 1) := by decide +kernel
theorem dL_law_313 : decode cL_law 313 = .ok (.iconst 3, 1) := by decide +kernel
theorem dL_law_314 : decode cL_law 314 = .ok (.iadd, 1) := by decide +kernel
theorem dL_law_315 : decode cL_law 315 = .ok (.iaload, 1) := by decide +kernel
theorem dL_law_316 : decode cL_law 316 = .ok (.invokevirtual 31, 3) := by decide +kernel
theorem dL_law_319 : decode cL_law 319 = .ok (.aload_n 2, 1) := by decide +kernel
theorem dL_law_320 : decode cL_law 320 = .ok (.aload_n 0, 1) := by decide +kernel
theorem dL_law_321 : decode cL_law 321 = .ok (.iload_n 3, 1) := by decide +kernel
theorem dL_law_322 : decode cL_law 322 = .ok (.iconst 1, 1) := by decide +kernel
theorem dL_law_323 : decode cL_law 323 = .ok (.iadd, 1) := by decide +kernel
theorem dL_law_324 : decode cL_law 324 = .ok (.iaload, 1) := by decide +kernel
theorem dL_law_325 : decode cL_law 325 = .ok (.aload_n 0, 1) := by decide +kernel
theorem dL_law_326 : decode cL_law 326 = .ok (.iload_n 3, 1) := by decide +kernel
theorem dL_law_327 : decode cL_law 327 = .ok (.iconst 2, 1) := by decide +kernel
theorem dL_law_328 : decode cL_law 328 = .ok (.iadd, 1) := by decide +kernel
theorem dL_law_329 : decode cL_law 329 = .ok (.iaload, 1) := by decide +kernel
theorem dL_law_330 : decode cL_law 330 = .ok (.aload_n 0, 1) := by decide +kernel
theorem dL_law_331 : decode cL_law 331 = .ok (.iload_n 3, 1) := by decide +kernel
theorem dL_law_332 : decode cL_law 332 = .ok (.iconst 3, 1) := by decide +kernel
theorem dL_law_333 : decode cL_law 333 = .ok (.iadd, 1) := by decide +kernel
theorem dL_law_334 : decode cL_law 334 = .ok (.iaload, 1) := by decide +kernel
theorem dL_law_335 : decode cL_law 335 = .ok (.invokevirtual 35, 3) := by decide +kernel
theorem dL_law_338 : decode cL_law 338 = .ok (.if_icmp .eq 1107, 3) := by decide +kernel
theorem dL_law_341 : decode cL_law 341 = .ok (.iconst 0, 1) := by decide +kernel
theorem dL_law_342 : decode cL_law 342 = .ok (.ireturn, 1) := by decide +kernel
theorem dL_law_343 : decode cL_law 343 = .ok (.aload_n 1, 1) := by decide +kernel
theorem dL_law_344 : decode cL_law 344 = .ok (.aload_n 0, 1) := by decide +kernel
theorem dL_law_345 : decode cL_law 345 = .ok (.iload_n 3, 1) := by decide +kernel
theorem dL_law_346 : decode cL_law 346 = .ok (.iconst 1, 1) := by decide +kernel
theorem dL_law_347 : decode cL_law 347 = .ok (.iadd, 1) := by decide +kernel
theorem dL_law_348 : decode cL_law 348 = .ok (.iaload, 1) := by decide +kernel
theorem dL_law_349 : decode cL_law 349 = .ok (.aload_n 0, 1) := by decide +kernel
theorem dL_law_350 : decode cL_law 350 = .ok (.iload_n 3, 1) := by decide +kernel
theorem dL_law_351 : decode cL_law 351 = .ok (.iconst 2, 1) := by decide +kernel
theorem dL_law_352 : decode cL_law 352 = .ok (.iadd, 1) := by decide +kernel
theorem dL_law_353 : decode cL_law 353 = .ok (.iaload, 1) := by decide +kernel
theorem dL_law_354 : decode cL_law 354 = .ok (.invokevirtual 36, 3) := by decide +kernel
theorem dL_law_357 : decode cL_law 357 = .ok (.aload_n 2, 1) := by decide +kernel
theorem dL_law_358 : decode cL_law 358 = .ok (.aload_n 0, 1) := by decide +kernel
theorem dL_law_359 : decode cL_law 359 = .ok (.iload_n 3, 1) := by decide +kernel
theorem dL_law_360 : decode cL_law 360 = .ok (.iconst 1, 1) := by decide +kernel
theorem dL_law_361 : decode cL_law 361 = .ok (.iadd, 1) := by decide +kernel
theorem dL_law_362 : decode cL_law 362 = .ok (.iaload, 1) := by decide +kernel
theorem dL_law_363 : decode cL_law 363 = .ok (.aload_n 0, 1) := by decide +kernel
theorem dL_law_364 : decode cL_law 364 = .ok (.iload_n 3, 1) := by decide +kernel
theorem dL_law_365 : decode cL_law 365 = .ok (.iconst 2, 1) := by decide +kernel
theorem dL_law_366 : decode cL_law 366 = .ok (.iadd, 1) := by decide +kernel
theorem dL_law_367 : decode cL_law 367 = .ok (.iaload, 1) := by decide +kernel
theorem dL_law_368 : decode cL_law 368 = .ok (.invokevirtual 39, 3) := by decide +kernel
theorem dL_law_371 : decode cL_law 371 = .ok (.if_icmp .eq 1074, 3) := by decide +kernel
theorem dL_law_374 : decode cL_law 374 = .ok (.iconst 0, 1) := by decide +kernel
theorem dL_law_375 : decode cL_law 375 = .ok (.ireturn, 1) := by decide +kernel
theorem dL_law_376 : decode cL_law 376 = .ok (.aload_n 1, 1) := by decide +kernel
theorem dL_law_377 : decode cL_law 377 = .ok (.aload_n 0, 1) := by decide +kernel
theorem dL_law_378 : decode cL_law 378 = .ok (.iload_n 3, 1) := by decide +kernel
theorem dL_law_379 : decode cL_law 379 = .ok (.iconst 1, 1) := by decide +kernel
theorem dL_law_380 : decode cL_law 380 = .ok (.iadd, 1) := by decide +kernel
theorem dL_law_381 : decode cL_law 381 = .ok (.iaload, 1) := by decide +kernel
theorem dL_law_382 : decode cL_law 382 = .ok (.invokevirtual 40, 3) := by decide +kernel
theorem dL_law_385 : decode cL_law 385 = .ok (.aload_n 2, 1) := by decide +kernel
theorem dL_law_386 : decode cL_law 386 = .ok (.aload_n 0, 1) := by decide +kernel
theorem dL_law_387 : decode cL_law 387 = .ok (.iload_n 3, 1) := by decide +kernel
theorem dL_law_388 : decode cL_law 388 = .ok (.iconst 1, 1) := by decide +kernel
theorem dL_law_389 : decode cL_law 389 = .ok (.iadd, 1) := by decide +kernel
theorem dL_law_390 : decode cL_law 390 = .ok (.iaload, 1) := by decide +kernel
theorem dL_law_391 : decode cL_law 391 = .ok (.invokevirtual 43, 3) := by decide +kernel
theorem dL_law_394 : decode cL_law 394 = .ok (.if_icmp .eq 1051, 3) := by decide +kernel
theorem dL_law_397 : decode cL_law 397 = .ok (.iconst 0, 1) := by decide +kernel
theorem dL_law_398 : decode cL_law 398 = .ok (.ireturn, 1) := by decide +kernel
theorem dL_law_399 : decode cL_law 399 = .ok (.aload_n 1, 1) := by decide +kernel
theorem dL_law_400 : decode cL_law 400 = .ok (.invokevirtual 44, 3) := by decide +kernel
theorem dL_law_403 : decode cL_law 403 = .ok (.aload_n 2, 1) := by decide +kernel
theorem dL_law_404 : decode cL_law 404 = .ok (.invokevirtual 48, 3) := by decide +kernel
theorem dL_law_407 : decode cL_law 407 = .ok (.if_icmp .eq 1038, 3) := by decide +kernel
theorem dL_law_410 : decode cL_law 410 = .ok (.iconst 0, 1) := by decide +kernel
theorem dL_law_411 : decode cL_law 411 = .ok (.ireturn, 1) := by decide +kernel
theorem dL_law_412 : decode cL_law 412 = .ok (.aload_n 1, 1) := by decide +kernel
theorem dL_law_413 : decode cL_law 413 = .ok (.aload_n 0, 1) := by decide +kernel
theorem dL_law_414 : decode cL_law 414 = .ok (.iload_n 3, 1) := by decide +kernel
theorem dL_law_415 : decode cL_law 415 = .ok (.iconst 1, 1) := by decide +kernel
theorem dL_law_416 : decode cL_law 416 = .ok (.iadd, 1) := by decide +kernel
theorem dL_law_417 : decode cL_law 417 = .ok (.iaload, 1) := by decide +kernel
theorem dL_law_418 : decode cL_law 418 = .ok (.invokevirtual 49, 3) := by decide +kernel
theorem dL_law_421 : decode cL_law 421 = .ok (.aload_n 2, 1) := by decide +kernel
theorem dL_law_422 : decode cL_law 422 = .ok (.aload_n 0, 1) := by decide +kernel
theorem dL_law_423 : decode cL_law 423 = .ok (.iload_n 3, 1) := by decide +kernel
theorem dL_law_424 : decode cL_law 424 = .ok (.iconst 1, 1) := by decide +kernel
theorem dL_law_425 : decode cL_law 425 = .ok (.iadd, 1) := by decide +kernel
theorem dL_law_426 : decode cL_law 426 = .ok (.iaload, 1) := by decide +kernel
theorem dL_law_427 : decode cL_law 427 = .ok (.invokevirtual 52, 3) := by decide +kernel
theorem dL_law_430 : decode cL_law 430 = .ok (.if_icmp .eq 1015, 3) := by decide +kernel
theorem dL_law_433 : decode cL_law 433 = .ok (.iconst 0, 1) := by decide +kernel
theorem dL_law_434 : decode cL_law 434 = .ok (.ireturn, 1) := by decide +kernel
theorem dL_law_435 : decode cL_law 435 = .ok (.aload_n 1, 1) := by decide +kernel
theorem dL_law_436 : decode cL_law 436 = .ok (.aload_n 0, 1) := by decide +kernel
theorem dL_law_437 : decode cL_law 437 = .ok (.iload_n 3, 1) := by decide +kernel
theorem dL_law_438 : decode cL_law 438 = .ok (.iconst 1, 1) := by decide +kernel
theorem dL_law_439 : decode cL_law 439 = .ok (.iadd, 1) := by decide +kernel
theorem dL_law_440 : decode cL_law 440 = .ok (.iaload, 1) := by decide +kernel
theorem dL_law_441 : decode cL_law 441 = .ok (.aload_n 0, 1) := by decide +kernel
theorem dL_law_442 : decode cL_law 442 = .ok (.iload_n 3, 1) := by decide +kernel
theorem dL_law_443 : decode cL_law 443 = .ok (.iconst 2, 1) := by decide +kernel
theorem dL_law_444 : decode cL_law 444 = .ok (.iadd, 1) := by decide +kernel
theorem dL_law_445 : decode cL_law 445 = .ok (.iaload, 1) := by decide +kernel
theorem dL_law_446 : decode cL_law 446 = .ok (.aload_n 0, 1) := by decide +kernel
theorem dL_law_447 : decode cL_law 447 = .ok (.iload_n 3, 1) := by decide +kernel
theorem dL_law_448 : decode cL_law 448 = .ok (.iconst 3, 1) := by decide +kernel
theorem dL_law_449 : decode cL_law 449 = .ok (.iadd, 1) := by decide +kernel
theorem dL_law_450 : decode cL_law 450 = .ok (.iaload, 1) := by decide +kernel
theorem dL_law_451 : decode cL_law 451 = .ok (.aload_n 0, 1) := by decide +kernel
theorem dL_law_452 : decode cL_law 452 = .ok (.iload_n 3, 1) := by decide +kernel
theorem dL_law_453 : decode cL_law 453 = .ok (.iconst 4, 1) := by decide +kernel
theorem dL_law_454 : decode cL_law 454 = .ok (.iadd, 1) := by decide +kernel
theorem dL_law_455 : decode cL_law 455 = .ok (.iaload, 1) := by decide +kernel
theorem dL_law_456 : decode cL_law 456 = .ok (.invokevirtual 53, 3) := by decide +kernel
theorem dL_law_459 : decode cL_law 459 = .ok (.aload_n 2, 1) := by decide +kernel
theorem dL_law_460 : decode cL_law 460 = .ok (.aload_n 0, 1) := by decide +kernel
theorem dL_law_461 : decode cL_law 461 = .ok (.iload_n 3, 1) := by decide +kernel
theorem dL_law_462 : decode cL_law 462 = .ok (.iconst 1, 1) := by decide +kernel
theorem dL_law_463 : decode cL_law 463 = .ok (.iadd, 1) := by decide +kernel
theorem dL_law_464 : decode cL_law 464 = .ok (.iaload, 1) := by decide +kernel
theorem dL_law_465 : decode cL_law 465 = .ok (.aload_n 0, 1) := by decide +kernel
theorem dL_law_466 : decode cL_law 466 = .ok (.iload_n 3, 1) := by decide +kernel
theorem dL_law_467 : decode cL_law 467 = .ok (.iconst 2, 1) := by decide +kernel
theorem dL_law_468 : decode cL_law 468 = .ok (.iadd, 1) := by decide +kernel
theorem dL_law_469 : decode cL_law 469 = .ok (.iaload, 1) := by decide +kernel
theorem dL_law_470 : decode cL_law 470 = .ok (.aload_n 0, 1) := by decide +kernel
theorem dL_law_471 : decode cL_law 471 = .ok (.iload_n 3, 1) := by decide +kernel
theorem dL_law_472 : decode cL_law 472 = .ok (.iconst 3, 1) := by decide +kernel
theorem dL_law_473 : decode cL_law 473 = .ok (.iadd, 1) := by decide +kernel
theorem dL_law_474 : decode cL_law 474 = .ok (.iaload, 1) := by decide +kernel
theorem dL_law_475 : decode cL_law 475 = .ok (.aload_n 0, 1) := by decide +kernel
theorem dL_law_476 : decode cL_law 476 = .ok (.iload_n 3, 1) := by decide +kernel
theorem dL_law_477 : decode cL_law 477 = .ok (.iconst 4, 1) := by decide +kernel
theorem dL_law_478 : decode cL_law 478 = .ok (.iadd, 1) := by decide +kernel
theorem dL_law_479 : decode cL_law 479 = .ok (.iaload, 1) := by decide +kernel
theorem dL_law_480 : decode cL_law 480 = .ok (.invokevirtual 57, 3) := by decide +kernel
theorem dL_law_483 : decode cL_law 483 = .ok (.if_icmp .eq 962, 3) := by decide +kernel
theorem dL_law_486 : decode cL_law 486 = .ok (.iconst 0, 1) := by decide +kernel
theorem dL_law_487 : decode cL_law 487 = .ok (.ireturn, 1) := by decide +kernel
theorem dL_law_488 : decode cL_law 488 = .ok (.aload_n 1, 1) := by decide +kernel
theorem dL_law_489 : decode cL_law 489 = .ok (.aload_n 0, 1) := by decide +kernel
theorem dL_law_490 : decode cL_law 490 = .ok (.iload_n 3, 1) := by decide +kernel
theorem dL_law_491 : decode cL_law 491 = .ok (.iconst 1, 1) := by decide +kernel
theorem dL_law_492 : decode cL_law 492 = .ok (.iadd, 1) := by decide +kernel
theorem dL_law_493 : decode cL_law 493 = .ok (.iaload, 1) := by decide +kernel
theorem dL_law_494 : decode cL_law 494 = .ok (.aload_n 0, 1) := by decide +kernel
theorem dL_law_495 : decode cL_law 495 = .ok (.iload_n 3, 1) := by decide +kernel
theorem dL_law_496 : decode cL_law 496 = .ok (.iconst 2, 1) := by decide +kernel
theorem dL_law_497 : decode cL_law 497 = .ok (.iadd, 1) := by decide +kernel
theorem dL_law_498 : decode cL_law 498 = .ok (.iaload, 1) := by decide +kernel
theorem dL_law_499 : decode cL_law 499 = .ok (.invokevirtual 58, 3) := by decide +kernel
theorem dL_law_502 : decode cL_law 502 = .ok (.aload_n 2, 1) := by decide +kernel
theorem dL_law_503 : decode cL_law 503 = .ok (.aload_n 0, 1) := by decide +kernel
theorem dL_law_504 : decode cL_law 504 = .ok (.iload_n 3, 1) := by decide +kernel
theorem dL_law_505 : decode cL_law 505 = .ok (.iconst 1, 1) := by decide +kernel
theorem dL_law_506 : decode cL_law 506 = .ok (.iadd, 1) := by decide +kernel
theorem dL_law_507 : decode cL_law 507 = .ok (.iaload, 1) := by decide +kernel
theorem dL_law_508 : decode cL_law 508 = .ok (.aload_n 0, 1) := by decide +kernel
theorem dL_law_509 : decode cL_law 509 = .ok (.iload_n 3, 1) := by decide +kernel
theorem dL_law_510 : decode cL_law 510 = .ok (.iconst 2, 1) := by decide +kernel
theorem dL_law_511 : decode cL_law 511 = .ok (.iadd, 1) := by decide +kernel
theorem dL_law_512 : decode cL_law 512 = .ok (.iaload, 1) := by decide +kernel
theorem dL_law_513 : decode cL_law 513 = .ok (.invokevirtual 61, 3) := by decide +kernel
theorem dL_law_516 : decode cL_law 516 = .ok (.if_icmp .eq 929, 3) := by decide +kernel
theorem dL_law_519 : decode cL_law 519 = .ok (.iconst 0, 1) := by decide +kernel
theorem dL_law_520 : decode cL_law 520 = .ok (.ireturn, 1) := by decide +kernel
theorem dL_law_521 : decode cL_law 521 = .ok (.aload_n 1, 1) := by decide +kernel
theorem dL_law_522 : decode cL_law 522 = .ok (.aload_n 0, 1) := by decide +kernel
theorem dL_law_523 : decode cL_law 523 = .ok (.iload_n 3, 1) := by decide +kernel
theorem dL_law_524 : decode cL_law 524 = .ok (.iconst 1, 1) := by decide +kernel
theorem dL_law_525 : decode cL_law 525 = .ok (.iadd, 1) := by decide +kernel
theorem dL_law_526 : decode cL_law 526 = .ok (.iaload, 1) := by decide +kernel
theorem dL_law_527 : decode cL_law 527 = .ok (.aload_n 0, 1) := by decide +kernel
theorem dL_law_528 : decode cL_law 528 = .ok (.iload_n 3, 1) := by decide +kernel
theorem dL_law_529 : decode cL_law 529 = .ok (.iconst 2, 1) := by decide +kernel
theorem dL_law_530 : decode cL_law 530 = .ok (.iadd, 1) := by decide +kernel
theorem dL_law_531 : decode cL_law 531 = .ok (.iaload, 1) := by decide +kernel
theorem dL_law_532 : decode cL_law 532 = .ok (.aload_n 0, 1) := by decide +kernel
theorem dL_law_533 : decode cL_law 533 = .ok (.iload_n 3, 1) := by decide +kernel
theorem dL_law_534 : decode cL_law 534 = .ok (.iconst 3, 1) := by decide +kernel
theorem dL_law_535 : decode cL_law 535 = .ok (.iadd, 1) := by decide +kernel
theorem dL_law_536 : decode cL_law 536 = .ok (.iaload, 1) := by decide +kernel
theorem dL_law_537 : decode cL_law 537 = .ok (.invokevirtual 62, 3) := by decide +kernel
theorem dL_law_540 : decode cL_law 540 = .ok (.aload_n 2, 1) := by decide +kernel
theorem dL_law_541 : decode cL_law 541 = .ok (.aload_n 0, 1) := by decide +kernel
theorem dL_law_542 : decode cL_law 542 = .ok (.iload_n 3, 1) := by decide +kernel
theorem dL_law_543 : decode cL_law 543 = .ok (.iconst 1, 1) := by decide +kernel
theorem dL_law_544 : decode cL_law 544 = .ok (.iadd, 1) := by decide +kernel
theorem dL_law_545 : decode cL_law 545 = .ok (.iaload, 1) := by decide +kernel
theorem dL_law_546 : decode cL_law 546 = .ok (.aload_n 0, 1) := by decide +kernel
theorem dL_law_547 : decode cL_law 547 = .ok (.iload_n 3, 1) := by decide +kernel
theorem dL_law_548 : decode cL_law 548 = .ok (.iconst 2, 1) := by decide +kernel
theorem dL_law_549 : decode cL_law 549 = .ok (.iadd, 1) := by decide +kernel
theorem dL_law_550 : decode cL_law 550 = .ok (.iaload, 1) := by decide +kernel
theorem dL_law_551 : decode cL_law 551 = .ok (.aload_n 0, 1) := by decide +kernel
theorem dL_law_552 : decode cL_law 552 = .ok (.iload_n 3, 1) := by decide +kernel
theorem dL_law_553 : decode cL_law 553 = .ok (.iconst 3, 1) := by decide +kernel
theorem dL_law_554 : decode cL_law 554 = .ok (.iadd, 1) := by decide +kernel
theorem dL_law_555 : decode cL_law 555 = .ok (.iaload, 1) := by decide +kernel
theorem dL_law_556 : decode cL_law 556 = .ok (.invokevirtual 65, 3) := by decide +kernel
theorem dL_law_559 : decode cL_law 559 = .ok (.if_icmp .eq 886, 3) := by decide +kernel
theorem dL_law_562 : decode cL_law 562 = .ok (.iconst 0, 1) := by decide +kernel
theorem dL_law_563 : decode cL_law 563 = .ok (.ireturn, 1) := by decide +kernel
theorem dL_law_564 : decode cL_law 564 = .ok (.aload_n 1, 1) := by decide +kernel
theorem dL_law_565 : decode cL_law 565 = .ok (.aload_n 0, 1) := by decide +kernel
theorem dL_law_566 : decode cL_law 566 = .ok (.iload_n 3, 1) := by decide +kernel
theorem dL_law_567 : decode cL_law 567 = .ok (.iconst 1, 1) := by decide +kernel
theorem dL_law_568 : decode cL_law 568 = .ok (.iadd, 1) := by decide +kernel
theorem dL_law_569 : decode cL_law 569 = .ok (.iaload, 1) := by decide +kernel
theorem dL_law_570 : decode cL_law 570 = .ok (.aload_n 0, 1) := by decide +kernel
theorem dL_law_571 : decode cL_law 571 = .ok (.iload_n 3, 1) := by decide +kernel
theorem dL_law_572 : decode cL_law 572 = .ok (.iconst 2, 1) := by decide +kernel
theorem dL_law_573 : decode cL_law 573 = .ok (.iadd, 1) := by decide +kernel
theorem dL_law_574 : decode cL_law 574 = .ok (.iaload, 1) := by decide +kernel
theorem dL_law_575 : decode cL_law 575 = .ok (.aload_n 0, 1) := by decide +kernel
theorem dL_law_576 : decode cL_law 576 = .ok (.iload_n 3, 1) := by decide +kernel
theorem dL_law_577 : decode cL_law 577 = .ok (.iconst 3, 1) := by decide +kernel
theorem dL_law_578 : decode cL_law 578 = .ok (.iadd, 1) := by decide +kernel
theorem dL_law_579 : decode cL_law 579 = .ok (.iaload, 1) := by decide +kernel
theorem dL_law_580 : decode cL_law 580 = .ok (.invokevirtual 66, 3) := by decide +kernel
theorem dL_law_583 : decode cL_law 583 = .ok (.aload_n 2, 1) := by decide +kernel
theorem dL_law_584 : decode cL_law 584 = .ok (.aload_n 0, 1) := by decide +kernel
theorem dL_law_585 : decode cL_law 585 = .ok (.iload_n 3, 1) := by decide +kernel
theorem dL_law_586 : decode cL_law 586 = .ok (.iconst 1, 1) := by decide +kernel
theorem dL_law_587 : decode cL_law 587 = .ok (.iadd, 1) := by decide +kernel
theorem dL_law_588 : decode cL_law 588 = .ok (.iaload, 1) := by decide +kernel
theorem dL_law_589 : decode cL_law 589 = .ok (.aload_n 0, 1) := by decide +kernel
theorem dL_law_590 : decode cL_law 590 = .ok (.iload_n 3, 1) := by decide +kernel
theorem dL_law_591 : decode cL_law 591 = .ok (.iconst 2, 1) := by decide +kernel
theorem dL_law_592 : decode cL_law 592 = .ok (.iadd, 1) := by decide +kernel
theorem dL_law_593 : decode cL_law 593 = .ok (.iaload, 1) := by decide +kernel
theorem dL_law_594 : decode cL_law 594 = .ok (.aload_n 0, 1) := by decide +kernel
theorem dL_law_595 : decode cL_law 595 = .ok (.iload_n 3, 1) := by decide +kernel
theorem dL_law_596 : decode cL_law 596 = .ok (.iconst 3, 1) := by decide +kernel
theorem dL_law_597 : decode cL_law 597 = .ok (.iadd, 1) := by decide +kernel
theorem dL_law_598 : decode cL_law 598 = .ok (.iaload, 1) := by decide +kernel
theorem dL_law_599 : decode cL_law 599 = .ok (.invokevirtual 69, 3) := by decide +kernel
theorem dL_law_602 : decode cL_law 602 = .ok (.if_icmp .eq 843, 3) := by decide +kernel
theorem dL_law_605 : decode cL_law 605 = .ok (.iconst 0, 1) := by decide +kernel
theorem dL_law_606 : decode cL_law 606 = .ok (.ireturn, 1) := by decide +kernel
theorem dL_law_607 : decode cL_law 607 = .ok (.aload_n 1, 1) := by decide +kernel
theorem dL_law_608 : decode cL_law 608 = .ok (.aload_n 0, 1) := by decide +kernel
theorem dL_law_609 : decode cL_law 609 = .ok (.iload_n 3, 1) := by decide +kernel
theorem dL_law_610 : decode cL_law 610 = .ok (.iconst 1, 1) := by decide +kernel
theorem dL_law_611 : decode cL_law 611 = .ok (.iadd, 1) := by decide +kernel
theorem dL_law_612 : decode cL_law 612 = .ok (.iaload, 1) := by decide +kernel
theorem dL_law_613 : decode cL_law 613 = .ok (.invokevirtual 70, 3) := by decide +kernel
theorem dL_law_616 : decode cL_law 616 = .ok (.aload_n 2, 1) := by decide +kernel
theorem dL_law_617 : decode cL_law 617 = .ok (.aload_n 0, 1) := by decide +kernel
theorem dL_law_618 : decode cL_law 618 = .ok (.iload_n 3, 1) := by decide +kernel
theorem dL_law_619 : decode cL_law 619 = .ok (.iconst 1, 1) := by decide +kernel
theorem dL_law_620 : decode cL_law 620 = .ok (.iadd, 1) := by decide +kernel
theorem dL_law_621 : decode cL_law 621 = .ok (.iaload, 1) := by decide +kernel
theorem dL_law_622 : decode cL_law 622 = .ok (.invokevirtual 73, 3) := by decide +kernel
theorem dL_law_625 : decode cL_law 625 = .ok (.if_icmp .eq 820, 3) := by decide +kernel
theorem dL_law_628 : decode cL_law 628 = .ok (.iconst 0, 1) := by decide +kernel
theorem dL_law_629 : decode cL_law 629 = .ok (.ireturn, 1) := by decide +kernel
theorem dL_law_630 : decode cL_law 630 = .ok (.aload_n 1, 1) := by decide +kernel
theorem dL_law_631 : decode cL_law 631 = .ok (.invokevirtual 74, 3) := by decide +kernel
theorem dL_law_634 : decode cL_law 634 = .ok (.aload_n 2, 1) := by decide +kernel
theorem dL_law_635 : decode cL_law 635 = .ok (.invokevirtual 77, 3) := by decide +kernel
theorem dL_law_638 : decode cL_law 638 = .ok (.if_icmp .eq 807, 3) := by decide +kernel
theorem dL_law_641 : decode cL_law 641 = .ok (.iconst 0, 1) := by decide +kernel
theorem dL_law_642 : decode cL_law 642 = .ok (.ireturn, 1) := by decide +kernel
theorem dL_law_643 : decode cL_law 643 = .ok (.aload_n 1, 1) := by decide +kernel
theorem dL_law_644 : decode cL_law 644 = .ok (.aload_n 0, 1) := by decide +kernel
theorem dL_law_645 : decode cL_law 645 = .ok (.iload_n 3, 1) := by decide +kernel
theorem dL_law_646 : decode cL_law 646 = .ok (.iconst 1, 1) := by decide +kernel
theorem dL_law_647 : decode cL_law 647 = .ok (.iadd, 1) := by decide +kernel
theorem dL_law_648 : decode cL_law 648 = .ok (.iaload, 1) := by decide +kernel
theorem dL_law_649 : decode cL_law 649 = .ok (.invokevirtual 78, 3) := by decide +kernel
theorem dL_law_652 : decode cL_law 652 = .ok (.aload_n 2, 1) := by decide +kernel
theorem dL_law_653 : decode cL_law 653 = .ok (.aload_n 0, 1) := by decide +kernel
theorem dL_law_654 : decode cL_law 654 = .ok (.iload_n 3, 1) := by decide +kernel
theorem dL_law_655 : decode cL_law 655 = .ok (.iconst 1, 1) := by decide +kernel
theorem dL_law_656 : decode cL_law 656 = .ok (.iadd, 1) := by decide +kernel
theorem dL_law_657 : decode cL_law 657 = .ok (.iaload, 1) := by decide +kernel
theorem dL_law_658 : decode cL_law 658 = .ok (.invokevirtual 81, 3) := by decide +kernel
theorem dL_law_661 : decode cL_law 661 = .ok (.if_icmp .eq 784, 3) := by decide +kernel
theorem dL_law_664 : decode cL_law 664 = .ok (.iconst 0, 1) := by decide +kernel
theorem dL_law_665 : decode cL_law 665 = .ok (.ireturn, 1) := by decide +kernel
theorem dL_law_666 : decode cL_law 666 = .ok (.aload_n 1, 1) := by decide +kernel
theorem dL_law_667 : decode cL_law 667 = .ok (.aload_n 0, 1) := by decide +kernel
theorem dL_law_668 : decode cL_law 668 = .ok (.iload_n 3, 1) := by decide +kernel
theorem dL_law_669 : decode cL_law 669 = .ok (.iconst 1, 1) := by decide +kernel
theorem dL_law_670 : decode cL_law 670 = .ok (.iadd, 1) := by decide +kernel
theorem dL_law_671 : decode cL_law 671 = .ok (.iaload, 1) := by decide +kernel
theorem dL_law_672 : decode cL_law 672 = .ok (.aload_n 0, 1) := by decide +kernel
theorem dL_law_673 : decode cL_law 673 = .ok (.iload_n 3, 1) := by decide +kernel
theorem dL_law_674 : decode cL_law 674 = .ok (.iconst 2, 1) := by decide +kernel
theorem dL_law_675 : decode cL_law 675 = .ok (.iadd, 1) := by decide +kernel
theorem dL_law_676 : decode cL_law 676 = .ok (.iaload, 1) := by decide +kernel
theorem dL_law_677 : decode cL_law 677 = .ok (.aload_n 0, 1) := by decide +kernel
theorem dL_law_678 : decode cL_law 678 = .ok (.iload_n 3, 1) := by decide +kernel
theorem dL_law_679 : decode cL_law 679 = .ok (.iconst 3, 1) := by decide +kernel
theorem dL_law_680 : decode cL_law 680 = .ok (.iadd, 1) := by decide +kernel
theorem dL_law_681 : decode cL_law 681 = .ok (.iaload, 1) := by decide +kernel
theorem dL_law_682 : decode cL_law 682 = .ok (.invokevirtual 82, 3) := by decide +kernel
theorem dL_law_685 : decode cL_law 685 = .ok (.aload_n 2, 1) := by decide +kernel
theorem dL_law_686 : decode cL_law 686 = .ok (.aload_n 0, 1) := by decide +kernel
theorem dL_law_687 : decode cL_law 687 = .ok (.iload_n 3, 1) := by decide +kernel
theorem dL_law_688 : decode cL_law 688 = .ok (.iconst 1, 1) := by decide +kernel
theorem dL_law_689 : decode cL_law 689 = .ok (.iadd, 1) := by decide +kernel
theorem dL_law_690 : decode cL_law 690 = .ok (.iaload, 1) := by decide +kernel
theorem dL_law_691 : decode cL_law 691 = .ok (.aload_n 0, 1) := by decide +kernel
theorem dL_law_692 : decode cL_law 692 = .ok (.iload_n 3, 1) := by decide +kernel
theorem dL_law_693 : decode cL_law 693 = .ok (.iconst 2, 1) := by decide +kernel
theorem dL_law_694 : decode cL_law 694 = .ok (.iadd, 1) := by decide +kernel
theorem dL_law_695 : decode cL_law 695 = .ok (.iaload, 1) := by decide +kernel
theorem dL_law_696 : decode cL_law 696 = .ok (.aload_n 0, 1) := by decide +kernel
theorem dL_law_697 : decode cL_law 697 = .ok (.iload_n 3, 1) := by decide +kernel
theorem dL_law_698 : decode cL_law 698 = .ok (.iconst 3, 1) := by decide +kernel
theorem dL_law_699 : decode cL_law 699 = .ok (.iadd, 1) := by decide +kernel
theorem dL_law_700 : decode cL_law 700 = .ok (.iaload, 1) := by decide +kernel
theorem dL_law_701 : decode cL_law 701 = .ok (.invokevirtual 85, 3) := by decide +kernel
theorem dL_law_704 : decode cL_law 704 = .ok (.if_icmp .eq 741, 3) := by decide +kernel
theorem dL_law_707 : decode cL_law 707 = .ok (.iconst 0, 1) := by decide +kernel
theorem dL_law_708 : decode cL_law 708 = .ok (.ireturn, 1) := by decide +kernel
theorem dL_law_709 : decode cL_law 709 = .ok (.aload_n 1, 1) := by decide +kernel
theorem dL_law_710 : decode cL_law 710 = .ok (.aload_n 0, 1) := by decide +kernel
theorem dL_law_711 : decode cL_law 711 = .ok (.iload_n 3, 1) := by decide +kernel
theorem dL_law_712 : decode cL_law 712 = .ok (.iconst 1, 1) := by decide +kernel
theorem dL_law_713 : decode cL_law 713 = .ok (.iadd, 1) := by decide +kernel
theorem dL_law_714 : decode cL_law 714 = .ok (.iaload, 1) := by decide +kernel
theorem dL_law_715 : decode cL_law 715 = .ok (.aload_n 0, 1) := by decide +kernel
theorem dL_law_716 : decode cL_law 716 = .ok (.iload_n 3, 1) := by decide +kernel
theorem dL_law_717 : decode cL_law 717 = .ok (.iconst 2, 1) := by decide +kernel
theorem dL_law_718 : decode cL_law 718 = .ok (.iadd, 1) := by decide +kernel
theorem dL_law_719 : decode cL_law 719 = .ok (.iaload, 1) := by decide +kernel
theorem dL_law_720 : decode cL_law 720 = .ok (.aload_n 0, 1) := by decide +kernel
theorem dL_law_721 : decode cL_law 721 = .ok (.iload_n 3, 1) := by decide +kernel
theorem dL_law_722 : decode cL_law 722 = .ok (.iconst 3, 1) := by decide +kernel
theorem dL_law_723 : decode cL_law 723 = .ok (.iadd, 1) := by decide +kernel
theorem dL_law_724 : decode cL_law 724 = .ok (.iaload, 1) := by decide +kernel
theorem dL_law_725 : decode cL_law 725 = .ok (.invokevirtual 86, 3) := by decide +kernel
theorem dL_law_728 : decode cL_law 728 = .ok (.aload_n 2, 1) := by decide +kernel
theorem dL_law_729 : decode cL_law 729 = .ok (.aload_n 0, 1) := by decide +kernel
theorem dL_law_730 : decode cL_law 730 = .ok (.iload_n 3, 1) := by decide +kernel
theorem dL_law_731 : decode cL_law 731 = .ok (.iconst 1, 1) := by decide +kernel
theorem dL_law_732 : decode cL_law 732 = .ok (.iadd, 1) := by decide +kernel
theorem dL_law_733 : decode cL_law 733 = .ok (.iaload, 1) := by decide +kernel
theorem dL_law_734 : decode cL_law 734 = .ok (.aload_n 0, 1) := by decide +kernel
theorem dL_law_735 : decode cL_law 735 = .ok (.iload_n 3, 1) := by decide +kernel
theorem dL_law_736 : decode cL_law 736 = .ok (.iconst 2, 1) := by decide +kernel
theorem dL_law_737 : decode cL_law 737 = .ok (.iadd, 1) := by decide +kernel
theorem dL_law_738 : decode cL_law 738 = .ok (.iaload, 1) := by decide +kernel
theorem dL_law_739 : decode cL_law 739 = .ok (.aload_n 0, 1) := by decide +kernel
theorem dL_law_740 : decode cL_law 740 = .ok (.iload_n 3, 1) := by decide +kernel
theorem dL_law_741 : decode cL_law 741 = .ok (.iconst 3, 1) := by decide +kernel
theorem dL_law_742 : decode cL_law 742 = .ok (.iadd, 1) := by decide +kernel
theorem dL_law_743 : decode cL_law 743 = .ok (.iaload, 1) := by decide +kernel
theorem dL_law_744 : decode cL_law 744 = .ok (.invokevirtual 89, 3) := by decide +kernel
theorem dL_law_747 : decode cL_law 747 = .ok (.if_icmp .eq 698, 3) := by decide +kernel
theorem dL_law_750 : decode cL_law 750 = .ok (.iconst 0, 1) := by decide +kernel
theorem dL_law_751 : decode cL_law 751 = .ok (.ireturn, 1) := by decide +kernel
theorem dL_law_752 : decode cL_law 752 = .ok (.aload_n 1, 1) := by decide +kernel
theorem dL_law_753 : decode cL_law 753 = .ok (.aload_n 0, 1) := by decide +kernel
theorem dL_law_754 : decode cL_law 754 = .ok (.iload_n 3, 1) := by decide +kernel
theorem dL_law_755 : decode cL_law 755 = .ok (.iconst 1, 1) := by decide +kernel
theorem dL_law_756 : decode cL_law 756 = .ok (.iadd, 1) := by decide +kernel
theorem dL_law_757 : decode cL_law 757 = .ok (.iaload, 1) := by decide +kernel
theorem dL_law_758 : decode cL_law 758 = .ok (.invokevirtual 90, 3) := by decide +kernel
theorem dL_law_761 : decode cL_law 761 = .ok (.aload_n 2, 1) := by decide +kernel
theorem dL_law_762 : decode cL_law 762 = .ok (.aload_n 0, 1) := by decide +kernel
theorem dL_law_763 : decode cL_law 763 = .ok (.iload_n 3, 1) := by decide +kernel
theorem dL_law_764 : decode cL_law 764 = .ok (.iconst 1, 1) := by decide +kernel
theorem dL_law_765 : decode cL_law 765 = .ok (.iadd, 1) := by decide +kernel
theorem dL_law_766 : decode cL_law 766 = .ok (.iaload, 1) := by decide +kernel
theorem dL_law_767 : decode cL_law 767 = .ok (.invokevirtual 93, 3) := by decide +kernel
theorem dL_law_770 : decode cL_law 770 = .ok (.if_icmp .eq 675, 3) := by decide +kernel
theorem dL_law_773 : decode cL_law 773 = .ok (.iconst 0, 1) := by decide +kernel
theorem dL_law_774 : decode cL_law 774 = .ok (.ireturn, 1) := by decide +kernel
theorem dL_law_775 : decode cL_law 775 = .ok (.aload_n 1, 1) := by decide +kernel
theorem dL_law_776 : decode cL_law 776 = .ok (.aload_n 0, 1) := by decide +kernel
theorem dL_law_777 : decode cL_law 777 = .ok (.iload_n 3, 1) := by decide +kernel
theorem dL_law_778 : decode cL_law 778 = .ok (.iconst 1, 1) := by decide +kernel
theorem dL_law_779 : decode cL_law 779 = .ok (.iadd, 1) := by decide +kernel
theorem dL_law_780 : decode cL_law 780 = .ok (.iaload, 1) := by decide +kernel
theorem dL_law_781 : decode cL_law 781 = .ok (.invokevirtual 94, 3) := by decide +kernel
theorem dL_law_784 : decode cL_law 784 = .ok (.aload_n 2, 1) := by decide +kernel
theorem dL_law_785 : decode cL_law 785 = .ok (.aload_n 0, 1) := by decide +kernel
theorem dL_law_786 : decode cL_law 786 = .ok (.iload_n 3, 1) := by decide +kernel
theorem dL_law_787 : decode cL_law 787 = .ok (.iconst 1, 1) := by decide +kernel
theorem dL_law_788 : decode cL_law 788 = .ok (.iadd, 1) := by decide +kernel
theorem dL_law_789 : decode cL_law 789 = .ok (.iaload, 1) := by decide +kernel
theorem dL_law_790 : decode cL_law 790 = .ok (.invokevirtual 97, 3) := by decide +kernel
theorem dL_law_793 : decode cL_law 793 = .ok (.if_icmp .eq 652, 3) := by decide +kernel
theorem dL_law_796 : decode cL_law 796 = .ok (.iconst 0, 1) := by decide +kernel
theorem dL_law_797 : decode cL_law 797 = .ok (.ireturn, 1) := by decide +kernel
theorem dL_law_798 : decode cL_law 798 = .ok (.aload_n 1, 1) := by decide +kernel
theorem dL_law_799 : decode cL_law 799 = .ok (.aload_n 0, 1) := by decide +kernel
theorem dL_law_800 : decode cL_law 800 = .ok (.iload_n 3, 1) := by decide +kernel
theorem dL_law_801 : decode cL_law 801 = .ok (.iconst 1, 1) := by decide +kernel
theorem dL_law_802 : decode cL_law 802 = .ok (.iadd, 1) := by decide +kernel
theorem dL_law_803 : decode cL_law 803 = .ok (.iaload, 1) := by decide +kernel
theorem dL_law_804 : decode cL_law 804 = .ok (.aload_n 0, 1) := by decide +kernel
theorem dL_law_805 : decode cL_law 805 = .ok (.iload_n 3, 1) := by decide +kernel
theorem dL_law_806 : decode cL_law 806 = .ok (.iconst 2, 1) := by decide +kernel
theorem dL_law_807 : decode cL_law 807 = .ok (.iadd, 1) := by decide +kernel
theorem dL_law_808 : decode cL_law 808 = .ok (.iaload, 1) := by decide +kernel
theorem dL_law_809 : decode cL_law 809 = .ok (.invokevirtual 98, 3) := by decide +kernel
theorem dL_law_812 : decode cL_law 812 = .ok (.aload_n 2, 1) := by decide +kernel
theorem dL_law_813 : decode cL_law 813 = .ok (.aload_n 0, 1) := by decide +kernel
theorem dL_law_814 : decode cL_law 814 = .ok (.iload_n 3, 1) := by decide +kernel
theorem dL_law_815 : decode cL_law 815 = .ok (.iconst 1, 1) := by decide +kernel
theorem dL_law_816 : decode cL_law 816 = .ok (.iadd, 1) := by decide +kernel
theorem dL_law_817 : decode cL_law 817 = .ok (.iaload, 1) := by decide +kernel
theorem dL_law_818 : decode cL_law 818 = .ok (.aload_n 0, 1) := by decide +kernel
theorem dL_law_819 : decode cL_law 819 = .ok (.iload_n 3, 1) := by decide +kernel
theorem dL_law_820 : decode cL_law 820 = .ok (.iconst 2, 1) := by decide +kernel
theorem dL_law_821 : decode cL_law 821 = .ok (.iadd, 1) := by decide +kernel
theorem dL_law_822 : decode cL_law 822 = .ok (.iaload, 1) := by decide +kernel
theorem dL_law_823 : decode cL_law 823 = .ok (.invokevirtual 101, 3) := by decide +kernel
theorem dL_law_826 : decode cL_law 826 = .ok (.if_icmp .eq 619, 3) := by decide +kernel
theorem dL_law_829 : decode cL_law 829 = .ok (.iconst 0, 1) := by decide +kernel
theorem dL_law_830 : decode cL_law 830 = .ok (.ireturn, 1) := by decide +kernel
theorem dL_law_831 : decode cL_law 831 = .ok (.aload_n 1, 1) := by decide +kernel
theorem dL_law_832 : decode cL_law 832 = .ok (.aload_n 0, 1) := by decide +kernel
theorem dL_law_833 : decode cL_law 833 = .ok (.iload_n 3, 1) := by decide +kernel
theorem dL_law_834 : decode cL_law 834 = .ok (.iconst 1, 1) := by decide +kernel
theorem dL_law_835 : decode cL_law 835 = .ok (.iadd, 1) := by decide +kernel
theorem dL_law_836 : decode cL_law 836 = .ok (.iaload, 1) := by decide +kernel
theorem dL_law_837 : decode cL_law 837 = .ok (.aload_n 0, 1) := by decide +kernel
theorem dL_law_838 : decode cL_law 838 = .ok (.iload_n 3, 1) := by decide +kernel
theorem dL_law_839 : decode cL_law 839 = .ok (.iconst 2, 1) := by decide +kernel
theorem dL_law_840 : decode cL_law 840 = .ok (.iadd, 1) := by decide +kernel
theorem dL_law_841 : decode cL_law 841 = .ok (.iaload, 1) := by decide +kernel
theorem dL_law_842 : decode cL_law 842 = .ok (.aload_n 0, 1) := by decide +kernel
theorem dL_law_843 : decode cL_law 843 = .ok (.iload_n 3, 1) := by decide +kernel
theorem dL_law_844 : decode cL_law 844 = .ok (.iconst 3, 1) := by decide +kernel
theorem dL_law_845 : decode cL_law 845 = .ok (.iadd, 1) := by decide +kernel
theorem dL_law_846 : decode cL_law 846 = .ok (.iaload, 1) := by decide +kernel
theorem dL_law_847 : decode cL_law 847 = .ok (.invokevirtual 102, 3) := by decide +kernel
theorem dL_law_850 : decode cL_law 850 = .ok (.aload_n 2, 1) := by decide +kernel
theorem dL_law_851 : decode cL_law 851 = .ok (.aload_n 0, 1) := by decide +kernel
theorem dL_law_852 : decode cL_law 852 = .ok (.iload_n 3, 1) := by decide +kernel
theorem dL_law_853 : decode cL_law 853 = .ok (.iconst 1, 1) := by decide +kernel
theorem dL_law_854 : decode cL_law 854 = .ok (.iadd, 1) := by decide +kernel
theorem dL_law_855 : decode cL_law 855 = .ok (.iaload, 1) := by decide +kernel
theorem dL_law_856 : decode cL_law 856 = .ok (.aload_n 0, 1) := by decide +kernel
theorem dL_law_857 : decode cL_law 857 = .ok (.iload_n 3, 1) := by decide +kernel
theorem dL_law_858 : decode cL_law 858 = .ok (.iconst 2, 1) := by decide +kernel
theorem dL_law_859 : decode cL_law 859 = .ok (.iadd, 1) := by decide +kernel
theorem dL_law_860 : decode cL_law 860 = .ok (.iaload, 1) := by decide +kernel
theorem dL_law_861 : decode cL_law 861 = .ok (.aload_n 0, 1) := by decide +kernel
theorem dL_law_862 : decode cL_law 862 = .ok (.iload_n 3, 1) := by decide +kernel
theorem dL_law_863 : decode cL_law 863 = .ok (.iconst 3, 1) := by decide +kernel
theorem dL_law_864 : decode cL_law 864 = .ok (.iadd, 1) := by decide +kernel
theorem dL_law_865 : decode cL_law 865 = .ok (.iaload, 1) := by decide +kernel
theorem dL_law_866 : decode cL_law 866 = .ok (.invokevirtual 105, 3) := by decide +kernel
theorem dL_law_869 : decode cL_law 869 = .ok (.if_icmp .eq 576, 3) := by decide +kernel
theorem dL_law_872 : decode cL_law 872 = .ok (.iconst 0, 1) := by decide +kernel
theorem dL_law_873 : decode cL_law 873 = .ok (.ireturn, 1) := by decide +kernel
theorem dL_law_874 : decode cL_law 874 = .ok (.aload_n 1, 1) := by decide +kernel
theorem dL_law_875 : decode cL_law 875 = .ok (.aload_n 0, 1) := by decide +kernel
theorem dL_law_876 : decode cL_law 876 = .ok (.iload_n 3, 1) := by decide +kernel
theorem dL_law_877 : decode cL_law 877 = .ok (.iconst 1, 1) := by decide +kernel
theorem dL_law_878 : decode cL_law 878 = .ok (.iadd, 1) := by decide +kernel
theorem dL_law_879 : decode cL_law 879 = .ok (.iaload, 1) := by decide +kernel
theorem dL_law_880 : decode cL_law 880 = .ok (.aload_n 0, 1) := by decide +kernel
theorem dL_law_881 : decode cL_law 881 = .ok (.iload_n 3, 1) := by decide +kernel
theorem dL_law_882 : decode cL_law 882 = .ok (.iconst 2, 1) := by decide +kernel
theorem dL_law_883 : decode cL_law 883 = .ok (.iadd, 1) := by decide +kernel
theorem dL_law_884 : decode cL_law 884 = .ok (.iaload, 1) := by decide +kernel
theorem dL_law_885 : decode cL_law 885 = .ok (.aload_n 0, 1) := by decide +kernel
theorem dL_law_886 : decode cL_law 886 = .ok (.iload_n 3, 1) := by decide +kernel
theorem dL_law_887 : decode cL_law 887 = .ok (.iconst 3, 1) := by decide +kernel
theorem dL_law_888 : decode cL_law 888 = .ok (.iadd, 1) := by decide +kernel
theorem dL_law_889 : decode cL_law 889 = .ok (.iaload, 1) := by decide +kernel
theorem dL_law_890 : decode cL_law 890 = .ok (.aload_n 0, 1) := by decide +kernel
theorem dL_law_891 : decode cL_law 891 = .ok (.iload_n 3, 1) := by decide +kernel
theorem dL_law_892 : decode cL_law 892 = .ok (.iconst 4, 1) := by decide +kernel
theorem dL_law_893 : decode cL_law 893 = .ok (.iadd, 1) := by decide +kernel
theorem dL_law_894 : decode cL_law 894 = .ok (.iaload, 1) := by decide +kernel
theorem dL_law_895 : decode cL_law 895 = .ok (.invokevirtual 106, 3) := by decide +kernel
theorem dL_law_898 : decode cL_law 898 = .ok (.aload_n 2, 1) := by decide +kernel
theorem dL_law_899 : decode cL_law 899 = .ok (.aload_n 0, 1) := by decide +kernel
theorem dL_law_900 : decode cL_law 900 = .ok (.iload_n 3, 1) := by decide +kernel
theorem dL_law_901 : decode cL_law 901 = .ok (.iconst 1, 1) := by decide +kernel
theorem dL_law_902 : decode cL_law 902 = .ok (.iadd, 1) := by decide +kernel
theorem dL_law_903 : decode cL_law 903 = .ok (.iaload, 1) := by decide +kernel
theorem dL_law_904 : decode cL_law 904 = .ok (.aload_n 0, 1) := by decide +kernel
theorem dL_law_905 : decode cL_law 905 = .ok (.iload_n 3, 1) := by decide +kernel
theorem dL_law_906 : decode cL_law 906 = .ok (.iconst 2, 1) := by decide +kernel
theorem dL_law_907 : decode cL_law 907 = .ok (.iadd, 1) := by decide +kernel
theorem dL_law_908 : decode cL_law 908 = .ok (.iaload, 1) := by decide +kernel
theorem dL_law_909 : decode cL_law 909 = .ok (.aload_n 0, 1) := by decide +kernel
theorem dL_law_910 : decode cL_law 910 = .ok (.iload_n 3, 1) := by decide +kernel
theorem dL_law_911 : decode cL_law 911 = .ok (.iconst 3, 1) := by decide +kernel
theorem dL_law_912 : decode cL_law 912 = .ok (.iadd, 1) := by decide +kernel
theorem dL_law_913 : decode cL_law 913 = .ok (.iaload, 1) := by decide +kernel
theorem dL_law_914 : decode cL_law 914 = .ok (.aload_n 0, 1) := by decide +kernel
theorem dL_law_915 : decode cL_law 915 = .ok (.iload_n 3, 1) := by decide +kernel
theorem dL_law_916 : decode cL_law 916 = .ok (.iconst 4, 1) := by decide +kernel
theorem dL_law_917 : decode cL_law 917 = .ok (.iadd, 1) := by decide +kernel
theorem dL_law_918 : decode cL_law 918 = .ok (.iaload, 1) := by decide +kernel
theorem dL_law_919 : decode cL_law 919 = .ok (.invokevirtual 109, 3) := by decide +kernel
theorem dL_law_922 : decode cL_law 922 = .ok (.if_icmp .eq 523, 3) := by decide +kernel
theorem dL_law_925 : decode cL_law 925 = .ok (.iconst 0, 1) := by decide +kernel
theorem dL_law_926 : decode cL_law 926 = .ok (.ireturn, 1) := by decide +kernel
theorem dL_law_927 : decode cL_law 927 = .ok (.aload_n 1, 1) := by decide +kernel
theorem dL_law_928 : decode cL_law 928 = .ok (.aload_n 0, 1) := by decide +kernel
theorem dL_law_929 : decode cL_law 929 = .ok (.iload_n 3, 1) := by decide +kernel
theorem dL_law_930 : decode cL_law 930 = .ok (.iconst 1, 1) := by decide +kernel
theorem dL_law_931 : decode cL_law 931 = .ok (.iadd, 1) := by decide +kernel
theorem dL_law_932 : decode cL_law 932 = .ok (.iaload, 1) := by decide +kernel
theorem dL_law_933 : decode cL_law 933 = .ok (.aload_n 0, 1) := by decide +kernel
theorem dL_law_934 : decode cL_law 934 = .ok (.iload_n 3, 1) := by decide +kernel
theorem dL_law_935 : decode cL_law 935 = .ok (.iconst 2, 1) := by decide +kernel
theorem dL_law_936 : decode cL_law 936 = .ok (.iadd, 1) := by decide +kernel
theorem dL_law_937 : decode cL_law 937 = .ok (.iaload, 1) := by decide +kernel
theorem dL_law_938 : decode cL_law 938 = .ok (.invokevirtual 110, 3) := by decide +kernel
theorem dL_law_941 : decode cL_law 941 = .ok (.aload_n 2, 1) := by decide +kernel
theorem dL_law_942 : decode cL_law 942 = .ok (.aload_n 0, 1) := by decide +kernel
theorem dL_law_943 : decode cL_law 943 = .ok (.iload_n 3, 1) := by decide +kernel
theorem dL_law_944 : decode cL_law 944 = .ok (.iconst 1, 1) := by decide +kernel
theorem dL_law_945 : decode cL_law 945 = .ok (.iadd, 1) := by decide +kernel
theorem dL_law_946 : decode cL_law 946 = .ok (.iaload, 1) := by decide +kernel
theorem dL_law_947 : decode cL_law 947 = .ok (.aload_n 0, 1) := by decide +kernel
theorem dL_law_948 : decode cL_law 948 = .ok (.iload_n 3, 1) := by decide +kernel
theorem dL_law_949 : decode cL_law 949 = .ok (.iconst 2, 1) := by decide +kernel
theorem dL_law_950 : decode cL_law 950 = .ok (.iadd, 1) := by decide +kernel
theorem dL_law_951 : decode cL_law 951 = .ok (.iaload, 1) := by decide +kernel
theorem dL_law_952 : decode cL_law 952 = .ok (.invokevirtual 113, 3) := by decide +kernel
theorem dL_law_955 : decode cL_law 955 = .ok (.if_icmp .eq 490, 3) := by decide +kernel
theorem dL_law_958 : decode cL_law 958 = .ok (.iconst 0, 1) := by decide +kernel
theorem dL_law_959 : decode cL_law 959 = .ok (.ireturn, 1) := by decide +kernel
theorem dL_law_960 : decode cL_law 960 = .ok (.aload_n 1, 1) := by decide +kernel
theorem dL_law_961 : decode cL_law 961 = .ok (.aload_n 0, 1) := by decide +kernel
theorem dL_law_962 : decode cL_law 962 = .ok (.iload_n 3, 1) := by decide +kernel
theorem dL_law_963 : decode cL_law 963 = .ok (.iconst 1, 1) := by decide +kernel
theorem dL_law_964 : decode cL_law 964 = .ok (.iadd, 1) := by decide +kernel
theorem dL_law_965 : decode cL_law 965 = .ok (.iaload, 1) := by decide +kernel
theorem dL_law_966 : decode cL_law 966 = .ok (.aload_n 0, 1) := by decide +kernel
theorem dL_law_967 : decode cL_law 967 = .ok (.iload_n 3, 1) := by decide +kernel
theorem dL_law_968 : decode cL_law 968 = .ok (.iconst 2, 1) := by decide +kernel
theorem dL_law_969 : decode cL_law 969 = .ok (.iadd, 1) := by decide +kernel
theorem dL_law_970 : decode cL_law 970 = .ok (.iaload, 1) := by decide +kernel
theorem dL_law_971 : decode cL_law 971 = .ok (.invokevirtual 114, 3) := by decide +kernel
theorem dL_law_974 : decode cL_law 974 = .ok (.aload_n 2, 1) := by decide +kernel
theorem dL_law_975 : decode cL_law 975 = .ok (.aload_n 0, 1) := by decide +kernel
theorem dL_law_976 : decode cL_law 976 = .ok (.iload_n 3, 1) := by decide +kernel
theorem dL_law_977 : decode cL_law 977 = .ok (.iconst 1, 1) := by decide +kernel
theorem dL_law_978 : decode cL_law 978 = .ok (.iadd, 1) := by decide +kernel
theorem dL_law_979 : decode cL_law 979 = .ok (.iaload, 1) := by decide +kernel
theorem dL_law_980 : decode cL_law 980 = .ok (.aload_n 0, 1) := by decide +kernel
theorem dL_law_981 : decode cL_law 981 = .ok (.iload_n 3, 1) := by decide +kernel
theorem dL_law_982 : decode cL_law 982 = .ok (.iconst 2, 1) := by decide +kernel
theorem dL_law_983 : decode cL_law 983 = .ok (.iadd, 1) := by decide +kernel
theorem dL_law_984 : decode cL_law 984 = .ok (.iaload, 1) := by decide +kernel
theorem dL_law_985 : decode cL_law 985 = .ok (.invokevirtual 117, 3) := by decide +kernel
theorem dL_law_988 : decode cL_law 988 = .ok (.if_icmp .eq 457, 3) := by decide +kernel
theorem dL_law_991 : decode cL_law 991 = .ok (.iconst 0, 1) := by decide +kernel
theorem dL_law_992 : decode cL_law 992 = .ok (.ireturn, 1) := by decide +kernel
theorem dL_law_993 : decode cL_law 993 = .ok (.aload_n 1, 1) := by decide +kernel
theorem dL_law_994 : decode cL_law 994 = .ok (.aload_n 0, 1) := by decide +kernel
theorem dL_law_995 : decode cL_law 995 = .ok (.iload_n 3, 1) := by decide +kernel
theorem dL_law_996 : decode cL_law 996 = .ok (.iconst 1, 1) := by decide +kernel
theorem dL_law_997 : decode cL_law 997 = .ok (.iadd, 1) := by decide +kernel
theorem dL_law_998 : decode cL_law 998 = .ok (.iaload, 1) := by decide +kernel
theorem dL_law_999 : decode cL_law 999 = .ok (.invokevirtual 118, 3) := by decide +kernel
theorem dL_law_1002 : decode cL_law 1002 = .ok (.aload_n 2, 1) := by decide +kernel
theorem dL_law_1003 : decode cL_law 1003 = .ok (.aload_n 0, 1) := by decide +kernel
theorem dL_law_1004 : decode cL_law 1004 = .ok (.iload_n 3, 1) := by decide +kernel
theorem dL_law_1005 : decode cL_law 1005 = .ok (.iconst 1, 1) := by decide +kernel
theorem dL_law_1006 : decode cL_law 1006 = .ok (.iadd, 1) := by decide +kernel
theorem dL_law_1007 : decode cL_law 1007 = .ok (.iaload, 1) := by decide +kernel
theorem dL_law_1008 : decode cL_law 1008 = .ok (.invokevirtual 121, 3) := by decide +kernel
theorem dL_law_1011 : decode cL_law 1011 = .ok (.if_icmp .eq 434, 3) := by decide +kernel
theorem dL_law_1014 : decode cL_law 1014 = .ok (.iconst 0, 1) := by decide +kernel
theorem dL_law_1015 : decode cL_law 1015 = .ok (.ireturn, 1) := by decide +kernel
theorem dL_law_1016 : decode cL_law 1016 = .ok (.aload_n 1, 1) := by decide +kernel
theorem dL_law_1017 : decode cL_law 1017 = .ok (.aload_n 0, 1) := by decide +kernel
theorem dL_law_1018 : decode cL_law 1018 = .ok (.iload_n 3, 1) := by decide +kernel
theorem dL_law_1019 : decode cL_law 1019 = .ok (.iconst 1, 1) := by decide +kernel
theorem dL_law_1020 : decode cL_law 1020 = .ok (.iadd, 1) := by decide +kernel
theorem dL_law_1021 : decode cL_law 1021 = .ok (.iaload, 1) := by decide +kernel
theorem dL_law_1022 : decode cL_law 1022 = .ok (.aload_n 0, 1) := by decide +kernel
theorem dL_law_1023 : decode cL_law 1023 = .ok (.iload_n 3, 1) := by decide +kernel
theorem dL_law_1024 : decode cL_law 1024 = .ok (.iconst 2, 1) := by decide +kernel
theorem dL_law_1025 : decode cL_law 1025 = .ok (.iadd, 1) := by decide +kernel
theorem dL_law_1026 : decode cL_law 1026 = .ok (.iaload, 1) := by decide +kernel
theorem dL_law_1027 : decode cL_law 1027 = .ok (.aload_n 0, 1) := by decide +kernel
theorem dL_law_1028 : decode cL_law 1028 = .ok (.iload_n 3, 1) := by decide +kernel
theorem dL_law_1029 : decode cL_law 1029 = .ok (.iconst 3, 1) := by decide +kernel
theorem dL_law_1030 : decode cL_law 1030 = .ok (.iadd, 1) := by decide +kernel
theorem dL_law_1031 : decode cL_law 1031 = .ok (.iaload, 1) := by decide +kernel
theorem dL_law_1032 : decode cL_law 1032 = .ok (.aload_n 0, 1) := by decide +kernel
theorem dL_law_1033 : decode cL_law 1033 = .ok (.iload_n 3, 1) := by decide +kernel
theorem dL_law_1034 : decode cL_law 1034 = .ok (.iconst 4, 1) := by decide +kernel
theorem dL_law_1035 : decode cL_law 1035 = .ok (.iadd, 1) := by decide +kernel
theorem dL_law_1036 : decode cL_law 1036 = .ok (.iaload, 1) := by decide +kernel
theorem dL_law_1037 : decode cL_law 1037 = .ok (.invokevirtual 122, 3) := by decide +kernel
theorem dL_law_1040 : decode cL_law 1040 = .ok (.aload_n 2, 1) := by decide +kernel
theorem dL_law_1041 : decode cL_law 1041 = .ok (.aload_n 0, 1) := by decide +kernel
theorem dL_law_1042 : decode cL_law 1042 = .ok (.iload_n 3, 1) := by decide +kernel
theorem dL_law_1043 : decode cL_law 1043 = .ok (.iconst 1, 1) := by decide +kernel
theorem dL_law_1044 : decode cL_law 1044 = .ok (.iadd, 1) := by decide +kernel
theorem dL_law_1045 : decode cL_law 1045 = .ok (.iaload, 1) := by decide +kernel
theorem dL_law_1046 : decode cL_law 1046 = .ok (.aload_n 0, 1) := by decide +kernel
theorem dL_law_1047 : decode cL_law 1047 = .ok (.iload_n 3, 1) := by decide +kernel
theorem dL_law_1048 : decode cL_law 1048 = .ok (.iconst 2, 1) := by decide +kernel
theorem dL_law_1049 : decode cL_law 1049 = .ok (.iadd, 1) := by decide +kernel
theorem dL_law_1050 : decode cL_law 1050 = .ok (.iaload, 1) := by decide +kernel
theorem dL_law_1051 : decode cL_law 1051 = .ok (.aload_n 0, 1) := by decide +kernel
theorem dL_law_1052 : decode cL_law 1052 = .ok (.iload_n 3, 1) := by decide +kernel
theorem dL_law_1053 : decode cL_law 1053 = .ok (.iconst 3, 1) := by decide +kernel
theorem dL_law_1054 : decode cL_law 1054 = .ok (.iadd, 1) := by decide +kernel
theorem dL_law_1055 : decode cL_law 1055 = .ok (.iaload, 1) := by decide +kernel
theorem dL_law_1056 : decode cL_law 1056 = .ok (.aload_n 0, 1) := by decide +kernel
theorem dL_law_1057 : decode cL_law 1057 = .ok (.iload_n 3, 1) := by decide +kernel
theorem dL_law_1058 : decode cL_law 1058 = .ok (.iconst 4, 1) := by decide +kernel
theorem dL_law_1059 : decode cL_law 1059 = .ok (.iadd, 1) := by decide +kernel
theorem dL_law_1060 : decode cL_law 1060 = .ok (.iaload, 1) := by decide +kernel
theorem dL_law_1061 : decode cL_law 1061 = .ok (.invokevirtual 125, 3) := by decide +kernel
theorem dL_law_1064 : decode cL_law 1064 = .ok (.if_icmp .eq 381, 3) := by decide +kernel
theorem dL_law_1067 : decode cL_law 1067 = .ok (.iconst 0, 1) := by decide +kernel
theorem dL_law_1068 : decode cL_law 1068 = .ok (.ireturn, 1) := by decide +kernel
theorem dL_law_1069 : decode cL_law 1069 = .ok (.aload_n 1, 1) := by decide +kernel
theorem dL_law_1070 : decode cL_law 1070 = .ok (.invokevirtual 126, 3) := by decide +kernel
theorem dL_law_1073 : decode cL_law 1073 = .ok (.aload_n 2, 1) := by decide +kernel
theorem dL_law_1074 : decode cL_law 1074 = .ok (.invokevirtual 129, 3) := by decide +kernel
theorem dL_law_1077 : decode cL_law 1077 = .ok (.if_icmp .eq 368, 3) := by decide +kernel
theorem dL_law_1080 : decode cL_law 1080 = .ok (.iconst 0, 1) := by decide +kernel
theorem dL_law_1081 : decode cL_law 1081 = .ok (.ireturn, 1) := by decide +kernel
theorem dL_law_1082 : decode cL_law 1082 = .ok (.aload_n 1, 1) := by decide +kernel
theorem dL_law_1083 : decode cL_law 1083 = .ok (.invokevirtual 130, 3) := by decide +kernel
theorem dL_law_1086 : decode cL_law 1086 = .ok (.aload_n 2, 1) := by decide +kernel
theorem dL_law_1087 : decode cL_law 1087 = .ok (.invokevirtual 133, 3) := by decide +kernel
theorem dL_law_1090 : decode cL_law 1090 = .ok (.if_icmp .eq 355, 3) := by decide +kernel
theorem dL_law_1093 : decode cL_law 1093 = .ok (.iconst 0, 1) := by decide +kernel
theorem dL_law_1094 : decode cL_law 1094 = .ok (.ireturn, 1) := by decide +kernel
theorem dL_law_1095 : decode cL_law 1095 = .ok (.aload_n 1, 1) := by decide +kernel
theorem dL_law_1096 : decode cL_law 1096 = .ok (.aload_n 0, 1) := by decide +kernel
theorem dL_law_1097 : decode cL_law 1097 = .ok (.iload_n 3, 1) := by decide +kernel
theorem dL_law_1098 : decode cL_law 1098 = .ok (.iconst 1, 1) := by decide +kernel
theorem dL_law_1099 : decode cL_law 1099 = .ok (.iadd, 1) := by decide +kernel
theorem dL_law_1100 : decode cL_law 1100 = .ok (.iaload, 1) := by decide +kernel
theorem dL_law_1101 : decode cL_law 1101 = .ok (.aload_n 0, 1) := by decide +kernel
theorem dL_law_1102 : decode cL_law 1102 = .ok (.iload_n 3, 1) := by decide +kernel
theorem dL_law_1103 : decode cL_law 1103 = .ok (.iconst 2, 1) := by decide +kernel
theorem dL_law_1104 : decode cL_law 1104 = .ok (.iadd, 1) := by decide +kernel
theorem dL_law_1105 : decode cL_law 1105 = .ok (.iaload, 1) := by decide +kernel
theorem dL_law_1106 : decode cL_law 1106 = .ok (.aload_n 0, 1) := by decide +kernel
theorem dL_law_1107 : decode cL_law 1107 = .ok (.iload_n 3, 1) := by decide +kernel
theorem dL_law_1108 : decode cL_law 1108 = .ok (.iconst 3, 1) := by decide +kernel
theorem dL_law_1109 : decode cL_law 1109 = .ok (.iadd, 1) := by decide +kernel
theorem dL_law_1110 : decode cL_law 1110 = .ok (.iaload, 1) := by decide +kernel
theorem dL_law_1111 : decode cL_law 1111 = .ok (.aload_n 0, 1) := by decide +kernel
theorem dL_law_1112 : decode cL_law 1112 = .ok (.iload_n 3, 1) := by decide +kernel
theorem dL_law_1113 : decode cL_law 1113 = .ok (.iconst 4, 1) := by decide +kernel
theorem dL_law_1114 : decode cL_law 1114 = .ok (.iadd, 1) := by decide +kernel
theorem dL_law_1115 : decode cL_law 1115 = .ok (.iaload, 1) := by decide +kernel
theorem dL_law_1116 : decode cL_law 1116 = .ok (.aload_n 0, 1) := by decide +kernel
theorem dL_law_1117 : decode cL_law 1117 = .ok (.iload_n 3, 1) := by decide +kernel
theorem dL_law_1118 : decode cL_law 1118 = .ok (.iconst 5, 1) := by decide +kernel
theorem dL_law_1119 : decode cL_law 1119 = .ok (.iadd, 1) := by decide +kernel
theorem dL_law_1120 : decode cL_law 1120 = .ok (.iaload, 1) := by decide +kernel
theorem dL_law_1121 : decode cL_law 1121 = .ok (.aload_n 0, 1) := by decide +kernel
theorem dL_law_1122 : decode cL_law 1122 = .ok (.iload_n 3, 1) := by decide +kernel
theorem dL_law_1123 : decode cL_law 1123 = .ok (.bipush 6, 2) := by decide +kernel
theorem dL_law_1125 : decode cL_law 1125 = .ok (.iadd, 1) := by decide +kernel
theorem dL_law_1126 : decode cL_law 1126 = .ok (.iaload, 1) := by decide +kernel
theorem dL_law_1127 : decode cL_law 1127 = .ok (.invokevirtual 134, 3) := by decide +kernel
theorem dL_law_1130 : decode cL_law 1130 = .ok (.aload_n 2, 1) := by decide +kernel
theorem dL_law_1131 : decode cL_law 1131 = .ok (.aload_n 0, 1) := by decide +kernel
theorem dL_law_1132 : decode cL_law 1132 = .ok (.iload_n 3, 1) := by decide +kernel
theorem dL_law_1133 : decode cL_law 1133 = .ok (.iconst 1, 1) := by decide +kernel
theorem dL_law_1134 : decode cL_law 1134 = .ok (.iadd, 1) := by decide +kernel
theorem dL_law_1135 : decode cL_law 1135 = .ok (.iaload, 1) := by decide +kernel
theorem dL_law_1136 : decode cL_law 1136 = .ok (.aload_n 0, 1) := by decide +kernel
theorem dL_law_1137 : decode cL_law 1137 = .ok (.iload_n 3, 1) := by decide +kernel
theorem dL_law_1138 : decode cL_law 1138 = .ok (.iconst 2, 1) := by decide +kernel
theorem dL_law_1139 : decode cL_law 1139 = .ok (.iadd, 1) := by decide +kernel
theorem dL_law_1140 : decode cL_law 1140 = .ok (.iaload, 1) := by decide +kernel
theorem dL_law_1141 : decode cL_law 1141 = .ok (.aload_n 0, 1) := by decide +kernel
theorem dL_law_1142 : decode cL_law 1142 = .ok (.iload_n 3, 1) := by decide +kernel
theorem dL_law_1143 : decode cL_law 1143 = .ok (.iconst 3, 1) := by decide +kernel
theorem dL_law_1144 : decode cL_law 1144 = .ok (.iadd, 1) := by decide +kernel
theorem dL_law_1145 : decode cL_law 1145 = .ok (.iaload, 1) := by decide +kernel
theorem dL_law_1146 : decode cL_law 1146 = .ok (.aload_n 0, 1) := by decide +kernel
theorem dL_law_1147 : decode cL_law 1147 = .ok (.iload_n 3, 1) := by decide +kernel
theorem dL_law_1148 : decode cL_law 1148 = .ok (.iconst 4, 1) := by decide +kernel
theorem dL_law_1149 : decode cL_law 1149 = .ok (.iadd, 1) := by decide +kernel
theorem dL_law_1150 : decode cL_law 1150 = .ok (.iaload, 1) := by decide +kernel
theorem dL_law_1151 : decode cL_law 1151 = .ok (.aload_n 0, 1) := by decide +kernel
theorem dL_law_1152 : decode cL_law 1152 = .ok (.iload_n 3, 1) := by decide +kernel
theorem dL_law_1153 : decode cL_law 1153 = .ok (.iconst 5, 1) := by decide +kernel
theorem dL_law_1154 : decode cL_law 1154 = .ok (.iadd, 1) := by decide +kernel
theorem dL_law_1155 : decode cL_law 1155 = .ok (.iaload, 1) := by decide +kernel
theorem dL_law_1156 : decode cL_law 1156 = .ok (.aload_n 0, 1) := by decide +kernel
theorem dL_law_1157 : decode cL_law 1157 = .ok (.iload_n 3, 1) := by decide +kernel
theorem dL_law_1158 : decode cL_law 1158 = .ok (.bipush 6, 2) := by decide +kernel
theorem dL_law_1160 : decode cL_law 1160 = .ok (.iadd, 1) := by decide +kernel
theorem dL_law_1161 : decode cL_law 1161 = .ok (.iaload, 1) := by decide +kernel
theorem dL_law_1162 : decode cL_law 1162 = .ok (.invokevirtual 138, 3) := by decide +kernel
theorem dL_law_1165 : decode cL_law 1165 = .ok (.if_icmp .eq 280, 3) := by decide +kernel
theorem dL_law_1168 : decode cL_law 1168 = .ok (.iconst 0, 1) := by decide +kernel
theorem dL_law_1169 : decode cL_law 1169 = .ok (.ireturn, 1) := by decide +kernel
theorem dL_law_1170 : decode cL_law 1170 = .ok (.aload_n 1, 1) := by decide +kernel
theorem dL_law_1171 : decode cL_law 1171 = .ok (.aload_n 0, 1) := by decide +kernel
theorem dL_law_1172 : decode cL_law 1172 = .ok (.iload_n 3, 1) := by decide +kernel
theorem dL_law_1173 : decode cL_law 1173 = .ok (.iconst 1, 1) := by decide +kernel
theorem dL_law_1174 : decode cL_law 1174 = .ok (.iadd, 1) := by decide +kernel
theorem dL_law_1175 : decode cL_law 1175 = .ok (.iaload, 1) := by decide +kernel
theorem dL_law_1176 : decode cL_law 1176 = .ok (.aload_n 0, 1) := by decide +kernel
theorem dL_law_1177 : decode cL_law 1177 = .ok (.iload_n 3, 1) := by decide +kernel
theorem dL_law_1178 : decode cL_law 1178 = .ok (.iconst 2, 1) := by decide +kernel
theorem dL_law_1179 : decode cL_law 1179 = .ok (.iadd, 1) := by decide +kernel
theorem dL_law_1180 : decode cL_law 1180 = .ok (.iaload, 1) := by decide +kernel
theorem dL_law_1181 : decode cL_law 1181 = .ok (.aload_n 0, 1) := by decide +kernel
theorem dL_law_1182 : decode cL_law 1182 = .ok (.iload_n 3, 1) := by decide +kernel
theorem dL_law_1183 : decode cL_law 1183 = .ok (.iconst 3, 1) := by decide +kernel
theorem dL_law_1184 : decode cL_law 1184 = .ok (.iadd, 1) := by decide +kernel
theorem dL_law_1185 : decode cL_law 1185 = .ok (.iaload, 1) := by decide +kernel
theorem dL_law_1186 : decode cL_law 1186 = .ok (.aload_n 0, 1) := by decide +kernel
theorem dL_law_1187 : decode cL_law 1187 = .ok (.iload_n 3, 1) := by decide +kernel
theorem dL_law_1188 : decode cL_law 1188 = .ok (.iconst 4, 1) := by decide +kernel
theorem dL_law_1189 : decode cL_law 1189 = .ok (.iadd, 1) := by decide +kernel
theorem dL_law_1190 : decode cL_law 1190 = .ok (.iaload, 1) := by decide +kernel
theorem dL_law_1191 : decode cL_law 1191 = .ok (.aload_n 0, 1) := by decide +kernel
theorem dL_law_1192 : decode cL_law 1192 = .ok (.iload_n 3, 1) := by decide +kernel
theorem dL_law_1193 : decode cL_law 1193 = .ok (.iconst 5, 1) := by decide +kernel
theorem dL_law_1194 : decode cL_law 1194 = .ok (.iadd, 1) := by decide +kernel
theorem dL_law_1195 : decode cL_law 1195 = .ok (.iaload, 1) := by decide +kernel
theorem dL_law_1196 : decode cL_law 1196 = .ok (.invokevirtual 139, 3) := by decide +kernel
theorem dL_law_1199 : decode cL_law 1199 = .ok (.aload_n 2, 1) := by decide +kernel
theorem dL_law_1200 : decode cL_law 1200 = .ok (.aload_n 0, 1) := by decide +kernel
theorem dL_law_1201 : decode cL_law 1201 = .ok (.iload_n 3, 1) := by decide +kernel
theorem dL_law_1202 : decode cL_law 1202 = .ok (.iconst 1, 1) := by decide +kernel
theorem dL_law_1203 : decode cL_law 1203 = .ok (.iadd, 1) := by decide +kernel
theorem dL_law_1204 : decode cL_law 1204 = .ok (.iaload, 1) := by decide +kernel
theorem dL_law_1205 : decode cL_law 1205 = .ok (.aload_n 0, 1) := by decide +kernel
theorem dL_law_1206 : decode cL_law 1206 = .ok (.iload_n 3, 1) := by decide +kernel
theorem dL_law_1207 : decode cL_law 1207 = .ok (.iconst 2, 1) := by decide +kernel
theorem dL_law_1208 : decode cL_law 1208 = .ok (.iadd, 1) := by decide +kernel
theorem dL_law_1209 : decode cL_law 1209 = .ok (.iaload, 1) := by decide +kernel
theorem dL_law_1210 : decode cL_law 1210 = .ok (.aload_n 0, 1) := by decide +kernel
theorem dL_law_1211 : decode cL_law 1211 = .ok (.iload_n 3, 1) := by decide +kernel
theorem dL_law_1212 : decode cL_law 1212 = .ok (.iconst 3, 1) := by decide +kernel
theorem dL_law_1213 : decode cL_law 1213 = .ok (.iadd, 1) := by decide +kernel
theorem dL_law_1214 : decode cL_law 1214 = .ok (.iaload, 1) := by decide +kernel
theorem dL_law_1215 : decode cL_law 1215 = .ok (.aload_n 0, 1) := by decide +kernel
theorem dL_law_1216 : decode cL_law 1216 = .ok (.iload_n 3, 1) := by decide +kernel
theorem dL_law_1217 : decode cL_law 1217 = .ok (.iconst 4, 1) := by decide +kernel
theorem dL_law_1218 : decode cL_law 1218 = .ok (.iadd, 1) := by decide +kernel
theorem dL_law_1219 : decode cL_law 1219 = .ok (.iaload, 1) := by decide +kernel
theorem dL_law_1220 : decode cL_law 1220 = .ok (.aload_n 0, 1) := by decide +kernel
theorem dL_law_1221 : decode cL_law 1221 = .ok (.iload_n 3, 1) := by decide +kernel
theorem dL_law_1222 : decode cL_law 1222 = .ok (.iconst 5, 1) := by decide +kernel
theorem dL_law_1223 : decode cL_law 1223 = .ok (.iadd, 1) := by decide +kernel
theorem dL_law_1224 : decode cL_law 1224 = .ok (.iaload, 1) := by decide +kernel
theorem dL_law_1225 : decode cL_law 1225 = .ok (.invokevirtual 143, 3) := by decide +kernel
theorem dL_law_1228 : decode cL_law 1228 = .ok (.if_icmp .eq 217, 3) := by decide +kernel
theorem dL_law_1231 : decode cL_law 1231 = .ok (.iconst 0, 1) := by decide +kernel
theorem dL_law_1232 : decode cL_law 1232 = .ok (.ireturn, 1) := by decide +kernel
theorem dL_law_1233 : decode cL_law 1233 = .ok (.aload_n 1, 1) := by decide +kernel
theorem dL_law_1234 : decode cL_law 1234 = .ok (.aload_n 0, 1) := by decide +kernel
theorem dL_law_1235 : decode cL_law 1235 = .ok (.iload_n 3, 1) := by decide +kernel
theorem dL_law_1236 : decode cL_law 1236 = .ok (.iconst 1, 1) := by decide +kernel
theorem dL_law_1237 : decode cL_law 1237 = .ok (.iadd, 1) := by decide +kernel
theorem dL_law_1238 : decode cL_law 1238 = .ok (.iaload, 1) := by decide +kernel
theorem dL_law_1239 : decode cL_law 1239 = .ok (.aload_n 0, 1) := by decide +kernel
theorem dL_law_1240 : decode cL_law 1240 = .ok (.iload_n 3, 1) := by decide +kernel
theorem dL_law_1241 : decode cL_law 1241 = .ok (.iconst 2, 1) := by decide +kernel
theorem dL_law_1242 : decode cL_law 1242 = .ok (.iadd, 1) := by decide +kernel
theorem dL_law_1243 : decode cL_law 1243 = .ok (.iaload, 1) := by decide +kernel
theorem dL_law_1244 : decode cL_law 1244 = .ok (.aload_n 0, 1) := by decide +kernel
theorem dL_law_1245 : decode cL_law 1245 = .ok (.iload_n 3, 1) := by decide +kernel
theorem dL_law_1246 : decode cL_law 1246 = .ok (.iconst 3, 1) := by decide +kernel
theorem dL_law_1247 : decode cL_law 1247 = .ok (.iadd, 1) := by decide +kernel
theorem dL_law_1248 : decode cL_law 1248 = .ok (.iaload, 1) := by decide +kernel
theorem dL_law_1249 : decode cL_law 1249 = .ok (.invokevirtual 144, 3) := by decide +kernel
theorem dL_law_1252 : decode cL_law 1252 = .ok (.aload_n 2, 1) := by decide +kernel
theorem dL_law_1253 : decode cL_law 1253 = .ok (.aload_n 0, 1) := by decide +kernel
theorem dL_law_1254 : decode cL_law 1254 = .ok (.iload_n 3, 1) := by decide +kernel
theorem dL_law_1255 : decode cL_law 1255 = .ok (.iconst 1, 1) := by decide +kernel
theorem dL_law_1256 : decode cL_law 1256 = .ok (.iadd, 1) := by decide +kernel
theorem dL_law_1257 : decode cL_law 1257 = .ok (.iaload, 1) := by decide +kernel
theorem dL_law_1258 : decode cL_law 1258 = .ok (.aload_n 0, 1) := by decide +kernel
theorem dL_law_1259 : decode cL_law 1259 = .ok (.iload_n 3, 1) := by decide +kernel
theorem dL_law_1260 : decode cL_law 1260 = .ok (.iconst 2, 1) := by decide +kernel
theorem dL_law_1261 : decode cL_law 1261 = .ok (.iadd, 1) := by decide +kernel
theorem dL_law_1262 : decode cL_law 1262 = .ok (.iaload, 1) := by decide +kernel
theorem dL_law_1263 : decode cL_law 1263 = .ok (.aload_n 0, 1) := by decide +kernel
theorem dL_law_1264 : decode cL_law 1264 = .ok (.iload_n 3, 1) := by decide +kernel
theorem dL_law_1265 : decode cL_law 1265 = .ok (.iconst 3, 1) := by decide +kernel
theorem dL_law_1266 : decode cL_law 1266 = .ok (.iadd, 1) := by decide +kernel
theorem dL_law_1267 : decode cL_law 1267 = .ok (.iaload, 1) := by decide +kernel
theorem dL_law_1268 : decode cL_law 1268 = .ok (.invokevirtual 147, 3) := by decide +kernel
theorem dL_law_1271 : decode cL_law 1271 = .ok (.if_icmp .eq 174, 3) := by decide +kernel
theorem dL_law_1274 : decode cL_law 1274 = .ok (.iconst 0, 1) := by decide +kernel
theorem dL_law_1275 : decode cL_law 1275 = .ok (.ireturn, 1) := by decide +kernel
theorem dL_law_1276 : decode cL_law 1276 = .ok (.aload_n 1, 1) := by decide +kernel
theorem dL_law_1277 : decode cL_law 1277 = .ok (.aload_n 0, 1) := by decide +kernel
theorem dL_law_1278 : decode cL_law 1278 = .ok (.iload_n 3, 1) := by decide +kernel
theorem dL_law_1279 : decode cL_law 1279 = .ok (.iconst 1, 1) := by decide +kernel
theorem dL_law_1280 : decode cL_law 1280 = .ok (.iadd, 1) := by decide +kernel
theorem dL_law_1281 : decode cL_law 1281 = .ok (.iaload, 1) := by decide +kernel
theorem dL_law_1282 : decode cL_law 1282 = .ok (.invokevirtual 148, 3) := by decide +kernel
theorem dL_law_1285 : decode cL_law 1285 = .ok (.aload_n 2, 1) := by decide +kernel
theorem dL_law_1286 : decode cL_law 1286 = .ok (.aload_n 0, 1) := by decide +kernel
theorem dL_law_1287 : decode cL_law 1287 = .ok (.iload_n 3, 1) := by decide +kernel
theorem dL_law_1288 : decode cL_law 1288 = .ok (.iconst 1, 1) := by decide +kernel
theorem dL_law_1289 : decode cL_law 1289 = .ok (.iadd, 1) := by decide +kernel
theorem dL_law_1290 : decode cL_law 1290 = .ok (.iaload, 1) := by decide +kernel
theorem dL_law_1291 : decode cL_law 1291 = .ok (.invokevirtual 151, 3) := by decide +kernel
theorem dL_law_1294 : decode cL_law 1294 = .ok (.if_icmp .eq 151, 3) := by decide +kernel
theorem dL_law_1297 : decode cL_law 1297 = .ok (.iconst 0, 1) := by decide +kernel
theorem dL_law_1298 : decode cL_law 1298 = .ok (.ireturn, 1) := by decide +kernel
theorem dL_law_1299 : decode cL_law 1299 = .ok (.aload_n 1, 1) := by decide +kernel
theorem dL_law_1300 : decode cL_law 1300 = .ok (.aload_n 0, 1) := by decide +kernel
theorem dL_law_1301 : decode cL_law 1301 = .ok (.iload_n 3, 1) := by decide +kernel
theorem dL_law_1302 : decode cL_law 1302 = .ok (.iconst 1, 1) := by decide +kernel
theorem dL_law_1303 : decode cL_law 1303 = .ok (.iadd, 1) := by decide +kernel
theorem dL_law_1304 : decode cL_law 1304 = .ok (.iaload, 1) := by decide +kernel
theorem dL_law_1305 : decode cL_law 1305 = .ok (.aload_n 0, 1) := by decide +kernel
theorem dL_law_1306 : decode cL_law 1306 = .ok (.iload_n 3, 1) := by decide +kernel
theorem dL_law_1307 : decode cL_law 1307 = .ok (.iconst 2, 1) := by decide +kernel
theorem dL_law_1308 : decode cL_law 1308 = .ok (.iadd, 1) := by decide +kernel
theorem dL_law_1309 : decode cL_law 1309 = .ok (.iaload, 1) := by decide +kernel
theorem dL_law_1310 : decode cL_law 1310 = .ok (.aload_n 0, 1) := by decide +kernel
theorem dL_law_1311 : decode cL_law 1311 = .ok (.iload_n 3, 1) := by decide +kernel
theorem dL_law_1312 : decode cL_law 1312 = .ok (.iconst 3, 1) := by decide +kernel
theorem dL_law_1313 : decode cL_law 1313 = .ok (.iadd, 1) := by decide +kernel
theorem dL_law_1314 : decode cL_law 1314 = .ok (.iaload, 1) := by decide +kernel
theorem dL_law_1315 : decode cL_law 1315 = .ok (.aload_n 0, 1) := by decide +kernel
theorem dL_law_1316 : decode cL_law 1316 = .ok (.iload_n 3, 1) := by decide +kernel
theorem dL_law_1317 : decode cL_law 1317 = .ok (.iconst 4, 1) := by decide +kernel
theorem dL_law_1318 : decode cL_law 1318 = .ok (.iadd, 1) := by decide +kernel
theorem dL_law_1319 : decode cL_law 1319 = .ok (.iaload, 1) := by decide +kernel
theorem dL_law_1320 : decode cL_law 1320 = .ok (.i2l, 1) := by decide +kernel
theorem dL_law_1321 : decode cL_law 1321 = .ok (.bipush 32, 2) := by decide +kernel
theorem dL_law_1323 : decode cL_law 1323 = .ok (.lshl, 1) := by decide +kernel
theorem dL_law_1324 : decode cL_law 1324 = .ok (.aload_n 0, 1) := by decide +kernel
theorem dL_law_1325 : decode cL_law 1325 = .ok (.iload_n 3, 1) := by decide +kernel
theorem dL_law_1326 : decode cL_law 1326 = .ok (.iconst 5, 1) := by decide +kernel
theorem dL_law_1327 : decode cL_law 1327 = .ok (.iadd, 1) := by decide +kernel
theorem dL_law_1328 : decode cL_law 1328 = .ok (.iaload, 1) := by decide +kernel
theorem dL_law_1329 : decode cL_law 1329 = .ok (.i2l, 1) := by decide +kernel
theorem dL_law_1330 : decode cL_law 1330 = .ok (.ldc2_w 152, 3) := by decide +kernel
theorem dL_law_1333 : decode cL_law 1333 = .ok (.land, 1) := by decide +kernel
theorem dL_law_1334 : decode cL_law 1334 = .ok (.lor, 1) := by decide +kernel
theorem dL_law_1335 : decode cL_law 1335 = .ok (.invokevirtual 154, 3) := by decide +kernel
theorem dL_law_1338 : decode cL_law 1338 = .ok (.aload_n 2, 1) := by decide +kernel
theorem dL_law_1339 : decode cL_law 1339 = .ok (.aload_n 0, 1) := by decide +kernel
theorem dL_law_1340 : decode cL_law 1340 = .ok (.iload_n 3, 1) := by decide +kernel
theorem dL_law_1341 : decode cL_law 1341 = .ok (.iconst 1, 1) := by decide +kernel
theorem dL_law_1342 : decode cL_law 1342 = .ok (.iadd, 1) := by decide +kernel
theorem dL_law_1343 : decode cL_law 1343 = .ok (.iaload, 1) := by decide +kernel
theorem dL_law_1344 : decode cL_law 1344 = .ok (.aload_n 0, 1) := by decide +kernel
theorem dL_law_1345 : decode cL_law 1345 = .ok (.iload_n 3, 1) := by decide +kernel
theorem dL_law_1346 : decode cL_law 1346 = .ok (.iconst 2, 1) := by decide +kernel
theorem dL_law_1347 : decode cL_law 1347 = .ok (.iadd, 1) := by decide +kernel
theorem dL_law_1348 : decode cL_law 1348 = .ok (.iaload, 1) := by decide +kernel
theorem dL_law_1349 : decode cL_law 1349 = .ok (.aload_n 0, 1) := by decide +kernel
theorem dL_law_1350 : decode cL_law 1350 = .ok (.iload_n 3, 1) := by decide +kernel
theorem dL_law_1351 : decode cL_law 1351 = .ok (.iconst 3, 1) := by decide +kernel
theorem dL_law_1352 : decode cL_law 1352 = .ok (.iadd, 1) := by decide +kernel
theorem dL_law_1353 : decode cL_law 1353 = .ok (.iaload, 1) := by decide +kernel
theorem dL_law_1354 : decode cL_law 1354 = .ok (.aload_n 0, 1) := by decide +kernel
theorem dL_law_1355 : decode cL_law 1355 = .ok (.iload_n 3, 1) := by decide +kernel
theorem dL_law_1356 : decode cL_law 1356 = .ok (.iconst 4, 1) := by decide +kernel
theorem dL_law_1357 : decode cL_law 1357 = .ok (.iadd, 1) := by decide +kernel
theorem dL_law_1358 : decode cL_law 1358 = .ok (.iaload, 1) := by decide +kernel
theorem dL_law_1359 : decode cL_law 1359 = .ok (.i2l, 1) := by decide +kernel
theorem dL_law_1360 : decode cL_law 1360 = .ok (.bipush 32, 2) := by decide +kernel
theorem dL_law_1362 : decode cL_law 1362 = .ok (.lshl, 1) := by decide +kernel
theorem dL_law_1363 : decode cL_law 1363 = .ok (.aload_n 0, 1) := by decide +kernel
theorem dL_law_1364 : decode cL_law 1364 = .ok (.iload_n 3, 1) := by decide +kernel
theorem dL_law_1365 : decode cL_law 1365 = .ok (.iconst 5, 1) := by decide +kernel
theorem dL_law_1366 : decode cL_law 1366 = .ok (.iadd, 1) := by decide +kernel
theorem dL_law_1367 : decode cL_law 1367 = .ok (.iaload, 1) := by decide +kernel
theorem dL_law_1368 : decode cL_law 1368 = .ok (.i2l, 1) := by decide +kernel
theorem dL_law_1369 : decode cL_law 1369 = .ok (.ldc2_w 152, 3) := by decide +kernel
theorem dL_law_1372 : decode cL_law 1372 = .ok (.land, 1) := by decide +kernel
theorem dL_law_1373 : decode cL_law 1373 = .ok (.lor, 1) := by decide +kernel
theorem dL_law_1374 : decode cL_law 1374 = .ok (.invokevirtual 158, 3) := by decide +kernel
theorem dL_law_1377 : decode cL_law 1377 = .ok (.if_icmp .eq 68, 3) := by decide +kernel
theorem dL_law_1380 : decode cL_law 1380 = .ok (.iconst 0, 1) := by decide +kernel
theorem dL_law_1381 : decode cL_law 1381 = .ok (.ireturn, 1) := by decide +kernel
theorem dL_law_1382 : decode cL_law 1382 = .ok (.aload_n 1, 1) := by decide +kernel
theorem dL_law_1383 : decode cL_law 1383 = .ok (.aload_n 0, 1) := by decide +kernel
theorem dL_law_1384 : decode cL_law 1384 = .ok (.iload_n 3, 1) := by decide +kernel
theorem dL_law_1385 : decode cL_law 1385 = .ok (.iconst 1, 1) := by decide +kernel
theorem dL_law_1386 : decode cL_law 1386 = .ok (.iadd, 1) := by decide +kernel
theorem dL_law_1387 : decode cL_law 1387 = .ok (.iaload, 1) := by decide +kernel
theorem dL_law_1388 : decode cL_law 1388 = .ok (.aload_n 0, 1) := by decide +kernel
theorem dL_law_1389 : decode cL_law 1389 = .ok (.iload_n 3, 1) := by decide +kernel
theorem dL_law_1390 : decode cL_law 1390 = .ok (.iconst 2, 1) := by decide +kernel
theorem dL_law_1391 : decode cL_law 1391 = .ok (.iadd, 1) := by decide +kernel
theorem dL_law_1392 : decode cL_law 1392 = .ok (.iaload, 1) := by decide +kernel
theorem dL_law_1393 : decode cL_law 1393 = .ok (.aload_n 0, 1) := by decide +kernel
theorem dL_law_1394 : decode cL_law 1394 = .ok (.iload_n 3, 1) := by decide +kernel
theorem dL_law_1395 : decode cL_law 1395 = .ok (.iconst 3, 1) := by decide +kernel
theorem dL_law_1396 : decode cL_law 1396 = .ok (.iadd, 1) := by decide +kernel
theorem dL_law_1397 : decode cL_law 1397 = .ok (.iaload, 1) := by decide +kernel
theorem dL_law_1398 : decode cL_law 1398 = .ok (.aload_n 0, 1) := by decide +kernel
theorem dL_law_1399 : decode cL_law 1399 = .ok (.iload_n 3, 1) := by decide +kernel
theorem dL_law_1400 : decode cL_law 1400 = .ok (.iconst 4, 1) := by decide +kernel
theorem dL_law_1401 : decode cL_law 1401 = .ok (.iadd, 1) := by decide +kernel
theorem dL_law_1402 : decode cL_law 1402 = .ok (.iaload, 1) := by decide +kernel
theorem dL_law_1403 : decode cL_law 1403 = .ok (.aload_n 0, 1) := by decide +kernel
theorem dL_law_1404 : decode cL_law 1404 = .ok (.iload_n 3, 1) := by decide +kernel
theorem dL_law_1405 : decode cL_law 1405 = .ok (.iconst 5, 1) := by decide +kernel
theorem dL_law_1406 : decode cL_law 1406 = .ok (.iadd, 1) := by decide +kernel
theorem dL_law_1407 : decode cL_law 1407 = .ok (.iaload, 1) := by decide +kernel
theorem dL_law_1408 : decode cL_law 1408 = .ok (.invokevirtual 159, 3) := by decide +kernel
theorem dL_law_1411 : decode cL_law 1411 = .ok (.aload_n 2, 1) := by decide +kernel
theorem dL_law_1412 : decode cL_law 1412 = .ok (.aload_n 0, 1) := by decide +kernel
theorem dL_law_1413 : decode cL_law 1413 = .ok (.iload_n 3, 1) := by decide +kernel
theorem dL_law_1414 : decode cL_law 1414 = .ok (.iconst 1, 1) := by decide +kernel
theorem dL_law_1415 : decode cL_law 1415 = .ok (.iadd, 1) := by decide +kernel
theorem dL_law_1416 : decode cL_law 1416 = .ok (.iaload, 1) := by decide +kernel
theorem dL_law_1417 : decode cL_law 1417 = .ok (.aload_n 0, 1) := by decide +kernel
theorem dL_law_1418 : decode cL_law 1418 = .ok (.iload_n 3, 1) := by decide +kernel
theorem dL_law_1419 : decode cL_law 1419 = .ok (.iconst 2, 1) := by decide +kernel
theorem dL_law_1420 : decode cL_law 1420 = .ok (.iadd, 1) := by decide +kernel
theorem dL_law_1421 : decode cL_law 1421 = .ok (.iaload, 1) := by decide +kernel
theorem dL_law_1422 : decode cL_law 1422 = .ok (.aload_n 0, 1) := by decide +kernel
theorem dL_law_1423 : decode cL_law 1423 = .ok (.iload_n 3, 1) := by decide +kernel
theorem dL_law_1424 : decode cL_law 1424 = .ok (.iconst 3, 1) := by decide +kernel
theorem dL_law_1425 : decode cL_law 1425 = .ok (.iadd, 1) := by decide +kernel
theorem dL_law_1426 : decode cL_law 1426 = .ok (.iaload, 1) := by decide +kernel
theorem dL_law_1427 : decode cL_law 1427 = .ok (.aload_n 0, 1) := by decide +kernel
theorem dL_law_1428 : decode cL_law 1428 = .ok (.iload_n 3, 1) := by decide +kernel
theorem dL_law_1429 : decode cL_law 1429 = .ok (.iconst 4, 1) := by decide +kernel
theorem dL_law_1430 : decode cL_law 1430 = .ok (.iadd, 1) := by decide +kernel
theorem dL_law_1431 : decode cL_law 1431 = .ok (.iaload, 1) := by decide +kernel
theorem dL_law_1432 : decode cL_law 1432 = .ok (.aload_n 0, 1) := by decide +kernel
theorem dL_law_1433 : decode cL_law 1433 = .ok (.iload_n 3, 1) := by decide +kernel
theorem dL_law_1434 : decode cL_law 1434 = .ok (.iconst 5, 1) := by decide +kernel
theorem dL_law_1435 : decode cL_law 1435 = .ok (.iadd, 1) := by decide +kernel
theorem dL_law_1436 : decode cL_law 1436 = .ok (.iaload, 1) := by decide +kernel
theorem dL_law_1437 : decode cL_law 1437 = .ok (.invokevirtual 162, 3) := by decide +kernel
theorem dL_law_1440 : decode cL_law 1440 = .ok (.if_icmp .eq 5, 3) := by decide +kernel
theorem dL_law_1443 : decode cL_law 1443 = .ok (.iconst 0, 1) := by decide +kernel
theorem dL_law_1444 : decode cL_law 1444 = .ok (.ireturn, 1) := by decide +kernel
theorem dL_law_1445 : decode cL_law 1445 = .ok (.iinc 3 7, 3) := by decide +kernel
theorem dL_law_1448 : decode cL_law 1448 = .ok (.goto (-1430), 3) := by decide +kernel
theorem dL_law_1451 : decode cL_law 1451 = .ok (.iconst 1, 1) := by decide +kernel
theorem dL_law_1452 : decode cL_law 1452 = .ok (.ireturn, 1) := by decide +kernel
end
