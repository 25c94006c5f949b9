-- ===== PART A: goes FIRST, ahead of the names: the tables' words, and 'selects' of the private methods out of them =====
/-- a private method of a class that the tables say can be made, by its rows of tables_1 -/
def lw_okq (q : MethodName × Nat) : Prop := (q.1.cls ≠ "java/lang/invoke/MethodHandle" ∧ q.1.cls ≠ "java/lang/invoke/VarHandle") ∧ Cond.instantiable q.1.cls q.2 ∈ tables_1 ∧ Cond.privateMethod q.1 ∈ tables_1 ∧ Cond.instanceMethod q.1 ∈ tables_1
theorem lw_p0 : lw_okq (⟨"SundayMarket", "kindsTold", "(ILSundayMarket$Sheet;II)I"⟩, 8) := ⟨⟨by decide +kernel, by decide +kernel⟩, List.mem_of_getElem? (i := 17) (by decide +kernel), List.mem_of_getElem? (i := 645) (by decide +kernel), List.mem_of_getElem? (i := 646) (by decide +kernel)⟩
theorem lw_p1 : lw_okq (⟨"SundayMarket", "isAsTold", "(IIILSundayMarket$Sheet;II)Z"⟩, 8) := ⟨⟨by decide +kernel, by decide +kernel⟩, List.mem_of_getElem? (i := 17) (by decide +kernel), List.mem_of_getElem? (i := 650) (by decide +kernel), List.mem_of_getElem? (i := 651) (by decide +kernel)⟩
theorem lw_p2 : lw_okq (⟨"SundayMarket", "lovesTold", "(ILSundayMarket$Sheet;II)I"⟩, 8) := ⟨⟨by decide +kernel, by decide +kernel⟩, List.mem_of_getElem? (i := 17) (by decide +kernel), List.mem_of_getElem? (i := 655) (by decide +kernel), List.mem_of_getElem? (i := 656) (by decide +kernel)⟩
theorem lw_p3 : lw_okq (⟨"SundayMarketModel", "personComes", "(III)V"⟩, 19) := ⟨⟨by decide +kernel, by decide +kernel⟩, List.mem_of_getElem? (i := 689) (by decide +kernel), List.mem_of_getElem? (i := 761) (by decide +kernel), List.mem_of_getElem? (i := 762) (by decide +kernel)⟩
theorem lw_p4 : lw_okq (⟨"SundayMarketModel", "isPerson", "(I)Z"⟩, 19) := ⟨⟨by decide +kernel, by decide +kernel⟩, List.mem_of_getElem? (i := 689) (by decide +kernel), List.mem_of_getElem? (i := 769) (by decide +kernel), List.mem_of_getElem? (i := 770) (by decide +kernel)⟩
theorem lw_p5 : lw_okq (⟨"SundayMarketModel", "ofPerson", "(II)I"⟩, 19) := ⟨⟨by decide +kernel, by decide +kernel⟩, List.mem_of_getElem? (i := 689) (by decide +kernel), List.mem_of_getElem? (i := 773) (by decide +kernel), List.mem_of_getElem? (i := 774) (by decide +kernel)⟩
theorem lw_p6 : lw_okq (⟨"SundayMarketModel", "halves", "(I)I"⟩, 19) := ⟨⟨by decide +kernel, by decide +kernel⟩, List.mem_of_getElem? (i := 689) (by decide +kernel), List.mem_of_getElem? (i := 787) (by decide +kernel), List.mem_of_getElem? (i := 788) (by decide +kernel)⟩
theorem lw_p7 : lw_okq (⟨"SundayMarketModel", "hasOne", "(II)Z"⟩, 19) := ⟨⟨by decide +kernel, by decide +kernel⟩, List.mem_of_getElem? (i := 689) (by decide +kernel), List.mem_of_getElem? (i := 791) (by decide +kernel), List.mem_of_getElem? (i := 792) (by decide +kernel)⟩
theorem lw_p8 : lw_okq (⟨"SundayMarketModel", "manyOf", "(II)I"⟩, 19) := ⟨⟨by decide +kernel, by decide +kernel⟩, List.mem_of_getElem? (i := 689) (by decide +kernel), List.mem_of_getElem? (i := 795) (by decide +kernel), List.mem_of_getElem? (i := 796) (by decide +kernel)⟩
theorem lw_p9 : lw_okq (⟨"SundayMarketModel", "manyAll", "(I)I"⟩, 19) := ⟨⟨by decide +kernel, by decide +kernel⟩, List.mem_of_getElem? (i := 689) (by decide +kernel), List.mem_of_getElem? (i := 799) (by decide +kernel), List.mem_of_getElem? (i := 800) (by decide +kernel)⟩
theorem lw_p10 : lw_okq (⟨"SundayMarketModel", "worth", "(I)I"⟩, 19) := ⟨⟨by decide +kernel, by decide +kernel⟩, List.mem_of_getElem? (i := 689) (by decide +kernel), List.mem_of_getElem? (i := 803) (by decide +kernel), List.mem_of_getElem? (i := 804) (by decide +kernel)⟩
theorem lw_p11 : lw_okq (⟨"SundayMarketModel", "worthOf", "(II)I"⟩, 19) := ⟨⟨by decide +kernel, by decide +kernel⟩, List.mem_of_getElem? (i := 689) (by decide +kernel), List.mem_of_getElem? (i := 807) (by decide +kernel), List.mem_of_getElem? (i := 808) (by decide +kernel)⟩
theorem lw_p12 : lw_okq (⟨"SundayMarketModel", "worthIf", "(II)I"⟩, 19) := ⟨⟨by decide +kernel, by decide +kernel⟩, List.mem_of_getElem? (i := 689) (by decide +kernel), List.mem_of_getElem? (i := 811) (by decide +kernel), List.mem_of_getElem? (i := 812) (by decide +kernel)⟩
theorem lw_p13 : lw_okq (⟨"SundayMarketModel", "worthAll", "()I"⟩, 19) := ⟨⟨by decide +kernel, by decide +kernel⟩, List.mem_of_getElem? (i := 689) (by decide +kernel), List.mem_of_getElem? (i := 831) (by decide +kernel), List.mem_of_getElem? (i := 832) (by decide +kernel)⟩
theorem lw_p14 : lw_okq (⟨"SundayMarketModel", "chalkAll", "()I"⟩, 19) := ⟨⟨by decide +kernel, by decide +kernel⟩, List.mem_of_getElem? (i := 689) (by decide +kernel), List.mem_of_getElem? (i := 835) (by decide +kernel), List.mem_of_getElem? (i := 836) (by decide +kernel)⟩
theorem lw_p15 : lw_okq (⟨"SundayMarketModel", "readSundays", "()V"⟩, 19) := ⟨⟨by decide +kernel, by decide +kernel⟩, List.mem_of_getElem? (i := 689) (by decide +kernel), List.mem_of_getElem? (i := 849) (by decide +kernel), List.mem_of_getElem? (i := 850) (by decide +kernel)⟩
def lw_privs_1 : List (MethodName × Nat) := [(⟨"SundayMarket", "kindsTold", "(ILSundayMarket$Sheet;II)I"⟩, 8), (⟨"SundayMarket", "isAsTold", "(IIILSundayMarket$Sheet;II)Z"⟩, 8), (⟨"SundayMarket", "lovesTold", "(ILSundayMarket$Sheet;II)I"⟩, 8), (⟨"SundayMarketModel", "personComes", "(III)V"⟩, 19), (⟨"SundayMarketModel", "isPerson", "(I)Z"⟩, 19), (⟨"SundayMarketModel", "ofPerson", "(II)I"⟩, 19), (⟨"SundayMarketModel", "halves", "(I)I"⟩, 19), (⟨"SundayMarketModel", "hasOne", "(II)Z"⟩, 19), (⟨"SundayMarketModel", "manyOf", "(II)I"⟩, 19), (⟨"SundayMarketModel", "manyAll", "(I)I"⟩, 19), (⟨"SundayMarketModel", "worth", "(I)I"⟩, 19), (⟨"SundayMarketModel", "worthOf", "(II)I"⟩, 19), (⟨"SundayMarketModel", "worthIf", "(II)I"⟩, 19), (⟨"SundayMarketModel", "worthAll", "()I"⟩, 19), (⟨"SundayMarketModel", "chalkAll", "()I"⟩, 19), (⟨"SundayMarketModel", "readSundays", "()V"⟩, 19)]
theorem lw_r1 : ∀ q ∈ lw_privs_1, lw_okq q := List.forall_mem_cons.mpr ⟨lw_p0, List.forall_mem_cons.mpr ⟨lw_p1, List.forall_mem_cons.mpr ⟨lw_p2, List.forall_mem_cons.mpr ⟨lw_p3, List.forall_mem_cons.mpr ⟨lw_p4, List.forall_mem_cons.mpr ⟨lw_p5, List.forall_mem_cons.mpr ⟨lw_p6, List.forall_mem_cons.mpr ⟨lw_p7, List.forall_mem_cons.mpr ⟨lw_p8, List.forall_mem_cons.mpr ⟨lw_p9, List.forall_mem_cons.mpr ⟨lw_p10, List.forall_mem_cons.mpr ⟨lw_p11, List.forall_mem_cons.mpr ⟨lw_p12, List.forall_mem_cons.mpr ⟨lw_p13, List.forall_mem_cons.mpr ⟨lw_p14, List.forall_mem_cons.mpr ⟨lw_p15, fun _ h => absurd h List.not_mem_nil⟩⟩⟩⟩⟩⟩⟩⟩⟩⟩⟩⟩⟩⟩⟩⟩
theorem lw_p16 : lw_okq (⟨"SundayMarketModel", "here", "()I"⟩, 19) := ⟨⟨by decide +kernel, by decide +kernel⟩, List.mem_of_getElem? (i := 689) (by decide +kernel), List.mem_of_getElem? (i := 853) (by decide +kernel), List.mem_of_getElem? (i := 854) (by decide +kernel)⟩
theorem lw_p17 : lw_okq (⟨"SundayMarketModel", "must", "(Z)V"⟩, 19) := ⟨⟨by decide +kernel, by decide +kernel⟩, List.mem_of_getElem? (i := 689) (by decide +kernel), List.mem_of_getElem? (i := 857) (by decide +kernel), List.mem_of_getElem? (i := 858) (by decide +kernel)⟩
theorem lw_p18 : lw_okq (⟨"SundayMarketModel", "readPeople", "()I"⟩, 19) := ⟨⟨by decide +kernel, by decide +kernel⟩, List.mem_of_getElem? (i := 689) (by decide +kernel), List.mem_of_getElem? (i := 861) (by decide +kernel), List.mem_of_getElem? (i := 862) (by decide +kernel)⟩
theorem lw_p19 : lw_okq (⟨"SundayMarketModel", "number", "()I"⟩, 19) := ⟨⟨by decide +kernel, by decide +kernel⟩, List.mem_of_getElem? (i := 689) (by decide +kernel), List.mem_of_getElem? (i := 865) (by decide +kernel), List.mem_of_getElem? (i := 866) (by decide +kernel)⟩
theorem lw_p20 : lw_okq (⟨"SundayMarketModel", "letters", "(I)I"⟩, 19) := ⟨⟨by decide +kernel, by decide +kernel⟩, List.mem_of_getElem? (i := 689) (by decide +kernel), List.mem_of_getElem? (i := 871) (by decide +kernel), List.mem_of_getElem? (i := 872) (by decide +kernel)⟩
theorem lw_p21 : lw_okq (⟨"SundayMarketModel", "areThere", "(I)Z"⟩, 19) := ⟨⟨by decide +kernel, by decide +kernel⟩, List.mem_of_getElem? (i := 689) (by decide +kernel), List.mem_of_getElem? (i := 875) (by decide +kernel), List.mem_of_getElem? (i := 876) (by decide +kernel)⟩
theorem lw_p22 : lw_okq (⟨"SundayMarketModel", "gets", "(III)V"⟩, 19) := ⟨⟨by decide +kernel, by decide +kernel⟩, List.mem_of_getElem? (i := 689) (by decide +kernel), List.mem_of_getElem? (i := 879) (by decide +kernel), List.mem_of_getElem? (i := 880) (by decide +kernel)⟩
theorem lw_p23 : lw_okq (⟨"SundayMarketModel", "areTwo", "(II)Z"⟩, 19) := ⟨⟨by decide +kernel, by decide +kernel⟩, List.mem_of_getElem? (i := 689) (by decide +kernel), List.mem_of_getElem? (i := 887) (by decide +kernel), List.mem_of_getElem? (i := 888) (by decide +kernel)⟩
theorem lw_p24 : lw_okq (⟨"SundayMarketModel", "maySell", "(II)Z"⟩, 19) := ⟨⟨by decide +kernel, by decide +kernel⟩, List.mem_of_getElem? (i := 689) (by decide +kernel), List.mem_of_getElem? (i := 892) (by decide +kernel), List.mem_of_getElem? (i := 893) (by decide +kernel)⟩
theorem lw_p25 : lw_okq (⟨"SundayMarketModel", "notes", "()V"⟩, 19) := ⟨⟨by decide +kernel, by decide +kernel⟩, List.mem_of_getElem? (i := 689) (by decide +kernel), List.mem_of_getElem? (i := 899) (by decide +kernel), List.mem_of_getElem? (i := 900) (by decide +kernel)⟩
theorem lw_p26 : lw_okq (⟨"SundayMarketModel", "goes", "(III)V"⟩, 19) := ⟨⟨by decide +kernel, by decide +kernel⟩, List.mem_of_getElem? (i := 689) (by decide +kernel), List.mem_of_getElem? (i := 903) (by decide +kernel), List.mem_of_getElem? (i := 904) (by decide +kernel)⟩
theorem lw_p27 : lw_okq (⟨"SundayMarketModel", "pays", "(II)V"⟩, 19) := ⟨⟨by decide +kernel, by decide +kernel⟩, List.mem_of_getElem? (i := 689) (by decide +kernel), List.mem_of_getElem? (i := 907) (by decide +kernel), List.mem_of_getElem? (i := 908) (by decide +kernel)⟩
theorem lw_p28 : lw_okq (⟨"SundayMarketModel", "trades", "(III)V"⟩, 19) := ⟨⟨by decide +kernel, by decide +kernel⟩, List.mem_of_getElem? (i := 689) (by decide +kernel), List.mem_of_getElem? (i := 932) (by decide +kernel), List.mem_of_getElem? (i := 933) (by decide +kernel)⟩
theorem lw_p29 : lw_okq (⟨"SundayMarketModel", "middleOf", "(III)I"⟩, 19) := ⟨⟨by decide +kernel, by decide +kernel⟩, List.mem_of_getElem? (i := 689) (by decide +kernel), List.mem_of_getElem? (i := 936) (by decide +kernel), List.mem_of_getElem? (i := 937) (by decide +kernel)⟩
theorem lw_p30 : lw_okq (⟨"SundayMarketModel", "gainOf", "(III)I"⟩, 19) := ⟨⟨by decide +kernel, by decide +kernel⟩, List.mem_of_getElem? (i := 689) (by decide +kernel), List.mem_of_getElem? (i := 952) (by decide +kernel), List.mem_of_getElem? (i := 953) (by decide +kernel)⟩
theorem lw_p31 : lw_okq (⟨"SundayMarketModel", "bestSale", "()I"⟩, 19) := ⟨⟨by decide +kernel, by decide +kernel⟩, List.mem_of_getElem? (i := 689) (by decide +kernel), List.mem_of_getElem? (i := 964) (by decide +kernel), List.mem_of_getElem? (i := 965) (by decide +kernel)⟩
def lw_privs_2 : List (MethodName × Nat) := [(⟨"SundayMarketModel", "here", "()I"⟩, 19), (⟨"SundayMarketModel", "must", "(Z)V"⟩, 19), (⟨"SundayMarketModel", "readPeople", "()I"⟩, 19), (⟨"SundayMarketModel", "number", "()I"⟩, 19), (⟨"SundayMarketModel", "letters", "(I)I"⟩, 19), (⟨"SundayMarketModel", "areThere", "(I)Z"⟩, 19), (⟨"SundayMarketModel", "gets", "(III)V"⟩, 19), (⟨"SundayMarketModel", "areTwo", "(II)Z"⟩, 19), (⟨"SundayMarketModel", "maySell", "(II)Z"⟩, 19), (⟨"SundayMarketModel", "notes", "()V"⟩, 19), (⟨"SundayMarketModel", "goes", "(III)V"⟩, 19), (⟨"SundayMarketModel", "pays", "(II)V"⟩, 19), (⟨"SundayMarketModel", "trades", "(III)V"⟩, 19), (⟨"SundayMarketModel", "middleOf", "(III)I"⟩, 19), (⟨"SundayMarketModel", "gainOf", "(III)I"⟩, 19), (⟨"SundayMarketModel", "bestSale", "()I"⟩, 19)]
theorem lw_r2 : ∀ q ∈ lw_privs_2, lw_okq q := List.forall_mem_cons.mpr ⟨lw_p16, List.forall_mem_cons.mpr ⟨lw_p17, List.forall_mem_cons.mpr ⟨lw_p18, List.forall_mem_cons.mpr ⟨lw_p19, List.forall_mem_cons.mpr ⟨lw_p20, List.forall_mem_cons.mpr ⟨lw_p21, List.forall_mem_cons.mpr ⟨lw_p22, List.forall_mem_cons.mpr ⟨lw_p23, List.forall_mem_cons.mpr ⟨lw_p24, List.forall_mem_cons.mpr ⟨lw_p25, List.forall_mem_cons.mpr ⟨lw_p26, List.forall_mem_cons.mpr ⟨lw_p27, List.forall_mem_cons.mpr ⟨lw_p28, List.forall_mem_cons.mpr ⟨lw_p29, List.forall_mem_cons.mpr ⟨lw_p30, List.forall_mem_cons.mpr ⟨lw_p31, fun _ h => absurd h List.not_mem_nil⟩⟩⟩⟩⟩⟩⟩⟩⟩⟩⟩⟩⟩⟩⟩⟩
theorem lw_p32 : lw_okq (⟨"SundayMarketModel", "asides", "()V"⟩, 19) := ⟨⟨by decide +kernel, by decide +kernel⟩, List.mem_of_getElem? (i := 689) (by decide +kernel), List.mem_of_getElem? (i := 972) (by decide +kernel), List.mem_of_getElem? (i := 973) (by decide +kernel)⟩
theorem lw_p33 : lw_okq (⟨"SundayMarketModel", "backs", "()V"⟩, 19) := ⟨⟨by decide +kernel, by decide +kernel⟩, List.mem_of_getElem? (i := 689) (by decide +kernel), List.mem_of_getElem? (i := 976) (by decide +kernel), List.mem_of_getElem? (i := 977) (by decide +kernel)⟩
theorem lw_p34 : lw_okq (⟨"SundayMarketModel", "why", "(IIII)I"⟩, 19) := ⟨⟨by decide +kernel, by decide +kernel⟩, List.mem_of_getElem? (i := 689) (by decide +kernel), List.mem_of_getElem? (i := 1030) (by decide +kernel), List.mem_of_getElem? (i := 1031) (by decide +kernel)⟩
theorem lw_p35 : lw_okq (⟨"SundayMarketModel", "isSo", "(III)Z"⟩, 19) := ⟨⟨by decide +kernel, by decide +kernel⟩, List.mem_of_getElem? (i := 689) (by decide +kernel), List.mem_of_getElem? (i := 1034) (by decide +kernel), List.mem_of_getElem? (i := 1035) (by decide +kernel)⟩
def lw_privs_3 : List (MethodName × Nat) := [(⟨"SundayMarketModel", "asides", "()V"⟩, 19), (⟨"SundayMarketModel", "backs", "()V"⟩, 19), (⟨"SundayMarketModel", "why", "(IIII)I"⟩, 19), (⟨"SundayMarketModel", "isSo", "(III)Z"⟩, 19)]
theorem lw_r3 : ∀ q ∈ lw_privs_3, lw_okq q := List.forall_mem_cons.mpr ⟨lw_p32, List.forall_mem_cons.mpr ⟨lw_p33, List.forall_mem_cons.mpr ⟨lw_p34, List.forall_mem_cons.mpr ⟨lw_p35, fun _ h => absurd h List.not_mem_nil⟩⟩⟩⟩
def lw_privs : List (MethodName × Nat) := lw_privs_1 ++ (lw_privs_2 ++ (lw_privs_3))
def lw_tbl : List Cond := k2_sels lw_privs ++ tables_1
theorem lw_privs_ok : ∀ q ∈ lw_privs, lw_okq q := by
  show ∀ q ∈ lw_privs_1 ++ (lw_privs_2 ++ (lw_privs_3)), lw_okq q
  exact List.forall_mem_append.mpr ⟨lw_r1, List.forall_mem_append.mpr ⟨lw_r2, lw_r3⟩⟩
def RX0 : String := "SundayMarket$Goods"
def TX0 : u_T := fun k => match k with
  | 0 => ("SundayMarket$Goods", "many", "[I", true)
  | 1 => ("SundayMarket$Goods", "sets", "[I", true)
  | 2 => ("SundayMarket$Goods", "chalk", "[I", true)
  | 3 => ("SundayMarket$Goods", "wet", "I", false)
  | 4 => ("SundayMarket$Goods", "harvest", "I", false)
  | _ => ("SundayMarket$Goods", "draw", "I", false)
def tyX0 : Nat → FieldType := fun k => match k with
  | 0 => .array .int
  | 1 => .array .int
  | 2 => .array .int
  | 3 => .int
  | 4 => .int
  | _ => .int
abbrev wsX00 : List Cond := u_ws RX0 TX0 6
theorem nmX0 : ∀ a, a < 6 → ∀ b, b < 6 → a ≠ b → (TX0 a).2.1 ≠ (TX0 b).2.1 := by decide +kernel
theorem tyX0_ok : ∀ k, k < 6 → parseFieldDescriptor (TX0 k).2.2.1 = some (tyX0 k) := by decide +kernel
abbrev cX0_init : ByteArray := prog_2_method_1_code
def yX0_init : MethodName := ⟨RX0, "<init>", "()V"⟩
abbrev cX0_copyGoods : ByteArray := prog_2_method_2_code
def yX0_copyGoods : MethodName := ⟨RX0, "copyGoods", "(LSundayMarket$Goods;)V"⟩
abbrev cX0_manyOf : ByteArray := prog_2_method_3_code
def yX0_manyOf : MethodName := ⟨RX0, "manyOf", "(II)I"⟩
abbrev cX0_manyInAll : ByteArray := prog_2_method_4_code
def yX0_manyInAll : MethodName := ⟨RX0, "manyInAll", "(I)I"⟩
abbrev cX0_setMany : ByteArray := prog_2_method_5_code
def yX0_setMany : MethodName := ⟨RX0, "setMany", "(III)V"⟩
abbrev cX0_move : ByteArray := prog_2_method_6_code
def yX0_move : MethodName := ⟨RX0, "move", "(III)V"⟩
abbrev cX0_pay : ByteArray := prog_2_method_7_code
def yX0_pay : MethodName := ⟨RX0, "pay", "(III)V"⟩
def RX1 : String := "SundayMarket$Past"
def TX1 : u_T := fun k => match k with
  | 0 => ("SundayMarket$Past", "rows", "[LSundayMarket$Goods;", true)
  | _ => ("SundayMarket$Past", "known", "I", false)
def tyX1 : Nat → FieldType := fun k => match k with
  | 0 => .array (.object "SundayMarket$Goods")
  | _ => .int
abbrev wsX10 : List Cond := u_ws RX1 TX1 2
theorem nmX1 : ∀ a, a < 2 → ∀ b, b < 2 → a ≠ b → (TX1 a).2.1 ≠ (TX1 b).2.1 := by decide +kernel
theorem tyX1_ok : ∀ k, k < 2 → parseFieldDescriptor (TX1 k).2.2.1 = some (tyX1 k) := by decide +kernel
abbrev cX1_init : ByteArray := prog_3_method_1_code
def yX1_init : MethodName := ⟨RX1, "<init>", "()V"⟩
abbrev cX1_copyPast : ByteArray := prog_3_method_2_code
def yX1_copyPast : MethodName := ⟨RX1, "copyPast", "(LSundayMarket$Past;)V"⟩
abbrev cX1_forget : ByteArray := prog_3_method_3_code
def yX1_forget : MethodName := ⟨RX1, "forget", "()V"⟩
abbrev cX1_remember : ByteArray := prog_3_method_4_code
def yX1_remember : MethodName := ⟨RX1, "remember", "(LSundayMarket$Goods;)V"⟩
abbrev cX1_loseOldest : ByteArray := prog_3_method_5_code
def yX1_loseOldest : MethodName := ⟨RX1, "loseOldest", "()V"⟩
abbrev cX1_bringBack : ByteArray := prog_3_method_6_code
def yX1_bringBack : MethodName := ⟨RX1, "bringBack", "(LSundayMarket$Goods;)V"⟩
def RX2 : String := "SundayMarket$Sheet"
def TX2 : u_T := fun k => match k with
  | 0 => ("SundayMarket$Sheet", "items", "[J", true)
  | 1 => ("SundayMarket$Sheet", "lane", "I", false)
  | _ => ("SundayMarket$Sheet", "size", "I", false)
def tyX2 : Nat → FieldType := fun k => match k with
  | 0 => .array .long
  | 1 => .int
  | _ => .int
abbrev wsX20 : List Cond := u_ws RX2 TX2 3
theorem nmX2 : ∀ a, a < 3 → ∀ b, b < 3 → a ≠ b → (TX2 a).2.1 ≠ (TX2 b).2.1 := by decide +kernel
theorem tyX2_ok : ∀ k, k < 3 → parseFieldDescriptor (TX2 k).2.2.1 = some (tyX2 k) := by decide +kernel
abbrev cX2_init : ByteArray := prog_4_method_1_code
def yX2_init : MethodName := ⟨RX2, "<init>", "()V"⟩
abbrev cX2_begin : ByteArray := prog_4_method_2_code
def yX2_begin : MethodName := ⟨RX2, "begin", "(II)V"⟩
abbrev cX2_hasRoom : ByteArray := prog_4_method_3_code
def yX2_hasRoom : MethodName := ⟨RX2, "hasRoom", "(II)Z"⟩
abbrev cX2_troubleOf : ByteArray := prog_4_method_4_code
def yX2_troubleOf : MethodName := ⟨RX2, "troubleOf", "(III)I"⟩
abbrev cX2_put : ByteArray := prog_4_method_5_code
def yX2_put : MethodName := ⟨RX2, "put", "(IJ)V"⟩
def RX3 : String := "SundayMarket$Tape"
def TX3 : u_T := fun k => match k with
  | 0 => ("SundayMarket$Tape", "letters", "[C", true)
  | 1 => ("SundayMarket$Tape", "length", "I", false)
  | _ => ("SundayMarket$Tape", "place", "I", false)
def tyX3 : Nat → FieldType := fun k => match k with
  | 0 => .array .char
  | 1 => .int
  | _ => .int
abbrev wsX30 : List Cond := u_ws RX3 TX3 3
theorem nmX3 : ∀ a, a < 3 → ∀ b, b < 3 → a ≠ b → (TX3 a).2.1 ≠ (TX3 b).2.1 := by decide +kernel
theorem tyX3_ok : ∀ k, k < 3 → parseFieldDescriptor (TX3 k).2.2.1 = some (tyX3 k) := by decide +kernel
abbrev cX3_init : ByteArray := prog_5_method_1_code
def yX3_init : MethodName := ⟨RX3, "<init>", "()V"⟩
abbrev cX3_put : ByteArray := prog_5_method_2_code
def yX3_put : MethodName := ⟨RX3, "put", "(C)I"⟩
abbrev cX3_wipe : ByteArray := prog_5_method_3_code
def yX3_wipe : MethodName := ⟨RX3, "wipe", "()V"⟩
abbrev cX3_tell : ByteArray := prog_5_method_4_code
def yX3_tell : MethodName := ⟨RX3, "tell", "(LSundayMarket$Town;)Z"⟩
abbrev cX3_tellSundays : ByteArray := prog_5_method_5_code
def yX3_tellSundays : MethodName := ⟨RX3, "tellSundays", "(LSundayMarket$Goods;)Z"⟩
abbrev cX3_tellPeople : ByteArray := prog_5_method_6_code
def yX3_tellPeople : MethodName := ⟨RX3, "tellPeople", "(LSundayMarket$Town;)Z"⟩
abbrev cX3_tellOne : ByteArray := prog_5_method_7_code
def yX3_tellOne : MethodName := ⟨RX3, "tellOne", "(LSundayMarket$Town;)Z"⟩
abbrev cX3_tellHalves : ByteArray := prog_5_method_8_code
def yX3_tellHalves : MethodName := ⟨RX3, "tellHalves", "(LSundayMarket$Goods;II)Z"⟩
abbrev cX3_lovesAreThere : ByteArray := prog_5_method_9_code
def yX3_lovesAreThere : MethodName := ⟨RX3, "lovesAreThere", "(LSundayMarket$Town;)Z"⟩
abbrev cX3_next : ByteArray := prog_5_method_10_code
def yX3_next : MethodName := ⟨RX3, "next", "()I"⟩
abbrev cX3_takes : ByteArray := prog_5_method_11_code
def yX3_takes : MethodName := ⟨RX3, "takes", "(C)Z"⟩
abbrev cX3_takeOneOf : ByteArray := prog_5_method_12_code
def yX3_takeOneOf : MethodName := ⟨RX3, "takeOneOf", "(Ljava/lang/String;)I"⟩
abbrev cX3_takeNumber : ByteArray := prog_5_method_13_code
def yX3_takeNumber : MethodName := ⟨RX3, "takeNumber", "()I"⟩
def RX4 : String := "SundayMarket$Town"
def TX4 : u_T := fun k => match k with
  | 0 => ("SundayMarket$Town", "people", "I", false)
  | 1 => ("SundayMarket$Town", "fewest", "I", false)
  | 2 => ("SundayMarket$Town", "kinds", "[I", true)
  | 3 => ("SundayMarket$Town", "loves", "[I", true)
  | _ => ("SundayMarket$Town", "goods", "LSundayMarket$Goods;", true)
def tyX4 : Nat → FieldType := fun k => match k with
  | 0 => .int
  | 1 => .int
  | 2 => .array .int
  | 3 => .array .int
  | _ => .object "SundayMarket$Goods"
abbrev wsX40 : List Cond := u_ws RX4 TX4 5
theorem nmX4 : ∀ a, a < 5 → ∀ b, b < 5 → a ≠ b → (TX4 a).2.1 ≠ (TX4 b).2.1 := by decide +kernel
theorem tyX4_ok : ∀ k, k < 5 → parseFieldDescriptor (TX4 k).2.2.1 = some (tyX4 k) := by decide +kernel
abbrev cX4_init : ByteArray := prog_6_method_1_code
def yX4_init : MethodName := ⟨RX4, "<init>", "()V"⟩
abbrev cX4_copyTown : ByteArray := prog_6_method_2_code
def yX4_copyTown : MethodName := ⟨RX4, "copyTown", "(LSundayMarket$Town;)V"⟩
abbrev cX4_isOne : ByteArray := prog_6_method_3_code
def yX4_isOne : MethodName := ⟨RX4, "isOne", "(I)Z"⟩
abbrev cX4_areTwo : ByteArray := prog_6_method_4_code
def yX4_areTwo : MethodName := ⟨RX4, "areTwo", "(II)Z"⟩
abbrev cX4_settle : ByteArray := prog_6_method_5_code
def yX4_settle : MethodName := ⟨RX4, "settle", "(II)I"⟩
abbrev cX4_lovedSet : ByteArray := prog_6_method_6_code
def yX4_lovedSet : MethodName := ⟨RX4, "lovedSet", "(II)I"⟩
abbrev cX4_worthOfHalf : ByteArray := prog_6_method_7_code
def yX4_worthOfHalf : MethodName := ⟨RX4, "worthOfHalf", "(II)I"⟩
abbrev cX4_worthOf : ByteArray := prog_6_method_8_code
def yX4_worthOf : MethodName := ⟨RX4, "worthOf", "(I)I"⟩
abbrev cX4_worthOfSet : ByteArray := prog_6_method_9_code
def yX4_worthOfSet : MethodName := ⟨RX4, "worthOfSet", "(II)I"⟩
abbrev cX4_worthInRain : ByteArray := prog_6_method_10_code
def yX4_worthInRain : MethodName := ⟨RX4, "worthInRain", "(III)I"⟩
abbrev cX4_worthOfAll : ByteArray := prog_6_method_11_code
def yX4_worthOfAll : MethodName := ⟨RX4, "worthOfAll", "()I"⟩
abbrev cX4_worthOfAllOn : ByteArray := prog_6_method_12_code
def yX4_worthOfAllOn : MethodName := ⟨RX4, "worthOfAllOn", "(I)I"⟩
abbrev cX4_chalkOfAll : ByteArray := prog_6_method_13_code
def yX4_chalkOfAll : MethodName := ⟨RX4, "chalkOfAll", "()I"⟩
abbrev cX4_dearestHalf : ByteArray := prog_6_method_14_code
def yX4_dearestHalf : MethodName := ⟨RX4, "dearestHalf", "(I)I"⟩
abbrev cX4_maySell : ByteArray := prog_6_method_15_code
def yX4_maySell : MethodName := ⟨RX4, "maySell", "(IIII)Z"⟩
abbrev cX4_gainOfSale : ByteArray := prog_6_method_16_code
def yX4_gainOfSale : MethodName := ⟨RX4, "gainOfSale", "(III)I"⟩
abbrev cX4_middleOfSale : ByteArray := prog_6_method_17_code
def yX4_middleOfSale : MethodName := ⟨RX4, "middleOfSale", "(III)I"⟩
abbrev cX4_bestSale : ByteArray := prog_6_method_18_code
def yX4_bestSale : MethodName := ⟨RX4, "bestSale", "()I"⟩
abbrev cX4_mightGain : ByteArray := prog_6_method_19_code
def yX4_mightGain : MethodName := ⟨RX4, "mightGain", "(III)Z"⟩
abbrev cX4_driftOnce : ByteArray := prog_6_method_20_code
def yX4_driftOnce : MethodName := ⟨RX4, "driftOnce", "()V"⟩
abbrev cX4_weightOfRain : ByteArray := prog_6_method_21_code
def yX4_weightOfRain : MethodName := ⟨RX4, "weightOfRain", "(III)I"⟩
def RX5 : String := "SundayMarket"
def TX5 : u_T := fun k => match k with
  | 0 => ("SundayMarket", "now", "LSundayMarket$Town;", true)
  | 1 => ("SundayMarket", "past", "LSundayMarket$Past;", true)
  | 2 => ("SundayMarket", "kept", "LSundayMarket$Town;", true)
  | 3 => ("SundayMarket", "keptPast", "LSundayMarket$Past;", true)
  | 4 => ("SundayMarket", "isKept", "Z", false)
  | 5 => ("SundayMarket", "trial", "LSundayMarket$Town;", true)
  | 6 => ("SundayMarket", "tape", "LSundayMarket$Tape;", true)
  | _ => ("SundayMarket", "sheets", "[LSundayMarket$Sheet;", true)
def tyX5 : Nat → FieldType := fun k => match k with
  | 0 => .object "SundayMarket$Town"
  | 1 => .object "SundayMarket$Past"
  | 2 => .object "SundayMarket$Town"
  | 3 => .object "SundayMarket$Past"
  | 4 => .boolean
  | 5 => .object "SundayMarket$Town"
  | 6 => .object "SundayMarket$Tape"
  | _ => .array (.object "SundayMarket$Sheet")
abbrev wsX50 : List Cond := u_ws RX5 TX5 8
theorem nmX5 : ∀ a, a < 8 → ∀ b, b < 8 → a ≠ b → (TX5 a).2.1 ≠ (TX5 b).2.1 := by decide +kernel
theorem tyX5_ok : ∀ k, k < 8 → parseFieldDescriptor (TX5 k).2.2.1 = some (tyX5 k) := by decide +kernel
abbrev cX5_init : ByteArray := prog_1_method_1_code
def yX5_init : MethodName := ⟨RX5, "<init>", "()V"⟩
abbrev cX5_person : ByteArray := prog_1_method_2_code
def yX5_person : MethodName := ⟨RX5, "person", "(I)I"⟩
abbrev cX5_love : ByteArray := prog_1_method_3_code
def yX5_love : MethodName := ⟨RX5, "love", "(II)I"⟩
abbrev cX5_least : ByteArray := prog_1_method_4_code
def yX5_least : MethodName := ⟨RX5, "least", "(I)I"⟩
abbrev cX5_of : ByteArray := prog_1_method_5_code
def yX5_of : MethodName := ⟨RX5, "of", "(II)I"⟩
abbrev cX5_has : ByteArray := prog_1_method_6_code
def yX5_has : MethodName := ⟨RX5, "has", "(III)I"⟩
abbrev cX5_at : ByteArray := prog_1_method_7_code
def yX5_at : MethodName := ⟨RX5, "at", "(II)I"⟩
abbrev cX5_type : ByteArray := prog_1_method_8_code
def yX5_type : MethodName := ⟨RX5, "type", "(I)I"⟩
abbrev cX5_read : ByteArray := prog_1_method_9_code
def yX5_read : MethodName := ⟨RX5, "read", "()I"⟩
abbrev cX5_count : ByteArray := prog_1_method_10_code
def yX5_count : MethodName := ⟨RX5, "count", "(I)I"⟩
abbrev cX5_sell : ByteArray := prog_1_method_11_code
def yX5_sell : MethodName := ⟨RX5, "sell", "(IIII)I"⟩
abbrev cX5_seize : ByteArray := prog_1_method_12_code
def yX5_seize : MethodName := ⟨RX5, "seize", "(II)I"⟩
abbrev cX5_give : ByteArray := prog_1_method_13_code
def yX5_give : MethodName := ⟨RX5, "give", "(III)I"⟩
abbrev cX5_make : ByteArray := prog_1_method_14_code
def yX5_make : MethodName := ⟨RX5, "make", "(III)I"⟩
abbrev cX5_drift : ByteArray := prog_1_method_15_code
def yX5_drift : MethodName := ⟨RX5, "drift", "(I)I"⟩
abbrev cX5_undo : ByteArray := prog_1_method_16_code
def yX5_undo : MethodName := ⟨RX5, "undo", "()I"⟩
abbrev cX5_seed : ByteArray := prog_1_method_17_code
def yX5_seed : MethodName := ⟨RX5, "seed", "(I)I"⟩
abbrev cX5_gain : ByteArray := prog_1_method_18_code
def yX5_gain : MethodName := ⟨RX5, "gain", "(III)I"⟩
abbrev cX5_middle : ByteArray := prog_1_method_19_code
def yX5_middle : MethodName := ⟨RX5, "middle", "(III)I"⟩
abbrev cX5_best : ByteArray := prog_1_method_20_code
def yX5_best : MethodName := ⟨RX5, "best", "(I)I"⟩
abbrev cX5_market : ByteArray := prog_1_method_21_code
def yX5_market : MethodName := ⟨RX5, "market", "(I)I"⟩
abbrev cX5_longest : ByteArray := prog_1_method_22_code
def yX5_longest : MethodName := ⟨RX5, "longest", "(II)I"⟩
abbrev cX5_stretch : ByteArray := prog_1_method_23_code
def yX5_stretch : MethodName := ⟨RX5, "stretch", "(III)I"⟩
abbrev cX5_more : ByteArray := prog_1_method_24_code
def yX5_more : MethodName := ⟨RX5, "more", "(IIII)I"⟩
abbrev cX5_envy : ByteArray := prog_1_method_25_code
def yX5_envy : MethodName := ⟨RX5, "envy", "(II)I"⟩
abbrev cX5_both : ByteArray := prog_1_method_26_code
def yX5_both : MethodName := ⟨RX5, "both", "(II)I"⟩
abbrev cX5_hands : ByteArray := prog_1_method_27_code
def yX5_hands : MethodName := ⟨RX5, "hands", "(I)I"⟩
abbrev cX5_rain : ByteArray := prog_1_method_28_code
def yX5_rain : MethodName := ⟨RX5, "rain", "(IIII)I"⟩
abbrev cX5_image : ByteArray := prog_1_method_29_code
def yX5_image : MethodName := ⟨RX5, "image", "()I"⟩
abbrev cX5_restore : ByteArray := prog_1_method_30_code
def yX5_restore : MethodName := ⟨RX5, "restore", "()I"⟩
abbrev cX5_told : ByteArray := prog_1_method_31_code
def yX5_told : MethodName := ⟨RX5, "told", "(IIIIII)I"⟩
abbrev cX5_film : ByteArray := prog_1_method_32_code
def yX5_film : MethodName := ⟨RX5, "film", "(IIIII)I"⟩
abbrev cX5_sheet : ByteArray := prog_1_method_33_code
def yX5_sheet : MethodName := ⟨RX5, "sheet", "(III)I"⟩
abbrev cX5_drop : ByteArray := prog_1_method_34_code
def yX5_drop : MethodName := ⟨RX5, "drop", "(I)I"⟩
abbrev cX5_item : ByteArray := prog_1_method_35_code
def yX5_item : MethodName := ⟨RX5, "item", "(IIIJ)I"⟩
abbrev cX5_copy : ByteArray := prog_1_method_36_code
def yX5_copy : MethodName := ⟨RX5, "copy", "(IIIII)I"⟩
abbrev cX5_kindsTold : ByteArray := prog_1_method_37_code
def yX5_kindsTold : MethodName := ⟨RX5, "kindsTold", "(ILSundayMarket$Sheet;II)I"⟩
abbrev cX5_lovesTold : ByteArray := prog_1_method_38_code
def yX5_lovesTold : MethodName := ⟨RX5, "lovesTold", "(ILSundayMarket$Sheet;II)I"⟩
abbrev cX5_isAsTold : ByteArray := prog_1_method_39_code
def yX5_isAsTold : MethodName := ⟨RX5, "isAsTold", "(IIILSundayMarket$Sheet;II)Z"⟩
abbrev cX5_isWithin : ByteArray := prog_1_method_40_code
def yX5_isWithin : MethodName := ⟨RX5, "isWithin", "(III)Z"⟩
abbrev cX5_isFlag : ByteArray := prog_1_method_41_code
def yX5_isFlag : MethodName := ⟨RX5, "isFlag", "(I)Z"⟩
abbrev cX5_isSunday : ByteArray := prog_1_method_42_code
def yX5_isSunday : MethodName := ⟨RX5, "isSunday", "(I)Z"⟩
abbrev cX5_isHalf : ByteArray := prog_1_method_43_code
def yX5_isHalf : MethodName := ⟨RX5, "isHalf", "(I)Z"⟩
abbrev cX5_isSheet : ByteArray := prog_1_method_44_code
def yX5_isSheet : MethodName := ⟨RX5, "isSheet", "(I)Z"⟩
abbrev cX5_isLane : ByteArray := prog_1_method_45_code
def yX5_isLane : MethodName := ⟨RX5, "isLane", "(I)Z"⟩
abbrev cX5_isIn : ByteArray := prog_1_method_46_code
def yX5_isIn : MethodName := ⟨RX5, "isIn", "(II)Z"⟩
abbrev cX5_lengthFrom : ByteArray := prog_1_method_47_code
def yX5_lengthFrom : MethodName := ⟨RX5, "lengthFrom", "(II)I"⟩
abbrev cX5_power : ByteArray := prog_1_method_48_code
def yX5_power : MethodName := ⟨RX5, "power", "(II)I"⟩
abbrev cX5_greatestDivisor : ByteArray := prog_1_method_49_code
def yX5_greatestDivisor : MethodName := ⟨RX5, "greatestDivisor", "(II)I"⟩
abbrev cX5_saleOf : ByteArray := prog_1_method_50_code
def yX5_saleOf : MethodName := ⟨RX5, "saleOf", "(III)I"⟩
abbrev cX5_sellerOf : ByteArray := prog_1_method_51_code
def yX5_sellerOf : MethodName := ⟨RX5, "sellerOf", "(I)I"⟩
abbrev cX5_buyerOf : ByteArray := prog_1_method_52_code
def yX5_buyerOf : MethodName := ⟨RX5, "buyerOf", "(I)I"⟩
abbrev cX5_halfOf : ByteArray := prog_1_method_53_code
def yX5_halfOf : MethodName := ⟨RX5, "halfOf", "(I)I"⟩
abbrev cX5_worthByKind : ByteArray := prog_1_method_54_code
def yX5_worthByKind : MethodName := ⟨RX5, "worthByKind", "(IIIIII)I"⟩
def RX6 : String := "SundayMarketModel"
def TX6 : u_T := fun k => match k with
  | 0 => ("SundayMarketModel", "now", "[I", true)
  | 1 => ("SundayMarketModel", "tape", "[I", true)
  | 2 => ("SundayMarketModel", "typed", "I", false)
  | 3 => ("SundayMarketModel", "place", "I", false)
  | 4 => ("SundayMarketModel", "isFault", "Z", false)
  | 5 => ("SundayMarketModel", "readWet", "I", false)
  | 6 => ("SundayMarketModel", "readHarvest", "I", false)
  | 7 => ("SundayMarketModel", "read", "[I", true)
  | 8 => ("SundayMarketModel", "undone", "[I", true)
  | 9 => ("SundayMarketModel", "undos", "I", false)
  | 10 => ("SundayMarketModel", "bestGain", "I", false)
  | 11 => ("SundayMarketModel", "aside", "[I", true)
  | 12 => ("SundayMarketModel", "kept", "[I", true)
  | 13 => ("SundayMarketModel", "keptUndos", "I", false)
  | 14 => ("SundayMarketModel", "isKept", "Z", false)
  | 15 => ("SundayMarketModel", "lanes", "[I", true)
  | 16 => ("SundayMarketModel", "sizes", "[I", true)
  | 17 => ("SundayMarketModel", "items", "[J", true)
  | _ => ("SundayMarketModel", "moved", "[J", true)
def tyX6 : Nat → FieldType := fun k => match k with
  | 0 => .array .int
  | 1 => .array .int
  | 2 => .int
  | 3 => .int
  | 4 => .boolean
  | 5 => .int
  | 6 => .int
  | 7 => .array .int
  | 8 => .array .int
  | 9 => .int
  | 10 => .int
  | 11 => .array .int
  | 12 => .array .int
  | 13 => .int
  | 14 => .boolean
  | 15 => .array .int
  | 16 => .array .int
  | 17 => .array .long
  | _ => .array .long
abbrev wsX60 : List Cond := u_ws RX6 TX6 19
theorem nmX6 : ∀ a, a < 19 → ∀ b, b < 19 → a ≠ b → (TX6 a).2.1 ≠ (TX6 b).2.1 := by decide +kernel
theorem tyX6_ok : ∀ k, k < 19 → parseFieldDescriptor (TX6 k).2.2.1 = some (tyX6 k) := by decide +kernel
abbrev cX6_in : ByteArray := prog_8_method_2_code
def yX6_in : MethodName := ⟨RX6, "in", "(JJJ)Z"⟩
abbrev cX6_init : ByteArray := prog_8_method_3_code
def yX6_init : MethodName := ⟨RX6, "<init>", "()V"⟩
abbrev cX6_isPerson : ByteArray := prog_8_method_4_code
def yX6_isPerson : MethodName := ⟨RX6, "isPerson", "(I)Z"⟩
abbrev cX6_isHalf : ByteArray := prog_8_method_5_code
def yX6_isHalf : MethodName := ⟨RX6, "isHalf", "(I)Z"⟩
abbrev cX6_ofPerson : ByteArray := prog_8_method_6_code
def yX6_ofPerson : MethodName := ⟨RX6, "ofPerson", "(II)I"⟩
abbrev cX6_manyOf : ByteArray := prog_8_method_7_code
def yX6_manyOf : MethodName := ⟨RX6, "manyOf", "(II)I"⟩
abbrev cX6_hasOne : ByteArray := prog_8_method_8_code
def yX6_hasOne : MethodName := ⟨RX6, "hasOne", "(II)Z"⟩
abbrev cX6_gets : ByteArray := prog_8_method_9_code
def yX6_gets : MethodName := ⟨RX6, "gets", "(III)V"⟩
abbrev cX6_pays : ByteArray := prog_8_method_10_code
def yX6_pays : MethodName := ⟨RX6, "pays", "(II)V"⟩
abbrev cX6_worthIf : ByteArray := prog_8_method_11_code
def yX6_worthIf : MethodName := ⟨RX6, "worthIf", "(II)I"⟩
abbrev cX6_worthOf : ByteArray := prog_8_method_12_code
def yX6_worthOf : MethodName := ⟨RX6, "worthOf", "(II)I"⟩
abbrev cX6_worth : ByteArray := prog_8_method_13_code
def yX6_worth : MethodName := ⟨RX6, "worth", "(I)I"⟩
abbrev cX6_worthAll : ByteArray := prog_8_method_14_code
def yX6_worthAll : MethodName := ⟨RX6, "worthAll", "()I"⟩
abbrev cX6_halves : ByteArray := prog_8_method_15_code
def yX6_halves : MethodName := ⟨RX6, "halves", "(I)I"⟩
abbrev cX6_manyAll : ByteArray := prog_8_method_16_code
def yX6_manyAll : MethodName := ⟨RX6, "manyAll", "(I)I"⟩
abbrev cX6_many : ByteArray := prog_8_method_17_code
def yX6_many : MethodName := ⟨RX6, "many", "(I)I"⟩
abbrev cX6_personComes : ByteArray := prog_8_method_18_code
def yX6_personComes : MethodName := ⟨RX6, "personComes", "(III)V"⟩
abbrev cX6_person : ByteArray := prog_8_method_19_code
def yX6_person : MethodName := ⟨RX6, "person", "(I)I"⟩
abbrev cX6_love : ByteArray := prog_8_method_20_code
def yX6_love : MethodName := ⟨RX6, "love", "(II)I"⟩
abbrev cX6_least : ByteArray := prog_8_method_21_code
def yX6_least : MethodName := ⟨RX6, "least", "(I)I"⟩
abbrev cX6_of : ByteArray := prog_8_method_22_code
def yX6_of : MethodName := ⟨RX6, "of", "(II)I"⟩
abbrev cX6_has : ByteArray := prog_8_method_23_code
def yX6_has : MethodName := ⟨RX6, "has", "(III)I"⟩
abbrev cX6_at : ByteArray := prog_8_method_24_code
def yX6_at : MethodName := ⟨RX6, "at", "(II)I"⟩
abbrev cX6_chalkAll : ByteArray := prog_8_method_25_code
def yX6_chalkAll : MethodName := ⟨RX6, "chalkAll", "()I"⟩
abbrev cX6_count : ByteArray := prog_8_method_26_code
def yX6_count : MethodName := ⟨RX6, "count", "(I)I"⟩
abbrev cX6_type : ByteArray := prog_8_method_27_code
def yX6_type : MethodName := ⟨RX6, "type", "(I)I"⟩
abbrev cX6_here : ByteArray := prog_8_method_28_code
def yX6_here : MethodName := ⟨RX6, "here", "()I"⟩
abbrev cX6_must : ByteArray := prog_8_method_29_code
def yX6_must : MethodName := ⟨RX6, "must", "(Z)V"⟩
abbrev cX6_number : ByteArray := prog_8_method_30_code
def yX6_number : MethodName := ⟨RX6, "number", "()I"⟩
abbrev cX6_letters : ByteArray := prog_8_method_31_code
def yX6_letters : MethodName := ⟨RX6, "letters", "(I)I"⟩
abbrev cX6_readSundays : ByteArray := prog_8_method_32_code
def yX6_readSundays : MethodName := ⟨RX6, "readSundays", "()V"⟩
abbrev cX6_readPeople : ByteArray := prog_8_method_33_code
def yX6_readPeople : MethodName := ⟨RX6, "readPeople", "()I"⟩
abbrev cX6_areThere : ByteArray := prog_8_method_34_code
def yX6_areThere : MethodName := ⟨RX6, "areThere", "(I)Z"⟩
abbrev cX6_read : ByteArray := prog_8_method_35_code
def yX6_read : MethodName := ⟨RX6, "read", "()I"⟩
abbrev cX6_notes : ByteArray := prog_8_method_36_code
def yX6_notes : MethodName := ⟨RX6, "notes", "()V"⟩
abbrev cX6_maySell : ByteArray := prog_8_method_37_code
def yX6_maySell : MethodName := ⟨RX6, "maySell", "(II)Z"⟩
abbrev cX6_goes : ByteArray := prog_8_method_38_code
def yX6_goes : MethodName := ⟨RX6, "goes", "(III)V"⟩
abbrev cX6_areTwo : ByteArray := prog_8_method_39_code
def yX6_areTwo : MethodName := ⟨RX6, "areTwo", "(II)Z"⟩
abbrev cX6_sell : ByteArray := prog_8_method_40_code
def yX6_sell : MethodName := ⟨RX6, "sell", "(IIII)I"⟩
abbrev cX6_seize : ByteArray := prog_8_method_41_code
def yX6_seize : MethodName := ⟨RX6, "seize", "(II)I"⟩
abbrev cX6_give : ByteArray := prog_8_method_42_code
def yX6_give : MethodName := ⟨RX6, "give", "(III)I"⟩
abbrev cX6_make : ByteArray := prog_8_method_43_code
def yX6_make : MethodName := ⟨RX6, "make", "(III)I"⟩
abbrev cX6_middleOf : ByteArray := prog_8_method_44_code
def yX6_middleOf : MethodName := ⟨RX6, "middleOf", "(III)I"⟩
abbrev cX6_trades : ByteArray := prog_8_method_45_code
def yX6_trades : MethodName := ⟨RX6, "trades", "(III)V"⟩
abbrev cX6_drift : ByteArray := prog_8_method_46_code
def yX6_drift : MethodName := ⟨RX6, "drift", "(I)I"⟩
abbrev cX6_undo : ByteArray := prog_8_method_47_code
def yX6_undo : MethodName := ⟨RX6, "undo", "()I"⟩
abbrev cX6_seed : ByteArray := prog_8_method_48_code
def yX6_seed : MethodName := ⟨RX6, "seed", "(I)I"⟩
abbrev cX6_gainOf : ByteArray := prog_8_method_49_code
def yX6_gainOf : MethodName := ⟨RX6, "gainOf", "(III)I"⟩
abbrev cX6_gain : ByteArray := prog_8_method_50_code
def yX6_gain : MethodName := ⟨RX6, "gain", "(III)I"⟩
abbrev cX6_middle : ByteArray := prog_8_method_51_code
def yX6_middle : MethodName := ⟨RX6, "middle", "(III)I"⟩
abbrev cX6_bestSale : ByteArray := prog_8_method_52_code
def yX6_bestSale : MethodName := ⟨RX6, "bestSale", "()I"⟩
abbrev cX6_best : ByteArray := prog_8_method_53_code
def yX6_best : MethodName := ⟨RX6, "best", "(I)I"⟩
abbrev cX6_asides : ByteArray := prog_8_method_54_code
def yX6_asides : MethodName := ⟨RX6, "asides", "()V"⟩
abbrev cX6_backs : ByteArray := prog_8_method_55_code
def yX6_backs : MethodName := ⟨RX6, "backs", "()V"⟩
abbrev cX6_market : ByteArray := prog_8_method_56_code
def yX6_market : MethodName := ⟨RX6, "market", "(I)I"⟩
abbrev cX6_longest : ByteArray := prog_8_method_57_code
def yX6_longest : MethodName := ⟨RX6, "longest", "(II)I"⟩
abbrev cX6_stretch : ByteArray := prog_8_method_58_code
def yX6_stretch : MethodName := ⟨RX6, "stretch", "(III)I"⟩
abbrev cX6_more : ByteArray := prog_8_method_59_code
def yX6_more : MethodName := ⟨RX6, "more", "(IIII)I"⟩
abbrev cX6_envy : ByteArray := prog_8_method_60_code
def yX6_envy : MethodName := ⟨RX6, "envy", "(II)I"⟩
abbrev cX6_both : ByteArray := prog_8_method_61_code
def yX6_both : MethodName := ⟨RX6, "both", "(II)I"⟩
abbrev cX6_hands : ByteArray := prog_8_method_62_code
def yX6_hands : MethodName := ⟨RX6, "hands", "(I)I"⟩
abbrev cX6_rain : ByteArray := prog_8_method_63_code
def yX6_rain : MethodName := ⟨RX6, "rain", "(IIII)I"⟩
abbrev cX6_image : ByteArray := prog_8_method_64_code
def yX6_image : MethodName := ⟨RX6, "image", "()I"⟩
abbrev cX6_restore : ByteArray := prog_8_method_65_code
def yX6_restore : MethodName := ⟨RX6, "restore", "()I"⟩
abbrev cX6_isSheet : ByteArray := prog_8_method_66_code
def yX6_isSheet : MethodName := ⟨RX6, "isSheet", "(I)Z"⟩
abbrev cX6_isLane : ByteArray := prog_8_method_67_code
def yX6_isLane : MethodName := ⟨RX6, "isLane", "(I)Z"⟩
abbrev cX6_why : ByteArray := prog_8_method_68_code
def yX6_why : MethodName := ⟨RX6, "why", "(IIII)I"⟩
abbrev cX6_isSo : ByteArray := prog_8_method_69_code
def yX6_isSo : MethodName := ⟨RX6, "isSo", "(III)Z"⟩
abbrev cX6_told : ByteArray := prog_8_method_70_code
def yX6_told : MethodName := ⟨RX6, "told", "(IIIIII)I"⟩
abbrev cX6_film : ByteArray := prog_8_method_71_code
def yX6_film : MethodName := ⟨RX6, "film", "(IIIII)I"⟩
abbrev cX6_sheet : ByteArray := prog_8_method_72_code
def yX6_sheet : MethodName := ⟨RX6, "sheet", "(III)I"⟩
abbrev cX6_drop : ByteArray := prog_8_method_73_code
def yX6_drop : MethodName := ⟨RX6, "drop", "(I)I"⟩
abbrev cX6_item : ByteArray := prog_8_method_74_code
def yX6_item : MethodName := ⟨RX6, "item", "(IIIJ)I"⟩
abbrev cX6_copy : ByteArray := prog_8_method_75_code
def yX6_copy : MethodName := ⟨RX6, "copy", "(IIIII)I"⟩
def RJ11 : String := "java/lang/Character"
abbrev cJ11_isValidCodePoint_9a6ad : ByteArray := prog_9_method_11_code
def yJ11_isValidCodePoint_9a6ad : MethodName := ⟨RJ11, "isValidCodePoint", "(I)Z"⟩
abbrev cJ11_highSurrogate_5068e : ByteArray := prog_9_method_28_code
def yJ11_highSurrogate_5068e : MethodName := ⟨RJ11, "highSurrogate", "(I)C"⟩
abbrev cJ11_lowSurrogate_5068e : ByteArray := prog_9_method_29_code
def yJ11_lowSurrogate_5068e : MethodName := ⟨RJ11, "lowSurrogate", "(I)C"⟩
def RJ6 : String := "java/lang/Integer"
abbrev cJ6_bitCount_0f7a4 : ByteArray := prog_10_method_49_code
def yJ6_bitCount_0f7a4 : MethodName := ⟨RJ6, "bitCount", "(I)I"⟩
def RJ9 : String := "java/lang/Math"
abbrev cJ9_max_7cf53 : ByteArray := prog_11_method_65_code
def yJ9_max_7cf53 : MethodName := ⟨RJ9, "max", "(II)I"⟩
abbrev cJ9_min_7cf53 : ByteArray := prog_11_method_69_code
def yJ9_min_7cf53 : MethodName := ⟨RJ9, "min", "(II)I"⟩
def RJ0 : String := "java/lang/String"
abbrev cJ0_length_8abf5 : ByteArray := prog_12_method_54_code
def yJ0_length_8abf5 : MethodName := ⟨RJ0, "length", "()I"⟩
abbrev cJ0_indexOf_0f7a4 : ByteArray := prog_12_method_79_code
def yJ0_indexOf_0f7a4 : MethodName := ⟨RJ0, "indexOf", "(I)I"⟩
abbrev cJ0_indexOf_7cf53 : ByteArray := prog_12_method_80_code
def yJ0_indexOf_7cf53 : MethodName := ⟨RJ0, "indexOf", "(II)I"⟩
abbrev cJ0_coder_7d493 : ByteArray := prog_12_method_152_code
def yJ0_coder_7d493 : MethodName := ⟨RJ0, "coder", "()B"⟩
abbrev cJ0_isLatin1_aae02 : ByteArray := prog_12_method_154_code
def yJ0_isLatin1_aae02 : MethodName := ⟨RJ0, "isLatin1", "()Z"⟩
abbrev cJ0_checkBoundsBeginEnd_23922 : ByteArray := prog_12_method_158_code
def yJ0_checkBoundsBeginEnd_23922 : MethodName := ⟨RJ0, "checkBoundsBeginEnd", "(III)V"⟩
def RJ1 : String := "java/lang/StringLatin1"
abbrev cJ1_canEncode_9a6ad : ByteArray := prog_13_method_4_code
def yJ1_canEncode_9a6ad : MethodName := ⟨RJ1, "canEncode", "(I)Z"⟩
abbrev cJ1_indexOf_4cfef : ByteArray := prog_13_method_22_code
def yJ1_indexOf_4cfef : MethodName := ⟨RJ1, "indexOf", "([BIII)I"⟩
abbrev cJ1_indexOfChar_4cfef : ByteArray := prog_13_method_23_code
def yJ1_indexOfChar_4cfef : MethodName := ⟨RJ1, "indexOfChar", "([BIII)I"⟩
def RJ2 : String := "java/lang/StringUTF16"
abbrev cJ2_getChar_3b067 : ByteArray := prog_14_method_5_code
def yJ2_getChar_3b067 : MethodName := ⟨RJ2, "getChar", "([BI)C"⟩
abbrev cJ2_length_9d52b : ByteArray := prog_14_method_6_code
def yJ2_length_9d52b : MethodName := ⟨RJ2, "length", "([B)I"⟩
abbrev cJ2_indexOf_4cfef : ByteArray := prog_14_method_40_code
def yJ2_indexOf_4cfef : MethodName := ⟨RJ2, "indexOf", "([BIII)I"⟩
abbrev cJ2_indexOfChar_4cfef : ByteArray := prog_14_method_47_code
def yJ2_indexOfChar_4cfef : MethodName := ⟨RJ2, "indexOfChar", "([BIII)I"⟩
abbrev cJ2_indexOfCharUnsafe_4cfef : ByteArray := prog_14_method_48_code
def yJ2_indexOfCharUnsafe_4cfef : MethodName := ⟨RJ2, "indexOfCharUnsafe", "([BIII)I"⟩
abbrev cJ2_indexOfSupplementary_4cfef : ByteArray := prog_14_method_49_code
def yJ2_indexOfSupplementary_4cfef : MethodName := ⟨RJ2, "indexOfSupplementary", "([BIII)I"⟩
abbrev cJ2_checkBoundsBeginEnd_d044e : ByteArray := prog_14_method_93_code
def yJ2_checkBoundsBeginEnd_d044e : MethodName := ⟨RJ2, "checkBoundsBeginEnd", "(II[B)V"⟩
def RJ10 : String := "java/lang/System"
def RJ3 : String := "jdk/internal/util/Preconditions"
abbrev cJ3_checkFromToIndex_8c36e : ByteArray := prog_16_method_12_code
def yJ3_checkFromToIndex_8c36e : MethodName := ⟨RJ3, "checkFromToIndex", "(IIILjava/util/function/BiFunction;)I"⟩
def RL : String := "SundayMarketLaw"
abbrev cL_law : ByteArray := code
def yL_law : MethodName := ⟨RL, "law", "([I)Z"⟩
abbrev vwCl : List vw_C := [(RX0, TX0, 6), (RX1, TX1, 2), (RX2, TX2, 3), (RX3, TX3, 3), (RX4, TX4, 5), (RX5, TX5, 8), (RX6, TX6, 19)]
