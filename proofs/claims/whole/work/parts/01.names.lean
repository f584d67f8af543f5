-- ===== PART A: goes FIRST, ahead of the names: the tables' words, and 'selects' of the private methods out of them =====
/-- a private method of a class that the tables say can be made, by its rows of tables_1 -/
def lw_okq (q : MethodName × Nat) : Prop := (q.1.cls ≠ "java/lang/invoke/MethodHandle" ∧ q.1.cls ≠ "java/lang/invoke/VarHandle") ∧ Cond.instantiable q.1.cls q.2 ∈ tables_1 ∧ Cond.privateMethod q.1 ∈ tables_1 ∧ Cond.instanceMethod q.1 ∈ tables_1
theorem lw_p0 : lw_okq (⟨"ColdRows$Placer", "freeAll", "(LColdRows$Hall;)V"⟩, 8) := ⟨⟨by decide +kernel, by decide +kernel⟩, List.mem_of_getElem? (i := 86) (by decide +kernel), List.mem_of_getElem? (i := 422) (by decide +kernel), List.mem_of_getElem? (i := 423) (by decide +kernel)⟩
theorem lw_p1 : lw_okq (⟨"ColdRows$Placer", "searchFrom", "(LColdRows$Hall;I)V"⟩, 8) := ⟨⟨by decide +kernel, by decide +kernel⟩, List.mem_of_getElem? (i := 86) (by decide +kernel), List.mem_of_getElem? (i := 427) (by decide +kernel), List.mem_of_getElem? (i := 428) (by decide +kernel)⟩
theorem lw_p2 : lw_okq (⟨"ColdRows$Placer", "greatest", "(LColdRows$Hall;I)I"⟩, 8) := ⟨⟨by decide +kernel, by decide +kernel⟩, List.mem_of_getElem? (i := 86) (by decide +kernel), List.mem_of_getElem? (i := 431) (by decide +kernel), List.mem_of_getElem? (i := 432) (by decide +kernel)⟩
theorem lw_p3 : lw_okq (⟨"ColdRows$Placer", "giveOff", "(LColdRows$Hall;II)V"⟩, 8) := ⟨⟨by decide +kernel, by decide +kernel⟩, List.mem_of_getElem? (i := 86) (by decide +kernel), List.mem_of_getElem? (i := 442) (by decide +kernel), List.mem_of_getElem? (i := 443) (by decide +kernel)⟩
theorem lw_p4 : lw_okq (⟨"ColdRows$Placer", "countFrom", "(LColdRows$Hall;I)I"⟩, 8) := ⟨⟨by decide +kernel, by decide +kernel⟩, List.mem_of_getElem? (i := 86) (by decide +kernel), List.mem_of_getElem? (i := 458) (by decide +kernel), List.mem_of_getElem? (i := 459) (by decide +kernel)⟩
theorem lw_p5 : lw_okq (⟨"ColdRows$Feeds", "drawFor", "(III)V"⟩, 6) := ⟨⟨by decide +kernel, by decide +kernel⟩, List.mem_of_getElem? (i := 144) (by decide +kernel), List.mem_of_getElem? (i := 497) (by decide +kernel), List.mem_of_getElem? (i := 498) (by decide +kernel)⟩
theorem lw_p6 : lw_okq (⟨"ColdRows$Feeds", "gives", "(II)Z"⟩, 6) := ⟨⟨by decide +kernel, by decide +kernel⟩, List.mem_of_getElem? (i := 144) (by decide +kernel), List.mem_of_getElem? (i := 501) (by decide +kernel), List.mem_of_getElem? (i := 502) (by decide +kernel)⟩
theorem lw_p7 : lw_okq (⟨"ColdRows$Meters", "inferOnce", "()Z"⟩, 6) := ⟨⟨by decide +kernel, by decide +kernel⟩, List.mem_of_getElem? (i := 193) (by decide +kernel), List.mem_of_getElem? (i := 609) (by decide +kernel), List.mem_of_getElem? (i := 610) (by decide +kernel)⟩
theorem lw_p8 : lw_okq (⟨"ColdRows$Meters", "inferFromBelow", "(I)Z"⟩, 6) := ⟨⟨by decide +kernel, by decide +kernel⟩, List.mem_of_getElem? (i := 193) (by decide +kernel), List.mem_of_getElem? (i := 613) (by decide +kernel), List.mem_of_getElem? (i := 614) (by decide +kernel)⟩
theorem lw_p9 : lw_okq (⟨"ColdRows$Meters", "hasUnder", "(I)Z"⟩, 6) := ⟨⟨by decide +kernel, by decide +kernel⟩, List.mem_of_getElem? (i := 193) (by decide +kernel), List.mem_of_getElem? (i := 617) (by decide +kernel), List.mem_of_getElem? (i := 618) (by decide +kernel)⟩
theorem lw_p10 : lw_okq (⟨"ColdRows$Meters", "allKnownUnder", "(II)Z"⟩, 6) := ⟨⟨by decide +kernel, by decide +kernel⟩, List.mem_of_getElem? (i := 193) (by decide +kernel), List.mem_of_getElem? (i := 621) (by decide +kernel), List.mem_of_getElem? (i := 622) (by decide +kernel)⟩
theorem lw_p11 : lw_okq (⟨"ColdRows$Meters", "sumUnder", "(II)I"⟩, 6) := ⟨⟨by decide +kernel, by decide +kernel⟩, List.mem_of_getElem? (i := 193) (by decide +kernel), List.mem_of_getElem? (i := 625) (by decide +kernel), List.mem_of_getElem? (i := 626) (by decide +kernel)⟩
theorem lw_p12 : lw_okq (⟨"ColdRows$Meters", "inferFromAbove", "(I)Z"⟩, 6) := ⟨⟨by decide +kernel, by decide +kernel⟩, List.mem_of_getElem? (i := 193) (by decide +kernel), List.mem_of_getElem? (i := 629) (by decide +kernel), List.mem_of_getElem? (i := 630) (by decide +kernel)⟩
theorem lw_p13 : lw_okq (⟨"ColdRowsModel", "isRack", "(I)Z"⟩, 38) := ⟨⟨by decide +kernel, by decide +kernel⟩, List.mem_of_getElem? (i := 651) (by decide +kernel), List.mem_of_getElem? (i := 787) (by decide +kernel), List.mem_of_getElem? (i := 788) (by decide +kernel)⟩
theorem lw_p14 : lw_okq (⟨"ColdRowsModel", "clearAdded", "()V"⟩, 38) := ⟨⟨by decide +kernel, by decide +kernel⟩, List.mem_of_getElem? (i := 651) (by decide +kernel), List.mem_of_getElem? (i := 826) (by decide +kernel), List.mem_of_getElem? (i := 827) (by decide +kernel)⟩
theorem lw_p15 : lw_okq (⟨"ColdRowsModel", "comes", "(III)I"⟩, 38) := ⟨⟨by decide +kernel, by decide +kernel⟩, List.mem_of_getElem? (i := 651) (by decide +kernel), List.mem_of_getElem? (i := 830) (by decide +kernel), List.mem_of_getElem? (i := 831) (by decide +kernel)⟩
def lw_privs_1 : List (MethodName × Nat) := [(⟨"ColdRows$Placer", "freeAll", "(LColdRows$Hall;)V"⟩, 8), (⟨"ColdRows$Placer", "searchFrom", "(LColdRows$Hall;I)V"⟩, 8), (⟨"ColdRows$Placer", "greatest", "(LColdRows$Hall;I)I"⟩, 8), (⟨"ColdRows$Placer", "giveOff", "(LColdRows$Hall;II)V"⟩, 8), (⟨"ColdRows$Placer", "countFrom", "(LColdRows$Hall;I)I"⟩, 8), (⟨"ColdRows$Feeds", "drawFor", "(III)V"⟩, 6), (⟨"ColdRows$Feeds", "gives", "(II)Z"⟩, 6), (⟨"ColdRows$Meters", "inferOnce", "()Z"⟩, 6), (⟨"ColdRows$Meters", "inferFromBelow", "(I)Z"⟩, 6), (⟨"ColdRows$Meters", "hasUnder", "(I)Z"⟩, 6), (⟨"ColdRows$Meters", "allKnownUnder", "(II)Z"⟩, 6), (⟨"ColdRows$Meters", "sumUnder", "(II)I"⟩, 6), (⟨"ColdRows$Meters", "inferFromAbove", "(I)Z"⟩, 6), (⟨"ColdRowsModel", "isRack", "(I)Z"⟩, 38), (⟨"ColdRowsModel", "clearAdded", "()V"⟩, 38), (⟨"ColdRowsModel", "comes", "(III)I"⟩, 38)]
theorem lw_r1 : ∀ q ∈ lw_privs_1, lw_okq q := List.forall_mem_cons.mpr ⟨lw_p0, List.forall_mem_cons.mpr ⟨lw_p1, List.forall_mem_cons.mpr ⟨lw_p2, List.forall_mem_cons.mpr ⟨lw_p3, List.forall_mem_cons.mpr ⟨lw_p4, List.forall_mem_cons.mpr ⟨lw_p5, List.forall_mem_cons.mpr ⟨lw_p6, List.forall_mem_cons.mpr ⟨lw_p7, List.forall_mem_cons.mpr ⟨lw_p8, List.forall_mem_cons.mpr ⟨lw_p9, List.forall_mem_cons.mpr ⟨lw_p10, List.forall_mem_cons.mpr ⟨lw_p11, List.forall_mem_cons.mpr ⟨lw_p12, List.forall_mem_cons.mpr ⟨lw_p13, List.forall_mem_cons.mpr ⟨lw_p14, List.forall_mem_cons.mpr ⟨lw_p15, fun _ h => absurd h List.not_mem_nil⟩⟩⟩⟩⟩⟩⟩⟩⟩⟩⟩⟩⟩⟩⟩⟩
theorem lw_p16 : lw_okq (⟨"ColdRowsModel", "hots", "(II)I"⟩, 38) := ⟨⟨by decide +kernel, by decide +kernel⟩, List.mem_of_getElem? (i := 651) (by decide +kernel), List.mem_of_getElem? (i := 838) (by decide +kernel), List.mem_of_getElem? (i := 839) (by decide +kernel)⟩
theorem lw_p17 : lw_okq (⟨"ColdRowsModel", "powerOf", "(II)I"⟩, 38) := ⟨⟨by decide +kernel, by decide +kernel⟩, List.mem_of_getElem? (i := 651) (by decide +kernel), List.mem_of_getElem? (i := 846) (by decide +kernel), List.mem_of_getElem? (i := 847) (by decide +kernel)⟩
theorem lw_p18 : lw_okq (⟨"ColdRowsModel", "tryAll", "()V"⟩, 38) := ⟨⟨by decide +kernel, by decide +kernel⟩, List.mem_of_getElem? (i := 651) (by decide +kernel), List.mem_of_getElem? (i := 871) (by decide +kernel), List.mem_of_getElem? (i := 872) (by decide +kernel)⟩
theorem lw_p19 : lw_okq (⟨"ColdRowsModel", "tryRow", "()V"⟩, 38) := ⟨⟨by decide +kernel, by decide +kernel⟩, List.mem_of_getElem? (i := 651) (by decide +kernel), List.mem_of_getElem? (i := 875) (by decide +kernel), List.mem_of_getElem? (i := 876) (by decide +kernel)⟩
theorem lw_p20 : lw_okq (⟨"ColdRowsModel", "isFeed", "(I)Z"⟩, 38) := ⟨⟨by decide +kernel, by decide +kernel⟩, List.mem_of_getElem? (i := 651) (by decide +kernel), List.mem_of_getElem? (i := 895) (by decide +kernel), List.mem_of_getElem? (i := 896) (by decide +kernel)⟩
theorem lw_p21 : lw_okq (⟨"ColdRowsModel", "goes", "(I)I"⟩, 38) := ⟨⟨by decide +kernel, by decide +kernel⟩, List.mem_of_getElem? (i := 651) (by decide +kernel), List.mem_of_getElem? (i := 907) (by decide +kernel), List.mem_of_getElem? (i := 908) (by decide +kernel)⟩
theorem lw_p22 : lw_okq (⟨"ColdRowsModel", "isDead", "(I)Z"⟩, 38) := ⟨⟨by decide +kernel, by decide +kernel⟩, List.mem_of_getElem? (i := 651) (by decide +kernel), List.mem_of_getElem? (i := 911) (by decide +kernel), List.mem_of_getElem? (i := 912) (by decide +kernel)⟩
theorem lw_p23 : lw_okq (⟨"ColdRowsModel", "isUnder", "(II)Z"⟩, 38) := ⟨⟨by decide +kernel, by decide +kernel⟩, List.mem_of_getElem? (i := 651) (by decide +kernel), List.mem_of_getElem? (i := 915) (by decide +kernel), List.mem_of_getElem? (i := 916) (by decide +kernel)⟩
theorem lw_p24 : lw_okq (⟨"ColdRowsModel", "drawn", "(II)I"⟩, 38) := ⟨⟨by decide +kernel, by decide +kernel⟩, List.mem_of_getElem? (i := 651) (by decide +kernel), List.mem_of_getElem? (i := 919) (by decide +kernel), List.mem_of_getElem? (i := 920) (by decide +kernel)⟩
theorem lw_p25 : lw_okq (⟨"ColdRowsModel", "lives", "(II)Z"⟩, 38) := ⟨⟨by decide +kernel, by decide +kernel⟩, List.mem_of_getElem? (i := 651) (by decide +kernel), List.mem_of_getElem? (i := 923) (by decide +kernel), List.mem_of_getElem? (i := 924) (by decide +kernel)⟩
theorem lw_p26 : lw_okq (⟨"ColdRowsModel", "isDark", "(I)Z"⟩, 38) := ⟨⟨by decide +kernel, by decide +kernel⟩, List.mem_of_getElem? (i := 651) (by decide +kernel), List.mem_of_getElem? (i := 932) (by decide +kernel), List.mem_of_getElem? (i := 933) (by decide +kernel)⟩
theorem lw_p27 : lw_okq (⟨"ColdRowsModel", "isMeter", "(I)Z"⟩, 38) := ⟨⟨by decide +kernel, by decide +kernel⟩, List.mem_of_getElem? (i := 651) (by decide +kernel), List.mem_of_getElem? (i := 965) (by decide +kernel), List.mem_of_getElem? (i := 966) (by decide +kernel)⟩
theorem lw_p28 : lw_okq (⟨"ColdRowsModel", "know", "()V"⟩, 38) := ⟨⟨by decide +kernel, by decide +kernel⟩, List.mem_of_getElem? (i := 651) (by decide +kernel), List.mem_of_getElem? (i := 979) (by decide +kernel), List.mem_of_getElem? (i := 980) (by decide +kernel)⟩
theorem lw_p29 : lw_okq (⟨"ColdRowsModel", "areKnown", "(III)Z"⟩, 38) := ⟨⟨by decide +kernel, by decide +kernel⟩, List.mem_of_getElem? (i := 651) (by decide +kernel), List.mem_of_getElem? (i := 983) (by decide +kernel), List.mem_of_getElem? (i := 984) (by decide +kernel)⟩
def lw_privs_2 : List (MethodName × Nat) := [(⟨"ColdRowsModel", "hots", "(II)I"⟩, 38), (⟨"ColdRowsModel", "powerOf", "(II)I"⟩, 38), (⟨"ColdRowsModel", "tryAll", "()V"⟩, 38), (⟨"ColdRowsModel", "tryRow", "()V"⟩, 38), (⟨"ColdRowsModel", "isFeed", "(I)Z"⟩, 38), (⟨"ColdRowsModel", "goes", "(I)I"⟩, 38), (⟨"ColdRowsModel", "isDead", "(I)Z"⟩, 38), (⟨"ColdRowsModel", "isUnder", "(II)Z"⟩, 38), (⟨"ColdRowsModel", "drawn", "(II)I"⟩, 38), (⟨"ColdRowsModel", "lives", "(II)Z"⟩, 38), (⟨"ColdRowsModel", "isDark", "(I)Z"⟩, 38), (⟨"ColdRowsModel", "isMeter", "(I)Z"⟩, 38), (⟨"ColdRowsModel", "know", "()V"⟩, 38), (⟨"ColdRowsModel", "areKnown", "(III)Z"⟩, 38)]
theorem lw_r2 : ∀ q ∈ lw_privs_2, lw_okq q := List.forall_mem_cons.mpr ⟨lw_p16, List.forall_mem_cons.mpr ⟨lw_p17, List.forall_mem_cons.mpr ⟨lw_p18, List.forall_mem_cons.mpr ⟨lw_p19, List.forall_mem_cons.mpr ⟨lw_p20, List.forall_mem_cons.mpr ⟨lw_p21, List.forall_mem_cons.mpr ⟨lw_p22, List.forall_mem_cons.mpr ⟨lw_p23, List.forall_mem_cons.mpr ⟨lw_p24, List.forall_mem_cons.mpr ⟨lw_p25, List.forall_mem_cons.mpr ⟨lw_p26, List.forall_mem_cons.mpr ⟨lw_p27, List.forall_mem_cons.mpr ⟨lw_p28, List.forall_mem_cons.mpr ⟨lw_p29, fun _ h => absurd h List.not_mem_nil⟩⟩⟩⟩⟩⟩⟩⟩⟩⟩⟩⟩⟩⟩
def lw_privs : List (MethodName × Nat) := lw_privs_1 ++ (lw_privs_2)
def lw_tbl : List Cond := k2_sels lw_privs ++ tables_1
theorem lw_privs_ok : ∀ q ∈ lw_privs, lw_okq q := by
  show ∀ q ∈ lw_privs_1 ++ (lw_privs_2), lw_okq q
  exact List.forall_mem_append.mpr ⟨lw_r1, lw_r2⟩



/-! ===== BEGIN printed: names, fields, word lists, decode rows ===== -/
def RX0 : String := "ColdRows$Alarms"
def TX0 : u_T := fun k => match k with
  | 0 => ("ColdRows$Alarms", "makes", "[I", true)
  | 1 => ("ColdRows$Alarms", "causes", "I", false)
  | _ => ("ColdRows$Alarms", "visible", "I", false)
def tyX0 : Nat → FieldType := fun k => match k with
  | 0 => .array .int
  | 1 => .int
  | _ => .int
theorem nmX0 : ∀ a, a < 3 → ∀ b, b < 3 → a ≠ b → (TX0 a).2.1 ≠ (TX0 b).2.1 := by decide +kernel
theorem tyX0_ok : ∀ k, k < 3 → parseFieldDescriptor (TX0 k).2.2.1 = some (tyX0 k) := by decide +kernel
abbrev cX0_init : ByteArray := prog_2_method_1_code
def yX0_init : MethodName := ⟨RX0, "<init>", "()V"⟩
abbrev cX0_add : ByteArray := prog_2_method_2_code
def yX0_add : MethodName := ⟨RX0, "add", "(I)I"⟩
abbrev cX0_likely : ByteArray := prog_2_method_3_code
def yX0_likely : MethodName := ⟨RX0, "likely", "()I"⟩
abbrev cX0_madeBy : ByteArray := prog_2_method_4_code
def yX0_madeBy : MethodName := ⟨RX0, "madeBy", "(I)I"⟩
abbrev cX0_fewest : ByteArray := prog_2_method_5_code
def yX0_fewest : MethodName := ⟨RX0, "fewest", "()I"⟩
def RX1 : String := "ColdRows$Feeds"
def TX1 : u_T := fun k => match k with
  | 0 => ("ColdRows$Feeds", "aboves", "[I", true)
  | 1 => ("ColdRows$Feeds", "rooms", "[I", true)
  | 2 => ("ColdRows$Feeds", "plugs", "[[I", true)
  | 3 => ("ColdRows$Feeds", "flows", "[I", true)
  | 4 => ("ColdRows$Feeds", "feeds", "I", false)
  | _ => ("ColdRows$Feeds", "failed", "I", false)
def tyX1 : Nat → FieldType := fun k => match k with
  | 0 => .array .int
  | 1 => .array .int
  | 2 => .array (.array .int)
  | 3 => .array .int
  | 4 => .int
  | _ => .int
theorem nmX1 : ∀ a, a < 6 → ∀ b, b < 6 → a ≠ b → (TX1 a).2.1 ≠ (TX1 b).2.1 := by decide +kernel
theorem tyX1_ok : ∀ k, k < 6 → parseFieldDescriptor (TX1 k).2.2.1 = some (tyX1 k) := by decide +kernel
abbrev cX1_init : ByteArray := prog_3_method_1_code
def yX1_init : MethodName := ⟨RX1, "<init>", "()V"⟩
abbrev cX1_has : ByteArray := prog_3_method_2_code
def yX1_has : MethodName := ⟨RX1, "has", "(I)Z"⟩
abbrev cX1_add : ByteArray := prog_3_method_3_code
def yX1_add : MethodName := ⟨RX1, "add", "(II)I"⟩
abbrev cX1_isIn : ByteArray := prog_3_method_4_code
def yX1_isIn : MethodName := ⟨RX1, "isIn", "(II)Z"⟩
abbrev cX1_dead : ByteArray := prog_3_method_5_code
def yX1_dead : MethodName := ⟨RX1, "dead", "(I)I"⟩
abbrev cX1_gives : ByteArray := prog_3_method_6_code
def yX1_gives : MethodName := ⟨RX1, "gives", "(II)Z"⟩
abbrev cX1_flow : ByteArray := prog_3_method_7_code
def yX1_flow : MethodName := ⟨RX1, "flow", "(ILColdRows$Hall;)V"⟩
abbrev cX1_drawFor : ByteArray := prog_3_method_8_code
def yX1_drawFor : MethodName := ⟨RX1, "drawFor", "(III)V"⟩
abbrev cX1_over : ByteArray := prog_3_method_9_code
def yX1_over : MethodName := ⟨RX1, "over", "(ILColdRows$Hall;)I"⟩
abbrev cX1_dark : ByteArray := prog_3_method_10_code
def yX1_dark : MethodName := ⟨RX1, "dark", "(ILColdRows$Hall;)I"⟩
abbrev cX1_firstWeak : ByteArray := prog_3_method_11_code
def yX1_firstWeak : MethodName := ⟨RX1, "firstWeak", "(LColdRows$Hall;)I"⟩
def RX2 : String := "ColdRows$Hall"
def TX2 : u_T := fun k => match k with
  | 0 => ("ColdRows$Hall", "loads", "[I", true)
  | 1 => ("ColdRows$Hall", "limits", "[I", true)
  | 2 => ("ColdRows$Hall", "masses", "[I", true)
  | 3 => ("ColdRows$Hall", "places", "[I", true)
  | 4 => ("ColdRows$Hall", "shares", "[[I", true)
  | 5 => ("ColdRows$Hall", "racks", "I", false)
  | 6 => ("ColdRows$Hall", "air", "I", false)
  | _ => ("ColdRows$Hall", "fan", "I", false)
def tyX2 : Nat → FieldType := fun k => match k with
  | 0 => .array .int
  | 1 => .array .int
  | 2 => .array .int
  | 3 => .array .int
  | 4 => .array (.array .int)
  | 5 => .int
  | 6 => .int
  | _ => .int
theorem nmX2 : ∀ a, a < 8 → ∀ b, b < 8 → a ≠ b → (TX2 a).2.1 ≠ (TX2 b).2.1 := by decide +kernel
theorem tyX2_ok : ∀ k, k < 8 → parseFieldDescriptor (TX2 k).2.2.1 = some (tyX2 k) := by decide +kernel
abbrev cX2_init : ByteArray := prog_4_method_1_code
def yX2_init : MethodName := ⟨RX2, "<init>", "()V"⟩
abbrev cX2_has : ByteArray := prog_4_method_2_code
def yX2_has : MethodName := ⟨RX2, "has", "(I)Z"⟩
abbrev cX2_add : ByteArray := prog_4_method_3_code
def yX2_add : MethodName := ⟨RX2, "add", "(IIII)I"⟩
abbrev cX2_takeShares : ByteArray := prog_4_method_4_code
def yX2_takeShares : MethodName := ⟨RX2, "takeShares", "([JI)V"⟩
abbrev cX2_allLoads : ByteArray := prog_4_method_5_code
def yX2_allLoads : MethodName := ⟨RX2, "allLoads", "()I"⟩
abbrev cX2_givenAt : ByteArray := prog_4_method_6_code
def yX2_givenAt : MethodName := ⟨RX2, "givenAt", "(I)I"⟩
abbrev cX2_warmth : ByteArray := prog_4_method_7_code
def yX2_warmth : MethodName := ⟨RX2, "warmth", "(III)I"⟩
abbrev cX2_margin : ByteArray := prog_4_method_8_code
def yX2_margin : MethodName := ⟨RX2, "margin", "(I)I"⟩
abbrev cX2_countHot : ByteArray := prog_4_method_9_code
def yX2_countHot : MethodName := ⟨RX2, "countHot", "()I"⟩
abbrev cX2_firstHot : ByteArray := prog_4_method_10_code
def yX2_firstHot : MethodName := ⟨RX2, "firstHot", "(II)I"⟩
abbrev cX2_nearestToLimit : ByteArray := prog_4_method_11_code
def yX2_nearestToLimit : MethodName := ⟨RX2, "nearestToLimit", "()I"⟩
def RX3 : String := "ColdRows$Meters"
def TX3 : u_T := fun k => match k with
  | 0 => ("ColdRows$Meters", "aboves", "[I", true)
  | 1 => ("ColdRows$Meters", "isRead", "[Z", true)
  | 2 => ("ColdRows$Meters", "readings", "[I", true)
  | 3 => ("ColdRows$Meters", "isKnown", "[Z", true)
  | 4 => ("ColdRows$Meters", "numbers", "[I", true)
  | _ => ("ColdRows$Meters", "meters", "I", false)
def tyX3 : Nat → FieldType := fun k => match k with
  | 0 => .array .int
  | 1 => .array .boolean
  | 2 => .array .int
  | 3 => .array .boolean
  | 4 => .array .int
  | _ => .int
theorem nmX3 : ∀ a, a < 6 → ∀ b, b < 6 → a ≠ b → (TX3 a).2.1 ≠ (TX3 b).2.1 := by decide +kernel
theorem tyX3_ok : ∀ k, k < 6 → parseFieldDescriptor (TX3 k).2.2.1 = some (tyX3 k) := by decide +kernel
abbrev cX3_init : ByteArray := prog_5_method_1_code
def yX3_init : MethodName := ⟨RX3, "<init>", "()V"⟩
abbrev cX3_has : ByteArray := prog_5_method_2_code
def yX3_has : MethodName := ⟨RX3, "has", "(I)Z"⟩
abbrev cX3_add : ByteArray := prog_5_method_3_code
def yX3_add : MethodName := ⟨RX3, "add", "(I)I"⟩
abbrev cX3_infer : ByteArray := prog_5_method_4_code
def yX3_infer : MethodName := ⟨RX3, "infer", "()V"⟩
abbrev cX3_inferOnce : ByteArray := prog_5_method_5_code
def yX3_inferOnce : MethodName := ⟨RX3, "inferOnce", "()Z"⟩
abbrev cX3_inferFromBelow : ByteArray := prog_5_method_6_code
def yX3_inferFromBelow : MethodName := ⟨RX3, "inferFromBelow", "(I)Z"⟩
abbrev cX3_inferFromAbove : ByteArray := prog_5_method_7_code
def yX3_inferFromAbove : MethodName := ⟨RX3, "inferFromAbove", "(I)Z"⟩
abbrev cX3_hasUnder : ByteArray := prog_5_method_8_code
def yX3_hasUnder : MethodName := ⟨RX3, "hasUnder", "(I)Z"⟩
abbrev cX3_allKnownUnder : ByteArray := prog_5_method_9_code
def yX3_allKnownUnder : MethodName := ⟨RX3, "allKnownUnder", "(II)Z"⟩
abbrev cX3_sumUnder : ByteArray := prog_5_method_10_code
def yX3_sumUnder : MethodName := ⟨RX3, "sumUnder", "(II)I"⟩
abbrev cX3_isAtOdds : ByteArray := prog_5_method_11_code
def yX3_isAtOdds : MethodName := ⟨RX3, "isAtOdds", "(I)Z"⟩
abbrev cX3_countKnown : ByteArray := prog_5_method_12_code
def yX3_countKnown : MethodName := ⟨RX3, "countKnown", "()I"⟩
def RX4 : String := "ColdRows$Placer"
def TX4 : u_T := fun k => match k with
  | 0 => ("ColdRows$Placer", "loads", "[I", true)
  | 1 => ("ColdRows$Placer", "places", "[I", true)
  | 2 => ("ColdRows$Placer", "machines", "I", false)
  | 3 => ("ColdRows$Placer", "best", "[I", true)
  | 4 => ("ColdRows$Placer", "chosen", "[I", true)
  | 5 => ("ColdRows$Placer", "free", "[I", true)
  | 6 => ("ColdRows$Placer", "given", "[[I", true)
  | _ => ("ColdRows$Placer", "least", "I", false)
def tyX4 : Nat → FieldType := fun k => match k with
  | 0 => .array .int
  | 1 => .array .int
  | 2 => .int
  | 3 => .array .int
  | 4 => .array .int
  | 5 => .array .int
  | 6 => .array (.array .int)
  | _ => .int
theorem nmX4 : ∀ a, a < 8 → ∀ b, b < 8 → a ≠ b → (TX4 a).2.1 ≠ (TX4 b).2.1 := by decide +kernel
theorem tyX4_ok : ∀ k, k < 8 → parseFieldDescriptor (TX4 k).2.2.1 = some (tyX4 k) := by decide +kernel
abbrev cX4_init : ByteArray := prog_6_method_1_code
def yX4_init : MethodName := ⟨RX4, "<init>", "()V"⟩
abbrev cX4_add : ByteArray := prog_6_method_2_code
def yX4_add : MethodName := ⟨RX4, "add", "(II)I"⟩
abbrev cX4_countAll : ByteArray := prog_6_method_3_code
def yX4_countAll : MethodName := ⟨RX4, "countAll", "(LColdRows$Hall;)I"⟩
abbrev cX4_leastWarmth : ByteArray := prog_6_method_4_code
def yX4_leastWarmth : MethodName := ⟨RX4, "leastWarmth", "(LColdRows$Hall;)I"⟩
abbrev cX4_freeAll : ByteArray := prog_6_method_5_code
def yX4_freeAll : MethodName := ⟨RX4, "freeAll", "(LColdRows$Hall;)V"⟩
abbrev cX4_countFrom : ByteArray := prog_6_method_6_code
def yX4_countFrom : MethodName := ⟨RX4, "countFrom", "(LColdRows$Hall;I)I"⟩
abbrev cX4_searchFrom : ByteArray := prog_6_method_7_code
def yX4_searchFrom : MethodName := ⟨RX4, "searchFrom", "(LColdRows$Hall;I)V"⟩
abbrev cX4_giveOff : ByteArray := prog_6_method_8_code
def yX4_giveOff : MethodName := ⟨RX4, "giveOff", "(LColdRows$Hall;II)V"⟩
abbrev cX4_greatest : ByteArray := prog_6_method_9_code
def yX4_greatest : MethodName := ⟨RX4, "greatest", "(LColdRows$Hall;I)I"⟩
def RX5 : String := "ColdRows$Prices"
def TX5 : u_T := fun k => match k with
  | 0 => ("ColdRows$Prices", "ofAir", "[I", true)
  | _ => ("ColdRows$Prices", "weight", "I", false)
def tyX5 : Nat → FieldType := fun k => match k with
  | 0 => .array .int
  | _ => .int
theorem nmX5 : ∀ a, a < 2 → ∀ b, b < 2 → a ≠ b → (TX5 a).2.1 ≠ (TX5 b).2.1 := by decide +kernel
theorem tyX5_ok : ∀ k, k < 2 → parseFieldDescriptor (TX5 k).2.2.1 = some (tyX5 k) := by decide +kernel
abbrev cX5_init : ByteArray := prog_7_method_1_code
def yX5_init : MethodName := ⟨RX5, "<init>", "()V"⟩
abbrev cX5_changeWeight : ByteArray := prog_7_method_2_code
def yX5_changeWeight : MethodName := ⟨RX5, "changeWeight", "(I)I"⟩
abbrev cX5_changeAir : ByteArray := prog_7_method_3_code
def yX5_changeAir : MethodName := ⟨RX5, "changeAir", "(II)I"⟩
abbrev cX5_powerOf : ByteArray := prog_7_method_4_code
def yX5_powerOf : MethodName := ⟨RX5, "powerOf", "(III)I"⟩
def RX6 : String := "ColdRows$Sheets"
def TX6 : u_T := fun k => match k with
  | 0 => ("ColdRows$Sheets", "cells", "[[J", true)
  | 1 => ("ColdRows$Sheets", "lanes", "[I", true)
  | _ => ("ColdRows$Sheets", "sizes", "[I", true)
def tyX6 : Nat → FieldType := fun k => match k with
  | 0 => .array (.array .long)
  | 1 => .array .int
  | _ => .array .int
theorem nmX6 : ∀ a, a < 3 → ∀ b, b < 3 → a ≠ b → (TX6 a).2.1 ≠ (TX6 b).2.1 := by decide +kernel
theorem tyX6_ok : ∀ k, k < 3 → parseFieldDescriptor (TX6 k).2.2.1 = some (tyX6 k) := by decide +kernel
abbrev cX6_init : ByteArray := prog_8_method_1_code
def yX6_init : MethodName := ⟨RX6, "<init>", "()V"⟩
abbrev cX6_has : ByteArray := prog_8_method_2_code
def yX6_has : MethodName := ⟨RX6, "has", "(I)Z"⟩
abbrev cX6_isNothing : ByteArray := prog_8_method_3_code
def yX6_isNothing : MethodName := ⟨RX6, "isNothing", "(I)Z"⟩
abbrev cX6_hasCell : ByteArray := prog_8_method_4_code
def yX6_hasCell : MethodName := ⟨RX6, "hasCell", "(II)Z"⟩
abbrev cX6_renew : ByteArray := prog_8_method_5_code
def yX6_renew : MethodName := ⟨RX6, "renew", "(III)V"⟩
abbrev cX6_refusal : ByteArray := prog_8_method_6_code
def yX6_refusal : MethodName := ⟨RX6, "refusal", "(III)I"⟩
def RX7 : String := "ColdRows"
def TX7 : u_T := fun k => match k with
  | 0 => ("ColdRows", "hall", "LColdRows$Hall;", true)
  | 1 => ("ColdRows", "prices", "LColdRows$Prices;", true)
  | 2 => ("ColdRows", "placer", "LColdRows$Placer;", true)
  | 3 => ("ColdRows", "sheets", "LColdRows$Sheets;", true)
  | 4 => ("ColdRows", "feeds", "LColdRows$Feeds;", true)
  | 5 => ("ColdRows", "alarms", "LColdRows$Alarms;", true)
  | _ => ("ColdRows", "meters", "LColdRows$Meters;", true)
def tyX7 : Nat → FieldType := fun k => match k with
  | 0 => .object "ColdRows$Hall"
  | 1 => .object "ColdRows$Prices"
  | 2 => .object "ColdRows$Placer"
  | 3 => .object "ColdRows$Sheets"
  | 4 => .object "ColdRows$Feeds"
  | 5 => .object "ColdRows$Alarms"
  | _ => .object "ColdRows$Meters"
theorem nmX7 : ∀ a, a < 7 → ∀ b, b < 7 → a ≠ b → (TX7 a).2.1 ≠ (TX7 b).2.1 := by decide +kernel
theorem tyX7_ok : ∀ k, k < 7 → parseFieldDescriptor (TX7 k).2.2.1 = some (tyX7 k) := by decide +kernel
abbrev cX7_init : ByteArray := prog_1_method_1_code
def yX7_init : MethodName := ⟨RX7, "<init>", "()V"⟩
abbrev cX7_rack : ByteArray := prog_1_method_2_code
def yX7_rack : MethodName := ⟨RX7, "rack", "(IIII)I"⟩
abbrev cX7_load : ByteArray := prog_1_method_3_code
def yX7_load : MethodName := ⟨RX7, "load", "(II)I"⟩
abbrev cX7_share : ByteArray := prog_1_method_4_code
def yX7_share : MethodName := ⟨RX7, "share", "(III)I"⟩
abbrev cX7_sheet : ByteArray := prog_1_method_5_code
def yX7_sheet : MethodName := ⟨RX7, "sheet", "(III)I"⟩
abbrev cX7_lay : ByteArray := prog_1_method_6_code
def yX7_lay : MethodName := ⟨RX7, "lay", "(IIJ)I"⟩
abbrev cX7_draw : ByteArray := prog_1_method_7_code
def yX7_draw : MethodName := ⟨RX7, "draw", "(III)I"⟩
abbrev cX7_set : ByteArray := prog_1_method_8_code
def yX7_set : MethodName := ⟨RX7, "set", "(II)I"⟩
abbrev cX7_price : ByteArray := prog_1_method_9_code
def yX7_price : MethodName := ⟨RX7, "price", "(II)I"⟩
abbrev cX7_into : ByteArray := prog_1_method_10_code
def yX7_into : MethodName := ⟨RX7, "into", "(I)I"⟩
abbrev cX7_hot : ByteArray := prog_1_method_11_code
def yX7_hot : MethodName := ⟨RX7, "hot", "(I)I"⟩
abbrev cX7_power : ByteArray := prog_1_method_12_code
def yX7_power : MethodName := ⟨RX7, "power", "(II)I"⟩
abbrev cX7_best : ByteArray := prog_1_method_13_code
def yX7_best : MethodName := ⟨RX7, "best", "()I"⟩
abbrev cX7_minutes : ByteArray := prog_1_method_14_code
def yX7_minutes : MethodName := ⟨RX7, "minutes", "(I)I"⟩
abbrev cX7_machine : ByteArray := prog_1_method_15_code
def yX7_machine : MethodName := ⟨RX7, "machine", "(II)I"⟩
abbrev cX7_leave : ByteArray := prog_1_method_16_code
def yX7_leave : MethodName := ⟨RX7, "leave", "()I"⟩
abbrev cX7_placed : ByteArray := prog_1_method_17_code
def yX7_placed : MethodName := ⟨RX7, "placed", "(I)I"⟩
abbrev cX7_warmest : ByteArray := prog_1_method_18_code
def yX7_warmest : MethodName := ⟨RX7, "warmest", "()I"⟩
abbrev cX7_placings : ByteArray := prog_1_method_19_code
def yX7_placings : MethodName := ⟨RX7, "placings", "()I"⟩
abbrev cX7_feed : ByteArray := prog_1_method_20_code
def yX7_feed : MethodName := ⟨RX7, "feed", "(II)I"⟩
abbrev cX7_plug : ByteArray := prog_1_method_21_code
def yX7_plug : MethodName := ⟨RX7, "plug", "(III)I"⟩
abbrev cX7_fail : ByteArray := prog_1_method_22_code
def yX7_fail : MethodName := ⟨RX7, "fail", "(IZ)I"⟩
abbrev cX7_through : ByteArray := prog_1_method_23_code
def yX7_through : MethodName := ⟨RX7, "through", "(I)I"⟩
abbrev cX7_state : ByteArray := prog_1_method_24_code
def yX7_state : MethodName := ⟨RX7, "state", "(I)I"⟩
abbrev cX7_weak : ByteArray := prog_1_method_25_code
def yX7_weak : MethodName := ⟨RX7, "weak", "()I"⟩
abbrev cX7_cause : ByteArray := prog_1_method_26_code
def yX7_cause : MethodName := ⟨RX7, "cause", "(I)I"⟩
abbrev cX7_seen : ByteArray := prog_1_method_27_code
def yX7_seen : MethodName := ⟨RX7, "seen", "(I)I"⟩
abbrev cX7_roots : ByteArray := prog_1_method_28_code
def yX7_roots : MethodName := ⟨RX7, "roots", "()I"⟩
abbrev cX7_strange : ByteArray := prog_1_method_29_code
def yX7_strange : MethodName := ⟨RX7, "strange", "()I"⟩
abbrev cX7_meter : ByteArray := prog_1_method_30_code
def yX7_meter : MethodName := ⟨RX7, "meter", "(I)I"⟩
abbrev cX7_reads : ByteArray := prog_1_method_31_code
def yX7_reads : MethodName := ⟨RX7, "reads", "(II)I"⟩
abbrev cX7_loses : ByteArray := prog_1_method_32_code
def yX7_loses : MethodName := ⟨RX7, "loses", "(I)I"⟩
abbrev cX7_known : ByteArray := prog_1_method_33_code
def yX7_known : MethodName := ⟨RX7, "known", "(I)I"⟩
abbrev cX7_quarrel : ByteArray := prog_1_method_34_code
def yX7_quarrel : MethodName := ⟨RX7, "quarrel", "()I"⟩
abbrev cX7_count : ByteArray := prog_1_method_35_code
def yX7_count : MethodName := ⟨RX7, "count", "(I)I"⟩
abbrev cX7_within : ByteArray := prog_1_method_36_code
def yX7_within : MethodName := ⟨RX7, "within", "(III)Z"⟩
abbrev cX7_isAir : ByteArray := prog_1_method_37_code
def yX7_isAir : MethodName := ⟨RX7, "isAir", "(I)Z"⟩
abbrev cX7_isFan : ByteArray := prog_1_method_38_code
def yX7_isFan : MethodName := ⟨RX7, "isFan", "(I)Z"⟩
abbrev cX7_isLane : ByteArray := prog_1_method_39_code
def yX7_isLane : MethodName := ⟨RX7, "isLane", "(I)Z"⟩
abbrev cX7_lowestBits : ByteArray := prog_1_method_40_code
def yX7_lowestBits : MethodName := ⟨RX7, "lowestBits", "(IJ)J"⟩
abbrev cX7_divideDown : ByteArray := prog_1_method_41_code
def yX7_divideDown : MethodName := ⟨RX7, "divideDown", "(II)I"⟩
abbrev cX7_divideUp : ByteArray := prog_1_method_42_code
def yX7_divideUp : MethodName := ⟨RX7, "divideUp", "(II)I"⟩
abbrev cX7_firstBit : ByteArray := prog_1_method_43_code
def yX7_firstBit : MethodName := ⟨RX7, "firstBit", "(I)I"⟩
def RX8 : String := "ColdRowsModel"
def TX8 : u_T := fun k => match k with
  | 0 => ("ColdRowsModel", "racks", "I", false)
  | 1 => ("ColdRowsModel", "loads", "[I", true)
  | 2 => ("ColdRowsModel", "limits", "[I", true)
  | 3 => ("ColdRowsModel", "masses", "[I", true)
  | 4 => ("ColdRowsModel", "places", "[I", true)
  | 5 => ("ColdRowsModel", "shares", "[I", true)
  | 6 => ("ColdRowsModel", "air", "I", false)
  | 7 => ("ColdRowsModel", "fan", "I", false)
  | 8 => ("ColdRowsModel", "prices", "[I", true)
  | 9 => ("ColdRowsModel", "weight", "I", false)
  | 10 => ("ColdRowsModel", "machines", "I", false)
  | 11 => ("ColdRowsModel", "machineLoad", "[I", true)
  | 12 => ("ColdRowsModel", "machinePlaces", "[I", true)
  | 13 => ("ColdRowsModel", "added", "[I", true)
  | 14 => ("ColdRowsModel", "lanes", "[I", true)
  | 15 => ("ColdRowsModel", "lengths", "[I", true)
  | 16 => ("ColdRowsModel", "cells", "[J", true)
  | 17 => ("ColdRowsModel", "row", "[I", true)
  | 18 => ("ColdRowsModel", "taken", "[I", true)
  | 19 => ("ColdRowsModel", "fits", "I", false)
  | 20 => ("ColdRowsModel", "least", "I", false)
  | 21 => ("ColdRowsModel", "leastRow", "[I", true)
  | 22 => ("ColdRowsModel", "feeds", "I", false)
  | 23 => ("ColdRowsModel", "above", "[I", true)
  | 24 => ("ColdRowsModel", "rooms", "[I", true)
  | 25 => ("ColdRowsModel", "failed", "[Z", true)
  | 26 => ("ColdRowsModel", "plugs", "[I", true)
  | 27 => ("ColdRowsModel", "thought", "I", false)
  | 28 => ("ColdRowsModel", "causes", "I", false)
  | 29 => ("ColdRowsModel", "makes", "[I", true)
  | 30 => ("ColdRowsModel", "seen", "I", false)
  | 31 => ("ColdRowsModel", "meters", "I", false)
  | 32 => ("ColdRowsModel", "over", "[I", true)
  | 33 => ("ColdRowsModel", "isRead", "[Z", true)
  | 34 => ("ColdRowsModel", "numbers", "[I", true)
  | 35 => ("ColdRowsModel", "isKnown", "[Z", true)
  | 36 => ("ColdRowsModel", "knowns", "[I", true)
  | _ => ("ColdRowsModel", "sum", "I", false)
def tyX8 : Nat → FieldType := fun k => match k with
  | 0 => .int
  | 1 => .array .int
  | 2 => .array .int
  | 3 => .array .int
  | 4 => .array .int
  | 5 => .array .int
  | 6 => .int
  | 7 => .int
  | 8 => .array .int
  | 9 => .int
  | 10 => .int
  | 11 => .array .int
  | 12 => .array .int
  | 13 => .array .int
  | 14 => .array .int
  | 15 => .array .int
  | 16 => .array .long
  | 17 => .array .int
  | 18 => .array .int
  | 19 => .int
  | 20 => .int
  | 21 => .array .int
  | 22 => .int
  | 23 => .array .int
  | 24 => .array .int
  | 25 => .array .boolean
  | 26 => .array .int
  | 27 => .int
  | 28 => .int
  | 29 => .array .int
  | 30 => .int
  | 31 => .int
  | 32 => .array .int
  | 33 => .array .boolean
  | 34 => .array .int
  | 35 => .array .boolean
  | 36 => .array .int
  | _ => .int
theorem nmX8 : ∀ a, a < 38 → ∀ b, b < 38 → a ≠ b → (TX8 a).2.1 ≠ (TX8 b).2.1 := by decide +kernel
theorem tyX8_ok : ∀ k, k < 38 → parseFieldDescriptor (TX8 k).2.2.1 = some (tyX8 k) := by decide +kernel
abbrev cX8_init : ByteArray := prog_10_method_1_code
def yX8_init : MethodName := ⟨RX8, "<init>", "()V"⟩
abbrev cX8_in : ByteArray := prog_10_method_3_code
def yX8_in : MethodName := ⟨RX8, "in", "(JJJ)Z"⟩
abbrev cX8_rack : ByteArray := prog_10_method_4_code
def yX8_rack : MethodName := ⟨RX8, "rack", "(IIII)I"⟩
abbrev cX8_isRack : ByteArray := prog_10_method_5_code
def yX8_isRack : MethodName := ⟨RX8, "isRack", "(I)Z"⟩
abbrev cX8_load : ByteArray := prog_10_method_6_code
def yX8_load : MethodName := ⟨RX8, "load", "(II)I"⟩
abbrev cX8_share : ByteArray := prog_10_method_7_code
def yX8_share : MethodName := ⟨RX8, "share", "(III)I"⟩
abbrev cX8_sheet : ByteArray := prog_10_method_8_code
def yX8_sheet : MethodName := ⟨RX8, "sheet", "(III)I"⟩
abbrev cX8_lay : ByteArray := prog_10_method_9_code
def yX8_lay : MethodName := ⟨RX8, "lay", "(IIJ)I"⟩
abbrev cX8_draw : ByteArray := prog_10_method_10_code
def yX8_draw : MethodName := ⟨RX8, "draw", "(III)I"⟩
abbrev cX8_set : ByteArray := prog_10_method_11_code
def yX8_set : MethodName := ⟨RX8, "set", "(II)I"⟩
abbrev cX8_price : ByteArray := prog_10_method_12_code
def yX8_price : MethodName := ⟨RX8, "price", "(II)I"⟩
abbrev cX8_comes : ByteArray := prog_10_method_13_code
def yX8_comes : MethodName := ⟨RX8, "comes", "(III)I"⟩
abbrev cX8_clearAdded : ByteArray := prog_10_method_14_code
def yX8_clearAdded : MethodName := ⟨RX8, "clearAdded", "()V"⟩
abbrev cX8_into : ByteArray := prog_10_method_15_code
def yX8_into : MethodName := ⟨RX8, "into", "(I)I"⟩
abbrev cX8_hots : ByteArray := prog_10_method_16_code
def yX8_hots : MethodName := ⟨RX8, "hots", "(II)I"⟩
abbrev cX8_hot : ByteArray := prog_10_method_17_code
def yX8_hot : MethodName := ⟨RX8, "hot", "(I)I"⟩
abbrev cX8_powerOf : ByteArray := prog_10_method_18_code
def yX8_powerOf : MethodName := ⟨RX8, "powerOf", "(II)I"⟩
abbrev cX8_power : ByteArray := prog_10_method_19_code
def yX8_power : MethodName := ⟨RX8, "power", "(II)I"⟩
abbrev cX8_best : ByteArray := prog_10_method_20_code
def yX8_best : MethodName := ⟨RX8, "best", "()I"⟩
abbrev cX8_minutes : ByteArray := prog_10_method_21_code
def yX8_minutes : MethodName := ⟨RX8, "minutes", "(I)I"⟩
abbrev cX8_machine : ByteArray := prog_10_method_22_code
def yX8_machine : MethodName := ⟨RX8, "machine", "(II)I"⟩
abbrev cX8_leave : ByteArray := prog_10_method_23_code
def yX8_leave : MethodName := ⟨RX8, "leave", "()I"⟩
abbrev cX8_tryAll : ByteArray := prog_10_method_24_code
def yX8_tryAll : MethodName := ⟨RX8, "tryAll", "()V"⟩
abbrev cX8_tryRow : ByteArray := prog_10_method_25_code
def yX8_tryRow : MethodName := ⟨RX8, "tryRow", "()V"⟩
abbrev cX8_placed : ByteArray := prog_10_method_26_code
def yX8_placed : MethodName := ⟨RX8, "placed", "(I)I"⟩
abbrev cX8_warmest : ByteArray := prog_10_method_27_code
def yX8_warmest : MethodName := ⟨RX8, "warmest", "()I"⟩
abbrev cX8_placings : ByteArray := prog_10_method_28_code
def yX8_placings : MethodName := ⟨RX8, "placings", "()I"⟩
abbrev cX8_feed : ByteArray := prog_10_method_29_code
def yX8_feed : MethodName := ⟨RX8, "feed", "(II)I"⟩
abbrev cX8_isFeed : ByteArray := prog_10_method_30_code
def yX8_isFeed : MethodName := ⟨RX8, "isFeed", "(I)Z"⟩
abbrev cX8_plug : ByteArray := prog_10_method_31_code
def yX8_plug : MethodName := ⟨RX8, "plug", "(III)I"⟩
abbrev cX8_fail : ByteArray := prog_10_method_32_code
def yX8_fail : MethodName := ⟨RX8, "fail", "(IZ)I"⟩
abbrev cX8_isDead : ByteArray := prog_10_method_33_code
def yX8_isDead : MethodName := ⟨RX8, "isDead", "(I)Z"⟩
abbrev cX8_lives : ByteArray := prog_10_method_34_code
def yX8_lives : MethodName := ⟨RX8, "lives", "(II)Z"⟩
abbrev cX8_isDark : ByteArray := prog_10_method_35_code
def yX8_isDark : MethodName := ⟨RX8, "isDark", "(I)Z"⟩
abbrev cX8_drawn : ByteArray := prog_10_method_36_code
def yX8_drawn : MethodName := ⟨RX8, "drawn", "(II)I"⟩
abbrev cX8_isUnder : ByteArray := prog_10_method_37_code
def yX8_isUnder : MethodName := ⟨RX8, "isUnder", "(II)Z"⟩
abbrev cX8_goes : ByteArray := prog_10_method_38_code
def yX8_goes : MethodName := ⟨RX8, "goes", "(I)I"⟩
abbrev cX8_through : ByteArray := prog_10_method_39_code
def yX8_through : MethodName := ⟨RX8, "through", "(I)I"⟩
abbrev cX8_state : ByteArray := prog_10_method_40_code
def yX8_state : MethodName := ⟨RX8, "state", "(I)I"⟩
abbrev cX8_weak : ByteArray := prog_10_method_41_code
def yX8_weak : MethodName := ⟨RX8, "weak", "()I"⟩
abbrev cX8_cause : ByteArray := prog_10_method_42_code
def yX8_cause : MethodName := ⟨RX8, "cause", "(I)I"⟩
abbrev cX8_seen : ByteArray := prog_10_method_43_code
def yX8_seen : MethodName := ⟨RX8, "seen", "(I)I"⟩
abbrev cX8_roots : ByteArray := prog_10_method_44_code
def yX8_roots : MethodName := ⟨RX8, "roots", "()I"⟩
abbrev cX8_strange : ByteArray := prog_10_method_45_code
def yX8_strange : MethodName := ⟨RX8, "strange", "()I"⟩
abbrev cX8_meter : ByteArray := prog_10_method_46_code
def yX8_meter : MethodName := ⟨RX8, "meter", "(I)I"⟩
abbrev cX8_isMeter : ByteArray := prog_10_method_47_code
def yX8_isMeter : MethodName := ⟨RX8, "isMeter", "(I)Z"⟩
abbrev cX8_reads : ByteArray := prog_10_method_48_code
def yX8_reads : MethodName := ⟨RX8, "reads", "(II)I"⟩
abbrev cX8_loses : ByteArray := prog_10_method_49_code
def yX8_loses : MethodName := ⟨RX8, "loses", "(I)I"⟩
abbrev cX8_areKnown : ByteArray := prog_10_method_50_code
def yX8_areKnown : MethodName := ⟨RX8, "areKnown", "(III)Z"⟩
abbrev cX8_know : ByteArray := prog_10_method_51_code
def yX8_know : MethodName := ⟨RX8, "know", "()V"⟩
abbrev cX8_known : ByteArray := prog_10_method_52_code
def yX8_known : MethodName := ⟨RX8, "known", "(I)I"⟩
abbrev cX8_quarrel : ByteArray := prog_10_method_53_code
def yX8_quarrel : MethodName := ⟨RX8, "quarrel", "()I"⟩
abbrev cX8_count : ByteArray := prog_10_method_54_code
def yX8_count : MethodName := ⟨RX8, "count", "(I)I"⟩
def RJ6 : String := "java/lang/Integer"
def TJ6 : u_T := fun k => match k with
  | _ => ("", "", "", false)
def tyJ6 : Nat → FieldType := fun k => match k with
  | _ => .int
theorem nmJ6 : ∀ a, a < 0 → ∀ b, b < 0 → a ≠ b → (TJ6 a).2.1 ≠ (TJ6 b).2.1 := by decide +kernel
theorem tyJ6_ok : ∀ k, k < 0 → parseFieldDescriptor (TJ6 k).2.2.1 = some (tyJ6 k) := by decide +kernel
abbrev cJ6_numberOfTrailingZeros_0f7a4 : ByteArray := prog_11_method_48_code
def yJ6_numberOfTrailingZeros_0f7a4 : MethodName := ⟨RJ6, "numberOfTrailingZeros", "(I)I"⟩
abbrev cJ6_bitCount_0f7a4 : ByteArray := prog_11_method_49_code
def yJ6_bitCount_0f7a4 : MethodName := ⟨RJ6, "bitCount", "(I)I"⟩
def RJ9 : String := "java/lang/Math"
def TJ9 : u_T := fun k => match k with
  | _ => ("", "", "", false)
def tyJ9 : Nat → FieldType := fun k => match k with
  | _ => .int
theorem nmJ9 : ∀ a, a < 0 → ∀ b, b < 0 → a ≠ b → (TJ9 a).2.1 ≠ (TJ9 b).2.1 := by decide +kernel
theorem tyJ9_ok : ∀ k, k < 0 → parseFieldDescriptor (TJ9 k).2.2.1 = some (tyJ9 k) := by decide +kernel
abbrev cJ9_max_7cf53 : ByteArray := prog_12_method_65_code
def yJ9_max_7cf53 : MethodName := ⟨RJ9, "max", "(II)I"⟩
def RJ10 : String := "java/lang/System"
def TJ10 : u_T := fun k => match k with
  | _ => ("", "", "", false)
def tyJ10 : Nat → FieldType := fun k => match k with
  | _ => .int
theorem nmJ10 : ∀ a, a < 0 → ∀ b, b < 0 → a ≠ b → (TJ10 a).2.1 ≠ (TJ10 b).2.1 := by decide +kernel
theorem tyJ10_ok : ∀ k, k < 0 → parseFieldDescriptor (TJ10 k).2.2.1 = some (tyJ10 k) := by decide +kernel
def RJ7 : String := "java/util/Arrays"
def TJ7 : u_T := fun k => match k with
  | _ => ("", "", "", false)
def tyJ7 : Nat → FieldType := fun k => match k with
  | _ => .int
theorem nmJ7 : ∀ a, a < 0 → ∀ b, b < 0 → a ≠ b → (TJ7 a).2.1 ≠ (TJ7 b).2.1 := by decide +kernel
theorem tyJ7_ok : ∀ k, k < 0 → parseFieldDescriptor (TJ7 k).2.2.1 = some (tyJ7 k) := by decide +kernel
abbrev cJ7_fill_d0a16 : ByteArray := prog_14_method_101_code
def yJ7_fill_d0a16 : MethodName := ⟨RJ7, "fill", "([JJ)V"⟩
abbrev cJ7_fill_53178 : ByteArray := prog_14_method_103_code
def yJ7_fill_53178 : MethodName := ⟨RJ7, "fill", "([II)V"⟩
def RL : String := "ColdRowsLaw"
abbrev cL_law : ByteArray := code
def yL_law : MethodName := ⟨RL, "law", "([I)Z"⟩
