section
-- ===== PART A: goes FIRST, ahead of the names: the tables' words, and 'selects' of the private methods out of them =====
/-- a private method of a class that the tables say can be made, by its rows of tables_1 -/
def lw_okq (q : MethodName × Nat) : Prop := (q.1.cls ≠ "java/lang/invoke/MethodHandle" ∧ q.1.cls ≠ "java/lang/invoke/VarHandle") ∧ Cond.instantiable q.1.cls q.2 ∈ tables_1 ∧ Cond.privateMethod q.1 ∈ tables_1 ∧ Cond.instanceMethod q.1 ∈ tables_1
theorem lw_p0 : lw_okq (⟨"ColdRows$Placer", "freeAll", "(LColdRows$Hall;)V"⟩, 8) := ⟨⟨by decide +kernel, by decide +kernel⟩, List.mem_of_getElem? (i := 86) (by decide +kernel), List.mem_of_getElem? (i := 422) (by decide +kernel), List.mem_of_getElem? (i := 423) (by decide +kernel)⟩
theorem lw_p1 : lw_okq (⟨"ColdRows$Placer", "searchFrom", "(LColdRows$Hall;I)V"⟩, 8) := ⟨⟨by decide +kernel, by decide +kernel⟩, List.mem_of_getElem? (i := 86) (by decide +kernel), List.mem_of_getElem? (i := 427) (by decide +kernel), List.mem_of_getElem? (i := 428) (by decide +kernel)⟩
theorem lw_p2 : lw_okq (⟨"ColdRows$Placer", "greatest", "(LColdRows$Hall;I)I"⟩, 8) := ⟨⟨by decide +kernel, by decide +kernel⟩, List.mem_of_getElem? (i := 86) (by decide +kernel), List.mem_of_getElem? (i := 431) (by decide +kernel), List.mem_of_getElem? (i := 432) (by decide +kernel)⟩
theorem lw_p3 : lw_okq (⟨"ColdRows$Placer", "giveOff", "(LColdRows$Hall;II)V"⟩, 8) := ⟨⟨by decide +kernel, by decide +kernel⟩, List.mem_of_getElem? (i := 86) (by decide +kernel), List.mem_of_getElem? (i := 442) (by decide +kernel), List.mem_of_getElem? (i := 443) (by decide +kernel)⟩
theorem lw_p4 : lw_okq (⟨"ColdRows$Placer", "countFrom", "(LColdRows$Hall;I)I"⟩, 8) := ⟨⟨by decide +kernel, by decide +kernel⟩, List.mem_of_getElem? (i := 86) (by decide +kernel), List.mem_of_getElem? (i := 458) (by decide +kernel), List.mem_of_getElem? (i := 459) (by decide +kernel)⟩
theorem lw_p5 : lw_okq (⟨"ColdRows$Feeds", "drawFor", "(III)V"⟩, 6) := ⟨⟨by decide +kernel, by decide +kernel⟩, List.mem_of_getElem? (i := 144) (by decide +kernel), List.mem_of_getElem? (i := 497) (by decide +kernel), List.mem_of_getElem? (i := 498) (by decide +kernel)⟩
theorem lw_p6 : lw_okq (⟨"ColdRows$Feeds", "gives", "(II)Z"⟩, 6) := ⟨⟨by decide +kernel, by decide +kernel⟩, List.mem_of_getElem? (i := 144) (by decide +kernel), List.mem_of_getElem? (i := 501) (by decide +kernel), List.mem_of_getElem? (i := 502) (by decide +kernel)⟩
theorem lw_p7 : lw_okq (⟨"ColdRows$Meters", "inferOnce", "()Z"⟩, 6) := ⟨⟨by decide +kernel, by decide +kernel⟩, List.mem_of_getElem? (i := 193) (by decide +kernel), List.mem_of_getElem? (i := 609) (by decide +kernel), List.mem_of_getElem? (i := 610) (by decide +kernel)⟩
theorem lw_p8 : lw_okq (⟨"ColdRows$Meters", "inferFromBelow", "(I)Z"⟩, 6) := ⟨⟨by decide +kernel, by decide +kernel⟩, List.mem_of_getElem? (i := 193) (by decide +kernel), List.mem_of_getElem? (i := 613) (by decide +kernel), List.mem_of_getElem? (i := 614) (by decide +kernel)⟩
theorem lw_p9 : lw_okq (⟨"ColdRows$Meters", "hasUnder", "(I)Z"⟩, 6) := ⟨⟨by decide +kernel, by decide +kernel⟩, List.mem_of_getElem? (i := 193) (by decide +kernel), List.mem_of_getElem? (i := 617) (by decide +kernel), List.mem_of_getElem? (i := 618) (by decide +kernel)⟩
theorem lw_p10 : lw_okq (⟨"ColdRows$Meters", "allKnownUnder", "(II)Z"⟩, 6) := ⟨⟨by decide +kernel, by decide +kernel⟩, List.mem_of_getElem? (i := 193) (by decide +kernel), List.mem_of_getElem? (i := 621) (by decide +kernel), List.mem_of_getElem? (i := 622) (by decide +kernel)⟩
theorem lw_p11 : lw_okq (⟨"ColdRows$Meters", "sumUnder", "(II)I"⟩, 6) := ⟨⟨by decide +kernel, by decide +kernel⟩, List.mem_of_getElem? (i := 193) (by decide +kernel), List.mem_of_getElem? (i := 625) (by decide +kernel), List.mem_of_getElem? (i := 626) (by decide +kernel)⟩
theorem lw_p12 : lw_okq (⟨"ColdRows$Meters", "inferFromAbove", "(I)Z"⟩, 6) := ⟨⟨by decide +kernel, by decide +kernel⟩, List.mem_of_getElem? (i := 193) (by decide +kernel), List.mem_of_getElem? (i := 629) (by decide +kernel), List.mem_of_getElem? (i := 630) (by decide +kernel)⟩
theorem lw_p13 : lw_okq (⟨"ColdRowsModel", "isRack", "(I)Z"⟩, 38) := ⟨⟨by decide +kernel, by decide +kernel⟩, List.mem_of_getElem? (i := 651) (by decide +kernel), List.mem_of_getElem? (i := 787) (by decide +kernel), List.mem_of_getElem? (i := 788) (by decide +kernel)⟩
theorem lw_p14 : lw_okq (⟨"ColdRowsModel", "clearAdded", "()V"⟩, 38) := ⟨⟨by decide +kernel, by decide +kernel⟩, List.mem_of_getElem? (i := 651) (by decide +kernel), List.mem_of_getElem? (i := 826) (by decide +kernel), List.mem_of_getElem? (i := 827) (by decide +kernel)⟩
theorem lw_p15 : lw_okq (⟨"ColdRowsModel", "comes", "(III)I"⟩, 38) := ⟨⟨by decide +kernel, by decide +kernel⟩, List.mem_of_getElem? (i := 651) (by decide +kernel), List.mem_of_getElem? (i := 830) (by decide +kernel), List.mem_of_getElem? (i := 831) (by decide +kernel)⟩
def lw_privs_1 : List (MethodName × Nat) := [(⟨"ColdRows$Placer", "freeAll", "(LColdRows$Hall;)V"⟩, 8), (⟨"ColdRows$Placer", "searchFrom", "(LColdRows$Hall;I)V"⟩, 8), (⟨"ColdRows$Placer", "greatest", "(LColdRows$Hall;I)I"⟩, 8), (⟨"ColdRows$Placer", "giveOff", "(LColdRows$Hall;II)V"⟩, 8), (⟨"ColdRows$Placer", "countFrom", "(LColdRows$Hall;I)I"⟩, 8), (⟨"ColdRows$Feeds", "drawFor", "(III)V"⟩, 6), (⟨"ColdRows$Feeds", "gives", "(II)Z"⟩, 6), (⟨"ColdRows$Meters", "inferOnce", "()Z"⟩, 6), (⟨"ColdRows$Meters", "inferFromBelow", "(I)Z"⟩, 6), (⟨"ColdRows$Meters", "hasUnder", "(I)Z"⟩, 6), (⟨"ColdRows$Meters", "allKnownUnder", "(II)Z"⟩, 6), (⟨"ColdRows$Meters", "sumUnder", "(II)I"⟩, 6), (⟨"ColdRows$Meters", "inferFromAbove", "(I)Z"⟩, 6), (⟨"ColdRowsModel", "isRack", "(I)Z"⟩, 38), (⟨"ColdRowsModel", "clearAdded", "()V"⟩, 38), (⟨"ColdRowsModel", "comes", "(III)I"⟩, 38)]
theorem lw_r1 : ∀ q ∈ lw_privs_1, lw_okq q := List.forall_mem_cons.mpr ⟨lw_p0, List.forall_mem_cons.mpr ⟨lw_p1, List.forall_mem_cons.mpr ⟨lw_p2, List.forall_mem_cons.mpr ⟨lw_p3, List.forall_mem_cons.mpr ⟨lw_p4, List.forall_mem_cons.mpr ⟨lw_p5, List.forall_mem_cons.mpr ⟨lw_p6, List.forall_mem_cons.mpr ⟨lw_p7, List.forall_mem_cons.mpr ⟨lw_p8, List.forall_mem_cons.mpr ⟨lw_p9, List.forall_mem_cons.mpr ⟨lw_p10, List.forall_mem_cons.mpr ⟨lw_p11, List.forall_mem_cons.mpr ⟨lw_p12, List.forall_mem_cons.mpr ⟨lw_p13, List.forall_mem_cons.mpr ⟨lw_p14, List.forall_mem_cons.mpr ⟨lw_p15, fun _ h => absurd h List.not_mem_nil⟩⟩⟩⟩⟩⟩⟩⟩⟩⟩⟩⟩⟩⟩⟩⟩
theorem lw_p16 : lw_okq (⟨"ColdRowsModel", "hots", "(II)I"⟩, 38) := ⟨⟨by decide +kernel, by decide +kernel⟩, List.mem_of_getElem? (i := 651) (by decide +kernel), List.mem_of_getElem? (i := 838) (by decide +kernel), List.mem_of_getElem? (i := 839) (by decide +kernel)⟩
theorem lw_p17 : lw_okq (⟨"ColdRowsModel", "powerOf", "(II)I"⟩, 38) := ⟨⟨by decide +kernel, by decide +kernel⟩, List.mem_of_getElem? (i := 651) (by decide +kernel), List.mem_of_getElem? (i := 846) (by decide +kernel), List.mem_of_getElem? (i := 847) (by decide +kernel)⟩
theorem lw_p18 : lw_okq (⟨"ColdRowsModel", "tryAll", "()V"⟩, 38) := ⟨⟨by decide +kernel, by decide +kernel⟩, List.mem_of_getElem? (i := 651) (by decide +kernel), List.mem_of_getElem? (i := 871) (by decide +kernel), List.mem_of_getElem? (i := 872) (by decide +kernel)⟩
theorem lw_p19 : lw_okq (⟨"ColdRowsModel", "tryRow", "()V"⟩, 38) := ⟨⟨by decide +kernel, by decide +kernel⟩, List.mem_of_getElem? (i := 651) (by decide +kernel), List.mem_of_getElem? (i := 875) (by decide +kernel), List.mem_of_getElem? (i := 876) (by decide +kernel)⟩
theorem lw_p20 : lw_okq (⟨"ColdRowsModel", "isFeed", "(I)Z"⟩, 38) := ⟨⟨by decide +kernel, by decide +kernel⟩, List.mem_of_getElem? (i := 651) (by decide +kernel), List.mem_of_getElem? (i := 895) (by decide +kernel), List.mem_of_getElem? (i := 896) (by decide +kernel)⟩
theorem lw_p21 : lw_okq (⟨"ColdRowsModel", "goes", "(I)I"⟩, 38) := ⟨⟨by decide +kernel, by decide +kernel⟩, List.mem_of_getElem? (i := 651) (by decide +kernel), List.mem_of_getElem? (i := 907) (by decide +kernel), List.mem_of_getElem? (i := 908) (by decide +kernel)⟩
theorem lw_p22 : lw_okq (⟨"ColdRowsModel", "isDead", "(I)Z"⟩, 38) := ⟨⟨by decide +kernel, by decide +kernel⟩, List.mem_of_getElem? (i := 651) (by decide +kernel), List.mem_of_getElem? (i := 911) (by decide +kernel), List.mem_of_getElem? (i := 912) (by decide +kernel)⟩
theorem lw_p23 : lw_okq (⟨"ColdRowsModel", "isUnder", "(II)Z"⟩, 38) := ⟨⟨by decide +kernel, by decide +kernel⟩, List.mem_of_getElem? (i := 651) (by decide +kernel), List.mem_of_getElem? (i := 915) (by decide +kernel), List.mem_of_getElem? (i := 916) (by decide +kernel)⟩
theorem lw_p24 : lw_okq (⟨"ColdRowsModel", "drawn", "(II)I"⟩, 38) := ⟨⟨by decide +kernel, by decide +kernel⟩, List.mem_of_getElem? (i := 651) (by decide +kernel), List.mem_of_getElem? (i := 919) (by decide +kernel), List.mem_of_getElem? (i := 920) (by decide +kernel)⟩
theorem lw_p25 : lw_okq (⟨"ColdRowsModel", "lives", "(II)Z"⟩, 38) := ⟨⟨by decide +kernel, by decide +kernel⟩, List.mem_of_getElem? (i := 651) (by decide +kernel), List.mem_of_getElem? (i := 923) (by decide +kernel), List.mem_of_getElem? (i := 924) (by decide +kernel)⟩
theorem lw_p26 : lw_okq (⟨"ColdRowsModel", "isDark", "(I)Z"⟩, 38) := ⟨⟨by decide +kernel, by decide +kernel⟩, List.mem_of_getElem? (i := 651) (by decide +kernel), List.mem_of_getElem? (i := 932) (by decide +kernel), List.mem_of_getElem? (i := 933) (by decide +kernel)⟩
theorem lw_p27 : lw_okq (⟨"ColdRowsModel", "isMeter", "(I)Z"⟩, 38) := ⟨⟨by decide +kernel, by decide +kernel⟩, List.mem_of_getElem? (i := 651) (by decide +kernel), List.mem_of_getElem? (i := 965) (by decide +kernel), List.mem_of_getElem? (i := 966) (by decide +kernel)⟩
theorem lw_p28 : lw_okq (⟨"ColdRowsModel", "know", "()V"⟩, 38) := ⟨⟨by decide +kernel, by decide +kernel⟩, List.mem_of_getElem? (i := 651) (by decide +kernel), List.mem_of_getElem? (i := 979) (by decide +kernel), List.mem_of_getElem? (i := 980) (by decide +kernel)⟩
theorem lw_p29 : lw_okq (⟨"ColdRowsModel", "areKnown", "(III)Z"⟩, 38) := ⟨⟨by decide +kernel, by decide +kernel⟩, List.mem_of_getElem? (i := 651) (by decide +kernel), List.mem_of_getElem? (i := 983) (by decide +kernel), List.mem_of_getElem? (i := 984) (by decide +kernel)⟩
def lw_privs_2 : List (MethodName × Nat) := [(⟨"ColdRowsModel", "hots", "(II)I"⟩, 38), (⟨"ColdRowsModel", "powerOf", "(II)I"⟩, 38), (⟨"ColdRowsModel", "tryAll", "()V"⟩, 38), (⟨"ColdRowsModel", "tryRow", "()V"⟩, 38), (⟨"ColdRowsModel", "isFeed", "(I)Z"⟩, 38), (⟨"ColdRowsModel", "goes", "(I)I"⟩, 38), (⟨"ColdRowsModel", "isDead", "(I)Z"⟩, 38), (⟨"ColdRowsModel", "isUnder", "(II)Z"⟩, 38), (⟨"ColdRowsModel", "drawn", "(II)I"⟩, 38), (⟨"ColdRowsModel", "lives", "(II)Z"⟩, 38), (⟨"ColdRowsModel", "isDark", "(I)Z"⟩, 38), (⟨"ColdRowsModel", "isMeter", "(I)Z"⟩, 38), (⟨"ColdRowsModel", "know", "()V"⟩, 38), (⟨"ColdRowsModel", "areKnown", "(III)Z"⟩, 38)]
theorem lw_r2 : ∀ q ∈ lw_privs_2, lw_okq q := List.forall_mem_cons.mpr ⟨lw_p16, List.forall_mem_cons.mpr ⟨lw_p17, List.forall_mem_cons.mpr ⟨lw_p18, List.forall_mem_cons.mpr ⟨lw_p19, List.forall_mem_cons.mpr ⟨lw_p20, List.forall_mem_cons.mpr ⟨lw_p21, List.forall_mem_cons.mpr ⟨lw_p22, List.forall_mem_cons.mpr ⟨lw_p23, List.forall_mem_cons.mpr ⟨lw_p24, List.forall_mem_cons.mpr ⟨lw_p25, List.forall_mem_cons.mpr ⟨lw_p26, List.forall_mem_cons.mpr ⟨lw_p27, List.forall_mem_cons.mpr ⟨lw_p28, List.forall_mem_cons.mpr ⟨lw_p29, fun _ h => absurd h List.not_mem_nil⟩⟩⟩⟩⟩⟩⟩⟩⟩⟩⟩⟩⟩⟩
def lw_privs : List (MethodName × Nat) := lw_privs_1 ++ (lw_privs_2)
def lw_tbl : List Cond := k2_sels lw_privs ++ tables_1
theorem lw_privs_ok : ∀ q ∈ lw_privs, lw_okq q := by
  show ∀ q ∈ lw_privs_1 ++ (lw_privs_2), lw_okq q
  exact List.forall_mem_append.mpr ⟨lw_r1, lw_r2⟩



/-! ===== BEGIN printed: names, fields, word lists, decode rows ===== -/
def RX0 : String := "ColdRows$Alarms"
def TX0 : u_T := fun k => match k with
  | 0 => ("ColdRows$Alarms", "makes", "[I", true)
  | 1 => ("ColdRows$Alarms", "causes", "I", false)
  | _ => ("ColdRows$Alarms", "visible", "I", false)
def tyX0 : Nat → FieldType := fun k => match k with
  | 0 => .array .int
  | 1 => .int
  | _ => .int
theorem nmX0 : ∀ a, a < 3 → ∀ b, b < 3 → a ≠ b → (TX0 a).2.1 ≠ (TX0 b).2.1 := by decide +kernel
theorem tyX0_ok : ∀ k, k < 3 → parseFieldDescriptor (TX0 k).2.2.1 = some (tyX0 k) := by decide +kernel
abbrev cX0_init : ByteArray := prog_2_method_1_code
def yX0_init : MethodName := ⟨RX0, "<init>", "()V"⟩
abbrev cX0_add : ByteArray := prog_2_method_2_code
def yX0_add : MethodName := ⟨RX0, "add", "(I)I"⟩
abbrev cX0_likely : ByteArray := prog_2_method_3_code
def yX0_likely : MethodName := ⟨RX0, "likely", "()I"⟩
abbrev cX0_madeBy : ByteArray := prog_2_method_4_code
def yX0_madeBy : MethodName := ⟨RX0, "madeBy", "(I)I"⟩
abbrev cX0_fewest : ByteArray := prog_2_method_5_code
def yX0_fewest : MethodName := ⟨RX0, "fewest", "()I"⟩
def RX1 : String := "ColdRows$Feeds"
def TX1 : u_T := fun k => match k with
  | 0 => ("ColdRows$Feeds", "aboves", "[I", true)
  | 1 => ("ColdRows$Feeds", "rooms", "[I", true)
  | 2 => ("ColdRows$Feeds", "plugs", "[[I", true)
  | 3 => ("ColdRows$Feeds", "flows", "[I", true)
  | 4 => ("ColdRows$Feeds", "feeds", "I", false)
  | _ => ("ColdRows$Feeds", "failed", "I", false)
def tyX1 : Nat → FieldType := fun k => match k with
  | 0 => .array .int
  | 1 => .array .int
  | 2 => .array (.array .int)
  | 3 => .array .int
  | 4 => .int
  | _ => .int
theorem nmX1 : ∀ a, a < 6 → ∀ b, b < 6 → a ≠ b → (TX1 a).2.1 ≠ (TX1 b).2.1 := by decide +kernel
theorem tyX1_ok : ∀ k, k < 6 → parseFieldDescriptor (TX1 k).2.2.1 = some (tyX1 k) := by decide +kernel
abbrev cX1_init : ByteArray := prog_3_method_1_code
def yX1_init : MethodName := ⟨RX1, "<init>", "()V"⟩
abbrev cX1_has : ByteArray := prog_3_method_2_code
def yX1_has : MethodName := ⟨RX1, "has", "(I)Z"⟩
abbrev cX1_add : ByteArray := prog_3_method_3_code
def yX1_add : MethodName := ⟨RX1, "add", "(II)I"⟩
abbrev cX1_isIn : ByteArray := prog_3_method_4_code
def yX1_isIn : MethodName := ⟨RX1, "isIn", "(II)Z"⟩
abbrev cX1_dead : ByteArray := prog_3_method_5_code
def yX1_dead : MethodName := ⟨RX1, "dead", "(I)I"⟩
abbrev cX1_gives : ByteArray := prog_3_method_6_code
def yX1_gives : MethodName := ⟨RX1, "gives", "(II)Z"⟩
abbrev cX1_flow : ByteArray := prog_3_method_7_code
def yX1_flow : MethodName := ⟨RX1, "flow", "(ILColdRows$Hall;)V"⟩
abbrev cX1_drawFor : ByteArray := prog_3_method_8_code
def yX1_drawFor : MethodName := ⟨RX1, "drawFor", "(III)V"⟩
abbrev cX1_over : ByteArray := prog_3_method_9_code
def yX1_over : MethodName := ⟨RX1, "over", "(ILColdRows$Hall;)I"⟩
abbrev cX1_dark : ByteArray := prog_3_method_10_code
def yX1_dark : MethodName := ⟨RX1, "dark", "(ILColdRows$Hall;)I"⟩
abbrev cX1_firstWeak : ByteArray := prog_3_method_11_code
def yX1_firstWeak : MethodName := ⟨RX1, "firstWeak", "(LColdRows$Hall;)I"⟩
def RX2 : String := "ColdRows$Hall"
def TX2 : u_T := fun k => match k with
  | 0 => ("ColdRows$Hall", "loads", "[I", true)
  | 1 => ("ColdRows$Hall", "limits", "[I", true)
  | 2 => ("ColdRows$Hall", "masses", "[I", true)
  | 3 => ("ColdRows$Hall", "places", "[I", true)
  | 4 => ("ColdRows$Hall", "shares", "[[I", true)
  | 5 => ("ColdRows$Hall", "racks", "I", false)
  | 6 => ("ColdRows$Hall", "air", "I", false)
  | _ => ("ColdRows$Hall", "fan", "I", false)
def tyX2 : Nat → FieldType := fun k => match k with
  | 0 => .array .int
  | 1 => .array .int
  | 2 => .array .int
  | 3 => .array .int
  | 4 => .array (.array .int)
  | 5 => .int
  | 6 => .int
  | _ => .int
theorem nmX2 : ∀ a, a < 8 → ∀ b, b < 8 → a ≠ b → (TX2 a).2.1 ≠ (TX2 b).2.1 := by decide +kernel
theorem tyX2_ok : ∀ k, k < 8 → parseFieldDescriptor (TX2 k).2.2.1 = some (tyX2 k) := by decide +kernel
abbrev cX2_init : ByteArray := prog_4_method_1_code
def yX2_init : MethodName := ⟨RX2, "<init>", "()V"⟩
abbrev cX2_has : ByteArray := prog_4_method_2_code
def yX2_has : MethodName := ⟨RX2, "has", "(I)Z"⟩
abbrev cX2_add : ByteArray := prog_4_method_3_code
def yX2_add : MethodName := ⟨RX2, "add", "(IIII)I"⟩
abbrev cX2_takeShares : ByteArray := prog_4_method_4_code
def yX2_takeShares : MethodName := ⟨RX2, "takeShares", "([JI)V"⟩
abbrev cX2_allLoads : ByteArray := prog_4_method_5_code
def yX2_allLoads : MethodName := ⟨RX2, "allLoads", "()I"⟩
abbrev cX2_givenAt : ByteArray := prog_4_method_6_code
def yX2_givenAt : MethodName := ⟨RX2, "givenAt", "(I)I"⟩
abbrev cX2_warmth : ByteArray := prog_4_method_7_code
def yX2_warmth : MethodName := ⟨RX2, "warmth", "(III)I"⟩
abbrev cX2_margin : ByteArray := prog_4_method_8_code
def yX2_margin : MethodName := ⟨RX2, "margin", "(I)I"⟩
abbrev cX2_countHot : ByteArray := prog_4_method_9_code
def yX2_countHot : MethodName := ⟨RX2, "countHot", "()I"⟩
abbrev cX2_firstHot : ByteArray := prog_4_method_10_code
def yX2_firstHot : MethodName := ⟨RX2, "firstHot", "(II)I"⟩
abbrev cX2_nearestToLimit : ByteArray := prog_4_method_11_code
def yX2_nearestToLimit : MethodName := ⟨RX2, "nearestToLimit", "()I"⟩
def RX3 : String := "ColdRows$Meters"
def TX3 : u_T := fun k => match k with
  | 0 => ("ColdRows$Meters", "aboves", "[I", true)
  | 1 => ("ColdRows$Meters", "isRead", "[Z", true)
  | 2 => ("ColdRows$Meters", "readings", "[I", true)
  | 3 => ("ColdRows$Meters", "isKnown", "[Z", true)
  | 4 => ("ColdRows$Meters", "numbers", "[I", true)
  | _ => ("ColdRows$Meters", "meters", "I", false)
def tyX3 : Nat → FieldType := fun k => match k with
  | 0 => .array .int
  | 1 => .array .boolean
  | 2 => .array .int
  | 3 => .array .boolean
  | 4 => .array .int
  | _ => .int
theorem nmX3 : ∀ a, a < 6 → ∀ b, b < 6 → a ≠ b → (TX3 a).2.1 ≠ (TX3 b).2.1 := by decide +kernel
theorem tyX3_ok : ∀ k, k < 6 → parseFieldDescriptor (TX3 k).2.2.1 = some (tyX3 k) := by decide +kernel
abbrev cX3_init : ByteArray := prog_5_method_1_code
def yX3_init : MethodName := ⟨RX3, "<init>", "()V"⟩
abbrev cX3_has : ByteArray := prog_5_method_2_code
def yX3_has : MethodName := ⟨RX3, "has", "(I)Z"⟩
abbrev cX3_add : ByteArray := prog_5_method_3_code
def yX3_add : MethodName := ⟨RX3, "add", "(I)I"⟩
abbrev cX3_infer : ByteArray := prog_5_method_4_code
def yX3_infer : MethodName := ⟨RX3, "infer", "()V"⟩
abbrev cX3_inferOnce : ByteArray := prog_5_method_5_code
def yX3_inferOnce : MethodName := ⟨RX3, "inferOnce", "()Z"⟩
abbrev cX3_inferFromBelow : ByteArray := prog_5_method_6_code
def yX3_inferFromBelow : MethodName := ⟨RX3, "inferFromBelow", "(I)Z"⟩
abbrev cX3_inferFromAbove : ByteArray := prog_5_method_7_code
def yX3_inferFromAbove : MethodName := ⟨RX3, "inferFromAbove", "(I)Z"⟩
abbrev cX3_hasUnder : ByteArray := prog_5_method_8_code
def yX3_hasUnder : MethodName := ⟨RX3, "hasUnder", "(I)Z"⟩
abbrev cX3_allKnownUnder : ByteArray := prog_5_method_9_code
def yX3_allKnownUnder : MethodName := ⟨RX3, "allKnownUnder", "(II)Z"⟩
abbrev cX3_sumUnder : ByteArray := prog_5_method_10_code
def yX3_sumUnder : MethodName := ⟨RX3, "sumUnder", "(II)I"⟩
abbrev cX3_isAtOdds : ByteArray := prog_5_method_11_code
def yX3_isAtOdds : MethodName := ⟨RX3, "isAtOdds", "(I)Z"⟩
abbrev cX3_countKnown : ByteArray := prog_5_method_12_code
def yX3_countKnown : MethodName := ⟨RX3, "countKnown", "()I"⟩
def RX4 : String := "ColdRows$Placer"
def TX4 : u_T := fun k => match k with
  | 0 => ("ColdRows$Placer", "loads", "[I", true)
  | 1 => ("ColdRows$Placer", "places", "[I", true)
  | 2 => ("ColdRows$Placer", "machines", "I", false)
  | 3 => ("ColdRows$Placer", "best", "[I", true)
  | 4 => ("ColdRows$Placer", "chosen", "[I", true)
  | 5 => ("ColdRows$Placer", "free", "[I", true)
  | 6 => ("ColdRows$Placer", "given", "[[I", true)
  | _ => ("ColdRows$Placer", "least", "I", false)
def tyX4 : Nat → FieldType := fun k => match k with
  | 0 => .array .int
  | 1 => .array .int
  | 2 => .int
  | 3 => .array .int
  | 4 => .array .int
  | 5 => .array .int
  | 6 => .array (.array .int)
  | _ => .int
theorem nmX4 : ∀ a, a < 8 → ∀ b, b < 8 → a ≠ b → (TX4 a).2.1 ≠ (TX4 b).2.1 := by decide +kernel
theorem tyX4_ok : ∀ k, k < 8 → parseFieldDescriptor (TX4 k).2.2.1 = some (tyX4 k) := by decide +kernel
abbrev cX4_init : ByteArray := prog_6_method_1_code
def yX4_init : MethodName := ⟨RX4, "<init>", "()V"⟩
abbrev cX4_add : ByteArray := prog_6_method_2_code
def yX4_add : MethodName := ⟨RX4, "add", "(II)I"⟩
abbrev cX4_countAll : ByteArray := prog_6_method_3_code
def yX4_countAll : MethodName := ⟨RX4, "countAll", "(LColdRows$Hall;)I"⟩
abbrev cX4_leastWarmth : ByteArray := prog_6_method_4_code
def yX4_leastWarmth : MethodName := ⟨RX4, "leastWarmth", "(LColdRows$Hall;)I"⟩
abbrev cX4_freeAll : ByteArray := prog_6_method_5_code
def yX4_freeAll : MethodName := ⟨RX4, "freeAll", "(LColdRows$Hall;)V"⟩
abbrev cX4_countFrom : ByteArray := prog_6_method_6_code
def yX4_countFrom : MethodName := ⟨RX4, "countFrom", "(LColdRows$Hall;I)I"⟩
abbrev cX4_searchFrom : ByteArray := prog_6_method_7_code
def yX4_searchFrom : MethodName := ⟨RX4, "searchFrom", "(LColdRows$Hall;I)V"⟩
abbrev cX4_giveOff : ByteArray := prog_6_method_8_code
def yX4_giveOff : MethodName := ⟨RX4, "giveOff", "(LColdRows$Hall;II)V"⟩
abbrev cX4_greatest : ByteArray := prog_6_method_9_code
def yX4_greatest : MethodName := ⟨RX4, "greatest", "(LColdRows$Hall;I)I"⟩
def RX5 : String := "ColdRows$Prices"
def TX5 : u_T := fun k => match k with
  | 0 => ("ColdRows$Prices", "ofAir", "[I", true)
  | _ => ("ColdRows$Prices", "weight", "I", false)
def tyX5 : Nat → FieldType := fun k => match k with
  | 0 => .array .int
  | _ => .int
theorem nmX5 : ∀ a, a < 2 → ∀ b, b < 2 → a ≠ b → (TX5 a).2.1 ≠ (TX5 b).2.1 := by decide +kernel
theorem tyX5_ok : ∀ k, k < 2 → parseFieldDescriptor (TX5 k).2.2.1 = some (tyX5 k) := by decide +kernel
abbrev cX5_init : ByteArray := prog_7_method_1_code
def yX5_init : MethodName := ⟨RX5, "<init>", "()V"⟩
abbrev cX5_changeWeight : ByteArray := prog_7_method_2_code
def yX5_changeWeight : MethodName := ⟨RX5, "changeWeight", "(I)I"⟩
abbrev cX5_changeAir : ByteArray := prog_7_method_3_code
def yX5_changeAir : MethodName := ⟨RX5, "changeAir", "(II)I"⟩
abbrev cX5_powerOf : ByteArray := prog_7_method_4_code
def yX5_powerOf : MethodName := ⟨RX5, "powerOf", "(III)I"⟩
def RX6 : String := "ColdRows$Sheets"
def TX6 : u_T := fun k => match k with
  | 0 => ("ColdRows$Sheets", "cells", "[[J", true)
  | 1 => ("ColdRows$Sheets", "lanes", "[I", true)
  | _ => ("ColdRows$Sheets", "sizes", "[I", true)
def tyX6 : Nat → FieldType := fun k => match k with
  | 0 => .array (.array .long)
  | 1 => .array .int
  | _ => .array .int
theorem nmX6 : ∀ a, a < 3 → ∀ b, b < 3 → a ≠ b → (TX6 a).2.1 ≠ (TX6 b).2.1 := by decide +kernel
theorem tyX6_ok : ∀ k, k < 3 → parseFieldDescriptor (TX6 k).2.2.1 = some (tyX6 k) := by decide +kernel
abbrev cX6_init : ByteArray := prog_8_method_1_code
def yX6_init : MethodName := ⟨RX6, "<init>", "()V"⟩
abbrev cX6_has : ByteArray := prog_8_method_2_code
def yX6_has : MethodName := ⟨RX6, "has", "(I)Z"⟩
abbrev cX6_isNothing : ByteArray := prog_8_method_3_code
def yX6_isNothing : MethodName := ⟨RX6, "isNothing", "(I)Z"⟩
abbrev cX6_hasCell : ByteArray := prog_8_method_4_code
def yX6_hasCell : MethodName := ⟨RX6, "hasCell", "(II)Z"⟩
abbrev cX6_renew : ByteArray := prog_8_method_5_code
def yX6_renew : MethodName := ⟨RX6, "renew", "(III)V"⟩
abbrev cX6_refusal : ByteArray := prog_8_method_6_code
def yX6_refusal : MethodName := ⟨RX6, "refusal", "(III)I"⟩
def RX7 : String := "ColdRows"
def TX7 : u_T := fun k => match k with
  | 0 => ("ColdRows", "hall", "LColdRows$Hall;", true)
  | 1 => ("ColdRows", "prices", "LColdRows$Prices;", true)
  | 2 => ("ColdRows", "placer", "LColdRows$Placer;", true)
  | 3 => ("ColdRows", "sheets", "LColdRows$Sheets;", true)
  | 4 => ("ColdRows", "feeds", "LColdRows$Feeds;", true)
  | 5 => ("ColdRows", "alarms", "LColdRows$Alarms;", true)
  | _ => ("ColdRows", "meters", "LColdRows$Meters;", true)
def tyX7 : Nat → FieldType := fun k => match k with
  | 0 => .object "ColdRows$Hall"
  | 1 => .object "ColdRows$Prices"
  | 2 => .object "ColdRows$Placer"
  | 3 => .object "ColdRows$Sheets"
  | 4 => .object "ColdRows$Feeds"
  | 5 => .object "ColdRows$Alarms"
  | _ => .object "ColdRows$Meters"
theorem nmX7 : ∀ a, a < 7 → ∀ b, b < 7 → a ≠ b → (TX7 a).2.1 ≠ (TX7 b).2.1 := by decide +kernel
theorem tyX7_ok : ∀ k, k < 7 → parseFieldDescriptor (TX7 k).2.2.1 = some (tyX7 k) := by decide +kernel
abbrev cX7_init : ByteArray := prog_1_method_1_code
def yX7_init : MethodName := ⟨RX7, "<init>", "()V"⟩
abbrev cX7_rack : ByteArray := prog_1_method_2_code
def yX7_rack : MethodName := ⟨RX7, "rack", "(IIII)I"⟩
abbrev cX7_load : ByteArray := prog_1_method_3_code
def yX7_load : MethodName := ⟨RX7, "load", "(II)I"⟩
abbrev cX7_share : ByteArray := prog_1_method_4_code
def yX7_share : MethodName := ⟨RX7, "share", "(III)I"⟩
abbrev cX7_sheet : ByteArray := prog_1_method_5_code
def yX7_sheet : MethodName := ⟨RX7, "sheet", "(III)I"⟩
abbrev cX7_lay : ByteArray := prog_1_method_6_code
def yX7_lay : MethodName := ⟨RX7, "lay", "(IIJ)I"⟩
abbrev cX7_draw : ByteArray := prog_1_method_7_code
def yX7_draw : MethodName := ⟨RX7, "draw", "(III)I"⟩
abbrev cX7_set : ByteArray := prog_1_method_8_code
def yX7_set : MethodName := ⟨RX7, "set", "(II)I"⟩
abbrev cX7_price : ByteArray := prog_1_method_9_code
def yX7_price : MethodName := ⟨RX7, "price", "(II)I"⟩
abbrev cX7_into : ByteArray := prog_1_method_10_code
def yX7_into : MethodName := ⟨RX7, "into", "(I)I"⟩
abbrev cX7_hot : ByteArray := prog_1_method_11_code
def yX7_hot : MethodName := ⟨RX7, "hot", "(I)I"⟩
abbrev cX7_power : ByteArray := prog_1_method_12_code
def yX7_power : MethodName := ⟨RX7, "power", "(II)I"⟩
abbrev cX7_best : ByteArray := prog_1_method_13_code
def yX7_best : MethodName := ⟨RX7, "best", "()I"⟩
abbrev cX7_minutes : ByteArray := prog_1_method_14_code
def yX7_minutes : MethodName := ⟨RX7, "minutes", "(I)I"⟩
abbrev cX7_machine : ByteArray := prog_1_method_15_code
def yX7_machine : MethodName := ⟨RX7, "machine", "(II)I"⟩
abbrev cX7_leave : ByteArray := prog_1_method_16_code
def yX7_leave : MethodName := ⟨RX7, "leave", "()I"⟩
abbrev cX7_placed : ByteArray := prog_1_method_17_code
def yX7_placed : MethodName := ⟨RX7, "placed", "(I)I"⟩
abbrev cX7_warmest : ByteArray := prog_1_method_18_code
def yX7_warmest : MethodName := ⟨RX7, "warmest", "()I"⟩
abbrev cX7_placings : ByteArray := prog_1_method_19_code
def yX7_placings : MethodName := ⟨RX7, "placings", "()I"⟩
abbrev cX7_feed : ByteArray := prog_1_method_20_code
def yX7_feed : MethodName := ⟨RX7, "feed", "(II)I"⟩
abbrev cX7_plug : ByteArray := prog_1_method_21_code
def yX7_plug : MethodName := ⟨RX7, "plug", "(III)I"⟩
abbrev cX7_fail : ByteArray := prog_1_method_22_code
def yX7_fail : MethodName := ⟨RX7, "fail", "(IZ)I"⟩
abbrev cX7_through : ByteArray := prog_1_method_23_code
def yX7_through : MethodName := ⟨RX7, "through", "(I)I"⟩
abbrev cX7_state : ByteArray := prog_1_method_24_code
def yX7_state : MethodName := ⟨RX7, "state", "(I)I"⟩
abbrev cX7_weak : ByteArray := prog_1_method_25_code
def yX7_weak : MethodName := ⟨RX7, "weak", "()I"⟩
abbrev cX7_cause : ByteArray := prog_1_method_26_code
def yX7_cause : MethodName := ⟨RX7, "cause", "(I)I"⟩
abbrev cX7_seen : ByteArray := prog_1_method_27_code
def yX7_seen : MethodName := ⟨RX7, "seen", "(I)I"⟩
abbrev cX7_roots : ByteArray := prog_1_method_28_code
def yX7_roots : MethodName := ⟨RX7, "roots", "()I"⟩
abbrev cX7_strange : ByteArray := prog_1_method_29_code
def yX7_strange : MethodName := ⟨RX7, "strange", "()I"⟩
abbrev cX7_meter : ByteArray := prog_1_method_30_code
def yX7_meter : MethodName := ⟨RX7, "meter", "(I)I"⟩
abbrev cX7_reads : ByteArray := prog_1_method_31_code
def yX7_reads : MethodName := ⟨RX7, "reads", "(II)I"⟩
abbrev cX7_loses : ByteArray := prog_1_method_32_code
def yX7_loses : MethodName := ⟨RX7, "loses", "(I)I"⟩
abbrev cX7_known : ByteArray := prog_1_method_33_code
def yX7_known : MethodName := ⟨RX7, "known", "(I)I"⟩
abbrev cX7_quarrel : ByteArray := prog_1_method_34_code
def yX7_quarrel : MethodName := ⟨RX7, "quarrel", "()I"⟩
abbrev cX7_count : ByteArray := prog_1_method_35_code
def yX7_count : MethodName := ⟨RX7, "count", "(I)I"⟩
abbrev cX7_within : ByteArray := prog_1_method_36_code
def yX7_within : MethodName := ⟨RX7, "within", "(III)Z"⟩
abbrev cX7_isAir : ByteArray := prog_1_method_37_code
def yX7_isAir : MethodName := ⟨RX7, "isAir", "(I)Z"⟩
abbrev cX7_isFan : ByteArray := prog_1_method_38_code
def yX7_isFan : MethodName := ⟨RX7, "isFan", "(I)Z"⟩
abbrev cX7_isLane : ByteArray := prog_1_method_39_code
def yX7_isLane : MethodName := ⟨RX7, "isLane", "(I)Z"⟩
abbrev cX7_lowestBits : ByteArray := prog_1_method_40_code
def yX7_lowestBits : MethodName := ⟨RX7, "lowestBits", "(IJ)J"⟩
abbrev cX7_divideDown : ByteArray := prog_1_method_41_code
def yX7_divideDown : MethodName := ⟨RX7, "divideDown", "(II)I"⟩
abbrev cX7_divideUp : ByteArray := prog_1_method_42_code
def yX7_divideUp : MethodName := ⟨RX7, "divideUp", "(II)I"⟩
abbrev cX7_firstBit : ByteArray := prog_1_method_43_code
def yX7_firstBit : MethodName := ⟨RX7, "firstBit", "(I)I"⟩
def RX8 : String := "ColdRowsModel"
def TX8 : u_T := fun k => match k with
  | 0 => ("ColdRowsModel", "racks", "I", false)
  | 1 => ("ColdRowsModel", "loads", "[I", true)
  | 2 => ("ColdRowsModel", "limits", "[I", true)
  | 3 => ("ColdRowsModel", "masses", "[I", true)
  | 4 => ("ColdRowsModel", "places", "[I", true)
  | 5 => ("ColdRowsModel", "shares", "[I", true)
  | 6 => ("ColdRowsModel", "air", "I", false)
  | 7 => ("ColdRowsModel", "fan", "I", false)
  | 8 => ("ColdRowsModel", "prices", "[I", true)
  | 9 => ("ColdRowsModel", "weight", "I", false)
  | 10 => ("ColdRowsModel", "machines", "I", false)
  | 11 => ("ColdRowsModel", "machineLoad", "[I", true)
  | 12 => ("ColdRowsModel", "machinePlaces", "[I", true)
  | 13 => ("ColdRowsModel", "added", "[I", true)
  | 14 => ("ColdRowsModel", "lanes", "[I", true)
  | 15 => ("ColdRowsModel", "lengths", "[I", true)
  | 16 => ("ColdRowsModel", "cells", "[J", true)
  | 17 => ("ColdRowsModel", "row", "[I", true)
  | 18 => ("ColdRowsModel", "taken", "[I", true)
  | 19 => ("ColdRowsModel", "fits", "I", false)
  | 20 => ("ColdRowsModel", "least", "I", false)
  | 21 => ("ColdRowsModel", "leastRow", "[I", true)
  | 22 => ("ColdRowsModel", "feeds", "I", false)
  | 23 => ("ColdRowsModel", "above", "[I", true)
  | 24 => ("ColdRowsModel", "rooms", "[I", true)
  | 25 => ("ColdRowsModel", "failed", "[Z", true)
  | 26 => ("ColdRowsModel", "plugs", "[I", true)
  | 27 => ("ColdRowsModel", "thought", "I", false)
  | 28 => ("ColdRowsModel", "causes", "I", false)
  | 29 => ("ColdRowsModel", "makes", "[I", true)
  | 30 => ("ColdRowsModel", "seen", "I", false)
  | 31 => ("ColdRowsModel", "meters", "I", false)
  | 32 => ("ColdRowsModel", "over", "[I", true)
  | 33 => ("ColdRowsModel", "isRead", "[Z", true)
  | 34 => ("ColdRowsModel", "numbers", "[I", true)
  | 35 => ("ColdRowsModel", "isKnown", "[Z", true)
  | 36 => ("ColdRowsModel", "knowns", "[I", true)
  | _ => ("ColdRowsModel", "sum", "I", false)
def tyX8 : Nat → FieldType := fun k => match k with
  | 0 => .int
  | 1 => .array .int
  | 2 => .array .int
  | 3 => .array .int
  | 4 => .array .int
  | 5 => .array .int
  | 6 => .int
  | 7 => .int
  | 8 => .array .int
  | 9 => .int
  | 10 => .int
  | 11 => .array .int
  | 12 => .array .int
  | 13 => .array .int
  | 14 => .array .int
  | 15 => .array .int
  | 16 => .array .long
  | 17 => .array .int
  | 18 => .array .int
  | 19 => .int
  | 20 => .int
  | 21 => .array .int
  | 22 => .int
  | 23 => .array .int
  | 24 => .array .int
  | 25 => .array .boolean
  | 26 => .array .int
  | 27 => .int
  | 28 => .int
  | 29 => .array .int
  | 30 => .int
  | 31 => .int
  | 32 => .array .int
  | 33 => .array .boolean
  | 34 => .array .int
  | 35 => .array .boolean
  | 36 => .array .int
  | _ => .int
theorem nmX8 : ∀ a, a < 38 → ∀ b, b < 38 → a ≠ b → (TX8 a).2.1 ≠ (TX8 b).2.1 := by decide +kernel
theorem tyX8_ok : ∀ k, k < 38 → parseFieldDescriptor (TX8 k).2.2.1 = some (tyX8 k) := by decide +kernel
abbrev cX8_init : ByteArray := prog_10_method_1_code
def yX8_init : MethodName := ⟨RX8, "<init>", "()V"⟩
abbrev cX8_in : ByteArray := prog_10_method_3_code
def yX8_in : MethodName := ⟨RX8, "in", "(JJJ)Z"⟩
abbrev cX8_rack : ByteArray := prog_10_method_4_code
def yX8_rack : MethodName := ⟨RX8, "rack", "(IIII)I"⟩
abbrev cX8_isRack : ByteArray := prog_10_method_5_code
def yX8_isRack : MethodName := ⟨RX8, "isRack", "(I)Z"⟩
abbrev cX8_load : ByteArray := prog_10_method_6_code
def yX8_load : MethodName := ⟨RX8, "load", "(II)I"⟩
abbrev cX8_share : ByteArray := prog_10_method_7_code
def yX8_share : MethodName := ⟨RX8, "share", "(III)I"⟩
abbrev cX8_sheet : ByteArray := prog_10_method_8_code
def yX8_sheet : MethodName := ⟨RX8, "sheet", "(III)I"⟩
abbrev cX8_lay : ByteArray := prog_10_method_9_code
def yX8_lay : MethodName := ⟨RX8, "lay", "(IIJ)I"⟩
abbrev cX8_draw : ByteArray := prog_10_method_10_code
def yX8_draw : MethodName := ⟨RX8, "draw", "(III)I"⟩
abbrev cX8_set : ByteArray := prog_10_method_11_code
def yX8_set : MethodName := ⟨RX8, "set", "(II)I"⟩
abbrev cX8_price : ByteArray := prog_10_method_12_code
def yX8_price : MethodName := ⟨RX8, "price", "(II)I"⟩
abbrev cX8_comes : ByteArray := prog_10_method_13_code
def yX8_comes : MethodName := ⟨RX8, "comes", "(III)I"⟩
abbrev cX8_clearAdded : ByteArray := prog_10_method_14_code
def yX8_clearAdded : MethodName := ⟨RX8, "clearAdded", "()V"⟩
abbrev cX8_into : ByteArray := prog_10_method_15_code
def yX8_into : MethodName := ⟨RX8, "into", "(I)I"⟩
abbrev cX8_hots : ByteArray := prog_10_method_16_code
def yX8_hots : MethodName := ⟨RX8, "hots", "(II)I"⟩
abbrev cX8_hot : ByteArray := prog_10_method_17_code
def yX8_hot : MethodName := ⟨RX8, "hot", "(I)I"⟩
abbrev cX8_powerOf : ByteArray := prog_10_method_18_code
def yX8_powerOf : MethodName := ⟨RX8, "powerOf", "(II)I"⟩
abbrev cX8_power : ByteArray := prog_10_method_19_code
def yX8_power : MethodName := ⟨RX8, "power", "(II)I"⟩
abbrev cX8_best : ByteArray := prog_10_method_20_code
def yX8_best : MethodName := ⟨RX8, "best", "()I"⟩
abbrev cX8_minutes : ByteArray := prog_10_method_21_code
def yX8_minutes : MethodName := ⟨RX8, "minutes", "(I)I"⟩
abbrev cX8_machine : ByteArray := prog_10_method_22_code
def yX8_machine : MethodName := ⟨RX8, "machine", "(II)I"⟩
abbrev cX8_leave : ByteArray := prog_10_method_23_code
def yX8_leave : MethodName := ⟨RX8, "leave", "()I"⟩
abbrev cX8_tryAll : ByteArray := prog_10_method_24_code
def yX8_tryAll : MethodName := ⟨RX8, "tryAll", "()V"⟩
abbrev cX8_tryRow : ByteArray := prog_10_method_25_code
def yX8_tryRow : MethodName := ⟨RX8, "tryRow", "()V"⟩
abbrev cX8_placed : ByteArray := prog_10_method_26_code
def yX8_placed : MethodName := ⟨RX8, "placed", "(I)I"⟩
abbrev cX8_warmest : ByteArray := prog_10_method_27_code
def yX8_warmest : MethodName := ⟨RX8, "warmest", "()I"⟩
abbrev cX8_placings : ByteArray := prog_10_method_28_code
def yX8_placings : MethodName := ⟨RX8, "placings", "()I"⟩
abbrev cX8_feed : ByteArray := prog_10_method_29_code
def yX8_feed : MethodName := ⟨RX8, "feed", "(II)I"⟩
abbrev cX8_isFeed : ByteArray := prog_10_method_30_code
def yX8_isFeed : MethodName := ⟨RX8, "isFeed", "(I)Z"⟩
abbrev cX8_plug : ByteArray := prog_10_method_31_code
def yX8_plug : MethodName := ⟨RX8, "plug", "(III)I"⟩
abbrev cX8_fail : ByteArray := prog_10_method_32_code
def yX8_fail : MethodName := ⟨RX8, "fail", "(IZ)I"⟩
abbrev cX8_isDead : ByteArray := prog_10_method_33_code
def yX8_isDead : MethodName := ⟨RX8, "isDead", "(I)Z"⟩
abbrev cX8_lives : ByteArray := prog_10_method_34_code
def yX8_lives : MethodName := ⟨RX8, "lives", "(II)Z"⟩
abbrev cX8_isDark : ByteArray := prog_10_method_35_code
def yX8_isDark : MethodName := ⟨RX8, "isDark", "(I)Z"⟩
abbrev cX8_drawn : ByteArray := prog_10_method_36_code
def yX8_drawn : MethodName := ⟨RX8, "drawn", "(II)I"⟩
abbrev cX8_isUnder : ByteArray := prog_10_method_37_code
def yX8_isUnder : MethodName := ⟨RX8, "isUnder", "(II)Z"⟩
abbrev cX8_goes : ByteArray := prog_10_method_38_code
def yX8_goes : MethodName := ⟨RX8, "goes", "(I)I"⟩
abbrev cX8_through : ByteArray := prog_10_method_39_code
def yX8_through : MethodName := ⟨RX8, "through", "(I)I"⟩
abbrev cX8_state : ByteArray := prog_10_method_40_code
def yX8_state : MethodName := ⟨RX8, "state", "(I)I"⟩
abbrev cX8_weak : ByteArray := prog_10_method_41_code
def yX8_weak : MethodName := ⟨RX8, "weak", "()I"⟩
abbrev cX8_cause : ByteArray := prog_10_method_42_code
def yX8_cause : MethodName := ⟨RX8, "cause", "(I)I"⟩
abbrev cX8_seen : ByteArray := prog_10_method_43_code
def yX8_seen : MethodName := ⟨RX8, "seen", "(I)I"⟩
abbrev cX8_roots : ByteArray := prog_10_method_44_code
def yX8_roots : MethodName := ⟨RX8, "roots", "()I"⟩
abbrev cX8_strange : ByteArray := prog_10_method_45_code
def yX8_strange : MethodName := ⟨RX8, "strange", "()I"⟩
abbrev cX8_meter : ByteArray := prog_10_method_46_code
def yX8_meter : MethodName := ⟨RX8, "meter", "(I)I"⟩
abbrev cX8_isMeter : ByteArray := prog_10_method_47_code
def yX8_isMeter : MethodName := ⟨RX8, "isMeter", "(I)Z"⟩
abbrev cX8_reads : ByteArray := prog_10_method_48_code
def yX8_reads : MethodName := ⟨RX8, "reads", "(II)I"⟩
abbrev cX8_loses : ByteArray := prog_10_method_49_code
def yX8_loses : MethodName := ⟨RX8, "loses", "(I)I"⟩
abbrev cX8_areKnown : ByteArray := prog_10_method_50_code
def yX8_areKnown : MethodName := ⟨RX8, "areKnown", "(III)Z"⟩
abbrev cX8_know : ByteArray := prog_10_method_51_code
def yX8_know : MethodName := ⟨RX8, "know", "()V"⟩
abbrev cX8_known : ByteArray := prog_10_method_52_code
def yX8_known : MethodName := ⟨RX8, "known", "(I)I"⟩
abbrev cX8_quarrel : ByteArray := prog_10_method_53_code
def yX8_quarrel : MethodName := ⟨RX8, "quarrel", "()I"⟩
abbrev cX8_count : ByteArray := prog_10_method_54_code
def yX8_count : MethodName := ⟨RX8, "count", "(I)I"⟩
def RJ6 : String := "java/lang/Integer"
def TJ6 : u_T := fun k => match k with
  | _ => ("", "", "", false)
def tyJ6 : Nat → FieldType := fun k => match k with
  | _ => .int
theorem nmJ6 : ∀ a, a < 0 → ∀ b, b < 0 → a ≠ b → (TJ6 a).2.1 ≠ (TJ6 b).2.1 := by decide +kernel
theorem tyJ6_ok : ∀ k, k < 0 → parseFieldDescriptor (TJ6 k).2.2.1 = some (tyJ6 k) := by decide +kernel
abbrev cJ6_numberOfTrailingZeros_0f7a4 : ByteArray := prog_11_method_48_code
def yJ6_numberOfTrailingZeros_0f7a4 : MethodName := ⟨RJ6, "numberOfTrailingZeros", "(I)I"⟩
abbrev cJ6_bitCount_0f7a4 : ByteArray := prog_11_method_49_code
def yJ6_bitCount_0f7a4 : MethodName := ⟨RJ6, "bitCount", "(I)I"⟩
def RJ9 : String := "java/lang/Math"
def TJ9 : u_T := fun k => match k with
  | _ => ("", "", "", false)
def tyJ9 : Nat → FieldType := fun k => match k with
  | _ => .int
theorem nmJ9 : ∀ a, a < 0 → ∀ b, b < 0 → a ≠ b → (TJ9 a).2.1 ≠ (TJ9 b).2.1 := by decide +kernel
theorem tyJ9_ok : ∀ k, k < 0 → parseFieldDescriptor (TJ9 k).2.2.1 = some (tyJ9 k) := by decide +kernel
abbrev cJ9_max_7cf53 : ByteArray := prog_12_method_65_code
def yJ9_max_7cf53 : MethodName := ⟨RJ9, "max", "(II)I"⟩
def RJ10 : String := "java/lang/System"
def TJ10 : u_T := fun k => match k with
  | _ => ("", "", "", false)
def tyJ10 : Nat → FieldType := fun k => match k with
  | _ => .int
theorem nmJ10 : ∀ a, a < 0 → ∀ b, b < 0 → a ≠ b → (TJ10 a).2.1 ≠ (TJ10 b).2.1 := by decide +kernel
theorem tyJ10_ok : ∀ k, k < 0 → parseFieldDescriptor (TJ10 k).2.2.1 = some (tyJ10 k) := by decide +kernel
def RJ7 : String := "java/util/Arrays"
def TJ7 : u_T := fun k => match k with
  | _ => ("", "", "", false)
def tyJ7 : Nat → FieldType := fun k => match k with
  | _ => .int
theorem nmJ7 : ∀ a, a < 0 → ∀ b, b < 0 → a ≠ b → (TJ7 a).2.1 ≠ (TJ7 b).2.1 := by decide +kernel
theorem tyJ7_ok : ∀ k, k < 0 → parseFieldDescriptor (TJ7 k).2.2.1 = some (tyJ7 k) := by decide +kernel
abbrev cJ7_fill_d0a16 : ByteArray := prog_14_method_101_code
def yJ7_fill_d0a16 : MethodName := ⟨RJ7, "fill", "([JJ)V"⟩
abbrev cJ7_fill_53178 : ByteArray := prog_14_method_103_code
def yJ7_fill_53178 : MethodName := ⟨RJ7, "fill", "([II)V"⟩
def RL : String := "ColdRowsLaw"
abbrev cL_law : ByteArray := code
def yL_law : MethodName := ⟨RL, "law", "([I)Z"⟩
end
section
/-! the uniform world: every cell of the class and of the reference has a number; what it holds is a function of two tables -/
abbrev ux_G : Type := (Nat → ClassId) × (Nat → Nat → Nat) × (Nat → ClassId) × (Nat → Nat)
abbrev ux_S : Type := (Nat → Nat → Int32) × (Nat → Nat → Int64)
def ux_WA : List Cond := lw_tbl.filter goodWord
theorem ux_ms {w : Cond} (k : Nat) (h : (k2_sels lw_privs)[k]? = some w) (hg : goodWord w = true) : w ∈ ux_WA := List.mem_filter.mpr ⟨List.mem_append_left _ (List.mem_of_getElem? h), hg⟩
theorem ux_m1 {w : Cond} (k : Nat) (h : tables_1_1[k]? = some w) (hg : goodWord w = true) : w ∈ ux_WA := List.mem_filter.mpr ⟨List.mem_append_right _ (List.mem_append_left _ (List.mem_of_getElem? h)), hg⟩
theorem ux_m2 {w : Cond} (k : Nat) (h : tables_1_2[k]? = some w) (hg : goodWord w = true) : w ∈ ux_WA := List.mem_filter.mpr ⟨List.mem_append_right _ (List.mem_append_right _ (List.mem_append_left _ (List.mem_of_getElem? h))), hg⟩
theorem ux_m3 {w : Cond} (k : Nat) (h : tables_1_3[k]? = some w) (hg : goodWord w = true) : w ∈ ux_WA := List.mem_filter.mpr ⟨List.mem_append_right _ (List.mem_append_right _ (List.mem_append_right _ (List.mem_append_left _ (List.mem_of_getElem? h)))), hg⟩
theorem ux_m4 {w : Cond} (k : Nat) (h : tables_1_4[k]? = some w) (hg : goodWord w = true) : w ∈ ux_WA := List.mem_filter.mpr ⟨List.mem_append_right _ (List.mem_append_right _ (List.mem_append_right _ (List.mem_append_right _ (List.mem_append_left _ (List.mem_of_getElem? h))))), hg⟩
theorem ux_m5 {w : Cond} (k : Nat) (h : tables_1_5[k]? = some w) (hg : goodWord w = true) : w ∈ ux_WA := List.mem_filter.mpr ⟨List.mem_append_right _ (List.mem_append_right _ (List.mem_append_right _ (List.mem_append_right _ (List.mem_append_right _ (List.mem_of_getElem? h))))), hg⟩
abbrev ux_cl : List vw_C := [(RX0, TX0, 3), (RX1, TX1, 6), (RX2, TX2, 8), (RX3, TX3, 6), (RX4, TX4, 8), (RX5, TX5, 2), (RX6, TX6, 3), (RX7, TX7, 7), (RX8, TX8, 38)]
def ux_D (G : ux_G) : va_G := (G.1, G.2.1)
def ux_a (G : ux_G) (i : Nat) : Nat := G.2.2.2 i
def ux_ty (G : ux_G) : List (ClassId × FieldType) := [(G.2.2.1 0, .int), (G.2.2.1 1, .long), (G.2.2.1 2, .boolean), (G.2.2.1 3, .array .int), (G.2.2.1 4, .array .long)]
def ux_kL : List (Nat × Nat) := [(5, 7), (5, 2), (5, 5), (5, 4), (5, 6), (5, 1), (5, 0), (5, 3), (5, 8),
  (0, 8), (0, 8), (0, 8), (0, 8), (3, 8), (0, 8), (0, 8), (0, 8), (0, 8), (0, 8), (0, 8), (0, 8), (0, 8),
  (0, 21),
  (0, 5), (0, 5), (0, 5), (0, 5), (0, 8), (3, 6), (0, 8), (0, 8), (0, 8), (0, 8), (0, 8), (0, 8),
  (4, 4), (1, 64), (1, 64), (1, 64), (1, 64), (0, 4), (0, 4),
  (0, 16), (0, 16), (3, 2), (0, 8), (0, 8), (0, 16),
  (0, 10),
  (0, 12), (2, 12), (0, 12), (2, 12), (0, 12),
  (0, 8), (0, 8), (0, 8), (0, 8), (0, 64), (0, 21), (0, 5), (0, 5), (0, 8), (0, 4), (0, 4), (1, 256), (0, 5), (0, 8), (0, 5), (0, 16), (0, 16), (2, 16), (0, 16), (0, 10), (0, 12), (2, 12), (0, 12), (2, 12), (0, 12)]
def ux_k (i : Nat) : Nat × Nat := ux_kL.getD i (9, 0)
def ux_f (i : Nat) : List Nat := match i with
  | 0 => [1, 2, 3, 4, 5, 6, 7]
  | 1 => [9, 10, 11, 12, 13, 0, 0, 0]
  | 2 => [22, 0]
  | 3 => [23, 24, 0, 25, 26, 27, 28, 0]
  | 4 => [35, 40, 41]
  | 5 => [42, 43, 44, 47, 0, 0]
  | 6 => [48, 0, 0]
  | 7 => [49, 50, 51, 52, 53, 0]
  | _ => [0, 54, 55, 56, 57, 58, 0, 0, 59, 0, 0, 60, 61, 62, 63, 64, 65, 66, 67, 0, 0, 68, 0, 69, 70, 71, 72, 0, 0, 73, 0, 0, 74, 75, 76, 77, 78, 0]
def ux_v (G : ux_G) (t : Nat) (x : Int32) : Value := match t with
  | 0 => .int x
  | t + 1 => .ref (ux_a G (t + 1))
def ux_vs (G : ux_G) (i : Nat) (a : Nat → Int32) : List Value := (List.range (ux_f i).length).map (fun k => ux_v G ((ux_f i).getD k 0) (a k))
def ux_e (G : ux_G) (i : Nat) (a : Nat → Int32) (b : Nat → Int64) : va_E := match ux_k i with
  | (0, n) => .inl (G.2.2.1 0, n, .inl a)
  | (1, n) => .inl (G.2.2.1 1, n, .inr (.inl b))
  | (2, n) => .inl (G.2.2.1 2, n, .inl a)
  | (3, n) => .inl (G.2.2.1 3, n, .inr (.inr (.inr (.inr (fun j => some (ux_a G (i + 1 + j)))))))
  | (4, n) => .inl (G.2.2.1 4, n, .inr (.inr (.inr (.inr (fun j => some (ux_a G (i + 1 + j)))))))
  | (_, ci) => .inr (ci, ux_vs G i a)
def ux_w (G : ux_G) (S : ux_S) : va_W := (List.range 79).map (fun i => (ux_a G i, ux_e G i (S.1 i) (S.2 i)))
def ux_A (G : ux_G) : Nat → Prop := fun q => ∃ k, k < 79 ∧ q = ux_a G k
def ux_i (S : ux_S) (i k : Nat) (v : Int32) : ux_S := (fun j => if j = i then upd (S.1 i) k v else S.1 j, S.2)
def ux_l (S : ux_S) (i k : Nat) (v : Int64) : ux_S := (S.1, fun j => if j = i then vp_updL (S.2 i) k v else S.2 j)
theorem ux_wget {G : ux_G} {S : ux_S} {i : Nat} (hi : i < 79) : (ux_w G S)[i]? = some (ux_a G i, ux_e G i (S.1 i) (S.2 i)) := by
  unfold ux_w
  rw [List.getElem?_map, List.getElem?_range hi]
  rfl
theorem ux_wset {G : ux_G} {S Z : ux_S} {i : Nat} {e : va_E} (hi : i < 79) (he : e = ux_e G i (Z.1 i) (Z.2 i)) (h1 : ∀ j, j ≠ i → Z.1 j = S.1 j) (h2 : ∀ j, j ≠ i → Z.2 j = S.2 j) : (ux_w G S).set i (ux_a G i, e) = ux_w G Z := by
  subst he
  have hl : ∀ Y : ux_S, (ux_w G Y).length = 79 := fun Y => by unfold ux_w; simp
  apply List.ext_getElem?
  intro j
  by_cases hj : j = i
  · subst hj
    rw [List.getElem?_set_self (by rw [hl]; exact hi), ux_wget hi]
  · rw [List.getElem?_set_ne (Ne.symm hj)]
    by_cases hl2 : j < 79
    · rw [ux_wget hl2, ux_wget hl2, h1 j hj, h2 j hj]
    · rw [List.getElem?_eq_none (by rw [hl]; omega), List.getElem?_eq_none (by rw [hl]; omega)]
def ux_K (G : ux_G) (U : State) : Prop := (∀ i j : Nat, i < 79 → j < 79 → ux_a G i = ux_a G j → i = j) ∧ va_K (ux_D G) ux_cl (ux_ty G) U ∧ va_Nw (.methodLinkNest RX2 43 yX7_divideUp RX7) U ∧ va_Nw (.methodLinkNest RX4 90 yX7_divideUp RX7) U ∧ va_Nw (.methodLinkNest RX5 25 yX7_divideUp RX7) U
theorem ux_K.warm {G : ux_G} {s U : State} (h : ux_K G s) (hW : s.WarmedH U.vm) : ux_K G U := ⟨h.1, va_K.moved hW.alike h.2.1, va_Nw.warmM hW h.2.2.1, va_Nw.warmM hW h.2.2.2.1, va_Nw.warmM hW h.2.2.2.2⟩
theorem ux_K.same {G : ux_G} {s U : State} (h : ux_K G s) (hv : s.vm = U.vm) : ux_K G U := ⟨h.1, va_K.moved (by rw [hv]; exact Vm.Alike.refl _) h.2.1, va_Nw.same rfl hv h.2.2.1, va_Nw.same rfl hv h.2.2.2.1, va_Nw.same rfl hv h.2.2.2.2⟩
theorem ux_wD {G : ux_G} {S : ux_S} {A : Nat → Prop} (hj : ∀ i j : Nat, i < 79 → j < 79 → ux_a G i = ux_a G j → i = j) (hA : ∀ i, i < 79 → A (ux_a G i)) : va_D A (ux_w G S) := by
  have key : ∀ (k : Nat) (q : Nat × va_E), (ux_w G S)[k]? = some q → k < 79 ∧ q.1 = ux_a G k := by
    intro k q hk
    by_cases h : k < 79
    · rw [ux_wget h] at hk
      cases hk
      exact ⟨h, rfl⟩
    · rw [List.getElem?_eq_none (by unfold ux_w; simp; omega)] at hk
      cases hk
  refine ⟨fun i j x y hi hj2 hxy => ?_, fun k q hk => ?_⟩
  · obtain ⟨a1, a2⟩ := key i x hi
    obtain ⟨b1, b2⟩ := key j y hj2
    exact hj i j a1 b1 (by rw [← a2, ← b2]; exact hxy)
  · obtain ⟨a1, a2⟩ := key k q hk
    rw [a2]
    exact hA k a1
theorem ux_e0 {G : ux_G} {i n : Nat} {a : Nat → Int32} {b : Nat → Int64} (h : ux_k i = (0, n)) : ux_e G i a b = .inl (G.2.2.1 0, n, .inl a) := by
  unfold ux_e
  rw [h]
  try rfl
theorem ux_e1 {G : ux_G} {i n : Nat} {a : Nat → Int32} {b : Nat → Int64} (h : ux_k i = (1, n)) : ux_e G i a b = .inl (G.2.2.1 1, n, .inr (.inl b)) := by
  unfold ux_e
  rw [h]
  try rfl
theorem ux_e2 {G : ux_G} {i n : Nat} {a : Nat → Int32} {b : Nat → Int64} (h : ux_k i = (2, n)) : ux_e G i a b = .inl (G.2.2.1 2, n, .inl a) := by
  unfold ux_e
  rw [h]
  try rfl
theorem ux_e3 {G : ux_G} {i n : Nat} {a : Nat → Int32} {b : Nat → Int64} (h : ux_k i = (3, n)) : ux_e G i a b = .inl (G.2.2.1 3, n, .inr (.inr (.inr (.inr (fun j => some (ux_a G (i + 1 + j))))))) := by
  unfold ux_e
  rw [h]
  try rfl
theorem ux_e4 {G : ux_G} {i n : Nat} {a : Nat → Int32} {b : Nat → Int64} (h : ux_k i = (4, n)) : ux_e G i a b = .inl (G.2.2.1 4, n, .inr (.inr (.inr (.inr (fun j => some (ux_a G (i + 1 + j))))))) := by
  unfold ux_e
  rw [h]
  try rfl
theorem ux_eO {G : ux_G} {i ci : Nat} {a : Nat → Int32} {b : Nat → Int64} (h : ux_k i = (5, ci)) : ux_e G i a b = .inr (ci, ux_vs G i a) := by
  unfold ux_e
  rw [h]
  try rfl
/-! contracts -/
def ux_P (G : ux_G) (av : List Value) (S : ux_S) : Array Value → State → Prop := va_Pc av (fun U => va_P (ux_D G) ux_cl (ux_w G S) U.heap ∧ ux_K G U)
def ux_Q (G : ux_G) (rv : Option Value) (Z : ux_S) : Array Value → State → Outcome → State → Prop := fun _ st o t => o = .returned rv ∧ va_P (ux_D G) ux_cl (ux_w G Z) t.heap ∧ va_F (ux_A G) st t
def ux_rm (d : Nat) : Room := { frames := d, cells := 0, slots := 0, locals := 40 * d }
def ux_M (l : Launch) (G : ux_G) (y : MethodName) (cc : ByteArray) (nL : Nat) (rt : Option FieldType) (d : Nat) (av : List Value) (S : ux_S) (rv : Option Value) (Z : ux_S) : Prop :=
  Met l y (.code y cc nL rt :: ux_WA) (ux_rm d) (ux_P G av S) (ux_Q G rv Z) 0 0 (ux_A G)
theorem ux_P.blind {G : ux_G} {av : List Value} {S : ux_S} : FrameBlind (ux_P G av S) := by
  intro a U g mk q
  obtain ⟨q0, qP, qK⟩ := q
  exact ⟨q0, qP, qK.same rfl⟩
/-- inside a method: the machine, the code, the words, the tables -/
def ux_X (p : Program) (s : State) (m : MethodId) (args : Array Value) (meth : Method) (c : Code) (G : ux_G) (own : String) (cc : ByteArray) (nL : Nat) (rt : Option FieldType) : Prop :=
  p.tables.exec = Jvm.exec ∧ c.code = cc ∧ c.maxLocals = nL ∧ s.vm.findClass own = some m.cls ∧ (∀ w ∈ ux_WA, w.before args s = true) ∧ meth.sig.returnType = rt ∧ meth.locks = false ∧ ux_K G s
def ux_H (G : ux_G) (H0 : Heap) (S : ux_S) (H : Heap) (locs : List Loc) : Prop := va_P (ux_D G) ux_cl (ux_w G S) H ∧ va_S (ux_A G) H0 H locs
def ux_At (l : Launch) (G : ux_G) (own : String) (cc : ByteArray) (nL : Nat) (rt : Option FieldType) (d : Nat) (rv : Option Value) (Z : ux_S) (pc : Nat) (lv : List (Nat × Value)) (st : List Value) (S : ux_S) : Prop :=
  ∀ (p : Program) (e : Env) (s : State) (m : MethodId) (args : Array Value) (below : List Frame) (meth : Method) (c : Code), ux_X p s m args meth c G own cc nL rt → ∀ (ls : Array Slot), lv_has ls nL lv → ∀ (H : Heap) (locs : List Loc), ux_H G s.heap S H locs → W p l e (ux_rm d) s m args below meth c H locs 0 0 (MQ below (ux_Q G rv Z) args s 0 0 (ux_A G)) (F0 m pc ls st)
theorem ux_of {l : Launch} {G : ux_G} {y : MethodName} {cc : ByteArray} {nL : Nat} {rt : Option FieldType} {d : Nat} {av : List Value} {S : ux_S} {rv : Option Value} {Z : ux_S} (hy : plainName y.cls = true) (hn : (lg_sl av).length ≤ nL) (h : ux_At l G y.cls cc nL rt d rv Z 0 (lv_args 0 av) [] S) : ux_M l G y cc nL rt d av S rv Z := by
  refine Met.ofW (cc := cc) (maxL := nL) (ret := rt) hy rfl ?_
  intro p e s m args below meth c s₁ B hml hv
  obtain ⟨rfl, hP, hK⟩ := hv
  have hts := atoms_spec (ws := .code y cc nL rt :: ux_WA) B.pre
  have hl := lv_entry av (n := nL) hn
  rw [lg_entry_eq]
  exact h p e s m av.toArray below meth c ⟨B.exec, B.bytes, hml, findClass_of_methodNamed B.named, fun w hw => hts w (List.mem_cons_of_mem _ hw), B.returns, B.notSynchronized, hK⟩ _ hl s.heap [] ⟨hP, va_S.rf⟩
/-! calls -/
theorem ux_in {ws : List Cond} (h : ∀ w ∈ ws, w ∈ ux_WA) : GoodIn ux_WA ws := fun w hw => ⟨h w hw, good_of_word (List.mem_filter.mp (h w hw)).2⟩
/-- what the tables say of a call -/
def ux_d (y : MethodName) (n : Nat) : Prop := y.cls ≠ "java/lang/invoke/MethodHandle" ∧ y.cls ≠ "java/lang/invoke/VarHandle" ∧ (parseMethodDescriptor y.desc).map (fun d => d.parameters.length) = some n
def ux_FV (own : String) (idx : Nat) (C : String) (y : MethodName) (cc : ByteArray) (nL : Nat) (rt : Option FieldType) (n : Nat) : Prop :=
  Cond.methodLink own idx y ∈ ux_WA ∧ Cond.instanceMethod y ∈ ux_WA ∧ Cond.selects C y y ∈ ux_WA ∧ Cond.initialized C ∈ ux_WA ∧ Cond.code y cc nL rt ∈ ux_WA ∧ y.cls = C ∧ ux_d y n ∧ nL ≤ 20
def ux_FS (own : String) (idx : Nat) (y : MethodName) (cc : ByteArray) (nL : Nat) (rt : Option FieldType) (n : Nat) : Prop :=
  Cond.methodLink own idx y ∈ ux_WA ∧ Cond.static y ∈ ux_WA ∧ Cond.initialized y.cls ∈ ux_WA ∧ Cond.code y cc nL rt ∈ ux_WA ∧ ux_d y n ∧ nL ≤ 20
def ux_FN (y : MethodName) (cc : ByteArray) (nL : Nat) (rt : Option FieldType) (n : Nat) : Prop :=
  Cond.static y ∈ ux_WA ∧ Cond.initialized y.cls ∈ ux_WA ∧ Cond.code y cc nL rt ∈ ux_WA ∧ ux_d y n ∧ nL ≤ 20
section UXC
variable {p : Program} {l : Launch} {e : Env} {R : Room} {s : State} {m : MethodId} {args : Array Value} {below : List Frame} {meth : Method} {c : Code} {H : Heap} {locs : List Loc} {cells slots : Nat} {Q : State → Prop}
variable {pc : Nat} {ls : Array Slot} {rest st0 : List Value} {a : Array Value} {A0 : Nat → Prop} {H0 : Heap} {G : ux_G} {S Z : ux_S} {rv : Option Value}
variable {own C : String} {cc ccy : ByteArray} {nL nLy idx n d i ci : Nat} {y : MethodName} {rty : Option FieldType} {As : List Value}
theorem ux_run (hr : va_Run p l e R s m args below meth c H locs cells slots 0 0 (F0 m pc ls st0) rest (ux_Q G rv Z a) (ux_A G)) (hA : ∀ q, ux_A G q → A0 q) (hS : va_S A0 H0 H locs)
    (kk : ∀ (H1 : Heap) (locs1 : List Loc), va_P (ux_D G) ux_cl (ux_w G Z) H1 → va_S A0 H0 H1 locs1 → W p l e R s m args below meth c H1 locs1 cells slots Q (F0 m (pc + 3) ls (rv.toList ++ rest))) : W p l e R s m args below meth c H locs cells slots Q (F0 m pc ls st0) := by
  intro T hT X
  obtain ⟨v, st₀, t, T', L, h0, X', hL, e1, e2, ⟨hv, hp, hz, hk⟩, st⟩ := hr T hT X
  cases hv
  rw [h0] at hz hk
  obtain ⟨t2, a1, b1⟩ := kk T'.heap (locs ++ L) (by rw [e1]; exact hp)
    ⟨Nat.le_trans hS.1 (by rw [e1]; exact hz), fun q h1 h2 => by rw [e1, hk q (Nat.lt_of_lt_of_le h1 hS.1) (fun z => h2 (hA q z))]; exact hS.2.1 q h1 h2, fun q hq => by
      rcases List.mem_append.mp hq with h | h
      · exact hS.2.2 q h
      · exact hA _ (hL q h)⟩ T' rfl X'
  exact ⟨t2, st t2 a1, b1⟩
theorem ux_pre (hK : ux_K G s) (hP : va_P (ux_D G) ux_cl (ux_w G S) H) : PreS s H (ux_P G As S) As := ⟨ux_P.blind, fun U hU hW => ⟨rfl, by rw [hU]; exact hP, hK.warm hW⟩⟩
theorem ux_recv {q : vw_C} (hK : ux_K G s) (hP : va_P (ux_D G) ux_cl (ux_w G S) H) (hi : i < 79) (hk : ux_k i = (5, ci)) (hc : ux_cl[ci]? = some q) : ∃ cell : Cell, H[ux_a G i]? = some cell ∧ cell.vm.isStatics = false ∧ s.vm.findClass q.1 = some cell.cls := by
  have he : (ux_w G S)[i]? = some (ux_a G i, .inr (ci, ux_vs G i (S.1 i))) := by
    rw [ux_wget hi]
    unfold ux_e
    rw [hk]
    try rfl
  exact va_recv hK.2.1 hP hc he
theorem ux_runV (Sx : CallFix p m c cc nL s args ux_WA own) (hM : ux_M l G y ccy nLy rty d (.ref (ux_a G i) :: As) S rv Z) (F : ux_FV own idx C y ccy nLy rty n) (hR : d + 1 ≤ R.frames ∧ 40 * (d + 1) ≤ R.locals ∧ cells ≤ R.cells ∧ slots ≤ R.slots) (hK : ux_K G s) (hP : va_P (ux_D G) ux_cl (ux_w G S) H) (hi : i < 79) (hk : ux_k i = (5, ci)) {T : u_T} {N : Nat} (hc : ux_cl[ci]? = some (C, T, N))
    (hn : As.length = n) (hl : ls.size = nL) (hst : st0 = As.reverse ++ .ref (ux_a G i) :: rest) (hcat : (rest.map fun v => v.category).sum ≤ 8) (hdg : decode cc pc = .ok (.invokevirtual idx, 3)) :
    va_Run p l e R s m args below meth c H locs cells slots 0 0 (F0 m pc ls st0) rest (ux_Q G rv Z (Value.ref (ux_a G i) :: As).toArray) (ux_A G) := by
  obtain ⟨f1, f2, f3, f4, f5, f6, f7, f8⟩ := F
  have hG : GoodIn ux_WA (wsV own idx C y (.code y ccy nLy rty :: ux_WA)) := ux_in (fun w hw => by
    unfold wsV at hw
    rcases List.mem_append.mp hw with h | h
    · simp only [List.mem_cons, List.not_mem_nil, or_false] at h
      rcases h with rfl | rfl | rfl | rfl
      · exact f1
      · exact f2
      · exact f3
      · exact f4
    · rcases List.mem_cons.mp h with rfl | h
      · exact f5
      · exact h)
  refine va_runV (b := ux_a G i) (As := As) (rest := rest) (C := C) (bytes := ccy) (maxL := nLy) (ret := rty) (n := n) (nL := nL) Sx hM (cwV n Sx.2.2.2.2 hG rfl rfl rfl ⟨f6, f7⟩ ⟨hR.1, ?_⟩) ⟨ux_P.blind, ux_recv hK hP hi hk hc, fun U hU hW => ⟨rfl, by rw [hU]; exact hP, hK.warm hW⟩⟩ rfl hn hl hst (lv_room hcat) hdg ⟨hR.2.2.1, hR.2.2.2⟩
  show 8 + (nLy + 11) + 40 * d ≤ R.locals
  have := hR.2.1
  omega
theorem ux_runS (Sx : CallFix p m c cc nL s args ux_WA own) (hM : ux_M l G y ccy nLy rty d As S rv Z) (F : ux_FS own idx y ccy nLy rty n) (hR : d + 1 ≤ R.frames ∧ 40 * (d + 1) ≤ R.locals ∧ cells ≤ R.cells ∧ slots ≤ R.slots) (hK : ux_K G s) (hP : va_P (ux_D G) ux_cl (ux_w G S) H)
    (hn : As.length = n) (hl : ls.size = nL) (hst : st0 = As.reverse ++ rest) (hcat : (rest.map fun v => v.category).sum ≤ 8) (hdg : decode cc pc = .ok (.invokestatic idx, 3)) :
    va_Run p l e R s m args below meth c H locs cells slots 0 0 (F0 m pc ls st0) rest (ux_Q G rv Z As.toArray) (ux_A G) := by
  obtain ⟨f1, f2, f3, f4, f5, f6⟩ := F
  have hG : GoodIn ux_WA (va_wsS own idx y (.code y ccy nLy rty :: ux_WA)) := ux_in (fun w hw => by
    unfold va_wsS at hw
    rcases List.mem_append.mp hw with h | h
    · simp only [List.mem_cons, List.not_mem_nil, or_false] at h
      rcases h with rfl | rfl | rfl
      · exact f1
      · exact f2
      · exact f3
    · rcases List.mem_cons.mp h with rfl | h
      · exact f4
      · exact h)
  refine va_runS (As := As) (rest := rest) (bytes := ccy) (maxL := nLy) (ret := rty) (n := n) (nL := nL) Sx hM (va_cwS n Sx.2.2.2.2 hG rfl rfl rfl f5 ⟨hR.1, ?_⟩) (ux_pre hK hP) rfl hn hl hst (lv_room hcat) hdg ⟨hR.2.2.1, hR.2.2.2⟩
  show 8 + (nLy + 11) + 40 * d ≤ R.locals
  have := hR.2.1
  omega
theorem ux_runN {host : String} (Sx : CallFix p m c cc nL s args ux_WA own) (hM : ux_M l G y ccy nLy rty d As S rv Z) (F : ux_FN y ccy nLy rty n) (hN : va_Nw (.methodLinkNest own idx y host) s) (hR : d + 1 ≤ R.frames ∧ 40 * (d + 1) ≤ R.locals ∧ cells ≤ R.cells ∧ slots ≤ R.slots) (hK : ux_K G s) (hP : va_P (ux_D G) ux_cl (ux_w G S) H)
    (hn : As.length = n) (hl : ls.size = nL) (hst : st0 = As.reverse ++ rest) (hcat : (rest.map fun v => v.category).sum ≤ 8) (hdg : decode cc pc = .ok (.invokestatic idx, 3)) :
    va_Run p l e R s m args below meth c H locs cells slots 0 0 (F0 m pc ls st0) rest (ux_Q G rv Z As.toArray) (ux_A G) := by
  obtain ⟨f2, f3, f4, f5, f6⟩ := F
  have hG : GoodIn ux_WA (.code y ccy nLy rty :: ux_WA) := ux_in (fun w hw => by
    rcases List.mem_cons.mp hw with rfl | h
    · exact f4
    · exact h)
  refine va_runSN (As := As) (rest := rest) (bytes := ccy) (maxL := nLy) (ret := rty) (n := n) (nL := nL) (host := host) Sx hM ⟨va_cnB n Sx.2.2.2.2 hG rfl rfl rfl hN (Sx.2.2.2.2 _ f3) f5 ⟨hR.1, ?_⟩, Sx.2.2.2.2 _ f2, trivial⟩ (ux_pre hK hP) rfl hn hl hst (lv_room hcat) hdg ⟨hR.2.2.1, hR.2.2.2⟩
  show 8 + (nLy + 11) + 40 * d ≤ R.locals
  have := hR.2.1
  omega
end UXC
end
section
section UXR
variable {l : Launch} {G : ux_G} {own : String} {cc : ByteArray} {nL : Nat} {rt : Option FieldType} {d : Nat} {rv : Option Value} {Z : ux_S} {pc : Nat} {lv : List (Nat × Value)} {rest : List Value} {S : ux_S}
theorem ax_iconst {n : Int} {v : Int32} (q : Nat) (hdg : decode cc pc = .ok (.iconst n, 1)) (hv : Int32.ofInt n = v) (hq : pc + 1 = q) (k : ux_At l G own cc nL rt d rv Z q lv (.int v :: rest) S) : ux_At l G own cc nL rt d rv Z pc lv rest S := by
  subst hq
  exact fun p e s m args below meth c X ls hl H locs hU => lv_iconst X.1 X.2.1 hdg hv (k p e s m args below meth c X ls hl H locs hU)
theorem ax_bipush {n : Int} {v : Int32} (q : Nat) (hdg : decode cc pc = .ok (.bipush n, 2)) (hv : (Int8.ofInt n).toInt32 = v) (hq : pc + 2 = q) (k : ux_At l G own cc nL rt d rv Z q lv (.int v :: rest) S) : ux_At l G own cc nL rt d rv Z pc lv rest S := by
  subst hq
  exact fun p e s m args below meth c X ls hl H locs hU => lv_bipush X.1 X.2.1 hdg hv (k p e s m args below meth c X ls hl H locs hU)
theorem ax_sipush {n : Int} {v : Int32} (q : Nat) (hdg : decode cc pc = .ok (.sipush n, 3)) (hv : (Int16.ofInt n).toInt32 = v) (hq : pc + 3 = q) (k : ux_At l G own cc nL rt d rv Z q lv (.int v :: rest) S) : ux_At l G own cc nL rt d rv Z pc lv rest S := by
  subst hq
  exact fun p e s m args below meth c X ls hl H locs hU => lv_sipush X.1 X.2.1 hdg hv (k p e s m args below meth c X ls hl H locs hU)
theorem ax_lconst {n : Fin 2} {v : Int64} (q : Nat) (hdg : decode cc pc = .ok (.lconst n, 1)) (hv : Int64.ofNat (n : Nat) = v) (hq : pc + 1 = q) (k : ux_At l G own cc nL rt d rv Z q lv (.long v :: rest) S) : ux_At l G own cc nL rt d rv Z pc lv rest S := by
  subst hq
  exact fun p e s m args below meth c X ls hl H locs hU => lv_lconst X.1 X.2.1 hdg hv (k p e s m args below meth c X ls hl H locs hU)
theorem ax_ldc {idx : Nat} {v : Int32} (q : Nat) (hdg : decode cc pc = .ok (.ldc idx, 2)) (hc : Cond.constant own idx v ∈ ux_WA) (hq : pc + 2 = q) (k : ux_At l G own cc nL rt d rv Z q lv (.int v :: rest) S) : ux_At l G own cc nL rt d rv Z pc lv rest S := by
  subst hq
  exact fun p e s m args below meth c X ls hl H locs hU => lv_ldc X.1 X.2.1 X.2.2.2.1 (X.2.2.2.2.1 _ hc) hdg (k p e s m args below meth c X ls hl H locs hU)
theorem ax_ldcw {idx : Nat} {v : Int32} (q : Nat) (hdg : decode cc pc = .ok (.ldc_w idx, 3)) (hc : Cond.constant own idx v ∈ ux_WA) (hq : pc + 3 = q) (k : ux_At l G own cc nL rt d rv Z q lv (.int v :: rest) S) : ux_At l G own cc nL rt d rv Z pc lv rest S := by
  subst hq
  exact fun p e s m args below meth c X ls hl H locs hU => lv_ldcw X.1 X.2.1 X.2.2.2.1 (X.2.2.2.2.1 _ hc) hdg (k p e s m args below meth c X ls hl H locs hU)
theorem ax_ldc2 {idx : Nat} {v : Int64} (q : Nat) (hdg : decode cc pc = .ok (.ldc2_w idx, 3)) (hc : Cond.constantLong own idx v ∈ ux_WA) (hq : pc + 3 = q) (k : ux_At l G own cc nL rt d rv Z q lv (.long v :: rest) S) : ux_At l G own cc nL rt d rv Z pc lv rest S := by
  subst hq
  exact fun p e s m args below meth c X ls hl H locs hU => lv_ldc2 X.1 X.2.1 X.2.2.2.1 (X.2.2.2.2.1 _ hc) hdg (k p e s m args below meth c X ls hl H locs hU)
theorem ax_iload_n {k0 : Fin 4} {i : Nat} {x : Int32} (q : Nat) (hdg : decode cc pc = .ok (.iload_n k0, 1)) (hi : (k0 : Nat) = i) (j : Nat) (hj : lv[j]? = some (i, .int x)) (hq : pc + 1 = q) (k : ux_At l G own cc nL rt d rv Z q lv (.int x :: rest) S) : ux_At l G own cc nL rt d rv Z pc lv rest S := by
  subst hq
  exact fun p e s m args below meth c X ls hl H locs hU => lv_iload_n X.1 X.2.1 hdg hi (lv_at hl j hj) (k p e s m args below meth c X ls hl H locs hU)
theorem ax_iload {i : Nat} {x : Int32} (q : Nat) (hdg : decode cc pc = .ok (.iload i, 2)) (j : Nat) (hj : lv[j]? = some (i, .int x)) (hq : pc + 2 = q) (k : ux_At l G own cc nL rt d rv Z q lv (.int x :: rest) S) : ux_At l G own cc nL rt d rv Z pc lv rest S := by
  subst hq
  exact fun p e s m args below meth c X ls hl H locs hU => lv_iload X.1 X.2.1 hdg (lv_at hl j hj) (k p e s m args below meth c X ls hl H locs hU)
theorem ax_lload_n {k0 : Fin 4} {i : Nat} {x : Int64} (q : Nat) (hdg : decode cc pc = .ok (.lload_n k0, 1)) (hi : (k0 : Nat) = i) (j : Nat) (hj : lv[j]? = some (i, .long x)) (hq : pc + 1 = q) (k : ux_At l G own cc nL rt d rv Z q lv (.long x :: rest) S) : ux_At l G own cc nL rt d rv Z pc lv rest S := by
  subst hq
  exact fun p e s m args below meth c X ls hl H locs hU => lv_lload_n X.1 X.2.1 hdg hi (lv_at hl j hj) (k p e s m args below meth c X ls hl H locs hU)
theorem ax_lload {i : Nat} {x : Int64} (q : Nat) (hdg : decode cc pc = .ok (.lload i, 2)) (j : Nat) (hj : lv[j]? = some (i, .long x)) (hq : pc + 2 = q) (k : ux_At l G own cc nL rt d rv Z q lv (.long x :: rest) S) : ux_At l G own cc nL rt d rv Z pc lv rest S := by
  subst hq
  exact fun p e s m args below meth c X ls hl H locs hU => lv_lload X.1 X.2.1 hdg (lv_at hl j hj) (k p e s m args below meth c X ls hl H locs hU)
theorem ax_aload_n {k0 : Fin 4} {i : Nat} {x : Nat} (q : Nat) (hdg : decode cc pc = .ok (.aload_n k0, 1)) (hi : (k0 : Nat) = i) (j : Nat) (hj : lv[j]? = some (i, .ref x)) (hq : pc + 1 = q) (k : ux_At l G own cc nL rt d rv Z q lv (.ref x :: rest) S) : ux_At l G own cc nL rt d rv Z pc lv rest S := by
  subst hq
  exact fun p e s m args below meth c X ls hl H locs hU => lv_aload_n X.1 X.2.1 hdg hi (lv_at hl j hj) (k p e s m args below meth c X ls hl H locs hU)
theorem ax_aload {i : Nat} {x : Nat} (q : Nat) (hdg : decode cc pc = .ok (.aload i, 2)) (j : Nat) (hj : lv[j]? = some (i, .ref x)) (hq : pc + 2 = q) (k : ux_At l G own cc nL rt d rv Z q lv (.ref x :: rest) S) : ux_At l G own cc nL rt d rv Z pc lv rest S := by
  subst hq
  exact fun p e s m args below meth c X ls hl H locs hU => lv_aload X.1 X.2.1 hdg (lv_at hl j hj) (k p e s m args below meth c X ls hl H locs hU)
theorem ax_istore_n {k0 : Fin 4} {i : Nat} {x : Int32} (q : Nat) (hdg : decode cc pc = .ok (.istore_n k0, 1)) (hi : (k0 : Nat) = i) (hn : i < nL) (ks : List Nat) (lv' : List (Nat × Value)) (hl' : lv_pick ((i, Value.int x) :: lv.filter (fun q => !(q.1 == i) && !(q.1 + 1 == i && q.2.category == 2))) ks = lv') (hq : pc + 1 = q) (k : ux_At l G own cc nL rt d rv Z q lv' rest S) : ux_At l G own cc nL rt d rv Z pc lv (.int x :: rest) S := by
  subst hq
  exact fun p e s m args below meth c X ls hl H locs hU => lv_istore_n X.1 X.2.1 hdg hi hl hn rfl (fun ls' hl2 => k p e s m args below meth c X ls' (lv_sub hl2 ks hl') H locs hU)
theorem ax_istore {i : Nat} {x : Int32} (q : Nat) (hdg : decode cc pc = .ok (.istore i, 2)) (hn : i < nL) (ks : List Nat) (lv' : List (Nat × Value)) (hl' : lv_pick ((i, Value.int x) :: lv.filter (fun q => !(q.1 == i) && !(q.1 + 1 == i && q.2.category == 2))) ks = lv') (hq : pc + 2 = q) (k : ux_At l G own cc nL rt d rv Z q lv' rest S) : ux_At l G own cc nL rt d rv Z pc lv (.int x :: rest) S := by
  subst hq
  exact fun p e s m args below meth c X ls hl H locs hU => lv_istore X.1 X.2.1 hdg hl hn rfl (fun ls' hl2 => k p e s m args below meth c X ls' (lv_sub hl2 ks hl') H locs hU)
theorem ax_iinc {i : Nat} {n : Int} {x v : Int32} (q : Nat) (hdg : decode cc pc = .ok (.iinc i n, 3)) (j : Nat) (hj : lv[j]? = some (i, .int x)) (hv : x + Int32.ofInt n = v) (hn : i < nL) (ks : List Nat) (lv' : List (Nat × Value)) (hl' : lv_pick ((i, Value.int v) :: lv.filter (fun q => !(q.1 == i) && !(q.1 + 1 == i && q.2.category == 2))) ks = lv') (hq : pc + 3 = q) (k : ux_At l G own cc nL rt d rv Z q lv' rest S) : ux_At l G own cc nL rt d rv Z pc lv rest S := by
  subst hq
  exact fun p e s m args below meth c X ls hl H locs hU => lv_iinc (k := j) X.1 X.2.1 hdg hl hj hv hn rfl (fun ls' hl2 => k p e s m args below meth c X ls' (lv_sub hl2 ks hl') H locs hU)
theorem ax_iadd {x y : Int32} (q : Nat) (hdg : decode cc pc = .ok (.iadd, 1))  (hq : pc + 1 = q) (k : ux_At l G own cc nL rt d rv Z q lv (.int (x + y) :: rest) S) : ux_At l G own cc nL rt d rv Z pc lv (.int y :: .int x :: rest) S := by
  subst hq
  exact fun p e s m args below meth c X ls hl H locs hU => lv_iadd X.1 X.2.1 hdg (k p e s m args below meth c X ls hl H locs hU)
theorem ax_isub {x y : Int32} (q : Nat) (hdg : decode cc pc = .ok (.isub, 1))  (hq : pc + 1 = q) (k : ux_At l G own cc nL rt d rv Z q lv (.int (x - y) :: rest) S) : ux_At l G own cc nL rt d rv Z pc lv (.int y :: .int x :: rest) S := by
  subst hq
  exact fun p e s m args below meth c X ls hl H locs hU => lv_isub X.1 X.2.1 hdg (k p e s m args below meth c X ls hl H locs hU)
theorem ax_imul {x y : Int32} (q : Nat) (hdg : decode cc pc = .ok (.imul, 1))  (hq : pc + 1 = q) (k : ux_At l G own cc nL rt d rv Z q lv (.int (x * y) :: rest) S) : ux_At l G own cc nL rt d rv Z pc lv (.int y :: .int x :: rest) S := by
  subst hq
  exact fun p e s m args below meth c X ls hl H locs hU => lv_imul X.1 X.2.1 hdg (k p e s m args below meth c X ls hl H locs hU)
theorem ax_iand {x y : Int32} (q : Nat) (hdg : decode cc pc = .ok (.iand, 1))  (hq : pc + 1 = q) (k : ux_At l G own cc nL rt d rv Z q lv (.int (x &&& y) :: rest) S) : ux_At l G own cc nL rt d rv Z pc lv (.int y :: .int x :: rest) S := by
  subst hq
  exact fun p e s m args below meth c X ls hl H locs hU => lv_iand X.1 X.2.1 hdg (k p e s m args below meth c X ls hl H locs hU)
theorem ax_ior {x y : Int32} (q : Nat) (hdg : decode cc pc = .ok (.ior, 1))  (hq : pc + 1 = q) (k : ux_At l G own cc nL rt d rv Z q lv (.int (x ||| y) :: rest) S) : ux_At l G own cc nL rt d rv Z pc lv (.int y :: .int x :: rest) S := by
  subst hq
  exact fun p e s m args below meth c X ls hl H locs hU => lv_ior X.1 X.2.1 hdg (k p e s m args below meth c X ls hl H locs hU)
theorem ax_ixor {x y : Int32} (q : Nat) (hdg : decode cc pc = .ok (.ixor, 1))  (hq : pc + 1 = q) (k : ux_At l G own cc nL rt d rv Z q lv (.int (x ^^^ y) :: rest) S) : ux_At l G own cc nL rt d rv Z pc lv (.int y :: .int x :: rest) S := by
  subst hq
  exact fun p e s m args below meth c X ls hl H locs hU => lv_ixor X.1 X.2.1 hdg (k p e s m args below meth c X ls hl H locs hU)
theorem ax_ishl {x y : Int32} (q : Nat) (hdg : decode cc pc = .ok (.ishl, 1))  (hq : pc + 1 = q) (k : ux_At l G own cc nL rt d rv Z q lv (.int (x <<< (y &&& 31)) :: rest) S) : ux_At l G own cc nL rt d rv Z pc lv (.int y :: .int x :: rest) S := by
  subst hq
  exact fun p e s m args below meth c X ls hl H locs hU => lv_ishl X.1 X.2.1 hdg (k p e s m args below meth c X ls hl H locs hU)
theorem ax_ishr {x y : Int32} (q : Nat) (hdg : decode cc pc = .ok (.ishr, 1))  (hq : pc + 1 = q) (k : ux_At l G own cc nL rt d rv Z q lv (.int (x >>> (y &&& 31)) :: rest) S) : ux_At l G own cc nL rt d rv Z pc lv (.int y :: .int x :: rest) S := by
  subst hq
  exact fun p e s m args below meth c X ls hl H locs hU => lv_ishr X.1 X.2.1 hdg (k p e s m args below meth c X ls hl H locs hU)
theorem ax_idiv {x y : Int32} (q : Nat) (hdg : decode cc pc = .ok (.idiv, 1)) (hne : ¬ y = 0) (hq : pc + 1 = q) (k : ux_At l G own cc nL rt d rv Z q lv (.int (x / y) :: rest) S) : ux_At l G own cc nL rt d rv Z pc lv (.int y :: .int x :: rest) S := by
  subst hq
  exact fun p e s m args below meth c X ls hl H locs hU => lv_idiv X.1 X.2.1 hdg hne (k p e s m args below meth c X ls hl H locs hU)
theorem ax_irem {x y : Int32} (q : Nat) (hdg : decode cc pc = .ok (.irem, 1)) (hne : ¬ y = 0) (hq : pc + 1 = q) (k : ux_At l G own cc nL rt d rv Z q lv (.int (x - x / y * y) :: rest) S) : ux_At l G own cc nL rt d rv Z pc lv (.int y :: .int x :: rest) S := by
  subst hq
  exact fun p e s m args below meth c X ls hl H locs hU => lv_irem X.1 X.2.1 hdg hne (k p e s m args below meth c X ls hl H locs hU)
theorem ax_ladd {x y : Int64} (q : Nat) (hdg : decode cc pc = .ok (.ladd, 1))  (hq : pc + 1 = q) (k : ux_At l G own cc nL rt d rv Z q lv (.long (x + y) :: rest) S) : ux_At l G own cc nL rt d rv Z pc lv (.long y :: .long x :: rest) S := by
  subst hq
  exact fun p e s m args below meth c X ls hl H locs hU => lv_ladd X.1 X.2.1 hdg (k p e s m args below meth c X ls hl H locs hU)
theorem ax_land {x y : Int64} (q : Nat) (hdg : decode cc pc = .ok (.land, 1))  (hq : pc + 1 = q) (k : ux_At l G own cc nL rt d rv Z q lv (.long (x &&& y) :: rest) S) : ux_At l G own cc nL rt d rv Z pc lv (.long y :: .long x :: rest) S := by
  subst hq
  exact fun p e s m args below meth c X ls hl H locs hU => lv_land X.1 X.2.1 hdg (k p e s m args below meth c X ls hl H locs hU)
theorem ax_lor {x y : Int64} (q : Nat) (hdg : decode cc pc = .ok (.lor, 1))  (hq : pc + 1 = q) (k : ux_At l G own cc nL rt d rv Z q lv (.long (x ||| y) :: rest) S) : ux_At l G own cc nL rt d rv Z pc lv (.long y :: .long x :: rest) S := by
  subst hq
  exact fun p e s m args below meth c X ls hl H locs hU => lv_lor X.1 X.2.1 hdg (k p e s m args below meth c X ls hl H locs hU)
theorem ax_lcmp {x y : Int64} (q : Nat) (hdg : decode cc pc = .ok (.lcmp, 1))  (hq : pc + 1 = q) (k : ux_At l G own cc nL rt d rv Z q lv (.int (lg_cmp x y) :: rest) S) : ux_At l G own cc nL rt d rv Z pc lv (.long y :: .long x :: rest) S := by
  subst hq
  exact fun p e s m args below meth c X ls hl H locs hU => W.lcmp X.1 X.2.1 hdg (k p e s m args below meth c X ls hl H locs hU)
theorem ax_iushr {x y : Int32} (q : Nat) (hdg : decode cc pc = .ok (.iushr, 1))  (hq : pc + 1 = q) (k : ux_At l G own cc nL rt d rv Z q lv (.int (x.toUInt32 >>> (y.toUInt32 &&& Int32.toUInt32 31)).toInt32 :: rest) S) : ux_At l G own cc nL rt d rv Z pc lv (.int y :: .int x :: rest) S := by
  subst hq
  exact fun p e s m args below meth c X ls hl H locs hU => lv_iushr X.1 X.2.1 hdg rfl (k p e s m args below meth c X ls hl H locs hU)
theorem ax_lshl {x : Int64} {y : Int32} (q : Nat) (hdg : decode cc pc = .ok (.lshl, 1))  (hq : pc + 1 = q) (k : ux_At l G own cc nL rt d rv Z q lv (.long (x <<< (y.toInt64 &&& 63)) :: rest) S) : ux_At l G own cc nL rt d rv Z pc lv (.int y :: .long x :: rest) S := by
  subst hq
  exact fun p e s m args below meth c X ls hl H locs hU => lv_lshl X.1 X.2.1 hdg rfl (k p e s m args below meth c X ls hl H locs hU)
theorem ax_lshr {x : Int64} {y : Int32} (q : Nat) (hdg : decode cc pc = .ok (.lshr, 1))  (hq : pc + 1 = q) (k : ux_At l G own cc nL rt d rv Z q lv (.long (x >>> (y.toInt64 &&& 63)) :: rest) S) : ux_At l G own cc nL rt d rv Z pc lv (.int y :: .long x :: rest) S := by
  subst hq
  exact fun p e s m args below meth c X ls hl H locs hU => lv_lshr X.1 X.2.1 hdg rfl (k p e s m args below meth c X ls hl H locs hU)
theorem ax_i2l {x : Int32} (q : Nat) (hdg : decode cc pc = .ok (.i2l, 1))  (hq : pc + 1 = q) (k : ux_At l G own cc nL rt d rv Z q lv (.long x.toInt64 :: rest) S) : ux_At l G own cc nL rt d rv Z pc lv (.int x :: rest) S := by
  subst hq
  exact fun p e s m args below meth c X ls hl H locs hU => lv_i2l X.1 X.2.1 hdg rfl (k p e s m args below meth c X ls hl H locs hU)
theorem ax_l2i {x : Int64} (q : Nat) (hdg : decode cc pc = .ok (.l2i, 1))  (hq : pc + 1 = q) (k : ux_At l G own cc nL rt d rv Z q lv (.int x.toInt32 :: rest) S) : ux_At l G own cc nL rt d rv Z pc lv (.long x :: rest) S := by
  subst hq
  exact fun p e s m args below meth c X ls hl H locs hU => lv_l2i X.1 X.2.1 hdg rfl (k p e s m args below meth c X ls hl H locs hU)
theorem ax_i2b {x : Int32} (q : Nat) (hdg : decode cc pc = .ok (.i2b, 1))  (hq : pc + 1 = q) (k : ux_At l G own cc nL rt d rv Z q lv (.int x.toInt8.toInt32 :: rest) S) : ux_At l G own cc nL rt d rv Z pc lv (.int x :: rest) S := by
  subst hq
  exact fun p e s m args below meth c X ls hl H locs hU => lv_i2b X.1 X.2.1 hdg rfl (k p e s m args below meth c X ls hl H locs hU)
theorem ax_dup {va : Value} (q : Nat) (hdg : decode cc pc = .ok (.dup, 1)) (hva : va.category = 1) (hq : pc + 1 = q) (k : ux_At l G own cc nL rt d rv Z q lv (va :: va :: rest) S) : ux_At l G own cc nL rt d rv Z pc lv (va :: rest) S := by
  subst hq
  exact fun p e s m args below meth c X ls hl H locs hU => lv_dup X.1 X.2.1 hdg hva (k p e s m args below meth c X ls hl H locs hU)
theorem ax_pop {va : Value} (q : Nat) (hdg : decode cc pc = .ok (.pop, 1)) (hva : va.category = 1) (hq : pc + 1 = q) (k : ux_At l G own cc nL rt d rv Z q lv rest S) : ux_At l G own cc nL rt d rv Z pc lv (va :: rest) S := by
  subst hq
  exact fun p e s m args below meth c X ls hl H locs hU => lv_pop X.1 X.2.1 hdg hva (k p e s m args below meth c X ls hl H locs hU)
theorem ax_dup2 {va vb : Value} (q : Nat) (hdg : decode cc pc = .ok (.dup2, 1)) (hva : va.category = 1) (hvb : vb.category = 1) (hq : pc + 1 = q) (k : ux_At l G own cc nL rt d rv Z q lv (va :: vb :: va :: vb :: rest) S) : ux_At l G own cc nL rt d rv Z pc lv (va :: vb :: rest) S := by
  subst hq
  exact fun p e s m args below meth c X ls hl H locs hU => lv_dup2_11 X.1 X.2.1 hdg hva hvb (k p e s m args below meth c X ls hl H locs hU)
theorem ax_if_eq {x : Int32} {off : Int} (tgt q : Nat) (hdg : decode cc pc = .ok (.ifCond .eq off, 3)) (ht : (pc : Int) + off = (tgt : Int)) (hq : pc + 3 = q) (kt : x = 0 → ux_At l G own cc nL rt d rv Z tgt lv rest S) (kf : ¬ x = 0 → ux_At l G own cc nL rt d rv Z q lv rest S) : ux_At l G own cc nL rt d rv Z pc lv (.int x :: rest) S := by
  subst hq
  exact fun p e s m args below meth c X ls hl H locs hU => lv_if_eq X.1 X.2.1 hdg ht (fun h => kt h p e s m args below meth c X ls hl H locs hU) (fun h => kf h p e s m args below meth c X ls hl H locs hU)
theorem ax_icmp_eq {x y : Int32} {off : Int} (tgt q : Nat) (hdg : decode cc pc = .ok (.if_icmp .eq off, 3)) (ht : (pc : Int) + off = (tgt : Int)) (hq : pc + 3 = q) (kt : x = y → ux_At l G own cc nL rt d rv Z tgt lv rest S) (kf : ¬ x = y → ux_At l G own cc nL rt d rv Z q lv rest S) : ux_At l G own cc nL rt d rv Z pc lv (.int y :: .int x :: rest) S := by
  subst hq
  exact fun p e s m args below meth c X ls hl H locs hU => lv_icmp_eq X.1 X.2.1 hdg ht (fun h => kt h p e s m args below meth c X ls hl H locs hU) (fun h => kf h p e s m args below meth c X ls hl H locs hU)
theorem ax_if_ne {x : Int32} {off : Int} (tgt q : Nat) (hdg : decode cc pc = .ok (.ifCond .ne off, 3)) (ht : (pc : Int) + off = (tgt : Int)) (hq : pc + 3 = q) (kt : ¬ x = 0 → ux_At l G own cc nL rt d rv Z tgt lv rest S) (kf : x = 0 → ux_At l G own cc nL rt d rv Z q lv rest S) : ux_At l G own cc nL rt d rv Z pc lv (.int x :: rest) S := by
  subst hq
  exact fun p e s m args below meth c X ls hl H locs hU => lv_if_ne X.1 X.2.1 hdg ht (fun h => kt h p e s m args below meth c X ls hl H locs hU) (fun h => kf h p e s m args below meth c X ls hl H locs hU)
theorem ax_icmp_ne {x y : Int32} {off : Int} (tgt q : Nat) (hdg : decode cc pc = .ok (.if_icmp .ne off, 3)) (ht : (pc : Int) + off = (tgt : Int)) (hq : pc + 3 = q) (kt : ¬ x = y → ux_At l G own cc nL rt d rv Z tgt lv rest S) (kf : x = y → ux_At l G own cc nL rt d rv Z q lv rest S) : ux_At l G own cc nL rt d rv Z pc lv (.int y :: .int x :: rest) S := by
  subst hq
  exact fun p e s m args below meth c X ls hl H locs hU => lv_icmp_ne X.1 X.2.1 hdg ht (fun h => kt h p e s m args below meth c X ls hl H locs hU) (fun h => kf h p e s m args below meth c X ls hl H locs hU)
theorem ax_if_lt {x : Int32} {off : Int} (tgt q : Nat) (hdg : decode cc pc = .ok (.ifCond .lt off, 3)) (ht : (pc : Int) + off = (tgt : Int)) (hq : pc + 3 = q) (kt : x < 0 → ux_At l G own cc nL rt d rv Z tgt lv rest S) (kf : ¬ x < 0 → ux_At l G own cc nL rt d rv Z q lv rest S) : ux_At l G own cc nL rt d rv Z pc lv (.int x :: rest) S := by
  subst hq
  exact fun p e s m args below meth c X ls hl H locs hU => lv_if_lt X.1 X.2.1 hdg ht (fun h => kt h p e s m args below meth c X ls hl H locs hU) (fun h => kf h p e s m args below meth c X ls hl H locs hU)
theorem ax_icmp_lt {x y : Int32} {off : Int} (tgt q : Nat) (hdg : decode cc pc = .ok (.if_icmp .lt off, 3)) (ht : (pc : Int) + off = (tgt : Int)) (hq : pc + 3 = q) (kt : x < y → ux_At l G own cc nL rt d rv Z tgt lv rest S) (kf : ¬ x < y → ux_At l G own cc nL rt d rv Z q lv rest S) : ux_At l G own cc nL rt d rv Z pc lv (.int y :: .int x :: rest) S := by
  subst hq
  exact fun p e s m args below meth c X ls hl H locs hU => lv_icmp_lt X.1 X.2.1 hdg ht (fun h => kt h p e s m args below meth c X ls hl H locs hU) (fun h => kf h p e s m args below meth c X ls hl H locs hU)
theorem ax_if_ge {x : Int32} {off : Int} (tgt q : Nat) (hdg : decode cc pc = .ok (.ifCond .ge off, 3)) (ht : (pc : Int) + off = (tgt : Int)) (hq : pc + 3 = q) (kt : 0 ≤ x → ux_At l G own cc nL rt d rv Z tgt lv rest S) (kf : ¬ 0 ≤ x → ux_At l G own cc nL rt d rv Z q lv rest S) : ux_At l G own cc nL rt d rv Z pc lv (.int x :: rest) S := by
  subst hq
  exact fun p e s m args below meth c X ls hl H locs hU => lv_if_ge X.1 X.2.1 hdg ht (fun h => kt h p e s m args below meth c X ls hl H locs hU) (fun h => kf h p e s m args below meth c X ls hl H locs hU)
theorem ax_icmp_ge {x y : Int32} {off : Int} (tgt q : Nat) (hdg : decode cc pc = .ok (.if_icmp .ge off, 3)) (ht : (pc : Int) + off = (tgt : Int)) (hq : pc + 3 = q) (kt : y ≤ x → ux_At l G own cc nL rt d rv Z tgt lv rest S) (kf : ¬ y ≤ x → ux_At l G own cc nL rt d rv Z q lv rest S) : ux_At l G own cc nL rt d rv Z pc lv (.int y :: .int x :: rest) S := by
  subst hq
  exact fun p e s m args below meth c X ls hl H locs hU => lv_icmp_ge X.1 X.2.1 hdg ht (fun h => kt h p e s m args below meth c X ls hl H locs hU) (fun h => kf h p e s m args below meth c X ls hl H locs hU)
theorem ax_if_gt {x : Int32} {off : Int} (tgt q : Nat) (hdg : decode cc pc = .ok (.ifCond .gt off, 3)) (ht : (pc : Int) + off = (tgt : Int)) (hq : pc + 3 = q) (kt : 0 < x → ux_At l G own cc nL rt d rv Z tgt lv rest S) (kf : ¬ 0 < x → ux_At l G own cc nL rt d rv Z q lv rest S) : ux_At l G own cc nL rt d rv Z pc lv (.int x :: rest) S := by
  subst hq
  exact fun p e s m args below meth c X ls hl H locs hU => lv_if_gt X.1 X.2.1 hdg ht (fun h => kt h p e s m args below meth c X ls hl H locs hU) (fun h => kf h p e s m args below meth c X ls hl H locs hU)
theorem ax_icmp_gt {x y : Int32} {off : Int} (tgt q : Nat) (hdg : decode cc pc = .ok (.if_icmp .gt off, 3)) (ht : (pc : Int) + off = (tgt : Int)) (hq : pc + 3 = q) (kt : y < x → ux_At l G own cc nL rt d rv Z tgt lv rest S) (kf : ¬ y < x → ux_At l G own cc nL rt d rv Z q lv rest S) : ux_At l G own cc nL rt d rv Z pc lv (.int y :: .int x :: rest) S := by
  subst hq
  exact fun p e s m args below meth c X ls hl H locs hU => lv_icmp_gt X.1 X.2.1 hdg ht (fun h => kt h p e s m args below meth c X ls hl H locs hU) (fun h => kf h p e s m args below meth c X ls hl H locs hU)
theorem ax_if_le {x : Int32} {off : Int} (tgt q : Nat) (hdg : decode cc pc = .ok (.ifCond .le off, 3)) (ht : (pc : Int) + off = (tgt : Int)) (hq : pc + 3 = q) (kt : x ≤ 0 → ux_At l G own cc nL rt d rv Z tgt lv rest S) (kf : ¬ x ≤ 0 → ux_At l G own cc nL rt d rv Z q lv rest S) : ux_At l G own cc nL rt d rv Z pc lv (.int x :: rest) S := by
  subst hq
  exact fun p e s m args below meth c X ls hl H locs hU => lv_if_le X.1 X.2.1 hdg ht (fun h => kt h p e s m args below meth c X ls hl H locs hU) (fun h => kf h p e s m args below meth c X ls hl H locs hU)
theorem ax_icmp_le {x y : Int32} {off : Int} (tgt q : Nat) (hdg : decode cc pc = .ok (.if_icmp .le off, 3)) (ht : (pc : Int) + off = (tgt : Int)) (hq : pc + 3 = q) (kt : x ≤ y → ux_At l G own cc nL rt d rv Z tgt lv rest S) (kf : ¬ x ≤ y → ux_At l G own cc nL rt d rv Z q lv rest S) : ux_At l G own cc nL rt d rv Z pc lv (.int y :: .int x :: rest) S := by
  subst hq
  exact fun p e s m args below meth c X ls hl H locs hU => lv_icmp_le X.1 X.2.1 hdg ht (fun h => kt h p e s m args below meth c X ls hl H locs hU) (fun h => kf h p e s m args below meth c X ls hl H locs hU)
theorem ax_goto {off : Int} (tgt : Nat) (hdg : decode cc pc = .ok (.goto off, 3)) (ht : (pc : Int) + off = (tgt : Int)) (k : ux_At l G own cc nL rt d rv Z tgt lv rest S) : ux_At l G own cc nL rt d rv Z pc lv rest S := fun p e s m args below meth c X ls hl H locs hU => lv_goto X.1 X.2.1 hdg ht (k p e s m args below meth c X ls hl H locs hU)
theorem ax_tabIn {dflt lo hi : Int} {offs : Array Int} {len : Nat} {x : Int32} {off : Int} (v : Int32) (tgt : Nat) (hx : x = v) (hdg : decode cc pc = .ok (.tableswitch dflt lo hi offs, len)) (h1 : ¬ v.toInt < lo) (h2 : ¬ hi < v.toInt) (ho : offs[(v.toInt - lo).toNat]? = some off) (ht : (pc : Int) + off = (tgt : Int)) (k : ux_At l G own cc nL rt d rv Z tgt lv rest S) : ux_At l G own cc nL rt d rv Z pc lv (.int x :: rest) S := by
  subst hx
  exact fun p e s m args below meth c X ls hl H locs hU => lv_tableIn X.1 X.2.1 hdg h1 h2 ho ht (k p e s m args below meth c X ls hl H locs hU)
theorem ax_tabOut {dflt lo hi : Int} {offs : Array Int} {len : Nat} {x : Int32} (tgt : Nat) (hdg : decode cc pc = .ok (.tableswitch dflt lo hi offs, len)) (h : x.toInt < lo ∨ hi < x.toInt) (ht : (pc : Int) + dflt = (tgt : Int)) (k : ux_At l G own cc nL rt d rv Z tgt lv rest S) : ux_At l G own cc nL rt d rv Z pc lv (.int x :: rest) S := fun p e s m args below meth c X ls hl H locs hU => lv_tableOut X.1 X.2.1 hdg h ht (k p e s m args below meth c X ls hl H locs hU)
theorem ax_swOut {x : Int32} (n : Nat) (hn : n < 1000) (h : ∀ k, k < n → ¬ x = Int32.ofNat k) : x.toInt < 0 ∨ ((n : Int) - 1) < x.toInt := by
  by_cases h0 : x.toInt < 0
  · exact Or.inl h0
  · by_cases h1 : ((n : Int) - 1) < x.toInt
    · exact Or.inr h1
    · refine absurd ?_ (h x.toInt.toNat (by omega))
      apply Int32.toInt_inj.mp
      rw [Int32.toInt_ofNat_of_lt (by omega)]
      omega
/-- what the tables say of a field of the object number i, its slot k, at the place idx of own's pool -/
def ux_FG (own : String) (idx i k : Nat) : Prop := ∃ (ci : Nat) (C : String) (T : u_T) (N : Nat), i < 79 ∧ ux_k i = (5, ci) ∧ ux_cl[ci]? = some (C, T, N) ∧ (∀ w ∈ u_ws C T N, w ∈ ux_WA) ∧ k < N ∧ (ux_f i).length = N ∧ Cond.fieldLink own idx (T k).1 (T k).2.1 (T k).2.2.1 ∈ ux_WA
def ux_FP (own : String) (idx i k : Nat) : Prop := ∃ (ci : Nat) (C : String) (T : u_T) (N : Nat) (ty0 : Nat → FieldType), i < 79 ∧ ux_k i = (5, ci) ∧ ux_cl[ci]? = some (C, T, N) ∧ (∀ w ∈ u_ws C T N, w ∈ ux_WA) ∧ k < N ∧ (ux_f i).length = N ∧ Cond.fieldLink own idx (T k).1 (T k).2.1 (T k).2.2.1 ∈ ux_WA ∧ (∀ k, k < N → parseFieldDescriptor (T k).2.2.1 = some (ty0 k)) ∧ (∀ a, a < N → ∀ b, b < N → a ≠ b → (T a).2.1 ≠ (T b).2.1) ∧ (T k).2.2.2 = false ∧ parseFieldDescriptor (T k).2.2.1 = some .int ∧ (ux_f i).getD k 0 = 0
theorem ux_vs_get {G : ux_G} {i k : Nat} {a : Nat → Int32} (h : k < (ux_f i).length) : (ux_vs G i a)[k]? = some (ux_v G ((ux_f i).getD k 0) (a k)) := by
  unfold ux_vs
  rw [List.getElem?_map, List.getElem?_range h]
  rfl
theorem ux_vs_set {G : ux_G} {i k : Nat} {a : Nat → Int32} {x : Int32} (h : k < (ux_f i).length) (h0 : (ux_f i).getD k 0 = 0) : (ux_vs G i a).set k (.int x) = ux_vs G i (upd a k x) := by
  have hl : ∀ f : Nat → Int32, (ux_vs G i f).length = (ux_f i).length := fun f => by unfold ux_vs; simp
  apply List.ext_getElem?
  intro j
  by_cases hj : j = k
  · subst hj
    rw [List.getElem?_set_self (by rw [hl]; exact h), ux_vs_get h, h0]
    simp [ux_v, upd]
  · rw [List.getElem?_set_ne (Ne.symm hj)]
    by_cases hl2 : j < (ux_f i).length
    · rw [ux_vs_get hl2, ux_vs_get hl2]
      simp [upd, hj]
    · rw [List.getElem?_eq_none (by rw [hl]; omega), List.getElem?_eq_none (by rw [hl]; omega)]
theorem ax_get {idx i k : Nat} {v : Value} (q : Nat) (hdg : decode cc pc = .ok (.getfield idx, 3)) (F : ux_FG own idx i k) (hv : ux_v G ((ux_f i).getD k 0) (S.1 i k) = v) (hq : pc + 3 = q) (kk : ux_At l G own cc nL rt d rv Z q lv (v :: rest) S) : ux_At l G own cc nL rt d rv Z pc lv (.ref (ux_a G i) :: rest) S := by
  subst hq
  obtain ⟨ci, C, T, N, h1, h2, h3, h4, h5, h6, h7⟩ := F
  intro p e s m args below meth c X ls hl H locs hU
  refine va_get (D := ux_D G) (cl := ux_cl) (tys := ux_ty G) (ws := ux_w G S) (ci := ci) (C := C) (T := T) (N := N) (Ts := ux_WA) (own := own) X.1 X.2.1 X.2.2.2.2.1 h4 X.2.2.2.1 X.2.2.2.2.2.2.2.2.1 hU.1 i (by rw [ux_wget h1, ux_eO h2]) h3 k h5 (X.2.2.2.2.1 _ h7) (fun _ h9 => h9) (by rw [ux_vs_get (by rw [h6]; exact h5), hv]) hdg ?_
  exact kk p e s m args below meth c X ls hl H locs hU
theorem ax_put {idx i k : Nat} {x : Int32} (q : Nat) (hdg : decode cc pc = .ok (.putfield idx, 3)) (F : ux_FP own idx i k) (hq : pc + 3 = q) (kk : ux_At l G own cc nL rt d rv Z q lv rest (ux_i S i k x)) : ux_At l G own cc nL rt d rv Z pc lv (.int x :: .ref (ux_a G i) :: rest) S := by
  subst hq
  obtain ⟨ci, C, T, N, ty0, h1, h2, h3, h4, h5, h6, h7, h8, h9, h10, h11, h12⟩ := F
  intro p e s m args below meth c X ls hl H locs hU
  have hD : va_D (ux_A G) (ux_w G S) := ux_wD X.2.2.2.2.2.2.2.1 (fun i hi => ⟨i, hi, rfl⟩)
  refine va_put (D := ux_D G) (cl := ux_cl) (tys := ux_ty G) (ws := ux_w G S) (ci := ci) (C := C) (T := T) (N := N) (Ts := ux_WA) (own := own) (fs := ux_vs G i (S.1 i)) (v := .int x) (ty := .int) X.1 X.2.1 X.2.2.2.2.1 h4 ty0 h8 h9 X.2.2.2.1 X.2.2.2.2.2.2.2.2.1 hU.1 hD hU.2 i (by rw [ux_wget h1, ux_eO h2]) h3 k h5 (X.2.2.2.2.1 _ h7) (fun _ h9 => h9) h10 h11 rfl rfl (by unfold ux_vs; simp; omega) hdg (fun H1 locs1 hP1 _ hS1 => ?_)
  rw [ux_vs_set (by rw [h6]; exact h5) h12] at hP1
  rw [ux_wset (G := G) (S := S) (Z := ux_i S i k x) h1 (by rw [ux_eO h2]; simp [ux_i]) (fun j hj => by simp [ux_i, hj]) (fun j hj => by simp [ux_i])] at hP1
  exact kk p e s m args below meth c X ls hl H1 locs1 ⟨hP1, hS1⟩
def ux_ib (x : Int32) (n : Nat) : Bool := !(decide (x < 0) || decide (n ≤ x.toNatClampNeg))
theorem ux_ib_of {x : Int32} {n : Nat} (h : ux_ib x n = true) : vp_in x n := by
  intro q
  unfold ux_ib at h
  rcases q with q | q <;> simp [q] at h
theorem ax_iald {i n : Nat} {x : Int32} (q : Nat) (hdg : decode cc pc = .ok (.iaload, 1)) (hi : i < 79) (hk : ux_k i = (0, n)) (hin : ux_ib x n = true) (hq : pc + 1 = q) (kk : ux_At l G own cc nL rt d rv Z q lv (.int (S.1 i x.toNatClampNeg) :: rest) S) : ux_At l G own cc nL rt d rv Z pc lv (.int x :: .ref (ux_a G i) :: rest) S := by
  subst hq
  intro p e s m args below meth c X ls hl H locs hU
  refine va_iald (D := ux_D G) (cl := ux_cl) (tys := ux_ty G) (ws := ux_w G S) (cA := G.2.2.1 0) (n := n) (f := S.1 i) X.1 X.2.1 X.2.2.2.2.2.2.2.2.1 hU.1 i 0 (by rw [ux_wget hi, ux_e0 hk]) rfl (ux_ib_of hin) hdg ?_
  exact kk p e s m args below meth c X ls hl H locs hU
theorem ax_zald {i n : Nat} {x : Int32} (q : Nat) (hdg : decode cc pc = .ok (.baload, 1)) (hi : i < 79) (hk : ux_k i = (2, n)) (hin : ux_ib x n = true) (hq : pc + 1 = q) (kk : ux_At l G own cc nL rt d rv Z q lv (.int (S.1 i x.toNatClampNeg) :: rest) S) : ux_At l G own cc nL rt d rv Z pc lv (.int x :: .ref (ux_a G i) :: rest) S := by
  subst hq
  intro p e s m args below meth c X ls hl H locs hU
  refine va_zald (D := ux_D G) (cl := ux_cl) (tys := ux_ty G) (ws := ux_w G S) (cA := G.2.2.1 2) (n := n) (f := S.1 i) X.1 X.2.1 X.2.2.2.2.2.2.2.2.1 hU.1 i 2 (by rw [ux_wget hi, ux_e2 hk]) rfl (ux_ib_of hin) hdg ?_
  exact kk p e s m args below meth c X ls hl H locs hU
theorem ax_lald {i n : Nat} {x : Int32} (q : Nat) (hdg : decode cc pc = .ok (.laload, 1)) (hi : i < 79) (hk : ux_k i = (1, n)) (hin : ux_ib x n = true) (hq : pc + 1 = q) (kk : ux_At l G own cc nL rt d rv Z q lv (.long (S.2 i x.toNatClampNeg) :: rest) S) : ux_At l G own cc nL rt d rv Z pc lv (.int x :: .ref (ux_a G i) :: rest) S := by
  subst hq
  intro p e s m args below meth c X ls hl H locs hU
  refine va_lald (D := ux_D G) (cl := ux_cl) (tys := ux_ty G) (ws := ux_w G S) (cA := G.2.2.1 1) (n := n) (f := S.2 i) X.1 X.2.1 X.2.2.2.2.2.2.2.2.1 hU.1 i 1 (by rw [ux_wget hi, ux_e1 hk]) rfl (ux_ib_of hin) hdg ?_
  exact kk p e s m args below meth c X ls hl H locs hU
theorem ax_iast {i n : Nat} {x : Int32} {v : Int32} (q : Nat) (hdg : decode cc pc = .ok (.iastore, 1)) (hi : i < 79) (hk : ux_k i = (0, n)) (hin : ux_ib x n = true) (hq : pc + 1 = q) (kk : ux_At l G own cc nL rt d rv Z q lv rest (ux_i S i x.toNatClampNeg v)) : ux_At l G own cc nL rt d rv Z pc lv (.int v :: .int x :: .ref (ux_a G i) :: rest) S := by
  subst hq
  intro p e s m args below meth c X ls hl H locs hU
  have hD : va_D (ux_A G) (ux_w G S) := ux_wD X.2.2.2.2.2.2.2.1 (fun i hi => ⟨i, hi, rfl⟩)
  refine va_iast (D := ux_D G) (cl := ux_cl) (tys := ux_ty G) (ws := ux_w G S) (cA := G.2.2.1 0) (n := n) (f := S.1 i) X.1 X.2.1 X.2.2.2.2.2.2.2.2.1 hU.1 hD hU.2 i 0 (by rw [ux_wget hi, ux_e0 hk]) rfl (ux_ib_of hin) hdg (fun H1 locs1 hP1 _ hS1 => ?_)
  rw [ux_wset (G := G) (S := S) (Z := ux_i S i x.toNatClampNeg v) hi (by rw [ux_e0 hk]; simp [ux_i]) (fun j hj => by simp [ux_i, hj]) (fun j hj => by simp [ux_i, hj])] at hP1
  exact kk p e s m args below meth c X ls hl H1 locs1 ⟨hP1, hS1⟩
theorem ax_zast {i n : Nat} {x : Int32} {v : Int32} (q : Nat) (hdg : decode cc pc = .ok (.bastore, 1)) (hi : i < 79) (hk : ux_k i = (2, n)) (hin : ux_ib x n = true) (hq : pc + 1 = q) (kk : ux_At l G own cc nL rt d rv Z q lv rest (ux_i S i x.toNatClampNeg (vp_nar .boolean v))) : ux_At l G own cc nL rt d rv Z pc lv (.int v :: .int x :: .ref (ux_a G i) :: rest) S := by
  subst hq
  intro p e s m args below meth c X ls hl H locs hU
  have hD : va_D (ux_A G) (ux_w G S) := ux_wD X.2.2.2.2.2.2.2.1 (fun i hi => ⟨i, hi, rfl⟩)
  refine va_zast (D := ux_D G) (cl := ux_cl) (tys := ux_ty G) (ws := ux_w G S) (cA := G.2.2.1 2) (n := n) (f := S.1 i) X.1 X.2.1 X.2.2.2.2.2.2.2.2.1 hU.1 hD hU.2 i 2 (by rw [ux_wget hi, ux_e2 hk]) rfl (ux_ib_of hin) hdg (fun H1 locs1 hP1 _ hS1 => ?_)
  rw [ux_wset (G := G) (S := S) (Z := ux_i S i x.toNatClampNeg (vp_nar .boolean v)) hi (by rw [ux_e2 hk]; simp [ux_i]) (fun j hj => by simp [ux_i, hj]) (fun j hj => by simp [ux_i, hj])] at hP1
  exact kk p e s m args below meth c X ls hl H1 locs1 ⟨hP1, hS1⟩
theorem ax_last {i n : Nat} {x : Int32} {v : Int64} (q : Nat) (hdg : decode cc pc = .ok (.lastore, 1)) (hi : i < 79) (hk : ux_k i = (1, n)) (hin : ux_ib x n = true) (hq : pc + 1 = q) (kk : ux_At l G own cc nL rt d rv Z q lv rest (ux_l S i x.toNatClampNeg v)) : ux_At l G own cc nL rt d rv Z pc lv (.long v :: .int x :: .ref (ux_a G i) :: rest) S := by
  subst hq
  intro p e s m args below meth c X ls hl H locs hU
  have hD : va_D (ux_A G) (ux_w G S) := ux_wD X.2.2.2.2.2.2.2.1 (fun i hi => ⟨i, hi, rfl⟩)
  refine va_last (D := ux_D G) (cl := ux_cl) (tys := ux_ty G) (ws := ux_w G S) (cA := G.2.2.1 1) (n := n) (f := S.2 i) X.1 X.2.1 X.2.2.2.2.2.2.2.2.1 hU.1 hD hU.2 i 1 (by rw [ux_wget hi, ux_e1 hk]) rfl (ux_ib_of hin) hdg (fun H1 locs1 hP1 _ hS1 => ?_)
  rw [ux_wset (G := G) (S := S) (Z := ux_l S i x.toNatClampNeg v) hi (by rw [ux_e1 hk]; simp [ux_l]) (fun j hj => by simp [ux_l, hj]) (fun j hj => by simp [ux_l, hj])] at hP1
  exact kk p e s m args below meth c X ls hl H1 locs1 ⟨hP1, hS1⟩
theorem ax_aaldI {i n : Nat} {x : Int32} (q : Nat) (hdg : decode cc pc = .ok (.aaload, 1)) (hi : i < 79) (hk : ux_k i = (3, n)) (hin : ux_ib x n = true) (hq : pc + 1 = q) (kk : ux_At l G own cc nL rt d rv Z q lv (.ref (ux_a G (i + 1 + x.toNatClampNeg)) :: rest) S) : ux_At l G own cc nL rt d rv Z pc lv (.int x :: .ref (ux_a G i) :: rest) S := by
  subst hq
  intro p e s m args below meth c X ls hl H locs hU
  have ha : (ux_w G S)[i]? = some (ux_a G i, .inl (G.2.2.1 3, n, .inr (.inr (.inr (.inr (fun j => some (ux_a G (i + 1 + j)))))))) := by rw [ux_wget hi, ux_e3 hk]
  have hv := ux_ib_of hin
  have hlt : x.toNatClampNeg < n := Nat.not_le.mp fun q => hv (Or.inr q)
  exact W.aald (v := .ref (ux_a G (i + 1 + x.toNatClampNeg))) (ty := .array .int) X.1 X.2.1 (hU.1 i _ ha) ((X.2.2.2.2.2.2.2.2.1.2 3 _ rfl).1 n (fun j => va_rf (some (ux_a G (i + 1 + j))))) rfl (fun q => by cases q) (by show ¬ (x < 0 ∨ (arrV _ _ _).slots.size ≤ _); rw [arrV_size]; exact hv) (by show (arrV _ _ _).slots[_]? = _; rw [arrV_read _ _ hlt]; rfl) rfl rfl hdg (kk p e s m args below meth c X ls hl H locs hU)
theorem ax_aaldL {i n : Nat} {x : Int32} (q : Nat) (hdg : decode cc pc = .ok (.aaload, 1)) (hi : i < 79) (hk : ux_k i = (4, n)) (hin : ux_ib x n = true) (hq : pc + 1 = q) (kk : ux_At l G own cc nL rt d rv Z q lv (.ref (ux_a G (i + 1 + x.toNatClampNeg)) :: rest) S) : ux_At l G own cc nL rt d rv Z pc lv (.int x :: .ref (ux_a G i) :: rest) S := by
  subst hq
  intro p e s m args below meth c X ls hl H locs hU
  have ha : (ux_w G S)[i]? = some (ux_a G i, .inl (G.2.2.1 4, n, .inr (.inr (.inr (.inr (fun j => some (ux_a G (i + 1 + j)))))))) := by rw [ux_wget hi, ux_e4 hk]
  have hv := ux_ib_of hin
  have hlt : x.toNatClampNeg < n := Nat.not_le.mp fun q => hv (Or.inr q)
  exact W.aald (v := .ref (ux_a G (i + 1 + x.toNatClampNeg))) (ty := .array .long) X.1 X.2.1 (hU.1 i _ ha) ((X.2.2.2.2.2.2.2.2.1.2 4 _ rfl).1 n (fun j => va_rf (some (ux_a G (i + 1 + j))))) rfl (fun q => by cases q) (by show ¬ (x < 0 ∨ (arrV _ _ _).slots.size ≤ _); rw [arrV_size]; exact hv) (by show (arrV _ _ _).slots[_]? = _; rw [arrV_read _ _ hlt]; rfl) rfl rfl hdg (kk p e s m args below meth c X ls hl H locs hU)
theorem ax_alen {i n : Nat} (q : Nat) (hdg : decode cc pc = .ok (.arraylength, 1)) (hi : i < 79) (hk : ux_k i = (0, n)) (hq : pc + 1 = q) (kk : ux_At l G own cc nL rt d rv Z q lv (.int (Int32.ofNat n) :: rest) S) : ux_At l G own cc nL rt d rv Z pc lv (.ref (ux_a G i) :: rest) S := by
  subst hq
  intro p e s m args below meth c X ls hl H locs hU
  exact va_alen (D := ux_D G) (cl := ux_cl) (tys := ux_ty G) (ws := ux_w G S) (cA := G.2.2.1 0) (x := (n, .inl (S.1 i))) X.1 X.2.1 X.2.2.2.2.2.2.2.2.1 hU.1 i 0 (by rw [ux_wget hi, ux_e0 hk]) rfl rfl hdg (kk p e s m args below meth c X ls hl H locs hU)
theorem ax_alenL {i n : Nat} (q : Nat) (hdg : decode cc pc = .ok (.arraylength, 1)) (hi : i < 79) (hk : ux_k i = (1, n)) (hq : pc + 1 = q) (kk : ux_At l G own cc nL rt d rv Z q lv (.int (Int32.ofNat n) :: rest) S) : ux_At l G own cc nL rt d rv Z pc lv (.ref (ux_a G i) :: rest) S := by
  subst hq
  intro p e s m args below meth c X ls hl H locs hU
  exact va_alen (D := ux_D G) (cl := ux_cl) (tys := ux_ty G) (ws := ux_w G S) (cA := G.2.2.1 1) (x := (n, .inr (.inl (S.2 i)))) X.1 X.2.1 X.2.2.2.2.2.2.2.2.1 hU.1 i 1 (by rw [ux_wget hi, ux_e1 hk]) rfl rfl hdg (kk p e s m args below meth c X ls hl H locs hU)
theorem ax_callVi {C : String} {y : MethodName} {ccy : ByteArray} {nLy n dy idx i ci N : Nat} {T : u_T} {rty : Option FieldType} {st : List Value} {S1 : ux_S} {r : Int32} (q : Nat) (As : List Value) (hdg : decode cc pc = .ok (.invokevirtual idx, 3)) (F : ux_FV own idx C y ccy nLy rty n) (hM : ux_M l G y ccy nLy rty dy (.ref (ux_a G i) :: As) S (some (.int r)) S1) (hi : i < 79) (hk : ux_k i = (5, ci)) (hc : ux_cl[ci]? = some (C, T, N)) (hd : dy + 1 ≤ d) (hn : As.length = n) (hst : st = As.reverse ++ .ref (ux_a G i) :: rest) (hcat : (rest.map fun v => v.category).sum ≤ 8) (hq : pc + 3 = q) (kk : ux_At l G own cc nL rt d rv Z q lv (.int r :: rest) S1) : ux_At l G own cc nL rt d rv Z pc lv st S := by
  subst hq
  intro p e s m args below meth c X ls hl H locs hU
  refine ux_run (A0 := ux_A G) (ux_runV ⟨X.1, X.2.1, X.2.2.1, X.2.2.2.1, X.2.2.2.2.1⟩ hM F ⟨hd, Nat.mul_le_mul_left 40 hd, Nat.zero_le _, Nat.zero_le _⟩ X.2.2.2.2.2.2.2 hU.1 hi hk hc hn hl.1 hst hcat hdg) (fun _ h => h) hU.2 (fun H1 locs1 hP1 hS1 => ?_)
  exact kk p e s m args below meth c X ls hl H1 locs1 ⟨hP1, hS1⟩
theorem ax_callSi {y : MethodName} {ccy : ByteArray} {nLy n dy idx : Nat} {rty : Option FieldType} {st : List Value} {S1 : ux_S} {r : Int32} (q : Nat) (As : List Value) (hdg : decode cc pc = .ok (.invokestatic idx, 3)) (F : ux_FS own idx y ccy nLy rty n) (hM : ux_M l G y ccy nLy rty dy As S (some (.int r)) S1) (hd : dy + 1 ≤ d) (hn : As.length = n) (hst : st = As.reverse ++ rest) (hcat : (rest.map fun v => v.category).sum ≤ 8) (hq : pc + 3 = q) (kk : ux_At l G own cc nL rt d rv Z q lv (.int r :: rest) S1) : ux_At l G own cc nL rt d rv Z pc lv st S := by
  subst hq
  intro p e s m args below meth c X ls hl H locs hU
  refine ux_run (A0 := ux_A G) (ux_runS ⟨X.1, X.2.1, X.2.2.1, X.2.2.2.1, X.2.2.2.2.1⟩ hM F ⟨hd, Nat.mul_le_mul_left 40 hd, Nat.zero_le _, Nat.zero_le _⟩ X.2.2.2.2.2.2.2 hU.1 hn hl.1 hst hcat hdg) (fun _ h => h) hU.2 (fun H1 locs1 hP1 hS1 => ?_)
  exact kk p e s m args below meth c X ls hl H1 locs1 ⟨hP1, hS1⟩
theorem ax_callNi {host : String} {y : MethodName} {ccy : ByteArray} {nLy n dy idx : Nat} {rty : Option FieldType} {st : List Value} {S1 : ux_S} {r : Int32} (q : Nat) (As : List Value) (hdg : decode cc pc = .ok (.invokestatic idx, 3)) (F : ux_FN y ccy nLy rty n) (hN : ∀ s : State, ux_K G s → va_Nw (.methodLinkNest own idx y host) s) (hM : ux_M l G y ccy nLy rty dy As S (some (.int r)) S1) (hd : dy + 1 ≤ d) (hn : As.length = n) (hst : st = As.reverse ++ rest) (hcat : (rest.map fun v => v.category).sum ≤ 8) (hq : pc + 3 = q) (kk : ux_At l G own cc nL rt d rv Z q lv (.int r :: rest) S1) : ux_At l G own cc nL rt d rv Z pc lv st S := by
  subst hq
  intro p e s m args below meth c X ls hl H locs hU
  refine ux_run (A0 := ux_A G) (ux_runN ⟨X.1, X.2.1, X.2.2.1, X.2.2.2.1, X.2.2.2.2.1⟩ hM F (hN s X.2.2.2.2.2.2.2) ⟨hd, Nat.mul_le_mul_left 40 hd, Nat.zero_le _, Nat.zero_le _⟩ X.2.2.2.2.2.2.2 hU.1 hn hl.1 hst hcat hdg) (fun _ h => h) hU.2 (fun H1 locs1 hP1 hS1 => ?_)
  exact kk p e s m args below meth c X ls hl H1 locs1 ⟨hP1, hS1⟩
theorem ax_callVl {C : String} {y : MethodName} {ccy : ByteArray} {nLy n dy idx i ci N : Nat} {T : u_T} {rty : Option FieldType} {st : List Value} {S1 : ux_S} {r : Int64} (q : Nat) (As : List Value) (hdg : decode cc pc = .ok (.invokevirtual idx, 3)) (F : ux_FV own idx C y ccy nLy rty n) (hM : ux_M l G y ccy nLy rty dy (.ref (ux_a G i) :: As) S (some (.long r)) S1) (hi : i < 79) (hk : ux_k i = (5, ci)) (hc : ux_cl[ci]? = some (C, T, N)) (hd : dy + 1 ≤ d) (hn : As.length = n) (hst : st = As.reverse ++ .ref (ux_a G i) :: rest) (hcat : (rest.map fun v => v.category).sum ≤ 8) (hq : pc + 3 = q) (kk : ux_At l G own cc nL rt d rv Z q lv (.long r :: rest) S1) : ux_At l G own cc nL rt d rv Z pc lv st S := by
  subst hq
  intro p e s m args below meth c X ls hl H locs hU
  refine ux_run (A0 := ux_A G) (ux_runV ⟨X.1, X.2.1, X.2.2.1, X.2.2.2.1, X.2.2.2.2.1⟩ hM F ⟨hd, Nat.mul_le_mul_left 40 hd, Nat.zero_le _, Nat.zero_le _⟩ X.2.2.2.2.2.2.2 hU.1 hi hk hc hn hl.1 hst hcat hdg) (fun _ h => h) hU.2 (fun H1 locs1 hP1 hS1 => ?_)
  exact kk p e s m args below meth c X ls hl H1 locs1 ⟨hP1, hS1⟩
theorem ax_callSl {y : MethodName} {ccy : ByteArray} {nLy n dy idx : Nat} {rty : Option FieldType} {st : List Value} {S1 : ux_S} {r : Int64} (q : Nat) (As : List Value) (hdg : decode cc pc = .ok (.invokestatic idx, 3)) (F : ux_FS own idx y ccy nLy rty n) (hM : ux_M l G y ccy nLy rty dy As S (some (.long r)) S1) (hd : dy + 1 ≤ d) (hn : As.length = n) (hst : st = As.reverse ++ rest) (hcat : (rest.map fun v => v.category).sum ≤ 8) (hq : pc + 3 = q) (kk : ux_At l G own cc nL rt d rv Z q lv (.long r :: rest) S1) : ux_At l G own cc nL rt d rv Z pc lv st S := by
  subst hq
  intro p e s m args below meth c X ls hl H locs hU
  refine ux_run (A0 := ux_A G) (ux_runS ⟨X.1, X.2.1, X.2.2.1, X.2.2.2.1, X.2.2.2.2.1⟩ hM F ⟨hd, Nat.mul_le_mul_left 40 hd, Nat.zero_le _, Nat.zero_le _⟩ X.2.2.2.2.2.2.2 hU.1 hn hl.1 hst hcat hdg) (fun _ h => h) hU.2 (fun H1 locs1 hP1 hS1 => ?_)
  exact kk p e s m args below meth c X ls hl H1 locs1 ⟨hP1, hS1⟩
theorem ax_callNl {host : String} {y : MethodName} {ccy : ByteArray} {nLy n dy idx : Nat} {rty : Option FieldType} {st : List Value} {S1 : ux_S} {r : Int64} (q : Nat) (As : List Value) (hdg : decode cc pc = .ok (.invokestatic idx, 3)) (F : ux_FN y ccy nLy rty n) (hN : ∀ s : State, ux_K G s → va_Nw (.methodLinkNest own idx y host) s) (hM : ux_M l G y ccy nLy rty dy As S (some (.long r)) S1) (hd : dy + 1 ≤ d) (hn : As.length = n) (hst : st = As.reverse ++ rest) (hcat : (rest.map fun v => v.category).sum ≤ 8) (hq : pc + 3 = q) (kk : ux_At l G own cc nL rt d rv Z q lv (.long r :: rest) S1) : ux_At l G own cc nL rt d rv Z pc lv st S := by
  subst hq
  intro p e s m args below meth c X ls hl H locs hU
  refine ux_run (A0 := ux_A G) (ux_runN ⟨X.1, X.2.1, X.2.2.1, X.2.2.2.1, X.2.2.2.2.1⟩ hM F (hN s X.2.2.2.2.2.2.2) ⟨hd, Nat.mul_le_mul_left 40 hd, Nat.zero_le _, Nat.zero_le _⟩ X.2.2.2.2.2.2.2 hU.1 hn hl.1 hst hcat hdg) (fun _ h => h) hU.2 (fun H1 locs1 hP1 hS1 => ?_)
  exact kk p e s m args below meth c X ls hl H1 locs1 ⟨hP1, hS1⟩
theorem ax_callVv {C : String} {y : MethodName} {ccy : ByteArray} {nLy n dy idx i ci N : Nat} {T : u_T} {rty : Option FieldType} {st : List Value} {S1 : ux_S}  (q : Nat) (As : List Value) (hdg : decode cc pc = .ok (.invokevirtual idx, 3)) (F : ux_FV own idx C y ccy nLy rty n) (hM : ux_M l G y ccy nLy rty dy (.ref (ux_a G i) :: As) S none S1) (hi : i < 79) (hk : ux_k i = (5, ci)) (hc : ux_cl[ci]? = some (C, T, N)) (hd : dy + 1 ≤ d) (hn : As.length = n) (hst : st = As.reverse ++ .ref (ux_a G i) :: rest) (hcat : (rest.map fun v => v.category).sum ≤ 8) (hq : pc + 3 = q) (kk : ux_At l G own cc nL rt d rv Z q lv rest S1) : ux_At l G own cc nL rt d rv Z pc lv st S := by
  subst hq
  intro p e s m args below meth c X ls hl H locs hU
  refine ux_run (A0 := ux_A G) (ux_runV ⟨X.1, X.2.1, X.2.2.1, X.2.2.2.1, X.2.2.2.2.1⟩ hM F ⟨hd, Nat.mul_le_mul_left 40 hd, Nat.zero_le _, Nat.zero_le _⟩ X.2.2.2.2.2.2.2 hU.1 hi hk hc hn hl.1 hst hcat hdg) (fun _ h => h) hU.2 (fun H1 locs1 hP1 hS1 => ?_)
  exact kk p e s m args below meth c X ls hl H1 locs1 ⟨hP1, hS1⟩
theorem ax_callSv {y : MethodName} {ccy : ByteArray} {nLy n dy idx : Nat} {rty : Option FieldType} {st : List Value} {S1 : ux_S}  (q : Nat) (As : List Value) (hdg : decode cc pc = .ok (.invokestatic idx, 3)) (F : ux_FS own idx y ccy nLy rty n) (hM : ux_M l G y ccy nLy rty dy As S none S1) (hd : dy + 1 ≤ d) (hn : As.length = n) (hst : st = As.reverse ++ rest) (hcat : (rest.map fun v => v.category).sum ≤ 8) (hq : pc + 3 = q) (kk : ux_At l G own cc nL rt d rv Z q lv rest S1) : ux_At l G own cc nL rt d rv Z pc lv st S := by
  subst hq
  intro p e s m args below meth c X ls hl H locs hU
  refine ux_run (A0 := ux_A G) (ux_runS ⟨X.1, X.2.1, X.2.2.1, X.2.2.2.1, X.2.2.2.2.1⟩ hM F ⟨hd, Nat.mul_le_mul_left 40 hd, Nat.zero_le _, Nat.zero_le _⟩ X.2.2.2.2.2.2.2 hU.1 hn hl.1 hst hcat hdg) (fun _ h => h) hU.2 (fun H1 locs1 hP1 hS1 => ?_)
  exact kk p e s m args below meth c X ls hl H1 locs1 ⟨hP1, hS1⟩
theorem ax_callNv {host : String} {y : MethodName} {ccy : ByteArray} {nLy n dy idx : Nat} {rty : Option FieldType} {st : List Value} {S1 : ux_S}  (q : Nat) (As : List Value) (hdg : decode cc pc = .ok (.invokestatic idx, 3)) (F : ux_FN y ccy nLy rty n) (hN : ∀ s : State, ux_K G s → va_Nw (.methodLinkNest own idx y host) s) (hM : ux_M l G y ccy nLy rty dy As S none S1) (hd : dy + 1 ≤ d) (hn : As.length = n) (hst : st = As.reverse ++ rest) (hcat : (rest.map fun v => v.category).sum ≤ 8) (hq : pc + 3 = q) (kk : ux_At l G own cc nL rt d rv Z q lv rest S1) : ux_At l G own cc nL rt d rv Z pc lv st S := by
  subst hq
  intro p e s m args below meth c X ls hl H locs hU
  refine ux_run (A0 := ux_A G) (ux_runN ⟨X.1, X.2.1, X.2.2.1, X.2.2.2.1, X.2.2.2.2.1⟩ hM F (hN s X.2.2.2.2.2.2.2) ⟨hd, Nat.mul_le_mul_left 40 hd, Nat.zero_le _, Nat.zero_le _⟩ X.2.2.2.2.2.2.2 hU.1 hn hl.1 hst hcat hdg) (fun _ h => h) hU.2 (fun H1 locs1 hP1 hS1 => ?_)
  exact kk p e s m args below meth c X ls hl H1 locs1 ⟨hP1, hS1⟩
end UXR
section UXT
variable {l : Launch} {G : ux_G} {own : String} {cc : ByteArray} {nL : Nat} {d : Nat} {Z : ux_S} {pc : Nat} {lv : List (Nat × Value)} {S : ux_S}
theorem ax_iret {v r : Int32} (hdg : decode cc pc = .ok (.ireturn, 1)) (hf : some (v, S) = some (r, Z)) : ux_At l G own cc nL (some .int) d (some (.int r)) Z pc lv [.int v] S := by
  cases hf
  intro p e s m args below meth c X ls hl H locs hU
  exact W.iret (v := v) X.1 X.2.1 X.2.2.2.2.2.1 (fun t ht hW => ⟨rfl, by rw [ht]; exact hU.1, hU.2.F ht⟩) hU.2.2.2 hdg X.2.2.2.2.2.2.1
theorem ax_zret {v r : Int32} (hdg : decode cc pc = .ok (.ireturn, 1)) (hn : narrow .boolean (.int v) = .int v) (hf : some (v, S) = some (r, Z)) : ux_At l G own cc nL (some .boolean) d (some (.int r)) Z pc lv [.int v] S := by
  cases hf
  intro p e s m args below meth c X ls hl H locs hU
  exact W.zret (v := v) (ty := .boolean) X.1 X.2.1 X.2.2.2.2.2.1 hn (fun t ht hW => ⟨rfl, by rw [ht]; exact hU.1, hU.2.F ht⟩) hU.2.2.2 hdg X.2.2.2.2.2.2.1
theorem ax_lret {v r : Int64} (hdg : decode cc pc = .ok (.lreturn, 1)) (hf : some (v, S) = some (r, Z)) : ux_At l G own cc nL (some .long) d (some (.long r)) Z pc lv [.long v] S := by
  cases hf
  intro p e s m args below meth c X ls hl H locs hU
  exact W.lret (v := v) X.1 X.2.1 X.2.2.2.2.2.1 (fun t ht hW => ⟨rfl, by rw [ht]; exact hU.1, hU.2.F ht⟩) hU.2.2.2 hdg X.2.2.2.2.2.2.1
theorem ax_vret (hdg : decode cc pc = .ok (.return_, 1)) (hf : some S = some Z) : ux_At l G own cc nL none d none Z pc lv [] S := by
  cases hf
  intro p e s m args below meth c X ls hl H locs hU
  exact W.vret X.1 X.2.1 X.2.2.2.2.2.1 (fun t ht hW => ⟨rfl, by rw [ht]; exact hU.1, hU.2.F ht⟩) hU.2.2.2 hdg X.2.2.2.2.2.2.1
end UXT
/-! answers as Options: guards, calls, loops -/
def ux_gd {α : Type} (b : Bool) (x : Option α) : Option α := match b with
  | true => x
  | false => none
theorem ux_gd_e {α : Type} {b : Bool} {x : Option α} {y : α} (h : ux_gd b x = some y) : b = true ∧ x = some y := by
  cases b
  · cases h
  · exact ⟨rfl, h⟩
def ux_bi {α β : Type} (o : Option (β × ux_S)) (k : β → ux_S → Option α) : Option α := match o with
  | some (r, S) => k r S
  | none => none
theorem ux_bi_e {α β : Type} {o : Option (β × ux_S)} {k : β → ux_S → Option α} {y : α} (h : ux_bi o k = some y) : ∃ r S, o = some (r, S) ∧ k r S = some y := by
  cases o with
  | none => cases h
  | some x => exact ⟨x.1, x.2, rfl, h⟩
def ux_bv {α : Type} (o : Option ux_S) (k : ux_S → Option α) : Option α := match o with
  | some S => k S
  | none => none
theorem ux_bv_e {α : Type} {o : Option ux_S} {k : ux_S → Option α} {y : α} (h : ux_bv o k = some y) : ∃ S, o = some S ∧ k S = some y := by
  cases o with
  | none => cases h
  | some x => exact ⟨x, rfl, h⟩
theorem ux_ift {α : Type} {c : Prop} [Decidable c] {a b x : α} (h : c) (hf : (if c then a else b) = x) : a = x := by rw [if_pos h] at hf; exact hf
theorem ux_iff {α : Type} {c : Prop} [Decidable c] {a b x : α} (h : ¬ c) (hf : (if c then a else b) = x) : b = x := by rw [if_neg h] at hf; exact hf

def ux_lp0 {α : Type} (b : (ux_S → Option α) → ux_S → Option α) : Nat → ux_S → Option α
  | 0 => fun _ => none
  | t + 1 => fun  S => b (ux_lp0 b t)  S
theorem ux_lp0_w {α : Type} {b : (ux_S → Option α) → ux_S → Option α} {y : α} {Pr : ux_S → Prop} (h : ∀ k : ux_S → Option α, (∀ (S : ux_S), k  S = some y → Pr  S) → ∀ (S : ux_S), b k  S = some y → Pr  S) : ∀ (t : Nat) (S : ux_S), ux_lp0 b t  S = some y → Pr  S := by
  intro t
  induction t with
  | zero => intro  S h0; cases h0
  | succ t ih => intro  S h0; exact h _ ih  S h0
def ux_lp1 {α : Type} (b : (Int32 → ux_S → Option α) → Int32 → ux_S → Option α) : Nat → Int32 → ux_S → Option α
  | 0 => fun _ _ => none
  | t + 1 => fun x0 S => b (ux_lp1 b t) x0 S
theorem ux_lp1_w {α : Type} {b : (Int32 → ux_S → Option α) → Int32 → ux_S → Option α} {y : α} {Pr : Int32 → ux_S → Prop} (h : ∀ k : Int32 → ux_S → Option α, (∀ (x0 : Int32) (S : ux_S), k x0 S = some y → Pr x0 S) → ∀ (x0 : Int32) (S : ux_S), b k x0 S = some y → Pr x0 S) : ∀ (t : Nat) (x0 : Int32) (S : ux_S), ux_lp1 b t x0 S = some y → Pr x0 S := by
  intro t
  induction t with
  | zero => intro x0 S h0; cases h0
  | succ t ih => intro x0 S h0; exact h _ ih x0 S h0
def ux_lp2 {α : Type} (b : (Int32 → Int32 → ux_S → Option α) → Int32 → Int32 → ux_S → Option α) : Nat → Int32 → Int32 → ux_S → Option α
  | 0 => fun _ _ _ => none
  | t + 1 => fun x0 x1 S => b (ux_lp2 b t) x0 x1 S
theorem ux_lp2_w {α : Type} {b : (Int32 → Int32 → ux_S → Option α) → Int32 → Int32 → ux_S → Option α} {y : α} {Pr : Int32 → Int32 → ux_S → Prop} (h : ∀ k : Int32 → Int32 → ux_S → Option α, (∀ (x0 x1 : Int32) (S : ux_S), k x0 x1 S = some y → Pr x0 x1 S) → ∀ (x0 x1 : Int32) (S : ux_S), b k x0 x1 S = some y → Pr x0 x1 S) : ∀ (t : Nat) (x0 x1 : Int32) (S : ux_S), ux_lp2 b t x0 x1 S = some y → Pr x0 x1 S := by
  intro t
  induction t with
  | zero => intro x0 x1 S h0; cases h0
  | succ t ih => intro x0 x1 S h0; exact h _ ih x0 x1 S h0
def ux_lp3 {α : Type} (b : (Int32 → Int32 → Int32 → ux_S → Option α) → Int32 → Int32 → Int32 → ux_S → Option α) : Nat → Int32 → Int32 → Int32 → ux_S → Option α
  | 0 => fun _ _ _ _ => none
  | t + 1 => fun x0 x1 x2 S => b (ux_lp3 b t) x0 x1 x2 S
theorem ux_lp3_w {α : Type} {b : (Int32 → Int32 → Int32 → ux_S → Option α) → Int32 → Int32 → Int32 → ux_S → Option α} {y : α} {Pr : Int32 → Int32 → Int32 → ux_S → Prop} (h : ∀ k : Int32 → Int32 → Int32 → ux_S → Option α, (∀ (x0 x1 x2 : Int32) (S : ux_S), k x0 x1 x2 S = some y → Pr x0 x1 x2 S) → ∀ (x0 x1 x2 : Int32) (S : ux_S), b k x0 x1 x2 S = some y → Pr x0 x1 x2 S) : ∀ (t : Nat) (x0 x1 x2 : Int32) (S : ux_S), ux_lp3 b t x0 x1 x2 S = some y → Pr x0 x1 x2 S := by
  intro t
  induction t with
  | zero => intro x0 x1 x2 S h0; cases h0
  | succ t ih => intro x0 x1 x2 S h0; exact h _ ih x0 x1 x2 S h0
def ux_lp4 {α : Type} (b : (Int32 → Int32 → Int32 → Int32 → ux_S → Option α) → Int32 → Int32 → Int32 → Int32 → ux_S → Option α) : Nat → Int32 → Int32 → Int32 → Int32 → ux_S → Option α
  | 0 => fun _ _ _ _ _ => none
  | t + 1 => fun x0 x1 x2 x3 S => b (ux_lp4 b t) x0 x1 x2 x3 S
theorem ux_lp4_w {α : Type} {b : (Int32 → Int32 → Int32 → Int32 → ux_S → Option α) → Int32 → Int32 → Int32 → Int32 → ux_S → Option α} {y : α} {Pr : Int32 → Int32 → Int32 → Int32 → ux_S → Prop} (h : ∀ k : Int32 → Int32 → Int32 → Int32 → ux_S → Option α, (∀ (x0 x1 x2 x3 : Int32) (S : ux_S), k x0 x1 x2 x3 S = some y → Pr x0 x1 x2 x3 S) → ∀ (x0 x1 x2 x3 : Int32) (S : ux_S), b k x0 x1 x2 x3 S = some y → Pr x0 x1 x2 x3 S) : ∀ (t : Nat) (x0 x1 x2 x3 : Int32) (S : ux_S), ux_lp4 b t x0 x1 x2 x3 S = some y → Pr x0 x1 x2 x3 S := by
  intro t
  induction t with
  | zero => intro x0 x1 x2 x3 S h0; cases h0
  | succ t ih => intro x0 x1 x2 x3 S h0; exact h _ ih x0 x1 x2 x3 S h0
def ux_lp5 {α : Type} (b : (Int32 → Int32 → Int32 → Int32 → Int32 → ux_S → Option α) → Int32 → Int32 → Int32 → Int32 → Int32 → ux_S → Option α) : Nat → Int32 → Int32 → Int32 → Int32 → Int32 → ux_S → Option α
  | 0 => fun _ _ _ _ _ _ => none
  | t + 1 => fun x0 x1 x2 x3 x4 S => b (ux_lp5 b t) x0 x1 x2 x3 x4 S
theorem ux_lp5_w {α : Type} {b : (Int32 → Int32 → Int32 → Int32 → Int32 → ux_S → Option α) → Int32 → Int32 → Int32 → Int32 → Int32 → ux_S → Option α} {y : α} {Pr : Int32 → Int32 → Int32 → Int32 → Int32 → ux_S → Prop} (h : ∀ k : Int32 → Int32 → Int32 → Int32 → Int32 → ux_S → Option α, (∀ (x0 x1 x2 x3 x4 : Int32) (S : ux_S), k x0 x1 x2 x3 x4 S = some y → Pr x0 x1 x2 x3 x4 S) → ∀ (x0 x1 x2 x3 x4 : Int32) (S : ux_S), b k x0 x1 x2 x3 x4 S = some y → Pr x0 x1 x2 x3 x4 S) : ∀ (t : Nat) (x0 x1 x2 x3 x4 : Int32) (S : ux_S), ux_lp5 b t x0 x1 x2 x3 x4 S = some y → Pr x0 x1 x2 x3 x4 S := by
  intro t
  induction t with
  | zero => intro x0 x1 x2 x3 x4 S h0; cases h0
  | succ t ih => intro x0 x1 x2 x3 x4 S h0; exact h _ ih x0 x1 x2 x3 x4 S h0
def ux_lp6 {α : Type} (b : (Int32 → Int32 → Int32 → Int32 → Int32 → Int32 → ux_S → Option α) → Int32 → Int32 → Int32 → Int32 → Int32 → Int32 → ux_S → Option α) : Nat → Int32 → Int32 → Int32 → Int32 → Int32 → Int32 → ux_S → Option α
  | 0 => fun _ _ _ _ _ _ _ => none
  | t + 1 => fun x0 x1 x2 x3 x4 x5 S => b (ux_lp6 b t) x0 x1 x2 x3 x4 x5 S
theorem ux_lp6_w {α : Type} {b : (Int32 → Int32 → Int32 → Int32 → Int32 → Int32 → ux_S → Option α) → Int32 → Int32 → Int32 → Int32 → Int32 → Int32 → ux_S → Option α} {y : α} {Pr : Int32 → Int32 → Int32 → Int32 → Int32 → Int32 → ux_S → Prop} (h : ∀ k : Int32 → Int32 → Int32 → Int32 → Int32 → Int32 → ux_S → Option α, (∀ (x0 x1 x2 x3 x4 x5 : Int32) (S : ux_S), k x0 x1 x2 x3 x4 x5 S = some y → Pr x0 x1 x2 x3 x4 x5 S) → ∀ (x0 x1 x2 x3 x4 x5 : Int32) (S : ux_S), b k x0 x1 x2 x3 x4 x5 S = some y → Pr x0 x1 x2 x3 x4 x5 S) : ∀ (t : Nat) (x0 x1 x2 x3 x4 x5 : Int32) (S : ux_S), ux_lp6 b t x0 x1 x2 x3 x4 x5 S = some y → Pr x0 x1 x2 x3 x4 x5 S := by
  intro t
  induction t with
  | zero => intro x0 x1 x2 x3 x4 x5 S h0; cases h0
  | succ t ih => intro x0 x1 x2 x3 x4 x5 S h0; exact h _ ih x0 x1 x2 x3 x4 x5 S h0
def ux_lp7 {α : Type} (b : (Int32 → Int32 → Int32 → Int32 → Int32 → Int32 → Int32 → ux_S → Option α) → Int32 → Int32 → Int32 → Int32 → Int32 → Int32 → Int32 → ux_S → Option α) : Nat → Int32 → Int32 → Int32 → Int32 → Int32 → Int32 → Int32 → ux_S → Option α
  | 0 => fun _ _ _ _ _ _ _ _ => none
  | t + 1 => fun x0 x1 x2 x3 x4 x5 x6 S => b (ux_lp7 b t) x0 x1 x2 x3 x4 x5 x6 S
theorem ux_lp7_w {α : Type} {b : (Int32 → Int32 → Int32 → Int32 → Int32 → Int32 → Int32 → ux_S → Option α) → Int32 → Int32 → Int32 → Int32 → Int32 → Int32 → Int32 → ux_S → Option α} {y : α} {Pr : Int32 → Int32 → Int32 → Int32 → Int32 → Int32 → Int32 → ux_S → Prop} (h : ∀ k : Int32 → Int32 → Int32 → Int32 → Int32 → Int32 → Int32 → ux_S → Option α, (∀ (x0 x1 x2 x3 x4 x5 x6 : Int32) (S : ux_S), k x0 x1 x2 x3 x4 x5 x6 S = some y → Pr x0 x1 x2 x3 x4 x5 x6 S) → ∀ (x0 x1 x2 x3 x4 x5 x6 : Int32) (S : ux_S), b k x0 x1 x2 x3 x4 x5 x6 S = some y → Pr x0 x1 x2 x3 x4 x5 x6 S) : ∀ (t : Nat) (x0 x1 x2 x3 x4 x5 x6 : Int32) (S : ux_S), ux_lp7 b t x0 x1 x2 x3 x4 x5 x6 S = some y → Pr x0 x1 x2 x3 x4 x5 x6 S := by
  intro t
  induction t with
  | zero => intro x0 x1 x2 x3 x4 x5 x6 S h0; cases h0
  | succ t ih => intro x0 x1 x2 x3 x4 x5 x6 S h0; exact h _ ih x0 x1 x2 x3 x4 x5 x6 S h0
def ux_lp8 {α : Type} (b : (Int32 → Int32 → Int32 → Int32 → Int32 → Int32 → Int32 → Int32 → ux_S → Option α) → Int32 → Int32 → Int32 → Int32 → Int32 → Int32 → Int32 → Int32 → ux_S → Option α) : Nat → Int32 → Int32 → Int32 → Int32 → Int32 → Int32 → Int32 → Int32 → ux_S → Option α
  | 0 => fun _ _ _ _ _ _ _ _ _ => none
  | t + 1 => fun x0 x1 x2 x3 x4 x5 x6 x7 S => b (ux_lp8 b t) x0 x1 x2 x3 x4 x5 x6 x7 S
theorem ux_lp8_w {α : Type} {b : (Int32 → Int32 → Int32 → Int32 → Int32 → Int32 → Int32 → Int32 → ux_S → Option α) → Int32 → Int32 → Int32 → Int32 → Int32 → Int32 → Int32 → Int32 → ux_S → Option α} {y : α} {Pr : Int32 → Int32 → Int32 → Int32 → Int32 → Int32 → Int32 → Int32 → ux_S → Prop} (h : ∀ k : Int32 → Int32 → Int32 → Int32 → Int32 → Int32 → Int32 → Int32 → ux_S → Option α, (∀ (x0 x1 x2 x3 x4 x5 x6 x7 : Int32) (S : ux_S), k x0 x1 x2 x3 x4 x5 x6 x7 S = some y → Pr x0 x1 x2 x3 x4 x5 x6 x7 S) → ∀ (x0 x1 x2 x3 x4 x5 x6 x7 : Int32) (S : ux_S), b k x0 x1 x2 x3 x4 x5 x6 x7 S = some y → Pr x0 x1 x2 x3 x4 x5 x6 x7 S) : ∀ (t : Nat) (x0 x1 x2 x3 x4 x5 x6 x7 : Int32) (S : ux_S), ux_lp8 b t x0 x1 x2 x3 x4 x5 x6 x7 S = some y → Pr x0 x1 x2 x3 x4 x5 x6 x7 S := by
  intro t
  induction t with
  | zero => intro x0 x1 x2 x3 x4 x5 x6 x7 S h0; cases h0
  | succ t ih => intro x0 x1 x2 x3 x4 x5 x6 x7 S h0; exact h _ ih x0 x1 x2 x3 x4 x5 x6 x7 S h0
end
section
theorem lwX0 : ∀ w ∈ u_ws RX0 TX0 3, w ∈ ux_WA := by
  intro w hw
  obtain ⟨k, hk, rfl⟩ := List.mem_map.mp hw
  have hk := List.mem_range.mp hk
  match k, hk with
  | 0, _ => exact ux_m1 185 rfl rfl
  | 1, _ => exact ux_m1 187 rfl rfl
  | 2, _ => exact ux_m1 189 rfl rfl
  | k + 3, hk => exact absurd hk (by omega)
theorem lwX1 : ∀ w ∈ u_ws RX1 TX1 6, w ∈ ux_WA := by
  intro w hw
  obtain ⟨k, hk, rfl⟩ := List.mem_map.mp hw
  have hk := List.mem_range.mp hk
  match k, hk with
  | 0, _ => exact ux_m1 161 rfl rfl
  | 1, _ => exact ux_m1 163 rfl rfl
  | 2, _ => exact ux_m1 165 rfl rfl
  | 3, _ => exact ux_m1 167 rfl rfl
  | 4, _ => exact ux_m1 169 rfl rfl
  | 5, _ => exact ux_m1 171 rfl rfl
  | k + 6, hk => exact absurd hk (by omega)
theorem lwX2 : ∀ w ∈ u_ws RX2 TX2 8, w ∈ ux_WA := by
  intro w hw
  obtain ⟨k, hk, rfl⟩ := List.mem_map.mp hw
  have hk := List.mem_range.mp hk
  match k, hk with
  | 0, _ => exact ux_m1 51 rfl rfl
  | 1, _ => exact ux_m1 53 rfl rfl
  | 2, _ => exact ux_m1 55 rfl rfl
  | 3, _ => exact ux_m1 57 rfl rfl
  | 4, _ => exact ux_m1 59 rfl rfl
  | 5, _ => exact ux_m1 61 rfl rfl
  | 6, _ => exact ux_m1 63 rfl rfl
  | 7, _ => exact ux_m1 65 rfl rfl
  | k + 8, hk => exact absurd hk (by omega)
theorem lwX3 : ∀ w ∈ u_ws RX3 TX3 6, w ∈ ux_WA := by
  intro w hw
  obtain ⟨k, hk, rfl⟩ := List.mem_map.mp hw
  have hk := List.mem_range.mp hk
  match k, hk with
  | 0, _ => exact ux_m1 209 rfl rfl
  | 1, _ => exact ux_m1 211 rfl rfl
  | 2, _ => exact ux_m1 213 rfl rfl
  | 3, _ => exact ux_m1 215 rfl rfl
  | 4, _ => exact ux_m1 217 rfl rfl
  | 5, _ => exact ux_m1 219 rfl rfl
  | k + 6, hk => exact absurd hk (by omega)
theorem lwX4 : ∀ w ∈ u_ws RX4 TX4 8, w ∈ ux_WA := by
  intro w hw
  obtain ⟨k, hk, rfl⟩ := List.mem_map.mp hw
  have hk := List.mem_range.mp hk
  match k, hk with
  | 0, _ => exact ux_m1 103 rfl rfl
  | 1, _ => exact ux_m1 105 rfl rfl
  | 2, _ => exact ux_m1 107 rfl rfl
  | 3, _ => exact ux_m1 109 rfl rfl
  | 4, _ => exact ux_m1 111 rfl rfl
  | 5, _ => exact ux_m1 113 rfl rfl
  | 6, _ => exact ux_m1 115 rfl rfl
  | 7, _ => exact ux_m1 117 rfl rfl
  | k + 8, hk => exact absurd hk (by omega)
theorem lwX5 : ∀ w ∈ u_ws RX5 TX5 2, w ∈ ux_WA := by
  intro w hw
  obtain ⟨k, hk, rfl⟩ := List.mem_map.mp hw
  have hk := List.mem_range.mp hk
  match k, hk with
  | 0, _ => exact ux_m1 80 rfl rfl
  | 1, _ => exact ux_m1 82 rfl rfl
  | k + 2, hk => exact absurd hk (by omega)
theorem lwX6 : ∀ w ∈ u_ws RX6 TX6 3, w ∈ ux_WA := by
  intro w hw
  obtain ⟨k, hk, rfl⟩ := List.mem_map.mp hw
  have hk := List.mem_range.mp hk
  match k, hk with
  | 0, _ => exact ux_m1 135 rfl rfl
  | 1, _ => exact ux_m1 137 rfl rfl
  | 2, _ => exact ux_m1 139 rfl rfl
  | k + 3, hk => exact absurd hk (by omega)
theorem lwX7 : ∀ w ∈ u_ws RX7 TX7 7, w ∈ ux_WA := by
  intro w hw
  obtain ⟨k, hk, rfl⟩ := List.mem_map.mp hw
  have hk := List.mem_range.mp hk
  match k, hk with
  | 0, _ => exact ux_m1 230 rfl rfl
  | 1, _ => exact ux_m1 232 rfl rfl
  | 2, _ => exact ux_m1 234 rfl rfl
  | 3, _ => exact ux_m1 236 rfl rfl
  | 4, _ => exact ux_m1 238 rfl rfl
  | 5, _ => exact ux_m2 0 rfl rfl
  | 6, _ => exact ux_m2 2 rfl rfl
  | k + 7, hk => exact absurd hk (by omega)
theorem lwX8 : ∀ w ∈ u_ws RX8 TX8 38, w ∈ ux_WA := by
  intro w hw
  obtain ⟨k, hk, rfl⟩ := List.mem_map.mp hw
  have hk := List.mem_range.mp hk
  match k, hk with
  | 0, _ => exact ux_m3 214 rfl rfl
  | 1, _ => exact ux_m3 216 rfl rfl
  | 2, _ => exact ux_m3 218 rfl rfl
  | 3, _ => exact ux_m3 220 rfl rfl
  | 4, _ => exact ux_m3 222 rfl rfl
  | 5, _ => exact ux_m3 224 rfl rfl
  | 6, _ => exact ux_m3 226 rfl rfl
  | 7, _ => exact ux_m3 228 rfl rfl
  | 8, _ => exact ux_m3 230 rfl rfl
  | 9, _ => exact ux_m3 232 rfl rfl
  | 10, _ => exact ux_m3 234 rfl rfl
  | 11, _ => exact ux_m3 236 rfl rfl
  | 12, _ => exact ux_m3 238 rfl rfl
  | 13, _ => exact ux_m4 0 rfl rfl
  | 14, _ => exact ux_m4 2 rfl rfl
  | 15, _ => exact ux_m4 4 rfl rfl
  | 16, _ => exact ux_m4 6 rfl rfl
  | 17, _ => exact ux_m4 8 rfl rfl
  | 18, _ => exact ux_m4 10 rfl rfl
  | 19, _ => exact ux_m4 12 rfl rfl
  | 20, _ => exact ux_m4 14 rfl rfl
  | 21, _ => exact ux_m4 16 rfl rfl
  | 22, _ => exact ux_m4 18 rfl rfl
  | 23, _ => exact ux_m4 20 rfl rfl
  | 24, _ => exact ux_m4 22 rfl rfl
  | 25, _ => exact ux_m4 24 rfl rfl
  | 26, _ => exact ux_m4 26 rfl rfl
  | 27, _ => exact ux_m4 28 rfl rfl
  | 28, _ => exact ux_m4 30 rfl rfl
  | 29, _ => exact ux_m4 32 rfl rfl
  | 30, _ => exact ux_m4 34 rfl rfl
  | 31, _ => exact ux_m4 36 rfl rfl
  | 32, _ => exact ux_m4 38 rfl rfl
  | 33, _ => exact ux_m4 40 rfl rfl
  | 34, _ => exact ux_m4 42 rfl rfl
  | 35, _ => exact ux_m4 44 rfl rfl
  | 36, _ => exact ux_m4 46 rfl rfl
  | 37, _ => exact ux_m4 48 rfl rfl
  | k + 38, hk => exact absurd hk (by omega)
theorem fg_X2_9 : ux_FG RX2 9 1 0 := ⟨2, RX2, TX2, 8, by decide, rfl, rfl, lwX2, by decide, rfl, (ux_m1 30 rfl rfl)⟩
theorem fg_X7_71 : ux_FG RX7 71 1 0 := ⟨2, RX2, TX2, 8, by decide, rfl, rfl, lwX2, by decide, rfl, (ux_m1 31 rfl rfl)⟩
theorem fg_X1_52 : ux_FG RX1 52 1 0 := ⟨2, RX2, TX2, 8, by decide, rfl, rfl, lwX2, by decide, rfl, (ux_m1 32 rfl rfl)⟩
theorem fg_X2_15 : ux_FG RX2 15 1 1 := ⟨2, RX2, TX2, 8, by decide, rfl, rfl, lwX2, by decide, rfl, (ux_m1 33 rfl rfl)⟩
theorem fg_X2_18 : ux_FG RX2 18 1 2 := ⟨2, RX2, TX2, 8, by decide, rfl, rfl, lwX2, by decide, rfl, (ux_m1 34 rfl rfl)⟩
theorem fg_X7_160 : ux_FG RX7 160 1 2 := ⟨2, RX2, TX2, 8, by decide, rfl, rfl, lwX2, by decide, rfl, (ux_m1 35 rfl rfl)⟩
theorem fg_X2_21 : ux_FG RX2 21 1 3 := ⟨2, RX2, TX2, 8, by decide, rfl, rfl, lwX2, by decide, rfl, (ux_m1 36 rfl rfl)⟩
theorem fg_X4_61 : ux_FG RX4 61 1 3 := ⟨2, RX2, TX2, 8, by decide, rfl, rfl, lwX2, by decide, rfl, (ux_m1 37 rfl rfl)⟩
theorem fg_X2_26 : ux_FG RX2 26 1 4 := ⟨2, RX2, TX2, 8, by decide, rfl, rfl, lwX2, by decide, rfl, (ux_m1 38 rfl rfl)⟩
theorem fg_X7_75 : ux_FG RX7 75 1 4 := ⟨2, RX2, TX2, 8, by decide, rfl, rfl, lwX2, by decide, rfl, (ux_m1 39 rfl rfl)⟩
theorem fg_X4_75 : ux_FG RX4 75 1 4 := ⟨2, RX2, TX2, 8, by decide, rfl, rfl, lwX2, by decide, rfl, (ux_m1 40 rfl rfl)⟩
theorem fg_X2_29 : ux_FG RX2 29 1 5 := ⟨2, RX2, TX2, 8, by decide, rfl, rfl, lwX2, by decide, rfl, (ux_m1 41 rfl rfl)⟩
theorem fp_X2_29 : ux_FP RX2 29 1 5 := ⟨2, RX2, TX2, 8, tyX2, by decide, rfl, rfl, lwX2, by decide, rfl, (ux_m1 41 rfl rfl), tyX2_ok, nmX2, rfl, by decide +kernel, rfl⟩
theorem fg_X4_48 : ux_FG RX4 48 1 5 := ⟨2, RX2, TX2, 8, by decide, rfl, rfl, lwX2, by decide, rfl, (ux_m1 42 rfl rfl)⟩
theorem fp_X4_48 : ux_FP RX4 48 1 5 := ⟨2, RX2, TX2, 8, tyX2, by decide, rfl, rfl, lwX2, by decide, rfl, (ux_m1 42 rfl rfl), tyX2_ok, nmX2, rfl, by decide +kernel, rfl⟩
theorem fg_X1_47 : ux_FG RX1 47 1 5 := ⟨2, RX2, TX2, 8, by decide, rfl, rfl, lwX2, by decide, rfl, (ux_m1 43 rfl rfl)⟩
theorem fp_X1_47 : ux_FP RX1 47 1 5 := ⟨2, RX2, TX2, 8, tyX2, by decide, rfl, rfl, lwX2, by decide, rfl, (ux_m1 43 rfl rfl), tyX2_ok, nmX2, rfl, by decide +kernel, rfl⟩
theorem fg_X7_105 : ux_FG RX7 105 1 5 := ⟨2, RX2, TX2, 8, by decide, rfl, rfl, lwX2, by decide, rfl, (ux_m1 44 rfl rfl)⟩
theorem fp_X7_105 : ux_FP RX7 105 1 5 := ⟨2, RX2, TX2, 8, tyX2, by decide, rfl, rfl, lwX2, by decide, rfl, (ux_m1 44 rfl rfl), tyX2_ok, nmX2, rfl, by decide +kernel, rfl⟩
theorem fg_X2_33 : ux_FG RX2 33 1 6 := ⟨2, RX2, TX2, 8, by decide, rfl, rfl, lwX2, by decide, rfl, (ux_m1 45 rfl rfl)⟩
theorem fp_X2_33 : ux_FP RX2 33 1 6 := ⟨2, RX2, TX2, 8, tyX2, by decide, rfl, rfl, lwX2, by decide, rfl, (ux_m1 45 rfl rfl), tyX2_ok, nmX2, rfl, by decide +kernel, rfl⟩
theorem fg_X7_123 : ux_FG RX7 123 1 6 := ⟨2, RX2, TX2, 8, by decide, rfl, rfl, lwX2, by decide, rfl, (ux_m1 46 rfl rfl)⟩
theorem fp_X7_123 : ux_FP RX7 123 1 6 := ⟨2, RX2, TX2, 8, tyX2, by decide, rfl, rfl, lwX2, by decide, rfl, (ux_m1 46 rfl rfl), tyX2_ok, nmX2, rfl, by decide +kernel, rfl⟩
theorem fg_X4_84 : ux_FG RX4 84 1 6 := ⟨2, RX2, TX2, 8, by decide, rfl, rfl, lwX2, by decide, rfl, (ux_m1 47 rfl rfl)⟩
theorem fp_X4_84 : ux_FP RX4 84 1 6 := ⟨2, RX2, TX2, 8, tyX2, by decide, rfl, rfl, lwX2, by decide, rfl, (ux_m1 47 rfl rfl), tyX2_ok, nmX2, rfl, by decide +kernel, rfl⟩
theorem fg_X2_36 : ux_FG RX2 36 1 7 := ⟨2, RX2, TX2, 8, by decide, rfl, rfl, lwX2, by decide, rfl, (ux_m1 48 rfl rfl)⟩
theorem fp_X2_36 : ux_FP RX2 36 1 7 := ⟨2, RX2, TX2, 8, tyX2, by decide, rfl, rfl, lwX2, by decide, rfl, (ux_m1 48 rfl rfl), tyX2_ok, nmX2, rfl, by decide +kernel, rfl⟩
theorem fg_X7_126 : ux_FG RX7 126 1 7 := ⟨2, RX2, TX2, 8, by decide, rfl, rfl, lwX2, by decide, rfl, (ux_m1 49 rfl rfl)⟩
theorem fp_X7_126 : ux_FP RX7 126 1 7 := ⟨2, RX2, TX2, 8, tyX2, by decide, rfl, rfl, lwX2, by decide, rfl, (ux_m1 49 rfl rfl), tyX2_ok, nmX2, rfl, by decide +kernel, rfl⟩
theorem fg_X4_87 : ux_FG RX4 87 1 7 := ⟨2, RX2, TX2, 8, by decide, rfl, rfl, lwX2, by decide, rfl, (ux_m1 50 rfl rfl)⟩
theorem fp_X4_87 : ux_FP RX4 87 1 7 := ⟨2, RX2, TX2, 8, tyX2, by decide, rfl, rfl, lwX2, by decide, rfl, (ux_m1 50 rfl rfl), tyX2_ok, nmX2, rfl, by decide +kernel, rfl⟩
theorem fg_X5_9 : ux_FG RX5 9 2 0 := ⟨5, RX5, TX5, 2, by decide, rfl, rfl, lwX5, by decide, rfl, (ux_m1 78 rfl rfl)⟩
theorem fg_X5_15 : ux_FG RX5 15 2 1 := ⟨5, RX5, TX5, 2, by decide, rfl, rfl, lwX5, by decide, rfl, (ux_m1 79 rfl rfl)⟩
theorem fp_X5_15 : ux_FP RX5 15 2 1 := ⟨5, RX5, TX5, 2, tyX5, by decide, rfl, rfl, lwX5, by decide, rfl, (ux_m1 79 rfl rfl), tyX5_ok, nmX5, rfl, by decide +kernel, rfl⟩
theorem fg_X4_9 : ux_FG RX4 9 3 0 := ⟨4, RX4, TX4, 8, by decide, rfl, rfl, lwX4, by decide, rfl, (ux_m1 93 rfl rfl)⟩
theorem fg_X4_15 : ux_FG RX4 15 3 1 := ⟨4, RX4, TX4, 8, by decide, rfl, rfl, lwX4, by decide, rfl, (ux_m1 94 rfl rfl)⟩
theorem fg_X4_18 : ux_FG RX4 18 3 2 := ⟨4, RX4, TX4, 8, by decide, rfl, rfl, lwX4, by decide, rfl, (ux_m1 95 rfl rfl)⟩
theorem fp_X4_18 : ux_FP RX4 18 3 2 := ⟨4, RX4, TX4, 8, tyX4, by decide, rfl, rfl, lwX4, by decide, rfl, (ux_m1 95 rfl rfl), tyX4_ok, nmX4, rfl, by decide +kernel, rfl⟩
theorem fg_X7_168 : ux_FG RX7 168 3 2 := ⟨4, RX4, TX4, 8, by decide, rfl, rfl, lwX4, by decide, rfl, (ux_m1 96 rfl rfl)⟩
theorem fp_X7_168 : ux_FP RX7 168 3 2 := ⟨4, RX4, TX4, 8, tyX4, by decide, rfl, rfl, lwX4, by decide, rfl, (ux_m1 96 rfl rfl), tyX4_ok, nmX4, rfl, by decide +kernel, rfl⟩
theorem fg_X4_22 : ux_FG RX4 22 3 3 := ⟨4, RX4, TX4, 8, by decide, rfl, rfl, lwX4, by decide, rfl, (ux_m1 97 rfl rfl)⟩
theorem fg_X7_175 : ux_FG RX7 175 3 3 := ⟨4, RX4, TX4, 8, by decide, rfl, rfl, lwX4, by decide, rfl, (ux_m1 98 rfl rfl)⟩
theorem fg_X4_25 : ux_FG RX4 25 3 4 := ⟨4, RX4, TX4, 8, by decide, rfl, rfl, lwX4, by decide, rfl, (ux_m1 99 rfl rfl)⟩
theorem fg_X4_28 : ux_FG RX4 28 3 5 := ⟨4, RX4, TX4, 8, by decide, rfl, rfl, lwX4, by decide, rfl, (ux_m1 100 rfl rfl)⟩
theorem fg_X4_33 : ux_FG RX4 33 3 6 := ⟨4, RX4, TX4, 8, by decide, rfl, rfl, lwX4, by decide, rfl, (ux_m1 101 rfl rfl)⟩
theorem fg_X4_37 : ux_FG RX4 37 3 7 := ⟨4, RX4, TX4, 8, by decide, rfl, rfl, lwX4, by decide, rfl, (ux_m1 102 rfl rfl)⟩
theorem fp_X4_37 : ux_FP RX4 37 3 7 := ⟨4, RX4, TX4, 8, tyX4, by decide, rfl, rfl, lwX4, by decide, rfl, (ux_m1 102 rfl rfl), tyX4_ok, nmX4, rfl, by decide +kernel, rfl⟩
theorem fg_X6_11 : ux_FG RX6 11 4 0 := ⟨6, RX6, TX6, 3, by decide, rfl, rfl, lwX6, by decide, rfl, (ux_m1 129 rfl rfl)⟩
theorem fg_X7_94 : ux_FG RX7 94 4 0 := ⟨6, RX6, TX6, 3, by decide, rfl, rfl, lwX6, by decide, rfl, (ux_m1 130 rfl rfl)⟩
theorem fg_X6_16 : ux_FG RX6 16 4 1 := ⟨6, RX6, TX6, 3, by decide, rfl, rfl, lwX6, by decide, rfl, (ux_m1 131 rfl rfl)⟩
theorem fg_X7_98 : ux_FG RX7 98 4 1 := ⟨6, RX6, TX6, 3, by decide, rfl, rfl, lwX6, by decide, rfl, (ux_m1 132 rfl rfl)⟩
theorem fg_X6_20 : ux_FG RX6 20 4 2 := ⟨6, RX6, TX6, 3, by decide, rfl, rfl, lwX6, by decide, rfl, (ux_m1 133 rfl rfl)⟩
theorem fg_X7_265 : ux_FG RX7 265 4 2 := ⟨6, RX6, TX6, 3, by decide, rfl, rfl, lwX6, by decide, rfl, (ux_m1 134 rfl rfl)⟩
theorem fg_X1_9 : ux_FG RX1 9 5 0 := ⟨1, RX1, TX1, 6, by decide, rfl, rfl, lwX1, by decide, rfl, (ux_m1 151 rfl rfl)⟩
theorem fg_X1_15 : ux_FG RX1 15 5 1 := ⟨1, RX1, TX1, 6, by decide, rfl, rfl, lwX1, by decide, rfl, (ux_m1 152 rfl rfl)⟩
theorem fg_X1_20 : ux_FG RX1 20 5 2 := ⟨1, RX1, TX1, 6, by decide, rfl, rfl, lwX1, by decide, rfl, (ux_m1 153 rfl rfl)⟩
theorem fg_X7_183 : ux_FG RX7 183 5 2 := ⟨1, RX1, TX1, 6, by decide, rfl, rfl, lwX1, by decide, rfl, (ux_m1 154 rfl rfl)⟩
theorem fg_X1_23 : ux_FG RX1 23 5 3 := ⟨1, RX1, TX1, 6, by decide, rfl, rfl, lwX1, by decide, rfl, (ux_m1 155 rfl rfl)⟩
theorem fg_X7_196 : ux_FG RX7 196 5 3 := ⟨1, RX1, TX1, 6, by decide, rfl, rfl, lwX1, by decide, rfl, (ux_m1 156 rfl rfl)⟩
theorem fg_X1_26 : ux_FG RX1 26 5 4 := ⟨1, RX1, TX1, 6, by decide, rfl, rfl, lwX1, by decide, rfl, (ux_m1 157 rfl rfl)⟩
theorem fp_X1_26 : ux_FP RX1 26 5 4 := ⟨1, RX1, TX1, 6, tyX1, by decide, rfl, rfl, lwX1, by decide, rfl, (ux_m1 157 rfl rfl), tyX1_ok, nmX1, rfl, by decide +kernel, rfl⟩
theorem fg_X7_257 : ux_FG RX7 257 5 4 := ⟨1, RX1, TX1, 6, by decide, rfl, rfl, lwX1, by decide, rfl, (ux_m1 158 rfl rfl)⟩
theorem fp_X7_257 : ux_FP RX7 257 5 4 := ⟨1, RX1, TX1, 6, tyX1, by decide, rfl, rfl, lwX1, by decide, rfl, (ux_m1 158 rfl rfl), tyX1_ok, nmX1, rfl, by decide +kernel, rfl⟩
theorem fg_X1_30 : ux_FG RX1 30 5 5 := ⟨1, RX1, TX1, 6, by decide, rfl, rfl, lwX1, by decide, rfl, (ux_m1 159 rfl rfl)⟩
theorem fp_X1_30 : ux_FP RX1 30 5 5 := ⟨1, RX1, TX1, 6, tyX1, by decide, rfl, rfl, lwX1, by decide, rfl, (ux_m1 159 rfl rfl), tyX1_ok, nmX1, rfl, by decide +kernel, rfl⟩
theorem fg_X7_186 : ux_FG RX7 186 5 5 := ⟨1, RX1, TX1, 6, by decide, rfl, rfl, lwX1, by decide, rfl, (ux_m1 160 rfl rfl)⟩
theorem fp_X7_186 : ux_FP RX7 186 5 5 := ⟨1, RX1, TX1, 6, tyX1, by decide, rfl, rfl, lwX1, by decide, rfl, (ux_m1 160 rfl rfl), tyX1_ok, nmX1, rfl, by decide +kernel, rfl⟩
theorem fg_X0_9 : ux_FG RX0 9 6 0 := ⟨0, RX0, TX0, 3, by decide, rfl, rfl, lwX0, by decide, rfl, (ux_m1 180 rfl rfl)⟩
theorem fg_X0_15 : ux_FG RX0 15 6 1 := ⟨0, RX0, TX0, 3, by decide, rfl, rfl, lwX0, by decide, rfl, (ux_m1 181 rfl rfl)⟩
theorem fp_X0_15 : ux_FP RX0 15 6 1 := ⟨0, RX0, TX0, 3, tyX0, by decide, rfl, rfl, lwX0, by decide, rfl, (ux_m1 181 rfl rfl), tyX0_ok, nmX0, rfl, by decide +kernel, rfl⟩
theorem fg_X7_259 : ux_FG RX7 259 6 1 := ⟨0, RX0, TX0, 3, by decide, rfl, rfl, lwX0, by decide, rfl, (ux_m1 182 rfl rfl)⟩
theorem fp_X7_259 : ux_FP RX7 259 6 1 := ⟨0, RX0, TX0, 3, tyX0, by decide, rfl, rfl, lwX0, by decide, rfl, (ux_m1 182 rfl rfl), tyX0_ok, nmX0, rfl, by decide +kernel, rfl⟩
theorem fg_X0_19 : ux_FG RX0 19 6 2 := ⟨0, RX0, TX0, 3, by decide, rfl, rfl, lwX0, by decide, rfl, (ux_m1 183 rfl rfl)⟩
theorem fp_X0_19 : ux_FP RX0 19 6 2 := ⟨0, RX0, TX0, 3, tyX0, by decide, rfl, rfl, lwX0, by decide, rfl, (ux_m1 183 rfl rfl), tyX0_ok, nmX0, rfl, by decide +kernel, rfl⟩
theorem fg_X7_220 : ux_FG RX7 220 6 2 := ⟨0, RX0, TX0, 3, by decide, rfl, rfl, lwX0, by decide, rfl, (ux_m1 184 rfl rfl)⟩
theorem fp_X7_220 : ux_FP RX7 220 6 2 := ⟨0, RX0, TX0, 3, tyX0, by decide, rfl, rfl, lwX0, by decide, rfl, (ux_m1 184 rfl rfl), tyX0_ok, nmX0, rfl, by decide +kernel, rfl⟩
theorem fg_X3_9 : ux_FG RX3 9 7 0 := ⟨3, RX3, TX3, 6, by decide, rfl, rfl, lwX3, by decide, rfl, (ux_m1 198 rfl rfl)⟩
theorem fg_X3_15 : ux_FG RX3 15 7 1 := ⟨3, RX3, TX3, 6, by decide, rfl, rfl, lwX3, by decide, rfl, (ux_m1 199 rfl rfl)⟩
theorem fg_X7_236 : ux_FG RX7 236 7 1 := ⟨3, RX3, TX3, 6, by decide, rfl, rfl, lwX3, by decide, rfl, (ux_m1 200 rfl rfl)⟩
theorem fg_X3_19 : ux_FG RX3 19 7 2 := ⟨3, RX3, TX3, 6, by decide, rfl, rfl, lwX3, by decide, rfl, (ux_m1 201 rfl rfl)⟩
theorem fg_X7_240 : ux_FG RX7 240 7 2 := ⟨3, RX3, TX3, 6, by decide, rfl, rfl, lwX3, by decide, rfl, (ux_m1 202 rfl rfl)⟩
theorem fg_X3_22 : ux_FG RX3 22 7 3 := ⟨3, RX3, TX3, 6, by decide, rfl, rfl, lwX3, by decide, rfl, (ux_m1 203 rfl rfl)⟩
theorem fg_X7_246 : ux_FG RX7 246 7 3 := ⟨3, RX3, TX3, 6, by decide, rfl, rfl, lwX3, by decide, rfl, (ux_m1 204 rfl rfl)⟩
theorem fg_X3_25 : ux_FG RX3 25 7 4 := ⟨3, RX3, TX3, 6, by decide, rfl, rfl, lwX3, by decide, rfl, (ux_m1 205 rfl rfl)⟩
theorem fg_X7_249 : ux_FG RX7 249 7 4 := ⟨3, RX3, TX3, 6, by decide, rfl, rfl, lwX3, by decide, rfl, (ux_m1 206 rfl rfl)⟩
theorem fg_X3_28 : ux_FG RX3 28 7 5 := ⟨3, RX3, TX3, 6, by decide, rfl, rfl, lwX3, by decide, rfl, (ux_m1 207 rfl rfl)⟩
theorem fp_X3_28 : ux_FP RX3 28 7 5 := ⟨3, RX3, TX3, 6, tyX3, by decide, rfl, rfl, lwX3, by decide, rfl, (ux_m1 207 rfl rfl), tyX3_ok, nmX3, rfl, by decide +kernel, rfl⟩
theorem fg_X7_252 : ux_FG RX7 252 7 5 := ⟨3, RX3, TX3, 6, by decide, rfl, rfl, lwX3, by decide, rfl, (ux_m1 208 rfl rfl)⟩
theorem fp_X7_252 : ux_FP RX7 252 7 5 := ⟨3, RX3, TX3, 6, tyX3, by decide, rfl, rfl, lwX3, by decide, rfl, (ux_m1 208 rfl rfl), tyX3_ok, nmX3, rfl, by decide +kernel, rfl⟩
theorem fg_X7_10 : ux_FG RX7 10 0 0 := ⟨7, RX7, TX7, 7, by decide, rfl, rfl, lwX7, by decide, rfl, (ux_m1 223 rfl rfl)⟩
theorem fg_X7_19 : ux_FG RX7 19 0 1 := ⟨7, RX7, TX7, 7, by decide, rfl, rfl, lwX7, by decide, rfl, (ux_m1 224 rfl rfl)⟩
theorem fg_X7_26 : ux_FG RX7 26 0 2 := ⟨7, RX7, TX7, 7, by decide, rfl, rfl, lwX7, by decide, rfl, (ux_m1 225 rfl rfl)⟩
theorem fg_X7_33 : ux_FG RX7 33 0 3 := ⟨7, RX7, TX7, 7, by decide, rfl, rfl, lwX7, by decide, rfl, (ux_m1 226 rfl rfl)⟩
theorem fg_X7_40 : ux_FG RX7 40 0 4 := ⟨7, RX7, TX7, 7, by decide, rfl, rfl, lwX7, by decide, rfl, (ux_m1 227 rfl rfl)⟩
theorem fg_X7_47 : ux_FG RX7 47 0 5 := ⟨7, RX7, TX7, 7, by decide, rfl, rfl, lwX7, by decide, rfl, (ux_m1 228 rfl rfl)⟩
theorem fg_X7_54 : ux_FG RX7 54 0 6 := ⟨7, RX7, TX7, 7, by decide, rfl, rfl, lwX7, by decide, rfl, (ux_m1 229 rfl rfl)⟩
theorem fg_X8_112 : ux_FG RX8 112 8 0 := ⟨8, RX8, TX8, 38, by decide, rfl, rfl, lwX8, by decide, rfl, (ux_m3 176 rfl rfl)⟩
theorem fp_X8_112 : ux_FP RX8 112 8 0 := ⟨8, RX8, TX8, 38, tyX8, by decide, rfl, rfl, lwX8, by decide, rfl, (ux_m3 176 rfl rfl), tyX8_ok, nmX8, rfl, by decide +kernel, rfl⟩
theorem fg_X8_7 : ux_FG RX8 7 8 1 := ⟨8, RX8, TX8, 38, by decide, rfl, rfl, lwX8, by decide, rfl, (ux_m3 177 rfl rfl)⟩
theorem fg_X8_13 : ux_FG RX8 13 8 2 := ⟨8, RX8, TX8, 38, by decide, rfl, rfl, lwX8, by decide, rfl, (ux_m3 178 rfl rfl)⟩
theorem fg_X8_16 : ux_FG RX8 16 8 3 := ⟨8, RX8, TX8, 38, by decide, rfl, rfl, lwX8, by decide, rfl, (ux_m3 179 rfl rfl)⟩
theorem fg_X8_19 : ux_FG RX8 19 8 4 := ⟨8, RX8, TX8, 38, by decide, rfl, rfl, lwX8, by decide, rfl, (ux_m3 180 rfl rfl)⟩
theorem fg_X8_22 : ux_FG RX8 22 8 5 := ⟨8, RX8, TX8, 38, by decide, rfl, rfl, lwX8, by decide, rfl, (ux_m3 181 rfl rfl)⟩
theorem fg_X8_25 : ux_FG RX8 25 8 6 := ⟨8, RX8, TX8, 38, by decide, rfl, rfl, lwX8, by decide, rfl, (ux_m3 182 rfl rfl)⟩
theorem fp_X8_25 : ux_FP RX8 25 8 6 := ⟨8, RX8, TX8, 38, tyX8, by decide, rfl, rfl, lwX8, by decide, rfl, (ux_m3 182 rfl rfl), tyX8_ok, nmX8, rfl, by decide +kernel, rfl⟩
theorem fg_X8_29 : ux_FG RX8 29 8 7 := ⟨8, RX8, TX8, 38, by decide, rfl, rfl, lwX8, by decide, rfl, (ux_m3 183 rfl rfl)⟩
theorem fp_X8_29 : ux_FP RX8 29 8 7 := ⟨8, RX8, TX8, 38, tyX8, by decide, rfl, rfl, lwX8, by decide, rfl, (ux_m3 183 rfl rfl), tyX8_ok, nmX8, rfl, by decide +kernel, rfl⟩
theorem fg_X8_32 : ux_FG RX8 32 8 8 := ⟨8, RX8, TX8, 38, by decide, rfl, rfl, lwX8, by decide, rfl, (ux_m3 184 rfl rfl)⟩
theorem fg_X8_35 : ux_FG RX8 35 8 9 := ⟨8, RX8, TX8, 38, by decide, rfl, rfl, lwX8, by decide, rfl, (ux_m3 185 rfl rfl)⟩
theorem fp_X8_35 : ux_FP RX8 35 8 9 := ⟨8, RX8, TX8, 38, tyX8, by decide, rfl, rfl, lwX8, by decide, rfl, (ux_m3 185 rfl rfl), tyX8_ok, nmX8, rfl, by decide +kernel, rfl⟩
theorem fg_X8_149 : ux_FG RX8 149 8 10 := ⟨8, RX8, TX8, 38, by decide, rfl, rfl, lwX8, by decide, rfl, (ux_m3 186 rfl rfl)⟩
theorem fp_X8_149 : ux_FP RX8 149 8 10 := ⟨8, RX8, TX8, 38, tyX8, by decide, rfl, rfl, lwX8, by decide, rfl, (ux_m3 186 rfl rfl), tyX8_ok, nmX8, rfl, by decide +kernel, rfl⟩
theorem fg_X8_38 : ux_FG RX8 38 8 11 := ⟨8, RX8, TX8, 38, by decide, rfl, rfl, lwX8, by decide, rfl, (ux_m3 187 rfl rfl)⟩
theorem fg_X8_41 : ux_FG RX8 41 8 12 := ⟨8, RX8, TX8, 38, by decide, rfl, rfl, lwX8, by decide, rfl, (ux_m3 188 rfl rfl)⟩
theorem fg_X8_44 : ux_FG RX8 44 8 13 := ⟨8, RX8, TX8, 38, by decide, rfl, rfl, lwX8, by decide, rfl, (ux_m3 189 rfl rfl)⟩
theorem fg_X8_47 : ux_FG RX8 47 8 14 := ⟨8, RX8, TX8, 38, by decide, rfl, rfl, lwX8, by decide, rfl, (ux_m3 190 rfl rfl)⟩
theorem fg_X8_50 : ux_FG RX8 50 8 15 := ⟨8, RX8, TX8, 38, by decide, rfl, rfl, lwX8, by decide, rfl, (ux_m3 191 rfl rfl)⟩
theorem fg_X8_53 : ux_FG RX8 53 8 16 := ⟨8, RX8, TX8, 38, by decide, rfl, rfl, lwX8, by decide, rfl, (ux_m3 192 rfl rfl)⟩
theorem fg_X8_57 : ux_FG RX8 57 8 17 := ⟨8, RX8, TX8, 38, by decide, rfl, rfl, lwX8, by decide, rfl, (ux_m3 193 rfl rfl)⟩
theorem fg_X8_60 : ux_FG RX8 60 8 18 := ⟨8, RX8, TX8, 38, by decide, rfl, rfl, lwX8, by decide, rfl, (ux_m3 194 rfl rfl)⟩
theorem fg_X8_152 : ux_FG RX8 152 8 19 := ⟨8, RX8, TX8, 38, by decide, rfl, rfl, lwX8, by decide, rfl, (ux_m3 195 rfl rfl)⟩
theorem fp_X8_152 : ux_FP RX8 152 8 19 := ⟨8, RX8, TX8, 38, tyX8, by decide, rfl, rfl, lwX8, by decide, rfl, (ux_m3 195 rfl rfl), tyX8_ok, nmX8, rfl, by decide +kernel, rfl⟩
theorem fg_X8_155 : ux_FG RX8 155 8 20 := ⟨8, RX8, TX8, 38, by decide, rfl, rfl, lwX8, by decide, rfl, (ux_m3 196 rfl rfl)⟩
theorem fp_X8_155 : ux_FP RX8 155 8 20 := ⟨8, RX8, TX8, 38, tyX8, by decide, rfl, rfl, lwX8, by decide, rfl, (ux_m3 196 rfl rfl), tyX8_ok, nmX8, rfl, by decide +kernel, rfl⟩
theorem fg_X8_63 : ux_FG RX8 63 8 21 := ⟨8, RX8, TX8, 38, by decide, rfl, rfl, lwX8, by decide, rfl, (ux_m3 197 rfl rfl)⟩
theorem fg_X8_164 : ux_FG RX8 164 8 22 := ⟨8, RX8, TX8, 38, by decide, rfl, rfl, lwX8, by decide, rfl, (ux_m3 198 rfl rfl)⟩
theorem fp_X8_164 : ux_FP RX8 164 8 22 := ⟨8, RX8, TX8, 38, tyX8, by decide, rfl, rfl, lwX8, by decide, rfl, (ux_m3 198 rfl rfl), tyX8_ok, nmX8, rfl, by decide +kernel, rfl⟩
theorem fg_X8_66 : ux_FG RX8 66 8 23 := ⟨8, RX8, TX8, 38, by decide, rfl, rfl, lwX8, by decide, rfl, (ux_m3 199 rfl rfl)⟩
theorem fg_X8_69 : ux_FG RX8 69 8 24 := ⟨8, RX8, TX8, 38, by decide, rfl, rfl, lwX8, by decide, rfl, (ux_m3 200 rfl rfl)⟩
theorem fg_X8_72 : ux_FG RX8 72 8 25 := ⟨8, RX8, TX8, 38, by decide, rfl, rfl, lwX8, by decide, rfl, (ux_m3 201 rfl rfl)⟩
theorem fg_X8_76 : ux_FG RX8 76 8 26 := ⟨8, RX8, TX8, 38, by decide, rfl, rfl, lwX8, by decide, rfl, (ux_m3 202 rfl rfl)⟩
theorem fg_X8_79 : ux_FG RX8 79 8 27 := ⟨8, RX8, TX8, 38, by decide, rfl, rfl, lwX8, by decide, rfl, (ux_m3 203 rfl rfl)⟩
theorem fp_X8_79 : ux_FP RX8 79 8 27 := ⟨8, RX8, TX8, 38, tyX8, by decide, rfl, rfl, lwX8, by decide, rfl, (ux_m3 203 rfl rfl), tyX8_ok, nmX8, rfl, by decide +kernel, rfl⟩
theorem fg_X8_194 : ux_FG RX8 194 8 28 := ⟨8, RX8, TX8, 38, by decide, rfl, rfl, lwX8, by decide, rfl, (ux_m3 204 rfl rfl)⟩
theorem fp_X8_194 : ux_FP RX8 194 8 28 := ⟨8, RX8, TX8, 38, tyX8, by decide, rfl, rfl, lwX8, by decide, rfl, (ux_m3 204 rfl rfl), tyX8_ok, nmX8, rfl, by decide +kernel, rfl⟩
theorem fg_X8_82 : ux_FG RX8 82 8 29 := ⟨8, RX8, TX8, 38, by decide, rfl, rfl, lwX8, by decide, rfl, (ux_m3 205 rfl rfl)⟩
theorem fg_X8_197 : ux_FG RX8 197 8 30 := ⟨8, RX8, TX8, 38, by decide, rfl, rfl, lwX8, by decide, rfl, (ux_m3 206 rfl rfl)⟩
theorem fp_X8_197 : ux_FP RX8 197 8 30 := ⟨8, RX8, TX8, 38, tyX8, by decide, rfl, rfl, lwX8, by decide, rfl, (ux_m3 206 rfl rfl), tyX8_ok, nmX8, rfl, by decide +kernel, rfl⟩
theorem fg_X8_200 : ux_FG RX8 200 8 31 := ⟨8, RX8, TX8, 38, by decide, rfl, rfl, lwX8, by decide, rfl, (ux_m3 207 rfl rfl)⟩
theorem fp_X8_200 : ux_FP RX8 200 8 31 := ⟨8, RX8, TX8, 38, tyX8, by decide, rfl, rfl, lwX8, by decide, rfl, (ux_m3 207 rfl rfl), tyX8_ok, nmX8, rfl, by decide +kernel, rfl⟩
theorem fg_X8_85 : ux_FG RX8 85 8 32 := ⟨8, RX8, TX8, 38, by decide, rfl, rfl, lwX8, by decide, rfl, (ux_m3 208 rfl rfl)⟩
theorem fg_X8_88 : ux_FG RX8 88 8 33 := ⟨8, RX8, TX8, 38, by decide, rfl, rfl, lwX8, by decide, rfl, (ux_m3 209 rfl rfl)⟩
theorem fg_X8_91 : ux_FG RX8 91 8 34 := ⟨8, RX8, TX8, 38, by decide, rfl, rfl, lwX8, by decide, rfl, (ux_m3 210 rfl rfl)⟩
theorem fg_X8_94 : ux_FG RX8 94 8 35 := ⟨8, RX8, TX8, 38, by decide, rfl, rfl, lwX8, by decide, rfl, (ux_m3 211 rfl rfl)⟩
theorem fg_X8_97 : ux_FG RX8 97 8 36 := ⟨8, RX8, TX8, 38, by decide, rfl, rfl, lwX8, by decide, rfl, (ux_m3 212 rfl rfl)⟩
theorem fg_X8_210 : ux_FG RX8 210 8 37 := ⟨8, RX8, TX8, 38, by decide, rfl, rfl, lwX8, by decide, rfl, (ux_m3 213 rfl rfl)⟩
theorem fp_X8_210 : ux_FP RX8 210 8 37 := ⟨8, RX8, TX8, 38, tyX8, by decide, rfl, rfl, lwX8, by decide, rfl, (ux_m3 213 rfl rfl), tyX8_ok, nmX8, rfl, by decide +kernel, rfl⟩
theorem fd_yJ7_fill_53178 : ux_d yJ7_fill_53178 2 := ⟨by decide +kernel, by decide +kernel, by decide +kernel⟩
theorem fs_X5_19 : ux_FS RX5 19 yJ7_fill_53178 cJ7_fill_53178 4 none 2 := ⟨(ux_m1 75 rfl rfl), (ux_m1 76 rfl rfl), (ux_m1 4 rfl rfl), (ux_m1 77 rfl rfl), fd_yJ7_fill_53178, by decide⟩
theorem fs_X6_23 : ux_FS RX6 23 yJ7_fill_53178 cJ7_fill_53178 4 none 2 := ⟨(ux_m1 128 rfl rfl), (ux_m1 76 rfl rfl), (ux_m1 4 rfl rfl), (ux_m1 77 rfl rfl), fd_yJ7_fill_53178, by decide⟩
theorem fs_X1_33 : ux_FS RX1 33 yJ7_fill_53178 cJ7_fill_53178 4 none 2 := ⟨(ux_m1 150 rfl rfl), (ux_m1 76 rfl rfl), (ux_m1 4 rfl rfl), (ux_m1 77 rfl rfl), fd_yJ7_fill_53178, by decide⟩
theorem fd_yX7_rack : ux_d yX7_rack 4 := ⟨by decide +kernel, by decide +kernel, by decide +kernel⟩
theorem fv_L_13 : ux_FV RL 13 RX7 yX7_rack cX7_rack 6 (some .int) 4 := ⟨(ux_m2 5 rfl rfl), (ux_m2 6 rfl rfl), (ux_m2 7 rfl rfl), (ux_m1 1 rfl rfl), (ux_m2 8 rfl rfl), rfl, fd_yX7_rack, by decide⟩
theorem fd_yX7_within : ux_d yX7_within 3 := ⟨by decide +kernel, by decide +kernel, by decide +kernel⟩
theorem fs_X7_58 : ux_FS RX7 58 yX7_within cX7_within 3 (some .boolean) 3 := ⟨(ux_m2 9 rfl rfl), (ux_m2 10 rfl rfl), (ux_m1 1 rfl rfl), (ux_m2 11 rfl rfl), fd_yX7_within, by decide⟩
theorem fd_yX2_add : ux_d yX2_add 4 := ⟨by decide +kernel, by decide +kernel, by decide +kernel⟩
theorem fv_X7_63 : ux_FV RX7 63 RX2 yX2_add cX2_add 5 (some .int) 4 := ⟨(ux_m2 13 rfl rfl), (ux_m2 14 rfl rfl), (ux_m2 15 rfl rfl), (ux_m1 2 rfl rfl), (ux_m2 16 rfl rfl), rfl, fd_yX2_add, by decide⟩
theorem fd_yX7_load : ux_d yX7_load 2 := ⟨by decide +kernel, by decide +kernel, by decide +kernel⟩
theorem fv_L_18 : ux_FV RL 18 RX7 yX7_load cX7_load 4 (some .int) 2 := ⟨(ux_m2 17 rfl rfl), (ux_m2 18 rfl rfl), (ux_m2 19 rfl rfl), (ux_m1 1 rfl rfl), (ux_m2 20 rfl rfl), rfl, fd_yX7_load, by decide⟩
theorem fd_yX2_has : ux_d yX2_has 1 := ⟨by decide +kernel, by decide +kernel, by decide +kernel⟩
theorem fv_X7_67 : ux_FV RX7 67 RX2 yX2_has cX2_has 2 (some .boolean) 1 := ⟨(ux_m2 21 rfl rfl), (ux_m2 22 rfl rfl), (ux_m2 23 rfl rfl), (ux_m1 2 rfl rfl), (ux_m2 24 rfl rfl), rfl, fd_yX2_has, by decide⟩
theorem fd_yX7_share : ux_d yX7_share 3 := ⟨by decide +kernel, by decide +kernel, by decide +kernel⟩
theorem fv_L_23 : ux_FV RL 23 RX7 yX7_share cX7_share 5 (some .int) 3 := ⟨(ux_m2 25 rfl rfl), (ux_m2 26 rfl rfl), (ux_m2 27 rfl rfl), (ux_m1 1 rfl rfl), (ux_m2 28 rfl rfl), rfl, fd_yX7_share, by decide⟩
theorem fd_yX7_sheet : ux_d yX7_sheet 3 := ⟨by decide +kernel, by decide +kernel, by decide +kernel⟩
theorem fv_L_28 : ux_FV RL 28 RX7 yX7_sheet cX7_sheet 4 (some .int) 3 := ⟨(ux_m2 29 rfl rfl), (ux_m2 30 rfl rfl), (ux_m2 31 rfl rfl), (ux_m1 1 rfl rfl), (ux_m2 32 rfl rfl), rfl, fd_yX7_sheet, by decide⟩
theorem fd_yX6_has : ux_d yX6_has 1 := ⟨by decide +kernel, by decide +kernel, by decide +kernel⟩
theorem fv_X7_79 : ux_FV RX7 79 RX6 yX6_has cX6_has 2 (some .boolean) 1 := ⟨(ux_m2 33 rfl rfl), (ux_m2 34 rfl rfl), (ux_m2 35 rfl rfl), (ux_m1 6 rfl rfl), (ux_m2 36 rfl rfl), rfl, fd_yX6_has, by decide⟩
theorem fd_yX7_isLane : ux_d yX7_isLane 1 := ⟨by decide +kernel, by decide +kernel, by decide +kernel⟩
theorem fs_X7_80 : ux_FS RX7 80 yX7_isLane cX7_isLane 1 (some .boolean) 1 := ⟨(ux_m2 37 rfl rfl), (ux_m2 38 rfl rfl), (ux_m1 1 rfl rfl), (ux_m2 39 rfl rfl), fd_yX7_isLane, by decide⟩
theorem fd_yX6_renew : ux_d yX6_renew 3 := ⟨by decide +kernel, by decide +kernel, by decide +kernel⟩
theorem fv_X7_83 : ux_FV RX7 83 RX6 yX6_renew cX6_renew 4 none 3 := ⟨(ux_m2 40 rfl rfl), (ux_m2 41 rfl rfl), (ux_m2 42 rfl rfl), (ux_m1 6 rfl rfl), (ux_m2 43 rfl rfl), rfl, fd_yX6_renew, by decide⟩
theorem fd_yJ7_fill_d0a16 : ux_d yJ7_fill_d0a16 2 := ⟨by decide +kernel, by decide +kernel, by decide +kernel⟩
theorem fs_X6_29 : ux_FS RX6 29 yJ7_fill_d0a16 cJ7_fill_d0a16 5 none 2 := ⟨(ux_m2 44 rfl rfl), (ux_m2 45 rfl rfl), (ux_m1 4 rfl rfl), (ux_m2 46 rfl rfl), fd_yJ7_fill_d0a16, by decide⟩
theorem fd_yX7_lay : ux_d yX7_lay 3 := ⟨by decide +kernel, by decide +kernel, by decide +kernel⟩
theorem fv_L_34 : ux_FV RL 34 RX7 yX7_lay cX7_lay 5 (some .int) 3 := ⟨(ux_m2 47 rfl rfl), (ux_m2 48 rfl rfl), (ux_m2 49 rfl rfl), (ux_m1 1 rfl rfl), (ux_m2 50 rfl rfl), rfl, fd_yX7_lay, by decide⟩
theorem fd_yX6_isNothing : ux_d yX6_isNothing 1 := ⟨by decide +kernel, by decide +kernel, by decide +kernel⟩
theorem fv_X7_87 : ux_FV RX7 87 RX6 yX6_isNothing cX6_isNothing 2 (some .boolean) 1 := ⟨(ux_m2 51 rfl rfl), (ux_m2 52 rfl rfl), (ux_m2 53 rfl rfl), (ux_m1 6 rfl rfl), (ux_m2 54 rfl rfl), rfl, fd_yX6_isNothing, by decide⟩
theorem fd_yX6_hasCell : ux_d yX6_hasCell 2 := ⟨by decide +kernel, by decide +kernel, by decide +kernel⟩
theorem fv_X7_90 : ux_FV RX7 90 RX6 yX6_hasCell cX6_hasCell 3 (some .boolean) 2 := ⟨(ux_m2 55 rfl rfl), (ux_m2 56 rfl rfl), (ux_m2 57 rfl rfl), (ux_m1 6 rfl rfl), (ux_m2 58 rfl rfl), rfl, fd_yX6_hasCell, by decide⟩
theorem fd_yX7_lowestBits : ux_d yX7_lowestBits 2 := ⟨by decide +kernel, by decide +kernel, by decide +kernel⟩
theorem fs_X7_101 : ux_FS RX7 101 yX7_lowestBits cX7_lowestBits 3 (some .long) 2 := ⟨(ux_m2 59 rfl rfl), (ux_m2 60 rfl rfl), (ux_m1 1 rfl rfl), (ux_m2 61 rfl rfl), fd_yX7_lowestBits, by decide⟩
theorem fd_yX7_draw : ux_d yX7_draw 3 := ⟨by decide +kernel, by decide +kernel, by decide +kernel⟩
theorem fv_L_39 : ux_FV RL 39 RX7 yX7_draw cX7_draw 5 (some .int) 3 := ⟨(ux_m2 62 rfl rfl), (ux_m2 63 rfl rfl), (ux_m2 64 rfl rfl), (ux_m1 1 rfl rfl), (ux_m2 65 rfl rfl), rfl, fd_yX7_draw, by decide⟩
theorem fd_yX6_refusal : ux_d yX6_refusal 3 := ⟨by decide +kernel, by decide +kernel, by decide +kernel⟩
theorem fv_X7_109 : ux_FV RX7 109 RX6 yX6_refusal cX6_refusal 7 (some .int) 3 := ⟨(ux_m2 66 rfl rfl), (ux_m2 67 rfl rfl), (ux_m2 68 rfl rfl), (ux_m1 6 rfl rfl), (ux_m2 69 rfl rfl), rfl, fd_yX6_refusal, by decide⟩
theorem fv_X6_32 : ux_FV RX6 32 RX6 yX6_hasCell cX6_hasCell 3 (some .boolean) 2 := ⟨(ux_m2 70 rfl rfl), (ux_m2 56 rfl rfl), (ux_m2 57 rfl rfl), (ux_m1 6 rfl rfl), (ux_m2 58 rfl rfl), rfl, fd_yX6_hasCell, by decide⟩
theorem fd_yX2_takeShares : ux_d yX2_takeShares 2 := ⟨by decide +kernel, by decide +kernel, by decide +kernel⟩
theorem fv_X7_113 : ux_FV RX7 113 RX2 yX2_takeShares cX2_takeShares 5 none 2 := ⟨(ux_m2 72 rfl rfl), (ux_m2 73 rfl rfl), (ux_m2 74 rfl rfl), (ux_m1 2 rfl rfl), (ux_m2 75 rfl rfl), rfl, fd_yX2_takeShares, by decide⟩
theorem fd_yX7_set : ux_d yX7_set 2 := ⟨by decide +kernel, by decide +kernel, by decide +kernel⟩
theorem fv_L_43 : ux_FV RL 43 RX7 yX7_set cX7_set 3 (some .int) 2 := ⟨(ux_m2 76 rfl rfl), (ux_m2 77 rfl rfl), (ux_m2 78 rfl rfl), (ux_m1 1 rfl rfl), (ux_m2 79 rfl rfl), rfl, fd_yX7_set, by decide⟩
theorem fd_yX7_isAir : ux_d yX7_isAir 1 := ⟨by decide +kernel, by decide +kernel, by decide +kernel⟩
theorem fs_X7_117 : ux_FS RX7 117 yX7_isAir cX7_isAir 1 (some .boolean) 1 := ⟨(ux_m2 80 rfl rfl), (ux_m2 81 rfl rfl), (ux_m1 1 rfl rfl), (ux_m2 82 rfl rfl), fd_yX7_isAir, by decide⟩
theorem fd_yX7_isFan : ux_d yX7_isFan 1 := ⟨by decide +kernel, by decide +kernel, by decide +kernel⟩
theorem fs_X7_120 : ux_FS RX7 120 yX7_isFan cX7_isFan 1 (some .boolean) 1 := ⟨(ux_m2 83 rfl rfl), (ux_m2 84 rfl rfl), (ux_m1 1 rfl rfl), (ux_m2 85 rfl rfl), fd_yX7_isFan, by decide⟩
theorem fd_yX7_price : ux_d yX7_price 2 := ⟨by decide +kernel, by decide +kernel, by decide +kernel⟩
theorem fv_L_47 : ux_FV RL 47 RX7 yX7_price cX7_price 3 (some .int) 2 := ⟨(ux_m2 86 rfl rfl), (ux_m2 87 rfl rfl), (ux_m2 88 rfl rfl), (ux_m1 1 rfl rfl), (ux_m2 89 rfl rfl), rfl, fd_yX7_price, by decide⟩
theorem fd_yX5_changeWeight : ux_d yX5_changeWeight 1 := ⟨by decide +kernel, by decide +kernel, by decide +kernel⟩
theorem fv_X7_129 : ux_FV RX7 129 RX5 yX5_changeWeight cX5_changeWeight 3 (some .int) 1 := ⟨(ux_m2 90 rfl rfl), (ux_m2 91 rfl rfl), (ux_m2 92 rfl rfl), (ux_m1 3 rfl rfl), (ux_m2 93 rfl rfl), rfl, fd_yX5_changeWeight, by decide⟩
theorem fd_yX5_changeAir : ux_d yX5_changeAir 2 := ⟨by decide +kernel, by decide +kernel, by decide +kernel⟩
theorem fv_X7_133 : ux_FV RX7 133 RX5 yX5_changeAir cX5_changeAir 4 (some .int) 2 := ⟨(ux_m2 94 rfl rfl), (ux_m2 95 rfl rfl), (ux_m2 96 rfl rfl), (ux_m1 3 rfl rfl), (ux_m2 97 rfl rfl), rfl, fd_yX5_changeAir, by decide⟩
theorem fd_yX7_into : ux_d yX7_into 1 := ⟨by decide +kernel, by decide +kernel, by decide +kernel⟩
theorem fv_L_51 : ux_FV RL 51 RX7 yX7_into cX7_into 2 (some .int) 1 := ⟨(ux_m2 98 rfl rfl), (ux_m2 99 rfl rfl), (ux_m2 100 rfl rfl), (ux_m1 1 rfl rfl), (ux_m2 101 rfl rfl), rfl, fd_yX7_into, by decide⟩
theorem fd_yX2_warmth : ux_d yX2_warmth 3 := ⟨by decide +kernel, by decide +kernel, by decide +kernel⟩
theorem fv_X7_137 : ux_FV RX7 137 RX2 yX2_warmth cX2_warmth 4 (some .int) 3 := ⟨(ux_m2 102 rfl rfl), (ux_m2 103 rfl rfl), (ux_m2 104 rfl rfl), (ux_m1 2 rfl rfl), (ux_m2 105 rfl rfl), rfl, fd_yX2_warmth, by decide⟩
theorem fd_yX2_givenAt : ux_d yX2_givenAt 1 := ⟨by decide +kernel, by decide +kernel, by decide +kernel⟩
theorem fv_X2_39 : ux_FV RX2 39 RX2 yX2_givenAt cX2_givenAt 4 (some .int) 1 := ⟨(ux_m2 106 rfl rfl), (ux_m2 107 rfl rfl), (ux_m2 108 rfl rfl), (ux_m1 2 rfl rfl), (ux_m2 109 rfl rfl), rfl, fd_yX2_givenAt, by decide⟩
theorem fd_yX7_divideDown : ux_d yX7_divideDown 2 := ⟨by decide +kernel, by decide +kernel, by decide +kernel⟩
theorem fs_X7_163 : ux_FS RX7 163 yX7_divideDown cX7_divideDown 2 (some .int) 2 := ⟨(ux_m2 113 rfl rfl), (ux_m2 114 rfl rfl), (ux_m1 1 rfl rfl), (ux_m2 115 rfl rfl), fd_yX7_divideDown, by decide⟩
theorem fd_yX7_hot : ux_d yX7_hot 1 := ⟨by decide +kernel, by decide +kernel, by decide +kernel⟩
theorem fv_L_56 : ux_FV RL 56 RX7 yX7_hot cX7_hot 2 (some .int) 1 := ⟨(ux_m2 116 rfl rfl), (ux_m2 117 rfl rfl), (ux_m2 118 rfl rfl), (ux_m1 1 rfl rfl), (ux_m2 119 rfl rfl), rfl, fd_yX7_hot, by decide⟩
theorem fd_yX2_countHot : ux_d yX2_countHot 0 := ⟨by decide +kernel, by decide +kernel, by decide +kernel⟩
theorem fv_X7_140 : ux_FV RX7 140 RX2 yX2_countHot cX2_countHot 3 (some .int) 0 := ⟨(ux_m2 120 rfl rfl), (ux_m2 121 rfl rfl), (ux_m2 122 rfl rfl), (ux_m1 2 rfl rfl), (ux_m2 123 rfl rfl), rfl, fd_yX2_countHot, by decide⟩
theorem fd_yX2_margin : ux_d yX2_margin 1 := ⟨by decide +kernel, by decide +kernel, by decide +kernel⟩
theorem fv_X2_51 : ux_FV RX2 51 RX2 yX2_margin cX2_margin 2 (some .int) 1 := ⟨(ux_m2 124 rfl rfl), (ux_m2 125 rfl rfl), (ux_m2 126 rfl rfl), (ux_m1 2 rfl rfl), (ux_m2 127 rfl rfl), rfl, fd_yX2_margin, by decide⟩
theorem fv_X2_47 : ux_FV RX2 47 RX2 yX2_warmth cX2_warmth 4 (some .int) 3 := ⟨(ux_m2 128 rfl rfl), (ux_m2 103 rfl rfl), (ux_m2 104 rfl rfl), (ux_m1 2 rfl rfl), (ux_m2 105 rfl rfl), rfl, fd_yX2_warmth, by decide⟩
theorem fd_yX2_firstHot : ux_d yX2_firstHot 2 := ⟨by decide +kernel, by decide +kernel, by decide +kernel⟩
theorem fv_X7_144 : ux_FV RX7 144 RX2 yX2_firstHot cX2_firstHot 4 (some .int) 2 := ⟨(ux_m2 129 rfl rfl), (ux_m2 130 rfl rfl), (ux_m2 131 rfl rfl), (ux_m1 2 rfl rfl), (ux_m2 132 rfl rfl), rfl, fd_yX2_firstHot, by decide⟩
theorem fd_yX2_nearestToLimit : ux_d yX2_nearestToLimit 0 := ⟨by decide +kernel, by decide +kernel, by decide +kernel⟩
theorem fv_X7_147 : ux_FV RX7 147 RX2 yX2_nearestToLimit cX2_nearestToLimit 5 (some .int) 0 := ⟨(ux_m2 133 rfl rfl), (ux_m2 134 rfl rfl), (ux_m2 135 rfl rfl), (ux_m1 2 rfl rfl), (ux_m2 136 rfl rfl), rfl, fd_yX2_nearestToLimit, by decide⟩
theorem fd_yX7_power : ux_d yX7_power 2 := ⟨by decide +kernel, by decide +kernel, by decide +kernel⟩
theorem fv_L_60 : ux_FV RL 60 RX7 yX7_power cX7_power 3 (some .int) 2 := ⟨(ux_m2 138 rfl rfl), (ux_m2 139 rfl rfl), (ux_m2 140 rfl rfl), (ux_m1 1 rfl rfl), (ux_m2 141 rfl rfl), rfl, fd_yX7_power, by decide⟩
theorem fd_yX2_allLoads : ux_d yX2_allLoads 0 := ⟨by decide +kernel, by decide +kernel, by decide +kernel⟩
theorem fv_X7_150 : ux_FV RX7 150 RX2 yX2_allLoads cX2_allLoads 3 (some .int) 0 := ⟨(ux_m2 142 rfl rfl), (ux_m2 143 rfl rfl), (ux_m2 144 rfl rfl), (ux_m1 2 rfl rfl), (ux_m2 145 rfl rfl), rfl, fd_yX2_allLoads, by decide⟩
theorem fd_yX5_powerOf : ux_d yX5_powerOf 3 := ⟨by decide +kernel, by decide +kernel, by decide +kernel⟩
theorem fv_X7_153 : ux_FV RX7 153 RX5 yX5_powerOf cX5_powerOf 5 (some .int) 3 := ⟨(ux_m2 146 rfl rfl), (ux_m2 147 rfl rfl), (ux_m2 148 rfl rfl), (ux_m1 3 rfl rfl), (ux_m2 149 rfl rfl), rfl, fd_yX5_powerOf, by decide⟩
theorem fd_yX7_best : ux_d yX7_best 0 := ⟨by decide +kernel, by decide +kernel, by decide +kernel⟩
theorem fv_L_64 : ux_FV RL 64 RX7 yX7_best cX7_best 7 (some .int) 0 := ⟨(ux_m2 151 rfl rfl), (ux_m2 152 rfl rfl), (ux_m2 153 rfl rfl), (ux_m1 1 rfl rfl), (ux_m2 154 rfl rfl), rfl, fd_yX7_best, by decide⟩
theorem fd_yX7_minutes : ux_d yX7_minutes 1 := ⟨by decide +kernel, by decide +kernel, by decide +kernel⟩
theorem fv_L_69 : ux_FV RL 69 RX7 yX7_minutes cX7_minutes 4 (some .int) 1 := ⟨(ux_m2 156 rfl rfl), (ux_m2 157 rfl rfl), (ux_m2 158 rfl rfl), (ux_m1 1 rfl rfl), (ux_m2 159 rfl rfl), rfl, fd_yX7_minutes, by decide⟩
theorem fv_X7_157 : ux_FV RX7 157 RX2 yX2_margin cX2_margin 2 (some .int) 1 := ⟨(ux_m2 160 rfl rfl), (ux_m2 125 rfl rfl), (ux_m2 126 rfl rfl), (ux_m1 2 rfl rfl), (ux_m2 127 rfl rfl), rfl, fd_yX2_margin, by decide⟩
theorem fd_yX7_machine : ux_d yX7_machine 2 := ⟨by decide +kernel, by decide +kernel, by decide +kernel⟩
theorem fv_L_73 : ux_FV RL 73 RX7 yX7_machine cX7_machine 3 (some .int) 2 := ⟨(ux_m2 161 rfl rfl), (ux_m2 162 rfl rfl), (ux_m2 163 rfl rfl), (ux_m1 1 rfl rfl), (ux_m2 164 rfl rfl), rfl, fd_yX7_machine, by decide⟩
theorem fd_yX4_add : ux_d yX4_add 2 := ⟨by decide +kernel, by decide +kernel, by decide +kernel⟩
theorem fv_X7_166 : ux_FV RX7 166 RX4 yX4_add cX4_add 3 (some .int) 2 := ⟨(ux_m2 165 rfl rfl), (ux_m2 166 rfl rfl), (ux_m2 167 rfl rfl), (ux_m1 5 rfl rfl), (ux_m2 168 rfl rfl), rfl, fd_yX4_add, by decide⟩
theorem fd_yX7_leave : ux_d yX7_leave 0 := ⟨by decide +kernel, by decide +kernel, by decide +kernel⟩
theorem fv_L_77 : ux_FV RL 77 RX7 yX7_leave cX7_leave 1 (some .int) 0 := ⟨(ux_m2 169 rfl rfl), (ux_m2 170 rfl rfl), (ux_m2 171 rfl rfl), (ux_m1 1 rfl rfl), (ux_m2 172 rfl rfl), rfl, fd_yX7_leave, by decide⟩
theorem fd_yX7_placed : ux_d yX7_placed 1 := ⟨by decide +kernel, by decide +kernel, by decide +kernel⟩
theorem fv_L_81 : ux_FV RL 81 RX7 yX7_placed cX7_placed 2 (some .int) 1 := ⟨(ux_m2 173 rfl rfl), (ux_m2 174 rfl rfl), (ux_m2 175 rfl rfl), (ux_m1 1 rfl rfl), (ux_m2 176 rfl rfl), rfl, fd_yX7_placed, by decide⟩
theorem fd_yX4_leastWarmth : ux_d yX4_leastWarmth 1 := ⟨by decide +kernel, by decide +kernel, by decide +kernel⟩
theorem fv_X7_171 : ux_FV RX7 171 RX4 yX4_leastWarmth cX4_leastWarmth 3 (some .int) 1 := ⟨(ux_m2 177 rfl rfl), (ux_m2 178 rfl rfl), (ux_m2 179 rfl rfl), (ux_m1 5 rfl rfl), (ux_m2 180 rfl rfl), rfl, fd_yX4_leastWarmth, by decide⟩
theorem fd_yX4_freeAll : ux_d yX4_freeAll 1 := ⟨by decide +kernel, by decide +kernel, by decide +kernel⟩
theorem fv_X4_40 : ux_FV RX4 40 RX4 yX4_freeAll cX4_freeAll 3 none 1 := ⟨(ux_m2 181 rfl rfl), (ux_m2 183 rfl rfl), (ux_ms 0 rfl rfl), (ux_m1 5 rfl rfl), (ux_m2 184 rfl rfl), rfl, fd_yX4_freeAll, by decide⟩
theorem fv_X4_53 : ux_FV RX4 53 RX2 yX2_givenAt cX2_givenAt 4 (some .int) 1 := ⟨(ux_m2 185 rfl rfl), (ux_m2 107 rfl rfl), (ux_m2 108 rfl rfl), (ux_m1 2 rfl rfl), (ux_m2 109 rfl rfl), rfl, fd_yX2_givenAt, by decide⟩
theorem fd_yX4_searchFrom : ux_d yX4_searchFrom 2 := ⟨by decide +kernel, by decide +kernel, by decide +kernel⟩
theorem fv_X4_57 : ux_FV RX4 57 RX4 yX4_searchFrom cX4_searchFrom 5 none 2 := ⟨(ux_m2 186 rfl rfl), (ux_m2 188 rfl rfl), (ux_ms 1 rfl rfl), (ux_m1 5 rfl rfl), (ux_m2 189 rfl rfl), rfl, fd_yX4_searchFrom, by decide⟩
theorem fd_yX4_greatest : ux_d yX4_greatest 2 := ⟨by decide +kernel, by decide +kernel, by decide +kernel⟩
theorem fv_X4_62 : ux_FV RX4 62 RX4 yX4_greatest cX4_greatest 5 (some .int) 2 := ⟨(ux_m2 190 rfl rfl), (ux_m2 192 rfl rfl), (ux_ms 2 rfl rfl), (ux_m1 5 rfl rfl), (ux_m2 193 rfl rfl), rfl, fd_yX4_greatest, by decide⟩
theorem fd_yJ9_max_7cf53 : ux_d yJ9_max_7cf53 2 := ⟨by decide +kernel, by decide +kernel, by decide +kernel⟩
theorem fs_X4_78 : ux_FS RX4 78 yJ9_max_7cf53 cJ9_max_7cf53 2 (some .int) 2 := ⟨(ux_m2 194 rfl rfl), (ux_m2 195 rfl rfl), (ux_m1 11 rfl rfl), (ux_m2 196 rfl rfl), fd_yJ9_max_7cf53, by decide⟩
theorem fd_yX4_giveOff : ux_d yX4_giveOff 3 := ⟨by decide +kernel, by decide +kernel, by decide +kernel⟩
theorem fv_X4_71 : ux_FV RX4 71 RX4 yX4_giveOff cX4_giveOff 5 none 3 := ⟨(ux_m2 201 rfl rfl), (ux_m2 203 rfl rfl), (ux_ms 3 rfl rfl), (ux_m1 5 rfl rfl), (ux_m2 204 rfl rfl), rfl, fd_yX4_giveOff, by decide⟩
theorem fd_yX7_warmest : ux_d yX7_warmest 0 := ⟨by decide +kernel, by decide +kernel, by decide +kernel⟩
theorem fv_L_85 : ux_FV RL 85 RX7 yX7_warmest cX7_warmest 1 (some .int) 0 := ⟨(ux_m2 205 rfl rfl), (ux_m2 206 rfl rfl), (ux_m2 207 rfl rfl), (ux_m1 1 rfl rfl), (ux_m2 208 rfl rfl), rfl, fd_yX7_warmest, by decide⟩
theorem fd_yX7_placings : ux_d yX7_placings 0 := ⟨by decide +kernel, by decide +kernel, by decide +kernel⟩
theorem fv_L_89 : ux_FV RL 89 RX7 yX7_placings cX7_placings 1 (some .int) 0 := ⟨(ux_m2 209 rfl rfl), (ux_m2 210 rfl rfl), (ux_m2 211 rfl rfl), (ux_m1 1 rfl rfl), (ux_m2 212 rfl rfl), rfl, fd_yX7_placings, by decide⟩
theorem fd_yX4_countAll : ux_d yX4_countAll 1 := ⟨by decide +kernel, by decide +kernel, by decide +kernel⟩
theorem fv_X7_178 : ux_FV RX7 178 RX4 yX4_countAll cX4_countAll 2 (some .int) 1 := ⟨(ux_m2 213 rfl rfl), (ux_m2 214 rfl rfl), (ux_m2 215 rfl rfl), (ux_m1 5 rfl rfl), (ux_m2 216 rfl rfl), rfl, fd_yX4_countAll, by decide⟩
theorem fd_yX4_countFrom : ux_d yX4_countFrom 2 := ⟨by decide +kernel, by decide +kernel, by decide +kernel⟩
theorem fv_X4_44 : ux_FV RX4 44 RX4 yX4_countFrom cX4_countFrom 5 (some .int) 2 := ⟨(ux_m2 217 rfl rfl), (ux_m2 219 rfl rfl), (ux_ms 4 rfl rfl), (ux_m1 5 rfl rfl), (ux_m2 220 rfl rfl), rfl, fd_yX4_countFrom, by decide⟩
theorem fd_yX7_feed : ux_d yX7_feed 2 := ⟨by decide +kernel, by decide +kernel, by decide +kernel⟩
theorem fv_L_93 : ux_FV RL 93 RX7 yX7_feed cX7_feed 4 (some .int) 2 := ⟨(ux_m2 221 rfl rfl), (ux_m2 222 rfl rfl), (ux_m2 223 rfl rfl), (ux_m1 1 rfl rfl), (ux_m2 224 rfl rfl), rfl, fd_yX7_feed, by decide⟩
theorem fd_yX1_has : ux_d yX1_has 1 := ⟨by decide +kernel, by decide +kernel, by decide +kernel⟩
theorem fv_X7_181 : ux_FV RX7 181 RX1 yX1_has cX1_has 2 (some .boolean) 1 := ⟨(ux_m2 225 rfl rfl), (ux_m2 226 rfl rfl), (ux_m2 227 rfl rfl), (ux_m1 7 rfl rfl), (ux_m2 228 rfl rfl), rfl, fd_yX1_has, by decide⟩
theorem fd_yX1_add : ux_d yX1_add 2 := ⟨by decide +kernel, by decide +kernel, by decide +kernel⟩
theorem fv_X7_182 : ux_FV RX7 182 RX1 yX1_add cX1_add 3 (some .int) 2 := ⟨(ux_m2 229 rfl rfl), (ux_m2 230 rfl rfl), (ux_m2 231 rfl rfl), (ux_m1 7 rfl rfl), (ux_m2 232 rfl rfl), rfl, fd_yX1_add, by decide⟩
theorem fd_yX7_plug : ux_d yX7_plug 3 := ⟨by decide +kernel, by decide +kernel, by decide +kernel⟩
theorem fv_L_97 : ux_FV RL 97 RX7 yX7_plug cX7_plug 5 (some .int) 3 := ⟨(ux_m2 233 rfl rfl), (ux_m2 234 rfl rfl), (ux_m2 235 rfl rfl), (ux_m1 1 rfl rfl), (ux_m2 236 rfl rfl), rfl, fd_yX7_plug, by decide⟩
theorem fd_yX7_fail : ux_d yX7_fail 2 := ⟨by decide +kernel, by decide +kernel, by decide +kernel⟩
theorem fv_L_101 : ux_FV RL 101 RX7 yX7_fail cX7_fail 4 (some .int) 2 := ⟨(ux_m2 237 rfl rfl), (ux_m2 238 rfl rfl), (ux_m2 239 rfl rfl), (ux_m1 1 rfl rfl), (ux_m3 0 rfl rfl), rfl, fd_yX7_fail, by decide⟩
theorem fd_yX7_through : ux_d yX7_through 1 := ⟨by decide +kernel, by decide +kernel, by decide +kernel⟩
theorem fv_L_106 : ux_FV RL 106 RX7 yX7_through cX7_through 2 (some .int) 1 := ⟨(ux_m3 1 rfl rfl), (ux_m3 2 rfl rfl), (ux_m3 3 rfl rfl), (ux_m1 1 rfl rfl), (ux_m3 4 rfl rfl), rfl, fd_yX7_through, by decide⟩
theorem fd_yX1_dead : ux_d yX1_dead 1 := ⟨by decide +kernel, by decide +kernel, by decide +kernel⟩
theorem fv_X7_189 : ux_FV RX7 189 RX1 yX1_dead cX1_dead 4 (some .int) 1 := ⟨(ux_m3 5 rfl rfl), (ux_m3 6 rfl rfl), (ux_m3 7 rfl rfl), (ux_m1 7 rfl rfl), (ux_m3 8 rfl rfl), rfl, fd_yX1_dead, by decide⟩
theorem fd_yX1_isIn : ux_d yX1_isIn 2 := ⟨by decide +kernel, by decide +kernel, by decide +kernel⟩
theorem fs_X1_39 : ux_FS RX1 39 yX1_isIn cX1_isIn 2 (some .boolean) 2 := ⟨(ux_m3 9 rfl rfl), (ux_m3 10 rfl rfl), (ux_m1 7 rfl rfl), (ux_m3 11 rfl rfl), fd_yX1_isIn, by decide⟩
theorem fd_yX1_flow : ux_d yX1_flow 2 := ⟨by decide +kernel, by decide +kernel, by decide +kernel⟩
theorem fv_X7_192 : ux_FV RX7 192 RX1 yX1_flow cX1_flow 4 none 2 := ⟨(ux_m3 12 rfl rfl), (ux_m3 13 rfl rfl), (ux_m3 14 rfl rfl), (ux_m1 7 rfl rfl), (ux_m3 15 rfl rfl), rfl, fd_yX1_flow, by decide⟩
theorem fd_yX1_drawFor : ux_d yX1_drawFor 3 := ⟨by decide +kernel, by decide +kernel, by decide +kernel⟩
theorem fv_X1_55 : ux_FV RX1 55 RX1 yX1_drawFor cX1_drawFor 9 none 3 := ⟨(ux_m3 16 rfl rfl), (ux_m3 18 rfl rfl), (ux_ms 5 rfl rfl), (ux_m1 7 rfl rfl), (ux_m3 19 rfl rfl), rfl, fd_yX1_drawFor, by decide⟩
theorem fd_yX1_gives : ux_d yX1_gives 2 := ⟨by decide +kernel, by decide +kernel, by decide +kernel⟩
theorem fv_X1_59 : ux_FV RX1 59 RX1 yX1_gives cX1_gives 3 (some .boolean) 2 := ⟨(ux_m3 20 rfl rfl), (ux_m3 22 rfl rfl), (ux_ms 6 rfl rfl), (ux_m1 7 rfl rfl), (ux_m3 23 rfl rfl), rfl, fd_yX1_gives, by decide⟩
theorem fv_X1_43 : ux_FV RX1 43 RX1 yX1_has cX1_has 2 (some .boolean) 1 := ⟨(ux_m3 24 rfl rfl), (ux_m2 226 rfl rfl), (ux_m2 227 rfl rfl), (ux_m1 7 rfl rfl), (ux_m2 228 rfl rfl), rfl, fd_yX1_has, by decide⟩
theorem fd_yX7_state : ux_d yX7_state 1 := ⟨by decide +kernel, by decide +kernel, by decide +kernel⟩
theorem fv_L_110 : ux_FV RL 110 RX7 yX7_state cX7_state 3 (some .int) 1 := ⟨(ux_m3 25 rfl rfl), (ux_m3 26 rfl rfl), (ux_m3 27 rfl rfl), (ux_m1 1 rfl rfl), (ux_m3 28 rfl rfl), rfl, fd_yX7_state, by decide⟩
theorem fd_yX1_over : ux_d yX1_over 2 := ⟨by decide +kernel, by decide +kernel, by decide +kernel⟩
theorem fv_X7_199 : ux_FV RX7 199 RX1 yX1_over cX1_over 5 (some .int) 2 := ⟨(ux_m3 29 rfl rfl), (ux_m3 30 rfl rfl), (ux_m3 31 rfl rfl), (ux_m1 7 rfl rfl), (ux_m3 32 rfl rfl), rfl, fd_yX1_over, by decide⟩
theorem fv_X1_62 : ux_FV RX1 62 RX1 yX1_flow cX1_flow 4 none 2 := ⟨(ux_m3 33 rfl rfl), (ux_m3 13 rfl rfl), (ux_m3 14 rfl rfl), (ux_m1 7 rfl rfl), (ux_m3 15 rfl rfl), rfl, fd_yX1_flow, by decide⟩
theorem fd_yJ6_bitCount_0f7a4 : ux_d yJ6_bitCount_0f7a4 1 := ⟨by decide +kernel, by decide +kernel, by decide +kernel⟩
theorem fs_X7_203 : ux_FS RX7 203 yJ6_bitCount_0f7a4 cJ6_bitCount_0f7a4 1 (some .int) 1 := ⟨(ux_m3 34 rfl rfl), (ux_m3 35 rfl rfl), (ux_m1 13 rfl rfl), (ux_m3 36 rfl rfl), fd_yJ6_bitCount_0f7a4, by decide⟩
theorem fd_yX7_firstBit : ux_d yX7_firstBit 1 := ⟨by decide +kernel, by decide +kernel, by decide +kernel⟩
theorem fs_X7_208 : ux_FS RX7 208 yX7_firstBit cX7_firstBit 1 (some .int) 1 := ⟨(ux_m3 40 rfl rfl), (ux_m3 41 rfl rfl), (ux_m1 1 rfl rfl), (ux_m3 42 rfl rfl), fd_yX7_firstBit, by decide⟩
theorem fd_yJ6_numberOfTrailingZeros_0f7a4 : ux_d yJ6_numberOfTrailingZeros_0f7a4 1 := ⟨by decide +kernel, by decide +kernel, by decide +kernel⟩
theorem fs_X7_268 : ux_FS RX7 268 yJ6_numberOfTrailingZeros_0f7a4 cJ6_numberOfTrailingZeros_0f7a4 2 (some .int) 1 := ⟨(ux_m3 43 rfl rfl), (ux_m3 44 rfl rfl), (ux_m1 13 rfl rfl), (ux_m3 45 rfl rfl), fd_yJ6_numberOfTrailingZeros_0f7a4, by decide⟩
theorem fd_yX1_dark : ux_d yX1_dark 2 := ⟨by decide +kernel, by decide +kernel, by decide +kernel⟩
theorem fv_X7_211 : ux_FV RX7 211 RX1 yX1_dark cX1_dark 5 (some .int) 2 := ⟨(ux_m3 47 rfl rfl), (ux_m3 48 rfl rfl), (ux_m3 49 rfl rfl), (ux_m1 7 rfl rfl), (ux_m3 50 rfl rfl), rfl, fd_yX1_dark, by decide⟩
theorem fd_yX7_weak : ux_d yX7_weak 0 := ⟨by decide +kernel, by decide +kernel, by decide +kernel⟩
theorem fv_L_114 : ux_FV RL 114 RX7 yX7_weak cX7_weak 1 (some .int) 0 := ⟨(ux_m3 51 rfl rfl), (ux_m3 52 rfl rfl), (ux_m3 53 rfl rfl), (ux_m1 1 rfl rfl), (ux_m3 54 rfl rfl), rfl, fd_yX7_weak, by decide⟩
theorem fd_yX1_firstWeak : ux_d yX1_firstWeak 1 := ⟨by decide +kernel, by decide +kernel, by decide +kernel⟩
theorem fv_X7_214 : ux_FV RX7 214 RX1 yX1_firstWeak cX1_firstWeak 9 (some .int) 1 := ⟨(ux_m3 55 rfl rfl), (ux_m3 56 rfl rfl), (ux_m3 57 rfl rfl), (ux_m1 7 rfl rfl), (ux_m3 58 rfl rfl), rfl, fd_yX1_firstWeak, by decide⟩
theorem fv_X1_66 : ux_FV RX1 66 RX1 yX1_dead cX1_dead 4 (some .int) 1 := ⟨(ux_m3 59 rfl rfl), (ux_m3 6 rfl rfl), (ux_m3 7 rfl rfl), (ux_m1 7 rfl rfl), (ux_m3 8 rfl rfl), rfl, fd_yX1_dead, by decide⟩
theorem fv_X1_70 : ux_FV RX1 70 RX1 yX1_over cX1_over 5 (some .int) 2 := ⟨(ux_m3 60 rfl rfl), (ux_m3 30 rfl rfl), (ux_m3 31 rfl rfl), (ux_m1 7 rfl rfl), (ux_m3 32 rfl rfl), rfl, fd_yX1_over, by decide⟩
theorem fv_X1_74 : ux_FV RX1 74 RX1 yX1_dark cX1_dark 5 (some .int) 2 := ⟨(ux_m3 61 rfl rfl), (ux_m3 48 rfl rfl), (ux_m3 49 rfl rfl), (ux_m1 7 rfl rfl), (ux_m3 50 rfl rfl), rfl, fd_yX1_dark, by decide⟩
theorem fd_yX7_cause : ux_d yX7_cause 1 := ⟨by decide +kernel, by decide +kernel, by decide +kernel⟩
theorem fv_L_118 : ux_FV RL 118 RX7 yX7_cause cX7_cause 2 (some .int) 1 := ⟨(ux_m3 62 rfl rfl), (ux_m3 63 rfl rfl), (ux_m3 64 rfl rfl), (ux_m1 1 rfl rfl), (ux_m3 65 rfl rfl), rfl, fd_yX7_cause, by decide⟩
theorem fd_yX0_add : ux_d yX0_add 1 := ⟨by decide +kernel, by decide +kernel, by decide +kernel⟩
theorem fv_X7_218 : ux_FV RX7 218 RX0 yX0_add cX0_add 2 (some .int) 1 := ⟨(ux_m3 67 rfl rfl), (ux_m3 68 rfl rfl), (ux_m3 69 rfl rfl), (ux_m1 8 rfl rfl), (ux_m3 70 rfl rfl), rfl, fd_yX0_add, by decide⟩
theorem fd_yX7_seen : ux_d yX7_seen 1 := ⟨by decide +kernel, by decide +kernel, by decide +kernel⟩
theorem fv_L_122 : ux_FV RL 122 RX7 yX7_seen cX7_seen 3 (some .int) 1 := ⟨(ux_m3 71 rfl rfl), (ux_m3 72 rfl rfl), (ux_m3 73 rfl rfl), (ux_m1 1 rfl rfl), (ux_m3 74 rfl rfl), rfl, fd_yX7_seen, by decide⟩
theorem fd_yX7_roots : ux_d yX7_roots 0 := ⟨by decide +kernel, by decide +kernel, by decide +kernel⟩
theorem fv_L_126 : ux_FV RL 126 RX7 yX7_roots cX7_roots 1 (some .int) 0 := ⟨(ux_m3 75 rfl rfl), (ux_m3 76 rfl rfl), (ux_m3 77 rfl rfl), (ux_m1 1 rfl rfl), (ux_m3 78 rfl rfl), rfl, fd_yX7_roots, by decide⟩
theorem fd_yX0_fewest : ux_d yX0_fewest 0 := ⟨by decide +kernel, by decide +kernel, by decide +kernel⟩
theorem fv_X7_223 : ux_FV RX7 223 RX0 yX0_fewest cX0_fewest 6 (some .int) 0 := ⟨(ux_m3 79 rfl rfl), (ux_m3 80 rfl rfl), (ux_m3 81 rfl rfl), (ux_m1 8 rfl rfl), (ux_m3 82 rfl rfl), rfl, fd_yX0_fewest, by decide⟩
theorem fd_yX0_likely : ux_d yX0_likely 0 := ⟨by decide +kernel, by decide +kernel, by decide +kernel⟩
theorem fv_X0_22 : ux_FV RX0 22 RX0 yX0_likely cX0_likely 3 (some .int) 0 := ⟨(ux_m3 83 rfl rfl), (ux_m3 84 rfl rfl), (ux_m3 85 rfl rfl), (ux_m1 8 rfl rfl), (ux_m3 86 rfl rfl), rfl, fd_yX0_likely, by decide⟩
theorem fs_X0_26 : ux_FS RX0 26 yJ6_bitCount_0f7a4 cJ6_bitCount_0f7a4 1 (some .int) 1 := ⟨(ux_m3 87 rfl rfl), (ux_m3 35 rfl rfl), (ux_m1 13 rfl rfl), (ux_m3 36 rfl rfl), fd_yJ6_bitCount_0f7a4, by decide⟩
theorem fd_yX0_madeBy : ux_d yX0_madeBy 1 := ⟨by decide +kernel, by decide +kernel, by decide +kernel⟩
theorem fv_X0_32 : ux_FV RX0 32 RX0 yX0_madeBy cX0_madeBy 4 (some .int) 1 := ⟨(ux_m3 88 rfl rfl), (ux_m3 89 rfl rfl), (ux_m3 90 rfl rfl), (ux_m1 8 rfl rfl), (ux_m3 91 rfl rfl), rfl, fd_yX0_madeBy, by decide⟩
theorem fd_yX7_strange : ux_d yX7_strange 0 := ⟨by decide +kernel, by decide +kernel, by decide +kernel⟩
theorem fv_L_130 : ux_FV RL 130 RX7 yX7_strange cX7_strange 1 (some .int) 0 := ⟨(ux_m3 92 rfl rfl), (ux_m3 93 rfl rfl), (ux_m3 94 rfl rfl), (ux_m1 1 rfl rfl), (ux_m3 95 rfl rfl), rfl, fd_yX7_strange, by decide⟩
theorem fv_X7_226 : ux_FV RX7 226 RX0 yX0_likely cX0_likely 3 (some .int) 0 := ⟨(ux_m3 96 rfl rfl), (ux_m3 84 rfl rfl), (ux_m3 85 rfl rfl), (ux_m1 8 rfl rfl), (ux_m3 86 rfl rfl), rfl, fd_yX0_likely, by decide⟩
theorem fv_X7_229 : ux_FV RX7 229 RX0 yX0_madeBy cX0_madeBy 4 (some .int) 1 := ⟨(ux_m3 97 rfl rfl), (ux_m3 89 rfl rfl), (ux_m3 90 rfl rfl), (ux_m1 8 rfl rfl), (ux_m3 91 rfl rfl), rfl, fd_yX0_madeBy, by decide⟩
theorem fd_yX7_meter : ux_d yX7_meter 1 := ⟨by decide +kernel, by decide +kernel, by decide +kernel⟩
theorem fv_L_134 : ux_FV RL 134 RX7 yX7_meter cX7_meter 2 (some .int) 1 := ⟨(ux_m3 98 rfl rfl), (ux_m3 99 rfl rfl), (ux_m3 100 rfl rfl), (ux_m1 1 rfl rfl), (ux_m3 101 rfl rfl), rfl, fd_yX7_meter, by decide⟩
theorem fd_yX3_has : ux_d yX3_has 1 := ⟨by decide +kernel, by decide +kernel, by decide +kernel⟩
theorem fv_X7_232 : ux_FV RX7 232 RX3 yX3_has cX3_has 2 (some .boolean) 1 := ⟨(ux_m3 102 rfl rfl), (ux_m3 103 rfl rfl), (ux_m3 104 rfl rfl), (ux_m1 9 rfl rfl), (ux_m3 105 rfl rfl), rfl, fd_yX3_has, by decide⟩
theorem fd_yX3_add : ux_d yX3_add 1 := ⟨by decide +kernel, by decide +kernel, by decide +kernel⟩
theorem fv_X7_233 : ux_FV RX7 233 RX3 yX3_add cX3_add 2 (some .int) 1 := ⟨(ux_m3 106 rfl rfl), (ux_m3 107 rfl rfl), (ux_m3 108 rfl rfl), (ux_m1 9 rfl rfl), (ux_m3 109 rfl rfl), rfl, fd_yX3_add, by decide⟩
theorem fd_yX7_reads : ux_d yX7_reads 2 := ⟨by decide +kernel, by decide +kernel, by decide +kernel⟩
theorem fv_L_138 : ux_FV RL 138 RX7 yX7_reads cX7_reads 3 (some .int) 2 := ⟨(ux_m3 110 rfl rfl), (ux_m3 111 rfl rfl), (ux_m3 112 rfl rfl), (ux_m1 1 rfl rfl), (ux_m3 113 rfl rfl), rfl, fd_yX7_reads, by decide⟩
theorem fd_yX7_loses : ux_d yX7_loses 1 := ⟨by decide +kernel, by decide +kernel, by decide +kernel⟩
theorem fv_L_142 : ux_FV RL 142 RX7 yX7_loses cX7_loses 3 (some .int) 1 := ⟨(ux_m3 116 rfl rfl), (ux_m3 117 rfl rfl), (ux_m3 118 rfl rfl), (ux_m1 1 rfl rfl), (ux_m3 119 rfl rfl), rfl, fd_yX7_loses, by decide⟩
theorem fd_yX7_known : ux_d yX7_known 1 := ⟨by decide +kernel, by decide +kernel, by decide +kernel⟩
theorem fv_L_146 : ux_FV RL 146 RX7 yX7_known cX7_known 2 (some .int) 1 := ⟨(ux_m3 120 rfl rfl), (ux_m3 121 rfl rfl), (ux_m3 122 rfl rfl), (ux_m1 1 rfl rfl), (ux_m3 123 rfl rfl), rfl, fd_yX7_known, by decide⟩
theorem fd_yX3_infer : ux_d yX3_infer 0 := ⟨by decide +kernel, by decide +kernel, by decide +kernel⟩
theorem fv_X7_243 : ux_FV RX7 243 RX3 yX3_infer cX3_infer 3 none 0 := ⟨(ux_m3 124 rfl rfl), (ux_m3 125 rfl rfl), (ux_m3 126 rfl rfl), (ux_m1 9 rfl rfl), (ux_m3 127 rfl rfl), rfl, fd_yX3_infer, by decide⟩
theorem fd_yX3_inferOnce : ux_d yX3_inferOnce 0 := ⟨by decide +kernel, by decide +kernel, by decide +kernel⟩
theorem fv_X3_32 : ux_FV RX3 32 RX3 yX3_inferOnce cX3_inferOnce 3 (some .boolean) 0 := ⟨(ux_m3 128 rfl rfl), (ux_m3 130 rfl rfl), (ux_ms 7 rfl rfl), (ux_m1 9 rfl rfl), (ux_m3 131 rfl rfl), rfl, fd_yX3_inferOnce, by decide⟩
theorem fd_yX3_inferFromBelow : ux_d yX3_inferFromBelow 1 := ⟨by decide +kernel, by decide +kernel, by decide +kernel⟩
theorem fv_X3_36 : ux_FV RX3 36 RX3 yX3_inferFromBelow cX3_inferFromBelow 2 (some .boolean) 1 := ⟨(ux_m3 132 rfl rfl), (ux_m3 134 rfl rfl), (ux_ms 8 rfl rfl), (ux_m1 9 rfl rfl), (ux_m3 135 rfl rfl), rfl, fd_yX3_inferFromBelow, by decide⟩
theorem fd_yX3_hasUnder : ux_d yX3_hasUnder 1 := ⟨by decide +kernel, by decide +kernel, by decide +kernel⟩
theorem fv_X3_43 : ux_FV RX3 43 RX3 yX3_hasUnder cX3_hasUnder 3 (some .boolean) 1 := ⟨(ux_m3 136 rfl rfl), (ux_m3 138 rfl rfl), (ux_ms 9 rfl rfl), (ux_m1 9 rfl rfl), (ux_m3 139 rfl rfl), rfl, fd_yX3_hasUnder, by decide⟩
theorem fd_yX3_allKnownUnder : ux_d yX3_allKnownUnder 2 := ⟨by decide +kernel, by decide +kernel, by decide +kernel⟩
theorem fv_X3_46 : ux_FV RX3 46 RX3 yX3_allKnownUnder cX3_allKnownUnder 4 (some .boolean) 2 := ⟨(ux_m3 140 rfl rfl), (ux_m3 142 rfl rfl), (ux_ms 10 rfl rfl), (ux_m1 9 rfl rfl), (ux_m3 143 rfl rfl), rfl, fd_yX3_allKnownUnder, by decide⟩
theorem fd_yX3_sumUnder : ux_d yX3_sumUnder 2 := ⟨by decide +kernel, by decide +kernel, by decide +kernel⟩
theorem fv_X3_50 : ux_FV RX3 50 RX3 yX3_sumUnder cX3_sumUnder 5 (some .int) 2 := ⟨(ux_m3 144 rfl rfl), (ux_m3 146 rfl rfl), (ux_ms 11 rfl rfl), (ux_m1 9 rfl rfl), (ux_m3 147 rfl rfl), rfl, fd_yX3_sumUnder, by decide⟩
theorem fd_yX3_inferFromAbove : ux_d yX3_inferFromAbove 1 := ⟨by decide +kernel, by decide +kernel, by decide +kernel⟩
theorem fv_X3_40 : ux_FV RX3 40 RX3 yX3_inferFromAbove cX3_inferFromAbove 3 (some .boolean) 1 := ⟨(ux_m3 148 rfl rfl), (ux_m3 150 rfl rfl), (ux_ms 12 rfl rfl), (ux_m1 9 rfl rfl), (ux_m3 151 rfl rfl), rfl, fd_yX3_inferFromAbove, by decide⟩
theorem fv_X3_54 : ux_FV RX3 54 RX3 yX3_has cX3_has 2 (some .boolean) 1 := ⟨(ux_m3 152 rfl rfl), (ux_m3 103 rfl rfl), (ux_m3 104 rfl rfl), (ux_m1 9 rfl rfl), (ux_m3 105 rfl rfl), rfl, fd_yX3_has, by decide⟩
theorem fd_yX7_quarrel : ux_d yX7_quarrel 0 := ⟨by decide +kernel, by decide +kernel, by decide +kernel⟩
theorem fv_L_150 : ux_FV RL 150 RX7 yX7_quarrel cX7_quarrel 2 (some .int) 0 := ⟨(ux_m3 153 rfl rfl), (ux_m3 154 rfl rfl), (ux_m3 155 rfl rfl), (ux_m1 1 rfl rfl), (ux_m3 156 rfl rfl), rfl, fd_yX7_quarrel, by decide⟩
theorem fd_yX3_isAtOdds : ux_d yX3_isAtOdds 1 := ⟨by decide +kernel, by decide +kernel, by decide +kernel⟩
theorem fv_X7_254 : ux_FV RX7 254 RX3 yX3_isAtOdds cX3_isAtOdds 2 (some .boolean) 1 := ⟨(ux_m3 157 rfl rfl), (ux_m3 158 rfl rfl), (ux_m3 159 rfl rfl), (ux_m1 9 rfl rfl), (ux_m3 160 rfl rfl), rfl, fd_yX3_isAtOdds, by decide⟩
theorem fd_yX7_count : ux_d yX7_count 1 := ⟨by decide +kernel, by decide +kernel, by decide +kernel⟩
theorem fv_L_154 : ux_FV RL 154 RX7 yX7_count cX7_count 2 (some .int) 1 := ⟨(ux_m3 161 rfl rfl), (ux_m3 162 rfl rfl), (ux_m3 163 rfl rfl), (ux_m1 1 rfl rfl), (ux_m3 164 rfl rfl), rfl, fd_yX7_count, by decide⟩
theorem fd_yX3_countKnown : ux_d yX3_countKnown 0 := ⟨by decide +kernel, by decide +kernel, by decide +kernel⟩
theorem fv_X7_262 : ux_FV RX7 262 RX3 yX3_countKnown cX3_countKnown 3 (some .int) 0 := ⟨(ux_m3 165 rfl rfl), (ux_m3 166 rfl rfl), (ux_m3 167 rfl rfl), (ux_m1 9 rfl rfl), (ux_m3 168 rfl rfl), rfl, fd_yX3_countKnown, by decide⟩
theorem fv_X3_57 : ux_FV RX3 57 RX3 yX3_infer cX3_infer 3 none 0 := ⟨(ux_m3 169 rfl rfl), (ux_m3 125 rfl rfl), (ux_m3 126 rfl rfl), (ux_m1 9 rfl rfl), (ux_m3 127 rfl rfl), rfl, fd_yX3_infer, by decide⟩
theorem fd_yX8_rack : ux_d yX8_rack 4 := ⟨by decide +kernel, by decide +kernel, by decide +kernel⟩
theorem fv_L_17 : ux_FV RL 17 RX8 yX8_rack cX8_rack 5 (some .int) 4 := ⟨(ux_m4 51 rfl rfl), (ux_m4 52 rfl rfl), (ux_m4 53 rfl rfl), (ux_m1 10 rfl rfl), (ux_m4 54 rfl rfl), rfl, fd_yX8_rack, by decide⟩
theorem fd_yX8_in : ux_d yX8_in 3 := ⟨by decide +kernel, by decide +kernel, by decide +kernel⟩
theorem fs_X8_102 : ux_FS RX8 102 yX8_in cX8_in 6 (some .boolean) 3 := ⟨(ux_m4 56 rfl rfl), (ux_m4 57 rfl rfl), (ux_m1 10 rfl rfl), (ux_m4 58 rfl rfl), fd_yX8_in, by decide⟩
theorem fd_yX8_load : ux_d yX8_load 2 := ⟨by decide +kernel, by decide +kernel, by decide +kernel⟩
theorem fv_L_22 : ux_FV RL 22 RX8 yX8_load cX8_load 4 (some .int) 2 := ⟨(ux_m4 62 rfl rfl), (ux_m4 63 rfl rfl), (ux_m4 64 rfl rfl), (ux_m1 10 rfl rfl), (ux_m4 65 rfl rfl), rfl, fd_yX8_load, by decide⟩
theorem fd_yX8_isRack : ux_d yX8_isRack 1 := ⟨by decide +kernel, by decide +kernel, by decide +kernel⟩
theorem fv_X8_115 : ux_FV RX8 115 RX8 yX8_isRack cX8_isRack 2 (some .boolean) 1 := ⟨(ux_m4 66 rfl rfl), (ux_m4 68 rfl rfl), (ux_ms 13 rfl rfl), (ux_m1 10 rfl rfl), (ux_m4 69 rfl rfl), rfl, fd_yX8_isRack, by decide⟩
theorem fd_yX8_share : ux_d yX8_share 3 := ⟨by decide +kernel, by decide +kernel, by decide +kernel⟩
theorem fv_L_27 : ux_FV RL 27 RX8 yX8_share cX8_share 5 (some .int) 3 := ⟨(ux_m4 70 rfl rfl), (ux_m4 71 rfl rfl), (ux_m4 72 rfl rfl), (ux_m1 10 rfl rfl), (ux_m4 73 rfl rfl), rfl, fd_yX8_share, by decide⟩
theorem fd_yX8_sheet : ux_d yX8_sheet 3 := ⟨by decide +kernel, by decide +kernel, by decide +kernel⟩
theorem fv_L_31 : ux_FV RL 31 RX8 yX8_sheet cX8_sheet 5 (some .int) 3 := ⟨(ux_m4 75 rfl rfl), (ux_m4 76 rfl rfl), (ux_m4 77 rfl rfl), (ux_m1 10 rfl rfl), (ux_m4 78 rfl rfl), rfl, fd_yX8_sheet, by decide⟩
theorem fd_yX8_lay : ux_d yX8_lay 3 := ⟨by decide +kernel, by decide +kernel, by decide +kernel⟩
theorem fv_L_38 : ux_FV RL 38 RX8 yX8_lay cX8_lay 5 (some .int) 3 := ⟨(ux_m4 81 rfl rfl), (ux_m4 82 rfl rfl), (ux_m4 83 rfl rfl), (ux_m1 10 rfl rfl), (ux_m4 84 rfl rfl), rfl, fd_yX8_lay, by decide⟩
theorem fd_yX8_draw : ux_d yX8_draw 3 := ⟨by decide +kernel, by decide +kernel, by decide +kernel⟩
theorem fv_L_42 : ux_FV RL 42 RX8 yX8_draw cX8_draw 6 (some .int) 3 := ⟨(ux_m4 85 rfl rfl), (ux_m4 86 rfl rfl), (ux_m4 87 rfl rfl), (ux_m1 10 rfl rfl), (ux_m4 88 rfl rfl), rfl, fd_yX8_draw, by decide⟩
theorem fd_yX8_set : ux_d yX8_set 2 := ⟨by decide +kernel, by decide +kernel, by decide +kernel⟩
theorem fv_L_46 : ux_FV RL 46 RX8 yX8_set cX8_set 3 (some .int) 2 := ⟨(ux_m4 89 rfl rfl), (ux_m4 90 rfl rfl), (ux_m4 91 rfl rfl), (ux_m1 10 rfl rfl), (ux_m4 92 rfl rfl), rfl, fd_yX8_set, by decide⟩
theorem fd_yX8_price : ux_d yX8_price 2 := ⟨by decide +kernel, by decide +kernel, by decide +kernel⟩
theorem fv_L_50 : ux_FV RL 50 RX8 yX8_price cX8_price 5 (some .int) 2 := ⟨(ux_m4 96 rfl rfl), (ux_m4 97 rfl rfl), (ux_m4 98 rfl rfl), (ux_m1 10 rfl rfl), (ux_m4 99 rfl rfl), rfl, fd_yX8_price, by decide⟩
theorem fd_yX8_into : ux_d yX8_into 1 := ⟨by decide +kernel, by decide +kernel, by decide +kernel⟩
theorem fv_L_55 : ux_FV RL 55 RX8 yX8_into cX8_into 2 (some .int) 1 := ⟨(ux_m4 101 rfl rfl), (ux_m4 102 rfl rfl), (ux_m4 103 rfl rfl), (ux_m1 10 rfl rfl), (ux_m4 104 rfl rfl), rfl, fd_yX8_into, by decide⟩
theorem fd_yX8_clearAdded : ux_d yX8_clearAdded 0 := ⟨by decide +kernel, by decide +kernel, by decide +kernel⟩
theorem fv_X8_133 : ux_FV RX8 133 RX8 yX8_clearAdded cX8_clearAdded 2 none 0 := ⟨(ux_m4 105 rfl rfl), (ux_m4 107 rfl rfl), (ux_ms 14 rfl rfl), (ux_m1 10 rfl rfl), (ux_m4 108 rfl rfl), rfl, fd_yX8_clearAdded, by decide⟩
theorem fd_yX8_comes : ux_d yX8_comes 3 := ⟨by decide +kernel, by decide +kernel, by decide +kernel⟩
theorem fv_X8_136 : ux_FV RX8 136 RX8 yX8_comes cX8_comes 6 (some .int) 3 := ⟨(ux_m4 109 rfl rfl), (ux_m4 111 rfl rfl), (ux_ms 15 rfl rfl), (ux_m1 10 rfl rfl), (ux_m4 112 rfl rfl), rfl, fd_yX8_comes, by decide⟩
theorem fd_yX8_hot : ux_d yX8_hot 1 := ⟨by decide +kernel, by decide +kernel, by decide +kernel⟩
theorem fv_L_59 : ux_FV RL 59 RX8 yX8_hot cX8_hot 5 (some .int) 1 := ⟨(ux_m4 113 rfl rfl), (ux_m4 114 rfl rfl), (ux_m4 115 rfl rfl), (ux_m1 10 rfl rfl), (ux_m4 116 rfl rfl), rfl, fd_yX8_hot, by decide⟩
theorem fd_yX8_hots : ux_d yX8_hots 2 := ⟨by decide +kernel, by decide +kernel, by decide +kernel⟩
theorem fv_X8_140 : ux_FV RX8 140 RX8 yX8_hots cX8_hots 5 (some .int) 2 := ⟨(ux_m4 117 rfl rfl), (ux_m4 119 rfl rfl), (ux_ms 16 rfl rfl), (ux_m1 10 rfl rfl), (ux_m4 120 rfl rfl), rfl, fd_yX8_hots, by decide⟩
theorem fd_yX8_power : ux_d yX8_power 2 := ⟨by decide +kernel, by decide +kernel, by decide +kernel⟩
theorem fv_L_63 : ux_FV RL 63 RX8 yX8_power cX8_power 3 (some .int) 2 := ⟨(ux_m4 121 rfl rfl), (ux_m4 122 rfl rfl), (ux_m4 123 rfl rfl), (ux_m1 10 rfl rfl), (ux_m4 124 rfl rfl), rfl, fd_yX8_power, by decide⟩
theorem fd_yX8_powerOf : ux_d yX8_powerOf 2 := ⟨by decide +kernel, by decide +kernel, by decide +kernel⟩
theorem fv_X8_144 : ux_FV RX8 144 RX8 yX8_powerOf cX8_powerOf 6 (some .int) 2 := ⟨(ux_m4 125 rfl rfl), (ux_m4 127 rfl rfl), (ux_ms 17 rfl rfl), (ux_m1 10 rfl rfl), (ux_m4 128 rfl rfl), rfl, fd_yX8_powerOf, by decide⟩
theorem fd_yX8_best : ux_d yX8_best 0 := ⟨by decide +kernel, by decide +kernel, by decide +kernel⟩
theorem fv_L_68 : ux_FV RL 68 RX8 yX8_best cX8_best 4 (some .int) 0 := ⟨(ux_m4 129 rfl rfl), (ux_m4 130 rfl rfl), (ux_m4 131 rfl rfl), (ux_m1 10 rfl rfl), (ux_m4 132 rfl rfl), rfl, fd_yX8_best, by decide⟩
theorem fd_yX8_minutes : ux_d yX8_minutes 1 := ⟨by decide +kernel, by decide +kernel, by decide +kernel⟩
theorem fv_L_72 : ux_FV RL 72 RX8 yX8_minutes cX8_minutes 4 (some .int) 1 := ⟨(ux_m4 133 rfl rfl), (ux_m4 134 rfl rfl), (ux_m4 135 rfl rfl), (ux_m1 10 rfl rfl), (ux_m4 136 rfl rfl), rfl, fd_yX8_minutes, by decide⟩
theorem fd_yX8_machine : ux_d yX8_machine 2 := ⟨by decide +kernel, by decide +kernel, by decide +kernel⟩
theorem fv_L_76 : ux_FV RL 76 RX8 yX8_machine cX8_machine 3 (some .int) 2 := ⟨(ux_m4 137 rfl rfl), (ux_m4 138 rfl rfl), (ux_m4 139 rfl rfl), (ux_m1 10 rfl rfl), (ux_m4 140 rfl rfl), rfl, fd_yX8_machine, by decide⟩
theorem fd_yX8_leave : ux_d yX8_leave 0 := ⟨by decide +kernel, by decide +kernel, by decide +kernel⟩
theorem fv_L_80 : ux_FV RL 80 RX8 yX8_leave cX8_leave 1 (some .int) 0 := ⟨(ux_m4 142 rfl rfl), (ux_m4 143 rfl rfl), (ux_m4 144 rfl rfl), (ux_m1 10 rfl rfl), (ux_m4 145 rfl rfl), rfl, fd_yX8_leave, by decide⟩
theorem fd_yX8_placed : ux_d yX8_placed 1 := ⟨by decide +kernel, by decide +kernel, by decide +kernel⟩
theorem fv_L_84 : ux_FV RL 84 RX8 yX8_placed cX8_placed 2 (some .int) 1 := ⟨(ux_m4 146 rfl rfl), (ux_m4 147 rfl rfl), (ux_m4 148 rfl rfl), (ux_m1 10 rfl rfl), (ux_m4 149 rfl rfl), rfl, fd_yX8_placed, by decide⟩
theorem fd_yX8_tryAll : ux_d yX8_tryAll 0 := ⟨by decide +kernel, by decide +kernel, by decide +kernel⟩
theorem fv_X8_161 : ux_FV RX8 161 RX8 yX8_tryAll cX8_tryAll 5 none 0 := ⟨(ux_m4 150 rfl rfl), (ux_m4 152 rfl rfl), (ux_ms 18 rfl rfl), (ux_m1 10 rfl rfl), (ux_m4 153 rfl rfl), rfl, fd_yX8_tryAll, by decide⟩
theorem fd_yX8_tryRow : ux_d yX8_tryRow 0 := ⟨by decide +kernel, by decide +kernel, by decide +kernel⟩
theorem fv_X8_158 : ux_FV RX8 158 RX8 yX8_tryRow cX8_tryRow 5 none 0 := ⟨(ux_m4 154 rfl rfl), (ux_m4 156 rfl rfl), (ux_ms 19 rfl rfl), (ux_m1 10 rfl rfl), (ux_m4 157 rfl rfl), rfl, fd_yX8_tryRow, by decide⟩
theorem fd_yX8_warmest : ux_d yX8_warmest 0 := ⟨by decide +kernel, by decide +kernel, by decide +kernel⟩
theorem fv_L_88 : ux_FV RL 88 RX8 yX8_warmest cX8_warmest 1 (some .int) 0 := ⟨(ux_m4 158 rfl rfl), (ux_m4 159 rfl rfl), (ux_m4 160 rfl rfl), (ux_m1 10 rfl rfl), (ux_m4 161 rfl rfl), rfl, fd_yX8_warmest, by decide⟩
theorem fd_yX8_placings : ux_d yX8_placings 0 := ⟨by decide +kernel, by decide +kernel, by decide +kernel⟩
theorem fv_L_92 : ux_FV RL 92 RX8 yX8_placings cX8_placings 1 (some .int) 0 := ⟨(ux_m4 162 rfl rfl), (ux_m4 163 rfl rfl), (ux_m4 164 rfl rfl), (ux_m1 10 rfl rfl), (ux_m4 165 rfl rfl), rfl, fd_yX8_placings, by decide⟩
theorem fd_yX8_feed : ux_d yX8_feed 2 := ⟨by decide +kernel, by decide +kernel, by decide +kernel⟩
theorem fv_L_96 : ux_FV RL 96 RX8 yX8_feed cX8_feed 3 (some .int) 2 := ⟨(ux_m4 166 rfl rfl), (ux_m4 167 rfl rfl), (ux_m4 168 rfl rfl), (ux_m1 10 rfl rfl), (ux_m4 169 rfl rfl), rfl, fd_yX8_feed, by decide⟩
theorem fd_yX8_plug : ux_d yX8_plug 3 := ⟨by decide +kernel, by decide +kernel, by decide +kernel⟩
theorem fv_L_100 : ux_FV RL 100 RX8 yX8_plug cX8_plug 5 (some .int) 3 := ⟨(ux_m4 170 rfl rfl), (ux_m4 171 rfl rfl), (ux_m4 172 rfl rfl), (ux_m1 10 rfl rfl), (ux_m4 173 rfl rfl), rfl, fd_yX8_plug, by decide⟩
theorem fd_yX8_isFeed : ux_d yX8_isFeed 1 := ⟨by decide +kernel, by decide +kernel, by decide +kernel⟩
theorem fv_X8_167 : ux_FV RX8 167 RX8 yX8_isFeed cX8_isFeed 2 (some .boolean) 1 := ⟨(ux_m4 174 rfl rfl), (ux_m4 176 rfl rfl), (ux_ms 20 rfl rfl), (ux_m1 10 rfl rfl), (ux_m4 177 rfl rfl), rfl, fd_yX8_isFeed, by decide⟩
theorem fd_yX8_fail : ux_d yX8_fail 2 := ⟨by decide +kernel, by decide +kernel, by decide +kernel⟩
theorem fv_L_105 : ux_FV RL 105 RX8 yX8_fail cX8_fail 4 (some .int) 2 := ⟨(ux_m4 178 rfl rfl), (ux_m4 179 rfl rfl), (ux_m4 180 rfl rfl), (ux_m1 10 rfl rfl), (ux_m4 181 rfl rfl), rfl, fd_yX8_fail, by decide⟩
theorem fd_yX8_through : ux_d yX8_through 1 := ⟨by decide +kernel, by decide +kernel, by decide +kernel⟩
theorem fv_L_109 : ux_FV RL 109 RX8 yX8_through cX8_through 2 (some .int) 1 := ⟨(ux_m4 182 rfl rfl), (ux_m4 183 rfl rfl), (ux_m4 184 rfl rfl), (ux_m1 10 rfl rfl), (ux_m4 185 rfl rfl), rfl, fd_yX8_through, by decide⟩
theorem fd_yX8_goes : ux_d yX8_goes 1 := ⟨by decide +kernel, by decide +kernel, by decide +kernel⟩
theorem fv_X8_183 : ux_FV RX8 183 RX8 yX8_goes cX8_goes 6 (some .int) 1 := ⟨(ux_m4 186 rfl rfl), (ux_m4 188 rfl rfl), (ux_ms 21 rfl rfl), (ux_m1 10 rfl rfl), (ux_m4 189 rfl rfl), rfl, fd_yX8_goes, by decide⟩
theorem fd_yX8_isDead : ux_d yX8_isDead 1 := ⟨by decide +kernel, by decide +kernel, by decide +kernel⟩
theorem fv_X8_170 : ux_FV RX8 170 RX8 yX8_isDead cX8_isDead 4 (some .boolean) 1 := ⟨(ux_m4 190 rfl rfl), (ux_m4 192 rfl rfl), (ux_ms 22 rfl rfl), (ux_m1 10 rfl rfl), (ux_m4 193 rfl rfl), rfl, fd_yX8_isDead, by decide⟩
theorem fd_yX8_isUnder : ux_d yX8_isUnder 2 := ⟨by decide +kernel, by decide +kernel, by decide +kernel⟩
theorem fv_X8_177 : ux_FV RX8 177 RX8 yX8_isUnder cX8_isUnder 4 (some .boolean) 2 := ⟨(ux_m4 194 rfl rfl), (ux_m4 196 rfl rfl), (ux_ms 23 rfl rfl), (ux_m1 10 rfl rfl), (ux_m4 197 rfl rfl), rfl, fd_yX8_isUnder, by decide⟩
theorem fd_yX8_drawn : ux_d yX8_drawn 2 := ⟨by decide +kernel, by decide +kernel, by decide +kernel⟩
theorem fv_X8_180 : ux_FV RX8 180 RX8 yX8_drawn cX8_drawn 3 (some .int) 2 := ⟨(ux_m4 198 rfl rfl), (ux_m4 200 rfl rfl), (ux_ms 24 rfl rfl), (ux_m1 10 rfl rfl), (ux_m4 201 rfl rfl), rfl, fd_yX8_drawn, by decide⟩
theorem fd_yX8_lives : ux_d yX8_lives 2 := ⟨by decide +kernel, by decide +kernel, by decide +kernel⟩
theorem fv_X8_173 : ux_FV RX8 173 RX8 yX8_lives cX8_lives 4 (some .boolean) 2 := ⟨(ux_m4 202 rfl rfl), (ux_m4 204 rfl rfl), (ux_ms 25 rfl rfl), (ux_m1 10 rfl rfl), (ux_m4 205 rfl rfl), rfl, fd_yX8_lives, by decide⟩
theorem fd_yX8_state : ux_d yX8_state 1 := ⟨by decide +kernel, by decide +kernel, by decide +kernel⟩
theorem fv_L_113 : ux_FV RL 113 RX8 yX8_state cX8_state 7 (some .int) 1 := ⟨(ux_m4 206 rfl rfl), (ux_m4 207 rfl rfl), (ux_m4 208 rfl rfl), (ux_m1 10 rfl rfl), (ux_m4 209 rfl rfl), rfl, fd_yX8_state, by decide⟩
theorem fd_yX8_isDark : ux_d yX8_isDark 1 := ⟨by decide +kernel, by decide +kernel, by decide +kernel⟩
theorem fv_X8_189 : ux_FV RX8 189 RX8 yX8_isDark cX8_isDark 2 (some .boolean) 1 := ⟨(ux_m4 211 rfl rfl), (ux_m4 213 rfl rfl), (ux_ms 26 rfl rfl), (ux_m1 10 rfl rfl), (ux_m4 214 rfl rfl), rfl, fd_yX8_isDark, by decide⟩
theorem fd_yX8_weak : ux_d yX8_weak 0 := ⟨by decide +kernel, by decide +kernel, by decide +kernel⟩
theorem fv_L_117 : ux_FV RL 117 RX8 yX8_weak cX8_weak 5 (some .int) 0 := ⟨(ux_m4 215 rfl rfl), (ux_m4 216 rfl rfl), (ux_m4 217 rfl rfl), (ux_m1 10 rfl rfl), (ux_m4 218 rfl rfl), rfl, fd_yX8_weak, by decide⟩
theorem fd_yX8_cause : ux_d yX8_cause 1 := ⟨by decide +kernel, by decide +kernel, by decide +kernel⟩
theorem fv_L_121 : ux_FV RL 121 RX8 yX8_cause cX8_cause 2 (some .int) 1 := ⟨(ux_m4 219 rfl rfl), (ux_m4 220 rfl rfl), (ux_m4 221 rfl rfl), (ux_m1 10 rfl rfl), (ux_m4 222 rfl rfl), rfl, fd_yX8_cause, by decide⟩
theorem fd_yX8_seen : ux_d yX8_seen 1 := ⟨by decide +kernel, by decide +kernel, by decide +kernel⟩
theorem fv_L_125 : ux_FV RL 125 RX8 yX8_seen cX8_seen 3 (some .int) 1 := ⟨(ux_m4 224 rfl rfl), (ux_m4 225 rfl rfl), (ux_m4 226 rfl rfl), (ux_m1 10 rfl rfl), (ux_m4 227 rfl rfl), rfl, fd_yX8_seen, by decide⟩
theorem fd_yX8_roots : ux_d yX8_roots 0 := ⟨by decide +kernel, by decide +kernel, by decide +kernel⟩
theorem fv_L_129 : ux_FV RL 129 RX8 yX8_roots cX8_roots 7 (some .int) 0 := ⟨(ux_m4 228 rfl rfl), (ux_m4 229 rfl rfl), (ux_m4 230 rfl rfl), (ux_m1 10 rfl rfl), (ux_m4 231 rfl rfl), rfl, fd_yX8_roots, by decide⟩
theorem fd_yX8_strange : ux_d yX8_strange 0 := ⟨by decide +kernel, by decide +kernel, by decide +kernel⟩
theorem fv_L_133 : ux_FV RL 133 RX8 yX8_strange cX8_strange 3 (some .int) 0 := ⟨(ux_m4 232 rfl rfl), (ux_m4 233 rfl rfl), (ux_m4 234 rfl rfl), (ux_m1 10 rfl rfl), (ux_m4 235 rfl rfl), rfl, fd_yX8_strange, by decide⟩
theorem fd_yX8_meter : ux_d yX8_meter 1 := ⟨by decide +kernel, by decide +kernel, by decide +kernel⟩
theorem fv_L_137 : ux_FV RL 137 RX8 yX8_meter cX8_meter 2 (some .int) 1 := ⟨(ux_m4 236 rfl rfl), (ux_m4 237 rfl rfl), (ux_m4 238 rfl rfl), (ux_m1 10 rfl rfl), (ux_m4 239 rfl rfl), rfl, fd_yX8_meter, by decide⟩
theorem fd_yX8_reads : ux_d yX8_reads 2 := ⟨by decide +kernel, by decide +kernel, by decide +kernel⟩
theorem fv_L_141 : ux_FV RL 141 RX8 yX8_reads cX8_reads 3 (some .int) 2 := ⟨(ux_m5 0 rfl rfl), (ux_m5 1 rfl rfl), (ux_m5 2 rfl rfl), (ux_m1 10 rfl rfl), (ux_m5 3 rfl rfl), rfl, fd_yX8_reads, by decide⟩
theorem fd_yX8_isMeter : ux_d yX8_isMeter 1 := ⟨by decide +kernel, by decide +kernel, by decide +kernel⟩
theorem fv_X8_203 : ux_FV RX8 203 RX8 yX8_isMeter cX8_isMeter 2 (some .boolean) 1 := ⟨(ux_m5 4 rfl rfl), (ux_m5 6 rfl rfl), (ux_ms 27 rfl rfl), (ux_m1 10 rfl rfl), (ux_m5 7 rfl rfl), rfl, fd_yX8_isMeter, by decide⟩
theorem fd_yX8_loses : ux_d yX8_loses 1 := ⟨by decide +kernel, by decide +kernel, by decide +kernel⟩
theorem fv_L_145 : ux_FV RL 145 RX8 yX8_loses cX8_loses 3 (some .int) 1 := ⟨(ux_m5 10 rfl rfl), (ux_m5 11 rfl rfl), (ux_m5 12 rfl rfl), (ux_m1 10 rfl rfl), (ux_m5 13 rfl rfl), rfl, fd_yX8_loses, by decide⟩
theorem fd_yX8_known : ux_d yX8_known 1 := ⟨by decide +kernel, by decide +kernel, by decide +kernel⟩
theorem fv_L_149 : ux_FV RL 149 RX8 yX8_known cX8_known 2 (some .int) 1 := ⟨(ux_m5 14 rfl rfl), (ux_m5 15 rfl rfl), (ux_m5 16 rfl rfl), (ux_m1 10 rfl rfl), (ux_m5 17 rfl rfl), rfl, fd_yX8_known, by decide⟩
theorem fd_yX8_know : ux_d yX8_know 0 := ⟨by decide +kernel, by decide +kernel, by decide +kernel⟩
theorem fv_X8_217 : ux_FV RX8 217 RX8 yX8_know cX8_know 3 none 0 := ⟨(ux_m5 18 rfl rfl), (ux_m5 20 rfl rfl), (ux_ms 28 rfl rfl), (ux_m1 10 rfl rfl), (ux_m5 21 rfl rfl), rfl, fd_yX8_know, by decide⟩
theorem fd_yX8_areKnown : ux_d yX8_areKnown 3 := ⟨by decide +kernel, by decide +kernel, by decide +kernel⟩
theorem fv_X8_213 : ux_FV RX8 213 RX8 yX8_areKnown cX8_areKnown 7 (some .boolean) 3 := ⟨(ux_m5 22 rfl rfl), (ux_m5 24 rfl rfl), (ux_ms 29 rfl rfl), (ux_m1 10 rfl rfl), (ux_m5 25 rfl rfl), rfl, fd_yX8_areKnown, by decide⟩
theorem fd_yX8_quarrel : ux_d yX8_quarrel 0 := ⟨by decide +kernel, by decide +kernel, by decide +kernel⟩
theorem fv_L_153 : ux_FV RL 153 RX8 yX8_quarrel cX8_quarrel 2 (some .int) 0 := ⟨(ux_m5 27 rfl rfl), (ux_m5 28 rfl rfl), (ux_m5 29 rfl rfl), (ux_m1 10 rfl rfl), (ux_m5 30 rfl rfl), rfl, fd_yX8_quarrel, by decide⟩
theorem fd_yX8_count : ux_d yX8_count 1 := ⟨by decide +kernel, by decide +kernel, by decide +kernel⟩
theorem fv_L_157 : ux_FV RL 157 RX8 yX8_count cX8_count 4 (some .int) 1 := ⟨(ux_m5 31 rfl rfl), (ux_m5 32 rfl rfl), (ux_m5 33 rfl rfl), (ux_m1 10 rfl rfl), (ux_m5 34 rfl rfl), rfl, fd_yX8_count, by decide⟩
theorem fd_yX7_divideUp : ux_d yX7_divideUp 2 := ⟨by decide +kernel, by decide +kernel, by decide +kernel⟩
theorem fn_divideUp : ux_FN yX7_divideUp cX7_divideUp 2 (some .int) 2 := ⟨(ux_m2 111 rfl rfl), (ux_m1 1 rfl rfl), (ux_m2 112 rfl rfl), fd_yX7_divideUp, by decide⟩
theorem fc_X4_36 : Cond.constant RX4 36 (1000000000) ∈ ux_WA := ux_m1 92 rfl rfl
theorem fc_X7_62 : Cond.constant RX7 62 (60000) ∈ ux_WA := ux_m2 12 rfl rfl
theorem fc_X6_36 : Cond.constantLong RX6 36 (200) ∈ ux_WA := ux_m2 71 rfl rfl
theorem fc_X2_54 : Cond.constant RX2 54 (1000000000) ∈ ux_WA := ux_m2 137 rfl rfl
theorem fc_X7_156 : Cond.constant RX7 156 (1000000000) ∈ ux_WA := ux_m2 155 rfl rfl
theorem fc_J6_265 : Cond.constant RJ6 265 (1431655765) ∈ ux_WA := ux_m3 37 rfl rfl
theorem fc_J6_266 : Cond.constant RJ6 266 (858993459) ∈ ux_WA := ux_m3 38 rfl rfl
theorem fc_J6_267 : Cond.constant RJ6 267 (252645135) ∈ ux_WA := ux_m3 39 rfl rfl
theorem fc_J6_264 : Cond.constant RJ6 264 (65536) ∈ ux_WA := ux_m3 46 rfl rfl
theorem fc_X7_217 : Cond.constant RX7 217 (65535) ∈ ux_WA := ux_m3 66 rfl rfl
theorem fc_X7_234 : Cond.constant RX7 234 (-100000) ∈ ux_WA := ux_m3 114 rfl rfl
theorem fc_X7_235 : Cond.constant RX7 235 (100000) ∈ ux_WA := ux_m3 115 rfl rfl
theorem fc_X8_100 : Cond.constantLong RX8 100 (1000) ∈ ux_WA := ux_m4 55 rfl rfl
theorem fc_X8_106 : Cond.constantLong RX8 106 (10000) ∈ ux_WA := ux_m4 59 rfl rfl
theorem fc_X8_108 : Cond.constantLong RX8 108 (60000) ∈ ux_WA := ux_m4 60 rfl rfl
theorem fc_X8_110 : Cond.constantLong RX8 110 (20) ∈ ux_WA := ux_m4 61 rfl rfl
theorem fc_X8_119 : Cond.constantLong RX8 119 (200) ∈ ux_WA := ux_m4 74 rfl rfl
theorem fc_X8_121 : Cond.constantLong RX8 121 (3) ∈ ux_WA := ux_m4 79 rfl rfl
theorem fc_X8_123 : Cond.constantLong RX8 123 (2) ∈ ux_WA := ux_m4 80 rfl rfl
theorem fc_X8_125 : Cond.constantLong RX8 125 (10) ∈ ux_WA := ux_m4 93 rfl rfl
theorem fc_X8_127 : Cond.constantLong RX8 127 (30) ∈ ux_WA := ux_m4 94 rfl rfl
theorem fc_X8_129 : Cond.constantLong RX8 129 (5) ∈ ux_WA := ux_m4 95 rfl rfl
theorem fc_X8_131 : Cond.constantLong RX8 131 (100) ∈ ux_WA := ux_m4 100 rfl rfl
theorem fc_X8_147 : Cond.constantLong RX8 147 (300) ∈ ux_WA := ux_m4 141 rfl rfl
theorem fc_X8_187 : Cond.constantLong RX8 187 (4) ∈ ux_WA := ux_m4 210 rfl rfl
theorem fc_X8_192 : Cond.constantLong RX8 192 (65535) ∈ ux_WA := ux_m4 223 rfl rfl
theorem fc_X8_206 : Cond.constantLong RX8 206 (-100000) ∈ ux_WA := ux_m5 8 rfl rfl
theorem fc_X8_208 : Cond.constantLong RX8 208 (100000) ∈ ux_WA := ux_m5 9 rfl rfl
theorem fc_X8_220 : Cond.constant RX8 220 (1000000000) ∈ ux_WA := ux_m5 26 rfl rfl
theorem fc_L_32 : Cond.constantLong RL 32 (4294967295) ∈ ux_WA := ux_m5 35 rfl rfl
end
