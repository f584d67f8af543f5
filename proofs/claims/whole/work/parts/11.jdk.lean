/-! printed by program (wip/gen): pure functions and contracts -/

def f_J6_bitCount_0f7a4 (S : ux_S) (p0 : Int32) : Option (Int32 × ux_S) :=
  some ((((((((p0 - (((p0.toUInt32 >>> ((1 : Int32).toUInt32 &&& Int32.toUInt32 31)).toInt32) &&& (1431655765 : Int32))) &&& (858993459 : Int32)) + ((((p0 - (((p0.toUInt32 >>> ((1 : Int32).toUInt32 &&& Int32.toUInt32 31)).toInt32) &&& (1431655765 : Int32))).toUInt32 >>> ((2 : Int32).toUInt32 &&& Int32.toUInt32 31)).toInt32) &&& (858993459 : Int32))) + (((((p0 - (((p0.toUInt32 >>> ((1 : Int32).toUInt32 &&& Int32.toUInt32 31)).toInt32) &&& (1431655765 : Int32))) &&& (858993459 : Int32)) + ((((p0 - (((p0.toUInt32 >>> ((1 : Int32).toUInt32 &&& Int32.toUInt32 31)).toInt32) &&& (1431655765 : Int32))).toUInt32 >>> ((2 : Int32).toUInt32 &&& Int32.toUInt32 31)).toInt32) &&& (858993459 : Int32))).toUInt32 >>> ((4 : Int32).toUInt32 &&& Int32.toUInt32 31)).toInt32)) &&& (252645135 : Int32)) + (((((((p0 - (((p0.toUInt32 >>> ((1 : Int32).toUInt32 &&& Int32.toUInt32 31)).toInt32) &&& (1431655765 : Int32))) &&& (858993459 : Int32)) + ((((p0 - (((p0.toUInt32 >>> ((1 : Int32).toUInt32 &&& Int32.toUInt32 31)).toInt32) &&& (1431655765 : Int32))).toUInt32 >>> ((2 : Int32).toUInt32 &&& Int32.toUInt32 31)).toInt32) &&& (858993459 : Int32))) + (((((p0 - (((p0.toUInt32 >>> ((1 : Int32).toUInt32 &&& Int32.toUInt32 31)).toInt32) &&& (1431655765 : Int32))) &&& (858993459 : Int32)) + ((((p0 - (((p0.toUInt32 >>> ((1 : Int32).toUInt32 &&& Int32.toUInt32 31)).toInt32) &&& (1431655765 : Int32))).toUInt32 >>> ((2 : Int32).toUInt32 &&& Int32.toUInt32 31)).toInt32) &&& (858993459 : Int32))).toUInt32 >>> ((4 : Int32).toUInt32 &&& Int32.toUInt32 31)).toInt32)) &&& (252645135 : Int32)).toUInt32 >>> ((8 : Int32).toUInt32 &&& Int32.toUInt32 31)).toInt32)) + ((((((((p0 - (((p0.toUInt32 >>> ((1 : Int32).toUInt32 &&& Int32.toUInt32 31)).toInt32) &&& (1431655765 : Int32))) &&& (858993459 : Int32)) + ((((p0 - (((p0.toUInt32 >>> ((1 : Int32).toUInt32 &&& Int32.toUInt32 31)).toInt32) &&& (1431655765 : Int32))).toUInt32 >>> ((2 : Int32).toUInt32 &&& Int32.toUInt32 31)).toInt32) &&& (858993459 : Int32))) + (((((p0 - (((p0.toUInt32 >>> ((1 : Int32).toUInt32 &&& Int32.toUInt32 31)).toInt32) &&& (1431655765 : Int32))) &&& (858993459 : Int32)) + ((((p0 - (((p0.toUInt32 >>> ((1 : Int32).toUInt32 &&& Int32.toUInt32 31)).toInt32) &&& (1431655765 : Int32))).toUInt32 >>> ((2 : Int32).toUInt32 &&& Int32.toUInt32 31)).toInt32) &&& (858993459 : Int32))).toUInt32 >>> ((4 : Int32).toUInt32 &&& Int32.toUInt32 31)).toInt32)) &&& (252645135 : Int32)) + (((((((p0 - (((p0.toUInt32 >>> ((1 : Int32).toUInt32 &&& Int32.toUInt32 31)).toInt32) &&& (1431655765 : Int32))) &&& (858993459 : Int32)) + ((((p0 - (((p0.toUInt32 >>> ((1 : Int32).toUInt32 &&& Int32.toUInt32 31)).toInt32) &&& (1431655765 : Int32))).toUInt32 >>> ((2 : Int32).toUInt32 &&& Int32.toUInt32 31)).toInt32) &&& (858993459 : Int32))) + (((((p0 - (((p0.toUInt32 >>> ((1 : Int32).toUInt32 &&& Int32.toUInt32 31)).toInt32) &&& (1431655765 : Int32))) &&& (858993459 : Int32)) + ((((p0 - (((p0.toUInt32 >>> ((1 : Int32).toUInt32 &&& Int32.toUInt32 31)).toInt32) &&& (1431655765 : Int32))).toUInt32 >>> ((2 : Int32).toUInt32 &&& Int32.toUInt32 31)).toInt32) &&& (858993459 : Int32))).toUInt32 >>> ((4 : Int32).toUInt32 &&& Int32.toUInt32 31)).toInt32)) &&& (252645135 : Int32)).toUInt32 >>> ((8 : Int32).toUInt32 &&& Int32.toUInt32 31)).toInt32)).toUInt32 >>> ((16 : Int32).toUInt32 &&& Int32.toUInt32 31)).toInt32)) &&& (63 : Int32), S)
set_option maxHeartbeats 2000000 in
set_option maxRecDepth 10000 in
theorem m_J6_bitCount_0f7a4 {l : Launch} {G : ux_G} {S : ux_S} {p0 : Int32} {r : Int32} {Z : ux_S} (hf : f_J6_bitCount_0f7a4 S p0 = some (r, Z)) : ux_M l G yJ6_bitCount_0f7a4 cJ6_bitCount_0f7a4 1 (some .int) 1 [.int p0] S (some (.int r)) Z := by
  refine ux_of (by decide) (Nat.le_of_ble_eq_true rfl) ?_
  show ux_At l G RJ6 cJ6_bitCount_0f7a4 1 (some .int) 1 (some (.int r)) Z 0 [(0, .int p0)] [] S
  unfold f_J6_bitCount_0f7a4 at hf
  refine ax_iload_n 1 dJ6_bitCount_0f7a4_0 rfl 0 rfl rfl ?_
  refine ax_iload_n 2 dJ6_bitCount_0f7a4_1 rfl 0 rfl rfl ?_
  refine ax_iconst (v := 1) 3 dJ6_bitCount_0f7a4_2 (by decide) rfl ?_
  refine ax_iushr 4 dJ6_bitCount_0f7a4_3 rfl ?_
  refine ax_ldcw 7 dJ6_bitCount_0f7a4_4 fc_J6_265 rfl ?_
  refine ax_iand 8 dJ6_bitCount_0f7a4_7 rfl ?_
  refine ax_isub 9 dJ6_bitCount_0f7a4_8 rfl ?_
  refine ax_istore_n 10 dJ6_bitCount_0f7a4_9 rfl (by decide) [0] [(0, .int (p0 - (((p0.toUInt32 >>> ((1 : Int32).toUInt32 &&& Int32.toUInt32 31)).toInt32) &&& (1431655765 : Int32))))] rfl rfl ?_
  refine ax_iload_n 11 dJ6_bitCount_0f7a4_10 rfl 0 rfl rfl ?_
  refine ax_ldcw 14 dJ6_bitCount_0f7a4_11 fc_J6_266 rfl ?_
  refine ax_iand 15 dJ6_bitCount_0f7a4_14 rfl ?_
  refine ax_iload_n 16 dJ6_bitCount_0f7a4_15 rfl 0 rfl rfl ?_
  refine ax_iconst (v := 2) 17 dJ6_bitCount_0f7a4_16 (by decide) rfl ?_
  refine ax_iushr 18 dJ6_bitCount_0f7a4_17 rfl ?_
  refine ax_ldcw 21 dJ6_bitCount_0f7a4_18 fc_J6_266 rfl ?_
  refine ax_iand 22 dJ6_bitCount_0f7a4_21 rfl ?_
  refine ax_iadd 23 dJ6_bitCount_0f7a4_22 rfl ?_
  refine ax_istore_n 24 dJ6_bitCount_0f7a4_23 rfl (by decide) [0] [(0, .int (((p0 - (((p0.toUInt32 >>> ((1 : Int32).toUInt32 &&& Int32.toUInt32 31)).toInt32) &&& (1431655765 : Int32))) &&& (858993459 : Int32)) + ((((p0 - (((p0.toUInt32 >>> ((1 : Int32).toUInt32 &&& Int32.toUInt32 31)).toInt32) &&& (1431655765 : Int32))).toUInt32 >>> ((2 : Int32).toUInt32 &&& Int32.toUInt32 31)).toInt32) &&& (858993459 : Int32))))] rfl rfl ?_
  refine ax_iload_n 25 dJ6_bitCount_0f7a4_24 rfl 0 rfl rfl ?_
  refine ax_iload_n 26 dJ6_bitCount_0f7a4_25 rfl 0 rfl rfl ?_
  refine ax_iconst (v := 4) 27 dJ6_bitCount_0f7a4_26 (by decide) rfl ?_
  refine ax_iushr 28 dJ6_bitCount_0f7a4_27 rfl ?_
  refine ax_iadd 29 dJ6_bitCount_0f7a4_28 rfl ?_
  refine ax_ldcw 32 dJ6_bitCount_0f7a4_29 fc_J6_267 rfl ?_
  refine ax_iand 33 dJ6_bitCount_0f7a4_32 rfl ?_
  refine ax_istore_n 34 dJ6_bitCount_0f7a4_33 rfl (by decide) [0] [(0, .int (((((p0 - (((p0.toUInt32 >>> ((1 : Int32).toUInt32 &&& Int32.toUInt32 31)).toInt32) &&& (1431655765 : Int32))) &&& (858993459 : Int32)) + ((((p0 - (((p0.toUInt32 >>> ((1 : Int32).toUInt32 &&& Int32.toUInt32 31)).toInt32) &&& (1431655765 : Int32))).toUInt32 >>> ((2 : Int32).toUInt32 &&& Int32.toUInt32 31)).toInt32) &&& (858993459 : Int32))) + (((((p0 - (((p0.toUInt32 >>> ((1 : Int32).toUInt32 &&& Int32.toUInt32 31)).toInt32) &&& (1431655765 : Int32))) &&& (858993459 : Int32)) + ((((p0 - (((p0.toUInt32 >>> ((1 : Int32).toUInt32 &&& Int32.toUInt32 31)).toInt32) &&& (1431655765 : Int32))).toUInt32 >>> ((2 : Int32).toUInt32 &&& Int32.toUInt32 31)).toInt32) &&& (858993459 : Int32))).toUInt32 >>> ((4 : Int32).toUInt32 &&& Int32.toUInt32 31)).toInt32)) &&& (252645135 : Int32)))] rfl rfl ?_
  refine ax_iload_n 35 dJ6_bitCount_0f7a4_34 rfl 0 rfl rfl ?_
  refine ax_iload_n 36 dJ6_bitCount_0f7a4_35 rfl 0 rfl rfl ?_
  refine ax_bipush (v := 8) 38 dJ6_bitCount_0f7a4_36 (by decide) rfl ?_
  refine ax_iushr 39 dJ6_bitCount_0f7a4_38 rfl ?_
  refine ax_iadd 40 dJ6_bitCount_0f7a4_39 rfl ?_
  refine ax_istore_n 41 dJ6_bitCount_0f7a4_40 rfl (by decide) [0] [(0, .int ((((((p0 - (((p0.toUInt32 >>> ((1 : Int32).toUInt32 &&& Int32.toUInt32 31)).toInt32) &&& (1431655765 : Int32))) &&& (858993459 : Int32)) + ((((p0 - (((p0.toUInt32 >>> ((1 : Int32).toUInt32 &&& Int32.toUInt32 31)).toInt32) &&& (1431655765 : Int32))).toUInt32 >>> ((2 : Int32).toUInt32 &&& Int32.toUInt32 31)).toInt32) &&& (858993459 : Int32))) + (((((p0 - (((p0.toUInt32 >>> ((1 : Int32).toUInt32 &&& Int32.toUInt32 31)).toInt32) &&& (1431655765 : Int32))) &&& (858993459 : Int32)) + ((((p0 - (((p0.toUInt32 >>> ((1 : Int32).toUInt32 &&& Int32.toUInt32 31)).toInt32) &&& (1431655765 : Int32))).toUInt32 >>> ((2 : Int32).toUInt32 &&& Int32.toUInt32 31)).toInt32) &&& (858993459 : Int32))).toUInt32 >>> ((4 : Int32).toUInt32 &&& Int32.toUInt32 31)).toInt32)) &&& (252645135 : Int32)) + (((((((p0 - (((p0.toUInt32 >>> ((1 : Int32).toUInt32 &&& Int32.toUInt32 31)).toInt32) &&& (1431655765 : Int32))) &&& (858993459 : Int32)) + ((((p0 - (((p0.toUInt32 >>> ((1 : Int32).toUInt32 &&& Int32.toUInt32 31)).toInt32) &&& (1431655765 : Int32))).toUInt32 >>> ((2 : Int32).toUInt32 &&& Int32.toUInt32 31)).toInt32) &&& (858993459 : Int32))) + (((((p0 - (((p0.toUInt32 >>> ((1 : Int32).toUInt32 &&& Int32.toUInt32 31)).toInt32) &&& (1431655765 : Int32))) &&& (858993459 : Int32)) + ((((p0 - (((p0.toUInt32 >>> ((1 : Int32).toUInt32 &&& Int32.toUInt32 31)).toInt32) &&& (1431655765 : Int32))).toUInt32 >>> ((2 : Int32).toUInt32 &&& Int32.toUInt32 31)).toInt32) &&& (858993459 : Int32))).toUInt32 >>> ((4 : Int32).toUInt32 &&& Int32.toUInt32 31)).toInt32)) &&& (252645135 : Int32)).toUInt32 >>> ((8 : Int32).toUInt32 &&& Int32.toUInt32 31)).toInt32)))] rfl rfl ?_
  refine ax_iload_n 42 dJ6_bitCount_0f7a4_41 rfl 0 rfl rfl ?_
  refine ax_iload_n 43 dJ6_bitCount_0f7a4_42 rfl 0 rfl rfl ?_
  refine ax_bipush (v := 16) 45 dJ6_bitCount_0f7a4_43 (by decide) rfl ?_
  refine ax_iushr 46 dJ6_bitCount_0f7a4_45 rfl ?_
  refine ax_iadd 47 dJ6_bitCount_0f7a4_46 rfl ?_
  refine ax_istore_n 48 dJ6_bitCount_0f7a4_47 rfl (by decide) [0] [(0, .int (((((((p0 - (((p0.toUInt32 >>> ((1 : Int32).toUInt32 &&& Int32.toUInt32 31)).toInt32) &&& (1431655765 : Int32))) &&& (858993459 : Int32)) + ((((p0 - (((p0.toUInt32 >>> ((1 : Int32).toUInt32 &&& Int32.toUInt32 31)).toInt32) &&& (1431655765 : Int32))).toUInt32 >>> ((2 : Int32).toUInt32 &&& Int32.toUInt32 31)).toInt32) &&& (858993459 : Int32))) + (((((p0 - (((p0.toUInt32 >>> ((1 : Int32).toUInt32 &&& Int32.toUInt32 31)).toInt32) &&& (1431655765 : Int32))) &&& (858993459 : Int32)) + ((((p0 - (((p0.toUInt32 >>> ((1 : Int32).toUInt32 &&& Int32.toUInt32 31)).toInt32) &&& (1431655765 : Int32))).toUInt32 >>> ((2 : Int32).toUInt32 &&& Int32.toUInt32 31)).toInt32) &&& (858993459 : Int32))).toUInt32 >>> ((4 : Int32).toUInt32 &&& Int32.toUInt32 31)).toInt32)) &&& (252645135 : Int32)) + (((((((p0 - (((p0.toUInt32 >>> ((1 : Int32).toUInt32 &&& Int32.toUInt32 31)).toInt32) &&& (1431655765 : Int32))) &&& (858993459 : Int32)) + ((((p0 - (((p0.toUInt32 >>> ((1 : Int32).toUInt32 &&& Int32.toUInt32 31)).toInt32) &&& (1431655765 : Int32))).toUInt32 >>> ((2 : Int32).toUInt32 &&& Int32.toUInt32 31)).toInt32) &&& (858993459 : Int32))) + (((((p0 - (((p0.toUInt32 >>> ((1 : Int32).toUInt32 &&& Int32.toUInt32 31)).toInt32) &&& (1431655765 : Int32))) &&& (858993459 : Int32)) + ((((p0 - (((p0.toUInt32 >>> ((1 : Int32).toUInt32 &&& Int32.toUInt32 31)).toInt32) &&& (1431655765 : Int32))).toUInt32 >>> ((2 : Int32).toUInt32 &&& Int32.toUInt32 31)).toInt32) &&& (858993459 : Int32))).toUInt32 >>> ((4 : Int32).toUInt32 &&& Int32.toUInt32 31)).toInt32)) &&& (252645135 : Int32)).toUInt32 >>> ((8 : Int32).toUInt32 &&& Int32.toUInt32 31)).toInt32)) + ((((((((p0 - (((p0.toUInt32 >>> ((1 : Int32).toUInt32 &&& Int32.toUInt32 31)).toInt32) &&& (1431655765 : Int32))) &&& (858993459 : Int32)) + ((((p0 - (((p0.toUInt32 >>> ((1 : Int32).toUInt32 &&& Int32.toUInt32 31)).toInt32) &&& (1431655765 : Int32))).toUInt32 >>> ((2 : Int32).toUInt32 &&& Int32.toUInt32 31)).toInt32) &&& (858993459 : Int32))) + (((((p0 - (((p0.toUInt32 >>> ((1 : Int32).toUInt32 &&& Int32.toUInt32 31)).toInt32) &&& (1431655765 : Int32))) &&& (858993459 : Int32)) + ((((p0 - (((p0.toUInt32 >>> ((1 : Int32).toUInt32 &&& Int32.toUInt32 31)).toInt32) &&& (1431655765 : Int32))).toUInt32 >>> ((2 : Int32).toUInt32 &&& Int32.toUInt32 31)).toInt32) &&& (858993459 : Int32))).toUInt32 >>> ((4 : Int32).toUInt32 &&& Int32.toUInt32 31)).toInt32)) &&& (252645135 : Int32)) + (((((((p0 - (((p0.toUInt32 >>> ((1 : Int32).toUInt32 &&& Int32.toUInt32 31)).toInt32) &&& (1431655765 : Int32))) &&& (858993459 : Int32)) + ((((p0 - (((p0.toUInt32 >>> ((1 : Int32).toUInt32 &&& Int32.toUInt32 31)).toInt32) &&& (1431655765 : Int32))).toUInt32 >>> ((2 : Int32).toUInt32 &&& Int32.toUInt32 31)).toInt32) &&& (858993459 : Int32))) + (((((p0 - (((p0.toUInt32 >>> ((1 : Int32).toUInt32 &&& Int32.toUInt32 31)).toInt32) &&& (1431655765 : Int32))) &&& (858993459 : Int32)) + ((((p0 - (((p0.toUInt32 >>> ((1 : Int32).toUInt32 &&& Int32.toUInt32 31)).toInt32) &&& (1431655765 : Int32))).toUInt32 >>> ((2 : Int32).toUInt32 &&& Int32.toUInt32 31)).toInt32) &&& (858993459 : Int32))).toUInt32 >>> ((4 : Int32).toUInt32 &&& Int32.toUInt32 31)).toInt32)) &&& (252645135 : Int32)).toUInt32 >>> ((8 : Int32).toUInt32 &&& Int32.toUInt32 31)).toInt32)).toUInt32 >>> ((16 : Int32).toUInt32 &&& Int32.toUInt32 31)).toInt32)))] rfl rfl ?_
  refine ax_iload_n 49 dJ6_bitCount_0f7a4_48 rfl 0 rfl rfl ?_
  refine ax_bipush (v := 63) 51 dJ6_bitCount_0f7a4_49 (by decide) rfl ?_
  refine ax_iand 52 dJ6_bitCount_0f7a4_51 rfl ?_
  exact ax_iret dJ6_bitCount_0f7a4_52 hf
def b_J6_numberOfTrailingZeros_0f7a4_74 (n : Nat) (p0 : Int32) (x0 : Int32) (x1 : Int32) (S : ux_S) : Option (Int32 × ux_S) :=
  some (x1 + ((x0.toUInt32 >>> ((1 : Int32).toUInt32 &&& Int32.toUInt32 31)).toInt32), S)
set_option maxHeartbeats 2000000 in
set_option maxRecDepth 10000 in
theorem w_J6_numberOfTrailingZeros_0f7a4_74 {l : Launch} {G : ux_G} {n : Nat} {p0 : Int32} {r : Int32} {Z : ux_S} : ∀ (x0 : Int32) (x1 : Int32) (S : ux_S), b_J6_numberOfTrailingZeros_0f7a4_74 n p0 x0 x1 S = some (r, Z) → ux_At l G RJ6 cJ6_numberOfTrailingZeros_0f7a4 2 (some .int) 1 (some (.int r)) Z 74 [(0, .int x0), (1, .int x1)] [] S := by
  intro x0 x1 S hf
  unfold b_J6_numberOfTrailingZeros_0f7a4_74 at hf
  refine ax_iload_n 75 dJ6_numberOfTrailingZeros_0f7a4_74 rfl 1 rfl rfl ?_
  refine ax_iload_n 76 dJ6_numberOfTrailingZeros_0f7a4_75 rfl 0 rfl rfl ?_
  refine ax_iconst (v := 1) 77 dJ6_numberOfTrailingZeros_0f7a4_76 (by decide) rfl ?_
  refine ax_iushr 78 dJ6_numberOfTrailingZeros_0f7a4_77 rfl ?_
  refine ax_iadd 79 dJ6_numberOfTrailingZeros_0f7a4_78 rfl ?_
  exact ax_iret dJ6_numberOfTrailingZeros_0f7a4_79 hf
def b_J6_numberOfTrailingZeros_0f7a4_62 (n : Nat) (p0 : Int32) (x0 : Int32) (x1 : Int32) (S : ux_S) : Option (Int32 × ux_S) :=
  if x0 ≤ 4 then (b_J6_numberOfTrailingZeros_0f7a4_74 n p0 x0 x1 S) else (b_J6_numberOfTrailingZeros_0f7a4_74 n p0 ((x0.toUInt32 >>> ((2 : Int32).toUInt32 &&& Int32.toUInt32 31)).toInt32) (x1 + 2) S)
set_option maxHeartbeats 2000000 in
set_option maxRecDepth 10000 in
theorem w_J6_numberOfTrailingZeros_0f7a4_62 {l : Launch} {G : ux_G} {n : Nat} {p0 : Int32} {r : Int32} {Z : ux_S} : ∀ (x0 : Int32) (x1 : Int32) (S : ux_S), b_J6_numberOfTrailingZeros_0f7a4_62 n p0 x0 x1 S = some (r, Z) → ux_At l G RJ6 cJ6_numberOfTrailingZeros_0f7a4 2 (some .int) 1 (some (.int r)) Z 62 [(0, .int x0), (1, .int x1)] [] S := by
  intro x0 x1 S hf
  unfold b_J6_numberOfTrailingZeros_0f7a4_62 at hf
  refine ax_iload_n 63 dJ6_numberOfTrailingZeros_0f7a4_62 rfl 0 rfl rfl ?_
  refine ax_iconst (v := 4) 64 dJ6_numberOfTrailingZeros_0f7a4_63 (by decide) rfl ?_
  refine ax_icmp_le 74 67 dJ6_numberOfTrailingZeros_0f7a4_64 (by decide) rfl (fun c5 => ?_) (fun c5 => ?_)
  · have hf := ux_ift c5 hf
    exact ax_sub [0, 1] rfl (w_J6_numberOfTrailingZeros_0f7a4_74 x0 x1 S hf)
  · have hf := ux_iff c5 hf
    refine ax_iinc (v := x1 + 2) 70 dJ6_numberOfTrailingZeros_0f7a4_67 1 rfl rfl (by decide) [1, 0] [(0, .int x0), (1, .int (x1 + 2))] rfl rfl ?_
    refine ax_iload_n 71 dJ6_numberOfTrailingZeros_0f7a4_70 rfl 0 rfl rfl ?_
    refine ax_iconst (v := 2) 72 dJ6_numberOfTrailingZeros_0f7a4_71 (by decide) rfl ?_
    refine ax_iushr 73 dJ6_numberOfTrailingZeros_0f7a4_72 rfl ?_
    refine ax_istore_n 74 dJ6_numberOfTrailingZeros_0f7a4_73 rfl (by decide) [0, 1] [(0, .int ((x0.toUInt32 >>> ((2 : Int32).toUInt32 &&& Int32.toUInt32 31)).toInt32)), (1, .int (x1 + 2))] rfl rfl ?_
    exact ax_sub [0, 1] rfl (w_J6_numberOfTrailingZeros_0f7a4_74 ((x0.toUInt32 >>> ((2 : Int32).toUInt32 &&& Int32.toUInt32 31)).toInt32) (x1 + 2) S hf)
def b_J6_numberOfTrailingZeros_0f7a4_49 (n : Nat) (p0 : Int32) (x0 : Int32) (x1 : Int32) (S : ux_S) : Option (Int32 × ux_S) :=
  if x0 ≤ 16 then (b_J6_numberOfTrailingZeros_0f7a4_62 n p0 x0 x1 S) else (b_J6_numberOfTrailingZeros_0f7a4_62 n p0 ((x0.toUInt32 >>> ((4 : Int32).toUInt32 &&& Int32.toUInt32 31)).toInt32) (x1 + 4) S)
set_option maxHeartbeats 2000000 in
set_option maxRecDepth 10000 in
theorem w_J6_numberOfTrailingZeros_0f7a4_49 {l : Launch} {G : ux_G} {n : Nat} {p0 : Int32} {r : Int32} {Z : ux_S} : ∀ (x0 : Int32) (x1 : Int32) (S : ux_S), b_J6_numberOfTrailingZeros_0f7a4_49 n p0 x0 x1 S = some (r, Z) → ux_At l G RJ6 cJ6_numberOfTrailingZeros_0f7a4 2 (some .int) 1 (some (.int r)) Z 49 [(0, .int x0), (1, .int x1)] [] S := by
  intro x0 x1 S hf
  unfold b_J6_numberOfTrailingZeros_0f7a4_49 at hf
  refine ax_iload_n 50 dJ6_numberOfTrailingZeros_0f7a4_49 rfl 0 rfl rfl ?_
  refine ax_bipush (v := 16) 52 dJ6_numberOfTrailingZeros_0f7a4_50 (by decide) rfl ?_
  refine ax_icmp_le 62 55 dJ6_numberOfTrailingZeros_0f7a4_52 (by decide) rfl (fun c4 => ?_) (fun c4 => ?_)
  · have hf := ux_ift c4 hf
    exact ax_sub [0, 1] rfl (w_J6_numberOfTrailingZeros_0f7a4_62 x0 x1 S hf)
  · have hf := ux_iff c4 hf
    refine ax_iinc (v := x1 + 4) 58 dJ6_numberOfTrailingZeros_0f7a4_55 1 rfl rfl (by decide) [1, 0] [(0, .int x0), (1, .int (x1 + 4))] rfl rfl ?_
    refine ax_iload_n 59 dJ6_numberOfTrailingZeros_0f7a4_58 rfl 0 rfl rfl ?_
    refine ax_iconst (v := 4) 60 dJ6_numberOfTrailingZeros_0f7a4_59 (by decide) rfl ?_
    refine ax_iushr 61 dJ6_numberOfTrailingZeros_0f7a4_60 rfl ?_
    refine ax_istore_n 62 dJ6_numberOfTrailingZeros_0f7a4_61 rfl (by decide) [0, 1] [(0, .int ((x0.toUInt32 >>> ((4 : Int32).toUInt32 &&& Int32.toUInt32 31)).toInt32)), (1, .int (x1 + 4))] rfl rfl ?_
    exact ax_sub [0, 1] rfl (w_J6_numberOfTrailingZeros_0f7a4_62 ((x0.toUInt32 >>> ((4 : Int32).toUInt32 &&& Int32.toUInt32 31)).toInt32) (x1 + 4) S hf)
def b_J6_numberOfTrailingZeros_0f7a4_34 (n : Nat) (p0 : Int32) (x0 : Int32) (x1 : Int32) (S : ux_S) : Option (Int32 × ux_S) :=
  if x0 ≤ 256 then (b_J6_numberOfTrailingZeros_0f7a4_49 n p0 x0 x1 S) else (b_J6_numberOfTrailingZeros_0f7a4_49 n p0 ((x0.toUInt32 >>> ((8 : Int32).toUInt32 &&& Int32.toUInt32 31)).toInt32) (x1 + 8) S)
set_option maxHeartbeats 2000000 in
set_option maxRecDepth 10000 in
theorem w_J6_numberOfTrailingZeros_0f7a4_34 {l : Launch} {G : ux_G} {n : Nat} {p0 : Int32} {r : Int32} {Z : ux_S} : ∀ (x0 : Int32) (x1 : Int32) (S : ux_S), b_J6_numberOfTrailingZeros_0f7a4_34 n p0 x0 x1 S = some (r, Z) → ux_At l G RJ6 cJ6_numberOfTrailingZeros_0f7a4 2 (some .int) 1 (some (.int r)) Z 34 [(0, .int x0), (1, .int x1)] [] S := by
  intro x0 x1 S hf
  unfold b_J6_numberOfTrailingZeros_0f7a4_34 at hf
  refine ax_iload_n 35 dJ6_numberOfTrailingZeros_0f7a4_34 rfl 0 rfl rfl ?_
  refine ax_sipush (v := 256) 38 dJ6_numberOfTrailingZeros_0f7a4_35 (by decide) rfl ?_
  refine ax_icmp_le 49 41 dJ6_numberOfTrailingZeros_0f7a4_38 (by decide) rfl (fun c3 => ?_) (fun c3 => ?_)
  · have hf := ux_ift c3 hf
    exact ax_sub [0, 1] rfl (w_J6_numberOfTrailingZeros_0f7a4_49 x0 x1 S hf)
  · have hf := ux_iff c3 hf
    refine ax_iinc (v := x1 + 8) 44 dJ6_numberOfTrailingZeros_0f7a4_41 1 rfl rfl (by decide) [1, 0] [(0, .int x0), (1, .int (x1 + 8))] rfl rfl ?_
    refine ax_iload_n 45 dJ6_numberOfTrailingZeros_0f7a4_44 rfl 0 rfl rfl ?_
    refine ax_bipush (v := 8) 47 dJ6_numberOfTrailingZeros_0f7a4_45 (by decide) rfl ?_
    refine ax_iushr 48 dJ6_numberOfTrailingZeros_0f7a4_47 rfl ?_
    refine ax_istore_n 49 dJ6_numberOfTrailingZeros_0f7a4_48 rfl (by decide) [0, 1] [(0, .int ((x0.toUInt32 >>> ((8 : Int32).toUInt32 &&& Int32.toUInt32 31)).toInt32)), (1, .int (x1 + 8))] rfl rfl ?_
    exact ax_sub [0, 1] rfl (w_J6_numberOfTrailingZeros_0f7a4_49 ((x0.toUInt32 >>> ((8 : Int32).toUInt32 &&& Int32.toUInt32 31)).toInt32) (x1 + 8) S hf)
def f_J6_numberOfTrailingZeros_0f7a4 (n : Nat) (S : ux_S) (p0 : Int32) : Option (Int32 × ux_S) :=
  if 0 < (p0 ^^^ ((-1) : Int32)) &&& (p0 - (1 : Int32)) then (if (p0 ^^^ ((-1) : Int32)) &&& (p0 - (1 : Int32)) ≤ 65536 then (b_J6_numberOfTrailingZeros_0f7a4_34 n p0 ((p0 ^^^ ((-1) : Int32)) &&& (p0 - (1 : Int32))) 1 S) else (b_J6_numberOfTrailingZeros_0f7a4_34 n p0 ((((p0 ^^^ ((-1) : Int32)) &&& (p0 - (1 : Int32))).toUInt32 >>> ((16 : Int32).toUInt32 &&& Int32.toUInt32 31)).toInt32) (1 + 16) S)) else (some (((p0 ^^^ ((-1) : Int32)) &&& (p0 - (1 : Int32))) &&& (32 : Int32), S))
set_option maxHeartbeats 2000000 in
set_option maxRecDepth 10000 in
theorem m_J6_numberOfTrailingZeros_0f7a4 {l : Launch} {G : ux_G} {n : Nat} {S : ux_S} {p0 : Int32} {r : Int32} {Z : ux_S} (hf : f_J6_numberOfTrailingZeros_0f7a4 n S p0 = some (r, Z)) : ux_M l G yJ6_numberOfTrailingZeros_0f7a4 cJ6_numberOfTrailingZeros_0f7a4 2 (some .int) 1 [.int p0] S (some (.int r)) Z := by
  refine ux_of (by decide) (Nat.le_of_ble_eq_true rfl) ?_
  show ux_At l G RJ6 cJ6_numberOfTrailingZeros_0f7a4 2 (some .int) 1 (some (.int r)) Z 0 [(0, .int p0)] [] S
  unfold f_J6_numberOfTrailingZeros_0f7a4 at hf
  refine ax_iload_n 1 dJ6_numberOfTrailingZeros_0f7a4_0 rfl 0 rfl rfl ?_
  refine ax_iconst (v := (-1)) 2 dJ6_numberOfTrailingZeros_0f7a4_1 (by decide) rfl ?_
  refine ax_ixor 3 dJ6_numberOfTrailingZeros_0f7a4_2 rfl ?_
  refine ax_iload_n 4 dJ6_numberOfTrailingZeros_0f7a4_3 rfl 0 rfl rfl ?_
  refine ax_iconst (v := 1) 5 dJ6_numberOfTrailingZeros_0f7a4_4 (by decide) rfl ?_
  refine ax_isub 6 dJ6_numberOfTrailingZeros_0f7a4_5 rfl ?_
  refine ax_iand 7 dJ6_numberOfTrailingZeros_0f7a4_6 rfl ?_
  refine ax_istore_n 8 dJ6_numberOfTrailingZeros_0f7a4_7 rfl (by decide) [0] [(0, .int ((p0 ^^^ ((-1) : Int32)) &&& (p0 - (1 : Int32))))] rfl rfl ?_
  refine ax_iload_n 9 dJ6_numberOfTrailingZeros_0f7a4_8 rfl 0 rfl rfl ?_
  refine ax_if_gt 17 12 dJ6_numberOfTrailingZeros_0f7a4_9 (by decide) rfl (fun c1 => ?_) (fun c1 => ?_)
  · have hf := ux_ift c1 hf
    refine ax_iconst (v := 1) 18 dJ6_numberOfTrailingZeros_0f7a4_17 (by decide) rfl ?_
    refine ax_istore_n 19 dJ6_numberOfTrailingZeros_0f7a4_18 rfl (by decide) [1, 0] [(0, .int ((p0 ^^^ ((-1) : Int32)) &&& (p0 - (1 : Int32)))), (1, .int 1)] rfl rfl ?_
    refine ax_iload_n 20 dJ6_numberOfTrailingZeros_0f7a4_19 rfl 0 rfl rfl ?_
    refine ax_ldcw 23 dJ6_numberOfTrailingZeros_0f7a4_20 fc_J6_264 rfl ?_
    refine ax_icmp_le 34 26 dJ6_numberOfTrailingZeros_0f7a4_23 (by decide) rfl (fun c2 => ?_) (fun c2 => ?_)
    · have hf := ux_ift c2 hf
      exact ax_sub [0, 1] rfl (w_J6_numberOfTrailingZeros_0f7a4_34 ((p0 ^^^ ((-1) : Int32)) &&& (p0 - (1 : Int32))) 1 S hf)
    · have hf := ux_iff c2 hf
      refine ax_iinc (v := 1 + 16) 29 dJ6_numberOfTrailingZeros_0f7a4_26 1 rfl rfl (by decide) [1, 0] [(0, .int ((p0 ^^^ ((-1) : Int32)) &&& (p0 - (1 : Int32)))), (1, .int (1 + 16))] rfl rfl ?_
      refine ax_iload_n 30 dJ6_numberOfTrailingZeros_0f7a4_29 rfl 0 rfl rfl ?_
      refine ax_bipush (v := 16) 32 dJ6_numberOfTrailingZeros_0f7a4_30 (by decide) rfl ?_
      refine ax_iushr 33 dJ6_numberOfTrailingZeros_0f7a4_32 rfl ?_
      refine ax_istore_n 34 dJ6_numberOfTrailingZeros_0f7a4_33 rfl (by decide) [0, 1] [(0, .int ((((p0 ^^^ ((-1) : Int32)) &&& (p0 - (1 : Int32))).toUInt32 >>> ((16 : Int32).toUInt32 &&& Int32.toUInt32 31)).toInt32)), (1, .int (1 + 16))] rfl rfl ?_
      exact ax_sub [0, 1] rfl (w_J6_numberOfTrailingZeros_0f7a4_34 ((((p0 ^^^ ((-1) : Int32)) &&& (p0 - (1 : Int32))).toUInt32 >>> ((16 : Int32).toUInt32 &&& Int32.toUInt32 31)).toInt32) (1 + 16) S hf)
  · have hf := ux_iff c1 hf
    refine ax_iload_n 13 dJ6_numberOfTrailingZeros_0f7a4_12 rfl 0 rfl rfl ?_
    refine ax_bipush (v := 32) 15 dJ6_numberOfTrailingZeros_0f7a4_13 (by decide) rfl ?_
    refine ax_iand 16 dJ6_numberOfTrailingZeros_0f7a4_15 rfl ?_
    exact ax_iret dJ6_numberOfTrailingZeros_0f7a4_16 hf
def b_J7_fill_53178_5 (n : Nat) (p0 : Nat) (ap0 : Nat) (p1 : Int32) (k5 : Int32 → Int32 → ux_S → Option ux_S) (x2 : Int32) (x3 : Int32) (S : ux_S) : Option ux_S :=
  if x3 ≤ x2 then (some S) else (ux_gd (ux_ib x2 ap0) (k5 (x2 + 1) x3 (ux_i S p0 x2.toNatClampNeg p1)))
set_option maxHeartbeats 2000000 in
set_option maxRecDepth 10000 in
theorem w_J7_fill_53178_5 {l : Launch} {G : ux_G} {n : Nat} {p0 : Nat} {ap0 : Nat} {p1 : Int32} {Z : ux_S} (hp0 : p0 < 79 ∧ ux_k p0 = (0, ap0)) (k5 : Int32 → Int32 → ux_S → Option ux_S) (hk5 : ∀ (x2 x3 : Int32) (S : ux_S), k5 x2 x3 S = some Z → ux_At l G RJ7 cJ7_fill_53178 4 none 1 none Z 5 [(0, .ref (ux_a G p0)), (1, .int p1), (2, .int x2), (3, .int x3)] [] S) : ∀ (x2 : Int32) (x3 : Int32) (S : ux_S), b_J7_fill_53178_5 n p0 ap0 p1 k5 x2 x3 S = some Z → ux_At l G RJ7 cJ7_fill_53178 4 none 1 none Z 5 [(0, .ref (ux_a G p0)), (1, .int p1), (2, .int x2), (3, .int x3)] [] S := by
  intro x2 x3 S hf
  unfold b_J7_fill_53178_5 at hf
  refine ax_iload_n 6 dJ7_fill_53178_5 rfl 2 rfl rfl ?_
  refine ax_iload_n 7 dJ7_fill_53178_6 rfl 3 rfl rfl ?_
  refine ax_icmp_ge 20 10 dJ7_fill_53178_7 (by decide) rfl (fun c1 => ?_) (fun c1 => ?_)
  · have hf := ux_ift c1 hf
    exact ax_vret dJ7_fill_53178_20 hf
  · have hf := ux_iff c1 hf
    refine ax_aload_n 11 dJ7_fill_53178_10 rfl 0 rfl rfl ?_
    refine ax_iload_n 12 dJ7_fill_53178_11 rfl 2 rfl rfl ?_
    refine ax_iload_n 13 dJ7_fill_53178_12 rfl 1 rfl rfl ?_
    obtain ⟨h2, hf⟩ := ux_gd_e hf
    refine ax_iast 14 dJ7_fill_53178_13 hp0.1 hp0.2 h2 rfl ?_
    refine ax_iinc (v := x2 + 1) 17 dJ7_fill_53178_14 2 rfl rfl (by decide) [1, 2, 0, 3] [(0, .ref (ux_a G p0)), (1, .int p1), (2, .int (x2 + 1)), (3, .int x3)] rfl rfl ?_
    refine ax_goto 5 dJ7_fill_53178_17 (by decide) ?_
    exact ax_sub [0, 1, 2, 3] rfl (hk5 (x2 + 1) x3 (ux_i S p0 x2.toNatClampNeg p1) hf)
def f_J7_fill_53178 (n : Nat) (S : ux_S) (p0 : Nat) (ap0 : Nat) (p1 : Int32) : Option ux_S :=
  ux_lp2 (b_J7_fill_53178_5 n p0 ap0 p1) n 0 (Int32.ofNat ap0) S
set_option maxHeartbeats 2000000 in
set_option maxRecDepth 10000 in
theorem m_J7_fill_53178 {l : Launch} {G : ux_G} {n : Nat} {S : ux_S} {p0 : Nat} {ap0 : Nat} {p1 : Int32} {Z : ux_S} (hp0 : p0 < 79 ∧ ux_k p0 = (0, ap0)) (hf : f_J7_fill_53178 n S p0 ap0 p1 = some Z) : ux_M l G yJ7_fill_53178 cJ7_fill_53178 4 none 1 [.ref (ux_a G p0), .int p1] S none Z := by
  refine ux_of (by decide) (Nat.le_of_ble_eq_true rfl) ?_
  show ux_At l G RJ7 cJ7_fill_53178 4 none 1 none Z 0 [(0, .ref (ux_a G p0)), (1, .int p1)] [] S
  unfold f_J7_fill_53178 at hf
  refine ax_iconst (v := 0) 1 dJ7_fill_53178_0 (by decide) rfl ?_
  refine ax_istore_n 2 dJ7_fill_53178_1 rfl (by decide) [1, 2, 0] [(0, .ref (ux_a G p0)), (1, .int p1), (2, .int 0)] rfl rfl ?_
  refine ax_aload_n 3 dJ7_fill_53178_2 rfl 0 rfl rfl ?_
  refine ax_alen 4 dJ7_fill_53178_3 hp0.1 hp0.2 rfl ?_
  refine ax_istore_n 5 dJ7_fill_53178_4 rfl (by decide) [1, 2, 3, 0] [(0, .ref (ux_a G p0)), (1, .int p1), (2, .int 0), (3, .int (Int32.ofNat ap0))] rfl rfl ?_
  exact ax_sub [0, 1, 2, 3] rfl (ux_lp2_w (Pr := fun x2 x3 S => ux_At l G RJ7 cJ7_fill_53178 4 none 1 none Z 5 [(0, .ref (ux_a G p0)), (1, .int p1), (2, .int x2), (3, .int x3)] [] S) (fun k5 hk5 => w_J7_fill_53178_5 hp0 k5 hk5) n 0 (Int32.ofNat ap0) S hf)
def b_J7_fill_d0a16_6 (n : Nat) (p0 : Nat) (ap0 : Nat) (p1 : Int64) (k6 : Int32 → Int32 → ux_S → Option ux_S) (x3 : Int32) (x4 : Int32) (S : ux_S) : Option ux_S :=
  if x4 ≤ x3 then (some S) else (ux_gd (ux_ib x3 ap0) (k6 (x3 + 1) x4 (ux_l S p0 x3.toNatClampNeg p1)))
set_option maxHeartbeats 2000000 in
set_option maxRecDepth 10000 in
theorem w_J7_fill_d0a16_6 {l : Launch} {G : ux_G} {n : Nat} {p0 : Nat} {ap0 : Nat} {p1 : Int64} {Z : ux_S} (hp0 : p0 < 79 ∧ ux_k p0 = (1, ap0)) (k6 : Int32 → Int32 → ux_S → Option ux_S) (hk6 : ∀ (x3 x4 : Int32) (S : ux_S), k6 x3 x4 S = some Z → ux_At l G RJ7 cJ7_fill_d0a16 5 none 1 none Z 6 [(0, .ref (ux_a G p0)), (1, .long p1), (3, .int x3), (4, .int x4)] [] S) : ∀ (x3 : Int32) (x4 : Int32) (S : ux_S), b_J7_fill_d0a16_6 n p0 ap0 p1 k6 x3 x4 S = some Z → ux_At l G RJ7 cJ7_fill_d0a16 5 none 1 none Z 6 [(0, .ref (ux_a G p0)), (1, .long p1), (3, .int x3), (4, .int x4)] [] S := by
  intro x3 x4 S hf
  unfold b_J7_fill_d0a16_6 at hf
  refine ax_iload_n 7 dJ7_fill_d0a16_6 rfl 2 rfl rfl ?_
  refine ax_iload 9 dJ7_fill_d0a16_7 3 rfl rfl ?_
  refine ax_icmp_ge 22 12 dJ7_fill_d0a16_9 (by decide) rfl (fun c1 => ?_) (fun c1 => ?_)
  · have hf := ux_ift c1 hf
    exact ax_vret dJ7_fill_d0a16_22 hf
  · have hf := ux_iff c1 hf
    refine ax_aload_n 13 dJ7_fill_d0a16_12 rfl 0 rfl rfl ?_
    refine ax_iload_n 14 dJ7_fill_d0a16_13 rfl 2 rfl rfl ?_
    refine ax_lload_n 15 dJ7_fill_d0a16_14 rfl 1 rfl rfl ?_
    obtain ⟨h2, hf⟩ := ux_gd_e hf
    refine ax_last 16 dJ7_fill_d0a16_15 hp0.1 hp0.2 h2 rfl ?_
    refine ax_iinc (v := x3 + 1) 19 dJ7_fill_d0a16_16 2 rfl rfl (by decide) [1, 2, 0, 3] [(0, .ref (ux_a G p0)), (1, .long p1), (3, .int (x3 + 1)), (4, .int x4)] rfl rfl ?_
    refine ax_goto 6 dJ7_fill_d0a16_19 (by decide) ?_
    exact ax_sub [0, 1, 2, 3] rfl (hk6 (x3 + 1) x4 (ux_l S p0 x3.toNatClampNeg p1) hf)
def f_J7_fill_d0a16 (n : Nat) (S : ux_S) (p0 : Nat) (ap0 : Nat) (p1 : Int64) : Option ux_S :=
  ux_lp2 (b_J7_fill_d0a16_6 n p0 ap0 p1) n 0 (Int32.ofNat ap0) S
set_option maxHeartbeats 2000000 in
set_option maxRecDepth 10000 in
theorem m_J7_fill_d0a16 {l : Launch} {G : ux_G} {n : Nat} {S : ux_S} {p0 : Nat} {ap0 : Nat} {p1 : Int64} {Z : ux_S} (hp0 : p0 < 79 ∧ ux_k p0 = (1, ap0)) (hf : f_J7_fill_d0a16 n S p0 ap0 p1 = some Z) : ux_M l G yJ7_fill_d0a16 cJ7_fill_d0a16 5 none 1 [.ref (ux_a G p0), .long p1] S none Z := by
  refine ux_of (by decide) (Nat.le_of_ble_eq_true rfl) ?_
  show ux_At l G RJ7 cJ7_fill_d0a16 5 none 1 none Z 0 [(0, .ref (ux_a G p0)), (1, .long p1)] [] S
  unfold f_J7_fill_d0a16 at hf
  refine ax_iconst (v := 0) 1 dJ7_fill_d0a16_0 (by decide) rfl ?_
  refine ax_istore_n 2 dJ7_fill_d0a16_1 rfl (by decide) [1, 2, 0] [(0, .ref (ux_a G p0)), (1, .long p1), (3, .int 0)] rfl rfl ?_
  refine ax_aload_n 3 dJ7_fill_d0a16_2 rfl 0 rfl rfl ?_
  refine ax_alenL 4 dJ7_fill_d0a16_3 hp0.1 hp0.2 rfl ?_
  refine ax_istore 6 dJ7_fill_d0a16_4 (by decide) [1, 2, 3, 0] [(0, .ref (ux_a G p0)), (1, .long p1), (3, .int 0), (4, .int (Int32.ofNat ap0))] rfl rfl ?_
  exact ax_sub [0, 1, 2, 3] rfl (ux_lp2_w (Pr := fun x3 x4 S => ux_At l G RJ7 cJ7_fill_d0a16 5 none 1 none Z 6 [(0, .ref (ux_a G p0)), (1, .long p1), (3, .int x3), (4, .int x4)] [] S) (fun k6 hk6 => w_J7_fill_d0a16_6 hp0 k6 hk6) n 0 (Int32.ofNat ap0) S hf)
def f_X7_within (S : ux_S) (p0 : Int32) (p1 : Int32) (p2 : Int32) : Option (Int32 × ux_S) :=
  if p0 < p1 then (some (0, S)) else (if p2 < p0 then (some (0, S)) else (some (1, S)))
set_option maxHeartbeats 2000000 in
set_option maxRecDepth 10000 in
theorem m_X7_within {l : Launch} {G : ux_G} {S : ux_S} {p0 : Int32} {p1 : Int32} {p2 : Int32} {r : Int32} {Z : ux_S} (hf : f_X7_within S p0 p1 p2 = some (r, Z)) : ux_M l G yX7_within cX7_within 3 (some .boolean) 1 [.int p0, .int p1, .int p2] S (some (.int r)) Z := by
  refine ux_of (by decide) (Nat.le_of_ble_eq_true rfl) ?_
  show ux_At l G RX7 cX7_within 3 (some .boolean) 1 (some (.int r)) Z 0 [(0, .int p0), (1, .int p1), (2, .int p2)] [] S
  unfold f_X7_within at hf
  refine ax_iload_n 1 dX7_within_0 rfl 0 rfl rfl ?_
  refine ax_iload_n 2 dX7_within_1 rfl 1 rfl rfl ?_
  refine ax_icmp_lt 14 5 dX7_within_2 (by decide) rfl (fun c1 => ?_) (fun c1 => ?_)
  · have hf := ux_ift c1 hf
    refine ax_iconst (v := 0) 15 dX7_within_14 (by decide) rfl ?_
    exact ax_zret dX7_within_15 rfl hf
  · have hf := ux_iff c1 hf
    refine ax_iload_n 6 dX7_within_5 rfl 0 rfl rfl ?_
    refine ax_iload_n 7 dX7_within_6 rfl 2 rfl rfl ?_
    refine ax_icmp_gt 14 10 dX7_within_7 (by decide) rfl (fun c2 => ?_) (fun c2 => ?_)
    · have hf := ux_ift c2 hf
      refine ax_iconst (v := 0) 15 dX7_within_14 (by decide) rfl ?_
      exact ax_zret dX7_within_15 rfl hf
    · have hf := ux_iff c2 hf
      refine ax_iconst (v := 1) 11 dX7_within_10 (by decide) rfl ?_
      refine ax_goto 15 dX7_within_11 (by decide) ?_
      exact ax_zret dX7_within_15 rfl hf
def f_X7_isAir (S : ux_S) (p0 : Int32) : Option (Int32 × ux_S) :=
  ux_bi (f_X7_within S p0 10 30) (fun r3 S2 => ux_gd (ux_zb r3) (some (r3, S2)))
set_option maxHeartbeats 2000000 in
set_option maxRecDepth 10000 in
theorem m_X7_isAir {l : Launch} {G : ux_G} {S : ux_S} {p0 : Int32} {r : Int32} {Z : ux_S} (hf : f_X7_isAir S p0 = some (r, Z)) : ux_M l G yX7_isAir cX7_isAir 1 (some .boolean) 2 [.int p0] S (some (.int r)) Z := by
  refine ux_of (by decide) (Nat.le_of_ble_eq_true rfl) ?_
  show ux_At l G RX7 cX7_isAir 1 (some .boolean) 2 (some (.int r)) Z 0 [(0, .int p0)] [] S
  unfold f_X7_isAir at hf
  refine ax_iload_n 1 dX7_isAir_0 rfl 0 rfl rfl ?_
  refine ax_bipush (v := 10) 3 dX7_isAir_1 (by decide) rfl ?_
  refine ax_bipush (v := 30) 5 dX7_isAir_3 (by decide) rfl ?_
  obtain ⟨r3, S2, e1, hf⟩ := ux_bi_e hf
  refine ax_callSi 8 [.int p0, .int 10, .int 30] dX7_isAir_5 fs_X7_58 (m_X7_within e1) (by decide) rfl rfl (Nat.le_of_ble_eq_true rfl) rfl ?_
  obtain ⟨h4, hf⟩ := ux_gd_e hf
  exact ax_zret dX7_isAir_8 (ux_zb_of h4) hf
def f_X7_isFan (S : ux_S) (p0 : Int32) : Option (Int32 × ux_S) :=
  ux_bi (f_X7_within S p0 1 5) (fun r3 S2 => ux_gd (ux_zb r3) (some (r3, S2)))
set_option maxHeartbeats 2000000 in
set_option maxRecDepth 10000 in
theorem m_X7_isFan {l : Launch} {G : ux_G} {S : ux_S} {p0 : Int32} {r : Int32} {Z : ux_S} (hf : f_X7_isFan S p0 = some (r, Z)) : ux_M l G yX7_isFan cX7_isFan 1 (some .boolean) 2 [.int p0] S (some (.int r)) Z := by
  refine ux_of (by decide) (Nat.le_of_ble_eq_true rfl) ?_
  show ux_At l G RX7 cX7_isFan 1 (some .boolean) 2 (some (.int r)) Z 0 [(0, .int p0)] [] S
  unfold f_X7_isFan at hf
  refine ax_iload_n 1 dX7_isFan_0 rfl 0 rfl rfl ?_
  refine ax_iconst (v := 1) 2 dX7_isFan_1 (by decide) rfl ?_
  refine ax_iconst (v := 5) 3 dX7_isFan_2 (by decide) rfl ?_
  obtain ⟨r3, S2, e1, hf⟩ := ux_bi_e hf
  refine ax_callSi 6 [.int p0, .int 1, .int 5] dX7_isFan_3 fs_X7_58 (m_X7_within e1) (by decide) rfl rfl (Nat.le_of_ble_eq_true rfl) rfl ?_
  obtain ⟨h4, hf⟩ := ux_gd_e hf
  exact ax_zret dX7_isFan_6 (ux_zb_of h4) hf
def f_X7_isLane (S : ux_S) (p0 : Int32) : Option (Int32 × ux_S) :=
  ux_bi (f_X7_within S p0 0 2) (fun r3 S2 => ux_gd (ux_zb r3) (some (r3, S2)))
set_option maxHeartbeats 2000000 in
set_option maxRecDepth 10000 in
theorem m_X7_isLane {l : Launch} {G : ux_G} {S : ux_S} {p0 : Int32} {r : Int32} {Z : ux_S} (hf : f_X7_isLane S p0 = some (r, Z)) : ux_M l G yX7_isLane cX7_isLane 1 (some .boolean) 2 [.int p0] S (some (.int r)) Z := by
  refine ux_of (by decide) (Nat.le_of_ble_eq_true rfl) ?_
  show ux_At l G RX7 cX7_isLane 1 (some .boolean) 2 (some (.int r)) Z 0 [(0, .int p0)] [] S
  unfold f_X7_isLane at hf
  refine ax_iload_n 1 dX7_isLane_0 rfl 0 rfl rfl ?_
  refine ax_iconst (v := 0) 2 dX7_isLane_1 (by decide) rfl ?_
  refine ax_iconst (v := 2) 3 dX7_isLane_2 (by decide) rfl ?_
  obtain ⟨r3, S2, e1, hf⟩ := ux_bi_e hf
  refine ax_callSi 6 [.int p0, .int 0, .int 2] dX7_isLane_3 fs_X7_58 (m_X7_within e1) (by decide) rfl rfl (Nat.le_of_ble_eq_true rfl) rfl ?_
  obtain ⟨h4, hf⟩ := ux_gd_e hf
  exact ax_zret dX7_isLane_6 (ux_zb_of h4) hf
def f_X7_lowestBits (S : ux_S) (p0 : Int32) (p1 : Int64) : Option (Int64 × ux_S) :=
  if p0 = 0 then (some ((((p1 : Int64).toInt32 : Int32).toInt8.toInt32 : Int32).toInt64, S)) else (if p0 = 1 then (some (((p1 : Int64).toInt32 : Int32).toInt64, S)) else (some (p1, S)))
set_option maxHeartbeats 2000000 in
set_option maxRecDepth 10000 in
theorem m_X7_lowestBits {l : Launch} {G : ux_G} {S : ux_S} {p0 : Int32} {p1 : Int64} {r : Int64} {Z : ux_S} (hf : f_X7_lowestBits S p0 p1 = some (r, Z)) : ux_M l G yX7_lowestBits cX7_lowestBits 3 (some .long) 1 [.int p0, .long p1] S (some (.long r)) Z := by
  refine ux_of (by decide) (Nat.le_of_ble_eq_true rfl) ?_
  show ux_At l G RX7 cX7_lowestBits 3 (some .long) 1 (some (.long r)) Z 0 [(0, .int p0), (1, .long p1)] [] S
  unfold f_X7_lowestBits at hf
  refine ax_iload_n 1 dX7_lowestBits_0 rfl 0 rfl rfl ?_
  refine ax_if_ne 9 4 dX7_lowestBits_1 (by decide) rfl (fun c1 => ?_) (fun c1 => ?_)
  · have hf := ux_iff c1 hf
    refine ax_iload_n 10 dX7_lowestBits_9 rfl 0 rfl rfl ?_
    refine ax_iconst (v := 1) 11 dX7_lowestBits_10 (by decide) rfl ?_
    refine ax_icmp_ne 20 14 dX7_lowestBits_11 (by decide) rfl (fun c2 => ?_) (fun c2 => ?_)
    · have hf := ux_iff c2 hf
      refine ax_lload_n 21 dX7_lowestBits_20 rfl 1 rfl rfl ?_
      exact ax_lret dX7_lowestBits_21 hf
    · have hf := ux_ift c2 hf
      refine ax_lload_n 15 dX7_lowestBits_14 rfl 1 rfl rfl ?_
      refine ax_l2i 16 dX7_lowestBits_15 rfl ?_
      refine ax_i2l 17 dX7_lowestBits_16 rfl ?_
      refine ax_goto 21 dX7_lowestBits_17 (by decide) ?_
      exact ax_lret dX7_lowestBits_21 hf
  · have hf := ux_ift c1 hf
    refine ax_lload_n 5 dX7_lowestBits_4 rfl 1 rfl rfl ?_
    refine ax_l2i 6 dX7_lowestBits_5 rfl ?_
    refine ax_i2b 7 dX7_lowestBits_6 rfl ?_
    refine ax_i2l 8 dX7_lowestBits_7 rfl ?_
    exact ax_lret dX7_lowestBits_8 hf
def f_X7_divideDown (S : ux_S) (p0 : Int32) (p1 : Int32) : Option (Int32 × ux_S) :=
  if 1 ≤ p1 then (ux_gd (ux_nz p1) (some (p0 / p1, S))) else (some (0, S))
set_option maxHeartbeats 2000000 in
set_option maxRecDepth 10000 in
theorem m_X7_divideDown {l : Launch} {G : ux_G} {S : ux_S} {p0 : Int32} {p1 : Int32} {r : Int32} {Z : ux_S} (hf : f_X7_divideDown S p0 p1 = some (r, Z)) : ux_M l G yX7_divideDown cX7_divideDown 2 (some .int) 1 [.int p0, .int p1] S (some (.int r)) Z := by
  refine ux_of (by decide) (Nat.le_of_ble_eq_true rfl) ?_
  show ux_At l G RX7 cX7_divideDown 2 (some .int) 1 (some (.int r)) Z 0 [(0, .int p0), (1, .int p1)] [] S
  unfold f_X7_divideDown at hf
  refine ax_iload_n 1 dX7_divideDown_0 rfl 1 rfl rfl ?_
  refine ax_iconst (v := 1) 2 dX7_divideDown_1 (by decide) rfl ?_
  refine ax_icmp_ge 9 5 dX7_divideDown_2 (by decide) rfl (fun c1 => ?_) (fun c1 => ?_)
  · have hf := ux_ift c1 hf
    refine ax_iload_n 10 dX7_divideDown_9 rfl 0 rfl rfl ?_
    refine ax_iload_n 11 dX7_divideDown_10 rfl 1 rfl rfl ?_
    obtain ⟨h2, hf⟩ := ux_gd_e hf
    refine ax_idiv 12 dX7_divideDown_11 (ux_nz_of h2) rfl ?_
    exact ax_iret dX7_divideDown_12 hf
  · have hf := ux_iff c1 hf
    refine ax_iconst (v := 0) 6 dX7_divideDown_5 (by decide) rfl ?_
    refine ax_goto 12 dX7_divideDown_6 (by decide) ?_
    exact ax_iret dX7_divideDown_12 hf
def f_X7_divideUp (S : ux_S) (p0 : Int32) (p1 : Int32) : Option (Int32 × ux_S) :=
  ux_bi (f_X7_divideDown S ((p0 + p1) - (1 : Int32)) p1) (fun r3 S2 => some (r3, S2))
set_option maxHeartbeats 2000000 in
set_option maxRecDepth 10000 in
theorem m_X7_divideUp {l : Launch} {G : ux_G} {S : ux_S} {p0 : Int32} {p1 : Int32} {r : Int32} {Z : ux_S} (hf : f_X7_divideUp S p0 p1 = some (r, Z)) : ux_M l G yX7_divideUp cX7_divideUp 2 (some .int) 2 [.int p0, .int p1] S (some (.int r)) Z := by
  refine ux_of (by decide) (Nat.le_of_ble_eq_true rfl) ?_
  show ux_At l G RX7 cX7_divideUp 2 (some .int) 2 (some (.int r)) Z 0 [(0, .int p0), (1, .int p1)] [] S
  unfold f_X7_divideUp at hf
  refine ax_iload_n 1 dX7_divideUp_0 rfl 0 rfl rfl ?_
  refine ax_iload_n 2 dX7_divideUp_1 rfl 1 rfl rfl ?_
  refine ax_iadd 3 dX7_divideUp_2 rfl ?_
  refine ax_iconst (v := 1) 4 dX7_divideUp_3 (by decide) rfl ?_
  refine ax_isub 5 dX7_divideUp_4 rfl ?_
  refine ax_iload_n 6 dX7_divideUp_5 rfl 1 rfl rfl ?_
  obtain ⟨r3, S2, e1, hf⟩ := ux_bi_e hf
  refine ax_callSi 9 [.int ((p0 + p1) - (1 : Int32)), .int p1] dX7_divideUp_6 fs_X7_163 (m_X7_divideDown e1) (by decide) rfl rfl (Nat.le_of_ble_eq_true rfl) rfl ?_
  exact ax_iret dX7_divideUp_9 hf
def f_X7_firstBit (n : Nat) (S : ux_S) (p0 : Int32) : Option (Int32 × ux_S) :=
  if p0 = 0 then (some ((-4), S)) else (ux_bi (f_J6_numberOfTrailingZeros_0f7a4 n S p0) (fun r4 S3 => some (r4, S3)))
set_option maxHeartbeats 2000000 in
set_option maxRecDepth 10000 in
theorem m_X7_firstBit {l : Launch} {G : ux_G} {n : Nat} {S : ux_S} {p0 : Int32} {r : Int32} {Z : ux_S} (hf : f_X7_firstBit n S p0 = some (r, Z)) : ux_M l G yX7_firstBit cX7_firstBit 1 (some .int) 2 [.int p0] S (some (.int r)) Z := by
  refine ux_of (by decide) (Nat.le_of_ble_eq_true rfl) ?_
  show ux_At l G RX7 cX7_firstBit 1 (some .int) 2 (some (.int r)) Z 0 [(0, .int p0)] [] S
  unfold f_X7_firstBit at hf
  refine ax_iload_n 1 dX7_firstBit_0 rfl 0 rfl rfl ?_
  refine ax_if_ne 9 4 dX7_firstBit_1 (by decide) rfl (fun c1 => ?_) (fun c1 => ?_)
  · have hf := ux_iff c1 hf
    refine ax_iload_n 10 dX7_firstBit_9 rfl 0 rfl rfl ?_
    obtain ⟨r4, S3, e2, hf⟩ := ux_bi_e hf
    refine ax_callSi 13 [.int p0] dX7_firstBit_10 fs_X7_268 (m_J6_numberOfTrailingZeros_0f7a4 e2) (by decide) rfl rfl (Nat.le_of_ble_eq_true rfl) rfl ?_
    exact ax_iret dX7_firstBit_13 hf
  · have hf := ux_ift c1 hf
    refine ax_bipush (v := (-4)) 6 dX7_firstBit_4 (by decide) rfl ?_
    refine ax_goto 13 dX7_firstBit_6 (by decide) ?_
    exact ax_iret dX7_firstBit_13 hf
