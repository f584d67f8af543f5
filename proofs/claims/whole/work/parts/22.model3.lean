/-! printed by program (wip/gen): pure functions and contracts -/

def f_X8_cause (S : ux_S) (p0 : Int32) : Option (Int32 × ux_S) :=
  ux_bi (f_X8_in S ((p0 : Int32).toInt64) 1 65535) (fun r3 S2 => if r3 = 0 then (some ((-1), S2)) else (if S2.1 8 28 = 10 then (some ((-3), S2)) else (ux_gd (ux_ib (S2.1 8 28) 10) (some (((ux_i (ux_i S2 73 (S2.1 8 28).toNatClampNeg p0) 8 28 (((ux_i S2 73 (S2.1 8 28).toNatClampNeg p0).1 8 28) + (1 : Int32))).1 8 28) - (1 : Int32), ux_i (ux_i S2 73 (S2.1 8 28).toNatClampNeg p0) 8 28 (((ux_i S2 73 (S2.1 8 28).toNatClampNeg p0).1 8 28) + (1 : Int32)))))))
set_option maxHeartbeats 2000000 in
set_option maxRecDepth 10000 in
theorem m_X8_cause {l : Launch} {G : ux_G} {S : ux_S} {p0 : Int32} {r : Int32} {Z : ux_S} (hf : f_X8_cause S p0 = some (r, Z)) : ux_M l G yX8_cause cX8_cause 2 (some .int) 2 [.ref (ux_a G 8), .int p0] S (some (.int r)) Z := by
  refine ux_of (by decide) (Nat.le_of_ble_eq_true rfl) ?_
  show ux_At l G RX8 cX8_cause 2 (some .int) 2 (some (.int r)) Z 0 [(0, .ref (ux_a G 8)), (1, .int p0)] [] S
  unfold f_X8_cause at hf
  refine ax_iload_n 1 dX8_cause_0 rfl 1 rfl rfl ?_
  refine ax_i2l 2 dX8_cause_1 rfl ?_
  refine ax_lconst (v := 1) 3 dX8_cause_2 (by decide) rfl ?_
  refine ax_ldc2 6 dX8_cause_3 fc_X8_192 rfl ?_
  obtain ⟨r3, S2, e1, hf⟩ := ux_bi_e hf
  refine ax_callSi 9 [.long ((p0 : Int32).toInt64), .long 1, .long 65535] dX8_cause_6 fs_X8_102 (m_X8_in e1) (by decide) rfl rfl (Nat.le_of_ble_eq_true rfl) rfl ?_
  refine ax_if_ne 14 12 dX8_cause_9 (by decide) rfl (fun c4 => ?_) (fun c4 => ?_)
  · have hf := ux_iff c4 hf
    refine ax_aload_n 15 dX8_cause_14 rfl 0 rfl rfl ?_
    refine ax_geti 18 dX8_cause_15 fg_X8_194 rfl rfl ?_
    refine ax_bipush (v := 10) 20 dX8_cause_18 (by decide) rfl ?_
    refine ax_icmp_ne 26 23 dX8_cause_20 (by decide) rfl (fun c5 => ?_) (fun c5 => ?_)
    · have hf := ux_iff c5 hf
      refine ax_aload_n 27 dX8_cause_26 rfl 0 rfl rfl ?_
      refine ax_getr 73 30 dX8_cause_27 fg_X8_82 rfl (by decide) rfl ?_
      refine ax_aload_n 31 dX8_cause_30 rfl 0 rfl rfl ?_
      refine ax_geti 34 dX8_cause_31 fg_X8_194 rfl rfl ?_
      refine ax_iload_n 35 dX8_cause_34 rfl 1 rfl rfl ?_
      obtain ⟨h6, hf⟩ := ux_gd_e hf
      refine ax_iast 36 dX8_cause_35 (by decide) rfl h6 rfl ?_
      refine ax_aload_n 37 dX8_cause_36 rfl 0 rfl rfl ?_
      refine ax_dup 38 dX8_cause_37 rfl rfl ?_
      refine ax_geti 41 dX8_cause_38 fg_X8_194 rfl rfl ?_
      refine ax_iconst (v := 1) 42 dX8_cause_41 (by decide) rfl ?_
      refine ax_iadd 43 dX8_cause_42 rfl ?_
      refine ax_put 46 dX8_cause_43 fp_X8_194 rfl ?_
      refine ax_aload_n 47 dX8_cause_46 rfl 0 rfl rfl ?_
      refine ax_geti 50 dX8_cause_47 fg_X8_194 rfl rfl ?_
      refine ax_iconst (v := 1) 51 dX8_cause_50 (by decide) rfl ?_
      refine ax_isub 52 dX8_cause_51 rfl ?_
      exact ax_iret dX8_cause_52 hf
    · have hf := ux_ift c5 hf
      refine ax_bipush (v := (-3)) 25 dX8_cause_23 (by decide) rfl ?_
      exact ax_iret dX8_cause_25 hf
  · have hf := ux_ift c4 hf
    refine ax_iconst (v := (-1)) 13 dX8_cause_12 (by decide) rfl ?_
    exact ax_iret dX8_cause_13 hf
def f_X8_seen (S : ux_S) (p0 : Int32) : Option (Int32 × ux_S) :=
  ux_bi (f_X8_in S ((p0 : Int32).toInt64) 0 65535) (fun r3 S2 => if r3 = 0 then (some ((-1), S2)) else (some (S2.1 8 30, ux_i S2 8 30 p0)))
set_option maxHeartbeats 2000000 in
set_option maxRecDepth 10000 in
theorem m_X8_seen {l : Launch} {G : ux_G} {S : ux_S} {p0 : Int32} {r : Int32} {Z : ux_S} (hf : f_X8_seen S p0 = some (r, Z)) : ux_M l G yX8_seen cX8_seen 3 (some .int) 2 [.ref (ux_a G 8), .int p0] S (some (.int r)) Z := by
  refine ux_of (by decide) (Nat.le_of_ble_eq_true rfl) ?_
  show ux_At l G RX8 cX8_seen 3 (some .int) 2 (some (.int r)) Z 0 [(0, .ref (ux_a G 8)), (1, .int p0)] [] S
  unfold f_X8_seen at hf
  refine ax_iload_n 1 dX8_seen_0 rfl 1 rfl rfl ?_
  refine ax_i2l 2 dX8_seen_1 rfl ?_
  refine ax_lconst (v := 0) 3 dX8_seen_2 (by decide) rfl ?_
  refine ax_ldc2 6 dX8_seen_3 fc_X8_192 rfl ?_
  obtain ⟨r3, S2, e1, hf⟩ := ux_bi_e hf
  refine ax_callSi 9 [.long ((p0 : Int32).toInt64), .long 0, .long 65535] dX8_seen_6 fs_X8_102 (m_X8_in e1) (by decide) rfl rfl (Nat.le_of_ble_eq_true rfl) rfl ?_
  refine ax_if_ne 14 12 dX8_seen_9 (by decide) rfl (fun c4 => ?_) (fun c4 => ?_)
  · have hf := ux_iff c4 hf
    refine ax_aload_n 15 dX8_seen_14 rfl 0 rfl rfl ?_
    refine ax_geti 18 dX8_seen_15 fg_X8_197 rfl rfl ?_
    refine ax_istore_n 19 dX8_seen_18 rfl (by decide) [1, 2, 0] [(0, .ref (ux_a G 8)), (1, .int p0), (2, .int (S2.1 8 30))] rfl rfl ?_
    refine ax_aload_n 20 dX8_seen_19 rfl 0 rfl rfl ?_
    refine ax_iload_n 21 dX8_seen_20 rfl 1 rfl rfl ?_
    refine ax_put 24 dX8_seen_21 fp_X8_197 rfl ?_
    refine ax_iload_n 25 dX8_seen_24 rfl 2 rfl rfl ?_
    exact ax_iret dX8_seen_25 hf
  · have hf := ux_ift c4 hf
    refine ax_iconst (v := (-1)) 13 dX8_seen_12 (by decide) rfl ?_
    exact ax_iret dX8_seen_13 hf
def b_X8_roots_27 (n : Nat) (k8 : Int32 → Int32 → Int32 → ux_S → Option (Int32 × ux_S)) (k27 : Int32 → Int32 → Int32 → Int32 → Int32 → Int32 → ux_S → Option (Int32 × ux_S)) (x1 : Int32) (x2 : Int32) (x3 : Int32) (x4 : Int32) (x5 : Int32) (x6 : Int32) (S : ux_S) : Option (Int32 × ux_S) :=
  if S.1 8 28 ≤ x6 then (if x4 = S.1 8 30 then (if x2 ≤ x5 then (k8 x1 x2 (x3 + 1) S) else (k8 x3 x5 (x3 + 1) S)) else (k8 x1 x2 (x3 + 1) S)) else (if (x3 >>> (x6 &&& 31)) &&& (1 : Int32) = 1 then (ux_gd (ux_ib x6 10) (k27 x1 x2 x3 (x4 ||| (S.1 73 x6.toNatClampNeg)) (x5 + 1) (x6 + 1) S)) else (k27 x1 x2 x3 x4 x5 (x6 + 1) S))
set_option maxHeartbeats 2000000 in
set_option maxRecDepth 10000 in
theorem w_X8_roots_27 {l : Launch} {G : ux_G} {n : Nat} {r : Int32} {Z : ux_S} (k8 : Int32 → Int32 → Int32 → ux_S → Option (Int32 × ux_S)) (hk8 : ∀ (x1 x2 x3 : Int32) (S : ux_S), k8 x1 x2 x3 S = some (r, Z) → ux_At l G RX8 cX8_roots 7 (some .int) 1 (some (.int r)) Z 8 [(0, .ref (ux_a G 8)), (1, .int x1), (2, .int x2), (3, .int x3)] [] S) (k27 : Int32 → Int32 → Int32 → Int32 → Int32 → Int32 → ux_S → Option (Int32 × ux_S)) (hk27 : ∀ (x1 x2 x3 x4 x5 x6 : Int32) (S : ux_S), k27 x1 x2 x3 x4 x5 x6 S = some (r, Z) → ux_At l G RX8 cX8_roots 7 (some .int) 1 (some (.int r)) Z 27 [(0, .ref (ux_a G 8)), (1, .int x1), (2, .int x2), (3, .int x3), (4, .int x4), (5, .int x5), (6, .int x6)] [] S) : ∀ (x1 : Int32) (x2 : Int32) (x3 : Int32) (x4 : Int32) (x5 : Int32) (x6 : Int32) (S : ux_S), b_X8_roots_27 n k8 k27 x1 x2 x3 x4 x5 x6 S = some (r, Z) → ux_At l G RX8 cX8_roots 7 (some .int) 1 (some (.int r)) Z 27 [(0, .ref (ux_a G 8)), (1, .int x1), (2, .int x2), (3, .int x3), (4, .int x4), (5, .int x5), (6, .int x6)] [] S := by
  intro x1 x2 x3 x4 x5 x6 S hf
  unfold b_X8_roots_27 at hf
  refine ax_iload 29 dX8_roots_27 6 rfl rfl ?_
  refine ax_aload_n 30 dX8_roots_29 rfl 0 rfl rfl ?_
  refine ax_geti 33 dX8_roots_30 fg_X8_194 rfl rfl ?_
  refine ax_icmp_ge 67 36 dX8_roots_33 (by decide) rfl (fun c2 => ?_) (fun c2 => ?_)
  · have hf := ux_ift c2 hf
    refine ax_iload 69 dX8_roots_67 4 rfl rfl ?_
    refine ax_aload_n 70 dX8_roots_69 rfl 0 rfl rfl ?_
    refine ax_geti 73 dX8_roots_70 fg_X8_197 rfl rfl ?_
    refine ax_icmp_ne 87 76 dX8_roots_73 (by decide) rfl (fun c3 => ?_) (fun c3 => ?_)
    · have hf := ux_iff c3 hf
      refine ax_iinc (v := x3 + 1) 90 dX8_roots_87 3 rfl rfl (by decide) [1, 2, 3, 0] [(0, .ref (ux_a G 8)), (1, .int x1), (2, .int x2), (3, .int (x3 + 1))] rfl rfl ?_
      refine ax_goto 8 dX8_roots_90 (by decide) ?_
      exact ax_sub [0, 1, 2, 3] rfl (hk8 x1 x2 (x3 + 1) S hf)
    · have hf := ux_ift c3 hf
      refine ax_iload 78 dX8_roots_76 5 rfl rfl ?_
      refine ax_iload_n 79 dX8_roots_78 rfl 2 rfl rfl ?_
      refine ax_icmp_ge 87 82 dX8_roots_79 (by decide) rfl (fun c4 => ?_) (fun c4 => ?_)
      · have hf := ux_ift c4 hf
        refine ax_iinc (v := x3 + 1) 90 dX8_roots_87 3 rfl rfl (by decide) [1, 2, 3, 0] [(0, .ref (ux_a G 8)), (1, .int x1), (2, .int x2), (3, .int (x3 + 1))] rfl rfl ?_
        refine ax_goto 8 dX8_roots_90 (by decide) ?_
        exact ax_sub [0, 1, 2, 3] rfl (hk8 x1 x2 (x3 + 1) S hf)
      · have hf := ux_iff c4 hf
        refine ax_iload 84 dX8_roots_82 5 rfl rfl ?_
        refine ax_istore_n 85 dX8_roots_84 rfl (by decide) [1, 0, 3] [(0, .ref (ux_a G 8)), (2, .int x5), (3, .int x3)] rfl rfl ?_
        refine ax_iload_n 86 dX8_roots_85 rfl 2 rfl rfl ?_
        refine ax_istore_n 87 dX8_roots_86 rfl (by decide) [1, 0, 2, 3] [(0, .ref (ux_a G 8)), (1, .int x3), (2, .int x5), (3, .int x3)] rfl rfl ?_
        refine ax_iinc (v := x3 + 1) 90 dX8_roots_87 3 rfl rfl (by decide) [1, 2, 3, 0] [(0, .ref (ux_a G 8)), (1, .int x3), (2, .int x5), (3, .int (x3 + 1))] rfl rfl ?_
        refine ax_goto 8 dX8_roots_90 (by decide) ?_
        exact ax_sub [0, 1, 2, 3] rfl (hk8 x3 x5 (x3 + 1) S hf)
  · have hf := ux_iff c2 hf
    refine ax_iload_n 37 dX8_roots_36 rfl 3 rfl rfl ?_
    refine ax_iload 39 dX8_roots_37 6 rfl rfl ?_
    refine ax_ishr 40 dX8_roots_39 rfl ?_
    refine ax_iconst (v := 1) 41 dX8_roots_40 (by decide) rfl ?_
    refine ax_iand 42 dX8_roots_41 rfl ?_
    refine ax_iconst (v := 1) 43 dX8_roots_42 (by decide) rfl ?_
    refine ax_icmp_ne 61 46 dX8_roots_43 (by decide) rfl (fun c5 => ?_) (fun c5 => ?_)
    · have hf := ux_iff c5 hf
      refine ax_iinc (v := x6 + 1) 64 dX8_roots_61 6 rfl rfl (by decide) [1, 2, 3, 4, 5, 6, 0] [(0, .ref (ux_a G 8)), (1, .int x1), (2, .int x2), (3, .int x3), (4, .int x4), (5, .int x5), (6, .int (x6 + 1))] rfl rfl ?_
      refine ax_goto 27 dX8_roots_64 (by decide) ?_
      exact ax_sub [0, 1, 2, 3, 4, 5, 6] rfl (hk27 x1 x2 x3 x4 x5 (x6 + 1) S hf)
    · have hf := ux_ift c5 hf
      refine ax_iload 48 dX8_roots_46 4 rfl rfl ?_
      refine ax_aload_n 49 dX8_roots_48 rfl 0 rfl rfl ?_
      refine ax_getr 73 52 dX8_roots_49 fg_X8_82 rfl (by decide) rfl ?_
      refine ax_iload 54 dX8_roots_52 6 rfl rfl ?_
      obtain ⟨h6, hf⟩ := ux_gd_e hf
      refine ax_iald 55 dX8_roots_54 (by decide) rfl h6 rfl ?_
      refine ax_ior 56 dX8_roots_55 rfl ?_
      refine ax_istore 58 dX8_roots_56 (by decide) [1, 2, 3, 4, 0, 5, 6] [(0, .ref (ux_a G 8)), (1, .int x1), (2, .int x2), (3, .int x3), (4, .int (x4 ||| (S.1 73 x6.toNatClampNeg))), (5, .int x5), (6, .int x6)] rfl rfl ?_
      refine ax_iinc (v := x5 + 1) 61 dX8_roots_58 5 rfl rfl (by decide) [1, 2, 3, 4, 5, 0, 6] [(0, .ref (ux_a G 8)), (1, .int x1), (2, .int x2), (3, .int x3), (4, .int (x4 ||| (S.1 73 x6.toNatClampNeg))), (5, .int (x5 + 1)), (6, .int x6)] rfl rfl ?_
      refine ax_iinc (v := x6 + 1) 64 dX8_roots_61 6 rfl rfl (by decide) [1, 2, 3, 4, 5, 6, 0] [(0, .ref (ux_a G 8)), (1, .int x1), (2, .int x2), (3, .int x3), (4, .int (x4 ||| (S.1 73 x6.toNatClampNeg))), (5, .int (x5 + 1)), (6, .int (x6 + 1))] rfl rfl ?_
      refine ax_goto 27 dX8_roots_64 (by decide) ?_
      exact ax_sub [0, 1, 2, 3, 4, 5, 6] rfl (hk27 x1 x2 x3 (x4 ||| (S.1 73 x6.toNatClampNeg)) (x5 + 1) (x6 + 1) S hf)
def b_X8_roots_8 (n : Nat) (k8 : Int32 → Int32 → Int32 → ux_S → Option (Int32 × ux_S)) (x1 : Int32) (x2 : Int32) (x3 : Int32) (S : ux_S) : Option (Int32 × ux_S) :=
  if (1 : Int32) <<< ((S.1 8 28) &&& 31) ≤ x3 then (some (x1, S)) else (ux_lp6 (b_X8_roots_27 n k8) n x1 x2 x3 0 0 0 S)
set_option maxHeartbeats 2000000 in
set_option maxRecDepth 10000 in
theorem w_X8_roots_8 {l : Launch} {G : ux_G} {n : Nat} {r : Int32} {Z : ux_S} (k8 : Int32 → Int32 → Int32 → ux_S → Option (Int32 × ux_S)) (hk8 : ∀ (x1 x2 x3 : Int32) (S : ux_S), k8 x1 x2 x3 S = some (r, Z) → ux_At l G RX8 cX8_roots 7 (some .int) 1 (some (.int r)) Z 8 [(0, .ref (ux_a G 8)), (1, .int x1), (2, .int x2), (3, .int x3)] [] S) : ∀ (x1 : Int32) (x2 : Int32) (x3 : Int32) (S : ux_S), b_X8_roots_8 n k8 x1 x2 x3 S = some (r, Z) → ux_At l G RX8 cX8_roots 7 (some .int) 1 (some (.int r)) Z 8 [(0, .ref (ux_a G 8)), (1, .int x1), (2, .int x2), (3, .int x3)] [] S := by
  intro x1 x2 x3 S hf
  unfold b_X8_roots_8 at hf
  refine ax_iload_n 9 dX8_roots_8 rfl 3 rfl rfl ?_
  refine ax_iconst (v := 1) 10 dX8_roots_9 (by decide) rfl ?_
  refine ax_aload_n 11 dX8_roots_10 rfl 0 rfl rfl ?_
  refine ax_geti 14 dX8_roots_11 fg_X8_194 rfl rfl ?_
  refine ax_ishl 15 dX8_roots_14 rfl ?_
  refine ax_icmp_ge 93 18 dX8_roots_15 (by decide) rfl (fun c1 => ?_) (fun c1 => ?_)
  · have hf := ux_ift c1 hf
    refine ax_iload_n 94 dX8_roots_93 rfl 1 rfl rfl ?_
    exact ax_iret dX8_roots_94 hf
  · have hf := ux_iff c1 hf
    refine ax_iconst (v := 0) 19 dX8_roots_18 (by decide) rfl ?_
    refine ax_istore 21 dX8_roots_19 (by decide) [1, 2, 3, 4, 0] [(0, .ref (ux_a G 8)), (1, .int x1), (2, .int x2), (3, .int x3), (4, .int 0)] rfl rfl ?_
    refine ax_iconst (v := 0) 22 dX8_roots_21 (by decide) rfl ?_
    refine ax_istore 24 dX8_roots_22 (by decide) [1, 2, 3, 4, 5, 0] [(0, .ref (ux_a G 8)), (1, .int x1), (2, .int x2), (3, .int x3), (4, .int 0), (5, .int 0)] rfl rfl ?_
    refine ax_iconst (v := 0) 25 dX8_roots_24 (by decide) rfl ?_
    refine ax_istore 27 dX8_roots_25 (by decide) [1, 2, 3, 4, 5, 6, 0] [(0, .ref (ux_a G 8)), (1, .int x1), (2, .int x2), (3, .int x3), (4, .int 0), (5, .int 0), (6, .int 0)] rfl rfl ?_
    exact ax_sub [0, 1, 2, 3, 4, 5, 6] rfl (ux_lp6_w (Pr := fun x1 x2 x3 x4 x5 x6 S => ux_At l G RX8 cX8_roots 7 (some .int) 1 (some (.int r)) Z 27 [(0, .ref (ux_a G 8)), (1, .int x1), (2, .int x2), (3, .int x3), (4, .int x4), (5, .int x5), (6, .int x6)] [] S) (fun k27 hk27 => w_X8_roots_27 k8 hk8 k27 hk27) n x1 x2 x3 0 0 0 S hf)
def f_X8_roots (n : Nat) (S : ux_S) : Option (Int32 × ux_S) :=
  ux_lp3 (b_X8_roots_8 n) n (-4) 100 0 S
set_option maxHeartbeats 2000000 in
set_option maxRecDepth 10000 in
theorem m_X8_roots {l : Launch} {G : ux_G} {n : Nat} {S : ux_S} {r : Int32} {Z : ux_S} (hf : f_X8_roots n S = some (r, Z)) : ux_M l G yX8_roots cX8_roots 7 (some .int) 1 [.ref (ux_a G 8)] S (some (.int r)) Z := by
  refine ux_of (by decide) (Nat.le_of_ble_eq_true rfl) ?_
  show ux_At l G RX8 cX8_roots 7 (some .int) 1 (some (.int r)) Z 0 [(0, .ref (ux_a G 8))] [] S
  unfold f_X8_roots at hf
  refine ax_bipush (v := (-4)) 2 dX8_roots_0 (by decide) rfl ?_
  refine ax_istore_n 3 dX8_roots_2 rfl (by decide) [1, 0] [(0, .ref (ux_a G 8)), (1, .int (-4))] rfl rfl ?_
  refine ax_bipush (v := 100) 5 dX8_roots_3 (by decide) rfl ?_
  refine ax_istore_n 6 dX8_roots_5 rfl (by decide) [1, 2, 0] [(0, .ref (ux_a G 8)), (1, .int (-4)), (2, .int 100)] rfl rfl ?_
  refine ax_iconst (v := 0) 7 dX8_roots_6 (by decide) rfl ?_
  refine ax_istore_n 8 dX8_roots_7 rfl (by decide) [1, 2, 3, 0] [(0, .ref (ux_a G 8)), (1, .int (-4)), (2, .int 100), (3, .int 0)] rfl rfl ?_
  exact ax_sub [0, 1, 2, 3] rfl (ux_lp3_w (Pr := fun x1 x2 x3 S => ux_At l G RX8 cX8_roots 7 (some .int) 1 (some (.int r)) Z 8 [(0, .ref (ux_a G 8)), (1, .int x1), (2, .int x2), (3, .int x3)] [] S) (fun k8 hk8 => w_X8_roots_8 k8 hk8) n (-4) 100 0 S hf)
def b_X8_strange_7 (n : Nat) (k7 : Int32 → Int32 → ux_S → Option (Int32 × ux_S)) (x1 : Int32) (x2 : Int32) (S : ux_S) : Option (Int32 × ux_S) :=
  if S.1 8 28 ≤ x2 then (some (x1, S)) else (ux_gd (ux_ib x2 10) (if (S.1 73 x2.toNatClampNeg) &&& ((S.1 8 30) ^^^ ((-1) : Int32)) = 0 then (ux_gd (ux_ib x2 10) (k7 (x1 &&& ((S.1 73 x2.toNatClampNeg) ^^^ ((-1) : Int32))) (x2 + 1) S)) else (k7 x1 (x2 + 1) S)))
set_option maxHeartbeats 2000000 in
set_option maxRecDepth 10000 in
theorem w_X8_strange_7 {l : Launch} {G : ux_G} {n : Nat} {r : Int32} {Z : ux_S} (k7 : Int32 → Int32 → ux_S → Option (Int32 × ux_S)) (hk7 : ∀ (x1 x2 : Int32) (S : ux_S), k7 x1 x2 S = some (r, Z) → ux_At l G RX8 cX8_strange 3 (some .int) 1 (some (.int r)) Z 7 [(0, .ref (ux_a G 8)), (1, .int x1), (2, .int x2)] [] S) : ∀ (x1 : Int32) (x2 : Int32) (S : ux_S), b_X8_strange_7 n k7 x1 x2 S = some (r, Z) → ux_At l G RX8 cX8_strange 3 (some .int) 1 (some (.int r)) Z 7 [(0, .ref (ux_a G 8)), (1, .int x1), (2, .int x2)] [] S := by
  intro x1 x2 S hf
  unfold b_X8_strange_7 at hf
  refine ax_iload_n 8 dX8_strange_7 rfl 2 rfl rfl ?_
  refine ax_aload_n 9 dX8_strange_8 rfl 0 rfl rfl ?_
  refine ax_geti 12 dX8_strange_9 fg_X8_194 rfl rfl ?_
  refine ax_icmp_ge 52 15 dX8_strange_12 (by decide) rfl (fun c1 => ?_) (fun c1 => ?_)
  · have hf := ux_ift c1 hf
    refine ax_iload_n 53 dX8_strange_52 rfl 1 rfl rfl ?_
    exact ax_iret dX8_strange_53 hf
  · have hf := ux_iff c1 hf
    refine ax_aload_n 16 dX8_strange_15 rfl 0 rfl rfl ?_
    refine ax_getr 73 19 dX8_strange_16 fg_X8_82 rfl (by decide) rfl ?_
    refine ax_iload_n 20 dX8_strange_19 rfl 2 rfl rfl ?_
    obtain ⟨h2, hf⟩ := ux_gd_e hf
    refine ax_iald 21 dX8_strange_20 (by decide) rfl h2 rfl ?_
    refine ax_aload_n 22 dX8_strange_21 rfl 0 rfl rfl ?_
    refine ax_geti 25 dX8_strange_22 fg_X8_197 rfl rfl ?_
    refine ax_iconst (v := (-1)) 26 dX8_strange_25 (by decide) rfl ?_
    refine ax_ixor 27 dX8_strange_26 rfl ?_
    refine ax_iand 28 dX8_strange_27 rfl ?_
    refine ax_if_ne 44 31 dX8_strange_28 (by decide) rfl (fun c3 => ?_) (fun c3 => ?_)
    · have hf := ux_iff c3 hf
      refine ax_iload_n 45 dX8_strange_44 rfl 1 rfl rfl ?_
      refine ax_istore_n 46 dX8_strange_45 rfl (by decide) [1, 0, 2] [(0, .ref (ux_a G 8)), (1, .int x1), (2, .int x2)] rfl rfl ?_
      refine ax_iinc (v := x2 + 1) 49 dX8_strange_46 2 rfl rfl (by decide) [1, 2, 0] [(0, .ref (ux_a G 8)), (1, .int x1), (2, .int (x2 + 1))] rfl rfl ?_
      refine ax_goto 7 dX8_strange_49 (by decide) ?_
      exact ax_sub [0, 1, 2] rfl (hk7 x1 (x2 + 1) S hf)
    · have hf := ux_ift c3 hf
      refine ax_iload_n 32 dX8_strange_31 rfl 1 rfl rfl ?_
      refine ax_aload_n 33 dX8_strange_32 rfl 0 rfl rfl ?_
      refine ax_getr 73 36 dX8_strange_33 fg_X8_82 rfl (by decide) rfl ?_
      refine ax_iload_n 37 dX8_strange_36 rfl 2 rfl rfl ?_
      obtain ⟨h4, hf⟩ := ux_gd_e hf
      refine ax_iald 38 dX8_strange_37 (by decide) rfl h4 rfl ?_
      refine ax_iconst (v := (-1)) 39 dX8_strange_38 (by decide) rfl ?_
      refine ax_ixor 40 dX8_strange_39 rfl ?_
      refine ax_iand 41 dX8_strange_40 rfl ?_
      refine ax_goto 45 dX8_strange_41 (by decide) ?_
      refine ax_istore_n 46 dX8_strange_45 rfl (by decide) [1, 0, 2] [(0, .ref (ux_a G 8)), (1, .int (x1 &&& ((S.1 73 x2.toNatClampNeg) ^^^ ((-1) : Int32)))), (2, .int x2)] rfl rfl ?_
      refine ax_iinc (v := x2 + 1) 49 dX8_strange_46 2 rfl rfl (by decide) [1, 2, 0] [(0, .ref (ux_a G 8)), (1, .int (x1 &&& ((S.1 73 x2.toNatClampNeg) ^^^ ((-1) : Int32)))), (2, .int (x2 + 1))] rfl rfl ?_
      refine ax_goto 7 dX8_strange_49 (by decide) ?_
      exact ax_sub [0, 1, 2] rfl (hk7 (x1 &&& ((S.1 73 x2.toNatClampNeg) ^^^ ((-1) : Int32))) (x2 + 1) S hf)
def f_X8_strange (n : Nat) (S : ux_S) : Option (Int32 × ux_S) :=
  ux_lp2 (b_X8_strange_7 n) n (S.1 8 30) 0 S
set_option maxHeartbeats 2000000 in
set_option maxRecDepth 10000 in
theorem m_X8_strange {l : Launch} {G : ux_G} {n : Nat} {S : ux_S} {r : Int32} {Z : ux_S} (hf : f_X8_strange n S = some (r, Z)) : ux_M l G yX8_strange cX8_strange 3 (some .int) 1 [.ref (ux_a G 8)] S (some (.int r)) Z := by
  refine ux_of (by decide) (Nat.le_of_ble_eq_true rfl) ?_
  show ux_At l G RX8 cX8_strange 3 (some .int) 1 (some (.int r)) Z 0 [(0, .ref (ux_a G 8))] [] S
  unfold f_X8_strange at hf
  refine ax_aload_n 1 dX8_strange_0 rfl 0 rfl rfl ?_
  refine ax_geti 4 dX8_strange_1 fg_X8_197 rfl rfl ?_
  refine ax_istore_n 5 dX8_strange_4 rfl (by decide) [1, 0] [(0, .ref (ux_a G 8)), (1, .int (S.1 8 30))] rfl rfl ?_
  refine ax_iconst (v := 0) 6 dX8_strange_5 (by decide) rfl ?_
  refine ax_istore_n 7 dX8_strange_6 rfl (by decide) [1, 2, 0] [(0, .ref (ux_a G 8)), (1, .int (S.1 8 30)), (2, .int 0)] rfl rfl ?_
  exact ax_sub [0, 1, 2] rfl (ux_lp2_w (Pr := fun x1 x2 S => ux_At l G RX8 cX8_strange 3 (some .int) 1 (some (.int r)) Z 7 [(0, .ref (ux_a G 8)), (1, .int x1), (2, .int x2)] [] S) (fun k7 hk7 => w_X8_strange_7 k7 hk7) n (S.1 8 30) 0 S hf)
def b_X8_meter_24 (n : Nat) (p0 : Int32) (S : ux_S) : Option (Int32 × ux_S) :=
  if S.1 8 31 = 12 then (some ((-3), S)) else (ux_gd (ux_ib (S.1 8 31) 12) (ux_gd (ux_ib ((ux_i S 74 (S.1 8 31).toNatClampNeg p0).1 8 31) 12) (some (((ux_i (ux_i (ux_i S 74 (S.1 8 31).toNatClampNeg p0) 75 ((ux_i S 74 (S.1 8 31).toNatClampNeg p0).1 8 31).toNatClampNeg (vp_nar .boolean 0)) 8 31 (((ux_i (ux_i S 74 (S.1 8 31).toNatClampNeg p0) 75 ((ux_i S 74 (S.1 8 31).toNatClampNeg p0).1 8 31).toNatClampNeg (vp_nar .boolean 0)).1 8 31) + (1 : Int32))).1 8 31) - (1 : Int32), ux_i (ux_i (ux_i S 74 (S.1 8 31).toNatClampNeg p0) 75 ((ux_i S 74 (S.1 8 31).toNatClampNeg p0).1 8 31).toNatClampNeg (vp_nar .boolean 0)) 8 31 (((ux_i (ux_i S 74 (S.1 8 31).toNatClampNeg p0) 75 ((ux_i S 74 (S.1 8 31).toNatClampNeg p0).1 8 31).toNatClampNeg (vp_nar .boolean 0)).1 8 31) + (1 : Int32))))))
set_option maxHeartbeats 2000000 in
set_option maxRecDepth 10000 in
theorem w_X8_meter_24 {l : Launch} {G : ux_G} {n : Nat} {p0 : Int32} {r : Int32} {Z : ux_S} : ∀ (S : ux_S), b_X8_meter_24 n p0  S = some (r, Z) → ux_At l G RX8 cX8_meter 2 (some .int) 2 (some (.int r)) Z 24 [(0, .ref (ux_a G 8)), (1, .int p0)] [] S := by
  intro  S hf
  unfold b_X8_meter_24 at hf
  refine ax_aload_n 25 dX8_meter_24 rfl 0 rfl rfl ?_
  refine ax_geti 28 dX8_meter_25 fg_X8_200 rfl rfl ?_
  refine ax_bipush (v := 12) 30 dX8_meter_28 (by decide) rfl ?_
  refine ax_icmp_ne 36 33 dX8_meter_30 (by decide) rfl (fun c2 => ?_) (fun c2 => ?_)
  · have hf := ux_iff c2 hf
    refine ax_aload_n 37 dX8_meter_36 rfl 0 rfl rfl ?_
    refine ax_getr 74 40 dX8_meter_37 fg_X8_85 rfl (by decide) rfl ?_
    refine ax_aload_n 41 dX8_meter_40 rfl 0 rfl rfl ?_
    refine ax_geti 44 dX8_meter_41 fg_X8_200 rfl rfl ?_
    refine ax_iload_n 45 dX8_meter_44 rfl 1 rfl rfl ?_
    obtain ⟨h3, hf⟩ := ux_gd_e hf
    refine ax_iast 46 dX8_meter_45 (by decide) rfl h3 rfl ?_
    refine ax_aload_n 47 dX8_meter_46 rfl 0 rfl rfl ?_
    refine ax_getr 75 50 dX8_meter_47 fg_X8_88 rfl (by decide) rfl ?_
    refine ax_aload_n 51 dX8_meter_50 rfl 0 rfl rfl ?_
    refine ax_geti 54 dX8_meter_51 fg_X8_200 rfl rfl ?_
    refine ax_iconst (v := 0) 55 dX8_meter_54 (by decide) rfl ?_
    obtain ⟨h4, hf⟩ := ux_gd_e hf
    refine ax_zast 56 dX8_meter_55 (by decide) rfl h4 rfl ?_
    refine ax_aload_n 57 dX8_meter_56 rfl 0 rfl rfl ?_
    refine ax_dup 58 dX8_meter_57 rfl rfl ?_
    refine ax_geti 61 dX8_meter_58 fg_X8_200 rfl rfl ?_
    refine ax_iconst (v := 1) 62 dX8_meter_61 (by decide) rfl ?_
    refine ax_iadd 63 dX8_meter_62 rfl ?_
    refine ax_put 66 dX8_meter_63 fp_X8_200 rfl ?_
    refine ax_aload_n 67 dX8_meter_66 rfl 0 rfl rfl ?_
    refine ax_geti 70 dX8_meter_67 fg_X8_200 rfl rfl ?_
    refine ax_iconst (v := 1) 71 dX8_meter_70 (by decide) rfl ?_
    refine ax_isub 72 dX8_meter_71 rfl ?_
    exact ax_iret dX8_meter_72 hf
  · have hf := ux_ift c2 hf
    refine ax_bipush (v := (-3)) 35 dX8_meter_33 (by decide) rfl ?_
    exact ax_iret dX8_meter_35 hf
def f_X8_meter (n : Nat) (S : ux_S) (p0 : Int32) : Option (Int32 × ux_S) :=
  if p0 = (-4) then (b_X8_meter_24 n p0 S) else (ux_bi (f_X8_in S ((p0 : Int32).toInt64) 0 (((S.1 8 31) - (1 : Int32) : Int32).toInt64)) (fun r7 S6 => if r7 = 0 then (some ((-1), S6)) else (b_X8_meter_24 n p0 S6)))
set_option maxHeartbeats 2000000 in
set_option maxRecDepth 10000 in
theorem m_X8_meter {l : Launch} {G : ux_G} {n : Nat} {S : ux_S} {p0 : Int32} {r : Int32} {Z : ux_S} (hf : f_X8_meter n S p0 = some (r, Z)) : ux_M l G yX8_meter cX8_meter 2 (some .int) 2 [.ref (ux_a G 8), .int p0] S (some (.int r)) Z := by
  refine ux_of (by decide) (Nat.le_of_ble_eq_true rfl) ?_
  show ux_At l G RX8 cX8_meter 2 (some .int) 2 (some (.int r)) Z 0 [(0, .ref (ux_a G 8)), (1, .int p0)] [] S
  unfold f_X8_meter at hf
  refine ax_iload_n 1 dX8_meter_0 rfl 1 rfl rfl ?_
  refine ax_bipush (v := (-4)) 3 dX8_meter_1 (by decide) rfl ?_
  refine ax_icmp_eq 24 6 dX8_meter_3 (by decide) rfl (fun c1 => ?_) (fun c1 => ?_)
  · have hf := ux_ift c1 hf
    exact ax_sub [0, 1] rfl (w_X8_meter_24 S hf)
  · have hf := ux_iff c1 hf
    refine ax_iload_n 7 dX8_meter_6 rfl 1 rfl rfl ?_
    refine ax_i2l 8 dX8_meter_7 rfl ?_
    refine ax_lconst (v := 0) 9 dX8_meter_8 (by decide) rfl ?_
    refine ax_aload_n 10 dX8_meter_9 rfl 0 rfl rfl ?_
    refine ax_geti 13 dX8_meter_10 fg_X8_200 rfl rfl ?_
    refine ax_iconst (v := 1) 14 dX8_meter_13 (by decide) rfl ?_
    refine ax_isub 15 dX8_meter_14 rfl ?_
    refine ax_i2l 16 dX8_meter_15 rfl ?_
    obtain ⟨r7, S6, e5, hf⟩ := ux_bi_e hf
    refine ax_callSi 19 [.long ((p0 : Int32).toInt64), .long 0, .long (((S.1 8 31) - (1 : Int32) : Int32).toInt64)] dX8_meter_16 fs_X8_102 (m_X8_in e5) (by decide) rfl rfl (Nat.le_of_ble_eq_true rfl) rfl ?_
    refine ax_if_ne 24 22 dX8_meter_19 (by decide) rfl (fun c8 => ?_) (fun c8 => ?_)
    · have hf := ux_iff c8 hf
      exact ax_sub [0, 1] rfl (w_X8_meter_24 S6 hf)
    · have hf := ux_ift c8 hf
      refine ax_iconst (v := (-1)) 23 dX8_meter_22 (by decide) rfl ?_
      exact ax_iret dX8_meter_23 hf
def f_X8_isMeter (S : ux_S) (p0 : Int32) : Option (Int32 × ux_S) :=
  ux_bi (f_X8_in S ((p0 : Int32).toInt64) 0 (((S.1 8 31) - (1 : Int32) : Int32).toInt64)) (fun r3 S2 => ux_gd (ux_zb r3) (some (r3, S2)))
set_option maxHeartbeats 2000000 in
set_option maxRecDepth 10000 in
theorem m_X8_isMeter {l : Launch} {G : ux_G} {S : ux_S} {p0 : Int32} {r : Int32} {Z : ux_S} (hf : f_X8_isMeter S p0 = some (r, Z)) : ux_M l G yX8_isMeter cX8_isMeter 2 (some .boolean) 2 [.ref (ux_a G 8), .int p0] S (some (.int r)) Z := by
  refine ux_of (by decide) (Nat.le_of_ble_eq_true rfl) ?_
  show ux_At l G RX8 cX8_isMeter 2 (some .boolean) 2 (some (.int r)) Z 0 [(0, .ref (ux_a G 8)), (1, .int p0)] [] S
  unfold f_X8_isMeter at hf
  refine ax_iload_n 1 dX8_isMeter_0 rfl 1 rfl rfl ?_
  refine ax_i2l 2 dX8_isMeter_1 rfl ?_
  refine ax_lconst (v := 0) 3 dX8_isMeter_2 (by decide) rfl ?_
  refine ax_aload_n 4 dX8_isMeter_3 rfl 0 rfl rfl ?_
  refine ax_geti 7 dX8_isMeter_4 fg_X8_200 rfl rfl ?_
  refine ax_iconst (v := 1) 8 dX8_isMeter_7 (by decide) rfl ?_
  refine ax_isub 9 dX8_isMeter_8 rfl ?_
  refine ax_i2l 10 dX8_isMeter_9 rfl ?_
  obtain ⟨r3, S2, e1, hf⟩ := ux_bi_e hf
  refine ax_callSi 13 [.long ((p0 : Int32).toInt64), .long 0, .long (((S.1 8 31) - (1 : Int32) : Int32).toInt64)] dX8_isMeter_10 fs_X8_102 (m_X8_in e1) (by decide) rfl rfl (Nat.le_of_ble_eq_true rfl) rfl ?_
  obtain ⟨h4, hf⟩ := ux_gd_e hf
  exact ax_zret dX8_isMeter_13 (ux_zb_of h4) hf
def f_X8_reads (S : ux_S) (p0 : Int32) (p1 : Int32) : Option (Int32 × ux_S) :=
  ux_bi (f_X8_isMeter S p0) (fun r3 S2 => if r3 = 0 then (some ((-1), S2)) else (ux_bi (f_X8_in S2 ((p1 : Int32).toInt64) (-100000) 100000) (fun r7 S6 => if r7 = 0 then (some ((-1), S6)) else (ux_gd (ux_ib p0 12) (ux_gd (ux_ib p0 12) (some (1, ux_i (ux_i S6 75 p0.toNatClampNeg (vp_nar .boolean 1)) 76 p0.toNatClampNeg p1)))))))
set_option maxHeartbeats 2000000 in
set_option maxRecDepth 10000 in
theorem m_X8_reads {l : Launch} {G : ux_G} {S : ux_S} {p0 : Int32} {p1 : Int32} {r : Int32} {Z : ux_S} (hf : f_X8_reads S p0 p1 = some (r, Z)) : ux_M l G yX8_reads cX8_reads 3 (some .int) 3 [.ref (ux_a G 8), .int p0, .int p1] S (some (.int r)) Z := by
  refine ux_of (by decide) (Nat.le_of_ble_eq_true rfl) ?_
  show ux_At l G RX8 cX8_reads 3 (some .int) 3 (some (.int r)) Z 0 [(0, .ref (ux_a G 8)), (1, .int p0), (2, .int p1)] [] S
  unfold f_X8_reads at hf
  refine ax_aload_n 1 dX8_reads_0 rfl 0 rfl rfl ?_
  refine ax_iload_n 2 dX8_reads_1 rfl 1 rfl rfl ?_
  obtain ⟨r3, S2, e1, hf⟩ := ux_bi_e hf
  refine ax_callVi 5 [.int p0] dX8_reads_2 fv_X8_203 (m_X8_isMeter e1) (by decide) rfl rfl (by decide) rfl rfl (Nat.le_of_ble_eq_true rfl) rfl ?_
  refine ax_if_eq 22 8 dX8_reads_5 (by decide) rfl (fun c4 => ?_) (fun c4 => ?_)
  · have hf := ux_ift c4 hf
    refine ax_iconst (v := (-1)) 23 dX8_reads_22 (by decide) rfl ?_
    exact ax_iret dX8_reads_23 hf
  · have hf := ux_iff c4 hf
    refine ax_iload_n 9 dX8_reads_8 rfl 2 rfl rfl ?_
    refine ax_i2l 10 dX8_reads_9 rfl ?_
    refine ax_ldc2 13 dX8_reads_10 fc_X8_206 rfl ?_
    refine ax_ldc2 16 dX8_reads_13 fc_X8_208 rfl ?_
    obtain ⟨r7, S6, e5, hf⟩ := ux_bi_e hf
    refine ax_callSi 19 [.long ((p1 : Int32).toInt64), .long (-100000), .long 100000] dX8_reads_16 fs_X8_102 (m_X8_in e5) (by decide) rfl rfl (Nat.le_of_ble_eq_true rfl) rfl ?_
    refine ax_if_ne 24 22 dX8_reads_19 (by decide) rfl (fun c8 => ?_) (fun c8 => ?_)
    · have hf := ux_iff c8 hf
      refine ax_aload_n 25 dX8_reads_24 rfl 0 rfl rfl ?_
      refine ax_getr 75 28 dX8_reads_25 fg_X8_88 rfl (by decide) rfl ?_
      refine ax_iload_n 29 dX8_reads_28 rfl 1 rfl rfl ?_
      refine ax_iconst (v := 1) 30 dX8_reads_29 (by decide) rfl ?_
      obtain ⟨h9, hf⟩ := ux_gd_e hf
      refine ax_zast 31 dX8_reads_30 (by decide) rfl h9 rfl ?_
      refine ax_aload_n 32 dX8_reads_31 rfl 0 rfl rfl ?_
      refine ax_getr 76 35 dX8_reads_32 fg_X8_91 rfl (by decide) rfl ?_
      refine ax_iload_n 36 dX8_reads_35 rfl 1 rfl rfl ?_
      refine ax_iload_n 37 dX8_reads_36 rfl 2 rfl rfl ?_
      obtain ⟨h10, hf⟩ := ux_gd_e hf
      refine ax_iast 38 dX8_reads_37 (by decide) rfl h10 rfl ?_
      refine ax_iconst (v := 1) 39 dX8_reads_38 (by decide) rfl ?_
      exact ax_iret dX8_reads_39 hf
    · have hf := ux_ift c8 hf
      refine ax_iconst (v := (-1)) 23 dX8_reads_22 (by decide) rfl ?_
      exact ax_iret dX8_reads_23 hf
def b_X8_loses_24 (n : Nat) (p0 : Int32) (t0 : Int32) (S : ux_S) : Option (Int32 × ux_S) :=
  ux_gd (ux_ib p0 12) (some (t0, ux_i S 75 p0.toNatClampNeg (vp_nar .boolean 0)))
set_option maxHeartbeats 2000000 in
set_option maxRecDepth 10000 in
theorem w_X8_loses_24 {l : Launch} {G : ux_G} {n : Nat} {p0 : Int32} {r : Int32} {Z : ux_S} : ∀ (t0 : Int32) (S : ux_S), b_X8_loses_24 n p0 t0 S = some (r, Z) → ux_At l G RX8 cX8_loses 3 (some .int) 3 (some (.int r)) Z 24 [(0, .ref (ux_a G 8)), (1, .int p0)] [.int t0] S := by
  intro t0 S hf
  unfold b_X8_loses_24 at hf
  refine ax_istore_n 25 dX8_loses_24 rfl (by decide) [1, 2, 0] [(0, .ref (ux_a G 8)), (1, .int p0), (2, .int t0)] rfl rfl ?_
  refine ax_aload_n 26 dX8_loses_25 rfl 0 rfl rfl ?_
  refine ax_getr 75 29 dX8_loses_26 fg_X8_88 rfl (by decide) rfl ?_
  refine ax_iload_n 30 dX8_loses_29 rfl 1 rfl rfl ?_
  refine ax_iconst (v := 0) 31 dX8_loses_30 (by decide) rfl ?_
  obtain ⟨h7, hf⟩ := ux_gd_e hf
  refine ax_zast 32 dX8_loses_31 (by decide) rfl h7 rfl ?_
  refine ax_iload_n 33 dX8_loses_32 rfl 2 rfl rfl ?_
  exact ax_iret dX8_loses_33 hf
def f_X8_loses (n : Nat) (S : ux_S) (p0 : Int32) : Option (Int32 × ux_S) :=
  ux_bi (f_X8_isMeter S p0) (fun r3 S2 => if r3 = 0 then (some ((-1), S2)) else (ux_gd (ux_ib p0 12) (if S2.1 75 p0.toNatClampNeg = 0 then (b_X8_loses_24 n p0 0 S2) else (b_X8_loses_24 n p0 1 S2))))
set_option maxHeartbeats 2000000 in
set_option maxRecDepth 10000 in
theorem m_X8_loses {l : Launch} {G : ux_G} {n : Nat} {S : ux_S} {p0 : Int32} {r : Int32} {Z : ux_S} (hf : f_X8_loses n S p0 = some (r, Z)) : ux_M l G yX8_loses cX8_loses 3 (some .int) 3 [.ref (ux_a G 8), .int p0] S (some (.int r)) Z := by
  refine ux_of (by decide) (Nat.le_of_ble_eq_true rfl) ?_
  show ux_At l G RX8 cX8_loses 3 (some .int) 3 (some (.int r)) Z 0 [(0, .ref (ux_a G 8)), (1, .int p0)] [] S
  unfold f_X8_loses at hf
  refine ax_aload_n 1 dX8_loses_0 rfl 0 rfl rfl ?_
  refine ax_iload_n 2 dX8_loses_1 rfl 1 rfl rfl ?_
  obtain ⟨r3, S2, e1, hf⟩ := ux_bi_e hf
  refine ax_callVi 5 [.int p0] dX8_loses_2 fv_X8_203 (m_X8_isMeter e1) (by decide) rfl rfl (by decide) rfl rfl (Nat.le_of_ble_eq_true rfl) rfl ?_
  refine ax_if_ne 10 8 dX8_loses_5 (by decide) rfl (fun c4 => ?_) (fun c4 => ?_)
  · have hf := ux_iff c4 hf
    refine ax_aload_n 11 dX8_loses_10 rfl 0 rfl rfl ?_
    refine ax_getr 75 14 dX8_loses_11 fg_X8_88 rfl (by decide) rfl ?_
    refine ax_iload_n 15 dX8_loses_14 rfl 1 rfl rfl ?_
    obtain ⟨h5, hf⟩ := ux_gd_e hf
    refine ax_zald 16 dX8_loses_15 (by decide) rfl h5 rfl ?_
    refine ax_if_eq 23 19 dX8_loses_16 (by decide) rfl (fun c6 => ?_) (fun c6 => ?_)
    · have hf := ux_ift c6 hf
      refine ax_iconst (v := 0) 24 dX8_loses_23 (by decide) rfl ?_
      exact ax_sub [0, 1] rfl (w_X8_loses_24 0 S2 hf)
    · have hf := ux_iff c6 hf
      refine ax_iconst (v := 1) 20 dX8_loses_19 (by decide) rfl ?_
      refine ax_goto 24 dX8_loses_20 (by decide) ?_
      exact ax_sub [0, 1] rfl (w_X8_loses_24 1 S2 hf)
  · have hf := ux_ift c4 hf
    refine ax_iconst (v := (-1)) 9 dX8_loses_8 (by decide) rfl ?_
    exact ax_iret dX8_loses_9 hf
def b_X8_areKnown_63 (n : Nat) (p0 : Int32) (p1 : Int32) (p2 : Int32) (k14 : Int32 → Int32 → Int32 → ux_S → Option (Int32 × ux_S)) (x5 : Int32) (x6 : Int32) (t0 : Int32) (S : ux_S) : Option (Int32 × ux_S) :=
  ux_gd (ux_ib x6 12) (if S.1 77 x6.toNatClampNeg = 0 then (k14 t0 x5 (x6 + 1) (ux_i S 8 37 ((S.1 8 37) + (0 : Int32)))) else (ux_gd (ux_ib x6 12) (k14 t0 x5 (x6 + 1) (ux_i S 8 37 ((S.1 8 37) + (S.1 78 x6.toNatClampNeg))))))
set_option maxHeartbeats 2000000 in
set_option maxRecDepth 10000 in
theorem w_X8_areKnown_63 {l : Launch} {G : ux_G} {n : Nat} {p0 : Int32} {p1 : Int32} {p2 : Int32} {r : Int32} {Z : ux_S} (k14 : Int32 → Int32 → Int32 → ux_S → Option (Int32 × ux_S)) (hk14 : ∀ (x4 x5 x6 : Int32) (S : ux_S), k14 x4 x5 x6 S = some (r, Z) → ux_At l G RX8 cX8_areKnown 7 (some .boolean) 1 (some (.int r)) Z 14 [(0, .ref (ux_a G 8)), (1, .int p0), (2, .int p1), (3, .int p2), (4, .int x4), (5, .int x5), (6, .int x6)] [] S) : ∀ (x5 : Int32) (x6 : Int32) (t0 : Int32) (S : ux_S), b_X8_areKnown_63 n p0 p1 p2 k14 x5 x6 t0 S = some (r, Z) → ux_At l G RX8 cX8_areKnown 7 (some .boolean) 1 (some (.int r)) Z 63 [(0, .ref (ux_a G 8)), (1, .int p0), (2, .int p1), (3, .int p2), (5, .int x5), (6, .int x6)] [.int t0] S := by
  intro x5 x6 t0 S hf
  unfold b_X8_areKnown_63 at hf
  refine ax_istore 65 dX8_areKnown_63 (by decide) [1, 2, 3, 4, 0, 5, 6] [(0, .ref (ux_a G 8)), (1, .int p0), (2, .int p1), (3, .int p2), (4, .int t0), (5, .int x5), (6, .int x6)] rfl rfl ?_
  refine ax_aload_n 66 dX8_areKnown_65 rfl 0 rfl rfl ?_
  refine ax_dup 67 dX8_areKnown_66 rfl rfl ?_
  refine ax_geti 70 dX8_areKnown_67 fg_X8_210 rfl rfl ?_
  refine ax_aload_n 71 dX8_areKnown_70 rfl 0 rfl rfl ?_
  refine ax_getr 77 74 dX8_areKnown_71 fg_X8_94 rfl (by decide) rfl ?_
  refine ax_iload 76 dX8_areKnown_74 6 rfl rfl ?_
  obtain ⟨h8, hf⟩ := ux_gd_e hf
  refine ax_zald 77 dX8_areKnown_76 (by decide) rfl h8 rfl ?_
  refine ax_if_eq 90 80 dX8_areKnown_77 (by decide) rfl (fun c9 => ?_) (fun c9 => ?_)
  · have hf := ux_ift c9 hf
    refine ax_iconst (v := 0) 91 dX8_areKnown_90 (by decide) rfl ?_
    refine ax_iadd 92 dX8_areKnown_91 rfl ?_
    refine ax_put 95 dX8_areKnown_92 fp_X8_210 rfl ?_
    refine ax_iinc (v := x6 + 1) 98 dX8_areKnown_95 6 rfl rfl (by decide) [1, 2, 3, 4, 5, 6, 0] [(0, .ref (ux_a G 8)), (1, .int p0), (2, .int p1), (3, .int p2), (4, .int t0), (5, .int x5), (6, .int (x6 + 1))] rfl rfl ?_
    refine ax_goto 14 dX8_areKnown_98 (by decide) ?_
    exact ax_sub [0, 1, 2, 3, 4, 5, 6] rfl (hk14 t0 x5 (x6 + 1) (ux_i S 8 37 ((S.1 8 37) + (0 : Int32))) hf)
  · have hf := ux_iff c9 hf
    refine ax_aload_n 81 dX8_areKnown_80 rfl 0 rfl rfl ?_
    refine ax_getr 78 84 dX8_areKnown_81 fg_X8_97 rfl (by decide) rfl ?_
    refine ax_iload 86 dX8_areKnown_84 6 rfl rfl ?_
    obtain ⟨h10, hf⟩ := ux_gd_e hf
    refine ax_iald 87 dX8_areKnown_86 (by decide) rfl h10 rfl ?_
    refine ax_goto 91 dX8_areKnown_87 (by decide) ?_
    refine ax_iadd 92 dX8_areKnown_91 rfl ?_
    refine ax_put 95 dX8_areKnown_92 fp_X8_210 rfl ?_
    refine ax_iinc (v := x6 + 1) 98 dX8_areKnown_95 6 rfl rfl (by decide) [1, 2, 3, 4, 5, 6, 0] [(0, .ref (ux_a G 8)), (1, .int p0), (2, .int p1), (3, .int p2), (4, .int t0), (5, .int x5), (6, .int (x6 + 1))] rfl rfl ?_
    refine ax_goto 14 dX8_areKnown_98 (by decide) ?_
    exact ax_sub [0, 1, 2, 3, 4, 5, 6] rfl (hk14 t0 x5 (x6 + 1) (ux_i S 8 37 ((S.1 8 37) + (S.1 78 x6.toNatClampNeg))) hf)
def b_X8_areKnown_62 (n : Nat) (p0 : Int32) (p1 : Int32) (p2 : Int32) (k14 : Int32 → Int32 → Int32 → ux_S → Option (Int32 × ux_S)) (x5 : Int32) (x6 : Int32) (S : ux_S) : Option (Int32 × ux_S) :=
  b_X8_areKnown_63 n p0 p1 p2 k14 x5 x6 0 S
set_option maxHeartbeats 2000000 in
set_option maxRecDepth 10000 in
theorem w_X8_areKnown_62 {l : Launch} {G : ux_G} {n : Nat} {p0 : Int32} {p1 : Int32} {p2 : Int32} {r : Int32} {Z : ux_S} (k14 : Int32 → Int32 → Int32 → ux_S → Option (Int32 × ux_S)) (hk14 : ∀ (x4 x5 x6 : Int32) (S : ux_S), k14 x4 x5 x6 S = some (r, Z) → ux_At l G RX8 cX8_areKnown 7 (some .boolean) 1 (some (.int r)) Z 14 [(0, .ref (ux_a G 8)), (1, .int p0), (2, .int p1), (3, .int p2), (4, .int x4), (5, .int x5), (6, .int x6)] [] S) : ∀ (x5 : Int32) (x6 : Int32) (S : ux_S), b_X8_areKnown_62 n p0 p1 p2 k14 x5 x6 S = some (r, Z) → ux_At l G RX8 cX8_areKnown 7 (some .boolean) 1 (some (.int r)) Z 62 [(0, .ref (ux_a G 8)), (1, .int p0), (2, .int p1), (3, .int p2), (5, .int x5), (6, .int x6)] [] S := by
  intro x5 x6 S hf
  unfold b_X8_areKnown_62 at hf
  refine ax_iconst (v := 0) 63 dX8_areKnown_62 (by decide) rfl ?_
  exact ax_sub [0, 1, 2, 3, 4, 5] rfl (w_X8_areKnown_63 k14 hk14 x5 x6 0 S hf)
def b_X8_areKnown_14 (n : Nat) (p0 : Int32) (p1 : Int32) (p2 : Int32) (k14 : Int32 → Int32 → Int32 → ux_S → Option (Int32 × ux_S)) (x4 : Int32) (x5 : Int32) (x6 : Int32) (S : ux_S) : Option (Int32 × ux_S) :=
  if S.1 8 31 ≤ x6 then (if x4 = 0 then (some (0, S)) else (if x5 < p2 then (some (0, S)) else (some (1, S)))) else (ux_gd (ux_ib x6 12) (if S.1 74 x6.toNatClampNeg = p0 then (if x6 = p1 then (k14 x4 x5 (x6 + 1) S) else (if x4 = 0 then (b_X8_areKnown_62 n p0 p1 p2 k14 (x5 + 1) x6 S) else (ux_gd (ux_ib x6 12) (if S.1 77 x6.toNatClampNeg = 0 then (b_X8_areKnown_62 n p0 p1 p2 k14 (x5 + 1) x6 S) else (b_X8_areKnown_63 n p0 p1 p2 k14 (x5 + 1) x6 1 S))))) else (k14 x4 x5 (x6 + 1) S)))
set_option maxHeartbeats 2000000 in
set_option maxRecDepth 10000 in
theorem w_X8_areKnown_14 {l : Launch} {G : ux_G} {n : Nat} {p0 : Int32} {p1 : Int32} {p2 : Int32} {r : Int32} {Z : ux_S} (k14 : Int32 → Int32 → Int32 → ux_S → Option (Int32 × ux_S)) (hk14 : ∀ (x4 x5 x6 : Int32) (S : ux_S), k14 x4 x5 x6 S = some (r, Z) → ux_At l G RX8 cX8_areKnown 7 (some .boolean) 1 (some (.int r)) Z 14 [(0, .ref (ux_a G 8)), (1, .int p0), (2, .int p1), (3, .int p2), (4, .int x4), (5, .int x5), (6, .int x6)] [] S) : ∀ (x4 : Int32) (x5 : Int32) (x6 : Int32) (S : ux_S), b_X8_areKnown_14 n p0 p1 p2 k14 x4 x5 x6 S = some (r, Z) → ux_At l G RX8 cX8_areKnown 7 (some .boolean) 1 (some (.int r)) Z 14 [(0, .ref (ux_a G 8)), (1, .int p0), (2, .int p1), (3, .int p2), (4, .int x4), (5, .int x5), (6, .int x6)] [] S := by
  intro x4 x5 x6 S hf
  unfold b_X8_areKnown_14 at hf
  refine ax_iload 16 dX8_areKnown_14 6 rfl rfl ?_
  refine ax_aload_n 17 dX8_areKnown_16 rfl 0 rfl rfl ?_
  refine ax_geti 20 dX8_areKnown_17 fg_X8_200 rfl rfl ?_
  refine ax_icmp_ge 101 23 dX8_areKnown_20 (by decide) rfl (fun c1 => ?_) (fun c1 => ?_)
  · have hf := ux_ift c1 hf
    refine ax_iload 103 dX8_areKnown_101 4 rfl rfl ?_
    refine ax_if_eq 116 106 dX8_areKnown_103 (by decide) rfl (fun c2 => ?_) (fun c2 => ?_)
    · have hf := ux_ift c2 hf
      refine ax_iconst (v := 0) 117 dX8_areKnown_116 (by decide) rfl ?_
      exact ax_zret dX8_areKnown_117 rfl hf
    · have hf := ux_iff c2 hf
      refine ax_iload 108 dX8_areKnown_106 5 rfl rfl ?_
      refine ax_iload_n 109 dX8_areKnown_108 rfl 3 rfl rfl ?_
      refine ax_icmp_lt 116 112 dX8_areKnown_109 (by decide) rfl (fun c3 => ?_) (fun c3 => ?_)
      · have hf := ux_ift c3 hf
        refine ax_iconst (v := 0) 117 dX8_areKnown_116 (by decide) rfl ?_
        exact ax_zret dX8_areKnown_117 rfl hf
      · have hf := ux_iff c3 hf
        refine ax_iconst (v := 1) 113 dX8_areKnown_112 (by decide) rfl ?_
        refine ax_goto 117 dX8_areKnown_113 (by decide) ?_
        exact ax_zret dX8_areKnown_117 rfl hf
  · have hf := ux_iff c1 hf
    refine ax_aload_n 24 dX8_areKnown_23 rfl 0 rfl rfl ?_
    refine ax_getr 74 27 dX8_areKnown_24 fg_X8_85 rfl (by decide) rfl ?_
    refine ax_iload 29 dX8_areKnown_27 6 rfl rfl ?_
    obtain ⟨h4, hf⟩ := ux_gd_e hf
    refine ax_iald 30 dX8_areKnown_29 (by decide) rfl h4 rfl ?_
    refine ax_iload_n 31 dX8_areKnown_30 rfl 1 rfl rfl ?_
    refine ax_icmp_ne 95 34 dX8_areKnown_31 (by decide) rfl (fun c5 => ?_) (fun c5 => ?_)
    · have hf := ux_iff c5 hf
      refine ax_iinc (v := x6 + 1) 98 dX8_areKnown_95 6 rfl rfl (by decide) [1, 2, 3, 4, 5, 6, 0] [(0, .ref (ux_a G 8)), (1, .int p0), (2, .int p1), (3, .int p2), (4, .int x4), (5, .int x5), (6, .int (x6 + 1))] rfl rfl ?_
      refine ax_goto 14 dX8_areKnown_98 (by decide) ?_
      exact ax_sub [0, 1, 2, 3, 4, 5, 6] rfl (hk14 x4 x5 (x6 + 1) S hf)
    · have hf := ux_ift c5 hf
      refine ax_iload 36 dX8_areKnown_34 6 rfl rfl ?_
      refine ax_iload_n 37 dX8_areKnown_36 rfl 2 rfl rfl ?_
      refine ax_icmp_eq 95 40 dX8_areKnown_37 (by decide) rfl (fun c6 => ?_) (fun c6 => ?_)
      · have hf := ux_ift c6 hf
        refine ax_iinc (v := x6 + 1) 98 dX8_areKnown_95 6 rfl rfl (by decide) [1, 2, 3, 4, 5, 6, 0] [(0, .ref (ux_a G 8)), (1, .int p0), (2, .int p1), (3, .int p2), (4, .int x4), (5, .int x5), (6, .int (x6 + 1))] rfl rfl ?_
        refine ax_goto 14 dX8_areKnown_98 (by decide) ?_
        exact ax_sub [0, 1, 2, 3, 4, 5, 6] rfl (hk14 x4 x5 (x6 + 1) S hf)
      · have hf := ux_iff c6 hf
        refine ax_iinc (v := x5 + 1) 43 dX8_areKnown_40 5 rfl rfl (by decide) [1, 2, 3, 4, 5, 0, 6] [(0, .ref (ux_a G 8)), (1, .int p0), (2, .int p1), (3, .int p2), (4, .int x4), (5, .int (x5 + 1)), (6, .int x6)] rfl rfl ?_
        refine ax_iload 45 dX8_areKnown_43 4 rfl rfl ?_
        refine ax_if_eq 62 48 dX8_areKnown_45 (by decide) rfl (fun c7 => ?_) (fun c7 => ?_)
        · have hf := ux_ift c7 hf
          exact ax_sub [0, 1, 2, 3, 5, 6] rfl (w_X8_areKnown_62 k14 hk14 (x5 + 1) x6 S hf)
        · have hf := ux_iff c7 hf
          refine ax_aload_n 49 dX8_areKnown_48 rfl 0 rfl rfl ?_
          refine ax_getr 77 52 dX8_areKnown_49 fg_X8_94 rfl (by decide) rfl ?_
          refine ax_iload 54 dX8_areKnown_52 6 rfl rfl ?_
          obtain ⟨h11, hf⟩ := ux_gd_e hf
          refine ax_zald 55 dX8_areKnown_54 (by decide) rfl h11 rfl ?_
          refine ax_if_eq 62 58 dX8_areKnown_55 (by decide) rfl (fun c12 => ?_) (fun c12 => ?_)
          · have hf := ux_ift c12 hf
            exact ax_sub [0, 1, 2, 3, 5, 6] rfl (w_X8_areKnown_62 k14 hk14 (x5 + 1) x6 S hf)
          · have hf := ux_iff c12 hf
            refine ax_iconst (v := 1) 59 dX8_areKnown_58 (by decide) rfl ?_
            refine ax_goto 63 dX8_areKnown_59 (by decide) ?_
            exact ax_sub [0, 1, 2, 3, 5, 6] rfl (w_X8_areKnown_63 k14 hk14 (x5 + 1) x6 1 S hf)
def f_X8_areKnown (n : Nat) (S : ux_S) (p0 : Int32) (p1 : Int32) (p2 : Int32) : Option (Int32 × ux_S) :=
  ux_lp3 (b_X8_areKnown_14 n p0 p1 p2) n 1 0 0 (ux_i S 8 37 0)
set_option maxHeartbeats 2000000 in
set_option maxRecDepth 10000 in
theorem m_X8_areKnown {l : Launch} {G : ux_G} {n : Nat} {S : ux_S} {p0 : Int32} {p1 : Int32} {p2 : Int32} {r : Int32} {Z : ux_S} (hf : f_X8_areKnown n S p0 p1 p2 = some (r, Z)) : ux_M l G yX8_areKnown cX8_areKnown 7 (some .boolean) 1 [.ref (ux_a G 8), .int p0, .int p1, .int p2] S (some (.int r)) Z := by
  refine ux_of (by decide) (Nat.le_of_ble_eq_true rfl) ?_
  show ux_At l G RX8 cX8_areKnown 7 (some .boolean) 1 (some (.int r)) Z 0 [(0, .ref (ux_a G 8)), (1, .int p0), (2, .int p1), (3, .int p2)] [] S
  unfold f_X8_areKnown at hf
  refine ax_iconst (v := 1) 1 dX8_areKnown_0 (by decide) rfl ?_
  refine ax_istore 3 dX8_areKnown_1 (by decide) [1, 2, 3, 4, 0] [(0, .ref (ux_a G 8)), (1, .int p0), (2, .int p1), (3, .int p2), (4, .int 1)] rfl rfl ?_
  refine ax_iconst (v := 0) 4 dX8_areKnown_3 (by decide) rfl ?_
  refine ax_istore 6 dX8_areKnown_4 (by decide) [1, 2, 3, 4, 5, 0] [(0, .ref (ux_a G 8)), (1, .int p0), (2, .int p1), (3, .int p2), (4, .int 1), (5, .int 0)] rfl rfl ?_
  refine ax_aload_n 7 dX8_areKnown_6 rfl 0 rfl rfl ?_
  refine ax_iconst (v := 0) 8 dX8_areKnown_7 (by decide) rfl ?_
  refine ax_put 11 dX8_areKnown_8 fp_X8_210 rfl ?_
  refine ax_iconst (v := 0) 12 dX8_areKnown_11 (by decide) rfl ?_
  refine ax_istore 14 dX8_areKnown_12 (by decide) [1, 2, 3, 4, 5, 6, 0] [(0, .ref (ux_a G 8)), (1, .int p0), (2, .int p1), (3, .int p2), (4, .int 1), (5, .int 0), (6, .int 0)] rfl rfl ?_
  exact ax_sub [0, 1, 2, 3, 4, 5, 6] rfl (ux_lp3_w (Pr := fun x4 x5 x6 S => ux_At l G RX8 cX8_areKnown 7 (some .boolean) 1 (some (.int r)) Z 14 [(0, .ref (ux_a G 8)), (1, .int p0), (2, .int p1), (3, .int p2), (4, .int x4), (5, .int x5), (6, .int x6)] [] S) (fun k14 hk14 => w_X8_areKnown_14 k14 hk14) n 1 0 0 (ux_i S 8 37 0) hf)
def b_X8_know_180 (n : Nat) (k50 : Int32 → Int32 → ux_S → Option ux_S) (x2 : Int32) (S : ux_S) : Option ux_S :=
  k50 1 (x2 + 1) S
set_option maxHeartbeats 2000000 in
set_option maxRecDepth 10000 in
theorem w_X8_know_180 {l : Launch} {G : ux_G} {n : Nat} {Z : ux_S} (k50 : Int32 → Int32 → ux_S → Option ux_S) (hk50 : ∀ (x1 x2 : Int32) (S : ux_S), k50 x1 x2 S = some Z → ux_At l G RX8 cX8_know 3 none 2 none Z 50 [(0, .ref (ux_a G 8)), (1, .int x1), (2, .int x2)] [] S) : ∀ (x2 : Int32) (S : ux_S), b_X8_know_180 n k50 x2 S = some Z → ux_At l G RX8 cX8_know 3 none 2 none Z 180 [(0, .ref (ux_a G 8)), (2, .int x2)] [] S := by
  intro x2 S hf
  unfold b_X8_know_180 at hf
  refine ax_iconst (v := 1) 181 dX8_know_180 (by decide) rfl ?_
  refine ax_goto 185 dX8_know_181 (by decide) ?_
  refine ax_istore_n 186 dX8_know_185 rfl (by decide) [1, 0, 2] [(0, .ref (ux_a G 8)), (1, .int 1), (2, .int x2)] rfl rfl ?_
  refine ax_iinc (v := x2 + 1) 189 dX8_know_186 2 rfl rfl (by decide) [1, 2, 0] [(0, .ref (ux_a G 8)), (1, .int 1), (2, .int (x2 + 1))] rfl rfl ?_
  refine ax_goto 50 dX8_know_189 (by decide) ?_
  exact ax_sub [0, 1, 2] rfl (hk50 1 (x2 + 1) S hf)
def b_X8_know_167 (n : Nat) (k50 : Int32 → Int32 → ux_S → Option ux_S) (x1 : Int32) (x2 : Int32) (S : ux_S) : Option ux_S :=
  if x1 = 0 then (ux_gd (ux_ib x2 12) (if S.1 77 x2.toNatClampNeg = 0 then (k50 0 (x2 + 1) S) else (b_X8_know_180 n k50 x2 S))) else (b_X8_know_180 n k50 x2 S)
set_option maxHeartbeats 2000000 in
set_option maxRecDepth 10000 in
theorem w_X8_know_167 {l : Launch} {G : ux_G} {n : Nat} {Z : ux_S} (k50 : Int32 → Int32 → ux_S → Option ux_S) (hk50 : ∀ (x1 x2 : Int32) (S : ux_S), k50 x1 x2 S = some Z → ux_At l G RX8 cX8_know 3 none 2 none Z 50 [(0, .ref (ux_a G 8)), (1, .int x1), (2, .int x2)] [] S) : ∀ (x1 : Int32) (x2 : Int32) (S : ux_S), b_X8_know_167 n k50 x1 x2 S = some Z → ux_At l G RX8 cX8_know 3 none 2 none Z 167 [(0, .ref (ux_a G 8)), (1, .int x1), (2, .int x2)] [] S := by
  intro x1 x2 S hf
  unfold b_X8_know_167 at hf
  refine ax_iload_n 168 dX8_know_167 rfl 1 rfl rfl ?_
  refine ax_if_ne 180 171 dX8_know_168 (by decide) rfl (fun c12 => ?_) (fun c12 => ?_)
  · have hf := ux_iff c12 hf
    exact ax_sub [0, 2] rfl (w_X8_know_180 k50 hk50 x2 S hf)
  · have hf := ux_ift c12 hf
    refine ax_aload_n 172 dX8_know_171 rfl 0 rfl rfl ?_
    refine ax_getr 77 175 dX8_know_172 fg_X8_94 rfl (by decide) rfl ?_
    refine ax_iload_n 176 dX8_know_175 rfl 2 rfl rfl ?_
    obtain ⟨h13, hf⟩ := ux_gd_e hf
    refine ax_zald 177 dX8_know_176 (by decide) rfl h13 rfl ?_
    refine ax_if_eq 184 180 dX8_know_177 (by decide) rfl (fun c14 => ?_) (fun c14 => ?_)
    · have hf := ux_ift c14 hf
      refine ax_iconst (v := 0) 185 dX8_know_184 (by decide) rfl ?_
      refine ax_istore_n 186 dX8_know_185 rfl (by decide) [1, 0, 2] [(0, .ref (ux_a G 8)), (1, .int 0), (2, .int x2)] rfl rfl ?_
      refine ax_iinc (v := x2 + 1) 189 dX8_know_186 2 rfl rfl (by decide) [1, 2, 0] [(0, .ref (ux_a G 8)), (1, .int 0), (2, .int (x2 + 1))] rfl rfl ?_
      refine ax_goto 50 dX8_know_189 (by decide) ?_
      exact ax_sub [0, 1, 2] rfl (hk50 0 (x2 + 1) S hf)
    · have hf := ux_iff c14 hf
      exact ax_sub [0, 2] rfl (w_X8_know_180 k50 hk50 x2 S hf)
def b_X8_know_50 (n : Nat) (k42 : Int32 → ux_S → Option ux_S) (k50 : Int32 → Int32 → ux_S → Option ux_S) (x1 : Int32) (x2 : Int32) (S : ux_S) : Option ux_S :=
  if S.1 8 31 ≤ x2 then (k42 x1 S) else (ux_gd (ux_ib x2 12) (if S.1 77 x2.toNatClampNeg = 0 then (ux_bi (f_X8_areKnown n S x2 (-4) 1) (fun r8 S7 => if r8 = 0 then (ux_gd (ux_ib x2 12) (if S7.1 74 x2.toNatClampNeg = (-4) then (b_X8_know_167 n k50 x1 x2 S7) else (ux_gd (ux_ib x2 12) (ux_gd (ux_ib (S7.1 74 x2.toNatClampNeg) 12) (if S7.1 77 (S7.1 74 x2.toNatClampNeg).toNatClampNeg = 0 then (b_X8_know_167 n k50 x1 x2 S7) else (ux_gd (ux_ib x2 12) (ux_bi (f_X8_areKnown n S7 (S7.1 74 x2.toNatClampNeg) x2 0) (fun r21 S20 => if r21 = 0 then (b_X8_know_167 n k50 x1 x2 S20) else (ux_gd (ux_ib x2 12) (ux_gd (ux_ib x2 12) (ux_gd (ux_ib ((ux_i S20 77 x2.toNatClampNeg (vp_nar .boolean 1)).1 74 x2.toNatClampNeg) 12) (ux_gd (ux_ib x2 12) (b_X8_know_167 n k50 x1 x2 (ux_i (ux_i S20 77 x2.toNatClampNeg (vp_nar .boolean 1)) 78 x2.toNatClampNeg (((ux_i S20 77 x2.toNatClampNeg (vp_nar .boolean 1)).1 78 ((ux_i S20 77 x2.toNatClampNeg (vp_nar .boolean 1)).1 74 x2.toNatClampNeg).toNatClampNeg) - ((ux_i S20 77 x2.toNatClampNeg (vp_nar .boolean 1)).1 8 37)))))))))))))))) else (ux_gd (ux_ib x2 12) (ux_gd (ux_ib x2 12) (b_X8_know_167 n k50 x1 x2 (ux_i (ux_i S7 77 x2.toNatClampNeg (vp_nar .boolean 1)) 78 x2.toNatClampNeg ((ux_i S7 77 x2.toNatClampNeg (vp_nar .boolean 1)).1 8 37))))))) else (k50 x1 (x2 + 1) S)))
set_option maxHeartbeats 2000000 in
set_option maxRecDepth 10000 in
theorem w_X8_know_50 {l : Launch} {G : ux_G} {n : Nat} {Z : ux_S} (k42 : Int32 → ux_S → Option ux_S) (hk42 : ∀ (x1 : Int32) (S : ux_S), k42 x1 S = some Z → ux_At l G RX8 cX8_know 3 none 2 none Z 42 [(0, .ref (ux_a G 8)), (1, .int x1)] [] S) (k50 : Int32 → Int32 → ux_S → Option ux_S) (hk50 : ∀ (x1 x2 : Int32) (S : ux_S), k50 x1 x2 S = some Z → ux_At l G RX8 cX8_know 3 none 2 none Z 50 [(0, .ref (ux_a G 8)), (1, .int x1), (2, .int x2)] [] S) : ∀ (x1 : Int32) (x2 : Int32) (S : ux_S), b_X8_know_50 n k42 k50 x1 x2 S = some Z → ux_At l G RX8 cX8_know 3 none 2 none Z 50 [(0, .ref (ux_a G 8)), (1, .int x1), (2, .int x2)] [] S := by
  intro x1 x2 S hf
  unfold b_X8_know_50 at hf
  refine ax_iload_n 51 dX8_know_50 rfl 2 rfl rfl ?_
  refine ax_aload_n 52 dX8_know_51 rfl 0 rfl rfl ?_
  refine ax_geti 55 dX8_know_52 fg_X8_200 rfl rfl ?_
  refine ax_icmp_ge 192 58 dX8_know_55 (by decide) rfl (fun c3 => ?_) (fun c3 => ?_)
  · have hf := ux_ift c3 hf
    refine ax_goto 42 dX8_know_192 (by decide) ?_
    exact ax_sub [0, 1] rfl (hk42 x1 S hf)
  · have hf := ux_iff c3 hf
    refine ax_aload_n 59 dX8_know_58 rfl 0 rfl rfl ?_
    refine ax_getr 77 62 dX8_know_59 fg_X8_94 rfl (by decide) rfl ?_
    refine ax_iload_n 63 dX8_know_62 rfl 2 rfl rfl ?_
    obtain ⟨h4, hf⟩ := ux_gd_e hf
    refine ax_zald 64 dX8_know_63 (by decide) rfl h4 rfl ?_
    refine ax_if_ne 186 67 dX8_know_64 (by decide) rfl (fun c5 => ?_) (fun c5 => ?_)
    · have hf := ux_iff c5 hf
      refine ax_iinc (v := x2 + 1) 189 dX8_know_186 2 rfl rfl (by decide) [1, 2, 0] [(0, .ref (ux_a G 8)), (1, .int x1), (2, .int (x2 + 1))] rfl rfl ?_
      refine ax_goto 50 dX8_know_189 (by decide) ?_
      exact ax_sub [0, 1, 2] rfl (hk50 x1 (x2 + 1) S hf)
    · have hf := ux_ift c5 hf
      refine ax_aload_n 68 dX8_know_67 rfl 0 rfl rfl ?_
      refine ax_iload_n 69 dX8_know_68 rfl 2 rfl rfl ?_
      refine ax_bipush (v := (-4)) 71 dX8_know_69 (by decide) rfl ?_
      refine ax_iconst (v := 1) 72 dX8_know_71 (by decide) rfl ?_
      obtain ⟨r8, S7, e6, hf⟩ := ux_bi_e hf
      refine ax_callVi 75 [.int x2, .int (-4), .int 1] dX8_know_72 fv_X8_213 (m_X8_areKnown e6) (by decide) rfl rfl (by decide) rfl rfl (Nat.le_of_ble_eq_true rfl) rfl ?_
      refine ax_if_eq 98 78 dX8_know_75 (by decide) rfl (fun c9 => ?_) (fun c9 => ?_)
      · have hf := ux_ift c9 hf
        refine ax_aload_n 99 dX8_know_98 rfl 0 rfl rfl ?_
        refine ax_getr 74 102 dX8_know_99 fg_X8_85 rfl (by decide) rfl ?_
        refine ax_iload_n 103 dX8_know_102 rfl 2 rfl rfl ?_
        obtain ⟨h10, hf⟩ := ux_gd_e hf
        refine ax_iald 104 dX8_know_103 (by decide) rfl h10 rfl ?_
        refine ax_bipush (v := (-4)) 106 dX8_know_104 (by decide) rfl ?_
        refine ax_icmp_eq 167 109 dX8_know_106 (by decide) rfl (fun c11 => ?_) (fun c11 => ?_)
        · have hf := ux_ift c11 hf
          exact ax_sub [0, 1, 2] rfl (w_X8_know_167 k50 hk50 x1 x2 S7 hf)
        · have hf := ux_iff c11 hf
          refine ax_aload_n 110 dX8_know_109 rfl 0 rfl rfl ?_
          refine ax_getr 77 113 dX8_know_110 fg_X8_94 rfl (by decide) rfl ?_
          refine ax_aload_n 114 dX8_know_113 rfl 0 rfl rfl ?_
          refine ax_getr 74 117 dX8_know_114 fg_X8_85 rfl (by decide) rfl ?_
          refine ax_iload_n 118 dX8_know_117 rfl 2 rfl rfl ?_
          obtain ⟨h15, hf⟩ := ux_gd_e hf
          refine ax_iald 119 dX8_know_118 (by decide) rfl h15 rfl ?_
          obtain ⟨h16, hf⟩ := ux_gd_e hf
          refine ax_zald 120 dX8_know_119 (by decide) rfl h16 rfl ?_
          refine ax_if_eq 167 123 dX8_know_120 (by decide) rfl (fun c17 => ?_) (fun c17 => ?_)
          · have hf := ux_ift c17 hf
            exact ax_sub [0, 1, 2] rfl (w_X8_know_167 k50 hk50 x1 x2 S7 hf)
          · have hf := ux_iff c17 hf
            refine ax_aload_n 124 dX8_know_123 rfl 0 rfl rfl ?_
            refine ax_aload_n 125 dX8_know_124 rfl 0 rfl rfl ?_
            refine ax_getr 74 128 dX8_know_125 fg_X8_85 rfl (by decide) rfl ?_
            refine ax_iload_n 129 dX8_know_128 rfl 2 rfl rfl ?_
            obtain ⟨h18, hf⟩ := ux_gd_e hf
            refine ax_iald 130 dX8_know_129 (by decide) rfl h18 rfl ?_
            refine ax_iload_n 131 dX8_know_130 rfl 2 rfl rfl ?_
            refine ax_iconst (v := 0) 132 dX8_know_131 (by decide) rfl ?_
            obtain ⟨r21, S20, e19, hf⟩ := ux_bi_e hf
            refine ax_callVi 135 [.int (S7.1 74 x2.toNatClampNeg), .int x2, .int 0] dX8_know_132 fv_X8_213 (m_X8_areKnown e19) (by decide) rfl rfl (by decide) rfl rfl (Nat.le_of_ble_eq_true rfl) rfl ?_
            refine ax_if_eq 167 138 dX8_know_135 (by decide) rfl (fun c22 => ?_) (fun c22 => ?_)
            · have hf := ux_ift c22 hf
              exact ax_sub [0, 1, 2] rfl (w_X8_know_167 k50 hk50 x1 x2 S20 hf)
            · have hf := ux_iff c22 hf
              refine ax_aload_n 139 dX8_know_138 rfl 0 rfl rfl ?_
              refine ax_getr 77 142 dX8_know_139 fg_X8_94 rfl (by decide) rfl ?_
              refine ax_iload_n 143 dX8_know_142 rfl 2 rfl rfl ?_
              refine ax_iconst (v := 1) 144 dX8_know_143 (by decide) rfl ?_
              obtain ⟨h23, hf⟩ := ux_gd_e hf
              refine ax_zast 145 dX8_know_144 (by decide) rfl h23 rfl ?_
              refine ax_aload_n 146 dX8_know_145 rfl 0 rfl rfl ?_
              refine ax_getr 78 149 dX8_know_146 fg_X8_97 rfl (by decide) rfl ?_
              refine ax_iload_n 150 dX8_know_149 rfl 2 rfl rfl ?_
              refine ax_aload_n 151 dX8_know_150 rfl 0 rfl rfl ?_
              refine ax_getr 78 154 dX8_know_151 fg_X8_97 rfl (by decide) rfl ?_
              refine ax_aload_n 155 dX8_know_154 rfl 0 rfl rfl ?_
              refine ax_getr 74 158 dX8_know_155 fg_X8_85 rfl (by decide) rfl ?_
              refine ax_iload_n 159 dX8_know_158 rfl 2 rfl rfl ?_
              obtain ⟨h24, hf⟩ := ux_gd_e hf
              refine ax_iald 160 dX8_know_159 (by decide) rfl h24 rfl ?_
              obtain ⟨h25, hf⟩ := ux_gd_e hf
              refine ax_iald 161 dX8_know_160 (by decide) rfl h25 rfl ?_
              refine ax_aload_n 162 dX8_know_161 rfl 0 rfl rfl ?_
              refine ax_geti 165 dX8_know_162 fg_X8_210 rfl rfl ?_
              refine ax_isub 166 dX8_know_165 rfl ?_
              obtain ⟨h26, hf⟩ := ux_gd_e hf
              refine ax_iast 167 dX8_know_166 (by decide) rfl h26 rfl ?_
              exact ax_sub [0, 1, 2] rfl (w_X8_know_167 k50 hk50 x1 x2 (ux_i (ux_i S20 77 x2.toNatClampNeg (vp_nar .boolean 1)) 78 x2.toNatClampNeg (((ux_i S20 77 x2.toNatClampNeg (vp_nar .boolean 1)).1 78 ((ux_i S20 77 x2.toNatClampNeg (vp_nar .boolean 1)).1 74 x2.toNatClampNeg).toNatClampNeg) - ((ux_i S20 77 x2.toNatClampNeg (vp_nar .boolean 1)).1 8 37))) hf)
      · have hf := ux_iff c9 hf
        refine ax_aload_n 79 dX8_know_78 rfl 0 rfl rfl ?_
        refine ax_getr 77 82 dX8_know_79 fg_X8_94 rfl (by decide) rfl ?_
        refine ax_iload_n 83 dX8_know_82 rfl 2 rfl rfl ?_
        refine ax_iconst (v := 1) 84 dX8_know_83 (by decide) rfl ?_
        obtain ⟨h27, hf⟩ := ux_gd_e hf
        refine ax_zast 85 dX8_know_84 (by decide) rfl h27 rfl ?_
        refine ax_aload_n 86 dX8_know_85 rfl 0 rfl rfl ?_
        refine ax_getr 78 89 dX8_know_86 fg_X8_97 rfl (by decide) rfl ?_
        refine ax_iload_n 90 dX8_know_89 rfl 2 rfl rfl ?_
        refine ax_aload_n 91 dX8_know_90 rfl 0 rfl rfl ?_
        refine ax_geti 94 dX8_know_91 fg_X8_210 rfl rfl ?_
        obtain ⟨h28, hf⟩ := ux_gd_e hf
        refine ax_iast 95 dX8_know_94 (by decide) rfl h28 rfl ?_
        refine ax_goto 167 dX8_know_95 (by decide) ?_
        exact ax_sub [0, 1, 2] rfl (w_X8_know_167 k50 hk50 x1 x2 (ux_i (ux_i S7 77 x2.toNatClampNeg (vp_nar .boolean 1)) 78 x2.toNatClampNeg ((ux_i S7 77 x2.toNatClampNeg (vp_nar .boolean 1)).1 8 37)) hf)
def b_X8_know_42 (n : Nat) (k42 : Int32 → ux_S → Option ux_S) (x1 : Int32) (S : ux_S) : Option ux_S :=
  if x1 = 0 then (some S) else (ux_lp2 (b_X8_know_50 n k42) n 0 0 S)
set_option maxHeartbeats 2000000 in
set_option maxRecDepth 10000 in
theorem w_X8_know_42 {l : Launch} {G : ux_G} {n : Nat} {Z : ux_S} (k42 : Int32 → ux_S → Option ux_S) (hk42 : ∀ (x1 : Int32) (S : ux_S), k42 x1 S = some Z → ux_At l G RX8 cX8_know 3 none 2 none Z 42 [(0, .ref (ux_a G 8)), (1, .int x1)] [] S) : ∀ (x1 : Int32) (S : ux_S), b_X8_know_42 n k42 x1 S = some Z → ux_At l G RX8 cX8_know 3 none 2 none Z 42 [(0, .ref (ux_a G 8)), (1, .int x1)] [] S := by
  intro x1 S hf
  unfold b_X8_know_42 at hf
  refine ax_iload_n 43 dX8_know_42 rfl 1 rfl rfl ?_
  refine ax_if_eq 195 46 dX8_know_43 (by decide) rfl (fun c2 => ?_) (fun c2 => ?_)
  · have hf := ux_ift c2 hf
    exact ax_vret dX8_know_195 hf
  · have hf := ux_iff c2 hf
    refine ax_iconst (v := 0) 47 dX8_know_46 (by decide) rfl ?_
    refine ax_istore_n 48 dX8_know_47 rfl (by decide) [1, 0] [(0, .ref (ux_a G 8)), (1, .int 0)] rfl rfl ?_
    refine ax_iconst (v := 0) 49 dX8_know_48 (by decide) rfl ?_
    refine ax_istore_n 50 dX8_know_49 rfl (by decide) [1, 2, 0] [(0, .ref (ux_a G 8)), (1, .int 0), (2, .int 0)] rfl rfl ?_
    exact ax_sub [0, 1, 2] rfl (ux_lp2_w (Pr := fun x1 x2 S => ux_At l G RX8 cX8_know 3 none 2 none Z 50 [(0, .ref (ux_a G 8)), (1, .int x1), (2, .int x2)] [] S) (fun k50 hk50 => w_X8_know_50 k42 hk42 k50 hk50) n 0 0 S hf)
def b_X8_know_2 (n : Nat) (k2 : Int32 → ux_S → Option ux_S) (x1 : Int32) (S : ux_S) : Option ux_S :=
  if S.1 8 31 ≤ x1 then (ux_lp1 (b_X8_know_42 n) n 1 S) else (ux_gd (ux_ib x1 12) (ux_gd (ux_ib x1 12) (ux_gd (ux_ib x1 12) (ux_gd (ux_ib x1 12) (k2 (x1 + 1) (ux_i (ux_i S 77 x1.toNatClampNeg (vp_nar .boolean (S.1 75 x1.toNatClampNeg))) 78 x1.toNatClampNeg ((ux_i S 77 x1.toNatClampNeg (vp_nar .boolean (S.1 75 x1.toNatClampNeg))).1 76 x1.toNatClampNeg)))))))
set_option maxHeartbeats 2000000 in
set_option maxRecDepth 10000 in
theorem w_X8_know_2 {l : Launch} {G : ux_G} {n : Nat} {Z : ux_S} (k2 : Int32 → ux_S → Option ux_S) (hk2 : ∀ (x1 : Int32) (S : ux_S), k2 x1 S = some Z → ux_At l G RX8 cX8_know 3 none 2 none Z 2 [(0, .ref (ux_a G 8)), (1, .int x1)] [] S) : ∀ (x1 : Int32) (S : ux_S), b_X8_know_2 n k2 x1 S = some Z → ux_At l G RX8 cX8_know 3 none 2 none Z 2 [(0, .ref (ux_a G 8)), (1, .int x1)] [] S := by
  intro x1 S hf
  unfold b_X8_know_2 at hf
  refine ax_iload_n 3 dX8_know_2 rfl 1 rfl rfl ?_
  refine ax_aload_n 4 dX8_know_3 rfl 0 rfl rfl ?_
  refine ax_geti 7 dX8_know_4 fg_X8_200 rfl rfl ?_
  refine ax_icmp_ge 40 10 dX8_know_7 (by decide) rfl (fun c1 => ?_) (fun c1 => ?_)
  · have hf := ux_ift c1 hf
    refine ax_iconst (v := 1) 41 dX8_know_40 (by decide) rfl ?_
    refine ax_istore_n 42 dX8_know_41 rfl (by decide) [1, 0] [(0, .ref (ux_a G 8)), (1, .int 1)] rfl rfl ?_
    exact ax_sub [0, 1] rfl (ux_lp1_w (Pr := fun x1 S => ux_At l G RX8 cX8_know 3 none 2 none Z 42 [(0, .ref (ux_a G 8)), (1, .int x1)] [] S) (fun k42 hk42 => w_X8_know_42 k42 hk42) n 1 S hf)
  · have hf := ux_iff c1 hf
    refine ax_aload_n 11 dX8_know_10 rfl 0 rfl rfl ?_
    refine ax_getr 77 14 dX8_know_11 fg_X8_94 rfl (by decide) rfl ?_
    refine ax_iload_n 15 dX8_know_14 rfl 1 rfl rfl ?_
    refine ax_aload_n 16 dX8_know_15 rfl 0 rfl rfl ?_
    refine ax_getr 75 19 dX8_know_16 fg_X8_88 rfl (by decide) rfl ?_
    refine ax_iload_n 20 dX8_know_19 rfl 1 rfl rfl ?_
    obtain ⟨h29, hf⟩ := ux_gd_e hf
    refine ax_zald 21 dX8_know_20 (by decide) rfl h29 rfl ?_
    obtain ⟨h30, hf⟩ := ux_gd_e hf
    refine ax_zast 22 dX8_know_21 (by decide) rfl h30 rfl ?_
    refine ax_aload_n 23 dX8_know_22 rfl 0 rfl rfl ?_
    refine ax_getr 78 26 dX8_know_23 fg_X8_97 rfl (by decide) rfl ?_
    refine ax_iload_n 27 dX8_know_26 rfl 1 rfl rfl ?_
    refine ax_aload_n 28 dX8_know_27 rfl 0 rfl rfl ?_
    refine ax_getr 76 31 dX8_know_28 fg_X8_91 rfl (by decide) rfl ?_
    refine ax_iload_n 32 dX8_know_31 rfl 1 rfl rfl ?_
    obtain ⟨h31, hf⟩ := ux_gd_e hf
    refine ax_iald 33 dX8_know_32 (by decide) rfl h31 rfl ?_
    obtain ⟨h32, hf⟩ := ux_gd_e hf
    refine ax_iast 34 dX8_know_33 (by decide) rfl h32 rfl ?_
    refine ax_iinc (v := x1 + 1) 37 dX8_know_34 1 rfl rfl (by decide) [1, 0] [(0, .ref (ux_a G 8)), (1, .int (x1 + 1))] rfl rfl ?_
    refine ax_goto 2 dX8_know_37 (by decide) ?_
    exact ax_sub [0, 1] rfl (hk2 (x1 + 1) (ux_i (ux_i S 77 x1.toNatClampNeg (vp_nar .boolean (S.1 75 x1.toNatClampNeg))) 78 x1.toNatClampNeg ((ux_i S 77 x1.toNatClampNeg (vp_nar .boolean (S.1 75 x1.toNatClampNeg))).1 76 x1.toNatClampNeg)) hf)
def f_X8_know (n : Nat) (S : ux_S) : Option ux_S :=
  ux_lp1 (b_X8_know_2 n) n 0 S
set_option maxHeartbeats 2000000 in
set_option maxRecDepth 10000 in
theorem m_X8_know {l : Launch} {G : ux_G} {n : Nat} {S : ux_S} {Z : ux_S} (hf : f_X8_know n S = some Z) : ux_M l G yX8_know cX8_know 3 none 2 [.ref (ux_a G 8)] S none Z := by
  refine ux_of (by decide) (Nat.le_of_ble_eq_true rfl) ?_
  show ux_At l G RX8 cX8_know 3 none 2 none Z 0 [(0, .ref (ux_a G 8))] [] S
  unfold f_X8_know at hf
  refine ax_iconst (v := 0) 1 dX8_know_0 (by decide) rfl ?_
  refine ax_istore_n 2 dX8_know_1 rfl (by decide) [1, 0] [(0, .ref (ux_a G 8)), (1, .int 0)] rfl rfl ?_
  exact ax_sub [0, 1] rfl (ux_lp1_w (Pr := fun x1 S => ux_At l G RX8 cX8_know 3 none 2 none Z 2 [(0, .ref (ux_a G 8)), (1, .int x1)] [] S) (fun k2 hk2 => w_X8_know_2 k2 hk2) n 0 S hf)
def f_X8_known (n : Nat) (S : ux_S) (p0 : Int32) : Option (Int32 × ux_S) :=
  ux_bv (f_X8_know n S ) (fun S2 => ux_bi (f_X8_isMeter S2 p0) (fun r6 S5 => if r6 = 0 then (some (1000000000, S5)) else (ux_gd (ux_ib p0 12) (if S5.1 77 p0.toNatClampNeg = 0 then (some (1000000000, S5)) else (ux_gd (ux_ib p0 12) (some (S5.1 78 p0.toNatClampNeg, S5)))))))
set_option maxHeartbeats 2000000 in
set_option maxRecDepth 10000 in
theorem m_X8_known {l : Launch} {G : ux_G} {n : Nat} {S : ux_S} {p0 : Int32} {r : Int32} {Z : ux_S} (hf : f_X8_known n S p0 = some (r, Z)) : ux_M l G yX8_known cX8_known 2 (some .int) 3 [.ref (ux_a G 8), .int p0] S (some (.int r)) Z := by
  refine ux_of (by decide) (Nat.le_of_ble_eq_true rfl) ?_
  show ux_At l G RX8 cX8_known 2 (some .int) 3 (some (.int r)) Z 0 [(0, .ref (ux_a G 8)), (1, .int p0)] [] S
  unfold f_X8_known at hf
  refine ax_aload_n 1 dX8_known_0 rfl 0 rfl rfl ?_
  obtain ⟨S2, e1, hf⟩ := ux_bv_e hf
  refine ax_callVv 4 [] dX8_known_1 fv_X8_217 (m_X8_know e1) (by decide) rfl rfl (by decide) rfl rfl (Nat.le_of_ble_eq_true rfl) rfl ?_
  refine ax_aload_n 5 dX8_known_4 rfl 0 rfl rfl ?_
  refine ax_iload_n 6 dX8_known_5 rfl 1 rfl rfl ?_
  obtain ⟨r6, S5, e4, hf⟩ := ux_bi_e hf
  refine ax_callVi 9 [.int p0] dX8_known_6 fv_X8_203 (m_X8_isMeter e4) (by decide) rfl rfl (by decide) rfl rfl (Nat.le_of_ble_eq_true rfl) rfl ?_
  refine ax_if_eq 30 12 dX8_known_9 (by decide) rfl (fun c7 => ?_) (fun c7 => ?_)
  · have hf := ux_ift c7 hf
    refine ax_ldc 32 dX8_known_30 fc_X8_220 rfl ?_
    exact ax_iret dX8_known_32 hf
  · have hf := ux_iff c7 hf
    refine ax_aload_n 13 dX8_known_12 rfl 0 rfl rfl ?_
    refine ax_getr 77 16 dX8_known_13 fg_X8_94 rfl (by decide) rfl ?_
    refine ax_iload_n 17 dX8_known_16 rfl 1 rfl rfl ?_
    obtain ⟨h8, hf⟩ := ux_gd_e hf
    refine ax_zald 18 dX8_known_17 (by decide) rfl h8 rfl ?_
    refine ax_if_eq 30 21 dX8_known_18 (by decide) rfl (fun c9 => ?_) (fun c9 => ?_)
    · have hf := ux_ift c9 hf
      refine ax_ldc 32 dX8_known_30 fc_X8_220 rfl ?_
      exact ax_iret dX8_known_32 hf
    · have hf := ux_iff c9 hf
      refine ax_aload_n 22 dX8_known_21 rfl 0 rfl rfl ?_
      refine ax_getr 78 25 dX8_known_22 fg_X8_97 rfl (by decide) rfl ?_
      refine ax_iload_n 26 dX8_known_25 rfl 1 rfl rfl ?_
      obtain ⟨h10, hf⟩ := ux_gd_e hf
      refine ax_iald 27 dX8_known_26 (by decide) rfl h10 rfl ?_
      refine ax_goto 32 dX8_known_27 (by decide) ?_
      exact ax_iret dX8_known_32 hf
def b_X8_quarrel_6 (n : Nat) (k6 : Int32 → ux_S → Option (Int32 × ux_S)) (x1 : Int32) (S : ux_S) : Option (Int32 × ux_S) :=
  if S.1 8 31 ≤ x1 then (some ((-4), S)) else (ux_gd (ux_ib x1 12) (if S.1 77 x1.toNatClampNeg = 0 then (k6 (x1 + 1) S) else (ux_bi (f_X8_areKnown n S x1 (-4) 1) (fun r9 S8 => if r9 = 0 then (k6 (x1 + 1) S8) else (ux_gd (ux_ib x1 12) (if S8.1 8 37 = S8.1 78 x1.toNatClampNeg then (k6 (x1 + 1) S8) else (some (x1, S8))))))))
set_option maxHeartbeats 2000000 in
set_option maxRecDepth 10000 in
theorem w_X8_quarrel_6 {l : Launch} {G : ux_G} {n : Nat} {r : Int32} {Z : ux_S} (k6 : Int32 → ux_S → Option (Int32 × ux_S)) (hk6 : ∀ (x1 : Int32) (S : ux_S), k6 x1 S = some (r, Z) → ux_At l G RX8 cX8_quarrel 2 (some .int) 3 (some (.int r)) Z 6 [(0, .ref (ux_a G 8)), (1, .int x1)] [] S) : ∀ (x1 : Int32) (S : ux_S), b_X8_quarrel_6 n k6 x1 S = some (r, Z) → ux_At l G RX8 cX8_quarrel 2 (some .int) 3 (some (.int r)) Z 6 [(0, .ref (ux_a G 8)), (1, .int x1)] [] S := by
  intro x1 S hf
  unfold b_X8_quarrel_6 at hf
  refine ax_iload_n 7 dX8_quarrel_6 rfl 1 rfl rfl ?_
  refine ax_aload_n 8 dX8_quarrel_7 rfl 0 rfl rfl ?_
  refine ax_geti 11 dX8_quarrel_8 fg_X8_200 rfl rfl ?_
  refine ax_icmp_ge 55 14 dX8_quarrel_11 (by decide) rfl (fun c4 => ?_) (fun c4 => ?_)
  · have hf := ux_ift c4 hf
    refine ax_bipush (v := (-4)) 57 dX8_quarrel_55 (by decide) rfl ?_
    exact ax_iret dX8_quarrel_57 hf
  · have hf := ux_iff c4 hf
    refine ax_aload_n 15 dX8_quarrel_14 rfl 0 rfl rfl ?_
    refine ax_getr 77 18 dX8_quarrel_15 fg_X8_94 rfl (by decide) rfl ?_
    refine ax_iload_n 19 dX8_quarrel_18 rfl 1 rfl rfl ?_
    obtain ⟨h5, hf⟩ := ux_gd_e hf
    refine ax_zald 20 dX8_quarrel_19 (by decide) rfl h5 rfl ?_
    refine ax_if_eq 49 23 dX8_quarrel_20 (by decide) rfl (fun c6 => ?_) (fun c6 => ?_)
    · have hf := ux_ift c6 hf
      refine ax_iinc (v := x1 + 1) 52 dX8_quarrel_49 1 rfl rfl (by decide) [1, 0] [(0, .ref (ux_a G 8)), (1, .int (x1 + 1))] rfl rfl ?_
      refine ax_goto 6 dX8_quarrel_52 (by decide) ?_
      exact ax_sub [0, 1] rfl (hk6 (x1 + 1) S hf)
    · have hf := ux_iff c6 hf
      refine ax_aload_n 24 dX8_quarrel_23 rfl 0 rfl rfl ?_
      refine ax_iload_n 25 dX8_quarrel_24 rfl 1 rfl rfl ?_
      refine ax_bipush (v := (-4)) 27 dX8_quarrel_25 (by decide) rfl ?_
      refine ax_iconst (v := 1) 28 dX8_quarrel_27 (by decide) rfl ?_
      obtain ⟨r9, S8, e7, hf⟩ := ux_bi_e hf
      refine ax_callVi 31 [.int x1, .int (-4), .int 1] dX8_quarrel_28 fv_X8_213 (m_X8_areKnown e7) (by decide) rfl rfl (by decide) rfl rfl (Nat.le_of_ble_eq_true rfl) rfl ?_
      refine ax_if_eq 49 34 dX8_quarrel_31 (by decide) rfl (fun c10 => ?_) (fun c10 => ?_)
      · have hf := ux_ift c10 hf
        refine ax_iinc (v := x1 + 1) 52 dX8_quarrel_49 1 rfl rfl (by decide) [1, 0] [(0, .ref (ux_a G 8)), (1, .int (x1 + 1))] rfl rfl ?_
        refine ax_goto 6 dX8_quarrel_52 (by decide) ?_
        exact ax_sub [0, 1] rfl (hk6 (x1 + 1) S8 hf)
      · have hf := ux_iff c10 hf
        refine ax_aload_n 35 dX8_quarrel_34 rfl 0 rfl rfl ?_
        refine ax_geti 38 dX8_quarrel_35 fg_X8_210 rfl rfl ?_
        refine ax_aload_n 39 dX8_quarrel_38 rfl 0 rfl rfl ?_
        refine ax_getr 78 42 dX8_quarrel_39 fg_X8_97 rfl (by decide) rfl ?_
        refine ax_iload_n 43 dX8_quarrel_42 rfl 1 rfl rfl ?_
        obtain ⟨h11, hf⟩ := ux_gd_e hf
        refine ax_iald 44 dX8_quarrel_43 (by decide) rfl h11 rfl ?_
        refine ax_icmp_eq 49 47 dX8_quarrel_44 (by decide) rfl (fun c12 => ?_) (fun c12 => ?_)
        · have hf := ux_ift c12 hf
          refine ax_iinc (v := x1 + 1) 52 dX8_quarrel_49 1 rfl rfl (by decide) [1, 0] [(0, .ref (ux_a G 8)), (1, .int (x1 + 1))] rfl rfl ?_
          refine ax_goto 6 dX8_quarrel_52 (by decide) ?_
          exact ax_sub [0, 1] rfl (hk6 (x1 + 1) S8 hf)
        · have hf := ux_iff c12 hf
          refine ax_iload_n 48 dX8_quarrel_47 rfl 1 rfl rfl ?_
          exact ax_iret dX8_quarrel_48 hf
def f_X8_quarrel (n : Nat) (S : ux_S) : Option (Int32 × ux_S) :=
  ux_bv (f_X8_know n S ) (fun S2 => ux_lp1 (b_X8_quarrel_6 n) n 0 S2)
set_option maxHeartbeats 2000000 in
set_option maxRecDepth 10000 in
theorem m_X8_quarrel {l : Launch} {G : ux_G} {n : Nat} {S : ux_S} {r : Int32} {Z : ux_S} (hf : f_X8_quarrel n S = some (r, Z)) : ux_M l G yX8_quarrel cX8_quarrel 2 (some .int) 3 [.ref (ux_a G 8)] S (some (.int r)) Z := by
  refine ux_of (by decide) (Nat.le_of_ble_eq_true rfl) ?_
  show ux_At l G RX8 cX8_quarrel 2 (some .int) 3 (some (.int r)) Z 0 [(0, .ref (ux_a G 8))] [] S
  unfold f_X8_quarrel at hf
  refine ax_aload_n 1 dX8_quarrel_0 rfl 0 rfl rfl ?_
  obtain ⟨S2, e1, hf⟩ := ux_bv_e hf
  refine ax_callVv 4 [] dX8_quarrel_1 fv_X8_217 (m_X8_know e1) (by decide) rfl rfl (by decide) rfl rfl (Nat.le_of_ble_eq_true rfl) rfl ?_
  refine ax_iconst (v := 0) 5 dX8_quarrel_4 (by decide) rfl ?_
  refine ax_istore_n 6 dX8_quarrel_5 rfl (by decide) [1, 0] [(0, .ref (ux_a G 8)), (1, .int 0)] rfl rfl ?_
  exact ax_sub [0, 1] rfl (ux_lp1_w (Pr := fun x1 S => ux_At l G RX8 cX8_quarrel 2 (some .int) 3 (some (.int r)) Z 6 [(0, .ref (ux_a G 8)), (1, .int x1)] [] S) (fun k6 hk6 => w_X8_quarrel_6 k6 hk6) n 0 S2 hf)
def b_X8_count_85 (n : Nat) (p0 : Int32) (k85 : Int32 → Int32 → ux_S → Option (Int32 × ux_S)) (x2 : Int32) (x3 : Int32) (S : ux_S) : Option (Int32 × ux_S) :=
  if S.1 8 31 ≤ x3 then (some (x2, S)) else (ux_gd (ux_ib x3 12) (if S.1 77 x3.toNatClampNeg = 0 then (k85 (x2 + (0 : Int32)) (x3 + 1) S) else (k85 (x2 + (1 : Int32)) (x3 + 1) S)))
set_option maxHeartbeats 2000000 in
set_option maxRecDepth 10000 in
theorem w_X8_count_85 {l : Launch} {G : ux_G} {n : Nat} {p0 : Int32} {r : Int32} {Z : ux_S} (k85 : Int32 → Int32 → ux_S → Option (Int32 × ux_S)) (hk85 : ∀ (x2 x3 : Int32) (S : ux_S), k85 x2 x3 S = some (r, Z) → ux_At l G RX8 cX8_count 4 (some .int) 3 (some (.int r)) Z 85 [(0, .ref (ux_a G 8)), (2, .int x2), (3, .int x3)] [] S) : ∀ (x2 : Int32) (x3 : Int32) (S : ux_S), b_X8_count_85 n p0 k85 x2 x3 S = some (r, Z) → ux_At l G RX8 cX8_count 4 (some .int) 3 (some (.int r)) Z 85 [(0, .ref (ux_a G 8)), (2, .int x2), (3, .int x3)] [] S := by
  intro x2 x3 S hf
  unfold b_X8_count_85 at hf
  refine ax_iload_n 86 dX8_count_85 rfl 2 rfl rfl ?_
  refine ax_aload_n 87 dX8_count_86 rfl 0 rfl rfl ?_
  refine ax_geti 90 dX8_count_87 fg_X8_200 rfl rfl ?_
  refine ax_icmp_ge 116 93 dX8_count_90 (by decide) rfl (fun c10 => ?_) (fun c10 => ?_)
  · have hf := ux_ift c10 hf
    refine ax_iload_n 117 dX8_count_116 rfl 1 rfl rfl ?_
    exact ax_iret dX8_count_117 hf
  · have hf := ux_iff c10 hf
    refine ax_iload_n 94 dX8_count_93 rfl 1 rfl rfl ?_
    refine ax_aload_n 95 dX8_count_94 rfl 0 rfl rfl ?_
    refine ax_getr 77 98 dX8_count_95 fg_X8_94 rfl (by decide) rfl ?_
    refine ax_iload_n 99 dX8_count_98 rfl 2 rfl rfl ?_
    obtain ⟨h11, hf⟩ := ux_gd_e hf
    refine ax_zald 100 dX8_count_99 (by decide) rfl h11 rfl ?_
    refine ax_if_eq 107 103 dX8_count_100 (by decide) rfl (fun c12 => ?_) (fun c12 => ?_)
    · have hf := ux_ift c12 hf
      refine ax_iconst (v := 0) 108 dX8_count_107 (by decide) rfl ?_
      refine ax_iadd 109 dX8_count_108 rfl ?_
      refine ax_istore_n 110 dX8_count_109 rfl (by decide) [1, 0, 2] [(0, .ref (ux_a G 8)), (2, .int (x2 + (0 : Int32))), (3, .int x3)] rfl rfl ?_
      refine ax_iinc (v := x3 + 1) 113 dX8_count_110 2 rfl rfl (by decide) [1, 2, 0] [(0, .ref (ux_a G 8)), (2, .int (x2 + (0 : Int32))), (3, .int (x3 + 1))] rfl rfl ?_
      refine ax_goto 85 dX8_count_113 (by decide) ?_
      exact ax_sub [0, 1, 2] rfl (hk85 (x2 + (0 : Int32)) (x3 + 1) S hf)
    · have hf := ux_iff c12 hf
      refine ax_iconst (v := 1) 104 dX8_count_103 (by decide) rfl ?_
      refine ax_goto 108 dX8_count_104 (by decide) ?_
      refine ax_iadd 109 dX8_count_108 rfl ?_
      refine ax_istore_n 110 dX8_count_109 rfl (by decide) [1, 0, 2] [(0, .ref (ux_a G 8)), (2, .int (x2 + (1 : Int32))), (3, .int x3)] rfl rfl ?_
      refine ax_iinc (v := x3 + 1) 113 dX8_count_110 2 rfl rfl (by decide) [1, 2, 0] [(0, .ref (ux_a G 8)), (2, .int (x2 + (1 : Int32))), (3, .int (x3 + 1))] rfl rfl ?_
      refine ax_goto 85 dX8_count_113 (by decide) ?_
      exact ax_sub [0, 1, 2] rfl (hk85 (x2 + (1 : Int32)) (x3 + 1) S hf)
def f_X8_count (n : Nat) (S : ux_S) (p0 : Int32) : Option (Int32 × ux_S) :=
  if p0 = 0 then (some (S.1 8 0, S)) else (if p0 = 1 then (some (S.1 8 22, S)) else (if p0 = 2 then (some (S.1 8 10, S)) else (if p0 = 3 then (some (S.1 8 28, S)) else (if p0 = 4 then (some (S.1 8 31, S)) else (if p0 = 5 then (ux_bv (f_X8_know n S ) (fun S8 => ux_lp2 (b_X8_count_85 n p0) n 0 0 S8)) else (if p0 = 6 then (ux_gd (ux_ib 0 4) (if S.1 63 (0 : Int32).toNatClampNeg = (-4) then (some ((-4), S)) else (ux_gd (ux_ib 0 4) (some (S.1 64 (0 : Int32).toNatClampNeg, S))))) else (if p0 = 7 then (some (S.1 8 6, S)) else (if p0 = 8 then (some (S.1 8 7, S)) else (some ((-1), S))))))))))
set_option maxHeartbeats 2000000 in
set_option maxRecDepth 10000 in
theorem m_X8_count {l : Launch} {G : ux_G} {n : Nat} {S : ux_S} {p0 : Int32} {r : Int32} {Z : ux_S} (hf : f_X8_count n S p0 = some (r, Z)) : ux_M l G yX8_count cX8_count 4 (some .int) 3 [.ref (ux_a G 8), .int p0] S (some (.int r)) Z := by
  refine ux_of (by decide) (Nat.le_of_ble_eq_true rfl) ?_
  show ux_At l G RX8 cX8_count 4 (some .int) 3 (some (.int r)) Z 0 [(0, .ref (ux_a G 8)), (1, .int p0)] [] S
  unfold f_X8_count at hf
  refine ax_iload_n 1 dX8_count_0 rfl 1 rfl rfl ?_
  by_cases c1 : p0 = 0
  · have hf := ux_ift c1 hf
    refine ax_tabIn 0 52 c1 dX8_count_1 (by decide) (by decide) rfl (by decide) ?_
    refine ax_aload_n 53 dX8_count_52 rfl 0 rfl rfl ?_
    refine ax_geti 56 dX8_count_53 fg_X8_112 rfl rfl ?_
    exact ax_iret dX8_count_56 hf
  have hf := ux_iff c1 hf
  by_cases c2 : p0 = 1
  · have hf := ux_ift c2 hf
    refine ax_tabIn 1 57 c2 dX8_count_1 (by decide) (by decide) rfl (by decide) ?_
    refine ax_aload_n 58 dX8_count_57 rfl 0 rfl rfl ?_
    refine ax_geti 61 dX8_count_58 fg_X8_164 rfl rfl ?_
    exact ax_iret dX8_count_61 hf
  have hf := ux_iff c2 hf
  by_cases c3 : p0 = 2
  · have hf := ux_ift c3 hf
    refine ax_tabIn 2 62 c3 dX8_count_1 (by decide) (by decide) rfl (by decide) ?_
    refine ax_aload_n 63 dX8_count_62 rfl 0 rfl rfl ?_
    refine ax_geti 66 dX8_count_63 fg_X8_149 rfl rfl ?_
    exact ax_iret dX8_count_66 hf
  have hf := ux_iff c3 hf
  by_cases c4 : p0 = 3
  · have hf := ux_ift c4 hf
    refine ax_tabIn 3 67 c4 dX8_count_1 (by decide) (by decide) rfl (by decide) ?_
    refine ax_aload_n 68 dX8_count_67 rfl 0 rfl rfl ?_
    refine ax_geti 71 dX8_count_68 fg_X8_194 rfl rfl ?_
    exact ax_iret dX8_count_71 hf
  have hf := ux_iff c4 hf
  by_cases c5 : p0 = 4
  · have hf := ux_ift c5 hf
    refine ax_tabIn 4 72 c5 dX8_count_1 (by decide) (by decide) rfl (by decide) ?_
    refine ax_aload_n 73 dX8_count_72 rfl 0 rfl rfl ?_
    refine ax_geti 76 dX8_count_73 fg_X8_200 rfl rfl ?_
    exact ax_iret dX8_count_76 hf
  have hf := ux_iff c5 hf
  by_cases c6 : p0 = 5
  · have hf := ux_ift c6 hf
    refine ax_tabIn 5 77 c6 dX8_count_1 (by decide) (by decide) rfl (by decide) ?_
    refine ax_aload_n 78 dX8_count_77 rfl 0 rfl rfl ?_
    obtain ⟨S8, e7, hf⟩ := ux_bv_e hf
    refine ax_callVv 81 [] dX8_count_78 fv_X8_217 (m_X8_know e7) (by decide) rfl rfl (by decide) rfl rfl (Nat.le_of_ble_eq_true rfl) rfl ?_
    refine ax_iconst (v := 0) 82 dX8_count_81 (by decide) rfl ?_
    refine ax_istore_n 83 dX8_count_82 rfl (by decide) [1, 2, 0] [(0, .ref (ux_a G 8)), (1, .int p0), (2, .int 0)] rfl rfl ?_
    refine ax_iconst (v := 0) 84 dX8_count_83 (by decide) rfl ?_
    refine ax_istore_n 85 dX8_count_84 rfl (by decide) [1, 2, 3, 0] [(0, .ref (ux_a G 8)), (1, .int p0), (2, .int 0), (3, .int 0)] rfl rfl ?_
    exact ax_sub [0, 2, 3] rfl (ux_lp2_w (Pr := fun x2 x3 S => ux_At l G RX8 cX8_count 4 (some .int) 3 (some (.int r)) Z 85 [(0, .ref (ux_a G 8)), (2, .int x2), (3, .int x3)] [] S) (fun k85 hk85 => w_X8_count_85 k85 hk85) n 0 0 S8 hf)
  have hf := ux_iff c6 hf
  by_cases c13 : p0 = 6
  · have hf := ux_ift c13 hf
    refine ax_tabIn 6 118 c13 dX8_count_1 (by decide) (by decide) rfl (by decide) ?_
    refine ax_aload_n 119 dX8_count_118 rfl 0 rfl rfl ?_
    refine ax_getr 63 122 dX8_count_119 fg_X8_47 rfl (by decide) rfl ?_
    refine ax_iconst (v := 0) 123 dX8_count_122 (by decide) rfl ?_
    obtain ⟨h14, hf⟩ := ux_gd_e hf
    refine ax_iald 124 dX8_count_123 (by decide) rfl h14 rfl ?_
    refine ax_bipush (v := (-4)) 126 dX8_count_124 (by decide) rfl ?_
    refine ax_icmp_ne 134 129 dX8_count_126 (by decide) rfl (fun c15 => ?_) (fun c15 => ?_)
    · have hf := ux_iff c15 hf
      refine ax_aload_n 135 dX8_count_134 rfl 0 rfl rfl ?_
      refine ax_getr 64 138 dX8_count_135 fg_X8_50 rfl (by decide) rfl ?_
      refine ax_iconst (v := 0) 139 dX8_count_138 (by decide) rfl ?_
      obtain ⟨h16, hf⟩ := ux_gd_e hf
      refine ax_iald 140 dX8_count_139 (by decide) rfl h16 rfl ?_
      exact ax_iret dX8_count_140 hf
    · have hf := ux_ift c15 hf
      refine ax_bipush (v := (-4)) 131 dX8_count_129 (by decide) rfl ?_
      refine ax_goto 140 dX8_count_131 (by decide) ?_
      exact ax_iret dX8_count_140 hf
  have hf := ux_iff c13 hf
  by_cases c17 : p0 = 7
  · have hf := ux_ift c17 hf
    refine ax_tabIn 7 141 c17 dX8_count_1 (by decide) (by decide) rfl (by decide) ?_
    refine ax_aload_n 142 dX8_count_141 rfl 0 rfl rfl ?_
    refine ax_geti 145 dX8_count_142 fg_X8_25 rfl rfl ?_
    exact ax_iret dX8_count_145 hf
  have hf := ux_iff c17 hf
  by_cases c18 : p0 = 8
  · have hf := ux_ift c18 hf
    refine ax_tabIn 8 146 c18 dX8_count_1 (by decide) (by decide) rfl (by decide) ?_
    refine ax_aload_n 147 dX8_count_146 rfl 0 rfl rfl ?_
    refine ax_geti 150 dX8_count_147 fg_X8_29 rfl rfl ?_
    exact ax_iret dX8_count_150 hf
  have hf := ux_iff c18 hf
  refine ax_tabOut 151 dX8_count_1 (ax_swOut 9 (by decide) (fun k hk => by match k, hk with | 0, _ => exact c1 | 1, _ => exact c2 | 2, _ => exact c3 | 3, _ => exact c4 | 4, _ => exact c5 | 5, _ => exact c6 | 6, _ => exact c13 | 7, _ => exact c17 | 8, _ => exact c18 | k + 9, hk => exact absurd hk (by omega))) (by decide) ?_
  refine ax_iconst (v := (-1)) 152 dX8_count_151 (by decide) rfl ?_
  exact ax_iret dX8_count_152 hf
