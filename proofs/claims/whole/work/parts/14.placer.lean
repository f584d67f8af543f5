/-! printed by program (wip/gen): pure functions and contracts -/

def f_X4_add (S : ux_S) (p0 : Int32) (p1 : Int32) : Option (Int32 × ux_S) :=
  if S.1 3 2 < 5 then (ux_gd (ux_ib (S.1 3 2) 5) (ux_gd (ux_ib ((ux_i S 23 (S.1 3 2).toNatClampNeg p0).1 3 2) 5) (some (((ux_i (ux_i (ux_i S 23 (S.1 3 2).toNatClampNeg p0) 24 ((ux_i S 23 (S.1 3 2).toNatClampNeg p0).1 3 2).toNatClampNeg p1) 3 2 (((ux_i (ux_i S 23 (S.1 3 2).toNatClampNeg p0) 24 ((ux_i S 23 (S.1 3 2).toNatClampNeg p0).1 3 2).toNatClampNeg p1).1 3 2) + (1 : Int32))).1 3 2) - (1 : Int32), ux_i (ux_i (ux_i S 23 (S.1 3 2).toNatClampNeg p0) 24 ((ux_i S 23 (S.1 3 2).toNatClampNeg p0).1 3 2).toNatClampNeg p1) 3 2 (((ux_i (ux_i S 23 (S.1 3 2).toNatClampNeg p0) 24 ((ux_i S 23 (S.1 3 2).toNatClampNeg p0).1 3 2).toNatClampNeg p1).1 3 2) + (1 : Int32)))))) else (some ((-3), S))
set_option maxHeartbeats 2000000 in
set_option maxRecDepth 10000 in
theorem m_X4_add {l : Launch} {G : ux_G} {S : ux_S} {p0 : Int32} {p1 : Int32} {r : Int32} {Z : ux_S} (hf : f_X4_add S p0 p1 = some (r, Z)) : ux_M l G yX4_add cX4_add 3 (some .int) 1 [.ref (ux_a G 3), .int p0, .int p1] S (some (.int r)) Z := by
  refine ux_of (by decide) (Nat.le_of_ble_eq_true rfl) ?_
  show ux_At l G RX4 cX4_add 3 (some .int) 1 (some (.int r)) Z 0 [(0, .ref (ux_a G 3)), (1, .int p0), (2, .int p1)] [] S
  unfold f_X4_add at hf
  refine ax_aload_n 1 dX4_add_0 rfl 0 rfl rfl ?_
  refine ax_geti 4 dX4_add_1 fg_X4_18 rfl rfl ?_
  refine ax_iconst (v := 5) 5 dX4_add_4 (by decide) rfl ?_
  refine ax_icmp_lt 11 8 dX4_add_5 (by decide) rfl (fun c1 => ?_) (fun c1 => ?_)
  · have hf := ux_ift c1 hf
    refine ax_aload_n 12 dX4_add_11 rfl 0 rfl rfl ?_
    refine ax_getr 23 15 dX4_add_12 fg_X4_9 rfl (by decide) rfl ?_
    refine ax_aload_n 16 dX4_add_15 rfl 0 rfl rfl ?_
    refine ax_geti 19 dX4_add_16 fg_X4_18 rfl rfl ?_
    refine ax_iload_n 20 dX4_add_19 rfl 1 rfl rfl ?_
    obtain ⟨h2, hf⟩ := ux_gd_e hf
    refine ax_iast 21 dX4_add_20 (by decide) rfl h2 rfl ?_
    refine ax_aload_n 22 dX4_add_21 rfl 0 rfl rfl ?_
    refine ax_getr 24 25 dX4_add_22 fg_X4_15 rfl (by decide) rfl ?_
    refine ax_aload_n 26 dX4_add_25 rfl 0 rfl rfl ?_
    refine ax_geti 29 dX4_add_26 fg_X4_18 rfl rfl ?_
    refine ax_iload_n 30 dX4_add_29 rfl 2 rfl rfl ?_
    obtain ⟨h3, hf⟩ := ux_gd_e hf
    refine ax_iast 31 dX4_add_30 (by decide) rfl h3 rfl ?_
    refine ax_aload_n 32 dX4_add_31 rfl 0 rfl rfl ?_
    refine ax_dup 33 dX4_add_32 rfl rfl ?_
    refine ax_geti 36 dX4_add_33 fg_X4_18 rfl rfl ?_
    refine ax_iconst (v := 1) 37 dX4_add_36 (by decide) rfl ?_
    refine ax_iadd 38 dX4_add_37 rfl ?_
    refine ax_put 41 dX4_add_38 fp_X4_18 rfl ?_
    refine ax_aload_n 42 dX4_add_41 rfl 0 rfl rfl ?_
    refine ax_geti 45 dX4_add_42 fg_X4_18 rfl rfl ?_
    refine ax_iconst (v := 1) 46 dX4_add_45 (by decide) rfl ?_
    refine ax_isub 47 dX4_add_46 rfl ?_
    exact ax_iret dX4_add_47 hf
  · have hf := ux_iff c1 hf
    refine ax_bipush (v := (-3)) 10 dX4_add_8 (by decide) rfl ?_
    exact ax_iret dX4_add_10 hf
def b_X4_freeAll_2 (n : Nat) (k2 : Int32 → ux_S → Option ux_S) (x2 : Int32) (S : ux_S) : Option ux_S :=
  if S.1 1 5 ≤ x2 then (some S) else (ux_gd (ux_ib x2 8) (ux_gd (ux_ib x2 8) (k2 (x2 + 1) (ux_i S 27 x2.toNatClampNeg (S.1 12 x2.toNatClampNeg)))))
set_option maxHeartbeats 2000000 in
set_option maxRecDepth 10000 in
theorem w_X4_freeAll_2 {l : Launch} {G : ux_G} {n : Nat} {Z : ux_S} (k2 : Int32 → ux_S → Option ux_S) (hk2 : ∀ (x2 : Int32) (S : ux_S), k2 x2 S = some Z → ux_At l G RX4 cX4_freeAll 3 none 1 none Z 2 [(0, .ref (ux_a G 3)), (1, .ref (ux_a G 1)), (2, .int x2)] [] S) : ∀ (x2 : Int32) (S : ux_S), b_X4_freeAll_2 n k2 x2 S = some Z → ux_At l G RX4 cX4_freeAll 3 none 1 none Z 2 [(0, .ref (ux_a G 3)), (1, .ref (ux_a G 1)), (2, .int x2)] [] S := by
  intro x2 S hf
  unfold b_X4_freeAll_2 at hf
  refine ax_iload_n 3 dX4_freeAll_2 rfl 2 rfl rfl ?_
  refine ax_aload_n 4 dX4_freeAll_3 rfl 1 rfl rfl ?_
  refine ax_geti 7 dX4_freeAll_4 fg_X4_48 rfl rfl ?_
  refine ax_icmp_ge 28 10 dX4_freeAll_7 (by decide) rfl (fun c1 => ?_) (fun c1 => ?_)
  · have hf := ux_ift c1 hf
    exact ax_vret dX4_freeAll_28 hf
  · have hf := ux_iff c1 hf
    refine ax_aload_n 11 dX4_freeAll_10 rfl 0 rfl rfl ?_
    refine ax_getr 27 14 dX4_freeAll_11 fg_X4_28 rfl (by decide) rfl ?_
    refine ax_iload_n 15 dX4_freeAll_14 rfl 2 rfl rfl ?_
    refine ax_aload_n 16 dX4_freeAll_15 rfl 1 rfl rfl ?_
    refine ax_getr 12 19 dX4_freeAll_16 fg_X4_61 rfl (by decide) rfl ?_
    refine ax_iload_n 20 dX4_freeAll_19 rfl 2 rfl rfl ?_
    obtain ⟨h2, hf⟩ := ux_gd_e hf
    refine ax_iald 21 dX4_freeAll_20 (by decide) rfl h2 rfl ?_
    obtain ⟨h3, hf⟩ := ux_gd_e hf
    refine ax_iast 22 dX4_freeAll_21 (by decide) rfl h3 rfl ?_
    refine ax_iinc (v := x2 + 1) 25 dX4_freeAll_22 2 rfl rfl (by decide) [1, 2, 0] [(0, .ref (ux_a G 3)), (1, .ref (ux_a G 1)), (2, .int (x2 + 1))] rfl rfl ?_
    refine ax_goto 2 dX4_freeAll_25 (by decide) ?_
    exact ax_sub [0, 1, 2] rfl (hk2 (x2 + 1) (ux_i S 27 x2.toNatClampNeg (S.1 12 x2.toNatClampNeg)) hf)
def f_X4_freeAll (n : Nat) (S : ux_S) : Option ux_S :=
  ux_lp1 (b_X4_freeAll_2 n) n 0 S
set_option maxHeartbeats 2000000 in
set_option maxRecDepth 10000 in
theorem m_X4_freeAll {l : Launch} {G : ux_G} {n : Nat} {S : ux_S} {Z : ux_S} (hf : f_X4_freeAll n S = some Z) : ux_M l G yX4_freeAll cX4_freeAll 3 none 1 [.ref (ux_a G 3), .ref (ux_a G 1)] S none Z := by
  refine ux_of (by decide) (Nat.le_of_ble_eq_true rfl) ?_
  show ux_At l G RX4 cX4_freeAll 3 none 1 none Z 0 [(0, .ref (ux_a G 3)), (1, .ref (ux_a G 1))] [] S
  unfold f_X4_freeAll at hf
  refine ax_iconst (v := 0) 1 dX4_freeAll_0 (by decide) rfl ?_
  refine ax_istore_n 2 dX4_freeAll_1 rfl (by decide) [1, 2, 0] [(0, .ref (ux_a G 3)), (1, .ref (ux_a G 1)), (2, .int 0)] rfl rfl ?_
  exact ax_sub [0, 1, 2] rfl (ux_lp1_w (Pr := fun x2 S => ux_At l G RX4 cX4_freeAll 3 none 1 none Z 2 [(0, .ref (ux_a G 3)), (1, .ref (ux_a G 1)), (2, .int x2)] [] S) (fun k2 hk2 => w_X4_freeAll_2 k2 hk2) n 0 S hf)
def b_X4_greatest_5 (n : Nat) (p1 : Int32) (k5 : Int32 → Int32 → ux_S → Option (Int32 × ux_S)) (x3 : Int32) (x4 : Int32) (S : ux_S) : Option (Int32 × ux_S) :=
  if S.1 1 5 ≤ x4 then (ux_bi (f_X7_divideUp S x3 (S.1 1 7)) (fun r4 S3 => some (((1000 : Int32) * (S.1 1 6)) + r4, S3))) else (ux_gd (ux_ib p1 6) (ux_gd (ux_ib x4 8) (k5 (if x3 < S.1 (28 + 1 + p1.toNatClampNeg) x4.toNatClampNeg then S.1 (28 + 1 + p1.toNatClampNeg) x4.toNatClampNeg else x3) (x4 + 1) S)))
set_option maxHeartbeats 2000000 in
set_option maxRecDepth 10000 in
theorem w_X4_greatest_5 {l : Launch} {G : ux_G} {n : Nat} {p1 : Int32} {r : Int32} {Z : ux_S} (k5 : Int32 → Int32 → ux_S → Option (Int32 × ux_S)) (hk5 : ∀ (x3 x4 : Int32) (S : ux_S), k5 x3 x4 S = some (r, Z) → ux_At l G RX4 cX4_greatest 5 (some .int) 3 (some (.int r)) Z 5 [(0, .ref (ux_a G 3)), (1, .ref (ux_a G 1)), (2, .int p1), (3, .int x3), (4, .int x4)] [] S) : ∀ (x3 : Int32) (x4 : Int32) (S : ux_S), b_X4_greatest_5 n p1 k5 x3 x4 S = some (r, Z) → ux_At l G RX4 cX4_greatest 5 (some .int) 3 (some (.int r)) Z 5 [(0, .ref (ux_a G 3)), (1, .ref (ux_a G 1)), (2, .int p1), (3, .int x3), (4, .int x4)] [] S := by
  intro x3 x4 S hf
  unfold b_X4_greatest_5 at hf
  refine ax_iload 7 dX4_greatest_5 4 rfl rfl ?_
  refine ax_aload_n 8 dX4_greatest_7 rfl 1 rfl rfl ?_
  refine ax_geti 11 dX4_greatest_8 fg_X4_48 rfl rfl ?_
  refine ax_icmp_ge 34 14 dX4_greatest_11 (by decide) rfl (fun c1 => ?_) (fun c1 => ?_)
  · have hf := ux_ift c1 hf
    refine ax_sipush (v := 1000) 37 dX4_greatest_34 (by decide) rfl ?_
    refine ax_aload_n 38 dX4_greatest_37 rfl 1 rfl rfl ?_
    refine ax_geti 41 dX4_greatest_38 fg_X4_84 rfl rfl ?_
    refine ax_imul 42 dX4_greatest_41 rfl ?_
    refine ax_iload_n 43 dX4_greatest_42 rfl 3 rfl rfl ?_
    refine ax_aload_n 44 dX4_greatest_43 rfl 1 rfl rfl ?_
    refine ax_geti 47 dX4_greatest_44 fg_X4_87 rfl rfl ?_
    obtain ⟨r4, S3, e2, hf⟩ := ux_bi_e hf
    refine ax_callNi 50 [.int x3, .int (S.1 1 7)] dX4_greatest_47 fn_divideUp (fun _ h => h.2.2.2.1) (m_X7_divideUp e2) (by decide) rfl rfl (Nat.le_of_ble_eq_true rfl) rfl ?_
    refine ax_iadd 51 dX4_greatest_50 rfl ?_
    exact ax_iret dX4_greatest_51 hf
  · have hf := ux_iff c1 hf
    refine ax_iload_n 15 dX4_greatest_14 rfl 3 rfl rfl ?_
    refine ax_aload_n 16 dX4_greatest_15 rfl 0 rfl rfl ?_
    refine ax_getr 28 19 dX4_greatest_16 fg_X4_33 rfl (by decide) rfl ?_
    refine ax_iload_n 20 dX4_greatest_19 rfl 2 rfl rfl ?_
    obtain ⟨h5, hf⟩ := ux_gd_e hf
    refine ax_aaldI 21 dX4_greatest_20 (by decide) rfl h5 rfl ?_
    refine ax_iload 23 dX4_greatest_21 4 rfl rfl ?_
    obtain ⟨h6, hf⟩ := ux_gd_e hf
    refine ax_iald 24 dX4_greatest_23 (ux_row28 h5).1 (ux_row28 h5).2 h6 rfl ?_
    refine ax_mmax 27 dX4_greatest_24 (by decide) (Nat.le_of_ble_eq_true rfl) rfl ?_
    refine ax_istore_n 28 dX4_greatest_27 rfl (by decide) [1, 2, 3, 0, 4] [(0, .ref (ux_a G 3)), (1, .ref (ux_a G 1)), (2, .int p1), (3, .int (if x3 < S.1 (28 + 1 + p1.toNatClampNeg) x4.toNatClampNeg then S.1 (28 + 1 + p1.toNatClampNeg) x4.toNatClampNeg else x3)), (4, .int x4)] rfl rfl ?_
    refine ax_iinc (v := x4 + 1) 31 dX4_greatest_28 4 rfl rfl (by decide) [1, 2, 3, 4, 0] [(0, .ref (ux_a G 3)), (1, .ref (ux_a G 1)), (2, .int p1), (3, .int (if x3 < S.1 (28 + 1 + p1.toNatClampNeg) x4.toNatClampNeg then S.1 (28 + 1 + p1.toNatClampNeg) x4.toNatClampNeg else x3)), (4, .int (x4 + 1))] rfl rfl ?_
    refine ax_goto 5 dX4_greatest_31 (by decide) ?_
    exact ax_sub [0, 1, 2, 3, 4] rfl (hk5 (if x3 < S.1 (28 + 1 + p1.toNatClampNeg) x4.toNatClampNeg then S.1 (28 + 1 + p1.toNatClampNeg) x4.toNatClampNeg else x3) (x4 + 1) S hf)
def f_X4_greatest (n : Nat) (S : ux_S) (p1 : Int32) : Option (Int32 × ux_S) :=
  ux_lp2 (b_X4_greatest_5 n p1) n 0 0 S
set_option maxHeartbeats 2000000 in
set_option maxRecDepth 10000 in
theorem m_X4_greatest {l : Launch} {G : ux_G} {n : Nat} {S : ux_S} {p1 : Int32} {r : Int32} {Z : ux_S} (hf : f_X4_greatest n S p1 = some (r, Z)) : ux_M l G yX4_greatest cX4_greatest 5 (some .int) 3 [.ref (ux_a G 3), .ref (ux_a G 1), .int p1] S (some (.int r)) Z := by
  refine ux_of (by decide) (Nat.le_of_ble_eq_true rfl) ?_
  show ux_At l G RX4 cX4_greatest 5 (some .int) 3 (some (.int r)) Z 0 [(0, .ref (ux_a G 3)), (1, .ref (ux_a G 1)), (2, .int p1)] [] S
  unfold f_X4_greatest at hf
  refine ax_iconst (v := 0) 1 dX4_greatest_0 (by decide) rfl ?_
  refine ax_istore_n 2 dX4_greatest_1 rfl (by decide) [1, 2, 3, 0] [(0, .ref (ux_a G 3)), (1, .ref (ux_a G 1)), (2, .int p1), (3, .int 0)] rfl rfl ?_
  refine ax_iconst (v := 0) 3 dX4_greatest_2 (by decide) rfl ?_
  refine ax_istore 5 dX4_greatest_3 (by decide) [1, 2, 3, 4, 0] [(0, .ref (ux_a G 3)), (1, .ref (ux_a G 1)), (2, .int p1), (3, .int 0), (4, .int 0)] rfl rfl ?_
  exact ax_sub [0, 1, 2, 3, 4] rfl (ux_lp2_w (Pr := fun x3 x4 S => ux_At l G RX4 cX4_greatest 5 (some .int) 3 (some (.int r)) Z 5 [(0, .ref (ux_a G 3)), (1, .ref (ux_a G 1)), (2, .int p1), (3, .int x3), (4, .int x4)] [] S) (fun k5 hk5 => w_X4_greatest_5 k5 hk5) n 0 0 S hf)
def b_X4_giveOff_3 (n : Nat) (p1 : Int32) (p2 : Int32) (k3 : Int32 → ux_S → Option ux_S) (x4 : Int32) (S : ux_S) : Option ux_S :=
  if S.1 1 5 ≤ x4 then (some S) else (ux_gd (ux_ib (p1 + (1 : Int32)) 6) (ux_gd (ux_ib p1 6) (ux_gd (ux_ib x4 8) (ux_gd (ux_ib p1 5) (ux_gd (ux_ib x4 8) (ux_gd (ux_ib p2 8) (ux_gd (ux_ib x4 8) (k3 (x4 + 1) (ux_i S (28 + 1 + (p1 + (1 : Int32)).toNatClampNeg) x4.toNatClampNeg ((S.1 (28 + 1 + p1.toNatClampNeg) x4.toNatClampNeg) + ((S.1 23 p1.toNatClampNeg) * (S.1 (13 + 1 + x4.toNatClampNeg) p2.toNatClampNeg))))))))))))
set_option maxHeartbeats 2000000 in
set_option maxRecDepth 10000 in
theorem w_X4_giveOff_3 {l : Launch} {G : ux_G} {n : Nat} {p1 : Int32} {p2 : Int32} {Z : ux_S} (k3 : Int32 → ux_S → Option ux_S) (hk3 : ∀ (x4 : Int32) (S : ux_S), k3 x4 S = some Z → ux_At l G RX4 cX4_giveOff 5 none 1 none Z 3 [(0, .ref (ux_a G 3)), (1, .ref (ux_a G 1)), (2, .int p1), (3, .int p2), (4, .int x4)] [] S) : ∀ (x4 : Int32) (S : ux_S), b_X4_giveOff_3 n p1 p2 k3 x4 S = some Z → ux_At l G RX4 cX4_giveOff 5 none 1 none Z 3 [(0, .ref (ux_a G 3)), (1, .ref (ux_a G 1)), (2, .int p1), (3, .int p2), (4, .int x4)] [] S := by
  intro x4 S hf
  unfold b_X4_giveOff_3 at hf
  refine ax_iload 5 dX4_giveOff_3 4 rfl rfl ?_
  refine ax_aload_n 6 dX4_giveOff_5 rfl 1 rfl rfl ?_
  refine ax_geti 9 dX4_giveOff_6 fg_X4_48 rfl rfl ?_
  refine ax_icmp_ge 55 12 dX4_giveOff_9 (by decide) rfl (fun c1 => ?_) (fun c1 => ?_)
  · have hf := ux_ift c1 hf
    exact ax_vret dX4_giveOff_55 hf
  · have hf := ux_iff c1 hf
    refine ax_aload_n 13 dX4_giveOff_12 rfl 0 rfl rfl ?_
    refine ax_getr 28 16 dX4_giveOff_13 fg_X4_33 rfl (by decide) rfl ?_
    refine ax_iload_n 17 dX4_giveOff_16 rfl 2 rfl rfl ?_
    refine ax_iconst (v := 1) 18 dX4_giveOff_17 (by decide) rfl ?_
    refine ax_iadd 19 dX4_giveOff_18 rfl ?_
    obtain ⟨h2, hf⟩ := ux_gd_e hf
    refine ax_aaldI 20 dX4_giveOff_19 (by decide) rfl h2 rfl ?_
    refine ax_iload 22 dX4_giveOff_20 4 rfl rfl ?_
    refine ax_aload_n 23 dX4_giveOff_22 rfl 0 rfl rfl ?_
    refine ax_getr 28 26 dX4_giveOff_23 fg_X4_33 rfl (by decide) rfl ?_
    refine ax_iload_n 27 dX4_giveOff_26 rfl 2 rfl rfl ?_
    obtain ⟨h3, hf⟩ := ux_gd_e hf
    refine ax_aaldI 28 dX4_giveOff_27 (by decide) rfl h3 rfl ?_
    refine ax_iload 30 dX4_giveOff_28 4 rfl rfl ?_
    obtain ⟨h4, hf⟩ := ux_gd_e hf
    refine ax_iald 31 dX4_giveOff_30 (ux_row28 h3).1 (ux_row28 h3).2 h4 rfl ?_
    refine ax_aload_n 32 dX4_giveOff_31 rfl 0 rfl rfl ?_
    refine ax_getr 23 35 dX4_giveOff_32 fg_X4_9 rfl (by decide) rfl ?_
    refine ax_iload_n 36 dX4_giveOff_35 rfl 2 rfl rfl ?_
    obtain ⟨h5, hf⟩ := ux_gd_e hf
    refine ax_iald 37 dX4_giveOff_36 (by decide) rfl h5 rfl ?_
    refine ax_aload_n 38 dX4_giveOff_37 rfl 1 rfl rfl ?_
    refine ax_getr 13 41 dX4_giveOff_38 fg_X4_75 rfl (by decide) rfl ?_
    refine ax_iload 43 dX4_giveOff_41 4 rfl rfl ?_
    obtain ⟨h6, hf⟩ := ux_gd_e hf
    refine ax_aaldI 44 dX4_giveOff_43 (by decide) rfl h6 rfl ?_
    refine ax_iload_n 45 dX4_giveOff_44 rfl 3 rfl rfl ?_
    obtain ⟨h7, hf⟩ := ux_gd_e hf
    refine ax_iald 46 dX4_giveOff_45 (ux_row13 h6).1 (ux_row13 h6).2 h7 rfl ?_
    refine ax_imul 47 dX4_giveOff_46 rfl ?_
    refine ax_iadd 48 dX4_giveOff_47 rfl ?_
    obtain ⟨h8, hf⟩ := ux_gd_e hf
    refine ax_iast 49 dX4_giveOff_48 (ux_row28 h2).1 (ux_row28 h2).2 h8 rfl ?_
    refine ax_iinc (v := x4 + 1) 52 dX4_giveOff_49 4 rfl rfl (by decide) [1, 2, 3, 4, 0] [(0, .ref (ux_a G 3)), (1, .ref (ux_a G 1)), (2, .int p1), (3, .int p2), (4, .int (x4 + 1))] rfl rfl ?_
    refine ax_goto 3 dX4_giveOff_52 (by decide) ?_
    exact ax_sub [0, 1, 2, 3, 4] rfl (hk3 (x4 + 1) (ux_i S (28 + 1 + (p1 + (1 : Int32)).toNatClampNeg) x4.toNatClampNeg ((S.1 (28 + 1 + p1.toNatClampNeg) x4.toNatClampNeg) + ((S.1 23 p1.toNatClampNeg) * (S.1 (13 + 1 + x4.toNatClampNeg) p2.toNatClampNeg)))) hf)
def f_X4_giveOff (n : Nat) (S : ux_S) (p1 : Int32) (p2 : Int32) : Option ux_S :=
  ux_lp1 (b_X4_giveOff_3 n p1 p2) n 0 S
set_option maxHeartbeats 2000000 in
set_option maxRecDepth 10000 in
theorem m_X4_giveOff {l : Launch} {G : ux_G} {n : Nat} {S : ux_S} {p1 : Int32} {p2 : Int32} {Z : ux_S} (hf : f_X4_giveOff n S p1 p2 = some Z) : ux_M l G yX4_giveOff cX4_giveOff 5 none 1 [.ref (ux_a G 3), .ref (ux_a G 1), .int p1, .int p2] S none Z := by
  refine ux_of (by decide) (Nat.le_of_ble_eq_true rfl) ?_
  show ux_At l G RX4 cX4_giveOff 5 none 1 none Z 0 [(0, .ref (ux_a G 3)), (1, .ref (ux_a G 1)), (2, .int p1), (3, .int p2)] [] S
  unfold f_X4_giveOff at hf
  refine ax_iconst (v := 0) 1 dX4_giveOff_0 (by decide) rfl ?_
  refine ax_istore 3 dX4_giveOff_1 (by decide) [1, 2, 3, 4, 0] [(0, .ref (ux_a G 3)), (1, .ref (ux_a G 1)), (2, .int p1), (3, .int p2), (4, .int 0)] rfl rfl ?_
  exact ax_sub [0, 1, 2, 3, 4] rfl (ux_lp1_w (Pr := fun x4 S => ux_At l G RX4 cX4_giveOff 5 none 1 none Z 3 [(0, .ref (ux_a G 3)), (1, .ref (ux_a G 1)), (2, .int p1), (3, .int p2), (4, .int x4)] [] S) (fun k3 hk3 => w_X4_giveOff_3 k3 hk3) n 0 S hf)
def b_X4_countFrom_15 (n : Nat) (kr : ux_S → Int32 → Option (Int32 × ux_S)) (p1 : Int32) (k15 : Int32 → Int32 → ux_S → Option (Int32 × ux_S)) (x3 : Int32) (x4 : Int32) (S : ux_S) : Option (Int32 × ux_S) :=
  if S.1 1 5 ≤ x4 then (some (x3, S)) else (ux_gd (ux_ib x4 8) (ux_gd (ux_ib p1 5) (if S.1 27 x4.toNatClampNeg < S.1 24 p1.toNatClampNeg then (k15 x3 (x4 + 1) S) else (ux_gd (ux_ib x4 8) (ux_gd (ux_ib p1 5) (ux_gd (ux_ib x4 8) (ux_bi (kr (ux_i S 27 x4.toNatClampNeg ((S.1 27 x4.toNatClampNeg) - (S.1 24 p1.toNatClampNeg))) (p1 + (1 : Int32))) (fun r11 S10 => ux_gd (ux_ib x4 8) (ux_gd (ux_ib p1 5) (ux_gd (ux_ib x4 8) (k15 (x3 + r11) (x4 + 1) (ux_i S10 27 x4.toNatClampNeg ((S10.1 27 x4.toNatClampNeg) + (S10.1 24 p1.toNatClampNeg))))))))))))))
set_option maxHeartbeats 2000000 in
set_option maxRecDepth 10000 in
theorem w_X4_countFrom_15 {l : Launch} {G : ux_G} {n : Nat} {p1 : Int32} {kr : ux_S → Int32 → Option (Int32 × ux_S)} {r : Int32} {Z : ux_S} {dd : Nat} (hdd : 0 ≤ dd) (hkr : ∀ (S : ux_S) (p1 : Int32) (r : Int32) (Z : ux_S), kr S p1 = some (r, Z) → ux_M l G yX4_countFrom cX4_countFrom 5 (some .int) dd [.ref (ux_a G 3), .ref (ux_a G 1), .int p1] S (some (.int r)) Z) (k15 : Int32 → Int32 → ux_S → Option (Int32 × ux_S)) (hk15 : ∀ (x3 x4 : Int32) (S : ux_S), k15 x3 x4 S = some (r, Z) → ux_At l G RX4 cX4_countFrom 5 (some .int) (dd + 1) (some (.int r)) Z 15 [(0, .ref (ux_a G 3)), (1, .ref (ux_a G 1)), (2, .int p1), (3, .int x3), (4, .int x4)] [] S) : ∀ (x3 : Int32) (x4 : Int32) (S : ux_S), b_X4_countFrom_15 n kr p1 k15 x3 x4 S = some (r, Z) → ux_At l G RX4 cX4_countFrom 5 (some .int) (dd + 1) (some (.int r)) Z 15 [(0, .ref (ux_a G 3)), (1, .ref (ux_a G 1)), (2, .int p1), (3, .int x3), (4, .int x4)] [] S := by
  intro x3 x4 S hf
  unfold b_X4_countFrom_15 at hf
  refine ax_iload 17 dX4_countFrom_15 4 rfl rfl ?_
  refine ax_aload_n 18 dX4_countFrom_17 rfl 1 rfl rfl ?_
  refine ax_geti 21 dX4_countFrom_18 fg_X4_48 rfl rfl ?_
  refine ax_icmp_ge 89 24 dX4_countFrom_21 (by decide) rfl (fun c2 => ?_) (fun c2 => ?_)
  · have hf := ux_ift c2 hf
    refine ax_iload_n 90 dX4_countFrom_89 rfl 3 rfl rfl ?_
    exact ax_iret dX4_countFrom_90 hf
  · have hf := ux_iff c2 hf
    refine ax_aload_n 25 dX4_countFrom_24 rfl 0 rfl rfl ?_
    refine ax_getr 27 28 dX4_countFrom_25 fg_X4_28 rfl (by decide) rfl ?_
    refine ax_iload 30 dX4_countFrom_28 4 rfl rfl ?_
    obtain ⟨h3, hf⟩ := ux_gd_e hf
    refine ax_iald 31 dX4_countFrom_30 (by decide) rfl h3 rfl ?_
    refine ax_aload_n 32 dX4_countFrom_31 rfl 0 rfl rfl ?_
    refine ax_getr 24 35 dX4_countFrom_32 fg_X4_15 rfl (by decide) rfl ?_
    refine ax_iload_n 36 dX4_countFrom_35 rfl 2 rfl rfl ?_
    obtain ⟨h4, hf⟩ := ux_gd_e hf
    refine ax_iald 37 dX4_countFrom_36 (by decide) rfl h4 rfl ?_
    refine ax_icmp_lt 83 40 dX4_countFrom_37 (by decide) rfl (fun c5 => ?_) (fun c5 => ?_)
    · have hf := ux_ift c5 hf
      refine ax_iinc (v := x4 + 1) 86 dX4_countFrom_83 4 rfl rfl (by decide) [1, 2, 3, 4, 0] [(0, .ref (ux_a G 3)), (1, .ref (ux_a G 1)), (2, .int p1), (3, .int x3), (4, .int (x4 + 1))] rfl rfl ?_
      refine ax_goto 15 dX4_countFrom_86 (by decide) ?_
      exact ax_sub [0, 1, 2, 3, 4] rfl (hk15 x3 (x4 + 1) S hf)
    · have hf := ux_iff c5 hf
      refine ax_aload_n 41 dX4_countFrom_40 rfl 0 rfl rfl ?_
      refine ax_getr 27 44 dX4_countFrom_41 fg_X4_28 rfl (by decide) rfl ?_
      refine ax_iload 46 dX4_countFrom_44 4 rfl rfl ?_
      refine ax_dup2 47 dX4_countFrom_46 rfl rfl rfl ?_
      obtain ⟨h6, hf⟩ := ux_gd_e hf
      refine ax_iald 48 dX4_countFrom_47 (by decide) rfl h6 rfl ?_
      refine ax_aload_n 49 dX4_countFrom_48 rfl 0 rfl rfl ?_
      refine ax_getr 24 52 dX4_countFrom_49 fg_X4_15 rfl (by decide) rfl ?_
      refine ax_iload_n 53 dX4_countFrom_52 rfl 2 rfl rfl ?_
      obtain ⟨h7, hf⟩ := ux_gd_e hf
      refine ax_iald 54 dX4_countFrom_53 (by decide) rfl h7 rfl ?_
      refine ax_isub 55 dX4_countFrom_54 rfl ?_
      obtain ⟨h8, hf⟩ := ux_gd_e hf
      refine ax_iast 56 dX4_countFrom_55 (by decide) rfl h8 rfl ?_
      refine ax_iload_n 57 dX4_countFrom_56 rfl 3 rfl rfl ?_
      refine ax_aload_n 58 dX4_countFrom_57 rfl 0 rfl rfl ?_
      refine ax_aload_n 59 dX4_countFrom_58 rfl 1 rfl rfl ?_
      refine ax_iload_n 60 dX4_countFrom_59 rfl 2 rfl rfl ?_
      refine ax_iconst (v := 1) 61 dX4_countFrom_60 (by decide) rfl ?_
      refine ax_iadd 62 dX4_countFrom_61 rfl ?_
      obtain ⟨r11, S10, e9, hf⟩ := ux_bi_e hf
      refine ax_callVi 65 [.ref (ux_a G 1), .int (p1 + (1 : Int32))] dX4_countFrom_62 fv_X4_44 (hkr _ _ _ _ e9) (by decide) rfl rfl (by omega) rfl rfl (Nat.le_of_ble_eq_true rfl) rfl ?_
      refine ax_iadd 66 dX4_countFrom_65 rfl ?_
      refine ax_istore_n 67 dX4_countFrom_66 rfl (by decide) [1, 2, 3, 0, 4] [(0, .ref (ux_a G 3)), (1, .ref (ux_a G 1)), (2, .int p1), (3, .int (x3 + r11)), (4, .int x4)] rfl rfl ?_
      refine ax_aload_n 68 dX4_countFrom_67 rfl 0 rfl rfl ?_
      refine ax_getr 27 71 dX4_countFrom_68 fg_X4_28 rfl (by decide) rfl ?_
      refine ax_iload 73 dX4_countFrom_71 4 rfl rfl ?_
      refine ax_dup2 74 dX4_countFrom_73 rfl rfl rfl ?_
      obtain ⟨h12, hf⟩ := ux_gd_e hf
      refine ax_iald 75 dX4_countFrom_74 (by decide) rfl h12 rfl ?_
      refine ax_aload_n 76 dX4_countFrom_75 rfl 0 rfl rfl ?_
      refine ax_getr 24 79 dX4_countFrom_76 fg_X4_15 rfl (by decide) rfl ?_
      refine ax_iload_n 80 dX4_countFrom_79 rfl 2 rfl rfl ?_
      obtain ⟨h13, hf⟩ := ux_gd_e hf
      refine ax_iald 81 dX4_countFrom_80 (by decide) rfl h13 rfl ?_
      refine ax_iadd 82 dX4_countFrom_81 rfl ?_
      obtain ⟨h14, hf⟩ := ux_gd_e hf
      refine ax_iast 83 dX4_countFrom_82 (by decide) rfl h14 rfl ?_
      refine ax_iinc (v := x4 + 1) 86 dX4_countFrom_83 4 rfl rfl (by decide) [1, 2, 3, 4, 0] [(0, .ref (ux_a G 3)), (1, .ref (ux_a G 1)), (2, .int p1), (3, .int (x3 + r11)), (4, .int (x4 + 1))] rfl rfl ?_
      refine ax_goto 15 dX4_countFrom_86 (by decide) ?_
      exact ax_sub [0, 1, 2, 3, 4] rfl (hk15 (x3 + r11) (x4 + 1) (ux_i S10 27 x4.toNatClampNeg ((S10.1 27 x4.toNatClampNeg) + (S10.1 24 p1.toNatClampNeg))) hf)
def fb_X4_countFrom (n : Nat) (kr : ux_S → Int32 → Option (Int32 × ux_S)) (S : ux_S) (p1 : Int32) : Option (Int32 × ux_S) :=
  if p1 < S.1 3 2 then (ux_lp2 (b_X4_countFrom_15 n kr p1) n 0 0 S) else (some (1, S))
set_option maxHeartbeats 2000000 in
set_option maxRecDepth 10000 in
theorem mb_X4_countFrom {l : Launch} {G : ux_G} {n : Nat} {kr : ux_S → Int32 → Option (Int32 × ux_S)} {S : ux_S} {p1 : Int32} {r : Int32} {Z : ux_S} {dd : Nat} (hdd : 0 ≤ dd) (hkr : ∀ (S : ux_S) (p1 : Int32) (r : Int32) (Z : ux_S), kr S p1 = some (r, Z) → ux_M l G yX4_countFrom cX4_countFrom 5 (some .int) dd [.ref (ux_a G 3), .ref (ux_a G 1), .int p1] S (some (.int r)) Z) (hf : fb_X4_countFrom n kr S p1 = some (r, Z)) : ux_M l G yX4_countFrom cX4_countFrom 5 (some .int) (dd + 1) [.ref (ux_a G 3), .ref (ux_a G 1), .int p1] S (some (.int r)) Z := by
  refine ux_of (by decide) (Nat.le_of_ble_eq_true rfl) ?_
  show ux_At l G RX4 cX4_countFrom 5 (some .int) (dd + 1) (some (.int r)) Z 0 [(0, .ref (ux_a G 3)), (1, .ref (ux_a G 1)), (2, .int p1)] [] S
  unfold fb_X4_countFrom at hf
  refine ax_iload_n 1 dX4_countFrom_0 rfl 2 rfl rfl ?_
  refine ax_aload_n 2 dX4_countFrom_1 rfl 0 rfl rfl ?_
  refine ax_geti 5 dX4_countFrom_2 fg_X4_18 rfl rfl ?_
  refine ax_icmp_lt 10 8 dX4_countFrom_5 (by decide) rfl (fun c1 => ?_) (fun c1 => ?_)
  · have hf := ux_ift c1 hf
    refine ax_iconst (v := 0) 11 dX4_countFrom_10 (by decide) rfl ?_
    refine ax_istore_n 12 dX4_countFrom_11 rfl (by decide) [1, 2, 3, 0] [(0, .ref (ux_a G 3)), (1, .ref (ux_a G 1)), (2, .int p1), (3, .int 0)] rfl rfl ?_
    refine ax_iconst (v := 0) 13 dX4_countFrom_12 (by decide) rfl ?_
    refine ax_istore 15 dX4_countFrom_13 (by decide) [1, 2, 3, 4, 0] [(0, .ref (ux_a G 3)), (1, .ref (ux_a G 1)), (2, .int p1), (3, .int 0), (4, .int 0)] rfl rfl ?_
    exact ax_sub [0, 1, 2, 3, 4] rfl (ux_lp2_w (Pr := fun x3 x4 S => ux_At l G RX4 cX4_countFrom 5 (some .int) (dd + 1) (some (.int r)) Z 15 [(0, .ref (ux_a G 3)), (1, .ref (ux_a G 1)), (2, .int p1), (3, .int x3), (4, .int x4)] [] S) (fun k15 hk15 => w_X4_countFrom_15 hdd hkr k15 hk15) n 0 0 S hf)
  · have hf := ux_iff c1 hf
    refine ax_iconst (v := 1) 9 dX4_countFrom_8 (by decide) rfl ?_
    exact ax_iret dX4_countFrom_9 hf
def f_X4_countFrom_r (n : Nat) : Nat → ux_S → Int32 → Option (Int32 × ux_S)
  | 0 => fun _ _ => none
  | t + 1 => fun S p1 => fb_X4_countFrom n (f_X4_countFrom_r n t) S p1
theorem m_X4_countFrom_r {l : Launch} {G : ux_G} {n : Nat} : ∀ (t : Nat) (S : ux_S) (p1 : Int32) (r : Int32) (Z : ux_S), f_X4_countFrom_r n t S p1 = some (r, Z) → ux_M l G yX4_countFrom cX4_countFrom 5 (some .int) (0 + t) [.ref (ux_a G 3), .ref (ux_a G 1), .int p1] S (some (.int r)) Z := by
  intro t
  induction t with
  | zero => intro S p1 r Z h; cases h
  | succ t ih => intro S p1 r Z h; exact mb_X4_countFrom (dd := 0 + t) (by omega) ih h
def f_X4_countFrom (n : Nat) (S : ux_S) (p1 : Int32) : Option (Int32 × ux_S) := f_X4_countFrom_r n 7 S p1
theorem m_X4_countFrom {l : Launch} {G : ux_G} {n : Nat} {S : ux_S} {p1 : Int32} {r : Int32} {Z : ux_S} (hf : f_X4_countFrom n S p1 = some (r, Z)) : ux_M l G yX4_countFrom cX4_countFrom 5 (some .int) 7 [.ref (ux_a G 3), .ref (ux_a G 1), .int p1] S (some (.int r)) Z := m_X4_countFrom_r 7 S p1 r Z hf
def f_X4_countAll (n : Nat) (S : ux_S) : Option (Int32 × ux_S) :=
  ux_bv (f_X4_freeAll n S ) (fun S2 => ux_bi (f_X4_countFrom n S2 0) (fun r6 S5 => some (r6, S5)))
set_option maxHeartbeats 2000000 in
set_option maxRecDepth 10000 in
theorem m_X4_countAll {l : Launch} {G : ux_G} {n : Nat} {S : ux_S} {r : Int32} {Z : ux_S} (hf : f_X4_countAll n S = some (r, Z)) : ux_M l G yX4_countAll cX4_countAll 2 (some .int) 8 [.ref (ux_a G 3), .ref (ux_a G 1)] S (some (.int r)) Z := by
  refine ux_of (by decide) (Nat.le_of_ble_eq_true rfl) ?_
  show ux_At l G RX4 cX4_countAll 2 (some .int) 8 (some (.int r)) Z 0 [(0, .ref (ux_a G 3)), (1, .ref (ux_a G 1))] [] S
  unfold f_X4_countAll at hf
  refine ax_aload_n 1 dX4_countAll_0 rfl 0 rfl rfl ?_
  refine ax_aload_n 2 dX4_countAll_1 rfl 1 rfl rfl ?_
  obtain ⟨S2, e1, hf⟩ := ux_bv_e hf
  refine ax_callVv 5 [.ref (ux_a G 1)] dX4_countAll_2 fv_X4_40 (m_X4_freeAll e1) (by decide) rfl rfl (by decide) rfl rfl (Nat.le_of_ble_eq_true rfl) rfl ?_
  refine ax_aload_n 6 dX4_countAll_5 rfl 0 rfl rfl ?_
  refine ax_aload_n 7 dX4_countAll_6 rfl 1 rfl rfl ?_
  refine ax_iconst (v := 0) 8 dX4_countAll_7 (by decide) rfl ?_
  obtain ⟨r6, S5, e4, hf⟩ := ux_bi_e hf
  refine ax_callVi 11 [.ref (ux_a G 1), .int 0] dX4_countAll_8 fv_X4_44 (m_X4_countFrom e4) (by decide) rfl rfl (by decide) rfl rfl (Nat.le_of_ble_eq_true rfl) rfl ?_
  exact ax_iret dX4_countAll_11 hf
def b_X4_searchFrom_47 (n : Nat) (kr : ux_S → Int32 → Option ux_S) (p1 : Int32) (k47 : Int32 → ux_S → Option ux_S) (x4 : Int32) (S : ux_S) : Option ux_S :=
  if S.1 1 5 ≤ x4 then (some S) else (ux_gd (ux_ib x4 8) (ux_gd (ux_ib p1 5) (if S.1 27 x4.toNatClampNeg < S.1 24 p1.toNatClampNeg then (k47 (x4 + 1) S) else (ux_gd (ux_ib p1 5) (ux_bv (f_X4_giveOff n (ux_i S 26 p1.toNatClampNeg x4) p1 x4) (fun S12 => ux_gd (ux_ib x4 8) (ux_gd (ux_ib p1 5) (ux_gd (ux_ib x4 8) (ux_bv (kr (ux_i S12 27 x4.toNatClampNeg ((S12.1 27 x4.toNatClampNeg) - (S12.1 24 p1.toNatClampNeg))) (p1 + (1 : Int32))) (fun S18 => ux_gd (ux_ib x4 8) (ux_gd (ux_ib p1 5) (ux_gd (ux_ib x4 8) (k47 (x4 + 1) (ux_i S18 27 x4.toNatClampNeg ((S18.1 27 x4.toNatClampNeg) + (S18.1 24 p1.toNatClampNeg))))))))))))))))
set_option maxHeartbeats 2000000 in
set_option maxRecDepth 10000 in
theorem w_X4_searchFrom_47 {l : Launch} {G : ux_G} {n : Nat} {p1 : Int32} {kr : ux_S → Int32 → Option ux_S} {Z : ux_S} {dd : Nat} (hdd : 3 ≤ dd) (hkr : ∀ (S : ux_S) (p1 : Int32) (Z : ux_S), kr S p1 = some Z → ux_M l G yX4_searchFrom cX4_searchFrom 5 none dd [.ref (ux_a G 3), .ref (ux_a G 1), .int p1] S none Z) (k47 : Int32 → ux_S → Option ux_S) (hk47 : ∀ (x4 : Int32) (S : ux_S), k47 x4 S = some Z → ux_At l G RX4 cX4_searchFrom 5 none (dd + 1) none Z 47 [(0, .ref (ux_a G 3)), (1, .ref (ux_a G 1)), (2, .int p1), (4, .int x4)] [] S) : ∀ (x4 : Int32) (S : ux_S), b_X4_searchFrom_47 n kr p1 k47 x4 S = some Z → ux_At l G RX4 cX4_searchFrom 5 none (dd + 1) none Z 47 [(0, .ref (ux_a G 3)), (1, .ref (ux_a G 1)), (2, .int p1), (4, .int x4)] [] S := by
  intro x4 S hf
  unfold b_X4_searchFrom_47 at hf
  refine ax_iload 49 dX4_searchFrom_47 3 rfl rfl ?_
  refine ax_aload_n 50 dX4_searchFrom_49 rfl 1 rfl rfl ?_
  refine ax_geti 53 dX4_searchFrom_50 fg_X4_48 rfl rfl ?_
  refine ax_icmp_ge 134 56 dX4_searchFrom_53 (by decide) rfl (fun c6 => ?_) (fun c6 => ?_)
  · have hf := ux_ift c6 hf
    exact ax_vret dX4_searchFrom_134 hf
  · have hf := ux_iff c6 hf
    refine ax_aload_n 57 dX4_searchFrom_56 rfl 0 rfl rfl ?_
    refine ax_getr 27 60 dX4_searchFrom_57 fg_X4_28 rfl (by decide) rfl ?_
    refine ax_iload 62 dX4_searchFrom_60 3 rfl rfl ?_
    obtain ⟨h7, hf⟩ := ux_gd_e hf
    refine ax_iald 63 dX4_searchFrom_62 (by decide) rfl h7 rfl ?_
    refine ax_aload_n 64 dX4_searchFrom_63 rfl 0 rfl rfl ?_
    refine ax_getr 24 67 dX4_searchFrom_64 fg_X4_15 rfl (by decide) rfl ?_
    refine ax_iload_n 68 dX4_searchFrom_67 rfl 2 rfl rfl ?_
    obtain ⟨h8, hf⟩ := ux_gd_e hf
    refine ax_iald 69 dX4_searchFrom_68 (by decide) rfl h8 rfl ?_
    refine ax_icmp_lt 128 72 dX4_searchFrom_69 (by decide) rfl (fun c9 => ?_) (fun c9 => ?_)
    · have hf := ux_ift c9 hf
      refine ax_iinc (v := x4 + 1) 131 dX4_searchFrom_128 3 rfl rfl (by decide) [1, 2, 3, 0] [(0, .ref (ux_a G 3)), (1, .ref (ux_a G 1)), (2, .int p1), (4, .int (x4 + 1))] rfl rfl ?_
      refine ax_goto 47 dX4_searchFrom_131 (by decide) ?_
      exact ax_sub [0, 1, 2, 3] rfl (hk47 (x4 + 1) S hf)
    · have hf := ux_iff c9 hf
      refine ax_aload_n 73 dX4_searchFrom_72 rfl 0 rfl rfl ?_
      refine ax_getr 26 76 dX4_searchFrom_73 fg_X4_25 rfl (by decide) rfl ?_
      refine ax_iload_n 77 dX4_searchFrom_76 rfl 2 rfl rfl ?_
      refine ax_iload 79 dX4_searchFrom_77 3 rfl rfl ?_
      obtain ⟨h10, hf⟩ := ux_gd_e hf
      refine ax_iast 80 dX4_searchFrom_79 (by decide) rfl h10 rfl ?_
      refine ax_aload_n 81 dX4_searchFrom_80 rfl 0 rfl rfl ?_
      refine ax_aload_n 82 dX4_searchFrom_81 rfl 1 rfl rfl ?_
      refine ax_iload_n 83 dX4_searchFrom_82 rfl 2 rfl rfl ?_
      refine ax_iload 85 dX4_searchFrom_83 3 rfl rfl ?_
      obtain ⟨S12, e11, hf⟩ := ux_bv_e hf
      refine ax_callVv 88 [.ref (ux_a G 1), .int p1, .int x4] dX4_searchFrom_85 fv_X4_71 (m_X4_giveOff e11) (by decide) rfl rfl (by omega) rfl rfl (Nat.le_of_ble_eq_true rfl) rfl ?_
      refine ax_aload_n 89 dX4_searchFrom_88 rfl 0 rfl rfl ?_
      refine ax_getr 27 92 dX4_searchFrom_89 fg_X4_28 rfl (by decide) rfl ?_
      refine ax_iload 94 dX4_searchFrom_92 3 rfl rfl ?_
      refine ax_dup2 95 dX4_searchFrom_94 rfl rfl rfl ?_
      obtain ⟨h14, hf⟩ := ux_gd_e hf
      refine ax_iald 96 dX4_searchFrom_95 (by decide) rfl h14 rfl ?_
      refine ax_aload_n 97 dX4_searchFrom_96 rfl 0 rfl rfl ?_
      refine ax_getr 24 100 dX4_searchFrom_97 fg_X4_15 rfl (by decide) rfl ?_
      refine ax_iload_n 101 dX4_searchFrom_100 rfl 2 rfl rfl ?_
      obtain ⟨h15, hf⟩ := ux_gd_e hf
      refine ax_iald 102 dX4_searchFrom_101 (by decide) rfl h15 rfl ?_
      refine ax_isub 103 dX4_searchFrom_102 rfl ?_
      obtain ⟨h16, hf⟩ := ux_gd_e hf
      refine ax_iast 104 dX4_searchFrom_103 (by decide) rfl h16 rfl ?_
      refine ax_aload_n 105 dX4_searchFrom_104 rfl 0 rfl rfl ?_
      refine ax_aload_n 106 dX4_searchFrom_105 rfl 1 rfl rfl ?_
      refine ax_iload_n 107 dX4_searchFrom_106 rfl 2 rfl rfl ?_
      refine ax_iconst (v := 1) 108 dX4_searchFrom_107 (by decide) rfl ?_
      refine ax_iadd 109 dX4_searchFrom_108 rfl ?_
      obtain ⟨S18, e17, hf⟩ := ux_bv_e hf
      refine ax_callVv 112 [.ref (ux_a G 1), .int (p1 + (1 : Int32))] dX4_searchFrom_109 fv_X4_57 (hkr _ _ _ e17) (by decide) rfl rfl (by omega) rfl rfl (Nat.le_of_ble_eq_true rfl) rfl ?_
      refine ax_aload_n 113 dX4_searchFrom_112 rfl 0 rfl rfl ?_
      refine ax_getr 27 116 dX4_searchFrom_113 fg_X4_28 rfl (by decide) rfl ?_
      refine ax_iload 118 dX4_searchFrom_116 3 rfl rfl ?_
      refine ax_dup2 119 dX4_searchFrom_118 rfl rfl rfl ?_
      obtain ⟨h20, hf⟩ := ux_gd_e hf
      refine ax_iald 120 dX4_searchFrom_119 (by decide) rfl h20 rfl ?_
      refine ax_aload_n 121 dX4_searchFrom_120 rfl 0 rfl rfl ?_
      refine ax_getr 24 124 dX4_searchFrom_121 fg_X4_15 rfl (by decide) rfl ?_
      refine ax_iload_n 125 dX4_searchFrom_124 rfl 2 rfl rfl ?_
      obtain ⟨h21, hf⟩ := ux_gd_e hf
      refine ax_iald 126 dX4_searchFrom_125 (by decide) rfl h21 rfl ?_
      refine ax_iadd 127 dX4_searchFrom_126 rfl ?_
      obtain ⟨h22, hf⟩ := ux_gd_e hf
      refine ax_iast 128 dX4_searchFrom_127 (by decide) rfl h22 rfl ?_
      refine ax_iinc (v := x4 + 1) 131 dX4_searchFrom_128 3 rfl rfl (by decide) [1, 2, 3, 0] [(0, .ref (ux_a G 3)), (1, .ref (ux_a G 1)), (2, .int p1), (4, .int (x4 + 1))] rfl rfl ?_
      refine ax_goto 47 dX4_searchFrom_131 (by decide) ?_
      exact ax_sub [0, 1, 2, 3] rfl (hk47 (x4 + 1) (ux_i S18 27 x4.toNatClampNeg ((S18.1 27 x4.toNatClampNeg) + (S18.1 24 p1.toNatClampNeg))) hf)
def fb_X4_searchFrom (n : Nat) (kr : ux_S → Int32 → Option ux_S) (S : ux_S) (p1 : Int32) : Option ux_S :=
  ux_bi (f_X4_greatest n S p1) (fun r3 S2 => if r3 < S2.1 3 7 then (if p1 < S2.1 3 2 then (ux_lp1 (b_X4_searchFrom_47 n kr p1) n 0 S2) else (some (ux_c (ux_i S2 3 7 r3) 26 25 5))) else (some S2))
set_option maxHeartbeats 2000000 in
set_option maxRecDepth 10000 in
theorem mb_X4_searchFrom {l : Launch} {G : ux_G} {n : Nat} {kr : ux_S → Int32 → Option ux_S} {S : ux_S} {p1 : Int32} {Z : ux_S} {dd : Nat} (hdd : 3 ≤ dd) (hkr : ∀ (S : ux_S) (p1 : Int32) (Z : ux_S), kr S p1 = some Z → ux_M l G yX4_searchFrom cX4_searchFrom 5 none dd [.ref (ux_a G 3), .ref (ux_a G 1), .int p1] S none Z) (hf : fb_X4_searchFrom n kr S p1 = some Z) : ux_M l G yX4_searchFrom cX4_searchFrom 5 none (dd + 1) [.ref (ux_a G 3), .ref (ux_a G 1), .int p1] S none Z := by
  refine ux_of (by decide) (Nat.le_of_ble_eq_true rfl) ?_
  show ux_At l G RX4 cX4_searchFrom 5 none (dd + 1) none Z 0 [(0, .ref (ux_a G 3)), (1, .ref (ux_a G 1)), (2, .int p1)] [] S
  unfold fb_X4_searchFrom at hf
  refine ax_aload_n 1 dX4_searchFrom_0 rfl 0 rfl rfl ?_
  refine ax_aload_n 2 dX4_searchFrom_1 rfl 1 rfl rfl ?_
  refine ax_iload_n 3 dX4_searchFrom_2 rfl 2 rfl rfl ?_
  obtain ⟨r3, S2, e1, hf⟩ := ux_bi_e hf
  refine ax_callVi 6 [.ref (ux_a G 1), .int p1] dX4_searchFrom_3 fv_X4_62 (m_X4_greatest e1) (by decide) rfl rfl (by omega) rfl rfl (Nat.le_of_ble_eq_true rfl) rfl ?_
  refine ax_istore_n 7 dX4_searchFrom_6 rfl (by decide) [1, 2, 3, 0] [(0, .ref (ux_a G 3)), (1, .ref (ux_a G 1)), (2, .int p1), (3, .int r3)] rfl rfl ?_
  refine ax_iload_n 8 dX4_searchFrom_7 rfl 3 rfl rfl ?_
  refine ax_aload_n 9 dX4_searchFrom_8 rfl 0 rfl rfl ?_
  refine ax_geti 12 dX4_searchFrom_9 fg_X4_37 rfl rfl ?_
  refine ax_icmp_lt 16 15 dX4_searchFrom_12 (by decide) rfl (fun c4 => ?_) (fun c4 => ?_)
  · have hf := ux_ift c4 hf
    refine ax_iload_n 17 dX4_searchFrom_16 rfl 2 rfl rfl ?_
    refine ax_aload_n 18 dX4_searchFrom_17 rfl 0 rfl rfl ?_
    refine ax_geti 21 dX4_searchFrom_18 fg_X4_18 rfl rfl ?_
    refine ax_icmp_lt 44 24 dX4_searchFrom_21 (by decide) rfl (fun c5 => ?_) (fun c5 => ?_)
    · have hf := ux_ift c5 hf
      refine ax_iconst (v := 0) 45 dX4_searchFrom_44 (by decide) rfl ?_
      refine ax_istore 47 dX4_searchFrom_45 (by decide) [1, 2, 3, 0] [(0, .ref (ux_a G 3)), (1, .ref (ux_a G 1)), (2, .int p1), (4, .int 0)] rfl rfl ?_
      exact ax_sub [0, 1, 2, 3] rfl (ux_lp1_w (Pr := fun x4 S => ux_At l G RX4 cX4_searchFrom 5 none (dd + 1) none Z 47 [(0, .ref (ux_a G 3)), (1, .ref (ux_a G 1)), (2, .int p1), (4, .int x4)] [] S) (fun k47 hk47 => w_X4_searchFrom_47 hdd hkr k47 hk47) n 0 S2 hf)
    · have hf := ux_iff c5 hf
      refine ax_aload_n 25 dX4_searchFrom_24 rfl 0 rfl rfl ?_
      refine ax_iload_n 26 dX4_searchFrom_25 rfl 3 rfl rfl ?_
      refine ax_put 29 dX4_searchFrom_26 fp_X4_37 rfl ?_
      refine ax_aload_n 30 dX4_searchFrom_29 rfl 0 rfl rfl ?_
      refine ax_getr 26 33 dX4_searchFrom_30 fg_X4_25 rfl (by decide) rfl ?_
      refine ax_iconst (v := 0) 34 dX4_searchFrom_33 (by decide) rfl ?_
      refine ax_aload_n 35 dX4_searchFrom_34 rfl 0 rfl rfl ?_
      refine ax_getr 25 38 dX4_searchFrom_35 fg_X4_22 rfl (by decide) rfl ?_
      refine ax_iconst (v := 0) 39 dX4_searchFrom_38 (by decide) rfl ?_
      refine ax_iconst (v := 5) 40 dX4_searchFrom_39 (by decide) rfl ?_
      refine ax_copy 43 dX4_searchFrom_40 (by decide) (by decide) rfl rfl (by omega) rfl ?_
      exact ax_vret dX4_searchFrom_43 hf
  · have hf := ux_iff c4 hf
    exact ax_vret dX4_searchFrom_15 hf
def f_X4_searchFrom_r (n : Nat) : Nat → ux_S → Int32 → Option ux_S
  | 0 => fun _ _ => none
  | t + 1 => fun S p1 => fb_X4_searchFrom n (f_X4_searchFrom_r n t) S p1
theorem m_X4_searchFrom_r {l : Launch} {G : ux_G} {n : Nat} : ∀ (t : Nat) (S : ux_S) (p1 : Int32) (Z : ux_S), f_X4_searchFrom_r n t S p1 = some Z → ux_M l G yX4_searchFrom cX4_searchFrom 5 none (3 + t) [.ref (ux_a G 3), .ref (ux_a G 1), .int p1] S none Z := by
  intro t
  induction t with
  | zero => intro S p1 Z h; cases h
  | succ t ih => intro S p1 Z h; exact mb_X4_searchFrom (dd := 3 + t) (by omega) ih h
def f_X4_searchFrom (n : Nat) (S : ux_S) (p1 : Int32) : Option ux_S := f_X4_searchFrom_r n 7 S p1
theorem m_X4_searchFrom {l : Launch} {G : ux_G} {n : Nat} {S : ux_S} {p1 : Int32} {Z : ux_S} (hf : f_X4_searchFrom n S p1 = some Z) : ux_M l G yX4_searchFrom cX4_searchFrom 5 none 10 [.ref (ux_a G 3), .ref (ux_a G 1), .int p1] S none Z := m_X4_searchFrom_r 7 S p1 Z hf
def b_X4_leastWarmth_7 (n : Nat) (k7 : Int32 → ux_S → Option (Int32 × ux_S)) (x2 : Int32) (S : ux_S) : Option (Int32 × ux_S) :=
  if S.1 1 5 ≤ x2 then (ux_bv (f_X4_searchFrom n (ux_i S 3 7 1000000000) 0) (fun S6 => if S6.1 3 7 = 1000000000 then (some ((-4), S6)) else (some (S6.1 3 7, S6)))) else (ux_gd (ux_ib 0 6) (ux_bi (f_X2_givenAt n S x2) (fun r12 S11 => ux_gd (ux_ib x2 8) (k7 (x2 + 1) (ux_i S11 (28 + 1 + (0 : Int32).toNatClampNeg) x2.toNatClampNeg r12)))))
set_option maxHeartbeats 2000000 in
set_option maxRecDepth 10000 in
theorem w_X4_leastWarmth_7 {l : Launch} {G : ux_G} {n : Nat} {r : Int32} {Z : ux_S} (k7 : Int32 → ux_S → Option (Int32 × ux_S)) (hk7 : ∀ (x2 : Int32) (S : ux_S), k7 x2 S = some (r, Z) → ux_At l G RX4 cX4_leastWarmth 3 (some .int) 11 (some (.int r)) Z 7 [(0, .ref (ux_a G 3)), (1, .ref (ux_a G 1)), (2, .int x2)] [] S) : ∀ (x2 : Int32) (S : ux_S), b_X4_leastWarmth_7 n k7 x2 S = some (r, Z) → ux_At l G RX4 cX4_leastWarmth 3 (some .int) 11 (some (.int r)) Z 7 [(0, .ref (ux_a G 3)), (1, .ref (ux_a G 1)), (2, .int x2)] [] S := by
  intro x2 S hf
  unfold b_X4_leastWarmth_7 at hf
  refine ax_iload_n 8 dX4_leastWarmth_7 rfl 2 rfl rfl ?_
  refine ax_aload_n 9 dX4_leastWarmth_8 rfl 1 rfl rfl ?_
  refine ax_geti 12 dX4_leastWarmth_9 fg_X4_48 rfl rfl ?_
  refine ax_icmp_ge 34 15 dX4_leastWarmth_12 (by decide) rfl (fun c4 => ?_) (fun c4 => ?_)
  · have hf := ux_ift c4 hf
    refine ax_aload_n 35 dX4_leastWarmth_34 rfl 0 rfl rfl ?_
    refine ax_ldc 37 dX4_leastWarmth_35 fc_X4_36 rfl ?_
    refine ax_put 40 dX4_leastWarmth_37 fp_X4_37 rfl ?_
    refine ax_aload_n 41 dX4_leastWarmth_40 rfl 0 rfl rfl ?_
    refine ax_aload_n 42 dX4_leastWarmth_41 rfl 1 rfl rfl ?_
    refine ax_iconst (v := 0) 43 dX4_leastWarmth_42 (by decide) rfl ?_
    obtain ⟨S6, e5, hf⟩ := ux_bv_e hf
    refine ax_callVv 46 [.ref (ux_a G 1), .int 0] dX4_leastWarmth_43 fv_X4_57 (m_X4_searchFrom e5) (by decide) rfl rfl (by decide) rfl rfl (Nat.le_of_ble_eq_true rfl) rfl ?_
    refine ax_aload_n 47 dX4_leastWarmth_46 rfl 0 rfl rfl ?_
    refine ax_geti 50 dX4_leastWarmth_47 fg_X4_37 rfl rfl ?_
    refine ax_ldc 52 dX4_leastWarmth_50 fc_X4_36 rfl ?_
    refine ax_icmp_ne 60 55 dX4_leastWarmth_52 (by decide) rfl (fun c8 => ?_) (fun c8 => ?_)
    · have hf := ux_iff c8 hf
      refine ax_aload_n 61 dX4_leastWarmth_60 rfl 0 rfl rfl ?_
      refine ax_geti 64 dX4_leastWarmth_61 fg_X4_37 rfl rfl ?_
      exact ax_iret dX4_leastWarmth_64 hf
    · have hf := ux_ift c8 hf
      refine ax_bipush (v := (-4)) 57 dX4_leastWarmth_55 (by decide) rfl ?_
      refine ax_goto 64 dX4_leastWarmth_57 (by decide) ?_
      exact ax_iret dX4_leastWarmth_64 hf
  · have hf := ux_iff c4 hf
    refine ax_aload_n 16 dX4_leastWarmth_15 rfl 0 rfl rfl ?_
    refine ax_getr 28 19 dX4_leastWarmth_16 fg_X4_33 rfl (by decide) rfl ?_
    refine ax_iconst (v := 0) 20 dX4_leastWarmth_19 (by decide) rfl ?_
    obtain ⟨h9, hf⟩ := ux_gd_e hf
    refine ax_aaldI 21 dX4_leastWarmth_20 (by decide) rfl h9 rfl ?_
    refine ax_iload_n 22 dX4_leastWarmth_21 rfl 2 rfl rfl ?_
    refine ax_aload_n 23 dX4_leastWarmth_22 rfl 1 rfl rfl ?_
    refine ax_iload_n 24 dX4_leastWarmth_23 rfl 2 rfl rfl ?_
    obtain ⟨r12, S11, e10, hf⟩ := ux_bi_e hf
    refine ax_callVi 27 [.int x2] dX4_leastWarmth_24 fv_X4_53 (m_X2_givenAt e10) (by decide) rfl rfl (by decide) rfl rfl (Nat.le_of_ble_eq_true rfl) rfl ?_
    obtain ⟨h13, hf⟩ := ux_gd_e hf
    refine ax_iast 28 dX4_leastWarmth_27 (ux_row28 h9).1 (ux_row28 h9).2 h13 rfl ?_
    refine ax_iinc (v := x2 + 1) 31 dX4_leastWarmth_28 2 rfl rfl (by decide) [1, 2, 0] [(0, .ref (ux_a G 3)), (1, .ref (ux_a G 1)), (2, .int (x2 + 1))] rfl rfl ?_
    refine ax_goto 7 dX4_leastWarmth_31 (by decide) ?_
    exact ax_sub [0, 1, 2] rfl (hk7 (x2 + 1) (ux_i S11 (28 + 1 + (0 : Int32).toNatClampNeg) x2.toNatClampNeg r12) hf)
def f_X4_leastWarmth (n : Nat) (S : ux_S) : Option (Int32 × ux_S) :=
  ux_bv (f_X4_freeAll n S ) (fun S2 => ux_lp1 (b_X4_leastWarmth_7 n) n 0 S2)
set_option maxHeartbeats 2000000 in
set_option maxRecDepth 10000 in
theorem m_X4_leastWarmth {l : Launch} {G : ux_G} {n : Nat} {S : ux_S} {r : Int32} {Z : ux_S} (hf : f_X4_leastWarmth n S = some (r, Z)) : ux_M l G yX4_leastWarmth cX4_leastWarmth 3 (some .int) 11 [.ref (ux_a G 3), .ref (ux_a G 1)] S (some (.int r)) Z := by
  refine ux_of (by decide) (Nat.le_of_ble_eq_true rfl) ?_
  show ux_At l G RX4 cX4_leastWarmth 3 (some .int) 11 (some (.int r)) Z 0 [(0, .ref (ux_a G 3)), (1, .ref (ux_a G 1))] [] S
  unfold f_X4_leastWarmth at hf
  refine ax_aload_n 1 dX4_leastWarmth_0 rfl 0 rfl rfl ?_
  refine ax_aload_n 2 dX4_leastWarmth_1 rfl 1 rfl rfl ?_
  obtain ⟨S2, e1, hf⟩ := ux_bv_e hf
  refine ax_callVv 5 [.ref (ux_a G 1)] dX4_leastWarmth_2 fv_X4_40 (m_X4_freeAll e1) (by decide) rfl rfl (by decide) rfl rfl (Nat.le_of_ble_eq_true rfl) rfl ?_
  refine ax_iconst (v := 0) 6 dX4_leastWarmth_5 (by decide) rfl ?_
  refine ax_istore_n 7 dX4_leastWarmth_6 rfl (by decide) [1, 2, 0] [(0, .ref (ux_a G 3)), (1, .ref (ux_a G 1)), (2, .int 0)] rfl rfl ?_
  exact ax_sub [0, 1, 2] rfl (ux_lp1_w (Pr := fun x2 S => ux_At l G RX4 cX4_leastWarmth 3 (some .int) 11 (some (.int r)) Z 7 [(0, .ref (ux_a G 3)), (1, .ref (ux_a G 1)), (2, .int x2)] [] S) (fun k7 hk7 => w_X4_leastWarmth_7 k7 hk7) n 0 S2 hf)
