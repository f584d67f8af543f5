/-! printed by program (wip/gen): pure functions and contracts -/

def f_X2_has (S : ux_S) (p0 : Int32) : Option (Int32 × ux_S) :=
  if p0 < 0 then (some (0, S)) else (if S.1 1 5 ≤ p0 then (some (0, S)) else (some (1, S)))
set_option maxHeartbeats 2000000 in
set_option maxRecDepth 10000 in
theorem m_X2_has {l : Launch} {G : ux_G} {S : ux_S} {p0 : Int32} {r : Int32} {Z : ux_S} (hf : f_X2_has S p0 = some (r, Z)) : ux_M l G yX2_has cX2_has 2 (some .boolean) 1 [.ref (ux_a G 1), .int p0] S (some (.int r)) Z := by
  refine ux_of (by decide) (Nat.le_of_ble_eq_true rfl) ?_
  show ux_At l G RX2 cX2_has 2 (some .boolean) 1 (some (.int r)) Z 0 [(0, .ref (ux_a G 1)), (1, .int p0)] [] S
  unfold f_X2_has at hf
  refine ax_iload_n 1 dX2_has_0 rfl 1 rfl rfl ?_
  refine ax_if_lt 16 4 dX2_has_1 (by decide) rfl (fun c1 => ?_) (fun c1 => ?_)
  · have hf := ux_ift c1 hf
    refine ax_iconst (v := 0) 17 dX2_has_16 (by decide) rfl ?_
    exact ax_zret dX2_has_17 rfl hf
  · have hf := ux_iff c1 hf
    refine ax_iload_n 5 dX2_has_4 rfl 1 rfl rfl ?_
    refine ax_aload_n 6 dX2_has_5 rfl 0 rfl rfl ?_
    refine ax_geti 9 dX2_has_6 fg_X2_29 rfl rfl ?_
    refine ax_icmp_ge 16 12 dX2_has_9 (by decide) rfl (fun c2 => ?_) (fun c2 => ?_)
    · have hf := ux_ift c2 hf
      refine ax_iconst (v := 0) 17 dX2_has_16 (by decide) rfl ?_
      exact ax_zret dX2_has_17 rfl hf
    · have hf := ux_iff c2 hf
      refine ax_iconst (v := 1) 13 dX2_has_12 (by decide) rfl ?_
      refine ax_goto 17 dX2_has_13 (by decide) ?_
      exact ax_zret dX2_has_17 rfl hf
def f_X2_add (S : ux_S) (p0 : Int32) (p1 : Int32) (p2 : Int32) (p3 : Int32) : Option (Int32 × ux_S) :=
  if S.1 1 5 < 8 then (ux_gd (ux_ib (S.1 1 5) 8) (ux_gd (ux_ib ((ux_i S 9 (S.1 1 5).toNatClampNeg p0).1 1 5) 8) (ux_gd (ux_ib ((ux_i (ux_i S 9 (S.1 1 5).toNatClampNeg p0) 10 ((ux_i S 9 (S.1 1 5).toNatClampNeg p0).1 1 5).toNatClampNeg p1).1 1 5) 8) (ux_gd (ux_ib ((ux_i (ux_i (ux_i S 9 (S.1 1 5).toNatClampNeg p0) 10 ((ux_i S 9 (S.1 1 5).toNatClampNeg p0).1 1 5).toNatClampNeg p1) 11 ((ux_i (ux_i S 9 (S.1 1 5).toNatClampNeg p0) 10 ((ux_i S 9 (S.1 1 5).toNatClampNeg p0).1 1 5).toNatClampNeg p1).1 1 5).toNatClampNeg p2).1 1 5) 8) (some (((ux_i (ux_i (ux_i (ux_i (ux_i S 9 (S.1 1 5).toNatClampNeg p0) 10 ((ux_i S 9 (S.1 1 5).toNatClampNeg p0).1 1 5).toNatClampNeg p1) 11 ((ux_i (ux_i S 9 (S.1 1 5).toNatClampNeg p0) 10 ((ux_i S 9 (S.1 1 5).toNatClampNeg p0).1 1 5).toNatClampNeg p1).1 1 5).toNatClampNeg p2) 12 ((ux_i (ux_i (ux_i S 9 (S.1 1 5).toNatClampNeg p0) 10 ((ux_i S 9 (S.1 1 5).toNatClampNeg p0).1 1 5).toNatClampNeg p1) 11 ((ux_i (ux_i S 9 (S.1 1 5).toNatClampNeg p0) 10 ((ux_i S 9 (S.1 1 5).toNatClampNeg p0).1 1 5).toNatClampNeg p1).1 1 5).toNatClampNeg p2).1 1 5).toNatClampNeg p3) 1 5 (((ux_i (ux_i (ux_i (ux_i S 9 (S.1 1 5).toNatClampNeg p0) 10 ((ux_i S 9 (S.1 1 5).toNatClampNeg p0).1 1 5).toNatClampNeg p1) 11 ((ux_i (ux_i S 9 (S.1 1 5).toNatClampNeg p0) 10 ((ux_i S 9 (S.1 1 5).toNatClampNeg p0).1 1 5).toNatClampNeg p1).1 1 5).toNatClampNeg p2) 12 ((ux_i (ux_i (ux_i S 9 (S.1 1 5).toNatClampNeg p0) 10 ((ux_i S 9 (S.1 1 5).toNatClampNeg p0).1 1 5).toNatClampNeg p1) 11 ((ux_i (ux_i S 9 (S.1 1 5).toNatClampNeg p0) 10 ((ux_i S 9 (S.1 1 5).toNatClampNeg p0).1 1 5).toNatClampNeg p1).1 1 5).toNatClampNeg p2).1 1 5).toNatClampNeg p3).1 1 5) + (1 : Int32))).1 1 5) - (1 : Int32), ux_i (ux_i (ux_i (ux_i (ux_i S 9 (S.1 1 5).toNatClampNeg p0) 10 ((ux_i S 9 (S.1 1 5).toNatClampNeg p0).1 1 5).toNatClampNeg p1) 11 ((ux_i (ux_i S 9 (S.1 1 5).toNatClampNeg p0) 10 ((ux_i S 9 (S.1 1 5).toNatClampNeg p0).1 1 5).toNatClampNeg p1).1 1 5).toNatClampNeg p2) 12 ((ux_i (ux_i (ux_i S 9 (S.1 1 5).toNatClampNeg p0) 10 ((ux_i S 9 (S.1 1 5).toNatClampNeg p0).1 1 5).toNatClampNeg p1) 11 ((ux_i (ux_i S 9 (S.1 1 5).toNatClampNeg p0) 10 ((ux_i S 9 (S.1 1 5).toNatClampNeg p0).1 1 5).toNatClampNeg p1).1 1 5).toNatClampNeg p2).1 1 5).toNatClampNeg p3) 1 5 (((ux_i (ux_i (ux_i (ux_i S 9 (S.1 1 5).toNatClampNeg p0) 10 ((ux_i S 9 (S.1 1 5).toNatClampNeg p0).1 1 5).toNatClampNeg p1) 11 ((ux_i (ux_i S 9 (S.1 1 5).toNatClampNeg p0) 10 ((ux_i S 9 (S.1 1 5).toNatClampNeg p0).1 1 5).toNatClampNeg p1).1 1 5).toNatClampNeg p2) 12 ((ux_i (ux_i (ux_i S 9 (S.1 1 5).toNatClampNeg p0) 10 ((ux_i S 9 (S.1 1 5).toNatClampNeg p0).1 1 5).toNatClampNeg p1) 11 ((ux_i (ux_i S 9 (S.1 1 5).toNatClampNeg p0) 10 ((ux_i S 9 (S.1 1 5).toNatClampNeg p0).1 1 5).toNatClampNeg p1).1 1 5).toNatClampNeg p2).1 1 5).toNatClampNeg p3).1 1 5) + (1 : Int32)))))))) else (some ((-3), S))
set_option maxHeartbeats 2000000 in
set_option maxRecDepth 10000 in
theorem m_X2_add {l : Launch} {G : ux_G} {S : ux_S} {p0 : Int32} {p1 : Int32} {p2 : Int32} {p3 : Int32} {r : Int32} {Z : ux_S} (hf : f_X2_add S p0 p1 p2 p3 = some (r, Z)) : ux_M l G yX2_add cX2_add 5 (some .int) 1 [.ref (ux_a G 1), .int p0, .int p1, .int p2, .int p3] S (some (.int r)) Z := by
  refine ux_of (by decide) (Nat.le_of_ble_eq_true rfl) ?_
  show ux_At l G RX2 cX2_add 5 (some .int) 1 (some (.int r)) Z 0 [(0, .ref (ux_a G 1)), (1, .int p0), (2, .int p1), (3, .int p2), (4, .int p3)] [] S
  unfold f_X2_add at hf
  refine ax_aload_n 1 dX2_add_0 rfl 0 rfl rfl ?_
  refine ax_geti 4 dX2_add_1 fg_X2_29 rfl rfl ?_
  refine ax_bipush (v := 8) 6 dX2_add_4 (by decide) rfl ?_
  refine ax_icmp_lt 12 9 dX2_add_6 (by decide) rfl (fun c1 => ?_) (fun c1 => ?_)
  · have hf := ux_ift c1 hf
    refine ax_aload_n 13 dX2_add_12 rfl 0 rfl rfl ?_
    refine ax_getr 9 16 dX2_add_13 fg_X2_9 rfl (by decide) rfl ?_
    refine ax_aload_n 17 dX2_add_16 rfl 0 rfl rfl ?_
    refine ax_geti 20 dX2_add_17 fg_X2_29 rfl rfl ?_
    refine ax_iload_n 21 dX2_add_20 rfl 1 rfl rfl ?_
    obtain ⟨h2, hf⟩ := ux_gd_e hf
    refine ax_iast 22 dX2_add_21 (by decide) rfl h2 rfl ?_
    refine ax_aload_n 23 dX2_add_22 rfl 0 rfl rfl ?_
    refine ax_getr 10 26 dX2_add_23 fg_X2_15 rfl (by decide) rfl ?_
    refine ax_aload_n 27 dX2_add_26 rfl 0 rfl rfl ?_
    refine ax_geti 30 dX2_add_27 fg_X2_29 rfl rfl ?_
    refine ax_iload_n 31 dX2_add_30 rfl 2 rfl rfl ?_
    obtain ⟨h3, hf⟩ := ux_gd_e hf
    refine ax_iast 32 dX2_add_31 (by decide) rfl h3 rfl ?_
    refine ax_aload_n 33 dX2_add_32 rfl 0 rfl rfl ?_
    refine ax_getr 11 36 dX2_add_33 fg_X2_18 rfl (by decide) rfl ?_
    refine ax_aload_n 37 dX2_add_36 rfl 0 rfl rfl ?_
    refine ax_geti 40 dX2_add_37 fg_X2_29 rfl rfl ?_
    refine ax_iload_n 41 dX2_add_40 rfl 3 rfl rfl ?_
    obtain ⟨h4, hf⟩ := ux_gd_e hf
    refine ax_iast 42 dX2_add_41 (by decide) rfl h4 rfl ?_
    refine ax_aload_n 43 dX2_add_42 rfl 0 rfl rfl ?_
    refine ax_getr 12 46 dX2_add_43 fg_X2_21 rfl (by decide) rfl ?_
    refine ax_aload_n 47 dX2_add_46 rfl 0 rfl rfl ?_
    refine ax_geti 50 dX2_add_47 fg_X2_29 rfl rfl ?_
    refine ax_iload 52 dX2_add_50 4 rfl rfl ?_
    obtain ⟨h5, hf⟩ := ux_gd_e hf
    refine ax_iast 53 dX2_add_52 (by decide) rfl h5 rfl ?_
    refine ax_aload_n 54 dX2_add_53 rfl 0 rfl rfl ?_
    refine ax_dup 55 dX2_add_54 rfl rfl ?_
    refine ax_geti 58 dX2_add_55 fg_X2_29 rfl rfl ?_
    refine ax_iconst (v := 1) 59 dX2_add_58 (by decide) rfl ?_
    refine ax_iadd 60 dX2_add_59 rfl ?_
    refine ax_put 63 dX2_add_60 fp_X2_29 rfl ?_
    refine ax_aload_n 64 dX2_add_63 rfl 0 rfl rfl ?_
    refine ax_geti 67 dX2_add_64 fg_X2_29 rfl rfl ?_
    refine ax_iconst (v := 1) 68 dX2_add_67 (by decide) rfl ?_
    refine ax_isub 69 dX2_add_68 rfl ?_
    exact ax_iret dX2_add_69 hf
  · have hf := ux_iff c1 hf
    refine ax_bipush (v := (-3)) 11 dX2_add_9 (by decide) rfl ?_
    exact ax_iret dX2_add_11 hf
def b_X2_takeShares_13 (n : Nat) (p0 : Nat) (ap0 : Nat) (p1 : Int32) (k2 : Int32 → ux_S → Option ux_S) (k13 : Int32 → Int32 → ux_S → Option ux_S) (x3 : Int32) (x4 : Int32) (S : ux_S) : Option ux_S :=
  if S.1 1 5 ≤ x4 then (k2 (x3 + 1) S) else (ux_gd (ux_ib x3 8) (ux_gd (ux_ib ((p1 + ((S.1 1 5) * x3)) + x4) ap0) (ux_gd (ux_ib x4 8) (k13 x3 (x4 + 1) (ux_i S (13 + 1 + x3.toNatClampNeg) x4.toNatClampNeg ((S.2 p0 ((p1 + ((S.1 1 5) * x3)) + x4).toNatClampNeg : Int64).toInt32))))))
set_option maxHeartbeats 2000000 in
set_option maxRecDepth 10000 in
theorem w_X2_takeShares_13 {l : Launch} {G : ux_G} {n : Nat} {p0 : Nat} {ap0 : Nat} {p1 : Int32} {Z : ux_S} (hp0 : p0 < 79 ∧ ux_k p0 = (1, ap0)) (k2 : Int32 → ux_S → Option ux_S) (hk2 : ∀ (x3 : Int32) (S : ux_S), k2 x3 S = some Z → ux_At l G RX2 cX2_takeShares 5 none 1 none Z 2 [(0, .ref (ux_a G 1)), (1, .ref (ux_a G p0)), (2, .int p1), (3, .int x3)] [] S) (k13 : Int32 → Int32 → ux_S → Option ux_S) (hk13 : ∀ (x3 x4 : Int32) (S : ux_S), k13 x3 x4 S = some Z → ux_At l G RX2 cX2_takeShares 5 none 1 none Z 13 [(0, .ref (ux_a G 1)), (1, .ref (ux_a G p0)), (2, .int p1), (3, .int x3), (4, .int x4)] [] S) : ∀ (x3 : Int32) (x4 : Int32) (S : ux_S), b_X2_takeShares_13 n p0 ap0 p1 k2 k13 x3 x4 S = some Z → ux_At l G RX2 cX2_takeShares 5 none 1 none Z 13 [(0, .ref (ux_a G 1)), (1, .ref (ux_a G p0)), (2, .int p1), (3, .int x3), (4, .int x4)] [] S := by
  intro x3 x4 S hf
  unfold b_X2_takeShares_13 at hf
  refine ax_iload 15 dX2_takeShares_13 4 rfl rfl ?_
  refine ax_aload_n 16 dX2_takeShares_15 rfl 0 rfl rfl ?_
  refine ax_geti 19 dX2_takeShares_16 fg_X2_29 rfl rfl ?_
  refine ax_icmp_ge 51 22 dX2_takeShares_19 (by decide) rfl (fun c2 => ?_) (fun c2 => ?_)
  · have hf := ux_ift c2 hf
    refine ax_iinc (v := x3 + 1) 54 dX2_takeShares_51 3 rfl rfl (by decide) [1, 2, 3, 0] [(0, .ref (ux_a G 1)), (1, .ref (ux_a G p0)), (2, .int p1), (3, .int (x3 + 1))] rfl rfl ?_
    refine ax_goto 2 dX2_takeShares_54 (by decide) ?_
    exact ax_sub [0, 1, 2, 3] rfl (hk2 (x3 + 1) S hf)
  · have hf := ux_iff c2 hf
    refine ax_aload_n 23 dX2_takeShares_22 rfl 0 rfl rfl ?_
    refine ax_getr 13 26 dX2_takeShares_23 fg_X2_26 rfl (by decide) rfl ?_
    refine ax_iload_n 27 dX2_takeShares_26 rfl 3 rfl rfl ?_
    obtain ⟨h3, hf⟩ := ux_gd_e hf
    refine ax_aaldI 28 dX2_takeShares_27 (by decide) rfl h3 rfl ?_
    refine ax_iload 30 dX2_takeShares_28 4 rfl rfl ?_
    refine ax_aload_n 31 dX2_takeShares_30 rfl 1 rfl rfl ?_
    refine ax_iload_n 32 dX2_takeShares_31 rfl 2 rfl rfl ?_
    refine ax_aload_n 33 dX2_takeShares_32 rfl 0 rfl rfl ?_
    refine ax_geti 36 dX2_takeShares_33 fg_X2_29 rfl rfl ?_
    refine ax_iload_n 37 dX2_takeShares_36 rfl 3 rfl rfl ?_
    refine ax_imul 38 dX2_takeShares_37 rfl ?_
    refine ax_iadd 39 dX2_takeShares_38 rfl ?_
    refine ax_iload 41 dX2_takeShares_39 4 rfl rfl ?_
    refine ax_iadd 42 dX2_takeShares_41 rfl ?_
    obtain ⟨h4, hf⟩ := ux_gd_e hf
    refine ax_lald 43 dX2_takeShares_42 hp0.1 hp0.2 h4 rfl ?_
    refine ax_l2i 44 dX2_takeShares_43 rfl ?_
    obtain ⟨h5, hf⟩ := ux_gd_e hf
    refine ax_iast 45 dX2_takeShares_44 (ux_row13 h3).1 (ux_row13 h3).2 h5 rfl ?_
    refine ax_iinc (v := x4 + 1) 48 dX2_takeShares_45 4 rfl rfl (by decide) [1, 2, 3, 4, 0] [(0, .ref (ux_a G 1)), (1, .ref (ux_a G p0)), (2, .int p1), (3, .int x3), (4, .int (x4 + 1))] rfl rfl ?_
    refine ax_goto 13 dX2_takeShares_48 (by decide) ?_
    exact ax_sub [0, 1, 2, 3, 4] rfl (hk13 x3 (x4 + 1) (ux_i S (13 + 1 + x3.toNatClampNeg) x4.toNatClampNeg ((S.2 p0 ((p1 + ((S.1 1 5) * x3)) + x4).toNatClampNeg : Int64).toInt32)) hf)
def b_X2_takeShares_2 (n : Nat) (p0 : Nat) (ap0 : Nat) (p1 : Int32) (k2 : Int32 → ux_S → Option ux_S) (x3 : Int32) (S : ux_S) : Option ux_S :=
  if S.1 1 5 ≤ x3 then (some S) else (ux_lp2 (b_X2_takeShares_13 n p0 ap0 p1 k2) n x3 0 S)
set_option maxHeartbeats 2000000 in
set_option maxRecDepth 10000 in
theorem w_X2_takeShares_2 {l : Launch} {G : ux_G} {n : Nat} {p0 : Nat} {ap0 : Nat} {p1 : Int32} {Z : ux_S} (hp0 : p0 < 79 ∧ ux_k p0 = (1, ap0)) (k2 : Int32 → ux_S → Option ux_S) (hk2 : ∀ (x3 : Int32) (S : ux_S), k2 x3 S = some Z → ux_At l G RX2 cX2_takeShares 5 none 1 none Z 2 [(0, .ref (ux_a G 1)), (1, .ref (ux_a G p0)), (2, .int p1), (3, .int x3)] [] S) : ∀ (x3 : Int32) (S : ux_S), b_X2_takeShares_2 n p0 ap0 p1 k2 x3 S = some Z → ux_At l G RX2 cX2_takeShares 5 none 1 none Z 2 [(0, .ref (ux_a G 1)), (1, .ref (ux_a G p0)), (2, .int p1), (3, .int x3)] [] S := by
  intro x3 S hf
  unfold b_X2_takeShares_2 at hf
  refine ax_iload_n 3 dX2_takeShares_2 rfl 3 rfl rfl ?_
  refine ax_aload_n 4 dX2_takeShares_3 rfl 0 rfl rfl ?_
  refine ax_geti 7 dX2_takeShares_4 fg_X2_29 rfl rfl ?_
  refine ax_icmp_ge 57 10 dX2_takeShares_7 (by decide) rfl (fun c1 => ?_) (fun c1 => ?_)
  · have hf := ux_ift c1 hf
    exact ax_vret dX2_takeShares_57 hf
  · have hf := ux_iff c1 hf
    refine ax_iconst (v := 0) 11 dX2_takeShares_10 (by decide) rfl ?_
    refine ax_istore 13 dX2_takeShares_11 (by decide) [1, 2, 3, 4, 0] [(0, .ref (ux_a G 1)), (1, .ref (ux_a G p0)), (2, .int p1), (3, .int x3), (4, .int 0)] rfl rfl ?_
    exact ax_sub [0, 1, 2, 3, 4] rfl (ux_lp2_w (Pr := fun x3 x4 S => ux_At l G RX2 cX2_takeShares 5 none 1 none Z 13 [(0, .ref (ux_a G 1)), (1, .ref (ux_a G p0)), (2, .int p1), (3, .int x3), (4, .int x4)] [] S) (fun k13 hk13 => w_X2_takeShares_13 hp0 k2 hk2 k13 hk13) n x3 0 S hf)
def f_X2_takeShares (n : Nat) (S : ux_S) (p0 : Nat) (ap0 : Nat) (p1 : Int32) : Option ux_S :=
  ux_lp1 (b_X2_takeShares_2 n p0 ap0 p1) n 0 S
set_option maxHeartbeats 2000000 in
set_option maxRecDepth 10000 in
theorem m_X2_takeShares {l : Launch} {G : ux_G} {n : Nat} {S : ux_S} {p0 : Nat} {ap0 : Nat} {p1 : Int32} {Z : ux_S} (hp0 : p0 < 79 ∧ ux_k p0 = (1, ap0)) (hf : f_X2_takeShares n S p0 ap0 p1 = some Z) : ux_M l G yX2_takeShares cX2_takeShares 5 none 1 [.ref (ux_a G 1), .ref (ux_a G p0), .int p1] S none Z := by
  refine ux_of (by decide) (Nat.le_of_ble_eq_true rfl) ?_
  show ux_At l G RX2 cX2_takeShares 5 none 1 none Z 0 [(0, .ref (ux_a G 1)), (1, .ref (ux_a G p0)), (2, .int p1)] [] S
  unfold f_X2_takeShares at hf
  refine ax_iconst (v := 0) 1 dX2_takeShares_0 (by decide) rfl ?_
  refine ax_istore_n 2 dX2_takeShares_1 rfl (by decide) [1, 2, 3, 0] [(0, .ref (ux_a G 1)), (1, .ref (ux_a G p0)), (2, .int p1), (3, .int 0)] rfl rfl ?_
  exact ax_sub [0, 1, 2, 3] rfl (ux_lp1_w (Pr := fun x3 S => ux_At l G RX2 cX2_takeShares 5 none 1 none Z 2 [(0, .ref (ux_a G 1)), (1, .ref (ux_a G p0)), (2, .int p1), (3, .int x3)] [] S) (fun k2 hk2 => w_X2_takeShares_2 hp0 k2 hk2) n 0 S hf)
def b_X2_allLoads_4 (n : Nat) (k4 : Int32 → Int32 → ux_S → Option (Int32 × ux_S)) (x1 : Int32) (x2 : Int32) (S : ux_S) : Option (Int32 × ux_S) :=
  if S.1 1 5 ≤ x2 then (some (x1, S)) else (ux_gd (ux_ib x2 8) (k4 (x1 + (S.1 9 x2.toNatClampNeg)) (x2 + 1) S))
set_option maxHeartbeats 2000000 in
set_option maxRecDepth 10000 in
theorem w_X2_allLoads_4 {l : Launch} {G : ux_G} {n : Nat} {r : Int32} {Z : ux_S} (k4 : Int32 → Int32 → ux_S → Option (Int32 × ux_S)) (hk4 : ∀ (x1 x2 : Int32) (S : ux_S), k4 x1 x2 S = some (r, Z) → ux_At l G RX2 cX2_allLoads 3 (some .int) 1 (some (.int r)) Z 4 [(0, .ref (ux_a G 1)), (1, .int x1), (2, .int x2)] [] S) : ∀ (x1 : Int32) (x2 : Int32) (S : ux_S), b_X2_allLoads_4 n k4 x1 x2 S = some (r, Z) → ux_At l G RX2 cX2_allLoads 3 (some .int) 1 (some (.int r)) Z 4 [(0, .ref (ux_a G 1)), (1, .int x1), (2, .int x2)] [] S := by
  intro x1 x2 S hf
  unfold b_X2_allLoads_4 at hf
  refine ax_iload_n 5 dX2_allLoads_4 rfl 2 rfl rfl ?_
  refine ax_aload_n 6 dX2_allLoads_5 rfl 0 rfl rfl ?_
  refine ax_geti 9 dX2_allLoads_6 fg_X2_29 rfl rfl ?_
  refine ax_icmp_ge 27 12 dX2_allLoads_9 (by decide) rfl (fun c1 => ?_) (fun c1 => ?_)
  · have hf := ux_ift c1 hf
    refine ax_iload_n 28 dX2_allLoads_27 rfl 1 rfl rfl ?_
    exact ax_iret dX2_allLoads_28 hf
  · have hf := ux_iff c1 hf
    refine ax_iload_n 13 dX2_allLoads_12 rfl 1 rfl rfl ?_
    refine ax_aload_n 14 dX2_allLoads_13 rfl 0 rfl rfl ?_
    refine ax_getr 9 17 dX2_allLoads_14 fg_X2_9 rfl (by decide) rfl ?_
    refine ax_iload_n 18 dX2_allLoads_17 rfl 2 rfl rfl ?_
    obtain ⟨h2, hf⟩ := ux_gd_e hf
    refine ax_iald 19 dX2_allLoads_18 (by decide) rfl h2 rfl ?_
    refine ax_iadd 20 dX2_allLoads_19 rfl ?_
    refine ax_istore_n 21 dX2_allLoads_20 rfl (by decide) [1, 0, 2] [(0, .ref (ux_a G 1)), (1, .int (x1 + (S.1 9 x2.toNatClampNeg))), (2, .int x2)] rfl rfl ?_
    refine ax_iinc (v := x2 + 1) 24 dX2_allLoads_21 2 rfl rfl (by decide) [1, 2, 0] [(0, .ref (ux_a G 1)), (1, .int (x1 + (S.1 9 x2.toNatClampNeg))), (2, .int (x2 + 1))] rfl rfl ?_
    refine ax_goto 4 dX2_allLoads_24 (by decide) ?_
    exact ax_sub [0, 1, 2] rfl (hk4 (x1 + (S.1 9 x2.toNatClampNeg)) (x2 + 1) S hf)
def f_X2_allLoads (n : Nat) (S : ux_S) : Option (Int32 × ux_S) :=
  ux_lp2 (b_X2_allLoads_4 n) n 0 0 S
set_option maxHeartbeats 2000000 in
set_option maxRecDepth 10000 in
theorem m_X2_allLoads {l : Launch} {G : ux_G} {n : Nat} {S : ux_S} {r : Int32} {Z : ux_S} (hf : f_X2_allLoads n S = some (r, Z)) : ux_M l G yX2_allLoads cX2_allLoads 3 (some .int) 1 [.ref (ux_a G 1)] S (some (.int r)) Z := by
  refine ux_of (by decide) (Nat.le_of_ble_eq_true rfl) ?_
  show ux_At l G RX2 cX2_allLoads 3 (some .int) 1 (some (.int r)) Z 0 [(0, .ref (ux_a G 1))] [] S
  unfold f_X2_allLoads at hf
  refine ax_iconst (v := 0) 1 dX2_allLoads_0 (by decide) rfl ?_
  refine ax_istore_n 2 dX2_allLoads_1 rfl (by decide) [1, 0] [(0, .ref (ux_a G 1)), (1, .int 0)] rfl rfl ?_
  refine ax_iconst (v := 0) 3 dX2_allLoads_2 (by decide) rfl ?_
  refine ax_istore_n 4 dX2_allLoads_3 rfl (by decide) [1, 2, 0] [(0, .ref (ux_a G 1)), (1, .int 0), (2, .int 0)] rfl rfl ?_
  exact ax_sub [0, 1, 2] rfl (ux_lp2_w (Pr := fun x1 x2 S => ux_At l G RX2 cX2_allLoads 3 (some .int) 1 (some (.int r)) Z 4 [(0, .ref (ux_a G 1)), (1, .int x1), (2, .int x2)] [] S) (fun k4 hk4 => w_X2_allLoads_4 k4 hk4) n 0 0 S hf)
def b_X2_givenAt_4 (n : Nat) (p0 : Int32) (k4 : Int32 → Int32 → ux_S → Option (Int32 × ux_S)) (x2 : Int32) (x3 : Int32) (S : ux_S) : Option (Int32 × ux_S) :=
  if S.1 1 5 ≤ x3 then (some (x2, S)) else (ux_gd (ux_ib x3 8) (ux_gd (ux_ib p0 8) (ux_gd (ux_ib x3 8) (k4 (x2 + ((S.1 9 x3.toNatClampNeg) * (S.1 (13 + 1 + p0.toNatClampNeg) x3.toNatClampNeg))) (x3 + 1) S))))
set_option maxHeartbeats 2000000 in
set_option maxRecDepth 10000 in
theorem w_X2_givenAt_4 {l : Launch} {G : ux_G} {n : Nat} {p0 : Int32} {r : Int32} {Z : ux_S} (k4 : Int32 → Int32 → ux_S → Option (Int32 × ux_S)) (hk4 : ∀ (x2 x3 : Int32) (S : ux_S), k4 x2 x3 S = some (r, Z) → ux_At l G RX2 cX2_givenAt 4 (some .int) 1 (some (.int r)) Z 4 [(0, .ref (ux_a G 1)), (1, .int p0), (2, .int x2), (3, .int x3)] [] S) : ∀ (x2 : Int32) (x3 : Int32) (S : ux_S), b_X2_givenAt_4 n p0 k4 x2 x3 S = some (r, Z) → ux_At l G RX2 cX2_givenAt 4 (some .int) 1 (some (.int r)) Z 4 [(0, .ref (ux_a G 1)), (1, .int p0), (2, .int x2), (3, .int x3)] [] S := by
  intro x2 x3 S hf
  unfold b_X2_givenAt_4 at hf
  refine ax_iload_n 5 dX2_givenAt_4 rfl 3 rfl rfl ?_
  refine ax_aload_n 6 dX2_givenAt_5 rfl 0 rfl rfl ?_
  refine ax_geti 9 dX2_givenAt_6 fg_X2_29 rfl rfl ?_
  refine ax_icmp_ge 36 12 dX2_givenAt_9 (by decide) rfl (fun c1 => ?_) (fun c1 => ?_)
  · have hf := ux_ift c1 hf
    refine ax_iload_n 37 dX2_givenAt_36 rfl 2 rfl rfl ?_
    exact ax_iret dX2_givenAt_37 hf
  · have hf := ux_iff c1 hf
    refine ax_iload_n 13 dX2_givenAt_12 rfl 2 rfl rfl ?_
    refine ax_aload_n 14 dX2_givenAt_13 rfl 0 rfl rfl ?_
    refine ax_getr 9 17 dX2_givenAt_14 fg_X2_9 rfl (by decide) rfl ?_
    refine ax_iload_n 18 dX2_givenAt_17 rfl 3 rfl rfl ?_
    obtain ⟨h2, hf⟩ := ux_gd_e hf
    refine ax_iald 19 dX2_givenAt_18 (by decide) rfl h2 rfl ?_
    refine ax_aload_n 20 dX2_givenAt_19 rfl 0 rfl rfl ?_
    refine ax_getr 13 23 dX2_givenAt_20 fg_X2_26 rfl (by decide) rfl ?_
    refine ax_iload_n 24 dX2_givenAt_23 rfl 1 rfl rfl ?_
    obtain ⟨h3, hf⟩ := ux_gd_e hf
    refine ax_aaldI 25 dX2_givenAt_24 (by decide) rfl h3 rfl ?_
    refine ax_iload_n 26 dX2_givenAt_25 rfl 3 rfl rfl ?_
    obtain ⟨h4, hf⟩ := ux_gd_e hf
    refine ax_iald 27 dX2_givenAt_26 (ux_row13 h3).1 (ux_row13 h3).2 h4 rfl ?_
    refine ax_imul 28 dX2_givenAt_27 rfl ?_
    refine ax_iadd 29 dX2_givenAt_28 rfl ?_
    refine ax_istore_n 30 dX2_givenAt_29 rfl (by decide) [1, 2, 0, 3] [(0, .ref (ux_a G 1)), (1, .int p0), (2, .int (x2 + ((S.1 9 x3.toNatClampNeg) * (S.1 (13 + 1 + p0.toNatClampNeg) x3.toNatClampNeg)))), (3, .int x3)] rfl rfl ?_
    refine ax_iinc (v := x3 + 1) 33 dX2_givenAt_30 3 rfl rfl (by decide) [1, 2, 3, 0] [(0, .ref (ux_a G 1)), (1, .int p0), (2, .int (x2 + ((S.1 9 x3.toNatClampNeg) * (S.1 (13 + 1 + p0.toNatClampNeg) x3.toNatClampNeg)))), (3, .int (x3 + 1))] rfl rfl ?_
    refine ax_goto 4 dX2_givenAt_33 (by decide) ?_
    exact ax_sub [0, 1, 2, 3] rfl (hk4 (x2 + ((S.1 9 x3.toNatClampNeg) * (S.1 (13 + 1 + p0.toNatClampNeg) x3.toNatClampNeg))) (x3 + 1) S hf)
def f_X2_givenAt (n : Nat) (S : ux_S) (p0 : Int32) : Option (Int32 × ux_S) :=
  ux_lp2 (b_X2_givenAt_4 n p0) n 0 0 S
set_option maxHeartbeats 2000000 in
set_option maxRecDepth 10000 in
theorem m_X2_givenAt {l : Launch} {G : ux_G} {n : Nat} {S : ux_S} {p0 : Int32} {r : Int32} {Z : ux_S} (hf : f_X2_givenAt n S p0 = some (r, Z)) : ux_M l G yX2_givenAt cX2_givenAt 4 (some .int) 1 [.ref (ux_a G 1), .int p0] S (some (.int r)) Z := by
  refine ux_of (by decide) (Nat.le_of_ble_eq_true rfl) ?_
  show ux_At l G RX2 cX2_givenAt 4 (some .int) 1 (some (.int r)) Z 0 [(0, .ref (ux_a G 1)), (1, .int p0)] [] S
  unfold f_X2_givenAt at hf
  refine ax_iconst (v := 0) 1 dX2_givenAt_0 (by decide) rfl ?_
  refine ax_istore_n 2 dX2_givenAt_1 rfl (by decide) [1, 2, 0] [(0, .ref (ux_a G 1)), (1, .int p0), (2, .int 0)] rfl rfl ?_
  refine ax_iconst (v := 0) 3 dX2_givenAt_2 (by decide) rfl ?_
  refine ax_istore_n 4 dX2_givenAt_3 rfl (by decide) [1, 2, 3, 0] [(0, .ref (ux_a G 1)), (1, .int p0), (2, .int 0), (3, .int 0)] rfl rfl ?_
  exact ax_sub [0, 1, 2, 3] rfl (ux_lp2_w (Pr := fun x2 x3 S => ux_At l G RX2 cX2_givenAt 4 (some .int) 1 (some (.int r)) Z 4 [(0, .ref (ux_a G 1)), (1, .int p0), (2, .int x2), (3, .int x3)] [] S) (fun k4 hk4 => w_X2_givenAt_4 k4 hk4) n 0 0 S hf)
def f_X2_warmth (n : Nat) (S : ux_S) (p0 : Int32) (p1 : Int32) (p2 : Int32) : Option (Int32 × ux_S) :=
  ux_bi (f_X2_givenAt n S p0) (fun r3 S2 => ux_bi (f_X7_divideUp S2 r3 p2) (fun r6 S5 => some (((1000 : Int32) * p1) + r6, S5)))
set_option maxHeartbeats 2000000 in
set_option maxRecDepth 10000 in
theorem m_X2_warmth {l : Launch} {G : ux_G} {n : Nat} {S : ux_S} {p0 : Int32} {p1 : Int32} {p2 : Int32} {r : Int32} {Z : ux_S} (hf : f_X2_warmth n S p0 p1 p2 = some (r, Z)) : ux_M l G yX2_warmth cX2_warmth 4 (some .int) 3 [.ref (ux_a G 1), .int p0, .int p1, .int p2] S (some (.int r)) Z := by
  refine ux_of (by decide) (Nat.le_of_ble_eq_true rfl) ?_
  show ux_At l G RX2 cX2_warmth 4 (some .int) 3 (some (.int r)) Z 0 [(0, .ref (ux_a G 1)), (1, .int p0), (2, .int p1), (3, .int p2)] [] S
  unfold f_X2_warmth at hf
  refine ax_sipush (v := 1000) 3 dX2_warmth_0 (by decide) rfl ?_
  refine ax_iload_n 4 dX2_warmth_3 rfl 2 rfl rfl ?_
  refine ax_imul 5 dX2_warmth_4 rfl ?_
  refine ax_aload_n 6 dX2_warmth_5 rfl 0 rfl rfl ?_
  refine ax_iload_n 7 dX2_warmth_6 rfl 1 rfl rfl ?_
  obtain ⟨r3, S2, e1, hf⟩ := ux_bi_e hf
  refine ax_callVi 10 [.int p0] dX2_warmth_7 fv_X2_39 (m_X2_givenAt e1) (by decide) rfl rfl (by decide) rfl rfl (Nat.le_of_ble_eq_true rfl) rfl ?_
  refine ax_iload_n 11 dX2_warmth_10 rfl 3 rfl rfl ?_
  obtain ⟨r6, S5, e4, hf⟩ := ux_bi_e hf
  refine ax_callNi 14 [.int r3, .int p2] dX2_warmth_11 fn_divideUp (fun _ h => h.2.2.1) (m_X7_divideUp e4) (by decide) rfl rfl (Nat.le_of_ble_eq_true rfl) rfl ?_
  refine ax_iadd 15 dX2_warmth_14 rfl ?_
  exact ax_iret dX2_warmth_15 hf
def f_X2_margin (n : Nat) (S : ux_S) (p0 : Int32) : Option (Int32 × ux_S) :=
  ux_gd (ux_ib p0 8) (ux_bi (f_X2_warmth n S p0 (S.1 1 6) (S.1 1 7)) (fun r4 S3 => some ((S.1 10 p0.toNatClampNeg) - r4, S3)))
set_option maxHeartbeats 2000000 in
set_option maxRecDepth 10000 in
theorem m_X2_margin {l : Launch} {G : ux_G} {n : Nat} {S : ux_S} {p0 : Int32} {r : Int32} {Z : ux_S} (hf : f_X2_margin n S p0 = some (r, Z)) : ux_M l G yX2_margin cX2_margin 2 (some .int) 4 [.ref (ux_a G 1), .int p0] S (some (.int r)) Z := by
  refine ux_of (by decide) (Nat.le_of_ble_eq_true rfl) ?_
  show ux_At l G RX2 cX2_margin 2 (some .int) 4 (some (.int r)) Z 0 [(0, .ref (ux_a G 1)), (1, .int p0)] [] S
  unfold f_X2_margin at hf
  refine ax_aload_n 1 dX2_margin_0 rfl 0 rfl rfl ?_
  refine ax_getr 10 4 dX2_margin_1 fg_X2_15 rfl (by decide) rfl ?_
  refine ax_iload_n 5 dX2_margin_4 rfl 1 rfl rfl ?_
  obtain ⟨h1, hf⟩ := ux_gd_e hf
  refine ax_iald 6 dX2_margin_5 (by decide) rfl h1 rfl ?_
  refine ax_aload_n 7 dX2_margin_6 rfl 0 rfl rfl ?_
  refine ax_iload_n 8 dX2_margin_7 rfl 1 rfl rfl ?_
  refine ax_aload_n 9 dX2_margin_8 rfl 0 rfl rfl ?_
  refine ax_geti 12 dX2_margin_9 fg_X2_33 rfl rfl ?_
  refine ax_aload_n 13 dX2_margin_12 rfl 0 rfl rfl ?_
  refine ax_geti 16 dX2_margin_13 fg_X2_36 rfl rfl ?_
  obtain ⟨r4, S3, e2, hf⟩ := ux_bi_e hf
  refine ax_callVi 19 [.int p0, .int (S.1 1 6), .int (S.1 1 7)] dX2_margin_16 fv_X2_47 (m_X2_warmth e2) (by decide) rfl rfl (by decide) rfl rfl (Nat.le_of_ble_eq_true rfl) rfl ?_
  refine ax_isub 20 dX2_margin_19 rfl ?_
  exact ax_iret dX2_margin_20 hf
def b_X2_countHot_4 (n : Nat) (k4 : Int32 → Int32 → ux_S → Option (Int32 × ux_S)) (x1 : Int32) (x2 : Int32) (S : ux_S) : Option (Int32 × ux_S) :=
  if S.1 1 5 ≤ x2 then (some (x1, S)) else (ux_bi (f_X2_margin n S x2) (fun r4 S3 => if 0 ≤ r4 then (k4 x1 (x2 + 1) S3) else (k4 (x1 + 1) (x2 + 1) S3)))
set_option maxHeartbeats 2000000 in
set_option maxRecDepth 10000 in
theorem w_X2_countHot_4 {l : Launch} {G : ux_G} {n : Nat} {r : Int32} {Z : ux_S} (k4 : Int32 → Int32 → ux_S → Option (Int32 × ux_S)) (hk4 : ∀ (x1 x2 : Int32) (S : ux_S), k4 x1 x2 S = some (r, Z) → ux_At l G RX2 cX2_countHot 3 (some .int) 5 (some (.int r)) Z 4 [(0, .ref (ux_a G 1)), (1, .int x1), (2, .int x2)] [] S) : ∀ (x1 : Int32) (x2 : Int32) (S : ux_S), b_X2_countHot_4 n k4 x1 x2 S = some (r, Z) → ux_At l G RX2 cX2_countHot 3 (some .int) 5 (some (.int r)) Z 4 [(0, .ref (ux_a G 1)), (1, .int x1), (2, .int x2)] [] S := by
  intro x1 x2 S hf
  unfold b_X2_countHot_4 at hf
  refine ax_iload_n 5 dX2_countHot_4 rfl 2 rfl rfl ?_
  refine ax_aload_n 6 dX2_countHot_5 rfl 0 rfl rfl ?_
  refine ax_geti 9 dX2_countHot_6 fg_X2_29 rfl rfl ?_
  refine ax_icmp_ge 29 12 dX2_countHot_9 (by decide) rfl (fun c1 => ?_) (fun c1 => ?_)
  · have hf := ux_ift c1 hf
    refine ax_iload_n 30 dX2_countHot_29 rfl 1 rfl rfl ?_
    exact ax_iret dX2_countHot_30 hf
  · have hf := ux_iff c1 hf
    refine ax_aload_n 13 dX2_countHot_12 rfl 0 rfl rfl ?_
    refine ax_iload_n 14 dX2_countHot_13 rfl 2 rfl rfl ?_
    obtain ⟨r4, S3, e2, hf⟩ := ux_bi_e hf
    refine ax_callVi 17 [.int x2] dX2_countHot_14 fv_X2_51 (m_X2_margin e2) (by decide) rfl rfl (by decide) rfl rfl (Nat.le_of_ble_eq_true rfl) rfl ?_
    refine ax_if_ge 23 20 dX2_countHot_17 (by decide) rfl (fun c5 => ?_) (fun c5 => ?_)
    · have hf := ux_ift c5 hf
      refine ax_iinc (v := x2 + 1) 26 dX2_countHot_23 2 rfl rfl (by decide) [1, 2, 0] [(0, .ref (ux_a G 1)), (1, .int x1), (2, .int (x2 + 1))] rfl rfl ?_
      refine ax_goto 4 dX2_countHot_26 (by decide) ?_
      exact ax_sub [0, 1, 2] rfl (hk4 x1 (x2 + 1) S3 hf)
    · have hf := ux_iff c5 hf
      refine ax_iinc (v := x1 + 1) 23 dX2_countHot_20 1 rfl rfl (by decide) [1, 0, 2] [(0, .ref (ux_a G 1)), (1, .int (x1 + 1)), (2, .int x2)] rfl rfl ?_
      refine ax_iinc (v := x2 + 1) 26 dX2_countHot_23 2 rfl rfl (by decide) [1, 2, 0] [(0, .ref (ux_a G 1)), (1, .int (x1 + 1)), (2, .int (x2 + 1))] rfl rfl ?_
      refine ax_goto 4 dX2_countHot_26 (by decide) ?_
      exact ax_sub [0, 1, 2] rfl (hk4 (x1 + 1) (x2 + 1) S3 hf)
def f_X2_countHot (n : Nat) (S : ux_S) : Option (Int32 × ux_S) :=
  ux_lp2 (b_X2_countHot_4 n) n 0 0 S
set_option maxHeartbeats 2000000 in
set_option maxRecDepth 10000 in
theorem m_X2_countHot {l : Launch} {G : ux_G} {n : Nat} {S : ux_S} {r : Int32} {Z : ux_S} (hf : f_X2_countHot n S = some (r, Z)) : ux_M l G yX2_countHot cX2_countHot 3 (some .int) 5 [.ref (ux_a G 1)] S (some (.int r)) Z := by
  refine ux_of (by decide) (Nat.le_of_ble_eq_true rfl) ?_
  show ux_At l G RX2 cX2_countHot 3 (some .int) 5 (some (.int r)) Z 0 [(0, .ref (ux_a G 1))] [] S
  unfold f_X2_countHot at hf
  refine ax_iconst (v := 0) 1 dX2_countHot_0 (by decide) rfl ?_
  refine ax_istore_n 2 dX2_countHot_1 rfl (by decide) [1, 0] [(0, .ref (ux_a G 1)), (1, .int 0)] rfl rfl ?_
  refine ax_iconst (v := 0) 3 dX2_countHot_2 (by decide) rfl ?_
  refine ax_istore_n 4 dX2_countHot_3 rfl (by decide) [1, 2, 0] [(0, .ref (ux_a G 1)), (1, .int 0), (2, .int 0)] rfl rfl ?_
  exact ax_sub [0, 1, 2] rfl (ux_lp2_w (Pr := fun x1 x2 S => ux_At l G RX2 cX2_countHot 3 (some .int) 5 (some (.int r)) Z 4 [(0, .ref (ux_a G 1)), (1, .int x1), (2, .int x2)] [] S) (fun k4 hk4 => w_X2_countHot_4 k4 hk4) n 0 0 S hf)
def b_X2_firstHot_2 (n : Nat) (p0 : Int32) (p1 : Int32) (k2 : Int32 → ux_S → Option (Int32 × ux_S)) (x3 : Int32) (S : ux_S) : Option (Int32 × ux_S) :=
  if S.1 1 5 ≤ x3 then (some ((-4), S)) else (ux_bi (f_X2_warmth n S x3 p0 p1) (fun r4 S3 => ux_gd (ux_ib x3 8) (if r4 ≤ S3.1 10 x3.toNatClampNeg then (k2 (x3 + 1) S3) else (some (x3, S3)))))
set_option maxHeartbeats 2000000 in
set_option maxRecDepth 10000 in
theorem w_X2_firstHot_2 {l : Launch} {G : ux_G} {n : Nat} {p0 : Int32} {p1 : Int32} {r : Int32} {Z : ux_S} (k2 : Int32 → ux_S → Option (Int32 × ux_S)) (hk2 : ∀ (x3 : Int32) (S : ux_S), k2 x3 S = some (r, Z) → ux_At l G RX2 cX2_firstHot 4 (some .int) 4 (some (.int r)) Z 2 [(0, .ref (ux_a G 1)), (1, .int p0), (2, .int p1), (3, .int x3)] [] S) : ∀ (x3 : Int32) (S : ux_S), b_X2_firstHot_2 n p0 p1 k2 x3 S = some (r, Z) → ux_At l G RX2 cX2_firstHot 4 (some .int) 4 (some (.int r)) Z 2 [(0, .ref (ux_a G 1)), (1, .int p0), (2, .int p1), (3, .int x3)] [] S := by
  intro x3 S hf
  unfold b_X2_firstHot_2 at hf
  refine ax_iload_n 3 dX2_firstHot_2 rfl 3 rfl rfl ?_
  refine ax_aload_n 4 dX2_firstHot_3 rfl 0 rfl rfl ?_
  refine ax_geti 7 dX2_firstHot_4 fg_X2_29 rfl rfl ?_
  refine ax_icmp_ge 34 10 dX2_firstHot_7 (by decide) rfl (fun c1 => ?_) (fun c1 => ?_)
  · have hf := ux_ift c1 hf
    refine ax_bipush (v := (-4)) 36 dX2_firstHot_34 (by decide) rfl ?_
    exact ax_iret dX2_firstHot_36 hf
  · have hf := ux_iff c1 hf
    refine ax_aload_n 11 dX2_firstHot_10 rfl 0 rfl rfl ?_
    refine ax_iload_n 12 dX2_firstHot_11 rfl 3 rfl rfl ?_
    refine ax_iload_n 13 dX2_firstHot_12 rfl 1 rfl rfl ?_
    refine ax_iload_n 14 dX2_firstHot_13 rfl 2 rfl rfl ?_
    obtain ⟨r4, S3, e2, hf⟩ := ux_bi_e hf
    refine ax_callVi 17 [.int x3, .int p0, .int p1] dX2_firstHot_14 fv_X2_47 (m_X2_warmth e2) (by decide) rfl rfl (by decide) rfl rfl (Nat.le_of_ble_eq_true rfl) rfl ?_
    refine ax_aload_n 18 dX2_firstHot_17 rfl 0 rfl rfl ?_
    refine ax_getr 10 21 dX2_firstHot_18 fg_X2_15 rfl (by decide) rfl ?_
    refine ax_iload_n 22 dX2_firstHot_21 rfl 3 rfl rfl ?_
    obtain ⟨h5, hf⟩ := ux_gd_e hf
    refine ax_iald 23 dX2_firstHot_22 (by decide) rfl h5 rfl ?_
    refine ax_icmp_le 28 26 dX2_firstHot_23 (by decide) rfl (fun c6 => ?_) (fun c6 => ?_)
    · have hf := ux_ift c6 hf
      refine ax_iinc (v := x3 + 1) 31 dX2_firstHot_28 3 rfl rfl (by decide) [1, 2, 3, 0] [(0, .ref (ux_a G 1)), (1, .int p0), (2, .int p1), (3, .int (x3 + 1))] rfl rfl ?_
      refine ax_goto 2 dX2_firstHot_31 (by decide) ?_
      exact ax_sub [0, 1, 2, 3] rfl (hk2 (x3 + 1) S3 hf)
    · have hf := ux_iff c6 hf
      refine ax_iload_n 27 dX2_firstHot_26 rfl 3 rfl rfl ?_
      exact ax_iret dX2_firstHot_27 hf
def f_X2_firstHot (n : Nat) (S : ux_S) (p0 : Int32) (p1 : Int32) : Option (Int32 × ux_S) :=
  ux_lp1 (b_X2_firstHot_2 n p0 p1) n 0 S
set_option maxHeartbeats 2000000 in
set_option maxRecDepth 10000 in
theorem m_X2_firstHot {l : Launch} {G : ux_G} {n : Nat} {S : ux_S} {p0 : Int32} {p1 : Int32} {r : Int32} {Z : ux_S} (hf : f_X2_firstHot n S p0 p1 = some (r, Z)) : ux_M l G yX2_firstHot cX2_firstHot 4 (some .int) 4 [.ref (ux_a G 1), .int p0, .int p1] S (some (.int r)) Z := by
  refine ux_of (by decide) (Nat.le_of_ble_eq_true rfl) ?_
  show ux_At l G RX2 cX2_firstHot 4 (some .int) 4 (some (.int r)) Z 0 [(0, .ref (ux_a G 1)), (1, .int p0), (2, .int p1)] [] S
  unfold f_X2_firstHot at hf
  refine ax_iconst (v := 0) 1 dX2_firstHot_0 (by decide) rfl ?_
  refine ax_istore_n 2 dX2_firstHot_1 rfl (by decide) [1, 2, 3, 0] [(0, .ref (ux_a G 1)), (1, .int p0), (2, .int p1), (3, .int 0)] rfl rfl ?_
  exact ax_sub [0, 1, 2, 3] rfl (ux_lp1_w (Pr := fun x3 S => ux_At l G RX2 cX2_firstHot 4 (some .int) 4 (some (.int r)) Z 2 [(0, .ref (ux_a G 1)), (1, .int p0), (2, .int p1), (3, .int x3)] [] S) (fun k2 hk2 => w_X2_firstHot_2 k2 hk2) n 0 S hf)
def b_X2_nearestToLimit_8 (n : Nat) (k8 : Int32 → Int32 → Int32 → ux_S → Option (Int32 × ux_S)) (x1 : Int32) (x2 : Int32) (x3 : Int32) (S : ux_S) : Option (Int32 × ux_S) :=
  if S.1 1 5 ≤ x3 then (some (x1, S)) else (ux_bi (f_X2_margin n S x3) (fun r4 S3 => if x2 ≤ r4 then (k8 x1 x2 (x3 + 1) S3) else (k8 x3 r4 (x3 + 1) S3)))
set_option maxHeartbeats 2000000 in
set_option maxRecDepth 10000 in
theorem w_X2_nearestToLimit_8 {l : Launch} {G : ux_G} {n : Nat} {r : Int32} {Z : ux_S} (k8 : Int32 → Int32 → Int32 → ux_S → Option (Int32 × ux_S)) (hk8 : ∀ (x1 x2 x3 : Int32) (S : ux_S), k8 x1 x2 x3 S = some (r, Z) → ux_At l G RX2 cX2_nearestToLimit 5 (some .int) 5 (some (.int r)) Z 8 [(0, .ref (ux_a G 1)), (1, .int x1), (2, .int x2), (3, .int x3)] [] S) : ∀ (x1 : Int32) (x2 : Int32) (x3 : Int32) (S : ux_S), b_X2_nearestToLimit_8 n k8 x1 x2 x3 S = some (r, Z) → ux_At l G RX2 cX2_nearestToLimit 5 (some .int) 5 (some (.int r)) Z 8 [(0, .ref (ux_a G 1)), (1, .int x1), (2, .int x2), (3, .int x3)] [] S := by
  intro x1 x2 x3 S hf
  unfold b_X2_nearestToLimit_8 at hf
  refine ax_iload_n 9 dX2_nearestToLimit_8 rfl 3 rfl rfl ?_
  refine ax_aload_n 10 dX2_nearestToLimit_9 rfl 0 rfl rfl ?_
  refine ax_geti 13 dX2_nearestToLimit_10 fg_X2_29 rfl rfl ?_
  refine ax_icmp_ge 40 16 dX2_nearestToLimit_13 (by decide) rfl (fun c1 => ?_) (fun c1 => ?_)
  · have hf := ux_ift c1 hf
    refine ax_iload_n 41 dX2_nearestToLimit_40 rfl 1 rfl rfl ?_
    exact ax_iret dX2_nearestToLimit_41 hf
  · have hf := ux_iff c1 hf
    refine ax_aload_n 17 dX2_nearestToLimit_16 rfl 0 rfl rfl ?_
    refine ax_iload_n 18 dX2_nearestToLimit_17 rfl 3 rfl rfl ?_
    obtain ⟨r4, S3, e2, hf⟩ := ux_bi_e hf
    refine ax_callVi 21 [.int x3] dX2_nearestToLimit_18 fv_X2_51 (m_X2_margin e2) (by decide) rfl rfl (by decide) rfl rfl (Nat.le_of_ble_eq_true rfl) rfl ?_
    refine ax_istore 23 dX2_nearestToLimit_21 (by decide) [1, 2, 3, 4, 0] [(0, .ref (ux_a G 1)), (1, .int x1), (2, .int x2), (3, .int x3), (4, .int r4)] rfl rfl ?_
    refine ax_iload 25 dX2_nearestToLimit_23 4 rfl rfl ?_
    refine ax_iload_n 26 dX2_nearestToLimit_25 rfl 2 rfl rfl ?_
    refine ax_icmp_ge 34 29 dX2_nearestToLimit_26 (by decide) rfl (fun c5 => ?_) (fun c5 => ?_)
    · have hf := ux_ift c5 hf
      refine ax_iinc (v := x3 + 1) 37 dX2_nearestToLimit_34 3 rfl rfl (by decide) [1, 2, 3, 0] [(0, .ref (ux_a G 1)), (1, .int x1), (2, .int x2), (3, .int (x3 + 1))] rfl rfl ?_
      refine ax_goto 8 dX2_nearestToLimit_37 (by decide) ?_
      exact ax_sub [0, 1, 2, 3] rfl (hk8 x1 x2 (x3 + 1) S3 hf)
    · have hf := ux_iff c5 hf
      refine ax_iload 31 dX2_nearestToLimit_29 4 rfl rfl ?_
      refine ax_istore_n 32 dX2_nearestToLimit_31 rfl (by decide) [1, 0, 3] [(0, .ref (ux_a G 1)), (2, .int r4), (3, .int x3)] rfl rfl ?_
      refine ax_iload_n 33 dX2_nearestToLimit_32 rfl 2 rfl rfl ?_
      refine ax_istore_n 34 dX2_nearestToLimit_33 rfl (by decide) [1, 0, 2, 3] [(0, .ref (ux_a G 1)), (1, .int x3), (2, .int r4), (3, .int x3)] rfl rfl ?_
      refine ax_iinc (v := x3 + 1) 37 dX2_nearestToLimit_34 3 rfl rfl (by decide) [1, 2, 3, 0] [(0, .ref (ux_a G 1)), (1, .int x3), (2, .int r4), (3, .int (x3 + 1))] rfl rfl ?_
      refine ax_goto 8 dX2_nearestToLimit_37 (by decide) ?_
      exact ax_sub [0, 1, 2, 3] rfl (hk8 x3 r4 (x3 + 1) S3 hf)
def f_X2_nearestToLimit (n : Nat) (S : ux_S) : Option (Int32 × ux_S) :=
  ux_lp3 (b_X2_nearestToLimit_8 n) n (-4) 1000000000 0 S
set_option maxHeartbeats 2000000 in
set_option maxRecDepth 10000 in
theorem m_X2_nearestToLimit {l : Launch} {G : ux_G} {n : Nat} {S : ux_S} {r : Int32} {Z : ux_S} (hf : f_X2_nearestToLimit n S = some (r, Z)) : ux_M l G yX2_nearestToLimit cX2_nearestToLimit 5 (some .int) 5 [.ref (ux_a G 1)] S (some (.int r)) Z := by
  refine ux_of (by decide) (Nat.le_of_ble_eq_true rfl) ?_
  show ux_At l G RX2 cX2_nearestToLimit 5 (some .int) 5 (some (.int r)) Z 0 [(0, .ref (ux_a G 1))] [] S
  unfold f_X2_nearestToLimit at hf
  refine ax_bipush (v := (-4)) 2 dX2_nearestToLimit_0 (by decide) rfl ?_
  refine ax_istore_n 3 dX2_nearestToLimit_2 rfl (by decide) [1, 0] [(0, .ref (ux_a G 1)), (1, .int (-4))] rfl rfl ?_
  refine ax_ldc 5 dX2_nearestToLimit_3 fc_X2_54 rfl ?_
  refine ax_istore_n 6 dX2_nearestToLimit_5 rfl (by decide) [1, 2, 0] [(0, .ref (ux_a G 1)), (1, .int (-4)), (2, .int 1000000000)] rfl rfl ?_
  refine ax_iconst (v := 0) 7 dX2_nearestToLimit_6 (by decide) rfl ?_
  refine ax_istore_n 8 dX2_nearestToLimit_7 rfl (by decide) [1, 2, 3, 0] [(0, .ref (ux_a G 1)), (1, .int (-4)), (2, .int 1000000000), (3, .int 0)] rfl rfl ?_
  exact ax_sub [0, 1, 2, 3] rfl (ux_lp3_w (Pr := fun x1 x2 x3 S => ux_At l G RX2 cX2_nearestToLimit 5 (some .int) 5 (some (.int r)) Z 8 [(0, .ref (ux_a G 1)), (1, .int x1), (2, .int x2), (3, .int x3)] [] S) (fun k8 hk8 => w_X2_nearestToLimit_8 k8 hk8) n (-4) 1000000000 0 S hf)
def f_X5_changeWeight (S : ux_S) (p0 : Int32) : Option (Int32 × ux_S) :=
  some (S.1 2 1, ux_i S 2 1 p0)
set_option maxHeartbeats 2000000 in
set_option maxRecDepth 10000 in
theorem m_X5_changeWeight {l : Launch} {G : ux_G} {S : ux_S} {p0 : Int32} {r : Int32} {Z : ux_S} (hf : f_X5_changeWeight S p0 = some (r, Z)) : ux_M l G yX5_changeWeight cX5_changeWeight 3 (some .int) 1 [.ref (ux_a G 2), .int p0] S (some (.int r)) Z := by
  refine ux_of (by decide) (Nat.le_of_ble_eq_true rfl) ?_
  show ux_At l G RX5 cX5_changeWeight 3 (some .int) 1 (some (.int r)) Z 0 [(0, .ref (ux_a G 2)), (1, .int p0)] [] S
  unfold f_X5_changeWeight at hf
  refine ax_aload_n 1 dX5_changeWeight_0 rfl 0 rfl rfl ?_
  refine ax_geti 4 dX5_changeWeight_1 fg_X5_15 rfl rfl ?_
  refine ax_istore_n 5 dX5_changeWeight_4 rfl (by decide) [1, 2, 0] [(0, .ref (ux_a G 2)), (1, .int p0), (2, .int (S.1 2 1))] rfl rfl ?_
  refine ax_aload_n 6 dX5_changeWeight_5 rfl 0 rfl rfl ?_
  refine ax_iload_n 7 dX5_changeWeight_6 rfl 1 rfl rfl ?_
  refine ax_put 10 dX5_changeWeight_7 fp_X5_15 rfl ?_
  refine ax_iload_n 11 dX5_changeWeight_10 rfl 2 rfl rfl ?_
  exact ax_iret dX5_changeWeight_11 hf
def f_X5_changeAir (S : ux_S) (p0 : Int32) (p1 : Int32) : Option (Int32 × ux_S) :=
  ux_gd (ux_ib (p0 - (10 : Int32)) 21) (ux_gd (ux_ib (p0 - (10 : Int32)) 21) (some (S.1 22 (p0 - (10 : Int32)).toNatClampNeg, ux_i S 22 (p0 - (10 : Int32)).toNatClampNeg p1)))
set_option maxHeartbeats 2000000 in
set_option maxRecDepth 10000 in
theorem m_X5_changeAir {l : Launch} {G : ux_G} {S : ux_S} {p0 : Int32} {p1 : Int32} {r : Int32} {Z : ux_S} (hf : f_X5_changeAir S p0 p1 = some (r, Z)) : ux_M l G yX5_changeAir cX5_changeAir 4 (some .int) 1 [.ref (ux_a G 2), .int p0, .int p1] S (some (.int r)) Z := by
  refine ux_of (by decide) (Nat.le_of_ble_eq_true rfl) ?_
  show ux_At l G RX5 cX5_changeAir 4 (some .int) 1 (some (.int r)) Z 0 [(0, .ref (ux_a G 2)), (1, .int p0), (2, .int p1)] [] S
  unfold f_X5_changeAir at hf
  refine ax_aload_n 1 dX5_changeAir_0 rfl 0 rfl rfl ?_
  refine ax_getr 22 4 dX5_changeAir_1 fg_X5_9 rfl (by decide) rfl ?_
  refine ax_iload_n 5 dX5_changeAir_4 rfl 1 rfl rfl ?_
  refine ax_bipush (v := 10) 7 dX5_changeAir_5 (by decide) rfl ?_
  refine ax_isub 8 dX5_changeAir_7 rfl ?_
  obtain ⟨h1, hf⟩ := ux_gd_e hf
  refine ax_iald 9 dX5_changeAir_8 (by decide) rfl h1 rfl ?_
  refine ax_istore_n 10 dX5_changeAir_9 rfl (by decide) [1, 2, 3, 0] [(0, .ref (ux_a G 2)), (1, .int p0), (2, .int p1), (3, .int (S.1 22 (p0 - (10 : Int32)).toNatClampNeg))] rfl rfl ?_
  refine ax_aload_n 11 dX5_changeAir_10 rfl 0 rfl rfl ?_
  refine ax_getr 22 14 dX5_changeAir_11 fg_X5_9 rfl (by decide) rfl ?_
  refine ax_iload_n 15 dX5_changeAir_14 rfl 1 rfl rfl ?_
  refine ax_bipush (v := 10) 17 dX5_changeAir_15 (by decide) rfl ?_
  refine ax_isub 18 dX5_changeAir_17 rfl ?_
  refine ax_iload_n 19 dX5_changeAir_18 rfl 2 rfl rfl ?_
  obtain ⟨h2, hf⟩ := ux_gd_e hf
  refine ax_iast 20 dX5_changeAir_19 (by decide) rfl h2 rfl ?_
  refine ax_iload_n 21 dX5_changeAir_20 rfl 3 rfl rfl ?_
  exact ax_iret dX5_changeAir_21 hf
def f_X5_powerOf (S : ux_S) (p0 : Int32) (p1 : Int32) (p2 : Int32) : Option (Int32 × ux_S) :=
  ux_gd (ux_ib (p0 - (10 : Int32)) 21) (ux_bi (f_X7_divideUp S ((((((S.1 2 1) * p1) * p1) * p1) + p2) * (S.1 22 (p0 - (10 : Int32)).toNatClampNeg)) 1000) (fun r4 S3 => some (((((S.1 2 1) * p1) * p1) * p1) + r4, S3)))
set_option maxHeartbeats 2000000 in
set_option maxRecDepth 10000 in
theorem m_X5_powerOf {l : Launch} {G : ux_G} {S : ux_S} {p0 : Int32} {p1 : Int32} {p2 : Int32} {r : Int32} {Z : ux_S} (hf : f_X5_powerOf S p0 p1 p2 = some (r, Z)) : ux_M l G yX5_powerOf cX5_powerOf 5 (some .int) 3 [.ref (ux_a G 2), .int p0, .int p1, .int p2] S (some (.int r)) Z := by
  refine ux_of (by decide) (Nat.le_of_ble_eq_true rfl) ?_
  show ux_At l G RX5 cX5_powerOf 5 (some .int) 3 (some (.int r)) Z 0 [(0, .ref (ux_a G 2)), (1, .int p0), (2, .int p1), (3, .int p2)] [] S
  unfold f_X5_powerOf at hf
  refine ax_aload_n 1 dX5_powerOf_0 rfl 0 rfl rfl ?_
  refine ax_geti 4 dX5_powerOf_1 fg_X5_15 rfl rfl ?_
  refine ax_iload_n 5 dX5_powerOf_4 rfl 2 rfl rfl ?_
  refine ax_imul 6 dX5_powerOf_5 rfl ?_
  refine ax_iload_n 7 dX5_powerOf_6 rfl 2 rfl rfl ?_
  refine ax_imul 8 dX5_powerOf_7 rfl ?_
  refine ax_iload_n 9 dX5_powerOf_8 rfl 2 rfl rfl ?_
  refine ax_imul 10 dX5_powerOf_9 rfl ?_
  refine ax_istore 12 dX5_powerOf_10 (by decide) [1, 2, 3, 4, 0] [(0, .ref (ux_a G 2)), (1, .int p0), (2, .int p1), (3, .int p2), (4, .int ((((S.1 2 1) * p1) * p1) * p1))] rfl rfl ?_
  refine ax_iload 14 dX5_powerOf_12 4 rfl rfl ?_
  refine ax_iload 16 dX5_powerOf_14 4 rfl rfl ?_
  refine ax_iload_n 17 dX5_powerOf_16 rfl 3 rfl rfl ?_
  refine ax_iadd 18 dX5_powerOf_17 rfl ?_
  refine ax_aload_n 19 dX5_powerOf_18 rfl 0 rfl rfl ?_
  refine ax_getr 22 22 dX5_powerOf_19 fg_X5_9 rfl (by decide) rfl ?_
  refine ax_iload_n 23 dX5_powerOf_22 rfl 1 rfl rfl ?_
  refine ax_bipush (v := 10) 25 dX5_powerOf_23 (by decide) rfl ?_
  refine ax_isub 26 dX5_powerOf_25 rfl ?_
  obtain ⟨h1, hf⟩ := ux_gd_e hf
  refine ax_iald 27 dX5_powerOf_26 (by decide) rfl h1 rfl ?_
  refine ax_imul 28 dX5_powerOf_27 rfl ?_
  refine ax_sipush (v := 1000) 31 dX5_powerOf_28 (by decide) rfl ?_
  obtain ⟨r4, S3, e2, hf⟩ := ux_bi_e hf
  refine ax_callNi 34 [.int ((((((S.1 2 1) * p1) * p1) * p1) + p2) * (S.1 22 (p0 - (10 : Int32)).toNatClampNeg)), .int 1000] dX5_powerOf_31 fn_divideUp (fun _ h => h.2.2.2.2) (m_X7_divideUp e2) (by decide) rfl rfl (Nat.le_of_ble_eq_true rfl) rfl ?_
  refine ax_iadd 35 dX5_powerOf_34 rfl ?_
  exact ax_iret dX5_powerOf_35 hf
