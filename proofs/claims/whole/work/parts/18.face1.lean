/-! printed by program (wip/gen): pure functions and contracts -/

def b_X7_rack_50 (n : Nat) (p0 : Int32) (p1 : Int32) (p2 : Int32) (p3 : Int32) (t0 : Int32) (S : ux_S) : Option (Int32 × ux_S) :=
  if t0 = 0 then (some ((-1), S)) else (ux_bi (f_X2_add S p0 p1 p2 p3) (fun r8 S7 => some (r8, S7)))
set_option maxHeartbeats 2000000 in
set_option maxRecDepth 10000 in
theorem w_X7_rack_50 {l : Launch} {G : ux_G} {n : Nat} {p0 : Int32} {p1 : Int32} {p2 : Int32} {p3 : Int32} {r : Int32} {Z : ux_S} : ∀ (t0 : Int32) (S : ux_S), b_X7_rack_50 n p0 p1 p2 p3 t0 S = some (r, Z) → ux_At l G RX7 cX7_rack 6 (some .int) 2 (some (.int r)) Z 50 [(0, .ref (ux_a G 0)), (1, .int p0), (2, .int p1), (3, .int p2), (4, .int p3)] [.int t0] S := by
  intro t0 S hf
  unfold b_X7_rack_50 at hf
  refine ax_istore 52 dX7_rack_50 (by decide) [1, 2, 3, 4, 5, 0] [(0, .ref (ux_a G 0)), (1, .int p0), (2, .int p1), (3, .int p2), (4, .int p3), (5, .int t0)] rfl rfl ?_
  refine ax_iload 54 dX7_rack_52 5 rfl rfl ?_
  refine ax_if_eq 72 57 dX7_rack_54 (by decide) rfl (fun c5 => ?_) (fun c5 => ?_)
  · have hf := ux_ift c5 hf
    refine ax_iconst (v := (-1)) 73 dX7_rack_72 (by decide) rfl ?_
    exact ax_iret dX7_rack_73 hf
  · have hf := ux_iff c5 hf
    refine ax_aload_n 58 dX7_rack_57 rfl 0 rfl rfl ?_
    refine ax_getr 1 61 dX7_rack_58 fg_X7_10 rfl (by decide) rfl ?_
    refine ax_iload_n 62 dX7_rack_61 rfl 1 rfl rfl ?_
    refine ax_iload_n 63 dX7_rack_62 rfl 2 rfl rfl ?_
    refine ax_iload_n 64 dX7_rack_63 rfl 3 rfl rfl ?_
    refine ax_iload 66 dX7_rack_64 4 rfl rfl ?_
    obtain ⟨r8, S7, e6, hf⟩ := ux_bi_e hf
    refine ax_callVi 69 [.int p0, .int p1, .int p2, .int p3] dX7_rack_66 fv_X7_63 (m_X2_add e6) (by decide) rfl rfl (by decide) rfl rfl (Nat.le_of_ble_eq_true rfl) rfl ?_
    refine ax_goto 73 dX7_rack_69 (by decide) ?_
    exact ax_iret dX7_rack_73 hf
def b_X7_rack_49 (n : Nat) (p0 : Int32) (p1 : Int32) (p2 : Int32) (p3 : Int32) (S : ux_S) : Option (Int32 × ux_S) :=
  b_X7_rack_50 n p0 p1 p2 p3 0 S
set_option maxHeartbeats 2000000 in
set_option maxRecDepth 10000 in
theorem w_X7_rack_49 {l : Launch} {G : ux_G} {n : Nat} {p0 : Int32} {p1 : Int32} {p2 : Int32} {p3 : Int32} {r : Int32} {Z : ux_S} : ∀ (S : ux_S), b_X7_rack_49 n p0 p1 p2 p3  S = some (r, Z) → ux_At l G RX7 cX7_rack 6 (some .int) 2 (some (.int r)) Z 49 [(0, .ref (ux_a G 0)), (1, .int p0), (2, .int p1), (3, .int p2), (4, .int p3)] [] S := by
  intro  S hf
  unfold b_X7_rack_49 at hf
  refine ax_iconst (v := 0) 50 dX7_rack_49 (by decide) rfl ?_
  exact ax_sub [0, 1, 2, 3, 4] rfl (w_X7_rack_50 0 S hf)
def f_X7_rack (n : Nat) (S : ux_S) (p0 : Int32) (p1 : Int32) (p2 : Int32) (p3 : Int32) : Option (Int32 × ux_S) :=
  ux_bi (f_X7_within S p0 0 1000) (fun r3 S2 => if r3 = 0 then (b_X7_rack_49 n p0 p1 p2 p3 S2) else (ux_bi (f_X7_within S2 p1 10000 60000) (fun r11 S10 => if r11 = 0 then (b_X7_rack_49 n p0 p1 p2 p3 S10) else (ux_bi (f_X7_within S10 p2 1 1000) (fun r15 S14 => if r15 = 0 then (b_X7_rack_49 n p0 p1 p2 p3 S14) else (ux_bi (f_X7_within S14 p3 0 20) (fun r19 S18 => if r19 = 0 then (b_X7_rack_49 n p0 p1 p2 p3 S18) else (b_X7_rack_50 n p0 p1 p2 p3 1 S18))))))))
set_option maxHeartbeats 2000000 in
set_option maxRecDepth 10000 in
theorem m_X7_rack {l : Launch} {G : ux_G} {n : Nat} {S : ux_S} {p0 : Int32} {p1 : Int32} {p2 : Int32} {p3 : Int32} {r : Int32} {Z : ux_S} (hf : f_X7_rack n S p0 p1 p2 p3 = some (r, Z)) : ux_M l G yX7_rack cX7_rack 6 (some .int) 2 [.ref (ux_a G 0), .int p0, .int p1, .int p2, .int p3] S (some (.int r)) Z := by
  refine ux_of (by decide) (Nat.le_of_ble_eq_true rfl) ?_
  show ux_At l G RX7 cX7_rack 6 (some .int) 2 (some (.int r)) Z 0 [(0, .ref (ux_a G 0)), (1, .int p0), (2, .int p1), (3, .int p2), (4, .int p3)] [] S
  unfold f_X7_rack at hf
  refine ax_iload_n 1 dX7_rack_0 rfl 1 rfl rfl ?_
  refine ax_iconst (v := 0) 2 dX7_rack_1 (by decide) rfl ?_
  refine ax_sipush (v := 1000) 5 dX7_rack_2 (by decide) rfl ?_
  obtain ⟨r3, S2, e1, hf⟩ := ux_bi_e hf
  refine ax_callSi 8 [.int p0, .int 0, .int 1000] dX7_rack_5 fs_X7_58 (m_X7_within e1) (by decide) rfl rfl (Nat.le_of_ble_eq_true rfl) rfl ?_
  refine ax_if_eq 49 11 dX7_rack_8 (by decide) rfl (fun c4 => ?_) (fun c4 => ?_)
  · have hf := ux_ift c4 hf
    exact ax_sub [0, 1, 2, 3, 4] rfl (w_X7_rack_49 S2 hf)
  · have hf := ux_iff c4 hf
    refine ax_iload_n 12 dX7_rack_11 rfl 2 rfl rfl ?_
    refine ax_sipush (v := 10000) 15 dX7_rack_12 (by decide) rfl ?_
    refine ax_ldc 17 dX7_rack_15 fc_X7_62 rfl ?_
    obtain ⟨r11, S10, e9, hf⟩ := ux_bi_e hf
    refine ax_callSi 20 [.int p1, .int 10000, .int 60000] dX7_rack_17 fs_X7_58 (m_X7_within e9) (by decide) rfl rfl (Nat.le_of_ble_eq_true rfl) rfl ?_
    refine ax_if_eq 49 23 dX7_rack_20 (by decide) rfl (fun c12 => ?_) (fun c12 => ?_)
    · have hf := ux_ift c12 hf
      exact ax_sub [0, 1, 2, 3, 4] rfl (w_X7_rack_49 S10 hf)
    · have hf := ux_iff c12 hf
      refine ax_iload_n 24 dX7_rack_23 rfl 3 rfl rfl ?_
      refine ax_iconst (v := 1) 25 dX7_rack_24 (by decide) rfl ?_
      refine ax_sipush (v := 1000) 28 dX7_rack_25 (by decide) rfl ?_
      obtain ⟨r15, S14, e13, hf⟩ := ux_bi_e hf
      refine ax_callSi 31 [.int p2, .int 1, .int 1000] dX7_rack_28 fs_X7_58 (m_X7_within e13) (by decide) rfl rfl (Nat.le_of_ble_eq_true rfl) rfl ?_
      refine ax_if_eq 49 34 dX7_rack_31 (by decide) rfl (fun c16 => ?_) (fun c16 => ?_)
      · have hf := ux_ift c16 hf
        exact ax_sub [0, 1, 2, 3, 4] rfl (w_X7_rack_49 S14 hf)
      · have hf := ux_iff c16 hf
        refine ax_iload 36 dX7_rack_34 4 rfl rfl ?_
        refine ax_iconst (v := 0) 37 dX7_rack_36 (by decide) rfl ?_
        refine ax_bipush (v := 20) 39 dX7_rack_37 (by decide) rfl ?_
        obtain ⟨r19, S18, e17, hf⟩ := ux_bi_e hf
        refine ax_callSi 42 [.int p3, .int 0, .int 20] dX7_rack_39 fs_X7_58 (m_X7_within e17) (by decide) rfl rfl (Nat.le_of_ble_eq_true rfl) rfl ?_
        refine ax_if_eq 49 45 dX7_rack_42 (by decide) rfl (fun c20 => ?_) (fun c20 => ?_)
        · have hf := ux_ift c20 hf
          exact ax_sub [0, 1, 2, 3, 4] rfl (w_X7_rack_49 S18 hf)
        · have hf := ux_iff c20 hf
          refine ax_iconst (v := 1) 46 dX7_rack_45 (by decide) rfl ?_
          refine ax_goto 50 dX7_rack_46 (by decide) ?_
          exact ax_sub [0, 1, 2, 3, 4] rfl (w_X7_rack_50 1 S18 hf)
def f_X7_load (S : ux_S) (p0 : Int32) (p1 : Int32) : Option (Int32 × ux_S) :=
  ux_bi (f_X2_has S p0) (fun r3 S2 => if r3 = 0 then (some ((-1), S2)) else (ux_bi (f_X7_within S2 p1 0 1000) (fun r7 S6 => if r7 = 0 then (some ((-1), S6)) else (ux_gd (ux_ib p0 8) (ux_gd (ux_ib p0 8) (some (S6.1 9 p0.toNatClampNeg, ux_i S6 9 p0.toNatClampNeg p1)))))))
set_option maxHeartbeats 2000000 in
set_option maxRecDepth 10000 in
theorem m_X7_load {l : Launch} {G : ux_G} {S : ux_S} {p0 : Int32} {p1 : Int32} {r : Int32} {Z : ux_S} (hf : f_X7_load S p0 p1 = some (r, Z)) : ux_M l G yX7_load cX7_load 4 (some .int) 2 [.ref (ux_a G 0), .int p0, .int p1] S (some (.int r)) Z := by
  refine ux_of (by decide) (Nat.le_of_ble_eq_true rfl) ?_
  show ux_At l G RX7 cX7_load 4 (some .int) 2 (some (.int r)) Z 0 [(0, .ref (ux_a G 0)), (1, .int p0), (2, .int p1)] [] S
  unfold f_X7_load at hf
  refine ax_aload_n 1 dX7_load_0 rfl 0 rfl rfl ?_
  refine ax_getr 1 4 dX7_load_1 fg_X7_10 rfl (by decide) rfl ?_
  refine ax_iload_n 5 dX7_load_4 rfl 1 rfl rfl ?_
  obtain ⟨r3, S2, e1, hf⟩ := ux_bi_e hf
  refine ax_callVi 8 [.int p0] dX7_load_5 fv_X7_67 (m_X2_has e1) (by decide) rfl rfl (by decide) rfl rfl (Nat.le_of_ble_eq_true rfl) rfl ?_
  refine ax_if_eq 22 11 dX7_load_8 (by decide) rfl (fun c4 => ?_) (fun c4 => ?_)
  · have hf := ux_ift c4 hf
    refine ax_iconst (v := (-1)) 23 dX7_load_22 (by decide) rfl ?_
    exact ax_iret dX7_load_23 hf
  · have hf := ux_iff c4 hf
    refine ax_iload_n 12 dX7_load_11 rfl 2 rfl rfl ?_
    refine ax_iconst (v := 0) 13 dX7_load_12 (by decide) rfl ?_
    refine ax_sipush (v := 1000) 16 dX7_load_13 (by decide) rfl ?_
    obtain ⟨r7, S6, e5, hf⟩ := ux_bi_e hf
    refine ax_callSi 19 [.int p1, .int 0, .int 1000] dX7_load_16 fs_X7_58 (m_X7_within e5) (by decide) rfl rfl (Nat.le_of_ble_eq_true rfl) rfl ?_
    refine ax_if_ne 24 22 dX7_load_19 (by decide) rfl (fun c8 => ?_) (fun c8 => ?_)
    · have hf := ux_iff c8 hf
      refine ax_aload_n 25 dX7_load_24 rfl 0 rfl rfl ?_
      refine ax_getr 1 28 dX7_load_25 fg_X7_10 rfl (by decide) rfl ?_
      refine ax_getr 9 31 dX7_load_28 fg_X7_71 rfl (by decide) rfl ?_
      refine ax_iload_n 32 dX7_load_31 rfl 1 rfl rfl ?_
      obtain ⟨h9, hf⟩ := ux_gd_e hf
      refine ax_iald 33 dX7_load_32 (by decide) rfl h9 rfl ?_
      refine ax_istore_n 34 dX7_load_33 rfl (by decide) [1, 2, 3, 0] [(0, .ref (ux_a G 0)), (1, .int p0), (2, .int p1), (3, .int (S6.1 9 p0.toNatClampNeg))] rfl rfl ?_
      refine ax_aload_n 35 dX7_load_34 rfl 0 rfl rfl ?_
      refine ax_getr 1 38 dX7_load_35 fg_X7_10 rfl (by decide) rfl ?_
      refine ax_getr 9 41 dX7_load_38 fg_X7_71 rfl (by decide) rfl ?_
      refine ax_iload_n 42 dX7_load_41 rfl 1 rfl rfl ?_
      refine ax_iload_n 43 dX7_load_42 rfl 2 rfl rfl ?_
      obtain ⟨h10, hf⟩ := ux_gd_e hf
      refine ax_iast 44 dX7_load_43 (by decide) rfl h10 rfl ?_
      refine ax_iload_n 45 dX7_load_44 rfl 3 rfl rfl ?_
      exact ax_iret dX7_load_45 hf
    · have hf := ux_ift c8 hf
      refine ax_iconst (v := (-1)) 23 dX7_load_22 (by decide) rfl ?_
      exact ax_iret dX7_load_23 hf
def f_X7_share (S : ux_S) (p0 : Int32) (p1 : Int32) (p2 : Int32) : Option (Int32 × ux_S) :=
  ux_bi (f_X2_has S p0) (fun r3 S2 => if r3 = 0 then (some ((-1), S2)) else (ux_bi (f_X2_has S2 p1) (fun r7 S6 => if r7 = 0 then (some ((-1), S6)) else (ux_bi (f_X7_within S6 p2 0 200) (fun r11 S10 => if r11 = 0 then (some ((-1), S10)) else (ux_gd (ux_ib p0 8) (ux_gd (ux_ib p1 8) (ux_gd (ux_ib p0 8) (ux_gd (ux_ib p1 8) (some (S10.1 (13 + 1 + p0.toNatClampNeg) p1.toNatClampNeg, ux_i S10 (13 + 1 + p0.toNatClampNeg) p1.toNatClampNeg p2)))))))))))
set_option maxHeartbeats 2000000 in
set_option maxRecDepth 10000 in
theorem m_X7_share {l : Launch} {G : ux_G} {S : ux_S} {p0 : Int32} {p1 : Int32} {p2 : Int32} {r : Int32} {Z : ux_S} (hf : f_X7_share S p0 p1 p2 = some (r, Z)) : ux_M l G yX7_share cX7_share 5 (some .int) 2 [.ref (ux_a G 0), .int p0, .int p1, .int p2] S (some (.int r)) Z := by
  refine ux_of (by decide) (Nat.le_of_ble_eq_true rfl) ?_
  show ux_At l G RX7 cX7_share 5 (some .int) 2 (some (.int r)) Z 0 [(0, .ref (ux_a G 0)), (1, .int p0), (2, .int p1), (3, .int p2)] [] S
  unfold f_X7_share at hf
  refine ax_aload_n 1 dX7_share_0 rfl 0 rfl rfl ?_
  refine ax_getr 1 4 dX7_share_1 fg_X7_10 rfl (by decide) rfl ?_
  refine ax_iload_n 5 dX7_share_4 rfl 1 rfl rfl ?_
  obtain ⟨r3, S2, e1, hf⟩ := ux_bi_e hf
  refine ax_callVi 8 [.int p0] dX7_share_5 fv_X7_67 (m_X2_has e1) (by decide) rfl rfl (by decide) rfl rfl (Nat.le_of_ble_eq_true rfl) rfl ?_
  refine ax_if_eq 33 11 dX7_share_8 (by decide) rfl (fun c4 => ?_) (fun c4 => ?_)
  · have hf := ux_ift c4 hf
    refine ax_iconst (v := (-1)) 34 dX7_share_33 (by decide) rfl ?_
    exact ax_iret dX7_share_34 hf
  · have hf := ux_iff c4 hf
    refine ax_aload_n 12 dX7_share_11 rfl 0 rfl rfl ?_
    refine ax_getr 1 15 dX7_share_12 fg_X7_10 rfl (by decide) rfl ?_
    refine ax_iload_n 16 dX7_share_15 rfl 2 rfl rfl ?_
    obtain ⟨r7, S6, e5, hf⟩ := ux_bi_e hf
    refine ax_callVi 19 [.int p1] dX7_share_16 fv_X7_67 (m_X2_has e5) (by decide) rfl rfl (by decide) rfl rfl (Nat.le_of_ble_eq_true rfl) rfl ?_
    refine ax_if_eq 33 22 dX7_share_19 (by decide) rfl (fun c8 => ?_) (fun c8 => ?_)
    · have hf := ux_ift c8 hf
      refine ax_iconst (v := (-1)) 34 dX7_share_33 (by decide) rfl ?_
      exact ax_iret dX7_share_34 hf
    · have hf := ux_iff c8 hf
      refine ax_iload_n 23 dX7_share_22 rfl 3 rfl rfl ?_
      refine ax_iconst (v := 0) 24 dX7_share_23 (by decide) rfl ?_
      refine ax_sipush (v := 200) 27 dX7_share_24 (by decide) rfl ?_
      obtain ⟨r11, S10, e9, hf⟩ := ux_bi_e hf
      refine ax_callSi 30 [.int p2, .int 0, .int 200] dX7_share_27 fs_X7_58 (m_X7_within e9) (by decide) rfl rfl (Nat.le_of_ble_eq_true rfl) rfl ?_
      refine ax_if_ne 35 33 dX7_share_30 (by decide) rfl (fun c12 => ?_) (fun c12 => ?_)
      · have hf := ux_iff c12 hf
        refine ax_aload_n 36 dX7_share_35 rfl 0 rfl rfl ?_
        refine ax_getr 1 39 dX7_share_36 fg_X7_10 rfl (by decide) rfl ?_
        refine ax_getr 13 42 dX7_share_39 fg_X7_75 rfl (by decide) rfl ?_
        refine ax_iload_n 43 dX7_share_42 rfl 1 rfl rfl ?_
        obtain ⟨h13, hf⟩ := ux_gd_e hf
        refine ax_aaldI 44 dX7_share_43 (by decide) rfl h13 rfl ?_
        refine ax_iload_n 45 dX7_share_44 rfl 2 rfl rfl ?_
        obtain ⟨h14, hf⟩ := ux_gd_e hf
        refine ax_iald 46 dX7_share_45 (ux_row13 h13).1 (ux_row13 h13).2 h14 rfl ?_
        refine ax_istore 48 dX7_share_46 (by decide) [1, 2, 3, 4, 0] [(0, .ref (ux_a G 0)), (1, .int p0), (2, .int p1), (3, .int p2), (4, .int (S10.1 (13 + 1 + p0.toNatClampNeg) p1.toNatClampNeg))] rfl rfl ?_
        refine ax_aload_n 49 dX7_share_48 rfl 0 rfl rfl ?_
        refine ax_getr 1 52 dX7_share_49 fg_X7_10 rfl (by decide) rfl ?_
        refine ax_getr 13 55 dX7_share_52 fg_X7_75 rfl (by decide) rfl ?_
        refine ax_iload_n 56 dX7_share_55 rfl 1 rfl rfl ?_
        obtain ⟨h15, hf⟩ := ux_gd_e hf
        refine ax_aaldI 57 dX7_share_56 (by decide) rfl h15 rfl ?_
        refine ax_iload_n 58 dX7_share_57 rfl 2 rfl rfl ?_
        refine ax_iload_n 59 dX7_share_58 rfl 3 rfl rfl ?_
        obtain ⟨h16, hf⟩ := ux_gd_e hf
        refine ax_iast 60 dX7_share_59 (ux_row13 h15).1 (ux_row13 h15).2 h16 rfl ?_
        refine ax_iload 62 dX7_share_60 4 rfl rfl ?_
        exact ax_iret dX7_share_62 hf
      · have hf := ux_ift c12 hf
        refine ax_iconst (v := (-1)) 34 dX7_share_33 (by decide) rfl ?_
        exact ax_iret dX7_share_34 hf
def f_X7_sheet (n : Nat) (S : ux_S) (p0 : Int32) (p1 : Int32) (p2 : Int32) : Option (Int32 × ux_S) :=
  ux_bi (f_X6_has S p0) (fun r3 S2 => if r3 = 0 then (some ((-1), S2)) else (ux_bi (f_X7_isLane S2 p1) (fun r7 S6 => if r7 = 0 then (some ((-1), S6)) else (if p2 ≤ 64 then (if 0 ≤ p2 then (ux_bv (f_X6_renew n S6 p0 p1 p2) (fun S12 => some (1, S12))) else (some ((-14), S6))) else (some ((-1), S6))))))
set_option maxHeartbeats 2000000 in
set_option maxRecDepth 10000 in
theorem m_X7_sheet {l : Launch} {G : ux_G} {n : Nat} {S : ux_S} {p0 : Int32} {p1 : Int32} {p2 : Int32} {r : Int32} {Z : ux_S} (hf : f_X7_sheet n S p0 p1 p2 = some (r, Z)) : ux_M l G yX7_sheet cX7_sheet 4 (some .int) 3 [.ref (ux_a G 0), .int p0, .int p1, .int p2] S (some (.int r)) Z := by
  refine ux_of (by decide) (Nat.le_of_ble_eq_true rfl) ?_
  show ux_At l G RX7 cX7_sheet 4 (some .int) 3 (some (.int r)) Z 0 [(0, .ref (ux_a G 0)), (1, .int p0), (2, .int p1), (3, .int p2)] [] S
  unfold f_X7_sheet at hf
  refine ax_aload_n 1 dX7_sheet_0 rfl 0 rfl rfl ?_
  refine ax_getr 4 4 dX7_sheet_1 fg_X7_33 rfl (by decide) rfl ?_
  refine ax_iload_n 5 dX7_sheet_4 rfl 1 rfl rfl ?_
  obtain ⟨r3, S2, e1, hf⟩ := ux_bi_e hf
  refine ax_callVi 8 [.int p0] dX7_sheet_5 fv_X7_79 (m_X6_has e1) (by decide) rfl rfl (by decide) rfl rfl (Nat.le_of_ble_eq_true rfl) rfl ?_
  refine ax_if_eq 24 11 dX7_sheet_8 (by decide) rfl (fun c4 => ?_) (fun c4 => ?_)
  · have hf := ux_ift c4 hf
    refine ax_iconst (v := (-1)) 25 dX7_sheet_24 (by decide) rfl ?_
    exact ax_iret dX7_sheet_25 hf
  · have hf := ux_iff c4 hf
    refine ax_iload_n 12 dX7_sheet_11 rfl 2 rfl rfl ?_
    obtain ⟨r7, S6, e5, hf⟩ := ux_bi_e hf
    refine ax_callSi 15 [.int p1] dX7_sheet_12 fs_X7_80 (m_X7_isLane e5) (by decide) rfl rfl (Nat.le_of_ble_eq_true rfl) rfl ?_
    refine ax_if_eq 24 18 dX7_sheet_15 (by decide) rfl (fun c8 => ?_) (fun c8 => ?_)
    · have hf := ux_ift c8 hf
      refine ax_iconst (v := (-1)) 25 dX7_sheet_24 (by decide) rfl ?_
      exact ax_iret dX7_sheet_25 hf
    · have hf := ux_iff c8 hf
      refine ax_iload_n 19 dX7_sheet_18 rfl 3 rfl rfl ?_
      refine ax_bipush (v := 64) 21 dX7_sheet_19 (by decide) rfl ?_
      refine ax_icmp_le 26 24 dX7_sheet_21 (by decide) rfl (fun c9 => ?_) (fun c9 => ?_)
      · have hf := ux_ift c9 hf
        refine ax_iload_n 27 dX7_sheet_26 rfl 3 rfl rfl ?_
        refine ax_if_ge 33 30 dX7_sheet_27 (by decide) rfl (fun c10 => ?_) (fun c10 => ?_)
        · have hf := ux_ift c10 hf
          refine ax_aload_n 34 dX7_sheet_33 rfl 0 rfl rfl ?_
          refine ax_getr 4 37 dX7_sheet_34 fg_X7_33 rfl (by decide) rfl ?_
          refine ax_iload_n 38 dX7_sheet_37 rfl 1 rfl rfl ?_
          refine ax_iload_n 39 dX7_sheet_38 rfl 2 rfl rfl ?_
          refine ax_iload_n 40 dX7_sheet_39 rfl 3 rfl rfl ?_
          obtain ⟨S12, e11, hf⟩ := ux_bv_e hf
          refine ax_callVv 43 [.int p0, .int p1, .int p2] dX7_sheet_40 fv_X7_83 (m_X6_renew e11) (by decide) rfl rfl (by decide) rfl rfl (Nat.le_of_ble_eq_true rfl) rfl ?_
          refine ax_iconst (v := 1) 44 dX7_sheet_43 (by decide) rfl ?_
          exact ax_iret dX7_sheet_44 hf
        · have hf := ux_iff c10 hf
          refine ax_bipush (v := (-14)) 32 dX7_sheet_30 (by decide) rfl ?_
          exact ax_iret dX7_sheet_32 hf
      · have hf := ux_iff c9 hf
        refine ax_iconst (v := (-1)) 25 dX7_sheet_24 (by decide) rfl ?_
        exact ax_iret dX7_sheet_25 hf
def f_X7_lay (S : ux_S) (p0 : Int32) (p1 : Int32) (p2 : Int64) : Option (Int32 × ux_S) :=
  ux_bi (f_X6_has S p0) (fun r3 S2 => if r3 = 0 then (some ((-1), S2)) else (ux_bi (f_X6_isNothing S2 p0) (fun r7 S6 => if r7 = 0 then (ux_bi (f_X6_hasCell S6 p0 p1) (fun r11 S10 => if r11 = 0 then (some ((-12), S10)) else (ux_gd (ux_ib p0 4) (ux_gd (ux_ib p0 4) (ux_bi (f_X7_lowestBits S10 (S10.1 40 p0.toNatClampNeg) p2) (fun r17 S16 => ux_gd (ux_ib p1 64) (some (1, ux_l S16 (35 + 1 + p0.toNatClampNeg) p1.toNatClampNeg r17)))))))) else (some ((-11), S6)))))
set_option maxHeartbeats 2000000 in
set_option maxRecDepth 10000 in
theorem m_X7_lay {l : Launch} {G : ux_G} {S : ux_S} {p0 : Int32} {p1 : Int32} {p2 : Int64} {r : Int32} {Z : ux_S} (hf : f_X7_lay S p0 p1 p2 = some (r, Z)) : ux_M l G yX7_lay cX7_lay 5 (some .int) 2 [.ref (ux_a G 0), .int p0, .int p1, .long p2] S (some (.int r)) Z := by
  refine ux_of (by decide) (Nat.le_of_ble_eq_true rfl) ?_
  show ux_At l G RX7 cX7_lay 5 (some .int) 2 (some (.int r)) Z 0 [(0, .ref (ux_a G 0)), (1, .int p0), (2, .int p1), (3, .long p2)] [] S
  unfold f_X7_lay at hf
  refine ax_aload_n 1 dX7_lay_0 rfl 0 rfl rfl ?_
  refine ax_getr 4 4 dX7_lay_1 fg_X7_33 rfl (by decide) rfl ?_
  refine ax_iload_n 5 dX7_lay_4 rfl 1 rfl rfl ?_
  obtain ⟨r3, S2, e1, hf⟩ := ux_bi_e hf
  refine ax_callVi 8 [.int p0] dX7_lay_5 fv_X7_79 (m_X6_has e1) (by decide) rfl rfl (by decide) rfl rfl (Nat.le_of_ble_eq_true rfl) rfl ?_
  refine ax_if_ne 13 11 dX7_lay_8 (by decide) rfl (fun c4 => ?_) (fun c4 => ?_)
  · have hf := ux_iff c4 hf
    refine ax_aload_n 14 dX7_lay_13 rfl 0 rfl rfl ?_
    refine ax_getr 4 17 dX7_lay_14 fg_X7_33 rfl (by decide) rfl ?_
    refine ax_iload_n 18 dX7_lay_17 rfl 1 rfl rfl ?_
    obtain ⟨r7, S6, e5, hf⟩ := ux_bi_e hf
    refine ax_callVi 21 [.int p0] dX7_lay_18 fv_X7_87 (m_X6_isNothing e5) (by decide) rfl rfl (by decide) rfl rfl (Nat.le_of_ble_eq_true rfl) rfl ?_
    refine ax_if_eq 27 24 dX7_lay_21 (by decide) rfl (fun c8 => ?_) (fun c8 => ?_)
    · have hf := ux_ift c8 hf
      refine ax_aload_n 28 dX7_lay_27 rfl 0 rfl rfl ?_
      refine ax_getr 4 31 dX7_lay_28 fg_X7_33 rfl (by decide) rfl ?_
      refine ax_iload_n 32 dX7_lay_31 rfl 1 rfl rfl ?_
      refine ax_iload_n 33 dX7_lay_32 rfl 2 rfl rfl ?_
      obtain ⟨r11, S10, e9, hf⟩ := ux_bi_e hf
      refine ax_callVi 36 [.int p0, .int p1] dX7_lay_33 fv_X7_90 (m_X6_hasCell e9) (by decide) rfl rfl (by decide) rfl rfl (Nat.le_of_ble_eq_true rfl) rfl ?_
      refine ax_if_ne 42 39 dX7_lay_36 (by decide) rfl (fun c12 => ?_) (fun c12 => ?_)
      · have hf := ux_iff c12 hf
        refine ax_aload_n 43 dX7_lay_42 rfl 0 rfl rfl ?_
        refine ax_getr 4 46 dX7_lay_43 fg_X7_33 rfl (by decide) rfl ?_
        refine ax_getr 35 49 dX7_lay_46 fg_X7_94 rfl (by decide) rfl ?_
        refine ax_iload_n 50 dX7_lay_49 rfl 1 rfl rfl ?_
        obtain ⟨h13, hf⟩ := ux_gd_e hf
        refine ax_aaldL 51 dX7_lay_50 (by decide) rfl h13 rfl ?_
        refine ax_iload_n 52 dX7_lay_51 rfl 2 rfl rfl ?_
        refine ax_aload_n 53 dX7_lay_52 rfl 0 rfl rfl ?_
        refine ax_getr 4 56 dX7_lay_53 fg_X7_33 rfl (by decide) rfl ?_
        refine ax_getr 40 59 dX7_lay_56 fg_X7_98 rfl (by decide) rfl ?_
        refine ax_iload_n 60 dX7_lay_59 rfl 1 rfl rfl ?_
        obtain ⟨h14, hf⟩ := ux_gd_e hf
        refine ax_iald 61 dX7_lay_60 (by decide) rfl h14 rfl ?_
        refine ax_lload_n 62 dX7_lay_61 rfl 3 rfl rfl ?_
        obtain ⟨r17, S16, e15, hf⟩ := ux_bi_e hf
        refine ax_callSl 65 [.int (S10.1 40 p0.toNatClampNeg), .long p2] dX7_lay_62 fs_X7_101 (m_X7_lowestBits e15) (by decide) rfl rfl (Nat.le_of_ble_eq_true rfl) rfl ?_
        obtain ⟨h18, hf⟩ := ux_gd_e hf
        refine ax_last 66 dX7_lay_65 (ux_row35 h13).1 (ux_row35 h13).2 h18 rfl ?_
        refine ax_iconst (v := 1) 67 dX7_lay_66 (by decide) rfl ?_
        exact ax_iret dX7_lay_67 hf
      · have hf := ux_ift c12 hf
        refine ax_bipush (v := (-12)) 41 dX7_lay_39 (by decide) rfl ?_
        exact ax_iret dX7_lay_41 hf
    · have hf := ux_iff c8 hf
      refine ax_bipush (v := (-11)) 26 dX7_lay_24 (by decide) rfl ?_
      exact ax_iret dX7_lay_26 hf
  · have hf := ux_ift c4 hf
    refine ax_iconst (v := (-1)) 12 dX7_lay_11 (by decide) rfl ?_
    exact ax_iret dX7_lay_12 hf
def f_X7_draw (n : Nat) (S : ux_S) (p0 : Int32) (p1 : Int32) (p2 : Int32) : Option (Int32 × ux_S) :=
  ux_bi (f_X6_has S p0) (fun r3 S2 => if r3 = 0 then (some ((-1), S2)) else (ux_bi (f_X7_isLane S2 p1) (fun r7 S6 => if r7 = 0 then (some ((-1), S6)) else (ux_bi (f_X6_isNothing S6 p0) (fun r11 S10 => if r11 = 0 then (ux_gd (ux_ib p0 4) (if S10.1 40 p0.toNatClampNeg = p1 then (ux_bi (f_X6_refusal n S10 p0 p2 ((S10.1 1 5) * (S10.1 1 5))) (fun r17 S16 => if r17 = 0 then (ux_gd (ux_ib p0 4) (ux_bv (f_X2_takeShares n S16 (35 + 1 + p0.toNatClampNeg) 64 p2) (fun S21 => some (S21.1 1 5, S21)))) else (some (r17, S16)))) else (some ((-13), S10)))) else (some ((-11), S10)))))))
set_option maxHeartbeats 2000000 in
set_option maxRecDepth 10000 in
theorem m_X7_draw {l : Launch} {G : ux_G} {n : Nat} {S : ux_S} {p0 : Int32} {p1 : Int32} {p2 : Int32} {r : Int32} {Z : ux_S} (hf : f_X7_draw n S p0 p1 p2 = some (r, Z)) : ux_M l G yX7_draw cX7_draw 5 (some .int) 3 [.ref (ux_a G 0), .int p0, .int p1, .int p2] S (some (.int r)) Z := by
  refine ux_of (by decide) (Nat.le_of_ble_eq_true rfl) ?_
  show ux_At l G RX7 cX7_draw 5 (some .int) 3 (some (.int r)) Z 0 [(0, .ref (ux_a G 0)), (1, .int p0), (2, .int p1), (3, .int p2)] [] S
  unfold f_X7_draw at hf
  refine ax_aload_n 1 dX7_draw_0 rfl 0 rfl rfl ?_
  refine ax_getr 4 4 dX7_draw_1 fg_X7_33 rfl (by decide) rfl ?_
  refine ax_iload_n 5 dX7_draw_4 rfl 1 rfl rfl ?_
  obtain ⟨r3, S2, e1, hf⟩ := ux_bi_e hf
  refine ax_callVi 8 [.int p0] dX7_draw_5 fv_X7_79 (m_X6_has e1) (by decide) rfl rfl (by decide) rfl rfl (Nat.le_of_ble_eq_true rfl) rfl ?_
  refine ax_if_eq 18 11 dX7_draw_8 (by decide) rfl (fun c4 => ?_) (fun c4 => ?_)
  · have hf := ux_ift c4 hf
    refine ax_iconst (v := (-1)) 19 dX7_draw_18 (by decide) rfl ?_
    exact ax_iret dX7_draw_19 hf
  · have hf := ux_iff c4 hf
    refine ax_iload_n 12 dX7_draw_11 rfl 2 rfl rfl ?_
    obtain ⟨r7, S6, e5, hf⟩ := ux_bi_e hf
    refine ax_callSi 15 [.int p1] dX7_draw_12 fs_X7_80 (m_X7_isLane e5) (by decide) rfl rfl (Nat.le_of_ble_eq_true rfl) rfl ?_
    refine ax_if_ne 20 18 dX7_draw_15 (by decide) rfl (fun c8 => ?_) (fun c8 => ?_)
    · have hf := ux_iff c8 hf
      refine ax_aload_n 21 dX7_draw_20 rfl 0 rfl rfl ?_
      refine ax_getr 4 24 dX7_draw_21 fg_X7_33 rfl (by decide) rfl ?_
      refine ax_iload_n 25 dX7_draw_24 rfl 1 rfl rfl ?_
      obtain ⟨r11, S10, e9, hf⟩ := ux_bi_e hf
      refine ax_callVi 28 [.int p0] dX7_draw_25 fv_X7_87 (m_X6_isNothing e9) (by decide) rfl rfl (by decide) rfl rfl (Nat.le_of_ble_eq_true rfl) rfl ?_
      refine ax_if_eq 34 31 dX7_draw_28 (by decide) rfl (fun c12 => ?_) (fun c12 => ?_)
      · have hf := ux_ift c12 hf
        refine ax_aload_n 35 dX7_draw_34 rfl 0 rfl rfl ?_
        refine ax_getr 4 38 dX7_draw_35 fg_X7_33 rfl (by decide) rfl ?_
        refine ax_getr 40 41 dX7_draw_38 fg_X7_98 rfl (by decide) rfl ?_
        refine ax_iload_n 42 dX7_draw_41 rfl 1 rfl rfl ?_
        obtain ⟨h13, hf⟩ := ux_gd_e hf
        refine ax_iald 43 dX7_draw_42 (by decide) rfl h13 rfl ?_
        refine ax_iload_n 44 dX7_draw_43 rfl 2 rfl rfl ?_
        refine ax_icmp_eq 50 47 dX7_draw_44 (by decide) rfl (fun c14 => ?_) (fun c14 => ?_)
        · have hf := ux_ift c14 hf
          refine ax_aload_n 51 dX7_draw_50 rfl 0 rfl rfl ?_
          refine ax_getr 4 54 dX7_draw_51 fg_X7_33 rfl (by decide) rfl ?_
          refine ax_iload_n 55 dX7_draw_54 rfl 1 rfl rfl ?_
          refine ax_iload_n 56 dX7_draw_55 rfl 3 rfl rfl ?_
          refine ax_aload_n 57 dX7_draw_56 rfl 0 rfl rfl ?_
          refine ax_getr 1 60 dX7_draw_57 fg_X7_10 rfl (by decide) rfl ?_
          refine ax_geti 63 dX7_draw_60 fg_X7_105 rfl rfl ?_
          refine ax_aload_n 64 dX7_draw_63 rfl 0 rfl rfl ?_
          refine ax_getr 1 67 dX7_draw_64 fg_X7_10 rfl (by decide) rfl ?_
          refine ax_geti 70 dX7_draw_67 fg_X7_105 rfl rfl ?_
          refine ax_imul 71 dX7_draw_70 rfl ?_
          obtain ⟨r17, S16, e15, hf⟩ := ux_bi_e hf
          refine ax_callVi 74 [.int p0, .int p2, .int ((S10.1 1 5) * (S10.1 1 5))] dX7_draw_71 fv_X7_109 (m_X6_refusal e15) (by decide) rfl rfl (by decide) rfl rfl (Nat.le_of_ble_eq_true rfl) rfl ?_
          refine ax_istore 76 dX7_draw_74 (by decide) [1, 2, 3, 4, 0] [(0, .ref (ux_a G 0)), (1, .int p0), (2, .int p1), (3, .int p2), (4, .int r17)] rfl rfl ?_
          refine ax_iload 78 dX7_draw_76 4 rfl rfl ?_
          refine ax_if_eq 84 81 dX7_draw_78 (by decide) rfl (fun c18 => ?_) (fun c18 => ?_)
          · have hf := ux_ift c18 hf
            refine ax_aload_n 85 dX7_draw_84 rfl 0 rfl rfl ?_
            refine ax_getr 1 88 dX7_draw_85 fg_X7_10 rfl (by decide) rfl ?_
            refine ax_aload_n 89 dX7_draw_88 rfl 0 rfl rfl ?_
            refine ax_getr 4 92 dX7_draw_89 fg_X7_33 rfl (by decide) rfl ?_
            refine ax_getr 35 95 dX7_draw_92 fg_X7_94 rfl (by decide) rfl ?_
            refine ax_iload_n 96 dX7_draw_95 rfl 1 rfl rfl ?_
            obtain ⟨h19, hf⟩ := ux_gd_e hf
            refine ax_aaldL 97 dX7_draw_96 (by decide) rfl h19 rfl ?_
            refine ax_iload_n 98 dX7_draw_97 rfl 3 rfl rfl ?_
            obtain ⟨S21, e20, hf⟩ := ux_bv_e hf
            refine ax_callVv 101 [.ref (ux_a G (35 + 1 + p0.toNatClampNeg)), .int p2] dX7_draw_98 fv_X7_113 (m_X2_takeShares ⟨(ux_row35 h19).1, (ux_row35 h19).2⟩ e20) (by decide) rfl rfl (by decide) rfl rfl (Nat.le_of_ble_eq_true rfl) rfl ?_
            refine ax_aload_n 102 dX7_draw_101 rfl 0 rfl rfl ?_
            refine ax_getr 1 105 dX7_draw_102 fg_X7_10 rfl (by decide) rfl ?_
            refine ax_geti 108 dX7_draw_105 fg_X7_105 rfl rfl ?_
            exact ax_iret dX7_draw_108 hf
          · have hf := ux_iff c18 hf
            refine ax_iload 83 dX7_draw_81 4 rfl rfl ?_
            exact ax_iret dX7_draw_83 hf
        · have hf := ux_iff c14 hf
          refine ax_bipush (v := (-13)) 49 dX7_draw_47 (by decide) rfl ?_
          exact ax_iret dX7_draw_49 hf
      · have hf := ux_iff c12 hf
        refine ax_bipush (v := (-11)) 33 dX7_draw_31 (by decide) rfl ?_
        exact ax_iret dX7_draw_33 hf
    · have hf := ux_ift c8 hf
      refine ax_iconst (v := (-1)) 19 dX7_draw_18 (by decide) rfl ?_
      exact ax_iret dX7_draw_19 hf
def f_X7_set (S : ux_S) (p0 : Int32) (p1 : Int32) : Option (Int32 × ux_S) :=
  ux_bi (f_X7_isAir S p0) (fun r3 S2 => if r3 = 0 then (some ((-1), S2)) else (ux_bi (f_X7_isFan S2 p1) (fun r7 S6 => if r7 = 0 then (some ((-1), S6)) else (some (1, ux_i (ux_i S6 1 6 p0) 1 7 p1)))))
set_option maxHeartbeats 2000000 in
set_option maxRecDepth 10000 in
theorem m_X7_set {l : Launch} {G : ux_G} {S : ux_S} {p0 : Int32} {p1 : Int32} {r : Int32} {Z : ux_S} (hf : f_X7_set S p0 p1 = some (r, Z)) : ux_M l G yX7_set cX7_set 3 (some .int) 3 [.ref (ux_a G 0), .int p0, .int p1] S (some (.int r)) Z := by
  refine ux_of (by decide) (Nat.le_of_ble_eq_true rfl) ?_
  show ux_At l G RX7 cX7_set 3 (some .int) 3 (some (.int r)) Z 0 [(0, .ref (ux_a G 0)), (1, .int p0), (2, .int p1)] [] S
  unfold f_X7_set at hf
  refine ax_iload_n 1 dX7_set_0 rfl 1 rfl rfl ?_
  obtain ⟨r3, S2, e1, hf⟩ := ux_bi_e hf
  refine ax_callSi 4 [.int p0] dX7_set_1 fs_X7_117 (m_X7_isAir e1) (by decide) rfl rfl (Nat.le_of_ble_eq_true rfl) rfl ?_
  refine ax_if_eq 14 7 dX7_set_4 (by decide) rfl (fun c4 => ?_) (fun c4 => ?_)
  · have hf := ux_ift c4 hf
    refine ax_iconst (v := (-1)) 15 dX7_set_14 (by decide) rfl ?_
    exact ax_iret dX7_set_15 hf
  · have hf := ux_iff c4 hf
    refine ax_iload_n 8 dX7_set_7 rfl 2 rfl rfl ?_
    obtain ⟨r7, S6, e5, hf⟩ := ux_bi_e hf
    refine ax_callSi 11 [.int p1] dX7_set_8 fs_X7_120 (m_X7_isFan e5) (by decide) rfl rfl (Nat.le_of_ble_eq_true rfl) rfl ?_
    refine ax_if_ne 16 14 dX7_set_11 (by decide) rfl (fun c8 => ?_) (fun c8 => ?_)
    · have hf := ux_iff c8 hf
      refine ax_aload_n 17 dX7_set_16 rfl 0 rfl rfl ?_
      refine ax_getr 1 20 dX7_set_17 fg_X7_10 rfl (by decide) rfl ?_
      refine ax_iload_n 21 dX7_set_20 rfl 1 rfl rfl ?_
      refine ax_put 24 dX7_set_21 fp_X7_123 rfl ?_
      refine ax_aload_n 25 dX7_set_24 rfl 0 rfl rfl ?_
      refine ax_getr 1 28 dX7_set_25 fg_X7_10 rfl (by decide) rfl ?_
      refine ax_iload_n 29 dX7_set_28 rfl 2 rfl rfl ?_
      refine ax_put 32 dX7_set_29 fp_X7_126 rfl ?_
      refine ax_iconst (v := 1) 33 dX7_set_32 (by decide) rfl ?_
      exact ax_iret dX7_set_33 hf
    · have hf := ux_ift c8 hf
      refine ax_iconst (v := (-1)) 15 dX7_set_14 (by decide) rfl ?_
      exact ax_iret dX7_set_15 hf
def f_X7_price (S : ux_S) (p0 : Int32) (p1 : Int32) : Option (Int32 × ux_S) :=
  if p0 = 0 then (ux_bi (f_X7_within S p1 0 100) (fun r15 S14 => if r15 = 0 then (some ((-1), S14)) else (ux_bi (f_X5_changeWeight S14 p1) (fun r19 S18 => some (r19, S18))))) else (ux_bi (f_X7_isAir S p0) (fun r4 S3 => if r4 = 0 then (some ((-1), S3)) else (ux_bi (f_X7_within S3 p1 0 1000) (fun r8 S7 => if r8 = 0 then (some ((-1), S7)) else (ux_bi (f_X5_changeAir S7 p0 p1) (fun r12 S11 => some (r12, S11)))))))
set_option maxHeartbeats 2000000 in
set_option maxRecDepth 10000 in
theorem m_X7_price {l : Launch} {G : ux_G} {S : ux_S} {p0 : Int32} {p1 : Int32} {r : Int32} {Z : ux_S} (hf : f_X7_price S p0 p1 = some (r, Z)) : ux_M l G yX7_price cX7_price 3 (some .int) 3 [.ref (ux_a G 0), .int p0, .int p1] S (some (.int r)) Z := by
  refine ux_of (by decide) (Nat.le_of_ble_eq_true rfl) ?_
  show ux_At l G RX7 cX7_price 3 (some .int) 3 (some (.int r)) Z 0 [(0, .ref (ux_a G 0)), (1, .int p0), (2, .int p1)] [] S
  unfold f_X7_price at hf
  refine ax_iload_n 1 dX7_price_0 rfl 1 rfl rfl ?_
  refine ax_if_ne 27 4 dX7_price_1 (by decide) rfl (fun c1 => ?_) (fun c1 => ?_)
  · have hf := ux_iff c1 hf
    refine ax_iload_n 28 dX7_price_27 rfl 1 rfl rfl ?_
    obtain ⟨r4, S3, e2, hf⟩ := ux_bi_e hf
    refine ax_callSi 31 [.int p0] dX7_price_28 fs_X7_117 (m_X7_isAir e2) (by decide) rfl rfl (Nat.le_of_ble_eq_true rfl) rfl ?_
    refine ax_if_eq 57 34 dX7_price_31 (by decide) rfl (fun c5 => ?_) (fun c5 => ?_)
    · have hf := ux_ift c5 hf
      refine ax_iconst (v := (-1)) 58 dX7_price_57 (by decide) rfl ?_
      exact ax_iret dX7_price_58 hf
    · have hf := ux_iff c5 hf
      refine ax_iload_n 35 dX7_price_34 rfl 2 rfl rfl ?_
      refine ax_iconst (v := 0) 36 dX7_price_35 (by decide) rfl ?_
      refine ax_sipush (v := 1000) 39 dX7_price_36 (by decide) rfl ?_
      obtain ⟨r8, S7, e6, hf⟩ := ux_bi_e hf
      refine ax_callSi 42 [.int p1, .int 0, .int 1000] dX7_price_39 fs_X7_58 (m_X7_within e6) (by decide) rfl rfl (Nat.le_of_ble_eq_true rfl) rfl ?_
      refine ax_if_eq 57 45 dX7_price_42 (by decide) rfl (fun c9 => ?_) (fun c9 => ?_)
      · have hf := ux_ift c9 hf
        refine ax_iconst (v := (-1)) 58 dX7_price_57 (by decide) rfl ?_
        exact ax_iret dX7_price_58 hf
      · have hf := ux_iff c9 hf
        refine ax_aload_n 46 dX7_price_45 rfl 0 rfl rfl ?_
        refine ax_getr 2 49 dX7_price_46 fg_X7_19 rfl (by decide) rfl ?_
        refine ax_iload_n 50 dX7_price_49 rfl 1 rfl rfl ?_
        refine ax_iload_n 51 dX7_price_50 rfl 2 rfl rfl ?_
        obtain ⟨r12, S11, e10, hf⟩ := ux_bi_e hf
        refine ax_callVi 54 [.int p0, .int p1] dX7_price_51 fv_X7_133 (m_X5_changeAir e10) (by decide) rfl rfl (by decide) rfl rfl (Nat.le_of_ble_eq_true rfl) rfl ?_
        refine ax_goto 58 dX7_price_54 (by decide) ?_
        exact ax_iret dX7_price_58 hf
  · have hf := ux_ift c1 hf
    refine ax_iload_n 5 dX7_price_4 rfl 2 rfl rfl ?_
    refine ax_iconst (v := 0) 6 dX7_price_5 (by decide) rfl ?_
    refine ax_bipush (v := 100) 8 dX7_price_6 (by decide) rfl ?_
    obtain ⟨r15, S14, e13, hf⟩ := ux_bi_e hf
    refine ax_callSi 11 [.int p1, .int 0, .int 100] dX7_price_8 fs_X7_58 (m_X7_within e13) (by decide) rfl rfl (Nat.le_of_ble_eq_true rfl) rfl ?_
    refine ax_if_eq 25 14 dX7_price_11 (by decide) rfl (fun c16 => ?_) (fun c16 => ?_)
    · have hf := ux_ift c16 hf
      refine ax_iconst (v := (-1)) 26 dX7_price_25 (by decide) rfl ?_
      exact ax_iret dX7_price_26 hf
    · have hf := ux_iff c16 hf
      refine ax_aload_n 15 dX7_price_14 rfl 0 rfl rfl ?_
      refine ax_getr 2 18 dX7_price_15 fg_X7_19 rfl (by decide) rfl ?_
      refine ax_iload_n 19 dX7_price_18 rfl 2 rfl rfl ?_
      obtain ⟨r19, S18, e17, hf⟩ := ux_bi_e hf
      refine ax_callVi 22 [.int p1] dX7_price_19 fv_X7_129 (m_X5_changeWeight e17) (by decide) rfl rfl (by decide) rfl rfl (Nat.le_of_ble_eq_true rfl) rfl ?_
      refine ax_goto 26 dX7_price_22 (by decide) ?_
      exact ax_iret dX7_price_26 hf
def f_X7_into (n : Nat) (S : ux_S) (p0 : Int32) : Option (Int32 × ux_S) :=
  ux_bi (f_X2_has S p0) (fun r3 S2 => if r3 = 0 then (some ((-1), S2)) else (ux_bi (f_X2_warmth n S2 p0 (S2.1 1 6) (S2.1 1 7)) (fun r7 S6 => some (r7, S6))))
set_option maxHeartbeats 2000000 in
set_option maxRecDepth 10000 in
theorem m_X7_into {l : Launch} {G : ux_G} {n : Nat} {S : ux_S} {p0 : Int32} {r : Int32} {Z : ux_S} (hf : f_X7_into n S p0 = some (r, Z)) : ux_M l G yX7_into cX7_into 2 (some .int) 4 [.ref (ux_a G 0), .int p0] S (some (.int r)) Z := by
  refine ux_of (by decide) (Nat.le_of_ble_eq_true rfl) ?_
  show ux_At l G RX7 cX7_into 2 (some .int) 4 (some (.int r)) Z 0 [(0, .ref (ux_a G 0)), (1, .int p0)] [] S
  unfold f_X7_into at hf
  refine ax_aload_n 1 dX7_into_0 rfl 0 rfl rfl ?_
  refine ax_getr 1 4 dX7_into_1 fg_X7_10 rfl (by decide) rfl ?_
  refine ax_iload_n 5 dX7_into_4 rfl 1 rfl rfl ?_
  obtain ⟨r3, S2, e1, hf⟩ := ux_bi_e hf
  refine ax_callVi 8 [.int p0] dX7_into_5 fv_X7_67 (m_X2_has e1) (by decide) rfl rfl (by decide) rfl rfl (Nat.le_of_ble_eq_true rfl) rfl ?_
  refine ax_if_eq 36 11 dX7_into_8 (by decide) rfl (fun c4 => ?_) (fun c4 => ?_)
  · have hf := ux_ift c4 hf
    refine ax_iconst (v := (-1)) 37 dX7_into_36 (by decide) rfl ?_
    exact ax_iret dX7_into_37 hf
  · have hf := ux_iff c4 hf
    refine ax_aload_n 12 dX7_into_11 rfl 0 rfl rfl ?_
    refine ax_getr 1 15 dX7_into_12 fg_X7_10 rfl (by decide) rfl ?_
    refine ax_iload_n 16 dX7_into_15 rfl 1 rfl rfl ?_
    refine ax_aload_n 17 dX7_into_16 rfl 0 rfl rfl ?_
    refine ax_getr 1 20 dX7_into_17 fg_X7_10 rfl (by decide) rfl ?_
    refine ax_geti 23 dX7_into_20 fg_X7_123 rfl rfl ?_
    refine ax_aload_n 24 dX7_into_23 rfl 0 rfl rfl ?_
    refine ax_getr 1 27 dX7_into_24 fg_X7_10 rfl (by decide) rfl ?_
    refine ax_geti 30 dX7_into_27 fg_X7_126 rfl rfl ?_
    obtain ⟨r7, S6, e5, hf⟩ := ux_bi_e hf
    refine ax_callVi 33 [.int p0, .int (S2.1 1 6), .int (S2.1 1 7)] dX7_into_30 fv_X7_137 (m_X2_warmth e5) (by decide) rfl rfl (by decide) rfl rfl (Nat.le_of_ble_eq_true rfl) rfl ?_
    refine ax_goto 37 dX7_into_33 (by decide) ?_
    exact ax_iret dX7_into_37 hf
def f_X7_hot (n : Nat) (S : ux_S) (p0 : Int32) : Option (Int32 × ux_S) :=
  if p0 = 0 then (ux_bi (f_X2_countHot n S ) (fun r4 S3 => some (r4, S3))) else (if p0 = 1 then (ux_bi (f_X2_firstHot n S (S.1 1 6) (S.1 1 7)) (fun r8 S7 => some (r8, S7))) else (if p0 = 2 then (ux_bi (f_X2_nearestToLimit n S ) (fun r12 S11 => some (r12, S11))) else (some ((-1), S))))
set_option maxHeartbeats 2000000 in
set_option maxRecDepth 10000 in
theorem m_X7_hot {l : Launch} {G : ux_G} {n : Nat} {S : ux_S} {p0 : Int32} {r : Int32} {Z : ux_S} (hf : f_X7_hot n S p0 = some (r, Z)) : ux_M l G yX7_hot cX7_hot 2 (some .int) 6 [.ref (ux_a G 0), .int p0] S (some (.int r)) Z := by
  refine ux_of (by decide) (Nat.le_of_ble_eq_true rfl) ?_
  show ux_At l G RX7 cX7_hot 2 (some .int) 6 (some (.int r)) Z 0 [(0, .ref (ux_a G 0)), (1, .int p0)] [] S
  unfold f_X7_hot at hf
  refine ax_iload_n 1 dX7_hot_0 rfl 1 rfl rfl ?_
  by_cases c1 : p0 = 0
  · have hf := ux_ift c1 hf
    refine ax_tabIn 0 28 c1 dX7_hot_1 (by decide) (by decide) rfl (by decide) ?_
    refine ax_aload_n 29 dX7_hot_28 rfl 0 rfl rfl ?_
    refine ax_getr 1 32 dX7_hot_29 fg_X7_10 rfl (by decide) rfl ?_
    obtain ⟨r4, S3, e2, hf⟩ := ux_bi_e hf
    refine ax_callVi 35 [] dX7_hot_32 fv_X7_140 (m_X2_countHot e2) (by decide) rfl rfl (by decide) rfl rfl (Nat.le_of_ble_eq_true rfl) rfl ?_
    exact ax_iret dX7_hot_35 hf
  have hf := ux_iff c1 hf
  by_cases c5 : p0 = 1
  · have hf := ux_ift c5 hf
    refine ax_tabIn 1 36 c5 dX7_hot_1 (by decide) (by decide) rfl (by decide) ?_
    refine ax_aload_n 37 dX7_hot_36 rfl 0 rfl rfl ?_
    refine ax_getr 1 40 dX7_hot_37 fg_X7_10 rfl (by decide) rfl ?_
    refine ax_aload_n 41 dX7_hot_40 rfl 0 rfl rfl ?_
    refine ax_getr 1 44 dX7_hot_41 fg_X7_10 rfl (by decide) rfl ?_
    refine ax_geti 47 dX7_hot_44 fg_X7_123 rfl rfl ?_
    refine ax_aload_n 48 dX7_hot_47 rfl 0 rfl rfl ?_
    refine ax_getr 1 51 dX7_hot_48 fg_X7_10 rfl (by decide) rfl ?_
    refine ax_geti 54 dX7_hot_51 fg_X7_126 rfl rfl ?_
    obtain ⟨r8, S7, e6, hf⟩ := ux_bi_e hf
    refine ax_callVi 57 [.int (S.1 1 6), .int (S.1 1 7)] dX7_hot_54 fv_X7_144 (m_X2_firstHot e6) (by decide) rfl rfl (by decide) rfl rfl (Nat.le_of_ble_eq_true rfl) rfl ?_
    exact ax_iret dX7_hot_57 hf
  have hf := ux_iff c5 hf
  by_cases c9 : p0 = 2
  · have hf := ux_ift c9 hf
    refine ax_tabIn 2 58 c9 dX7_hot_1 (by decide) (by decide) rfl (by decide) ?_
    refine ax_aload_n 59 dX7_hot_58 rfl 0 rfl rfl ?_
    refine ax_getr 1 62 dX7_hot_59 fg_X7_10 rfl (by decide) rfl ?_
    obtain ⟨r12, S11, e10, hf⟩ := ux_bi_e hf
    refine ax_callVi 65 [] dX7_hot_62 fv_X7_147 (m_X2_nearestToLimit e10) (by decide) rfl rfl (by decide) rfl rfl (Nat.le_of_ble_eq_true rfl) rfl ?_
    exact ax_iret dX7_hot_65 hf
  have hf := ux_iff c9 hf
  refine ax_tabOut 66 dX7_hot_1 (ax_swOut 3 (by decide) (fun k hk => by match k, hk with | 0, _ => exact c1 | 1, _ => exact c5 | 2, _ => exact c9 | k + 3, hk => exact absurd hk (by omega))) (by decide) ?_
  refine ax_iconst (v := (-1)) 67 dX7_hot_66 (by decide) rfl ?_
  exact ax_iret dX7_hot_67 hf
def f_X7_power (n : Nat) (S : ux_S) (p0 : Int32) (p1 : Int32) : Option (Int32 × ux_S) :=
  ux_bi (f_X7_isAir S p0) (fun r3 S2 => if r3 = 0 then (some ((-1), S2)) else (ux_bi (f_X7_isFan S2 p1) (fun r7 S6 => if r7 = 0 then (some ((-1), S6)) else (ux_bi (f_X2_allLoads n S6 ) (fun r11 S10 => ux_bi (f_X5_powerOf S10 p0 p1 r11) (fun r14 S13 => some (r14, S13)))))))
set_option maxHeartbeats 2000000 in
set_option maxRecDepth 10000 in
theorem m_X7_power {l : Launch} {G : ux_G} {n : Nat} {S : ux_S} {p0 : Int32} {p1 : Int32} {r : Int32} {Z : ux_S} (hf : f_X7_power n S p0 p1 = some (r, Z)) : ux_M l G yX7_power cX7_power 3 (some .int) 4 [.ref (ux_a G 0), .int p0, .int p1] S (some (.int r)) Z := by
  refine ux_of (by decide) (Nat.le_of_ble_eq_true rfl) ?_
  show ux_At l G RX7 cX7_power 3 (some .int) 4 (some (.int r)) Z 0 [(0, .ref (ux_a G 0)), (1, .int p0), (2, .int p1)] [] S
  unfold f_X7_power at hf
  refine ax_iload_n 1 dX7_power_0 rfl 1 rfl rfl ?_
  obtain ⟨r3, S2, e1, hf⟩ := ux_bi_e hf
  refine ax_callSi 4 [.int p0] dX7_power_1 fs_X7_117 (m_X7_isAir e1) (by decide) rfl rfl (Nat.le_of_ble_eq_true rfl) rfl ?_
  refine ax_if_eq 33 7 dX7_power_4 (by decide) rfl (fun c4 => ?_) (fun c4 => ?_)
  · have hf := ux_ift c4 hf
    refine ax_iconst (v := (-1)) 34 dX7_power_33 (by decide) rfl ?_
    exact ax_iret dX7_power_34 hf
  · have hf := ux_iff c4 hf
    refine ax_iload_n 8 dX7_power_7 rfl 2 rfl rfl ?_
    obtain ⟨r7, S6, e5, hf⟩ := ux_bi_e hf
    refine ax_callSi 11 [.int p1] dX7_power_8 fs_X7_120 (m_X7_isFan e5) (by decide) rfl rfl (Nat.le_of_ble_eq_true rfl) rfl ?_
    refine ax_if_eq 33 14 dX7_power_11 (by decide) rfl (fun c8 => ?_) (fun c8 => ?_)
    · have hf := ux_ift c8 hf
      refine ax_iconst (v := (-1)) 34 dX7_power_33 (by decide) rfl ?_
      exact ax_iret dX7_power_34 hf
    · have hf := ux_iff c8 hf
      refine ax_aload_n 15 dX7_power_14 rfl 0 rfl rfl ?_
      refine ax_getr 2 18 dX7_power_15 fg_X7_19 rfl (by decide) rfl ?_
      refine ax_iload_n 19 dX7_power_18 rfl 1 rfl rfl ?_
      refine ax_iload_n 20 dX7_power_19 rfl 2 rfl rfl ?_
      refine ax_aload_n 21 dX7_power_20 rfl 0 rfl rfl ?_
      refine ax_getr 1 24 dX7_power_21 fg_X7_10 rfl (by decide) rfl ?_
      obtain ⟨r11, S10, e9, hf⟩ := ux_bi_e hf
      refine ax_callVi 27 [] dX7_power_24 fv_X7_150 (m_X2_allLoads e9) (by decide) rfl rfl (by decide) rfl rfl (Nat.le_of_ble_eq_true rfl) rfl ?_
      obtain ⟨r14, S13, e12, hf⟩ := ux_bi_e hf
      refine ax_callVi 30 [.int p0, .int p1, .int r11] dX7_power_27 fv_X7_153 (m_X5_powerOf e12) (by decide) rfl rfl (by decide) rfl rfl (Nat.le_of_ble_eq_true rfl) rfl ?_
      refine ax_goto 34 dX7_power_30 (by decide) ?_
      exact ax_iret dX7_power_34 hf
def b_X7_best_27 (n : Nat) (k17 : Int32 → Int32 → Int32 → Int32 → ux_S → Option (Int32 × ux_S)) (k27 : Int32 → Int32 → Int32 → Int32 → Int32 → ux_S → Option (Int32 × ux_S)) (x1 : Int32) (x2 : Int32) (x3 : Int32) (x4 : Int32) (x5 : Int32) (S : ux_S) : Option (Int32 × ux_S) :=
  if 30 < x5 then (k17 x1 x2 x3 (x4 + 1) S) else (ux_bi (f_X5_powerOf S x5 x4 x1) (fun r8 S7 => if x2 ≤ r8 then (k27 x1 x2 x3 x4 (x5 + 1) S7) else (ux_bi (f_X2_firstHot n S7 x5 x4) (fun r12 S11 => if r12 = (-4) then (k27 x1 r8 (((10 : Int32) * x5) + x4) x4 (x5 + 1) S11) else (k27 x1 x2 x3 x4 (x5 + 1) S11)))))
set_option maxHeartbeats 2000000 in
set_option maxRecDepth 10000 in
theorem w_X7_best_27 {l : Launch} {G : ux_G} {n : Nat} {r : Int32} {Z : ux_S} (k17 : Int32 → Int32 → Int32 → Int32 → ux_S → Option (Int32 × ux_S)) (hk17 : ∀ (x1 x2 x3 x4 : Int32) (S : ux_S), k17 x1 x2 x3 x4 S = some (r, Z) → ux_At l G RX7 cX7_best 7 (some .int) 5 (some (.int r)) Z 17 [(0, .ref (ux_a G 0)), (1, .int x1), (2, .int x2), (3, .int x3), (4, .int x4)] [] S) (k27 : Int32 → Int32 → Int32 → Int32 → Int32 → ux_S → Option (Int32 × ux_S)) (hk27 : ∀ (x1 x2 x3 x4 x5 : Int32) (S : ux_S), k27 x1 x2 x3 x4 x5 S = some (r, Z) → ux_At l G RX7 cX7_best 7 (some .int) 5 (some (.int r)) Z 27 [(0, .ref (ux_a G 0)), (1, .int x1), (2, .int x2), (3, .int x3), (4, .int x4), (5, .int x5)] [] S) : ∀ (x1 : Int32) (x2 : Int32) (x3 : Int32) (x4 : Int32) (x5 : Int32) (S : ux_S), b_X7_best_27 n k17 k27 x1 x2 x3 x4 x5 S = some (r, Z) → ux_At l G RX7 cX7_best 7 (some .int) 5 (some (.int r)) Z 27 [(0, .ref (ux_a G 0)), (1, .int x1), (2, .int x2), (3, .int x3), (4, .int x4), (5, .int x5)] [] S := by
  intro x1 x2 x3 x4 x5 S hf
  unfold b_X7_best_27 at hf
  refine ax_iload 29 dX7_best_27 5 rfl rfl ?_
  refine ax_bipush (v := 30) 31 dX7_best_29 (by decide) rfl ?_
  refine ax_icmp_gt 88 34 dX7_best_31 (by decide) rfl (fun c5 => ?_) (fun c5 => ?_)
  · have hf := ux_ift c5 hf
    refine ax_iinc (v := x4 + 1) 91 dX7_best_88 4 rfl rfl (by decide) [1, 2, 3, 4, 0] [(0, .ref (ux_a G 0)), (1, .int x1), (2, .int x2), (3, .int x3), (4, .int (x4 + 1))] rfl rfl ?_
    refine ax_goto 17 dX7_best_91 (by decide) ?_
    exact ax_sub [0, 1, 2, 3, 4] rfl (hk17 x1 x2 x3 (x4 + 1) S hf)
  · have hf := ux_iff c5 hf
    refine ax_aload_n 35 dX7_best_34 rfl 0 rfl rfl ?_
    refine ax_getr 2 38 dX7_best_35 fg_X7_19 rfl (by decide) rfl ?_
    refine ax_iload 40 dX7_best_38 5 rfl rfl ?_
    refine ax_iload 42 dX7_best_40 4 rfl rfl ?_
    refine ax_iload_n 43 dX7_best_42 rfl 1 rfl rfl ?_
    obtain ⟨r8, S7, e6, hf⟩ := ux_bi_e hf
    refine ax_callVi 46 [.int x5, .int x4, .int x1] dX7_best_43 fv_X7_153 (m_X5_powerOf e6) (by decide) rfl rfl (by decide) rfl rfl (Nat.le_of_ble_eq_true rfl) rfl ?_
    refine ax_istore 48 dX7_best_46 (by decide) [1, 2, 3, 4, 5, 6, 0] [(0, .ref (ux_a G 0)), (1, .int x1), (2, .int x2), (3, .int x3), (4, .int x4), (5, .int x5), (6, .int r8)] rfl rfl ?_
    refine ax_iload 50 dX7_best_48 6 rfl rfl ?_
    refine ax_iload_n 51 dX7_best_50 rfl 2 rfl rfl ?_
    refine ax_icmp_ge 82 54 dX7_best_51 (by decide) rfl (fun c9 => ?_) (fun c9 => ?_)
    · have hf := ux_ift c9 hf
      refine ax_iinc (v := x5 + 1) 85 dX7_best_82 5 rfl rfl (by decide) [1, 2, 3, 4, 5, 0] [(0, .ref (ux_a G 0)), (1, .int x1), (2, .int x2), (3, .int x3), (4, .int x4), (5, .int (x5 + 1))] rfl rfl ?_
      refine ax_goto 27 dX7_best_85 (by decide) ?_
      exact ax_sub [0, 1, 2, 3, 4, 5] rfl (hk27 x1 x2 x3 x4 (x5 + 1) S7 hf)
    · have hf := ux_iff c9 hf
      refine ax_aload_n 55 dX7_best_54 rfl 0 rfl rfl ?_
      refine ax_getr 1 58 dX7_best_55 fg_X7_10 rfl (by decide) rfl ?_
      refine ax_iload 60 dX7_best_58 5 rfl rfl ?_
      refine ax_iload 62 dX7_best_60 4 rfl rfl ?_
      obtain ⟨r12, S11, e10, hf⟩ := ux_bi_e hf
      refine ax_callVi 65 [.int x5, .int x4] dX7_best_62 fv_X7_144 (m_X2_firstHot e10) (by decide) rfl rfl (by decide) rfl rfl (Nat.le_of_ble_eq_true rfl) rfl ?_
      refine ax_bipush (v := (-4)) 67 dX7_best_65 (by decide) rfl ?_
      refine ax_icmp_ne 82 70 dX7_best_67 (by decide) rfl (fun c13 => ?_) (fun c13 => ?_)
      · have hf := ux_iff c13 hf
        refine ax_iinc (v := x5 + 1) 85 dX7_best_82 5 rfl rfl (by decide) [1, 2, 3, 4, 5, 0] [(0, .ref (ux_a G 0)), (1, .int x1), (2, .int x2), (3, .int x3), (4, .int x4), (5, .int (x5 + 1))] rfl rfl ?_
        refine ax_goto 27 dX7_best_85 (by decide) ?_
        exact ax_sub [0, 1, 2, 3, 4, 5] rfl (hk27 x1 x2 x3 x4 (x5 + 1) S11 hf)
      · have hf := ux_ift c13 hf
        refine ax_iload 72 dX7_best_70 6 rfl rfl ?_
        refine ax_istore_n 73 dX7_best_72 rfl (by decide) [1, 2, 0, 4, 5] [(0, .ref (ux_a G 0)), (1, .int x1), (2, .int r8), (4, .int x4), (5, .int x5)] rfl rfl ?_
        refine ax_bipush (v := 10) 75 dX7_best_73 (by decide) rfl ?_
        refine ax_iload 77 dX7_best_75 4 rfl rfl ?_
        refine ax_imul 78 dX7_best_77 rfl ?_
        refine ax_iload 80 dX7_best_78 3 rfl rfl ?_
        refine ax_iadd 81 dX7_best_80 rfl ?_
        refine ax_istore_n 82 dX7_best_81 rfl (by decide) [1, 2, 3, 0, 4, 5] [(0, .ref (ux_a G 0)), (1, .int x1), (2, .int r8), (3, .int (((10 : Int32) * x5) + x4)), (4, .int x4), (5, .int x5)] rfl rfl ?_
        refine ax_iinc (v := x5 + 1) 85 dX7_best_82 5 rfl rfl (by decide) [1, 2, 3, 4, 5, 0] [(0, .ref (ux_a G 0)), (1, .int x1), (2, .int r8), (3, .int (((10 : Int32) * x5) + x4)), (4, .int x4), (5, .int (x5 + 1))] rfl rfl ?_
        refine ax_goto 27 dX7_best_85 (by decide) ?_
        exact ax_sub [0, 1, 2, 3, 4, 5] rfl (hk27 x1 r8 (((10 : Int32) * x5) + x4) x4 (x5 + 1) S11 hf)
def b_X7_best_17 (n : Nat) (k17 : Int32 → Int32 → Int32 → Int32 → ux_S → Option (Int32 × ux_S)) (x1 : Int32) (x2 : Int32) (x3 : Int32) (x4 : Int32) (S : ux_S) : Option (Int32 × ux_S) :=
  if 5 < x4 then (some (x3, S)) else (ux_lp5 (b_X7_best_27 n k17) n x1 x2 x3 x4 10 S)
set_option maxHeartbeats 2000000 in
set_option maxRecDepth 10000 in
theorem w_X7_best_17 {l : Launch} {G : ux_G} {n : Nat} {r : Int32} {Z : ux_S} (k17 : Int32 → Int32 → Int32 → Int32 → ux_S → Option (Int32 × ux_S)) (hk17 : ∀ (x1 x2 x3 x4 : Int32) (S : ux_S), k17 x1 x2 x3 x4 S = some (r, Z) → ux_At l G RX7 cX7_best 7 (some .int) 5 (some (.int r)) Z 17 [(0, .ref (ux_a G 0)), (1, .int x1), (2, .int x2), (3, .int x3), (4, .int x4)] [] S) : ∀ (x1 : Int32) (x2 : Int32) (x3 : Int32) (x4 : Int32) (S : ux_S), b_X7_best_17 n k17 x1 x2 x3 x4 S = some (r, Z) → ux_At l G RX7 cX7_best 7 (some .int) 5 (some (.int r)) Z 17 [(0, .ref (ux_a G 0)), (1, .int x1), (2, .int x2), (3, .int x3), (4, .int x4)] [] S := by
  intro x1 x2 x3 x4 S hf
  unfold b_X7_best_17 at hf
  refine ax_iload 19 dX7_best_17 4 rfl rfl ?_
  refine ax_iconst (v := 5) 20 dX7_best_19 (by decide) rfl ?_
  refine ax_icmp_gt 94 23 dX7_best_20 (by decide) rfl (fun c4 => ?_) (fun c4 => ?_)
  · have hf := ux_ift c4 hf
    refine ax_iload_n 95 dX7_best_94 rfl 3 rfl rfl ?_
    exact ax_iret dX7_best_95 hf
  · have hf := ux_iff c4 hf
    refine ax_bipush (v := 10) 25 dX7_best_23 (by decide) rfl ?_
    refine ax_istore 27 dX7_best_25 (by decide) [1, 2, 3, 4, 5, 0] [(0, .ref (ux_a G 0)), (1, .int x1), (2, .int x2), (3, .int x3), (4, .int x4), (5, .int 10)] rfl rfl ?_
    exact ax_sub [0, 1, 2, 3, 4, 5] rfl (ux_lp5_w (Pr := fun x1 x2 x3 x4 x5 S => ux_At l G RX7 cX7_best 7 (some .int) 5 (some (.int r)) Z 27 [(0, .ref (ux_a G 0)), (1, .int x1), (2, .int x2), (3, .int x3), (4, .int x4), (5, .int x5)] [] S) (fun k27 hk27 => w_X7_best_27 k17 hk17 k27 hk27) n x1 x2 x3 x4 10 S hf)
def f_X7_best (n : Nat) (S : ux_S) : Option (Int32 × ux_S) :=
  ux_bi (f_X2_allLoads n S ) (fun r3 S2 => ux_lp4 (b_X7_best_17 n) n r3 1000000000 (-4) 1 S2)
set_option maxHeartbeats 2000000 in
set_option maxRecDepth 10000 in
theorem m_X7_best {l : Launch} {G : ux_G} {n : Nat} {S : ux_S} {r : Int32} {Z : ux_S} (hf : f_X7_best n S = some (r, Z)) : ux_M l G yX7_best cX7_best 7 (some .int) 5 [.ref (ux_a G 0)] S (some (.int r)) Z := by
  refine ux_of (by decide) (Nat.le_of_ble_eq_true rfl) ?_
  show ux_At l G RX7 cX7_best 7 (some .int) 5 (some (.int r)) Z 0 [(0, .ref (ux_a G 0))] [] S
  unfold f_X7_best at hf
  refine ax_aload_n 1 dX7_best_0 rfl 0 rfl rfl ?_
  refine ax_getr 1 4 dX7_best_1 fg_X7_10 rfl (by decide) rfl ?_
  obtain ⟨r3, S2, e1, hf⟩ := ux_bi_e hf
  refine ax_callVi 7 [] dX7_best_4 fv_X7_150 (m_X2_allLoads e1) (by decide) rfl rfl (by decide) rfl rfl (Nat.le_of_ble_eq_true rfl) rfl ?_
  refine ax_istore_n 8 dX7_best_7 rfl (by decide) [1, 0] [(0, .ref (ux_a G 0)), (1, .int r3)] rfl rfl ?_
  refine ax_ldc 10 dX7_best_8 fc_X7_156 rfl ?_
  refine ax_istore_n 11 dX7_best_10 rfl (by decide) [1, 2, 0] [(0, .ref (ux_a G 0)), (1, .int r3), (2, .int 1000000000)] rfl rfl ?_
  refine ax_bipush (v := (-4)) 13 dX7_best_11 (by decide) rfl ?_
  refine ax_istore_n 14 dX7_best_13 rfl (by decide) [1, 2, 3, 0] [(0, .ref (ux_a G 0)), (1, .int r3), (2, .int 1000000000), (3, .int (-4))] rfl rfl ?_
  refine ax_iconst (v := 1) 15 dX7_best_14 (by decide) rfl ?_
  refine ax_istore 17 dX7_best_15 (by decide) [1, 2, 3, 4, 0] [(0, .ref (ux_a G 0)), (1, .int r3), (2, .int 1000000000), (3, .int (-4)), (4, .int 1)] rfl rfl ?_
  exact ax_sub [0, 1, 2, 3, 4] rfl (ux_lp4_w (Pr := fun x1 x2 x3 x4 S => ux_At l G RX7 cX7_best 7 (some .int) 5 (some (.int r)) Z 17 [(0, .ref (ux_a G 0)), (1, .int x1), (2, .int x2), (3, .int x3), (4, .int x4)] [] S) (fun k17 hk17 => w_X7_best_17 k17 hk17) n r3 1000000000 (-4) 1 S2 hf)
def f_X7_minutes (n : Nat) (S : ux_S) (p0 : Int32) : Option (Int32 × ux_S) :=
  ux_bi (f_X2_has S p0) (fun r3 S2 => if r3 = 0 then (some ((-1), S2)) else (ux_bi (f_X2_margin n S2 p0) (fun r7 S6 => if 0 ≤ r7 then (ux_gd (ux_ib p0 8) (ux_gd (ux_ib p0 8) (ux_bi (f_X7_divideDown S6 ((S6.1 9 p0.toNatClampNeg) * (1000 : Int32)) (S6.1 11 p0.toNatClampNeg)) (fun r13 S12 => if r13 = 0 then (some ((-4), S12)) else (ux_bi (f_X7_divideDown S12 r7 r13) (fun r17 S16 => some (r17 + (1 : Int32), S16))))))) else (some (0, S6)))))
set_option maxHeartbeats 2000000 in
set_option maxRecDepth 10000 in
theorem m_X7_minutes {l : Launch} {G : ux_G} {n : Nat} {S : ux_S} {p0 : Int32} {r : Int32} {Z : ux_S} (hf : f_X7_minutes n S p0 = some (r, Z)) : ux_M l G yX7_minutes cX7_minutes 4 (some .int) 5 [.ref (ux_a G 0), .int p0] S (some (.int r)) Z := by
  refine ux_of (by decide) (Nat.le_of_ble_eq_true rfl) ?_
  show ux_At l G RX7 cX7_minutes 4 (some .int) 5 (some (.int r)) Z 0 [(0, .ref (ux_a G 0)), (1, .int p0)] [] S
  unfold f_X7_minutes at hf
  refine ax_aload_n 1 dX7_minutes_0 rfl 0 rfl rfl ?_
  refine ax_getr 1 4 dX7_minutes_1 fg_X7_10 rfl (by decide) rfl ?_
  refine ax_iload_n 5 dX7_minutes_4 rfl 1 rfl rfl ?_
  obtain ⟨r3, S2, e1, hf⟩ := ux_bi_e hf
  refine ax_callVi 8 [.int p0] dX7_minutes_5 fv_X7_67 (m_X2_has e1) (by decide) rfl rfl (by decide) rfl rfl (Nat.le_of_ble_eq_true rfl) rfl ?_
  refine ax_if_ne 13 11 dX7_minutes_8 (by decide) rfl (fun c4 => ?_) (fun c4 => ?_)
  · have hf := ux_iff c4 hf
    refine ax_aload_n 14 dX7_minutes_13 rfl 0 rfl rfl ?_
    refine ax_getr 1 17 dX7_minutes_14 fg_X7_10 rfl (by decide) rfl ?_
    refine ax_iload_n 18 dX7_minutes_17 rfl 1 rfl rfl ?_
    obtain ⟨r7, S6, e5, hf⟩ := ux_bi_e hf
    refine ax_callVi 21 [.int p0] dX7_minutes_18 fv_X7_157 (m_X2_margin e5) (by decide) rfl rfl (by decide) rfl rfl (Nat.le_of_ble_eq_true rfl) rfl ?_
    refine ax_istore_n 22 dX7_minutes_21 rfl (by decide) [1, 2, 0] [(0, .ref (ux_a G 0)), (1, .int p0), (2, .int r7)] rfl rfl ?_
    refine ax_iload_n 23 dX7_minutes_22 rfl 2 rfl rfl ?_
    refine ax_if_ge 28 26 dX7_minutes_23 (by decide) rfl (fun c8 => ?_) (fun c8 => ?_)
    · have hf := ux_ift c8 hf
      refine ax_aload_n 29 dX7_minutes_28 rfl 0 rfl rfl ?_
      refine ax_getr 1 32 dX7_minutes_29 fg_X7_10 rfl (by decide) rfl ?_
      refine ax_getr 9 35 dX7_minutes_32 fg_X7_71 rfl (by decide) rfl ?_
      refine ax_iload_n 36 dX7_minutes_35 rfl 1 rfl rfl ?_
      obtain ⟨h9, hf⟩ := ux_gd_e hf
      refine ax_iald 37 dX7_minutes_36 (by decide) rfl h9 rfl ?_
      refine ax_sipush (v := 1000) 40 dX7_minutes_37 (by decide) rfl ?_
      refine ax_imul 41 dX7_minutes_40 rfl ?_
      refine ax_aload_n 42 dX7_minutes_41 rfl 0 rfl rfl ?_
      refine ax_getr 1 45 dX7_minutes_42 fg_X7_10 rfl (by decide) rfl ?_
      refine ax_getr 11 48 dX7_minutes_45 fg_X7_160 rfl (by decide) rfl ?_
      refine ax_iload_n 49 dX7_minutes_48 rfl 1 rfl rfl ?_
      obtain ⟨h10, hf⟩ := ux_gd_e hf
      refine ax_iald 50 dX7_minutes_49 (by decide) rfl h10 rfl ?_
      obtain ⟨r13, S12, e11, hf⟩ := ux_bi_e hf
      refine ax_callSi 53 [.int ((S6.1 9 p0.toNatClampNeg) * (1000 : Int32)), .int (S6.1 11 p0.toNatClampNeg)] dX7_minutes_50 fs_X7_163 (m_X7_divideDown e11) (by decide) rfl rfl (Nat.le_of_ble_eq_true rfl) rfl ?_
      refine ax_istore_n 54 dX7_minutes_53 rfl (by decide) [1, 2, 3, 0] [(0, .ref (ux_a G 0)), (1, .int p0), (2, .int r7), (3, .int r13)] rfl rfl ?_
      refine ax_iload_n 55 dX7_minutes_54 rfl 3 rfl rfl ?_
      refine ax_if_ne 63 58 dX7_minutes_55 (by decide) rfl (fun c14 => ?_) (fun c14 => ?_)
      · have hf := ux_iff c14 hf
        refine ax_iload_n 64 dX7_minutes_63 rfl 2 rfl rfl ?_
        refine ax_iload_n 65 dX7_minutes_64 rfl 3 rfl rfl ?_
        obtain ⟨r17, S16, e15, hf⟩ := ux_bi_e hf
        refine ax_callSi 68 [.int r7, .int r13] dX7_minutes_65 fs_X7_163 (m_X7_divideDown e15) (by decide) rfl rfl (Nat.le_of_ble_eq_true rfl) rfl ?_
        refine ax_iconst (v := 1) 69 dX7_minutes_68 (by decide) rfl ?_
        refine ax_iadd 70 dX7_minutes_69 rfl ?_
        exact ax_iret dX7_minutes_70 hf
      · have hf := ux_ift c14 hf
        refine ax_bipush (v := (-4)) 60 dX7_minutes_58 (by decide) rfl ?_
        refine ax_goto 70 dX7_minutes_60 (by decide) ?_
        exact ax_iret dX7_minutes_70 hf
    · have hf := ux_iff c8 hf
      refine ax_iconst (v := 0) 27 dX7_minutes_26 (by decide) rfl ?_
      exact ax_iret dX7_minutes_27 hf
  · have hf := ux_ift c4 hf
    refine ax_iconst (v := (-1)) 12 dX7_minutes_11 (by decide) rfl ?_
    exact ax_iret dX7_minutes_12 hf
