/-! printed by program (wip/gen): pure functions and contracts -/

def f_X6_has (S : ux_S) (p0 : Int32) : Option (Int32 × ux_S) :=
  if p0 < 0 then (some (0, S)) else (if 4 ≤ p0 then (some (0, S)) else (some (1, S)))
set_option maxHeartbeats 2000000 in
set_option maxRecDepth 10000 in
theorem m_X6_has {l : Launch} {G : ux_G} {S : ux_S} {p0 : Int32} {r : Int32} {Z : ux_S} (hf : f_X6_has S p0 = some (r, Z)) : ux_M l G yX6_has cX6_has 2 (some .boolean) 1 [.ref (ux_a G 4), .int p0] S (some (.int r)) Z := by
  refine ux_of (by decide) (Nat.le_of_ble_eq_true rfl) ?_
  show ux_At l G RX6 cX6_has 2 (some .boolean) 1 (some (.int r)) Z 0 [(0, .ref (ux_a G 4)), (1, .int p0)] [] S
  unfold f_X6_has at hf
  refine ax_iload_n 1 dX6_has_0 rfl 1 rfl rfl ?_
  refine ax_if_lt 13 4 dX6_has_1 (by decide) rfl (fun c1 => ?_) (fun c1 => ?_)
  · have hf := ux_ift c1 hf
    refine ax_iconst (v := 0) 14 dX6_has_13 (by decide) rfl ?_
    exact ax_zret dX6_has_14 rfl hf
  · have hf := ux_iff c1 hf
    refine ax_iload_n 5 dX6_has_4 rfl 1 rfl rfl ?_
    refine ax_iconst (v := 4) 6 dX6_has_5 (by decide) rfl ?_
    refine ax_icmp_ge 13 9 dX6_has_6 (by decide) rfl (fun c2 => ?_) (fun c2 => ?_)
    · have hf := ux_ift c2 hf
      refine ax_iconst (v := 0) 14 dX6_has_13 (by decide) rfl ?_
      exact ax_zret dX6_has_14 rfl hf
    · have hf := ux_iff c2 hf
      refine ax_iconst (v := 1) 10 dX6_has_9 (by decide) rfl ?_
      refine ax_goto 14 dX6_has_10 (by decide) ?_
      exact ax_zret dX6_has_14 rfl hf
def f_X6_isNothing (S : ux_S) (p0 : Int32) : Option (Int32 × ux_S) :=
  ux_gd (ux_ib p0 4) (if S.1 41 p0.toNatClampNeg = (-1) then (some (1, S)) else (some (0, S)))
set_option maxHeartbeats 2000000 in
set_option maxRecDepth 10000 in
theorem m_X6_isNothing {l : Launch} {G : ux_G} {S : ux_S} {p0 : Int32} {r : Int32} {Z : ux_S} (hf : f_X6_isNothing S p0 = some (r, Z)) : ux_M l G yX6_isNothing cX6_isNothing 2 (some .boolean) 1 [.ref (ux_a G 4), .int p0] S (some (.int r)) Z := by
  refine ux_of (by decide) (Nat.le_of_ble_eq_true rfl) ?_
  show ux_At l G RX6 cX6_isNothing 2 (some .boolean) 1 (some (.int r)) Z 0 [(0, .ref (ux_a G 4)), (1, .int p0)] [] S
  unfold f_X6_isNothing at hf
  refine ax_aload_n 1 dX6_isNothing_0 rfl 0 rfl rfl ?_
  refine ax_getr 41 4 dX6_isNothing_1 fg_X6_20 rfl (by decide) rfl ?_
  refine ax_iload_n 5 dX6_isNothing_4 rfl 1 rfl rfl ?_
  obtain ⟨h1, hf⟩ := ux_gd_e hf
  refine ax_iald 6 dX6_isNothing_5 (by decide) rfl h1 rfl ?_
  refine ax_iconst (v := (-1)) 7 dX6_isNothing_6 (by decide) rfl ?_
  refine ax_icmp_ne 14 10 dX6_isNothing_7 (by decide) rfl (fun c2 => ?_) (fun c2 => ?_)
  · have hf := ux_iff c2 hf
    refine ax_iconst (v := 0) 15 dX6_isNothing_14 (by decide) rfl ?_
    exact ax_zret dX6_isNothing_15 rfl hf
  · have hf := ux_ift c2 hf
    refine ax_iconst (v := 1) 11 dX6_isNothing_10 (by decide) rfl ?_
    refine ax_goto 15 dX6_isNothing_11 (by decide) ?_
    exact ax_zret dX6_isNothing_15 rfl hf
def f_X6_hasCell (S : ux_S) (p0 : Int32) (p1 : Int32) : Option (Int32 × ux_S) :=
  if p1 < 0 then (some (0, S)) else (ux_gd (ux_ib p0 4) (if S.1 41 p0.toNatClampNeg ≤ p1 then (some (0, S)) else (some (1, S))))
set_option maxHeartbeats 2000000 in
set_option maxRecDepth 10000 in
theorem m_X6_hasCell {l : Launch} {G : ux_G} {S : ux_S} {p0 : Int32} {p1 : Int32} {r : Int32} {Z : ux_S} (hf : f_X6_hasCell S p0 p1 = some (r, Z)) : ux_M l G yX6_hasCell cX6_hasCell 3 (some .boolean) 1 [.ref (ux_a G 4), .int p0, .int p1] S (some (.int r)) Z := by
  refine ux_of (by decide) (Nat.le_of_ble_eq_true rfl) ?_
  show ux_At l G RX6 cX6_hasCell 3 (some .boolean) 1 (some (.int r)) Z 0 [(0, .ref (ux_a G 4)), (1, .int p0), (2, .int p1)] [] S
  unfold f_X6_hasCell at hf
  refine ax_iload_n 1 dX6_hasCell_0 rfl 2 rfl rfl ?_
  refine ax_if_lt 18 4 dX6_hasCell_1 (by decide) rfl (fun c1 => ?_) (fun c1 => ?_)
  · have hf := ux_ift c1 hf
    refine ax_iconst (v := 0) 19 dX6_hasCell_18 (by decide) rfl ?_
    exact ax_zret dX6_hasCell_19 rfl hf
  · have hf := ux_iff c1 hf
    refine ax_iload_n 5 dX6_hasCell_4 rfl 2 rfl rfl ?_
    refine ax_aload_n 6 dX6_hasCell_5 rfl 0 rfl rfl ?_
    refine ax_getr 41 9 dX6_hasCell_6 fg_X6_20 rfl (by decide) rfl ?_
    refine ax_iload_n 10 dX6_hasCell_9 rfl 1 rfl rfl ?_
    obtain ⟨h2, hf⟩ := ux_gd_e hf
    refine ax_iald 11 dX6_hasCell_10 (by decide) rfl h2 rfl ?_
    refine ax_icmp_ge 18 14 dX6_hasCell_11 (by decide) rfl (fun c3 => ?_) (fun c3 => ?_)
    · have hf := ux_ift c3 hf
      refine ax_iconst (v := 0) 19 dX6_hasCell_18 (by decide) rfl ?_
      exact ax_zret dX6_hasCell_19 rfl hf
    · have hf := ux_iff c3 hf
      refine ax_iconst (v := 1) 15 dX6_hasCell_14 (by decide) rfl ?_
      refine ax_goto 19 dX6_hasCell_15 (by decide) ?_
      exact ax_zret dX6_hasCell_19 rfl hf
def f_X6_renew (n : Nat) (S : ux_S) (p0 : Int32) (p1 : Int32) (p2 : Int32) : Option ux_S :=
  ux_gd (ux_ib p0 4) (ux_bv (f_J7_fill_d0a16 n S (35 + 1 + p0.toNatClampNeg) 64 0) (fun S3 => ux_gd (ux_ib p0 4) (ux_gd (ux_ib p0 4) (some (ux_i (ux_i S3 40 p0.toNatClampNeg p1) 41 p0.toNatClampNeg p2)))))
set_option maxHeartbeats 2000000 in
set_option maxRecDepth 10000 in
theorem m_X6_renew {l : Launch} {G : ux_G} {n : Nat} {S : ux_S} {p0 : Int32} {p1 : Int32} {p2 : Int32} {Z : ux_S} (hf : f_X6_renew n S p0 p1 p2 = some Z) : ux_M l G yX6_renew cX6_renew 4 none 2 [.ref (ux_a G 4), .int p0, .int p1, .int p2] S none Z := by
  refine ux_of (by decide) (Nat.le_of_ble_eq_true rfl) ?_
  show ux_At l G RX6 cX6_renew 4 none 2 none Z 0 [(0, .ref (ux_a G 4)), (1, .int p0), (2, .int p1), (3, .int p2)] [] S
  unfold f_X6_renew at hf
  refine ax_aload_n 1 dX6_renew_0 rfl 0 rfl rfl ?_
  refine ax_getr 35 4 dX6_renew_1 fg_X6_11 rfl (by decide) rfl ?_
  refine ax_iload_n 5 dX6_renew_4 rfl 1 rfl rfl ?_
  obtain ⟨h1, hf⟩ := ux_gd_e hf
  refine ax_aaldL 6 dX6_renew_5 (by decide) rfl h1 rfl ?_
  refine ax_lconst (v := 0) 7 dX6_renew_6 (by decide) rfl ?_
  obtain ⟨S3, e2, hf⟩ := ux_bv_e hf
  refine ax_callSv 10 [.ref (ux_a G (35 + 1 + p0.toNatClampNeg)), .long 0] dX6_renew_7 fs_X6_29 (m_J7_fill_d0a16 ⟨(ux_row35 h1).1, (ux_row35 h1).2⟩ e2) (by decide) rfl rfl (Nat.le_of_ble_eq_true rfl) rfl ?_
  refine ax_aload_n 11 dX6_renew_10 rfl 0 rfl rfl ?_
  refine ax_getr 40 14 dX6_renew_11 fg_X6_16 rfl (by decide) rfl ?_
  refine ax_iload_n 15 dX6_renew_14 rfl 1 rfl rfl ?_
  refine ax_iload_n 16 dX6_renew_15 rfl 2 rfl rfl ?_
  obtain ⟨h5, hf⟩ := ux_gd_e hf
  refine ax_iast 17 dX6_renew_16 (by decide) rfl h5 rfl ?_
  refine ax_aload_n 18 dX6_renew_17 rfl 0 rfl rfl ?_
  refine ax_getr 41 21 dX6_renew_18 fg_X6_20 rfl (by decide) rfl ?_
  refine ax_iload_n 22 dX6_renew_21 rfl 1 rfl rfl ?_
  refine ax_iload_n 23 dX6_renew_22 rfl 3 rfl rfl ?_
  obtain ⟨h6, hf⟩ := ux_gd_e hf
  refine ax_iast 24 dX6_renew_23 (by decide) rfl h6 rfl ?_
  exact ax_vret dX6_renew_24 hf
def b_X6_refusal_3 (n : Nat) (p0 : Int32) (p1 : Int32) (p2 : Int32) (k3 : Int32 → ux_S → Option (Int32 × ux_S)) (x4 : Int32) (S : ux_S) : Option (Int32 × ux_S) :=
  if p2 ≤ x4 then (some (0, S)) else (ux_bi (f_X6_hasCell S p0 (p1 + x4)) (fun r4 S3 => if r4 = 0 then (some ((-12), S3)) else (ux_gd (ux_ib p0 4) (ux_gd (ux_ib (p1 + x4) 64) (if lg_cmp (S3.2 (35 + 1 + p0.toNatClampNeg) (p1 + x4).toNatClampNeg) 0 < 0 then (some (((-20) : Int32) - x4, S3)) else (if lg_cmp (S3.2 (35 + 1 + p0.toNatClampNeg) (p1 + x4).toNatClampNeg) 200 ≤ 0 then (k3 (x4 + 1) S3) else (some (((-20) : Int32) - x4, S3))))))))
set_option maxHeartbeats 2000000 in
set_option maxRecDepth 10000 in
theorem w_X6_refusal_3 {l : Launch} {G : ux_G} {n : Nat} {p0 : Int32} {p1 : Int32} {p2 : Int32} {r : Int32} {Z : ux_S} (k3 : Int32 → ux_S → Option (Int32 × ux_S)) (hk3 : ∀ (x4 : Int32) (S : ux_S), k3 x4 S = some (r, Z) → ux_At l G RX6 cX6_refusal 7 (some .int) 2 (some (.int r)) Z 3 [(0, .ref (ux_a G 4)), (1, .int p0), (2, .int p1), (3, .int p2), (4, .int x4)] [] S) : ∀ (x4 : Int32) (S : ux_S), b_X6_refusal_3 n p0 p1 p2 k3 x4 S = some (r, Z) → ux_At l G RX6 cX6_refusal 7 (some .int) 2 (some (.int r)) Z 3 [(0, .ref (ux_a G 4)), (1, .int p0), (2, .int p1), (3, .int p2), (4, .int x4)] [] S := by
  intro x4 S hf
  unfold b_X6_refusal_3 at hf
  refine ax_iload 5 dX6_refusal_3 4 rfl rfl ?_
  refine ax_iload_n 6 dX6_refusal_5 rfl 3 rfl rfl ?_
  refine ax_icmp_ge 65 9 dX6_refusal_6 (by decide) rfl (fun c1 => ?_) (fun c1 => ?_)
  · have hf := ux_ift c1 hf
    refine ax_iconst (v := 0) 66 dX6_refusal_65 (by decide) rfl ?_
    exact ax_iret dX6_refusal_66 hf
  · have hf := ux_iff c1 hf
    refine ax_aload_n 10 dX6_refusal_9 rfl 0 rfl rfl ?_
    refine ax_iload_n 11 dX6_refusal_10 rfl 1 rfl rfl ?_
    refine ax_iload_n 12 dX6_refusal_11 rfl 2 rfl rfl ?_
    refine ax_iload 14 dX6_refusal_12 4 rfl rfl ?_
    refine ax_iadd 15 dX6_refusal_14 rfl ?_
    obtain ⟨r4, S3, e2, hf⟩ := ux_bi_e hf
    refine ax_callVi 18 [.int p0, .int (p1 + x4)] dX6_refusal_15 fv_X6_32 (m_X6_hasCell e2) (by decide) rfl rfl (by decide) rfl rfl (Nat.le_of_ble_eq_true rfl) rfl ?_
    refine ax_if_ne 24 21 dX6_refusal_18 (by decide) rfl (fun c5 => ?_) (fun c5 => ?_)
    · have hf := ux_iff c5 hf
      refine ax_aload_n 25 dX6_refusal_24 rfl 0 rfl rfl ?_
      refine ax_getr 35 28 dX6_refusal_25 fg_X6_11 rfl (by decide) rfl ?_
      refine ax_iload_n 29 dX6_refusal_28 rfl 1 rfl rfl ?_
      obtain ⟨h6, hf⟩ := ux_gd_e hf
      refine ax_aaldL 30 dX6_refusal_29 (by decide) rfl h6 rfl ?_
      refine ax_iload_n 31 dX6_refusal_30 rfl 2 rfl rfl ?_
      refine ax_iload 33 dX6_refusal_31 4 rfl rfl ?_
      refine ax_iadd 34 dX6_refusal_33 rfl ?_
      obtain ⟨h7, hf⟩ := ux_gd_e hf
      refine ax_lald 35 dX6_refusal_34 (ux_row35 h6).1 (ux_row35 h6).2 h7 rfl ?_
      refine ax_lstore 37 dX6_refusal_35 (by decide) [1, 2, 3, 4, 5, 0] [(0, .ref (ux_a G 4)), (1, .int p0), (2, .int p1), (3, .int p2), (4, .int x4), (5, .long (S3.2 (35 + 1 + p0.toNatClampNeg) (p1 + x4).toNatClampNeg))] rfl rfl ?_
      refine ax_lload 39 dX6_refusal_37 5 rfl rfl ?_
      refine ax_lconst (v := 0) 40 dX6_refusal_39 (by decide) rfl ?_
      refine ax_lcmp 41 dX6_refusal_40 rfl ?_
      refine ax_if_lt 53 44 dX6_refusal_41 (by decide) rfl (fun c8 => ?_) (fun c8 => ?_)
      · have hf := ux_ift c8 hf
        refine ax_bipush (v := (-20)) 55 dX6_refusal_53 (by decide) rfl ?_
        refine ax_iload 57 dX6_refusal_55 4 rfl rfl ?_
        refine ax_isub 58 dX6_refusal_57 rfl ?_
        exact ax_iret dX6_refusal_58 hf
      · have hf := ux_iff c8 hf
        refine ax_lload 46 dX6_refusal_44 5 rfl rfl ?_
        refine ax_ldc2 49 dX6_refusal_46 fc_X6_36 rfl ?_
        refine ax_lcmp 50 dX6_refusal_49 rfl ?_
        refine ax_if_le 59 53 dX6_refusal_50 (by decide) rfl (fun c9 => ?_) (fun c9 => ?_)
        · have hf := ux_ift c9 hf
          refine ax_iinc (v := x4 + 1) 62 dX6_refusal_59 4 rfl rfl (by decide) [1, 2, 3, 4, 0] [(0, .ref (ux_a G 4)), (1, .int p0), (2, .int p1), (3, .int p2), (4, .int (x4 + 1))] rfl rfl ?_
          refine ax_goto 3 dX6_refusal_62 (by decide) ?_
          exact ax_sub [0, 1, 2, 3, 4] rfl (hk3 (x4 + 1) S3 hf)
        · have hf := ux_iff c9 hf
          refine ax_bipush (v := (-20)) 55 dX6_refusal_53 (by decide) rfl ?_
          refine ax_iload 57 dX6_refusal_55 4 rfl rfl ?_
          refine ax_isub 58 dX6_refusal_57 rfl ?_
          exact ax_iret dX6_refusal_58 hf
    · have hf := ux_ift c5 hf
      refine ax_bipush (v := (-12)) 23 dX6_refusal_21 (by decide) rfl ?_
      exact ax_iret dX6_refusal_23 hf
def f_X6_refusal (n : Nat) (S : ux_S) (p0 : Int32) (p1 : Int32) (p2 : Int32) : Option (Int32 × ux_S) :=
  ux_lp1 (b_X6_refusal_3 n p0 p1 p2) n 0 S
set_option maxHeartbeats 2000000 in
set_option maxRecDepth 10000 in
theorem m_X6_refusal {l : Launch} {G : ux_G} {n : Nat} {S : ux_S} {p0 : Int32} {p1 : Int32} {p2 : Int32} {r : Int32} {Z : ux_S} (hf : f_X6_refusal n S p0 p1 p2 = some (r, Z)) : ux_M l G yX6_refusal cX6_refusal 7 (some .int) 2 [.ref (ux_a G 4), .int p0, .int p1, .int p2] S (some (.int r)) Z := by
  refine ux_of (by decide) (Nat.le_of_ble_eq_true rfl) ?_
  show ux_At l G RX6 cX6_refusal 7 (some .int) 2 (some (.int r)) Z 0 [(0, .ref (ux_a G 4)), (1, .int p0), (2, .int p1), (3, .int p2)] [] S
  unfold f_X6_refusal at hf
  refine ax_iconst (v := 0) 1 dX6_refusal_0 (by decide) rfl ?_
  refine ax_istore 3 dX6_refusal_1 (by decide) [1, 2, 3, 4, 0] [(0, .ref (ux_a G 4)), (1, .int p0), (2, .int p1), (3, .int p2), (4, .int 0)] rfl rfl ?_
  exact ax_sub [0, 1, 2, 3, 4] rfl (ux_lp1_w (Pr := fun x4 S => ux_At l G RX6 cX6_refusal 7 (some .int) 2 (some (.int r)) Z 3 [(0, .ref (ux_a G 4)), (1, .int p0), (2, .int p1), (3, .int p2), (4, .int x4)] [] S) (fun k3 hk3 => w_X6_refusal_3 k3 hk3) n 0 S hf)
