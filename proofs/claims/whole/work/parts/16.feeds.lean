/-! printed by program (wip/gen): pure functions and contracts -/

def f_X1_has (S : ux_S) (p0 : Int32) : Option (Int32 × ux_S) :=
  if p0 < 0 then (some (0, S)) else (if S.1 5 4 ≤ p0 then (some (0, S)) else (some (1, S)))
set_option maxHeartbeats 2000000 in
set_option maxRecDepth 10000 in
theorem m_X1_has {l : Launch} {G : ux_G} {S : ux_S} {p0 : Int32} {r : Int32} {Z : ux_S} (hf : f_X1_has S p0 = some (r, Z)) : ux_M l G yX1_has cX1_has 2 (some .boolean) 1 [.ref (ux_a G 5), .int p0] S (some (.int r)) Z := by
  refine ux_of (by decide) (Nat.le_of_ble_eq_true rfl) ?_
  show ux_At l G RX1 cX1_has 2 (some .boolean) 1 (some (.int r)) Z 0 [(0, .ref (ux_a G 5)), (1, .int p0)] [] S
  unfold f_X1_has at hf
  refine ax_iload_n 1 dX1_has_0 rfl 1 rfl rfl ?_
  refine ax_if_lt 16 4 dX1_has_1 (by decide) rfl (fun c1 => ?_) (fun c1 => ?_)
  · have hf := ux_ift c1 hf
    refine ax_iconst (v := 0) 17 dX1_has_16 (by decide) rfl ?_
    exact ax_zret dX1_has_17 rfl hf
  · have hf := ux_iff c1 hf
    refine ax_iload_n 5 dX1_has_4 rfl 1 rfl rfl ?_
    refine ax_aload_n 6 dX1_has_5 rfl 0 rfl rfl ?_
    refine ax_geti 9 dX1_has_6 fg_X1_26 rfl rfl ?_
    refine ax_icmp_ge 16 12 dX1_has_9 (by decide) rfl (fun c2 => ?_) (fun c2 => ?_)
    · have hf := ux_ift c2 hf
      refine ax_iconst (v := 0) 17 dX1_has_16 (by decide) rfl ?_
      exact ax_zret dX1_has_17 rfl hf
    · have hf := ux_iff c2 hf
      refine ax_iconst (v := 1) 13 dX1_has_12 (by decide) rfl ?_
      refine ax_goto 17 dX1_has_13 (by decide) ?_
      exact ax_zret dX1_has_17 rfl hf
def f_X1_add (S : ux_S) (p0 : Int32) (p1 : Int32) : Option (Int32 × ux_S) :=
  if S.1 5 4 < 16 then (ux_gd (ux_ib (S.1 5 4) 16) (ux_gd (ux_ib ((ux_i S 42 (S.1 5 4).toNatClampNeg p0).1 5 4) 16) (some (((ux_i (ux_i (ux_i S 42 (S.1 5 4).toNatClampNeg p0) 43 ((ux_i S 42 (S.1 5 4).toNatClampNeg p0).1 5 4).toNatClampNeg p1) 5 4 (((ux_i (ux_i S 42 (S.1 5 4).toNatClampNeg p0) 43 ((ux_i S 42 (S.1 5 4).toNatClampNeg p0).1 5 4).toNatClampNeg p1).1 5 4) + (1 : Int32))).1 5 4) - (1 : Int32), ux_i (ux_i (ux_i S 42 (S.1 5 4).toNatClampNeg p0) 43 ((ux_i S 42 (S.1 5 4).toNatClampNeg p0).1 5 4).toNatClampNeg p1) 5 4 (((ux_i (ux_i S 42 (S.1 5 4).toNatClampNeg p0) 43 ((ux_i S 42 (S.1 5 4).toNatClampNeg p0).1 5 4).toNatClampNeg p1).1 5 4) + (1 : Int32)))))) else (some ((-3), S))
set_option maxHeartbeats 2000000 in
set_option maxRecDepth 10000 in
theorem m_X1_add {l : Launch} {G : ux_G} {S : ux_S} {p0 : Int32} {p1 : Int32} {r : Int32} {Z : ux_S} (hf : f_X1_add S p0 p1 = some (r, Z)) : ux_M l G yX1_add cX1_add 3 (some .int) 1 [.ref (ux_a G 5), .int p0, .int p1] S (some (.int r)) Z := by
  refine ux_of (by decide) (Nat.le_of_ble_eq_true rfl) ?_
  show ux_At l G RX1 cX1_add 3 (some .int) 1 (some (.int r)) Z 0 [(0, .ref (ux_a G 5)), (1, .int p0), (2, .int p1)] [] S
  unfold f_X1_add at hf
  refine ax_aload_n 1 dX1_add_0 rfl 0 rfl rfl ?_
  refine ax_geti 4 dX1_add_1 fg_X1_26 rfl rfl ?_
  refine ax_bipush (v := 16) 6 dX1_add_4 (by decide) rfl ?_
  refine ax_icmp_lt 12 9 dX1_add_6 (by decide) rfl (fun c1 => ?_) (fun c1 => ?_)
  · have hf := ux_ift c1 hf
    refine ax_aload_n 13 dX1_add_12 rfl 0 rfl rfl ?_
    refine ax_getr 42 16 dX1_add_13 fg_X1_9 rfl (by decide) rfl ?_
    refine ax_aload_n 17 dX1_add_16 rfl 0 rfl rfl ?_
    refine ax_geti 20 dX1_add_17 fg_X1_26 rfl rfl ?_
    refine ax_iload_n 21 dX1_add_20 rfl 1 rfl rfl ?_
    obtain ⟨h2, hf⟩ := ux_gd_e hf
    refine ax_iast 22 dX1_add_21 (by decide) rfl h2 rfl ?_
    refine ax_aload_n 23 dX1_add_22 rfl 0 rfl rfl ?_
    refine ax_getr 43 26 dX1_add_23 fg_X1_15 rfl (by decide) rfl ?_
    refine ax_aload_n 27 dX1_add_26 rfl 0 rfl rfl ?_
    refine ax_geti 30 dX1_add_27 fg_X1_26 rfl rfl ?_
    refine ax_iload_n 31 dX1_add_30 rfl 2 rfl rfl ?_
    obtain ⟨h3, hf⟩ := ux_gd_e hf
    refine ax_iast 32 dX1_add_31 (by decide) rfl h3 rfl ?_
    refine ax_aload_n 33 dX1_add_32 rfl 0 rfl rfl ?_
    refine ax_dup 34 dX1_add_33 rfl rfl ?_
    refine ax_geti 37 dX1_add_34 fg_X1_26 rfl rfl ?_
    refine ax_iconst (v := 1) 38 dX1_add_37 (by decide) rfl ?_
    refine ax_iadd 39 dX1_add_38 rfl ?_
    refine ax_put 42 dX1_add_39 fp_X1_26 rfl ?_
    refine ax_aload_n 43 dX1_add_42 rfl 0 rfl rfl ?_
    refine ax_geti 46 dX1_add_43 fg_X1_26 rfl rfl ?_
    refine ax_iconst (v := 1) 47 dX1_add_46 (by decide) rfl ?_
    refine ax_isub 48 dX1_add_47 rfl ?_
    exact ax_iret dX1_add_48 hf
  · have hf := ux_iff c1 hf
    refine ax_bipush (v := (-3)) 11 dX1_add_9 (by decide) rfl ?_
    exact ax_iret dX1_add_11 hf
def f_X1_isIn (S : ux_S) (p0 : Int32) (p1 : Int32) : Option (Int32 × ux_S) :=
  if p1 < 0 then (some (0, S)) else (if (p0 >>> (p1 &&& 31)) &&& (1 : Int32) = 1 then (some (1, S)) else (some (0, S)))
set_option maxHeartbeats 2000000 in
set_option maxRecDepth 10000 in
theorem m_X1_isIn {l : Launch} {G : ux_G} {S : ux_S} {p0 : Int32} {p1 : Int32} {r : Int32} {Z : ux_S} (hf : f_X1_isIn S p0 p1 = some (r, Z)) : ux_M l G yX1_isIn cX1_isIn 2 (some .boolean) 1 [.int p0, .int p1] S (some (.int r)) Z := by
  refine ux_of (by decide) (Nat.le_of_ble_eq_true rfl) ?_
  show ux_At l G RX1 cX1_isIn 2 (some .boolean) 1 (some (.int r)) Z 0 [(0, .int p0), (1, .int p1)] [] S
  unfold f_X1_isIn at hf
  refine ax_iload_n 1 dX1_isIn_0 rfl 1 rfl rfl ?_
  refine ax_if_lt 17 4 dX1_isIn_1 (by decide) rfl (fun c1 => ?_) (fun c1 => ?_)
  · have hf := ux_ift c1 hf
    refine ax_iconst (v := 0) 18 dX1_isIn_17 (by decide) rfl ?_
    exact ax_zret dX1_isIn_18 rfl hf
  · have hf := ux_iff c1 hf
    refine ax_iload_n 5 dX1_isIn_4 rfl 0 rfl rfl ?_
    refine ax_iload_n 6 dX1_isIn_5 rfl 1 rfl rfl ?_
    refine ax_ishr 7 dX1_isIn_6 rfl ?_
    refine ax_iconst (v := 1) 8 dX1_isIn_7 (by decide) rfl ?_
    refine ax_iand 9 dX1_isIn_8 rfl ?_
    refine ax_iconst (v := 1) 10 dX1_isIn_9 (by decide) rfl ?_
    refine ax_icmp_ne 17 13 dX1_isIn_10 (by decide) rfl (fun c2 => ?_) (fun c2 => ?_)
    · have hf := ux_iff c2 hf
      refine ax_iconst (v := 0) 18 dX1_isIn_17 (by decide) rfl ?_
      exact ax_zret dX1_isIn_18 rfl hf
    · have hf := ux_ift c2 hf
      refine ax_iconst (v := 1) 14 dX1_isIn_13 (by decide) rfl ?_
      refine ax_goto 18 dX1_isIn_14 (by decide) ?_
      exact ax_zret dX1_isIn_18 rfl hf
def b_X1_dead_33 (n : Nat) (p0 : Int32) (k4 : Int32 → Int32 → ux_S → Option (Int32 × ux_S)) (x2 : Int32) (x3 : Int32) (S : ux_S) : Option (Int32 × ux_S) :=
  k4 (x2 ||| ((1 : Int32) <<< (x3 &&& 31))) (x3 + 1) S
set_option maxHeartbeats 2000000 in
set_option maxRecDepth 10000 in
theorem w_X1_dead_33 {l : Launch} {G : ux_G} {n : Nat} {p0 : Int32} {r : Int32} {Z : ux_S} (k4 : Int32 → Int32 → ux_S → Option (Int32 × ux_S)) (hk4 : ∀ (x2 x3 : Int32) (S : ux_S), k4 x2 x3 S = some (r, Z) → ux_At l G RX1 cX1_dead 4 (some .int) 2 (some (.int r)) Z 4 [(0, .ref (ux_a G 5)), (1, .int p0), (2, .int x2), (3, .int x3)] [] S) : ∀ (x2 : Int32) (x3 : Int32) (S : ux_S), b_X1_dead_33 n p0 k4 x2 x3 S = some (r, Z) → ux_At l G RX1 cX1_dead 4 (some .int) 2 (some (.int r)) Z 33 [(0, .ref (ux_a G 5)), (1, .int p0), (2, .int x2), (3, .int x3)] [] S := by
  intro x2 x3 S hf
  unfold b_X1_dead_33 at hf
  refine ax_iload_n 34 dX1_dead_33 rfl 2 rfl rfl ?_
  refine ax_iconst (v := 1) 35 dX1_dead_34 (by decide) rfl ?_
  refine ax_iload_n 36 dX1_dead_35 rfl 3 rfl rfl ?_
  refine ax_ishl 37 dX1_dead_36 rfl ?_
  refine ax_ior 38 dX1_dead_37 rfl ?_
  refine ax_istore_n 39 dX1_dead_38 rfl (by decide) [1, 2, 0, 3] [(0, .ref (ux_a G 5)), (1, .int p0), (2, .int (x2 ||| ((1 : Int32) <<< (x3 &&& 31)))), (3, .int x3)] rfl rfl ?_
  refine ax_iinc (v := x3 + 1) 42 dX1_dead_39 3 rfl rfl (by decide) [1, 2, 3, 0] [(0, .ref (ux_a G 5)), (1, .int p0), (2, .int (x2 ||| ((1 : Int32) <<< (x3 &&& 31)))), (3, .int (x3 + 1))] rfl rfl ?_
  refine ax_goto 4 dX1_dead_42 (by decide) ?_
  exact ax_sub [0, 1, 2, 3] rfl (hk4 (x2 ||| ((1 : Int32) <<< (x3 &&& 31))) (x3 + 1) S hf)
def b_X1_dead_4 (n : Nat) (p0 : Int32) (k4 : Int32 → Int32 → ux_S → Option (Int32 × ux_S)) (x2 : Int32) (x3 : Int32) (S : ux_S) : Option (Int32 × ux_S) :=
  if S.1 5 4 ≤ x3 then (some (x2, S)) else (ux_bi (f_X1_isIn S p0 x3) (fun r4 S3 => if r4 = 0 then (ux_gd (ux_ib x3 16) (ux_bi (f_X1_isIn S3 x2 (S3.1 42 x3.toNatClampNeg)) (fun r9 S8 => if r9 = 0 then (k4 x2 (x3 + 1) S8) else (b_X1_dead_33 n p0 k4 x2 x3 S8)))) else (b_X1_dead_33 n p0 k4 x2 x3 S3)))
set_option maxHeartbeats 2000000 in
set_option maxRecDepth 10000 in
theorem w_X1_dead_4 {l : Launch} {G : ux_G} {n : Nat} {p0 : Int32} {r : Int32} {Z : ux_S} (k4 : Int32 → Int32 → ux_S → Option (Int32 × ux_S)) (hk4 : ∀ (x2 x3 : Int32) (S : ux_S), k4 x2 x3 S = some (r, Z) → ux_At l G RX1 cX1_dead 4 (some .int) 2 (some (.int r)) Z 4 [(0, .ref (ux_a G 5)), (1, .int p0), (2, .int x2), (3, .int x3)] [] S) : ∀ (x2 : Int32) (x3 : Int32) (S : ux_S), b_X1_dead_4 n p0 k4 x2 x3 S = some (r, Z) → ux_At l G RX1 cX1_dead 4 (some .int) 2 (some (.int r)) Z 4 [(0, .ref (ux_a G 5)), (1, .int p0), (2, .int x2), (3, .int x3)] [] S := by
  intro x2 x3 S hf
  unfold b_X1_dead_4 at hf
  refine ax_iload_n 5 dX1_dead_4 rfl 3 rfl rfl ?_
  refine ax_aload_n 6 dX1_dead_5 rfl 0 rfl rfl ?_
  refine ax_geti 9 dX1_dead_6 fg_X1_26 rfl rfl ?_
  refine ax_icmp_ge 45 12 dX1_dead_9 (by decide) rfl (fun c1 => ?_) (fun c1 => ?_)
  · have hf := ux_ift c1 hf
    refine ax_iload_n 46 dX1_dead_45 rfl 2 rfl rfl ?_
    exact ax_iret dX1_dead_46 hf
  · have hf := ux_iff c1 hf
    refine ax_iload_n 13 dX1_dead_12 rfl 1 rfl rfl ?_
    refine ax_iload_n 14 dX1_dead_13 rfl 3 rfl rfl ?_
    obtain ⟨r4, S3, e2, hf⟩ := ux_bi_e hf
    refine ax_callSi 17 [.int p0, .int x3] dX1_dead_14 fs_X1_39 (m_X1_isIn e2) (by decide) rfl rfl (Nat.le_of_ble_eq_true rfl) rfl ?_
    refine ax_if_ne 33 20 dX1_dead_17 (by decide) rfl (fun c5 => ?_) (fun c5 => ?_)
    · have hf := ux_iff c5 hf
      exact ax_sub [0, 1, 2, 3] rfl (w_X1_dead_33 k4 hk4 x2 x3 S3 hf)
    · have hf := ux_ift c5 hf
      refine ax_iload_n 21 dX1_dead_20 rfl 2 rfl rfl ?_
      refine ax_aload_n 22 dX1_dead_21 rfl 0 rfl rfl ?_
      refine ax_getr 42 25 dX1_dead_22 fg_X1_9 rfl (by decide) rfl ?_
      refine ax_iload_n 26 dX1_dead_25 rfl 3 rfl rfl ?_
      obtain ⟨h6, hf⟩ := ux_gd_e hf
      refine ax_iald 27 dX1_dead_26 (by decide) rfl h6 rfl ?_
      obtain ⟨r9, S8, e7, hf⟩ := ux_bi_e hf
      refine ax_callSi 30 [.int x2, .int (S3.1 42 x3.toNatClampNeg)] dX1_dead_27 fs_X1_39 (m_X1_isIn e7) (by decide) rfl rfl (Nat.le_of_ble_eq_true rfl) rfl ?_
      refine ax_if_eq 39 33 dX1_dead_30 (by decide) rfl (fun c10 => ?_) (fun c10 => ?_)
      · have hf := ux_ift c10 hf
        refine ax_iinc (v := x3 + 1) 42 dX1_dead_39 3 rfl rfl (by decide) [1, 2, 3, 0] [(0, .ref (ux_a G 5)), (1, .int p0), (2, .int x2), (3, .int (x3 + 1))] rfl rfl ?_
        refine ax_goto 4 dX1_dead_42 (by decide) ?_
        exact ax_sub [0, 1, 2, 3] rfl (hk4 x2 (x3 + 1) S8 hf)
      · have hf := ux_iff c10 hf
        exact ax_sub [0, 1, 2, 3] rfl (w_X1_dead_33 k4 hk4 x2 x3 S8 hf)
def f_X1_dead (n : Nat) (S : ux_S) (p0 : Int32) : Option (Int32 × ux_S) :=
  ux_lp2 (b_X1_dead_4 n p0) n 0 0 S
set_option maxHeartbeats 2000000 in
set_option maxRecDepth 10000 in
theorem m_X1_dead {l : Launch} {G : ux_G} {n : Nat} {S : ux_S} {p0 : Int32} {r : Int32} {Z : ux_S} (hf : f_X1_dead n S p0 = some (r, Z)) : ux_M l G yX1_dead cX1_dead 4 (some .int) 2 [.ref (ux_a G 5), .int p0] S (some (.int r)) Z := by
  refine ux_of (by decide) (Nat.le_of_ble_eq_true rfl) ?_
  show ux_At l G RX1 cX1_dead 4 (some .int) 2 (some (.int r)) Z 0 [(0, .ref (ux_a G 5)), (1, .int p0)] [] S
  unfold f_X1_dead at hf
  refine ax_iconst (v := 0) 1 dX1_dead_0 (by decide) rfl ?_
  refine ax_istore_n 2 dX1_dead_1 rfl (by decide) [1, 2, 0] [(0, .ref (ux_a G 5)), (1, .int p0), (2, .int 0)] rfl rfl ?_
  refine ax_iconst (v := 0) 3 dX1_dead_2 (by decide) rfl ?_
  refine ax_istore_n 4 dX1_dead_3 rfl (by decide) [1, 2, 3, 0] [(0, .ref (ux_a G 5)), (1, .int p0), (2, .int 0), (3, .int 0)] rfl rfl ?_
  exact ax_sub [0, 1, 2, 3] rfl (ux_lp2_w (Pr := fun x2 x3 S => ux_At l G RX1 cX1_dead 4 (some .int) 2 (some (.int r)) Z 4 [(0, .ref (ux_a G 5)), (1, .int p0), (2, .int x2), (3, .int x3)] [] S) (fun k4 hk4 => w_X1_dead_4 k4 hk4) n 0 0 S hf)
def f_X1_gives (S : ux_S) (p0 : Int32) (p1 : Int32) : Option (Int32 × ux_S) :=
  ux_bi (f_X1_has S p0) (fun r3 S2 => if r3 = 0 then (some (0, S2)) else (ux_bi (f_X1_isIn S2 p1 p0) (fun r7 S6 => if r7 = 0 then (some (1, S6)) else (some (0, S6)))))
set_option maxHeartbeats 2000000 in
set_option maxRecDepth 10000 in
theorem m_X1_gives {l : Launch} {G : ux_G} {S : ux_S} {p0 : Int32} {p1 : Int32} {r : Int32} {Z : ux_S} (hf : f_X1_gives S p0 p1 = some (r, Z)) : ux_M l G yX1_gives cX1_gives 3 (some .boolean) 2 [.ref (ux_a G 5), .int p0, .int p1] S (some (.int r)) Z := by
  refine ux_of (by decide) (Nat.le_of_ble_eq_true rfl) ?_
  show ux_At l G RX1 cX1_gives 3 (some .boolean) 2 (some (.int r)) Z 0 [(0, .ref (ux_a G 5)), (1, .int p0), (2, .int p1)] [] S
  unfold f_X1_gives at hf
  refine ax_aload_n 1 dX1_gives_0 rfl 0 rfl rfl ?_
  refine ax_iload_n 2 dX1_gives_1 rfl 1 rfl rfl ?_
  obtain ⟨r3, S2, e1, hf⟩ := ux_bi_e hf
  refine ax_callVi 5 [.int p0] dX1_gives_2 fv_X1_43 (m_X1_has e1) (by decide) rfl rfl (by decide) rfl rfl (Nat.le_of_ble_eq_true rfl) rfl ?_
  refine ax_if_eq 20 8 dX1_gives_5 (by decide) rfl (fun c4 => ?_) (fun c4 => ?_)
  · have hf := ux_ift c4 hf
    refine ax_iconst (v := 0) 21 dX1_gives_20 (by decide) rfl ?_
    exact ax_zret dX1_gives_21 rfl hf
  · have hf := ux_iff c4 hf
    refine ax_iload_n 9 dX1_gives_8 rfl 2 rfl rfl ?_
    refine ax_iload_n 10 dX1_gives_9 rfl 1 rfl rfl ?_
    obtain ⟨r7, S6, e5, hf⟩ := ux_bi_e hf
    refine ax_callSi 13 [.int p1, .int p0] dX1_gives_10 fs_X1_39 (m_X1_isIn e5) (by decide) rfl rfl (Nat.le_of_ble_eq_true rfl) rfl ?_
    refine ax_if_ne 20 16 dX1_gives_13 (by decide) rfl (fun c8 => ?_) (fun c8 => ?_)
    · have hf := ux_iff c8 hf
      refine ax_iconst (v := 0) 21 dX1_gives_20 (by decide) rfl ?_
      exact ax_zret dX1_gives_21 rfl hf
    · have hf := ux_ift c8 hf
      refine ax_iconst (v := 1) 17 dX1_gives_16 (by decide) rfl ?_
      refine ax_goto 21 dX1_gives_17 (by decide) ?_
      exact ax_zret dX1_gives_21 rfl hf
def b_X1_drawFor_71 (n : Nat) (p0 : Int32) (p1 : Int32) (p2 : Int32) (x5 : Int32) (x6 : Int32) (x7 : Int32) (x8 : Int32) (S : ux_S) : Option ux_S :=
  if x7 = 0 then (some S) else (ux_gd (ux_ib x5 16) (if x6 = 0 then (ux_gd (ux_ib x5 16) (some (ux_i S 47 x5.toNatClampNeg ((S.1 47 x5.toNatClampNeg) + p1)))) else (ux_gd (ux_ib x5 16) (some (ux_i S 47 x5.toNatClampNeg ((S.1 47 x5.toNatClampNeg) + x8))))))
set_option maxHeartbeats 2000000 in
set_option maxRecDepth 10000 in
theorem w_X1_drawFor_71 {l : Launch} {G : ux_G} {n : Nat} {p0 : Int32} {p1 : Int32} {p2 : Int32} {Z : ux_S} : ∀ (x5 : Int32) (x6 : Int32) (x7 : Int32) (x8 : Int32) (S : ux_S), b_X1_drawFor_71 n p0 p1 p2 x5 x6 x7 x8 S = some Z → ux_At l G RX1 cX1_drawFor 9 none 3 none Z 71 [(0, .ref (ux_a G 5)), (2, .int p1), (5, .int x5), (6, .int x6), (7, .int x7), (8, .int x8)] [] S := by
  intro x5 x6 x7 x8 S hf
  unfold b_X1_drawFor_71 at hf
  refine ax_iload 73 dX1_drawFor_71 4 rfl rfl ?_
  refine ax_if_eq 97 76 dX1_drawFor_73 (by decide) rfl (fun c12 => ?_) (fun c12 => ?_)
  · have hf := ux_ift c12 hf
    exact ax_vret dX1_drawFor_97 hf
  · have hf := ux_iff c12 hf
    refine ax_aload_n 77 dX1_drawFor_76 rfl 0 rfl rfl ?_
    refine ax_getr 47 80 dX1_drawFor_77 fg_X1_23 rfl (by decide) rfl ?_
    refine ax_iload 82 dX1_drawFor_80 2 rfl rfl ?_
    refine ax_dup2 83 dX1_drawFor_82 rfl rfl rfl ?_
    obtain ⟨h13, hf⟩ := ux_gd_e hf
    refine ax_iald 84 dX1_drawFor_83 (by decide) rfl h13 rfl ?_
    refine ax_iload 86 dX1_drawFor_84 3 rfl rfl ?_
    refine ax_if_eq 94 89 dX1_drawFor_86 (by decide) rfl (fun c14 => ?_) (fun c14 => ?_)
    · have hf := ux_ift c14 hf
      refine ax_iload_n 95 dX1_drawFor_94 rfl 1 rfl rfl ?_
      refine ax_iadd 96 dX1_drawFor_95 rfl ?_
      obtain ⟨h15, hf⟩ := ux_gd_e hf
      refine ax_iast 97 dX1_drawFor_96 (by decide) rfl h15 rfl ?_
      exact ax_vret dX1_drawFor_97 hf
    · have hf := ux_iff c14 hf
      refine ax_iload 91 dX1_drawFor_89 5 rfl rfl ?_
      refine ax_goto 95 dX1_drawFor_91 (by decide) ?_
      refine ax_iadd 96 dX1_drawFor_95 rfl ?_
      obtain ⟨h16, hf⟩ := ux_gd_e hf
      refine ax_iast 97 dX1_drawFor_96 (by decide) rfl h16 rfl ?_
      exact ax_vret dX1_drawFor_97 hf
def b_X1_drawFor_69 (n : Nat) (p0 : Int32) (p1 : Int32) (p2 : Int32) (x5 : Int32) (x6 : Int32) (x7 : Int32) (x8 : Int32) (t0 : Int32) (t1 : Int32) (t2 : Int32) (S : ux_S) : Option ux_S :=
  ux_gd (ux_ib t2 16) (b_X1_drawFor_71 n p0 p1 p2 x5 x6 x7 x8 (ux_i S 47 t2.toNatClampNeg (t1 + t0)))
set_option maxHeartbeats 2000000 in
set_option maxRecDepth 10000 in
theorem w_X1_drawFor_69 {l : Launch} {G : ux_G} {n : Nat} {p0 : Int32} {p1 : Int32} {p2 : Int32} {Z : ux_S} : ∀ (x5 : Int32) (x6 : Int32) (x7 : Int32) (x8 : Int32) (t0 : Int32) (t1 : Int32) (t2 : Int32) (S : ux_S), b_X1_drawFor_69 n p0 p1 p2 x5 x6 x7 x8 t0 t1 t2 S = some Z → ux_At l G RX1 cX1_drawFor 9 none 3 none Z 69 [(0, .ref (ux_a G 5)), (2, .int p1), (5, .int x5), (6, .int x6), (7, .int x7), (8, .int x8)] [.int t0, .int t1, .int t2, .ref (ux_a G 47)] S := by
  intro x5 x6 x7 x8 t0 t1 t2 S hf
  unfold b_X1_drawFor_69 at hf
  refine ax_iadd 70 dX1_drawFor_69 rfl ?_
  obtain ⟨h19, hf⟩ := ux_gd_e hf
  refine ax_iast 71 dX1_drawFor_70 (by decide) rfl h19 rfl ?_
  exact ax_sub [0, 1, 2, 3, 4, 5] rfl (w_X1_drawFor_71 x5 x6 x7 x8 (ux_i S 47 t2.toNatClampNeg (t1 + t0)) hf)
def f_X1_drawFor (n : Nat) (S : ux_S) (p0 : Int32) (p1 : Int32) (p2 : Int32) : Option ux_S :=
  ux_gd (ux_ib 0 2) (ux_gd (ux_ib p0 8) (ux_gd (ux_ib 1 2) (ux_gd (ux_ib p0 8) (ux_bi (f_X1_gives S (S.1 (44 + 1 + (0 : Int32).toNatClampNeg) p0.toNatClampNeg) p2) (fun r7 S6 => ux_bi (f_X1_gives S6 (S.1 (44 + 1 + (1 : Int32).toNatClampNeg) p0.toNatClampNeg) p2) (fun r10 S9 => if r7 = 0 then (b_X1_drawFor_71 n p0 p1 p2 (S.1 (44 + 1 + (1 : Int32).toNatClampNeg) p0.toNatClampNeg) r7 r10 (p1 / (2 : Int32)) S9) else (ux_gd (ux_ib (S.1 (44 + 1 + (0 : Int32).toNatClampNeg) p0.toNatClampNeg) 16) (if r10 = 0 then (b_X1_drawFor_69 n p0 p1 p2 (S.1 (44 + 1 + (1 : Int32).toNatClampNeg) p0.toNatClampNeg) r7 r10 (p1 / (2 : Int32)) p1 (S9.1 47 (S.1 (44 + 1 + (0 : Int32).toNatClampNeg) p0.toNatClampNeg).toNatClampNeg) (S.1 (44 + 1 + (0 : Int32).toNatClampNeg) p0.toNatClampNeg) S9) else (b_X1_drawFor_69 n p0 p1 p2 (S.1 (44 + 1 + (1 : Int32).toNatClampNeg) p0.toNatClampNeg) r7 r10 (p1 / (2 : Int32)) (p1 - (p1 / (2 : Int32))) (S9.1 47 (S.1 (44 + 1 + (0 : Int32).toNatClampNeg) p0.toNatClampNeg).toNatClampNeg) (S.1 (44 + 1 + (0 : Int32).toNatClampNeg) p0.toNatClampNeg) S9)))))))))
set_option maxHeartbeats 2000000 in
set_option maxRecDepth 10000 in
theorem m_X1_drawFor {l : Launch} {G : ux_G} {n : Nat} {S : ux_S} {p0 : Int32} {p1 : Int32} {p2 : Int32} {Z : ux_S} (hf : f_X1_drawFor n S p0 p1 p2 = some Z) : ux_M l G yX1_drawFor cX1_drawFor 9 none 3 [.ref (ux_a G 5), .int p0, .int p1, .int p2] S none Z := by
  refine ux_of (by decide) (Nat.le_of_ble_eq_true rfl) ?_
  show ux_At l G RX1 cX1_drawFor 9 none 3 none Z 0 [(0, .ref (ux_a G 5)), (1, .int p0), (2, .int p1), (3, .int p2)] [] S
  unfold f_X1_drawFor at hf
  refine ax_aload_n 1 dX1_drawFor_0 rfl 0 rfl rfl ?_
  refine ax_getr 44 4 dX1_drawFor_1 fg_X1_20 rfl (by decide) rfl ?_
  refine ax_iconst (v := 0) 5 dX1_drawFor_4 (by decide) rfl ?_
  obtain ⟨h1, hf⟩ := ux_gd_e hf
  refine ax_aaldI 6 dX1_drawFor_5 (by decide) rfl h1 rfl ?_
  refine ax_iload_n 7 dX1_drawFor_6 rfl 1 rfl rfl ?_
  obtain ⟨h2, hf⟩ := ux_gd_e hf
  refine ax_iald 8 dX1_drawFor_7 (ux_row44 h1).1 (ux_row44 h1).2 h2 rfl ?_
  refine ax_istore 10 dX1_drawFor_8 (by decide) [1, 2, 3, 4, 0] [(0, .ref (ux_a G 5)), (1, .int p0), (2, .int p1), (3, .int p2), (4, .int (S.1 (44 + 1 + (0 : Int32).toNatClampNeg) p0.toNatClampNeg))] rfl rfl ?_
  refine ax_aload_n 11 dX1_drawFor_10 rfl 0 rfl rfl ?_
  refine ax_getr 44 14 dX1_drawFor_11 fg_X1_20 rfl (by decide) rfl ?_
  refine ax_iconst (v := 1) 15 dX1_drawFor_14 (by decide) rfl ?_
  obtain ⟨h3, hf⟩ := ux_gd_e hf
  refine ax_aaldI 16 dX1_drawFor_15 (by decide) rfl h3 rfl ?_
  refine ax_iload_n 17 dX1_drawFor_16 rfl 1 rfl rfl ?_
  obtain ⟨h4, hf⟩ := ux_gd_e hf
  refine ax_iald 18 dX1_drawFor_17 (ux_row44 h3).1 (ux_row44 h3).2 h4 rfl ?_
  refine ax_istore 20 dX1_drawFor_18 (by decide) [1, 2, 3, 4, 5, 0] [(0, .ref (ux_a G 5)), (1, .int p0), (2, .int p1), (3, .int p2), (4, .int (S.1 (44 + 1 + (0 : Int32).toNatClampNeg) p0.toNatClampNeg)), (5, .int (S.1 (44 + 1 + (1 : Int32).toNatClampNeg) p0.toNatClampNeg))] rfl rfl ?_
  refine ax_aload_n 21 dX1_drawFor_20 rfl 0 rfl rfl ?_
  refine ax_iload 23 dX1_drawFor_21 4 rfl rfl ?_
  refine ax_iload_n 24 dX1_drawFor_23 rfl 3 rfl rfl ?_
  obtain ⟨r7, S6, e5, hf⟩ := ux_bi_e hf
  refine ax_callVi 27 [.int (S.1 (44 + 1 + (0 : Int32).toNatClampNeg) p0.toNatClampNeg), .int p2] dX1_drawFor_24 fv_X1_59 (m_X1_gives e5) (by decide) rfl rfl (by decide) rfl rfl (Nat.le_of_ble_eq_true rfl) rfl ?_
  refine ax_istore 29 dX1_drawFor_27 (by decide) [1, 2, 3, 4, 5, 6, 0] [(0, .ref (ux_a G 5)), (1, .int p0), (2, .int p1), (3, .int p2), (4, .int (S.1 (44 + 1 + (0 : Int32).toNatClampNeg) p0.toNatClampNeg)), (5, .int (S.1 (44 + 1 + (1 : Int32).toNatClampNeg) p0.toNatClampNeg)), (6, .int r7)] rfl rfl ?_
  refine ax_aload_n 30 dX1_drawFor_29 rfl 0 rfl rfl ?_
  refine ax_iload 32 dX1_drawFor_30 5 rfl rfl ?_
  refine ax_iload_n 33 dX1_drawFor_32 rfl 3 rfl rfl ?_
  obtain ⟨r10, S9, e8, hf⟩ := ux_bi_e hf
  refine ax_callVi 36 [.int (S.1 (44 + 1 + (1 : Int32).toNatClampNeg) p0.toNatClampNeg), .int p2] dX1_drawFor_33 fv_X1_59 (m_X1_gives e8) (by decide) rfl rfl (by decide) rfl rfl (Nat.le_of_ble_eq_true rfl) rfl ?_
  refine ax_istore 38 dX1_drawFor_36 (by decide) [1, 2, 3, 4, 5, 6, 7, 0] [(0, .ref (ux_a G 5)), (1, .int p0), (2, .int p1), (3, .int p2), (4, .int (S.1 (44 + 1 + (0 : Int32).toNatClampNeg) p0.toNatClampNeg)), (5, .int (S.1 (44 + 1 + (1 : Int32).toNatClampNeg) p0.toNatClampNeg)), (6, .int r7), (7, .int r10)] rfl rfl ?_
  refine ax_iload_n 39 dX1_drawFor_38 rfl 2 rfl rfl ?_
  refine ax_iconst (v := 2) 40 dX1_drawFor_39 (by decide) rfl ?_
  refine ax_idiv 41 dX1_drawFor_40 (by decide) rfl ?_
  refine ax_istore 43 dX1_drawFor_41 (by decide) [1, 2, 3, 4, 5, 6, 7, 8, 0] [(0, .ref (ux_a G 5)), (1, .int p0), (2, .int p1), (3, .int p2), (4, .int (S.1 (44 + 1 + (0 : Int32).toNatClampNeg) p0.toNatClampNeg)), (5, .int (S.1 (44 + 1 + (1 : Int32).toNatClampNeg) p0.toNatClampNeg)), (6, .int r7), (7, .int r10), (8, .int (p1 / (2 : Int32)))] rfl rfl ?_
  refine ax_iload 45 dX1_drawFor_43 6 rfl rfl ?_
  refine ax_if_eq 71 48 dX1_drawFor_45 (by decide) rfl (fun c11 => ?_) (fun c11 => ?_)
  · have hf := ux_ift c11 hf
    exact ax_sub [0, 2, 5, 6, 7, 8] rfl (w_X1_drawFor_71 (S.1 (44 + 1 + (1 : Int32).toNatClampNeg) p0.toNatClampNeg) r7 r10 (p1 / (2 : Int32)) S9 hf)
  · have hf := ux_iff c11 hf
    refine ax_aload_n 49 dX1_drawFor_48 rfl 0 rfl rfl ?_
    refine ax_getr 47 52 dX1_drawFor_49 fg_X1_23 rfl (by decide) rfl ?_
    refine ax_iload 54 dX1_drawFor_52 4 rfl rfl ?_
    refine ax_dup2 55 dX1_drawFor_54 rfl rfl rfl ?_
    obtain ⟨h17, hf⟩ := ux_gd_e hf
    refine ax_iald 56 dX1_drawFor_55 (by decide) rfl h17 rfl ?_
    refine ax_iload 58 dX1_drawFor_56 7 rfl rfl ?_
    refine ax_if_eq 68 61 dX1_drawFor_58 (by decide) rfl (fun c18 => ?_) (fun c18 => ?_)
    · have hf := ux_ift c18 hf
      refine ax_iload_n 69 dX1_drawFor_68 rfl 2 rfl rfl ?_
      exact ax_sub [0, 2, 5, 6, 7, 8] rfl (w_X1_drawFor_69 (S.1 (44 + 1 + (1 : Int32).toNatClampNeg) p0.toNatClampNeg) r7 r10 (p1 / (2 : Int32)) p1 (S9.1 47 (S.1 (44 + 1 + (0 : Int32).toNatClampNeg) p0.toNatClampNeg).toNatClampNeg) (S.1 (44 + 1 + (0 : Int32).toNatClampNeg) p0.toNatClampNeg) S9 hf)
    · have hf := ux_iff c18 hf
      refine ax_iload_n 62 dX1_drawFor_61 rfl 2 rfl rfl ?_
      refine ax_iload 64 dX1_drawFor_62 8 rfl rfl ?_
      refine ax_isub 65 dX1_drawFor_64 rfl ?_
      refine ax_goto 69 dX1_drawFor_65 (by decide) ?_
      exact ax_sub [0, 2, 5, 6, 7, 8] rfl (w_X1_drawFor_69 (S.1 (44 + 1 + (1 : Int32).toNatClampNeg) p0.toNatClampNeg) r7 r10 (p1 / (2 : Int32)) (p1 - (p1 / (2 : Int32))) (S9.1 47 (S.1 (44 + 1 + (0 : Int32).toNatClampNeg) p0.toNatClampNeg).toNatClampNeg) (S.1 (44 + 1 + (0 : Int32).toNatClampNeg) p0.toNatClampNeg) S9 hf)
def b_X1_flow_43 (n : Nat) (p0 : Int32) (k43 : Int32 → ux_S → Option ux_S) (x3 : Int32) (S : ux_S) : Option ux_S :=
  if x3 < 0 then (some S) else (ux_gd (ux_ib x3 16) (ux_bi (f_X1_has S (S.1 42 x3.toNatClampNeg)) (fun r9 S8 => if r9 = 0 then (k43 (x3 + (-1)) S8) else (ux_gd (ux_ib x3 16) (ux_gd (ux_ib (S8.1 42 x3.toNatClampNeg) 16) (ux_gd (ux_ib x3 16) (ux_gd (ux_ib (S8.1 42 x3.toNatClampNeg) 16) (k43 (x3 + (-1)) (ux_i S8 47 (S8.1 42 x3.toNatClampNeg).toNatClampNeg ((S8.1 47 (S8.1 42 x3.toNatClampNeg).toNatClampNeg) + (S8.1 47 x3.toNatClampNeg)))))))))))
set_option maxHeartbeats 2000000 in
set_option maxRecDepth 10000 in
theorem w_X1_flow_43 {l : Launch} {G : ux_G} {n : Nat} {p0 : Int32} {Z : ux_S} (k43 : Int32 → ux_S → Option ux_S) (hk43 : ∀ (x3 : Int32) (S : ux_S), k43 x3 S = some Z → ux_At l G RX1 cX1_flow 4 none 4 none Z 43 [(0, .ref (ux_a G 5)), (3, .int x3)] [] S) : ∀ (x3 : Int32) (S : ux_S), b_X1_flow_43 n p0 k43 x3 S = some Z → ux_At l G RX1 cX1_flow 4 none 4 none Z 43 [(0, .ref (ux_a G 5)), (3, .int x3)] [] S := by
  intro x3 S hf
  unfold b_X1_flow_43 at hf
  refine ax_iload_n 44 dX1_flow_43 rfl 1 rfl rfl ?_
  refine ax_if_lt 86 47 dX1_flow_44 (by decide) rfl (fun c5 => ?_) (fun c5 => ?_)
  · have hf := ux_ift c5 hf
    exact ax_vret dX1_flow_86 hf
  · have hf := ux_iff c5 hf
    refine ax_aload_n 48 dX1_flow_47 rfl 0 rfl rfl ?_
    refine ax_aload_n 49 dX1_flow_48 rfl 0 rfl rfl ?_
    refine ax_getr 42 52 dX1_flow_49 fg_X1_9 rfl (by decide) rfl ?_
    refine ax_iload_n 53 dX1_flow_52 rfl 1 rfl rfl ?_
    obtain ⟨h6, hf⟩ := ux_gd_e hf
    refine ax_iald 54 dX1_flow_53 (by decide) rfl h6 rfl ?_
    obtain ⟨r9, S8, e7, hf⟩ := ux_bi_e hf
    refine ax_callVi 57 [.int (S.1 42 x3.toNatClampNeg)] dX1_flow_54 fv_X1_43 (m_X1_has e7) (by decide) rfl rfl (by decide) rfl rfl (Nat.le_of_ble_eq_true rfl) rfl ?_
    refine ax_if_eq 80 60 dX1_flow_57 (by decide) rfl (fun c10 => ?_) (fun c10 => ?_)
    · have hf := ux_ift c10 hf
      refine ax_iinc (v := x3 + (-1)) 83 dX1_flow_80 1 rfl rfl (by decide) [1, 0] [(0, .ref (ux_a G 5)), (3, .int (x3 + (-1)))] rfl rfl ?_
      refine ax_goto 43 dX1_flow_83 (by decide) ?_
      exact ax_sub [0, 1] rfl (hk43 (x3 + (-1)) S8 hf)
    · have hf := ux_iff c10 hf
      refine ax_aload_n 61 dX1_flow_60 rfl 0 rfl rfl ?_
      refine ax_getr 47 64 dX1_flow_61 fg_X1_23 rfl (by decide) rfl ?_
      refine ax_aload_n 65 dX1_flow_64 rfl 0 rfl rfl ?_
      refine ax_getr 42 68 dX1_flow_65 fg_X1_9 rfl (by decide) rfl ?_
      refine ax_iload_n 69 dX1_flow_68 rfl 1 rfl rfl ?_
      obtain ⟨h11, hf⟩ := ux_gd_e hf
      refine ax_iald 70 dX1_flow_69 (by decide) rfl h11 rfl ?_
      refine ax_dup2 71 dX1_flow_70 rfl rfl rfl ?_
      obtain ⟨h12, hf⟩ := ux_gd_e hf
      refine ax_iald 72 dX1_flow_71 (by decide) rfl h12 rfl ?_
      refine ax_aload_n 73 dX1_flow_72 rfl 0 rfl rfl ?_
      refine ax_getr 47 76 dX1_flow_73 fg_X1_23 rfl (by decide) rfl ?_
      refine ax_iload_n 77 dX1_flow_76 rfl 1 rfl rfl ?_
      obtain ⟨h13, hf⟩ := ux_gd_e hf
      refine ax_iald 78 dX1_flow_77 (by decide) rfl h13 rfl ?_
      refine ax_iadd 79 dX1_flow_78 rfl ?_
      obtain ⟨h14, hf⟩ := ux_gd_e hf
      refine ax_iast 80 dX1_flow_79 (by decide) rfl h14 rfl ?_
      refine ax_iinc (v := x3 + (-1)) 83 dX1_flow_80 1 rfl rfl (by decide) [1, 0] [(0, .ref (ux_a G 5)), (3, .int (x3 + (-1)))] rfl rfl ?_
      refine ax_goto 43 dX1_flow_83 (by decide) ?_
      exact ax_sub [0, 1] rfl (hk43 (x3 + (-1)) (ux_i S8 47 (S8.1 42 x3.toNatClampNeg).toNatClampNeg ((S8.1 47 (S8.1 42 x3.toNatClampNeg).toNatClampNeg) + (S8.1 47 x3.toNatClampNeg))) hf)
def b_X1_flow_10 (n : Nat) (p0 : Int32) (k10 : Int32 → ux_S → Option ux_S) (x3 : Int32) (S : ux_S) : Option ux_S :=
  if S.1 1 5 ≤ x3 then (ux_lp1 (b_X1_flow_43 n p0) n ((S.1 5 4) - (1 : Int32)) S) else (ux_gd (ux_ib x3 8) (ux_bv (f_X1_drawFor n S x3 (S.1 9 x3.toNatClampNeg) p0) (fun S17 => k10 (x3 + 1) S17)))
set_option maxHeartbeats 2000000 in
set_option maxRecDepth 10000 in
theorem w_X1_flow_10 {l : Launch} {G : ux_G} {n : Nat} {p0 : Int32} {Z : ux_S} (k10 : Int32 → ux_S → Option ux_S) (hk10 : ∀ (x3 : Int32) (S : ux_S), k10 x3 S = some Z → ux_At l G RX1 cX1_flow 4 none 4 none Z 10 [(0, .ref (ux_a G 5)), (1, .int p0), (2, .ref (ux_a G 1)), (3, .int x3)] [] S) : ∀ (x3 : Int32) (S : ux_S), b_X1_flow_10 n p0 k10 x3 S = some Z → ux_At l G RX1 cX1_flow 4 none 4 none Z 10 [(0, .ref (ux_a G 5)), (1, .int p0), (2, .ref (ux_a G 1)), (3, .int x3)] [] S := by
  intro x3 S hf
  unfold b_X1_flow_10 at hf
  refine ax_iload_n 11 dX1_flow_10 rfl 3 rfl rfl ?_
  refine ax_aload_n 12 dX1_flow_11 rfl 2 rfl rfl ?_
  refine ax_geti 15 dX1_flow_12 fg_X1_47 rfl rfl ?_
  refine ax_icmp_ge 36 18 dX1_flow_15 (by decide) rfl (fun c4 => ?_) (fun c4 => ?_)
  · have hf := ux_ift c4 hf
    refine ax_aload_n 37 dX1_flow_36 rfl 0 rfl rfl ?_
    refine ax_geti 40 dX1_flow_37 fg_X1_26 rfl rfl ?_
    refine ax_iconst (v := 1) 41 dX1_flow_40 (by decide) rfl ?_
    refine ax_isub 42 dX1_flow_41 rfl ?_
    refine ax_istore_n 43 dX1_flow_42 rfl (by decide) [1, 2, 3, 0] [(0, .ref (ux_a G 5)), (1, .int p0), (2, .ref (ux_a G 1)), (3, .int ((S.1 5 4) - (1 : Int32)))] rfl rfl ?_
    exact ax_sub [0, 3] rfl (ux_lp1_w (Pr := fun x3 S => ux_At l G RX1 cX1_flow 4 none 4 none Z 43 [(0, .ref (ux_a G 5)), (3, .int x3)] [] S) (fun k43 hk43 => w_X1_flow_43 k43 hk43) n ((S.1 5 4) - (1 : Int32)) S hf)
  · have hf := ux_iff c4 hf
    refine ax_aload_n 19 dX1_flow_18 rfl 0 rfl rfl ?_
    refine ax_iload_n 20 dX1_flow_19 rfl 3 rfl rfl ?_
    refine ax_aload_n 21 dX1_flow_20 rfl 2 rfl rfl ?_
    refine ax_getr 9 24 dX1_flow_21 fg_X1_52 rfl (by decide) rfl ?_
    refine ax_iload_n 25 dX1_flow_24 rfl 3 rfl rfl ?_
    obtain ⟨h15, hf⟩ := ux_gd_e hf
    refine ax_iald 26 dX1_flow_25 (by decide) rfl h15 rfl ?_
    refine ax_iload_n 27 dX1_flow_26 rfl 1 rfl rfl ?_
    obtain ⟨S17, e16, hf⟩ := ux_bv_e hf
    refine ax_callVv 30 [.int x3, .int (S.1 9 x3.toNatClampNeg), .int p0] dX1_flow_27 fv_X1_55 (m_X1_drawFor e16) (by decide) rfl rfl (by decide) rfl rfl (Nat.le_of_ble_eq_true rfl) rfl ?_
    refine ax_iinc (v := x3 + 1) 33 dX1_flow_30 3 rfl rfl (by decide) [1, 2, 3, 0] [(0, .ref (ux_a G 5)), (1, .int p0), (2, .ref (ux_a G 1)), (3, .int (x3 + 1))] rfl rfl ?_
    refine ax_goto 10 dX1_flow_33 (by decide) ?_
    exact ax_sub [0, 1, 2, 3] rfl (hk10 (x3 + 1) S17 hf)
def f_X1_flow (n : Nat) (S : ux_S) (p0 : Int32) : Option ux_S :=
  ux_bv (f_J7_fill_53178 n S 47 16 0) (fun S2 => ux_lp1 (b_X1_flow_10 n p0) n 0 S2)
set_option maxHeartbeats 2000000 in
set_option maxRecDepth 10000 in
theorem m_X1_flow {l : Launch} {G : ux_G} {n : Nat} {S : ux_S} {p0 : Int32} {Z : ux_S} (hf : f_X1_flow n S p0 = some Z) : ux_M l G yX1_flow cX1_flow 4 none 4 [.ref (ux_a G 5), .int p0, .ref (ux_a G 1)] S none Z := by
  refine ux_of (by decide) (Nat.le_of_ble_eq_true rfl) ?_
  show ux_At l G RX1 cX1_flow 4 none 4 none Z 0 [(0, .ref (ux_a G 5)), (1, .int p0), (2, .ref (ux_a G 1))] [] S
  unfold f_X1_flow at hf
  refine ax_aload_n 1 dX1_flow_0 rfl 0 rfl rfl ?_
  refine ax_getr 47 4 dX1_flow_1 fg_X1_23 rfl (by decide) rfl ?_
  refine ax_iconst (v := 0) 5 dX1_flow_4 (by decide) rfl ?_
  obtain ⟨S2, e1, hf⟩ := ux_bv_e hf
  refine ax_callSv 8 [.ref (ux_a G 47), .int 0] dX1_flow_5 fs_X1_33 (m_J7_fill_53178 ⟨(by decide), rfl⟩ e1) (by decide) rfl rfl (Nat.le_of_ble_eq_true rfl) rfl ?_
  refine ax_iconst (v := 0) 9 dX1_flow_8 (by decide) rfl ?_
  refine ax_istore_n 10 dX1_flow_9 rfl (by decide) [1, 2, 3, 0] [(0, .ref (ux_a G 5)), (1, .int p0), (2, .ref (ux_a G 1)), (3, .int 0)] rfl rfl ?_
  exact ax_sub [0, 1, 2, 3] rfl (ux_lp1_w (Pr := fun x3 S => ux_At l G RX1 cX1_flow 4 none 4 none Z 10 [(0, .ref (ux_a G 5)), (1, .int p0), (2, .ref (ux_a G 1)), (3, .int x3)] [] S) (fun k10 hk10 => w_X1_flow_10 k10 hk10) n 0 S2 hf)
def b_X1_over_11 (n : Nat) (p0 : Int32) (k11 : Int32 → Int32 → ux_S → Option (Int32 × ux_S)) (x3 : Int32) (x4 : Int32) (S : ux_S) : Option (Int32 × ux_S) :=
  if S.1 5 4 ≤ x4 then (some (x3, S)) else (ux_gd (ux_ib x4 16) (ux_gd (ux_ib x4 16) (if S.1 47 x4.toNatClampNeg ≤ S.1 43 x4.toNatClampNeg then (k11 x3 (x4 + 1) S) else (k11 (x3 ||| ((1 : Int32) <<< (x4 &&& 31))) (x4 + 1) S))))
set_option maxHeartbeats 2000000 in
set_option maxRecDepth 10000 in
theorem w_X1_over_11 {l : Launch} {G : ux_G} {n : Nat} {p0 : Int32} {r : Int32} {Z : ux_S} (k11 : Int32 → Int32 → ux_S → Option (Int32 × ux_S)) (hk11 : ∀ (x3 x4 : Int32) (S : ux_S), k11 x3 x4 S = some (r, Z) → ux_At l G RX1 cX1_over 5 (some .int) 5 (some (.int r)) Z 11 [(0, .ref (ux_a G 5)), (3, .int x3), (4, .int x4)] [] S) : ∀ (x3 : Int32) (x4 : Int32) (S : ux_S), b_X1_over_11 n p0 k11 x3 x4 S = some (r, Z) → ux_At l G RX1 cX1_over 5 (some .int) 5 (some (.int r)) Z 11 [(0, .ref (ux_a G 5)), (3, .int x3), (4, .int x4)] [] S := by
  intro x3 x4 S hf
  unfold b_X1_over_11 at hf
  refine ax_iload 13 dX1_over_11 2 rfl rfl ?_
  refine ax_aload_n 14 dX1_over_13 rfl 0 rfl rfl ?_
  refine ax_geti 17 dX1_over_14 fg_X1_26 rfl rfl ?_
  refine ax_icmp_ge 50 20 dX1_over_17 (by decide) rfl (fun c4 => ?_) (fun c4 => ?_)
  · have hf := ux_ift c4 hf
    refine ax_iload_n 51 dX1_over_50 rfl 1 rfl rfl ?_
    exact ax_iret dX1_over_51 hf
  · have hf := ux_iff c4 hf
    refine ax_aload_n 21 dX1_over_20 rfl 0 rfl rfl ?_
    refine ax_getr 47 24 dX1_over_21 fg_X1_23 rfl (by decide) rfl ?_
    refine ax_iload 26 dX1_over_24 2 rfl rfl ?_
    obtain ⟨h5, hf⟩ := ux_gd_e hf
    refine ax_iald 27 dX1_over_26 (by decide) rfl h5 rfl ?_
    refine ax_aload_n 28 dX1_over_27 rfl 0 rfl rfl ?_
    refine ax_getr 43 31 dX1_over_28 fg_X1_15 rfl (by decide) rfl ?_
    refine ax_iload 33 dX1_over_31 2 rfl rfl ?_
    obtain ⟨h6, hf⟩ := ux_gd_e hf
    refine ax_iald 34 dX1_over_33 (by decide) rfl h6 rfl ?_
    refine ax_icmp_le 44 37 dX1_over_34 (by decide) rfl (fun c7 => ?_) (fun c7 => ?_)
    · have hf := ux_ift c7 hf
      refine ax_iinc (v := x4 + 1) 47 dX1_over_44 2 rfl rfl (by decide) [1, 2, 0] [(0, .ref (ux_a G 5)), (3, .int x3), (4, .int (x4 + 1))] rfl rfl ?_
      refine ax_goto 11 dX1_over_47 (by decide) ?_
      exact ax_sub [0, 1, 2] rfl (hk11 x3 (x4 + 1) S hf)
    · have hf := ux_iff c7 hf
      refine ax_iload_n 38 dX1_over_37 rfl 1 rfl rfl ?_
      refine ax_iconst (v := 1) 39 dX1_over_38 (by decide) rfl ?_
      refine ax_iload 41 dX1_over_39 2 rfl rfl ?_
      refine ax_ishl 42 dX1_over_41 rfl ?_
      refine ax_ior 43 dX1_over_42 rfl ?_
      refine ax_istore_n 44 dX1_over_43 rfl (by decide) [1, 0, 2] [(0, .ref (ux_a G 5)), (3, .int (x3 ||| ((1 : Int32) <<< (x4 &&& 31)))), (4, .int x4)] rfl rfl ?_
      refine ax_iinc (v := x4 + 1) 47 dX1_over_44 2 rfl rfl (by decide) [1, 2, 0] [(0, .ref (ux_a G 5)), (3, .int (x3 ||| ((1 : Int32) <<< (x4 &&& 31)))), (4, .int (x4 + 1))] rfl rfl ?_
      refine ax_goto 11 dX1_over_47 (by decide) ?_
      exact ax_sub [0, 1, 2] rfl (hk11 (x3 ||| ((1 : Int32) <<< (x4 &&& 31))) (x4 + 1) S hf)
def f_X1_over (n : Nat) (S : ux_S) (p0 : Int32) : Option (Int32 × ux_S) :=
  ux_bv (f_X1_flow n S p0) (fun S2 => ux_lp2 (b_X1_over_11 n p0) n 0 0 S2)
set_option maxHeartbeats 2000000 in
set_option maxRecDepth 10000 in
theorem m_X1_over {l : Launch} {G : ux_G} {n : Nat} {S : ux_S} {p0 : Int32} {r : Int32} {Z : ux_S} (hf : f_X1_over n S p0 = some (r, Z)) : ux_M l G yX1_over cX1_over 5 (some .int) 5 [.ref (ux_a G 5), .int p0, .ref (ux_a G 1)] S (some (.int r)) Z := by
  refine ux_of (by decide) (Nat.le_of_ble_eq_true rfl) ?_
  show ux_At l G RX1 cX1_over 5 (some .int) 5 (some (.int r)) Z 0 [(0, .ref (ux_a G 5)), (1, .int p0), (2, .ref (ux_a G 1))] [] S
  unfold f_X1_over at hf
  refine ax_aload_n 1 dX1_over_0 rfl 0 rfl rfl ?_
  refine ax_iload_n 2 dX1_over_1 rfl 1 rfl rfl ?_
  refine ax_aload_n 3 dX1_over_2 rfl 2 rfl rfl ?_
  obtain ⟨S2, e1, hf⟩ := ux_bv_e hf
  refine ax_callVv 6 [.int p0, .ref (ux_a G 1)] dX1_over_3 fv_X1_62 (m_X1_flow e1) (by decide) rfl rfl (by decide) rfl rfl (Nat.le_of_ble_eq_true rfl) rfl ?_
  refine ax_iconst (v := 0) 7 dX1_over_6 (by decide) rfl ?_
  refine ax_istore_n 8 dX1_over_7 rfl (by decide) [1, 2, 3, 0] [(0, .ref (ux_a G 5)), (1, .int p0), (2, .ref (ux_a G 1)), (3, .int 0)] rfl rfl ?_
  refine ax_iconst (v := 0) 9 dX1_over_8 (by decide) rfl ?_
  refine ax_istore 11 dX1_over_9 (by decide) [1, 2, 3, 4, 0] [(0, .ref (ux_a G 5)), (1, .int p0), (2, .ref (ux_a G 1)), (3, .int 0), (4, .int 0)] rfl rfl ?_
  exact ax_sub [0, 3, 4] rfl (ux_lp2_w (Pr := fun x3 x4 S => ux_At l G RX1 cX1_over 5 (some .int) 5 (some (.int r)) Z 11 [(0, .ref (ux_a G 5)), (3, .int x3), (4, .int x4)] [] S) (fun k11 hk11 => w_X1_over_11 k11 hk11) n 0 0 S2 hf)
def b_X1_dark_5 (n : Nat) (p0 : Int32) (k5 : Int32 → Int32 → ux_S → Option (Int32 × ux_S)) (x3 : Int32) (x4 : Int32) (S : ux_S) : Option (Int32 × ux_S) :=
  if S.1 1 5 ≤ x4 then (some (x3, S)) else (ux_gd (ux_ib 0 2) (ux_gd (ux_ib x4 8) (ux_bi (f_X1_gives S (S.1 (44 + 1 + (0 : Int32).toNatClampNeg) x4.toNatClampNeg) p0) (fun r6 S5 => if r6 = 0 then (ux_gd (ux_ib 1 2) (ux_gd (ux_ib x4 8) (ux_bi (f_X1_gives S5 (S5.1 (44 + 1 + (1 : Int32).toNatClampNeg) x4.toNatClampNeg) p0) (fun r12 S11 => if r12 = 0 then (k5 (x3 ||| ((1 : Int32) <<< (x4 &&& 31))) (x4 + 1) S11) else (k5 x3 (x4 + 1) S11))))) else (k5 x3 (x4 + 1) S5)))))
set_option maxHeartbeats 2000000 in
set_option maxRecDepth 10000 in
theorem w_X1_dark_5 {l : Launch} {G : ux_G} {n : Nat} {p0 : Int32} {r : Int32} {Z : ux_S} (k5 : Int32 → Int32 → ux_S → Option (Int32 × ux_S)) (hk5 : ∀ (x3 x4 : Int32) (S : ux_S), k5 x3 x4 S = some (r, Z) → ux_At l G RX1 cX1_dark 5 (some .int) 3 (some (.int r)) Z 5 [(0, .ref (ux_a G 5)), (1, .int p0), (2, .ref (ux_a G 1)), (3, .int x3), (4, .int x4)] [] S) : ∀ (x3 : Int32) (x4 : Int32) (S : ux_S), b_X1_dark_5 n p0 k5 x3 x4 S = some (r, Z) → ux_At l G RX1 cX1_dark 5 (some .int) 3 (some (.int r)) Z 5 [(0, .ref (ux_a G 5)), (1, .int p0), (2, .ref (ux_a G 1)), (3, .int x3), (4, .int x4)] [] S := by
  intro x3 x4 S hf
  unfold b_X1_dark_5 at hf
  refine ax_iload 7 dX1_dark_5 4 rfl rfl ?_
  refine ax_aload_n 8 dX1_dark_7 rfl 2 rfl rfl ?_
  refine ax_geti 11 dX1_dark_8 fg_X1_47 rfl rfl ?_
  refine ax_icmp_ge 61 14 dX1_dark_11 (by decide) rfl (fun c1 => ?_) (fun c1 => ?_)
  · have hf := ux_ift c1 hf
    refine ax_iload_n 62 dX1_dark_61 rfl 3 rfl rfl ?_
    exact ax_iret dX1_dark_62 hf
  · have hf := ux_iff c1 hf
    refine ax_aload_n 15 dX1_dark_14 rfl 0 rfl rfl ?_
    refine ax_aload_n 16 dX1_dark_15 rfl 0 rfl rfl ?_
    refine ax_getr 44 19 dX1_dark_16 fg_X1_20 rfl (by decide) rfl ?_
    refine ax_iconst (v := 0) 20 dX1_dark_19 (by decide) rfl ?_
    obtain ⟨h2, hf⟩ := ux_gd_e hf
    refine ax_aaldI 21 dX1_dark_20 (by decide) rfl h2 rfl ?_
    refine ax_iload 23 dX1_dark_21 4 rfl rfl ?_
    obtain ⟨h3, hf⟩ := ux_gd_e hf
    refine ax_iald 24 dX1_dark_23 (ux_row44 h2).1 (ux_row44 h2).2 h3 rfl ?_
    refine ax_iload_n 25 dX1_dark_24 rfl 1 rfl rfl ?_
    obtain ⟨r6, S5, e4, hf⟩ := ux_bi_e hf
    refine ax_callVi 28 [.int (S.1 (44 + 1 + (0 : Int32).toNatClampNeg) x4.toNatClampNeg), .int p0] dX1_dark_25 fv_X1_59 (m_X1_gives e4) (by decide) rfl rfl (by decide) rfl rfl (Nat.le_of_ble_eq_true rfl) rfl ?_
    refine ax_if_ne 55 31 dX1_dark_28 (by decide) rfl (fun c7 => ?_) (fun c7 => ?_)
    · have hf := ux_iff c7 hf
      refine ax_iinc (v := x4 + 1) 58 dX1_dark_55 4 rfl rfl (by decide) [1, 2, 3, 4, 0] [(0, .ref (ux_a G 5)), (1, .int p0), (2, .ref (ux_a G 1)), (3, .int x3), (4, .int (x4 + 1))] rfl rfl ?_
      refine ax_goto 5 dX1_dark_58 (by decide) ?_
      exact ax_sub [0, 1, 2, 3, 4] rfl (hk5 x3 (x4 + 1) S5 hf)
    · have hf := ux_ift c7 hf
      refine ax_aload_n 32 dX1_dark_31 rfl 0 rfl rfl ?_
      refine ax_aload_n 33 dX1_dark_32 rfl 0 rfl rfl ?_
      refine ax_getr 44 36 dX1_dark_33 fg_X1_20 rfl (by decide) rfl ?_
      refine ax_iconst (v := 1) 37 dX1_dark_36 (by decide) rfl ?_
      obtain ⟨h8, hf⟩ := ux_gd_e hf
      refine ax_aaldI 38 dX1_dark_37 (by decide) rfl h8 rfl ?_
      refine ax_iload 40 dX1_dark_38 4 rfl rfl ?_
      obtain ⟨h9, hf⟩ := ux_gd_e hf
      refine ax_iald 41 dX1_dark_40 (ux_row44 h8).1 (ux_row44 h8).2 h9 rfl ?_
      refine ax_iload_n 42 dX1_dark_41 rfl 1 rfl rfl ?_
      obtain ⟨r12, S11, e10, hf⟩ := ux_bi_e hf
      refine ax_callVi 45 [.int (S5.1 (44 + 1 + (1 : Int32).toNatClampNeg) x4.toNatClampNeg), .int p0] dX1_dark_42 fv_X1_59 (m_X1_gives e10) (by decide) rfl rfl (by decide) rfl rfl (Nat.le_of_ble_eq_true rfl) rfl ?_
      refine ax_if_ne 55 48 dX1_dark_45 (by decide) rfl (fun c13 => ?_) (fun c13 => ?_)
      · have hf := ux_iff c13 hf
        refine ax_iinc (v := x4 + 1) 58 dX1_dark_55 4 rfl rfl (by decide) [1, 2, 3, 4, 0] [(0, .ref (ux_a G 5)), (1, .int p0), (2, .ref (ux_a G 1)), (3, .int x3), (4, .int (x4 + 1))] rfl rfl ?_
        refine ax_goto 5 dX1_dark_58 (by decide) ?_
        exact ax_sub [0, 1, 2, 3, 4] rfl (hk5 x3 (x4 + 1) S11 hf)
      · have hf := ux_ift c13 hf
        refine ax_iload_n 49 dX1_dark_48 rfl 3 rfl rfl ?_
        refine ax_iconst (v := 1) 50 dX1_dark_49 (by decide) rfl ?_
        refine ax_iload 52 dX1_dark_50 4 rfl rfl ?_
        refine ax_ishl 53 dX1_dark_52 rfl ?_
        refine ax_ior 54 dX1_dark_53 rfl ?_
        refine ax_istore_n 55 dX1_dark_54 rfl (by decide) [1, 2, 3, 0, 4] [(0, .ref (ux_a G 5)), (1, .int p0), (2, .ref (ux_a G 1)), (3, .int (x3 ||| ((1 : Int32) <<< (x4 &&& 31)))), (4, .int x4)] rfl rfl ?_
        refine ax_iinc (v := x4 + 1) 58 dX1_dark_55 4 rfl rfl (by decide) [1, 2, 3, 4, 0] [(0, .ref (ux_a G 5)), (1, .int p0), (2, .ref (ux_a G 1)), (3, .int (x3 ||| ((1 : Int32) <<< (x4 &&& 31)))), (4, .int (x4 + 1))] rfl rfl ?_
        refine ax_goto 5 dX1_dark_58 (by decide) ?_
        exact ax_sub [0, 1, 2, 3, 4] rfl (hk5 (x3 ||| ((1 : Int32) <<< (x4 &&& 31))) (x4 + 1) S11 hf)
def f_X1_dark (n : Nat) (S : ux_S) (p0 : Int32) : Option (Int32 × ux_S) :=
  ux_lp2 (b_X1_dark_5 n p0) n 0 0 S
set_option maxHeartbeats 2000000 in
set_option maxRecDepth 10000 in
theorem m_X1_dark {l : Launch} {G : ux_G} {n : Nat} {S : ux_S} {p0 : Int32} {r : Int32} {Z : ux_S} (hf : f_X1_dark n S p0 = some (r, Z)) : ux_M l G yX1_dark cX1_dark 5 (some .int) 3 [.ref (ux_a G 5), .int p0, .ref (ux_a G 1)] S (some (.int r)) Z := by
  refine ux_of (by decide) (Nat.le_of_ble_eq_true rfl) ?_
  show ux_At l G RX1 cX1_dark 5 (some .int) 3 (some (.int r)) Z 0 [(0, .ref (ux_a G 5)), (1, .int p0), (2, .ref (ux_a G 1))] [] S
  unfold f_X1_dark at hf
  refine ax_iconst (v := 0) 1 dX1_dark_0 (by decide) rfl ?_
  refine ax_istore_n 2 dX1_dark_1 rfl (by decide) [1, 2, 3, 0] [(0, .ref (ux_a G 5)), (1, .int p0), (2, .ref (ux_a G 1)), (3, .int 0)] rfl rfl ?_
  refine ax_iconst (v := 0) 3 dX1_dark_2 (by decide) rfl ?_
  refine ax_istore 5 dX1_dark_3 (by decide) [1, 2, 3, 4, 0] [(0, .ref (ux_a G 5)), (1, .int p0), (2, .ref (ux_a G 1)), (3, .int 0), (4, .int 0)] rfl rfl ?_
  exact ax_sub [0, 1, 2, 3, 4] rfl (ux_lp2_w (Pr := fun x3 x4 S => ux_At l G RX1 cX1_dark 5 (some .int) 3 (some (.int r)) Z 5 [(0, .ref (ux_a G 5)), (1, .int p0), (2, .ref (ux_a G 1)), (3, .int x3), (4, .int x4)] [] S) (fun k5 hk5 => w_X1_dark_5 k5 hk5) n 0 0 S hf)
def b_X1_firstWeak_92 (n : Nat) (k27 : Int32 → Int32 → Int32 → ux_S → Option (Int32 × ux_S)) (x3 : Int32) (x4 : Int32) (x5 : Int32) (x7 : Int32) (t0 : Int32) (S : ux_S) : Option (Int32 × ux_S) :=
  if x7 = 0 then (if t0 = 0 then (k27 x3 x4 (x5 + 1) S) else (some (x5, S))) else (some (x5, S))
set_option maxHeartbeats 2000000 in
set_option maxRecDepth 10000 in
theorem w_X1_firstWeak_92 {l : Launch} {G : ux_G} {n : Nat} {r : Int32} {Z : ux_S} (k27 : Int32 → Int32 → Int32 → ux_S → Option (Int32 × ux_S)) (hk27 : ∀ (x3 x4 x5 : Int32) (S : ux_S), k27 x3 x4 x5 S = some (r, Z) → ux_At l G RX1 cX1_firstWeak 9 (some .int) 6 (some (.int r)) Z 27 [(0, .ref (ux_a G 5)), (1, .ref (ux_a G 1)), (3, .int x3), (4, .int x4), (5, .int x5)] [] S) : ∀ (x3 : Int32) (x4 : Int32) (x5 : Int32) (x7 : Int32) (t0 : Int32) (S : ux_S), b_X1_firstWeak_92 n k27 x3 x4 x5 x7 t0 S = some (r, Z) → ux_At l G RX1 cX1_firstWeak 9 (some .int) 6 (some (.int r)) Z 92 [(0, .ref (ux_a G 5)), (1, .ref (ux_a G 1)), (3, .int x3), (4, .int x4), (5, .int x5), (7, .int x7)] [.int t0] S := by
  intro x3 x4 x5 x7 t0 S hf
  unfold b_X1_firstWeak_92 at hf
  refine ax_istore 94 dX1_firstWeak_92 (by decide) [1, 2, 3, 4, 5, 6, 0] [(0, .ref (ux_a G 5)), (1, .ref (ux_a G 1)), (3, .int x3), (4, .int x4), (5, .int x5), (7, .int x7), (8, .int t0)] rfl rfl ?_
  refine ax_iload 96 dX1_firstWeak_94 5 rfl rfl ?_
  refine ax_if_ne 104 99 dX1_firstWeak_96 (by decide) rfl (fun c22 => ?_) (fun c22 => ?_)
  · have hf := ux_iff c22 hf
    refine ax_iload 106 dX1_firstWeak_104 4 rfl rfl ?_
    exact ax_iret dX1_firstWeak_106 hf
  · have hf := ux_ift c22 hf
    refine ax_iload 101 dX1_firstWeak_99 6 rfl rfl ?_
    refine ax_if_eq 107 104 dX1_firstWeak_101 (by decide) rfl (fun c23 => ?_) (fun c23 => ?_)
    · have hf := ux_ift c23 hf
      refine ax_iinc (v := x5 + 1) 110 dX1_firstWeak_107 4 rfl rfl (by decide) [1, 2, 3, 4, 0] [(0, .ref (ux_a G 5)), (1, .ref (ux_a G 1)), (3, .int x3), (4, .int x4), (5, .int (x5 + 1))] rfl rfl ?_
      refine ax_goto 27 dX1_firstWeak_110 (by decide) ?_
      exact ax_sub [0, 1, 2, 3, 4] rfl (hk27 x3 x4 (x5 + 1) S hf)
    · have hf := ux_iff c23 hf
      refine ax_iload 106 dX1_firstWeak_104 4 rfl rfl ?_
      exact ax_iret dX1_firstWeak_106 hf
def b_X1_firstWeak_70 (n : Nat) (k27 : Int32 → Int32 → Int32 → ux_S → Option (Int32 × ux_S)) (x3 : Int32) (x4 : Int32) (x5 : Int32) (x6 : Int32) (t0 : Int32) (S : ux_S) : Option (Int32 × ux_S) :=
  ux_bi (f_X1_dark n S x6) (fun r20 S19 => if r20 &&& (x4 ^^^ ((-1) : Int32)) = 0 then (b_X1_firstWeak_92 n k27 x3 x4 x5 t0 0 S19) else (b_X1_firstWeak_92 n k27 x3 x4 x5 t0 1 S19))
set_option maxHeartbeats 2000000 in
set_option maxRecDepth 10000 in
theorem w_X1_firstWeak_70 {l : Launch} {G : ux_G} {n : Nat} {r : Int32} {Z : ux_S} (k27 : Int32 → Int32 → Int32 → ux_S → Option (Int32 × ux_S)) (hk27 : ∀ (x3 x4 x5 : Int32) (S : ux_S), k27 x3 x4 x5 S = some (r, Z) → ux_At l G RX1 cX1_firstWeak 9 (some .int) 6 (some (.int r)) Z 27 [(0, .ref (ux_a G 5)), (1, .ref (ux_a G 1)), (3, .int x3), (4, .int x4), (5, .int x5)] [] S) : ∀ (x3 : Int32) (x4 : Int32) (x5 : Int32) (x6 : Int32) (t0 : Int32) (S : ux_S), b_X1_firstWeak_70 n k27 x3 x4 x5 x6 t0 S = some (r, Z) → ux_At l G RX1 cX1_firstWeak 9 (some .int) 6 (some (.int r)) Z 70 [(0, .ref (ux_a G 5)), (1, .ref (ux_a G 1)), (3, .int x3), (4, .int x4), (5, .int x5), (6, .int x6)] [.int t0] S := by
  intro x3 x4 x5 x6 t0 S hf
  unfold b_X1_firstWeak_70 at hf
  refine ax_istore 72 dX1_firstWeak_70 (by decide) [1, 2, 3, 4, 5, 6, 0] [(0, .ref (ux_a G 5)), (1, .ref (ux_a G 1)), (3, .int x3), (4, .int x4), (5, .int x5), (6, .int x6), (7, .int t0)] rfl rfl ?_
  refine ax_aload_n 73 dX1_firstWeak_72 rfl 0 rfl rfl ?_
  refine ax_iload 75 dX1_firstWeak_73 5 rfl rfl ?_
  refine ax_aload_n 76 dX1_firstWeak_75 rfl 1 rfl rfl ?_
  obtain ⟨r20, S19, e18, hf⟩ := ux_bi_e hf
  refine ax_callVi 79 [.int x6, .ref (ux_a G 1)] dX1_firstWeak_76 fv_X1_74 (m_X1_dark e18) (by decide) rfl rfl (by decide) rfl rfl (Nat.le_of_ble_eq_true rfl) rfl ?_
  refine ax_iload 81 dX1_firstWeak_79 3 rfl rfl ?_
  refine ax_iconst (v := (-1)) 82 dX1_firstWeak_81 (by decide) rfl ?_
  refine ax_ixor 83 dX1_firstWeak_82 rfl ?_
  refine ax_iand 84 dX1_firstWeak_83 rfl ?_
  refine ax_if_eq 91 87 dX1_firstWeak_84 (by decide) rfl (fun c21 => ?_) (fun c21 => ?_)
  · have hf := ux_ift c21 hf
    refine ax_iconst (v := 0) 92 dX1_firstWeak_91 (by decide) rfl ?_
    exact ax_sub [0, 1, 2, 3, 4, 6] rfl (w_X1_firstWeak_92 k27 hk27 x3 x4 x5 t0 0 S19 hf)
  · have hf := ux_iff c21 hf
    refine ax_iconst (v := 1) 88 dX1_firstWeak_87 (by decide) rfl ?_
    refine ax_goto 92 dX1_firstWeak_88 (by decide) ?_
    exact ax_sub [0, 1, 2, 3, 4, 6] rfl (w_X1_firstWeak_92 k27 hk27 x3 x4 x5 t0 1 S19 hf)
def b_X1_firstWeak_27 (n : Nat) (k27 : Int32 → Int32 → Int32 → ux_S → Option (Int32 × ux_S)) (x3 : Int32) (x4 : Int32) (x5 : Int32) (S : ux_S) : Option (Int32 × ux_S) :=
  if S.1 5 4 ≤ x5 then (some ((-4), S)) else (ux_bi (f_X1_dead n S ((S.1 5 5) ||| ((1 : Int32) <<< (x5 &&& 31)))) (fun r13 S12 => ux_bi (f_X1_over n S12 r13) (fun r16 S15 => if r16 &&& (x3 ^^^ ((-1) : Int32)) = 0 then (b_X1_firstWeak_70 n k27 x3 x4 x5 r13 0 S15) else (b_X1_firstWeak_70 n k27 x3 x4 x5 r13 1 S15))))
set_option maxHeartbeats 2000000 in
set_option maxRecDepth 10000 in
theorem w_X1_firstWeak_27 {l : Launch} {G : ux_G} {n : Nat} {r : Int32} {Z : ux_S} (k27 : Int32 → Int32 → Int32 → ux_S → Option (Int32 × ux_S)) (hk27 : ∀ (x3 x4 x5 : Int32) (S : ux_S), k27 x3 x4 x5 S = some (r, Z) → ux_At l G RX1 cX1_firstWeak 9 (some .int) 6 (some (.int r)) Z 27 [(0, .ref (ux_a G 5)), (1, .ref (ux_a G 1)), (3, .int x3), (4, .int x4), (5, .int x5)] [] S) : ∀ (x3 : Int32) (x4 : Int32) (x5 : Int32) (S : ux_S), b_X1_firstWeak_27 n k27 x3 x4 x5 S = some (r, Z) → ux_At l G RX1 cX1_firstWeak 9 (some .int) 6 (some (.int r)) Z 27 [(0, .ref (ux_a G 5)), (1, .ref (ux_a G 1)), (3, .int x3), (4, .int x4), (5, .int x5)] [] S := by
  intro x3 x4 x5 S hf
  unfold b_X1_firstWeak_27 at hf
  refine ax_iload 29 dX1_firstWeak_27 4 rfl rfl ?_
  refine ax_aload_n 30 dX1_firstWeak_29 rfl 0 rfl rfl ?_
  refine ax_geti 33 dX1_firstWeak_30 fg_X1_26 rfl rfl ?_
  refine ax_icmp_ge 113 36 dX1_firstWeak_33 (by decide) rfl (fun c10 => ?_) (fun c10 => ?_)
  · have hf := ux_ift c10 hf
    refine ax_bipush (v := (-4)) 115 dX1_firstWeak_113 (by decide) rfl ?_
    exact ax_iret dX1_firstWeak_115 hf
  · have hf := ux_iff c10 hf
    refine ax_aload_n 37 dX1_firstWeak_36 rfl 0 rfl rfl ?_
    refine ax_aload_n 38 dX1_firstWeak_37 rfl 0 rfl rfl ?_
    refine ax_geti 41 dX1_firstWeak_38 fg_X1_30 rfl rfl ?_
    refine ax_iconst (v := 1) 42 dX1_firstWeak_41 (by decide) rfl ?_
    refine ax_iload 44 dX1_firstWeak_42 4 rfl rfl ?_
    refine ax_ishl 45 dX1_firstWeak_44 rfl ?_
    refine ax_ior 46 dX1_firstWeak_45 rfl ?_
    obtain ⟨r13, S12, e11, hf⟩ := ux_bi_e hf
    refine ax_callVi 49 [.int ((S.1 5 5) ||| ((1 : Int32) <<< (x5 &&& 31)))] dX1_firstWeak_46 fv_X1_66 (m_X1_dead e11) (by decide) rfl rfl (by decide) rfl rfl (Nat.le_of_ble_eq_true rfl) rfl ?_
    refine ax_istore 51 dX1_firstWeak_49 (by decide) [1, 2, 3, 4, 5, 0] [(0, .ref (ux_a G 5)), (1, .ref (ux_a G 1)), (3, .int x3), (4, .int x4), (5, .int x5), (6, .int r13)] rfl rfl ?_
    refine ax_aload_n 52 dX1_firstWeak_51 rfl 0 rfl rfl ?_
    refine ax_iload 54 dX1_firstWeak_52 5 rfl rfl ?_
    refine ax_aload_n 55 dX1_firstWeak_54 rfl 1 rfl rfl ?_
    obtain ⟨r16, S15, e14, hf⟩ := ux_bi_e hf
    refine ax_callVi 58 [.int r13, .ref (ux_a G 1)] dX1_firstWeak_55 fv_X1_70 (m_X1_over e14) (by decide) rfl rfl (by decide) rfl rfl (Nat.le_of_ble_eq_true rfl) rfl ?_
    refine ax_iload_n 59 dX1_firstWeak_58 rfl 2 rfl rfl ?_
    refine ax_iconst (v := (-1)) 60 dX1_firstWeak_59 (by decide) rfl ?_
    refine ax_ixor 61 dX1_firstWeak_60 rfl ?_
    refine ax_iand 62 dX1_firstWeak_61 rfl ?_
    refine ax_if_eq 69 65 dX1_firstWeak_62 (by decide) rfl (fun c17 => ?_) (fun c17 => ?_)
    · have hf := ux_ift c17 hf
      refine ax_iconst (v := 0) 70 dX1_firstWeak_69 (by decide) rfl ?_
      exact ax_sub [0, 1, 2, 3, 4, 5] rfl (w_X1_firstWeak_70 k27 hk27 x3 x4 x5 r13 0 S15 hf)
    · have hf := ux_iff c17 hf
      refine ax_iconst (v := 1) 66 dX1_firstWeak_65 (by decide) rfl ?_
      refine ax_goto 70 dX1_firstWeak_66 (by decide) ?_
      exact ax_sub [0, 1, 2, 3, 4, 5] rfl (w_X1_firstWeak_70 k27 hk27 x3 x4 x5 r13 1 S15 hf)
def f_X1_firstWeak (n : Nat) (S : ux_S) : Option (Int32 × ux_S) :=
  ux_bi (f_X1_dead n S (S.1 5 5)) (fun r3 S2 => ux_bi (f_X1_over n S2 r3) (fun r6 S5 => ux_bi (f_X1_dark n S5 r3) (fun r9 S8 => ux_lp3 (b_X1_firstWeak_27 n) n r6 r9 0 S8)))
set_option maxHeartbeats 2000000 in
set_option maxRecDepth 10000 in
theorem m_X1_firstWeak {l : Launch} {G : ux_G} {n : Nat} {S : ux_S} {r : Int32} {Z : ux_S} (hf : f_X1_firstWeak n S = some (r, Z)) : ux_M l G yX1_firstWeak cX1_firstWeak 9 (some .int) 6 [.ref (ux_a G 5), .ref (ux_a G 1)] S (some (.int r)) Z := by
  refine ux_of (by decide) (Nat.le_of_ble_eq_true rfl) ?_
  show ux_At l G RX1 cX1_firstWeak 9 (some .int) 6 (some (.int r)) Z 0 [(0, .ref (ux_a G 5)), (1, .ref (ux_a G 1))] [] S
  unfold f_X1_firstWeak at hf
  refine ax_aload_n 1 dX1_firstWeak_0 rfl 0 rfl rfl ?_
  refine ax_aload_n 2 dX1_firstWeak_1 rfl 0 rfl rfl ?_
  refine ax_geti 5 dX1_firstWeak_2 fg_X1_30 rfl rfl ?_
  obtain ⟨r3, S2, e1, hf⟩ := ux_bi_e hf
  refine ax_callVi 8 [.int (S.1 5 5)] dX1_firstWeak_5 fv_X1_66 (m_X1_dead e1) (by decide) rfl rfl (by decide) rfl rfl (Nat.le_of_ble_eq_true rfl) rfl ?_
  refine ax_istore_n 9 dX1_firstWeak_8 rfl (by decide) [1, 2, 0] [(0, .ref (ux_a G 5)), (1, .ref (ux_a G 1)), (2, .int r3)] rfl rfl ?_
  refine ax_aload_n 10 dX1_firstWeak_9 rfl 0 rfl rfl ?_
  refine ax_iload_n 11 dX1_firstWeak_10 rfl 2 rfl rfl ?_
  refine ax_aload_n 12 dX1_firstWeak_11 rfl 1 rfl rfl ?_
  obtain ⟨r6, S5, e4, hf⟩ := ux_bi_e hf
  refine ax_callVi 15 [.int r3, .ref (ux_a G 1)] dX1_firstWeak_12 fv_X1_70 (m_X1_over e4) (by decide) rfl rfl (by decide) rfl rfl (Nat.le_of_ble_eq_true rfl) rfl ?_
  refine ax_istore_n 16 dX1_firstWeak_15 rfl (by decide) [1, 2, 3, 0] [(0, .ref (ux_a G 5)), (1, .ref (ux_a G 1)), (2, .int r3), (3, .int r6)] rfl rfl ?_
  refine ax_aload_n 17 dX1_firstWeak_16 rfl 0 rfl rfl ?_
  refine ax_iload_n 18 dX1_firstWeak_17 rfl 2 rfl rfl ?_
  refine ax_aload_n 19 dX1_firstWeak_18 rfl 1 rfl rfl ?_
  obtain ⟨r9, S8, e7, hf⟩ := ux_bi_e hf
  refine ax_callVi 22 [.int r3, .ref (ux_a G 1)] dX1_firstWeak_19 fv_X1_74 (m_X1_dark e7) (by decide) rfl rfl (by decide) rfl rfl (Nat.le_of_ble_eq_true rfl) rfl ?_
  refine ax_istore 24 dX1_firstWeak_22 (by decide) [1, 2, 4, 0] [(0, .ref (ux_a G 5)), (1, .ref (ux_a G 1)), (3, .int r6), (4, .int r9)] rfl rfl ?_
  refine ax_iconst (v := 0) 25 dX1_firstWeak_24 (by decide) rfl ?_
  refine ax_istore 27 dX1_firstWeak_25 (by decide) [1, 2, 3, 4, 0] [(0, .ref (ux_a G 5)), (1, .ref (ux_a G 1)), (3, .int r6), (4, .int r9), (5, .int 0)] rfl rfl ?_
  exact ax_sub [0, 1, 2, 3, 4] rfl (ux_lp3_w (Pr := fun x3 x4 x5 S => ux_At l G RX1 cX1_firstWeak 9 (some .int) 6 (some (.int r)) Z 27 [(0, .ref (ux_a G 5)), (1, .ref (ux_a G 1)), (3, .int x3), (4, .int x4), (5, .int x5)] [] S) (fun k27 hk27 => w_X1_firstWeak_27 k27 hk27) n r6 r9 0 S8 hf)
