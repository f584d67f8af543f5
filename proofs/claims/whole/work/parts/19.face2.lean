/-! printed by program (wip/gen): pure functions and contracts -/

def f_X7_machine (S : ux_S) (p0 : Int32) (p1 : Int32) : Option (Int32 × ux_S) :=
  ux_bi (f_X7_within S p0 1 300) (fun r3 S2 => if r3 = 0 then (some ((-1), S2)) else (ux_bi (f_X7_within S2 p1 1 10) (fun r7 S6 => if r7 = 0 then (some ((-1), S6)) else (ux_bi (f_X4_add S6 p0 p1) (fun r11 S10 => some (r11, S10))))))
set_option maxHeartbeats 2000000 in
set_option maxRecDepth 10000 in
theorem m_X7_machine {l : Launch} {G : ux_G} {S : ux_S} {p0 : Int32} {p1 : Int32} {r : Int32} {Z : ux_S} (hf : f_X7_machine S p0 p1 = some (r, Z)) : ux_M l G yX7_machine cX7_machine 3 (some .int) 2 [.ref (ux_a G 0), .int p0, .int p1] S (some (.int r)) Z := by
  refine ux_of (by decide) (Nat.le_of_ble_eq_true rfl) ?_
  show ux_At l G RX7 cX7_machine 3 (some .int) 2 (some (.int r)) Z 0 [(0, .ref (ux_a G 0)), (1, .int p0), (2, .int p1)] [] S
  unfold f_X7_machine at hf
  refine ax_iload_n 1 dX7_machine_0 rfl 1 rfl rfl ?_
  refine ax_iconst (v := 1) 2 dX7_machine_1 (by decide) rfl ?_
  refine ax_sipush (v := 300) 5 dX7_machine_2 (by decide) rfl ?_
  obtain ⟨r3, S2, e1, hf⟩ := ux_bi_e hf
  refine ax_callSi 8 [.int p0, .int 1, .int 300] dX7_machine_5 fs_X7_58 (m_X7_within e1) (by decide) rfl rfl (Nat.le_of_ble_eq_true rfl) rfl ?_
  refine ax_if_eq 33 11 dX7_machine_8 (by decide) rfl (fun c4 => ?_) (fun c4 => ?_)
  · have hf := ux_ift c4 hf
    refine ax_iconst (v := (-1)) 34 dX7_machine_33 (by decide) rfl ?_
    exact ax_iret dX7_machine_34 hf
  · have hf := ux_iff c4 hf
    refine ax_iload_n 12 dX7_machine_11 rfl 2 rfl rfl ?_
    refine ax_iconst (v := 1) 13 dX7_machine_12 (by decide) rfl ?_
    refine ax_bipush (v := 10) 15 dX7_machine_13 (by decide) rfl ?_
    obtain ⟨r7, S6, e5, hf⟩ := ux_bi_e hf
    refine ax_callSi 18 [.int p1, .int 1, .int 10] dX7_machine_15 fs_X7_58 (m_X7_within e5) (by decide) rfl rfl (Nat.le_of_ble_eq_true rfl) rfl ?_
    refine ax_if_eq 33 21 dX7_machine_18 (by decide) rfl (fun c8 => ?_) (fun c8 => ?_)
    · have hf := ux_ift c8 hf
      refine ax_iconst (v := (-1)) 34 dX7_machine_33 (by decide) rfl ?_
      exact ax_iret dX7_machine_34 hf
    · have hf := ux_iff c8 hf
      refine ax_aload_n 22 dX7_machine_21 rfl 0 rfl rfl ?_
      refine ax_getr 3 25 dX7_machine_22 fg_X7_26 rfl (by decide) rfl ?_
      refine ax_iload_n 26 dX7_machine_25 rfl 1 rfl rfl ?_
      refine ax_iload_n 27 dX7_machine_26 rfl 2 rfl rfl ?_
      obtain ⟨r11, S10, e9, hf⟩ := ux_bi_e hf
      refine ax_callVi 30 [.int p0, .int p1] dX7_machine_27 fv_X7_166 (m_X4_add e9) (by decide) rfl rfl (by decide) rfl rfl (Nat.le_of_ble_eq_true rfl) rfl ?_
      refine ax_goto 34 dX7_machine_30 (by decide) ?_
      exact ax_iret dX7_machine_34 hf
def f_X7_leave (S : ux_S) : Option (Int32 × ux_S) :=
  if S.1 3 2 = 0 then (some ((-4), S)) else (some ((ux_i S 3 2 ((S.1 3 2) - (1 : Int32))).1 3 2, ux_i S 3 2 ((S.1 3 2) - (1 : Int32))))
set_option maxHeartbeats 2000000 in
set_option maxRecDepth 10000 in
theorem m_X7_leave {l : Launch} {G : ux_G} {S : ux_S} {r : Int32} {Z : ux_S} (hf : f_X7_leave S = some (r, Z)) : ux_M l G yX7_leave cX7_leave 1 (some .int) 1 [.ref (ux_a G 0)] S (some (.int r)) Z := by
  refine ux_of (by decide) (Nat.le_of_ble_eq_true rfl) ?_
  show ux_At l G RX7 cX7_leave 1 (some .int) 1 (some (.int r)) Z 0 [(0, .ref (ux_a G 0))] [] S
  unfold f_X7_leave at hf
  refine ax_aload_n 1 dX7_leave_0 rfl 0 rfl rfl ?_
  refine ax_getr 3 4 dX7_leave_1 fg_X7_26 rfl (by decide) rfl ?_
  refine ax_geti 7 dX7_leave_4 fg_X7_168 rfl rfl ?_
  refine ax_if_ne 13 10 dX7_leave_7 (by decide) rfl (fun c1 => ?_) (fun c1 => ?_)
  · have hf := ux_iff c1 hf
    refine ax_aload_n 14 dX7_leave_13 rfl 0 rfl rfl ?_
    refine ax_getr 3 17 dX7_leave_14 fg_X7_26 rfl (by decide) rfl ?_
    refine ax_dup 18 dX7_leave_17 rfl rfl ?_
    refine ax_geti 21 dX7_leave_18 fg_X7_168 rfl rfl ?_
    refine ax_iconst (v := 1) 22 dX7_leave_21 (by decide) rfl ?_
    refine ax_isub 23 dX7_leave_22 rfl ?_
    refine ax_put 26 dX7_leave_23 fp_X7_168 rfl ?_
    refine ax_aload_n 27 dX7_leave_26 rfl 0 rfl rfl ?_
    refine ax_getr 3 30 dX7_leave_27 fg_X7_26 rfl (by decide) rfl ?_
    refine ax_geti 33 dX7_leave_30 fg_X7_168 rfl rfl ?_
    exact ax_iret dX7_leave_33 hf
  · have hf := ux_ift c1 hf
    refine ax_bipush (v := (-4)) 12 dX7_leave_10 (by decide) rfl ?_
    exact ax_iret dX7_leave_12 hf
def f_X7_placed (n : Nat) (S : ux_S) (p0 : Int32) : Option (Int32 × ux_S) :=
  if p0 < 0 then (some ((-1), S)) else (if p0 < S.1 3 2 then (ux_bi (f_X4_leastWarmth n S ) (fun r5 S4 => if r5 = (-4) then (some ((-4), S4)) else (ux_gd (ux_ib p0 5) (some (S4.1 25 p0.toNatClampNeg, S4))))) else (some ((-1), S)))
set_option maxHeartbeats 2000000 in
set_option maxRecDepth 10000 in
theorem m_X7_placed {l : Launch} {G : ux_G} {n : Nat} {S : ux_S} {p0 : Int32} {r : Int32} {Z : ux_S} (hf : f_X7_placed n S p0 = some (r, Z)) : ux_M l G yX7_placed cX7_placed 2 (some .int) 12 [.ref (ux_a G 0), .int p0] S (some (.int r)) Z := by
  refine ux_of (by decide) (Nat.le_of_ble_eq_true rfl) ?_
  show ux_At l G RX7 cX7_placed 2 (some .int) 12 (some (.int r)) Z 0 [(0, .ref (ux_a G 0)), (1, .int p0)] [] S
  unfold f_X7_placed at hf
  refine ax_iload_n 1 dX7_placed_0 rfl 1 rfl rfl ?_
  refine ax_if_lt 15 4 dX7_placed_1 (by decide) rfl (fun c1 => ?_) (fun c1 => ?_)
  · have hf := ux_ift c1 hf
    refine ax_iconst (v := (-1)) 16 dX7_placed_15 (by decide) rfl ?_
    exact ax_iret dX7_placed_16 hf
  · have hf := ux_iff c1 hf
    refine ax_iload_n 5 dX7_placed_4 rfl 1 rfl rfl ?_
    refine ax_aload_n 6 dX7_placed_5 rfl 0 rfl rfl ?_
    refine ax_getr 3 9 dX7_placed_6 fg_X7_26 rfl (by decide) rfl ?_
    refine ax_geti 12 dX7_placed_9 fg_X7_168 rfl rfl ?_
    refine ax_icmp_lt 17 15 dX7_placed_12 (by decide) rfl (fun c2 => ?_) (fun c2 => ?_)
    · have hf := ux_ift c2 hf
      refine ax_aload_n 18 dX7_placed_17 rfl 0 rfl rfl ?_
      refine ax_getr 3 21 dX7_placed_18 fg_X7_26 rfl (by decide) rfl ?_
      refine ax_aload_n 22 dX7_placed_21 rfl 0 rfl rfl ?_
      refine ax_getr 1 25 dX7_placed_22 fg_X7_10 rfl (by decide) rfl ?_
      obtain ⟨r5, S4, e3, hf⟩ := ux_bi_e hf
      refine ax_callVi 28 [.ref (ux_a G 1)] dX7_placed_25 fv_X7_171 (m_X4_leastWarmth e3) (by decide) rfl rfl (by decide) rfl rfl (Nat.le_of_ble_eq_true rfl) rfl ?_
      refine ax_bipush (v := (-4)) 30 dX7_placed_28 (by decide) rfl ?_
      refine ax_icmp_ne 38 33 dX7_placed_30 (by decide) rfl (fun c6 => ?_) (fun c6 => ?_)
      · have hf := ux_iff c6 hf
        refine ax_aload_n 39 dX7_placed_38 rfl 0 rfl rfl ?_
        refine ax_getr 3 42 dX7_placed_39 fg_X7_26 rfl (by decide) rfl ?_
        refine ax_getr 25 45 dX7_placed_42 fg_X7_175 rfl (by decide) rfl ?_
        refine ax_iload_n 46 dX7_placed_45 rfl 1 rfl rfl ?_
        obtain ⟨h7, hf⟩ := ux_gd_e hf
        refine ax_iald 47 dX7_placed_46 (by decide) rfl h7 rfl ?_
        exact ax_iret dX7_placed_47 hf
      · have hf := ux_ift c6 hf
        refine ax_bipush (v := (-4)) 35 dX7_placed_33 (by decide) rfl ?_
        refine ax_goto 47 dX7_placed_35 (by decide) ?_
        exact ax_iret dX7_placed_47 hf
    · have hf := ux_iff c2 hf
      refine ax_iconst (v := (-1)) 16 dX7_placed_15 (by decide) rfl ?_
      exact ax_iret dX7_placed_16 hf
def f_X7_warmest (n : Nat) (S : ux_S) : Option (Int32 × ux_S) :=
  if S.1 1 5 = 0 then (some ((-4), S)) else (ux_bi (f_X4_leastWarmth n S ) (fun r4 S3 => some (r4, S3)))
set_option maxHeartbeats 2000000 in
set_option maxRecDepth 10000 in
theorem m_X7_warmest {l : Launch} {G : ux_G} {n : Nat} {S : ux_S} {r : Int32} {Z : ux_S} (hf : f_X7_warmest n S = some (r, Z)) : ux_M l G yX7_warmest cX7_warmest 1 (some .int) 12 [.ref (ux_a G 0)] S (some (.int r)) Z := by
  refine ux_of (by decide) (Nat.le_of_ble_eq_true rfl) ?_
  show ux_At l G RX7 cX7_warmest 1 (some .int) 12 (some (.int r)) Z 0 [(0, .ref (ux_a G 0))] [] S
  unfold f_X7_warmest at hf
  refine ax_aload_n 1 dX7_warmest_0 rfl 0 rfl rfl ?_
  refine ax_getr 1 4 dX7_warmest_1 fg_X7_10 rfl (by decide) rfl ?_
  refine ax_geti 7 dX7_warmest_4 fg_X7_105 rfl rfl ?_
  refine ax_if_ne 15 10 dX7_warmest_7 (by decide) rfl (fun c1 => ?_) (fun c1 => ?_)
  · have hf := ux_iff c1 hf
    refine ax_aload_n 16 dX7_warmest_15 rfl 0 rfl rfl ?_
    refine ax_getr 3 19 dX7_warmest_16 fg_X7_26 rfl (by decide) rfl ?_
    refine ax_aload_n 20 dX7_warmest_19 rfl 0 rfl rfl ?_
    refine ax_getr 1 23 dX7_warmest_20 fg_X7_10 rfl (by decide) rfl ?_
    obtain ⟨r4, S3, e2, hf⟩ := ux_bi_e hf
    refine ax_callVi 26 [.ref (ux_a G 1)] dX7_warmest_23 fv_X7_171 (m_X4_leastWarmth e2) (by decide) rfl rfl (by decide) rfl rfl (Nat.le_of_ble_eq_true rfl) rfl ?_
    exact ax_iret dX7_warmest_26 hf
  · have hf := ux_ift c1 hf
    refine ax_bipush (v := (-4)) 12 dX7_warmest_10 (by decide) rfl ?_
    refine ax_goto 26 dX7_warmest_12 (by decide) ?_
    exact ax_iret dX7_warmest_26 hf
def f_X7_placings (n : Nat) (S : ux_S) : Option (Int32 × ux_S) :=
  ux_bi (f_X4_countAll n S ) (fun r3 S2 => some (r3, S2))
set_option maxHeartbeats 2000000 in
set_option maxRecDepth 10000 in
theorem m_X7_placings {l : Launch} {G : ux_G} {n : Nat} {S : ux_S} {r : Int32} {Z : ux_S} (hf : f_X7_placings n S = some (r, Z)) : ux_M l G yX7_placings cX7_placings 1 (some .int) 9 [.ref (ux_a G 0)] S (some (.int r)) Z := by
  refine ux_of (by decide) (Nat.le_of_ble_eq_true rfl) ?_
  show ux_At l G RX7 cX7_placings 1 (some .int) 9 (some (.int r)) Z 0 [(0, .ref (ux_a G 0))] [] S
  unfold f_X7_placings at hf
  refine ax_aload_n 1 dX7_placings_0 rfl 0 rfl rfl ?_
  refine ax_getr 3 4 dX7_placings_1 fg_X7_26 rfl (by decide) rfl ?_
  refine ax_aload_n 5 dX7_placings_4 rfl 0 rfl rfl ?_
  refine ax_getr 1 8 dX7_placings_5 fg_X7_10 rfl (by decide) rfl ?_
  obtain ⟨r3, S2, e1, hf⟩ := ux_bi_e hf
  refine ax_callVi 11 [.ref (ux_a G 1)] dX7_placings_8 fv_X7_178 (m_X4_countAll e1) (by decide) rfl rfl (by decide) rfl rfl (Nat.le_of_ble_eq_true rfl) rfl ?_
  exact ax_iret dX7_placings_11 hf
def b_X7_feed_33 (n : Nat) (p0 : Int32) (p1 : Int32) (t0 : Int32) (S : ux_S) : Option (Int32 × ux_S) :=
  if t0 = 0 then (some ((-1), S)) else (ux_bi (f_X1_add S p0 p1) (fun r9 S8 => some (r9, S8)))
set_option maxHeartbeats 2000000 in
set_option maxRecDepth 10000 in
theorem w_X7_feed_33 {l : Launch} {G : ux_G} {n : Nat} {p0 : Int32} {p1 : Int32} {r : Int32} {Z : ux_S} : ∀ (t0 : Int32) (S : ux_S), b_X7_feed_33 n p0 p1 t0 S = some (r, Z) → ux_At l G RX7 cX7_feed 4 (some .int) 2 (some (.int r)) Z 33 [(0, .ref (ux_a G 0)), (1, .int p0), (2, .int p1)] [.int t0] S := by
  intro t0 S hf
  unfold b_X7_feed_33 at hf
  refine ax_istore_n 34 dX7_feed_33 rfl (by decide) [1, 2, 3, 0] [(0, .ref (ux_a G 0)), (1, .int p0), (2, .int p1), (3, .int t0)] rfl rfl ?_
  refine ax_iload_n 35 dX7_feed_34 rfl 3 rfl rfl ?_
  refine ax_if_eq 50 38 dX7_feed_35 (by decide) rfl (fun c6 => ?_) (fun c6 => ?_)
  · have hf := ux_ift c6 hf
    refine ax_iconst (v := (-1)) 51 dX7_feed_50 (by decide) rfl ?_
    exact ax_iret dX7_feed_51 hf
  · have hf := ux_iff c6 hf
    refine ax_aload_n 39 dX7_feed_38 rfl 0 rfl rfl ?_
    refine ax_getr 5 42 dX7_feed_39 fg_X7_40 rfl (by decide) rfl ?_
    refine ax_iload_n 43 dX7_feed_42 rfl 1 rfl rfl ?_
    refine ax_iload_n 44 dX7_feed_43 rfl 2 rfl rfl ?_
    obtain ⟨r9, S8, e7, hf⟩ := ux_bi_e hf
    refine ax_callVi 47 [.int p0, .int p1] dX7_feed_44 fv_X7_182 (m_X1_add e7) (by decide) rfl rfl (by decide) rfl rfl (Nat.le_of_ble_eq_true rfl) rfl ?_
    refine ax_goto 51 dX7_feed_47 (by decide) ?_
    exact ax_iret dX7_feed_51 hf
def b_X7_feed_32 (n : Nat) (p0 : Int32) (p1 : Int32) (S : ux_S) : Option (Int32 × ux_S) :=
  b_X7_feed_33 n p0 p1 0 S
set_option maxHeartbeats 2000000 in
set_option maxRecDepth 10000 in
theorem w_X7_feed_32 {l : Launch} {G : ux_G} {n : Nat} {p0 : Int32} {p1 : Int32} {r : Int32} {Z : ux_S} : ∀ (S : ux_S), b_X7_feed_32 n p0 p1  S = some (r, Z) → ux_At l G RX7 cX7_feed 4 (some .int) 2 (some (.int r)) Z 32 [(0, .ref (ux_a G 0)), (1, .int p0), (2, .int p1)] [] S := by
  intro  S hf
  unfold b_X7_feed_32 at hf
  refine ax_iconst (v := 0) 33 dX7_feed_32 (by decide) rfl ?_
  exact ax_sub [0, 1, 2] rfl (w_X7_feed_33 0 S hf)
def b_X7_feed_17 (n : Nat) (p0 : Int32) (p1 : Int32) (S : ux_S) : Option (Int32 × ux_S) :=
  ux_bi (f_X7_within S p1 0 10000) (fun r4 S3 => if r4 = 0 then (b_X7_feed_32 n p0 p1 S3) else (b_X7_feed_33 n p0 p1 1 S3))
set_option maxHeartbeats 2000000 in
set_option maxRecDepth 10000 in
theorem w_X7_feed_17 {l : Launch} {G : ux_G} {n : Nat} {p0 : Int32} {p1 : Int32} {r : Int32} {Z : ux_S} : ∀ (S : ux_S), b_X7_feed_17 n p0 p1  S = some (r, Z) → ux_At l G RX7 cX7_feed 4 (some .int) 2 (some (.int r)) Z 17 [(0, .ref (ux_a G 0)), (1, .int p0), (2, .int p1)] [] S := by
  intro  S hf
  unfold b_X7_feed_17 at hf
  refine ax_iload_n 18 dX7_feed_17 rfl 2 rfl rfl ?_
  refine ax_iconst (v := 0) 19 dX7_feed_18 (by decide) rfl ?_
  refine ax_sipush (v := 10000) 22 dX7_feed_19 (by decide) rfl ?_
  obtain ⟨r4, S3, e2, hf⟩ := ux_bi_e hf
  refine ax_callSi 25 [.int p1, .int 0, .int 10000] dX7_feed_22 fs_X7_58 (m_X7_within e2) (by decide) rfl rfl (Nat.le_of_ble_eq_true rfl) rfl ?_
  refine ax_if_eq 32 28 dX7_feed_25 (by decide) rfl (fun c5 => ?_) (fun c5 => ?_)
  · have hf := ux_ift c5 hf
    exact ax_sub [0, 1, 2] rfl (w_X7_feed_32 S3 hf)
  · have hf := ux_iff c5 hf
    refine ax_iconst (v := 1) 29 dX7_feed_28 (by decide) rfl ?_
    refine ax_goto 33 dX7_feed_29 (by decide) ?_
    exact ax_sub [0, 1, 2] rfl (w_X7_feed_33 1 S3 hf)
def f_X7_feed (n : Nat) (S : ux_S) (p0 : Int32) (p1 : Int32) : Option (Int32 × ux_S) :=
  if p0 = (-4) then (b_X7_feed_17 n p0 p1 S) else (ux_bi (f_X1_has S p0) (fun r12 S11 => if r12 = 0 then (b_X7_feed_32 n p0 p1 S11) else (b_X7_feed_17 n p0 p1 S11)))
set_option maxHeartbeats 2000000 in
set_option maxRecDepth 10000 in
theorem m_X7_feed {l : Launch} {G : ux_G} {n : Nat} {S : ux_S} {p0 : Int32} {p1 : Int32} {r : Int32} {Z : ux_S} (hf : f_X7_feed n S p0 p1 = some (r, Z)) : ux_M l G yX7_feed cX7_feed 4 (some .int) 2 [.ref (ux_a G 0), .int p0, .int p1] S (some (.int r)) Z := by
  refine ux_of (by decide) (Nat.le_of_ble_eq_true rfl) ?_
  show ux_At l G RX7 cX7_feed 4 (some .int) 2 (some (.int r)) Z 0 [(0, .ref (ux_a G 0)), (1, .int p0), (2, .int p1)] [] S
  unfold f_X7_feed at hf
  refine ax_iload_n 1 dX7_feed_0 rfl 1 rfl rfl ?_
  refine ax_bipush (v := (-4)) 3 dX7_feed_1 (by decide) rfl ?_
  refine ax_icmp_eq 17 6 dX7_feed_3 (by decide) rfl (fun c1 => ?_) (fun c1 => ?_)
  · have hf := ux_ift c1 hf
    exact ax_sub [0, 1, 2] rfl (w_X7_feed_17 S hf)
  · have hf := ux_iff c1 hf
    refine ax_aload_n 7 dX7_feed_6 rfl 0 rfl rfl ?_
    refine ax_getr 5 10 dX7_feed_7 fg_X7_40 rfl (by decide) rfl ?_
    refine ax_iload_n 11 dX7_feed_10 rfl 1 rfl rfl ?_
    obtain ⟨r12, S11, e10, hf⟩ := ux_bi_e hf
    refine ax_callVi 14 [.int p0] dX7_feed_11 fv_X7_181 (m_X1_has e10) (by decide) rfl rfl (by decide) rfl rfl (Nat.le_of_ble_eq_true rfl) rfl ?_
    refine ax_if_eq 32 17 dX7_feed_14 (by decide) rfl (fun c13 => ?_) (fun c13 => ?_)
    · have hf := ux_ift c13 hf
      exact ax_sub [0, 1, 2] rfl (w_X7_feed_32 S11 hf)
    · have hf := ux_iff c13 hf
      exact ax_sub [0, 1, 2] rfl (w_X7_feed_17 S11 hf)
def b_X7_plug_65 (n : Nat) (p0 : Int32) (p1 : Int32) (p2 : Int32) (S : ux_S) : Option (Int32 × ux_S) :=
  ux_gd (ux_ib p1 2) (ux_gd (ux_ib p0 8) (ux_gd (ux_ib p1 2) (ux_gd (ux_ib p0 8) (some (S.1 (44 + 1 + p1.toNatClampNeg) p0.toNatClampNeg, ux_i S (44 + 1 + p1.toNatClampNeg) p0.toNatClampNeg p2)))))
set_option maxHeartbeats 2000000 in
set_option maxRecDepth 10000 in
theorem w_X7_plug_65 {l : Launch} {G : ux_G} {n : Nat} {p0 : Int32} {p1 : Int32} {p2 : Int32} {r : Int32} {Z : ux_S} : ∀ (S : ux_S), b_X7_plug_65 n p0 p1 p2  S = some (r, Z) → ux_At l G RX7 cX7_plug 5 (some .int) 2 (some (.int r)) Z 65 [(0, .ref (ux_a G 0)), (1, .int p0), (2, .int p1), (3, .int p2)] [] S := by
  intro  S hf
  unfold b_X7_plug_65 at hf
  refine ax_aload_n 66 dX7_plug_65 rfl 0 rfl rfl ?_
  refine ax_getr 5 69 dX7_plug_66 fg_X7_40 rfl (by decide) rfl ?_
  refine ax_getr 44 72 dX7_plug_69 fg_X7_183 rfl (by decide) rfl ?_
  refine ax_iload_n 73 dX7_plug_72 rfl 2 rfl rfl ?_
  obtain ⟨h11, hf⟩ := ux_gd_e hf
  refine ax_aaldI 74 dX7_plug_73 (by decide) rfl h11 rfl ?_
  refine ax_iload_n 75 dX7_plug_74 rfl 1 rfl rfl ?_
  obtain ⟨h12, hf⟩ := ux_gd_e hf
  refine ax_iald 76 dX7_plug_75 (ux_row44 h11).1 (ux_row44 h11).2 h12 rfl ?_
  refine ax_istore 78 dX7_plug_76 (by decide) [1, 2, 3, 4, 0] [(0, .ref (ux_a G 0)), (1, .int p0), (2, .int p1), (3, .int p2), (4, .int (S.1 (44 + 1 + p1.toNatClampNeg) p0.toNatClampNeg))] rfl rfl ?_
  refine ax_aload_n 79 dX7_plug_78 rfl 0 rfl rfl ?_
  refine ax_getr 5 82 dX7_plug_79 fg_X7_40 rfl (by decide) rfl ?_
  refine ax_getr 44 85 dX7_plug_82 fg_X7_183 rfl (by decide) rfl ?_
  refine ax_iload_n 86 dX7_plug_85 rfl 2 rfl rfl ?_
  obtain ⟨h13, hf⟩ := ux_gd_e hf
  refine ax_aaldI 87 dX7_plug_86 (by decide) rfl h13 rfl ?_
  refine ax_iload_n 88 dX7_plug_87 rfl 1 rfl rfl ?_
  refine ax_iload_n 89 dX7_plug_88 rfl 3 rfl rfl ?_
  obtain ⟨h14, hf⟩ := ux_gd_e hf
  refine ax_iast 90 dX7_plug_89 (ux_row44 h13).1 (ux_row44 h13).2 h14 rfl ?_
  refine ax_iload 92 dX7_plug_90 4 rfl rfl ?_
  exact ax_iret dX7_plug_92 hf
def b_X7_plug_39 (n : Nat) (p0 : Int32) (p1 : Int32) (p2 : Int32) (S : ux_S) : Option (Int32 × ux_S) :=
  if p2 = (-4) then (b_X7_plug_65 n p0 p1 p2 S) else (ux_gd (ux_ib ((1 : Int32) - p1) 2) (ux_gd (ux_ib p0 8) (if S.1 (44 + 1 + ((1 : Int32) - p1).toNatClampNeg) p0.toNatClampNeg = p2 then (some ((-2), S)) else (b_X7_plug_65 n p0 p1 p2 S))))
set_option maxHeartbeats 2000000 in
set_option maxRecDepth 10000 in
theorem w_X7_plug_39 {l : Launch} {G : ux_G} {n : Nat} {p0 : Int32} {p1 : Int32} {p2 : Int32} {r : Int32} {Z : ux_S} : ∀ (S : ux_S), b_X7_plug_39 n p0 p1 p2  S = some (r, Z) → ux_At l G RX7 cX7_plug 5 (some .int) 2 (some (.int r)) Z 39 [(0, .ref (ux_a G 0)), (1, .int p0), (2, .int p1), (3, .int p2)] [] S := by
  intro  S hf
  unfold b_X7_plug_39 at hf
  refine ax_iload_n 40 dX7_plug_39 rfl 3 rfl rfl ?_
  refine ax_bipush (v := (-4)) 42 dX7_plug_40 (by decide) rfl ?_
  refine ax_icmp_eq 65 45 dX7_plug_42 (by decide) rfl (fun c10 => ?_) (fun c10 => ?_)
  · have hf := ux_ift c10 hf
    exact ax_sub [0, 1, 2, 3] rfl (w_X7_plug_65 S hf)
  · have hf := ux_iff c10 hf
    refine ax_aload_n 46 dX7_plug_45 rfl 0 rfl rfl ?_
    refine ax_getr 5 49 dX7_plug_46 fg_X7_40 rfl (by decide) rfl ?_
    refine ax_getr 44 52 dX7_plug_49 fg_X7_183 rfl (by decide) rfl ?_
    refine ax_iconst (v := 1) 53 dX7_plug_52 (by decide) rfl ?_
    refine ax_iload_n 54 dX7_plug_53 rfl 2 rfl rfl ?_
    refine ax_isub 55 dX7_plug_54 rfl ?_
    obtain ⟨h15, hf⟩ := ux_gd_e hf
    refine ax_aaldI 56 dX7_plug_55 (by decide) rfl h15 rfl ?_
    refine ax_iload_n 57 dX7_plug_56 rfl 1 rfl rfl ?_
    obtain ⟨h16, hf⟩ := ux_gd_e hf
    refine ax_iald 58 dX7_plug_57 (ux_row44 h15).1 (ux_row44 h15).2 h16 rfl ?_
    refine ax_iload_n 59 dX7_plug_58 rfl 3 rfl rfl ?_
    refine ax_icmp_ne 65 62 dX7_plug_59 (by decide) rfl (fun c17 => ?_) (fun c17 => ?_)
    · have hf := ux_iff c17 hf
      exact ax_sub [0, 1, 2, 3] rfl (w_X7_plug_65 S hf)
    · have hf := ux_ift c17 hf
      refine ax_bipush (v := (-2)) 64 dX7_plug_62 (by decide) rfl ?_
      exact ax_iret dX7_plug_64 hf
def f_X7_plug (n : Nat) (S : ux_S) (p0 : Int32) (p1 : Int32) (p2 : Int32) : Option (Int32 × ux_S) :=
  ux_bi (f_X2_has S p0) (fun r3 S2 => if r3 = 0 then (some ((-1), S2)) else (ux_bi (f_X7_within S2 p1 0 1) (fun r7 S6 => if r7 = 0 then (some ((-1), S6)) else (if p2 = (-4) then (b_X7_plug_39 n p0 p1 p2 S6) else (ux_bi (f_X1_has S6 p2) (fun r20 S19 => if r20 = 0 then (some ((-1), S19)) else (b_X7_plug_39 n p0 p1 p2 S19)))))))
set_option maxHeartbeats 2000000 in
set_option maxRecDepth 10000 in
theorem m_X7_plug {l : Launch} {G : ux_G} {n : Nat} {S : ux_S} {p0 : Int32} {p1 : Int32} {p2 : Int32} {r : Int32} {Z : ux_S} (hf : f_X7_plug n S p0 p1 p2 = some (r, Z)) : ux_M l G yX7_plug cX7_plug 5 (some .int) 2 [.ref (ux_a G 0), .int p0, .int p1, .int p2] S (some (.int r)) Z := by
  refine ux_of (by decide) (Nat.le_of_ble_eq_true rfl) ?_
  show ux_At l G RX7 cX7_plug 5 (some .int) 2 (some (.int r)) Z 0 [(0, .ref (ux_a G 0)), (1, .int p0), (2, .int p1), (3, .int p2)] [] S
  unfold f_X7_plug at hf
  refine ax_aload_n 1 dX7_plug_0 rfl 0 rfl rfl ?_
  refine ax_getr 1 4 dX7_plug_1 fg_X7_10 rfl (by decide) rfl ?_
  refine ax_iload_n 5 dX7_plug_4 rfl 1 rfl rfl ?_
  obtain ⟨r3, S2, e1, hf⟩ := ux_bi_e hf
  refine ax_callVi 8 [.int p0] dX7_plug_5 fv_X7_67 (m_X2_has e1) (by decide) rfl rfl (by decide) rfl rfl (Nat.le_of_ble_eq_true rfl) rfl ?_
  refine ax_if_eq 37 11 dX7_plug_8 (by decide) rfl (fun c4 => ?_) (fun c4 => ?_)
  · have hf := ux_ift c4 hf
    refine ax_iconst (v := (-1)) 38 dX7_plug_37 (by decide) rfl ?_
    exact ax_iret dX7_plug_38 hf
  · have hf := ux_iff c4 hf
    refine ax_iload_n 12 dX7_plug_11 rfl 2 rfl rfl ?_
    refine ax_iconst (v := 0) 13 dX7_plug_12 (by decide) rfl ?_
    refine ax_iconst (v := 1) 14 dX7_plug_13 (by decide) rfl ?_
    obtain ⟨r7, S6, e5, hf⟩ := ux_bi_e hf
    refine ax_callSi 17 [.int p1, .int 0, .int 1] dX7_plug_14 fs_X7_58 (m_X7_within e5) (by decide) rfl rfl (Nat.le_of_ble_eq_true rfl) rfl ?_
    refine ax_if_eq 37 20 dX7_plug_17 (by decide) rfl (fun c8 => ?_) (fun c8 => ?_)
    · have hf := ux_ift c8 hf
      refine ax_iconst (v := (-1)) 38 dX7_plug_37 (by decide) rfl ?_
      exact ax_iret dX7_plug_38 hf
    · have hf := ux_iff c8 hf
      refine ax_iload_n 21 dX7_plug_20 rfl 3 rfl rfl ?_
      refine ax_bipush (v := (-4)) 23 dX7_plug_21 (by decide) rfl ?_
      refine ax_icmp_eq 39 26 dX7_plug_23 (by decide) rfl (fun c9 => ?_) (fun c9 => ?_)
      · have hf := ux_ift c9 hf
        exact ax_sub [0, 1, 2, 3] rfl (w_X7_plug_39 S6 hf)
      · have hf := ux_iff c9 hf
        refine ax_aload_n 27 dX7_plug_26 rfl 0 rfl rfl ?_
        refine ax_getr 5 30 dX7_plug_27 fg_X7_40 rfl (by decide) rfl ?_
        refine ax_iload_n 31 dX7_plug_30 rfl 3 rfl rfl ?_
        obtain ⟨r20, S19, e18, hf⟩ := ux_bi_e hf
        refine ax_callVi 34 [.int p2] dX7_plug_31 fv_X7_181 (m_X1_has e18) (by decide) rfl rfl (by decide) rfl rfl (Nat.le_of_ble_eq_true rfl) rfl ?_
        refine ax_if_ne 39 37 dX7_plug_34 (by decide) rfl (fun c21 => ?_) (fun c21 => ?_)
        · have hf := ux_iff c21 hf
          exact ax_sub [0, 1, 2, 3] rfl (w_X7_plug_39 S19 hf)
        · have hf := ux_ift c21 hf
          refine ax_iconst (v := (-1)) 38 dX7_plug_37 (by decide) rfl ?_
          exact ax_iret dX7_plug_38 hf
def f_X7_fail (S : ux_S) (p0 : Int32) (p1 : Int32) : Option (Int32 × ux_S) :=
  ux_bi (f_X1_has S p0) (fun r3 S2 => if r3 = 0 then (some ((-1), S2)) else (if p1 = 0 then (some (((S2.1 5 5) >>> (p0 &&& 31)) &&& (1 : Int32), ux_i S2 5 5 ((S2.1 5 5) &&& (((1 : Int32) <<< (p0 &&& 31)) ^^^ ((-1) : Int32))))) else (some (((S2.1 5 5) >>> (p0 &&& 31)) &&& (1 : Int32), ux_i S2 5 5 ((S2.1 5 5) ||| ((1 : Int32) <<< (p0 &&& 31)))))))
set_option maxHeartbeats 2000000 in
set_option maxRecDepth 10000 in
theorem m_X7_fail {l : Launch} {G : ux_G} {S : ux_S} {p0 : Int32} {p1 : Int32} {r : Int32} {Z : ux_S} (hf : f_X7_fail S p0 p1 = some (r, Z)) : ux_M l G yX7_fail cX7_fail 4 (some .int) 2 [.ref (ux_a G 0), .int p0, .int p1] S (some (.int r)) Z := by
  refine ux_of (by decide) (Nat.le_of_ble_eq_true rfl) ?_
  show ux_At l G RX7 cX7_fail 4 (some .int) 2 (some (.int r)) Z 0 [(0, .ref (ux_a G 0)), (1, .int p0), (2, .int p1)] [] S
  unfold f_X7_fail at hf
  refine ax_aload_n 1 dX7_fail_0 rfl 0 rfl rfl ?_
  refine ax_getr 5 4 dX7_fail_1 fg_X7_40 rfl (by decide) rfl ?_
  refine ax_iload_n 5 dX7_fail_4 rfl 1 rfl rfl ?_
  obtain ⟨r3, S2, e1, hf⟩ := ux_bi_e hf
  refine ax_callVi 8 [.int p0] dX7_fail_5 fv_X7_181 (m_X1_has e1) (by decide) rfl rfl (by decide) rfl rfl (Nat.le_of_ble_eq_true rfl) rfl ?_
  refine ax_if_ne 13 11 dX7_fail_8 (by decide) rfl (fun c4 => ?_) (fun c4 => ?_)
  · have hf := ux_iff c4 hf
    refine ax_aload_n 14 dX7_fail_13 rfl 0 rfl rfl ?_
    refine ax_getr 5 17 dX7_fail_14 fg_X7_40 rfl (by decide) rfl ?_
    refine ax_geti 20 dX7_fail_17 fg_X7_186 rfl rfl ?_
    refine ax_iload_n 21 dX7_fail_20 rfl 1 rfl rfl ?_
    refine ax_ishr 22 dX7_fail_21 rfl ?_
    refine ax_iconst (v := 1) 23 dX7_fail_22 (by decide) rfl ?_
    refine ax_iand 24 dX7_fail_23 rfl ?_
    refine ax_istore_n 25 dX7_fail_24 rfl (by decide) [1, 2, 3, 0] [(0, .ref (ux_a G 0)), (1, .int p0), (2, .int p1), (3, .int (((S2.1 5 5) >>> (p0 &&& 31)) &&& (1 : Int32)))] rfl rfl ?_
    refine ax_aload_n 26 dX7_fail_25 rfl 0 rfl rfl ?_
    refine ax_getr 5 29 dX7_fail_26 fg_X7_40 rfl (by decide) rfl ?_
    refine ax_iload_n 30 dX7_fail_29 rfl 2 rfl rfl ?_
    refine ax_if_eq 47 33 dX7_fail_30 (by decide) rfl (fun c5 => ?_) (fun c5 => ?_)
    · have hf := ux_ift c5 hf
      refine ax_aload_n 48 dX7_fail_47 rfl 0 rfl rfl ?_
      refine ax_getr 5 51 dX7_fail_48 fg_X7_40 rfl (by decide) rfl ?_
      refine ax_geti 54 dX7_fail_51 fg_X7_186 rfl rfl ?_
      refine ax_iconst (v := 1) 55 dX7_fail_54 (by decide) rfl ?_
      refine ax_iload_n 56 dX7_fail_55 rfl 1 rfl rfl ?_
      refine ax_ishl 57 dX7_fail_56 rfl ?_
      refine ax_iconst (v := (-1)) 58 dX7_fail_57 (by decide) rfl ?_
      refine ax_ixor 59 dX7_fail_58 rfl ?_
      refine ax_iand 60 dX7_fail_59 rfl ?_
      refine ax_put 63 dX7_fail_60 fp_X7_186 rfl ?_
      refine ax_iload_n 64 dX7_fail_63 rfl 3 rfl rfl ?_
      exact ax_iret dX7_fail_64 hf
    · have hf := ux_iff c5 hf
      refine ax_aload_n 34 dX7_fail_33 rfl 0 rfl rfl ?_
      refine ax_getr 5 37 dX7_fail_34 fg_X7_40 rfl (by decide) rfl ?_
      refine ax_geti 40 dX7_fail_37 fg_X7_186 rfl rfl ?_
      refine ax_iconst (v := 1) 41 dX7_fail_40 (by decide) rfl ?_
      refine ax_iload_n 42 dX7_fail_41 rfl 1 rfl rfl ?_
      refine ax_ishl 43 dX7_fail_42 rfl ?_
      refine ax_ior 44 dX7_fail_43 rfl ?_
      refine ax_goto 60 dX7_fail_44 (by decide) ?_
      refine ax_put 63 dX7_fail_60 fp_X7_186 rfl ?_
      refine ax_iload_n 64 dX7_fail_63 rfl 3 rfl rfl ?_
      exact ax_iret dX7_fail_64 hf
  · have hf := ux_ift c4 hf
    refine ax_iconst (v := (-1)) 12 dX7_fail_11 (by decide) rfl ?_
    exact ax_iret dX7_fail_12 hf
def f_X7_through (n : Nat) (S : ux_S) (p0 : Int32) : Option (Int32 × ux_S) :=
  ux_bi (f_X1_has S p0) (fun r3 S2 => if r3 = 0 then (some ((-1), S2)) else (ux_bi (f_X1_dead n S2 (S2.1 5 5)) (fun r7 S6 => ux_bv (f_X1_flow n S6 r7) (fun S9 => ux_gd (ux_ib p0 16) (some (S9.1 47 p0.toNatClampNeg, S9))))))
set_option maxHeartbeats 2000000 in
set_option maxRecDepth 10000 in
theorem m_X7_through {l : Launch} {G : ux_G} {n : Nat} {S : ux_S} {p0 : Int32} {r : Int32} {Z : ux_S} (hf : f_X7_through n S p0 = some (r, Z)) : ux_M l G yX7_through cX7_through 2 (some .int) 5 [.ref (ux_a G 0), .int p0] S (some (.int r)) Z := by
  refine ux_of (by decide) (Nat.le_of_ble_eq_true rfl) ?_
  show ux_At l G RX7 cX7_through 2 (some .int) 5 (some (.int r)) Z 0 [(0, .ref (ux_a G 0)), (1, .int p0)] [] S
  unfold f_X7_through at hf
  refine ax_aload_n 1 dX7_through_0 rfl 0 rfl rfl ?_
  refine ax_getr 5 4 dX7_through_1 fg_X7_40 rfl (by decide) rfl ?_
  refine ax_iload_n 5 dX7_through_4 rfl 1 rfl rfl ?_
  obtain ⟨r3, S2, e1, hf⟩ := ux_bi_e hf
  refine ax_callVi 8 [.int p0] dX7_through_5 fv_X7_181 (m_X1_has e1) (by decide) rfl rfl (by decide) rfl rfl (Nat.le_of_ble_eq_true rfl) rfl ?_
  refine ax_if_ne 13 11 dX7_through_8 (by decide) rfl (fun c4 => ?_) (fun c4 => ?_)
  · have hf := ux_iff c4 hf
    refine ax_aload_n 14 dX7_through_13 rfl 0 rfl rfl ?_
    refine ax_getr 5 17 dX7_through_14 fg_X7_40 rfl (by decide) rfl ?_
    refine ax_aload_n 18 dX7_through_17 rfl 0 rfl rfl ?_
    refine ax_getr 5 21 dX7_through_18 fg_X7_40 rfl (by decide) rfl ?_
    refine ax_aload_n 22 dX7_through_21 rfl 0 rfl rfl ?_
    refine ax_getr 5 25 dX7_through_22 fg_X7_40 rfl (by decide) rfl ?_
    refine ax_geti 28 dX7_through_25 fg_X7_186 rfl rfl ?_
    obtain ⟨r7, S6, e5, hf⟩ := ux_bi_e hf
    refine ax_callVi 31 [.int (S2.1 5 5)] dX7_through_28 fv_X7_189 (m_X1_dead e5) (by decide) rfl rfl (by decide) rfl rfl (Nat.le_of_ble_eq_true rfl) rfl ?_
    refine ax_aload_n 32 dX7_through_31 rfl 0 rfl rfl ?_
    refine ax_getr 1 35 dX7_through_32 fg_X7_10 rfl (by decide) rfl ?_
    obtain ⟨S9, e8, hf⟩ := ux_bv_e hf
    refine ax_callVv 38 [.int r7, .ref (ux_a G 1)] dX7_through_35 fv_X7_192 (m_X1_flow e8) (by decide) rfl rfl (by decide) rfl rfl (Nat.le_of_ble_eq_true rfl) rfl ?_
    refine ax_aload_n 39 dX7_through_38 rfl 0 rfl rfl ?_
    refine ax_getr 5 42 dX7_through_39 fg_X7_40 rfl (by decide) rfl ?_
    refine ax_getr 47 45 dX7_through_42 fg_X7_196 rfl (by decide) rfl ?_
    refine ax_iload_n 46 dX7_through_45 rfl 1 rfl rfl ?_
    obtain ⟨h11, hf⟩ := ux_gd_e hf
    refine ax_iald 47 dX7_through_46 (by decide) rfl h11 rfl ?_
    exact ax_iret dX7_through_47 hf
  · have hf := ux_ift c4 hf
    refine ax_iconst (v := (-1)) 12 dX7_through_11 (by decide) rfl ?_
    exact ax_iret dX7_through_12 hf
def f_X7_state (n : Nat) (S : ux_S) (p0 : Int32) : Option (Int32 × ux_S) :=
  ux_bi (f_X1_dead n S (S.1 5 5)) (fun r3 S2 => if p0 = 0 then (ux_bi (f_X1_over n S2 r3) (fun r7 S6 => ux_bi (f_J6_bitCount_0f7a4 S6 r7) (fun r10 S9 => some (r10, S9)))) else (if p0 = 1 then (ux_bi (f_X1_over n S2 r3) (fun r14 S13 => ux_bi (f_X7_firstBit n S13 r14) (fun r17 S16 => some (r17, S16)))) else (if p0 = 2 then (ux_bi (f_X1_dark n S2 r3) (fun r21 S20 => ux_bi (f_J6_bitCount_0f7a4 S20 r21) (fun r24 S23 => some (r24, S23)))) else (if p0 = 3 then (ux_bi (f_X1_dark n S2 r3) (fun r28 S27 => ux_bi (f_X7_firstBit n S27 r28) (fun r31 S30 => some (r31, S30)))) else (if p0 = 4 then (ux_bi (f_J6_bitCount_0f7a4 S2 r3) (fun r35 S34 => some (r35, S34))) else (some ((-1), S2)))))))
set_option maxHeartbeats 2000000 in
set_option maxRecDepth 10000 in
theorem m_X7_state {l : Launch} {G : ux_G} {n : Nat} {S : ux_S} {p0 : Int32} {r : Int32} {Z : ux_S} (hf : f_X7_state n S p0 = some (r, Z)) : ux_M l G yX7_state cX7_state 3 (some .int) 6 [.ref (ux_a G 0), .int p0] S (some (.int r)) Z := by
  refine ux_of (by decide) (Nat.le_of_ble_eq_true rfl) ?_
  show ux_At l G RX7 cX7_state 3 (some .int) 6 (some (.int r)) Z 0 [(0, .ref (ux_a G 0)), (1, .int p0)] [] S
  unfold f_X7_state at hf
  refine ax_aload_n 1 dX7_state_0 rfl 0 rfl rfl ?_
  refine ax_getr 5 4 dX7_state_1 fg_X7_40 rfl (by decide) rfl ?_
  refine ax_aload_n 5 dX7_state_4 rfl 0 rfl rfl ?_
  refine ax_getr 5 8 dX7_state_5 fg_X7_40 rfl (by decide) rfl ?_
  refine ax_geti 11 dX7_state_8 fg_X7_186 rfl rfl ?_
  obtain ⟨r3, S2, e1, hf⟩ := ux_bi_e hf
  refine ax_callVi 14 [.int (S.1 5 5)] dX7_state_11 fv_X7_189 (m_X1_dead e1) (by decide) rfl rfl (by decide) rfl rfl (Nat.le_of_ble_eq_true rfl) rfl ?_
  refine ax_istore_n 15 dX7_state_14 rfl (by decide) [1, 2, 0] [(0, .ref (ux_a G 0)), (1, .int p0), (2, .int r3)] rfl rfl ?_
  refine ax_iload_n 16 dX7_state_15 rfl 1 rfl rfl ?_
  by_cases c4 : p0 = 0
  · have hf := ux_ift c4 hf
    refine ax_tabIn 0 52 c4 dX7_state_16 (by decide) (by decide) rfl (by decide) ?_
    refine ax_aload_n 53 dX7_state_52 rfl 0 rfl rfl ?_
    refine ax_getr 5 56 dX7_state_53 fg_X7_40 rfl (by decide) rfl ?_
    refine ax_iload_n 57 dX7_state_56 rfl 2 rfl rfl ?_
    refine ax_aload_n 58 dX7_state_57 rfl 0 rfl rfl ?_
    refine ax_getr 1 61 dX7_state_58 fg_X7_10 rfl (by decide) rfl ?_
    obtain ⟨r7, S6, e5, hf⟩ := ux_bi_e hf
    refine ax_callVi 64 [.int r3, .ref (ux_a G 1)] dX7_state_61 fv_X7_199 (m_X1_over e5) (by decide) rfl rfl (by decide) rfl rfl (Nat.le_of_ble_eq_true rfl) rfl ?_
    obtain ⟨r10, S9, e8, hf⟩ := ux_bi_e hf
    refine ax_callSi 67 [.int r7] dX7_state_64 fs_X7_203 (m_J6_bitCount_0f7a4 e8) (by decide) rfl rfl (Nat.le_of_ble_eq_true rfl) rfl ?_
    exact ax_iret dX7_state_67 hf
  have hf := ux_iff c4 hf
  by_cases c11 : p0 = 1
  · have hf := ux_ift c11 hf
    refine ax_tabIn 1 68 c11 dX7_state_16 (by decide) (by decide) rfl (by decide) ?_
    refine ax_aload_n 69 dX7_state_68 rfl 0 rfl rfl ?_
    refine ax_getr 5 72 dX7_state_69 fg_X7_40 rfl (by decide) rfl ?_
    refine ax_iload_n 73 dX7_state_72 rfl 2 rfl rfl ?_
    refine ax_aload_n 74 dX7_state_73 rfl 0 rfl rfl ?_
    refine ax_getr 1 77 dX7_state_74 fg_X7_10 rfl (by decide) rfl ?_
    obtain ⟨r14, S13, e12, hf⟩ := ux_bi_e hf
    refine ax_callVi 80 [.int r3, .ref (ux_a G 1)] dX7_state_77 fv_X7_199 (m_X1_over e12) (by decide) rfl rfl (by decide) rfl rfl (Nat.le_of_ble_eq_true rfl) rfl ?_
    obtain ⟨r17, S16, e15, hf⟩ := ux_bi_e hf
    refine ax_callSi 83 [.int r14] dX7_state_80 fs_X7_208 (m_X7_firstBit e15) (by decide) rfl rfl (Nat.le_of_ble_eq_true rfl) rfl ?_
    exact ax_iret dX7_state_83 hf
  have hf := ux_iff c11 hf
  by_cases c18 : p0 = 2
  · have hf := ux_ift c18 hf
    refine ax_tabIn 2 84 c18 dX7_state_16 (by decide) (by decide) rfl (by decide) ?_
    refine ax_aload_n 85 dX7_state_84 rfl 0 rfl rfl ?_
    refine ax_getr 5 88 dX7_state_85 fg_X7_40 rfl (by decide) rfl ?_
    refine ax_iload_n 89 dX7_state_88 rfl 2 rfl rfl ?_
    refine ax_aload_n 90 dX7_state_89 rfl 0 rfl rfl ?_
    refine ax_getr 1 93 dX7_state_90 fg_X7_10 rfl (by decide) rfl ?_
    obtain ⟨r21, S20, e19, hf⟩ := ux_bi_e hf
    refine ax_callVi 96 [.int r3, .ref (ux_a G 1)] dX7_state_93 fv_X7_211 (m_X1_dark e19) (by decide) rfl rfl (by decide) rfl rfl (Nat.le_of_ble_eq_true rfl) rfl ?_
    obtain ⟨r24, S23, e22, hf⟩ := ux_bi_e hf
    refine ax_callSi 99 [.int r21] dX7_state_96 fs_X7_203 (m_J6_bitCount_0f7a4 e22) (by decide) rfl rfl (Nat.le_of_ble_eq_true rfl) rfl ?_
    exact ax_iret dX7_state_99 hf
  have hf := ux_iff c18 hf
  by_cases c25 : p0 = 3
  · have hf := ux_ift c25 hf
    refine ax_tabIn 3 100 c25 dX7_state_16 (by decide) (by decide) rfl (by decide) ?_
    refine ax_aload_n 101 dX7_state_100 rfl 0 rfl rfl ?_
    refine ax_getr 5 104 dX7_state_101 fg_X7_40 rfl (by decide) rfl ?_
    refine ax_iload_n 105 dX7_state_104 rfl 2 rfl rfl ?_
    refine ax_aload_n 106 dX7_state_105 rfl 0 rfl rfl ?_
    refine ax_getr 1 109 dX7_state_106 fg_X7_10 rfl (by decide) rfl ?_
    obtain ⟨r28, S27, e26, hf⟩ := ux_bi_e hf
    refine ax_callVi 112 [.int r3, .ref (ux_a G 1)] dX7_state_109 fv_X7_211 (m_X1_dark e26) (by decide) rfl rfl (by decide) rfl rfl (Nat.le_of_ble_eq_true rfl) rfl ?_
    obtain ⟨r31, S30, e29, hf⟩ := ux_bi_e hf
    refine ax_callSi 115 [.int r28] dX7_state_112 fs_X7_208 (m_X7_firstBit e29) (by decide) rfl rfl (Nat.le_of_ble_eq_true rfl) rfl ?_
    exact ax_iret dX7_state_115 hf
  have hf := ux_iff c25 hf
  by_cases c32 : p0 = 4
  · have hf := ux_ift c32 hf
    refine ax_tabIn 4 116 c32 dX7_state_16 (by decide) (by decide) rfl (by decide) ?_
    refine ax_iload_n 117 dX7_state_116 rfl 2 rfl rfl ?_
    obtain ⟨r35, S34, e33, hf⟩ := ux_bi_e hf
    refine ax_callSi 120 [.int r3] dX7_state_117 fs_X7_203 (m_J6_bitCount_0f7a4 e33) (by decide) rfl rfl (Nat.le_of_ble_eq_true rfl) rfl ?_
    exact ax_iret dX7_state_120 hf
  have hf := ux_iff c32 hf
  refine ax_tabOut 121 dX7_state_16 (ax_swOut 5 (by decide) (fun k hk => by match k, hk with | 0, _ => exact c4 | 1, _ => exact c11 | 2, _ => exact c18 | 3, _ => exact c25 | 4, _ => exact c32 | k + 5, hk => exact absurd hk (by omega))) (by decide) ?_
  refine ax_iconst (v := (-1)) 122 dX7_state_121 (by decide) rfl ?_
  exact ax_iret dX7_state_122 hf
def f_X7_weak (n : Nat) (S : ux_S) : Option (Int32 × ux_S) :=
  ux_bi (f_X1_firstWeak n S ) (fun r3 S2 => some (r3, S2))
set_option maxHeartbeats 2000000 in
set_option maxRecDepth 10000 in
theorem m_X7_weak {l : Launch} {G : ux_G} {n : Nat} {S : ux_S} {r : Int32} {Z : ux_S} (hf : f_X7_weak n S = some (r, Z)) : ux_M l G yX7_weak cX7_weak 1 (some .int) 7 [.ref (ux_a G 0)] S (some (.int r)) Z := by
  refine ux_of (by decide) (Nat.le_of_ble_eq_true rfl) ?_
  show ux_At l G RX7 cX7_weak 1 (some .int) 7 (some (.int r)) Z 0 [(0, .ref (ux_a G 0))] [] S
  unfold f_X7_weak at hf
  refine ax_aload_n 1 dX7_weak_0 rfl 0 rfl rfl ?_
  refine ax_getr 5 4 dX7_weak_1 fg_X7_40 rfl (by decide) rfl ?_
  refine ax_aload_n 5 dX7_weak_4 rfl 0 rfl rfl ?_
  refine ax_getr 1 8 dX7_weak_5 fg_X7_10 rfl (by decide) rfl ?_
  obtain ⟨r3, S2, e1, hf⟩ := ux_bi_e hf
  refine ax_callVi 11 [.ref (ux_a G 1)] dX7_weak_8 fv_X7_214 (m_X1_firstWeak e1) (by decide) rfl rfl (by decide) rfl rfl (Nat.le_of_ble_eq_true rfl) rfl ?_
  exact ax_iret dX7_weak_11 hf
def f_X7_cause (S : ux_S) (p0 : Int32) : Option (Int32 × ux_S) :=
  ux_bi (f_X7_within S p0 1 65535) (fun r3 S2 => if r3 = 0 then (some ((-1), S2)) else (ux_bi (f_X0_add S2 p0) (fun r7 S6 => some (r7, S6))))
set_option maxHeartbeats 2000000 in
set_option maxRecDepth 10000 in
theorem m_X7_cause {l : Launch} {G : ux_G} {S : ux_S} {p0 : Int32} {r : Int32} {Z : ux_S} (hf : f_X7_cause S p0 = some (r, Z)) : ux_M l G yX7_cause cX7_cause 2 (some .int) 2 [.ref (ux_a G 0), .int p0] S (some (.int r)) Z := by
  refine ux_of (by decide) (Nat.le_of_ble_eq_true rfl) ?_
  show ux_At l G RX7 cX7_cause 2 (some .int) 2 (some (.int r)) Z 0 [(0, .ref (ux_a G 0)), (1, .int p0)] [] S
  unfold f_X7_cause at hf
  refine ax_iload_n 1 dX7_cause_0 rfl 1 rfl rfl ?_
  refine ax_iconst (v := 1) 2 dX7_cause_1 (by decide) rfl ?_
  refine ax_ldc 4 dX7_cause_2 fc_X7_217 rfl ?_
  obtain ⟨r3, S2, e1, hf⟩ := ux_bi_e hf
  refine ax_callSi 7 [.int p0, .int 1, .int 65535] dX7_cause_4 fs_X7_58 (m_X7_within e1) (by decide) rfl rfl (Nat.le_of_ble_eq_true rfl) rfl ?_
  refine ax_if_eq 21 10 dX7_cause_7 (by decide) rfl (fun c4 => ?_) (fun c4 => ?_)
  · have hf := ux_ift c4 hf
    refine ax_iconst (v := (-1)) 22 dX7_cause_21 (by decide) rfl ?_
    exact ax_iret dX7_cause_22 hf
  · have hf := ux_iff c4 hf
    refine ax_aload_n 11 dX7_cause_10 rfl 0 rfl rfl ?_
    refine ax_getr 6 14 dX7_cause_11 fg_X7_47 rfl (by decide) rfl ?_
    refine ax_iload_n 15 dX7_cause_14 rfl 1 rfl rfl ?_
    obtain ⟨r7, S6, e5, hf⟩ := ux_bi_e hf
    refine ax_callVi 18 [.int p0] dX7_cause_15 fv_X7_218 (m_X0_add e5) (by decide) rfl rfl (by decide) rfl rfl (Nat.le_of_ble_eq_true rfl) rfl ?_
    refine ax_goto 22 dX7_cause_18 (by decide) ?_
    exact ax_iret dX7_cause_22 hf
def f_X7_seen (S : ux_S) (p0 : Int32) : Option (Int32 × ux_S) :=
  ux_bi (f_X7_within S p0 0 65535) (fun r3 S2 => if r3 = 0 then (some ((-1), S2)) else (some (S2.1 6 2, ux_i S2 6 2 p0)))
set_option maxHeartbeats 2000000 in
set_option maxRecDepth 10000 in
theorem m_X7_seen {l : Launch} {G : ux_G} {S : ux_S} {p0 : Int32} {r : Int32} {Z : ux_S} (hf : f_X7_seen S p0 = some (r, Z)) : ux_M l G yX7_seen cX7_seen 3 (some .int) 2 [.ref (ux_a G 0), .int p0] S (some (.int r)) Z := by
  refine ux_of (by decide) (Nat.le_of_ble_eq_true rfl) ?_
  show ux_At l G RX7 cX7_seen 3 (some .int) 2 (some (.int r)) Z 0 [(0, .ref (ux_a G 0)), (1, .int p0)] [] S
  unfold f_X7_seen at hf
  refine ax_iload_n 1 dX7_seen_0 rfl 1 rfl rfl ?_
  refine ax_iconst (v := 0) 2 dX7_seen_1 (by decide) rfl ?_
  refine ax_ldc 4 dX7_seen_2 fc_X7_217 rfl ?_
  obtain ⟨r3, S2, e1, hf⟩ := ux_bi_e hf
  refine ax_callSi 7 [.int p0, .int 0, .int 65535] dX7_seen_4 fs_X7_58 (m_X7_within e1) (by decide) rfl rfl (Nat.le_of_ble_eq_true rfl) rfl ?_
  refine ax_if_ne 12 10 dX7_seen_7 (by decide) rfl (fun c4 => ?_) (fun c4 => ?_)
  · have hf := ux_iff c4 hf
    refine ax_aload_n 13 dX7_seen_12 rfl 0 rfl rfl ?_
    refine ax_getr 6 16 dX7_seen_13 fg_X7_47 rfl (by decide) rfl ?_
    refine ax_geti 19 dX7_seen_16 fg_X7_220 rfl rfl ?_
    refine ax_istore_n 20 dX7_seen_19 rfl (by decide) [1, 2, 0] [(0, .ref (ux_a G 0)), (1, .int p0), (2, .int (S2.1 6 2))] rfl rfl ?_
    refine ax_aload_n 21 dX7_seen_20 rfl 0 rfl rfl ?_
    refine ax_getr 6 24 dX7_seen_21 fg_X7_47 rfl (by decide) rfl ?_
    refine ax_iload_n 25 dX7_seen_24 rfl 1 rfl rfl ?_
    refine ax_put 28 dX7_seen_25 fp_X7_220 rfl ?_
    refine ax_iload_n 29 dX7_seen_28 rfl 2 rfl rfl ?_
    exact ax_iret dX7_seen_29 hf
  · have hf := ux_ift c4 hf
    refine ax_iconst (v := (-1)) 11 dX7_seen_10 (by decide) rfl ?_
    exact ax_iret dX7_seen_11 hf
def f_X7_roots (n : Nat) (S : ux_S) : Option (Int32 × ux_S) :=
  ux_bi (f_X0_fewest n S ) (fun r3 S2 => some (r3, S2))
set_option maxHeartbeats 2000000 in
set_option maxRecDepth 10000 in
theorem m_X7_roots {l : Launch} {G : ux_G} {n : Nat} {S : ux_S} {r : Int32} {Z : ux_S} (hf : f_X7_roots n S = some (r, Z)) : ux_M l G yX7_roots cX7_roots 1 (some .int) 3 [.ref (ux_a G 0)] S (some (.int r)) Z := by
  refine ux_of (by decide) (Nat.le_of_ble_eq_true rfl) ?_
  show ux_At l G RX7 cX7_roots 1 (some .int) 3 (some (.int r)) Z 0 [(0, .ref (ux_a G 0))] [] S
  unfold f_X7_roots at hf
  refine ax_aload_n 1 dX7_roots_0 rfl 0 rfl rfl ?_
  refine ax_getr 6 4 dX7_roots_1 fg_X7_47 rfl (by decide) rfl ?_
  obtain ⟨r3, S2, e1, hf⟩ := ux_bi_e hf
  refine ax_callVi 7 [] dX7_roots_4 fv_X7_223 (m_X0_fewest e1) (by decide) rfl rfl (by decide) rfl rfl (Nat.le_of_ble_eq_true rfl) rfl ?_
  exact ax_iret dX7_roots_7 hf
def f_X7_strange (n : Nat) (S : ux_S) : Option (Int32 × ux_S) :=
  ux_bi (f_X0_likely n S ) (fun r3 S2 => ux_bi (f_X0_madeBy n S2 r3) (fun r6 S5 => some ((S.1 6 2) &&& (r6 ^^^ ((-1) : Int32)), S5)))
set_option maxHeartbeats 2000000 in
set_option maxRecDepth 10000 in
theorem m_X7_strange {l : Launch} {G : ux_G} {n : Nat} {S : ux_S} {r : Int32} {Z : ux_S} (hf : f_X7_strange n S = some (r, Z)) : ux_M l G yX7_strange cX7_strange 1 (some .int) 2 [.ref (ux_a G 0)] S (some (.int r)) Z := by
  refine ux_of (by decide) (Nat.le_of_ble_eq_true rfl) ?_
  show ux_At l G RX7 cX7_strange 1 (some .int) 2 (some (.int r)) Z 0 [(0, .ref (ux_a G 0))] [] S
  unfold f_X7_strange at hf
  refine ax_aload_n 1 dX7_strange_0 rfl 0 rfl rfl ?_
  refine ax_getr 6 4 dX7_strange_1 fg_X7_47 rfl (by decide) rfl ?_
  refine ax_geti 7 dX7_strange_4 fg_X7_220 rfl rfl ?_
  refine ax_aload_n 8 dX7_strange_7 rfl 0 rfl rfl ?_
  refine ax_getr 6 11 dX7_strange_8 fg_X7_47 rfl (by decide) rfl ?_
  refine ax_aload_n 12 dX7_strange_11 rfl 0 rfl rfl ?_
  refine ax_getr 6 15 dX7_strange_12 fg_X7_47 rfl (by decide) rfl ?_
  obtain ⟨r3, S2, e1, hf⟩ := ux_bi_e hf
  refine ax_callVi 18 [] dX7_strange_15 fv_X7_226 (m_X0_likely e1) (by decide) rfl rfl (by decide) rfl rfl (Nat.le_of_ble_eq_true rfl) rfl ?_
  obtain ⟨r6, S5, e4, hf⟩ := ux_bi_e hf
  refine ax_callVi 21 [.int r3] dX7_strange_18 fv_X7_229 (m_X0_madeBy e4) (by decide) rfl rfl (by decide) rfl rfl (Nat.le_of_ble_eq_true rfl) rfl ?_
  refine ax_iconst (v := (-1)) 22 dX7_strange_21 (by decide) rfl ?_
  refine ax_ixor 23 dX7_strange_22 rfl ?_
  refine ax_iand 24 dX7_strange_23 rfl ?_
  exact ax_iret dX7_strange_24 hf
def b_X7_meter_17 (n : Nat) (p0 : Int32) (S : ux_S) : Option (Int32 × ux_S) :=
  ux_bi (f_X3_add S p0) (fun r4 S3 => some (r4, S3))
set_option maxHeartbeats 2000000 in
set_option maxRecDepth 10000 in
theorem w_X7_meter_17 {l : Launch} {G : ux_G} {n : Nat} {p0 : Int32} {r : Int32} {Z : ux_S} : ∀ (S : ux_S), b_X7_meter_17 n p0  S = some (r, Z) → ux_At l G RX7 cX7_meter 2 (some .int) 2 (some (.int r)) Z 17 [(0, .ref (ux_a G 0)), (1, .int p0)] [] S := by
  intro  S hf
  unfold b_X7_meter_17 at hf
  refine ax_aload_n 18 dX7_meter_17 rfl 0 rfl rfl ?_
  refine ax_getr 7 21 dX7_meter_18 fg_X7_54 rfl (by decide) rfl ?_
  refine ax_iload_n 22 dX7_meter_21 rfl 1 rfl rfl ?_
  obtain ⟨r4, S3, e2, hf⟩ := ux_bi_e hf
  refine ax_callVi 25 [.int p0] dX7_meter_22 fv_X7_233 (m_X3_add e2) (by decide) rfl rfl (by decide) rfl rfl (Nat.le_of_ble_eq_true rfl) rfl ?_
  refine ax_goto 29 dX7_meter_25 (by decide) ?_
  exact ax_iret dX7_meter_29 hf
def f_X7_meter (n : Nat) (S : ux_S) (p0 : Int32) : Option (Int32 × ux_S) :=
  if p0 = (-4) then (b_X7_meter_17 n p0 S) else (ux_bi (f_X3_has S p0) (fun r7 S6 => if r7 = 0 then (some ((-1), S6)) else (b_X7_meter_17 n p0 S6)))
set_option maxHeartbeats 2000000 in
set_option maxRecDepth 10000 in
theorem m_X7_meter {l : Launch} {G : ux_G} {n : Nat} {S : ux_S} {p0 : Int32} {r : Int32} {Z : ux_S} (hf : f_X7_meter n S p0 = some (r, Z)) : ux_M l G yX7_meter cX7_meter 2 (some .int) 2 [.ref (ux_a G 0), .int p0] S (some (.int r)) Z := by
  refine ux_of (by decide) (Nat.le_of_ble_eq_true rfl) ?_
  show ux_At l G RX7 cX7_meter 2 (some .int) 2 (some (.int r)) Z 0 [(0, .ref (ux_a G 0)), (1, .int p0)] [] S
  unfold f_X7_meter at hf
  refine ax_iload_n 1 dX7_meter_0 rfl 1 rfl rfl ?_
  refine ax_bipush (v := (-4)) 3 dX7_meter_1 (by decide) rfl ?_
  refine ax_icmp_eq 17 6 dX7_meter_3 (by decide) rfl (fun c1 => ?_) (fun c1 => ?_)
  · have hf := ux_ift c1 hf
    exact ax_sub [0, 1] rfl (w_X7_meter_17 S hf)
  · have hf := ux_iff c1 hf
    refine ax_aload_n 7 dX7_meter_6 rfl 0 rfl rfl ?_
    refine ax_getr 7 10 dX7_meter_7 fg_X7_54 rfl (by decide) rfl ?_
    refine ax_iload_n 11 dX7_meter_10 rfl 1 rfl rfl ?_
    obtain ⟨r7, S6, e5, hf⟩ := ux_bi_e hf
    refine ax_callVi 14 [.int p0] dX7_meter_11 fv_X7_232 (m_X3_has e5) (by decide) rfl rfl (by decide) rfl rfl (Nat.le_of_ble_eq_true rfl) rfl ?_
    refine ax_if_eq 28 17 dX7_meter_14 (by decide) rfl (fun c8 => ?_) (fun c8 => ?_)
    · have hf := ux_ift c8 hf
      refine ax_iconst (v := (-1)) 29 dX7_meter_28 (by decide) rfl ?_
      exact ax_iret dX7_meter_29 hf
    · have hf := ux_iff c8 hf
      exact ax_sub [0, 1] rfl (w_X7_meter_17 S6 hf)
def f_X7_reads (S : ux_S) (p0 : Int32) (p1 : Int32) : Option (Int32 × ux_S) :=
  ux_bi (f_X3_has S p0) (fun r3 S2 => if r3 = 0 then (some ((-1), S2)) else (ux_bi (f_X7_within S2 p1 (-100000) 100000) (fun r7 S6 => if r7 = 0 then (some ((-1), S6)) else (ux_gd (ux_ib p0 12) (ux_gd (ux_ib p0 12) (some (1, ux_i (ux_i S6 50 p0.toNatClampNeg (vp_nar .boolean 1)) 51 p0.toNatClampNeg p1)))))))
set_option maxHeartbeats 2000000 in
set_option maxRecDepth 10000 in
theorem m_X7_reads {l : Launch} {G : ux_G} {S : ux_S} {p0 : Int32} {p1 : Int32} {r : Int32} {Z : ux_S} (hf : f_X7_reads S p0 p1 = some (r, Z)) : ux_M l G yX7_reads cX7_reads 3 (some .int) 2 [.ref (ux_a G 0), .int p0, .int p1] S (some (.int r)) Z := by
  refine ux_of (by decide) (Nat.le_of_ble_eq_true rfl) ?_
  show ux_At l G RX7 cX7_reads 3 (some .int) 2 (some (.int r)) Z 0 [(0, .ref (ux_a G 0)), (1, .int p0), (2, .int p1)] [] S
  unfold f_X7_reads at hf
  refine ax_aload_n 1 dX7_reads_0 rfl 0 rfl rfl ?_
  refine ax_getr 7 4 dX7_reads_1 fg_X7_54 rfl (by decide) rfl ?_
  refine ax_iload_n 5 dX7_reads_4 rfl 1 rfl rfl ?_
  obtain ⟨r3, S2, e1, hf⟩ := ux_bi_e hf
  refine ax_callVi 8 [.int p0] dX7_reads_5 fv_X7_232 (m_X3_has e1) (by decide) rfl rfl (by decide) rfl rfl (Nat.le_of_ble_eq_true rfl) rfl ?_
  refine ax_if_eq 22 11 dX7_reads_8 (by decide) rfl (fun c4 => ?_) (fun c4 => ?_)
  · have hf := ux_ift c4 hf
    refine ax_iconst (v := (-1)) 23 dX7_reads_22 (by decide) rfl ?_
    exact ax_iret dX7_reads_23 hf
  · have hf := ux_iff c4 hf
    refine ax_iload_n 12 dX7_reads_11 rfl 2 rfl rfl ?_
    refine ax_ldc 14 dX7_reads_12 fc_X7_234 rfl ?_
    refine ax_ldc 16 dX7_reads_14 fc_X7_235 rfl ?_
    obtain ⟨r7, S6, e5, hf⟩ := ux_bi_e hf
    refine ax_callSi 19 [.int p1, .int (-100000), .int 100000] dX7_reads_16 fs_X7_58 (m_X7_within e5) (by decide) rfl rfl (Nat.le_of_ble_eq_true rfl) rfl ?_
    refine ax_if_ne 24 22 dX7_reads_19 (by decide) rfl (fun c8 => ?_) (fun c8 => ?_)
    · have hf := ux_iff c8 hf
      refine ax_aload_n 25 dX7_reads_24 rfl 0 rfl rfl ?_
      refine ax_getr 7 28 dX7_reads_25 fg_X7_54 rfl (by decide) rfl ?_
      refine ax_getr 50 31 dX7_reads_28 fg_X7_236 rfl (by decide) rfl ?_
      refine ax_iload_n 32 dX7_reads_31 rfl 1 rfl rfl ?_
      refine ax_iconst (v := 1) 33 dX7_reads_32 (by decide) rfl ?_
      obtain ⟨h9, hf⟩ := ux_gd_e hf
      refine ax_zast 34 dX7_reads_33 (by decide) rfl h9 rfl ?_
      refine ax_aload_n 35 dX7_reads_34 rfl 0 rfl rfl ?_
      refine ax_getr 7 38 dX7_reads_35 fg_X7_54 rfl (by decide) rfl ?_
      refine ax_getr 51 41 dX7_reads_38 fg_X7_240 rfl (by decide) rfl ?_
      refine ax_iload_n 42 dX7_reads_41 rfl 1 rfl rfl ?_
      refine ax_iload_n 43 dX7_reads_42 rfl 2 rfl rfl ?_
      obtain ⟨h10, hf⟩ := ux_gd_e hf
      refine ax_iast 44 dX7_reads_43 (by decide) rfl h10 rfl ?_
      refine ax_iconst (v := 1) 45 dX7_reads_44 (by decide) rfl ?_
      exact ax_iret dX7_reads_45 hf
    · have hf := ux_ift c8 hf
      refine ax_iconst (v := (-1)) 23 dX7_reads_22 (by decide) rfl ?_
      exact ax_iret dX7_reads_23 hf
def b_X7_loses_30 (n : Nat) (p0 : Int32) (t0 : Int32) (S : ux_S) : Option (Int32 × ux_S) :=
  ux_gd (ux_ib p0 12) (some (t0, ux_i S 50 p0.toNatClampNeg (vp_nar .boolean 0)))
set_option maxHeartbeats 2000000 in
set_option maxRecDepth 10000 in
theorem w_X7_loses_30 {l : Launch} {G : ux_G} {n : Nat} {p0 : Int32} {r : Int32} {Z : ux_S} : ∀ (t0 : Int32) (S : ux_S), b_X7_loses_30 n p0 t0 S = some (r, Z) → ux_At l G RX7 cX7_loses 3 (some .int) 2 (some (.int r)) Z 30 [(0, .ref (ux_a G 0)), (1, .int p0)] [.int t0] S := by
  intro t0 S hf
  unfold b_X7_loses_30 at hf
  refine ax_istore_n 31 dX7_loses_30 rfl (by decide) [1, 2, 0] [(0, .ref (ux_a G 0)), (1, .int p0), (2, .int t0)] rfl rfl ?_
  refine ax_aload_n 32 dX7_loses_31 rfl 0 rfl rfl ?_
  refine ax_getr 7 35 dX7_loses_32 fg_X7_54 rfl (by decide) rfl ?_
  refine ax_getr 50 38 dX7_loses_35 fg_X7_236 rfl (by decide) rfl ?_
  refine ax_iload_n 39 dX7_loses_38 rfl 1 rfl rfl ?_
  refine ax_iconst (v := 0) 40 dX7_loses_39 (by decide) rfl ?_
  obtain ⟨h7, hf⟩ := ux_gd_e hf
  refine ax_zast 41 dX7_loses_40 (by decide) rfl h7 rfl ?_
  refine ax_iload_n 42 dX7_loses_41 rfl 2 rfl rfl ?_
  exact ax_iret dX7_loses_42 hf
def f_X7_loses (n : Nat) (S : ux_S) (p0 : Int32) : Option (Int32 × ux_S) :=
  ux_bi (f_X3_has S p0) (fun r3 S2 => if r3 = 0 then (some ((-1), S2)) else (ux_gd (ux_ib p0 12) (if S2.1 50 p0.toNatClampNeg = 0 then (b_X7_loses_30 n p0 0 S2) else (b_X7_loses_30 n p0 1 S2))))
set_option maxHeartbeats 2000000 in
set_option maxRecDepth 10000 in
theorem m_X7_loses {l : Launch} {G : ux_G} {n : Nat} {S : ux_S} {p0 : Int32} {r : Int32} {Z : ux_S} (hf : f_X7_loses n S p0 = some (r, Z)) : ux_M l G yX7_loses cX7_loses 3 (some .int) 2 [.ref (ux_a G 0), .int p0] S (some (.int r)) Z := by
  refine ux_of (by decide) (Nat.le_of_ble_eq_true rfl) ?_
  show ux_At l G RX7 cX7_loses 3 (some .int) 2 (some (.int r)) Z 0 [(0, .ref (ux_a G 0)), (1, .int p0)] [] S
  unfold f_X7_loses at hf
  refine ax_aload_n 1 dX7_loses_0 rfl 0 rfl rfl ?_
  refine ax_getr 7 4 dX7_loses_1 fg_X7_54 rfl (by decide) rfl ?_
  refine ax_iload_n 5 dX7_loses_4 rfl 1 rfl rfl ?_
  obtain ⟨r3, S2, e1, hf⟩ := ux_bi_e hf
  refine ax_callVi 8 [.int p0] dX7_loses_5 fv_X7_232 (m_X3_has e1) (by decide) rfl rfl (by decide) rfl rfl (Nat.le_of_ble_eq_true rfl) rfl ?_
  refine ax_if_ne 13 11 dX7_loses_8 (by decide) rfl (fun c4 => ?_) (fun c4 => ?_)
  · have hf := ux_iff c4 hf
    refine ax_aload_n 14 dX7_loses_13 rfl 0 rfl rfl ?_
    refine ax_getr 7 17 dX7_loses_14 fg_X7_54 rfl (by decide) rfl ?_
    refine ax_getr 50 20 dX7_loses_17 fg_X7_236 rfl (by decide) rfl ?_
    refine ax_iload_n 21 dX7_loses_20 rfl 1 rfl rfl ?_
    obtain ⟨h5, hf⟩ := ux_gd_e hf
    refine ax_zald 22 dX7_loses_21 (by decide) rfl h5 rfl ?_
    refine ax_if_eq 29 25 dX7_loses_22 (by decide) rfl (fun c6 => ?_) (fun c6 => ?_)
    · have hf := ux_ift c6 hf
      refine ax_iconst (v := 0) 30 dX7_loses_29 (by decide) rfl ?_
      exact ax_sub [0, 1] rfl (w_X7_loses_30 0 S2 hf)
    · have hf := ux_iff c6 hf
      refine ax_iconst (v := 1) 26 dX7_loses_25 (by decide) rfl ?_
      refine ax_goto 30 dX7_loses_26 (by decide) ?_
      exact ax_sub [0, 1] rfl (w_X7_loses_30 1 S2 hf)
  · have hf := ux_ift c4 hf
    refine ax_iconst (v := (-1)) 12 dX7_loses_11 (by decide) rfl ?_
    exact ax_iret dX7_loses_12 hf
def f_X7_known (n : Nat) (S : ux_S) (p0 : Int32) : Option (Int32 × ux_S) :=
  ux_bi (f_X3_has S p0) (fun r3 S2 => if r3 = 0 then (some (1000000000, S2)) else (ux_bv (f_X3_infer n S2 ) (fun S6 => ux_gd (ux_ib p0 12) (if S6.1 52 p0.toNatClampNeg = 0 then (some (1000000000, S6)) else (ux_gd (ux_ib p0 12) (some (S6.1 53 p0.toNatClampNeg, S6)))))))
set_option maxHeartbeats 2000000 in
set_option maxRecDepth 10000 in
theorem m_X7_known {l : Launch} {G : ux_G} {n : Nat} {S : ux_S} {p0 : Int32} {r : Int32} {Z : ux_S} (hf : f_X7_known n S p0 = some (r, Z)) : ux_M l G yX7_known cX7_known 2 (some .int) 5 [.ref (ux_a G 0), .int p0] S (some (.int r)) Z := by
  refine ux_of (by decide) (Nat.le_of_ble_eq_true rfl) ?_
  show ux_At l G RX7 cX7_known 2 (some .int) 5 (some (.int r)) Z 0 [(0, .ref (ux_a G 0)), (1, .int p0)] [] S
  unfold f_X7_known at hf
  refine ax_aload_n 1 dX7_known_0 rfl 0 rfl rfl ?_
  refine ax_getr 7 4 dX7_known_1 fg_X7_54 rfl (by decide) rfl ?_
  refine ax_iload_n 5 dX7_known_4 rfl 1 rfl rfl ?_
  obtain ⟨r3, S2, e1, hf⟩ := ux_bi_e hf
  refine ax_callVi 8 [.int p0] dX7_known_5 fv_X7_232 (m_X3_has e1) (by decide) rfl rfl (by decide) rfl rfl (Nat.le_of_ble_eq_true rfl) rfl ?_
  refine ax_if_ne 14 11 dX7_known_8 (by decide) rfl (fun c4 => ?_) (fun c4 => ?_)
  · have hf := ux_iff c4 hf
    refine ax_aload_n 15 dX7_known_14 rfl 0 rfl rfl ?_
    refine ax_getr 7 18 dX7_known_15 fg_X7_54 rfl (by decide) rfl ?_
    obtain ⟨S6, e5, hf⟩ := ux_bv_e hf
    refine ax_callVv 21 [] dX7_known_18 fv_X7_243 (m_X3_infer e5) (by decide) rfl rfl (by decide) rfl rfl (Nat.le_of_ble_eq_true rfl) rfl ?_
    refine ax_aload_n 22 dX7_known_21 rfl 0 rfl rfl ?_
    refine ax_getr 7 25 dX7_known_22 fg_X7_54 rfl (by decide) rfl ?_
    refine ax_getr 52 28 dX7_known_25 fg_X7_246 rfl (by decide) rfl ?_
    refine ax_iload_n 29 dX7_known_28 rfl 1 rfl rfl ?_
    obtain ⟨h8, hf⟩ := ux_gd_e hf
    refine ax_zald 30 dX7_known_29 (by decide) rfl h8 rfl ?_
    refine ax_if_eq 45 33 dX7_known_30 (by decide) rfl (fun c9 => ?_) (fun c9 => ?_)
    · have hf := ux_ift c9 hf
      refine ax_ldc 47 dX7_known_45 fc_X7_156 rfl ?_
      exact ax_iret dX7_known_47 hf
    · have hf := ux_iff c9 hf
      refine ax_aload_n 34 dX7_known_33 rfl 0 rfl rfl ?_
      refine ax_getr 7 37 dX7_known_34 fg_X7_54 rfl (by decide) rfl ?_
      refine ax_getr 53 40 dX7_known_37 fg_X7_249 rfl (by decide) rfl ?_
      refine ax_iload_n 41 dX7_known_40 rfl 1 rfl rfl ?_
      obtain ⟨h10, hf⟩ := ux_gd_e hf
      refine ax_iald 42 dX7_known_41 (by decide) rfl h10 rfl ?_
      refine ax_goto 47 dX7_known_42 (by decide) ?_
      exact ax_iret dX7_known_47 hf
  · have hf := ux_ift c4 hf
    refine ax_ldc 13 dX7_known_11 fc_X7_156 rfl ?_
    exact ax_iret dX7_known_13 hf
def b_X7_quarrel_9 (n : Nat) (k9 : Int32 → ux_S → Option (Int32 × ux_S)) (x1 : Int32) (S : ux_S) : Option (Int32 × ux_S) :=
  if S.1 7 5 ≤ x1 then (some ((-4), S)) else (ux_bi (f_X3_isAtOdds n S x1) (fun r7 S6 => if r7 = 0 then (k9 (x1 + 1) S6) else (some (x1, S6))))
set_option maxHeartbeats 2000000 in
set_option maxRecDepth 10000 in
theorem w_X7_quarrel_9 {l : Launch} {G : ux_G} {n : Nat} {r : Int32} {Z : ux_S} (k9 : Int32 → ux_S → Option (Int32 × ux_S)) (hk9 : ∀ (x1 : Int32) (S : ux_S), k9 x1 S = some (r, Z) → ux_At l G RX7 cX7_quarrel 2 (some .int) 5 (some (.int r)) Z 9 [(0, .ref (ux_a G 0)), (1, .int x1)] [] S) : ∀ (x1 : Int32) (S : ux_S), b_X7_quarrel_9 n k9 x1 S = some (r, Z) → ux_At l G RX7 cX7_quarrel 2 (some .int) 5 (some (.int r)) Z 9 [(0, .ref (ux_a G 0)), (1, .int x1)] [] S := by
  intro x1 S hf
  unfold b_X7_quarrel_9 at hf
  refine ax_iload_n 10 dX7_quarrel_9 rfl 1 rfl rfl ?_
  refine ax_aload_n 11 dX7_quarrel_10 rfl 0 rfl rfl ?_
  refine ax_getr 7 14 dX7_quarrel_11 fg_X7_54 rfl (by decide) rfl ?_
  refine ax_geti 17 dX7_quarrel_14 fg_X7_252 rfl rfl ?_
  refine ax_icmp_ge 39 20 dX7_quarrel_17 (by decide) rfl (fun c4 => ?_) (fun c4 => ?_)
  · have hf := ux_ift c4 hf
    refine ax_bipush (v := (-4)) 41 dX7_quarrel_39 (by decide) rfl ?_
    exact ax_iret dX7_quarrel_41 hf
  · have hf := ux_iff c4 hf
    refine ax_aload_n 21 dX7_quarrel_20 rfl 0 rfl rfl ?_
    refine ax_getr 7 24 dX7_quarrel_21 fg_X7_54 rfl (by decide) rfl ?_
    refine ax_iload_n 25 dX7_quarrel_24 rfl 1 rfl rfl ?_
    obtain ⟨r7, S6, e5, hf⟩ := ux_bi_e hf
    refine ax_callVi 28 [.int x1] dX7_quarrel_25 fv_X7_254 (m_X3_isAtOdds e5) (by decide) rfl rfl (by decide) rfl rfl (Nat.le_of_ble_eq_true rfl) rfl ?_
    refine ax_if_eq 33 31 dX7_quarrel_28 (by decide) rfl (fun c8 => ?_) (fun c8 => ?_)
    · have hf := ux_ift c8 hf
      refine ax_iinc (v := x1 + 1) 36 dX7_quarrel_33 1 rfl rfl (by decide) [1, 0] [(0, .ref (ux_a G 0)), (1, .int (x1 + 1))] rfl rfl ?_
      refine ax_goto 9 dX7_quarrel_36 (by decide) ?_
      exact ax_sub [0, 1] rfl (hk9 (x1 + 1) S6 hf)
    · have hf := ux_iff c8 hf
      refine ax_iload_n 32 dX7_quarrel_31 rfl 1 rfl rfl ?_
      exact ax_iret dX7_quarrel_32 hf
def f_X7_quarrel (n : Nat) (S : ux_S) : Option (Int32 × ux_S) :=
  ux_bv (f_X3_infer n S ) (fun S2 => ux_lp1 (b_X7_quarrel_9 n) n 0 S2)
set_option maxHeartbeats 2000000 in
set_option maxRecDepth 10000 in
theorem m_X7_quarrel {l : Launch} {G : ux_G} {n : Nat} {S : ux_S} {r : Int32} {Z : ux_S} (hf : f_X7_quarrel n S = some (r, Z)) : ux_M l G yX7_quarrel cX7_quarrel 2 (some .int) 5 [.ref (ux_a G 0)] S (some (.int r)) Z := by
  refine ux_of (by decide) (Nat.le_of_ble_eq_true rfl) ?_
  show ux_At l G RX7 cX7_quarrel 2 (some .int) 5 (some (.int r)) Z 0 [(0, .ref (ux_a G 0))] [] S
  unfold f_X7_quarrel at hf
  refine ax_aload_n 1 dX7_quarrel_0 rfl 0 rfl rfl ?_
  refine ax_getr 7 4 dX7_quarrel_1 fg_X7_54 rfl (by decide) rfl ?_
  obtain ⟨S2, e1, hf⟩ := ux_bv_e hf
  refine ax_callVv 7 [] dX7_quarrel_4 fv_X7_243 (m_X3_infer e1) (by decide) rfl rfl (by decide) rfl rfl (Nat.le_of_ble_eq_true rfl) rfl ?_
  refine ax_iconst (v := 0) 8 dX7_quarrel_7 (by decide) rfl ?_
  refine ax_istore_n 9 dX7_quarrel_8 rfl (by decide) [1, 0] [(0, .ref (ux_a G 0)), (1, .int 0)] rfl rfl ?_
  exact ax_sub [0, 1] rfl (ux_lp1_w (Pr := fun x1 S => ux_At l G RX7 cX7_quarrel 2 (some .int) 5 (some (.int r)) Z 9 [(0, .ref (ux_a G 0)), (1, .int x1)] [] S) (fun k9 hk9 => w_X7_quarrel_9 k9 hk9) n 0 S2 hf)
def f_X7_count (n : Nat) (S : ux_S) (p0 : Int32) : Option (Int32 × ux_S) :=
  if p0 = 0 then (some (S.1 1 5, S)) else (if p0 = 1 then (some (S.1 5 4, S)) else (if p0 = 2 then (some (S.1 3 2, S)) else (if p0 = 3 then (some (S.1 6 1, S)) else (if p0 = 4 then (some (S.1 7 5, S)) else (if p0 = 5 then (ux_bi (f_X3_countKnown n S ) (fun r9 S8 => some (r9, S8))) else (if p0 = 6 then (ux_bi (f_X6_isNothing S 0) (fun r13 S12 => if r13 = 0 then (ux_gd (ux_ib 0 4) (some (S12.1 41 (0 : Int32).toNatClampNeg, S12))) else (some ((-4), S12)))) else (if p0 = 7 then (some (S.1 1 6, S)) else (if p0 = 8 then (some (S.1 1 7, S)) else (some ((-1), S))))))))))
set_option maxHeartbeats 2000000 in
set_option maxRecDepth 10000 in
theorem m_X7_count {l : Launch} {G : ux_G} {n : Nat} {S : ux_S} {p0 : Int32} {r : Int32} {Z : ux_S} (hf : f_X7_count n S p0 = some (r, Z)) : ux_M l G yX7_count cX7_count 2 (some .int) 6 [.ref (ux_a G 0), .int p0] S (some (.int r)) Z := by
  refine ux_of (by decide) (Nat.le_of_ble_eq_true rfl) ?_
  show ux_At l G RX7 cX7_count 2 (some .int) 6 (some (.int r)) Z 0 [(0, .ref (ux_a G 0)), (1, .int p0)] [] S
  unfold f_X7_count at hf
  refine ax_iload_n 1 dX7_count_0 rfl 1 rfl rfl ?_
  by_cases c1 : p0 = 0
  · have hf := ux_ift c1 hf
    refine ax_tabIn 0 52 c1 dX7_count_1 (by decide) (by decide) rfl (by decide) ?_
    refine ax_aload_n 53 dX7_count_52 rfl 0 rfl rfl ?_
    refine ax_getr 1 56 dX7_count_53 fg_X7_10 rfl (by decide) rfl ?_
    refine ax_geti 59 dX7_count_56 fg_X7_105 rfl rfl ?_
    exact ax_iret dX7_count_59 hf
  have hf := ux_iff c1 hf
  by_cases c2 : p0 = 1
  · have hf := ux_ift c2 hf
    refine ax_tabIn 1 60 c2 dX7_count_1 (by decide) (by decide) rfl (by decide) ?_
    refine ax_aload_n 61 dX7_count_60 rfl 0 rfl rfl ?_
    refine ax_getr 5 64 dX7_count_61 fg_X7_40 rfl (by decide) rfl ?_
    refine ax_geti 67 dX7_count_64 fg_X7_257 rfl rfl ?_
    exact ax_iret dX7_count_67 hf
  have hf := ux_iff c2 hf
  by_cases c3 : p0 = 2
  · have hf := ux_ift c3 hf
    refine ax_tabIn 2 68 c3 dX7_count_1 (by decide) (by decide) rfl (by decide) ?_
    refine ax_aload_n 69 dX7_count_68 rfl 0 rfl rfl ?_
    refine ax_getr 3 72 dX7_count_69 fg_X7_26 rfl (by decide) rfl ?_
    refine ax_geti 75 dX7_count_72 fg_X7_168 rfl rfl ?_
    exact ax_iret dX7_count_75 hf
  have hf := ux_iff c3 hf
  by_cases c4 : p0 = 3
  · have hf := ux_ift c4 hf
    refine ax_tabIn 3 76 c4 dX7_count_1 (by decide) (by decide) rfl (by decide) ?_
    refine ax_aload_n 77 dX7_count_76 rfl 0 rfl rfl ?_
    refine ax_getr 6 80 dX7_count_77 fg_X7_47 rfl (by decide) rfl ?_
    refine ax_geti 83 dX7_count_80 fg_X7_259 rfl rfl ?_
    exact ax_iret dX7_count_83 hf
  have hf := ux_iff c4 hf
  by_cases c5 : p0 = 4
  · have hf := ux_ift c5 hf
    refine ax_tabIn 4 84 c5 dX7_count_1 (by decide) (by decide) rfl (by decide) ?_
    refine ax_aload_n 85 dX7_count_84 rfl 0 rfl rfl ?_
    refine ax_getr 7 88 dX7_count_85 fg_X7_54 rfl (by decide) rfl ?_
    refine ax_geti 91 dX7_count_88 fg_X7_252 rfl rfl ?_
    exact ax_iret dX7_count_91 hf
  have hf := ux_iff c5 hf
  by_cases c6 : p0 = 5
  · have hf := ux_ift c6 hf
    refine ax_tabIn 5 92 c6 dX7_count_1 (by decide) (by decide) rfl (by decide) ?_
    refine ax_aload_n 93 dX7_count_92 rfl 0 rfl rfl ?_
    refine ax_getr 7 96 dX7_count_93 fg_X7_54 rfl (by decide) rfl ?_
    obtain ⟨r9, S8, e7, hf⟩ := ux_bi_e hf
    refine ax_callVi 99 [] dX7_count_96 fv_X7_262 (m_X3_countKnown e7) (by decide) rfl rfl (by decide) rfl rfl (Nat.le_of_ble_eq_true rfl) rfl ?_
    exact ax_iret dX7_count_99 hf
  have hf := ux_iff c6 hf
  by_cases c10 : p0 = 6
  · have hf := ux_ift c10 hf
    refine ax_tabIn 6 100 c10 dX7_count_1 (by decide) (by decide) rfl (by decide) ?_
    refine ax_aload_n 101 dX7_count_100 rfl 0 rfl rfl ?_
    refine ax_getr 4 104 dX7_count_101 fg_X7_33 rfl (by decide) rfl ?_
    refine ax_iconst (v := 0) 105 dX7_count_104 (by decide) rfl ?_
    obtain ⟨r13, S12, e11, hf⟩ := ux_bi_e hf
    refine ax_callVi 108 [.int 0] dX7_count_105 fv_X7_87 (m_X6_isNothing e11) (by decide) rfl rfl (by decide) rfl rfl (Nat.le_of_ble_eq_true rfl) rfl ?_
    refine ax_if_eq 116 111 dX7_count_108 (by decide) rfl (fun c14 => ?_) (fun c14 => ?_)
    · have hf := ux_ift c14 hf
      refine ax_aload_n 117 dX7_count_116 rfl 0 rfl rfl ?_
      refine ax_getr 4 120 dX7_count_117 fg_X7_33 rfl (by decide) rfl ?_
      refine ax_getr 41 123 dX7_count_120 fg_X7_265 rfl (by decide) rfl ?_
      refine ax_iconst (v := 0) 124 dX7_count_123 (by decide) rfl ?_
      obtain ⟨h15, hf⟩ := ux_gd_e hf
      refine ax_iald 125 dX7_count_124 (by decide) rfl h15 rfl ?_
      exact ax_iret dX7_count_125 hf
    · have hf := ux_iff c14 hf
      refine ax_bipush (v := (-4)) 113 dX7_count_111 (by decide) rfl ?_
      refine ax_goto 125 dX7_count_113 (by decide) ?_
      exact ax_iret dX7_count_125 hf
  have hf := ux_iff c10 hf
  by_cases c16 : p0 = 7
  · have hf := ux_ift c16 hf
    refine ax_tabIn 7 126 c16 dX7_count_1 (by decide) (by decide) rfl (by decide) ?_
    refine ax_aload_n 127 dX7_count_126 rfl 0 rfl rfl ?_
    refine ax_getr 1 130 dX7_count_127 fg_X7_10 rfl (by decide) rfl ?_
    refine ax_geti 133 dX7_count_130 fg_X7_123 rfl rfl ?_
    exact ax_iret dX7_count_133 hf
  have hf := ux_iff c16 hf
  by_cases c17 : p0 = 8
  · have hf := ux_ift c17 hf
    refine ax_tabIn 8 134 c17 dX7_count_1 (by decide) (by decide) rfl (by decide) ?_
    refine ax_aload_n 135 dX7_count_134 rfl 0 rfl rfl ?_
    refine ax_getr 1 138 dX7_count_135 fg_X7_10 rfl (by decide) rfl ?_
    refine ax_geti 141 dX7_count_138 fg_X7_126 rfl rfl ?_
    exact ax_iret dX7_count_141 hf
  have hf := ux_iff c17 hf
  refine ax_tabOut 142 dX7_count_1 (ax_swOut 9 (by decide) (fun k hk => by match k, hk with | 0, _ => exact c1 | 1, _ => exact c2 | 2, _ => exact c3 | 3, _ => exact c4 | 4, _ => exact c5 | 5, _ => exact c6 | 6, _ => exact c10 | 7, _ => exact c16 | 8, _ => exact c17 | k + 9, hk => exact absurd hk (by omega))) (by decide) ?_
  refine ax_iconst (v := (-1)) 143 dX7_count_142 (by decide) rfl ?_
  exact ax_iret dX7_count_143 hf
