/-! printed by program (wip/gen): pure functions and contracts -/

def f_X3_has (S : ux_S) (p0 : Int32) : Option (Int32 × ux_S) :=
  if p0 < 0 then (some (0, S)) else (if S.1 7 5 ≤ p0 then (some (0, S)) else (some (1, S)))
set_option maxHeartbeats 2000000 in
set_option maxRecDepth 10000 in
theorem m_X3_has {l : Launch} {G : ux_G} {S : ux_S} {p0 : Int32} {r : Int32} {Z : ux_S} (hf : f_X3_has S p0 = some (r, Z)) : ux_M l G yX3_has cX3_has 2 (some .boolean) 1 [.ref (ux_a G 7), .int p0] S (some (.int r)) Z := by
  refine ux_of (by decide) (Nat.le_of_ble_eq_true rfl) ?_
  show ux_At l G RX3 cX3_has 2 (some .boolean) 1 (some (.int r)) Z 0 [(0, .ref (ux_a G 7)), (1, .int p0)] [] S
  unfold f_X3_has at hf
  refine ax_iload_n 1 dX3_has_0 rfl 1 rfl rfl ?_
  refine ax_if_lt 16 4 dX3_has_1 (by decide) rfl (fun c1 => ?_) (fun c1 => ?_)
  · have hf := ux_ift c1 hf
    refine ax_iconst (v := 0) 17 dX3_has_16 (by decide) rfl ?_
    exact ax_zret dX3_has_17 rfl hf
  · have hf := ux_iff c1 hf
    refine ax_iload_n 5 dX3_has_4 rfl 1 rfl rfl ?_
    refine ax_aload_n 6 dX3_has_5 rfl 0 rfl rfl ?_
    refine ax_geti 9 dX3_has_6 fg_X3_28 rfl rfl ?_
    refine ax_icmp_ge 16 12 dX3_has_9 (by decide) rfl (fun c2 => ?_) (fun c2 => ?_)
    · have hf := ux_ift c2 hf
      refine ax_iconst (v := 0) 17 dX3_has_16 (by decide) rfl ?_
      exact ax_zret dX3_has_17 rfl hf
    · have hf := ux_iff c2 hf
      refine ax_iconst (v := 1) 13 dX3_has_12 (by decide) rfl ?_
      refine ax_goto 17 dX3_has_13 (by decide) ?_
      exact ax_zret dX3_has_17 rfl hf
def f_X3_add (S : ux_S) (p0 : Int32) : Option (Int32 × ux_S) :=
  if S.1 7 5 < 12 then (ux_gd (ux_ib (S.1 7 5) 12) (some (((ux_i (ux_i S 49 (S.1 7 5).toNatClampNeg p0) 7 5 (((ux_i S 49 (S.1 7 5).toNatClampNeg p0).1 7 5) + (1 : Int32))).1 7 5) - (1 : Int32), ux_i (ux_i S 49 (S.1 7 5).toNatClampNeg p0) 7 5 (((ux_i S 49 (S.1 7 5).toNatClampNeg p0).1 7 5) + (1 : Int32))))) else (some ((-3), S))
set_option maxHeartbeats 2000000 in
set_option maxRecDepth 10000 in
theorem m_X3_add {l : Launch} {G : ux_G} {S : ux_S} {p0 : Int32} {r : Int32} {Z : ux_S} (hf : f_X3_add S p0 = some (r, Z)) : ux_M l G yX3_add cX3_add 2 (some .int) 1 [.ref (ux_a G 7), .int p0] S (some (.int r)) Z := by
  refine ux_of (by decide) (Nat.le_of_ble_eq_true rfl) ?_
  show ux_At l G RX3 cX3_add 2 (some .int) 1 (some (.int r)) Z 0 [(0, .ref (ux_a G 7)), (1, .int p0)] [] S
  unfold f_X3_add at hf
  refine ax_aload_n 1 dX3_add_0 rfl 0 rfl rfl ?_
  refine ax_geti 4 dX3_add_1 fg_X3_28 rfl rfl ?_
  refine ax_bipush (v := 12) 6 dX3_add_4 (by decide) rfl ?_
  refine ax_icmp_lt 12 9 dX3_add_6 (by decide) rfl (fun c1 => ?_) (fun c1 => ?_)
  · have hf := ux_ift c1 hf
    refine ax_aload_n 13 dX3_add_12 rfl 0 rfl rfl ?_
    refine ax_getr 49 16 dX3_add_13 fg_X3_9 rfl (by decide) rfl ?_
    refine ax_aload_n 17 dX3_add_16 rfl 0 rfl rfl ?_
    refine ax_geti 20 dX3_add_17 fg_X3_28 rfl rfl ?_
    refine ax_iload_n 21 dX3_add_20 rfl 1 rfl rfl ?_
    obtain ⟨h2, hf⟩ := ux_gd_e hf
    refine ax_iast 22 dX3_add_21 (by decide) rfl h2 rfl ?_
    refine ax_aload_n 23 dX3_add_22 rfl 0 rfl rfl ?_
    refine ax_dup 24 dX3_add_23 rfl rfl ?_
    refine ax_geti 27 dX3_add_24 fg_X3_28 rfl rfl ?_
    refine ax_iconst (v := 1) 28 dX3_add_27 (by decide) rfl ?_
    refine ax_iadd 29 dX3_add_28 rfl ?_
    refine ax_put 32 dX3_add_29 fp_X3_28 rfl ?_
    refine ax_aload_n 33 dX3_add_32 rfl 0 rfl rfl ?_
    refine ax_geti 36 dX3_add_33 fg_X3_28 rfl rfl ?_
    refine ax_iconst (v := 1) 37 dX3_add_36 (by decide) rfl ?_
    refine ax_isub 38 dX3_add_37 rfl ?_
    exact ax_iret dX3_add_38 hf
  · have hf := ux_iff c1 hf
    refine ax_bipush (v := (-3)) 11 dX3_add_9 (by decide) rfl ?_
    exact ax_iret dX3_add_11 hf
def b_X3_hasUnder_4 (n : Nat) (p0 : Int32) (k4 : Int32 → ux_S → Option (Int32 × ux_S)) (x2 : Int32) (S : ux_S) : Option (Int32 × ux_S) :=
  if S.1 7 5 ≤ x2 then (some (0, S)) else (ux_gd (ux_ib x2 12) (if S.1 49 x2.toNatClampNeg = p0 then (some (1, S)) else (k4 (x2 + 1) S)))
set_option maxHeartbeats 2000000 in
set_option maxRecDepth 10000 in
theorem w_X3_hasUnder_4 {l : Launch} {G : ux_G} {n : Nat} {p0 : Int32} {r : Int32} {Z : ux_S} (k4 : Int32 → ux_S → Option (Int32 × ux_S)) (hk4 : ∀ (x2 : Int32) (S : ux_S), k4 x2 S = some (r, Z) → ux_At l G RX3 cX3_hasUnder 3 (some .boolean) 1 (some (.int r)) Z 4 [(0, .ref (ux_a G 7)), (1, .int p0), (2, .int x2)] [] S) : ∀ (x2 : Int32) (S : ux_S), b_X3_hasUnder_4 n p0 k4 x2 S = some (r, Z) → ux_At l G RX3 cX3_hasUnder 3 (some .boolean) 1 (some (.int r)) Z 4 [(0, .ref (ux_a G 7)), (1, .int p0), (2, .int x2)] [] S := by
  intro x2 S hf
  unfold b_X3_hasUnder_4 at hf
  refine ax_iload_n 5 dX3_hasUnder_4 rfl 2 rfl rfl ?_
  refine ax_aload_n 6 dX3_hasUnder_5 rfl 0 rfl rfl ?_
  refine ax_geti 9 dX3_hasUnder_6 fg_X3_28 rfl rfl ?_
  refine ax_icmp_ge 30 12 dX3_hasUnder_9 (by decide) rfl (fun c1 => ?_) (fun c1 => ?_)
  · have hf := ux_ift c1 hf
    refine ax_iconst (v := 0) 31 dX3_hasUnder_30 (by decide) rfl ?_
    exact ax_zret dX3_hasUnder_31 rfl hf
  · have hf := ux_iff c1 hf
    refine ax_aload_n 13 dX3_hasUnder_12 rfl 0 rfl rfl ?_
    refine ax_getr 49 16 dX3_hasUnder_13 fg_X3_9 rfl (by decide) rfl ?_
    refine ax_iload_n 17 dX3_hasUnder_16 rfl 2 rfl rfl ?_
    obtain ⟨h2, hf⟩ := ux_gd_e hf
    refine ax_iald 18 dX3_hasUnder_17 (by decide) rfl h2 rfl ?_
    refine ax_iload_n 19 dX3_hasUnder_18 rfl 1 rfl rfl ?_
    refine ax_icmp_ne 24 22 dX3_hasUnder_19 (by decide) rfl (fun c3 => ?_) (fun c3 => ?_)
    · have hf := ux_iff c3 hf
      refine ax_iinc (v := x2 + 1) 27 dX3_hasUnder_24 2 rfl rfl (by decide) [1, 2, 0] [(0, .ref (ux_a G 7)), (1, .int p0), (2, .int (x2 + 1))] rfl rfl ?_
      refine ax_goto 4 dX3_hasUnder_27 (by decide) ?_
      exact ax_sub [0, 1, 2] rfl (hk4 (x2 + 1) S hf)
    · have hf := ux_ift c3 hf
      refine ax_iconst (v := 1) 23 dX3_hasUnder_22 (by decide) rfl ?_
      exact ax_zret dX3_hasUnder_23 rfl hf
def f_X3_hasUnder (n : Nat) (S : ux_S) (p0 : Int32) : Option (Int32 × ux_S) :=
  ux_lp1 (b_X3_hasUnder_4 n p0) n (p0 + (1 : Int32)) S
set_option maxHeartbeats 2000000 in
set_option maxRecDepth 10000 in
theorem m_X3_hasUnder {l : Launch} {G : ux_G} {n : Nat} {S : ux_S} {p0 : Int32} {r : Int32} {Z : ux_S} (hf : f_X3_hasUnder n S p0 = some (r, Z)) : ux_M l G yX3_hasUnder cX3_hasUnder 3 (some .boolean) 1 [.ref (ux_a G 7), .int p0] S (some (.int r)) Z := by
  refine ux_of (by decide) (Nat.le_of_ble_eq_true rfl) ?_
  show ux_At l G RX3 cX3_hasUnder 3 (some .boolean) 1 (some (.int r)) Z 0 [(0, .ref (ux_a G 7)), (1, .int p0)] [] S
  unfold f_X3_hasUnder at hf
  refine ax_iload_n 1 dX3_hasUnder_0 rfl 1 rfl rfl ?_
  refine ax_iconst (v := 1) 2 dX3_hasUnder_1 (by decide) rfl ?_
  refine ax_iadd 3 dX3_hasUnder_2 rfl ?_
  refine ax_istore_n 4 dX3_hasUnder_3 rfl (by decide) [1, 2, 0] [(0, .ref (ux_a G 7)), (1, .int p0), (2, .int (p0 + (1 : Int32)))] rfl rfl ?_
  exact ax_sub [0, 1, 2] rfl (ux_lp1_w (Pr := fun x2 S => ux_At l G RX3 cX3_hasUnder 3 (some .boolean) 1 (some (.int r)) Z 4 [(0, .ref (ux_a G 7)), (1, .int p0), (2, .int x2)] [] S) (fun k4 hk4 => w_X3_hasUnder_4 k4 hk4) n (p0 + (1 : Int32)) S hf)
def b_X3_allKnownUnder_4 (n : Nat) (p0 : Int32) (p1 : Int32) (k4 : Int32 → ux_S → Option (Int32 × ux_S)) (x3 : Int32) (S : ux_S) : Option (Int32 × ux_S) :=
  if S.1 7 5 ≤ x3 then (some (1, S)) else (ux_gd (ux_ib x3 12) (if S.1 49 x3.toNatClampNeg = p0 then (if x3 = p1 then (k4 (x3 + 1) S) else (ux_gd (ux_ib x3 12) (if S.1 52 x3.toNatClampNeg = 0 then (some (0, S)) else (k4 (x3 + 1) S)))) else (k4 (x3 + 1) S)))
set_option maxHeartbeats 2000000 in
set_option maxRecDepth 10000 in
theorem w_X3_allKnownUnder_4 {l : Launch} {G : ux_G} {n : Nat} {p0 : Int32} {p1 : Int32} {r : Int32} {Z : ux_S} (k4 : Int32 → ux_S → Option (Int32 × ux_S)) (hk4 : ∀ (x3 : Int32) (S : ux_S), k4 x3 S = some (r, Z) → ux_At l G RX3 cX3_allKnownUnder 4 (some .boolean) 1 (some (.int r)) Z 4 [(0, .ref (ux_a G 7)), (1, .int p0), (2, .int p1), (3, .int x3)] [] S) : ∀ (x3 : Int32) (S : ux_S), b_X3_allKnownUnder_4 n p0 p1 k4 x3 S = some (r, Z) → ux_At l G RX3 cX3_allKnownUnder 4 (some .boolean) 1 (some (.int r)) Z 4 [(0, .ref (ux_a G 7)), (1, .int p0), (2, .int p1), (3, .int x3)] [] S := by
  intro x3 S hf
  unfold b_X3_allKnownUnder_4 at hf
  refine ax_iload_n 5 dX3_allKnownUnder_4 rfl 3 rfl rfl ?_
  refine ax_aload_n 6 dX3_allKnownUnder_5 rfl 0 rfl rfl ?_
  refine ax_geti 9 dX3_allKnownUnder_6 fg_X3_28 rfl rfl ?_
  refine ax_icmp_ge 44 12 dX3_allKnownUnder_9 (by decide) rfl (fun c1 => ?_) (fun c1 => ?_)
  · have hf := ux_ift c1 hf
    refine ax_iconst (v := 1) 45 dX3_allKnownUnder_44 (by decide) rfl ?_
    exact ax_zret dX3_allKnownUnder_45 rfl hf
  · have hf := ux_iff c1 hf
    refine ax_aload_n 13 dX3_allKnownUnder_12 rfl 0 rfl rfl ?_
    refine ax_getr 49 16 dX3_allKnownUnder_13 fg_X3_9 rfl (by decide) rfl ?_
    refine ax_iload_n 17 dX3_allKnownUnder_16 rfl 3 rfl rfl ?_
    obtain ⟨h2, hf⟩ := ux_gd_e hf
    refine ax_iald 18 dX3_allKnownUnder_17 (by decide) rfl h2 rfl ?_
    refine ax_iload_n 19 dX3_allKnownUnder_18 rfl 1 rfl rfl ?_
    refine ax_icmp_ne 38 22 dX3_allKnownUnder_19 (by decide) rfl (fun c3 => ?_) (fun c3 => ?_)
    · have hf := ux_iff c3 hf
      refine ax_iinc (v := x3 + 1) 41 dX3_allKnownUnder_38 3 rfl rfl (by decide) [1, 2, 3, 0] [(0, .ref (ux_a G 7)), (1, .int p0), (2, .int p1), (3, .int (x3 + 1))] rfl rfl ?_
      refine ax_goto 4 dX3_allKnownUnder_41 (by decide) ?_
      exact ax_sub [0, 1, 2, 3] rfl (hk4 (x3 + 1) S hf)
    · have hf := ux_ift c3 hf
      refine ax_iload_n 23 dX3_allKnownUnder_22 rfl 3 rfl rfl ?_
      refine ax_iload_n 24 dX3_allKnownUnder_23 rfl 2 rfl rfl ?_
      refine ax_icmp_eq 38 27 dX3_allKnownUnder_24 (by decide) rfl (fun c4 => ?_) (fun c4 => ?_)
      · have hf := ux_ift c4 hf
        refine ax_iinc (v := x3 + 1) 41 dX3_allKnownUnder_38 3 rfl rfl (by decide) [1, 2, 3, 0] [(0, .ref (ux_a G 7)), (1, .int p0), (2, .int p1), (3, .int (x3 + 1))] rfl rfl ?_
        refine ax_goto 4 dX3_allKnownUnder_41 (by decide) ?_
        exact ax_sub [0, 1, 2, 3] rfl (hk4 (x3 + 1) S hf)
      · have hf := ux_iff c4 hf
        refine ax_aload_n 28 dX3_allKnownUnder_27 rfl 0 rfl rfl ?_
        refine ax_getr 52 31 dX3_allKnownUnder_28 fg_X3_22 rfl (by decide) rfl ?_
        refine ax_iload_n 32 dX3_allKnownUnder_31 rfl 3 rfl rfl ?_
        obtain ⟨h5, hf⟩ := ux_gd_e hf
        refine ax_zald 33 dX3_allKnownUnder_32 (by decide) rfl h5 rfl ?_
        refine ax_if_ne 38 36 dX3_allKnownUnder_33 (by decide) rfl (fun c6 => ?_) (fun c6 => ?_)
        · have hf := ux_iff c6 hf
          refine ax_iinc (v := x3 + 1) 41 dX3_allKnownUnder_38 3 rfl rfl (by decide) [1, 2, 3, 0] [(0, .ref (ux_a G 7)), (1, .int p0), (2, .int p1), (3, .int (x3 + 1))] rfl rfl ?_
          refine ax_goto 4 dX3_allKnownUnder_41 (by decide) ?_
          exact ax_sub [0, 1, 2, 3] rfl (hk4 (x3 + 1) S hf)
        · have hf := ux_ift c6 hf
          refine ax_iconst (v := 0) 37 dX3_allKnownUnder_36 (by decide) rfl ?_
          exact ax_zret dX3_allKnownUnder_37 rfl hf
def f_X3_allKnownUnder (n : Nat) (S : ux_S) (p0 : Int32) (p1 : Int32) : Option (Int32 × ux_S) :=
  ux_lp1 (b_X3_allKnownUnder_4 n p0 p1) n (p0 + (1 : Int32)) S
set_option maxHeartbeats 2000000 in
set_option maxRecDepth 10000 in
theorem m_X3_allKnownUnder {l : Launch} {G : ux_G} {n : Nat} {S : ux_S} {p0 : Int32} {p1 : Int32} {r : Int32} {Z : ux_S} (hf : f_X3_allKnownUnder n S p0 p1 = some (r, Z)) : ux_M l G yX3_allKnownUnder cX3_allKnownUnder 4 (some .boolean) 1 [.ref (ux_a G 7), .int p0, .int p1] S (some (.int r)) Z := by
  refine ux_of (by decide) (Nat.le_of_ble_eq_true rfl) ?_
  show ux_At l G RX3 cX3_allKnownUnder 4 (some .boolean) 1 (some (.int r)) Z 0 [(0, .ref (ux_a G 7)), (1, .int p0), (2, .int p1)] [] S
  unfold f_X3_allKnownUnder at hf
  refine ax_iload_n 1 dX3_allKnownUnder_0 rfl 1 rfl rfl ?_
  refine ax_iconst (v := 1) 2 dX3_allKnownUnder_1 (by decide) rfl ?_
  refine ax_iadd 3 dX3_allKnownUnder_2 rfl ?_
  refine ax_istore_n 4 dX3_allKnownUnder_3 rfl (by decide) [1, 2, 3, 0] [(0, .ref (ux_a G 7)), (1, .int p0), (2, .int p1), (3, .int (p0 + (1 : Int32)))] rfl rfl ?_
  exact ax_sub [0, 1, 2, 3] rfl (ux_lp1_w (Pr := fun x3 S => ux_At l G RX3 cX3_allKnownUnder 4 (some .boolean) 1 (some (.int r)) Z 4 [(0, .ref (ux_a G 7)), (1, .int p0), (2, .int p1), (3, .int x3)] [] S) (fun k4 hk4 => w_X3_allKnownUnder_4 k4 hk4) n (p0 + (1 : Int32)) S hf)
def b_X3_sumUnder_7 (n : Nat) (p0 : Int32) (p1 : Int32) (k7 : Int32 → Int32 → ux_S → Option (Int32 × ux_S)) (x3 : Int32) (x4 : Int32) (S : ux_S) : Option (Int32 × ux_S) :=
  if S.1 7 5 ≤ x4 then (some (x3, S)) else (ux_gd (ux_ib x4 12) (if S.1 49 x4.toNatClampNeg = p0 then (if x4 = p1 then (k7 x3 (x4 + 1) S) else (ux_gd (ux_ib x4 12) (k7 (x3 + (S.1 53 x4.toNatClampNeg)) (x4 + 1) S))) else (k7 x3 (x4 + 1) S)))
set_option maxHeartbeats 2000000 in
set_option maxRecDepth 10000 in
theorem w_X3_sumUnder_7 {l : Launch} {G : ux_G} {n : Nat} {p0 : Int32} {p1 : Int32} {r : Int32} {Z : ux_S} (k7 : Int32 → Int32 → ux_S → Option (Int32 × ux_S)) (hk7 : ∀ (x3 x4 : Int32) (S : ux_S), k7 x3 x4 S = some (r, Z) → ux_At l G RX3 cX3_sumUnder 5 (some .int) 1 (some (.int r)) Z 7 [(0, .ref (ux_a G 7)), (1, .int p0), (2, .int p1), (3, .int x3), (4, .int x4)] [] S) : ∀ (x3 : Int32) (x4 : Int32) (S : ux_S), b_X3_sumUnder_7 n p0 p1 k7 x3 x4 S = some (r, Z) → ux_At l G RX3 cX3_sumUnder 5 (some .int) 1 (some (.int r)) Z 7 [(0, .ref (ux_a G 7)), (1, .int p0), (2, .int p1), (3, .int x3), (4, .int x4)] [] S := by
  intro x3 x4 S hf
  unfold b_X3_sumUnder_7 at hf
  refine ax_iload 9 dX3_sumUnder_7 4 rfl rfl ?_
  refine ax_aload_n 10 dX3_sumUnder_9 rfl 0 rfl rfl ?_
  refine ax_geti 13 dX3_sumUnder_10 fg_X3_28 rfl rfl ?_
  refine ax_icmp_ge 49 16 dX3_sumUnder_13 (by decide) rfl (fun c1 => ?_) (fun c1 => ?_)
  · have hf := ux_ift c1 hf
    refine ax_iload_n 50 dX3_sumUnder_49 rfl 3 rfl rfl ?_
    exact ax_iret dX3_sumUnder_50 hf
  · have hf := ux_iff c1 hf
    refine ax_aload_n 17 dX3_sumUnder_16 rfl 0 rfl rfl ?_
    refine ax_getr 49 20 dX3_sumUnder_17 fg_X3_9 rfl (by decide) rfl ?_
    refine ax_iload 22 dX3_sumUnder_20 4 rfl rfl ?_
    obtain ⟨h2, hf⟩ := ux_gd_e hf
    refine ax_iald 23 dX3_sumUnder_22 (by decide) rfl h2 rfl ?_
    refine ax_iload_n 24 dX3_sumUnder_23 rfl 1 rfl rfl ?_
    refine ax_icmp_ne 43 27 dX3_sumUnder_24 (by decide) rfl (fun c3 => ?_) (fun c3 => ?_)
    · have hf := ux_iff c3 hf
      refine ax_iinc (v := x4 + 1) 46 dX3_sumUnder_43 4 rfl rfl (by decide) [1, 2, 3, 4, 0] [(0, .ref (ux_a G 7)), (1, .int p0), (2, .int p1), (3, .int x3), (4, .int (x4 + 1))] rfl rfl ?_
      refine ax_goto 7 dX3_sumUnder_46 (by decide) ?_
      exact ax_sub [0, 1, 2, 3, 4] rfl (hk7 x3 (x4 + 1) S hf)
    · have hf := ux_ift c3 hf
      refine ax_iload 29 dX3_sumUnder_27 4 rfl rfl ?_
      refine ax_iload_n 30 dX3_sumUnder_29 rfl 2 rfl rfl ?_
      refine ax_icmp_eq 43 33 dX3_sumUnder_30 (by decide) rfl (fun c4 => ?_) (fun c4 => ?_)
      · have hf := ux_ift c4 hf
        refine ax_iinc (v := x4 + 1) 46 dX3_sumUnder_43 4 rfl rfl (by decide) [1, 2, 3, 4, 0] [(0, .ref (ux_a G 7)), (1, .int p0), (2, .int p1), (3, .int x3), (4, .int (x4 + 1))] rfl rfl ?_
        refine ax_goto 7 dX3_sumUnder_46 (by decide) ?_
        exact ax_sub [0, 1, 2, 3, 4] rfl (hk7 x3 (x4 + 1) S hf)
      · have hf := ux_iff c4 hf
        refine ax_iload_n 34 dX3_sumUnder_33 rfl 3 rfl rfl ?_
        refine ax_aload_n 35 dX3_sumUnder_34 rfl 0 rfl rfl ?_
        refine ax_getr 53 38 dX3_sumUnder_35 fg_X3_25 rfl (by decide) rfl ?_
        refine ax_iload 40 dX3_sumUnder_38 4 rfl rfl ?_
        obtain ⟨h5, hf⟩ := ux_gd_e hf
        refine ax_iald 41 dX3_sumUnder_40 (by decide) rfl h5 rfl ?_
        refine ax_iadd 42 dX3_sumUnder_41 rfl ?_
        refine ax_istore_n 43 dX3_sumUnder_42 rfl (by decide) [1, 2, 3, 0, 4] [(0, .ref (ux_a G 7)), (1, .int p0), (2, .int p1), (3, .int (x3 + (S.1 53 x4.toNatClampNeg))), (4, .int x4)] rfl rfl ?_
        refine ax_iinc (v := x4 + 1) 46 dX3_sumUnder_43 4 rfl rfl (by decide) [1, 2, 3, 4, 0] [(0, .ref (ux_a G 7)), (1, .int p0), (2, .int p1), (3, .int (x3 + (S.1 53 x4.toNatClampNeg))), (4, .int (x4 + 1))] rfl rfl ?_
        refine ax_goto 7 dX3_sumUnder_46 (by decide) ?_
        exact ax_sub [0, 1, 2, 3, 4] rfl (hk7 (x3 + (S.1 53 x4.toNatClampNeg)) (x4 + 1) S hf)
def f_X3_sumUnder (n : Nat) (S : ux_S) (p0 : Int32) (p1 : Int32) : Option (Int32 × ux_S) :=
  ux_lp2 (b_X3_sumUnder_7 n p0 p1) n 0 (p0 + (1 : Int32)) S
set_option maxHeartbeats 2000000 in
set_option maxRecDepth 10000 in
theorem m_X3_sumUnder {l : Launch} {G : ux_G} {n : Nat} {S : ux_S} {p0 : Int32} {p1 : Int32} {r : Int32} {Z : ux_S} (hf : f_X3_sumUnder n S p0 p1 = some (r, Z)) : ux_M l G yX3_sumUnder cX3_sumUnder 5 (some .int) 1 [.ref (ux_a G 7), .int p0, .int p1] S (some (.int r)) Z := by
  refine ux_of (by decide) (Nat.le_of_ble_eq_true rfl) ?_
  show ux_At l G RX3 cX3_sumUnder 5 (some .int) 1 (some (.int r)) Z 0 [(0, .ref (ux_a G 7)), (1, .int p0), (2, .int p1)] [] S
  unfold f_X3_sumUnder at hf
  refine ax_iconst (v := 0) 1 dX3_sumUnder_0 (by decide) rfl ?_
  refine ax_istore_n 2 dX3_sumUnder_1 rfl (by decide) [1, 2, 3, 0] [(0, .ref (ux_a G 7)), (1, .int p0), (2, .int p1), (3, .int 0)] rfl rfl ?_
  refine ax_iload_n 3 dX3_sumUnder_2 rfl 1 rfl rfl ?_
  refine ax_iconst (v := 1) 4 dX3_sumUnder_3 (by decide) rfl ?_
  refine ax_iadd 5 dX3_sumUnder_4 rfl ?_
  refine ax_istore 7 dX3_sumUnder_5 (by decide) [1, 2, 3, 4, 0] [(0, .ref (ux_a G 7)), (1, .int p0), (2, .int p1), (3, .int 0), (4, .int (p0 + (1 : Int32)))] rfl rfl ?_
  exact ax_sub [0, 1, 2, 3, 4] rfl (ux_lp2_w (Pr := fun x3 x4 S => ux_At l G RX3 cX3_sumUnder 5 (some .int) 1 (some (.int r)) Z 7 [(0, .ref (ux_a G 7)), (1, .int p0), (2, .int p1), (3, .int x3), (4, .int x4)] [] S) (fun k7 hk7 => w_X3_sumUnder_7 k7 hk7) n 0 (p0 + (1 : Int32)) S hf)
def f_X3_inferFromBelow (n : Nat) (S : ux_S) (p0 : Int32) : Option (Int32 × ux_S) :=
  ux_bi (f_X3_hasUnder n S p0) (fun r3 S2 => if r3 = 0 then (some (0, S2)) else (ux_bi (f_X3_allKnownUnder n S2 p0 (-4)) (fun r7 S6 => if r7 = 0 then (some (0, S6)) else (ux_bi (f_X3_sumUnder n S6 p0 (-4)) (fun r11 S10 => ux_gd (ux_ib p0 12) (some (1, ux_i S10 53 p0.toNatClampNeg r11)))))))
set_option maxHeartbeats 2000000 in
set_option maxRecDepth 10000 in
theorem m_X3_inferFromBelow {l : Launch} {G : ux_G} {n : Nat} {S : ux_S} {p0 : Int32} {r : Int32} {Z : ux_S} (hf : f_X3_inferFromBelow n S p0 = some (r, Z)) : ux_M l G yX3_inferFromBelow cX3_inferFromBelow 2 (some .boolean) 2 [.ref (ux_a G 7), .int p0] S (some (.int r)) Z := by
  refine ux_of (by decide) (Nat.le_of_ble_eq_true rfl) ?_
  show ux_At l G RX3 cX3_inferFromBelow 2 (some .boolean) 2 (some (.int r)) Z 0 [(0, .ref (ux_a G 7)), (1, .int p0)] [] S
  unfold f_X3_inferFromBelow at hf
  refine ax_aload_n 1 dX3_inferFromBelow_0 rfl 0 rfl rfl ?_
  refine ax_iload_n 2 dX3_inferFromBelow_1 rfl 1 rfl rfl ?_
  obtain ⟨r3, S2, e1, hf⟩ := ux_bi_e hf
  refine ax_callVi 5 [.int p0] dX3_inferFromBelow_2 fv_X3_43 (m_X3_hasUnder e1) (by decide) rfl rfl (by decide) rfl rfl (Nat.le_of_ble_eq_true rfl) rfl ?_
  refine ax_if_eq 18 8 dX3_inferFromBelow_5 (by decide) rfl (fun c4 => ?_) (fun c4 => ?_)
  · have hf := ux_ift c4 hf
    refine ax_iconst (v := 0) 19 dX3_inferFromBelow_18 (by decide) rfl ?_
    exact ax_zret dX3_inferFromBelow_19 rfl hf
  · have hf := ux_iff c4 hf
    refine ax_aload_n 9 dX3_inferFromBelow_8 rfl 0 rfl rfl ?_
    refine ax_iload_n 10 dX3_inferFromBelow_9 rfl 1 rfl rfl ?_
    refine ax_bipush (v := (-4)) 12 dX3_inferFromBelow_10 (by decide) rfl ?_
    obtain ⟨r7, S6, e5, hf⟩ := ux_bi_e hf
    refine ax_callVi 15 [.int p0, .int (-4)] dX3_inferFromBelow_12 fv_X3_46 (m_X3_allKnownUnder e5) (by decide) rfl rfl (by decide) rfl rfl (Nat.le_of_ble_eq_true rfl) rfl ?_
    refine ax_if_ne 20 18 dX3_inferFromBelow_15 (by decide) rfl (fun c8 => ?_) (fun c8 => ?_)
    · have hf := ux_iff c8 hf
      refine ax_aload_n 21 dX3_inferFromBelow_20 rfl 0 rfl rfl ?_
      refine ax_getr 53 24 dX3_inferFromBelow_21 fg_X3_25 rfl (by decide) rfl ?_
      refine ax_iload_n 25 dX3_inferFromBelow_24 rfl 1 rfl rfl ?_
      refine ax_aload_n 26 dX3_inferFromBelow_25 rfl 0 rfl rfl ?_
      refine ax_iload_n 27 dX3_inferFromBelow_26 rfl 1 rfl rfl ?_
      refine ax_bipush (v := (-4)) 29 dX3_inferFromBelow_27 (by decide) rfl ?_
      obtain ⟨r11, S10, e9, hf⟩ := ux_bi_e hf
      refine ax_callVi 32 [.int p0, .int (-4)] dX3_inferFromBelow_29 fv_X3_50 (m_X3_sumUnder e9) (by decide) rfl rfl (by decide) rfl rfl (Nat.le_of_ble_eq_true rfl) rfl ?_
      obtain ⟨h12, hf⟩ := ux_gd_e hf
      refine ax_iast 33 dX3_inferFromBelow_32 (by decide) rfl h12 rfl ?_
      refine ax_iconst (v := 1) 34 dX3_inferFromBelow_33 (by decide) rfl ?_
      exact ax_zret dX3_inferFromBelow_34 rfl hf
    · have hf := ux_ift c8 hf
      refine ax_iconst (v := 0) 19 dX3_inferFromBelow_18 (by decide) rfl ?_
      exact ax_zret dX3_inferFromBelow_19 rfl hf
def f_X3_inferFromAbove (n : Nat) (S : ux_S) (p0 : Int32) : Option (Int32 × ux_S) :=
  ux_gd (ux_ib p0 12) (ux_bi (f_X3_has S (S.1 49 p0.toNatClampNeg)) (fun r4 S3 => if r4 = 0 then (some (0, S3)) else (ux_gd (ux_ib (S.1 49 p0.toNatClampNeg) 12) (if S3.1 52 (S.1 49 p0.toNatClampNeg).toNatClampNeg = 0 then (some (0, S3)) else (ux_bi (f_X3_allKnownUnder n S3 (S.1 49 p0.toNatClampNeg) p0) (fun r10 S9 => if r10 = 0 then (some (0, S9)) else (ux_gd (ux_ib (S.1 49 p0.toNatClampNeg) 12) (ux_bi (f_X3_sumUnder n S9 (S.1 49 p0.toNatClampNeg) p0) (fun r15 S14 => ux_gd (ux_ib p0 12) (some (1, ux_i S14 53 p0.toNatClampNeg ((S9.1 53 (S.1 49 p0.toNatClampNeg).toNatClampNeg) - r15))))))))))))
set_option maxHeartbeats 2000000 in
set_option maxRecDepth 10000 in
theorem m_X3_inferFromAbove {l : Launch} {G : ux_G} {n : Nat} {S : ux_S} {p0 : Int32} {r : Int32} {Z : ux_S} (hf : f_X3_inferFromAbove n S p0 = some (r, Z)) : ux_M l G yX3_inferFromAbove cX3_inferFromAbove 3 (some .boolean) 2 [.ref (ux_a G 7), .int p0] S (some (.int r)) Z := by
  refine ux_of (by decide) (Nat.le_of_ble_eq_true rfl) ?_
  show ux_At l G RX3 cX3_inferFromAbove 3 (some .boolean) 2 (some (.int r)) Z 0 [(0, .ref (ux_a G 7)), (1, .int p0)] [] S
  unfold f_X3_inferFromAbove at hf
  refine ax_aload_n 1 dX3_inferFromAbove_0 rfl 0 rfl rfl ?_
  refine ax_getr 49 4 dX3_inferFromAbove_1 fg_X3_9 rfl (by decide) rfl ?_
  refine ax_iload_n 5 dX3_inferFromAbove_4 rfl 1 rfl rfl ?_
  obtain ⟨h1, hf⟩ := ux_gd_e hf
  refine ax_iald 6 dX3_inferFromAbove_5 (by decide) rfl h1 rfl ?_
  refine ax_istore_n 7 dX3_inferFromAbove_6 rfl (by decide) [1, 2, 0] [(0, .ref (ux_a G 7)), (1, .int p0), (2, .int (S.1 49 p0.toNatClampNeg))] rfl rfl ?_
  refine ax_aload_n 8 dX3_inferFromAbove_7 rfl 0 rfl rfl ?_
  refine ax_iload_n 9 dX3_inferFromAbove_8 rfl 2 rfl rfl ?_
  obtain ⟨r4, S3, e2, hf⟩ := ux_bi_e hf
  refine ax_callVi 12 [.int (S.1 49 p0.toNatClampNeg)] dX3_inferFromAbove_9 fv_X3_54 (m_X3_has e2) (by decide) rfl rfl (by decide) rfl rfl (Nat.le_of_ble_eq_true rfl) rfl ?_
  refine ax_if_eq 33 15 dX3_inferFromAbove_12 (by decide) rfl (fun c5 => ?_) (fun c5 => ?_)
  · have hf := ux_ift c5 hf
    refine ax_iconst (v := 0) 34 dX3_inferFromAbove_33 (by decide) rfl ?_
    exact ax_zret dX3_inferFromAbove_34 rfl hf
  · have hf := ux_iff c5 hf
    refine ax_aload_n 16 dX3_inferFromAbove_15 rfl 0 rfl rfl ?_
    refine ax_getr 52 19 dX3_inferFromAbove_16 fg_X3_22 rfl (by decide) rfl ?_
    refine ax_iload_n 20 dX3_inferFromAbove_19 rfl 2 rfl rfl ?_
    obtain ⟨h6, hf⟩ := ux_gd_e hf
    refine ax_zald 21 dX3_inferFromAbove_20 (by decide) rfl h6 rfl ?_
    refine ax_if_eq 33 24 dX3_inferFromAbove_21 (by decide) rfl (fun c7 => ?_) (fun c7 => ?_)
    · have hf := ux_ift c7 hf
      refine ax_iconst (v := 0) 34 dX3_inferFromAbove_33 (by decide) rfl ?_
      exact ax_zret dX3_inferFromAbove_34 rfl hf
    · have hf := ux_iff c7 hf
      refine ax_aload_n 25 dX3_inferFromAbove_24 rfl 0 rfl rfl ?_
      refine ax_iload_n 26 dX3_inferFromAbove_25 rfl 2 rfl rfl ?_
      refine ax_iload_n 27 dX3_inferFromAbove_26 rfl 1 rfl rfl ?_
      obtain ⟨r10, S9, e8, hf⟩ := ux_bi_e hf
      refine ax_callVi 30 [.int (S.1 49 p0.toNatClampNeg), .int p0] dX3_inferFromAbove_27 fv_X3_46 (m_X3_allKnownUnder e8) (by decide) rfl rfl (by decide) rfl rfl (Nat.le_of_ble_eq_true rfl) rfl ?_
      refine ax_if_ne 35 33 dX3_inferFromAbove_30 (by decide) rfl (fun c11 => ?_) (fun c11 => ?_)
      · have hf := ux_iff c11 hf
        refine ax_aload_n 36 dX3_inferFromAbove_35 rfl 0 rfl rfl ?_
        refine ax_getr 53 39 dX3_inferFromAbove_36 fg_X3_25 rfl (by decide) rfl ?_
        refine ax_iload_n 40 dX3_inferFromAbove_39 rfl 1 rfl rfl ?_
        refine ax_aload_n 41 dX3_inferFromAbove_40 rfl 0 rfl rfl ?_
        refine ax_getr 53 44 dX3_inferFromAbove_41 fg_X3_25 rfl (by decide) rfl ?_
        refine ax_iload_n 45 dX3_inferFromAbove_44 rfl 2 rfl rfl ?_
        obtain ⟨h12, hf⟩ := ux_gd_e hf
        refine ax_iald 46 dX3_inferFromAbove_45 (by decide) rfl h12 rfl ?_
        refine ax_aload_n 47 dX3_inferFromAbove_46 rfl 0 rfl rfl ?_
        refine ax_iload_n 48 dX3_inferFromAbove_47 rfl 2 rfl rfl ?_
        refine ax_iload_n 49 dX3_inferFromAbove_48 rfl 1 rfl rfl ?_
        obtain ⟨r15, S14, e13, hf⟩ := ux_bi_e hf
        refine ax_callVi 52 [.int (S.1 49 p0.toNatClampNeg), .int p0] dX3_inferFromAbove_49 fv_X3_50 (m_X3_sumUnder e13) (by decide) rfl rfl (by decide) rfl rfl (Nat.le_of_ble_eq_true rfl) rfl ?_
        refine ax_isub 53 dX3_inferFromAbove_52 rfl ?_
        obtain ⟨h16, hf⟩ := ux_gd_e hf
        refine ax_iast 54 dX3_inferFromAbove_53 (by decide) rfl h16 rfl ?_
        refine ax_iconst (v := 1) 55 dX3_inferFromAbove_54 (by decide) rfl ?_
        exact ax_zret dX3_inferFromAbove_55 rfl hf
      · have hf := ux_ift c11 hf
        refine ax_iconst (v := 0) 34 dX3_inferFromAbove_33 (by decide) rfl ?_
        exact ax_zret dX3_inferFromAbove_34 rfl hf
def b_X3_inferOnce_37 (n : Nat) (k4 : Int32 → Int32 → ux_S → Option (Int32 × ux_S)) (x2 : Int32) (S : ux_S) : Option (Int32 × ux_S) :=
  ux_gd (ux_ib x2 12) (k4 1 (x2 + 1) (ux_i S 52 x2.toNatClampNeg (vp_nar .boolean 1)))
set_option maxHeartbeats 2000000 in
set_option maxRecDepth 10000 in
theorem w_X3_inferOnce_37 {l : Launch} {G : ux_G} {n : Nat} {r : Int32} {Z : ux_S} (k4 : Int32 → Int32 → ux_S → Option (Int32 × ux_S)) (hk4 : ∀ (x1 x2 : Int32) (S : ux_S), k4 x1 x2 S = some (r, Z) → ux_At l G RX3 cX3_inferOnce 3 (some .boolean) 3 (some (.int r)) Z 4 [(0, .ref (ux_a G 7)), (1, .int x1), (2, .int x2)] [] S) : ∀ (x2 : Int32) (S : ux_S), b_X3_inferOnce_37 n k4 x2 S = some (r, Z) → ux_At l G RX3 cX3_inferOnce 3 (some .boolean) 3 (some (.int r)) Z 37 [(0, .ref (ux_a G 7)), (2, .int x2)] [] S := by
  intro x2 S hf
  unfold b_X3_inferOnce_37 at hf
  refine ax_aload_n 38 dX3_inferOnce_37 rfl 0 rfl rfl ?_
  refine ax_getr 52 41 dX3_inferOnce_38 fg_X3_22 rfl (by decide) rfl ?_
  refine ax_iload_n 42 dX3_inferOnce_41 rfl 1 rfl rfl ?_
  refine ax_iconst (v := 1) 43 dX3_inferOnce_42 (by decide) rfl ?_
  obtain ⟨h9, hf⟩ := ux_gd_e hf
  refine ax_zast 44 dX3_inferOnce_43 (by decide) rfl h9 rfl ?_
  refine ax_iconst (v := 1) 45 dX3_inferOnce_44 (by decide) rfl ?_
  refine ax_istore_n 46 dX3_inferOnce_45 rfl (by decide) [1, 0, 2] [(0, .ref (ux_a G 7)), (1, .int 1), (2, .int x2)] rfl rfl ?_
  refine ax_iinc (v := x2 + 1) 49 dX3_inferOnce_46 2 rfl rfl (by decide) [1, 2, 0] [(0, .ref (ux_a G 7)), (1, .int 1), (2, .int (x2 + 1))] rfl rfl ?_
  refine ax_goto 4 dX3_inferOnce_49 (by decide) ?_
  exact ax_sub [0, 1, 2] rfl (hk4 1 (x2 + 1) (ux_i S 52 x2.toNatClampNeg (vp_nar .boolean 1)) hf)
def b_X3_inferOnce_4 (n : Nat) (k4 : Int32 → Int32 → ux_S → Option (Int32 × ux_S)) (x1 : Int32) (x2 : Int32) (S : ux_S) : Option (Int32 × ux_S) :=
  if S.1 7 5 ≤ x2 then (ux_gd (ux_zb x1) (some (x1, S))) else (ux_gd (ux_ib x2 12) (if S.1 52 x2.toNatClampNeg = 0 then (ux_bi (f_X3_inferFromBelow n S x2) (fun r7 S6 => if r7 = 0 then (ux_bi (f_X3_inferFromAbove n S6 x2) (fun r12 S11 => if r12 = 0 then (k4 x1 (x2 + 1) S11) else (b_X3_inferOnce_37 n k4 x2 S11))) else (b_X3_inferOnce_37 n k4 x2 S6))) else (k4 x1 (x2 + 1) S)))
set_option maxHeartbeats 2000000 in
set_option maxRecDepth 10000 in
theorem w_X3_inferOnce_4 {l : Launch} {G : ux_G} {n : Nat} {r : Int32} {Z : ux_S} (k4 : Int32 → Int32 → ux_S → Option (Int32 × ux_S)) (hk4 : ∀ (x1 x2 : Int32) (S : ux_S), k4 x1 x2 S = some (r, Z) → ux_At l G RX3 cX3_inferOnce 3 (some .boolean) 3 (some (.int r)) Z 4 [(0, .ref (ux_a G 7)), (1, .int x1), (2, .int x2)] [] S) : ∀ (x1 : Int32) (x2 : Int32) (S : ux_S), b_X3_inferOnce_4 n k4 x1 x2 S = some (r, Z) → ux_At l G RX3 cX3_inferOnce 3 (some .boolean) 3 (some (.int r)) Z 4 [(0, .ref (ux_a G 7)), (1, .int x1), (2, .int x2)] [] S := by
  intro x1 x2 S hf
  unfold b_X3_inferOnce_4 at hf
  refine ax_iload_n 5 dX3_inferOnce_4 rfl 2 rfl rfl ?_
  refine ax_aload_n 6 dX3_inferOnce_5 rfl 0 rfl rfl ?_
  refine ax_geti 9 dX3_inferOnce_6 fg_X3_28 rfl rfl ?_
  refine ax_icmp_ge 52 12 dX3_inferOnce_9 (by decide) rfl (fun c1 => ?_) (fun c1 => ?_)
  · have hf := ux_ift c1 hf
    refine ax_iload_n 53 dX3_inferOnce_52 rfl 1 rfl rfl ?_
    obtain ⟨h2, hf⟩ := ux_gd_e hf
    exact ax_zret dX3_inferOnce_53 (ux_zb_of h2) hf
  · have hf := ux_iff c1 hf
    refine ax_aload_n 13 dX3_inferOnce_12 rfl 0 rfl rfl ?_
    refine ax_getr 52 16 dX3_inferOnce_13 fg_X3_22 rfl (by decide) rfl ?_
    refine ax_iload_n 17 dX3_inferOnce_16 rfl 2 rfl rfl ?_
    obtain ⟨h3, hf⟩ := ux_gd_e hf
    refine ax_zald 18 dX3_inferOnce_17 (by decide) rfl h3 rfl ?_
    refine ax_if_ne 46 21 dX3_inferOnce_18 (by decide) rfl (fun c4 => ?_) (fun c4 => ?_)
    · have hf := ux_iff c4 hf
      refine ax_iinc (v := x2 + 1) 49 dX3_inferOnce_46 2 rfl rfl (by decide) [1, 2, 0] [(0, .ref (ux_a G 7)), (1, .int x1), (2, .int (x2 + 1))] rfl rfl ?_
      refine ax_goto 4 dX3_inferOnce_49 (by decide) ?_
      exact ax_sub [0, 1, 2] rfl (hk4 x1 (x2 + 1) S hf)
    · have hf := ux_ift c4 hf
      refine ax_aload_n 22 dX3_inferOnce_21 rfl 0 rfl rfl ?_
      refine ax_iload_n 23 dX3_inferOnce_22 rfl 2 rfl rfl ?_
      obtain ⟨r7, S6, e5, hf⟩ := ux_bi_e hf
      refine ax_callVi 26 [.int x2] dX3_inferOnce_23 fv_X3_36 (m_X3_inferFromBelow e5) (by decide) rfl rfl (by decide) rfl rfl (Nat.le_of_ble_eq_true rfl) rfl ?_
      refine ax_if_ne 37 29 dX3_inferOnce_26 (by decide) rfl (fun c8 => ?_) (fun c8 => ?_)
      · have hf := ux_iff c8 hf
        exact ax_sub [0, 2] rfl (w_X3_inferOnce_37 k4 hk4 x2 S6 hf)
      · have hf := ux_ift c8 hf
        refine ax_aload_n 30 dX3_inferOnce_29 rfl 0 rfl rfl ?_
        refine ax_iload_n 31 dX3_inferOnce_30 rfl 2 rfl rfl ?_
        obtain ⟨r12, S11, e10, hf⟩ := ux_bi_e hf
        refine ax_callVi 34 [.int x2] dX3_inferOnce_31 fv_X3_40 (m_X3_inferFromAbove e10) (by decide) rfl rfl (by decide) rfl rfl (Nat.le_of_ble_eq_true rfl) rfl ?_
        refine ax_if_eq 46 37 dX3_inferOnce_34 (by decide) rfl (fun c13 => ?_) (fun c13 => ?_)
        · have hf := ux_ift c13 hf
          refine ax_iinc (v := x2 + 1) 49 dX3_inferOnce_46 2 rfl rfl (by decide) [1, 2, 0] [(0, .ref (ux_a G 7)), (1, .int x1), (2, .int (x2 + 1))] rfl rfl ?_
          refine ax_goto 4 dX3_inferOnce_49 (by decide) ?_
          exact ax_sub [0, 1, 2] rfl (hk4 x1 (x2 + 1) S11 hf)
        · have hf := ux_iff c13 hf
          exact ax_sub [0, 2] rfl (w_X3_inferOnce_37 k4 hk4 x2 S11 hf)
def f_X3_inferOnce (n : Nat) (S : ux_S) : Option (Int32 × ux_S) :=
  ux_lp2 (b_X3_inferOnce_4 n) n 0 0 S
set_option maxHeartbeats 2000000 in
set_option maxRecDepth 10000 in
theorem m_X3_inferOnce {l : Launch} {G : ux_G} {n : Nat} {S : ux_S} {r : Int32} {Z : ux_S} (hf : f_X3_inferOnce n S = some (r, Z)) : ux_M l G yX3_inferOnce cX3_inferOnce 3 (some .boolean) 3 [.ref (ux_a G 7)] S (some (.int r)) Z := by
  refine ux_of (by decide) (Nat.le_of_ble_eq_true rfl) ?_
  show ux_At l G RX3 cX3_inferOnce 3 (some .boolean) 3 (some (.int r)) Z 0 [(0, .ref (ux_a G 7))] [] S
  unfold f_X3_inferOnce at hf
  refine ax_iconst (v := 0) 1 dX3_inferOnce_0 (by decide) rfl ?_
  refine ax_istore_n 2 dX3_inferOnce_1 rfl (by decide) [1, 0] [(0, .ref (ux_a G 7)), (1, .int 0)] rfl rfl ?_
  refine ax_iconst (v := 0) 3 dX3_inferOnce_2 (by decide) rfl ?_
  refine ax_istore_n 4 dX3_inferOnce_3 rfl (by decide) [1, 2, 0] [(0, .ref (ux_a G 7)), (1, .int 0), (2, .int 0)] rfl rfl ?_
  exact ax_sub [0, 1, 2] rfl (ux_lp2_w (Pr := fun x1 x2 S => ux_At l G RX3 cX3_inferOnce 3 (some .boolean) 3 (some (.int r)) Z 4 [(0, .ref (ux_a G 7)), (1, .int x1), (2, .int x2)] [] S) (fun k4 hk4 => w_X3_inferOnce_4 k4 hk4) n 0 0 S hf)
def b_X3_infer_44 (n : Nat) (k44 : Int32 → Int32 → ux_S → Option ux_S) (x1 : Int32) (x2 : Int32) (S : ux_S) : Option ux_S :=
  if x1 = 0 then (some S) else (if S.1 7 5 < x2 then (some S) else (ux_bi (f_X3_inferOnce n S ) (fun r6 S5 => k44 r6 (x2 + 1) S5)))
set_option maxHeartbeats 2000000 in
set_option maxRecDepth 10000 in
theorem w_X3_infer_44 {l : Launch} {G : ux_G} {n : Nat} {Z : ux_S} (k44 : Int32 → Int32 → ux_S → Option ux_S) (hk44 : ∀ (x1 x2 : Int32) (S : ux_S), k44 x1 x2 S = some Z → ux_At l G RX3 cX3_infer 3 none 4 none Z 44 [(0, .ref (ux_a G 7)), (1, .int x1), (2, .int x2)] [] S) : ∀ (x1 : Int32) (x2 : Int32) (S : ux_S), b_X3_infer_44 n k44 x1 x2 S = some Z → ux_At l G RX3 cX3_infer 3 none 4 none Z 44 [(0, .ref (ux_a G 7)), (1, .int x1), (2, .int x2)] [] S := by
  intro x1 x2 S hf
  unfold b_X3_infer_44 at hf
  refine ax_iload_n 45 dX3_infer_44 rfl 1 rfl rfl ?_
  refine ax_if_eq 67 48 dX3_infer_45 (by decide) rfl (fun c2 => ?_) (fun c2 => ?_)
  · have hf := ux_ift c2 hf
    exact ax_vret dX3_infer_67 hf
  · have hf := ux_iff c2 hf
    refine ax_iload_n 49 dX3_infer_48 rfl 2 rfl rfl ?_
    refine ax_aload_n 50 dX3_infer_49 rfl 0 rfl rfl ?_
    refine ax_geti 53 dX3_infer_50 fg_X3_28 rfl rfl ?_
    refine ax_icmp_gt 67 56 dX3_infer_53 (by decide) rfl (fun c3 => ?_) (fun c3 => ?_)
    · have hf := ux_ift c3 hf
      exact ax_vret dX3_infer_67 hf
    · have hf := ux_iff c3 hf
      refine ax_aload_n 57 dX3_infer_56 rfl 0 rfl rfl ?_
      obtain ⟨r6, S5, e4, hf⟩ := ux_bi_e hf
      refine ax_callVi 60 [] dX3_infer_57 fv_X3_32 (m_X3_inferOnce e4) (by decide) rfl rfl (by decide) rfl rfl (Nat.le_of_ble_eq_true rfl) rfl ?_
      refine ax_istore_n 61 dX3_infer_60 rfl (by decide) [1, 0, 2] [(0, .ref (ux_a G 7)), (1, .int r6), (2, .int x2)] rfl rfl ?_
      refine ax_iinc (v := x2 + 1) 64 dX3_infer_61 2 rfl rfl (by decide) [1, 2, 0] [(0, .ref (ux_a G 7)), (1, .int r6), (2, .int (x2 + 1))] rfl rfl ?_
      refine ax_goto 44 dX3_infer_64 (by decide) ?_
      exact ax_sub [0, 1, 2] rfl (hk44 r6 (x2 + 1) S5 hf)
def b_X3_infer_2 (n : Nat) (k2 : Int32 → ux_S → Option ux_S) (x1 : Int32) (S : ux_S) : Option ux_S :=
  if S.1 7 5 ≤ x1 then (ux_lp2 (b_X3_infer_44 n) n 1 0 S) else (ux_gd (ux_ib x1 12) (ux_gd (ux_ib x1 12) (ux_gd (ux_ib x1 12) (ux_gd (ux_ib x1 12) (k2 (x1 + 1) (ux_i (ux_i S 52 x1.toNatClampNeg (vp_nar .boolean (S.1 50 x1.toNatClampNeg))) 53 x1.toNatClampNeg ((ux_i S 52 x1.toNatClampNeg (vp_nar .boolean (S.1 50 x1.toNatClampNeg))).1 51 x1.toNatClampNeg)))))))
set_option maxHeartbeats 2000000 in
set_option maxRecDepth 10000 in
theorem w_X3_infer_2 {l : Launch} {G : ux_G} {n : Nat} {Z : ux_S} (k2 : Int32 → ux_S → Option ux_S) (hk2 : ∀ (x1 : Int32) (S : ux_S), k2 x1 S = some Z → ux_At l G RX3 cX3_infer 3 none 4 none Z 2 [(0, .ref (ux_a G 7)), (1, .int x1)] [] S) : ∀ (x1 : Int32) (S : ux_S), b_X3_infer_2 n k2 x1 S = some Z → ux_At l G RX3 cX3_infer 3 none 4 none Z 2 [(0, .ref (ux_a G 7)), (1, .int x1)] [] S := by
  intro x1 S hf
  unfold b_X3_infer_2 at hf
  refine ax_iload_n 3 dX3_infer_2 rfl 1 rfl rfl ?_
  refine ax_aload_n 4 dX3_infer_3 rfl 0 rfl rfl ?_
  refine ax_geti 7 dX3_infer_4 fg_X3_28 rfl rfl ?_
  refine ax_icmp_ge 40 10 dX3_infer_7 (by decide) rfl (fun c1 => ?_) (fun c1 => ?_)
  · have hf := ux_ift c1 hf
    refine ax_iconst (v := 1) 41 dX3_infer_40 (by decide) rfl ?_
    refine ax_istore_n 42 dX3_infer_41 rfl (by decide) [1, 0] [(0, .ref (ux_a G 7)), (1, .int 1)] rfl rfl ?_
    refine ax_iconst (v := 0) 43 dX3_infer_42 (by decide) rfl ?_
    refine ax_istore_n 44 dX3_infer_43 rfl (by decide) [1, 2, 0] [(0, .ref (ux_a G 7)), (1, .int 1), (2, .int 0)] rfl rfl ?_
    exact ax_sub [0, 1, 2] rfl (ux_lp2_w (Pr := fun x1 x2 S => ux_At l G RX3 cX3_infer 3 none 4 none Z 44 [(0, .ref (ux_a G 7)), (1, .int x1), (2, .int x2)] [] S) (fun k44 hk44 => w_X3_infer_44 k44 hk44) n 1 0 S hf)
  · have hf := ux_iff c1 hf
    refine ax_aload_n 11 dX3_infer_10 rfl 0 rfl rfl ?_
    refine ax_getr 52 14 dX3_infer_11 fg_X3_22 rfl (by decide) rfl ?_
    refine ax_iload_n 15 dX3_infer_14 rfl 1 rfl rfl ?_
    refine ax_aload_n 16 dX3_infer_15 rfl 0 rfl rfl ?_
    refine ax_getr 50 19 dX3_infer_16 fg_X3_15 rfl (by decide) rfl ?_
    refine ax_iload_n 20 dX3_infer_19 rfl 1 rfl rfl ?_
    obtain ⟨h7, hf⟩ := ux_gd_e hf
    refine ax_zald 21 dX3_infer_20 (by decide) rfl h7 rfl ?_
    obtain ⟨h8, hf⟩ := ux_gd_e hf
    refine ax_zast 22 dX3_infer_21 (by decide) rfl h8 rfl ?_
    refine ax_aload_n 23 dX3_infer_22 rfl 0 rfl rfl ?_
    refine ax_getr 53 26 dX3_infer_23 fg_X3_25 rfl (by decide) rfl ?_
    refine ax_iload_n 27 dX3_infer_26 rfl 1 rfl rfl ?_
    refine ax_aload_n 28 dX3_infer_27 rfl 0 rfl rfl ?_
    refine ax_getr 51 31 dX3_infer_28 fg_X3_19 rfl (by decide) rfl ?_
    refine ax_iload_n 32 dX3_infer_31 rfl 1 rfl rfl ?_
    obtain ⟨h9, hf⟩ := ux_gd_e hf
    refine ax_iald 33 dX3_infer_32 (by decide) rfl h9 rfl ?_
    obtain ⟨h10, hf⟩ := ux_gd_e hf
    refine ax_iast 34 dX3_infer_33 (by decide) rfl h10 rfl ?_
    refine ax_iinc (v := x1 + 1) 37 dX3_infer_34 1 rfl rfl (by decide) [1, 0] [(0, .ref (ux_a G 7)), (1, .int (x1 + 1))] rfl rfl ?_
    refine ax_goto 2 dX3_infer_37 (by decide) ?_
    exact ax_sub [0, 1] rfl (hk2 (x1 + 1) (ux_i (ux_i S 52 x1.toNatClampNeg (vp_nar .boolean (S.1 50 x1.toNatClampNeg))) 53 x1.toNatClampNeg ((ux_i S 52 x1.toNatClampNeg (vp_nar .boolean (S.1 50 x1.toNatClampNeg))).1 51 x1.toNatClampNeg)) hf)
def f_X3_infer (n : Nat) (S : ux_S) : Option ux_S :=
  ux_lp1 (b_X3_infer_2 n) n 0 S
set_option maxHeartbeats 2000000 in
set_option maxRecDepth 10000 in
theorem m_X3_infer {l : Launch} {G : ux_G} {n : Nat} {S : ux_S} {Z : ux_S} (hf : f_X3_infer n S = some Z) : ux_M l G yX3_infer cX3_infer 3 none 4 [.ref (ux_a G 7)] S none Z := by
  refine ux_of (by decide) (Nat.le_of_ble_eq_true rfl) ?_
  show ux_At l G RX3 cX3_infer 3 none 4 none Z 0 [(0, .ref (ux_a G 7))] [] S
  unfold f_X3_infer at hf
  refine ax_iconst (v := 0) 1 dX3_infer_0 (by decide) rfl ?_
  refine ax_istore_n 2 dX3_infer_1 rfl (by decide) [1, 0] [(0, .ref (ux_a G 7)), (1, .int 0)] rfl rfl ?_
  exact ax_sub [0, 1] rfl (ux_lp1_w (Pr := fun x1 S => ux_At l G RX3 cX3_infer 3 none 4 none Z 2 [(0, .ref (ux_a G 7)), (1, .int x1)] [] S) (fun k2 hk2 => w_X3_infer_2 k2 hk2) n 0 S hf)
def f_X3_isAtOdds (n : Nat) (S : ux_S) (p0 : Int32) : Option (Int32 × ux_S) :=
  ux_gd (ux_ib p0 12) (if S.1 52 p0.toNatClampNeg = 0 then (some (0, S)) else (ux_bi (f_X3_hasUnder n S p0) (fun r5 S4 => if r5 = 0 then (some (0, S4)) else (ux_bi (f_X3_allKnownUnder n S4 p0 (-4)) (fun r9 S8 => if r9 = 0 then (some (0, S8)) else (ux_bi (f_X3_sumUnder n S8 p0 (-4)) (fun r13 S12 => ux_gd (ux_ib p0 12) (if r13 = S12.1 53 p0.toNatClampNeg then (some (0, S12)) else (some (1, S12))))))))))
set_option maxHeartbeats 2000000 in
set_option maxRecDepth 10000 in
theorem m_X3_isAtOdds {l : Launch} {G : ux_G} {n : Nat} {S : ux_S} {p0 : Int32} {r : Int32} {Z : ux_S} (hf : f_X3_isAtOdds n S p0 = some (r, Z)) : ux_M l G yX3_isAtOdds cX3_isAtOdds 2 (some .boolean) 2 [.ref (ux_a G 7), .int p0] S (some (.int r)) Z := by
  refine ux_of (by decide) (Nat.le_of_ble_eq_true rfl) ?_
  show ux_At l G RX3 cX3_isAtOdds 2 (some .boolean) 2 (some (.int r)) Z 0 [(0, .ref (ux_a G 7)), (1, .int p0)] [] S
  unfold f_X3_isAtOdds at hf
  refine ax_aload_n 1 dX3_isAtOdds_0 rfl 0 rfl rfl ?_
  refine ax_getr 52 4 dX3_isAtOdds_1 fg_X3_22 rfl (by decide) rfl ?_
  refine ax_iload_n 5 dX3_isAtOdds_4 rfl 1 rfl rfl ?_
  obtain ⟨h1, hf⟩ := ux_gd_e hf
  refine ax_zald 6 dX3_isAtOdds_5 (by decide) rfl h1 rfl ?_
  refine ax_if_eq 47 9 dX3_isAtOdds_6 (by decide) rfl (fun c2 => ?_) (fun c2 => ?_)
  · have hf := ux_ift c2 hf
    refine ax_iconst (v := 0) 48 dX3_isAtOdds_47 (by decide) rfl ?_
    exact ax_zret dX3_isAtOdds_48 rfl hf
  · have hf := ux_iff c2 hf
    refine ax_aload_n 10 dX3_isAtOdds_9 rfl 0 rfl rfl ?_
    refine ax_iload_n 11 dX3_isAtOdds_10 rfl 1 rfl rfl ?_
    obtain ⟨r5, S4, e3, hf⟩ := ux_bi_e hf
    refine ax_callVi 14 [.int p0] dX3_isAtOdds_11 fv_X3_43 (m_X3_hasUnder e3) (by decide) rfl rfl (by decide) rfl rfl (Nat.le_of_ble_eq_true rfl) rfl ?_
    refine ax_if_eq 47 17 dX3_isAtOdds_14 (by decide) rfl (fun c6 => ?_) (fun c6 => ?_)
    · have hf := ux_ift c6 hf
      refine ax_iconst (v := 0) 48 dX3_isAtOdds_47 (by decide) rfl ?_
      exact ax_zret dX3_isAtOdds_48 rfl hf
    · have hf := ux_iff c6 hf
      refine ax_aload_n 18 dX3_isAtOdds_17 rfl 0 rfl rfl ?_
      refine ax_iload_n 19 dX3_isAtOdds_18 rfl 1 rfl rfl ?_
      refine ax_bipush (v := (-4)) 21 dX3_isAtOdds_19 (by decide) rfl ?_
      obtain ⟨r9, S8, e7, hf⟩ := ux_bi_e hf
      refine ax_callVi 24 [.int p0, .int (-4)] dX3_isAtOdds_21 fv_X3_46 (m_X3_allKnownUnder e7) (by decide) rfl rfl (by decide) rfl rfl (Nat.le_of_ble_eq_true rfl) rfl ?_
      refine ax_if_eq 47 27 dX3_isAtOdds_24 (by decide) rfl (fun c10 => ?_) (fun c10 => ?_)
      · have hf := ux_ift c10 hf
        refine ax_iconst (v := 0) 48 dX3_isAtOdds_47 (by decide) rfl ?_
        exact ax_zret dX3_isAtOdds_48 rfl hf
      · have hf := ux_iff c10 hf
        refine ax_aload_n 28 dX3_isAtOdds_27 rfl 0 rfl rfl ?_
        refine ax_iload_n 29 dX3_isAtOdds_28 rfl 1 rfl rfl ?_
        refine ax_bipush (v := (-4)) 31 dX3_isAtOdds_29 (by decide) rfl ?_
        obtain ⟨r13, S12, e11, hf⟩ := ux_bi_e hf
        refine ax_callVi 34 [.int p0, .int (-4)] dX3_isAtOdds_31 fv_X3_50 (m_X3_sumUnder e11) (by decide) rfl rfl (by decide) rfl rfl (Nat.le_of_ble_eq_true rfl) rfl ?_
        refine ax_aload_n 35 dX3_isAtOdds_34 rfl 0 rfl rfl ?_
        refine ax_getr 53 38 dX3_isAtOdds_35 fg_X3_25 rfl (by decide) rfl ?_
        refine ax_iload_n 39 dX3_isAtOdds_38 rfl 1 rfl rfl ?_
        obtain ⟨h14, hf⟩ := ux_gd_e hf
        refine ax_iald 40 dX3_isAtOdds_39 (by decide) rfl h14 rfl ?_
        refine ax_icmp_eq 47 43 dX3_isAtOdds_40 (by decide) rfl (fun c15 => ?_) (fun c15 => ?_)
        · have hf := ux_ift c15 hf
          refine ax_iconst (v := 0) 48 dX3_isAtOdds_47 (by decide) rfl ?_
          exact ax_zret dX3_isAtOdds_48 rfl hf
        · have hf := ux_iff c15 hf
          refine ax_iconst (v := 1) 44 dX3_isAtOdds_43 (by decide) rfl ?_
          refine ax_goto 48 dX3_isAtOdds_44 (by decide) ?_
          exact ax_zret dX3_isAtOdds_48 rfl hf
def b_X3_countKnown_8 (n : Nat) (k8 : Int32 → Int32 → ux_S → Option (Int32 × ux_S)) (x1 : Int32) (x2 : Int32) (S : ux_S) : Option (Int32 × ux_S) :=
  if S.1 7 5 ≤ x2 then (some (x1, S)) else (ux_gd (ux_ib x2 12) (if S.1 52 x2.toNatClampNeg = 0 then (k8 x1 (x2 + 1) S) else (k8 (x1 + 1) (x2 + 1) S)))
set_option maxHeartbeats 2000000 in
set_option maxRecDepth 10000 in
theorem w_X3_countKnown_8 {l : Launch} {G : ux_G} {n : Nat} {r : Int32} {Z : ux_S} (k8 : Int32 → Int32 → ux_S → Option (Int32 × ux_S)) (hk8 : ∀ (x1 x2 : Int32) (S : ux_S), k8 x1 x2 S = some (r, Z) → ux_At l G RX3 cX3_countKnown 3 (some .int) 5 (some (.int r)) Z 8 [(0, .ref (ux_a G 7)), (1, .int x1), (2, .int x2)] [] S) : ∀ (x1 : Int32) (x2 : Int32) (S : ux_S), b_X3_countKnown_8 n k8 x1 x2 S = some (r, Z) → ux_At l G RX3 cX3_countKnown 3 (some .int) 5 (some (.int r)) Z 8 [(0, .ref (ux_a G 7)), (1, .int x1), (2, .int x2)] [] S := by
  intro x1 x2 S hf
  unfold b_X3_countKnown_8 at hf
  refine ax_iload_n 9 dX3_countKnown_8 rfl 2 rfl rfl ?_
  refine ax_aload_n 10 dX3_countKnown_9 rfl 0 rfl rfl ?_
  refine ax_geti 13 dX3_countKnown_10 fg_X3_28 rfl rfl ?_
  refine ax_icmp_ge 34 16 dX3_countKnown_13 (by decide) rfl (fun c4 => ?_) (fun c4 => ?_)
  · have hf := ux_ift c4 hf
    refine ax_iload_n 35 dX3_countKnown_34 rfl 1 rfl rfl ?_
    exact ax_iret dX3_countKnown_35 hf
  · have hf := ux_iff c4 hf
    refine ax_aload_n 17 dX3_countKnown_16 rfl 0 rfl rfl ?_
    refine ax_getr 52 20 dX3_countKnown_17 fg_X3_22 rfl (by decide) rfl ?_
    refine ax_iload_n 21 dX3_countKnown_20 rfl 2 rfl rfl ?_
    obtain ⟨h5, hf⟩ := ux_gd_e hf
    refine ax_zald 22 dX3_countKnown_21 (by decide) rfl h5 rfl ?_
    refine ax_if_eq 28 25 dX3_countKnown_22 (by decide) rfl (fun c6 => ?_) (fun c6 => ?_)
    · have hf := ux_ift c6 hf
      refine ax_iinc (v := x2 + 1) 31 dX3_countKnown_28 2 rfl rfl (by decide) [1, 2, 0] [(0, .ref (ux_a G 7)), (1, .int x1), (2, .int (x2 + 1))] rfl rfl ?_
      refine ax_goto 8 dX3_countKnown_31 (by decide) ?_
      exact ax_sub [0, 1, 2] rfl (hk8 x1 (x2 + 1) S hf)
    · have hf := ux_iff c6 hf
      refine ax_iinc (v := x1 + 1) 28 dX3_countKnown_25 1 rfl rfl (by decide) [1, 0, 2] [(0, .ref (ux_a G 7)), (1, .int (x1 + 1)), (2, .int x2)] rfl rfl ?_
      refine ax_iinc (v := x2 + 1) 31 dX3_countKnown_28 2 rfl rfl (by decide) [1, 2, 0] [(0, .ref (ux_a G 7)), (1, .int (x1 + 1)), (2, .int (x2 + 1))] rfl rfl ?_
      refine ax_goto 8 dX3_countKnown_31 (by decide) ?_
      exact ax_sub [0, 1, 2] rfl (hk8 (x1 + 1) (x2 + 1) S hf)
def f_X3_countKnown (n : Nat) (S : ux_S) : Option (Int32 × ux_S) :=
  ux_bv (f_X3_infer n S ) (fun S2 => ux_lp2 (b_X3_countKnown_8 n) n 0 0 S2)
set_option maxHeartbeats 2000000 in
set_option maxRecDepth 10000 in
theorem m_X3_countKnown {l : Launch} {G : ux_G} {n : Nat} {S : ux_S} {r : Int32} {Z : ux_S} (hf : f_X3_countKnown n S = some (r, Z)) : ux_M l G yX3_countKnown cX3_countKnown 3 (some .int) 5 [.ref (ux_a G 7)] S (some (.int r)) Z := by
  refine ux_of (by decide) (Nat.le_of_ble_eq_true rfl) ?_
  show ux_At l G RX3 cX3_countKnown 3 (some .int) 5 (some (.int r)) Z 0 [(0, .ref (ux_a G 7))] [] S
  unfold f_X3_countKnown at hf
  refine ax_aload_n 1 dX3_countKnown_0 rfl 0 rfl rfl ?_
  obtain ⟨S2, e1, hf⟩ := ux_bv_e hf
  refine ax_callVv 4 [] dX3_countKnown_1 fv_X3_57 (m_X3_infer e1) (by decide) rfl rfl (by decide) rfl rfl (Nat.le_of_ble_eq_true rfl) rfl ?_
  refine ax_iconst (v := 0) 5 dX3_countKnown_4 (by decide) rfl ?_
  refine ax_istore_n 6 dX3_countKnown_5 rfl (by decide) [1, 0] [(0, .ref (ux_a G 7)), (1, .int 0)] rfl rfl ?_
  refine ax_iconst (v := 0) 7 dX3_countKnown_6 (by decide) rfl ?_
  refine ax_istore_n 8 dX3_countKnown_7 rfl (by decide) [1, 2, 0] [(0, .ref (ux_a G 7)), (1, .int 0), (2, .int 0)] rfl rfl ?_
  exact ax_sub [0, 1, 2] rfl (ux_lp2_w (Pr := fun x1 x2 S => ux_At l G RX3 cX3_countKnown 3 (some .int) 5 (some (.int r)) Z 8 [(0, .ref (ux_a G 7)), (1, .int x1), (2, .int x2)] [] S) (fun k8 hk8 => w_X3_countKnown_8 k8 hk8) n 0 0 S2 hf)
