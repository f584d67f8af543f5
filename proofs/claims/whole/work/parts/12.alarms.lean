/-! printed by program (wip/gen): pure functions and contracts -/

def f_X0_add (S : ux_S) (p0 : Int32) : Option (Int32 × ux_S) :=
  if S.1 6 1 < 10 then (ux_gd (ux_ib (S.1 6 1) 10) (some (((ux_i (ux_i S 48 (S.1 6 1).toNatClampNeg p0) 6 1 (((ux_i S 48 (S.1 6 1).toNatClampNeg p0).1 6 1) + (1 : Int32))).1 6 1) - (1 : Int32), ux_i (ux_i S 48 (S.1 6 1).toNatClampNeg p0) 6 1 (((ux_i S 48 (S.1 6 1).toNatClampNeg p0).1 6 1) + (1 : Int32))))) else (some ((-3), S))
set_option maxHeartbeats 2000000 in
set_option maxRecDepth 10000 in
theorem m_X0_add {l : Launch} {G : ux_G} {S : ux_S} {p0 : Int32} {r : Int32} {Z : ux_S} (hf : f_X0_add S p0 = some (r, Z)) : ux_M l G yX0_add cX0_add 2 (some .int) 1 [.ref (ux_a G 6), .int p0] S (some (.int r)) Z := by
  refine ux_of (by decide) (Nat.le_of_ble_eq_true rfl) ?_
  show ux_At l G RX0 cX0_add 2 (some .int) 1 (some (.int r)) Z 0 [(0, .ref (ux_a G 6)), (1, .int p0)] [] S
  unfold f_X0_add at hf
  refine ax_aload_n 1 dX0_add_0 rfl 0 rfl rfl ?_
  refine ax_geti 4 dX0_add_1 fg_X0_15 rfl rfl ?_
  refine ax_bipush (v := 10) 6 dX0_add_4 (by decide) rfl ?_
  refine ax_icmp_lt 12 9 dX0_add_6 (by decide) rfl (fun c1 => ?_) (fun c1 => ?_)
  · have hf := ux_ift c1 hf
    refine ax_aload_n 13 dX0_add_12 rfl 0 rfl rfl ?_
    refine ax_getr 48 16 dX0_add_13 fg_X0_9 rfl (by decide) rfl ?_
    refine ax_aload_n 17 dX0_add_16 rfl 0 rfl rfl ?_
    refine ax_geti 20 dX0_add_17 fg_X0_15 rfl rfl ?_
    refine ax_iload_n 21 dX0_add_20 rfl 1 rfl rfl ?_
    obtain ⟨h2, hf⟩ := ux_gd_e hf
    refine ax_iast 22 dX0_add_21 (by decide) rfl h2 rfl ?_
    refine ax_aload_n 23 dX0_add_22 rfl 0 rfl rfl ?_
    refine ax_dup 24 dX0_add_23 rfl rfl ?_
    refine ax_geti 27 dX0_add_24 fg_X0_15 rfl rfl ?_
    refine ax_iconst (v := 1) 28 dX0_add_27 (by decide) rfl ?_
    refine ax_iadd 29 dX0_add_28 rfl ?_
    refine ax_put 32 dX0_add_29 fp_X0_15 rfl ?_
    refine ax_aload_n 33 dX0_add_32 rfl 0 rfl rfl ?_
    refine ax_geti 36 dX0_add_33 fg_X0_15 rfl rfl ?_
    refine ax_iconst (v := 1) 37 dX0_add_36 (by decide) rfl ?_
    refine ax_isub 38 dX0_add_37 rfl ?_
    exact ax_iret dX0_add_38 hf
  · have hf := ux_iff c1 hf
    refine ax_bipush (v := (-3)) 11 dX0_add_9 (by decide) rfl ?_
    exact ax_iret dX0_add_11 hf
def b_X0_likely_4 (n : Nat) (k4 : Int32 → Int32 → ux_S → Option (Int32 × ux_S)) (x1 : Int32) (x2 : Int32) (S : ux_S) : Option (Int32 × ux_S) :=
  if S.1 6 1 ≤ x2 then (some (x1, S)) else (ux_gd (ux_ib x2 10) (if (S.1 48 x2.toNatClampNeg) &&& ((S.1 6 2) ^^^ ((-1) : Int32)) = 0 then (k4 (x1 ||| ((1 : Int32) <<< (x2 &&& 31))) (x2 + 1) S) else (k4 x1 (x2 + 1) S)))
set_option maxHeartbeats 2000000 in
set_option maxRecDepth 10000 in
theorem w_X0_likely_4 {l : Launch} {G : ux_G} {n : Nat} {r : Int32} {Z : ux_S} (k4 : Int32 → Int32 → ux_S → Option (Int32 × ux_S)) (hk4 : ∀ (x1 x2 : Int32) (S : ux_S), k4 x1 x2 S = some (r, Z) → ux_At l G RX0 cX0_likely 3 (some .int) 1 (some (.int r)) Z 4 [(0, .ref (ux_a G 6)), (1, .int x1), (2, .int x2)] [] S) : ∀ (x1 : Int32) (x2 : Int32) (S : ux_S), b_X0_likely_4 n k4 x1 x2 S = some (r, Z) → ux_At l G RX0 cX0_likely 3 (some .int) 1 (some (.int r)) Z 4 [(0, .ref (ux_a G 6)), (1, .int x1), (2, .int x2)] [] S := by
  intro x1 x2 S hf
  unfold b_X0_likely_4 at hf
  refine ax_iload_n 5 dX0_likely_4 rfl 2 rfl rfl ?_
  refine ax_aload_n 6 dX0_likely_5 rfl 0 rfl rfl ?_
  refine ax_geti 9 dX0_likely_6 fg_X0_15 rfl rfl ?_
  refine ax_icmp_ge 40 12 dX0_likely_9 (by decide) rfl (fun c1 => ?_) (fun c1 => ?_)
  · have hf := ux_ift c1 hf
    refine ax_iload_n 41 dX0_likely_40 rfl 1 rfl rfl ?_
    exact ax_iret dX0_likely_41 hf
  · have hf := ux_iff c1 hf
    refine ax_aload_n 13 dX0_likely_12 rfl 0 rfl rfl ?_
    refine ax_getr 48 16 dX0_likely_13 fg_X0_9 rfl (by decide) rfl ?_
    refine ax_iload_n 17 dX0_likely_16 rfl 2 rfl rfl ?_
    obtain ⟨h2, hf⟩ := ux_gd_e hf
    refine ax_iald 18 dX0_likely_17 (by decide) rfl h2 rfl ?_
    refine ax_aload_n 19 dX0_likely_18 rfl 0 rfl rfl ?_
    refine ax_geti 22 dX0_likely_19 fg_X0_19 rfl rfl ?_
    refine ax_iconst (v := (-1)) 23 dX0_likely_22 (by decide) rfl ?_
    refine ax_ixor 24 dX0_likely_23 rfl ?_
    refine ax_iand 25 dX0_likely_24 rfl ?_
    refine ax_if_ne 34 28 dX0_likely_25 (by decide) rfl (fun c3 => ?_) (fun c3 => ?_)
    · have hf := ux_iff c3 hf
      refine ax_iinc (v := x2 + 1) 37 dX0_likely_34 2 rfl rfl (by decide) [1, 2, 0] [(0, .ref (ux_a G 6)), (1, .int x1), (2, .int (x2 + 1))] rfl rfl ?_
      refine ax_goto 4 dX0_likely_37 (by decide) ?_
      exact ax_sub [0, 1, 2] rfl (hk4 x1 (x2 + 1) S hf)
    · have hf := ux_ift c3 hf
      refine ax_iload_n 29 dX0_likely_28 rfl 1 rfl rfl ?_
      refine ax_iconst (v := 1) 30 dX0_likely_29 (by decide) rfl ?_
      refine ax_iload_n 31 dX0_likely_30 rfl 2 rfl rfl ?_
      refine ax_ishl 32 dX0_likely_31 rfl ?_
      refine ax_ior 33 dX0_likely_32 rfl ?_
      refine ax_istore_n 34 dX0_likely_33 rfl (by decide) [1, 0, 2] [(0, .ref (ux_a G 6)), (1, .int (x1 ||| ((1 : Int32) <<< (x2 &&& 31)))), (2, .int x2)] rfl rfl ?_
      refine ax_iinc (v := x2 + 1) 37 dX0_likely_34 2 rfl rfl (by decide) [1, 2, 0] [(0, .ref (ux_a G 6)), (1, .int (x1 ||| ((1 : Int32) <<< (x2 &&& 31)))), (2, .int (x2 + 1))] rfl rfl ?_
      refine ax_goto 4 dX0_likely_37 (by decide) ?_
      exact ax_sub [0, 1, 2] rfl (hk4 (x1 ||| ((1 : Int32) <<< (x2 &&& 31))) (x2 + 1) S hf)
def f_X0_likely (n : Nat) (S : ux_S) : Option (Int32 × ux_S) :=
  ux_lp2 (b_X0_likely_4 n) n 0 0 S
set_option maxHeartbeats 2000000 in
set_option maxRecDepth 10000 in
theorem m_X0_likely {l : Launch} {G : ux_G} {n : Nat} {S : ux_S} {r : Int32} {Z : ux_S} (hf : f_X0_likely n S = some (r, Z)) : ux_M l G yX0_likely cX0_likely 3 (some .int) 1 [.ref (ux_a G 6)] S (some (.int r)) Z := by
  refine ux_of (by decide) (Nat.le_of_ble_eq_true rfl) ?_
  show ux_At l G RX0 cX0_likely 3 (some .int) 1 (some (.int r)) Z 0 [(0, .ref (ux_a G 6))] [] S
  unfold f_X0_likely at hf
  refine ax_iconst (v := 0) 1 dX0_likely_0 (by decide) rfl ?_
  refine ax_istore_n 2 dX0_likely_1 rfl (by decide) [1, 0] [(0, .ref (ux_a G 6)), (1, .int 0)] rfl rfl ?_
  refine ax_iconst (v := 0) 3 dX0_likely_2 (by decide) rfl ?_
  refine ax_istore_n 4 dX0_likely_3 rfl (by decide) [1, 2, 0] [(0, .ref (ux_a G 6)), (1, .int 0), (2, .int 0)] rfl rfl ?_
  exact ax_sub [0, 1, 2] rfl (ux_lp2_w (Pr := fun x1 x2 S => ux_At l G RX0 cX0_likely 3 (some .int) 1 (some (.int r)) Z 4 [(0, .ref (ux_a G 6)), (1, .int x1), (2, .int x2)] [] S) (fun k4 hk4 => w_X0_likely_4 k4 hk4) n 0 0 S hf)
def b_X0_madeBy_4 (n : Nat) (p0 : Int32) (k4 : Int32 → Int32 → ux_S → Option (Int32 × ux_S)) (x2 : Int32) (x3 : Int32) (S : ux_S) : Option (Int32 × ux_S) :=
  if S.1 6 1 ≤ x3 then (some (x2, S)) else (if (p0 >>> (x3 &&& 31)) &&& (1 : Int32) = 1 then (ux_gd (ux_ib x3 10) (k4 (x2 ||| (S.1 48 x3.toNatClampNeg)) (x3 + 1) S)) else (k4 x2 (x3 + 1) S))
set_option maxHeartbeats 2000000 in
set_option maxRecDepth 10000 in
theorem w_X0_madeBy_4 {l : Launch} {G : ux_G} {n : Nat} {p0 : Int32} {r : Int32} {Z : ux_S} (k4 : Int32 → Int32 → ux_S → Option (Int32 × ux_S)) (hk4 : ∀ (x2 x3 : Int32) (S : ux_S), k4 x2 x3 S = some (r, Z) → ux_At l G RX0 cX0_madeBy 4 (some .int) 1 (some (.int r)) Z 4 [(0, .ref (ux_a G 6)), (1, .int p0), (2, .int x2), (3, .int x3)] [] S) : ∀ (x2 : Int32) (x3 : Int32) (S : ux_S), b_X0_madeBy_4 n p0 k4 x2 x3 S = some (r, Z) → ux_At l G RX0 cX0_madeBy 4 (some .int) 1 (some (.int r)) Z 4 [(0, .ref (ux_a G 6)), (1, .int p0), (2, .int x2), (3, .int x3)] [] S := by
  intro x2 x3 S hf
  unfold b_X0_madeBy_4 at hf
  refine ax_iload_n 5 dX0_madeBy_4 rfl 3 rfl rfl ?_
  refine ax_aload_n 6 dX0_madeBy_5 rfl 0 rfl rfl ?_
  refine ax_geti 9 dX0_madeBy_6 fg_X0_15 rfl rfl ?_
  refine ax_icmp_ge 36 12 dX0_madeBy_9 (by decide) rfl (fun c1 => ?_) (fun c1 => ?_)
  · have hf := ux_ift c1 hf
    refine ax_iload_n 37 dX0_madeBy_36 rfl 2 rfl rfl ?_
    exact ax_iret dX0_madeBy_37 hf
  · have hf := ux_iff c1 hf
    refine ax_iload_n 13 dX0_madeBy_12 rfl 1 rfl rfl ?_
    refine ax_iload_n 14 dX0_madeBy_13 rfl 3 rfl rfl ?_
    refine ax_ishr 15 dX0_madeBy_14 rfl ?_
    refine ax_iconst (v := 1) 16 dX0_madeBy_15 (by decide) rfl ?_
    refine ax_iand 17 dX0_madeBy_16 rfl ?_
    refine ax_iconst (v := 1) 18 dX0_madeBy_17 (by decide) rfl ?_
    refine ax_icmp_ne 30 21 dX0_madeBy_18 (by decide) rfl (fun c2 => ?_) (fun c2 => ?_)
    · have hf := ux_iff c2 hf
      refine ax_iinc (v := x3 + 1) 33 dX0_madeBy_30 3 rfl rfl (by decide) [1, 2, 3, 0] [(0, .ref (ux_a G 6)), (1, .int p0), (2, .int x2), (3, .int (x3 + 1))] rfl rfl ?_
      refine ax_goto 4 dX0_madeBy_33 (by decide) ?_
      exact ax_sub [0, 1, 2, 3] rfl (hk4 x2 (x3 + 1) S hf)
    · have hf := ux_ift c2 hf
      refine ax_iload_n 22 dX0_madeBy_21 rfl 2 rfl rfl ?_
      refine ax_aload_n 23 dX0_madeBy_22 rfl 0 rfl rfl ?_
      refine ax_getr 48 26 dX0_madeBy_23 fg_X0_9 rfl (by decide) rfl ?_
      refine ax_iload_n 27 dX0_madeBy_26 rfl 3 rfl rfl ?_
      obtain ⟨h3, hf⟩ := ux_gd_e hf
      refine ax_iald 28 dX0_madeBy_27 (by decide) rfl h3 rfl ?_
      refine ax_ior 29 dX0_madeBy_28 rfl ?_
      refine ax_istore_n 30 dX0_madeBy_29 rfl (by decide) [1, 2, 0, 3] [(0, .ref (ux_a G 6)), (1, .int p0), (2, .int (x2 ||| (S.1 48 x3.toNatClampNeg))), (3, .int x3)] rfl rfl ?_
      refine ax_iinc (v := x3 + 1) 33 dX0_madeBy_30 3 rfl rfl (by decide) [1, 2, 3, 0] [(0, .ref (ux_a G 6)), (1, .int p0), (2, .int (x2 ||| (S.1 48 x3.toNatClampNeg))), (3, .int (x3 + 1))] rfl rfl ?_
      refine ax_goto 4 dX0_madeBy_33 (by decide) ?_
      exact ax_sub [0, 1, 2, 3] rfl (hk4 (x2 ||| (S.1 48 x3.toNatClampNeg)) (x3 + 1) S hf)
def f_X0_madeBy (n : Nat) (S : ux_S) (p0 : Int32) : Option (Int32 × ux_S) :=
  ux_lp2 (b_X0_madeBy_4 n p0) n 0 0 S
set_option maxHeartbeats 2000000 in
set_option maxRecDepth 10000 in
theorem m_X0_madeBy {l : Launch} {G : ux_G} {n : Nat} {S : ux_S} {p0 : Int32} {r : Int32} {Z : ux_S} (hf : f_X0_madeBy n S p0 = some (r, Z)) : ux_M l G yX0_madeBy cX0_madeBy 4 (some .int) 1 [.ref (ux_a G 6), .int p0] S (some (.int r)) Z := by
  refine ux_of (by decide) (Nat.le_of_ble_eq_true rfl) ?_
  show ux_At l G RX0 cX0_madeBy 4 (some .int) 1 (some (.int r)) Z 0 [(0, .ref (ux_a G 6)), (1, .int p0)] [] S
  unfold f_X0_madeBy at hf
  refine ax_iconst (v := 0) 1 dX0_madeBy_0 (by decide) rfl ?_
  refine ax_istore_n 2 dX0_madeBy_1 rfl (by decide) [1, 2, 0] [(0, .ref (ux_a G 6)), (1, .int p0), (2, .int 0)] rfl rfl ?_
  refine ax_iconst (v := 0) 3 dX0_madeBy_2 (by decide) rfl ?_
  refine ax_istore_n 4 dX0_madeBy_3 rfl (by decide) [1, 2, 3, 0] [(0, .ref (ux_a G 6)), (1, .int p0), (2, .int 0), (3, .int 0)] rfl rfl ?_
  exact ax_sub [0, 1, 2, 3] rfl (ux_lp2_w (Pr := fun x2 x3 S => ux_At l G RX0 cX0_madeBy 4 (some .int) 1 (some (.int r)) Z 4 [(0, .ref (ux_a G 6)), (1, .int p0), (2, .int x2), (3, .int x3)] [] S) (fun k4 hk4 => w_X0_madeBy_4 k4 hk4) n 0 0 S hf)
def b_X0_fewest_39 (n : Nat) (k14 : Int32 → Int32 → Int32 → Int32 → ux_S → Option (Int32 × ux_S)) (x1 : Int32) (x2 : Int32) (x3 : Int32) (x4 : Int32) (t0 : Int32) (S : ux_S) : Option (Int32 × ux_S) :=
  if t0 = 0 then (k14 x1 x2 x3 (x4 + 1) S) else (if x4 &&& (x1 ^^^ ((-1) : Int32)) = 0 then (ux_bi (f_X0_madeBy n S x4) (fun r13 S12 => if r13 = S12.1 6 2 then (ux_bi (f_J6_bitCount_0f7a4 S12 x4) (fun r17 S16 => k14 x1 r17 x4 (x4 + 1) S16)) else (k14 x1 x2 x3 (x4 + 1) S12))) else (k14 x1 x2 x3 (x4 + 1) S))
set_option maxHeartbeats 2000000 in
set_option maxRecDepth 10000 in
theorem w_X0_fewest_39 {l : Launch} {G : ux_G} {n : Nat} {r : Int32} {Z : ux_S} (k14 : Int32 → Int32 → Int32 → Int32 → ux_S → Option (Int32 × ux_S)) (hk14 : ∀ (x1 x2 x3 x4 : Int32) (S : ux_S), k14 x1 x2 x3 x4 S = some (r, Z) → ux_At l G RX0 cX0_fewest 6 (some .int) 2 (some (.int r)) Z 14 [(0, .ref (ux_a G 6)), (1, .int x1), (2, .int x2), (3, .int x3), (4, .int x4)] [] S) : ∀ (x1 : Int32) (x2 : Int32) (x3 : Int32) (x4 : Int32) (t0 : Int32) (S : ux_S), b_X0_fewest_39 n k14 x1 x2 x3 x4 t0 S = some (r, Z) → ux_At l G RX0 cX0_fewest 6 (some .int) 2 (some (.int r)) Z 39 [(0, .ref (ux_a G 6)), (1, .int x1), (2, .int x2), (3, .int x3), (4, .int x4)] [.int t0] S := by
  intro x1 x2 x3 x4 t0 S hf
  unfold b_X0_fewest_39 at hf
  refine ax_istore 41 dX0_fewest_39 (by decide) [1, 2, 3, 4, 5, 0] [(0, .ref (ux_a G 6)), (1, .int x1), (2, .int x2), (3, .int x3), (4, .int x4), (5, .int t0)] rfl rfl ?_
  refine ax_iload 43 dX0_fewest_41 5 rfl rfl ?_
  refine ax_if_eq 77 46 dX0_fewest_43 (by decide) rfl (fun c9 => ?_) (fun c9 => ?_)
  · have hf := ux_ift c9 hf
    refine ax_iinc (v := x4 + 1) 80 dX0_fewest_77 4 rfl rfl (by decide) [1, 2, 3, 4, 0] [(0, .ref (ux_a G 6)), (1, .int x1), (2, .int x2), (3, .int x3), (4, .int (x4 + 1))] rfl rfl ?_
    refine ax_goto 14 dX0_fewest_80 (by decide) ?_
    exact ax_sub [0, 1, 2, 3, 4] rfl (hk14 x1 x2 x3 (x4 + 1) S hf)
  · have hf := ux_iff c9 hf
    refine ax_iload 48 dX0_fewest_46 4 rfl rfl ?_
    refine ax_iload_n 49 dX0_fewest_48 rfl 1 rfl rfl ?_
    refine ax_iconst (v := (-1)) 50 dX0_fewest_49 (by decide) rfl ?_
    refine ax_ixor 51 dX0_fewest_50 rfl ?_
    refine ax_iand 52 dX0_fewest_51 rfl ?_
    refine ax_if_ne 77 55 dX0_fewest_52 (by decide) rfl (fun c10 => ?_) (fun c10 => ?_)
    · have hf := ux_iff c10 hf
      refine ax_iinc (v := x4 + 1) 80 dX0_fewest_77 4 rfl rfl (by decide) [1, 2, 3, 4, 0] [(0, .ref (ux_a G 6)), (1, .int x1), (2, .int x2), (3, .int x3), (4, .int (x4 + 1))] rfl rfl ?_
      refine ax_goto 14 dX0_fewest_80 (by decide) ?_
      exact ax_sub [0, 1, 2, 3, 4] rfl (hk14 x1 x2 x3 (x4 + 1) S hf)
    · have hf := ux_ift c10 hf
      refine ax_aload_n 56 dX0_fewest_55 rfl 0 rfl rfl ?_
      refine ax_iload 58 dX0_fewest_56 4 rfl rfl ?_
      obtain ⟨r13, S12, e11, hf⟩ := ux_bi_e hf
      refine ax_callVi 61 [.int x4] dX0_fewest_58 fv_X0_32 (m_X0_madeBy e11) (by decide) rfl rfl (by decide) rfl rfl (Nat.le_of_ble_eq_true rfl) rfl ?_
      refine ax_aload_n 62 dX0_fewest_61 rfl 0 rfl rfl ?_
      refine ax_geti 65 dX0_fewest_62 fg_X0_19 rfl rfl ?_
      refine ax_icmp_ne 77 68 dX0_fewest_65 (by decide) rfl (fun c14 => ?_) (fun c14 => ?_)
      · have hf := ux_iff c14 hf
        refine ax_iinc (v := x4 + 1) 80 dX0_fewest_77 4 rfl rfl (by decide) [1, 2, 3, 4, 0] [(0, .ref (ux_a G 6)), (1, .int x1), (2, .int x2), (3, .int x3), (4, .int (x4 + 1))] rfl rfl ?_
        refine ax_goto 14 dX0_fewest_80 (by decide) ?_
        exact ax_sub [0, 1, 2, 3, 4] rfl (hk14 x1 x2 x3 (x4 + 1) S12 hf)
      · have hf := ux_ift c14 hf
        refine ax_iload 70 dX0_fewest_68 4 rfl rfl ?_
        obtain ⟨r17, S16, e15, hf⟩ := ux_bi_e hf
        refine ax_callSi 73 [.int x4] dX0_fewest_70 fs_X0_26 (m_J6_bitCount_0f7a4 e15) (by decide) rfl rfl (Nat.le_of_ble_eq_true rfl) rfl ?_
        refine ax_istore_n 74 dX0_fewest_73 rfl (by decide) [1, 2, 0, 4] [(0, .ref (ux_a G 6)), (1, .int x1), (2, .int r17), (4, .int x4)] rfl rfl ?_
        refine ax_iload 76 dX0_fewest_74 3 rfl rfl ?_
        refine ax_istore_n 77 dX0_fewest_76 rfl (by decide) [1, 2, 3, 0, 4] [(0, .ref (ux_a G 6)), (1, .int x1), (2, .int r17), (3, .int x4), (4, .int x4)] rfl rfl ?_
        refine ax_iinc (v := x4 + 1) 80 dX0_fewest_77 4 rfl rfl (by decide) [1, 2, 3, 4, 0] [(0, .ref (ux_a G 6)), (1, .int x1), (2, .int r17), (3, .int x4), (4, .int (x4 + 1))] rfl rfl ?_
        refine ax_goto 14 dX0_fewest_80 (by decide) ?_
        exact ax_sub [0, 1, 2, 3, 4] rfl (hk14 x1 r17 x4 (x4 + 1) S16 hf)
def b_X0_fewest_14 (n : Nat) (k14 : Int32 → Int32 → Int32 → Int32 → ux_S → Option (Int32 × ux_S)) (x1 : Int32) (x2 : Int32) (x3 : Int32) (x4 : Int32) (S : ux_S) : Option (Int32 × ux_S) :=
  if (1 : Int32) <<< ((S.1 6 1) &&& 31) ≤ x4 then (some (x3, S)) else (ux_bi (f_J6_bitCount_0f7a4 S x4) (fun r7 S6 => if x2 ≤ r7 then (b_X0_fewest_39 n k14 x1 x2 x3 x4 0 S6) else (b_X0_fewest_39 n k14 x1 x2 x3 x4 1 S6)))
set_option maxHeartbeats 2000000 in
set_option maxRecDepth 10000 in
theorem w_X0_fewest_14 {l : Launch} {G : ux_G} {n : Nat} {r : Int32} {Z : ux_S} (k14 : Int32 → Int32 → Int32 → Int32 → ux_S → Option (Int32 × ux_S)) (hk14 : ∀ (x1 x2 x3 x4 : Int32) (S : ux_S), k14 x1 x2 x3 x4 S = some (r, Z) → ux_At l G RX0 cX0_fewest 6 (some .int) 2 (some (.int r)) Z 14 [(0, .ref (ux_a G 6)), (1, .int x1), (2, .int x2), (3, .int x3), (4, .int x4)] [] S) : ∀ (x1 : Int32) (x2 : Int32) (x3 : Int32) (x4 : Int32) (S : ux_S), b_X0_fewest_14 n k14 x1 x2 x3 x4 S = some (r, Z) → ux_At l G RX0 cX0_fewest 6 (some .int) 2 (some (.int r)) Z 14 [(0, .ref (ux_a G 6)), (1, .int x1), (2, .int x2), (3, .int x3), (4, .int x4)] [] S := by
  intro x1 x2 x3 x4 S hf
  unfold b_X0_fewest_14 at hf
  refine ax_iload 16 dX0_fewest_14 4 rfl rfl ?_
  refine ax_iconst (v := 1) 17 dX0_fewest_16 (by decide) rfl ?_
  refine ax_aload_n 18 dX0_fewest_17 rfl 0 rfl rfl ?_
  refine ax_geti 21 dX0_fewest_18 fg_X0_15 rfl rfl ?_
  refine ax_ishl 22 dX0_fewest_21 rfl ?_
  refine ax_icmp_ge 83 25 dX0_fewest_22 (by decide) rfl (fun c4 => ?_) (fun c4 => ?_)
  · have hf := ux_ift c4 hf
    refine ax_iload_n 84 dX0_fewest_83 rfl 3 rfl rfl ?_
    exact ax_iret dX0_fewest_84 hf
  · have hf := ux_iff c4 hf
    refine ax_iload 27 dX0_fewest_25 4 rfl rfl ?_
    obtain ⟨r7, S6, e5, hf⟩ := ux_bi_e hf
    refine ax_callSi 30 [.int x4] dX0_fewest_27 fs_X0_26 (m_J6_bitCount_0f7a4 e5) (by decide) rfl rfl (Nat.le_of_ble_eq_true rfl) rfl ?_
    refine ax_iload_n 31 dX0_fewest_30 rfl 2 rfl rfl ?_
    refine ax_icmp_ge 38 34 dX0_fewest_31 (by decide) rfl (fun c8 => ?_) (fun c8 => ?_)
    · have hf := ux_ift c8 hf
      refine ax_iconst (v := 0) 39 dX0_fewest_38 (by decide) rfl ?_
      exact ax_sub [0, 1, 2, 3, 4] rfl (w_X0_fewest_39 k14 hk14 x1 x2 x3 x4 0 S6 hf)
    · have hf := ux_iff c8 hf
      refine ax_iconst (v := 1) 35 dX0_fewest_34 (by decide) rfl ?_
      refine ax_goto 39 dX0_fewest_35 (by decide) ?_
      exact ax_sub [0, 1, 2, 3, 4] rfl (w_X0_fewest_39 k14 hk14 x1 x2 x3 x4 1 S6 hf)
def f_X0_fewest (n : Nat) (S : ux_S) : Option (Int32 × ux_S) :=
  ux_bi (f_X0_likely n S ) (fun r3 S2 => ux_lp4 (b_X0_fewest_14 n) n r3 11 (-4) 0 S2)
set_option maxHeartbeats 2000000 in
set_option maxRecDepth 10000 in
theorem m_X0_fewest {l : Launch} {G : ux_G} {n : Nat} {S : ux_S} {r : Int32} {Z : ux_S} (hf : f_X0_fewest n S = some (r, Z)) : ux_M l G yX0_fewest cX0_fewest 6 (some .int) 2 [.ref (ux_a G 6)] S (some (.int r)) Z := by
  refine ux_of (by decide) (Nat.le_of_ble_eq_true rfl) ?_
  show ux_At l G RX0 cX0_fewest 6 (some .int) 2 (some (.int r)) Z 0 [(0, .ref (ux_a G 6))] [] S
  unfold f_X0_fewest at hf
  refine ax_aload_n 1 dX0_fewest_0 rfl 0 rfl rfl ?_
  obtain ⟨r3, S2, e1, hf⟩ := ux_bi_e hf
  refine ax_callVi 4 [] dX0_fewest_1 fv_X0_22 (m_X0_likely e1) (by decide) rfl rfl (by decide) rfl rfl (Nat.le_of_ble_eq_true rfl) rfl ?_
  refine ax_istore_n 5 dX0_fewest_4 rfl (by decide) [1, 0] [(0, .ref (ux_a G 6)), (1, .int r3)] rfl rfl ?_
  refine ax_bipush (v := 11) 7 dX0_fewest_5 (by decide) rfl ?_
  refine ax_istore_n 8 dX0_fewest_7 rfl (by decide) [1, 2, 0] [(0, .ref (ux_a G 6)), (1, .int r3), (2, .int 11)] rfl rfl ?_
  refine ax_bipush (v := (-4)) 10 dX0_fewest_8 (by decide) rfl ?_
  refine ax_istore_n 11 dX0_fewest_10 rfl (by decide) [1, 2, 3, 0] [(0, .ref (ux_a G 6)), (1, .int r3), (2, .int 11), (3, .int (-4))] rfl rfl ?_
  refine ax_iconst (v := 0) 12 dX0_fewest_11 (by decide) rfl ?_
  refine ax_istore 14 dX0_fewest_12 (by decide) [1, 2, 3, 4, 0] [(0, .ref (ux_a G 6)), (1, .int r3), (2, .int 11), (3, .int (-4)), (4, .int 0)] rfl rfl ?_
  exact ax_sub [0, 1, 2, 3, 4] rfl (ux_lp4_w (Pr := fun x1 x2 x3 x4 S => ux_At l G RX0 cX0_fewest 6 (some .int) 2 (some (.int r)) Z 14 [(0, .ref (ux_a G 6)), (1, .int x1), (2, .int x2), (3, .int x3), (4, .int x4)] [] S) (fun k14 hk14 => w_X0_fewest_14 k14 hk14) n r3 11 (-4) 0 S2 hf)
