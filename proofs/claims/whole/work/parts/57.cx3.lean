/-! the nested classes' constructors -/
theorem cx_inner (c : ClassId) (M : Nat) : Jvm.Free.Multi.innerC c M (defaultValue .int) = vp_cell c (M, .inl (fun _ => 0)) := by
  show ({ cls := c, slots := Array.replicate M (defaultValue .int), vm := .none } : Cell) = _
  rw [vp_cell_i, arrV_new]
  rfl
theorem cx_innerL (c : ClassId) (M : Nat) : Jvm.Free.Multi.innerC c M (defaultValue .long) = vp_cell c (M, .inr (.inl (fun _ => 0))) := by
  show ({ cls := c, slots := Array.replicate M (defaultValue .long), vm := .none } : Cell) = _
  rw [vp_cell_l, arrV_new]
  rfl
theorem dfX0 : ∀ j, j < 3 → defaultValue (tyX0 j) = vp_V [.null, .int 0, .int 0] j := fun j hj => match j, hj with
  | 0, _ => rfl
  | 1, _ => rfl
  | 2, _ => rfl
  | k + 3, h => absurd h (by omega)
theorem fc_X0_9 : cx_FF RX0 9 0 0 true (.array .int) := ⟨RX0, TX0, 3, tyX0, rfl, lwX0, by decide, (ux_m1 180 rfl rfl), tyX0_ok, nmX0, rfl, (fun _ => rfl), by decide +kernel⟩
theorem fc_X0_15 : cx_FF RX0 15 0 1 false .int := ⟨RX0, TX0, 3, tyX0, rfl, lwX0, by decide, (ux_m1 181 rfl rfl), tyX0_ok, nmX0, rfl, (fun h => by cases h), by decide +kernel⟩
theorem fc_X0_19 : cx_FF RX0 19 0 2 false .int := ⟨RX0, TX0, 3, tyX0, rfl, lwX0, by decide, (ux_m1 183 rfl rfl), tyX0_ok, nmX0, rfl, (fun h => by cases h), by decide +kernel⟩
theorem c_X0 {l : Launch} {G : ux_G} {h0 sz : Nat} : cx_M l G yX0_init cX0_init 1 1 1 10 [.ref h0] [(h0, .inr (0, [.null, .int 0, .int 0]))] sz (fun w => ∃ (a1 : Nat), w = [(h0, .inr (0, [.ref a1, .int 0, .int 0])), (a1, .inl (G.2.2.1 0, 10, .inl (fun _ => 0)))]) := by
  refine cx_of (by decide) (Nat.le_of_ble_eq_true rfl) ?_
  show cx_At l G RX0 cX0_init 1 1 1 10 [(h0, .inr (0, [.null, .int 0, .int 0]))] sz (fun w => ∃ (a1 : Nat), w = [(h0, .inr (0, [.ref a1, .int 0, .int 0])), (a1, .inl (G.2.2.1 0, 10, .inl (fun _ => 0)))]) "<init>" 0 [(0, .ref h0)] [] [(h0, .inr (0, [.null, .int 0, .int 0]))] 0 0
  refine cx_aload_n 1 dX0_init_0 rfl 0 rfl rfl ?_
  refine cx_objInit 4 dX0_init_1 (ux_m1 179 rfl rfl) (by decide) rfl rfl ?_
  refine cx_aload_n 5 dX0_init_4 rfl 0 rfl rfl ?_
  refine cx_bipush (v := 10) 7 dX0_init_5 rfl rfl ?_
  refine cx_newa (t0 := 0) (N := 10) (a0 := (10, .inl (fun _ => 0))) 9 dX0_init_7 (ux_m1 68 rfl rfl) rfl rfl (fun C h => by cases h) (fun _ => rfl) (by decide) (by decide +kernel) (by decide) (by decide) (by decide) rfl (fun a1 => ?_)
  refine cx_put 0 12 dX0_init_9 fc_X0_9 rfl rfl rfl rfl (Nat.le_of_ble_eq_true rfl) rfl ?_
  refine cx_re [(h0, .inr (0, [.ref a1, .int 0, .int 0])), (a1, .inl (G.2.2.1 0, 10, .inl (fun _ => 0)))] rfl ?_
  refine cx_aload_n 13 dX0_init_12 rfl 0 rfl rfl ?_
  refine cx_iconst (v := 0) 14 dX0_init_13 rfl rfl ?_
  refine cx_put 0 17 dX0_init_14 fc_X0_15 rfl rfl rfl rfl (Nat.le_of_ble_eq_true rfl) rfl ?_
  refine cx_re [(h0, .inr (0, [.ref a1, .int 0, .int 0])), (a1, .inl (G.2.2.1 0, 10, .inl (fun _ => 0)))] rfl ?_
  refine cx_aload_n 18 dX0_init_17 rfl 0 rfl rfl ?_
  refine cx_iconst (v := 0) 19 dX0_init_18 rfl rfl ?_
  refine cx_put 0 22 dX0_init_19 fc_X0_19 rfl rfl rfl rfl (Nat.le_of_ble_eq_true rfl) rfl ?_
  refine cx_re [(h0, .inr (0, [.ref a1, .int 0, .int 0])), (a1, .inl (G.2.2.1 0, 10, .inl (fun _ => 0)))] rfl ?_
  exact cx_vret dX0_init_22 (Nat.le_refl _) (Nat.le_refl _) ⟨a1, rfl⟩
theorem dfX1 : ∀ j, j < 6 → defaultValue (tyX1 j) = vp_V [.null, .null, .null, .null, .int 0, .int 0] j := fun j hj => match j, hj with
  | 0, _ => rfl
  | 1, _ => rfl
  | 2, _ => rfl
  | 3, _ => rfl
  | 4, _ => rfl
  | 5, _ => rfl
  | k + 6, h => absurd h (by omega)
theorem fc_X1_9 : cx_FF RX1 9 1 0 true (.array .int) := ⟨RX1, TX1, 6, tyX1, rfl, lwX1, by decide, (ux_m1 151 rfl rfl), tyX1_ok, nmX1, rfl, (fun _ => rfl), by decide +kernel⟩
theorem fc_X1_15 : cx_FF RX1 15 1 1 true (.array .int) := ⟨RX1, TX1, 6, tyX1, rfl, lwX1, by decide, (ux_m1 152 rfl rfl), tyX1_ok, nmX1, rfl, (fun _ => rfl), by decide +kernel⟩
theorem fc_X1_20 : cx_FF RX1 20 1 2 true (.array (.array .int)) := ⟨RX1, TX1, 6, tyX1, rfl, lwX1, by decide, (ux_m1 153 rfl rfl), tyX1_ok, nmX1, rfl, (fun _ => rfl), by decide +kernel⟩
theorem fc_X1_23 : cx_FF RX1 23 1 3 true (.array .int) := ⟨RX1, TX1, 6, tyX1, rfl, lwX1, by decide, (ux_m1 155 rfl rfl), tyX1_ok, nmX1, rfl, (fun _ => rfl), by decide +kernel⟩
theorem fc_X1_26 : cx_FF RX1 26 1 4 false .int := ⟨RX1, TX1, 6, tyX1, rfl, lwX1, by decide, (ux_m1 157 rfl rfl), tyX1_ok, nmX1, rfl, (fun h => by cases h), by decide +kernel⟩
theorem fc_X1_30 : cx_FF RX1 30 1 5 false .int := ⟨RX1, TX1, 6, tyX1, rfl, lwX1, by decide, (ux_m1 159 rfl rfl), tyX1_ok, nmX1, rfl, (fun h => by cases h), by decide +kernel⟩
theorem c_X1 {l : Launch} {G : ux_G} {h0 sz : Nat} : cx_M l G yX1_init cX1_init 1 1 6 66 [.ref h0] [(h0, .inr (1, [.null, .null, .null, .null, .int 0, .int 0]))] sz (fun w => ∃ (a1 : Nat) (a2 : Nat) (a3 : Nat) (f4 : Nat → Nat) (a5 : Nat), w = [(h0, .inr (1, [.ref a1, .ref a2, .ref a3, .ref a5, .int 0, .int 0])), (a1, .inl (G.2.2.1 0, 16, .inl (fun _ => 0))), (a2, .inl (G.2.2.1 0, 16, .inl (fun _ => 0))), (a3, .inl (G.2.2.1 3, 2, .inr (.inr (.inr (.inr (fun i => some (f4 i))))))), (a5, .inl (G.2.2.1 0, 16, .inl (fun _ => 0))), (f4 0, .inl (G.2.2.1 0, 8, .inl (fun _ => -4))), (f4 1, .inl (G.2.2.1 0, 8, .inl (fun _ => -4)))]) := by
  refine cx_of (by decide) (Nat.le_of_ble_eq_true rfl) ?_
  show cx_At l G RX1 cX1_init 1 1 6 66 [(h0, .inr (1, [.null, .null, .null, .null, .int 0, .int 0]))] sz (fun w => ∃ (a1 : Nat) (a2 : Nat) (a3 : Nat) (f4 : Nat → Nat) (a5 : Nat), w = [(h0, .inr (1, [.ref a1, .ref a2, .ref a3, .ref a5, .int 0, .int 0])), (a1, .inl (G.2.2.1 0, 16, .inl (fun _ => 0))), (a2, .inl (G.2.2.1 0, 16, .inl (fun _ => 0))), (a3, .inl (G.2.2.1 3, 2, .inr (.inr (.inr (.inr (fun i => some (f4 i))))))), (a5, .inl (G.2.2.1 0, 16, .inl (fun _ => 0))), (f4 0, .inl (G.2.2.1 0, 8, .inl (fun _ => -4))), (f4 1, .inl (G.2.2.1 0, 8, .inl (fun _ => -4)))]) "<init>" 0 [(0, .ref h0)] [] [(h0, .inr (1, [.null, .null, .null, .null, .int 0, .int 0]))] 0 0
  refine cx_aload_n 1 dX1_init_0 rfl 0 rfl rfl ?_
  refine cx_objInit 4 dX1_init_1 (ux_m1 148 rfl rfl) (by decide) rfl rfl ?_
  refine cx_aload_n 5 dX1_init_4 rfl 0 rfl rfl ?_
  refine cx_bipush (v := 16) 7 dX1_init_5 rfl rfl ?_
  refine cx_newa (t0 := 0) (N := 16) (a0 := (16, .inl (fun _ => 0))) 9 dX1_init_7 (ux_m1 68 rfl rfl) rfl rfl (fun C h => by cases h) (fun _ => rfl) (by decide) (by decide +kernel) (by decide) (by decide) (by decide) rfl (fun a1 => ?_)
  refine cx_put 0 12 dX1_init_9 fc_X1_9 rfl rfl rfl rfl (Nat.le_of_ble_eq_true rfl) rfl ?_
  refine cx_re [(h0, .inr (1, [.ref a1, .null, .null, .null, .int 0, .int 0])), (a1, .inl (G.2.2.1 0, 16, .inl (fun _ => 0)))] rfl ?_
  refine cx_aload_n 13 dX1_init_12 rfl 0 rfl rfl ?_
  refine cx_bipush (v := 16) 15 dX1_init_13 rfl rfl ?_
  refine cx_newa (t0 := 0) (N := 16) (a0 := (16, .inl (fun _ => 0))) 17 dX1_init_15 (ux_m1 68 rfl rfl) rfl rfl (fun C h => by cases h) (fun _ => rfl) (by decide) (by decide +kernel) (by decide) (by decide) (by decide) rfl (fun a2 => ?_)
  refine cx_put 0 20 dX1_init_17 fc_X1_15 rfl rfl rfl rfl (Nat.le_of_ble_eq_true rfl) rfl ?_
  refine cx_re [(h0, .inr (1, [.ref a1, .ref a2, .null, .null, .int 0, .int 0])), (a1, .inl (G.2.2.1 0, 16, .inl (fun _ => 0))), (a2, .inl (G.2.2.1 0, 16, .inl (fun _ => 0)))] rfl ?_
  refine cx_aload_n 21 dX1_init_20 rfl 0 rfl rfl ?_
  refine cx_iconst (v := 2) 22 dX1_init_21 rfl rfl ?_
  refine cx_bipush (v := 8) 24 dX1_init_22 rfl rfl ?_
  refine cx_mna (ty := .int) (t0 := 0) (t1 := 3) (N := 2) (M := 8) (z := (8, .inl (fun _ => 0))) 28 dX1_init_24 (ux_m1 149 rfl rfl) (fun _ h => h.2.2.2.2.1) (ux_m1 68 rfl rfl) rfl rfl rfl (fun C h => by cases h) (by decide) (by decide) (by decide +kernel) (by decide +kernel) (by decide) (by decide) (by decide) rfl rfl (by decide) (by decide) (fun c => cx_inner c 8) rfl (fun a3 f4 => ?_)
  refine cx_re [(h0, .inr (1, [.ref a1, .ref a2, .null, .null, .int 0, .int 0])), (a1, .inl (G.2.2.1 0, 16, .inl (fun _ => 0))), (a2, .inl (G.2.2.1 0, 16, .inl (fun _ => 0))), (a3, .inl (G.2.2.1 3, 2, .inr (.inr (.inr (.inr (fun i => some (f4 i))))))), (f4 0, .inl (G.2.2.1 0, 8, .inl (fun _ => 0))), (f4 1, .inl (G.2.2.1 0, 8, .inl (fun _ => 0)))] rfl ?_
  refine cx_put 0 31 dX1_init_28 fc_X1_20 rfl rfl rfl rfl (Nat.le_of_ble_eq_true rfl) rfl ?_
  refine cx_re [(h0, .inr (1, [.ref a1, .ref a2, .ref a3, .null, .int 0, .int 0])), (a1, .inl (G.2.2.1 0, 16, .inl (fun _ => 0))), (a2, .inl (G.2.2.1 0, 16, .inl (fun _ => 0))), (a3, .inl (G.2.2.1 3, 2, .inr (.inr (.inr (.inr (fun i => some (f4 i))))))), (f4 0, .inl (G.2.2.1 0, 8, .inl (fun _ => 0))), (f4 1, .inl (G.2.2.1 0, 8, .inl (fun _ => 0)))] rfl ?_
  refine cx_aload_n 32 dX1_init_31 rfl 0 rfl rfl ?_
  refine cx_bipush (v := 16) 34 dX1_init_32 rfl rfl ?_
  refine cx_newa (t0 := 0) (N := 16) (a0 := (16, .inl (fun _ => 0))) 36 dX1_init_34 (ux_m1 68 rfl rfl) rfl rfl (fun C h => by cases h) (fun _ => rfl) (by decide) (by decide +kernel) (by decide) (by decide) (by decide) rfl (fun a5 => ?_)
  refine cx_put 0 39 dX1_init_36 fc_X1_23 rfl rfl rfl rfl (Nat.le_of_ble_eq_true rfl) rfl ?_
  refine cx_re [(h0, .inr (1, [.ref a1, .ref a2, .ref a3, .ref a5, .int 0, .int 0])), (a1, .inl (G.2.2.1 0, 16, .inl (fun _ => 0))), (a2, .inl (G.2.2.1 0, 16, .inl (fun _ => 0))), (a3, .inl (G.2.2.1 3, 2, .inr (.inr (.inr (.inr (fun i => some (f4 i))))))), (f4 0, .inl (G.2.2.1 0, 8, .inl (fun _ => 0))), (f4 1, .inl (G.2.2.1 0, 8, .inl (fun _ => 0))), (a5, .inl (G.2.2.1 0, 16, .inl (fun _ => 0)))] rfl ?_
  refine cx_aload_n 40 dX1_init_39 rfl 0 rfl rfl ?_
  refine cx_iconst (v := 0) 41 dX1_init_40 rfl rfl ?_
  refine cx_put 0 44 dX1_init_41 fc_X1_26 rfl rfl rfl rfl (Nat.le_of_ble_eq_true rfl) rfl ?_
  refine cx_re [(h0, .inr (1, [.ref a1, .ref a2, .ref a3, .ref a5, .int 0, .int 0])), (a1, .inl (G.2.2.1 0, 16, .inl (fun _ => 0))), (a2, .inl (G.2.2.1 0, 16, .inl (fun _ => 0))), (a3, .inl (G.2.2.1 3, 2, .inr (.inr (.inr (.inr (fun i => some (f4 i))))))), (f4 0, .inl (G.2.2.1 0, 8, .inl (fun _ => 0))), (f4 1, .inl (G.2.2.1 0, 8, .inl (fun _ => 0))), (a5, .inl (G.2.2.1 0, 16, .inl (fun _ => 0)))] rfl ?_
  refine cx_aload_n 45 dX1_init_44 rfl 0 rfl rfl ?_
  refine cx_iconst (v := 0) 46 dX1_init_45 rfl rfl ?_
  refine cx_put 0 49 dX1_init_46 fc_X1_30 rfl rfl rfl rfl (Nat.le_of_ble_eq_true rfl) rfl ?_
  refine cx_re [(h0, .inr (1, [.ref a1, .ref a2, .ref a3, .ref a5, .int 0, .int 0])), (a1, .inl (G.2.2.1 0, 16, .inl (fun _ => 0))), (a2, .inl (G.2.2.1 0, 16, .inl (fun _ => 0))), (a3, .inl (G.2.2.1 3, 2, .inr (.inr (.inr (.inr (fun i => some (f4 i))))))), (f4 0, .inl (G.2.2.1 0, 8, .inl (fun _ => 0))), (f4 1, .inl (G.2.2.1 0, 8, .inl (fun _ => 0))), (a5, .inl (G.2.2.1 0, 16, .inl (fun _ => 0)))] rfl ?_
  refine cx_aload_n 50 dX1_init_49 rfl 0 rfl rfl ?_
  refine cx_get 0 53 dX1_init_50 fc_X1_20 rfl rfl rfl ?_
  refine cx_iconst (v := 0) 54 dX1_init_53 rfl rfl ?_
  refine cx_aald 3 55 dX1_init_54 rfl (by decide +kernel) rfl rfl ?_
  refine cx_bipush (v := -4) 57 dX1_init_55 rfl rfl ?_
  refine cx_callS (wc := [(f4 0, .inl (G.2.2.1 0, 8, .inl (fun _ => 0)))]) 60 [.ref (f4 0), .int (-4)] [4] [0, 1, 2, 3, 5, 6] [(h0, .inr (1, [.ref a1, .ref a2, .ref a3, .ref a5, .int 0, .int 0])), (a1, .inl (G.2.2.1 0, 16, .inl (fun _ => 0))), (a2, .inl (G.2.2.1 0, 16, .inl (fun _ => 0))), (a3, .inl (G.2.2.1 3, 2, .inr (.inr (.inr (.inr (fun i => some (f4 i))))))), (f4 1, .inl (G.2.2.1 0, 8, .inl (fun _ => 0))), (a5, .inl (G.2.2.1 0, 16, .inl (fun _ => 0)))] dX1_init_57 fs_X1_33 (fun _ => cx_fill (by decide)) rfl rfl rfl rfl rfl rfl (by decide) (by decide) (by decide) (by decide) (by decide) rfl (fun w1 h1 => ?_)
  subst h1
  refine cx_re [(h0, .inr (1, [.ref a1, .ref a2, .ref a3, .ref a5, .int 0, .int 0])), (a1, .inl (G.2.2.1 0, 16, .inl (fun _ => 0))), (a2, .inl (G.2.2.1 0, 16, .inl (fun _ => 0))), (a3, .inl (G.2.2.1 3, 2, .inr (.inr (.inr (.inr (fun i => some (f4 i))))))), (f4 1, .inl (G.2.2.1 0, 8, .inl (fun _ => 0))), (a5, .inl (G.2.2.1 0, 16, .inl (fun _ => 0))), (f4 0, .inl (G.2.2.1 0, 8, .inl (fun _ => -4)))] rfl ?_
  refine cx_aload_n 61 dX1_init_60 rfl 0 rfl rfl ?_
  refine cx_get 0 64 dX1_init_61 fc_X1_20 rfl rfl rfl ?_
  refine cx_iconst (v := 1) 65 dX1_init_64 rfl rfl ?_
  refine cx_aald 3 66 dX1_init_65 rfl (by decide +kernel) rfl rfl ?_
  refine cx_bipush (v := -4) 68 dX1_init_66 rfl rfl ?_
  refine cx_callS (wc := [(f4 1, .inl (G.2.2.1 0, 8, .inl (fun _ => 0)))]) 71 [.ref (f4 1), .int (-4)] [4] [0, 1, 2, 3, 5, 6] [(h0, .inr (1, [.ref a1, .ref a2, .ref a3, .ref a5, .int 0, .int 0])), (a1, .inl (G.2.2.1 0, 16, .inl (fun _ => 0))), (a2, .inl (G.2.2.1 0, 16, .inl (fun _ => 0))), (a3, .inl (G.2.2.1 3, 2, .inr (.inr (.inr (.inr (fun i => some (f4 i))))))), (a5, .inl (G.2.2.1 0, 16, .inl (fun _ => 0))), (f4 0, .inl (G.2.2.1 0, 8, .inl (fun _ => -4)))] dX1_init_68 fs_X1_33 (fun _ => cx_fill (by decide)) rfl rfl rfl rfl rfl rfl (by decide) (by decide) (by decide) (by decide) (by decide) rfl (fun w1 h1 => ?_)
  subst h1
  refine cx_re [(h0, .inr (1, [.ref a1, .ref a2, .ref a3, .ref a5, .int 0, .int 0])), (a1, .inl (G.2.2.1 0, 16, .inl (fun _ => 0))), (a2, .inl (G.2.2.1 0, 16, .inl (fun _ => 0))), (a3, .inl (G.2.2.1 3, 2, .inr (.inr (.inr (.inr (fun i => some (f4 i))))))), (a5, .inl (G.2.2.1 0, 16, .inl (fun _ => 0))), (f4 0, .inl (G.2.2.1 0, 8, .inl (fun _ => -4))), (f4 1, .inl (G.2.2.1 0, 8, .inl (fun _ => -4)))] rfl ?_
  exact cx_vret dX1_init_71 (Nat.le_refl _) (Nat.le_refl _) ⟨a1, a2, a3, f4, a5, rfl⟩
theorem dfX2 : ∀ j, j < 8 → defaultValue (tyX2 j) = vp_V [.null, .null, .null, .null, .null, .int 0, .int 0, .int 0] j := fun j hj => match j, hj with
  | 0, _ => rfl
  | 1, _ => rfl
  | 2, _ => rfl
  | 3, _ => rfl
  | 4, _ => rfl
  | 5, _ => rfl
  | 6, _ => rfl
  | 7, _ => rfl
  | k + 8, h => absurd h (by omega)
theorem fc_X2_9 : cx_FF RX2 9 2 0 true (.array .int) := ⟨RX2, TX2, 8, tyX2, rfl, lwX2, by decide, (ux_m1 30 rfl rfl), tyX2_ok, nmX2, rfl, (fun _ => rfl), by decide +kernel⟩
theorem fc_X2_15 : cx_FF RX2 15 2 1 true (.array .int) := ⟨RX2, TX2, 8, tyX2, rfl, lwX2, by decide, (ux_m1 33 rfl rfl), tyX2_ok, nmX2, rfl, (fun _ => rfl), by decide +kernel⟩
theorem fc_X2_18 : cx_FF RX2 18 2 2 true (.array .int) := ⟨RX2, TX2, 8, tyX2, rfl, lwX2, by decide, (ux_m1 34 rfl rfl), tyX2_ok, nmX2, rfl, (fun _ => rfl), by decide +kernel⟩
theorem fc_X2_21 : cx_FF RX2 21 2 3 true (.array .int) := ⟨RX2, TX2, 8, tyX2, rfl, lwX2, by decide, (ux_m1 36 rfl rfl), tyX2_ok, nmX2, rfl, (fun _ => rfl), by decide +kernel⟩
theorem fc_X2_26 : cx_FF RX2 26 2 4 true (.array (.array .int)) := ⟨RX2, TX2, 8, tyX2, rfl, lwX2, by decide, (ux_m1 38 rfl rfl), tyX2_ok, nmX2, rfl, (fun _ => rfl), by decide +kernel⟩
theorem fc_X2_29 : cx_FF RX2 29 2 5 false .int := ⟨RX2, TX2, 8, tyX2, rfl, lwX2, by decide, (ux_m1 41 rfl rfl), tyX2_ok, nmX2, rfl, (fun h => by cases h), by decide +kernel⟩
theorem fc_X2_33 : cx_FF RX2 33 2 6 false .int := ⟨RX2, TX2, 8, tyX2, rfl, lwX2, by decide, (ux_m1 45 rfl rfl), tyX2_ok, nmX2, rfl, (fun h => by cases h), by decide +kernel⟩
theorem fc_X2_36 : cx_FF RX2 36 2 7 false .int := ⟨RX2, TX2, 8, tyX2, rfl, lwX2, by decide, (ux_m1 48 rfl rfl), tyX2_ok, nmX2, rfl, (fun h => by cases h), by decide +kernel⟩
theorem c_X2 {l : Launch} {G : ux_G} {h0 sz : Nat} : cx_M l G yX2_init cX2_init 1 1 13 104 [.ref h0] [(h0, .inr (2, [.null, .null, .null, .null, .null, .int 0, .int 0, .int 0]))] sz (fun w => ∃ (a1 : Nat) (a2 : Nat) (a3 : Nat) (a4 : Nat) (a5 : Nat) (f6 : Nat → Nat), w = [(h0, .inr (2, [.ref a1, .ref a2, .ref a3, .ref a4, .ref a5, .int 0, .int 20, .int 1])), (a1, .inl (G.2.2.1 0, 8, .inl (fun _ => 0))), (a2, .inl (G.2.2.1 0, 8, .inl (fun _ => 0))), (a3, .inl (G.2.2.1 0, 8, .inl (fun _ => 0))), (a4, .inl (G.2.2.1 0, 8, .inl (fun _ => 0))), (a5, .inl (G.2.2.1 3, 8, .inr (.inr (.inr (.inr (fun i => some (f6 i))))))), (f6 0, .inl (G.2.2.1 0, 8, .inl (fun _ => 0))), (f6 1, .inl (G.2.2.1 0, 8, .inl (fun _ => 0))), (f6 2, .inl (G.2.2.1 0, 8, .inl (fun _ => 0))), (f6 3, .inl (G.2.2.1 0, 8, .inl (fun _ => 0))), (f6 4, .inl (G.2.2.1 0, 8, .inl (fun _ => 0))), (f6 5, .inl (G.2.2.1 0, 8, .inl (fun _ => 0))), (f6 6, .inl (G.2.2.1 0, 8, .inl (fun _ => 0))), (f6 7, .inl (G.2.2.1 0, 8, .inl (fun _ => 0)))]) := by
  refine cx_of (by decide) (Nat.le_of_ble_eq_true rfl) ?_
  show cx_At l G RX2 cX2_init 1 1 13 104 [(h0, .inr (2, [.null, .null, .null, .null, .null, .int 0, .int 0, .int 0]))] sz (fun w => ∃ (a1 : Nat) (a2 : Nat) (a3 : Nat) (a4 : Nat) (a5 : Nat) (f6 : Nat → Nat), w = [(h0, .inr (2, [.ref a1, .ref a2, .ref a3, .ref a4, .ref a5, .int 0, .int 20, .int 1])), (a1, .inl (G.2.2.1 0, 8, .inl (fun _ => 0))), (a2, .inl (G.2.2.1 0, 8, .inl (fun _ => 0))), (a3, .inl (G.2.2.1 0, 8, .inl (fun _ => 0))), (a4, .inl (G.2.2.1 0, 8, .inl (fun _ => 0))), (a5, .inl (G.2.2.1 3, 8, .inr (.inr (.inr (.inr (fun i => some (f6 i))))))), (f6 0, .inl (G.2.2.1 0, 8, .inl (fun _ => 0))), (f6 1, .inl (G.2.2.1 0, 8, .inl (fun _ => 0))), (f6 2, .inl (G.2.2.1 0, 8, .inl (fun _ => 0))), (f6 3, .inl (G.2.2.1 0, 8, .inl (fun _ => 0))), (f6 4, .inl (G.2.2.1 0, 8, .inl (fun _ => 0))), (f6 5, .inl (G.2.2.1 0, 8, .inl (fun _ => 0))), (f6 6, .inl (G.2.2.1 0, 8, .inl (fun _ => 0))), (f6 7, .inl (G.2.2.1 0, 8, .inl (fun _ => 0)))]) "<init>" 0 [(0, .ref h0)] [] [(h0, .inr (2, [.null, .null, .null, .null, .null, .int 0, .int 0, .int 0]))] 0 0
  refine cx_aload_n 1 dX2_init_0 rfl 0 rfl rfl ?_
  refine cx_objInit 4 dX2_init_1 (ux_m1 27 rfl rfl) (by decide) rfl rfl ?_
  refine cx_aload_n 5 dX2_init_4 rfl 0 rfl rfl ?_
  refine cx_bipush (v := 8) 7 dX2_init_5 rfl rfl ?_
  refine cx_newa (t0 := 0) (N := 8) (a0 := (8, .inl (fun _ => 0))) 9 dX2_init_7 (ux_m1 68 rfl rfl) rfl rfl (fun C h => by cases h) (fun _ => rfl) (by decide) (by decide +kernel) (by decide) (by decide) (by decide) rfl (fun a1 => ?_)
  refine cx_put 0 12 dX2_init_9 fc_X2_9 rfl rfl rfl rfl (Nat.le_of_ble_eq_true rfl) rfl ?_
  refine cx_re [(h0, .inr (2, [.ref a1, .null, .null, .null, .null, .int 0, .int 0, .int 0])), (a1, .inl (G.2.2.1 0, 8, .inl (fun _ => 0)))] rfl ?_
  refine cx_aload_n 13 dX2_init_12 rfl 0 rfl rfl ?_
  refine cx_bipush (v := 8) 15 dX2_init_13 rfl rfl ?_
  refine cx_newa (t0 := 0) (N := 8) (a0 := (8, .inl (fun _ => 0))) 17 dX2_init_15 (ux_m1 68 rfl rfl) rfl rfl (fun C h => by cases h) (fun _ => rfl) (by decide) (by decide +kernel) (by decide) (by decide) (by decide) rfl (fun a2 => ?_)
  refine cx_put 0 20 dX2_init_17 fc_X2_15 rfl rfl rfl rfl (Nat.le_of_ble_eq_true rfl) rfl ?_
  refine cx_re [(h0, .inr (2, [.ref a1, .ref a2, .null, .null, .null, .int 0, .int 0, .int 0])), (a1, .inl (G.2.2.1 0, 8, .inl (fun _ => 0))), (a2, .inl (G.2.2.1 0, 8, .inl (fun _ => 0)))] rfl ?_
  refine cx_aload_n 21 dX2_init_20 rfl 0 rfl rfl ?_
  refine cx_bipush (v := 8) 23 dX2_init_21 rfl rfl ?_
  refine cx_newa (t0 := 0) (N := 8) (a0 := (8, .inl (fun _ => 0))) 25 dX2_init_23 (ux_m1 68 rfl rfl) rfl rfl (fun C h => by cases h) (fun _ => rfl) (by decide) (by decide +kernel) (by decide) (by decide) (by decide) rfl (fun a3 => ?_)
  refine cx_put 0 28 dX2_init_25 fc_X2_18 rfl rfl rfl rfl (Nat.le_of_ble_eq_true rfl) rfl ?_
  refine cx_re [(h0, .inr (2, [.ref a1, .ref a2, .ref a3, .null, .null, .int 0, .int 0, .int 0])), (a1, .inl (G.2.2.1 0, 8, .inl (fun _ => 0))), (a2, .inl (G.2.2.1 0, 8, .inl (fun _ => 0))), (a3, .inl (G.2.2.1 0, 8, .inl (fun _ => 0)))] rfl ?_
  refine cx_aload_n 29 dX2_init_28 rfl 0 rfl rfl ?_
  refine cx_bipush (v := 8) 31 dX2_init_29 rfl rfl ?_
  refine cx_newa (t0 := 0) (N := 8) (a0 := (8, .inl (fun _ => 0))) 33 dX2_init_31 (ux_m1 68 rfl rfl) rfl rfl (fun C h => by cases h) (fun _ => rfl) (by decide) (by decide +kernel) (by decide) (by decide) (by decide) rfl (fun a4 => ?_)
  refine cx_put 0 36 dX2_init_33 fc_X2_21 rfl rfl rfl rfl (Nat.le_of_ble_eq_true rfl) rfl ?_
  refine cx_re [(h0, .inr (2, [.ref a1, .ref a2, .ref a3, .ref a4, .null, .int 0, .int 0, .int 0])), (a1, .inl (G.2.2.1 0, 8, .inl (fun _ => 0))), (a2, .inl (G.2.2.1 0, 8, .inl (fun _ => 0))), (a3, .inl (G.2.2.1 0, 8, .inl (fun _ => 0))), (a4, .inl (G.2.2.1 0, 8, .inl (fun _ => 0)))] rfl ?_
  refine cx_aload_n 37 dX2_init_36 rfl 0 rfl rfl ?_
  refine cx_bipush (v := 8) 39 dX2_init_37 rfl rfl ?_
  refine cx_bipush (v := 8) 41 dX2_init_39 rfl rfl ?_
  refine cx_mna (ty := .int) (t0 := 0) (t1 := 3) (N := 8) (M := 8) (z := (8, .inl (fun _ => 0))) 45 dX2_init_41 (ux_m1 28 rfl rfl) (fun _ h => h.2.2.2.2.1) (ux_m1 68 rfl rfl) rfl rfl rfl (fun C h => by cases h) (by decide) (by decide) (by decide +kernel) (by decide +kernel) (by decide) (by decide) (by decide) rfl rfl (by decide) (by decide) (fun c => cx_inner c 8) rfl (fun a5 f6 => ?_)
  refine cx_re [(h0, .inr (2, [.ref a1, .ref a2, .ref a3, .ref a4, .null, .int 0, .int 0, .int 0])), (a1, .inl (G.2.2.1 0, 8, .inl (fun _ => 0))), (a2, .inl (G.2.2.1 0, 8, .inl (fun _ => 0))), (a3, .inl (G.2.2.1 0, 8, .inl (fun _ => 0))), (a4, .inl (G.2.2.1 0, 8, .inl (fun _ => 0))), (a5, .inl (G.2.2.1 3, 8, .inr (.inr (.inr (.inr (fun i => some (f6 i))))))), (f6 0, .inl (G.2.2.1 0, 8, .inl (fun _ => 0))), (f6 1, .inl (G.2.2.1 0, 8, .inl (fun _ => 0))), (f6 2, .inl (G.2.2.1 0, 8, .inl (fun _ => 0))), (f6 3, .inl (G.2.2.1 0, 8, .inl (fun _ => 0))), (f6 4, .inl (G.2.2.1 0, 8, .inl (fun _ => 0))), (f6 5, .inl (G.2.2.1 0, 8, .inl (fun _ => 0))), (f6 6, .inl (G.2.2.1 0, 8, .inl (fun _ => 0))), (f6 7, .inl (G.2.2.1 0, 8, .inl (fun _ => 0)))] rfl ?_
  refine cx_put 0 48 dX2_init_45 fc_X2_26 rfl rfl rfl rfl (Nat.le_of_ble_eq_true rfl) rfl ?_
  refine cx_re [(h0, .inr (2, [.ref a1, .ref a2, .ref a3, .ref a4, .ref a5, .int 0, .int 0, .int 0])), (a1, .inl (G.2.2.1 0, 8, .inl (fun _ => 0))), (a2, .inl (G.2.2.1 0, 8, .inl (fun _ => 0))), (a3, .inl (G.2.2.1 0, 8, .inl (fun _ => 0))), (a4, .inl (G.2.2.1 0, 8, .inl (fun _ => 0))), (a5, .inl (G.2.2.1 3, 8, .inr (.inr (.inr (.inr (fun i => some (f6 i))))))), (f6 0, .inl (G.2.2.1 0, 8, .inl (fun _ => 0))), (f6 1, .inl (G.2.2.1 0, 8, .inl (fun _ => 0))), (f6 2, .inl (G.2.2.1 0, 8, .inl (fun _ => 0))), (f6 3, .inl (G.2.2.1 0, 8, .inl (fun _ => 0))), (f6 4, .inl (G.2.2.1 0, 8, .inl (fun _ => 0))), (f6 5, .inl (G.2.2.1 0, 8, .inl (fun _ => 0))), (f6 6, .inl (G.2.2.1 0, 8, .inl (fun _ => 0))), (f6 7, .inl (G.2.2.1 0, 8, .inl (fun _ => 0)))] rfl ?_
  refine cx_aload_n 49 dX2_init_48 rfl 0 rfl rfl ?_
  refine cx_iconst (v := 0) 50 dX2_init_49 rfl rfl ?_
  refine cx_put 0 53 dX2_init_50 fc_X2_29 rfl rfl rfl rfl (Nat.le_of_ble_eq_true rfl) rfl ?_
  refine cx_re [(h0, .inr (2, [.ref a1, .ref a2, .ref a3, .ref a4, .ref a5, .int 0, .int 0, .int 0])), (a1, .inl (G.2.2.1 0, 8, .inl (fun _ => 0))), (a2, .inl (G.2.2.1 0, 8, .inl (fun _ => 0))), (a3, .inl (G.2.2.1 0, 8, .inl (fun _ => 0))), (a4, .inl (G.2.2.1 0, 8, .inl (fun _ => 0))), (a5, .inl (G.2.2.1 3, 8, .inr (.inr (.inr (.inr (fun i => some (f6 i))))))), (f6 0, .inl (G.2.2.1 0, 8, .inl (fun _ => 0))), (f6 1, .inl (G.2.2.1 0, 8, .inl (fun _ => 0))), (f6 2, .inl (G.2.2.1 0, 8, .inl (fun _ => 0))), (f6 3, .inl (G.2.2.1 0, 8, .inl (fun _ => 0))), (f6 4, .inl (G.2.2.1 0, 8, .inl (fun _ => 0))), (f6 5, .inl (G.2.2.1 0, 8, .inl (fun _ => 0))), (f6 6, .inl (G.2.2.1 0, 8, .inl (fun _ => 0))), (f6 7, .inl (G.2.2.1 0, 8, .inl (fun _ => 0)))] rfl ?_
  refine cx_aload_n 54 dX2_init_53 rfl 0 rfl rfl ?_
  refine cx_bipush (v := 20) 56 dX2_init_54 rfl rfl ?_
  refine cx_put 0 59 dX2_init_56 fc_X2_33 rfl rfl rfl rfl (Nat.le_of_ble_eq_true rfl) rfl ?_
  refine cx_re [(h0, .inr (2, [.ref a1, .ref a2, .ref a3, .ref a4, .ref a5, .int 0, .int 20, .int 0])), (a1, .inl (G.2.2.1 0, 8, .inl (fun _ => 0))), (a2, .inl (G.2.2.1 0, 8, .inl (fun _ => 0))), (a3, .inl (G.2.2.1 0, 8, .inl (fun _ => 0))), (a4, .inl (G.2.2.1 0, 8, .inl (fun _ => 0))), (a5, .inl (G.2.2.1 3, 8, .inr (.inr (.inr (.inr (fun i => some (f6 i))))))), (f6 0, .inl (G.2.2.1 0, 8, .inl (fun _ => 0))), (f6 1, .inl (G.2.2.1 0, 8, .inl (fun _ => 0))), (f6 2, .inl (G.2.2.1 0, 8, .inl (fun _ => 0))), (f6 3, .inl (G.2.2.1 0, 8, .inl (fun _ => 0))), (f6 4, .inl (G.2.2.1 0, 8, .inl (fun _ => 0))), (f6 5, .inl (G.2.2.1 0, 8, .inl (fun _ => 0))), (f6 6, .inl (G.2.2.1 0, 8, .inl (fun _ => 0))), (f6 7, .inl (G.2.2.1 0, 8, .inl (fun _ => 0)))] rfl ?_
  refine cx_aload_n 60 dX2_init_59 rfl 0 rfl rfl ?_
  refine cx_iconst (v := 1) 61 dX2_init_60 rfl rfl ?_
  refine cx_put 0 64 dX2_init_61 fc_X2_36 rfl rfl rfl rfl (Nat.le_of_ble_eq_true rfl) rfl ?_
  refine cx_re [(h0, .inr (2, [.ref a1, .ref a2, .ref a3, .ref a4, .ref a5, .int 0, .int 20, .int 1])), (a1, .inl (G.2.2.1 0, 8, .inl (fun _ => 0))), (a2, .inl (G.2.2.1 0, 8, .inl (fun _ => 0))), (a3, .inl (G.2.2.1 0, 8, .inl (fun _ => 0))), (a4, .inl (G.2.2.1 0, 8, .inl (fun _ => 0))), (a5, .inl (G.2.2.1 3, 8, .inr (.inr (.inr (.inr (fun i => some (f6 i))))))), (f6 0, .inl (G.2.2.1 0, 8, .inl (fun _ => 0))), (f6 1, .inl (G.2.2.1 0, 8, .inl (fun _ => 0))), (f6 2, .inl (G.2.2.1 0, 8, .inl (fun _ => 0))), (f6 3, .inl (G.2.2.1 0, 8, .inl (fun _ => 0))), (f6 4, .inl (G.2.2.1 0, 8, .inl (fun _ => 0))), (f6 5, .inl (G.2.2.1 0, 8, .inl (fun _ => 0))), (f6 6, .inl (G.2.2.1 0, 8, .inl (fun _ => 0))), (f6 7, .inl (G.2.2.1 0, 8, .inl (fun _ => 0)))] rfl ?_
  exact cx_vret dX2_init_64 (Nat.le_refl _) (Nat.le_refl _) ⟨a1, a2, a3, a4, a5, f6, rfl⟩
theorem dfX3 : ∀ j, j < 6 → defaultValue (tyX3 j) = vp_V [.null, .null, .null, .null, .null, .int 0] j := fun j hj => match j, hj with
  | 0, _ => rfl
  | 1, _ => rfl
  | 2, _ => rfl
  | 3, _ => rfl
  | 4, _ => rfl
  | 5, _ => rfl
  | k + 6, h => absurd h (by omega)
theorem fc_X3_9 : cx_FF RX3 9 3 0 true (.array .int) := ⟨RX3, TX3, 6, tyX3, rfl, lwX3, by decide, (ux_m1 198 rfl rfl), tyX3_ok, nmX3, rfl, (fun _ => rfl), by decide +kernel⟩
theorem fc_X3_15 : cx_FF RX3 15 3 1 true (.array .boolean) := ⟨RX3, TX3, 6, tyX3, rfl, lwX3, by decide, (ux_m1 199 rfl rfl), tyX3_ok, nmX3, rfl, (fun _ => rfl), by decide +kernel⟩
theorem fc_X3_19 : cx_FF RX3 19 3 2 true (.array .int) := ⟨RX3, TX3, 6, tyX3, rfl, lwX3, by decide, (ux_m1 201 rfl rfl), tyX3_ok, nmX3, rfl, (fun _ => rfl), by decide +kernel⟩
theorem fc_X3_22 : cx_FF RX3 22 3 3 true (.array .boolean) := ⟨RX3, TX3, 6, tyX3, rfl, lwX3, by decide, (ux_m1 203 rfl rfl), tyX3_ok, nmX3, rfl, (fun _ => rfl), by decide +kernel⟩
theorem fc_X3_25 : cx_FF RX3 25 3 4 true (.array .int) := ⟨RX3, TX3, 6, tyX3, rfl, lwX3, by decide, (ux_m1 205 rfl rfl), tyX3_ok, nmX3, rfl, (fun _ => rfl), by decide +kernel⟩
theorem fc_X3_28 : cx_FF RX3 28 3 5 false .int := ⟨RX3, TX3, 6, tyX3, rfl, lwX3, by decide, (ux_m1 207 rfl rfl), tyX3_ok, nmX3, rfl, (fun h => by cases h), by decide +kernel⟩
theorem c_X3 {l : Launch} {G : ux_G} {h0 sz : Nat} : cx_M l G yX3_init cX3_init 1 1 5 60 [.ref h0] [(h0, .inr (3, [.null, .null, .null, .null, .null, .int 0]))] sz (fun w => ∃ (a1 : Nat) (a2 : Nat) (a3 : Nat) (a4 : Nat) (a5 : Nat), w = [(h0, .inr (3, [.ref a1, .ref a2, .ref a3, .ref a4, .ref a5, .int 0])), (a1, .inl (G.2.2.1 0, 12, .inl (fun _ => 0))), (a2, .inl (G.2.2.1 2, 12, .inl (fun _ => 0))), (a3, .inl (G.2.2.1 0, 12, .inl (fun _ => 0))), (a4, .inl (G.2.2.1 2, 12, .inl (fun _ => 0))), (a5, .inl (G.2.2.1 0, 12, .inl (fun _ => 0)))]) := by
  refine cx_of (by decide) (Nat.le_of_ble_eq_true rfl) ?_
  show cx_At l G RX3 cX3_init 1 1 5 60 [(h0, .inr (3, [.null, .null, .null, .null, .null, .int 0]))] sz (fun w => ∃ (a1 : Nat) (a2 : Nat) (a3 : Nat) (a4 : Nat) (a5 : Nat), w = [(h0, .inr (3, [.ref a1, .ref a2, .ref a3, .ref a4, .ref a5, .int 0])), (a1, .inl (G.2.2.1 0, 12, .inl (fun _ => 0))), (a2, .inl (G.2.2.1 2, 12, .inl (fun _ => 0))), (a3, .inl (G.2.2.1 0, 12, .inl (fun _ => 0))), (a4, .inl (G.2.2.1 2, 12, .inl (fun _ => 0))), (a5, .inl (G.2.2.1 0, 12, .inl (fun _ => 0)))]) "<init>" 0 [(0, .ref h0)] [] [(h0, .inr (3, [.null, .null, .null, .null, .null, .int 0]))] 0 0
  refine cx_aload_n 1 dX3_init_0 rfl 0 rfl rfl ?_
  refine cx_objInit 4 dX3_init_1 (ux_m1 197 rfl rfl) (by decide) rfl rfl ?_
  refine cx_aload_n 5 dX3_init_4 rfl 0 rfl rfl ?_
  refine cx_bipush (v := 12) 7 dX3_init_5 rfl rfl ?_
  refine cx_newa (t0 := 0) (N := 12) (a0 := (12, .inl (fun _ => 0))) 9 dX3_init_7 (ux_m1 68 rfl rfl) rfl rfl (fun C h => by cases h) (fun _ => rfl) (by decide) (by decide +kernel) (by decide) (by decide) (by decide) rfl (fun a1 => ?_)
  refine cx_put 0 12 dX3_init_9 fc_X3_9 rfl rfl rfl rfl (Nat.le_of_ble_eq_true rfl) rfl ?_
  refine cx_re [(h0, .inr (3, [.ref a1, .null, .null, .null, .null, .int 0])), (a1, .inl (G.2.2.1 0, 12, .inl (fun _ => 0)))] rfl ?_
  refine cx_aload_n 13 dX3_init_12 rfl 0 rfl rfl ?_
  refine cx_bipush (v := 12) 15 dX3_init_13 rfl rfl ?_
  refine cx_newa (t0 := 2) (N := 12) (a0 := (12, .inl (fun _ => 0))) 17 dX3_init_15 (ux_m1 222 rfl rfl) rfl rfl (fun C h => by cases h) (fun _ => rfl) (by decide) (by decide +kernel) (by decide) (by decide) (by decide) rfl (fun a2 => ?_)
  refine cx_put 0 20 dX3_init_17 fc_X3_15 rfl rfl rfl rfl (Nat.le_of_ble_eq_true rfl) rfl ?_
  refine cx_re [(h0, .inr (3, [.ref a1, .ref a2, .null, .null, .null, .int 0])), (a1, .inl (G.2.2.1 0, 12, .inl (fun _ => 0))), (a2, .inl (G.2.2.1 2, 12, .inl (fun _ => 0)))] rfl ?_
  refine cx_aload_n 21 dX3_init_20 rfl 0 rfl rfl ?_
  refine cx_bipush (v := 12) 23 dX3_init_21 rfl rfl ?_
  refine cx_newa (t0 := 0) (N := 12) (a0 := (12, .inl (fun _ => 0))) 25 dX3_init_23 (ux_m1 68 rfl rfl) rfl rfl (fun C h => by cases h) (fun _ => rfl) (by decide) (by decide +kernel) (by decide) (by decide) (by decide) rfl (fun a3 => ?_)
  refine cx_put 0 28 dX3_init_25 fc_X3_19 rfl rfl rfl rfl (Nat.le_of_ble_eq_true rfl) rfl ?_
  refine cx_re [(h0, .inr (3, [.ref a1, .ref a2, .ref a3, .null, .null, .int 0])), (a1, .inl (G.2.2.1 0, 12, .inl (fun _ => 0))), (a2, .inl (G.2.2.1 2, 12, .inl (fun _ => 0))), (a3, .inl (G.2.2.1 0, 12, .inl (fun _ => 0)))] rfl ?_
  refine cx_aload_n 29 dX3_init_28 rfl 0 rfl rfl ?_
  refine cx_bipush (v := 12) 31 dX3_init_29 rfl rfl ?_
  refine cx_newa (t0 := 2) (N := 12) (a0 := (12, .inl (fun _ => 0))) 33 dX3_init_31 (ux_m1 222 rfl rfl) rfl rfl (fun C h => by cases h) (fun _ => rfl) (by decide) (by decide +kernel) (by decide) (by decide) (by decide) rfl (fun a4 => ?_)
  refine cx_put 0 36 dX3_init_33 fc_X3_22 rfl rfl rfl rfl (Nat.le_of_ble_eq_true rfl) rfl ?_
  refine cx_re [(h0, .inr (3, [.ref a1, .ref a2, .ref a3, .ref a4, .null, .int 0])), (a1, .inl (G.2.2.1 0, 12, .inl (fun _ => 0))), (a2, .inl (G.2.2.1 2, 12, .inl (fun _ => 0))), (a3, .inl (G.2.2.1 0, 12, .inl (fun _ => 0))), (a4, .inl (G.2.2.1 2, 12, .inl (fun _ => 0)))] rfl ?_
  refine cx_aload_n 37 dX3_init_36 rfl 0 rfl rfl ?_
  refine cx_bipush (v := 12) 39 dX3_init_37 rfl rfl ?_
  refine cx_newa (t0 := 0) (N := 12) (a0 := (12, .inl (fun _ => 0))) 41 dX3_init_39 (ux_m1 68 rfl rfl) rfl rfl (fun C h => by cases h) (fun _ => rfl) (by decide) (by decide +kernel) (by decide) (by decide) (by decide) rfl (fun a5 => ?_)
  refine cx_put 0 44 dX3_init_41 fc_X3_25 rfl rfl rfl rfl (Nat.le_of_ble_eq_true rfl) rfl ?_
  refine cx_re [(h0, .inr (3, [.ref a1, .ref a2, .ref a3, .ref a4, .ref a5, .int 0])), (a1, .inl (G.2.2.1 0, 12, .inl (fun _ => 0))), (a2, .inl (G.2.2.1 2, 12, .inl (fun _ => 0))), (a3, .inl (G.2.2.1 0, 12, .inl (fun _ => 0))), (a4, .inl (G.2.2.1 2, 12, .inl (fun _ => 0))), (a5, .inl (G.2.2.1 0, 12, .inl (fun _ => 0)))] rfl ?_
  refine cx_aload_n 45 dX3_init_44 rfl 0 rfl rfl ?_
  refine cx_iconst (v := 0) 46 dX3_init_45 rfl rfl ?_
  refine cx_put 0 49 dX3_init_46 fc_X3_28 rfl rfl rfl rfl (Nat.le_of_ble_eq_true rfl) rfl ?_
  refine cx_re [(h0, .inr (3, [.ref a1, .ref a2, .ref a3, .ref a4, .ref a5, .int 0])), (a1, .inl (G.2.2.1 0, 12, .inl (fun _ => 0))), (a2, .inl (G.2.2.1 2, 12, .inl (fun _ => 0))), (a3, .inl (G.2.2.1 0, 12, .inl (fun _ => 0))), (a4, .inl (G.2.2.1 2, 12, .inl (fun _ => 0))), (a5, .inl (G.2.2.1 0, 12, .inl (fun _ => 0)))] rfl ?_
  exact cx_vret dX3_init_49 (Nat.le_refl _) (Nat.le_refl _) ⟨a1, a2, a3, a4, a5, rfl⟩
theorem dfX4 : ∀ j, j < 8 → defaultValue (tyX4 j) = vp_V [.null, .null, .int 0, .null, .null, .null, .null, .int 0] j := fun j hj => match j, hj with
  | 0, _ => rfl
  | 1, _ => rfl
  | 2, _ => rfl
  | 3, _ => rfl
  | 4, _ => rfl
  | 5, _ => rfl
  | 6, _ => rfl
  | 7, _ => rfl
  | k + 8, h => absurd h (by omega)
theorem fc_X4_9 : cx_FF RX4 9 4 0 true (.array .int) := ⟨RX4, TX4, 8, tyX4, rfl, lwX4, by decide, (ux_m1 93 rfl rfl), tyX4_ok, nmX4, rfl, (fun _ => rfl), by decide +kernel⟩
theorem fc_X4_15 : cx_FF RX4 15 4 1 true (.array .int) := ⟨RX4, TX4, 8, tyX4, rfl, lwX4, by decide, (ux_m1 94 rfl rfl), tyX4_ok, nmX4, rfl, (fun _ => rfl), by decide +kernel⟩
theorem fc_X4_18 : cx_FF RX4 18 4 2 false .int := ⟨RX4, TX4, 8, tyX4, rfl, lwX4, by decide, (ux_m1 95 rfl rfl), tyX4_ok, nmX4, rfl, (fun h => by cases h), by decide +kernel⟩
theorem fc_X4_22 : cx_FF RX4 22 4 3 true (.array .int) := ⟨RX4, TX4, 8, tyX4, rfl, lwX4, by decide, (ux_m1 97 rfl rfl), tyX4_ok, nmX4, rfl, (fun _ => rfl), by decide +kernel⟩
theorem fc_X4_25 : cx_FF RX4 25 4 4 true (.array .int) := ⟨RX4, TX4, 8, tyX4, rfl, lwX4, by decide, (ux_m1 99 rfl rfl), tyX4_ok, nmX4, rfl, (fun _ => rfl), by decide +kernel⟩
theorem fc_X4_28 : cx_FF RX4 28 4 5 true (.array .int) := ⟨RX4, TX4, 8, tyX4, rfl, lwX4, by decide, (ux_m1 100 rfl rfl), tyX4_ok, nmX4, rfl, (fun _ => rfl), by decide +kernel⟩
theorem fc_X4_33 : cx_FF RX4 33 4 6 true (.array (.array .int)) := ⟨RX4, TX4, 8, tyX4, rfl, lwX4, by decide, (ux_m1 101 rfl rfl), tyX4_ok, nmX4, rfl, (fun _ => rfl), by decide +kernel⟩
theorem fc_X4_37 : cx_FF RX4 37 4 7 false .int := ⟨RX4, TX4, 8, tyX4, rfl, lwX4, by decide, (ux_m1 102 rfl rfl), tyX4_ok, nmX4, rfl, (fun h => by cases h), by decide +kernel⟩
theorem c_X4 {l : Launch} {G : ux_G} {h0 sz : Nat} : cx_M l G yX4_init cX4_init 1 1 12 82 [.ref h0] [(h0, .inr (4, [.null, .null, .int 0, .null, .null, .null, .null, .int 0]))] sz (fun w => ∃ (a1 : Nat) (a2 : Nat) (a3 : Nat) (a4 : Nat) (a5 : Nat) (a6 : Nat) (f7 : Nat → Nat), w = [(h0, .inr (4, [.ref a1, .ref a2, .int 0, .ref a3, .ref a4, .ref a5, .ref a6, .int 1000000000])), (a1, .inl (G.2.2.1 0, 5, .inl (fun _ => 0))), (a2, .inl (G.2.2.1 0, 5, .inl (fun _ => 0))), (a3, .inl (G.2.2.1 0, 5, .inl (fun _ => 0))), (a4, .inl (G.2.2.1 0, 5, .inl (fun _ => 0))), (a5, .inl (G.2.2.1 0, 8, .inl (fun _ => 0))), (a6, .inl (G.2.2.1 3, 6, .inr (.inr (.inr (.inr (fun i => some (f7 i))))))), (f7 0, .inl (G.2.2.1 0, 8, .inl (fun _ => 0))), (f7 1, .inl (G.2.2.1 0, 8, .inl (fun _ => 0))), (f7 2, .inl (G.2.2.1 0, 8, .inl (fun _ => 0))), (f7 3, .inl (G.2.2.1 0, 8, .inl (fun _ => 0))), (f7 4, .inl (G.2.2.1 0, 8, .inl (fun _ => 0))), (f7 5, .inl (G.2.2.1 0, 8, .inl (fun _ => 0)))]) := by
  refine cx_of (by decide) (Nat.le_of_ble_eq_true rfl) ?_
  show cx_At l G RX4 cX4_init 1 1 12 82 [(h0, .inr (4, [.null, .null, .int 0, .null, .null, .null, .null, .int 0]))] sz (fun w => ∃ (a1 : Nat) (a2 : Nat) (a3 : Nat) (a4 : Nat) (a5 : Nat) (a6 : Nat) (f7 : Nat → Nat), w = [(h0, .inr (4, [.ref a1, .ref a2, .int 0, .ref a3, .ref a4, .ref a5, .ref a6, .int 1000000000])), (a1, .inl (G.2.2.1 0, 5, .inl (fun _ => 0))), (a2, .inl (G.2.2.1 0, 5, .inl (fun _ => 0))), (a3, .inl (G.2.2.1 0, 5, .inl (fun _ => 0))), (a4, .inl (G.2.2.1 0, 5, .inl (fun _ => 0))), (a5, .inl (G.2.2.1 0, 8, .inl (fun _ => 0))), (a6, .inl (G.2.2.1 3, 6, .inr (.inr (.inr (.inr (fun i => some (f7 i))))))), (f7 0, .inl (G.2.2.1 0, 8, .inl (fun _ => 0))), (f7 1, .inl (G.2.2.1 0, 8, .inl (fun _ => 0))), (f7 2, .inl (G.2.2.1 0, 8, .inl (fun _ => 0))), (f7 3, .inl (G.2.2.1 0, 8, .inl (fun _ => 0))), (f7 4, .inl (G.2.2.1 0, 8, .inl (fun _ => 0))), (f7 5, .inl (G.2.2.1 0, 8, .inl (fun _ => 0)))]) "<init>" 0 [(0, .ref h0)] [] [(h0, .inr (4, [.null, .null, .int 0, .null, .null, .null, .null, .int 0]))] 0 0
  refine cx_aload_n 1 dX4_init_0 rfl 0 rfl rfl ?_
  refine cx_objInit 4 dX4_init_1 (ux_m1 90 rfl rfl) (by decide) rfl rfl ?_
  refine cx_aload_n 5 dX4_init_4 rfl 0 rfl rfl ?_
  refine cx_iconst (v := 5) 6 dX4_init_5 rfl rfl ?_
  refine cx_newa (t0 := 0) (N := 5) (a0 := (5, .inl (fun _ => 0))) 8 dX4_init_6 (ux_m1 68 rfl rfl) rfl rfl (fun C h => by cases h) (fun _ => rfl) (by decide) (by decide +kernel) (by decide) (by decide) (by decide) rfl (fun a1 => ?_)
  refine cx_put 0 11 dX4_init_8 fc_X4_9 rfl rfl rfl rfl (Nat.le_of_ble_eq_true rfl) rfl ?_
  refine cx_re [(h0, .inr (4, [.ref a1, .null, .int 0, .null, .null, .null, .null, .int 0])), (a1, .inl (G.2.2.1 0, 5, .inl (fun _ => 0)))] rfl ?_
  refine cx_aload_n 12 dX4_init_11 rfl 0 rfl rfl ?_
  refine cx_iconst (v := 5) 13 dX4_init_12 rfl rfl ?_
  refine cx_newa (t0 := 0) (N := 5) (a0 := (5, .inl (fun _ => 0))) 15 dX4_init_13 (ux_m1 68 rfl rfl) rfl rfl (fun C h => by cases h) (fun _ => rfl) (by decide) (by decide +kernel) (by decide) (by decide) (by decide) rfl (fun a2 => ?_)
  refine cx_put 0 18 dX4_init_15 fc_X4_15 rfl rfl rfl rfl (Nat.le_of_ble_eq_true rfl) rfl ?_
  refine cx_re [(h0, .inr (4, [.ref a1, .ref a2, .int 0, .null, .null, .null, .null, .int 0])), (a1, .inl (G.2.2.1 0, 5, .inl (fun _ => 0))), (a2, .inl (G.2.2.1 0, 5, .inl (fun _ => 0)))] rfl ?_
  refine cx_aload_n 19 dX4_init_18 rfl 0 rfl rfl ?_
  refine cx_iconst (v := 0) 20 dX4_init_19 rfl rfl ?_
  refine cx_put 0 23 dX4_init_20 fc_X4_18 rfl rfl rfl rfl (Nat.le_of_ble_eq_true rfl) rfl ?_
  refine cx_re [(h0, .inr (4, [.ref a1, .ref a2, .int 0, .null, .null, .null, .null, .int 0])), (a1, .inl (G.2.2.1 0, 5, .inl (fun _ => 0))), (a2, .inl (G.2.2.1 0, 5, .inl (fun _ => 0)))] rfl ?_
  refine cx_aload_n 24 dX4_init_23 rfl 0 rfl rfl ?_
  refine cx_iconst (v := 5) 25 dX4_init_24 rfl rfl ?_
  refine cx_newa (t0 := 0) (N := 5) (a0 := (5, .inl (fun _ => 0))) 27 dX4_init_25 (ux_m1 68 rfl rfl) rfl rfl (fun C h => by cases h) (fun _ => rfl) (by decide) (by decide +kernel) (by decide) (by decide) (by decide) rfl (fun a3 => ?_)
  refine cx_put 0 30 dX4_init_27 fc_X4_22 rfl rfl rfl rfl (Nat.le_of_ble_eq_true rfl) rfl ?_
  refine cx_re [(h0, .inr (4, [.ref a1, .ref a2, .int 0, .ref a3, .null, .null, .null, .int 0])), (a1, .inl (G.2.2.1 0, 5, .inl (fun _ => 0))), (a2, .inl (G.2.2.1 0, 5, .inl (fun _ => 0))), (a3, .inl (G.2.2.1 0, 5, .inl (fun _ => 0)))] rfl ?_
  refine cx_aload_n 31 dX4_init_30 rfl 0 rfl rfl ?_
  refine cx_iconst (v := 5) 32 dX4_init_31 rfl rfl ?_
  refine cx_newa (t0 := 0) (N := 5) (a0 := (5, .inl (fun _ => 0))) 34 dX4_init_32 (ux_m1 68 rfl rfl) rfl rfl (fun C h => by cases h) (fun _ => rfl) (by decide) (by decide +kernel) (by decide) (by decide) (by decide) rfl (fun a4 => ?_)
  refine cx_put 0 37 dX4_init_34 fc_X4_25 rfl rfl rfl rfl (Nat.le_of_ble_eq_true rfl) rfl ?_
  refine cx_re [(h0, .inr (4, [.ref a1, .ref a2, .int 0, .ref a3, .ref a4, .null, .null, .int 0])), (a1, .inl (G.2.2.1 0, 5, .inl (fun _ => 0))), (a2, .inl (G.2.2.1 0, 5, .inl (fun _ => 0))), (a3, .inl (G.2.2.1 0, 5, .inl (fun _ => 0))), (a4, .inl (G.2.2.1 0, 5, .inl (fun _ => 0)))] rfl ?_
  refine cx_aload_n 38 dX4_init_37 rfl 0 rfl rfl ?_
  refine cx_bipush (v := 8) 40 dX4_init_38 rfl rfl ?_
  refine cx_newa (t0 := 0) (N := 8) (a0 := (8, .inl (fun _ => 0))) 42 dX4_init_40 (ux_m1 68 rfl rfl) rfl rfl (fun C h => by cases h) (fun _ => rfl) (by decide) (by decide +kernel) (by decide) (by decide) (by decide) rfl (fun a5 => ?_)
  refine cx_put 0 45 dX4_init_42 fc_X4_28 rfl rfl rfl rfl (Nat.le_of_ble_eq_true rfl) rfl ?_
  refine cx_re [(h0, .inr (4, [.ref a1, .ref a2, .int 0, .ref a3, .ref a4, .ref a5, .null, .int 0])), (a1, .inl (G.2.2.1 0, 5, .inl (fun _ => 0))), (a2, .inl (G.2.2.1 0, 5, .inl (fun _ => 0))), (a3, .inl (G.2.2.1 0, 5, .inl (fun _ => 0))), (a4, .inl (G.2.2.1 0, 5, .inl (fun _ => 0))), (a5, .inl (G.2.2.1 0, 8, .inl (fun _ => 0)))] rfl ?_
  refine cx_aload_n 46 dX4_init_45 rfl 0 rfl rfl ?_
  refine cx_bipush (v := 6) 48 dX4_init_46 rfl rfl ?_
  refine cx_bipush (v := 8) 50 dX4_init_48 rfl rfl ?_
  refine cx_mna (ty := .int) (t0 := 0) (t1 := 3) (N := 6) (M := 8) (z := (8, .inl (fun _ => 0))) 54 dX4_init_50 (ux_m1 91 rfl rfl) (fun _ h => h.2.2.2.2.1) (ux_m1 68 rfl rfl) rfl rfl rfl (fun C h => by cases h) (by decide) (by decide) (by decide +kernel) (by decide +kernel) (by decide) (by decide) (by decide) rfl rfl (by decide) (by decide) (fun c => cx_inner c 8) rfl (fun a6 f7 => ?_)
  refine cx_re [(h0, .inr (4, [.ref a1, .ref a2, .int 0, .ref a3, .ref a4, .ref a5, .null, .int 0])), (a1, .inl (G.2.2.1 0, 5, .inl (fun _ => 0))), (a2, .inl (G.2.2.1 0, 5, .inl (fun _ => 0))), (a3, .inl (G.2.2.1 0, 5, .inl (fun _ => 0))), (a4, .inl (G.2.2.1 0, 5, .inl (fun _ => 0))), (a5, .inl (G.2.2.1 0, 8, .inl (fun _ => 0))), (a6, .inl (G.2.2.1 3, 6, .inr (.inr (.inr (.inr (fun i => some (f7 i))))))), (f7 0, .inl (G.2.2.1 0, 8, .inl (fun _ => 0))), (f7 1, .inl (G.2.2.1 0, 8, .inl (fun _ => 0))), (f7 2, .inl (G.2.2.1 0, 8, .inl (fun _ => 0))), (f7 3, .inl (G.2.2.1 0, 8, .inl (fun _ => 0))), (f7 4, .inl (G.2.2.1 0, 8, .inl (fun _ => 0))), (f7 5, .inl (G.2.2.1 0, 8, .inl (fun _ => 0)))] rfl ?_
  refine cx_put 0 57 dX4_init_54 fc_X4_33 rfl rfl rfl rfl (Nat.le_of_ble_eq_true rfl) rfl ?_
  refine cx_re [(h0, .inr (4, [.ref a1, .ref a2, .int 0, .ref a3, .ref a4, .ref a5, .ref a6, .int 0])), (a1, .inl (G.2.2.1 0, 5, .inl (fun _ => 0))), (a2, .inl (G.2.2.1 0, 5, .inl (fun _ => 0))), (a3, .inl (G.2.2.1 0, 5, .inl (fun _ => 0))), (a4, .inl (G.2.2.1 0, 5, .inl (fun _ => 0))), (a5, .inl (G.2.2.1 0, 8, .inl (fun _ => 0))), (a6, .inl (G.2.2.1 3, 6, .inr (.inr (.inr (.inr (fun i => some (f7 i))))))), (f7 0, .inl (G.2.2.1 0, 8, .inl (fun _ => 0))), (f7 1, .inl (G.2.2.1 0, 8, .inl (fun _ => 0))), (f7 2, .inl (G.2.2.1 0, 8, .inl (fun _ => 0))), (f7 3, .inl (G.2.2.1 0, 8, .inl (fun _ => 0))), (f7 4, .inl (G.2.2.1 0, 8, .inl (fun _ => 0))), (f7 5, .inl (G.2.2.1 0, 8, .inl (fun _ => 0)))] rfl ?_
  refine cx_aload_n 58 dX4_init_57 rfl 0 rfl rfl ?_
  refine cx_ldc (v := 1000000000) 60 dX4_init_58 (ux_m1 92 rfl rfl) rfl ?_
  refine cx_put 0 63 dX4_init_60 fc_X4_37 rfl rfl rfl rfl (Nat.le_of_ble_eq_true rfl) rfl ?_
  refine cx_re [(h0, .inr (4, [.ref a1, .ref a2, .int 0, .ref a3, .ref a4, .ref a5, .ref a6, .int 1000000000])), (a1, .inl (G.2.2.1 0, 5, .inl (fun _ => 0))), (a2, .inl (G.2.2.1 0, 5, .inl (fun _ => 0))), (a3, .inl (G.2.2.1 0, 5, .inl (fun _ => 0))), (a4, .inl (G.2.2.1 0, 5, .inl (fun _ => 0))), (a5, .inl (G.2.2.1 0, 8, .inl (fun _ => 0))), (a6, .inl (G.2.2.1 3, 6, .inr (.inr (.inr (.inr (fun i => some (f7 i))))))), (f7 0, .inl (G.2.2.1 0, 8, .inl (fun _ => 0))), (f7 1, .inl (G.2.2.1 0, 8, .inl (fun _ => 0))), (f7 2, .inl (G.2.2.1 0, 8, .inl (fun _ => 0))), (f7 3, .inl (G.2.2.1 0, 8, .inl (fun _ => 0))), (f7 4, .inl (G.2.2.1 0, 8, .inl (fun _ => 0))), (f7 5, .inl (G.2.2.1 0, 8, .inl (fun _ => 0)))] rfl ?_
  exact cx_vret dX4_init_63 (Nat.le_refl _) (Nat.le_refl _) ⟨a1, a2, a3, a4, a5, a6, f7, rfl⟩
theorem dfX5 : ∀ j, j < 2 → defaultValue (tyX5 j) = vp_V [.null, .int 0] j := fun j hj => match j, hj with
  | 0, _ => rfl
  | 1, _ => rfl
  | k + 2, h => absurd h (by omega)
theorem fc_X5_9 : cx_FF RX5 9 5 0 true (.array .int) := ⟨RX5, TX5, 2, tyX5, rfl, lwX5, by decide, (ux_m1 78 rfl rfl), tyX5_ok, nmX5, rfl, (fun _ => rfl), by decide +kernel⟩
theorem fc_X5_15 : cx_FF RX5 15 5 1 false .int := ⟨RX5, TX5, 2, tyX5, rfl, lwX5, by decide, (ux_m1 79 rfl rfl), tyX5_ok, nmX5, rfl, (fun h => by cases h), by decide +kernel⟩
theorem c_X5 {l : Launch} {G : ux_G} {h0 sz : Nat} : cx_M l G yX5_init cX5_init 1 1 1 21 [.ref h0] [(h0, .inr (5, [.null, .int 0]))] sz (fun w => ∃ (a1 : Nat), w = [(h0, .inr (5, [.ref a1, .int 10])), (a1, .inl (G.2.2.1 0, 21, .inl (fun _ => 100)))]) := by
  refine cx_of (by decide) (Nat.le_of_ble_eq_true rfl) ?_
  show cx_At l G RX5 cX5_init 1 1 1 21 [(h0, .inr (5, [.null, .int 0]))] sz (fun w => ∃ (a1 : Nat), w = [(h0, .inr (5, [.ref a1, .int 10])), (a1, .inl (G.2.2.1 0, 21, .inl (fun _ => 100)))]) "<init>" 0 [(0, .ref h0)] [] [(h0, .inr (5, [.null, .int 0]))] 0 0
  refine cx_aload_n 1 dX5_init_0 rfl 0 rfl rfl ?_
  refine cx_objInit 4 dX5_init_1 (ux_m1 74 rfl rfl) (by decide) rfl rfl ?_
  refine cx_aload_n 5 dX5_init_4 rfl 0 rfl rfl ?_
  refine cx_bipush (v := 21) 7 dX5_init_5 rfl rfl ?_
  refine cx_newa (t0 := 0) (N := 21) (a0 := (21, .inl (fun _ => 0))) 9 dX5_init_7 (ux_m1 68 rfl rfl) rfl rfl (fun C h => by cases h) (fun _ => rfl) (by decide) (by decide +kernel) (by decide) (by decide) (by decide) rfl (fun a1 => ?_)
  refine cx_put 0 12 dX5_init_9 fc_X5_9 rfl rfl rfl rfl (Nat.le_of_ble_eq_true rfl) rfl ?_
  refine cx_re [(h0, .inr (5, [.ref a1, .int 0])), (a1, .inl (G.2.2.1 0, 21, .inl (fun _ => 0)))] rfl ?_
  refine cx_aload_n 13 dX5_init_12 rfl 0 rfl rfl ?_
  refine cx_bipush (v := 10) 15 dX5_init_13 rfl rfl ?_
  refine cx_put 0 18 dX5_init_15 fc_X5_15 rfl rfl rfl rfl (Nat.le_of_ble_eq_true rfl) rfl ?_
  refine cx_re [(h0, .inr (5, [.ref a1, .int 10])), (a1, .inl (G.2.2.1 0, 21, .inl (fun _ => 0)))] rfl ?_
  refine cx_aload_n 19 dX5_init_18 rfl 0 rfl rfl ?_
  refine cx_get 0 22 dX5_init_19 fc_X5_9 rfl rfl rfl ?_
  refine cx_bipush (v := 100) 24 dX5_init_22 rfl rfl ?_
  refine cx_callS (wc := [(a1, .inl (G.2.2.1 0, 21, .inl (fun _ => 0)))]) 27 [.ref a1, .int 100] [1] [0] [(h0, .inr (5, [.ref a1, .int 10]))] dX5_init_24 fs_X5_19 (fun _ => cx_fill (by decide)) rfl rfl rfl rfl rfl rfl (by decide) (by decide) (by decide) (by decide) (by decide) rfl (fun w1 h1 => ?_)
  subst h1
  refine cx_re [(h0, .inr (5, [.ref a1, .int 10])), (a1, .inl (G.2.2.1 0, 21, .inl (fun _ => 100)))] rfl ?_
  exact cx_vret dX5_init_27 (Nat.le_refl _) (Nat.le_refl _) ⟨a1, rfl⟩
theorem dfX6 : ∀ j, j < 3 → defaultValue (tyX6 j) = vp_V [.null, .null, .null] j := fun j hj => match j, hj with
  | 0, _ => rfl
  | 1, _ => rfl
  | 2, _ => rfl
  | k + 3, h => absurd h (by omega)
theorem fc_X6_11 : cx_FF RX6 11 6 0 true (.array (.array .long)) := ⟨RX6, TX6, 3, tyX6, rfl, lwX6, by decide, (ux_m1 129 rfl rfl), tyX6_ok, nmX6, rfl, (fun _ => rfl), by decide +kernel⟩
theorem fc_X6_16 : cx_FF RX6 16 6 1 true (.array .int) := ⟨RX6, TX6, 3, tyX6, rfl, lwX6, by decide, (ux_m1 131 rfl rfl), tyX6_ok, nmX6, rfl, (fun _ => rfl), by decide +kernel⟩
theorem fc_X6_20 : cx_FF RX6 20 6 2 true (.array .int) := ⟨RX6, TX6, 3, tyX6, rfl, lwX6, by decide, (ux_m1 133 rfl rfl), tyX6_ok, nmX6, rfl, (fun _ => rfl), by decide +kernel⟩
theorem c_X6 {l : Launch} {G : ux_G} {h0 sz : Nat} : cx_M l G yX6_init cX6_init 1 1 7 268 [.ref h0] [(h0, .inr (6, [.null, .null, .null]))] sz (fun w => ∃ (a1 : Nat) (f2 : Nat → Nat) (a3 : Nat) (a4 : Nat), w = [(h0, .inr (6, [.ref a1, .ref a3, .ref a4])), (a1, .inl (G.2.2.1 4, 4, .inr (.inr (.inr (.inr (fun i => some (f2 i))))))), (f2 0, .inl (G.2.2.1 1, 64, .inr (.inl (fun _ => 0)))), (f2 1, .inl (G.2.2.1 1, 64, .inr (.inl (fun _ => 0)))), (f2 2, .inl (G.2.2.1 1, 64, .inr (.inl (fun _ => 0)))), (f2 3, .inl (G.2.2.1 1, 64, .inr (.inl (fun _ => 0)))), (a3, .inl (G.2.2.1 0, 4, .inl (fun _ => 0))), (a4, .inl (G.2.2.1 0, 4, .inl (fun _ => -1)))]) := by
  refine cx_of (by decide) (Nat.le_of_ble_eq_true rfl) ?_
  show cx_At l G RX6 cX6_init 1 1 7 268 [(h0, .inr (6, [.null, .null, .null]))] sz (fun w => ∃ (a1 : Nat) (f2 : Nat → Nat) (a3 : Nat) (a4 : Nat), w = [(h0, .inr (6, [.ref a1, .ref a3, .ref a4])), (a1, .inl (G.2.2.1 4, 4, .inr (.inr (.inr (.inr (fun i => some (f2 i))))))), (f2 0, .inl (G.2.2.1 1, 64, .inr (.inl (fun _ => 0)))), (f2 1, .inl (G.2.2.1 1, 64, .inr (.inl (fun _ => 0)))), (f2 2, .inl (G.2.2.1 1, 64, .inr (.inl (fun _ => 0)))), (f2 3, .inl (G.2.2.1 1, 64, .inr (.inl (fun _ => 0)))), (a3, .inl (G.2.2.1 0, 4, .inl (fun _ => 0))), (a4, .inl (G.2.2.1 0, 4, .inl (fun _ => -1)))]) "<init>" 0 [(0, .ref h0)] [] [(h0, .inr (6, [.null, .null, .null]))] 0 0
  refine cx_aload_n 1 dX6_init_0 rfl 0 rfl rfl ?_
  refine cx_objInit 4 dX6_init_1 (ux_m1 125 rfl rfl) (by decide) rfl rfl ?_
  refine cx_aload_n 5 dX6_init_4 rfl 0 rfl rfl ?_
  refine cx_iconst (v := 4) 6 dX6_init_5 rfl rfl ?_
  refine cx_bipush (v := 64) 8 dX6_init_6 rfl rfl ?_
  refine cx_mna (ty := .long) (t0 := 1) (t1 := 4) (N := 4) (M := 64) (z := (64, .inr (.inl (fun _ => 0)))) 12 dX6_init_8 (ux_m1 126 rfl rfl) (fun _ h => h.2.2.2.2.2) (ux_m1 142 rfl rfl) rfl rfl rfl (fun C h => by cases h) (by decide) (by decide) (by decide +kernel) (by decide +kernel) (by decide) (by decide) (by decide) rfl rfl (by decide) (by decide) (fun c => cx_innerL c 64) rfl (fun a1 f2 => ?_)
  refine cx_re [(h0, .inr (6, [.null, .null, .null])), (a1, .inl (G.2.2.1 4, 4, .inr (.inr (.inr (.inr (fun i => some (f2 i))))))), (f2 0, .inl (G.2.2.1 1, 64, .inr (.inl (fun _ => 0)))), (f2 1, .inl (G.2.2.1 1, 64, .inr (.inl (fun _ => 0)))), (f2 2, .inl (G.2.2.1 1, 64, .inr (.inl (fun _ => 0)))), (f2 3, .inl (G.2.2.1 1, 64, .inr (.inl (fun _ => 0))))] rfl ?_
  refine cx_put 0 15 dX6_init_12 fc_X6_11 rfl rfl rfl rfl (Nat.le_of_ble_eq_true rfl) rfl ?_
  refine cx_re [(h0, .inr (6, [.ref a1, .null, .null])), (a1, .inl (G.2.2.1 4, 4, .inr (.inr (.inr (.inr (fun i => some (f2 i))))))), (f2 0, .inl (G.2.2.1 1, 64, .inr (.inl (fun _ => 0)))), (f2 1, .inl (G.2.2.1 1, 64, .inr (.inl (fun _ => 0)))), (f2 2, .inl (G.2.2.1 1, 64, .inr (.inl (fun _ => 0)))), (f2 3, .inl (G.2.2.1 1, 64, .inr (.inl (fun _ => 0))))] rfl ?_
  refine cx_aload_n 16 dX6_init_15 rfl 0 rfl rfl ?_
  refine cx_iconst (v := 4) 17 dX6_init_16 rfl rfl ?_
  refine cx_newa (t0 := 0) (N := 4) (a0 := (4, .inl (fun _ => 0))) 19 dX6_init_17 (ux_m1 68 rfl rfl) rfl rfl (fun C h => by cases h) (fun _ => rfl) (by decide) (by decide +kernel) (by decide) (by decide) (by decide) rfl (fun a3 => ?_)
  refine cx_put 0 22 dX6_init_19 fc_X6_16 rfl rfl rfl rfl (Nat.le_of_ble_eq_true rfl) rfl ?_
  refine cx_re [(h0, .inr (6, [.ref a1, .ref a3, .null])), (a1, .inl (G.2.2.1 4, 4, .inr (.inr (.inr (.inr (fun i => some (f2 i))))))), (f2 0, .inl (G.2.2.1 1, 64, .inr (.inl (fun _ => 0)))), (f2 1, .inl (G.2.2.1 1, 64, .inr (.inl (fun _ => 0)))), (f2 2, .inl (G.2.2.1 1, 64, .inr (.inl (fun _ => 0)))), (f2 3, .inl (G.2.2.1 1, 64, .inr (.inl (fun _ => 0)))), (a3, .inl (G.2.2.1 0, 4, .inl (fun _ => 0)))] rfl ?_
  refine cx_aload_n 23 dX6_init_22 rfl 0 rfl rfl ?_
  refine cx_iconst (v := 4) 24 dX6_init_23 rfl rfl ?_
  refine cx_newa (t0 := 0) (N := 4) (a0 := (4, .inl (fun _ => 0))) 26 dX6_init_24 (ux_m1 68 rfl rfl) rfl rfl (fun C h => by cases h) (fun _ => rfl) (by decide) (by decide +kernel) (by decide) (by decide) (by decide) rfl (fun a4 => ?_)
  refine cx_put 0 29 dX6_init_26 fc_X6_20 rfl rfl rfl rfl (Nat.le_of_ble_eq_true rfl) rfl ?_
  refine cx_re [(h0, .inr (6, [.ref a1, .ref a3, .ref a4])), (a1, .inl (G.2.2.1 4, 4, .inr (.inr (.inr (.inr (fun i => some (f2 i))))))), (f2 0, .inl (G.2.2.1 1, 64, .inr (.inl (fun _ => 0)))), (f2 1, .inl (G.2.2.1 1, 64, .inr (.inl (fun _ => 0)))), (f2 2, .inl (G.2.2.1 1, 64, .inr (.inl (fun _ => 0)))), (f2 3, .inl (G.2.2.1 1, 64, .inr (.inl (fun _ => 0)))), (a3, .inl (G.2.2.1 0, 4, .inl (fun _ => 0))), (a4, .inl (G.2.2.1 0, 4, .inl (fun _ => 0)))] rfl ?_
  refine cx_aload_n 30 dX6_init_29 rfl 0 rfl rfl ?_
  refine cx_get 0 33 dX6_init_30 fc_X6_20 rfl rfl rfl ?_
  refine cx_iconst (v := -1) 34 dX6_init_33 rfl rfl ?_
  refine cx_callS (wc := [(a4, .inl (G.2.2.1 0, 4, .inl (fun _ => 0)))]) 37 [.ref a4, .int (-1)] [7] [0, 1, 2, 3, 4, 5, 6] [(h0, .inr (6, [.ref a1, .ref a3, .ref a4])), (a1, .inl (G.2.2.1 4, 4, .inr (.inr (.inr (.inr (fun i => some (f2 i))))))), (f2 0, .inl (G.2.2.1 1, 64, .inr (.inl (fun _ => 0)))), (f2 1, .inl (G.2.2.1 1, 64, .inr (.inl (fun _ => 0)))), (f2 2, .inl (G.2.2.1 1, 64, .inr (.inl (fun _ => 0)))), (f2 3, .inl (G.2.2.1 1, 64, .inr (.inl (fun _ => 0)))), (a3, .inl (G.2.2.1 0, 4, .inl (fun _ => 0)))] dX6_init_34 fs_X6_23 (fun _ => cx_fill (by decide)) rfl rfl rfl rfl rfl rfl (by decide) (by decide) (by decide) (by decide) (by decide) rfl (fun w1 h1 => ?_)
  subst h1
  refine cx_re [(h0, .inr (6, [.ref a1, .ref a3, .ref a4])), (a1, .inl (G.2.2.1 4, 4, .inr (.inr (.inr (.inr (fun i => some (f2 i))))))), (f2 0, .inl (G.2.2.1 1, 64, .inr (.inl (fun _ => 0)))), (f2 1, .inl (G.2.2.1 1, 64, .inr (.inl (fun _ => 0)))), (f2 2, .inl (G.2.2.1 1, 64, .inr (.inl (fun _ => 0)))), (f2 3, .inl (G.2.2.1 1, 64, .inr (.inl (fun _ => 0)))), (a3, .inl (G.2.2.1 0, 4, .inl (fun _ => 0))), (a4, .inl (G.2.2.1 0, 4, .inl (fun _ => -1)))] rfl ?_
  exact cx_vret dX6_init_37 (Nat.le_refl _) (Nat.le_refl _) ⟨a1, f2, a3, a4, rfl⟩
