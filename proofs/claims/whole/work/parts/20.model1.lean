/-! printed by program (wip/gen): pure functions and contracts -/

def f_X8_in (S : ux_S) (p0 : Int64) (p1 : Int64) (p2 : Int64) : Option (Int32 × ux_S) :=
  if lg_cmp p0 p1 < 0 then (some (0, S)) else (if 0 < lg_cmp p0 p2 then (some (0, S)) else (some (1, S)))
set_option maxHeartbeats 2000000 in
set_option maxRecDepth 10000 in
theorem m_X8_in {l : Launch} {G : ux_G} {S : ux_S} {p0 : Int64} {p1 : Int64} {p2 : Int64} {r : Int32} {Z : ux_S} (hf : f_X8_in S p0 p1 p2 = some (r, Z)) : ux_M l G yX8_in cX8_in 6 (some .boolean) 1 [.long p0, .long p1, .long p2] S (some (.int r)) Z := by
  refine ux_of (by decide) (Nat.le_of_ble_eq_true rfl) ?_
  show ux_At l G RX8 cX8_in 6 (some .boolean) 1 (some (.int r)) Z 0 [(0, .long p0), (2, .long p1), (4, .long p2)] [] S
  unfold f_X8_in at hf
  refine ax_lload_n 1 dX8_in_0 rfl 0 rfl rfl ?_
  refine ax_lload_n 2 dX8_in_1 rfl 1 rfl rfl ?_
  refine ax_lcmp 3 dX8_in_2 rfl ?_
  refine ax_if_lt 17 6 dX8_in_3 (by decide) rfl (fun c1 => ?_) (fun c1 => ?_)
  · have hf := ux_ift c1 hf
    refine ax_iconst (v := 0) 18 dX8_in_17 (by decide) rfl ?_
    exact ax_zret dX8_in_18 rfl hf
  · have hf := ux_iff c1 hf
    refine ax_lload_n 7 dX8_in_6 rfl 0 rfl rfl ?_
    refine ax_lload 9 dX8_in_7 2 rfl rfl ?_
    refine ax_lcmp 10 dX8_in_9 rfl ?_
    refine ax_if_gt 17 13 dX8_in_10 (by decide) rfl (fun c2 => ?_) (fun c2 => ?_)
    · have hf := ux_ift c2 hf
      refine ax_iconst (v := 0) 18 dX8_in_17 (by decide) rfl ?_
      exact ax_zret dX8_in_18 rfl hf
    · have hf := ux_iff c2 hf
      refine ax_iconst (v := 1) 14 dX8_in_13 (by decide) rfl ?_
      refine ax_goto 18 dX8_in_14 (by decide) ?_
      exact ax_zret dX8_in_18 rfl hf
def f_X8_rack (S : ux_S) (p0 : Int32) (p1 : Int32) (p2 : Int32) (p3 : Int32) : Option (Int32 × ux_S) :=
  ux_bi (f_X8_in S ((p0 : Int32).toInt64) 0 1000) (fun r3 S2 => if r3 = 0 then (some ((-1), S2)) else (ux_bi (f_X8_in S2 ((p1 : Int32).toInt64) 10000 60000) (fun r7 S6 => if r7 = 0 then (some ((-1), S6)) else (ux_bi (f_X8_in S6 ((p2 : Int32).toInt64) 1 1000) (fun r11 S10 => if r11 = 0 then (some ((-1), S10)) else (ux_bi (f_X8_in S10 ((p3 : Int32).toInt64) 0 20) (fun r15 S14 => if r15 = 0 then (some ((-1), S14)) else (if S14.1 8 0 = 8 then (some ((-3), S14)) else (ux_gd (ux_ib (S14.1 8 0) 8) (ux_gd (ux_ib ((ux_i S14 54 (S14.1 8 0).toNatClampNeg p0).1 8 0) 8) (ux_gd (ux_ib ((ux_i (ux_i S14 54 (S14.1 8 0).toNatClampNeg p0) 55 ((ux_i S14 54 (S14.1 8 0).toNatClampNeg p0).1 8 0).toNatClampNeg p1).1 8 0) 8) (ux_gd (ux_ib ((ux_i (ux_i (ux_i S14 54 (S14.1 8 0).toNatClampNeg p0) 55 ((ux_i S14 54 (S14.1 8 0).toNatClampNeg p0).1 8 0).toNatClampNeg p1) 56 ((ux_i (ux_i S14 54 (S14.1 8 0).toNatClampNeg p0) 55 ((ux_i S14 54 (S14.1 8 0).toNatClampNeg p0).1 8 0).toNatClampNeg p1).1 8 0).toNatClampNeg p2).1 8 0) 8) (ux_gd (ux_ib ((2 : Int32) * ((ux_i (ux_i (ux_i (ux_i S14 54 (S14.1 8 0).toNatClampNeg p0) 55 ((ux_i S14 54 (S14.1 8 0).toNatClampNeg p0).1 8 0).toNatClampNeg p1) 56 ((ux_i (ux_i S14 54 (S14.1 8 0).toNatClampNeg p0) 55 ((ux_i S14 54 (S14.1 8 0).toNatClampNeg p0).1 8 0).toNatClampNeg p1).1 8 0).toNatClampNeg p2) 57 ((ux_i (ux_i (ux_i S14 54 (S14.1 8 0).toNatClampNeg p0) 55 ((ux_i S14 54 (S14.1 8 0).toNatClampNeg p0).1 8 0).toNatClampNeg p1) 56 ((ux_i (ux_i S14 54 (S14.1 8 0).toNatClampNeg p0) 55 ((ux_i S14 54 (S14.1 8 0).toNatClampNeg p0).1 8 0).toNatClampNeg p1).1 8 0).toNatClampNeg p2).1 8 0).toNatClampNeg p3).1 8 0)) 16) (ux_gd (ux_ib (((2 : Int32) * ((ux_i (ux_i (ux_i (ux_i (ux_i S14 54 (S14.1 8 0).toNatClampNeg p0) 55 ((ux_i S14 54 (S14.1 8 0).toNatClampNeg p0).1 8 0).toNatClampNeg p1) 56 ((ux_i (ux_i S14 54 (S14.1 8 0).toNatClampNeg p0) 55 ((ux_i S14 54 (S14.1 8 0).toNatClampNeg p0).1 8 0).toNatClampNeg p1).1 8 0).toNatClampNeg p2) 57 ((ux_i (ux_i (ux_i S14 54 (S14.1 8 0).toNatClampNeg p0) 55 ((ux_i S14 54 (S14.1 8 0).toNatClampNeg p0).1 8 0).toNatClampNeg p1) 56 ((ux_i (ux_i S14 54 (S14.1 8 0).toNatClampNeg p0) 55 ((ux_i S14 54 (S14.1 8 0).toNatClampNeg p0).1 8 0).toNatClampNeg p1).1 8 0).toNatClampNeg p2).1 8 0).toNatClampNeg p3) 72 ((2 : Int32) * ((ux_i (ux_i (ux_i (ux_i S14 54 (S14.1 8 0).toNatClampNeg p0) 55 ((ux_i S14 54 (S14.1 8 0).toNatClampNeg p0).1 8 0).toNatClampNeg p1) 56 ((ux_i (ux_i S14 54 (S14.1 8 0).toNatClampNeg p0) 55 ((ux_i S14 54 (S14.1 8 0).toNatClampNeg p0).1 8 0).toNatClampNeg p1).1 8 0).toNatClampNeg p2) 57 ((ux_i (ux_i (ux_i S14 54 (S14.1 8 0).toNatClampNeg p0) 55 ((ux_i S14 54 (S14.1 8 0).toNatClampNeg p0).1 8 0).toNatClampNeg p1) 56 ((ux_i (ux_i S14 54 (S14.1 8 0).toNatClampNeg p0) 55 ((ux_i S14 54 (S14.1 8 0).toNatClampNeg p0).1 8 0).toNatClampNeg p1).1 8 0).toNatClampNeg p2).1 8 0).toNatClampNeg p3).1 8 0)).toNatClampNeg (-4)).1 8 0)) + (1 : Int32)) 16) (some (((ux_i (ux_i (ux_i (ux_i (ux_i (ux_i (ux_i S14 54 (S14.1 8 0).toNatClampNeg p0) 55 ((ux_i S14 54 (S14.1 8 0).toNatClampNeg p0).1 8 0).toNatClampNeg p1) 56 ((ux_i (ux_i S14 54 (S14.1 8 0).toNatClampNeg p0) 55 ((ux_i S14 54 (S14.1 8 0).toNatClampNeg p0).1 8 0).toNatClampNeg p1).1 8 0).toNatClampNeg p2) 57 ((ux_i (ux_i (ux_i S14 54 (S14.1 8 0).toNatClampNeg p0) 55 ((ux_i S14 54 (S14.1 8 0).toNatClampNeg p0).1 8 0).toNatClampNeg p1) 56 ((ux_i (ux_i S14 54 (S14.1 8 0).toNatClampNeg p0) 55 ((ux_i S14 54 (S14.1 8 0).toNatClampNeg p0).1 8 0).toNatClampNeg p1).1 8 0).toNatClampNeg p2).1 8 0).toNatClampNeg p3) 72 ((2 : Int32) * ((ux_i (ux_i (ux_i (ux_i S14 54 (S14.1 8 0).toNatClampNeg p0) 55 ((ux_i S14 54 (S14.1 8 0).toNatClampNeg p0).1 8 0).toNatClampNeg p1) 56 ((ux_i (ux_i S14 54 (S14.1 8 0).toNatClampNeg p0) 55 ((ux_i S14 54 (S14.1 8 0).toNatClampNeg p0).1 8 0).toNatClampNeg p1).1 8 0).toNatClampNeg p2) 57 ((ux_i (ux_i (ux_i S14 54 (S14.1 8 0).toNatClampNeg p0) 55 ((ux_i S14 54 (S14.1 8 0).toNatClampNeg p0).1 8 0).toNatClampNeg p1) 56 ((ux_i (ux_i S14 54 (S14.1 8 0).toNatClampNeg p0) 55 ((ux_i S14 54 (S14.1 8 0).toNatClampNeg p0).1 8 0).toNatClampNeg p1).1 8 0).toNatClampNeg p2).1 8 0).toNatClampNeg p3).1 8 0)).toNatClampNeg (-4)) 72 (((2 : Int32) * ((ux_i (ux_i (ux_i (ux_i (ux_i S14 54 (S14.1 8 0).toNatClampNeg p0) 55 ((ux_i S14 54 (S14.1 8 0).toNatClampNeg p0).1 8 0).toNatClampNeg p1) 56 ((ux_i (ux_i S14 54 (S14.1 8 0).toNatClampNeg p0) 55 ((ux_i S14 54 (S14.1 8 0).toNatClampNeg p0).1 8 0).toNatClampNeg p1).1 8 0).toNatClampNeg p2) 57 ((ux_i (ux_i (ux_i S14 54 (S14.1 8 0).toNatClampNeg p0) 55 ((ux_i S14 54 (S14.1 8 0).toNatClampNeg p0).1 8 0).toNatClampNeg p1) 56 ((ux_i (ux_i S14 54 (S14.1 8 0).toNatClampNeg p0) 55 ((ux_i S14 54 (S14.1 8 0).toNatClampNeg p0).1 8 0).toNatClampNeg p1).1 8 0).toNatClampNeg p2).1 8 0).toNatClampNeg p3) 72 ((2 : Int32) * ((ux_i (ux_i (ux_i (ux_i S14 54 (S14.1 8 0).toNatClampNeg p0) 55 ((ux_i S14 54 (S14.1 8 0).toNatClampNeg p0).1 8 0).toNatClampNeg p1) 56 ((ux_i (ux_i S14 54 (S14.1 8 0).toNatClampNeg p0) 55 ((ux_i S14 54 (S14.1 8 0).toNatClampNeg p0).1 8 0).toNatClampNeg p1).1 8 0).toNatClampNeg p2) 57 ((ux_i (ux_i (ux_i S14 54 (S14.1 8 0).toNatClampNeg p0) 55 ((ux_i S14 54 (S14.1 8 0).toNatClampNeg p0).1 8 0).toNatClampNeg p1) 56 ((ux_i (ux_i S14 54 (S14.1 8 0).toNatClampNeg p0) 55 ((ux_i S14 54 (S14.1 8 0).toNatClampNeg p0).1 8 0).toNatClampNeg p1).1 8 0).toNatClampNeg p2).1 8 0).toNatClampNeg p3).1 8 0)).toNatClampNeg (-4)).1 8 0)) + (1 : Int32)).toNatClampNeg (-4)) 8 0 (((ux_i (ux_i (ux_i (ux_i (ux_i (ux_i S14 54 (S14.1 8 0).toNatClampNeg p0) 55 ((ux_i S14 54 (S14.1 8 0).toNatClampNeg p0).1 8 0).toNatClampNeg p1) 56 ((ux_i (ux_i S14 54 (S14.1 8 0).toNatClampNeg p0) 55 ((ux_i S14 54 (S14.1 8 0).toNatClampNeg p0).1 8 0).toNatClampNeg p1).1 8 0).toNatClampNeg p2) 57 ((ux_i (ux_i (ux_i S14 54 (S14.1 8 0).toNatClampNeg p0) 55 ((ux_i S14 54 (S14.1 8 0).toNatClampNeg p0).1 8 0).toNatClampNeg p1) 56 ((ux_i (ux_i S14 54 (S14.1 8 0).toNatClampNeg p0) 55 ((ux_i S14 54 (S14.1 8 0).toNatClampNeg p0).1 8 0).toNatClampNeg p1).1 8 0).toNatClampNeg p2).1 8 0).toNatClampNeg p3) 72 ((2 : Int32) * ((ux_i (ux_i (ux_i (ux_i S14 54 (S14.1 8 0).toNatClampNeg p0) 55 ((ux_i S14 54 (S14.1 8 0).toNatClampNeg p0).1 8 0).toNatClampNeg p1) 56 ((ux_i (ux_i S14 54 (S14.1 8 0).toNatClampNeg p0) 55 ((ux_i S14 54 (S14.1 8 0).toNatClampNeg p0).1 8 0).toNatClampNeg p1).1 8 0).toNatClampNeg p2) 57 ((ux_i (ux_i (ux_i S14 54 (S14.1 8 0).toNatClampNeg p0) 55 ((ux_i S14 54 (S14.1 8 0).toNatClampNeg p0).1 8 0).toNatClampNeg p1) 56 ((ux_i (ux_i S14 54 (S14.1 8 0).toNatClampNeg p0) 55 ((ux_i S14 54 (S14.1 8 0).toNatClampNeg p0).1 8 0).toNatClampNeg p1).1 8 0).toNatClampNeg p2).1 8 0).toNatClampNeg p3).1 8 0)).toNatClampNeg (-4)) 72 (((2 : Int32) * ((ux_i (ux_i (ux_i (ux_i (ux_i S14 54 (S14.1 8 0).toNatClampNeg p0) 55 ((ux_i S14 54 (S14.1 8 0).toNatClampNeg p0).1 8 0).toNatClampNeg p1) 56 ((ux_i (ux_i S14 54 (S14.1 8 0).toNatClampNeg p0) 55 ((ux_i S14 54 (S14.1 8 0).toNatClampNeg p0).1 8 0).toNatClampNeg p1).1 8 0).toNatClampNeg p2) 57 ((ux_i (ux_i (ux_i S14 54 (S14.1 8 0).toNatClampNeg p0) 55 ((ux_i S14 54 (S14.1 8 0).toNatClampNeg p0).1 8 0).toNatClampNeg p1) 56 ((ux_i (ux_i S14 54 (S14.1 8 0).toNatClampNeg p0) 55 ((ux_i S14 54 (S14.1 8 0).toNatClampNeg p0).1 8 0).toNatClampNeg p1).1 8 0).toNatClampNeg p2).1 8 0).toNatClampNeg p3) 72 ((2 : Int32) * ((ux_i (ux_i (ux_i (ux_i S14 54 (S14.1 8 0).toNatClampNeg p0) 55 ((ux_i S14 54 (S14.1 8 0).toNatClampNeg p0).1 8 0).toNatClampNeg p1) 56 ((ux_i (ux_i S14 54 (S14.1 8 0).toNatClampNeg p0) 55 ((ux_i S14 54 (S14.1 8 0).toNatClampNeg p0).1 8 0).toNatClampNeg p1).1 8 0).toNatClampNeg p2) 57 ((ux_i (ux_i (ux_i S14 54 (S14.1 8 0).toNatClampNeg p0) 55 ((ux_i S14 54 (S14.1 8 0).toNatClampNeg p0).1 8 0).toNatClampNeg p1) 56 ((ux_i (ux_i S14 54 (S14.1 8 0).toNatClampNeg p0) 55 ((ux_i S14 54 (S14.1 8 0).toNatClampNeg p0).1 8 0).toNatClampNeg p1).1 8 0).toNatClampNeg p2).1 8 0).toNatClampNeg p3).1 8 0)).toNatClampNeg (-4)).1 8 0)) + (1 : Int32)).toNatClampNeg (-4)).1 8 0) + (1 : Int32))).1 8 0) - (1 : Int32), ux_i (ux_i (ux_i (ux_i (ux_i (ux_i (ux_i S14 54 (S14.1 8 0).toNatClampNeg p0) 55 ((ux_i S14 54 (S14.1 8 0).toNatClampNeg p0).1 8 0).toNatClampNeg p1) 56 ((ux_i (ux_i S14 54 (S14.1 8 0).toNatClampNeg p0) 55 ((ux_i S14 54 (S14.1 8 0).toNatClampNeg p0).1 8 0).toNatClampNeg p1).1 8 0).toNatClampNeg p2) 57 ((ux_i (ux_i (ux_i S14 54 (S14.1 8 0).toNatClampNeg p0) 55 ((ux_i S14 54 (S14.1 8 0).toNatClampNeg p0).1 8 0).toNatClampNeg p1) 56 ((ux_i (ux_i S14 54 (S14.1 8 0).toNatClampNeg p0) 55 ((ux_i S14 54 (S14.1 8 0).toNatClampNeg p0).1 8 0).toNatClampNeg p1).1 8 0).toNatClampNeg p2).1 8 0).toNatClampNeg p3) 72 ((2 : Int32) * ((ux_i (ux_i (ux_i (ux_i S14 54 (S14.1 8 0).toNatClampNeg p0) 55 ((ux_i S14 54 (S14.1 8 0).toNatClampNeg p0).1 8 0).toNatClampNeg p1) 56 ((ux_i (ux_i S14 54 (S14.1 8 0).toNatClampNeg p0) 55 ((ux_i S14 54 (S14.1 8 0).toNatClampNeg p0).1 8 0).toNatClampNeg p1).1 8 0).toNatClampNeg p2) 57 ((ux_i (ux_i (ux_i S14 54 (S14.1 8 0).toNatClampNeg p0) 55 ((ux_i S14 54 (S14.1 8 0).toNatClampNeg p0).1 8 0).toNatClampNeg p1) 56 ((ux_i (ux_i S14 54 (S14.1 8 0).toNatClampNeg p0) 55 ((ux_i S14 54 (S14.1 8 0).toNatClampNeg p0).1 8 0).toNatClampNeg p1).1 8 0).toNatClampNeg p2).1 8 0).toNatClampNeg p3).1 8 0)).toNatClampNeg (-4)) 72 (((2 : Int32) * ((ux_i (ux_i (ux_i (ux_i (ux_i S14 54 (S14.1 8 0).toNatClampNeg p0) 55 ((ux_i S14 54 (S14.1 8 0).toNatClampNeg p0).1 8 0).toNatClampNeg p1) 56 ((ux_i (ux_i S14 54 (S14.1 8 0).toNatClampNeg p0) 55 ((ux_i S14 54 (S14.1 8 0).toNatClampNeg p0).1 8 0).toNatClampNeg p1).1 8 0).toNatClampNeg p2) 57 ((ux_i (ux_i (ux_i S14 54 (S14.1 8 0).toNatClampNeg p0) 55 ((ux_i S14 54 (S14.1 8 0).toNatClampNeg p0).1 8 0).toNatClampNeg p1) 56 ((ux_i (ux_i S14 54 (S14.1 8 0).toNatClampNeg p0) 55 ((ux_i S14 54 (S14.1 8 0).toNatClampNeg p0).1 8 0).toNatClampNeg p1).1 8 0).toNatClampNeg p2).1 8 0).toNatClampNeg p3) 72 ((2 : Int32) * ((ux_i (ux_i (ux_i (ux_i S14 54 (S14.1 8 0).toNatClampNeg p0) 55 ((ux_i S14 54 (S14.1 8 0).toNatClampNeg p0).1 8 0).toNatClampNeg p1) 56 ((ux_i (ux_i S14 54 (S14.1 8 0).toNatClampNeg p0) 55 ((ux_i S14 54 (S14.1 8 0).toNatClampNeg p0).1 8 0).toNatClampNeg p1).1 8 0).toNatClampNeg p2) 57 ((ux_i (ux_i (ux_i S14 54 (S14.1 8 0).toNatClampNeg p0) 55 ((ux_i S14 54 (S14.1 8 0).toNatClampNeg p0).1 8 0).toNatClampNeg p1) 56 ((ux_i (ux_i S14 54 (S14.1 8 0).toNatClampNeg p0) 55 ((ux_i S14 54 (S14.1 8 0).toNatClampNeg p0).1 8 0).toNatClampNeg p1).1 8 0).toNatClampNeg p2).1 8 0).toNatClampNeg p3).1 8 0)).toNatClampNeg (-4)).1 8 0)) + (1 : Int32)).toNatClampNeg (-4)) 8 0 (((ux_i (ux_i (ux_i (ux_i (ux_i (ux_i S14 54 (S14.1 8 0).toNatClampNeg p0) 55 ((ux_i S14 54 (S14.1 8 0).toNatClampNeg p0).1 8 0).toNatClampNeg p1) 56 ((ux_i (ux_i S14 54 (S14.1 8 0).toNatClampNeg p0) 55 ((ux_i S14 54 (S14.1 8 0).toNatClampNeg p0).1 8 0).toNatClampNeg p1).1 8 0).toNatClampNeg p2) 57 ((ux_i (ux_i (ux_i S14 54 (S14.1 8 0).toNatClampNeg p0) 55 ((ux_i S14 54 (S14.1 8 0).toNatClampNeg p0).1 8 0).toNatClampNeg p1) 56 ((ux_i (ux_i S14 54 (S14.1 8 0).toNatClampNeg p0) 55 ((ux_i S14 54 (S14.1 8 0).toNatClampNeg p0).1 8 0).toNatClampNeg p1).1 8 0).toNatClampNeg p2).1 8 0).toNatClampNeg p3) 72 ((2 : Int32) * ((ux_i (ux_i (ux_i (ux_i S14 54 (S14.1 8 0).toNatClampNeg p0) 55 ((ux_i S14 54 (S14.1 8 0).toNatClampNeg p0).1 8 0).toNatClampNeg p1) 56 ((ux_i (ux_i S14 54 (S14.1 8 0).toNatClampNeg p0) 55 ((ux_i S14 54 (S14.1 8 0).toNatClampNeg p0).1 8 0).toNatClampNeg p1).1 8 0).toNatClampNeg p2) 57 ((ux_i (ux_i (ux_i S14 54 (S14.1 8 0).toNatClampNeg p0) 55 ((ux_i S14 54 (S14.1 8 0).toNatClampNeg p0).1 8 0).toNatClampNeg p1) 56 ((ux_i (ux_i S14 54 (S14.1 8 0).toNatClampNeg p0) 55 ((ux_i S14 54 (S14.1 8 0).toNatClampNeg p0).1 8 0).toNatClampNeg p1).1 8 0).toNatClampNeg p2).1 8 0).toNatClampNeg p3).1 8 0)).toNatClampNeg (-4)) 72 (((2 : Int32) * ((ux_i (ux_i (ux_i (ux_i (ux_i S14 54 (S14.1 8 0).toNatClampNeg p0) 55 ((ux_i S14 54 (S14.1 8 0).toNatClampNeg p0).1 8 0).toNatClampNeg p1) 56 ((ux_i (ux_i S14 54 (S14.1 8 0).toNatClampNeg p0) 55 ((ux_i S14 54 (S14.1 8 0).toNatClampNeg p0).1 8 0).toNatClampNeg p1).1 8 0).toNatClampNeg p2) 57 ((ux_i (ux_i (ux_i S14 54 (S14.1 8 0).toNatClampNeg p0) 55 ((ux_i S14 54 (S14.1 8 0).toNatClampNeg p0).1 8 0).toNatClampNeg p1) 56 ((ux_i (ux_i S14 54 (S14.1 8 0).toNatClampNeg p0) 55 ((ux_i S14 54 (S14.1 8 0).toNatClampNeg p0).1 8 0).toNatClampNeg p1).1 8 0).toNatClampNeg p2).1 8 0).toNatClampNeg p3) 72 ((2 : Int32) * ((ux_i (ux_i (ux_i (ux_i S14 54 (S14.1 8 0).toNatClampNeg p0) 55 ((ux_i S14 54 (S14.1 8 0).toNatClampNeg p0).1 8 0).toNatClampNeg p1) 56 ((ux_i (ux_i S14 54 (S14.1 8 0).toNatClampNeg p0) 55 ((ux_i S14 54 (S14.1 8 0).toNatClampNeg p0).1 8 0).toNatClampNeg p1).1 8 0).toNatClampNeg p2) 57 ((ux_i (ux_i (ux_i S14 54 (S14.1 8 0).toNatClampNeg p0) 55 ((ux_i S14 54 (S14.1 8 0).toNatClampNeg p0).1 8 0).toNatClampNeg p1) 56 ((ux_i (ux_i S14 54 (S14.1 8 0).toNatClampNeg p0) 55 ((ux_i S14 54 (S14.1 8 0).toNatClampNeg p0).1 8 0).toNatClampNeg p1).1 8 0).toNatClampNeg p2).1 8 0).toNatClampNeg p3).1 8 0)).toNatClampNeg (-4)).1 8 0)) + (1 : Int32)).toNatClampNeg (-4)).1 8 0) + (1 : Int32))))))))))))))))))
set_option maxHeartbeats 2000000 in
set_option maxRecDepth 10000 in
theorem m_X8_rack {l : Launch} {G : ux_G} {S : ux_S} {p0 : Int32} {p1 : Int32} {p2 : Int32} {p3 : Int32} {r : Int32} {Z : ux_S} (hf : f_X8_rack S p0 p1 p2 p3 = some (r, Z)) : ux_M l G yX8_rack cX8_rack 5 (some .int) 2 [.ref (ux_a G 8), .int p0, .int p1, .int p2, .int p3] S (some (.int r)) Z := by
  refine ux_of (by decide) (Nat.le_of_ble_eq_true rfl) ?_
  show ux_At l G RX8 cX8_rack 5 (some .int) 2 (some (.int r)) Z 0 [(0, .ref (ux_a G 8)), (1, .int p0), (2, .int p1), (3, .int p2), (4, .int p3)] [] S
  unfold f_X8_rack at hf
  refine ax_iload_n 1 dX8_rack_0 rfl 1 rfl rfl ?_
  refine ax_i2l 2 dX8_rack_1 rfl ?_
  refine ax_lconst (v := 0) 3 dX8_rack_2 (by decide) rfl ?_
  refine ax_ldc2 6 dX8_rack_3 fc_X8_100 rfl ?_
  obtain ⟨r3, S2, e1, hf⟩ := ux_bi_e hf
  refine ax_callSi 9 [.long ((p0 : Int32).toInt64), .long 0, .long 1000] dX8_rack_6 fs_X8_102 (m_X8_in e1) (by decide) rfl rfl (Nat.le_of_ble_eq_true rfl) rfl ?_
  refine ax_if_eq 51 12 dX8_rack_9 (by decide) rfl (fun c4 => ?_) (fun c4 => ?_)
  · have hf := ux_ift c4 hf
    refine ax_iconst (v := (-1)) 52 dX8_rack_51 (by decide) rfl ?_
    exact ax_iret dX8_rack_52 hf
  · have hf := ux_iff c4 hf
    refine ax_iload_n 13 dX8_rack_12 rfl 2 rfl rfl ?_
    refine ax_i2l 14 dX8_rack_13 rfl ?_
    refine ax_ldc2 17 dX8_rack_14 fc_X8_106 rfl ?_
    refine ax_ldc2 20 dX8_rack_17 fc_X8_108 rfl ?_
    obtain ⟨r7, S6, e5, hf⟩ := ux_bi_e hf
    refine ax_callSi 23 [.long ((p1 : Int32).toInt64), .long 10000, .long 60000] dX8_rack_20 fs_X8_102 (m_X8_in e5) (by decide) rfl rfl (Nat.le_of_ble_eq_true rfl) rfl ?_
    refine ax_if_eq 51 26 dX8_rack_23 (by decide) rfl (fun c8 => ?_) (fun c8 => ?_)
    · have hf := ux_ift c8 hf
      refine ax_iconst (v := (-1)) 52 dX8_rack_51 (by decide) rfl ?_
      exact ax_iret dX8_rack_52 hf
    · have hf := ux_iff c8 hf
      refine ax_iload_n 27 dX8_rack_26 rfl 3 rfl rfl ?_
      refine ax_i2l 28 dX8_rack_27 rfl ?_
      refine ax_lconst (v := 1) 29 dX8_rack_28 (by decide) rfl ?_
      refine ax_ldc2 32 dX8_rack_29 fc_X8_100 rfl ?_
      obtain ⟨r11, S10, e9, hf⟩ := ux_bi_e hf
      refine ax_callSi 35 [.long ((p2 : Int32).toInt64), .long 1, .long 1000] dX8_rack_32 fs_X8_102 (m_X8_in e9) (by decide) rfl rfl (Nat.le_of_ble_eq_true rfl) rfl ?_
      refine ax_if_eq 51 38 dX8_rack_35 (by decide) rfl (fun c12 => ?_) (fun c12 => ?_)
      · have hf := ux_ift c12 hf
        refine ax_iconst (v := (-1)) 52 dX8_rack_51 (by decide) rfl ?_
        exact ax_iret dX8_rack_52 hf
      · have hf := ux_iff c12 hf
        refine ax_iload 40 dX8_rack_38 4 rfl rfl ?_
        refine ax_i2l 41 dX8_rack_40 rfl ?_
        refine ax_lconst (v := 0) 42 dX8_rack_41 (by decide) rfl ?_
        refine ax_ldc2 45 dX8_rack_42 fc_X8_110 rfl ?_
        obtain ⟨r15, S14, e13, hf⟩ := ux_bi_e hf
        refine ax_callSi 48 [.long ((p3 : Int32).toInt64), .long 0, .long 20] dX8_rack_45 fs_X8_102 (m_X8_in e13) (by decide) rfl rfl (Nat.le_of_ble_eq_true rfl) rfl ?_
        refine ax_if_ne 53 51 dX8_rack_48 (by decide) rfl (fun c16 => ?_) (fun c16 => ?_)
        · have hf := ux_iff c16 hf
          refine ax_aload_n 54 dX8_rack_53 rfl 0 rfl rfl ?_
          refine ax_geti 57 dX8_rack_54 fg_X8_112 rfl rfl ?_
          refine ax_bipush (v := 8) 59 dX8_rack_57 (by decide) rfl ?_
          refine ax_icmp_ne 65 62 dX8_rack_59 (by decide) rfl (fun c17 => ?_) (fun c17 => ?_)
          · have hf := ux_iff c17 hf
            refine ax_aload_n 66 dX8_rack_65 rfl 0 rfl rfl ?_
            refine ax_getr 54 69 dX8_rack_66 fg_X8_7 rfl (by decide) rfl ?_
            refine ax_aload_n 70 dX8_rack_69 rfl 0 rfl rfl ?_
            refine ax_geti 73 dX8_rack_70 fg_X8_112 rfl rfl ?_
            refine ax_iload_n 74 dX8_rack_73 rfl 1 rfl rfl ?_
            obtain ⟨h18, hf⟩ := ux_gd_e hf
            refine ax_iast 75 dX8_rack_74 (by decide) rfl h18 rfl ?_
            refine ax_aload_n 76 dX8_rack_75 rfl 0 rfl rfl ?_
            refine ax_getr 55 79 dX8_rack_76 fg_X8_13 rfl (by decide) rfl ?_
            refine ax_aload_n 80 dX8_rack_79 rfl 0 rfl rfl ?_
            refine ax_geti 83 dX8_rack_80 fg_X8_112 rfl rfl ?_
            refine ax_iload_n 84 dX8_rack_83 rfl 2 rfl rfl ?_
            obtain ⟨h19, hf⟩ := ux_gd_e hf
            refine ax_iast 85 dX8_rack_84 (by decide) rfl h19 rfl ?_
            refine ax_aload_n 86 dX8_rack_85 rfl 0 rfl rfl ?_
            refine ax_getr 56 89 dX8_rack_86 fg_X8_16 rfl (by decide) rfl ?_
            refine ax_aload_n 90 dX8_rack_89 rfl 0 rfl rfl ?_
            refine ax_geti 93 dX8_rack_90 fg_X8_112 rfl rfl ?_
            refine ax_iload_n 94 dX8_rack_93 rfl 3 rfl rfl ?_
            obtain ⟨h20, hf⟩ := ux_gd_e hf
            refine ax_iast 95 dX8_rack_94 (by decide) rfl h20 rfl ?_
            refine ax_aload_n 96 dX8_rack_95 rfl 0 rfl rfl ?_
            refine ax_getr 57 99 dX8_rack_96 fg_X8_19 rfl (by decide) rfl ?_
            refine ax_aload_n 100 dX8_rack_99 rfl 0 rfl rfl ?_
            refine ax_geti 103 dX8_rack_100 fg_X8_112 rfl rfl ?_
            refine ax_iload 105 dX8_rack_103 4 rfl rfl ?_
            obtain ⟨h21, hf⟩ := ux_gd_e hf
            refine ax_iast 106 dX8_rack_105 (by decide) rfl h21 rfl ?_
            refine ax_aload_n 107 dX8_rack_106 rfl 0 rfl rfl ?_
            refine ax_getr 72 110 dX8_rack_107 fg_X8_76 rfl (by decide) rfl ?_
            refine ax_iconst (v := 2) 111 dX8_rack_110 (by decide) rfl ?_
            refine ax_aload_n 112 dX8_rack_111 rfl 0 rfl rfl ?_
            refine ax_geti 115 dX8_rack_112 fg_X8_112 rfl rfl ?_
            refine ax_imul 116 dX8_rack_115 rfl ?_
            refine ax_bipush (v := (-4)) 118 dX8_rack_116 (by decide) rfl ?_
            obtain ⟨h22, hf⟩ := ux_gd_e hf
            refine ax_iast 119 dX8_rack_118 (by decide) rfl h22 rfl ?_
            refine ax_aload_n 120 dX8_rack_119 rfl 0 rfl rfl ?_
            refine ax_getr 72 123 dX8_rack_120 fg_X8_76 rfl (by decide) rfl ?_
            refine ax_iconst (v := 2) 124 dX8_rack_123 (by decide) rfl ?_
            refine ax_aload_n 125 dX8_rack_124 rfl 0 rfl rfl ?_
            refine ax_geti 128 dX8_rack_125 fg_X8_112 rfl rfl ?_
            refine ax_imul 129 dX8_rack_128 rfl ?_
            refine ax_iconst (v := 1) 130 dX8_rack_129 (by decide) rfl ?_
            refine ax_iadd 131 dX8_rack_130 rfl ?_
            refine ax_bipush (v := (-4)) 133 dX8_rack_131 (by decide) rfl ?_
            obtain ⟨h23, hf⟩ := ux_gd_e hf
            refine ax_iast 134 dX8_rack_133 (by decide) rfl h23 rfl ?_
            refine ax_aload_n 135 dX8_rack_134 rfl 0 rfl rfl ?_
            refine ax_dup 136 dX8_rack_135 rfl rfl ?_
            refine ax_geti 139 dX8_rack_136 fg_X8_112 rfl rfl ?_
            refine ax_iconst (v := 1) 140 dX8_rack_139 (by decide) rfl ?_
            refine ax_iadd 141 dX8_rack_140 rfl ?_
            refine ax_put 144 dX8_rack_141 fp_X8_112 rfl ?_
            refine ax_aload_n 145 dX8_rack_144 rfl 0 rfl rfl ?_
            refine ax_geti 148 dX8_rack_145 fg_X8_112 rfl rfl ?_
            refine ax_iconst (v := 1) 149 dX8_rack_148 (by decide) rfl ?_
            refine ax_isub 150 dX8_rack_149 rfl ?_
            exact ax_iret dX8_rack_150 hf
          · have hf := ux_ift c17 hf
            refine ax_bipush (v := (-3)) 64 dX8_rack_62 (by decide) rfl ?_
            exact ax_iret dX8_rack_64 hf
        · have hf := ux_ift c16 hf
          refine ax_iconst (v := (-1)) 52 dX8_rack_51 (by decide) rfl ?_
          exact ax_iret dX8_rack_52 hf
def f_X8_isRack (S : ux_S) (p0 : Int32) : Option (Int32 × ux_S) :=
  ux_bi (f_X8_in S ((p0 : Int32).toInt64) 0 (((S.1 8 0) - (1 : Int32) : Int32).toInt64)) (fun r3 S2 => ux_gd (ux_zb r3) (some (r3, S2)))
set_option maxHeartbeats 2000000 in
set_option maxRecDepth 10000 in
theorem m_X8_isRack {l : Launch} {G : ux_G} {S : ux_S} {p0 : Int32} {r : Int32} {Z : ux_S} (hf : f_X8_isRack S p0 = some (r, Z)) : ux_M l G yX8_isRack cX8_isRack 2 (some .boolean) 2 [.ref (ux_a G 8), .int p0] S (some (.int r)) Z := by
  refine ux_of (by decide) (Nat.le_of_ble_eq_true rfl) ?_
  show ux_At l G RX8 cX8_isRack 2 (some .boolean) 2 (some (.int r)) Z 0 [(0, .ref (ux_a G 8)), (1, .int p0)] [] S
  unfold f_X8_isRack at hf
  refine ax_iload_n 1 dX8_isRack_0 rfl 1 rfl rfl ?_
  refine ax_i2l 2 dX8_isRack_1 rfl ?_
  refine ax_lconst (v := 0) 3 dX8_isRack_2 (by decide) rfl ?_
  refine ax_aload_n 4 dX8_isRack_3 rfl 0 rfl rfl ?_
  refine ax_geti 7 dX8_isRack_4 fg_X8_112 rfl rfl ?_
  refine ax_iconst (v := 1) 8 dX8_isRack_7 (by decide) rfl ?_
  refine ax_isub 9 dX8_isRack_8 rfl ?_
  refine ax_i2l 10 dX8_isRack_9 rfl ?_
  obtain ⟨r3, S2, e1, hf⟩ := ux_bi_e hf
  refine ax_callSi 13 [.long ((p0 : Int32).toInt64), .long 0, .long (((S.1 8 0) - (1 : Int32) : Int32).toInt64)] dX8_isRack_10 fs_X8_102 (m_X8_in e1) (by decide) rfl rfl (Nat.le_of_ble_eq_true rfl) rfl ?_
  obtain ⟨h4, hf⟩ := ux_gd_e hf
  exact ax_zret dX8_isRack_13 (ux_zb_of h4) hf
def f_X8_load (S : ux_S) (p0 : Int32) (p1 : Int32) : Option (Int32 × ux_S) :=
  ux_bi (f_X8_isRack S p0) (fun r3 S2 => if r3 = 0 then (some ((-1), S2)) else (ux_bi (f_X8_in S2 ((p1 : Int32).toInt64) 0 1000) (fun r7 S6 => if r7 = 0 then (some ((-1), S6)) else (ux_gd (ux_ib p0 8) (ux_gd (ux_ib p0 8) (some (S6.1 54 p0.toNatClampNeg, ux_i S6 54 p0.toNatClampNeg p1)))))))
set_option maxHeartbeats 2000000 in
set_option maxRecDepth 10000 in
theorem m_X8_load {l : Launch} {G : ux_G} {S : ux_S} {p0 : Int32} {p1 : Int32} {r : Int32} {Z : ux_S} (hf : f_X8_load S p0 p1 = some (r, Z)) : ux_M l G yX8_load cX8_load 4 (some .int) 3 [.ref (ux_a G 8), .int p0, .int p1] S (some (.int r)) Z := by
  refine ux_of (by decide) (Nat.le_of_ble_eq_true rfl) ?_
  show ux_At l G RX8 cX8_load 4 (some .int) 3 (some (.int r)) Z 0 [(0, .ref (ux_a G 8)), (1, .int p0), (2, .int p1)] [] S
  unfold f_X8_load at hf
  refine ax_aload_n 1 dX8_load_0 rfl 0 rfl rfl ?_
  refine ax_iload_n 2 dX8_load_1 rfl 1 rfl rfl ?_
  obtain ⟨r3, S2, e1, hf⟩ := ux_bi_e hf
  refine ax_callVi 5 [.int p0] dX8_load_2 fv_X8_115 (m_X8_isRack e1) (by decide) rfl rfl (by decide) rfl rfl (Nat.le_of_ble_eq_true rfl) rfl ?_
  refine ax_if_eq 20 8 dX8_load_5 (by decide) rfl (fun c4 => ?_) (fun c4 => ?_)
  · have hf := ux_ift c4 hf
    refine ax_iconst (v := (-1)) 21 dX8_load_20 (by decide) rfl ?_
    exact ax_iret dX8_load_21 hf
  · have hf := ux_iff c4 hf
    refine ax_iload_n 9 dX8_load_8 rfl 2 rfl rfl ?_
    refine ax_i2l 10 dX8_load_9 rfl ?_
    refine ax_lconst (v := 0) 11 dX8_load_10 (by decide) rfl ?_
    refine ax_ldc2 14 dX8_load_11 fc_X8_100 rfl ?_
    obtain ⟨r7, S6, e5, hf⟩ := ux_bi_e hf
    refine ax_callSi 17 [.long ((p1 : Int32).toInt64), .long 0, .long 1000] dX8_load_14 fs_X8_102 (m_X8_in e5) (by decide) rfl rfl (Nat.le_of_ble_eq_true rfl) rfl ?_
    refine ax_if_ne 22 20 dX8_load_17 (by decide) rfl (fun c8 => ?_) (fun c8 => ?_)
    · have hf := ux_iff c8 hf
      refine ax_aload_n 23 dX8_load_22 rfl 0 rfl rfl ?_
      refine ax_getr 54 26 dX8_load_23 fg_X8_7 rfl (by decide) rfl ?_
      refine ax_iload_n 27 dX8_load_26 rfl 1 rfl rfl ?_
      obtain ⟨h9, hf⟩ := ux_gd_e hf
      refine ax_iald 28 dX8_load_27 (by decide) rfl h9 rfl ?_
      refine ax_istore_n 29 dX8_load_28 rfl (by decide) [1, 2, 3, 0] [(0, .ref (ux_a G 8)), (1, .int p0), (2, .int p1), (3, .int (S6.1 54 p0.toNatClampNeg))] rfl rfl ?_
      refine ax_aload_n 30 dX8_load_29 rfl 0 rfl rfl ?_
      refine ax_getr 54 33 dX8_load_30 fg_X8_7 rfl (by decide) rfl ?_
      refine ax_iload_n 34 dX8_load_33 rfl 1 rfl rfl ?_
      refine ax_iload_n 35 dX8_load_34 rfl 2 rfl rfl ?_
      obtain ⟨h10, hf⟩ := ux_gd_e hf
      refine ax_iast 36 dX8_load_35 (by decide) rfl h10 rfl ?_
      refine ax_iload_n 37 dX8_load_36 rfl 3 rfl rfl ?_
      exact ax_iret dX8_load_37 hf
    · have hf := ux_ift c8 hf
      refine ax_iconst (v := (-1)) 21 dX8_load_20 (by decide) rfl ?_
      exact ax_iret dX8_load_21 hf
def f_X8_share (S : ux_S) (p0 : Int32) (p1 : Int32) (p2 : Int32) : Option (Int32 × ux_S) :=
  ux_bi (f_X8_isRack S p0) (fun r3 S2 => if r3 = 0 then (some ((-1), S2)) else (ux_bi (f_X8_isRack S2 p1) (fun r7 S6 => if r7 = 0 then (some ((-1), S6)) else (ux_bi (f_X8_in S6 ((p2 : Int32).toInt64) 0 200) (fun r11 S10 => if r11 = 0 then (some ((-1), S10)) else (ux_gd (ux_ib (((8 : Int32) * p0) + p1) 64) (ux_gd (ux_ib (((8 : Int32) * p0) + p1) 64) (some (S10.1 58 (((8 : Int32) * p0) + p1).toNatClampNeg, ux_i S10 58 (((8 : Int32) * p0) + p1).toNatClampNeg p2)))))))))
set_option maxHeartbeats 2000000 in
set_option maxRecDepth 10000 in
theorem m_X8_share {l : Launch} {G : ux_G} {S : ux_S} {p0 : Int32} {p1 : Int32} {p2 : Int32} {r : Int32} {Z : ux_S} (hf : f_X8_share S p0 p1 p2 = some (r, Z)) : ux_M l G yX8_share cX8_share 5 (some .int) 3 [.ref (ux_a G 8), .int p0, .int p1, .int p2] S (some (.int r)) Z := by
  refine ux_of (by decide) (Nat.le_of_ble_eq_true rfl) ?_
  show ux_At l G RX8 cX8_share 5 (some .int) 3 (some (.int r)) Z 0 [(0, .ref (ux_a G 8)), (1, .int p0), (2, .int p1), (3, .int p2)] [] S
  unfold f_X8_share at hf
  refine ax_aload_n 1 dX8_share_0 rfl 0 rfl rfl ?_
  refine ax_iload_n 2 dX8_share_1 rfl 1 rfl rfl ?_
  obtain ⟨r3, S2, e1, hf⟩ := ux_bi_e hf
  refine ax_callVi 5 [.int p0] dX8_share_2 fv_X8_115 (m_X8_isRack e1) (by decide) rfl rfl (by decide) rfl rfl (Nat.le_of_ble_eq_true rfl) rfl ?_
  refine ax_if_eq 28 8 dX8_share_5 (by decide) rfl (fun c4 => ?_) (fun c4 => ?_)
  · have hf := ux_ift c4 hf
    refine ax_iconst (v := (-1)) 29 dX8_share_28 (by decide) rfl ?_
    exact ax_iret dX8_share_29 hf
  · have hf := ux_iff c4 hf
    refine ax_aload_n 9 dX8_share_8 rfl 0 rfl rfl ?_
    refine ax_iload_n 10 dX8_share_9 rfl 2 rfl rfl ?_
    obtain ⟨r7, S6, e5, hf⟩ := ux_bi_e hf
    refine ax_callVi 13 [.int p1] dX8_share_10 fv_X8_115 (m_X8_isRack e5) (by decide) rfl rfl (by decide) rfl rfl (Nat.le_of_ble_eq_true rfl) rfl ?_
    refine ax_if_eq 28 16 dX8_share_13 (by decide) rfl (fun c8 => ?_) (fun c8 => ?_)
    · have hf := ux_ift c8 hf
      refine ax_iconst (v := (-1)) 29 dX8_share_28 (by decide) rfl ?_
      exact ax_iret dX8_share_29 hf
    · have hf := ux_iff c8 hf
      refine ax_iload_n 17 dX8_share_16 rfl 3 rfl rfl ?_
      refine ax_i2l 18 dX8_share_17 rfl ?_
      refine ax_lconst (v := 0) 19 dX8_share_18 (by decide) rfl ?_
      refine ax_ldc2 22 dX8_share_19 fc_X8_119 rfl ?_
      obtain ⟨r11, S10, e9, hf⟩ := ux_bi_e hf
      refine ax_callSi 25 [.long ((p2 : Int32).toInt64), .long 0, .long 200] dX8_share_22 fs_X8_102 (m_X8_in e9) (by decide) rfl rfl (Nat.le_of_ble_eq_true rfl) rfl ?_
      refine ax_if_ne 30 28 dX8_share_25 (by decide) rfl (fun c12 => ?_) (fun c12 => ?_)
      · have hf := ux_iff c12 hf
        refine ax_aload_n 31 dX8_share_30 rfl 0 rfl rfl ?_
        refine ax_getr 58 34 dX8_share_31 fg_X8_22 rfl (by decide) rfl ?_
        refine ax_bipush (v := 8) 36 dX8_share_34 (by decide) rfl ?_
        refine ax_iload_n 37 dX8_share_36 rfl 1 rfl rfl ?_
        refine ax_imul 38 dX8_share_37 rfl ?_
        refine ax_iload_n 39 dX8_share_38 rfl 2 rfl rfl ?_
        refine ax_iadd 40 dX8_share_39 rfl ?_
        obtain ⟨h13, hf⟩ := ux_gd_e hf
        refine ax_iald 41 dX8_share_40 (by decide) rfl h13 rfl ?_
        refine ax_istore 43 dX8_share_41 (by decide) [1, 2, 3, 4, 0] [(0, .ref (ux_a G 8)), (1, .int p0), (2, .int p1), (3, .int p2), (4, .int (S10.1 58 (((8 : Int32) * p0) + p1).toNatClampNeg))] rfl rfl ?_
        refine ax_aload_n 44 dX8_share_43 rfl 0 rfl rfl ?_
        refine ax_getr 58 47 dX8_share_44 fg_X8_22 rfl (by decide) rfl ?_
        refine ax_bipush (v := 8) 49 dX8_share_47 (by decide) rfl ?_
        refine ax_iload_n 50 dX8_share_49 rfl 1 rfl rfl ?_
        refine ax_imul 51 dX8_share_50 rfl ?_
        refine ax_iload_n 52 dX8_share_51 rfl 2 rfl rfl ?_
        refine ax_iadd 53 dX8_share_52 rfl ?_
        refine ax_iload_n 54 dX8_share_53 rfl 3 rfl rfl ?_
        obtain ⟨h14, hf⟩ := ux_gd_e hf
        refine ax_iast 55 dX8_share_54 (by decide) rfl h14 rfl ?_
        refine ax_iload 57 dX8_share_55 4 rfl rfl ?_
        exact ax_iret dX8_share_57 hf
      · have hf := ux_ift c12 hf
        refine ax_iconst (v := (-1)) 29 dX8_share_28 (by decide) rfl ?_
        exact ax_iret dX8_share_29 hf
def b_X8_sheet_56 (n : Nat) (p0 : Int32) (p1 : Int32) (p2 : Int32) (k56 : Int32 → ux_S → Option (Int32 × ux_S)) (x4 : Int32) (S : ux_S) : Option (Int32 × ux_S) :=
  if 64 ≤ x4 then (some (1, S)) else (ux_gd (ux_ib (((64 : Int32) * p0) + x4) 256) (k56 (x4 + 1) (ux_l S 65 (((64 : Int32) * p0) + x4).toNatClampNeg 0)))
set_option maxHeartbeats 2000000 in
set_option maxRecDepth 10000 in
theorem w_X8_sheet_56 {l : Launch} {G : ux_G} {n : Nat} {p0 : Int32} {p1 : Int32} {p2 : Int32} {r : Int32} {Z : ux_S} (k56 : Int32 → ux_S → Option (Int32 × ux_S)) (hk56 : ∀ (x4 : Int32) (S : ux_S), k56 x4 S = some (r, Z) → ux_At l G RX8 cX8_sheet 5 (some .int) 2 (some (.int r)) Z 56 [(0, .ref (ux_a G 8)), (1, .int p0), (4, .int x4)] [] S) : ∀ (x4 : Int32) (S : ux_S), b_X8_sheet_56 n p0 p1 p2 k56 x4 S = some (r, Z) → ux_At l G RX8 cX8_sheet 5 (some .int) 2 (some (.int r)) Z 56 [(0, .ref (ux_a G 8)), (1, .int p0), (4, .int x4)] [] S := by
  intro x4 S hf
  unfold b_X8_sheet_56 at hf
  refine ax_iload 58 dX8_sheet_56 2 rfl rfl ?_
  refine ax_bipush (v := 64) 60 dX8_sheet_58 (by decide) rfl ?_
  refine ax_icmp_ge 82 63 dX8_sheet_60 (by decide) rfl (fun c13 => ?_) (fun c13 => ?_)
  · have hf := ux_ift c13 hf
    refine ax_iconst (v := 1) 83 dX8_sheet_82 (by decide) rfl ?_
    exact ax_iret dX8_sheet_83 hf
  · have hf := ux_iff c13 hf
    refine ax_aload_n 64 dX8_sheet_63 rfl 0 rfl rfl ?_
    refine ax_getr 65 67 dX8_sheet_64 fg_X8_53 rfl (by decide) rfl ?_
    refine ax_bipush (v := 64) 69 dX8_sheet_67 (by decide) rfl ?_
    refine ax_iload_n 70 dX8_sheet_69 rfl 1 rfl rfl ?_
    refine ax_imul 71 dX8_sheet_70 rfl ?_
    refine ax_iload 73 dX8_sheet_71 2 rfl rfl ?_
    refine ax_iadd 74 dX8_sheet_73 rfl ?_
    refine ax_lconst (v := 0) 75 dX8_sheet_74 (by decide) rfl ?_
    obtain ⟨h14, hf⟩ := ux_gd_e hf
    refine ax_last 76 dX8_sheet_75 (by decide) rfl h14 rfl ?_
    refine ax_iinc (v := x4 + 1) 79 dX8_sheet_76 2 rfl rfl (by decide) [1, 2, 0] [(0, .ref (ux_a G 8)), (1, .int p0), (4, .int (x4 + 1))] rfl rfl ?_
    refine ax_goto 56 dX8_sheet_79 (by decide) ?_
    exact ax_sub [0, 1, 2] rfl (hk56 (x4 + 1) (ux_l S 65 (((64 : Int32) * p0) + x4).toNatClampNeg 0) hf)
def f_X8_sheet (n : Nat) (S : ux_S) (p0 : Int32) (p1 : Int32) (p2 : Int32) : Option (Int32 × ux_S) :=
  ux_bi (f_X8_in S ((p0 : Int32).toInt64) 0 3) (fun r3 S2 => if r3 = 0 then (some ((-1), S2)) else (ux_bi (f_X8_in S2 ((p1 : Int32).toInt64) 0 2) (fun r7 S6 => if r7 = 0 then (some ((-1), S6)) else (if p2 ≤ 64 then (if 0 ≤ p2 then (ux_gd (ux_ib p0 4) (ux_gd (ux_ib p0 4) (ux_lp1 (b_X8_sheet_56 n p0 p1 p2) n 0 (ux_i (ux_i S6 63 p0.toNatClampNeg p1) 64 p0.toNatClampNeg p2)))) else (some ((-14), S6))) else (some ((-1), S6))))))
set_option maxHeartbeats 2000000 in
set_option maxRecDepth 10000 in
theorem m_X8_sheet {l : Launch} {G : ux_G} {n : Nat} {S : ux_S} {p0 : Int32} {p1 : Int32} {p2 : Int32} {r : Int32} {Z : ux_S} (hf : f_X8_sheet n S p0 p1 p2 = some (r, Z)) : ux_M l G yX8_sheet cX8_sheet 5 (some .int) 2 [.ref (ux_a G 8), .int p0, .int p1, .int p2] S (some (.int r)) Z := by
  refine ux_of (by decide) (Nat.le_of_ble_eq_true rfl) ?_
  show ux_At l G RX8 cX8_sheet 5 (some .int) 2 (some (.int r)) Z 0 [(0, .ref (ux_a G 8)), (1, .int p0), (2, .int p1), (3, .int p2)] [] S
  unfold f_X8_sheet at hf
  refine ax_iload_n 1 dX8_sheet_0 rfl 1 rfl rfl ?_
  refine ax_i2l 2 dX8_sheet_1 rfl ?_
  refine ax_lconst (v := 0) 3 dX8_sheet_2 (by decide) rfl ?_
  refine ax_ldc2 6 dX8_sheet_3 fc_X8_121 rfl ?_
  obtain ⟨r3, S2, e1, hf⟩ := ux_bi_e hf
  refine ax_callSi 9 [.long ((p0 : Int32).toInt64), .long 0, .long 3] dX8_sheet_6 fs_X8_102 (m_X8_in e1) (by decide) rfl rfl (Nat.le_of_ble_eq_true rfl) rfl ?_
  refine ax_if_eq 30 12 dX8_sheet_9 (by decide) rfl (fun c4 => ?_) (fun c4 => ?_)
  · have hf := ux_ift c4 hf
    refine ax_iconst (v := (-1)) 31 dX8_sheet_30 (by decide) rfl ?_
    exact ax_iret dX8_sheet_31 hf
  · have hf := ux_iff c4 hf
    refine ax_iload_n 13 dX8_sheet_12 rfl 2 rfl rfl ?_
    refine ax_i2l 14 dX8_sheet_13 rfl ?_
    refine ax_lconst (v := 0) 15 dX8_sheet_14 (by decide) rfl ?_
    refine ax_ldc2 18 dX8_sheet_15 fc_X8_123 rfl ?_
    obtain ⟨r7, S6, e5, hf⟩ := ux_bi_e hf
    refine ax_callSi 21 [.long ((p1 : Int32).toInt64), .long 0, .long 2] dX8_sheet_18 fs_X8_102 (m_X8_in e5) (by decide) rfl rfl (Nat.le_of_ble_eq_true rfl) rfl ?_
    refine ax_if_eq 30 24 dX8_sheet_21 (by decide) rfl (fun c8 => ?_) (fun c8 => ?_)
    · have hf := ux_ift c8 hf
      refine ax_iconst (v := (-1)) 31 dX8_sheet_30 (by decide) rfl ?_
      exact ax_iret dX8_sheet_31 hf
    · have hf := ux_iff c8 hf
      refine ax_iload_n 25 dX8_sheet_24 rfl 3 rfl rfl ?_
      refine ax_bipush (v := 64) 27 dX8_sheet_25 (by decide) rfl ?_
      refine ax_icmp_le 32 30 dX8_sheet_27 (by decide) rfl (fun c9 => ?_) (fun c9 => ?_)
      · have hf := ux_ift c9 hf
        refine ax_iload_n 33 dX8_sheet_32 rfl 3 rfl rfl ?_
        refine ax_if_ge 39 36 dX8_sheet_33 (by decide) rfl (fun c10 => ?_) (fun c10 => ?_)
        · have hf := ux_ift c10 hf
          refine ax_aload_n 40 dX8_sheet_39 rfl 0 rfl rfl ?_
          refine ax_getr 63 43 dX8_sheet_40 fg_X8_47 rfl (by decide) rfl ?_
          refine ax_iload_n 44 dX8_sheet_43 rfl 1 rfl rfl ?_
          refine ax_iload_n 45 dX8_sheet_44 rfl 2 rfl rfl ?_
          obtain ⟨h11, hf⟩ := ux_gd_e hf
          refine ax_iast 46 dX8_sheet_45 (by decide) rfl h11 rfl ?_
          refine ax_aload_n 47 dX8_sheet_46 rfl 0 rfl rfl ?_
          refine ax_getr 64 50 dX8_sheet_47 fg_X8_50 rfl (by decide) rfl ?_
          refine ax_iload_n 51 dX8_sheet_50 rfl 1 rfl rfl ?_
          refine ax_iload_n 52 dX8_sheet_51 rfl 3 rfl rfl ?_
          obtain ⟨h12, hf⟩ := ux_gd_e hf
          refine ax_iast 53 dX8_sheet_52 (by decide) rfl h12 rfl ?_
          refine ax_iconst (v := 0) 54 dX8_sheet_53 (by decide) rfl ?_
          refine ax_istore 56 dX8_sheet_54 (by decide) [1, 2, 3, 4, 0] [(0, .ref (ux_a G 8)), (1, .int p0), (2, .int p1), (3, .int p2), (4, .int 0)] rfl rfl ?_
          exact ax_sub [0, 1, 4] rfl (ux_lp1_w (Pr := fun x4 S => ux_At l G RX8 cX8_sheet 5 (some .int) 2 (some (.int r)) Z 56 [(0, .ref (ux_a G 8)), (1, .int p0), (4, .int x4)] [] S) (fun k56 hk56 => w_X8_sheet_56 k56 hk56) n 0 (ux_i (ux_i S6 63 p0.toNatClampNeg p1) 64 p0.toNatClampNeg p2) hf)
        · have hf := ux_iff c10 hf
          refine ax_bipush (v := (-14)) 38 dX8_sheet_36 (by decide) rfl ?_
          exact ax_iret dX8_sheet_38 hf
      · have hf := ux_iff c9 hf
        refine ax_iconst (v := (-1)) 31 dX8_sheet_30 (by decide) rfl ?_
        exact ax_iret dX8_sheet_31 hf
def f_X8_lay (S : ux_S) (p0 : Int32) (p1 : Int32) (p2 : Int64) : Option (Int32 × ux_S) :=
  ux_bi (f_X8_in S ((p0 : Int32).toInt64) 0 3) (fun r3 S2 => if r3 = 0 then (some ((-1), S2)) else (ux_gd (ux_ib p0 4) (if S2.1 63 p0.toNatClampNeg = (-4) then (some ((-11), S2)) else (ux_gd (ux_ib p0 4) (ux_bi (f_X8_in S2 ((p1 : Int32).toInt64) 0 (((S2.1 64 p0.toNatClampNeg) - (1 : Int32) : Int32).toInt64)) (fun r10 S9 => if r10 = 0 then (some ((-12), S9)) else (ux_gd (ux_ib p0 4) (if S9.1 63 p0.toNatClampNeg = 0 then (ux_gd (ux_ib (((64 : Int32) * p0) + p1) 256) (some (1, ux_l S9 65 (((64 : Int32) * p0) + p1).toNatClampNeg ((p2 <<< ((56 : Int32).toInt64 &&& 63)) >>> ((56 : Int32).toInt64 &&& 63))))) else (ux_gd (ux_ib p0 4) (if S9.1 63 p0.toNatClampNeg = 1 then (ux_gd (ux_ib (((64 : Int32) * p0) + p1) 256) (some (1, ux_l S9 65 (((64 : Int32) * p0) + p1).toNatClampNeg ((p2 <<< ((32 : Int32).toInt64 &&& 63)) >>> ((32 : Int32).toInt64 &&& 63))))) else (ux_gd (ux_ib (((64 : Int32) * p0) + p1) 256) (some (1, ux_l S9 65 (((64 : Int32) * p0) + p1).toNatClampNeg p2)))))))))))))
set_option maxHeartbeats 2000000 in
set_option maxRecDepth 10000 in
theorem m_X8_lay {l : Launch} {G : ux_G} {S : ux_S} {p0 : Int32} {p1 : Int32} {p2 : Int64} {r : Int32} {Z : ux_S} (hf : f_X8_lay S p0 p1 p2 = some (r, Z)) : ux_M l G yX8_lay cX8_lay 5 (some .int) 2 [.ref (ux_a G 8), .int p0, .int p1, .long p2] S (some (.int r)) Z := by
  refine ux_of (by decide) (Nat.le_of_ble_eq_true rfl) ?_
  show ux_At l G RX8 cX8_lay 5 (some .int) 2 (some (.int r)) Z 0 [(0, .ref (ux_a G 8)), (1, .int p0), (2, .int p1), (3, .long p2)] [] S
  unfold f_X8_lay at hf
  refine ax_iload_n 1 dX8_lay_0 rfl 1 rfl rfl ?_
  refine ax_i2l 2 dX8_lay_1 rfl ?_
  refine ax_lconst (v := 0) 3 dX8_lay_2 (by decide) rfl ?_
  refine ax_ldc2 6 dX8_lay_3 fc_X8_121 rfl ?_
  obtain ⟨r3, S2, e1, hf⟩ := ux_bi_e hf
  refine ax_callSi 9 [.long ((p0 : Int32).toInt64), .long 0, .long 3] dX8_lay_6 fs_X8_102 (m_X8_in e1) (by decide) rfl rfl (Nat.le_of_ble_eq_true rfl) rfl ?_
  refine ax_if_ne 14 12 dX8_lay_9 (by decide) rfl (fun c4 => ?_) (fun c4 => ?_)
  · have hf := ux_iff c4 hf
    refine ax_aload_n 15 dX8_lay_14 rfl 0 rfl rfl ?_
    refine ax_getr 63 18 dX8_lay_15 fg_X8_47 rfl (by decide) rfl ?_
    refine ax_iload_n 19 dX8_lay_18 rfl 1 rfl rfl ?_
    obtain ⟨h5, hf⟩ := ux_gd_e hf
    refine ax_iald 20 dX8_lay_19 (by decide) rfl h5 rfl ?_
    refine ax_bipush (v := (-4)) 22 dX8_lay_20 (by decide) rfl ?_
    refine ax_icmp_ne 28 25 dX8_lay_22 (by decide) rfl (fun c6 => ?_) (fun c6 => ?_)
    · have hf := ux_iff c6 hf
      refine ax_iload_n 29 dX8_lay_28 rfl 2 rfl rfl ?_
      refine ax_i2l 30 dX8_lay_29 rfl ?_
      refine ax_lconst (v := 0) 31 dX8_lay_30 (by decide) rfl ?_
      refine ax_aload_n 32 dX8_lay_31 rfl 0 rfl rfl ?_
      refine ax_getr 64 35 dX8_lay_32 fg_X8_50 rfl (by decide) rfl ?_
      refine ax_iload_n 36 dX8_lay_35 rfl 1 rfl rfl ?_
      obtain ⟨h7, hf⟩ := ux_gd_e hf
      refine ax_iald 37 dX8_lay_36 (by decide) rfl h7 rfl ?_
      refine ax_iconst (v := 1) 38 dX8_lay_37 (by decide) rfl ?_
      refine ax_isub 39 dX8_lay_38 rfl ?_
      refine ax_i2l 40 dX8_lay_39 rfl ?_
      obtain ⟨r10, S9, e8, hf⟩ := ux_bi_e hf
      refine ax_callSi 43 [.long ((p1 : Int32).toInt64), .long 0, .long (((S2.1 64 p0.toNatClampNeg) - (1 : Int32) : Int32).toInt64)] dX8_lay_40 fs_X8_102 (m_X8_in e8) (by decide) rfl rfl (Nat.le_of_ble_eq_true rfl) rfl ?_
      refine ax_if_ne 49 46 dX8_lay_43 (by decide) rfl (fun c11 => ?_) (fun c11 => ?_)
      · have hf := ux_iff c11 hf
        refine ax_aload_n 50 dX8_lay_49 rfl 0 rfl rfl ?_
        refine ax_getr 65 53 dX8_lay_50 fg_X8_53 rfl (by decide) rfl ?_
        refine ax_bipush (v := 64) 55 dX8_lay_53 (by decide) rfl ?_
        refine ax_iload_n 56 dX8_lay_55 rfl 1 rfl rfl ?_
        refine ax_imul 57 dX8_lay_56 rfl ?_
        refine ax_iload_n 58 dX8_lay_57 rfl 2 rfl rfl ?_
        refine ax_iadd 59 dX8_lay_58 rfl ?_
        refine ax_aload_n 60 dX8_lay_59 rfl 0 rfl rfl ?_
        refine ax_getr 63 63 dX8_lay_60 fg_X8_47 rfl (by decide) rfl ?_
        refine ax_iload_n 64 dX8_lay_63 rfl 1 rfl rfl ?_
        obtain ⟨h12, hf⟩ := ux_gd_e hf
        refine ax_iald 65 dX8_lay_64 (by decide) rfl h12 rfl ?_
        refine ax_if_ne 78 68 dX8_lay_65 (by decide) rfl (fun c13 => ?_) (fun c13 => ?_)
        · have hf := ux_iff c13 hf
          refine ax_aload_n 79 dX8_lay_78 rfl 0 rfl rfl ?_
          refine ax_getr 63 82 dX8_lay_79 fg_X8_47 rfl (by decide) rfl ?_
          refine ax_iload_n 83 dX8_lay_82 rfl 1 rfl rfl ?_
          obtain ⟨h14, hf⟩ := ux_gd_e hf
          refine ax_iald 84 dX8_lay_83 (by decide) rfl h14 rfl ?_
          refine ax_iconst (v := 1) 85 dX8_lay_84 (by decide) rfl ?_
          refine ax_icmp_ne 98 88 dX8_lay_85 (by decide) rfl (fun c15 => ?_) (fun c15 => ?_)
          · have hf := ux_iff c15 hf
            refine ax_lload_n 99 dX8_lay_98 rfl 3 rfl rfl ?_
            obtain ⟨h16, hf⟩ := ux_gd_e hf
            refine ax_last 100 dX8_lay_99 (by decide) rfl h16 rfl ?_
            refine ax_iconst (v := 1) 101 dX8_lay_100 (by decide) rfl ?_
            exact ax_iret dX8_lay_101 hf
          · have hf := ux_ift c15 hf
            refine ax_lload_n 89 dX8_lay_88 rfl 3 rfl rfl ?_
            refine ax_bipush (v := 32) 91 dX8_lay_89 (by decide) rfl ?_
            refine ax_lshl 92 dX8_lay_91 rfl ?_
            refine ax_bipush (v := 32) 94 dX8_lay_92 (by decide) rfl ?_
            refine ax_lshr 95 dX8_lay_94 rfl ?_
            refine ax_goto 99 dX8_lay_95 (by decide) ?_
            obtain ⟨h17, hf⟩ := ux_gd_e hf
            refine ax_last 100 dX8_lay_99 (by decide) rfl h17 rfl ?_
            refine ax_iconst (v := 1) 101 dX8_lay_100 (by decide) rfl ?_
            exact ax_iret dX8_lay_101 hf
        · have hf := ux_ift c13 hf
          refine ax_lload_n 69 dX8_lay_68 rfl 3 rfl rfl ?_
          refine ax_bipush (v := 56) 71 dX8_lay_69 (by decide) rfl ?_
          refine ax_lshl 72 dX8_lay_71 rfl ?_
          refine ax_bipush (v := 56) 74 dX8_lay_72 (by decide) rfl ?_
          refine ax_lshr 75 dX8_lay_74 rfl ?_
          refine ax_goto 99 dX8_lay_75 (by decide) ?_
          obtain ⟨h18, hf⟩ := ux_gd_e hf
          refine ax_last 100 dX8_lay_99 (by decide) rfl h18 rfl ?_
          refine ax_iconst (v := 1) 101 dX8_lay_100 (by decide) rfl ?_
          exact ax_iret dX8_lay_101 hf
      · have hf := ux_ift c11 hf
        refine ax_bipush (v := (-12)) 48 dX8_lay_46 (by decide) rfl ?_
        exact ax_iret dX8_lay_48 hf
    · have hf := ux_ift c6 hf
      refine ax_bipush (v := (-11)) 27 dX8_lay_25 (by decide) rfl ?_
      exact ax_iret dX8_lay_27 hf
  · have hf := ux_ift c4 hf
    refine ax_iconst (v := (-1)) 13 dX8_lay_12 (by decide) rfl ?_
    exact ax_iret dX8_lay_13 hf
def b_X8_draw_148 (n : Nat) (p0 : Int32) (p1 : Int32) (p2 : Int32) (k136 : Int32 → ux_S → Option (Int32 × ux_S)) (k148 : Int32 → Int32 → ux_S → Option (Int32 × ux_S)) (x4 : Int32) (x5 : Int32) (S : ux_S) : Option (Int32 × ux_S) :=
  if S.1 8 0 ≤ x5 then (k136 (x4 + 1) S) else (ux_gd (ux_ib (((((64 : Int32) * p0) + p2) + ((S.1 8 0) * x4)) + x5) 256) (ux_gd (ux_ib (((8 : Int32) * x4) + x5) 64) (k148 x4 (x5 + 1) (ux_i S 58 (((8 : Int32) * x4) + x5).toNatClampNeg ((S.2 65 (((((64 : Int32) * p0) + p2) + ((S.1 8 0) * x4)) + x5).toNatClampNeg : Int64).toInt32)))))
set_option maxHeartbeats 2000000 in
set_option maxRecDepth 10000 in
theorem w_X8_draw_148 {l : Launch} {G : ux_G} {n : Nat} {p0 : Int32} {p1 : Int32} {p2 : Int32} {r : Int32} {Z : ux_S} (k136 : Int32 → ux_S → Option (Int32 × ux_S)) (hk136 : ∀ (x4 : Int32) (S : ux_S), k136 x4 S = some (r, Z) → ux_At l G RX8 cX8_draw 6 (some .int) 2 (some (.int r)) Z 136 [(0, .ref (ux_a G 8)), (1, .int p0), (3, .int p2), (4, .int x4)] [] S) (k148 : Int32 → Int32 → ux_S → Option (Int32 × ux_S)) (hk148 : ∀ (x4 x5 : Int32) (S : ux_S), k148 x4 x5 S = some (r, Z) → ux_At l G RX8 cX8_draw 6 (some .int) 2 (some (.int r)) Z 148 [(0, .ref (ux_a G 8)), (1, .int p0), (3, .int p2), (4, .int x4), (5, .int x5)] [] S) : ∀ (x4 : Int32) (x5 : Int32) (S : ux_S), b_X8_draw_148 n p0 p1 p2 k136 k148 x4 x5 S = some (r, Z) → ux_At l G RX8 cX8_draw 6 (some .int) 2 (some (.int r)) Z 148 [(0, .ref (ux_a G 8)), (1, .int p0), (3, .int p2), (4, .int x4), (5, .int x5)] [] S := by
  intro x4 x5 S hf
  unfold b_X8_draw_148 at hf
  refine ax_iload 150 dX8_draw_148 4 rfl rfl ?_
  refine ax_aload_n 151 dX8_draw_150 rfl 0 rfl rfl ?_
  refine ax_geti 154 dX8_draw_151 fg_X8_112 rfl rfl ?_
  refine ax_icmp_ge 199 157 dX8_draw_154 (by decide) rfl (fun c13 => ?_) (fun c13 => ?_)
  · have hf := ux_ift c13 hf
    refine ax_iinc (v := x4 + 1) 202 dX8_draw_199 3 rfl rfl (by decide) [1, 2, 3, 0] [(0, .ref (ux_a G 8)), (1, .int p0), (3, .int p2), (4, .int (x4 + 1))] rfl rfl ?_
    refine ax_goto 136 dX8_draw_202 (by decide) ?_
    exact ax_sub [0, 1, 2, 3] rfl (hk136 (x4 + 1) S hf)
  · have hf := ux_iff c13 hf
    refine ax_aload_n 158 dX8_draw_157 rfl 0 rfl rfl ?_
    refine ax_getr 58 161 dX8_draw_158 fg_X8_22 rfl (by decide) rfl ?_
    refine ax_bipush (v := 8) 163 dX8_draw_161 (by decide) rfl ?_
    refine ax_iload 165 dX8_draw_163 3 rfl rfl ?_
    refine ax_imul 166 dX8_draw_165 rfl ?_
    refine ax_iload 168 dX8_draw_166 4 rfl rfl ?_
    refine ax_iadd 169 dX8_draw_168 rfl ?_
    refine ax_aload_n 170 dX8_draw_169 rfl 0 rfl rfl ?_
    refine ax_getr 65 173 dX8_draw_170 fg_X8_53 rfl (by decide) rfl ?_
    refine ax_bipush (v := 64) 175 dX8_draw_173 (by decide) rfl ?_
    refine ax_iload_n 176 dX8_draw_175 rfl 1 rfl rfl ?_
    refine ax_imul 177 dX8_draw_176 rfl ?_
    refine ax_iload_n 178 dX8_draw_177 rfl 2 rfl rfl ?_
    refine ax_iadd 179 dX8_draw_178 rfl ?_
    refine ax_aload_n 180 dX8_draw_179 rfl 0 rfl rfl ?_
    refine ax_geti 183 dX8_draw_180 fg_X8_112 rfl rfl ?_
    refine ax_iload 185 dX8_draw_183 3 rfl rfl ?_
    refine ax_imul 186 dX8_draw_185 rfl ?_
    refine ax_iadd 187 dX8_draw_186 rfl ?_
    refine ax_iload 189 dX8_draw_187 4 rfl rfl ?_
    refine ax_iadd 190 dX8_draw_189 rfl ?_
    obtain ⟨h14, hf⟩ := ux_gd_e hf
    refine ax_lald 191 dX8_draw_190 (by decide) rfl h14 rfl ?_
    refine ax_l2i 192 dX8_draw_191 rfl ?_
    obtain ⟨h15, hf⟩ := ux_gd_e hf
    refine ax_iast 193 dX8_draw_192 (by decide) rfl h15 rfl ?_
    refine ax_iinc (v := x5 + 1) 196 dX8_draw_193 4 rfl rfl (by decide) [1, 2, 3, 4, 0] [(0, .ref (ux_a G 8)), (1, .int p0), (3, .int p2), (4, .int x4), (5, .int (x5 + 1))] rfl rfl ?_
    refine ax_goto 148 dX8_draw_196 (by decide) ?_
    exact ax_sub [0, 1, 2, 3, 4] rfl (hk148 x4 (x5 + 1) (ux_i S 58 (((8 : Int32) * x4) + x5).toNatClampNeg ((S.2 65 (((((64 : Int32) * p0) + p2) + ((S.1 8 0) * x4)) + x5).toNatClampNeg : Int64).toInt32)) hf)
def b_X8_draw_136 (n : Nat) (p0 : Int32) (p1 : Int32) (p2 : Int32) (k136 : Int32 → ux_S → Option (Int32 × ux_S)) (x4 : Int32) (S : ux_S) : Option (Int32 × ux_S) :=
  if S.1 8 0 ≤ x4 then (some (S.1 8 0, S)) else (ux_lp2 (b_X8_draw_148 n p0 p1 p2 k136) n x4 0 S)
set_option maxHeartbeats 2000000 in
set_option maxRecDepth 10000 in
theorem w_X8_draw_136 {l : Launch} {G : ux_G} {n : Nat} {p0 : Int32} {p1 : Int32} {p2 : Int32} {r : Int32} {Z : ux_S} (k136 : Int32 → ux_S → Option (Int32 × ux_S)) (hk136 : ∀ (x4 : Int32) (S : ux_S), k136 x4 S = some (r, Z) → ux_At l G RX8 cX8_draw 6 (some .int) 2 (some (.int r)) Z 136 [(0, .ref (ux_a G 8)), (1, .int p0), (3, .int p2), (4, .int x4)] [] S) : ∀ (x4 : Int32) (S : ux_S), b_X8_draw_136 n p0 p1 p2 k136 x4 S = some (r, Z) → ux_At l G RX8 cX8_draw 6 (some .int) 2 (some (.int r)) Z 136 [(0, .ref (ux_a G 8)), (1, .int p0), (3, .int p2), (4, .int x4)] [] S := by
  intro x4 S hf
  unfold b_X8_draw_136 at hf
  refine ax_iload 138 dX8_draw_136 3 rfl rfl ?_
  refine ax_aload_n 139 dX8_draw_138 rfl 0 rfl rfl ?_
  refine ax_geti 142 dX8_draw_139 fg_X8_112 rfl rfl ?_
  refine ax_icmp_ge 205 145 dX8_draw_142 (by decide) rfl (fun c12 => ?_) (fun c12 => ?_)
  · have hf := ux_ift c12 hf
    refine ax_aload_n 206 dX8_draw_205 rfl 0 rfl rfl ?_
    refine ax_geti 209 dX8_draw_206 fg_X8_112 rfl rfl ?_
    exact ax_iret dX8_draw_209 hf
  · have hf := ux_iff c12 hf
    refine ax_iconst (v := 0) 146 dX8_draw_145 (by decide) rfl ?_
    refine ax_istore 148 dX8_draw_146 (by decide) [1, 2, 3, 4, 0] [(0, .ref (ux_a G 8)), (1, .int p0), (3, .int p2), (4, .int x4), (5, .int 0)] rfl rfl ?_
    exact ax_sub [0, 1, 2, 3, 4] rfl (ux_lp2_w (Pr := fun x4 x5 S => ux_At l G RX8 cX8_draw 6 (some .int) 2 (some (.int r)) Z 148 [(0, .ref (ux_a G 8)), (1, .int p0), (3, .int p2), (4, .int x4), (5, .int x5)] [] S) (fun k148 hk148 => w_X8_draw_148 k136 hk136 k148 hk148) n x4 0 S hf)
def b_X8_draw_58 (n : Nat) (p0 : Int32) (p1 : Int32) (p2 : Int32) (k58 : Int32 → ux_S → Option (Int32 × ux_S)) (x4 : Int32) (S : ux_S) : Option (Int32 × ux_S) :=
  if (S.1 8 0) * (S.1 8 0) ≤ x4 then (ux_lp1 (b_X8_draw_136 n p0 p1 p2) n 0 S) else (ux_gd (ux_ib p0 4) (ux_bi (f_X8_in S (((p2 : Int32).toInt64) + ((x4 : Int32).toInt64)) 0 (((S.1 64 p0.toNatClampNeg) - (1 : Int32) : Int32).toInt64)) (fun r19 S18 => if r19 = 0 then (some ((-12), S18)) else (ux_gd (ux_ib ((((64 : Int32) * p0) + p2) + x4) 256) (ux_bi (f_X8_in S18 (S18.2 65 ((((64 : Int32) * p0) + p2) + x4).toNatClampNeg) 0 200) (fun r24 S23 => if r24 = 0 then (some (((-20) : Int32) - x4, S23)) else (k58 (x4 + 1) S23)))))))
set_option maxHeartbeats 2000000 in
set_option maxRecDepth 10000 in
theorem w_X8_draw_58 {l : Launch} {G : ux_G} {n : Nat} {p0 : Int32} {p1 : Int32} {p2 : Int32} {r : Int32} {Z : ux_S} (k58 : Int32 → ux_S → Option (Int32 × ux_S)) (hk58 : ∀ (x4 : Int32) (S : ux_S), k58 x4 S = some (r, Z) → ux_At l G RX8 cX8_draw 6 (some .int) 2 (some (.int r)) Z 58 [(0, .ref (ux_a G 8)), (1, .int p0), (3, .int p2), (4, .int x4)] [] S) : ∀ (x4 : Int32) (S : ux_S), b_X8_draw_58 n p0 p1 p2 k58 x4 S = some (r, Z) → ux_At l G RX8 cX8_draw 6 (some .int) 2 (some (.int r)) Z 58 [(0, .ref (ux_a G 8)), (1, .int p0), (3, .int p2), (4, .int x4)] [] S := by
  intro x4 S hf
  unfold b_X8_draw_58 at hf
  refine ax_iload 60 dX8_draw_58 3 rfl rfl ?_
  refine ax_aload_n 61 dX8_draw_60 rfl 0 rfl rfl ?_
  refine ax_geti 64 dX8_draw_61 fg_X8_112 rfl rfl ?_
  refine ax_aload_n 65 dX8_draw_64 rfl 0 rfl rfl ?_
  refine ax_geti 68 dX8_draw_65 fg_X8_112 rfl rfl ?_
  refine ax_imul 69 dX8_draw_68 rfl ?_
  refine ax_icmp_ge 133 72 dX8_draw_69 (by decide) rfl (fun c11 => ?_) (fun c11 => ?_)
  · have hf := ux_ift c11 hf
    refine ax_iconst (v := 0) 134 dX8_draw_133 (by decide) rfl ?_
    refine ax_istore 136 dX8_draw_134 (by decide) [1, 2, 3, 0] [(0, .ref (ux_a G 8)), (1, .int p0), (3, .int p2), (4, .int 0)] rfl rfl ?_
    exact ax_sub [0, 1, 2, 3] rfl (ux_lp1_w (Pr := fun x4 S => ux_At l G RX8 cX8_draw 6 (some .int) 2 (some (.int r)) Z 136 [(0, .ref (ux_a G 8)), (1, .int p0), (3, .int p2), (4, .int x4)] [] S) (fun k136 hk136 => w_X8_draw_136 k136 hk136) n 0 S hf)
  · have hf := ux_iff c11 hf
    refine ax_iload_n 73 dX8_draw_72 rfl 2 rfl rfl ?_
    refine ax_i2l 74 dX8_draw_73 rfl ?_
    refine ax_iload 76 dX8_draw_74 3 rfl rfl ?_
    refine ax_i2l 77 dX8_draw_76 rfl ?_
    refine ax_ladd 78 dX8_draw_77 rfl ?_
    refine ax_lconst (v := 0) 79 dX8_draw_78 (by decide) rfl ?_
    refine ax_aload_n 80 dX8_draw_79 rfl 0 rfl rfl ?_
    refine ax_getr 64 83 dX8_draw_80 fg_X8_50 rfl (by decide) rfl ?_
    refine ax_iload_n 84 dX8_draw_83 rfl 1 rfl rfl ?_
    obtain ⟨h16, hf⟩ := ux_gd_e hf
    refine ax_iald 85 dX8_draw_84 (by decide) rfl h16 rfl ?_
    refine ax_iconst (v := 1) 86 dX8_draw_85 (by decide) rfl ?_
    refine ax_isub 87 dX8_draw_86 rfl ?_
    refine ax_i2l 88 dX8_draw_87 rfl ?_
    obtain ⟨r19, S18, e17, hf⟩ := ux_bi_e hf
    refine ax_callSi 91 [.long (((p2 : Int32).toInt64) + ((x4 : Int32).toInt64)), .long 0, .long (((S.1 64 p0.toNatClampNeg) - (1 : Int32) : Int32).toInt64)] dX8_draw_88 fs_X8_102 (m_X8_in e17) (by decide) rfl rfl (Nat.le_of_ble_eq_true rfl) rfl ?_
    refine ax_if_ne 97 94 dX8_draw_91 (by decide) rfl (fun c20 => ?_) (fun c20 => ?_)
    · have hf := ux_iff c20 hf
      refine ax_aload_n 98 dX8_draw_97 rfl 0 rfl rfl ?_
      refine ax_getr 65 101 dX8_draw_98 fg_X8_53 rfl (by decide) rfl ?_
      refine ax_bipush (v := 64) 103 dX8_draw_101 (by decide) rfl ?_
      refine ax_iload_n 104 dX8_draw_103 rfl 1 rfl rfl ?_
      refine ax_imul 105 dX8_draw_104 rfl ?_
      refine ax_iload_n 106 dX8_draw_105 rfl 2 rfl rfl ?_
      refine ax_iadd 107 dX8_draw_106 rfl ?_
      refine ax_iload 109 dX8_draw_107 3 rfl rfl ?_
      refine ax_iadd 110 dX8_draw_109 rfl ?_
      obtain ⟨h21, hf⟩ := ux_gd_e hf
      refine ax_lald 111 dX8_draw_110 (by decide) rfl h21 rfl ?_
      refine ax_lconst (v := 0) 112 dX8_draw_111 (by decide) rfl ?_
      refine ax_ldc2 115 dX8_draw_112 fc_X8_119 rfl ?_
      obtain ⟨r24, S23, e22, hf⟩ := ux_bi_e hf
      refine ax_callSi 118 [.long (S18.2 65 ((((64 : Int32) * p0) + p2) + x4).toNatClampNeg), .long 0, .long 200] dX8_draw_115 fs_X8_102 (m_X8_in e22) (by decide) rfl rfl (Nat.le_of_ble_eq_true rfl) rfl ?_
      refine ax_if_ne 127 121 dX8_draw_118 (by decide) rfl (fun c25 => ?_) (fun c25 => ?_)
      · have hf := ux_iff c25 hf
        refine ax_iinc (v := x4 + 1) 130 dX8_draw_127 3 rfl rfl (by decide) [1, 2, 3, 0] [(0, .ref (ux_a G 8)), (1, .int p0), (3, .int p2), (4, .int (x4 + 1))] rfl rfl ?_
        refine ax_goto 58 dX8_draw_130 (by decide) ?_
        exact ax_sub [0, 1, 2, 3] rfl (hk58 (x4 + 1) S23 hf)
      · have hf := ux_ift c25 hf
        refine ax_bipush (v := (-20)) 123 dX8_draw_121 (by decide) rfl ?_
        refine ax_iload 125 dX8_draw_123 3 rfl rfl ?_
        refine ax_isub 126 dX8_draw_125 rfl ?_
        exact ax_iret dX8_draw_126 hf
    · have hf := ux_ift c20 hf
      refine ax_bipush (v := (-12)) 96 dX8_draw_94 (by decide) rfl ?_
      exact ax_iret dX8_draw_96 hf
def f_X8_draw (n : Nat) (S : ux_S) (p0 : Int32) (p1 : Int32) (p2 : Int32) : Option (Int32 × ux_S) :=
  ux_bi (f_X8_in S ((p0 : Int32).toInt64) 0 3) (fun r3 S2 => if r3 = 0 then (some ((-1), S2)) else (ux_bi (f_X8_in S2 ((p1 : Int32).toInt64) 0 2) (fun r7 S6 => if r7 = 0 then (some ((-1), S6)) else (ux_gd (ux_ib p0 4) (if S6.1 63 p0.toNatClampNeg = p1 then (ux_lp1 (b_X8_draw_58 n p0 p1 p2) n 0 S6) else (ux_gd (ux_ib p0 4) (if S6.1 63 p0.toNatClampNeg = (-4) then (some ((-11), S6)) else (some ((-13), S6)))))))))
set_option maxHeartbeats 2000000 in
set_option maxRecDepth 10000 in
theorem m_X8_draw {l : Launch} {G : ux_G} {n : Nat} {S : ux_S} {p0 : Int32} {p1 : Int32} {p2 : Int32} {r : Int32} {Z : ux_S} (hf : f_X8_draw n S p0 p1 p2 = some (r, Z)) : ux_M l G yX8_draw cX8_draw 6 (some .int) 2 [.ref (ux_a G 8), .int p0, .int p1, .int p2] S (some (.int r)) Z := by
  refine ux_of (by decide) (Nat.le_of_ble_eq_true rfl) ?_
  show ux_At l G RX8 cX8_draw 6 (some .int) 2 (some (.int r)) Z 0 [(0, .ref (ux_a G 8)), (1, .int p0), (2, .int p1), (3, .int p2)] [] S
  unfold f_X8_draw at hf
  refine ax_iload_n 1 dX8_draw_0 rfl 1 rfl rfl ?_
  refine ax_i2l 2 dX8_draw_1 rfl ?_
  refine ax_lconst (v := 0) 3 dX8_draw_2 (by decide) rfl ?_
  refine ax_ldc2 6 dX8_draw_3 fc_X8_121 rfl ?_
  obtain ⟨r3, S2, e1, hf⟩ := ux_bi_e hf
  refine ax_callSi 9 [.long ((p0 : Int32).toInt64), .long 0, .long 3] dX8_draw_6 fs_X8_102 (m_X8_in e1) (by decide) rfl rfl (Nat.le_of_ble_eq_true rfl) rfl ?_
  refine ax_if_eq 24 12 dX8_draw_9 (by decide) rfl (fun c4 => ?_) (fun c4 => ?_)
  · have hf := ux_ift c4 hf
    refine ax_iconst (v := (-1)) 25 dX8_draw_24 (by decide) rfl ?_
    exact ax_iret dX8_draw_25 hf
  · have hf := ux_iff c4 hf
    refine ax_iload_n 13 dX8_draw_12 rfl 2 rfl rfl ?_
    refine ax_i2l 14 dX8_draw_13 rfl ?_
    refine ax_lconst (v := 0) 15 dX8_draw_14 (by decide) rfl ?_
    refine ax_ldc2 18 dX8_draw_15 fc_X8_123 rfl ?_
    obtain ⟨r7, S6, e5, hf⟩ := ux_bi_e hf
    refine ax_callSi 21 [.long ((p1 : Int32).toInt64), .long 0, .long 2] dX8_draw_18 fs_X8_102 (m_X8_in e5) (by decide) rfl rfl (Nat.le_of_ble_eq_true rfl) rfl ?_
    refine ax_if_ne 26 24 dX8_draw_21 (by decide) rfl (fun c8 => ?_) (fun c8 => ?_)
    · have hf := ux_iff c8 hf
      refine ax_aload_n 27 dX8_draw_26 rfl 0 rfl rfl ?_
      refine ax_getr 63 30 dX8_draw_27 fg_X8_47 rfl (by decide) rfl ?_
      refine ax_iload_n 31 dX8_draw_30 rfl 1 rfl rfl ?_
      obtain ⟨h9, hf⟩ := ux_gd_e hf
      refine ax_iald 32 dX8_draw_31 (by decide) rfl h9 rfl ?_
      refine ax_iload_n 33 dX8_draw_32 rfl 2 rfl rfl ?_
      refine ax_icmp_eq 55 36 dX8_draw_33 (by decide) rfl (fun c10 => ?_) (fun c10 => ?_)
      · have hf := ux_ift c10 hf
        refine ax_iconst (v := 0) 56 dX8_draw_55 (by decide) rfl ?_
        refine ax_istore 58 dX8_draw_56 (by decide) [1, 2, 3, 4, 0] [(0, .ref (ux_a G 8)), (1, .int p0), (2, .int p1), (3, .int p2), (4, .int 0)] rfl rfl ?_
        exact ax_sub [0, 1, 3, 4] rfl (ux_lp1_w (Pr := fun x4 S => ux_At l G RX8 cX8_draw 6 (some .int) 2 (some (.int r)) Z 58 [(0, .ref (ux_a G 8)), (1, .int p0), (3, .int p2), (4, .int x4)] [] S) (fun k58 hk58 => w_X8_draw_58 k58 hk58) n 0 S6 hf)
      · have hf := ux_iff c10 hf
        refine ax_aload_n 37 dX8_draw_36 rfl 0 rfl rfl ?_
        refine ax_getr 63 40 dX8_draw_37 fg_X8_47 rfl (by decide) rfl ?_
        refine ax_iload_n 41 dX8_draw_40 rfl 1 rfl rfl ?_
        obtain ⟨h26, hf⟩ := ux_gd_e hf
        refine ax_iald 42 dX8_draw_41 (by decide) rfl h26 rfl ?_
        refine ax_bipush (v := (-4)) 44 dX8_draw_42 (by decide) rfl ?_
        refine ax_icmp_ne 52 47 dX8_draw_44 (by decide) rfl (fun c27 => ?_) (fun c27 => ?_)
        · have hf := ux_iff c27 hf
          refine ax_bipush (v := (-13)) 54 dX8_draw_52 (by decide) rfl ?_
          exact ax_iret dX8_draw_54 hf
        · have hf := ux_ift c27 hf
          refine ax_bipush (v := (-11)) 49 dX8_draw_47 (by decide) rfl ?_
          refine ax_goto 54 dX8_draw_49 (by decide) ?_
          exact ax_iret dX8_draw_54 hf
    · have hf := ux_ift c8 hf
      refine ax_iconst (v := (-1)) 25 dX8_draw_24 (by decide) rfl ?_
      exact ax_iret dX8_draw_25 hf
def f_X8_set (S : ux_S) (p0 : Int32) (p1 : Int32) : Option (Int32 × ux_S) :=
  ux_bi (f_X8_in S ((p0 : Int32).toInt64) 10 30) (fun r3 S2 => if r3 = 0 then (some ((-1), S2)) else (ux_bi (f_X8_in S2 ((p1 : Int32).toInt64) 1 5) (fun r7 S6 => if r7 = 0 then (some ((-1), S6)) else (some (1, ux_i (ux_i S6 8 6 p0) 8 7 p1)))))
set_option maxHeartbeats 2000000 in
set_option maxRecDepth 10000 in
theorem m_X8_set {l : Launch} {G : ux_G} {S : ux_S} {p0 : Int32} {p1 : Int32} {r : Int32} {Z : ux_S} (hf : f_X8_set S p0 p1 = some (r, Z)) : ux_M l G yX8_set cX8_set 3 (some .int) 2 [.ref (ux_a G 8), .int p0, .int p1] S (some (.int r)) Z := by
  refine ux_of (by decide) (Nat.le_of_ble_eq_true rfl) ?_
  show ux_At l G RX8 cX8_set 3 (some .int) 2 (some (.int r)) Z 0 [(0, .ref (ux_a G 8)), (1, .int p0), (2, .int p1)] [] S
  unfold f_X8_set at hf
  refine ax_iload_n 1 dX8_set_0 rfl 1 rfl rfl ?_
  refine ax_i2l 2 dX8_set_1 rfl ?_
  refine ax_ldc2 5 dX8_set_2 fc_X8_125 rfl ?_
  refine ax_ldc2 8 dX8_set_5 fc_X8_127 rfl ?_
  obtain ⟨r3, S2, e1, hf⟩ := ux_bi_e hf
  refine ax_callSi 11 [.long ((p0 : Int32).toInt64), .long 10, .long 30] dX8_set_8 fs_X8_102 (m_X8_in e1) (by decide) rfl rfl (Nat.le_of_ble_eq_true rfl) rfl ?_
  refine ax_if_eq 26 14 dX8_set_11 (by decide) rfl (fun c4 => ?_) (fun c4 => ?_)
  · have hf := ux_ift c4 hf
    refine ax_iconst (v := (-1)) 27 dX8_set_26 (by decide) rfl ?_
    exact ax_iret dX8_set_27 hf
  · have hf := ux_iff c4 hf
    refine ax_iload_n 15 dX8_set_14 rfl 2 rfl rfl ?_
    refine ax_i2l 16 dX8_set_15 rfl ?_
    refine ax_lconst (v := 1) 17 dX8_set_16 (by decide) rfl ?_
    refine ax_ldc2 20 dX8_set_17 fc_X8_129 rfl ?_
    obtain ⟨r7, S6, e5, hf⟩ := ux_bi_e hf
    refine ax_callSi 23 [.long ((p1 : Int32).toInt64), .long 1, .long 5] dX8_set_20 fs_X8_102 (m_X8_in e5) (by decide) rfl rfl (Nat.le_of_ble_eq_true rfl) rfl ?_
    refine ax_if_ne 28 26 dX8_set_23 (by decide) rfl (fun c8 => ?_) (fun c8 => ?_)
    · have hf := ux_iff c8 hf
      refine ax_aload_n 29 dX8_set_28 rfl 0 rfl rfl ?_
      refine ax_iload_n 30 dX8_set_29 rfl 1 rfl rfl ?_
      refine ax_put 33 dX8_set_30 fp_X8_25 rfl ?_
      refine ax_aload_n 34 dX8_set_33 rfl 0 rfl rfl ?_
      refine ax_iload_n 35 dX8_set_34 rfl 2 rfl rfl ?_
      refine ax_put 38 dX8_set_35 fp_X8_29 rfl ?_
      refine ax_iconst (v := 1) 39 dX8_set_38 (by decide) rfl ?_
      exact ax_iret dX8_set_39 hf
    · have hf := ux_ift c8 hf
      refine ax_iconst (v := (-1)) 27 dX8_set_26 (by decide) rfl ?_
      exact ax_iret dX8_set_27 hf
def b_X8_price_72 (n : Nat) (p0 : Int32) (p1 : Int32) (x3 : Int32) (t0 : Int32) (S : ux_S) : Option (Int32 × ux_S) :=
  if x3 = 0 then (ux_gd (ux_ib (p0 - (10 : Int32)) 21) (some (t0, ux_i S 59 (p0 - (10 : Int32)).toNatClampNeg p1))) else (some (t0, ux_i S 8 9 p1))
set_option maxHeartbeats 2000000 in
set_option maxRecDepth 10000 in
theorem w_X8_price_72 {l : Launch} {G : ux_G} {n : Nat} {p0 : Int32} {p1 : Int32} {r : Int32} {Z : ux_S} : ∀ (x3 : Int32) (t0 : Int32) (S : ux_S), b_X8_price_72 n p0 p1 x3 t0 S = some (r, Z) → ux_At l G RX8 cX8_price 5 (some .int) 2 (some (.int r)) Z 72 [(0, .ref (ux_a G 8)), (1, .int p0), (2, .int p1), (3, .int x3)] [.int t0] S := by
  intro x3 t0 S hf
  unfold b_X8_price_72 at hf
  refine ax_istore 74 dX8_price_72 (by decide) [1, 2, 3, 4, 0] [(0, .ref (ux_a G 8)), (1, .int p0), (2, .int p1), (3, .int x3), (4, .int t0)] rfl rfl ?_
  refine ax_iload_n 75 dX8_price_74 rfl 3 rfl rfl ?_
  refine ax_if_eq 86 78 dX8_price_75 (by decide) rfl (fun c10 => ?_) (fun c10 => ?_)
  · have hf := ux_ift c10 hf
    refine ax_aload_n 87 dX8_price_86 rfl 0 rfl rfl ?_
    refine ax_getr 59 90 dX8_price_87 fg_X8_32 rfl (by decide) rfl ?_
    refine ax_iload_n 91 dX8_price_90 rfl 1 rfl rfl ?_
    refine ax_bipush (v := 10) 93 dX8_price_91 (by decide) rfl ?_
    refine ax_isub 94 dX8_price_93 rfl ?_
    refine ax_iload_n 95 dX8_price_94 rfl 2 rfl rfl ?_
    obtain ⟨h11, hf⟩ := ux_gd_e hf
    refine ax_iast 96 dX8_price_95 (by decide) rfl h11 rfl ?_
    refine ax_iload 98 dX8_price_96 4 rfl rfl ?_
    exact ax_iret dX8_price_98 hf
  · have hf := ux_iff c10 hf
    refine ax_aload_n 79 dX8_price_78 rfl 0 rfl rfl ?_
    refine ax_iload_n 80 dX8_price_79 rfl 2 rfl rfl ?_
    refine ax_put 83 dX8_price_80 fp_X8_35 rfl ?_
    refine ax_goto 96 dX8_price_83 (by decide) ?_
    refine ax_iload 98 dX8_price_96 4 rfl rfl ?_
    exact ax_iret dX8_price_98 hf
def b_X8_price_44 (n : Nat) (p0 : Int32) (p1 : Int32) (x3 : Int32) (t0 : Int64) (t1 : Int64) (t2 : Int64) (S : ux_S) : Option (Int32 × ux_S) :=
  ux_bi (f_X8_in S t2 t1 t0) (fun r6 S5 => if r6 = 0 then (some ((-1), S5)) else (if x3 = 0 then (ux_gd (ux_ib (p0 - (10 : Int32)) 21) (b_X8_price_72 n p0 p1 x3 (S5.1 59 (p0 - (10 : Int32)).toNatClampNeg) S5)) else (b_X8_price_72 n p0 p1 x3 (S5.1 8 9) S5)))
set_option maxHeartbeats 2000000 in
set_option maxRecDepth 10000 in
theorem w_X8_price_44 {l : Launch} {G : ux_G} {n : Nat} {p0 : Int32} {p1 : Int32} {r : Int32} {Z : ux_S} : ∀ (x3 : Int32) (t0 : Int64) (t1 : Int64) (t2 : Int64) (S : ux_S), b_X8_price_44 n p0 p1 x3 t0 t1 t2 S = some (r, Z) → ux_At l G RX8 cX8_price 5 (some .int) 2 (some (.int r)) Z 44 [(0, .ref (ux_a G 8)), (1, .int p0), (2, .int p1), (3, .int x3)] [.long t0, .long t1, .long t2] S := by
  intro x3 t0 t1 t2 S hf
  unfold b_X8_price_44 at hf
  obtain ⟨r6, S5, e4, hf⟩ := ux_bi_e hf
  refine ax_callSi 47 [.long t2, .long t1, .long t0] dX8_price_44 fs_X8_102 (m_X8_in e4) (by decide) rfl rfl (Nat.le_of_ble_eq_true rfl) rfl ?_
  refine ax_if_ne 52 50 dX8_price_47 (by decide) rfl (fun c7 => ?_) (fun c7 => ?_)
  · have hf := ux_iff c7 hf
    refine ax_iload_n 53 dX8_price_52 rfl 3 rfl rfl ?_
    refine ax_if_eq 63 56 dX8_price_53 (by decide) rfl (fun c8 => ?_) (fun c8 => ?_)
    · have hf := ux_ift c8 hf
      refine ax_aload_n 64 dX8_price_63 rfl 0 rfl rfl ?_
      refine ax_getr 59 67 dX8_price_64 fg_X8_32 rfl (by decide) rfl ?_
      refine ax_iload_n 68 dX8_price_67 rfl 1 rfl rfl ?_
      refine ax_bipush (v := 10) 70 dX8_price_68 (by decide) rfl ?_
      refine ax_isub 71 dX8_price_70 rfl ?_
      obtain ⟨h9, hf⟩ := ux_gd_e hf
      refine ax_iald 72 dX8_price_71 (by decide) rfl h9 rfl ?_
      exact ax_sub [0, 1, 2, 3] rfl (w_X8_price_72 x3 (S5.1 59 (p0 - (10 : Int32)).toNatClampNeg) S5 hf)
    · have hf := ux_iff c8 hf
      refine ax_aload_n 57 dX8_price_56 rfl 0 rfl rfl ?_
      refine ax_geti 60 dX8_price_57 fg_X8_35 rfl rfl ?_
      refine ax_goto 72 dX8_price_60 (by decide) ?_
      exact ax_sub [0, 1, 2, 3] rfl (w_X8_price_72 x3 (S5.1 8 9) S5 hf)
  · have hf := ux_ift c7 hf
    refine ax_iconst (v := (-1)) 51 dX8_price_50 (by decide) rfl ?_
    exact ax_iret dX8_price_51 hf
def b_X8_price_28 (n : Nat) (p0 : Int32) (p1 : Int32) (x3 : Int32) (S : ux_S) : Option (Int32 × ux_S) :=
  if x3 = 0 then (b_X8_price_44 n p0 p1 x3 1000 0 ((p1 : Int32).toInt64) S) else (b_X8_price_44 n p0 p1 x3 100 0 ((p1 : Int32).toInt64) S)
set_option maxHeartbeats 2000000 in
set_option maxRecDepth 10000 in
theorem w_X8_price_28 {l : Launch} {G : ux_G} {n : Nat} {p0 : Int32} {p1 : Int32} {r : Int32} {Z : ux_S} : ∀ (x3 : Int32) (S : ux_S), b_X8_price_28 n p0 p1 x3 S = some (r, Z) → ux_At l G RX8 cX8_price 5 (some .int) 2 (some (.int r)) Z 28 [(0, .ref (ux_a G 8)), (1, .int p0), (2, .int p1), (3, .int x3)] [] S := by
  intro x3 S hf
  unfold b_X8_price_28 at hf
  refine ax_iload_n 29 dX8_price_28 rfl 2 rfl rfl ?_
  refine ax_i2l 30 dX8_price_29 rfl ?_
  refine ax_lconst (v := 0) 31 dX8_price_30 (by decide) rfl ?_
  refine ax_iload_n 32 dX8_price_31 rfl 3 rfl rfl ?_
  refine ax_if_eq 41 35 dX8_price_32 (by decide) rfl (fun c3 => ?_) (fun c3 => ?_)
  · have hf := ux_ift c3 hf
    refine ax_ldc2 44 dX8_price_41 fc_X8_100 rfl ?_
    exact ax_sub [0, 1, 2, 3] rfl (w_X8_price_44 x3 1000 0 ((p1 : Int32).toInt64) S hf)
  · have hf := ux_iff c3 hf
    refine ax_ldc2 38 dX8_price_35 fc_X8_131 rfl ?_
    refine ax_goto 44 dX8_price_38 (by decide) ?_
    exact ax_sub [0, 1, 2, 3] rfl (w_X8_price_44 x3 100 0 ((p1 : Int32).toInt64) S hf)
def b_X8_price_9 (n : Nat) (p0 : Int32) (p1 : Int32) (t0 : Int32) (S : ux_S) : Option (Int32 × ux_S) :=
  if t0 = 0 then (ux_bi (f_X8_in S ((p0 : Int32).toInt64) 10 30) (fun r14 S13 => if r14 = 0 then (some ((-1), S13)) else (b_X8_price_28 n p0 p1 t0 S13))) else (b_X8_price_28 n p0 p1 t0 S)
set_option maxHeartbeats 2000000 in
set_option maxRecDepth 10000 in
theorem w_X8_price_9 {l : Launch} {G : ux_G} {n : Nat} {p0 : Int32} {p1 : Int32} {r : Int32} {Z : ux_S} : ∀ (t0 : Int32) (S : ux_S), b_X8_price_9 n p0 p1 t0 S = some (r, Z) → ux_At l G RX8 cX8_price 5 (some .int) 2 (some (.int r)) Z 9 [(0, .ref (ux_a G 8)), (1, .int p0), (2, .int p1)] [.int t0] S := by
  intro t0 S hf
  unfold b_X8_price_9 at hf
  refine ax_istore_n 10 dX8_price_9 rfl (by decide) [1, 2, 3, 0] [(0, .ref (ux_a G 8)), (1, .int p0), (2, .int p1), (3, .int t0)] rfl rfl ?_
  refine ax_iload_n 11 dX8_price_10 rfl 3 rfl rfl ?_
  refine ax_if_ne 28 14 dX8_price_11 (by decide) rfl (fun c2 => ?_) (fun c2 => ?_)
  · have hf := ux_iff c2 hf
    exact ax_sub [0, 1, 2, 3] rfl (w_X8_price_28 t0 S hf)
  · have hf := ux_ift c2 hf
    refine ax_iload_n 15 dX8_price_14 rfl 1 rfl rfl ?_
    refine ax_i2l 16 dX8_price_15 rfl ?_
    refine ax_ldc2 19 dX8_price_16 fc_X8_125 rfl ?_
    refine ax_ldc2 22 dX8_price_19 fc_X8_127 rfl ?_
    obtain ⟨r14, S13, e12, hf⟩ := ux_bi_e hf
    refine ax_callSi 25 [.long ((p0 : Int32).toInt64), .long 10, .long 30] dX8_price_22 fs_X8_102 (m_X8_in e12) (by decide) rfl rfl (Nat.le_of_ble_eq_true rfl) rfl ?_
    refine ax_if_eq 50 28 dX8_price_25 (by decide) rfl (fun c15 => ?_) (fun c15 => ?_)
    · have hf := ux_ift c15 hf
      refine ax_iconst (v := (-1)) 51 dX8_price_50 (by decide) rfl ?_
      exact ax_iret dX8_price_51 hf
    · have hf := ux_iff c15 hf
      exact ax_sub [0, 1, 2, 3] rfl (w_X8_price_28 t0 S13 hf)
def f_X8_price (n : Nat) (S : ux_S) (p0 : Int32) (p1 : Int32) : Option (Int32 × ux_S) :=
  if p0 = 0 then (b_X8_price_9 n p0 p1 1 S) else (b_X8_price_9 n p0 p1 0 S)
set_option maxHeartbeats 2000000 in
set_option maxRecDepth 10000 in
theorem m_X8_price {l : Launch} {G : ux_G} {n : Nat} {S : ux_S} {p0 : Int32} {p1 : Int32} {r : Int32} {Z : ux_S} (hf : f_X8_price n S p0 p1 = some (r, Z)) : ux_M l G yX8_price cX8_price 5 (some .int) 2 [.ref (ux_a G 8), .int p0, .int p1] S (some (.int r)) Z := by
  refine ux_of (by decide) (Nat.le_of_ble_eq_true rfl) ?_
  show ux_At l G RX8 cX8_price 5 (some .int) 2 (some (.int r)) Z 0 [(0, .ref (ux_a G 8)), (1, .int p0), (2, .int p1)] [] S
  unfold f_X8_price at hf
  refine ax_iload_n 1 dX8_price_0 rfl 1 rfl rfl ?_
  refine ax_if_ne 8 4 dX8_price_1 (by decide) rfl (fun c1 => ?_) (fun c1 => ?_)
  · have hf := ux_iff c1 hf
    refine ax_iconst (v := 0) 9 dX8_price_8 (by decide) rfl ?_
    exact ax_sub [0, 1, 2] rfl (w_X8_price_9 0 S hf)
  · have hf := ux_ift c1 hf
    refine ax_iconst (v := 1) 5 dX8_price_4 (by decide) rfl ?_
    refine ax_goto 9 dX8_price_5 (by decide) ?_
    exact ax_sub [0, 1, 2] rfl (w_X8_price_9 1 S hf)
def b_X8_comes_6 (n : Nat) (p0 : Int32) (p1 : Int32) (p2 : Int32) (k6 : Int32 → Int32 → ux_S → Option (Int32 × ux_S)) (x4 : Int32) (x5 : Int32) (S : ux_S) : Option (Int32 × ux_S) :=
  if S.1 8 0 ≤ x5 then (ux_gd (ux_nz p2) (some (((1000 : Int32) * p1) + (((x4 + p2) - (1 : Int32)) / p2), S))) else (ux_gd (ux_ib x5 8) (ux_gd (ux_ib x5 8) (ux_gd (ux_ib (((8 : Int32) * p0) + x5) 64) (k6 (x4 + (((S.1 54 x5.toNatClampNeg) + (S.1 62 x5.toNatClampNeg)) * (S.1 58 (((8 : Int32) * p0) + x5).toNatClampNeg))) (x5 + 1) S))))
set_option maxHeartbeats 2000000 in
set_option maxRecDepth 10000 in
theorem w_X8_comes_6 {l : Launch} {G : ux_G} {n : Nat} {p0 : Int32} {p1 : Int32} {p2 : Int32} {r : Int32} {Z : ux_S} (k6 : Int32 → Int32 → ux_S → Option (Int32 × ux_S)) (hk6 : ∀ (x4 x5 : Int32) (S : ux_S), k6 x4 x5 S = some (r, Z) → ux_At l G RX8 cX8_comes 6 (some .int) 1 (some (.int r)) Z 6 [(0, .ref (ux_a G 8)), (1, .int p0), (2, .int p1), (3, .int p2), (4, .int x4), (5, .int x5)] [] S) : ∀ (x4 : Int32) (x5 : Int32) (S : ux_S), b_X8_comes_6 n p0 p1 p2 k6 x4 x5 S = some (r, Z) → ux_At l G RX8 cX8_comes 6 (some .int) 1 (some (.int r)) Z 6 [(0, .ref (ux_a G 8)), (1, .int p0), (2, .int p1), (3, .int p2), (4, .int x4), (5, .int x5)] [] S := by
  intro x4 x5 S hf
  unfold b_X8_comes_6 at hf
  refine ax_iload 8 dX8_comes_6 5 rfl rfl ?_
  refine ax_aload_n 9 dX8_comes_8 rfl 0 rfl rfl ?_
  refine ax_geti 12 dX8_comes_9 fg_X8_112 rfl rfl ?_
  refine ax_icmp_ge 54 15 dX8_comes_12 (by decide) rfl (fun c1 => ?_) (fun c1 => ?_)
  · have hf := ux_ift c1 hf
    refine ax_sipush (v := 1000) 57 dX8_comes_54 (by decide) rfl ?_
    refine ax_iload_n 58 dX8_comes_57 rfl 2 rfl rfl ?_
    refine ax_imul 59 dX8_comes_58 rfl ?_
    refine ax_iload 61 dX8_comes_59 4 rfl rfl ?_
    refine ax_iload_n 62 dX8_comes_61 rfl 3 rfl rfl ?_
    refine ax_iadd 63 dX8_comes_62 rfl ?_
    refine ax_iconst (v := 1) 64 dX8_comes_63 (by decide) rfl ?_
    refine ax_isub 65 dX8_comes_64 rfl ?_
    refine ax_iload_n 66 dX8_comes_65 rfl 3 rfl rfl ?_
    obtain ⟨h2, hf⟩ := ux_gd_e hf
    refine ax_idiv 67 dX8_comes_66 (ux_nz_of h2) rfl ?_
    refine ax_iadd 68 dX8_comes_67 rfl ?_
    exact ax_iret dX8_comes_68 hf
  · have hf := ux_iff c1 hf
    refine ax_iload 17 dX8_comes_15 4 rfl rfl ?_
    refine ax_aload_n 18 dX8_comes_17 rfl 0 rfl rfl ?_
    refine ax_getr 54 21 dX8_comes_18 fg_X8_7 rfl (by decide) rfl ?_
    refine ax_iload 23 dX8_comes_21 5 rfl rfl ?_
    obtain ⟨h3, hf⟩ := ux_gd_e hf
    refine ax_iald 24 dX8_comes_23 (by decide) rfl h3 rfl ?_
    refine ax_aload_n 25 dX8_comes_24 rfl 0 rfl rfl ?_
    refine ax_getr 62 28 dX8_comes_25 fg_X8_44 rfl (by decide) rfl ?_
    refine ax_iload 30 dX8_comes_28 5 rfl rfl ?_
    obtain ⟨h4, hf⟩ := ux_gd_e hf
    refine ax_iald 31 dX8_comes_30 (by decide) rfl h4 rfl ?_
    refine ax_iadd 32 dX8_comes_31 rfl ?_
    refine ax_aload_n 33 dX8_comes_32 rfl 0 rfl rfl ?_
    refine ax_getr 58 36 dX8_comes_33 fg_X8_22 rfl (by decide) rfl ?_
    refine ax_bipush (v := 8) 38 dX8_comes_36 (by decide) rfl ?_
    refine ax_iload_n 39 dX8_comes_38 rfl 1 rfl rfl ?_
    refine ax_imul 40 dX8_comes_39 rfl ?_
    refine ax_iload 42 dX8_comes_40 5 rfl rfl ?_
    refine ax_iadd 43 dX8_comes_42 rfl ?_
    obtain ⟨h5, hf⟩ := ux_gd_e hf
    refine ax_iald 44 dX8_comes_43 (by decide) rfl h5 rfl ?_
    refine ax_imul 45 dX8_comes_44 rfl ?_
    refine ax_iadd 46 dX8_comes_45 rfl ?_
    refine ax_istore 48 dX8_comes_46 (by decide) [1, 2, 3, 4, 0, 5] [(0, .ref (ux_a G 8)), (1, .int p0), (2, .int p1), (3, .int p2), (4, .int (x4 + (((S.1 54 x5.toNatClampNeg) + (S.1 62 x5.toNatClampNeg)) * (S.1 58 (((8 : Int32) * p0) + x5).toNatClampNeg)))), (5, .int x5)] rfl rfl ?_
    refine ax_iinc (v := x5 + 1) 51 dX8_comes_48 5 rfl rfl (by decide) [1, 2, 3, 4, 5, 0] [(0, .ref (ux_a G 8)), (1, .int p0), (2, .int p1), (3, .int p2), (4, .int (x4 + (((S.1 54 x5.toNatClampNeg) + (S.1 62 x5.toNatClampNeg)) * (S.1 58 (((8 : Int32) * p0) + x5).toNatClampNeg)))), (5, .int (x5 + 1))] rfl rfl ?_
    refine ax_goto 6 dX8_comes_51 (by decide) ?_
    exact ax_sub [0, 1, 2, 3, 4, 5] rfl (hk6 (x4 + (((S.1 54 x5.toNatClampNeg) + (S.1 62 x5.toNatClampNeg)) * (S.1 58 (((8 : Int32) * p0) + x5).toNatClampNeg))) (x5 + 1) S hf)
def f_X8_comes (n : Nat) (S : ux_S) (p0 : Int32) (p1 : Int32) (p2 : Int32) : Option (Int32 × ux_S) :=
  ux_lp2 (b_X8_comes_6 n p0 p1 p2) n 0 0 S
set_option maxHeartbeats 2000000 in
set_option maxRecDepth 10000 in
theorem m_X8_comes {l : Launch} {G : ux_G} {n : Nat} {S : ux_S} {p0 : Int32} {p1 : Int32} {p2 : Int32} {r : Int32} {Z : ux_S} (hf : f_X8_comes n S p0 p1 p2 = some (r, Z)) : ux_M l G yX8_comes cX8_comes 6 (some .int) 1 [.ref (ux_a G 8), .int p0, .int p1, .int p2] S (some (.int r)) Z := by
  refine ux_of (by decide) (Nat.le_of_ble_eq_true rfl) ?_
  show ux_At l G RX8 cX8_comes 6 (some .int) 1 (some (.int r)) Z 0 [(0, .ref (ux_a G 8)), (1, .int p0), (2, .int p1), (3, .int p2)] [] S
  unfold f_X8_comes at hf
  refine ax_iconst (v := 0) 1 dX8_comes_0 (by decide) rfl ?_
  refine ax_istore 3 dX8_comes_1 (by decide) [1, 2, 3, 4, 0] [(0, .ref (ux_a G 8)), (1, .int p0), (2, .int p1), (3, .int p2), (4, .int 0)] rfl rfl ?_
  refine ax_iconst (v := 0) 4 dX8_comes_3 (by decide) rfl ?_
  refine ax_istore 6 dX8_comes_4 (by decide) [1, 2, 3, 4, 5, 0] [(0, .ref (ux_a G 8)), (1, .int p0), (2, .int p1), (3, .int p2), (4, .int 0), (5, .int 0)] rfl rfl ?_
  exact ax_sub [0, 1, 2, 3, 4, 5] rfl (ux_lp2_w (Pr := fun x4 x5 S => ux_At l G RX8 cX8_comes 6 (some .int) 1 (some (.int r)) Z 6 [(0, .ref (ux_a G 8)), (1, .int p0), (2, .int p1), (3, .int p2), (4, .int x4), (5, .int x5)] [] S) (fun k6 hk6 => w_X8_comes_6 k6 hk6) n 0 0 S hf)
def b_X8_clearAdded_2 (n : Nat) (k2 : Int32 → ux_S → Option ux_S) (x1 : Int32) (S : ux_S) : Option ux_S :=
  if 8 ≤ x1 then (some S) else (ux_gd (ux_ib x1 8) (k2 (x1 + 1) (ux_i S 62 x1.toNatClampNeg 0)))
set_option maxHeartbeats 2000000 in
set_option maxRecDepth 10000 in
theorem w_X8_clearAdded_2 {l : Launch} {G : ux_G} {n : Nat} {Z : ux_S} (k2 : Int32 → ux_S → Option ux_S) (hk2 : ∀ (x1 : Int32) (S : ux_S), k2 x1 S = some Z → ux_At l G RX8 cX8_clearAdded 2 none 1 none Z 2 [(0, .ref (ux_a G 8)), (1, .int x1)] [] S) : ∀ (x1 : Int32) (S : ux_S), b_X8_clearAdded_2 n k2 x1 S = some Z → ux_At l G RX8 cX8_clearAdded 2 none 1 none Z 2 [(0, .ref (ux_a G 8)), (1, .int x1)] [] S := by
  intro x1 S hf
  unfold b_X8_clearAdded_2 at hf
  refine ax_iload_n 3 dX8_clearAdded_2 rfl 1 rfl rfl ?_
  refine ax_bipush (v := 8) 5 dX8_clearAdded_3 (by decide) rfl ?_
  refine ax_icmp_ge 21 8 dX8_clearAdded_5 (by decide) rfl (fun c1 => ?_) (fun c1 => ?_)
  · have hf := ux_ift c1 hf
    exact ax_vret dX8_clearAdded_21 hf
  · have hf := ux_iff c1 hf
    refine ax_aload_n 9 dX8_clearAdded_8 rfl 0 rfl rfl ?_
    refine ax_getr 62 12 dX8_clearAdded_9 fg_X8_44 rfl (by decide) rfl ?_
    refine ax_iload_n 13 dX8_clearAdded_12 rfl 1 rfl rfl ?_
    refine ax_iconst (v := 0) 14 dX8_clearAdded_13 (by decide) rfl ?_
    obtain ⟨h2, hf⟩ := ux_gd_e hf
    refine ax_iast 15 dX8_clearAdded_14 (by decide) rfl h2 rfl ?_
    refine ax_iinc (v := x1 + 1) 18 dX8_clearAdded_15 1 rfl rfl (by decide) [1, 0] [(0, .ref (ux_a G 8)), (1, .int (x1 + 1))] rfl rfl ?_
    refine ax_goto 2 dX8_clearAdded_18 (by decide) ?_
    exact ax_sub [0, 1] rfl (hk2 (x1 + 1) (ux_i S 62 x1.toNatClampNeg 0) hf)
def f_X8_clearAdded (n : Nat) (S : ux_S) : Option ux_S :=
  ux_lp1 (b_X8_clearAdded_2 n) n 0 S
set_option maxHeartbeats 2000000 in
set_option maxRecDepth 10000 in
theorem m_X8_clearAdded {l : Launch} {G : ux_G} {n : Nat} {S : ux_S} {Z : ux_S} (hf : f_X8_clearAdded n S = some Z) : ux_M l G yX8_clearAdded cX8_clearAdded 2 none 1 [.ref (ux_a G 8)] S none Z := by
  refine ux_of (by decide) (Nat.le_of_ble_eq_true rfl) ?_
  show ux_At l G RX8 cX8_clearAdded 2 none 1 none Z 0 [(0, .ref (ux_a G 8))] [] S
  unfold f_X8_clearAdded at hf
  refine ax_iconst (v := 0) 1 dX8_clearAdded_0 (by decide) rfl ?_
  refine ax_istore_n 2 dX8_clearAdded_1 rfl (by decide) [1, 0] [(0, .ref (ux_a G 8)), (1, .int 0)] rfl rfl ?_
  exact ax_sub [0, 1] rfl (ux_lp1_w (Pr := fun x1 S => ux_At l G RX8 cX8_clearAdded 2 none 1 none Z 2 [(0, .ref (ux_a G 8)), (1, .int x1)] [] S) (fun k2 hk2 => w_X8_clearAdded_2 k2 hk2) n 0 S hf)
def f_X8_into (n : Nat) (S : ux_S) (p0 : Int32) : Option (Int32 × ux_S) :=
  ux_bv (f_X8_clearAdded n S ) (fun S2 => ux_bi (f_X8_isRack S2 p0) (fun r6 S5 => if r6 = 0 then (some ((-1), S5)) else (ux_bi (f_X8_comes n S5 p0 (S5.1 8 6) (S5.1 8 7)) (fun r10 S9 => some (r10, S9)))))
set_option maxHeartbeats 2000000 in
set_option maxRecDepth 10000 in
theorem m_X8_into {l : Launch} {G : ux_G} {n : Nat} {S : ux_S} {p0 : Int32} {r : Int32} {Z : ux_S} (hf : f_X8_into n S p0 = some (r, Z)) : ux_M l G yX8_into cX8_into 2 (some .int) 3 [.ref (ux_a G 8), .int p0] S (some (.int r)) Z := by
  refine ux_of (by decide) (Nat.le_of_ble_eq_true rfl) ?_
  show ux_At l G RX8 cX8_into 2 (some .int) 3 (some (.int r)) Z 0 [(0, .ref (ux_a G 8)), (1, .int p0)] [] S
  unfold f_X8_into at hf
  refine ax_aload_n 1 dX8_into_0 rfl 0 rfl rfl ?_
  obtain ⟨S2, e1, hf⟩ := ux_bv_e hf
  refine ax_callVv 4 [] dX8_into_1 fv_X8_133 (m_X8_clearAdded e1) (by decide) rfl rfl (by decide) rfl rfl (Nat.le_of_ble_eq_true rfl) rfl ?_
  refine ax_aload_n 5 dX8_into_4 rfl 0 rfl rfl ?_
  refine ax_iload_n 6 dX8_into_5 rfl 1 rfl rfl ?_
  obtain ⟨r6, S5, e4, hf⟩ := ux_bi_e hf
  refine ax_callVi 9 [.int p0] dX8_into_6 fv_X8_115 (m_X8_isRack e4) (by decide) rfl rfl (by decide) rfl rfl (Nat.le_of_ble_eq_true rfl) rfl ?_
  refine ax_if_eq 28 12 dX8_into_9 (by decide) rfl (fun c7 => ?_) (fun c7 => ?_)
  · have hf := ux_ift c7 hf
    refine ax_iconst (v := (-1)) 29 dX8_into_28 (by decide) rfl ?_
    exact ax_iret dX8_into_29 hf
  · have hf := ux_iff c7 hf
    refine ax_aload_n 13 dX8_into_12 rfl 0 rfl rfl ?_
    refine ax_iload_n 14 dX8_into_13 rfl 1 rfl rfl ?_
    refine ax_aload_n 15 dX8_into_14 rfl 0 rfl rfl ?_
    refine ax_geti 18 dX8_into_15 fg_X8_25 rfl rfl ?_
    refine ax_aload_n 19 dX8_into_18 rfl 0 rfl rfl ?_
    refine ax_geti 22 dX8_into_19 fg_X8_29 rfl rfl ?_
    obtain ⟨r10, S9, e8, hf⟩ := ux_bi_e hf
    refine ax_callVi 25 [.int p0, .int (S5.1 8 6), .int (S5.1 8 7)] dX8_into_22 fv_X8_136 (m_X8_comes e8) (by decide) rfl rfl (by decide) rfl rfl (Nat.le_of_ble_eq_true rfl) rfl ?_
    refine ax_goto 29 dX8_into_25 (by decide) ?_
    exact ax_iret dX8_into_29 hf
def b_X8_hots_5 (n : Nat) (p0 : Int32) (p1 : Int32) (k5 : Int32 → Int32 → ux_S → Option (Int32 × ux_S)) (x3 : Int32) (x4 : Int32) (S : ux_S) : Option (Int32 × ux_S) :=
  if S.1 8 0 ≤ x4 then (some (x3, S)) else (ux_bi (f_X8_comes n S x4 p0 p1) (fun r4 S3 => ux_gd (ux_ib x4 8) (if r4 ≤ S3.1 55 x4.toNatClampNeg then (k5 (x3 + (0 : Int32)) (x4 + 1) S3) else (k5 (x3 + (1 : Int32)) (x4 + 1) S3))))
set_option maxHeartbeats 2000000 in
set_option maxRecDepth 10000 in
theorem w_X8_hots_5 {l : Launch} {G : ux_G} {n : Nat} {p0 : Int32} {p1 : Int32} {r : Int32} {Z : ux_S} (k5 : Int32 → Int32 → ux_S → Option (Int32 × ux_S)) (hk5 : ∀ (x3 x4 : Int32) (S : ux_S), k5 x3 x4 S = some (r, Z) → ux_At l G RX8 cX8_hots 5 (some .int) 2 (some (.int r)) Z 5 [(0, .ref (ux_a G 8)), (1, .int p0), (2, .int p1), (3, .int x3), (4, .int x4)] [] S) : ∀ (x3 : Int32) (x4 : Int32) (S : ux_S), b_X8_hots_5 n p0 p1 k5 x3 x4 S = some (r, Z) → ux_At l G RX8 cX8_hots 5 (some .int) 2 (some (.int r)) Z 5 [(0, .ref (ux_a G 8)), (1, .int p0), (2, .int p1), (3, .int x3), (4, .int x4)] [] S := by
  intro x3 x4 S hf
  unfold b_X8_hots_5 at hf
  refine ax_iload 7 dX8_hots_5 4 rfl rfl ?_
  refine ax_aload_n 8 dX8_hots_7 rfl 0 rfl rfl ?_
  refine ax_geti 11 dX8_hots_8 fg_X8_112 rfl rfl ?_
  refine ax_icmp_ge 46 14 dX8_hots_11 (by decide) rfl (fun c1 => ?_) (fun c1 => ?_)
  · have hf := ux_ift c1 hf
    refine ax_iload_n 47 dX8_hots_46 rfl 3 rfl rfl ?_
    exact ax_iret dX8_hots_47 hf
  · have hf := ux_iff c1 hf
    refine ax_iload_n 15 dX8_hots_14 rfl 3 rfl rfl ?_
    refine ax_aload_n 16 dX8_hots_15 rfl 0 rfl rfl ?_
    refine ax_iload 18 dX8_hots_16 4 rfl rfl ?_
    refine ax_iload_n 19 dX8_hots_18 rfl 1 rfl rfl ?_
    refine ax_iload_n 20 dX8_hots_19 rfl 2 rfl rfl ?_
    obtain ⟨r4, S3, e2, hf⟩ := ux_bi_e hf
    refine ax_callVi 23 [.int x4, .int p0, .int p1] dX8_hots_20 fv_X8_136 (m_X8_comes e2) (by decide) rfl rfl (by decide) rfl rfl (Nat.le_of_ble_eq_true rfl) rfl ?_
    refine ax_aload_n 24 dX8_hots_23 rfl 0 rfl rfl ?_
    refine ax_getr 55 27 dX8_hots_24 fg_X8_13 rfl (by decide) rfl ?_
    refine ax_iload 29 dX8_hots_27 4 rfl rfl ?_
    obtain ⟨h5, hf⟩ := ux_gd_e hf
    refine ax_iald 30 dX8_hots_29 (by decide) rfl h5 rfl ?_
    refine ax_icmp_le 37 33 dX8_hots_30 (by decide) rfl (fun c6 => ?_) (fun c6 => ?_)
    · have hf := ux_ift c6 hf
      refine ax_iconst (v := 0) 38 dX8_hots_37 (by decide) rfl ?_
      refine ax_iadd 39 dX8_hots_38 rfl ?_
      refine ax_istore_n 40 dX8_hots_39 rfl (by decide) [1, 2, 3, 0, 4] [(0, .ref (ux_a G 8)), (1, .int p0), (2, .int p1), (3, .int (x3 + (0 : Int32))), (4, .int x4)] rfl rfl ?_
      refine ax_iinc (v := x4 + 1) 43 dX8_hots_40 4 rfl rfl (by decide) [1, 2, 3, 4, 0] [(0, .ref (ux_a G 8)), (1, .int p0), (2, .int p1), (3, .int (x3 + (0 : Int32))), (4, .int (x4 + 1))] rfl rfl ?_
      refine ax_goto 5 dX8_hots_43 (by decide) ?_
      exact ax_sub [0, 1, 2, 3, 4] rfl (hk5 (x3 + (0 : Int32)) (x4 + 1) S3 hf)
    · have hf := ux_iff c6 hf
      refine ax_iconst (v := 1) 34 dX8_hots_33 (by decide) rfl ?_
      refine ax_goto 38 dX8_hots_34 (by decide) ?_
      refine ax_iadd 39 dX8_hots_38 rfl ?_
      refine ax_istore_n 40 dX8_hots_39 rfl (by decide) [1, 2, 3, 0, 4] [(0, .ref (ux_a G 8)), (1, .int p0), (2, .int p1), (3, .int (x3 + (1 : Int32))), (4, .int x4)] rfl rfl ?_
      refine ax_iinc (v := x4 + 1) 43 dX8_hots_40 4 rfl rfl (by decide) [1, 2, 3, 4, 0] [(0, .ref (ux_a G 8)), (1, .int p0), (2, .int p1), (3, .int (x3 + (1 : Int32))), (4, .int (x4 + 1))] rfl rfl ?_
      refine ax_goto 5 dX8_hots_43 (by decide) ?_
      exact ax_sub [0, 1, 2, 3, 4] rfl (hk5 (x3 + (1 : Int32)) (x4 + 1) S3 hf)
def f_X8_hots (n : Nat) (S : ux_S) (p0 : Int32) (p1 : Int32) : Option (Int32 × ux_S) :=
  ux_lp2 (b_X8_hots_5 n p0 p1) n 0 0 S
set_option maxHeartbeats 2000000 in
set_option maxRecDepth 10000 in
theorem m_X8_hots {l : Launch} {G : ux_G} {n : Nat} {S : ux_S} {p0 : Int32} {p1 : Int32} {r : Int32} {Z : ux_S} (hf : f_X8_hots n S p0 p1 = some (r, Z)) : ux_M l G yX8_hots cX8_hots 5 (some .int) 2 [.ref (ux_a G 8), .int p0, .int p1] S (some (.int r)) Z := by
  refine ux_of (by decide) (Nat.le_of_ble_eq_true rfl) ?_
  show ux_At l G RX8 cX8_hots 5 (some .int) 2 (some (.int r)) Z 0 [(0, .ref (ux_a G 8)), (1, .int p0), (2, .int p1)] [] S
  unfold f_X8_hots at hf
  refine ax_iconst (v := 0) 1 dX8_hots_0 (by decide) rfl ?_
  refine ax_istore_n 2 dX8_hots_1 rfl (by decide) [1, 2, 3, 0] [(0, .ref (ux_a G 8)), (1, .int p0), (2, .int p1), (3, .int 0)] rfl rfl ?_
  refine ax_iconst (v := 0) 3 dX8_hots_2 (by decide) rfl ?_
  refine ax_istore 5 dX8_hots_3 (by decide) [1, 2, 3, 4, 0] [(0, .ref (ux_a G 8)), (1, .int p0), (2, .int p1), (3, .int 0), (4, .int 0)] rfl rfl ?_
  exact ax_sub [0, 1, 2, 3, 4] rfl (ux_lp2_w (Pr := fun x3 x4 S => ux_At l G RX8 cX8_hots 5 (some .int) 2 (some (.int r)) Z 5 [(0, .ref (ux_a G 8)), (1, .int p0), (2, .int p1), (3, .int x3), (4, .int x4)] [] S) (fun k5 hk5 => w_X8_hots_5 k5 hk5) n 0 0 S hf)
def b_X8_hot_118 (n : Nat) (p0 : Int32) (k40 : Int32 → Int32 → ux_S → Option (Int32 × ux_S)) (x3 : Int32) (S : ux_S) : Option (Int32 × ux_S) :=
  k40 x3 (x3 + 1) S
set_option maxHeartbeats 2000000 in
set_option maxRecDepth 10000 in
theorem w_X8_hot_118 {l : Launch} {G : ux_G} {n : Nat} {p0 : Int32} {r : Int32} {Z : ux_S} (k40 : Int32 → Int32 → ux_S → Option (Int32 × ux_S)) (hk40 : ∀ (x2 x3 : Int32) (S : ux_S), k40 x2 x3 S = some (r, Z) → ux_At l G RX8 cX8_hot 5 (some .int) 3 (some (.int r)) Z 40 [(0, .ref (ux_a G 8)), (1, .int p0), (2, .int x2), (3, .int x3)] [] S) : ∀ (x3 : Int32) (S : ux_S), b_X8_hot_118 n p0 k40 x3 S = some (r, Z) → ux_At l G RX8 cX8_hot 5 (some .int) 3 (some (.int r)) Z 118 [(0, .ref (ux_a G 8)), (1, .int p0), (3, .int x3)] [] S := by
  intro x3 S hf
  unfold b_X8_hot_118 at hf
  refine ax_iload_n 119 dX8_hot_118 rfl 2 rfl rfl ?_
  refine ax_goto 123 dX8_hot_119 (by decide) ?_
  refine ax_istore_n 124 dX8_hot_123 rfl (by decide) [1, 2, 0, 3] [(0, .ref (ux_a G 8)), (1, .int p0), (2, .int x3), (3, .int x3)] rfl rfl ?_
  refine ax_iinc (v := x3 + 1) 127 dX8_hot_124 3 rfl rfl (by decide) [1, 2, 3, 0] [(0, .ref (ux_a G 8)), (1, .int p0), (2, .int x3), (3, .int (x3 + 1))] rfl rfl ?_
  refine ax_goto 40 dX8_hot_127 (by decide) ?_
  exact ax_sub [0, 1, 2, 3] rfl (hk40 x3 (x3 + 1) S hf)
def b_X8_hot_82 (n : Nat) (p0 : Int32) (k40 : Int32 → Int32 → ux_S → Option (Int32 × ux_S)) (x2 : Int32) (x3 : Int32) (x4 : Int32) (S : ux_S) : Option (Int32 × ux_S) :=
  if p0 = 2 then (if x2 = (-4) then (b_X8_hot_118 n p0 k40 x3 S) else (ux_gd (ux_ib x2 8) (ux_bi (f_X8_comes n S x2 (S.1 8 6) (S.1 8 7)) (fun r20 S19 => if (S.1 55 x2.toNatClampNeg) - r20 ≤ x4 then (k40 x2 (x3 + 1) S19) else (b_X8_hot_118 n p0 k40 x3 S19))))) else (k40 x2 (x3 + 1) S)
set_option maxHeartbeats 2000000 in
set_option maxRecDepth 10000 in
theorem w_X8_hot_82 {l : Launch} {G : ux_G} {n : Nat} {p0 : Int32} {r : Int32} {Z : ux_S} (k40 : Int32 → Int32 → ux_S → Option (Int32 × ux_S)) (hk40 : ∀ (x2 x3 : Int32) (S : ux_S), k40 x2 x3 S = some (r, Z) → ux_At l G RX8 cX8_hot 5 (some .int) 3 (some (.int r)) Z 40 [(0, .ref (ux_a G 8)), (1, .int p0), (2, .int x2), (3, .int x3)] [] S) : ∀ (x2 : Int32) (x3 : Int32) (x4 : Int32) (S : ux_S), b_X8_hot_82 n p0 k40 x2 x3 x4 S = some (r, Z) → ux_At l G RX8 cX8_hot 5 (some .int) 3 (some (.int r)) Z 82 [(0, .ref (ux_a G 8)), (1, .int p0), (2, .int x2), (3, .int x3), (4, .int x4)] [] S := by
  intro x2 x3 x4 S hf
  unfold b_X8_hot_82 at hf
  refine ax_iload_n 83 dX8_hot_82 rfl 1 rfl rfl ?_
  refine ax_iconst (v := 2) 84 dX8_hot_83 (by decide) rfl ?_
  refine ax_icmp_ne 122 87 dX8_hot_84 (by decide) rfl (fun c15 => ?_) (fun c15 => ?_)
  · have hf := ux_iff c15 hf
    refine ax_iload_n 123 dX8_hot_122 rfl 2 rfl rfl ?_
    refine ax_istore_n 124 dX8_hot_123 rfl (by decide) [1, 2, 0, 3] [(0, .ref (ux_a G 8)), (1, .int p0), (2, .int x2), (3, .int x3)] rfl rfl ?_
    refine ax_iinc (v := x3 + 1) 127 dX8_hot_124 3 rfl rfl (by decide) [1, 2, 3, 0] [(0, .ref (ux_a G 8)), (1, .int p0), (2, .int x2), (3, .int (x3 + 1))] rfl rfl ?_
    refine ax_goto 40 dX8_hot_127 (by decide) ?_
    exact ax_sub [0, 1, 2, 3] rfl (hk40 x2 (x3 + 1) S hf)
  · have hf := ux_ift c15 hf
    refine ax_iload_n 88 dX8_hot_87 rfl 2 rfl rfl ?_
    refine ax_bipush (v := (-4)) 90 dX8_hot_88 (by decide) rfl ?_
    refine ax_icmp_eq 118 93 dX8_hot_90 (by decide) rfl (fun c16 => ?_) (fun c16 => ?_)
    · have hf := ux_ift c16 hf
      exact ax_sub [0, 1, 3] rfl (w_X8_hot_118 k40 hk40 x3 S hf)
    · have hf := ux_iff c16 hf
      refine ax_iload 95 dX8_hot_93 4 rfl rfl ?_
      refine ax_aload_n 96 dX8_hot_95 rfl 0 rfl rfl ?_
      refine ax_getr 55 99 dX8_hot_96 fg_X8_13 rfl (by decide) rfl ?_
      refine ax_iload_n 100 dX8_hot_99 rfl 2 rfl rfl ?_
      obtain ⟨h17, hf⟩ := ux_gd_e hf
      refine ax_iald 101 dX8_hot_100 (by decide) rfl h17 rfl ?_
      refine ax_aload_n 102 dX8_hot_101 rfl 0 rfl rfl ?_
      refine ax_iload_n 103 dX8_hot_102 rfl 2 rfl rfl ?_
      refine ax_aload_n 104 dX8_hot_103 rfl 0 rfl rfl ?_
      refine ax_geti 107 dX8_hot_104 fg_X8_25 rfl rfl ?_
      refine ax_aload_n 108 dX8_hot_107 rfl 0 rfl rfl ?_
      refine ax_geti 111 dX8_hot_108 fg_X8_29 rfl rfl ?_
      obtain ⟨r20, S19, e18, hf⟩ := ux_bi_e hf
      refine ax_callVi 114 [.int x2, .int (S.1 8 6), .int (S.1 8 7)] dX8_hot_111 fv_X8_136 (m_X8_comes e18) (by decide) rfl rfl (by decide) rfl rfl (Nat.le_of_ble_eq_true rfl) rfl ?_
      refine ax_isub 115 dX8_hot_114 rfl ?_
      refine ax_icmp_ge 122 118 dX8_hot_115 (by decide) rfl (fun c21 => ?_) (fun c21 => ?_)
      · have hf := ux_ift c21 hf
        refine ax_iload_n 123 dX8_hot_122 rfl 2 rfl rfl ?_
        refine ax_istore_n 124 dX8_hot_123 rfl (by decide) [1, 2, 0, 3] [(0, .ref (ux_a G 8)), (1, .int p0), (2, .int x2), (3, .int x3)] rfl rfl ?_
        refine ax_iinc (v := x3 + 1) 127 dX8_hot_124 3 rfl rfl (by decide) [1, 2, 3, 0] [(0, .ref (ux_a G 8)), (1, .int p0), (2, .int x2), (3, .int (x3 + 1))] rfl rfl ?_
        refine ax_goto 40 dX8_hot_127 (by decide) ?_
        exact ax_sub [0, 1, 2, 3] rfl (hk40 x2 (x3 + 1) S19 hf)
      · have hf := ux_iff c21 hf
        exact ax_sub [0, 1, 3] rfl (w_X8_hot_118 k40 hk40 x3 S19 hf)
def b_X8_hot_40 (n : Nat) (p0 : Int32) (k40 : Int32 → Int32 → ux_S → Option (Int32 × ux_S)) (x2 : Int32) (x3 : Int32) (S : ux_S) : Option (Int32 × ux_S) :=
  if S.1 8 0 ≤ x3 then (some (x2, S)) else (ux_gd (ux_ib x3 8) (ux_bi (f_X8_comes n S x3 (S.1 8 6) (S.1 8 7)) (fun r13 S12 => if p0 = 1 then (if 0 ≤ (S.1 55 x3.toNatClampNeg) - r13 then (b_X8_hot_82 n p0 k40 x2 x3 ((S.1 55 x3.toNatClampNeg) - r13) S12) else (some (x3, S12))) else (b_X8_hot_82 n p0 k40 x2 x3 ((S.1 55 x3.toNatClampNeg) - r13) S12))))
set_option maxHeartbeats 2000000 in
set_option maxRecDepth 10000 in
theorem w_X8_hot_40 {l : Launch} {G : ux_G} {n : Nat} {p0 : Int32} {r : Int32} {Z : ux_S} (k40 : Int32 → Int32 → ux_S → Option (Int32 × ux_S)) (hk40 : ∀ (x2 x3 : Int32) (S : ux_S), k40 x2 x3 S = some (r, Z) → ux_At l G RX8 cX8_hot 5 (some .int) 3 (some (.int r)) Z 40 [(0, .ref (ux_a G 8)), (1, .int p0), (2, .int x2), (3, .int x3)] [] S) : ∀ (x2 : Int32) (x3 : Int32) (S : ux_S), b_X8_hot_40 n p0 k40 x2 x3 S = some (r, Z) → ux_At l G RX8 cX8_hot 5 (some .int) 3 (some (.int r)) Z 40 [(0, .ref (ux_a G 8)), (1, .int p0), (2, .int x2), (3, .int x3)] [] S := by
  intro x2 x3 S hf
  unfold b_X8_hot_40 at hf
  refine ax_iload_n 41 dX8_hot_40 rfl 3 rfl rfl ?_
  refine ax_aload_n 42 dX8_hot_41 rfl 0 rfl rfl ?_
  refine ax_geti 45 dX8_hot_42 fg_X8_112 rfl rfl ?_
  refine ax_icmp_ge 130 48 dX8_hot_45 (by decide) rfl (fun c9 => ?_) (fun c9 => ?_)
  · have hf := ux_ift c9 hf
    refine ax_iload_n 131 dX8_hot_130 rfl 2 rfl rfl ?_
    exact ax_iret dX8_hot_131 hf
  · have hf := ux_iff c9 hf
    refine ax_aload_n 49 dX8_hot_48 rfl 0 rfl rfl ?_
    refine ax_getr 55 52 dX8_hot_49 fg_X8_13 rfl (by decide) rfl ?_
    refine ax_iload_n 53 dX8_hot_52 rfl 3 rfl rfl ?_
    obtain ⟨h10, hf⟩ := ux_gd_e hf
    refine ax_iald 54 dX8_hot_53 (by decide) rfl h10 rfl ?_
    refine ax_aload_n 55 dX8_hot_54 rfl 0 rfl rfl ?_
    refine ax_iload_n 56 dX8_hot_55 rfl 3 rfl rfl ?_
    refine ax_aload_n 57 dX8_hot_56 rfl 0 rfl rfl ?_
    refine ax_geti 60 dX8_hot_57 fg_X8_25 rfl rfl ?_
    refine ax_aload_n 61 dX8_hot_60 rfl 0 rfl rfl ?_
    refine ax_geti 64 dX8_hot_61 fg_X8_29 rfl rfl ?_
    obtain ⟨r13, S12, e11, hf⟩ := ux_bi_e hf
    refine ax_callVi 67 [.int x3, .int (S.1 8 6), .int (S.1 8 7)] dX8_hot_64 fv_X8_136 (m_X8_comes e11) (by decide) rfl rfl (by decide) rfl rfl (Nat.le_of_ble_eq_true rfl) rfl ?_
    refine ax_isub 68 dX8_hot_67 rfl ?_
    refine ax_istore 70 dX8_hot_68 (by decide) [1, 2, 3, 4, 0] [(0, .ref (ux_a G 8)), (1, .int p0), (2, .int x2), (3, .int x3), (4, .int ((S.1 55 x3.toNatClampNeg) - r13))] rfl rfl ?_
    refine ax_iload_n 71 dX8_hot_70 rfl 1 rfl rfl ?_
    refine ax_iconst (v := 1) 72 dX8_hot_71 (by decide) rfl ?_
    refine ax_icmp_ne 82 75 dX8_hot_72 (by decide) rfl (fun c14 => ?_) (fun c14 => ?_)
    · have hf := ux_iff c14 hf
      exact ax_sub [0, 1, 2, 3, 4] rfl (w_X8_hot_82 k40 hk40 x2 x3 ((S.1 55 x3.toNatClampNeg) - r13) S12 hf)
    · have hf := ux_ift c14 hf
      refine ax_iload 77 dX8_hot_75 4 rfl rfl ?_
      refine ax_if_ge 82 80 dX8_hot_77 (by decide) rfl (fun c22 => ?_) (fun c22 => ?_)
      · have hf := ux_ift c22 hf
        exact ax_sub [0, 1, 2, 3, 4] rfl (w_X8_hot_82 k40 hk40 x2 x3 ((S.1 55 x3.toNatClampNeg) - r13) S12 hf)
      · have hf := ux_iff c22 hf
        refine ax_iload_n 81 dX8_hot_80 rfl 3 rfl rfl ?_
        exact ax_iret dX8_hot_81 hf
def f_X8_hot (n : Nat) (S : ux_S) (p0 : Int32) : Option (Int32 × ux_S) :=
  ux_bv (f_X8_clearAdded n S ) (fun S2 => ux_bi (f_X8_in S2 ((p0 : Int32).toInt64) 0 2) (fun r6 S5 => if r6 = 0 then (some ((-1), S5)) else (if p0 = 0 then (ux_bi (f_X8_hots n S5 (S5.1 8 6) (S5.1 8 7)) (fun r25 S24 => some (r25, S24))) else (ux_lp2 (b_X8_hot_40 n p0) n (-4) 0 S5))))
set_option maxHeartbeats 2000000 in
set_option maxRecDepth 10000 in
theorem m_X8_hot {l : Launch} {G : ux_G} {n : Nat} {S : ux_S} {p0 : Int32} {r : Int32} {Z : ux_S} (hf : f_X8_hot n S p0 = some (r, Z)) : ux_M l G yX8_hot cX8_hot 5 (some .int) 3 [.ref (ux_a G 8), .int p0] S (some (.int r)) Z := by
  refine ux_of (by decide) (Nat.le_of_ble_eq_true rfl) ?_
  show ux_At l G RX8 cX8_hot 5 (some .int) 3 (some (.int r)) Z 0 [(0, .ref (ux_a G 8)), (1, .int p0)] [] S
  unfold f_X8_hot at hf
  refine ax_aload_n 1 dX8_hot_0 rfl 0 rfl rfl ?_
  obtain ⟨S2, e1, hf⟩ := ux_bv_e hf
  refine ax_callVv 4 [] dX8_hot_1 fv_X8_133 (m_X8_clearAdded e1) (by decide) rfl rfl (by decide) rfl rfl (Nat.le_of_ble_eq_true rfl) rfl ?_
  refine ax_iload_n 5 dX8_hot_4 rfl 1 rfl rfl ?_
  refine ax_i2l 6 dX8_hot_5 rfl ?_
  refine ax_lconst (v := 0) 7 dX8_hot_6 (by decide) rfl ?_
  refine ax_ldc2 10 dX8_hot_7 fc_X8_123 rfl ?_
  obtain ⟨r6, S5, e4, hf⟩ := ux_bi_e hf
  refine ax_callSi 13 [.long ((p0 : Int32).toInt64), .long 0, .long 2] dX8_hot_10 fs_X8_102 (m_X8_in e4) (by decide) rfl rfl (Nat.le_of_ble_eq_true rfl) rfl ?_
  refine ax_if_ne 18 16 dX8_hot_13 (by decide) rfl (fun c7 => ?_) (fun c7 => ?_)
  · have hf := ux_iff c7 hf
    refine ax_iload_n 19 dX8_hot_18 rfl 1 rfl rfl ?_
    refine ax_if_ne 35 22 dX8_hot_19 (by decide) rfl (fun c8 => ?_) (fun c8 => ?_)
    · have hf := ux_iff c8 hf
      refine ax_bipush (v := (-4)) 37 dX8_hot_35 (by decide) rfl ?_
      refine ax_istore_n 38 dX8_hot_37 rfl (by decide) [1, 2, 0] [(0, .ref (ux_a G 8)), (1, .int p0), (2, .int (-4))] rfl rfl ?_
      refine ax_iconst (v := 0) 39 dX8_hot_38 (by decide) rfl ?_
      refine ax_istore_n 40 dX8_hot_39 rfl (by decide) [1, 2, 3, 0] [(0, .ref (ux_a G 8)), (1, .int p0), (2, .int (-4)), (3, .int 0)] rfl rfl ?_
      exact ax_sub [0, 1, 2, 3] rfl (ux_lp2_w (Pr := fun x2 x3 S => ux_At l G RX8 cX8_hot 5 (some .int) 3 (some (.int r)) Z 40 [(0, .ref (ux_a G 8)), (1, .int p0), (2, .int x2), (3, .int x3)] [] S) (fun k40 hk40 => w_X8_hot_40 k40 hk40) n (-4) 0 S5 hf)
    · have hf := ux_ift c8 hf
      refine ax_aload_n 23 dX8_hot_22 rfl 0 rfl rfl ?_
      refine ax_aload_n 24 dX8_hot_23 rfl 0 rfl rfl ?_
      refine ax_geti 27 dX8_hot_24 fg_X8_25 rfl rfl ?_
      refine ax_aload_n 28 dX8_hot_27 rfl 0 rfl rfl ?_
      refine ax_geti 31 dX8_hot_28 fg_X8_29 rfl rfl ?_
      obtain ⟨r25, S24, e23, hf⟩ := ux_bi_e hf
      refine ax_callVi 34 [.int (S5.1 8 6), .int (S5.1 8 7)] dX8_hot_31 fv_X8_140 (m_X8_hots e23) (by decide) rfl rfl (by decide) rfl rfl (Nat.le_of_ble_eq_true rfl) rfl ?_
      exact ax_iret dX8_hot_34 hf
  · have hf := ux_ift c7 hf
    refine ax_iconst (v := (-1)) 17 dX8_hot_16 (by decide) rfl ?_
    exact ax_iret dX8_hot_17 hf
def b_X8_powerOf_17 (n : Nat) (p0 : Int32) (p1 : Int32) (k17 : Int32 → Int32 → Int32 → ux_S → Option (Int32 × ux_S)) (x3 : Int32) (x4 : Int32) (x5 : Int32) (S : ux_S) : Option (Int32 × ux_S) :=
  if S.1 8 0 ≤ x5 then (ux_gd (ux_ib (p0 - (10 : Int32)) 21) (some (x3 + (((x4 * (S.1 59 (p0 - (10 : Int32)).toNatClampNeg)) + (999 : Int32)) / (1000 : Int32)), S))) else (ux_gd (ux_ib x5 8) (k17 x3 (x4 + (S.1 54 x5.toNatClampNeg)) (x5 + 1) S))
set_option maxHeartbeats 2000000 in
set_option maxRecDepth 10000 in
theorem w_X8_powerOf_17 {l : Launch} {G : ux_G} {n : Nat} {p0 : Int32} {p1 : Int32} {r : Int32} {Z : ux_S} (k17 : Int32 → Int32 → Int32 → ux_S → Option (Int32 × ux_S)) (hk17 : ∀ (x3 x4 x5 : Int32) (S : ux_S), k17 x3 x4 x5 S = some (r, Z) → ux_At l G RX8 cX8_powerOf 6 (some .int) 1 (some (.int r)) Z 17 [(0, .ref (ux_a G 8)), (1, .int p0), (3, .int x3), (4, .int x4), (5, .int x5)] [] S) : ∀ (x3 : Int32) (x4 : Int32) (x5 : Int32) (S : ux_S), b_X8_powerOf_17 n p0 p1 k17 x3 x4 x5 S = some (r, Z) → ux_At l G RX8 cX8_powerOf 6 (some .int) 1 (some (.int r)) Z 17 [(0, .ref (ux_a G 8)), (1, .int p0), (3, .int x3), (4, .int x4), (5, .int x5)] [] S := by
  intro x3 x4 x5 S hf
  unfold b_X8_powerOf_17 at hf
  refine ax_iload 19 dX8_powerOf_17 4 rfl rfl ?_
  refine ax_aload_n 20 dX8_powerOf_19 rfl 0 rfl rfl ?_
  refine ax_geti 23 dX8_powerOf_20 fg_X8_112 rfl rfl ?_
  refine ax_icmp_ge 44 26 dX8_powerOf_23 (by decide) rfl (fun c1 => ?_) (fun c1 => ?_)
  · have hf := ux_ift c1 hf
    refine ax_iload_n 45 dX8_powerOf_44 rfl 2 rfl rfl ?_
    refine ax_iload 47 dX8_powerOf_45 3 rfl rfl ?_
    refine ax_aload_n 48 dX8_powerOf_47 rfl 0 rfl rfl ?_
    refine ax_getr 59 51 dX8_powerOf_48 fg_X8_32 rfl (by decide) rfl ?_
    refine ax_iload_n 52 dX8_powerOf_51 rfl 1 rfl rfl ?_
    refine ax_bipush (v := 10) 54 dX8_powerOf_52 (by decide) rfl ?_
    refine ax_isub 55 dX8_powerOf_54 rfl ?_
    obtain ⟨h2, hf⟩ := ux_gd_e hf
    refine ax_iald 56 dX8_powerOf_55 (by decide) rfl h2 rfl ?_
    refine ax_imul 57 dX8_powerOf_56 rfl ?_
    refine ax_sipush (v := 999) 60 dX8_powerOf_57 (by decide) rfl ?_
    refine ax_iadd 61 dX8_powerOf_60 rfl ?_
    refine ax_sipush (v := 1000) 64 dX8_powerOf_61 (by decide) rfl ?_
    refine ax_idiv 65 dX8_powerOf_64 (by decide) rfl ?_
    refine ax_iadd 66 dX8_powerOf_65 rfl ?_
    exact ax_iret dX8_powerOf_66 hf
  · have hf := ux_iff c1 hf
    refine ax_iload 28 dX8_powerOf_26 3 rfl rfl ?_
    refine ax_aload_n 29 dX8_powerOf_28 rfl 0 rfl rfl ?_
    refine ax_getr 54 32 dX8_powerOf_29 fg_X8_7 rfl (by decide) rfl ?_
    refine ax_iload 34 dX8_powerOf_32 4 rfl rfl ?_
    obtain ⟨h3, hf⟩ := ux_gd_e hf
    refine ax_iald 35 dX8_powerOf_34 (by decide) rfl h3 rfl ?_
    refine ax_iadd 36 dX8_powerOf_35 rfl ?_
    refine ax_istore 38 dX8_powerOf_36 (by decide) [1, 2, 3, 0, 4] [(0, .ref (ux_a G 8)), (1, .int p0), (3, .int x3), (4, .int (x4 + (S.1 54 x5.toNatClampNeg))), (5, .int x5)] rfl rfl ?_
    refine ax_iinc (v := x5 + 1) 41 dX8_powerOf_38 4 rfl rfl (by decide) [1, 2, 3, 4, 0] [(0, .ref (ux_a G 8)), (1, .int p0), (3, .int x3), (4, .int (x4 + (S.1 54 x5.toNatClampNeg))), (5, .int (x5 + 1))] rfl rfl ?_
    refine ax_goto 17 dX8_powerOf_41 (by decide) ?_
    exact ax_sub [0, 1, 2, 3, 4] rfl (hk17 x3 (x4 + (S.1 54 x5.toNatClampNeg)) (x5 + 1) S hf)
def f_X8_powerOf (n : Nat) (S : ux_S) (p0 : Int32) (p1 : Int32) : Option (Int32 × ux_S) :=
  ux_lp3 (b_X8_powerOf_17 n p0 p1) n ((((S.1 8 9) * p1) * p1) * p1) ((((S.1 8 9) * p1) * p1) * p1) 0 S
set_option maxHeartbeats 2000000 in
set_option maxRecDepth 10000 in
theorem m_X8_powerOf {l : Launch} {G : ux_G} {n : Nat} {S : ux_S} {p0 : Int32} {p1 : Int32} {r : Int32} {Z : ux_S} (hf : f_X8_powerOf n S p0 p1 = some (r, Z)) : ux_M l G yX8_powerOf cX8_powerOf 6 (some .int) 1 [.ref (ux_a G 8), .int p0, .int p1] S (some (.int r)) Z := by
  refine ux_of (by decide) (Nat.le_of_ble_eq_true rfl) ?_
  show ux_At l G RX8 cX8_powerOf 6 (some .int) 1 (some (.int r)) Z 0 [(0, .ref (ux_a G 8)), (1, .int p0), (2, .int p1)] [] S
  unfold f_X8_powerOf at hf
  refine ax_aload_n 1 dX8_powerOf_0 rfl 0 rfl rfl ?_
  refine ax_geti 4 dX8_powerOf_1 fg_X8_35 rfl rfl ?_
  refine ax_iload_n 5 dX8_powerOf_4 rfl 2 rfl rfl ?_
  refine ax_imul 6 dX8_powerOf_5 rfl ?_
  refine ax_iload_n 7 dX8_powerOf_6 rfl 2 rfl rfl ?_
  refine ax_imul 8 dX8_powerOf_7 rfl ?_
  refine ax_iload_n 9 dX8_powerOf_8 rfl 2 rfl rfl ?_
  refine ax_imul 10 dX8_powerOf_9 rfl ?_
  refine ax_istore_n 11 dX8_powerOf_10 rfl (by decide) [1, 2, 3, 0] [(0, .ref (ux_a G 8)), (1, .int p0), (2, .int p1), (3, .int ((((S.1 8 9) * p1) * p1) * p1))] rfl rfl ?_
  refine ax_iload_n 12 dX8_powerOf_11 rfl 3 rfl rfl ?_
  refine ax_istore 14 dX8_powerOf_12 (by decide) [1, 2, 3, 4, 0] [(0, .ref (ux_a G 8)), (1, .int p0), (2, .int p1), (3, .int ((((S.1 8 9) * p1) * p1) * p1)), (4, .int ((((S.1 8 9) * p1) * p1) * p1))] rfl rfl ?_
  refine ax_iconst (v := 0) 15 dX8_powerOf_14 (by decide) rfl ?_
  refine ax_istore 17 dX8_powerOf_15 (by decide) [1, 2, 3, 4, 5, 0] [(0, .ref (ux_a G 8)), (1, .int p0), (2, .int p1), (3, .int ((((S.1 8 9) * p1) * p1) * p1)), (4, .int ((((S.1 8 9) * p1) * p1) * p1)), (5, .int 0)] rfl rfl ?_
  exact ax_sub [0, 1, 3, 4, 5] rfl (ux_lp3_w (Pr := fun x3 x4 x5 S => ux_At l G RX8 cX8_powerOf 6 (some .int) 1 (some (.int r)) Z 17 [(0, .ref (ux_a G 8)), (1, .int p0), (3, .int x3), (4, .int x4), (5, .int x5)] [] S) (fun k17 hk17 => w_X8_powerOf_17 k17 hk17) n ((((S.1 8 9) * p1) * p1) * p1) ((((S.1 8 9) * p1) * p1) * p1) 0 S hf)
def f_X8_power (n : Nat) (S : ux_S) (p0 : Int32) (p1 : Int32) : Option (Int32 × ux_S) :=
  ux_bi (f_X8_in S ((p0 : Int32).toInt64) 10 30) (fun r3 S2 => if r3 = 0 then (some ((-1), S2)) else (ux_bi (f_X8_in S2 ((p1 : Int32).toInt64) 1 5) (fun r7 S6 => if r7 = 0 then (some ((-1), S6)) else (ux_bi (f_X8_powerOf n S6 p0 p1) (fun r11 S10 => some (r11, S10))))))
set_option maxHeartbeats 2000000 in
set_option maxRecDepth 10000 in
theorem m_X8_power {l : Launch} {G : ux_G} {n : Nat} {S : ux_S} {p0 : Int32} {p1 : Int32} {r : Int32} {Z : ux_S} (hf : f_X8_power n S p0 p1 = some (r, Z)) : ux_M l G yX8_power cX8_power 3 (some .int) 2 [.ref (ux_a G 8), .int p0, .int p1] S (some (.int r)) Z := by
  refine ux_of (by decide) (Nat.le_of_ble_eq_true rfl) ?_
  show ux_At l G RX8 cX8_power 3 (some .int) 2 (some (.int r)) Z 0 [(0, .ref (ux_a G 8)), (1, .int p0), (2, .int p1)] [] S
  unfold f_X8_power at hf
  refine ax_iload_n 1 dX8_power_0 rfl 1 rfl rfl ?_
  refine ax_i2l 2 dX8_power_1 rfl ?_
  refine ax_ldc2 5 dX8_power_2 fc_X8_125 rfl ?_
  refine ax_ldc2 8 dX8_power_5 fc_X8_127 rfl ?_
  obtain ⟨r3, S2, e1, hf⟩ := ux_bi_e hf
  refine ax_callSi 11 [.long ((p0 : Int32).toInt64), .long 10, .long 30] dX8_power_8 fs_X8_102 (m_X8_in e1) (by decide) rfl rfl (Nat.le_of_ble_eq_true rfl) rfl ?_
  refine ax_if_eq 35 14 dX8_power_11 (by decide) rfl (fun c4 => ?_) (fun c4 => ?_)
  · have hf := ux_ift c4 hf
    refine ax_iconst (v := (-1)) 36 dX8_power_35 (by decide) rfl ?_
    exact ax_iret dX8_power_36 hf
  · have hf := ux_iff c4 hf
    refine ax_iload_n 15 dX8_power_14 rfl 2 rfl rfl ?_
    refine ax_i2l 16 dX8_power_15 rfl ?_
    refine ax_lconst (v := 1) 17 dX8_power_16 (by decide) rfl ?_
    refine ax_ldc2 20 dX8_power_17 fc_X8_129 rfl ?_
    obtain ⟨r7, S6, e5, hf⟩ := ux_bi_e hf
    refine ax_callSi 23 [.long ((p1 : Int32).toInt64), .long 1, .long 5] dX8_power_20 fs_X8_102 (m_X8_in e5) (by decide) rfl rfl (Nat.le_of_ble_eq_true rfl) rfl ?_
    refine ax_if_eq 35 26 dX8_power_23 (by decide) rfl (fun c8 => ?_) (fun c8 => ?_)
    · have hf := ux_ift c8 hf
      refine ax_iconst (v := (-1)) 36 dX8_power_35 (by decide) rfl ?_
      exact ax_iret dX8_power_36 hf
    · have hf := ux_iff c8 hf
      refine ax_aload_n 27 dX8_power_26 rfl 0 rfl rfl ?_
      refine ax_iload_n 28 dX8_power_27 rfl 1 rfl rfl ?_
      refine ax_iload_n 29 dX8_power_28 rfl 2 rfl rfl ?_
      obtain ⟨r11, S10, e9, hf⟩ := ux_bi_e hf
      refine ax_callVi 32 [.int p0, .int p1] dX8_power_29 fv_X8_144 (m_X8_powerOf e9) (by decide) rfl rfl (by decide) rfl rfl (Nat.le_of_ble_eq_true rfl) rfl ?_
      refine ax_goto 36 dX8_power_32 (by decide) ?_
      exact ax_iret dX8_power_36 hf
def b_X8_best_59 (n : Nat) (k17 : Int32 → Int32 → Int32 → ux_S → Option (Int32 × ux_S)) (x2 : Int32) (x3 : Int32) (S : ux_S) : Option (Int32 × ux_S) :=
  k17 (((10 : Int32) * x3) + x2) x2 (x3 + 1) S
set_option maxHeartbeats 2000000 in
set_option maxRecDepth 10000 in
theorem w_X8_best_59 {l : Launch} {G : ux_G} {n : Nat} {r : Int32} {Z : ux_S} (k17 : Int32 → Int32 → Int32 → ux_S → Option (Int32 × ux_S)) (hk17 : ∀ (x1 x2 x3 : Int32) (S : ux_S), k17 x1 x2 x3 S = some (r, Z) → ux_At l G RX8 cX8_best 4 (some .int) 3 (some (.int r)) Z 17 [(0, .ref (ux_a G 8)), (1, .int x1), (2, .int x2), (3, .int x3)] [] S) : ∀ (x2 : Int32) (x3 : Int32) (S : ux_S), b_X8_best_59 n k17 x2 x3 S = some (r, Z) → ux_At l G RX8 cX8_best 4 (some .int) 3 (some (.int r)) Z 59 [(0, .ref (ux_a G 8)), (2, .int x2), (3, .int x3)] [] S := by
  intro x2 x3 S hf
  unfold b_X8_best_59 at hf
  refine ax_bipush (v := 10) 61 dX8_best_59 (by decide) rfl ?_
  refine ax_iload_n 62 dX8_best_61 rfl 2 rfl rfl ?_
  refine ax_imul 63 dX8_best_62 rfl ?_
  refine ax_iload_n 64 dX8_best_63 rfl 1 rfl rfl ?_
  refine ax_iadd 65 dX8_best_64 rfl ?_
  refine ax_istore_n 66 dX8_best_65 rfl (by decide) [1, 0, 2, 3] [(0, .ref (ux_a G 8)), (1, .int (((10 : Int32) * x3) + x2)), (2, .int x2), (3, .int x3)] rfl rfl ?_
  refine ax_iinc (v := x3 + 1) 69 dX8_best_66 3 rfl rfl (by decide) [1, 2, 3, 0] [(0, .ref (ux_a G 8)), (1, .int (((10 : Int32) * x3) + x2)), (2, .int x2), (3, .int (x3 + 1))] rfl rfl ?_
  refine ax_goto 17 dX8_best_69 (by decide) ?_
  exact ax_sub [0, 1, 2, 3] rfl (hk17 (((10 : Int32) * x3) + x2) x2 (x3 + 1) S hf)
def b_X8_best_17 (n : Nat) (k9 : Int32 → Int32 → ux_S → Option (Int32 × ux_S)) (k17 : Int32 → Int32 → Int32 → ux_S → Option (Int32 × ux_S)) (x1 : Int32) (x2 : Int32) (x3 : Int32) (S : ux_S) : Option (Int32 × ux_S) :=
  if 30 < x3 then (k9 x1 (x2 + 1) S) else (ux_bi (f_X8_hots n S x3 x2) (fun r8 S7 => if r8 = 0 then (if x1 = (-4) then (b_X8_best_59 n k17 x2 x3 S7) else (ux_bi (f_X8_powerOf n S7 x3 x2) (fun r13 S12 => ux_bi (f_X8_powerOf n S12 (x1 / (10 : Int32)) (x1 - x1 / (10 : Int32) * (10 : Int32))) (fun r16 S15 => if r16 ≤ r13 then (k17 x1 x2 (x3 + 1) S15) else (b_X8_best_59 n k17 x2 x3 S15))))) else (k17 x1 x2 (x3 + 1) S7)))
set_option maxHeartbeats 2000000 in
set_option maxRecDepth 10000 in
theorem w_X8_best_17 {l : Launch} {G : ux_G} {n : Nat} {r : Int32} {Z : ux_S} (k9 : Int32 → Int32 → ux_S → Option (Int32 × ux_S)) (hk9 : ∀ (x1 x2 : Int32) (S : ux_S), k9 x1 x2 S = some (r, Z) → ux_At l G RX8 cX8_best 4 (some .int) 3 (some (.int r)) Z 9 [(0, .ref (ux_a G 8)), (1, .int x1), (2, .int x2)] [] S) (k17 : Int32 → Int32 → Int32 → ux_S → Option (Int32 × ux_S)) (hk17 : ∀ (x1 x2 x3 : Int32) (S : ux_S), k17 x1 x2 x3 S = some (r, Z) → ux_At l G RX8 cX8_best 4 (some .int) 3 (some (.int r)) Z 17 [(0, .ref (ux_a G 8)), (1, .int x1), (2, .int x2), (3, .int x3)] [] S) : ∀ (x1 : Int32) (x2 : Int32) (x3 : Int32) (S : ux_S), b_X8_best_17 n k9 k17 x1 x2 x3 S = some (r, Z) → ux_At l G RX8 cX8_best 4 (some .int) 3 (some (.int r)) Z 17 [(0, .ref (ux_a G 8)), (1, .int x1), (2, .int x2), (3, .int x3)] [] S := by
  intro x1 x2 x3 S hf
  unfold b_X8_best_17 at hf
  refine ax_iload_n 18 dX8_best_17 rfl 3 rfl rfl ?_
  refine ax_bipush (v := 30) 20 dX8_best_18 (by decide) rfl ?_
  refine ax_icmp_gt 72 23 dX8_best_20 (by decide) rfl (fun c5 => ?_) (fun c5 => ?_)
  · have hf := ux_ift c5 hf
    refine ax_iinc (v := x2 + 1) 75 dX8_best_72 2 rfl rfl (by decide) [1, 2, 0] [(0, .ref (ux_a G 8)), (1, .int x1), (2, .int (x2 + 1))] rfl rfl ?_
    refine ax_goto 9 dX8_best_75 (by decide) ?_
    exact ax_sub [0, 1, 2] rfl (hk9 x1 (x2 + 1) S hf)
  · have hf := ux_iff c5 hf
    refine ax_aload_n 24 dX8_best_23 rfl 0 rfl rfl ?_
    refine ax_iload_n 25 dX8_best_24 rfl 3 rfl rfl ?_
    refine ax_iload_n 26 dX8_best_25 rfl 2 rfl rfl ?_
    obtain ⟨r8, S7, e6, hf⟩ := ux_bi_e hf
    refine ax_callVi 29 [.int x3, .int x2] dX8_best_26 fv_X8_140 (m_X8_hots e6) (by decide) rfl rfl (by decide) rfl rfl (Nat.le_of_ble_eq_true rfl) rfl ?_
    refine ax_if_ne 66 32 dX8_best_29 (by decide) rfl (fun c9 => ?_) (fun c9 => ?_)
    · have hf := ux_iff c9 hf
      refine ax_iinc (v := x3 + 1) 69 dX8_best_66 3 rfl rfl (by decide) [1, 2, 3, 0] [(0, .ref (ux_a G 8)), (1, .int x1), (2, .int x2), (3, .int (x3 + 1))] rfl rfl ?_
      refine ax_goto 17 dX8_best_69 (by decide) ?_
      exact ax_sub [0, 1, 2, 3] rfl (hk17 x1 x2 (x3 + 1) S7 hf)
    · have hf := ux_ift c9 hf
      refine ax_iload_n 33 dX8_best_32 rfl 1 rfl rfl ?_
      refine ax_bipush (v := (-4)) 35 dX8_best_33 (by decide) rfl ?_
      refine ax_icmp_eq 59 38 dX8_best_35 (by decide) rfl (fun c10 => ?_) (fun c10 => ?_)
      · have hf := ux_ift c10 hf
        exact ax_sub [0, 2, 3] rfl (w_X8_best_59 k17 hk17 x2 x3 S7 hf)
      · have hf := ux_iff c10 hf
        refine ax_aload_n 39 dX8_best_38 rfl 0 rfl rfl ?_
        refine ax_iload_n 40 dX8_best_39 rfl 3 rfl rfl ?_
        refine ax_iload_n 41 dX8_best_40 rfl 2 rfl rfl ?_
        obtain ⟨r13, S12, e11, hf⟩ := ux_bi_e hf
        refine ax_callVi 44 [.int x3, .int x2] dX8_best_41 fv_X8_144 (m_X8_powerOf e11) (by decide) rfl rfl (by decide) rfl rfl (Nat.le_of_ble_eq_true rfl) rfl ?_
        refine ax_aload_n 45 dX8_best_44 rfl 0 rfl rfl ?_
        refine ax_iload_n 46 dX8_best_45 rfl 1 rfl rfl ?_
        refine ax_bipush (v := 10) 48 dX8_best_46 (by decide) rfl ?_
        refine ax_idiv 49 dX8_best_48 (by decide) rfl ?_
        refine ax_iload_n 50 dX8_best_49 rfl 1 rfl rfl ?_
        refine ax_bipush (v := 10) 52 dX8_best_50 (by decide) rfl ?_
        refine ax_irem 53 dX8_best_52 (by decide) rfl ?_
        obtain ⟨r16, S15, e14, hf⟩ := ux_bi_e hf
        refine ax_callVi 56 [.int (x1 / (10 : Int32)), .int (x1 - x1 / (10 : Int32) * (10 : Int32))] dX8_best_53 fv_X8_144 (m_X8_powerOf e14) (by decide) rfl rfl (by decide) rfl rfl (Nat.le_of_ble_eq_true rfl) rfl ?_
        refine ax_icmp_ge 66 59 dX8_best_56 (by decide) rfl (fun c17 => ?_) (fun c17 => ?_)
        · have hf := ux_ift c17 hf
          refine ax_iinc (v := x3 + 1) 69 dX8_best_66 3 rfl rfl (by decide) [1, 2, 3, 0] [(0, .ref (ux_a G 8)), (1, .int x1), (2, .int x2), (3, .int (x3 + 1))] rfl rfl ?_
          refine ax_goto 17 dX8_best_69 (by decide) ?_
          exact ax_sub [0, 1, 2, 3] rfl (hk17 x1 x2 (x3 + 1) S15 hf)
        · have hf := ux_iff c17 hf
          exact ax_sub [0, 2, 3] rfl (w_X8_best_59 k17 hk17 x2 x3 S15 hf)
def b_X8_best_9 (n : Nat) (k9 : Int32 → Int32 → ux_S → Option (Int32 × ux_S)) (x1 : Int32) (x2 : Int32) (S : ux_S) : Option (Int32 × ux_S) :=
  if 5 < x2 then (some (x1, S)) else (ux_lp3 (b_X8_best_17 n k9) n x1 x2 10 S)
set_option maxHeartbeats 2000000 in
set_option maxRecDepth 10000 in
theorem w_X8_best_9 {l : Launch} {G : ux_G} {n : Nat} {r : Int32} {Z : ux_S} (k9 : Int32 → Int32 → ux_S → Option (Int32 × ux_S)) (hk9 : ∀ (x1 x2 : Int32) (S : ux_S), k9 x1 x2 S = some (r, Z) → ux_At l G RX8 cX8_best 4 (some .int) 3 (some (.int r)) Z 9 [(0, .ref (ux_a G 8)), (1, .int x1), (2, .int x2)] [] S) : ∀ (x1 : Int32) (x2 : Int32) (S : ux_S), b_X8_best_9 n k9 x1 x2 S = some (r, Z) → ux_At l G RX8 cX8_best 4 (some .int) 3 (some (.int r)) Z 9 [(0, .ref (ux_a G 8)), (1, .int x1), (2, .int x2)] [] S := by
  intro x1 x2 S hf
  unfold b_X8_best_9 at hf
  refine ax_iload_n 10 dX8_best_9 rfl 2 rfl rfl ?_
  refine ax_iconst (v := 5) 11 dX8_best_10 (by decide) rfl ?_
  refine ax_icmp_gt 78 14 dX8_best_11 (by decide) rfl (fun c4 => ?_) (fun c4 => ?_)
  · have hf := ux_ift c4 hf
    refine ax_iload_n 79 dX8_best_78 rfl 1 rfl rfl ?_
    exact ax_iret dX8_best_79 hf
  · have hf := ux_iff c4 hf
    refine ax_bipush (v := 10) 16 dX8_best_14 (by decide) rfl ?_
    refine ax_istore_n 17 dX8_best_16 rfl (by decide) [1, 2, 3, 0] [(0, .ref (ux_a G 8)), (1, .int x1), (2, .int x2), (3, .int 10)] rfl rfl ?_
    exact ax_sub [0, 1, 2, 3] rfl (ux_lp3_w (Pr := fun x1 x2 x3 S => ux_At l G RX8 cX8_best 4 (some .int) 3 (some (.int r)) Z 17 [(0, .ref (ux_a G 8)), (1, .int x1), (2, .int x2), (3, .int x3)] [] S) (fun k17 hk17 => w_X8_best_17 k9 hk9 k17 hk17) n x1 x2 10 S hf)
def f_X8_best (n : Nat) (S : ux_S) : Option (Int32 × ux_S) :=
  ux_bv (f_X8_clearAdded n S ) (fun S2 => ux_lp2 (b_X8_best_9 n) n (-4) 1 S2)
set_option maxHeartbeats 2000000 in
set_option maxRecDepth 10000 in
theorem m_X8_best {l : Launch} {G : ux_G} {n : Nat} {S : ux_S} {r : Int32} {Z : ux_S} (hf : f_X8_best n S = some (r, Z)) : ux_M l G yX8_best cX8_best 4 (some .int) 3 [.ref (ux_a G 8)] S (some (.int r)) Z := by
  refine ux_of (by decide) (Nat.le_of_ble_eq_true rfl) ?_
  show ux_At l G RX8 cX8_best 4 (some .int) 3 (some (.int r)) Z 0 [(0, .ref (ux_a G 8))] [] S
  unfold f_X8_best at hf
  refine ax_aload_n 1 dX8_best_0 rfl 0 rfl rfl ?_
  obtain ⟨S2, e1, hf⟩ := ux_bv_e hf
  refine ax_callVv 4 [] dX8_best_1 fv_X8_133 (m_X8_clearAdded e1) (by decide) rfl rfl (by decide) rfl rfl (Nat.le_of_ble_eq_true rfl) rfl ?_
  refine ax_bipush (v := (-4)) 6 dX8_best_4 (by decide) rfl ?_
  refine ax_istore_n 7 dX8_best_6 rfl (by decide) [1, 0] [(0, .ref (ux_a G 8)), (1, .int (-4))] rfl rfl ?_
  refine ax_iconst (v := 1) 8 dX8_best_7 (by decide) rfl ?_
  refine ax_istore_n 9 dX8_best_8 rfl (by decide) [1, 2, 0] [(0, .ref (ux_a G 8)), (1, .int (-4)), (2, .int 1)] rfl rfl ?_
  exact ax_sub [0, 1, 2] rfl (ux_lp2_w (Pr := fun x1 x2 S => ux_At l G RX8 cX8_best 4 (some .int) 3 (some (.int r)) Z 9 [(0, .ref (ux_a G 8)), (1, .int x1), (2, .int x2)] [] S) (fun k9 hk9 => w_X8_best_9 k9 hk9) n (-4) 1 S2 hf)
def f_X8_minutes (n : Nat) (S : ux_S) (p0 : Int32) : Option (Int32 × ux_S) :=
  ux_bi (f_X8_isRack S p0) (fun r3 S2 => if r3 = 0 then (some ((-1), S2)) else (ux_bv (f_X8_clearAdded n S2 ) (fun S6 => ux_gd (ux_ib p0 8) (ux_bi (f_X8_comes n S6 p0 (S6.1 8 6) (S6.1 8 7)) (fun r11 S10 => ux_gd (ux_ib p0 8) (ux_gd (ux_ib p0 8) (ux_gd (ux_nz (S10.1 56 p0.toNatClampNeg)) (if 0 ≤ (S6.1 55 p0.toNatClampNeg) - r11 then (if ((S10.1 54 p0.toNatClampNeg) * (1000 : Int32)) / (S10.1 56 p0.toNatClampNeg) = 0 then (some ((-4), S10)) else (ux_gd (ux_nz (((S10.1 54 p0.toNatClampNeg) * (1000 : Int32)) / (S10.1 56 p0.toNatClampNeg))) (some ((((S6.1 55 p0.toNatClampNeg) - r11) / (((S10.1 54 p0.toNatClampNeg) * (1000 : Int32)) / (S10.1 56 p0.toNatClampNeg))) + (1 : Int32), S10)))) else (some (0, S10))))))))))
set_option maxHeartbeats 2000000 in
set_option maxRecDepth 10000 in
theorem m_X8_minutes {l : Launch} {G : ux_G} {n : Nat} {S : ux_S} {p0 : Int32} {r : Int32} {Z : ux_S} (hf : f_X8_minutes n S p0 = some (r, Z)) : ux_M l G yX8_minutes cX8_minutes 4 (some .int) 3 [.ref (ux_a G 8), .int p0] S (some (.int r)) Z := by
  refine ux_of (by decide) (Nat.le_of_ble_eq_true rfl) ?_
  show ux_At l G RX8 cX8_minutes 4 (some .int) 3 (some (.int r)) Z 0 [(0, .ref (ux_a G 8)), (1, .int p0)] [] S
  unfold f_X8_minutes at hf
  refine ax_aload_n 1 dX8_minutes_0 rfl 0 rfl rfl ?_
  refine ax_iload_n 2 dX8_minutes_1 rfl 1 rfl rfl ?_
  obtain ⟨r3, S2, e1, hf⟩ := ux_bi_e hf
  refine ax_callVi 5 [.int p0] dX8_minutes_2 fv_X8_115 (m_X8_isRack e1) (by decide) rfl rfl (by decide) rfl rfl (Nat.le_of_ble_eq_true rfl) rfl ?_
  refine ax_if_ne 10 8 dX8_minutes_5 (by decide) rfl (fun c4 => ?_) (fun c4 => ?_)
  · have hf := ux_iff c4 hf
    refine ax_aload_n 11 dX8_minutes_10 rfl 0 rfl rfl ?_
    obtain ⟨S6, e5, hf⟩ := ux_bv_e hf
    refine ax_callVv 14 [] dX8_minutes_11 fv_X8_133 (m_X8_clearAdded e5) (by decide) rfl rfl (by decide) rfl rfl (Nat.le_of_ble_eq_true rfl) rfl ?_
    refine ax_aload_n 15 dX8_minutes_14 rfl 0 rfl rfl ?_
    refine ax_getr 55 18 dX8_minutes_15 fg_X8_13 rfl (by decide) rfl ?_
    refine ax_iload_n 19 dX8_minutes_18 rfl 1 rfl rfl ?_
    obtain ⟨h8, hf⟩ := ux_gd_e hf
    refine ax_iald 20 dX8_minutes_19 (by decide) rfl h8 rfl ?_
    refine ax_aload_n 21 dX8_minutes_20 rfl 0 rfl rfl ?_
    refine ax_iload_n 22 dX8_minutes_21 rfl 1 rfl rfl ?_
    refine ax_aload_n 23 dX8_minutes_22 rfl 0 rfl rfl ?_
    refine ax_geti 26 dX8_minutes_23 fg_X8_25 rfl rfl ?_
    refine ax_aload_n 27 dX8_minutes_26 rfl 0 rfl rfl ?_
    refine ax_geti 30 dX8_minutes_27 fg_X8_29 rfl rfl ?_
    obtain ⟨r11, S10, e9, hf⟩ := ux_bi_e hf
    refine ax_callVi 33 [.int p0, .int (S6.1 8 6), .int (S6.1 8 7)] dX8_minutes_30 fv_X8_136 (m_X8_comes e9) (by decide) rfl rfl (by decide) rfl rfl (Nat.le_of_ble_eq_true rfl) rfl ?_
    refine ax_isub 34 dX8_minutes_33 rfl ?_
    refine ax_istore_n 35 dX8_minutes_34 rfl (by decide) [1, 2, 0] [(0, .ref (ux_a G 8)), (1, .int p0), (2, .int ((S6.1 55 p0.toNatClampNeg) - r11))] rfl rfl ?_
    refine ax_aload_n 36 dX8_minutes_35 rfl 0 rfl rfl ?_
    refine ax_getr 54 39 dX8_minutes_36 fg_X8_7 rfl (by decide) rfl ?_
    refine ax_iload_n 40 dX8_minutes_39 rfl 1 rfl rfl ?_
    obtain ⟨h12, hf⟩ := ux_gd_e hf
    refine ax_iald 41 dX8_minutes_40 (by decide) rfl h12 rfl ?_
    refine ax_sipush (v := 1000) 44 dX8_minutes_41 (by decide) rfl ?_
    refine ax_imul 45 dX8_minutes_44 rfl ?_
    refine ax_aload_n 46 dX8_minutes_45 rfl 0 rfl rfl ?_
    refine ax_getr 56 49 dX8_minutes_46 fg_X8_16 rfl (by decide) rfl ?_
    refine ax_iload_n 50 dX8_minutes_49 rfl 1 rfl rfl ?_
    obtain ⟨h13, hf⟩ := ux_gd_e hf
    refine ax_iald 51 dX8_minutes_50 (by decide) rfl h13 rfl ?_
    obtain ⟨h14, hf⟩ := ux_gd_e hf
    refine ax_idiv 52 dX8_minutes_51 (ux_nz_of h14) rfl ?_
    refine ax_istore_n 53 dX8_minutes_52 rfl (by decide) [1, 2, 3, 0] [(0, .ref (ux_a G 8)), (1, .int p0), (2, .int ((S6.1 55 p0.toNatClampNeg) - r11)), (3, .int (((S10.1 54 p0.toNatClampNeg) * (1000 : Int32)) / (S10.1 56 p0.toNatClampNeg)))] rfl rfl ?_
    refine ax_iload_n 54 dX8_minutes_53 rfl 2 rfl rfl ?_
    refine ax_if_ge 61 57 dX8_minutes_54 (by decide) rfl (fun c15 => ?_) (fun c15 => ?_)
    · have hf := ux_ift c15 hf
      refine ax_iload_n 62 dX8_minutes_61 rfl 3 rfl rfl ?_
      refine ax_if_ne 70 65 dX8_minutes_62 (by decide) rfl (fun c16 => ?_) (fun c16 => ?_)
      · have hf := ux_iff c16 hf
        refine ax_iload_n 71 dX8_minutes_70 rfl 2 rfl rfl ?_
        refine ax_iload_n 72 dX8_minutes_71 rfl 3 rfl rfl ?_
        obtain ⟨h17, hf⟩ := ux_gd_e hf
        refine ax_idiv 73 dX8_minutes_72 (ux_nz_of h17) rfl ?_
        refine ax_iconst (v := 1) 74 dX8_minutes_73 (by decide) rfl ?_
        refine ax_iadd 75 dX8_minutes_74 rfl ?_
        exact ax_iret dX8_minutes_75 hf
      · have hf := ux_ift c16 hf
        refine ax_bipush (v := (-4)) 67 dX8_minutes_65 (by decide) rfl ?_
        refine ax_goto 75 dX8_minutes_67 (by decide) ?_
        exact ax_iret dX8_minutes_75 hf
    · have hf := ux_iff c15 hf
      refine ax_iconst (v := 0) 58 dX8_minutes_57 (by decide) rfl ?_
      refine ax_goto 75 dX8_minutes_58 (by decide) ?_
      exact ax_iret dX8_minutes_75 hf
  · have hf := ux_ift c4 hf
    refine ax_iconst (v := (-1)) 9 dX8_minutes_8 (by decide) rfl ?_
    exact ax_iret dX8_minutes_9 hf
