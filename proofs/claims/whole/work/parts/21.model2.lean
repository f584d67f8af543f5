/-! printed by program (wip/gen): pure functions and contracts -/

def f_X8_machine (S : ux_S) (p0 : Int32) (p1 : Int32) : Option (Int32 × ux_S) :=
  ux_bi (f_X8_in S ((p0 : Int32).toInt64) 1 300) (fun r3 S2 => if r3 = 0 then (some ((-1), S2)) else (ux_bi (f_X8_in S2 ((p1 : Int32).toInt64) 1 10) (fun r7 S6 => if r7 = 0 then (some ((-1), S6)) else (if S6.1 8 10 = 5 then (some ((-3), S6)) else (ux_gd (ux_ib (S6.1 8 10) 5) (ux_gd (ux_ib ((ux_i S6 60 (S6.1 8 10).toNatClampNeg p0).1 8 10) 5) (some (((ux_i (ux_i (ux_i S6 60 (S6.1 8 10).toNatClampNeg p0) 61 ((ux_i S6 60 (S6.1 8 10).toNatClampNeg p0).1 8 10).toNatClampNeg p1) 8 10 (((ux_i (ux_i S6 60 (S6.1 8 10).toNatClampNeg p0) 61 ((ux_i S6 60 (S6.1 8 10).toNatClampNeg p0).1 8 10).toNatClampNeg p1).1 8 10) + (1 : Int32))).1 8 10) - (1 : Int32), ux_i (ux_i (ux_i S6 60 (S6.1 8 10).toNatClampNeg p0) 61 ((ux_i S6 60 (S6.1 8 10).toNatClampNeg p0).1 8 10).toNatClampNeg p1) 8 10 (((ux_i (ux_i S6 60 (S6.1 8 10).toNatClampNeg p0) 61 ((ux_i S6 60 (S6.1 8 10).toNatClampNeg p0).1 8 10).toNatClampNeg p1).1 8 10) + (1 : Int32))))))))))
set_option maxHeartbeats 2000000 in
set_option maxRecDepth 10000 in
theorem m_X8_machine {l : Launch} {G : ux_G} {S : ux_S} {p0 : Int32} {p1 : Int32} {r : Int32} {Z : ux_S} (hf : f_X8_machine S p0 p1 = some (r, Z)) : ux_M l G yX8_machine cX8_machine 3 (some .int) 2 [.ref (ux_a G 8), .int p0, .int p1] S (some (.int r)) Z := by
  refine ux_of (by decide) (Nat.le_of_ble_eq_true rfl) ?_
  show ux_At l G RX8 cX8_machine 3 (some .int) 2 (some (.int r)) Z 0 [(0, .ref (ux_a G 8)), (1, .int p0), (2, .int p1)] [] S
  unfold f_X8_machine at hf
  refine ax_iload_n 1 dX8_machine_0 rfl 1 rfl rfl ?_
  refine ax_i2l 2 dX8_machine_1 rfl ?_
  refine ax_lconst (v := 1) 3 dX8_machine_2 (by decide) rfl ?_
  refine ax_ldc2 6 dX8_machine_3 fc_X8_147 rfl ?_
  obtain ⟨r3, S2, e1, hf⟩ := ux_bi_e hf
  refine ax_callSi 9 [.long ((p0 : Int32).toInt64), .long 1, .long 300] dX8_machine_6 fs_X8_102 (m_X8_in e1) (by decide) rfl rfl (Nat.le_of_ble_eq_true rfl) rfl ?_
  refine ax_if_eq 24 12 dX8_machine_9 (by decide) rfl (fun c4 => ?_) (fun c4 => ?_)
  · have hf := ux_ift c4 hf
    refine ax_iconst (v := (-1)) 25 dX8_machine_24 (by decide) rfl ?_
    exact ax_iret dX8_machine_25 hf
  · have hf := ux_iff c4 hf
    refine ax_iload_n 13 dX8_machine_12 rfl 2 rfl rfl ?_
    refine ax_i2l 14 dX8_machine_13 rfl ?_
    refine ax_lconst (v := 1) 15 dX8_machine_14 (by decide) rfl ?_
    refine ax_ldc2 18 dX8_machine_15 fc_X8_125 rfl ?_
    obtain ⟨r7, S6, e5, hf⟩ := ux_bi_e hf
    refine ax_callSi 21 [.long ((p1 : Int32).toInt64), .long 1, .long 10] dX8_machine_18 fs_X8_102 (m_X8_in e5) (by decide) rfl rfl (Nat.le_of_ble_eq_true rfl) rfl ?_
    refine ax_if_ne 26 24 dX8_machine_21 (by decide) rfl (fun c8 => ?_) (fun c8 => ?_)
    · have hf := ux_iff c8 hf
      refine ax_aload_n 27 dX8_machine_26 rfl 0 rfl rfl ?_
      refine ax_geti 30 dX8_machine_27 fg_X8_149 rfl rfl ?_
      refine ax_iconst (v := 5) 31 dX8_machine_30 (by decide) rfl ?_
      refine ax_icmp_ne 37 34 dX8_machine_31 (by decide) rfl (fun c9 => ?_) (fun c9 => ?_)
      · have hf := ux_iff c9 hf
        refine ax_aload_n 38 dX8_machine_37 rfl 0 rfl rfl ?_
        refine ax_getr 60 41 dX8_machine_38 fg_X8_38 rfl (by decide) rfl ?_
        refine ax_aload_n 42 dX8_machine_41 rfl 0 rfl rfl ?_
        refine ax_geti 45 dX8_machine_42 fg_X8_149 rfl rfl ?_
        refine ax_iload_n 46 dX8_machine_45 rfl 1 rfl rfl ?_
        obtain ⟨h10, hf⟩ := ux_gd_e hf
        refine ax_iast 47 dX8_machine_46 (by decide) rfl h10 rfl ?_
        refine ax_aload_n 48 dX8_machine_47 rfl 0 rfl rfl ?_
        refine ax_getr 61 51 dX8_machine_48 fg_X8_41 rfl (by decide) rfl ?_
        refine ax_aload_n 52 dX8_machine_51 rfl 0 rfl rfl ?_
        refine ax_geti 55 dX8_machine_52 fg_X8_149 rfl rfl ?_
        refine ax_iload_n 56 dX8_machine_55 rfl 2 rfl rfl ?_
        obtain ⟨h11, hf⟩ := ux_gd_e hf
        refine ax_iast 57 dX8_machine_56 (by decide) rfl h11 rfl ?_
        refine ax_aload_n 58 dX8_machine_57 rfl 0 rfl rfl ?_
        refine ax_dup 59 dX8_machine_58 rfl rfl ?_
        refine ax_geti 62 dX8_machine_59 fg_X8_149 rfl rfl ?_
        refine ax_iconst (v := 1) 63 dX8_machine_62 (by decide) rfl ?_
        refine ax_iadd 64 dX8_machine_63 rfl ?_
        refine ax_put 67 dX8_machine_64 fp_X8_149 rfl ?_
        refine ax_aload_n 68 dX8_machine_67 rfl 0 rfl rfl ?_
        refine ax_geti 71 dX8_machine_68 fg_X8_149 rfl rfl ?_
        refine ax_iconst (v := 1) 72 dX8_machine_71 (by decide) rfl ?_
        refine ax_isub 73 dX8_machine_72 rfl ?_
        exact ax_iret dX8_machine_73 hf
      · have hf := ux_ift c9 hf
        refine ax_bipush (v := (-3)) 36 dX8_machine_34 (by decide) rfl ?_
        exact ax_iret dX8_machine_36 hf
    · have hf := ux_ift c8 hf
      refine ax_iconst (v := (-1)) 25 dX8_machine_24 (by decide) rfl ?_
      exact ax_iret dX8_machine_25 hf
def f_X8_leave (S : ux_S) : Option (Int32 × ux_S) :=
  if S.1 8 10 = 0 then (some ((-4), S)) else (some ((ux_i S 8 10 ((S.1 8 10) - (1 : Int32))).1 8 10, ux_i S 8 10 ((S.1 8 10) - (1 : Int32))))
set_option maxHeartbeats 2000000 in
set_option maxRecDepth 10000 in
theorem m_X8_leave {l : Launch} {G : ux_G} {S : ux_S} {r : Int32} {Z : ux_S} (hf : f_X8_leave S = some (r, Z)) : ux_M l G yX8_leave cX8_leave 1 (some .int) 1 [.ref (ux_a G 8)] S (some (.int r)) Z := by
  refine ux_of (by decide) (Nat.le_of_ble_eq_true rfl) ?_
  show ux_At l G RX8 cX8_leave 1 (some .int) 1 (some (.int r)) Z 0 [(0, .ref (ux_a G 8))] [] S
  unfold f_X8_leave at hf
  refine ax_aload_n 1 dX8_leave_0 rfl 0 rfl rfl ?_
  refine ax_geti 4 dX8_leave_1 fg_X8_149 rfl rfl ?_
  refine ax_if_ne 10 7 dX8_leave_4 (by decide) rfl (fun c1 => ?_) (fun c1 => ?_)
  · have hf := ux_iff c1 hf
    refine ax_aload_n 11 dX8_leave_10 rfl 0 rfl rfl ?_
    refine ax_dup 12 dX8_leave_11 rfl rfl ?_
    refine ax_geti 15 dX8_leave_12 fg_X8_149 rfl rfl ?_
    refine ax_iconst (v := 1) 16 dX8_leave_15 (by decide) rfl ?_
    refine ax_isub 17 dX8_leave_16 rfl ?_
    refine ax_put 20 dX8_leave_17 fp_X8_149 rfl ?_
    refine ax_aload_n 21 dX8_leave_20 rfl 0 rfl rfl ?_
    refine ax_geti 24 dX8_leave_21 fg_X8_149 rfl rfl ?_
    exact ax_iret dX8_leave_24 hf
  · have hf := ux_ift c1 hf
    refine ax_bipush (v := (-4)) 9 dX8_leave_7 (by decide) rfl ?_
    exact ax_iret dX8_leave_9 hf
def b_X8_tryRow_204 (n : Nat) (k204 : Int32 → ux_S → Option ux_S) (x3 : Int32) (S : ux_S) : Option ux_S :=
  if S.1 8 10 ≤ x3 then (some S) else (ux_gd (ux_ib x3 5) (ux_gd (ux_ib x3 5) (k204 (x3 + 1) (ux_i S 68 x3.toNatClampNeg (S.1 66 x3.toNatClampNeg)))))
set_option maxHeartbeats 2000000 in
set_option maxRecDepth 10000 in
theorem w_X8_tryRow_204 {l : Launch} {G : ux_G} {n : Nat} {Z : ux_S} (k204 : Int32 → ux_S → Option ux_S) (hk204 : ∀ (x3 : Int32) (S : ux_S), k204 x3 S = some Z → ux_At l G RX8 cX8_tryRow 5 none 2 none Z 204 [(0, .ref (ux_a G 8)), (3, .int x3)] [] S) : ∀ (x3 : Int32) (S : ux_S), b_X8_tryRow_204 n k204 x3 S = some Z → ux_At l G RX8 cX8_tryRow 5 none 2 none Z 204 [(0, .ref (ux_a G 8)), (3, .int x3)] [] S := by
  intro x3 S hf
  unfold b_X8_tryRow_204 at hf
  refine ax_iload_n 205 dX8_tryRow_204 rfl 1 rfl rfl ?_
  refine ax_aload_n 206 dX8_tryRow_205 rfl 0 rfl rfl ?_
  refine ax_geti 209 dX8_tryRow_206 fg_X8_149 rfl rfl ?_
  refine ax_icmp_ge 230 212 dX8_tryRow_209 (by decide) rfl (fun c9 => ?_) (fun c9 => ?_)
  · have hf := ux_ift c9 hf
    exact ax_vret dX8_tryRow_230 hf
  · have hf := ux_iff c9 hf
    refine ax_aload_n 213 dX8_tryRow_212 rfl 0 rfl rfl ?_
    refine ax_getr 68 216 dX8_tryRow_213 fg_X8_63 rfl (by decide) rfl ?_
    refine ax_iload_n 217 dX8_tryRow_216 rfl 1 rfl rfl ?_
    refine ax_aload_n 218 dX8_tryRow_217 rfl 0 rfl rfl ?_
    refine ax_getr 66 221 dX8_tryRow_218 fg_X8_57 rfl (by decide) rfl ?_
    refine ax_iload_n 222 dX8_tryRow_221 rfl 1 rfl rfl ?_
    obtain ⟨h10, hf⟩ := ux_gd_e hf
    refine ax_iald 223 dX8_tryRow_222 (by decide) rfl h10 rfl ?_
    obtain ⟨h11, hf⟩ := ux_gd_e hf
    refine ax_iast 224 dX8_tryRow_223 (by decide) rfl h11 rfl ?_
    refine ax_iinc (v := x3 + 1) 227 dX8_tryRow_224 1 rfl rfl (by decide) [1, 0] [(0, .ref (ux_a G 8)), (3, .int (x3 + 1))] rfl rfl ?_
    refine ax_goto 204 dX8_tryRow_227 (by decide) ?_
    exact ax_sub [0, 1] rfl (hk204 (x3 + 1) (ux_i S 68 x3.toNatClampNeg (S.1 66 x3.toNatClampNeg)) hf)
def b_X8_tryRow_197 (n : Nat) (x2 : Int32) (S : ux_S) : Option ux_S :=
  ux_lp1 (b_X8_tryRow_204 n) n 0 (ux_i S 8 20 x2)
set_option maxHeartbeats 2000000 in
set_option maxRecDepth 10000 in
theorem w_X8_tryRow_197 {l : Launch} {G : ux_G} {n : Nat} {Z : ux_S} : ∀ (x2 : Int32) (S : ux_S), b_X8_tryRow_197 n x2 S = some Z → ux_At l G RX8 cX8_tryRow 5 none 2 none Z 197 [(0, .ref (ux_a G 8)), (2, .int x2)] [] S := by
  intro x2 S hf
  unfold b_X8_tryRow_197 at hf
  refine ax_aload_n 198 dX8_tryRow_197 rfl 0 rfl rfl ?_
  refine ax_iload_n 199 dX8_tryRow_198 rfl 1 rfl rfl ?_
  refine ax_put 202 dX8_tryRow_199 fp_X8_155 rfl ?_
  refine ax_iconst (v := 0) 203 dX8_tryRow_202 (by decide) rfl ?_
  refine ax_istore_n 204 dX8_tryRow_203 rfl (by decide) [1, 0] [(0, .ref (ux_a G 8)), (3, .int 0)] rfl rfl ?_
  exact ax_sub [0, 1] rfl (ux_lp1_w (Pr := fun x3 S => ux_At l G RX8 cX8_tryRow 5 none 2 none Z 204 [(0, .ref (ux_a G 8)), (3, .int x3)] [] S) (fun k204 hk204 => w_X8_tryRow_204 k204 hk204) n 0 (ux_i S 8 20 x2) hf)
def b_X8_tryRow_138 (n : Nat) (k138 : Int32 → Int32 → ux_S → Option ux_S) (x2 : Int32) (x3 : Int32) (S : ux_S) : Option ux_S :=
  if S.1 8 0 ≤ x3 then (if S.1 8 20 = (-4) then (b_X8_tryRow_197 n x2 S) else (if S.1 8 20 ≤ x2 then (some S) else (b_X8_tryRow_197 n x2 S))) else (ux_bi (f_X8_comes n S x3 (S.1 8 6) (S.1 8 7)) (fun r15 S14 => if r15 ≤ x2 then (k138 x2 (x3 + 1) S14) else (k138 r15 (x3 + 1) S14)))
set_option maxHeartbeats 2000000 in
set_option maxRecDepth 10000 in
theorem w_X8_tryRow_138 {l : Launch} {G : ux_G} {n : Nat} {Z : ux_S} (k138 : Int32 → Int32 → ux_S → Option ux_S) (hk138 : ∀ (x2 x3 : Int32) (S : ux_S), k138 x2 x3 S = some Z → ux_At l G RX8 cX8_tryRow 5 none 2 none Z 138 [(0, .ref (ux_a G 8)), (2, .int x2), (3, .int x3)] [] S) : ∀ (x2 : Int32) (x3 : Int32) (S : ux_S), b_X8_tryRow_138 n k138 x2 x3 S = some Z → ux_At l G RX8 cX8_tryRow 5 none 2 none Z 138 [(0, .ref (ux_a G 8)), (2, .int x2), (3, .int x3)] [] S := by
  intro x2 x3 S hf
  unfold b_X8_tryRow_138 at hf
  refine ax_iload_n 139 dX8_tryRow_138 rfl 2 rfl rfl ?_
  refine ax_aload_n 140 dX8_tryRow_139 rfl 0 rfl rfl ?_
  refine ax_geti 143 dX8_tryRow_140 fg_X8_112 rfl rfl ?_
  refine ax_icmp_ge 180 146 dX8_tryRow_143 (by decide) rfl (fun c7 => ?_) (fun c7 => ?_)
  · have hf := ux_ift c7 hf
    refine ax_aload_n 181 dX8_tryRow_180 rfl 0 rfl rfl ?_
    refine ax_geti 184 dX8_tryRow_181 fg_X8_155 rfl rfl ?_
    refine ax_bipush (v := (-4)) 186 dX8_tryRow_184 (by decide) rfl ?_
    refine ax_icmp_eq 197 189 dX8_tryRow_186 (by decide) rfl (fun c8 => ?_) (fun c8 => ?_)
    · have hf := ux_ift c8 hf
      exact ax_sub [0, 1] rfl (w_X8_tryRow_197 x2 S hf)
    · have hf := ux_iff c8 hf
      refine ax_iload_n 190 dX8_tryRow_189 rfl 1 rfl rfl ?_
      refine ax_aload_n 191 dX8_tryRow_190 rfl 0 rfl rfl ?_
      refine ax_geti 194 dX8_tryRow_191 fg_X8_155 rfl rfl ?_
      refine ax_icmp_ge 230 197 dX8_tryRow_194 (by decide) rfl (fun c12 => ?_) (fun c12 => ?_)
      · have hf := ux_ift c12 hf
        exact ax_vret dX8_tryRow_230 hf
      · have hf := ux_iff c12 hf
        exact ax_sub [0, 1] rfl (w_X8_tryRow_197 x2 S hf)
  · have hf := ux_iff c7 hf
    refine ax_aload_n 147 dX8_tryRow_146 rfl 0 rfl rfl ?_
    refine ax_iload_n 148 dX8_tryRow_147 rfl 2 rfl rfl ?_
    refine ax_aload_n 149 dX8_tryRow_148 rfl 0 rfl rfl ?_
    refine ax_geti 152 dX8_tryRow_149 fg_X8_25 rfl rfl ?_
    refine ax_aload_n 153 dX8_tryRow_152 rfl 0 rfl rfl ?_
    refine ax_geti 156 dX8_tryRow_153 fg_X8_29 rfl rfl ?_
    obtain ⟨r15, S14, e13, hf⟩ := ux_bi_e hf
    refine ax_callVi 159 [.int x3, .int (S.1 8 6), .int (S.1 8 7)] dX8_tryRow_156 fv_X8_136 (m_X8_comes e13) (by decide) rfl rfl (by decide) rfl rfl (Nat.le_of_ble_eq_true rfl) rfl ?_
    refine ax_istore 161 dX8_tryRow_159 (by decide) [1, 2, 3, 0] [(0, .ref (ux_a G 8)), (2, .int x2), (3, .int x3), (4, .int r15)] rfl rfl ?_
    refine ax_iload 163 dX8_tryRow_161 3 rfl rfl ?_
    refine ax_iload_n 164 dX8_tryRow_163 rfl 1 rfl rfl ?_
    refine ax_icmp_le 172 167 dX8_tryRow_164 (by decide) rfl (fun c16 => ?_) (fun c16 => ?_)
    · have hf := ux_ift c16 hf
      refine ax_iload_n 173 dX8_tryRow_172 rfl 1 rfl rfl ?_
      refine ax_istore_n 174 dX8_tryRow_173 rfl (by decide) [1, 0, 2] [(0, .ref (ux_a G 8)), (2, .int x2), (3, .int x3)] rfl rfl ?_
      refine ax_iinc (v := x3 + 1) 177 dX8_tryRow_174 2 rfl rfl (by decide) [1, 2, 0] [(0, .ref (ux_a G 8)), (2, .int x2), (3, .int (x3 + 1))] rfl rfl ?_
      refine ax_goto 138 dX8_tryRow_177 (by decide) ?_
      exact ax_sub [0, 1, 2] rfl (hk138 x2 (x3 + 1) S14 hf)
    · have hf := ux_iff c16 hf
      refine ax_iload 169 dX8_tryRow_167 3 rfl rfl ?_
      refine ax_goto 173 dX8_tryRow_169 (by decide) ?_
      refine ax_istore_n 174 dX8_tryRow_173 rfl (by decide) [1, 0, 2] [(0, .ref (ux_a G 8)), (2, .int r15), (3, .int x3)] rfl rfl ?_
      refine ax_iinc (v := x3 + 1) 177 dX8_tryRow_174 2 rfl rfl (by decide) [1, 2, 0] [(0, .ref (ux_a G 8)), (2, .int r15), (3, .int (x3 + 1))] rfl rfl ?_
      refine ax_goto 138 dX8_tryRow_177 (by decide) ?_
      exact ax_sub [0, 1, 2] rfl (hk138 r15 (x3 + 1) S14 hf)
def b_X8_tryRow_29 (n : Nat) (k29 : Int32 → Int32 → ux_S → Option ux_S) (x1 : Int32) (x2 : Int32) (S : ux_S) : Option ux_S :=
  if S.1 8 10 ≤ x2 then (if x1 = 0 then (some S) else (ux_lp2 (b_X8_tryRow_138 n) n (-4) 0 (ux_i S 8 19 ((S.1 8 19) + (1 : Int32))))) else (ux_gd (ux_ib x2 5) (ux_gd (ux_ib (S.1 66 x2.toNatClampNeg) 8) (ux_gd (ux_ib x2 5) (ux_gd (ux_ib (S.1 66 x2.toNatClampNeg) 8) (ux_gd (ux_ib x2 5) (ux_gd (ux_ib ((ux_i S 67 (S.1 66 x2.toNatClampNeg).toNatClampNeg ((S.1 67 (S.1 66 x2.toNatClampNeg).toNatClampNeg) + (S.1 61 x2.toNatClampNeg))).1 66 x2.toNatClampNeg) 8) (ux_gd (ux_ib x2 5) (ux_gd (ux_ib ((ux_i S 67 (S.1 66 x2.toNatClampNeg).toNatClampNeg ((S.1 67 (S.1 66 x2.toNatClampNeg).toNatClampNeg) + (S.1 61 x2.toNatClampNeg))).1 66 x2.toNatClampNeg) 8) (if x1 = 0 then (k29 0 (x2 + 1) (ux_i (ux_i S 67 (S.1 66 x2.toNatClampNeg).toNatClampNeg ((S.1 67 (S.1 66 x2.toNatClampNeg).toNatClampNeg) + (S.1 61 x2.toNatClampNeg))) 62 ((ux_i S 67 (S.1 66 x2.toNatClampNeg).toNatClampNeg ((S.1 67 (S.1 66 x2.toNatClampNeg).toNatClampNeg) + (S.1 61 x2.toNatClampNeg))).1 66 x2.toNatClampNeg).toNatClampNeg (((ux_i S 67 (S.1 66 x2.toNatClampNeg).toNatClampNeg ((S.1 67 (S.1 66 x2.toNatClampNeg).toNatClampNeg) + (S.1 61 x2.toNatClampNeg))).1 62 ((ux_i S 67 (S.1 66 x2.toNatClampNeg).toNatClampNeg ((S.1 67 (S.1 66 x2.toNatClampNeg).toNatClampNeg) + (S.1 61 x2.toNatClampNeg))).1 66 x2.toNatClampNeg).toNatClampNeg) + ((ux_i S 67 (S.1 66 x2.toNatClampNeg).toNatClampNeg ((S.1 67 (S.1 66 x2.toNatClampNeg).toNatClampNeg) + (S.1 61 x2.toNatClampNeg))).1 60 x2.toNatClampNeg)))) else (ux_gd (ux_ib x2 5) (ux_gd (ux_ib ((ux_i (ux_i S 67 (S.1 66 x2.toNatClampNeg).toNatClampNeg ((S.1 67 (S.1 66 x2.toNatClampNeg).toNatClampNeg) + (S.1 61 x2.toNatClampNeg))) 62 ((ux_i S 67 (S.1 66 x2.toNatClampNeg).toNatClampNeg ((S.1 67 (S.1 66 x2.toNatClampNeg).toNatClampNeg) + (S.1 61 x2.toNatClampNeg))).1 66 x2.toNatClampNeg).toNatClampNeg (((ux_i S 67 (S.1 66 x2.toNatClampNeg).toNatClampNeg ((S.1 67 (S.1 66 x2.toNatClampNeg).toNatClampNeg) + (S.1 61 x2.toNatClampNeg))).1 62 ((ux_i S 67 (S.1 66 x2.toNatClampNeg).toNatClampNeg ((S.1 67 (S.1 66 x2.toNatClampNeg).toNatClampNeg) + (S.1 61 x2.toNatClampNeg))).1 66 x2.toNatClampNeg).toNatClampNeg) + ((ux_i S 67 (S.1 66 x2.toNatClampNeg).toNatClampNeg ((S.1 67 (S.1 66 x2.toNatClampNeg).toNatClampNeg) + (S.1 61 x2.toNatClampNeg))).1 60 x2.toNatClampNeg))).1 66 x2.toNatClampNeg) 8) (ux_gd (ux_ib x2 5) (ux_gd (ux_ib ((ux_i (ux_i S 67 (S.1 66 x2.toNatClampNeg).toNatClampNeg ((S.1 67 (S.1 66 x2.toNatClampNeg).toNatClampNeg) + (S.1 61 x2.toNatClampNeg))) 62 ((ux_i S 67 (S.1 66 x2.toNatClampNeg).toNatClampNeg ((S.1 67 (S.1 66 x2.toNatClampNeg).toNatClampNeg) + (S.1 61 x2.toNatClampNeg))).1 66 x2.toNatClampNeg).toNatClampNeg (((ux_i S 67 (S.1 66 x2.toNatClampNeg).toNatClampNeg ((S.1 67 (S.1 66 x2.toNatClampNeg).toNatClampNeg) + (S.1 61 x2.toNatClampNeg))).1 62 ((ux_i S 67 (S.1 66 x2.toNatClampNeg).toNatClampNeg ((S.1 67 (S.1 66 x2.toNatClampNeg).toNatClampNeg) + (S.1 61 x2.toNatClampNeg))).1 66 x2.toNatClampNeg).toNatClampNeg) + ((ux_i S 67 (S.1 66 x2.toNatClampNeg).toNatClampNeg ((S.1 67 (S.1 66 x2.toNatClampNeg).toNatClampNeg) + (S.1 61 x2.toNatClampNeg))).1 60 x2.toNatClampNeg))).1 66 x2.toNatClampNeg) 8) (if (ux_i (ux_i S 67 (S.1 66 x2.toNatClampNeg).toNatClampNeg ((S.1 67 (S.1 66 x2.toNatClampNeg).toNatClampNeg) + (S.1 61 x2.toNatClampNeg))) 62 ((ux_i S 67 (S.1 66 x2.toNatClampNeg).toNatClampNeg ((S.1 67 (S.1 66 x2.toNatClampNeg).toNatClampNeg) + (S.1 61 x2.toNatClampNeg))).1 66 x2.toNatClampNeg).toNatClampNeg (((ux_i S 67 (S.1 66 x2.toNatClampNeg).toNatClampNeg ((S.1 67 (S.1 66 x2.toNatClampNeg).toNatClampNeg) + (S.1 61 x2.toNatClampNeg))).1 62 ((ux_i S 67 (S.1 66 x2.toNatClampNeg).toNatClampNeg ((S.1 67 (S.1 66 x2.toNatClampNeg).toNatClampNeg) + (S.1 61 x2.toNatClampNeg))).1 66 x2.toNatClampNeg).toNatClampNeg) + ((ux_i S 67 (S.1 66 x2.toNatClampNeg).toNatClampNeg ((S.1 67 (S.1 66 x2.toNatClampNeg).toNatClampNeg) + (S.1 61 x2.toNatClampNeg))).1 60 x2.toNatClampNeg))).1 57 ((ux_i (ux_i S 67 (S.1 66 x2.toNatClampNeg).toNatClampNeg ((S.1 67 (S.1 66 x2.toNatClampNeg).toNatClampNeg) + (S.1 61 x2.toNatClampNeg))) 62 ((ux_i S 67 (S.1 66 x2.toNatClampNeg).toNatClampNeg ((S.1 67 (S.1 66 x2.toNatClampNeg).toNatClampNeg) + (S.1 61 x2.toNatClampNeg))).1 66 x2.toNatClampNeg).toNatClampNeg (((ux_i S 67 (S.1 66 x2.toNatClampNeg).toNatClampNeg ((S.1 67 (S.1 66 x2.toNatClampNeg).toNatClampNeg) + (S.1 61 x2.toNatClampNeg))).1 62 ((ux_i S 67 (S.1 66 x2.toNatClampNeg).toNatClampNeg ((S.1 67 (S.1 66 x2.toNatClampNeg).toNatClampNeg) + (S.1 61 x2.toNatClampNeg))).1 66 x2.toNatClampNeg).toNatClampNeg) + ((ux_i S 67 (S.1 66 x2.toNatClampNeg).toNatClampNeg ((S.1 67 (S.1 66 x2.toNatClampNeg).toNatClampNeg) + (S.1 61 x2.toNatClampNeg))).1 60 x2.toNatClampNeg))).1 66 x2.toNatClampNeg).toNatClampNeg < (ux_i (ux_i S 67 (S.1 66 x2.toNatClampNeg).toNatClampNeg ((S.1 67 (S.1 66 x2.toNatClampNeg).toNatClampNeg) + (S.1 61 x2.toNatClampNeg))) 62 ((ux_i S 67 (S.1 66 x2.toNatClampNeg).toNatClampNeg ((S.1 67 (S.1 66 x2.toNatClampNeg).toNatClampNeg) + (S.1 61 x2.toNatClampNeg))).1 66 x2.toNatClampNeg).toNatClampNeg (((ux_i S 67 (S.1 66 x2.toNatClampNeg).toNatClampNeg ((S.1 67 (S.1 66 x2.toNatClampNeg).toNatClampNeg) + (S.1 61 x2.toNatClampNeg))).1 62 ((ux_i S 67 (S.1 66 x2.toNatClampNeg).toNatClampNeg ((S.1 67 (S.1 66 x2.toNatClampNeg).toNatClampNeg) + (S.1 61 x2.toNatClampNeg))).1 66 x2.toNatClampNeg).toNatClampNeg) + ((ux_i S 67 (S.1 66 x2.toNatClampNeg).toNatClampNeg ((S.1 67 (S.1 66 x2.toNatClampNeg).toNatClampNeg) + (S.1 61 x2.toNatClampNeg))).1 60 x2.toNatClampNeg))).1 67 ((ux_i (ux_i S 67 (S.1 66 x2.toNatClampNeg).toNatClampNeg ((S.1 67 (S.1 66 x2.toNatClampNeg).toNatClampNeg) + (S.1 61 x2.toNatClampNeg))) 62 ((ux_i S 67 (S.1 66 x2.toNatClampNeg).toNatClampNeg ((S.1 67 (S.1 66 x2.toNatClampNeg).toNatClampNeg) + (S.1 61 x2.toNatClampNeg))).1 66 x2.toNatClampNeg).toNatClampNeg (((ux_i S 67 (S.1 66 x2.toNatClampNeg).toNatClampNeg ((S.1 67 (S.1 66 x2.toNatClampNeg).toNatClampNeg) + (S.1 61 x2.toNatClampNeg))).1 62 ((ux_i S 67 (S.1 66 x2.toNatClampNeg).toNatClampNeg ((S.1 67 (S.1 66 x2.toNatClampNeg).toNatClampNeg) + (S.1 61 x2.toNatClampNeg))).1 66 x2.toNatClampNeg).toNatClampNeg) + ((ux_i S 67 (S.1 66 x2.toNatClampNeg).toNatClampNeg ((S.1 67 (S.1 66 x2.toNatClampNeg).toNatClampNeg) + (S.1 61 x2.toNatClampNeg))).1 60 x2.toNatClampNeg))).1 66 x2.toNatClampNeg).toNatClampNeg then (k29 0 (x2 + 1) (ux_i (ux_i S 67 (S.1 66 x2.toNatClampNeg).toNatClampNeg ((S.1 67 (S.1 66 x2.toNatClampNeg).toNatClampNeg) + (S.1 61 x2.toNatClampNeg))) 62 ((ux_i S 67 (S.1 66 x2.toNatClampNeg).toNatClampNeg ((S.1 67 (S.1 66 x2.toNatClampNeg).toNatClampNeg) + (S.1 61 x2.toNatClampNeg))).1 66 x2.toNatClampNeg).toNatClampNeg (((ux_i S 67 (S.1 66 x2.toNatClampNeg).toNatClampNeg ((S.1 67 (S.1 66 x2.toNatClampNeg).toNatClampNeg) + (S.1 61 x2.toNatClampNeg))).1 62 ((ux_i S 67 (S.1 66 x2.toNatClampNeg).toNatClampNeg ((S.1 67 (S.1 66 x2.toNatClampNeg).toNatClampNeg) + (S.1 61 x2.toNatClampNeg))).1 66 x2.toNatClampNeg).toNatClampNeg) + ((ux_i S 67 (S.1 66 x2.toNatClampNeg).toNatClampNeg ((S.1 67 (S.1 66 x2.toNatClampNeg).toNatClampNeg) + (S.1 61 x2.toNatClampNeg))).1 60 x2.toNatClampNeg)))) else (k29 1 (x2 + 1) (ux_i (ux_i S 67 (S.1 66 x2.toNatClampNeg).toNatClampNeg ((S.1 67 (S.1 66 x2.toNatClampNeg).toNatClampNeg) + (S.1 61 x2.toNatClampNeg))) 62 ((ux_i S 67 (S.1 66 x2.toNatClampNeg).toNatClampNeg ((S.1 67 (S.1 66 x2.toNatClampNeg).toNatClampNeg) + (S.1 61 x2.toNatClampNeg))).1 66 x2.toNatClampNeg).toNatClampNeg (((ux_i S 67 (S.1 66 x2.toNatClampNeg).toNatClampNeg ((S.1 67 (S.1 66 x2.toNatClampNeg).toNatClampNeg) + (S.1 61 x2.toNatClampNeg))).1 62 ((ux_i S 67 (S.1 66 x2.toNatClampNeg).toNatClampNeg ((S.1 67 (S.1 66 x2.toNatClampNeg).toNatClampNeg) + (S.1 61 x2.toNatClampNeg))).1 66 x2.toNatClampNeg).toNatClampNeg) + ((ux_i S 67 (S.1 66 x2.toNatClampNeg).toNatClampNeg ((S.1 67 (S.1 66 x2.toNatClampNeg).toNatClampNeg) + (S.1 61 x2.toNatClampNeg))).1 60 x2.toNatClampNeg))))))))))))))))))
set_option maxHeartbeats 2000000 in
set_option maxRecDepth 10000 in
theorem w_X8_tryRow_29 {l : Launch} {G : ux_G} {n : Nat} {Z : ux_S} (k29 : Int32 → Int32 → ux_S → Option ux_S) (hk29 : ∀ (x1 x2 : Int32) (S : ux_S), k29 x1 x2 S = some Z → ux_At l G RX8 cX8_tryRow 5 none 2 none Z 29 [(0, .ref (ux_a G 8)), (1, .int x1), (2, .int x2)] [] S) : ∀ (x1 : Int32) (x2 : Int32) (S : ux_S), b_X8_tryRow_29 n k29 x1 x2 S = some Z → ux_At l G RX8 cX8_tryRow 5 none 2 none Z 29 [(0, .ref (ux_a G 8)), (1, .int x1), (2, .int x2)] [] S := by
  intro x1 x2 S hf
  unfold b_X8_tryRow_29 at hf
  refine ax_iload_n 30 dX8_tryRow_29 rfl 2 rfl rfl ?_
  refine ax_aload_n 31 dX8_tryRow_30 rfl 0 rfl rfl ?_
  refine ax_geti 34 dX8_tryRow_31 fg_X8_149 rfl rfl ?_
  refine ax_icmp_ge 118 37 dX8_tryRow_34 (by decide) rfl (fun c5 => ?_) (fun c5 => ?_)
  · have hf := ux_ift c5 hf
    refine ax_iload_n 119 dX8_tryRow_118 rfl 1 rfl rfl ?_
    refine ax_if_ne 123 122 dX8_tryRow_119 (by decide) rfl (fun c6 => ?_) (fun c6 => ?_)
    · have hf := ux_iff c6 hf
      refine ax_aload_n 124 dX8_tryRow_123 rfl 0 rfl rfl ?_
      refine ax_dup 125 dX8_tryRow_124 rfl rfl ?_
      refine ax_geti 128 dX8_tryRow_125 fg_X8_152 rfl rfl ?_
      refine ax_iconst (v := 1) 129 dX8_tryRow_128 (by decide) rfl ?_
      refine ax_iadd 130 dX8_tryRow_129 rfl ?_
      refine ax_put 133 dX8_tryRow_130 fp_X8_152 rfl ?_
      refine ax_bipush (v := (-4)) 135 dX8_tryRow_133 (by decide) rfl ?_
      refine ax_istore_n 136 dX8_tryRow_135 rfl (by decide) [1, 0] [(0, .ref (ux_a G 8)), (2, .int (-4))] rfl rfl ?_
      refine ax_iconst (v := 0) 137 dX8_tryRow_136 (by decide) rfl ?_
      refine ax_istore_n 138 dX8_tryRow_137 rfl (by decide) [1, 2, 0] [(0, .ref (ux_a G 8)), (2, .int (-4)), (3, .int 0)] rfl rfl ?_
      exact ax_sub [0, 1, 2] rfl (ux_lp2_w (Pr := fun x2 x3 S => ux_At l G RX8 cX8_tryRow 5 none 2 none Z 138 [(0, .ref (ux_a G 8)), (2, .int x2), (3, .int x3)] [] S) (fun k138 hk138 => w_X8_tryRow_138 k138 hk138) n (-4) 0 (ux_i S 8 19 ((S.1 8 19) + (1 : Int32))) hf)
    · have hf := ux_ift c6 hf
      exact ax_vret dX8_tryRow_122 hf
  · have hf := ux_iff c5 hf
    refine ax_aload_n 38 dX8_tryRow_37 rfl 0 rfl rfl ?_
    refine ax_getr 67 41 dX8_tryRow_38 fg_X8_60 rfl (by decide) rfl ?_
    refine ax_aload_n 42 dX8_tryRow_41 rfl 0 rfl rfl ?_
    refine ax_getr 66 45 dX8_tryRow_42 fg_X8_57 rfl (by decide) rfl ?_
    refine ax_iload_n 46 dX8_tryRow_45 rfl 2 rfl rfl ?_
    obtain ⟨h17, hf⟩ := ux_gd_e hf
    refine ax_iald 47 dX8_tryRow_46 (by decide) rfl h17 rfl ?_
    refine ax_dup2 48 dX8_tryRow_47 rfl rfl rfl ?_
    obtain ⟨h18, hf⟩ := ux_gd_e hf
    refine ax_iald 49 dX8_tryRow_48 (by decide) rfl h18 rfl ?_
    refine ax_aload_n 50 dX8_tryRow_49 rfl 0 rfl rfl ?_
    refine ax_getr 61 53 dX8_tryRow_50 fg_X8_41 rfl (by decide) rfl ?_
    refine ax_iload_n 54 dX8_tryRow_53 rfl 2 rfl rfl ?_
    obtain ⟨h19, hf⟩ := ux_gd_e hf
    refine ax_iald 55 dX8_tryRow_54 (by decide) rfl h19 rfl ?_
    refine ax_iadd 56 dX8_tryRow_55 rfl ?_
    obtain ⟨h20, hf⟩ := ux_gd_e hf
    refine ax_iast 57 dX8_tryRow_56 (by decide) rfl h20 rfl ?_
    refine ax_aload_n 58 dX8_tryRow_57 rfl 0 rfl rfl ?_
    refine ax_getr 62 61 dX8_tryRow_58 fg_X8_44 rfl (by decide) rfl ?_
    refine ax_aload_n 62 dX8_tryRow_61 rfl 0 rfl rfl ?_
    refine ax_getr 66 65 dX8_tryRow_62 fg_X8_57 rfl (by decide) rfl ?_
    refine ax_iload_n 66 dX8_tryRow_65 rfl 2 rfl rfl ?_
    obtain ⟨h21, hf⟩ := ux_gd_e hf
    refine ax_iald 67 dX8_tryRow_66 (by decide) rfl h21 rfl ?_
    refine ax_dup2 68 dX8_tryRow_67 rfl rfl rfl ?_
    obtain ⟨h22, hf⟩ := ux_gd_e hf
    refine ax_iald 69 dX8_tryRow_68 (by decide) rfl h22 rfl ?_
    refine ax_aload_n 70 dX8_tryRow_69 rfl 0 rfl rfl ?_
    refine ax_getr 60 73 dX8_tryRow_70 fg_X8_38 rfl (by decide) rfl ?_
    refine ax_iload_n 74 dX8_tryRow_73 rfl 2 rfl rfl ?_
    obtain ⟨h23, hf⟩ := ux_gd_e hf
    refine ax_iald 75 dX8_tryRow_74 (by decide) rfl h23 rfl ?_
    refine ax_iadd 76 dX8_tryRow_75 rfl ?_
    obtain ⟨h24, hf⟩ := ux_gd_e hf
    refine ax_iast 77 dX8_tryRow_76 (by decide) rfl h24 rfl ?_
    refine ax_iload_n 78 dX8_tryRow_77 rfl 1 rfl rfl ?_
    refine ax_if_eq 110 81 dX8_tryRow_78 (by decide) rfl (fun c25 => ?_) (fun c25 => ?_)
    · have hf := ux_ift c25 hf
      refine ax_iconst (v := 0) 111 dX8_tryRow_110 (by decide) rfl ?_
      refine ax_istore_n 112 dX8_tryRow_111 rfl (by decide) [1, 0, 2] [(0, .ref (ux_a G 8)), (1, .int 0), (2, .int x2)] rfl rfl ?_
      refine ax_iinc (v := x2 + 1) 115 dX8_tryRow_112 2 rfl rfl (by decide) [1, 2, 0] [(0, .ref (ux_a G 8)), (1, .int 0), (2, .int (x2 + 1))] rfl rfl ?_
      refine ax_goto 29 dX8_tryRow_115 (by decide) ?_
      exact ax_sub [0, 1, 2] rfl (hk29 0 (x2 + 1) (ux_i (ux_i S 67 (S.1 66 x2.toNatClampNeg).toNatClampNeg ((S.1 67 (S.1 66 x2.toNatClampNeg).toNatClampNeg) + (S.1 61 x2.toNatClampNeg))) 62 ((ux_i S 67 (S.1 66 x2.toNatClampNeg).toNatClampNeg ((S.1 67 (S.1 66 x2.toNatClampNeg).toNatClampNeg) + (S.1 61 x2.toNatClampNeg))).1 66 x2.toNatClampNeg).toNatClampNeg (((ux_i S 67 (S.1 66 x2.toNatClampNeg).toNatClampNeg ((S.1 67 (S.1 66 x2.toNatClampNeg).toNatClampNeg) + (S.1 61 x2.toNatClampNeg))).1 62 ((ux_i S 67 (S.1 66 x2.toNatClampNeg).toNatClampNeg ((S.1 67 (S.1 66 x2.toNatClampNeg).toNatClampNeg) + (S.1 61 x2.toNatClampNeg))).1 66 x2.toNatClampNeg).toNatClampNeg) + ((ux_i S 67 (S.1 66 x2.toNatClampNeg).toNatClampNeg ((S.1 67 (S.1 66 x2.toNatClampNeg).toNatClampNeg) + (S.1 61 x2.toNatClampNeg))).1 60 x2.toNatClampNeg))) hf)
    · have hf := ux_iff c25 hf
      refine ax_aload_n 82 dX8_tryRow_81 rfl 0 rfl rfl ?_
      refine ax_getr 67 85 dX8_tryRow_82 fg_X8_60 rfl (by decide) rfl ?_
      refine ax_aload_n 86 dX8_tryRow_85 rfl 0 rfl rfl ?_
      refine ax_getr 66 89 dX8_tryRow_86 fg_X8_57 rfl (by decide) rfl ?_
      refine ax_iload_n 90 dX8_tryRow_89 rfl 2 rfl rfl ?_
      obtain ⟨h26, hf⟩ := ux_gd_e hf
      refine ax_iald 91 dX8_tryRow_90 (by decide) rfl h26 rfl ?_
      obtain ⟨h27, hf⟩ := ux_gd_e hf
      refine ax_iald 92 dX8_tryRow_91 (by decide) rfl h27 rfl ?_
      refine ax_aload_n 93 dX8_tryRow_92 rfl 0 rfl rfl ?_
      refine ax_getr 57 96 dX8_tryRow_93 fg_X8_19 rfl (by decide) rfl ?_
      refine ax_aload_n 97 dX8_tryRow_96 rfl 0 rfl rfl ?_
      refine ax_getr 66 100 dX8_tryRow_97 fg_X8_57 rfl (by decide) rfl ?_
      refine ax_iload_n 101 dX8_tryRow_100 rfl 2 rfl rfl ?_
      obtain ⟨h28, hf⟩ := ux_gd_e hf
      refine ax_iald 102 dX8_tryRow_101 (by decide) rfl h28 rfl ?_
      obtain ⟨h29, hf⟩ := ux_gd_e hf
      refine ax_iald 103 dX8_tryRow_102 (by decide) rfl h29 rfl ?_
      refine ax_icmp_gt 110 106 dX8_tryRow_103 (by decide) rfl (fun c30 => ?_) (fun c30 => ?_)
      · have hf := ux_ift c30 hf
        refine ax_iconst (v := 0) 111 dX8_tryRow_110 (by decide) rfl ?_
        refine ax_istore_n 112 dX8_tryRow_111 rfl (by decide) [1, 0, 2] [(0, .ref (ux_a G 8)), (1, .int 0), (2, .int x2)] rfl rfl ?_
        refine ax_iinc (v := x2 + 1) 115 dX8_tryRow_112 2 rfl rfl (by decide) [1, 2, 0] [(0, .ref (ux_a G 8)), (1, .int 0), (2, .int (x2 + 1))] rfl rfl ?_
        refine ax_goto 29 dX8_tryRow_115 (by decide) ?_
        exact ax_sub [0, 1, 2] rfl (hk29 0 (x2 + 1) (ux_i (ux_i S 67 (S.1 66 x2.toNatClampNeg).toNatClampNeg ((S.1 67 (S.1 66 x2.toNatClampNeg).toNatClampNeg) + (S.1 61 x2.toNatClampNeg))) 62 ((ux_i S 67 (S.1 66 x2.toNatClampNeg).toNatClampNeg ((S.1 67 (S.1 66 x2.toNatClampNeg).toNatClampNeg) + (S.1 61 x2.toNatClampNeg))).1 66 x2.toNatClampNeg).toNatClampNeg (((ux_i S 67 (S.1 66 x2.toNatClampNeg).toNatClampNeg ((S.1 67 (S.1 66 x2.toNatClampNeg).toNatClampNeg) + (S.1 61 x2.toNatClampNeg))).1 62 ((ux_i S 67 (S.1 66 x2.toNatClampNeg).toNatClampNeg ((S.1 67 (S.1 66 x2.toNatClampNeg).toNatClampNeg) + (S.1 61 x2.toNatClampNeg))).1 66 x2.toNatClampNeg).toNatClampNeg) + ((ux_i S 67 (S.1 66 x2.toNatClampNeg).toNatClampNeg ((S.1 67 (S.1 66 x2.toNatClampNeg).toNatClampNeg) + (S.1 61 x2.toNatClampNeg))).1 60 x2.toNatClampNeg))) hf)
      · have hf := ux_iff c30 hf
        refine ax_iconst (v := 1) 107 dX8_tryRow_106 (by decide) rfl ?_
        refine ax_goto 111 dX8_tryRow_107 (by decide) ?_
        refine ax_istore_n 112 dX8_tryRow_111 rfl (by decide) [1, 0, 2] [(0, .ref (ux_a G 8)), (1, .int 1), (2, .int x2)] rfl rfl ?_
        refine ax_iinc (v := x2 + 1) 115 dX8_tryRow_112 2 rfl rfl (by decide) [1, 2, 0] [(0, .ref (ux_a G 8)), (1, .int 1), (2, .int (x2 + 1))] rfl rfl ?_
        refine ax_goto 29 dX8_tryRow_115 (by decide) ?_
        exact ax_sub [0, 1, 2] rfl (hk29 1 (x2 + 1) (ux_i (ux_i S 67 (S.1 66 x2.toNatClampNeg).toNatClampNeg ((S.1 67 (S.1 66 x2.toNatClampNeg).toNatClampNeg) + (S.1 61 x2.toNatClampNeg))) 62 ((ux_i S 67 (S.1 66 x2.toNatClampNeg).toNatClampNeg ((S.1 67 (S.1 66 x2.toNatClampNeg).toNatClampNeg) + (S.1 61 x2.toNatClampNeg))).1 66 x2.toNatClampNeg).toNatClampNeg (((ux_i S 67 (S.1 66 x2.toNatClampNeg).toNatClampNeg ((S.1 67 (S.1 66 x2.toNatClampNeg).toNatClampNeg) + (S.1 61 x2.toNatClampNeg))).1 62 ((ux_i S 67 (S.1 66 x2.toNatClampNeg).toNatClampNeg ((S.1 67 (S.1 66 x2.toNatClampNeg).toNatClampNeg) + (S.1 61 x2.toNatClampNeg))).1 66 x2.toNatClampNeg).toNatClampNeg) + ((ux_i S 67 (S.1 66 x2.toNatClampNeg).toNatClampNeg ((S.1 67 (S.1 66 x2.toNatClampNeg).toNatClampNeg) + (S.1 61 x2.toNatClampNeg))).1 60 x2.toNatClampNeg))) hf)
def b_X8_tryRow_6 (n : Nat) (k6 : Int32 → ux_S → Option ux_S) (x1 : Int32) (S : ux_S) : Option ux_S :=
  if 8 ≤ x1 then (ux_lp2 (b_X8_tryRow_29 n) n 1 0 S) else (ux_gd (ux_ib x1 8) (k6 (x1 + 1) (ux_i S 67 x1.toNatClampNeg 0)))
set_option maxHeartbeats 2000000 in
set_option maxRecDepth 10000 in
theorem w_X8_tryRow_6 {l : Launch} {G : ux_G} {n : Nat} {Z : ux_S} (k6 : Int32 → ux_S → Option ux_S) (hk6 : ∀ (x1 : Int32) (S : ux_S), k6 x1 S = some Z → ux_At l G RX8 cX8_tryRow 5 none 2 none Z 6 [(0, .ref (ux_a G 8)), (1, .int x1)] [] S) : ∀ (x1 : Int32) (S : ux_S), b_X8_tryRow_6 n k6 x1 S = some Z → ux_At l G RX8 cX8_tryRow 5 none 2 none Z 6 [(0, .ref (ux_a G 8)), (1, .int x1)] [] S := by
  intro x1 S hf
  unfold b_X8_tryRow_6 at hf
  refine ax_iload_n 7 dX8_tryRow_6 rfl 1 rfl rfl ?_
  refine ax_bipush (v := 8) 9 dX8_tryRow_7 (by decide) rfl ?_
  refine ax_icmp_ge 25 12 dX8_tryRow_9 (by decide) rfl (fun c4 => ?_) (fun c4 => ?_)
  · have hf := ux_ift c4 hf
    refine ax_iconst (v := 1) 26 dX8_tryRow_25 (by decide) rfl ?_
    refine ax_istore_n 27 dX8_tryRow_26 rfl (by decide) [1, 0] [(0, .ref (ux_a G 8)), (1, .int 1)] rfl rfl ?_
    refine ax_iconst (v := 0) 28 dX8_tryRow_27 (by decide) rfl ?_
    refine ax_istore_n 29 dX8_tryRow_28 rfl (by decide) [1, 2, 0] [(0, .ref (ux_a G 8)), (1, .int 1), (2, .int 0)] rfl rfl ?_
    exact ax_sub [0, 1, 2] rfl (ux_lp2_w (Pr := fun x1 x2 S => ux_At l G RX8 cX8_tryRow 5 none 2 none Z 29 [(0, .ref (ux_a G 8)), (1, .int x1), (2, .int x2)] [] S) (fun k29 hk29 => w_X8_tryRow_29 k29 hk29) n 1 0 S hf)
  · have hf := ux_iff c4 hf
    refine ax_aload_n 13 dX8_tryRow_12 rfl 0 rfl rfl ?_
    refine ax_getr 67 16 dX8_tryRow_13 fg_X8_60 rfl (by decide) rfl ?_
    refine ax_iload_n 17 dX8_tryRow_16 rfl 1 rfl rfl ?_
    refine ax_iconst (v := 0) 18 dX8_tryRow_17 (by decide) rfl ?_
    obtain ⟨h31, hf⟩ := ux_gd_e hf
    refine ax_iast 19 dX8_tryRow_18 (by decide) rfl h31 rfl ?_
    refine ax_iinc (v := x1 + 1) 22 dX8_tryRow_19 1 rfl rfl (by decide) [1, 0] [(0, .ref (ux_a G 8)), (1, .int (x1 + 1))] rfl rfl ?_
    refine ax_goto 6 dX8_tryRow_22 (by decide) ?_
    exact ax_sub [0, 1] rfl (hk6 (x1 + 1) (ux_i S 67 x1.toNatClampNeg 0) hf)
def f_X8_tryRow (n : Nat) (S : ux_S) : Option ux_S :=
  ux_bv (f_X8_clearAdded n S ) (fun S2 => ux_lp1 (b_X8_tryRow_6 n) n 0 S2)
set_option maxHeartbeats 2000000 in
set_option maxRecDepth 10000 in
theorem m_X8_tryRow {l : Launch} {G : ux_G} {n : Nat} {S : ux_S} {Z : ux_S} (hf : f_X8_tryRow n S = some Z) : ux_M l G yX8_tryRow cX8_tryRow 5 none 2 [.ref (ux_a G 8)] S none Z := by
  refine ux_of (by decide) (Nat.le_of_ble_eq_true rfl) ?_
  show ux_At l G RX8 cX8_tryRow 5 none 2 none Z 0 [(0, .ref (ux_a G 8))] [] S
  unfold f_X8_tryRow at hf
  refine ax_aload_n 1 dX8_tryRow_0 rfl 0 rfl rfl ?_
  obtain ⟨S2, e1, hf⟩ := ux_bv_e hf
  refine ax_callVv 4 [] dX8_tryRow_1 fv_X8_133 (m_X8_clearAdded e1) (by decide) rfl rfl (by decide) rfl rfl (Nat.le_of_ble_eq_true rfl) rfl ?_
  refine ax_iconst (v := 0) 5 dX8_tryRow_4 (by decide) rfl ?_
  refine ax_istore_n 6 dX8_tryRow_5 rfl (by decide) [1, 0] [(0, .ref (ux_a G 8)), (1, .int 0)] rfl rfl ?_
  exact ax_sub [0, 1] rfl (ux_lp1_w (Pr := fun x1 S => ux_At l G RX8 cX8_tryRow 5 none 2 none Z 6 [(0, .ref (ux_a G 8)), (1, .int x1)] [] S) (fun k6 hk6 => w_X8_tryRow_6 k6 hk6) n 0 S2 hf)
def b_X8_tryAll_60 (n : Nat) (k45 : Int32 → Int32 → ux_S → Option ux_S) (k60 : Int32 → Int32 → Int32 → Int32 → ux_S → Option ux_S) (x1 : Int32) (x2 : Int32) (x3 : Int32) (x4 : Int32) (S : ux_S) : Option ux_S :=
  if x4 < 0 then (ux_bv (f_X8_tryRow n S ) (fun S8 => k45 x1 (x2 + 1) S8)) else (ux_gd (ux_nz (S.1 8 0)) (ux_gd (ux_ib x4 5) (ux_gd (ux_nz ((ux_i S 66 x4.toNatClampNeg (x3 - x3 / (S.1 8 0) * (S.1 8 0))).1 8 0)) (k60 x1 x2 (x3 / ((ux_i S 66 x4.toNatClampNeg (x3 - x3 / (S.1 8 0) * (S.1 8 0))).1 8 0)) (x4 + (-1)) (ux_i S 66 x4.toNatClampNeg (x3 - x3 / (S.1 8 0) * (S.1 8 0)))))))
set_option maxHeartbeats 2000000 in
set_option maxRecDepth 10000 in
theorem w_X8_tryAll_60 {l : Launch} {G : ux_G} {n : Nat} {Z : ux_S} (k45 : Int32 → Int32 → ux_S → Option ux_S) (hk45 : ∀ (x1 x2 : Int32) (S : ux_S), k45 x1 x2 S = some Z → ux_At l G RX8 cX8_tryAll 5 none 3 none Z 45 [(0, .ref (ux_a G 8)), (1, .int x1), (2, .int x2)] [] S) (k60 : Int32 → Int32 → Int32 → Int32 → ux_S → Option ux_S) (hk60 : ∀ (x1 x2 x3 x4 : Int32) (S : ux_S), k60 x1 x2 x3 x4 S = some Z → ux_At l G RX8 cX8_tryAll 5 none 3 none Z 60 [(0, .ref (ux_a G 8)), (1, .int x1), (2, .int x2), (3, .int x3), (4, .int x4)] [] S) : ∀ (x1 : Int32) (x2 : Int32) (x3 : Int32) (x4 : Int32) (S : ux_S), b_X8_tryAll_60 n k45 k60 x1 x2 x3 x4 S = some Z → ux_At l G RX8 cX8_tryAll 5 none 3 none Z 60 [(0, .ref (ux_a G 8)), (1, .int x1), (2, .int x2), (3, .int x3), (4, .int x4)] [] S := by
  intro x1 x2 x3 x4 S hf
  unfold b_X8_tryAll_60 at hf
  refine ax_iload 62 dX8_tryAll_60 4 rfl rfl ?_
  refine ax_if_lt 91 65 dX8_tryAll_62 (by decide) rfl (fun c6 => ?_) (fun c6 => ?_)
  · have hf := ux_ift c6 hf
    refine ax_aload_n 92 dX8_tryAll_91 rfl 0 rfl rfl ?_
    obtain ⟨S8, e7, hf⟩ := ux_bv_e hf
    refine ax_callVv 95 [] dX8_tryAll_92 fv_X8_158 (m_X8_tryRow e7) (by decide) rfl rfl (by decide) rfl rfl (Nat.le_of_ble_eq_true rfl) rfl ?_
    refine ax_iinc (v := x2 + 1) 98 dX8_tryAll_95 2 rfl rfl (by decide) [1, 2, 0] [(0, .ref (ux_a G 8)), (1, .int x1), (2, .int (x2 + 1))] rfl rfl ?_
    refine ax_goto 45 dX8_tryAll_98 (by decide) ?_
    exact ax_sub [0, 1, 2] rfl (hk45 x1 (x2 + 1) S8 hf)
  · have hf := ux_iff c6 hf
    refine ax_aload_n 66 dX8_tryAll_65 rfl 0 rfl rfl ?_
    refine ax_getr 66 69 dX8_tryAll_66 fg_X8_57 rfl (by decide) rfl ?_
    refine ax_iload 71 dX8_tryAll_69 4 rfl rfl ?_
    refine ax_iload_n 72 dX8_tryAll_71 rfl 3 rfl rfl ?_
    refine ax_aload_n 73 dX8_tryAll_72 rfl 0 rfl rfl ?_
    refine ax_geti 76 dX8_tryAll_73 fg_X8_112 rfl rfl ?_
    obtain ⟨h10, hf⟩ := ux_gd_e hf
    refine ax_irem 77 dX8_tryAll_76 (ux_nz_of h10) rfl ?_
    obtain ⟨h11, hf⟩ := ux_gd_e hf
    refine ax_iast 78 dX8_tryAll_77 (by decide) rfl h11 rfl ?_
    refine ax_iload_n 79 dX8_tryAll_78 rfl 3 rfl rfl ?_
    refine ax_aload_n 80 dX8_tryAll_79 rfl 0 rfl rfl ?_
    refine ax_geti 83 dX8_tryAll_80 fg_X8_112 rfl rfl ?_
    obtain ⟨h12, hf⟩ := ux_gd_e hf
    refine ax_idiv 84 dX8_tryAll_83 (ux_nz_of h12) rfl ?_
    refine ax_istore_n 85 dX8_tryAll_84 rfl (by decide) [1, 2, 3, 0, 4] [(0, .ref (ux_a G 8)), (1, .int x1), (2, .int x2), (3, .int (x3 / ((ux_i S 66 x4.toNatClampNeg (x3 - x3 / (S.1 8 0) * (S.1 8 0))).1 8 0))), (4, .int x4)] rfl rfl ?_
    refine ax_iinc (v := x4 + (-1)) 88 dX8_tryAll_85 4 rfl rfl (by decide) [1, 2, 3, 4, 0] [(0, .ref (ux_a G 8)), (1, .int x1), (2, .int x2), (3, .int (x3 / ((ux_i S 66 x4.toNatClampNeg (x3 - x3 / (S.1 8 0) * (S.1 8 0))).1 8 0))), (4, .int (x4 + (-1)))] rfl rfl ?_
    refine ax_goto 60 dX8_tryAll_88 (by decide) ?_
    exact ax_sub [0, 1, 2, 3, 4] rfl (hk60 x1 x2 (x3 / ((ux_i S 66 x4.toNatClampNeg (x3 - x3 / (S.1 8 0) * (S.1 8 0))).1 8 0)) (x4 + (-1)) (ux_i S 66 x4.toNatClampNeg (x3 - x3 / (S.1 8 0) * (S.1 8 0))) hf)
def b_X8_tryAll_45 (n : Nat) (k45 : Int32 → Int32 → ux_S → Option ux_S) (x1 : Int32) (x2 : Int32) (S : ux_S) : Option ux_S :=
  if x1 ≤ x2 then (ux_bv (f_X8_clearAdded n S ) (fun S4 => some S4)) else (ux_lp4 (b_X8_tryAll_60 n k45) n x1 x2 x2 ((S.1 8 10) - (1 : Int32)) S)
set_option maxHeartbeats 2000000 in
set_option maxRecDepth 10000 in
theorem w_X8_tryAll_45 {l : Launch} {G : ux_G} {n : Nat} {Z : ux_S} (k45 : Int32 → Int32 → ux_S → Option ux_S) (hk45 : ∀ (x1 x2 : Int32) (S : ux_S), k45 x1 x2 S = some Z → ux_At l G RX8 cX8_tryAll 5 none 3 none Z 45 [(0, .ref (ux_a G 8)), (1, .int x1), (2, .int x2)] [] S) : ∀ (x1 : Int32) (x2 : Int32) (S : ux_S), b_X8_tryAll_45 n k45 x1 x2 S = some Z → ux_At l G RX8 cX8_tryAll 5 none 3 none Z 45 [(0, .ref (ux_a G 8)), (1, .int x1), (2, .int x2)] [] S := by
  intro x1 x2 S hf
  unfold b_X8_tryAll_45 at hf
  refine ax_iload_n 46 dX8_tryAll_45 rfl 2 rfl rfl ?_
  refine ax_iload_n 47 dX8_tryAll_46 rfl 1 rfl rfl ?_
  refine ax_icmp_ge 101 50 dX8_tryAll_47 (by decide) rfl (fun c2 => ?_) (fun c2 => ?_)
  · have hf := ux_ift c2 hf
    refine ax_aload_n 102 dX8_tryAll_101 rfl 0 rfl rfl ?_
    obtain ⟨S4, e3, hf⟩ := ux_bv_e hf
    refine ax_callVv 105 [] dX8_tryAll_102 fv_X8_133 (m_X8_clearAdded e3) (by decide) rfl rfl (by decide) rfl rfl (Nat.le_of_ble_eq_true rfl) rfl ?_
    exact ax_vret dX8_tryAll_105 hf
  · have hf := ux_iff c2 hf
    refine ax_iload_n 51 dX8_tryAll_50 rfl 2 rfl rfl ?_
    refine ax_istore_n 52 dX8_tryAll_51 rfl (by decide) [1, 2, 3, 0] [(0, .ref (ux_a G 8)), (1, .int x1), (2, .int x2), (3, .int x2)] rfl rfl ?_
    refine ax_aload_n 53 dX8_tryAll_52 rfl 0 rfl rfl ?_
    refine ax_geti 56 dX8_tryAll_53 fg_X8_149 rfl rfl ?_
    refine ax_iconst (v := 1) 57 dX8_tryAll_56 (by decide) rfl ?_
    refine ax_isub 58 dX8_tryAll_57 rfl ?_
    refine ax_istore 60 dX8_tryAll_58 (by decide) [1, 2, 3, 4, 0] [(0, .ref (ux_a G 8)), (1, .int x1), (2, .int x2), (3, .int x2), (4, .int ((S.1 8 10) - (1 : Int32)))] rfl rfl ?_
    exact ax_sub [0, 1, 2, 3, 4] rfl (ux_lp4_w (Pr := fun x1 x2 x3 x4 S => ux_At l G RX8 cX8_tryAll 5 none 3 none Z 60 [(0, .ref (ux_a G 8)), (1, .int x1), (2, .int x2), (3, .int x3), (4, .int x4)] [] S) (fun k60 hk60 => w_X8_tryAll_60 k45 hk45 k60 hk60) n x1 x2 x2 ((S.1 8 10) - (1 : Int32)) S hf)
def b_X8_tryAll_15 (n : Nat) (k15 : Int32 → Int32 → ux_S → Option ux_S) (x1 : Int32) (x2 : Int32) (S : ux_S) : Option ux_S :=
  if S.1 8 10 ≤ x2 then (ux_lp2 (b_X8_tryAll_45 n) n x1 0 S) else (ux_gd (ux_ib x2 5) (k15 (x1 * (S.1 8 0)) (x2 + 1) (ux_i S 66 x2.toNatClampNeg 0)))
set_option maxHeartbeats 2000000 in
set_option maxRecDepth 10000 in
theorem w_X8_tryAll_15 {l : Launch} {G : ux_G} {n : Nat} {Z : ux_S} (k15 : Int32 → Int32 → ux_S → Option ux_S) (hk15 : ∀ (x1 x2 : Int32) (S : ux_S), k15 x1 x2 S = some Z → ux_At l G RX8 cX8_tryAll 5 none 3 none Z 15 [(0, .ref (ux_a G 8)), (1, .int x1), (2, .int x2)] [] S) : ∀ (x1 : Int32) (x2 : Int32) (S : ux_S), b_X8_tryAll_15 n k15 x1 x2 S = some Z → ux_At l G RX8 cX8_tryAll 5 none 3 none Z 15 [(0, .ref (ux_a G 8)), (1, .int x1), (2, .int x2)] [] S := by
  intro x1 x2 S hf
  unfold b_X8_tryAll_15 at hf
  refine ax_iload_n 16 dX8_tryAll_15 rfl 2 rfl rfl ?_
  refine ax_aload_n 17 dX8_tryAll_16 rfl 0 rfl rfl ?_
  refine ax_geti 20 dX8_tryAll_17 fg_X8_149 rfl rfl ?_
  refine ax_icmp_ge 43 23 dX8_tryAll_20 (by decide) rfl (fun c1 => ?_) (fun c1 => ?_)
  · have hf := ux_ift c1 hf
    refine ax_iconst (v := 0) 44 dX8_tryAll_43 (by decide) rfl ?_
    refine ax_istore_n 45 dX8_tryAll_44 rfl (by decide) [1, 2, 0] [(0, .ref (ux_a G 8)), (1, .int x1), (2, .int 0)] rfl rfl ?_
    exact ax_sub [0, 1, 2] rfl (ux_lp2_w (Pr := fun x1 x2 S => ux_At l G RX8 cX8_tryAll 5 none 3 none Z 45 [(0, .ref (ux_a G 8)), (1, .int x1), (2, .int x2)] [] S) (fun k45 hk45 => w_X8_tryAll_45 k45 hk45) n x1 0 S hf)
  · have hf := ux_iff c1 hf
    refine ax_iload_n 24 dX8_tryAll_23 rfl 1 rfl rfl ?_
    refine ax_aload_n 25 dX8_tryAll_24 rfl 0 rfl rfl ?_
    refine ax_geti 28 dX8_tryAll_25 fg_X8_112 rfl rfl ?_
    refine ax_imul 29 dX8_tryAll_28 rfl ?_
    refine ax_istore_n 30 dX8_tryAll_29 rfl (by decide) [1, 0, 2] [(0, .ref (ux_a G 8)), (1, .int (x1 * (S.1 8 0))), (2, .int x2)] rfl rfl ?_
    refine ax_aload_n 31 dX8_tryAll_30 rfl 0 rfl rfl ?_
    refine ax_getr 66 34 dX8_tryAll_31 fg_X8_57 rfl (by decide) rfl ?_
    refine ax_iload_n 35 dX8_tryAll_34 rfl 2 rfl rfl ?_
    refine ax_iconst (v := 0) 36 dX8_tryAll_35 (by decide) rfl ?_
    obtain ⟨h13, hf⟩ := ux_gd_e hf
    refine ax_iast 37 dX8_tryAll_36 (by decide) rfl h13 rfl ?_
    refine ax_iinc (v := x2 + 1) 40 dX8_tryAll_37 2 rfl rfl (by decide) [1, 2, 0] [(0, .ref (ux_a G 8)), (1, .int (x1 * (S.1 8 0))), (2, .int (x2 + 1))] rfl rfl ?_
    refine ax_goto 15 dX8_tryAll_40 (by decide) ?_
    exact ax_sub [0, 1, 2] rfl (hk15 (x1 * (S.1 8 0)) (x2 + 1) (ux_i S 66 x2.toNatClampNeg 0) hf)
def f_X8_tryAll (n : Nat) (S : ux_S) : Option ux_S :=
  ux_lp2 (b_X8_tryAll_15 n) n 1 0 (ux_i (ux_i S 8 19 0) 8 20 (-4))
set_option maxHeartbeats 2000000 in
set_option maxRecDepth 10000 in
theorem m_X8_tryAll {l : Launch} {G : ux_G} {n : Nat} {S : ux_S} {Z : ux_S} (hf : f_X8_tryAll n S = some Z) : ux_M l G yX8_tryAll cX8_tryAll 5 none 3 [.ref (ux_a G 8)] S none Z := by
  refine ux_of (by decide) (Nat.le_of_ble_eq_true rfl) ?_
  show ux_At l G RX8 cX8_tryAll 5 none 3 none Z 0 [(0, .ref (ux_a G 8))] [] S
  unfold f_X8_tryAll at hf
  refine ax_aload_n 1 dX8_tryAll_0 rfl 0 rfl rfl ?_
  refine ax_iconst (v := 0) 2 dX8_tryAll_1 (by decide) rfl ?_
  refine ax_put 5 dX8_tryAll_2 fp_X8_152 rfl ?_
  refine ax_aload_n 6 dX8_tryAll_5 rfl 0 rfl rfl ?_
  refine ax_bipush (v := (-4)) 8 dX8_tryAll_6 (by decide) rfl ?_
  refine ax_put 11 dX8_tryAll_8 fp_X8_155 rfl ?_
  refine ax_iconst (v := 1) 12 dX8_tryAll_11 (by decide) rfl ?_
  refine ax_istore_n 13 dX8_tryAll_12 rfl (by decide) [1, 0] [(0, .ref (ux_a G 8)), (1, .int 1)] rfl rfl ?_
  refine ax_iconst (v := 0) 14 dX8_tryAll_13 (by decide) rfl ?_
  refine ax_istore_n 15 dX8_tryAll_14 rfl (by decide) [1, 2, 0] [(0, .ref (ux_a G 8)), (1, .int 1), (2, .int 0)] rfl rfl ?_
  exact ax_sub [0, 1, 2] rfl (ux_lp2_w (Pr := fun x1 x2 S => ux_At l G RX8 cX8_tryAll 5 none 3 none Z 15 [(0, .ref (ux_a G 8)), (1, .int x1), (2, .int x2)] [] S) (fun k15 hk15 => w_X8_tryAll_15 k15 hk15) n 1 0 (ux_i (ux_i S 8 19 0) 8 20 (-4)) hf)
def f_X8_placed (n : Nat) (S : ux_S) (p0 : Int32) : Option (Int32 × ux_S) :=
  ux_bi (f_X8_in S ((p0 : Int32).toInt64) 0 (((S.1 8 10) - (1 : Int32) : Int32).toInt64)) (fun r3 S2 => if r3 = 0 then (some ((-1), S2)) else (ux_bv (f_X8_tryAll n S2 ) (fun S6 => if S6.1 8 19 = 0 then (some ((-4), S6)) else (ux_gd (ux_ib p0 5) (some (S6.1 68 p0.toNatClampNeg, S6))))))
set_option maxHeartbeats 2000000 in
set_option maxRecDepth 10000 in
theorem m_X8_placed {l : Launch} {G : ux_G} {n : Nat} {S : ux_S} {p0 : Int32} {r : Int32} {Z : ux_S} (hf : f_X8_placed n S p0 = some (r, Z)) : ux_M l G yX8_placed cX8_placed 2 (some .int) 4 [.ref (ux_a G 8), .int p0] S (some (.int r)) Z := by
  refine ux_of (by decide) (Nat.le_of_ble_eq_true rfl) ?_
  show ux_At l G RX8 cX8_placed 2 (some .int) 4 (some (.int r)) Z 0 [(0, .ref (ux_a G 8)), (1, .int p0)] [] S
  unfold f_X8_placed at hf
  refine ax_iload_n 1 dX8_placed_0 rfl 1 rfl rfl ?_
  refine ax_i2l 2 dX8_placed_1 rfl ?_
  refine ax_lconst (v := 0) 3 dX8_placed_2 (by decide) rfl ?_
  refine ax_aload_n 4 dX8_placed_3 rfl 0 rfl rfl ?_
  refine ax_geti 7 dX8_placed_4 fg_X8_149 rfl rfl ?_
  refine ax_iconst (v := 1) 8 dX8_placed_7 (by decide) rfl ?_
  refine ax_isub 9 dX8_placed_8 rfl ?_
  refine ax_i2l 10 dX8_placed_9 rfl ?_
  obtain ⟨r3, S2, e1, hf⟩ := ux_bi_e hf
  refine ax_callSi 13 [.long ((p0 : Int32).toInt64), .long 0, .long (((S.1 8 10) - (1 : Int32) : Int32).toInt64)] dX8_placed_10 fs_X8_102 (m_X8_in e1) (by decide) rfl rfl (Nat.le_of_ble_eq_true rfl) rfl ?_
  refine ax_if_ne 18 16 dX8_placed_13 (by decide) rfl (fun c4 => ?_) (fun c4 => ?_)
  · have hf := ux_iff c4 hf
    refine ax_aload_n 19 dX8_placed_18 rfl 0 rfl rfl ?_
    obtain ⟨S6, e5, hf⟩ := ux_bv_e hf
    refine ax_callVv 22 [] dX8_placed_19 fv_X8_161 (m_X8_tryAll e5) (by decide) rfl rfl (by decide) rfl rfl (Nat.le_of_ble_eq_true rfl) rfl ?_
    refine ax_aload_n 23 dX8_placed_22 rfl 0 rfl rfl ?_
    refine ax_geti 26 dX8_placed_23 fg_X8_152 rfl rfl ?_
    refine ax_if_ne 34 29 dX8_placed_26 (by decide) rfl (fun c8 => ?_) (fun c8 => ?_)
    · have hf := ux_iff c8 hf
      refine ax_aload_n 35 dX8_placed_34 rfl 0 rfl rfl ?_
      refine ax_getr 68 38 dX8_placed_35 fg_X8_63 rfl (by decide) rfl ?_
      refine ax_iload_n 39 dX8_placed_38 rfl 1 rfl rfl ?_
      obtain ⟨h9, hf⟩ := ux_gd_e hf
      refine ax_iald 40 dX8_placed_39 (by decide) rfl h9 rfl ?_
      exact ax_iret dX8_placed_40 hf
    · have hf := ux_ift c8 hf
      refine ax_bipush (v := (-4)) 31 dX8_placed_29 (by decide) rfl ?_
      refine ax_goto 40 dX8_placed_31 (by decide) ?_
      exact ax_iret dX8_placed_40 hf
  · have hf := ux_ift c4 hf
    refine ax_iconst (v := (-1)) 17 dX8_placed_16 (by decide) rfl ?_
    exact ax_iret dX8_placed_17 hf
def f_X8_warmest (n : Nat) (S : ux_S) : Option (Int32 × ux_S) :=
  ux_bv (f_X8_tryAll n S ) (fun S2 => some (S2.1 8 20, S2))
set_option maxHeartbeats 2000000 in
set_option maxRecDepth 10000 in
theorem m_X8_warmest {l : Launch} {G : ux_G} {n : Nat} {S : ux_S} {r : Int32} {Z : ux_S} (hf : f_X8_warmest n S = some (r, Z)) : ux_M l G yX8_warmest cX8_warmest 1 (some .int) 4 [.ref (ux_a G 8)] S (some (.int r)) Z := by
  refine ux_of (by decide) (Nat.le_of_ble_eq_true rfl) ?_
  show ux_At l G RX8 cX8_warmest 1 (some .int) 4 (some (.int r)) Z 0 [(0, .ref (ux_a G 8))] [] S
  unfold f_X8_warmest at hf
  refine ax_aload_n 1 dX8_warmest_0 rfl 0 rfl rfl ?_
  obtain ⟨S2, e1, hf⟩ := ux_bv_e hf
  refine ax_callVv 4 [] dX8_warmest_1 fv_X8_161 (m_X8_tryAll e1) (by decide) rfl rfl (by decide) rfl rfl (Nat.le_of_ble_eq_true rfl) rfl ?_
  refine ax_aload_n 5 dX8_warmest_4 rfl 0 rfl rfl ?_
  refine ax_geti 8 dX8_warmest_5 fg_X8_155 rfl rfl ?_
  exact ax_iret dX8_warmest_8 hf
def f_X8_placings (n : Nat) (S : ux_S) : Option (Int32 × ux_S) :=
  ux_bv (f_X8_tryAll n S ) (fun S2 => some (S2.1 8 19, S2))
set_option maxHeartbeats 2000000 in
set_option maxRecDepth 10000 in
theorem m_X8_placings {l : Launch} {G : ux_G} {n : Nat} {S : ux_S} {r : Int32} {Z : ux_S} (hf : f_X8_placings n S = some (r, Z)) : ux_M l G yX8_placings cX8_placings 1 (some .int) 4 [.ref (ux_a G 8)] S (some (.int r)) Z := by
  refine ux_of (by decide) (Nat.le_of_ble_eq_true rfl) ?_
  show ux_At l G RX8 cX8_placings 1 (some .int) 4 (some (.int r)) Z 0 [(0, .ref (ux_a G 8))] [] S
  unfold f_X8_placings at hf
  refine ax_aload_n 1 dX8_placings_0 rfl 0 rfl rfl ?_
  obtain ⟨S2, e1, hf⟩ := ux_bv_e hf
  refine ax_callVv 4 [] dX8_placings_1 fv_X8_161 (m_X8_tryAll e1) (by decide) rfl rfl (by decide) rfl rfl (Nat.le_of_ble_eq_true rfl) rfl ?_
  refine ax_aload_n 5 dX8_placings_4 rfl 0 rfl rfl ?_
  refine ax_geti 8 dX8_placings_5 fg_X8_152 rfl rfl ?_
  exact ax_iret dX8_placings_8 hf
def b_X8_feed_22 (n : Nat) (p0 : Int32) (p1 : Int32) (S : ux_S) : Option (Int32 × ux_S) :=
  ux_bi (f_X8_in S ((p1 : Int32).toInt64) 0 10000) (fun r4 S3 => if r4 = 0 then (some ((-1), S3)) else (if S3.1 8 22 = 16 then (some ((-3), S3)) else (ux_gd (ux_ib (S3.1 8 22) 16) (ux_gd (ux_ib ((ux_i S3 69 (S3.1 8 22).toNatClampNeg p0).1 8 22) 16) (some (((ux_i (ux_i (ux_i S3 69 (S3.1 8 22).toNatClampNeg p0) 70 ((ux_i S3 69 (S3.1 8 22).toNatClampNeg p0).1 8 22).toNatClampNeg p1) 8 22 (((ux_i (ux_i S3 69 (S3.1 8 22).toNatClampNeg p0) 70 ((ux_i S3 69 (S3.1 8 22).toNatClampNeg p0).1 8 22).toNatClampNeg p1).1 8 22) + (1 : Int32))).1 8 22) - (1 : Int32), ux_i (ux_i (ux_i S3 69 (S3.1 8 22).toNatClampNeg p0) 70 ((ux_i S3 69 (S3.1 8 22).toNatClampNeg p0).1 8 22).toNatClampNeg p1) 8 22 (((ux_i (ux_i S3 69 (S3.1 8 22).toNatClampNeg p0) 70 ((ux_i S3 69 (S3.1 8 22).toNatClampNeg p0).1 8 22).toNatClampNeg p1).1 8 22) + (1 : Int32))))))))
set_option maxHeartbeats 2000000 in
set_option maxRecDepth 10000 in
theorem w_X8_feed_22 {l : Launch} {G : ux_G} {n : Nat} {p0 : Int32} {p1 : Int32} {r : Int32} {Z : ux_S} : ∀ (S : ux_S), b_X8_feed_22 n p0 p1  S = some (r, Z) → ux_At l G RX8 cX8_feed 3 (some .int) 2 (some (.int r)) Z 22 [(0, .ref (ux_a G 8)), (1, .int p0), (2, .int p1)] [] S := by
  intro  S hf
  unfold b_X8_feed_22 at hf
  refine ax_iload_n 23 dX8_feed_22 rfl 2 rfl rfl ?_
  refine ax_i2l 24 dX8_feed_23 rfl ?_
  refine ax_lconst (v := 0) 25 dX8_feed_24 (by decide) rfl ?_
  refine ax_ldc2 28 dX8_feed_25 fc_X8_106 rfl ?_
  obtain ⟨r4, S3, e2, hf⟩ := ux_bi_e hf
  refine ax_callSi 31 [.long ((p1 : Int32).toInt64), .long 0, .long 10000] dX8_feed_28 fs_X8_102 (m_X8_in e2) (by decide) rfl rfl (Nat.le_of_ble_eq_true rfl) rfl ?_
  refine ax_if_ne 36 34 dX8_feed_31 (by decide) rfl (fun c5 => ?_) (fun c5 => ?_)
  · have hf := ux_iff c5 hf
    refine ax_aload_n 37 dX8_feed_36 rfl 0 rfl rfl ?_
    refine ax_geti 40 dX8_feed_37 fg_X8_164 rfl rfl ?_
    refine ax_bipush (v := 16) 42 dX8_feed_40 (by decide) rfl ?_
    refine ax_icmp_ne 48 45 dX8_feed_42 (by decide) rfl (fun c6 => ?_) (fun c6 => ?_)
    · have hf := ux_iff c6 hf
      refine ax_aload_n 49 dX8_feed_48 rfl 0 rfl rfl ?_
      refine ax_getr 69 52 dX8_feed_49 fg_X8_66 rfl (by decide) rfl ?_
      refine ax_aload_n 53 dX8_feed_52 rfl 0 rfl rfl ?_
      refine ax_geti 56 dX8_feed_53 fg_X8_164 rfl rfl ?_
      refine ax_iload_n 57 dX8_feed_56 rfl 1 rfl rfl ?_
      obtain ⟨h7, hf⟩ := ux_gd_e hf
      refine ax_iast 58 dX8_feed_57 (by decide) rfl h7 rfl ?_
      refine ax_aload_n 59 dX8_feed_58 rfl 0 rfl rfl ?_
      refine ax_getr 70 62 dX8_feed_59 fg_X8_69 rfl (by decide) rfl ?_
      refine ax_aload_n 63 dX8_feed_62 rfl 0 rfl rfl ?_
      refine ax_geti 66 dX8_feed_63 fg_X8_164 rfl rfl ?_
      refine ax_iload_n 67 dX8_feed_66 rfl 2 rfl rfl ?_
      obtain ⟨h8, hf⟩ := ux_gd_e hf
      refine ax_iast 68 dX8_feed_67 (by decide) rfl h8 rfl ?_
      refine ax_aload_n 69 dX8_feed_68 rfl 0 rfl rfl ?_
      refine ax_dup 70 dX8_feed_69 rfl rfl ?_
      refine ax_geti 73 dX8_feed_70 fg_X8_164 rfl rfl ?_
      refine ax_iconst (v := 1) 74 dX8_feed_73 (by decide) rfl ?_
      refine ax_iadd 75 dX8_feed_74 rfl ?_
      refine ax_put 78 dX8_feed_75 fp_X8_164 rfl ?_
      refine ax_aload_n 79 dX8_feed_78 rfl 0 rfl rfl ?_
      refine ax_geti 82 dX8_feed_79 fg_X8_164 rfl rfl ?_
      refine ax_iconst (v := 1) 83 dX8_feed_82 (by decide) rfl ?_
      refine ax_isub 84 dX8_feed_83 rfl ?_
      exact ax_iret dX8_feed_84 hf
    · have hf := ux_ift c6 hf
      refine ax_bipush (v := (-3)) 47 dX8_feed_45 (by decide) rfl ?_
      exact ax_iret dX8_feed_47 hf
  · have hf := ux_ift c5 hf
    refine ax_iconst (v := (-1)) 35 dX8_feed_34 (by decide) rfl ?_
    exact ax_iret dX8_feed_35 hf
def f_X8_feed (n : Nat) (S : ux_S) (p0 : Int32) (p1 : Int32) : Option (Int32 × ux_S) :=
  if p0 = (-4) then (b_X8_feed_22 n p0 p1 S) else (ux_bi (f_X8_in S ((p0 : Int32).toInt64) 0 (((S.1 8 22) - (1 : Int32) : Int32).toInt64)) (fun r11 S10 => if r11 = 0 then (some ((-1), S10)) else (b_X8_feed_22 n p0 p1 S10)))
set_option maxHeartbeats 2000000 in
set_option maxRecDepth 10000 in
theorem m_X8_feed {l : Launch} {G : ux_G} {n : Nat} {S : ux_S} {p0 : Int32} {p1 : Int32} {r : Int32} {Z : ux_S} (hf : f_X8_feed n S p0 p1 = some (r, Z)) : ux_M l G yX8_feed cX8_feed 3 (some .int) 2 [.ref (ux_a G 8), .int p0, .int p1] S (some (.int r)) Z := by
  refine ux_of (by decide) (Nat.le_of_ble_eq_true rfl) ?_
  show ux_At l G RX8 cX8_feed 3 (some .int) 2 (some (.int r)) Z 0 [(0, .ref (ux_a G 8)), (1, .int p0), (2, .int p1)] [] S
  unfold f_X8_feed at hf
  refine ax_iload_n 1 dX8_feed_0 rfl 1 rfl rfl ?_
  refine ax_bipush (v := (-4)) 3 dX8_feed_1 (by decide) rfl ?_
  refine ax_icmp_eq 22 6 dX8_feed_3 (by decide) rfl (fun c1 => ?_) (fun c1 => ?_)
  · have hf := ux_ift c1 hf
    exact ax_sub [0, 1, 2] rfl (w_X8_feed_22 S hf)
  · have hf := ux_iff c1 hf
    refine ax_iload_n 7 dX8_feed_6 rfl 1 rfl rfl ?_
    refine ax_i2l 8 dX8_feed_7 rfl ?_
    refine ax_lconst (v := 0) 9 dX8_feed_8 (by decide) rfl ?_
    refine ax_aload_n 10 dX8_feed_9 rfl 0 rfl rfl ?_
    refine ax_geti 13 dX8_feed_10 fg_X8_164 rfl rfl ?_
    refine ax_iconst (v := 1) 14 dX8_feed_13 (by decide) rfl ?_
    refine ax_isub 15 dX8_feed_14 rfl ?_
    refine ax_i2l 16 dX8_feed_15 rfl ?_
    obtain ⟨r11, S10, e9, hf⟩ := ux_bi_e hf
    refine ax_callSi 19 [.long ((p0 : Int32).toInt64), .long 0, .long (((S.1 8 22) - (1 : Int32) : Int32).toInt64)] dX8_feed_16 fs_X8_102 (m_X8_in e9) (by decide) rfl rfl (Nat.le_of_ble_eq_true rfl) rfl ?_
    refine ax_if_eq 34 22 dX8_feed_19 (by decide) rfl (fun c12 => ?_) (fun c12 => ?_)
    · have hf := ux_ift c12 hf
      refine ax_iconst (v := (-1)) 35 dX8_feed_34 (by decide) rfl ?_
      exact ax_iret dX8_feed_35 hf
    · have hf := ux_iff c12 hf
      exact ax_sub [0, 1, 2] rfl (w_X8_feed_22 S10 hf)
def f_X8_isFeed (S : ux_S) (p0 : Int32) : Option (Int32 × ux_S) :=
  ux_bi (f_X8_in S ((p0 : Int32).toInt64) 0 (((S.1 8 22) - (1 : Int32) : Int32).toInt64)) (fun r3 S2 => ux_gd (ux_zb r3) (some (r3, S2)))
set_option maxHeartbeats 2000000 in
set_option maxRecDepth 10000 in
theorem m_X8_isFeed {l : Launch} {G : ux_G} {S : ux_S} {p0 : Int32} {r : Int32} {Z : ux_S} (hf : f_X8_isFeed S p0 = some (r, Z)) : ux_M l G yX8_isFeed cX8_isFeed 2 (some .boolean) 2 [.ref (ux_a G 8), .int p0] S (some (.int r)) Z := by
  refine ux_of (by decide) (Nat.le_of_ble_eq_true rfl) ?_
  show ux_At l G RX8 cX8_isFeed 2 (some .boolean) 2 (some (.int r)) Z 0 [(0, .ref (ux_a G 8)), (1, .int p0)] [] S
  unfold f_X8_isFeed at hf
  refine ax_iload_n 1 dX8_isFeed_0 rfl 1 rfl rfl ?_
  refine ax_i2l 2 dX8_isFeed_1 rfl ?_
  refine ax_lconst (v := 0) 3 dX8_isFeed_2 (by decide) rfl ?_
  refine ax_aload_n 4 dX8_isFeed_3 rfl 0 rfl rfl ?_
  refine ax_geti 7 dX8_isFeed_4 fg_X8_164 rfl rfl ?_
  refine ax_iconst (v := 1) 8 dX8_isFeed_7 (by decide) rfl ?_
  refine ax_isub 9 dX8_isFeed_8 rfl ?_
  refine ax_i2l 10 dX8_isFeed_9 rfl ?_
  obtain ⟨r3, S2, e1, hf⟩ := ux_bi_e hf
  refine ax_callSi 13 [.long ((p0 : Int32).toInt64), .long 0, .long (((S.1 8 22) - (1 : Int32) : Int32).toInt64)] dX8_isFeed_10 fs_X8_102 (m_X8_in e1) (by decide) rfl rfl (Nat.le_of_ble_eq_true rfl) rfl ?_
  obtain ⟨h4, hf⟩ := ux_gd_e hf
  exact ax_zret dX8_isFeed_13 (ux_zb_of h4) hf
def b_X8_plug_59 (n : Nat) (p0 : Int32) (p1 : Int32) (p2 : Int32) (S : ux_S) : Option (Int32 × ux_S) :=
  ux_gd (ux_ib (((2 : Int32) * p0) + p1) 16) (ux_gd (ux_ib (((2 : Int32) * p0) + p1) 16) (some (S.1 72 (((2 : Int32) * p0) + p1).toNatClampNeg, ux_i S 72 (((2 : Int32) * p0) + p1).toNatClampNeg p2)))
set_option maxHeartbeats 2000000 in
set_option maxRecDepth 10000 in
theorem w_X8_plug_59 {l : Launch} {G : ux_G} {n : Nat} {p0 : Int32} {p1 : Int32} {p2 : Int32} {r : Int32} {Z : ux_S} : ∀ (S : ux_S), b_X8_plug_59 n p0 p1 p2  S = some (r, Z) → ux_At l G RX8 cX8_plug 5 (some .int) 3 (some (.int r)) Z 59 [(0, .ref (ux_a G 8)), (1, .int p0), (2, .int p1), (3, .int p2)] [] S := by
  intro  S hf
  unfold b_X8_plug_59 at hf
  refine ax_aload_n 60 dX8_plug_59 rfl 0 rfl rfl ?_
  refine ax_getr 72 63 dX8_plug_60 fg_X8_76 rfl (by decide) rfl ?_
  refine ax_iconst (v := 2) 64 dX8_plug_63 (by decide) rfl ?_
  refine ax_iload_n 65 dX8_plug_64 rfl 1 rfl rfl ?_
  refine ax_imul 66 dX8_plug_65 rfl ?_
  refine ax_iload_n 67 dX8_plug_66 rfl 2 rfl rfl ?_
  refine ax_iadd 68 dX8_plug_67 rfl ?_
  obtain ⟨h11, hf⟩ := ux_gd_e hf
  refine ax_iald 69 dX8_plug_68 (by decide) rfl h11 rfl ?_
  refine ax_istore 71 dX8_plug_69 (by decide) [1, 2, 3, 4, 0] [(0, .ref (ux_a G 8)), (1, .int p0), (2, .int p1), (3, .int p2), (4, .int (S.1 72 (((2 : Int32) * p0) + p1).toNatClampNeg))] rfl rfl ?_
  refine ax_aload_n 72 dX8_plug_71 rfl 0 rfl rfl ?_
  refine ax_getr 72 75 dX8_plug_72 fg_X8_76 rfl (by decide) rfl ?_
  refine ax_iconst (v := 2) 76 dX8_plug_75 (by decide) rfl ?_
  refine ax_iload_n 77 dX8_plug_76 rfl 1 rfl rfl ?_
  refine ax_imul 78 dX8_plug_77 rfl ?_
  refine ax_iload_n 79 dX8_plug_78 rfl 2 rfl rfl ?_
  refine ax_iadd 80 dX8_plug_79 rfl ?_
  refine ax_iload_n 81 dX8_plug_80 rfl 3 rfl rfl ?_
  obtain ⟨h12, hf⟩ := ux_gd_e hf
  refine ax_iast 82 dX8_plug_81 (by decide) rfl h12 rfl ?_
  refine ax_iload 84 dX8_plug_82 4 rfl rfl ?_
  exact ax_iret dX8_plug_84 hf
def b_X8_plug_34 (n : Nat) (p0 : Int32) (p1 : Int32) (p2 : Int32) (S : ux_S) : Option (Int32 × ux_S) :=
  if p2 = (-4) then (b_X8_plug_59 n p0 p1 p2 S) else (ux_gd (ux_ib ((((2 : Int32) * p0) + (1 : Int32)) - p1) 16) (if S.1 72 ((((2 : Int32) * p0) + (1 : Int32)) - p1).toNatClampNeg = p2 then (some ((-2), S)) else (b_X8_plug_59 n p0 p1 p2 S)))
set_option maxHeartbeats 2000000 in
set_option maxRecDepth 10000 in
theorem w_X8_plug_34 {l : Launch} {G : ux_G} {n : Nat} {p0 : Int32} {p1 : Int32} {p2 : Int32} {r : Int32} {Z : ux_S} : ∀ (S : ux_S), b_X8_plug_34 n p0 p1 p2  S = some (r, Z) → ux_At l G RX8 cX8_plug 5 (some .int) 3 (some (.int r)) Z 34 [(0, .ref (ux_a G 8)), (1, .int p0), (2, .int p1), (3, .int p2)] [] S := by
  intro  S hf
  unfold b_X8_plug_34 at hf
  refine ax_iload_n 35 dX8_plug_34 rfl 3 rfl rfl ?_
  refine ax_bipush (v := (-4)) 37 dX8_plug_35 (by decide) rfl ?_
  refine ax_icmp_eq 59 40 dX8_plug_37 (by decide) rfl (fun c10 => ?_) (fun c10 => ?_)
  · have hf := ux_ift c10 hf
    exact ax_sub [0, 1, 2, 3] rfl (w_X8_plug_59 S hf)
  · have hf := ux_iff c10 hf
    refine ax_aload_n 41 dX8_plug_40 rfl 0 rfl rfl ?_
    refine ax_getr 72 44 dX8_plug_41 fg_X8_76 rfl (by decide) rfl ?_
    refine ax_iconst (v := 2) 45 dX8_plug_44 (by decide) rfl ?_
    refine ax_iload_n 46 dX8_plug_45 rfl 1 rfl rfl ?_
    refine ax_imul 47 dX8_plug_46 rfl ?_
    refine ax_iconst (v := 1) 48 dX8_plug_47 (by decide) rfl ?_
    refine ax_iadd 49 dX8_plug_48 rfl ?_
    refine ax_iload_n 50 dX8_plug_49 rfl 2 rfl rfl ?_
    refine ax_isub 51 dX8_plug_50 rfl ?_
    obtain ⟨h13, hf⟩ := ux_gd_e hf
    refine ax_iald 52 dX8_plug_51 (by decide) rfl h13 rfl ?_
    refine ax_iload_n 53 dX8_plug_52 rfl 3 rfl rfl ?_
    refine ax_icmp_ne 59 56 dX8_plug_53 (by decide) rfl (fun c14 => ?_) (fun c14 => ?_)
    · have hf := ux_iff c14 hf
      exact ax_sub [0, 1, 2, 3] rfl (w_X8_plug_59 S hf)
    · have hf := ux_ift c14 hf
      refine ax_bipush (v := (-2)) 58 dX8_plug_56 (by decide) rfl ?_
      exact ax_iret dX8_plug_58 hf
def f_X8_plug (n : Nat) (S : ux_S) (p0 : Int32) (p1 : Int32) (p2 : Int32) : Option (Int32 × ux_S) :=
  ux_bi (f_X8_isRack S p0) (fun r3 S2 => if r3 = 0 then (some ((-1), S2)) else (ux_bi (f_X8_in S2 ((p1 : Int32).toInt64) 0 1) (fun r7 S6 => if r7 = 0 then (some ((-1), S6)) else (if p2 = (-4) then (b_X8_plug_34 n p0 p1 p2 S6) else (ux_bi (f_X8_isFeed S6 p2) (fun r17 S16 => if r17 = 0 then (some ((-1), S16)) else (b_X8_plug_34 n p0 p1 p2 S16)))))))
set_option maxHeartbeats 2000000 in
set_option maxRecDepth 10000 in
theorem m_X8_plug {l : Launch} {G : ux_G} {n : Nat} {S : ux_S} {p0 : Int32} {p1 : Int32} {p2 : Int32} {r : Int32} {Z : ux_S} (hf : f_X8_plug n S p0 p1 p2 = some (r, Z)) : ux_M l G yX8_plug cX8_plug 5 (some .int) 3 [.ref (ux_a G 8), .int p0, .int p1, .int p2] S (some (.int r)) Z := by
  refine ux_of (by decide) (Nat.le_of_ble_eq_true rfl) ?_
  show ux_At l G RX8 cX8_plug 5 (some .int) 3 (some (.int r)) Z 0 [(0, .ref (ux_a G 8)), (1, .int p0), (2, .int p1), (3, .int p2)] [] S
  unfold f_X8_plug at hf
  refine ax_aload_n 1 dX8_plug_0 rfl 0 rfl rfl ?_
  refine ax_iload_n 2 dX8_plug_1 rfl 1 rfl rfl ?_
  obtain ⟨r3, S2, e1, hf⟩ := ux_bi_e hf
  refine ax_callVi 5 [.int p0] dX8_plug_2 fv_X8_115 (m_X8_isRack e1) (by decide) rfl rfl (by decide) rfl rfl (Nat.le_of_ble_eq_true rfl) rfl ?_
  refine ax_if_eq 32 8 dX8_plug_5 (by decide) rfl (fun c4 => ?_) (fun c4 => ?_)
  · have hf := ux_ift c4 hf
    refine ax_iconst (v := (-1)) 33 dX8_plug_32 (by decide) rfl ?_
    exact ax_iret dX8_plug_33 hf
  · have hf := ux_iff c4 hf
    refine ax_iload_n 9 dX8_plug_8 rfl 2 rfl rfl ?_
    refine ax_i2l 10 dX8_plug_9 rfl ?_
    refine ax_lconst (v := 0) 11 dX8_plug_10 (by decide) rfl ?_
    refine ax_lconst (v := 1) 12 dX8_plug_11 (by decide) rfl ?_
    obtain ⟨r7, S6, e5, hf⟩ := ux_bi_e hf
    refine ax_callSi 15 [.long ((p1 : Int32).toInt64), .long 0, .long 1] dX8_plug_12 fs_X8_102 (m_X8_in e5) (by decide) rfl rfl (Nat.le_of_ble_eq_true rfl) rfl ?_
    refine ax_if_eq 32 18 dX8_plug_15 (by decide) rfl (fun c8 => ?_) (fun c8 => ?_)
    · have hf := ux_ift c8 hf
      refine ax_iconst (v := (-1)) 33 dX8_plug_32 (by decide) rfl ?_
      exact ax_iret dX8_plug_33 hf
    · have hf := ux_iff c8 hf
      refine ax_iload_n 19 dX8_plug_18 rfl 3 rfl rfl ?_
      refine ax_bipush (v := (-4)) 21 dX8_plug_19 (by decide) rfl ?_
      refine ax_icmp_eq 34 24 dX8_plug_21 (by decide) rfl (fun c9 => ?_) (fun c9 => ?_)
      · have hf := ux_ift c9 hf
        exact ax_sub [0, 1, 2, 3] rfl (w_X8_plug_34 S6 hf)
      · have hf := ux_iff c9 hf
        refine ax_aload_n 25 dX8_plug_24 rfl 0 rfl rfl ?_
        refine ax_iload_n 26 dX8_plug_25 rfl 3 rfl rfl ?_
        obtain ⟨r17, S16, e15, hf⟩ := ux_bi_e hf
        refine ax_callVi 29 [.int p2] dX8_plug_26 fv_X8_167 (m_X8_isFeed e15) (by decide) rfl rfl (by decide) rfl rfl (Nat.le_of_ble_eq_true rfl) rfl ?_
        refine ax_if_ne 34 32 dX8_plug_29 (by decide) rfl (fun c18 => ?_) (fun c18 => ?_)
        · have hf := ux_iff c18 hf
          exact ax_sub [0, 1, 2, 3] rfl (w_X8_plug_34 S16 hf)
        · have hf := ux_ift c18 hf
          refine ax_iconst (v := (-1)) 33 dX8_plug_32 (by decide) rfl ?_
          exact ax_iret dX8_plug_33 hf
def b_X8_fail_24 (n : Nat) (p0 : Int32) (p1 : Int32) (t0 : Int32) (S : ux_S) : Option (Int32 × ux_S) :=
  ux_gd (ux_ib p0 16) (some (t0, ux_i S 71 p0.toNatClampNeg (vp_nar .boolean p1)))
set_option maxHeartbeats 2000000 in
set_option maxRecDepth 10000 in
theorem w_X8_fail_24 {l : Launch} {G : ux_G} {n : Nat} {p0 : Int32} {p1 : Int32} {r : Int32} {Z : ux_S} : ∀ (t0 : Int32) (S : ux_S), b_X8_fail_24 n p0 p1 t0 S = some (r, Z) → ux_At l G RX8 cX8_fail 4 (some .int) 3 (some (.int r)) Z 24 [(0, .ref (ux_a G 8)), (1, .int p0), (2, .int p1)] [.int t0] S := by
  intro t0 S hf
  unfold b_X8_fail_24 at hf
  refine ax_istore_n 25 dX8_fail_24 rfl (by decide) [1, 2, 3, 0] [(0, .ref (ux_a G 8)), (1, .int p0), (2, .int p1), (3, .int t0)] rfl rfl ?_
  refine ax_aload_n 26 dX8_fail_25 rfl 0 rfl rfl ?_
  refine ax_getr 71 29 dX8_fail_26 fg_X8_72 rfl (by decide) rfl ?_
  refine ax_iload_n 30 dX8_fail_29 rfl 1 rfl rfl ?_
  refine ax_iload_n 31 dX8_fail_30 rfl 2 rfl rfl ?_
  obtain ⟨h7, hf⟩ := ux_gd_e hf
  refine ax_zast 32 dX8_fail_31 (by decide) rfl h7 rfl ?_
  refine ax_iload_n 33 dX8_fail_32 rfl 3 rfl rfl ?_
  exact ax_iret dX8_fail_33 hf
def f_X8_fail (n : Nat) (S : ux_S) (p0 : Int32) (p1 : Int32) : Option (Int32 × ux_S) :=
  ux_bi (f_X8_isFeed S p0) (fun r3 S2 => if r3 = 0 then (some ((-1), S2)) else (ux_gd (ux_ib p0 16) (if S2.1 71 p0.toNatClampNeg = 0 then (b_X8_fail_24 n p0 p1 0 S2) else (b_X8_fail_24 n p0 p1 1 S2))))
set_option maxHeartbeats 2000000 in
set_option maxRecDepth 10000 in
theorem m_X8_fail {l : Launch} {G : ux_G} {n : Nat} {S : ux_S} {p0 : Int32} {p1 : Int32} {r : Int32} {Z : ux_S} (hf : f_X8_fail n S p0 p1 = some (r, Z)) : ux_M l G yX8_fail cX8_fail 4 (some .int) 3 [.ref (ux_a G 8), .int p0, .int p1] S (some (.int r)) Z := by
  refine ux_of (by decide) (Nat.le_of_ble_eq_true rfl) ?_
  show ux_At l G RX8 cX8_fail 4 (some .int) 3 (some (.int r)) Z 0 [(0, .ref (ux_a G 8)), (1, .int p0), (2, .int p1)] [] S
  unfold f_X8_fail at hf
  refine ax_aload_n 1 dX8_fail_0 rfl 0 rfl rfl ?_
  refine ax_iload_n 2 dX8_fail_1 rfl 1 rfl rfl ?_
  obtain ⟨r3, S2, e1, hf⟩ := ux_bi_e hf
  refine ax_callVi 5 [.int p0] dX8_fail_2 fv_X8_167 (m_X8_isFeed e1) (by decide) rfl rfl (by decide) rfl rfl (Nat.le_of_ble_eq_true rfl) rfl ?_
  refine ax_if_ne 10 8 dX8_fail_5 (by decide) rfl (fun c4 => ?_) (fun c4 => ?_)
  · have hf := ux_iff c4 hf
    refine ax_aload_n 11 dX8_fail_10 rfl 0 rfl rfl ?_
    refine ax_getr 71 14 dX8_fail_11 fg_X8_72 rfl (by decide) rfl ?_
    refine ax_iload_n 15 dX8_fail_14 rfl 1 rfl rfl ?_
    obtain ⟨h5, hf⟩ := ux_gd_e hf
    refine ax_zald 16 dX8_fail_15 (by decide) rfl h5 rfl ?_
    refine ax_if_eq 23 19 dX8_fail_16 (by decide) rfl (fun c6 => ?_) (fun c6 => ?_)
    · have hf := ux_ift c6 hf
      refine ax_iconst (v := 0) 24 dX8_fail_23 (by decide) rfl ?_
      exact ax_sub [0, 1, 2] rfl (w_X8_fail_24 0 S2 hf)
    · have hf := ux_iff c6 hf
      refine ax_iconst (v := 1) 20 dX8_fail_19 (by decide) rfl ?_
      refine ax_goto 24 dX8_fail_20 (by decide) ?_
      exact ax_sub [0, 1, 2] rfl (w_X8_fail_24 1 S2 hf)
  · have hf := ux_ift c4 hf
    refine ax_iconst (v := (-1)) 9 dX8_fail_8 (by decide) rfl ?_
    exact ax_iret dX8_fail_9 hf
def b_X8_isDead_36 (n : Nat) (p0 : Int32) (k4 : Int32 → Int32 → ux_S → Option (Int32 × ux_S)) (x3 : Int32) (t0 : Int32) (S : ux_S) : Option (Int32 × ux_S) :=
  ux_gd (ux_ib x3 16) (k4 t0 (S.1 69 x3.toNatClampNeg) S)
set_option maxHeartbeats 2000000 in
set_option maxRecDepth 10000 in
theorem w_X8_isDead_36 {l : Launch} {G : ux_G} {n : Nat} {p0 : Int32} {r : Int32} {Z : ux_S} (k4 : Int32 → Int32 → ux_S → Option (Int32 × ux_S)) (hk4 : ∀ (x2 x3 : Int32) (S : ux_S), k4 x2 x3 S = some (r, Z) → ux_At l G RX8 cX8_isDead 4 (some .boolean) 1 (some (.int r)) Z 4 [(0, .ref (ux_a G 8)), (2, .int x2), (3, .int x3)] [] S) : ∀ (x3 : Int32) (t0 : Int32) (S : ux_S), b_X8_isDead_36 n p0 k4 x3 t0 S = some (r, Z) → ux_At l G RX8 cX8_isDead 4 (some .boolean) 1 (some (.int r)) Z 36 [(0, .ref (ux_a G 8)), (3, .int x3)] [.int t0] S := by
  intro x3 t0 S hf
  unfold b_X8_isDead_36 at hf
  refine ax_istore_n 37 dX8_isDead_36 rfl (by decide) [1, 0, 2] [(0, .ref (ux_a G 8)), (2, .int t0), (3, .int x3)] rfl rfl ?_
  refine ax_aload_n 38 dX8_isDead_37 rfl 0 rfl rfl ?_
  refine ax_getr 69 41 dX8_isDead_38 fg_X8_66 rfl (by decide) rfl ?_
  refine ax_iload_n 42 dX8_isDead_41 rfl 2 rfl rfl ?_
  obtain ⟨h4, hf⟩ := ux_gd_e hf
  refine ax_iald 43 dX8_isDead_42 (by decide) rfl h4 rfl ?_
  refine ax_istore_n 44 dX8_isDead_43 rfl (by decide) [1, 2, 0] [(0, .ref (ux_a G 8)), (2, .int t0), (3, .int (S.1 69 x3.toNatClampNeg))] rfl rfl ?_
  refine ax_goto 4 dX8_isDead_44 (by decide) ?_
  exact ax_sub [0, 1, 2] rfl (hk4 t0 (S.1 69 x3.toNatClampNeg) S hf)
def b_X8_isDead_31 (n : Nat) (p0 : Int32) (k4 : Int32 → Int32 → ux_S → Option (Int32 × ux_S)) (x3 : Int32) (S : ux_S) : Option (Int32 × ux_S) :=
  b_X8_isDead_36 n p0 k4 x3 1 S
set_option maxHeartbeats 2000000 in
set_option maxRecDepth 10000 in
theorem w_X8_isDead_31 {l : Launch} {G : ux_G} {n : Nat} {p0 : Int32} {r : Int32} {Z : ux_S} (k4 : Int32 → Int32 → ux_S → Option (Int32 × ux_S)) (hk4 : ∀ (x2 x3 : Int32) (S : ux_S), k4 x2 x3 S = some (r, Z) → ux_At l G RX8 cX8_isDead 4 (some .boolean) 1 (some (.int r)) Z 4 [(0, .ref (ux_a G 8)), (2, .int x2), (3, .int x3)] [] S) : ∀ (x3 : Int32) (S : ux_S), b_X8_isDead_31 n p0 k4 x3 S = some (r, Z) → ux_At l G RX8 cX8_isDead 4 (some .boolean) 1 (some (.int r)) Z 31 [(0, .ref (ux_a G 8)), (3, .int x3)] [] S := by
  intro x3 S hf
  unfold b_X8_isDead_31 at hf
  refine ax_iconst (v := 1) 32 dX8_isDead_31 (by decide) rfl ?_
  refine ax_goto 36 dX8_isDead_32 (by decide) ?_
  exact ax_sub [0, 1] rfl (w_X8_isDead_36 k4 hk4 x3 1 S hf)
def b_X8_isDead_4 (n : Nat) (p0 : Int32) (k4 : Int32 → Int32 → ux_S → Option (Int32 × ux_S)) (x2 : Int32) (x3 : Int32) (S : ux_S) : Option (Int32 × ux_S) :=
  if x3 = (-4) then (ux_gd (ux_zb x2) (some (x2, S))) else (if x2 = 0 then (ux_gd (ux_ib x3 16) (if S.1 71 x3.toNatClampNeg = 0 then (if x3 = S.1 8 27 then (b_X8_isDead_31 n p0 k4 x3 S) else (b_X8_isDead_36 n p0 k4 x3 0 S)) else (b_X8_isDead_31 n p0 k4 x3 S))) else (b_X8_isDead_31 n p0 k4 x3 S))
set_option maxHeartbeats 2000000 in
set_option maxRecDepth 10000 in
theorem w_X8_isDead_4 {l : Launch} {G : ux_G} {n : Nat} {p0 : Int32} {r : Int32} {Z : ux_S} (k4 : Int32 → Int32 → ux_S → Option (Int32 × ux_S)) (hk4 : ∀ (x2 x3 : Int32) (S : ux_S), k4 x2 x3 S = some (r, Z) → ux_At l G RX8 cX8_isDead 4 (some .boolean) 1 (some (.int r)) Z 4 [(0, .ref (ux_a G 8)), (2, .int x2), (3, .int x3)] [] S) : ∀ (x2 : Int32) (x3 : Int32) (S : ux_S), b_X8_isDead_4 n p0 k4 x2 x3 S = some (r, Z) → ux_At l G RX8 cX8_isDead 4 (some .boolean) 1 (some (.int r)) Z 4 [(0, .ref (ux_a G 8)), (2, .int x2), (3, .int x3)] [] S := by
  intro x2 x3 S hf
  unfold b_X8_isDead_4 at hf
  refine ax_iload_n 5 dX8_isDead_4 rfl 2 rfl rfl ?_
  refine ax_bipush (v := (-4)) 7 dX8_isDead_5 (by decide) rfl ?_
  refine ax_icmp_eq 47 10 dX8_isDead_7 (by decide) rfl (fun c1 => ?_) (fun c1 => ?_)
  · have hf := ux_ift c1 hf
    refine ax_iload_n 48 dX8_isDead_47 rfl 1 rfl rfl ?_
    obtain ⟨h2, hf⟩ := ux_gd_e hf
    exact ax_zret dX8_isDead_48 (ux_zb_of h2) hf
  · have hf := ux_iff c1 hf
    refine ax_iload_n 11 dX8_isDead_10 rfl 1 rfl rfl ?_
    refine ax_if_ne 31 14 dX8_isDead_11 (by decide) rfl (fun c3 => ?_) (fun c3 => ?_)
    · have hf := ux_iff c3 hf
      exact ax_sub [0, 2] rfl (w_X8_isDead_31 k4 hk4 x3 S hf)
    · have hf := ux_ift c3 hf
      refine ax_aload_n 15 dX8_isDead_14 rfl 0 rfl rfl ?_
      refine ax_getr 71 18 dX8_isDead_15 fg_X8_72 rfl (by decide) rfl ?_
      refine ax_iload_n 19 dX8_isDead_18 rfl 2 rfl rfl ?_
      obtain ⟨h5, hf⟩ := ux_gd_e hf
      refine ax_zald 20 dX8_isDead_19 (by decide) rfl h5 rfl ?_
      refine ax_if_ne 31 23 dX8_isDead_20 (by decide) rfl (fun c6 => ?_) (fun c6 => ?_)
      · have hf := ux_iff c6 hf
        exact ax_sub [0, 2] rfl (w_X8_isDead_31 k4 hk4 x3 S hf)
      · have hf := ux_ift c6 hf
        refine ax_iload_n 24 dX8_isDead_23 rfl 2 rfl rfl ?_
        refine ax_aload_n 25 dX8_isDead_24 rfl 0 rfl rfl ?_
        refine ax_geti 28 dX8_isDead_25 fg_X8_79 rfl rfl ?_
        refine ax_icmp_ne 35 31 dX8_isDead_28 (by decide) rfl (fun c7 => ?_) (fun c7 => ?_)
        · have hf := ux_iff c7 hf
          refine ax_iconst (v := 0) 36 dX8_isDead_35 (by decide) rfl ?_
          exact ax_sub [0, 2] rfl (w_X8_isDead_36 k4 hk4 x3 0 S hf)
        · have hf := ux_ift c7 hf
          exact ax_sub [0, 2] rfl (w_X8_isDead_31 k4 hk4 x3 S hf)
def f_X8_isDead (n : Nat) (S : ux_S) (p0 : Int32) : Option (Int32 × ux_S) :=
  ux_lp2 (b_X8_isDead_4 n p0) n 0 p0 S
set_option maxHeartbeats 2000000 in
set_option maxRecDepth 10000 in
theorem m_X8_isDead {l : Launch} {G : ux_G} {n : Nat} {S : ux_S} {p0 : Int32} {r : Int32} {Z : ux_S} (hf : f_X8_isDead n S p0 = some (r, Z)) : ux_M l G yX8_isDead cX8_isDead 4 (some .boolean) 1 [.ref (ux_a G 8), .int p0] S (some (.int r)) Z := by
  refine ux_of (by decide) (Nat.le_of_ble_eq_true rfl) ?_
  show ux_At l G RX8 cX8_isDead 4 (some .boolean) 1 (some (.int r)) Z 0 [(0, .ref (ux_a G 8)), (1, .int p0)] [] S
  unfold f_X8_isDead at hf
  refine ax_iconst (v := 0) 1 dX8_isDead_0 (by decide) rfl ?_
  refine ax_istore_n 2 dX8_isDead_1 rfl (by decide) [1, 2, 0] [(0, .ref (ux_a G 8)), (1, .int p0), (2, .int 0)] rfl rfl ?_
  refine ax_iload_n 3 dX8_isDead_2 rfl 1 rfl rfl ?_
  refine ax_istore_n 4 dX8_isDead_3 rfl (by decide) [1, 2, 3, 0] [(0, .ref (ux_a G 8)), (1, .int p0), (2, .int 0), (3, .int p0)] rfl rfl ?_
  exact ax_sub [0, 2, 3] rfl (ux_lp2_w (Pr := fun x2 x3 S => ux_At l G RX8 cX8_isDead 4 (some .boolean) 1 (some (.int r)) Z 4 [(0, .ref (ux_a G 8)), (2, .int x2), (3, .int x3)] [] S) (fun k4 hk4 => w_X8_isDead_4 k4 hk4) n 0 p0 S hf)
def f_X8_lives (n : Nat) (S : ux_S) (p0 : Int32) (p1 : Int32) : Option (Int32 × ux_S) :=
  ux_gd (ux_ib (((2 : Int32) * p0) + p1) 16) (if S.1 72 (((2 : Int32) * p0) + p1).toNatClampNeg = (-4) then (some (0, S)) else (ux_bi (f_X8_isDead n S (S.1 72 (((2 : Int32) * p0) + p1).toNatClampNeg)) (fun r5 S4 => if r5 = 0 then (some (1, S4)) else (some (0, S4)))))
set_option maxHeartbeats 2000000 in
set_option maxRecDepth 10000 in
theorem m_X8_lives {l : Launch} {G : ux_G} {n : Nat} {S : ux_S} {p0 : Int32} {p1 : Int32} {r : Int32} {Z : ux_S} (hf : f_X8_lives n S p0 p1 = some (r, Z)) : ux_M l G yX8_lives cX8_lives 4 (some .boolean) 2 [.ref (ux_a G 8), .int p0, .int p1] S (some (.int r)) Z := by
  refine ux_of (by decide) (Nat.le_of_ble_eq_true rfl) ?_
  show ux_At l G RX8 cX8_lives 4 (some .boolean) 2 (some (.int r)) Z 0 [(0, .ref (ux_a G 8)), (1, .int p0), (2, .int p1)] [] S
  unfold f_X8_lives at hf
  refine ax_aload_n 1 dX8_lives_0 rfl 0 rfl rfl ?_
  refine ax_getr 72 4 dX8_lives_1 fg_X8_76 rfl (by decide) rfl ?_
  refine ax_iconst (v := 2) 5 dX8_lives_4 (by decide) rfl ?_
  refine ax_iload_n 6 dX8_lives_5 rfl 1 rfl rfl ?_
  refine ax_imul 7 dX8_lives_6 rfl ?_
  refine ax_iload_n 8 dX8_lives_7 rfl 2 rfl rfl ?_
  refine ax_iadd 9 dX8_lives_8 rfl ?_
  obtain ⟨h1, hf⟩ := ux_gd_e hf
  refine ax_iald 10 dX8_lives_9 (by decide) rfl h1 rfl ?_
  refine ax_istore_n 11 dX8_lives_10 rfl (by decide) [1, 2, 3, 0] [(0, .ref (ux_a G 8)), (1, .int p0), (2, .int p1), (3, .int (S.1 72 (((2 : Int32) * p0) + p1).toNatClampNeg))] rfl rfl ?_
  refine ax_iload_n 12 dX8_lives_11 rfl 3 rfl rfl ?_
  refine ax_bipush (v := (-4)) 14 dX8_lives_12 (by decide) rfl ?_
  refine ax_icmp_eq 29 17 dX8_lives_14 (by decide) rfl (fun c2 => ?_) (fun c2 => ?_)
  · have hf := ux_ift c2 hf
    refine ax_iconst (v := 0) 30 dX8_lives_29 (by decide) rfl ?_
    exact ax_zret dX8_lives_30 rfl hf
  · have hf := ux_iff c2 hf
    refine ax_aload_n 18 dX8_lives_17 rfl 0 rfl rfl ?_
    refine ax_iload_n 19 dX8_lives_18 rfl 3 rfl rfl ?_
    obtain ⟨r5, S4, e3, hf⟩ := ux_bi_e hf
    refine ax_callVi 22 [.int (S.1 72 (((2 : Int32) * p0) + p1).toNatClampNeg)] dX8_lives_19 fv_X8_170 (m_X8_isDead e3) (by decide) rfl rfl (by decide) rfl rfl (Nat.le_of_ble_eq_true rfl) rfl ?_
    refine ax_if_ne 29 25 dX8_lives_22 (by decide) rfl (fun c6 => ?_) (fun c6 => ?_)
    · have hf := ux_iff c6 hf
      refine ax_iconst (v := 0) 30 dX8_lives_29 (by decide) rfl ?_
      exact ax_zret dX8_lives_30 rfl hf
    · have hf := ux_ift c6 hf
      refine ax_iconst (v := 1) 26 dX8_lives_25 (by decide) rfl ?_
      refine ax_goto 30 dX8_lives_26 (by decide) ?_
      exact ax_zret dX8_lives_30 rfl hf
def f_X8_isDark (n : Nat) (S : ux_S) (p0 : Int32) : Option (Int32 × ux_S) :=
  ux_bi (f_X8_lives n S p0 0) (fun r3 S2 => if r3 = 0 then (ux_bi (f_X8_lives n S2 p0 1) (fun r7 S6 => if r7 = 0 then (some (1, S6)) else (some (0, S6)))) else (some (0, S2)))
set_option maxHeartbeats 2000000 in
set_option maxRecDepth 10000 in
theorem m_X8_isDark {l : Launch} {G : ux_G} {n : Nat} {S : ux_S} {p0 : Int32} {r : Int32} {Z : ux_S} (hf : f_X8_isDark n S p0 = some (r, Z)) : ux_M l G yX8_isDark cX8_isDark 2 (some .boolean) 3 [.ref (ux_a G 8), .int p0] S (some (.int r)) Z := by
  refine ux_of (by decide) (Nat.le_of_ble_eq_true rfl) ?_
  show ux_At l G RX8 cX8_isDark 2 (some .boolean) 3 (some (.int r)) Z 0 [(0, .ref (ux_a G 8)), (1, .int p0)] [] S
  unfold f_X8_isDark at hf
  refine ax_aload_n 1 dX8_isDark_0 rfl 0 rfl rfl ?_
  refine ax_iload_n 2 dX8_isDark_1 rfl 1 rfl rfl ?_
  refine ax_iconst (v := 0) 3 dX8_isDark_2 (by decide) rfl ?_
  obtain ⟨r3, S2, e1, hf⟩ := ux_bi_e hf
  refine ax_callVi 6 [.int p0, .int 0] dX8_isDark_3 fv_X8_173 (m_X8_lives e1) (by decide) rfl rfl (by decide) rfl rfl (Nat.le_of_ble_eq_true rfl) rfl ?_
  refine ax_if_ne 22 9 dX8_isDark_6 (by decide) rfl (fun c4 => ?_) (fun c4 => ?_)
  · have hf := ux_iff c4 hf
    refine ax_iconst (v := 0) 23 dX8_isDark_22 (by decide) rfl ?_
    exact ax_zret dX8_isDark_23 rfl hf
  · have hf := ux_ift c4 hf
    refine ax_aload_n 10 dX8_isDark_9 rfl 0 rfl rfl ?_
    refine ax_iload_n 11 dX8_isDark_10 rfl 1 rfl rfl ?_
    refine ax_iconst (v := 1) 12 dX8_isDark_11 (by decide) rfl ?_
    obtain ⟨r7, S6, e5, hf⟩ := ux_bi_e hf
    refine ax_callVi 15 [.int p0, .int 1] dX8_isDark_12 fv_X8_173 (m_X8_lives e5) (by decide) rfl rfl (by decide) rfl rfl (Nat.le_of_ble_eq_true rfl) rfl ?_
    refine ax_if_ne 22 18 dX8_isDark_15 (by decide) rfl (fun c8 => ?_) (fun c8 => ?_)
    · have hf := ux_iff c8 hf
      refine ax_iconst (v := 0) 23 dX8_isDark_22 (by decide) rfl ?_
      exact ax_zret dX8_isDark_23 rfl hf
    · have hf := ux_ift c8 hf
      refine ax_iconst (v := 1) 19 dX8_isDark_18 (by decide) rfl ?_
      refine ax_goto 23 dX8_isDark_19 (by decide) ?_
      exact ax_zret dX8_isDark_23 rfl hf
def f_X8_drawn (n : Nat) (S : ux_S) (p0 : Int32) (p1 : Int32) : Option (Int32 × ux_S) :=
  ux_bi (f_X8_lives n S p0 p1) (fun r3 S2 => if r3 = 0 then (some (0, S2)) else (ux_bi (f_X8_lives n S2 p0 ((1 : Int32) - p1)) (fun r7 S6 => if r7 = 0 then (ux_gd (ux_ib p0 8) (some (S6.1 54 p0.toNatClampNeg, S6))) else (if p1 = 0 then (ux_gd (ux_ib p0 8) (some (((S6.1 54 p0.toNatClampNeg) + (1 : Int32)) / (2 : Int32), S6))) else (ux_gd (ux_ib p0 8) (some ((S6.1 54 p0.toNatClampNeg) / (2 : Int32), S6)))))))
set_option maxHeartbeats 2000000 in
set_option maxRecDepth 10000 in
theorem m_X8_drawn {l : Launch} {G : ux_G} {n : Nat} {S : ux_S} {p0 : Int32} {p1 : Int32} {r : Int32} {Z : ux_S} (hf : f_X8_drawn n S p0 p1 = some (r, Z)) : ux_M l G yX8_drawn cX8_drawn 3 (some .int) 3 [.ref (ux_a G 8), .int p0, .int p1] S (some (.int r)) Z := by
  refine ux_of (by decide) (Nat.le_of_ble_eq_true rfl) ?_
  show ux_At l G RX8 cX8_drawn 3 (some .int) 3 (some (.int r)) Z 0 [(0, .ref (ux_a G 8)), (1, .int p0), (2, .int p1)] [] S
  unfold f_X8_drawn at hf
  refine ax_aload_n 1 dX8_drawn_0 rfl 0 rfl rfl ?_
  refine ax_iload_n 2 dX8_drawn_1 rfl 1 rfl rfl ?_
  refine ax_iload_n 3 dX8_drawn_2 rfl 2 rfl rfl ?_
  obtain ⟨r3, S2, e1, hf⟩ := ux_bi_e hf
  refine ax_callVi 6 [.int p0, .int p1] dX8_drawn_3 fv_X8_173 (m_X8_lives e1) (by decide) rfl rfl (by decide) rfl rfl (Nat.le_of_ble_eq_true rfl) rfl ?_
  refine ax_if_ne 11 9 dX8_drawn_6 (by decide) rfl (fun c4 => ?_) (fun c4 => ?_)
  · have hf := ux_iff c4 hf
    refine ax_aload_n 12 dX8_drawn_11 rfl 0 rfl rfl ?_
    refine ax_iload_n 13 dX8_drawn_12 rfl 1 rfl rfl ?_
    refine ax_iconst (v := 1) 14 dX8_drawn_13 (by decide) rfl ?_
    refine ax_iload_n 15 dX8_drawn_14 rfl 2 rfl rfl ?_
    refine ax_isub 16 dX8_drawn_15 rfl ?_
    obtain ⟨r7, S6, e5, hf⟩ := ux_bi_e hf
    refine ax_callVi 19 [.int p0, .int ((1 : Int32) - p1)] dX8_drawn_16 fv_X8_173 (m_X8_lives e5) (by decide) rfl rfl (by decide) rfl rfl (Nat.le_of_ble_eq_true rfl) rfl ?_
    refine ax_if_ne 31 22 dX8_drawn_19 (by decide) rfl (fun c8 => ?_) (fun c8 => ?_)
    · have hf := ux_iff c8 hf
      refine ax_iload_n 32 dX8_drawn_31 rfl 2 rfl rfl ?_
      refine ax_if_ne 48 35 dX8_drawn_32 (by decide) rfl (fun c9 => ?_) (fun c9 => ?_)
      · have hf := ux_iff c9 hf
        refine ax_aload_n 49 dX8_drawn_48 rfl 0 rfl rfl ?_
        refine ax_getr 54 52 dX8_drawn_49 fg_X8_7 rfl (by decide) rfl ?_
        refine ax_iload_n 53 dX8_drawn_52 rfl 1 rfl rfl ?_
        obtain ⟨h10, hf⟩ := ux_gd_e hf
        refine ax_iald 54 dX8_drawn_53 (by decide) rfl h10 rfl ?_
        refine ax_iconst (v := 2) 55 dX8_drawn_54 (by decide) rfl ?_
        refine ax_idiv 56 dX8_drawn_55 (by decide) rfl ?_
        exact ax_iret dX8_drawn_56 hf
      · have hf := ux_ift c9 hf
        refine ax_aload_n 36 dX8_drawn_35 rfl 0 rfl rfl ?_
        refine ax_getr 54 39 dX8_drawn_36 fg_X8_7 rfl (by decide) rfl ?_
        refine ax_iload_n 40 dX8_drawn_39 rfl 1 rfl rfl ?_
        obtain ⟨h11, hf⟩ := ux_gd_e hf
        refine ax_iald 41 dX8_drawn_40 (by decide) rfl h11 rfl ?_
        refine ax_iconst (v := 1) 42 dX8_drawn_41 (by decide) rfl ?_
        refine ax_iadd 43 dX8_drawn_42 rfl ?_
        refine ax_iconst (v := 2) 44 dX8_drawn_43 (by decide) rfl ?_
        refine ax_idiv 45 dX8_drawn_44 (by decide) rfl ?_
        refine ax_goto 56 dX8_drawn_45 (by decide) ?_
        exact ax_iret dX8_drawn_56 hf
    · have hf := ux_ift c8 hf
      refine ax_aload_n 23 dX8_drawn_22 rfl 0 rfl rfl ?_
      refine ax_getr 54 26 dX8_drawn_23 fg_X8_7 rfl (by decide) rfl ?_
      refine ax_iload_n 27 dX8_drawn_26 rfl 1 rfl rfl ?_
      obtain ⟨h12, hf⟩ := ux_gd_e hf
      refine ax_iald 28 dX8_drawn_27 (by decide) rfl h12 rfl ?_
      refine ax_goto 56 dX8_drawn_28 (by decide) ?_
      exact ax_iret dX8_drawn_56 hf
  · have hf := ux_ift c4 hf
    refine ax_iconst (v := 0) 10 dX8_drawn_9 (by decide) rfl ?_
    exact ax_iret dX8_drawn_10 hf
def b_X8_isUnder_2 (n : Nat) (p0 : Int32) (p1 : Int32) (k2 : Int32 → ux_S → Option (Int32 × ux_S)) (x3 : Int32) (S : ux_S) : Option (Int32 × ux_S) :=
  if x3 = (-4) then (some (0, S)) else (if x3 = p1 then (some (1, S)) else (ux_gd (ux_ib x3 16) (k2 (S.1 69 x3.toNatClampNeg) S)))
set_option maxHeartbeats 2000000 in
set_option maxRecDepth 10000 in
theorem w_X8_isUnder_2 {l : Launch} {G : ux_G} {n : Nat} {p0 : Int32} {p1 : Int32} {r : Int32} {Z : ux_S} (k2 : Int32 → ux_S → Option (Int32 × ux_S)) (hk2 : ∀ (x3 : Int32) (S : ux_S), k2 x3 S = some (r, Z) → ux_At l G RX8 cX8_isUnder 4 (some .boolean) 1 (some (.int r)) Z 2 [(0, .ref (ux_a G 8)), (2, .int p1), (3, .int x3)] [] S) : ∀ (x3 : Int32) (S : ux_S), b_X8_isUnder_2 n p0 p1 k2 x3 S = some (r, Z) → ux_At l G RX8 cX8_isUnder 4 (some .boolean) 1 (some (.int r)) Z 2 [(0, .ref (ux_a G 8)), (2, .int p1), (3, .int x3)] [] S := by
  intro x3 S hf
  unfold b_X8_isUnder_2 at hf
  refine ax_iload_n 3 dX8_isUnder_2 rfl 2 rfl rfl ?_
  refine ax_bipush (v := (-4)) 5 dX8_isUnder_3 (by decide) rfl ?_
  refine ax_icmp_eq 25 8 dX8_isUnder_5 (by decide) rfl (fun c1 => ?_) (fun c1 => ?_)
  · have hf := ux_ift c1 hf
    refine ax_iconst (v := 0) 26 dX8_isUnder_25 (by decide) rfl ?_
    exact ax_zret dX8_isUnder_26 rfl hf
  · have hf := ux_iff c1 hf
    refine ax_iload_n 9 dX8_isUnder_8 rfl 2 rfl rfl ?_
    refine ax_iload_n 10 dX8_isUnder_9 rfl 1 rfl rfl ?_
    refine ax_icmp_ne 15 13 dX8_isUnder_10 (by decide) rfl (fun c2 => ?_) (fun c2 => ?_)
    · have hf := ux_iff c2 hf
      refine ax_aload_n 16 dX8_isUnder_15 rfl 0 rfl rfl ?_
      refine ax_getr 69 19 dX8_isUnder_16 fg_X8_66 rfl (by decide) rfl ?_
      refine ax_iload_n 20 dX8_isUnder_19 rfl 2 rfl rfl ?_
      obtain ⟨h3, hf⟩ := ux_gd_e hf
      refine ax_iald 21 dX8_isUnder_20 (by decide) rfl h3 rfl ?_
      refine ax_istore_n 22 dX8_isUnder_21 rfl (by decide) [1, 2, 0] [(0, .ref (ux_a G 8)), (2, .int p1), (3, .int (S.1 69 x3.toNatClampNeg))] rfl rfl ?_
      refine ax_goto 2 dX8_isUnder_22 (by decide) ?_
      exact ax_sub [0, 1, 2] rfl (hk2 (S.1 69 x3.toNatClampNeg) S hf)
    · have hf := ux_ift c2 hf
      refine ax_iconst (v := 1) 14 dX8_isUnder_13 (by decide) rfl ?_
      exact ax_zret dX8_isUnder_14 rfl hf
def f_X8_isUnder (n : Nat) (S : ux_S) (p0 : Int32) (p1 : Int32) : Option (Int32 × ux_S) :=
  ux_lp1 (b_X8_isUnder_2 n p0 p1) n p0 S
set_option maxHeartbeats 2000000 in
set_option maxRecDepth 10000 in
theorem m_X8_isUnder {l : Launch} {G : ux_G} {n : Nat} {S : ux_S} {p0 : Int32} {p1 : Int32} {r : Int32} {Z : ux_S} (hf : f_X8_isUnder n S p0 p1 = some (r, Z)) : ux_M l G yX8_isUnder cX8_isUnder 4 (some .boolean) 1 [.ref (ux_a G 8), .int p0, .int p1] S (some (.int r)) Z := by
  refine ux_of (by decide) (Nat.le_of_ble_eq_true rfl) ?_
  show ux_At l G RX8 cX8_isUnder 4 (some .boolean) 1 (some (.int r)) Z 0 [(0, .ref (ux_a G 8)), (1, .int p0), (2, .int p1)] [] S
  unfold f_X8_isUnder at hf
  refine ax_iload_n 1 dX8_isUnder_0 rfl 1 rfl rfl ?_
  refine ax_istore_n 2 dX8_isUnder_1 rfl (by decide) [1, 2, 3, 0] [(0, .ref (ux_a G 8)), (1, .int p0), (2, .int p1), (3, .int p0)] rfl rfl ?_
  exact ax_sub [0, 2, 3] rfl (ux_lp1_w (Pr := fun x3 S => ux_At l G RX8 cX8_isUnder 4 (some .boolean) 1 (some (.int r)) Z 2 [(0, .ref (ux_a G 8)), (2, .int p1), (3, .int x3)] [] S) (fun k2 hk2 => w_X8_isUnder_2 k2 hk2) n p0 S hf)
def b_X8_goes_70 (n : Nat) (p0 : Int32) (k23 : Int32 → Int32 → Int32 → ux_S → Option (Int32 × ux_S)) (x3 : Int32) (x4 : Int32) (t0 : Int32) (S : ux_S) : Option (Int32 × ux_S) :=
  k23 (t0 + (0 : Int32)) x3 (x4 + 1) S
set_option maxHeartbeats 2000000 in
set_option maxRecDepth 10000 in
theorem w_X8_goes_70 {l : Launch} {G : ux_G} {n : Nat} {p0 : Int32} {r : Int32} {Z : ux_S} (k23 : Int32 → Int32 → Int32 → ux_S → Option (Int32 × ux_S)) (hk23 : ∀ (x2 x3 x4 : Int32) (S : ux_S), k23 x2 x3 x4 S = some (r, Z) → ux_At l G RX8 cX8_goes 6 (some .int) 4 (some (.int r)) Z 23 [(0, .ref (ux_a G 8)), (1, .int p0), (2, .int x2), (3, .int x3), (4, .int x4)] [] S) : ∀ (x3 : Int32) (x4 : Int32) (t0 : Int32) (S : ux_S), b_X8_goes_70 n p0 k23 x3 x4 t0 S = some (r, Z) → ux_At l G RX8 cX8_goes 6 (some .int) 4 (some (.int r)) Z 70 [(0, .ref (ux_a G 8)), (1, .int p0), (3, .int x3), (4, .int x4)] [.int t0] S := by
  intro x3 x4 t0 S hf
  unfold b_X8_goes_70 at hf
  refine ax_iconst (v := 0) 71 dX8_goes_70 (by decide) rfl ?_
  refine ax_iadd 72 dX8_goes_71 rfl ?_
  refine ax_istore_n 73 dX8_goes_72 rfl (by decide) [1, 2, 0, 3, 4] [(0, .ref (ux_a G 8)), (1, .int p0), (2, .int (t0 + (0 : Int32))), (3, .int x3), (4, .int x4)] rfl rfl ?_
  refine ax_iinc (v := x4 + 1) 76 dX8_goes_73 4 rfl rfl (by decide) [1, 2, 3, 4, 0] [(0, .ref (ux_a G 8)), (1, .int p0), (2, .int (t0 + (0 : Int32))), (3, .int x3), (4, .int (x4 + 1))] rfl rfl ?_
  refine ax_goto 23 dX8_goes_76 (by decide) ?_
  exact ax_sub [0, 1, 2, 3, 4] rfl (hk23 (t0 + (0 : Int32)) x3 (x4 + 1) S hf)
def b_X8_goes_23 (n : Nat) (p0 : Int32) (k4 : Int32 → Int32 → ux_S → Option (Int32 × ux_S)) (k23 : Int32 → Int32 → Int32 → ux_S → Option (Int32 × ux_S)) (x2 : Int32) (x3 : Int32) (x4 : Int32) (S : ux_S) : Option (Int32 × ux_S) :=
  if 2 ≤ x4 then (k4 x2 (x3 + 1) S) else (ux_gd (ux_ib (((2 : Int32) * x3) + x4) 16) (if S.1 72 (((2 : Int32) * x3) + x4).toNatClampNeg = (-4) then (b_X8_goes_70 n p0 k23 x3 x4 x2 S) else (ux_bi (f_X8_isUnder n S (S.1 72 (((2 : Int32) * x3) + x4).toNatClampNeg) p0) (fun r11 S10 => if r11 = 0 then (b_X8_goes_70 n p0 k23 x3 x4 x2 S10) else (ux_bi (f_X8_drawn n S10 x3 x4) (fun r15 S14 => k23 (x2 + r15) x3 (x4 + 1) S14))))))
set_option maxHeartbeats 2000000 in
set_option maxRecDepth 10000 in
theorem w_X8_goes_23 {l : Launch} {G : ux_G} {n : Nat} {p0 : Int32} {r : Int32} {Z : ux_S} (k4 : Int32 → Int32 → ux_S → Option (Int32 × ux_S)) (hk4 : ∀ (x2 x3 : Int32) (S : ux_S), k4 x2 x3 S = some (r, Z) → ux_At l G RX8 cX8_goes 6 (some .int) 4 (some (.int r)) Z 4 [(0, .ref (ux_a G 8)), (1, .int p0), (2, .int x2), (3, .int x3)] [] S) (k23 : Int32 → Int32 → Int32 → ux_S → Option (Int32 × ux_S)) (hk23 : ∀ (x2 x3 x4 : Int32) (S : ux_S), k23 x2 x3 x4 S = some (r, Z) → ux_At l G RX8 cX8_goes 6 (some .int) 4 (some (.int r)) Z 23 [(0, .ref (ux_a G 8)), (1, .int p0), (2, .int x2), (3, .int x3), (4, .int x4)] [] S) : ∀ (x2 : Int32) (x3 : Int32) (x4 : Int32) (S : ux_S), b_X8_goes_23 n p0 k4 k23 x2 x3 x4 S = some (r, Z) → ux_At l G RX8 cX8_goes 6 (some .int) 4 (some (.int r)) Z 23 [(0, .ref (ux_a G 8)), (1, .int p0), (2, .int x2), (3, .int x3), (4, .int x4)] [] S := by
  intro x2 x3 x4 S hf
  unfold b_X8_goes_23 at hf
  refine ax_iload 25 dX8_goes_23 4 rfl rfl ?_
  refine ax_iconst (v := 2) 26 dX8_goes_25 (by decide) rfl ?_
  refine ax_icmp_ge 79 29 dX8_goes_26 (by decide) rfl (fun c6 => ?_) (fun c6 => ?_)
  · have hf := ux_ift c6 hf
    refine ax_iinc (v := x3 + 1) 82 dX8_goes_79 3 rfl rfl (by decide) [1, 2, 3, 0] [(0, .ref (ux_a G 8)), (1, .int p0), (2, .int x2), (3, .int (x3 + 1))] rfl rfl ?_
    refine ax_goto 4 dX8_goes_82 (by decide) ?_
    exact ax_sub [0, 1, 2, 3] rfl (hk4 x2 (x3 + 1) S hf)
  · have hf := ux_iff c6 hf
    refine ax_aload_n 30 dX8_goes_29 rfl 0 rfl rfl ?_
    refine ax_getr 72 33 dX8_goes_30 fg_X8_76 rfl (by decide) rfl ?_
    refine ax_iconst (v := 2) 34 dX8_goes_33 (by decide) rfl ?_
    refine ax_iload_n 35 dX8_goes_34 rfl 3 rfl rfl ?_
    refine ax_imul 36 dX8_goes_35 rfl ?_
    refine ax_iload 38 dX8_goes_36 4 rfl rfl ?_
    refine ax_iadd 39 dX8_goes_38 rfl ?_
    obtain ⟨h7, hf⟩ := ux_gd_e hf
    refine ax_iald 40 dX8_goes_39 (by decide) rfl h7 rfl ?_
    refine ax_istore 42 dX8_goes_40 (by decide) [1, 2, 3, 4, 5, 0] [(0, .ref (ux_a G 8)), (1, .int p0), (2, .int x2), (3, .int x3), (4, .int x4), (5, .int (S.1 72 (((2 : Int32) * x3) + x4).toNatClampNeg))] rfl rfl ?_
    refine ax_iload_n 43 dX8_goes_42 rfl 2 rfl rfl ?_
    refine ax_iload 45 dX8_goes_43 5 rfl rfl ?_
    refine ax_bipush (v := (-4)) 47 dX8_goes_45 (by decide) rfl ?_
    refine ax_icmp_eq 70 50 dX8_goes_47 (by decide) rfl (fun c8 => ?_) (fun c8 => ?_)
    · have hf := ux_ift c8 hf
      exact ax_sub [0, 1, 3, 4] rfl (w_X8_goes_70 k23 hk23 x3 x4 x2 S hf)
    · have hf := ux_iff c8 hf
      refine ax_aload_n 51 dX8_goes_50 rfl 0 rfl rfl ?_
      refine ax_iload 53 dX8_goes_51 5 rfl rfl ?_
      refine ax_iload_n 54 dX8_goes_53 rfl 1 rfl rfl ?_
      obtain ⟨r11, S10, e9, hf⟩ := ux_bi_e hf
      refine ax_callVi 57 [.int (S.1 72 (((2 : Int32) * x3) + x4).toNatClampNeg), .int p0] dX8_goes_54 fv_X8_177 (m_X8_isUnder e9) (by decide) rfl rfl (by decide) rfl rfl (Nat.le_of_ble_eq_true rfl) rfl ?_
      refine ax_if_eq 70 60 dX8_goes_57 (by decide) rfl (fun c12 => ?_) (fun c12 => ?_)
      · have hf := ux_ift c12 hf
        exact ax_sub [0, 1, 3, 4] rfl (w_X8_goes_70 k23 hk23 x3 x4 x2 S10 hf)
      · have hf := ux_iff c12 hf
        refine ax_aload_n 61 dX8_goes_60 rfl 0 rfl rfl ?_
        refine ax_iload_n 62 dX8_goes_61 rfl 3 rfl rfl ?_
        refine ax_iload 64 dX8_goes_62 4 rfl rfl ?_
        obtain ⟨r15, S14, e13, hf⟩ := ux_bi_e hf
        refine ax_callVi 67 [.int x3, .int x4] dX8_goes_64 fv_X8_180 (m_X8_drawn e13) (by decide) rfl rfl (by decide) rfl rfl (Nat.le_of_ble_eq_true rfl) rfl ?_
        refine ax_goto 71 dX8_goes_67 (by decide) ?_
        refine ax_iadd 72 dX8_goes_71 rfl ?_
        refine ax_istore_n 73 dX8_goes_72 rfl (by decide) [1, 2, 0, 3, 4] [(0, .ref (ux_a G 8)), (1, .int p0), (2, .int (x2 + r15)), (3, .int x3), (4, .int x4)] rfl rfl ?_
        refine ax_iinc (v := x4 + 1) 76 dX8_goes_73 4 rfl rfl (by decide) [1, 2, 3, 4, 0] [(0, .ref (ux_a G 8)), (1, .int p0), (2, .int (x2 + r15)), (3, .int x3), (4, .int (x4 + 1))] rfl rfl ?_
        refine ax_goto 23 dX8_goes_76 (by decide) ?_
        exact ax_sub [0, 1, 2, 3, 4] rfl (hk23 (x2 + r15) x3 (x4 + 1) S14 hf)
def b_X8_goes_4 (n : Nat) (p0 : Int32) (k4 : Int32 → Int32 → ux_S → Option (Int32 × ux_S)) (x2 : Int32) (x3 : Int32) (S : ux_S) : Option (Int32 × ux_S) :=
  if S.1 8 0 ≤ x3 then (some (x2, S)) else (ux_bi (f_X8_isDead n S p0) (fun r4 S3 => if r4 = 0 then (ux_lp3 (b_X8_goes_23 n p0 k4) n x2 x3 0 S3) else (some (x2, S3))))
set_option maxHeartbeats 2000000 in
set_option maxRecDepth 10000 in
theorem w_X8_goes_4 {l : Launch} {G : ux_G} {n : Nat} {p0 : Int32} {r : Int32} {Z : ux_S} (k4 : Int32 → Int32 → ux_S → Option (Int32 × ux_S)) (hk4 : ∀ (x2 x3 : Int32) (S : ux_S), k4 x2 x3 S = some (r, Z) → ux_At l G RX8 cX8_goes 6 (some .int) 4 (some (.int r)) Z 4 [(0, .ref (ux_a G 8)), (1, .int p0), (2, .int x2), (3, .int x3)] [] S) : ∀ (x2 : Int32) (x3 : Int32) (S : ux_S), b_X8_goes_4 n p0 k4 x2 x3 S = some (r, Z) → ux_At l G RX8 cX8_goes 6 (some .int) 4 (some (.int r)) Z 4 [(0, .ref (ux_a G 8)), (1, .int p0), (2, .int x2), (3, .int x3)] [] S := by
  intro x2 x3 S hf
  unfold b_X8_goes_4 at hf
  refine ax_iload_n 5 dX8_goes_4 rfl 3 rfl rfl ?_
  refine ax_aload_n 6 dX8_goes_5 rfl 0 rfl rfl ?_
  refine ax_geti 9 dX8_goes_6 fg_X8_112 rfl rfl ?_
  refine ax_icmp_ge 85 12 dX8_goes_9 (by decide) rfl (fun c1 => ?_) (fun c1 => ?_)
  · have hf := ux_ift c1 hf
    refine ax_iload_n 86 dX8_goes_85 rfl 2 rfl rfl ?_
    exact ax_iret dX8_goes_86 hf
  · have hf := ux_iff c1 hf
    refine ax_aload_n 13 dX8_goes_12 rfl 0 rfl rfl ?_
    refine ax_iload_n 14 dX8_goes_13 rfl 1 rfl rfl ?_
    obtain ⟨r4, S3, e2, hf⟩ := ux_bi_e hf
    refine ax_callVi 17 [.int p0] dX8_goes_14 fv_X8_170 (m_X8_isDead e2) (by decide) rfl rfl (by decide) rfl rfl (Nat.le_of_ble_eq_true rfl) rfl ?_
    refine ax_if_ne 85 20 dX8_goes_17 (by decide) rfl (fun c5 => ?_) (fun c5 => ?_)
    · have hf := ux_iff c5 hf
      refine ax_iload_n 86 dX8_goes_85 rfl 2 rfl rfl ?_
      exact ax_iret dX8_goes_86 hf
    · have hf := ux_ift c5 hf
      refine ax_iconst (v := 0) 21 dX8_goes_20 (by decide) rfl ?_
      refine ax_istore 23 dX8_goes_21 (by decide) [1, 2, 3, 4, 0] [(0, .ref (ux_a G 8)), (1, .int p0), (2, .int x2), (3, .int x3), (4, .int 0)] rfl rfl ?_
      exact ax_sub [0, 1, 2, 3, 4] rfl (ux_lp3_w (Pr := fun x2 x3 x4 S => ux_At l G RX8 cX8_goes 6 (some .int) 4 (some (.int r)) Z 23 [(0, .ref (ux_a G 8)), (1, .int p0), (2, .int x2), (3, .int x3), (4, .int x4)] [] S) (fun k23 hk23 => w_X8_goes_23 k4 hk4 k23 hk23) n x2 x3 0 S3 hf)
def f_X8_goes (n : Nat) (S : ux_S) (p0 : Int32) : Option (Int32 × ux_S) :=
  ux_lp2 (b_X8_goes_4 n p0) n 0 0 S
set_option maxHeartbeats 2000000 in
set_option maxRecDepth 10000 in
theorem m_X8_goes {l : Launch} {G : ux_G} {n : Nat} {S : ux_S} {p0 : Int32} {r : Int32} {Z : ux_S} (hf : f_X8_goes n S p0 = some (r, Z)) : ux_M l G yX8_goes cX8_goes 6 (some .int) 4 [.ref (ux_a G 8), .int p0] S (some (.int r)) Z := by
  refine ux_of (by decide) (Nat.le_of_ble_eq_true rfl) ?_
  show ux_At l G RX8 cX8_goes 6 (some .int) 4 (some (.int r)) Z 0 [(0, .ref (ux_a G 8)), (1, .int p0)] [] S
  unfold f_X8_goes at hf
  refine ax_iconst (v := 0) 1 dX8_goes_0 (by decide) rfl ?_
  refine ax_istore_n 2 dX8_goes_1 rfl (by decide) [1, 2, 0] [(0, .ref (ux_a G 8)), (1, .int p0), (2, .int 0)] rfl rfl ?_
  refine ax_iconst (v := 0) 3 dX8_goes_2 (by decide) rfl ?_
  refine ax_istore_n 4 dX8_goes_3 rfl (by decide) [1, 2, 3, 0] [(0, .ref (ux_a G 8)), (1, .int p0), (2, .int 0), (3, .int 0)] rfl rfl ?_
  exact ax_sub [0, 1, 2, 3] rfl (ux_lp2_w (Pr := fun x2 x3 S => ux_At l G RX8 cX8_goes 6 (some .int) 4 (some (.int r)) Z 4 [(0, .ref (ux_a G 8)), (1, .int p0), (2, .int x2), (3, .int x3)] [] S) (fun k4 hk4 => w_X8_goes_4 k4 hk4) n 0 0 S hf)
def f_X8_through (n : Nat) (S : ux_S) (p0 : Int32) : Option (Int32 × ux_S) :=
  ux_bi (f_X8_isFeed S p0) (fun r3 S2 => if r3 = 0 then (some ((-1), S2)) else (ux_bi (f_X8_goes n S2 p0) (fun r7 S6 => some (r7, S6))))
set_option maxHeartbeats 2000000 in
set_option maxRecDepth 10000 in
theorem m_X8_through {l : Launch} {G : ux_G} {n : Nat} {S : ux_S} {p0 : Int32} {r : Int32} {Z : ux_S} (hf : f_X8_through n S p0 = some (r, Z)) : ux_M l G yX8_through cX8_through 2 (some .int) 5 [.ref (ux_a G 8), .int p0] S (some (.int r)) Z := by
  refine ux_of (by decide) (Nat.le_of_ble_eq_true rfl) ?_
  show ux_At l G RX8 cX8_through 2 (some .int) 5 (some (.int r)) Z 0 [(0, .ref (ux_a G 8)), (1, .int p0)] [] S
  unfold f_X8_through at hf
  refine ax_aload_n 1 dX8_through_0 rfl 0 rfl rfl ?_
  refine ax_iload_n 2 dX8_through_1 rfl 1 rfl rfl ?_
  obtain ⟨r3, S2, e1, hf⟩ := ux_bi_e hf
  refine ax_callVi 5 [.int p0] dX8_through_2 fv_X8_167 (m_X8_isFeed e1) (by decide) rfl rfl (by decide) rfl rfl (Nat.le_of_ble_eq_true rfl) rfl ?_
  refine ax_if_eq 16 8 dX8_through_5 (by decide) rfl (fun c4 => ?_) (fun c4 => ?_)
  · have hf := ux_ift c4 hf
    refine ax_iconst (v := (-1)) 17 dX8_through_16 (by decide) rfl ?_
    exact ax_iret dX8_through_17 hf
  · have hf := ux_iff c4 hf
    refine ax_aload_n 9 dX8_through_8 rfl 0 rfl rfl ?_
    refine ax_iload_n 10 dX8_through_9 rfl 1 rfl rfl ?_
    obtain ⟨r7, S6, e5, hf⟩ := ux_bi_e hf
    refine ax_callVi 13 [.int p0] dX8_through_10 fv_X8_183 (m_X8_goes e5) (by decide) rfl rfl (by decide) rfl rfl (Nat.le_of_ble_eq_true rfl) rfl ?_
    refine ax_goto 17 dX8_through_13 (by decide) ?_
    exact ax_iret dX8_through_17 hf
def b_X8_state_122 (n : Nat) (p0 : Int32) (k39 : Int32 → Int32 → Int32 → Int32 → ux_S → Option (Int32 × ux_S)) (x3 : Int32) (x4 : Int32) (x5 : Int32) (x6 : Int32) (t0 : Int32) (t1 : Int32) (S : ux_S) : Option (Int32 × ux_S) :=
  if x6 = 0 then (k39 (t1 + t0) x3 x4 (x5 + 1) S) else (if x3 = (-4) then (k39 (t1 + t0) x5 x4 (x5 + 1) S) else (k39 (t1 + t0) x3 x4 (x5 + 1) S))
set_option maxHeartbeats 2000000 in
set_option maxRecDepth 10000 in
theorem w_X8_state_122 {l : Launch} {G : ux_G} {n : Nat} {p0 : Int32} {r : Int32} {Z : ux_S} (k39 : Int32 → Int32 → Int32 → Int32 → ux_S → Option (Int32 × ux_S)) (hk39 : ∀ (x2 x3 x4 x5 : Int32) (S : ux_S), k39 x2 x3 x4 x5 S = some (r, Z) → ux_At l G RX8 cX8_state 7 (some .int) 5 (some (.int r)) Z 39 [(0, .ref (ux_a G 8)), (1, .int p0), (2, .int x2), (3, .int x3), (4, .int x4), (5, .int x5)] [] S) : ∀ (x3 : Int32) (x4 : Int32) (x5 : Int32) (x6 : Int32) (t0 : Int32) (t1 : Int32) (S : ux_S), b_X8_state_122 n p0 k39 x3 x4 x5 x6 t0 t1 S = some (r, Z) → ux_At l G RX8 cX8_state 7 (some .int) 5 (some (.int r)) Z 122 [(0, .ref (ux_a G 8)), (1, .int p0), (3, .int x3), (4, .int x4), (5, .int x5), (6, .int x6)] [.int t0, .int t1] S := by
  intro x3 x4 x5 x6 t0 t1 S hf
  unfold b_X8_state_122 at hf
  refine ax_iadd 123 dX8_state_122 rfl ?_
  refine ax_istore_n 124 dX8_state_123 rfl (by decide) [1, 2, 0, 3, 4, 5, 6] [(0, .ref (ux_a G 8)), (1, .int p0), (2, .int (t1 + t0)), (3, .int x3), (4, .int x4), (5, .int x5), (6, .int x6)] rfl rfl ?_
  refine ax_iload 126 dX8_state_124 6 rfl rfl ?_
  refine ax_if_eq 140 129 dX8_state_126 (by decide) rfl (fun c18 => ?_) (fun c18 => ?_)
  · have hf := ux_ift c18 hf
    refine ax_iload_n 141 dX8_state_140 rfl 3 rfl rfl ?_
    refine ax_istore_n 142 dX8_state_141 rfl (by decide) [1, 2, 3, 0, 4, 5] [(0, .ref (ux_a G 8)), (1, .int p0), (2, .int (t1 + t0)), (3, .int x3), (4, .int x4), (5, .int x5)] rfl rfl ?_
    refine ax_iinc (v := x5 + 1) 145 dX8_state_142 5 rfl rfl (by decide) [1, 2, 3, 4, 5, 0] [(0, .ref (ux_a G 8)), (1, .int p0), (2, .int (t1 + t0)), (3, .int x3), (4, .int x4), (5, .int (x5 + 1))] rfl rfl ?_
    refine ax_goto 39 dX8_state_145 (by decide) ?_
    exact ax_sub [0, 1, 2, 3, 4, 5] rfl (hk39 (t1 + t0) x3 x4 (x5 + 1) S hf)
  · have hf := ux_iff c18 hf
    refine ax_iload_n 130 dX8_state_129 rfl 3 rfl rfl ?_
    refine ax_bipush (v := (-4)) 132 dX8_state_130 (by decide) rfl ?_
    refine ax_icmp_ne 140 135 dX8_state_132 (by decide) rfl (fun c19 => ?_) (fun c19 => ?_)
    · have hf := ux_iff c19 hf
      refine ax_iload_n 141 dX8_state_140 rfl 3 rfl rfl ?_
      refine ax_istore_n 142 dX8_state_141 rfl (by decide) [1, 2, 3, 0, 4, 5] [(0, .ref (ux_a G 8)), (1, .int p0), (2, .int (t1 + t0)), (3, .int x3), (4, .int x4), (5, .int x5)] rfl rfl ?_
      refine ax_iinc (v := x5 + 1) 145 dX8_state_142 5 rfl rfl (by decide) [1, 2, 3, 4, 5, 0] [(0, .ref (ux_a G 8)), (1, .int p0), (2, .int (t1 + t0)), (3, .int x3), (4, .int x4), (5, .int (x5 + 1))] rfl rfl ?_
      refine ax_goto 39 dX8_state_145 (by decide) ?_
      exact ax_sub [0, 1, 2, 3, 4, 5] rfl (hk39 (t1 + t0) x3 x4 (x5 + 1) S hf)
    · have hf := ux_ift c19 hf
      refine ax_iload 137 dX8_state_135 5 rfl rfl ?_
      refine ax_goto 141 dX8_state_137 (by decide) ?_
      refine ax_istore_n 142 dX8_state_141 rfl (by decide) [1, 2, 3, 0, 4, 5] [(0, .ref (ux_a G 8)), (1, .int p0), (2, .int (t1 + t0)), (3, .int x5), (4, .int x4), (5, .int x5)] rfl rfl ?_
      refine ax_iinc (v := x5 + 1) 145 dX8_state_142 5 rfl rfl (by decide) [1, 2, 3, 4, 5, 0] [(0, .ref (ux_a G 8)), (1, .int p0), (2, .int (t1 + t0)), (3, .int x5), (4, .int x4), (5, .int (x5 + 1))] rfl rfl ?_
      refine ax_goto 39 dX8_state_145 (by decide) ?_
      exact ax_sub [0, 1, 2, 3, 4, 5] rfl (hk39 (t1 + t0) x5 x4 (x5 + 1) S hf)
def b_X8_state_109 (n : Nat) (p0 : Int32) (k39 : Int32 → Int32 → Int32 → Int32 → ux_S → Option (Int32 × ux_S)) (x2 : Int32) (x3 : Int32) (x4 : Int32) (x5 : Int32) (t0 : Int32) (S : ux_S) : Option (Int32 × ux_S) :=
  if t0 = 0 then (b_X8_state_122 n p0 k39 x3 x4 x5 t0 0 x2 S) else (b_X8_state_122 n p0 k39 x3 x4 x5 t0 1 x2 S)
set_option maxHeartbeats 2000000 in
set_option maxRecDepth 10000 in
theorem w_X8_state_109 {l : Launch} {G : ux_G} {n : Nat} {p0 : Int32} {r : Int32} {Z : ux_S} (k39 : Int32 → Int32 → Int32 → Int32 → ux_S → Option (Int32 × ux_S)) (hk39 : ∀ (x2 x3 x4 x5 : Int32) (S : ux_S), k39 x2 x3 x4 x5 S = some (r, Z) → ux_At l G RX8 cX8_state 7 (some .int) 5 (some (.int r)) Z 39 [(0, .ref (ux_a G 8)), (1, .int p0), (2, .int x2), (3, .int x3), (4, .int x4), (5, .int x5)] [] S) : ∀ (x2 : Int32) (x3 : Int32) (x4 : Int32) (x5 : Int32) (t0 : Int32) (S : ux_S), b_X8_state_109 n p0 k39 x2 x3 x4 x5 t0 S = some (r, Z) → ux_At l G RX8 cX8_state 7 (some .int) 5 (some (.int r)) Z 109 [(0, .ref (ux_a G 8)), (1, .int p0), (2, .int x2), (3, .int x3), (4, .int x4), (5, .int x5)] [.int t0] S := by
  intro x2 x3 x4 x5 t0 S hf
  unfold b_X8_state_109 at hf
  refine ax_istore 111 dX8_state_109 (by decide) [1, 2, 3, 4, 5, 6, 0] [(0, .ref (ux_a G 8)), (1, .int p0), (2, .int x2), (3, .int x3), (4, .int x4), (5, .int x5), (6, .int t0)] rfl rfl ?_
  refine ax_iload_n 112 dX8_state_111 rfl 2 rfl rfl ?_
  refine ax_iload 114 dX8_state_112 6 rfl rfl ?_
  refine ax_if_eq 121 117 dX8_state_114 (by decide) rfl (fun c17 => ?_) (fun c17 => ?_)
  · have hf := ux_ift c17 hf
    refine ax_iconst (v := 0) 122 dX8_state_121 (by decide) rfl ?_
    exact ax_sub [0, 1, 3, 4, 5, 6] rfl (w_X8_state_122 k39 hk39 x3 x4 x5 t0 0 x2 S hf)
  · have hf := ux_iff c17 hf
    refine ax_iconst (v := 1) 118 dX8_state_117 (by decide) rfl ?_
    refine ax_goto 122 dX8_state_118 (by decide) ?_
    exact ax_sub [0, 1, 3, 4, 5, 6] rfl (w_X8_state_122 k39 hk39 x3 x4 x5 t0 1 x2 S hf)
def b_X8_state_57 (n : Nat) (p0 : Int32) (k39 : Int32 → Int32 → Int32 → Int32 → ux_S → Option (Int32 × ux_S)) (x2 : Int32) (x3 : Int32) (x4 : Int32) (x5 : Int32) (t0 : Int32) (t1 : Int32) (S : ux_S) : Option (Int32 × ux_S) :=
  if t0 ≤ t1 then (if p0 = 1 then (some (x3, S)) else (if p0 = 3 then (some (x3, S)) else (some (x2, S)))) else (if x4 = 0 then (if p0 = 4 then (ux_bi (f_X8_isDead n S x5) (fun r22 S21 => b_X8_state_109 n p0 k39 x2 x3 x4 x5 r22 S21)) else (ux_bi (f_X8_goes n S x5) (fun r14 S13 => ux_gd (ux_ib x5 16) (if r14 ≤ S13.1 70 x5.toNatClampNeg then (b_X8_state_109 n p0 k39 x2 x3 x4 x5 0 S13) else (b_X8_state_109 n p0 k39 x2 x3 x4 x5 1 S13))))) else (ux_bi (f_X8_isDark n S x5) (fun r25 S24 => b_X8_state_109 n p0 k39 x2 x3 x4 x5 r25 S24)))
set_option maxHeartbeats 2000000 in
set_option maxRecDepth 10000 in
theorem w_X8_state_57 {l : Launch} {G : ux_G} {n : Nat} {p0 : Int32} {r : Int32} {Z : ux_S} (k39 : Int32 → Int32 → Int32 → Int32 → ux_S → Option (Int32 × ux_S)) (hk39 : ∀ (x2 x3 x4 x5 : Int32) (S : ux_S), k39 x2 x3 x4 x5 S = some (r, Z) → ux_At l G RX8 cX8_state 7 (some .int) 5 (some (.int r)) Z 39 [(0, .ref (ux_a G 8)), (1, .int p0), (2, .int x2), (3, .int x3), (4, .int x4), (5, .int x5)] [] S) : ∀ (x2 : Int32) (x3 : Int32) (x4 : Int32) (x5 : Int32) (t0 : Int32) (t1 : Int32) (S : ux_S), b_X8_state_57 n p0 k39 x2 x3 x4 x5 t0 t1 S = some (r, Z) → ux_At l G RX8 cX8_state 7 (some .int) 5 (some (.int r)) Z 57 [(0, .ref (ux_a G 8)), (1, .int p0), (2, .int x2), (3, .int x3), (4, .int x4), (5, .int x5)] [.int t0, .int t1] S := by
  intro x2 x3 x4 x5 t0 t1 S hf
  unfold b_X8_state_57 at hf
  refine ax_icmp_ge 148 60 dX8_state_57 (by decide) rfl (fun c7 => ?_) (fun c7 => ?_)
  · have hf := ux_ift c7 hf
    refine ax_iload_n 149 dX8_state_148 rfl 1 rfl rfl ?_
    refine ax_iconst (v := 1) 150 dX8_state_149 (by decide) rfl ?_
    refine ax_icmp_eq 158 153 dX8_state_150 (by decide) rfl (fun c8 => ?_) (fun c8 => ?_)
    · have hf := ux_ift c8 hf
      refine ax_iload_n 159 dX8_state_158 rfl 3 rfl rfl ?_
      refine ax_goto 163 dX8_state_159 (by decide) ?_
      exact ax_iret dX8_state_163 hf
    · have hf := ux_iff c8 hf
      refine ax_iload_n 154 dX8_state_153 rfl 1 rfl rfl ?_
      refine ax_iconst (v := 3) 155 dX8_state_154 (by decide) rfl ?_
      refine ax_icmp_ne 162 158 dX8_state_155 (by decide) rfl (fun c9 => ?_) (fun c9 => ?_)
      · have hf := ux_iff c9 hf
        refine ax_iload_n 163 dX8_state_162 rfl 2 rfl rfl ?_
        exact ax_iret dX8_state_163 hf
      · have hf := ux_ift c9 hf
        refine ax_iload_n 159 dX8_state_158 rfl 3 rfl rfl ?_
        refine ax_goto 163 dX8_state_159 (by decide) ?_
        exact ax_iret dX8_state_163 hf
  · have hf := ux_iff c7 hf
    refine ax_iload 62 dX8_state_60 4 rfl rfl ?_
    refine ax_if_eq 74 65 dX8_state_62 (by decide) rfl (fun c10 => ?_) (fun c10 => ?_)
    · have hf := ux_ift c10 hf
      refine ax_iload_n 75 dX8_state_74 rfl 1 rfl rfl ?_
      refine ax_iconst (v := 4) 76 dX8_state_75 (by decide) rfl ?_
      refine ax_icmp_ne 88 79 dX8_state_76 (by decide) rfl (fun c11 => ?_) (fun c11 => ?_)
      · have hf := ux_iff c11 hf
        refine ax_aload_n 89 dX8_state_88 rfl 0 rfl rfl ?_
        refine ax_iload 91 dX8_state_89 5 rfl rfl ?_
        obtain ⟨r14, S13, e12, hf⟩ := ux_bi_e hf
        refine ax_callVi 94 [.int x5] dX8_state_91 fv_X8_183 (m_X8_goes e12) (by decide) rfl rfl (by decide) rfl rfl (Nat.le_of_ble_eq_true rfl) rfl ?_
        refine ax_aload_n 95 dX8_state_94 rfl 0 rfl rfl ?_
        refine ax_getr 70 98 dX8_state_95 fg_X8_69 rfl (by decide) rfl ?_
        refine ax_iload 100 dX8_state_98 5 rfl rfl ?_
        obtain ⟨h15, hf⟩ := ux_gd_e hf
        refine ax_iald 101 dX8_state_100 (by decide) rfl h15 rfl ?_
        refine ax_icmp_le 108 104 dX8_state_101 (by decide) rfl (fun c16 => ?_) (fun c16 => ?_)
        · have hf := ux_ift c16 hf
          refine ax_iconst (v := 0) 109 dX8_state_108 (by decide) rfl ?_
          exact ax_sub [0, 1, 2, 3, 4, 5] rfl (w_X8_state_109 k39 hk39 x2 x3 x4 x5 0 S13 hf)
        · have hf := ux_iff c16 hf
          refine ax_iconst (v := 1) 105 dX8_state_104 (by decide) rfl ?_
          refine ax_goto 109 dX8_state_105 (by decide) ?_
          exact ax_sub [0, 1, 2, 3, 4, 5] rfl (w_X8_state_109 k39 hk39 x2 x3 x4 x5 1 S13 hf)
      · have hf := ux_ift c11 hf
        refine ax_aload_n 80 dX8_state_79 rfl 0 rfl rfl ?_
        refine ax_iload 82 dX8_state_80 5 rfl rfl ?_
        obtain ⟨r22, S21, e20, hf⟩ := ux_bi_e hf
        refine ax_callVi 85 [.int x5] dX8_state_82 fv_X8_170 (m_X8_isDead e20) (by decide) rfl rfl (by decide) rfl rfl (Nat.le_of_ble_eq_true rfl) rfl ?_
        refine ax_goto 109 dX8_state_85 (by decide) ?_
        exact ax_sub [0, 1, 2, 3, 4, 5] rfl (w_X8_state_109 k39 hk39 x2 x3 x4 x5 r22 S21 hf)
    · have hf := ux_iff c10 hf
      refine ax_aload_n 66 dX8_state_65 rfl 0 rfl rfl ?_
      refine ax_iload 68 dX8_state_66 5 rfl rfl ?_
      obtain ⟨r25, S24, e23, hf⟩ := ux_bi_e hf
      refine ax_callVi 71 [.int x5] dX8_state_68 fv_X8_189 (m_X8_isDark e23) (by decide) rfl rfl (by decide) rfl rfl (Nat.le_of_ble_eq_true rfl) rfl ?_
      refine ax_goto 109 dX8_state_71 (by decide) ?_
      exact ax_sub [0, 1, 2, 3, 4, 5] rfl (w_X8_state_109 k39 hk39 x2 x3 x4 x5 r25 S24 hf)
def b_X8_state_39 (n : Nat) (p0 : Int32) (k39 : Int32 → Int32 → Int32 → Int32 → ux_S → Option (Int32 × ux_S)) (x2 : Int32) (x3 : Int32) (x4 : Int32) (x5 : Int32) (S : ux_S) : Option (Int32 × ux_S) :=
  if x4 = 0 then (b_X8_state_57 n p0 k39 x2 x3 x4 x5 (S.1 8 22) x5 S) else (b_X8_state_57 n p0 k39 x2 x3 x4 x5 (S.1 8 0) x5 S)
set_option maxHeartbeats 2000000 in
set_option maxRecDepth 10000 in
theorem w_X8_state_39 {l : Launch} {G : ux_G} {n : Nat} {p0 : Int32} {r : Int32} {Z : ux_S} (k39 : Int32 → Int32 → Int32 → Int32 → ux_S → Option (Int32 × ux_S)) (hk39 : ∀ (x2 x3 x4 x5 : Int32) (S : ux_S), k39 x2 x3 x4 x5 S = some (r, Z) → ux_At l G RX8 cX8_state 7 (some .int) 5 (some (.int r)) Z 39 [(0, .ref (ux_a G 8)), (1, .int p0), (2, .int x2), (3, .int x3), (4, .int x4), (5, .int x5)] [] S) : ∀ (x2 : Int32) (x3 : Int32) (x4 : Int32) (x5 : Int32) (S : ux_S), b_X8_state_39 n p0 k39 x2 x3 x4 x5 S = some (r, Z) → ux_At l G RX8 cX8_state 7 (some .int) 5 (some (.int r)) Z 39 [(0, .ref (ux_a G 8)), (1, .int p0), (2, .int x2), (3, .int x3), (4, .int x4), (5, .int x5)] [] S := by
  intro x2 x3 x4 x5 S hf
  unfold b_X8_state_39 at hf
  refine ax_iload 41 dX8_state_39 5 rfl rfl ?_
  refine ax_iload 43 dX8_state_41 4 rfl rfl ?_
  refine ax_if_eq 53 46 dX8_state_43 (by decide) rfl (fun c6 => ?_) (fun c6 => ?_)
  · have hf := ux_ift c6 hf
    refine ax_aload_n 54 dX8_state_53 rfl 0 rfl rfl ?_
    refine ax_geti 57 dX8_state_54 fg_X8_164 rfl rfl ?_
    exact ax_sub [0, 1, 2, 3, 4, 5] rfl (w_X8_state_57 k39 hk39 x2 x3 x4 x5 (S.1 8 22) x5 S hf)
  · have hf := ux_iff c6 hf
    refine ax_aload_n 47 dX8_state_46 rfl 0 rfl rfl ?_
    refine ax_geti 50 dX8_state_47 fg_X8_112 rfl rfl ?_
    refine ax_goto 57 dX8_state_50 (by decide) ?_
    exact ax_sub [0, 1, 2, 3, 4, 5] rfl (w_X8_state_57 k39 hk39 x2 x3 x4 x5 (S.1 8 0) x5 S hf)
def b_X8_state_29 (n : Nat) (p0 : Int32) (x2 : Int32) (x3 : Int32) (S : ux_S) : Option (Int32 × ux_S) :=
  ux_lp4 (b_X8_state_39 n p0) n x2 x3 1 0 S
set_option maxHeartbeats 2000000 in
set_option maxRecDepth 10000 in
theorem w_X8_state_29 {l : Launch} {G : ux_G} {n : Nat} {p0 : Int32} {r : Int32} {Z : ux_S} : ∀ (x2 : Int32) (x3 : Int32) (S : ux_S), b_X8_state_29 n p0 x2 x3 S = some (r, Z) → ux_At l G RX8 cX8_state 7 (some .int) 5 (some (.int r)) Z 29 [(0, .ref (ux_a G 8)), (1, .int p0), (2, .int x2), (3, .int x3)] [] S := by
  intro x2 x3 S hf
  unfold b_X8_state_29 at hf
  refine ax_iconst (v := 1) 30 dX8_state_29 (by decide) rfl ?_
  refine ax_goto 34 dX8_state_30 (by decide) ?_
  refine ax_istore 36 dX8_state_34 (by decide) [1, 2, 3, 4, 0] [(0, .ref (ux_a G 8)), (1, .int p0), (2, .int x2), (3, .int x3), (4, .int 1)] rfl rfl ?_
  refine ax_iconst (v := 0) 37 dX8_state_36 (by decide) rfl ?_
  refine ax_istore 39 dX8_state_37 (by decide) [1, 2, 3, 4, 5, 0] [(0, .ref (ux_a G 8)), (1, .int p0), (2, .int x2), (3, .int x3), (4, .int 1), (5, .int 0)] rfl rfl ?_
  exact ax_sub [0, 1, 2, 3, 4, 5] rfl (ux_lp4_w (Pr := fun x2 x3 x4 x5 S => ux_At l G RX8 cX8_state 7 (some .int) 5 (some (.int r)) Z 39 [(0, .ref (ux_a G 8)), (1, .int p0), (2, .int x2), (3, .int x3), (4, .int x4), (5, .int x5)] [] S) (fun k39 hk39 => w_X8_state_39 k39 hk39) n x2 x3 1 0 S hf)
def f_X8_state (n : Nat) (S : ux_S) (p0 : Int32) : Option (Int32 × ux_S) :=
  ux_bi (f_X8_in S ((p0 : Int32).toInt64) 0 4) (fun r3 S2 => if r3 = 0 then (some ((-1), S2)) else (if p0 = 2 then (b_X8_state_29 n p0 0 (-4) S2) else (if p0 = 3 then (b_X8_state_29 n p0 0 (-4) S2) else (ux_lp4 (b_X8_state_39 n p0) n 0 (-4) 0 0 S2))))
set_option maxHeartbeats 2000000 in
set_option maxRecDepth 10000 in
theorem m_X8_state {l : Launch} {G : ux_G} {n : Nat} {S : ux_S} {p0 : Int32} {r : Int32} {Z : ux_S} (hf : f_X8_state n S p0 = some (r, Z)) : ux_M l G yX8_state cX8_state 7 (some .int) 5 [.ref (ux_a G 8), .int p0] S (some (.int r)) Z := by
  refine ux_of (by decide) (Nat.le_of_ble_eq_true rfl) ?_
  show ux_At l G RX8 cX8_state 7 (some .int) 5 (some (.int r)) Z 0 [(0, .ref (ux_a G 8)), (1, .int p0)] [] S
  unfold f_X8_state at hf
  refine ax_iload_n 1 dX8_state_0 rfl 1 rfl rfl ?_
  refine ax_i2l 2 dX8_state_1 rfl ?_
  refine ax_lconst (v := 0) 3 dX8_state_2 (by decide) rfl ?_
  refine ax_ldc2 6 dX8_state_3 fc_X8_187 rfl ?_
  obtain ⟨r3, S2, e1, hf⟩ := ux_bi_e hf
  refine ax_callSi 9 [.long ((p0 : Int32).toInt64), .long 0, .long 4] dX8_state_6 fs_X8_102 (m_X8_in e1) (by decide) rfl rfl (Nat.le_of_ble_eq_true rfl) rfl ?_
  refine ax_if_ne 14 12 dX8_state_9 (by decide) rfl (fun c4 => ?_) (fun c4 => ?_)
  · have hf := ux_iff c4 hf
    refine ax_iconst (v := 0) 15 dX8_state_14 (by decide) rfl ?_
    refine ax_istore_n 16 dX8_state_15 rfl (by decide) [1, 2, 0] [(0, .ref (ux_a G 8)), (1, .int p0), (2, .int 0)] rfl rfl ?_
    refine ax_bipush (v := (-4)) 18 dX8_state_16 (by decide) rfl ?_
    refine ax_istore_n 19 dX8_state_18 rfl (by decide) [1, 2, 3, 0] [(0, .ref (ux_a G 8)), (1, .int p0), (2, .int 0), (3, .int (-4))] rfl rfl ?_
    refine ax_iload_n 20 dX8_state_19 rfl 1 rfl rfl ?_
    refine ax_iconst (v := 2) 21 dX8_state_20 (by decide) rfl ?_
    refine ax_icmp_eq 29 24 dX8_state_21 (by decide) rfl (fun c5 => ?_) (fun c5 => ?_)
    · have hf := ux_ift c5 hf
      exact ax_sub [0, 1, 2, 3] rfl (w_X8_state_29 0 (-4) S2 hf)
    · have hf := ux_iff c5 hf
      refine ax_iload_n 25 dX8_state_24 rfl 1 rfl rfl ?_
      refine ax_iconst (v := 3) 26 dX8_state_25 (by decide) rfl ?_
      refine ax_icmp_ne 33 29 dX8_state_26 (by decide) rfl (fun c26 => ?_) (fun c26 => ?_)
      · have hf := ux_iff c26 hf
        refine ax_iconst (v := 0) 34 dX8_state_33 (by decide) rfl ?_
        refine ax_istore 36 dX8_state_34 (by decide) [1, 2, 3, 4, 0] [(0, .ref (ux_a G 8)), (1, .int p0), (2, .int 0), (3, .int (-4)), (4, .int 0)] rfl rfl ?_
        refine ax_iconst (v := 0) 37 dX8_state_36 (by decide) rfl ?_
        refine ax_istore 39 dX8_state_37 (by decide) [1, 2, 3, 4, 5, 0] [(0, .ref (ux_a G 8)), (1, .int p0), (2, .int 0), (3, .int (-4)), (4, .int 0), (5, .int 0)] rfl rfl ?_
        exact ax_sub [0, 1, 2, 3, 4, 5] rfl (ux_lp4_w (Pr := fun x2 x3 x4 x5 S => ux_At l G RX8 cX8_state 7 (some .int) 5 (some (.int r)) Z 39 [(0, .ref (ux_a G 8)), (1, .int p0), (2, .int x2), (3, .int x3), (4, .int x4), (5, .int x5)] [] S) (fun k39 hk39 => w_X8_state_39 k39 hk39) n 0 (-4) 0 0 S2 hf)
      · have hf := ux_ift c26 hf
        exact ax_sub [0, 1, 2, 3] rfl (w_X8_state_29 0 (-4) S2 hf)
  · have hf := ux_ift c4 hf
    refine ax_iconst (v := (-1)) 13 dX8_state_12 (by decide) rfl ?_
    exact ax_iret dX8_state_13 hf
def b_X8_weak_164 (n : Nat) (k2 : Int32 → ux_S → Option (Int32 × ux_S)) (x1 : Int32) (x2 : Int32) (S : ux_S) : Option (Int32 × ux_S) :=
  if x2 = 0 then (k2 (x1 + 1) S) else (some (x1, S))
set_option maxHeartbeats 2000000 in
set_option maxRecDepth 10000 in
theorem w_X8_weak_164 {l : Launch} {G : ux_G} {n : Nat} {r : Int32} {Z : ux_S} (k2 : Int32 → ux_S → Option (Int32 × ux_S)) (hk2 : ∀ (x1 : Int32) (S : ux_S), k2 x1 S = some (r, Z) → ux_At l G RX8 cX8_weak 5 (some .int) 5 (some (.int r)) Z 2 [(0, .ref (ux_a G 8)), (1, .int x1)] [] S) : ∀ (x1 : Int32) (x2 : Int32) (S : ux_S), b_X8_weak_164 n k2 x1 x2 S = some (r, Z) → ux_At l G RX8 cX8_weak 5 (some .int) 5 (some (.int r)) Z 164 [(0, .ref (ux_a G 8)), (1, .int x1), (2, .int x2)] [] S := by
  intro x1 x2 S hf
  unfold b_X8_weak_164 at hf
  refine ax_iload_n 165 dX8_weak_164 rfl 2 rfl rfl ?_
  refine ax_if_eq 170 168 dX8_weak_165 (by decide) rfl (fun c4 => ?_) (fun c4 => ?_)
  · have hf := ux_ift c4 hf
    refine ax_iinc (v := x1 + 1) 173 dX8_weak_170 1 rfl rfl (by decide) [1, 0] [(0, .ref (ux_a G 8)), (1, .int (x1 + 1))] rfl rfl ?_
    refine ax_goto 2 dX8_weak_173 (by decide) ?_
    exact ax_sub [0, 1] rfl (hk2 (x1 + 1) S hf)
  · have hf := ux_iff c4 hf
    refine ax_iload_n 169 dX8_weak_168 rfl 1 rfl rfl ?_
    exact ax_iret dX8_weak_169 hf
def b_X8_weak_151 (n : Nat) (k100 : Int32 → Int32 → Int32 → ux_S → Option (Int32 × ux_S)) (x1 : Int32) (x3 : Int32) (t0 : Int32) (S : ux_S) : Option (Int32 × ux_S) :=
  k100 x1 t0 (x3 + 1) (ux_i S 8 27 (-4))
set_option maxHeartbeats 2000000 in
set_option maxRecDepth 10000 in
theorem w_X8_weak_151 {l : Launch} {G : ux_G} {n : Nat} {r : Int32} {Z : ux_S} (k100 : Int32 → Int32 → Int32 → ux_S → Option (Int32 × ux_S)) (hk100 : ∀ (x1 x2 x3 : Int32) (S : ux_S), k100 x1 x2 x3 S = some (r, Z) → ux_At l G RX8 cX8_weak 5 (some .int) 5 (some (.int r)) Z 100 [(0, .ref (ux_a G 8)), (1, .int x1), (2, .int x2), (3, .int x3)] [] S) : ∀ (x1 : Int32) (x3 : Int32) (t0 : Int32) (S : ux_S), b_X8_weak_151 n k100 x1 x3 t0 S = some (r, Z) → ux_At l G RX8 cX8_weak 5 (some .int) 5 (some (.int r)) Z 151 [(0, .ref (ux_a G 8)), (1, .int x1), (3, .int x3)] [.int t0] S := by
  intro x1 x3 t0 S hf
  unfold b_X8_weak_151 at hf
  refine ax_istore_n 152 dX8_weak_151 rfl (by decide) [1, 2, 0, 3] [(0, .ref (ux_a G 8)), (1, .int x1), (2, .int t0), (3, .int x3)] rfl rfl ?_
  refine ax_aload_n 153 dX8_weak_152 rfl 0 rfl rfl ?_
  refine ax_bipush (v := (-4)) 155 dX8_weak_153 (by decide) rfl ?_
  refine ax_put 158 dX8_weak_155 fp_X8_79 rfl ?_
  refine ax_iinc (v := x3 + 1) 161 dX8_weak_158 3 rfl rfl (by decide) [1, 2, 3, 0] [(0, .ref (ux_a G 8)), (1, .int x1), (2, .int t0), (3, .int (x3 + 1))] rfl rfl ?_
  refine ax_goto 100 dX8_weak_161 (by decide) ?_
  exact ax_sub [0, 1, 2, 3] rfl (hk100 x1 t0 (x3 + 1) (ux_i S 8 27 (-4)) hf)
def b_X8_weak_146 (n : Nat) (k100 : Int32 → Int32 → Int32 → ux_S → Option (Int32 × ux_S)) (x1 : Int32) (x3 : Int32) (S : ux_S) : Option (Int32 × ux_S) :=
  b_X8_weak_151 n k100 x1 x3 1 S
set_option maxHeartbeats 2000000 in
set_option maxRecDepth 10000 in
theorem w_X8_weak_146 {l : Launch} {G : ux_G} {n : Nat} {r : Int32} {Z : ux_S} (k100 : Int32 → Int32 → Int32 → ux_S → Option (Int32 × ux_S)) (hk100 : ∀ (x1 x2 x3 : Int32) (S : ux_S), k100 x1 x2 x3 S = some (r, Z) → ux_At l G RX8 cX8_weak 5 (some .int) 5 (some (.int r)) Z 100 [(0, .ref (ux_a G 8)), (1, .int x1), (2, .int x2), (3, .int x3)] [] S) : ∀ (x1 : Int32) (x3 : Int32) (S : ux_S), b_X8_weak_146 n k100 x1 x3 S = some (r, Z) → ux_At l G RX8 cX8_weak 5 (some .int) 5 (some (.int r)) Z 146 [(0, .ref (ux_a G 8)), (1, .int x1), (3, .int x3)] [] S := by
  intro x1 x3 S hf
  unfold b_X8_weak_146 at hf
  refine ax_iconst (v := 1) 147 dX8_weak_146 (by decide) rfl ?_
  refine ax_goto 151 dX8_weak_147 (by decide) ?_
  exact ax_sub [0, 1, 2] rfl (w_X8_weak_151 k100 hk100 x1 x3 1 S hf)
def b_X8_weak_150 (n : Nat) (k100 : Int32 → Int32 → Int32 → ux_S → Option (Int32 × ux_S)) (x1 : Int32) (x3 : Int32) (S : ux_S) : Option (Int32 × ux_S) :=
  b_X8_weak_151 n k100 x1 x3 0 S
set_option maxHeartbeats 2000000 in
set_option maxRecDepth 10000 in
theorem w_X8_weak_150 {l : Launch} {G : ux_G} {n : Nat} {r : Int32} {Z : ux_S} (k100 : Int32 → Int32 → Int32 → ux_S → Option (Int32 × ux_S)) (hk100 : ∀ (x1 x2 x3 : Int32) (S : ux_S), k100 x1 x2 x3 S = some (r, Z) → ux_At l G RX8 cX8_weak 5 (some .int) 5 (some (.int r)) Z 100 [(0, .ref (ux_a G 8)), (1, .int x1), (2, .int x2), (3, .int x3)] [] S) : ∀ (x1 : Int32) (x3 : Int32) (S : ux_S), b_X8_weak_150 n k100 x1 x3 S = some (r, Z) → ux_At l G RX8 cX8_weak 5 (some .int) 5 (some (.int r)) Z 150 [(0, .ref (ux_a G 8)), (1, .int x1), (3, .int x3)] [] S := by
  intro x1 x3 S hf
  unfold b_X8_weak_150 at hf
  refine ax_iconst (v := 0) 151 dX8_weak_150 (by decide) rfl ?_
  exact ax_sub [0, 1, 2] rfl (w_X8_weak_151 k100 hk100 x1 x3 0 S hf)
def b_X8_weak_100 (n : Nat) (k2 : Int32 → ux_S → Option (Int32 × ux_S)) (k100 : Int32 → Int32 → Int32 → ux_S → Option (Int32 × ux_S)) (x1 : Int32) (x2 : Int32) (x3 : Int32) (S : ux_S) : Option (Int32 × ux_S) :=
  if S.1 8 0 ≤ x3 then (b_X8_weak_164 n k2 x1 x2 S) else (ux_gd (ux_ib x1 16) (if S.1 71 x1.toNatClampNeg = 0 then (ux_bi (f_X8_isDark n S x3) (fun r9 S8 => if x2 = 0 then (if r9 = 0 then (ux_bi (f_X8_isDark n (ux_i S8 8 27 x1) x3) (fun r14 S13 => if r14 = 0 then (b_X8_weak_150 n k100 x1 x3 S13) else (b_X8_weak_146 n k100 x1 x3 S13))) else (b_X8_weak_150 n k100 x1 x3 (ux_i S8 8 27 x1))) else (b_X8_weak_146 n k100 x1 x3 (ux_i S8 8 27 x1)))) else (b_X8_weak_164 n k2 x1 x2 S)))
set_option maxHeartbeats 2000000 in
set_option maxRecDepth 10000 in
theorem w_X8_weak_100 {l : Launch} {G : ux_G} {n : Nat} {r : Int32} {Z : ux_S} (k2 : Int32 → ux_S → Option (Int32 × ux_S)) (hk2 : ∀ (x1 : Int32) (S : ux_S), k2 x1 S = some (r, Z) → ux_At l G RX8 cX8_weak 5 (some .int) 5 (some (.int r)) Z 2 [(0, .ref (ux_a G 8)), (1, .int x1)] [] S) (k100 : Int32 → Int32 → Int32 → ux_S → Option (Int32 × ux_S)) (hk100 : ∀ (x1 x2 x3 : Int32) (S : ux_S), k100 x1 x2 x3 S = some (r, Z) → ux_At l G RX8 cX8_weak 5 (some .int) 5 (some (.int r)) Z 100 [(0, .ref (ux_a G 8)), (1, .int x1), (2, .int x2), (3, .int x3)] [] S) : ∀ (x1 : Int32) (x2 : Int32) (x3 : Int32) (S : ux_S), b_X8_weak_100 n k2 k100 x1 x2 x3 S = some (r, Z) → ux_At l G RX8 cX8_weak 5 (some .int) 5 (some (.int r)) Z 100 [(0, .ref (ux_a G 8)), (1, .int x1), (2, .int x2), (3, .int x3)] [] S := by
  intro x1 x2 x3 S hf
  unfold b_X8_weak_100 at hf
  refine ax_iload_n 101 dX8_weak_100 rfl 3 rfl rfl ?_
  refine ax_aload_n 102 dX8_weak_101 rfl 0 rfl rfl ?_
  refine ax_geti 105 dX8_weak_102 fg_X8_112 rfl rfl ?_
  refine ax_icmp_ge 164 108 dX8_weak_105 (by decide) rfl (fun c3 => ?_) (fun c3 => ?_)
  · have hf := ux_ift c3 hf
    exact ax_sub [0, 1, 2] rfl (w_X8_weak_164 k2 hk2 x1 x2 S hf)
  · have hf := ux_iff c3 hf
    refine ax_aload_n 109 dX8_weak_108 rfl 0 rfl rfl ?_
    refine ax_getr 71 112 dX8_weak_109 fg_X8_72 rfl (by decide) rfl ?_
    refine ax_iload_n 113 dX8_weak_112 rfl 1 rfl rfl ?_
    obtain ⟨h5, hf⟩ := ux_gd_e hf
    refine ax_zald 114 dX8_weak_113 (by decide) rfl h5 rfl ?_
    refine ax_if_ne 164 117 dX8_weak_114 (by decide) rfl (fun c6 => ?_) (fun c6 => ?_)
    · have hf := ux_iff c6 hf
      exact ax_sub [0, 1, 2] rfl (w_X8_weak_164 k2 hk2 x1 x2 S hf)
    · have hf := ux_ift c6 hf
      refine ax_aload_n 118 dX8_weak_117 rfl 0 rfl rfl ?_
      refine ax_iload_n 119 dX8_weak_118 rfl 3 rfl rfl ?_
      obtain ⟨r9, S8, e7, hf⟩ := ux_bi_e hf
      refine ax_callVi 122 [.int x3] dX8_weak_119 fv_X8_189 (m_X8_isDark e7) (by decide) rfl rfl (by decide) rfl rfl (Nat.le_of_ble_eq_true rfl) rfl ?_
      refine ax_istore 124 dX8_weak_122 (by decide) [1, 2, 3, 4, 0] [(0, .ref (ux_a G 8)), (1, .int x1), (2, .int x2), (3, .int x3), (4, .int r9)] rfl rfl ?_
      refine ax_aload_n 125 dX8_weak_124 rfl 0 rfl rfl ?_
      refine ax_iload_n 126 dX8_weak_125 rfl 1 rfl rfl ?_
      refine ax_put 129 dX8_weak_126 fp_X8_79 rfl ?_
      refine ax_iload_n 130 dX8_weak_129 rfl 2 rfl rfl ?_
      refine ax_if_ne 146 133 dX8_weak_130 (by decide) rfl (fun c10 => ?_) (fun c10 => ?_)
      · have hf := ux_iff c10 hf
        exact ax_sub [0, 1, 3] rfl (w_X8_weak_146 k100 hk100 x1 x3 (ux_i S8 8 27 x1) hf)
      · have hf := ux_ift c10 hf
        refine ax_iload 135 dX8_weak_133 4 rfl rfl ?_
        refine ax_if_ne 150 138 dX8_weak_135 (by decide) rfl (fun c11 => ?_) (fun c11 => ?_)
        · have hf := ux_iff c11 hf
          exact ax_sub [0, 1, 3] rfl (w_X8_weak_150 k100 hk100 x1 x3 (ux_i S8 8 27 x1) hf)
        · have hf := ux_ift c11 hf
          refine ax_aload_n 139 dX8_weak_138 rfl 0 rfl rfl ?_
          refine ax_iload_n 140 dX8_weak_139 rfl 3 rfl rfl ?_
          obtain ⟨r14, S13, e12, hf⟩ := ux_bi_e hf
          refine ax_callVi 143 [.int x3] dX8_weak_140 fv_X8_189 (m_X8_isDark e12) (by decide) rfl rfl (by decide) rfl rfl (Nat.le_of_ble_eq_true rfl) rfl ?_
          refine ax_if_eq 150 146 dX8_weak_143 (by decide) rfl (fun c15 => ?_) (fun c15 => ?_)
          · have hf := ux_ift c15 hf
            exact ax_sub [0, 1, 3] rfl (w_X8_weak_150 k100 hk100 x1 x3 S13 hf)
          · have hf := ux_iff c15 hf
            exact ax_sub [0, 1, 3] rfl (w_X8_weak_146 k100 hk100 x1 x3 S13 hf)
def b_X8_weak_85 (n : Nat) (k14 : Int32 → Int32 → Int32 → ux_S → Option (Int32 × ux_S)) (x1 : Int32) (x3 : Int32) (t0 : Int32) (S : ux_S) : Option (Int32 × ux_S) :=
  k14 x1 t0 (x3 + 1) (ux_i S 8 27 (-4))
set_option maxHeartbeats 2000000 in
set_option maxRecDepth 10000 in
theorem w_X8_weak_85 {l : Launch} {G : ux_G} {n : Nat} {r : Int32} {Z : ux_S} (k14 : Int32 → Int32 → Int32 → ux_S → Option (Int32 × ux_S)) (hk14 : ∀ (x1 x2 x3 : Int32) (S : ux_S), k14 x1 x2 x3 S = some (r, Z) → ux_At l G RX8 cX8_weak 5 (some .int) 5 (some (.int r)) Z 14 [(0, .ref (ux_a G 8)), (1, .int x1), (2, .int x2), (3, .int x3)] [] S) : ∀ (x1 : Int32) (x3 : Int32) (t0 : Int32) (S : ux_S), b_X8_weak_85 n k14 x1 x3 t0 S = some (r, Z) → ux_At l G RX8 cX8_weak 5 (some .int) 5 (some (.int r)) Z 85 [(0, .ref (ux_a G 8)), (1, .int x1), (3, .int x3)] [.int t0] S := by
  intro x1 x3 t0 S hf
  unfold b_X8_weak_85 at hf
  refine ax_istore_n 86 dX8_weak_85 rfl (by decide) [1, 2, 0, 3] [(0, .ref (ux_a G 8)), (1, .int x1), (2, .int t0), (3, .int x3)] rfl rfl ?_
  refine ax_aload_n 87 dX8_weak_86 rfl 0 rfl rfl ?_
  refine ax_bipush (v := (-4)) 89 dX8_weak_87 (by decide) rfl ?_
  refine ax_put 92 dX8_weak_89 fp_X8_79 rfl ?_
  refine ax_iinc (v := x3 + 1) 95 dX8_weak_92 3 rfl rfl (by decide) [1, 2, 3, 0] [(0, .ref (ux_a G 8)), (1, .int x1), (2, .int t0), (3, .int (x3 + 1))] rfl rfl ?_
  refine ax_goto 14 dX8_weak_95 (by decide) ?_
  exact ax_sub [0, 1, 2, 3] rfl (hk14 x1 t0 (x3 + 1) (ux_i S 8 27 (-4)) hf)
def b_X8_weak_80 (n : Nat) (k14 : Int32 → Int32 → Int32 → ux_S → Option (Int32 × ux_S)) (x1 : Int32) (x3 : Int32) (S : ux_S) : Option (Int32 × ux_S) :=
  b_X8_weak_85 n k14 x1 x3 1 S
set_option maxHeartbeats 2000000 in
set_option maxRecDepth 10000 in
theorem w_X8_weak_80 {l : Launch} {G : ux_G} {n : Nat} {r : Int32} {Z : ux_S} (k14 : Int32 → Int32 → Int32 → ux_S → Option (Int32 × ux_S)) (hk14 : ∀ (x1 x2 x3 : Int32) (S : ux_S), k14 x1 x2 x3 S = some (r, Z) → ux_At l G RX8 cX8_weak 5 (some .int) 5 (some (.int r)) Z 14 [(0, .ref (ux_a G 8)), (1, .int x1), (2, .int x2), (3, .int x3)] [] S) : ∀ (x1 : Int32) (x3 : Int32) (S : ux_S), b_X8_weak_80 n k14 x1 x3 S = some (r, Z) → ux_At l G RX8 cX8_weak 5 (some .int) 5 (some (.int r)) Z 80 [(0, .ref (ux_a G 8)), (1, .int x1), (3, .int x3)] [] S := by
  intro x1 x3 S hf
  unfold b_X8_weak_80 at hf
  refine ax_iconst (v := 1) 81 dX8_weak_80 (by decide) rfl ?_
  refine ax_goto 85 dX8_weak_81 (by decide) ?_
  exact ax_sub [0, 1, 2] rfl (w_X8_weak_85 k14 hk14 x1 x3 1 S hf)
def b_X8_weak_84 (n : Nat) (k14 : Int32 → Int32 → Int32 → ux_S → Option (Int32 × ux_S)) (x1 : Int32) (x3 : Int32) (S : ux_S) : Option (Int32 × ux_S) :=
  b_X8_weak_85 n k14 x1 x3 0 S
set_option maxHeartbeats 2000000 in
set_option maxRecDepth 10000 in
theorem w_X8_weak_84 {l : Launch} {G : ux_G} {n : Nat} {r : Int32} {Z : ux_S} (k14 : Int32 → Int32 → Int32 → ux_S → Option (Int32 × ux_S)) (hk14 : ∀ (x1 x2 x3 : Int32) (S : ux_S), k14 x1 x2 x3 S = some (r, Z) → ux_At l G RX8 cX8_weak 5 (some .int) 5 (some (.int r)) Z 14 [(0, .ref (ux_a G 8)), (1, .int x1), (2, .int x2), (3, .int x3)] [] S) : ∀ (x1 : Int32) (x3 : Int32) (S : ux_S), b_X8_weak_84 n k14 x1 x3 S = some (r, Z) → ux_At l G RX8 cX8_weak 5 (some .int) 5 (some (.int r)) Z 84 [(0, .ref (ux_a G 8)), (1, .int x1), (3, .int x3)] [] S := by
  intro x1 x3 S hf
  unfold b_X8_weak_84 at hf
  refine ax_iconst (v := 0) 85 dX8_weak_84 (by decide) rfl ?_
  exact ax_sub [0, 1, 2] rfl (w_X8_weak_85 k14 hk14 x1 x3 0 S hf)
def b_X8_weak_50 (n : Nat) (k14 : Int32 → Int32 → Int32 → ux_S → Option (Int32 × ux_S)) (x1 : Int32) (x2 : Int32) (x3 : Int32) (t0 : Int32) (S : ux_S) : Option (Int32 × ux_S) :=
  if x2 = 0 then (if t0 = 0 then (ux_bi (f_X8_goes n (ux_i S 8 27 x1) x3) (fun r27 S26 => ux_gd (ux_ib x3 16) (if r27 ≤ S26.1 70 x3.toNatClampNeg then (b_X8_weak_84 n k14 x1 x3 S26) else (b_X8_weak_80 n k14 x1 x3 S26)))) else (b_X8_weak_84 n k14 x1 x3 (ux_i S 8 27 x1))) else (b_X8_weak_80 n k14 x1 x3 (ux_i S 8 27 x1))
set_option maxHeartbeats 2000000 in
set_option maxRecDepth 10000 in
theorem w_X8_weak_50 {l : Launch} {G : ux_G} {n : Nat} {r : Int32} {Z : ux_S} (k14 : Int32 → Int32 → Int32 → ux_S → Option (Int32 × ux_S)) (hk14 : ∀ (x1 x2 x3 : Int32) (S : ux_S), k14 x1 x2 x3 S = some (r, Z) → ux_At l G RX8 cX8_weak 5 (some .int) 5 (some (.int r)) Z 14 [(0, .ref (ux_a G 8)), (1, .int x1), (2, .int x2), (3, .int x3)] [] S) : ∀ (x1 : Int32) (x2 : Int32) (x3 : Int32) (t0 : Int32) (S : ux_S), b_X8_weak_50 n k14 x1 x2 x3 t0 S = some (r, Z) → ux_At l G RX8 cX8_weak 5 (some .int) 5 (some (.int r)) Z 50 [(0, .ref (ux_a G 8)), (1, .int x1), (2, .int x2), (3, .int x3)] [.int t0] S := by
  intro x1 x2 x3 t0 S hf
  unfold b_X8_weak_50 at hf
  refine ax_istore 52 dX8_weak_50 (by decide) [1, 2, 3, 4, 0] [(0, .ref (ux_a G 8)), (1, .int x1), (2, .int x2), (3, .int x3), (4, .int t0)] rfl rfl ?_
  refine ax_aload_n 53 dX8_weak_52 rfl 0 rfl rfl ?_
  refine ax_iload_n 54 dX8_weak_53 rfl 1 rfl rfl ?_
  refine ax_put 57 dX8_weak_54 fp_X8_79 rfl ?_
  refine ax_iload_n 58 dX8_weak_57 rfl 2 rfl rfl ?_
  refine ax_if_ne 80 61 dX8_weak_58 (by decide) rfl (fun c23 => ?_) (fun c23 => ?_)
  · have hf := ux_iff c23 hf
    exact ax_sub [0, 1, 3] rfl (w_X8_weak_80 k14 hk14 x1 x3 (ux_i S 8 27 x1) hf)
  · have hf := ux_ift c23 hf
    refine ax_iload 63 dX8_weak_61 4 rfl rfl ?_
    refine ax_if_ne 84 66 dX8_weak_63 (by decide) rfl (fun c24 => ?_) (fun c24 => ?_)
    · have hf := ux_iff c24 hf
      exact ax_sub [0, 1, 3] rfl (w_X8_weak_84 k14 hk14 x1 x3 (ux_i S 8 27 x1) hf)
    · have hf := ux_ift c24 hf
      refine ax_aload_n 67 dX8_weak_66 rfl 0 rfl rfl ?_
      refine ax_iload_n 68 dX8_weak_67 rfl 3 rfl rfl ?_
      obtain ⟨r27, S26, e25, hf⟩ := ux_bi_e hf
      refine ax_callVi 71 [.int x3] dX8_weak_68 fv_X8_183 (m_X8_goes e25) (by decide) rfl rfl (by decide) rfl rfl (Nat.le_of_ble_eq_true rfl) rfl ?_
      refine ax_aload_n 72 dX8_weak_71 rfl 0 rfl rfl ?_
      refine ax_getr 70 75 dX8_weak_72 fg_X8_69 rfl (by decide) rfl ?_
      refine ax_iload_n 76 dX8_weak_75 rfl 3 rfl rfl ?_
      obtain ⟨h28, hf⟩ := ux_gd_e hf
      refine ax_iald 77 dX8_weak_76 (by decide) rfl h28 rfl ?_
      refine ax_icmp_le 84 80 dX8_weak_77 (by decide) rfl (fun c29 => ?_) (fun c29 => ?_)
      · have hf := ux_ift c29 hf
        exact ax_sub [0, 1, 3] rfl (w_X8_weak_84 k14 hk14 x1 x3 S26 hf)
      · have hf := ux_iff c29 hf
        exact ax_sub [0, 1, 3] rfl (w_X8_weak_80 k14 hk14 x1 x3 S26 hf)
def b_X8_weak_14 (n : Nat) (k2 : Int32 → ux_S → Option (Int32 × ux_S)) (k14 : Int32 → Int32 → Int32 → ux_S → Option (Int32 × ux_S)) (x1 : Int32) (x2 : Int32) (x3 : Int32) (S : ux_S) : Option (Int32 × ux_S) :=
  if S.1 8 22 ≤ x3 then (ux_lp3 (b_X8_weak_100 n k2) n x1 x2 0 S) else (ux_gd (ux_ib x1 16) (if S.1 71 x1.toNatClampNeg = 0 then (ux_bi (f_X8_goes n S x3) (fun r20 S19 => ux_gd (ux_ib x3 16) (if r20 ≤ S19.1 70 x3.toNatClampNeg then (b_X8_weak_50 n k14 x1 x2 x3 0 S19) else (b_X8_weak_50 n k14 x1 x2 x3 1 S19)))) else (ux_lp3 (b_X8_weak_100 n k2) n x1 x2 0 S)))
set_option maxHeartbeats 2000000 in
set_option maxRecDepth 10000 in
theorem w_X8_weak_14 {l : Launch} {G : ux_G} {n : Nat} {r : Int32} {Z : ux_S} (k2 : Int32 → ux_S → Option (Int32 × ux_S)) (hk2 : ∀ (x1 : Int32) (S : ux_S), k2 x1 S = some (r, Z) → ux_At l G RX8 cX8_weak 5 (some .int) 5 (some (.int r)) Z 2 [(0, .ref (ux_a G 8)), (1, .int x1)] [] S) (k14 : Int32 → Int32 → Int32 → ux_S → Option (Int32 × ux_S)) (hk14 : ∀ (x1 x2 x3 : Int32) (S : ux_S), k14 x1 x2 x3 S = some (r, Z) → ux_At l G RX8 cX8_weak 5 (some .int) 5 (some (.int r)) Z 14 [(0, .ref (ux_a G 8)), (1, .int x1), (2, .int x2), (3, .int x3)] [] S) : ∀ (x1 : Int32) (x2 : Int32) (x3 : Int32) (S : ux_S), b_X8_weak_14 n k2 k14 x1 x2 x3 S = some (r, Z) → ux_At l G RX8 cX8_weak 5 (some .int) 5 (some (.int r)) Z 14 [(0, .ref (ux_a G 8)), (1, .int x1), (2, .int x2), (3, .int x3)] [] S := by
  intro x1 x2 x3 S hf
  unfold b_X8_weak_14 at hf
  refine ax_iload_n 15 dX8_weak_14 rfl 3 rfl rfl ?_
  refine ax_aload_n 16 dX8_weak_15 rfl 0 rfl rfl ?_
  refine ax_geti 19 dX8_weak_16 fg_X8_164 rfl rfl ?_
  refine ax_icmp_ge 98 22 dX8_weak_19 (by decide) rfl (fun c2 => ?_) (fun c2 => ?_)
  · have hf := ux_ift c2 hf
    refine ax_iconst (v := 0) 99 dX8_weak_98 (by decide) rfl ?_
    refine ax_istore_n 100 dX8_weak_99 rfl (by decide) [1, 2, 3, 0] [(0, .ref (ux_a G 8)), (1, .int x1), (2, .int x2), (3, .int 0)] rfl rfl ?_
    exact ax_sub [0, 1, 2, 3] rfl (ux_lp3_w (Pr := fun x1 x2 x3 S => ux_At l G RX8 cX8_weak 5 (some .int) 5 (some (.int r)) Z 100 [(0, .ref (ux_a G 8)), (1, .int x1), (2, .int x2), (3, .int x3)] [] S) (fun k100 hk100 => w_X8_weak_100 k2 hk2 k100 hk100) n x1 x2 0 S hf)
  · have hf := ux_iff c2 hf
    refine ax_aload_n 23 dX8_weak_22 rfl 0 rfl rfl ?_
    refine ax_getr 71 26 dX8_weak_23 fg_X8_72 rfl (by decide) rfl ?_
    refine ax_iload_n 27 dX8_weak_26 rfl 1 rfl rfl ?_
    obtain ⟨h16, hf⟩ := ux_gd_e hf
    refine ax_zald 28 dX8_weak_27 (by decide) rfl h16 rfl ?_
    refine ax_if_ne 98 31 dX8_weak_28 (by decide) rfl (fun c17 => ?_) (fun c17 => ?_)
    · have hf := ux_iff c17 hf
      refine ax_iconst (v := 0) 99 dX8_weak_98 (by decide) rfl ?_
      refine ax_istore_n 100 dX8_weak_99 rfl (by decide) [1, 2, 3, 0] [(0, .ref (ux_a G 8)), (1, .int x1), (2, .int x2), (3, .int 0)] rfl rfl ?_
      exact ax_sub [0, 1, 2, 3] rfl (ux_lp3_w (Pr := fun x1 x2 x3 S => ux_At l G RX8 cX8_weak 5 (some .int) 5 (some (.int r)) Z 100 [(0, .ref (ux_a G 8)), (1, .int x1), (2, .int x2), (3, .int x3)] [] S) (fun k100 hk100 => w_X8_weak_100 k2 hk2 k100 hk100) n x1 x2 0 S hf)
    · have hf := ux_ift c17 hf
      refine ax_aload_n 32 dX8_weak_31 rfl 0 rfl rfl ?_
      refine ax_iload_n 33 dX8_weak_32 rfl 3 rfl rfl ?_
      obtain ⟨r20, S19, e18, hf⟩ := ux_bi_e hf
      refine ax_callVi 36 [.int x3] dX8_weak_33 fv_X8_183 (m_X8_goes e18) (by decide) rfl rfl (by decide) rfl rfl (Nat.le_of_ble_eq_true rfl) rfl ?_
      refine ax_aload_n 37 dX8_weak_36 rfl 0 rfl rfl ?_
      refine ax_getr 70 40 dX8_weak_37 fg_X8_69 rfl (by decide) rfl ?_
      refine ax_iload_n 41 dX8_weak_40 rfl 3 rfl rfl ?_
      obtain ⟨h21, hf⟩ := ux_gd_e hf
      refine ax_iald 42 dX8_weak_41 (by decide) rfl h21 rfl ?_
      refine ax_icmp_le 49 45 dX8_weak_42 (by decide) rfl (fun c22 => ?_) (fun c22 => ?_)
      · have hf := ux_ift c22 hf
        refine ax_iconst (v := 0) 50 dX8_weak_49 (by decide) rfl ?_
        exact ax_sub [0, 1, 2, 3] rfl (w_X8_weak_50 k14 hk14 x1 x2 x3 0 S19 hf)
      · have hf := ux_iff c22 hf
        refine ax_iconst (v := 1) 46 dX8_weak_45 (by decide) rfl ?_
        refine ax_goto 50 dX8_weak_46 (by decide) ?_
        exact ax_sub [0, 1, 2, 3] rfl (w_X8_weak_50 k14 hk14 x1 x2 x3 1 S19 hf)
def b_X8_weak_2 (n : Nat) (k2 : Int32 → ux_S → Option (Int32 × ux_S)) (x1 : Int32) (S : ux_S) : Option (Int32 × ux_S) :=
  if S.1 8 22 ≤ x1 then (some ((-4), S)) else (ux_lp3 (b_X8_weak_14 n k2) n x1 0 0 S)
set_option maxHeartbeats 2000000 in
set_option maxRecDepth 10000 in
theorem w_X8_weak_2 {l : Launch} {G : ux_G} {n : Nat} {r : Int32} {Z : ux_S} (k2 : Int32 → ux_S → Option (Int32 × ux_S)) (hk2 : ∀ (x1 : Int32) (S : ux_S), k2 x1 S = some (r, Z) → ux_At l G RX8 cX8_weak 5 (some .int) 5 (some (.int r)) Z 2 [(0, .ref (ux_a G 8)), (1, .int x1)] [] S) : ∀ (x1 : Int32) (S : ux_S), b_X8_weak_2 n k2 x1 S = some (r, Z) → ux_At l G RX8 cX8_weak 5 (some .int) 5 (some (.int r)) Z 2 [(0, .ref (ux_a G 8)), (1, .int x1)] [] S := by
  intro x1 S hf
  unfold b_X8_weak_2 at hf
  refine ax_iload_n 3 dX8_weak_2 rfl 1 rfl rfl ?_
  refine ax_aload_n 4 dX8_weak_3 rfl 0 rfl rfl ?_
  refine ax_geti 7 dX8_weak_4 fg_X8_164 rfl rfl ?_
  refine ax_icmp_ge 176 10 dX8_weak_7 (by decide) rfl (fun c1 => ?_) (fun c1 => ?_)
  · have hf := ux_ift c1 hf
    refine ax_bipush (v := (-4)) 178 dX8_weak_176 (by decide) rfl ?_
    exact ax_iret dX8_weak_178 hf
  · have hf := ux_iff c1 hf
    refine ax_iconst (v := 0) 11 dX8_weak_10 (by decide) rfl ?_
    refine ax_istore_n 12 dX8_weak_11 rfl (by decide) [1, 2, 0] [(0, .ref (ux_a G 8)), (1, .int x1), (2, .int 0)] rfl rfl ?_
    refine ax_iconst (v := 0) 13 dX8_weak_12 (by decide) rfl ?_
    refine ax_istore_n 14 dX8_weak_13 rfl (by decide) [1, 2, 3, 0] [(0, .ref (ux_a G 8)), (1, .int x1), (2, .int 0), (3, .int 0)] rfl rfl ?_
    exact ax_sub [0, 1, 2, 3] rfl (ux_lp3_w (Pr := fun x1 x2 x3 S => ux_At l G RX8 cX8_weak 5 (some .int) 5 (some (.int r)) Z 14 [(0, .ref (ux_a G 8)), (1, .int x1), (2, .int x2), (3, .int x3)] [] S) (fun k14 hk14 => w_X8_weak_14 k2 hk2 k14 hk14) n x1 0 0 S hf)
def f_X8_weak (n : Nat) (S : ux_S) : Option (Int32 × ux_S) :=
  ux_lp1 (b_X8_weak_2 n) n 0 S
set_option maxHeartbeats 2000000 in
set_option maxRecDepth 10000 in
theorem m_X8_weak {l : Launch} {G : ux_G} {n : Nat} {S : ux_S} {r : Int32} {Z : ux_S} (hf : f_X8_weak n S = some (r, Z)) : ux_M l G yX8_weak cX8_weak 5 (some .int) 5 [.ref (ux_a G 8)] S (some (.int r)) Z := by
  refine ux_of (by decide) (Nat.le_of_ble_eq_true rfl) ?_
  show ux_At l G RX8 cX8_weak 5 (some .int) 5 (some (.int r)) Z 0 [(0, .ref (ux_a G 8))] [] S
  unfold f_X8_weak at hf
  refine ax_iconst (v := 0) 1 dX8_weak_0 (by decide) rfl ?_
  refine ax_istore_n 2 dX8_weak_1 rfl (by decide) [1, 0] [(0, .ref (ux_a G 8)), (1, .int 0)] rfl rfl ?_
  exact ax_sub [0, 1] rfl (ux_lp1_w (Pr := fun x1 S => ux_At l G RX8 cX8_weak 5 (some .int) 5 (some (.int r)) Z 2 [(0, .ref (ux_a G 8)), (1, .int x1)] [] S) (fun k2 hk2 => w_X8_weak_2 k2 hk2) n 0 S hf)
