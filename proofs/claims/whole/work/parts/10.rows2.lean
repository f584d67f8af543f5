section UXR2
variable {l : Launch} {G : ux_G} {own : String} {cc : ByteArray} {nL : Nat} {rt : Option FieldType} {d : Nat} {rv : Option Value} {Z : ux_S} {pc : Nat} {lv : List (Nat × Value)} {rest : List Value} {S : ux_S}
theorem ax_sub {lv' : List (Nat × Value)} {st : List Value} (ks : List Nat) (h : lv_pick lv ks = lv') (k : ux_At l G own cc nL rt d rv Z pc lv' st S) : ux_At l G own cc nL rt d rv Z pc lv st S := fun p e s m args below meth c X ls hl H locs hU => k p e s m args below meth c X ls (lv_sub hl ks h) H locs hU
theorem ax_geti {idx i k : Nat} (q : Nat) (hdg : decode cc pc = .ok (.getfield idx, 3)) (F : ux_FG own idx i k) (h0 : (ux_f i).getD k 0 = 0) (hq : pc + 3 = q) (kk : ux_At l G own cc nL rt d rv Z q lv (.int (S.1 i k) :: rest) S) : ux_At l G own cc nL rt d rv Z pc lv (.ref (ux_a G i) :: rest) S := ax_get q hdg F (by rw [h0]; rfl) hq kk
theorem ax_getr {idx i k : Nat} (t q : Nat) (hdg : decode cc pc = .ok (.getfield idx, 3)) (F : ux_FG own idx i k) (h0 : (ux_f i).getD k 0 = t) (ht : 0 < t) (hq : pc + 3 = q) (kk : ux_At l G own cc nL rt d rv Z q lv (.ref (ux_a G t) :: rest) S) : ux_At l G own cc nL rt d rv Z pc lv (.ref (ux_a G i) :: rest) S := ax_get q hdg F (by
  rw [h0]
  cases t with
  | zero => exact absurd ht (by omega)
  | succ t => rfl) hq kk
theorem ax_lstore {i : Nat} {x : Int64} (q : Nat) (hdg : decode cc pc = .ok (.lstore i, 2)) (hn : i + 1 < nL) (ks : List Nat) (lv' : List (Nat × Value)) (hl' : lv_pick ((i, Value.long x) :: lv.filter (fun q => !(q.1 == i) && (!(q.1 == i + 1) && !(q.1 + 1 == i && q.2.category == 2)))) ks = lv') (hq : pc + 2 = q) (k : ux_At l G own cc nL rt d rv Z q lv' rest S) : ux_At l G own cc nL rt d rv Z pc lv (.long x :: rest) S := by
  subst hq
  exact fun p e s m args below meth c X ls hl H locs hU => lv_lstore X.1 X.2.1 hdg hl hn rfl (fun ls' hl2 => k p e s m args below meth c X ls' (lv_sub hl2 ks hl') H locs hU)
end UXR2
def ux_c (S : ux_S) (i0 i1 n : Nat) : ux_S := (fun j => if j = i1 then va_cpy (S.1 i0) (S.1 i1) 0 0 n else S.1 j, S.2)
theorem ax_copy {l : Launch} {G : ux_G} {nL : Nat} {rt : Option FieldType} {d : Nat} {rv : Option Value} {Z : ux_S} {pc : Nat} {lv : List (Nat × Value)} {cc : ByteArray} {S : ux_S} {i0 i1 : Nat} (q : Nat) (hdg : decode cc pc = .ok (.invokestatic 65, 3)) (hi0 : i0 < 79) (hi1 : i1 < 79) (hk0 : ux_k i0 = (0, 5)) (hk1 : ux_k i1 = (0, 5)) (hd : 2 ≤ d) (hq : pc + 3 = q) (kk : ux_At l G RX4 cc nL rt d rv Z q lv [] (ux_c S i0 i1 5)) : ux_At l G RX4 cc nL rt d rv Z pc lv [.int 5, .int 0, .ref (ux_a G i1), .int 0, .ref (ux_a G i0)] S := by
  subst hq
  intro p e s m args below meth c X ls hl H locs hU
  have hD : va_D (ux_A G) (ux_w G S) := ux_wD X.2.2.2.2.2.2.2.1 (fun i hi => ⟨i, hi, rfl⟩)
  refine va_copyi (D := ux_D G) (cl := ux_cl) (tys := ux_ty G) (ws := ux_w G S) (c0 := G.2.2.1 0) (c1 := G.2.2.1 0) (n0 := 5) (n1 := 5) (f := S.1 i0) (g := S.1 i1) (ty := .int) (sp := 0) (dp := 0) (n := 5) X.1 X.2.1 (by rw [X.2.2.1, hl.1]) X.2.2.2.1 (X.2.2.2.2.1 _ (ux_m2 198 rfl rfl)) (X.2.2.2.2.1 _ (ux_m2 200 rfl rfl)) (X.2.2.2.2.1 _ (ux_m2 199 rfl rfl)) (X.2.2.2.2.1 _ (ux_m1 12 rfl rfl)) X.2.2.2.2.2.2.2.2.1 hU.1 hD hU.2 i0 i1 0 0 (by rw [ux_wget hi0, ux_e0 hk0]) (by rw [ux_wget hi1, ux_e0 hk1]) rfl rfl rfl (by decide) (by decide) (by decide) (by decide) (by decide) (fun i hi => rfl) ?_ ?_ hdg (fun H1 locs1 hP1 _ hS1 => ?_)
  · show 1 ≤ d
    omega
  · show _ ≤ 40 * d
    have h9 : (([] : List Value).map fun v => v.category).sum + (nativeFrameWords "java/lang/System" "arraycopy" 5 + 11) ≤ 80 := by decide
    omega
  · rw [ux_wset (G := G) (S := S) (Z := ux_c S i0 i1 5) hi1 (by rw [ux_e0 hk1]; simp [ux_c]) (fun j hj => by simp [ux_c, hj]) (fun j hj => by simp [ux_c])] at hP1
    exact kk p e s m args below meth c X ls hl H1 locs1 ⟨hP1, hS1⟩
def ux_nz (x : Int32) : Bool := !decide (x = 0)
theorem ux_nz_of {x : Int32} (h : ux_nz x = true) : ¬ x = 0 := by
  intro q
  simp [ux_nz, q] at h
def ux_zb (x : Int32) : Bool := decide (vp_nar .boolean x = x)
theorem ux_zb_of {x : Int32} (h : ux_zb x = true) : narrow .boolean (.int x) = .int x := by
  unfold ux_zb vp_nar at h
  have h2 := of_decide_eq_true h
  have h3 : ∃ y, narrow .boolean (.int x) = .int y := ⟨_, rfl⟩
  obtain ⟨y, hy⟩ := h3
  rw [hy] at h2 ⊢
  exact congrArg Value.int h2
theorem ux_ib_lt {x : Int32} {n : Nat} (h : ux_ib x n = true) : x.toNatClampNeg < n := Nat.not_le.mp fun q => ux_ib_of h (Or.inr q)
theorem ux_row13 {x : Int32} (h : ux_ib x 8 = true) : 13 + 1 + x.toNatClampNeg < 79 ∧ ux_k (13 + 1 + x.toNatClampNeg) = (0, 8) := by
  have h2 := ux_ib_lt h
  generalize x.toNatClampNeg = y at h2
  exact (by decide : ∀ y, y < 8 → 13 + 1 + y < 79 ∧ ux_k (13 + 1 + y) = (0, 8)) y h2
theorem ux_row28 {x : Int32} (h : ux_ib x 6 = true) : 28 + 1 + x.toNatClampNeg < 79 ∧ ux_k (28 + 1 + x.toNatClampNeg) = (0, 8) := by
  have h2 := ux_ib_lt h
  generalize x.toNatClampNeg = y at h2
  exact (by decide : ∀ y, y < 6 → 28 + 1 + y < 79 ∧ ux_k (28 + 1 + y) = (0, 8)) y h2
theorem ux_row35 {x : Int32} (h : ux_ib x 4 = true) : 35 + 1 + x.toNatClampNeg < 79 ∧ ux_k (35 + 1 + x.toNatClampNeg) = (1, 64) := by
  have h2 := ux_ib_lt h
  generalize x.toNatClampNeg = y at h2
  exact (by decide : ∀ y, y < 4 → 35 + 1 + y < 79 ∧ ux_k (35 + 1 + y) = (1, 64)) y h2
theorem ux_row44 {x : Int32} (h : ux_ib x 2 = true) : 44 + 1 + x.toNatClampNeg < 79 ∧ ux_k (44 + 1 + x.toNatClampNeg) = (0, 8) := by
  have h2 := ux_ib_lt h
  generalize x.toNatClampNeg = y at h2
  exact (by decide : ∀ y, y < 2 → 44 + 1 + y < 79 ∧ ux_k (44 + 1 + y) = (0, 8)) y h2
theorem ax_mmax {l : Launch} {G : ux_G} {nL : Nat} {rt : Option FieldType} {d : Nat} {rv : Option Value} {Z : ux_S} {pc : Nat} {lv : List (Nat × Value)} {rest : List Value} {cc : ByteArray} {S : ux_S} {x y : Int32} (q : Nat) (hdg : decode cc pc = .ok (.invokestatic 78, 3)) (hd : 1 ≤ d) (hcat : (rest.map fun v => v.category).sum ≤ 8) (hq : pc + 3 = q) (kk : ux_At l G RX4 cc nL rt d rv Z q lv (.int (if x < y then y else x) :: rest) S) : ux_At l G RX4 cc nL rt d rv Z pc lv (.int y :: .int x :: rest) S := by
  subst hq
  intro p e s m args below meth c X ls hl H locs hU
  refine va_mmax X.1 X.2.1 (by rw [X.2.2.1, hl.1]) X.2.2.2.1 (X.2.2.2.2.1 _ (ux_m2 194 rfl rfl)) (X.2.2.2.2.1 _ (ux_m2 195 rfl rfl)) (X.2.2.2.2.1 _ (ux_m1 11 rfl rfl)) (X.2.2.2.2.1 _ (ux_m2 196 rfl rfl)) hd ?_ (Nat.zero_le _) (Nat.zero_le _) hdg (kk p e s m args below meth c X ls hl H locs hU)
  show _ ≤ 40 * d
  omega
