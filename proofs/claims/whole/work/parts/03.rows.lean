section UXR
variable {l : Launch} {G : ux_G} {own : String} {cc : ByteArray} {nL : Nat} {rt : Option FieldType} {d : Nat} {rv : Option Value} {Z : ux_S} {pc : Nat} {lv : List (Nat × Value)} {rest : List Value} {S : ux_S}
theorem ax_iconst {n : Int} {v : Int32} (q : Nat) (hdg : decode cc pc = .ok (.iconst n, 1)) (hv : Int32.ofInt n = v) (hq : pc + 1 = q) (k : ux_At l G own cc nL rt d rv Z q lv (.int v :: rest) S) : ux_At l G own cc nL rt d rv Z pc lv rest S := by
  subst hq
  exact fun p e s m args below meth c X ls hl H locs hU => lv_iconst X.1 X.2.1 hdg hv (k p e s m args below meth c X ls hl H locs hU)
theorem ax_bipush {n : Int} {v : Int32} (q : Nat) (hdg : decode cc pc = .ok (.bipush n, 2)) (hv : (Int8.ofInt n).toInt32 = v) (hq : pc + 2 = q) (k : ux_At l G own cc nL rt d rv Z q lv (.int v :: rest) S) : ux_At l G own cc nL rt d rv Z pc lv rest S := by
  subst hq
  exact fun p e s m args below meth c X ls hl H locs hU => lv_bipush X.1 X.2.1 hdg hv (k p e s m args below meth c X ls hl H locs hU)
theorem ax_sipush {n : Int} {v : Int32} (q : Nat) (hdg : decode cc pc = .ok (.sipush n, 3)) (hv : (Int16.ofInt n).toInt32 = v) (hq : pc + 3 = q) (k : ux_At l G own cc nL rt d rv Z q lv (.int v :: rest) S) : ux_At l G own cc nL rt d rv Z pc lv rest S := by
  subst hq
  exact fun p e s m args below meth c X ls hl H locs hU => lv_sipush X.1 X.2.1 hdg hv (k p e s m args below meth c X ls hl H locs hU)
theorem ax_lconst {n : Fin 2} {v : Int64} (q : Nat) (hdg : decode cc pc = .ok (.lconst n, 1)) (hv : Int64.ofNat (n : Nat) = v) (hq : pc + 1 = q) (k : ux_At l G own cc nL rt d rv Z q lv (.long v :: rest) S) : ux_At l G own cc nL rt d rv Z pc lv rest S := by
  subst hq
  exact fun p e s m args below meth c X ls hl H locs hU => lv_lconst X.1 X.2.1 hdg hv (k p e s m args below meth c X ls hl H locs hU)
theorem ax_ldc {idx : Nat} {v : Int32} (q : Nat) (hdg : decode cc pc = .ok (.ldc idx, 2)) (hc : Cond.constant own idx v ∈ ux_WA) (hq : pc + 2 = q) (k : ux_At l G own cc nL rt d rv Z q lv (.int v :: rest) S) : ux_At l G own cc nL rt d rv Z pc lv rest S := by
  subst hq
  exact fun p e s m args below meth c X ls hl H locs hU => lv_ldc X.1 X.2.1 X.2.2.2.1 (X.2.2.2.2.1 _ hc) hdg (k p e s m args below meth c X ls hl H locs hU)
theorem ax_ldcw {idx : Nat} {v : Int32} (q : Nat) (hdg : decode cc pc = .ok (.ldc_w idx, 3)) (hc : Cond.constant own idx v ∈ ux_WA) (hq : pc + 3 = q) (k : ux_At l G own cc nL rt d rv Z q lv (.int v :: rest) S) : ux_At l G own cc nL rt d rv Z pc lv rest S := by
  subst hq
  exact fun p e s m args below meth c X ls hl H locs hU => lv_ldcw X.1 X.2.1 X.2.2.2.1 (X.2.2.2.2.1 _ hc) hdg (k p e s m args below meth c X ls hl H locs hU)
theorem ax_ldc2 {idx : Nat} {v : Int64} (q : Nat) (hdg : decode cc pc = .ok (.ldc2_w idx, 3)) (hc : Cond.constantLong own idx v ∈ ux_WA) (hq : pc + 3 = q) (k : ux_At l G own cc nL rt d rv Z q lv (.long v :: rest) S) : ux_At l G own cc nL rt d rv Z pc lv rest S := by
  subst hq
  exact fun p e s m args below meth c X ls hl H locs hU => lv_ldc2 X.1 X.2.1 X.2.2.2.1 (X.2.2.2.2.1 _ hc) hdg (k p e s m args below meth c X ls hl H locs hU)
theorem ax_iload_n {k0 : Fin 4} {i : Nat} {x : Int32} (q : Nat) (hdg : decode cc pc = .ok (.iload_n k0, 1)) (hi : (k0 : Nat) = i) (j : Nat) (hj : lv[j]? = some (i, .int x)) (hq : pc + 1 = q) (k : ux_At l G own cc nL rt d rv Z q lv (.int x :: rest) S) : ux_At l G own cc nL rt d rv Z pc lv rest S := by
  subst hq
  exact fun p e s m args below meth c X ls hl H locs hU => lv_iload_n X.1 X.2.1 hdg hi (lv_at hl j hj) (k p e s m args below meth c X ls hl H locs hU)
theorem ax_iload {i : Nat} {x : Int32} (q : Nat) (hdg : decode cc pc = .ok (.iload i, 2)) (j : Nat) (hj : lv[j]? = some (i, .int x)) (hq : pc + 2 = q) (k : ux_At l G own cc nL rt d rv Z q lv (.int x :: rest) S) : ux_At l G own cc nL rt d rv Z pc lv rest S := by
  subst hq
  exact fun p e s m args below meth c X ls hl H locs hU => lv_iload X.1 X.2.1 hdg (lv_at hl j hj) (k p e s m args below meth c X ls hl H locs hU)
theorem ax_lload_n {k0 : Fin 4} {i : Nat} {x : Int64} (q : Nat) (hdg : decode cc pc = .ok (.lload_n k0, 1)) (hi : (k0 : Nat) = i) (j : Nat) (hj : lv[j]? = some (i, .long x)) (hq : pc + 1 = q) (k : ux_At l G own cc nL rt d rv Z q lv (.long x :: rest) S) : ux_At l G own cc nL rt d rv Z pc lv rest S := by
  subst hq
  exact fun p e s m args below meth c X ls hl H locs hU => lv_lload_n X.1 X.2.1 hdg hi (lv_at hl j hj) (k p e s m args below meth c X ls hl H locs hU)
theorem ax_lload {i : Nat} {x : Int64} (q : Nat) (hdg : decode cc pc = .ok (.lload i, 2)) (j : Nat) (hj : lv[j]? = some (i, .long x)) (hq : pc + 2 = q) (k : ux_At l G own cc nL rt d rv Z q lv (.long x :: rest) S) : ux_At l G own cc nL rt d rv Z pc lv rest S := by
  subst hq
  exact fun p e s m args below meth c X ls hl H locs hU => lv_lload X.1 X.2.1 hdg (lv_at hl j hj) (k p e s m args below meth c X ls hl H locs hU)
theorem ax_aload_n {k0 : Fin 4} {i : Nat} {x : Nat} (q : Nat) (hdg : decode cc pc = .ok (.aload_n k0, 1)) (hi : (k0 : Nat) = i) (j : Nat) (hj : lv[j]? = some (i, .ref x)) (hq : pc + 1 = q) (k : ux_At l G own cc nL rt d rv Z q lv (.ref x :: rest) S) : ux_At l G own cc nL rt d rv Z pc lv rest S := by
  subst hq
  exact fun p e s m args below meth c X ls hl H locs hU => lv_aload_n X.1 X.2.1 hdg hi (lv_at hl j hj) (k p e s m args below meth c X ls hl H locs hU)
theorem ax_aload {i : Nat} {x : Nat} (q : Nat) (hdg : decode cc pc = .ok (.aload i, 2)) (j : Nat) (hj : lv[j]? = some (i, .ref x)) (hq : pc + 2 = q) (k : ux_At l G own cc nL rt d rv Z q lv (.ref x :: rest) S) : ux_At l G own cc nL rt d rv Z pc lv rest S := by
  subst hq
  exact fun p e s m args below meth c X ls hl H locs hU => lv_aload X.1 X.2.1 hdg (lv_at hl j hj) (k p e s m args below meth c X ls hl H locs hU)
theorem ax_istore_n {k0 : Fin 4} {i : Nat} {x : Int32} (q : Nat) (hdg : decode cc pc = .ok (.istore_n k0, 1)) (hi : (k0 : Nat) = i) (hn : i < nL) (ks : List Nat) (lv' : List (Nat × Value)) (hl' : lv_pick ((i, Value.int x) :: lv.filter (fun q => !(q.1 == i) && !(q.1 + 1 == i && q.2.category == 2))) ks = lv') (hq : pc + 1 = q) (k : ux_At l G own cc nL rt d rv Z q lv' rest S) : ux_At l G own cc nL rt d rv Z pc lv (.int x :: rest) S := by
  subst hq
  exact fun p e s m args below meth c X ls hl H locs hU => lv_istore_n X.1 X.2.1 hdg hi hl hn rfl (fun ls' hl2 => k p e s m args below meth c X ls' (lv_sub hl2 ks hl') H locs hU)
theorem ax_istore {i : Nat} {x : Int32} (q : Nat) (hdg : decode cc pc = .ok (.istore i, 2)) (hn : i < nL) (ks : List Nat) (lv' : List (Nat × Value)) (hl' : lv_pick ((i, Value.int x) :: lv.filter (fun q => !(q.1 == i) && !(q.1 + 1 == i && q.2.category == 2))) ks = lv') (hq : pc + 2 = q) (k : ux_At l G own cc nL rt d rv Z q lv' rest S) : ux_At l G own cc nL rt d rv Z pc lv (.int x :: rest) S := by
  subst hq
  exact fun p e s m args below meth c X ls hl H locs hU => lv_istore X.1 X.2.1 hdg hl hn rfl (fun ls' hl2 => k p e s m args below meth c X ls' (lv_sub hl2 ks hl') H locs hU)
theorem ax_iinc {i : Nat} {n : Int} {x v : Int32} (q : Nat) (hdg : decode cc pc = .ok (.iinc i n, 3)) (j : Nat) (hj : lv[j]? = some (i, .int x)) (hv : x + Int32.ofInt n = v) (hn : i < nL) (ks : List Nat) (lv' : List (Nat × Value)) (hl' : lv_pick ((i, Value.int v) :: lv.filter (fun q => !(q.1 == i) && !(q.1 + 1 == i && q.2.category == 2))) ks = lv') (hq : pc + 3 = q) (k : ux_At l G own cc nL rt d rv Z q lv' rest S) : ux_At l G own cc nL rt d rv Z pc lv rest S := by
  subst hq
  exact fun p e s m args below meth c X ls hl H locs hU => lv_iinc (k := j) X.1 X.2.1 hdg hl hj hv hn rfl (fun ls' hl2 => k p e s m args below meth c X ls' (lv_sub hl2 ks hl') H locs hU)
theorem ax_iadd {x y : Int32} (q : Nat) (hdg : decode cc pc = .ok (.iadd, 1))  (hq : pc + 1 = q) (k : ux_At l G own cc nL rt d rv Z q lv (.int (x + y) :: rest) S) : ux_At l G own cc nL rt d rv Z pc lv (.int y :: .int x :: rest) S := by
  subst hq
  exact fun p e s m args below meth c X ls hl H locs hU => lv_iadd X.1 X.2.1 hdg (k p e s m args below meth c X ls hl H locs hU)
theorem ax_isub {x y : Int32} (q : Nat) (hdg : decode cc pc = .ok (.isub, 1))  (hq : pc + 1 = q) (k : ux_At l G own cc nL rt d rv Z q lv (.int (x - y) :: rest) S) : ux_At l G own cc nL rt d rv Z pc lv (.int y :: .int x :: rest) S := by
  subst hq
  exact fun p e s m args below meth c X ls hl H locs hU => lv_isub X.1 X.2.1 hdg (k p e s m args below meth c X ls hl H locs hU)
theorem ax_imul {x y : Int32} (q : Nat) (hdg : decode cc pc = .ok (.imul, 1))  (hq : pc + 1 = q) (k : ux_At l G own cc nL rt d rv Z q lv (.int (x * y) :: rest) S) : ux_At l G own cc nL rt d rv Z pc lv (.int y :: .int x :: rest) S := by
  subst hq
  exact fun p e s m args below meth c X ls hl H locs hU => lv_imul X.1 X.2.1 hdg (k p e s m args below meth c X ls hl H locs hU)
theorem ax_iand {x y : Int32} (q : Nat) (hdg : decode cc pc = .ok (.iand, 1))  (hq : pc + 1 = q) (k : ux_At l G own cc nL rt d rv Z q lv (.int (x &&& y) :: rest) S) : ux_At l G own cc nL rt d rv Z pc lv (.int y :: .int x :: rest) S := by
  subst hq
  exact fun p e s m args below meth c X ls hl H locs hU => lv_iand X.1 X.2.1 hdg (k p e s m args below meth c X ls hl H locs hU)
theorem ax_ior {x y : Int32} (q : Nat) (hdg : decode cc pc = .ok (.ior, 1))  (hq : pc + 1 = q) (k : ux_At l G own cc nL rt d rv Z q lv (.int (x ||| y) :: rest) S) : ux_At l G own cc nL rt d rv Z pc lv (.int y :: .int x :: rest) S := by
  subst hq
  exact fun p e s m args below meth c X ls hl H locs hU => lv_ior X.1 X.2.1 hdg (k p e s m args below meth c X ls hl H locs hU)
theorem ax_ixor {x y : Int32} (q : Nat) (hdg : decode cc pc = .ok (.ixor, 1))  (hq : pc + 1 = q) (k : ux_At l G own cc nL rt d rv Z q lv (.int (x ^^^ y) :: rest) S) : ux_At l G own cc nL rt d rv Z pc lv (.int y :: .int x :: rest) S := by
  subst hq
  exact fun p e s m args below meth c X ls hl H locs hU => lv_ixor X.1 X.2.1 hdg (k p e s m args below meth c X ls hl H locs hU)
theorem ax_ishl {x y : Int32} (q : Nat) (hdg : decode cc pc = .ok (.ishl, 1))  (hq : pc + 1 = q) (k : ux_At l G own cc nL rt d rv Z q lv (.int (x <<< (y &&& 31)) :: rest) S) : ux_At l G own cc nL rt d rv Z pc lv (.int y :: .int x :: rest) S := by
  subst hq
  exact fun p e s m args below meth c X ls hl H locs hU => lv_ishl X.1 X.2.1 hdg (k p e s m args below meth c X ls hl H locs hU)
theorem ax_ishr {x y : Int32} (q : Nat) (hdg : decode cc pc = .ok (.ishr, 1))  (hq : pc + 1 = q) (k : ux_At l G own cc nL rt d rv Z q lv (.int (x >>> (y &&& 31)) :: rest) S) : ux_At l G own cc nL rt d rv Z pc lv (.int y :: .int x :: rest) S := by
  subst hq
  exact fun p e s m args below meth c X ls hl H locs hU => lv_ishr X.1 X.2.1 hdg (k p e s m args below meth c X ls hl H locs hU)
theorem ax_idiv {x y : Int32} (q : Nat) (hdg : decode cc pc = .ok (.idiv, 1)) (hne : ¬ y = 0) (hq : pc + 1 = q) (k : ux_At l G own cc nL rt d rv Z q lv (.int (x / y) :: rest) S) : ux_At l G own cc nL rt d rv Z pc lv (.int y :: .int x :: rest) S := by
  subst hq
  exact fun p e s m args below meth c X ls hl H locs hU => lv_idiv X.1 X.2.1 hdg hne (k p e s m args below meth c X ls hl H locs hU)
theorem ax_irem {x y : Int32} (q : Nat) (hdg : decode cc pc = .ok (.irem, 1)) (hne : ¬ y = 0) (hq : pc + 1 = q) (k : ux_At l G own cc nL rt d rv Z q lv (.int (x - x / y * y) :: rest) S) : ux_At l G own cc nL rt d rv Z pc lv (.int y :: .int x :: rest) S := by
  subst hq
  exact fun p e s m args below meth c X ls hl H locs hU => lv_irem X.1 X.2.1 hdg hne (k p e s m args below meth c X ls hl H locs hU)
theorem ax_ladd {x y : Int64} (q : Nat) (hdg : decode cc pc = .ok (.ladd, 1))  (hq : pc + 1 = q) (k : ux_At l G own cc nL rt d rv Z q lv (.long (x + y) :: rest) S) : ux_At l G own cc nL rt d rv Z pc lv (.long y :: .long x :: rest) S := by
  subst hq
  exact fun p e s m args below meth c X ls hl H locs hU => lv_ladd X.1 X.2.1 hdg (k p e s m args below meth c X ls hl H locs hU)
theorem ax_land {x y : Int64} (q : Nat) (hdg : decode cc pc = .ok (.land, 1))  (hq : pc + 1 = q) (k : ux_At l G own cc nL rt d rv Z q lv (.long (x &&& y) :: rest) S) : ux_At l G own cc nL rt d rv Z pc lv (.long y :: .long x :: rest) S := by
  subst hq
  exact fun p e s m args below meth c X ls hl H locs hU => lv_land X.1 X.2.1 hdg (k p e s m args below meth c X ls hl H locs hU)
theorem ax_lor {x y : Int64} (q : Nat) (hdg : decode cc pc = .ok (.lor, 1))  (hq : pc + 1 = q) (k : ux_At l G own cc nL rt d rv Z q lv (.long (x ||| y) :: rest) S) : ux_At l G own cc nL rt d rv Z pc lv (.long y :: .long x :: rest) S := by
  subst hq
  exact fun p e s m args below meth c X ls hl H locs hU => lv_lor X.1 X.2.1 hdg (k p e s m args below meth c X ls hl H locs hU)
theorem ax_lcmp {x y : Int64} (q : Nat) (hdg : decode cc pc = .ok (.lcmp, 1))  (hq : pc + 1 = q) (k : ux_At l G own cc nL rt d rv Z q lv (.int (lg_cmp x y) :: rest) S) : ux_At l G own cc nL rt d rv Z pc lv (.long y :: .long x :: rest) S := by
  subst hq
  exact fun p e s m args below meth c X ls hl H locs hU => W.lcmp X.1 X.2.1 hdg (k p e s m args below meth c X ls hl H locs hU)
theorem ax_iushr {x y : Int32} (q : Nat) (hdg : decode cc pc = .ok (.iushr, 1))  (hq : pc + 1 = q) (k : ux_At l G own cc nL rt d rv Z q lv (.int (x.toUInt32 >>> (y.toUInt32 &&& Int32.toUInt32 31)).toInt32 :: rest) S) : ux_At l G own cc nL rt d rv Z pc lv (.int y :: .int x :: rest) S := by
  subst hq
  exact fun p e s m args below meth c X ls hl H locs hU => lv_iushr X.1 X.2.1 hdg rfl (k p e s m args below meth c X ls hl H locs hU)
theorem ax_lshl {x : Int64} {y : Int32} (q : Nat) (hdg : decode cc pc = .ok (.lshl, 1))  (hq : pc + 1 = q) (k : ux_At l G own cc nL rt d rv Z q lv (.long (x <<< (y.toInt64 &&& 63)) :: rest) S) : ux_At l G own cc nL rt d rv Z pc lv (.int y :: .long x :: rest) S := by
  subst hq
  exact fun p e s m args below meth c X ls hl H locs hU => lv_lshl X.1 X.2.1 hdg rfl (k p e s m args below meth c X ls hl H locs hU)
theorem ax_lshr {x : Int64} {y : Int32} (q : Nat) (hdg : decode cc pc = .ok (.lshr, 1))  (hq : pc + 1 = q) (k : ux_At l G own cc nL rt d rv Z q lv (.long (x >>> (y.toInt64 &&& 63)) :: rest) S) : ux_At l G own cc nL rt d rv Z pc lv (.int y :: .long x :: rest) S := by
  subst hq
  exact fun p e s m args below meth c X ls hl H locs hU => lv_lshr X.1 X.2.1 hdg rfl (k p e s m args below meth c X ls hl H locs hU)
theorem ax_i2l {x : Int32} (q : Nat) (hdg : decode cc pc = .ok (.i2l, 1))  (hq : pc + 1 = q) (k : ux_At l G own cc nL rt d rv Z q lv (.long x.toInt64 :: rest) S) : ux_At l G own cc nL rt d rv Z pc lv (.int x :: rest) S := by
  subst hq
  exact fun p e s m args below meth c X ls hl H locs hU => lv_i2l X.1 X.2.1 hdg rfl (k p e s m args below meth c X ls hl H locs hU)
theorem ax_l2i {x : Int64} (q : Nat) (hdg : decode cc pc = .ok (.l2i, 1))  (hq : pc + 1 = q) (k : ux_At l G own cc nL rt d rv Z q lv (.int x.toInt32 :: rest) S) : ux_At l G own cc nL rt d rv Z pc lv (.long x :: rest) S := by
  subst hq
  exact fun p e s m args below meth c X ls hl H locs hU => lv_l2i X.1 X.2.1 hdg rfl (k p e s m args below meth c X ls hl H locs hU)
theorem ax_i2b {x : Int32} (q : Nat) (hdg : decode cc pc = .ok (.i2b, 1))  (hq : pc + 1 = q) (k : ux_At l G own cc nL rt d rv Z q lv (.int x.toInt8.toInt32 :: rest) S) : ux_At l G own cc nL rt d rv Z pc lv (.int x :: rest) S := by
  subst hq
  exact fun p e s m args below meth c X ls hl H locs hU => lv_i2b X.1 X.2.1 hdg rfl (k p e s m args below meth c X ls hl H locs hU)
theorem ax_dup {va : Value} (q : Nat) (hdg : decode cc pc = .ok (.dup, 1)) (hva : va.category = 1) (hq : pc + 1 = q) (k : ux_At l G own cc nL rt d rv Z q lv (va :: va :: rest) S) : ux_At l G own cc nL rt d rv Z pc lv (va :: rest) S := by
  subst hq
  exact fun p e s m args below meth c X ls hl H locs hU => lv_dup X.1 X.2.1 hdg hva (k p e s m args below meth c X ls hl H locs hU)
theorem ax_pop {va : Value} (q : Nat) (hdg : decode cc pc = .ok (.pop, 1)) (hva : va.category = 1) (hq : pc + 1 = q) (k : ux_At l G own cc nL rt d rv Z q lv rest S) : ux_At l G own cc nL rt d rv Z pc lv (va :: rest) S := by
  subst hq
  exact fun p e s m args below meth c X ls hl H locs hU => lv_pop X.1 X.2.1 hdg hva (k p e s m args below meth c X ls hl H locs hU)
theorem ax_dup2 {va vb : Value} (q : Nat) (hdg : decode cc pc = .ok (.dup2, 1)) (hva : va.category = 1) (hvb : vb.category = 1) (hq : pc + 1 = q) (k : ux_At l G own cc nL rt d rv Z q lv (va :: vb :: va :: vb :: rest) S) : ux_At l G own cc nL rt d rv Z pc lv (va :: vb :: rest) S := by
  subst hq
  exact fun p e s m args below meth c X ls hl H locs hU => lv_dup2_11 X.1 X.2.1 hdg hva hvb (k p e s m args below meth c X ls hl H locs hU)
theorem ax_if_eq {x : Int32} {off : Int} (tgt q : Nat) (hdg : decode cc pc = .ok (.ifCond .eq off, 3)) (ht : (pc : Int) + off = (tgt : Int)) (hq : pc + 3 = q) (kt : x = 0 → ux_At l G own cc nL rt d rv Z tgt lv rest S) (kf : ¬ x = 0 → ux_At l G own cc nL rt d rv Z q lv rest S) : ux_At l G own cc nL rt d rv Z pc lv (.int x :: rest) S := by
  subst hq
  exact fun p e s m args below meth c X ls hl H locs hU => lv_if_eq X.1 X.2.1 hdg ht (fun h => kt h p e s m args below meth c X ls hl H locs hU) (fun h => kf h p e s m args below meth c X ls hl H locs hU)
theorem ax_icmp_eq {x y : Int32} {off : Int} (tgt q : Nat) (hdg : decode cc pc = .ok (.if_icmp .eq off, 3)) (ht : (pc : Int) + off = (tgt : Int)) (hq : pc + 3 = q) (kt : x = y → ux_At l G own cc nL rt d rv Z tgt lv rest S) (kf : ¬ x = y → ux_At l G own cc nL rt d rv Z q lv rest S) : ux_At l G own cc nL rt d rv Z pc lv (.int y :: .int x :: rest) S := by
  subst hq
  exact fun p e s m args below meth c X ls hl H locs hU => lv_icmp_eq X.1 X.2.1 hdg ht (fun h => kt h p e s m args below meth c X ls hl H locs hU) (fun h => kf h p e s m args below meth c X ls hl H locs hU)
theorem ax_if_ne {x : Int32} {off : Int} (tgt q : Nat) (hdg : decode cc pc = .ok (.ifCond .ne off, 3)) (ht : (pc : Int) + off = (tgt : Int)) (hq : pc + 3 = q) (kt : ¬ x = 0 → ux_At l G own cc nL rt d rv Z tgt lv rest S) (kf : x = 0 → ux_At l G own cc nL rt d rv Z q lv rest S) : ux_At l G own cc nL rt d rv Z pc lv (.int x :: rest) S := by
  subst hq
  exact fun p e s m args below meth c X ls hl H locs hU => lv_if_ne X.1 X.2.1 hdg ht (fun h => kt h p e s m args below meth c X ls hl H locs hU) (fun h => kf h p e s m args below meth c X ls hl H locs hU)
theorem ax_icmp_ne {x y : Int32} {off : Int} (tgt q : Nat) (hdg : decode cc pc = .ok (.if_icmp .ne off, 3)) (ht : (pc : Int) + off = (tgt : Int)) (hq : pc + 3 = q) (kt : ¬ x = y → ux_At l G own cc nL rt d rv Z tgt lv rest S) (kf : x = y → ux_At l G own cc nL rt d rv Z q lv rest S) : ux_At l G own cc nL rt d rv Z pc lv (.int y :: .int x :: rest) S := by
  subst hq
  exact fun p e s m args below meth c X ls hl H locs hU => lv_icmp_ne X.1 X.2.1 hdg ht (fun h => kt h p e s m args below meth c X ls hl H locs hU) (fun h => kf h p e s m args below meth c X ls hl H locs hU)
theorem ax_if_lt {x : Int32} {off : Int} (tgt q : Nat) (hdg : decode cc pc = .ok (.ifCond .lt off, 3)) (ht : (pc : Int) + off = (tgt : Int)) (hq : pc + 3 = q) (kt : x < 0 → ux_At l G own cc nL rt d rv Z tgt lv rest S) (kf : ¬ x < 0 → ux_At l G own cc nL rt d rv Z q lv rest S) : ux_At l G own cc nL rt d rv Z pc lv (.int x :: rest) S := by
  subst hq
  exact fun p e s m args below meth c X ls hl H locs hU => lv_if_lt X.1 X.2.1 hdg ht (fun h => kt h p e s m args below meth c X ls hl H locs hU) (fun h => kf h p e s m args below meth c X ls hl H locs hU)
theorem ax_icmp_lt {x y : Int32} {off : Int} (tgt q : Nat) (hdg : decode cc pc = .ok (.if_icmp .lt off, 3)) (ht : (pc : Int) + off = (tgt : Int)) (hq : pc + 3 = q) (kt : x < y → ux_At l G own cc nL rt d rv Z tgt lv rest S) (kf : ¬ x < y → ux_At l G own cc nL rt d rv Z q lv rest S) : ux_At l G own cc nL rt d rv Z pc lv (.int y :: .int x :: rest) S := by
  subst hq
  exact fun p e s m args below meth c X ls hl H locs hU => lv_icmp_lt X.1 X.2.1 hdg ht (fun h => kt h p e s m args below meth c X ls hl H locs hU) (fun h => kf h p e s m args below meth c X ls hl H locs hU)
theorem ax_if_ge {x : Int32} {off : Int} (tgt q : Nat) (hdg : decode cc pc = .ok (.ifCond .ge off, 3)) (ht : (pc : Int) + off = (tgt : Int)) (hq : pc + 3 = q) (kt : 0 ≤ x → ux_At l G own cc nL rt d rv Z tgt lv rest S) (kf : ¬ 0 ≤ x → ux_At l G own cc nL rt d rv Z q lv rest S) : ux_At l G own cc nL rt d rv Z pc lv (.int x :: rest) S := by
  subst hq
  exact fun p e s m args below meth c X ls hl H locs hU => lv_if_ge X.1 X.2.1 hdg ht (fun h => kt h p e s m args below meth c X ls hl H locs hU) (fun h => kf h p e s m args below meth c X ls hl H locs hU)
theorem ax_icmp_ge {x y : Int32} {off : Int} (tgt q : Nat) (hdg : decode cc pc = .ok (.if_icmp .ge off, 3)) (ht : (pc : Int) + off = (tgt : Int)) (hq : pc + 3 = q) (kt : y ≤ x → ux_At l G own cc nL rt d rv Z tgt lv rest S) (kf : ¬ y ≤ x → ux_At l G own cc nL rt d rv Z q lv rest S) : ux_At l G own cc nL rt d rv Z pc lv (.int y :: .int x :: rest) S := by
  subst hq
  exact fun p e s m args below meth c X ls hl H locs hU => lv_icmp_ge X.1 X.2.1 hdg ht (fun h => kt h p e s m args below meth c X ls hl H locs hU) (fun h => kf h p e s m args below meth c X ls hl H locs hU)
theorem ax_if_gt {x : Int32} {off : Int} (tgt q : Nat) (hdg : decode cc pc = .ok (.ifCond .gt off, 3)) (ht : (pc : Int) + off = (tgt : Int)) (hq : pc + 3 = q) (kt : 0 < x → ux_At l G own cc nL rt d rv Z tgt lv rest S) (kf : ¬ 0 < x → ux_At l G own cc nL rt d rv Z q lv rest S) : ux_At l G own cc nL rt d rv Z pc lv (.int x :: rest) S := by
  subst hq
  exact fun p e s m args below meth c X ls hl H locs hU => lv_if_gt X.1 X.2.1 hdg ht (fun h => kt h p e s m args below meth c X ls hl H locs hU) (fun h => kf h p e s m args below meth c X ls hl H locs hU)
theorem ax_icmp_gt {x y : Int32} {off : Int} (tgt q : Nat) (hdg : decode cc pc = .ok (.if_icmp .gt off, 3)) (ht : (pc : Int) + off = (tgt : Int)) (hq : pc + 3 = q) (kt : y < x → ux_At l G own cc nL rt d rv Z tgt lv rest S) (kf : ¬ y < x → ux_At l G own cc nL rt d rv Z q lv rest S) : ux_At l G own cc nL rt d rv Z pc lv (.int y :: .int x :: rest) S := by
  subst hq
  exact fun p e s m args below meth c X ls hl H locs hU => lv_icmp_gt X.1 X.2.1 hdg ht (fun h => kt h p e s m args below meth c X ls hl H locs hU) (fun h => kf h p e s m args below meth c X ls hl H locs hU)
theorem ax_if_le {x : Int32} {off : Int} (tgt q : Nat) (hdg : decode cc pc = .ok (.ifCond .le off, 3)) (ht : (pc : Int) + off = (tgt : Int)) (hq : pc + 3 = q) (kt : x ≤ 0 → ux_At l G own cc nL rt d rv Z tgt lv rest S) (kf : ¬ x ≤ 0 → ux_At l G own cc nL rt d rv Z q lv rest S) : ux_At l G own cc nL rt d rv Z pc lv (.int x :: rest) S := by
  subst hq
  exact fun p e s m args below meth c X ls hl H locs hU => lv_if_le X.1 X.2.1 hdg ht (fun h => kt h p e s m args below meth c X ls hl H locs hU) (fun h => kf h p e s m args below meth c X ls hl H locs hU)
theorem ax_icmp_le {x y : Int32} {off : Int} (tgt q : Nat) (hdg : decode cc pc = .ok (.if_icmp .le off, 3)) (ht : (pc : Int) + off = (tgt : Int)) (hq : pc + 3 = q) (kt : x ≤ y → ux_At l G own cc nL rt d rv Z tgt lv rest S) (kf : ¬ x ≤ y → ux_At l G own cc nL rt d rv Z q lv rest S) : ux_At l G own cc nL rt d rv Z pc lv (.int y :: .int x :: rest) S := by
  subst hq
  exact fun p e s m args below meth c X ls hl H locs hU => lv_icmp_le X.1 X.2.1 hdg ht (fun h => kt h p e s m args below meth c X ls hl H locs hU) (fun h => kf h p e s m args below meth c X ls hl H locs hU)
theorem ax_goto {off : Int} (tgt : Nat) (hdg : decode cc pc = .ok (.goto off, 3)) (ht : (pc : Int) + off = (tgt : Int)) (k : ux_At l G own cc nL rt d rv Z tgt lv rest S) : ux_At l G own cc nL rt d rv Z pc lv rest S := fun p e s m args below meth c X ls hl H locs hU => lv_goto X.1 X.2.1 hdg ht (k p e s m args below meth c X ls hl H locs hU)
theorem ax_tabIn {dflt lo hi : Int} {offs : Array Int} {len : Nat} {x : Int32} {off : Int} (v : Int32) (tgt : Nat) (hx : x = v) (hdg : decode cc pc = .ok (.tableswitch dflt lo hi offs, len)) (h1 : ¬ v.toInt < lo) (h2 : ¬ hi < v.toInt) (ho : offs[(v.toInt - lo).toNat]? = some off) (ht : (pc : Int) + off = (tgt : Int)) (k : ux_At l G own cc nL rt d rv Z tgt lv rest S) : ux_At l G own cc nL rt d rv Z pc lv (.int x :: rest) S := by
  subst hx
  exact fun p e s m args below meth c X ls hl H locs hU => lv_tableIn X.1 X.2.1 hdg h1 h2 ho ht (k p e s m args below meth c X ls hl H locs hU)
theorem ax_tabOut {dflt lo hi : Int} {offs : Array Int} {len : Nat} {x : Int32} (tgt : Nat) (hdg : decode cc pc = .ok (.tableswitch dflt lo hi offs, len)) (h : x.toInt < lo ∨ hi < x.toInt) (ht : (pc : Int) + dflt = (tgt : Int)) (k : ux_At l G own cc nL rt d rv Z tgt lv rest S) : ux_At l G own cc nL rt d rv Z pc lv (.int x :: rest) S := fun p e s m args below meth c X ls hl H locs hU => lv_tableOut X.1 X.2.1 hdg h ht (k p e s m args below meth c X ls hl H locs hU)
theorem ax_swOut {x : Int32} (n : Nat) (hn : n < 1000) (h : ∀ k, k < n → ¬ x = Int32.ofNat k) : x.toInt < 0 ∨ ((n : Int) - 1) < x.toInt := by
  by_cases h0 : x.toInt < 0
  · exact Or.inl h0
  · by_cases h1 : ((n : Int) - 1) < x.toInt
    · exact Or.inr h1
    · refine absurd ?_ (h x.toInt.toNat (by omega))
      apply Int32.toInt_inj.mp
      rw [Int32.toInt_ofNat_of_lt (by omega)]
      omega
/-- what the tables say of a field of the object number i, its slot k, at the place idx of own's pool -/
def ux_FG (own : String) (idx i k : Nat) : Prop := ∃ (ci : Nat) (C : String) (T : u_T) (N : Nat), i < 79 ∧ ux_k i = (5, ci) ∧ ux_cl[ci]? = some (C, T, N) ∧ (∀ w ∈ u_ws C T N, w ∈ ux_WA) ∧ k < N ∧ (ux_f i).length = N ∧ Cond.fieldLink own idx (T k).1 (T k).2.1 (T k).2.2.1 ∈ ux_WA
def ux_FP (own : String) (idx i k : Nat) : Prop := ∃ (ci : Nat) (C : String) (T : u_T) (N : Nat) (ty0 : Nat → FieldType), i < 79 ∧ ux_k i = (5, ci) ∧ ux_cl[ci]? = some (C, T, N) ∧ (∀ w ∈ u_ws C T N, w ∈ ux_WA) ∧ k < N ∧ (ux_f i).length = N ∧ Cond.fieldLink own idx (T k).1 (T k).2.1 (T k).2.2.1 ∈ ux_WA ∧ (∀ k, k < N → parseFieldDescriptor (T k).2.2.1 = some (ty0 k)) ∧ (∀ a, a < N → ∀ b, b < N → a ≠ b → (T a).2.1 ≠ (T b).2.1) ∧ (T k).2.2.2 = false ∧ parseFieldDescriptor (T k).2.2.1 = some .int ∧ (ux_f i).getD k 0 = 0
theorem ux_vs_get {G : ux_G} {i k : Nat} {a : Nat → Int32} (h : k < (ux_f i).length) : (ux_vs G i a)[k]? = some (ux_v G ((ux_f i).getD k 0) (a k)) := by
  unfold ux_vs
  rw [List.getElem?_map, List.getElem?_range h]
  rfl
theorem ux_vs_set {G : ux_G} {i k : Nat} {a : Nat → Int32} {x : Int32} (h : k < (ux_f i).length) (h0 : (ux_f i).getD k 0 = 0) : (ux_vs G i a).set k (.int x) = ux_vs G i (upd a k x) := by
  have hl : ∀ f : Nat → Int32, (ux_vs G i f).length = (ux_f i).length := fun f => by unfold ux_vs; simp
  apply List.ext_getElem?
  intro j
  by_cases hj : j = k
  · subst hj
    rw [List.getElem?_set_self (by rw [hl]; exact h), ux_vs_get h, h0]
    simp [ux_v, upd]
  · rw [List.getElem?_set_ne (Ne.symm hj)]
    by_cases hl2 : j < (ux_f i).length
    · rw [ux_vs_get hl2, ux_vs_get hl2]
      simp [upd, hj]
    · rw [List.getElem?_eq_none (by rw [hl]; omega), List.getElem?_eq_none (by rw [hl]; omega)]
theorem ax_get {idx i k : Nat} {v : Value} (q : Nat) (hdg : decode cc pc = .ok (.getfield idx, 3)) (F : ux_FG own idx i k) (hv : ux_v G ((ux_f i).getD k 0) (S.1 i k) = v) (hq : pc + 3 = q) (kk : ux_At l G own cc nL rt d rv Z q lv (v :: rest) S) : ux_At l G own cc nL rt d rv Z pc lv (.ref (ux_a G i) :: rest) S := by
  subst hq
  obtain ⟨ci, C, T, N, h1, h2, h3, h4, h5, h6, h7⟩ := F
  intro p e s m args below meth c X ls hl H locs hU
  refine va_get (D := ux_D G) (cl := ux_cl) (tys := ux_ty G) (ws := ux_w G S) (ci := ci) (C := C) (T := T) (N := N) (Ts := ux_WA) (own := own) X.1 X.2.1 X.2.2.2.2.1 h4 X.2.2.2.1 X.2.2.2.2.2.2.2.2.1 hU.1 i (by rw [ux_wget h1, ux_eO h2]) h3 k h5 (X.2.2.2.2.1 _ h7) (fun _ h9 => h9) (by rw [ux_vs_get (by rw [h6]; exact h5), hv]) hdg ?_
  exact kk p e s m args below meth c X ls hl H locs hU
theorem ax_put {idx i k : Nat} {x : Int32} (q : Nat) (hdg : decode cc pc = .ok (.putfield idx, 3)) (F : ux_FP own idx i k) (hq : pc + 3 = q) (kk : ux_At l G own cc nL rt d rv Z q lv rest (ux_i S i k x)) : ux_At l G own cc nL rt d rv Z pc lv (.int x :: .ref (ux_a G i) :: rest) S := by
  subst hq
  obtain ⟨ci, C, T, N, ty0, h1, h2, h3, h4, h5, h6, h7, h8, h9, h10, h11, h12⟩ := F
  intro p e s m args below meth c X ls hl H locs hU
  have hD : va_D (ux_A G) (ux_w G S) := ux_wD X.2.2.2.2.2.2.2.1 (fun i hi => ⟨i, hi, rfl⟩)
  refine va_put (D := ux_D G) (cl := ux_cl) (tys := ux_ty G) (ws := ux_w G S) (ci := ci) (C := C) (T := T) (N := N) (Ts := ux_WA) (own := own) (fs := ux_vs G i (S.1 i)) (v := .int x) (ty := .int) X.1 X.2.1 X.2.2.2.2.1 h4 ty0 h8 h9 X.2.2.2.1 X.2.2.2.2.2.2.2.2.1 hU.1 hD hU.2 i (by rw [ux_wget h1, ux_eO h2]) h3 k h5 (X.2.2.2.2.1 _ h7) (fun _ h9 => h9) h10 h11 rfl rfl (by unfold ux_vs; simp; omega) hdg (fun H1 locs1 hP1 _ hS1 => ?_)
  rw [ux_vs_set (by rw [h6]; exact h5) h12] at hP1
  rw [ux_wset (G := G) (S := S) (Z := ux_i S i k x) h1 (by rw [ux_eO h2]; simp [ux_i]) (fun j hj => by simp [ux_i, hj]) (fun j hj => by simp [ux_i])] at hP1
  exact kk p e s m args below meth c X ls hl H1 locs1 ⟨hP1, hS1⟩
def ux_ib (x : Int32) (n : Nat) : Bool := !(decide (x < 0) || decide (n ≤ x.toNatClampNeg))
theorem ux_ib_of {x : Int32} {n : Nat} (h : ux_ib x n = true) : vp_in x n := by
  intro q
  unfold ux_ib at h
  rcases q with q | q <;> simp [q] at h
theorem ax_iald {i n : Nat} {x : Int32} (q : Nat) (hdg : decode cc pc = .ok (.iaload, 1)) (hi : i < 79) (hk : ux_k i = (0, n)) (hin : ux_ib x n = true) (hq : pc + 1 = q) (kk : ux_At l G own cc nL rt d rv Z q lv (.int (S.1 i x.toNatClampNeg) :: rest) S) : ux_At l G own cc nL rt d rv Z pc lv (.int x :: .ref (ux_a G i) :: rest) S := by
  subst hq
  intro p e s m args below meth c X ls hl H locs hU
  refine va_iald (D := ux_D G) (cl := ux_cl) (tys := ux_ty G) (ws := ux_w G S) (cA := G.2.2.1 0) (n := n) (f := S.1 i) X.1 X.2.1 X.2.2.2.2.2.2.2.2.1 hU.1 i 0 (by rw [ux_wget hi, ux_e0 hk]) rfl (ux_ib_of hin) hdg ?_
  exact kk p e s m args below meth c X ls hl H locs hU
theorem ax_zald {i n : Nat} {x : Int32} (q : Nat) (hdg : decode cc pc = .ok (.baload, 1)) (hi : i < 79) (hk : ux_k i = (2, n)) (hin : ux_ib x n = true) (hq : pc + 1 = q) (kk : ux_At l G own cc nL rt d rv Z q lv (.int (S.1 i x.toNatClampNeg) :: rest) S) : ux_At l G own cc nL rt d rv Z pc lv (.int x :: .ref (ux_a G i) :: rest) S := by
  subst hq
  intro p e s m args below meth c X ls hl H locs hU
  refine va_zald (D := ux_D G) (cl := ux_cl) (tys := ux_ty G) (ws := ux_w G S) (cA := G.2.2.1 2) (n := n) (f := S.1 i) X.1 X.2.1 X.2.2.2.2.2.2.2.2.1 hU.1 i 2 (by rw [ux_wget hi, ux_e2 hk]) rfl (ux_ib_of hin) hdg ?_
  exact kk p e s m args below meth c X ls hl H locs hU
theorem ax_lald {i n : Nat} {x : Int32} (q : Nat) (hdg : decode cc pc = .ok (.laload, 1)) (hi : i < 79) (hk : ux_k i = (1, n)) (hin : ux_ib x n = true) (hq : pc + 1 = q) (kk : ux_At l G own cc nL rt d rv Z q lv (.long (S.2 i x.toNatClampNeg) :: rest) S) : ux_At l G own cc nL rt d rv Z pc lv (.int x :: .ref (ux_a G i) :: rest) S := by
  subst hq
  intro p e s m args below meth c X ls hl H locs hU
  refine va_lald (D := ux_D G) (cl := ux_cl) (tys := ux_ty G) (ws := ux_w G S) (cA := G.2.2.1 1) (n := n) (f := S.2 i) X.1 X.2.1 X.2.2.2.2.2.2.2.2.1 hU.1 i 1 (by rw [ux_wget hi, ux_e1 hk]) rfl (ux_ib_of hin) hdg ?_
  exact kk p e s m args below meth c X ls hl H locs hU
theorem ax_iast {i n : Nat} {x : Int32} {v : Int32} (q : Nat) (hdg : decode cc pc = .ok (.iastore, 1)) (hi : i < 79) (hk : ux_k i = (0, n)) (hin : ux_ib x n = true) (hq : pc + 1 = q) (kk : ux_At l G own cc nL rt d rv Z q lv rest (ux_i S i x.toNatClampNeg v)) : ux_At l G own cc nL rt d rv Z pc lv (.int v :: .int x :: .ref (ux_a G i) :: rest) S := by
  subst hq
  intro p e s m args below meth c X ls hl H locs hU
  have hD : va_D (ux_A G) (ux_w G S) := ux_wD X.2.2.2.2.2.2.2.1 (fun i hi => ⟨i, hi, rfl⟩)
  refine va_iast (D := ux_D G) (cl := ux_cl) (tys := ux_ty G) (ws := ux_w G S) (cA := G.2.2.1 0) (n := n) (f := S.1 i) X.1 X.2.1 X.2.2.2.2.2.2.2.2.1 hU.1 hD hU.2 i 0 (by rw [ux_wget hi, ux_e0 hk]) rfl (ux_ib_of hin) hdg (fun H1 locs1 hP1 _ hS1 => ?_)
  rw [ux_wset (G := G) (S := S) (Z := ux_i S i x.toNatClampNeg v) hi (by rw [ux_e0 hk]; simp [ux_i]) (fun j hj => by simp [ux_i, hj]) (fun j hj => by simp [ux_i, hj])] at hP1
  exact kk p e s m args below meth c X ls hl H1 locs1 ⟨hP1, hS1⟩
theorem ax_zast {i n : Nat} {x : Int32} {v : Int32} (q : Nat) (hdg : decode cc pc = .ok (.bastore, 1)) (hi : i < 79) (hk : ux_k i = (2, n)) (hin : ux_ib x n = true) (hq : pc + 1 = q) (kk : ux_At l G own cc nL rt d rv Z q lv rest (ux_i S i x.toNatClampNeg (vp_nar .boolean v))) : ux_At l G own cc nL rt d rv Z pc lv (.int v :: .int x :: .ref (ux_a G i) :: rest) S := by
  subst hq
  intro p e s m args below meth c X ls hl H locs hU
  have hD : va_D (ux_A G) (ux_w G S) := ux_wD X.2.2.2.2.2.2.2.1 (fun i hi => ⟨i, hi, rfl⟩)
  refine va_zast (D := ux_D G) (cl := ux_cl) (tys := ux_ty G) (ws := ux_w G S) (cA := G.2.2.1 2) (n := n) (f := S.1 i) X.1 X.2.1 X.2.2.2.2.2.2.2.2.1 hU.1 hD hU.2 i 2 (by rw [ux_wget hi, ux_e2 hk]) rfl (ux_ib_of hin) hdg (fun H1 locs1 hP1 _ hS1 => ?_)
  rw [ux_wset (G := G) (S := S) (Z := ux_i S i x.toNatClampNeg (vp_nar .boolean v)) hi (by rw [ux_e2 hk]; simp [ux_i]) (fun j hj => by simp [ux_i, hj]) (fun j hj => by simp [ux_i, hj])] at hP1
  exact kk p e s m args below meth c X ls hl H1 locs1 ⟨hP1, hS1⟩
theorem ax_last {i n : Nat} {x : Int32} {v : Int64} (q : Nat) (hdg : decode cc pc = .ok (.lastore, 1)) (hi : i < 79) (hk : ux_k i = (1, n)) (hin : ux_ib x n = true) (hq : pc + 1 = q) (kk : ux_At l G own cc nL rt d rv Z q lv rest (ux_l S i x.toNatClampNeg v)) : ux_At l G own cc nL rt d rv Z pc lv (.long v :: .int x :: .ref (ux_a G i) :: rest) S := by
  subst hq
  intro p e s m args below meth c X ls hl H locs hU
  have hD : va_D (ux_A G) (ux_w G S) := ux_wD X.2.2.2.2.2.2.2.1 (fun i hi => ⟨i, hi, rfl⟩)
  refine va_last (D := ux_D G) (cl := ux_cl) (tys := ux_ty G) (ws := ux_w G S) (cA := G.2.2.1 1) (n := n) (f := S.2 i) X.1 X.2.1 X.2.2.2.2.2.2.2.2.1 hU.1 hD hU.2 i 1 (by rw [ux_wget hi, ux_e1 hk]) rfl (ux_ib_of hin) hdg (fun H1 locs1 hP1 _ hS1 => ?_)
  rw [ux_wset (G := G) (S := S) (Z := ux_l S i x.toNatClampNeg v) hi (by rw [ux_e1 hk]; simp [ux_l]) (fun j hj => by simp [ux_l, hj]) (fun j hj => by simp [ux_l, hj])] at hP1
  exact kk p e s m args below meth c X ls hl H1 locs1 ⟨hP1, hS1⟩
theorem ax_aaldI {i n : Nat} {x : Int32} (q : Nat) (hdg : decode cc pc = .ok (.aaload, 1)) (hi : i < 79) (hk : ux_k i = (3, n)) (hin : ux_ib x n = true) (hq : pc + 1 = q) (kk : ux_At l G own cc nL rt d rv Z q lv (.ref (ux_a G (i + 1 + x.toNatClampNeg)) :: rest) S) : ux_At l G own cc nL rt d rv Z pc lv (.int x :: .ref (ux_a G i) :: rest) S := by
  subst hq
  intro p e s m args below meth c X ls hl H locs hU
  have ha : (ux_w G S)[i]? = some (ux_a G i, .inl (G.2.2.1 3, n, .inr (.inr (.inr (.inr (fun j => some (ux_a G (i + 1 + j)))))))) := by rw [ux_wget hi, ux_e3 hk]
  have hv := ux_ib_of hin
  have hlt : x.toNatClampNeg < n := Nat.not_le.mp fun q => hv (Or.inr q)
  exact W.aald (v := .ref (ux_a G (i + 1 + x.toNatClampNeg))) (ty := .array .int) X.1 X.2.1 (hU.1 i _ ha) ((X.2.2.2.2.2.2.2.2.1.2 3 _ rfl).1 n (fun j => va_rf (some (ux_a G (i + 1 + j))))) rfl (fun q => by cases q) (by show ¬ (x < 0 ∨ (arrV _ _ _).slots.size ≤ _); rw [arrV_size]; exact hv) (by show (arrV _ _ _).slots[_]? = _; rw [arrV_read _ _ hlt]; rfl) rfl rfl hdg (kk p e s m args below meth c X ls hl H locs hU)
theorem ax_aaldL {i n : Nat} {x : Int32} (q : Nat) (hdg : decode cc pc = .ok (.aaload, 1)) (hi : i < 79) (hk : ux_k i = (4, n)) (hin : ux_ib x n = true) (hq : pc + 1 = q) (kk : ux_At l G own cc nL rt d rv Z q lv (.ref (ux_a G (i + 1 + x.toNatClampNeg)) :: rest) S) : ux_At l G own cc nL rt d rv Z pc lv (.int x :: .ref (ux_a G i) :: rest) S := by
  subst hq
  intro p e s m args below meth c X ls hl H locs hU
  have ha : (ux_w G S)[i]? = some (ux_a G i, .inl (G.2.2.1 4, n, .inr (.inr (.inr (.inr (fun j => some (ux_a G (i + 1 + j)))))))) := by rw [ux_wget hi, ux_e4 hk]
  have hv := ux_ib_of hin
  have hlt : x.toNatClampNeg < n := Nat.not_le.mp fun q => hv (Or.inr q)
  exact W.aald (v := .ref (ux_a G (i + 1 + x.toNatClampNeg))) (ty := .array .long) X.1 X.2.1 (hU.1 i _ ha) ((X.2.2.2.2.2.2.2.2.1.2 4 _ rfl).1 n (fun j => va_rf (some (ux_a G (i + 1 + j))))) rfl (fun q => by cases q) (by show ¬ (x < 0 ∨ (arrV _ _ _).slots.size ≤ _); rw [arrV_size]; exact hv) (by show (arrV _ _ _).slots[_]? = _; rw [arrV_read _ _ hlt]; rfl) rfl rfl hdg (kk p e s m args below meth c X ls hl H locs hU)
theorem ax_alen {i n : Nat} (q : Nat) (hdg : decode cc pc = .ok (.arraylength, 1)) (hi : i < 79) (hk : ux_k i = (0, n)) (hq : pc + 1 = q) (kk : ux_At l G own cc nL rt d rv Z q lv (.int (Int32.ofNat n) :: rest) S) : ux_At l G own cc nL rt d rv Z pc lv (.ref (ux_a G i) :: rest) S := by
  subst hq
  intro p e s m args below meth c X ls hl H locs hU
  exact va_alen (D := ux_D G) (cl := ux_cl) (tys := ux_ty G) (ws := ux_w G S) (cA := G.2.2.1 0) (x := (n, .inl (S.1 i))) X.1 X.2.1 X.2.2.2.2.2.2.2.2.1 hU.1 i 0 (by rw [ux_wget hi, ux_e0 hk]) rfl rfl hdg (kk p e s m args below meth c X ls hl H locs hU)
theorem ax_alenL {i n : Nat} (q : Nat) (hdg : decode cc pc = .ok (.arraylength, 1)) (hi : i < 79) (hk : ux_k i = (1, n)) (hq : pc + 1 = q) (kk : ux_At l G own cc nL rt d rv Z q lv (.int (Int32.ofNat n) :: rest) S) : ux_At l G own cc nL rt d rv Z pc lv (.ref (ux_a G i) :: rest) S := by
  subst hq
  intro p e s m args below meth c X ls hl H locs hU
  exact va_alen (D := ux_D G) (cl := ux_cl) (tys := ux_ty G) (ws := ux_w G S) (cA := G.2.2.1 1) (x := (n, .inr (.inl (S.2 i)))) X.1 X.2.1 X.2.2.2.2.2.2.2.2.1 hU.1 i 1 (by rw [ux_wget hi, ux_e1 hk]) rfl rfl hdg (kk p e s m args below meth c X ls hl H locs hU)
theorem ax_callVi {C : String} {y : MethodName} {ccy : ByteArray} {nLy n dy idx i ci N : Nat} {T : u_T} {rty : Option FieldType} {st : List Value} {S1 : ux_S} {r : Int32} (q : Nat) (As : List Value) (hdg : decode cc pc = .ok (.invokevirtual idx, 3)) (F : ux_FV own idx C y ccy nLy rty n) (hM : ux_M l G y ccy nLy rty dy (.ref (ux_a G i) :: As) S (some (.int r)) S1) (hi : i < 79) (hk : ux_k i = (5, ci)) (hc : ux_cl[ci]? = some (C, T, N)) (hd : dy + 1 ≤ d) (hn : As.length = n) (hst : st = As.reverse ++ .ref (ux_a G i) :: rest) (hcat : (rest.map fun v => v.category).sum ≤ 8) (hq : pc + 3 = q) (kk : ux_At l G own cc nL rt d rv Z q lv (.int r :: rest) S1) : ux_At l G own cc nL rt d rv Z pc lv st S := by
  subst hq
  intro p e s m args below meth c X ls hl H locs hU
  refine ux_run (A0 := ux_A G) (ux_runV ⟨X.1, X.2.1, X.2.2.1, X.2.2.2.1, X.2.2.2.2.1⟩ hM F ⟨hd, Nat.mul_le_mul_left 40 hd, Nat.zero_le _, Nat.zero_le _⟩ X.2.2.2.2.2.2.2 hU.1 hi hk hc hn hl.1 hst hcat hdg) (fun _ h => h) hU.2 (fun H1 locs1 hP1 hS1 => ?_)
  exact kk p e s m args below meth c X ls hl H1 locs1 ⟨hP1, hS1⟩
theorem ax_callSi {y : MethodName} {ccy : ByteArray} {nLy n dy idx : Nat} {rty : Option FieldType} {st : List Value} {S1 : ux_S} {r : Int32} (q : Nat) (As : List Value) (hdg : decode cc pc = .ok (.invokestatic idx, 3)) (F : ux_FS own idx y ccy nLy rty n) (hM : ux_M l G y ccy nLy rty dy As S (some (.int r)) S1) (hd : dy + 1 ≤ d) (hn : As.length = n) (hst : st = As.reverse ++ rest) (hcat : (rest.map fun v => v.category).sum ≤ 8) (hq : pc + 3 = q) (kk : ux_At l G own cc nL rt d rv Z q lv (.int r :: rest) S1) : ux_At l G own cc nL rt d rv Z pc lv st S := by
  subst hq
  intro p e s m args below meth c X ls hl H locs hU
  refine ux_run (A0 := ux_A G) (ux_runS ⟨X.1, X.2.1, X.2.2.1, X.2.2.2.1, X.2.2.2.2.1⟩ hM F ⟨hd, Nat.mul_le_mul_left 40 hd, Nat.zero_le _, Nat.zero_le _⟩ X.2.2.2.2.2.2.2 hU.1 hn hl.1 hst hcat hdg) (fun _ h => h) hU.2 (fun H1 locs1 hP1 hS1 => ?_)
  exact kk p e s m args below meth c X ls hl H1 locs1 ⟨hP1, hS1⟩
theorem ax_callNi {host : String} {y : MethodName} {ccy : ByteArray} {nLy n dy idx : Nat} {rty : Option FieldType} {st : List Value} {S1 : ux_S} {r : Int32} (q : Nat) (As : List Value) (hdg : decode cc pc = .ok (.invokestatic idx, 3)) (F : ux_FN y ccy nLy rty n) (hN : ∀ s : State, ux_K G s → va_Nw (.methodLinkNest own idx y host) s) (hM : ux_M l G y ccy nLy rty dy As S (some (.int r)) S1) (hd : dy + 1 ≤ d) (hn : As.length = n) (hst : st = As.reverse ++ rest) (hcat : (rest.map fun v => v.category).sum ≤ 8) (hq : pc + 3 = q) (kk : ux_At l G own cc nL rt d rv Z q lv (.int r :: rest) S1) : ux_At l G own cc nL rt d rv Z pc lv st S := by
  subst hq
  intro p e s m args below meth c X ls hl H locs hU
  refine ux_run (A0 := ux_A G) (ux_runN ⟨X.1, X.2.1, X.2.2.1, X.2.2.2.1, X.2.2.2.2.1⟩ hM F (hN s X.2.2.2.2.2.2.2) ⟨hd, Nat.mul_le_mul_left 40 hd, Nat.zero_le _, Nat.zero_le _⟩ X.2.2.2.2.2.2.2 hU.1 hn hl.1 hst hcat hdg) (fun _ h => h) hU.2 (fun H1 locs1 hP1 hS1 => ?_)
  exact kk p e s m args below meth c X ls hl H1 locs1 ⟨hP1, hS1⟩
theorem ax_callVl {C : String} {y : MethodName} {ccy : ByteArray} {nLy n dy idx i ci N : Nat} {T : u_T} {rty : Option FieldType} {st : List Value} {S1 : ux_S} {r : Int64} (q : Nat) (As : List Value) (hdg : decode cc pc = .ok (.invokevirtual idx, 3)) (F : ux_FV own idx C y ccy nLy rty n) (hM : ux_M l G y ccy nLy rty dy (.ref (ux_a G i) :: As) S (some (.long r)) S1) (hi : i < 79) (hk : ux_k i = (5, ci)) (hc : ux_cl[ci]? = some (C, T, N)) (hd : dy + 1 ≤ d) (hn : As.length = n) (hst : st = As.reverse ++ .ref (ux_a G i) :: rest) (hcat : (rest.map fun v => v.category).sum ≤ 8) (hq : pc + 3 = q) (kk : ux_At l G own cc nL rt d rv Z q lv (.long r :: rest) S1) : ux_At l G own cc nL rt d rv Z pc lv st S := by
  subst hq
  intro p e s m args below meth c X ls hl H locs hU
  refine ux_run (A0 := ux_A G) (ux_runV ⟨X.1, X.2.1, X.2.2.1, X.2.2.2.1, X.2.2.2.2.1⟩ hM F ⟨hd, Nat.mul_le_mul_left 40 hd, Nat.zero_le _, Nat.zero_le _⟩ X.2.2.2.2.2.2.2 hU.1 hi hk hc hn hl.1 hst hcat hdg) (fun _ h => h) hU.2 (fun H1 locs1 hP1 hS1 => ?_)
  exact kk p e s m args below meth c X ls hl H1 locs1 ⟨hP1, hS1⟩
theorem ax_callSl {y : MethodName} {ccy : ByteArray} {nLy n dy idx : Nat} {rty : Option FieldType} {st : List Value} {S1 : ux_S} {r : Int64} (q : Nat) (As : List Value) (hdg : decode cc pc = .ok (.invokestatic idx, 3)) (F : ux_FS own idx y ccy nLy rty n) (hM : ux_M l G y ccy nLy rty dy As S (some (.long r)) S1) (hd : dy + 1 ≤ d) (hn : As.length = n) (hst : st = As.reverse ++ rest) (hcat : (rest.map fun v => v.category).sum ≤ 8) (hq : pc + 3 = q) (kk : ux_At l G own cc nL rt d rv Z q lv (.long r :: rest) S1) : ux_At l G own cc nL rt d rv Z pc lv st S := by
  subst hq
  intro p e s m args below meth c X ls hl H locs hU
  refine ux_run (A0 := ux_A G) (ux_runS ⟨X.1, X.2.1, X.2.2.1, X.2.2.2.1, X.2.2.2.2.1⟩ hM F ⟨hd, Nat.mul_le_mul_left 40 hd, Nat.zero_le _, Nat.zero_le _⟩ X.2.2.2.2.2.2.2 hU.1 hn hl.1 hst hcat hdg) (fun _ h => h) hU.2 (fun H1 locs1 hP1 hS1 => ?_)
  exact kk p e s m args below meth c X ls hl H1 locs1 ⟨hP1, hS1⟩
theorem ax_callNl {host : String} {y : MethodName} {ccy : ByteArray} {nLy n dy idx : Nat} {rty : Option FieldType} {st : List Value} {S1 : ux_S} {r : Int64} (q : Nat) (As : List Value) (hdg : decode cc pc = .ok (.invokestatic idx, 3)) (F : ux_FN y ccy nLy rty n) (hN : ∀ s : State, ux_K G s → va_Nw (.methodLinkNest own idx y host) s) (hM : ux_M l G y ccy nLy rty dy As S (some (.long r)) S1) (hd : dy + 1 ≤ d) (hn : As.length = n) (hst : st = As.reverse ++ rest) (hcat : (rest.map fun v => v.category).sum ≤ 8) (hq : pc + 3 = q) (kk : ux_At l G own cc nL rt d rv Z q lv (.long r :: rest) S1) : ux_At l G own cc nL rt d rv Z pc lv st S := by
  subst hq
  intro p e s m args below meth c X ls hl H locs hU
  refine ux_run (A0 := ux_A G) (ux_runN ⟨X.1, X.2.1, X.2.2.1, X.2.2.2.1, X.2.2.2.2.1⟩ hM F (hN s X.2.2.2.2.2.2.2) ⟨hd, Nat.mul_le_mul_left 40 hd, Nat.zero_le _, Nat.zero_le _⟩ X.2.2.2.2.2.2.2 hU.1 hn hl.1 hst hcat hdg) (fun _ h => h) hU.2 (fun H1 locs1 hP1 hS1 => ?_)
  exact kk p e s m args below meth c X ls hl H1 locs1 ⟨hP1, hS1⟩
theorem ax_callVv {C : String} {y : MethodName} {ccy : ByteArray} {nLy n dy idx i ci N : Nat} {T : u_T} {rty : Option FieldType} {st : List Value} {S1 : ux_S}  (q : Nat) (As : List Value) (hdg : decode cc pc = .ok (.invokevirtual idx, 3)) (F : ux_FV own idx C y ccy nLy rty n) (hM : ux_M l G y ccy nLy rty dy (.ref (ux_a G i) :: As) S none S1) (hi : i < 79) (hk : ux_k i = (5, ci)) (hc : ux_cl[ci]? = some (C, T, N)) (hd : dy + 1 ≤ d) (hn : As.length = n) (hst : st = As.reverse ++ .ref (ux_a G i) :: rest) (hcat : (rest.map fun v => v.category).sum ≤ 8) (hq : pc + 3 = q) (kk : ux_At l G own cc nL rt d rv Z q lv rest S1) : ux_At l G own cc nL rt d rv Z pc lv st S := by
  subst hq
  intro p e s m args below meth c X ls hl H locs hU
  refine ux_run (A0 := ux_A G) (ux_runV ⟨X.1, X.2.1, X.2.2.1, X.2.2.2.1, X.2.2.2.2.1⟩ hM F ⟨hd, Nat.mul_le_mul_left 40 hd, Nat.zero_le _, Nat.zero_le _⟩ X.2.2.2.2.2.2.2 hU.1 hi hk hc hn hl.1 hst hcat hdg) (fun _ h => h) hU.2 (fun H1 locs1 hP1 hS1 => ?_)
  exact kk p e s m args below meth c X ls hl H1 locs1 ⟨hP1, hS1⟩
theorem ax_callSv {y : MethodName} {ccy : ByteArray} {nLy n dy idx : Nat} {rty : Option FieldType} {st : List Value} {S1 : ux_S}  (q : Nat) (As : List Value) (hdg : decode cc pc = .ok (.invokestatic idx, 3)) (F : ux_FS own idx y ccy nLy rty n) (hM : ux_M l G y ccy nLy rty dy As S none S1) (hd : dy + 1 ≤ d) (hn : As.length = n) (hst : st = As.reverse ++ rest) (hcat : (rest.map fun v => v.category).sum ≤ 8) (hq : pc + 3 = q) (kk : ux_At l G own cc nL rt d rv Z q lv rest S1) : ux_At l G own cc nL rt d rv Z pc lv st S := by
  subst hq
  intro p e s m args below meth c X ls hl H locs hU
  refine ux_run (A0 := ux_A G) (ux_runS ⟨X.1, X.2.1, X.2.2.1, X.2.2.2.1, X.2.2.2.2.1⟩ hM F ⟨hd, Nat.mul_le_mul_left 40 hd, Nat.zero_le _, Nat.zero_le _⟩ X.2.2.2.2.2.2.2 hU.1 hn hl.1 hst hcat hdg) (fun _ h => h) hU.2 (fun H1 locs1 hP1 hS1 => ?_)
  exact kk p e s m args below meth c X ls hl H1 locs1 ⟨hP1, hS1⟩
theorem ax_callNv {host : String} {y : MethodName} {ccy : ByteArray} {nLy n dy idx : Nat} {rty : Option FieldType} {st : List Value} {S1 : ux_S}  (q : Nat) (As : List Value) (hdg : decode cc pc = .ok (.invokestatic idx, 3)) (F : ux_FN y ccy nLy rty n) (hN : ∀ s : State, ux_K G s → va_Nw (.methodLinkNest own idx y host) s) (hM : ux_M l G y ccy nLy rty dy As S none S1) (hd : dy + 1 ≤ d) (hn : As.length = n) (hst : st = As.reverse ++ rest) (hcat : (rest.map fun v => v.category).sum ≤ 8) (hq : pc + 3 = q) (kk : ux_At l G own cc nL rt d rv Z q lv rest S1) : ux_At l G own cc nL rt d rv Z pc lv st S := by
  subst hq
  intro p e s m args below meth c X ls hl H locs hU
  refine ux_run (A0 := ux_A G) (ux_runN ⟨X.1, X.2.1, X.2.2.1, X.2.2.2.1, X.2.2.2.2.1⟩ hM F (hN s X.2.2.2.2.2.2.2) ⟨hd, Nat.mul_le_mul_left 40 hd, Nat.zero_le _, Nat.zero_le _⟩ X.2.2.2.2.2.2.2 hU.1 hn hl.1 hst hcat hdg) (fun _ h => h) hU.2 (fun H1 locs1 hP1 hS1 => ?_)
  exact kk p e s m args below meth c X ls hl H1 locs1 ⟨hP1, hS1⟩
end UXR
section UXT
variable {l : Launch} {G : ux_G} {own : String} {cc : ByteArray} {nL : Nat} {d : Nat} {Z : ux_S} {pc : Nat} {lv : List (Nat × Value)} {S : ux_S}
theorem ax_iret {v r : Int32} (hdg : decode cc pc = .ok (.ireturn, 1)) (hf : some (v, S) = some (r, Z)) : ux_At l G own cc nL (some .int) d (some (.int r)) Z pc lv [.int v] S := by
  cases hf
  intro p e s m args below meth c X ls hl H locs hU
  exact W.iret (v := v) X.1 X.2.1 X.2.2.2.2.2.1 (fun t ht hW => ⟨rfl, by rw [ht]; exact hU.1, hU.2.F ht⟩) hU.2.2.2 hdg X.2.2.2.2.2.2.1
theorem ax_zret {v r : Int32} (hdg : decode cc pc = .ok (.ireturn, 1)) (hn : narrow .boolean (.int v) = .int v) (hf : some (v, S) = some (r, Z)) : ux_At l G own cc nL (some .boolean) d (some (.int r)) Z pc lv [.int v] S := by
  cases hf
  intro p e s m args below meth c X ls hl H locs hU
  exact W.zret (v := v) (ty := .boolean) X.1 X.2.1 X.2.2.2.2.2.1 hn (fun t ht hW => ⟨rfl, by rw [ht]; exact hU.1, hU.2.F ht⟩) hU.2.2.2 hdg X.2.2.2.2.2.2.1
theorem ax_lret {v r : Int64} (hdg : decode cc pc = .ok (.lreturn, 1)) (hf : some (v, S) = some (r, Z)) : ux_At l G own cc nL (some .long) d (some (.long r)) Z pc lv [.long v] S := by
  cases hf
  intro p e s m args below meth c X ls hl H locs hU
  exact W.lret (v := v) X.1 X.2.1 X.2.2.2.2.2.1 (fun t ht hW => ⟨rfl, by rw [ht]; exact hU.1, hU.2.F ht⟩) hU.2.2.2 hdg X.2.2.2.2.2.2.1
theorem ax_vret (hdg : decode cc pc = .ok (.return_, 1)) (hf : some S = some Z) : ux_At l G own cc nL none d none Z pc lv [] S := by
  cases hf
  intro p e s m args below meth c X ls hl H locs hU
  exact W.vret X.1 X.2.1 X.2.2.2.2.2.1 (fun t ht hW => ⟨rfl, by rw [ht]; exact hU.1, hU.2.F ht⟩) hU.2.2.2 hdg X.2.2.2.2.2.2.1
end UXT
/-! answers as Options: guards, calls, loops -/
def ux_gd {α : Type} (b : Bool) (x : Option α) : Option α := match b with
  | true => x
  | false => none
theorem ux_gd_e {α : Type} {b : Bool} {x : Option α} {y : α} (h : ux_gd b x = some y) : b = true ∧ x = some y := by
  cases b
  · cases h
  · exact ⟨rfl, h⟩
def ux_bi {α β : Type} (o : Option (β × ux_S)) (k : β → ux_S → Option α) : Option α := match o with
  | some (r, S) => k r S
  | none => none
theorem ux_bi_e {α β : Type} {o : Option (β × ux_S)} {k : β → ux_S → Option α} {y : α} (h : ux_bi o k = some y) : ∃ r S, o = some (r, S) ∧ k r S = some y := by
  cases o with
  | none => cases h
  | some x => exact ⟨x.1, x.2, rfl, h⟩
def ux_bv {α : Type} (o : Option ux_S) (k : ux_S → Option α) : Option α := match o with
  | some S => k S
  | none => none
theorem ux_bv_e {α : Type} {o : Option ux_S} {k : ux_S → Option α} {y : α} (h : ux_bv o k = some y) : ∃ S, o = some S ∧ k S = some y := by
  cases o with
  | none => cases h
  | some x => exact ⟨x, rfl, h⟩
theorem ux_ift {α : Type} {c : Prop} [Decidable c] {a b x : α} (h : c) (hf : (if c then a else b) = x) : a = x := by rw [if_pos h] at hf; exact hf
theorem ux_iff {α : Type} {c : Prop} [Decidable c] {a b x : α} (h : ¬ c) (hf : (if c then a else b) = x) : b = x := by rw [if_neg h] at hf; exact hf

def ux_lp0 {α : Type} (b : (ux_S → Option α) → ux_S → Option α) : Nat → ux_S → Option α
  | 0 => fun _ => none
  | t + 1 => fun  S => b (ux_lp0 b t)  S
theorem ux_lp0_w {α : Type} {b : (ux_S → Option α) → ux_S → Option α} {y : α} {Pr : ux_S → Prop} (h : ∀ k : ux_S → Option α, (∀ (S : ux_S), k  S = some y → Pr  S) → ∀ (S : ux_S), b k  S = some y → Pr  S) : ∀ (t : Nat) (S : ux_S), ux_lp0 b t  S = some y → Pr  S := by
  intro t
  induction t with
  | zero => intro  S h0; cases h0
  | succ t ih => intro  S h0; exact h _ ih  S h0
def ux_lp1 {α : Type} (b : (Int32 → ux_S → Option α) → Int32 → ux_S → Option α) : Nat → Int32 → ux_S → Option α
  | 0 => fun _ _ => none
  | t + 1 => fun x0 S => b (ux_lp1 b t) x0 S
theorem ux_lp1_w {α : Type} {b : (Int32 → ux_S → Option α) → Int32 → ux_S → Option α} {y : α} {Pr : Int32 → ux_S → Prop} (h : ∀ k : Int32 → ux_S → Option α, (∀ (x0 : Int32) (S : ux_S), k x0 S = some y → Pr x0 S) → ∀ (x0 : Int32) (S : ux_S), b k x0 S = some y → Pr x0 S) : ∀ (t : Nat) (x0 : Int32) (S : ux_S), ux_lp1 b t x0 S = some y → Pr x0 S := by
  intro t
  induction t with
  | zero => intro x0 S h0; cases h0
  | succ t ih => intro x0 S h0; exact h _ ih x0 S h0
def ux_lp2 {α : Type} (b : (Int32 → Int32 → ux_S → Option α) → Int32 → Int32 → ux_S → Option α) : Nat → Int32 → Int32 → ux_S → Option α
  | 0 => fun _ _ _ => none
  | t + 1 => fun x0 x1 S => b (ux_lp2 b t) x0 x1 S
theorem ux_lp2_w {α : Type} {b : (Int32 → Int32 → ux_S → Option α) → Int32 → Int32 → ux_S → Option α} {y : α} {Pr : Int32 → Int32 → ux_S → Prop} (h : ∀ k : Int32 → Int32 → ux_S → Option α, (∀ (x0 x1 : Int32) (S : ux_S), k x0 x1 S = some y → Pr x0 x1 S) → ∀ (x0 x1 : Int32) (S : ux_S), b k x0 x1 S = some y → Pr x0 x1 S) : ∀ (t : Nat) (x0 x1 : Int32) (S : ux_S), ux_lp2 b t x0 x1 S = some y → Pr x0 x1 S := by
  intro t
  induction t with
  | zero => intro x0 x1 S h0; cases h0
  | succ t ih => intro x0 x1 S h0; exact h _ ih x0 x1 S h0
def ux_lp3 {α : Type} (b : (Int32 → Int32 → Int32 → ux_S → Option α) → Int32 → Int32 → Int32 → ux_S → Option α) : Nat → Int32 → Int32 → Int32 → ux_S → Option α
  | 0 => fun _ _ _ _ => none
  | t + 1 => fun x0 x1 x2 S => b (ux_lp3 b t) x0 x1 x2 S
theorem ux_lp3_w {α : Type} {b : (Int32 → Int32 → Int32 → ux_S → Option α) → Int32 → Int32 → Int32 → ux_S → Option α} {y : α} {Pr : Int32 → Int32 → Int32 → ux_S → Prop} (h : ∀ k : Int32 → Int32 → Int32 → ux_S → Option α, (∀ (x0 x1 x2 : Int32) (S : ux_S), k x0 x1 x2 S = some y → Pr x0 x1 x2 S) → ∀ (x0 x1 x2 : Int32) (S : ux_S), b k x0 x1 x2 S = some y → Pr x0 x1 x2 S) : ∀ (t : Nat) (x0 x1 x2 : Int32) (S : ux_S), ux_lp3 b t x0 x1 x2 S = some y → Pr x0 x1 x2 S := by
  intro t
  induction t with
  | zero => intro x0 x1 x2 S h0; cases h0
  | succ t ih => intro x0 x1 x2 S h0; exact h _ ih x0 x1 x2 S h0
def ux_lp4 {α : Type} (b : (Int32 → Int32 → Int32 → Int32 → ux_S → Option α) → Int32 → Int32 → Int32 → Int32 → ux_S → Option α) : Nat → Int32 → Int32 → Int32 → Int32 → ux_S → Option α
  | 0 => fun _ _ _ _ _ => none
  | t + 1 => fun x0 x1 x2 x3 S => b (ux_lp4 b t) x0 x1 x2 x3 S
theorem ux_lp4_w {α : Type} {b : (Int32 → Int32 → Int32 → Int32 → ux_S → Option α) → Int32 → Int32 → Int32 → Int32 → ux_S → Option α} {y : α} {Pr : Int32 → Int32 → Int32 → Int32 → ux_S → Prop} (h : ∀ k : Int32 → Int32 → Int32 → Int32 → ux_S → Option α, (∀ (x0 x1 x2 x3 : Int32) (S : ux_S), k x0 x1 x2 x3 S = some y → Pr x0 x1 x2 x3 S) → ∀ (x0 x1 x2 x3 : Int32) (S : ux_S), b k x0 x1 x2 x3 S = some y → Pr x0 x1 x2 x3 S) : ∀ (t : Nat) (x0 x1 x2 x3 : Int32) (S : ux_S), ux_lp4 b t x0 x1 x2 x3 S = some y → Pr x0 x1 x2 x3 S := by
  intro t
  induction t with
  | zero => intro x0 x1 x2 x3 S h0; cases h0
  | succ t ih => intro x0 x1 x2 x3 S h0; exact h _ ih x0 x1 x2 x3 S h0
def ux_lp5 {α : Type} (b : (Int32 → Int32 → Int32 → Int32 → Int32 → ux_S → Option α) → Int32 → Int32 → Int32 → Int32 → Int32 → ux_S → Option α) : Nat → Int32 → Int32 → Int32 → Int32 → Int32 → ux_S → Option α
  | 0 => fun _ _ _ _ _ _ => none
  | t + 1 => fun x0 x1 x2 x3 x4 S => b (ux_lp5 b t) x0 x1 x2 x3 x4 S
theorem ux_lp5_w {α : Type} {b : (Int32 → Int32 → Int32 → Int32 → Int32 → ux_S → Option α) → Int32 → Int32 → Int32 → Int32 → Int32 → ux_S → Option α} {y : α} {Pr : Int32 → Int32 → Int32 → Int32 → Int32 → ux_S → Prop} (h : ∀ k : Int32 → Int32 → Int32 → Int32 → Int32 → ux_S → Option α, (∀ (x0 x1 x2 x3 x4 : Int32) (S : ux_S), k x0 x1 x2 x3 x4 S = some y → Pr x0 x1 x2 x3 x4 S) → ∀ (x0 x1 x2 x3 x4 : Int32) (S : ux_S), b k x0 x1 x2 x3 x4 S = some y → Pr x0 x1 x2 x3 x4 S) : ∀ (t : Nat) (x0 x1 x2 x3 x4 : Int32) (S : ux_S), ux_lp5 b t x0 x1 x2 x3 x4 S = some y → Pr x0 x1 x2 x3 x4 S := by
  intro t
  induction t with
  | zero => intro x0 x1 x2 x3 x4 S h0; cases h0
  | succ t ih => intro x0 x1 x2 x3 x4 S h0; exact h _ ih x0 x1 x2 x3 x4 S h0
def ux_lp6 {α : Type} (b : (Int32 → Int32 → Int32 → Int32 → Int32 → Int32 → ux_S → Option α) → Int32 → Int32 → Int32 → Int32 → Int32 → Int32 → ux_S → Option α) : Nat → Int32 → Int32 → Int32 → Int32 → Int32 → Int32 → ux_S → Option α
  | 0 => fun _ _ _ _ _ _ _ => none
  | t + 1 => fun x0 x1 x2 x3 x4 x5 S => b (ux_lp6 b t) x0 x1 x2 x3 x4 x5 S
theorem ux_lp6_w {α : Type} {b : (Int32 → Int32 → Int32 → Int32 → Int32 → Int32 → ux_S → Option α) → Int32 → Int32 → Int32 → Int32 → Int32 → Int32 → ux_S → Option α} {y : α} {Pr : Int32 → Int32 → Int32 → Int32 → Int32 → Int32 → ux_S → Prop} (h : ∀ k : Int32 → Int32 → Int32 → Int32 → Int32 → Int32 → ux_S → Option α, (∀ (x0 x1 x2 x3 x4 x5 : Int32) (S : ux_S), k x0 x1 x2 x3 x4 x5 S = some y → Pr x0 x1 x2 x3 x4 x5 S) → ∀ (x0 x1 x2 x3 x4 x5 : Int32) (S : ux_S), b k x0 x1 x2 x3 x4 x5 S = some y → Pr x0 x1 x2 x3 x4 x5 S) : ∀ (t : Nat) (x0 x1 x2 x3 x4 x5 : Int32) (S : ux_S), ux_lp6 b t x0 x1 x2 x3 x4 x5 S = some y → Pr x0 x1 x2 x3 x4 x5 S := by
  intro t
  induction t with
  | zero => intro x0 x1 x2 x3 x4 x5 S h0; cases h0
  | succ t ih => intro x0 x1 x2 x3 x4 x5 S h0; exact h _ ih x0 x1 x2 x3 x4 x5 S h0
def ux_lp7 {α : Type} (b : (Int32 → Int32 → Int32 → Int32 → Int32 → Int32 → Int32 → ux_S → Option α) → Int32 → Int32 → Int32 → Int32 → Int32 → Int32 → Int32 → ux_S → Option α) : Nat → Int32 → Int32 → Int32 → Int32 → Int32 → Int32 → Int32 → ux_S → Option α
  | 0 => fun _ _ _ _ _ _ _ _ => none
  | t + 1 => fun x0 x1 x2 x3 x4 x5 x6 S => b (ux_lp7 b t) x0 x1 x2 x3 x4 x5 x6 S
theorem ux_lp7_w {α : Type} {b : (Int32 → Int32 → Int32 → Int32 → Int32 → Int32 → Int32 → ux_S → Option α) → Int32 → Int32 → Int32 → Int32 → Int32 → Int32 → Int32 → ux_S → Option α} {y : α} {Pr : Int32 → Int32 → Int32 → Int32 → Int32 → Int32 → Int32 → ux_S → Prop} (h : ∀ k : Int32 → Int32 → Int32 → Int32 → Int32 → Int32 → Int32 → ux_S → Option α, (∀ (x0 x1 x2 x3 x4 x5 x6 : Int32) (S : ux_S), k x0 x1 x2 x3 x4 x5 x6 S = some y → Pr x0 x1 x2 x3 x4 x5 x6 S) → ∀ (x0 x1 x2 x3 x4 x5 x6 : Int32) (S : ux_S), b k x0 x1 x2 x3 x4 x5 x6 S = some y → Pr x0 x1 x2 x3 x4 x5 x6 S) : ∀ (t : Nat) (x0 x1 x2 x3 x4 x5 x6 : Int32) (S : ux_S), ux_lp7 b t x0 x1 x2 x3 x4 x5 x6 S = some y → Pr x0 x1 x2 x3 x4 x5 x6 S := by
  intro t
  induction t with
  | zero => intro x0 x1 x2 x3 x4 x5 x6 S h0; cases h0
  | succ t ih => intro x0 x1 x2 x3 x4 x5 x6 S h0; exact h _ ih x0 x1 x2 x3 x4 x5 x6 S h0
def ux_lp8 {α : Type} (b : (Int32 → Int32 → Int32 → Int32 → Int32 → Int32 → Int32 → Int32 → ux_S → Option α) → Int32 → Int32 → Int32 → Int32 → Int32 → Int32 → Int32 → Int32 → ux_S → Option α) : Nat → Int32 → Int32 → Int32 → Int32 → Int32 → Int32 → Int32 → Int32 → ux_S → Option α
  | 0 => fun _ _ _ _ _ _ _ _ _ => none
  | t + 1 => fun x0 x1 x2 x3 x4 x5 x6 x7 S => b (ux_lp8 b t) x0 x1 x2 x3 x4 x5 x6 x7 S
theorem ux_lp8_w {α : Type} {b : (Int32 → Int32 → Int32 → Int32 → Int32 → Int32 → Int32 → Int32 → ux_S → Option α) → Int32 → Int32 → Int32 → Int32 → Int32 → Int32 → Int32 → Int32 → ux_S → Option α} {y : α} {Pr : Int32 → Int32 → Int32 → Int32 → Int32 → Int32 → Int32 → Int32 → ux_S → Prop} (h : ∀ k : Int32 → Int32 → Int32 → Int32 → Int32 → Int32 → Int32 → Int32 → ux_S → Option α, (∀ (x0 x1 x2 x3 x4 x5 x6 x7 : Int32) (S : ux_S), k x0 x1 x2 x3 x4 x5 x6 x7 S = some y → Pr x0 x1 x2 x3 x4 x5 x6 x7 S) → ∀ (x0 x1 x2 x3 x4 x5 x6 x7 : Int32) (S : ux_S), b k x0 x1 x2 x3 x4 x5 x6 x7 S = some y → Pr x0 x1 x2 x3 x4 x5 x6 x7 S) : ∀ (t : Nat) (x0 x1 x2 x3 x4 x5 x6 x7 : Int32) (S : ux_S), ux_lp8 b t x0 x1 x2 x3 x4 x5 x6 x7 S = some y → Pr x0 x1 x2 x3 x4 x5 x6 x7 S := by
  intro t
  induction t with
  | zero => intro x0 x1 x2 x3 x4 x5 x6 x7 S h0; cases h0
  | succ t ih => intro x0 x1 x2 x3 x4 x5 x6 x7 S h0; exact h _ ih x0 x1 x2 x3 x4 x5 x6 x7 S h0
