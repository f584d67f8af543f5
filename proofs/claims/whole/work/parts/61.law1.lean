/-! THE CLAIM OUT OF ONE WALK OF THE LAW'S BODY. Your part is whole_start (and what it stands on); all else here is the same for every law, but numbers. -/
def R_law : String := "ColdRowsLaw"
def lw_P (b : Addr) (xs : List Int32) (args : Array Value) (s : State) : Prop := args = #[.ref b] ∧ s.IntsAt b xs ∧ xs.length ≤ 2560 ∧ (Jvm.Cond.and given_1 narrow_1).before args s = true
def lw_Q (_ : Array Value) (s : State) (o : Outcome) (t : State) : Prop := o = .returned (some (.int 1)) ∧ Framed s o t [] 600000 7302250
def lw_Z (below : List Frame) (a : Array Value) (s : State) : State → Prop := fun t => ∃ o, t.status = .running ∧ Ended t below o ∧ lw_Q a s o t
/-- the law's own end, with 1 on the stack, nothing written that was there before, its room as the claim has it -/
theorem lw_ret {p : Program} {l : Launch} {e : Env} {s : State} {m : MethodId} {below : List Frame} {meth : Method} {c : Code} {b : Nat} (hx : p.tables.exec = Jvm.exec) (hb : c.code = code) (hr : meth.sig.returnType = ret) (hlocks : meth.locks = false) {pc : Nat} {H : Heap} {ls : Array Slot} (hdg : decode code pc = .ok (.ireturn, 1)) : W p l e room_1 s m #[Value.ref b] below meth c H [] 600000 7302250 (lw_Z below #[Value.ref b] s) (F0 m pc ls [.int 1]) := by
  intro T hT X
  obtain ⟨fs, hret, hrun, hended, hW, hframe⟩ := X.leave (v := some (.int 1)) (hlocks := hlocks) (fun h => by rw [hr] at h; cases h)
  have hmeth' : T.vm.method? m = some meth := X.method'
  refine ⟨T.setFrames fs, ?_, .returned (some (.int 1)), hrun, hended, rfl, ⟨_, rfl⟩, hW, hframe⟩
  jvm_step X.here [X.here.top, hx, hb, hdg, hmeth', hr, ret, narrow_b1]
  (try refine ⟨rfl, ?_⟩); (try refine ⟨rfl, ?_⟩)
  first | (intro acts; rw [hret _ acts rfl rfl rfl]) | rw [hret _ _ rfl rfl rfl]
  exact Steps.refl _
/-- what holds at the law's entry: the machine, the code, the tables' words (any of lw_tbl by 'hts w (by decide +kernel)'), the script of L ints xs at the cell b, what the Statement gives of the start (any of its parts by flat_of_before) -/
def lw_At (p : Program) (s : State) (m : MethodId) (meth : Method) (c : Code) (b L : Nat) (xs : Nat → Int32) : Prop :=
  p.tables.exec = Jvm.exec ∧ c.code = code ∧ meth.sig.returnType = ret ∧ c.maxLocals = 4 ∧ s.vm.findClass R_law = some m.cls ∧ (∀ w ∈ lw_tbl, w.before #[Value.ref b] s = true) ∧ va_X b L xs s s.heap ∧ b < s.heap.size ∧ meth.locks = false ∧ (Jvm.Cond.and given_1 narrow_1).before #[Value.ref b] s = true
/-! inside the law -/
def lx_X (p : Program) (s : State) (m : MethodId) (meth : Method) (c : Code) (G : ux_G) (b L : Nat) (xs : Nat → Int32) : Prop := lw_At p s m meth c b L xs ∧ ux_K G s ∧ ∀ i, i < 79 → s.heap.size ≤ ux_a G i
def lx_lv (b : Nat) (G : ux_G) (i : Nat) : List (Nat × Value) := [(0, .ref b), (1, .ref (ux_a G 0)), (2, .ref (ux_a G 8)), (3, .int (nI i))]
def lx_At (l : Launch) (G : ux_G) (b L : Nat) (xs : Nat → Int32) (pc i : Nat) (st : List Value) (S : ux_S) : Prop :=
  ∀ (p : Program) (e : Env) (s : State) (m : MethodId) (below : List Frame) (meth : Method) (c : Code), lx_X p s m meth c G b L xs → ∀ (ls : Array Slot), lv_has ls 4 (lx_lv b G i) → ∀ (H : Heap) (locs : List Loc), va_P (ux_D G) ux_cl (ux_w G S) H → va_S (fun q : Nat => s.heap.size ≤ q) s.heap H locs → W p l e room_1 s m #[Value.ref b] below meth c H locs 79 1243 (lw_Z below #[Value.ref b] s) (F0 m pc ls st)
section LXR
variable {l : Launch} {G : ux_G} {b L : Nat} {xs : Nat → Int32} {pc i : Nat} {rest : List Value} {S : ux_S}
theorem lx_obj {k0 : Fin 4} {k : Nat} {a : Nat} (q : Nat) (hdg : decode cL_law pc = .ok (.aload_n k0, 1)) (hi : (k0 : Nat) = k) (j : Nat) (hj : (lx_lv b G i)[j]? = some (k, .ref a)) (hq : pc + 1 = q) (kk : lx_At l G b L xs q i (.ref a :: rest) S) : lx_At l G b L xs pc i rest S := by
  subst hq
  exact fun p e s m below meth c X ls hl H locs hP hS => lv_aload_n X.1.1 X.1.2.1 hdg hi (lv_at hl j hj) (kk p e s m below meth c X ls hl H locs hP hS)
theorem lx_arg {k : Nat} {n : Int} (q : Nat) (h0 : decode cL_law pc = .ok (.aload_n 0, 1)) (h1 : decode cL_law (pc + 1) = .ok (.iload_n 3, 1)) (h2 : decode cL_law (pc + 1 + 1) = .ok (.iconst n, 1)) (h3 : decode cL_law (pc + 1 + 1 + 1) = .ok (.iadd, 1)) (h4 : decode cL_law (pc + 1 + 1 + 1 + 1) = .ok (.iaload, 1)) (hk : Int32.ofInt n = nI k) (hL : L ≤ 2560) (hik : i + k < L) (hq : pc + 5 = q) (kk : lx_At l G b L xs q i (.int (xs (i + k)) :: rest) S) : lx_At l G b L xs pc i rest S := by
  subst hq
  intro p e s m below meth c X ls hl H locs hP hS
  refine lv_aload_n X.1.1 X.1.2.1 h0 rfl (lv_at hl 0 rfl) ?_
  refine lv_iload_n X.1.1 X.1.2.1 h1 rfl (lv_at hl 3 rfl) ?_
  refine lv_iconst X.1.1 X.1.2.1 h2 hk ?_
  refine lv_iadd X.1.1 X.1.2.1 h3 ?_
  rw [nI_add]
  refine va_sld (A := fun q : Nat => s.heap.size ≤ q) X.1.1 X.1.2.1 X.1.2.2.2.2.2.2.1 X.1.2.2.2.2.2.2.2.1 (Nat.not_le.mpr X.1.2.2.2.2.2.2.2.1) hS (nI_in hik (by omega)) h4 ?_
  rw [nI_clamp (by omega)]
  exact kk p e s m below meth c X ls hl H locs hP hS
theorem lx_call {C : String} {y : MethodName} {ccy : ByteArray} {nLy n dy idx k ci N : Nat} {T : u_T} {rty : Option FieldType} {st : List Value} {S1 : ux_S} {r : Int32} (q : Nat) (As : List Value) (hdg : decode cL_law pc = .ok (.invokevirtual idx, 3)) (F : ux_FV RL idx C y ccy nLy rty n) (hM : ux_M l G y ccy nLy rty dy (.ref (ux_a G k) :: As) S (some (.int r)) S1) (hi : k < 79) (hk : ux_k k = (5, ci)) (hc : ux_cl[ci]? = some (C, T, N)) (hd : dy ≤ 100) (hn : As.length = n) (hst : st = As.reverse ++ .ref (ux_a G k) :: rest) (hcat : (rest.map fun v => v.category).sum ≤ 8) (hq : pc + 3 = q) (kk : lx_At l G b L xs q i (.int r :: rest) S1) : lx_At l G b L xs pc i st S := by
  subst hq
  intro p e s m below meth c X ls hl H locs hP hS
  refine ux_run (A0 := fun q : Nat => s.heap.size ≤ q) (ux_runV ⟨X.1.1, X.1.2.1, X.1.2.2.2.1, X.1.2.2.2.2.1, fun w hw => X.1.2.2.2.2.2.1 w (List.mem_filter.mp hw).1⟩ hM F ⟨by show dy + 1 ≤ 2048; omega, by show 40 * (dy + 1) ≤ 84000; omega, by show 79 ≤ 600000; omega, by show 1243 ≤ 7302250; omega⟩ X.2.1 hP hi hk hc hn hl.1 hst hcat hdg) (fun q h => by
    obtain ⟨k, hk, rfl⟩ := h
    exact X.2.2 k hk) hS (fun H1 locs1 hP1 hS1 => kk p e s m below meth c X ls hl H1 locs1 hP1 hS1)
theorem lx_same {x : Int32} {off : Int} (tgt : Nat) (hdg : decode cL_law pc = .ok (.if_icmp .eq off, 3)) (ht : (pc : Int) + off = (tgt : Int)) (kk : lx_At l G b L xs tgt i rest S) : lx_At l G b L xs pc i (.int x :: .int x :: rest) S := fun p e s m below meth c X ls hl H locs hP hS => lv_icmp_eq X.1.1 X.1.2.1 hdg ht (fun _ => kk p e s m below meth c X ls hl H locs hP hS) (fun h => absurd rfl h)
theorem lx_i2l {x : Int32} (q : Nat) (hdg : decode cL_law pc = .ok (.i2l, 1)) (hq : pc + 1 = q) (kk : lx_At l G b L xs q i (.long x.toInt64 :: rest) S) : lx_At l G b L xs pc i (.int x :: rest) S := by
  subst hq
  exact fun p e s m below meth c X ls hl H locs hP hS => lv_i2l X.1.1 X.1.2.1 hdg rfl (kk p e s m below meth c X ls hl H locs hP hS)
theorem lx_bipush {n : Int} {v : Int32} (q : Nat) (hdg : decode cL_law pc = .ok (.bipush n, 2)) (hv : (Int8.ofInt n).toInt32 = v) (hq : pc + 2 = q) (kk : lx_At l G b L xs q i (.int v :: rest) S) : lx_At l G b L xs pc i rest S := by
  subst hq
  exact fun p e s m below meth c X ls hl H locs hP hS => lv_bipush X.1.1 X.1.2.1 hdg hv (kk p e s m below meth c X ls hl H locs hP hS)
theorem lx_iconst {n : Int} {v : Int32} (q : Nat) (hdg : decode cL_law pc = .ok (.iconst n, 1)) (hv : Int32.ofInt n = v) (hq : pc + 1 = q) (kk : lx_At l G b L xs q i (.int v :: rest) S) : lx_At l G b L xs pc i rest S := by
  subst hq
  exact fun p e s m below meth c X ls hl H locs hP hS => lv_iconst X.1.1 X.1.2.1 hdg hv (kk p e s m below meth c X ls hl H locs hP hS)
theorem lx_lshl {x : Int64} {y : Int32} (q : Nat) (hdg : decode cL_law pc = .ok (.lshl, 1)) (hq : pc + 1 = q) (kk : lx_At l G b L xs q i (.long (x <<< (y.toInt64 &&& 63)) :: rest) S) : lx_At l G b L xs pc i (.int y :: .long x :: rest) S := by
  subst hq
  exact fun p e s m below meth c X ls hl H locs hP hS => lv_lshl X.1.1 X.1.2.1 hdg rfl (kk p e s m below meth c X ls hl H locs hP hS)
theorem lx_ldc2 {idx : Nat} {v : Int64} (q : Nat) (hdg : decode cL_law pc = .ok (.ldc2_w idx, 3)) (hc : Cond.constantLong RL idx v ∈ ux_WA) (hq : pc + 3 = q) (kk : lx_At l G b L xs q i (.long v :: rest) S) : lx_At l G b L xs pc i rest S := by
  subst hq
  exact fun p e s m below meth c X ls hl H locs hP hS => lv_ldc2 (own := RL) X.1.1 X.1.2.1 X.1.2.2.2.2.1 (X.1.2.2.2.2.2.1 _ (List.mem_filter.mp hc).1) hdg (kk p e s m below meth c X ls hl H locs hP hS)
theorem lx_land {x y : Int64} (q : Nat) (hdg : decode cL_law pc = .ok (.land, 1)) (hq : pc + 1 = q) (kk : lx_At l G b L xs q i (.long (x &&& y) :: rest) S) : lx_At l G b L xs pc i (.long y :: .long x :: rest) S := by
  subst hq
  exact fun p e s m below meth c X ls hl H locs hP hS => lv_land X.1.1 X.1.2.1 hdg (kk p e s m below meth c X ls hl H locs hP hS)
theorem lx_lor {x y : Int64} (q : Nat) (hdg : decode cL_law pc = .ok (.lor, 1)) (hq : pc + 1 = q) (kk : lx_At l G b L xs q i (.long (x ||| y) :: rest) S) : lx_At l G b L xs pc i (.long y :: .long x :: rest) S := by
  subst hq
  exact fun p e s m below meth c X ls hl H locs hP hS => lv_lor X.1.1 X.1.2.1 hdg (kk p e s m below meth c X ls hl H locs hP hS)
theorem lx_ifeq {x : Int32} {off : Int} (tgt q : Nat) (hdg : decode cL_law pc = .ok (.ifCond .eq off, 3)) (ht : (pc : Int) + off = (tgt : Int)) (hq : pc + 3 = q) (kt : x = 0 → lx_At l G b L xs tgt i rest S) (kf : ¬ x = 0 → lx_At l G b L xs q i rest S) : lx_At l G b L xs pc i (.int x :: rest) S := by
  subst hq
  exact fun p e s m below meth c X ls hl H locs hP hS => lv_if_eq X.1.1 X.1.2.1 hdg ht (fun h => kt h p e s m below meth c X ls hl H locs hP hS) (fun h => kf h p e s m below meth c X ls hl H locs hP hS)
theorem lx_goto {off : Int} (tgt : Nat) (hdg : decode cL_law pc = .ok (.goto off, 3)) (ht : (pc : Int) + off = (tgt : Int)) (kk : lx_At l G b L xs tgt i rest S) : lx_At l G b L xs pc i rest S := fun p e s m below meth c X ls hl H locs hP hS => lv_goto X.1.1 X.1.2.1 hdg ht (kk p e s m below meth c X ls hl H locs hP hS)
theorem lx_end : lx_At l G b L xs 1148 i [] S := by
  intro p e s m below meth c X ls hl H locs hP hS
  refine lv_iconst (v := 1) X.1.1 X.1.2.1 dL_law_1148 rfl ?_
  refine va_forget (fun q hq => hS.2.2 q hq) ?_
  refine W.widen (k := 600000) (n := 7302250) (by decide) (by decide) ?_
  exact lw_ret X.1.1 X.1.2.1 X.1.2.2.1 X.1.2.2.2.2.2.2.2.2.1 dL_law_1149
theorem lx_next (kk : lx_At l G b L xs 18 (i + 5) [] S) : lx_At l G b L xs 1142 i [] S := by
  intro p e s m below meth c X ls hl H locs hP hS
  refine lv_iinc (k := 3) (v := nI (i + 5)) (lv' := [(3, .int (nI (i + 5))), (0, .ref b), (1, .ref (ux_a G 0)), (2, .ref (ux_a G 8))]) X.1.1 X.1.2.1 dL_law_1142 hl rfl (nI_add i 5) (by decide) rfl (fun ls' hl2 => ?_)
  refine lv_goto (tgt := 18) X.1.1 X.1.2.1 dL_law_1145 rfl ?_
  exact kk p e s m below meth c X ls' (lv_sub hl2 [1, 2, 3, 0] rfl) H locs hP hS
theorem lx_cmp {L i : Nat} (hL : L ≤ 2560) (hi : i ≤ 2570) : nI L - 5 < nI i ↔ L < i + 5 := by
  have h1 := nI_toInt (n := L) (by omega)
  have h2 := nI_toInt (n := i) (by omega)
  have h5 : (5 : Int32).toInt = 5 := by decide +kernel
  rw [fa_lt, Int32.toInt_sub, fb_bmod (by rw [h1, h5]; omega) (by rw [h1, h5]; omega), h1, h2, h5]
  omega
theorem lx_head (hL : L ≤ 2560) (hi : i ≤ 2570) (kk : i + 5 ≤ L → lx_At l G b L xs 26 i [] S) : lx_At l G b L xs 18 i [] S := by
  intro p e s m below meth c X ls hl H locs hP hS
  refine lv_iload_n X.1.1 X.1.2.1 dL_law_18 rfl (lv_at hl 3 rfl) ?_
  refine lv_aload_n X.1.1 X.1.2.1 dL_law_19 rfl (lv_at hl 0 rfl) ?_
  refine va_slen (A := fun q : Nat => s.heap.size ≤ q) X.1.1 X.1.2.1 X.1.2.2.2.2.2.2.1 X.1.2.2.2.2.2.2.2.1 (Nat.not_le.mpr X.1.2.2.2.2.2.2.2.1) hS dL_law_20 ?_
  refine lv_iconst (v := 5) X.1.1 X.1.2.1 dL_law_21 rfl ?_
  refine lv_isub X.1.1 X.1.2.1 dL_law_22 ?_
  refine lv_icmp_gt (tgt := 1148) X.1.1 X.1.2.1 dL_law_23 rfl (fun _ => ?_) (fun h => ?_)
  · exact lx_end p e s m below meth c X ls hl H locs hP hS
  · exact kk (Nat.not_lt.mp (fun h2 => h ((lx_cmp hL hi).mpr h2))) p e s m below meth c X ls hl H locs hP hS
theorem lx_switch (hL : L ≤ 2560) (hi : i + 5 ≤ L) (kd : lx_At l G b L xs 1142 i [] S) (kk : ∀ x : Int32, ¬ x.toInt < 0 → ¬ 33 < x.toInt → lx_At l G b L xs 32 i [.int x] S) : lx_At l G b L xs 26 i [] S := by
  intro p e s m below meth c X ls hl H locs hP hS
  refine lv_aload_n X.1.1 X.1.2.1 dL_law_26 rfl (lv_at hl 0 rfl) ?_
  refine lv_iload_n X.1.1 X.1.2.1 dL_law_27 rfl (lv_at hl 3 rfl) ?_
  refine va_sld (A := fun q : Nat => s.heap.size ≤ q) X.1.1 X.1.2.1 X.1.2.2.2.2.2.2.1 X.1.2.2.2.2.2.2.2.1 (Nat.not_le.mpr X.1.2.2.2.2.2.2.2.1) hS (nI_in (c := i) (by omega) (by omega)) dL_law_28 ?_
  refine lv_bipush (v := 63) X.1.1 X.1.2.1 dL_law_29 rfl ?_
  refine lv_iand X.1.1 X.1.2.1 dL_law_31 ?_
  by_cases h : ((xs (nI i).toNatClampNeg) &&& 63).toInt < 0 ∨ 33 < ((xs (nI i).toNatClampNeg) &&& 63).toInt
  · exact lv_tableOut (tgt := 1142) X.1.1 X.1.2.1 dL_law_32 h rfl (kd p e s m below meth c X ls hl H locs hP hS)
  · exact kk _ (fun q => h (Or.inl q)) (fun q => h (Or.inr q)) p e s m below meth c X ls hl H locs hP hS
theorem lx_case {x : Int32} {off : Int} (n tgt : Nat) (hx : x.toInt = (n : Int)) (hn : n < 34) (ho : (#[152, 205, 238, 281, 324, 397, 440, 473, 506, 529, 552, 585, 598, 621, 654, 667, 690, 703, 716, 749, 792, 841, 864, 887, 900, 923, 946, 959, 972, 995, 1028, 1051, 1074, 1087] : Array Int)[n]? = some off) (ht : (32 : Int) + off = (tgt : Int)) (kk : lx_At l G b L xs tgt i [] S) : lx_At l G b L xs 32 i [.int x] S := fun p e s m below meth c X ls hl H locs hP hS => lv_tableIn X.1.1 X.1.2.1 dL_law_32 (by omega) (by omega) (by rw [hx]; simpa using ho) ht (kk p e s m below meth c X ls hl H locs hP hS)
end LXR
