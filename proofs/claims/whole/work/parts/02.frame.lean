/-! the uniform world: every cell of the class and of the reference has a number; what it holds is a function of two tables -/
abbrev ux_G : Type := (Nat → ClassId) × (Nat → Nat → Nat) × (Nat → ClassId) × (Nat → Nat)
abbrev ux_S : Type := (Nat → Nat → Int32) × (Nat → Nat → Int64)
def ux_WA : List Cond := lw_tbl.filter goodWord
theorem ux_ms {w : Cond} (k : Nat) (h : (k2_sels lw_privs)[k]? = some w) (hg : goodWord w = true) : w ∈ ux_WA := List.mem_filter.mpr ⟨List.mem_append_left _ (List.mem_of_getElem? h), hg⟩
theorem ux_m1 {w : Cond} (k : Nat) (h : tables_1_1[k]? = some w) (hg : goodWord w = true) : w ∈ ux_WA := List.mem_filter.mpr ⟨List.mem_append_right _ (List.mem_append_left _ (List.mem_of_getElem? h)), hg⟩
theorem ux_m2 {w : Cond} (k : Nat) (h : tables_1_2[k]? = some w) (hg : goodWord w = true) : w ∈ ux_WA := List.mem_filter.mpr ⟨List.mem_append_right _ (List.mem_append_right _ (List.mem_append_left _ (List.mem_of_getElem? h))), hg⟩
theorem ux_m3 {w : Cond} (k : Nat) (h : tables_1_3[k]? = some w) (hg : goodWord w = true) : w ∈ ux_WA := List.mem_filter.mpr ⟨List.mem_append_right _ (List.mem_append_right _ (List.mem_append_right _ (List.mem_append_left _ (List.mem_of_getElem? h)))), hg⟩
theorem ux_m4 {w : Cond} (k : Nat) (h : tables_1_4[k]? = some w) (hg : goodWord w = true) : w ∈ ux_WA := List.mem_filter.mpr ⟨List.mem_append_right _ (List.mem_append_right _ (List.mem_append_right _ (List.mem_append_right _ (List.mem_append_left _ (List.mem_of_getElem? h))))), hg⟩
theorem ux_m5 {w : Cond} (k : Nat) (h : tables_1_5[k]? = some w) (hg : goodWord w = true) : w ∈ ux_WA := List.mem_filter.mpr ⟨List.mem_append_right _ (List.mem_append_right _ (List.mem_append_right _ (List.mem_append_right _ (List.mem_append_right _ (List.mem_of_getElem? h))))), hg⟩
abbrev ux_cl : List vw_C := [(RX0, TX0, 3), (RX1, TX1, 6), (RX2, TX2, 8), (RX3, TX3, 6), (RX4, TX4, 8), (RX5, TX5, 2), (RX6, TX6, 3), (RX7, TX7, 7), (RX8, TX8, 38)]
def ux_D (G : ux_G) : va_G := (G.1, G.2.1)
def ux_a (G : ux_G) (i : Nat) : Nat := G.2.2.2 i
def ux_ty (G : ux_G) : List (ClassId × FieldType) := [(G.2.2.1 0, .int), (G.2.2.1 1, .long), (G.2.2.1 2, .boolean), (G.2.2.1 3, .array .int), (G.2.2.1 4, .array .long)]
def ux_kL : List (Nat × Nat) := [(5, 7), (5, 2), (5, 5), (5, 4), (5, 6), (5, 1), (5, 0), (5, 3), (5, 8),
  (0, 8), (0, 8), (0, 8), (0, 8), (3, 8), (0, 8), (0, 8), (0, 8), (0, 8), (0, 8), (0, 8), (0, 8), (0, 8),
  (0, 21),
  (0, 5), (0, 5), (0, 5), (0, 5), (0, 8), (3, 6), (0, 8), (0, 8), (0, 8), (0, 8), (0, 8), (0, 8),
  (4, 4), (1, 64), (1, 64), (1, 64), (1, 64), (0, 4), (0, 4),
  (0, 16), (0, 16), (3, 2), (0, 8), (0, 8), (0, 16),
  (0, 10),
  (0, 12), (2, 12), (0, 12), (2, 12), (0, 12),
  (0, 8), (0, 8), (0, 8), (0, 8), (0, 64), (0, 21), (0, 5), (0, 5), (0, 8), (0, 4), (0, 4), (1, 256), (0, 5), (0, 8), (0, 5), (0, 16), (0, 16), (2, 16), (0, 16), (0, 10), (0, 12), (2, 12), (0, 12), (2, 12), (0, 12)]
def ux_k (i : Nat) : Nat × Nat := ux_kL.getD i (9, 0)
def ux_f (i : Nat) : List Nat := match i with
  | 0 => [1, 2, 3, 4, 5, 6, 7]
  | 1 => [9, 10, 11, 12, 13, 0, 0, 0]
  | 2 => [22, 0]
  | 3 => [23, 24, 0, 25, 26, 27, 28, 0]
  | 4 => [35, 40, 41]
  | 5 => [42, 43, 44, 47, 0, 0]
  | 6 => [48, 0, 0]
  | 7 => [49, 50, 51, 52, 53, 0]
  | _ => [0, 54, 55, 56, 57, 58, 0, 0, 59, 0, 0, 60, 61, 62, 63, 64, 65, 66, 67, 0, 0, 68, 0, 69, 70, 71, 72, 0, 0, 73, 0, 0, 74, 75, 76, 77, 78, 0]
def ux_v (G : ux_G) (t : Nat) (x : Int32) : Value := match t with
  | 0 => .int x
  | t + 1 => .ref (ux_a G (t + 1))
def ux_vs (G : ux_G) (i : Nat) (a : Nat → Int32) : List Value := (List.range (ux_f i).length).map (fun k => ux_v G ((ux_f i).getD k 0) (a k))
def ux_e (G : ux_G) (i : Nat) (a : Nat → Int32) (b : Nat → Int64) : va_E := match ux_k i with
  | (0, n) => .inl (G.2.2.1 0, n, .inl a)
  | (1, n) => .inl (G.2.2.1 1, n, .inr (.inl b))
  | (2, n) => .inl (G.2.2.1 2, n, .inl a)
  | (3, n) => .inl (G.2.2.1 3, n, .inr (.inr (.inr (.inr (fun j => some (ux_a G (i + 1 + j)))))))
  | (4, n) => .inl (G.2.2.1 4, n, .inr (.inr (.inr (.inr (fun j => some (ux_a G (i + 1 + j)))))))
  | (_, ci) => .inr (ci, ux_vs G i a)
def ux_w (G : ux_G) (S : ux_S) : va_W := (List.range 79).map (fun i => (ux_a G i, ux_e G i (S.1 i) (S.2 i)))
def ux_A (G : ux_G) : Nat → Prop := fun q => ∃ k, k < 79 ∧ q = ux_a G k
def ux_i (S : ux_S) (i k : Nat) (v : Int32) : ux_S := (fun j => if j = i then upd (S.1 i) k v else S.1 j, S.2)
def ux_l (S : ux_S) (i k : Nat) (v : Int64) : ux_S := (S.1, fun j => if j = i then vp_updL (S.2 i) k v else S.2 j)
theorem ux_wget {G : ux_G} {S : ux_S} {i : Nat} (hi : i < 79) : (ux_w G S)[i]? = some (ux_a G i, ux_e G i (S.1 i) (S.2 i)) := by
  unfold ux_w
  rw [List.getElem?_map, List.getElem?_range hi]
  rfl
theorem ux_wset {G : ux_G} {S Z : ux_S} {i : Nat} {e : va_E} (hi : i < 79) (he : e = ux_e G i (Z.1 i) (Z.2 i)) (h1 : ∀ j, j ≠ i → Z.1 j = S.1 j) (h2 : ∀ j, j ≠ i → Z.2 j = S.2 j) : (ux_w G S).set i (ux_a G i, e) = ux_w G Z := by
  subst he
  have hl : ∀ Y : ux_S, (ux_w G Y).length = 79 := fun Y => by unfold ux_w; simp
  apply List.ext_getElem?
  intro j
  by_cases hj : j = i
  · subst hj
    rw [List.getElem?_set_self (by rw [hl]; exact hi), ux_wget hi]
  · rw [List.getElem?_set_ne (Ne.symm hj)]
    by_cases hl2 : j < 79
    · rw [ux_wget hl2, ux_wget hl2, h1 j hj, h2 j hj]
    · rw [List.getElem?_eq_none (by rw [hl]; omega), List.getElem?_eq_none (by rw [hl]; omega)]
def ux_K (G : ux_G) (U : State) : Prop := (∀ i j : Nat, i < 79 → j < 79 → ux_a G i = ux_a G j → i = j) ∧ va_K (ux_D G) ux_cl (ux_ty G) U ∧ va_Nw (.methodLinkNest RX2 43 yX7_divideUp RX7) U ∧ va_Nw (.methodLinkNest RX4 90 yX7_divideUp RX7) U ∧ va_Nw (.methodLinkNest RX5 25 yX7_divideUp RX7) U
theorem ux_K.warm {G : ux_G} {s U : State} (h : ux_K G s) (hW : s.WarmedH U.vm) : ux_K G U := ⟨h.1, va_K.moved hW.alike h.2.1, va_Nw.warmM hW h.2.2.1, va_Nw.warmM hW h.2.2.2.1, va_Nw.warmM hW h.2.2.2.2⟩
theorem ux_K.same {G : ux_G} {s U : State} (h : ux_K G s) (hv : s.vm = U.vm) : ux_K G U := ⟨h.1, va_K.moved (by rw [hv]; exact Vm.Alike.refl _) h.2.1, va_Nw.same rfl hv h.2.2.1, va_Nw.same rfl hv h.2.2.2.1, va_Nw.same rfl hv h.2.2.2.2⟩
theorem ux_wD {G : ux_G} {S : ux_S} {A : Nat → Prop} (hj : ∀ i j : Nat, i < 79 → j < 79 → ux_a G i = ux_a G j → i = j) (hA : ∀ i, i < 79 → A (ux_a G i)) : va_D A (ux_w G S) := by
  have key : ∀ (k : Nat) (q : Nat × va_E), (ux_w G S)[k]? = some q → k < 79 ∧ q.1 = ux_a G k := by
    intro k q hk
    by_cases h : k < 79
    · rw [ux_wget h] at hk
      cases hk
      exact ⟨h, rfl⟩
    · rw [List.getElem?_eq_none (by unfold ux_w; simp; omega)] at hk
      cases hk
  refine ⟨fun i j x y hi hj2 hxy => ?_, fun k q hk => ?_⟩
  · obtain ⟨a1, a2⟩ := key i x hi
    obtain ⟨b1, b2⟩ := key j y hj2
    exact hj i j a1 b1 (by rw [← a2, ← b2]; exact hxy)
  · obtain ⟨a1, a2⟩ := key k q hk
    rw [a2]
    exact hA k a1
theorem ux_e0 {G : ux_G} {i n : Nat} {a : Nat → Int32} {b : Nat → Int64} (h : ux_k i = (0, n)) : ux_e G i a b = .inl (G.2.2.1 0, n, .inl a) := by
  unfold ux_e
  rw [h]
  try rfl
theorem ux_e1 {G : ux_G} {i n : Nat} {a : Nat → Int32} {b : Nat → Int64} (h : ux_k i = (1, n)) : ux_e G i a b = .inl (G.2.2.1 1, n, .inr (.inl b)) := by
  unfold ux_e
  rw [h]
  try rfl
theorem ux_e2 {G : ux_G} {i n : Nat} {a : Nat → Int32} {b : Nat → Int64} (h : ux_k i = (2, n)) : ux_e G i a b = .inl (G.2.2.1 2, n, .inl a) := by
  unfold ux_e
  rw [h]
  try rfl
theorem ux_e3 {G : ux_G} {i n : Nat} {a : Nat → Int32} {b : Nat → Int64} (h : ux_k i = (3, n)) : ux_e G i a b = .inl (G.2.2.1 3, n, .inr (.inr (.inr (.inr (fun j => some (ux_a G (i + 1 + j))))))) := by
  unfold ux_e
  rw [h]
  try rfl
theorem ux_e4 {G : ux_G} {i n : Nat} {a : Nat → Int32} {b : Nat → Int64} (h : ux_k i = (4, n)) : ux_e G i a b = .inl (G.2.2.1 4, n, .inr (.inr (.inr (.inr (fun j => some (ux_a G (i + 1 + j))))))) := by
  unfold ux_e
  rw [h]
  try rfl
theorem ux_eO {G : ux_G} {i ci : Nat} {a : Nat → Int32} {b : Nat → Int64} (h : ux_k i = (5, ci)) : ux_e G i a b = .inr (ci, ux_vs G i a) := by
  unfold ux_e
  rw [h]
  try rfl
/-! contracts -/
def ux_P (G : ux_G) (av : List Value) (S : ux_S) : Array Value → State → Prop := va_Pc av (fun U => va_P (ux_D G) ux_cl (ux_w G S) U.heap ∧ ux_K G U)
def ux_Q (G : ux_G) (rv : Option Value) (Z : ux_S) : Array Value → State → Outcome → State → Prop := fun _ st o t => o = .returned rv ∧ va_P (ux_D G) ux_cl (ux_w G Z) t.heap ∧ va_F (ux_A G) st t
def ux_rm (d : Nat) : Room := { frames := d, cells := 0, slots := 0, locals := 40 * d }
def ux_M (l : Launch) (G : ux_G) (y : MethodName) (cc : ByteArray) (nL : Nat) (rt : Option FieldType) (d : Nat) (av : List Value) (S : ux_S) (rv : Option Value) (Z : ux_S) : Prop :=
  Met l y (.code y cc nL rt :: ux_WA) (ux_rm d) (ux_P G av S) (ux_Q G rv Z) 0 0 (ux_A G)
theorem ux_P.blind {G : ux_G} {av : List Value} {S : ux_S} : FrameBlind (ux_P G av S) := by
  intro a U g mk q
  obtain ⟨q0, qP, qK⟩ := q
  exact ⟨q0, qP, qK.same rfl⟩
/-- inside a method: the machine, the code, the words, the tables -/
def ux_X (p : Program) (s : State) (m : MethodId) (args : Array Value) (meth : Method) (c : Code) (G : ux_G) (own : String) (cc : ByteArray) (nL : Nat) (rt : Option FieldType) : Prop :=
  p.tables.exec = Jvm.exec ∧ c.code = cc ∧ c.maxLocals = nL ∧ s.vm.findClass own = some m.cls ∧ (∀ w ∈ ux_WA, w.before args s = true) ∧ meth.sig.returnType = rt ∧ meth.locks = false ∧ ux_K G s
def ux_H (G : ux_G) (H0 : Heap) (S : ux_S) (H : Heap) (locs : List Loc) : Prop := va_P (ux_D G) ux_cl (ux_w G S) H ∧ va_S (ux_A G) H0 H locs
def ux_At (l : Launch) (G : ux_G) (own : String) (cc : ByteArray) (nL : Nat) (rt : Option FieldType) (d : Nat) (rv : Option Value) (Z : ux_S) (pc : Nat) (lv : List (Nat × Value)) (st : List Value) (S : ux_S) : Prop :=
  ∀ (p : Program) (e : Env) (s : State) (m : MethodId) (args : Array Value) (below : List Frame) (meth : Method) (c : Code), ux_X p s m args meth c G own cc nL rt → ∀ (ls : Array Slot), lv_has ls nL lv → ∀ (H : Heap) (locs : List Loc), ux_H G s.heap S H locs → W p l e (ux_rm d) s m args below meth c H locs 0 0 (MQ below (ux_Q G rv Z) args s 0 0 (ux_A G)) (F0 m pc ls st)
theorem ux_of {l : Launch} {G : ux_G} {y : MethodName} {cc : ByteArray} {nL : Nat} {rt : Option FieldType} {d : Nat} {av : List Value} {S : ux_S} {rv : Option Value} {Z : ux_S} (hy : plainName y.cls = true) (hn : (lg_sl av).length ≤ nL) (h : ux_At l G y.cls cc nL rt d rv Z 0 (lv_args 0 av) [] S) : ux_M l G y cc nL rt d av S rv Z := by
  refine Met.ofW (cc := cc) (maxL := nL) (ret := rt) hy rfl ?_
  intro p e s m args below meth c s₁ B hml hv
  obtain ⟨rfl, hP, hK⟩ := hv
  have hts := atoms_spec (ws := .code y cc nL rt :: ux_WA) B.pre
  have hl := lv_entry av (n := nL) hn
  rw [lg_entry_eq]
  exact h p e s m av.toArray below meth c ⟨B.exec, B.bytes, hml, findClass_of_methodNamed B.named, fun w hw => hts w (List.mem_cons_of_mem _ hw), B.returns, B.notSynchronized, hK⟩ _ hl s.heap [] ⟨hP, va_S.rf⟩
/-! calls -/
theorem ux_in {ws : List Cond} (h : ∀ w ∈ ws, w ∈ ux_WA) : GoodIn ux_WA ws := fun w hw => ⟨h w hw, good_of_word (List.mem_filter.mp (h w hw)).2⟩
/-- what the tables say of a call -/
def ux_d (y : MethodName) (n : Nat) : Prop := y.cls ≠ "java/lang/invoke/MethodHandle" ∧ y.cls ≠ "java/lang/invoke/VarHandle" ∧ (parseMethodDescriptor y.desc).map (fun d => d.parameters.length) = some n
def ux_FV (own : String) (idx : Nat) (C : String) (y : MethodName) (cc : ByteArray) (nL : Nat) (rt : Option FieldType) (n : Nat) : Prop :=
  Cond.methodLink own idx y ∈ ux_WA ∧ Cond.instanceMethod y ∈ ux_WA ∧ Cond.selects C y y ∈ ux_WA ∧ Cond.initialized C ∈ ux_WA ∧ Cond.code y cc nL rt ∈ ux_WA ∧ y.cls = C ∧ ux_d y n ∧ nL ≤ 20
def ux_FS (own : String) (idx : Nat) (y : MethodName) (cc : ByteArray) (nL : Nat) (rt : Option FieldType) (n : Nat) : Prop :=
  Cond.methodLink own idx y ∈ ux_WA ∧ Cond.static y ∈ ux_WA ∧ Cond.initialized y.cls ∈ ux_WA ∧ Cond.code y cc nL rt ∈ ux_WA ∧ ux_d y n ∧ nL ≤ 20
def ux_FN (y : MethodName) (cc : ByteArray) (nL : Nat) (rt : Option FieldType) (n : Nat) : Prop :=
  Cond.static y ∈ ux_WA ∧ Cond.initialized y.cls ∈ ux_WA ∧ Cond.code y cc nL rt ∈ ux_WA ∧ ux_d y n ∧ nL ≤ 20
section UXC
variable {p : Program} {l : Launch} {e : Env} {R : Room} {s : State} {m : MethodId} {args : Array Value} {below : List Frame} {meth : Method} {c : Code} {H : Heap} {locs : List Loc} {cells slots : Nat} {Q : State → Prop}
variable {pc : Nat} {ls : Array Slot} {rest st0 : List Value} {a : Array Value} {A0 : Nat → Prop} {H0 : Heap} {G : ux_G} {S Z : ux_S} {rv : Option Value}
variable {own C : String} {cc ccy : ByteArray} {nL nLy idx n d i ci : Nat} {y : MethodName} {rty : Option FieldType} {As : List Value}
theorem ux_run (hr : va_Run p l e R s m args below meth c H locs cells slots 0 0 (F0 m pc ls st0) rest (ux_Q G rv Z a) (ux_A G)) (hA : ∀ q, ux_A G q → A0 q) (hS : va_S A0 H0 H locs)
    (kk : ∀ (H1 : Heap) (locs1 : List Loc), va_P (ux_D G) ux_cl (ux_w G Z) H1 → va_S A0 H0 H1 locs1 → W p l e R s m args below meth c H1 locs1 cells slots Q (F0 m (pc + 3) ls (rv.toList ++ rest))) : W p l e R s m args below meth c H locs cells slots Q (F0 m pc ls st0) := by
  intro T hT X
  obtain ⟨v, st₀, t, T', L, h0, X', hL, e1, e2, ⟨hv, hp, hz, hk⟩, st⟩ := hr T hT X
  cases hv
  rw [h0] at hz hk
  obtain ⟨t2, a1, b1⟩ := kk T'.heap (locs ++ L) (by rw [e1]; exact hp)
    ⟨Nat.le_trans hS.1 (by rw [e1]; exact hz), fun q h1 h2 => by rw [e1, hk q (Nat.lt_of_lt_of_le h1 hS.1) (fun z => h2 (hA q z))]; exact hS.2.1 q h1 h2, fun q hq => by
      rcases List.mem_append.mp hq with h | h
      · exact hS.2.2 q h
      · exact hA _ (hL q h)⟩ T' rfl X'
  exact ⟨t2, st t2 a1, b1⟩
theorem ux_pre (hK : ux_K G s) (hP : va_P (ux_D G) ux_cl (ux_w G S) H) : PreS s H (ux_P G As S) As := ⟨ux_P.blind, fun U hU hW => ⟨rfl, by rw [hU]; exact hP, hK.warm hW⟩⟩
theorem ux_recv {q : vw_C} (hK : ux_K G s) (hP : va_P (ux_D G) ux_cl (ux_w G S) H) (hi : i < 79) (hk : ux_k i = (5, ci)) (hc : ux_cl[ci]? = some q) : ∃ cell : Cell, H[ux_a G i]? = some cell ∧ cell.vm.isStatics = false ∧ s.vm.findClass q.1 = some cell.cls := by
  have he : (ux_w G S)[i]? = some (ux_a G i, .inr (ci, ux_vs G i (S.1 i))) := by
    rw [ux_wget hi]
    unfold ux_e
    rw [hk]
    try rfl
  exact va_recv hK.2.1 hP hc he
theorem ux_runV (Sx : CallFix p m c cc nL s args ux_WA own) (hM : ux_M l G y ccy nLy rty d (.ref (ux_a G i) :: As) S rv Z) (F : ux_FV own idx C y ccy nLy rty n) (hR : d + 1 ≤ R.frames ∧ 40 * (d + 1) ≤ R.locals ∧ cells ≤ R.cells ∧ slots ≤ R.slots) (hK : ux_K G s) (hP : va_P (ux_D G) ux_cl (ux_w G S) H) (hi : i < 79) (hk : ux_k i = (5, ci)) {T : u_T} {N : Nat} (hc : ux_cl[ci]? = some (C, T, N))
    (hn : As.length = n) (hl : ls.size = nL) (hst : st0 = As.reverse ++ .ref (ux_a G i) :: rest) (hcat : (rest.map fun v => v.category).sum ≤ 8) (hdg : decode cc pc = .ok (.invokevirtual idx, 3)) :
    va_Run p l e R s m args below meth c H locs cells slots 0 0 (F0 m pc ls st0) rest (ux_Q G rv Z (Value.ref (ux_a G i) :: As).toArray) (ux_A G) := by
  obtain ⟨f1, f2, f3, f4, f5, f6, f7, f8⟩ := F
  have hG : GoodIn ux_WA (wsV own idx C y (.code y ccy nLy rty :: ux_WA)) := ux_in (fun w hw => by
    unfold wsV at hw
    rcases List.mem_append.mp hw with h | h
    · simp only [List.mem_cons, List.not_mem_nil, or_false] at h
      rcases h with rfl | rfl | rfl | rfl
      · exact f1
      · exact f2
      · exact f3
      · exact f4
    · rcases List.mem_cons.mp h with rfl | h
      · exact f5
      · exact h)
  refine va_runV (b := ux_a G i) (As := As) (rest := rest) (C := C) (bytes := ccy) (maxL := nLy) (ret := rty) (n := n) (nL := nL) Sx hM (cwV n Sx.2.2.2.2 hG rfl rfl rfl ⟨f6, f7⟩ ⟨hR.1, ?_⟩) ⟨ux_P.blind, ux_recv hK hP hi hk hc, fun U hU hW => ⟨rfl, by rw [hU]; exact hP, hK.warm hW⟩⟩ rfl hn hl hst (lv_room hcat) hdg ⟨hR.2.2.1, hR.2.2.2⟩
  show 8 + (nLy + 11) + 40 * d ≤ R.locals
  have := hR.2.1
  omega
theorem ux_runS (Sx : CallFix p m c cc nL s args ux_WA own) (hM : ux_M l G y ccy nLy rty d As S rv Z) (F : ux_FS own idx y ccy nLy rty n) (hR : d + 1 ≤ R.frames ∧ 40 * (d + 1) ≤ R.locals ∧ cells ≤ R.cells ∧ slots ≤ R.slots) (hK : ux_K G s) (hP : va_P (ux_D G) ux_cl (ux_w G S) H)
    (hn : As.length = n) (hl : ls.size = nL) (hst : st0 = As.reverse ++ rest) (hcat : (rest.map fun v => v.category).sum ≤ 8) (hdg : decode cc pc = .ok (.invokestatic idx, 3)) :
    va_Run p l e R s m args below meth c H locs cells slots 0 0 (F0 m pc ls st0) rest (ux_Q G rv Z As.toArray) (ux_A G) := by
  obtain ⟨f1, f2, f3, f4, f5, f6⟩ := F
  have hG : GoodIn ux_WA (va_wsS own idx y (.code y ccy nLy rty :: ux_WA)) := ux_in (fun w hw => by
    unfold va_wsS at hw
    rcases List.mem_append.mp hw with h | h
    · simp only [List.mem_cons, List.not_mem_nil, or_false] at h
      rcases h with rfl | rfl | rfl
      · exact f1
      · exact f2
      · exact f3
    · rcases List.mem_cons.mp h with rfl | h
      · exact f4
      · exact h)
  refine va_runS (As := As) (rest := rest) (bytes := ccy) (maxL := nLy) (ret := rty) (n := n) (nL := nL) Sx hM (va_cwS n Sx.2.2.2.2 hG rfl rfl rfl f5 ⟨hR.1, ?_⟩) (ux_pre hK hP) rfl hn hl hst (lv_room hcat) hdg ⟨hR.2.2.1, hR.2.2.2⟩
  show 8 + (nLy + 11) + 40 * d ≤ R.locals
  have := hR.2.1
  omega
theorem ux_runN {host : String} (Sx : CallFix p m c cc nL s args ux_WA own) (hM : ux_M l G y ccy nLy rty d As S rv Z) (F : ux_FN y ccy nLy rty n) (hN : va_Nw (.methodLinkNest own idx y host) s) (hR : d + 1 ≤ R.frames ∧ 40 * (d + 1) ≤ R.locals ∧ cells ≤ R.cells ∧ slots ≤ R.slots) (hK : ux_K G s) (hP : va_P (ux_D G) ux_cl (ux_w G S) H)
    (hn : As.length = n) (hl : ls.size = nL) (hst : st0 = As.reverse ++ rest) (hcat : (rest.map fun v => v.category).sum ≤ 8) (hdg : decode cc pc = .ok (.invokestatic idx, 3)) :
    va_Run p l e R s m args below meth c H locs cells slots 0 0 (F0 m pc ls st0) rest (ux_Q G rv Z As.toArray) (ux_A G) := by
  obtain ⟨f2, f3, f4, f5, f6⟩ := F
  have hG : GoodIn ux_WA (.code y ccy nLy rty :: ux_WA) := ux_in (fun w hw => by
    rcases List.mem_cons.mp hw with rfl | h
    · exact f4
    · exact h)
  refine va_runSN (As := As) (rest := rest) (bytes := ccy) (maxL := nLy) (ret := rty) (n := n) (nL := nL) (host := host) Sx hM ⟨va_cnB n Sx.2.2.2.2 hG rfl rfl rfl hN (Sx.2.2.2.2 _ f3) f5 ⟨hR.1, ?_⟩, Sx.2.2.2.2 _ f2, trivial⟩ (ux_pre hK hP) rfl hn hl hst (lv_room hcat) hdg ⟨hR.2.2.1, hR.2.2.2⟩
  show 8 + (nLy + 11) + 40 * d ≤ R.locals
  have := hR.2.1
  omega
end UXC
