/-! constructors: calls, fields, ends -/
theorem cx_sub {D : va_G} {cl : List vw_C} {ws wc : va_W} {H : Heap} (hP : va_P D cl ws H) (isC : List Nat) (hC : isC.map (fun i => ws[i]?) = wc.map some) : va_P D cl wc H := by
  intro k q hk
  have h1 : (isC.map (fun i => ws[i]?))[k]? = some (some q) := by rw [hC, List.getElem?_map, hk]; rfl
  rw [List.getElem?_map] at h1
  cases hi : isC[k]? with
  | none => rw [hi] at h1; cases h1
  | some i => rw [hi] at h1; exact hP i q (Option.some.inj h1)
theorem cx_run {p : Program} {l : Launch} {e : Env} {R : Room} {s : State} {m : MethodId} {args : Array Value} {below : List Frame} {meth : Method} {c : Code} {H : Heap} {locs : List Loc} {cells slots mc ms : Nat} {Q : State → Prop} {pc : Nat} {ls : Array Slot} {rest st0 : List Value} {a : Array Value} {A0 : Nat → Prop} {H0 : Heap} {G : ux_G} {ws wc wr : va_W} {post : va_W → Prop}
    (hr : va_Run p l e R s m args below meth c H locs cells slots mc ms (F0 m pc ls st0) rest (cx_Q G wc H.size post a) (va_A wc H.size)) (hP : va_P (ux_D G) ux_cl ws H) (hD : va_D A0 ws) (hS : va_S A0 H0 H locs) (hA : ∀ q, H0.size ≤ q → A0 q) (isC isR : List Nat) (hC : isC.map (fun i => ws[i]?) = wc.map some) (hR : isR.map (fun i => ws[i]?) = wr.map some) (hn : va_nd isR = true) (hdis : ∀ i ∈ isR, i ∉ isC)
    (kk : ∀ (H1 : Heap) (locs1 : List Loc) (w1 : va_W), post w1 → va_P (ux_D G) ux_cl (wr ++ w1) H1 → va_D A0 (wr ++ w1) → va_S A0 H0 H1 locs1 → W p l e R s m args below meth c H1 locs1 (cells + mc) (slots + ms) Q (F0 m (pc + 3) ls rest)) : W p l e R s m args below meth c H locs cells slots Q (F0 m pc ls st0) := by
  intro T hT X
  obtain ⟨v, st₀, t, T', L, h0, X', hL, e1, e2, ⟨hv, ⟨w1, hp, hp1, hd1⟩, hz, hk⟩, st⟩ := hr T hT X
  cases hv
  rw [h0] at hz hk
  have hF := va_free hD hS hA isC hC
  obtain ⟨j1, j2⟩ := va_join hP hD isC isR hC hR hn hdis (fun q h1 h2 => hk q h1 h2) hF hp1 hd1
  obtain ⟨t2, a1, b1⟩ := kk T'.heap (locs ++ L) w1 hp (by rw [e1]; exact j1) j2
    ⟨Nat.le_trans hS.1 (by rw [e1]; exact hz), fun q h1 h2 => by rw [e1, hk q (Nat.lt_of_lt_of_le h1 hS.1) (fun z => h2 (hF q z))]; exact hS.2.1 q h1 h2, fun q hq => by
      rcases List.mem_append.mp hq with h | h
      · exact hS.2.2 q h
      · exact hF _ (hL q h)⟩ T' rfl X'
  exact ⟨t2, st t2 a1, b1⟩
theorem cx_pre {s : State} {H : Heap} {G : ux_G} {ws wc : va_W} {A0 : Nat → Prop} {As : List Value} (hK : va_K (ux_D G) ux_cl (ux_ty G) s) (hN : cx_N s) (hP : va_P (ux_D G) ux_cl ws H) (hD : va_D A0 ws) (isC : List Nat) (hC : isC.map (fun i => ws[i]?) = wc.map some) (hnC : va_nd isC = true) : PreS s H (cx_P G As wc H.size) As :=
  ⟨cx_P.blind, fun U hU hW => ⟨rfl, by rw [hU], by rw [hU]; exact cx_sub hP isC hC, va_K.moved hW.alike hK, hN.warm hW, (hD.sub isC hnC hC).weaken (fun _ _ _ _ => trivial)⟩⟩
def cx_FI (own : String) (idx : Nat) (y : MethodName) (cc : ByteArray) (nL : Nat) : Prop := Cond.methodLink own idx y ∈ ux_WA ∧ Cond.instanceMethod y ∈ ux_WA ∧ Cond.initialized y.cls ∈ ux_WA ∧ Cond.code y cc nL none ∈ ux_WA ∧ y.name = "<init>" ∧ ux_d y 0 ∧ nL ≤ 20
def cx_FN (y : MethodName) (cc : ByteArray) (nL : Nat) : Prop := Cond.instanceMethod y ∈ ux_WA ∧ Cond.initialized y.cls ∈ ux_WA ∧ Cond.code y cc nL none ∈ ux_WA ∧ y.name = "<init>" ∧ ux_d y 0 ∧ nL ≤ 20
section CXI
variable {p : Program} {l : Launch} {e : Env} {R : Room} {s : State} {m : MethodId} {args : Array Value} {below : List Frame} {meth : Method} {c : Code} {H : Heap} {locs : List Loc} {cells slots : Nat}
variable {pc : Nat} {ls : Array Slot} {rest : List Value} {A0 : Nat → Prop} {G : ux_G} {own : String} {cc ccy : ByteArray} {nL nLy idx dy mcy msy h : Nat} {y : MethodName} {ws wc : va_W} {post : va_W → Prop}
theorem cx_good (f : Cond.code y ccy nLy none ∈ ux_WA) : GoodIn ux_WA (.code y ccy nLy none :: ux_WA) := ux_in (fun w hw => by
    rcases List.mem_cons.mp hw with rfl | h
    · exact f
    · exact h)
theorem cx_runI (Sx : CallFix p m c cc nL s args ux_WA own) (F : cx_FI own idx y ccy nLy) (hM : cx_M l G y ccy nLy dy mcy msy [.ref h] wc H.size post) (hR : dy + 1 ≤ R.frames ∧ 40 * (dy + 1) ≤ R.locals ∧ cells + mcy ≤ R.cells ∧ slots + msy ≤ R.slots) (hK : va_K (ux_D G) ux_cl (ux_ty G) s) (hN : cx_N s) (hP : va_P (ux_D G) ux_cl ws H) (hD : va_D A0 ws) (isC : List Nat) (hC : isC.map (fun i => ws[i]?) = wc.map some) (hnC : va_nd isC = true) (hl : ls.size = nL) (hcat : (rest.map fun v => v.category).sum ≤ 8) (hdg : decode cc pc = .ok (.invokespecial idx, 3)) :
    va_Run p l e R s m args below meth c H locs cells slots mcy msy (F0 m pc ls (.ref h :: rest)) rest (cx_Q G wc H.size post (Value.ref h :: ([] : List Value)).toArray) (va_A wc H.size) := by
  obtain ⟨f1, f2, f3, f4, f5, f6, f7⟩ := F
  refine va_runI (b := h) (As := []) (rest := rest) (bytes := ccy) (maxL := nLy) (n := 0) (nL := nL) Sx hM (cwI 0 Sx.2.2.2.2 (cx_good f4) rfl rfl rfl (Sx.2.2.2.2 _ f3) (Sx.2.2.2.2 _ f1) (Sx.2.2.2.2 _ f2) f5 f6 ⟨hR.1, ?_⟩) (cx_pre hK hN hP hD isC hC hnC) rfl rfl hl rfl (lv_room hcat) hdg ⟨hR.2.2.1, hR.2.2.2⟩
  show 8 + (nLy + 11) + 40 * dy ≤ R.locals
  have := hR.2.1
  omega
theorem cx_runIN {host : String} (Sx : CallFix p m c cc nL s args ux_WA own) (F : cx_FN y ccy nLy) (hw : va_Nw (.methodLinkNest own idx y host) s) (hM : cx_M l G y ccy nLy dy mcy msy [.ref h] wc H.size post) (hR : dy + 1 ≤ R.frames ∧ 40 * (dy + 1) ≤ R.locals ∧ cells + mcy ≤ R.cells ∧ slots + msy ≤ R.slots) (hK : va_K (ux_D G) ux_cl (ux_ty G) s) (hN : cx_N s) (hP : va_P (ux_D G) ux_cl ws H) (hD : va_D A0 ws) (isC : List Nat) (hC : isC.map (fun i => ws[i]?) = wc.map some) (hnC : va_nd isC = true) (hl : ls.size = nL) (hcat : (rest.map fun v => v.category).sum ≤ 8) (hdg : decode cc pc = .ok (.invokespecial idx, 3)) :
    va_Run p l e R s m args below meth c H locs cells slots mcy msy (F0 m pc ls (.ref h :: rest)) rest (cx_Q G wc H.size post (Value.ref h :: ([] : List Value)).toArray) (va_A wc H.size) := by
  obtain ⟨f2, f3, f4, f5, f6, f7⟩ := F
  refine va_runIN (b := h) (As := []) (rest := rest) (bytes := ccy) (maxL := nLy) (n := 0) (nL := nL) (host := host) Sx hM ⟨va_cnB 0 Sx.2.2.2.2 (cx_good f4) rfl rfl rfl hw (Sx.2.2.2.2 _ f3) f6 ⟨hR.1, ?_⟩, f5, Sx.2.2.2.2 _ f2⟩ (cx_pre hK hN hP hD isC hC hnC) rfl rfl hl rfl (lv_room hcat) hdg ⟨hR.2.2.1, hR.2.2.2⟩
  show 8 + (nLy + 11) + 40 * dy ≤ R.locals
  have := hR.2.1
  omega
theorem cx_runS {As : List Value} {n : Nat} {st0 : List Value} (Sx : CallFix p m c cc nL s args ux_WA own) (F : ux_FS own idx y ccy nLy none n) (hM : cx_M l G y ccy nLy dy mcy msy As wc H.size post) (hR : dy + 1 ≤ R.frames ∧ 40 * (dy + 1) ≤ R.locals ∧ cells + mcy ≤ R.cells ∧ slots + msy ≤ R.slots) (hK : va_K (ux_D G) ux_cl (ux_ty G) s) (hN : cx_N s) (hP : va_P (ux_D G) ux_cl ws H) (hD : va_D A0 ws) (isC : List Nat) (hC : isC.map (fun i => ws[i]?) = wc.map some) (hnC : va_nd isC = true) (hn : As.length = n) (hl : ls.size = nL) (hst : st0 = As.reverse ++ rest) (hcat : (rest.map fun v => v.category).sum ≤ 8) (hdg : decode cc pc = .ok (.invokestatic idx, 3)) :
    va_Run p l e R s m args below meth c H locs cells slots mcy msy (F0 m pc ls st0) rest (cx_Q G wc H.size post As.toArray) (va_A wc H.size) := by
  obtain ⟨f1, f2, f3, f4, f5, f6⟩ := F
  have hG : GoodIn ux_WA (va_wsS own idx y (.code y ccy nLy none :: ux_WA)) := ux_in (fun w hw => by
    unfold va_wsS at hw
    rcases List.mem_append.mp hw with h | h
    · simp only [List.mem_cons, List.not_mem_nil, or_false] at h
      rcases h with rfl | rfl | rfl
      · exact f1
      · exact f2
      · exact f3
    · rcases List.mem_cons.mp h with rfl | h
      · exact f4
      · exact h)
  refine va_runS (As := As) (rest := rest) (bytes := ccy) (maxL := nLy) (ret := none) (n := n) (nL := nL) Sx hM (va_cwS n Sx.2.2.2.2 hG rfl rfl rfl f5 ⟨hR.1, ?_⟩) (cx_pre hK hN hP hD isC hC hnC) rfl hn hl hst (lv_room hcat) hdg ⟨hR.2.2.1, hR.2.2.2⟩
  show 8 + (nLy + 11) + 40 * dy ≤ R.locals
  have := hR.2.1
  omega
end CXI
def cx_FF (own : String) (idx ci k : Nat) (fin : Bool) (ty : FieldType) : Prop := ∃ (C : String) (T : u_T) (N : Nat) (ty0 : Nat → FieldType), ux_cl[ci]? = some (C, T, N) ∧ (∀ w ∈ u_ws C T N, w ∈ ux_WA) ∧ k < N ∧ Cond.fieldLink own idx (T k).1 (T k).2.1 (T k).2.2.1 ∈ ux_WA ∧ (∀ k, k < N → parseFieldDescriptor (T k).2.2.1 = some (ty0 k)) ∧ (∀ a, a < N → ∀ b, b < N → a ≠ b → (T a).2.1 ≠ (T b).2.1) ∧ (T k).2.2.2 = fin ∧ (fin = true → (T k).1 = own) ∧ parseFieldDescriptor (T k).2.2.1 = some ty
def cx_FW (own : String) (idx ci : Nat) (fs : List Value) : Prop := ∃ (C : String) (T : u_T) (N : Nat) (ty0 : Nat → FieldType), ux_cl[ci]? = some (C, T, N) ∧ (∀ w ∈ u_ws C T N, w ∈ ux_WA) ∧ (∀ k, k < N → parseFieldDescriptor (T k).2.2.1 = some (ty0 k)) ∧ Cond.classLink own idx C ∈ ux_WA ∧ Cond.instantiable C N ∈ ux_WA ∧ Cond.initialized C ∈ ux_WA ∧ fs.length = N ∧ ∀ j, j < N → defaultValue (ty0 j) = vp_V fs j

section CXT
variable {l : Launch} {G : ux_G} {own : String} {cc : ByteArray} {nL d mc ms : Nat} {ws : va_W} {sz : Nat} {post : va_W → Prop} {nm : String} {pc : Nat} {lv : List (Nat × Value)} {rest : List Value} {w : va_W} {kc ks : Nat}
theorem cx_re (w' : va_W) (h : w = w') (k : cx_At l G own cc nL d mc ms ws sz post nm pc lv rest w' kc ks) : cx_At l G own cc nL d mc ms ws sz post nm pc lv rest w kc ks := by
  subst h
  exact k
theorem cx_vret (hdg : decode cc pc = .ok (.return_, 1)) (hc : kc ≤ mc) (hs : ks ≤ ms) (hp : post w) : cx_At l G own cc nL d mc ms ws sz post nm pc lv [] w kc ks := by
  intro p e s m args below meth c X ls hl H locs hP hD hS
  exact W.widen hc hs (W.vret X.1 X.2.1 X.2.2.2.2.2.1 (fun t ht hW => ⟨rfl, ⟨w, hp, by rw [ht]; exact hP, hD⟩, hS.F ht⟩) hS.2.2 hdg X.2.2.2.2.2.2.1)
theorem cx_alen {a n : Nat} {f : Nat → Int32} (k0 q : Nat) (hdg : decode cc pc = .ok (.arraylength, 1)) (ha : w[k0]? = some (a, .inl (G.2.2.1 0, n, .inl f))) (hq : pc + 1 = q) (k : cx_At l G own cc nL d mc ms ws sz post nm q lv (.int (Int32.ofNat n) :: rest) w kc ks) : cx_At l G own cc nL d mc ms ws sz post nm pc lv (.ref a :: rest) w kc ks := by
  subst hq
  intro p e s m args below meth c X ls hl H locs hP hD hS
  exact va_alen (D := ux_D G) (cl := ux_cl) (tys := ux_ty G) (ws := w) (cA := G.2.2.1 0) (x := (n, .inl f)) X.1 X.2.1 X.2.2.2.2.2.2.2.1 hP k0 0 ha rfl rfl hdg (k p e s m args below meth c X ls hl H locs hP hD hS)
theorem cx_iast {a n : Nat} {f : Nat → Int32} {x v : Int32} (k0 q : Nat) (hdg : decode cc pc = .ok (.iastore, 1)) (ha : w[k0]? = some (a, .inl (G.2.2.1 0, n, .inl f))) (hin : ux_ib x n = true) (hq : pc + 1 = q) (k : cx_At l G own cc nL d mc ms ws sz post nm q lv rest (w.set k0 (a, .inl (G.2.2.1 0, n, .inl (upd f x.toNatClampNeg v)))) kc ks) : cx_At l G own cc nL d mc ms ws sz post nm pc lv (.int v :: .int x :: .ref a :: rest) w kc ks := by
  subst hq
  intro p e s m args below meth c X ls hl H locs hP hD hS
  exact va_iast (D := ux_D G) (cl := ux_cl) (tys := ux_ty G) (ws := w) (cA := G.2.2.1 0) (n := n) (f := f) X.1 X.2.1 X.2.2.2.2.2.2.2.1 hP hD hS k0 0 ha rfl (ux_ib_of hin) hdg (fun H1 locs1 hP1 hD1 hS1 => k p e s m args below meth c X ls hl H1 locs1 hP1 hD1 hS1)
theorem cx_aald {a n : Nat} {f : Nat → Nat} {x : Int32} {b : Nat} (k0 q : Nat) (hdg : decode cc pc = .ok (.aaload, 1)) (ha : w[k0]? = some (a, .inl (G.2.2.1 3, n, .inr (.inr (.inr (.inr (fun i => some (f i)))))))) (hin : ux_ib x n = true) (hb : f x.toNatClampNeg = b) (hq : pc + 1 = q) (k : cx_At l G own cc nL d mc ms ws sz post nm q lv (.ref b :: rest) w kc ks) : cx_At l G own cc nL d mc ms ws sz post nm pc lv (.int x :: .ref a :: rest) w kc ks := by
  subst hq
  subst hb
  intro p e s m args below meth c X ls hl H locs hP hD hS
  have hv := ux_ib_of hin
  have hlt : x.toNatClampNeg < n := Nat.not_le.mp fun q => hv (Or.inr q)
  exact W.aald (v := .ref (f x.toNatClampNeg)) (ty := .array .int) X.1 X.2.1 (hP k0 _ ha) ((X.2.2.2.2.2.2.2.1.2 3 _ rfl).1 n (fun j => va_rf (some (f j)))) rfl (fun q => by cases q) (by show ¬ (x < 0 ∨ (arrV _ _ _).slots.size ≤ _); rw [arrV_size]; exact hv) (by show (arrV _ _ _).slots[_]? = _; rw [arrV_read _ _ hlt]; rfl) rfl rfl hdg (k p e s m args below meth c X ls hl H locs hP hD hS)
theorem cx_get {idx ci kk a : Nat} {fs : List Value} {v : Value} {fin : Bool} {ty : FieldType} (k0 q : Nat) (hdg : decode cc pc = .ok (.getfield idx, 3)) (F : cx_FF own idx ci kk fin ty) (ha : w[k0]? = some (a, .inr (ci, fs))) (hv : fs[kk]? = some v) (hq : pc + 3 = q) (k : cx_At l G own cc nL d mc ms ws sz post nm q lv (v :: rest) w kc ks) : cx_At l G own cc nL d mc ms ws sz post nm pc lv (.ref a :: rest) w kc ks := by
  subst hq
  obtain ⟨C, T, N, ty0, g1, g2, g3, g4, g5, g6, g7, g8, g9⟩ := F
  intro p e s m args below meth c X ls hl H locs hP hD hS
  exact va_get X.1 X.2.1 X.2.2.2.2.1 g2 X.2.2.2.1 X.2.2.2.2.2.2.2.1 hP k0 ha g1 kk g3 (X.2.2.2.2.1 _ g4) (fun _ h => h) hv hdg (k p e s m args below meth c X ls hl H locs hP hD hS)
theorem cx_put {idx ci kk a : Nat} {fs : List Value} {v : Value} {fin : Bool} {ty : FieldType} (k0 q : Nat) (hdg : decode cc pc = .ok (.putfield idx, 3)) (F : cx_FF own idx ci kk fin ty) (hnm : nm = "<init>") (ha : w[k0]? = some (a, .inr (ci, fs))) (hn : narrow ty v = v) (hf : fits ty v = true) (hlen : kk < fs.length) (hq : pc + 3 = q) (k : cx_At l G own cc nL d mc ms ws sz post nm q lv rest (w.set k0 (a, .inr (ci, fs.set kk v))) kc ks) : cx_At l G own cc nL d mc ms ws sz post nm pc lv (v :: .ref a :: rest) w kc ks := by
  subst hq
  subst hnm
  obtain ⟨C, T, N, ty0, g1, g2, g3, g4, g5, g6, g7, g8, g9⟩ := F
  intro p e s m args below meth c X ls hl H locs hP hD hS
  cases fin with
  | false => exact va_put X.1 X.2.1 X.2.2.2.2.1 g2 ty0 g5 g6 X.2.2.2.1 X.2.2.2.2.2.2.2.1 hP hD hS k0 ha g1 kk g3 (X.2.2.2.2.1 _ g4) (fun _ h => h) g7 g9 hn hf hlen hdg (fun H1 locs1 hP1 hD1 hS1 => k p e s m args below meth c X ls hl H1 locs1 hP1 hD1 hS1)
  | true => exact va_putF X.1 X.2.1 X.2.2.2.2.1 g2 ty0 g5 g6 X.2.2.2.1 X.2.2.2.2.2.2.2.1 hP hD hS k0 ha g1 kk g3 (X.2.2.2.2.1 _ g4) (fun _ h => h) g7 X.2.2.2.2.2.2.2.2.2.1 (g8 rfl) g9 hn hf hlen hdg (fun H1 locs1 hP1 hD1 hS1 => k p e s m args below meth c X ls hl H1 locs1 hP1 hD1 hS1)
theorem cx_new {idx ci N : Nat} {fs : List Value} (q : Nat) (hdg : decode cc pc = .ok (.new idx, 3)) (F : cx_FW own idx ci fs) (hN : fs.length = N) (hc : kc + 1 ≤ mc) (hs : ks + N ≤ ms) (hq : pc + 3 = q) (k : ∀ r : Nat, cx_At l G own cc nL d mc ms ws sz post nm q lv (.ref r :: rest) (w ++ [(r, .inr (ci, fs))]) (kc + 1) (ks + N)) : cx_At l G own cc nL d mc ms ws sz post nm pc lv rest w kc ks := by
  subst hq
  subst hN
  obtain ⟨C, T, N, ty0, g1, g2, g3, g4, g5, g6, g7, g8⟩ := F
  subst g7
  intro p e s m args below meth c X ls hl H locs hP hD hS
  exact va_new X.1 X.2.1 X.2.2.2.2.1 g2 ty0 g3 X.2.2.2.1 (X.2.2.2.2.1 _ g4) (X.2.2.2.2.1 _ g5) (X.2.2.2.2.1 _ g6) X.2.2.2.2.2.2.2.1 hP hD hS (fun q hq => Or.inr (by rw [← X.2.2.2.2.2.2.2.2.2.2]; exact hq)) g1 g8 hc hs hdg (fun r H1 hP1 hD1 hS1 => k r p e s m args below meth c X ls hl H1 locs hP1 hD1 hS1)
theorem cx_callI {y : MethodName} {ccy : ByteArray} {nLy dy mcy msy idx h : Nat} {wc : va_W} {post2 : va_W → Prop} (q : Nat) (isC isR : List Nat) (wr : va_W) (hdg : decode cc pc = .ok (.invokespecial idx, 3)) (F : cx_FI own idx y ccy nLy) (hM : ∀ z, cx_M l G y ccy nLy dy mcy msy [.ref h] wc z post2) (hC : isC.map (fun i => w[i]?) = wc.map some) (hnC : va_nd isC = true) (hR : isR.map (fun i => w[i]?) = wr.map some) (hnR : va_nd isR = true) (hdis : ∀ i ∈ isR, i ∉ isC) (hd : dy + 1 ≤ d) (hc : kc + mcy ≤ mc) (hs : ks + msy ≤ ms) (hcat : (rest.map fun v => v.category).sum ≤ 8) (hq : pc + 3 = q) (k : ∀ w1, post2 w1 → cx_At l G own cc nL d mc ms ws sz post nm q lv rest (wr ++ w1) (kc + mcy) (ks + msy)) : cx_At l G own cc nL d mc ms ws sz post nm pc lv (.ref h :: rest) w kc ks := by
  subst hq
  intro p e s m args below meth c X ls hl H locs hP hD hS
  exact cx_run (cx_runI ⟨X.1, X.2.1, X.2.2.1, X.2.2.2.1, X.2.2.2.2.1⟩ F (hM H.size) ⟨hd, Nat.mul_le_mul_left 40 hd, hc, hs⟩ X.2.2.2.2.2.2.2.1 X.2.2.2.2.2.2.2.2.1 hP hD isC hC hnC hl.1 hcat hdg) hP hD hS (fun q hq => Or.inr (by rw [← X.2.2.2.2.2.2.2.2.2.2]; exact hq)) isC isR hC hR hnR hdis (fun H1 locs1 w1 hp hP1 hD1 hS1 => k w1 hp p e s m args below meth c X ls hl H1 locs1 hP1 hD1 hS1)
theorem cx_callN {host : String} {y : MethodName} {ccy : ByteArray} {nLy dy mcy msy idx h : Nat} {wc : va_W} {post2 : va_W → Prop} (q : Nat) (isC isR : List Nat) (wr : va_W) (hdg : decode cc pc = .ok (.invokespecial idx, 3)) (F : cx_FN y ccy nLy) (hw : ∀ U, cx_N U → va_Nw (.methodLinkNest own idx y host) U) (hM : ∀ z, cx_M l G y ccy nLy dy mcy msy [.ref h] wc z post2) (hC : isC.map (fun i => w[i]?) = wc.map some) (hnC : va_nd isC = true) (hR : isR.map (fun i => w[i]?) = wr.map some) (hnR : va_nd isR = true) (hdis : ∀ i ∈ isR, i ∉ isC) (hd : dy + 1 ≤ d) (hc : kc + mcy ≤ mc) (hs : ks + msy ≤ ms) (hcat : (rest.map fun v => v.category).sum ≤ 8) (hq : pc + 3 = q) (k : ∀ w1, post2 w1 → cx_At l G own cc nL d mc ms ws sz post nm q lv rest (wr ++ w1) (kc + mcy) (ks + msy)) : cx_At l G own cc nL d mc ms ws sz post nm pc lv (.ref h :: rest) w kc ks := by
  subst hq
  intro p e s m args below meth c X ls hl H locs hP hD hS
  exact cx_run (cx_runIN ⟨X.1, X.2.1, X.2.2.1, X.2.2.2.1, X.2.2.2.2.1⟩ F (hw s X.2.2.2.2.2.2.2.2.1) (hM H.size) ⟨hd, Nat.mul_le_mul_left 40 hd, hc, hs⟩ X.2.2.2.2.2.2.2.1 X.2.2.2.2.2.2.2.2.1 hP hD isC hC hnC hl.1 hcat hdg) hP hD hS (fun q hq => Or.inr (by rw [← X.2.2.2.2.2.2.2.2.2.2]; exact hq)) isC isR hC hR hnR hdis (fun H1 locs1 w1 hp hP1 hD1 hS1 => k w1 hp p e s m args below meth c X ls hl H1 locs1 hP1 hD1 hS1)
theorem cx_callS {y : MethodName} {ccy : ByteArray} {nLy dy mcy msy idx n : Nat} {wc : va_W} {post2 : va_W → Prop} {st : List Value} (q : Nat) (As : List Value) (isC isR : List Nat) (wr : va_W) (hdg : decode cc pc = .ok (.invokestatic idx, 3)) (F : ux_FS own idx y ccy nLy none n) (hM : ∀ z, cx_M l G y ccy nLy dy mcy msy As wc z post2) (hn : As.length = n) (hst : st = As.reverse ++ rest) (hC : isC.map (fun i => w[i]?) = wc.map some) (hnC : va_nd isC = true) (hR : isR.map (fun i => w[i]?) = wr.map some) (hnR : va_nd isR = true) (hdis : ∀ i ∈ isR, i ∉ isC) (hd : dy + 1 ≤ d) (hc : kc + mcy ≤ mc) (hs : ks + msy ≤ ms) (hcat : (rest.map fun v => v.category).sum ≤ 8) (hq : pc + 3 = q) (k : ∀ w1, post2 w1 → cx_At l G own cc nL d mc ms ws sz post nm q lv rest (wr ++ w1) (kc + mcy) (ks + msy)) : cx_At l G own cc nL d mc ms ws sz post nm pc lv st w kc ks := by
  subst hq
  intro p e s m args below meth c X ls hl H locs hP hD hS
  exact cx_run (cx_runS ⟨X.1, X.2.1, X.2.2.1, X.2.2.2.1, X.2.2.2.2.1⟩ F (hM H.size) ⟨hd, Nat.mul_le_mul_left 40 hd, hc, hs⟩ X.2.2.2.2.2.2.2.1 X.2.2.2.2.2.2.2.2.1 hP hD isC hC hnC hn hl.1 hst hcat hdg) hP hD hS (fun q hq => Or.inr (by rw [← X.2.2.2.2.2.2.2.2.2.2]; exact hq)) isC isR hC hR hnR hdis (fun H1 locs1 w1 hp hP1 hD1 hS1 => k w1 hp p e s m args below meth c X ls hl H1 locs1 hP1 hD1 hS1)
theorem cx_int {a n : Nat} {f g : Nat → Int32} {cA : ClassId} (k0 : Nat) (ha : w[k0]? = some (a, .inl (cA, n, .inl f))) (hfg : ∀ j, j < n → f j = g j) (k : cx_At l G own cc nL d mc ms ws sz post nm pc lv rest (w.set k0 (a, .inl (cA, n, .inl g))) kc ks) : cx_At l G own cc nL d mc ms ws sz post nm pc lv rest w kc ks := by
  intro p e s m args below meth c X ls hl H locs hP hD hS
  have hk0 : k0 < w.length := (List.getElem?_eq_some_iff.mp ha).1
  refine k p e s m args below meth c X ls hl H locs ?_ ?_ hS
  · intro i x hi
    by_cases h9 : i = k0
    · subst h9
      rw [List.getElem?_set_self hk0] at hi
      cases hi
      have h1 : H[a]? = some (vp_cell cA (n, .inl f)) := hP i _ ha
      show H[a]? = some (vp_cell cA (n, .inl g))
      rw [h1, vp_cell_i, vp_cell_i]
      exact congrArg some (cx_arrV (fun j hj => by rw [hfg j hj]))
    · rw [List.getElem?_set_ne (Ne.symm h9)] at hi
      exact hP i x hi
  · refine cx_D hD ?_
    apply List.ext_getElem?
    intro i
    rw [List.getElem?_map, List.getElem?_map]
    by_cases h9 : i = k0
    · subst h9
      rw [List.getElem?_set_self hk0, ha]
      rfl
    · rw [List.getElem?_set_ne (Ne.symm h9)]
end CXT
/-! Arrays.fill in a constructor -/
theorem cx_ibN {x : Int32} {i n : Nat} (h : x.toNatClampNeg = i) (hi : i < n) (h0 : ¬ x < 0) : ux_ib x n = true := by
  unfold ux_ib
  simp [h0, h, hi]
theorem cx_fillLoop {l : Launch} {G : ux_G} {a n sz : Nat} {f : Nat → Int32} {v : Int32} (hn : n < 1000) : ∀ (j : Nat) (g : Nat → Int32) (i : Nat), i + j = n → (∀ k, k < i → g k = v) → cx_At l G RJ7 cJ7_fill_53178 4 0 0 0 [(a, .inl (G.2.2.1 0, n, .inl f))] sz (fun w => w = [(a, .inl (G.2.2.1 0, n, .inl (fun _ => v)))]) "fill" 5 [(0, .ref a), (1, .int v), (2, .int (nI i)), (3, .int (nI n))] [] [(a, .inl (G.2.2.1 0, n, .inl g))] 0 0
  | 0, g, i, hij, hg => by
    refine cx_iload_n 6 dJ7_fill_53178_5 rfl 2 rfl rfl ?_
    refine cx_iload_n 7 dJ7_fill_53178_6 rfl 3 rfl rfl ?_
    refine cx_icmp_ge 20 10 dJ7_fill_53178_7 rfl rfl (fun _ => ?_) (fun hne => absurd ?_ hne)
    · refine cx_int (g := fun _ => v) 0 rfl (fun j hj => hg j (by omega)) ?_
      exact cx_vret dJ7_fill_53178_20 (Nat.le_refl _) (Nat.le_refl _) rfl
    · have : i = n := by omega
      subst this
      exact Int32.le_refl _
  | j + 1, g, i, hij, hg => by
    have hlt : ¬ nI n ≤ nI i := nI_ge (by omega) (by omega)
    have hi : (nI i).toNatClampNeg = i := nI_clamp (by omega)
    refine cx_iload_n 6 dJ7_fill_53178_5 rfl 2 rfl rfl ?_
    refine cx_iload_n 7 dJ7_fill_53178_6 rfl 3 rfl rfl ?_
    refine cx_icmp_ge 20 10 dJ7_fill_53178_7 rfl rfl (fun h => absurd h hlt) (fun _ => ?_)
    refine cx_aload_n 11 dJ7_fill_53178_10 rfl 0 rfl rfl ?_
    refine cx_iload_n 12 dJ7_fill_53178_11 rfl 2 rfl rfl ?_
    refine cx_iload_n 13 dJ7_fill_53178_12 rfl 1 rfl rfl ?_
    refine cx_iast 0 14 dJ7_fill_53178_13 rfl (cx_ibN hi (by omega) (nI_pos (by omega))) rfl ?_
    refine cx_re [(a, .inl (G.2.2.1 0, n, .inl (upd g i v)))] (by rw [hi]; rfl) ?_
    refine cx_iinc 17 dJ7_fill_53178_14 2 rfl (v := nI (i + 1)) (nI_1 i) (by decide) [1, 2, 0, 3] _ rfl rfl ?_
    refine cx_goto 5 dJ7_fill_53178_17 rfl ?_
    exact cx_fillLoop hn j (upd g i v) (i + 1) (by omega) (fun k hk => by
      unfold upd
      by_cases h : k = i
      · simp [h]
      · simp [h]
        exact hg k (by omega))
theorem cx_fill {l : Launch} {G : ux_G} {a n sz : Nat} {f : Nat → Int32} {v : Int32} (hn : n < 1000) : cx_M l G yJ7_fill_53178 cJ7_fill_53178 4 0 0 0 [.ref a, .int v] [(a, .inl (G.2.2.1 0, n, .inl f))] sz (fun w => w = [(a, .inl (G.2.2.1 0, n, .inl (fun _ => v)))]) := by
  refine cx_of (by decide) (Nat.le_of_ble_eq_true rfl) ?_
  show cx_At l G RJ7 cJ7_fill_53178 4 0 0 0 [(a, .inl (G.2.2.1 0, n, .inl f))] sz (fun w => w = [(a, .inl (G.2.2.1 0, n, .inl (fun _ => v)))]) "fill" 0 [(0, .ref a), (1, .int v)] [] [(a, .inl (G.2.2.1 0, n, .inl f))] 0 0
  refine cx_iconst 1 dJ7_fill_53178_0 rfl rfl ?_
  refine cx_istore_n 2 dJ7_fill_53178_1 rfl (by decide) [1, 2, 0] [(0, .ref a), (1, .int v), (2, .int (nI 0))] rfl rfl ?_
  refine cx_aload_n 3 dJ7_fill_53178_2 rfl 0 rfl rfl ?_
  refine cx_alen 0 4 dJ7_fill_53178_3 rfl rfl ?_
  refine cx_istore_n 5 dJ7_fill_53178_4 rfl (by decide) [1, 2, 3, 0] _ rfl rfl ?_
  exact cx_fillLoop hn n f 0 (by omega) (fun k hk => absurd hk (by omega))
