/-! constructors: a world that grows -/
def va_AOA (ty : FieldType) (U : State) : Prop := (Cond.arrayOver (.array ty)).before #[] U = true
theorem va_AOA.use {ty : FieldType} {A : Array Value} {U : State} (h : va_AOA ty U) : (Cond.arrayOver (.array ty)).before A U = true := h
theorem va_AOA.moved {ty : FieldType} {s U : State} (hW : s.vm.Alike U.vm) (h : va_AOA ty s) : va_AOA ty U := by
  have h2 : (Cond.arrayOver (.array ty)).before #[] (s.setVm U.vm) = true := by
    rw [Cond.arrayOver_setVmC hW]
    exact h
  exact h2

/-! ===== BEGIN new T[n][m]: the outer array a place, the inner ones among the pooled ===== -/
/-- f, but v at every address of l -/
def vr_up {α : Type} (f : Nat → α) (l : List Nat) (v : α) : Nat → α := fun a => if a ∈ l then v else f a
theorem vr_up_in {α : Type} {f : Nat → α} {l : List Nat} {v : α} {a : Nat} (h : a ∈ l) : vr_up f l v a = v := if_pos h
theorem vr_up_ne {α : Type} {f : Nat → α} {l : List Nat} {v : α} {a : Nat} (h : a ∉ l) : vr_up f l v a = f a := if_neg h
theorem vr_rows {L l : List Nat} {f : Nat → va_E} {e : va_E} (h : ∀ a, a ∈ l → a ∉ L) : va_pl L f ++ l.map (fun a => (a, e)) = va_pl (L ++ l) (vr_up f l e) := by
  unfold va_pl
  rw [List.map_append]
  congr 1
  · apply List.map_congr_left
    intro a ha
    rw [vr_up_ne (fun q => h a q ha)]
  · apply List.map_congr_left
    intro a ha
    rw [vr_up_in ha]
theorem vr_lay {X rows : va_W} {x : Nat × va_E} {pl : va_W} {D : va_G} {cl : List vw_C} {H : Heap} (hP : va_P D cl (((X ++ pl) ++ [x]) ++ rows) H) : va_P D cl ((X ++ [x]) ++ (pl ++ rows)) H := by
  rw [List.append_assoc (X ++ pl)] at hP
  have h := va_P.swap hP
  rw [← List.append_assoc X] at h
  have h2 := va_P.swap h
  rw [List.append_assoc (X ++ [x])] at h2
  exact h2
theorem vr_layD {X rows : va_W} {x : Nat × va_E} {pl : va_W} {A : Nat → Prop} (hD : va_D A (((X ++ pl) ++ [x]) ++ rows)) : va_D A ((X ++ [x]) ++ (pl ++ rows)) := by
  rw [List.append_assoc (X ++ pl)] at hD
  have h := va_D.swap hD
  rw [← List.append_assoc X] at h
  have h2 := va_D.swap h
  rw [List.append_assoc (X ++ [x])] at h2
  exact h2
theorem vr_outer (c : ClassId) (N h0 : Nat) : ∀ i : Nat, Jvm.Free.Multi.outerC c N h0 i = arrV c N (fun j => va_rf (if j < i then some (h0 + 1 + j) else none))
  | 0 => by
    show ({ cls := c, slots := Array.replicate N .null, vm := .none } : Cell) = _
    rw [arrV_new]
    refine congrArg (arrV c N) (funext fun j => ?_)
    simp [va_rf]
  | i + 1 => by
    show (Jvm.Free.Multi.outerC c N h0 i).setSlot i (.ref (h0 + 1 + i)) = _
    rw [vr_outer c N h0 i, arrV_store]
    refine congrArg (arrV c N) (funext fun j => ?_)
    by_cases e : j = i
    · subst e
      simp [updV, va_rf]
    · by_cases h : j < i
      · simp [updV, e, h, Nat.lt_succ_of_lt h]
      · simp [updV, e, h, show ¬ j < i + 1 by omega]
section VGM
variable {p : Program} {l : Launch} {e : Env} {R : Room} {s : State} {m : MethodId} {args : Array Value} {below : List Frame} {meth : Method} {c : Code} {H : Heap} {locs : List Loc} {cells slots : Nat} {Q : State → Prop}
variable {cc : ByteArray} {pc : Nat} {ls : Array Slot} {rest : List Value} {D : va_G} {cl : List vw_C} {A : Nat → Prop} {a : Nat} {tys : List (ClassId × FieldType)} {ws : va_W} {H0 : Heap}
theorem va_mna {X : va_W} {L : List Nat} {f : Nat → va_E} {cc : ByteArray} (hexec : p.tables.exec = Jvm.exec) (hb : c.code = cc) {own : String} {index : Nat} {ty : FieldType} {cy : ClassId} (hown : s.vm.findClass own = some m.cls) (hclink : (Cond.classLink own index ("[" ++ (FieldType.array ty).toString)).before args s = true) (hover : va_AOA ty s) (harr : (Cond.arrayClass ty).before args s = true) (hcy : s.vm.findClass (FieldType.array ty).toString = some cy)
    (hK : va_K D cl tys s) (hP : va_P D cl (X ++ va_pl L f) H) (hD : va_D A (X ++ va_pl L f)) (hS : va_S A H0 H locs) (hA : ∀ q, H0.size ≤ q → A q) {n k : Int32} {N' K' : Nat} {z : vp_A} (hn : ¬ n < 0) (hk : ¬ k < 0) (hN : n.toNatClampNeg = N') (hM : k.toNatClampNeg = K')
    (hb1 : N' * 4 ≤ 536870912) (hb2 : K' * componentBytes ty ≤ 536870912) (hb3 : K' ≤ 536870912) (hdf : fits ty (defaultValue ty) = true) (hdd : (defaultValue ty).isDefault = true) (hcells : cells + (1 + N') ≤ R.cells) (hslots : slots + (N' + N' * K') ≤ R.slots) (hz : ∀ c : ClassId, Jvm.Free.Multi.innerC c K' (defaultValue ty) = vp_cell c z) (hdg : decode cc pc = .ok (.multianewarray index 2, 4))
    (kk : ∀ (q : Nat) (r : Nat → Nat) (cA : ClassId) (H1 : Heap), (∀ i j : Nat, i < N' → j < N' → r i = r j → i = j) → (∀ i : Nat, i < N' → r i ∉ L) → va_K D cl (tys ++ [(cA, .array ty)]) s →
      va_P D cl ((X ++ [(q, .inl (cA, N', .inr (.inr (.inr (.inr (fun i => if i < N' then some (r i) else none))))))]) ++ va_pl (L ++ (List.range N').map r) (vr_up f ((List.range N').map r) (.inl (cy, z)))) H1 → va_D A ((X ++ [(q, .inl (cA, N', .inr (.inr (.inr (.inr (fun i => if i < N' then some (r i) else none))))))]) ++ va_pl (L ++ (List.range N').map r) (vr_up f ((List.range N').map r) (.inl (cy, z)))) → va_S A H0 H1 locs →
      W p l e R s m args below meth c H1 locs (cells + 1 + N') (slots + N' + N' * K') Q (F0 m (pc + 4) ls (.ref q :: rest))) : W p l e R s m args below meth c H locs cells slots Q (F0 m pc ls (.int k :: .int n :: rest)) := by
  subst hN
  subst hM
  intro T hT Xs
  obtain ⟨vm₁, cA, comp, -, fA, fC, hO, -, X', step⟩ := Xs.multianewarray2F hexec hown hclink (va_AOA.use hover) harr (g := F0 m pc ls (.int k :: .int n :: rest)) rfl (by rw [hb]; exact hdg) rfl hn hk hb1 hb2 hb3 hdf hdd hcells hslots
  have ec : some cy = some comp := hcy.symm.trans fC
  cases ec
  generalize hF : Jvm.Free.Multi.fill (T.setVm vm₁) cA cy n.toNatClampNeg k.toNatClampNeg (defaultValue ty) n.toNatClampNeg = F at X' step
  have hTh : (T.setVm vm₁).heap = H := hT
  obtain ⟨f1, f2, -, -⟩ := Jvm.Free.Multi.fill_facts (T.setVm vm₁) cA cy n.toNatClampNeg k.toNatClampNeg (defaultValue ty) n.toNatClampNeg
  rw [hF, hTh] at f1 f2
  have hold : ∀ x : Nat, x < H.size → F.heap[x]? = H[x]? := fun x hx => by
    have := Jvm.Free.Multi.fill_old (T.setVm vm₁) cA cy n.toNatClampNeg k.toNatClampNeg (defaultValue ty) (a := x) (by rw [hTh]; exact hx) n.toNatClampNeg
    rw [hF, hTh] at this
    exact this
  have hrow : ∀ j : Nat, j < n.toNatClampNeg → F.heap[H.size + 1 + j]? = some (vp_cell cy z) := fun j hj => by
    have := Jvm.Free.Multi.fill_inner (T.setVm vm₁) cA cy n.toNatClampNeg k.toNatClampNeg (defaultValue ty) n.toNatClampNeg j hj
    rw [hF, hTh, hz] at this
    exact this
  have hout : Jvm.Free.Multi.outerC cA n.toNatClampNeg H.size n.toNatClampNeg = vp_cell cA (n.toNatClampNeg, .inr (.inr (.inr (.inr (fun i => if i < n.toNatClampNeg then some (H.size + 1 + i) else none))))) := by
    rw [vp_cell_q]
    exact vr_outer cA n.toNatClampNeg H.size n.toNatClampNeg
  rw [hout] at f2
  have hlt : ∀ a, a ∈ L → a < H.size := fun a ha => by
    obtain ⟨k9, hk9⟩ := va_pl_get (X := X) (f := f) ha
    exact (hP k9 _ hk9).lt
  have hnl : ∀ i : Nat, i < n.toNatClampNeg → H.size + 1 + i ∉ L := fun i _ h => by
    have := hlt _ h
    omega
  have hnm : ∀ a, a ∈ (List.range n.toNatClampNeg).map (fun i => H.size + 1 + i) → a ∉ L := fun a ha h => by
    obtain ⟨i, -, rfl⟩ := List.mem_map.mp ha
    have := hlt _ h
    omega
  have hP0 : va_P D cl (X ++ va_pl L f) F.heap := hP.kept (fun k9 x hx => hold x.1 ((hP k9 x hx).lt))
  have hP1 : va_P D cl ((X ++ va_pl L f) ++ [(H.size, .inl (cA, n.toNatClampNeg, .inr (.inr (.inr (.inr (fun i => if i < n.toNatClampNeg then some (H.size + 1 + i) else none))))))]) F.heap := hP0.app (fun k9 x hx => by
    have h0 : k9 < 1 := (List.getElem?_eq_some_iff.mp hx).1
    rw [show k9 = 0 by omega] at hx
    cases hx
    exact f2)
  have hP2 : va_P D cl (((X ++ va_pl L f) ++ [(H.size, .inl (cA, n.toNatClampNeg, .inr (.inr (.inr (.inr (fun i => if i < n.toNatClampNeg then some (H.size + 1 + i) else none))))))]) ++ ((List.range n.toNatClampNeg).map (fun i => H.size + 1 + i)).map (fun a => (a, .inl (cy, z)))) F.heap := hP1.app (fun k9 x hx => by
    obtain ⟨a, ha, rfl⟩ := List.mem_map.mp (List.mem_of_getElem? hx)
    obtain ⟨i, hi, rfl⟩ := List.mem_map.mp ha
    exact hrow i (List.mem_range.mp hi))
  have hD2 : va_D A (((X ++ va_pl L f) ++ [(H.size, .inl (cA, n.toNatClampNeg, .inr (.inr (.inr (.inr (fun i => if i < n.toNatClampNeg then some (H.size + 1 + i) else none))))))]) ++ ((List.range n.toNatClampNeg).map (fun i => H.size + 1 + i)).map (fun a => (a, .inl (cy, z)))) := by
    have hD1 := hD.push (e := .inl (cA, n.toNatClampNeg, .inr (.inr (.inr (.inr (fun i => if i < n.toNatClampNeg then some (H.size + 1 + i) else none)))))) hP rfl (hA _ hS.1)
    generalize hW1 : (X ++ va_pl L f) ++ [(H.size, .inl (cA, n.toNatClampNeg, .inr (.inr (.inr (.inr (fun i => if i < n.toNatClampNeg then some (H.size + 1 + i) else none))))))] = W1 at hD1 hP1 ⊢
    have hle : ∀ (k9 : Nat) (x : Nat × va_E), W1[k9]? = some x → x.1 ≤ H.size := fun k9 x hx => by
      rw [← hW1] at hx
      by_cases hl : k9 < (X ++ va_pl L f).length
      · rw [List.getElem?_append_left hl] at hx
        exact Nat.le_of_lt ((hP k9 x hx).lt)
      · rw [List.getElem?_append_right (by omega)] at hx
        have h0 : k9 - (X ++ va_pl L f).length < 1 := (List.getElem?_eq_some_iff.mp hx).1
        rw [show k9 - (X ++ va_pl L f).length = 0 by omega] at hx
        cases hx
        exact Nat.le_refl _
    have hr : ∀ (k9 : Nat) (x : Nat × va_E), (((List.range n.toNatClampNeg).map (fun i => H.size + 1 + i)).map (fun a => ((a, .inl (cy, z)) : Nat × va_E)))[k9]? = some x → x.1 = H.size + 1 + k9 := fun k9 x hx => by
      rw [List.getElem?_map, List.getElem?_map] at hx
      by_cases h9 : k9 < n.toNatClampNeg
      · rw [List.getElem?_range h9] at hx
        cases hx
        rfl
      · have hn0 : (List.range n.toNatClampNeg)[k9]? = none := List.getElem?_eq_none (by rw [List.length_range]; omega)
        rw [hn0] at hx
        cases hx
    refine ⟨fun i j x y hi hj hxy => ?_, fun k9 x hx => ?_⟩
    · by_cases h1 : i < W1.length <;> by_cases h2 : j < W1.length
      · rw [List.getElem?_append_left h1] at hi
        rw [List.getElem?_append_left h2] at hj
        exact hD1.1 i j x y hi hj hxy
      · rw [List.getElem?_append_left h1] at hi
        rw [List.getElem?_append_right (by omega)] at hj
        have := hle _ _ hi
        have := hr _ _ hj
        omega
      · rw [List.getElem?_append_right (by omega)] at hi
        rw [List.getElem?_append_left h2] at hj
        have := hle _ _ hj
        have := hr _ _ hi
        omega
      · rw [List.getElem?_append_right (by omega)] at hi hj
        have := hr _ _ hi
        have := hr _ _ hj
        omega
    · by_cases h1 : k9 < W1.length
      · rw [List.getElem?_append_left h1] at hx
        exact hD1.2 k9 x hx
      · rw [List.getElem?_append_right (by omega)] at hx
        have := hr _ _ hx
        exact hA _ (by have := hS.1; omega)
  have hAr : ArrOfT s cA (.array ty) := fun N9 z9 => by
    obtain ⟨-, k9, hk9, cm9, hkk9⟩ := (hO 0 0 0).1
    exact ⟨(fun q hq => by cases hq), k9, hk9, cm9, hkk9⟩
  have hK2 : va_K D cl (tys ++ [(cA, .array ty)]) s := ⟨hK.1, fun k9 x hx => by
    by_cases hl : k9 < tys.length
    · rw [List.getElem?_append_left hl] at hx
      exact hK.2 k9 x hx
    · rw [List.getElem?_append_right (by omega)] at hx
      have h0 : k9 - tys.length < 1 := (List.getElem?_eq_some_iff.mp hx).1
      rw [show k9 - tys.length = 0 by omega] at hx
      cases hx
      exact ⟨hAr, fA⟩⟩
  obtain ⟨t, a1, b1⟩ := kk H.size (fun i => H.size + 1 + i) cA F.heap (fun i j _ _ h => by have h9 : H.size + 1 + i = H.size + 1 + j := h; omega) hnl hK2 (by rw [← vr_rows hnm]; exact vr_lay hP2) (by rw [← vr_rows hnm]; exact vr_layD hD2) ⟨by rw [f1]; have := hS.1; omega, fun x h1 h2 => (hold x (Nat.lt_of_lt_of_le h1 hS.1)).trans (hS.2.1 x h1 h2), hS.2.2⟩ F rfl X'
  refine ⟨t, step t ?_, b1⟩
  have e : T.heap.size = H.size := by rw [hT]
  rw [e]
  exact a1
end VGM

def cx_N (U : State) : Prop := va_Nw (.methodLinkNest RX7 9 yX2_init RX7) U ∧ va_Nw (.methodLinkNest RX7 25 yX4_init RX7) U ∧ va_Nw (.methodLinkNest RX7 46 yX0_init RX7) U ∧ va_Nw (.methodLinkNest RX7 53 yX3_init RX7) U ∧ va_AOA .int U ∧ va_AOA .long U
theorem cx_N.warm {s U : State} (h : cx_N s) (hW : s.WarmedH U.vm) : cx_N U := ⟨va_Nw.warmM hW h.1, va_Nw.warmM hW h.2.1, va_Nw.warmM hW h.2.2.1, va_Nw.warmM hW h.2.2.2.1, h.2.2.2.2.1.moved hW.alike, h.2.2.2.2.2.moved hW.alike⟩
theorem cx_N.same {s U : State} (h : cx_N s) (hv : s.vm = U.vm) : cx_N U := ⟨va_Nw.same rfl hv h.1, va_Nw.same rfl hv h.2.1, va_Nw.same rfl hv h.2.2.1, va_Nw.same rfl hv h.2.2.2.1, h.2.2.2.2.1.moved (by rw [hv]; exact Vm.Alike.refl _), h.2.2.2.2.2.moved (by rw [hv]; exact Vm.Alike.refl _)⟩
def cx_P (G : ux_G) (av : List Value) (ws : va_W) (sz : Nat) : Array Value → State → Prop := va_Pc av (fun U => U.heap.size = sz ∧ va_P (ux_D G) ux_cl ws U.heap ∧ va_K (ux_D G) ux_cl (ux_ty G) U ∧ cx_N U ∧ va_D (fun _ => True) ws)
def cx_Q (G : ux_G) (ws : va_W) (sz : Nat) (post : va_W → Prop) : Array Value → State → Outcome → State → Prop := fun _ st o t => o = .returned none ∧ (∃ w, post w ∧ va_P (ux_D G) ux_cl w t.heap ∧ va_D (va_A ws sz) w) ∧ va_F (va_A ws sz) st t
def cx_rm (d mc ms : Nat) : Room := { frames := d, cells := mc, slots := ms, locals := 40 * d }
def cx_M (l : Launch) (G : ux_G) (y : MethodName) (cc : ByteArray) (nL d mc ms : Nat) (av : List Value) (ws : va_W) (sz : Nat) (post : va_W → Prop) : Prop :=
  Met l y (.code y cc nL none :: ux_WA) (cx_rm d mc ms) (cx_P G av ws sz) (cx_Q G ws sz post) mc ms (va_A ws sz)
theorem cx_P.blind {G : ux_G} {av : List Value} {ws : va_W} {sz : Nat} : FrameBlind (cx_P G av ws sz) := by
  intro a U g mk q
  obtain ⟨q0, q1, qP, qK, qN, qD⟩ := q
  exact ⟨q0, q1, qP, va_K.moved (u := U) (U := U.calling g mk a) (Vm.Alike.refl U.vm) qK, qN.same rfl, qD⟩
def cx_X (p : Program) (s : State) (m : MethodId) (args : Array Value) (meth : Method) (c : Code) (G : ux_G) (own : String) (cc : ByteArray) (nL sz : Nat) (nm : String) : Prop :=
  p.tables.exec = Jvm.exec ∧ c.code = cc ∧ c.maxLocals = nL ∧ s.vm.findClass own = some m.cls ∧ (∀ w ∈ ux_WA, w.before args s = true) ∧ meth.sig.returnType = none ∧ meth.locks = false ∧ va_K (ux_D G) ux_cl (ux_ty G) s ∧ cx_N s ∧ meth.name = nm ∧ s.heap.size = sz
def cx_At (l : Launch) (G : ux_G) (own : String) (cc : ByteArray) (nL d mc ms : Nat) (ws : va_W) (sz : Nat) (post : va_W → Prop) (nm : String) (pc : Nat) (lv : List (Nat × Value)) (st : List Value) (w : va_W) (kc ks : Nat) : Prop :=
  ∀ (p : Program) (e : Env) (s : State) (m : MethodId) (args : Array Value) (below : List Frame) (meth : Method) (c : Code), cx_X p s m args meth c G own cc nL sz nm → ∀ (ls : Array Slot), lv_has ls nL lv → ∀ (H : Heap) (locs : List Loc), va_P (ux_D G) ux_cl w H → va_D (va_A ws sz) w → va_S (va_A ws sz) s.heap H locs → W p l e (cx_rm d mc ms) s m args below meth c H locs kc ks (MQ below (cx_Q G ws sz post) args s mc ms (va_A ws sz)) (F0 m pc ls st)
theorem cx_of {l : Launch} {G : ux_G} {y : MethodName} {cc : ByteArray} {nL d mc ms : Nat} {av : List Value} {ws : va_W} {sz : Nat} {post : va_W → Prop} (hy : plainName y.cls = true) (hn : (lg_sl av).length ≤ nL) (h : cx_At l G y.cls cc nL d mc ms ws sz post y.name 0 (lv_args 0 av) [] ws 0 0) : cx_M l G y cc nL d mc ms av ws sz post := by
  refine Met.ofW (cc := cc) (maxL := nL) (ret := none) hy rfl ?_
  intro p e s m args below meth c s₁ B hml hv
  obtain ⟨rfl, hsz, hP, hK, hN, hD⟩ := hv
  have hts := atoms_spec (ws := .code y cc nL none :: ux_WA) B.pre
  have hl := lv_entry av (n := nL) hn
  rw [lg_entry_eq]
  exact h p e s m av.toArray below meth c ⟨B.exec, B.bytes, hml, findClass_of_methodNamed B.named, fun w hw => hts w (List.mem_cons_of_mem _ hw), B.returns, B.notSynchronized, hK, hN, (name_of_methodNamed B.named B.method).1, hsz⟩ _ hl s.heap [] hP hD.self va_S.rf

theorem cx_wo1 : Cond.instanceMethod objectInit ∈ ux_WA := ux_m1 20 rfl rfl
theorem cx_wo2 : Cond.code objectInit ⟨#[0xb1]⟩ 1 none ∈ ux_WA := ux_m1 21 rfl rfl
theorem cx_arrV {c : ClassId} {N : Nat} {f g : Nat → Value} (h : ∀ j, j < N → f j = g j) : arrV c N f = arrV c N g := by
  unfold arrV
  congr 1
  apply Array.ext
  · simp
  · intro i h1 h2
    simp at h1
    simp [h i h1]
theorem cx_D {A : Nat → Prop} {w v : va_W} (h : va_D A w) (e : w.map Prod.fst = v.map Prod.fst) : va_D A v := by
  have key : ∀ (i : Nat) (x : Nat × va_E), v[i]? = some x → ∃ y, w[i]? = some y ∧ y.1 = x.1 := by
    intro i x hx
    have h1 : (v.map Prod.fst)[i]? = some x.1 := by rw [List.getElem?_map, hx]; rfl
    rw [← e, List.getElem?_map] at h1
    cases hy : w[i]? with
    | none => rw [hy] at h1; cases h1
    | some y => rw [hy] at h1; exact ⟨y, rfl, Option.some.inj h1⟩
  refine ⟨fun i j x y hi hj hxy => ?_, fun k q hk => ?_⟩
  · obtain ⟨x2, a1, a2⟩ := key i x hi
    obtain ⟨y2, b1, b2⟩ := key j y hj
    exact h.1 i j x2 y2 a1 b1 (by rw [a2, b2]; exact hxy)
  · obtain ⟨x2, a1, a2⟩ := key k q hk
    rw [← a2]
    exact h.2 k x2 a1
section CXR
variable {l : Launch} {G : ux_G} {own : String} {cc : ByteArray} {nL d mc ms : Nat} {ws : va_W} {sz : Nat} {post : va_W → Prop} {nm : String} {pc : Nat} {lv : List (Nat × Value)} {rest : List Value} {w : va_W} {kc ks : Nat}
theorem cx_iconst {n : Int} {v : Int32} (q : Nat) (hdg : decode cc pc = .ok (.iconst n, 1)) (hv : Int32.ofInt n = v) (hq : pc + 1 = q) (k : cx_At l G own cc nL d mc ms ws sz post nm q lv (.int v :: rest) w kc ks) : cx_At l G own cc nL d mc ms ws sz post nm pc lv rest w kc ks := by
  subst hq
  exact fun p e s m args below meth c X ls hl H locs hP hD hS => lv_iconst X.1 X.2.1 hdg hv (k p e s m args below meth c X ls hl H locs hP hD hS)
theorem cx_bipush {n : Int} {v : Int32} (q : Nat) (hdg : decode cc pc = .ok (.bipush n, 2)) (hv : (Int8.ofInt n).toInt32 = v) (hq : pc + 2 = q) (k : cx_At l G own cc nL d mc ms ws sz post nm q lv (.int v :: rest) w kc ks) : cx_At l G own cc nL d mc ms ws sz post nm pc lv rest w kc ks := by
  subst hq
  exact fun p e s m args below meth c X ls hl H locs hP hD hS => lv_bipush X.1 X.2.1 hdg hv (k p e s m args below meth c X ls hl H locs hP hD hS)
theorem cx_sipush {n : Int} {v : Int32} (q : Nat) (hdg : decode cc pc = .ok (.sipush n, 3)) (hv : (Int16.ofInt n).toInt32 = v) (hq : pc + 3 = q) (k : cx_At l G own cc nL d mc ms ws sz post nm q lv (.int v :: rest) w kc ks) : cx_At l G own cc nL d mc ms ws sz post nm pc lv rest w kc ks := by
  subst hq
  exact fun p e s m args below meth c X ls hl H locs hP hD hS => lv_sipush X.1 X.2.1 hdg hv (k p e s m args below meth c X ls hl H locs hP hD hS)
theorem cx_ldc {idx : Nat} {v : Int32} (q : Nat) (hdg : decode cc pc = .ok (.ldc idx, 2)) (hc : Cond.constant own idx v ∈ ux_WA) (hq : pc + 2 = q) (k : cx_At l G own cc nL d mc ms ws sz post nm q lv (.int v :: rest) w kc ks) : cx_At l G own cc nL d mc ms ws sz post nm pc lv rest w kc ks := by
  subst hq
  exact fun p e s m args below meth c X ls hl H locs hP hD hS => lv_ldc X.1 X.2.1 X.2.2.2.1 (X.2.2.2.2.1 _ hc) hdg (k p e s m args below meth c X ls hl H locs hP hD hS)
theorem cx_iload_n {k0 : Fin 4} {i : Nat} {x : Int32} (q : Nat) (hdg : decode cc pc = .ok (.iload_n k0, 1)) (hi : (k0 : Nat) = i) (j : Nat) (hj : lv[j]? = some (i, .int x)) (hq : pc + 1 = q) (k : cx_At l G own cc nL d mc ms ws sz post nm q lv (.int x :: rest) w kc ks) : cx_At l G own cc nL d mc ms ws sz post nm pc lv rest w kc ks := by
  subst hq
  exact fun p e s m args below meth c X ls hl H locs hP hD hS => lv_iload_n X.1 X.2.1 hdg hi (lv_at hl j hj) (k p e s m args below meth c X ls hl H locs hP hD hS)
theorem cx_aload_n {k0 : Fin 4} {i : Nat} {x : Nat} (q : Nat) (hdg : decode cc pc = .ok (.aload_n k0, 1)) (hi : (k0 : Nat) = i) (j : Nat) (hj : lv[j]? = some (i, .ref x)) (hq : pc + 1 = q) (k : cx_At l G own cc nL d mc ms ws sz post nm q lv (.ref x :: rest) w kc ks) : cx_At l G own cc nL d mc ms ws sz post nm pc lv rest w kc ks := by
  subst hq
  exact fun p e s m args below meth c X ls hl H locs hP hD hS => lv_aload_n X.1 X.2.1 hdg hi (lv_at hl j hj) (k p e s m args below meth c X ls hl H locs hP hD hS)
theorem cx_dup {va : Value} (q : Nat) (hdg : decode cc pc = .ok (.dup, 1)) (hva : va.category = 1) (hq : pc + 1 = q) (k : cx_At l G own cc nL d mc ms ws sz post nm q lv (va :: va :: rest) w kc ks) : cx_At l G own cc nL d mc ms ws sz post nm pc lv (va :: rest) w kc ks := by
  subst hq
  exact fun p e s m args below meth c X ls hl H locs hP hD hS => lv_dup X.1 X.2.1 hdg hva (k p e s m args below meth c X ls hl H locs hP hD hS)
theorem cx_istore_n {k0 : Fin 4} {i : Nat} {x : Int32} (q : Nat) (hdg : decode cc pc = .ok (.istore_n k0, 1)) (hi : (k0 : Nat) = i) (hn : i < nL) (ks' : List Nat) (lv' : List (Nat × Value)) (hl' : lv_pick ((i, Value.int x) :: lv.filter (fun q => !(q.1 == i) && !(q.1 + 1 == i && q.2.category == 2))) ks' = lv') (hq : pc + 1 = q) (k : cx_At l G own cc nL d mc ms ws sz post nm q lv' rest w kc ks) : cx_At l G own cc nL d mc ms ws sz post nm pc lv (.int x :: rest) w kc ks := by
  subst hq
  exact fun p e s m args below meth c X ls hl H locs hP hD hS => lv_istore_n X.1 X.2.1 hdg hi hl hn rfl (fun ls' hl2 => k p e s m args below meth c X ls' (lv_sub hl2 ks' hl') H locs hP hD hS)
theorem cx_iinc {i : Nat} {n : Int} {x v : Int32} (q : Nat) (hdg : decode cc pc = .ok (.iinc i n, 3)) (j : Nat) (hj : lv[j]? = some (i, .int x)) (hv : x + Int32.ofInt n = v) (hn : i < nL) (ks' : List Nat) (lv' : List (Nat × Value)) (hl' : lv_pick ((i, Value.int v) :: lv.filter (fun q => !(q.1 == i) && !(q.1 + 1 == i && q.2.category == 2))) ks' = lv') (hq : pc + 3 = q) (k : cx_At l G own cc nL d mc ms ws sz post nm q lv' rest w kc ks) : cx_At l G own cc nL d mc ms ws sz post nm pc lv rest w kc ks := by
  subst hq
  exact fun p e s m args below meth c X ls hl H locs hP hD hS => lv_iinc (k := j) X.1 X.2.1 hdg hl hj hv hn rfl (fun ls' hl2 => k p e s m args below meth c X ls' (lv_sub hl2 ks' hl') H locs hP hD hS)
theorem cx_icmp_ge {x y : Int32} {off : Int} (tgt q : Nat) (hdg : decode cc pc = .ok (.if_icmp .ge off, 3)) (ht : (pc : Int) + off = (tgt : Int)) (hq : pc + 3 = q) (kt : y ≤ x → cx_At l G own cc nL d mc ms ws sz post nm tgt lv rest w kc ks) (kf : ¬ y ≤ x → cx_At l G own cc nL d mc ms ws sz post nm q lv rest w kc ks) : cx_At l G own cc nL d mc ms ws sz post nm pc lv (.int y :: .int x :: rest) w kc ks := by
  subst hq
  exact fun p e s m args below meth c X ls hl H locs hP hD hS => lv_icmp_ge X.1 X.2.1 hdg ht (fun h => kt h p e s m args below meth c X ls hl H locs hP hD hS) (fun h => kf h p e s m args below meth c X ls hl H locs hP hD hS)
theorem cx_goto {off : Int} (tgt : Nat) (hdg : decode cc pc = .ok (.goto off, 3)) (ht : (pc : Int) + off = (tgt : Int)) (k : cx_At l G own cc nL d mc ms ws sz post nm tgt lv rest w kc ks) : cx_At l G own cc nL d mc ms ws sz post nm pc lv rest w kc ks := fun p e s m args below meth c X ls hl H locs hP hD hS => lv_goto X.1 X.2.1 hdg ht (k p e s m args below meth c X ls hl H locs hP hD hS)
theorem cx_objInit {a idx : Nat} (q : Nat) (hdg : decode cc pc = .ok (.invokespecial idx, 3)) (hw : Cond.methodLink own idx objectInit ∈ ux_WA) (hd : 1 ≤ d) (hr : rest = []) (hq : pc + 3 = q) (k : cx_At l G own cc nL d mc ms ws sz post nm q lv rest w kc ks) : cx_At l G own cc nL d mc ms ws sz post nm pc lv (.ref a :: rest) w kc ks := by
  subst hq
  subst hr
  exact fun p e s m args below meth c X ls hl H locs hP hD hS => W.objInit X.1 X.2.1 X.2.2.2.1 (X.2.2.2.2.1 _ hw) (X.2.2.2.2.1 _ cx_wo1) (X.2.2.2.2.1 _ cx_wo2) rfl (by rw [X.2.2.1]; exact hl.1) rfl hdg hd (by show 2 * 0 + 0 + 12 ≤ 40 * d; omega) (W.eq (g2 := F0 m (pc + 3) ls []) rfl (k p e s m args below meth c X ls hl H locs hP hD hS))
theorem cx_tyI {cA : ClassId} {s : State} {t0 : Nat} {ty : FieldType} {c0 : ClassId} (hK : va_K (ux_D G) ux_cl (ux_ty G) s) (h0 : (ux_ty G)[t0]? = some (c0, ty)) (hK2 : va_K (ux_D G) ux_cl (ux_ty G ++ [(cA, ty)]) s) (hty : ∀ C, ty ≠ .object C) : cA = c0 := by
  have a := (hK.2 t0 _ h0).2
  have b := (hK2.2 5 (cA, ty) rfl).2
  cases ty with
  | object C => exact absurd rfl (hty C)
  | _ => exact Option.some.inj (b.symm.trans a)
theorem cx_newa {atype : ArrayType} {ty : FieldType} {t0 : Nat} {c0 : ClassId} {n : Int32} {N : Nat} {a0 : vp_A} (q : Nat) (hdg : decode cc pc = .ok (.newarray atype, 2)) (hw : Cond.arrayClass (newarray.typeOf atype) ∈ ux_WA) (hty : newarray.typeOf atype = ty) (h0 : (ux_ty G)[t0]? = some (c0, ty)) (hno : ∀ C, ty ≠ .object C) (ha : ∀ cA : ClassId, vp_cell cA a0 = arrV cA N (fun _ => defaultValue ty)) (hn : ¬ n < 0) (hN : n.toNatClampNeg = N) (hb : N * componentBytes ty ≤ 536870912) (hc : kc + 1 ≤ mc) (hs : ks + N ≤ ms) (hq : pc + 2 = q)
    (k : ∀ r : Nat, cx_At l G own cc nL d mc ms ws sz post nm q lv (.ref r :: rest) (w ++ [(r, .inl (c0, a0))]) (kc + 1) (ks + N)) : cx_At l G own cc nL d mc ms ws sz post nm pc lv (.int n :: rest) w kc ks := by
  subst hq
  intro p e s m args below meth c X ls hl H locs hP hD hS
  refine va_newa X.1 X.2.1 (X.2.2.2.2.1 _ hw) hty X.2.2.2.2.2.2.2.1 hP hD hS (fun q hq => Or.inr (by rw [← X.2.2.2.2.2.2.2.2.2.2]; exact hq)) ha hn hN hb hc hs hdg (fun r cA H1 hK1 hP1 hD1 hS1 => ?_)
  have e := cx_tyI X.2.2.2.2.2.2.2.1 h0 hK1 hno
  subst e
  exact k r p _ s m args below meth c X ls hl H1 locs hP1 hD1 hS1
theorem cx_mna {ty : FieldType} {idx t0 t1 : Nat} {c0 c1 : ClassId} {n k0 : Int32} {N M : Nat} {z : vp_A} (q : Nat) (hdg : decode cc pc = .ok (.multianewarray idx 2, 4)) (hcl : Cond.classLink own idx ("[" ++ (FieldType.array ty).toString) ∈ ux_WA) (hov : ∀ U, cx_N U → va_AOA ty U) (hw : Cond.arrayClass ty ∈ ux_WA) (h0 : (ux_ty G)[t0]? = some (c0, ty)) (h1 : (ux_ty G)[t1]? = some (c1, .array ty)) (hts : (FieldType.array ty).toString = "[" ++ ty.toString) (hno : ∀ C, ty ≠ .object C)
    (hn : ¬ n < 0) (hk : ¬ k0 < 0) (hN : n.toNatClampNeg = N) (hM : k0.toNatClampNeg = M) (hb1 : N * 4 ≤ 536870912) (hb2 : M * componentBytes ty ≤ 536870912) (hb3 : M ≤ 536870912) (hdf : fits ty (defaultValue ty) = true) (hdd : (defaultValue ty).isDefault = true) (hc : kc + (1 + N) ≤ mc) (hs : ks + (N + N * M) ≤ ms) (hz : ∀ c : ClassId, Jvm.Free.Multi.innerC c M (defaultValue ty) = vp_cell c z) (hq : pc + 4 = q)
    (k : ∀ (r : Nat) (f : Nat → Nat), cx_At l G own cc nL d mc ms ws sz post nm q lv (.ref r :: rest) ((w ++ [(r, .inl (c1, N, .inr (.inr (.inr (.inr (fun i => some (f i)))))))]) ++ (List.range N).map (fun i => (f i, .inl (c0, z)))) (kc + 1 + N) (ks + N + N * M)) : cx_At l G own cc nL d mc ms ws sz post nm pc lv (.int k0 :: .int n :: rest) w kc ks := by
  subst hq
  intro p e s m args below meth c X ls hl H locs hP hD hS
  have hK := X.2.2.2.2.2.2.2.1
  have hcy : s.vm.findClass (FieldType.array ty).toString = some c0 := by
    have a := (hK.2 t0 _ h0).2
    rw [hts]
    cases ty with
    | object C => exact absurd rfl (hno C)
    | _ => exact a
  refine va_mna (X := w) (L := []) (f := fun _ => .inr (0, [])) X.1 X.2.1 X.2.2.2.1 (X.2.2.2.2.1 _ hcl) (hov s X.2.2.2.2.2.2.2.2.1) (X.2.2.2.2.1 _ hw) hcy hK (by rw [show va_pl [] _ = [] from rfl, List.append_nil]; exact hP) (by rw [show va_pl [] _ = [] from rfl, List.append_nil]; exact hD) hS (fun q hq => Or.inr (by rw [← X.2.2.2.2.2.2.2.2.2.2]; exact hq)) hn hk hN hM hb1 hb2 hb3 hdf hdd hc hs hz hdg (fun r f cA H1 _ _ hK1 hP1 hD1 hS1 => ?_)
  have ee := cx_tyI hK h1 hK1 (fun C h => by cases h)
  subst ee
  have ew : va_pl ([] ++ (List.range N).map f) (vr_up (fun _ => .inr (0, [])) ((List.range N).map f) (.inl (c0, z))) = (List.range N).map (fun i => (f i, .inl (c0, z))) := by
    unfold va_pl
    rw [List.nil_append, List.map_map]
    apply List.map_congr_left
    intro i hi
    show (f i, vr_up _ _ _ (f i)) = _
    rw [vr_up_in (List.mem_map.mpr ⟨i, hi, rfl⟩)]
  rw [ew] at hP1 hD1
  have ec : vp_cell cA (N, .inr (.inr (.inr (.inr (fun i => if i < N then some (f i) else none))))) = vp_cell cA (N, .inr (.inr (.inr (.inr (fun i => some (f i)))))) := by
    rw [vp_cell_q, vp_cell_q]
    exact cx_arrV (fun j hj => by rw [if_pos hj])
  refine k r f p e s m args below meth c X ls hl H1 locs ?_ ?_ hS1
  · intro i x hi
    by_cases h9 : i = w.length
    · subst h9
      rw [List.getElem?_append_left (by simp), List.getElem?_append_right (Nat.le_refl _), Nat.sub_self] at hi
      cases hi
      have := hP1 w.length _ (by rw [List.getElem?_append_left (by simp), List.getElem?_append_right (Nat.le_refl _), Nat.sub_self]; rfl)
      show H1[r]? = some _
      rw [← ec]
      exact this
    · refine hP1 i x ?_
      rw [← hi]
      by_cases h8 : i < w.length
      · rw [List.append_assoc, List.append_assoc, List.getElem?_append_left h8, List.getElem?_append_left h8]
      · rw [List.getElem?_append_right (by simp; omega), List.getElem?_append_right (by simp; omega)]
        simp
  · refine cx_D hD1 ?_
    simp
end CXR
