/-! placings: the class's answers -/
def rw0 : RW := fun _ => 0
def bI (b : BS) : Int32 := match b with
  | none => -4
  | some (v, _) => nI v
theorem t_countAll {n : Nat} (hn : 10 ≤ n) {S : ux_S} {nr nm : Nat} (h1 : RHall S nr) (h3 : RMach S nm) : ∃ Z, f_X4_countAll n S = some (nI (CN nr (pok S) nm 0 rw0), Z) ∧ sm S Z := by
  have h5 := h3.1
  obtain ⟨A, a1, a2⟩ := t_freeAll hn h1 rw0
  obtain ⟨Z, z1, z2⟩ := t_count hn h1 h3 nm 7 0 rw0 A (by omega) (by omega) a2
  refine ⟨Z, ?_, z2.1⟩
  unfold f_X4_countAll f_X4_countFrom
  rw [a1, ux_bv_s, show (0 : Int32) = nI 0 from rfl, z1, ux_bi_s]
theorem t_least {n : Nat} (hn : 10 ≤ n) {S : ux_S} {nr nm av fv : Nat} (h1 : RHall S nr) (h3 : RMach S nm) (ha : S.1 1 6 = nI av) (hf : S.1 1 7 = nI fv) (hab : av ≤ 30) (hfb : 1 ≤ fv ∧ fv ≤ 5) : ∃ Z, f_X4_leastWarmth n S = some (bI (TC nr (pok S) (lfB (pW S nr nm av fv)) nm 0 rw0 none), Z) ∧ sm S Z ∧ bE nm (TC nr (pok S) (lfB (pW S nr nm av fv)) nm 0 rw0 none) Z := by
  have h8 := h1.1
  have h5 := h3.1
  obtain ⟨A, a1, a2⟩ := t_freeAll hn h1 rw0
  unfold f_X4_leastWarmth
  rw [a1, ux_bv_s]
  refine ux_lpi1 (b := b_X4_leastWarmth_7 n) nr (fun k U => cF S nr 0 rw0 U ∧ ∀ j, j < k → U.1 29 j = nI (GV S nr j)) (fun o => ∃ Z, o = some (bI (TC nr (pok S) (lfB (pW S nr nm av fv)) nm 0 rw0 none), Z) ∧ sm S Z ∧ bE nm (TC nr (pok S) (lfB (pW S nr nm av fv)) nm 0 rw0 none) Z) ?_ ?_ n 0 A (by omega) (by omega) ⟨a2, fun j hj => by omega⟩
  · intro k U hk hI K hK
    have hU := smHall' h1 hI.1.1
    have eGV : GV U nr k = GV S nr k := by
      unfold GV
      refine fb_sm_cong (fun i hi => ?_)
      rw [hI.1.1.1 9 i (by unfold PAll; omega), hI.1.1.1 (14 + k) i (by unfold PAll; omega)]
    unfold b_X4_leastWarmth_7
    rw [hU.2.1, if_neg (nI_ge hk (by omega)), show ux_ib 0 6 = true by decide, gdt, t_given hn hU (by omega : k < 8), ux_bi_s, ux_ibn (by omega : k < 8) (by omega), gdt, nI_clamp (by omega), nI_1, show 28 + 1 + (0 : Int32).toNatClampNeg = 29 by decide, eGV]
    refine hK _ ⟨⟨hI.1.1.up (by unfold PAll; omega), fun r hr => by rw [rd_ne (by omega)]; exact hI.1.2 r hr⟩, fun j hj => ?_⟩
    rw [rd_if]
    by_cases q : j = k
    · subst q; rw [if_pos rfl]
    · rw [if_neg q]; exact hI.2 j (by omega)
  · intro U hI K
    have hU := smHall' h1 hI.1.1
    have key : cI S nr nm 0 rw0 none (ux_i U 3 7 1000000000) := by
      refine ⟨⟨hI.1.1.up (by unfold PAll; omega), fun r hr => by rw [rd_ne (by omega)]; exact hI.1.2 r hr⟩, fun k j hk hj => ?_, fun k hk => by omega, ux_i_same⟩
      have : k = 0 := by omega
      subst this
      rw [rd_ne (by omega)]
      exact hI.2 j hj
    obtain ⟨Z, z1, z2, z3, z4, z5⟩ := t_search hn h1 h3 ha hf hab hfb nm 7 0 rw0 none _ (by omega) (by omega) key
    unfold b_X4_leastWarmth_7 f_X4_searchFrom
    rw [hU.2.1, if_pos (nI_le (Nat.le_refl _) (by omega)), show (0 : Int32) = nI 0 from rfl, z1, ux_bv_s]
    refine ⟨Z, ?_, z2.1, z5⟩
    generalize TC nr (pok S) (lfB (pW S nr nm av fv)) nm 0 rw0 none = B at z5 ⊢
    cases B with
    | none => rw [if_pos (show Z.1 3 7 = 1000000000 from z5)]; rfl
    | some p =>
      have v := z5.1
      rw [if_neg (by rw [z5.2.1, show (1000000000 : Int32) = nI 1000000000 from rfl, nI_eq (by omega) (by omega)]; omega), z5.2.1]
      rfl
/-! the reference: one row -/
/-- what is held while rows are tried: how many fit, the best -/
def mI (S : ux_S) (nm : Nat) (a : Nat × BS) (T : ux_S) : Prop := sm S T ∧ T.1 8 19 = nI a.1 ∧ T.1 8 20 = bI a.2 ∧ (match a.2 with
  | none => a.1 = 0
  | some (v, q) => 0 < a.1 ∧ v ≤ 2000000 ∧ ∀ k, k < nm → T.1 68 k = nI (q k))
def lfM (W : RW → Nat) (row : RW) (a : Nat × BS) : Nat × BS := (a.1 + 1, lfB W row a.2)
theorem mI_c {S T U : ux_S} {nm : Nat} {a : Nat × BS} (h : mI S nm a T) (g : sm S U) (e1 : U.1 8 19 = T.1 8 19) (e2 : U.1 8 20 = T.1 8 20) (e3 : ∀ k, U.1 68 k = T.1 68 k) : mI S nm a U := by
  obtain ⟨n, b⟩ := a
  refine ⟨g, e1.trans h.2.1, e2.trans h.2.2.1, ?_⟩
  cases b with
  | none => exact h.2.2.2
  | some p => exact ⟨h.2.2.2.1, h.2.2.2.2.1, fun k hk => (e3 k).trans (h.2.2.2.2.2 k hk)⟩
theorem t_comesA {n : Nat} (hn : 10 ≤ n) {T : ux_S} {nr j av fv : Nat} {ad : Nat → Nat} (h : RHall T nr) (hc : ∀ i, i < nr → T.1 62 i = nI (ad i)) (hj : j < 8) (hf : 1 ≤ fv ∧ fv ≤ 5) {g : Nat} (hg : fb_sm (fun i => (tn (T.1 9 i) + ad i) * psh T j i) nr = g) (gl : g ≤ 1900000) : f_X8_comes n T (nI j) (nI av) (nI fv) = some (nI (1000 * av + (g + fv - 1) / fv), T) := by
  have h8 := h.1
  have key : ∀ m, m ≤ nr → bx_sum (fun i => (T.1 54 i + T.1 62 i) * T.1 58 (8 * j + i)) m = nI (fb_sm (fun i => (tn (T.1 9 i) + ad i) * psh T j i) m) := fun m hm => bx_nI m (fun i hi => by
    have a1 := tn_rg (h.2.2.2.1 i (by omega)).1.2 (by decide)
    rw [hc i (by omega), (h.2.2.2.1 i (by omega)).1.1, (h.2.2.2.2.1 j i hj (by omega)).1, ← pk_mul, ← nI_add, ← a1.1, ← (psh_is h hj (by omega : i < 8)).1])
  unfold f_X8_comes
  have hw : nI (1000 * av + (g + fv - 1) / fv) = 1000 * nI av + (nI g + nI fv - 1) / nI fv := by
    rw [nI_add, nIp (by omega), pk_div (by omega) (by omega) (by omega), show (1000 : Int32) = nI 1000 from rfl, pk_mul, nI_add]
  rw [hw, ← hg, ← key nr (Nat.le_refl _)]
  refine ux_lpi2 (b := b_X8_comes_6 n (nI j) (nI av) (nI fv)) nr (fun m x U => x = bx_sum (fun i => (T.1 54 i + T.1 62 i) * T.1 58 (8 * j + i)) m ∧ U = T) (fun o => o = some (1000 * nI av + (bx_sum (fun i => (T.1 54 i + T.1 62 i) * T.1 58 (8 * j + i)) nr + nI fv - 1) / nI fv, T)) ?_ ?_ n 0 0 T (by omega) (by omega) ⟨rfl, rfl⟩
  · intro m x U hm hI k hk
    obtain ⟨rfl, rfl⟩ := hI
    unfold b_X8_comes_6
    rw [h.2.2.1, if_neg (nI_ge hm (by omega)), ux_ibn (by omega : m < 8) (by omega), gdt, gdt, ix8 hj (by omega), ux_ibn (by omega : 8 * j + m < 64) (by omega), gdt, nI_clamp (by omega), nI_clamp (by omega), nI_1]
    exact hk _ _ ⟨rfl, rfl⟩
  · intro x U hI k
    obtain ⟨rfl, rfl⟩ := hI
    unfold b_X8_comes_6
    rw [h.2.2.1, if_pos (nI_le (Nat.le_refl _) (by omega)), ux_nzn (by omega) (by omega), gdt]
def bM (nm : Nat) (b : BS) (T : ux_S) : Prop := match b with
  | none => True
  | some (v, q) => v ≤ 2000000 ∧ ∀ k, k < nm → T.1 68 k = nI (q k)
def ceilW (av fv g : Nat) : Nat := 1000 * av + (g + fv - 1) / fv
/-- the warmest of the racks, and the least so far -/
theorem t_most {n : Nat} (hn : 10 ≤ n) {S T : ux_S} {nr nm av fv : Nat} {row : RW} {c : Nat} {b : BS} (h1 : RHall S nr) (h3 : RMach S nm) (ha : S.1 1 6 = nI av) (hf : S.1 1 7 = nI fv) (hab : av ≤ 30) (hfb : 1 ≤ fv ∧ fv ≤ 5) (hnr : 0 < nr) (hrow : ∀ k, k < nm → row k < nr) (h62 : ∀ i, i < nr → T.1 62 i = nI (add' (pml S) row nm i)) (h66 : ∀ k, k < nm → T.1 66 k = nI (row k)) (hg : sm S T) (hc : T.1 8 19 = nI (c + 1)) (h20 : T.1 8 20 = bI b) (hb : bM nm b T) :
    ∃ Z, ux_lp2 (b_X8_tryRow_138 n) n (-4) 0 T = some Z ∧ mI S nm (c + 1, lfB (pW S nr nm av fv) row b) Z := by
  have h8 := h1.1
  have h5 := h3.1
  have hT := smHall' h1 hg
  have a6 : T.1 8 6 = nI av := by rw [hg.1 8 6 (by unfold PAll; omega), h1.2.2.2.2.2.1.1, ha]
  have a7 : T.1 8 7 = nI fv := by rw [hg.1 8 7 (by unfold PAll; omega), h1.2.2.2.2.2.2.1, hf]
  have gl : ∀ j, j < nr → pgv S nr row nm j ≤ 1900000 := fun j hj => pgv_le h1 h3 (Nat.le_refl _) (by omega) hrow
  have com : ∀ j, j < nr → f_X8_comes n T (nI j) (nI av) (nI fv) = some (nI (ceilW av fv (pgv S nr row nm j)), T) := by
    intro j hj
    refine t_comesA hn hT h62 (by omega) hfb ?_ (gl j hj)
    have e : ∀ i, i < nr → (tn (T.1 9 i) + add' (pml S) row nm i) * psh T j i = (tn (S.1 9 i) + add' (pml S) row nm i) * psh S j i := fun i hi => by
      unfold psh
      rw [hg.1 9 i (by unfold PAll; omega), hg.1 (14 + j) i (by unfold PAll; omega)]
    rw [fb_sm_cong e, by_rack nm hrow]
    rfl
  have ml : ∀ k, k ≤ nr → mx (pgv S nr row nm) k ≤ 1900000 := fun k hk => mx_le k (fun j hj => gl j (by omega))
  have cl : ∀ g, g ≤ 1900000 → ceilW av fv g ≤ 2000000 := fun g hg => by
    unfold ceilW
    have h9 : (g + fv - 1) / fv ≤ g + fv - 1 := Nat.div_le_self _ _
    omega
  have cm : ∀ g g', g ≤ g' → ceilW av fv g ≤ ceilW av fv g' := fun g g' h => Nat.add_le_add_left (Nat.div_le_div_right (by omega)) _
  refine ux_lpi2 (b := b_X8_tryRow_138 n) nr (fun k x U => U = T ∧ x = if k = 0 then -4 else nI (ceilW av fv (mx (pgv S nr row nm) k))) (fun o => ∃ Z, o = some Z ∧ mI S nm (c + 1, lfB (pW S nr nm av fv) row b) Z) ?_ ?_ n 0 (-4) T (by omega) (by omega) ⟨rfl, rfl⟩
  · intro k x U hk hI K hK
    obtain ⟨rfl, rfl⟩ := hI
    unfold b_X8_tryRow_138
    rw [hT.2.2.1, if_neg (nI_ge hk (by omega)), a6, a7, com k hk, ux_bi_s, nI_1]
    have g1 := cl _ (gl k hk)
    have g2 := cl _ (ml k (by omega))
    have sx : mx (pgv S nr row nm) (k + 1) = if mx (pgv S nr row nm) k < pgv S nr row nm k then pgv S nr row nm k else mx (pgv S nr row nm) k := rfl
    by_cases q0 : k = 0
    · subst q0
      rw [if_pos rfl, if_neg (by
        rw [fa_le, nI_toInt (by omega), show ((-4 : Int32)).toInt = -4 by decide]
        omega)]
      refine hK _ _ ⟨rfl, ?_⟩
      rw [if_neg (by omega), sx]
      show _ = nI (ceilW av fv (if 0 < pgv S nr row nm 0 then pgv S nr row nm 0 else 0))
      by_cases q1 : 0 < pgv S nr row nm 0
      · rw [if_pos q1]
      · rw [if_neg q1, show pgv S nr row nm 0 = 0 by omega]
    · rw [if_neg q0]
      by_cases q : ceilW av fv (pgv S nr row nm k) ≤ ceilW av fv (mx (pgv S nr row nm) k)
      · rw [if_pos (nI_le q (by omega))]
        refine hK _ _ ⟨rfl, ?_⟩
        rw [if_neg (by omega), sx]
        by_cases q1 : mx (pgv S nr row nm) k < pgv S nr row nm k
        · rw [if_pos q1]
          have := cm _ _ (Nat.le_of_lt q1)
          congr 1
          omega
        · rw [if_neg q1]
      · rw [if_neg (nI_ge (by omega) (by omega))]
        refine hK _ _ ⟨rfl, ?_⟩
        rw [if_neg (by omega), sx]
        have : mx (pgv S nr row nm) k < pgv S nr row nm k := by
          apply Nat.lt_of_not_le
          intro h9
          exact q (cm _ _ h9)
        rw [if_pos this]
  · intro x U hI K
    obtain ⟨rfl, hx⟩ := hI
    rw [if_neg (by omega)] at hx
    subst hx
    have g2 := cl _ (ml nr (Nat.le_refl _))
    unfold b_X8_tryRow_138 b_X8_tryRow_197
    rw [hT.2.2.1, if_pos (nI_le (Nat.le_refl _) (by omega)), h20]
    -- the row is kept
    have fin : ∃ Z, ux_lp1 (b_X8_tryRow_204 n) n 0 (ux_i U 8 20 (nI (ceilW av fv (mx (pgv S nr row nm) nr)))) = some Z ∧ mI S nm (c + 1, some (pW S nr nm av fv row, row)) Z := by
      refine ux_lpi1 (b := b_X8_tryRow_204 n) nm (fun k V => (V.2 = U.2 ∧ (∀ i x, i ≠ 68 → V.1 i x = (ux_i U 8 20 (nI (ceilW av fv (mx (pgv S nr row nm) nr)))).1 i x)) ∧ ∀ x, x < k → V.1 68 x = nI (row x)) (fun o => ∃ Z, o = some Z ∧ mI S nm (c + 1, some (pW S nr nm av fv row, row)) Z) ?_ ?_ n 0 _ (by omega) (by omega) ⟨⟨rfl, fun _ _ _ => rfl⟩, fun x hx => by omega⟩
      · intro k V hk hI K hK
        obtain ⟨⟨e1, e2⟩, e3⟩ := hI
        unfold b_X8_tryRow_204
        rw [e2 8 10 (by omega), rd_nk (by omega), (smMach h3 hg).2.2.1, if_neg (nI_ge hk (by omega)), ux_ibn (by omega : k < 5) (by omega), gdt, gdt, nI_clamp (by omega), e2 66 k (by omega), rd_ne (by omega), h66 k hk, nI_1]
        refine hK _ ⟨⟨e1, fun i x hi => ?_⟩, fun x hx => ?_⟩
        · rw [rd_ne hi]; exact e2 i x hi
        · rw [rd_if]
          by_cases q : x = k
          · subst q; rw [if_pos rfl]
          · rw [if_neg q]; exact e3 x (by omega)
      · intro V hI K
        obtain ⟨⟨e1, e2⟩, e3⟩ := hI
        unfold b_X8_tryRow_204
        rw [e2 8 10 (by omega), rd_nk (by omega), (smMach h3 hg).2.2.1, if_pos (nI_le (Nat.le_refl _) (by omega))]
        refine ⟨V, rfl, ⟨fun i k q => ?_, e1.trans hg.2⟩, ?_, ?_, Nat.succ_pos _, g2, e3⟩
        · rw [e2 i k (by unfold PAll at q; omega), ux_i_off (by unfold PAll at q; omega)]; exact hg.1 i k q
        · rw [e2 8 19 (by omega), rd_nk (by omega)]; exact hc
        · rw [e2 8 20 (by omega), ux_i_same]; rfl
    cases b with
    | none =>
      rw [if_pos (by rfl)]
      exact fin
    | some p =>
      obtain ⟨v, q⟩ := p
      have v2 : v ≤ 2000000 := hb.1
      show ∃ Z, (if nI v = -4 then _ else if nI v ≤ _ then some U else _) = some Z ∧ mI S nm (c + 1, if pW S nr nm av fv row < v then some (pW S nr nm av fv row, row) else some (v, q)) Z
      rw [if_neg (nI_nm4 (by omega))]
      by_cases hw : v ≤ ceilW av fv (mx (pgv S nr row nm) nr)
      · rw [if_pos (nI_le hw (by omega)), if_neg (show ¬ pW S nr nm av fv row < v from Nat.not_lt.mpr hw)]
        exact ⟨U, rfl, hg, hc, h20, Nat.succ_pos _, hb⟩
      · rw [if_neg (nI_ge (by omega) (by omega)), if_pos (show pW S nr nm av fv row < v from Nat.lt_of_not_le hw)]
        exact fin
