/-! placings: the reference tries all -/
theorem add_s (ml : Nat → Nat) (row : RW) (m i : Nat) : add' ml row (m + 1) i = add' ml row m i + if row m = i then ml m else 0 := rfl
theorem usd_ss (pl : Nat → Nat) (row : RW) (m i : Nat) : usd pl row (m + 1) i = usd pl row m i + if row m = i then pl m else 0 := rfl
section TR
variable {n : Nat} {S : ux_S} {nr nm av fv : Nat}
def lfT (S : ux_S) (nr nm av fv : Nat) (row : RW) (a : Nat × BS) : Nat × BS := if ex (fun k => !pok S k row) nm then a else lfM (pW S nr nm av fv) row a
theorem t_tryRow (hn : 20 ≤ n) (h1 : RHall S nr) (h3 : RMach S nm) (ha : S.1 1 6 = nI av) (hf : S.1 1 7 = nI fv) (hab : av ≤ 30) (hfb : 1 ≤ fv ∧ fv ≤ 5) (hnr : 0 < nr) {row : RW} {a : Nat × BS} {T : ux_S} (hrow : ∀ k, k < nm → row k < nr) (h66 : ∀ k, k < nm → T.1 66 k = nI (row k)) (hT : mI S nm a T) :
    ∃ Z, f_X8_tryRow n T = some Z ∧ mI S nm (lfT S nr nm av fv row a) Z := by
  have h8 := h1.1
  have h5 := h3.1
  obtain ⟨A, a1, a2, a3, a4⟩ := t_clear (by omega : 10 ≤ n) T
  unfold f_X8_tryRow
  rw [a1, ux_bv_s]
  -- nothing is taken
  refine ux_lpi1 (b := b_X8_tryRow_6 n) 8 (fun k U => (U.2 = T.2 ∧ ∀ i x, i ≠ 62 → i ≠ 67 → U.1 i x = T.1 i x) ∧ (∀ x, x < 8 → U.1 62 x = 0) ∧ ∀ x, x < k → U.1 67 x = 0) (fun o => ∃ Z, o = some Z ∧ mI S nm (lfT S nr nm av fv row a) Z) ?_ ?_ n 0 A (by omega) (by omega) ⟨⟨a3, fun i x h _ => a4 i x h⟩, a2, fun x hx => by omega⟩
  · intro k U hk hI K hK
    obtain ⟨⟨e1, e2⟩, e3, e4⟩ := hI
    unfold b_X8_tryRow_6
    rw [if_neg (show ¬ (8 : Int32) ≤ nI k from nI_ge (b := 8) hk (by decide)), ux_ibn hk (by omega), gdt, nI_clamp (by omega), nI_1]
    refine hK _ ⟨⟨e1, fun i x q1 q2 => ?_⟩, fun x hx => ?_, fun x hx => ?_⟩
    · rw [rd_ne q2]; exact e2 i x q1 q2
    · rw [rd_ne (by omega)]; exact e3 x hx
    · rw [rd_if]
      by_cases q : x = k
      · rw [if_pos q]
      · rw [if_neg q]; exact e4 x (by omega)
  · intro U0 hI K
    obtain ⟨⟨e1, e2⟩, e3, e4⟩ := hI
    unfold b_X8_tryRow_6
    rw [if_pos (by decide)]
    have hM := smMach h3 hT.1
    have hH := smHall' h1 hT.1
    have e57 : ∀ r, r < nr → T.1 57 r = nI (PP S r) := fun r hr => by rw [hT.1.1 57 r (by unfold PAll; omega), (h1.2.2.2.1 r hr).2.2.2.1]; exact (PP_is h1 hr).1
    have e60 : ∀ k, k < nm → T.1 60 k = nI (pml S k) := fun k hk => by rw [hT.1.1 60 k (by unfold PAll; omega), (h3.2.2.2 k hk).1.1]; exact (pml_is h3 hk).1
    have e61 : ∀ k, k < nm → T.1 61 k = nI (ppl S k) := fun k hk => by rw [hT.1.1 61 k (by unfold PAll; omega), (h3.2.2.2 k hk).2.1]; exact (ppl_is h3 hk).1
    have ul : ∀ k r, k ≤ nm → usd (ppl S) row k r ≤ 50 := fun k r hk => by
      have : usd (ppl S) row k r ≤ k * 10 := fb_sm_bound (fun j hj => by
        have := (ppl_is h3 (by omega : j < nm)).2.2
        split <;> omega)
      omega
    refine ux_lpi2 (b := b_X8_tryRow_29 n) nm (fun k x U => x = bi (!ex (fun j => !pok S j row) k) ∧ (U.2 = T.2 ∧ ∀ i x, i ≠ 62 → i ≠ 67 → U.1 i x = T.1 i x) ∧ ∀ r, r < nr → U.1 67 r = nI (usd (ppl S) row k r) ∧ U.1 62 r = nI (add' (pml S) row k r)) (fun o => ∃ Z, o = some Z ∧ mI S nm (lfT S nr nm av fv row a) Z) ?_ ?_ n 0 1 U0 (by omega) (by omega) ⟨rfl, ⟨e1, e2⟩, fun r hr => ⟨e4 r (by omega), e3 r (by omega)⟩⟩
    · intro k x U hk hI K hK
      obtain ⟨rfl, ⟨f1, f2⟩, f3⟩ := hI
      have rk := hrow k hk
      have pk := (ppl_is h3 hk).2
      have PPk := (PP_is h1 rk).2
      have uk := ul k (row k) (by omega)
      have c1 : (nI k).toNatClampNeg = k := nI_clamp (by omega)
      have c2 : (nI (row k)).toNatClampNeg = row k := nI_clamp (by omega)
      have c3 : ux_ib (nI k) 5 = true := ux_ibn (by omega) (by omega)
      have c4 : ux_ib (nI (row k)) 8 = true := ux_ibn (by omega) (by omega)
      have r66 : U.1 66 k = nI (row k) := by rw [f2 66 k (by omega) (by omega)]; exact h66 k hk
      have r10 : U.1 8 10 = nI nm := by rw [f2 8 10 (by omega) (by omega)]; exact hM.2.2.1
      have r61 : U.1 61 k = nI (ppl S k) := by rw [f2 61 k (by omega) (by omega)]; exact e61 k hk
      have r60 : U.1 60 k = nI (pml S k) := by rw [f2 60 k (by omega) (by omega)]; exact e60 k hk
      have r57 : U.1 57 (row k) = nI (PP S (row k)) := by rw [f2 57 _ (by omega) (by omega)]; exact e57 _ rk
      have r67 := (f3 (row k) rk).1
      have r62 := (f3 (row k) rk).2
      have nge : ¬ nI nm ≤ nI k := nI_ge hk (by omega)
      have nx : ∀ v, v = bi (!ex (fun j => !pok S j row) (k + 1)) → ∃ Z, K v (nI (k + 1)) (ux_i (ux_i U 67 (row k) (nI (usd (ppl S) row k (row k) + ppl S k))) 62 (row k) (nI (add' (pml S) row k (row k) + pml S k))) = some Z ∧ mI S nm (lfT S nr nm av fv row a) Z := by
        intro v hv
        refine hK _ _ ⟨hv, ⟨f1, fun i x q1 q2 => ?_⟩, fun r hr => ?_⟩
        · rw [rd_ne q1, rd_ne q2]; exact f2 i x q1 q2
        · rw [usd_ss, add_s, rd_if, rd_ne (by omega), rd_if]
          by_cases q : r = row k
          · subst q; simp
          · have q2 : ¬ row k = r := fun e => q e.symm
            simp only [q, q2, if_false, Nat.add_zero]
            exact f3 r hr
      unfold b_X8_tryRow_29
      simp (disch := omega) only [r10, nge, if_false, c1, c3, gdt, rd_ne, r66, c2, c4, ux_i_same, r67, r61, r62, r60, r57, nI_add, nI_1]
      have ekx : ex (fun j => !pok S j row) (k + 1) = (ex (fun j => !pok S j row) k || !pok S k row) := ex_s _ _
      cases h9 : ex (fun j => !pok S j row) k
      · rw [if_neg (by decide)]
        cases h10 : pok S k row
        · have : ¬ usd (ppl S) row k (row k) + ppl S k ≤ PP S (row k) := of_decide_eq_false h10
          rw [if_pos (nI_lt (by omega) (by omega))]
          exact nx 0 (by rw [ekx, h9, h10]; rfl)
        · have : usd (ppl S) row k (row k) + ppl S k ≤ PP S (row k) := of_decide_eq_true h10
          rw [if_neg (nI_nlt (by omega) (by omega))]
          exact nx 1 (by rw [ekx, h9, h10]; rfl)
      · rw [if_pos (by rfl)]
        exact nx 0 (by rw [ekx, h9]; rfl)
    · intro x U hI K
      obtain ⟨rfl, ⟨f1, f2⟩, f3⟩ := hI
      have r10 : U.1 8 10 = nI nm := by rw [f2 8 10 (by omega) (by omega)]; exact hM.2.2.1
      have hU : sm S U := ⟨fun i k q => by rw [f2 i k (by unfold PAll at q; omega) (by unfold PAll at q; omega)]; exact hT.1.1 i k q, f1.trans hT.1.2⟩
      unfold b_X8_tryRow_29 lfT
      rw [r10, if_pos (nI_le (Nat.le_refl _) (by omega))]
      cases h9 : ex (fun j => !pok S j row) nm
      · rw [if_neg (by decide), if_neg (by decide)]
        obtain ⟨c, b⟩ := a
        refine t_most (by omega : 10 ≤ n) h1 h3 ha hf hab hfb hnr hrow (fun i hi => by rw [rd_ne (by omega)]; exact (f3 i hi).2) (fun k hk => by rw [rd_ne (by omega), f2 66 k (by omega) (by omega)]; exact h66 k hk) (hU.up (by unfold PAll; omega)) (by rw [ux_i_same, f2 8 19 (by omega) (by omega), hT.2.1, nI_1]) (by rw [rd_nk (by omega), f2 8 20 (by omega) (by omega)]; exact hT.2.2.1) ?_
        cases b with
        | none => trivial
        | some p => exact ⟨hT.2.2.2.2.1, fun k hk => by rw [rd_ne (by omega), f2 68 k (by omega) (by omega)]; exact hT.2.2.2.2.2 k hk⟩
      · rw [if_pos (by rfl), if_pos rfl]
        exact ⟨U, rfl, mI_c hT hU (f2 8 19 (by omega) (by omega)) (f2 8 20 (by omega) (by omega)) (fun k => f2 68 k (by omega) (by omega))⟩
theorem pow_b {k : Nat} (h8 : nr ≤ 8) (hk : k ≤ 5) : nr ^ k ≤ 32768 := by
  have h1 : nr ^ k ≤ 8 ^ k := Nat.pow_le_pow_left h8 k
  have h2 : 8 ^ k ≤ 8 ^ 5 := Nat.pow_le_pow_right (by omega) hk
  have h3 : 8 ^ 5 = 32768 := by decide
  omega
/-- the digits of w -/
theorem t_digits (hn : 20 ≤ n) (h1 : RHall S nr) (h3 : RMach S nm) (hnr : 0 < nr) {w : Nat} (hw : w < nr ^ nm) {a : Nat × BS} (K : Int32 → Int32 → ux_S → Option ux_S) (x1 x2 : Int32) : ∀ m t U, m ≤ nm → m < t → (mI S nm a U ∧ ∀ k, m ≤ k → k < nm → U.1 66 k = nI (w / nr ^ (nm - 1 - k) % nr)) →
    ∃ V, (mI S nm a V ∧ ∀ k, k < nm → V.1 66 k = nI (w / nr ^ (nm - 1 - k) % nr)) ∧ ux_lp4 (b_X8_tryAll_60 n K) t x1 x2 (nI (w / nr ^ (nm - m))) (nI m - 1) U = ux_bv (f_X8_tryRow n V) (fun S8 => K x1 (x2 + 1) S8) := by
  have h8 := h1.1
  have h5 := h3.1
  have hpw := pow_b h8 h5
  intro m
  induction m with
  | zero =>
    intro t U hm ht hU
    obtain ⟨t', rfl⟩ : ∃ t', t = t' + 1 := ⟨t - 1, by omega⟩
    refine ⟨U, ⟨hU.1, fun k hk => hU.2 k (by omega) hk⟩, ?_⟩
    show b_X8_tryAll_60 n K (ux_lp4 (b_X8_tryAll_60 n K) t') x1 x2 _ (nI 0 - 1) U = _
    unfold b_X8_tryAll_60
    rw [if_pos (by decide)]
  | succ m ih =>
    intro t U hm ht hU
    obtain ⟨t', rfl⟩ : ∃ t', t = t' + 1 := ⟨t - 1, by omega⟩
    have e0 : U.1 8 0 = nI nr := by rw [hU.1.1.1 8 0 (by unfold PAll; omega)]; exact h1.2.2.1
    have wl : w / nr ^ (nm - (m + 1)) ≤ w := Nat.div_le_self _ _
    have dv : w / nr ^ (nm - (m + 1)) / nr = w / nr ^ (nm - m) := by
      rw [Nat.div_div_eq_div_mul, ← Nat.pow_succ, show (nm - (m + 1)).succ = nm - m by omega]
    obtain ⟨V, v1, v2⟩ := ih t' (ux_i U 66 m (nI (w / nr ^ (nm - (m + 1)) % nr))) (by omega) (by omega) ⟨mI_c hU.1 (hU.1.1.up (by unfold PAll; omega)) (by rw [rd_ne (by omega)]) (by rw [rd_ne (by omega)]) (fun k => by rw [rd_ne (by omega)]), fun k hk1 hk2 => by
      rw [rd_if]
      by_cases q : k = m
      · subst q; rw [if_pos rfl, show nm - 1 - k = nm - (k + 1) by omega]
      · rw [if_neg q]; exact hU.2 k (by omega) hk2⟩
    refine ⟨V, v1, ?_⟩
    rw [← v2]
    show b_X8_tryAll_60 n K (ux_lp4 (b_X8_tryAll_60 n K) t') x1 x2 _ (nI (m + 1) - 1) U = _
    generalize ux_lp4 (b_X8_tryAll_60 n K) t' = L
    unfold b_X8_tryAll_60
    rw [show nI (m + 1) - 1 = nI m from nIp (n := m + 1) (by omega), if_neg (nI_pos (by omega)), e0, ux_nzn hnr (by omega), gdt, ux_ibn (by omega : m < 5) (by omega), gdt, rd_ne (by omega), e0, ux_nzn hnr (by omega), gdt, nI_clamp (by omega), pk_rem (by omega) hnr (by omega), pk_div (by omega) hnr (by omega), dv, show nI m + (-1) = nI m - 1 from (Int32.sub_eq_add_neg _ _).symm]
theorem t_tryAll (hn : 40000 ≤ n) (h1 : RHall S nr) (h3 : RMach S nm) (ha : S.1 1 6 = nI av) (hf : S.1 1 7 = nI fv) (hab : av ≤ 30) (hfb : 1 ≤ fv ∧ fv ≤ 5) (hnr : 0 < nr) {A : ux_S} (g : sm S A) :
    ∃ Z, f_X8_tryAll n A = some Z ∧ mI S nm (CN nr (pok S) nm 0 rw0, TC nr (pok S) (lfB (pW S nr nm av fv)) nm 0 rw0 none) Z := by
  have h8 := h1.1
  have h5 := h3.1
  have hpw := pow_b h8 h5
  have tot : fd (fun w a => lfT S nr nm av fv (rwd nr nm 0 rw0 w) a) (nr ^ nm) (0, none) = (CN nr (pok S) nm 0 rw0, TC nr (pok S) (lfB (pW S nr nm av fv)) nm 0 rw0 none) := by
    rw [TA_ways (lfT S nr nm av fv) nm 0 rw0 (0, none)]
    have := TA_TC (nr := nr) (nm := nm) (ok := pok S) (okA_cong (P := PP S) (pl := ppl S)) (leaf := lfM (pW S nr nm av fv)) nm 0 rw0 (0, none) (by omega)
    rw [show ex (fun k => !pok S k rw0) 0 = false from rfl, if_neg (by decide)] at this
    show TA nr (fun row a => if ex (fun k => !pok S k row) nm then a else lfM (pW S nr nm av fv) row a) nm 0 rw0 (0, none) = _
    rw [this]
    refine Prod.ext ?_ ?_
    · rw [TC_hom (l1 := lfM (pW S nr nm av fv)) (l2 := fun _ a => a + 1) Prod.fst (fun _ _ => rfl) nm 0 rw0 (0, none), TC_cn]
      exact Nat.zero_add _
    · exact TC_hom (l1 := lfM (pW S nr nm av fv)) (l2 := lfB (pW S nr nm av fv)) Prod.snd (fun _ _ => rfl) nm 0 rw0 (0, none)
  rw [← tot]
  unfold f_X8_tryAll
  refine ux_lpi2 (b := b_X8_tryAll_15 n) nm (fun k x U => x = nI (nr ^ k) ∧ sm S U ∧ U.1 8 19 = 0 ∧ U.1 8 20 = -4) (fun o => ∃ Z, o = some Z ∧ mI S nm (fd (fun w a => lfT S nr nm av fv (rwd nr nm 0 rw0 w) a) (nr ^ nm) (0, none)) Z) ?_ ?_ n 0 1 _ (by omega) (by omega) ⟨rfl, (g.up (by unfold PAll; omega)).up (by unfold PAll; omega), by rw [rd_nk (by omega), ux_i_same], by rw [ux_i_same]⟩
  · intro k x U hk hI K hK
    obtain ⟨rfl, i1, i2, i3⟩ := hI
    have e0 : U.1 8 0 = nI nr := by rw [i1.1 8 0 (by unfold PAll; omega)]; exact h1.2.2.1
    unfold b_X8_tryAll_15
    rw [(smMach h3 i1).2.2.1, if_neg (nI_ge hk (by omega)), ux_ibn (by omega : k < 5) (by omega), gdt, nI_clamp (by omega), e0, pk_mul, nI_1, ← Nat.pow_succ]
    exact hK _ _ ⟨rfl, i1.up (by unfold PAll; omega), by rw [rd_ne (by omega)]; exact i2, by rw [rd_ne (by omega)]; exact i3⟩
  · intro x U hI K
    obtain ⟨rfl, i1, i2, i3⟩ := hI
    unfold b_X8_tryAll_15
    rw [(smMach h3 i1).2.2.1, if_pos (nI_le (Nat.le_refl _) (by omega))]
    refine ux_lpi2 (b := b_X8_tryAll_45 n) (nr ^ nm) (fun w x U => x = nI (nr ^ nm) ∧ mI S nm (fd (fun w a => lfT S nr nm av fv (rwd nr nm 0 rw0 w) a) w (0, none)) U) (fun o => ∃ Z, o = some Z ∧ mI S nm (fd (fun w a => lfT S nr nm av fv (rwd nr nm 0 rw0 w) a) (nr ^ nm) (0, none)) Z) ?_ ?_ n 0 _ U (by omega) (by omega) ⟨rfl, i1, i2, i3, rfl⟩
    · intro w x U hw hI K hK
      obtain ⟨rfl, hU⟩ := hI
      unfold b_X8_tryAll_45
      rw [if_neg (nI_ge hw (by omega)), (smMach h3 hU.1).2.2.1]
      obtain ⟨V, ⟨v1, v2⟩, v3⟩ := t_digits (by omega : 20 ≤ n) h1 h3 hnr hw K (nI (nr ^ nm)) (nI w) nm n U (Nat.le_refl _) (by omega) ⟨hU, fun k hk1 hk2 => by omega⟩
      rw [Nat.sub_self, Nat.pow_zero, Nat.div_one] at v3
      rw [v3]
      obtain ⟨Z, z1, z2⟩ := t_tryRow (by omega : 20 ≤ n) h1 h3 ha hf hab hfb hnr (row := rwd nr nm 0 rw0 w) (fun k hk => by rw [rwd_val hnr nm 0 rw0 w k hw, if_pos (by omega)]; exact Nat.mod_lt _ hnr) (fun k hk => by rw [v2 k hk, rwd_val hnr nm 0 rw0 w k hw, if_pos (by omega), Nat.zero_add]) v1
      rw [z1, ux_bv_s, nI_1]
      exact hK _ _ ⟨rfl, z2⟩
    · intro x U hI K
      obtain ⟨rfl, hU⟩ := hI
      unfold b_X8_tryAll_45
      obtain ⟨C, c1, c2, c3, c4⟩ := t_clear (by omega : 10 ≤ n) U
      rw [if_pos (nI_le (Nat.le_refl _) (by omega)), c1, ux_bv_s]
      exact ⟨C, rfl, mI_c hU (hU.1.trans (cl_sm c3 c4)) (c4 8 19 (by omega)) (c4 8 20 (by omega)) (fun k => c4 68 k (by omega))⟩
end TR
