/-! placings: no racks; the three calls -/
theorem lp2s (b : (Int32 → Int32 → ux_S → Option ux_S) → Int32 → Int32 → ux_S → Option ux_S) {n : Nat} (hn : 0 < n) (x y : Int32) (S : ux_S) : ux_lp2 b n x y S = b (ux_lp2 b (n - 1)) x y S := by
  obtain ⟨m, rfl⟩ : ∃ m, n = m + 1 := ⟨n - 1, by omega⟩
  rfl
theorem lp1s (b : (Int32 → ux_S → Option ux_S) → Int32 → ux_S → Option ux_S) {n : Nat} (hn : 0 < n) (x : Int32) (S : ux_S) : ux_lp1 b n x S = b (ux_lp1 b (n - 1)) x S := by
  obtain ⟨m, rfl⟩ : ∃ m, n = m + 1 := ⟨n - 1, by omega⟩
  rfl
theorem lp4s (b : (Int32 → Int32 → Int32 → Int32 → ux_S → Option ux_S) → Int32 → Int32 → Int32 → Int32 → ux_S → Option ux_S) {n : Nat} (hn : 0 < n) (x y z w : Int32) (S : ux_S) : ux_lp4 b n x y z w S = b (ux_lp4 b (n - 1)) x y z w S := by
  obtain ⟨m, rfl⟩ : ∃ m, n = m + 1 := ⟨n - 1, by omega⟩
  rfl
theorem t_tryRow0 {n : Nat} (hn : 20 ≤ n) {S T : ux_S} (h0 : S.1 8 0 = nI 0) (h10 : S.1 8 10 = nI 0) (g : sm S T) (h19 : T.1 8 19 = 0) (h20 : T.1 8 20 = -4) : ∃ Z, f_X8_tryRow n T = some Z ∧ sm S Z ∧ Z.1 8 19 = nI 1 ∧ Z.1 8 20 = -4 := by
  obtain ⟨A, a1, a2, a3, a4⟩ := t_clear (by omega : 10 ≤ n) T
  unfold f_X8_tryRow
  rw [a1, ux_bv_s]
  refine ux_lpi1 (b := b_X8_tryRow_6 n) 8 (fun k U => sm S U ∧ U.1 8 19 = 0 ∧ U.1 8 20 = -4) (fun o => ∃ Z, o = some Z ∧ sm S Z ∧ Z.1 8 19 = nI 1 ∧ Z.1 8 20 = -4) ?_ ?_ n 0 A (by omega) (by omega) ⟨g.trans (cl_sm a3 a4), by rw [a4 8 19 (by omega)]; exact h19, by rw [a4 8 20 (by omega)]; exact h20⟩
  · intro k U hk hI K hK
    unfold b_X8_tryRow_6
    rw [if_neg (show ¬ (8 : Int32) ≤ nI k from nI_ge (b := 8) hk (by decide)), ux_ibn hk (by omega), gdt, nI_clamp (by omega), nI_1]
    exact hK _ ⟨hI.1.up (by unfold PAll; omega), by rw [rd_ne (by omega)]; exact hI.2.1, by rw [rd_ne (by omega)]; exact hI.2.2⟩
  · intro U hI K
    obtain ⟨i1, i2, i3⟩ := hI
    have e10 : U.1 8 10 = nI 0 := by rw [i1.1 8 10 (by unfold PAll; omega)]; exact h10
    have e0 : U.1 8 0 = nI 0 := by rw [i1.1 8 0 (by unfold PAll; omega)]; exact h0
    unfold b_X8_tryRow_6
    rw [if_pos (by decide), lp2s _ (by omega)]
    unfold b_X8_tryRow_29
    rw [e10, if_pos (by decide), if_neg (by decide), lp2s _ (by omega)]
    unfold b_X8_tryRow_138 b_X8_tryRow_197
    rw [rd_nk (by omega : 0 ≠ 19), e0, if_pos (by decide), rd_nk (by omega : 20 ≠ 19), i3, if_pos rfl, lp1s _ (by omega)]
    unfold b_X8_tryRow_204
    rw [rd_nk (by omega : 10 ≠ 20), rd_nk (by omega : 10 ≠ 19), e10, if_pos (by decide)]
    refine ⟨_, rfl, (i1.up (by unfold PAll; omega)).up (by unfold PAll; omega), ?_, ux_i_same⟩
    rw [rd_nk (by omega), ux_i_same, i2]
    rfl
theorem t_tryAll0 {n : Nat} (hn : 40000 ≤ n) {S A : ux_S} {nm : Nat} (h0 : S.1 8 0 = nI 0) (h3 : RMach S nm) (g : sm S A) :
    ∃ Z, f_X8_tryAll n A = some Z ∧ sm S Z ∧ Z.1 8 19 = nI (CN 0 (pok S) nm 0 rw0) ∧ Z.1 8 20 = -4 := by
  have h5 := h3.1
  unfold f_X8_tryAll
  refine ux_lpi2 (b := b_X8_tryAll_15 n) nm (fun k x U => x = nI (0 ^ k) ∧ sm S U ∧ U.1 8 19 = 0 ∧ U.1 8 20 = -4) (fun o => ∃ Z, o = some Z ∧ sm S Z ∧ Z.1 8 19 = nI (CN 0 (pok S) nm 0 rw0) ∧ Z.1 8 20 = -4) ?_ ?_ n 0 1 _ (by omega) (by omega) ⟨rfl, (g.up (by unfold PAll; omega)).up (by unfold PAll; omega), by rw [rd_nk (by omega), ux_i_same], by rw [ux_i_same]⟩
  · intro k x U hk hI K hK
    obtain ⟨rfl, i1, i2, i3⟩ := hI
    have e0 : U.1 8 0 = nI 0 := by rw [i1.1 8 0 (by unfold PAll; omega)]; exact h0
    unfold b_X8_tryAll_15
    rw [(smMach h3 i1).2.2.1, if_neg (nI_ge hk (by omega)), ux_ibn (by omega : k < 5) (by omega), gdt, nI_clamp (by omega), e0, pk_mul, nI_1, ← Nat.pow_succ]
    exact hK _ _ ⟨rfl, i1.up (by unfold PAll; omega), by rw [rd_ne (by omega)]; exact i2, by rw [rd_ne (by omega)]; exact i3⟩
  · intro x U hI K
    obtain ⟨rfl, i1, i2, i3⟩ := hI
    unfold b_X8_tryAll_15
    rw [(smMach h3 i1).2.2.1, if_pos (nI_le (Nat.le_refl _) (by omega)), lp2s _ (by omega)]
    cases nm with
    | zero =>
      obtain ⟨Z, z1, z2, z3, z4⟩ := t_tryRow0 (by omega : 20 ≤ n) h0 h3.2.2.1 i1 i2 i3
      unfold b_X8_tryAll_45
      rw [if_neg (by decide), (smMach h3 i1).2.2.1, lp4s _ (by omega)]
      unfold b_X8_tryAll_60
      rw [if_pos (by decide), z1, ux_bv_s, lp2s _ (by omega)]
      obtain ⟨C, c1, c2, c3, c4⟩ := t_clear (by omega : 10 ≤ n) Z
      rw [if_pos (by decide), c1, ux_bv_s]
      exact ⟨C, rfl, z2.trans (cl_sm c3 c4), by rw [c4 8 19 (by omega)]; exact z3, by rw [c4 8 20 (by omega)]; exact z4⟩
    | succ m =>
      unfold b_X8_tryAll_45
      obtain ⟨C, c1, c2, c3, c4⟩ := t_clear (by omega : 10 ≤ n) U
      rw [show (0 : Nat) ^ (m + 1) = 0 by rw [Nat.pow_succ, Nat.mul_zero], if_pos (by decide), c1, ux_bv_s]
      exact ⟨C, rfl, i1.trans (cl_sm c3 c4), by rw [c4 8 19 (by omega)]; exact i2, by rw [c4 8 20 (by omega)]; exact i3⟩
theorem pr_placings (n : Nat) (hn : 40000 ≤ n) : alike (fun S => f_X7_placings n S) (fun S => f_X8_placings n S) := by
  intro S hR
  obtain ⟨nr, nm, nf, nc, nt, h1, h2, h3, h4, h5, h6, h7⟩ := id hR
  obtain ⟨av, fv, a1, a2, a3, a4, a5, a6⟩ := airfan h1
  obtain ⟨A, b1, b2⟩ := t_countAll (by omega : 10 ≤ n) h1 h3
  have hc : f_X7_placings n S = some (nI (CN nr (pok S) nm 0 rw0), A) := by
    unfold f_X7_placings
    rw [b1, ux_bi_s]
  rcases Nat.eq_zero_or_pos nr with q | q
  · subst q
    obtain ⟨Z, z1, z2, z3, z4⟩ := t_tryAll0 hn h1.2.2.1 h3 b2
    refine ⟨_, A, Z, hc, ?_, hR.sm z2⟩
    show f_X8_placings n A = _
    unfold f_X8_placings
    rw [z1, ux_bv_s, z3]
  · obtain ⟨Z, z1, z2, z3, z4⟩ := t_tryAll hn h1 h3 a1 a2 a3.2 a4 q b2
    refine ⟨_, A, Z, hc, ?_, hR.sm z2⟩
    show f_X8_placings n A = _
    unfold f_X8_placings
    rw [z1, ux_bv_s, z3]
theorem pr_warmest (n : Nat) (hn : 40000 ≤ n) : alike (fun S => f_X7_warmest n S) (fun S => f_X8_warmest n S) := by
  intro S hR
  obtain ⟨nr, nm, nf, nc, nt, h1, h2, h3, h4, h5, h6, h7⟩ := id hR
  have h8 := h1.1
  obtain ⟨av, fv, a1, a2, a3, a4, a5, a6⟩ := airfan h1
  rcases Nat.eq_zero_or_pos nr with q | q
  · subst q
    obtain ⟨Z, z1, z2, z3, z4⟩ := t_tryAll0 hn h1.2.2.1 h3 sm.rf
    refine ⟨-4, S, Z, ?_, ?_, hR.sm z2⟩
    · show f_X7_warmest n S = _
      unfold f_X7_warmest
      rw [h1.2.1, if_pos (by rfl)]
    · show f_X8_warmest n S = _
      unfold f_X8_warmest
      rw [z1, ux_bv_s, z4]
  · obtain ⟨A, b1, b2, b3⟩ := t_least (by omega : 10 ≤ n) h1 h3 a1 a2 a3.2 a4
    obtain ⟨Z, z1, z2, z3, z4, z5⟩ := t_tryAll hn h1 h3 a1 a2 a3.2 a4 q b2
    refine ⟨bI (TC nr (pok S) (lfB (pW S nr nm av fv)) nm 0 rw0 none), A, Z, ?_, ?_, hR.sm z2⟩
    · show f_X7_warmest n S = _
      unfold f_X7_warmest
      rw [h1.2.1, if_neg (nI_ne0 q (by omega)), b1, ux_bi_s]
    · show f_X8_warmest n A = _
      unfold f_X8_warmest
      rw [z1, ux_bv_s, z4]
theorem pr_placed (n : Nat) (hn : 40000 ≤ n) (p0 : Int32) : alike (fun S => f_X7_placed n S p0) (fun S => f_X8_placed n S p0) := by
  intro S hR
  obtain ⟨nr, nm, nf, nc, nt, h1, h2, h3, h4, h5, h6, h7⟩ := id hR
  have h8 := h1.1
  have h50 := h3.1
  obtain ⟨av, fv, a1, a2, a3, a4, a5, a6⟩ := airfan h1
  rcases hs_cases p0 (n := nm) (by omega) with e | ⟨e, k, hk, rfl⟩
  · refine ⟨-1, S, S, ?_, ?_, hR⟩
    · show f_X7_placed n S p0 = _
      unfold f_X7_placed
      rw [h3.2.1]
      by_cases q : p0 < 0
      · rw [if_pos q]
      · rw [if_neg q]
        by_cases q2 : nI nm ≤ p0
        · rw [if_neg (by rw [fa_lt]; rw [fa_le] at q2; omega)]
        · have : hs p0 nm = 1 := by unfold hs; rw [if_neg (fun h => h.elim q q2)]
          rw [this] at e
          exact absurd e (by decide)
    · show f_X8_placed n S p0 = _
      unfold f_X8_placed
      rw [h3.2.2.1, t_inN S p0 (by omega), ux_bi_s, e, if_pos rfl]
  · obtain ⟨A, b1, b2, b3⟩ := t_least (by omega : 10 ≤ n) h1 h3 a1 a2 a3.2 a4
    have cl : ∀ r, (if bI (TC nr (pok S) (lfB (pW S nr nm av fv)) nm 0 rw0 none) = -4 then some ((-4 : Int32), A) else some (A.1 25 k, A)) = some (r, A) → f_X7_placed n S (nI k) = some (r, A) := by
      intro r hr
      unfold f_X7_placed
      rw [h3.2.1, if_neg (nI_pos (by omega)), if_pos (nI_lt hk (by omega)), b1, ux_bi_s, ux_ibn (by omega : k < 5) (by omega), gdt, nI_clamp (by omega)]
      exact hr
    have e10 : A.1 8 10 = nI nm := (smMach h3 b2).2.2.1
    have ml : ∀ Z r, f_X8_tryAll n A = some Z → (if Z.1 8 19 = 0 then some ((-4 : Int32), Z) else some (Z.1 68 k, Z)) = some (r, Z) → f_X8_placed n A (nI k) = some (r, Z) := by
      intro Z r h9 hr
      unfold f_X8_placed
      rw [e10, t_inN A (nI k) (by omega), ux_bi_s, e, if_neg (by decide), h9, ux_bv_s, ux_ibn (by omega : k < 5) (by omega), gdt, nI_clamp (by omega)]
      exact hr
    rcases Nat.eq_zero_or_pos nr with q | q
    · subst q
      obtain ⟨Z, z1, z2, z3, z4⟩ := t_tryAll0 hn h1.2.2.1 h3 b2
      obtain ⟨m, rfl⟩ : ∃ m, nm = m + 1 := ⟨nm - 1, by omega⟩
      refine ⟨-4, A, Z, cl _ ?_, ml Z _ z1 ?_, hR.sm z2⟩
      · rw [if_pos]; rfl
      · rw [if_pos]; rw [z3]; rfl
    · obtain ⟨Z, z1, z2, z3, z4, z5⟩ := t_tryAll hn h1 h3 a1 a2 a3.2 a4 q b2
      have cb : CN nr (pok S) nm 0 rw0 ≤ 32768 := Nat.le_trans (CN_le nm 0 rw0) (pow_b h8 h50)
      generalize TC nr (pok S) (lfB (pW S nr nm av fv)) nm 0 rw0 none = B at b3 z5 cl
      cases B with
      | none =>
        refine ⟨-4, A, Z, cl _ ?_, ml Z _ z1 ?_, hR.sm z2⟩
        · rw [if_pos]; rfl
        · rw [if_pos]; rw [z3, show CN nr (pok S) nm 0 rw0 = 0 from z5]; rfl
      | some p =>
        obtain ⟨v, w⟩ := p
        have vl := b3.1
        refine ⟨nI (w k), A, Z, cl _ ?_, ml Z _ z1 ?_, hR.sm z2⟩
        · rw [if_neg (show ¬ bI (some (v, w)) = -4 from nI_nm4 (by omega)), b3.2.2 k hk]
        · rw [z3, if_neg (nI_ne0 z5.1 (by omega)), z5.2.2 k hk]
