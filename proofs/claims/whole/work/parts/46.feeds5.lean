/-! feeds: state -/
theorem fst4_snoc (P : Nat → Bool) : ∀ t a, a + t < 2 ^ 31 → fst4 P a (t + 1) = if fst4 P a t = -4 then (if P (a + t) then nI (a + t) else -4) else fst4 P a t
  | 0, a, _ => by
    unfold fst4
    rw [if_pos rfl]
    rfl
  | t + 1, a, h => by
    have ih := fst4_snoc P t (a + 1) (by omega)
    have e1 : ∀ k, fst4 P a (k + 1) = if P a then nI a else fst4 P (a + 1) k := fun _ => rfl
    rw [e1 (t + 1), e1 t]
    cases q : P a
    · simp only [Bool.false_eq_true, if_false]
      rw [ih, show a + 1 + t = a + (t + 1) by omega]
    · simp only [if_true]
      rw [if_neg (nI_nm4 (by omega))]
theorem fb_ct_bset (P : Nat → Bool) (N : Nat) : ∀ k, fb_ct (bset P N).testBit (N + k) = fb_ct P N
  | 0 => fb_ct_cong (fun i hi => by rw [bset_bit, decide_eq_true (show i < N by omega), Bool.true_and])
  | k + 1 => by
    rw [← Nat.add_assoc, fb_ct_succ, fb_ct_bset P N k, bset_bit, decide_eq_false (show ¬ N + k < N by omega)]
    simp
theorem popc_bset (P : Nat → Bool) {N : Nat} (h : N ≤ 16) : popc (bset P N) = fb_ct P N := by
  unfold popc
  obtain ⟨k, hk⟩ : ∃ k, 16 = N + k := ⟨16 - N, by omega⟩
  rw [hk, fb_ct_bset]
theorem fst4_bset (P : Nat → Bool) {N : Nat} (h : N ≤ 16) : fst4 (bset P N).testBit 0 16 = fst4 P 0 N := by
  have key : ∀ k, N + k ≤ 16 → fst4 (bset P N).testBit 0 (N + k) = fst4 P 0 N := by
    intro k
    induction k with
    | zero => intro _; exact fst4_cong N 0 (fun i _ hi => by rw [bset_bit]; simp; omega)
    | succ k ih =>
      intro hk
      rw [← Nat.add_assoc, fst4_snoc _ _ _ (by omega), ih (by omega), bset_bit]
      have : ¬ 0 + (N + k) < N := by omega
      simp only [this, decide_false, Bool.false_and, Bool.false_eq_true, if_false]
      by_cases q : fst4 P 0 N = -4
      · rw [if_pos q, q]
      · rw [if_neg q]
  have := key (16 - N) (by omega)
  rw [show N + (16 - N) = 16 by omega] at this
  exact this
/-- the reference's loop, for any of the five -/
theorem t_mstate {n : Nat} (hn : 20 ≤ n) {S : ux_S} {N : Nat} (hN : N ≤ 16) (P : Nat → Bool) (p0 x4 : Int32)
    (hb : ∀ K x2 x3 m, m < N → b_X8_state_39 n p0 K x2 x3 x4 (nI m) S = K (x2 + bi (P m)) (if P m then (if x3 = -4 then nI m else x3) else x3) x4 (nI (m + 1)) S)
    (he : ∀ K x2 x3, b_X8_state_39 n p0 K x2 x3 x4 (nI N) S = some (if p0 = 1 ∨ p0 = 3 then x3 else x2, S)) :
    ux_lp4 (b_X8_state_39 n p0) n 0 (-4) x4 0 S = some (if p0 = 1 ∨ p0 = 3 then fst4 P 0 N else nI (fb_ct P N), S) := by
  refine ux_lpi4 (b := b_X8_state_39 n p0) N (fun m x y z T => x = nI (fb_ct P m) ∧ y = fst4 P 0 m ∧ z = x4 ∧ T = S) (fun o => o = some (if p0 = 1 ∨ p0 = 3 then fst4 P 0 N else nI (fb_ct P N), S)) ?_ ?_ n 0 0 (-4) x4 S (by omega) (by omega) ⟨rfl, rfl, rfl, rfl⟩
  · intro m x y z T hm hI k hk
    obtain ⟨rfl, rfl, rfl, rfl⟩ := hI
    rw [hb _ _ _ _ hm]
    refine hk _ _ _ _ ⟨?_, ?_, rfl, rfl⟩
    · rw [fb_ct_succ]
      cases P m
      · simp [bi]
      · simp [bi, nI_1]
    · rw [fst4_snoc _ _ _ (by omega), Nat.zero_add]
      by_cases q : fst4 P 0 m = -4
      · simp only [q, if_true]
      · simp only [q, if_false]
        cases P m <;> simp
  · intro x y z T hI k
    obtain ⟨rfl, rfl, rfl, rfl⟩ := hI
    exact he _ _ _
theorem b109 (n : Nat) (p0 x2 x3 x4 x5 : Int32) (K : Int32 → Int32 → Int32 → Int32 → ux_S → Option (Int32 × ux_S)) (b : Bool) (S : ux_S) : b_X8_state_109 n p0 K x2 x3 x4 x5 (bi b) S = K (x2 + bi b) (if b then (if x3 = -4 then x5 else x3) else x3) x4 (x5 + 1) S := by
  unfold b_X8_state_109 b_X8_state_122
  cases b
  · simp [bi]
  · by_cases q : x3 = -4
    · simp [bi, q]
    · simp [bi, q]
theorem pr_state (n : Nat) (hn : 20 ≤ n) (p0 : Int32) : alike (fun S => f_X7_state n S p0) (fun S => f_X8_state n S p0) := by
  intro S hR
  obtain ⟨nr, nm, nf, nc, nt, h1, h2, h3, h4, h5, h6, h7⟩ := id hR
  have h := fo_of h1 h5
  have h16 := h.n16
  have h8 := h.n8
  obtain ⟨F, f1, f2, f3, f4⟩ := h5.bits
  have hd := t_dead hn h16 h.c4 h.ha f1
  obtain ⟨O, o1, o2⟩ := t_over hn h (dd (S.1 42) F.testBit)
  have hk := t_dark hn h (dd (S.1 42) F.testBit)
  have DD : ∀ Z, e47 S Z → ∀ f, f < nf → dd (Z.1 42) (Fm Z) f = dd (S.1 42) F.testBit f := by
    intro Z hZ g hg
    rw [hZ.2 42 (by omega)]
    refine dd_cong h.ha h16 (fun k hk => ?_) g hg
    rw [← f3 k hk]
    unfold Fm
    rw [hZ.2 71 (by omega), hZ.2 8 (by omega)]
  have inr : ∀ k, k ≤ 4 → ir (nI k) 0 4 = 1 := by decide
  -- over
  have mo : ∀ (p : Int32), ¬ p = 4 → ux_lp4 (b_X8_state_39 n p) n 0 (-4) 0 0 O = some (if p = 1 ∨ p = 3 then fst4 (ovr S (dd (S.1 42) F.testBit) nr) 0 nf else nI (fb_ct (ovr S (dd (S.1 42) F.testBit) nr) nf), O) := by
    intro p hp4
    have hO := h.e o2
    refine t_mstate hn h16 _ p 0 (fun K x2 x3 m hm => ?_) (fun K x2 x3 => ?_)
    · unfold b_X8_state_39 b_X8_state_57
      rw [if_pos rfl, hO.m22, if_neg (nI_ge hm (by omega)), if_pos rfl, if_neg hp4, t_goes hn hO (DD O o2) hm, ux_bi_s, ux_ibn (by omega : m < 16) (by omega), gdt, nI_clamp (by omega), hO.rm m hm, o2.2 43 (by omega), thr_e o2, ← nI_1]
      by_cases q : thr S (dd (S.1 42) F.testBit) nr m ≤ S.1 43 m
      · have : ovr S (dd (S.1 42) F.testBit) nr m = false := by simp [ovr, q]
        rw [if_pos q, this]
        exact b109 n p x2 x3 0 (nI m) K false O
      · have : ovr S (dd (S.1 42) F.testBit) nr m = true := by unfold ovr; exact decide_eq_true q
        rw [if_neg q, this]
        exact b109 n p x2 x3 0 (nI m) K true O
    · unfold b_X8_state_39 b_X8_state_57
      rw [if_pos rfl, hO.m22, if_pos (nI_le (Nat.le_refl _) (by omega))]
      by_cases q : p = 1
      · rw [if_pos q, if_pos (Or.inl q)]
      · rw [if_neg q]
        by_cases q2 : p = 3
        · rw [if_pos q2, if_pos (Or.inr q2)]
        · rw [if_neg q2, if_neg (fun q3 => q3.elim q q2)]
  have mk : ∀ (p : Int32), ux_lp4 (b_X8_state_39 n p) n 0 (-4) 1 0 S = some (if p = 1 ∨ p = 3 then fst4 (drk S (dd (S.1 42) F.testBit)) 0 nr else nI (fb_ct (drk S (dd (S.1 42) F.testBit)) nr), S) := by
    intro p
    refine t_mstate hn (by omega) _ p 1 (fun K x2 x3 m hm => ?_) (fun K x2 x3 => ?_)
    · unfold b_X8_state_39 b_X8_state_57
      rw [if_neg (by decide), h.m0, if_neg (nI_ge hm (by omega)), if_neg (by decide), t_isDark hn h (DD S e47.rf) hm, ux_bi_s, b109, nI_1]
    · unfold b_X8_state_39 b_X8_state_57
      rw [if_neg (by decide), h.m0, if_pos (nI_le (Nat.le_refl _) (by omega))]
      by_cases q : p = 1
      · rw [if_pos q, if_pos (Or.inl q)]
      · rw [if_neg q]
        by_cases q2 : p = 3
        · rw [if_pos q2, if_pos (Or.inr q2)]
        · rw [if_neg q2, if_neg (fun q3 => q3.elim q q2)]
  have md : ux_lp4 (b_X8_state_39 n 4) n 0 (-4) 0 0 S = some (nI (fb_ct (dd (S.1 42) F.testBit) nf), S) := by
    have := t_mstate hn h16 (S := S) (dd (S.1 42) F.testBit) 4 0 (fun K x2 x3 m hm => ?_) (fun K x2 x3 => ?_)
    · rw [this, if_neg (by decide)]
    · unfold b_X8_state_39 b_X8_state_57
      rw [if_pos rfl, h.m22, if_neg (nI_ge hm (by omega)), if_pos rfl, if_pos rfl, t_isDead hn h16 h.ha h.m69 hm, ux_bi_s, DD S e47.rf m hm, b109, nI_1]
    · unfold b_X8_state_39 b_X8_state_57
      rw [if_pos rfl, h.m22, if_pos (nI_le (Nat.le_refl _) (by omega)), if_neg (by decide), if_neg (by decide), if_neg (by decide)]
  have bo := bset_65536 (ovr S (dd (S.1 42) F.testBit) nr) h16
  have bk := bset_65536 (drk S (dd (S.1 42) F.testBit)) (n := nr) (by omega)
  have bd := bset_65536 (dd (S.1 42) F.testBit) h16
  rcases ir_cases p0 0 4 with ⟨e, hno⟩ | ⟨e, h9⟩
  · have ne : ∀ k, k ≤ 4 → ¬ p0 = nI k := by
      intro k hk2 q
      rw [q, inr k hk2] at e
      exact absurd e (by decide)
    refine ⟨-1, S, S, ?_, ?_, hR⟩
    · show f_X7_state n S p0 = _
      unfold f_X7_state
      rw [f2, hd, ux_bi_s, if_neg (show ¬ p0 = 0 from ne 0 (by omega)), if_neg (show ¬ p0 = 1 from ne 1 (by omega)), if_neg (show ¬ p0 = 2 from ne 2 (by omega)), if_neg (show ¬ p0 = 3 from ne 3 (by omega)), if_neg (show ¬ p0 = 4 from ne 4 (by omega))]
    · show f_X8_state n S p0 = _
      unfold f_X8_state
      rw [ti_0_4, ux_bi_s, e, if_pos rfl]
  · obtain ⟨k, -, hk4, rfl⟩ := rg_nI (ir_rg h9 (by decide) (by decide) : rg 0 4 p0) (by decide)
    rcases (by omega : k = 0 ∨ k = 1 ∨ k = 2 ∨ k = 3 ∨ k = 4) with rfl | rfl | rfl | rfl | rfl
    · refine ⟨nI (fb_ct (ovr S (dd (S.1 42) F.testBit) nr) nf), O, O, ?_, ?_, hR.sm o2.sm⟩
      · show f_X7_state n S (nI 0) = _
        unfold f_X7_state
        rw [f2, hd, ux_bi_s, if_pos (by rfl), o1, ux_bi_s, t_bitCount _ bo, ux_bi_s, popc_bset _ h16]
      · show f_X8_state n O (nI 0) = _
        unfold f_X8_state
        rw [ti_0_4, ux_bi_s, e, if_neg (by decide), if_neg (by decide), if_neg (by decide), mo (nI 0) (by decide), if_neg (by decide)]
    · refine ⟨fst4 (ovr S (dd (S.1 42) F.testBit) nr) 0 nf, O, O, ?_, ?_, hR.sm o2.sm⟩
      · show f_X7_state n S (nI 1) = _
        unfold f_X7_state
        rw [f2, hd, ux_bi_s, if_neg (by decide), if_pos (by rfl), o1, ux_bi_s, t_firstBit n _ bo, ux_bi_s, fst4_bset _ h16]
      · show f_X8_state n O (nI 1) = _
        unfold f_X8_state
        rw [ti_0_4, ux_bi_s, e, if_neg (by decide), if_neg (by decide), if_neg (by decide), mo (nI 1) (by decide), if_pos (by decide)]
    · refine ⟨nI (fb_ct (drk S (dd (S.1 42) F.testBit)) nr), S, S, ?_, ?_, hR⟩
      · show f_X7_state n S (nI 2) = _
        unfold f_X7_state
        rw [f2, hd, ux_bi_s, if_neg (by decide), if_neg (by decide), if_pos (by rfl), hk, ux_bi_s, t_bitCount _ bk, ux_bi_s, popc_bset _ (by omega)]
      · show f_X8_state n S (nI 2) = _
        unfold f_X8_state b_X8_state_29
        rw [ti_0_4, ux_bi_s, e, if_neg (by decide), if_pos (by rfl), mk (nI 2), if_neg (by decide)]
    · refine ⟨fst4 (drk S (dd (S.1 42) F.testBit)) 0 nr, S, S, ?_, ?_, hR⟩
      · show f_X7_state n S (nI 3) = _
        unfold f_X7_state
        rw [f2, hd, ux_bi_s, if_neg (by decide), if_neg (by decide), if_neg (by decide), if_pos (by rfl), hk, ux_bi_s, t_firstBit n _ bk, ux_bi_s, fst4_bset _ (by omega)]
      · show f_X8_state n S (nI 3) = _
        unfold f_X8_state b_X8_state_29
        rw [ti_0_4, ux_bi_s, e, if_neg (by decide), if_neg (by decide), if_pos (by rfl), mk (nI 3), if_pos (by decide)]
    · refine ⟨nI (fb_ct (dd (S.1 42) F.testBit) nf), S, S, ?_, ?_, hR⟩
      · show f_X7_state n S (nI 4) = _
        unfold f_X7_state
        rw [f2, hd, ux_bi_s, if_neg (by decide), if_neg (by decide), if_neg (by decide), if_neg (by decide), if_pos (by rfl), t_bitCount _ bd, ux_bi_s, popc_bset _ h16]
      · show f_X8_state n S (nI 4) = _
        unfold f_X8_state
        rw [ti_0_4, ux_bi_s, e, if_neg (by decide), if_neg (by decide), if_neg (by decide), show nI 4 = (4 : Int32) from rfl, md]
