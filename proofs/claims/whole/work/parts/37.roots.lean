/-! roots -/
theorem popc_lo {s nc : Nat} (hs : s < 2 ^ nc) (hn : nc ≤ 16) : fb_ct s.testBit nc = popc s := by
  unfold popc
  have e := fb_ct_split s.testBit nc (16 - nc)
  rw [show nc + (16 - nc) = 16 by omega] at e
  rw [e]
  have : fb_ct (fun k => s.testBit (nc + k)) (16 - nc) = 0 := fb_ct_zero.mpr (fun k hk => Nat.testBit_lt_two_pow (Nat.lt_of_lt_of_le hs (Nat.pow_le_pow_right (by omega) (by omega))))
  omega
theorem root_sub {S : ux_S} {nc s : Nat} (hs : s < 2 ^ nc) (h : orf s.testBit (S.1 48) nc = S.1 6 2) : ∀ i, s.testBit i = true → (bset (subI S) nc).testBit i = true := by
  intro i hi
  have hin : i < nc := by
    by_cases q : i < nc
    · exact q
    · rw [Nat.testBit_lt_two_pow (Nat.lt_of_lt_of_le hs (Nat.pow_le_pow_right (by omega) (by omega)))] at hi
      cases hi
  rw [bset_bit]
  have : subI S i = true := by
    unfold subI
    refine decide_eq_true (bw2 ?_)
    rw [← h]
    exact orf_abs nc i hin hi
  simp [hin, this]
def rok (N : Nat) (an : Option Nat) : Prop := ∀ s, an = some s → s < N
theorem rok_step {S : ux_S} {nc s : Nat} {an : Option Nat} (h : rok s an) : rok (s + 1) (rstep S nc an s) := by
  unfold rstep
  by_cases q : orf s.testBit (S.1 48) nc = S.1 6 2
  · rw [if_pos q]
    cases an with
    | none => intro x e; cases e; omega
    | some b =>
      show rok (s + 1) (if popc b ≤ popc s then some b else some s)
      have := h b rfl
      by_cases q2 : popc b ≤ popc s
      · rw [if_pos q2]; intro x e; cases e; omega
      · rw [if_neg q2]; intro x e; cases e; omega
  · rw [if_neg q]
    intro x e
    have := h x e
    omega
theorem t_fewest {n : Nat} (hn : 1100 ≤ n) {S : ux_S} {nc : Nat} (h : RAlarm S nc) : f_X0_fewest n S = some (renc (rall S nc (2 ^ nc)), S) := by
  obtain ⟨g0, g1, g2, g3, g4⟩ := id h
  have hp : 2 ^ nc ≤ 1024 := Nat.pow_le_pow_right (n := 2) (by omega) g0
  have hp0 : 0 < 2 ^ nc := Nat.pow_pos (by omega)
  have hL : bset (subI S) nc < 2 ^ nc := bset_lt _ _
  have hsh : (1 : Int32) <<< (nI nc &&& 31) = nI (2 ^ nc) := sh1 (by omega)
  unfold f_X0_fewest
  rw [t_likely (by omega) h, ux_bi_s]
  refine ux_lpi4 (b := b_X0_fewest_14 n) (2 ^ nc) (fun s x y z T => x = nI (bset (subI S) nc) ∧ y = rcnt 11 (rall S nc s) ∧ z = renc (rall S nc s) ∧ T = S ∧ rok s (rall S nc s)) (fun o => o = some (renc (rall S nc (2 ^ nc)), S)) ?_ ?_ n 0 _ _ _ S (by omega) (by omega) ⟨rfl, rfl, rfl, rfl, fun _ e => by cases e⟩
  · intro s x y z T hs hI k hk
    obtain ⟨rfl, rfl, rfl, rfl, hok⟩ := hI
    have hokn := rok_step (S := T) (nc := nc) hok
    have hpc := popc_lo hs (by omega)
    have hpl : popc s ≤ 10 := by
      rw [← hpc]; have := fb_ct_le s.testBit nc; omega
    have keep : rstep T nc (rall T nc s) s = rall T nc s → k (nI (bset (subI T) nc)) (rcnt 11 (rall T nc s)) (renc (rall T nc s)) (nI (s + 1)) T = some (renc (rall T nc (2 ^ nc)), T) := by
      intro e
      have e2 : rall T nc (s + 1) = rall T nc s := e
      refine hk _ _ _ _ ⟨rfl, by rw [e2], by rw [e2], rfl, ?_⟩
      exact hokn
    have upd : rstep T nc (rall T nc s) s = some s → k (nI (bset (subI T) nc)) (nI (popc s)) (nI s) (nI (s + 1)) T = some (renc (rall T nc (2 ^ nc)), T) := by
      intro e
      have e2 : rall T nc (s + 1) = some s := e
      refine hk _ _ _ _ ⟨rfl, by rw [e2]; rfl, by rw [e2]; rfl, rfl, ?_⟩
      exact hokn
    unfold b_X0_fewest_14 b_X0_fewest_39
    rw [g1, hsh, if_neg (nI_ge hs (by omega)), t_bitCount T (by omega), ux_bi_s]
    by_cases hle : rcnt 11 (rall T nc s) ≤ nI (popc s)
    · rw [if_pos hle, if_pos rfl, nI_1]
      refine keep ?_
      unfold rstep
      by_cases q : orf s.testBit (T.1 48) nc = T.1 6 2
      · rw [if_pos q]
        cases han : rall T nc s with
        | none =>
          exfalso
          rw [han] at hle
          have : nI 11 ≤ nI (popc s) := hle
          rw [nI_leI (by omega) (by omega)] at this
          omega
        | some b =>
          rw [han] at hle
          have hb := popc_le b
          have : nI (popc b) ≤ nI (popc s) := hle
          rw [nI_leI (by omega) (by omega)] at this
          show (if popc b ≤ popc s then some b else some s) = some b
          rw [if_pos this]
      · rw [if_neg q]
    · rw [if_neg hle, if_neg (by decide)]
      by_cases q : orf s.testBit (T.1 48) nc = T.1 6 2
      · rw [if_pos ((sub_bits (by omega) (by omega)).mpr (root_sub hs q)), t_madeBy (by omega) h (by omega), ux_bi_s, if_pos q, t_bitCount T (by omega), ux_bi_s, nI_1]
        refine upd ?_
        unfold rstep
        rw [if_pos q]
        cases han : rall T nc s with
        | none => rfl
        | some b =>
          rw [han] at hle
          have hb := popc_le b
          have : ¬ nI (popc b) ≤ nI (popc s) := hle
          rw [nI_leI (by omega) (by omega)] at this
          show (if popc b ≤ popc s then some b else some s) = some s
          rw [if_neg this]
      · have hkeep := keep (by unfold rstep; rw [if_neg q])
        by_cases q2 : nI s &&& (nI (bset (subI T) nc) ^^^ (-1)) = 0
        · rw [if_pos q2, t_madeBy (by omega) h (by omega), ux_bi_s, if_neg q, nI_1]
          exact hkeep
        · rw [if_neg q2, nI_1]
          exact hkeep
  · intro x y z T hI k
    obtain ⟨rfl, rfl, rfl, rfl, -⟩ := hI
    unfold b_X0_fewest_14
    rw [g1, hsh, if_pos (nI_le (Nat.le_refl _) (by omega))]
theorem t_roots8 {n : Nat} (hn : 1100 ≤ n) {S : ux_S} {nc : Nat} (h : RAlarm S nc) : f_X8_roots n S = some (renc (rall S nc (2 ^ nc)), S) := by
  obtain ⟨g0, g1, g2, g3, g4⟩ := id h
  have hp : 2 ^ nc ≤ 1024 := Nat.pow_le_pow_right (n := 2) (by omega) g0
  have hp0 : 0 < 2 ^ nc := Nat.pow_pos (by omega)
  have hsh : (1 : Int32) <<< (nI nc &&& 31) = nI (2 ^ nc) := sh1 (by omega)
  unfold f_X8_roots
  refine ux_lpi3 (b := b_X8_roots_8 n) (2 ^ nc) (fun s z y T => y = rcnt 100 (rall S nc s) ∧ z = renc (rall S nc s) ∧ T = S) (fun o => o = some (renc (rall S nc (2 ^ nc)), S)) ?_ ?_ n 0 _ _ S (by omega) (by omega) ⟨rfl, rfl, rfl⟩
  · intro s z y T hs hI k hk
    obtain ⟨rfl, rfl, rfl⟩ := hI
    have hpc := popc_lo hs (by omega)
    have hpl : popc s ≤ 10 := by
      rw [← hpc]; have := fb_ct_le s.testBit nc; omega
    have keep : rstep T nc (rall T nc s) s = rall T nc s → k (renc (rall T nc s)) (rcnt 100 (rall T nc s)) (nI (s + 1)) T = some (renc (rall T nc (2 ^ nc)), T) := by
      intro e
      have e2 : rall T nc (s + 1) = rall T nc s := e
      exact hk _ _ _ ⟨by rw [e2], by rw [e2], rfl⟩
    have upd : rstep T nc (rall T nc s) s = some s → k (nI s) (nI (popc s)) (nI (s + 1)) T = some (renc (rall T nc (2 ^ nc)), T) := by
      intro e
      have e2 : rall T nc (s + 1) = some s := e
      exact hk _ _ _ ⟨by rw [e2]; rfl, by rw [e2]; rfl, rfl⟩
    unfold b_X8_roots_8
    rw [g2, hsh, if_neg (nI_ge hs (by omega))]
    refine ux_lpi6 (b := b_X8_roots_27 n k) nc (fun m a b c d e U => a = renc (rall T nc s) ∧ b = rcnt 100 (rall T nc s) ∧ c = nI s ∧ d = orf s.testBit (T.1 48) m ∧ e = nI (fb_ct s.testBit m) ∧ U = T) (fun o => o = some (renc (rall T nc (2 ^ nc)), T)) ?_ ?_ n 0 _ _ _ _ _ T (by omega) (by omega) ⟨rfl, rfl, rfl, rfl, rfl, rfl⟩
    · intro m a b c d e U hm hI k2 hk2
      obtain ⟨rfl, rfl, rfl, rfl, rfl, rfl⟩ := hI
      unfold b_X8_roots_27
      rw [g2, if_neg (nI_ge hm (by omega))]
      by_cases q : s.testBit m = true
      · rw [if_pos ((bit_is (by omega) (by omega)).mpr q), ux_ibn (by omega : m < 10) (by omega), gdt, nI_clamp (by omega), nI_1, nI_1, (g3 m hm).1]
        refine hk2 _ _ _ _ _ _ ⟨rfl, rfl, rfl, ?_, ?_, rfl⟩
        · conv => rhs; unfold orf
          rw [if_pos q]
        · rw [fb_ct_succ, if_pos q]
      · rw [if_neg (fun q2 => q ((bit_is (by omega) (by omega)).mp q2)), nI_1]
        refine hk2 _ _ _ _ _ _ ⟨rfl, rfl, rfl, ?_, ?_, rfl⟩
        · conv => rhs; unfold orf
          rw [if_neg q]
        · rw [fb_ct_succ, if_neg q]; rfl
    · intro a b c d e U hI k2
      obtain ⟨rfl, rfl, rfl, rfl, rfl, rfl⟩ := hI
      unfold b_X8_roots_27
      rw [g2, if_pos (nI_le (Nat.le_refl _) (by omega)), g4.1, hpc, nI_1]
      by_cases q : orf s.testBit (U.1 48) nc = U.1 6 2
      · rw [if_pos q]
        cases han : rall U nc s with
        | none =>
          rw [han] at upd
          rw [if_neg (by show ¬ nI 100 ≤ nI (popc s); exact nI_ge (by omega) (by omega))]
          refine upd ?_
          unfold rstep
          rw [if_pos q]
        | some b =>
          rw [han] at upd keep
          have hb := popc_le b
          by_cases hle : popc b ≤ popc s
          · rw [if_pos (by show nI (popc b) ≤ nI (popc s); exact nI_le hle (by omega))]
            refine keep ?_
            unfold rstep
            rw [if_pos q]
            show (if popc b ≤ popc s then some b else some s) = some b
            rw [if_pos hle]
          · rw [if_neg (by show ¬ nI (popc b) ≤ nI (popc s); exact nI_ge (by omega) (by omega))]
            refine upd ?_
            unfold rstep
            rw [if_pos q]
            show (if popc b ≤ popc s then some b else some s) = some s
            rw [if_neg hle]
      · rw [if_neg q]
        refine keep ?_
        unfold rstep
        rw [if_neg q]
  · intro z y T hI k
    obtain ⟨rfl, rfl, rfl⟩ := hI
    unfold b_X8_roots_8
    rw [g2, hsh, if_pos (nI_le (Nat.le_refl _) (by omega))]
theorem pr_roots (n : Nat) (hn : 1100 ≤ n) : alike (fun S => f_X7_roots n S) (fun S => f_X8_roots n S) := by
  intro S hR
  obtain ⟨nr, nm, nf, nc, nt, h1, h2, h3, h4, h5, h6, h7⟩ := id hR
  refine ⟨renc (rall S nc (2 ^ nc)), S, S, ?_, t_roots8 hn h6, hR⟩
  simp only [f_X7_roots, t_fewest hn h6, ux_bi_s]
