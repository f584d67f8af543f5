/-! feeds: weak -/
theorem put_back {S : ux_S} {v : Int32} (h : S.1 8 27 = -4) : ux_i (ux_i S 8 27 v) 8 27 (-4) = S := by
  have h1 : (ux_i (ux_i S 8 27 v) 8 27 (-4)).1 = S.1 := by
    funext i k
    by_cases e : i = 8
    · subst e
      rw [rd_if]
      by_cases q : k = 27
      · subst q; rw [if_pos rfl, h]
      · rw [if_neg q, rd_nk q]
    · rw [rd_ne e, rd_ne e]
  exact Prod.ext h1 rfl
theorem put_same {S : ux_S} (h : S.1 8 27 = -4) : ux_i S 8 27 (-4) = S := by
  have h1 : (ux_i S 8 27 (-4)).1 = S.1 := by
    funext i k
    by_cases e : i = 8
    · subst e
      rw [rd_if]
      by_cases q : k = 27
      · subst q; rw [if_pos rfl, h]
      · rw [if_neg q]
    · rw [rd_ne e]
  exact Prod.ext h1 rfl
theorem fo.th {S : ux_S} {nf nr : Nat} (h : fo S nf nr) (v : Int32) : fo (ux_i S 8 27 v) nf nr := by
  obtain ⟨a1, a2, a3, a4, a5, a6, a7, a8, a9, a10, a11, a12, a13⟩ := h
  refine ⟨a1, a2, ?_, ?_, ?_, ?_, ?_, ?_, ?_, ?_, ?_, fun r w hr hw => ?_, ?_⟩
  · rw [ux_i_ne (by omega)]; exact a3
  · rw [ux_i_ne (by omega)]; exact a4
  · rw [ux_i_ne (by omega)]; exact a5
  · rw [ux_i_ne (by omega)]; exact a6
  · rw [ux_i_ne (by omega)]; exact a7
  · rw [ux_i_ne (by omega), ux_i_ne (by omega)]; exact a8
  · rw [rd_nk (by omega)]; exact a9
  · rw [rd_nk (by omega)]; exact a10
  · rw [ux_i_ne (by omega), ux_i_ne (by omega)]; exact a11
  · rw [ux_i_ne (by omega), ux_i_ne (by omega)]; exact a12 r w hr hw
  · rw [ux_i_ne (by omega), ux_i_ne (by omega)]; exact a13
theorem thr_th (S : ux_S) (v : Int32) (D : Nat → Bool) (nr p : Nat) : thr (ux_i S 8 27 v) D nr p = thr S D nr p := by
  unfold thr am
  rw [ux_i_ne (by omega : 42 ≠ 8), ux_i_ne (by omega : 45 ≠ 8), ux_i_ne (by omega : 46 ≠ 8), ux_i_ne (by omega : 9 ≠ 8)]
theorem drk_th (S : ux_S) (v : Int32) (D : Nat → Bool) (r : Nat) : drk (ux_i S 8 27 v) D r = drk S D r := by
  unfold drk
  rw [ux_i_ne (by omega : 45 ≠ 8), ux_i_ne (by omega : 46 ≠ 8)]
def wkO (S : ux_S) (D0 D1 : Nat → Bool) (nr : Nat) (i : Nat) : Bool := ovr S D1 nr i && !ovr S D0 nr i
def wkD (S : ux_S) (D0 D1 : Nat → Bool) (i : Nat) : Bool := drk S D1 i && !drk S D0 i
def wk (S : ux_S) (D0 D1 : Nat → Bool) (nf nr : Nat) : Bool := ex (wkO S D0 D1 nr) nf || ex (wkD S D0 D1) nr
theorem ex_s (c : Nat → Bool) (n : Nat) : ex c (n + 1) = (ex c n || c n) := by
  unfold ex
  rw [fb_ct_succ]
  cases c n
  · simp
  · simp
theorem sub_bset {P Q : Nat → Bool} {N : Nat} (hN : N ≤ 16) : nI (bset P N) &&& (nI (bset Q N) ^^^ (-1)) = 0 ↔ ex (fun i => P i && !Q i) N = false := by
  have b1 := bset_65536 P hN
  have b2 := bset_65536 Q hN
  rw [sub_bits (by omega) (by omega), ex_f]
  constructor
  · intro h k hk
    have := h k
    rw [bset_bit, bset_bit] at this
    simp only [hk, decide_true, Bool.true_and] at this
    revert this
    cases P k <;> cases Q k <;> simp
  · intro h k hk
    rw [bset_bit] at hk ⊢
    simp only [Bool.and_eq_true, decide_eq_true_eq] at hk ⊢
    have := h k hk.1
    refine ⟨hk.1, ?_⟩
    revert this
    rw [hk.2]
    cases Q k <;> simp
theorem t_firstWeak {n : Nat} (hn : 20 ≤ n) {S : ux_S} {nf nr F : Nat} (h : fo S nf nr) (f1 : F < 65536) (f2 : S.1 5 5 = nI F) :
    ∃ Z, f_X1_firstWeak n S = some (fst4 (fun f => wk S (dd (S.1 42) F.testBit) (dd (S.1 42) (F ||| 2 ^ f).testBit) nf nr) 0 nf, Z) ∧ e47 S Z := by
  have h16 := h.n16
  have h8 := h.n8
  obtain ⟨O, o1, o2⟩ := t_over hn h (dd (S.1 42) F.testBit)
  have hO := h.e o2
  have hk := t_dark hn hO (dd (S.1 42) F.testBit)
  unfold f_X1_firstWeak
  rw [f2, t_dead hn h16 h.c4 h.ha f1, ux_bi_s, o1, ux_bi_s, hk, ux_bi_s]
  have ek : ∀ Z, e47 S Z → ∀ D, drk Z D = drk S D := by
    intro Z hZ D
    funext r
    unfold drk
    rw [hZ.2 45 (by omega), hZ.2 46 (by omega)]
  have eo : ∀ Z, e47 S Z → ∀ D, ovr Z D nr = ovr S D nr := by
    intro Z hZ D
    funext r
    unfold ovr
    rw [thr_e hZ, hZ.2 43 (by omega)]
  rw [ek O o2]
  have key : ∀ t m T, m ≤ nf → nf < m + t → e47 S T → ∃ Z, ux_lp3 (b_X1_firstWeak_27 n) t (nI (bset (ovr S (dd (S.1 42) F.testBit) nr) nf)) (nI (bset (drk S (dd (S.1 42) F.testBit)) nr)) (nI m) T = some (fst4 (fun f => wk S (dd (S.1 42) F.testBit) (dd (S.1 42) (F ||| 2 ^ f).testBit) nf nr) m (nf - m), Z) ∧ e47 S Z := by
    intro t
    induction t with
    | zero => intro m T h1 h2; omega
    | succ t ih =>
      intro m T h1 h2 hT
      show ∃ Z, b_X1_firstWeak_27 n (ux_lp3 (b_X1_firstWeak_27 n) t) (nI (bset (ovr S (dd (S.1 42) F.testBit) nr) nf)) (nI (bset (drk S (dd (S.1 42) F.testBit)) nr)) (nI m) T = some (_, Z) ∧ _
      generalize ux_lp3 (b_X1_firstWeak_27 n) t = K at ih ⊢
      have gT := h.e hT
      unfold b_X1_firstWeak_27 b_X1_firstWeak_70 b_X1_firstWeak_92
      rw [gT.c4]
      by_cases hm : m < nf
      · have hF2 : F ||| 2 ^ m < 65536 := Nat.or_lt_two_pow (n := 16) f1 (Nat.pow_lt_pow_right (by omega) (by omega))
        obtain ⟨U, u1, u2⟩ := t_over hn gT (dd (S.1 42) (F ||| 2 ^ m).testBit)
        have gU := gT.e u2
        have hU := hT.trans u2
        have uk := t_dark hn gU (dd (S.1 42) (F ||| 2 ^ m).testBit)
        rw [if_neg (nI_ge hm (by omega)), hT.2 5 (by omega), f2, bit_set (by omega), t_dead hn h16 gT.c4 gT.ha hF2, ux_bi_s, hT.2 42 (by omega), u1, ux_bi_s, eo T hT, uk, ux_bi_s, ux_bi_s, ek U hU, nI_1, show nf - m = (nf - (m + 1)) + 1 by omega]
        unfold fst4
        have nx := ih (m + 1) U (by omega) (by omega) hU
        have s1 := sub_bset (P := ovr S (dd (S.1 42) (F ||| 2 ^ m).testBit) nr) (Q := ovr S (dd (S.1 42) F.testBit) nr) h16
        have s2 := sub_bset (P := drk S (dd (S.1 42) (F ||| 2 ^ m).testBit)) (Q := drk S (dd (S.1 42) F.testBit)) (N := nr) (by omega)
        have w1 : wk S (dd (S.1 42) F.testBit) (dd (S.1 42) (F ||| 2 ^ m).testBit) nf nr = (ex (fun i => ovr S (dd (S.1 42) (F ||| 2 ^ m).testBit) nr i && !ovr S (dd (S.1 42) F.testBit) nr i) nf || ex (fun i => drk S (dd (S.1 42) (F ||| 2 ^ m).testBit) i && !drk S (dd (S.1 42) F.testBit) i) nr) := rfl
        rw [w1]
        cases c1 : ex (fun i => ovr S (dd (S.1 42) (F ||| 2 ^ m).testBit) nr i && !ovr S (dd (S.1 42) F.testBit) nr i) nf
        · rw [if_pos (s1.mpr c1)]
          cases c2 : ex (fun i => drk S (dd (S.1 42) (F ||| 2 ^ m).testBit) i && !drk S (dd (S.1 42) F.testBit) i) nr
          · rw [if_pos (s2.mpr c2), if_pos rfl, if_pos rfl, if_neg (by simp)]
            exact nx
          · rw [if_neg (fun q => by rw [s2.mp q] at c2; cases c2), if_pos rfl, if_neg (by decide), if_pos (by simp)]
            exact ⟨U, rfl, hU⟩
        · rw [if_neg (fun q => by rw [s1.mp q] at c1; cases c1)]
          cases c2 : ex (fun i => drk S (dd (S.1 42) (F ||| 2 ^ m).testBit) i && !drk S (dd (S.1 42) F.testBit) i) nr
          · rw [if_pos (s2.mpr c2), if_neg (show ¬ (1 : Int32) = 0 by decide), if_pos (show (true || false) = true from rfl)]
            exact ⟨U, rfl, hU⟩
          · rw [if_neg (fun q => by rw [s2.mp q] at c2; cases c2), if_neg (show ¬ (1 : Int32) = 0 by decide), if_pos (show (true || true) = true from rfl)]
            exact ⟨U, rfl, hU⟩
      · have : m = nf := by omega
        subst this
        rw [if_pos (nI_le (Nat.le_refl _) (by omega)), Nat.sub_self]
        exact ⟨T, rfl, hT⟩
  obtain ⟨Z, z1, z2⟩ := key n 0 O (by omega) (by omega) o2
  exact ⟨Z, z1, z2⟩
