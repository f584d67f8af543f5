/-! what comes into a rack -/
def tn (x : Int32) : Nat := x.toNatClampNeg
theorem tn_rg {a b : Int} {x : Int32} (h : rg a b x) (ha : 0 ≤ a) : x = nI (tn x) ∧ a ≤ (tn x : Int) ∧ (tn x : Int) ≤ b := by
  obtain ⟨h1, h2⟩ := h
  have h3 : ¬ x < 0 := by rw [fa_lt, show (0 : Int32).toInt = 0 by decide]; omega
  obtain ⟨j, hj, rfl⟩ := nI_of h3
  rw [nI_toInt hj] at h1 h2
  unfold tn
  rw [nI_clamp hj]
  exact ⟨rfl, h1, h2⟩
theorem bx_nI {f : Nat → Int32} {g : Nat → Nat} : ∀ n, (∀ i, i < n → f i = nI (g i)) → bx_sum f n = nI (fb_sm g n)
  | 0, _ => rfl
  | n + 1, h => by
    show bx_sum f n + f n = nI (fb_sm g n + g n)
    rw [bx_nI n (fun i hi => h i (by omega)), h n (by omega), nI_add]
def GV (S : ux_S) (nr j : Nat) : Nat := fb_sm (fun i => tn (S.1 9 i) * tn (S.1 (14 + j) i)) nr
def WN (S : ux_S) (nr j av fv : Nat) : Nat := 1000 * av + (GV S nr j + fv - 1) / fv
theorem GV_le {S : ux_S} {nr j : Nat} (h : RHall S nr) (hj : j < 8) : GV S nr j ≤ 1600000 := by
  obtain ⟨g0, g1, g2, g3, g4, g5, g6⟩ := h
  have : GV S nr j ≤ nr * 200000 := by
    unfold GV
    rw [← fb_sm_const]
    refine fb_sm_le (fun i hi => ?_)
    have h1 := (tn_rg (g3 i hi).1.2 (by decide)).2.2
    have h2 := (tn_rg (g4 j i hj (by omega)).2 (by decide)).2.2
    calc tn (S.1 9 i) * tn (S.1 (14 + j) i) ≤ 1000 * 200 := Nat.mul_le_mul (by omega) (by omega)
      _ = 200000 := by decide
  have : nr * 200000 ≤ 8 * 200000 := Nat.mul_le_mul_right _ g0
  omega
theorem WN_le {S : ux_S} {nr j av fv : Nat} (h : RHall S nr) (hj : j < 8) (ha : av ≤ 30) (hf : 1 ≤ fv ∧ fv ≤ 5) : WN S nr j av fv ≤ 1640000 := by
  have h1 := GV_le h hj
  have h2 : (GV S nr j + fv - 1) / fv ≤ GV S nr j + fv - 1 := Nat.div_le_self _ _
  unfold WN
  omega
theorem t_given {n : Nat} (hn : 10 ≤ n) {S : ux_S} {nr j : Nat} (h : RHall S nr) (hj : j < 8) : f_X2_givenAt n S (nI j) = some (nI (GV S nr j), S) := by
  obtain ⟨g0, g1, g2, g3, g4, g5, g6⟩ := h
  have key : ∀ m, m ≤ nr → bx_sum (fun i => S.1 9 i * S.1 (14 + j) i) m = nI (fb_sm (fun i => tn (S.1 9 i) * tn (S.1 (14 + j) i)) m) := fun m hm => bx_nI m (fun i hi => by
    rw [(tn_rg (g3 i (by omega)).1.2 (by decide)).1, (tn_rg (g4 j i hj (by omega)).2 (by decide)).1, pk_mul]
    simp only [tn, nI_clamp (show (S.1 9 i).toNatClampNeg < 2 ^ 31 from by have := (tn_rg (g3 i (by omega)).1.2 (by decide)).2.2; unfold tn at this; omega), nI_clamp (show (S.1 (14 + j) i).toNatClampNeg < 2 ^ 31 from by have := (tn_rg (g4 j i hj (by omega)).2 (by decide)).2.2; unfold tn at this; omega)])
  unfold f_X2_givenAt GV
  rw [← key nr (Nat.le_refl _)]
  refine ux_lpi2 (b := b_X2_givenAt_4 n (nI j)) nr (fun m x T => x = bx_sum (fun i => S.1 9 i * S.1 (14 + j) i) m ∧ T = S) (fun o => o = some (bx_sum (fun i => S.1 9 i * S.1 (14 + j) i) nr, S)) ?_ ?_ n 0 0 S (by omega) (by omega) ⟨rfl, rfl⟩
  · intro m x T hm hI k hk
    obtain ⟨rfl, rfl⟩ := hI
    unfold b_X2_givenAt_4
    rw [g1, if_neg (nI_ge hm (by omega)), ux_ibn (by omega : m < 8) (by omega), gdt, ux_ibn hj (by omega), gdt, gdt, nI_clamp (by omega), nI_clamp (by omega), nI_1]
    exact hk _ _ ⟨rfl, rfl⟩
  · intro x T hI k
    obtain ⟨rfl, rfl⟩ := hI
    unfold b_X2_givenAt_4
    rw [g1, if_pos (nI_le (Nat.le_refl _) (by omega))]
theorem t_divUp (S : ux_S) {G fv : Nat} (hG : G ≤ 1000000000) (hf : 1 ≤ fv ∧ fv ≤ 1000000) : f_X7_divideUp S (nI G) (nI fv) = some (nI ((G + fv - 1) / fv), S) := by
  unfold f_X7_divideUp f_X7_divideDown
  rw [if_pos (by rw [show (1 : Int32) = nI 1 from rfl]; exact nI_le hf.1 (by omega)), ux_nzn (by omega) (by omega), gdt, ux_bi_s, nI_add, nIp (by omega), pk_div (by omega) (by omega) (by omega)]
theorem t_divDown (S : ux_S) {a b : Nat} (ha : a < 2 ^ 31) (hb : 1 ≤ b ∧ b < 2 ^ 31) : f_X7_divideDown S (nI a) (nI b) = some (nI (a / b), S) := by
  unfold f_X7_divideDown
  rw [if_pos (by rw [show (1 : Int32) = nI 1 from rfl]; exact nI_le hb.1 (by omega)), ux_nzn (by omega) (by omega), gdt, pk_div ha (by omega) (by omega)]
theorem t_warm {n : Nat} (hn : 10 ≤ n) {S : ux_S} {nr j av fv : Nat} (h : RHall S nr) (hj : j < 8) (hf : 1 ≤ fv ∧ fv ≤ 5) : f_X2_warmth n S (nI j) (nI av) (nI fv) = some (nI (WN S nr j av fv), S) := by
  unfold f_X2_warmth WN
  have := GV_le h hj
  rw [t_given hn h hj, ux_bi_s, t_divUp S (by omega) (by omega), ux_bi_s, show (1000 : Int32) = nI 1000 from rfl, pk_mul, nI_add]
/-- nothing is added -/
def cl0 (Z : ux_S) : Prop := ∀ k, k < 8 → Z.1 62 k = 0
theorem t_clear {n : Nat} (hn : 10 ≤ n) (S : ux_S) : ∃ Z, f_X8_clearAdded n S = some Z ∧ cl0 Z ∧ Z.2 = S.2 ∧ ∀ i k, i ≠ 62 → Z.1 i k = S.1 i k := by
  unfold f_X8_clearAdded
  refine ux_lpi1 (b := b_X8_clearAdded_2 n) 8 (fun m T => (∀ k, k < m → T.1 62 k = 0) ∧ T.2 = S.2 ∧ ∀ i k, i ≠ 62 → T.1 i k = S.1 i k) (fun o => ∃ Z, o = some Z ∧ cl0 Z ∧ Z.2 = S.2 ∧ ∀ i k, i ≠ 62 → Z.1 i k = S.1 i k) ?_ ?_ n 0 S (by omega) (by omega) ⟨fun k hk => absurd hk (by omega), rfl, fun _ _ _ => rfl⟩
  · intro m T hm hT k hk
    unfold b_X8_clearAdded_2
    rw [if_neg (by rw [show (8 : Int32) = nI 8 from rfl]; exact nI_ge hm (by omega)), ux_ibn hm (by omega), gdt, nI_clamp (by omega), nI_1]
    refine hk _ ⟨fun q hq => ?_, hT.2.1, fun i q hi => ?_⟩
    · rw [rd_if]
      by_cases e : q = m
      · rw [if_pos e]
      · rw [if_neg e]; exact hT.1 q (by omega)
    · rw [rd_ne hi]; exact hT.2.2 i q hi
  · intro T hT k
    unfold b_X8_clearAdded_2
    rw [if_pos (by decide)]
    exact ⟨T, rfl, hT.1, hT.2⟩
theorem cl_sm {S Z : ux_S} (h2 : Z.2 = S.2) (h : ∀ i k, i ≠ 62 → Z.1 i k = S.1 i k) : sm S Z := ⟨fun i k q => h i k (by unfold PAll at q; omega), h2⟩
theorem t_comes {n : Nat} (hn : 10 ≤ n) {S : ux_S} {nr j av fv : Nat} (h : RHall S nr) (hc : cl0 S) (hj : j < 8) (hf : 1 ≤ fv ∧ fv ≤ 5) : f_X8_comes n S (nI j) (nI av) (nI fv) = some (nI (WN S nr j av fv), S) := by
  have hGV := GV_le h hj
  obtain ⟨g0, g1, g2, g3, g4, g5, g6⟩ := h
  have key : ∀ m, m ≤ nr → bx_sum (fun i => (S.1 54 i + S.1 62 i) * S.1 58 (8 * j + i)) m = nI (fb_sm (fun i => tn (S.1 9 i) * tn (S.1 (14 + j) i)) m) := fun m hm => bx_nI m (fun i hi => by
    have a1 := tn_rg (g3 i (by omega)).1.2 (by decide)
    have a2 := tn_rg (g4 j i hj (by omega)).2 (by decide)
    rw [hc i (by omega), Int32.add_zero, (g3 i (by omega)).1.1, (g4 j i hj (by omega)).1, ← pk_mul, ← a1.1, ← a2.1])
  unfold f_X8_comes
  have hw : nI (WN S nr j av fv) = 1000 * nI av + (nI (GV S nr j) + nI fv - 1) / nI fv := by
    unfold WN
    rw [nI_add, nIp (by omega), pk_div (by omega) (by omega) (by omega), show (1000 : Int32) = nI 1000 from rfl, pk_mul, nI_add]
  rw [hw]
  unfold GV
  rw [← key nr (Nat.le_refl _)]
  refine ux_lpi2 (b := b_X8_comes_6 n (nI j) (nI av) (nI fv)) nr (fun m x T => x = bx_sum (fun i => (S.1 54 i + S.1 62 i) * S.1 58 (8 * j + i)) m ∧ T = S) (fun o => o = some (1000 * nI av + (bx_sum (fun i => (S.1 54 i + S.1 62 i) * S.1 58 (8 * j + i)) nr + nI fv - 1) / nI fv, S)) ?_ ?_ n 0 0 S (by omega) (by omega) ⟨rfl, rfl⟩
  · intro m x T hm hI k hk
    obtain ⟨rfl, rfl⟩ := hI
    unfold b_X8_comes_6
    rw [g2, if_neg (nI_ge hm (by omega)), ux_ibn (by omega : m < 8) (by omega), gdt, gdt, ix8 hj (by omega), ux_ibn (by omega : 8 * j + m < 64) (by omega), gdt, nI_clamp (by omega), nI_clamp (by omega), nI_1]
    exact hk _ _ ⟨rfl, rfl⟩
  · intro x T hI k
    obtain ⟨rfl, rfl⟩ := hI
    unfold b_X8_comes_6
    rw [g2, if_pos (nI_le (Nat.le_refl _) (by omega)), ux_nzn (by omega) (by omega), gdt]
theorem WN_cong {S Z : ux_S} {nr j av fv : Nat} (hj : j < 8) (h : ag PHall S Z) : WN Z nr j av fv = WN S nr j av fv := by
  unfold WN GV
  have e9 : Z.1 9 = S.1 9 := funext fun i => h 9 i (by unfold PHall; omega)
  have e14 : Z.1 (14 + j) = S.1 (14 + j) := funext fun i => h (14 + j) i (by unfold PHall; omega)
  rw [e9, e14]
theorem airfan {S : ux_S} {nr : Nat} (h : RHall S nr) : ∃ av fv, S.1 1 6 = nI av ∧ S.1 1 7 = nI fv ∧ (10 ≤ av ∧ av ≤ 30) ∧ (1 ≤ fv ∧ fv ≤ 5) ∧ S.1 8 6 = nI av ∧ S.1 8 7 = nI fv := by
  obtain ⟨g0, g1, g2, g3, g4, g5, g6⟩ := h
  obtain ⟨av, a1, a2, a3⟩ := rg_nI g5.2 (by decide)
  obtain ⟨fv, b1, b2, b3⟩ := rg_nI g6.2 (by decide)
  exact ⟨av, fv, a3, b3, by omega, by omega, by rw [g5.1, a3], by rw [g6.1, b3]⟩
theorem smHall {S Z : ux_S} (h : sm S Z) : ag PHall S Z := fun i k q => h.1 i k (by unfold PHall at q; unfold PAll; omega)
theorem pr_into (n : Nat) (hn : 10 ≤ n) (p0 : Int32) : alike (fun S => f_X7_into n S p0) (fun S => f_X8_into n S p0) := by
  intro S hR
  obtain ⟨nr, nm, nf, nc, nt, h1, h2, h3, h4, h5, h6, h7⟩ := id hR
  obtain ⟨av, fv, a1, a2, a3, a4, a5, a6⟩ := airfan h1
  obtain ⟨Z, z1, z2, z3, z4⟩ := t_clear hn S
  have hsm := cl_sm z3 z4
  have hZ := h1.cong (smHall hsm)
  rcases hs_cases p0 (n := nr) (by have := h1.1; omega) with e | ⟨e, j, hj, rfl⟩
  · refine ⟨-1, S, Z, ?_, ?_, hR.sm hsm⟩
    · simp only [f_X7_into, t_has2 h1.2.1, ux_bi_s, e, i00, if_true]
    · simp only [f_X8_into, z1, ux_bv_s, t_isRack (by have := h1.1; omega) hZ.2.2.1, ux_bi_s, e, i00, if_true]
  · have hj8 : j < 8 := by have := h1.1; omega
    refine ⟨nI (WN S nr j av fv), S, Z, ?_, ?_, hR.sm hsm⟩
    · simp only [f_X7_into, t_has2 h1.2.1, ux_bi_s, e, i10, if_false, a1, a2, t_warm hn h1 hj8 a4]
    · have b5 : Z.1 8 6 = nI av := by rw [z4 8 6 (by omega)]; exact a5
      have b6 : Z.1 8 7 = nI fv := by rw [z4 8 7 (by omega)]; exact a6
      simp only [f_X8_into, z1, ux_bv_s, t_isRack (by have := h1.1; omega) hZ.2.2.1, ux_bi_s, e, i10, if_false, b5, b6, t_comes hn hZ z2 hj8 a4, WN_cong hj8 (smHall hsm)]
/-! limits -/
theorem lim {S : ux_S} {nr j : Nat} (h : RHall S nr) (hj : j < nr) : S.1 10 j = nI (tn (S.1 10 j)) ∧ 10000 ≤ tn (S.1 10 j) ∧ tn (S.1 10 j) ≤ 60000 ∧ S.1 55 j = nI (tn (S.1 10 j)) := by
  obtain ⟨g0, g1, g2, g3, g4, g5, g6⟩ := h
  have := tn_rg (g3 j hj).2.1.2 (by decide)
  exact ⟨this.1, by omega, by omega, by rw [(g3 j hj).2.1.1]; exact this.1⟩
def LF (S : ux_S) (nr av fv j : Nat) : Int32 := nI (tn (S.1 10 j)) - nI (WN S nr j av fv)
theorem LF_neg {S : ux_S} {nr av fv j : Nat} (h : RHall S nr) (hj : j < nr) (ha : av ≤ 30) (hf : 1 ≤ fv ∧ fv ≤ 5) : 0 ≤ LF S nr av fv j ↔ WN S nr j av fv ≤ tn (S.1 10 j) := by
  have h1 := lim h hj
  have h2 := WN_le (av := av) (fv := fv) h (by have := h.1; omega : j < 8) ha hf
  unfold LF
  rw [fa_le, pk_sub_toInt (by omega) (by omega), show (0 : Int32).toInt = 0 by decide]
  omega
theorem LF_lt {S : ux_S} {nr av fv j : Nat} (h : RHall S nr) (hj : j < nr) (ha : av ≤ 30) (hf : 1 ≤ fv ∧ fv ≤ 5) : ¬ 1000000000 ≤ LF S nr av fv j := by
  have h1 := lim h hj
  have h2 := WN_le (av := av) (fv := fv) h (by have := h.1; omega : j < 8) ha hf
  unfold LF
  rw [fa_le, pk_sub_toInt (by omega) (by omega), show (1000000000 : Int32).toInt = 1000000000 by decide]
  omega
theorem t_margin {n : Nat} (hn : 10 ≤ n) {S : ux_S} {nr j av fv : Nat} (h : RHall S nr) (hj : j < nr) (ha : S.1 1 6 = nI av) (hf : S.1 1 7 = nI fv) (hfb : 1 ≤ fv ∧ fv ≤ 5) : f_X2_margin n S (nI j) = some (LF S nr av fv j, S) := by
  have h8 : j < 8 := by have := h.1; omega
  unfold f_X2_margin LF
  rw [ux_ibn h8 (by omega), gdt, ha, hf, t_warm hn h h8 hfb, ux_bi_s, nI_clamp (by omega), ← (lim h hj).1]
/-! hot -/
def hotB (S : ux_S) (nr av fv j : Nat) : Bool := decide (tn (S.1 10 j) < WN S nr j av fv)
theorem t_countHot {n : Nat} (hn : 10 ≤ n) {S : ux_S} {nr av fv : Nat} (h : RHall S nr) (ha : S.1 1 6 = nI av) (ha2 : av ≤ 30) (hf : S.1 1 7 = nI fv) (hfb : 1 ≤ fv ∧ fv ≤ 5) : f_X2_countHot n S = some (nI (fb_ct (hotB S nr av fv) nr), S) := by
  have h8 := h.1
  unfold f_X2_countHot
  refine ux_lpi2 (b := b_X2_countHot_4 n) nr (fun m x T => x = nI (fb_ct (hotB S nr av fv) m) ∧ T = S) (fun o => o = some (nI (fb_ct (hotB S nr av fv) nr), S)) ?_ ?_ n 0 0 S (by omega) (by omega) ⟨rfl, rfl⟩
  · intro m x T hm hI k hk
    obtain ⟨rfl, rfl⟩ := hI
    unfold b_X2_countHot_4
    rw [h.2.1, if_neg (nI_ge hm (by omega)), t_margin hn h hm ha hf hfb, ux_bi_s]
    by_cases q : WN T nr m av fv ≤ tn (T.1 10 m)
    · rw [if_pos ((LF_neg h hm ha2 hfb).mpr q), nI_1]
      refine hk _ _ ⟨?_, rfl⟩
      rw [fb_ct_succ]
      have q9 : ¬ tn (T.1 10 m) < WN T nr m av fv := by omega
      simp [hotB, q9]
    · rw [if_neg (fun q2 => q ((LF_neg h hm ha2 hfb).mp q2)), nI_1, nI_1]
      refine hk _ _ ⟨?_, rfl⟩
      rw [fb_ct_succ]
      have : tn (T.1 10 m) < WN T nr m av fv := by omega
      simp [hotB, this]
  · intro x T hI k
    obtain ⟨rfl, rfl⟩ := hI
    unfold b_X2_countHot_4
    rw [h.2.1, if_pos (nI_le (Nat.le_refl _) (by omega))]
theorem t_hots {n : Nat} (hn : 10 ≤ n) {S : ux_S} {nr av fv : Nat} (h : RHall S nr) (hc : cl0 S) (ha2 : av ≤ 30) (hfb : 1 ≤ fv ∧ fv ≤ 5) : f_X8_hots n S (nI av) (nI fv) = some (nI (fb_ct (hotB S nr av fv) nr), S) := by
  have h8 := h.1
  unfold f_X8_hots
  refine ux_lpi2 (b := b_X8_hots_5 n (nI av) (nI fv)) nr (fun m x T => x = nI (fb_ct (hotB S nr av fv) m) ∧ T = S) (fun o => o = some (nI (fb_ct (hotB S nr av fv) nr), S)) ?_ ?_ n 0 0 S (by omega) (by omega) ⟨rfl, rfl⟩
  · intro m x T hm hI k hk
    obtain ⟨rfl, rfl⟩ := hI
    unfold b_X8_hots_5
    have h2 := WN_le (av := av) (fv := fv) h (by omega : m < 8) ha2 hfb
    have h3 := lim h hm
    rw [h.2.2.1, if_neg (nI_ge hm (by omega)), t_comes hn h hc (by omega : m < 8) hfb, ux_bi_s, ux_ibn (by omega : m < 8) (by omega), gdt, nI_clamp (by omega), h3.2.2.2]
    by_cases q : WN T nr m av fv ≤ tn (T.1 10 m)
    · rw [if_pos (nI_le q (by omega)), nI_1, Int32.add_zero]
      refine hk _ _ ⟨?_, rfl⟩
      rw [fb_ct_succ]
      have q9 : ¬ tn (T.1 10 m) < WN T nr m av fv := by omega
      simp [hotB, q9]
    · rw [if_neg (nI_ge (by omega) (by omega)), nI_1, nI_1]
      refine hk _ _ ⟨?_, rfl⟩
      rw [fb_ct_succ]
      have : tn (T.1 10 m) < WN T nr m av fv := by omega
      simp [hotB, this]
  · intro x T hI k
    obtain ⟨rfl, rfl⟩ := hI
    unfold b_X8_hots_5
    rw [h.2.2.1, if_pos (nI_le (Nat.le_refl _) (by omega))]
/-- the first for which p holds, from m on, t of them -/
def fst4 (p : Nat → Bool) : Nat → Nat → Int32
  | _, 0 => -4
  | m, t + 1 => if p m then nI m else fst4 p (m + 1) t
theorem t_firstHot {n : Nat} (hn : 10 ≤ n) {S : ux_S} {nr av fv : Nat} (h : RHall S nr) (ha2 : av ≤ 30) (hfb : 1 ≤ fv ∧ fv ≤ 5) : f_X2_firstHot n S (nI av) (nI fv) = some (fst4 (hotB S nr av fv) 0 nr, S) := by
  have h8 := h.1
  unfold f_X2_firstHot
  have key : ∀ t m, m ≤ nr → nr < m + t → ux_lp1 (b_X2_firstHot_2 n (nI av) (nI fv)) t (nI m) S = some (fst4 (hotB S nr av fv) m (nr - m), S) := by
    intro t
    induction t with
    | zero => intro m h1 h2; omega
    | succ t ih =>
      intro m h1 h2
      show b_X2_firstHot_2 n (nI av) (nI fv) (ux_lp1 (b_X2_firstHot_2 n (nI av) (nI fv)) t) (nI m) S = _
      generalize ux_lp1 (b_X2_firstHot_2 n (nI av) (nI fv)) t = K at ih ⊢
      unfold b_X2_firstHot_2
      by_cases hm : m < nr
      · have h3 := lim h hm
        have h4 := WN_le (av := av) (fv := fv) h (by omega : m < 8) ha2 hfb
        rw [h.2.1, if_neg (nI_ge hm (by omega)), t_warm hn h (by omega : m < 8) hfb, ux_bi_s, ux_ibn (by omega : m < 8) (by omega), gdt, nI_clamp (by omega), h3.1, show nr - m = (nr - (m + 1)) + 1 by omega]
        unfold fst4
        by_cases q : WN S nr m av fv ≤ tn (S.1 10 m)
        · rw [if_pos (nI_le q (by omega)), nI_1, ih (m + 1) (by omega) (by omega), if_neg (by simp [hotB]; omega)]
        · rw [if_neg (nI_ge (by omega) (by omega)), if_pos (by simp [hotB]; omega)]
      · have : m = nr := by omega
        subst this
        rw [h.2.1, if_pos (nI_le (Nat.le_refl _) (by omega)), Nat.sub_self]
        rfl
  exact key n 0 (by omega) (by omega)
