/-! hot 1 and 2 -/
theorem t_hot1 {n : Nat} (hn : 10 ≤ n) {S : ux_S} {nr av fv : Nat} (h : RHall S nr) (hc : cl0 S) (ha : S.1 8 6 = nI av) (ha2 : av ≤ 30) (hf : S.1 8 7 = nI fv) (hfb : 1 ≤ fv ∧ fv ≤ 5) : ∀ t m, m ≤ nr → nr < m + t → ux_lp2 (b_X8_hot_40 n 1) t (-4) (nI m) S = some (fst4 (hotB S nr av fv) m (nr - m), S) := by
  have h8 := h.1
  intro t
  induction t with
  | zero => intro m h1 h2; omega
  | succ t ih =>
    intro m h1 h2
    show b_X8_hot_40 n 1 (ux_lp2 (b_X8_hot_40 n 1) t) (-4) (nI m) S = _
    generalize ux_lp2 (b_X8_hot_40 n 1) t = K at ih ⊢
    unfold b_X8_hot_40 b_X8_hot_82
    by_cases hm : m < nr
    · have h3 := lim h hm
      rw [h.2.2.1, if_neg (nI_ge hm (by omega)), ux_ibn (by omega : m < 8) (by omega), gdt, ha, hf, t_comes hn h hc (by omega : m < 8) hfb, ux_bi_s, if_pos rfl, nI_clamp (by omega), h3.2.2.2, show nr - m = (nr - (m + 1)) + 1 by omega]
      unfold fst4
      have hL := LF_neg (j := m) h hm ha2 hfb
      unfold LF at hL
      by_cases q : WN S nr m av fv ≤ tn (S.1 10 m)
      · rw [if_pos (hL.mpr q), if_neg (by decide), nI_1, ih (m + 1) (by omega) (by omega), if_neg (by simp [hotB]; omega)]
      · rw [if_neg (fun q2 => q (hL.mp q2)), if_pos (by simp [hotB]; omega)]
    · have : m = nr := by omega
      subst this
      rw [h.2.2.1, if_pos (nI_le (Nat.le_refl _) (by omega)), Nat.sub_self]
      rfl
/-- the place of the least of v 0 .. v m, the first of several -/
def amin (v : Nat → Int32) : Nat → Nat
  | 0 => 0
  | m + 1 => if v (amin v m) ≤ v (m + 1) then amin v m else m + 1
theorem amin_le (v : Nat → Int32) : ∀ m, amin v m ≤ m
  | 0 => Nat.le_refl 0
  | m + 1 => by
    unfold amin
    have := amin_le v m
    by_cases q : v (amin v m) ≤ v (m + 1)
    · rw [if_pos q]; omega
    · rw [if_neg q]; omega
theorem t_nearest {n : Nat} (hn : 10 ≤ n) {S : ux_S} {nr av fv : Nat} (h : RHall S nr) (ha : S.1 1 6 = nI av) (ha2 : av ≤ 30) (hf : S.1 1 7 = nI fv) (hfb : 1 ≤ fv ∧ fv ≤ 5) : f_X2_nearestToLimit n S = some (if nr = 0 then -4 else nI (amin (LF S nr av fv) (nr - 1)), S) := by
  have h8 := h.1
  unfold f_X2_nearestToLimit
  refine ux_lpi3 (b := b_X2_nearestToLimit_8 n) nr (fun m x y T => T = S ∧ ((m = 0 ∧ x = -4 ∧ y = 1000000000) ∨ (0 < m ∧ x = nI (amin (LF S nr av fv) (m - 1)) ∧ y = LF S nr av fv (amin (LF S nr av fv) (m - 1))))) (fun o => o = some (if nr = 0 then -4 else nI (amin (LF S nr av fv) (nr - 1)), S)) ?_ ?_ n 0 (-4) 1000000000 S (by omega) (by omega) ⟨rfl, Or.inl ⟨rfl, rfl, rfl⟩⟩
  · intro m x y T hm hI k hk
    obtain ⟨rfl, hI⟩ := hI
    unfold b_X2_nearestToLimit_8
    rw [h.2.1, if_neg (nI_ge hm (by omega)), t_margin hn h hm ha hf hfb, ux_bi_s]
    rcases hI with ⟨rfl, rfl, rfl⟩ | ⟨h0, rfl, rfl⟩
    · rw [if_neg (LF_lt h hm ha2 hfb), nI_1]
      exact hk _ _ _ ⟨rfl, Or.inr ⟨by omega, rfl, rfl⟩⟩
    · obtain ⟨q, rfl⟩ : ∃ q, m = q + 1 := ⟨m - 1, by omega⟩
      simp only [Nat.add_sub_cancel] at *
      by_cases e : LF T nr av fv (amin (LF T nr av fv) q) ≤ LF T nr av fv (q + 1)
      · rw [if_pos e, nI_1]
        refine hk _ _ _ ⟨rfl, Or.inr ⟨by omega, ?_, ?_⟩⟩ <;> (conv => rhs; unfold amin) <;> rw [if_pos e]
      · rw [if_neg e, nI_1]
        refine hk _ _ _ ⟨rfl, Or.inr ⟨by omega, ?_, ?_⟩⟩ <;> (conv => rhs; unfold amin) <;> rw [if_neg e]
  · intro x y T hI k
    obtain ⟨rfl, hI⟩ := hI
    unfold b_X2_nearestToLimit_8
    rw [h.2.1, if_pos (nI_le (Nat.le_refl _) (by omega))]
    rcases hI with ⟨h0, rfl, rfl⟩ | ⟨h0, rfl, rfl⟩
    · rw [if_pos h0]
    · rw [if_neg (by omega)]
theorem t_hot2 {n : Nat} (hn : 10 ≤ n) {S : ux_S} {nr av fv : Nat} (h : RHall S nr) (hc : cl0 S) (ha : S.1 8 6 = nI av) (hf : S.1 8 7 = nI fv) (hfb : 1 ≤ fv ∧ fv ≤ 5) : ux_lp2 (b_X8_hot_40 n 2) n (-4) 0 S = some (if nr = 0 then -4 else nI (amin (LF S nr av fv) (nr - 1)), S) := by
  have h8 := h.1
  refine ux_lpi2 (b := b_X8_hot_40 n 2) nr (fun m x T => T = S ∧ ((m = 0 ∧ x = -4) ∨ (0 < m ∧ x = nI (amin (LF S nr av fv) (m - 1))))) (fun o => o = some (if nr = 0 then -4 else nI (amin (LF S nr av fv) (nr - 1)), S)) ?_ ?_ n 0 (-4) S (by omega) (by omega) ⟨rfl, Or.inl ⟨rfl, rfl⟩⟩
  · intro m x T hm hI k hk
    obtain ⟨rfl, hI⟩ := hI
    have h3 := lim h hm
    unfold b_X8_hot_40 b_X8_hot_82 b_X8_hot_118
    rw [h.2.2.1, if_neg (nI_ge hm (by omega)), ux_ibn (by omega : m < 8) (by omega), gdt, ha, hf, t_comes hn h hc (by omega : m < 8) hfb, ux_bi_s, if_neg (by decide), if_pos rfl, nI_clamp (by omega), h3.2.2.2]
    rcases hI with ⟨rfl, rfl⟩ | ⟨h0, rfl⟩
    · rw [if_pos rfl, nI_1]
      exact hk _ _ ⟨rfl, Or.inr ⟨by omega, rfl⟩⟩
    · obtain ⟨q, rfl⟩ : ∃ q, m = q + 1 := ⟨m - 1, by omega⟩
      simp only [Nat.add_sub_cancel] at *
      have hle := amin_le (LF T nr av fv) q
      have h4 := lim h (by omega : amin (LF T nr av fv) q < nr)
      rw [if_neg (nI_nm4 (by omega)), ux_ibn (by omega : amin (LF T nr av fv) q < 8) (by omega), gdt, ha, hf, t_comes hn h hc (by omega : amin (LF T nr av fv) q < 8) hfb, ux_bi_s, nI_clamp (by omega), h4.2.2.2]
      by_cases e : LF T nr av fv (amin (LF T nr av fv) q) ≤ LF T nr av fv (q + 1)
      · rw [if_pos (by unfold LF at e ⊢; exact e), nI_1]
        refine hk _ _ ⟨rfl, Or.inr ⟨by omega, ?_⟩⟩
        conv => rhs; unfold amin
        rw [if_pos e]
      · rw [if_neg (by unfold LF at e ⊢; exact e), nI_1]
        refine hk _ _ ⟨rfl, Or.inr ⟨by omega, ?_⟩⟩
        conv => rhs; unfold amin
        rw [if_neg e]
  · intro x T hI k
    obtain ⟨rfl, hI⟩ := hI
    unfold b_X8_hot_40
    rw [h.2.2.1, if_pos (nI_le (Nat.le_refl _) (by omega))]
    rcases hI with ⟨h0, rfl⟩ | ⟨h0, rfl⟩
    · rw [if_pos h0]
    · rw [if_neg (by omega)]
theorem LF_cong {S Z : ux_S} {nr av fv : Nat} (h : ag PHall S Z) {j : Nat} (hj : j < 8) : LF Z nr av fv j = LF S nr av fv j := by
  unfold LF; rw [WN_cong hj h, h 10 j (by unfold PHall; omega)]
theorem hotB_cong {S Z : ux_S} {nr av fv : Nat} (h : ag PHall S Z) {j : Nat} (hj : j < 8) : hotB Z nr av fv j = hotB S nr av fv j := by
  unfold hotB; rw [WN_cong hj h, h 10 j (by unfold PHall; omega)]
theorem fst4_cong {p q : Nat → Bool} : ∀ t m, (∀ i, m ≤ i → i < m + t → p i = q i) → fst4 p m t = fst4 q m t
  | 0, m, _ => rfl
  | t + 1, m, h => by
    unfold fst4
    rw [h m (by omega) (by omega), fst4_cong t (m + 1) (fun i h1 h2 => h i (by omega) (by omega))]
theorem amin_cong {v w : Nat → Int32} : ∀ m, (∀ i, i ≤ m → v i = w i) → amin v m = amin w m
  | 0, _ => rfl
  | m + 1, h => by
    unfold amin
    rw [amin_cong m (fun i hi => h i (by omega)), h _ (by have := amin_le w m; omega), h (m + 1) (by omega)]
theorem pr_hot (n : Nat) (hn : 10 ≤ n) (p0 : Int32) : alike (fun S => f_X7_hot n S p0) (fun S => f_X8_hot n S p0) := by
  intro S hR
  obtain ⟨nr, nm, nf, nc, nt, h1, h2, h3, h4, h5, h6, h7⟩ := id hR
  obtain ⟨av, fv, a1, a2, a3, a4, a5, a6⟩ := airfan h1
  obtain ⟨Z, z1, z2, z3, z4⟩ := t_clear hn S
  have hsm := cl_sm z3 z4
  have hag := smHall hsm
  have hZ := h1.cong hag
  have b5 : Z.1 8 6 = nI av := by rw [z4 8 6 (by omega)]; exact a5
  have b6 : Z.1 8 7 = nI fv := by rw [z4 8 7 (by omega)]; exact a6
  have h8 := h1.1
  by_cases q0 : p0 = 0
  · subst q0
    refine ⟨nI (fb_ct (hotB S nr av fv) nr), S, Z, ?_, ?_, hR.sm hsm⟩
    · simp only [f_X7_hot, if_true, t_countHot hn h1 a1 (by omega : av ≤ 30) a2 a4, ux_bi_s]
    · simp only [f_X8_hot, z1, ux_bv_s, ti_0_2, ux_bi_s, show ir 0 0 2 = 1 by decide, i10, if_false, if_true, b5, b6, t_hots hn hZ z2 (by omega : av ≤ 30) a4]
      rw [fb_ct_cong (fun k hk => hotB_cong hag (by omega))]
  · by_cases q1 : p0 = 1
    · subst q1
      refine ⟨fst4 (hotB S nr av fv) 0 nr, S, Z, ?_, ?_, hR.sm hsm⟩
      · simp only [f_X7_hot, i10, if_false, if_true, a1, a2, t_firstHot hn h1 (by omega : av ≤ 30) a4, ux_bi_s]
      · have := t_hot1 hn hZ z2 b5 (by omega : av ≤ 30) b6 a4 n 0 (by omega) (by omega)
        rw [Nat.sub_zero, fst4_cong nr 0 (fun i _ hi => hotB_cong hag (by omega))] at this
        simp only [f_X8_hot, z1, ux_bv_s, ti_0_2, ux_bi_s, show ir 1 0 2 = 1 by decide, i10, if_false]
        exact this
    · by_cases q2 : p0 = 2
      · subst q2
        refine ⟨if nr = 0 then -4 else nI (amin (LF S nr av fv) (nr - 1)), S, Z, ?_, ?_, hR.sm hsm⟩
        · simp only [f_X7_hot, q0, q1, if_false, if_true, t_nearest hn h1 a1 (by omega : av ≤ 30) a2 a4, ux_bi_s]
        · have := t_hot2 hn hZ z2 b5 b6 a4
          by_cases hz : nr = 0
          · rw [if_pos hz] at this ⊢
            simp only [f_X8_hot, z1, ux_bv_s, ti_0_2, ux_bi_s, show ir 2 0 2 = 1 by decide, i10, q0, if_false]
            exact this
          · rw [if_neg hz, amin_cong (nr - 1) (fun i hi => LF_cong hag (by omega))] at this
            rw [if_neg hz]
            simp only [f_X8_hot, z1, ux_bv_s, ti_0_2, ux_bi_s, show ir 2 0 2 = 1 by decide, i10, q0, if_false]
            exact this
      · have hir : ir p0 0 2 = 0 := by
          rcases ir_cases p0 0 2 with ⟨e, -⟩ | ⟨e, h⟩
          · exact e
          · obtain ⟨k, k1, k2, rfl⟩ := rg_nI (ir_rg h (by decide) (by decide) : rg 0 2 p0) (by decide)
            have : k = 0 ∨ k = 1 ∨ k = 2 := by omega
            rcases this with rfl | rfl | rfl
            · exact absurd rfl q0
            · exact absurd rfl q1
            · exact absurd rfl q2
        refine ⟨-1, S, Z, ?_, ?_, hR.sm hsm⟩
        · simp only [f_X7_hot, q0, q1, q2, if_false]
        · simp only [f_X8_hot, z1, ux_bv_s, ti_0_2, ux_bi_s, hir, i00, if_true]
/-! minutes -/
theorem pr_minutes (n : Nat) (hn : 10 ≤ n) (p0 : Int32) : alike (fun S => f_X7_minutes n S p0) (fun S => f_X8_minutes n S p0) := by
  intro S hR
  obtain ⟨nr, nm, nf, nc, nt, h1, h2, h3, h4, h5, h6, h7⟩ := id hR
  obtain ⟨av, fv, a1, a2, a3, a4, a5, a6⟩ := airfan h1
  rcases hs_cases p0 (n := nr) (by have := h1.1; omega) with e | ⟨e, j, hj, rfl⟩
  · refine ⟨-1, S, S, ?_, ?_, hR⟩
    · simp only [f_X7_minutes, t_has2 h1.2.1, ux_bi_s, e, i00, if_true]
    · simp only [f_X8_minutes, t_isRack (by have := h1.1; omega) h1.2.2.1, ux_bi_s, e, i00, if_true]
  · obtain ⟨Z, z1, z2, z3, z4⟩ := t_clear hn S
    have hsm := cl_sm z3 z4
    have hag := smHall hsm
    have hZ := h1.cong hag
    have b5 : Z.1 8 6 = nI av := by rw [z4 8 6 (by omega)]; exact a5
    have b6 : Z.1 8 7 = nI fv := by rw [z4 8 7 (by omega)]; exact a6
    have h8 : j < 8 := by have := h1.1; omega
    have hc := nI_clamp (n := j) (by omega)
    have hb : ux_ib (nI j) 8 = true := ux_ibn h8 (by omega)
    obtain ⟨g0, g1, g2, g3, g4, g5, g6⟩ := id h1
    obtain ⟨Ld, -, l2, l3⟩ := rg_nI (g3 j hj).1.2 (by decide)
    obtain ⟨Ms, m1, m2, m3⟩ := rg_nI (g3 j hj).2.2.1.2 (by decide)
    have hrise : nI Ld * 1000 = nI (Ld * 1000) := by rw [show (1000 : Int32) = nI 1000 from rfl, pk_mul]
    have hz54 : Z.1 54 j = nI Ld := by rw [z4 54 j (by omega), (g3 j hj).1.1, l3]
    have hz56 : Z.1 56 j = nI Ms := by rw [z4 56 j (by omega), (g3 j hj).2.2.1.1, m3]
    have hz55 : Z.1 55 j = nI (tn (S.1 10 j)) := by rw [z4 55 j (by omega)]; exact (lim h1 hj).2.2.2
    have hdiv : nI (Ld * 1000) / nI Ms = nI (Ld * 1000 / Ms) := pk_div (by omega) (by omega) (by omega)
    have hnz : ux_nz (nI Ms) = true := ux_nzn (by omega) (by omega)
    have hr2 : Ld * 1000 / Ms ≤ Ld * 1000 := Nat.div_le_self _ _
    have hdd := t_divDown S (by omega : Ld * 1000 < 2 ^ 31) (by omega : 1 ≤ Ms ∧ Ms < 2 ^ 31)
    generalize Ld * 1000 / Ms = rs at hdiv hr2 hdd
    have hlf : nI (tn (S.1 10 j)) - nI (WN Z nr j av fv) = LF S nr av fv j := by rw [WN_cong h8 hag]; rfl
    have hw := lim h1 hj
    by_cases hot : 0 ≤ LF S nr av fv j
    · have hle := (LF_neg h1 hj (by omega : av ≤ 30) a4).mp hot
      have hL : LF S nr av fv j = nI (tn (S.1 10 j) - WN S nr j av fv) := by unfold LF; rw [pk_sub hle]
      have hot2 : 0 ≤ nI (tn (S.1 10 j) - WN S nr j av fv) := by rw [← hL]; exact hot
      by_cases hr0 : rs = 0
      · refine ⟨-4, S, Z, ?_, ?_, hR.sm hsm⟩
        · simp only [f_X7_minutes, t_has2 g1, ux_bi_s, e, i10, if_false, t_margin hn h1 hj a1 a2 a4, hot, if_true, hb, gdt, hc, l3, m3, hrise, hdd, hr0]
          rfl
        · simp only [f_X8_minutes, t_isRack (by omega) g2, ux_bi_s, ux_bv_s, e, i10, if_false, z1, hb, gdt, hc, b5, b6, t_comes hn hZ z2 h8 a4, hz54, hz55, hz56, hrise, hnz, hdiv, hlf, hot, if_true, hr0]
          rfl
      · have hrn : ¬ nI rs = 0 := nI_ne0 (by omega) (by omega)
        refine ⟨nI ((tn (S.1 10 j) - WN S nr j av fv) / rs) + 1, S, Z, ?_, ?_, hR.sm hsm⟩
        · simp only [f_X7_minutes, t_has2 g1, ux_bi_s, e, i10, if_false, t_margin hn h1 hj a1 a2 a4, hL, hot2, if_true, hb, gdt, hc, l3, m3, hrise, hdd, hrn, t_divDown S (by omega : tn (S.1 10 j) - WN S nr j av fv < 2 ^ 31) (by omega : 1 ≤ rs ∧ rs < 2 ^ 31)]
        · have hnz2 : ux_nz (nI rs) = true := ux_nzn (by omega) (by omega)
          have hd2 : nI (tn (S.1 10 j) - WN S nr j av fv) / nI rs = nI ((tn (S.1 10 j) - WN S nr j av fv) / rs) := pk_div (by omega) (by omega) (by omega)
          simp only [f_X8_minutes, t_isRack (by omega) g2, ux_bi_s, ux_bv_s, e, i10, if_false, z1, hb, gdt, hc, b5, b6, t_comes hn hZ z2 h8 a4, hz54, hz55, hz56, hrise, hnz, hdiv, hlf, hL, hot2, if_true, hrn, hnz2, hd2]
    · refine ⟨0, S, Z, ?_, ?_, hR.sm hsm⟩
      · simp only [f_X7_minutes, t_has2 g1, ux_bi_s, e, i10, if_false, t_margin hn h1 hj a1 a2 a4, hot]
      · simp only [f_X8_minutes, t_isRack (by omega) g2, ux_bi_s, ux_bv_s, e, i10, if_false, z1, hb, gdt, hc, b5, b6, t_comes hn hZ z2 h8 a4, hz54, hz55, hz56, hrise, hnz, hdiv, hlf, hot]
