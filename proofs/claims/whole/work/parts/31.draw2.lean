theorem rg_cell {x : Int64} (h : ¬ (x < 0 ∨ 200 < x)) : rg 0 200 x.toInt32 := by
  have h1 : ¬ x < 0 := fun q => h (Or.inl q)
  have h2 : ¬ 200 < x := fun q => h (Or.inr q)
  rw [fa_lt64, show (0 : Int64).toInt = 0 by decide] at h1
  rw [fa_lt64, show (200 : Int64).toInt = 200 by decide] at h2
  have : x.toInt32.toInt = x.toInt := by
    rw [Int64.toInt_toInt32]
    exact fb_bmod (by omega) (by omega)
  unfold rg
  rw [this]
  omega
theorem pr_draw (n : Nat) (hn : 70 ≤ n) (p0 p1 p2 : Int32) : alike (fun S => f_X7_draw n S p0 p1 p2) (fun S => f_X8_draw n S p0 p1 p2) := by
  intro S hR
  obtain ⟨nr, nm, nf, nc, nt, h1, h2, h3, h4, h5, h6, h7⟩ := id hR
  obtain ⟨g0, g1, g2, g3, g4, g5, g6⟩ := id h1
  rcases hs_cases p0 (n := 4) (by omega) with e | ⟨e, k, hk, rfl⟩
  · refine ⟨-1, S, S, ?_, ?_, hR⟩
    · simp only [f_X7_draw, t_has6, ux_bi_s, e, i00, if_true]
    · simp only [f_X8_draw, ti_03, ux_bi_s, e, i00, if_true]
  · rcases ir_cases p1 0 2 with ⟨e1, -⟩ | ⟨e1, h8⟩
    · refine ⟨-1, S, S, ?_, ?_, hR⟩
      · simp only [f_X7_draw, t_has6, t_isLane, ux_bi_s, e, e1, i10, if_false, i00, if_true]
      · simp only [f_X8_draw, ti_03, ti_0_2, ux_bi_s, e, e1, i10, if_false, i00, if_true]
    · have hc := nI_clamp (n := k) (by omega)
      have hb : ux_ib (nI k) 4 = true := ux_ibn (by omega) (by omega)
      have hp1 : ¬ p1 = -4 := by
        intro q; subst q; exact absurd h8.1 (by decide)
      rcases (h4 k hk).1 with ⟨s1, s2⟩ | ⟨sz, z0, z1, z2, z3, z4⟩
      · refine ⟨-11, S, S, ?_, ?_, hR⟩
        · simp only [f_X7_draw, t_has6, t_isLane, t_noth hk, ux_bi_s, e, e1, i10, if_false, s1, if_true]
        · have : ¬ (-4 : Int32) = p1 := fun q => hp1 q.symm
          simp only [f_X8_draw, ti_03, ti_0_2, ux_bi_s, e, e1, i10, if_false, hb, gdt, hc, s2, this, if_true]
      · have hm1 : ¬ nI sz = -1 := nm1 (by omega)
        have hlane : ¬ S.1 40 k = -4 := by
          intro q
          have := z4.1
          rw [q] at this
          exact absurd this (by decide)
        by_cases hl : S.1 40 k = p1
        · have hN : nr * nr ≤ 64 := Nat.le_trans (Nat.mul_le_mul g0 g0) (by omega)
          have hNe : nI nr * nI nr = nI (nr * nr) := pk_mul nr nr
          have c1 := t_refusal (n := n) (S := S) hk z0 z1 hN p2 n 0 (by omega) (by omega) (Or.inl rfl)
          have c2 : ∀ A : ux_S, A.2 = S.2 → A.1 64 k = nI sz → A.1 8 0 = nI nr → _ := fun A a1 a2 a3 => t_check8 (n := n) (S := A) (k := k) (sz := sz) hk z0 a2 a3 rfl hN p1 p2 (fun i hi => by rw [a1]; exact (h4 k hk).2 i hi) n 0 (by omega) (by omega) (Or.inl rfl)
          rw [Nat.sub_zero] at c1
          have m1 : ∀ A : ux_S, A.2 = S.2 → A.1 63 k = p1 → A.1 64 k = nI sz → A.1 8 0 = nI nr → f_X8_draw n A (nI k) p1 p2 = if dF (dg (S.2 (36 + k)) sz p2) 0 (nr * nr) = 0 then ux_lp1 (b_X8_draw_136 n (nI k) p1 p2) n 0 A else some (dF (dg (S.2 (36 + k)) sz p2) 0 (nr * nr), A) := by
            intro A a1 a2 a3 a4
            have := c2 A a1 a3 a4
            rw [Nat.sub_zero, a1] at this
            rw [← this]
            simp only [f_X8_draw, ti_03, ti_0_2, ux_bi_s, e, e1, i10, if_false, hb, gdt, hc, a2, if_true]
            rfl
          by_cases hd : dF (dg (S.2 (36 + k)) sz p2) 0 (nr * nr) = 0
          · have hall := dF_0 _ _ hd
            have hok : ∃ T, f_X2_takeShares n S (35 + 1 + k) 64 p2 = some T ∧ cp S (fun j i => (S.2 (36 + k) (p2.toNatClampNeg + nr * j + i)).toInt32) (fun a b => decide (a < nr) && decide (b < nr)) T ∧ ∃ B, ux_lp1 (b_X8_draw_136 n (nI k) p1 p2) n 0 T = some (nI nr, B) ∧ (B.2 = T.2 ∧ (∀ a b, a ≠ 58 → B.1 a b = T.1 a b) ∧ ∀ a b, a < 8 → b < 8 → B.1 58 (8 * a + b) = if (decide (a < nr) && decide (b < nr)) = true then (S.2 (36 + k) (p2.toNatClampNeg + nr * a + b)).toInt32 else T.1 58 (8 * a + b)) := by
              by_cases hz : nr = 0
              · subst hz
                refine ⟨S, ?_, ⟨rfl, fun _ _ _ => rfl, fun a b _ _ => by simp⟩, S, ?_, rfl, fun _ _ _ => rfl, fun a b _ _ => by simp⟩
                · unfold f_X2_takeShares
                  obtain ⟨t, rfl⟩ : ∃ t, n = t + 1 := ⟨n - 1, by omega⟩
                  show b_X2_takeShares_2 (t + 1) _ _ _ _ 0 S = _
                  unfold b_X2_takeShares_2
                  rw [g1, if_pos (by decide)]
                · obtain ⟨t, rfl⟩ : ∃ t, n = t + 1 := ⟨n - 1, by omega⟩
                  show b_X8_draw_136 (t + 1) _ _ _ _ 0 S = _
                  unfold b_X8_draw_136
                  rw [g2, if_pos (by decide)]
              · have hfn : ∃ fn, fn < sz ∧ p2 = nI fn := by
                  have h0 := hall 0 (by omega) (by have : 0 < nr * nr := Nat.mul_pos (by omega) (by omega); omega)
                  unfold dg at h0
                  rw [show nI 0 = (0 : Int32) from rfl, Int32.add_zero] at h0
                  rcases hs_cases p2 (n := sz) (by omega) with q | ⟨q, x, hx, ex⟩
                  · rw [if_pos q] at h0; exact absurd h0 (by decide)
                  · exact ⟨x, hx, ex⟩
                obtain ⟨fn, hfn, rfl⟩ := hfn
                have hcf := nI_clamp (n := fn) (by omega)
                have hin : ∀ c, c < nr * nr → fn + c < sz := by
                  intro c hc2
                  have h0 := hall c (by omega) (by omega)
                  unfold dg at h0
                  rw [nI_add] at h0
                  rcases hs_cases (nI (fn + c)) (n := sz) (by omega) with q | ⟨q, x, hx, ex⟩
                  · rw [if_pos q] at h0; exact absurd h0 (by decide)
                  · rw [nI_eq (by omega) (by omega)] at ex; omega
                obtain ⟨T, t1, t2⟩ := t_take (n := n) (by omega) hk g0 g1 z0 hin
                have hT8 : T.1 8 0 = nI nr := by rw [t2.2.1 8 0 (by omega)]; exact g2
                obtain ⟨B, b1, b2⟩ := t_take8 (n := n) (S := T) (by omega) p1 hk g0 hT8 z0 hin (fun i hi => by rw [t2.1]; exact (h4 k hk).2 i hi)
                rw [hcf]
                rw [t2.1] at b2
                exact ⟨T, t1, t2, B, b1, by rw [t2.1]; exact b2.1, b2.2.1, b2.2.2⟩
            obtain ⟨T, t1, t2, B, b1, b2⟩ := hok
            have hTo : ∀ a b, ¬ (14 ≤ a ∧ a ≤ 21) → T.1 a b = S.1 a b := t2.2.1
            refine ⟨nI nr, T, B, ?_, ?_, ?_⟩
            · simp only [f_X7_draw, t_has6, t_isLane, t_noth hk, ux_bi_s, ux_bv_s, e, e1, i10, if_false, z1, hm1, i00, if_true, hb, gdt, hc, hl, g1, hNe]
              show ux_bi (f_X6_refusal n S (nI k) p2 (nI (nr * nr))) _ = _
              rw [show f_X6_refusal n S (nI k) p2 (nI (nr * nr)) = some (dF (dg (S.2 (36 + k)) sz p2) 0 (nr * nr), S) from c1, ux_bi_s, hd, if_pos rfl, t1, ux_bv_s, hTo 1 5 (by omega), g1]
            · show f_X8_draw n T (nI k) p1 p2 = _
              rw [m1 T t2.1 (by rw [hTo 63 k (by omega), z3, hl]) (by rw [hTo 64 k (by omega), z2]) (by rw [hTo 8 0 (by omega), g2]), if_pos hd]
              exact b1
            · have hBo : ∀ a b, ¬ (14 ≤ a ∧ a ≤ 21) → a ≠ 58 → B.1 a b = S.1 a b := fun a b q1 q2 => by rw [b2.2.1 a b q2, hTo a b q1]
              have o : off PHall S B := ⟨fun i j q => hBo i j (by unfold PHall at q; omega) (by unfold PHall at q; omega), by rw [b2.1, t2.1]⟩
              refine offHall o ⟨g0, ?_, ?_, fun i hi => ?_, fun a b ha hb => ?_, ?_, ?_⟩ h2 h3 h4 (offHallF o h5) h6 h7
              · rw [hBo _ _ (by omega) (by omega)]; exact g1
              · rw [hBo _ _ (by omega) (by omega)]; exact g2
              · rw [hBo 54 i (by omega) (by omega), hBo 55 i (by omega) (by omega), hBo 56 i (by omega) (by omega), hBo 57 i (by omega) (by omega), hBo 9 i (by omega) (by omega), hBo 10 i (by omega) (by omega), hBo 11 i (by omega) (by omega), hBo 12 i (by omega) (by omega)]
                exact g3 i hi
              · rw [b2.2.2 a b ha hb, b2.2.1 (14 + a) b (by omega), t2.2.2 a b ha hb, hTo 58 _ (by omega)]
                by_cases q : (decide (a < nr) && decide (b < nr)) = true
                · rw [if_pos q, if_pos q]
                  refine ⟨rfl, ?_⟩
                  simp only [Bool.and_eq_true, decide_eq_true_eq] at q
                  have hlt : nr * a + b < nr * nr := by
                    have : nr * (a + 1) ≤ nr * nr := Nat.mul_le_mul_left _ (by omega)
                    rw [Nat.mul_succ] at this
                    omega
                  have h0 := hall (nr * a + b) (by omega) (by omega)
                  unfold dg at h0
                  rcases hs_cases (p2 + nI (nr * a + b)) (n := sz) (by omega) with q2 | ⟨q2, x, hx, ex⟩
                  · rw [if_pos q2] at h0; exact absurd h0 (by decide)
                  · rw [if_neg (by rw [q2]; decide)] at h0
                    have h00 := hall 0 (by omega) (by omega)
                    unfold dg at h00
                    rw [show nI 0 = (0 : Int32) from rfl, Int32.add_zero] at h00
                    rcases hs_cases p2 (n := sz) (by omega) with q3 | ⟨q3, y, hy, ey⟩
                    · rw [if_pos q3] at h00; exact absurd h00 (by decide)
                    · subst ey
                      rw [nI_add] at ex h0
                      rw [nI_clamp (by omega)] at h0 ⊢
                      show rg 0 200 (S.2 (36 + k) (y + nr * a + b)).toInt32
                      rw [show y + nr * a + b = y + (nr * a + b) by omega]
                      by_cases q4 : S.2 (36 + k) (y + (nr * a + b)) < 0 ∨ 200 < S.2 (36 + k) (y + (nr * a + b))
                      · rw [if_pos q4] at h0; exact absurd h0 (m20 (by omega))
                      · exact rg_cell q4
                · rw [if_neg q, if_neg q]
                  exact g4 a b ha hb
              · rw [hBo _ _ (by omega) (by omega), hBo _ _ (by omega) (by omega)]; exact g5
              · rw [hBo _ _ (by omega) (by omega), hBo _ _ (by omega) (by omega)]; exact g6
          · refine ⟨dF (dg (S.2 (36 + k)) sz p2) 0 (nr * nr), S, S, ?_, ?_, hR⟩
            · simp only [f_X7_draw, t_has6, t_isLane, t_noth hk, ux_bi_s, ux_bv_s, e, e1, i10, if_false, z1, hm1, i00, if_true, hb, gdt, hc, hl, g1, hNe]
              show ux_bi (f_X6_refusal n S (nI k) p2 (nI (nr * nr))) _ = _
              rw [show f_X6_refusal n S (nI k) p2 (nI (nr * nr)) = some (dF (dg (S.2 (36 + k)) sz p2) 0 (nr * nr), S) from c1, ux_bi_s, if_neg hd]
            · show f_X8_draw n S (nI k) p1 p2 = _
              rw [m1 S rfl (by rw [z3, hl]) z2 g2, if_neg hd]
        · refine ⟨-13, S, S, ?_, ?_, hR⟩
          · simp only [f_X7_draw, t_has6, t_isLane, t_noth hk, ux_bi_s, e, e1, i10, if_false, z1, hm1, i00, if_true, hb, gdt, hc, hl]
          · simp only [f_X8_draw, ti_03, ti_0_2, ux_bi_s, e, e1, i10, if_false, hb, gdt, hc, z3, hl, hlane]
